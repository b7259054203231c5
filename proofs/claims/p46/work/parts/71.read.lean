/-! readings of the class, by u -/
theorem rx_2 {d u : pU} (h : RX 1 d u) : d 2 0 = u 1 0 := h 1 0 (by unfold okS; omega)
theorem rx_6 {d u : pU} (h : RX 1 d u) : d 6 0 = u 5 0 := h 5 0 (by unfold okS; omega)
theorem rx_12 {d u : pU} (h : RX 1 d u) : d 12 0 = u 11 0 := h 11 0 (by unfold okS; omega)
theorem rx_1_3 {d u : pU} (h : RX 1 d u) : d 1 3 = u 0 3 := h 0 3 (by unfold okS; omega)
theorem rx_1_4 {d u : pU} (h : RX 1 d u) : d 1 4 = u 0 4 := h 0 4 (by unfold okS; omega)
theorem rx_1_5 {d u : pU} (h : RX 1 d u) : d 1 5 = u 0 5 := h 0 5 (by unfold okS; omega)
theorem rx_1_6 {d u : pU} (h : RX 1 d u) : d 1 6 = u 0 6 := h 0 6 (by unfold okS; omega)
theorem rx_3 {d u : pU} (h : RX 1 d u) {j : Nat} (hj : j < 6) : d 3 j = u 2 j := h 2 j (by unfold okS; omega)
theorem rx_4 {d u : pU} (h : RX 1 d u) {j : Nat} (hj : j < 6) : d 4 j = u 3 j := h 3 j (by unfold okS; omega)
theorem rx_5 {d u : pU} (h : RX 1 d u) {j : Nat} (hj : j < 6) : d 5 j = u 4 j := h 4 j (by unfold okS; omega)
theorem rx_7 {d u : pU} (h : RX 1 d u) {j : Nat} (hj : j < 8) : d 7 j = u 6 j := h 6 j (by unfold okS; omega)
theorem rx_8 {d u : pU} (h : RX 1 d u) {j : Nat} (hj : j < 8) : d 8 j = u 7 j := h 7 j (by unfold okS; omega)
theorem rx_9 {d u : pU} (h : RX 1 d u) {j : Nat} (hj : j < 8) : d 9 j = u 8 j := h 8 j (by unfold okS; omega)
theorem rx_10 {d u : pU} (h : RX 1 d u) {j : Nat} (hj : j < 8) : d 10 j = u 9 j := h 9 j (by unfold okS; omega)
theorem rx_11 {d u : pU} (h : RX 1 d u) {j : Nat} (hj : j < 8) : d 11 j = u 10 j := h 10 j (by unfold okS; omega)
theorem rx_13 {d u : pU} (h : RX 1 d u) {j : Nat} (hj : j < 6) : d 13 j = u 12 j := h 12 j (by unfold okS; omega)
theorem rx_14 {d u : pU} (h : RX 1 d u) {j : Nat} (hj : j < 6) : d 14 j = u 13 j := h 13 j (by unfold okS; omega)
theorem rx_15 {d u : pU} (h : RX 1 d u) {j : Nat} (hj : j < 6) : d 15 j = u 14 j := h 14 j (by unfold okS; omega)
theorem rx_16 {d u : pU} (h : RX 1 d u) {j : Nat} (hj : j < 6) : d 16 j = u 15 j := h 15 j (by unfold okS; omega)
theorem rx_17 {d u : pU} (h : RX 1 d u) {j : Nat} (hj : j < 6) : d 17 j = u 16 j := h 16 j (by unfold okS; omega)
/-! readings of the reference, by u -/
theorem in_0 : vp_in 0 97 := by unfold vp_in; decide +kernel
theorem ic_0 : Int32.toNatClampNeg 0 = 0 := by decide +kernel
theorem in_1 : vp_in 1 97 := by unfold vp_in; decide +kernel
theorem ic_1 : Int32.toNatClampNeg 1 = 1 := by decide +kernel
theorem in_2 : vp_in 2 97 := by unfold vp_in; decide +kernel
theorem ic_2 : Int32.toNatClampNeg 2 = 2 := by decide +kernel
theorem in_3 : vp_in 3 97 := by unfold vp_in; decide +kernel
theorem ic_3 : Int32.toNatClampNeg 3 = 3 := by decide +kernel
theorem in_4 : vp_in 4 97 := by unfold vp_in; decide +kernel
theorem ic_4 : Int32.toNatClampNeg 4 = 4 := by decide +kernel
theorem in_5 : vp_in 5 97 := by unfold vp_in; decide +kernel
theorem ic_5 : Int32.toNatClampNeg 5 = 5 := by decide +kernel
theorem in_6 : vp_in 6 97 := by unfold vp_in; decide +kernel
theorem ic_6 : Int32.toNatClampNeg 6 = 6 := by decide +kernel
theorem in_7 : vp_in 7 97 := by unfold vp_in; decide +kernel
theorem ic_7 : Int32.toNatClampNeg 7 = 7 := by decide +kernel
theorem in_8 : vp_in 8 97 := by unfold vp_in; decide +kernel
theorem ic_8 : Int32.toNatClampNeg 8 = 8 := by decide +kernel

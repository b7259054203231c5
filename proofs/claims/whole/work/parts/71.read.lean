/-! readings of the class, by u -/
theorem rx_2 {d u : pU} (h : RX 1 d u) : d 2 0 = u 1 0 := h 1 0 (by unfold okS; omega)
theorem rx_6 {d u : pU} (h : RX 1 d u) : d 6 0 = u 5 0 := h 5 0 (by unfold okS; omega)
theorem rx_12 {d u : pU} (h : RX 1 d u) : d 12 0 = u 11 0 := h 11 0 (by unfold okS; omega)
theorem rx_1_3 {d u : pU} (h : RX 1 d u) : d 1 3 = u 0 3 := h 0 3 (by unfold okS; omega)
theorem rx_1_4 {d u : pU} (h : RX 1 d u) : d 1 4 = u 0 4 := h 0 4 (by unfold okS; omega)
theorem rx_1_5 {d u : pU} (h : RX 1 d u) : d 1 5 = u 0 5 := h 0 5 (by unfold okS; omega)
theorem rx_1_6 {d u : pU} (h : RX 1 d u) : d 1 6 = u 0 6 := h 0 6 (by unfold okS; omega)
theorem rx_3 {d u : pU} (h : RX 1 d u) {j : Nat} (hj : j < 6) : d 3 j = u 2 j := h 2 j (by unfold okS; omega)
theorem rx_4 {d u : pU} (h : RX 1 d u) {j : Nat} (hj : j < 6) : d 4 j = u 3 j := h 3 j (by unfold okS; omega)
theorem rx_5 {d u : pU} (h : RX 1 d u) {j : Nat} (hj : j < 6) : d 5 j = u 4 j := h 4 j (by unfold okS; omega)
theorem rx_7 {d u : pU} (h : RX 1 d u) {j : Nat} (hj : j < 8) : d 7 j = u 6 j := h 6 j (by unfold okS; omega)
theorem rx_8 {d u : pU} (h : RX 1 d u) {j : Nat} (hj : j < 8) : d 8 j = u 7 j := h 7 j (by unfold okS; omega)
theorem rx_9 {d u : pU} (h : RX 1 d u) {j : Nat} (hj : j < 8) : d 9 j = u 8 j := h 8 j (by unfold okS; omega)
theorem rx_10 {d u : pU} (h : RX 1 d u) {j : Nat} (hj : j < 8) : d 10 j = u 9 j := h 9 j (by unfold okS; omega)
theorem rx_11 {d u : pU} (h : RX 1 d u) {j : Nat} (hj : j < 8) : d 11 j = u 10 j := h 10 j (by unfold okS; omega)
theorem rx_13 {d u : pU} (h : RX 1 d u) {j : Nat} (hj : j < 6) : d 13 j = u 12 j := h 12 j (by unfold okS; omega)
theorem rx_14 {d u : pU} (h : RX 1 d u) {j : Nat} (hj : j < 6) : d 14 j = u 13 j := h 13 j (by unfold okS; omega)
theorem rx_15 {d u : pU} (h : RX 1 d u) {j : Nat} (hj : j < 6) : d 15 j = u 14 j := h 14 j (by unfold okS; omega)
theorem rx_16 {d u : pU} (h : RX 1 d u) {j : Nat} (hj : j < 6) : d 16 j = u 15 j := h 15 j (by unfold okS; omega)
theorem rx_17 {d u : pU} (h : RX 1 d u) {j : Nat} (hj : j < 6) : d 17 j = u 16 j := h 16 j (by unfold okS; omega)
/-! readings of the reference, by u -/
theorem rm_0 {f : Nat → Int32} {u : pU} (h : RM f 0 u) : f 0 = u 1 0 := h 1 0 (by unfold okM okS; omega)
theorem rm_1 {f : Nat → Int32} {u : pU} (h : RM f 0 u) : f 1 = u 5 0 := h 5 0 (by unfold okM okS; omega)
theorem rm_2 {f : Nat → Int32} {u : pU} (h : RM f 0 u) : f 2 = u 11 0 := h 11 0 (by unfold okM okS; omega)
theorem rm_3 {f : Nat → Int32} {u : pU} (h : RM f 0 u) : f 3 = u 0 3 := h 0 3 (by unfold okM okS; omega)
theorem rm_4 {f : Nat → Int32} {u : pU} (h : RM f 0 u) : f 4 = u 0 7 := h 0 7 (by unfold okM okS; omega)
theorem rm_5 {f : Nat → Int32} {u : pU} (h : RM f 0 u) : f 5 = u 0 8 := h 0 8 (by unfold okM okS; omega)
theorem rm_6 {f : Nat → Int32} {u : pU} (h : RM f 0 u) : f 6 = u 0 4 := h 0 4 (by unfold okM okS; omega)
theorem rm_7 {f : Nat → Int32} {u : pU} (h : RM f 0 u) : f 7 = u 0 5 := h 0 5 (by unfold okM okS; omega)
theorem rm_8 {f : Nat → Int32} {u : pU} (h : RM f 0 u) : f 8 = u 0 6 := h 0 6 (by unfold okM okS; omega)
theorem rm_R0 {f : Nat → Int32} {u : pU} (h : RM f 0 u) {j : Nat} (hj : j < 6) : f (9 + 3 * j) = u 2 j := by
  have h1 := h 2 j (by unfold okM okS; omega)
  rw [show 0 + ixS 2 j = 9 + 3 * j by show 0 + (7 + 3 * j + 2) = _; omega] at h1
  exact h1
theorem im_R0 {j : Nat} (hj : j < 6) : okM 2 j ∧ 9 + 3 * j = ixS 2 j := ⟨by unfold okM okS; omega, by show _ = 7 + 3 * j + 2; omega⟩
theorem rm_R1 {f : Nat → Int32} {u : pU} (h : RM f 0 u) {j : Nat} (hj : j < 6) : f (10 + 3 * j) = u 3 j := by
  have h1 := h 3 j (by unfold okM okS; omega)
  rw [show 0 + ixS 3 j = 10 + 3 * j by show 0 + (7 + 3 * j + 3) = _; omega] at h1
  exact h1
theorem im_R1 {j : Nat} (hj : j < 6) : okM 3 j ∧ 10 + 3 * j = ixS 3 j := ⟨by unfold okM okS; omega, by show _ = 7 + 3 * j + 3; omega⟩
theorem rm_R2 {f : Nat → Int32} {u : pU} (h : RM f 0 u) {j : Nat} (hj : j < 6) : f (11 + 3 * j) = u 4 j := by
  have h1 := h 4 j (by unfold okM okS; omega)
  rw [show 0 + ixS 4 j = 11 + 3 * j by show 0 + (7 + 3 * j + 4) = _; omega] at h1
  exact h1
theorem im_R2 {j : Nat} (hj : j < 6) : okM 4 j ∧ 11 + 3 * j = ixS 4 j := ⟨by unfold okM okS; omega, by show _ = 7 + 3 * j + 4; omega⟩
theorem ie_R0 : ∀ {j : Nat}, j < 6 → Int32.toNatClampNeg (9 + 3 * nI j + 0) = 9 + 3 * j := by decide +kernel
theorem iv_R0 : ∀ {j : Nat}, j < 6 → vp_in (9 + 3 * nI j + 0) 97 := by unfold vp_in; decide +kernel
theorem ie_R1 : ∀ {j : Nat}, j < 6 → Int32.toNatClampNeg (9 + 3 * nI j + 1) = 10 + 3 * j := by decide +kernel
theorem iv_R1 : ∀ {j : Nat}, j < 6 → vp_in (9 + 3 * nI j + 1) 97 := by unfold vp_in; decide +kernel
theorem ie_R2 : ∀ {j : Nat}, j < 6 → Int32.toNatClampNeg (9 + 3 * nI j + 2) = 11 + 3 * j := by decide +kernel
theorem iv_R2 : ∀ {j : Nat}, j < 6 → vp_in (9 + 3 * nI j + 2) 97 := by unfold vp_in; decide +kernel
theorem rm_E0 {f : Nat → Int32} {u : pU} (h : RM f 0 u) {j : Nat} (hj : j < 8) : f (27 + 5 * j) = u 6 j := by
  have h1 := h 6 j (by unfold okM okS; omega)
  rw [show 0 + ixS 6 j = 27 + 5 * j by show 0 + (21 + 5 * j + 6) = _; omega] at h1
  exact h1
theorem im_E0 {j : Nat} (hj : j < 8) : okM 6 j ∧ 27 + 5 * j = ixS 6 j := ⟨by unfold okM okS; omega, by show _ = 21 + 5 * j + 6; omega⟩
theorem rm_E1 {f : Nat → Int32} {u : pU} (h : RM f 0 u) {j : Nat} (hj : j < 8) : f (28 + 5 * j) = u 7 j := by
  have h1 := h 7 j (by unfold okM okS; omega)
  rw [show 0 + ixS 7 j = 28 + 5 * j by show 0 + (21 + 5 * j + 7) = _; omega] at h1
  exact h1
theorem im_E1 {j : Nat} (hj : j < 8) : okM 7 j ∧ 28 + 5 * j = ixS 7 j := ⟨by unfold okM okS; omega, by show _ = 21 + 5 * j + 7; omega⟩
theorem rm_E2 {f : Nat → Int32} {u : pU} (h : RM f 0 u) {j : Nat} (hj : j < 8) : f (29 + 5 * j) = u 8 j := by
  have h1 := h 8 j (by unfold okM okS; omega)
  rw [show 0 + ixS 8 j = 29 + 5 * j by show 0 + (21 + 5 * j + 8) = _; omega] at h1
  exact h1
theorem im_E2 {j : Nat} (hj : j < 8) : okM 8 j ∧ 29 + 5 * j = ixS 8 j := ⟨by unfold okM okS; omega, by show _ = 21 + 5 * j + 8; omega⟩
theorem rm_E3 {f : Nat → Int32} {u : pU} (h : RM f 0 u) {j : Nat} (hj : j < 8) : f (30 + 5 * j) = u 9 j := by
  have h1 := h 9 j (by unfold okM okS; omega)
  rw [show 0 + ixS 9 j = 30 + 5 * j by show 0 + (21 + 5 * j + 9) = _; omega] at h1
  exact h1
theorem im_E3 {j : Nat} (hj : j < 8) : okM 9 j ∧ 30 + 5 * j = ixS 9 j := ⟨by unfold okM okS; omega, by show _ = 21 + 5 * j + 9; omega⟩
theorem rm_E4 {f : Nat → Int32} {u : pU} (h : RM f 0 u) {j : Nat} (hj : j < 8) : f (31 + 5 * j) = u 10 j := by
  have h1 := h 10 j (by unfold okM okS; omega)
  rw [show 0 + ixS 10 j = 31 + 5 * j by show 0 + (21 + 5 * j + 10) = _; omega] at h1
  exact h1
theorem im_E4 {j : Nat} (hj : j < 8) : okM 10 j ∧ 31 + 5 * j = ixS 10 j := ⟨by unfold okM okS; omega, by show _ = 21 + 5 * j + 10; omega⟩
theorem ie_E0 : ∀ {j : Nat}, j < 8 → Int32.toNatClampNeg (27 + 5 * nI j + 0) = 27 + 5 * j := by decide +kernel
theorem iv_E0 : ∀ {j : Nat}, j < 8 → vp_in (27 + 5 * nI j + 0) 97 := by unfold vp_in; decide +kernel
theorem ie_E1 : ∀ {j : Nat}, j < 8 → Int32.toNatClampNeg (27 + 5 * nI j + 1) = 28 + 5 * j := by decide +kernel
theorem iv_E1 : ∀ {j : Nat}, j < 8 → vp_in (27 + 5 * nI j + 1) 97 := by unfold vp_in; decide +kernel
theorem ie_E2 : ∀ {j : Nat}, j < 8 → Int32.toNatClampNeg (27 + 5 * nI j + 2) = 29 + 5 * j := by decide +kernel
theorem iv_E2 : ∀ {j : Nat}, j < 8 → vp_in (27 + 5 * nI j + 2) 97 := by unfold vp_in; decide +kernel
theorem ie_E3 : ∀ {j : Nat}, j < 8 → Int32.toNatClampNeg (27 + 5 * nI j + 3) = 30 + 5 * j := by decide +kernel
theorem iv_E3 : ∀ {j : Nat}, j < 8 → vp_in (27 + 5 * nI j + 3) 97 := by unfold vp_in; decide +kernel
theorem ie_E4 : ∀ {j : Nat}, j < 8 → Int32.toNatClampNeg (27 + 5 * nI j + 4) = 31 + 5 * j := by decide +kernel
theorem iv_E4 : ∀ {j : Nat}, j < 8 → vp_in (27 + 5 * nI j + 4) 97 := by unfold vp_in; decide +kernel
theorem rm_S0 {f : Nat → Int32} {u : pU} (h : RM f 0 u) {j : Nat} (hj : j < 6) : f (67 + 5 * j) = u 12 j := by
  have h1 := h 12 j (by unfold okM okS; omega)
  rw [show 0 + ixS 12 j = 67 + 5 * j by show 0 + (55 + 5 * j + 12) = _; omega] at h1
  exact h1
theorem im_S0 {j : Nat} (hj : j < 6) : okM 12 j ∧ 67 + 5 * j = ixS 12 j := ⟨by unfold okM okS; omega, by show _ = 55 + 5 * j + 12; omega⟩
theorem rm_S1 {f : Nat → Int32} {u : pU} (h : RM f 0 u) {j : Nat} (hj : j < 6) : f (68 + 5 * j) = u 13 j := by
  have h1 := h 13 j (by unfold okM okS; omega)
  rw [show 0 + ixS 13 j = 68 + 5 * j by show 0 + (55 + 5 * j + 13) = _; omega] at h1
  exact h1
theorem im_S1 {j : Nat} (hj : j < 6) : okM 13 j ∧ 68 + 5 * j = ixS 13 j := ⟨by unfold okM okS; omega, by show _ = 55 + 5 * j + 13; omega⟩
theorem rm_S2 {f : Nat → Int32} {u : pU} (h : RM f 0 u) {j : Nat} (hj : j < 6) : f (69 + 5 * j) = u 14 j := by
  have h1 := h 14 j (by unfold okM okS; omega)
  rw [show 0 + ixS 14 j = 69 + 5 * j by show 0 + (55 + 5 * j + 14) = _; omega] at h1
  exact h1
theorem im_S2 {j : Nat} (hj : j < 6) : okM 14 j ∧ 69 + 5 * j = ixS 14 j := ⟨by unfold okM okS; omega, by show _ = 55 + 5 * j + 14; omega⟩
theorem rm_S3 {f : Nat → Int32} {u : pU} (h : RM f 0 u) {j : Nat} (hj : j < 6) : f (70 + 5 * j) = u 15 j := by
  have h1 := h 15 j (by unfold okM okS; omega)
  rw [show 0 + ixS 15 j = 70 + 5 * j by show 0 + (55 + 5 * j + 15) = _; omega] at h1
  exact h1
theorem im_S3 {j : Nat} (hj : j < 6) : okM 15 j ∧ 70 + 5 * j = ixS 15 j := ⟨by unfold okM okS; omega, by show _ = 55 + 5 * j + 15; omega⟩
theorem rm_S4 {f : Nat → Int32} {u : pU} (h : RM f 0 u) {j : Nat} (hj : j < 6) : f (71 + 5 * j) = u 16 j := by
  have h1 := h 16 j (by unfold okM okS; omega)
  rw [show 0 + ixS 16 j = 71 + 5 * j by show 0 + (55 + 5 * j + 16) = _; omega] at h1
  exact h1
theorem im_S4 {j : Nat} (hj : j < 6) : okM 16 j ∧ 71 + 5 * j = ixS 16 j := ⟨by unfold okM okS; omega, by show _ = 55 + 5 * j + 16; omega⟩
theorem ie_S0 : ∀ {j : Nat}, j < 6 → Int32.toNatClampNeg (67 + 5 * nI j + 0) = 67 + 5 * j := by decide +kernel
theorem iv_S0 : ∀ {j : Nat}, j < 6 → vp_in (67 + 5 * nI j + 0) 97 := by unfold vp_in; decide +kernel
theorem ie_S1 : ∀ {j : Nat}, j < 6 → Int32.toNatClampNeg (67 + 5 * nI j + 1) = 68 + 5 * j := by decide +kernel
theorem iv_S1 : ∀ {j : Nat}, j < 6 → vp_in (67 + 5 * nI j + 1) 97 := by unfold vp_in; decide +kernel
theorem ie_S2 : ∀ {j : Nat}, j < 6 → Int32.toNatClampNeg (67 + 5 * nI j + 2) = 69 + 5 * j := by decide +kernel
theorem iv_S2 : ∀ {j : Nat}, j < 6 → vp_in (67 + 5 * nI j + 2) 97 := by unfold vp_in; decide +kernel
theorem ie_S3 : ∀ {j : Nat}, j < 6 → Int32.toNatClampNeg (67 + 5 * nI j + 3) = 70 + 5 * j := by decide +kernel
theorem iv_S3 : ∀ {j : Nat}, j < 6 → vp_in (67 + 5 * nI j + 3) 97 := by unfold vp_in; decide +kernel
theorem ie_S4 : ∀ {j : Nat}, j < 6 → Int32.toNatClampNeg (67 + 5 * nI j + 4) = 71 + 5 * j := by decide +kernel
theorem iv_S4 : ∀ {j : Nat}, j < 6 → vp_in (67 + 5 * nI j + 4) 97 := by unfold vp_in; decide +kernel
theorem in_0 : vp_in 0 97 := by unfold vp_in; decide +kernel
theorem ic_0 : Int32.toNatClampNeg 0 = 0 := by decide +kernel
theorem in_1 : vp_in 1 97 := by unfold vp_in; decide +kernel
theorem ic_1 : Int32.toNatClampNeg 1 = 1 := by decide +kernel
theorem in_2 : vp_in 2 97 := by unfold vp_in; decide +kernel
theorem ic_2 : Int32.toNatClampNeg 2 = 2 := by decide +kernel
theorem in_3 : vp_in 3 97 := by unfold vp_in; decide +kernel
theorem ic_3 : Int32.toNatClampNeg 3 = 3 := by decide +kernel
theorem in_4 : vp_in 4 97 := by unfold vp_in; decide +kernel
theorem ic_4 : Int32.toNatClampNeg 4 = 4 := by decide +kernel
theorem in_5 : vp_in 5 97 := by unfold vp_in; decide +kernel
theorem ic_5 : Int32.toNatClampNeg 5 = 5 := by decide +kernel
theorem in_6 : vp_in 6 97 := by unfold vp_in; decide +kernel
theorem ic_6 : Int32.toNatClampNeg 6 = 6 := by decide +kernel
theorem in_7 : vp_in 7 97 := by unfold vp_in; decide +kernel
theorem ic_7 : Int32.toNatClampNeg 7 = 7 := by decide +kernel
theorem in_8 : vp_in 8 97 := by unfold vp_in; decide +kernel
theorem ic_8 : Int32.toNatClampNeg 8 = 8 := by decide +kernel

/-! the class: why an order is refused -/
def kp_ (d : pU) (r x : Int32) : pU := up2 (up2 (up2 (up2 d 204 0 1) 204 1 r) 204 2 x) 204 3 0
section XR
variable {q : aS} {u : pU} {P : Int32 → aS → Prop} {n : Nat}
theorem x_keep {r x : Int32} (k : P 1 (kp_ q.1 r x, q.2)) : w_X5_keep r x q P := by
  unfold w_X5_keep
  intro q3 e3 q4 e4 q5 e5 q6 e6
  subst e3 e4 e5 e6
  exact k
theorem k_no {pr : Int32 × Int32} {r x : Int32} (e : pr = (r, x)) (hr : ¬ r = 0) (k1 : ¬ pr.1 = 0 → P 1 (kp_ q.1 pr.1 pr.2, q.2)) : w_X5_keep r x q P := by
  subst e
  exact x_keep (k1 hr)
theorem k_ok {pr : Int32 × Int32} (e : pr = (0, 0)) (k0 : pr.1 = 0 → P 0 q) : P 0 q := k0 (by rw [e])
theorem le_of_nlt {x a : Int32} (h : ¬ a < x) : x ≤ a := by
  rw [Int32.lt_iff_toInt_lt] at h
  rw [Int32.le_iff_toInt_le]
  omega
theorem nlt_of_le {x a : Int32} (h : x ≤ a) : ¬ a < x := by
  rw [Int32.le_iff_toInt_le] at h
  rw [Int32.lt_iff_toInt_lt]
  omega
theorem lt_of_nle {x a : Int32} (h : ¬ x ≤ a) : a < x := by
  rw [Int32.le_iff_toInt_le] at h
  rw [Int32.lt_iff_toInt_lt]
  omega
theorem nle_of_lt {x a : Int32} (h : a < x) : ¬ x ≤ a := by
  rw [Int32.lt_iff_toInt_lt] at h
  rw [Int32.le_iff_toInt_le]
  omega
theorem nI_n0 {j : Nat} (h : j < 100000) : ¬ nI j < 0 := nI_pos (by omega)
theorem has_no {j n : Nat} (h : j < n) (hn : n < 100000) : ¬ (nI j < 0 ∨ nI n ≤ nI j) := fun z => z.elim (fun c => nI_n0 (by omega) c) (fun c => nI_ge h (by omega) c)
theorem tn_c {j : Nat} (h : j < 100000) : tn (nI j) = j := nI_c h
theorem x_R0 (h : RX 1 q.1 u) (hc : Cnt u) (a : Int32) (k0 : (pR0 a u).1 = 0 → P 0 q) (k1 : ¬ (pR0 a u).1 = 0 → P 1 (kp_ q.1 (pR0 a u).1 (pR0 a u).2, q.2)) : w_X9_isRoomRefused a q P := by
  have hn := (rx_2 h).trans hc.1.1
  have hb := hc.1.2
  unfold w_X9_isRoomRefused
  rw [hn]
  refine ⟨fun c => k_no ?_ (by decide) k1, fun c => ⟨fun c2 => ⟨fun c3 => k_ok ?_ k0, fun c3 => k_no ?_ (by decide) k1⟩, fun c2 => k_no ?_ (by decide) k1⟩⟩
  · rw [pR0, if_pos (Or.inl c)]
  · have h6 : cR u < 6 := (nI_ltI (a := cR u) (b := 6) (by omega) (by omega)).mp c3
    rw [pR0, if_neg (fun z => z.elim c (nlt_of_le c2)), if_neg (by omega)]
  · have h6 : ¬ cR u < 6 := fun z => c3 ((nI_ltI (a := cR u) (b := 6) (by omega) (by omega)).mpr z)
    rw [pR0, if_neg (fun z => z.elim c (nlt_of_le c2)), if_pos (by omega)]
  · rw [pR0, if_pos (Or.inr (lt_of_nle c2))]
theorem x_R1 (h : RX 1 q.1 u) (hc : Cnt u) (a b : Int32) (k0 : (pR1 a b u).1 = 0 → P 0 q) (k1 : ¬ (pR1 a b u).1 = 0 → P 1 (kp_ q.1 (pR1 a b u).1 (pR1 a b u).2, q.2)) : w_X9_isEchoRefused a b q P := by
  have hn := (rx_6 h).trans hc.2.1.1
  have hb := hc.2.1.2
  have hb2 := hc.1.2
  unfold w_X9_isEchoRefused
  refine x_hasRoom h hc a (fun c => ?_) (fun j hj e => ?_)
  · exact ⟨fun z => absurd rfl z, fun _ => k_no (by rw [pR1, if_pos c]) (by decide) k1⟩
  · subst e
    have c1 := has_no hj (by omega)
    rw [hn]
    refine ⟨fun _ => ⟨fun c => k_no ?_ (by decide) k1, fun c => ⟨fun c2 => ⟨fun c3 => k_ok ?_ k0, fun c3 => k_no ?_ (by decide) k1⟩, fun c2 => k_no ?_ (by decide) k1⟩⟩, fun z => absurd z i10⟩
    · rw [pR1, if_neg c1, if_pos (Or.inl c)]
    · have h6 : cE u < 8 := (nI_ltI (a := cE u) (b := 8) (by omega) (by omega)).mp c3
      rw [pR1, if_neg c1, if_neg (fun z => z.elim c (nlt_of_le c2)), if_neg (by omega)]
    · have h6 : ¬ cE u < 8 := fun z => c3 ((nI_ltI (a := cE u) (b := 8) (by omega) (by omega)).mpr z)
      rw [pR1, if_neg c1, if_neg (fun z => z.elim c (nlt_of_le c2)), if_pos (by omega)]
    · rw [pR1, if_neg c1, if_pos (Or.inr (lt_of_nle c2))]
theorem x_R2 (h : RX 1 q.1 u) (hc : Cnt u) (a b : Int32) (k0 : (pR2 a b u).1 = 0 → P 0 q) (k1 : ¬ (pR2 a b u).1 = 0 → P 1 (kp_ q.1 (pR2 a b u).1 (pR2 a b u).2, q.2)) : w_X9_isSingerRefused a b q P := by
  have hn := (rx_12 h).trans hc.2.2.1
  have hb := hc.2.2.2
  unfold w_X9_isSingerRefused
  rw [hn]
  refine ⟨fun c => k_no ?_ (by decide) k1, fun c => ⟨fun c2 => ⟨fun c3 => k_no ?_ (by decide) k1, fun c3 => ⟨fun c4 => ⟨fun c5 => k_ok ?_ k0, fun c5 => k_no ?_ (by decide) k1⟩, fun c4 => k_no ?_ (by decide) k1⟩⟩, fun c2 => k_no ?_ (by decide) k1⟩⟩
  · rw [pR2, if_pos (Or.inl c)]
  · rw [pR2, if_neg (fun z => z.elim c (nlt_of_le c2)), if_pos (Or.inl c3)]
  · have h6 : cS u < 6 := (nI_ltI (a := cS u) (b := 6) (by omega) (by omega)).mp c5
    rw [pR2, if_neg (fun z => z.elim c (nlt_of_le c2)), if_neg (fun z => z.elim c3 (nlt_of_le c4)), if_neg (by omega)]
  · have h6 : ¬ cS u < 6 := fun z => c5 ((nI_ltI (a := cS u) (b := 6) (by omega) (by omega)).mpr z)
    rw [pR2, if_neg (fun z => z.elim c (nlt_of_le c2)), if_neg (fun z => z.elim c3 (nlt_of_le c4)), if_pos (by omega)]
  · rw [pR2, if_neg (fun z => z.elim c (nlt_of_le c2)), if_pos (Or.inr (lt_of_nle c4))]
  · rw [pR2, if_pos (Or.inr (lt_of_nle c2))]
theorem x_R3 (h : RX 1 q.1 u) (hc : Cnt u) (a b : Int32) (k0 : (pR3 a b u).1 = 0 → P 0 q) (k1 : ¬ (pR3 a b u).1 = 0 → P 1 (kp_ q.1 (pR3 a b u).1 (pR3 a b u).2, q.2)) : w_X9_isEnteringRefused a b q P := by
  have hb := hc.2.2.2
  have hb2 := hc.1.2
  unfold w_X9_isEnteringRefused
  refine x_hasSinger h hc a (fun c => ?_) (fun i hi e => ?_)
  · exact ⟨fun z => absurd rfl z, fun _ => k_no (by rw [pR3, if_pos c]) (by decide) k1⟩
  subst e
  have c1 := has_no hi (by omega)
  refine ⟨fun _ => x_hasRoom h hc b (fun c => ?_) (fun j hj e => ?_), fun z => absurd z i10⟩
  · exact ⟨fun z => absurd rfl z, fun _ => k_no (by rw [pR3, if_neg c1, if_pos c]) (by decide) k1⟩
  subst e
  have c2 := has_no hj (by omega)
  have ti := tn_c (j := i) (by omega)
  have tj := tn_c (j := j) (by omega)
  rw [nI_c (show i < 100000 by omega), rx_15 h (j := i) (by omega)]
  refine ⟨fun _ => ⟨vp_in_nI (by omega) (by decide), fun c3 => x_isFull h hc (by omega) (fun c4 => ?_) (fun c4 => ?_), fun c3 => k_no ?_ (by decide) k1⟩, fun z => absurd z i10⟩
  · refine ⟨fun _ => x_isTooShyFor h hc _ (by omega) (fun c5 => ?_) (fun c5 => ?_), fun z => absurd rfl z⟩
    · refine ⟨fun _ => k_ok ?_ k0, fun z => absurd rfl z⟩
      rw [pR3, if_neg c1, if_neg c2, ti, tj, if_neg c3, if_neg (fun z => z c4), if_neg (fun z => z c5)]
    · refine ⟨fun z => absurd z i10, fun _ => x_singersIn h hc _ (x_bc _ (k_no ?_ (by decide) k1))⟩
      rw [pR3, if_neg c1, if_neg c2, ti, tj, if_neg c3, if_neg (fun z => z c4), if_pos c5]
  · refine ⟨fun z => absurd z i10, fun _ => ⟨vp_in_nI (by omega) (by decide), k_no ?_ (by decide) k1⟩⟩
    rw [nI_c (show j < 100000 by omega), rx_3 h (j := j) (by omega), pR3, if_neg c1, if_neg c2, ti, tj, if_neg c3, if_pos c4]
  · rw [pR3, if_neg c1, if_neg c2, ti, if_pos c3]
theorem x_R4 (h : RX 1 q.1 u) (hc : Cnt u) (a : Int32) (k0 : (pR4 a u).1 = 0 → P 0 q) (k1 : ¬ (pR4 a u).1 = 0 → P 1 (kp_ q.1 (pR4 a u).1 (pR4 a u).2, q.2)) : w_X9_isGoingOutRefused a q P := by
  have hb := hc.2.2.2
  unfold w_X9_isGoingOutRefused
  refine x_hasSinger h hc a (fun c => ?_) (fun i hi e => ?_)
  · exact ⟨fun z => absurd rfl z, fun _ => k_no (by rw [pR4, if_pos c]) (by decide) k1⟩
  subst e
  have c1 := has_no hi (by omega)
  have ti := tn_c (j := i) (by omega)
  refine ⟨fun _ => x_isInside h (by omega) (fun c2 => ?_) (fun c2 => ?_), fun z => absurd z i10⟩
  · exact ⟨fun z => absurd rfl z, fun _ => k_no (by rw [pR4, if_neg c1, ti, if_pos c2]) (by decide) k1⟩
  · exact ⟨fun _ => k_ok (by rw [pR4, if_neg c1, ti, if_neg c2]) k0, fun z => absurd z i10⟩
theorem x_R5 (h : RX 1 q.1 u) (hc : Cnt u) (a b : Int32) (k0 : (pR5 a b u).1 = 0 → P 0 q) (k1 : ¬ (pR5 a b u).1 = 0 → P 1 (kp_ q.1 (pR5 a b u).1 (pR5 a b u).2, q.2)) : w_X9_isCarryingRefused a b q P := by
  have hb := hc.2.1.2
  have hb2 := hc.1.2
  unfold w_X9_isCarryingRefused
  refine x_hasEcho h hc a (fun c => ?_) (fun i hi e => ?_)
  · exact ⟨fun z => absurd rfl z, fun _ => k_no (by rw [pR5, if_pos c]) (by decide) k1⟩
  subst e
  have c1 := has_no hi (by omega)
  refine ⟨fun _ => x_hasRoom h hc b (fun c => ?_) (fun j hj e => ?_), fun z => absurd z i10⟩
  · exact ⟨fun z => absurd rfl z, fun _ => k_no (by rw [pR5, if_neg c1, if_pos c]) (by decide) k1⟩
  subst e
  have c2 := has_no hj (by omega)
  have ti := tn_c (j := i) (by omega)
  have ei := nI_c (show i < 100000 by omega)
  simp only [ei, rx_7 h (j := i) (by omega), rx_9 h (j := i) (by omega)]
  refine ⟨fun _ => ⟨vp_in_nI (by omega) (by decide), fun c3 => x_isLet h (by omega) (fun c4 => ?_) (fun c4 => ?_), fun c3 => k_no ?_ (by decide) k1⟩, fun z => absurd z i10⟩
  · refine ⟨fun _ => k_ok ?_ k0, fun z => absurd rfl z⟩
    rw [pR5, if_neg c1, if_neg c2, ti, if_neg c3, if_neg (fun z => z c4)]
  · refine ⟨fun z => absurd z i10, fun _ => ⟨vp_in_nI (by omega) (by decide), k_no ?_ (by decide) k1⟩⟩
    rw [rx_9 h (j := i) (by omega), pR5, if_neg c1, if_neg c2, ti, if_neg c3, if_pos c4]
  · rw [pR5, if_neg c1, if_neg c2, ti, if_pos c3]
theorem x_R6 (h : RX 1 q.1 u) (hc : Cnt u) (a b c : Int32) (k0 : (pR6 a b c u).1 = 0 → P 0 q) (k1 : ¬ (pR6 a b c u).1 = 0 → P 1 (kp_ q.1 (pR6 a b c u).1 (pR6 a b c u).2, q.2)) : w_X9_isRentingRefused a b c q P := by
  have hb := hc.2.2.2
  have hb2 := hc.2.1.2
  unfold w_X9_isRentingRefused
  refine x_hasSinger h hc a (fun c => ?_) (fun i hi e => ?_)
  · exact ⟨fun z => absurd rfl z, fun _ => k_no (by rw [pR6, if_pos c]) (by decide) k1⟩
  subst e
  have c1 := has_no hi (by omega)
  refine ⟨fun _ => x_hasEcho h hc b (fun c => ?_) (fun j hj e => ?_), fun z => absurd z i10⟩
  · exact ⟨fun z => absurd rfl z, fun _ => k_no (by rw [pR6, if_neg c1, if_pos c]) (by decide) k1⟩
  subst e
  have c2 := has_no hj (by omega)
  have ti := tn_c (j := i) (by omega)
  have tj := tn_c (j := j) (by omega)
  have ei := nI_c (show i < 100000 by omega)
  have ej := nI_c (show j < 100000 by omega)
  refine ⟨fun _ => ⟨fun c3 => k_no ?_ (by decide) k1, fun c3 => ⟨fun c4 => x_isLet h (by omega) (fun c5 => ?_) (fun c5 => ?_), fun c4 => k_no ?_ (by decide) k1⟩⟩, fun z => absurd z i10⟩
  · rw [pR6, if_neg c1, if_neg c2, if_pos (Or.inl c3)]
  · have c6 : ¬ (c < 1 ∨ 9 < c) := fun z => z.elim c3 (nlt_of_le c4)
    refine ⟨fun _ => x_isWithEcho h (by omega) (by omega) (fun c7 => ?_) (fun c7 => ?_), fun z => absurd rfl z⟩
    · refine ⟨fun z => absurd rfl z, fun _ => ⟨vp_in_nI (by omega) (by decide), k_no ?_ (by decide) k1⟩⟩
      rw [ej, rx_7 h (j := j) (by omega), pR6, if_neg c1, if_neg c2, if_neg c6, ti, tj, if_neg (fun z => z c5), if_pos c7]
    · refine ⟨fun _ => x_canPayFor h (by omega) (by omega) (fun c8 => ?_) (fun c8 => ?_), fun z => absurd z i10⟩
      · refine ⟨fun z => absurd rfl z, fun _ => ⟨vp_in_nI (by omega) (by decide), k_no ?_ (by decide) k1⟩⟩
        rw [ei, rx_14 h (j := i) (by omega), pR6, if_neg c1, if_neg c2, if_neg c6, ti, tj, if_neg (fun z => z c5), if_neg (fun z => z c7), if_pos c8]
      · refine ⟨fun _ => k_ok ?_ k0, fun z => absurd z i10⟩
        rw [pR6, if_neg c1, if_neg c2, if_neg c6, ti, tj, if_neg (fun z => z c5), if_neg (fun z => z c7), if_neg c8]
  · have c6 : ¬ (c < 1 ∨ 9 < c) := fun z => z.elim c3 (nlt_of_le c4)
    refine ⟨fun z => absurd z i10, fun _ => ⟨vp_in_nI (by omega) (by decide), k_no ?_ (by decide) k1⟩⟩
    rw [ej, rx_9 h (j := j) (by omega), pR6, if_neg c1, if_neg c2, if_neg c6, tj, if_pos c5]
  · rw [pR6, if_neg c1, if_neg c2, if_pos (Or.inr (lt_of_nle c4))]
theorem x_R7 (h : RX 1 q.1 u) (hc : Cnt u) (a b : Int32) (k0 : (pR7 a b u).1 = 0 → P 0 q) (k1 : ¬ (pR7 a b u).1 = 0 → P 1 (kp_ q.1 (pR7 a b u).1 (pR7 a b u).2, q.2)) : w_X9_isGivingBackRefused a b q P := by
  have hb := hc.2.2.2
  have hb2 := hc.2.1.2
  unfold w_X9_isGivingBackRefused
  refine x_hasSinger h hc a (fun c => ?_) (fun i hi e => ?_)
  · exact ⟨fun z => absurd rfl z, fun _ => k_no (by rw [pR7, if_pos c]) (by decide) k1⟩
  subst e
  have c1 := has_no hi (by omega)
  refine ⟨fun _ => x_hasEcho h hc b (fun c => ?_) (fun j hj e => ?_), fun z => absurd z i10⟩
  · exact ⟨fun z => absurd rfl z, fun _ => k_no (by rw [pR7, if_neg c1, if_pos c]) (by decide) k1⟩
  subst e
  have c2 := has_no hj (by omega)
  have tj := tn_c (j := j) (by omega)
  rw [nI_c (show j < 100000 by omega), rx_9 h (j := j) (by omega)]
  refine ⟨fun _ => ⟨vp_in_nI (by omega) (by decide), fun c3 => k_ok ?_ k0, fun c3 => ⟨vp_in_nI (by omega) (by decide), k_no ?_ (by decide) k1⟩⟩, fun z => absurd z i10⟩
  · rw [pR7, if_neg c1, if_neg c2, tj, if_neg (fun z => z c3)]
  · rw [pR7, if_neg c1, if_neg c2, tj, if_pos c3]
theorem x_R8 (h : RX 1 q.1 u) (hc : Cnt u) (a : Int32) (k0 : (pR8 a u).1 = 0 → P 0 q) (k1 : ¬ (pR8 a u).1 = 0 → P 1 (kp_ q.1 (pR8 a u).1 (pR8 a u).2, q.2)) : w_X9_isSingingRefused a q P := by
  have hb := hc.2.2.2
  unfold w_X9_isSingingRefused
  refine x_hasSinger h hc a (fun c => ?_) (fun i hi e => ?_)
  · exact ⟨fun z => absurd rfl z, fun _ => k_no (by rw [pR8, if_pos c]) (by decide) k1⟩
  subst e
  have c1 := has_no hi (by omega)
  have ti := tn_c (j := i) (by omega)
  have ei := nI_c (show i < 100000 by omega)
  refine ⟨fun _ => x_isInside h (by omega) (fun c2 => ?_) (fun c2 => ?_), fun z => absurd z i10⟩
  · exact ⟨fun z => absurd rfl z, fun _ => k_no (by rw [pR8, if_neg c1, ti, if_pos c2]) (by decide) k1⟩
  · rw [ei, rx_14 h (j := i) (by omega)]
    refine ⟨fun _ => ⟨vp_in_nI (by omega) (by decide), fun c3 => k_ok ?_ k0, fun c3 => ⟨vp_in_nI (by omega) (by decide), k_no ?_ (by decide) k1⟩⟩, fun z => absurd z i10⟩
    · rw [pR8, if_neg c1, ti, if_neg c2, if_neg (nlt_of_le c3)]
    · rw [pR8, if_neg c1, ti, if_neg c2, if_pos (lt_of_nle c3)]
end XR

/-! what is asked of the reference's row, as numbers of u -/
theorem RM.g {d u : pU} (h : RM (d 1) 0 u) (j : Nat) (x : Int32) : RM (up2 d 0 j x 1) 0 u := by
  rw [up2_ne d j x (show 1 ≠ 0 by decide)]
  exact h
section MQ
variable {q : aS} {u : pU} {P : Int32 → aS → Prop}
theorem r_isIn {x a b : Int32} (k0 : (x < a ∨ b < x) → P 0 q) (k1 : ¬ x < a → ¬ b < x → P 1 q) : w_X10_isIn x a b q P :=
  ⟨fun c => k0 (Or.inl c), fun c => ⟨fun c2 => k0 (Or.inr c2), fun c2 => k1 c c2⟩⟩
theorem n_pred {n : Nat} (hn : n < 100000) {x : Int32} (hx : ¬ x < 0) : nI n - 1 < x ↔ nI n ≤ x := by
  obtain ⟨k, hk, rfl⟩ := nI_of hx
  cases n with
  | zero =>
    have h1 : nI 0 - 1 = -1 := by decide
    rw [h1, Int32.lt_iff_toInt_lt, Int32.le_iff_toInt_le, nI_toInt hk, nI_toInt (by omega)]
    have h2 : (-1 : Int32).toInt = -1 := by decide
    omega
  | succ m => rw [nI_pred, nI_ltI (by omega) hk, nI_leI (by omega) hk]; omega
theorem r_has {n : Nat} (hn : n < 100000) {x : Int32} (k0 : (x < 0 ∨ nI n ≤ x) → P 0 q) (k1 : ∀ j, j < n → x = nI j → P 1 q) : w_X10_isIn x 0 (nI n - 1) q P := by
  refine r_isIn (fun c => ?_) (fun c1 c2 => ?_)
  · by_cases hx : x < 0
    · exact k0 (Or.inl hx)
    · rcases c with c | c
      · exact absurd c hx
      · exact k0 (Or.inr ((n_pred hn hx).mp c))
  · obtain ⟨j, hj, e⟩ := has_of hn c1 (fun z => c2 ((n_pred hn c1).mpr z))
    exact k1 j hj e
theorem r_isRoom (h : RM (q.1 1) 0 u) (hc : Cnt u) (x : Int32) (k0 : (x < 0 ∨ nI (cR u) ≤ x) → P 0 q) (k1 : ∀ j, j < cR u → x = nI j → P 1 q) : w_X10_isRoom x q P := by
  have hn := (rm_0 h).trans hc.1.1
  have hb := hc.1.2
  unfold w_X10_isRoom
  rw [ic_0, hn]
  exact ⟨in_0, r_has (by omega) k0 k1⟩
theorem r_isEcho (h : RM (q.1 1) 0 u) (hc : Cnt u) (x : Int32) (k0 : (x < 0 ∨ nI (cE u) ≤ x) → P 0 q) (k1 : ∀ j, j < cE u → x = nI j → P 1 q) : w_X10_isEcho x q P := by
  have hn := (rm_1 h).trans hc.2.1.1
  have hb := hc.2.1.2
  unfold w_X10_isEcho
  rw [ic_1, hn]
  exact ⟨in_1, r_has (by omega) k0 k1⟩
theorem r_isSinger (h : RM (q.1 1) 0 u) (hc : Cnt u) (x : Int32) (k0 : (x < 0 ∨ nI (cS u) ≤ x) → P 0 q) (k1 : ∀ j, j < cS u → x = nI j → P 1 q) : w_X10_isSinger x q P := by
  have hn := (rm_2 h).trans hc.2.2.1
  have hb := hc.2.2.2
  unfold w_X10_isSinger
  rw [ic_2, hn]
  exact ⟨in_2, r_has (by omega) k0 k1⟩
theorem r_goes {x y : Int32} (k1 : x = 0 → P 0 (up2 q.1 0 15 1, q.2)) (k2 : ¬ x = 0 → y = 0 → P 0 (up2 q.1 0 15 2, q.2)) (k0 : ¬ x = 0 → ¬ y = 0 → P 1 (up2 q.1 0 15 0, q.2)) : w_X10_goes x y q P := by
  have e : ∀ z : Int32, up2 q.1 0 15 z 0 15 = z := fun z => by rw [up2_at, if_pos ⟨rfl, rfl⟩]
  unfold w_X10_goes JX10_goes_18
  refine ⟨fun c => ⟨fun c2 => ?_, fun c2 => ?_⟩, fun c => ?_⟩
  · intro q3 e3
    subst e3
    exact ⟨fun z => absurd (e 0) z, fun _ => k0 c c2⟩
  · intro q3 e3
    subst e3
    exact ⟨fun _ => k2 c c2, fun z => absurd ((e 2).symm.trans z) (by decide)⟩
  · intro q3 e3
    subst e3
    exact ⟨fun _ => k1 c, fun z => absurd ((e 1).symm.trans z) (by decide)⟩
theorem r_singersIn (h : RM (q.1 1) 0 u) (hc : Cnt u) (x : Int32) (k : P (pSin u x) q) : w_X10_singersIn x q P := by
  unfold w_X10_singersIn
  have hn := (rm_2 h).trans hc.2.2.1
  have hb := hc.2.2.2
  refine lp_0 (fun m v i => LX10_singersIn_4 x P _ m v i q) (fun j v => v = orTo (gSin u x) j) (cS u) 0 rfl (fun m v hv => ?_) (fun m j v hj hv hk => ?_)
  · subst hv
    have hle := nI_le (Nat.le_refl (cS u)) (by omega)
    simp only [LX10_singersIn_4, in_2, ic_2, hn, hle, forall_eq, eq_self, nI_1, false_implies, not_false_eq_true, not_true_eq_false, true_implies, true_and, and_true]
    exact k
  · subst hv
    have hlt := nI_ge hj (by omega)
    have hj9 : j < 6 := by omega
    simp only [LX10_singersIn_4, in_2, ic_2, hn, hlt, w_X10_singerAt, iv_S2 hj9, ie_S2 hj9, rm_S2 h hj9, forall_eq, eq_self, nI_1, false_implies, not_false_eq_true, not_true_eq_false, true_implies, true_and, and_true]
    refine ⟨fun c => hk _ ?_, fun c => hk _ ?_⟩
    · show _ = orTo _ j ||| gSin u x j
      rw [gSin, if_neg c]
    · show _ = orTo _ j ||| gSin u x j
      rw [gSin, if_pos c]
theorem r_echoesIn (h : RM (q.1 1) 0 u) (hc : Cnt u) (x : Int32) (k : P (pEin u x) q) : w_X10_echoesIn x 0 q P := by
  unfold w_X10_echoesIn
  have hn := (rm_1 h).trans hc.2.1.1
  have hb := hc.2.1.2
  refine lp_0 (fun m v i => LX10_echoesIn_5 x 0 P _ m v i q) (fun j v => v = orTo (gEin u x) j) (cE u) 0 rfl (fun m v hv => ?_) (fun m j v hj hv hk => ?_)
  · subst hv
    have hle := nI_le (Nat.le_refl (cE u)) (by omega)
    simp only [LX10_echoesIn_5, JX10_echoesIn_56, JX10_echoesIn_52, JX10_echoesIn_57, in_1, ic_1, hn, hle, forall_eq, eq_self, nI_1, false_implies, not_false_eq_true, not_true_eq_false, true_implies, true_and, and_true]
    exact k
  · subst hv
    have hlt := nI_ge hj (by omega)
    have hj9 : j < 8 := by omega
    simp only [LX10_echoesIn_5, JX10_echoesIn_56, JX10_echoesIn_52, JX10_echoesIn_57, in_1, ic_1, hn, hlt, w_X10_echoAt, iv_E0 hj9, ie_E0 hj9, rm_E0 h hj9, i10, forall_eq, eq_self, nI_1, false_implies, not_false_eq_true, not_true_eq_false, true_implies, true_and, and_true]
    refine ⟨fun c => hk _ ?_, fun c => hk _ ?_⟩
    · show _ = orTo _ j ||| gEin u x j
      rw [gEin, if_neg c]
    · show _ = orTo _ j ||| gEin u x j
      rw [gEin, if_pos c]
theorem r_freeIn (h : RM (q.1 1) 0 u) (hc : Cnt u) (x : Int32) (k : P (pFin u x) q) : w_X10_echoesIn x 1 q P := by
  unfold w_X10_echoesIn
  have hn := (rm_1 h).trans hc.2.1.1
  have hb := hc.2.1.2
  refine lp_0 (fun m v i => LX10_echoesIn_5 x 1 P _ m v i q) (fun j v => v = orTo (gFin u x) j) (cE u) 0 rfl (fun m v hv => ?_) (fun m j v hj hv hk => ?_)
  · subst hv
    have hle := nI_le (Nat.le_refl (cE u)) (by omega)
    simp only [LX10_echoesIn_5, JX10_echoesIn_56, JX10_echoesIn_52, JX10_echoesIn_57, in_1, ic_1, hn, hle, forall_eq, eq_self, nI_1, false_implies, not_false_eq_true, not_true_eq_false, true_implies, true_and, and_true]
    exact k
  · subst hv
    have hlt := nI_ge hj (by omega)
    have hj9 : j < 8 := by omega
    simp only [LX10_echoesIn_5, JX10_echoesIn_56, JX10_echoesIn_52, JX10_echoesIn_57, in_1, ic_1, hn, hlt, w_X10_echoAt, iv_E0 hj9, ie_E0 hj9, rm_E0 h hj9, iv_E2 hj9, ie_E2 hj9, rm_E2 h hj9, i10, forall_eq, eq_self, nI_1, false_implies, not_false_eq_true, not_true_eq_false, true_implies, true_and, and_true]
    refine ⟨fun c => hk _ ?_, fun c => ⟨fun c2 => hk _ ?_, fun c2 => hk _ ?_⟩⟩
    · show _ = orTo _ j ||| gFin u x j
      rw [gFin, if_neg (fun z => c z.1)]
    · show _ = orTo _ j ||| gFin u x j
      rw [gFin, if_neg (fun z => c2 z.2)]
    · show _ = orTo _ j ||| gFin u x j
      rw [gFin, if_pos ⟨c, c2⟩]
theorem r_othersIn (h : RM (q.1 1) 0 u) (hc : Cnt u) (x : Int32) (k : P (bc_ (pSin u x)) q) : w_X10_othersIn x q P := by
  unfold w_X10_othersIn
  exact r_singersIn h hc _ (x_bc _ k)
theorem r_worthOf (h : RM (q.1 1) 0 u) (hc : Cnt u) (he : Ech u) {j : Nat} (hj : j < cE u) (k : P (pW u j) q) : w_X10_worthOf (nI j) q P := by
  have hb := hc.2.1.2
  have hb2 := hc.1.2
  have hj9 : j < 8 := by omega
  obtain ⟨r, hr, er⟩ := he j hj
  have hr9 : r < 6 := by omega
  simp only [w_X10_worthOf, w_X10_echoAt, w_X10_roomAt, iv_E0 hj9, ie_E0 hj9, rm_E0 h hj9, iv_E1 hj9, ie_E1 hj9, rm_E1 h hj9, er, iv_R1 hr9, ie_R1 hr9, rm_R1 h hr9, true_and]
  unfold pW p0_ at k
  rw [er, nI_c (by omega)] at k
  exact k
theorem r_letTo (h : RM (q.1 1) 0 u) (hc : Cnt u) (s : Int32) (k : P (pLt u s) q) : w_X10_letTo s 0 q P := by
  unfold w_X10_letTo
  have hn := (rm_1 h).trans hc.2.1.1
  have hb := hc.2.1.2
  refine lp_0 (fun m v i => LX10_letTo_5 s 0 P _ m v i q) (fun j v => v = sumTo (gLt u s) j) (cE u) 0 rfl (fun m v hv => ?_) (fun m j v hj hv hk => ?_)
  · subst hv
    have hle := nI_le (Nat.le_refl (cE u)) (by omega)
    simp only [LX10_letTo_5, JX10_letTo_36, in_1, ic_1, hn, hle, forall_eq, eq_self, nI_1, false_implies, not_false_eq_true, not_true_eq_false, true_implies, true_and, and_true]
    exact k
  · subst hv
    have hlt := nI_ge hj (by omega)
    have hj9 : j < 8 := by omega
    simp only [LX10_letTo_5, JX10_letTo_36, in_1, ic_1, hn, hlt, w_X10_echoAt, iv_E2 hj9, ie_E2 hj9, rm_E2 h hj9, forall_eq, eq_self, nI_1, false_implies, not_false_eq_true, not_true_eq_false, true_implies, true_and, and_true]
    refine ⟨fun c => hk _ ?_, fun c => hk _ ?_⟩
    · show _ = sumTo _ j + gLt u s j
      rw [gLt, if_neg c]
    · show _ = sumTo _ j + gLt u s j
      rw [gLt, if_pos c]
theorem r_heldOf (h : RM (q.1 1) 0 u) (hc : Cnt u) (s : Int32) (k : P (pHd u s) q) : w_X10_letTo s 1 q P := by
  unfold w_X10_letTo
  have hn := (rm_1 h).trans hc.2.1.1
  have hb := hc.2.1.2
  refine lp_0 (fun m v i => LX10_letTo_5 s 1 P _ m v i q) (fun j v => v = sumTo (gHd u s) j) (cE u) 0 rfl (fun m v hv => ?_) (fun m j v hj hv hk => ?_)
  · subst hv
    have hle := nI_le (Nat.le_refl (cE u)) (by omega)
    simp only [LX10_letTo_5, JX10_letTo_36, in_1, ic_1, hn, hle, forall_eq, eq_self, nI_1, false_implies, not_false_eq_true, not_true_eq_false, true_implies, true_and, and_true]
    exact k
  · subst hv
    have hlt := nI_ge hj (by omega)
    have hj9 : j < 8 := by omega
    simp only [LX10_letTo_5, JX10_letTo_36, in_1, ic_1, hn, hlt, w_X10_echoAt, iv_E2 hj9, ie_E2 hj9, rm_E2 h hj9, iv_E1 hj9, ie_E1 hj9, rm_E1 h hj9, i10, forall_eq, eq_self, nI_1, false_implies, not_false_eq_true, not_true_eq_false, true_implies, true_and, and_true]
    refine ⟨fun c => hk _ ?_, fun c => hk _ ?_⟩
    · show _ = sumTo _ j + gHd u s j
      rw [gHd, if_neg c]
    · show _ = sumTo _ j + gHd u s j
      rw [gHd, if_pos c]
theorem r_tonesIn (h : RM (q.1 1) 0 u) (hc : Cnt u) {r : Nat} (hr : r < 6) (s sg : Int32) (k : P (pTI u s (nI r) sg) q) : w_X10_tonesIn s (nI r) sg q P := by
  simp only [w_X10_tonesIn, w_X10_roomAt, iv_R1 hr, ie_R1 hr, rm_R1 h hr, true_and]
  intro x4 e4
  have e5 : x4 = pDm u (nI r) sg := by
    unfold pDm
    rw [nI_c (show r < 100000 by omega)]
    exact e4
  clear e4
  subst e5
  have hn := (rm_1 h).trans hc.2.1.1
  have hb := hc.2.1.2
  refine lp_0 (fun m v i => LX10_tonesIn_26 s (nI r) sg (pDm u (nI r) sg) P _ m v i q) (fun j v => v = sumTo (gTI u s (nI r) sg (pDm u (nI r) sg)) j) (cE u) 0 rfl (fun m v hv => ?_) (fun m j v hj hv hk => ?_)
  · subst hv
    have hle := nI_le (Nat.le_refl (cE u)) (by omega)
    simp only [LX10_tonesIn_26, JX10_tonesIn_87, JX10_tonesIn_88, in_1, ic_1, hn, hle, forall_eq, eq_self, nI_1, false_implies, not_false_eq_true, not_true_eq_false, true_implies, true_and, and_true]
    exact k
  · subst hv
    have hlt := nI_ge hj (by omega)
    have hj9 : j < 8 := by omega
    simp only [LX10_tonesIn_26, JX10_tonesIn_87, JX10_tonesIn_88, in_1, ic_1, hn, hlt, w_X10_echoAt, iv_E0 hj9, ie_E0 hj9, rm_E0 h hj9, iv_E1 hj9, ie_E1 hj9, rm_E1 h hj9, iv_E2 hj9, ie_E2 hj9, rm_E2 h hj9, iv_E3 hj9, ie_E3 hj9, rm_E3 h hj9, i10, forall_eq, eq_self, nI_1, false_implies, not_false_eq_true, not_true_eq_false, true_implies, true_and, and_true]
    refine ⟨fun c => hk _ ?_, fun c => ⟨fun c2 => hk _ ?_, fun c2 => ⟨fun c3 => hk _ ?_, fun c3 => hk _ ?_⟩⟩⟩
    · show _ = sumTo _ j + gTI u _ _ _ _ j
      rw [gTI, if_neg (fun z => c z.1.1)]
    · show _ = sumTo _ j + gTI u _ _ _ _ j
      rw [gTI, if_neg (fun z => c2 z.1.2)]
    · show _ = sumTo _ j + gTI u _ _ _ _ j
      rw [gTI, if_neg (fun z => z.2 c3)]
    · show _ = sumTo _ j + gTI u _ _ _ _ j
      rw [gTI, if_pos (show (u 6 j = nI r ∧ u 8 j = s) ∧ ¬ u 9 j ≤ sg from ⟨⟨c, c2⟩, c3⟩)]
      rfl
theorem r_allDamp (h : RM (q.1 1) 0 u) (hc : Cnt u) (k : P (sumTo (u 3) (cR u)) q) : w_X10_allDamp q P := by
  unfold w_X10_allDamp
  have hn := (rm_0 h).trans hc.1.1
  have hb := hc.1.2
  refine lp_0 (fun m v i => LX10_allDamp_4 P _ m v i q) (fun j v => v = sumTo (u 3) j) (cR u) 0 rfl (fun m v hv => ?_) (fun m j v hj hv hk => ?_)
  · subst hv
    have hle := nI_le (Nat.le_refl (cR u)) (by omega)
    simp only [LX10_allDamp_4, in_0, ic_0, hn, hle, forall_eq, eq_self, nI_1, false_implies, not_false_eq_true, not_true_eq_false, true_implies, true_and, and_true]
    exact k
  · subst hv
    have hlt := nI_ge hj (by omega)
    have hj9 : j < 6 := by omega
    simp only [LX10_allDamp_4, in_0, ic_0, hn, hlt, w_X10_roomAt, iv_R1 hj9, ie_R1 hj9, rm_R1 h hj9, forall_eq, eq_self, nI_1, false_implies, not_false_eq_true, not_true_eq_false, true_implies, true_and, and_true]
    exact hk _ rfl
theorem r_allLet (h : RM (q.1 1) 0 u) (hc : Cnt u) (k : P (sumTo (fun j => pLt u (nI j)) (cS u)) q) : w_X10_allLet q P := by
  unfold w_X10_allLet
  have hn := (rm_2 h).trans hc.2.2.1
  have hb := hc.2.2.2
  refine lp_0 (fun m v i => LX10_allLet_4 P _ m v i q) (fun j v => v = sumTo (fun j => pLt u (nI j)) j) (cS u) 0 rfl (fun m v hv => ?_) (fun m j v hj hv hk => ?_)
  · subst hv
    have hle := nI_le (Nat.le_refl (cS u)) (by omega)
    simp only [LX10_allLet_4, in_2, ic_2, hn, hle, forall_eq, eq_self, nI_1, false_implies, not_false_eq_true, not_true_eq_false, true_implies, true_and, and_true]
    exact k
  · subst hv
    have hlt := nI_ge hj (by omega)
    have hj9 : j < 6 := by omega
    simp only [LX10_allLet_4, in_2, ic_2, hn, hlt, forall_eq, eq_self, nI_1, false_implies, not_false_eq_true, not_true_eq_false, true_implies, true_and, and_true]
    exact r_letTo h hc _ (hk _ rfl)
end MQ

/-! places in an order, the reference's side -/
section RANK2
variable {q : aS} {u : pU} {P : Int32 → aS → Prop} {n : Nat}
theorem r_cntR (h : RM (q.1 1) 0 u) (hI : Inv n u) {a : Nat} (ha : a < cR u) (c1 c2 : Int32) {K : Int32 → aS → Prop} (k : K (nI (rkL (kR1 u) (kR2 u) (cR u) a)) q) : ∃ M, LX10_dampest_20 c1 c2 (nI a) P K M 0 0 q := by
  have hc := hI.1
  have hbR := hc.1.2
  have hbS := hc.2.2.2
  have hn := (rm_0 h).trans hc.1.1
  have ha6 : a < 6 := by omega
  obtain ⟨da, la⟩ := kR1_e hI ha
  have sa : kR2 u a ≤ cS u := cB_le _ _
  refine lp_0 (fun m v i => LX10_dampest_20 c1 c2 (nI a) P K m v i q) (fun j v => v = nI (cB (fun x => ahL (kR1 u) (kR2 u) x a) j)) (cR u) 0 rfl (fun m v hv => ?_) (fun m j v hj hv hk => ?_)
  · subst hv
    rw [LX10_dampest_20, ic_0, hn]
    exact ⟨in_0, fun _ => k, fun z => absurd (nI_le (Nat.le_refl _) (by omega)) z⟩
  · subst hv
    have hj6 : j < 6 := by omega
    obtain ⟨dj, lj⟩ := kR1_e hI hj
    have sj : kR2 u j ≤ cS u := cB_le _ _
    have y1 : ahL (kR1 u) (kR2 u) j a = true → ∀ x12 : Int32, x12 = nI (cB (fun x => ahL (kR1 u) (kR2 u) x a) j) + 1 → ∀ x13 : Int32, x13 = nI j + 1 → LX10_dampest_20 c1 c2 (nI a) P K m x12 x13 q := by
      intro z x12 e12 x13 e13
      rw [nI_1] at e13
      subst e12 e13
      exact hk _ (cB_s1 (f := fun x => ahL (kR1 u) (kR2 u) x a) z)
    have y0 : ¬ ahL (kR1 u) (kR2 u) j a = true → ∀ x12 : Int32, x12 = nI (cB (fun x => ahL (kR1 u) (kR2 u) x a) j) + 0 → ∀ x13 : Int32, x13 = nI j + 1 → LX10_dampest_20 c1 c2 (nI a) P K m x12 x13 q := by
      intro z x12 e12 x13 e13
      rw [nI_1] at e13
      rw [Int32.add_zero] at e12
      subst e12 e13
      exact hk _ (cB_s0 (f := fun x => ahL (kR1 u) (kR2 u) x a) z)
    rw [LX10_dampest_20, ic_0, hn]
    refine ⟨in_0, fun z => absurd z (nI_ge hj (by omega)), fun _ => ?_⟩
    unfold w_X10_roomAt
    simp only [ie_R1 hj6, rm_R1 h hj6, ie_R1 ha6, rm_R1 h ha6, dj, da]
    refine ⟨iv_R1 hj6, iv_R1 ha6, ?_⟩
    intro x6 e6
    refine r_othersIn h hc _ (r_othersIn h hc _ ?_)
    intro x11 e11
    rw [sin_cnt hc, sin_cnt hc] at e11
    have e11 : x11 = nI (kR2 u j) - nI (kR2 u a) := e11
    subst e6 e11
    refine ⟨fun c => y1 ?_, fun c => ⟨fun c2 => y0 ?_, fun c2 => ⟨fun c3 => y1 ?_, fun c3 => ⟨fun c4 => y0 ?_, fun c4 => ⟨fun c5 => y0 ?_, fun c5 => y1 ?_⟩⟩⟩⟩⟩
    all_goals
      simp only [d_pos (show kR1 u j < 2 ^ 30 by omega) (show kR1 u a < 2 ^ 30 by omega), d_zero (show kR1 u j < 2 ^ 30 by omega) (show kR1 u a < 2 ^ 30 by omega), d_pos (show kR2 u j < 2 ^ 30 by omega) (show kR2 u a < 2 ^ 30 by omega), d_zero (show kR2 u j < 2 ^ 30 by omega) (show kR2 u a < 2 ^ 30 by omega), nI_leI (show a < 2 ^ 31 by omega) (show j < 2 ^ 31 by omega)] at *
      rw [ahL_iff]
      omega
theorem r_dampest (h : RM (q.1 1) 0 u) (hI : Inv n u) (p : Int32) (k0 : fnd (rkL (kR1 u) (kR2 u) (cR u)) p (cR u) = -1 → P 0 (up2 q.1 0 15 1, q.2)) (k1 : ¬ fnd (rkL (kR1 u) (kR2 u) (cR u)) p (cR u) = -1 → P (fnd (rkL (kR1 u) (kR2 u) (cR u)) p (cR u)) (up2 q.1 0 15 0, q.2)) : w_X10_dampest p q P := by
  have hc := hI.1
  have hbR := hc.1.2
  have hn := (rm_0 h).trans hc.1.1
  unfold w_X10_dampest
  refine lp_0 (fun m v i => LX10_dampest_4 p P _ m v i q) (fun j v => v = fnd (rkL (kR1 u) (kR2 u) (cR u)) p j) (cR u) (-1) rfl (fun m v hv => ?_) (fun m j v hj hv hk => ?_)
  · subst hv
    rw [LX10_dampest_4, ic_0, hn]
    refine ⟨in_0, fun _ => ⟨fun z => ?_, fun z => ?_⟩, fun z => absurd (nI_le (Nat.le_refl _) (by omega)) z⟩
    · exact r_goes (fun _ => ⟨fun _ => k0 z, fun w => absurd rfl w⟩) (fun w => absurd rfl w) (fun w => absurd rfl w)
    · exact r_goes (fun w => absurd w i10) (fun _ w => absurd w i10) (fun _ _ => ⟨fun w => absurd w i10, fun _ => k1 z⟩)
  · subst hv
    rw [LX10_dampest_4, ic_0, hn]
    refine ⟨in_0, fun z => absurd z (nI_ge hj (by omega)), fun _ => r_cntR h hI hj _ _ ⟨fun z => ?_, fun z => ?_⟩⟩
    · intro x26 e26
      rw [nI_1] at e26
      subst e26
      refine hk _ ?_
      show _ = if _ then _ else _
      rw [if_neg z]
    · intro x27 e27
      rw [nI_1] at e27
      subst e27
      refine hk _ ?_
      show _ = if _ then _ else _
      rw [if_pos z]
theorem r_cntE (h : RM (q.1 1) 0 u) (hI : Inv n u) {a : Nat} (ha : a < cE u) (c1 c2 : Int32) {K : Int32 → aS → Prop} (k : K (nI (rkL (kE1 u) (kE2 u) (cE u) a)) q) : ∃ M, LX10_strongest_20 c1 c2 (nI a) P K M 0 0 q := by
  have hc := hI.1
  have hbR := hc.2.1.2
  have hn := (rm_1 h).trans hc.2.1.1
  have ha8 : a < 8 := by omega
  obtain ⟨da, la⟩ := kE1_e hI ha
  refine lp_0 (fun m v i => LX10_strongest_20 c1 c2 (nI a) P K m v i q) (fun j v => v = nI (cB (fun x => ahL (kE1 u) (kE2 u) x a) j)) (cE u) 0 rfl (fun m v hv => ?_) (fun m j v hj hv hk => ?_)
  · subst hv
    rw [LX10_strongest_20, ic_1, hn]
    exact ⟨in_1, fun _ => k, fun z => absurd (nI_le (Nat.le_refl _) (by omega)) z⟩
  · subst hv
    have hj8 : j < 8 := by omega
    obtain ⟨dj, lj⟩ := kE1_e hI hj
    have y1 : ahL (kE1 u) (kE2 u) j a = true → ∀ x12 : Int32, x12 = nI (cB (fun x => ahL (kE1 u) (kE2 u) x a) j) + 1 → ∀ x13 : Int32, x13 = nI j + 1 → LX10_strongest_20 c1 c2 (nI a) P K m x12 x13 q := by
      intro z x12 e12 x13 e13
      rw [nI_1] at e13
      subst e12 e13
      exact hk _ (cB_s1 (f := fun x => ahL (kE1 u) (kE2 u) x a) z)
    have y0 : ¬ ahL (kE1 u) (kE2 u) j a = true → ∀ x12 : Int32, x12 = nI (cB (fun x => ahL (kE1 u) (kE2 u) x a) j) + 0 → ∀ x13 : Int32, x13 = nI j + 1 → LX10_strongest_20 c1 c2 (nI a) P K m x12 x13 q := by
      intro z x12 e12 x13 e13
      rw [nI_1] at e13
      rw [Int32.add_zero] at e12
      subst e12 e13
      exact hk _ (cB_s0 (f := fun x => ahL (kE1 u) (kE2 u) x a) z)
    have fin : ∀ (xa xb : Nat), xa = kE2 u a → xb = kE2 u j → xa ≤ 1 → xb ≤ 1 → JX10_strongest_98 c1 c2 (nI a) (nI (cB (fun x => ahL (kE1 u) (kE2 u) x a) j)) (nI j) (nI (kE1 u j) - nI (kE1 u a)) (nI xa) (nI xb) P (LX10_strongest_20 c1 c2 (nI a) P K m) K q := by
      intro xa xb ea eb h1 h2
      unfold JX10_strongest_98
      intro x11 e11
      subst e11
      refine ⟨fun c => y1 ?_, fun c => ⟨fun c2 => y0 ?_, fun c2 => ⟨fun c3 => y1 ?_, fun c3 => ⟨fun c4 => y0 ?_, fun c4 => ⟨fun c5 => y0 ?_, fun c5 => y1 ?_⟩⟩⟩⟩⟩
      all_goals
        simp only [d_pos (show kE1 u j < 2 ^ 30 by omega) (show kE1 u a < 2 ^ 30 by omega), d_zero (show kE1 u j < 2 ^ 30 by omega) (show kE1 u a < 2 ^ 30 by omega), d_pos (show xb < 2 ^ 30 by omega) (show xa < 2 ^ 30 by omega), d_zero (show xb < 2 ^ 30 by omega) (show xa < 2 ^ 30 by omega), nI_leI (show a < 2 ^ 31 by omega) (show j < 2 ^ 31 by omega)] at *
        rw [ahL_iff]
        omega
    have e1 : ∀ {j : Nat}, u 8 j = -1 → 1 = kE2 u j := fun z => (if_pos z).symm
    have e0 : ∀ {j : Nat}, ¬ u 8 j = -1 → 0 = kE2 u j := fun z => (if_neg z).symm
    have n0 : nI 0 = 0 := rfl
    have n1 : nI 1 = 1 := rfl
    rw [LX10_strongest_20, ic_1, hn]
    refine ⟨in_1, fun z => absurd z (nI_ge hj (by omega)), fun _ => ?_⟩
    unfold w_X10_echoAt
    simp only [ie_E1 hj8, rm_E1 h hj8, ie_E1 ha8, rm_E1 h ha8, dj, da]
    refine ⟨iv_E1 hj8, iv_E1 ha8, ?_⟩
    intro x6 e6
    subst e6
    simp only [ie_E2 hj8, rm_E2 h hj8]
    refine ⟨iv_E2 hj8, fun zb => ?_, fun zb => ?_⟩
    · unfold JX10_strongest_78 w_X10_echoAt
      simp only [ie_E2 ha8, rm_E2 h ha8]
      exact ⟨iv_E2 ha8, fun za => fin 0 0 (e0 za) (e0 zb) (by decide) (by decide), fun za => fin 1 0 (e1 za) (e0 zb) (by decide) (by decide)⟩
    · unfold JX10_strongest_78 w_X10_echoAt
      simp only [ie_E2 ha8, rm_E2 h ha8]
      exact ⟨iv_E2 ha8, fun za => fin 0 1 (e0 za) (e1 zb) (by decide) (by decide), fun za => fin 1 1 (e1 za) (e1 zb) (by decide) (by decide)⟩
theorem r_strongest (h : RM (q.1 1) 0 u) (hI : Inv n u) (p : Int32) (k0 : fnd (rkL (kE1 u) (kE2 u) (cE u)) p (cE u) = -1 → P 0 (up2 q.1 0 15 1, q.2)) (k1 : ¬ fnd (rkL (kE1 u) (kE2 u) (cE u)) p (cE u) = -1 → P (fnd (rkL (kE1 u) (kE2 u) (cE u)) p (cE u)) (up2 q.1 0 15 0, q.2)) : w_X10_strongest p q P := by
  have hc := hI.1
  have hbR := hc.2.1.2
  have hn := (rm_1 h).trans hc.2.1.1
  unfold w_X10_strongest
  refine lp_0 (fun m v i => LX10_strongest_4 p P _ m v i q) (fun j v => v = fnd (rkL (kE1 u) (kE2 u) (cE u)) p j) (cE u) (-1) rfl (fun m v hv => ?_) (fun m j v hj hv hk => ?_)
  · subst hv
    rw [LX10_strongest_4, ic_1, hn]
    refine ⟨in_1, fun _ => ⟨fun z => ?_, fun z => ?_⟩, fun z => absurd (nI_le (Nat.le_refl _) (by omega)) z⟩
    · exact r_goes (fun _ => ⟨fun _ => k0 z, fun w => absurd rfl w⟩) (fun w => absurd rfl w) (fun w => absurd rfl w)
    · exact r_goes (fun w => absurd w i10) (fun _ w => absurd w i10) (fun _ _ => ⟨fun w => absurd w i10, fun _ => k1 z⟩)
  · subst hv
    rw [LX10_strongest_4, ic_1, hn]
    refine ⟨in_1, fun z => absurd z (nI_ge hj (by omega)), fun _ => r_cntE h hI hj _ _ ⟨fun z => ?_, fun z => ?_⟩⟩
    · intro x26 e26
      rw [nI_1] at e26
      subst e26
      refine hk _ ?_
      show _ = if _ then _ else _
      rw [if_neg z]
    · intro x27 e27
      rw [nI_1] at e27
      subst e27
      refine hk _ ?_
      show _ = if _ then _ else _
      rw [if_pos z]
theorem r_rankOf (h : RM (q.1 1) 0 u) (c : Int32) {j : Nat} (hj : j < 6) (k : P (rv_ u c j) q) : w_X10_rankOf (nI j) c q P := by
  unfold w_X10_rankOf w_X10_singerAt
  unfold rv_ at k
  simp only [ie_S0 hj, rm_S0 h hj, ie_S1 hj, rm_S1 h hj, ie_S3 hj, rm_S3 h hj, ie_S4 hj, rm_S4 h hj]
  refine ⟨fun e => ⟨fun e1 => ⟨fun e2 => ⟨iv_S0 hj, ?_⟩, fun e2 => ⟨iv_S3 hj, ?_⟩⟩, fun e1 => ⟨iv_S4 hj, ?_⟩⟩, fun e => ⟨iv_S1 hj, ?_⟩⟩
  · rw [if_neg e, if_neg e1, if_neg e2] at k
    exact k
  · rw [if_neg e, if_neg e1, if_pos e2] at k
    exact k
  · rw [if_neg e, if_pos e1] at k
    exact k
  · rw [if_pos e] at k
    exact k
theorem r_cntS (h : RM (q.1 1) 0 u) (hI : Inv n u) (hn9 : n ≤ 10000) (c : Int32) {a : Nat} (ha : a < cS u) (c2 c3 : Int32) {K : Int32 → aS → Prop} (k : K (nI (rkL (kS1 u c) kS2 (cS u) a)) q) : ∃ M, LX10_ranked_22 c c2 c3 (nI a) P K M 0 0 q := by
  have hc := hI.1
  have hbR := hc.2.2.2
  have hn := (rm_2 h).trans hc.2.2.1
  obtain ⟨da, la⟩ := kS1_e hI hn9 c ha
  refine lp_0 (fun m v i => LX10_ranked_22 c c2 c3 (nI a) P K m v i q) (fun j v => v = nI (cB (fun x => ahL (kS1 u c) kS2 x a) j)) (cS u) 0 rfl (fun m v hv => ?_) (fun m j v hj hv hk => ?_)
  · subst hv
    rw [LX10_ranked_22, ic_2, hn]
    exact ⟨in_2, fun _ => k, fun z => absurd (nI_le (Nat.le_refl _) (by omega)) z⟩
  · subst hv
    obtain ⟨dj, lj⟩ := kS1_e hI hn9 c hj
    have y1 : ahL (kS1 u c) kS2 j a = true → ∀ x12 : Int32, x12 = nI (cB (fun x => ahL (kS1 u c) kS2 x a) j) + 1 → ∀ x13 : Int32, x13 = nI j + 1 → LX10_ranked_22 c c2 c3 (nI a) P K m x12 x13 q := by
      intro z x12 e12 x13 e13
      rw [nI_1] at e13
      subst e12 e13
      exact hk _ (cB_s1 (f := fun x => ahL (kS1 u c) kS2 x a) z)
    have y0 : ¬ ahL (kS1 u c) kS2 j a = true → ∀ x12 : Int32, x12 = nI (cB (fun x => ahL (kS1 u c) kS2 x a) j) + 0 → ∀ x13 : Int32, x13 = nI j + 1 → LX10_ranked_22 c c2 c3 (nI a) P K m x12 x13 q := by
      intro z x12 e12 x13 e13
      rw [nI_1] at e13
      rw [Int32.add_zero] at e12
      subst e12 e13
      exact hk _ (cB_s0 (f := fun x => ahL (kS1 u c) kS2 x a) z)
    rw [LX10_ranked_22, ic_2, hn]
    refine ⟨in_2, fun z => absurd z (nI_ge hj (by omega)), fun _ => r_rankOf h c (by omega) (r_rankOf h c (by omega) ?_)⟩
    rw [dj, da]
    intro x7 e7
    subst e7
    have e2 : kS2 j = kS2 a := rfl
    refine ⟨fun c => y1 ?_, fun c => ⟨fun c2 => y0 ?_, fun c2 => ⟨fun c5 => y0 ?_, fun c5 => y1 ?_⟩⟩⟩
    all_goals
      simp only [d_pos lj la, d_zero lj la, nI_leI (show a < 2 ^ 31 by omega) (show j < 2 ^ 31 by omega)] at *
      rw [ahL_iff]
      omega
end RANK2
section ASK4
variable {s : Nat} {q : aS} {dM : pU}
theorem po_25 (hN : INV s q dM) (v : Nat → Int64) (vd : Nat → UInt64) (p1 p2 p3 : Int32) : ob_25 v vd p1 p2 p3 q (dM, []) (K1 s) := by
  have hN' := hN
  obtain ⟨⟨u, n1, n2, hI⟩, -⟩ := hN
  have hc := hI.1
  have hb := hc.1.2
  have hn := (rx_2 n1).trans hc.1.1
  unfold ob_25 w_X9_dampest
  refine lp_0 (fun m (_ : Unit) t => LX9_dampest_2 p1 _ _ _ m t q) (fun t _ => ∀ j, j < t → ¬ nI (rkL (kR1 u) (kR2 u) (cR u) j) = p1) (cR u) () (fun j hj => absurd hj (by omega)) (fun m v hv => ?_) (fun m j v' hj hv hk => ?_)
  · rw [LX9_dampest_2, hn]
    refine ⟨fun _ => ⟨rfl, ?_⟩, fun z => absurd (nI_le (Nat.le_refl _) (by omega)) z⟩
    simp only [lPo_f]
    exact r_dampest (q := (dM, [])) n2 hI p1 (fun _ => g_k (by decide) hN') (fun z => absurd (fnd_none hv) z)
  · rw [LX9_dampest_2, hn]
    refine ⟨fun z => absurd z (nI_ge hj (by omega)), fun _ => x_countRoomsAhead n1 hI hj ⟨fun z => ?_, fun z => ?_⟩⟩
    · intro x4 e4
      rw [nI_1] at e4
      subst e4
      refine hk () (fun j' hj' => ?_)
      rcases Nat.lt_or_ge j' j with w | w
      · exact hv j' w
      · rw [show j' = j by omega]
        exact z
    · simp only [lPo_f]
      have e := fnd_some (k1 := kR1 u) (k2 := kR2 u) (N := cR u) (by omega) hj z hj (Nat.le_refl _)
      refine r_dampest (q := (dM, [])) n2 hI p1 (fun w => absurd (e.symm.trans w) (nI_nm (by omega))) (fun _ => ?_)
      rw [e]
      exact g_0 hN'
theorem po_27 (hN : INV s q dM) (v : Nat → Int64) (vd : Nat → UInt64) (p1 p2 p3 : Int32) : ob_27 v vd p1 p2 p3 q (dM, []) (K1 s) := by
  have hN' := hN
  obtain ⟨⟨u, n1, n2, hI⟩, -⟩ := hN
  have hc := hI.1
  have hb := hc.2.1.2
  have hn := (rx_6 n1).trans hc.2.1.1
  unfold ob_27 w_X9_strongest
  refine lp_0 (fun m (_ : Unit) t => LX9_strongest_2 p1 _ _ _ m t q) (fun t _ => ∀ j, j < t → ¬ nI (rkL (kE1 u) (kE2 u) (cE u) j) = p1) (cE u) () (fun j hj => absurd hj (by omega)) (fun m v hv => ?_) (fun m j v' hj hv hk => ?_)
  · rw [LX9_strongest_2, hn]
    refine ⟨fun _ => ⟨rfl, ?_⟩, fun z => absurd (nI_le (Nat.le_refl _) (by omega)) z⟩
    simp only [lPo_f]
    exact r_strongest (q := (dM, [])) n2 hI p1 (fun _ => g_k (by decide) hN') (fun z => absurd (fnd_none hv) z)
  · rw [LX9_strongest_2, hn]
    refine ⟨fun z => absurd z (nI_ge hj (by omega)), fun _ => x_countEchoesAhead n1 hI hj ⟨fun z => ?_, fun z => ?_⟩⟩
    · intro x4 e4
      rw [nI_1] at e4
      subst e4
      refine hk () (fun j' hj' => ?_)
      rcases Nat.lt_or_ge j' j with w | w
      · exact hv j' w
      · rw [show j' = j by omega]
        exact z
    · simp only [lPo_f]
      have e := fnd_some (k1 := kE1 u) (k2 := kE2 u) (N := cE u) (by omega) hj z hj (Nat.le_refl _)
      refine r_strongest (q := (dM, [])) n2 hI p1 (fun w => absurd (e.symm.trans w) (nI_nm (by omega))) (fun _ => ?_)
      rw [e]
      exact g_0 hN'
theorem r_ranked {u : pU} {n : Nat} {P : Int32 → aS → Prop} (h : RM (q.1 1) 0 u) (hI : Inv n u) (hn9 : n ≤ 10000) (c p : Int32) (kc : (c < 0 ∨ 3 < c) → P 0 (up2 q.1 0 15 1, q.2)) (k0 : ¬ (c < 0 ∨ 3 < c) → fnd (rkL (kS1 u c) kS2 (cS u)) p (cS u) = -1 → P 0 (up2 q.1 0 15 2, q.2)) (k1 : ¬ (c < 0 ∨ 3 < c) → ¬ fnd (rkL (kS1 u c) kS2 (cS u)) p (cS u) = -1 → P (fnd (rkL (kS1 u c) kS2 (cS u)) p (cS u)) (up2 q.1 0 15 0, q.2)) : w_X10_ranked c p q P := by
  have hc := hI.1
  have hbR := hc.2.2.2
  have hn := (rm_2 h).trans hc.2.2.1
  unfold w_X10_ranked
  refine lp_0 (fun m v i => LX10_ranked_5 c p P _ m v i q) (fun j v => v = fnd (rkL (kS1 u c) kS2 (cS u)) p j) (cS u) (-1) rfl (fun m v hv => ?_) (fun m j v hj hv hk => ?_)
  · subst hv
    rw [LX10_ranked_5, ic_2, hn]
    refine ⟨in_2, fun _ => r_isIn (fun z => ?_) (fun z1 z2 => ?_), fun z => absurd (nI_le (Nat.le_refl _) (by omega)) z⟩
    · have h9 : ∀ a b, JX10_ranked_119 a b 0 P q := fun a b => r_goes (fun _ => ⟨fun _ => kc z, fun w => absurd rfl w⟩) (fun w => absurd rfl w) (fun w => absurd rfl w)
      exact ⟨fun _ => h9 _ _, fun _ => h9 _ _⟩
    · have zc : ¬ (c < 0 ∨ 3 < c) := fun w => w.elim z1 z2
      refine ⟨fun z => ?_, fun z => ?_⟩
      · exact r_goes (fun w => absurd w i10) (fun _ _ => ⟨fun _ => k0 zc z, fun w => absurd rfl w⟩) (fun _ w => absurd rfl w)
      · exact r_goes (fun w => absurd w i10) (fun _ w => absurd w i10) (fun _ _ => ⟨fun w => absurd w i10, fun _ => k1 zc z⟩)
  · subst hv
    rw [LX10_ranked_5, ic_2, hn]
    refine ⟨in_2, fun z => absurd z (nI_ge hj (by omega)), fun _ => r_cntS h hI hn9 c hj _ _ ⟨fun z => ?_, fun z => ?_⟩⟩
    · intro x26 e26
      rw [nI_1] at e26
      subst e26
      refine hk _ ?_
      show _ = if _ then _ else _
      rw [if_neg z]
    · intro x27 e27
      rw [nI_1] at e27
      subst e27
      refine hk _ ?_
      show _ = if _ then _ else _
      rw [if_pos z]
theorem po_26 (hs5 : s < 512) (hN : INV s q dM) (v : Nat → Int64) (vd : Nat → UInt64) (p1 p2 p3 : Int32) : ob_26 v vd p1 p2 p3 q (dM, []) (K1 s) := by
  have hN' := hN
  obtain ⟨⟨u, n1, n2, hI⟩, -⟩ := hN
  have hc := hI.1
  have hb := hc.2.2.2
  have hn := (rx_12 n1).trans hc.2.2.1
  have bad : (p1 < 0 ∨ 3 < p1) → lPo (w_X10_ranked p1 p2 (dM, [])) (K1 s) 1 (v, vd, q) := fun z => by
    simp only [lPo_f]
    exact r_ranked (q := (dM, [])) n2 hI (by omega) p1 p2 (fun _ => g_k (by decide) hN') (fun w => absurd z w) (fun w => absurd z w)
  unfold ob_26 w_X9_ranked JX9_ranked_9
  refine ⟨fun c => Or.inl ⟨rfl, bad (Or.inl c)⟩, fun c1 => ⟨fun c2 => ?_, fun c2 => Or.inl ⟨rfl, bad (Or.inr (lt_of_nle c2))⟩⟩⟩
  have zc : ¬ (p1 < 0 ∨ 3 < p1) := fun w => w.elim c1 (nlt_of_le c2)
  refine lp_0 (fun m (_ : Unit) t => LX9_ranked_21 p1 p2 _ _ _ m t q) (fun t _ => ∀ j, j < t → ¬ nI (rkL (kS1 u p1) kS2 (cS u) j) = p2) (cS u) () (fun j hj => absurd hj (by omega)) (fun m v hv => ?_) (fun m j v' hj hv hk => ?_)
  · rw [LX9_ranked_21, hn]
    refine ⟨fun _ => Or.inr ⟨rfl, ?_⟩, fun z => absurd (nI_le (Nat.le_refl _) (by omega)) z⟩
    simp only [lPo_f]
    exact r_ranked (q := (dM, [])) n2 hI (by omega) p1 p2 (fun w => absurd w zc) (fun _ _ => g_k (by decide) hN') (fun _ z => absurd (fnd_none hv) z)
  · rw [LX9_ranked_21, hn]
    refine ⟨fun z => absurd z (nI_ge hj (by omega)), fun _ => x_countSingersAhead n1 hI (by omega) p1 hj ⟨fun z => ?_, fun z => ?_⟩⟩
    · intro x4 e4
      rw [nI_1] at e4
      subst e4
      refine hk () (fun j' hj' => ?_)
      rcases Nat.lt_or_ge j' j with w | w
      · exact hv j' w
      · rw [show j' = j by omega]
        exact z
    · simp only [lPo_f]
      have e := fnd_some (k1 := kS1 u p1) (k2 := kS2) (N := cS u) (by omega) hj z hj (Nat.le_refl _)
      refine r_ranked (q := (dM, [])) n2 hI (by omega) p1 p2 (fun w => absurd w zc) (fun _ w => absurd (e.symm.trans w) (nI_nm (by omega))) (fun _ _ => ?_)
      rw [e]
      exact g_0 hN'
end ASK4

/-! the line of a singer, a letter of the line -/
theorem pr_lt {x : Int32} {n : Nat} (hn : n ≤ 60) : (nI n - 1 < x) ↔ ¬ x < nI n := by
  have e : (nI n - nI 1).toInt = (n : Int) - (1 : Nat) := pk_sub_toInt (by omega) (by omega)
  have e2 : (nI n).toInt = (n : Int) := nI_toInt (by omega)
  rw [show (1 : Int32) = nI 1 from rfl, Int32.lt_iff_toInt_lt, Int32.lt_iff_toInt_lt, e, e2]
  omega
section PO35
variable {s : Nat} {q : aS} {dM : pU}
theorem po_35 (hN : INV s q dM) (v : Nat → Int64) (vd : Nat → UInt64) (p1 p2 p3 : Int32) : ob_35 v vd p1 p2 p3 q (dM, []) (K1 s) := by
  have hN' := hN
  obtain ⟨⟨u, n1, n2, hI⟩, -⟩ := hN
  have hc := hI.1
  have hbR := hc.1.2
  have hb := hc.2.2.2
  have m2 : RM ((dM, ([] : List Nat)).1 1) 0 u := n2
  have n3 : RM (up2 dM 0 15 0 1) 0 u := n2.g 15 0
  unfold ob_35 w_X9_tellSinger w_X9_checkSinger
  refine x_hasSinger n1 hc p1 (fun c => ⟨fun z => absurd rfl z, fun _ => ⟨rfl, ?_⟩⟩) (fun j hj e => ⟨fun _ => ?_, fun z => absurd z i10⟩)
  · show w_X10_tellSinger p1 (dM, []) (fP s v 1 q)
    unfold w_X10_tellSinger
    exact rg_singer m2 hc (fun _ => ⟨fun z => absurd rfl z, fun _ => g_k (by decide) hN'⟩) (fun j hj e => absurd (e ▸ c) (has_no hj (by omega)))
  · subst e
    have hj6 : j < 6 := by omega
    obtain ⟨⟨a, a1, a2, ea⟩, ⟨b, b1, b2, eb⟩, hin, -⟩ := hI.2.2.2.1 j hj
    have hgb := dgn_2 b
    intro q4 E
    subst E
    refine ⟨j, rfl, by omega, by rw [dgn_1 (by omega)]; exact (by decide : 0 + 1 ≤ 60), ?_⟩
    intro q5 E
    subst E
    dsimp only
    have l1 : ([] ++ dgs j).length = 1 := by rw [dgs_l, dgn_1 (by omega)]; rfl
    refine ⟨by rw [l1]; decide, ?_⟩
    intro q7 E
    subst E
    dsimp only
    have l2 : ([] ++ dgs j ++ [33]).length = 2 := by rw [app_len, l1]
    rw [nI_c (show j < 100000 by omega), rx_13 n1 hj6, ea]
    refine ⟨vp_in_nI hj6 (by decide), a, rfl, by omega, by rw [l2, dgn_1 (by omega)]; decide, ?_⟩
    intro q8 E
    subst E
    dsimp only
    have l3 : ([] ++ dgs j ++ [33] ++ dgs a).length = 3 := by rw [dgs_l, l2, dgn_1 (by omega)]
    refine ⟨by rw [l3]; decide, ?_⟩
    intro q10 E
    subst E
    dsimp only
    have l4 : ([] ++ dgs j ++ [33] ++ dgs a ++ [37]).length = 4 := by rw [app_len, l3]
    rw [rx_14 n1 hj6, eb]
    refine ⟨vp_in_nI hj6 (by decide), b, rfl, by omega, by rw [l4]; omega, ?_⟩
    intro q11 E
    subst E
    have l5 : ([] ++ dgs j ++ [33] ++ dgs a ++ [37] ++ dgs b).length = 4 + dgn b := by rw [dgs_l, l4]
    have l6 : ([] ++ dgs j ++ [33] ++ dgs a ++ [37] ++ dgs b ++ [64]).length = 5 + dgn b := by rw [app_len, l5]; omega
    have e14 : ∀ (d : pU) (x : Int32), up2 d 0 14 x 0 14 = x := fun d x => by rw [up2_at, if_pos ⟨rfl, rfl⟩]
    have ref : ∀ {Q : Int32 → aS → Prop}, (∀ d5, LW (up2 dM 0 15 0) ([] ++ dgs j ++ [33] ++ dgs a ++ [37] ++ dgs b) d5 → ((u 14 j = -1 → Q (nI ([] ++ dgs j ++ [33] ++ dgs a ++ [37] ++ dgs b).length) (up2 d5 0 14 (nI ([] ++ dgs j ++ [33] ++ dgs a ++ [37] ++ dgs b).length), [])) ∧ (¬ u 14 j = -1 → ∀ r, u 14 j = nI r → r < 6 → ∀ d6, LW (up2 dM 0 15 0) ([] ++ dgs j ++ [33] ++ dgs a ++ [37] ++ dgs b ++ [64] ++ dgs r) d6 → Q (nI ([] ++ dgs j ++ [33] ++ dgs a ++ [37] ++ dgs b ++ [64] ++ dgs r).length) (up2 d6 0 14 (nI ([] ++ dgs j ++ [33] ++ dgs a ++ [37] ++ dgs b ++ [64] ++ dgs r).length), [])))) → w_X10_tellSinger (nI j) (dM, []) Q := by
      intro Q kQ
      unfold w_X10_tellSinger
      refine rg_singer m2 hc (fun c => absurd c (has_no hj (by omega))) (fun j' hj' e => ⟨fun _ => ?_, fun z => absurd z i10⟩)
      unfold w_X10_singerAt
      refine m_num (LW.nil (up2 dM 0 15 0)) (w := j) (by omega) (by rw [dgn_1 (by omega)]; exact (by decide : 0 + 1 ≤ 60)) rfl rfl (fun d1 h1 => ?_)
      refine m_put h1 (c := 33) (by decide) (by rw [l1]; decide) rfl rfl (fun d2 h2 => ?_)
      dsimp only
      rw [ie_S0 hj6, rm_S0 (h2.rm n3) hj6, ea]
      refine ⟨iv_S0 hj6, m_num h2 (w := a) (by omega) (by rw [l2, dgn_1 (by omega)]; decide) rfl rfl (fun d3 h3 => ?_)⟩
      refine m_put h3 (c := 37) (by decide) (by rw [l3]; decide) rfl rfl (fun d4 h4 => ?_)
      dsimp only
      rw [ie_S1 hj6, rm_S1 (h4.rm n3) hj6, eb]
      refine ⟨iv_S1 hj6, m_num h4 (w := b) (by omega) (by rw [l4]; omega) rfl rfl (fun d5 h5 => ?_)⟩
      dsimp only
      rw [ie_S2 hj6, rm_S2 (h5.rm n3) hj6]
      refine ⟨iv_S2 hj6, fun y => ?_, fun y => ?_⟩
      · obtain ⟨r, hr, er⟩ := hin.resolve_left y
        refine m_put h5 (c := 64) (by decide) (by rw [l5]; omega) rfl rfl (fun d6 h6 => ?_)
        dsimp only
        rw [rm_S2 (h6.rm n3) hj6]
        refine ⟨iv_S2 hj6, m_num h6 (w := r) (by omega) (by rw [l6, dgn_1 (w := r) (by omega)]; omega) rfl er (fun d7 h7 => ?_)⟩
        intro q22 E
        subst E
        dsimp only
        rw [e14]
        exact (kQ d5 h5).2 y r er (by omega) d7 h7
      · intro q23 E
        subst E
        dsimp only
        rw [e14]
        exact (kQ d5 h5).1 y
    refine x_isInside (q := (q.1, [] ++ dgs j ++ [33] ++ dgs a ++ [37] ++ dgs b)) n1 hj6 (fun y => ⟨fun _ => ?_, fun z => absurd rfl z⟩) (fun y => ⟨fun z => absurd z i10, fun _ => ?_⟩)
    · dsimp only
      show w_X10_tellSinger (nI j) (dM, []) (fP s _ 0 (q.1, _))
      exact ref (fun d5 h5 => ⟨fun _ => lin_end hN' h5 v, fun z => absurd y z⟩)
    · obtain ⟨r, hr, er⟩ := hin.resolve_left y
      refine ⟨by show ([] ++ dgs j ++ [33] ++ dgs a ++ [37] ++ dgs b).length + 1 ≤ 60; rw [l5]; omega, ?_⟩
      intro q12 E
      subst E
      dsimp only
      rw [rx_15 n1 hj6, er]
      refine ⟨vp_in_nI hj6 (by decide), r, rfl, by omega, by rw [l6, dgn_1 (w := r) (by omega)]; omega, ?_⟩
      intro q13 E
      subst E
      dsimp only
      show w_X10_tellSinger (nI j) (dM, []) (fP s _ 0 (q.1, _))
      refine ref (fun d5 h5 => ⟨fun z => absurd z y, fun _ r' e1 e2 d6 h6 => ?_⟩)
      have f1 : r' = r := nI_inj (by omega) (by omega) (e1.symm.trans er)
      subst f1
      exact lin_end hN' h6 v
theorem po_36 (hN : INV s q dM) (v : Nat → Int64) (vd : Nat → UInt64) (p1 p2 p3 : Int32) : ob_36 v vd p1 p2 p3 q (dM, []) (K1 s) := by
  have hN' := hN
  obtain ⟨-, -, -, -, -, -, -, hL1, hL2, hL3⟩ := hN
  have hn : narrow .char (.int (0 : Int32)) = .int 0 := rfl
  have bad : (p1 < 0 ∨ ¬ p1 < nI q.2.length) → w_X10_character p1 (dM, []) (fP s v 1 q) := by
    intro hb
    unfold w_X10_character
    dsimp only
    rw [hL2]
    refine r_isIn (fun _ => r_goes (fun _ => ⟨fun _ => ⟨hn, g_k (by decide) hN'⟩, fun z => absurd rfl z⟩) (fun z => absurd rfl z) (fun z => absurd rfl z)) (fun c1 c2 => ?_)
    rcases hb with hb | hb
    · exact absurd hb c1
    · exact absurd ((pr_lt hL1).mpr hb) c2
  unfold ob_36 w_X9_character JX9_character_15
  refine ⟨fun c => ⟨rfl, bad (Or.inl c)⟩, fun c1 => ⟨fun c2 => ?_, fun c2 => ⟨rfl, bad (Or.inr c2)⟩⟩⟩
  obtain ⟨j, hj, e⟩ := has_of (x := p1) (n := q.2.length) (by omega) c1 (fun z => absurd c2 (nlt_of_le z))
  subst e
  obtain ⟨g1, g2⟩ := hL3 j hj
  refine ⟨j, rfl, hj, g2, (ch_1 _ g2).2, ?_⟩
  show w_X10_character (nI j) (dM, []) (fP s _ 0 q)
  unfold w_X10_character
  dsimp only
  rw [hL2]
  refine r_isIn (fun c => ?_) (fun _ _ => r_goes (fun z => absurd z i10) (fun _ z => absurd z i10) (fun _ _ => ⟨fun z => absurd z i10, fun _ => ⟨vp_in_nI (by omega) (by decide), ?_⟩⟩))
  · rcases c with c | c
    · exact absurd c c1
    · exact absurd c2 ((pr_lt hL1).mp c)
  · dsimp only
    rw [nI_c (by omega), up2_ne _ _ _ (show 6 ≠ 0 by decide), g1, (ch_1 _ g2).1]
    exact ⟨(ch_1 _ g2).2, g_0 hN'⟩
end PO35

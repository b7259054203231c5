/-! the four that ask for the line -/
section PO33
variable {s : Nat} {q : aS} {dM : pU}
theorem po_33 (hN : INV s q dM) (v : Nat → Int64) (vd : Nat → UInt64) (p1 p2 p3 : Int32) : ob_33 v vd p1 p2 p3 q (dM, []) (K1 s) := by
  have hN' := hN
  obtain ⟨⟨u, n1, n2, hI⟩, -⟩ := hN
  have hc := hI.1
  have hb := hc.1.2
  have hbE := hc.2.1.2
  have hbS := hc.2.2.2
  have m2 : RM ((dM, ([] : List Nat)).1 1) 0 u := n2
  have n3 : RM (up2 dM 0 15 0 1) 0 u := n2.g 15 0
  unfold ob_33 w_X9_tellRoom w_X9_checkRoom
  refine x_hasRoom n1 hc p1 (fun c => ⟨fun z => absurd rfl z, fun _ => ⟨rfl, ?_⟩⟩) (fun j hj e => ⟨fun _ => ?_, fun z => absurd z i10⟩)
  · show w_X10_tellRoom p1 (dM, []) (fP s v 1 q)
    unfold w_X10_tellRoom
    exact rg_room m2 hc (fun _ => ⟨fun z => absurd rfl z, fun _ => g_k (by decide) hN'⟩) (fun j hj e => absurd (e ▸ c) (has_no hj (by omega)))
  · subst e
    have hj6 : j < 6 := by omega
    obtain ⟨⟨a, a1, a2, ea⟩, b, b1, b2, eb⟩ := hI.2.1 j hj
    intro q4 E
    subst E
    refine ⟨j, rfl, by omega, by rw [dgn_1 (by omega)]; exact (by decide : 0 + 1 ≤ 60), ?_⟩
    intro q5 E
    subst E
    dsimp only
    have l1 : ([] ++ dgs j).length = 1 := by rw [dgs_l, dgn_1 (by omega)]; rfl
    refine ⟨by rw [l1]; decide, ?_⟩
    intro q7 E
    subst E
    dsimp only
    have l2 : ([] ++ dgs j ++ [91]).length = 2 := by rw [app_len, l1]
    rw [nI_c (show j < 100000 by omega), rx_3 n1 hj6, ea]
    refine ⟨vp_in_nI hj6 (by decide), a, rfl, by omega, by rw [l2, dgn_1 (by omega)]; decide, ?_⟩
    intro q8 E
    subst E
    dsimp only
    have l3 : ([] ++ dgs j ++ [91] ++ dgs a).length = 3 := by rw [dgs_l, l2, dgn_1 (by omega)]
    refine ⟨by rw [l3]; decide, ?_⟩
    intro q10 E
    subst E
    dsimp only
    have l4 : ([] ++ dgs j ++ [91] ++ dgs a ++ [126]).length = 4 := by rw [app_len, l3]
    rw [rx_4 n1 hj6, eb]
    refine ⟨vp_in_nI hj6 (by decide), b, rfl, by omega, by rw [l4, dgn_1 (by omega)]; decide, ?_⟩
    intro q11 E
    subst E
    dsimp only
    have l5 : ([] ++ dgs j ++ [91] ++ dgs a ++ [126] ++ dgs b).length = 5 := by rw [dgs_l, l4, dgn_1 (by omega)]
    refine ⟨by rw [l5]; decide, ?_⟩
    intro q13 E
    subst E
    have l6 : ([] ++ dgs j ++ [91] ++ dgs a ++ [126] ++ dgs b ++ [93]).length = 6 := by rw [app_len, l5]
    have l7 := txE_len q.1 (nI j) (cE u)
    refine ⟨cE u, hbE, (rx_6 n1).trans hc.2.1.1, by show ([] ++ dgs j ++ [91] ++ dgs a ++ [126] ++ dgs b ++ [93]).length + _ ≤ 60; rw [l6]; omega, ?_⟩
    refine ⟨cS u, hbS, (rx_12 n1).trans hc.2.2.1, by show ([] ++ dgs j ++ [91] ++ dgs a ++ [126] ++ dgs b ++ [93] ++ txE q.1 (nI j) (cE u)).length + _ ≤ 60; rw [List.length_append, l6]; omega, ?_⟩
    dsimp only
    show w_X10_tellRoom (nI j) (dM, []) (fP s _ 0 (q.1, _))
    unfold w_X10_tellRoom
    refine rg_room m2 hc (fun c => absurd c (has_no hj (by omega))) (fun j' hj' e => ⟨fun _ => ?_, fun z => absurd z i10⟩)
    refine m_num (LW.nil (up2 dM 0 15 0)) (w := j) (by omega) (by rw [dgn_1 (by omega)]; exact (by decide : 0 + 1 ≤ 60)) rfl rfl (fun d1 h1 => ?_)
    refine m_put h1 (c := 91) (by decide) (by rw [l1]; decide) rfl rfl (fun d2 h2 => ?_)
    unfold w_X10_roomAt
    dsimp only
    rw [ie_R0 hj6, rm_R0 (h2.rm n3) hj6, ea]
    refine ⟨iv_R0 hj6, m_num h2 (w := a) (by omega) (by rw [l2, dgn_1 (by omega)]; decide) rfl rfl (fun d3 h3 => ?_)⟩
    refine m_put h3 (c := 126) (by decide) (by rw [l3]; decide) rfl rfl (fun d4 h4 => ?_)
    dsimp only
    rw [ie_R1 hj6, rm_R1 (h4.rm n3) hj6, eb]
    refine ⟨iv_R1 hj6, m_num h4 (w := b) (by omega) (by rw [l4, dgn_1 (by omega)]; decide) rfl rfl (fun d5 h5 => ?_)⟩
    refine m_put h5 (c := 93) (by decide) (by rw [l5]; decide) rfl rfl (fun d6 h6 => ?_)
    have h76 := r_76 n1 hc n3 (x := nI j) (P := fP s (vp_updL v 0 ((nI ([] ++ dgs j ++ [91] ++ dgs a ++ [126] ++ dgs b ++ [93] ++ txE q.1 (nI j) (cE u) ++ txS q.1 (nI j) (cS u)).length).toInt64)) 0 (q.1, [] ++ dgs j ++ [91] ++ dgs a ++ [126] ++ dgs b ++ [93] ++ txE q.1 (nI j) (cE u) ++ txS q.1 (nI j) (cS u))) (t0 := [] ++ dgs j ++ [91] ++ dgs a ++ [126] ++ dgs b ++ [93])
      (K := fun y33 q34 => ∃ M46, LX10_tellRoom_143 (nI j) (fP s (vp_updL v 0 ((nI ([] ++ dgs j ++ [91] ++ dgs a ++ [126] ++ dgs b ++ [93] ++ txE q.1 (nI j) (cE u) ++ txS q.1 (nI j) (cS u)).length).toInt64)) 0 (q.1, [] ++ dgs j ++ [91] ++ dgs a ++ [126] ++ dgs b ++ [93] ++ txE q.1 (nI j) (cE u) ++ txS q.1 (nI j) (cS u))) (fun y43 q44 => ∀ q45 : aS, q45 = (up2 q44.1 0 14 y43, q44.2) → fP s (vp_updL v 0 ((nI ([] ++ dgs j ++ [91] ++ dgs a ++ [126] ++ dgs b ++ [93] ++ txE q.1 (nI j) (cE u) ++ txS q.1 (nI j) (cS u)).length).toInt64)) 0 (q.1, [] ++ dgs j ++ [91] ++ dgs a ++ [126] ++ dgs b ++ [93] ++ txE q.1 (nI j) (cE u) ++ txS q.1 (nI j) (cS u)) y43 q45) M46 y33 0 q34)
      (by rw [l6]; omega) (fun d7 h7 => ⟨cS u + 1, ?_⟩) (cE u) 0 d6 (by omega) (by rw [show txE q.1 (nI j) 0 = [] from rfl, List.append_nil]; exact h6)
    · rw [show txE q.1 (nI j) 0 = [] from rfl, List.append_nil] at h76
      exact ⟨cE u + 1, h76⟩
    · have h143 := r_143 n1 hc n3 (x := nI j) (P := fP s (vp_updL v 0 ((nI ([] ++ dgs j ++ [91] ++ dgs a ++ [126] ++ dgs b ++ [93] ++ txE q.1 (nI j) (cE u) ++ txS q.1 (nI j) (cS u)).length).toInt64)) 0 (q.1, [] ++ dgs j ++ [91] ++ dgs a ++ [126] ++ dgs b ++ [93] ++ txE q.1 (nI j) (cE u) ++ txS q.1 (nI j) (cS u))) (t0 := [] ++ dgs j ++ [91] ++ dgs a ++ [126] ++ dgs b ++ [93] ++ txE q.1 (nI j) (cE u))
        (K := fun y43 q44 => ∀ q45 : aS, q45 = (up2 q44.1 0 14 y43, q44.2) → fP s (vp_updL v 0 ((nI ([] ++ dgs j ++ [91] ++ dgs a ++ [126] ++ dgs b ++ [93] ++ txE q.1 (nI j) (cE u) ++ txS q.1 (nI j) (cS u)).length).toInt64)) 0 (q.1, [] ++ dgs j ++ [91] ++ dgs a ++ [126] ++ dgs b ++ [93] ++ txE q.1 (nI j) (cE u) ++ txS q.1 (nI j) (cS u)) y43 q45)
        (by rw [List.length_append, l6]; omega) (fun d8 h8 => ?_) (cS u) 0 d7 (by omega) (by rw [show txS q.1 (nI j) 0 = [] from rfl, List.append_nil]; exact h7)
      · rw [show txS q.1 (nI j) 0 = [] from rfl, List.append_nil] at h143
        exact h143
      · intro q45 E
        subst E
        exact lin_end hN' h8 v
theorem po_34 (hN : INV s q dM) (v : Nat → Int64) (vd : Nat → UInt64) (p1 p2 p3 : Int32) : ob_34 v vd p1 p2 p3 q (dM, []) (K1 s) := by
  have hN' := hN
  obtain ⟨⟨u, n1, n2, hI⟩, -⟩ := hN
  have hc := hI.1
  have hbR := hc.1.2
  have hb := hc.2.1.2
  have hbS := hc.2.2.2
  have m2 : RM ((dM, ([] : List Nat)).1 1) 0 u := n2
  have n3 : RM (up2 dM 0 15 0 1) 0 u := n2.g 15 0
  unfold ob_34 w_X9_tellEcho w_X9_checkEcho
  refine x_hasEcho n1 hc p1 (fun c => ⟨fun z => absurd rfl z, fun _ => ⟨rfl, ?_⟩⟩) (fun j hj e => ⟨fun _ => ?_, fun z => absurd z i10⟩)
  · show w_X10_tellEcho p1 (dM, []) (fP s v 1 q)
    unfold w_X10_tellEcho
    exact rg_echo m2 hc (fun _ => ⟨fun z => absurd rfl z, fun _ => g_k (by decide) hN'⟩) (fun j hj e => absurd (e ▸ c) (has_no hj (by omega)))
  · subst e
    have hj8 : j < 8 := by omega
    obtain ⟨⟨r, hr, er⟩, ⟨a, a1, a2, ea⟩, hlet⟩ := hI.2.2.1 j hj
    intro q4 E
    subst E
    refine ⟨j, rfl, by omega, by rw [dgn_1 (by omega)]; exact (by decide : 0 + 1 ≤ 60), ?_⟩
    intro q5 E
    subst E
    dsimp only
    have l1 : ([] ++ dgs j).length = 1 := by rw [dgs_l, dgn_1 (by omega)]; rfl
    refine ⟨by rw [l1]; decide, ?_⟩
    intro q7 E
    subst E
    dsimp only
    have l2 : ([] ++ dgs j ++ [94]).length = 2 := by rw [app_len, l1]
    rw [nI_c (show j < 100000 by omega), rx_8 n1 hj8, ea]
    refine ⟨vp_in_nI hj8 (by decide), a, rfl, by omega, by rw [l2, dgn_1 (by omega)]; decide, ?_⟩
    intro q8 E
    subst E
    dsimp only
    have l3 : ([] ++ dgs j ++ [94] ++ dgs a).length = 3 := by rw [dgs_l, l2, dgn_1 (by omega)]
    refine ⟨by rw [l3]; decide, ?_⟩
    intro q10 E
    subst E
    dsimp only
    have l4 : ([] ++ dgs j ++ [94] ++ dgs a ++ [64]).length = 4 := by rw [app_len, l3]
    rw [rx_7 n1 hj8, er]
    refine ⟨vp_in_nI hj8 (by decide), r, rfl, by omega, by rw [l4, dgn_1 (by omega)]; decide, ?_⟩
    intro q11 E
    subst E
    have l5 : ([] ++ dgs j ++ [94] ++ dgs a ++ [64] ++ dgs r).length = 5 := by rw [dgs_l, l4, dgn_1 (by omega)]
    have ref : ∀ {Q : Int32 → aS → Prop}, (∀ d5, LW (up2 dM 0 15 0) ([] ++ dgs j ++ [94] ++ dgs a ++ [64] ++ dgs r) d5 → ((u 8 j = -1 → Q (nI ([] ++ dgs j ++ [94] ++ dgs a ++ [64] ++ dgs r).length) (up2 d5 0 14 (nI ([] ++ dgs j ++ [94] ++ dgs a ++ [64] ++ dgs r).length), [])) ∧ (¬ u 8 j = -1 → ∀ sg w, u 8 j = nI sg → sg < 6 → u 9 j = nI w → w < 10 → ∀ d6, LW (up2 dM 0 15 0) ([] ++ dgs j ++ [94] ++ dgs a ++ [64] ++ dgs r ++ [61] ++ dgs sg ++ [47] ++ dgs w) d6 → Q (nI ([] ++ dgs j ++ [94] ++ dgs a ++ [64] ++ dgs r ++ [61] ++ dgs sg ++ [47] ++ dgs w).length) (up2 d6 0 14 (nI ([] ++ dgs j ++ [94] ++ dgs a ++ [64] ++ dgs r ++ [61] ++ dgs sg ++ [47] ++ dgs w).length), [])))) → w_X10_tellEcho (nI j) (dM, []) Q := by
      intro Q kQ
      unfold w_X10_tellEcho
      refine rg_echo m2 hc (fun c => absurd c (has_no hj (by omega))) (fun j' hj' e => ⟨fun _ => ?_, fun z => absurd z i10⟩)
      unfold w_X10_echoAt
      refine m_num (LW.nil (up2 dM 0 15 0)) (w := j) (by omega) (by rw [dgn_1 (by omega)]; exact (by decide : 0 + 1 ≤ 60)) rfl rfl (fun d1 h1 => ?_)
      refine m_put h1 (c := 94) (by decide) (by rw [l1]; decide) rfl rfl (fun d2 h2 => ?_)
      dsimp only
      rw [ie_E1 hj8, rm_E1 (h2.rm n3) hj8, ea]
      refine ⟨iv_E1 hj8, m_num h2 (w := a) (by omega) (by rw [l2, dgn_1 (by omega)]; decide) rfl rfl (fun d3 h3 => ?_)⟩
      refine m_put h3 (c := 64) (by decide) (by rw [l3]; decide) rfl rfl (fun d4 h4 => ?_)
      dsimp only
      rw [ie_E0 hj8, rm_E0 (h4.rm n3) hj8, er]
      refine ⟨iv_E0 hj8, m_num h4 (w := r) (by omega) (by rw [l4, dgn_1 (by omega)]; decide) rfl rfl (fun d5 h5 => ?_)⟩
      dsimp only
      rw [ie_E2 hj8, rm_E2 (h5.rm n3) hj8]
      refine ⟨iv_E2 hj8, fun y => ?_, fun y => ?_⟩
      · intro q18 E
        subst E
        exact (kQ d5 h5).1 y
      · obtain ⟨⟨sg, hs1, hs2⟩, w, w1, w2, ew⟩ := hlet.resolve_left (fun z => y z.1)
        refine m_put h5 (c := 61) (by decide) (by rw [l5]; decide) rfl rfl (fun d6 h6 => ?_)
        have l6 : ([] ++ dgs j ++ [94] ++ dgs a ++ [64] ++ dgs r ++ [61]).length = 6 := by rw [app_len, l5]
        dsimp only
        rw [rm_E2 (h6.rm n3) hj8]
        refine ⟨iv_E2 hj8, m_num h6 (w := sg) (by omega) (by rw [l6, dgn_1 (by omega)]; decide) rfl hs2 (fun d7 h7 => ?_)⟩
        have l7 : ([] ++ dgs j ++ [94] ++ dgs a ++ [64] ++ dgs r ++ [61] ++ dgs sg).length = 7 := by rw [dgs_l, l6, dgn_1 (by omega)]
        refine m_put h7 (c := 47) (by decide) (by rw [l7]; decide) rfl rfl (fun d8 h8 => ?_)
        have l8 : ([] ++ dgs j ++ [94] ++ dgs a ++ [64] ++ dgs r ++ [61] ++ dgs sg ++ [47]).length = 8 := by rw [app_len, l7]
        dsimp only
        rw [ie_E3 hj8, rm_E3 (h8.rm n3) hj8]
        refine ⟨iv_E3 hj8, m_num h8 (w := w) (by omega) (by rw [l8, dgn_1 (by omega)]; decide) rfl ew (fun d9 h9 => ?_)⟩
        intro q27 E
        subst E
        exact (kQ d5 h5).2 y sg w hs2 (by omega) ew (by omega) d9 h9
    refine x_isLet (q := (q.1, [] ++ dgs j ++ [94] ++ dgs a ++ [64] ++ dgs r)) n1 hj8 (fun y => ⟨fun _ => ?_, fun z => absurd rfl z⟩) (fun y => ⟨fun z => absurd z i10, fun _ => ?_⟩)
    · dsimp only
      show w_X10_tellEcho (nI j) (dM, []) (fP s _ 0 (q.1, _))
      exact ref (fun d5 h5 => ⟨fun _ => lin_end hN' h5 v, fun z => absurd y z⟩)
    · obtain ⟨⟨sg, hs1, hs2⟩, w, w1, w2, ew⟩ := hlet.resolve_left (fun z => y z.1)
      refine ⟨by show ([] ++ dgs j ++ [94] ++ dgs a ++ [64] ++ dgs r).length + 1 ≤ 60; rw [l5]; decide, ?_⟩
      intro q12 E
      subst E
      dsimp only
      have l6 : ([] ++ dgs j ++ [94] ++ dgs a ++ [64] ++ dgs r ++ [61]).length = 6 := by rw [app_len, l5]
      have l7 : ([] ++ dgs j ++ [94] ++ dgs a ++ [64] ++ dgs r ++ [61] ++ dgs sg).length = 7 := by rw [dgs_l, l6, dgn_1 (by omega)]
      have l8 : ([] ++ dgs j ++ [94] ++ dgs a ++ [64] ++ dgs r ++ [61] ++ dgs sg ++ [47]).length = 8 := by rw [app_len, l7]
      rw [rx_9 n1 hj8, hs2]
      refine ⟨vp_in_nI hj8 (by decide), sg, rfl, by omega, by rw [l6, dgn_1 (by omega)]; decide, ?_⟩
      intro q13 E
      subst E
      dsimp only
      refine ⟨by rw [l7]; decide, ?_⟩
      intro q14 E
      subst E
      dsimp only
      rw [rx_10 n1 hj8, ew]
      refine ⟨vp_in_nI hj8 (by decide), w, rfl, by omega, by rw [l8, dgn_1 (by omega)]; decide, ?_⟩
      intro q15 E
      subst E
      dsimp only
      show w_X10_tellEcho (nI j) (dM, []) (fP s _ 0 (q.1, _))
      refine ref (fun d5 h5 => ⟨fun z => absurd z y, fun _ sg' w' e1 e2 e3 e4 d6 h6 => ?_⟩)
      have f1 : sg' = sg := nI_inj (by omega) (by omega) (e1.symm.trans hs2)
      have f2 : w' = w := nI_inj (by omega) (by omega) (e3.symm.trans ew)
      subst f1
      subst f2
      exact lin_end hN' h6 v
end PO33

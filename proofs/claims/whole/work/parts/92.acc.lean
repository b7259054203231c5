/-! accounts, the mean, the share -/
theorem dd_ok : ∀ n, n < 7 → 0 < n → ∀ a, a < 55 → vf_n64 (FP.ddiv (FP.i2d (nI a)) (FP.i2d (nI n))) := by unfold vf_n64; decide +kernel
theorem ff_ok : ∀ n, n < 9 → 0 < n → ∀ a, a < 9 → vf_n32 (FP.fdiv (FP.i2f (nI a)) (FP.i2f (nI n))) ∧ vf_n64 (FP.f2d (FP.fdiv (FP.i2f (nI a)) (FP.i2f (nI n)))) := by unfold vf_n32 vf_n64; decide +kernel
theorem let_R {n : Nat} {u : pU} (hI : Inv n u) : ∃ m, m ≤ cE u ∧ u 5 0 - pLt u (-1) = nI m := by
  obtain ⟨m, -, hm, em⟩ := sumTo_R (g := gLt u (-1)) (b := 1) (n := cE u) (fun j hj => by
    unfold gLt
    split
    · exact ⟨1, by omega, by omega, rfl⟩
    · exact ⟨0, by omega, by omega, rfl⟩)
  refine ⟨cE u - m, by omega, ?_⟩
  show u 5 0 - sumTo (gLt u (-1)) (cE u) = _
  have e1 : nI (cE u) = nI (cE u - m) + nI m := by rw [nI_add, Nat.sub_add_cancel (by omega)]
  rw [em, hI.1.2.1.1, e1, Int32.add_sub_cancel]
theorem damp_R {n : Nat} {u : pU} (hI : Inv n u) : ∃ m, m < 55 ∧ sumTo (u 3) (cR u) = nI m := by
  obtain ⟨m, -, hm, em⟩ := sumTo_R (g := u 3) (b := 9) (n := cR u) (fun j hj => (hI.2.1 j hj).2)
  have hb := hI.1.1.2
  exact ⟨m, by omega, em⟩
section ACC
variable {s : Nat} {q : aS} {dM : pU}
theorem po_37 (hN : INV s q dM) (v : Nat → Int64) (vd : Nat → UInt64) (p1 p2 p3 : Int32) : ob_37 v vd p1 p2 p3 q (dM, []) (K1 s) := by
  have hN' := hN
  obtain ⟨⟨u, n1, n2, hI⟩, -, ⟨cc, pp, hh, hx, hm, -⟩, -, -, -, ⟨l, l60, l1, l2, -⟩, -⟩ := hN
  have hc := hI.1
  have hb := hc.1.2
  have hb2 := hc.2.1.2
  have hb3 := hc.2.2.2
  have n3 : RM (up2 dM 0 15 0 1) 0 u := n2.g 15 0
  unfold ob_37 w_X9_account
  by_cases hp : p1 < 0 ∨ 13 < p1
  · refine ⟨fun e => absurd hp (by subst e; decide), fun _ => ⟨fun e => absurd hp (by subst e; decide), fun _ => ⟨fun e => absurd hp (by subst e; decide), fun _ => ⟨fun e => absurd hp (by subst e; decide), fun _ => ⟨fun e => absurd hp (by subst e; decide), fun _ => ⟨fun e => absurd hp (by subst e; decide), fun _ => ⟨fun e => absurd hp (by subst e; decide), fun _ => ⟨fun e => absurd hp (by subst e; decide), fun _ => ⟨fun e => absurd hp (by subst e; decide), fun _ => ⟨fun e => absurd hp (by subst e; decide), fun _ => ⟨fun e => absurd hp (by subst e; decide), fun _ => ⟨fun e => absurd hp (by subst e; decide), fun _ => ⟨fun e => absurd hp (by subst e; decide), fun _ => ⟨fun e => absurd hp (by subst e; decide), fun _ => ⟨rfl, ?_⟩⟩⟩⟩⟩⟩⟩⟩⟩⟩⟩⟩⟩⟩⟩
    simp only [lPo_f]
    unfold w_X10_account
    refine r_isIn (fun _ => ⟨fun _ => ?_, fun z => absurd rfl z⟩) (fun z1 z2 => absurd hp (fun z => z.elim z1 z2))
    unfold JX10_account_16
    intro q4 e4
    subst e4
    exact ⟨fun e => absurd hp (by subst e; decide), fun _ => ⟨fun e => absurd hp (by subst e; decide), fun _ => ⟨fun e => absurd hp (by subst e; decide), fun _ => ⟨fun e => absurd hp (by subst e; decide), fun _ => ⟨fun e => absurd hp (by subst e; decide), fun _ => ⟨fun e => absurd hp (by subst e; decide), fun _ => ⟨fun e => absurd hp (by subst e; decide), fun _ => ⟨fun e => absurd hp (by subst e; decide), fun _ => ⟨fun e => absurd hp (by subst e; decide), fun _ => ⟨fun e => absurd hp (by subst e; decide), fun _ => ⟨fun e => absurd hp (by subst e; decide), fun _ => ⟨fun e => absurd hp (by subst e; decide), fun _ => ⟨fun e => absurd hp (by subst e; decide), fun _ => ⟨fun e => absurd hp (by subst e; decide), fun _ => g_k (by decide) hN'⟩⟩⟩⟩⟩⟩⟩⟩⟩⟩⟩⟩⟩⟩
  · obtain ⟨k, hk, e⟩ := sw_rg (b := 13) rfl (by omega) hp
    have go : ∀ {r : Int32}, JX10_account_16 p1 0 (fP s (vp_updL v 0 (r.toInt64)) 0 q) (dM, []) → lPo (w_X10_account p1 (dM, [])) (K1 s) 0 (vp_updL v 0 (r.toInt64), vd, q) := fun {r} h9 => by
      simp only [lPo_f]
      unfold w_X10_account
      exact r_isIn (fun z => absurd z hp) (fun _ _ => ⟨fun z => absurd z i10, fun _ => h9⟩)
    rcases (show k = 0 ∨ k = 1 ∨ k = 2 ∨ k = 3 ∨ k = 4 ∨ k = 5 ∨ k = 6 ∨ k = 7 ∨ k = 8 ∨ k = 9 ∨ k = 10 ∨ k = 11 ∨ k = 12 ∨ k = 13 by omega) with rfl | rfl | rfl | rfl | rfl | rfl | rfl | rfl | rfl | rfl | rfl | rfl | rfl | rfl
    · have e2 : p1 = 0 := e
      subst e2
      refine br_t (by decide) (?_)
      rw [rx_2 n1]
      refine go ?_
      unfold JX10_account_16
      intro q4 e4
      subst e4
      refine br_t (by decide) (?_)
      dsimp only
      rw [ic_0, rm_0 n3]
      exact ⟨in_0, g_0 hN'⟩
    · have e2 : p1 = 1 := e
      subst e2
      refine br_f (by decide) (br_t (by decide) (?_))
      rw [rx_6 n1]
      refine go ?_
      unfold JX10_account_16
      intro q4 e4
      subst e4
      refine br_f (by decide) (br_t (by decide) (?_))
      dsimp only
      rw [ic_1, rm_1 n3]
      exact ⟨in_1, g_0 hN'⟩
    · have e2 : p1 = 2 := e
      subst e2
      refine br_f (by decide) (br_f (by decide) (br_t (by decide) (?_)))
      rw [rx_12 n1]
      refine go ?_
      unfold JX10_account_16
      intro q4 e4
      subst e4
      refine br_f (by decide) (br_f (by decide) (br_t (by decide) (?_)))
      dsimp only
      rw [ic_2, rm_2 n3]
      exact ⟨in_2, g_0 hN'⟩
    · have e2 : p1 = 3 := e
      subst e2
      refine br_f (by decide) (br_f (by decide) (br_f (by decide) (br_t (by decide) (x_countLet n1 hc ?_))))
      refine go ?_
      unfold JX10_account_16
      intro q4 e4
      subst e4
      refine br_f (by decide) (br_f (by decide) (br_f (by decide) (br_t (by decide) (?_))))
      refine r_allLet (q := (up2 dM 0 15 0, [])) n3 hc ?_
      rw [let_all hI]
      exact g_0 hN'
    · have e2 : p1 = 4 := e
      subst e2
      refine br_f (by decide) (br_f (by decide) (br_f (by decide) (br_f (by decide) (br_t (by decide) (?_)))))
      rw [rx_1_3 n1]
      refine go ?_
      unfold JX10_account_16
      intro q4 e4
      subst e4
      refine br_f (by decide) (br_f (by decide) (br_f (by decide) (br_f (by decide) (br_t (by decide) (?_)))))
      dsimp only
      rw [ic_3, rm_3 n3]
      exact ⟨in_3, g_0 hN'⟩
    · have e2 : p1 = 5 := e
      subst e2
      refine br_f (by decide) (br_f (by decide) (br_f (by decide) (br_f (by decide) (br_f (by decide) (br_t (by decide) (x_dampOfAll n1 hc ?_))))))
      refine go ?_
      unfold JX10_account_16
      intro q4 e4
      subst e4
      refine br_f (by decide) (br_f (by decide) (br_f (by decide) (br_f (by decide) (br_f (by decide) (br_t (by decide) (?_))))))
      exact r_allDamp (q := (up2 dM 0 15 0, [])) n3 hc (g_0 hN')
    · have e2 : p1 = 6 := e
      subst e2
      refine br_f (by decide) (br_f (by decide) (br_f (by decide) (br_f (by decide) (br_f (by decide) (br_f (by decide) (br_t (by decide) (x_versesOfAll n1 hc ?_)))))))
      refine go ?_
      unfold JX10_account_16
      intro q4 e4
      subst e4
      refine br_f (by decide) (br_f (by decide) (br_f (by decide) (br_f (by decide) (br_f (by decide) (br_f (by decide) (br_t (by decide) (?_)))))))
      unfold JX10_account_116
      have e6 : (4 + 6 : Int32) - 6 = 4 := by decide
      dsimp only
      rw [e6, ic_4, rm_4 n3]
      rw [hI.2.2.2.2.2.2.1, sumTo_z (g := u 4) hb (fun j h1 h2 => (hI.2.2.2.2.1.1 j h1 h2).2)]
      exact ⟨in_4, g_0 hN'⟩
    · have e2 : p1 = 7 := e
      subst e2
      refine br_f (by decide) (br_f (by decide) (br_f (by decide) (br_f (by decide) (br_f (by decide) (br_f (by decide) (br_f (by decide) (br_t (by decide) (x_tonesOfAll n1 hc ?_))))))))
      refine go ?_
      unfold JX10_account_16
      intro q4 e4
      subst e4
      refine br_f (by decide) (br_f (by decide) (br_f (by decide) (br_f (by decide) (br_f (by decide) (br_f (by decide) (br_f (by decide) (br_t (by decide) (?_))))))))
      unfold JX10_account_116
      have e6 : (4 + 7 : Int32) - 6 = 5 := by decide
      dsimp only
      rw [e6, ic_5, rm_5 n3]
      rw [hI.2.2.2.2.2.2.2, sumTo_z (g := u 10) hb2 (fun j h1 h2 => (hI.2.2.2.2.1.2.1 j h1 h2).2)]
      exact ⟨in_5, g_0 hN'⟩
    · have e2 : p1 = 8 := e
      subst e2
      refine br_f (by decide) (br_f (by decide) (br_f (by decide) (br_f (by decide) (br_f (by decide) (br_f (by decide) (br_f (by decide) (br_f (by decide) (br_t (by decide) (?_)))))))))
      rw [rx_1_4 n1]
      refine go ?_
      unfold JX10_account_16
      intro q4 e4
      subst e4
      refine br_f (by decide) (br_f (by decide) (br_f (by decide) (br_f (by decide) (br_f (by decide) (br_f (by decide) (br_f (by decide) (br_f (by decide) (br_t (by decide) (?_)))))))))
      unfold JX10_account_116
      have e6 : (4 + 8 : Int32) - 6 = 6 := by decide
      dsimp only
      rw [e6, ic_6, rm_6 n3]
      exact ⟨in_6, g_0 hN'⟩
    · have e2 : p1 = 9 := e
      subst e2
      refine br_f (by decide) (br_f (by decide) (br_f (by decide) (br_f (by decide) (br_f (by decide) (br_f (by decide) (br_f (by decide) (br_f (by decide) (br_f (by decide) (br_t (by decide) (?_))))))))))
      rw [rx_1_5 n1]
      refine go ?_
      unfold JX10_account_16
      intro q4 e4
      subst e4
      refine br_f (by decide) (br_f (by decide) (br_f (by decide) (br_f (by decide) (br_f (by decide) (br_f (by decide) (br_f (by decide) (br_f (by decide) (br_f (by decide) (br_t (by decide) (?_))))))))))
      unfold JX10_account_116
      have e6 : (4 + 9 : Int32) - 6 = 7 := by decide
      dsimp only
      rw [e6, ic_7, rm_7 n3]
      exact ⟨in_7, g_0 hN'⟩
    · have e2 : p1 = 10 := e
      subst e2
      refine br_f (by decide) (br_f (by decide) (br_f (by decide) (br_f (by decide) (br_f (by decide) (br_f (by decide) (br_f (by decide) (br_f (by decide) (br_f (by decide) (br_f (by decide) (br_t (by decide) (?_)))))))))))
      rw [rx_1_6 n1]
      refine go ?_
      unfold JX10_account_16
      intro q4 e4
      subst e4
      refine br_f (by decide) (br_f (by decide) (br_f (by decide) (br_f (by decide) (br_f (by decide) (br_f (by decide) (br_f (by decide) (br_f (by decide) (br_f (by decide) (br_f (by decide) (br_t (by decide) (?_)))))))))))
      unfold JX10_account_116
      have e6 : (4 + 10 : Int32) - 6 = 8 := by decide
      dsimp only
      rw [e6, ic_8, rm_8 n3]
      exact ⟨in_8, g_0 hN'⟩
    · have e2 : p1 = 11 := e
      subst e2
      refine br_f (by decide) (br_f (by decide) (br_f (by decide) (br_f (by decide) (br_f (by decide) (br_f (by decide) (br_f (by decide) (br_f (by decide) (br_f (by decide) (br_f (by decide) (br_f (by decide) (br_t (by decide) (x_heldOfAll n1 hc ?_))))))))))))
      refine go ?_
      unfold JX10_account_16
      intro q4 e4
      subst e4
      refine br_f (by decide) (br_f (by decide) (br_f (by decide) (br_f (by decide) (br_f (by decide) (br_f (by decide) (br_f (by decide) (br_f (by decide) (br_f (by decide) (br_f (by decide) (br_f (by decide) (br_t (by decide) (?_))))))))))))
      dsimp only
      rw [ic_6, ic_7, ic_8, rm_6 n3, rm_7 n3, rm_8 n3]
      have e9 : u 0 4 - u 0 5 - u 0 6 = sumTo (gDp u) (cE u) := by
        have h5 := hI.2.2.2.2.2.1
        unfold IvD at h5
        rw [h5]
        grind
      rw [e9, held_all hI]
      exact ⟨in_6, in_7, in_8, g_0 hN'⟩
    · have e2 : p1 = 12 := e
      subst e2
      refine br_f (by decide) (br_f (by decide) (br_f (by decide) (br_f (by decide) (br_f (by decide) (br_f (by decide) (br_f (by decide) (br_f (by decide) (br_f (by decide) (br_f (by decide) (br_f (by decide) (br_f (by decide) (br_t (by decide) (?_)))))))))))))
      rw [l1]
      refine go ?_
      unfold JX10_account_16
      intro q4 e4
      subst e4
      refine br_f (by decide) (br_f (by decide) (br_f (by decide) (br_f (by decide) (br_f (by decide) (br_f (by decide) (br_f (by decide) (br_f (by decide) (br_f (by decide) (br_f (by decide) (br_f (by decide) (br_f (by decide) (br_t (by decide) (?_)))))))))))))
      dsimp only
      rw [show up2 dM 0 15 0 0 12 = nI l by rw [up2_at, if_neg (by decide), l2]]
      exact g_0 hN'
    · have e2 : p1 = 13 := e
      subst e2
      refine br_f (by decide) (br_f (by decide) (br_f (by decide) (br_f (by decide) (br_f (by decide) (br_f (by decide) (br_f (by decide) (br_f (by decide) (br_f (by decide) (br_f (by decide) (br_f (by decide) (br_f (by decide) (br_f (by decide) (br_t (by decide) (?_))))))))))))))
      rw [hx.2.2.2.1]
      refine go ?_
      unfold JX10_account_16
      intro q4 e4
      subst e4
      refine br_f (by decide) (br_f (by decide) (br_f (by decide) (br_f (by decide) (br_f (by decide) (br_f (by decide) (br_f (by decide) (br_f (by decide) (br_f (by decide) (br_f (by decide) (br_f (by decide) (br_f (by decide) (br_f (by decide) (br_t (by decide) (?_))))))))))))))
      dsimp only
      rw [show up2 dM 0 15 0 0 5 = nI cc by rw [up2_at, if_neg (by decide), hm.1]]
      exact g_0 hN'
/-- the ends of meanDamp and letShare -/
theorem po_38 (hN : INV s q dM) (v : Nat → Int64) (vd : Nat → UInt64) (p1 p2 p3 : Int32) : ob_38 v vd p1 p2 p3 q (dM, []) (K1 s) := by
  have hN' := hN
  obtain ⟨⟨u, n1, n2, hI⟩, -⟩ := hN
  have hc := hI.1
  have hb := hc.1.2
  have n3 : RM (up2 dM 0 15 0 1) 0 u := n2.g 15 0
  have hn := (rx_2 n1).trans hc.1.1
  have hm := (rm_0 n2).trans hc.1.1
  have hm3 := (rm_0 n3).trans hc.1.1
  obtain ⟨a, ha, ea⟩ := damp_R hI
  unfold ob_38 w_X9_meanDamp
  rw [hn]
  refine ⟨fun c => x_dampOfAll n1 hc ?_, fun c => ⟨rfl, ?_⟩⟩
  · have hR1 : 0 < cR u := by
      rcases Nat.eq_zero_or_pos (cR u) with z | z
      · exact absurd (by rw [z]; rfl) c
      · exact z
    rw [hn, ea]
    have hok := dd_ok (cR u) (by omega) hR1 a ha
    refine ⟨hok, ?_⟩
    unfold lPod w_X10_meanDamp
    dsimp only
    rw [ic_0, hm]
    refine ⟨in_0, fun z => absurd z (nI_nle hR1 (by omega)), fun _ => ?_⟩
    unfold JX10_meanDamp_15
    refine r_goes (fun z => absurd z i10) (fun _ z => absurd z i10) (fun _ _ => ⟨fun z => absurd z i10, fun _ => ?_⟩)
    refine r_allDamp (q := (up2 dM 0 15 0, [])) n3 hc ?_
    dsimp only
    rw [ic_0, hm3, ea]
    exact ⟨in_0, hok, a_15 dM 0, fun _ => ⟨by unfold vf_upd; rw [if_pos rfl], hok⟩, hN'.quiet ((QT.rf dM).up (j := 15) (by decide) 0)⟩
  · unfold lPod w_X10_meanDamp
    dsimp only
    rw [ic_0, hm, c]
    refine ⟨in_0, fun _ => ?_, fun z => absurd (by decide) z⟩
    unfold JX10_meanDamp_15
    exact r_goes (fun _ => ⟨fun _ => ⟨a_15 dM 1, fun z => absurd z i10, hN'.quiet ((QT.rf dM).up (j := 15) (by decide) 1)⟩, fun z => absurd rfl z⟩) (fun z => absurd rfl z) (fun z => absurd rfl z)
theorem po_39 (hN : INV s q dM) (v : Nat → Int64) (vd : Nat → UInt64) (p1 p2 p3 : Int32) : ob_39 v vd p1 p2 p3 q (dM, []) (K1 s) := by
  have hN' := hN
  obtain ⟨⟨u, n1, n2, hI⟩, -⟩ := hN
  have hc := hI.1
  have hb := hc.2.1.2
  have n3 : RM (up2 dM 0 15 0 1) 0 u := n2.g 15 0
  have hn := (rx_6 n1).trans hc.2.1.1
  have hm := (rm_1 n2).trans hc.2.1.1
  have hm3 := (rm_1 n3).trans hc.2.1.1
  obtain ⟨a, ha, ea⟩ := let_R hI
  unfold ob_39 w_X9_letShare
  rw [hn]
  refine ⟨fun c => x_countLet n1 hc ?_, fun c => ⟨rfl, ?_⟩⟩
  · have hR1 : 0 < cE u := by
      rcases Nat.eq_zero_or_pos (cE u) with z | z
      · exact absurd (by rw [z]; rfl) c
      · exact z
    rw [hn, ea]
    obtain ⟨hok, hok2⟩ := ff_ok (cE u) (by omega) hR1 a (by omega)
    refine ⟨hok, hok2, ?_⟩
    unfold lPof w_X10_letShare
    dsimp only
    rw [ic_1, hm]
    refine ⟨in_1, fun z => absurd z (nI_nle hR1 (by omega)), fun _ => ?_⟩
    unfold JX10_letShare_15
    refine r_goes (fun z => absurd z i10) (fun _ z => absurd z i10) (fun _ _ => ⟨fun z => absurd z i10, fun _ => ?_⟩)
    refine r_allLet (q := (up2 dM 0 15 0, [])) n3 hc ?_
    dsimp only
    rw [ic_1, hm3, let_all hI, ea]
    exact ⟨in_1, hok, a_15 dM 0, fun _ => ⟨by unfold vf_upd; rw [if_pos rfl], hok2⟩, hN'.quiet ((QT.rf dM).up (j := 15) (by decide) 0)⟩
  · unfold lPof w_X10_letShare
    dsimp only
    rw [ic_1, hm, c]
    refine ⟨in_1, fun _ => ?_, fun z => absurd (by decide) z⟩
    unfold JX10_letShare_15
    exact r_goes (fun _ => ⟨fun _ => ⟨a_15 dM 1, fun z => absurd z i10, hN'.quiet ((QT.rf dM).up (j := 15) (by decide) 1)⟩, fun z => absurd rfl z⟩) (fun z => absurd rfl z) (fun z => absurd rfl z)
end ACC

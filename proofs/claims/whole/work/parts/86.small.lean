/-! undo, save, restore, append, faultPosition, reason -/
def QT (dM d' : pU) : Prop := (∀ a, a ≠ 0 → d' a = dM a) ∧ (∀ j, ¬ (15 ≤ j ∧ j ≤ 17) → d' 0 j = dM 0 j)
theorem QT.rf (d : pU) : QT d d := ⟨fun _ _ => rfl, fun _ _ => rfl⟩
theorem QT.up {d d' : pU} (h : QT d d') {j : Nat} (hj : 15 ≤ j ∧ j ≤ 17) (x : Int32) : QT d (up2 d' 0 j x) :=
  ⟨fun a ha => by rw [up2_ne _ _ _ ha, h.1 a ha], fun i hi => by rw [up2_at, if_neg (fun z => hi (by rw [z.2]; exact hj)), h.2 i hi]⟩
theorem INV.quiet {s : Nat} {q : aS} {dM d' : pU} (hN : INV s q dM) (hq : QT dM d') : INV (s + 1) q d' := by
  obtain ⟨⟨u, n1, n2, hI⟩, hS, hH, hF, hR, hT, hX, hL⟩ := hN
  have hs : 10 * s ≤ 10 * (s + 1) := by omega
  exact ⟨⟨u, n1, by rw [hq.1 1 (by decide)]; exact n2, hI.wd hs⟩, hS.cg hs (fun _ _ _ => rfl) (hq.1 3 (by decide)), hH.cg hs (fun _ _ _ => rfl) (hq.2 5 (by omega)) (hq.1 4 (by decide)), by rw [hq.2 4 (by omega)]; exact hF, hR.cg rfl (fun j h1 h2 => hq.2 j (by omega)), by rw [hq.2 10 (by omega)]; exact hT, hX.cg rfl rfl (hq.2 12 (by omega)) (hq.1 5 (by decide)), hL.cg (hq.2 14 (by omega)) (hq.1 6 (by decide))⟩
theorem INV.next {s : Nat} {q : aS} {dM : pU} (hN : INV s q dM) : INV (s + 1) q dM := hN.quiet (QT.rf dM)
/-- the ends of a call that only asks -/
def fP (s : Nat) (v : Nat → Int64) (kk : Int32) (q2 : aS) (b : Int32) (qm : aS) : Prop := w_X10_thrown qm (fun th qm' => th = kk ∧ (kk = 0 → v 0 = b.toInt64) ∧ K1 s q2 qm')
theorem f_0 {s : Nat} {q q2 : aS} {dM : pU} {t : List Nat} {v : Nat → Int64} {r : Int32} (h15 : dM 0 15 = 0) (hN : INV (s + 1) q2 dM) : fP s (vp_updL v 0 (r.toInt64)) 0 q2 r (dM, t) :=
  ⟨h15, fun _ => by unfold vp_updL; rw [if_pos rfl], hN⟩
theorem f_k {s : Nat} {q2 : aS} {dM : pU} {t : List Nat} {v : Nat → Int64} {kk r : Int32} (hk : ¬ kk = 0) (h15 : dM 0 15 = kk) (hN : INV (s + 1) q2 dM) : fP s v kk q2 r (dM, t) :=
  ⟨h15, fun z => absurd z hk, hN⟩
theorem a_15 (d : pU) (x : Int32) : up2 d 0 15 x 0 15 = x := by rw [up2_at, if_pos ⟨rfl, rfl⟩]
theorem g_0 {s : Nat} {q : aS} {dM : pU} {t : List Nat} {v : Nat → Int64} {r : Int32} (hN : INV s q dM) : fP s (vp_updL v 0 (r.toInt64)) 0 q r (up2 dM 0 15 0, t) :=
  ⟨a_15 dM 0, fun _ => by unfold vp_updL; rw [if_pos rfl], hN.quiet ((QT.rf dM).up (j := 15) (by decide) 0)⟩
theorem g_k {s : Nat} {q : aS} {dM : pU} {t : List Nat} {v : Nat → Int64} {kk r : Int32} (hk : ¬ kk = 0) (hN : INV s q dM) : fP s v kk q r (up2 dM 0 15 kk, t) :=
  ⟨a_15 dM kk, fun z => absurd z hk, hN.quiet ((QT.rf dM).up (j := 15) (by decide) kk)⟩
section SMALL
variable {s : Nat} {q : aS} {dM : pU}
theorem po_31 (hN : INV s q dM) (v : Nat → Int64) (vd : Nat → UInt64) (p1 p2 p3 : Int32) : ob_31 v vd p1 p2 p3 q (dM, []) (K1 s) := by
  unfold ob_31 w_X9_faultPosition w_X10_faultPosition
  intro q1 e1
  subst e1
  refine ⟨?_, hN.quiet ((QT.rf dM).up (by decide) _)⟩
  show q.1 190 2 = up2 dM 0 15 0 0 10
  rw [up2_at, if_neg (by decide)]
  exact hN.2.2.2.2.2.1
theorem po_40 (hN : INV s q dM) (v : Nat → Int64) (vd : Nat → UInt64) (p1 p2 p3 : Int32) : ob_40 v vd p1 p2 p3 q (dM, []) (K1 s) := by
  have hN' := hN
  obtain ⟨⟨u, n1, n2, hI⟩, hS, ⟨cc, pp, hh, hx, hm, hhI⟩, hF, hR, hT, hX, hL⟩ := hN
  have hs : 10 * s ≤ 10 * (s + 1) := by omega
  have e5 : ∀ x, up2 dM 0 15 x 0 5 = nI cc := fun x => by rw [up2_at, if_neg (by decide), hm.1]
  have hc8 := hm.2.1
  unfold ob_40 w_X9_undo
  rw [hx.2.2.2.1]
  refine ⟨fun hc => ?_, fun hc => ⟨rfl, ?_⟩⟩
  · obtain ⟨c, rfl⟩ : ∃ c, cc = c + 1 := ⟨cc - 1, by
      rcases Nat.eq_zero_or_pos cc with z | z
      · exact absurd (by rw [z]; rfl) hc
      · omega⟩
    refine x_take hx (fun d1 g1 g2 g3 => ?_)
    unfold lPo w_X10_undo
    refine ⟨fun _ => ?_, fun z => absurd (hm.1.symm.trans z) hc⟩
    unfold JX10_undo_13
    intro q1 E
    subst E
    dsimp only
    rw [e5]
    refine ⟨fun z => absurd z (nI_nle (by omega) (by omega)), fun _ => ?_⟩
    intro q2 E
    rw [nI_pred] at E
    subst E
    have e51 : up2 (up2 dM 0 15 0) 0 5 (nI c) 0 5 = nI c := by rw [up2_at, if_pos (by decide)]
    dsimp only
    rw [e51]
    refine r_copies (q := (up2 (up2 dM 0 15 0) 0 5 (nI c), [])) (by decide) (o := c * 97) (p := 0) (nI_mul c 97) rfl (by omega) (by decide) (by decide) (by decide) (fun d2 f1 f2 f3 => ?_)
    dsimp only at f1 f2 f3
    have f0 : ∀ j, d2 0 j = if j = 5 then nI c else if j = 15 then 0 else dM 0 j := fun j => by
      rw [f3 0 (by decide), up2_row, upd_at, up2_row, upd_at]
    have fa : ∀ a, a ≠ 0 → a ≠ 1 → d2 a = dM a := fun a h0 h1 => by rw [f3 a h1, up2_ne _ _ _ h0, up2_ne _ _ _ h0]
    have a1 : d1 52 2 = nI c := g1.2.2.2.1
    have a2 : d2 0 5 = nI c := f0 5
    rw [a1]
    show fP s _ 0 (d1, q.2) (d2 0 5) (d2, [])
    rw [a2]
    refine f_0 (q := q) (f0 15) ⟨⟨hh c, g2, ?_, (hhI c (by omega)).wd hs⟩, hS.cg hs (fun s s1 s2 => g3 s (by omega) (by omega)) (fa 3 (by decide) (by decide)), ⟨c, (pp + 7) % 8, hh, g1, ⟨a2, by omega, fun k hk => ?_⟩, fun k hk => (hhI k (by omega)).wd hs⟩, ?_, hR.cg (g3 204 (by omega) (by omega)) (fun j j1 j2 => ?_), ?_, hX.cg ?_ (g3 191 (by omega) (by omega)) (f0 12) (fa 5 (by decide) (by decide)), hL.cg (f0 14) (fa 6 (by decide) (by decide))⟩
    · refine (hm.2.2 c (by omega)).to (fun j hj => ?_)
      rw [f1 j hj, up2_ne _ _ _ (by decide), up2_ne _ _ _ (by decide), Nat.mul_comm c 97]
    · rw [fa 4 (by decide) (by decide)]
      exact hm.2.2 k (by omega)
    · show d1 0 3 = d2 0 4
      rw [g3 0 (by omega) (by omega), f0 4, if_neg (by decide), if_neg (by decide)]
      exact hF
    · rw [f0 j, if_neg (by omega), if_neg (by omega)]
    · show d1 190 2 = d2 0 10
      rw [g3 190 (by omega) (by omega), f0 10, if_neg (by decide), if_neg (by decide)]
      exact hT
    · show d1 190 1 = _
      rw [g3 190 (by omega) (by omega)]
  · have hc0 : cc = 0 := nI_inj (by omega) (by omega) hc
    subst hc0
    unfold lPo w_X10_undo
    refine ⟨fun z => absurd hm.1 z, fun _ => ?_⟩
    unfold JX10_undo_13
    intro q1 E
    subst E
    dsimp only
    rw [e5]
    exact ⟨fun _ => g_k (by decide) hN', fun z => absurd (by decide +kernel) z⟩
theorem po_41 (hN : INV s q dM) (v : Nat → Int64) (vd : Nat → UInt64) (p1 p2 p3 : Int32) : ob_41 v vd p1 p2 p3 q (dM, []) (K1 s) := by
  obtain ⟨⟨u, n1, n2, hI⟩, hS, hH, hF, hR, hT, hX, hL⟩ := hN
  have hs : 10 * s ≤ 10 * (s + 1) := by omega
  unfold ob_41 w_X9_save
  refine x_copy n1 (by decide) (fun d1 g1 g2 => ?_)
  intro q3 E
  subst E
  unfold w_X10_save
  intro q1 E
  subst E
  refine r_copies (q := (up2 dM 0 15 0, [])) (by decide) (o := 0) (p := 0) rfl rfl (by decide) (by decide) (by decide) (by decide) (fun d2 f1 f2 f3 => ?_)
  dsimp only at f1 f2 f3
  intro q4 E
  subst E
  have fa : ∀ a, a ≠ 0 → a ≠ 3 → up2 d2 0 4 1 a = dM a := fun a h0 h1 => by rw [up2_ne _ _ _ h0, f3 a h1, up2_ne _ _ _ h0]
  have f0 : ∀ j, up2 d2 0 4 1 0 j = if j = 4 then 1 else if j = 15 then 0 else dM 0 j := fun j => by
    rw [up2_row, upd_at, f3 0 (by decide), up2_row, upd_at]
  have g0 : ∀ j, up2 d1 0 3 1 0 j = if j = 3 then 1 else q.1 0 j := fun j => by
    rw [up2_row, upd_at, g2 0 (by omega)]
  have ga : ∀ a, a ≠ 0 → (a < 35 ∨ 52 ≤ a) → up2 d1 0 3 1 a = q.1 a := fun a h0 h1 => by rw [up2_ne _ _ _ h0, g2 a (by omega)]
  have m1 : RM (up2 d2 0 4 1 1) 0 u := by
    rw [fa 1 (by decide) (by decide)]
    exact n2
  have x1 : RX 1 (up2 d1 0 3 1) u := n1.cg (fun s s1 s2 => ga s (by omega) (by omega))
  refine ⟨in_1, ?_, ⟨⟨u, x1, m1, hI.wd hs⟩, ⟨u, ?_, ?_, hI.wd hs⟩, hH.cg hs (fun s s1 s2 => ga s (by omega) (by omega)) (f0 5) (fa 4 (by decide) (by decide)), ?_, hR.cg (ga 204 (by omega) (by omega)) (fun j j1 j2 => ?_), ?_, hX.cg ?_ (ga 191 (by omega) (by omega)) (f0 12) (fa 5 (by decide) (by decide)), hL.cg (f0 14) (fa 6 (by decide) (by decide))⟩⟩
  · show up2 d1 0 3 1 6 0 = up2 d2 0 4 1 1 (Int32.toNatClampNeg 1)
    rw [ic_1, rx_6 x1, rm_1 m1]
  · exact g1.cg (fun s s1 s2 => up2_ne _ _ _ (by omega))
  · show RM (up2 d2 0 4 1 3) 0 u
    rw [up2_ne _ _ _ (by decide)]
    refine n2.to (fun j hj => ?_)
    rw [f1 j hj, up2_ne _ _ _ (by decide)]
  · show up2 d1 0 3 1 0 3 = up2 d2 0 4 1 0 4
    rw [g0, f0, if_pos rfl, if_pos rfl]
  · show up2 d2 0 4 1 0 j = _
    rw [f0 j, if_neg (by omega), if_neg (by omega)]
  · show up2 d1 0 3 1 190 2 = up2 d2 0 4 1 0 10
    rw [ga 190 (by omega) (by omega), f0 10, if_neg (by decide), if_neg (by decide)]
    exact hT
  · show up2 d1 0 3 1 190 1 = _
    rw [ga 190 (by omega) (by omega)]
theorem po_42 (hN : INV s q dM) (v : Nat → Int64) (vd : Nat → UInt64) (p1 p2 p3 : Int32) : ob_42 v vd p1 p2 p3 q (dM, []) (K1 s) := by
  have hN' := hN
  obtain ⟨⟨u, n1, n2, hI⟩, ⟨w, w1, w2, hW⟩, ⟨cc, pp, hh, hx, hm, hhI⟩, hF, hR, hT, hX, hL⟩ := hN
  have hs : 10 * s ≤ 10 * (s + 1) := by omega
  unfold ob_42 w_X9_restore
  have e4 : ∀ x, up2 dM 0 15 x 0 4 = q.1 0 3 := fun x => by rw [up2_at, if_neg (by decide), hF]
  refine ⟨fun hc => ?_, fun hc => ⟨rfl, ?_⟩⟩
  · refine x_copy w1 (by decide) (fun d1 g1 g2 => ?_)
    unfold w_X4_forget
    intro q4 E
    subst E
    unfold lPo w_X10_restore
    have hc4 : ¬ dM 0 4 = 0 := fun z => hc (hF.trans z)
    refine ⟨fun z => absurd z hc4, fun _ => ?_⟩
    unfold JX10_restore_13
    intro q1 E
    subst E
    dsimp only
    rw [e4]
    refine ⟨fun z => absurd z hc, fun _ => ?_⟩
    refine r_copies (q := (up2 dM 0 15 0, [])) (by decide) (o := 0) (p := 0) rfl rfl (by decide) (by decide) (by decide) (by decide) (fun d2 f1 f2 f3 => ?_)
    dsimp only at f1 f2 f3
    intro q4 E
    subst E
    have fa : ∀ a, a ≠ 0 → a ≠ 1 → up2 d2 0 5 0 a = dM a := fun a h0 h1 => by rw [up2_ne _ _ _ h0, f3 a h1, up2_ne _ _ _ h0]
    have f0 : ∀ j, up2 d2 0 5 0 0 j = if j = 5 then 0 else if j = 15 then 0 else dM 0 j := fun j => by
      rw [up2_row, upd_at, f3 0 (by decide), up2_row, upd_at]
    have ga : ∀ a, a ≠ 52 → (a < 1 ∨ 18 ≤ a) → up2 d1 52 2 0 a = q.1 a := fun a h0 h1 => by rw [up2_ne _ _ _ h0, g2 a (by omega)]
    have m1 : RM (up2 d2 0 5 0 1) 0 w := by
      rw [up2_ne _ _ _ (by decide)]
      refine w2.to (fun j hj => ?_)
      rw [f1 j hj, up2_ne _ _ _ (by decide)]
    have x1 : RX 1 (up2 d1 52 2 0) w := g1.cg (fun s s1 s2 => up2_ne _ _ _ (by omega))
    unfold JX10_restore_41
    dsimp only
    rw [f0 4, if_neg (by decide), if_neg (by decide), ← hF]
    refine ⟨fun z => absurd z hc, fun _ => ⟨in_1, ?_⟩⟩
    rw [ic_1, rm_1 m1, rx_6 x1]
    refine f_0 (q := q) (f0 15) ⟨⟨w, x1, m1, hW.wd hs⟩, ⟨w, ?_, ?_, hW.wd hs⟩, ⟨0, pp, hh, ⟨by omega, hx.2.1, ?_, ?_, fun k hk => absurd hk (by omega)⟩, ⟨f0 5, by omega, fun k hk => absurd hk (by omega)⟩, fun k hk => absurd hk (by omega)⟩, ?_, hR.cg (ga 204 (by omega) (by omega)) (fun j j1 j2 => ?_), ?_, hX.cg ?_ (ga 191 (by omega) (by omega)) (f0 12) (fa 5 (by decide) (by decide)), hL.cg (f0 14) (fa 6 (by decide) (by decide))⟩
    · exact w1.cg (fun s s1 s2 => ga s (by omega) (by omega))
    · rw [fa 3 (by decide) (by decide)]
      exact w2
    · show up2 d1 52 2 0 52 1 = _
      rw [up2_at, if_neg (by decide), g2 52 (by omega)]
      exact hx.2.2.1
    · show up2 d1 52 2 0 52 2 = _
      rw [up2_at, if_pos (by decide)]
      rfl
    · show up2 d1 52 2 0 0 3 = up2 d2 0 5 0 0 4
      rw [ga 0 (by omega) (by omega), f0 4, if_neg (by decide), if_neg (by decide)]
      exact hF
    · show up2 d2 0 5 0 0 j = _
      rw [f0 j, if_neg (by omega), if_neg (by omega)]
    · show up2 d1 52 2 0 190 2 = up2 d2 0 5 0 0 10
      rw [ga 190 (by omega) (by omega), f0 10, if_neg (by decide), if_neg (by decide)]
      exact hT
    · show up2 d1 52 2 0 190 1 = _
      rw [ga 190 (by omega) (by omega)]
  · unfold lPo w_X10_restore
    have hc4 : dM 0 4 = 0 := hF.symm.trans hc
    refine ⟨fun _ => ?_, fun z => absurd hc4 z⟩
    unfold JX10_restore_13 JX10_restore_41
    intro q1 E
    subst E
    dsimp only
    rw [e4]
    exact ⟨fun _ => ⟨fun _ => g_k (by decide) hN', fun z => absurd hc z⟩, fun z => absurd hc z⟩
theorem po_32 (hN : INV s q dM) (v : Nat → Int64) (vd : Nat → UInt64) (p1 p2 p3 : Int32) : ob_32 v vd p1 p2 p3 q (dM, []) (K1 s) := by
  have hR := hN.2.2.2.2.1
  have e15 : ∀ x j, j ≠ 15 → up2 dM 0 15 x 0 j = dM 0 j := fun x j hj => by rw [up2_at, if_neg (fun z => hj z.2)]
  have bad : (p1 < 0 ∨ 1 < p1) → lPo (w_X10_reason p1 (zI p2) (dM, [])) (K1 s) 1 (v, vd, q) := by
    intro hb
    have h9 : ∀ s0, JX10_reason_15 p1 (zI p2) s0 (fP s v 1 q) (dM, []) := by
      intro s0
      unfold JX10_reason_15
      refine r_isIn (fun _ => ?_) (fun z1 z2 => absurd hb (fun z => z.elim z1 z2))
      have h8 : ∀ a, JX10_reason_32 p1 (zI p2) s0 a 0 (fP s v 1 q) (dM, []) := by
        intro a
        unfold JX10_reason_32
        refine r_goes (fun _ => ⟨fun z => absurd rfl z, fun _ => g_k (by decide) hN⟩) (fun z => absurd rfl z) (fun z => absurd rfl z)
      exact ⟨fun _ => h8 0, fun _ => h8 1⟩
    exact ⟨fun _ => h9 _, fun _ => h9 _⟩
  unfold ob_32 w_X9_reason JX9_reason_9
  refine ⟨fun c => Or.inl ⟨rfl, bad (Or.inl c)⟩, fun c1 => ⟨fun c2 => ?_, fun c2 => Or.inl ⟨rfl, bad (Or.inr (lt_of_nle c2))⟩⟩⟩
  have key : ∀ {kk : Int32} {vv : Nat → Int64} {s0 : Int32}, (s0 = 0 → fP s vv kk q 0 (up2 dM 0 15 2, [])) → (¬ s0 = 0 → (¬ zI p2 = 0 → ((¬ p1 = 0 → fP s vv kk q (dM 0 9) (up2 dM 0 15 0, [])) ∧ (p1 = 0 → fP s vv kk q (dM 0 7) (up2 dM 0 15 0, [])))) ∧ (zI p2 = 0 → fP s vv kk q s0 (up2 dM 0 15 0, []))) → JX10_reason_15 p1 (zI p2) s0 (fP s vv kk q) (dM, []) := by
    intro kk vv s0 h0 h1
    unfold JX10_reason_15
    refine r_isIn (fun z => absurd z (fun z => z.elim c1 (nlt_of_le c2))) (fun _ _ => ⟨fun z => ?_, fun z => ?_⟩)
    · unfold JX10_reason_32
      exact r_goes (fun w => absurd w i10) (fun _ _ => ⟨fun w => absurd rfl w, fun _ => h0 z⟩) (fun _ w => absurd rfl w)
    · unfold JX10_reason_32
      refine r_goes (fun w => absurd w i10) (fun _ w => absurd w i10) (fun _ _ => ⟨fun _ => ?_, fun w => absurd w i10⟩)
      dsimp only
      rw [e15 _ 9 (by decide), e15 _ 7 (by decide)]
      exact h1 z
  rcases hR with ⟨a1, a2, a3⟩ | ⟨a1, a2, a3, a4, a5⟩
  · refine ⟨fun z => absurd a1 z, fun _ => Or.inr ⟨rfl, ?_⟩⟩
    refine ⟨fun _ => ?_, fun _ => ?_⟩
    · exact key (fun _ => g_k (by decide) hN) (fun z => absurd a3 z)
    · exact key (fun _ => g_k (by decide) hN) (fun z => absurd a2 z)
  · refine ⟨fun _ => ⟨fun hp => ?_, fun hp => ?_⟩, fun z => absurd z a1⟩
    · refine ⟨fun h3 => ?_, fun h3 => Or.inr ⟨rfl, ?_⟩⟩
      · rcases a5 with ⟨b1, b2⟩ | ⟨b1, b2, b3, b4⟩
        · exact absurd b1 h3
        · refine ⟨fun hz => ⟨fun _ => ?_, fun z => absurd z hp⟩, fun hz => ⟨fun _ => ?_, fun z => absurd z hp⟩⟩
          · refine key (fun z => absurd z b2) (fun _ => ⟨fun z => absurd hz z, fun _ => ?_⟩)
            rw [b3]
            exact g_0 hN
          · refine key (fun z => absurd z b2) (fun _ => ⟨fun _ => ⟨fun _ => ?_, fun z => absurd z hp⟩, fun z => absurd z hz⟩)
            rw [b4]
            exact g_0 hN
      · rcases a5 with ⟨b1, b2⟩ | ⟨b1, b2, b3, b4⟩
        · refine ⟨fun _ => ?_, fun z => absurd z hp⟩
          exact key (fun _ => g_k (by decide) hN) (fun z => absurd b2 z)
        · exact absurd h3 b1
    · refine ⟨fun hz => ⟨fun z => absurd hp z, fun _ => ?_⟩, fun hz => ⟨fun z => absurd hp z, fun _ => ?_⟩⟩
      · refine key (fun z => absurd z a2) (fun _ => ⟨fun z => absurd hz z, fun _ => ?_⟩)
        rw [a3]
        exact g_0 hN
      · refine key (fun z => absurd z a2) (fun _ => ⟨fun _ => ⟨fun z => absurd hp z, fun _ => ?_⟩, fun z => absurd z hz⟩)
        rw [a4]
        exact g_0 hN
theorem nar_c {x : Int32} (h : Rg x 32 126) : vp_nar .char x = x := by
  obtain ⟨k, h1, h2, rfl⟩ := h
  rw [vp_nar_char]
  have key : ∀ k, k < 127 → (nI k).toUInt32.toUInt16.toUInt32.toInt32 = nI k := by decide +kernel
  exact key k (by omega)
theorem po_29 (hN : INV s q dM) (v : Nat → Int64) (vd : Nat → UInt64) (p1 p2 p3 : Int32) : ob_29 v vd p1 p2 p3 q (dM, []) (K1 s) := by
  have hN' := hN
  obtain ⟨⟨u, n1, n2, hI⟩, hS, hH, hF, hR, hT, ⟨l, l60, l1, l2, l3⟩, hL⟩ := hN
  have hs : 10 * s ≤ 10 * (s + 1) := by omega
  unfold ob_29
  generalize (p1.toUInt32 % 65536).toInt32 = x
  have bad : (x < 32 ∨ 126 < x) → lPo (w_X10_append x (dM, [])) (K1 s) 1 (v, vd, q) := by
    intro hb
    unfold lPo w_X10_append
    refine r_isIn (fun _ => ?_) (fun z1 z2 => absurd hb (fun z => z.elim z1 z2))
    have h8 : ∀ a, JX10_append_23 x a 0 (fP s v 1 q) (dM, []) := by
      intro a
      unfold JX10_append_23
      exact r_goes (fun _ => ⟨fun z => absurd rfl z, fun _ => g_k (by decide) hN'⟩) (fun z => absurd rfl z) (fun z => absurd rfl z)
    exact ⟨fun _ => h8 0, fun _ => h8 1⟩
  unfold w_X9_append JX9_append_12
  refine ⟨fun c => Or.inl ⟨rfl, bad (Or.inl c)⟩, fun c1 => ⟨fun c2 => ?_, fun c2 => Or.inl ⟨rfl, bad (Or.inr (lt_of_nle c2))⟩⟩⟩
  have rx : Rg x 32 126 := Rg.of (a := 32) (b := 126) rfl rfl (by omega) (by omega) c1 c2
  rw [l1]
  refine ⟨fun c3 => ?_, fun c3 => Or.inr ⟨rfl, ?_⟩⟩
  · have hl : l < 60 := (nI_ltI (a := l) (b := 60) (by omega) (by omega)).mp c3
    refine ⟨vp_in_nI hl (by decide), ?_⟩
    intro q2 E
    subst E
    intro q3 E
    subst E
    unfold lPo w_X10_append
    refine r_isIn (fun z => absurd z (fun z => z.elim c1 (nlt_of_le c2))) (fun _ _ => ?_)
    have e12 : ∀ x, up2 dM 0 15 x 0 12 = nI l := fun x => by rw [up2_at, if_neg (by decide), l2]
    refine ⟨fun z => absurd (show (60 : Int32) ≤ nI l by rw [← l2]; exact z) (nI_ge (b := 60) hl (by omega)), fun _ => ?_⟩
    unfold JX10_append_23
    refine r_goes (fun w => absurd w i10) (fun _ w => absurd w i10) (fun _ _ => ⟨fun _ => ?_, fun w => absurd w i10⟩)
    dsimp only
    rw [e12, nI_c (show l < 100000 by omega), nar_c rx]
    refine ⟨vp_in_nI hl (by decide), ?_⟩
    intro q6 E
    subst E
    intro q7 E
    have e12' : up2 (up2 dM 0 15 0) 5 l x 0 12 = nI l := by rw [up2_ne _ _ _ (by decide), e12]
    have E7 : q7 = (up2 (up2 (up2 dM 0 15 0) 5 l x) 0 12 (nI (l + 1)), []) := by
      rw [E]
      dsimp only
      rw [e12', nI_1]
    clear E
    subst E7
    have a1 : up2 (up2 (up2 dM 0 15 0) 5 l x) 0 12 (nI (l + 1)) 0 12 = nI (l + 1) := by rw [up2_at, if_pos (by decide)]
    have a2 : up2 q.1 191 l x 190 1 = nI l := by rw [up2_ne _ _ _ (by decide), l1]
    dsimp only
    rw [a1, a2, nI_1]
    have a3 : up2 (up2 q.1 191 l x) 190 1 (nI (l + 1)) 190 1 = nI (l + 1) := by rw [up2_at, if_pos (by decide)]
    rw [a3]
    have fa : ∀ a, a ≠ 0 → a ≠ 5 → up2 (up2 (up2 dM 0 15 0) 5 l x) 0 12 (nI (l + 1)) a = dM a := fun a h0 h5 => by rw [up2_ne _ _ _ h0, up2_ne _ _ _ h5, up2_ne _ _ _ h0]
    have f0 : ∀ j, up2 (up2 (up2 dM 0 15 0) 5 l x) 0 12 (nI (l + 1)) 0 j = if j = 12 then nI (l + 1) else if j = 15 then 0 else dM 0 j := fun j => by
      rw [up2_row, upd_at, up2_ne _ _ _ (by decide), up2_row, upd_at]
    have f5 : ∀ j, up2 (up2 (up2 dM 0 15 0) 5 l x) 0 12 (nI (l + 1)) 5 j = if j = l then x else dM 5 j := fun j => by
      rw [up2_ne _ _ _ (by decide), up2_row, upd_at, up2_ne _ _ _ (by decide)]
    have ga : ∀ a, a ≠ 190 → a ≠ 191 → up2 (up2 q.1 191 l x) 190 1 (nI (l + 1)) a = q.1 a := fun a h0 h1 => by rw [up2_ne _ _ _ h0, up2_ne _ _ _ h1]
    have g191 : ∀ j, up2 (up2 q.1 191 l x) 190 1 (nI (l + 1)) 191 j = if j = l then x else q.1 191 j := fun j => by
      rw [up2_ne _ _ _ (by decide), up2_row, upd_at]
    refine f_0 (q := q) (f0 15) ⟨⟨u, n1.cg (fun s s1 s2 => ga s (by omega) (by omega)), by rw [fa 1 (by decide) (by decide)]; exact n2, hI.wd hs⟩, hS.cg hs (fun s s1 s2 => ga s (by omega) (by omega)) (fa 3 (by decide) (by decide)), hH.cg hs (fun s s1 s2 => ga s (by omega) (by omega)) (f0 5) (fa 4 (by decide) (by decide)), ?_, hR.cg (ga 204 (by omega) (by omega)) (fun j j1 j2 => ?_), ?_, ⟨l + 1, by omega, a3, a1, fun j hj => ?_⟩, hL.cg (f0 14) (fa 6 (by decide) (by decide))⟩
    · show up2 (up2 q.1 191 l x) 190 1 (nI (l + 1)) 0 3 = _
      rw [ga 0 (by decide) (by decide), f0 4, if_neg (by decide), if_neg (by decide)]
      exact hF
    · rw [f0 j, if_neg (by omega), if_neg (by omega)]
    · show up2 (up2 q.1 191 l x) 190 1 (nI (l + 1)) 190 2 = _
      rw [f0 10, if_neg (by decide), if_neg (by decide), up2_at, if_neg (by decide), up2_ne _ _ _ (by decide)]
      exact hT
    · show up2 (up2 q.1 191 l x) 190 1 (nI (l + 1)) 191 j = _ ∧ Rg (up2 (up2 q.1 191 l x) 190 1 (nI (l + 1)) 191 j) 32 126
      rw [g191, f5]
      by_cases e : j = l
      · rw [if_pos e, if_pos e]
        exact ⟨rfl, rx⟩
      · rw [if_neg e, if_neg e]
        exact l3 j (by omega)
  · have hl : l = 60 := by
      have h9 : ¬ l < 60 := fun z => c3 ((nI_ltI (a := l) (b := 60) (by omega) (by omega)).mpr z)
      omega
    unfold lPo w_X10_append
    refine r_isIn (fun z => absurd z (fun z => z.elim c1 (nlt_of_le c2))) (fun _ _ => ?_)
    refine ⟨fun _ => ?_, fun z => absurd (show (60 : Int32) ≤ dM 0 12 by rw [l2, hl]; decide +kernel) z⟩
    unfold JX10_append_23
    exact r_goes (fun w => absurd w i10) (fun _ _ => ⟨fun w => absurd rfl w, fun _ => g_k (by decide) hN'⟩) (fun _ w => absurd rfl w)
end SMALL

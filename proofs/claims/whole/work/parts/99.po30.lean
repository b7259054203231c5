/-! a whole text, both sides -/
section PO30
variable {s : Nat} {q : aS} {dM : pU}
/-- the reference, up to its orders -/
theorem m_run {P : Int32 → aS → Prop} {l : Nat} (l2 : dM 0 12 = nI l) (l60 : l ≤ 60)
    (k0 : ¬ (res (dM 5) l 10 0).1 = -1 → ∀ d', (∀ a, a ≠ 0 → a ≠ 7 → d' a = dM a) → (∀ j, j ≠ 10 → j ≠ 12 → j ≠ 15 → ¬ (18 ≤ j ∧ j ≤ 21) → d' 0 j = dM 0 j) → d' 0 12 = 0 → d' 0 10 = (res (dM 5) l 10 0).1 → d' 0 15 = 1 → P 0 (d', []))
    (k1 : (res (dM 5) l 10 0).1 = -1 → ∀ d', (∀ a, a ≠ 0 → a ≠ 7 → d' a = dM a) → (∀ j, j ≠ 10 → j ≠ 12 → j ≠ 15 → ¬ (18 ≤ j ∧ j ≤ 21) → d' 0 j = dM 0 j) → d' 0 12 = 0 → d' 0 10 = -1 → d' 0 21 = nI (res (dM 5) l 10 0).2 → (∀ k, k < (res (dM 5) l 10 0).2 → mAg (dM 5) l k d') →
      w_X10_begins (d', []) (fun _ q6 => ∃ M15, LX10_run_45 P (fun q12 => w_X10_ends (q12.1 0 21) q12 (fun r13 q14 => P r13 q14)) M15 0 q6)) : w_X10_run (dM, []) P := by
  unfold w_X10_run
  refine m_readsAll (q := (dM, [])) (len := l) (tx := dM 5) l2 (fun _ _ => rfl) l60 (fun d' g1 g2 g3 g4 g5 => ?_)
  intro q3 E
  dsimp only at E
  rw [g4] at E
  subst E
  dsimp only
  have g1 : ∀ a, a ≠ 0 → a ≠ 7 → d' a = dM a := g1
  have g2 : ∀ j, j ≠ 12 → ¬ (18 ≤ j ∧ j ≤ 21) → d' 0 j = dM 0 j := g2
  have h20 : ∀ x, up2 d' 0 10 x 0 20 = (res (dM 5) l 10 0).1 := fun x => by rw [up2_at, if_neg (by decide)]; exact g4
  rw [h20]
  refine ⟨fun c => ?_, fun c => ?_⟩
  · unfold JX10_run_26
    intro q4 E
    subst E
    dsimp only
    have hc : ∀ j, up2 (up2 d' 0 10 (res (dM 5) l 10 0).1) 0 15 1 0 j = if j = 15 then 1 else if j = 10 then (res (dM 5) l 10 0).1 else d' 0 j := fun j => by rw [up2_row, upd_at, up2_row, upd_at]
    rw [hc 20]
    refine ⟨fun z => absurd (g4.symm.trans z) c, fun _ => k0 c _ (fun a h0 h7 => by rw [up2_ne _ _ _ h0, up2_ne _ _ _ h0]; exact g1 a h0 h7) (fun j j1 j2 j3 j4 => ?_) ?_ (hc 10) (hc 15)⟩
    · rw [hc j, if_neg j3, if_neg j1]; exact g2 j j2 j4
    · exact (hc 12).trans g3
  · obtain ⟨g6, g7⟩ := g5 c
    unfold JX10_run_26
    intro q4 E
    subst E
    dsimp only
    have hc : ∀ j, up2 (up2 d' 0 10 (res (dM 5) l 10 0).1) 0 15 0 0 j = if j = 15 then 0 else if j = 10 then (res (dM 5) l 10 0).1 else d' 0 j := fun j => by rw [up2_row, upd_at, up2_row, upd_at]
    rw [hc 20]
    refine ⟨fun _ => k1 c _ (fun a h0 h7 => by rw [up2_ne _ _ _ h0, up2_ne _ _ _ h0]; exact g1 a h0 h7) (fun j j1 j2 j3 j4 => ?_) ?_ ?_ ?_ (fun k hk => ?_), fun z => absurd (g4.trans c) z⟩
    · rw [hc j, if_neg j3, if_neg j1]; exact g2 j j2 j4
    · exact (hc 12).trans g3
    · exact (hc 10).trans c
    · exact (hc 21).trans g6
    · have h9 := g7 k hk
      unfold mAg at h9 ⊢
      rw [up2_ne _ _ _ (show 7 ≠ 0 by decide), up2_ne _ _ _ (show 7 ≠ 0 by decide)]
      exact h9
theorem po_30 (hN : INV s q dM) (v : Nat → Int64) (vd : Nat → UInt64) (p1 p2 p3 : Int32) : ob_30 v vd p1 p2 p3 q (dM, []) (K1 s) := by
  obtain ⟨⟨u, n1, n2, hI⟩, hS, ⟨cc, pp, hh, hx, hm, hhI⟩, hF, hR, hT, ⟨l, l60, l1, l2, l3⟩, hL⟩ := hN
  have hs : 10 * s ≤ 10 * (s + 1) := by omega
  unfold ob_30 w_X9_run
  refine x_readAll (tx := dM 5) (len := l) l1 (fun j hj => (l3 j hj).1) l60 (fun d1 f1 f2 f3 => ?_)
  intro q3 E
  subst E
  dsimp only
  have e2 : up2 d1 190 1 0 190 2 = (res (dM 5) l 10 0).1 := by rw [up2_at, if_neg (by decide)]; exact f2
  have e1 : up2 d1 190 1 0 190 1 = 0 := by rw [up2_at, if_pos (by decide)]
  have e3 : (res (dM 5) l 10 0).1 = -1 → up2 d1 190 1 0 190 3 = nI (res (dM 5) l 10 0).2 ∧ (res (dM 5) l 10 0).2 ≤ 10 ∧ Gd (dM 5) l (res (dM 5) l 10 0).2 ∧ ∀ k, k < (res (dM 5) l 10 0).2 → oAg (dM 5) l k (up2 d1 190 1 0) := fun c => by
    obtain ⟨a1, a2, a3, a4⟩ := f3 c
    refine ⟨by rw [up2_at, if_neg (by decide)]; exact a1, a2, a3, fun k hk => ?_⟩
    have h9 := a4 k hk
    unfold oAg at h9 ⊢
    rw [up2_ne _ _ _ (show 192 ≠ 190 by decide), up2_ne _ _ _ (show 194 + k ≠ 190 by omega)]
    exact h9
  have ef : ∀ a, a ≠ 190 → a ≠ 192 → ¬ (194 ≤ a ∧ a < 204) → up2 d1 190 1 0 a = q.1 a := fun a h1 h2 h3 => by rw [up2_ne _ _ _ h1]; exact f1.1 a h1 h2 h3
  generalize up2 d1 190 1 0 = d2 at *
  rw [e2]
  generalize hr : (res (dM 5) l 10 0) = r at *
  refine ⟨fun c => ?_, fun c => Or.inl ⟨rfl, ?_⟩⟩
  · obtain ⟨a1, a2, a3, a4⟩ := e3 c
    have hkd : ∀ j, j < r.2 → kd_ (dM 5) l (ps_ (dM 5) l j) < 10 := fun j hj => (a3 j hj).2
    have hv := rn_v (dM 5) l (10 * s) r.2 0 u (fun j hj => hkd j (by omega)) hI
    unfold w_X9_doesAllOrders
    refine x_copy (q := (d2, q.2)) (u := u) (n1.cg (fun a a1 a2 => ef a (by omega) (by omega) (by omega))) (by decide) (fun d3 g1 g2 => ?_)
    have g2 : ∀ p, p < 18 ∨ 35 ≤ p → d3 p = d2 p := g2
    have g3 : ∀ a, (a < 18 ∨ 35 ≤ a) → a ≠ 190 → a ≠ 192 → ¬ (194 ≤ a ∧ a < 204) → d3 a = q.1 a := fun a h0 h1 h2 h3 => (g2 a h0).trans (ef a h1 h2 h3)
    refine ⟨r.2 + 1, x_al (n := r.2) (n0 := 10 * s) (u0 := u) a2 hkd q.2 r.2 0 u d3 (by omega) (n1.cg (fun a a1 a2 => g3 a (by omega) (by omega) (by omega) (by omega))) hI g1 (by rw [g2 190 (by omega)]; exact a1) (fun j hj => ?_) (fun z d4 b1 b2 => ?_) (fun z d4 b1 b2 b3 b4 b5 b6 b7 b8 => ?_)⟩
    · have h9 := a4 j hj
      unfold oAg at h9 ⊢
      rw [g2 192 (by omega), g2 (194 + j) (by omega)]
      exact h9
    · -- all are done
      have g4 : ∀ a, (a = 0 ∨ 35 ≤ a) → a ≠ 190 → a ≠ 192 → ¬ (194 ≤ a ∧ a < 204) → d4 a = q.1 a := fun a h0 h1 h2 h3 => (b2 a (by omega)).trans (g3 a (by omega) h1 h2 h3)
      refine x_keepH (q := (d4, q.2)) (a := 18) (u := u) (by decide) (g1.cg (fun a a1 a2 => b2 a (by omega))) (hx.cg (fun a a1 a2 => g4 a (by omega) (by omega) (by omega) (by omega))) (fun d5 c1 c2 => ⟨fun _ => ?_, fun w => absurd w i10⟩)
      have c2 : ∀ a, a < 52 ∨ 190 ≤ a → d5 a = d4 a := c2
      have g5 : ∀ a, (a = 0 ∨ (35 ≤ a ∧ a < 52) ∨ 190 ≤ a) → a ≠ 190 → a ≠ 192 → ¬ (194 ≤ a ∧ a < 204) → d5 a = q.1 a := fun a h0 h1 h2 h3 => (c2 a (by omega)).trans (g4 a (by omega) h1 h2 h3)
      have g190 : d5 190 = d2 190 := (c2 190 (by omega)).trans ((b2 190 (by omega)).trans (g2 190 (by omega)))
      dsimp only
      rw [show d5 190 3 = nI r.2 by rw [g190]; exact a1]
      show w_X10_run (dM, []) (fP s _ 0 (d5, q.2))
      refine m_run l2 l60 (fun w => absurd (by rw [hr]; exact c) w) (fun w dm m1 m2 m3 m4 m5 m6 => ?_)
      rw [hr] at m5 m6
      refine r_begins (q := (dm, [])) (u := u) (by show RM (dm 1) 0 u; rw [m1 1 (by decide) (by decide)]; exact n2) (fun dn o1 o2 o3 o4 o5 o6 => ?_)
      have o5 : ∀ a, a ≠ 0 → a ≠ 2 → dn a = dm a := o5
      have o6 : ∀ j, j ≠ 15 → j ≠ 16 → dn 0 j = dm 0 j := o6
      refine ⟨r.2 + 1, m_al (n := r.2) (n0 := 10 * s) (u0 := u) a2 hkd [] r.2 0 u dn (by omega) o1 hI o2 (by rw [o6 21 (by decide) (by decide)]; exact m5) o3 (fun j hj => ?_) (fun z2 dp r1 r2 => ?_) (fun z2 => absurd z z2)⟩
      · have h9 := m6 j hj
        unfold mAg at h9 ⊢
        rw [o5 7 (by decide) (by decide)]
        exact h9
      · have r20 : dp 0 = dn 0 := r2 0 (by decide)
        unfold w_X10_ends
        dsimp only
        rw [r20, o3, o6 21 (by decide) (by decide), m5]
        refine ⟨fun _ => r_remembers (q := (dp, [])) (u := u) (c := cc) (h := hh) ?_ (hm.cg ?_ ?_) (fun dq t1 t2 t3 => ?_), fun w => absurd rfl w⟩
        · show RM (dp 2) 0 u
          rw [r2 2 (by decide)]
          exact o2
        · show dp 0 5 = dM 0 5
          rw [r20, o6 5 (by decide) (by decide), m2 5 (by decide) (by decide) (by decide) (by decide)]
        · show dp 4 = dM 4
          rw [r2 4 (by decide), o5 4 (by decide) (by decide), m1 4 (by decide) (by decide)]
        · have t2 : ∀ a, a ≠ 0 → a ≠ 4 → dq a = dp a := t2
          have t3 : ∀ j, j ≠ 5 → dq 0 j = dp 0 j := t3
          have q0 : ∀ j, j ≠ 5 → j ≠ 10 → j ≠ 12 → j ≠ 15 → j ≠ 16 → ¬ (18 ≤ j ∧ j ≤ 21) → dq 0 j = dM 0 j := fun j j1 j2 j3 j4 j5 j6 => by
            rw [t3 j j1, r20, o6 j j4 j5, m2 j j2 j3 j4 j6]
          have qa : ∀ a, a ≠ 0 → a ≠ 1 → a ≠ 2 → a ≠ 4 → a ≠ 7 → dq a = dM a := fun a h0 h1 h2 h4 h7 => by
            rw [t2 a h0 h4, r2 a h1, o5 a h0 h2, m1 a h0 h7]
          have q15 : dq 0 15 = 0 := by rw [t3 15 (by decide), r20]; exact o4
          have q12 : dq 0 12 = 0 := by rw [t3 12 (by decide), r20, o6 12 (by decide) (by decide)]; exact m3
          have q10 : dq 0 10 = -1 := by rw [t3 10 (by decide), r20, o6 10 (by decide) (by decide)]; exact m4
          have q1 : dq 1 = dp 1 := t2 1 (by decide) (by decide)
          refine f_0 (q := q) q15 ⟨⟨_, ?_, ?_, hv.wd (by omega)⟩, hS.cg hs (fun a a1 a2 => g5 a (by omega) (by omega) (by omega) (by omega)) (qa 3 (by decide) (by decide) (by decide) (by decide) (by decide)), ⟨_, _, _, c1, t1, inv_push hm.2.1 hhI hI hs⟩, ?_, hR.cg (g5 204 (by omega) (by omega) (by omega) (by omega)) (fun j j1 j2 => q0 j (by omega) (by omega) (by omega) (by omega) (by omega) (by omega)), ?_, ⟨0, by omega, ?_, q12, fun j hj => absurd hj (by omega)⟩, hL.cg (q0 14 (by decide) (by decide) (by decide) (by decide) (by decide) (by decide)) (qa 6 (by decide) (by decide) (by decide) (by decide) (by decide))⟩
          · exact b1.cg (fun a a1 a2 => c2 a (by omega))
          · show RM (dq 1) 0 _
            rw [q1]
            exact r1
          · show d5 0 3 = dq 0 4
            rw [g5 0 (by omega) (by omega) (by omega) (by omega), q0 4 (by decide) (by decide) (by decide) (by decide) (by decide) (by decide)]
            exact hF
          · show d5 190 2 = dq 0 10
            rw [g190, q10, e2]
            exact c
          · show d5 190 1 = nI 0
            rw [g190]
            exact e1
    · -- one is refused
      refine ⟨fun w => absurd rfl w, fun _ => Or.inr ⟨rfl, ?_⟩⟩
      have g4 : ∀ a, (a = 0 ∨ 35 ≤ a) → a ≠ 190 → a ≠ 192 → ¬ (194 ≤ a ∧ a < 204) → a ≠ 204 → d4 a = q.1 a := fun a h0 h1 h2 h3 h4 => (b2 a (by omega) h4).trans (g3 a (by omega) h1 h2 h3)
      have g190 : d4 190 = d2 190 := (b2 190 (by omega) (by omega)).trans (g2 190 (by omega))
      show w_X10_run (dM, []) (fP s v 2 (d4, q.2))
      refine m_run l2 l60 (fun w => absurd (by rw [hr]; exact c) w) (fun w dm m1 m2 m3 m4 m5 m6 => ?_)
      rw [hr] at m5 m6
      refine r_begins (q := (dm, [])) (u := u) (by show RM (dm 1) 0 u; rw [m1 1 (by decide) (by decide)]; exact n2) (fun dn o1 o2 o3 o4 o5 o6 => ?_)
      have o5 : ∀ a, a ≠ 0 → a ≠ 2 → dn a = dm a := o5
      have o6 : ∀ j, j ≠ 15 → j ≠ 16 → dn 0 j = dm 0 j := o6
      refine ⟨r.2 + 1, m_al (n := r.2) (n0 := 10 * s) (u0 := u) a2 hkd [] r.2 0 u dn (by omega) o1 hI o2 (by rw [o6 21 (by decide) (by decide)]; exact m5) o3 (fun j hj => ?_) (fun z2 => absurd z2 z) (fun z2 r0 dq t1 t6 t7 t8 t9 t15 ta t0 => ?_)⟩
      · have h9 := m6 j hj
        unfold mAg at h9 ⊢
        rw [o5 7 (by decide) (by decide)]
        exact h9
      · have q0 : ∀ j, j ≠ 10 → j ≠ 12 → ¬ (6 ≤ j ∧ j ≤ 9) → ¬ (15 ≤ j ∧ j ≤ 21) → dq 0 j = dM 0 j := fun j j1 j2 j3 j4 => by
          rw [t0 j j3 (by omega), o6 j (by omega) (by omega), m2 j j1 j2 (by omega) (by omega)]
        have qa : ∀ a, a ≠ 0 → a ≠ 1 → a ≠ 2 → a ≠ 7 → dq a = dM a := fun a h0 h1 h2 h7 => by
          rw [ta a h0 h1, o5 a h0 h2, m1 a h0 h7]
        have q12 : dq 0 12 = 0 := by rw [t0 12 (by decide) (by decide), o6 12 (by decide) (by decide)]; exact m3
        have q10 : dq 0 10 = -1 := by rw [t0 10 (by decide) (by decide), o6 10 (by decide) (by decide)]; exact m4
        refine f_k (by decide) t15 ⟨⟨u, b1, t1, hI.wd hs⟩, hS.cg hs (fun a a1 a2 => g4 a (by omega) (by omega) (by omega) (by omega) (by omega)) (qa 3 (by decide) (by decide) (by decide) (by decide)), ⟨cc, pp, hh, hx.cg (fun a a1 a2 => g4 a (by omega) (by omega) (by omega) (by omega) (by omega)), hm.cg (q0 5 (by decide) (by decide) (by decide) (by decide)) (qa 4 (by decide) (by decide) (by decide) (by decide)), fun k hk => (hhI k hk).wd hs⟩, ?_, Or.inr ⟨?_, ?_, ?_, ?_, Or.inr ⟨?_, ?_, ?_, ?_⟩⟩, ?_, ⟨0, by omega, ?_, q12, fun j hj => absurd hj (by omega)⟩, hL.cg (q0 14 (by decide) (by decide) (by decide) (by decide)) (qa 6 (by decide) (by decide) (by decide) (by decide))⟩
        · show d4 0 3 = dq 0 4
          rw [g4 0 (by omega) (by omega) (by omega) (by omega) (by omega), q0 4 (by decide) (by decide) (by decide) (by decide)]
          exact hF
        · show ¬ d4 204 0 = 0
          rw [b3]
          decide
        · show ¬ dq 0 6 = 0
          rw [t6]
          decide
        · show d4 204 1 = dq 0 6
          rw [b4, t6]
        · show d4 204 2 = dq 0 7
          rw [b5, t7]
        · show ¬ d4 204 3 = 0
          rw [b6]
          decide
        · show ¬ dq 0 8 = 0
          rw [t8]
          exact z2
        · show d4 204 4 = dq 0 8
          rw [b7, t8]
        · show d4 204 5 = dq 0 9
          rw [b8, t9]
        · show d4 190 2 = dq 0 10
          rw [g190, q10, e2]
          exact c
        · show d4 190 1 = nI 0
          rw [g190]
          exact e1
  · -- the text does not read
    show w_X10_run (dM, []) (fP s v 1 (d2, q.2))
    refine m_run l2 l60 (fun w dq m1 m2 m3 m4 m5 => ?_) (fun w => absurd (by rw [hr] at w; exact w) c)
    rw [hr] at m4
    have q0 : ∀ j, j ≠ 10 → j ≠ 12 → j ≠ 15 → ¬ (18 ≤ j ∧ j ≤ 21) → dq 0 j = dM 0 j := m2
    refine f_k (by decide) m5 ⟨⟨u, n1.cg (fun a a1 a2 => ef a (by omega) (by omega) (by omega)), by show RM (dq 1) 0 u; rw [m1 1 (by decide) (by decide)]; exact n2, hI.wd hs⟩, hS.cg hs (fun a a1 a2 => ef a (by omega) (by omega) (by omega)) (m1 3 (by decide) (by decide)), ⟨cc, pp, hh, hx.cg (fun a a1 a2 => ef a (by omega) (by omega) (by omega)), hm.cg (q0 5 (by decide) (by decide) (by decide) (by decide)) (m1 4 (by decide) (by decide)), fun k hk => (hhI k hk).wd hs⟩, ?_, hR.cg (ef 204 (by omega) (by omega) (by omega)) (fun j j1 j2 => q0 j (by omega) (by omega) (by omega) (by omega)), ?_, ⟨0, by omega, e1, m3, fun j hj => absurd hj (by omega)⟩, hL.cg (q0 14 (by decide) (by decide) (by decide) (by decide)) (m1 6 (by decide) (by decide))⟩
    · show d2 0 3 = dq 0 4
      rw [ef 0 (by omega) (by omega) (by omega), q0 4 (by decide) (by decide) (by decide) (by decide)]
      exact hF
    · show d2 190 2 = dq 0 10
      rw [m4, e2]
end PO30

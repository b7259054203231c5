/-! what ties the class' numbers and text to the reference's numbers -/
def SavR (n : Nat) (d dM : pU) : Prop := ∃ w, RX 35 d w ∧ RM (dM 3) 0 w ∧ Inv n w
def HisR (n : Nat) (d dM : pU) : Prop := ∃ (c p : Nat) (h : Nat → pU), HX c p h d ∧ HM c h dM ∧ ∀ k, k < c → Inv n (h k)
def RefR (d dM : pU) : Prop := (d 204 0 = 0 ∧ dM 0 6 = 0 ∧ dM 0 8 = 0) ∨ (¬ d 204 0 = 0 ∧ ¬ dM 0 6 = 0 ∧ d 204 1 = dM 0 6 ∧ d 204 2 = dM 0 7 ∧ ((d 204 3 = 0 ∧ dM 0 8 = 0) ∨ (¬ d 204 3 = 0 ∧ ¬ dM 0 8 = 0 ∧ d 204 4 = dM 0 8 ∧ d 204 5 = dM 0 9)))
def TxtR (d dM : pU) : Prop := ∃ l, l ≤ 60 ∧ d 190 1 = nI l ∧ dM 0 12 = nI l ∧ ∀ j, j < l → d 191 j = dM 5 j ∧ Rg (d 191 j) 32 126
def LinR (t : List Nat) (dM : pU) : Prop := t.length ≤ 60 ∧ dM 0 14 = nI t.length ∧ ∀ j, j < t.length → dM 6 j = nI (t.getD j 0) ∧ t.getD j 0 < 128
def NowR (n : Nat) (d dM : pU) : Prop := ∃ u, RX 1 d u ∧ RM (dM 1) 0 u ∧ Inv n u
def INV (s : Nat) (q : aS) (dM : pU) : Prop := NowR (10 * s) q.1 dM ∧ SavR (10 * s) q.1 dM ∧ HisR (10 * s) q.1 dM ∧ q.1 0 3 = dM 0 4 ∧ RefR q.1 dM ∧ q.1 190 2 = dM 0 10 ∧ TxtR q.1 dM ∧ LinR q.2 dM
theorem SavR.cg {n m : Nat} {d d' dM dM' : pU} (h : SavR n d dM) (hm : n ≤ m) (hd : ∀ s, 35 ≤ s → s < 52 → d' s = d s) (h3 : dM' 3 = dM 3) : SavR m d' dM' := by
  obtain ⟨w, h1, h2, hI⟩ := h
  exact ⟨w, h1.cg (fun s s1 s2 => hd s s1 (by omega)), by rw [h3]; exact h2, hI.wd hm⟩
theorem HX.cg {c p : Nat} {h : Nat → pU} {d d' : pU} (hx : HX c p h d) (hd : ∀ s, 52 ≤ s → s < 190 → d' s = d s) : HX c p h d' := by
  obtain ⟨x1, x2, x3, x4, x5⟩ := hx
  refine ⟨x1, x2, by rw [hd 52 (by omega) (by omega)]; exact x3, by rw [hd 52 (by omega) (by omega)]; exact x4, fun k hk => (x5 k hk).cg (fun s s1 s2 => hd s (by omega) (by omega))⟩
theorem HM.cg {c : Nat} {h : Nat → pU} {d d' : pU} (hx : HM c h d) (h5 : d' 0 5 = d 0 5) (h4 : d' 4 = d 4) : HM c h d' := by
  obtain ⟨x1, x2, x3⟩ := hx
  refine ⟨h5.trans x1, x2, fun k hk => ?_⟩
  rw [h4]
  exact x3 k hk
theorem HisR.cg {n m : Nat} {d d' dM dM' : pU} (h : HisR n d dM) (hm : n ≤ m) (hd : ∀ s, 52 ≤ s → s < 190 → d' s = d s) (h5 : dM' 0 5 = dM 0 5) (h4 : dM' 4 = dM 4) : HisR m d' dM' := by
  obtain ⟨c, p, hh, h1, h2, h3⟩ := h
  exact ⟨c, p, hh, h1.cg hd, h2.cg h5 h4, fun k hk => (h3 k hk).wd hm⟩
theorem RefR.cg {d d' dM dM' : pU} (h : RefR d dM) (hd : d' 204 = d 204) (hM : ∀ j, 6 ≤ j → j ≤ 9 → dM' 0 j = dM 0 j) : RefR d' dM' := by
  unfold RefR
  rw [hd, hM 6 (by omega) (by omega), hM 7 (by omega) (by omega), hM 8 (by omega) (by omega), hM 9 (by omega) (by omega)]
  exact h
theorem TxtR.cg {d d' dM dM' : pU} (h : TxtR d dM) (h1 : d' 190 1 = d 190 1) (h2 : d' 191 = d 191) (h3 : dM' 0 12 = dM 0 12) (h4 : dM' 5 = dM 5) : TxtR d' dM' := by
  unfold TxtR
  rw [h1, h2, h3, h4]
  exact h
theorem LinR.cg {t : List Nat} {dM dM' : pU} (h : LinR t dM) (h1 : dM' 0 14 = dM 0 14) (h2 : dM' 6 = dM 6) : LinR t dM' := by
  unfold LinR
  rw [h1, h2]
  exact h
theorem inv_push {n m : Nat} {h : Nat → pU} {c : Nat} {u : pU} (hc : c ≤ 8) (hI : ∀ k, k < c → Inv n (h k)) (hu : Inv n u) (hm : n ≤ m) : ∀ k, k < cpush c → Inv m (hpush h c u k) := by
  intro k hk
  unfold cpush at hk
  unfold hpush
  by_cases c8 : c < 8
  · rw [if_pos c8] at hk ⊢
    by_cases e : k = c
    · rw [if_pos e]
      exact hu.wd hm
    · rw [if_neg e]
      exact (hI k (by omega)).wd hm
  · rw [if_neg c8] at hk ⊢
    by_cases e : k = 7
    · rw [if_pos e]
      exact hu.wd hm
    · rw [if_neg e]
      exact (hI (k + 1) (by omega)).wd hm
section CHG
variable {q : aS} {u : pU} {P : Int32 → aS → Prop} {X : String → aS → Prop} {n : Nat}
theorem x_change (h : RX 1 q.1 u) (hI : Inv n u) {k : Nat} (hk : k < 10) (a b c : Int32) {cc pp : Nat} {hh : Nat → pU} (hx : HX cc pp hh q.1)
    (k0 : (pRef k a b c u).1 = 0 → ∀ d', RX 1 d' (pDo k a b c u).2 → HX (cpush cc) ((pp + 1) % 8) (hpush hh cc u) d' → (∀ s, (s = 0 ∨ (18 ≤ s ∧ s < 52) ∨ 190 ≤ s) → d' s = q.1 s) → P (pDo k a b c u).1 (d', q.2))
    (k1 : ¬ (pRef k a b c u).1 = 0 → X "java/lang/UnsupportedOperationException" (kp_ q.1 (pRef k a b c u).1 (pRef k a b c u).2, q.2)) : w_X9_change k a b c q P X := by
  unfold w_X9_change
  refine x_ref h hI.1 hk a b c (fun hr => ⟨fun _ => ?_, fun z => absurd rfl z⟩) (fun hr => ⟨fun z => absurd z i10, fun _ => k1 hr⟩)
  refine x_keepH (by decide) h hx (fun d1 g1 g2 => ?_)
  refine x_do (q := (d1, q.2)) (h.cg (fun s s1 s2 => g2 s (by omega))) hI hk a b c hr (fun d2 f1 f2 => ?_)
  refine k0 hr d2 f1 (g1.cg (fun s s1 s2 => f2 s (by omega))) (fun s hs => ?_)
  rw [f2 s (by omega)]
  exact g2 s (by omega)
/-- the reference's method of a kind -/
def wC (k : Nat) (a b c : Int32) (q : aS) (P : Int32 → aS → Prop) : Prop := w_X10_begins q (fun _ q3 => wK k a b c q3 (fun r4 q5 => w_X10_ends r4 q5 (fun r6 q7 => P r6 q7)))
theorem r_change (h : RM (q.1 1) 0 u) (hI : Inv n u) {k : Nat} (hk : k < 10) (a b c : Int32) {cc : Nat} {hh : Nat → pU} (hm : HM cc hh q.1)
    (k0 : (pRef k a b c u).1 = 0 → ∀ d', RM (d' 1) 0 (pDo k a b c u).2 → HM (cpush cc) (hpush hh cc u) d' → d' 0 15 = 0 → (∀ s, (s = 3 ∨ 5 ≤ s) → d' s = q.1 s) → (∀ j, j ≠ 5 → ¬ (15 ≤ j ∧ j ≤ 17) → d' 0 j = q.1 0 j) → P (pDo k a b c u).1 (d', q.2))
    (k1 : ¬ (pRef k a b c u).1 = 0 → ∀ d', RM (d' 1) 0 u → d' 0 6 = (pRef k a b c u).1 → d' 0 7 = (pRef k a b c u).2 → d' 0 8 = 0 → d' 0 9 = 0 → d' 0 15 = 1 → (∀ s, 3 ≤ s → d' s = q.1 s) → (∀ j, ¬ (6 ≤ j ∧ j ≤ 9) → ¬ (15 ≤ j ∧ j ≤ 17) → d' 0 j = q.1 0 j) → P 0 (d', q.2)) : wC k a b c q P := by
  unfold wC
  refine r_begins h (fun d1 b1 b2 b3 b4 b5 b6 => ?_)
  refine r_do (q := (d1, q.2)) b1 hI b3 hk a b c (fun hr d2 f1 f2 => ?_) (fun hr d2 r' f1 f2 f3 => ?_)
  · unfold w_X10_ends
    have e0 : d2 0 = d1 0 := f2 0 (by decide)
    refine ⟨fun _ => ?_, fun z => absurd (show d2 0 16 = 0 by rw [e0]; exact b3) z⟩
    refine r_remembers (q := (d2, q.2)) (u := u) ?_ (hm.cg ?_ ?_) (fun d3 g1 g2 g3 => ?_)
    · show RM (d2 2) 0 u
      rw [f2 2 (by decide)]
      exact b2
    · show d2 0 5 = _
      rw [e0, b6 5 (by decide) (by decide)]
    · show d2 4 = _
      rw [f2 4 (by decide)]
      exact b5 4 (by decide) (by decide)
    · refine k0 hr d3 ?_ g1 ?_ (fun s hs => ?_) (fun j h5 h15 => ?_)
      · rw [g2 1 (by decide) (by decide)]
        exact f1
      · rw [g3 15 (by decide)]
        show d2 0 15 = 0
        rw [e0]
        exact b4
      · rw [g2 s (by omega) (by omega)]
        show d2 s = _
        rw [f2 s (by omega)]
        exact b5 s (by omega) (by omega)
      · rw [g3 j h5]
        show d2 0 j = _
        rw [e0]
        exact b6 j (by omega) (by omega)
  · unfold w_X10_ends
    refine ⟨fun z => absurd (f1.symm.trans z) hr, fun _ => ?_⟩
    show w_X10_refuses (d2 0 16) (d2 0 17) 0 0 1 (d2, q.2) _
    rw [f1, f2]
    refine r_refuses (q := (d2, q.2)) (u := u) ?_ (fun d3 g1 g2 g3 g4 g5 g6 g7 g8 => ?_)
    · show RM (d2 2) 0 u
      rw [f3.1 2 (by decide) (by decide)]
      exact b2
    · refine k1 hr d3 g1 g2 g3 g4 g5 g6 (fun s hs => ?_) (fun j h6 h15 => ?_)
      · rw [g7 s (by omega) (by omega)]
        show d2 s = _
        rw [f3.1 s (by omega) (by omega)]
        exact b5 s (by omega) (by omega)
      · rw [g8 j h6 (by omega)]
        show d2 0 j = _
        rw [f3.2 j (by omega) (by omega)]
        exact b6 j (by omega) (by omega)
end CHG
theorem kp_204 (d : pU) (r x : Int32) : kp_ d r x 204 0 = 1 ∧ kp_ d r x 204 1 = r ∧ kp_ d r x 204 2 = x ∧ kp_ d r x 204 3 = 0 := by
  unfold kp_
  refine ⟨?_, ?_, ?_, ?_⟩
  · rw [up2_at, if_neg (by decide), up2_at, if_neg (by decide), up2_at, if_neg (by decide), up2_at, if_pos (by decide)]
  · rw [up2_at, if_neg (by decide), up2_at, if_neg (by decide), up2_at, if_pos (by decide)]
  · rw [up2_at, if_neg (by decide), up2_at, if_pos (by decide)]
  · rw [up2_at, if_pos (by decide)]
theorem kp_ne (d : pU) (r x : Int32) {s : Nat} (hs : s ≠ 204) : kp_ d r x s = d s := by
  unfold kp_
  rw [up2_ne _ _ _ hs, up2_ne _ _ _ hs, up2_ne _ _ _ hs, up2_ne _ _ _ hs]
def K1 (s : Nat) : aS → aS → Prop := fun q2 qm => INV (s + 1) q2 qm.1
/-- a change, both sides -/
theorem rel_change {s : Nat} {q : aS} {dM : pU} (hN : INV s q dM) {k : Nat} (hk : k < 10) (a b c : Int32) {R : Int32 → aS → Int32 → aS → Prop} {E : aS → Int32 → aS → Prop}
    (k0 : ∀ r d' dM' t, dM' 0 15 = 0 → INV (s + 1) (d', q.2) dM' → R r (d', q.2) r (dM', t)) (k1 : ∀ d' dM' t, dM' 0 15 = 1 → INV (s + 1) (d', q.2) dM' → E (d', q.2) 0 (dM', t)) :
    w_X9_change k a b c q (fun r q2 => wC k a b c (dM, []) (R r q2)) (fun e q2 => e = "java/lang/UnsupportedOperationException" ∧ wC k a b c (dM, []) (E q2)) := by
  obtain ⟨⟨u, n1, n2, hI⟩, hS, ⟨cc, pp, hh, hx, hm, hhI⟩, hF, hR, hT, hX, hL⟩ := hN
  have hs : 10 * s ≤ 10 * (s + 1) := by omega
  refine x_change n1 hI hk a b c hx (fun hr d1 f1 f2 f3 => ?_) (fun hr => ?_)
  · refine r_change (q := (dM, [])) n2 hI hk a b c hm (fun _ d2 g1 g2 g3 g4 g5 => ?_) (fun z => absurd hr z)
    have hg : ∀ j, j ≠ 5 → ¬ (15 ≤ j ∧ j ≤ 17) → d2 0 j = dM 0 j := g5
    refine k0 _ d1 d2 [] g3 ⟨⟨_, f1, g1, (v_do hI hk a b c hr).wd (by omega)⟩, hS.cg hs (fun s s1 s2 => f3 s (by omega)) (g4 3 (by omega)), ⟨_, _, _, f2, g2, inv_push hm.2.1 hhI hI hs⟩, ?_, hR.cg (f3 204 (by omega)) (fun j j1 j2 => hg j (by omega) (by omega)), ?_, hX.cg ?_ (f3 191 (by omega)) (hg 12 (by omega) (by omega)) (g4 5 (by omega)), hL.cg (hg 14 (by omega) (by omega)) (g4 6 (by omega))⟩
    · show d1 0 3 = d2 0 4
      rw [f3 0 (by omega), hg 4 (by omega) (by omega)]
      exact hF
    · show d1 190 2 = d2 0 10
      rw [f3 190 (by omega), hg 10 (by omega) (by omega)]
      exact hT
    · show d1 190 1 = _
      rw [f3 190 (by omega)]
  · refine ⟨rfl, r_change (q := (dM, [])) n2 hI hk a b c hm (fun z => absurd z hr) (fun _ d2 g1 g2 g3 g4 g5 g6 g7 g8 => ?_)⟩
    have hg : ∀ j, ¬ (6 ≤ j ∧ j ≤ 9) → ¬ (15 ≤ j ∧ j ≤ 17) → d2 0 j = dM 0 j := g8
    have hk4 := kp_204 q.1 (pRef k a b c u).1 (pRef k a b c u).2
    have hkn : ∀ s, s ≠ 204 → kp_ q.1 (pRef k a b c u).1 (pRef k a b c u).2 s = q.1 s := fun s hs => kp_ne q.1 _ _ hs
    generalize kp_ q.1 (pRef k a b c u).1 (pRef k a b c u).2 = d1 at *
    refine k1 d1 d2 [] g6 ⟨⟨u, n1.cg (fun s s1 s2 => hkn s (by omega)), g1, hI.wd hs⟩, hS.cg hs (fun s s1 s2 => hkn s (by omega)) (g7 3 (by omega)), ⟨cc, pp, hh, hx.cg (fun s s1 s2 => hkn s (by omega)), hm.cg (hg 5 (by omega) (by omega)) (g7 4 (by omega)), fun k hk => (hhI k hk).wd hs⟩, ?_, Or.inr ⟨?_, ?_, ?_, ?_, Or.inl ⟨?_, ?_⟩⟩, ?_, hX.cg ?_ (hkn 191 (by omega)) (hg 12 (by omega) (by omega)) (g7 5 (by omega)), hL.cg (hg 14 (by omega) (by omega)) (g7 6 (by omega))⟩
    · show d1 0 3 = d2 0 4
      rw [hkn 0 (by omega), hg 4 (by omega) (by omega)]
      exact hF
    · show ¬ d1 204 0 = 0
      rw [hk4.1]
      decide
    · show ¬ d2 0 6 = 0
      rw [g2]
      exact hr
    · show d1 204 1 = d2 0 6
      rw [hk4.2.1, g2]
    · show d1 204 2 = d2 0 7
      rw [hk4.2.2.1, g3]
    · exact hk4.2.2.2
    · exact g4
    · show d1 190 2 = d2 0 10
      rw [hkn 190 (by omega), hg 10 (by omega) (by omega)]
      exact hT
    · show d1 190 1 = _
      rw [hkn 190 (by omega)]
theorem ob_ch {s : Nat} {q : aS} {dM : pU} (hN : INV s q dM) {k : Nat} (hk : k < 10) (a b c : Int32) (v : Nat → Int64) (vd : Nat → UInt64) :
    w_X9_change k a b c q (fun r q2 => lPo (wC k a b c (dM, [])) (K1 s) 0 (vp_updL v 0 (r.toInt64), vd, q2)) (fun E q2 => E = "java/lang/UnsupportedOperationException" ∧ lPo (wC k a b c (dM, [])) (K1 s) 1 (v, vd, q2)) := by
  exact rel_change hN hk a b c (R := fun r q2 b qm => w_X10_thrown qm (fun th qm' => th = 0 ∧ ((0 : Int32) = 0 → vp_updL v 0 (r.toInt64) 0 = b.toInt64) ∧ K1 s q2 qm')) (E := fun q2 b qm => w_X10_thrown qm (fun th qm' => th = 1 ∧ ((1 : Int32) = 0 → v 0 = b.toInt64) ∧ K1 s q2 qm'))
    (fun r d' dM' t h0 hI => ⟨h0, fun _ => by unfold vp_updL; rw [if_pos rfl], hI⟩) (fun d' dM' t h0 hI => ⟨h0, fun z => absurd z i10, hI⟩)
theorem wK_0 (a b c : Int32) (q : aS) (P : Int32 → aS → Prop) : wK 0 a b c q P = w_X10_opens a q P := by
  unfold wK
  rw [if_pos rfl]
theorem wK_1 (a b c : Int32) (q : aS) (P : Int32 → aS → Prop) : wK 1 a b c q P = w_X10_sounds a b q P := by
  unfold wK
  rw [if_neg (by decide), if_pos rfl]
theorem wK_2 (a b c : Int32) (q : aS) (P : Int32 → aS → Prop) : wK 2 a b c q P = w_X10_arrives a b q P := by
  unfold wK
  rw [if_neg (by decide), if_neg (by decide), if_pos rfl]
theorem wK_3 (a b c : Int32) (q : aS) (P : Int32 → aS → Prop) : wK 3 a b c q P = w_X10_comesIn a b q P := by
  unfold wK
  rw [if_neg (by decide), if_neg (by decide), if_neg (by decide), if_pos rfl]
theorem wK_4 (a b c : Int32) (q : aS) (P : Int32 → aS → Prop) : wK 4 a b c q P = w_X10_goesOut a q P := by
  unfold wK
  rw [if_neg (by decide), if_neg (by decide), if_neg (by decide), if_neg (by decide), if_pos rfl]
theorem wK_5 (a b c : Int32) (q : aS) (P : Int32 → aS → Prop) : wK 5 a b c q P = w_X10_carries a b q P := by
  unfold wK
  rw [if_neg (by decide), if_neg (by decide), if_neg (by decide), if_neg (by decide), if_neg (by decide), if_pos rfl]
theorem wK_6 (a b c : Int32) (q : aS) (P : Int32 → aS → Prop) : wK 6 a b c q P = w_X10_rents a b c q P := by
  unfold wK
  rw [if_neg (by decide), if_neg (by decide), if_neg (by decide), if_neg (by decide), if_neg (by decide), if_neg (by decide), if_pos rfl]
theorem wK_7 (a b c : Int32) (q : aS) (P : Int32 → aS → Prop) : wK 7 a b c q P = w_X10_gives a b q P := by
  unfold wK
  rw [if_neg (by decide), if_neg (by decide), if_neg (by decide), if_neg (by decide), if_neg (by decide), if_neg (by decide), if_neg (by decide), if_pos rfl]
theorem wK_8 (a b c : Int32) (q : aS) (P : Int32 → aS → Prop) : wK 8 a b c q P = w_X10_sings a q P := by
  unfold wK
  rw [if_neg (by decide), if_neg (by decide), if_neg (by decide), if_neg (by decide), if_neg (by decide), if_neg (by decide), if_neg (by decide), if_neg (by decide), if_pos rfl]
theorem wK_9 (a b c : Int32) (q : aS) (P : Int32 → aS → Prop) : wK 9 a b c q P = w_X10_passes q P := by
  unfold wK
  rw [if_neg (by decide), if_neg (by decide), if_neg (by decide), if_neg (by decide), if_neg (by decide), if_neg (by decide), if_neg (by decide), if_neg (by decide), if_neg (by decide)]
theorem wC_0 (p1 p2 p3 : Int32) (q : aS) : wC 0 p1 0 0 q = w_X10_room p1 q := by
  funext P
  unfold wC w_X10_room
  simp only [wK_0]
theorem po_0 {s : Nat} {q : aS} {dM : pU} (hN : INV s q dM) (v : Nat → Int64) (vd : Nat → UInt64) (p1 p2 p3 : Int32) : ob_0 v vd p1 p2 p3 q (dM, []) (K1 s) := by
  unfold ob_0 w_X9_room
  rw [← wC_0 p1 p2 p3]
  exact ob_ch hN (k := 0) (by decide) p1 0 0 v vd
theorem wC_1 (p1 p2 p3 : Int32) (q : aS) : wC 1 p1 p2 0 q = w_X10_echo p1 p2 q := by
  funext P
  unfold wC w_X10_echo
  simp only [wK_1]
theorem po_1 {s : Nat} {q : aS} {dM : pU} (hN : INV s q dM) (v : Nat → Int64) (vd : Nat → UInt64) (p1 p2 p3 : Int32) : ob_1 v vd p1 p2 p3 q (dM, []) (K1 s) := by
  unfold ob_1 w_X9_echo
  rw [← wC_1 p1 p2 p3]
  exact ob_ch hN (k := 1) (by decide) p1 p2 0 v vd
theorem wC_2 (p1 p2 p3 : Int32) (q : aS) : wC 2 p1 p2 0 q = w_X10_singer p1 p2 q := by
  funext P
  unfold wC w_X10_singer
  simp only [wK_2]
theorem po_2 {s : Nat} {q : aS} {dM : pU} (hN : INV s q dM) (v : Nat → Int64) (vd : Nat → UInt64) (p1 p2 p3 : Int32) : ob_2 v vd p1 p2 p3 q (dM, []) (K1 s) := by
  unfold ob_2 w_X9_singer
  rw [← wC_2 p1 p2 p3]
  exact ob_ch hN (k := 2) (by decide) p1 p2 0 v vd
theorem wC_3 (p1 p2 p3 : Int32) (q : aS) : wC 3 p1 p2 0 q = w_X10_enter p1 p2 q := by
  funext P
  unfold wC w_X10_enter
  simp only [wK_3]
theorem po_3 {s : Nat} {q : aS} {dM : pU} (hN : INV s q dM) (v : Nat → Int64) (vd : Nat → UInt64) (p1 p2 p3 : Int32) : ob_3 v vd p1 p2 p3 q (dM, []) (K1 s) := by
  unfold ob_3 w_X9_enter
  rw [← wC_3 p1 p2 p3]
  exact ob_ch hN (k := 3) (by decide) p1 p2 0 v vd
theorem wC_4 (p1 p2 p3 : Int32) (q : aS) : wC 4 p1 0 0 q = w_X10_out p1 q := by
  funext P
  unfold wC w_X10_out
  simp only [wK_4]
theorem po_4 {s : Nat} {q : aS} {dM : pU} (hN : INV s q dM) (v : Nat → Int64) (vd : Nat → UInt64) (p1 p2 p3 : Int32) : ob_4 v vd p1 p2 p3 q (dM, []) (K1 s) := by
  unfold ob_4 w_X9_out
  rw [← wC_4 p1 p2 p3]
  exact ob_ch hN (k := 4) (by decide) p1 0 0 v vd
theorem wC_5 (p1 p2 p3 : Int32) (q : aS) : wC 5 p1 p2 0 q = w_X10_carry p1 p2 q := by
  funext P
  unfold wC w_X10_carry
  simp only [wK_5]
theorem po_5 {s : Nat} {q : aS} {dM : pU} (hN : INV s q dM) (v : Nat → Int64) (vd : Nat → UInt64) (p1 p2 p3 : Int32) : ob_5 v vd p1 p2 p3 q (dM, []) (K1 s) := by
  unfold ob_5 w_X9_carry
  rw [← wC_5 p1 p2 p3]
  exact ob_ch hN (k := 5) (by decide) p1 p2 0 v vd
theorem wC_6 (p1 p2 p3 : Int32) (q : aS) : wC 6 p1 p2 p3 q = w_X10_rent p1 p2 p3 q := by
  funext P
  unfold wC w_X10_rent
  simp only [wK_6]
theorem po_6 {s : Nat} {q : aS} {dM : pU} (hN : INV s q dM) (v : Nat → Int64) (vd : Nat → UInt64) (p1 p2 p3 : Int32) : ob_6 v vd p1 p2 p3 q (dM, []) (K1 s) := by
  unfold ob_6 w_X9_rent
  rw [← wC_6 p1 p2 p3]
  exact ob_ch hN (k := 6) (by decide) p1 p2 p3 v vd
theorem wC_7 (p1 p2 p3 : Int32) (q : aS) : wC 7 p1 p2 0 q = w_X10_back p1 p2 q := by
  funext P
  unfold wC w_X10_back
  simp only [wK_7]
theorem po_7 {s : Nat} {q : aS} {dM : pU} (hN : INV s q dM) (v : Nat → Int64) (vd : Nat → UInt64) (p1 p2 p3 : Int32) : ob_7 v vd p1 p2 p3 q (dM, []) (K1 s) := by
  unfold ob_7 w_X9_back
  rw [← wC_7 p1 p2 p3]
  exact ob_ch hN (k := 7) (by decide) p1 p2 0 v vd
theorem wC_8 (p1 p2 p3 : Int32) (q : aS) : wC 8 p1 0 0 q = w_X10_sing p1 q := by
  funext P
  unfold wC w_X10_sing
  simp only [wK_8]
theorem po_8 {s : Nat} {q : aS} {dM : pU} (hN : INV s q dM) (v : Nat → Int64) (vd : Nat → UInt64) (p1 p2 p3 : Int32) : ob_8 v vd p1 p2 p3 q (dM, []) (K1 s) := by
  unfold ob_8 w_X9_sing
  rw [← wC_8 p1 p2 p3]
  exact ob_ch hN (k := 8) (by decide) p1 0 0 v vd
theorem wC_9 (q : aS) : wC 9 0 0 0 q = w_X10_night q := by
  funext P
  unfold wC w_X10_night
  simp only [wK_9]
theorem dO_9 (a b c : Int32) (q : aS) (P : Int32 → aS → Prop) : w_X9_doOrder 9 a b c q P = w_X8_letNightPass q P := by
  unfold w_X9_doOrder
  simp only [show (swI 9 = 1) = False from eq_false (by decide), show (swI 9 = 2) = False from eq_false (by decide), show (swI 9 = 3) = False from eq_false (by decide), show (swI 9 = 4) = False from eq_false (by decide), show (swI 9 = 5) = False from eq_false (by decide), show (swI 9 = 6) = False from eq_false (by decide), show (swI 9 = 7) = False from eq_false (by decide), show (swI 9 = 8) = False from eq_false (by decide), show (swI 9 = 9) = False from eq_false (by decide), false_implies, not_false_eq_true, true_implies, true_and]
theorem iR_9 (a b c : Int32) (q : aS) (P : Int32 → aS → Prop) : w_X9_isRefused 9 a b c q P = P 0 q := by
  unfold w_X9_isRefused
  simp only [show (swI 9 = 1) = False from eq_false (by decide), show (swI 9 = 2) = False from eq_false (by decide), show (swI 9 = 3) = False from eq_false (by decide), show (swI 9 = 4) = False from eq_false (by decide), show (swI 9 = 5) = False from eq_false (by decide), show (swI 9 = 6) = False from eq_false (by decide), show (swI 9 = 7) = False from eq_false (by decide), show (swI 9 = 8) = False from eq_false (by decide), show (swI 9 = 9) = False from eq_false (by decide), false_implies, not_false_eq_true, true_implies, true_and]
theorem po_9 {s : Nat} {q : aS} {dM : pU} (hN : INV s q dM) (v : Nat → Int64) (vd : Nat → UInt64) (p1 p2 p3 : Int32) : ob_9 v vd p1 p2 p3 q (dM, []) (K1 s) := by
  unfold ob_9 w_X9_night
  rw [← wC_9]
  have h := rel_change hN (k := 9) (by decide) 0 0 0 (R := fun r q2 b qm2 => r = b ∧ K1 s q2 qm2) (E := fun _ _ _ => True) (fun r d' dM' t h0 hI => ⟨rfl, hI⟩) (fun _ _ _ _ _ => trivial)
  unfold w_X9_change at h
  simp only [iR_9, dO_9] at h
  exact h.1 trivial

/-! what ties the class' numbers and text to the reference's numbers -/
theorem HX.cg {c p : Nat} {h : Nat → pU} {d d' : pU} (hx : HX c p h d) (hd : ∀ s, 52 ≤ s → s < 190 → d' s = d s) : HX c p h d' := by
  obtain ⟨x1, x2, x3, x4, x5⟩ := hx
  refine ⟨x1, x2, by rw [hd 52 (by omega) (by omega)]; exact x3, by rw [hd 52 (by omega) (by omega)]; exact x4, fun k hk => (x5 k hk).cg (fun s s1 s2 => hd s (by omega) (by omega))⟩
theorem inv_push {n m : Nat} {h : Nat → pU} {c : Nat} {u : pU} (hc : c ≤ 8) (hI : ∀ k, k < c → Inv n (h k)) (hu : Inv n u) (hm : n ≤ m) : ∀ k, k < cpush c → Inv m (hpush h c u k) := by
  intro k hk
  unfold cpush at hk
  unfold hpush
  by_cases c8 : c < 8
  · rw [if_pos c8] at hk ⊢
    by_cases e : k = c
    · rw [if_pos e]
      exact hu.wd hm
    · rw [if_neg e]
      exact (hI k (by omega)).wd hm
  · rw [if_neg c8] at hk ⊢
    by_cases e : k = 7
    · rw [if_pos e]
      exact hu.wd hm
    · rw [if_neg e]
      exact (hI (k + 1) (by omega)).wd hm
section CHG
variable {q : aS} {u : pU} {P : Int32 → aS → Prop} {X : String → aS → Prop} {n : Nat}
theorem x_change (h : RX 1 q.1 u) (hI : Inv n u) {k : Nat} (hk : k < 10) (a b c : Int32) {cc pp : Nat} {hh : Nat → pU} (hx : HX cc pp hh q.1)
    (k0 : (pRef k a b c u).1 = 0 → ∀ d', RX 1 d' (pDo k a b c u).2 → HX (cpush cc) ((pp + 1) % 8) (hpush hh cc u) d' → (∀ s, (s = 0 ∨ (18 ≤ s ∧ s < 52) ∨ 190 ≤ s) → d' s = q.1 s) → P (pDo k a b c u).1 (d', q.2))
    (k1 : ¬ (pRef k a b c u).1 = 0 → X "java/lang/UnsupportedOperationException" (kp_ q.1 (pRef k a b c u).1 (pRef k a b c u).2, q.2)) : w_X9_change k a b c q P X := by
  unfold w_X9_change
  refine x_ref h hI.1 hk a b c (fun hr => ⟨fun _ => ?_, fun z => absurd rfl z⟩) (fun hr => ⟨fun z => absurd z i10, fun _ => k1 hr⟩)
  refine x_keepH (by decide) h hx (fun d1 g1 g2 => ?_)
  refine x_do (q := (d1, q.2)) (h.cg (fun s s1 s2 => g2 s (by omega))) hI hk a b c hr (fun d2 f1 f2 => ?_)
  refine k0 hr d2 f1 (g1.cg (fun s s1 s2 => f2 s (by omega))) (fun s hs => ?_)
  rw [f2 s (by omega)]
  exact g2 s (by omega)
end CHG
theorem kp_204 (d : pU) (r x : Int32) : kp_ d r x 204 0 = 1 ∧ kp_ d r x 204 1 = r ∧ kp_ d r x 204 2 = x ∧ kp_ d r x 204 3 = 0 := by
  unfold kp_
  refine ⟨?_, ?_, ?_, ?_⟩
  · rw [up2_at, if_neg (by decide), up2_at, if_neg (by decide), up2_at, if_neg (by decide), up2_at, if_pos (by decide)]
  · rw [up2_at, if_neg (by decide), up2_at, if_neg (by decide), up2_at, if_pos (by decide)]
  · rw [up2_at, if_neg (by decide), up2_at, if_pos (by decide)]
  · rw [up2_at, if_pos (by decide)]
theorem kp_ne (d : pU) (r x : Int32) {s : Nat} (hs : s ≠ 204) : kp_ d r x s = d s := by
  unfold kp_
  rw [up2_ne _ _ _ hs, up2_ne _ _ _ hs, up2_ne _ _ _ hs, up2_ne _ _ _ hs]
theorem dO_9 (a b c : Int32) (q : aS) (P : Int32 → aS → Prop) : w_X9_doOrder 9 a b c q P = w_X8_letNightPass q P := by
  unfold w_X9_doOrder
  simp only [show (swI 9 = 1) = False from eq_false (by decide), show (swI 9 = 2) = False from eq_false (by decide), show (swI 9 = 3) = False from eq_false (by decide), show (swI 9 = 4) = False from eq_false (by decide), show (swI 9 = 5) = False from eq_false (by decide), show (swI 9 = 6) = False from eq_false (by decide), show (swI 9 = 7) = False from eq_false (by decide), show (swI 9 = 8) = False from eq_false (by decide), show (swI 9 = 9) = False from eq_false (by decide), false_implies, not_false_eq_true, true_implies, true_and]
theorem iR_9 (a b c : Int32) (q : aS) (P : Int32 → aS → Prop) : w_X9_isRefused 9 a b c q P = P 0 q := by
  unfold w_X9_isRefused
  simp only [show (swI 9 = 1) = False from eq_false (by decide), show (swI 9 = 2) = False from eq_false (by decide), show (swI 9 = 3) = False from eq_false (by decide), show (swI 9 = 4) = False from eq_false (by decide), show (swI 9 = 5) = False from eq_false (by decide), show (swI 9 = 6) = False from eq_false (by decide), show (swI 9 = 7) = False from eq_false (by decide), show (swI 9 = 8) = False from eq_false (by decide), show (swI 9 = 9) = False from eq_false (by decide), false_implies, not_false_eq_true, true_implies, true_and]

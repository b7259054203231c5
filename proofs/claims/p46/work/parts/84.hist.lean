/-! the reference's copies; what is remembered, on both sides -/
theorem nI_mul (a b : Nat) : nI a * nI b = nI (a * b) := (Int32.ofNat_mul a b).symm
def hpush (h : Nat → pU) (c : Nat) (u : pU) : Nat → pU := if c < 8 then (fun k => if k = c then u else h k) else (fun k => if k = 7 then u else h (k + 1))
def cpush (c : Nat) : Nat := if c < 8 then c + 1 else 8
def HX (c p : Nat) (h : Nat → pU) (d : pU) : Prop := c ≤ 8 ∧ p < 8 ∧ d 52 1 = nI p ∧ d 52 2 = nI c ∧ ∀ k, k < c → RX (54 + 17 * ((p + 8 - c + k) % 8)) d (h k)
theorem rg_1 : ∀ p, p < 8 → (nI p + 1) - (nI p + 1) / 8 * 8 = nI ((p + 1) % 8) := by decide +kernel
theorem rg_2 : ∀ c, c < 9 → (if nI c + 1 < 8 then nI c + 1 else 8) = nI (cpush c) := by unfold cpush; decide +kernel
theorem rg_3 : ∀ p, p < 8 → ((nI p + 8) - 1) - ((nI p + 8) - 1) / 8 * 8 = nI ((p + 7) % 8) := by decide +kernel
theorem x_keepH {q : aS} {u : pU} {P : Int32 → aS → Prop} {a c p : Nat} {h : Nat → pU} (ha : a + 17 ≤ 52) (hu : RX a q.1 u) (hx : HX c p h q.1) (k : ∀ d', HX (cpush c) ((p + 1) % 8) (hpush h c u) d' → (∀ s, (s < 52 ∨ 190 ≤ s) → d' s = q.1 s) → P 0 (d', q.2)) : w_X4_keep a q P := by
  obtain ⟨x1, x2, x3, x4, x5⟩ := hx
  unfold w_X4_keep
  rw [x3, nI_c (show p < 100000 by omega)]
  refine ⟨vp_in_nI x2 (by decide), x_copy hu (by omega) (fun d1 g1 g2 => ?_)⟩
  have e1 : d1 52 1 = nI p := by rw [g2 52 (by omega), x3]
  have e2 : d1 52 2 = nI c := by rw [g2 52 (by omega), x4]
  have e3 : ∀ y, up2 d1 52 1 y 52 2 = nI c := fun y => by rw [up2_at, if_neg (by decide), e2]
  simp only [forall_eq, e1, e3, rg_1 p x2, rg_2 c (by omega)]
  refine k _ ⟨?_, ?_, ?_, ?_, fun j hj => ?_⟩ (fun s hs => ?_)
  · unfold cpush
    split <;> omega
  · omega
  · rw [up2_at, if_neg (by decide), up2_at, if_pos (by decide)]
  · rw [up2_at, if_pos (by decide)]
  · have hcg : ∀ {b : Nat} {w : pU}, 53 ≤ b → RX b d1 w → RX b (up2 (up2 d1 52 1 (nI ((p + 1) % 8))) 52 2 (nI (cpush c))) w := fun hb hw => hw.cg (fun s s1 s2 => by rw [up2_ne _ _ _ (by omega), up2_ne _ _ _ (by omega)])
    refine hcg (by omega) ?_
    unfold hpush
    unfold cpush at hj ⊢
    by_cases c8 : c < 8
    · rw [if_pos c8] at hj ⊢
      rw [if_pos c8]
      by_cases e : j = c
      · rw [if_pos e, show ((p + 1) % 8 + 8 - (c + 1) + j) % 8 = p by omega]
        exact g1
      · rw [if_neg e]
        have e5 : ((p + 1) % 8 + 8 - (c + 1) + j) % 8 = (p + 8 - c + j) % 8 := by omega
        rw [e5]
        refine (x5 j (by omega)).cg (fun s s1 s2 => g2 s ?_)
        have e6 : (p + 8 - c + j) % 8 ≠ p := by omega
        rcases Nat.lt_or_gt_of_ne e6 with w | w <;> omega
    · rw [if_neg c8] at hj ⊢
      rw [if_neg c8]
      have hc8 : c = 8 := by omega
      subst hc8
      by_cases e : j = 7
      · rw [if_pos e, show ((p + 1) % 8 + 8 - 8 + j) % 8 = p by omega]
        exact g1
      · rw [if_neg e]
        have e5 : ((p + 1) % 8 + 8 - 8 + j) % 8 = (p + 8 - 8 + (j + 1)) % 8 := by omega
        rw [e5]
        refine (x5 (j + 1) (by omega)).cg (fun s s1 s2 => g2 s ?_)
        have e6 : (p + 8 - 8 + (j + 1)) % 8 ≠ p := by omega
        rcases Nat.lt_or_gt_of_ne e6 with w | w <;> omega
  · rw [up2_ne _ _ _ (by omega), up2_ne _ _ _ (by omega), g2 s (by omega)]

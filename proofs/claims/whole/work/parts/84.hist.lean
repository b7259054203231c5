/-! the reference's copies; what is remembered, on both sides -/
theorem nI_mul (a b : Nat) : nI a * nI b = nI (a * b) := (Int32.ofNat_mul a b).symm
theorem r_copies {q : aS} {P : Int32 → aS → Prop} {pa na pb nb : Nat} (hne : pa ≠ pb) {o p : Nat} {x2 x4 : Int32} (h2 : x2 = nI o) (h4 : x4 = nI p) (ho : o + 97 ≤ na) (hp : p + 97 ≤ nb) (hna : na < 10000) (hnb : nb < 10000)
    (k : ∀ d', (∀ j, j < 97 → d' pb (p + j) = q.1 pa (o + j)) → (∀ j, (j < p ∨ p + 97 ≤ j) → d' pb j = q.1 pb j) → (∀ a, a ≠ pb → d' a = q.1 a) → P 0 (d', q.2)) : w_X10_copies pa na pb nb x2 x4 q P := by
  subst h2 h4
  unfold w_X10_copies
  refine lp_0 (fun m (v : aS) j => LX10_copies_3 pa na pb nb (nI o) (nI p) P _ m j v) (fun e v => (∀ j, j < e → v.1 pb (p + j) = q.1 pa (o + j)) ∧ (∀ j, (j < p ∨ p + e ≤ j) → v.1 pb j = q.1 pb j) ∧ (∀ a, a ≠ pb → v.1 a = q.1 a) ∧ v.2 = q.2) 97 q ⟨fun j hj => absurd hj (by omega), fun _ _ => rfl, fun _ _ => rfl, rfl⟩ (fun m v hv => ?_) (fun m j v hj hv hk => ?_)
  · obtain ⟨d1, t1⟩ := v
    dsimp only at hv
    obtain ⟨g1, g2, g3, g4⟩ := hv
    subst g4
    have hle : (97 : Int32) ≤ nI 97 := by decide +kernel
    simp only [LX10_copies_3, hle, false_implies, not_true_eq_false, true_implies, and_true]
    exact k d1 g1 g2 g3
  · obtain ⟨d1, t1⟩ := v
    dsimp only at hv
    obtain ⟨g1, g2, g3, g4⟩ := hv
    subst g4
    have hlt : ¬ (97 : Int32) ≤ nI j := nI_ge (b := 97) hj (by omega)
    have v1 : vp_in (nI (o + j)) na := vp_in_nI (by omega) (by omega)
    have v2 : vp_in (nI (p + j)) nb := vp_in_nI (by omega) (by omega)
    simp only [LX10_copies_3, hlt, nI_add, nI_c (show o + j < 100000 by omega), nI_c (show p + j < 100000 by omega), forall_eq, nI_1, false_implies, not_false_eq_true, true_implies, true_and]
    refine ⟨v1, v2, hk (_, _) ⟨fun j' h' => ?_, fun j' h' => ?_, fun a ha => ?_, rfl⟩⟩
    · dsimp only
      rw [up2_at]
      by_cases c : j' = j
      · rw [if_pos ⟨rfl, by omega⟩, c, g3 pa hne]
      · rw [if_neg (by omega), g1 j' (by omega)]
    · dsimp only
      rw [up2_at, if_neg (by omega), g2 j' (by omega)]
    · dsimp only
      rw [up2_ne _ _ _ ha, g3 a ha]
theorem RM.of97 {f g : Nat → Int32} {o p : Nat} {u : pU} (h : RM f o u) (hg : ∀ k, k < 97 → g (p + k) = f (o + k)) : RM g p u := h.to hg
theorem r_begins {q : aS} {u : pU} {P : Int32 → aS → Prop} (h : RM (q.1 1) 0 u) (k : ∀ d', RM (d' 1) 0 u → RM (d' 2) 0 u → d' 0 16 = 0 → d' 0 15 = 0 → (∀ a, a ≠ 0 → a ≠ 2 → d' a = q.1 a) → (∀ j, j ≠ 15 → j ≠ 16 → d' 0 j = q.1 0 j) → P 0 (d', q.2)) : w_X10_begins q P := by
  unfold w_X10_begins
  refine r_copies (by decide) (o := 0) (p := 0) rfl rfl (by decide) (by decide) (by decide) (by decide) (fun d1 g1 g2 g3 => ?_)
  simp only [forall_eq]
  refine k _ ?_ ?_ ?_ ?_ (fun a h0 h2 => ?_) (fun j h15 h16 => ?_)
  · rw [up2_ne _ _ _ (by decide), up2_ne _ _ _ (by decide), g3 1 (by decide)]
    exact h
  · rw [up2_ne _ _ _ (by decide), up2_ne _ _ _ (by decide)]
    exact h.to g1
  · rw [up2_at, if_neg (by decide), up2_at, if_pos (by decide)]
  · rw [up2_at, if_pos (by decide)]
  · rw [up2_ne _ _ _ h0, up2_ne _ _ _ h0, g3 a h2]
  · rw [up2_at, if_neg (fun z => h15 z.2), up2_at, if_neg (fun z => h16 z.2), g3 0 (by decide)]
theorem r_refuses {q : aS} {u : pU} {P : Int32 → aS → Prop} {x1 x2 x3 x4 x5 : Int32} (h : RM (q.1 2) 0 u) (k : ∀ d', RM (d' 1) 0 u → d' 0 6 = x1 → d' 0 7 = x2 → d' 0 8 = x3 → d' 0 9 = x4 → d' 0 15 = x5 → (∀ a, a ≠ 0 → a ≠ 1 → d' a = q.1 a) → (∀ j, ¬ (6 ≤ j ∧ j ≤ 9) → j ≠ 15 → d' 0 j = q.1 0 j) → P 0 (d', q.2)) : w_X10_refuses x1 x2 x3 x4 x5 q P := by
  unfold w_X10_refuses
  simp only [forall_eq]
  refine r_copies (q := (up2 (up2 (up2 (up2 (up2 q.1 0 6 x1) 0 7 x2) 0 8 x3) 0 9 x4) 0 15 x5, q.2)) (by decide) (o := 0) (p := 0) rfl rfl (by decide) (by decide) (by decide) (by decide) (fun d1 g1 g2 g3 => ?_)
  dsimp only at g1 g2 g3
  have e0 : ∀ j, d1 0 j = if j = 15 then x5 else if j = 9 then x4 else if j = 8 then x3 else if j = 7 then x2 else if j = 6 then x1 else q.1 0 j := fun j => by
    rw [g3 0 (by decide), up2_row, upd_at, up2_row, upd_at, up2_row, upd_at, up2_row, upd_at, up2_row, upd_at]
  refine k d1 ?_ ?_ ?_ ?_ ?_ ?_ (fun a h0 h1 => ?_) (fun j h6 h15 => ?_)
  · refine h.to (fun j hj => (g1 j hj).trans ?_)
    rw [up2_ne _ _ _ (by decide), up2_ne _ _ _ (by decide), up2_ne _ _ _ (by decide), up2_ne _ _ _ (by decide), up2_ne _ _ _ (by decide)]
  · exact e0 6
  · exact e0 7
  · exact e0 8
  · exact e0 9
  · exact e0 15
  · rw [g3 a h1, up2_ne _ _ _ h0, up2_ne _ _ _ h0, up2_ne _ _ _ h0, up2_ne _ _ _ h0, up2_ne _ _ _ h0]
  · rw [e0 j, if_neg h15, if_neg (by omega), if_neg (by omega), if_neg (by omega), if_neg (by omega)]
def hpush (h : Nat → pU) (c : Nat) (u : pU) : Nat → pU := if c < 8 then (fun k => if k = c then u else h k) else (fun k => if k = 7 then u else h (k + 1))
def cpush (c : Nat) : Nat := if c < 8 then c + 1 else 8
def HM (c : Nat) (h : Nat → pU) (d : pU) : Prop := d 0 5 = nI c ∧ c ≤ 8 ∧ ∀ k, k < c → RM (d 4) (97 * k) (h k)
def HX (c p : Nat) (h : Nat → pU) (d : pU) : Prop := c ≤ 8 ∧ p < 8 ∧ d 52 1 = nI p ∧ d 52 2 = nI c ∧ ∀ k, k < c → RX (54 + 17 * ((p + 8 - c + k) % 8)) d (h k)
theorem r_rem49 {q : aS} {u : pU} {P : Int32 → aS → Prop} {c : Nat} {h : Nat → pU} (h2 : RM (q.1 2) 0 u) (hm : HM c h q.1) (hc : c < 8) (k : ∀ d', HM (c + 1) (fun k => if k = c then u else h k) d' → (∀ a, a ≠ 0 → a ≠ 4 → d' a = q.1 a) → (∀ j, j ≠ 5 → d' 0 j = q.1 0 j) → P 0 (d', q.2)) : JX10_remembers_49 P q := by
  unfold JX10_remembers_49
  refine r_copies (by decide) (o := 0) (p := c * 97) rfl (by rw [hm.1]; exact nI_mul c 97) (by decide) (by omega) (by decide) (by decide) (fun d1 g1 g2 g3 => ?_)
  simp only [forall_eq]
  refine k _ ⟨?_, by omega, fun k hk => ?_⟩ (fun a h0 h4 => ?_) (fun j hj => ?_)
  · rw [up2_at, if_pos (by decide), g3 0 (by decide), hm.1, nI_1]
  · dsimp only
    rw [up2_ne _ _ _ (by decide)]
    by_cases e : k = c
    · rw [if_pos e, e, Nat.mul_comm 97 c]
      exact h2.to g1
    · rw [if_neg e]
      exact (hm.2.2 k (by omega)).to (fun j hj => g2 _ (by omega))
  · rw [up2_ne _ _ _ h0, g3 a h4]
  · rw [up2_at, if_neg (fun z => hj z.2), g3 0 (by decide)]
theorem r_shift {q : aS} {P : Int32 → aS → Prop} {K : aS → Prop} (k : ∀ d1 : pU, (∀ j, j < 679 → d1 4 j = q.1 4 (j + 97)) → (∀ a, a ≠ 4 → d1 a = q.1 a) → K (d1, q.2)) : ∃ M, LX10_remembers_11 P K M 0 q := by
  refine lp_0 (fun m (v : aS) j => LX10_remembers_11 P K m j v) (fun e v => (∀ j, j < e → v.1 4 j = q.1 4 (j + 97)) ∧ (∀ j, e ≤ j → v.1 4 j = q.1 4 j) ∧ (∀ a, a ≠ 4 → v.1 a = q.1 a) ∧ v.2 = q.2) 679 q ⟨fun j hj => absurd hj (by omega), fun _ _ => rfl, fun _ _ => rfl, rfl⟩ (fun m v hv => ?_) (fun m j v hj hv hk => ?_)
  · obtain ⟨d1, t1⟩ := v
    dsimp only at hv
    obtain ⟨g1, g2, g3, g4⟩ := hv
    subst g4
    have hle : (679 : Int32) ≤ nI 679 := by decide +kernel
    simp only [LX10_remembers_11, hle, false_implies, not_true_eq_false, true_implies, and_true]
    exact k d1 g1 g3
  · obtain ⟨d1, t1⟩ := v
    dsimp only at hv
    obtain ⟨g1, g2, g3, g4⟩ := hv
    subst g4
    have hlt : ¬ (679 : Int32) ≤ nI j := nI_ge (b := 679) hj (by omega)
    have e97 : nI j + 97 = nI (j + 97) := nI_add j 97
    have v1 : vp_in (nI (j + 97)) 776 := vp_in_nI (by omega) (by omega)
    have v2 : vp_in (nI j) 776 := vp_in_nI (by omega) (by omega)
    simp only [LX10_remembers_11, hlt, e97, nI_c (show j < 100000 by omega), nI_c (show j + 97 < 100000 by omega), forall_eq, nI_1, false_implies, not_false_eq_true, true_implies, true_and]
    refine ⟨v1, v2, hk (_, _) ⟨fun j' h' => ?_, fun j' h' => ?_, fun a ha => ?_, rfl⟩⟩
    · dsimp only
      rw [up2_at]
      by_cases c : j' = j
      · rw [if_pos ⟨rfl, c⟩, c, g2 _ (by omega)]
      · rw [if_neg (fun z => c z.2), g1 j' (by omega)]
    · dsimp only
      rw [up2_at, if_neg (by omega), g2 j' (by omega)]
    · dsimp only
      rw [up2_ne _ _ _ ha, g3 a ha]
theorem r_remembers {q : aS} {u : pU} {P : Int32 → aS → Prop} {c : Nat} {h : Nat → pU} (h2 : RM (q.1 2) 0 u) (hm : HM c h q.1) (k : ∀ d', HM (cpush c) (hpush h c u) d' → (∀ a, a ≠ 0 → a ≠ 4 → d' a = q.1 a) → (∀ j, j ≠ 5 → d' 0 j = q.1 0 j) → P 0 (d', q.2)) : w_X10_remembers q P := by
  unfold w_X10_remembers
  have hc := hm.2.1
  refine ⟨fun z => ?_, fun z => ?_⟩
  · have h8 : c < 8 := by
      rcases Nat.lt_or_ge c 8 with w | w
      · exact w
      · exact absurd (by rw [hm.1, show c = 8 by omega]; rfl) z
    unfold hpush cpush at k
    rw [if_pos h8, if_pos h8] at k
    exact r_rem49 h2 hm h8 k
  · have h8 : c = 8 := nI_inj (by omega) (by omega) (hm.1.symm.trans z)
    subst h8
    refine r_shift (fun d1 g1 g3 => ?_)
    intro q7 e7
    subst e7
    refine r_rem49 (q := (up2 d1 0 5 (d1 0 5 - 1), q.2)) (c := 7) (u := u) (h := fun k => h (k + 1)) ?_ ⟨?_, by omega, fun k hk => ?_⟩ (by omega) (fun d2 f1 f2 f3 => ?_)
    · show RM (up2 d1 0 5 (d1 0 5 - 1) 2) 0 u
      rw [up2_ne _ _ _ (by decide), g3 2 (by decide)]
      exact h2
    · show up2 d1 0 5 (d1 0 5 - 1) 0 5 = _
      rw [up2_at, if_pos (by decide), g3 0 (by decide), hm.1]
      exact nI_pred 7
    · show RM (up2 d1 0 5 (d1 0 5 - 1) 4) (97 * k) (h (k + 1))
      rw [up2_ne _ _ _ (by decide)]
      refine (hm.2.2 (k + 1) (by omega)).to (fun j hj => ?_)
      rw [g1 _ (by omega), show 97 * (k + 1) + j = 97 * k + j + 97 by omega]
    · refine k d2 f1 (fun a h0 h4 => ?_) (fun j hj => ?_)
      · rw [f2 a h0 h4]
        show up2 d1 0 5 (d1 0 5 - 1) a = _
        rw [up2_ne _ _ _ h0, g3 a h4]
      · rw [f3 j hj]
        show up2 d1 0 5 (d1 0 5 - 1) 0 j = _
        rw [up2_at, if_neg (fun z => hj z.2), g3 0 (by decide)]
theorem rg_1 : ∀ p, p < 8 → (nI p + 1) - (nI p + 1) / 8 * 8 = nI ((p + 1) % 8) := by decide +kernel
theorem rg_2 : ∀ c, c < 9 → (if nI c + 1 < 8 then nI c + 1 else 8) = nI (cpush c) := by unfold cpush; decide +kernel
theorem rg_3 : ∀ p, p < 8 → ((nI p + 8) - 1) - ((nI p + 8) - 1) / 8 * 8 = nI ((p + 7) % 8) := by decide +kernel
theorem x_keepH {q : aS} {u : pU} {P : Int32 → aS → Prop} {a c p : Nat} {h : Nat → pU} (ha : a + 17 ≤ 52) (hu : RX a q.1 u) (hx : HX c p h q.1) (k : ∀ d', HX (cpush c) ((p + 1) % 8) (hpush h c u) d' → (∀ s, (s < 52 ∨ 190 ≤ s) → d' s = q.1 s) → P 0 (d', q.2)) : w_X4_keep a q P := by
  obtain ⟨x1, x2, x3, x4, x5⟩ := hx
  unfold w_X4_keep
  rw [x3, nI_c (show p < 100000 by omega)]
  refine ⟨vp_in_nI x2 (by decide), x_copy hu (by omega) (fun d1 g1 g2 => ?_)⟩
  have e1 : d1 52 1 = nI p := by rw [g2 52 (by omega), x3]
  have e2 : d1 52 2 = nI c := by rw [g2 52 (by omega), x4]
  have e3 : ∀ y, up2 d1 52 1 y 52 2 = nI c := fun y => by rw [up2_at, if_neg (by decide), e2]
  simp only [forall_eq, e1, e3, rg_1 p x2, rg_2 c (by omega)]
  refine k _ ⟨?_, ?_, ?_, ?_, fun j hj => ?_⟩ (fun s hs => ?_)
  · unfold cpush
    split <;> omega
  · omega
  · rw [up2_at, if_neg (by decide), up2_at, if_pos (by decide)]
  · rw [up2_at, if_pos (by decide)]
  · have hcg : ∀ {b : Nat} {w : pU}, 53 ≤ b → RX b d1 w → RX b (up2 (up2 d1 52 1 (nI ((p + 1) % 8))) 52 2 (nI (cpush c))) w := fun hb hw => hw.cg (fun s s1 s2 => by rw [up2_ne _ _ _ (by omega), up2_ne _ _ _ (by omega)])
    refine hcg (by omega) ?_
    unfold hpush
    unfold cpush at hj ⊢
    by_cases c8 : c < 8
    · rw [if_pos c8] at hj ⊢
      rw [if_pos c8]
      by_cases e : j = c
      · rw [if_pos e, show ((p + 1) % 8 + 8 - (c + 1) + j) % 8 = p by omega]
        exact g1
      · rw [if_neg e]
        have e5 : ((p + 1) % 8 + 8 - (c + 1) + j) % 8 = (p + 8 - c + j) % 8 := by omega
        rw [e5]
        refine (x5 j (by omega)).cg (fun s s1 s2 => g2 s ?_)
        have e6 : (p + 8 - c + j) % 8 ≠ p := by omega
        rcases Nat.lt_or_gt_of_ne e6 with w | w <;> omega
    · rw [if_neg c8] at hj ⊢
      rw [if_neg c8]
      have hc8 : c = 8 := by omega
      subst hc8
      by_cases e : j = 7
      · rw [if_pos e, show ((p + 1) % 8 + 8 - 8 + j) % 8 = p by omega]
        exact g1
      · rw [if_neg e]
        have e5 : ((p + 1) % 8 + 8 - 8 + j) % 8 = (p + 8 - 8 + (j + 1)) % 8 := by omega
        rw [e5]
        refine (x5 (j + 1) (by omega)).cg (fun s s1 s2 => g2 s ?_)
        have e6 : (p + 8 - 8 + (j + 1)) % 8 ≠ p := by omega
        rcases Nat.lt_or_gt_of_ne e6 with w | w <;> omega
  · rw [up2_ne _ _ _ (by omega), up2_ne _ _ _ (by omega), g2 s (by omega)]
theorem x_take {q : aS} {P : Int32 → aS → Prop} {c p : Nat} {h : Nat → pU} (hx : HX (c + 1) p h q.1) (k : ∀ d', HX c ((p + 7) % 8) h d' → RX 1 d' (h c) → (∀ s, s ≠ 52 → (s < 1 ∨ 18 ≤ s) → d' s = q.1 s) → P 0 (d', q.2)) : w_X4_takeBackInto 1 q P := by
  obtain ⟨x1, x2, x3, x4, x5⟩ := hx
  unfold w_X4_takeBackInto
  have e3 : ∀ y, up2 q.1 52 1 y 52 2 = nI (c + 1) := fun y => by rw [up2_at, if_neg (by decide), x4]
  have e4 : up2 (up2 q.1 52 1 (nI ((p + 7) % 8))) 52 2 (nI c) 52 1 = nI ((p + 7) % 8) := by rw [up2_at, if_neg (by decide), up2_at, if_pos (by decide)]
  simp only [forall_eq, x3, rg_3 p x2, e3, nI_pred, e4, nI_c (show (p + 7) % 8 < 100000 by omega)]
  have hcg : ∀ {b : Nat} {w : pU}, 53 ≤ b → RX b q.1 w → RX b (up2 (up2 q.1 52 1 (nI ((p + 7) % 8))) 52 2 (nI c)) w := fun hb hw => hw.cg (fun s s1 s2 => by rw [up2_ne _ _ _ (by omega), up2_ne _ _ _ (by omega)])
  have hl : RX (54 + 17 * ((p + 7) % 8)) q.1 (h c) := by
    have h9 := x5 c (by omega)
    rw [show (p + 8 - (c + 1) + c) % 8 = (p + 7) % 8 by omega] at h9
    exact h9
  refine ⟨vp_in_nI (by omega) (by decide), x_copy (q := (up2 (up2 q.1 52 1 (nI ((p + 7) % 8))) 52 2 (nI c), q.2)) (hcg (by omega) hl) (by omega) (fun d1 g1 g2 => ?_)⟩
  dsimp only at g2
  refine k d1 ⟨by omega, by omega, ?_, ?_, fun j hj => ?_⟩ g1 (fun s s1 s2 => ?_)
  · rw [g2 52 (by omega), e4]
  · rw [g2 52 (by omega), up2_at, if_pos (by decide)]
  · rw [show ((p + 7) % 8 + 8 - c + j) % 8 = (p + 8 - (c + 1) + j) % 8 by omega]
    exact (hcg (by omega) (x5 j (by omega))).cg (fun s s1 s2 => g2 s (by omega))
  · rw [g2 s s2, up2_ne _ _ _ s1, up2_ne _ _ _ s1]

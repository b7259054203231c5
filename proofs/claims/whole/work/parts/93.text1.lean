/-! texts: how they are read, purely; the class' reading -/
def wL (w : Nat) : Nat := sLen.getD w 0
theorem wL_7 : ∀ w, w < 10 → 4 ≤ wL w ∧ wL w ≤ 7 := by unfold wL; decide +kernel
/-- does the text go on like word w at k, from p on -/
def cs_ (tx : Nat → Int32) (len p w k : Nat) : Prop := k < wL w ∧ p + k < len ∧ tx (p + k) = sChr w k
def smA (tx : Nat → Int32) (len p w : Nat) : Nat → Nat → Nat
  | 0, k => k
  | f + 1, k => if k < wL w ∧ p + k < len ∧ tx (p + k) = sChr w k then smA tx len p w f (k + 1) else k
def sm_ (tx : Nat → Int32) (len p w : Nat) : Nat := smA tx len p w (wL w) 0
theorem smA_ok (tx : Nat → Int32) (len p w : Nat) : ∀ f k, k + f = wL w → (∀ j, j < k → cs_ tx len p w j) → (∀ j, j < smA tx len p w f k → cs_ tx len p w j) ∧ ¬ cs_ tx len p w (smA tx len p w f k) ∧ smA tx len p w f k ≤ wL w
  | 0, k, hk, h => ⟨h, fun z => by have h1 : k < wL w := z.1; omega, by show k ≤ _; omega⟩
  | f + 1, k, hk, h => by
    show (∀ j, j < (if k < wL w ∧ p + k < len ∧ tx (p + k) = sChr w k then smA tx len p w f (k + 1) else k) → cs_ tx len p w j) ∧ ¬ cs_ tx len p w (if k < wL w ∧ p + k < len ∧ tx (p + k) = sChr w k then smA tx len p w f (k + 1) else k) ∧ (if k < wL w ∧ p + k < len ∧ tx (p + k) = sChr w k then smA tx len p w f (k + 1) else k) ≤ wL w
    by_cases c : k < wL w ∧ p + k < len ∧ tx (p + k) = sChr w k
    · rw [if_pos c]
      refine smA_ok tx len p w f (k + 1) (by omega) (fun j hj => ?_)
      rcases Nat.lt_or_ge j k with z | z
      · exact h j z
      · rw [show j = k by omega]
        exact c
    · rw [if_neg c]
      exact ⟨h, c, by omega⟩
theorem sm_ok (tx : Nat → Int32) (len p w : Nat) : (∀ j, j < sm_ tx len p w → cs_ tx len p w j) ∧ ¬ cs_ tx len p w (sm_ tx len p w) ∧ sm_ tx len p w ≤ wL w :=
  smA_ok tx len p w (wL w) 0 (by omega) (fun j hj => absurd hj (by omega))
/-- the first word that stands at p; 10 if none does -/
def kdA (tx : Nat → Int32) (len p : Nat) : Nat → Nat → Nat
  | 0, w => w
  | f + 1, w => if sm_ tx len p w = wL w then w else kdA tx len p f (w + 1)
def kd_ (tx : Nat → Int32) (len p : Nat) : Nat := kdA tx len p 10 0
theorem kdA_ok (tx : Nat → Int32) (len p : Nat) : ∀ f w, w + f = 10 → (∀ j, j < w → ¬ sm_ tx len p j = wL j) → (∀ j, j < kdA tx len p f w → ¬ sm_ tx len p j = wL j) ∧ (kdA tx len p f w < 10 → sm_ tx len p (kdA tx len p f w) = wL (kdA tx len p f w)) ∧ kdA tx len p f w ≤ 10
  | 0, w, hw, h => ⟨h, fun z => by have : w < 10 := z; omega, by show w ≤ 10; omega⟩
  | f + 1, w, hw, h => by
    show (∀ j, j < (if sm_ tx len p w = wL w then w else kdA tx len p f (w + 1)) → ¬ sm_ tx len p j = wL j) ∧ ((if sm_ tx len p w = wL w then w else kdA tx len p f (w + 1)) < 10 → sm_ tx len p (if sm_ tx len p w = wL w then w else kdA tx len p f (w + 1)) = wL (if sm_ tx len p w = wL w then w else kdA tx len p f (w + 1))) ∧ (if sm_ tx len p w = wL w then w else kdA tx len p f (w + 1)) ≤ 10
    by_cases c : sm_ tx len p w = wL w
    · rw [if_pos c]
      exact ⟨h, fun _ => c, by omega⟩
    · rw [if_neg c]
      refine kdA_ok tx len p f (w + 1) (by omega) (fun j hj => ?_)
      rcases Nat.lt_or_ge j w with z | z
      · exact h j z
      · rw [show j = w by omega]
        exact c
theorem kd_ok (tx : Nat → Int32) (len p : Nat) : (∀ j, j < kd_ tx len p → ¬ sm_ tx len p j = wL j) ∧ (kd_ tx len p < 10 → sm_ tx len p (kd_ tx len p) = wL (kd_ tx len p)) ∧ kd_ tx len p ≤ 10 :=
  kdA_ok tx len p 10 0 (by omega) (fun j hj => absurd hj (by omega))
def mxS (tx : Nat → Int32) (len p : Nat) : Nat → Nat
  | 0 => 0
  | w + 1 => Nat.max (mxS tx len p w) (sm_ tx len p w)
theorem mxS_7 (tx : Nat → Int32) (len p : Nat) : ∀ w, w ≤ 10 → mxS tx len p w ≤ 7
  | 0, _ => (by decide : 0 ≤ 7)
  | w + 1, h => by
    have h1 := mxS_7 tx len p w (by omega)
    have h2 := (sm_ok tx len p w).2.2
    have h3 := (wL_7 w (by omega)).2
    exact Nat.max_le.mpr ⟨h1, by omega⟩
theorem sm_len (tx : Nat → Int32) (len p w : Nat) (hp : p ≤ len) : p + sm_ tx len p w ≤ len := by
  rcases Nat.eq_zero_or_pos (sm_ tx len p w) with z | z
  · omega
  · have h := ((sm_ok tx len p w).1 (sm_ tx len p w - 1) (by omega)).2.1
    omega
theorem mxS_len (tx : Nat → Int32) (len p : Nat) (hp : p ≤ len) : ∀ w, p + mxS tx len p w ≤ len
  | 0 => by show p + 0 ≤ len; omega
  | w + 1 => by
    have h1 := mxS_len tx len p hp w
    have h2 := sm_len tx len p w hp
    have h3 : Nat.max (mxS tx len p w) (sm_ tx len p w) ≤ len - p := Nat.max_le.mpr ⟨by omega, by omega⟩
    show p + Nat.max (mxS tx len p w) (sm_ tx len p w) ≤ len
    omega
/-- a digit at p; a sign c at p -/
def dg_ (tx : Nat → Int32) (len p : Nat) : Prop := p < len ∧ ¬ tx p < 48 ∧ ¬ 57 < tx p
def sg_ (tx : Nat → Int32) (len : Nat) (c : Int32) (p : Nat) : Prop := p < len ∧ tx p = c
/-- the numbers of an order of kind k from p on: do they stand, where that ends, and which they are -/
abbrev nR5 : Type := Bool × Nat × Int32 × Int32 × Int32
def n1_ (tx : Nat → Int32) (p : Nat) : Int32 := tx p - 48
def nums (tx : Nat → Int32) (len k p : Nat) : nR5 :=
  if k = 9 then (true, p, 0, 0, 0)
  else if ¬ (p < len ∧ ¬ tx p < 48 ∧ ¬ 57 < tx p) then (false, p, 0, 0, 0)
  else if k = 0 ∨ k = 4 ∨ k = 8 then (true, p + 1, n1_ tx p, 0, 0)
  else if ¬ (p + 1 < len ∧ tx (p + 1) = 32) then (false, p + 1, 0, 0, 0)
  else if ¬ (p + 2 < len ∧ ¬ tx (p + 2) < 48 ∧ ¬ 57 < tx (p + 2)) then (false, p + 2, 0, 0, 0)
  else if k = 2 then (if p + 3 < len ∧ ¬ tx (p + 3) < 48 ∧ ¬ 57 < tx (p + 3) then (true, p + 4, n1_ tx p, 10 * n1_ tx (p + 2) + n1_ tx (p + 3), 0) else (true, p + 3, n1_ tx p, n1_ tx (p + 2), 0))
  else if ¬ k = 6 then (true, p + 3, n1_ tx p, n1_ tx (p + 2), 0)
  else if ¬ (p + 3 < len ∧ tx (p + 3) = 32) then (false, p + 3, 0, 0, 0)
  else if ¬ (p + 4 < len ∧ ¬ tx (p + 4) < 48 ∧ ¬ 57 < tx (p + 4)) then (false, p + 4, 0, 0, 0)
  else (true, p + 5, n1_ tx p, n1_ tx (p + 2), n1_ tx (p + 4))
/-- an order from p on -/
def ord_ (tx : Nat → Int32) (len p : Nat) : nR5 := if kd_ tx len p = 10 then (false, p + mxS tx len p 10, 0, 0, 0) else nums tx len (kd_ tx len p) (p + wL (kd_ tx len p))
/-- used numbers -/
def Ag (k : Nat) (a b c x y z : Int32) : Prop := (k ≠ 9 → a = x) ∧ ((k = 1 ∨ k = 2 ∨ k = 3 ∨ k = 5 ∨ k = 6 ∨ k = 7) → b = y) ∧ (k = 6 → c = z)
theorem ag_R {k : Nat} {a b c x y z : Int32} (h : Ag k a b c x y z) (hk : k < 10) (u : pU) : pRef k a b c u = pRef k x y z u ∧ pDo k a b c u = pDo k x y z u := by
  obtain ⟨h1, h2, h3⟩ := h
  rcases k10 hk with rfl | rfl | rfl | rfl | rfl | rfl | rfl | rfl | rfl | rfl
  · rw [pR_0, pR_0, pD_0, pD_0, h1 (by decide)]
    exact ⟨rfl, rfl⟩
  · rw [pR_1, pR_1, pD_1, pD_1, h1 (by decide), h2 (by decide)]
    exact ⟨rfl, rfl⟩
  · rw [pR_2, pR_2, pD_2, pD_2, h1 (by decide), h2 (by decide)]
    exact ⟨rfl, rfl⟩
  · rw [pR_3, pR_3, pD_3, pD_3, h1 (by decide), h2 (by decide)]
    exact ⟨rfl, rfl⟩
  · rw [pR_4, pR_4, pD_4, pD_4, h1 (by decide)]
    exact ⟨rfl, rfl⟩
  · rw [pR_5, pR_5, pD_5, pD_5, h1 (by decide), h2 (by decide)]
    exact ⟨rfl, rfl⟩
  · rw [pR_6, pR_6, pD_6, pD_6, h1 (by decide), h2 (by decide), h3 (by decide)]
    exact ⟨rfl, rfl⟩
  · rw [pR_7, pR_7, pD_7, pD_7, h1 (by decide), h2 (by decide)]
    exact ⟨rfl, rfl⟩
  · rw [pR_8, pR_8, pD_8, pD_8, h1 (by decide)]
    exact ⟨rfl, rfl⟩
  · rw [pR_9, pR_9, pD_9, pD_9]
    exact ⟨rfl, rfl⟩
/-- the class' input: len signs tx, the reading stands at p -/
def TX (d : pU) (tx : Nat → Int32) (len p : Nat) : Prop := d 190 1 = nI len ∧ d 190 6 = nI p ∧ (∀ j, j < len → d 191 j = tx j) ∧ len ≤ 60 ∧ p ≤ len
theorem TX.go {d : pU} {tx : Nat → Int32} {len p : Nat} (h : TX d tx len p) {p' : Nat} (hp : p' ≤ len) : TX (up2 d 190 6 (nI p')) tx len p' :=
  ⟨by rw [up2_at, if_neg (by decide)]; exact h.1, by rw [up2_at, if_pos (by decide)], fun j hj => by rw [up2_ne _ _ _ (by decide)]; exact h.2.2.1 j hj, h.2.2.2.1, hp⟩
theorem TX.cg {d d' : pU} {tx : Nat → Int32} {len p : Nat} (h : TX d tx len p) (h1 : d' 190 1 = d 190 1) (h6 : d' 190 6 = d 190 6) (h2 : d' 191 = d 191) : TX d' tx len p := by
  unfold TX
  rw [h1, h6, h2]
  exact h
section XT
variable {q : aS} {tx : Nat → Int32} {len p : Nat} {P : Int32 → aS → Prop}
theorem x_countSame (h : TX q.1 tx len p) {w : Nat} (hw : w < 10) (k : P (nI (sm_ tx len p w)) q) : w_X3_countSame w q P := by
  obtain ⟨s1, s2, s3⟩ := sm_ok tx len p w
  obtain ⟨h1, h2, h3, h4, h5⟩ := h
  have h7 := wL_7 w hw
  unfold w_X3_countSame
  refine lp_0 (fun m (_ : Unit) t => LX3_countSame_2 w P _ m t q) (fun _ _ => True) (sm_ tx len p w) () trivial (fun m v hv => ?_) (fun m j v hj hv hk => ?_)
  · rw [LX3_countSame_2, h1, h2, nI_add]
    refine ⟨fun _ => k, fun c1 => ⟨fun _ => k, fun c2 => ⟨?_, ?_, fun _ => k, fun c3 => ?_⟩⟩⟩
    all_goals
      have c1' : ¬ wL w ≤ sm_ tx len p w := fun z => c1 (nI_le z (by omega))
      have c2' : ¬ len ≤ p + sm_ tx len p w := fun z => c2 (nI_le z (by omega))
    · exact vp_in_nI (by omega) (by decide)
    · exact vp_in_nI (by show _ < wL w; omega) (by show wL w < _; omega)
    · rw [nI_c (by omega), nI_c (by omega), h3 _ (by omega)] at c3
      exact absurd ⟨by omega, by omega, c3⟩ s2
  · obtain ⟨a1, a2, a3⟩ := s1 j hj
    rw [LX3_countSame_2, h1, h2, nI_add]
    refine ⟨fun c1 => absurd c1 (nI_ge (b := wL w) a1 (by omega)), fun _ => ⟨fun c2 => absurd c2 (nI_ge a2 (by omega)), fun _ => ⟨vp_in_nI (by omega) (by decide), vp_in_nI a1 (by show wL w < _; omega), fun c3 => ?_, fun _ => ?_⟩⟩⟩
    · rw [nI_c (by omega), nI_c (by omega), h3 _ (by omega)] at c3
      exact absurd a3 c3
    · intro x1 e1
      rw [nI_1] at e1
      subst e1
      exact hk () trivial
theorem mx_nat : ∀ a, a < 8 → ∀ b, b < 8 → (if nI a < nI b then nI b else nI a) = nI (Nat.max a b) := by decide +kernel
theorem x_longestStart (h : TX q.1 tx len p) (k : P (nI (mxS tx len p 10)) q) : w_X3_longestStart q P := by
  unfold w_X3_longestStart
  refine lp_0 (fun m v t => LX3_longestStart_4 P _ m v t q) (fun w v => v = nI (mxS tx len p w)) 10 0 rfl (fun m v hv => ?_) (fun m j v hj hv hk => ?_)
  · subst hv
    rw [LX3_longestStart_4]
    exact ⟨fun _ => k, fun z => absurd (by decide) z⟩
  · subst hv
    rw [LX3_longestStart_4]
    refine ⟨fun z => absurd z (nI_ge (b := 10) hj (by omega)), fun _ => ⟨vp_in_nI hj (by decide), ?_⟩⟩
    rw [nI_c (by omega)]
    refine x_countSame h hj ?_
    have h1 := mxS_7 tx len p j (by omega)
    have h2 := (sm_ok tx len p j).2.2
    have h3 := (wL_7 j hj).2
    rw [mx_nat _ (by omega) _ (by omega)]
    intro x4 e4 x5 e5
    rw [nI_1] at e5
    subst e4 e5
    exact hk _ rfl
theorem x_readsSign (h : TX q.1 tx len p) (c : Int32) (k0 : ¬ sg_ tx len c p → P 0 q) (k1 : sg_ tx len c p → P 1 (up2 q.1 190 6 (nI (p + 1)), q.2)) : w_X3_readsSign c q P := by
  obtain ⟨h1, h2, h3, h4, h5⟩ := h
  unfold w_X3_readsSign
  rw [h1, h2]
  refine ⟨fun z => k0 (fun w => ?_), fun z => ?_⟩
  · rw [nI_leI (by omega) (by omega)] at z
    have := w.1
    omega
  · rw [nI_leI (by omega) (by omega)] at z
    rw [nI_c (by omega), h3 p (by omega), nI_1]
    refine ⟨vp_in_nI (by omega) (by decide), fun e => ?_, fun e => k0 (fun w => e w.2)⟩
    intro q2 E
    subst E
    exact k1 ⟨by omega, e⟩
theorem x_isAtDigit (h : TX q.1 tx len p) (k0 : ¬ dg_ tx len p → P 0 q) (k1 : dg_ tx len p → P 1 q) : w_X3_isAtDigit q P := by
  obtain ⟨h1, h2, h3, h4, h5⟩ := h
  unfold w_X3_isAtDigit
  rw [h1, h2]
  refine ⟨fun z => k0 (fun w => ?_), fun z => ?_⟩
  · rw [nI_leI (by omega) (by omega)] at z
    have := w.1
    omega
  · rw [nI_leI (by omega) (by omega)] at z
    have vp : vp_in (nI p) 60 := vp_in_nI (by omega) (by decide)
    rw [nI_c (by omega), h3 p (by omega)]
    exact ⟨vp, fun e => k0 (fun w => w.2.1 e), fun e => ⟨vp, fun e2 => k0 (fun w => w.2.2 e2), fun e2 => k1 ⟨by omega, e, e2⟩⟩⟩
theorem x_readDigit (h : TX q.1 tx len p) (hp : p < len) (k : P (n1_ tx p) (up2 q.1 190 6 (nI (p + 1)), q.2)) : w_X3_readDigit q P := by
  obtain ⟨h1, h2, h3, h4, h5⟩ := h
  unfold w_X3_readDigit
  rw [h2, nI_c (by omega), h3 p hp, nI_1]
  refine ⟨vp_in_nI (by omega) (by decide), ?_⟩
  intro x1 e1
  subst e1
  intro q2 E
  subst E
  exact k
/-- the frame of the reading of numbers into row r -/
def frN (r : Nat) (d d' : pU) : Prop := (∀ a, a ≠ 190 → a ≠ 194 + r → d' a = d a) ∧ (∀ j, j ≠ 6 → d' 190 j = d 190 j)
theorem frN.rf (r : Nat) (d : pU) : frN r d d := ⟨fun _ _ _ => rfl, fun _ _ => rfl⟩
theorem frN.pos {r : Nat} {d d' : pU} (h : frN r d d') (x : Int32) : frN r d (up2 d' 190 6 x) :=
  ⟨fun a h1 h2 => by rw [up2_ne _ _ _ h1, h.1 a h1 h2], fun j hj => by rw [up2_at, if_neg (fun z => hj z.2), h.2 j hj]⟩
theorem frN.row {r : Nat} {d d' : pU} (h : frN r d d') (j : Nat) (x : Int32) : frN r d (up2 d' (194 + r) j x) :=
  ⟨fun a h1 h2 => by rw [up2_ne _ _ _ h2, h.1 a h1 h2], fun i hi => by rw [up2_ne _ _ _ (by omega), h.2 i hi]⟩
theorem TX.row {d : pU} (h : TX d tx len p) (r j : Nat) (x : Int32) : TX (up2 d (194 + r) j x) tx len p :=
  h.cg (by rw [up2_ne _ _ _ (by omega)]) (by rw [up2_ne _ _ _ (by omega)]) (by rw [up2_ne _ _ _ (by omega)])
/-- a number at place j of an order's row, of one digit -/
theorem x_31 (h : TX q.1 tx len p) {kd r j : Nat} (hj : j < 3) (hl : nI j = kNum kd - 1 → ¬ kDig kd = 2) {B : Int32 → aS → Prop} {K : aS → Prop} (k0 : ¬ dg_ tx len p → P 0 q) (k1 : dg_ tx len p → B (nI (j + 1)) (up2 (up2 q.1 190 6 (nI (p + 1))) (194 + r) j (n1_ tx p), q.2)) : JX3_readsNumbers_31 kd r (nI j) P B K q := by
  unfold JX3_readsNumbers_31
  refine x_isAtDigit h (fun z => ⟨fun w => absurd rfl w, fun _ => k0 z⟩) (fun z => ⟨fun _ => x_readDigit h z.1 ?_, fun w => absurd w i10⟩)
  refine ⟨vp_in_nI hj (by decide), ?_⟩
  intro q5 E
  rw [nI_c (by omega)] at E
  subst E
  refine ⟨fun _ => ?_, fun e => ⟨fun _ => ?_, fun e2 => absurd e2 (hl e)⟩⟩
  all_goals
    intro x6 e6
    rw [nI_1] at e6
    subst e6
    exact k1 z
/-- .. of one or two digits, at its end -/
theorem x_31b (h : TX q.1 tx len p) {kd r j : Nat} (hj : j < 3) (hl : nI j = kNum kd - 1) (hd : kDig kd = 2) {B : Int32 → aS → Prop} {K : aS → Prop} (k0 : ¬ dg_ tx len p → P 0 q) (k1 : dg_ tx len p → ¬ dg_ tx len (p + 1) → B (nI (j + 1)) (up2 (up2 q.1 190 6 (nI (p + 1))) (194 + r) j (n1_ tx p), q.2))
    (k2 : dg_ tx len p → dg_ tx len (p + 1) → B (nI (j + 1)) (up2 (up2 (up2 (up2 q.1 190 6 (nI (p + 1))) (194 + r) j (n1_ tx p)) 190 6 (nI (p + 2))) (194 + r) j (10 * n1_ tx p + n1_ tx (p + 1)), q.2)) : JX3_readsNumbers_31 kd r (nI j) P B K q := by
  have hp := h.2.2.2.2
  unfold JX3_readsNumbers_31
  refine x_isAtDigit h (fun z => ⟨fun w => absurd rfl w, fun _ => k0 z⟩) (fun z => ⟨fun _ => x_readDigit h z.1 ?_, fun w => absurd w i10⟩)
  refine ⟨vp_in_nI hj (by decide), ?_⟩
  intro q5 E
  rw [nI_c (by omega)] at E
  subst E
  refine ⟨fun e => absurd hl e, fun _ => ⟨fun e => absurd hd e, fun _ => ?_⟩⟩
  have hp1 := z.1
  have h1 : TX (up2 (up2 q.1 190 6 (nI (p + 1))) (194 + r) j (n1_ tx p)) tx len (p + 1) := (h.go (by omega)).row r j _
  refine x_isAtDigit (q := (up2 (up2 q.1 190 6 (nI (p + 1))) (194 + r) j (n1_ tx p), q.2)) h1 (fun z2 => ⟨fun _ => ?_, fun w => absurd rfl w⟩) (fun z2 => ⟨fun w => absurd w i10, fun _ => ⟨vp_in_nI hj (by decide), ?_⟩⟩)
  · intro x6 e6
    rw [nI_1] at e6
    subst e6
    exact k1 z z2
  · refine x_readDigit (q := (up2 (up2 q.1 190 6 (nI (p + 1))) (194 + r) j (n1_ tx p), q.2)) h1 z2.1 ⟨vp_in_nI hj (by decide), ?_⟩
    intro q13 E
    rw [nI_c (by omega)] at E
    have e9 : up2 (up2 q.1 190 6 (nI (p + 1))) (194 + r) j (n1_ tx p) (194 + r) j = n1_ tx p := by rw [up2_at, if_pos ⟨rfl, rfl⟩]
    dsimp only at E
    rw [e9] at E
    subst E
    intro x6 e6
    rw [nI_1] at e6
    subst e6
    exact k2 z z2
/-- what reading numbers gives -/
def nP (tx : Nat → Int32) (len k r p : Nat) (d : pU) (P : Int32 → aS → Prop) (t : List Nat) : Prop :=
  ((nums tx len k p).1 = false → ∀ d', TX d' tx len (nums tx len k p).2.1 → frN r d d' → P 0 (d', t)) ∧
  ((nums tx len k p).1 = true → ∀ d', TX d' tx len (nums tx len k p).2.1 → frN r d d' → Ag k (d' (194 + r) 0) (d' (194 + r) 1) (d' (194 + r) 2) (nums tx len k p).2.2.1 (nums tx len k p).2.2.2.1 (nums tx len k p).2.2.2.2 → P 1 (d', t))
end XT

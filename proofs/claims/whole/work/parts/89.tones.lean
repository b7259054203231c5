/-! both ways to tones and verses; deposits -/
theorem sumTo_mul (g : Nat → Int32) (c : Int32) : ∀ n, sumTo g n * c = sumTo (fun j => g j * c) n
  | 0 => Int32.zero_mul
  | n + 1 => by
    show (sumTo g n + g n) * c = sumTo (fun j => g j * c) n + g n * c
    rw [Int32.add_mul, sumTo_mul g c n]
theorem sumTo_swap (g : Nat → Nat → Int32) (n : Nat) : ∀ m, sumTo (fun s => sumTo (g s) n) m = sumTo (fun e => sumTo (fun s => g s e) m) n
  | 0 => by
    show (0 : Int32) = _
    exact (sumTo_0 (fun j _ => rfl)).symm
  | m + 1 => by
    show sumTo (fun s => sumTo (g s) n) m + sumTo (g m) n = _
    rw [sumTo_swap g n m, ← sumTo_add]
    rfl
theorem str_key : ∀ a, a < 10 → ∀ d, d < 10 → sumTo (fun t => if t ≤ d then 0 else (if nI a = nI t then 1 else 0) * (nI t - nI d)) 10 = p0_ (nI a - nI d) := by decide +kernel
def fTs (u : pU) (s r : Int32) (d : Nat) (t : Nat) : Int32 := if t ≤ d then 0 else pCnt u (nI t) s r * (nI t - nI d)
theorem ts_ton {n : Nat} {u : pU} (hI : Inv n u) {r : Nat} (hr : r < cR u) (s : Int32) {d : Nat} (hd : d < 10) (ed : u 3 r = nI d) : sumTo (fTs u s (nI r) d) 10 = pTon u s (nI r) := by
  obtain ⟨hc, h1, h2, -⟩ := hI
  have hb := hc.1.2
  have e1 : sumTo (fTs u s (nI r) d) 10 = sumTo (fun t => sumTo (fun e => if t ≤ d then 0 else gCnt u (nI t) s (nI r) e * (nI t - nI d)) (cE u)) 10 := sumTo_cg (fun t ht => by
    unfold fTs pCnt
    by_cases c : t ≤ d
    · rw [if_pos c, sumTo_0 (fun j _ => if_pos c)]
    · rw [if_neg c, sumTo_mul]
      exact sumTo_cg (fun e he => (if_neg c).symm))
  rw [e1, sumTo_swap (fun t e => if t ≤ d then 0 else gCnt u (nI t) s (nI r) e * (nI t - nI d))]
  refine sumTo_cg (fun e he => ?_)
  unfold gTon
  by_cases c : u 6 e = nI r ∧ u 8 e = s
  · rw [if_pos c]
    obtain ⟨a, ha1, ha9, ea⟩ := (h2 e he).2.1
    have ew : pW u e = p0_ (nI a - nI d) := by
      unfold pW
      rw [c.1, nI_c (show r < 100000 by omega), ea, ed]
    rw [ew, ← str_key a (by omega) d hd]
    refine sumTo_cg (fun t ht => ?_)
    by_cases c2 : t ≤ d
    · rw [if_pos c2, if_pos c2]
    · rw [if_neg c2, if_neg c2]
      unfold gCnt
      rw [ea]
      by_cases c3 : nI a = nI t
      · rw [if_pos ⟨c, c3⟩, if_pos c3]
      · rw [if_neg (fun z => c3 z.2), if_neg c3]
  · rw [if_neg c]
    refine sumTo_0 (fun t ht => ?_)
    by_cases c2 : t ≤ d
    · rw [if_pos c2]
    · rw [if_neg c2]
      unfold gCnt
      rw [if_neg (fun z => c z.1), Int32.zero_mul]
/-- of one sign only -/
theorem one_hot {x y : Int32} : ∀ {n : Nat}, n < 100000 → (∃ s, s < n ∧ x = nI s) → sumTo (fun s => if x = nI s then y else 0) n = y
  | 0, _, ⟨s, hs, _⟩ => absurd hs (Nat.not_lt_zero s)
  | n + 1, hn, ⟨s, hs, e⟩ => by
    show sumTo (fun s => if x = nI s then y else 0) n + (if x = nI n then y else 0) = y
    by_cases c : s = n
    · rw [sumTo_0 (fun j hj => if_neg (fun z => by
        have := nI_inj (a := s) (b := j) (by omega) (by omega) (e.symm.trans z)
        omega)), if_pos (by rw [e, c]), Int32.zero_add]
    · rw [one_hot (n := n) (by omega) ⟨s, by omega, e⟩, if_neg (fun z => c (nI_inj (by omega) (by omega) (e.symm.trans z))), Int32.add_zero]
theorem no_hot {y : Int32} {n : Nat} (hn : n < 100000) : sumTo (fun s => if (-1 : Int32) = nI s then y else 0) n = 0 :=
  sumTo_0 (fun j hj => if_neg (fun z => nI_nm (show j < 100000 by omega) z.symm))
theorem held_all {n : Nat} {u : pU} (hI : Inv n u) : sumTo (fun j => pHd u (nI j)) (cS u) = sumTo (gDp u) (cE u) := by
  obtain ⟨hc, h1, h2, -⟩ := hI
  have hb := hc.2.2.2
  unfold pHd
  rw [sumTo_swap (fun s e => gHd u (nI s) e)]
  refine sumTo_cg (fun e he => ?_)
  unfold gHd gDp
  rcases (h2 e he).2.2 with z | z
  · rw [z.1, if_pos rfl]
    exact no_hot (by omega)
  · obtain ⟨s, hs, es⟩ := z.1
    rw [one_hot (by omega) ⟨s, hs, es⟩, es, if_neg (nI_nm (by omega))]
theorem let_all {n : Nat} {u : pU} (hI : Inv n u) : sumTo (fun j => pLt u (nI j)) (cS u) = u 5 0 - pLt u (-1) := by
  obtain ⟨hc, h1, h2, -⟩ := hI
  have hb := hc.2.2.2
  have key : sumTo (fun j => pLt u (nI j)) (cS u) + pLt u (-1) = nI (cE u) := by
    unfold pLt
    rw [sumTo_swap (fun s e => gLt u (nI s) e), ← sumTo_add]
    have e1 : ∀ m, m ≤ cE u → sumTo (fun e => sumTo (fun s => gLt u (nI s) e) (cS u) + gLt u (-1) e) m = nI m := by
      intro m
      induction m with
      | zero => intro _; rfl
      | succ m ih =>
        intro hm
        show sumTo _ m + (sumTo (fun s => gLt u (nI s) m) (cS u) + gLt u (-1) m) = _
        rw [ih (by omega)]
        have e2 : sumTo (fun s => gLt u (nI s) m) (cS u) + gLt u (-1) m = 1 := by
          unfold gLt
          rcases (h2 m (by omega)).2.2 with z | z
          · rw [z.1, if_pos rfl, no_hot (by omega), Int32.zero_add]
          · obtain ⟨s, hs, es⟩ := z.1
            rw [one_hot (by omega) ⟨s, hs, es⟩, es, if_neg (nI_nm (by omega)), Int32.add_zero]
        rw [e2, nI_1]
    exact e1 (cE u) (Nat.le_refl _)
  rw [hc.2.1.1, ← key, Int32.add_sub_cancel]
/-! verses: by a maximum of naturals -/
def mxN (u : pU) (s r : Int32) : Nat → Nat
  | 0 => 0
  | e + 1 => if u 6 e = r ∧ u 8 e = s then Nat.max (mxN u s r e) (Nat.min (tn (u 9 e)) (tn (pW u e))) else mxN u s r e
theorem mxN_s (u : pU) (s r : Int32) (e : Nat) : mxN u s r (e + 1) = if u 6 e = r ∧ u 8 e = s then Nat.max (mxN u s r e) (Nat.min (tn (u 9 e)) (tn (pW u e))) else mxN u s r e := rfl
theorem mm_key : ∀ a, a < 10 → ∀ b, b < 10 → ∀ c, c < 10 → mx_ (nI a) (mi_ (nI b) (nI c)) = nI (Nat.max a (Nat.min c b)) := by decide +kernel
theorem hr_rg {n : Nat} {u : pU} (hI : Inv n u) {e : Nat} (he : e < cE u) {s : Nat} (hs : s < 100000) (h8 : u 8 e = nI s) : ∃ l w : Nat, 1 ≤ l ∧ l ≤ 9 ∧ w ≤ 9 ∧ u 9 e = nI l ∧ pW u e = nI w := by
  obtain ⟨hc, h1, h2, -⟩ := hI
  obtain ⟨w, -, hw, ew⟩ := pw_R (n := n) h1 h2 he hc.1.2
  rcases (h2 e he).2.2 with z | z
  · exact absurd (h8.symm.trans z.1) (nI_nm hs)
  · obtain ⟨l, l1, l9, el⟩ := z.2
    exact ⟨l, w, l1, l9, hw, el, ew⟩
theorem mx_n {n : Nat} {u : pU} (hI : Inv n u) {s : Nat} (hs : s < 100000) (r : Int32) : ∀ e, e ≤ cE u → mxE u (nI s) r e = nI (mxN u (nI s) r e) ∧ mxN u (nI s) r e ≤ 9
  | 0, _ => ⟨rfl, (by decide : 0 ≤ 9)⟩
  | e + 1, he => by
    obtain ⟨i1, i2⟩ := mx_n hI hs r e (by omega)
    show (if _ then _ else _ : Int32) = nI (if _ then _ else _) ∧ (if _ then _ else _) ≤ 9
    by_cases c : u 6 e = r ∧ u 8 e = nI s
    · obtain ⟨l, w, l1, l9, w9, el, ew⟩ := hr_rg hI (e := e) (by omega) hs c.2
      rw [if_pos c, if_pos c, i1, el, ew, mm_key _ (by omega) w (by omega) l (by omega), tn_c (by omega), tn_c (by omega)]
      refine ⟨rfl, ?_⟩
      have h1 : Nat.min l w ≤ w := Nat.min_le_right l w
      exact Nat.max_le.mpr ⟨i2, by omega⟩
    · rw [if_neg c, if_neg c]
      exact ⟨i1, i2⟩
theorem dm_key : ∀ d, d < 10 → ∀ k, k < 10 → (if nI d + nI k < 9 then nI d + nI k else 9) = nI (Nat.min 9 (d + k)) := by decide +kernel
theorem tr_key : ∀ a, a < 10 → ∀ m, m < 10 → p0_ (nI a - nI m) = nI (a - m) := by decide +kernel
theorem ti_mx {n : Nat} {u : pU} (hI : Inv n u) {r : Nat} (hr : r < cR u) {s : Nat} (hs : s < 100000) {k : Nat} (hk : k < 10) : ∀ e, e ≤ cE u → ∃ S, sumTo (gTI u (nI s) (nI r) (nI k) (pDm u (nI r) (nI k))) e = nI S ∧ S ≤ 9 * e ∧ (0 < S ↔ k < mxN u (nI s) (nI r) e)
  | 0, _ => ⟨0, rfl, by omega, by show 0 < 0 ↔ k < 0; omega⟩
  | e + 1, he => by
    obtain ⟨S, i1, i2, i3⟩ := ti_mx hI hr hs hk e (by omega)
    have hb := hI.1.1.2
    obtain ⟨d, -, hd, ed⟩ := (hI.2.1 r hr).2
    have er := nI_c (show r < 100000 by omega)
    have eD : pDm u (nI r) (nI k) = nI (Nat.min 9 (d + k)) := by
      unfold pDm
      rw [er, ed]
      exact dm_key d (by omega) k hk
    show ∃ S, sumTo _ e + gTI u (nI s) (nI r) (nI k) (pDm u (nI r) (nI k)) e = nI S ∧ S ≤ 9 * (e + 1) ∧ (0 < S ↔ k < mxN u (nI s) (nI r) (e + 1))
    rw [i1, mxN_s]
    by_cases c : u 6 e = nI r ∧ u 8 e = nI s
    · obtain ⟨l, w, l1, l9, w9, el, ew⟩ := hr_rg hI (e := e) (by omega) hs c.2
      obtain ⟨a, a1, a9, ea⟩ := (hI.2.2.1 e (by omega)).2.1
      have ewa : w = a - d := by
        unfold pW at ew
        rw [c.1, er, ea, ed, tr_key a (by omega) d (by omega)] at ew
        exact (nI_inj (by omega) (by omega) ew).symm
      rw [if_pos c, el, ew, tn_c (by omega), tn_c (by omega)]
      have hmn : Nat.min l w = if l ≤ w then l else w := rfl
      by_cases c2 : u 9 e ≤ nI k
      · have c3 : l ≤ k := by
          rw [el, nI_leI (by omega) (by omega)] at c2
          exact c2
        refine ⟨S, ?_, by omega, ?_⟩
        · unfold gTI
          rw [if_neg (fun z => z.2 c2), Int32.add_zero]
        · rw [i3]
          have : Nat.min l w ≤ k := by rw [hmn]; split <;> omega
          have h1 := Nat.le_max_left (mxN u (nI s) (nI r) e) (Nat.min l w)
          constructor
          · intro z
            exact Nat.lt_of_lt_of_le z h1
          · intro z
            rcases Nat.lt_or_ge k (mxN u (nI s) (nI r) e) with q | q
            · exact q
            · exact absurd z (Nat.not_lt.mpr (Nat.max_le.mpr ⟨q, this⟩))
      · have c3 : ¬ l ≤ k := fun z => c2 (by rw [el, nI_leI (by omega) (by omega)]; exact z)
        have et : gTI u (nI s) (nI r) (nI k) (pDm u (nI r) (nI k)) e = nI (a - Nat.min 9 (d + k)) := by
          unfold gTI
          rw [if_pos ⟨c, c2⟩, ea, eD]
          have h9 : Nat.min 9 (d + k) ≤ 9 := Nat.min_le_left 9 (d + k)
          exact tr_key a (by omega) _ (by omega)
        have hm9 : Nat.min 9 (d + k) = if 9 ≤ d + k then 9 else d + k := rfl
        refine ⟨S + (a - Nat.min 9 (d + k)), by rw [et, nI_add], by omega, ?_⟩
        have hpos : 0 < a - Nat.min 9 (d + k) ↔ k < Nat.min l w := by
          rw [hm9, hmn]
          split <;> split <;> omega
        constructor
        · intro z
          rcases Nat.eq_zero_or_pos S with q | q
          · have := hpos.mp (by omega)
            exact Nat.lt_of_lt_of_le this (Nat.le_max_right _ _)
          · exact Nat.lt_of_lt_of_le (i3.mp q) (Nat.le_max_left _ _)
        · intro z
          rcases Nat.lt_or_ge k (mxN u (nI s) (nI r) e) with q | q
          · have := i3.mpr q
            omega
          · rcases Nat.lt_or_ge k (Nat.min l w) with q2 | q2
            · have := hpos.mpr q2
              omega
            · exact absurd z (Nat.not_lt.mpr (Nat.max_le.mpr ⟨q, q2⟩))
    · refine ⟨S, ?_, by omega, ?_⟩
      · unfold gTI
        rw [if_neg (fun z => c z.1), Int32.add_zero]
      · rw [if_neg c]
        exact i3
/-- how many verses bring tones -/
def nV (u : pU) (s r : Nat) : Nat := mxN u (nI s) (nI r) (cE u)
theorem nV_9 {n : Nat} {u : pU} (hI : Inv n u) {s : Nat} (hs : s < 100000) (r : Nat) : nV u s r ≤ 9 := (mx_n hI hs (nI r) (cE u) (Nat.le_refl _)).2
theorem nV_lt {n : Nat} {u : pU} (hI : Inv n u) {r : Nat} (hr : r < cR u) {s : Nat} (hs : s < 100000) {k : Nat} (hk : k < nV u s r) : ¬ pTI u (nI s) (nI r) (nI k) ≤ 0 := by
  have h9 := nV_9 hI hs r
  obtain ⟨S, e, h1, h2⟩ := ti_mx hI hr hs (k := k) (by omega) (cE u) (Nat.le_refl _)
  have hb := hI.1.2.1.2
  unfold pTI
  rw [e]
  exact nI_nle (h2.mpr hk) (by omega)
theorem nV_eq {n : Nat} {u : pU} (hI : Inv n u) {r : Nat} (hr : r < cR u) {s : Nat} (hs : s < 100000) : pTI u (nI s) (nI r) (nI (nV u s r)) ≤ 0 := by
  have h9 := nV_9 hI hs r
  obtain ⟨S, e, h1, h2⟩ := ti_mx hI hr hs (k := nV u s r) (by omega) (cE u) (Nat.le_refl _)
  have h0 : S = 0 := by
    rcases Nat.eq_zero_or_pos S with z | z
    · exact z
    · exact absurd (h2.mp z) (Nat.lt_irrefl _)
  unfold pTI
  rw [e, h0]
  decide
section TON
variable {q : aS} {u : pU} {P : Int32 → aS → Prop} {n : Nat}
theorem x_tonesByStrength (h : RX 1 q.1 u) (hI : Inv n u) {i r : Nat} (hi : i < 6) (hr : r < cR u) (er : u 14 i = nI r) (k : P (pTon u (nI i) (nI r)) q) : w_X8_tonesByStrength (nI i) q P := by
  have hc := hI.1
  have hb := hc.1.2
  have hr6 : r < 6 := by omega
  obtain ⟨d, -, hd, ed⟩ := (hI.2.1 r hr).2
  have erc := nI_c (show r < 100000 by omega)
  have vr : vp_in (nI r) 6 := vp_in_nI hr6 (by decide)
  unfold w_X8_tonesByStrength
  rw [nI_c (show i < 100000 by omega), rx_15 h hi, er]
  refine ⟨vp_in_nI hi (by decide), ?_⟩
  intro x2 e2
  subst e2
  rw [erc, rx_4 h hr6, ed, nI_1]
  refine ⟨vr, ?_⟩
  intro x3 e3
  subst e3
  rw [← ts_ton hI hr (nI i) (d := d) (by omega) ed] at k
  have hz : sumTo (fTs u (nI i) (nI r) d) (d + 1) = 0 := sumTo_0 (fun j hj => if_pos (by omega))
  rw [← hz]
  refine lp_k (fun m v t => LX8_tonesByStrength_25 (nI i) (nI r) P _ m v t q) (fun t v => v = sumTo (fTs u (nI i) (nI r) d) t ∧ d + 1 ≤ t) 10 (d + 1) (by omega) _ ⟨rfl, Nat.le_refl _⟩ (fun m v hv => ?_) (fun m v0 v hj hv hk => ?_)
  · obtain ⟨rfl, -⟩ := hv
    have hlt : (9 : Int32) < nI 10 := by decide +kernel
    simp only [LX8_tonesByStrength_25, hlt, false_implies, not_true_eq_false, true_implies, and_true]
    exact k
  · obtain ⟨rfl, hd1⟩ := hv
    have hlt : ¬ (9 : Int32) < nI v0 := nI_nlt (a := 9) (by omega) (by omega)
    simp only [LX8_tonesByStrength_25, hlt, false_implies, not_false_eq_true, true_implies, true_and]
    refine x_countHeardOf h hc _ _ _ ⟨vr, ?_⟩
    intro x6 e6 x7 e7
    rw [nI_1] at e7
    rw [erc, rx_4 h hr6, ed] at e6
    subst e6 e7
    refine hk _ ⟨?_, by omega⟩
    show _ = sumTo _ v0 + fTs u (nI i) (nI r) d v0
    unfold fTs
    rw [if_neg (show ¬ v0 ≤ d by omega)]
theorem x_versesInThought (h : RX 1 q.1 u) (hI : Inv n u) {i r : Nat} (hi : i < 6) (hr : r < cR u) (er : u 14 i = nI r) (k : P (nI (nV u i r)) q) : w_X8_versesInThought (nI i) q P := by
  have hc := hI.1
  have hb := hc.1.2
  have h9 := nV_9 hI (show i < 100000 by omega) r
  unfold w_X8_versesInThought
  refine lp_0 (fun m (_ : Unit) t => LX8_versesInThought_2 (nI i) P _ m t q) (fun _ _ => True) (nV u i r) () trivial (fun m v hv => ?_) (fun m j v hj hv hk => ?_)
  · rw [LX8_versesInThought_2]
    refine ⟨fun _ => k, fun _ => x_tonesAfter h hc hi (by omega) er _ ⟨fun _ => k, fun z => absurd (nV_eq hI hr (by omega)) z⟩⟩
  · have hlt : ¬ (9 : Int32) ≤ nI j := nI_ge (b := 9) (by omega) (by omega)
    rw [LX8_versesInThought_2]
    refine ⟨fun z => absurd z hlt, fun _ => x_tonesAfter h hc hi (by omega) er _ ⟨fun z => absurd z (nV_lt hI hr (by omega) hj), fun _ => ?_⟩⟩
    intro x4 e4
    rw [nI_1] at e4
    subst e4
    exact hk () trivial
theorem x_versesByEcho2 (h : RX 1 q.1 u) (hI : Inv n u) {i r : Nat} (hi : i < 6) (er : u 14 i = nI r) (k : P (nI (nV u i r)) q) : w_X8_versesByEcho (nI i) q P := by
  refine x_versesByEcho h hI.1 hI.ech hi ?_
  rw [er, (mx_n hI (show i < 100000 by omega) (nI r) (cE u) (Nat.le_refl _)).1]
  exact k
theorem r_versesNow (h : RM (q.1 1) 0 u) (hI : Inv n u) {i r : Nat} (hi : i < 6) (hr : r < cR u) (er : u 14 i = nI r) {K : Int32 → aS → Prop} (k : K (nI (nV u i r)) q) : ∃ M, LX10_versesNow_21 (nI i) P K M 0 q := by
  have hc := hI.1
  have hb := hc.1.2
  have h9 := nV_9 hI (show i < 100000 by omega) r
  refine lp_0 (fun m (_ : Unit) t => LX10_versesNow_21 (nI i) P K m t q) (fun _ _ => True) (nV u i r) () trivial (fun m v hv => ?_) (fun m j v hj hv hk => ?_)
  · rw [LX10_versesNow_21]
    unfold w_X10_singerAt
    simp only [ie_S2 hi, rm_S2 h hi, er]
    exact ⟨iv_S2 hi, r_tonesIn h hc (by omega) _ _ ⟨fun _ => k, fun z => absurd (nV_eq hI hr (by omega)) z⟩⟩
  · rw [LX10_versesNow_21]
    unfold w_X10_singerAt
    simp only [ie_S2 hi, rm_S2 h hi, er]
    refine ⟨iv_S2 hi, r_tonesIn h hc (by omega) _ _ ⟨fun z => absurd z (nV_lt hI hr (by omega) hj), fun _ => ?_⟩⟩
    intro x4 e4
    rw [nI_1] at e4
    subst e4
    exact hk () trivial
/-- the check that a singer is in a room, on both sides -/
theorem x_inside (h : RX 1 q.1 u) (hI : Inv n u) (x : Int32) {X : String → aS → Prop} (b1 : (x < 0 ∨ nI (cS u) ≤ x) → X "java/lang/IndexOutOfBoundsException" q) (b2 : ∀ i, i < cS u → x = nI i → u 14 i = -1 → X "java/util/NoSuchElementException" q) (ok : ∀ i r, i < cS u → x = nI i → r < cR u → u 14 i = nI r → P 0 q) : w_X9_checkSingerInside x q P X := by
  have hb := hI.1.2.2.2
  unfold w_X9_checkSingerInside w_X9_checkSinger
  refine x_hasSinger h hI.1 x (fun c => ⟨fun z => absurd rfl z, fun _ => b1 c⟩) (fun i hi e => ⟨fun _ => ?_, fun z => absurd z i10⟩)
  subst e
  refine x_isInside h (by omega) (fun c => ⟨fun z => absurd rfl z, fun _ => b2 i hi rfl c⟩) (fun c => ⟨fun _ => ?_, fun z => absurd z i10⟩)
  obtain ⟨r, hr, er⟩ := ((hI.2.2.2.1 i hi).2.2.1).resolve_left c
  exact ok i r hi rfl hr er
theorem r_inside (h : RM (q.1 1) 0 u) (hI : Inv n u) (x : Int32) {B : Int32 → aS → Prop} (b1 : (x < 0 ∨ nI (cS u) ≤ x) → B 0 (up2 q.1 0 15 1, q.2)) (b2 : ∀ i, i < cS u → x = nI i → u 14 i = -1 → B 0 (up2 q.1 0 15 2, q.2)) (ok : ∀ i r, i < cS u → x = nI i → r < cR u → u 14 i = nI r → B 1 (up2 q.1 0 15 0, q.2)) : w_X10_isSinger x q (fun r2 q3 => w_X10_isInside x q3 (fun r4 q5 => w_X10_goes r2 r4 q5 B)) := by
  have hb := hI.1.2.2.2
  refine r_isSinger h hI.1 x (fun c => ?_) (fun i hi e => ?_)
  · unfold w_X10_isInside
    exact r_isSinger h hI.1 x (fun _ => ⟨fun _ => r_goes (fun _ => b1 c) (fun z => absurd rfl z) (fun z => absurd rfl z), fun z => absurd rfl z⟩) (fun i hi e => absurd (e ▸ c) (has_no hi (by omega)))
  · subst e
    have hi6 : i < 6 := by omega
    unfold w_X10_isInside
    refine r_isSinger h hI.1 _ (fun c => absurd c (has_no hi (by omega))) (fun i' hi' e => ⟨fun z => absurd z i10, fun _ => ?_⟩)
    unfold w_X10_singerAt
    simp only [ie_S2 hi6, rm_S2 h hi6]
    refine ⟨iv_S2 hi6, fun c => r_goes (fun z => absurd z i10) (fun _ _ => b2 i hi rfl c) (fun _ z => absurd rfl z), fun c => ?_⟩
    obtain ⟨r, hr, er⟩ := ((hI.2.2.2.1 i hi).2.2.1).resolve_left c
    exact r_goes (fun z => absurd z i10) (fun _ z => absurd z i10) (fun _ _ => ok i r hi rfl hr er)
end TON
section ASK3
variable {s : Nat} {q : aS} {dM : pU}
theorem po_13 (hN : INV s q dM) (v : Nat → Int64) (vd : Nat → UInt64) (p1 p2 p3 : Int32) : ob_13 v vd p1 p2 p3 q (dM, []) (K1 s) := by
  have hN' := hN
  obtain ⟨⟨u, n1, n2, hI⟩, -⟩ := hN
  have hc := hI.1
  have hb := hc.1.2
  have hb3 := hc.2.2.2
  have m2 : RM ((dM, ([] : List Nat)).1 1) 0 u := n2
  have n3 : RM (up2 dM 0 15 0 1) 0 u := n2.g 15 0
  unfold ob_13 w_X9_tones
  refine x_inside n1 hI p1 (fun c => Or.inl ⟨rfl, ?_⟩) (fun i hi e c => Or.inr ⟨rfl, ?_⟩) (fun i r hi e hr er => ?_)
  · simp only [lPo_f]
    unfold w_X10_tones w_X10_tonesNow
    exact r_inside m2 hI p1 (fun _ => ⟨fun _ => g_k (by decide) hN', fun z => absurd rfl z⟩) (fun i hi e _ => absurd (e ▸ c) (has_no hi (by omega))) (fun i r hi e _ _ => absurd (e ▸ c) (has_no hi (by omega)))
  · subst e
    simp only [lPo_f]
    unfold w_X10_tones w_X10_tonesNow
    refine r_inside m2 hI _ (fun z => absurd z (has_no hi (by omega))) (fun _ _ _ _ => ⟨fun _ => g_k (by decide) hN', fun z => absurd rfl z⟩) (fun i' r hi' e hr er => ?_)
    have ei := nI_inj (a := i) (b := i') (by omega) (by omega) e
    subst ei
    exact absurd (c.symm.trans er).symm (nI_nm (by omega))
  · subst e
    have hi6 : i < 6 := by omega
    have ei := nI_c (show i < 100000 by omega)
    have vi : vp_in (nI i) 6 := vp_in_nI hi6 (by decide)
    rw [ei, rx_15 n1 hi6, er]
    refine ⟨vi, x_tonesInRoom n1 hc hI.ech _ _ ?_⟩
    rw [← ton_ti hI hr (show i < 100000 by omega)]
    simp only [lPo_f]
    unfold w_X10_tones w_X10_tonesNow
    refine r_inside m2 hI _ (fun z => absurd z (has_no hi (by omega))) (fun i' hi' e c => ?_) (fun i' r' hi' e hr' er' => ?_)
    · have ei := nI_inj (a := i) (b := i') (by omega) (by omega) e
      subst ei
      exact absurd (er.symm.trans c) (nI_nm (by omega))
    · refine ⟨fun z => absurd z i10, fun _ => ?_⟩
      unfold w_X10_singerAt
      simp only [ie_S2 hi6, rm_S2 n3 hi6, er]
      exact ⟨iv_S2 hi6, r_tonesIn (q := (up2 dM 0 15 0, [])) n3 hc (r := r) (by omega) _ _ (g_0 hN')⟩
theorem po_14 (hN : INV s q dM) (v : Nat → Int64) (vd : Nat → UInt64) (p1 p2 p3 : Int32) : ob_14 v vd p1 p2 p3 q (dM, []) (K1 s) := by
  have hN' := hN
  obtain ⟨⟨u, n1, n2, hI⟩, -⟩ := hN
  have hc := hI.1
  have hb := hc.1.2
  have hb3 := hc.2.2.2
  have m2 : RM ((dM, ([] : List Nat)).1 1) 0 u := n2
  have n3 : RM (up2 dM 0 15 0 1) 0 u := n2.g 15 0
  unfold ob_14 w_X9_tonesAgain
  refine x_inside n1 hI p1 (fun c => Or.inl ⟨rfl, ?_⟩) (fun i hi e c => Or.inr ⟨rfl, ?_⟩) (fun i r hi e hr er => ?_)
  · simp only [lPo_f]
    unfold w_X10_tonesAgain w_X10_tonesNow
    exact r_inside m2 hI p1 (fun _ => ⟨fun _ => g_k (by decide) hN', fun z => absurd rfl z⟩) (fun i hi e _ => absurd (e ▸ c) (has_no hi (by omega))) (fun i r hi e _ _ => absurd (e ▸ c) (has_no hi (by omega)))
  · subst e
    simp only [lPo_f]
    unfold w_X10_tonesAgain w_X10_tonesNow
    refine r_inside m2 hI _ (fun z => absurd z (has_no hi (by omega))) (fun _ _ _ _ => ⟨fun _ => g_k (by decide) hN', fun z => absurd rfl z⟩) (fun i' r hi' e hr er => ?_)
    have ei := nI_inj (a := i) (b := i') (by omega) (by omega) e
    subst ei
    exact absurd (c.symm.trans er).symm (nI_nm (by omega))
  · subst e
    have hi6 : i < 6 := by omega
    have ei := nI_c (show i < 100000 by omega)
    have vi : vp_in (nI i) 6 := vp_in_nI hi6 (by decide)
    refine x_tonesByStrength n1 hI hi6 hr er ?_
    rw [← ton_ti hI hr (show i < 100000 by omega)]
    simp only [lPo_f]
    unfold w_X10_tonesAgain w_X10_tonesNow
    refine r_inside m2 hI _ (fun z => absurd z (has_no hi (by omega))) (fun i' hi' e c => ?_) (fun i' r' hi' e hr' er' => ?_)
    · have ei := nI_inj (a := i) (b := i') (by omega) (by omega) e
      subst ei
      exact absurd (er.symm.trans c) (nI_nm (by omega))
    · refine ⟨fun z => absurd z i10, fun _ => ?_⟩
      unfold w_X10_singerAt
      simp only [ie_S2 hi6, rm_S2 n3 hi6, er]
      exact ⟨iv_S2 hi6, r_tonesIn (q := (up2 dM 0 15 0, [])) n3 hc (r := r) (by omega) _ _ (g_0 hN')⟩
theorem po_15 (hN : INV s q dM) (v : Nat → Int64) (vd : Nat → UInt64) (p1 p2 p3 : Int32) : ob_15 v vd p1 p2 p3 q (dM, []) (K1 s) := by
  have hN' := hN
  obtain ⟨⟨u, n1, n2, hI⟩, -⟩ := hN
  have hc := hI.1
  have hb := hc.1.2
  have hb3 := hc.2.2.2
  have m2 : RM ((dM, ([] : List Nat)).1 1) 0 u := n2
  have n3 : RM (up2 dM 0 15 0 1) 0 u := n2.g 15 0
  unfold ob_15 w_X9_verses
  refine x_inside n1 hI p1 (fun c => Or.inl ⟨rfl, ?_⟩) (fun i hi e c => Or.inr ⟨rfl, ?_⟩) (fun i r hi e hr er => ?_)
  · simp only [lPo_f]
    unfold w_X10_verses w_X10_versesNow
    exact r_inside m2 hI p1 (fun _ => ⟨fun z => absurd rfl z, fun _ => g_k (by decide) hN'⟩) (fun i hi e _ => absurd (e ▸ c) (has_no hi (by omega))) (fun i r hi e _ _ => absurd (e ▸ c) (has_no hi (by omega)))
  · subst e
    simp only [lPo_f]
    unfold w_X10_verses w_X10_versesNow
    refine r_inside m2 hI _ (fun z => absurd z (has_no hi (by omega))) (fun _ _ _ _ => ⟨fun z => absurd rfl z, fun _ => g_k (by decide) hN'⟩) (fun i' r hi' e hr er => ?_)
    have ei := nI_inj (a := i) (b := i') (by omega) (by omega) e
    subst ei
    exact absurd (c.symm.trans er).symm (nI_nm (by omega))
  · subst e
    have hi6 : i < 6 := by omega
    have ei := nI_c (show i < 100000 by omega)
    have vi : vp_in (nI i) 6 := vp_in_nI hi6 (by decide)
    refine x_versesInThought n1 hI hi6 hr er ?_
    simp only [lPo_f]
    unfold w_X10_verses w_X10_versesNow
    refine r_inside m2 hI _ (fun z => absurd z (has_no hi (by omega))) (fun i' hi' e c => ?_) (fun i' r' hi' e hr' er' => ?_)
    · have ei := nI_inj (a := i) (b := i') (by omega) (by omega) e
      subst ei
      exact absurd (er.symm.trans c) (nI_nm (by omega))
    · exact ⟨fun _ => r_versesNow (q := (up2 dM 0 15 0, [])) n3 hI hi6 hr er (g_0 hN'), fun z => absurd z i10⟩
theorem po_16 (hN : INV s q dM) (v : Nat → Int64) (vd : Nat → UInt64) (p1 p2 p3 : Int32) : ob_16 v vd p1 p2 p3 q (dM, []) (K1 s) := by
  have hN' := hN
  obtain ⟨⟨u, n1, n2, hI⟩, -⟩ := hN
  have hc := hI.1
  have hb := hc.1.2
  have hb3 := hc.2.2.2
  have m2 : RM ((dM, ([] : List Nat)).1 1) 0 u := n2
  have n3 : RM (up2 dM 0 15 0 1) 0 u := n2.g 15 0
  unfold ob_16 w_X9_versesAgain
  refine x_inside n1 hI p1 (fun c => Or.inl ⟨rfl, ?_⟩) (fun i hi e c => Or.inr ⟨rfl, ?_⟩) (fun i r hi e hr er => ?_)
  · simp only [lPo_f]
    unfold w_X10_versesAgain w_X10_versesNow
    exact r_inside m2 hI p1 (fun _ => ⟨fun z => absurd rfl z, fun _ => g_k (by decide) hN'⟩) (fun i hi e _ => absurd (e ▸ c) (has_no hi (by omega))) (fun i r hi e _ _ => absurd (e ▸ c) (has_no hi (by omega)))
  · subst e
    simp only [lPo_f]
    unfold w_X10_versesAgain w_X10_versesNow
    refine r_inside m2 hI _ (fun z => absurd z (has_no hi (by omega))) (fun _ _ _ _ => ⟨fun z => absurd rfl z, fun _ => g_k (by decide) hN'⟩) (fun i' r hi' e hr er => ?_)
    have ei := nI_inj (a := i) (b := i') (by omega) (by omega) e
    subst ei
    exact absurd (c.symm.trans er).symm (nI_nm (by omega))
  · subst e
    have hi6 : i < 6 := by omega
    have ei := nI_c (show i < 100000 by omega)
    have vi : vp_in (nI i) 6 := vp_in_nI hi6 (by decide)
    refine x_versesByEcho2 n1 hI hi6 er ?_
    simp only [lPo_f]
    unfold w_X10_versesAgain w_X10_versesNow
    refine r_inside m2 hI _ (fun z => absurd z (has_no hi (by omega))) (fun i' hi' e c => ?_) (fun i' r' hi' e hr' er' => ?_)
    · have ei := nI_inj (a := i) (b := i') (by omega) (by omega) e
      subst ei
      exact absurd (er.symm.trans c) (nI_nm (by omega))
    · exact ⟨fun _ => r_versesNow (q := (up2 dM 0 15 0, [])) n3 hI hi6 hr er (g_0 hN'), fun z => absurd z i10⟩
theorem po_28 (hN : INV s q dM) (v : Nat → Int64) (vd : Nat → UInt64) (p1 p2 p3 : Int32) : ob_28 v vd p1 p2 p3 q (dM, []) (K1 s) := by
  have hN' := hN
  obtain ⟨⟨u, n1, n2, hI⟩, -⟩ := hN
  have hc := hI.1
  have hb := hc.1.2
  have hb3 := hc.2.2.2
  unfold ob_28 w_X9_isTold
  have hn := (rx_12 n1).trans hc.2.2.1
  refine lp_0 (fun m (_ : Unit) t => LX9_isTold_2 _ _ m t q) (fun _ _ => True) (cS u) () trivial (fun m v hv => ?_) (fun m j v hj hv hk => ?_)
  · rw [LX9_isTold_2, hn]
    refine ⟨fun _ => x_heldOfAll n1 hc ?_, fun z => absurd (nI_le (Nat.le_refl _) (by omega)) z⟩
    rw [held_all hI, rx_1_4 n1, rx_1_5 n1, rx_1_6 n1]
    refine ⟨fun z => absurd hI.2.2.2.2.2.1 z, fun _ => ?_⟩
    unfold w_X10_isTold
    intro q1 e1
    subst e1
    exact ⟨rfl, hN'.quiet ((QT.rf dM).up (j := 15) (by decide) 0)⟩
  · have hj6 : j < 6 := by omega
    rw [LX9_isTold_2, hn]
    refine ⟨fun z => absurd z (nI_ge hj (by omega)), fun _ => x_isInside n1 hj6 (fun c => ⟨fun _ => ?_, fun z => absurd rfl z⟩) (fun c => ⟨fun z => absurd z i10, fun _ => ?_⟩)⟩
    · intro x3 e3
      rw [nI_1] at e3
      subst e3
      exact hk () trivial
    · obtain ⟨r, hr, er⟩ := ((hI.2.2.2.1 j hj).2.2.1).resolve_left c
      unfold w_X9_bothWaysAgree
      rw [nI_c (show j < 100000 by omega), rx_15 n1 hj6, er]
      refine ⟨vp_in_nI hj6 (by decide), x_tonesInRoom n1 hc hI.ech _ _ (x_tonesByStrength n1 hI hj6 hr er ⟨fun z => absurd rfl z, fun _ => x_versesInThought n1 hI hj6 hr er (x_versesByEcho2 n1 hI hj6 er ⟨fun z => absurd rfl z, fun _ => ⟨fun _ => ?_, fun z => absurd z i10⟩⟩)⟩)⟩
      intro x6 e6
      rw [nI_1] at e6
      subst e6
      exact hk () trivial
/-- the best room among the first ones -/
def bst (u : pU) (s : Int32) : Nat → Nat
  | 0 => 0
  | j + 1 => if j = 0 then 0 else if pTon u s (nI j) ≤ pTon u s (nI (bst u s j)) then bst u s j else j
theorem bst_lt (u : pU) (s : Int32) : ∀ j, 1 ≤ j → bst u s j < j
  | 0, h => absurd h (by decide)
  | j + 1, _ => by
    show (if j = 0 then 0 else if pTon u s (nI j) ≤ pTon u s (nI (bst u s j)) then bst u s j else j) < j + 1
    by_cases c : j = 0
    · rw [if_pos c]
      omega
    · rw [if_neg c]
      have h := bst_lt u s j (by omega)
      split <;> omega
theorem po_18 (hN : INV s q dM) (v : Nat → Int64) (vd : Nat → UInt64) (p1 p2 p3 : Int32) : ob_18 v vd p1 p2 p3 q (dM, []) (K1 s) := by
  have hN' := hN
  obtain ⟨⟨u, n1, n2, hI⟩, -⟩ := hN
  have hc := hI.1
  have hb := hc.1.2
  have hb3 := hc.2.2.2
  have m2 : RM ((dM, ([] : List Nat)).1 1) 0 u := n2
  have n3 : RM (up2 dM 0 15 0 1) 0 u := n2.g 15 0
  have hn := (rx_2 n1).trans hc.1.1
  have hm := (rm_0 n2).trans hc.1.1
  have hm3 := (rm_0 n3).trans hc.1.1
  unfold ob_18 w_X9_bestRoom w_X9_checkSinger
  refine x_hasSinger n1 hc p1 (fun c => ⟨fun z => absurd rfl z, fun _ => Or.inl ⟨rfl, ?_⟩⟩) (fun i hi e => ⟨fun _ => ?_, fun z => absurd z i10⟩)
  · have h9 : ∀ a, JX10_bestRoom_20 p1 a 0 (fP s v 1 q) (dM, []) := fun a => r_goes (fun _ => ⟨fun z => absurd rfl z, fun _ => g_k (by decide) hN'⟩) (fun z => absurd rfl z) (fun z => absurd rfl z)
    simp only [lPo_f]
    unfold w_X10_bestRoom
    exact r_isSinger m2 hc p1 (fun _ => ⟨in_0, fun _ => h9 0, fun _ => h9 1⟩) (fun j hj e => absurd (e ▸ c) (has_no hj (by omega)))
  subst e
  rw [hn]
  refine ⟨fun c => ?_, fun c => Or.inr ⟨rfl, ?_⟩⟩
  · have hR1 : 1 ≤ cR u := by
      rcases Nat.eq_zero_or_pos (cR u) with z | z
      · exact absurd (by rw [z]; rfl) c
      · exact z
    refine lp_k (fun m v t => LX9_bestRoom_32 (nI i) _ _ _ m v t q) (fun t v => v = nI (bst u (nI i) t) ∧ 1 ≤ t) (cR u) 1 hR1 0 ⟨rfl, Nat.le_refl 1⟩ (fun m v hv => ?_) (fun m j v hj hv hk => ?_)
    · obtain ⟨rfl, -⟩ := hv
      rw [LX9_bestRoom_32, hn]
      refine ⟨fun _ => ?_, fun z => absurd (nI_le (Nat.le_refl _) (by omega)) z⟩
      simp only [lPo_f]
      unfold w_X10_bestRoom
      refine r_isSinger m2 hc _ (fun z => absurd z (has_no hi (by omega))) (fun i' hi' e => ?_)
      dsimp only
      rw [ic_0, hm]
      refine ⟨in_0, fun z => absurd z (nI_nle (by omega) (by omega)), fun _ => ?_⟩
      unfold JX10_bestRoom_20
      refine r_goes (fun z => absurd z i10) (fun _ z => absurd z i10) (fun _ _ => ⟨fun _ => ?_, fun z => absurd z i10⟩)
      refine lp_k (fun m v t => LX10_bestRoom_32 (nI i) _ _ m v t (up2 dM 0 15 0, [])) (fun t v => v = nI (bst u (nI i) t) ∧ 1 ≤ t) (cR u) 1 hR1 0 ⟨rfl, Nat.le_refl 1⟩ (fun m v hv => ?_) (fun m j v hj hv hk => ?_)
      · obtain ⟨rfl, -⟩ := hv
        rw [LX10_bestRoom_32]
        dsimp only
        rw [ic_0, hm3]
        exact ⟨in_0, fun _ => g_0 hN', fun z => absurd (nI_le (Nat.le_refl _) (by omega)) z⟩
      · obtain ⟨rfl, hj1⟩ := hv
        have hlt := bst_lt u (nI i) j hj1
        rw [LX10_bestRoom_32]
        dsimp only
        rw [ic_0, hm3]
        refine ⟨in_0, fun z => absurd z (nI_ge hj (by omega)), fun _ => ?_⟩
        refine r_tonesIn (q := (up2 dM 0 15 0, [])) n3 hc (r := j) (by omega) _ _ (r_tonesIn (q := (up2 dM 0 15 0, [])) n3 hc (r := bst u (nI i) j) (by omega) _ _ ?_)
        rw [ton_ti hI hj (show i < 100000 by omega), ton_ti hI (show bst u (nI i) j < cR u by omega) (show i < 100000 by omega)]
        have e9 : bst u (nI i) (j + 1) = if pTon u (nI i) (nI j) ≤ pTon u (nI i) (nI (bst u (nI i) j)) then bst u (nI i) j else j := if_neg (by omega)
        refine ⟨fun z => ?_, fun z => ?_⟩
        · intro x8 e8
          rw [nI_1] at e8
          subst e8
          exact hk _ ⟨by rw [e9, if_pos z], by omega⟩
        · intro x8 e8
          rw [nI_1] at e8
          subst e8
          exact hk _ ⟨by rw [e9, if_neg z], by omega⟩
    · obtain ⟨rfl, hj1⟩ := hv
      have hlt := bst_lt u (nI i) j hj1
      rw [LX9_bestRoom_32, hn]
      refine ⟨fun z => absurd z (nI_ge hj (by omega)), fun _ => x_tonesInRoom n1 hc hI.ech _ _ (x_tonesInRoom n1 hc hI.ech _ _ ?_)⟩
      have e9 : bst u (nI i) (j + 1) = if pTon u (nI i) (nI j) ≤ pTon u (nI i) (nI (bst u (nI i) j)) then bst u (nI i) j else j := if_neg (by omega)
      refine ⟨fun z => ?_, fun z => ?_⟩
      · intro x8 e8
        rw [nI_1] at e8
        subst e8
        exact hk _ ⟨by rw [e9, if_pos z], by omega⟩
      · intro x8 e8
        rw [nI_1] at e8
        subst e8
        exact hk _ ⟨by rw [e9, if_neg z], by omega⟩
  · simp only [lPo_f]
    unfold w_X10_bestRoom
    refine r_isSinger m2 hc _ (fun z => absurd z (has_no hi (by omega))) (fun i' hi' e => ?_)
    dsimp only
    rw [ic_0, hm]
    refine ⟨in_0, fun _ => ?_, fun z => absurd (show nI (cR u) ≤ 0 by rw [c]; decide) z⟩
    unfold JX10_bestRoom_20
    exact r_goes (fun z => absurd z i10) (fun _ _ => ⟨fun z => absurd rfl z, fun _ => g_k (by decide) hN'⟩) (fun _ z => absurd rfl z)
end ASK3

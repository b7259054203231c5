/-! both ways to tones and verses; deposits -/
theorem sumTo_mul (g : Nat → Int32) (c : Int32) : ∀ n, sumTo g n * c = sumTo (fun j => g j * c) n
  | 0 => Int32.zero_mul
  | n + 1 => by
    show (sumTo g n + g n) * c = sumTo (fun j => g j * c) n + g n * c
    rw [Int32.add_mul, sumTo_mul g c n]
theorem sumTo_swap (g : Nat → Nat → Int32) (n : Nat) : ∀ m, sumTo (fun s => sumTo (g s) n) m = sumTo (fun e => sumTo (fun s => g s e) m) n
  | 0 => by
    show (0 : Int32) = _
    exact (sumTo_0 (fun j _ => rfl)).symm
  | m + 1 => by
    show sumTo (fun s => sumTo (g s) n) m + sumTo (g m) n = _
    rw [sumTo_swap g n m, ← sumTo_add]
    rfl
theorem str_key : ∀ a, a < 10 → ∀ d, d < 10 → sumTo (fun t => if t ≤ d then 0 else (if nI a = nI t then 1 else 0) * (nI t - nI d)) 10 = p0_ (nI a - nI d) := by decide +kernel
def fTs (u : pU) (s r : Int32) (d : Nat) (t : Nat) : Int32 := if t ≤ d then 0 else pCnt u (nI t) s r * (nI t - nI d)
theorem ts_ton {n : Nat} {u : pU} (hI : Inv n u) {r : Nat} (hr : r < cR u) (s : Int32) {d : Nat} (hd : d < 10) (ed : u 3 r = nI d) : sumTo (fTs u s (nI r) d) 10 = pTon u s (nI r) := by
  obtain ⟨hc, h1, h2, -⟩ := hI
  have hb := hc.1.2
  have e1 : sumTo (fTs u s (nI r) d) 10 = sumTo (fun t => sumTo (fun e => if t ≤ d then 0 else gCnt u (nI t) s (nI r) e * (nI t - nI d)) (cE u)) 10 := sumTo_cg (fun t ht => by
    unfold fTs pCnt
    by_cases c : t ≤ d
    · rw [if_pos c, sumTo_0 (fun j _ => if_pos c)]
    · rw [if_neg c, sumTo_mul]
      exact sumTo_cg (fun e he => (if_neg c).symm))
  rw [e1, sumTo_swap (fun t e => if t ≤ d then 0 else gCnt u (nI t) s (nI r) e * (nI t - nI d))]
  refine sumTo_cg (fun e he => ?_)
  unfold gTon
  by_cases c : u 6 e = nI r ∧ u 8 e = s
  · rw [if_pos c]
    obtain ⟨a, ha1, ha9, ea⟩ := (h2 e he).2.1
    have ew : pW u e = p0_ (nI a - nI d) := by
      unfold pW
      rw [c.1, nI_c (show r < 100000 by omega), ea, ed]
    rw [ew, ← str_key a (by omega) d hd]
    refine sumTo_cg (fun t ht => ?_)
    by_cases c2 : t ≤ d
    · rw [if_pos c2, if_pos c2]
    · rw [if_neg c2, if_neg c2]
      unfold gCnt
      rw [ea]
      by_cases c3 : nI a = nI t
      · rw [if_pos ⟨c, c3⟩, if_pos c3]
      · rw [if_neg (fun z => c3 z.2), if_neg c3]
  · rw [if_neg c]
    refine sumTo_0 (fun t ht => ?_)
    by_cases c2 : t ≤ d
    · rw [if_pos c2]
    · rw [if_neg c2]
      unfold gCnt
      rw [if_neg (fun z => c z.1), Int32.zero_mul]
/-- of one sign only -/
theorem one_hot {x y : Int32} : ∀ {n : Nat}, n < 100000 → (∃ s, s < n ∧ x = nI s) → sumTo (fun s => if x = nI s then y else 0) n = y
  | 0, _, ⟨s, hs, _⟩ => absurd hs (Nat.not_lt_zero s)
  | n + 1, hn, ⟨s, hs, e⟩ => by
    show sumTo (fun s => if x = nI s then y else 0) n + (if x = nI n then y else 0) = y
    by_cases c : s = n
    · rw [sumTo_0 (fun j hj => if_neg (fun z => by
        have := nI_inj (a := s) (b := j) (by omega) (by omega) (e.symm.trans z)
        omega)), if_pos (by rw [e, c]), Int32.zero_add]
    · rw [one_hot (n := n) (by omega) ⟨s, by omega, e⟩, if_neg (fun z => c (nI_inj (by omega) (by omega) (e.symm.trans z))), Int32.add_zero]
theorem no_hot {y : Int32} {n : Nat} (hn : n < 100000) : sumTo (fun s => if (-1 : Int32) = nI s then y else 0) n = 0 :=
  sumTo_0 (fun j hj => if_neg (fun z => nI_nm (show j < 100000 by omega) z.symm))
theorem held_all {n : Nat} {u : pU} (hI : Inv n u) : sumTo (fun j => pHd u (nI j)) (cS u) = sumTo (gDp u) (cE u) := by
  obtain ⟨hc, h1, h2, -⟩ := hI
  have hb := hc.2.2.2
  unfold pHd
  rw [sumTo_swap (fun s e => gHd u (nI s) e)]
  refine sumTo_cg (fun e he => ?_)
  unfold gHd gDp
  rcases (h2 e he).2.2 with z | z
  · rw [z.1, if_pos rfl]
    exact no_hot (by omega)
  · obtain ⟨s, hs, es⟩ := z.1
    rw [one_hot (by omega) ⟨s, hs, es⟩, es, if_neg (nI_nm (by omega))]
theorem let_all {n : Nat} {u : pU} (hI : Inv n u) : sumTo (fun j => pLt u (nI j)) (cS u) = u 5 0 - pLt u (-1) := by
  obtain ⟨hc, h1, h2, -⟩ := hI
  have hb := hc.2.2.2
  have key : sumTo (fun j => pLt u (nI j)) (cS u) + pLt u (-1) = nI (cE u) := by
    unfold pLt
    rw [sumTo_swap (fun s e => gLt u (nI s) e), ← sumTo_add]
    have e1 : ∀ m, m ≤ cE u → sumTo (fun e => sumTo (fun s => gLt u (nI s) e) (cS u) + gLt u (-1) e) m = nI m := by
      intro m
      induction m with
      | zero => intro _; rfl
      | succ m ih =>
        intro hm
        show sumTo _ m + (sumTo (fun s => gLt u (nI s) m) (cS u) + gLt u (-1) m) = _
        rw [ih (by omega)]
        have e2 : sumTo (fun s => gLt u (nI s) m) (cS u) + gLt u (-1) m = 1 := by
          unfold gLt
          rcases (h2 m (by omega)).2.2 with z | z
          · rw [z.1, if_pos rfl, no_hot (by omega), Int32.zero_add]
          · obtain ⟨s, hs, es⟩ := z.1
            rw [one_hot (by omega) ⟨s, hs, es⟩, es, if_neg (nI_nm (by omega)), Int32.add_zero]
        rw [e2, nI_1]
    exact e1 (cE u) (Nat.le_refl _)
  rw [hc.2.1.1, ← key, Int32.add_sub_cancel]
/-! verses: by a maximum of naturals -/
def mxN (u : pU) (s r : Int32) : Nat → Nat
  | 0 => 0
  | e + 1 => if u 6 e = r ∧ u 8 e = s then Nat.max (mxN u s r e) (Nat.min (tn (u 9 e)) (tn (pW u e))) else mxN u s r e
theorem mxN_s (u : pU) (s r : Int32) (e : Nat) : mxN u s r (e + 1) = if u 6 e = r ∧ u 8 e = s then Nat.max (mxN u s r e) (Nat.min (tn (u 9 e)) (tn (pW u e))) else mxN u s r e := rfl
theorem mm_key : ∀ a, a < 10 → ∀ b, b < 10 → ∀ c, c < 10 → mx_ (nI a) (mi_ (nI b) (nI c)) = nI (Nat.max a (Nat.min c b)) := by decide +kernel
theorem hr_rg {n : Nat} {u : pU} (hI : Inv n u) {e : Nat} (he : e < cE u) {s : Nat} (hs : s < 100000) (h8 : u 8 e = nI s) : ∃ l w : Nat, 1 ≤ l ∧ l ≤ 9 ∧ w ≤ 9 ∧ u 9 e = nI l ∧ pW u e = nI w := by
  obtain ⟨hc, h1, h2, -⟩ := hI
  obtain ⟨w, -, hw, ew⟩ := pw_R (n := n) h1 h2 he hc.1.2
  rcases (h2 e he).2.2 with z | z
  · exact absurd (h8.symm.trans z.1) (nI_nm hs)
  · obtain ⟨l, l1, l9, el⟩ := z.2
    exact ⟨l, w, l1, l9, hw, el, ew⟩
theorem mx_n {n : Nat} {u : pU} (hI : Inv n u) {s : Nat} (hs : s < 100000) (r : Int32) : ∀ e, e ≤ cE u → mxE u (nI s) r e = nI (mxN u (nI s) r e) ∧ mxN u (nI s) r e ≤ 9
  | 0, _ => ⟨rfl, (by decide : 0 ≤ 9)⟩
  | e + 1, he => by
    obtain ⟨i1, i2⟩ := mx_n hI hs r e (by omega)
    show (if _ then _ else _ : Int32) = nI (if _ then _ else _) ∧ (if _ then _ else _) ≤ 9
    by_cases c : u 6 e = r ∧ u 8 e = nI s
    · obtain ⟨l, w, l1, l9, w9, el, ew⟩ := hr_rg hI (e := e) (by omega) hs c.2
      rw [if_pos c, if_pos c, i1, el, ew, mm_key _ (by omega) w (by omega) l (by omega), tn_c (by omega), tn_c (by omega)]
      refine ⟨rfl, ?_⟩
      have h1 : Nat.min l w ≤ w := Nat.min_le_right l w
      exact Nat.max_le.mpr ⟨i2, by omega⟩
    · rw [if_neg c, if_neg c]
      exact ⟨i1, i2⟩
theorem dm_key : ∀ d, d < 10 → ∀ k, k < 10 → (if nI d + nI k < 9 then nI d + nI k else 9) = nI (Nat.min 9 (d + k)) := by decide +kernel
theorem tr_key : ∀ a, a < 10 → ∀ m, m < 10 → p0_ (nI a - nI m) = nI (a - m) := by decide +kernel
theorem ti_mx {n : Nat} {u : pU} (hI : Inv n u) {r : Nat} (hr : r < cR u) {s : Nat} (hs : s < 100000) {k : Nat} (hk : k < 10) : ∀ e, e ≤ cE u → ∃ S, sumTo (gTI u (nI s) (nI r) (nI k) (pDm u (nI r) (nI k))) e = nI S ∧ S ≤ 9 * e ∧ (0 < S ↔ k < mxN u (nI s) (nI r) e)
  | 0, _ => ⟨0, rfl, by omega, by show 0 < 0 ↔ k < 0; omega⟩
  | e + 1, he => by
    obtain ⟨S, i1, i2, i3⟩ := ti_mx hI hr hs hk e (by omega)
    have hb := hI.1.1.2
    obtain ⟨d, -, hd, ed⟩ := (hI.2.1 r hr).2
    have er := nI_c (show r < 100000 by omega)
    have eD : pDm u (nI r) (nI k) = nI (Nat.min 9 (d + k)) := by
      unfold pDm
      rw [er, ed]
      exact dm_key d (by omega) k hk
    show ∃ S, sumTo _ e + gTI u (nI s) (nI r) (nI k) (pDm u (nI r) (nI k)) e = nI S ∧ S ≤ 9 * (e + 1) ∧ (0 < S ↔ k < mxN u (nI s) (nI r) (e + 1))
    rw [i1, mxN_s]
    by_cases c : u 6 e = nI r ∧ u 8 e = nI s
    · obtain ⟨l, w, l1, l9, w9, el, ew⟩ := hr_rg hI (e := e) (by omega) hs c.2
      obtain ⟨a, a1, a9, ea⟩ := (hI.2.2.1 e (by omega)).2.1
      have ewa : w = a - d := by
        unfold pW at ew
        rw [c.1, er, ea, ed, tr_key a (by omega) d (by omega)] at ew
        exact (nI_inj (by omega) (by omega) ew).symm
      rw [if_pos c, el, ew, tn_c (by omega), tn_c (by omega)]
      have hmn : Nat.min l w = if l ≤ w then l else w := rfl
      by_cases c2 : u 9 e ≤ nI k
      · have c3 : l ≤ k := by
          rw [el, nI_leI (by omega) (by omega)] at c2
          exact c2
        refine ⟨S, ?_, by omega, ?_⟩
        · unfold gTI
          rw [if_neg (fun z => z.2 c2), Int32.add_zero]
        · rw [i3]
          have : Nat.min l w ≤ k := by rw [hmn]; split <;> omega
          have h1 := Nat.le_max_left (mxN u (nI s) (nI r) e) (Nat.min l w)
          constructor
          · intro z
            exact Nat.lt_of_lt_of_le z h1
          · intro z
            rcases Nat.lt_or_ge k (mxN u (nI s) (nI r) e) with q | q
            · exact q
            · exact absurd z (Nat.not_lt.mpr (Nat.max_le.mpr ⟨q, this⟩))
      · have c3 : ¬ l ≤ k := fun z => c2 (by rw [el, nI_leI (by omega) (by omega)]; exact z)
        have et : gTI u (nI s) (nI r) (nI k) (pDm u (nI r) (nI k)) e = nI (a - Nat.min 9 (d + k)) := by
          unfold gTI
          rw [if_pos ⟨c, c2⟩, ea, eD]
          have h9 : Nat.min 9 (d + k) ≤ 9 := Nat.min_le_left 9 (d + k)
          exact tr_key a (by omega) _ (by omega)
        have hm9 : Nat.min 9 (d + k) = if 9 ≤ d + k then 9 else d + k := rfl
        refine ⟨S + (a - Nat.min 9 (d + k)), by rw [et, nI_add], by omega, ?_⟩
        have hpos : 0 < a - Nat.min 9 (d + k) ↔ k < Nat.min l w := by
          rw [hm9, hmn]
          split <;> split <;> omega
        constructor
        · intro z
          rcases Nat.eq_zero_or_pos S with q | q
          · have := hpos.mp (by omega)
            exact Nat.lt_of_lt_of_le this (Nat.le_max_right _ _)
          · exact Nat.lt_of_lt_of_le (i3.mp q) (Nat.le_max_left _ _)
        · intro z
          rcases Nat.lt_or_ge k (mxN u (nI s) (nI r) e) with q | q
          · have := i3.mpr q
            omega
          · rcases Nat.lt_or_ge k (Nat.min l w) with q2 | q2
            · have := hpos.mpr q2
              omega
            · exact absurd z (Nat.not_lt.mpr (Nat.max_le.mpr ⟨q, q2⟩))
    · refine ⟨S, ?_, by omega, ?_⟩
      · unfold gTI
        rw [if_neg (fun z => c z.1), Int32.add_zero]
      · rw [if_neg c]
        exact i3
/-- how many verses bring tones -/
def nV (u : pU) (s r : Nat) : Nat := mxN u (nI s) (nI r) (cE u)
theorem nV_9 {n : Nat} {u : pU} (hI : Inv n u) {s : Nat} (hs : s < 100000) (r : Nat) : nV u s r ≤ 9 := (mx_n hI hs (nI r) (cE u) (Nat.le_refl _)).2
theorem nV_lt {n : Nat} {u : pU} (hI : Inv n u) {r : Nat} (hr : r < cR u) {s : Nat} (hs : s < 100000) {k : Nat} (hk : k < nV u s r) : ¬ pTI u (nI s) (nI r) (nI k) ≤ 0 := by
  have h9 := nV_9 hI hs r
  obtain ⟨S, e, h1, h2⟩ := ti_mx hI hr hs (k := k) (by omega) (cE u) (Nat.le_refl _)
  have hb := hI.1.2.1.2
  unfold pTI
  rw [e]
  exact nI_nle (h2.mpr hk) (by omega)
theorem nV_eq {n : Nat} {u : pU} (hI : Inv n u) {r : Nat} (hr : r < cR u) {s : Nat} (hs : s < 100000) : pTI u (nI s) (nI r) (nI (nV u s r)) ≤ 0 := by
  have h9 := nV_9 hI hs r
  obtain ⟨S, e, h1, h2⟩ := ti_mx hI hr hs (k := nV u s r) (by omega) (cE u) (Nat.le_refl _)
  have h0 : S = 0 := by
    rcases Nat.eq_zero_or_pos S with z | z
    · exact z
    · exact absurd (h2.mp z) (Nat.lt_irrefl _)
  unfold pTI
  rw [e, h0]
  decide
section TON
variable {q : aS} {u : pU} {P : Int32 → aS → Prop} {n : Nat}
theorem x_tonesByStrength (h : RX 1 q.1 u) (hI : Inv n u) {i r : Nat} (hi : i < 6) (hr : r < cR u) (er : u 14 i = nI r) (k : P (pTon u (nI i) (nI r)) q) : w_X8_tonesByStrength (nI i) q P := by
  have hc := hI.1
  have hb := hc.1.2
  have hr6 : r < 6 := by omega
  obtain ⟨d, -, hd, ed⟩ := (hI.2.1 r hr).2
  have erc := nI_c (show r < 100000 by omega)
  have vr : vp_in (nI r) 6 := vp_in_nI hr6 (by decide)
  unfold w_X8_tonesByStrength
  rw [nI_c (show i < 100000 by omega), rx_15 h hi, er]
  refine ⟨vp_in_nI hi (by decide), ?_⟩
  intro x2 e2
  subst e2
  rw [erc, rx_4 h hr6, ed, nI_1]
  refine ⟨vr, ?_⟩
  intro x3 e3
  subst e3
  rw [← ts_ton hI hr (nI i) (d := d) (by omega) ed] at k
  have hz : sumTo (fTs u (nI i) (nI r) d) (d + 1) = 0 := sumTo_0 (fun j hj => if_pos (by omega))
  rw [← hz]
  refine lp_k (fun m v t => LX8_tonesByStrength_25 (nI i) (nI r) P _ m v t q) (fun t v => v = sumTo (fTs u (nI i) (nI r) d) t ∧ d + 1 ≤ t) 10 (d + 1) (by omega) _ ⟨rfl, Nat.le_refl _⟩ (fun m v hv => ?_) (fun m v0 v hj hv hk => ?_)
  · obtain ⟨rfl, -⟩ := hv
    have hlt : (9 : Int32) < nI 10 := by decide +kernel
    simp only [LX8_tonesByStrength_25, hlt, false_implies, not_true_eq_false, true_implies, and_true]
    exact k
  · obtain ⟨rfl, hd1⟩ := hv
    have hlt : ¬ (9 : Int32) < nI v0 := nI_nlt (a := 9) (by omega) (by omega)
    simp only [LX8_tonesByStrength_25, hlt, false_implies, not_false_eq_true, true_implies, true_and]
    refine x_countHeardOf h hc _ _ _ ⟨vr, ?_⟩
    intro x6 e6 x7 e7
    rw [nI_1] at e7
    rw [erc, rx_4 h hr6, ed] at e6
    subst e6 e7
    refine hk _ ⟨?_, by omega⟩
    show _ = sumTo _ v0 + fTs u (nI i) (nI r) d v0
    unfold fTs
    rw [if_neg (show ¬ v0 ≤ d by omega)]
theorem x_versesInThought (h : RX 1 q.1 u) (hI : Inv n u) {i r : Nat} (hi : i < 6) (hr : r < cR u) (er : u 14 i = nI r) (k : P (nI (nV u i r)) q) : w_X8_versesInThought (nI i) q P := by
  have hc := hI.1
  have hb := hc.1.2
  have h9 := nV_9 hI (show i < 100000 by omega) r
  unfold w_X8_versesInThought
  refine lp_0 (fun m (_ : Unit) t => LX8_versesInThought_2 (nI i) P _ m t q) (fun _ _ => True) (nV u i r) () trivial (fun m v hv => ?_) (fun m j v hj hv hk => ?_)
  · rw [LX8_versesInThought_2]
    refine ⟨fun _ => k, fun _ => x_tonesAfter h hc hi (by omega) er _ ⟨fun _ => k, fun z => absurd (nV_eq hI hr (by omega)) z⟩⟩
  · have hlt : ¬ (9 : Int32) ≤ nI j := nI_ge (b := 9) (by omega) (by omega)
    rw [LX8_versesInThought_2]
    refine ⟨fun z => absurd z hlt, fun _ => x_tonesAfter h hc hi (by omega) er _ ⟨fun z => absurd z (nV_lt hI hr (by omega) hj), fun _ => ?_⟩⟩
    intro x4 e4
    rw [nI_1] at e4
    subst e4
    exact hk () trivial
theorem x_versesByEcho2 (h : RX 1 q.1 u) (hI : Inv n u) {i r : Nat} (hi : i < 6) (er : u 14 i = nI r) (k : P (nI (nV u i r)) q) : w_X8_versesByEcho (nI i) q P := by
  refine x_versesByEcho h hI.1 hI.ech hi ?_
  rw [er, (mx_n hI (show i < 100000 by omega) (nI r) (cE u) (Nat.le_refl _)).1]
  exact k
/-- the check that a singer is in a room, on both sides -/
theorem x_inside (h : RX 1 q.1 u) (hI : Inv n u) (x : Int32) {X : String → aS → Prop} (b1 : (x < 0 ∨ nI (cS u) ≤ x) → X "java/lang/IndexOutOfBoundsException" q) (b2 : ∀ i, i < cS u → x = nI i → u 14 i = -1 → X "java/util/NoSuchElementException" q) (ok : ∀ i r, i < cS u → x = nI i → r < cR u → u 14 i = nI r → P 0 q) : w_X9_checkSingerInside x q P X := by
  have hb := hI.1.2.2.2
  unfold w_X9_checkSingerInside w_X9_checkSinger
  refine x_hasSinger h hI.1 x (fun c => ⟨fun z => absurd rfl z, fun _ => b1 c⟩) (fun i hi e => ⟨fun _ => ?_, fun z => absurd z i10⟩)
  subst e
  refine x_isInside h (by omega) (fun c => ⟨fun z => absurd rfl z, fun _ => b2 i hi rfl c⟩) (fun c => ⟨fun _ => ?_, fun z => absurd z i10⟩)
  obtain ⟨r, hr, er⟩ := ((hI.2.2.2.1 i hi).2.2.1).resolve_left c
  exact ok i r hi rfl hr er
end TON
section ASK3
variable {s : Nat} {q : aS} {dM : pU}
/-- the best room among the first ones -/
def bst (u : pU) (s : Int32) : Nat → Nat
  | 0 => 0
  | j + 1 => if j = 0 then 0 else if pTon u s (nI j) ≤ pTon u s (nI (bst u s j)) then bst u s j else j
theorem bst_lt (u : pU) (s : Int32) : ∀ j, 1 ≤ j → bst u s j < j
  | 0, h => absurd h (by decide)
  | j + 1, _ => by
    show (if j = 0 then 0 else if pTon u s (nI j) ≤ pTon u s (nI (bst u s j)) then bst u s j else j) < j + 1
    by_cases c : j = 0
    · rw [if_pos c]
      omega
    · rw [if_neg c]
      have h := bst_lt u s j (by omega)
      split <;> omega
end ASK3

/-! .. behind back, sing and night -/
theorem pw_R {n : Nat} {u : pU} (h1 : IvR u) (h2 : IvE u) {e : Nat} (he : e < cE u) (hb : cR u ≤ 6) : Rg (pW u e) 0 9 := by
  obtain ⟨⟨r, hr, er⟩, ⟨a, ha1, ha2, ea⟩, -⟩ := h2 e he
  obtain ⟨-, d, hd1, hd2, ed⟩ := h1 r hr
  unfold pW
  rw [er, nI_c (show r < 100000 by omega), ea, ed]
  have key : ∀ a, a < 10 → ∀ d, d < 10 → p0_ (nI a - nI d) = nI (a - d) := by decide +kernel
  rw [key a (by omega) d (by omega)]
  exact ⟨a - d, by omega, by omega, rfl⟩
theorem mi_R {x b : Nat} (hx : x < 100000) (hb : b < 100000) : Rg (mi_ (nI x) (nI b)) 0 b := by
  unfold mi_
  by_cases c : nI x < nI b
  · rw [if_pos c]
    rw [nI_ltI (by omega) (by omega)] at c
    exact ⟨x, by omega, by omega, rfl⟩
  · rw [if_neg c]
    exact ⟨b, by omega, by omega, rfl⟩
/-- all but what the reference counts beside the state -/
def Iv0 (n : Nat) (u : pU) : Prop := Cnt u ∧ IvR u ∧ IvE u ∧ IvS n u ∧ IvZ u ∧ IvD u
section INV2
variable {u : pU} {n : Nat}
theorem st_at0 (j : Nat) {s : Nat} (es : u 8 j = nI s) (hs : s < 100000) :
    (∀ m, pSt u j 13 m = if m = s then mi_ (u 13 s + pW u j) 99 else u 13 m) ∧ (∀ m, pSt u j 8 m = if m = j then -1 else u 8 m) ∧ (∀ m, pSt u j 9 m = if m = j then 0 else u 9 m) ∧ pSt u j 0 4 = u 0 4 ∧ pSt u j 0 5 = u 0 5 + pW u j ∧ pSt u j 0 6 = u 0 6 + (u 7 j - pW u j) ∧ pSt u j 0 7 = u 0 7 ∧ pSt u j 0 8 = u 0 8 := by
  unfold pSt
  rw [es, tn_c hs]
  refine ⟨fun m => ?_, fun m => ?_, fun m => ?_, ?_, ?_, ?_, ?_, ?_⟩
  · rw [up2_ne _ _ _ (by decide), up2_ne _ _ _ (by decide), up2_ne _ _ _ (by decide), up2_ne _ _ _ (by decide), up2_row]
    rfl
  · rw [up2_ne _ _ _ (by decide), up2_row, upd_at, up2_ne _ _ _ (by decide), up2_ne _ _ _ (by decide), up2_ne _ _ _ (by decide)]
  · rw [up2_row, upd_at, up2_ne _ _ _ (by decide), up2_ne _ _ _ (by decide), up2_ne _ _ _ (by decide), up2_ne _ _ _ (by decide)]
  all_goals
    rw [up2_ne _ _ _ (by decide), up2_ne _ _ _ (by decide), up2_at, up2_at]
    simp (decide := true) only [up2_ne, and_self, if_true, if_false, and_false, true_and]
/-- one echo's letting ends; left: its verses may be anything before -/
theorem v_St (hc : Cnt u) (h1 : IvR u) (h3 : IvS n u) (h4 : IvZ u) (h5 : IvD u) {j s : Nat} (hj : j < cE u) (hs : s < cS u) (es : u 8 j = nI s) (h2 : ∀ m, m < cE u → (∃ r, r < cR u ∧ u 6 m = nI r) ∧ Rg (u 7 m) 1 9 ∧ (m ≠ j → (u 8 m = -1 ∧ u 9 m = 0) ∨ ((∃ s, s < cS u ∧ u 8 m = nI s) ∧ Rg (u 9 m) 1 9))) (hw : Rg (pW u j) 0 9) : Iv0 n (pSt u j) := by
  have hb3 := hc.2.2.2
  obtain ⟨e13, e8, e9, e04, e05, e06, -, -⟩ := st_at0 (u := u) j es (by omega)
  have hsC := sC_St u j
  have row : ∀ k, k ≠ 13 ∧ k ≠ 0 ∧ k ≠ 8 ∧ k ≠ 9 → pSt u j k = u k := fun k q => st_row u j q
  generalize pSt u j = w at *
  refine ⟨hsC.cnt hc, h1.row hsC.R (row 2 (by decide)) (row 3 (by decide)), ?_, ?_, ?_, ?_⟩
  · intro m hm
    rw [hsC.E] at hm
    rw [row 6 (by decide), row 7 (by decide), e8, e9, hsC.R, hsC.S]
    obtain ⟨a, b, d⟩ := h2 m hm
    refine ⟨a, b, ?_⟩
    by_cases q : m = j
    · rw [if_pos q, if_pos q]
      exact Or.inl ⟨rfl, rfl⟩
    · rw [if_neg q, if_neg q]
      exact d q
  · intro m hm
    rw [hsC.S] at hm
    rw [row 12 (by decide), row 14 (by decide), row 15 (by decide), row 16 (by decide), e13, hsC.R]
    obtain ⟨a, b, d, e, f⟩ := h3 m hm
    refine ⟨a, ?_, d, e, f⟩
    by_cases q : m = s
    · rw [if_pos q]
      obtain ⟨x, -, hx, ex⟩ := (h3 s hs).2.1
      obtain ⟨y, -, hy, ey⟩ := hw
      rw [ex, ey, nI_add]
      exact mi_R (b := 99) (by omega) (by omega)
    · rw [if_neg q]
      exact b
  · refine ⟨fun m q1 q2 => ?_, fun m q1 q2 => ?_, fun m q1 q2 => ?_⟩
    · rw [row 3 (by decide), row 4 (by decide)]
      exact h4.1 m (by rw [← hsC.R]; exact q1) q2
    · rw [hsC.E] at q1
      rw [row 10 (by decide), e9, if_neg (show ¬ m = j by omega)]
      exact h4.2.1 m q1 q2
    · rw [row 15 (by decide), row 16 (by decide)]
      exact h4.2.2 m (by rw [← hsC.S]; exact q1) q2
  · unfold IvD at h5 ⊢
    have g : sumTo (gDp u) (cE u) = sumTo (gDp w) (cE u) + u 7 j := sumTo_up (k := j) (by
      unfold gDp
      rw [e8, if_pos (show j = j from rfl), if_pos (show (-1 : Int32) = -1 from rfl), es, if_neg (nI_nm (show s < 100000 by omega)), Int32.zero_add]) hj (fun m hm q => by
      unfold gDp
      rw [e8, if_neg q, row 7 (by decide)])
    rw [hsC.E, e04, e05, e06, h5, g]
    grind
theorem v_D7 (hI : Inv n u) (a b : Int32) (hr : (pR7 a b u).1 = 0) : Inv n (pD7 b u).2 := by
  obtain ⟨hc, h1, h2, h3, h4, h5, h6⟩ := hI
  have hb2 := hc.2.1.2
  have hb3 := hc.2.2.2
  have ca : ¬ (a < 0 ∨ nI (cS u) ≤ a) := fun z => by rw [pR7, if_pos z] at hr; exact no_ hr (by decide)
  have cb : ¬ (b < 0 ∨ nI (cE u) ≤ b) := fun z => by rw [pR7, if_neg ca, if_pos z] at hr; exact no_ hr (by decide)
  obtain ⟨i, hi, rfl⟩ := has_of (by omega) (fun z => ca (Or.inl z)) (fun z => ca (Or.inr z))
  obtain ⟨j, hj, rfl⟩ := has_of (by omega) (fun z => cb (Or.inl z)) (fun z => cb (Or.inr z))
  have tj := tn_c (show j < 100000 by omega)
  have c1 : u 8 j = nI i := Classical.byContradiction fun z => by rw [pR7, if_neg ca, if_neg cb, tj, if_pos z] at hr; exact no_ hr (by decide)
  have eD : (pD7 (nI j) u).2 = pSt u j := by
    unfold pD7
    rw [tj]
  rw [eD]
  obtain ⟨-, -, -, -, -, -, e07, e08⟩ := st_at0 (u := u) j c1 (by omega)
  obtain ⟨g1, g2, g3, g4, g5, g6⟩ := v_St hc h1 h3 h4 h5 hj hi c1 (fun m hm => ⟨(h2 m hm).1, (h2 m hm).2.1, fun _ => (h2 m hm).2.2⟩) (pw_R (n := n) h1 h2 hj hc.1.2)
  exact ⟨g1, g2, g3, g4, g5, g6, h6.row e07 e08 (st_row u j (by decide)) (st_row u j (by decide))⟩
/-- a verse of one echo -/
theorem v_V1 (hI : Iv0 n u) {j s : Nat} (hj : j < cE u) (hs : s < cS u) (es : u 8 j = nI s) : Iv0 n (pV1 u j) ∧ pV1 u j 0 7 = u 0 7 ∧ pV1 u j 0 8 = u 0 8 ∧ sumTo (pV1 u j 10) 8 = sumTo (u 10) 8 + pW u j := by
  obtain ⟨hc, h1, h2, h3, h4, h5⟩ := hI
  have hb2 := hc.2.1.2
  have hb3 := hc.2.2.2
  have hw := pw_R (n := n) h1 h2 hj hc.1.2
  obtain ⟨l, hl1, hl9, el⟩ : Rg (u 9 j) 1 9 := by
    rcases (h2 j hj).2.2 with z | z
    · exact absurd (es.symm.trans z.1) (nI_nm (by omega))
    · exact z.2
  have hsC : sC u (up2 (up2 u 10 j (u 10 j + pW u j)) 9 j (u 9 j - 1)) := ((sC.rf u).up (i := 10) (by decide) _ _).up (i := 9) (by decide) _ _
  have row : ∀ k, k ≠ 9 ∧ k ≠ 10 → up2 (up2 u 10 j (u 10 j + pW u j)) 9 j (u 9 j - 1) k = u k := fun k q => by
    rw [up2_ne _ _ _ q.1, up2_ne _ _ _ q.2]
  have e9 : ∀ m, up2 (up2 u 10 j (u 10 j + pW u j)) 9 j (u 9 j - 1) 9 m = if m = j then u 9 j - 1 else u 9 m := fun m => by
    rw [up2_row, upd_at, up2_ne _ _ _ (by decide)]
  have e10 : ∀ m, up2 (up2 u 10 j (u 10 j + pW u j)) 9 j (u 9 j - 1) 10 m = if m = j then u 10 j + pW u j else u 10 m := fun m => by
    rw [up2_ne _ _ _ (by decide), up2_row]
    rfl
  have hV : pV1 u j = if u 9 j - 1 = 0 then pSt (up2 (up2 u 10 j (u 10 j + pW u j)) 9 j (u 9 j - 1)) j else up2 (up2 u 10 j (u 10 j + pW u j)) 9 j (u 9 j - 1) := rfl
  generalize up2 (up2 u 10 j (u 10 j + pW u j)) 9 j (u 9 j - 1) = w at *
  have hsum : sumTo (w 10) 8 = sumTo (u 10) 8 + pW u j := sumTo_up (k := j) (by rw [e10, if_pos (show j = j from rfl)]) (by omega) (fun m hm q => by rw [e10, if_neg q])
  have hc' := hsC.cnt hc
  have h1' : IvR w := h1.row hsC.R (row 2 (by decide)) (row 3 (by decide))
  have h3' : IvS n w := h3.row hsC.S (Nat.le_of_eq hsC.R.symm) (row 12 (by decide)) (row 13 (by decide)) (row 14 (by decide)) (row 15 (by decide)) (row 16 (by decide))
  have h4' : IvZ w := by
    refine ⟨fun m q1 q2 => ?_, fun m q1 q2 => ?_, fun m q1 q2 => ?_⟩
    · rw [row 3 (by decide), row 4 (by decide)]
      exact h4.1 m (by rw [← hsC.R]; exact q1) q2
    · rw [hsC.E] at q1
      rw [e10, e9, if_neg (show ¬ m = j by omega), if_neg (show ¬ m = j by omega)]
      exact h4.2.1 m q1 q2
    · rw [row 15 (by decide), row 16 (by decide)]
      exact h4.2.2 m (by rw [← hsC.S]; exact q1) q2
  have h5' : IvD w := h5.row hsC.E (by rw [row 0 (by decide)]; exact ⟨rfl, rfl, rfl⟩) (row 7 (by decide)) (row 8 (by decide))
  have es' : w 8 j = nI s := by rw [row 8 (by decide)]; exact es
  have hWw : pW w j = pW u j := by
    unfold pW
    rw [row 7 (by decide), row 3 (by decide), row 6 (by decide)]
  by_cases c : u 9 j - 1 = 0
  · rw [hV, if_pos c]
    obtain ⟨-, -, -, -, -, -, e07, e08⟩ := st_at0 (u := w) j es' (by omega)
    refine ⟨v_St hc' h1' h3' h4' h5' (by rw [hsC.E]; exact hj) (by rw [hsC.S]; exact hs) es' (fun m hm => ?_) (by rw [hWw]; exact hw), by rw [e07, row 0 (by decide)], by rw [e08, row 0 (by decide)], by rw [st_row w j (by decide)]; exact hsum⟩
    rw [hsC.E] at hm
    rw [row 6 (by decide), row 7 (by decide), row 8 (by decide), hsC.R, hsC.S, e9]
    obtain ⟨a, b, d⟩ := h2 m hm
    exact ⟨a, b, fun q => by rw [if_neg q]; exact d⟩
  · rw [hV, if_neg c]
    refine ⟨⟨hc', h1', ?_, h3', h4', h5'⟩, by rw [row 0 (by decide)], by rw [row 0 (by decide)], hsum⟩
    intro m hm
    rw [hsC.E] at hm
    rw [row 6 (by decide), row 7 (by decide), row 8 (by decide), hsC.R, hsC.S, e9]
    obtain ⟨a, b, d⟩ := h2 m hm
    refine ⟨a, b, ?_⟩
    by_cases q : m = j
    · rw [if_pos q]
      subst q
      refine Or.inr ⟨⟨s, hs, es⟩, ?_⟩
      rw [el] at c ⊢
      obtain ⟨l', rfl⟩ : ∃ l', l = l' + 1 := ⟨l - 1, by omega⟩
      rw [nI_pred] at c ⊢
      refine ⟨l', ?_, by omega, rfl⟩
      rcases Nat.eq_zero_or_pos l' with z | z
      · exact absurd (by rw [z]; rfl) c
      · exact z
    · rw [if_neg q]
      exact d
theorem v_Vs (hI : Iv0 n u) {i : Nat} (hi : i < cS u) (x : Int32) : ∀ e, e ≤ cE u → Iv0 n (pVs (nI i) x u e).2 ∧ (pVs (nI i) x u e).2 0 7 = u 0 7 ∧ (pVs (nI i) x u e).2 0 8 = u 0 8 ∧ sumTo ((pVs (nI i) x u e).2 10) 8 = sumTo (u 10) 8 + (pVs (nI i) x u e).1 ∧ Rg (pVs (nI i) x u e).1 0 (9 * e)
  | 0, _ => ⟨hI, rfl, rfl, by show _ = _ + (0 : Int32); rw [Int32.add_zero]; rfl, ⟨0, by omega, by omega, rfl⟩⟩
  | e + 1, he => by
    obtain ⟨g1, g2, g3, g4, g5⟩ := v_Vs hI hi x e (by omega)
    by_cases c : (pVs (nI i) x u e).2 6 e = x ∧ (pVs (nI i) x u e).2 8 e = nI i
    · have ee : pVs (nI i) x u (e + 1) = ((pVs (nI i) x u e).1 + pW (pVs (nI i) x u e).2 e, pV1 (pVs (nI i) x u e).2 e) := if_pos c
      have hs := sC_Vs (nI i) x u e
      have hje : e < cE (pVs (nI i) x u e).2 := by rw [hs.E]; omega
      obtain ⟨k1, k2, k3, k4⟩ := v_V1 g1 hje (s := i) (by rw [hs.S]; exact hi) c.2
      obtain ⟨y, -, hy, ey⟩ := g5
      obtain ⟨z, -, hz, ez⟩ := pw_R (n := n) g1.2.1 g1.2.2.1 hje g1.1.1.2
      rw [ee]
      refine ⟨k1, k2.trans g2, k3.trans g3, ?_, ?_⟩
      · show sumTo (pV1 (pVs (nI i) x u e).2 e 10) 8 = sumTo (u 10) 8 + ((pVs (nI i) x u e).1 + pW (pVs (nI i) x u e).2 e)
        rw [k4, g4, Int32.add_assoc]
      · show Rg ((pVs (nI i) x u e).1 + pW (pVs (nI i) x u e).2 e) 0 _
        rw [ey, ez, nI_add]
        exact ⟨y + z, by omega, by omega, rfl⟩
    · have ee : pVs (nI i) x u (e + 1) = pVs (nI i) x u e := if_neg c
      rw [ee]
      exact ⟨g1, g2, g3, g4, g5.wd (by omega)⟩
theorem v_D8 (hI : Inv n u) (a : Int32) (hr : (pR8 a u).1 = 0) : Inv (n + 1) (pSing u (tn a)).2 := by
  obtain ⟨hc, h1, h2, h3, h4, h5, h6⟩ := hI
  have hb := hc.1.2
  have hb2 := hc.2.1.2
  have hb3 := hc.2.2.2
  have ca : ¬ (a < 0 ∨ nI (cS u) ≤ a) := fun z => by rw [pR8, if_pos z] at hr; exact no_ hr (by decide)
  obtain ⟨i, hi, rfl⟩ := has_of (by omega) (fun z => ca (Or.inl z)) (fun z => ca (Or.inr z))
  have ti := tn_c (show i < 100000 by omega)
  have c1 : ¬ u 14 i = -1 := fun z => by rw [pR8, if_neg ca, ti, if_pos z] at hr; exact no_ hr (by decide)
  have c2 : ¬ u 13 i < 1 := fun z => by rw [pR8, if_neg ca, ti, if_neg c1, if_pos z] at hr; exact no_ hr (by decide)
  obtain ⟨r, hr0, er⟩ := ((h3 i hi).2.2.1).resolve_left c1
  rw [ti]
  have hs0 : sC u (up2 u 13 i (u 13 i - 1)) := (sC.rf u).up (by decide) _ _
  have row0 : ∀ k, k ≠ 13 → up2 u 13 i (u 13 i - 1) k = u k := fun k q => up2_ne _ _ _ q
  have e13 : ∀ m, up2 u 13 i (u 13 i - 1) 13 m = if m = i then u 13 i - 1 else u 13 m := fun m => by
    rw [up2_row]
    rfl
  have hP : (pSing u i).2 = pEnd i r (pVs (nI i) (nI r) (up2 u 13 i (u 13 i - 1)) (cE u)).1 (pVs (nI i) (nI r) (up2 u 13 i (u 13 i - 1)) (cE u)).2 := by
    unfold pSing
    rw [er, tn_c (show r < 100000 by omega)]
  rw [hP]
  generalize up2 u 13 i (u 13 i - 1) = v at *
  have hv : Iv0 n v := by
    refine ⟨hs0.cnt hc, h1.row hs0.R (row0 2 (by decide)) (row0 3 (by decide)), h2.row hs0.E (Nat.le_of_eq hs0.R.symm) (Nat.le_of_eq hs0.S.symm) (row0 6 (by decide)) (row0 7 (by decide)) (row0 8 (by decide)) (row0 9 (by decide)), ?_, h4.row (Nat.le_of_eq hs0.R.symm) (Nat.le_of_eq hs0.E.symm) (Nat.le_of_eq hs0.S.symm) (row0 3 (by decide)) (row0 4 (by decide)) (row0 9 (by decide)) (row0 10 (by decide)) (row0 15 (by decide)) (row0 16 (by decide)), h5.row hs0.E (by rw [row0 0 (by decide)]; exact ⟨rfl, rfl, rfl⟩) (row0 7 (by decide)) (row0 8 (by decide))⟩
    intro m hm
    rw [hs0.S] at hm
    obtain ⟨a, b, d, e, f⟩ := h3 m hm
    rw [row0 12 (by decide), row0 14 (by decide), row0 15 (by decide), row0 16 (by decide), e13, hs0.R]
    refine ⟨a, ?_, d, e, f⟩
    by_cases q : m = i
    · rw [if_pos q]
      obtain ⟨x, -, hx, ex⟩ := (h3 i hi).2.1
      rw [ex] at c2 ⊢
      have hx1 : ¬ x < 1 := fun z => c2 ((nI_ltI (a := x) (b := 1) (by omega) (by omega)).mpr z)
      obtain ⟨x', rfl⟩ : ∃ x', x = x' + 1 := ⟨x - 1, by omega⟩
      rw [nI_pred]
      exact ⟨x', by omega, by omega, rfl⟩
    · rw [if_neg q]
      exact b
  obtain ⟨⟨g1, g2, g3, g4, g5, g6⟩, k7, k8, k10, ky⟩ := v_Vs hv (i := i) (by rw [hs0.S]; exact hi) (nI r) (cE u) (Nat.le_of_eq hs0.E.symm)
  have k4 : (pVs (nI i) (nI r) v (cE u)).2 4 = u 4 := (vs_row _ _ _ (by decide) _).trans (row0 4 (by decide))
  have hsV := sC_Vs (nI i) (nI r) v (cE u)
  rw [row0 0 (by decide)] at k7 k8
  rw [row0 10 (by decide)] at k10
  generalize (pVs (nI i) (nI r) v (cE u)).1 = y at *
  generalize (pVs (nI i) (nI r) v (cE u)).2 = z at *
  have hsZ : sC u z := hs0.trans hsV
  have hiz : i < cS z := by rw [hsZ.S]; exact hi
  have hrz : r < cR z := by rw [hsZ.R]; exact hr0
  have hsE : sC z (pEnd i r y z) := ((((((sC.rf z).up (i := 15) (by decide) _ _).up (i := 16) (by decide) _ _).up (i := 4) (by decide) _ _).up (i := 3) (by decide) _ _).up (i := 0) (by decide) _ _).up (i := 0) (by decide) _ _
  have row : ∀ k, k ≠ 15 ∧ k ≠ 16 ∧ k ≠ 4 ∧ k ≠ 3 ∧ k ≠ 0 → pEnd i r y z k = z k := fun k q => by
    unfold pEnd
    rw [up2_ne _ _ _ q.2.2.2.2, up2_ne _ _ _ q.2.2.2.2, up2_ne _ _ _ q.2.2.2.1, up2_ne _ _ _ q.2.2.1, up2_ne _ _ _ q.2.1, up2_ne _ _ _ q.1]
  have f15 : ∀ m, pEnd i r y z 15 m = if m = i then z 15 i + 1 else z 15 m := fun m => by
    unfold pEnd
    rw [up2_ne _ _ _ (by decide), up2_ne _ _ _ (by decide), up2_ne _ _ _ (by decide), up2_ne _ _ _ (by decide), up2_ne _ _ _ (by decide), up2_row]
    rfl
  have f16 : ∀ m, pEnd i r y z 16 m = if m = i then z 16 i + y else z 16 m := fun m => by
    unfold pEnd
    rw [up2_ne _ _ _ (by decide), up2_ne _ _ _ (by decide), up2_ne _ _ _ (by decide), up2_ne _ _ _ (by decide), up2_row, upd_at, up2_ne _ _ _ (by decide)]
  have f4 : ∀ m, pEnd i r y z 4 m = if m = r then z 4 r + 1 else z 4 m := fun m => by
    unfold pEnd
    rw [up2_ne _ _ _ (by decide), up2_ne _ _ _ (by decide), up2_ne _ _ _ (by decide), up2_row, upd_at, up2_ne _ _ _ (by decide), up2_ne _ _ _ (by decide)]
  have f3 : ∀ m, pEnd i r y z 3 m = if m = r then mi_ (z 3 r + 1) 9 else z 3 m := fun m => by
    unfold pEnd
    rw [up2_ne _ _ _ (by decide), up2_ne _ _ _ (by decide), up2_row, upd_at, up2_ne _ _ _ (by decide), up2_ne _ _ _ (by decide), up2_ne _ _ _ (by decide)]
  have f0 : ∀ m, pEnd i r y z 0 m = if m = 8 then z 0 8 + y else if m = 7 then z 0 7 + 1 else z 0 m := fun m => by
    unfold pEnd
    rw [up2_row, upd_at, up2_row, upd_at, up2_ne _ _ _ (by decide), up2_ne _ _ _ (by decide), up2_ne _ _ _ (by decide), up2_ne _ _ _ (by decide)]
  generalize pEnd i r y z = w at *
  refine ⟨hsE.cnt g1, ?_, g3.row hsE.E (Nat.le_of_eq hsE.R.symm) (Nat.le_of_eq hsE.S.symm) (row 6 (by decide)) (row 7 (by decide)) (row 8 (by decide)) (row 9 (by decide)), ?_, ?_, g6.row hsE.E ⟨by rw [f0, if_neg (by decide), if_neg (by decide)], by rw [f0, if_neg (by decide), if_neg (by decide)], by rw [f0, if_neg (by decide), if_neg (by decide)]⟩ (row 7 (by decide)) (row 8 (by decide)), ?_, ?_⟩
  · intro m hm
    rw [hsE.R] at hm
    rw [row 2 (by decide), f3]
    refine ⟨(g2 m hm).1, ?_⟩
    by_cases q : m = r
    · rw [if_pos q]
      obtain ⟨x, -, hx, ex⟩ := (g2 r hrz).2
      rw [ex, nI_1]
      exact mi_R (b := 9) (by omega) (by omega)
    · rw [if_neg q]
      exact (g2 m hm).2
  · intro m hm
    rw [hsE.S] at hm
    obtain ⟨a, b, d, e, f⟩ := g4 m hm
    rw [row 12 (by decide), row 13 (by decide), row 14 (by decide), f15, f16, hsE.R]
    refine ⟨a, b, d, ?_, ?_⟩
    · by_cases q : m = i
      · rw [if_pos q]
        obtain ⟨x, -, hx, ex⟩ := (g4 i hiz).2.2.2.1
        rw [ex, nI_1]
        exact ⟨x + 1, by omega, by omega, rfl⟩
      · rw [if_neg q]
        exact e.wd (by omega)
    · by_cases q : m = i
      · rw [if_pos q]
        obtain ⟨x, -, hx, ex⟩ := (g4 i hiz).2.2.2.2
        obtain ⟨y', -, hy, ey⟩ := ky
        rw [ex, ey, nI_add]
        exact ⟨x + y', by omega, by omega, rfl⟩
      · rw [if_neg q]
        exact f.wd (by omega)
  · refine ⟨fun m q1 q2 => ?_, fun m q1 q2 => ?_, fun m q1 q2 => ?_⟩
    · rw [hsE.R] at q1
      rw [f3, f4, if_neg (show ¬ m = r by omega), if_neg (show ¬ m = r by omega)]
      exact g5.1 m q1 q2
    · rw [hsE.E] at q1
      rw [row 9 (by decide), row 10 (by decide)]
      exact g5.2.1 m q1 q2
    · rw [hsE.S] at q1
      rw [f15, f16, if_neg (show ¬ m = i by omega), if_neg (show ¬ m = i by omega)]
      exact g5.2.2 m q1 q2
  · rw [f0, if_neg (by decide), if_pos rfl, k7, h6.1]
    refine (sumTo_up (k := r) (by rw [f4, if_pos (show r = r from rfl), k4]) (by omega) (fun m hm q => by rw [f4, if_neg q, k4])).symm
  · rw [f0, if_pos rfl, row 10 (by decide), k10, k8, h6.2]
theorem n1_3 (u : pU) : ∀ e j, pN1 u e 3 j = if j < e then p0_ (u 3 j - 2) else u 3 j
  | 0, _ => rfl
  | e + 1, j => by
    show up2 (pN1 u e) 3 e (p0_ (pN1 u e 3 e - 2)) 3 j = _
    rw [up2_row, upd_at, n1_3 u e e, n1_3 u e j, if_neg (Nat.lt_irrefl e)]
    by_cases c : j = e
    · rw [if_pos c, if_pos (show j < e + 1 by omega), c]
    · rw [if_neg c]
      by_cases c2 : j < e
      · rw [if_pos c2, if_pos (show j < e + 1 by omega)]
      · rw [if_neg c2, if_neg (show ¬ j < e + 1 by omega)]
theorem n2_13 (u : pU) : ∀ e j, (pN2 u e).2 13 j = if j < e then u 13 j + mi_ (99 - u 13 j) 3 else u 13 j
  | 0, _ => rfl
  | e + 1, j => by
    show up2 (pN2 u e).2 13 e ((pN2 u e).2 13 e + mi_ (99 - (pN2 u e).2 13 e) 3) 13 j = _
    rw [up2_row, upd_at, n2_13 u e e, n2_13 u e j, if_neg (Nat.lt_irrefl e)]
    by_cases c : j = e
    · rw [if_pos c, if_pos (show j < e + 1 by omega), c]
    · rw [if_neg c]
      by_cases c2 : j < e
      · rw [if_pos c2, if_pos (show j < e + 1 by omega)]
      · rw [if_neg c2, if_neg (show ¬ j < e + 1 by omega)]
theorem v_D9 (hI : Inv n u) : Inv n (pNight u).2 := by
  obtain ⟨hc, h1, h2, h3, h4, h5, h6⟩ := hI
  have hs : sC u (pNight u).2 := ((sC.rf u).up (i := 0) (by decide) 3 (u 0 3 + 1)).trans ((n1_sC _ _).trans (n2_sC _ _))
  have row : ∀ k, k ≠ 0 ∧ k ≠ 3 ∧ k ≠ 13 → (pNight u).2 k = u k := fun k q => by
    unfold pNight
    rw [n2_row _ q.2.2, n1_row _ q.2.1, up2_ne _ _ _ q.1]
  have e0 : ∀ j, j ≠ 3 → (pNight u).2 0 j = u 0 j := fun j q => by
    unfold pNight
    rw [n2_row _ (by decide), n1_row _ (by decide), up2_row, upd_at, if_neg q]
  have e3 : ∀ j, (pNight u).2 3 j = if j < cR u then p0_ (u 3 j - 2) else u 3 j := fun j => by
    unfold pNight
    rw [n2_row _ (by decide), n1_3, up2_ne _ _ _ (by decide)]
  have e13 : ∀ j, (pNight u).2 13 j = if j < cS u then u 13 j + mi_ (99 - u 13 j) 3 else u 13 j := fun j => by
    unfold pNight
    rw [n2_13, n1_row _ (by decide), up2_ne _ _ _ (by decide)]
  generalize (pNight u).2 = w at *
  refine ⟨hs.cnt hc, ?_, h2.row hs.E (Nat.le_of_eq hs.R.symm) (Nat.le_of_eq hs.S.symm) (row 6 (by decide)) (row 7 (by decide)) (row 8 (by decide)) (row 9 (by decide)), ?_, ?_, h5.row hs.E ⟨e0 4 (by decide), e0 5 (by decide), e0 6 (by decide)⟩ (row 7 (by decide)) (row 8 (by decide)), h6.row (e0 7 (by decide)) (e0 8 (by decide)) (row 4 (by decide)) (row 10 (by decide))⟩
  · intro j hj
    rw [hs.R] at hj
    rw [row 2 (by decide), e3, if_pos hj]
    refine ⟨(h1 j hj).1, ?_⟩
    obtain ⟨d, -, hd, ed⟩ := (h1 j hj).2
    rw [ed]
    have key : ∀ d, d < 10 → p0_ (nI d - 2) = nI (d - 2) := by decide +kernel
    rw [key d (by omega)]
    exact ⟨d - 2, by omega, by omega, rfl⟩
  · intro j hj
    rw [hs.S] at hj
    obtain ⟨a, b, d, e, f⟩ := h3 j hj
    rw [row 12 (by decide), row 14 (by decide), row 15 (by decide), row 16 (by decide), e13, if_pos hj, hs.R]
    refine ⟨a, ?_, d, e, f⟩
    obtain ⟨x, -, hx, ex⟩ := b
    rw [ex, ← nb_1 x (by omega)]
    have e3 : nI x + 3 = nI (x + 3) := nI_add x 3
    rw [e3]
    exact mi_R (b := 99) (by omega) (by omega)
  · refine ⟨fun m q1 q2 => ?_, fun m q1 q2 => ?_, fun m q1 q2 => ?_⟩
    · rw [hs.R] at q1
      rw [e3, if_neg (show ¬ m < cR u by omega), row 4 (by decide)]
      exact h4.1 m q1 q2
    · rw [hs.E] at q1
      rw [row 9 (by decide), row 10 (by decide)]
      exact h4.2.1 m q1 q2
    · rw [hs.S] at q1
      rw [row 15 (by decide), row 16 (by decide)]
      exact h4.2.2 m q1 q2
end INV2

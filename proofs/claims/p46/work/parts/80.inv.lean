/-! what holds of every state goes on holding -/
theorem IvR.row {u w : pU} (h : IvR u) (hc : cR w = cR u) (h2 : w 2 = u 2) (h3 : w 3 = u 3) : IvR w := by
  intro j hj
  rw [hc] at hj
  rw [h2, h3]
  exact h j hj
theorem IvE.row {u w : pU} (h : IvE u) (hE : cE w = cE u) (hR : cR u ≤ cR w) (hS : cS u ≤ cS w) (h6 : w 6 = u 6) (h7 : w 7 = u 7) (h8 : w 8 = u 8) (h9 : w 9 = u 9) : IvE w := by
  intro j hj
  rw [hE] at hj
  rw [h6, h7, h8, h9]
  obtain ⟨⟨r, hr, er⟩, b, c⟩ := h j hj
  refine ⟨⟨r, by omega, er⟩, b, c.imp id (fun z => ⟨?_, z.2⟩)⟩
  obtain ⟨s, hs, es⟩ := z.1
  exact ⟨s, by omega, es⟩
theorem IvS.row {n : Nat} {u w : pU} (h : IvS n u) (hS : cS w = cS u) (hR : cR u ≤ cR w) (h12 : w 12 = u 12) (h13 : w 13 = u 13) (h14 : w 14 = u 14) (h15 : w 15 = u 15) (h16 : w 16 = u 16) : IvS n w := by
  intro j hj
  rw [hS] at hj
  rw [h12, h13, h14, h15, h16]
  obtain ⟨a, b, c, d, e⟩ := h j hj
  refine ⟨a, b, c.imp id (fun z => ?_), d, e⟩
  obtain ⟨r, hr, er⟩ := z
  exact ⟨r, by omega, er⟩
theorem IvD.row {u w : pU} (h : IvD u) (hE : cE w = cE u) (h0 : w 0 4 = u 0 4 ∧ w 0 5 = u 0 5 ∧ w 0 6 = u 0 6) (h7 : w 7 = u 7) (h8 : w 8 = u 8) : IvD w := by
  unfold IvD
  have e : gDp w = gDp u := by
    funext j
    unfold gDp
    rw [h7, h8]
  rw [hE, h0.1, h0.2.1, h0.2.2, e]
  exact h
theorem IvG.row {u w : pU} (h : IvG u) (h7 : w 0 7 = u 0 7) (h8 : w 0 8 = u 0 8) (h4 : w 4 = u 4) (h10 : w 10 = u 10) : IvG w := by
  unfold IvG
  rw [h7, h8, h4, h10]
  exact h
theorem IvZ.row {u w : pU} (h : IvZ u) (hR : cR u ≤ cR w) (hE : cE u ≤ cE w) (hS : cS u ≤ cS w) (h3 : w 3 = u 3) (h4 : w 4 = u 4) (h9 : w 9 = u 9) (h10 : w 10 = u 10) (h15 : w 15 = u 15) (h16 : w 16 = u 16) : IvZ w := by
  unfold IvZ
  rw [h3, h4, h9, h10, h15, h16]
  exact ⟨fun j h1 h2 => h.1 j (by omega) h2, fun j h1 h2 => h.2.1 j (by omega) h2, fun j h1 h2 => h.2.2 j (by omega) h2⟩
theorem no_ {r x : Int32} (hr : ((r, x) : Int32 × Int32).1 = 0) (h : ¬ r = 0) : False := h hr
theorem cR_at {u : pU} {k : Nat} (hk : k < 100000) (e : u 1 0 = nI k) : cR u = k := by unfold cR; rw [e]; exact nI_c hk
theorem cE_at {u : pU} {k : Nat} (hk : k < 100000) (e : u 5 0 = nI k) : cE u = k := by unfold cE; rw [e]; exact nI_c hk
theorem cS_at {u : pU} {k : Nat} (hk : k < 100000) (e : u 11 0 = nI k) : cS u = k := by unfold cS; rw [e]; exact nI_c hk
section INV
variable {u : pU} {n : Nat}
theorem v_D0 (hI : Inv n u) (a : Int32) (hr : (pR0 a u).1 = 0) : Inv n (pD0 a u).2 := by
  obtain ⟨hc, h1, h2, h3, h4, h5, h6⟩ := hI
  have hb := hc.1.2
  have ca : ¬ (a < 1 ∨ 9 < a) := fun z => by rw [pR0, if_pos z] at hr; exact no_ hr (by decide)
  have c6 : ¬ cR u = 6 := fun z => by rw [pR0, if_neg ca, if_pos z] at hr; exact no_ hr (by decide)
  have hlt : cR u < 6 := by omega
  have ra : Rg a 1 9 := Rg.of (a := 1) (b := 9) rfl rfl (by omega) (by omega) (fun z => ca (Or.inl z)) (le_of_nlt (fun z => ca (Or.inr z)))
  have e10 : (pD0 a u).2 1 0 = nI (cR u + 1) := by
    show up2 (up2 u 2 (cR u) a) 1 0 (u 1 0 + 1) 1 0 = _
    rw [up2_at, if_pos ⟨rfl, rfl⟩, hc.1.1, nI_1]
  have row : ∀ i, i ≠ 1 → i ≠ 2 → (pD0 a u).2 i = u i := fun i q1 q2 => by
    show up2 (up2 u 2 (cR u) a) 1 0 (u 1 0 + 1) i = _
    rw [up2_ne _ _ _ q1, up2_ne _ _ _ q2]
  have e2 : ∀ j, (pD0 a u).2 2 j = if j = cR u then a else u 2 j := fun j => by
    show up2 (up2 u 2 (cR u) a) 1 0 (u 1 0 + 1) 2 j = _
    rw [up2_ne _ _ _ (by decide), up2_row]
    rfl
  generalize (pD0 a u).2 = w at *
  have hR : cR w = cR u + 1 := cR_at (by omega) e10
  have hE : cE w = cE u := by unfold cE; rw [row 5 (by decide) (by decide)]
  have hS : cS w = cS u := by unfold cS; rw [row 11 (by decide) (by decide)]
  refine ⟨⟨⟨by rw [hR]; exact e10, by omega⟩, ⟨by rw [hE, row 5 (by decide) (by decide)]; exact hc.2.1.1, by rw [hE]; exact hc.2.1.2⟩, ⟨by rw [hS, row 11 (by decide) (by decide)]; exact hc.2.2.1, by rw [hS]; exact hc.2.2.2⟩⟩, ?_, h2.row hE (by omega) (by omega) (row 6 (by decide) (by decide)) (row 7 (by decide) (by decide)) (row 8 (by decide) (by decide)) (row 9 (by decide) (by decide)), h3.row hS (by omega) (row 12 (by decide) (by decide)) (row 13 (by decide) (by decide)) (row 14 (by decide) (by decide)) (row 15 (by decide) (by decide)) (row 16 (by decide) (by decide)), h4.row (by omega) (by omega) (by omega) (row 3 (by decide) (by decide)) (row 4 (by decide) (by decide)) (row 9 (by decide) (by decide)) (row 10 (by decide) (by decide)) (row 15 (by decide) (by decide)) (row 16 (by decide) (by decide)), h5.row hE (by rw [row 0 (by decide) (by decide)]; exact ⟨rfl, rfl, rfl⟩) (row 7 (by decide) (by decide)) (row 8 (by decide) (by decide)), h6.row (by rw [row 0 (by decide) (by decide)]) (by rw [row 0 (by decide) (by decide)]) (row 4 (by decide) (by decide)) (row 10 (by decide) (by decide))⟩
  intro j hj
  rw [hR] at hj
  rw [e2 j, row 3 (by decide) (by decide)]
  by_cases c : j = cR u
  · rw [if_pos c]
    refine ⟨ra, ?_⟩
    rw [c, (h4.1 (cR u) (Nat.le_refl _) hlt).1]
    exact ⟨0, by omega, by omega, rfl⟩
  · rw [if_neg c]
    exact h1 j (by omega)
theorem v_D1 (hI : Inv n u) (a b : Int32) (hr : (pR1 a b u).1 = 0) : Inv n (pD1 a b u).2 := by
  obtain ⟨hc, h1, h2, h3, h4, h5, h6⟩ := hI
  have hb := hc.2.1.2
  have hb2 := hc.1.2
  have ca : ¬ (a < 0 ∨ nI (cR u) ≤ a) := fun z => by rw [pR1, if_pos z] at hr; exact no_ hr (by decide)
  have cb : ¬ (b < 1 ∨ 9 < b) := fun z => by rw [pR1, if_neg ca, if_pos z] at hr; exact no_ hr (by decide)
  have c8 : ¬ cE u = 8 := fun z => by rw [pR1, if_neg ca, if_neg cb, if_pos z] at hr; exact no_ hr (by decide)
  have hlt : cE u < 8 := by omega
  obtain ⟨r0, hr0, ea⟩ := has_of (by omega) (fun z => ca (Or.inl z)) (fun z => ca (Or.inr z))
  have rb : Rg b 1 9 := Rg.of (a := 1) (b := 9) rfl rfl (by omega) (by omega) (fun z => cb (Or.inl z)) (le_of_nlt (fun z => cb (Or.inr z)))
  have e10 : (pD1 a b u).2 5 0 = nI (cE u + 1) := by
    show up2 (up2 (up2 (up2 u 6 (cE u) a) 7 (cE u) b) 8 (cE u) (-1)) 5 0 (u 5 0 + 1) 5 0 = _
    rw [up2_at, if_pos ⟨rfl, rfl⟩, hc.2.1.1, nI_1]
  have row : ∀ i, i ≠ 5 → i ≠ 6 → i ≠ 7 → i ≠ 8 → (pD1 a b u).2 i = u i := fun i q1 q2 q3 q4 => by
    show up2 (up2 (up2 (up2 u 6 (cE u) a) 7 (cE u) b) 8 (cE u) (-1)) 5 0 (u 5 0 + 1) i = _
    rw [up2_ne _ _ _ q1, up2_ne _ _ _ q4, up2_ne _ _ _ q3, up2_ne _ _ _ q2]
  have e6 : ∀ j, (pD1 a b u).2 6 j = if j = cE u then a else u 6 j := fun j => by
    show up2 (up2 (up2 (up2 u 6 (cE u) a) 7 (cE u) b) 8 (cE u) (-1)) 5 0 (u 5 0 + 1) 6 j = _
    rw [up2_ne _ _ _ (by decide), up2_ne _ _ _ (by decide), up2_ne _ _ _ (by decide), up2_row]
    rfl
  have e7 : ∀ j, (pD1 a b u).2 7 j = if j = cE u then b else u 7 j := fun j => by
    show up2 (up2 (up2 (up2 u 6 (cE u) a) 7 (cE u) b) 8 (cE u) (-1)) 5 0 (u 5 0 + 1) 7 j = _
    rw [up2_ne _ _ _ (by decide), up2_ne _ _ _ (by decide), up2_row, upd_at, up2_ne _ _ _ (by decide)]
  have e8 : ∀ j, (pD1 a b u).2 8 j = if j = cE u then -1 else u 8 j := fun j => by
    show up2 (up2 (up2 (up2 u 6 (cE u) a) 7 (cE u) b) 8 (cE u) (-1)) 5 0 (u 5 0 + 1) 8 j = _
    rw [up2_ne _ _ _ (by decide), up2_row, upd_at, up2_ne _ _ _ (by decide), up2_ne _ _ _ (by decide)]
  generalize (pD1 a b u).2 = w at *
  have rw' : ∀ i, i ≠ 5 ∧ i ≠ 6 ∧ i ≠ 7 ∧ i ≠ 8 → w i = u i := fun i q => row i q.1 q.2.1 q.2.2.1 q.2.2.2
  have hE : cE w = cE u + 1 := cE_at (by omega) e10
  have hR : cR w = cR u := by unfold cR; rw [rw' 1 (by decide)]
  have hS : cS w = cS u := by unfold cS; rw [rw' 11 (by decide)]
  refine ⟨⟨⟨by rw [hR, rw' 1 (by decide)]; exact hc.1.1, by rw [hR]; exact hc.1.2⟩, ⟨by rw [hE]; exact e10, by omega⟩, ⟨by rw [hS, rw' 11 (by decide)]; exact hc.2.2.1, by rw [hS]; exact hc.2.2.2⟩⟩, h1.row hR (rw' 2 (by decide)) (rw' 3 (by decide)), ?_, h3.row hS (by omega) (rw' 12 (by decide)) (rw' 13 (by decide)) (rw' 14 (by decide)) (rw' 15 (by decide)) (rw' 16 (by decide)), h4.row (by omega) (by omega) (by omega) (rw' 3 (by decide)) (rw' 4 (by decide)) (rw' 9 (by decide)) (rw' 10 (by decide)) (rw' 15 (by decide)) (rw' 16 (by decide)), ?_, h6.row (by rw [rw' 0 (by decide)]) (by rw [rw' 0 (by decide)]) (rw' 4 (by decide)) (rw' 10 (by decide))⟩
  · intro j hj
    rw [hE] at hj
    rw [e6 j, e7 j, e8 j, rw' 9 (by decide), hR, hS]
    by_cases c : j = cE u
    · rw [if_pos c, if_pos c, if_pos c]
      refine ⟨⟨r0, hr0, ea⟩, rb, Or.inl ⟨rfl, ?_⟩⟩
      rw [c, (h4.2.1 (cE u) (Nat.le_refl _) hlt).1]
    · rw [if_neg c, if_neg c, if_neg c]
      exact h2 j (by omega)
  · unfold IvD
    rw [hE, rw' 0 (by decide)]
    show _ = _ + _ + (sumTo (gDp w) (cE u) + gDp w (cE u))
    have g1 : gDp w (cE u) = 0 := by
      unfold gDp
      rw [e8, if_pos (show cE u = cE u from rfl), if_pos (show (-1 : Int32) = -1 from rfl)]
    have g2 : sumTo (gDp w) (cE u) = sumTo (gDp u) (cE u) := sumTo_cg (fun j hj => by
      unfold gDp
      rw [e8, e7, if_neg (show ¬ j = cE u by omega), if_neg (show ¬ j = cE u by omega)])
    rw [g1, g2, Int32.add_zero]
    exact h5
theorem v_D2 (hI : Inv n u) (a b : Int32) (hr : (pR2 a b u).1 = 0) : Inv n (pD2 a b u).2 := by
  obtain ⟨hc, h1, h2, h3, h4, h5, h6⟩ := hI
  have hb := hc.2.2.2
  have ca : ¬ (a < 0 ∨ 9 < a) := fun z => by rw [pR2, if_pos z] at hr; exact no_ hr (by decide)
  have cb : ¬ (b < 0 ∨ 99 < b) := fun z => by rw [pR2, if_neg ca, if_pos z] at hr; exact no_ hr (by decide)
  have c8 : ¬ cS u = 6 := fun z => by rw [pR2, if_neg ca, if_neg cb, if_pos z] at hr; exact no_ hr (by decide)
  have hlt : cS u < 6 := by omega
  have ra : Rg a 0 9 := Rg.of (a := 0) (b := 9) rfl rfl (by omega) (by omega) (fun z => ca (Or.inl z)) (le_of_nlt (fun z => ca (Or.inr z)))
  have rb : Rg b 0 99 := Rg.of (a := 0) (b := 99) rfl rfl (by omega) (by omega) (fun z => cb (Or.inl z)) (le_of_nlt (fun z => cb (Or.inr z)))
  have e10 : (pD2 a b u).2 11 0 = nI (cS u + 1) := by
    show up2 (up2 (up2 (up2 u 12 (cS u) a) 13 (cS u) b) 14 (cS u) (-1)) 11 0 (u 11 0 + 1) 11 0 = _
    rw [up2_at, if_pos ⟨rfl, rfl⟩, hc.2.2.1, nI_1]
  have row : ∀ i, i ≠ 11 ∧ i ≠ 12 ∧ i ≠ 13 ∧ i ≠ 14 → (pD2 a b u).2 i = u i := fun i q => by
    show up2 (up2 (up2 (up2 u 12 (cS u) a) 13 (cS u) b) 14 (cS u) (-1)) 11 0 (u 11 0 + 1) i = _
    rw [up2_ne _ _ _ q.1, up2_ne _ _ _ q.2.2.2, up2_ne _ _ _ q.2.2.1, up2_ne _ _ _ q.2.1]
  have e6 : ∀ j, (pD2 a b u).2 12 j = if j = cS u then a else u 12 j := fun j => by
    show up2 (up2 (up2 (up2 u 12 (cS u) a) 13 (cS u) b) 14 (cS u) (-1)) 11 0 (u 11 0 + 1) 12 j = _
    rw [up2_ne _ _ _ (by decide), up2_ne _ _ _ (by decide), up2_ne _ _ _ (by decide), up2_row]
    rfl
  have e7 : ∀ j, (pD2 a b u).2 13 j = if j = cS u then b else u 13 j := fun j => by
    show up2 (up2 (up2 (up2 u 12 (cS u) a) 13 (cS u) b) 14 (cS u) (-1)) 11 0 (u 11 0 + 1) 13 j = _
    rw [up2_ne _ _ _ (by decide), up2_ne _ _ _ (by decide), up2_row, upd_at, up2_ne _ _ _ (by decide)]
  have e8 : ∀ j, (pD2 a b u).2 14 j = if j = cS u then -1 else u 14 j := fun j => by
    show up2 (up2 (up2 (up2 u 12 (cS u) a) 13 (cS u) b) 14 (cS u) (-1)) 11 0 (u 11 0 + 1) 14 j = _
    rw [up2_ne _ _ _ (by decide), up2_row, upd_at, up2_ne _ _ _ (by decide), up2_ne _ _ _ (by decide)]
  generalize (pD2 a b u).2 = w at *
  have hS : cS w = cS u + 1 := cS_at (by omega) e10
  have hR : cR w = cR u := by unfold cR; rw [row 1 (by decide)]
  have hE : cE w = cE u := by unfold cE; rw [row 5 (by decide)]
  refine ⟨⟨⟨by rw [hR, row 1 (by decide)]; exact hc.1.1, by rw [hR]; exact hc.1.2⟩, ⟨by rw [hE, row 5 (by decide)]; exact hc.2.1.1, by rw [hE]; exact hc.2.1.2⟩, ⟨by rw [hS]; exact e10, by omega⟩⟩, h1.row hR (row 2 (by decide)) (row 3 (by decide)), h2.row hE (by omega) (by omega) (row 6 (by decide)) (row 7 (by decide)) (row 8 (by decide)) (row 9 (by decide)), ?_, h4.row (by omega) (by omega) (by omega) (row 3 (by decide)) (row 4 (by decide)) (row 9 (by decide)) (row 10 (by decide)) (row 15 (by decide)) (row 16 (by decide)), h5.row hE (by rw [row 0 (by decide)]; exact ⟨rfl, rfl, rfl⟩) (row 7 (by decide)) (row 8 (by decide)), h6.row (by rw [row 0 (by decide)]) (by rw [row 0 (by decide)]) (row 4 (by decide)) (row 10 (by decide))⟩
  intro j hj
  rw [hS] at hj
  rw [e6 j, e7 j, e8 j, row 15 (by decide), row 16 (by decide), hR]
  by_cases c : j = cS u
  · rw [if_pos c, if_pos c, if_pos c]
    have hz := h4.2.2 (cS u) (Nat.le_refl _) hlt
    refine ⟨ra, rb, Or.inl rfl, ?_, ?_⟩
    · rw [c, hz.1]
      exact ⟨0, by omega, by omega, rfl⟩
    · rw [c, hz.2]
      exact ⟨0, by omega, by omega, rfl⟩
  · rw [if_neg c, if_neg c, if_neg c]
    exact h3 j (by omega)
/-- one of the rows of singers' rooms, or of echoes' rooms, changes -/
theorem v_14 (hI : Inv n u) {i : Nat} (x : Int32) (hx : x = -1 ∨ ∃ r, r < cR u ∧ x = nI r) : Inv n (up2 u 14 i x) := by
  obtain ⟨hc, h1, h2, h3, h4, h5, h6⟩ := hI
  have hs : sC u (up2 u 14 i x) := (sC.rf u).up (by decide) _ _
  have row : ∀ k, k ≠ 14 → up2 u 14 i x k = u k := fun k q => up2_ne _ _ _ q
  have e8 : ∀ j, up2 u 14 i x 14 j = if j = i then x else u 14 j := fun j => by
    rw [up2_row]
    rfl
  generalize up2 u 14 i x = w at *
  refine ⟨hs.cnt hc, h1.row hs.R (row 2 (by decide)) (row 3 (by decide)), h2.row hs.E (Nat.le_of_eq hs.R.symm) (Nat.le_of_eq hs.S.symm) (row 6 (by decide)) (row 7 (by decide)) (row 8 (by decide)) (row 9 (by decide)), ?_, h4.row (Nat.le_of_eq hs.R.symm) (Nat.le_of_eq hs.E.symm) (Nat.le_of_eq hs.S.symm) (row 3 (by decide)) (row 4 (by decide)) (row 9 (by decide)) (row 10 (by decide)) (row 15 (by decide)) (row 16 (by decide)), h5.row hs.E (by rw [row 0 (by decide)]; exact ⟨rfl, rfl, rfl⟩) (row 7 (by decide)) (row 8 (by decide)), h6.row (by rw [row 0 (by decide)]) (by rw [row 0 (by decide)]) (row 4 (by decide)) (row 10 (by decide))⟩
  intro j hj
  rw [hs.S] at hj
  obtain ⟨a, b, c, d, e⟩ := h3 j hj
  rw [e8 j, row 12 (by decide), row 13 (by decide), row 15 (by decide), row 16 (by decide), hs.R]
  refine ⟨a, b, ?_, d, e⟩
  by_cases q : j = i
  · rw [if_pos q]
    exact hx
  · rw [if_neg q]
    exact c
theorem v_6 (hI : Inv n u) {i : Nat} (x : Int32) (hx : ∃ r, r < cR u ∧ x = nI r) : Inv n (up2 u 6 i x) := by
  obtain ⟨hc, h1, h2, h3, h4, h5, h6⟩ := hI
  have hs : sC u (up2 u 6 i x) := (sC.rf u).up (by decide) _ _
  have row : ∀ k, k ≠ 6 → up2 u 6 i x k = u k := fun k q => up2_ne _ _ _ q
  have e8 : ∀ j, up2 u 6 i x 6 j = if j = i then x else u 6 j := fun j => by
    rw [up2_row]
    rfl
  generalize up2 u 6 i x = w at *
  refine ⟨hs.cnt hc, h1.row hs.R (row 2 (by decide)) (row 3 (by decide)), ?_, h3.row hs.S (Nat.le_of_eq hs.R.symm) (row 12 (by decide)) (row 13 (by decide)) (row 14 (by decide)) (row 15 (by decide)) (row 16 (by decide)), h4.row (Nat.le_of_eq hs.R.symm) (Nat.le_of_eq hs.E.symm) (Nat.le_of_eq hs.S.symm) (row 3 (by decide)) (row 4 (by decide)) (row 9 (by decide)) (row 10 (by decide)) (row 15 (by decide)) (row 16 (by decide)), h5.row hs.E (by rw [row 0 (by decide)]; exact ⟨rfl, rfl, rfl⟩) (row 7 (by decide)) (row 8 (by decide)), h6.row (by rw [row 0 (by decide)]) (by rw [row 0 (by decide)]) (row 4 (by decide)) (row 10 (by decide))⟩
  intro j hj
  rw [hs.E] at hj
  obtain ⟨a, b, c⟩ := h2 j hj
  rw [e8 j, row 7 (by decide), row 8 (by decide), row 9 (by decide), hs.R, hs.S]
  refine ⟨?_, b, c⟩
  by_cases q : j = i
  · rw [if_pos q]
    exact hx
  · rw [if_neg q]
    exact a
theorem v_D3 (hI : Inv n u) (a b : Int32) (hr : (pR3 a b u).1 = 0) : Inv n (pD3 a b u).2 := by
  have hb2 := hI.1.1.2
  have ca : ¬ (a < 0 ∨ nI (cS u) ≤ a) := fun z => by rw [pR3, if_pos z] at hr; exact no_ hr (by decide)
  have cb : ¬ (b < 0 ∨ nI (cR u) ≤ b) := fun z => by rw [pR3, if_neg ca, if_pos z] at hr; exact no_ hr (by decide)
  exact v_14 hI b (Or.inr (has_of (by omega) (fun z => cb (Or.inl z)) (fun z => cb (Or.inr z))))
theorem v_D5 (hI : Inv n u) (a b : Int32) (hr : (pR5 a b u).1 = 0) : Inv n (pD5 a b u).2 := by
  have hb2 := hI.1.1.2
  have ca : ¬ (a < 0 ∨ nI (cE u) ≤ a) := fun z => by rw [pR5, if_pos z] at hr; exact no_ hr (by decide)
  have cb : ¬ (b < 0 ∨ nI (cR u) ≤ b) := fun z => by rw [pR5, if_neg ca, if_pos z] at hr; exact no_ hr (by decide)
  exact v_6 hI b (has_of (by omega) (fun z => cb (Or.inl z)) (fun z => cb (Or.inr z)))
theorem v_D6 (hI : Inv n u) (a b c : Int32) (hr : (pR6 a b c u).1 = 0) : Inv n (pD6 a b c u).2 := by
  obtain ⟨hc, h1, h2, h3, h4, h5, h6⟩ := hI
  have hb2 := hc.2.1.2
  have hb3 := hc.2.2.2
  have ca : ¬ (a < 0 ∨ nI (cS u) ≤ a) := fun z => by rw [pR6, if_pos z] at hr; exact no_ hr (by decide)
  have cb : ¬ (b < 0 ∨ nI (cE u) ≤ b) := fun z => by rw [pR6, if_neg ca, if_pos z] at hr; exact no_ hr (by decide)
  have cc : ¬ (c < 1 ∨ 9 < c) := fun z => by rw [pR6, if_neg ca, if_neg cb, if_pos z] at hr; exact no_ hr (by decide)
  obtain ⟨i, hi, rfl⟩ := has_of (by omega) (fun z => ca (Or.inl z)) (fun z => ca (Or.inr z))
  obtain ⟨j, hj, rfl⟩ := has_of (by omega) (fun z => cb (Or.inl z)) (fun z => cb (Or.inr z))
  have rc : Rg c 1 9 := Rg.of (a := 1) (b := 9) rfl rfl (by omega) (by omega) (fun z => cc (Or.inl z)) (le_of_nlt (fun z => cc (Or.inr z)))
  have ti := tn_c (show i < 100000 by omega)
  have tj := tn_c (show j < 100000 by omega)
  have c1 : u 8 j = -1 := Classical.byContradiction fun z => by rw [pR6, if_neg ca, if_neg cb, if_neg cc, tj, if_pos z] at hr; exact no_ hr (by decide)
  have c2 : u 14 i = u 6 j := Classical.byContradiction fun z => by rw [pR6, if_neg ca, if_neg cb, if_neg cc, ti, tj, if_neg (fun q => q c1), if_pos z] at hr; exact no_ hr (by decide)
  have c3 : ¬ u 13 i < u 7 j := fun z => by rw [pR6, if_neg ca, if_neg cb, if_neg cc, ti, tj, if_neg (fun q => q c1), if_neg (fun q => q c2), if_pos z] at hr; exact no_ hr (by decide)
  have eD : (pD6 (nI i) (nI j) c u).2 = up2 (up2 (up2 (up2 u 13 i (u 13 i - u 7 j)) 0 4 (u 0 4 + u 7 j)) 8 j (nI i)) 9 j c := by
    unfold pD6
    rw [ti, tj]
  rw [eD]
  have hs : sC u (up2 (up2 (up2 (up2 u 13 i (u 13 i - u 7 j)) 0 4 (u 0 4 + u 7 j)) 8 j (nI i)) 9 j c) := ((((sC.rf u).up (i := 13) (by decide) _ _).up (i := 0) (by decide) _ _).up (i := 8) (by decide) _ _).up (i := 9) (by decide) _ _
  have row : ∀ k, k ≠ 13 ∧ k ≠ 0 ∧ k ≠ 8 ∧ k ≠ 9 → up2 (up2 (up2 (up2 u 13 i (u 13 i - u 7 j)) 0 4 (u 0 4 + u 7 j)) 8 j (nI i)) 9 j c k = u k := fun k q => by
    rw [up2_ne _ _ _ q.2.2.2, up2_ne _ _ _ q.2.2.1, up2_ne _ _ _ q.2.1, up2_ne _ _ _ q.1]
  have e13 : ∀ m, up2 (up2 (up2 (up2 u 13 i (u 13 i - u 7 j)) 0 4 (u 0 4 + u 7 j)) 8 j (nI i)) 9 j c 13 m = if m = i then u 13 i - u 7 j else u 13 m := fun m => by
    rw [up2_ne _ _ _ (by decide), up2_ne _ _ _ (by decide), up2_ne _ _ _ (by decide), up2_row]
    rfl
  have e0 : ∀ m, up2 (up2 (up2 (up2 u 13 i (u 13 i - u 7 j)) 0 4 (u 0 4 + u 7 j)) 8 j (nI i)) 9 j c 0 m = if m = 4 then u 0 4 + u 7 j else u 0 m := fun m => by
    rw [up2_ne _ _ _ (by decide), up2_ne _ _ _ (by decide), up2_row, upd_at, up2_ne _ _ _ (by decide)]
  have e8 : ∀ m, up2 (up2 (up2 (up2 u 13 i (u 13 i - u 7 j)) 0 4 (u 0 4 + u 7 j)) 8 j (nI i)) 9 j c 8 m = if m = j then nI i else u 8 m := fun m => by
    rw [up2_ne _ _ _ (by decide), up2_row, upd_at, up2_ne _ _ _ (by decide), up2_ne _ _ _ (by decide)]
  have e9 : ∀ m, up2 (up2 (up2 (up2 u 13 i (u 13 i - u 7 j)) 0 4 (u 0 4 + u 7 j)) 8 j (nI i)) 9 j c 9 m = if m = j then c else u 9 m := fun m => by
    rw [up2_row, upd_at, up2_ne _ _ _ (by decide), up2_ne _ _ _ (by decide), up2_ne _ _ _ (by decide)]
  generalize up2 (up2 (up2 (up2 u 13 i (u 13 i - u 7 j)) 0 4 (u 0 4 + u 7 j)) 8 j (nI i)) 9 j c = w at *
  refine ⟨hs.cnt hc, h1.row hs.R (row 2 (by decide)) (row 3 (by decide)), ?_, ?_, ?_, ?_, h6.row (by rw [e0, if_neg (by decide)]) (by rw [e0, if_neg (by decide)]) (row 4 (by decide)) (row 10 (by decide))⟩
  · intro m hm
    rw [hs.E] at hm
    rw [row 6 (by decide), row 7 (by decide), e8, e9, hs.R, hs.S]
    obtain ⟨a, b, d⟩ := h2 m hm
    refine ⟨a, b, ?_⟩
    by_cases q : m = j
    · rw [if_pos q, if_pos q]
      exact Or.inr ⟨⟨i, hi, rfl⟩, rc⟩
    · rw [if_neg q, if_neg q]
      exact d
  · intro m hm
    rw [hs.S] at hm
    rw [row 12 (by decide), row 14 (by decide), row 15 (by decide), row 16 (by decide), e13, hs.R]
    obtain ⟨a, b, d, e, f⟩ := h3 m hm
    refine ⟨a, ?_, d, e, f⟩
    by_cases q : m = i
    · rw [if_pos q]
      obtain ⟨x, -, hx, ex⟩ := (h3 i hi).2.1
      obtain ⟨y, -, hy, ey⟩ := (h2 j hj).2.1
      rw [ex, ey] at c3 ⊢
      rw [nI_ltI (by omega) (by omega)] at c3
      refine ⟨x - y, by omega, by omega, ?_⟩
      have e1 : nI x = nI (x - y) + nI y := by rw [nI_add, Nat.sub_add_cancel (by omega)]
      rw [e1, Int32.add_sub_cancel]
    · rw [if_neg q]
      exact b
  · refine ⟨fun m q1 q2 => ?_, fun m q1 q2 => ?_, fun m q1 q2 => ?_⟩
    · rw [row 3 (by decide), row 4 (by decide)]
      exact h4.1 m (by rw [← hs.R]; exact q1) q2
    · rw [hs.E] at q1
      rw [row 10 (by decide), e9, if_neg (by omega)]
      exact h4.2.1 m q1 q2
    · rw [row 15 (by decide), row 16 (by decide)]
      exact h4.2.2 m (by rw [← hs.S]; exact q1) q2
  · unfold IvD
    have g : sumTo (gDp w) (cE u) = sumTo (gDp u) (cE u) + u 7 j := sumTo_up (k := j) (by
      unfold gDp
      rw [e8, if_pos (show j = j from rfl), if_neg (nI_nm (show i < 100000 by omega)), if_pos c1, row 7 (by decide), Int32.zero_add]) hj (fun m hm q => by
      unfold gDp
      rw [e8, if_neg q, row 7 (by decide)])
    rw [hs.E, g, e0, e0, e0, if_pos rfl, if_neg (by decide), if_neg (by decide), h5]
    rw [Int32.add_assoc]
end INV

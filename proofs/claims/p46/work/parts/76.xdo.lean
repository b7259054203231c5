/-! the class: what an order does -/
def frX (d d' : pU) : Prop := ∀ a, (a = 0 ∨ 18 ≤ a) → d' a = d a
theorem frX.rf (d : pU) : frX d d := fun _ _ => rfl
theorem frX.up {d d' : pU} (h : frX d d') {k : Nat} (hk : 1 ≤ k ∧ k ≤ 17) (j : Nat) (x : Int32) : frX d (up2 d' k j x) := fun a ha => by
  rw [up2_ne d' j x (show a ≠ k by omega), h a ha]
theorem RX.eq {b : Nat} {d u w : pU} (h : RX b d u) (e : ∀ i j, okS i j → u i j = w i j) : RX b d w := fun i j ok => (h i j ok).trans (e i j ok)
theorem cR_up (u : pU) {i : Nat} (j : Nat) (x : Int32) (hi : i ≠ 1) : cR (up2 u i j x) = cR u := by
  unfold cR
  rw [up2_ne u j x (fun z => hi z.symm)]
theorem cE_up (u : pU) {i : Nat} (j : Nat) (x : Int32) (hi : i ≠ 5) : cE (up2 u i j x) = cE u := by
  unfold cE
  rw [up2_ne u j x (fun z => hi z.symm)]
theorem cS_up (u : pU) {i : Nat} (j : Nat) (x : Int32) (hi : i ≠ 11) : cS (up2 u i j x) = cS u := by
  unfold cS
  rw [up2_ne u j x (fun z => hi z.symm)]
/-- the same counts -/
def sC (u w : pU) : Prop := w 1 0 = u 1 0 ∧ w 5 0 = u 5 0 ∧ w 11 0 = u 11 0
theorem sC.R {u w : pU} (h : sC u w) : cR w = cR u := by unfold cR; rw [h.1]
theorem sC.E {u w : pU} (h : sC u w) : cE w = cE u := by unfold cE; rw [h.2.1]
theorem sC.S {u w : pU} (h : sC u w) : cS w = cS u := by unfold cS; rw [h.2.2]
theorem sC.cnt {u w : pU} (h : sC u w) (hc : Cnt u) : Cnt w := by
  unfold Cnt
  rw [h.R, h.E, h.S, h.1, h.2.1, h.2.2]
  exact hc
theorem sC.rf (u : pU) : sC u u := ⟨rfl, rfl, rfl⟩
theorem sC.up {u w : pU} (h : sC u w) {i : Nat} (hi : i ≠ 1 ∧ i ≠ 5 ∧ i ≠ 11) (j : Nat) (x : Int32) : sC u (up2 w i j x) := by
  unfold sC
  rw [up2_ne w j x (fun z => hi.1 z.symm), up2_ne w j x (fun z => hi.2.1 z.symm), up2_ne w j x (fun z => hi.2.2 z.symm)]
  exact h
theorem sC.trans {u v w : pU} (h : sC u v) (g : sC v w) : sC u w := ⟨g.1.trans h.1, g.2.1.trans h.2.1, g.2.2.trans h.2.2⟩
theorem sC_St (u : pU) (e : Nat) : sC u (pSt u e) :=
  ((((sC.rf u).up (i := 13) (by decide) _ _).up (i := 0) (by decide) _ _).up (i := 0) (by decide) _ _).up (i := 8) (by decide) _ _ |>.up (i := 9) (by decide) _ _
theorem sC_V1 (u : pU) (e : Nat) : sC u (pV1 u e) := by
  have h := ((sC.rf u).up (i := 10) (by decide) e (u 10 e + pW u e)).up (i := 9) (by decide) e (u 9 e - 1)
  unfold pV1
  show sC u (if _ then _ else _)
  split
  · exact h.trans (sC_St _ _)
  · exact h
theorem sC_Vs (s r : Int32) (u : pU) : ∀ e, sC u (pVs s r u e).2
  | 0 => sC.rf u
  | e + 1 => by
    show sC u (if _ then _ else _ : Int32 × pU).2
    split
    · exact (sC_Vs s r u e).trans (sC_V1 _ _)
    · exact sC_Vs s r u e
/-- rows that a verse leaves as they are -/
theorem st_row (u : pU) (e : Nat) {i : Nat} (hi : i ≠ 13 ∧ i ≠ 0 ∧ i ≠ 8 ∧ i ≠ 9) : pSt u e i = u i := by
  unfold pSt
  rw [up2_ne _ _ _ hi.2.2.2, up2_ne _ _ _ hi.2.2.1, up2_ne _ _ _ hi.2.1, up2_ne _ _ _ hi.2.1, up2_ne _ _ _ hi.1]
theorem v1_row (u : pU) (e : Nat) {i : Nat} (hi : i ≠ 13 ∧ i ≠ 0 ∧ i ≠ 8 ∧ i ≠ 9 ∧ i ≠ 10) : pV1 u e i = u i := by
  unfold pV1
  show (if _ then _ else _ : pU) i = _
  split
  · rw [st_row _ _ ⟨hi.1, hi.2.1, hi.2.2.1, hi.2.2.2.1⟩, up2_ne _ _ _ hi.2.2.2.1, up2_ne _ _ _ hi.2.2.2.2]
  · rw [up2_ne _ _ _ hi.2.2.2.1, up2_ne _ _ _ hi.2.2.2.2]
theorem vs_row (s r : Int32) (u : pU) {i : Nat} (hi : i ≠ 13 ∧ i ≠ 0 ∧ i ≠ 8 ∧ i ≠ 9 ∧ i ≠ 10) : ∀ e, (pVs s r u e).2 i = u i
  | 0 => rfl
  | e + 1 => by
    show (if _ then _ else _ : Int32 × pU).2 i = _
    split
    · exact (v1_row _ _ hi).trans (vs_row s r u hi e)
    · exact vs_row s r u hi e
theorem ech_row {u w : pU} (h : Ech u) (hc : sC u w) (h6 : w 6 = u 6) : Ech w := by
  intro e he
  rw [hc.E] at he
  obtain ⟨r, hr, er⟩ := h e he
  exact ⟨r, by rw [hc.R]; exact hr, by rw [h6]; exact er⟩
section XD
variable {q : aS} {u : pU} {P : Int32 → aS → Prop} {n : Nat}
theorem x_D0 (h : RX 1 q.1 u) (hI : Inv n u) (a : Int32) (hr : cR u < 6) (k : ∀ d', RX 1 d' (pD0 a u).2 → frX q.1 d' → P (pD0 a u).1 (d', q.2)) : w_X8_addRoom a q P := by
  have hc := hI.1
  have hn := (rx_2 h).trans hc.1.1
  have hin : vp_in (nI (cR u)) 6 := vp_in_nI hr (by decide)
  have hz := hI.2.2.2.2.1.1 (cR u) (Nat.le_refl _) hr
  simp only [w_X8_addRoom, forall_eq, hn, nI_c (show cR u < 100000 by omega)]
  refine ⟨hin, hin, hin, ?_⟩
  rw [← hc.1.1]
  refine k _ (RX.eq ((((h.up (k := 2) (i := 1) rfl 0 _).up (k := 3) (i := 2) rfl (cR u) a).up (k := 4) (i := 3) rfl (cR u) 0).up (k := 5) (i := 4) rfl (cR u) 0) (fun i j ok => ?_)) (((((frX.rf _).up (by decide) _ _).up (by decide) _ _).up (by decide) _ _).up (by decide) _ _)
  unfold pD0
  simp only [up2_at]
  grind
theorem x_D1 (h : RX 1 q.1 u) (hI : Inv n u) (a b : Int32) (hr : cE u < 8) (k : ∀ d', RX 1 d' (pD1 a b u).2 → frX q.1 d' → P (pD1 a b u).1 (d', q.2)) : w_X8_addEcho a b q P := by
  have hc := hI.1
  have hn := (rx_6 h).trans hc.2.1.1
  have hin : vp_in (nI (cE u)) 8 := vp_in_nI hr (by decide)
  have hz := hI.2.2.2.2.1.2.1 (cE u) (Nat.le_refl _) hr
  simp only [w_X8_addEcho, forall_eq, hn, nI_c (show cE u < 100000 by omega)]
  refine ⟨hin, hin, hin, hin, hin, ?_⟩
  rw [← hc.2.1.1]
  refine k _ (RX.eq ((((((h.up (k := 6) (i := 5) rfl 0 _).up (k := 7) (i := 6) rfl (cE u) a).up (k := 8) (i := 7) rfl (cE u) b).up (k := 9) (i := 8) rfl (cE u) (-1)).up (k := 10) (i := 9) rfl (cE u) 0).up (k := 11) (i := 10) rfl (cE u) 0) (fun i j ok => ?_)) (((((((frX.rf _).up (by decide) _ _).up (by decide) _ _).up (by decide) _ _).up (by decide) _ _).up (by decide) _ _).up (by decide) _ _)
  unfold pD1
  simp only [up2_at]
  grind
theorem x_D2 (h : RX 1 q.1 u) (hI : Inv n u) (a b : Int32) (hr : cS u < 6) (k : ∀ d', RX 1 d' (pD2 a b u).2 → frX q.1 d' → P (pD2 a b u).1 (d', q.2)) : w_X8_addSinger a b q P := by
  have hc := hI.1
  have hn := (rx_12 h).trans hc.2.2.1
  have hin : vp_in (nI (cS u)) 6 := vp_in_nI hr (by decide)
  have hz := hI.2.2.2.2.1.2.2 (cS u) (Nat.le_refl _) hr
  simp only [w_X8_addSinger, forall_eq, hn, nI_c (show cS u < 100000 by omega)]
  refine ⟨hin, hin, hin, hin, hin, ?_⟩
  rw [← hc.2.2.1]
  refine k _ (RX.eq ((((((h.up (k := 12) (i := 11) rfl 0 _).up (k := 13) (i := 12) rfl (cS u) a).up (k := 14) (i := 13) rfl (cS u) b).up (k := 15) (i := 14) rfl (cS u) (-1)).up (k := 16) (i := 15) rfl (cS u) 0).up (k := 17) (i := 16) rfl (cS u) 0) (fun i j ok => ?_)) (((((((frX.rf _).up (by decide) _ _).up (by decide) _ _).up (by decide) _ _).up (by decide) _ _).up (by decide) _ _).up (by decide) _ _)
  unfold pD2
  simp only [up2_at]
  grind
theorem x_D3 (h : RX 1 q.1 u) (hc : Cnt u) {i : Nat} (hi : i < 6) (b : Int32) (k : ∀ d', RX 1 d' (pD3 (nI i) b u).2 → frX q.1 d' → P (pD3 (nI i) b u).1 (d', q.2)) : w_X8_moveIn (nI i) b q P := by
  simp only [w_X8_moveIn, forall_eq, nI_c (show i < 100000 by omega)]
  refine ⟨vp_in_nI hi (by decide), ?_⟩
  have h2 := h.up (k := 15) (i := 14) rfl i b
  refine x_singersIn (q := (up2 q.1 15 i b, q.2)) h2 (((sC.rf u).up (by decide) _ _).cnt hc) b (x_bc _ ?_)
  have k2 := k (up2 q.1 15 i b)
  unfold pD3 at k2
  rw [tn_c (show i < 100000 by omega)] at k2
  exact k2 h2 ((frX.rf _).up (by decide) _ _)
theorem x_D4 (h : RX 1 q.1 u) {i : Nat} (hi : i < 6) (k : ∀ d', RX 1 d' (pD4 (nI i) u).2 → frX q.1 d' → P (pD4 (nI i) u).1 (d', q.2)) : w_X8_moveOut (nI i) q P := by
  simp only [w_X8_moveOut, forall_eq, nI_c (show i < 100000 by omega), rx_15 h hi]
  refine ⟨vp_in_nI hi (by decide), vp_in_nI hi (by decide), ?_⟩
  have k2 := k (up2 q.1 15 i (-1))
  unfold pD4 at k2
  rw [tn_c (show i < 100000 by omega)] at k2
  exact k2 (h.up (k := 15) (i := 14) rfl i (-1)) ((frX.rf _).up (by decide) _ _)
theorem x_D5 (h : RX 1 q.1 u) {i : Nat} (hi : i < 8) (b : Int32) (k : ∀ d', RX 1 d' (pD5 (nI i) b u).2 → frX q.1 d' → P (pD5 (nI i) b u).1 (d', q.2)) : w_X8_moveEcho (nI i) b q P := by
  simp only [w_X8_moveEcho, forall_eq, nI_c (show i < 100000 by omega), rx_7 h hi]
  refine ⟨vp_in_nI hi (by decide), vp_in_nI hi (by decide), ?_⟩
  have k2 := k (up2 q.1 7 i b)
  unfold pD5 at k2
  rw [tn_c (show i < 100000 by omega)] at k2
  exact k2 (h.up (k := 7) (i := 6) rfl i b) ((frX.rf _).up (by decide) _ _)
theorem x_D6 (h : RX 1 q.1 u) {i j : Nat} (hi : i < 6) (hj : j < 8) (c : Int32) (k : ∀ d', RX 1 d' (pD6 (nI i) (nI j) c u).2 → frX q.1 d' → P (pD6 (nI i) (nI j) c u).1 (d', q.2)) : w_X8_letEcho (nI i) (nI j) c q P := by
  have h2 := h.up (k := 14) (i := 13) rfl i (u 13 i - u 7 j)
  have e4 := rx_1_4 h2
  have e5 : up2 u 13 i (u 13 i - u 7 j) 0 4 = u 0 4 := by rw [up2_ne _ _ _ (by decide)]
  simp only [w_X8_letEcho, forall_eq, nI_c (show i < 100000 by omega), nI_c (show j < 100000 by omega), rx_8 h hj, rx_14 h hi, e4, e5]
  have vi : vp_in (nI i) 6 := vp_in_nI hi (by decide)
  have vj : vp_in (nI j) 8 := vp_in_nI hj (by decide)
  refine ⟨vj, vi, vi, vj, vj, ?_⟩
  have k2 := k (up2 (up2 (up2 (up2 q.1 14 i (u 13 i - u 7 j)) 1 4 (u 0 4 + u 7 j)) 9 j (nI i)) 10 j c)
  unfold pD6 at k2
  rw [tn_c (show i < 100000 by omega), tn_c (show j < 100000 by omega)] at k2
  exact k2 (((h2.up (k := 1) (i := 0) rfl 4 _).up (k := 9) (i := 8) rfl j _).up (k := 10) (i := 9) rfl j _) (((((frX.rf _).up (by decide) _ _).up (by decide) _ _).up (by decide) _ _).up (by decide) _ _)
theorem x_D7 (h : RX 1 q.1 u) (hc : Cnt u) (he : Ech u) {j s : Nat} (hj : j < cE u) (hs : s < 6) (es : u 8 j = nI s) (k : ∀ d', RX 1 d' (pSt u j) → frX q.1 d' → P (pW u j) (d', q.2)) : w_X8_endLetting (nI j) q P := by
  have hj8 : j < 8 := Nat.lt_of_lt_of_le hj hc.2.1.2
  have ej := nI_c (show j < 100000 by omega)
  have esc := nI_c (show s < 100000 by omega)
  have vj : vp_in (nI j) 8 := vp_in_nI hj8 (by decide)
  have vs : vp_in (nI s) 6 := vp_in_nI hs (by decide)
  unfold w_X8_endLetting
  rw [ej, rx_9 h hj8, es]
  refine ⟨vj, ?_⟩
  intro x2 e2
  subst e2
  refine x_aboveDamp h hc he hj ?_
  have h2 := h.up (k := 14) (i := 13) rfl s (mi_ (u 13 s + pW u j) 99)
  have e5 : up2 u 13 s (mi_ (u 13 s + pW u j) 99) 0 5 = u 0 5 := by rw [up2_ne _ _ _ (by decide)]
  have h3 := h2.up (k := 1) (i := 0) rfl 5 (u 0 5 + pW u j)
  have e6 : up2 (up2 u 13 s (mi_ (u 13 s + pW u j) 99)) 0 5 (u 0 5 + pW u j) 0 6 = u 0 6 := by
    rw [up2_at, if_neg (fun z => absurd z.2 (by decide)), up2_ne _ _ _ (by decide)]
  have e7 : up2 (up2 u 13 s (mi_ (u 13 s + pW u j) 99)) 0 5 (u 0 5 + pW u j) 7 j = u 7 j := by
    rw [up2_ne _ _ _ (by decide), up2_ne _ _ _ (by decide)]
  have h4 := h3.up (k := 1) (i := 0) rfl 6 (u 0 6 + (u 7 j - pW u j))
  rw [esc, rx_14 h hs]
  refine ⟨vs, vs, ?_⟩
  intro q5 E5
  have E5 : q5 = (up2 q.1 14 s (mi_ (u 13 s + pW u j) 99), q.2) := E5
  subst E5
  intro q6 E6
  have E6 : q6 = (up2 (up2 q.1 14 s (mi_ (u 13 s + pW u j) 99)) 1 5 (u 0 5 + pW u j), q.2) := by
    rw [E6]
    dsimp only
    rw [rx_1_5 h2, e5]
  subst E6
  refine ⟨vj, ?_⟩
  intro q7 E7
  have E7 : q7 = (up2 (up2 (up2 q.1 14 s (mi_ (u 13 s + pW u j) 99)) 1 5 (u 0 5 + pW u j)) 1 6 (u 0 6 + (u 7 j - pW u j)), q.2) := by
    rw [E7]
    dsimp only
    rw [rx_1_6 h3, e6, rx_8 h3 hj8, e7]
  subst E7
  refine ⟨vj, ?_⟩
  intro q8 E8
  subst E8
  refine ⟨vj, ?_⟩
  intro q9 E9
  subst E9
  refine k _ ?_ ((((((frX.rf _).up (by decide) _ _).up (by decide) _ _).up (by decide) _ _).up (by decide) _ _).up (by decide) _ _)
  unfold pSt
  rw [es, tn_c (show s < 100000 by omega)]
  exact (h4.up (k := 9) (i := 8) rfl j _).up (k := 10) (i := 9) rfl j _
theorem x_V1 (h : RX 1 q.1 u) (hc : Cnt u) (he : Ech u) {j s : Nat} (hj : j < cE u) (hs : s < 6) (es : u 8 j = nI s) (k : ∀ d', RX 1 d' (pV1 u j) → frX q.1 d' → P (pW u j) (d', q.2)) : w_X8_echoVerse (nI j) q P := by
  have hj8 : j < 8 := Nat.lt_of_lt_of_le hj hc.2.1.2
  have ej := nI_c (show j < 100000 by omega)
  have vj : vp_in (nI j) 8 := vp_in_nI hj8 (by decide)
  unfold w_X8_echoVerse
  refine x_aboveDamp h hc he hj ?_
  have h2 := h.up (k := 11) (i := 10) rfl j (u 10 j + pW u j)
  have h3 := h2.up (k := 10) (i := 9) rfl j (u 9 j - 1)
  rw [ej, rx_11 h hj8]
  refine ⟨vj, vj, ?_⟩
  intro q4 E4
  subst E4
  refine ⟨vj, vj, ?_⟩
  intro q5 E5
  have e5 : up2 u 10 j (u 10 j + pW u j) 9 j = u 9 j := by rw [up2_ne _ _ _ (by decide)]
  have E5 : q5 = (up2 (up2 q.1 11 j (u 10 j + pW u j)) 10 j (u 9 j - 1), q.2) := by
    rw [E5]
    dsimp only
    rw [rx_10 h2 hj8, e5]
  subst E5
  have e6 : up2 (up2 u 10 j (u 10 j + pW u j)) 9 j (u 9 j - 1) 9 j = u 9 j - 1 := by rw [up2_at, if_pos ⟨rfl, rfl⟩]
  dsimp only
  rw [rx_10 h3 hj8, e6]
  have hfr : frX q.1 (up2 (up2 q.1 11 j (u 10 j + pW u j)) 10 j (u 9 j - 1)) := ((frX.rf _).up (by decide) _ _).up (by decide) _ _
  refine ⟨vj, fun c => k _ ?_ hfr, fun c => ?_⟩
  · unfold pV1
    show RX 1 _ (if _ then _ else _)
    rw [if_neg c]
    exact h3
  · have hs3 : sC u (up2 (up2 u 10 j (u 10 j + pW u j)) 9 j (u 9 j - 1)) := ((sC.rf u).up (i := 10) (by decide) _ _).up (i := 9) (by decide) _ _
    refine x_D7 (q := (up2 (up2 q.1 11 j (u 10 j + pW u j)) 10 j (u 9 j - 1), q.2)) h3 (hs3.cnt hc) (ech_row he hs3 ?_) (s := s) (by rw [hs3.E]; exact hj) hs ?_ (fun d' hd hf => ?_)
    · rw [up2_ne _ _ _ (by decide), up2_ne _ _ _ (by decide)]
    · rw [up2_ne _ _ _ (by decide), up2_ne _ _ _ (by decide)]
      exact es
    · refine k d' ?_ (fun a ha => (hf a ha).trans (hfr a ha))
      unfold pV1
      show RX 1 _ (if _ then _ else _)
      rw [if_pos c]
      exact hd
theorem x_Vs {w : pU} (h : RX 1 q.1 w) (hc : Cnt w) (he : Ech w) {i : Nat} (hi : i < 6) (x : Int32) {K : Int32 → aS → Prop} (k : ∀ d', RX 1 d' (pVs (nI i) x w (cE w)).2 → frX q.1 d' → K (pVs (nI i) x w (cE w)).1 (d', q.2)) : ∃ M, LX8_singVerse_28 (nI i) x P K M 0 0 q := by
  have hb := hc.2.1.2
  refine lp_0 (fun m (v : Int32 × aS) j => LX8_singVerse_28 (nI i) x P K m v.1 j v.2) (fun e v => v.1 = (pVs (nI i) x w e).1 ∧ RX 1 v.2.1 (pVs (nI i) x w e).2 ∧ frX q.1 v.2.1 ∧ v.2.2 = q.2) (cE w) (0, q) ⟨rfl, h, frX.rf _, rfl⟩ (fun m v hv => ?_) (fun m v0 v hj hv hk => ?_)
  · obtain ⟨y, d1, t1⟩ := v
    dsimp only at hv
    obtain ⟨hy, hd, hf, ht⟩ := hv
    subst hy ht
    have hn : d1 6 0 = nI (cE w) := by rw [rx_6 hd, (sC_Vs (nI i) x w (cE w)).2.1, hc.2.1.1]
    have hle := nI_le (Nat.le_refl (cE w)) (by omega)
    simp only [LX8_singVerse_28, hn, hle, false_implies, not_true_eq_false, true_implies, and_true]
    exact k d1 hd hf
  · obtain ⟨y, d1, t1⟩ := v
    dsimp only at hv
    obtain ⟨hy, hd, hf, ht⟩ := hv
    subst hy ht
    have hn : d1 6 0 = nI (cE w) := by rw [rx_6 hd, (sC_Vs (nI i) x w v0).2.1, hc.2.1.1]
    have hlt := nI_ge hj (by omega)
    have hsj := sC_Vs (nI i) x w v0
    have hcj := hsj.cnt hc
    have hej : Ech (pVs (nI i) x w v0).2 := ech_row he hsj (vs_row _ _ _ (by decide) v0)
    simp only [LX8_singVerse_28, hn, hlt, forall_eq, nI_1, false_implies, not_false_eq_true, true_implies, true_and]
    refine x_isHeard (q := (d1, q.2)) hd (by omega) _ _ (fun c => ⟨fun _ => hk ((pVs (nI i) x w v0).1, (d1, q.2)) ?_, fun z => absurd rfl z⟩) (fun c => ⟨fun z => absurd z i10, fun _ => ?_⟩)
    · have e : pVs (nI i) x w (v0 + 1) = pVs (nI i) x w v0 := if_neg c
      rw [e]
      exact ⟨rfl, hd, hf, rfl⟩
    · have e : pVs (nI i) x w (v0 + 1) = ((pVs (nI i) x w v0).1 + pW (pVs (nI i) x w v0).2 v0, pV1 (pVs (nI i) x w v0).2 v0) := if_pos c
      refine x_V1 (q := (d1, q.2)) hd hcj hej (s := i) (by rw [hsj.E]; exact hj) hi c.2 (fun d' hd' hf' => ?_)
      refine hk (_, (d', q.2)) ?_
      rw [e]
      exact ⟨rfl, hd', fun a ha => (hf' a ha).trans (hf a ha), rfl⟩
theorem x_D8 (h : RX 1 q.1 u) (hc : Cnt u) (he : Ech u) {i r : Nat} (hi : i < 6) (hr : r < 6) (er : u 14 i = nI r) (k : ∀ d', RX 1 d' (pSing u i).2 → frX q.1 d' → P (pSing u i).1 (d', q.2)) : w_X8_singVerse (nI i) q P := by
  have ei := nI_c (show i < 100000 by omega)
  have erc := nI_c (show r < 100000 by omega)
  have vi : vp_in (nI i) 6 := vp_in_nI hi (by decide)
  have vr : vp_in (nI r) 6 := vp_in_nI hr (by decide)
  unfold w_X8_singVerse
  rw [ei, rx_15 h hi, er]
  refine ⟨vi, ?_⟩
  intro x2 e2
  subst e2
  rw [rx_14 h hi]
  refine ⟨vi, vi, ?_⟩
  intro q3 E3
  subst E3
  have h3 := h.up (k := 14) (i := 13) rfl i (u 13 i - 1)
  have hs3 : sC u (up2 u 13 i (u 13 i - 1)) := (sC.rf u).up (by decide) _ _
  have hc3 := hs3.cnt hc
  have he3 : Ech (up2 u 13 i (u 13 i - 1)) := ech_row he hs3 (by rw [up2_ne _ _ _ (by decide)])
  generalize hw : up2 u 13 i (u 13 i - 1) = w at *
  have hcE : cE w = cE u := hs3.E
  have hpS : pSing u i = ((pVs (nI i) (nI r) w (cE w)).1, pEnd i r (pVs (nI i) (nI r) w (cE w)).1 (pVs (nI i) (nI r) w (cE w)).2) := by
    unfold pSing
    rw [er, tn_c (show r < 100000 by omega), hw, hcE]
  rw [hpS] at k
  refine x_Vs (q := (up2 q.1 14 i (u 13 i - 1), q.2)) h3 hc3 he3 hi (nI r) (fun d1 hd hf => ?_)
  have hf : frX q.1 d1 := fun a ha => (hf a ha).trans (((frX.rf q.1).up (k := 14) (by decide) i (u 13 i - 1)) a ha)
  generalize (pVs (nI i) (nI r) w (cE w)).1 = y at *
  generalize (pVs (nI i) (nI r) w (cE w)).2 = z at *
  simp only [forall_eq, ei, erc]
  have g1 := hd.up (k := 16) (i := 15) rfl i (z 15 i + 1)
  have g2 := g1.up (k := 17) (i := 16) rfl i (z 16 i + y)
  have g3 := g2.up (k := 5) (i := 4) rfl r (z 4 r + 1)
  have g4 := g3.up (k := 4) (i := 3) rfl r (mi_ (z 3 r + 1) 9)
  have a1 := rx_16 hd hi
  have a2 := (rx_17 g1 hi).trans (show _ = z 16 i by rw [up2_ne _ _ _ (by decide)])
  have a3 := (rx_5 g2 hr).trans (show _ = z 4 r by rw [up2_ne _ _ _ (by decide), up2_ne _ _ _ (by decide)])
  have a4 := (rx_4 g3 hr).trans (show _ = z 3 r by rw [up2_ne _ _ _ (by decide), up2_ne _ _ _ (by decide), up2_ne _ _ _ (by decide)])
  rw [a1, a2, a3, a4]
  refine ⟨vi, vi, vi, vi, vr, vr, vr, vr, ?_⟩
  refine k _ ?_ ((((hf.up (by decide) _ _).up (by decide) _ _).up (by decide) _ _).up (by decide) _ _)
  unfold pEnd
  exact (g4.ghost (Nat.le_refl 7) _).ghost (by decide) _
theorem n1_sC (u : pU) : ∀ r, sC u (pN1 u r)
  | 0 => sC.rf u
  | r + 1 => (n1_sC u r).up (by decide) _ _
theorem n1_row (u : pU) {i : Nat} (hi : i ≠ 3) : ∀ r, pN1 u r i = u i
  | 0 => rfl
  | r + 1 => (up2_ne _ _ _ hi).trans (n1_row u hi r)
theorem n2_sC (u : pU) : ∀ r, sC u (pN2 u r).2
  | 0 => sC.rf u
  | r + 1 => (n2_sC u r).up (by decide) _ _
theorem n2_row (u : pU) {i : Nat} (hi : i ≠ 13) : ∀ r, (pN2 u r).2 i = u i
  | 0 => rfl
  | r + 1 => (up2_ne _ _ _ hi).trans (n2_row u hi r)
theorem x_N1 {w : pU} (h : RX 1 q.1 w) (hc : Cnt w) {K : aS → Prop} (k : ∀ d', RX 1 d' (pN1 w (cR w)) → frX q.1 d' → K (d', q.2)) : ∃ M, LX8_letNightPass_12 P K M 0 q := by
  have hb := hc.1.2
  refine lp_0 (fun m (v : aS) j => LX8_letNightPass_12 P K m j v) (fun e v => RX 1 v.1 (pN1 w e) ∧ frX q.1 v.1 ∧ v.2 = q.2) (cR w) q ⟨h, frX.rf _, rfl⟩ (fun m v hv => ?_) (fun m j v hj hv hk => ?_)
  · obtain ⟨d1, t1⟩ := v
    dsimp only at hv
    obtain ⟨hd, hf, ht⟩ := hv
    subst ht
    have hn : d1 2 0 = nI (cR w) := by rw [rx_2 hd, (n1_sC w (cR w)).1, hc.1.1]
    have hle := nI_le (Nat.le_refl (cR w)) (by omega)
    simp only [LX8_letNightPass_12, hn, hle, false_implies, not_true_eq_false, true_implies, and_true]
    exact k d1 hd hf
  · obtain ⟨d1, t1⟩ := v
    dsimp only at hv
    obtain ⟨hd, hf, ht⟩ := hv
    subst ht
    have hn : d1 2 0 = nI (cR w) := by rw [rx_2 hd, (n1_sC w j).1, hc.1.1]
    have hlt := nI_ge hj (by omega)
    have vj : vp_in (nI j) 6 := vp_in_nI (by omega) (by decide)
    simp only [LX8_letNightPass_12, hn, hlt, nI_c (show j < 100000 by omega), rx_4 hd (j := j) (by omega), forall_eq, nI_1, false_implies, not_false_eq_true, true_implies, true_and]
    refine ⟨vj, vj, hk (_, _) ⟨hd.up (k := 4) (i := 3) rfl j _, hf.up (k := 4) (by decide) _ _, rfl⟩⟩
theorem x_N2 {w : pU} (h : RX 1 q.1 w) (hc : Cnt w) {K : Int32 → aS → Prop} (k : ∀ d', RX 1 d' (pN2 w (cS w)).2 → frX q.1 d' → K (pN2 w (cS w)).1 (d', q.2)) : ∃ M, LX8_letNightPass_57 P K M 0 0 q := by
  have hb := hc.2.2.2
  refine lp_0 (fun m (v : Int32 × aS) j => LX8_letNightPass_57 P K m v.1 j v.2) (fun e v => v.1 = (pN2 w e).1 ∧ RX 1 v.2.1 (pN2 w e).2 ∧ frX q.1 v.2.1 ∧ v.2.2 = q.2) (cS w) (0, q) ⟨rfl, h, frX.rf _, rfl⟩ (fun m v hv => ?_) (fun m j v hj hv hk => ?_)
  · obtain ⟨y, d2, t2⟩ := v
    dsimp only at hv
    obtain ⟨hy, hd2, hf2, ht2⟩ := hv
    subst hy ht2
    have hn2 : d2 12 0 = nI (cS w) := by rw [rx_12 hd2, (n2_sC w (cS w)).2.2, hc.2.2.1]
    have hle2 := nI_le (Nat.le_refl (cS w)) (by omega)
    simp only [LX8_letNightPass_57, hn2, hle2, false_implies, not_true_eq_false, true_implies, and_true]
    exact k d2 hd2 hf2
  · obtain ⟨y, d2, t2⟩ := v
    dsimp only at hv
    obtain ⟨hy, hd2, hf2, ht2⟩ := hv
    subst hy ht2
    have hn2 : d2 12 0 = nI (cS w) := by rw [rx_12 hd2, (n2_sC w j).2.2, hc.2.2.1]
    have hlt2 := nI_ge hj (by omega)
    have vj : vp_in (nI j) 6 := vp_in_nI (by omega) (by decide)
    simp only [LX8_letNightPass_57, hn2, hlt2, nI_c (show j < 100000 by omega), rx_14 hd2 (j := j) (by omega), forall_eq, nI_1, false_implies, not_false_eq_true, true_implies, true_and]
    refine ⟨vj, vj, vj, hk (_, (_, _)) ⟨rfl, hd2.up (k := 14) (i := 13) rfl j _, hf2.up (k := 14) (by decide) _ _, rfl⟩⟩
theorem x_D9 (h : RX 1 q.1 u) (hc : Cnt u) (k : ∀ d', RX 1 d' (pNight u).2 → frX q.1 d' → P (pNight u).1 (d', q.2)) : w_X8_letNightPass q P := by
  unfold w_X8_letNightPass
  rw [rx_1_3 h]
  intro q1 E1
  subst E1
  have h1 := h.up (k := 1) (i := 0) rfl 3 (u 0 3 + 1)
  have hs1 : sC u (up2 u 0 3 (u 0 3 + 1)) := (sC.rf u).up (by decide) _ _
  have hc1 := hs1.cnt hc
  unfold pNight at k
  generalize hw : up2 u 0 3 (u 0 3 + 1) = w at *
  rw [← hs1.R, ← hs1.S] at k
  refine x_N1 (q := (up2 q.1 1 3 (u 0 3 + 1), q.2)) h1 hc1 (fun d1 hd1 hf1 => ?_)
  have hs2 := n1_sC w (cR w)
  rw [← hs2.S] at k
  refine x_N2 (q := (d1, q.2)) hd1 (hs2.cnt hc1) (fun d2 hd2 hf2 => k d2 hd2 (fun a ha => ?_))
  exact (hf2 a ha).trans ((hf1 a ha).trans (((frX.rf q.1).up (k := 1) (by decide) 3 (u 0 3 + 1)) a ha))
end XD

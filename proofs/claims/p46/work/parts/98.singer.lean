/-! a singer -/
theorem sh_k : ∀ b, b < 7 → ∀ y, y < 10 → (nI b ≤ (9 - nI y) / 3 ↔ ¬ 9 - nI y < 3 * nI b) := by decide +kernel
section SIN
variable {q : aS} {u : pU} {n : Nat} {P : Int32 → aS → Prop}
theorem z_sing1 (h : RX 1 q.1 u) (hI : Inv n u) {s : Nat} (hs : s < cS u) (c2 c6 : Int32) {K : Int32 → Int32 → Int32 → aS → Prop} (k : K (pLt u (nI s)) (pHd u (nI s)) 1 q) : ∃ m, LL_isSingerRight_46 (nI s) c2 (u 14 s) c6 P K m 0 0 1 0 q := by
  have hb2 := hI.1.2.1.2
  refine lp_0 (fun m (v : Int32 × Int32 × Int32) i => LL_isSingerRight_46 (nI s) c2 (u 14 s) c6 P K m v.1 v.2.1 v.2.2 i q) (fun j v => v = (sumTo (gLt u (nI s)) j, sumTo (gHd u (nI s)) j, 1)) (cE u) (0, 0, 1) rfl (fun m v hv => ?_) (fun m i v hi hv hk => ?_)
  · subst hv
    show LL_isSingerRight_46 _ _ _ _ P K (m + 1) (sumTo (gLt u (nI s)) (cE u)) (sumTo (gHd u (nI s)) (cE u)) 1 _ q
    rw [LL_isSingerRight_46]
    exact y_A1 h hI ⟨fun _ => k, fun z => absurd (nI_le (Nat.le_refl _) (by omega)) z⟩
  · subst hv
    have go : ∀ x y z : Int32, x = sumTo (gLt u (nI s)) i + gLt u (nI s) i → y = sumTo (gHd u (nI s)) i + gHd u (nI s) i → z = nI i + 1 → LL_isSingerRight_46 (nI s) c2 (u 14 s) c6 P K m x y 1 z q := fun x y z e1 e2 e3 => by
      rw [e1, e2, e3, nI_1]
      exact hk (_, _, _) rfl
    have cr : ∀ (x y w : Int32), x = sumTo (gLt u (nI s)) i + gLt u (nI s) i → y = sumTo (gHd u (nI s)) i + gHd u (nI s) i → (u 8 i = -1 ∧ u 14 s = u 6 i ∧ ¬ u 13 s < u 7 i → w = 1) → (¬ (u 8 i = -1 ∧ u 14 s = u 6 i ∧ ¬ u 13 s < u 7 i) → w = 0) → JL_isSingerRight_152 (nI s) c2 (u 14 s) c6 x y 1 (nI i) w P (fun a b c d q => LL_isSingerRight_46 (nI s) c2 (u 14 s) c6 P K m a b c d q) K q := fun x y w e1 e2 w1 w0 => by
      unfold JL_isSingerRight_152
      refine br_f i10 (y_canRent h hI hs hi (fun a b c => nb_t (w1 ⟨a, b, c⟩).symm (fun z e3 => go _ _ _ e1 e2 e3)) (fun a => nb_t (w0 a).symm (fun z e3 => go _ _ _ e1 e2 e3)))
    have cont : ∀ (x y v : Int32), x = sumTo (gLt u (nI s)) i + gLt u (nI s) i → y + v = sumTo (gHd u (nI s)) i + gHd u (nI s) i → JL_isSingerRight_107 (nI s) c2 (u 14 s) c6 x 1 (nI i) v y P (fun a b c d q => LL_isSingerRight_46 (nI s) c2 (u 14 s) c6 P K m a b c d q) K q := fun x y v e1 e2 => by
      unfold JL_isSingerRight_107 JL_isSingerRight_151
      intro x13 e13
      have e2' : x13 = _ := e13.trans e2
      refine y_E2 h hI hi ?_
      rcases e8_c hI hi with ⟨c8, _⟩ | ⟨c8, _, cp, _⟩
      · refine br_f (by rw [c8]; decide) (y_E0 h hI hi ⟨fun c => cr _ _ _ e1 e2' (fun z => absurd z.2.1.symm c) (fun _ => rfl), fun c => y_S1 h hI hs (y_E1 h hI hi ⟨fun c3 => cr _ _ _ e1 e2' (fun z => absurd c3 z.2.2) (fun _ => rfl), fun c3 => cr _ _ _ e1 e2' (fun _ => rfl) (fun z => absurd ⟨c8, c.symm, c3⟩ z)⟩)⟩)
      · exact br_t cp (cr _ _ _ e1 e2' (fun z => absurd z.1 c8) (fun _ => rfl))
    show LL_isSingerRight_46 _ _ _ _ P K (m + 1) (sumTo (gLt u (nI s)) i) (sumTo (gHd u (nI s)) i) 1 _ q
    rw [LL_isSingerRight_46]
    refine y_A1 h hI ⟨fun z => absurd z (nI_ge hi (by omega)), fun _ => y_E2 h hI hi ⟨fun c => ?_, fun c => ?_⟩⟩
    · unfold JL_isSingerRight_72 JL_isSingerRight_86
      refine br_t rfl (fun x e => br_t rfl (cont _ _ _ ?_ ?_))
      · rw [e, gLt, if_neg c]
      · rw [gHd, if_neg c]
    · unfold JL_isSingerRight_72 JL_isSingerRight_86
      refine br_f i10 (fun x e => br_f i10 (y_E1 h hI hi (cont _ _ _ ?_ ?_)))
      · rw [e, gLt, if_pos c]
      · rw [gHd, if_pos c]
theorem z_sing2 (h : RX 1 q.1 u) (hI : Inv n u) {s : Nat} (hs : s < cS u) (c4 c5 : Int32) {K : Int32 → Int32 → aS → Prop} (k : K (nI (bst u (nI s) (cR u))) 1 q) : ∃ m, LL_isSingerRight_187 (nI s) (nI (cR u)) (u 14 s) c4 c5 P K m 0 1 0 q := by
  have hb1 := hI.1.1.2
  have hb3 := hI.1.2.2.2
  refine lp_0 (fun m (v : Int32 × Int32) i => LL_isSingerRight_187 (nI s) (nI (cR u)) (u 14 s) c4 c5 P K m v.1 v.2 i q) (fun j v => v = (nI (bst u (nI s) j), 1)) (cR u) (0, 1) rfl (fun m v hv => ?_) (fun m i v hi hv hk => ?_)
  · subst hv
    show LL_isSingerRight_187 _ _ _ _ _ P K (m + 1) (nI (bst u (nI s) (cR u))) 1 _ q
    rw [LL_isSingerRight_187]
    exact ⟨fun _ => k, fun z => absurd (nI_le (Nat.le_refl _) (by omega)) z⟩
  · subst hv
    have hbl : bst u (nI s) i < cR u := by
      by_cases c : i = 0
      · subst c
        exact hi
      · have := bst_lt u (nI s) i (by omega)
        omega
    obtain ⟨y, -, hy, ey⟩ := (hI.2.2.2.1 s hs).1
    have eb : bc_ (pSin u (nI i)) = nI (cB (fun j => decide (u 14 j = nI i)) (cS u)) := sin_cnt hI.1 _
    have lb : cB (fun j => decide (u 14 j = nI i)) (cS u) ≤ cS u := cB_le _ _
    have key : bc_ (pSin u (nI i)) ≤ (9 - u 12 s) / 3 ↔ ¬ 9 - u 12 s < 3 * bc_ (pSin u (nI i)) := by
      rw [eb, ey]
      exact sh_k _ (by omega) _ (by omega)
    have t0 : ∀ r, r < cR u → pTI u (nI s) (nI r) 0 = pTon u (nI s) (nI r) := fun r hr => ton_ti hI hr (by omega)
    have fin : JL_isSingerRight_285 (nI s) (nI (cR u)) (u 14 s) c4 c5 (nI (bst u (nI s) i)) (nI i) 1 P (fun a b c q => LL_isSingerRight_187 (nI s) (nI (cR u)) (u 14 s) c4 c5 P K m a b c q) K q := by
      unfold JL_isSingerRight_285
      refine z_tones h hI hi _ _ (z_tones h hI hbl _ _ ⟨fun c => ?_, fun c => ?_⟩)
      · intro x e
        rw [nI_1] at e
        subst e
        rw [t0 i hi, t0 _ hbl] at c
        refine hk (_, _) ?_
        show (nI (bst u (nI s) i), (1 : Int32)) = (nI (if i = 0 then 0 else if pTon u (nI s) (nI i) ≤ pTon u (nI s) (nI (bst u (nI s) i)) then bst u (nI s) i else i), 1)
        by_cases j0 : i = 0
        · subst j0
          rfl
        · rw [if_neg j0, if_pos c]
      · intro x e
        rw [nI_1] at e
        subst e
        rw [t0 i hi, t0 _ hbl] at c
        refine hk (_, _) ?_
        show (nI i, (1 : Int32)) = (nI (if i = 0 then 0 else if pTon u (nI s) (nI i) ≤ pTon u (nI s) (nI (bst u (nI s) i)) then bst u (nI s) i else i), 1)
        by_cases j0 : i = 0
        · subst j0
          rfl
        · rw [if_neg j0, if_neg c]
    have mid : ∀ w : Int32, (¬ u 14 s = nI i ∧ bc_ (pSin u (nI i)) < u 2 i ∧ bc_ (pSin u (nI i)) ≤ (9 - u 12 s) / 3 → w = 1) → (¬ (¬ u 14 s = nI i ∧ bc_ (pSin u (nI i)) < u 2 i ∧ bc_ (pSin u (nI i)) ≤ (9 - u 12 s) / 3) → w = 0) → JL_isSingerRight_243 (nI s) (nI (cR u)) (u 14 s) c4 c5 (nI (bst u (nI s) i)) 1 (nI i) w P (fun a b c q => LL_isSingerRight_187 (nI s) (nI (cR u)) (u 14 s) c4 c5 P K m a b c q) K q := fun w w1 w0 => by
      unfold JL_isSingerRight_243
      have g : w_X9_would0 (nI s) (nI i) q (fun r45 q46 => w_L_tones (nI s) (nI i) 0 q46 (fun r47 q48 => ((¬ r45 = r47 → JL_isSingerRight_284 (nI s) (nI (cR u)) (u 14 s) c4 c5 (nI (bst u (nI s) i)) (nI i) P (fun a b c q => LL_isSingerRight_187 (nI s) (nI (cR u)) (u 14 s) c4 c5 P K m a b c q) K q48) ∧ (r45 = r47 → JL_isSingerRight_285 (nI s) (nI (cR u)) (u 14 s) c4 c5 (nI (bst u (nI s) i)) (nI i) 1 P (fun a b c q => LL_isSingerRight_187 (nI s) (nI (cR u)) (u 14 s) c4 c5 P K m a b c q) K q48)))) := y_would h hI hs hi (z_tones h hI hi _ _ (nb_t (t0 i hi).symm fin))
      exact br_f i10 (y_canEnter h hI hs hi (fun a b c => nb_t (w1 ⟨a, b, c⟩).symm g) (fun a => nb_t (w0 a).symm g))
    show LL_isSingerRight_187 _ _ _ _ _ P K (m + 1) (nI (bst u (nI s) i)) 1 _ q
    rw [LL_isSingerRight_187]
    refine ⟨fun z => absurd z (nI_ge hi (by omega)), fun _ => z_singersIn h hI _ (x_bc _ ⟨fun c => mid 0 (fun z => absurd c z.1) (fun _ => rfl), fun c => y_R0 h hI hi ⟨fun c2 => mid 0 (fun z => absurd z.2.1 (nlt_of_le c2)) (fun _ => rfl), fun c2 => y_S0 h hI hs ⟨fun c3 => mid 0 (fun z => absurd c3 (key.mp z.2.2)) (fun _ => rfl), fun c3 => mid 1 (fun _ => rfl) (fun z => absurd ⟨c, ?_, key.mpr c3⟩ z)⟩⟩⟩)⟩
    exact Int32.not_le.mp c2
theorem z_singer (h : RX 1 q.1 u) (hI : Inv n u) {s : Nat} (hs : s < cS u) (k : P 1 q) : w_L_isSingerRight (nI s) q P := by
  have hb1 := hI.1.1.2
  have hb3 := hI.1.2.2.2
  have s9 : s < 100000 := by omega
  have rest : JL_isSingerRight_390 (nI s) (u 14 s) 1 P q := by
    unfold JL_isSingerRight_390
    rcases (hI.2.2.2.1 s hs).2.2.1 with e | ⟨r, hr, er⟩
    · exact br_f (by rw [e]; decide) (br_f i10 (k_tonesOut h hI hs e (nb_t rfl (k_versesOut h hI hs e (nb_t rfl k)))))
    · rw [er]
      refine br_t (nI_le (a := 0) (Nat.zero_le _) (by omega)) ?_
      have v9 := nV_9 hI s9 r
      have t0 : pTon u (nI s) (nI r) = pTI u (nI s) (nI r) 0 := (ton_ti hI hr s9).symm
      refine lp_0 (fun m (_ : Unit) i => LL_isSingerRight_436 (nI s) (nI r) 1 P _ m i q) (fun _ _ => True) (nV u s r) () trivial (fun m v hv => ?_) (fun m i v hi hv hk => ?_)
      · rw [LL_isSingerRight_436]
        refine z_tones h hI hr _ _ ⟨fun _ => ?_, fun z => absurd (nV_eq hI hr s9) z⟩
        exact br_f i10 (y_tones h hI hs hr er (z_tones h hI hr _ _ (nb_t t0 (y_tonesAgain h hI hs hr er (z_tones h hI hr _ _ (nb_t t0 (y_verses h hI hs hr er (nb_t rfl (y_versesAgain h hI hs hr er (nb_t rfl k))))))))))
      · rw [LL_isSingerRight_436]
        refine z_tones h hI hr _ _ ⟨fun z => absurd z (nV_lt hI hr s9 hi), fun _ => fun x e => ?_⟩
        rw [nI_1] at e
        subst e
        exact hk () trivial
  have mid : ∀ v w : Int32, w = v → JL_isSingerRight_369 (nI s) (nI (cR u)) (u 14 s) v w P q := fun v w e => by
    unfold JL_isSingerRight_369
    exact nb_t e (k_would h hI hs (nb_t rfl rest))
  unfold w_L_isSingerRight
  refine y_A0 h hI (y_S2 h hI hs (k_Sb h hI hs (nb_t rfl (z_sing1 h hI hs _ _ (z_sing2 h hI hs _ _ (br_f i10 (y_S3 h hI hs (nb_t rfl (y_S6 h hI hs (nb_t rfl ?_))))))))))
  by_cases c : cR u = 0
  · exact k_bestNo h hI hs c (nb_t (by rw [c]; rfl) (mid _ _ rfl))
  · refine k_best h hI hs (by omega) (nb_f (fun z => c ?_) (mid _ _ rfl))
    exact nI_inj (a := cR u) (b := 0) (by omega) (by omega) z
end SIN

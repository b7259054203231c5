/-! the echoes -/
def gLN (u : pU) (e : Nat) : Int32 := if u 8 e = -1 then 0 else 1
theorem sum_1 : ∀ n, sumTo (fun _ => 1) n = nI n
  | 0 => rfl
  | n + 1 => by
    show sumTo (fun _ => 1) n + 1 = nI (n + 1)
    rw [sum_1 n, nI_1]
theorem ln_eq {n : Nat} {u : pU} (hI : Inv n u) : u 5 0 - pLt u (-1) = sumTo (gLN u) (cE u) := by
  have e : sumTo (gLN u) (cE u) + pLt u (-1) = nI (cE u) := by
    unfold pLt
    rw [← sumTo_add, ← sum_1]
    refine sumTo_cg (fun j hj => ?_)
    unfold gLN gLt
    split <;> decide
  rw [hI.1.2.1.1, ← e, Int32.add_sub_cancel]
section ECH
variable {q : aS} {u : pU} {n : Nat} {P : Int32 → aS → Prop}
theorem y_told (h : RX 1 q.1 u) (hI : Inv n u) (k : P 1 q) : w_X9_isTold q P := by
  have hc := hI.1
  have hb3 := hc.2.2.2
  have hn := (rx_12 h).trans hc.2.2.1
  unfold w_X9_isTold
  refine lp_0 (fun m (_ : Unit) t => LX9_isTold_2 _ _ m t q) (fun _ _ => True) (cS u) () trivial (fun m v hv => ?_) (fun m j v hj hv hk => ?_)
  · rw [LX9_isTold_2, hn]
    refine ⟨fun _ => x_heldOfAll h hc ?_, fun z => absurd (nI_le (Nat.le_refl _) (by omega)) z⟩
    rw [held_all hI, rx_1_4 h, rx_1_5 h, rx_1_6 h]
    exact ⟨fun z => absurd hI.2.2.2.2.2.1 z, fun _ => k⟩
  · have hj6 : j < 6 := by omega
    rw [LX9_isTold_2, hn]
    refine ⟨fun z => absurd z (nI_ge hj (by omega)), fun _ => x_isInside h hj6 (fun c => ⟨fun _ => ?_, fun z => absurd rfl z⟩) (fun c => ⟨fun z => absurd z i10, fun _ => ?_⟩)⟩
    · intro x3 e3
      rw [nI_1] at e3
      subst e3
      exact hk () trivial
    · obtain ⟨r, hr, er⟩ := ((hI.2.2.2.1 j hj).2.2.1).resolve_left c
      unfold w_X9_bothWaysAgree
      rw [nI_c (show j < 100000 by omega), rx_15 h hj6, er]
      refine ⟨vp_in_nI hj6 (by decide), x_tonesInRoom h hc hI.ech _ _ (x_tonesByStrength h hI hj6 hr er ⟨fun z => absurd rfl z, fun _ => x_versesInThought h hI hj6 hr er (x_versesByEcho2 h hI hj6 er ⟨fun z => absurd rfl z, fun _ => ⟨fun _ => ?_, fun z => absurd z i10⟩⟩)⟩)⟩
      intro x6 e6
      rw [nI_1] at e6
      subst e6
      exact hk () trivial
theorem y_share {F : UInt32 → aS → Prop} (h : RX 1 q.1 u) (hI : Inv n u) (h0 : 0 < cE u) (k : vf_n32 (FP.fdiv (FP.i2f (sumTo (gLN u) (cE u))) (FP.i2f (nI (cE u)))) → F (FP.fdiv (FP.i2f (sumTo (gLN u) (cE u))) (FP.i2f (nI (cE u)))) q) : w_X9_letShare0 q F := by
  have hb2 := hI.1.2.1.2
  have hn := (rx_6 h).trans hI.1.2.1.1
  have n0 : ¬ nI (cE u) = 0 := fun z => by
    have := nI_inj (a := cE u) (b := 0) (by omega) (by omega) z
    omega
  obtain ⟨m, hm, em⟩ := let_R hI
  have hv : vf_n32 (FP.fdiv (FP.i2f (sumTo (gLN u) (cE u))) (FP.i2f (nI (cE u)))) := by
    rw [← ln_eq hI, em]
    exact (ff_ok (cE u) (by omega) h0 m (by omega)).1
  unfold w_X9_letShare0
  rw [hn]
  refine ⟨fun _ => x_countLet h hI.1 ?_, fun z => absurd z n0⟩
  rw [hn, ln_eq hI]
  exact ⟨hv, k hv⟩
theorem e8_c (hI : Inv n u) {e : Nat} (he : e < cE u) : (u 8 e = -1 ∧ u 9 e = 0) ∨ (¬ u 8 e = -1 ∧ ¬ u 8 e < 0 ∧ 0 ≤ u 8 e ∧ ¬ u 9 e ≤ 0) := by
  have hb3 := hI.1.2.2.2
  rcases (hI.2.2.1 e he).2.2 with z | ⟨⟨s, hs, es⟩, l, l1, l9, el⟩
  · exact Or.inl z
  · refine Or.inr ⟨?_, ?_, ?_, ?_⟩
    · rw [es]
      exact nI_nm (by omega)
    · rw [es]
      exact nI_n0 (by omega)
    · rw [es]
      exact nI_le (a := 0) (Nat.zero_le _) (by omega)
    · rw [el]
      exact nI_nle (by omega) (by omega)
theorem z_echo1 (h : RX 1 q.1 u) (hI : Inv n u) {i : Nat} (hi : i < cE u) {a b c : Int32} {B : Int32 → Int32 → Int32 → Int32 → Int32 → aS → Prop} {K : Int32 → Int32 → Int32 → Int32 → aS → Prop}
    (go : B (a + gLN u i) (b + gDp u i) (c + u 10 i) 1 (nI (i + 1)) q) : (u 8 i < 0 → JL_areEchoesRight_71 (nI (cE u)) a b c 1 (nI i) 0 P B K q) ∧ (¬ u 8 i < 0 → JL_areEchoesRight_71 (nI (cE u)) a b c 1 (nI i) 1 P B K q) := by
  have end_ : ∀ {x y z : Int32}, x = a + gLN u i → y = b + gDp u i → z = c + u 10 i → ∀ w v : Int32, w = v → JL_areEchoesRight_168 (nI (cE u)) x y z (nI i) v w P B K q := fun {x y z} e1 e2 e3 w v ev => by
    unfold JL_areEchoesRight_168
    subst e1 e2 e3 ev
    refine nb_t rfl (k_Eb h hI hi (nb_t rfl (fun x22 e22 => ?_)))
    rw [nI_1] at e22
    subst e22
    exact go
  rcases e8_c hI hi with ⟨c8, c9⟩ | ⟨c8, cn, cp, c9⟩
  · have g1 : gLN u i = 0 := if_pos c8
    have g2 : gDp u i = 0 := if_pos c8
    refine br_t (by rw [c8]; decide) ?_
    unfold JL_areEchoesRight_71 JL_areEchoesRight_84
    refine br_t rfl (fun x7 e7 => br_t rfl ?_)
    unfold JL_areEchoesRight_103
    refine fun x8 e8 => y_E4 h hI hi (fun x11 e11 => br_f i10 (y_E3 h hI hi (br_t (by rw [c9]; decide) ?_)))
    unfold JL_areEchoesRight_139
    exact nb_t rfl (k_back h hI hi (fun z => absurd c8 z) (fun _ => br_t rfl (end_ (by rw [e7, g1]) (by rw [e8, g2]) e11 _ _ rfl)))
  · have g1 : gLN u i = 1 := if_neg c8
    have g2 : gDp u i = u 7 i := if_neg c8
    refine br_f cn ?_
    unfold JL_areEchoesRight_71 JL_areEchoesRight_84
    refine br_f i10 (fun x7 e7 => br_f i10 (y_E1 h hI hi ?_))
    unfold JL_areEchoesRight_103
    refine fun x8 e8 => y_E4 h hI hi (fun x11 e11 => br_f i10 (y_E3 h hI hi (br_f c9 ?_)))
    unfold JL_areEchoesRight_139
    exact nb_t rfl (k_back h hI hi (fun _ => br_f i10 (z_backOf h hI hi (end_ (by rw [e7, g1]) (by rw [e8, g2]) e11 _ _ rfl))) (fun z => absurd z c8))
/-- the order of echoes -/
theorem z_echo2 (h : RX 1 q.1 u) (hI : Inv n u) (c2 c3 c4 : Int32) {K : Int32 → aS → Prop} (k : K 1 q) : ∃ m, LL_areEchoesRight_201 (nI (cE u)) c2 c3 c4 P K m 1 0 q := by
  have hb2 := hI.1.2.1.2
  refine lp_0 (fun m v i => LL_areEchoesRight_201 (nI (cE u)) c2 c3 c4 P K m v i q) (fun _ v => v = 1) (cE u - 1) 1 rfl (fun m v hv => ?_) (fun m i v hi hv hk => ?_)
  · subst hv
    rw [LL_areEchoesRight_201, nI_1]
    exact ⟨fun _ => k, fun z => absurd (nI_le (by omega) (by omega)) z⟩
  · subst hv
    obtain ⟨j1, hj1, r1⟩ := rk_at (k1 := kE1 u) (k2 := kE2 u) (n := cE u) (k := i) (by omega)
    obtain ⟨j2, hj2, r2⟩ := rk_at (k1 := kE1 u) (k2 := kE2 u) (n := cE u) (k := i + 1) (by omega)
    have al := rk_next (k1 := kE1 u) (k2 := kE2 u) hj1 hj2 (by omega)
    rw [ahL_iff] at al
    obtain ⟨v1, l1⟩ := kE1_e hI hj1
    obtain ⟨v2, l2⟩ := kE1_e hI hj2
    have go : ∀ x : Int32, x = nI i + 1 → LL_areEchoesRight_201 (nI (cE u)) c2 c3 c4 P K m 1 x q := fun x e => by
      rw [e, nI_1]
      exact hk 1 rfl
    rw [LL_areEchoesRight_201, nI_1]
    refine ⟨fun z => absurd z (nI_ge (by omega) (by omega)), fun _ => y_strongest h hI hj1 r1 (y_strongest h hI hj2 r2 (y_E1 h hI hj1 (y_E1 h hI hj2 (fun x ex => y_E2 h hI hj1 ?_))))⟩
    rw [v1, v2] at ex
    subst ex
    have L1 : kE1 u j1 < 2 ^ 30 := by omega
    have L2 : kE1 u j2 < 2 ^ 30 := by omega
    have f : ∀ j, j < cE u → (0 ≤ u 8 j ∧ kE2 u j = 0) ∨ (¬ 0 ≤ u 8 j ∧ kE2 u j = 1) := fun j hj => by
      rcases e8_c hI hj with ⟨c8, _⟩ | ⟨c8, _, cp, _⟩
      · exact Or.inr ⟨by rw [c8]; decide, if_pos c8⟩
      · exact Or.inl ⟨cp, if_neg c8⟩
    have fin : ∀ a b : Int32, (a = b ∨ ¬ kE2 u j1 = kE2 u j2) → (a = 0 ∧ kE2 u j1 = 0 ∨ ¬ a = 0 ∧ kE2 u j1 = 1) → (b = 0 ∧ kE2 u j2 = 0 ∨ ¬ b = 0 ∧ kE2 u j2 = 1) → JL_areEchoesRight_276 (nI (cE u)) c2 c3 c4 1 (nI i) (nI j1) (nI j2) (nI (kE1 u j1) - nI (kE1 u j2)) a b P (fun v x q => LL_areEchoesRight_201 (nI (cE u)) c2 c3 c4 P K m v x q) K q := fun a b hab ha hb => by
      unfold JL_areEchoesRight_276 JL_areEchoesRight_303
      refine br_f i10 ⟨fun _ => go, fun np => ?_⟩
      rw [d_pos L1 L2] at np
      refine nb_t ((d_zero L1 L2).mpr (by omega)) ?_
      rcases ha with ⟨a0, k1⟩ | ⟨a1, k1⟩
      · have k2 : kE2 u j2 = 0 := by omega
        have b0 : b = 0 := by
          rcases hb with ⟨z, _⟩ | ⟨_, z⟩
          · exact z
          · omega
        exact br_t a0 (nb_t (a0.trans b0.symm) (br_f (nI_ge (by omega) (by omega)) go))
      · rcases hb with ⟨b0, k2⟩ | ⟨b1, k2⟩
        · exact br_f a1 (br_t b0 go)
        · have eab : a = b := by
            rcases hab with z | z
            · exact z
            · omega
          exact br_f a1 (br_f b1 (nb_t eab (br_f (nI_ge (by omega) (by omega)) go)))
    rcases f j1 hj1 with ⟨p1, k1⟩ | ⟨p1, k1⟩
    · refine br_t p1 ?_
      unfold JL_areEchoesRight_259
      rcases f j2 hj2 with ⟨p2, k2⟩ | ⟨p2, k2⟩
      · exact y_E2 h hI hj2 (br_t p2 (fin 0 0 (Or.inl rfl) (Or.inl ⟨rfl, k1⟩) (Or.inl ⟨rfl, k2⟩)))
      · exact y_E2 h hI hj2 (br_f p2 (fin 0 1 (Or.inr (by omega)) (Or.inl ⟨rfl, k1⟩) (Or.inr ⟨i10, k2⟩)))
    · refine br_f p1 ?_
      unfold JL_areEchoesRight_259
      rcases f j2 hj2 with ⟨p2, k2⟩ | ⟨p2, k2⟩
      · exact y_E2 h hI hj2 (br_t p2 (fin 1 0 (Or.inr (by omega)) (Or.inr ⟨i10, k1⟩) (Or.inl ⟨rfl, k2⟩)))
      · exact y_E2 h hI hj2 (br_f p2 (fin 1 1 (Or.inl rfl) (Or.inr ⟨i10, k1⟩) (Or.inr ⟨i10, k2⟩)))
theorem z_echoes (h : RX 1 q.1 u) (hI : Inv n u) (k : P 1 q) : w_L_areEchoesRight q P := by
  have hb2 := hI.1.2.1.2
  unfold w_L_areEchoesRight
  refine y_A1 h hI (k_strong h hI (nb_t rfl (k_Ex h hI 0 (nb_t rfl ?_))))
  refine lp_b (fun m (v : Int32 × Int32 × Int32 × Int32) i => LL_areEchoesRight_50 (nI (cE u)) P _ m v.1 v.2.1 v.2.2.1 v.2.2.2 i q) (fun j v => v = (sumTo (gLN u) j, sumTo (gDp u) j, sumTo (u 10) j, 1)) (cE u) 9 (by omega) (0, 0, 0, 1) rfl (fun m v hv => ?_) (fun m i v hi hv hk => ?_)
  · subst hv
    show LL_areEchoesRight_50 _ P _ (m + 1) (sumTo (gLN u) (cE u)) (sumTo (gDp u) (cE u)) (sumTo (u 10) (cE u)) 1 _ q
    rw [LL_areEchoesRight_50]
    refine ⟨fun _ => z_echo2 h hI _ _ _ ?_, fun z => absurd (nI_le (Nat.le_refl _) (by omega)) z⟩
    refine br_f i10 (y_A3 h hI (nb_t (ln_eq hI) (y_A11 h hI (nb_t rfl (y_A8 h hI (y_A9 h hI (y_A10 h hI (nb_t hI.2.2.2.2.2.1 (y_A7 h hI (nb_t rfl (y_told h hI (br_f i10 ?_))))))))))))
    unfold JL_areEchoesRight_401
    refine br_f i10 ⟨fun _ => k, fun c => y_share h hI ?_ (fun hv => ⟨hv, nb_t (cmp_f hv) k⟩)⟩
    by_cases c0 : cE u = 0
    · rw [c0] at c
      exact absurd rfl c
    · omega
  · subst hv
    show LL_areEchoesRight_50 _ P _ (m + 1) (sumTo (gLN u) i) (sumTo (gDp u) i) (sumTo (u 10) i) 1 _ q
    rw [LL_areEchoesRight_50]
    exact ⟨fun z => absurd z (nI_ge hi (by omega)), fun _ => y_E2 h hI hi (z_echo1 h hI hi (hk (_, _, _, _) rfl))⟩
end ECH

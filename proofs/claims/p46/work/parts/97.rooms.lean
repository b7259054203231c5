/-! the rooms -/
theorem dr_k : ∀ d, d < 10 → ¬ 2 * ((nI d + 1) / 2) < nI d ∧ ¬ nI d + 1 < 2 * ((nI d + 1) / 2) := by decide +kernel
section ROO
variable {q : aS} {u : pU} {n : Nat} {P : Int32 → aS → Prop}
theorem y_mean {F : UInt64 → aS → Prop} (h : RX 1 q.1 u) (hI : Inv n u) (h0 : 0 < cR u) (k : vf_n64 (FP.ddiv (FP.i2d (sumTo (u 3) (cR u))) (FP.i2d (nI (cR u)))) → F (FP.ddiv (FP.i2d (sumTo (u 3) (cR u))) (FP.i2d (nI (cR u)))) q) : w_X9_meanDamp0 q F := by
  have hb1 := hI.1.1.2
  have hn := (rx_2 h).trans hI.1.1.1
  have n0 : ¬ nI (cR u) = 0 := fun z => by
    have := nI_inj (a := cR u) (b := 0) (by omega) (by omega) z
    omega
  obtain ⟨m, hm, em⟩ := damp_R hI
  have hv : vf_n64 (FP.ddiv (FP.i2d (sumTo (u 3) (cR u))) (FP.i2d (nI (cR u)))) := by
    rw [em]
    exact dd_ok (cR u) (by omega) h0 m (by omega)
  unfold w_X9_meanDamp0
  rw [hn]
  refine ⟨fun _ => x_dampOfAll h hI.1 ?_, fun z => absurd z n0⟩
  rw [hn]
  exact ⟨hv, k hv⟩
/-- the echoes of a room, and the free ones -/
theorem z_room1 (h : RX 1 q.1 u) (hI : Inv n u) (c1 c2 c3 c4 : Int32) (r : Nat) {K : Int32 → Int32 → aS → Prop} (k : K (nI (cB (fun j => decide (u 6 j = nI r)) (cE u))) (pFin u (nI r)) q) : ∃ m, LL_areRoomsRight_76 c1 c2 c3 c4 (nI r) P K m 0 0 0 q := by
  have hb2 := hI.1.2.1.2
  refine lp_0 (fun m (v : Int32 × Int32) i => LL_areRoomsRight_76 c1 c2 c3 c4 (nI r) P K m v.1 v.2 i q) (fun j v => v = (nI (cB (fun j => decide (u 6 j = nI r)) j), orTo (gFin u (nI r)) j)) (cE u) (0, 0) rfl (fun m v hv => ?_) (fun m i v hi hv hk => ?_)
  · subst hv
    show LL_areRoomsRight_76 c1 c2 c3 c4 (nI r) P K (m + 1) (nI (cB (fun j => decide (u 6 j = nI r)) (cE u))) (orTo (gFin u (nI r)) (cE u)) _ q
    rw [LL_areRoomsRight_76]
    exact y_A1 h hI ⟨fun _ => k, fun z => absurd (nI_le (Nat.le_refl _) (by omega)) z⟩
  · subst hv
    have go : ∀ x y z : Int32, x = nI (cB (fun j => decide (u 6 j = nI r)) (i + 1)) → y = orTo (gFin u (nI r)) (i + 1) → z = nI i + 1 → LL_areRoomsRight_76 c1 c2 c3 c4 (nI r) P K m x y z q := fun x y z e1 e2 e3 => by
      rw [e1, e2, e3, nI_1]
      exact hk (_, _) rfl
    show LL_areRoomsRight_76 c1 c2 c3 c4 (nI r) P K (m + 1) (nI (cB (fun j => decide (u 6 j = nI r)) i)) (orTo (gFin u (nI r)) i) _ q
    rw [LL_areRoomsRight_76]
    refine y_A1 h hI ⟨fun z => absurd z (nI_ge hi (by omega)), fun _ => y_E0 h hI hi ⟨fun c => ?_, fun c => ?_⟩⟩
    · unfold JL_areRoomsRight_103 JL_areRoomsRight_117
      refine br_t rfl (fun x9 e9 => br_t rfl (fun x10 e10 x11 e11 => go _ _ _ ?_ ?_ e11))
      · rw [e9, ← cB_s0 (f := fun j => decide (u 6 j = nI r)) (by simpa using c), Int32.add_zero]
      · rw [e10]
        show _ = orTo _ i ||| gFin u (nI r) i
        rw [gFin, if_neg (fun z => c z.1)]
    · have e1 : ∀ x9 : Int32, x9 = nI (cB (fun j => decide (u 6 j = nI r)) i) + 1 → x9 = nI (cB (fun j => decide (u 6 j = nI r)) (i + 1)) := fun x9 e9 => by
        rw [e9, cB_s1 (f := fun j => decide (u 6 j = nI r)) (by simpa using c)]
      unfold JL_areRoomsRight_103 JL_areRoomsRight_117
      refine br_f i10 (fun x9 e9 => br_f i10 (y_E2 h hI hi ?_))
      rcases e8_c hI hi with ⟨c8, _⟩ | ⟨c8, _, cp, _⟩
      · refine br_f (by rw [c8]; decide) (fun x10 e10 x11 e11 => go _ _ _ (e1 _ e9) ?_ e11)
        rw [e10]
        show _ = orTo _ i ||| gFin u (nI r) i
        rw [gFin, if_pos ⟨c, c8⟩]
      · refine br_t cp (fun x10 e10 x11 e11 => go _ _ _ (e1 _ e9) ?_ e11)
        rw [e10]
        show _ = orTo _ i ||| gFin u (nI r) i
        rw [gFin, if_neg (fun z => c8 z.2)]
theorem ein_c (hI : Inv n u) (x : Int32) : bc_ (pEin u x) = nI (cB (fun j => decide (u 6 j = x)) (cE u)) := by
  rw [ein_m hI.1 x]
  exact bc_mask _ hI.1.2.1.2
/-- the order of rooms -/
theorem z_room2 (h : RX 1 q.1 u) (hI : Inv n u) (c2 c3 : Int32) {K : Int32 → aS → Prop} (k : K 1 q) : ∃ m, LL_areRoomsRight_323 (nI (cR u)) c2 c3 P K m 1 0 q := by
  have hb1 := hI.1.1.2
  have hb3 := hI.1.2.2.2
  refine lp_0 (fun m v i => LL_areRoomsRight_323 (nI (cR u)) c2 c3 P K m v i q) (fun _ v => v = 1) (cR u - 1) 1 rfl (fun m v hv => ?_) (fun m i v hi hv hk => ?_)
  · subst hv
    rw [LL_areRoomsRight_323, nI_1]
    exact ⟨fun _ => k, fun z => absurd (nI_le (by omega) (by omega)) z⟩
  · subst hv
    obtain ⟨j1, hj1, r1⟩ := rk_at (k1 := kR1 u) (k2 := kR2 u) (n := cR u) (k := i) (by omega)
    obtain ⟨j2, hj2, r2⟩ := rk_at (k1 := kR1 u) (k2 := kR2 u) (n := cR u) (k := i + 1) (by omega)
    have al := rk_next (k1 := kR1 u) (k2 := kR2 u) hj1 hj2 (by omega)
    rw [ahL_iff] at al
    obtain ⟨v1, l1⟩ := kR1_e hI hj1
    obtain ⟨v2, l2⟩ := kR1_e hI hj2
    have w1 : bc_ (pSin u (nI j1)) = nI (kR2 u j1) := sin_cnt hI.1 _
    have w2 : bc_ (pSin u (nI j2)) = nI (kR2 u j2) := sin_cnt hI.1 _
    have m1 : kR2 u j1 ≤ cS u := cB_le _ _
    have m2 : kR2 u j2 ≤ cS u := cB_le _ _
    have go : ∀ x : Int32, x = nI (i + 1) → LL_areRoomsRight_323 (nI (cR u)) c2 c3 P K m 1 x q := fun x e => by
      rw [e]
      exact hk 1 rfl
    rw [LL_areRoomsRight_323, nI_1]
    refine ⟨fun z => absurd z (nI_ge (by omega) (by omega)), fun _ => y_dampest h hI hj1 r1 (y_dampest h hI hj2 r2 (y_R1 h hI hj1 (y_R1 h hI hj2 (fun x ex => y_R2 h hI hj1 (y_R2 h hI hj2 (fun y ey => ?_))))))⟩
    rw [v1, v2] at ex
    rw [w1, w2] at ey
    subst ex ey
    have L1 : kR1 u j1 < 2 ^ 30 := by omega
    have L2 : kR1 u j2 < 2 ^ 30 := by omega
    have M1 : kR2 u j1 < 2 ^ 30 := by omega
    have M2 : kR2 u j2 < 2 ^ 30 := by omega
    refine br_f i10 ⟨fun _ => go, fun np => ?_⟩
    rw [d_pos L1 L2] at np
    refine nb_t ((d_zero L1 L2).mpr (by omega)) ⟨fun _ => go, fun np2 => ?_⟩
    rw [d_pos M1 M2] at np2
    exact nb_t ((d_zero M1 M2).mpr (by omega)) (br_f (nI_ge (by omega) (by omega)) go)
theorem z_rooms (h : RX 1 q.1 u) (hI : Inv n u) (k : P 1 q) : w_L_areRoomsRight q P := by
  have hb1 := hI.1.1.2
  unfold w_L_areRoomsRight
  refine y_A0 h hI (k_damp h hI (nb_t rfl (k_dampM h hI (nb_t rfl (k_Rx h hI 0 (nb_t rfl ?_))))))
  refine lp_b (fun m (v : Int32 × Int32 × Int32) i => LL_areRoomsRight_61 (nI (cR u)) P _ m v.1 v.2.1 v.2.2 i q) (fun j v => v = (sumTo (u 3) j, sumTo (u 4) j, 1)) (cR u) 7 (by omega) (0, 0, 1) rfl (fun m v hv => ?_) (fun m i v hi hv hk => ?_)
  · subst hv
    show LL_areRoomsRight_61 _ P _ (m + 1) (sumTo (u 3) (cR u)) (sumTo (u 4) (cR u)) 1 _ q
    rw [LL_areRoomsRight_61]
    refine ⟨fun _ => z_room2 h hI _ _ ?_, fun z => absurd (nI_le (Nat.le_refl _) (by omega)) z⟩
    refine br_f i10 (y_A5 h hI (nb_t rfl (y_A6 h hI (nb_t rfl ⟨fun _ => k, fun c => y_mean h hI ?_ (fun hv => ⟨hv, nb_t (cmp_d hv) k⟩)⟩))))
    by_cases c0 : cR u = 0
    · rw [c0] at c
      exact absurd rfl c
    · omega
  · subst hv
    obtain ⟨d, -, hd, ed⟩ := (hI.2.1 i hi).2
    have dk := dr_k d (by omega)
    have lc : bc_ (pEin u (nI i) &&& (pFin u (nI i) ^^^ (-1))) = nI (cB (fun j => decide (u 6 j = nI i)) (cE u)) - bc_ (pFin u (nI i)) := by
      rw [let_cnt hI.1, ein_c hI]
    rw [← ed] at dk
    show LL_areRoomsRight_61 _ P _ (m + 1) (sumTo (u 3) i) (sumTo (u 4) i) 1 _ q
    rw [LL_areRoomsRight_61]
    refine ⟨fun z => absurd z (nI_ge hi (by omega)), fun _ => z_room1 h hI _ _ _ _ i ?_⟩
    refine y_R1 h hI hi (fun x23 e23 => y_R5 h hI hi (fun x26 e26 => br_f i10 (y_others h hI hi (z_singersIn h hI _ (nb_t rfl (y_R2 h hI hi (z_singersIn h hI _ (x_bc _ (nb_t rfl (y_R3 h hI hi (nb_t (ein_c hI _) (y_free h hI hi (nb_t rfl (y_R4 h hI hi (x_bc _ (nb_t lc (y_dry h hI hi (y_R1 h hI hi (br_f dk.1 (y_dry h hI hi (y_R1 h hI hi (br_f dk.2 (k_Rb h hI hi (nb_t rfl (fun x e => ?_)))))))))))))))))))))))))
    rw [nI_1] at e
    subst e23 e26 e
    exact hk (_, _, _) rfl
end ROO

/-! what the law does to the council keeps it in order -/
def J (n : Nat) (q : aS) : Prop := ∃ (u : pU) (cc pp : Nat) (hh : Nat → pU), RX 1 q.1 u ∧ Inv n u ∧ HX cc pp hh q.1
theorem J.wd {n m : Nat} {q : aS} (h : J n q) (hm : n ≤ m) : J m q := by
  obtain ⟨u, cc, pp, hh, h1, h2, h3⟩ := h
  exact ⟨u, cc, pp, hh, h1, h2.wd hm, h3⟩
/-- loops that end when they are told to -/
theorem lp_u {σ : Type} (L : Nat → σ → Int32 → Prop) (I : Nat → σ → Prop) (e : Nat)
    (hs : ∀ n i s, i ≤ e → I i s → (i < e → ∀ s', I (i + 1) s' → L n s' (nI (i + 1))) → L (n + 1) s (nI i)) (s : σ) (h0 : I 0 s) : ∃ n, n ≤ e + 1 ∧ L n s 0 := by
  have key : ∀ d i s, i + d = e → I i s → L (d + 1) s (nI i) := by
    intro d
    induction d with
    | zero => exact fun i s hi hI => hs 0 i s (by omega) hI (fun z => absurd z (by omega))
    | succ d ih => exact fun i s hi hI => hs (d + 1) i s (by omega) hI (fun _ s' hs' => ih (i + 1) s' (by omega) hs')
  refine ⟨e + 1, Nat.le_refl _, ?_⟩
  have h := key e 0 s (by omega) h0
  rw [nI_0] at h
  exact h
theorem ushr_8 (x : Int32) : ∃ j : Nat, j < 2 ^ 24 ∧ ushr x 8 = nI j := by
  have h : (ushr x 8).toBitVec.toNat = x.toBitVec.toNat / 2 ^ 8 := pk_ushr x 8 8 (by decide +kernel)
  have hx := x.toBitVec.isLt
  refine ⟨x.toBitVec.toNat / 2 ^ 8, by omega, ?_⟩
  refine Int32.toBitVec_inj.mp (BitVec.eq_of_toNat_eq ?_)
  rw [h]
  show _ = (BitVec.ofNat 32 (x.toBitVec.toNat / 2 ^ 8)).toNat
  rw [BitVec.toNat_ofNat, Nat.mod_eq_of_lt (by omega)]
theorem nI_div {a b : Nat} (ha : a < 2 ^ 31) (hb : b < 2 ^ 31) : nI a / nI b = nI (a / b) := by
  have hd : a / b ≤ a := Nat.div_le_self a b
  refine Int32.toInt_inj.mp ?_
  rw [Int32.toInt_div, nI_toInt ha, nI_toInt hb, nI_toInt (by omega), Int.tdiv_eq_ediv_of_nonneg (by omega), ← Int.natCast_ediv]
  generalize a / b = c at hd ⊢
  exact Int.bmod_eq_of_le (by omega) (by omega)
theorem nI_rem {a b : Nat} (ha : a < 2 ^ 31) (hb : b < 2 ^ 31) : nI a - nI a / nI b * nI b = nI (a % b) := by
  rw [nI_div ha hb, nI_mul]
  have e : nI a = nI (a % b) + nI (a / b * b) := by
    rw [nI_add, Nat.mul_comm, Nat.mod_add_div]
  rw [e, Int32.add_sub_cancel]
section LAY
variable {sa sn : Nat} {xs : Nat → Int32} {q : aS} {n : Nat} {P : Int32 → aS → Prop}
theorem y_pick (hsn : sn < 2 ^ 31) {x m : Int32} {i : Nat} (hi : i < 2 ^ 31) (hx : x = nI i) (hm : ¬ m = 0) (k : ∀ r : Int32, P (ushr r 8 - ushr r 8 / m * m) q) : w_L_pick sa sn xs x m q P := by
  subst hx
  unfold w_L_pick w_L_cell JL_cell_15
  refine ⟨fun _ => fun x2 _ x3 _ => ⟨hm, k _⟩, fun c => ⟨?_, fun x2 _ x3 _ => ⟨hm, k _⟩⟩⟩
  refine vp_in_nI ?_ hsn
  rw [show Int32.ofNat sn = nI sn from rfl, nI_leI hsn hi] at c
  omega
theorem y_pickA (hsn : sn < 2 ^ 31) {x m : Int32} {i : Nat} (hi : i < 2 ^ 31) (hx : x = nI i) (hm : ¬ m = 0) (k : ∀ r : Int32, P r q) : w_L_pick sa sn xs x m q P := y_pick hsn hi hx hm (fun _ => k _)
theorem y_pickB (hsn : sn < 2 ^ 31) {x m : Int32} {i b : Nat} (hi : i < 2 ^ 31) (hx : x = nI i) (hb : b < 1000) (hm : m = nI (b + 1)) (k : ∀ r : Int32, r ≤ nI b → P r q) : w_L_pick sa sn xs x m q P := by
  have hb0 : 0 < b + 1 := by omega
  subst hm
  refine y_pick hsn hi hx (fun z => ?_) (fun r => ?_)
  · have := nI_inj (a := b + 1) (b := 0) (by omega) (by omega) z
    omega
  · obtain ⟨j, hj, ej⟩ := ushr_8 r
    rw [ej, nI_rem (by omega) (by omega)]
    have hl := Nat.mod_lt j hb0
    exact k _ (nI_le (by omega) (by omega))

theorem z_chg (hJ : J n q) {k : Nat} (hk : k < 10) (a b c : Int32) (kk : ∀ r q', J (n + 1) q' → P r q') : w_X9_change k a b c q (fun r q' => P r q') (fun E q2 => (E = "java/lang/IllegalArgumentException" ∧ P (-2003) q2) ∨ (E = "java/lang/UnsupportedOperationException" ∧ P (-2001) q2)) := by
  obtain ⟨u, cc, pp, hh, h1, h2, h3⟩ := hJ
  refine x_change h1 h2 hk a b c h3 (fun hr d' r1 r2 _ => kk _ _ ⟨_, _, _, _, r1, v_do h2 hk a b c hr, r2⟩) (fun hr => Or.inr ⟨rfl, kk _ _ ⟨u, cc, pp, hh, h1.cg (fun s _ _ => kp_ne _ _ _ (by omega)), h2.wd (by omega), h3.cg (fun s _ _ => kp_ne _ _ _ (by omega))⟩⟩)
theorem z_deed0 (hJ : J n q) (a b c : Int32) (kk : ∀ r q', J (n + 1) q' → P r q') : w_L_deed 0 a b c q P := by
  unfold w_L_deed w_L_plain
  refine br_t (by decide) (?_)
  unfold w_X9_room
  exact z_chg hJ (by decide) a 0 0 kk
theorem z_deed1 (hJ : J n q) (a b c : Int32) (kk : ∀ r q', J (n + 1) q' → P r q') : w_L_deed 1 a b c q P := by
  unfold w_L_deed w_L_plain
  refine br_f (by decide) (br_t (by decide) (?_))
  unfold w_X9_echo
  exact z_chg hJ (by decide) a b 0 kk
theorem z_deed2 (hJ : J n q) (a b c : Int32) (kk : ∀ r q', J (n + 1) q' → P r q') : w_L_deed 2 a b c q P := by
  unfold w_L_deed w_L_plain
  refine br_f (by decide) (br_f (by decide) (br_t (by decide) (?_)))
  unfold w_X9_singer
  exact z_chg hJ (by decide) a b 0 kk
theorem z_deed3 (hJ : J n q) (a b c : Int32) (kk : ∀ r q', J (n + 1) q' → P r q') : w_L_deed 3 a b c q P := by
  unfold w_L_deed w_L_plain
  refine br_f (by decide) (br_f (by decide) (br_f (by decide) (br_t (by decide) (?_))))
  unfold w_X9_enter
  exact z_chg hJ (by decide) a b 0 kk
theorem z_deed4 (hJ : J n q) (a b c : Int32) (kk : ∀ r q', J (n + 1) q' → P r q') : w_L_deed 4 a b c q P := by
  unfold w_L_deed w_L_plain
  refine br_f (by decide) (br_f (by decide) (br_f (by decide) (br_f (by decide) (br_t (by decide) (?_)))))
  unfold w_X9_out
  exact z_chg hJ (by decide) a 0 0 kk
theorem z_deed5 (hJ : J n q) (a b c : Int32) (kk : ∀ r q', J (n + 1) q' → P r q') : w_L_deed 5 a b c q P := by
  unfold w_L_deed w_L_plain
  refine br_f (by decide) (br_f (by decide) (br_f (by decide) (br_f (by decide) (br_f (by decide) (br_t (by decide) (?_))))))
  unfold w_X9_carry
  exact z_chg hJ (by decide) a b 0 kk
theorem z_deed6 (hJ : J n q) (a b c : Int32) (kk : ∀ r q', J (n + 1) q' → P r q') : w_L_deed 6 a b c q P := by
  unfold w_L_deed w_L_plain
  refine br_f (by decide) (br_f (by decide) (br_f (by decide) (br_f (by decide) (br_f (by decide) (br_f (by decide) (br_t (by decide) (?_)))))))
  unfold w_X9_rent
  exact z_chg hJ (by decide) a b c kk
theorem z_deed7 (hJ : J n q) (a b c : Int32) (kk : ∀ r q', J (n + 1) q' → P r q') : w_L_deed 7 a b c q P := by
  unfold w_L_deed w_L_plain
  refine br_f (by decide) (br_f (by decide) (br_f (by decide) (br_f (by decide) (br_f (by decide) (br_f (by decide) (br_f (by decide) (br_t (by decide) (?_))))))))
  unfold w_X9_back
  exact z_chg hJ (by decide) a b 0 kk
theorem z_deed8 (hJ : J n q) (a b c : Int32) (kk : ∀ r q', J (n + 1) q' → P r q') : w_L_deed 8 a b c q P := by
  unfold w_L_deed w_L_plain
  refine br_f (by decide) (br_f (by decide) (br_f (by decide) (br_f (by decide) (br_f (by decide) (br_f (by decide) (br_f (by decide) (br_f (by decide) (br_t (by decide) (?_)))))))))
  unfold w_X9_sing
  exact z_chg hJ (by decide) a 0 0 kk
theorem z_deed9 (hJ : J n q) (a b c : Int32) (kk : ∀ r q', J (n + 1) q' → P r q') : w_L_deed 9 a b c q P := by
  unfold w_L_deed w_L_plain
  refine br_f (by decide) (br_f (by decide) (br_f (by decide) (br_f (by decide) (br_f (by decide) (br_f (by decide) (br_f (by decide) (br_f (by decide) (br_f (by decide) (br_t (by decide) (?_))))))))))
  unfold w_X9_night
  obtain ⟨u, cc, pp, hh, h1, h2, h3⟩ := hJ
  have hr : (pRef 9 0 0 0 u).1 = 0 := by rw [pR_9]
  refine x_keepH (by decide) h1 h3 (fun d1 g1 g2 => ?_)
  have h := x_do (q := (d1, q.2)) (P := P) (h1.cg (fun s s1 s2 => g2 s (by omega))) h2 (k := 9) (by decide) 0 0 0 hr (fun d2 f1 f2 => kk _ _ ⟨_, _, _, _, f1, v_do h2 (by decide) 0 0 0 hr, g1.cg (fun s s1 s2 => f2 s (by omega))⟩)
  rw [dO_9] at h
  exact h
/-- the laying -/
theorem z_lay (hsn : sn < 2 ^ 31) (hJ : J 0 q) (kk : ∀ q', J 50 q' → P 0 q') : w_L_lay sa sn xs q P := by
  have nx : ∀ {i : Nat} {x : Int32}, x = nI i + 1 → x = nI (i + 1) := fun e => e.trans (nI_1 _)
  unfold w_L_lay
  refine lp_u (fun m (v : Int32 × aS) i => LL_lay_4 sa sn xs P _ m v.1 i v.2) (fun j v => J j v.2) 6 (fun m i v hi hv hk => ?_) (0, q) hJ
  show LL_lay_4 _ _ _ _ _ (m + 1) v.1 (nI i) v.2
  rw [LL_lay_4]
  refine y_pickB hsn (i := 0) (by decide) rfl (b := 6) (by decide) rfl (fun r hr => ⟨fun _ => ?_, fun c => ?_⟩)
  rotate_left
  · have hi6 : i < 6 := by
      by_cases z : i = 6
      · subst z
        exact absurd hr c
      · omega
    refine y_pickA hsn (i := 1 + i) (by omega) (nI_add 1 i) (by decide) (fun r3 => z_deed0 hv _ _ _ (fun r5 q6 hJ6 x7 e7 x8 e8 => ?_))
    rw [nx e8]
    exact hk hi6 (x7, q6) hJ6
  have hv1 := hv.wd (m := 6) hi
  refine lp_u (fun m (v : Int32 × aS) i => LL_lay_44 sa sn xs P _ m v.1 i v.2) (fun j v => J (6 + j) v.2) 8 (fun m i v hi hv hk => ?_) (v.1, v.2) hv1
  show LL_lay_44 _ _ _ _ _ (m + 1) v.1 (nI i) v.2
  rw [LL_lay_44]
  refine y_pickB hsn (i := 10) (by decide) rfl (b := 8) (by decide) rfl (fun r hr => ⟨fun _ => ?_, fun c => ?_⟩)
  rotate_left
  · have hi6 : i < 8 := by
      by_cases z : i = 8
      · subst z
        exact absurd hr c
      · omega
    refine y_pickA hsn (i := 11 + i) (by omega) (nI_add 11 i) (by decide) (fun r3 => y_pickA hsn (i := 21 + i) (by omega) (nI_add 21 i) (by decide) (fun r4 => z_deed1 hv _ _ _ (fun r5 q6 hJ6 x7 e7 x8 e8 => ?_)))
    rw [nx e8]
    exact hk hi6 (x7, q6) hJ6
  have hv2 := hv.wd (m := 14) (by omega)
  refine lp_u (fun m (v : Int32 × aS) i => LL_lay_94 sa sn xs P _ m v.1 i v.2) (fun j v => J (14 + 2 * j) v.2) 6 (fun m i v hi hv hk => ?_) (v.1, v.2) hv2
  show LL_lay_94 _ _ _ _ _ (m + 1) v.1 (nI i) v.2
  rw [LL_lay_94]
  refine y_pickB hsn (i := 30) (by decide) rfl (b := 6) (by decide) rfl (fun r hr => ⟨fun _ => ?_, fun c => ?_⟩)
  rotate_left
  · have hi6 : i < 6 := by
      by_cases z : i = 6
      · subst z
        exact absurd hr c
      · omega
    have go : ∀ m9 : Int32, ¬ m9 = 0 → JL_lay_132 sa sn xs (nI i) m9 (31 + nI i) 2 v.1 P (fun a b c => LL_lay_94 sa sn xs P (fun y40 q41 => ∃ M55, M55 ≤ 12 ∧ LL_lay_178 sa sn xs P (fun q54 => P 0 q54) M55 y40 0 q41) m a b c) (fun y40 q41 => ∃ M55, M55 ≤ 12 ∧ LL_lay_178 sa sn xs P (fun q54 => P 0 q54) M55 y40 0 q41) v.2 := fun m9 h9 => by
      unfold JL_lay_132
      refine y_pickA hsn (i := 31 + i) (by omega) (nI_add 31 i) h9 (fun r3 => y_pickA hsn (i := 51 + i) (by omega) (nI_add 51 i) (by decide) (fun r4 => z_deed2 hv _ _ _ (fun r5 q6 hJ6 x7 e7 => y_pickA hsn (i := 61 + i) (by omega) (nI_add 61 i) (by decide) (fun r6 => z_deed3 hJ6 _ _ _ (fun r7 q8 hJ8 x8 e8 x9 e9 => ?_)))))
      rw [nx e9]
      exact hk hi6 (x8, q8) (hJ8.wd (by omega))
    exact y_pickA hsn (i := 41 + i) (by omega) (nI_add 41 i) (by decide) (fun r2 => ⟨fun _ => go 5 (by decide), fun _ => go 10 (by decide)⟩)
  have hv3 := hv.wd (m := 26) (by omega)
  refine lp_u (fun m (v : Int32 × aS) i => LL_lay_178 sa sn xs P _ m v.1 i v.2) (fun j v => J (26 + j) v.2) 11 (fun m i v hi hv hk => ?_) (v.1, v.2) hv3
  show LL_lay_178 _ _ _ _ _ (m + 1) v.1 (nI i) v.2
  rw [LL_lay_178]
  refine y_pickB hsn (i := 70) (by decide) rfl (b := 11) (by decide) rfl (fun r hr => ⟨fun _ => kk _ (hv.wd (by omega)), fun c => ?_⟩)
  have hi6 : i < 11 := by
    by_cases z : i = 11
    · subst z
      exact absurd hr c
    · omega
  refine y_pickA hsn (i := 71 + i) (by omega) (nI_add 71 i) (by decide) (fun r3 => y_pickA hsn (i := 91 + i) (by omega) (nI_add 91 i) (by decide) (fun r4 => y_pickA hsn (i := 111 + i) (by omega) (nI_add 111 i) (by decide) (fun r9 => z_deed6 hv _ _ _ (fun r5 q6 hJ6 x7 e7 x8 e8 => ?_))))
  rw [nx e8]
  exact hk hi6 (x7, q6) hJ6
theorem mx_0 : ∀ c, c < 9 → ¬ (if 1 < nI c then nI c else 1) = 0 ∧ ¬ (if 1 < nI c then nI c else 1) + 1 = 0 := by decide +kernel
/-- one change or verse -/
theorem z_any (hsn : sn < 2 ^ 31) {i : Nat} (hi : i < 100000) (hJ : J n q) (kk : ∀ r q', J (n + 1) q' → P r q') : w_L_any sa sn xs (nI i) q P := by
  have hJ' := hJ
  obtain ⟨u, cc, pp, hh, h1, h2, h3⟩ := hJ'
  have hb1 := h2.1.1.2
  have hb2 := h2.1.2.1.2
  have hb3 := h2.1.2.2.2
  unfold w_L_any
  refine y_A2 h1 h2 (fun x4 e4 => y_A1 h1 h2 (fun x7 e7 => y_A0 h1 h2 (fun x10 e10 => ?_)))
  have m4 := (mx_0 (cS u) (by omega)).1
  have m7 := (mx_0 (cE u) (by omega)).1
  have m10 := (mx_0 (cR u) (by omega)).1
  have m11 := (mx_0 (cR u) (by omega)).2
  rw [← e4] at m4
  rw [← e7] at m7
  rw [← e10] at m10 m11
  have p1 : ∀ {m : Int32} {Q : Int32 → aS → Prop}, ¬ m = 0 → (∀ r, Q r q) → w_L_pick sa sn xs (nI i + 1) m q Q := fun hm k => y_pickA hsn (i := i + 1) (by omega) (nI_add i 1) hm k
  have p2 : ∀ {m : Int32} {Q : Int32 → aS → Prop}, ¬ m = 0 → (∀ r, Q r q) → w_L_pick sa sn xs (nI i + 2) m q Q := fun hm k => y_pickA hsn (i := i + 2) (by omega) (nI_add i 2) hm k
  have p3 : ∀ {m : Int32} {Q : Int32 → aS → Prop}, ¬ m = 0 → (∀ r, Q r q) → w_L_pick sa sn xs (nI i + 3) m q Q := fun hm k => y_pickA hsn (i := i + 3) (by omega) (nI_add i 3) hm k
  have j191 : JL_any_191 sa sn xs (nI i) x4 x10 P q := by
    unfold JL_any_191
    exact p1 m4 (fun _ => p2 m11 (fun _ => z_deed3 hJ _ _ _ kk))
  have j233 : JL_any_233 sa sn xs (nI i) x7 x10 P q := by
    unfold JL_any_233
    exact p1 m7 (fun _ => p2 m10 (fun _ => z_deed5 hJ _ _ _ kk))
  have j258 : JL_any_258 sa sn xs (nI i) x4 x7 P q := by
    unfold JL_any_258
    exact p1 m4 (fun _ => p2 m7 (fun _ => p3 (by decide) (fun _ => z_deed6 hJ _ _ _ kk)))
  refine y_pickA hsn (i := i) (by omega) rfl (by decide) (fun r => ?_)
  have d9 : ∀ x : aS, x = q → w_L_deed 9 0 0 0 x P := fun x e => by
    subst e
    exact z_deed9 hJ _ _ _ kk
  refine ⟨fun _ => p1 (by decide) (fun _ => z_deed0 hJ _ _ _ kk), fun _ => ⟨fun _ => p1 m10 (fun _ => p2 (by decide) (fun _ => z_deed1 hJ _ _ _ kk)), fun _ => ⟨fun _ => p1 (by decide) (fun _ => p2 (by decide) (fun _ => z_deed2 hJ _ _ _ kk)), fun _ => ⟨fun _ => j191, fun _ => ⟨fun _ => j191, fun _ => ⟨fun _ => j191, fun _ => ⟨fun _ => p1 m4 (fun _ => z_deed4 hJ _ _ _ kk), fun _ => ⟨fun _ => j233, fun _ => ⟨fun _ => j233, fun _ => ⟨fun _ => j258, fun _ => ⟨fun _ => j258, fun _ => ⟨fun _ => j258, fun _ => ⟨fun _ => j258, fun _ => ⟨fun _ => j258, fun _ => ⟨fun _ => p1 m4 (fun _ => p2 m7 (fun _ => z_deed7 hJ _ _ _ kk)), fun _ => ⟨fun _ => d9 _ rfl, fun _ => ⟨fun _ => d9 _ rfl, fun _ => p1 m4 (fun _ => z_deed8 hJ _ _ _ kk)⟩⟩⟩⟩⟩⟩⟩⟩⟩⟩⟩⟩⟩⟩⟩⟩⟩
end LAY

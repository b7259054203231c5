/-! the reference: sing, night -/
theorem up2_comm (u : pU) {i j i' j' : Nat} (x y : Int32) (h : i ≠ i' ∨ j ≠ j') : up2 (up2 u i j x) i' j' y = up2 (up2 u i' j' y) i j x := by
  funext a b
  simp only [up2_at]
  grind
section MR3
variable {q : aS} {u : pU} {P : Int32 → aS → Prop} {n : Nat}
theorem r_V1 (h : RM (q.1 1) 0 u) (hc : Cnt u) (he : Ech u) {j s : Nat} (hj : j < cE u) (hs : s < 6) (es : u 8 j = nI s) {B : Int32 → aS → Prop} {v : Int32} (k : ∀ d', RM (d' 1) 0 (pV1 u j) → frM q.1 d' → B (v + pW u j) (d', q.2)) :
    w_X10_worthOf (nI j) q (fun r23 q24 => ∀ x25 : Int32, x25 = (v + r23) → (vp_in (27 + 5 * nI j + 4) 97 ∧ (vp_in (27 + 5 * nI j + 4) 97 ∧ ∀ q26 : aS, q26 = (up2 q24.1 1 (Int32.toNatClampNeg (27 + 5 * nI j + 4)) ((q24.1 1 (Int32.toNatClampNeg (27 + 5 * nI j + 4))) + r23), q24.2) → (vp_in (27 + 5 * nI j + 3) 97 ∧ (vp_in (27 + 5 * nI j + 3) 97 ∧ ∀ q27 : aS, q27 = (up2 q26.1 1 (Int32.toNatClampNeg (27 + 5 * nI j + 3)) ((q26.1 1 (Int32.toNatClampNeg (27 + 5 * nI j + 3))) - 1), q26.2) → (vp_in (27 + 5 * nI j + 3) 97 ∧ ((¬ (q27.1 1 (Int32.toNatClampNeg (27 + 5 * nI j + 3))) = 0 → B x25 q27) ∧ ((q27.1 1 (Int32.toNatClampNeg (27 + 5 * nI j + 3))) = 0 → w_X10_stops (nI j) q27 (fun r29 q30 => B x25 q30))))))))) := by
  have hj8 : j < 8 := Nat.lt_of_lt_of_le hj hc.2.1.2
  refine r_worthOf h hc he hj ?_
  have h1 := h.up1 (im_E4 hj8).1 (im_E4 hj8).2 (u 10 j + pW u j)
  have b1 := (rm_E3 h1 hj8).trans (show _ = u 9 j by rw [up2_ne _ _ _ (by decide)])
  have h2 := h1.up1 (im_E3 hj8).1 (im_E3 hj8).2 (u 9 j - 1)
  have b2 := (rm_E3 h2 hj8).trans (show _ = u 9 j - 1 by rw [up2_at, if_pos ⟨rfl, rfl⟩])
  simp only [iv_E3 hj8, ie_E3 hj8, iv_E4 hj8, ie_E4 hj8, rm_E4 h hj8, forall_eq, true_and, b1, b2]
  have hfr : frM q.1 (up2 (up2 q.1 1 (31 + 5 * j) (u 10 j + pW u j)) 1 (30 + 5 * j) (u 9 j - 1)) := ((frM.rf _).up _ _).up _ _
  refine ⟨fun c => k _ ?_ hfr, fun c => ?_⟩
  · unfold pV1
    show RM _ 0 (if _ then _ else _)
    rw [if_neg c]
    exact h2
  · have hs3 : sC u (up2 (up2 u 10 j (u 10 j + pW u j)) 9 j (u 9 j - 1)) := ((sC.rf u).up (i := 10) (by decide) _ _).up (i := 9) (by decide) _ _
    refine r_stops (q := (up2 (up2 q.1 1 (31 + 5 * j) (u 10 j + pW u j)) 1 (30 + 5 * j) (u 9 j - 1), q.2)) h2 (hs3.cnt hc) (ech_row he hs3 ?_) (s := s) (by rw [hs3.E]; exact hj) hs ?_ (fun d' hd hf => ?_)
    · rw [up2_ne _ _ _ (by decide), up2_ne _ _ _ (by decide)]
    · rw [up2_ne _ _ _ (by decide), up2_ne _ _ _ (by decide)]
      exact es
    · refine k d' ?_ (fun a ha => (hf a ha).trans (hfr a ha))
      unfold pV1
      show RM _ 0 (if _ then _ else _)
      rw [if_pos c]
      exact hd
theorem r_Vs {w : pU} (h : RM (q.1 1) 0 w) (hc : Cnt w) (he : Ech w) {i : Nat} (hi : i < 6) (x : Int32) {K : Int32 → aS → Prop} (k : ∀ d', RM (d' 1) 0 (pVs (nI i) x w (cE w)).2 → frM q.1 d' → K (pVs (nI i) x w (cE w)).1 (d', q.2)) : ∃ M, LX10_sings_116 (nI i) x P K M 0 0 q := by
  have hb := hc.2.1.2
  refine lp_0 (fun m (v : Int32 × aS) j => LX10_sings_116 (nI i) x P K m v.1 j v.2) (fun e v => v.1 = (pVs (nI i) x w e).1 ∧ RM (v.2.1 1) 0 (pVs (nI i) x w e).2 ∧ frM q.1 v.2.1 ∧ v.2.2 = q.2) (cE w) (0, q) ⟨rfl, h, frM.rf _, rfl⟩ (fun m v hv => ?_) (fun m v0 v hj hv hk => ?_)
  · obtain ⟨y, d1, t1⟩ := v
    dsimp only at hv
    obtain ⟨hy, hd, hf, ht⟩ := hv
    subst hy ht
    have hn : d1 1 1 = nI (cE w) := by rw [rm_1 hd, (sC_Vs (nI i) x w (cE w)).2.1, hc.2.1.1]
    have hle := nI_le (Nat.le_refl (cE w)) (by omega)
    simp only [LX10_sings_116, ic_1, in_1, hn, hle, false_implies, not_true_eq_false, true_implies, and_true, true_and]
    exact k d1 hd hf
  · obtain ⟨y, d1, t1⟩ := v
    dsimp only at hv
    obtain ⟨hy, hd, hf, ht⟩ := hv
    subst hy ht
    have hn : d1 1 1 = nI (cE w) := by rw [rm_1 hd, (sC_Vs (nI i) x w v0).2.1, hc.2.1.1]
    have hlt := nI_ge hj (by omega)
    have hsj := sC_Vs (nI i) x w v0
    have hcj := hsj.cnt hc
    have hej : Ech (pVs (nI i) x w v0).2 := ech_row he hsj (vs_row _ _ _ (by decide) v0)
    have hj8 : v0 < 8 := by omega
    rw [LX10_sings_116, ic_1]
    dsimp only
    refine ⟨in_1, fun c => absurd c (by rw [hn]; exact hlt), fun _ => ?_⟩
    unfold w_X10_echoAt
    show vp_in (27 + 5 * nI v0 + 0) 97 ∧ _
    refine ⟨iv_E0 hj8, ?_⟩
    dsimp only
    rw [ie_E0 hj8, rm_E0 hd hj8, ie_E2 hj8, rm_E2 hd hj8]
    have hno : ¬ ((pVs (nI i) x w v0).2 6 v0 = x ∧ (pVs (nI i) x w v0).2 8 v0 = nI i) → ∀ x21 : Int32, x21 = nI v0 + 1 → LX10_sings_116 (nI i) x P K m (pVs (nI i) x w v0).1 x21 (d1, q.2) := by
      intro c x21 e21
      rw [nI_1] at e21
      subst e21
      have e : pVs (nI i) x w (v0 + 1) = pVs (nI i) x w v0 := if_neg c
      exact hk ((pVs (nI i) x w v0).1, (d1, q.2)) (by rw [e]; exact ⟨rfl, hd, hf, rfl⟩)
    refine ⟨fun c => hno (fun z => c z.1), fun c => ⟨iv_E2 hj8, fun c2 => hno (fun z => c2 z.2), fun c2 => ?_⟩⟩
    have e : pVs (nI i) x w (v0 + 1) = ((pVs (nI i) x w v0).1 + pW (pVs (nI i) x w v0).2 v0, pV1 (pVs (nI i) x w v0).2 v0) := if_pos ⟨c, c2⟩
    refine r_V1 (q := (d1, q.2)) hd hcj hej (s := i) (by rw [hsj.E]; exact hj) hi c2 (v := (pVs (nI i) x w v0).1) (B := fun x25 q30 => ∀ x31 : Int32, x31 = nI v0 + 1 → LX10_sings_116 (nI i) x P K m x25 x31 q30) (fun d' hd' hf' => ?_)
    intro x31 e31
    rw [nI_1] at e31
    subst e31
    refine hk (_, (d', q.2)) ?_
    rw [e]
    exact ⟨rfl, hd', fun a ha => (hf' a ha).trans (hf a ha), rfl⟩
theorem m_80 {a b c s : Int32} (hw : ¬ q.1 0 16 = 0) (k : P 0 q) : JX10_sings_80 a b c s P q := hi_w hw ⟨fun z => absurd z hw, fun _ => k⟩
theorem r_D8 (h : RM (q.1 1) 0 u) (hI : Inv n u) (hw : q.1 0 16 = 0) (a : Int32) (k0 : (pR8 a u).1 = 0 → ∀ d', RM (d' 1) 0 (pSing u (tn a)).2 → frM q.1 d' → P (pSing u (tn a)).1 (d', q.2)) (k1 : kB (pR8 a u) q P) : w_X10_sings a q P := by
  have hc := hI.1
  have hb := hc.2.2.2
  have hb2 := hc.1.2
  unfold w_X10_sings
  refine r_isSinger h hc a (fun c => ?_) (fun i hi e => ?_)
  · have hr := kb_no (pr := pR8 a u) (by rw [pR8, if_pos c]) (by decide) k1 0
    refine ⟨fun z => absurd rfl z, fun _ => ?_⟩
    unfold JX10_sings_14
    exact hi_1 hw ⟨fun z => absurd z (hd_w (by decide)), fun _ => hr⟩
  subst e
  have ca := has_no hi (by omega)
  have hi6 : i < 6 := by omega
  have ti := tn_c (show i < 100000 by omega)
  rw [ti] at k0
  refine ⟨fun _ => ?_, fun z => absurd z i10⟩
  unfold JX10_sings_14
  refine hi_0 ⟨fun _ => ?_, fun c => absurd hw c⟩
  unfold w_X10_singerAt
  simp only [ie_S2 hi6, rm_S2 h hi6, ie_S1 hi6, rm_S1 h hi6, forall_eq]
  refine ⟨iv_S2 hi6, iv_S1 hi6, fun c => ?_, fun c => ?_⟩
  · unfold JX10_sings_63
    refine hi_0 ⟨fun c2 => ?_, fun c2 => ?_⟩
    · obtain ⟨r, hr, er⟩ : ∃ r, r < cR u ∧ u 14 i = nI r := ((hI.2.2.2.1 i hi).2.2.1).resolve_left c
      have hr6 : r < 6 := by omega
      have hk0 := k0 (by rw [pR8, if_neg ca, ti, if_neg c, if_neg (nlt_of_le c2)])
      unfold JX10_sings_80 w_X10_singerAt w_X10_roomAt
      refine hi_0 ⟨fun _ => ?_, fun z => absurd hw z⟩
      simp only [ie_S1 hi6, rm_S1 h hi6, iv_S1 hi6, true_and]
      intro q18 E
      subst E
      have h3 := h.up1 (im_S1 hi6).1 (im_S1 hi6).2 (u 13 i - 1)
      have hs3 : sC u (up2 u 13 i (u 13 i - 1)) := (sC.rf u).up (by decide) _ _
      have hc3 := hs3.cnt hc
      have he3 : Ech (up2 u 13 i (u 13 i - 1)) := ech_row hI.ech hs3 (by rw [up2_ne _ _ _ (by decide)])
      generalize hwq : up2 u 13 i (u 13 i - 1) = w at *
      have hcE : cE w = cE u := hs3.E
      have hpS : pSing u i = ((pVs (nI i) (nI r) w (cE w)).1, pEnd i r (pVs (nI i) (nI r) w (cE w)).1 (pVs (nI i) (nI r) w (cE w)).2) := by
        unfold pSing
        rw [er, tn_c (show r < 100000 by omega), hwq, hcE]
      rw [hpS] at hk0
      rw [er]
      refine r_Vs (q := (up2 q.1 1 (68 + 5 * i) (u 13 i - 1), q.2)) h3 hc3 he3 hi6 (nI r) (fun d1 hd hf => ?_)
      have hf : frM q.1 d1 := fun a ha => (hf a ha).trans (((frM.rf q.1).up (68 + 5 * i) (u 13 i - 1)) a ha)
      generalize (pVs (nI i) (nI r) w (cE w)).1 = y at *
      generalize (pVs (nI i) (nI r) w (cE w)).2 = z at *
      have g1 := hd.up1 (im_S3 hi6).1 (im_S3 hi6).2 (z 15 i + 1)
      have g2 := g1.up1 (im_S4 hi6).1 (im_S4 hi6).2 (z 16 i + y)
      have g3 := g2.up1 (im_R2 hr6).1 (im_R2 hr6).2 (z 4 r + 1)
      have g4 := g3.up1 (im_R1 hr6).1 (im_R1 hr6).2 (mi_ (z 3 r + 1) 9)
      have g5 := g4.up1 (n := 4) (okM_1 (j := 7) (by decide)) rfl (z 0 7 + 1)
      have g6 := g5.up1 (n := 5) (okM_1 (j := 8) (by decide)) rfl (z 0 8 + y)
      have a1 := rm_S3 hd hi6
      have a2 := (rm_S4 g1 hi6).trans (show _ = z 16 i by rw [up2_ne _ _ _ (by decide)])
      have a3 := (rm_R2 g2 hr6).trans (show _ = z 4 r by rw [up2_ne _ _ _ (by decide), up2_ne _ _ _ (by decide)])
      have a4 := (rm_R1 g3 hr6).trans (show _ = z 3 r by rw [up2_ne _ _ _ (by decide), up2_ne _ _ _ (by decide), up2_ne _ _ _ (by decide)])
      have a5 := (rm_4 g4).trans (show _ = z 0 7 by rw [up2_ne _ _ _ (by decide), up2_ne _ _ _ (by decide), up2_ne _ _ _ (by decide), up2_ne _ _ _ (by decide)])
      have a6 := (rm_5 g5).trans (show _ = z 0 8 by rw [up2_at, if_neg (fun z => absurd z.2 (by decide)), up2_ne _ _ _ (by decide), up2_ne _ _ _ (by decide), up2_ne _ _ _ (by decide), up2_ne _ _ _ (by decide)])
      have em : (if z 3 r + 1 < 9 then z 3 r + 1 else 9) = mi_ (z 3 r + 1) 9 := rfl
      simp only [iv_S3 hi6, ie_S3 hi6, iv_S4 hi6, ie_S4 hi6, iv_R2 hr6, ie_R2 hr6, iv_R1 hr6, ie_R1 hr6, in_4, ic_4, in_5, ic_5, forall_eq, true_and, a1, a2, a3, a4, em, a5, a6]
      refine hk0 _ ?_ ((((((hf.up _ _).up _ _).up _ _).up _ _).up _ _).up _ _)
      unfold pEnd
      exact g6
    · unfold JX10_sings_80
      exact hi_1 hw ⟨fun z => absurd z (hd_w (by decide)), fun _ => kb_no (by rw [pR8, if_neg ca, ti, if_neg c, if_pos (lt_of_nle c2)]) (by decide) k1 0⟩
  · unfold JX10_sings_63
    have hr := kb_no (pr := pR8 (nI i) u) (by rw [pR8, if_neg ca, ti, if_pos c]) (by decide) k1 0
    exact hi_1 hw ⟨fun _ => m_80 (hd_w (by decide)) hr, fun _ => m_80 (hd_w (by decide)) hr⟩
theorem nb_1 : ∀ k, k < 100 → mi_ (nI k + 3) 99 = nI k + mi_ (99 - nI k) 3 := by decide +kernel
theorem nb_2 : ∀ k, k < 100 → mi_ (nI k + 3) 99 - nI k = mi_ (99 - nI k) 3 := by decide +kernel
theorem n2_at (z : pU) {j : Nat} : ∀ {e : Nat}, e ≤ j → (pN2 z e).2 13 j = z 13 j
  | 0, _ => rfl
  | e + 1, h => by
    show up2 _ 13 e _ 13 j = _
    rw [up2_at, if_neg (fun q => by omega)]
    exact n2_at z (by omega)
theorem r_N1 {w : pU} (h : RM (q.1 1) 0 w) (hc : Cnt w) {K : aS → Prop} {x : Int32} (k : ∀ d', RM (d' 1) 0 (pN1 w (cR w)) → frM q.1 d' → K (d', q.2)) : ∃ M, LX10_passes_4 x P K M 0 q := by
  have hb := hc.1.2
  refine lp_0 (fun m (v : aS) j => LX10_passes_4 x P K m j v) (fun e v => RM (v.1 1) 0 (pN1 w e) ∧ frM q.1 v.1 ∧ v.2 = q.2) (cR w) q ⟨h, frM.rf _, rfl⟩ (fun m v hv => ?_) (fun m j v hj hv hk => ?_)
  · obtain ⟨d1, t1⟩ := v
    dsimp only at hv
    obtain ⟨hd, hf, ht⟩ := hv
    subst ht
    have hn : d1 1 0 = nI (cR w) := by rw [rm_0 hd, (n1_sC w (cR w)).1, hc.1.1]
    have hle := nI_le (Nat.le_refl (cR w)) (by omega)
    simp only [LX10_passes_4, ic_0, in_0, hn, hle, false_implies, not_true_eq_false, true_implies, and_true, true_and]
    exact k d1 hd hf
  · obtain ⟨d1, t1⟩ := v
    dsimp only at hv
    obtain ⟨hd, hf, ht⟩ := hv
    subst ht
    have hn : d1 1 0 = nI (cR w) := by rw [rm_0 hd, (n1_sC w j).1, hc.1.1]
    have hlt := nI_ge hj (by omega)
    have hj6 : j < 6 := by omega
    have em : (if 0 < pN1 w j 3 j - 2 then pN1 w j 3 j - 2 else 0) = p0_ (pN1 w j 3 j - 2) := rfl
    simp only [LX10_passes_4, ic_0, in_0, hn, hlt, w_X10_roomAt, iv_R1 hj6, ie_R1 hj6, rm_R1 hd hj6, em, forall_eq, nI_1, false_implies, not_false_eq_true, true_implies, true_and]
    exact hk (_, _) ⟨hd.up1 (im_R1 hj6).1 (im_R1 hj6).2 _, hf.up _ _, rfl⟩
theorem r_N2 {w : pU} (h : RM (q.1 1) 0 w) (hc : Cnt w) (hbr : ∀ j, j < cS w → Rg (w 13 j) 0 99) {K : Int32 → aS → Prop} (k : ∀ d', RM (d' 1) 0 (pN2 w (cS w)).2 → frM q.1 d' → K (pN2 w (cS w)).1 (d', q.2)) : ∃ M, LX10_passes_50 P K M 0 0 q := by
  have hb := hc.2.2.2
  refine lp_0 (fun m (v : Int32 × aS) j => LX10_passes_50 P K m v.1 j v.2) (fun e v => v.1 = (pN2 w e).1 ∧ RM (v.2.1 1) 0 (pN2 w e).2 ∧ frM q.1 v.2.1 ∧ v.2.2 = q.2) (cS w) (0, q) ⟨rfl, h, frM.rf _, rfl⟩ (fun m v hv => ?_) (fun m j v hj hv hk => ?_)
  · obtain ⟨y, d2, t2⟩ := v
    dsimp only at hv
    obtain ⟨hy, hd2, hf2, ht2⟩ := hv
    subst hy ht2
    have hn2 : d2 1 2 = nI (cS w) := by rw [rm_2 hd2, (n2_sC w (cS w)).2.2, hc.2.2.1]
    have hle2 := nI_le (Nat.le_refl (cS w)) (by omega)
    simp only [LX10_passes_50, ic_2, in_2, hn2, hle2, false_implies, not_true_eq_false, true_implies, and_true, true_and]
    exact k d2 hd2 hf2
  · obtain ⟨y, d2, t2⟩ := v
    dsimp only at hv
    obtain ⟨hy, hd2, hf2, ht2⟩ := hv
    subst hy ht2
    have hn2 : d2 1 2 = nI (cS w) := by rw [rm_2 hd2, (n2_sC w j).2.2, hc.2.2.1]
    have hlt2 := nI_ge hj (by omega)
    have hj6 : j < 6 := by omega
    obtain ⟨b, -, hb99, eb⟩ := hbr j hj
    have eb2 : (pN2 w j).2 13 j = nI b := (n2_at w (Nat.le_refl j)).trans eb
    have h1 := hd2.up1 (im_S1 hj6).1 (im_S1 hj6).2 (mi_ (nI b + 3) 99)
    have b1 := (rm_S1 h1 hj6).trans (show _ = mi_ (nI b + 3) 99 by rw [up2_at, if_pos ⟨rfl, rfl⟩])
    have em : (if nI b + 3 < 99 then nI b + 3 else 99) = mi_ (nI b + 3) 99 := rfl
    have a1 := (rm_S1 hd2 hj6).trans eb2
    simp only [LX10_passes_50, ic_2, in_2, hn2, hlt2, w_X10_singerAt, iv_S1 hj6, ie_S1 hj6, a1, em, b1, forall_eq, nI_1, false_implies, not_false_eq_true, true_implies, true_and]
    have e1 : (pN2 w (j + 1)).1 = (pN2 w j).1 + (mi_ (nI b + 3) 99 - nI b) := by
      show (pN2 w j).1 + mi_ (99 - (pN2 w j).2 13 j) 3 = _
      rw [eb2, nb_2 b (by omega)]
    have e2 : (pN2 w (j + 1)).2 = up2 (pN2 w j).2 13 j (mi_ (nI b + 3) 99) := by
      show up2 (pN2 w j).2 13 j ((pN2 w j).2 13 j + mi_ (99 - (pN2 w j).2 13 j) 3) = _
      rw [eb2, nb_1 b (by omega)]
    refine hk (_, (_, _)) ⟨e1.symm, ?_, hf2.up _ _, rfl⟩
    rw [e2]
    exact h1
theorem n1_up (u : pU) (x : Int32) : ∀ r, pN1 (up2 u 0 3 x) r = up2 (pN1 u r) 0 3 x
  | 0 => rfl
  | r + 1 => by
    show up2 (pN1 (up2 u 0 3 x) r) 3 r (p0_ (pN1 (up2 u 0 3 x) r 3 r - 2)) = up2 (up2 (pN1 u r) 3 r (p0_ (pN1 u r 3 r - 2))) 0 3 x
    rw [n1_up u x r, up2_ne _ _ _ (show 3 ≠ 0 by decide), up2_comm _ _ _ (Or.inl (by decide))]
theorem n2_up (u : pU) (x : Int32) : ∀ r, pN2 (up2 u 0 3 x) r = ((pN2 u r).1, up2 (pN2 u r).2 0 3 x)
  | 0 => rfl
  | r + 1 => by
    show ((pN2 (up2 u 0 3 x) r).1 + mi_ (99 - (pN2 (up2 u 0 3 x) r).2 13 r) 3, up2 (pN2 (up2 u 0 3 x) r).2 13 r ((pN2 (up2 u 0 3 x) r).2 13 r + mi_ (99 - (pN2 (up2 u 0 3 x) r).2 13 r) 3)) = ((pN2 u r).1 + mi_ (99 - (pN2 u r).2 13 r) 3, up2 (up2 (pN2 u r).2 13 r ((pN2 u r).2 13 r + mi_ (99 - (pN2 u r).2 13 r) 3)) 0 3 x)
    rw [n2_up u x r]
    dsimp only
    rw [up2_ne _ _ _ (show 13 ≠ 0 by decide), up2_comm _ _ _ (Or.inl (by decide))]
theorem r_D9 (h : RM (q.1 1) 0 u) (hI : Inv n u) (k : ∀ d', RM (d' 1) 0 (pNight u).2 → frM q.1 d' → P (pNight u).1 (d', q.2)) : w_X10_passes q P := by
  have hc := hI.1
  unfold w_X10_passes
  have e : pNight u = ((pN2 (pN1 u (cR u)) (cS u)).1, up2 (pN2 (pN1 u (cR u)) (cS u)).2 0 3 (u 0 3 + 1)) := by
    unfold pNight
    rw [n1_up, n2_up]
  rw [e] at k
  refine r_N1 h hc (fun d1 hd1 hf1 => ?_)
  have hs1 := n1_sC u (cR u)
  rw [← hs1.S] at k
  refine r_N2 (q := (d1, q.2)) hd1 (hs1.cnt hc) (fun j hj => ?_) (fun d2 hd2 hf2 => ?_)
  · rw [hs1.S] at hj
    rw [n1_row u (by decide)]
    exact (hI.2.2.2.1 j hj).2.1
  · have a1 := (rm_3 hd2).trans (show _ = u 0 3 by rw [n2_row _ (by decide), n1_row _ (by decide)])
    simp only [in_3, ic_3, a1, forall_eq, true_and]
    exact k _ (hd2.up1 (n := 3) (okM_1 (j := 3) (by decide)) rfl _) (fun a ha => (((frM.rf d2).up 3 (u 0 3 + 1)) a ha).trans ((hf2 a ha).trans (hf1 a ha)))
end MR3

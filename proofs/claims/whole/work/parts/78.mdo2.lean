/-! the reference: out, carry, rent, back -/
section MR2
variable {q : aS} {u : pU} {P : Int32 → aS → Prop} {n : Nat}
theorem r_D4 (h : RM (q.1 1) 0 u) (hI : Inv n u) (hw : q.1 0 16 = 0) (a : Int32) (k0 : (pR4 a u).1 = 0 → ∀ d', RM (d' 1) 0 (pD4 a u).2 → frM q.1 d' → P (pD4 a u).1 (d', q.2)) (k1 : kB (pR4 a u) q P) : w_X10_goesOut a q P := by
  have hc := hI.1
  have hb := hc.2.2.2
  unfold w_X10_goesOut
  refine r_isSinger h hc a (fun c => ?_) (fun i hi e => ?_)
  · have hr := kb_no (pr := pR4 a u) (by rw [pR4, if_pos c]) (by decide) k1 0
    refine ⟨fun z => absurd rfl z, fun _ => ?_⟩
    unfold JX10_goesOut_14
    exact hi_1 hw ⟨fun z => absurd z (hd_w (by decide)), fun _ => hr⟩
  subst e
  have ca := has_no hi (by omega)
  have hi6 : i < 6 := by omega
  have ti := tn_c (show i < 100000 by omega)
  have eD : pD4 (nI i) u = (u 14 i, up2 u 14 i (-1)) := by
    unfold pD4
    rw [ti]
  rw [eD] at k0
  refine ⟨fun _ => ?_, fun z => absurd z i10⟩
  unfold JX10_goesOut_14
  refine hi_0 ⟨fun _ => ?_, fun c => absurd hw c⟩
  unfold w_X10_singerAt
  simp only [ie_S2 hi6, rm_S2 h hi6, forall_eq]
  refine ⟨iv_S2 hi6, fun c => ?_, fun c => ?_⟩
  · unfold JX10_goesOut_51 w_X10_singerAt
    simp only [ie_S2 hi6, forall_eq]
    exact hi_0 ⟨iv_S2 hi6, k0 (by rw [pR4, if_neg ca, ti, if_neg c]) _ (h.up1 (im_S2 hi6).1 (im_S2 hi6).2 (-1)) ((frM.rf _).up _ _)⟩
  · unfold JX10_goesOut_51 w_X10_singerAt
    simp only [ie_S2 hi6, forall_eq]
    exact hi_1 hw ⟨iv_S2 hi6, kb_no1 (by rw [pR4, if_neg ca, ti, if_pos c]) (by decide) k1 _ _ _⟩
theorem m_k96 {j : Nat} (hj : j < 8) {x y s : Int32} (hw : ¬ q.1 0 16 = 0) (k : P y (up2 q.1 1 (27 + 5 * j) x, q.2)) : JX10_carries_96 (nI j) x y s P q := by
  unfold JX10_carries_96 w_X10_echoAt
  simp only [ie_E0 hj, forall_eq]
  exact ⟨iv_E2 hj, hi_w hw ⟨iv_E0 hj, k⟩⟩
theorem m_k33 {i j s : Int32} (hw : ¬ q.1 0 16 = 0) (k : P 0 q) : JX10_carries_33 i j s P q := hi_w hw ⟨fun c => absurd c hw, fun _ => k⟩
theorem r_D5 (h : RM (q.1 1) 0 u) (hI : Inv n u) (hw : q.1 0 16 = 0) (a b : Int32) (k0 : (pR5 a b u).1 = 0 → ∀ d', RM (d' 1) 0 (pD5 a b u).2 → frM q.1 d' → P (pD5 a b u).1 (d', q.2)) (k1 : kB (pR5 a b u) q P) : w_X10_carries a b q P := by
  have hc := hI.1
  have hb := hc.2.1.2
  have hb2 := hc.1.2
  unfold w_X10_carries
  refine r_isEcho h hc a (fun c => ?_) (fun i hi e => ?_)
  · have hr := kb_no (pr := pR5 a b u) (by rw [pR5, if_pos c]) (by decide) k1 0
    refine ⟨fun z => absurd rfl z, fun _ => ?_⟩
    unfold JX10_carries_14
    exact hi_1 hw (r_isRoom (hd_rm h _ _) hc b (fun _ => ⟨fun _ => m_k33 (hd_w (by decide)) hr, fun _ => m_k33 (hd_w (by decide)) hr⟩) (fun _ _ _ => ⟨fun _ => m_k33 (hd_w (by decide)) hr, fun _ => m_k33 (hd_w (by decide)) hr⟩))
  subst e
  have ca := has_no hi (by omega)
  refine ⟨fun _ => ?_, fun z => absurd z i10⟩
  unfold JX10_carries_14
  refine hi_0 (r_isRoom h hc b (fun c => ?_) (fun j hj e => ?_))
  · have hr := kb_no (pr := pR5 (nI i) b u) (by rw [pR5, if_neg ca, if_pos c]) (by decide) k1 0
    refine ⟨fun z => absurd rfl z, fun _ => ?_⟩
    unfold JX10_carries_33
    exact hi_1 hw ⟨fun z => absurd z (hd_w (by decide)), fun _ => hr⟩
  subst e
  have cb := has_no hj (by omega)
  have hi8 : i < 8 := by omega
  have ti := tn_c (show i < 100000 by omega)
  have eD : pD5 (nI i) (nI j) u = (u 6 i, up2 u 6 i (nI j)) := by
    unfold pD5
    rw [ti]
  rw [eD] at k0
  refine ⟨fun _ => ?_, fun z => absurd z i10⟩
  unfold JX10_carries_33
  refine hi_0 ⟨fun _ => ?_, fun c => absurd hw c⟩
  unfold w_X10_echoAt
  simp only [ie_E0 hi8, rm_E0 h hi8, forall_eq]
  refine ⟨iv_E0 hi8, fun c => ?_, fun c => ?_⟩
  · unfold JX10_carries_70 w_X10_echoAt
    refine hi_0 ?_
    simp only [ie_E2 hi8, rm_E2 h hi8]
    refine ⟨iv_E2 hi8, fun c2 => ?_, fun c2 => ?_⟩
    · unfold JX10_carries_96 w_X10_echoAt
      simp only [ie_E0 hi8, forall_eq]
      exact ⟨iv_E2 hi8, hi_0 ⟨iv_E0 hi8, k0 (by rw [pR5, if_neg ca, if_neg cb, ti, if_neg c, if_neg (fun z => z c2)]) _ (h.up1 (im_E0 hi8).1 (im_E0 hi8).2 (nI j)) ((frM.rf _).up _ _)⟩⟩
    · unfold JX10_carries_96 w_X10_echoAt
      simp only [ie_E0 hi8, ie_E2 hi8, rm_E2 h hi8, forall_eq]
      exact ⟨iv_E2 hi8, hi_1 hw ⟨iv_E0 hi8, kb_no1 (by rw [pR5, if_neg ca, if_neg cb, ti, if_neg c, if_pos c2]) (by decide) k1 _ _ _⟩⟩
  · unfold JX10_carries_70 w_X10_echoAt
    have hr := kb_no1 (pr := pR5 (nI i) (nI j) u) (r := 4) (x := nI j) (by rw [pR5, if_neg ca, if_neg cb, ti, if_pos c]) (by decide) k1 (u 6 i) (27 + 5 * i) (nI j)
    exact hi_1 hw ⟨iv_E2 hi8, fun _ => m_k96 hi8 (hd_w (by decide)) hr, fun _ => m_k96 hi8 (hd_w (by decide)) hr⟩
/-- whether a singer may rent, and why not -/
def pAE (i j : Nat) (u : pU) : Int32 × Int32 := if ¬ u 8 j = -1 then (7, u 8 j) else if ¬ u 14 i = u 6 j then (8, u 6 j) else if u 13 i < u 7 j then (9, u 13 i) else (0, 0)
theorem m_e77 {j : Nat} (hj : j < 8) {x y s : Int32} (hw : ¬ q.1 0 16 = 0) (k : P 0 q) : JX10_asksEcho_77 (nI j) x y s P q := by
  unfold JX10_asksEcho_77 w_X10_echoAt
  exact hi_w hw ⟨iv_E1 hj, fun _ => hi_w hw k, fun _ => hi_w hw k⟩
theorem r_asksEcho (h : RM (q.1 1) 0 u) (hw : q.1 0 16 = 0) {i j : Nat} (hi : i < 6) (hj : j < 8) (k0 : (pAE i j u).1 = 0 → P 0 q) (k1 : ¬ (pAE i j u).1 = 0 → P 0 (hd_ q (pAE i j u).1 (pAE i j u).2)) : w_X10_asksEcho (nI i) (nI j) q P := by
  have fin : ∀ {r x : Int32}, pAE i j u = (r, x) → ¬ r = 0 → P 0 (hd_ q r x) := fun {r x} e hr => by
    have h9 := k1 (by rw [e]; exact hr)
    rw [e] at h9
    exact h9
  unfold w_X10_asksEcho w_X10_echoAt w_X10_singerAt
  simp only [ie_E2 hj, rm_E2 h hj, ie_E0 hj, rm_E0 h hj, ie_S1 hi, rm_S1 h hi, forall_eq]
  refine ⟨iv_E2 hj, iv_E0 hj, iv_S1 hi, fun c => ?_, fun c => ?_⟩
  · unfold JX10_asksEcho_49 w_X10_singerAt
    refine hi_0 ?_
    simp only [ie_S2 hi, rm_S2 h hi]
    refine ⟨iv_S2 hi, fun c2 => ?_, fun c2 => ?_⟩
    · unfold JX10_asksEcho_77 w_X10_echoAt
      refine hi_0 ?_
      simp only [ie_E1 hj, rm_E1 h hj]
      refine ⟨iv_E1 hj, fun c3 => hi_0 (k0 ?_), fun c3 => hi_1 hw (fin ?_ (by decide))⟩
      · rw [pAE, if_neg (fun z => z c), if_neg (fun z => z c2), if_neg (nlt_of_le c3)]
      · rw [pAE, if_neg (fun z => z c), if_neg (fun z => z c2), if_pos (lt_of_nle c3)]
    · unfold JX10_asksEcho_77 w_X10_echoAt
      have hf := fin (r := 8) (x := u 6 j) (by rw [pAE, if_neg (fun z => z c), if_pos c2]) (by decide)
      exact hi_1 hw ⟨iv_E1 hj, fun _ => hi_w (hd_w (by decide)) hf, fun _ => hi_w (hd_w (by decide)) hf⟩
  · unfold JX10_asksEcho_49 w_X10_singerAt
    have hf := fin (r := 7) (x := u 8 j) (by rw [pAE, if_pos c]) (by decide)
    exact hi_1 hw ⟨iv_S2 hi, fun _ => m_e77 hj (hd_w (by decide)) hf, fun _ => m_e77 hj (hd_w (by decide)) hf⟩
theorem m_r72 {a b c : Int32} (hw : ¬ q.1 0 16 = 0) (k : P 0 q) : JX10_rents_72 a b c P q := ⟨fun z => absurd z hw, fun _ => k⟩
theorem m_r54 {a b c s : Int32} (hw : ¬ q.1 0 16 = 0) (k : P 0 q) : JX10_rents_54 a b c s P q := hi_w hw ⟨fun _ => m_r72 hw k, fun z => absurd z hw⟩
theorem m_r33 {a b c s : Int32} (hw : ¬ q.1 0 16 = 0) (k : P 0 q) : JX10_rents_33 a b c s P q := hi_w hw (r_any (fun r => ⟨fun _ => m_r54 hw k, fun _ => m_r54 hw k⟩))
theorem r_D6 (h : RM (q.1 1) 0 u) (hI : Inv n u) (hw : q.1 0 16 = 0) (a b c : Int32) (k0 : (pR6 a b c u).1 = 0 → ∀ d', RM (d' 1) 0 (pD6 a b c u).2 → frM q.1 d' → P (pD6 a b c u).1 (d', q.2)) (k1 : kB (pR6 a b c u) q P) : w_X10_rents a b c q P := by
  have hc := hI.1
  have hb := hc.2.2.2
  have hb2 := hc.2.1.2
  unfold w_X10_rents
  refine r_isSinger h hc a (fun c => ?_) (fun i hi e => ?_)
  · have hr := kb_no (pr := pR6 a b _ u) (by rw [pR6, if_pos c]) (by decide) k1 0
    refine ⟨fun z => absurd rfl z, fun _ => ?_⟩
    unfold JX10_rents_14
    exact hi_1 hw (r_isEcho (hd_rm h _ _) hc b (fun _ => ⟨fun _ => m_r33 (hd_w (by decide)) hr, fun _ => m_r33 (hd_w (by decide)) hr⟩) (fun _ _ _ => ⟨fun _ => m_r33 (hd_w (by decide)) hr, fun _ => m_r33 (hd_w (by decide)) hr⟩))
  subst e
  have ca := has_no hi (by omega)
  refine ⟨fun _ => ?_, fun z => absurd z i10⟩
  unfold JX10_rents_14
  refine hi_0 (r_isEcho h hc b (fun c => ?_) (fun j hj e => ?_))
  · have hr := kb_no (pr := pR6 (nI i) b _ u) (by rw [pR6, if_neg ca, if_pos c]) (by decide) k1 0
    refine ⟨fun z => absurd rfl z, fun _ => ?_⟩
    unfold JX10_rents_33
    exact hi_1 hw (r_any (fun r => ⟨fun _ => m_r54 (hd_w (by decide)) hr, fun _ => m_r54 (hd_w (by decide)) hr⟩))
  subst e
  have cb := has_no hj (by omega)
  refine ⟨fun _ => ?_, fun z => absurd z i10⟩
  unfold JX10_rents_33
  refine hi_0 (r_isIn (fun c0 => ?_) (fun c1 c2 => ?_))
  · have hr := kb_no (pr := pR6 (nI i) (nI j) c u) (by rw [pR6, if_neg ca, if_neg cb, if_pos c0]) (by decide) k1 0
    refine ⟨fun z => absurd rfl z, fun _ => ?_⟩
    unfold JX10_rents_54
    exact hi_1 hw ⟨fun _ => m_r72 (hd_w (by decide)) hr, fun z => absurd z (hd_w (by decide))⟩
  have cc : ¬ (c < 1 ∨ 9 < c) := fun z => z.elim c1 c2
  have hi6 : i < 6 := by omega
  have hj8 : j < 8 := by omega
  have ti := tn_c (show i < 100000 by omega)
  have tj := tn_c (show j < 100000 by omega)
  have e9 : pR6 (nI i) (nI j) c u = pAE i j u := by
    rw [pR6, if_neg ca, if_neg cb, if_neg cc, ti, tj]
    rfl
  have eD : pD6 (nI i) (nI j) c u = (u 7 j, up2 (up2 (up2 (up2 u 13 i (u 13 i - u 7 j)) 0 4 (u 0 4 + u 7 j)) 8 j (nI i)) 9 j c) := by
    unfold pD6
    rw [ti, tj]
  rw [eD] at k0
  rw [e9] at k0 k1
  refine ⟨fun _ => ?_, fun z => absurd z i10⟩
  unfold JX10_rents_54
  refine hi_0 ⟨fun z => absurd hw z, fun _ => r_asksEcho h hw hi6 hj8 (fun z => ?_) (fun z => ?_)⟩
  · unfold JX10_rents_72 w_X10_echoAt w_X10_singerAt
    refine ⟨fun _ => ?_, fun c => absurd hw c⟩
    have h1 := h.up1 (im_E2 hj8).1 (im_E2 hj8).2 (nI i)
    have h2 := h1.up1 (im_E3 hj8).1 (im_E3 hj8).2 c
    have b1 := (rm_S1 h2 hi6).trans (show _ = u 13 i by rw [up2_ne _ _ _ (by decide), up2_ne _ _ _ (by decide)])
    have h3 := h2.up1 (im_S1 hi6).1 (im_S1 hi6).2 (u 13 i - u 7 j)
    have b2 := (rm_6 h3).trans (show _ = u 0 4 by rw [up2_ne _ _ _ (by decide), up2_ne _ _ _ (by decide), up2_ne _ _ _ (by decide)])
    have h4 := h3.up1 (n := 6) (okM_1 (j := 4) (by decide)) rfl (u 0 4 + u 7 j)
    simp only [iv_E1 hj8, ie_E1 hj8, rm_E1 h hj8, iv_E2 hj8, ie_E2 hj8, iv_E3 hj8, ie_E3 hj8, iv_S1 hi6, ie_S1 hi6, in_6, ic_6, forall_eq, true_and, b1, b2]
    refine k0 z _ ?_ (((((frM.rf _).up _ _).up _ _).up _ _).up _ _)
    have e : ∀ i' j', up2 (up2 (up2 (up2 u 8 j (nI i)) 9 j c) 13 i (u 13 i - u 7 j)) 0 4 (u 0 4 + u 7 j) i' j' = up2 (up2 (up2 (up2 u 13 i (u 13 i - u 7 j)) 0 4 (u 0 4 + u 7 j)) 8 j (nI i)) 9 j c i' j' := by
      intro i' j'
      simp only [up2_at]
      grind
    exact fun i' j' ok => (h4 i' j' ok).trans (e i' j')
  · exact m_r72 (by rw [hd_16]; exact z) (kb_no (r := (pAE i j u).1) (x := (pAE i j u).2) rfl z k1 0)
theorem r_stops (h : RM (q.1 1) 0 u) (hc : Cnt u) (he : Ech u) {j s : Nat} (hj : j < cE u) (hs : s < 6) (es : u 8 j = nI s) (k : ∀ d', RM (d' 1) 0 (pSt u j) → frM q.1 d' → P (pW u j) (d', q.2)) : w_X10_stops (nI j) q P := by
  have hj8 : j < 8 := Nat.lt_of_lt_of_le hj hc.2.1.2
  unfold w_X10_stops w_X10_echoAt w_X10_singerAt
  simp only [iv_E2 hj8, ie_E2 hj8, rm_E2 h hj8, es, forall_eq, true_and]
  refine r_worthOf h hc he hj ?_
  have h1 := h.up1 (im_S1 hs).1 (im_S1 hs).2 (mi_ (u 13 s + pW u j) 99)
  have b1 := (rm_7 h1).trans (show _ = u 0 5 by rw [up2_ne _ _ _ (by decide)])
  have h2 := h1.up1 (n := 7) (okM_1 (j := 5) (by decide)) rfl (u 0 5 + pW u j)
  have b2 := (rm_8 h2).trans (show _ = u 0 6 by rw [up2_at, if_neg (fun z => absurd z.2 (by decide)), up2_ne _ _ _ (by decide)])
  have b3 := (rm_E1 h2 hj8).trans (show _ = u 7 j by rw [up2_ne _ _ _ (by decide), up2_ne _ _ _ (by decide)])
  have h3 := h2.up1 (n := 8) (okM_1 (j := 6) (by decide)) rfl (u 0 6 + (u 7 j - pW u j))
  have h4 := h3.up1 (im_E2 hj8).1 (im_E2 hj8).2 (-1)
  have h5 := h4.up1 (im_E3 hj8).1 (im_E3 hj8).2 0
  have em : (if u 13 s + pW u j < 99 then u 13 s + pW u j else 99) = mi_ (u 13 s + pW u j) 99 := rfl
  simp only [iv_E1 hj8, ie_E1 hj8, iv_E2 hj8, ie_E2 hj8, iv_E3 hj8, ie_E3 hj8, iv_S1 hs, ie_S1 hs, rm_S1 h hs, in_7, ic_7, in_8, ic_8, em, forall_eq, true_and, b1, b2, b3]
  refine k _ ?_ ((((((frM.rf _).up _ _).up _ _).up _ _).up _ _).up _ _)
  unfold pSt
  rw [es, tn_c (show s < 100000 by omega)]
  exact h5
theorem clamp7 (b : Int32) : ∃ m, m < 8 ∧ (if 0 < (if b < 7 then b else 7) then (if b < 7 then b else 7) else 0) = nI m := by
  by_cases c : b < 7
  · rw [if_pos c]
    by_cases c2 : 0 < b
    · rw [if_pos c2]
      have h0 : ¬ b < 0 := fun z => by
        rw [Int32.lt_iff_toInt_lt] at z c2
        omega
      obtain ⟨k, hk, e⟩ := nI_of h0
      subst e
      have h7 : k < 7 := (nI_ltI (a := k) (b := 7) hk (by omega)).mp c
      exact ⟨k, by omega, rfl⟩
    · rw [if_neg c2]
      exact ⟨0, by omega, rfl⟩
  · rw [if_neg c]
    exact ⟨7, by omega, rfl⟩
theorem clamp_j {j : Nat} (hj : j < 8) : (if 0 < (if nI j < 7 then nI j else 7) then (if nI j < 7 then nI j else 7) else 0) = nI j := by
  revert j
  decide +kernel
theorem m_g75 {b s : Int32} (hw : ¬ q.1 0 16 = 0) (k : P 0 q) : JX10_gives_75 b s P q := by
  obtain ⟨m, hm, e⟩ := clamp7 b
  unfold JX10_gives_75 w_X10_echoAt
  rw [e]
  exact ⟨iv_E2 hm, hi_w hw ⟨fun z => absurd z hw, fun _ => k⟩⟩
theorem m_g33 {a b s : Int32} (hw : ¬ q.1 0 16 = 0) (k : P 0 q) : JX10_gives_33 a b s P q := hi_w hw ⟨fun _ => m_g75 hw k, fun z => absurd z hw⟩
theorem r_D7 (h : RM (q.1 1) 0 u) (hI : Inv n u) (hw : q.1 0 16 = 0) (a b : Int32) (k0 : (pR7 a b u).1 = 0 → ∀ d', RM (d' 1) 0 (pD7 b u).2 → frM q.1 d' → P (pD7 b u).1 (d', q.2)) (k1 : kB (pR7 a b u) q P) : w_X10_gives a b q P := by
  have hc := hI.1
  have hb := hc.2.2.2
  have hb2 := hc.2.1.2
  unfold w_X10_gives
  refine r_isSinger h hc a (fun c => ?_) (fun i hi e => ?_)
  · have hr := kb_no (pr := pR7 a b u) (by rw [pR7, if_pos c]) (by decide) k1 0
    refine ⟨fun z => absurd rfl z, fun _ => ?_⟩
    unfold JX10_gives_14
    exact hi_1 hw (r_isEcho (hd_rm h _ _) hc b (fun _ => ⟨fun _ => m_g33 (hd_w (by decide)) hr, fun _ => m_g33 (hd_w (by decide)) hr⟩) (fun _ _ _ => ⟨fun _ => m_g33 (hd_w (by decide)) hr, fun _ => m_g33 (hd_w (by decide)) hr⟩))
  subst e
  have ca := has_no hi (by omega)
  refine ⟨fun _ => ?_, fun z => absurd z i10⟩
  unfold JX10_gives_14
  refine hi_0 (r_isEcho h hc b (fun c => ?_) (fun j hj e => ?_))
  · have hr := kb_no (pr := pR7 (nI i) b u) (by rw [pR7, if_neg ca, if_pos c]) (by decide) k1 0
    refine ⟨fun z => absurd rfl z, fun _ => ?_⟩
    unfold JX10_gives_33
    exact hi_1 hw ⟨fun _ => m_g75 (hd_w (by decide)) hr, fun z => absurd z (hd_w (by decide))⟩
  subst e
  have cb := has_no hj (by omega)
  have hj8 : j < 8 := by omega
  have tj := tn_c (show j < 100000 by omega)
  have eD : pD7 (nI j) u = (pW u j, pSt u j) := by
    unfold pD7
    rw [tj]
  rw [eD] at k0
  refine ⟨fun _ => ?_, fun z => absurd z i10⟩
  unfold JX10_gives_33 w_X10_echoAt
  rw [clamp_j hj8]
  refine hi_0 ?_
  simp only [ie_E2 hj8, rm_E2 h hj8]
  refine ⟨fun z => absurd hw z, fun _ => ⟨iv_E2 hj8, fun c => ?_, fun c => ?_⟩⟩
  · unfold JX10_gives_74 JX10_gives_75 w_X10_echoAt
    rw [clamp_j hj8]
    refine ⟨iv_E2 hj8, hi_0 ⟨fun _ => ?_, fun z => absurd hw z⟩⟩
    exact r_stops h hc hI.ech hj (s := i) (by omega) c (k0 (by rw [pR7, if_neg ca, if_neg cb, tj, if_neg (fun z => z c)]))
  · unfold JX10_gives_75 w_X10_echoAt
    rw [clamp_j hj8]
    simp only [ie_E2 hj8, rm_E2 h hj8]
    exact ⟨iv_E2 hj8, hi_1 hw ⟨fun z => absurd z (hd_w (by decide)), fun _ => kb_no (by rw [pR7, if_neg ca, if_neg cb, tj, if_pos c]) (by decide) k1 0⟩⟩
end MR2

/-! the reference: why an order is refused, what it does -/
def hd_ (q : aS) (r x : Int32) : aS := (up2 (up2 q.1 0 16 r) 0 17 x, q.2)
def frM (d d' : pU) : Prop := ∀ a, a ≠ 1 → d' a = d a
def frB (d d' : pU) : Prop := (∀ a, a ≠ 0 → a ≠ 1 → d' a = d a) ∧ (∀ j, j ≠ 16 → j ≠ 17 → d' 0 j = d 0 j)
/-- what is wanted where an order is refused -/
def kB (pr : Int32 × Int32) (q : aS) (P : Int32 → aS → Prop) : Prop := ¬ pr.1 = 0 → ∀ (d' : pU) (r' : Int32), d' 0 16 = pr.1 → d' 0 17 = pr.2 → frB q.1 d' → P r' (d', q.2)
theorem frM.rf (d : pU) : frM d d := fun _ _ => rfl
theorem frM.up {d d' : pU} (h : frM d d') (j : Nat) (x : Int32) : frM d (up2 d' 1 j x) := fun a ha => by
  rw [up2_ne d' j x ha, h a ha]
theorem hd_16 (q : aS) (r x : Int32) : (hd_ q r x).1 0 16 = r := by
  show up2 (up2 q.1 0 16 r) 0 17 x 0 16 = r
  rw [up2_at, if_neg (fun z => absurd z.2 (by decide)), up2_at, if_pos ⟨rfl, rfl⟩]
theorem hd_17 (q : aS) (r x : Int32) : (hd_ q r x).1 0 17 = x := by
  show up2 (up2 q.1 0 16 r) 0 17 x 0 17 = x
  rw [up2_at, if_pos ⟨rfl, rfl⟩]
theorem hd_fr (q : aS) (r x : Int32) : frB q.1 (hd_ q r x).1 := by
  constructor
  · intro a h0 h1
    show up2 (up2 q.1 0 16 r) 0 17 x a = _
    rw [up2_ne _ _ _ h0, up2_ne _ _ _ h0]
  · intro j h0 h1
    show up2 (up2 q.1 0 16 r) 0 17 x 0 j = _
    rw [up2_at, if_neg (fun z => h1 z.2), up2_at, if_neg (fun z => h0 z.2)]
theorem hd_rm {q : aS} {u : pU} (h : RM (q.1 1) 0 u) (r x : Int32) : RM ((hd_ q r x).1 1) 0 u := (RM.g h 16 r).g 17 x
section MR
variable {q : aS} {u : pU} {P : Int32 → aS → Prop} {n : Nat}
theorem hi_0 {r x : Int32} (k : P 0 q) : w_X10_hinders 0 r x q P := ⟨fun _ => k, fun c => absurd rfl c⟩
theorem hi_1 {r x : Int32} (hw : q.1 0 16 = 0) (k : P 0 (hd_ q r x)) : w_X10_hinders 1 r x q P :=
  ⟨fun c => absurd c i10, fun _ => ⟨fun c => absurd hw c, fun _ => by
    intro q4 e4 q5 e5
    subst e4 e5
    exact k⟩⟩
theorem hi_w {s r x : Int32} (hw : ¬ q.1 0 16 = 0) (k : P 0 q) : w_X10_hinders s r x q P := ⟨fun _ => k, fun _ => ⟨fun _ => k, fun c => absurd c hw⟩⟩
theorem kb_no {pr : Int32 × Int32} {r x : Int32} (e : pr = (r, x)) (hr : ¬ r = 0) (k1 : kB pr q P) (r' : Int32) : P r' (hd_ q r x) := by
  subst e
  exact k1 hr _ r' (hd_16 q r x) (hd_17 q r x) (hd_fr q r x)
theorem kb_no1 {pr : Int32 × Int32} {r x : Int32} (e : pr = (r, x)) (hr : ¬ r = 0) (k1 : kB pr q P) (r' : Int32) (m : Nat) (y : Int32) : P r' (up2 (hd_ q r x).1 1 m y, q.2) := by
  subst e
  refine k1 hr _ r' ?_ ?_ ⟨fun a h0 h1 => ?_, fun j h0 h1 => ?_⟩
  · rw [up2_ne _ _ _ (by decide)]
    exact hd_16 q r x
  · rw [up2_ne _ _ _ (by decide)]
    exact hd_17 q r x
  · rw [up2_ne _ _ _ h1]
    exact (hd_fr q r x).1 a h0 h1
  · rw [up2_ne _ _ _ (by decide)]
    exact (hd_fr q r x).2 j h0 h1
theorem hd_w {r x : Int32} (hr : ¬ r = 0) : ¬ (hd_ q r x).1 0 16 = 0 := by
  rw [hd_16]
  exact hr
theorem m_38 {j s : Int32} (hw : ¬ q.1 0 16 = 0) (k : P 0 q) : JX10_opens_38 j s P q := hi_w hw ⟨fun c => absurd c hw, fun _ => k⟩
theorem okM_0 {i : Nat} (hi : i = 1 ∨ i = 5 ∨ i = 11) : okM i 0 := by unfold okM okS; omega
theorem okM_1 {j : Nat} (hj : 3 ≤ j ∧ j < 9) : okM 0 j := by unfold okM okS; omega
theorem r_D0 (h : RM (q.1 1) 0 u) (hI : Inv n u) (hw : q.1 0 16 = 0) (a : Int32) (k0 : (pR0 a u).1 = 0 → ∀ d', RM (d' 1) 0 (pD0 a u).2 → frM q.1 d' → P (pD0 a u).1 (d', q.2)) (k1 : kB (pR0 a u) q P) : w_X10_opens a q P := by
  have hc := hI.1
  have hn := (rm_0 h).trans hc.1.1
  have hb := hc.1.2
  unfold w_X10_opens
  refine r_isIn (fun c => ?_) (fun c1 c2 => ?_)
  · have hr := kb_no (pr := pR0 a u) (by rw [pR0, if_pos c]) (by decide) k1 0
    refine ⟨fun z => absurd rfl z, fun _ => ?_⟩
    unfold JX10_opens_16
    exact hi_1 hw ⟨in_0, fun _ => m_38 (hd_w (by decide)) hr, fun _ => m_38 (hd_w (by decide)) hr⟩
  · have c0 : ¬ (a < 1 ∨ 9 < a) := fun z => z.elim c1 c2
    refine ⟨fun _ => ?_, fun z => absurd z i10⟩
    unfold JX10_opens_16
    rw [ic_0]
    refine hi_0 ⟨in_0, fun c3 => ?_, fun c3 => ?_⟩
    · have c6 : ¬ cR u = 6 := fun z => c3 (by rw [hn, z]; rfl)
      have hr : cR u < 6 := by omega
      unfold JX10_opens_38
      refine hi_0 ⟨fun _ => ?_, fun c => absurd hw c⟩
      have h1 := h.up1 (im_R0 hr).1 (im_R0 hr).2 a
      have b1 : up2 q.1 1 (9 + 3 * cR u) a 1 0 = nI (cR u) := (rm_0 h1).trans ((show _ = u 1 0 by rw [up2_ne _ _ _ (by decide)]).trans hc.1.1)
      have h2 := h1.up1 (n := 0) (okM_0 (i := 1) (by decide)) rfl (nI (cR u + 1))
      have b2 : up2 (up2 q.1 1 (9 + 3 * cR u) a) 1 0 (nI (cR u + 1)) 1 0 = nI (cR u + 1) := by rw [up2_at, if_pos ⟨rfl, rfl⟩]
      simp only [ic_0, in_0, hn, w_X10_roomAt, iv_R0 hr, ie_R0 hr, forall_eq, true_and, b1, nI_1, b2, nI_pred]
      rw [← hc.1.1]
      refine k0 (by rw [pR0, if_neg c0, if_neg c6]) _ ?_ (((frM.rf _).up _ _).up _ _)
      have e : (pD0 a u).2 = up2 (up2 u 2 (cR u) a) 1 0 (nI (cR u + 1)) := by
        unfold pD0
        rw [hc.1.1, nI_1]
      rw [e]
      exact h2
    · have c6 : cR u = 6 := by
        rw [hn] at c3
        exact nI_inj (by omega) (by omega) c3
      unfold JX10_opens_38
      exact hi_1 hw ⟨fun c => absurd c (hd_w (by decide)), fun _ => kb_no (by rw [pR0, if_neg c0, if_pos c6]) (by decide) k1 0⟩
theorem m_s57 {i j s : Int32} (hw : ¬ q.1 0 16 = 0) (k : P 0 q) : JX10_sounds_57 i j s P q := hi_w hw ⟨fun c => absurd c hw, fun _ => k⟩
theorem m_s35 {i j s : Int32} (hw : ¬ q.1 0 16 = 0) (k : P 0 q) : JX10_sounds_35 i j s P q := hi_w hw ⟨in_1, fun _ => m_s57 hw k, fun _ => m_s57 hw k⟩
theorem r_any {x a b : Int32} (k : ∀ r, P r q) : w_X10_isIn x a b q P := r_isIn (fun _ => k 0) (fun _ _ => k 1)
theorem r_D1 (h : RM (q.1 1) 0 u) (hI : Inv n u) (hw : q.1 0 16 = 0) (a b : Int32) (k0 : (pR1 a b u).1 = 0 → ∀ d', RM (d' 1) 0 (pD1 a b u).2 → frM q.1 d' → P (pD1 a b u).1 (d', q.2)) (k1 : kB (pR1 a b u) q P) : w_X10_sounds a b q P := by
  have hc := hI.1
  have hn := (rm_1 h).trans hc.2.1.1
  have hb := hc.2.1.2
  have hb2 := hc.1.2
  unfold w_X10_sounds
  refine r_isRoom h hc a (fun c => ?_) (fun j hj e => ?_)
  · have hr := kb_no (pr := pR1 a b u) (by rw [pR1, if_pos c]) (by decide) k1 0
    refine ⟨fun z => absurd rfl z, fun _ => ?_⟩
    unfold JX10_sounds_14
    exact hi_1 hw (r_any (fun r => ⟨fun _ => m_s35 (hd_w (by decide)) hr, fun _ => m_s35 (hd_w (by decide)) hr⟩))
  subst e
  have ca := has_no hj (by omega)
  refine ⟨fun _ => ?_, fun z => absurd z i10⟩
  unfold JX10_sounds_14
  refine hi_0 (r_isIn (fun c => ?_) (fun c1 c2 => ?_))
  · have hr := kb_no (pr := pR1 (nI j) b u) (by rw [pR1, if_neg ca, if_pos c]) (by decide) k1 0
    refine ⟨fun z => absurd rfl z, fun _ => ?_⟩
    unfold JX10_sounds_35
    exact hi_1 hw ⟨in_1, fun _ => m_s57 (hd_w (by decide)) hr, fun _ => m_s57 (hd_w (by decide)) hr⟩
  · have c0 : ¬ (b < 1 ∨ 9 < b) := fun z => z.elim c1 c2
    refine ⟨fun _ => ?_, fun z => absurd z i10⟩
    unfold JX10_sounds_35
    rw [ic_1]
    refine hi_0 ⟨in_1, fun c3 => ?_, fun c3 => ?_⟩
    · have c6 : ¬ cE u = 8 := fun z => c3 (by rw [hn, z]; rfl)
      have hr : cE u < 8 := by omega
      unfold JX10_sounds_57
      refine hi_0 ⟨fun _ => ?_, fun c => absurd hw c⟩
      have h1 := h.up1 (im_E0 hr).1 (im_E0 hr).2 (nI j)
      have h2 := h1.up1 (im_E1 hr).1 (im_E1 hr).2 b
      have h3 := h2.up1 (im_E2 hr).1 (im_E2 hr).2 (-1)
      have b1 : up2 (up2 (up2 q.1 1 (27 + 5 * cE u) (nI j)) 1 (28 + 5 * cE u) b) 1 (29 + 5 * cE u) (-1) 1 1 = nI (cE u) := (rm_1 h3).trans ((show _ = u 5 0 by rw [up2_ne _ _ _ (by decide), up2_ne _ _ _ (by decide), up2_ne _ _ _ (by decide)]).trans hc.2.1.1)
      have h4 := h3.up1 (n := 1) (okM_0 (i := 5) (by decide)) rfl (nI (cE u + 1))
      have b2 : up2 (up2 (up2 (up2 q.1 1 (27 + 5 * cE u) (nI j)) 1 (28 + 5 * cE u) b) 1 (29 + 5 * cE u) (-1)) 1 1 (nI (cE u + 1)) 1 1 = nI (cE u + 1) := by rw [up2_at, if_pos ⟨rfl, rfl⟩]
      simp only [ic_1, in_1, hn, w_X10_echoAt, iv_E0 hr, ie_E0 hr, iv_E1 hr, ie_E1 hr, iv_E2 hr, ie_E2 hr, forall_eq, true_and, b1, nI_1, b2, nI_pred]
      rw [← hc.2.1.1]
      refine k0 (by rw [pR1, if_neg ca, if_neg c0, if_neg c6]) _ ?_ (((((frM.rf _).up _ _).up _ _).up _ _).up _ _)
      have e : (pD1 (nI j) b u).2 = up2 (up2 (up2 (up2 u 6 (cE u) (nI j)) 7 (cE u) b) 8 (cE u) (-1)) 5 0 (nI (cE u + 1)) := by
        unfold pD1
        rw [hc.2.1.1, nI_1]
      rw [e]
      exact h4
    · have c6 : cE u = 8 := by
        rw [hn] at c3
        exact nI_inj (by omega) (by omega) c3
      unfold JX10_sounds_57
      exact hi_1 hw ⟨fun c => absurd c (hd_w (by decide)), fun _ => kb_no (by rw [pR1, if_neg ca, if_neg c0, if_pos c6]) (by decide) k1 0⟩
theorem m_a59 {i j s : Int32} (hw : ¬ q.1 0 16 = 0) (k : P 0 q) : JX10_arrives_59 i j s P q := hi_w hw ⟨fun c => absurd c hw, fun _ => k⟩
theorem m_a37 {i j s : Int32} (hw : ¬ q.1 0 16 = 0) (k : P 0 q) : JX10_arrives_37 i j s P q := hi_w hw ⟨in_2, fun _ => m_a59 hw k, fun _ => m_a59 hw k⟩
theorem r_D2 (h : RM (q.1 1) 0 u) (hI : Inv n u) (hw : q.1 0 16 = 0) (a b : Int32) (k0 : (pR2 a b u).1 = 0 → ∀ d', RM (d' 1) 0 (pD2 a b u).2 → frM q.1 d' → P (pD2 a b u).1 (d', q.2)) (k1 : kB (pR2 a b u) q P) : w_X10_arrives a b q P := by
  have hc := hI.1
  have hn := (rm_2 h).trans hc.2.2.1
  have hb := hc.2.2.2
  unfold w_X10_arrives
  refine r_isIn (fun c => ?_) (fun c1 c2 => ?_)
  · have hr := kb_no (pr := pR2 a b u) (by rw [pR2, if_pos c]) (by decide) k1 0
    refine ⟨fun z => absurd rfl z, fun _ => ?_⟩
    unfold JX10_arrives_16
    exact hi_1 hw (r_any (fun r => ⟨fun _ => m_a37 (hd_w (by decide)) hr, fun _ => m_a37 (hd_w (by decide)) hr⟩))
  have ca : ¬ (a < 0 ∨ 9 < a) := fun z => z.elim c1 c2
  refine ⟨fun _ => ?_, fun z => absurd z i10⟩
  unfold JX10_arrives_16
  refine hi_0 (r_isIn (fun c => ?_) (fun c3 c4 => ?_))
  · have hr := kb_no (pr := pR2 a b u) (by rw [pR2, if_neg ca, if_pos c]) (by decide) k1 0
    refine ⟨fun z => absurd rfl z, fun _ => ?_⟩
    unfold JX10_arrives_37
    exact hi_1 hw ⟨in_2, fun _ => m_a59 (hd_w (by decide)) hr, fun _ => m_a59 (hd_w (by decide)) hr⟩
  · have c0 : ¬ (b < 0 ∨ 99 < b) := fun z => z.elim c3 c4
    refine ⟨fun _ => ?_, fun z => absurd z i10⟩
    unfold JX10_arrives_37
    rw [ic_2]
    refine hi_0 ⟨in_2, fun c3 => ?_, fun c3 => ?_⟩
    · have c6 : ¬ cS u = 6 := fun z => c3 (by rw [hn, z]; rfl)
      have hr : cS u < 6 := by omega
      unfold JX10_arrives_59
      refine hi_0 ⟨fun _ => ?_, fun c => absurd hw c⟩
      have h1 := h.up1 (im_S0 hr).1 (im_S0 hr).2 a
      have h2 := h1.up1 (im_S1 hr).1 (im_S1 hr).2 b
      have h3 := h2.up1 (im_S2 hr).1 (im_S2 hr).2 (-1)
      have b1 : up2 (up2 (up2 q.1 1 (67 + 5 * cS u) a) 1 (68 + 5 * cS u) b) 1 (69 + 5 * cS u) (-1) 1 2 = nI (cS u) := (rm_2 h3).trans ((show _ = u 11 0 by rw [up2_ne _ _ _ (by decide), up2_ne _ _ _ (by decide), up2_ne _ _ _ (by decide)]).trans hc.2.2.1)
      have h4 := h3.up1 (n := 2) (okM_0 (i := 11) (by decide)) rfl (nI (cS u + 1))
      have b2 : up2 (up2 (up2 (up2 q.1 1 (67 + 5 * cS u) a) 1 (68 + 5 * cS u) b) 1 (69 + 5 * cS u) (-1)) 1 2 (nI (cS u + 1)) 1 2 = nI (cS u + 1) := by rw [up2_at, if_pos ⟨rfl, rfl⟩]
      simp only [ic_2, in_2, hn, w_X10_singerAt, iv_S0 hr, ie_S0 hr, iv_S1 hr, ie_S1 hr, iv_S2 hr, ie_S2 hr, forall_eq, true_and, b1, nI_1, b2, nI_pred]
      rw [← hc.2.2.1]
      refine k0 (by rw [pR2, if_neg ca, if_neg c0, if_neg c6]) _ ?_ (((((frM.rf _).up _ _).up _ _).up _ _).up _ _)
      have e : (pD2 a b u).2 = up2 (up2 (up2 (up2 u 12 (cS u) a) 13 (cS u) b) 14 (cS u) (-1)) 11 0 (nI (cS u + 1)) := by
        unfold pD2
        rw [hc.2.2.1, nI_1]
      rw [e]
      exact h4
    · have c6 : cS u = 6 := by
        rw [hn] at c3
        exact nI_inj (by omega) (by omega) c3
      unfold JX10_arrives_59
      exact hi_1 hw ⟨fun c => absurd c (hd_w (by decide)), fun _ => kb_no (by rw [pR2, if_neg ca, if_neg c0, if_pos c6]) (by decide) k1 0⟩
/-- whether a singer may enter, and why not -/
def pAR (i j : Nat) (u : pU) : Int32 × Int32 := if u 14 i = nI j then (4, nI j) else if ¬ bc_ (pSin u (nI j)) < u 2 j then (5, u 2 j) else if ¬ bc_ (pSin u (nI j)) ≤ (9 - u 12 i) / 3 then (6, bc_ (pSin u (nI j))) else (0, 0)
theorem m_r53 {i j : Nat} (hi : i < 6) (hj : j < 6) {x s : Int32} (hw : ¬ q.1 0 16 = 0) (k : P 0 q) : JX10_asksRoom_53 (nI i) (nI j) x s P q := by
  unfold JX10_asksRoom_53 w_X10_roomAt w_X10_singerAt
  exact ⟨iv_R0 hj, hi_w hw ⟨iv_S0 hi, fun _ => hi_w hw k, fun _ => hi_w hw k⟩⟩
theorem r_asksRoom (h : RM (q.1 1) 0 u) (hc : Cnt u) (hw : q.1 0 16 = 0) {i j : Nat} (hi : i < 6) (hj : j < 6) (k0 : (pAR i j u).1 = 0 → P 0 q) (k1 : ¬ (pAR i j u).1 = 0 → P 0 (hd_ q (pAR i j u).1 (pAR i j u).2)) : w_X10_asksRoom (nI i) (nI j) q P := by
  have fin : ∀ {r x : Int32}, pAR i j u = (r, x) → ¬ r = 0 → P 0 (hd_ q r x) := fun {r x} e hr => by
    have h9 := k1 (by rw [e]; exact hr)
    rw [e] at h9
    exact h9
  unfold w_X10_asksRoom
  refine r_othersIn h hc _ ?_
  unfold w_X10_singerAt
  simp only [ie_S2 hi, rm_S2 h hi]
  refine ⟨iv_S2 hi, fun c => ?_, fun c => ?_⟩
  · unfold JX10_asksRoom_27
    refine hi_0 ?_
    unfold w_X10_roomAt
    simp only [ie_R0 hj, rm_R0 h hj]
    refine ⟨iv_R0 hj, fun c2 => ?_, fun c2 => ?_⟩
    · unfold JX10_asksRoom_53 w_X10_roomAt w_X10_singerAt
      refine ⟨iv_R0 hj, hi_0 ?_⟩
      simp only [ie_S0 hi, rm_S0 h hi]
      refine ⟨iv_S0 hi, fun c3 => hi_0 (k0 ?_), fun c3 => hi_1 hw (fin ?_ (by decide))⟩
      · rw [pAR, if_neg c, if_neg (fun z => z c2), if_neg (fun z => z c3)]
      · rw [pAR, if_neg c, if_neg (fun z => z c2), if_pos c3]
    · unfold JX10_asksRoom_53 w_X10_roomAt w_X10_singerAt
      simp only [ie_R0 hj, rm_R0 h hj]
      have hf := fin (r := 5) (x := u 2 j) (by rw [pAR, if_neg c, if_pos c2]) (by decide)
      exact ⟨iv_R0 hj, hi_1 hw ⟨iv_S0 hi, fun _ => hi_w (hd_w (by decide)) hf, fun _ => hi_w (hd_w (by decide)) hf⟩⟩
  · unfold JX10_asksRoom_27
    have hf := fin (r := 4) (x := nI j) (by rw [pAR, if_pos c]) (by decide)
    refine hi_1 hw ?_
    unfold w_X10_roomAt
    exact ⟨iv_R0 hj, fun _ => m_r53 hi hj (hd_w (by decide)) hf, fun _ => m_r53 hi hj (hd_w (by decide)) hf⟩
theorem m_c51 {i j : Int32} (hw : ¬ q.1 0 16 = 0) (k : P 0 q) : JX10_comesIn_51 i j P q := ⟨fun c => absurd c hw, fun _ => k⟩
theorem m_c33 {i j s : Int32} (hw : ¬ q.1 0 16 = 0) (k : P 0 q) : JX10_comesIn_33 i j s P q := hi_w hw ⟨fun _ => m_c51 hw k, fun c => absurd c hw⟩
theorem r_D3 (h : RM (q.1 1) 0 u) (hI : Inv n u) (hw : q.1 0 16 = 0) (a b : Int32) (k0 : (pR3 a b u).1 = 0 → ∀ d', RM (d' 1) 0 (pD3 a b u).2 → frM q.1 d' → P (pD3 a b u).1 (d', q.2)) (k1 : kB (pR3 a b u) q P) : w_X10_comesIn a b q P := by
  have hc := hI.1
  have hb := hc.2.2.2
  have hb2 := hc.1.2
  unfold w_X10_comesIn
  refine r_isSinger h hc a (fun c => ?_) (fun i hi e => ?_)
  · have hr := kb_no (pr := pR3 a b u) (by rw [pR3, if_pos c]) (by decide) k1 0
    refine ⟨fun z => absurd rfl z, fun _ => ?_⟩
    unfold JX10_comesIn_14
    exact hi_1 hw (r_isRoom (hd_rm h _ _) hc b (fun _ => ⟨fun _ => m_c33 (hd_w (by decide)) hr, fun _ => m_c33 (hd_w (by decide)) hr⟩) (fun _ _ _ => ⟨fun _ => m_c33 (hd_w (by decide)) hr, fun _ => m_c33 (hd_w (by decide)) hr⟩))
  subst e
  have ca := has_no hi (by omega)
  refine ⟨fun _ => ?_, fun z => absurd z i10⟩
  unfold JX10_comesIn_14
  refine hi_0 (r_isRoom h hc b (fun c => ?_) (fun j hj e => ?_))
  · have hr := kb_no (pr := pR3 (nI i) b u) (by rw [pR3, if_neg ca, if_pos c]) (by decide) k1 0
    refine ⟨fun z => absurd rfl z, fun _ => ?_⟩
    unfold JX10_comesIn_33
    exact hi_1 hw ⟨fun _ => m_c51 (hd_w (by decide)) hr, fun z => absurd z (hd_w (by decide))⟩
  subst e
  have cb := has_no hj (by omega)
  have hi6 : i < 6 := by omega
  have hj6 : j < 6 := by omega
  have e9 : pR3 (nI i) (nI j) u = pAR i j u := by
    rw [pR3, if_neg ca, if_neg cb, tn_c (show i < 100000 by omega), tn_c (show j < 100000 by omega)]
    rfl
  have eD : pD3 (nI i) (nI j) u = (bc_ (pSin (up2 u 14 i (nI j)) (nI j)), up2 u 14 i (nI j)) := by
    unfold pD3
    rw [tn_c (show i < 100000 by omega)]
  rw [eD] at k0
  rw [e9] at k0 k1
  refine ⟨fun _ => ?_, fun z => absurd z i10⟩
  unfold JX10_comesIn_33
  refine hi_0 ⟨fun z => absurd hw z, fun _ => r_asksRoom h hc hw hi6 hj6 (fun z => ?_) (fun z => ?_)⟩
  · unfold JX10_comesIn_51 w_X10_singerAt
    simp only [ie_S2 hi6]
    refine ⟨fun _ => ⟨iv_S2 hi6, ?_⟩, fun c => absurd hw c⟩
    intro q13 E
    subst E
    have h1 := h.up1 (im_S2 hi6).1 (im_S2 hi6).2 (nI j)
    exact r_othersIn (q := (up2 q.1 1 (69 + 5 * i) (nI j), q.2)) h1 (((sC.rf u).up (by decide) _ _).cnt hc) _ (k0 z _ h1 ((frM.rf _).up _ _))
  · exact m_c51 (by rw [hd_16]; exact z) (kb_no (r := (pAR i j u).1) (x := (pAR i j u).2) rfl z k1 0)
end MR

/-! numbers of an echo, of a singer; would, canEnter, canRent -/
theorem sw_rg {x : Int32} {b : Nat} {B : Int32} (hB : B = nI b) (hb : b < 100000) (h : ¬ (x < 0 ∨ B < x)) : ∃ k, k ≤ b ∧ x = nI k := by
  obtain ⟨k, -, hk, e⟩ := Rg.of (x := x) (a := 0) (b := b) rfl hB (by omega) hb (fun w => h (Or.inl w)) (le_of_nlt (fun w => h (Or.inr w)))
  exact ⟨k, hk, e⟩
theorem ton_ti {n : Nat} {u : pU} (hI : Inv n u) {r : Nat} (hr : r < cR u) {s : Nat} (hs : s < 100000) : pTI u (nI s) (nI r) 0 = pTon u (nI s) (nI r) := by
  obtain ⟨hc, h1, h2, -⟩ := hI
  have hb := hc.1.2
  obtain ⟨d, -, hd, ed⟩ := (h1 r hr).2
  have key : ∀ d, d < 10 → (if nI d + 0 < 9 then nI d + 0 else 9) = nI d := by decide +kernel
  have er := nI_c (show r < 100000 by omega)
  have ep : pDm u (nI r) 0 = nI d := by
    unfold pDm
    rw [er, ed]
    exact key d (by omega)
  unfold pTI pTon
  refine sumTo_cg (fun e he => ?_)
  unfold gTI gTon
  by_cases c : u 6 e = nI r ∧ u 8 e = nI s
  · have hl : ¬ u 9 e ≤ 0 := by
      rcases (h2 e he).2.2 with z | z
      · exact absurd (c.2.symm.trans z.1) (nI_nm hs)
      · obtain ⟨l, h1, h9, el⟩ := z.2
        rw [el]
        exact nI_nle (by omega) (by omega)
    rw [if_pos ⟨c, hl⟩, if_pos c, ep]
    unfold pW
    rw [c.1, er, ed]
  · rw [if_neg (fun z => c z.1), if_neg c]
section ASK2
variable {s : Nat} {q : aS} {dM : pU}
theorem po_11 (hN : INV s q dM) (v : Nat → Int64) (vd : Nat → UInt64) (p1 p2 p3 : Int32) : ob_11 v vd p1 p2 p3 q (dM, []) (K1 s) := by
  have hN' := hN
  obtain ⟨⟨u, n1, n2, hI⟩, -⟩ := hN
  have hc := hI.1
  have hb := hc.1.2
  have hb2 := hc.2.1.2
  have hb3 := hc.2.2.2
  have m2 : RM ((dM, ([] : List Nat)).1 1) 0 u := n2
  have n3 : RM (up2 dM 0 15 0 1) 0 u := n2.g 15 0

  unfold ob_11 w_X9_echoOf w_X9_checkEcho
  refine x_hasEcho n1 hc p1 (fun c => ⟨fun z => absurd rfl z, fun _ => Or.inl ⟨rfl, ?_⟩⟩) (fun j hj e => ⟨fun _ => ?_, fun z => absurd z i10⟩)
  · simp only [lPo_f]
    unfold w_X10_echoOf
    exact r_isEcho m2 hc p1 (fun _ => rg_in (fun _ => ⟨fun _ => g_k (by decide) hN', fun z => absurd rfl z⟩) (fun z => absurd rfl z) (fun z => absurd rfl z)) (fun j hj e => absurd (e ▸ c) (has_no hj (by omega)))
  subst e
  have hj8 : j < 8 := by omega
  have ej := nI_c (show j < 100000 by omega)
  have vj : vp_in (nI j) 8 := vp_in_nI hj8 (by decide)
  by_cases hp : p2 < 0 ∨ 4 < p2
  · refine ⟨fun e => absurd hp (by subst e; decide), fun _ => ⟨fun e => absurd hp (by subst e; decide), fun _ => ⟨fun e => absurd hp (by subst e; decide), fun _ => ⟨fun e => absurd hp (by subst e; decide), fun _ => ⟨fun e => absurd hp (by subst e; decide), fun _ => Or.inr ⟨rfl, ?_⟩⟩⟩⟩⟩⟩
    simp only [lPo_f]
    unfold w_X10_echoOf
    exact r_isEcho m2 hc _ (fun z => absurd z (has_no hj (by omega))) (fun j' hj' e => rg_in (fun z => absurd z i10) (fun _ z => ⟨fun _ => g_k (by decide) hN', fun z => absurd rfl z⟩) (fun _ z => absurd hp z))
  · obtain ⟨k, hk, e⟩ := sw_rg (b := 4) rfl (by omega) hp
    rcases (show k = 0 ∨ k = 1 ∨ k = 2 ∨ k = 3 ∨ k = 4 by omega) with rfl | rfl | rfl | rfl | rfl
    · have e2 : p2 = 0 := e
      subst e2
      refine br_t (by decide) (⟨vj, ?_⟩)
      rw [ej, rx_7 n1 hj8]
      simp only [lPo_f]
      unfold w_X10_echoOf
      refine r_isEcho m2 hc _ (fun z => absurd z (has_no hj (by omega))) (fun j' hj' e => rg_in (fun z => absurd z i10) (fun _ z => absurd z (by decide)) (fun _ _ => ⟨fun z => absurd z i10, fun _ => ?_⟩))
      unfold w_X10_echoAt
      simp only [ie_E0 hj8, rm_E0 n3 hj8]
      exact ⟨iv_E0 hj8, g_0 hN'⟩
    · have e2 : p2 = 1 := e
      subst e2
      refine br_f (by decide) (br_t (by decide) (⟨vj, ?_⟩))
      rw [ej, rx_8 n1 hj8]
      simp only [lPo_f]
      unfold w_X10_echoOf
      refine r_isEcho m2 hc _ (fun z => absurd z (has_no hj (by omega))) (fun j' hj' e => rg_in (fun z => absurd z i10) (fun _ z => absurd z (by decide)) (fun _ _ => ⟨fun z => absurd z i10, fun _ => ?_⟩))
      unfold w_X10_echoAt
      simp only [ie_E1 hj8, rm_E1 n3 hj8]
      exact ⟨iv_E1 hj8, g_0 hN'⟩
    · have e2 : p2 = 2 := e
      subst e2
      refine br_f (by decide) (br_f (by decide) (br_t (by decide) (⟨vj, ?_⟩)))
      rw [ej, rx_9 n1 hj8]
      simp only [lPo_f]
      unfold w_X10_echoOf
      refine r_isEcho m2 hc _ (fun z => absurd z (has_no hj (by omega))) (fun j' hj' e => rg_in (fun z => absurd z i10) (fun _ z => absurd z (by decide)) (fun _ _ => ⟨fun z => absurd z i10, fun _ => ?_⟩))
      unfold w_X10_echoAt
      simp only [ie_E2 hj8, rm_E2 n3 hj8]
      exact ⟨iv_E2 hj8, g_0 hN'⟩
    · have e2 : p2 = 3 := e
      subst e2
      refine br_f (by decide) (br_f (by decide) (br_f (by decide) (br_t (by decide) (⟨vj, ?_⟩))))
      rw [ej, rx_10 n1 hj8]
      simp only [lPo_f]
      unfold w_X10_echoOf
      refine r_isEcho m2 hc _ (fun z => absurd z (has_no hj (by omega))) (fun j' hj' e => rg_in (fun z => absurd z i10) (fun _ z => absurd z (by decide)) (fun _ _ => ⟨fun z => absurd z i10, fun _ => ?_⟩))
      unfold w_X10_echoAt
      simp only [ie_E3 hj8, rm_E3 n3 hj8]
      exact ⟨iv_E3 hj8, g_0 hN'⟩
    · have e2 : p2 = 4 := e
      subst e2
      refine br_f (by decide) (br_f (by decide) (br_f (by decide) (br_f (by decide) (br_t (by decide) (⟨vj, ?_⟩)))))
      rw [ej, rx_11 n1 hj8]
      simp only [lPo_f]
      unfold w_X10_echoOf
      refine r_isEcho m2 hc _ (fun z => absurd z (has_no hj (by omega))) (fun j' hj' e => rg_in (fun z => absurd z i10) (fun _ z => absurd z (by decide)) (fun _ _ => ⟨fun z => absurd z i10, fun _ => ?_⟩))
      unfold w_X10_echoAt
      simp only [ie_E4 hj8, rm_E4 n3 hj8]
      exact ⟨iv_E4 hj8, g_0 hN'⟩
theorem po_12 (hN : INV s q dM) (v : Nat → Int64) (vd : Nat → UInt64) (p1 p2 p3 : Int32) : ob_12 v vd p1 p2 p3 q (dM, []) (K1 s) := by
  have hN' := hN
  obtain ⟨⟨u, n1, n2, hI⟩, -⟩ := hN
  have hc := hI.1
  have hb := hc.1.2
  have hb2 := hc.2.1.2
  have hb3 := hc.2.2.2
  have m2 : RM ((dM, ([] : List Nat)).1 1) 0 u := n2
  have n3 : RM (up2 dM 0 15 0 1) 0 u := n2.g 15 0

  unfold ob_12 w_X9_singerOf w_X9_checkSinger
  refine x_hasSinger n1 hc p1 (fun c => ⟨fun z => absurd rfl z, fun _ => Or.inl ⟨rfl, ?_⟩⟩) (fun j hj e => ⟨fun _ => ?_, fun z => absurd z i10⟩)
  · simp only [lPo_f]
    unfold w_X10_singerOf
    exact r_isSinger m2 hc p1 (fun _ => rg_in (fun _ => ⟨fun z => absurd rfl z, fun _ => g_k (by decide) hN'⟩) (fun z => absurd rfl z) (fun z => absurd rfl z)) (fun j hj e => absurd (e ▸ c) (has_no hj (by omega)))
  subst e
  have hj8 : j < 6 := by omega
  have ej := nI_c (show j < 100000 by omega)
  have vj : vp_in (nI j) 6 := vp_in_nI hj8 (by decide)
  by_cases hp : p2 < 0 ∨ 6 < p2
  · refine ⟨fun e => absurd hp (by subst e; decide), fun _ => ⟨fun e => absurd hp (by subst e; decide), fun _ => ⟨fun e => absurd hp (by subst e; decide), fun _ => ⟨fun e => absurd hp (by subst e; decide), fun _ => ⟨fun e => absurd hp (by subst e; decide), fun _ => ⟨fun e => absurd hp (by subst e; decide), fun _ => ⟨fun e => absurd hp (by subst e; decide), fun _ => Or.inr ⟨rfl, ?_⟩⟩⟩⟩⟩⟩⟩⟩
    simp only [lPo_f]
    unfold w_X10_singerOf
    exact r_isSinger m2 hc _ (fun z => absurd z (has_no hj (by omega))) (fun j' hj' e => rg_in (fun z => absurd z i10) (fun _ z => ⟨fun z => absurd rfl z, fun _ => g_k (by decide) hN'⟩) (fun _ z => absurd hp z))
  · obtain ⟨k, hk, e⟩ := sw_rg (b := 6) rfl (by omega) hp
    rcases (show k = 0 ∨ k = 1 ∨ k = 2 ∨ k = 3 ∨ k = 4 ∨ k = 5 ∨ k = 6 by omega) with rfl | rfl | rfl | rfl | rfl | rfl | rfl
    · have e2 : p2 = 0 := e
      subst e2
      refine br_t (by decide) (⟨vj, ?_⟩)
      rw [ej, rx_13 n1 hj8]
      simp only [lPo_f]
      unfold w_X10_singerOf
      refine r_isSinger m2 hc _ (fun z => absurd z (has_no hj (by omega))) (fun j' hj' e => rg_in (fun z => absurd z i10) (fun _ z => absurd z (by decide)) (fun _ _ => ⟨fun _ => ?_, fun z => absurd z i10⟩))
      unfold w_X10_singerAt
      refine br_t (by decide) (?_)
      simp only [ie_S0 hj8, rm_S0 n3 hj8]
      exact ⟨iv_S0 hj8, g_0 hN'⟩
    · have e2 : p2 = 1 := e
      subst e2
      refine br_f (by decide) (br_t (by decide) (⟨vj, ?_⟩))
      rw [ej, rx_14 n1 hj8]
      simp only [lPo_f]
      unfold w_X10_singerOf
      refine r_isSinger m2 hc _ (fun z => absurd z (has_no hj (by omega))) (fun j' hj' e => rg_in (fun z => absurd z i10) (fun _ z => absurd z (by decide)) (fun _ _ => ⟨fun _ => ?_, fun z => absurd z i10⟩))
      unfold w_X10_singerAt
      refine br_f (by decide) (br_t (by decide) (?_))
      simp only [ie_S1 hj8, rm_S1 n3 hj8]
      exact ⟨iv_S1 hj8, g_0 hN'⟩
    · have e2 : p2 = 2 := e
      subst e2
      refine br_f (by decide) (br_f (by decide) (br_t (by decide) (⟨vj, ?_⟩)))
      rw [ej, rx_15 n1 hj8]
      simp only [lPo_f]
      unfold w_X10_singerOf
      refine r_isSinger m2 hc _ (fun z => absurd z (has_no hj (by omega))) (fun j' hj' e => rg_in (fun z => absurd z i10) (fun _ z => absurd z (by decide)) (fun _ _ => ⟨fun _ => ?_, fun z => absurd z i10⟩))
      unfold w_X10_singerAt
      refine br_f (by decide) (br_f (by decide) (br_t (by decide) (?_)))
      simp only [ie_S2 hj8, rm_S2 n3 hj8]
      exact ⟨iv_S2 hj8, g_0 hN'⟩
    · have e2 : p2 = 3 := e
      subst e2
      refine br_f (by decide) (br_f (by decide) (br_f (by decide) (br_t (by decide) (x_countLetTo n1 hc _ ?_))))
      simp only [lPo_f]
      unfold w_X10_singerOf
      refine r_isSinger m2 hc _ (fun z => absurd z (has_no hj (by omega))) (fun j' hj' e => rg_in (fun z => absurd z i10) (fun _ z => absurd z (by decide)) (fun _ _ => ⟨fun _ => ?_, fun z => absurd z i10⟩))
      unfold w_X10_singerAt
      refine br_f (by decide) (br_f (by decide) (br_f (by decide) (br_t (by decide) (?_))))
      exact r_letTo (q := (up2 dM 0 15 0, [])) n3 hc _ (g_0 hN')
    · have e2 : p2 = 4 := e
      subst e2
      refine br_f (by decide) (br_f (by decide) (br_f (by decide) (br_f (by decide) (br_t (by decide) (⟨vj, ?_⟩)))))
      rw [ej, rx_16 n1 hj8]
      simp only [lPo_f]
      unfold w_X10_singerOf
      refine r_isSinger m2 hc _ (fun z => absurd z (has_no hj (by omega))) (fun j' hj' e => rg_in (fun z => absurd z i10) (fun _ z => absurd z (by decide)) (fun _ _ => ⟨fun _ => ?_, fun z => absurd z i10⟩))
      unfold w_X10_singerAt
      refine br_f (by decide) (br_f (by decide) (br_f (by decide) (br_f (by decide) (br_t (by decide) (?_)))))
      simp only [ie_S3 hj8, rm_S3 n3 hj8]
      exact ⟨iv_S3 hj8, g_0 hN'⟩
    · have e2 : p2 = 5 := e
      subst e2
      refine br_f (by decide) (br_f (by decide) (br_f (by decide) (br_f (by decide) (br_f (by decide) (br_t (by decide) (⟨vj, ?_⟩))))))
      rw [ej, rx_17 n1 hj8]
      simp only [lPo_f]
      unfold w_X10_singerOf
      refine r_isSinger m2 hc _ (fun z => absurd z (has_no hj (by omega))) (fun j' hj' e => rg_in (fun z => absurd z i10) (fun _ z => absurd z (by decide)) (fun _ _ => ⟨fun _ => ?_, fun z => absurd z i10⟩))
      unfold w_X10_singerAt
      refine br_f (by decide) (br_f (by decide) (br_f (by decide) (br_f (by decide) (br_f (by decide) (br_t (by decide) (?_))))))
      simp only [ie_S4 hj8, rm_S4 n3 hj8]
      exact ⟨iv_S4 hj8, g_0 hN'⟩
    · have e2 : p2 = 6 := e
      subst e2
      refine br_f (by decide) (br_f (by decide) (br_f (by decide) (br_f (by decide) (br_f (by decide) (br_f (by decide) (br_t (by decide) (x_heldOf n1 hc _ ?_)))))))
      simp only [lPo_f]
      unfold w_X10_singerOf
      refine r_isSinger m2 hc _ (fun z => absurd z (has_no hj (by omega))) (fun j' hj' e => rg_in (fun z => absurd z i10) (fun _ z => absurd z (by decide)) (fun _ _ => ⟨fun _ => ?_, fun z => absurd z i10⟩))
      unfold w_X10_singerAt
      refine br_f (by decide) (br_f (by decide) (br_f (by decide) (br_f (by decide) (br_f (by decide) (br_f (by decide) (?_))))))
      exact r_heldOf (q := (up2 dM 0 15 0, [])) n3 hc _ (g_0 hN')
theorem po_17 (hN : INV s q dM) (v : Nat → Int64) (vd : Nat → UInt64) (p1 p2 p3 : Int32) : ob_17 v vd p1 p2 p3 q (dM, []) (K1 s) := by
  have hN' := hN
  obtain ⟨⟨u, n1, n2, hI⟩, -⟩ := hN
  have hc := hI.1
  have hb := hc.1.2
  have hb2 := hc.2.1.2
  have hb3 := hc.2.2.2
  have m2 : RM ((dM, ([] : List Nat)).1 1) 0 u := n2
  have n3 : RM (up2 dM 0 15 0 1) 0 u := n2.g 15 0
  have bad : (p1 < 0 ∨ nI (cS u) ≤ p1) ∨ (p2 < 0 ∨ nI (cR u) ≤ p2) → lPo (w_X10_would p1 p2 (dM, [])) (K1 s) 1 (v, vd, q) := fun hb => by
    have h9 : JX10_would_22 p1 p2 0 (fP s v 1 q) (dM, []) := r_goes (fun _ => ⟨fun _ => g_k (by decide) hN', fun z => absurd rfl z⟩) (fun z => absurd rfl z) (fun z => absurd rfl z)
    simp only [lPo_f]
    unfold w_X10_would
    refine r_isSinger m2 hc p1 (fun _ => ⟨fun _ => h9, fun z => absurd rfl z⟩) (fun i hi e => ⟨fun z => absurd z i10, fun _ => ?_⟩)
    refine r_isRoom m2 hc p2 (fun _ => ⟨fun _ => h9, fun z => absurd rfl z⟩) (fun j hj e' => ?_)
    subst e e'
    exact absurd hb (fun z => z.elim (has_no hi (by omega)) (has_no hj (by omega)))
  unfold ob_17 w_X9_would w_X9_checkSinger w_X9_checkRoom
  refine x_hasSinger n1 hc p1 (fun c => ⟨fun z => absurd rfl z, fun _ => ⟨rfl, bad (Or.inl c)⟩⟩) (fun i hi e => ⟨fun _ => ?_, fun z => absurd z i10⟩)
  refine x_hasRoom n1 hc p2 (fun c => ⟨fun z => absurd rfl z, fun _ => ⟨rfl, bad (Or.inr c)⟩⟩) (fun j hj e' => ⟨fun _ => ?_, fun z => absurd z i10⟩)
  subst e e'
  refine x_tonesInRoom n1 hc hI.ech _ _ ?_
  simp only [lPo_f]
  rw [← ton_ti hI hj (show i < 100000 by omega)]
  unfold w_X10_would
  refine r_isSinger m2 hc _ (fun z => absurd z (has_no hi (by omega))) (fun i' hi' e => ⟨fun z => absurd z i10, fun _ => ?_⟩)
  refine r_isRoom m2 hc _ (fun z => absurd z (has_no hj (by omega))) (fun j' hj' e' => ⟨fun z => absurd z i10, fun _ => ?_⟩)
  unfold JX10_would_22
  exact r_goes (fun z => absurd z i10) (fun _ z => absurd z i10) (fun _ _ => ⟨fun z => absurd z i10, fun _ => r_tonesIn (q := (up2 dM 0 15 0, [])) n3 hc (r := j) (by omega) _ _ (g_0 hN')⟩)
/-- .. and of calls that answer a boolean -/
def fB (s : Nat) (v : Nat → Int64) (kk : Int32) (q2 : aS) (b : Int32) (qm : aS) : Prop := w_X10_thrown qm (fun th qm' => th = kk ∧ (kk = 0 → v 0 = bL b) ∧ K1 s q2 qm')
theorem lPob_f {wM : (Int32 → aS → Prop) → Prop} {s : Nat} {kk : Int32} {v : Nat → Int64} {vd : Nat → UInt64} {q2 : aS} : lPob wM (K1 s) kk (v, vd, q2) = wM (fB s v kk q2) := rfl
theorem h_k {t : List Nat} {v : Nat → Int64} {kk r : Int32} (hk : ¬ kk = 0) (hN : INV s q dM) : fB s v kk q r (up2 dM 0 15 kk, t) :=
  ⟨a_15 dM kk, fun z => absurd z hk, hN.quiet ((QT.rf dM).up (j := 15) (by decide) kk)⟩
theorem h_q {t : List Nat} {v : Nat → Int64} {r : Int32} {d' : pU} (hN : INV s q dM) (hq : QT dM d') (h15 : d' 0 15 = 0) : fB s (vp_updL v 0 (bL r)) 0 q r (d', t) :=
  ⟨h15, fun _ => by unfold vp_updL; rw [if_pos rfl], hN.quiet hq⟩
/-- the state in which the reference asks why not -/
def wq_ (d : pU) : pU := up2 (up2 d 0 15 0) 0 16 0
theorem wq_Q (d : pU) : QT d (wq_ d) := ((QT.rf d).up (by decide) 0).up (by decide) 0
theorem wq_16 (d : pU) : wq_ d 0 16 = 0 := by unfold wq_; rw [up2_at, if_pos (by decide)]
theorem wq_15 (d : pU) : wq_ d 0 15 = 0 := by unfold wq_; rw [up2_at, if_neg (by decide), up2_at, if_pos (by decide)]
theorem wq_h (d : pU) (r x : Int32) : QT d (hd_ (wq_ d, []) r x).1 ∧ (hd_ (wq_ d, []) r x).1 0 15 = 0 :=
  ⟨((wq_Q d).up (by decide) r).up (by decide) x, by
    show up2 (up2 (wq_ d) 0 16 r) 0 17 x 0 15 = 0
    rw [up2_at, if_neg (by decide), up2_at, if_neg (by decide), wq_15]⟩
theorem po_19 (hN : INV s q dM) (v : Nat → Int64) (vd : Nat → UInt64) (p1 p2 p3 : Int32) : ob_19 v vd p1 p2 p3 q (dM, []) (K1 s) := by
  have hN' := hN
  obtain ⟨⟨u, n1, n2, hI⟩, -⟩ := hN
  have hc := hI.1
  have hb := hc.1.2
  have hb2 := hc.2.1.2
  have hb3 := hc.2.2.2
  have m2 : RM ((dM, ([] : List Nat)).1 1) 0 u := n2
  have n3 : RM (up2 dM 0 15 0 1) 0 u := n2.g 15 0
  have bad : (p1 < 0 ∨ nI (cS u) ≤ p1) ∨ (p2 < 0 ∨ nI (cR u) ≤ p2) → lPob (w_X10_canEnter p1 p2 (dM, [])) (K1 s) 1 (v, vd, q) := fun hb => by
    have h9 : JX10_canEnter_22 p1 p2 0 (fB s v 1 q) (dM, []) := r_goes (fun _ => ⟨fun z => absurd rfl z, fun _ => h_k (by decide) hN'⟩) (fun z => absurd rfl z) (fun z => absurd rfl z)
    simp only [lPob_f]
    unfold w_X10_canEnter
    refine r_isSinger m2 hc p1 (fun _ => ⟨fun _ => h9, fun z => absurd rfl z⟩) (fun i hi e => ⟨fun z => absurd z i10, fun _ => ?_⟩)
    refine r_isRoom m2 hc p2 (fun _ => ⟨fun _ => h9, fun z => absurd rfl z⟩) (fun j hj e' => ?_)
    subst e e'
    exact absurd hb (fun z => z.elim (has_no hi (by omega)) (has_no hj (by omega)))
  unfold ob_19 w_X9_canEnter w_X9_checkSinger w_X9_checkRoom
  refine x_hasSinger n1 hc p1 (fun c => ⟨fun z => absurd rfl z, fun _ => ⟨rfl, bad (Or.inl c)⟩⟩) (fun i hi e => ⟨fun _ => ?_, fun z => absurd z i10⟩)
  refine x_hasRoom n1 hc p2 (fun c => ⟨fun z => absurd rfl z, fun _ => ⟨rfl, bad (Or.inr c)⟩⟩) (fun j hj e' => ⟨fun _ => ?_, fun z => absurd z i10⟩)
  subst e e'
  have hi6 : i < 6 := by omega
  have hj6 : j < 6 := by omega
  have go : ∀ {r : Int32}, ((pAR i j u).1 = 0 → r = 1) → (¬ (pAR i j u).1 = 0 → r = 0) → lPob (w_X10_canEnter (nI i) (nI j) (dM, [])) (K1 s) 0 (vp_updL v 0 (bL r), vd, q) := fun {r} g1 g0 => by
    simp only [lPob_f]
    unfold w_X10_canEnter
    refine r_isSinger m2 hc _ (fun z => absurd z (has_no hi (by omega))) (fun i' hi' e => ⟨fun z => absurd z i10, fun _ => ?_⟩)
    refine r_isRoom m2 hc _ (fun z => absurd z (has_no hj (by omega))) (fun j' hj' e' => ⟨fun z => absurd z i10, fun _ => ?_⟩)
    unfold JX10_canEnter_22
    refine r_goes (fun z => absurd z i10) (fun _ z => absurd z i10) (fun _ _ => ⟨fun _ => ?_, fun z => absurd z i10⟩)
    intro q7 E
    subst E
    show w_X10_asksRoom (nI i) (nI j) (wq_ dM, []) _
    refine r_asksRoom (q := (wq_ dM, [])) (n3.g 16 0) hc (wq_16 dM) hi6 hj6 (fun z => ⟨fun w => absurd (wq_16 dM) w, fun _ => ?_⟩) (fun z => ⟨fun _ => ?_, fun w => absurd w (by rw [hd_16]; exact z)⟩)
    · rw [g1 z]
      exact h_q hN' (wq_Q dM) (wq_15 dM)
    · rw [g0 z]
      exact h_q hN' (wq_h dM (pAR i j u).1 (pAR i j u).2).1 (wq_h dM (pAR i j u).1 (pAR i j u).2).2
  rw [nI_c (show i < 100000 by omega), rx_15 n1 hi6]
  refine ⟨vp_in_nI hi6 (by decide), fun c => go (fun z => ?_) (fun _ => rfl), fun c => x_isFull n1 hc hj6 (fun c2 => ⟨fun z => absurd rfl z, fun _ => x_isTooShyFor n1 hc _ hi6 (fun c3 => ⟨fun z => absurd rfl z, fun _ => go (fun _ => rfl) (fun z => ?_)⟩) (fun c3 => ⟨fun _ => go (fun z => ?_) (fun _ => rfl), fun z => absurd z i10⟩)⟩) (fun c2 => ⟨fun _ => go (fun z => ?_) (fun _ => rfl), fun z => absurd z i10⟩)⟩
  · rw [pAR, if_pos c] at z
    exact absurd z (show ¬ (4 : Int32) = 0 by decide)
  · rw [pAR, if_neg c, if_neg (fun z => z c2), if_neg (fun z => z c3)] at z
    exact absurd rfl z
  · rw [pAR, if_neg c, if_neg (fun z => z c2), if_pos c3] at z
    exact absurd z (show ¬ (6 : Int32) = 0 by decide)
  · rw [pAR, if_neg c, if_pos c2] at z
    exact absurd z (show ¬ (5 : Int32) = 0 by decide)
theorem po_20 (hN : INV s q dM) (v : Nat → Int64) (vd : Nat → UInt64) (p1 p2 p3 : Int32) : ob_20 v vd p1 p2 p3 q (dM, []) (K1 s) := by
  have hN' := hN
  obtain ⟨⟨u, n1, n2, hI⟩, -⟩ := hN
  have hc := hI.1
  have hb := hc.1.2
  have hb2 := hc.2.1.2
  have hb3 := hc.2.2.2
  have m2 : RM ((dM, ([] : List Nat)).1 1) 0 u := n2
  have n3 : RM (up2 dM 0 15 0 1) 0 u := n2.g 15 0
  have bad : (p1 < 0 ∨ nI (cS u) ≤ p1) ∨ (p2 < 0 ∨ nI (cE u) ≤ p2) → lPob (w_X10_canRent p1 p2 (dM, [])) (K1 s) 1 (v, vd, q) := fun hb => by
    have h9 : JX10_canRent_22 p1 p2 0 (fB s v 1 q) (dM, []) := r_goes (fun _ => ⟨fun z => absurd rfl z, fun _ => h_k (by decide) hN'⟩) (fun z => absurd rfl z) (fun z => absurd rfl z)
    simp only [lPob_f]
    unfold w_X10_canRent
    refine r_isSinger m2 hc p1 (fun _ => ⟨fun _ => h9, fun z => absurd rfl z⟩) (fun i hi e => ⟨fun z => absurd z i10, fun _ => ?_⟩)
    refine r_isEcho m2 hc p2 (fun _ => ⟨fun _ => h9, fun z => absurd rfl z⟩) (fun j hj e' => ?_)
    subst e e'
    exact absurd hb (fun z => z.elim (has_no hi (by omega)) (has_no hj (by omega)))
  unfold ob_20 w_X9_canRent w_X9_checkSinger w_X9_checkEcho
  refine x_hasSinger n1 hc p1 (fun c => ⟨fun z => absurd rfl z, fun _ => ⟨rfl, bad (Or.inl c)⟩⟩) (fun i hi e => ⟨fun _ => ?_, fun z => absurd z i10⟩)
  refine x_hasEcho n1 hc p2 (fun c => ⟨fun z => absurd rfl z, fun _ => ⟨rfl, bad (Or.inr c)⟩⟩) (fun j hj e' => ⟨fun _ => ?_, fun z => absurd z i10⟩)
  subst e e'
  have hi6 : i < 6 := by omega
  have hj8 : j < 8 := by omega
  have go : ∀ {r : Int32}, ((pAE i j u).1 = 0 → r = 1) → (¬ (pAE i j u).1 = 0 → r = 0) → lPob (w_X10_canRent (nI i) (nI j) (dM, [])) (K1 s) 0 (vp_updL v 0 (bL r), vd, q) := fun {r} g1 g0 => by
    simp only [lPob_f]
    unfold w_X10_canRent
    refine r_isSinger m2 hc _ (fun z => absurd z (has_no hi (by omega))) (fun i' hi' e => ⟨fun z => absurd z i10, fun _ => ?_⟩)
    refine r_isEcho m2 hc _ (fun z => absurd z (has_no hj (by omega))) (fun j' hj' e' => ⟨fun z => absurd z i10, fun _ => ?_⟩)
    unfold JX10_canRent_22
    refine r_goes (fun z => absurd z i10) (fun _ z => absurd z i10) (fun _ _ => ⟨fun _ => ?_, fun z => absurd z i10⟩)
    intro q7 E
    subst E
    show w_X10_asksEcho (nI i) (nI j) (wq_ dM, []) _
    refine r_asksEcho (q := (wq_ dM, [])) (n3.g 16 0) (wq_16 dM) hi6 hj8 (fun z => ⟨fun w => absurd (wq_16 dM) w, fun _ => ?_⟩) (fun z => ⟨fun _ => ?_, fun w => absurd w (by rw [hd_16]; exact z)⟩)
    · rw [g1 z]
      exact h_q hN' (wq_Q dM) (wq_15 dM)
    · rw [g0 z]
      exact h_q hN' (wq_h dM (pAE i j u).1 (pAE i j u).2).1 (wq_h dM (pAE i j u).1 (pAE i j u).2).2
  refine x_isLet n1 hj8 (fun c => ⟨fun z => absurd rfl z, fun _ => x_isWithEcho n1 hi6 hj8 (fun c2 => ⟨fun _ => go (fun z => ?_) (fun _ => rfl), fun z => absurd rfl z⟩) (fun c2 => ⟨fun z => absurd z i10, fun _ => x_canPayFor n1 hi6 hj8 (fun c3 => ⟨fun _ => go (fun z => ?_) (fun _ => rfl), fun z => absurd rfl z⟩) (fun c3 => ⟨fun z => absurd z i10, fun _ => go (fun _ => rfl) (fun z => ?_)⟩)⟩)⟩) (fun c => ⟨fun _ => go (fun z => ?_) (fun _ => rfl), fun z => absurd z i10⟩)
  · rw [pAE, if_neg (fun z => z c), if_pos c2] at z
    exact absurd z (show ¬ (8 : Int32) = 0 by decide)
  · rw [pAE, if_neg (fun z => z c), if_neg (fun z => z c2), if_pos c3] at z
    exact absurd z (show ¬ (9 : Int32) = 0 by decide)
  · rw [pAE, if_neg (fun z => z c), if_neg (fun z => z c2), if_neg c3] at z
    exact absurd rfl z
  · rw [pAE, if_pos c] at z
    exact absurd z (show ¬ (7 : Int32) = 0 by decide)
end ASK2

/-! calls that ask -/
section RG
variable {q : aS} {u : pU}
theorem rg_room (h : RM (q.1 1) 0 u) (hc : Cnt u) {x : Int32} {B : Int32 → aS → Prop} (bad : (x < 0 ∨ nI (cR u) ≤ x) → B 0 (up2 q.1 0 15 1, q.2)) (ok : ∀ j, j < cR u → x = nI j → B 1 (up2 q.1 0 15 0, q.2)) : w_X10_isRoom x q (fun r2 q3 => w_X10_goes r2 1 q3 B) :=
  r_isRoom h hc x (fun c => r_goes (fun _ => bad c) (fun z => absurd rfl z) (fun z => absurd rfl z)) (fun j hj e => r_goes (fun z => absurd z i10) (fun _ z => absurd z i10) (fun _ _ => ok j hj e))
theorem rg_echo (h : RM (q.1 1) 0 u) (hc : Cnt u) {x : Int32} {B : Int32 → aS → Prop} (bad : (x < 0 ∨ nI (cE u) ≤ x) → B 0 (up2 q.1 0 15 1, q.2)) (ok : ∀ j, j < cE u → x = nI j → B 1 (up2 q.1 0 15 0, q.2)) : w_X10_isEcho x q (fun r2 q3 => w_X10_goes r2 1 q3 B) :=
  r_isEcho h hc x (fun c => r_goes (fun _ => bad c) (fun z => absurd rfl z) (fun z => absurd rfl z)) (fun j hj e => r_goes (fun z => absurd z i10) (fun _ z => absurd z i10) (fun _ _ => ok j hj e))
theorem rg_singer (h : RM (q.1 1) 0 u) (hc : Cnt u) {x : Int32} {B : Int32 → aS → Prop} (bad : (x < 0 ∨ nI (cS u) ≤ x) → B 0 (up2 q.1 0 15 1, q.2)) (ok : ∀ j, j < cS u → x = nI j → B 1 (up2 q.1 0 15 0, q.2)) : w_X10_isSinger x q (fun r2 q3 => w_X10_goes r2 1 q3 B) :=
  r_isSinger h hc x (fun c => r_goes (fun _ => bad c) (fun z => absurd rfl z) (fun z => absurd rfl z)) (fun j hj e => r_goes (fun z => absurd z i10) (fun _ z => absurd z i10) (fun _ _ => ok j hj e))
/-- two checks: the first says 1, the second 2 -/
theorem rg_in {x a b : Int32} {y : Int32} {B : Int32 → aS → Prop} (bad1 : y = 0 → B 0 (up2 q.1 0 15 1, q.2)) (bad2 : ¬ y = 0 → (x < a ∨ b < x) → B 0 (up2 q.1 0 15 2, q.2)) (ok : ¬ y = 0 → ¬ (x < a ∨ b < x) → B 1 (up2 q.1 0 15 0, q.2)) : w_X10_isIn x a b q (fun r5 q6 => w_X10_goes y r5 q6 B) :=
  r_isIn (fun c => r_goes bad1 (fun z _ => bad2 z c) (fun _ z => absurd rfl z)) (fun c1 c2 => r_goes bad1 (fun _ z => absurd z i10) (fun z _ => ok z (fun w => w.elim c1 c2)))
end RG
theorem lPo_f {wM : (Int32 → aS → Prop) → Prop} {s : Nat} {kk : Int32} {v : Nat → Int64} {vd : Nat → UInt64} {q2 : aS} : lPo wM (K1 s) kk (v, vd, q2) = wM (fP s v kk q2) := rfl
section ASK
variable {s : Nat} {q : aS} {dM : pU}
theorem po_22 (hN : INV s q dM) (v : Nat → Int64) (vd : Nat → UInt64) (p1 p2 p3 : Int32) : ob_22 v vd p1 p2 p3 q (dM, []) (K1 s) := by
  have hN' := hN
  obtain ⟨⟨u, n1, n2, hI⟩, -⟩ := hN
  have hc := hI.1
  have hb := hc.1.2
  have m2 : RM ((dM, ([] : List Nat)).1 1) 0 u := n2
  have n3 : RM (up2 dM 0 15 0 1) 0 u := n2.g 15 0
  unfold ob_22 w_X9_others w_X9_checkRoom
  refine x_hasRoom n1 hc p1 (fun c => ⟨fun z => absurd rfl z, fun _ => ⟨rfl, ?_⟩⟩) (fun j hj e => ⟨fun _ => x_singersIn n1 hc _ ?_, fun z => absurd z i10⟩)
  · simp only [lPo_f]
    exact rg_room m2 hc (fun _ => ⟨fun _ => g_k (by decide) hN', fun z => absurd rfl z⟩) (fun j hj e => absurd (e ▸ c) (has_no hj (by omega)))
  · simp only [lPo_f]
    exact rg_room m2 hc (fun c => absurd (e ▸ c) (has_no hj (by omega))) (fun j hj e => ⟨fun z => absurd z i10, fun _ => r_singersIn (q := (up2 dM 0 15 0, [])) n3 hc _ (g_0 hN')⟩)
theorem po_23 (hN : INV s q dM) (v : Nat → Int64) (vd : Nat → UInt64) (p1 p2 p3 : Int32) : ob_23 v vd p1 p2 p3 q (dM, []) (K1 s) := by
  have hN' := hN
  obtain ⟨⟨u, n1, n2, hI⟩, -⟩ := hN
  have hc := hI.1
  have hb := hc.1.2
  have m2 : RM ((dM, ([] : List Nat)).1 1) 0 u := n2
  have n3 : RM (up2 dM 0 15 0 1) 0 u := n2.g 15 0
  unfold ob_23 w_X9_free w_X9_checkRoom
  refine x_hasRoom n1 hc p1 (fun c => ⟨fun z => absurd rfl z, fun _ => ⟨rfl, ?_⟩⟩) (fun j hj e => ⟨fun _ => x_freeIn n1 hc _ ?_, fun z => absurd z i10⟩)
  · simp only [lPo_f]
    exact rg_room m2 hc (fun _ => ⟨fun _ => g_k (by decide) hN', fun z => absurd rfl z⟩) (fun j hj e => absurd (e ▸ c) (has_no hj (by omega)))
  · simp only [lPo_f]
    exact rg_room m2 hc (fun c => absurd (e ▸ c) (has_no hj (by omega))) (fun j hj e => ⟨fun z => absurd z i10, fun _ => r_freeIn (q := (up2 dM 0 15 0, [])) n3 hc _ (g_0 hN')⟩)
theorem dry_eq : ∀ d, d < 10 → ((nI d + 2) - 1) / 2 = (nI d + 1) / 2 := by decide +kernel
theorem po_24 (hN : INV s q dM) (v : Nat → Int64) (vd : Nat → UInt64) (p1 p2 p3 : Int32) : ob_24 v vd p1 p2 p3 q (dM, []) (K1 s) := by
  have hN' := hN
  obtain ⟨⟨u, n1, n2, hI⟩, -⟩ := hN
  have hc := hI.1
  have hb := hc.1.2
  have m2 : RM ((dM, ([] : List Nat)).1 1) 0 u := n2
  have n3 : RM (up2 dM 0 15 0 1) 0 u := n2.g 15 0
  unfold ob_24 w_X9_dryIn w_X9_checkRoom
  refine x_hasRoom n1 hc p1 (fun c => ⟨fun z => absurd rfl z, fun _ => ⟨rfl, ?_⟩⟩) (fun j hj e => ⟨fun _ => ?_, fun z => absurd z i10⟩)
  · simp only [lPo_f]
    exact rg_room m2 hc (fun _ => ⟨fun _ => g_k (by decide) hN', fun z => absurd rfl z⟩) (fun j hj e => absurd (e ▸ c) (has_no hj (by omega)))
  · obtain ⟨d, -, hd, ed⟩ := (hI.2.1 j hj).2
    have hj6 : j < 6 := by omega
    subst e
    rw [nI_c (show j < 100000 by omega), rx_4 n1 hj6, ed, dry_eq d (by omega)]
    refine ⟨vp_in_nI hj6 (by decide), ?_⟩
    simp only [lPo_f]
    refine rg_room m2 hc (fun c => absurd c (has_no hj (by omega))) (fun j' hj' e => ⟨fun z => absurd z i10, fun _ => ?_⟩)
    unfold w_X10_roomAt
    simp only [ie_R1 hj6, rm_R1 n3 hj6, ed]
    exact ⟨iv_R1 hj6, g_0 hN'⟩
theorem po_21 (hN : INV s q dM) (v : Nat → Int64) (vd : Nat → UInt64) (p1 p2 p3 : Int32) : ob_21 v vd p1 p2 p3 q (dM, []) (K1 s) := by
  have hN' := hN
  obtain ⟨⟨u, n1, n2, hI⟩, -⟩ := hN
  have hc := hI.1
  have hb := hc.2.1.2
  have m2 : RM ((dM, ([] : List Nat)).1 1) 0 u := n2
  have n3 : RM (up2 dM 0 15 0 1) 0 u := n2.g 15 0
  unfold ob_21 w_X9_backFor w_X9_checkEcho
  refine x_hasEcho n1 hc p1 (fun c => ⟨fun z => absurd rfl z, fun _ => Or.inl ⟨rfl, ?_⟩⟩) (fun j hj e => ⟨fun _ => ?_, fun z => absurd z i10⟩)
  · have h9 : ∀ a, JX10_backFor_37 p1 a (fP s v 1 q) (dM, []) := fun a => by
      unfold JX10_backFor_37
      exact r_isEcho m2 hc p1 (fun _ => r_goes (fun _ => ⟨fun _ => g_k (by decide) hN', fun z => absurd rfl z⟩) (fun z => absurd rfl z) (fun z => absurd rfl z)) (fun j hj e => absurd (e ▸ c) (has_no hj (by omega)))
    simp only [lPo_f]
    unfold w_X10_backFor
    exact r_isEcho m2 hc p1 (fun _ => ⟨fun _ => h9 0, fun z => absurd rfl z⟩) (fun j hj e => absurd (e ▸ c) (has_no hj (by omega)))
  · subst e
    have hj8 : j < 8 := by omega
    refine x_isLet n1 hj8 (fun c => ⟨fun z => absurd rfl z, fun _ => Or.inr ⟨rfl, ?_⟩⟩) (fun c => ⟨fun _ => x_aboveDamp n1 hc hI.ech hj ?_, fun z => absurd z i10⟩)
    · simp only [lPo_f]
      unfold w_X10_backFor
      refine r_isEcho m2 hc _ (fun z => absurd z (has_no hj (by omega))) (fun j' hj' e => ⟨fun z => absurd z i10, fun _ => ?_⟩)
      unfold w_X10_echoAt
      rw [clamp_j hj8]
      simp only [ie_E2 hj8, rm_E2 n2 hj8]
      refine ⟨iv_E2 hj8, fun _ => ?_, fun z => absurd c z⟩
      unfold JX10_backFor_36 JX10_backFor_37
      exact r_isEcho m2 hc _ (fun z => absurd z (has_no hj (by omega))) (fun j' hj' e => r_goes (fun z => absurd z i10) (fun _ _ => ⟨fun _ => g_k (by decide) hN', fun z => absurd rfl z⟩) (fun _ z => absurd rfl z))
    · simp only [lPo_f]
      unfold w_X10_backFor
      refine r_isEcho m2 hc _ (fun z => absurd z (has_no hj (by omega))) (fun j' hj' e => ⟨fun z => absurd z i10, fun _ => ?_⟩)
      unfold w_X10_echoAt
      rw [clamp_j hj8]
      simp only [ie_E2 hj8, rm_E2 n2 hj8]
      refine ⟨iv_E2 hj8, fun z => absurd z c, fun _ => ?_⟩
      unfold JX10_backFor_37
      exact r_isEcho m2 hc _ (fun z => absurd z (has_no hj (by omega))) (fun j' hj' e => r_goes (fun z => absurd z i10) (fun _ z => absurd z i10) (fun _ _ => ⟨fun z => absurd z i10, fun _ => r_worthOf (q := (up2 dM 0 15 0, [])) n3 hc hI.ech hj (g_0 hN')⟩))
theorem po_10 (hN : INV s q dM) (v : Nat → Int64) (vd : Nat → UInt64) (p1 p2 p3 : Int32) : ob_10 v vd p1 p2 p3 q (dM, []) (K1 s) := by
  have hN' := hN
  obtain ⟨⟨u, n1, n2, hI⟩, -⟩ := hN
  have hc := hI.1
  have hb := hc.1.2
  have m2 : RM ((dM, ([] : List Nat)).1 1) 0 u := n2
  have n3 : RM (up2 dM 0 15 0 1) 0 u := n2.g 15 0
  unfold ob_10 w_X9_roomOf w_X9_checkRoom
  refine x_hasRoom n1 hc p1 (fun c => ⟨fun z => absurd rfl z, fun _ => Or.inl ⟨rfl, ?_⟩⟩) (fun j hj e => ⟨fun _ => ?_, fun z => absurd z i10⟩)
  · simp only [lPo_f]
    unfold w_X10_roomOf
    exact r_isRoom m2 hc p1 (fun _ => rg_in (fun _ => ⟨fun z => absurd rfl z, fun _ => g_k (by decide) hN'⟩) (fun z => absurd rfl z) (fun z => absurd rfl z)) (fun j hj e => absurd (e ▸ c) (has_no hj (by omega)))
  · subst e
    have hj6 : j < 6 := by omega
    have ej := nI_c (show j < 100000 by omega)
    have vj : vp_in (nI j) 6 := vp_in_nI hj6 (by decide)
    have hno : (¬ p2 = 0 ∧ ¬ p2 = 1 ∧ ¬ p2 = 2 ∧ ¬ p2 = 3 ∧ ¬ p2 = 4 ∧ ¬ p2 = 5) → ¬ ¬ (p2 < 0 ∨ 5 < p2) := fun ⟨h0, h1, h2, h3, h4, h5⟩ z => by
      obtain ⟨k, -, hk, e⟩ := Rg.of (x := p2) (a := 0) (b := 5) rfl rfl (by omega) (by omega) (fun w => z (Or.inl w)) (le_of_nlt (fun w => z (Or.inr w)))
      subst e
      rcases (show k = 0 ∨ k = 1 ∨ k = 2 ∨ k = 3 ∨ k = 4 ∨ k = 5 by omega) with rfl | rfl | rfl | rfl | rfl | rfl
      · exact h0 rfl
      · exact h1 rfl
      · exact h2 rfl
      · exact h3 rfl
      · exact h4 rfl
      · exact h5 rfl
    have fin : ∀ {r : Int32}, (p2 = 0 ∨ p2 = 1 ∨ p2 = 2 ∨ p2 = 3 ∨ p2 = 4 ∨ p2 = 5) → ((p2 = 0 → w_X10_roomAt (nI j) (up2 dM 0 15 0, []) (fun r9 q10 => (vp_in (r9 + p2) 97 ∧ fP s (vp_updL v 0 (r.toInt64)) 0 q (q10.1 1 (Int32.toNatClampNeg (r9 + p2))) q10))) ∧ (¬ p2 = 0 → ((p2 = 1 → w_X10_roomAt (nI j) (up2 dM 0 15 0, []) (fun r11 q12 => (vp_in (r11 + p2) 97 ∧ fP s (vp_updL v 0 (r.toInt64)) 0 q (q12.1 1 (Int32.toNatClampNeg (r11 + p2))) q12))) ∧ (¬ p2 = 1 → ((p2 = 2 → w_X10_othersIn (nI j) (up2 dM 0 15 0, []) (fun r13 q14 => fP s (vp_updL v 0 (r.toInt64)) 0 q r13 q14)) ∧ (¬ p2 = 2 → ((p2 = 3 → w_X10_echoesIn (nI j) 0 (up2 dM 0 15 0, []) (fun r15 q16 => w_J6_bitCount_0f7a4 r15 q16 (fun r17 q18 => fP s (vp_updL v 0 (r.toInt64)) 0 q r17 q18))) ∧ (¬ p2 = 3 → ((p2 = 4 → w_X10_echoesIn (nI j) 0 (up2 dM 0 15 0, []) (fun r19 q20 => w_J6_bitCount_0f7a4 r19 q20 (fun r21 q22 => w_X10_echoesIn (nI j) 1 q22 (fun r23 q24 => w_J6_bitCount_0f7a4 r23 q24 (fun r25 q26 => fP s (vp_updL v 0 (r.toInt64)) 0 q (r21 - r25) q26))))) ∧ (¬ p2 = 4 → w_X10_roomAt (nI j) (up2 dM 0 15 0, []) (fun r27 q28 => (vp_in (r27 + 2) 97 ∧ fP s (vp_updL v 0 (r.toInt64)) 0 q (q28.1 1 (Int32.toNatClampNeg (r27 + 2))) q28)))))))))))) → lPo (w_X10_roomOf (nI j) p2 (dM, [])) (K1 s) 0 (vp_updL v 0 (r.toInt64), vd, q) := fun hp h9 => by
      simp only [lPo_f]
      unfold w_X10_roomOf
      refine r_isRoom m2 hc _ (fun z => absurd z (has_no hj (by omega))) (fun j' hj' e => rg_in (fun z => absurd z i10) (fun _ z => ?_) (fun _ _ => ⟨fun _ => h9, fun z => absurd z i10⟩))
      rcases hp with rfl | rfl | rfl | rfl | rfl | rfl <;> exact absurd z (by decide)
    rw [ej, rx_3 n1 hj6, rx_4 n1 hj6, rx_5 n1 hj6]
    refine ⟨fun e0 => ⟨vj, fin (Or.inl e0) ⟨fun _ => ?_, fun z => absurd e0 z⟩⟩, fun e0 => ⟨fun e1 => ⟨vj, fin (Or.inr (Or.inl e1)) ⟨fun z => absurd z e0, fun _ => ⟨fun _ => ?_, fun z => absurd e1 z⟩⟩⟩, fun e1 => ⟨fun e2 => x_singersIn n1 hc _ (x_bc _ (fin (Or.inr (Or.inr (Or.inl e2))) ⟨fun z => absurd z e0, fun _ => ⟨fun z => absurd z e1, fun _ => ⟨fun _ => ?_, fun z => absurd e2 z⟩⟩⟩)), fun e2 => ⟨fun e3 => x_echoesIn n1 hc _ (x_bc _ (fin (Or.inr (Or.inr (Or.inr (Or.inl e3)))) ⟨fun z => absurd z e0, fun _ => ⟨fun z => absurd z e1, fun _ => ⟨fun z => absurd z e2, fun _ => ⟨fun _ => ?_, fun z => absurd e3 z⟩⟩⟩⟩)), fun e3 => ⟨fun e4 => x_echoesIn n1 hc _ (x_freeIn n1 hc _ (x_bc _ (fin (Or.inr (Or.inr (Or.inr (Or.inr (Or.inl e4))))) ⟨fun z => absurd z e0, fun _ => ⟨fun z => absurd z e1, fun _ => ⟨fun z => absurd z e2, fun _ => ⟨fun z => absurd z e3, fun _ => ⟨fun _ => ?_, fun z => absurd e4 z⟩⟩⟩⟩⟩))), fun e4 => ⟨fun e5 => ⟨vj, fin (Or.inr (Or.inr (Or.inr (Or.inr (Or.inr e5))))) ⟨fun z => absurd z e0, fun _ => ⟨fun z => absurd z e1, fun _ => ⟨fun z => absurd z e2, fun _ => ⟨fun z => absurd z e3, fun _ => ⟨fun z => absurd z e4, fun _ => ?_⟩⟩⟩⟩⟩⟩, fun e5 => Or.inr ⟨rfl, ?_⟩⟩⟩⟩⟩⟩⟩
    · subst e0
      unfold w_X10_roomAt
      simp only [ie_R0 hj6, rm_R0 n3 hj6]
      exact ⟨iv_R0 hj6, g_0 hN'⟩
    · subst e1
      unfold w_X10_roomAt
      simp only [ie_R1 hj6, rm_R1 n3 hj6]
      exact ⟨iv_R1 hj6, g_0 hN'⟩
    · exact r_othersIn (q := (up2 dM 0 15 0, [])) n3 hc _ (g_0 hN')
    · exact r_echoesIn (q := (up2 dM 0 15 0, [])) n3 hc _ (x_bc _ (g_0 hN'))
    · refine r_echoesIn (q := (up2 dM 0 15 0, [])) n3 hc _ (x_bc _ (r_freeIn (q := (up2 dM 0 15 0, [])) n3 hc _ (x_bc _ ?_)))
      rw [let_cnt hc]
      exact g_0 hN'
    · unfold w_X10_roomAt
      simp only [ie_R2 hj6, rm_R2 n3 hj6]
      exact ⟨iv_R2 hj6, g_0 hN'⟩
    · simp only [lPo_f]
      unfold w_X10_roomOf
      exact r_isRoom m2 hc _ (fun z => absurd z (has_no hj (by omega))) (fun j' hj' e => rg_in (fun z => absurd z i10) (fun _ z => ⟨fun z => absurd rfl z, fun _ => g_k (by decide) hN'⟩) (fun _ z => absurd z (hno ⟨e0, e1, e2, e3, e4, e5⟩)))
end ASK

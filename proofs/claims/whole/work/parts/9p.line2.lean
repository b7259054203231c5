/-! the line of text, both sides -/
/-- the reference's line so far -/
def LW (d0 : pU) (t : List Nat) (d : pU) : Prop := t.length ≤ 60 ∧ (∀ j, j < t.length → d 6 j = nI (t.getD j 0) ∧ t.getD j 0 < 128) ∧ ∀ a, a ≠ 6 → d a = d0 a
theorem wn_1 : ∀ w, w < 100 → ((10 ≤ nI w ↔ 10 ≤ w) ∧ 48 + nI w / 10 = nI (48 + w / 10) ∧ 48 + (nI w - nI w / 10 * 10) = nI (48 + w % 10)) := by decide +kernel
theorem ch_1 : ∀ c, c < 128 → ((nI c).toUInt32 % 65536).toInt32 = nI c ∧ narrow .char (.int (nI c)) = .int (nI c) := by decide +kernel
section LN
variable {d0 d : pU} {t : List Nat} {P : Int32 → aS → Prop}
theorem app_len (t : List Nat) (c : Nat) : (t ++ [c]).length = t.length + 1 := by simp
theorem m_put (h : LW d0 t d) {c : Nat} (hc : c < 128) (h60 : t.length + 1 ≤ 60) {x y : Int32} (hx : x = nI t.length) (hy : y = nI c) (k : ∀ d', LW d0 (t ++ [c]) d' → P (nI (t ++ [c]).length) (d', [])) : w_X10_put x y (d, []) P := by
  subst hx
  subst hy
  obtain ⟨h1, h2, h3⟩ := h
  unfold w_X10_put
  refine ⟨vp_in_nI (by omega) (by decide), ?_⟩
  intro q3 E
  rw [nI_c (by omega)] at E
  subst E
  rw [nI_1, ← app_len t c]
  refine k _ ⟨by rw [app_len]; exact h60, fun j hj => ?_, fun a ha => by rw [up2_ne _ _ _ ha]; exact h3 a ha⟩
  rw [app_len] at hj
  rw [getD_app]
  show up2 d 6 t.length (nI c) 6 j = _ ∧ _
  rw [up2_at]
  by_cases e : j = t.length
  · rw [if_pos ⟨rfl, e⟩, if_neg (by omega), if_pos e]
    exact ⟨rfl, hc⟩
  · rw [if_neg (fun z => e z.2), if_pos (by omega)]
    exact h2 j (by omega)
theorem m_num (h : LW d0 t d) {w : Nat} (hw : w < 100) (h60 : t.length + dgn w ≤ 60) {x y : Int32} (hx : x = nI t.length) (hy : y = nI w) (k : ∀ d', LW d0 (t ++ dgs w) d' → P (nI (t ++ dgs w).length) (d', [])) : w_X10_writesNumber x y (d, []) P := by
  subst hx
  subst hy
  obtain ⟨s1, s2, s3⟩ := wn_1 w hw
  unfold w_X10_writesNumber
  refine ⟨fun c => ?_, fun c => ?_⟩
  · have h10 : ¬ w < 10 := by have := s1.mp c; omega
    rw [show dgn w = 2 from if_neg h10] at h60
    rw [show dgs w = [48 + w / 10] ++ [48 + w % 10] from if_neg h10, ← List.append_assoc] at k
    refine m_put h (c := 48 + w / 10) (by omega) (by omega) rfl s2 (fun d' h' => ?_)
    unfold JX10_writesNumber_22
    exact m_put h' (c := 48 + w % 10) (by omega) (by rw [app_len]; omega) rfl s3 k
  · have h10 : w < 10 := by
      rcases Nat.lt_or_ge w 10 with y | y
      · exact y
      · exact absurd (s1.mpr y) c
    rw [show dgn w = 1 from if_pos h10] at h60
    rw [show dgs w = [48 + w % 10] by rw [show w % 10 = w by omega]; exact if_pos h10] at k
    unfold JX10_writesNumber_22
    exact m_put h (c := 48 + w % 10) (by omega) (by omega) rfl s3 k
end LN
theorem dgs_l (t : List Nat) (w : Nat) : (t ++ dgs w).length = t.length + dgn w := by rw [List.length_append, dgs_len]
theorem dgn_1 {w : Nat} (h : w < 10) : dgn w = 1 := if_pos h
theorem lin_inv {s : Nat} {q : aS} {dM : pU} (hN : INV s q dM) (T : List Nat) (dq : pU) (ha : ∀ a, a ≠ 0 → a ≠ 6 → dq a = dM a) (h0 : ∀ j, j ≠ 14 → j ≠ 15 → dq 0 j = dM 0 j) (h14 : dq 0 14 = nI T.length) (h60 : T.length ≤ 60) (hl : ∀ j, j < T.length → dq 6 j = nI (T.getD j 0) ∧ T.getD j 0 < 128) : INV (s + 1) (q.1, T) dq := by
  obtain ⟨⟨u, n1, n2, hI⟩, hS, hH, hF, hR, hT, hX, hL⟩ := hN
  have hs : 10 * s ≤ 10 * (s + 1) := by omega
  refine ⟨⟨u, n1, by rw [ha 1 (by decide) (by decide)]; exact n2, hI.wd hs⟩, hS.cg hs (fun _ _ _ => rfl) (ha 3 (by decide) (by decide)), hH.cg hs (fun _ _ _ => rfl) (h0 5 (by decide) (by decide)) (ha 4 (by decide) (by decide)), ?_, hR.cg rfl (fun j j1 j2 => h0 j (by omega) (by omega)), ?_, hX.cg rfl rfl (h0 12 (by decide) (by decide)) (ha 5 (by decide) (by decide)), h60, h14, hl⟩
  · show q.1 0 3 = dq 0 4
    rw [h0 4 (by decide) (by decide)]
    exact hF
  · show q.1 190 2 = dq 0 10
    rw [h0 10 (by decide) (by decide)]
    exact hT
/-- the end: the line's length is set -/
theorem lin_end {s : Nat} {q : aS} {dM : pU} (hN : INV s q dM) {T : List Nat} {d : pU} (h : LW (up2 dM 0 15 0) T d) (v : Nat → Int64) : fP s (vp_updL v 0 ((nI T.length).toInt64)) 0 (q.1, T) (nI T.length) (up2 d 0 14 (nI T.length), []) := by
  obtain ⟨h1, h2, h3⟩ := h
  have e0 : ∀ j, up2 d 0 14 (nI T.length) 0 j = if j = 14 then nI T.length else if j = 15 then 0 else dM 0 j := fun j => by
    rw [up2_row, upd_at, h3 0 (by decide), up2_row, upd_at]
  refine f_0 (q := q) (by rw [e0]; rfl) (lin_inv hN T _ (fun a h0 h6 => by rw [up2_ne _ _ _ h0, h3 a h6, up2_ne _ _ _ h0]) (fun j j1 j2 => by rw [e0, if_neg j1, if_neg j2]) (by rw [e0]; rfl) h1 (fun j hj => ?_))
  rw [up2_ne _ _ _ (by decide)]
  exact h2 j hj
section LL
variable {s : Nat} {q : aS} {dM : pU} {u : pU} {d0 : pU}
theorem LW.rm {t : List Nat} {d : pU} (h : LW d0 t d) (hr : RM (d0 1) 0 u) : RM (d 1) 0 u := by
  rw [h.2.2 1 (by decide)]
  exact hr
theorem LW.nil (d0 : pU) : LW d0 [] d0 := ⟨Nat.zero_le _, fun j hj => absurd hj (Nat.not_lt_zero j), fun _ _ => rfl⟩
theorem r_76 {dX : pU} (n1 : RX 1 dX u) (hc : Cnt u) (hr : RM (d0 1) 0 u) {x : Int32} {P : Int32 → aS → Prop} {K : Int32 → aS → Prop} {t0 : List Nat} (h60 : t0.length + 2 * cE u ≤ 60) (k : ∀ d', LW d0 (t0 ++ txE dX x (cE u)) d' → K (nI (t0 ++ txE dX x (cE u)).length) (d', [])) : ∀ f e d, e + f = cE u → LW d0 (t0 ++ txE dX x e) d → LX10_tellRoom_76 x P K (f + 1) (nI (t0 ++ txE dX x e).length) (nI e) (d, []) := by
  have hb := hc.2.1.2
  have hcE := hc.2.1.1
  intro f
  induction f with
  | zero =>
    intro e d he h
    have he : e = cE u := by omega
    subst he
    rw [LX10_tellRoom_76]
    dsimp only
    rw [show Int32.toNatClampNeg 1 = 1 by decide +kernel, rm_1 (h.rm hr), hcE]
    exact ⟨(vp_in_nI (show 1 < 97 by decide) (by decide) : vp_in (nI 1) 97), fun _ => k d h, fun z => absurd ((nI_leI (by omega) (by omega)).mpr (Nat.le_refl _)) z⟩
  | succ f ih =>
    intro e d he h
    have he8 : e < 8 := by omega
    have hl := txE_len dX x e
    rw [LX10_tellRoom_76]
    dsimp only
    rw [show Int32.toNatClampNeg 1 = 1 by decide +kernel, rm_1 (h.rm hr), hcE]
    refine ⟨(vp_in_nI (show 1 < 97 by decide) (by decide) : vp_in (nI 1) 97), fun z => absurd z (nI_ge (by omega) (by omega)), fun _ => ?_⟩
    unfold w_X10_echoAt
    dsimp only
    rw [ie_E0 he8, rm_E0 (h.rm hr) he8, ← rx_7 n1 he8]
    refine ⟨iv_E0 he8, fun y => ?_, fun y => ?_⟩
    · intro x24 e24
      rw [nI_1] at e24
      subst e24
      have e9 : txE dX x (e + 1) = txE dX x e := by
        show txE dX x e ++ _ = _
        rw [if_neg y, List.append_nil]
      have h9 := ih (e + 1) d (by omega) (by rw [e9]; exact h)
      rw [e9] at h9
      exact h9
    · refine m_num h (w := e) (by omega) (by rw [List.length_append, dgn_1 (by omega)]; omega) rfl rfl (fun d' h' => ?_)
      dsimp only
      rw [ie_E2 he8, rm_E2 (h'.rm hr) he8, ← rx_9 n1 he8]
      have g1 : dgs e = [48 + e] := if_pos (by omega)
      refine ⟨iv_E2 he8, fun y2 => ?_, fun y2 => ?_⟩
      · have e9 : t0 ++ txE dX x (e + 1) = t0 ++ txE dX x e ++ dgs e ++ [42] := by
          show t0 ++ (txE dX x e ++ _) = _
          rw [if_pos y, if_neg y2, g1, List.append_assoc, List.append_assoc]
        refine m_put h' (c := 42) (by decide) (by rw [dgs_l, List.length_append, dgn_1 (by omega)]; omega) rfl rfl (fun d2 h2 => ?_)
        intro x31 e31
        rw [nI_1] at e31
        subst e31
        have h9 := ih (e + 1) d2 (by omega) (by rw [e9]; exact h2)
        rw [e9] at h9
        exact h9
      · intro x32 e32
        rw [nI_1] at e32
        subst e32
        have e9 : t0 ++ txE dX x (e + 1) = t0 ++ txE dX x e ++ dgs e := by
          show t0 ++ (txE dX x e ++ _) = _
          rw [if_pos y, if_pos y2, g1, List.append_assoc, List.append_nil]
        have h9 := ih (e + 1) d' (by omega) (by rw [e9]; exact h')
        rw [e9] at h9
        exact h9
theorem r_143 {dX : pU} (n1 : RX 1 dX u) (hc : Cnt u) (hr : RM (d0 1) 0 u) {x : Int32} {P : Int32 → aS → Prop} {K : Int32 → aS → Prop} {t0 : List Nat} (h60 : t0.length + 2 * cS u ≤ 60) (k : ∀ d', LW d0 (t0 ++ txS dX x (cS u)) d' → K (nI (t0 ++ txS dX x (cS u)).length) (d', [])) : ∀ f e d, e + f = cS u → LW d0 (t0 ++ txS dX x e) d → LX10_tellRoom_143 x P K (f + 1) (nI (t0 ++ txS dX x e).length) (nI e) (d, []) := by
  have hb := hc.2.2.2
  have hcS := hc.2.2.1
  intro f
  induction f with
  | zero =>
    intro e d he h
    have he : e = cS u := by omega
    subst he
    rw [LX10_tellRoom_143]
    dsimp only
    rw [show Int32.toNatClampNeg 2 = 2 by decide +kernel, rm_2 (h.rm hr), hcS]
    exact ⟨(vp_in_nI (show 2 < 97 by decide) (by decide) : vp_in (nI 2) 97), fun _ => k d h, fun z => absurd ((nI_leI (by omega) (by omega)).mpr (Nat.le_refl _)) z⟩
  | succ f ih =>
    intro e d he h
    have he6 : e < 6 := by omega
    have hl := txS_len dX x e
    rw [LX10_tellRoom_143]
    dsimp only
    rw [show Int32.toNatClampNeg 2 = 2 by decide +kernel, rm_2 (h.rm hr), hcS]
    refine ⟨(vp_in_nI (show 2 < 97 by decide) (by decide) : vp_in (nI 2) 97), fun z => absurd z (nI_ge (by omega) (by omega)), fun _ => ?_⟩
    unfold w_X10_singerAt
    dsimp only
    rw [ie_S2 he6, rm_S2 (h.rm hr) he6, ← rx_15 n1 he6]
    refine ⟨iv_S2 he6, fun y => ?_, fun y => ?_⟩
    · intro x37 e37
      rw [nI_1] at e37
      subst e37
      have e9 : txS dX x (e + 1) = txS dX x e := by
        show txS dX x e ++ _ = _
        rw [if_neg y, List.append_nil]
      have h9 := ih (e + 1) d (by omega) (by rw [e9]; exact h)
      rw [e9] at h9
      exact h9
    · refine m_put h (c := 115) (by decide) (by rw [List.length_append]; omega) rfl rfl (fun d' h' => ?_)
      refine m_num h' (w := e) (by omega) (by rw [app_len, List.length_append, dgn_1 (by omega)]; omega) rfl rfl (fun d2 h2 => ?_)
      intro x42 e42
      rw [nI_1] at e42
      subst e42
      have g1 : dgs e = [48 + e] := if_pos (by omega)
      have e9 : t0 ++ txS dX x (e + 1) = t0 ++ txS dX x e ++ [115] ++ dgs e := by
        show t0 ++ (txS dX x e ++ _) = _
        rw [if_pos y, g1, List.append_assoc, List.append_assoc]
      have h9 := ih (e + 1) d2 (by omega) (by rw [e9]; exact h2)
      rw [e9] at h9
      exact h9
end LL

/-! texts: how the reference reads them -/
def stw (i : Nat) : Nat := [0, 5, 10, 17, 23, 27, 33, 38, 43, 48, 53].getD i 0
theorem stw_s : ∀ w, w < 10 → stw (w + 1) = stw w + wL w ∧ stw (w + 1) ≤ 53 := by unfold stw wL; decide +kernel
theorem stw_c : ∀ w, w < 10 → ∀ k, k < 7 → k < wL w → sChr 10 (stw w + k) = sChr w k := by unfold stw wL; decide +kernel
theorem up2_id (d : pU) (k j : Nat) : up2 d k j (d k j) = d := by
  funext a
  funext b
  rw [up2_at]
  by_cases c : a = k ∧ b = j
  · rw [if_pos c, c.1, c.2]
  · rw [if_neg c]
def MB (d : pU) (tx : Nat → Int32) (len i : Nat) : Prop := d 0 18 = nI len ∧ d 0 21 = nI i ∧ (∀ j, j < len → d 5 j = tx j) ∧ len ≤ 60
/-- it reads on at p; it stands at f, where it failed -/
def MT (d : pU) (tx : Nat → Int32) (len i p : Nat) : Prop := MB d tx len i ∧ d 0 19 = nI p ∧ d 0 20 = -1 ∧ p ≤ len
def MF (d : pU) (tx : Nat → Int32) (len i f : Nat) : Prop := MB d tx len i ∧ d 0 20 = nI f ∧ f ≤ len
theorem MB.c0 {d : pU} {tx : Nat → Int32} {len i j : Nat} (h : MB d tx len i) (hj : j = 19 ∨ j = 20) (x : Int32) : MB (up2 d 0 j x) tx len i :=
  ⟨by rw [up2_at, if_neg (by omega)]; exact h.1, by rw [up2_at, if_neg (by omega)]; exact h.2.1, fun j hj => by rw [up2_ne _ _ _ (by decide)]; exact h.2.2.1 j hj, h.2.2.2⟩
theorem MB.c7 {d : pU} {tx : Nat → Int32} {len i j : Nat} (h : MB d tx len i) (x : Int32) : MB (up2 d 7 j x) tx len i :=
  ⟨by rw [up2_ne _ _ _ (by decide)]; exact h.1, by rw [up2_ne _ _ _ (by decide)]; exact h.2.1, fun j hj => by rw [up2_ne _ _ _ (by decide)]; exact h.2.2.1 j hj, h.2.2.2⟩
theorem MT.go {d : pU} {tx : Nat → Int32} {len i p p' : Nat} (h : MT d tx len i p) (hp : p' ≤ len) : MT (up2 d 0 19 (nI p')) tx len i p' :=
  ⟨h.1.c0 (Or.inl rfl) _, by rw [up2_at, if_pos ⟨rfl, rfl⟩], by rw [up2_at, if_neg (by decide)]; exact h.2.2.1, hp⟩
theorem MT.no {d : pU} {tx : Nat → Int32} {len i p p' : Nat} (h : MT d tx len i p) (hp : p' ≤ len) : MF (up2 d 0 20 (nI p')) tx len i p' :=
  ⟨h.1.c0 (Or.inr rfl) _, by rw [up2_at, if_pos ⟨rfl, rfl⟩], hp⟩
theorem MT.c7 {d : pU} {tx : Nat → Int32} {len i p j : Nat} (h : MT d tx len i p) (x : Int32) : MT (up2 d 7 j x) tx len i p :=
  ⟨h.1.c7 _, by rw [up2_ne _ _ _ (by decide)]; exact h.2.1, by rw [up2_ne _ _ _ (by decide)]; exact h.2.2.1, h.2.2.2⟩
theorem MF.c7 {d : pU} {tx : Nat → Int32} {len i p j : Nat} (h : MF d tx len i p) (x : Int32) : MF (up2 d 7 j x) tx len i p :=
  ⟨h.1.c7 _, by rw [up2_ne _ _ _ (by decide)]; exact h.2.1, h.2.2⟩
/-- the frame of the reading of order i -/
def frT (i : Nat) (d d' : pU) : Prop := (∀ a, a ≠ 0 → a ≠ 7 → d' a = d a) ∧ (∀ j, ¬ (19 ≤ j ∧ j ≤ 21) → d' 0 j = d 0 j) ∧ (∀ j, ¬ (4 * i ≤ j ∧ j < 4 * i + 4) → d' 7 j = d 7 j)
theorem frT.rf (i : Nat) (d : pU) : frT i d d := ⟨fun _ _ _ => rfl, fun _ _ => rfl, fun _ _ => rfl⟩
theorem frT.c0 {i : Nat} {d d' : pU} (h : frT i d d') (j : Nat) (hj : 19 ≤ j ∧ j ≤ 21) (x : Int32) : frT i d (up2 d' 0 j x) :=
  ⟨fun a h0 h7 => by rw [up2_ne _ _ _ h0]; exact h.1 a h0 h7, fun k hk => by rw [up2_at, if_neg (fun z => hk (by rw [z.2]; exact hj))]; exact h.2.1 k hk, fun k hk => by rw [up2_ne _ _ _ (by decide)]; exact h.2.2 k hk⟩
theorem frT.c7 {i : Nat} {d d' : pU} (h : frT i d d') (j : Nat) (hj : 4 * i ≤ j ∧ j < 4 * i + 4) (x : Int32) : frT i d (up2 d' 7 j x) :=
  ⟨fun a h0 h7 => by rw [up2_ne _ _ _ h7]; exact h.1 a h0 h7, fun k hk => by rw [up2_ne _ _ _ (by decide)]; exact h.2.1 k hk, fun k hk => by rw [up2_at, if_neg (fun z => hk (by rw [z.2]; exact hj))]; exact h.2.2 k hk⟩
section MTX
variable {tx : Nat → Int32} {len i p : Nat} {d : pU} {t : List Nat} {P : Int32 → aS → Prop}
theorem m_letter (h : MT d tx len i p) (k0 : len ≤ p → P (-1) (d, t)) (k1 : p < len → P (tx p) (d, t)) : w_X10_letterHere (d, t) P := by
  obtain ⟨⟨h1, h2, h3, h4⟩, h5, h6, h7⟩ := h
  unfold w_X10_letterHere
  dsimp only
  rw [h1, h5, nI_leI (by omega) (by omega)]
  refine ⟨k0, fun z => ⟨vp_in_nI (by omega) (by decide), ?_⟩⟩
  rw [nI_c (by omega), h3 p (by omega)]
  exact k1 (by omega)
theorem m_rd1 (h : MT d tx len i p) {a b : Int32} (z : p < len ∧ ¬ tx p < a ∧ ¬ b < tx p) (k : P (tx p - a) (up2 d 0 19 (nI (p + 1)), t)) : w_X10_reads a b (d, t) P := by
  have h' := h
  obtain ⟨⟨h1, h2, h3, h4⟩, h5, h6, h7⟩ := h
  unfold w_X10_reads
  refine ⟨fun w => absurd h6 w, fun _ => m_letter h' (fun w => absurd z.1 (by omega)) (fun _ => r_isIn (fun w => absurd w (fun w => w.elim z.2.1 z.2.2)) (fun _ _ => ⟨fun w => absurd w i10, fun _ => ?_⟩))⟩
  intro q9 E
  dsimp only at E
  rw [h5, nI_1] at E
  subst E
  dsimp only
  have e : up2 d 0 19 (nI (p + 1)) 0 19 - 1 = nI p := by
    rw [up2_at, if_pos ⟨rfl, rfl⟩]
    rw [← nI_1]
    generalize nI p = x
    grind
  rw [e, nI_c (by omega), up2_ne _ _ _ (by decide), h3 p z.1]
  exact ⟨vp_in_nI (by omega) (by decide), k⟩
theorem m_44 (h : d 0 20 = -1) {x : Int32} (h5 : d 0 19 = x) (k : P 0 (up2 d 0 20 x, t)) : JX10_reads_44 P (d, t) := by
  unfold JX10_reads_44
  refine ⟨fun w => absurd h w, fun _ => ?_⟩
  intro q4 E
  dsimp only at E
  rw [h5] at E
  subst E
  exact k
theorem m_rd0 (h : MT d tx len i p) {a b : Int32} (hm : (-1 : Int32) < a) (z : ¬ (p < len ∧ ¬ tx p < a ∧ ¬ b < tx p)) (k : P 0 (up2 d 0 20 (nI p), t)) : w_X10_reads a b (d, t) P := by
  have h' := h
  obtain ⟨⟨h1, h2, h3, h4⟩, h5, h6, h7⟩ := h
  have hk := m_44 (P := P) (t := t) h6 h5 k
  unfold w_X10_reads
  refine ⟨fun w => absurd h6 w, fun _ => m_letter h' (fun w => r_isIn (fun _ => ⟨fun _ => hk, fun w => absurd rfl w⟩) (fun w => absurd hm w)) (fun w => r_isIn (fun _ => ⟨fun _ => hk, fun w => absurd rfl w⟩) (fun w1 w2 => absurd ⟨w, w1, w2⟩ z))⟩
theorem m_rdF {f : Nat} (h : MF d tx len i f) {a b : Int32} (k : P 0 (d, t)) : w_X10_reads a b (d, t) P := by
  have hf : ¬ d 0 20 = -1 := by rw [h.2.1]; exact nI_nm (by have := h.2.2; have := h.1.2.2.2; omega)
  unfold w_X10_reads
  refine ⟨fun _ => ?_, fun w => absurd w hf⟩
  unfold JX10_reads_44
  refine ⟨fun _ => ?_, fun w => absurd w hf⟩
  intro q3 E
  dsimp only at E
  rw [up2_id] at E
  subst E
  exact k
theorem m_startOf {w : Nat} (hw : w ≤ 10) {q : aS} (k : P (nI (stw w)) q) : w_X10_startOf (nI w) q P := by
  unfold w_X10_startOf
  refine ⟨fun z => ?_, fun z0 => ⟨fun z => ?_, fun z1 => ⟨fun z => ?_, fun z2 => ⟨fun z => ?_, fun z3 => ⟨fun z => ?_, fun z4 => ⟨fun z => ?_, fun z5 => ⟨fun z => ?_, fun z6 => ⟨fun z => ?_, fun z7 => ⟨fun z => ?_, fun z8 => ⟨fun z => ?_, fun z9 => ?_⟩⟩⟩⟩⟩⟩⟩⟩⟩⟩
  · have e : w = 0 := nI_inj (b := 0) (by omega) (by omega) z
    subst e; exact k
  · have e : w = 1 := nI_inj (b := 1) (by omega) (by omega) z
    subst e; exact k
  · have e : w = 2 := nI_inj (b := 2) (by omega) (by omega) z
    subst e; exact k
  · have e : w = 3 := nI_inj (b := 3) (by omega) (by omega) z
    subst e; exact k
  · have e : w = 4 := nI_inj (b := 4) (by omega) (by omega) z
    subst e; exact k
  · have e : w = 5 := nI_inj (b := 5) (by omega) (by omega) z
    subst e; exact k
  · have e : w = 6 := nI_inj (b := 6) (by omega) (by omega) z
    subst e; exact k
  · have e : w = 7 := nI_inj (b := 7) (by omega) (by omega) z
    subst e; exact k
  · have e : w = 8 := nI_inj (b := 8) (by omega) (by omega) z
    subst e; exact k
  · have e : w = 9 := nI_inj (b := 9) (by omega) (by omega) z
    subst e; exact k
  · have e : w = 10 := by
      have y : ∀ b, b < 10 → ¬ nI w = nI b → w ≠ b := fun b _ h e => h (by rw [e])
      have := y 0 (by omega) z0
      have := y 1 (by omega) z1
      have := y 2 (by omega) z2
      have := y 3 (by omega) z3
      have := y 4 (by omega) z4
      have := y 5 (by omega) z5
      have := y 6 (by omega) z6
      have := y 7 (by omega) z7
      have := y 8 (by omega) z8
      have := y 9 (by omega) z9
      omega
    subst e; exact k
/-- how many signs of word w stand at p -/
theorem m_36 (h : MT d tx len i p) {w : Nat} (hw : w < 10) {c1 c2 : Int32} {K : Int32 → aS → Prop} (k : K (nI (sm_ tx len p w)) (d, t)) : ∃ M, LX10_kindHere_36 c1 c2 (nI w) (nI (wL w)) P K M 0 (d, t) := by
  obtain ⟨s1, s2, s3⟩ := sm_ok tx len p w
  obtain ⟨⟨h1, h2, h3, h4⟩, h5, h6, h7⟩ := h
  have h8 := wL_7 w hw
  have h9 := stw_s w hw
  refine lp_0 (fun m (_ : Unit) v => LX10_kindHere_36 c1 c2 (nI w) (nI (wL w)) P K m v (d, t)) (fun _ _ => True) (sm_ tx len p w) () trivial (fun m v hv => ?_) (fun m j v hj hv hk => ?_)
  · rw [LX10_kindHere_36]
    dsimp only
    rw [h1, h5, nI_add, nI_leI (by omega) (by omega), nI_leI (by omega) (by omega)]
    refine ⟨fun _ => k, fun c1' => ⟨fun _ => k, fun c2' => ⟨vp_in_nI (by omega) (by decide), ?_⟩⟩⟩
    refine m_startOf (by omega) ?_
    rw [nI_add]
    refine ⟨vp_in_nI (by show _ < 53; omega) (by decide), fun _ => k, fun c3 => ?_⟩
    rw [nI_c (by omega), nI_c (by omega), h3 _ (by omega), stw_c w hw _ (by omega) (by omega)] at c3
    exact absurd ⟨by omega, by omega, c3⟩ s2
  · obtain ⟨a1, a2, a3⟩ := s1 j hj
    rw [LX10_kindHere_36]
    dsimp only
    rw [h1, h5, nI_add, nI_leI (by omega) (by omega), nI_leI (by omega) (by omega)]
    refine ⟨fun c1' => absurd c1' (by omega), fun _ => ⟨fun c2' => absurd c2' (by omega), fun _ => ⟨vp_in_nI (by omega) (by decide), ?_⟩⟩⟩
    refine m_startOf (by omega) ?_
    rw [nI_add]
    refine ⟨vp_in_nI (by show _ < 53; omega) (by decide), fun c3 => ?_, fun _ => ?_⟩
    · rw [nI_c (by omega), nI_c (by omega), h3 _ (by omega), stw_c w hw _ (by omega) (by omega)] at c3
      exact absurd a3 c3
    · intro x9 e9
      rw [nI_1] at e9
      subst e9
      exact hk () trivial
theorem mx_natp {p a b : Nat} (ha : p + a < 100000) (hb : p + b < 100000) : (if nI (p + a) < nI (p + b) then nI (p + b) else nI (p + a)) = nI (p + Nat.max a b) := by
  by_cases c : a < b
  · rw [if_pos ((nI_ltI (by omega) (by omega)).mpr (by omega)), show Nat.max a b = b from Nat.max_eq_right (by omega)]
  · rw [if_neg (fun z => c (by have := (nI_ltI (by omega) (by omega)).mp z; omega)), show Nat.max a b = a from Nat.max_eq_left (by omega)]
theorem mx_natq {p a b : Nat} {y : Int32} (hy : y = nI p) (ha : p + a < 100000) (hb : p + b < 100000) : (if nI (p + a) < y + nI b then y + nI b else nI (p + a)) = nI (p + Nat.max a b) := by
  subst hy
  rw [nI_add]
  exact mx_natp ha hb
theorem m_kind (h : MT d tx len i p) (k0 : kd_ tx len p = 10 → P (-1) (up2 d 0 20 (nI (p + mxS tx len p 10)), t)) (k1 : kd_ tx len p < 10 → P (nI (kd_ tx len p)) (up2 d 0 19 (nI (p + wL (kd_ tx len p))), t)) : w_X10_kindHere (d, t) P := by
  have h' := h
  obtain ⟨⟨h1, h2, h3, h4⟩, h5, h6, h7⟩ := h
  obtain ⟨s1, s2, s3⟩ := kd_ok tx len p
  unfold w_X10_kindHere
  intro x1 e1
  dsimp only at e1
  rw [h5] at e1
  subst e1
  have hm := mxS_7 tx len p
  refine lp_k (fun m (v : Int32 × Int32) c => LX10_kindHere_9 P _ m v.1 v.2 c (d, t)) (fun w v => (w ≤ kd_ tx len p → v = (nI (p + mxS tx len p w), -1)) ∧ (kd_ tx len p < w → v.2 = nI (kd_ tx len p) ∧ kd_ tx len p < 10)) (if kd_ tx len p < 10 then kd_ tx len p + 1 else 10) 0 (by omega) (nI p, -1) ⟨fun _ => rfl, fun z => absurd z (by omega)⟩ (fun m v hv => ?_) (fun m w v hw hv hk => ?_)
  · by_cases c : kd_ tx len p < 10
    · rw [if_pos c] at hv ⊢
      obtain ⟨e2, _⟩ := hv.2 (by omega)
      rw [LX10_kindHere_9]
      have hex : (fun y16 y17 (q18 : aS) => ((¬ y17 = (-1) → JX10_kindHere_135 y17 (q18.1 0 20) P q18) ∧ (y17 = (-1) → JX10_kindHere_135 y17 y16 P q18))) v.1 v.2 (d, t) := by
        dsimp only
        rw [e2]
        refine ⟨fun _ => ?_, fun z => absurd z (nI_nm (by omega))⟩
        unfold JX10_kindHere_135
        dsimp only
        rw [up2_id]
        intro q19 E
        subst E
        refine ⟨fun _ => ?_, fun z => absurd z (nI_nm (by omega))⟩
        rw [nI_1]
        refine m_startOf (by omega) (m_startOf (by omega) ?_)
        intro q24 E
        dsimp only at E
        have h9 := stw_s _ c
        rw [h5, h9.1] at E
        have e9 : nI p + (nI (stw (kd_ tx len p) + wL (kd_ tx len p)) - nI (stw (kd_ tx len p))) = nI (p + wL (kd_ tx len p)) := by
          rw [← nI_add, ← nI_add]
          generalize nI p = x
          generalize nI (stw (kd_ tx len p)) = y
          generalize nI (wL (kd_ tx len p)) = z
          grind
        rw [e9] at E
        subst E
        exact k1 c
      refine ⟨fun _ => hex, fun _ => ⟨fun _ => hex, fun z => absurd z (by rw [e2]; exact nI_nm (by omega))⟩⟩
    · rw [if_neg c] at hv ⊢
      have ek : kd_ tx len p = 10 := by omega
      have e2 := hv.1 (by omega)
      rw [e2, LX10_kindHere_9]
      dsimp only
      refine ⟨fun _ => ⟨fun z => absurd rfl z, fun _ => ?_⟩, fun z => absurd (by decide) z⟩
      unfold JX10_kindHere_135
      intro q19 E
      refine ⟨fun z => absurd rfl z, fun _ => ?_⟩
      intro q25 E2
      subst E
      dsimp only at E2
      have e9 : up2 (up2 d 0 20 (nI (p + mxS tx len p 10))) 0 19 (up2 d 0 20 (nI (p + mxS tx len p 10)) 0 19 + 0) = up2 d 0 20 (nI (p + mxS tx len p 10)) := by
        have y : ∀ x : Int32, x + 0 = x := by intro x; grind
        rw [y, up2_id]
      rw [e9] at E2
      subst E2
      exact k0 ek
  · have hw10 : w < 10 ∧ w ≤ kd_ tx len p := by
      by_cases c : kd_ tx len p < 10
      · rw [if_pos c] at hw
        omega
      · rw [if_neg c] at hw
        omega
    have e2 := hv.1 hw10.2
    rw [e2, LX10_kindHere_9]
    dsimp only
    refine ⟨fun z => absurd z (nI_ge (b := 10) hw10.1 (by omega)), fun _ => ⟨fun z => absurd rfl z, fun _ => ?_⟩⟩
    rw [nI_1]
    refine m_startOf (by omega) (m_startOf (by omega) ?_)
    intro x6 e6
    have h9 := stw_s _ hw10.1
    have e9 : nI (stw (w + 1)) - nI (stw w) = nI (wL w) := by
      rw [h9.1, ← nI_add]
      generalize nI (stw w) = y
      generalize nI (wL w) = z
      grind
    rw [e9] at e6
    subst e6
    have hs7 := (sm_ok tx len p w).2.2
    have hl7 := (wL_7 w hw10.1).2
    have hm7 := hm w (by omega)
    refine m_36 h' hw10.1 ?_
    intro x12 e12
    have e12' : x12 = nI (p + Nat.max (mxS tx len p w) (sm_ tx len p w)) := e12.trans (mx_natq h5 (by omega) (by omega))
    clear e12
    subst e12'
    refine ⟨fun z => ?_, fun z => ?_⟩
    · have c : ¬ sm_ tx len p w = wL w := fun c => z (by rw [c])
      have c2 : w + 1 ≤ kd_ tx len p := by
        rcases Nat.lt_or_ge w (kd_ tx len p) with y | y
        · exact y
        · have e : w = kd_ tx len p := by omega
          rw [e] at c
          exact absurd (s2 (by omega)) c
      intro x13 e13
      subst e13
      exact hk (nI (p + mxS tx len p (w + 1)), -1) ⟨fun _ => rfl, fun y => absurd y (by omega)⟩
    · have c : sm_ tx len p w = wL w := nI_inj (by omega) (by omega) z
      have c2 : w = kd_ tx len p := by
        rcases Nat.lt_or_ge w (kd_ tx len p) with y | y
        · exact absurd c (s1 w y)
        · omega
      intro x14 e14
      subst e14
      exact hk (nI (p + Nat.max (mxS tx len p w) (sm_ tx len p w)), nI w) ⟨fun y => absurd y (by omega), fun _ => ⟨by rw [← c2], by omega⟩⟩
end MTX

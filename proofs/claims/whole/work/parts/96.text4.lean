/-! texts: the reference's numbers, orders, the whole text -/
theorem eq_of_nlt {x a : Int32} (h1 : ¬ x < a) (h2 : ¬ a < x) : x = a := by
  rw [Int32.lt_iff_toInt_lt] at h1 h2
  exact Int32.toInt_inj.mp (by omega)
section MTY
variable {tx : Nat → Int32} {len i p : Nat} {d : pU} {t : List Nat} {P : Int32 → aS → Prop}
theorem m_dig (h : MT d tx len i p) (k0 : ¬ dg_ tx len p → P 0 (up2 d 0 20 (nI p), t)) (k1 : dg_ tx len p → P (n1_ tx p) (up2 d 0 19 (nI (p + 1)), t)) : w_X10_digit (d, t) P := by
  unfold w_X10_digit
  by_cases z : dg_ tx len p
  · exact m_rd1 h z (k1 z)
  · exact m_rd0 h (by decide) z (k0 z)
theorem m_beh (h : MT d tx len i p) (k0 : ¬ sg_ tx len 32 p → ∀ d', MF d' tx len i p → (∀ g e, frT g e d → frT g e d') → (∀ a, a ≠ 0 → d' a = d a) → P 0 (d', t)) (k1 : sg_ tx len 32 p → ¬ dg_ tx len (p + 1) → ∀ d', MF d' tx len i (p + 1) → (∀ g e, frT g e d → frT g e d') → (∀ a, a ≠ 0 → d' a = d a) → P 0 (d', t))
    (k2 : sg_ tx len 32 p → dg_ tx len (p + 1) → ∀ d', MT d' tx len i (p + 2) → (∀ g e, frT g e d → frT g e d') → (∀ a, a ≠ 0 → d' a = d a) → P (n1_ tx (p + 1)) (d', t)) : w_X10_behind (d, t) P := by
  unfold w_X10_behind
  have hp := h.2.2.2
  by_cases z : sg_ tx len 32 p
  · have hp1 := z.1
    have h1 := h.go (p' := p + 1) (by omega)
    refine m_rd1 h ⟨z.1, by rw [z.2]; decide, by rw [z.2]; decide⟩ (m_dig h1 (fun z2 => ?_) (fun z2 => ?_))
    · exact k1 z z2 _ (h1.no (by omega)) (fun _ e he => (he.c0 19 (by omega) _).c0 20 (by omega) _) (fun a ha => by rw [up2_ne _ _ _ ha, up2_ne _ _ _ ha])
    · have hp2 := z2.1
      exact k2 z z2 _ (h1.go (by omega)) (fun _ e he => (he.c0 19 (by omega) _).c0 19 (by omega) _) (fun a ha => by rw [up2_ne _ _ _ ha, up2_ne _ _ _ ha])
  · have hF := h.no hp
    refine m_rd0 h (by decide) (fun w => z ⟨w.1, ?_⟩) ?_
    · exact eq_of_nlt w.2.1 w.2.2
    · unfold w_X10_digit
      exact m_rdF hF (k0 z _ hF (fun _ e he => he.c0 20 (by omega) _) (fun a ha => by rw [up2_ne _ _ _ ha]))
/-- the end of a failed order -/
theorem m_148F {f k : Nat} (h : MF d tx len (i + 1) f) (hi : i ≤ 10) (kk : ∀ d', MF d' tx len (i + 1) f → (∀ e, frT i e d → frT i e d') → P 0 (d', t)) : JX10_readsCommand_148 (nI (4 * i)) (nI k) P (d, t) := by
  have vp : vp_in (nI (4 * i) + 3) 120 := by rw [show (3 : Int32) = nI 3 from rfl, nI_add]; exact vp_in_nI (by omega) (by decide)
  have ec : Int32.toNatClampNeg (nI (4 * i) + 3) = 4 * i + 3 := by rw [show (3 : Int32) = nI 3 from rfl, nI_add]; exact nI_c (by omega)
  unfold JX10_readsCommand_148
  refine ⟨fun _ => ⟨vp, ?_⟩, fun _ => ?_⟩
  · intro q10 E
    rw [ec] at E
    subst E
    exact kk _ (h.c7 _) (fun e he => he.c7 _ (by omega) _)
  · unfold w_X10_behind w_X10_digit
    refine m_rdF h (m_rdF h ⟨vp, ?_⟩)
    intro q10 E
    rw [ec] at E
    subst E
    exact kk _ (h.c7 _) (fun e he => he.c7 _ (by omega) _)
theorem m_96F {f k : Nat} {s0 : Int32} (h : MF d tx len (i + 1) f) (hi : i ≤ 10) (kk : ∀ d', MF d' tx len (i + 1) f → (∀ e, frT i e d → frT i e d') → P 0 (d', t)) : JX10_readsCommand_96 (nI (4 * i)) (nI k) s0 (nI (4 * i + 2)) P (d, t) := by
  unfold JX10_readsCommand_96
  refine ⟨vp_in_nI (by omega) (by decide), ?_⟩
  intro q9 E
  rw [nI_c (by omega)] at E
  subst E
  have h9 : MF (up2 d 7 (4 * i + 2) s0) tx len (i + 1) f := h.c7 _
  have k9 : ∀ d', MF d' tx len (i + 1) f → (∀ e, frT i e (up2 d 7 (4 * i + 2) s0) → frT i e d') → P 0 (d', t) := fun d' m1 m2 => kk d' m1 (fun e he => m2 e (he.c7 _ (by omega) _))
  have hf : ¬ up2 d 7 (4 * i + 2) s0 0 20 = -1 := by rw [h9.2.1]; exact nI_nm (by have := h.2.2; have := h.1.2.2.2; omega)
  have e := m_148F (t := t) (k := k) h9 hi k9
  exact ⟨fun _ => e, fun _ => ⟨fun _ => e, fun w => absurd w hf⟩⟩
/-- what the reading of the numbers gives -/
def mP (tx : Nat → Int32) (len k i p : Nat) (d : pU) (P : Int32 → aS → Prop) (t : List Nat) : Prop :=
  ((nums tx len k p).1 = false → ∀ d', MF d' tx len (i + 1) (nums tx len k p).2.1 → frT i d d' → P 0 (d', t)) ∧
  ((nums tx len k p).1 = true → ∀ d', MT d' tx len (i + 1) (nums tx len k p).2.1 → frT i d d' → d' 7 (4 * i) = d 7 (4 * i) → Ag k (d' 7 (4 * i + 1)) (d' 7 (4 * i + 2)) (d' 7 (4 * i + 3)) (nums tx len k p).2.2.1 (nums tx len k p).2.2.2.1 (nums tx len k p).2.2.2.2 → P 0 (d', t))
theorem mP_f {k f : Nat} (h : mP tx len k i p d P t) (e : nums tx len k p = (false, f, 0, 0, 0)) : ∀ d', MF d' tx len (i + 1) f → frT i d d' → P 0 (d', t) := by
  have h1 := h.1
  rw [e] at h1
  exact h1 rfl
theorem mP_t {k f : Nat} {a b c : Int32} (h : mP tx len k i p d P t) (e : nums tx len k p = (true, f, a, b, c)) : ∀ d', MT d' tx len (i + 1) f → frT i d d' → d' 7 (4 * i) = d 7 (4 * i) → Ag k (d' 7 (4 * i + 1)) (d' 7 (4 * i + 2)) (d' 7 (4 * i + 3)) a b c → P 0 (d', t) := by
  have h1 := h.2
  rw [e] at h1
  exact h1 rfl
theorem m7_at (d : pU) (j : Nat) (x : Int32) : up2 d 7 j x 7 j = x := by rw [up2_at, if_pos ⟨rfl, rfl⟩]
theorem m7_ne (d : pU) {j k : Nat} (x : Int32) (h : k ≠ j) : up2 d 7 j x 7 k = d 7 k := by rw [up2_at, if_neg (fun z => h z.2)]
/-- the third number's place, if the kind has none -/
theorem m_148T {k p0 : Nat} {a b : Int32} {dz : pU} (hk : ¬ k = 6) (hk10 : k < 10) (h : MT d tx len (i + 1) p) (hf : frT i dz d) (h0 : d 7 (4 * i) = dz 7 (4 * i)) (h1 : d 7 (4 * i + 1) = a) (h2 : (k = 1 ∨ k = 2 ∨ k = 3 ∨ k = 5 ∨ k = 6 ∨ k = 7) → d 7 (4 * i + 2) = b) (hi : i ≤ 10) (kk : mP tx len k i p0 dz P t) (e : nums tx len k p0 = (true, p, a, b, 0)) : JX10_readsCommand_148 (nI (4 * i)) (nI k) P (d, t) := by
  have vp : vp_in (nI (4 * i) + 3) 120 := by rw [show (3 : Int32) = nI 3 from rfl, nI_add]; exact vp_in_nI (by omega) (by decide)
  have ec : Int32.toNatClampNeg (nI (4 * i) + 3) = 4 * i + 3 := by rw [show (3 : Int32) = nI 3 from rfl, nI_add]; exact nI_c (by omega)
  unfold JX10_readsCommand_148
  refine ⟨fun _ => ⟨vp, ?_⟩, fun z => absurd (nI_inj (b := 6) (by omega) (by omega) z) hk⟩
  intro q10 E
  rw [ec] at E
  subst E
  refine mP_t kk e _ (h.c7 _) (hf.c7 _ (by omega) _) ?_ ⟨fun _ => ?_, fun w => ?_, fun w => absurd w hk⟩
  · rw [m7_ne _ _ (by omega)]; exact h0
  · rw [m7_ne _ _ (by omega)]; exact h1
  · rw [m7_ne _ _ (by omega)]; exact h2 w
/-- the numbers of an order, at the first's digit -/
theorem m_nums {k : Nat} (hk : k < 10) (hi : i ≤ 10) {x1 : Int32} (e1 : x1 = nI (4 * i)) (h : MT d tx len (i + 1) p) (kk : mP tx len k i p d P t) :
    (¬ nI k = 9 → w_X10_digit (d, t) (fun r6 q7 => (vp_in (x1 + 1) 120 ∧ ∀ q8 : aS, q8 = (up2 q7.1 7 (Int32.toNatClampNeg (x1 + 1)) r6, q7.2) → ((nI k = 0 → JX10_readsCommand_75 x1 (nI k) P q8) ∧ (¬ nI k = 0 → ((nI k = 4 → JX10_readsCommand_75 x1 (nI k) P q8) ∧ (¬ nI k = 4 → ((nI k = 8 → JX10_readsCommand_75 x1 (nI k) P q8) ∧ (¬ nI k = 8 → JX10_readsCommand_76 x1 (nI k) 1 P q8))))))))) ∧ (nI k = 9 → P 0 (d, t)) := by
  subst e1
  have a2 : nI (4 * i) + 2 = nI (4 * i + 2) := by rw [show (2 : Int32) = nI 2 from rfl, nI_add]
  have a3 : nI (4 * i) + 3 = nI (4 * i + 3) := by rw [show (3 : Int32) = nI 3 from rfl, nI_add]
  have hkn : ∀ b, b < 10 → nI k = nI b → k = b := fun b hb z => nI_inj (by omega) (by omega) z
  refine And.comm.mp ⟨fun z => ?_, fun z9 => ?_⟩
  · have e : k = 9 := hkn 9 (by omega) z
    subst e
    exact mP_t (f := p) (a := 0) (b := 0) (c := 0) kk (by rw [nums, if_pos rfl]) d h (frT.rf _ _) rfl ⟨fun w => absurd rfl w, fun w => absurd w (by omega), fun w => absurd w (by omega)⟩
  have k9 : ¬ k = 9 := fun e => z9 (by rw [e]; rfl)
  rw [nI_1]
  -- the four ways on from the first number, by the kind
  have way : ∀ q8 : aS, (k = 0 ∨ k = 4 ∨ k = 8 → JX10_readsCommand_75 (nI (4 * i)) (nI k) P q8) → (¬ (k = 0 ∨ k = 4 ∨ k = 8) → JX10_readsCommand_76 (nI (4 * i)) (nI k) 1 P q8) → ((nI k = 0 → JX10_readsCommand_75 (nI (4 * i)) (nI k) P q8) ∧ (¬ nI k = 0 → ((nI k = 4 → JX10_readsCommand_75 (nI (4 * i)) (nI k) P q8) ∧ (¬ nI k = 4 → ((nI k = 8 → JX10_readsCommand_75 (nI (4 * i)) (nI k) P q8) ∧ (¬ nI k = 8 → JX10_readsCommand_76 (nI (4 * i)) (nI k) 1 P q8)))))) := by
    intro q8 w1 w2
    refine ⟨fun z => w1 (Or.inl (hkn 0 (by omega) z)), fun y0 => ⟨fun z => w1 (Or.inr (Or.inl (hkn 4 (by omega) z))), fun y4 => ⟨fun z => w1 (Or.inr (Or.inr (hkn 8 (by omega) z))), fun y8 => w2 ?_⟩⟩⟩
    rintro (w | w | w)
    · exact y0 (by rw [w]; rfl)
    · exact y4 (by rw [w]; rfl)
    · exact y8 (by rw [w]; rfl)
  have hp := h.2.2.2
  refine m_dig h (fun z => ?_) (fun z => ?_)
  · -- no first digit
    refine ⟨vp_in_nI (by omega) (by decide), ?_⟩
    intro q8 E
    rw [nI_c (by omega)] at E
    subst E
    have hF : MF (up2 (up2 d 0 20 (nI p)) 7 (4 * i + 1) 0) tx len (i + 1) p := (h.no hp).c7 _
    have hfr : frT i d (up2 (up2 d 0 20 (nI p)) 7 (4 * i + 1) 0) := ((frT.rf i d).c0 20 (by omega) _).c7 _ (by omega) _
    have en : nums tx len k p = (false, p, 0, 0, 0) := by rw [nums, if_neg k9, if_pos (show ¬ (_ ∧ _) from z)]
    have hend : ∀ d', MF d' tx len (i + 1) p → (∀ e, frT i e (up2 (up2 d 0 20 (nI p)) 7 (4 * i + 1) 0) → frT i e d') → P 0 (d', t) := fun d' m1 m2 => mP_f kk en d' m1 (m2 d hfr)
    have e96 := fun s0 => m_96F (t := t) (k := k) (s0 := s0) hF hi hend
    refine way _ (fun _ => ?_) (fun _ => ?_)
    · unfold JX10_readsCommand_75 JX10_readsCommand_76
      rw [a2]
      exact ⟨fun _ => e96 0, fun w => absurd rfl w⟩
    · unfold JX10_readsCommand_76 w_X10_behind w_X10_digit
      rw [a2]
      exact ⟨fun w => absurd w i10, fun _ => m_rdF hF (m_rdF hF (e96 0))⟩
  · refine ⟨vp_in_nI (by omega) (by decide), ?_⟩
    intro q8 E
    rw [nI_c (by omega)] at E
    subst E
    have hp1 := z.1
    have hT : MT (up2 (up2 d 0 19 (nI (p + 1))) 7 (4 * i + 1) (n1_ tx p)) tx len (i + 1) (p + 1) := (h.go (by omega)).c7 _
    have hfr : frT i d (up2 (up2 d 0 19 (nI (p + 1))) 7 (4 * i + 1) (n1_ tx p)) := ((frT.rf i d).c0 19 (by omega) _).c7 _ (by omega) _
    have g0 : up2 (up2 d 0 19 (nI (p + 1))) 7 (4 * i + 1) (n1_ tx p) 7 (4 * i) = d 7 (4 * i) := by rw [m7_ne _ _ (by omega), up2_ne _ _ _ (by decide)]
    have g1 : up2 (up2 d 0 19 (nI (p + 1))) 7 (4 * i + 1) (n1_ tx p) 7 (4 * i + 1) = n1_ tx p := m7_at _ _ _
    generalize up2 (up2 d 0 19 (nI (p + 1))) 7 (4 * i + 1) (n1_ tx p) = d1 at *
    refine way _ (fun w => ?_) (fun w => ?_)
    · unfold JX10_readsCommand_75 JX10_readsCommand_76
      refine ⟨fun _ => ?_, fun w => absurd rfl w⟩
      rw [a2]
      unfold JX10_readsCommand_96
      refine ⟨vp_in_nI (by omega) (by decide), ?_⟩
      intro q9 E
      rw [nI_c (by omega)] at E
      subst E
      have en : nums tx len k p = (true, p + 1, n1_ tx p, 0, 0) := by rw [nums, if_neg k9, if_neg (fun y => y z), if_pos w]
      refine ⟨fun _ => m_148T (a := n1_ tx p) (b := 0) (by omega) hk (hT.c7 _) (hfr.c7 _ (by omega) _) ?_ ?_ (fun y => absurd y (by omega)) hi kk en, fun y => absurd (hkn 2 (by omega) y) (by omega)⟩
      · rw [m7_ne _ _ (by omega)]; exact g0
      · rw [m7_ne _ _ (by omega)]; exact g1
    · unfold JX10_readsCommand_76
      refine ⟨fun w => absurd w i10, fun _ => ?_⟩
      rw [a2]
      have en0 := Eq.refl (nums tx len k p)
      conv at en0 =>
        rhs
        rw [nums, if_neg k9, if_neg (fun y => y z), if_neg w]
      refine m_beh hT (fun z2 d2 m1 m2 m3 => m_96F m1 hi (fun d' m4 m5 => ?_)) (fun z2 z3 d2 m1 m2 m3 => m_96F m1 hi (fun d' m4 m5 => ?_)) (fun z2 z3 d2 m1 m2 m3 => ?_)
      · exact mP_f kk (by rw [en0, if_pos (show ¬ (_ ∧ _) from z2)]) d' m4 (m5 d (m2 i d hfr))
      · exact mP_f kk (by rw [en0, if_neg (fun y => y z2), if_pos (show ¬ (_ ∧ _) from z3)]) d' m4 (m5 d (m2 i d hfr))
      · have hp3 := z3.1
        have hf2 := m2 i d hfr
        have g20 : d2 7 (4 * i) = d 7 (4 * i) := by rw [m3 7 (by decide)]; exact g0
        have g21 : d2 7 (4 * i + 1) = n1_ tx p := by rw [m3 7 (by decide)]; exact g1
        rw [if_neg (fun y => y z2), if_neg (fun y => y z3)] at en0
        unfold JX10_readsCommand_96
        refine ⟨vp_in_nI (by omega) (by decide), ?_⟩
        intro q9 E
        rw [nI_c (by omega)] at E
        subst E
        have hT2 : MT (up2 d2 7 (4 * i + 2) (n1_ tx (p + 2))) tx len (i + 1) (p + 3) := m1.c7 _
        have hf3 : frT i d (up2 d2 7 (4 * i + 2) (n1_ tx (p + 2))) := hf2.c7 _ (by omega) _
        have g30 : up2 d2 7 (4 * i + 2) (n1_ tx (p + 2)) 7 (4 * i) = d 7 (4 * i) := by rw [m7_ne _ _ (by omega)]; exact g20
        have g31 : up2 d2 7 (4 * i + 2) (n1_ tx (p + 2)) 7 (4 * i + 1) = n1_ tx p := by rw [m7_ne _ _ (by omega)]; exact g21
        have g32 : up2 d2 7 (4 * i + 2) (n1_ tx (p + 2)) 7 (4 * i + 2) = n1_ tx (p + 2) := m7_at _ _ _
        generalize up2 d2 7 (4 * i + 2) (n1_ tx (p + 2)) = d3 at *
        refine ⟨fun y => ?_, fun y => ?_⟩
        · have k2 : ¬ k = 2 := fun e => y (by rw [e]; rfl)
          rw [if_neg k2] at en0
          by_cases k6 : k = 6
          · subst k6
            rw [if_neg (fun y => y rfl)] at en0
            unfold JX10_readsCommand_148
            refine ⟨fun y => absurd rfl y, fun _ => ?_⟩
            rw [a3]
            refine m_beh hT2 (fun z4 d4 m4 m5 m6 => ⟨vp_in_nI (by omega) (by decide), ?_⟩) (fun z4 z5 d4 m4 m5 m6 => ⟨vp_in_nI (by omega) (by decide), ?_⟩) (fun z4 z5 d4 m4 m5 m6 => ⟨vp_in_nI (by omega) (by decide), ?_⟩)
            · intro q13 E
              rw [nI_c (by omega)] at E
              subst E
              exact mP_f kk (by rw [en0, if_pos (show ¬ (_ ∧ _) from z4)]) _ (m4.c7 _) ((m5 i d hf3).c7 _ (by omega) _)
            · intro q13 E
              rw [nI_c (by omega)] at E
              subst E
              exact mP_f kk (by rw [en0, if_neg (fun y => y z4), if_pos (show ¬ (_ ∧ _) from z5)]) _ (m4.c7 _) ((m5 i d hf3).c7 _ (by omega) _)
            · intro q13 E
              rw [nI_c (by omega)] at E
              subst E
              refine mP_t (a := n1_ tx p) (b := n1_ tx (p + 2)) (c := n1_ tx (p + 4)) kk (by rw [en0, if_neg (fun y => y z4), if_neg (fun y => y z5)]) _ (m4.c7 _) ((m5 i d hf3).c7 _ (by omega) _) ?_ ⟨fun _ => ?_, fun _ => ?_, fun _ => m7_at _ _ _⟩
              · rw [m7_ne _ _ (by omega)]; dsimp only; rw [m6 7 (by decide)]; exact g30
              · rw [m7_ne _ _ (by omega)]; dsimp only; rw [m6 7 (by decide)]; exact g31
              · rw [m7_ne _ _ (by omega)]; dsimp only; rw [m6 7 (by decide)]; exact g32
          · rw [if_pos k6] at en0
            exact m_148T k6 hk hT2 hf3 g30 g31 (fun _ => g32) hi kk en0
        · have k2 : k = 2 := hkn 2 (by omega) y
          subst k2
          rw [if_pos rfl] at en0
          refine ⟨fun y => absurd hT2.2.2.1 y, fun _ => m_letter hT2 (fun y => r_isIn (fun _ => ⟨fun _ => ?_, fun w => absurd rfl w⟩) (fun w => absurd (by decide) w)) (fun y => r_isIn (fun y2 => ⟨fun _ => ?_, fun w => absurd rfl w⟩) (fun y2 y3 => ⟨fun w => absurd w i10, fun _ => ?_⟩))⟩
          · exact m_148T (by omega) hk hT2 hf3 g30 g31 (fun _ => g32) hi kk (by rw [en0, if_neg (fun w : _ ∧ _ ∧ _ => absurd w.1 (by omega))])
          · exact m_148T (by omega) hk hT2 hf3 g30 g31 (fun _ => g32) hi kk (by rw [en0, if_neg (fun w : _ ∧ _ ∧ _ => y2.elim w.2.1 w.2.2)])
          · rw [a2]
            refine ⟨vp_in_nI (by omega) (by decide), m_dig hT2 (fun z4 => absurd ⟨y, y2, y3⟩ z4) (fun z4 => ⟨vp_in_nI (by omega) (by decide), ?_⟩)⟩
            intro q20 E
            rw [nI_c (by omega)] at E
            dsimp only at E
            rw [g32] at E
            subst E
            refine m_148T (p0 := p) (a := n1_ tx p) (b := 10 * n1_ tx (p + 2) + n1_ tx (p + 3)) (dz := d) (by omega) hk (p := p + 4) ?_ ?_ ?_ ?_ (fun _ => m7_at _ _ _) hi kk (by rw [en0, if_pos (show _ ∧ _ ∧ _ from z4)])
            · exact (hT2.go (p' := p + 4) (by have := z4.1; omega)).c7 _
            · exact (hf3.c0 19 (by omega) _).c7 _ (by omega) _
            · rw [m7_ne _ _ (by omega), up2_ne _ _ _ (by decide)]; exact g30
            · rw [m7_ne _ _ (by omega), up2_ne _ _ _ (by decide)]; exact g31
end MTY

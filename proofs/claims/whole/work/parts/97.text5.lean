/-! texts: the reference's orders and whole text -/
section MTZ
variable {tx : Nat → Int32} {len : Nat}
theorem MB.inc {d : pU} {i : Nat} (h : MB d tx len i) : MB (up2 d 0 21 (nI (i + 1))) tx len (i + 1) :=
  ⟨by rw [up2_at, if_neg (by decide)]; exact h.1, by rw [up2_at, if_pos ⟨rfl, rfl⟩], fun j hj => by rw [up2_ne _ _ _ (by decide)]; exact h.2.2.1 j hj, h.2.2.2⟩
theorem MT.inc {d : pU} {i p : Nat} (h : MT d tx len i p) : MT (up2 d 0 21 (nI (i + 1))) tx len (i + 1) p :=
  ⟨h.1.inc, by rw [up2_at, if_neg (by decide)]; exact h.2.1, by rw [up2_at, if_neg (by decide)]; exact h.2.2.1, h.2.2.2⟩
theorem MF.inc {d : pU} {i p : Nat} (h : MF d tx len i p) : MF (up2 d 0 21 (nI (i + 1))) tx len (i + 1) p :=
  ⟨h.1.inc, by rw [up2_at, if_neg (by decide)]; exact h.2.1, h.2.2⟩
theorem frT.tr {i : Nat} {d0 d d' : pU} (h : frT i d0 d) (h' : frT i d d') : frT i d0 d' :=
  ⟨fun a h0 h7 => (h'.1 a h0 h7).trans (h.1 a h0 h7), fun j hj => (h'.2.1 j hj).trans (h.2.1 j hj), fun j hj => (h'.2.2 j hj).trans (h.2.2 j hj)⟩
theorem m_cmd {i p : Nat} {d : pU} {t : List Nat} {P : Int32 → aS → Prop} (hi : i ≤ 10) (h : MT d tx len i p)
    (k0 : (ord_ tx len p).1 = false → ∀ r d', MF d' tx len (i + 1) (ord_ tx len p).2.1 → frT i d d' → P r (d', t))
    (k1 : (ord_ tx len p).1 = true → kd_ tx len p < 10 → ∀ d', MT d' tx len (i + 1) (ord_ tx len p).2.1 → frT i d d' → d' 7 (4 * i) = nI (kd_ tx len p) → Ag (kd_ tx len p) (d' 7 (4 * i + 1)) (d' 7 (4 * i + 2)) (d' 7 (4 * i + 3)) (ord_ tx len p).2.2.1 (ord_ tx len p).2.2.2.1 (ord_ tx len p).2.2.2.2 → P 0 (d', t)) : w_X10_readsCommand (d, t) P := by
  have h21 : d 0 21 = nI i := h.1.2.1
  have hp := h.2.2.2
  have hlen := h.1.2.2.2
  unfold w_X10_readsCommand
  intro x1 e1
  dsimp only at e1
  rw [h21, show (4 : Int32) = nI 4 from rfl, nI_mul] at e1
  subst e1
  refine m_kind h (fun c => ⟨vp_in_nI (by omega) (by decide), ?_⟩) (fun c => ⟨vp_in_nI (by omega) (by decide), ?_⟩)
  · have eo : ord_ tx len p = (false, p + mxS tx len p 10, 0, 0, 0) := by rw [ord_, if_pos c]
    rw [eo] at k0
    have hm := mxS_len tx len p hp 10
    intro q4 E
    rw [nI_c (by omega)] at E
    subst E
    intro q5 E
    dsimp only at E
    rw [up2_ne _ _ _ (show 0 ≠ 7 by decide), up2_at, if_neg (by decide), h21, nI_1] at E
    subst E
    have hF := ((h.no hm).c7 (j := 4 * i) (-1)).inc
    have hf : ¬ up2 (up2 (up2 d 0 20 (nI (p + mxS tx len p 10))) 7 (4 * i) (-1)) 0 21 (nI (i + 1)) 0 20 = -1 := by rw [hF.2.1]; exact nI_nm (by omega)
    refine ⟨fun _ => ?_, fun z => absurd z hf⟩
    exact k0 rfl 0 _ hF ((((frT.rf i d).c0 20 (by omega) _).c7 _ (by omega) _).c0 21 (by omega) _)
  · obtain ⟨s1, s2, s3⟩ := kd_ok tx len p
    have hsm := s2 c
    have hl := sm_len tx len p (kd_ tx len p) hp
    rw [hsm] at hl
    have eo : ord_ tx len p = nums tx len (kd_ tx len p) (p + wL (kd_ tx len p)) := by rw [ord_, if_neg (by omega)]
    rw [eo] at k0 k1
    generalize kd_ tx len p = kd at *
    intro q4 E
    rw [nI_c (by omega)] at E
    subst E
    intro q5 E
    dsimp only at E
    rw [up2_ne _ _ _ (show 0 ≠ 7 by decide), up2_at, if_neg (by decide), h21, nI_1] at E
    subst E
    have hT := ((h.go hl).c7 (j := 4 * i) (nI kd)).inc
    have hfr : frT i d (up2 (up2 (up2 d 0 19 (nI (p + wL kd))) 7 (4 * i) (nI kd)) 0 21 (nI (i + 1))) := (((frT.rf i d).c0 19 (by omega) _).c7 _ (by omega) _).c0 21 (by omega) _
    have g0 : up2 (up2 (up2 d 0 19 (nI (p + wL kd))) 7 (4 * i) (nI kd)) 0 21 (nI (i + 1)) 7 (4 * i) = nI kd := by rw [up2_ne _ _ _ (by decide), m7_at]
    generalize up2 (up2 (up2 d 0 19 (nI (p + wL kd))) 7 (4 * i) (nI kd)) 0 21 (nI (i + 1)) = d5 at *
    refine ⟨fun z => absurd hT.2.2.1 z, fun _ => m_nums c hi rfl hT ⟨fun z d' m1 m2 => ?_, fun z d' m1 m2 m3 m4 => ?_⟩⟩
    · exact k0 z 0 d' m1 (hfr.tr m2)
    · exact k1 z c d' m1 (hfr.tr m2) (m3.trans g0) m4
theorem ord_5 {p : Nat} (hp : p ≤ len) (h : (ord_ tx len p).1 = true) : p + 5 ≤ (ord_ tx len p).2.1 := by
  unfold ord_ at h ⊢
  by_cases c : kd_ tx len p = 10
  · rw [if_pos c] at h
    exact absurd h Bool.false_ne_true
  · have hk := kd_10 c
    have h4 := wL_7 _ hk
    rw [if_neg c] at h ⊢
    generalize kd_ tx len p = kd at *
    unfold nums at h ⊢
    by_cases c9 : kd = 9
    · subst c9
      rw [if_pos rfl]
      show p + 5 ≤ p + wL 9
      have : wL 9 = 5 := by decide
      omega
    · rw [if_neg c9] at h ⊢
      by_cases c1 : (p + wL kd < len ∧ ¬ tx (p + wL kd) < 48 ∧ ¬ 57 < tx (p + wL kd))
      · rw [if_neg (fun z => z c1)] at h ⊢
        by_cases c2 : kd = 0 ∨ kd = 4 ∨ kd = 8
        · rw [if_pos c2]
          show p + 5 ≤ p + wL kd + 1
          omega
        · rw [if_neg c2] at h ⊢
          by_cases c3 : (p + wL kd + 1 < len ∧ tx (p + wL kd + 1) = 32)
          · rw [if_neg (fun z => z c3)] at h ⊢
            by_cases c4 : (p + wL kd + 2 < len ∧ ¬ tx (p + wL kd + 2) < 48 ∧ ¬ 57 < tx (p + wL kd + 2))
            · rw [if_neg (fun z => z c4)] at h ⊢
              by_cases c5 : kd = 2
              · rw [if_pos c5] at h ⊢
                by_cases c6 : (p + wL kd + 3 < len ∧ ¬ tx (p + wL kd + 3) < 48 ∧ ¬ 57 < tx (p + wL kd + 3))
                · rw [if_pos c6]
                  show p + 5 ≤ p + wL kd + 4
                  omega
                · rw [if_neg c6]
                  show p + 5 ≤ p + wL kd + 3
                  omega
              · rw [if_neg c5] at h ⊢
                by_cases c6 : ¬ kd = 6
                · rw [if_pos c6]
                  show p + 5 ≤ p + wL kd + 3
                  omega
                · rw [if_neg c6] at h ⊢
                  by_cases c7 : (p + wL kd + 3 < len ∧ tx (p + wL kd + 3) = 32)
                  · rw [if_neg (fun z => z c7)] at h ⊢
                    by_cases c8 : (p + wL kd + 4 < len ∧ ¬ tx (p + wL kd + 4) < 48 ∧ ¬ 57 < tx (p + wL kd + 4))
                    · rw [if_neg (fun z => z c8)]
                      show p + 5 ≤ p + wL kd + 5
                      omega
                    · rw [if_pos c8] at h
                      exact absurd h Bool.false_ne_true
                  · rw [if_pos c7] at h
                    exact absurd h Bool.false_ne_true
            · rw [if_pos c4] at h
              exact absurd h Bool.false_ne_true
          · rw [if_pos c3] at h
            exact absurd h Bool.false_ne_true
      · rw [if_pos c1] at h
        exact absurd h Bool.false_ne_true
theorem sm_end {w : Nat} : sm_ tx len len w = 0 := by
  have := sm_len tx len len w (Nat.le_refl _)
  omega
theorem kd_end : kd_ tx len len = 10 := by
  obtain ⟨s1, s2, s3⟩ := kd_ok tx len len
  rcases Nat.lt_or_ge (kd_ tx len len) 10 with c | c
  · have h := s2 c
    have h4 := (wL_7 _ c).1
    rw [sm_end] at h
    omega
  · omega
theorem mx_end : mxS tx len len 10 = 0 := by
  have := mxS_len tx len len (Nat.le_refl _) 10
  omega
/-- the order k as the reference keeps it -/
def mAg (tx : Nat → Int32) (len k : Nat) (d : pU) : Prop := d 7 (4 * k) = nI (kd_ tx len (ps_ tx len k)) ∧ Ag (kd_ tx len (ps_ tx len k)) (d 7 (4 * k + 1)) (d 7 (4 * k + 2)) (d 7 (4 * k + 3)) (ord_ tx len (ps_ tx len k)).2.2.1 (ord_ tx len (ps_ tx len k)).2.2.2.1 (ord_ tx len (ps_ tx len k)).2.2.2.2
def frW (d d' : pU) : Prop := (∀ a, a ≠ 0 → a ≠ 7 → d' a = d a) ∧ (∀ j, ¬ (19 ≤ j ∧ j ≤ 21) → d' 0 j = d 0 j)
/-- what the reference's reading gives -/
def bP (tx : Nat → Int32) (len : Nat) (d : pU) (r : Int32 × Nat) (K : aS → Prop) (t : List Nat) : Prop :=
  ∀ d', frW d d' → d' 0 20 = r.1 → (r.1 = -1 → d' 0 21 = nI r.2 ∧ ∀ k, k < r.2 → mAg tx len k d') → K (d', t)
theorem frW.tr {d0 d d' : pU} {i : Nat} (h : frW d0 d) (h' : frT i d d') : frW d0 d' :=
  ⟨fun a h0 h7 => (h'.1 a h0 h7).trans (h.1 a h0 h7), fun j hj => (h'.2.1 j hj).trans (h.2 j hj)⟩
theorem m_ra {K : aS → Prop} (P : Int32 → aS → Prop) (d0 : pU) (t : List Nat) : ∀ (m i : Nat) (d : pU), i + m = 10 → MT d tx len i (ps_ tx len i) → 6 * i ≤ ps_ tx len i → frW d0 d → (∀ k, k < i → mAg tx len k d) → bP tx len d0 (res tx len m i) K t →
    ∀ Q : Int32 → aS → Prop, (∀ r q, LX10_readsAll_32 P K (m + 2) q → Q r q) → w_X10_readsCommand (d, t) Q := by
  intro m
  induction m with
  | zero =>
    intro i d hi h h6 hf hg k Q hQ
    have i10 : i = 10 := by omega
    subst i10
    have hl := h.1.2.2.2
    have hp := h.2.2.2
    have e60 : ps_ tx len 10 = len := by omega
    have eo : ord_ tx len (ps_ tx len 10) = (false, ps_ tx len 10 + mxS tx len (ps_ tx len 10) 10, 0, 0, 0) := by
      rw [ord_, if_pos]
      rw [e60]
      exact kd_end
    have eo2 : (ord_ tx len (ps_ tx len 10)).2.1 = ps_ tx len 10 := by
      rw [eo]
      show ps_ tx len 10 + mxS tx len (ps_ tx len 10) 10 = _
      rw [e60, mx_end]
      rfl
    refine m_cmd (by omega) h (fun z r d' m1 m2 => ?_) (fun z => absurd z (by rw [eo]; exact Bool.false_ne_true))
    refine hQ _ _ ?_
    have hfl : ¬ d' 0 20 = -1 := by rw [m1.2.1]; exact nI_nm (by have := m1.2.2; have := m1.1.2.2.2; omega)
    rw [LX10_readsAll_32]
    refine ⟨fun _ => ?_, fun w => absurd w hfl⟩
    have e20 : d' 0 20 = nI (ps_ tx len 10) := by rw [m1.2.1, eo2]
    exact k d' (hf.tr m2) e20 (fun w => absurd (show d' 0 20 = -1 from e20.trans w) hfl)
  | succ m ih =>
    intro i d hi h h6 hf hg k Q hQ
    have hr : res tx len (m + 1) i = if (ord_ tx len (ps_ tx len i)).1 = false then (nI (ord_ tx len (ps_ tx len i)).2.1, i) else if len ≤ (ord_ tx len (ps_ tx len i)).2.1 then (-1, i + 1) else if ¬ tx (ord_ tx len (ps_ tx len i)).2.1 = 59 then (nI (ord_ tx len (ps_ tx len i)).2.1, i + 1) else res tx len m (i + 1) := rfl
    have hps : ps_ tx len (i + 1) = (ord_ tx len (ps_ tx len i)).2.1 + 1 := rfl
    rw [hr] at k
    refine m_cmd (by omega) h (fun z r d' m1 m2 => ?_) (fun z zk d' m1 m2 m3 m4 => ?_) <;> refine hQ _ _ ?_
    · rw [if_pos z] at k
      have hfl : ¬ d' 0 20 = -1 := by rw [m1.2.1]; exact nI_nm (by have := m1.2.2; have := m1.1.2.2.2; omega)
      rw [LX10_readsAll_32]
      exact ⟨fun _ => k d' (hf.tr m2) m1.2.1 (fun w => absurd (m1.2.1.trans w) hfl), fun w => absurd w hfl⟩
    · have zf : ¬ (ord_ tx len (ps_ tx len i)).1 = false := by rw [z]; decide
      rw [if_neg zf] at k
      have h5 := ord_5 h.2.2.2 z
      have hag : ∀ k', k' < i + 1 → ∀ d'', (∀ j, j < 4 * (i + 1) → d'' 7 j = d' 7 j) → mAg tx len k' d'' := fun k' hk' d'' hd => by
        have hb : mAg tx len k' d' := by
          rcases Nat.lt_or_ge k' i with w | w
          · have h9 := hg k' w
            unfold mAg at h9 ⊢
            rw [m2.2.2 (4 * k') (by omega), m2.2.2 (4 * k' + 1) (by omega), m2.2.2 (4 * k' + 2) (by omega), m2.2.2 (4 * k' + 3) (by omega)]
            exact h9
          · rw [show k' = i by omega]
            exact ⟨m3, m4⟩
        unfold mAg at hb ⊢
        rw [hd (4 * k') (by omega), hd (4 * k' + 1) (by omega), hd (4 * k' + 2) (by omega), hd (4 * k' + 3) (by omega)]
        exact hb
      have hT := m1
      obtain ⟨⟨b1, b2, b3, b4⟩, b5, b6, b7⟩ := m1
      have hfb := hf.tr m2
      rw [LX10_readsAll_32]
      dsimp only
      refine ⟨fun w => absurd b6 w, fun _ => ?_⟩
      rw [b1, b5, nI_leI (by omega) (by omega)]
      refine ⟨fun c => ?_, fun c => ?_⟩
      · rw [if_pos c] at k
        exact k d' hfb b6 (fun _ => ⟨b2, fun k' hk' => hag k' hk' d' (fun _ _ => rfl)⟩)
      · rw [if_neg c] at k
        by_cases c9 : tx (ord_ tx len (ps_ tx len i)).2.1 = 59
        · rw [if_neg (fun w => w c9)] at k
          have hT1 := hT.go (p' := (ord_ tx len (ps_ tx len i)).2.1 + 1) (by omega)
          refine m_rd1 hT ⟨by omega, by rw [c9]; decide, by rw [c9]; decide⟩ ⟨fun w => absurd hT1.2.2.1 w, fun _ => ?_⟩
          refine ih (i + 1) _ (by omega) (by rw [hps]; exact hT1) (by rw [hps]; omega) ?_ ?_ k _ (fun _ _ w => w)
          · exact ⟨fun a h0 h7 => by rw [up2_ne _ _ _ h0]; exact hfb.1 a h0 h7, fun j hj => by rw [up2_at, if_neg (fun w => hj (by rw [w.2]; omega))]; exact hfb.2 j hj⟩
          · exact fun k' hk' => hag k' hk' _ (fun j hj => by rw [up2_ne _ _ _ (by decide)])
        · rw [if_pos c9] at k
          have hF := hT.no b7
          have hfl : ¬ up2 d' 0 20 (nI (ord_ tx len (ps_ tx len i)).2.1) 0 20 = -1 := by rw [hF.2.1]; exact nI_nm (by omega)
          refine m_rd0 hT (by decide) (fun w => c9 (eq_of_nlt w.2.1 w.2.2)) ⟨fun _ => ?_, fun w => absurd w hfl⟩
          rw [LX10_readsAll_32]
          refine ⟨fun _ => ?_, fun w => absurd w hfl⟩
          refine k _ ⟨fun a h0 h7 => by rw [up2_ne _ _ _ h0]; exact hfb.1 a h0 h7, fun j hj => by rw [up2_at, if_neg (fun w => hj (by rw [w.2]; omega))]; exact hfb.2 j hj⟩ hF.2.1 (fun w => absurd (hF.2.1.trans w) hfl)
theorem m_readsAll {q : aS} {P : Int32 → aS → Prop} (h1 : q.1 0 12 = nI len) (h2 : ∀ j, j < len → q.1 5 j = tx j) (hl : len ≤ 60)
    (k : ∀ d', (∀ a, a ≠ 0 → a ≠ 7 → d' a = q.1 a) → (∀ j, j ≠ 12 → ¬ (18 ≤ j ∧ j ≤ 21) → d' 0 j = q.1 0 j) → d' 0 12 = 0 → d' 0 20 = (res tx len 10 0).1 → ((res tx len 10 0).1 = -1 → d' 0 21 = nI (res tx len 10 0).2 ∧ ∀ k, k < (res tx len 10 0).2 → mAg tx len k d') → P 0 (d', q.2)) : w_X10_readsAll q P := by
  unfold w_X10_readsAll
  intro q1 E
  rw [h1] at E
  subst E
  intro q2 E
  subst E
  intro q3 E
  subst E
  intro q4 E
  subst E
  intro q5 E
  subst E
  dsimp only
  have hc : ∀ j, up2 (up2 (up2 (up2 (up2 q.1 0 18 (nI len)) 0 12 0) 0 19 0) 0 20 (-1)) 0 21 0 0 j = if j = 21 then 0 else if j = 20 then -1 else if j = 19 then 0 else if j = 12 then 0 else if j = 18 then nI len else q.1 0 j := fun j => by
    rw [up2_row, upd_at, up2_row, upd_at, up2_row, upd_at, up2_row, upd_at, up2_row, upd_at]
  have ha : ∀ a, a ≠ 0 → up2 (up2 (up2 (up2 (up2 q.1 0 18 (nI len)) 0 12 0) 0 19 0) 0 20 (-1)) 0 21 0 a = q.1 a := fun a h => by
    rw [up2_ne _ _ _ h, up2_ne _ _ _ h, up2_ne _ _ _ h, up2_ne _ _ _ h, up2_ne _ _ _ h]
  generalize up2 (up2 (up2 (up2 (up2 q.1 0 18 (nI len)) 0 12 0) 0 19 0) 0 20 (-1)) 0 21 0 = d5 at *
  have hT : MT d5 tx len 0 (ps_ tx len 0) := ⟨⟨hc 18, hc 21, fun j hj => by rw [ha 5 (by decide)]; exact h2 j hj, hl⟩, hc 19, hc 20, by show 0 ≤ len; omega⟩
  refine m_ra (K := fun q12 => P 0 q12) P d5 q.2 10 0 d5 rfl hT (by show 6 * 0 ≤ 0; omega) ⟨fun _ _ _ => rfl, fun _ _ => rfl⟩ (fun k hk => absurd hk (by omega)) (fun d' f1 f2 f3 => k d' (fun a h0 h7 => by rw [f1.1 a h0 h7, ha a h0]) (fun j j1 j2 => ?_) ?_ f2 f3) _ (fun r q w => ⟨12, w⟩)
  · rw [f1.2 j (by omega), hc j, if_neg (by omega), if_neg (by omega), if_neg (by omega), if_neg j1, if_neg (by omega)]
  · rw [f1.2 12 (by omega)]
    exact hc 12
end MTZ

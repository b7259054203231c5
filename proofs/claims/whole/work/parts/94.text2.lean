/-! texts: the class' numbers, orders, the whole text -/
section XT2
variable {q : aS} {tx : Nat → Int32} {len p : Nat} {P : Int32 → aS → Prop}
theorem nP_f {k r : Nat} {d : pU} {t : List Nat} {f : Nat} (h : nP tx len k r p d P t) (e : nums tx len k p = (false, f, 0, 0, 0)) : ∀ d', TX d' tx len f → frN r d d' → P 0 (d', t) := by
  have h1 := h.1
  rw [e] at h1
  exact h1 rfl
theorem nP_t {k r : Nat} {d : pU} {t : List Nat} {f : Nat} {a b c : Int32} (h : nP tx len k r p d P t) (e : nums tx len k p = (true, f, a, b, c)) : ∀ d', TX d' tx len f → frN r d d' → Ag k (d' (194 + r) 0) (d' (194 + r) 1) (d' (194 + r) 2) a b c → P 1 (d', t) := by
  have h1 := h.2
  rw [e] at h1
  exact h1 rfl
theorem rn_0 {kd r m : Nat} {K : aS → Prop} (hN : ¬ kNum kd ≤ 0) (k : JX3_readsNumbers_31 kd r (nI 0) P (LX3_readsNumbers_2 kd r P K m) K q) : LX3_readsNumbers_2 kd r P K (m + 1) 0 q := by
  rw [LX3_readsNumbers_2]
  exact ⟨fun z => absurd z hN, fun _ => ⟨fun z => absurd z (by decide), fun _ => ⟨fun _ => k, fun z => absurd (by decide) z⟩⟩⟩
theorem rn_s {kd r m j : Nat} {K : aS → Prop} (h : TX q.1 tx len p) (hj : 0 < j ∧ j < 3) (hN : ¬ kNum kd ≤ nI j) (k0 : ¬ sg_ tx len 32 p → P 0 q) (k1 : sg_ tx len 32 p → JX3_readsNumbers_31 kd r (nI j) P (LX3_readsNumbers_2 kd r P K m) K (up2 q.1 190 6 (nI (p + 1)), q.2)) : LX3_readsNumbers_2 kd r P K (m + 1) (nI j) q := by
  rw [LX3_readsNumbers_2]
  exact ⟨fun z => absurd z hN, fun _ => ⟨fun z => absurd z (nI_ge (b := 3) hj.2 (by omega)), fun _ => ⟨fun z => absurd z (nI_nle hj.1 (by omega)), fun _ => x_readsSign h 32 (fun z => ⟨fun w => absurd rfl w, fun _ => k0 z⟩) (fun z => ⟨fun _ => k1 z, fun w => absurd w i10⟩)⟩⟩⟩
theorem rn_e {kd r m j : Nat} {K : aS → Prop} (hN : kNum kd ≤ nI j) (k : K q) : LX3_readsNumbers_2 kd r P K (m + 1) (nI j) q := by
  rw [LX3_readsNumbers_2]
  exact ⟨fun _ => k, fun z => absurd hN z⟩
theorem row_at (d : pU) (r j : Nat) (x : Int32) : up2 d (194 + r) j x (194 + r) j = x := by rw [up2_at, if_pos ⟨rfl, rfl⟩]
theorem row_ne (d : pU) (r : Nat) {j i : Nat} (x : Int32) (h : i ≠ j) : up2 d (194 + r) j x (194 + r) i = d (194 + r) i := by rw [up2_at, if_neg (fun z => h z.2)]
theorem row_p (d : pU) (r i : Nat) (x : Int32) : up2 d 190 6 x (194 + r) i = d (194 + r) i := by rw [up2_ne _ _ _ (by omega)]
theorem x_num1 (h : TX q.1 tx len p) {kd r : Nat} (hk : kd = 0 ∨ kd = 4 ∨ kd = 8) (k : nP tx len kd r p q.1 P q.2) : w_X3_readsNumbers kd r q P := by
  have hN0 : ¬ kNum kd ≤ 0 := by rcases hk with rfl | rfl | rfl <;> decide
  have hN1 : kNum kd ≤ nI 1 := by rcases hk with rfl | rfl | rfl <;> decide
  have hD : ¬ kDig kd = 2 := by rcases hk with rfl | rfl | rfl <;> decide
  unfold w_X3_readsNumbers
  refine ⟨4, rn_0 hN0 (x_31 h (by decide) (fun _ => hD) (fun z => ?_) (fun z => rn_e hN1 ?_))⟩
  · refine nP_f k ?_ q.1 h (frN.rf _ _)
    rw [nums, if_neg (by omega), if_pos (show ¬ (_ ∧ _) from z)]
  · have hp := z.1
    refine nP_t (b := 0) (c := 0) k ?_ _ ((h.go (by omega)).row _ _ _) (((frN.rf _ _).pos _).row _ _) ⟨fun _ => row_at _ _ _ _, fun w => absurd w (by omega), fun w => absurd w (by omega)⟩
    rw [nums, if_neg (by omega), if_neg (fun w => w z), if_pos (by omega)]
theorem x_num2 (h : TX q.1 tx len p) {kd r : Nat} (hk : kd = 1 ∨ kd = 3 ∨ kd = 5 ∨ kd = 7) (k : nP tx len kd r p q.1 P q.2) : w_X3_readsNumbers kd r q P := by
  have hN0 : ¬ kNum kd ≤ 0 := by rcases hk with rfl | rfl | rfl | rfl <;> decide
  have hN1 : ¬ kNum kd ≤ nI 1 := by rcases hk with rfl | rfl | rfl | rfl <;> decide
  have hN2 : kNum kd ≤ nI 2 := by rcases hk with rfl | rfl | rfl | rfl <;> decide
  have hD : ¬ kDig kd = 2 := by rcases hk with rfl | rfl | rfl | rfl <;> decide
  unfold w_X3_readsNumbers
  refine ⟨4, rn_0 hN0 (x_31 h (by decide) (fun _ => hD) (fun z => ?_) (fun z => ?_))⟩
  · refine nP_f k ?_ q.1 h (frN.rf _ _)
    rw [nums, if_neg (by omega), if_pos (show ¬ (_ ∧ _) from z)]
  have hp := z.1
  have t1 := (h.go (p' := p + 1) (by omega)).row r 0 (n1_ tx p)
  have f1 := ((frN.rf r q.1).pos (nI (p + 1))).row 0 (n1_ tx p)
  have g0 := row_at (up2 q.1 190 6 (nI (p + 1))) r 0 (n1_ tx p)
  generalize up2 (up2 q.1 190 6 (nI (p + 1))) (194 + r) 0 (n1_ tx p) = d1 at *
  refine rn_s (q := (d1, q.2)) t1 (by decide) hN1 (fun z2 => ?_) (fun z2 => ?_)
  · refine nP_f k ?_ d1 t1 f1
    rw [nums, if_neg (by omega), if_neg (fun w => w z), if_neg (by omega), if_pos (show ¬ (_ ∧ _) from z2)]
  have hp2 := z2.1
  have t2 := t1.go (p' := p + 2) (by omega)
  have f2 := f1.pos (nI (p + 2))
  have g2 : up2 d1 190 6 (nI (p + 2)) (194 + r) 0 = n1_ tx p := (row_p d1 r 0 _).trans g0
  refine x_31 (q := (up2 d1 190 6 (nI (p + 2)), q.2)) t2 (by decide) (fun _ => hD) (fun z3 => ?_) (fun z3 => rn_e hN2 ?_)
  · refine nP_f k ?_ _ t2 f2
    rw [nums, if_neg (by omega), if_neg (fun w => w z), if_neg (by omega), if_neg (fun w => w z2), if_pos (show ¬ (_ ∧ _) from z3)]
  · have hp3 := z3.1
    refine nP_t (a := n1_ tx p) (c := 0) k ?_ _ ((t2.go (p' := p + 3) (by omega)).row r 1 _) ((f2.pos _).row 1 _) ⟨fun _ => ?_, fun _ => row_at _ _ _ _, fun w => absurd w (by omega)⟩
    · rw [nums, if_neg (by omega), if_neg (fun w => w z), if_neg (by omega), if_neg (fun w => w z2), if_neg (fun w => w z3), if_neg (by omega), if_pos (by omega)]
    · rw [row_ne _ _ _ (by decide), row_p]; exact g2
theorem x_num22 (h : TX q.1 tx len p) {r : Nat} (k : nP tx len 2 r p q.1 P q.2) : w_X3_readsNumbers 2 r q P := by
  have hN0 : ¬ kNum 2 ≤ 0 := by decide
  have hN1 : ¬ kNum 2 ≤ nI 1 := by decide
  have hN2 : kNum 2 ≤ nI 2 := by decide
  unfold w_X3_readsNumbers
  refine ⟨4, rn_0 hN0 (x_31 h (by decide) (fun w => absurd w (by decide)) (fun z => ?_) (fun z => ?_))⟩
  · refine nP_f k ?_ q.1 h (frN.rf _ _)
    rw [nums, if_neg (by omega), if_pos (show ¬ (_ ∧ _) from z)]
  have hp := z.1
  have t1 := (h.go (p' := p + 1) (by omega)).row r 0 (n1_ tx p)
  have f1 := ((frN.rf r q.1).pos (nI (p + 1))).row 0 (n1_ tx p)
  have g0 := row_at (up2 q.1 190 6 (nI (p + 1))) r 0 (n1_ tx p)
  generalize up2 (up2 q.1 190 6 (nI (p + 1))) (194 + r) 0 (n1_ tx p) = d1 at *
  refine rn_s (q := (d1, q.2)) t1 (by decide) hN1 (fun z2 => ?_) (fun z2 => ?_)
  · refine nP_f k ?_ d1 t1 f1
    rw [nums, if_neg (by omega), if_neg (fun w => w z), if_neg (by omega), if_pos (show ¬ (_ ∧ _) from z2)]
  have hp2 := z2.1
  have t2 := t1.go (p' := p + 2) (by omega)
  have f2 := f1.pos (nI (p + 2))
  have g2 : up2 d1 190 6 (nI (p + 2)) (194 + r) 0 = n1_ tx p := (row_p d1 r 0 _).trans g0
  refine x_31b (q := (up2 d1 190 6 (nI (p + 2)), q.2)) t2 (by decide) (by decide) (by decide) (fun z3 => ?_) (fun z3 z4 => rn_e hN2 ?_) (fun z3 z4 => rn_e hN2 ?_)
  · refine nP_f k ?_ _ t2 f2
    rw [nums, if_neg (by omega), if_neg (fun w => w z), if_neg (by omega), if_neg (fun w => w z2), if_pos (show ¬ (_ ∧ _) from z3)]
  · have hp3 := z3.1
    refine nP_t (a := n1_ tx p) (c := 0) k ?_ _ ((t2.go (p' := p + 3) (by omega)).row r 1 _) ((f2.pos _).row 1 _) ⟨fun _ => ?_, fun _ => row_at _ _ _ _, fun w => absurd w (by omega)⟩
    · rw [nums, if_neg (by omega), if_neg (fun w => w z), if_neg (by omega), if_neg (fun w => w z2), if_neg (fun w => w z3), if_pos rfl, if_neg (fun w : _ ∧ _ ∧ _ => z4 w)]
    · rw [row_ne _ _ _ (by decide), row_p]; exact g2
  · have hp3 := z3.1
    have hp4 := z4.1
    refine nP_t (a := n1_ tx p) (c := 0) k ?_ _ ((((t2.go (p' := p + 3) (by omega)).row r 1 _).go (p' := p + 4) (by omega)).row r 1 _) ((((f2.pos _).row 1 _).pos _).row 1 _) ⟨fun _ => ?_, fun _ => row_at _ _ _ _, fun w => absurd w (by omega)⟩
    · rw [nums, if_neg (by omega), if_neg (fun w => w z), if_neg (by omega), if_neg (fun w => w z2), if_neg (fun w => w z3), if_pos rfl, if_pos (show _ ∧ _ ∧ _ from z4)]
    · rw [row_ne _ _ _ (by decide), row_p, row_ne _ _ _ (by decide), row_p]; exact g2
theorem x_num3 (h : TX q.1 tx len p) {r : Nat} (k : nP tx len 6 r p q.1 P q.2) : w_X3_readsNumbers 6 r q P := by
  have hN0 : ¬ kNum 6 ≤ 0 := by decide
  have hN1 : ¬ kNum 6 ≤ nI 1 := by decide
  have hN2 : ¬ kNum 6 ≤ nI 2 := by decide
  have hN3 : kNum 6 ≤ nI 3 := by decide
  have hD : ¬ kDig 6 = 2 := by decide
  unfold w_X3_readsNumbers
  refine ⟨4, rn_0 hN0 (x_31 h (by decide) (fun _ => hD) (fun z => ?_) (fun z => ?_))⟩
  · refine nP_f k ?_ q.1 h (frN.rf _ _)
    rw [nums, if_neg (by omega), if_pos (show ¬ (_ ∧ _) from z)]
  have hp := z.1
  have t1 := (h.go (p' := p + 1) (by omega)).row r 0 (n1_ tx p)
  have f1 := ((frN.rf r q.1).pos (nI (p + 1))).row 0 (n1_ tx p)
  have g0 := row_at (up2 q.1 190 6 (nI (p + 1))) r 0 (n1_ tx p)
  generalize up2 (up2 q.1 190 6 (nI (p + 1))) (194 + r) 0 (n1_ tx p) = d1 at *
  refine rn_s (q := (d1, q.2)) t1 (by decide) hN1 (fun z2 => ?_) (fun z2 => ?_)
  · refine nP_f k ?_ d1 t1 f1
    rw [nums, if_neg (by omega), if_neg (fun w => w z), if_neg (by omega), if_pos (show ¬ (_ ∧ _) from z2)]
  have hp2 := z2.1
  have t2 := t1.go (p' := p + 2) (by omega)
  have f2 := f1.pos (nI (p + 2))
  have g2 : up2 d1 190 6 (nI (p + 2)) (194 + r) 0 = n1_ tx p := (row_p d1 r 0 _).trans g0
  refine x_31 (q := (up2 d1 190 6 (nI (p + 2)), q.2)) t2 (by decide) (fun _ => hD) (fun z3 => ?_) (fun z3 => ?_)
  · refine nP_f k ?_ _ t2 f2
    rw [nums, if_neg (by omega), if_neg (fun w => w z), if_neg (by omega), if_neg (fun w => w z2), if_pos (show ¬ (_ ∧ _) from z3)]
  have hp3 := z3.1
  have t3 := (t2.go (p' := p + 3) (by omega)).row r 1 (n1_ tx (p + 2))
  have f3 := (f2.pos (nI (p + 3))).row 1 (n1_ tx (p + 2))
  have g3 : up2 (up2 (up2 d1 190 6 (nI (p + 2))) 190 6 (nI (p + 3))) (194 + r) 1 (n1_ tx (p + 2)) (194 + r) 0 = n1_ tx p := by rw [row_ne _ _ _ (by decide), row_p, g2]
  have g31 := row_at (up2 (up2 d1 190 6 (nI (p + 2))) 190 6 (nI (p + 3))) r 1 (n1_ tx (p + 2))
  generalize hd3 : up2 (up2 (up2 d1 190 6 (nI (p + 2))) 190 6 (nI (p + 3))) (194 + r) 1 (n1_ tx (p + 2)) = d3 at *
  refine rn_s (q := (d3, q.2)) t3 (by decide) hN2 (fun z4 => ?_) (fun z4 => ?_)
  · refine nP_f k ?_ d3 t3 f3
    rw [nums, if_neg (by omega), if_neg (fun w => w z), if_neg (by omega), if_neg (fun w => w z2), if_neg (fun w => w z3), if_neg (by omega), if_neg (by omega), if_pos (show ¬ (_ ∧ _) from z4)]
  have hp4 := z4.1
  have t4 := t3.go (p' := p + 4) (by omega)
  have f4 := f3.pos (nI (p + 4))
  refine x_31 (q := (up2 d3 190 6 (nI (p + 4)), q.2)) t4 (by decide) (fun _ => hD) (fun z5 => ?_) (fun z5 => rn_e hN3 ?_)
  · refine nP_f k ?_ _ t4 f4
    rw [nums, if_neg (by omega), if_neg (fun w => w z), if_neg (by omega), if_neg (fun w => w z2), if_neg (fun w => w z3), if_neg (by omega), if_neg (by omega), if_neg (fun w => w z4), if_pos (show ¬ (_ ∧ _) from z5)]
  · have hp5 := z5.1
    refine nP_t (a := n1_ tx p) (b := n1_ tx (p + 2)) k ?_ _ ((t4.go (p' := p + 5) (by omega)).row r 2 _) ((f4.pos _).row 2 _) ⟨fun _ => ?_, fun _ => ?_, fun _ => row_at _ _ _ _⟩
    · rw [nums, if_neg (by omega), if_neg (fun w => w z), if_neg (by omega), if_neg (fun w => w z2), if_neg (fun w => w z3), if_neg (by omega), if_neg (by omega), if_neg (fun w => w z4), if_neg (fun w => w z5)]
    · rw [row_ne _ _ _ (by decide), row_p]; exact (row_p d3 r 0 _).trans g3
    · rw [row_ne _ _ _ (by decide), row_p]; exact (row_p d3 r 1 _).trans g31
theorem x_readsNumbers (h : TX q.1 tx len p) {kd r : Nat} (hk : kd < 10) (k : nP tx len kd r p q.1 P q.2) : w_X3_readsNumbers kd r q P := by
  by_cases c1 : kd = 0 ∨ kd = 4 ∨ kd = 8
  · exact x_num1 h c1 k
  · by_cases c2 : kd = 1 ∨ kd = 3 ∨ kd = 5 ∨ kd = 7
    · exact x_num2 h c2 k
    · rcases (show kd = 2 ∨ kd = 6 ∨ kd = 9 by omega) with rfl | rfl | rfl
      · exact x_num22 h k
      · exact x_num3 h k
      · unfold w_X3_readsNumbers
        refine ⟨1, rn_e (j := 0) (by decide) ?_⟩
        refine nP_t (f := p) (a := 0) (b := 0) (c := 0) k ?_ q.1 h (frN.rf _ _) ⟨fun w => absurd rfl w, fun w => absurd w (by omega), fun w => absurd w (by omega)⟩
        rw [nums, if_pos rfl]
/-- the frame of an order's reading -/
def frO (r : Nat) (d d' : pU) : Prop := (∀ a, a ≠ 190 → a ≠ 192 → a ≠ 194 + r → d' a = d a) ∧ (∀ j, j ≠ 6 → d' 190 j = d 190 j) ∧ (∀ j, j ≠ r → d' 192 j = d 192 j)
theorem kd_10 (h : ¬ kd_ tx len p = 10) : kd_ tx len p < 10 := by
  have := (kd_ok tx len p).2.2
  omega
theorem x_readsOrder (h : TX q.1 tx len p) {i : Nat} (hi : i < 10) (k0 : (ord_ tx len p).1 = false → ∀ d', TX d' tx len (ord_ tx len p).2.1 → frO i q.1 d' → P 0 (d', q.2))
    (k1 : (ord_ tx len p).1 = true → kd_ tx len p < 10 → ∀ d', TX d' tx len (ord_ tx len p).2.1 → frO i q.1 d' → d' 192 i = nI (kd_ tx len p) → Ag (kd_ tx len p) (d' (194 + i) 0) (d' (194 + i) 1) (d' (194 + i) 2) (ord_ tx len p).2.2.1 (ord_ tx len p).2.2.2.1 (ord_ tx len p).2.2.2.2 → P 1 (d', q.2)) : w_X3_readsOrder (nI i) q P := by
  obtain ⟨s1, s2, s3⟩ := kd_ok tx len p
  have hp := h.2.2.2.2
  unfold w_X3_readsOrder
  refine lp_0 (fun m (_ : Unit) t => LX3_readsOrder_2 (nI i) P _ m t q) (fun _ _ => True) (kd_ tx len p) () trivial (fun m v hv => ?_) (fun m j v hj hv hk => ?_)
  · by_cases c : kd_ tx len p = 10
    · have eo : ord_ tx len p = (false, p + mxS tx len p 10, 0, 0, 0) := by rw [ord_, if_pos c]
      rw [eo] at k0
      rw [c, LX3_readsOrder_2]
      refine ⟨fun _ => x_longestStart h ?_, fun z => absurd (by decide) z⟩
      intro q14 E
      rw [h.2.1, nI_add] at E
      subst E
      exact k0 rfl _ (h.go (mxS_len tx len p hp 10)) ⟨fun a h1 h2 h3 => by rw [up2_ne _ _ _ h1], fun j hj => by rw [up2_at, if_neg (fun z => hj z.2)], fun j hj => by rw [up2_ne _ _ _ (by decide)]⟩
    · have hk := kd_10 c
      have eo : ord_ tx len p = nums tx len (kd_ tx len p) (p + wL (kd_ tx len p)) := by rw [ord_, if_neg c]
      rw [eo] at k0 k1
      have hsm := s2 hk
      have hlen := sm_len tx len p (kd_ tx len p) hp
      rw [hsm] at hlen
      generalize kd_ tx len p = kd at *
      rw [LX3_readsOrder_2]
      refine ⟨fun z => absurd z (nI_ge (b := 10) hk (by omega)), fun _ => ⟨vp_in_nI hk (by decide), ?_⟩⟩
      rw [nI_c (show kd < 100000 by omega)]
      refine x_countSame h hk ⟨fun z => absurd (by rw [hsm]; rfl) z, fun _ => ?_⟩
      intro q6 E
      have E6 : q6 = (up2 q.1 190 6 (nI (p + wL kd)), q.2) := by
        rw [E, h.2.1]
        show (up2 q.1 190 6 (nI p + nI (wL kd)), q.2) = _
        rw [nI_add]
      clear E
      subst E6
      refine ⟨vp_in_nI hi (by decide), ?_⟩
      intro q7 E
      rw [nI_c (show i < 100000 by omega)] at E
      subst E
      refine ⟨vp_in_nI hi (by decide), ?_⟩
      rw [nI_c (show i < 100000 by omega)]
      have t7 : TX (up2 (up2 q.1 190 6 (nI (p + wL kd))) 192 i (nI kd)) tx len (p + wL kd) := (h.go hlen).cg (by rw [up2_ne _ _ _ (by decide)]) (by rw [up2_ne _ _ _ (by decide)]) (by rw [up2_ne _ _ _ (by decide)])
      have hfr : ∀ d', frN i (up2 (up2 q.1 190 6 (nI (p + wL kd))) 192 i (nI kd)) d' → frO i q.1 d' ∧ d' 192 i = nI kd := fun d' hf => by
        refine ⟨⟨fun a h1 h2 h3 => ?_, fun j hj => ?_, fun j hj => ?_⟩, ?_⟩
        · rw [hf.1 a h1 h3, up2_ne _ _ _ h2, up2_ne _ _ _ h1]
        · rw [hf.2 j hj, up2_ne _ _ _ (by decide), up2_at, if_neg (fun z => hj z.2)]
        · rw [hf.1 192 (by decide) (by omega), up2_at, if_neg (fun z => hj z.2), up2_ne _ _ _ (by decide)]
        · rw [hf.1 192 (by decide) (by omega), up2_at, if_pos ⟨rfl, rfl⟩]
      refine x_readsNumbers (q := (up2 (up2 q.1 190 6 (nI (p + wL kd))) 192 i (nI kd), q.2)) t7 hk ⟨fun z d' g1 g2 => ?_, fun z d' g1 g2 g3 => ?_⟩
      · exact k0 z d' g1 (hfr d' g2).1
      · exact k1 z hk d' g1 (hfr d' g2).1 (hfr d' g2).2 g3
  · have hj10 : j < 10 := by omega
    rw [LX3_readsOrder_2]
    refine ⟨fun z => absurd z (nI_ge (b := 10) hj10 (by omega)), fun _ => ⟨vp_in_nI hj10 (by decide), ?_⟩⟩
    rw [nI_c (show j < 100000 by omega)]
    have h7 := wL_7 j hj10
    have hs7 := (sm_ok tx len p j).2.2
    refine x_countSame h hj10 ⟨fun _ => ?_, fun z => absurd (nI_inj (a := sm_ tx len p j) (b := wL j) (by omega) (by omega) z) (s1 j hj)⟩
    intro x5 e5
    rw [nI_1] at e5
    subst e5
    exact hk () trivial
end XT2
/-! the whole text -/
def ps_ (tx : Nat → Int32) (len : Nat) : Nat → Nat
  | 0 => 0
  | i + 1 => (ord_ tx len (ps_ tx len i)).2.1 + 1
def res (tx : Nat → Int32) (len : Nat) : Nat → Nat → Int32 × Nat
  | 0, i => (nI (ps_ tx len i), i)
  | m + 1, i => if (ord_ tx len (ps_ tx len i)).1 = false then (nI (ord_ tx len (ps_ tx len i)).2.1, i) else if len ≤ (ord_ tx len (ps_ tx len i)).2.1 then (-1, i + 1) else if ¬ tx (ord_ tx len (ps_ tx len i)).2.1 = 59 then (nI (ord_ tx len (ps_ tx len i)).2.1, i + 1) else res tx len m (i + 1)
/-- the first i orders stand, each with what is behind it -/
def Gd (tx : Nat → Int32) (len i : Nat) : Prop := ∀ k, k < i → (ord_ tx len (ps_ tx len k)).1 = true ∧ kd_ tx len (ps_ tx len k) < 10
def oAg (tx : Nat → Int32) (len k : Nat) (d : pU) : Prop := d 192 k = nI (kd_ tx len (ps_ tx len k)) ∧ Ag (kd_ tx len (ps_ tx len k)) (d (194 + k) 0) (d (194 + k) 1) (d (194 + k) 2) (ord_ tx len (ps_ tx len k)).2.2.1 (ord_ tx len (ps_ tx len k)).2.2.2.1 (ord_ tx len (ps_ tx len k)).2.2.2.2
def frA (d d' : pU) : Prop := (∀ a, a ≠ 190 → a ≠ 192 → ¬ (194 ≤ a ∧ a < 204) → d' a = d a) ∧ d' 190 1 = d 190 1
/-- what the class' reading gives -/
def aP (tx : Nat → Int32) (len : Nat) (d : pU) (r : Int32 × Nat) (P : Int32 → aS → Prop) (t : List Nat) : Prop :=
  ∀ d', frA d d' → d' 190 2 = r.1 → (r.1 = -1 → d' 190 3 = nI r.2 ∧ r.2 ≤ 10 ∧ Gd tx len r.2 ∧ ∀ k, k < r.2 → oAg tx len k d') → P 0 (d', t)
theorem x_ra {tx : Nat → Int32} {len : Nat} {P : Int32 → aS → Prop} (d0 : pU) (t : List Nat) : ∀ (m i : Nat) (d : pU), i + m = 10 → TX d tx len (ps_ tx len i) → d 190 3 = nI i → d 190 2 = -1 → frA d0 d → Gd tx len i → (∀ k, k < i → oAg tx len k d) → aP tx len d0 (res tx len m i) P t →
    LX3_readAll_15 P (fun q11 => ∀ q12 : aS, q12 = (up2 q11.1 190 2 (q11.1 190 6), q11.2) → P 0 q12) (m + 1) (d, t) := by
  intro m
  induction m with
  | zero =>
    intro i d hi h h3 h2 hf hg ha k
    have i10 : i = 10 := by omega
    subst i10
    rw [LX3_readAll_15]
    dsimp only
    rw [h3, h.2.1]
    refine ⟨fun _ => ?_, fun z => absurd (by decide) z⟩
    intro q4 E
    subst E
    refine k _ ⟨fun a h1 h2 h3 => by rw [up2_ne _ _ _ h1]; exact hf.1 a h1 h2 h3, by rw [up2_at, if_neg (by decide)]; exact hf.2⟩ (by rw [up2_at, if_pos (by decide)]; rfl) (fun z => absurd z ?_)
    have hp := h.2.2.2.2
    have hl := h.2.2.2.1
    exact nI_nm (show ps_ tx len 10 < 100000 by omega)
  | succ m ih =>
    intro i d hi h h3 h2 hf hg ha k
    have hi10 : i < 10 := by omega
    have hfo : ∀ d', frO i d d' → frA d0 d' := fun d' hd => ⟨fun a h1 h2 h3 => (hd.1 a h1 h2 (by omega)).trans (hf.1 a h1 h2 h3), (hd.2.1 1 (by decide)).trans hf.2⟩
    have hr : res tx len (m + 1) i = if (ord_ tx len (ps_ tx len i)).1 = false then (nI (ord_ tx len (ps_ tx len i)).2.1, i) else if len ≤ (ord_ tx len (ps_ tx len i)).2.1 then (-1, i + 1) else if ¬ tx (ord_ tx len (ps_ tx len i)).2.1 = 59 then (nI (ord_ tx len (ps_ tx len i)).2.1, i + 1) else res tx len m (i + 1) := rfl
    have hps : ps_ tx len (i + 1) = (ord_ tx len (ps_ tx len i)).2.1 + 1 := rfl
    rw [hr] at k
    rw [LX3_readAll_15]
    dsimp only
    rw [h3]
    refine ⟨fun z => absurd z (nI_ge (b := 10) hi10 (by omega)), fun _ => x_readsOrder (q := (d, t)) h hi10 (fun z d' g1 g2 => ⟨fun _ => ?_, fun w => absurd rfl w⟩) (fun z zk d' g1 g2 g3 g4 => ⟨fun w => absurd w (by decide), fun _ => ?_⟩)⟩
    · rw [if_pos z] at k
      intro q7 E
      dsimp only at E
      rw [g1.2.1] at E
      subst E
      have hfd := hfo d' g2
      refine k _ ⟨fun a h1 h2 h3 => by rw [up2_ne _ _ _ h1]; exact hfd.1 a h1 h2 h3, by rw [up2_at, if_neg (by decide)]; exact hfd.2⟩ (by rw [up2_at, if_pos (by decide)]) (fun z => absurd z ?_)
      have hp := g1.2.2.2.2
      have hl := g1.2.2.2.1
      exact nI_nm (show (ord_ tx len (ps_ tx len i)).2.1 < 100000 by omega)
    · have zf : ¬ (ord_ tx len (ps_ tx len i)).1 = false := by rw [z]; decide
      rw [if_neg zf] at k
      intro q8 E
      dsimp only at E
      rw [g2.2.1 3 (by decide)] at E
      dsimp only at E
      rw [h3, nI_1] at E
      subst E
      have e3 : up2 d' 190 3 (nI (i + 1)) 190 3 = nI (i + 1) := by rw [up2_at, if_pos (by decide)]
      have t8 : TX (up2 d' 190 3 (nI (i + 1))) tx len (ord_ tx len (ps_ tx len i)).2.1 := g1.cg (by rw [up2_at, if_neg (by decide)]) (by rw [up2_at, if_neg (by decide)]) (by rw [up2_ne _ _ _ (by decide)])
      have e2 : up2 d' 190 3 (nI (i + 1)) 190 2 = -1 := by rw [up2_at, if_neg (by decide), g2.2.1 2 (by decide)]; exact h2
      have hfd := hfo d' g2
      have f8 : frA d0 (up2 d' 190 3 (nI (i + 1))) := ⟨fun a h1 h2 h3 => by rw [up2_ne _ _ _ h1]; exact hfd.1 a h1 h2 h3, by rw [up2_at, if_neg (by decide)]; exact hfd.2⟩
      have hg8 : Gd tx len (i + 1) := fun k' hk' => by
        rcases Nat.lt_or_ge k' i with w | w
        · exact hg k' w
        · rw [show k' = i by omega]
          exact ⟨z, zk⟩
      have hag : ∀ x, ∀ k', k' < i + 1 → oAg tx len k' (up2 (up2 d' 190 3 (nI (i + 1))) 190 6 x) ∧ oAg tx len k' (up2 d' 190 3 (nI (i + 1))) := fun x k' hk' => by
        have hb : oAg tx len k' d' := by
          rcases Nat.lt_or_ge k' i with w | w
          · have h9 := ha k' w
            unfold oAg at h9 ⊢
            rw [g2.2.2 k' (by omega), g2.1 (194 + k') (by omega) (by omega) (by omega)]
            exact h9
          · rw [show k' = i by omega]
            exact ⟨g3, g4⟩
        unfold oAg at hb ⊢
        rw [up2_ne (up2 d' 190 3 (nI (i + 1))) 6 x (show 192 ≠ 190 by decide), up2_ne (up2 d' 190 3 (nI (i + 1))) 6 x (show 194 + k' ≠ 190 by omega), up2_ne d' 3 (nI (i + 1)) (show 192 ≠ 190 by decide), up2_ne d' 3 (nI (i + 1)) (show 194 + k' ≠ 190 by omega)]
        exact ⟨hb, hb⟩
      have hp := t8.2.2.2.2
      have hl := t8.2.2.2.1
      refine ⟨fun c => ?_, fun c => ?_⟩
      · have c' : (ord_ tx len (ps_ tx len i)).2.1 < len := by
          dsimp only at c
          rw [t8.1, t8.2.1, nI_ltI (by omega) (by omega)] at c
          exact c
        rw [if_neg (by omega)] at k
        refine x_readsSign (q := (up2 d' 190 3 (nI (i + 1)), t)) t8 59 (fun w => ⟨fun w2 => absurd rfl w2, fun _ => ?_⟩) (fun w => ⟨fun _ => ?_, fun w2 => absurd w2 (by decide)⟩)
        · rw [if_pos (fun w2 => w ⟨c', w2⟩)] at k
          intro q12 E
          dsimp only at E
          rw [t8.2.1] at E
          subst E
          refine k _ ⟨fun a h1 h2 h3 => by rw [up2_ne _ _ _ h1]; exact f8.1 a h1 h2 h3, by rw [up2_at, if_neg (by decide)]; exact f8.2⟩ (by rw [up2_at, if_pos (by decide)]) (fun z => absurd z ?_)
          exact nI_nm (show (ord_ tx len (ps_ tx len i)).2.1 < 100000 by omega)
        · rw [if_neg (fun w2 => w2 w.2)] at k
          refine ih (i + 1) _ (by omega) ?_ ?_ ?_ ?_ hg8 (fun k' hk' => (hag _ k' hk').1) k
          · rw [hps]
            exact t8.go (by omega)
          · rw [up2_at, if_neg (by decide)]
            exact e3
          · rw [up2_at, if_neg (by decide)]
            exact e2
          · exact ⟨fun a h1 h2 h3 => by rw [up2_ne _ _ _ h1]; exact f8.1 a h1 h2 h3, by rw [up2_at, if_neg (by decide)]; exact f8.2⟩
      · have c' : len ≤ (ord_ tx len (ps_ tx len i)).2.1 := by
          dsimp only at c
          rw [t8.1, t8.2.1, nI_ltI (by omega) (by omega)] at c
          omega
        rw [if_pos c'] at k
        exact k _ f8 e2 (fun _ => ⟨e3, by show i + 1 ≤ 10; omega, hg8, fun k' hk' => (hag 0 k' hk').2⟩)
theorem x_readAll {q : aS} {tx : Nat → Int32} {len : Nat} {P : Int32 → aS → Prop} (h1 : q.1 190 1 = nI len) (h2 : ∀ j, j < len → q.1 191 j = tx j) (hl : len ≤ 60) (k : aP tx len q.1 (res tx len 10 0) P q.2) : w_X3_readAll q P := by
  unfold w_X3_readAll
  intro q1 E
  subst E
  intro q2 E
  subst E
  intro q3 E
  subst E
  refine ⟨11, x_ra q.1 q.2 10 0 _ rfl ⟨?_, ?_, fun j hj => ?_, hl, by show 0 ≤ len; omega⟩ ?_ ?_ ⟨fun a h1 h2 h3 => ?_, ?_⟩ (fun k hk => absurd hk (by omega)) (fun k hk => absurd hk (by omega)) k⟩
  · dsimp only
    rw [up2_at, if_neg (by decide), up2_at, if_neg (by decide), up2_at, if_neg (by decide)]
    exact h1
  · dsimp only
    rw [up2_at, if_neg (by decide), up2_at, if_neg (by decide), up2_at, if_pos (by decide)]
    rfl
  · dsimp only
    rw [up2_ne _ _ _ (by decide), up2_ne _ _ _ (by decide), up2_ne _ _ _ (by decide)]
    exact h2 j hj
  · dsimp only
    rw [up2_at, if_neg (by decide), up2_at, if_pos (by decide)]
    rfl
  · dsimp only
    rw [up2_at, if_pos (by decide)]
  · dsimp only
    rw [up2_ne _ _ _ h1, up2_ne _ _ _ h1, up2_ne _ _ _ h1]
  · dsimp only
    rw [up2_at, if_neg (by decide), up2_at, if_neg (by decide), up2_at, if_neg (by decide)]


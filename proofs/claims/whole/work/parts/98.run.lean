/-! a whole text's orders, done -/
abbrev rn3 : Type := (Int32 × Int32) × Nat × pU
def kR (tx : Nat → Int32) (len k : Nat) (u : pU) : Int32 × Int32 := pRef (kd_ tx len (ps_ tx len k)) (ord_ tx len (ps_ tx len k)).2.2.1 (ord_ tx len (ps_ tx len k)).2.2.2.1 (ord_ tx len (ps_ tx len k)).2.2.2.2 u
def kD (tx : Nat → Int32) (len k : Nat) (u : pU) : Int32 × pU := pDo (kd_ tx len (ps_ tx len k)) (ord_ tx len (ps_ tx len k)).2.2.1 (ord_ tx len (ps_ tx len k)).2.2.2.1 (ord_ tx len (ps_ tx len k)).2.2.2.2 u
def rn_ (tx : Nat → Int32) (len : Nat) : Nat → Nat → pU → rn3
  | 0, k, u => ((0, 0), k, u)
  | m + 1, k, u => if (kR tx len k u).1 = 0 then rn_ tx len m (k + 1) (kD tx len k u).2 else (kR tx len k u, k, u)
theorem rn_n (tx : Nat → Int32) (len : Nat) : ∀ m k u, k ≤ (rn_ tx len m k u).2.1 ∧ (rn_ tx len m k u).2.1 ≤ k + m
  | 0, k, u => ⟨Nat.le_refl k, Nat.le_refl k⟩
  | m + 1, k, u => by
    unfold rn_
    by_cases c : (kR tx len k u).1 = 0
    · rw [if_pos c]
      have h := rn_n tx len m (k + 1) (kD tx len k u).2
      exact ⟨by omega, by omega⟩
    · rw [if_neg c]
      exact ⟨Nat.le_refl k, by show k ≤ _; omega⟩
theorem rn_v (tx : Nat → Int32) (len n0 : Nat) : ∀ m k u, (∀ j, j < k + m → kd_ tx len (ps_ tx len j) < 10) → Inv (n0 + k) u → Inv (n0 + (k + m)) (rn_ tx len m k u).2.2
  | 0, k, u, _, hI => hI
  | m + 1, k, u, hk, hI => by
    unfold rn_
    by_cases c : (kR tx len k u).1 = 0
    · rw [if_pos c]
      have h := rn_v tx len n0 m (k + 1) (kD tx len k u).2 (fun j hj => hk j (by omega)) (v_do hI (hk k (by omega)) _ _ _ c)
      rw [show k + (m + 1) = k + 1 + m by omega]
      exact h
    · rw [if_neg c]
      exact hI.wd (by omega)
theorem v3_0 : vp_in 0 3 := (vp_in_nI (show 0 < 3 by decide) (by decide) : vp_in (nI 0) 3)
theorem v3_1 : vp_in 1 3 := (vp_in_nI (show 1 < 3 by decide) (by decide) : vp_in (nI 1) 3)
theorem v3_2 : vp_in 2 3 := (vp_in_nI (show 2 < 3 by decide) (by decide) : vp_in (nI 2) 3)
section RUN
variable {tx : Nat → Int32} {len n n0 : Nat}
theorem x_al {P : Int32 → aS → Prop} {K : aS → Prop} {u0 : pU} (hn : n ≤ 10) (hkd : ∀ j, j < n → kd_ tx len (ps_ tx len j) < 10) (t : List Nat) : ∀ (m k : Nat) (u d : pU), k + m = n → RX 1 d u → Inv (n0 + k) u → RX 18 d u0 → d 190 3 = nI n → (∀ j, j < n → oAg tx len j d) →
    ((rn_ tx len m k u).1.1 = 0 → ∀ d', RX 1 d' (rn_ tx len m k u).2.2 → frX d d' → K (d', t)) →
    (¬ (rn_ tx len m k u).1.1 = 0 → ∀ d', RX 1 d' u0 → (∀ a, a = 0 ∨ 18 ≤ a → a ≠ 204 → d' a = d a) → d' 204 0 = 1 → d' 204 1 = 12 → d' 204 2 = nI (rn_ tx len m k u).2.1 → d' 204 3 = 1 → d' 204 4 = (rn_ tx len m k u).1.1 → d' 204 5 = (rn_ tx len m k u).1.2 → P 0 (d', t)) →
    LX9_doesAllOrders_13 P K (m + 1) (nI k) (d, t) := by
  intro m
  induction m with
  | zero =>
    intro k u d hm h hI h18 h3 hag k0 k1
    have e : k = n := by omega
    subst e
    rw [LX9_doesAllOrders_13]
    dsimp only
    rw [h3]
    exact ⟨fun _ => k0 rfl d h (frX.rf d), fun z => absurd ((nI_leI (by omega) (by omega)).mpr (Nat.le_refl k)) z⟩
  | succ m ih =>
    intro k u d hm h hI h18 h3 hag k0 k1
    have hkn : k < n := by omega
    have hk := hkd k hkn
    obtain ⟨o1, o2⟩ := hag k hkn
    have hR := ag_R o2 hk u
    rw [LX9_doesAllOrders_13]
    dsimp only
    rw [h3, nI_c (show k < 100000 by omega), o1, nI_c (by omega)]
    refine ⟨fun z => absurd z (nI_ge hkn (by omega)), fun _ => ⟨vp_in_nI (by omega) (by decide), vp_in_nI (by omega) (by decide), hk, v3_0, v3_1, v3_2, ?_⟩⟩
    refine x_ref (q := (d, t)) h hI.1 hk _ _ _ (fun z => ⟨fun _ => ?_, fun w => absurd rfl w⟩) (fun z => ⟨fun w => absurd w i10, fun _ => ?_⟩)
    · have z' : (kR tx len k u).1 = 0 := by
        have := z
        rw [show (d (194 + k) (Int32.toNatClampNeg 0)) = d (194 + k) 0 from rfl, show (d (194 + k) (Int32.toNatClampNeg 1)) = d (194 + k) 1 from rfl, show (d (194 + k) (Int32.toNatClampNeg 2)) = d (194 + k) 2 from rfl, hR.1] at this
        exact this
      have er : rn_ tx len (m + 1) k u = rn_ tx len m (k + 1) (kD tx len k u).2 := by rw [rn_, if_pos z']
      rw [er] at k0 k1
      dsimp only
      rw [o1, nI_c (by omega)]
      refine ⟨vp_in_nI (by omega) (by decide), hk, v3_0, v3_1, v3_2, ?_⟩
      refine x_do (q := (d, t)) h hI hk _ _ _ z (fun d' f1 f2 => ?_)
      intro x10 e10
      rw [nI_1] at e10
      subst e10
      have f1' : RX 1 d' (kD tx len k u).2 := by
        have := f1
        rw [show (d (194 + k) (Int32.toNatClampNeg 0)) = d (194 + k) 0 from rfl, show (d (194 + k) (Int32.toNatClampNeg 1)) = d (194 + k) 1 from rfl, show (d (194 + k) (Int32.toNatClampNeg 2)) = d (194 + k) 2 from rfl, hR.2] at this
        exact this
      refine ih (k + 1) _ d' (by omega) f1' (v_do hI hk _ _ _ z') (h18.cg (fun s s1 s2 => f2 s (by omega))) (by rw [f2 190 (by omega)]; exact h3) (fun j hj => ?_) (fun w d2 g1 g2 => k0 w d2 g1 (fun a ha => (g2 a ha).trans (f2 a ha))) (fun w d2 g1 g2 => k1 w d2 g1 (fun a ha h204 => (g2 a ha h204).trans (f2 a ha)))
      have h9 := hag j hj
      unfold oAg at h9 ⊢
      rw [f2 192 (by omega), f2 (194 + j) (by omega)]
      exact h9
    · have eR : pRef (kd_ tx len (ps_ tx len k)) (d (194 + k) (Int32.toNatClampNeg 0)) (d (194 + k) (Int32.toNatClampNeg 1)) (d (194 + k) (Int32.toNatClampNeg 2)) u = kR tx len k u := hR.1
      rw [eR] at z ⊢
      have er : rn_ tx len (m + 1) k u = (kR tx len k u, k, u) := by rw [rn_, if_neg z]
      rw [er] at k1
      have k4 := kp_204 d (kR tx len k u).1 (kR tx len k u).2
      have kn : ∀ s, s ≠ 204 → kp_ d (kR tx len k u).1 (kR tx len k u).2 s = d s := fun s hs => kp_ne d _ _ hs
      dsimp only
      generalize kp_ d (kR tx len k u).1 (kR tx len k u).2 = d1 at *
      unfold w_X5_putBehind
      dsimp only
      rw [k4.2.1]
      intro q3 E
      subst E
      intro q4 E
      dsimp only at E
      rw [up2_at, if_neg (by decide), k4.2.2.1] at E
      subst E
      intro q5 E
      subst E
      intro q6 E
      subst E
      intro q7 E
      subst E
      dsimp only
      have c4 : ∀ j, up2 (up2 (up2 (up2 (up2 d1 204 4 (kR tx len k u).1) 204 5 (kR tx len k u).2) 204 1 12) 204 2 (nI k)) 204 3 1 204 j = if j = 3 then 1 else if j = 2 then nI k else if j = 1 then 12 else if j = 5 then (kR tx len k u).2 else if j = 4 then (kR tx len k u).1 else d1 204 j := fun j => by
        rw [up2_row, upd_at, up2_row, upd_at, up2_row, upd_at, up2_row, upd_at, up2_row, upd_at]
      have cn : ∀ s, s ≠ 204 → up2 (up2 (up2 (up2 (up2 d1 204 4 (kR tx len k u).1) 204 5 (kR tx len k u).2) 204 1 12) 204 2 (nI k)) 204 3 1 s = d s := fun s hs => by
        rw [up2_ne _ _ _ hs, up2_ne _ _ _ hs, up2_ne _ _ _ hs, up2_ne _ _ _ hs, up2_ne _ _ _ hs, kn s hs]
      generalize up2 (up2 (up2 (up2 (up2 d1 204 4 (kR tx len k u).1) 204 5 (kR tx len k u).2) 204 1 12) 204 2 (nI k)) 204 3 1 = d2 at *
      refine x_copy (q := (d2, t)) (u := u0) (h18.cg (fun s s1 s2 => cn s (by omega))) (by decide) (fun d3 g1 g2 => ?_)
      have g4 : d3 204 = d2 204 := g2 204 (by decide)
      refine k1 z d3 g1 (fun a ha h204 => (g2 a (by omega)).trans (cn a h204)) ?_ ?_ ?_ ?_ ?_ ?_
      · rw [g4]; exact (c4 0).trans k4.1
      · rw [g4]; exact c4 1
      · rw [g4]; exact c4 2
      · rw [g4]; exact c4 3
      · rw [g4]; exact c4 4
      · rw [g4]; exact c4 5
theorem m_does {k kd : Nat} {d : pU} {t : List Nat} {P : Int32 → aS → Prop} (hk : k < 20) (hd : kd < 10) (h0 : d 7 (4 * k) = nI kd) (h : wK kd (d 7 (4 * k + 1)) (d 7 (4 * k + 2)) (d 7 (4 * k + 3)) (d, t) P) : w_X10_does (nI (4 * k)) (d, t) P := by
  have a3 : nI (4 * k) + 3 = nI (4 * k + 3) := by rw [show (3 : Int32) = nI 3 from rfl, nI_add]
  have a2 : nI (4 * k) + 2 = nI (4 * k + 2) := by rw [show (2 : Int32) = nI 2 from rfl, nI_add]
  have hkn : ∀ b, b < 10 → nI kd = nI b → kd = b := fun b hb z => nI_inj (by omega) (by omega) z
  unfold w_X10_does
  dsimp only
  rw [a2, a3, nI_1, nI_c (by omega), nI_c (by omega), nI_c (by omega), nI_c (by omega), h0]
  refine ⟨vp_in_nI (by omega) (by decide), ?_⟩
  intro x2 e2
  subst e2
  refine ⟨vp_in_nI (by omega) (by decide), ?_⟩
  intro x3 e3
  subst e3
  refine ⟨vp_in_nI (by omega) (by decide), fun z => ?_, fun z0 => ⟨fun z => ?_, fun z1 => ⟨fun z => ?_, fun z2 => ⟨fun z => ?_, fun z3 => ⟨fun z => ?_, fun z4 => ⟨fun z => ?_, fun z5 => ⟨fun z => ⟨vp_in_nI (by omega) (by decide), ?_⟩, fun z6 => ⟨fun z => ?_, fun z7 => ⟨fun z => ?_, fun z8 => ?_⟩⟩⟩⟩⟩⟩⟩⟩⟩
  · have e := hkn 0 (by omega) z
    subst e
    rw [wK_0] at h
    exact h
  · have e := hkn 1 (by omega) z
    subst e
    rw [wK_1] at h
    exact h
  · have e := hkn 2 (by omega) z
    subst e
    rw [wK_2] at h
    exact h
  · have e := hkn 3 (by omega) z
    subst e
    rw [wK_3] at h
    exact h
  · have e := hkn 4 (by omega) z
    subst e
    rw [wK_4] at h
    exact h
  · have e := hkn 5 (by omega) z
    subst e
    rw [wK_5] at h
    exact h
  · have e := hkn 6 (by omega) z
    subst e
    rw [wK_6] at h
    exact h
  · have e := hkn 7 (by omega) z
    subst e
    rw [wK_7] at h
    exact h
  · have e := hkn 8 (by omega) z
    subst e
    rw [wK_8] at h
    exact h
  · have e : kd = 9 := by
      have y : ∀ b, b < 10 → ¬ nI kd = nI b → kd ≠ b := fun b _ h e => h (by rw [e])
      have := y 0 (by omega) z0
      have := y 1 (by omega) z1
      have := y 2 (by omega) z2
      have := y 3 (by omega) z3
      have := y 4 (by omega) z4
      have := y 5 (by omega) z5
      have := y 6 (by omega) z6
      have := y 7 (by omega) z7
      have := y 8 (by omega) z8
      omega
    subst e
    rw [wK_9] at h
    exact h
theorem m_al {P : Int32 → aS → Prop} {K : aS → Prop} {u0 : pU} (hn : n ≤ 10) (hkd : ∀ j, j < n → kd_ tx len (ps_ tx len j) < 10) (t : List Nat) : ∀ (m k : Nat) (u d : pU), k + m = n → RM (d 1) 0 u → Inv (n0 + k) u → RM (d 2) 0 u0 → d 0 21 = nI n → d 0 16 = 0 → (∀ j, j < n → mAg tx len j d) →
    ((rn_ tx len m k u).1.1 = 0 → ∀ d', RM (d' 1) 0 (rn_ tx len m k u).2.2 → frM d d' → K (d', t)) →
    (¬ (rn_ tx len m k u).1.1 = 0 → ∀ r d', RM (d' 1) 0 u0 → d' 0 6 = 12 → d' 0 7 = nI (rn_ tx len m k u).2.1 → d' 0 8 = (rn_ tx len m k u).1.1 → d' 0 9 = (rn_ tx len m k u).1.2 → d' 0 15 = 2 → (∀ a, a ≠ 0 → a ≠ 1 → d' a = d a) → (∀ j, ¬ (6 ≤ j ∧ j ≤ 9) → ¬ (15 ≤ j ∧ j ≤ 17) → d' 0 j = d 0 j) → P r (d', t)) →
    LX10_run_45 P K (m + 1) (nI k) (d, t) := by
  intro m
  induction m with
  | zero =>
    intro k u d hm h hI h2 h21 h16 hag k0 k1
    have e : k = n := by omega
    subst e
    rw [LX10_run_45]
    dsimp only
    rw [h21]
    exact ⟨fun _ => k0 rfl d h (frM.rf d), fun z => absurd ((nI_leI (by omega) (by omega)).mpr (Nat.le_refl k)) z⟩
  | succ m ih =>
    intro k u d hm h hI h2 h21 h16 hag k0 k1
    have hkn : k < n := by omega
    have hk := hkd k hkn
    obtain ⟨o1, o2⟩ := hag k hkn
    have hR := ag_R o2 hk u
    rw [LX10_run_45]
    dsimp only
    rw [h21, show (4 : Int32) = nI 4 from rfl, nI_mul]
    refine ⟨fun z => absurd z (nI_ge hkn (by omega)), fun _ => m_does (by omega) hk o1 (r_do (q := (d, t)) h hI h16 hk _ _ _ (fun z d' f1 f2 => ?_) (fun z d' r' f1 f2 f3 => ?_))⟩
    · rw [hR.1] at z
      rw [hR.2] at f1
      have z : (kR tx len k u).1 = 0 := z
      have er : rn_ tx len (m + 1) k u = rn_ tx len m (k + 1) (kD tx len k u).2 := by rw [rn_, if_pos z]
      rw [er] at k0 k1
      have e0 : d' 0 = d 0 := f2 0 (by decide)
      dsimp only
      rw [e0, h16]
      refine ⟨fun _ => ?_, fun w => absurd rfl w⟩
      intro x9 e9
      rw [nI_1] at e9
      subst e9
      refine ih (k + 1) _ d' (by omega) f1 (v_do hI hk _ _ _ z) (by rw [f2 2 (by decide)]; exact h2) (by rw [e0]; exact h21) (by rw [e0]; exact h16) (fun j hj => ?_) (fun w d2 g1 g2 => k0 w d2 g1 (fun a ha => (g2 a ha).trans (f2 a ha))) (fun w r d2 g1 g2 g3 g4 g5 g6 g7 g8 => k1 w r d2 g1 g2 g3 g4 g5 g6 (fun a ha0 ha1 => (g7 a ha0 ha1).trans (f2 a ha1)) (fun j j1 j2 => (g8 j j1 j2).trans (by rw [e0])))
      have h9 := hag j hj
      unfold mAg at h9 ⊢
      rw [f2 7 (by decide)]
      exact h9
    · rw [hR.1] at z f1 f2
      have z : ¬ (kR tx len k u).1 = 0 := z
      have f1 : d' 0 16 = (kR tx len k u).1 := f1
      have f2 : d' 0 17 = (kR tx len k u).2 := f2
      have er : rn_ tx len (m + 1) k u = (kR tx len k u, k, u) := by rw [rn_, if_neg z]
      rw [er] at k1
      dsimp only
      rw [f1, f2]
      refine ⟨fun w => absurd w z, fun _ => r_refuses (q := (d', t)) (u := u0) ?_ (fun d3 g1 g2 g3 g4 g5 g6 g7 g8 => ?_)⟩
      · show RM (d' 2) 0 u0
        rw [f3.1 2 (by decide) (by decide)]
        exact h2
      · exact k1 z 0 d3 g1 g2 g3 g4 g5 g6 (fun a h0 h1 => (g7 a h0 h1).trans (f3.1 a h0 h1)) (fun j j1 j2 => (g8 j j1 (by omega)).trans (f3.2 j (by omega) (by omega)))
end RUN

/-! places in an order: two keys, then the number -/
def ahL (k1 k2 : Nat → Nat) (a b : Nat) : Bool := decide (k1 b < k1 a ∨ (k1 a = k1 b ∧ (k2 b < k2 a ∨ (k2 a = k2 b ∧ a < b))))
theorem ahL_iff {k1 k2 : Nat → Nat} {a b : Nat} : ahL k1 k2 a b = true ↔ (k1 b < k1 a ∨ (k1 a = k1 b ∧ (k2 b < k2 a ∨ (k2 a = k2 b ∧ a < b)))) := by
  unfold ahL
  exact decide_eq_true_iff
def rkL (k1 k2 : Nat → Nat) (n j : Nat) : Nat := cB (fun a => ahL k1 k2 a j) n
theorem cB_mono {f g : Nat → Bool} : ∀ {n : Nat}, (∀ x, x < n → f x = true → g x = true) → cB f n ≤ cB g n
  | 0, _ => Nat.le_refl 0
  | n + 1, h => by
    have ih := cB_mono (n := n) (fun x hx => h x (by omega))
    have h9 := h n (by omega)
    show cB f n + (if f n = true then 1 else 0) ≤ cB g n + (if g n = true then 1 else 0)
    by_cases c : f n = true
    · rw [if_pos c, if_pos (h9 c)]
      omega
    · rw [if_neg c]
      omega
theorem cB_lt {f g : Nat → Bool} {y : Nat} (hf : ¬ f y = true) (hg : g y = true) : ∀ {n : Nat}, y < n → (∀ x, x < n → f x = true → g x = true) → cB f n < cB g n
  | 0, h, _ => absurd h (Nat.not_lt_zero y)
  | n + 1, hy, h => by
    show cB f n + (if f n = true then 1 else 0) < cB g n + (if g n = true then 1 else 0)
    by_cases e : y = n
    · subst e
      have ih := cB_mono (n := y) (fun x hx => h x (by omega))
      rw [if_neg hf, if_pos hg]
      omega
    · have ih := cB_lt hf hg (n := n) (by omega) (fun x hx => h x (by omega))
      have h9 := h n (by omega)
      by_cases c : f n = true
      · rw [if_pos c, if_pos (h9 c)]
        omega
      · rw [if_neg c]
        omega
theorem rk_lt {k1 k2 : Nat → Nat} {n a b : Nat} (ha : a < n) (h : ahL k1 k2 a b = true) : rkL k1 k2 n a < rkL k1 k2 n b := by
  unfold rkL
  refine cB_lt (y := a) (fun z => ?_) h ha (fun x hx hxa => ?_)
  · rw [ahL_iff] at z
    omega
  · rw [ahL_iff] at h hxa ⊢
    omega
theorem rk_inj {k1 k2 : Nat → Nat} {n a b : Nat} (ha : a < n) (hb : b < n) (h : rkL k1 k2 n a = rkL k1 k2 n b) : a = b := by
  rcases Nat.lt_trichotomy a b with c | c | c
  · by_cases z : ahL k1 k2 a b = true
    · have := rk_lt ha z
      omega
    · have w : ahL k1 k2 b a = true := by
        rw [ahL_iff] at z ⊢
        omega
      have := rk_lt hb w
      omega
  · exact c
  · by_cases z : ahL k1 k2 a b = true
    · have := rk_lt ha z
      omega
    · have w : ahL k1 k2 b a = true := by
        rw [ahL_iff] at z ⊢
        omega
      have := rk_lt hb w
      omega
def fnd (rk : Nat → Nat) (p : Int32) : Nat → Int32
  | 0 => -1
  | j + 1 => if nI (rk j) = p then nI j else fnd rk p j
theorem fnd_some {k1 k2 : Nat → Nat} {N : Nat} (hN : N < 1000) {p : Int32} {j : Nat} (hj : j < N) (h : nI (rkL k1 k2 N j) = p) : ∀ {n : Nat}, j < n → n ≤ N → fnd (rkL k1 k2 N) p n = nI j
  | 0, hl, _ => absurd hl (Nat.not_lt_zero j)
  | n + 1, hl, hn => by
    show (if nI (rkL k1 k2 N n) = p then nI n else fnd (rkL k1 k2 N) p n) = nI j
    by_cases e : j = n
    · subst e
      rw [if_pos h]
    · have hle1 : rkL k1 k2 N n ≤ N := cB_le _ N
      have hle2 : rkL k1 k2 N j ≤ N := cB_le _ N
      rw [if_neg (fun z => e (rk_inj hj (by omega) (nI_inj (by omega) (by omega) (h.trans z.symm)))), fnd_some hN hj h (n := n) (by omega) (by omega)]
theorem fnd_none {rk : Nat → Nat} {p : Int32} : ∀ {n : Nat}, (∀ j, j < n → ¬ nI (rk j) = p) → fnd rk p n = -1
  | 0, _ => rfl
  | n + 1, h => by
    show (if nI (rk n) = p then nI n else fnd rk p n) = -1
    rw [if_neg (h n (by omega)), fnd_none (n := n) (fun j hj => h j (by omega))]
theorem d_int {a b : Nat} (ha : a < 2 ^ 30) (hb : b < 2 ^ 30) : (nI a - nI b).toInt = (a : Int) - b := by
  rw [Int32.toInt_sub, nI_toInt (by omega), nI_toInt (by omega), Int.bmod_eq_of_le (by omega) (by omega)]
theorem d_pos {a b : Nat} (ha : a < 2 ^ 30) (hb : b < 2 ^ 30) : 0 < nI a - nI b ↔ b < a := by
  rw [Int32.lt_iff_toInt_lt, d_int ha hb, Int32.toInt_zero]
  omega
theorem d_zero {a b : Nat} (ha : a < 2 ^ 30) (hb : b < 2 ^ 30) : nI a - nI b = 0 ↔ a = b := by
  rw [← Int32.toInt_inj, d_int ha hb, Int32.toInt_zero]
  omega
/-! keys -/
def kR1 (u : pU) (j : Nat) : Nat := tn (u 3 j)
def kR2 (u : pU) (j : Nat) : Nat := cB (fun a => decide (u 14 a = nI j)) (cS u)
def kE1 (u : pU) (j : Nat) : Nat := tn (u 7 j)
def kE2 (u : pU) (j : Nat) : Nat := if u 8 j = -1 then 1 else 0
def rv_ (u : pU) (c : Int32) (j : Nat) : Int32 := if c = 0 then u 13 j else if c = 1 then u 16 j else if c = 2 then u 15 j else u 12 j
def kS1 (u : pU) (c : Int32) (j : Nat) : Nat := tn (rv_ u c j)
def kS2 (_ : Nat) : Nat := 0
theorem kR1_e {n : Nat} {u : pU} (hI : Inv n u) {j : Nat} (hj : j < cR u) : u 3 j = nI (kR1 u j) ∧ kR1 u j ≤ 9 := by
  obtain ⟨d, -, hd, ed⟩ := (hI.2.1 j hj).2
  unfold kR1
  rw [ed, tn_c (by omega)]
  exact ⟨rfl, hd⟩
theorem kE1_e {n : Nat} {u : pU} (hI : Inv n u) {j : Nat} (hj : j < cE u) : u 7 j = nI (kE1 u j) ∧ kE1 u j ≤ 9 := by
  obtain ⟨d, -, hd, ed⟩ := (hI.2.2.1 j hj).2.1
  unfold kE1
  rw [ed, tn_c (by omega)]
  exact ⟨rfl, hd⟩
theorem kS1_e {n : Nat} {u : pU} (hI : Inv n u) (hn : n ≤ 10000) (c : Int32) {j : Nat} (hj : j < cS u) : rv_ u c j = nI (kS1 u c j) ∧ kS1 u c j < 2 ^ 30 := by
  obtain ⟨a, b, -, d, e⟩ := hI.2.2.2.1 j hj
  have key : ∀ {x : Int32} {m : Nat}, Rg x 0 m → m < 2 ^ 30 → x = nI (tn x) ∧ tn x < 2 ^ 30 := fun {x m} h hm => by
    obtain ⟨k, -, hk, rfl⟩ := h
    have ek : tn (nI k) = k := nI_clamp (by omega)
    rw [ek]
    exact ⟨rfl, by omega⟩
  unfold kS1 rv_
  by_cases c0 : c = 0
  · rw [if_pos c0]
    exact key b (by omega)
  · rw [if_neg c0]
    by_cases c1 : c = 1
    · rw [if_pos c1]
      exact key e (by omega)
    · rw [if_neg c1]
      by_cases c2 : c = 2
      · rw [if_pos c2]
        exact key d (by omega)
      · rw [if_neg c2]
        exact key a (by omega)
/-- the count goes on -/
theorem cB_s1 {f : Nat → Bool} {j : Nat} (h : f j = true) : nI (cB f j) + 1 = nI (cB f (j + 1)) := by
  show _ = nI (cB f j + (if f j = true then 1 else 0))
  rw [if_pos h, nI_1]
theorem cB_s0 {f : Nat → Bool} {j : Nat} (h : ¬ f j = true) : nI (cB f j) = nI (cB f (j + 1)) := by
  show _ = nI (cB f j + (if f j = true then 1 else 0))
  rw [if_neg h, Nat.add_zero]
section RANK
variable {q : aS} {u : pU} {P : Int32 → aS → Prop} {n : Nat}
theorem x_isDamperThan (h : RX 1 q.1 u) (hI : Inv n u) {a b : Nat} (ha : a < cR u) (hb : b < cR u) (k1 : ahL (kR1 u) (kR2 u) a b = true → P 1 q) (k0 : ¬ ahL (kR1 u) (kR2 u) a b = true → P 0 q) : w_X9_isDamperThan (nI a) (nI b) q P := by
  have hc := hI.1
  have hbR := hc.1.2
  have hbS := hc.2.2.2
  obtain ⟨da, la⟩ := kR1_e hI ha
  obtain ⟨db, lb⟩ := kR1_e hI hb
  have sa : kR2 u a ≤ cS u := cB_le _ _
  have sb : kR2 u b ≤ cS u := cB_le _ _
  have va : vp_in (nI a) 6 := vp_in_nI (by omega) (by decide)
  have vb : vp_in (nI b) 6 := vp_in_nI (by omega) (by decide)
  unfold w_X9_isDamperThan
  rw [nI_c (show a < 100000 by omega), nI_c (show b < 100000 by omega), rx_4 h (j := a) (by omega), rx_4 h (j := b) (by omega), da, db]
  refine ⟨va, vb, fun c => ?_, fun c => ⟨va, vb, fun c2 => k0 ?_, fun c2 => k1 ?_⟩⟩
  · have c' : kR1 u a = kR1 u b := nI_inj (by omega) (by omega) c
    refine x_singersIn h hc _ (x_bc _ (x_singersIn h hc _ (x_bc _ ?_)))
    rw [sin_cnt hc, sin_cnt hc]
    show (nI (kR2 u a) = nI (kR2 u b) → _) ∧ (¬ nI (kR2 u a) = nI (kR2 u b) → (nI (kR2 u a) ≤ nI (kR2 u b) → _) ∧ (¬ nI (kR2 u a) ≤ nI (kR2 u b) → _))
    refine ⟨fun c2 => ⟨fun c3 => k0 ?_, fun c3 => k1 ?_⟩, fun c2 => ⟨fun c3 => k0 ?_, fun c3 => k1 ?_⟩⟩
    · have c2' : kR2 u a = kR2 u b := nI_inj (by omega) (by omega) c2
      rw [nI_leI (by omega) (by omega)] at c3
      rw [ahL_iff]
      omega
    · have c2' : kR2 u a = kR2 u b := nI_inj (by omega) (by omega) c2
      rw [nI_leI (by omega) (by omega)] at c3
      rw [ahL_iff]
      omega
    · have c2' : ¬ kR2 u a = kR2 u b := fun z => c2 (by rw [z])
      rw [nI_leI (by omega) (by omega)] at c3
      rw [ahL_iff]
      omega
    · have c2' : ¬ kR2 u a = kR2 u b := fun z => c2 (by rw [z])
      rw [nI_leI (by omega) (by omega)] at c3
      rw [ahL_iff]
      omega
  · have c' : ¬ kR1 u a = kR1 u b := fun z => c (by rw [z])
    rw [nI_leI (by omega) (by omega)] at c2
    rw [ahL_iff]
    omega
  · have c' : ¬ kR1 u a = kR1 u b := fun z => c (by rw [z])
    rw [nI_leI (by omega) (by omega)] at c2
    rw [ahL_iff]
    omega
theorem x_countRoomsAhead (h : RX 1 q.1 u) (hI : Inv n u) {b : Nat} (hb : b < cR u) (k : P (nI (rkL (kR1 u) (kR2 u) (cR u) b)) q) : w_X9_countRoomsAhead (nI b) q P := by
  have hc := hI.1
  have hbR := hc.1.2
  have hn := (rx_2 h).trans hc.1.1
  unfold w_X9_countRoomsAhead
  refine lp_0 (fun m v i => LX9_countRoomsAhead_4 (nI b) P _ m v i q) (fun j v => v = nI (cB (fun a => ahL (kR1 u) (kR2 u) a b) j)) (cR u) 0 rfl (fun m v hv => ?_) (fun m j v hj hv hk => ?_)
  · subst hv
    rw [LX9_countRoomsAhead_4, hn]
    exact ⟨fun _ => k, fun z => absurd (nI_le (Nat.le_refl _) (by omega)) z⟩
  · subst hv
    rw [LX9_countRoomsAhead_4, hn]
    refine ⟨fun z => absurd z (nI_ge hj (by omega)), fun _ => ⟨fun c => ?_, fun c => x_isDamperThan h hI hj hb (fun z => ⟨fun w => absurd w i10, fun _ => ?_⟩) (fun z => ⟨fun _ => ?_, fun w => absurd rfl w⟩)⟩⟩
    · have ej := nI_inj (a := j) (b := b) (by omega) (by omega) c
      intro x2 e2
      rw [nI_1] at e2
      subst e2
      refine hk _ (cB_s0 ?_)
      rw [ej, ahL_iff]
      omega
    · intro x6 e6 x7 e7
      rw [nI_1] at e7
      subst e6 e7
      exact hk _ (cB_s1 (f := fun a => ahL (kR1 u) (kR2 u) a b) z)
    · intro x5 e5
      rw [nI_1] at e5
      subst e5
      exact hk _ (cB_s0 (f := fun a => ahL (kR1 u) (kR2 u) a b) z)
theorem x_isStrongerThan (h : RX 1 q.1 u) (hI : Inv n u) {a b : Nat} (ha : a < cE u) (hb : b < cE u) (k1 : ahL (kE1 u) (kE2 u) a b = true → P 1 q) (k0 : ¬ ahL (kE1 u) (kE2 u) a b = true → P 0 q) : w_X9_isStrongerThan (nI a) (nI b) q P := by
  have hc := hI.1
  have hbR := hc.2.1.2
  obtain ⟨da, la⟩ := kE1_e hI ha
  obtain ⟨db, lb⟩ := kE1_e hI hb
  have va : vp_in (nI a) 8 := vp_in_nI (by omega) (by decide)
  have vb : vp_in (nI b) 8 := vp_in_nI (by omega) (by decide)
  have n01 : ¬ (0 : Int32) = 1 := by decide
  unfold w_X9_isStrongerThan
  rw [nI_c (show a < 100000 by omega), nI_c (show b < 100000 by omega), rx_8 h (j := a) (by omega), rx_8 h (j := b) (by omega), da, db]
  refine ⟨va, vb, fun c => ?_, fun c => ⟨va, vb, fun c2 => k0 ?_, fun c2 => k1 ?_⟩⟩
  · have c' : kE1 u a = kE1 u b := nI_inj (by omega) (by omega) c
    have e1 : ∀ {j : Nat}, u 8 j = -1 → kE2 u j = 1 := fun z => if_pos z
    have e0 : ∀ {j : Nat}, ¬ u 8 j = -1 → kE2 u j = 0 := fun z => if_neg z
    refine x_isLet h (by omega) (fun za => x_isLet h (by omega) (fun zb => ⟨fun _ => ?_, fun z => absurd rfl z⟩) (fun zb => ⟨fun z => absurd z n01, fun _ => x_isLet h (by omega) (fun w => absurd w zb) (fun _ => k1 ?_)⟩)) (fun za => x_isLet h (by omega) (fun zb => ⟨fun z => absurd z i10, fun _ => x_isLet h (by omega) (fun _ => k0 ?_) (fun w => absurd zb w)⟩) (fun zb => ⟨fun _ => ?_, fun z => absurd rfl z⟩))
    · have h1 := e1 za
      have h2 := e1 zb
      refine ⟨fun c3 => k0 ?_, fun c3 => k1 ?_⟩ <;>
        (rw [nI_leI (by omega) (by omega)] at c3
         rw [ahL_iff]
         omega)
    · have h1 := e1 za
      have h2 := e0 zb
      rw [ahL_iff]
      omega
    · have h1 := e0 za
      have h2 := e1 zb
      rw [ahL_iff]
      omega
    · have h1 := e0 za
      have h2 := e0 zb
      refine ⟨fun c3 => k0 ?_, fun c3 => k1 ?_⟩ <;>
        (rw [nI_leI (by omega) (by omega)] at c3
         rw [ahL_iff]
         omega)
  · have c' : ¬ kE1 u a = kE1 u b := fun z => c (by rw [z])
    rw [nI_leI (by omega) (by omega)] at c2
    rw [ahL_iff]
    omega
  · have c' : ¬ kE1 u a = kE1 u b := fun z => c (by rw [z])
    rw [nI_leI (by omega) (by omega)] at c2
    rw [ahL_iff]
    omega
theorem x_countEchoesAhead (h : RX 1 q.1 u) (hI : Inv n u) {b : Nat} (hb : b < cE u) (k : P (nI (rkL (kE1 u) (kE2 u) (cE u) b)) q) : w_X9_countEchoesAhead (nI b) q P := by
  have hc := hI.1
  have hbR := hc.2.1.2
  have hn := (rx_6 h).trans hc.2.1.1
  unfold w_X9_countEchoesAhead
  refine lp_0 (fun m v i => LX9_countEchoesAhead_4 (nI b) P _ m v i q) (fun j v => v = nI (cB (fun a => ahL (kE1 u) (kE2 u) a b) j)) (cE u) 0 rfl (fun m v hv => ?_) (fun m j v hj hv hk => ?_)
  · subst hv
    rw [LX9_countEchoesAhead_4, hn]
    exact ⟨fun _ => k, fun z => absurd (nI_le (Nat.le_refl _) (by omega)) z⟩
  · subst hv
    rw [LX9_countEchoesAhead_4, hn]
    refine ⟨fun z => absurd z (nI_ge hj (by omega)), fun _ => ⟨fun c => ?_, fun c => x_isStrongerThan h hI hj hb (fun z => ⟨fun w => absurd w i10, fun _ => ?_⟩) (fun z => ⟨fun _ => ?_, fun w => absurd rfl w⟩)⟩⟩
    · have ej := nI_inj (a := j) (b := b) (by omega) (by omega) c
      intro x2 e2
      rw [nI_1] at e2
      subst e2
      refine hk _ (cB_s0 ?_)
      rw [ej, ahL_iff]
      omega
    · intro x6 e6 x7 e7
      rw [nI_1] at e7
      subst e6 e7
      exact hk _ (cB_s1 (f := fun a => ahL (kE1 u) (kE2 u) a b) z)
    · intro x5 e5
      rw [nI_1] at e5
      subst e5
      exact hk _ (cB_s0 (f := fun a => ahL (kE1 u) (kE2 u) a b) z)
theorem x_rankedValue (h : RX 1 q.1 u) (c : Int32) {j : Nat} (hj : j < 6) (k : P (rv_ u c j) q) : w_X9_rankedValue c (nI j) q P := by
  have vj : vp_in (nI j) 6 := vp_in_nI hj (by decide)
  unfold w_X9_rankedValue
  unfold rv_ at k
  rw [nI_c (show j < 100000 by omega), rx_14 h hj, rx_17 h hj, rx_16 h hj, rx_13 h hj]
  refine ⟨fun e => ⟨vj, ?_⟩, fun e => ⟨fun e1 => ⟨vj, ?_⟩, fun e1 => ⟨fun e2 => ⟨vj, ?_⟩, fun e2 => ⟨vj, ?_⟩⟩⟩⟩
  · rw [if_pos e] at k
    exact k
  · rw [if_neg e, if_pos e1] at k
    exact k
  · rw [if_neg e, if_neg e1, if_pos e2] at k
    exact k
  · rw [if_neg e, if_neg e1, if_neg e2] at k
    exact k
theorem x_countSingersAhead (h : RX 1 q.1 u) (hI : Inv n u) (hn9 : n ≤ 10000) (c : Int32) {b : Nat} (hb : b < cS u) (k : P (nI (rkL (kS1 u c) kS2 (cS u) b)) q) : w_X9_countSingersAhead c (nI b) q P := by
  have hc := hI.1
  have hbR := hc.2.2.2
  have hn := (rx_12 h).trans hc.2.2.1
  unfold w_X9_countSingersAhead
  refine x_rankedValue h c (by omega) ?_
  obtain ⟨vb, lb⟩ := kS1_e hI hn9 c hb
  rw [vb]
  refine lp_0 (fun m v i => LX9_countSingersAhead_13 c (nI b) (nI (kS1 u c b)) P _ m v i q) (fun j v => v = nI (cB (fun a => ahL (kS1 u c) kS2 a b) j)) (cS u) 0 rfl (fun m v hv => ?_) (fun m j v hj hv hk => ?_)
  · subst hv
    rw [LX9_countSingersAhead_13, hn]
    exact ⟨fun _ => k, fun z => absurd (nI_le (Nat.le_refl _) (by omega)) z⟩
  · subst hv
    obtain ⟨vj, lj⟩ := kS1_e hI hn9 c hj
    have e2 : kS2 j = kS2 b := rfl
    rw [LX9_countSingersAhead_13, hn]
    refine ⟨fun z => absurd z (nI_ge hj (by omega)), fun _ => x_rankedValue h c (by omega) ?_⟩
    rw [vj]
    refine ⟨fun c1 => ?_, fun c1 => ⟨fun c2 => ?_, fun c2 => ⟨fun c3 => ?_, fun c3 => ?_⟩⟩⟩
    · intro x7 e7 x8 e8
      rw [nI_1] at e8
      subst e7 e8
      rw [nI_ltI (by omega) (by omega)] at c1
      exact hk _ (cB_s1 (f := fun a => ahL (kS1 u c) kS2 a b) (by rw [ahL_iff]; omega))
    · intro x9 e9
      rw [nI_1] at e9
      subst e9
      rw [nI_ltI (by omega) (by omega)] at c1
      have c2' : ¬ kS1 u c j = kS1 u c b := fun z => c2 (by rw [z])
      exact hk _ (cB_s0 (f := fun a => ahL (kS1 u c) kS2 a b) (by rw [ahL_iff]; omega))
    · intro x10 e10
      rw [nI_1] at e10
      subst e10
      rw [nI_ltI (by omega) (by omega)] at c1
      have c2' : kS1 u c j = kS1 u c b := (nI_eq (by omega) (by omega)).mp c2
      rw [nI_leI (by omega) (by omega)] at c3
      exact hk _ (cB_s0 (f := fun a => ahL (kS1 u c) kS2 a b) (by rw [ahL_iff]; omega))
    · intro x11 e11 x12 e12
      rw [nI_1] at e12
      subst e11 e12
      rw [nI_ltI (by omega) (by omega)] at c1
      have c2' : kS1 u c j = kS1 u c b := (nI_eq (by omega) (by omega)).mp c2
      rw [nI_leI (by omega) (by omega)] at c3
      exact hk _ (cB_s1 (f := fun a => ahL (kS1 u c) kS2 a b) (by rw [ahL_iff]; omega))
end RANK

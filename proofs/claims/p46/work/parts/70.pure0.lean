/-! the pure layer: one state u for both sides, laid like the class' State; u 0 7 and u 0 8 are what the reference counts beside it -/
abbrev pU : Type := Nat → Nat → Int32
theorem lp_0 {σ : Type} (L : Nat → σ → Int32 → Prop) (I : Nat → σ → Prop) (e : Nat) (s : σ) (h0 : I 0 s) (hx : ∀ n s, I e s → L (n + 1) s (nI e))
    (hs : ∀ n i s, i < e → I i s → (∀ s', I (i + 1) s' → L n s' (nI (i + 1))) → L (n + 1) s (nI i)) : ∃ n, L n s 0 := by
  obtain ⟨n, h⟩ := loop_0 (fun n i s => L n s (nI i)) I e s h0 hx hs
  refine ⟨n, ?_⟩
  have h2 : L n s (nI 0) := h
  rw [nI_0] at h2
  exact h2
theorem lp_k {σ : Type} (L : Nat → σ → Int32 → Prop) (I : Nat → σ → Prop) (e k : Nat) (hk : k ≤ e) (s : σ) (h0 : I k s) (hx : ∀ n s, I e s → L (n + 1) s (nI e))
    (hs : ∀ n i s, i < e → I i s → (∀ s', I (i + 1) s' → L n s' (nI (i + 1))) → L (n + 1) s (nI i)) : ∃ n, L n s (nI k) :=
  ⟨e - k + 1, loop_i (fun n i s => L n s (nI i)) I e hx hs (e - k + 1) k s hk (by omega) h0⟩
theorem up2_at (d : pU) (k j : Nat) (x : Int32) (a b : Nat) : up2 d k j x a b = if a = k ∧ b = j then x else d a b := by
  unfold up2 upR upd
  by_cases ha : a = k
  · subst ha
    by_cases hb : b = j <;> simp [hb]
  · simp [ha]
theorem up2_row (d : pU) (k j : Nat) (x : Int32) : up2 d k j x k = upd (d k) j x := by
  unfold up2 upR
  rw [if_pos rfl]
theorem up2_ne (d : pU) {k a : Nat} (j : Nat) (x : Int32) (h : a ≠ k) : up2 d k j x a = d a := by
  unfold up2 upR
  rw [if_neg h]
theorem upd_at (f : Nat → Int32) (k : Nat) (x : Int32) (j : Nat) : upd f k x j = if j = k then x else f j := rfl
def okS (i j : Nat) : Prop := (i = 0 ∧ 3 ≤ j ∧ j < 7) ∨ (i = 1 ∧ j = 0) ∨ (2 ≤ i ∧ i < 5 ∧ j < 6) ∨ (i = 5 ∧ j = 0) ∨ (6 ≤ i ∧ i < 11 ∧ j < 8) ∨ (i = 11 ∧ j = 0) ∨ (12 ≤ i ∧ i < 17 ∧ j < 6)
def okM (i j : Nat) : Prop := okS i j ∨ (i = 0 ∧ (j = 7 ∨ j = 8))
def ixS (i j : Nat) : Nat := if i = 0 then (if j = 3 then 3 else if j < 7 then j + 2 else j - 3) else if i = 1 then 0 else if i < 5 then 7 + 3 * j + i else if i = 5 then 1 else if i < 11 then 21 + 5 * j + i else if i = 11 then 2 else 55 + 5 * j + i
theorem ixS_lt {i j : Nat} (h : okM i j) : ixS i j < 97 := by
  unfold okM okS at h
  unfold ixS
  repeat' split
  all_goals omega
theorem ixS_inj {i j i' j' : Nat} (h : okM i j) (h' : okM i' j') (e : ixS i j = ixS i' j') : i = i' ∧ j = j' := by
  unfold okM okS at h h'
  unfold ixS at e
  repeat' split at e
  all_goals omega
/-- the class' State at place b holds u; the reference's row f from o on holds u -/
def RX (b : Nat) (d : pU) (u : pU) : Prop := ∀ i j, okS i j → d (b + i) j = u i j
theorem RX.up {b : Nat} {d u : pU} (h : RX b d u) {k i : Nat} (hk : k = b + i) (j : Nat) (x : Int32) : RX b (up2 d k j x) (up2 u i j x) := by
  intro a c ok
  rw [up2_at, up2_at]
  by_cases e : a = i ∧ c = j
  · rw [if_pos e, if_pos ⟨by omega, e.2⟩]
  · rw [if_neg e, if_neg (fun q => e ⟨by omega, q.2⟩), h a c ok]
theorem RX.cg {b : Nat} {d d' u : pU} (h : RX b d u) (hd : ∀ a, b ≤ a → a < b + 17 → d' a = d a) : RX b d' u := by
  intro a c ok
  have hl : a < 17 := by unfold okS at ok; omega
  rw [hd (b + a) (by omega) (by omega), h a c ok]
theorem RX.ghost {b : Nat} {d u : pU} (h : RX b d u) {j : Nat} (hj : 7 ≤ j) (x : Int32) : RX b d (up2 u 0 j x) := by
  intro a c ok
  rw [up2_at, if_neg (fun q => by unfold okS at ok; omega), h a c ok]
/-! counts -/
def tn (x : Int32) : Nat := x.toNatClampNeg
def cR (u : pU) : Nat := (u 1 0).toNatClampNeg
def cE (u : pU) : Nat := (u 5 0).toNatClampNeg
def cS (u : pU) : Nat := (u 11 0).toNatClampNeg
def Cnt (u : pU) : Prop := (u 1 0 = nI (cR u) ∧ cR u ≤ 6) ∧ (u 5 0 = nI (cE u) ∧ cE u ≤ 8) ∧ (u 11 0 = nI (cS u) ∧ cS u ≤ 6)
theorem nI_c {j : Nat} (h : j < 100000) : Int32.toNatClampNeg (nI j) = j := nI_clamp (by omega)
theorem nI_inj {a b : Nat} (ha : a < 100000) (hb : b < 100000) (h : nI a = nI b) : a = b := (nI_eq (by omega) (by omega)).mp h
theorem nI_nm {a : Nat} (ha : a < 100000) : ¬ nI a = -1 := by
  intro h
  have h1 := congrArg Int32.toInt h
  rw [nI_toInt (by omega)] at h1
  have h2 : (-1 : Int32).toInt = -1 := by decide
  omega
/-- has: between 0 and a count -/
theorem has_of {x : Int32} {n : Nat} (hn : n < 100000) (h0 : ¬ x < 0) (h1 : ¬ nI n ≤ x) : ∃ j, j < n ∧ x = nI j := by
  obtain ⟨j, hj, rfl⟩ := nI_of h0
  rw [nI_leI (by omega) hj] at h1
  exact ⟨j, by omega, rfl⟩
/-- x is a natural between a and b -/
def Rg (x : Int32) (a b : Nat) : Prop := ∃ k, a ≤ k ∧ k ≤ b ∧ x = nI k
theorem Rg.mk {k a b : Nat} (h1 : a ≤ k) (h2 : k ≤ b) : Rg (nI k) a b := ⟨k, h1, h2, rfl⟩
theorem Rg.wd {x : Int32} {a b b' : Nat} (h : Rg x a b) (hb : b ≤ b') : Rg x a b' := by
  obtain ⟨k, h1, h2, e⟩ := h
  exact ⟨k, h1, by omega, e⟩
theorem Rg.of {x A B : Int32} {a b : Nat} (hA : A = nI a) (hB : B = nI b) (ha : a < 100000) (hb : b < 100000) (h1 : ¬ x < A) (h2 : x ≤ B) : Rg x a b := by
  subst hA hB
  rw [Int32.lt_iff_toInt_lt] at h1
  rw [Int32.le_iff_toInt_le, nI_toInt (by omega)] at h2
  rw [nI_toInt (by omega)] at h1
  refine ⟨x.toInt.toNat, by omega, by omega, Int32.toInt_inj.mp ?_⟩
  rw [nI_toInt (by omega)]
  omega
/-! sums and sets -/
def sumTo (g : Nat → Int32) : Nat → Int32
  | 0 => 0
  | n + 1 => sumTo g n + g n
def orTo (g : Nat → Int32) : Nat → Int32
  | 0 => 0
  | n + 1 => orTo g n ||| g n
theorem sumTo_cg {g h : Nat → Int32} : ∀ {n : Nat}, (∀ j, j < n → g j = h j) → sumTo g n = sumTo h n
  | 0, _ => rfl
  | n + 1, e => by
    show sumTo g n + g n = sumTo h n + h n
    rw [sumTo_cg (fun j hj => e j (by omega)), e n (by omega)]
theorem orTo_cg {g h : Nat → Int32} : ∀ {n : Nat}, (∀ j, j < n → g j = h j) → orTo g n = orTo h n
  | 0, _ => rfl
  | n + 1, e => by
    show orTo g n ||| g n = orTo h n ||| h n
    rw [orTo_cg (fun j hj => e j (by omega)), e n (by omega)]
theorem sumTo_0 {g : Nat → Int32} : ∀ {n : Nat}, (∀ j, j < n → g j = 0) → sumTo g n = 0
  | 0, _ => rfl
  | n + 1, e => by
    show sumTo g n + g n = 0
    rw [sumTo_0 (fun j hj => e j (by omega)), e n (by omega), Int32.add_zero]
theorem i_comm (a b c : Int32) : a + b + c = a + c + b := by rw [Int32.add_assoc, Int32.add_comm b c, ← Int32.add_assoc]
/-- one place more -/
theorem sumTo_up {g h : Nat → Int32} {k : Nat} {x : Int32} (hk : h k = g k + x) : ∀ {n : Nat}, k < n → (∀ j, j < n → j ≠ k → h j = g j) → sumTo h n = sumTo g n + x
  | 0, h0, _ => absurd h0 (Nat.not_lt_zero _)
  | n + 1, hn, e => by
    show sumTo h n + h n = sumTo g n + g n + x
    by_cases c : k = n
    · subst c
      rw [sumTo_cg (g := h) (h := g) (fun j hj => e j (by omega) (by omega)), hk, Int32.add_assoc]
    · rw [sumTo_up hk (n := n) (by omega) (fun j hj hne => e j (by omega) hne), e n (by omega) (fun q => c q.symm), i_comm]
theorem sumTo_add (g h : Nat → Int32) : ∀ n : Nat, sumTo (fun j => g j + h j) n = sumTo g n + sumTo h n
  | 0 => rfl
  | n + 1 => by
    show sumTo (fun j => g j + h j) n + (g n + h n) = (sumTo g n + g n) + (sumTo h n + h n)
    rw [sumTo_add g h n]
    rw [Int32.add_assoc, Int32.add_assoc, ← Int32.add_assoc (sumTo h n) (g n), Int32.add_comm (sumTo h n) (g n), Int32.add_assoc]
/-- zeros behind the first m -/
theorem sumTo_z {g : Nat → Int32} {m : Nat} : ∀ {n : Nat}, m ≤ n → (∀ j, m ≤ j → j < n → g j = 0) → sumTo g n = sumTo g m
  | 0, h, _ => by rw [show m = 0 by omega]
  | n + 1, h, e => by
    by_cases c : m = n + 1
    · subst c; rfl
    · show sumTo g n + g n = _
      rw [e n (by omega) (by omega), Int32.add_zero]
      exact sumTo_z (by omega) (fun j h1 h2 => e j h1 (by omega))
/-- a sum of naturals -/
theorem sumTo_R {g : Nat → Int32} {b : Nat} : ∀ {n : Nat}, (∀ j, j < n → Rg (g j) 0 b) → Rg (sumTo g n) 0 (b * n)
  | 0, _ => ⟨0, by omega, by omega, rfl⟩
  | n + 1, e => by
    obtain ⟨x, -, h1, e1⟩ := sumTo_R (n := n) (fun j hj => e j (by omega))
    obtain ⟨y, -, h2, e2⟩ := e n (by omega)
    refine ⟨x + y, by omega, ?_, ?_⟩
    · rw [Nat.mul_succ]; omega
    · show sumTo g n + g n = _
      rw [e1, e2, nI_add]

/-! sets as masks, and how many are in them -/
def mB (b : Nat → Bool) : Nat → Nat
  | 0 => 0
  | n + 1 => mB b n + (if b n = true then 2 ^ n else 0)
def cB (b : Nat → Bool) : Nat → Nat
  | 0 => 0
  | n + 1 => cB b n + (if b n = true then 1 else 0)
theorem mB_lt (b : Nat → Bool) : ∀ n, mB b n < 2 ^ n
  | 0 => (by decide : 0 < 2 ^ 0)
  | n + 1 => by
    have h := mB_lt b n
    show mB b n + (if b n = true then 2 ^ n else 0) < 2 ^ (n + 1)
    rw [Nat.pow_succ]
    split <;> omega
theorem cB_le (b : Nat → Bool) : ∀ n, cB b n ≤ n
  | 0 => Nat.le_refl 0
  | n + 1 => by
    have h := cB_le b n
    show cB b n + (if b n = true then 1 else 0) ≤ n + 1
    split <;> omega
theorem bit_or : ∀ j, j < 8 → ∀ m, m < 2 ^ j → nI m ||| (1 <<< (nI j &&& 31)) = nI (m + 2 ^ j) := by decide +kernel
def pop8 (a : Nat) : Nat := a % 2 + a / 2 % 2 + a / 4 % 2 + a / 8 % 2 + a / 16 % 2 + a / 32 % 2 + a / 64 % 2 + a / 128 % 2
theorem bc_pop : ∀ a, a < 256 → bc_ (nI a) = nI (pop8 a) := by decide +kernel
theorem pop_up : ∀ j, j < 8 → ∀ m, m < 2 ^ j → pop8 (m + 2 ^ j) = pop8 m + 1 := by decide +kernel
theorem an_1 : ∀ n, n < 8 → ∀ a, a < 2 ^ n → ∀ c, c < 2 ^ n → nI (a + 2 ^ n) &&& (nI c ^^^ (-1 : Int32)) = (nI a &&& (nI c ^^^ (-1 : Int32))) ||| ((1 : Int32) <<< (nI n &&& 31)) := by decide +kernel
theorem an_2 : ∀ n, n < 8 → ∀ a, a < 2 ^ n → ∀ c, c < 2 ^ n → nI (a + 2 ^ n) &&& (nI (c + 2 ^ n) ^^^ (-1)) = nI a &&& (nI c ^^^ (-1)) := by decide +kernel
theorem or_mask {g : Nat → Int32} {b : Nat → Bool} : ∀ {n : Nat}, n ≤ 8 → (∀ j, j < n → g j = if b j = true then 1 <<< (nI j &&& 31) else 0) → orTo g n = nI (mB b n)
  | 0, _, _ => rfl
  | n + 1, hn, hg => by
    show orTo g n ||| g n = nI (mB b n + (if b n = true then 2 ^ n else 0))
    rw [or_mask (n := n) (by omega) (fun j hj => hg j (by omega)), hg n (by omega)]
    by_cases c : b n = true
    · rw [if_pos c, if_pos c, bit_or n (by omega) _ (mB_lt b n)]
    · rw [if_neg c, if_neg c, Int32.or_zero, Nat.add_zero]
theorem pop_cnt (b : Nat → Bool) : ∀ {n : Nat}, n ≤ 8 → pop8 (mB b n) = cB b n
  | 0, _ => (by decide : pop8 0 = 0)
  | n + 1, hn => by
    show pop8 (mB b n + (if b n = true then 2 ^ n else 0)) = cB b n + (if b n = true then 1 else 0)
    by_cases c : b n = true
    · rw [if_pos c, if_pos c, pop_up n (by omega) _ (mB_lt b n), pop_cnt b (by omega)]
    · rw [if_neg c, if_neg c, Nat.add_zero, Nat.add_zero, pop_cnt b (by omega)]
theorem mB_256 (b : Nat → Bool) {n : Nat} (hn : n ≤ 8) : mB b n < 256 := Nat.lt_of_lt_of_le (mB_lt b n) (Nat.pow_le_pow_right (by decide) hn)
theorem bc_mask (b : Nat → Bool) {n : Nat} (hn : n ≤ 8) : bc_ (nI (mB b n)) = nI (cB b n) := by
  rw [bc_pop _ (mB_256 b hn), pop_cnt b hn]
/-- of a set b and a part f of it: what is in b alone -/
theorem an_mask (b f : Nat → Bool) : ∀ {n : Nat}, n ≤ 8 → (∀ j, j < n → f j = true → b j = true) → nI (mB b n) &&& (nI (mB f n) ^^^ (-1)) = nI (mB (fun j => b j && !f j) n)
  | 0, _, _ => (by decide +kernel : nI 0 &&& (nI 0 ^^^ (-1)) = nI 0)
  | n + 1, hn, hs => by
    show nI (mB b n + (if b n = true then 2 ^ n else 0)) &&& (nI (mB f n + (if f n = true then 2 ^ n else 0)) ^^^ (-1)) = nI (mB _ n + (if (b n && !f n) = true then 2 ^ n else 0))
    have ih := an_mask b f (n := n) (by omega) (fun j hj => hs j (by omega))
    by_cases c : b n = true
    · by_cases d : f n = true
      · rw [if_pos c, if_pos d, if_neg (by rw [c, d]; decide), Nat.add_zero, an_2 n (by omega) _ (mB_lt b n) _ (mB_lt f n), ih]
      · rw [if_pos c, if_neg d, if_pos (by rw [c]; simpa using d), Nat.add_zero, an_1 n (by omega) _ (mB_lt b n) _ (mB_lt f n), ih, bit_or n (by omega) _ (mB_lt _ n)]
    · have d : ¬ f n = true := fun z => c (hs n (by omega) z)
      rw [if_neg c, if_neg d, if_neg (by intro z; exact c (by simpa using (Bool.and_eq_true _ _ ▸ z).1)), Nat.add_zero, Nat.add_zero, Nat.add_zero, ih]
theorem cB_sub (b f : Nat → Bool) : ∀ {n : Nat}, (∀ j, j < n → f j = true → b j = true) → cB (fun j => b j && !f j) n + cB f n = cB b n
  | 0, _ => rfl
  | n + 1, hs => by
    show (cB _ n + (if (b n && !f n) = true then 1 else 0)) + (cB f n + (if f n = true then 1 else 0)) = cB b n + (if b n = true then 1 else 0)
    have ih := cB_sub b f (n := n) (fun j hj => hs j (by omega))
    have h9 := hs n (by omega)
    cases hb : b n <;> cases hf : f n <;> simp [hb, hf] at h9 ⊢ <;> omega
theorem sin_cnt {u : pU} (hc : Cnt u) (x : Int32) : bc_ (pSin u x) = nI (cB (fun j => decide (u 14 j = x)) (cS u)) := by
  have hb := hc.2.2.2
  unfold pSin
  rw [or_mask (b := fun j => decide (u 14 j = x)) (by omega) (fun j hj => by
    unfold gSin
    by_cases c : u 14 j = x
    · rw [if_pos c, if_pos (decide_eq_true c)]
    · rw [if_neg c, if_neg (by simpa using c)])]
  exact bc_mask _ (by omega)
theorem ein_m {u : pU} (hc : Cnt u) (x : Int32) : pEin u x = nI (mB (fun j => decide (u 6 j = x)) (cE u)) := by
  have hb := hc.2.1.2
  unfold pEin
  exact or_mask (by omega) (fun j hj => by
    unfold gEin
    by_cases c : u 6 j = x
    · rw [if_pos c, if_pos (decide_eq_true c)]
    · rw [if_neg c, if_neg (by simpa using c)])
theorem fin_m {u : pU} (hc : Cnt u) (x : Int32) : pFin u x = nI (mB (fun j => decide (u 6 j = x ∧ u 8 j = -1)) (cE u)) := by
  have hb := hc.2.1.2
  unfold pFin
  exact or_mask (by omega) (fun j hj => by
    unfold gFin
    by_cases c : u 6 j = x ∧ u 8 j = -1
    · rw [if_pos c, if_pos (decide_eq_true c)]
    · rw [if_neg c, if_neg (by simpa using c)])
theorem let_cnt {u : pU} (hc : Cnt u) (x : Int32) : bc_ (pEin u x &&& (pFin u x ^^^ (-1))) = bc_ (pEin u x) - bc_ (pFin u x) := by
  have hb := hc.2.1.2
  have hs : ∀ j, j < cE u → decide (u 6 j = x ∧ u 8 j = -1) = true → decide (u 6 j = x) = true := fun j _ h => decide_eq_true (of_decide_eq_true h).1
  rw [ein_m hc, fin_m hc, an_mask _ _ (by omega) hs, bc_mask _ (by omega), bc_mask _ (by omega), bc_mask _ (by omega), ← cB_sub _ _ hs, ← nI_add, Int32.add_sub_cancel]

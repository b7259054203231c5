/-! copies of states, the ring of old ones, the reference's history -/
theorem cpy_at (f g : Nat → Int32) {n : Nat} (j : Nat) (hj : j < n) : va_cpy f g (Int32.toNatClampNeg 0) (Int32.toNatClampNeg 0) n j = f j := by
  unfold va_cpy
  rw [ic_0, if_pos ⟨by omega, by omega⟩]
  congr 1
  omega
theorem ck6 : cpok 6 6 0 0 6 := by unfold cpok; decide +kernel
theorem ck8 : cpok 8 8 0 0 8 := by unfold cpok; decide +kernel
theorem upR_at (d : pU) (k : Nat) (f : Nat → Int32) (a : Nat) : upR d k f a = if a = k then f else d a := rfl
/-- rows 1 to m - 1 are copied from a to b -/
def CPm (a b m : Nat) (u d0 d : pU) : Prop := RX a d u ∧ (∀ i j, okS i j → 1 ≤ i → i < m → d (b + i) j = u i j) ∧ (∀ p, (p < b ∨ b + 17 ≤ p) → d p = d0 p)
theorem cp_row {a b m n : Nat} {u d0 d : pU} {x : Int32} (hab : a + 17 ≤ b ∨ b + 17 ≤ a) (h : CPm a b m u d0 d) (hm : m < 17) (hx : Int32.toNatClampNeg x = n) (hn : ∀ j, okS m j → j < n) : CPm a b (m + 1) u d0 (upR d (b + m) (va_cpy (d (a + m)) (d (b + m)) (Int32.toNatClampNeg 0) (Int32.toNatClampNeg 0) (Int32.toNatClampNeg x))) := by
  obtain ⟨h1, h2, h3⟩ := h
  rw [hx]
  refine ⟨h1.cg (fun p p1 p2 => ?_), fun i j ok i1 i2 => ?_, fun p hp => ?_⟩
  · rw [upR_at, if_neg (by omega)]
  · rw [upR_at]
    by_cases c : i = m
    · subst c
      rw [if_pos rfl, cpy_at _ _ _ (hn j ok), h1 i j ok]
    · rw [if_neg (by omega), h2 i j ok i1 (by omega)]
  · rw [upR_at, if_neg (by omega), h3 p hp]
theorem cp_cnt {a b m : Nat} {u d0 d : pU} (hab : a + 17 ≤ b ∨ b + 17 ≤ a) (h : CPm a b m u d0 d) (hm : m < 17) (hn : ∀ j, okS m j → j = 0) : CPm a b (m + 1) u d0 (up2 d (b + m) 0 (d (a + m) 0)) := by
  obtain ⟨h1, h2, h3⟩ := h
  refine ⟨h1.cg (fun p p1 p2 => ?_), fun i j ok i1 i2 => ?_, fun p hp => ?_⟩
  · rw [up2_ne _ _ _ (by omega)]
  · by_cases c : i = m
    · subst c
      have hj := hn j ok
      subst hj
      rw [up2_at, if_pos ⟨rfl, rfl⟩, h1 i 0 ok]
    · rw [up2_ne _ _ _ (by omega), h2 i j ok i1 (by omega)]
  · rw [up2_ne _ _ _ (by omega), h3 p hp]
/-- the numbers of the State itself: rows 1 to 16 are there, slots 3 to m - 1 of row 0 -/
def CP0 (a b m : Nat) (u d0 d : pU) : Prop := RX a d u ∧ (∀ i j, okS i j → (1 ≤ i ∨ j < m) → d (b + i) j = u i j) ∧ (∀ p, (p < b ∨ b + 17 ≤ p) → d p = d0 p)
theorem cp_0 {a b m : Nat} {u d0 d : pU} (hab : a + 17 ≤ b ∨ b + 17 ≤ a) (h : CP0 a b m u d0 d) (hm : 3 ≤ m ∧ m < 7) : CP0 a b (m + 1) u d0 (up2 d (b + 0) m (d (a + 0) m)) := by
  obtain ⟨h1, h2, h3⟩ := h
  refine ⟨h1.cg (fun p p1 p2 => ?_), fun i j ok i1 => ?_, fun p hp => ?_⟩
  · rw [up2_ne _ _ _ (by omega)]
  · by_cases c : i = 0 ∧ j = m
    · obtain ⟨rfl, rfl⟩ := c
      rw [up2_at, if_pos ⟨rfl, rfl⟩, h1 0 j ok]
    · rw [up2_at, if_neg (by omega), h2 i j ok (by omega)]
  · rw [up2_ne _ _ _ (by omega), h3 p hp]
theorem i66 : Int32.toNatClampNeg 6 = 6 := by decide +kernel
theorem i88 : Int32.toNatClampNeg 8 = 8 := by decide +kernel
/-- copyFrom: from a to b -/
theorem x_copy {q : aS} {u : pU} {P : Int32 → aS → Prop} {a b : Nat} (h : RX a q.1 u) (hab : a + 17 ≤ b ∨ b + 17 ≤ a) (k : ∀ d', RX b d' u → (∀ p, (p < b ∨ b + 17 ≤ p) → d' p = q.1 p) → P 0 (d', q.2)) : w_X8_copyFrom b a q P := by
  have c1 : CPm a b 1 u q.1 q.1 := ⟨h, fun i j ok i1 i2 => absurd i1 (by omega), fun _ _ => rfl⟩
  have n1 : ∀ m, (m = 1 ∨ m = 5 ∨ m = 11) → ∀ j, okS m j → j = 0 := fun m hm j ok => by unfold okS at ok; omega
  have n6 : ∀ m, (2 ≤ m ∧ m < 5 ∨ 12 ≤ m ∧ m < 17) → ∀ j, okS m j → j < 6 := fun m hm j ok => by unfold okS at ok; omega
  have n8 : ∀ m, (6 ≤ m ∧ m < 11) → ∀ j, okS m j → j < 8 := fun m hm j ok => by unfold okS at ok; omega
  unfold w_X8_copyFrom w_X6_copyFrom
  intro q1 e9
  have c2 : CPm a b 2 u q.1 q1.1 := by
    rw [e9]
    exact cp_cnt hab c1 (by decide) (n1 1 (by decide))
  have tq1 : q1.2 = q.2 := by rw [e9]
  clear e9
  refine ⟨ck6, ?_⟩
  intro q2 e9
  have c3 : CPm a b 3 u q.1 q2.1 := by
    rw [e9]
    exact cp_row hab c2 (by decide) (x := 6) i66 (n6 2 (by decide))
  have tq2 : q2.2 = q.2 := by rw [e9]; exact tq1
  clear e9
  refine ⟨ck6, ?_⟩
  intro q3 e9
  have c4 : CPm a b 4 u q.1 q3.1 := by
    rw [e9]
    exact cp_row hab c3 (by decide) (x := 6) i66 (n6 3 (by decide))
  have tq3 : q3.2 = q.2 := by rw [e9]; exact tq2
  clear e9
  refine ⟨ck6, ?_⟩
  intro q4 e9
  have c5 : CPm a b 5 u q.1 q4.1 := by
    rw [e9]
    exact cp_row hab c4 (by decide) (x := 6) i66 (n6 4 (by decide))
  have tq4 : q4.2 = q.2 := by rw [e9]; exact tq3
  clear e9
  unfold w_X1_copyFrom
  intro q5 e9
  have c6 : CPm a b 6 u q.1 q5.1 := by
    rw [e9]
    exact cp_cnt hab c5 (by decide) (n1 5 (by decide))
  have tq5 : q5.2 = q.2 := by rw [e9]; exact tq4
  clear e9
  refine ⟨ck8, ?_⟩
  intro q6 e9
  have c7 : CPm a b 7 u q.1 q6.1 := by
    rw [e9]
    exact cp_row hab c6 (by decide) (x := 8) i88 (n8 6 (by decide))
  have tq6 : q6.2 = q.2 := by rw [e9]; exact tq5
  clear e9
  refine ⟨ck8, ?_⟩
  intro q7 e9
  have c8 : CPm a b 8 u q.1 q7.1 := by
    rw [e9]
    exact cp_row hab c7 (by decide) (x := 8) i88 (n8 7 (by decide))
  have tq7 : q7.2 = q.2 := by rw [e9]; exact tq6
  clear e9
  refine ⟨ck8, ?_⟩
  intro q8 e9
  have c9 : CPm a b 9 u q.1 q8.1 := by
    rw [e9]
    exact cp_row hab c8 (by decide) (x := 8) i88 (n8 8 (by decide))
  have tq8 : q8.2 = q.2 := by rw [e9]; exact tq7
  clear e9
  refine ⟨ck8, ?_⟩
  intro q9 e9
  have c10 : CPm a b 10 u q.1 q9.1 := by
    rw [e9]
    exact cp_row hab c9 (by decide) (x := 8) i88 (n8 9 (by decide))
  have tq9 : q9.2 = q.2 := by rw [e9]; exact tq8
  clear e9
  refine ⟨ck8, ?_⟩
  intro q10 e9
  have c11 : CPm a b 11 u q.1 q10.1 := by
    rw [e9]
    exact cp_row hab c10 (by decide) (x := 8) i88 (n8 10 (by decide))
  have tq10 : q10.2 = q.2 := by rw [e9]; exact tq9
  clear e9
  unfold w_X7_copyFrom
  intro q11 e9
  have c12 : CPm a b 12 u q.1 q11.1 := by
    rw [e9]
    exact cp_cnt hab c11 (by decide) (n1 11 (by decide))
  have tq11 : q11.2 = q.2 := by rw [e9]; exact tq10
  clear e9
  refine ⟨ck6, ?_⟩
  intro q12 e9
  have c13 : CPm a b 13 u q.1 q12.1 := by
    rw [e9]
    exact cp_row hab c12 (by decide) (x := 6) i66 (n6 12 (by decide))
  have tq12 : q12.2 = q.2 := by rw [e9]; exact tq11
  clear e9
  refine ⟨ck6, ?_⟩
  intro q13 e9
  have c14 : CPm a b 14 u q.1 q13.1 := by
    rw [e9]
    exact cp_row hab c13 (by decide) (x := 6) i66 (n6 13 (by decide))
  have tq13 : q13.2 = q.2 := by rw [e9]; exact tq12
  clear e9
  refine ⟨ck6, ?_⟩
  intro q14 e9
  have c15 : CPm a b 15 u q.1 q14.1 := by
    rw [e9]
    exact cp_row hab c14 (by decide) (x := 6) i66 (n6 14 (by decide))
  have tq14 : q14.2 = q.2 := by rw [e9]; exact tq13
  clear e9
  refine ⟨ck6, ?_⟩
  intro q15 e9
  have c16 : CPm a b 16 u q.1 q15.1 := by
    rw [e9]
    exact cp_row hab c15 (by decide) (x := 6) i66 (n6 15 (by decide))
  have tq15 : q15.2 = q.2 := by rw [e9]; exact tq14
  clear e9
  refine ⟨ck6, ?_⟩
  intro q16 e9
  have c17 : CPm a b 17 u q.1 q16.1 := by
    rw [e9]
    exact cp_row hab c16 (by decide) (x := 6) i66 (n6 16 (by decide))
  have tq16 : q16.2 = q.2 := by rw [e9]; exact tq15
  clear e9
  have cz3 : CP0 a b 3 u q.1 q16.1 := ⟨c17.1, fun i j ok i1 => c17.2.1 i j ok (by unfold okS at ok; omega) (by unfold okS at ok; omega), c17.2.2⟩
  intro y3 e9
  have cz4 : CP0 a b 4 u q.1 y3.1 := by
    rw [e9]
    exact cp_0 hab cz3 (by decide)
  have ty3 : y3.2 = q.2 := by rw [e9]; exact tq16
  clear e9
  intro y4 e9
  have cz5 : CP0 a b 5 u q.1 y4.1 := by
    rw [e9]
    exact cp_0 hab cz4 (by decide)
  have ty4 : y4.2 = q.2 := by rw [e9]; exact ty3
  clear e9
  intro y5 e9
  have cz6 : CP0 a b 6 u q.1 y5.1 := by
    rw [e9]
    exact cp_0 hab cz5 (by decide)
  have ty5 : y5.2 = q.2 := by rw [e9]; exact ty4
  clear e9
  intro y6 e9
  have cz7 : CP0 a b 7 u q.1 y6.1 := by
    rw [e9]
    exact cp_0 hab cz6 (by decide)
  have ty6 : y6.2 = q.2 := by rw [e9]; exact ty5
  clear e9
  obtain ⟨d9, t9⟩ := y6
  dsimp only at ty6 cz7
  subst ty6
  exact k _ (fun i j ok => cz7.2.1 i j ok (by unfold okS at ok; omega)) cz7.2.2

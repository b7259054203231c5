/-! the reference: sing, night -/
theorem up2_comm (u : pU) {i j i' j' : Nat} (x y : Int32) (h : i ≠ i' ∨ j ≠ j') : up2 (up2 u i j x) i' j' y = up2 (up2 u i' j' y) i j x := by
  funext a b
  simp only [up2_at]
  grind
section MR3
variable {q : aS} {u : pU} {P : Int32 → aS → Prop} {n : Nat}
theorem nb_1 : ∀ k, k < 100 → mi_ (nI k + 3) 99 = nI k + mi_ (99 - nI k) 3 := by decide +kernel
theorem nb_2 : ∀ k, k < 100 → mi_ (nI k + 3) 99 - nI k = mi_ (99 - nI k) 3 := by decide +kernel
theorem n2_at (z : pU) {j : Nat} : ∀ {e : Nat}, e ≤ j → (pN2 z e).2 13 j = z 13 j
  | 0, _ => rfl
  | e + 1, h => by
    show up2 _ 13 e _ 13 j = _
    rw [up2_at, if_neg (fun q => by omega)]
    exact n2_at z (by omega)
theorem n1_up (u : pU) (x : Int32) : ∀ r, pN1 (up2 u 0 3 x) r = up2 (pN1 u r) 0 3 x
  | 0 => rfl
  | r + 1 => by
    show up2 (pN1 (up2 u 0 3 x) r) 3 r (p0_ (pN1 (up2 u 0 3 x) r 3 r - 2)) = up2 (up2 (pN1 u r) 3 r (p0_ (pN1 u r 3 r - 2))) 0 3 x
    rw [n1_up u x r, up2_ne _ _ _ (show 3 ≠ 0 by decide), up2_comm _ _ _ (Or.inl (by decide))]
theorem n2_up (u : pU) (x : Int32) : ∀ r, pN2 (up2 u 0 3 x) r = ((pN2 u r).1, up2 (pN2 u r).2 0 3 x)
  | 0 => rfl
  | r + 1 => by
    show ((pN2 (up2 u 0 3 x) r).1 + mi_ (99 - (pN2 (up2 u 0 3 x) r).2 13 r) 3, up2 (pN2 (up2 u 0 3 x) r).2 13 r ((pN2 (up2 u 0 3 x) r).2 13 r + mi_ (99 - (pN2 (up2 u 0 3 x) r).2 13 r) 3)) = ((pN2 u r).1 + mi_ (99 - (pN2 u r).2 13 r) 3, up2 (up2 (pN2 u r).2 13 r ((pN2 u r).2 13 r + mi_ (99 - (pN2 u r).2 13 r) 3)) 0 3 x)
    rw [n2_up u x r]
    dsimp only
    rw [up2_ne _ _ _ (show 13 ≠ 0 by decide), up2_comm _ _ _ (Or.inl (by decide))]
end MR3

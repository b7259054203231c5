/-! accounts, the mean, the share -/
theorem dd_ok : ∀ n, n < 7 → 0 < n → ∀ a, a < 55 → vf_n64 (FP.ddiv (FP.i2d (nI a)) (FP.i2d (nI n))) := by unfold vf_n64; decide +kernel
theorem ff_ok : ∀ n, n < 9 → 0 < n → ∀ a, a < 9 → vf_n32 (FP.fdiv (FP.i2f (nI a)) (FP.i2f (nI n))) ∧ vf_n64 (FP.f2d (FP.fdiv (FP.i2f (nI a)) (FP.i2f (nI n)))) := by unfold vf_n32 vf_n64; decide +kernel
theorem let_R {n : Nat} {u : pU} (hI : Inv n u) : ∃ m, m ≤ cE u ∧ u 5 0 - pLt u (-1) = nI m := by
  obtain ⟨m, -, hm, em⟩ := sumTo_R (g := gLt u (-1)) (b := 1) (n := cE u) (fun j hj => by
    unfold gLt
    split
    · exact ⟨1, by omega, by omega, rfl⟩
    · exact ⟨0, by omega, by omega, rfl⟩)
  refine ⟨cE u - m, by omega, ?_⟩
  show u 5 0 - sumTo (gLt u (-1)) (cE u) = _
  have e1 : nI (cE u) = nI (cE u - m) + nI m := by rw [nI_add, Nat.sub_add_cancel (by omega)]
  rw [em, hI.1.2.1.1, e1, Int32.add_sub_cancel]
theorem damp_R {n : Nat} {u : pU} (hI : Inv n u) : ∃ m, m < 55 ∧ sumTo (u 3) (cR u) = nI m := by
  obtain ⟨m, -, hm, em⟩ := sumTo_R (g := u 3) (b := 9) (n := cR u) (fun j hj => (hI.2.1 j hj).2)
  have hb := hI.1.1.2
  exact ⟨m, by omega, em⟩

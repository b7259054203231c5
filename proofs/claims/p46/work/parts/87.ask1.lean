/-! calls that ask -/
section ASK
variable {s : Nat} {q : aS} {dM : pU}
theorem dry_eq : ∀ d, d < 10 → ((nI d + 2) - 1) / 2 = (nI d + 1) / 2 := by decide +kernel
end ASK

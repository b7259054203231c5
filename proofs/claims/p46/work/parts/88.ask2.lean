/-! numbers of an echo, of a singer; would, canEnter, canRent -/
theorem sw_rg {x : Int32} {b : Nat} {B : Int32} (hB : B = nI b) (hb : b < 100000) (h : ¬ (x < 0 ∨ B < x)) : ∃ k, k ≤ b ∧ x = nI k := by
  obtain ⟨k, -, hk, e⟩ := Rg.of (x := x) (a := 0) (b := b) rfl hB (by omega) hb (fun w => h (Or.inl w)) (le_of_nlt (fun w => h (Or.inr w)))
  exact ⟨k, hk, e⟩
theorem ton_ti {n : Nat} {u : pU} (hI : Inv n u) {r : Nat} (hr : r < cR u) {s : Nat} (hs : s < 100000) : pTI u (nI s) (nI r) 0 = pTon u (nI s) (nI r) := by
  obtain ⟨hc, h1, h2, -⟩ := hI
  have hb := hc.1.2
  obtain ⟨d, -, hd, ed⟩ := (h1 r hr).2
  have key : ∀ d, d < 10 → (if nI d + 0 < 9 then nI d + 0 else 9) = nI d := by decide +kernel
  have er := nI_c (show r < 100000 by omega)
  have ep : pDm u (nI r) 0 = nI d := by
    unfold pDm
    rw [er, ed]
    exact key d (by omega)
  unfold pTI pTon
  refine sumTo_cg (fun e he => ?_)
  unfold gTI gTon
  by_cases c : u 6 e = nI r ∧ u 8 e = nI s
  · have hl : ¬ u 9 e ≤ 0 := by
      rcases (h2 e he).2.2 with z | z
      · exact absurd (c.2.symm.trans z.1) (nI_nm hs)
      · obtain ⟨l, h1, h9, el⟩ := z.2
        rw [el]
        exact nI_nle (by omega) (by omega)
    rw [if_pos ⟨c, hl⟩, if_pos c, ep]
    unfold pW
    rw [c.1, er, ed]
  · rw [if_neg (fun z => c z.1), if_neg c]

/-! the law's step from the invariant -/
theorem law_hob (s : Nat) (q : aS) (dM : pU) (hs : s < 512) (hN : INV s q dM) (v : Nat → Int64) (vd : Nat → UInt64) (p1 p2 p3 : Int32) : lawOb v vd p1 p2 p3 q (dM, []) (fun q2 qm => INV (s + 1) q2 qm.1) :=
  ⟨po_0 hN v vd p1 p2 p3, po_1 hN v vd p1 p2 p3, po_2 hN v vd p1 p2 p3, po_3 hN v vd p1 p2 p3, po_4 hN v vd p1 p2 p3, po_5 hN v vd p1 p2 p3, po_6 hN v vd p1 p2 p3, po_7 hN v vd p1 p2 p3, po_8 hN v vd p1 p2 p3, po_9 hN v vd p1 p2 p3, po_10 hN v vd p1 p2 p3, po_11 hN v vd p1 p2 p3, po_12 hN v vd p1 p2 p3, po_13 hN v vd p1 p2 p3, po_14 hN v vd p1 p2 p3, po_15 hN v vd p1 p2 p3, po_16 hN v vd p1 p2 p3, po_17 hN v vd p1 p2 p3, po_18 hN v vd p1 p2 p3, po_19 hN v vd p1 p2 p3, po_20 hN v vd p1 p2 p3, po_21 hN v vd p1 p2 p3, po_22 hN v vd p1 p2 p3, po_23 hN v vd p1 p2 p3, po_24 hN v vd p1 p2 p3, po_25 hN v vd p1 p2 p3, po_26 hs hN v vd p1 p2 p3, po_27 hN v vd p1 p2 p3, po_28 hN v vd p1 p2 p3, po_29 hN v vd p1 p2 p3, po_30 hN v vd p1 p2 p3, po_31 hN v vd p1 p2 p3, po_32 hN v vd p1 p2 p3, po_33 hN v vd p1 p2 p3, po_34 hN v vd p1 p2 p3, po_35 hN v vd p1 p2 p3, po_36 hN v vd p1 p2 p3, po_37 hN v vd p1 p2 p3, po_38 hN v vd p1 p2 p3, po_39 hN v vd p1 p2 p3, po_40 hN v vd p1 p2 p3, po_41 hN v vd p1 p2 p3, po_42 hN v vd p1 p2 p3, hN.next⟩
theorem inv0 : INV 0 (dX0, []) dM0 := by
  have zs : ∀ (g : Nat → Int32) (n : Nat), (∀ j, g j = 0) → sumTo g n = 0 := by
    intro g n hg
    induction n with
    | zero => rfl
    | succ n ih => rw [sumTo, ih, hg]; rfl
  have hI : Inv 0 (fun _ _ => 0) := by
    have e1 : cR (fun _ _ => 0) = 0 := by unfold cR; decide
    have e2 : cE (fun _ _ => 0) = 0 := by unfold cE; decide
    have e3 : cS (fun _ _ => 0) = 0 := by unfold cS; decide
    refine ⟨⟨⟨?_, ?_⟩, ⟨?_, ?_⟩, ?_, ?_⟩, ?_, ?_, ?_, ⟨?_, ?_, ?_⟩, ?_, ?_, ?_⟩
    · rw [e1]; rfl
    · rw [e1]; omega
    · rw [e2]; rfl
    · rw [e2]; omega
    · rw [e3]; rfl
    · rw [e3]; omega
    · intro j hj; rw [e1] at hj; omega
    · intro j hj; rw [e2] at hj; omega
    · intro j hj; rw [e3] at hj; omega
    · intro j _ _; exact ⟨rfl, rfl⟩
    · intro j _ _; exact ⟨rfl, rfl⟩
    · intro j _ _; exact ⟨rfl, rfl⟩
    · unfold IvD; rw [e2]; rfl
    · exact (zs _ 6 (fun _ => rfl)).symm
    · exact (zs _ 8 (fun _ => rfl)).symm
  have x0 : ∀ (b : Nat), b + 17 ≤ 190 → RX b dX0 (fun _ _ => 0) := by
    intro b hb i j ok
    have hi : i < 17 := by unfold okS at ok; omega
    show dX0 (b + i) j = 0
    unfold dX0
    rw [if_neg (by omega), if_neg (by omega)]
  have m0 : ∀ (k o : Nat), 0 < k → RM (dM0 k) o (fun _ _ => 0) := by
    intro k o hk i j _
    show dM0 k (o + ixS i j) = 0
    unfold dM0
    rw [if_neg (by omega)]
  refine ⟨⟨_, x0 1 (by decide), m0 1 0 (by decide), hI⟩, ⟨_, x0 35 (by decide), m0 3 0 (by decide), hI⟩, ⟨0, 0, fun _ _ _ => 0, ⟨by decide, by decide, rfl, rfl, fun k hk => absurd hk (Nat.not_lt_zero k)⟩, ⟨rfl, by decide, fun k hk => absurd hk (Nat.not_lt_zero k)⟩, fun k hk => absurd hk (Nat.not_lt_zero k)⟩, rfl, Or.inl ⟨rfl, rfl, rfl⟩, rfl, ⟨0, by decide, rfl, rfl, fun k hk => absurd hk (Nat.not_lt_zero k)⟩, ⟨by decide, rfl, fun k hk => absurd hk (Nat.not_lt_zero k)⟩⟩

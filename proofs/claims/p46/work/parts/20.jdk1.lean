theorem dJ6_bitCount_0f7a4_0 : decode cJ6_bitCount_0f7a4 0 = .ok (.iload_n 0, 1) := by decide +kernel
theorem dJ6_bitCount_0f7a4_1 : decode cJ6_bitCount_0f7a4 1 = .ok (.iload_n 0, 1) := by decide +kernel
theorem dJ6_bitCount_0f7a4_2 : decode cJ6_bitCount_0f7a4 2 = .ok (.iconst 1, 1) := by decide +kernel
theorem dJ6_bitCount_0f7a4_3 : decode cJ6_bitCount_0f7a4 3 = .ok (.iushr, 1) := by decide +kernel
theorem dJ6_bitCount_0f7a4_4 : decode cJ6_bitCount_0f7a4 4 = .ok (.ldc_w 265, 3) := by decide +kernel
theorem dJ6_bitCount_0f7a4_7 : decode cJ6_bitCount_0f7a4 7 = .ok (.iand, 1) := by decide +kernel
theorem dJ6_bitCount_0f7a4_8 : decode cJ6_bitCount_0f7a4 8 = .ok (.isub, 1) := by decide +kernel
theorem dJ6_bitCount_0f7a4_9 : decode cJ6_bitCount_0f7a4 9 = .ok (.istore_n 0, 1) := by decide +kernel
theorem dJ6_bitCount_0f7a4_10 : decode cJ6_bitCount_0f7a4 10 = .ok (.iload_n 0, 1) := by decide +kernel
theorem dJ6_bitCount_0f7a4_11 : decode cJ6_bitCount_0f7a4 11 = .ok (.ldc_w 266, 3) := by decide +kernel
theorem dJ6_bitCount_0f7a4_14 : decode cJ6_bitCount_0f7a4 14 = .ok (.iand, 1) := by decide +kernel
theorem dJ6_bitCount_0f7a4_15 : decode cJ6_bitCount_0f7a4 15 = .ok (.iload_n 0, 1) := by decide +kernel
theorem dJ6_bitCount_0f7a4_16 : decode cJ6_bitCount_0f7a4 16 = .ok (.iconst 2, 1) := by decide +kernel
theorem dJ6_bitCount_0f7a4_17 : decode cJ6_bitCount_0f7a4 17 = .ok (.iushr, 1) := by decide +kernel
theorem dJ6_bitCount_0f7a4_18 : decode cJ6_bitCount_0f7a4 18 = .ok (.ldc_w 266, 3) := by decide +kernel
theorem dJ6_bitCount_0f7a4_21 : decode cJ6_bitCount_0f7a4 21 = .ok (.iand, 1) := by decide +kernel
theorem dJ6_bitCount_0f7a4_22 : decode cJ6_bitCount_0f7a4 22 = .ok (.iadd, 1) := by decide +kernel
theorem dJ6_bitCount_0f7a4_23 : decode cJ6_bitCount_0f7a4 23 = .ok (.istore_n 0, 1) := by decide +kernel
theorem dJ6_bitCount_0f7a4_24 : decode cJ6_bitCount_0f7a4 24 = .ok (.iload_n 0, 1) := by decide +kernel
theorem dJ6_bitCount_0f7a4_25 : decode cJ6_bitCount_0f7a4 25 = .ok (.iload_n 0, 1) := by decide +kernel
theorem dJ6_bitCount_0f7a4_26 : decode cJ6_bitCount_0f7a4 26 = .ok (.iconst 4, 1) := by decide +kernel
theorem dJ6_bitCount_0f7a4_27 : decode cJ6_bitCount_0f7a4 27 = .ok (.iushr, 1) := by decide +kernel
theorem dJ6_bitCount_0f7a4_28 : decode cJ6_bitCount_0f7a4 28 = .ok (.iadd, 1) := by decide +kernel
theorem dJ6_bitCount_0f7a4_29 : decode cJ6_bitCount_0f7a4 29 = .ok (.ldc_w 267, 3) := by decide +kernel
theorem dJ6_bitCount_0f7a4_32 : decode cJ6_bitCount_0f7a4 32 = .ok (.iand, 1) := by decide +kernel
theorem dJ6_bitCount_0f7a4_33 : decode cJ6_bitCount_0f7a4 33 = .ok (.istore_n 0, 1) := by decide +kernel
theorem dJ6_bitCount_0f7a4_34 : decode cJ6_bitCount_0f7a4 34 = .ok (.iload_n 0, 1) := by decide +kernel
theorem dJ6_bitCount_0f7a4_35 : decode cJ6_bitCount_0f7a4 35 = .ok (.iload_n 0, 1) := by decide +kernel
theorem dJ6_bitCount_0f7a4_36 : decode cJ6_bitCount_0f7a4 36 = .ok (.bipush 8, 2) := by decide +kernel
theorem dJ6_bitCount_0f7a4_38 : decode cJ6_bitCount_0f7a4 38 = .ok (.iushr, 1) := by decide +kernel
theorem dJ6_bitCount_0f7a4_39 : decode cJ6_bitCount_0f7a4 39 = .ok (.iadd, 1) := by decide +kernel
theorem dJ6_bitCount_0f7a4_40 : decode cJ6_bitCount_0f7a4 40 = .ok (.istore_n 0, 1) := by decide +kernel
theorem dJ6_bitCount_0f7a4_41 : decode cJ6_bitCount_0f7a4 41 = .ok (.iload_n 0, 1) := by decide +kernel
theorem dJ6_bitCount_0f7a4_42 : decode cJ6_bitCount_0f7a4 42 = .ok (.iload_n 0, 1) := by decide +kernel
theorem dJ6_bitCount_0f7a4_43 : decode cJ6_bitCount_0f7a4 43 = .ok (.bipush 16, 2) := by decide +kernel
theorem dJ6_bitCount_0f7a4_45 : decode cJ6_bitCount_0f7a4 45 = .ok (.iushr, 1) := by decide +kernel
theorem dJ6_bitCount_0f7a4_46 : decode cJ6_bitCount_0f7a4 46 = .ok (.iadd, 1) := by decide +kernel
theorem dJ6_bitCount_0f7a4_47 : decode cJ6_bitCount_0f7a4 47 = .ok (.istore_n 0, 1) := by decide +kernel
theorem dJ6_bitCount_0f7a4_48 : decode cJ6_bitCount_0f7a4 48 = .ok (.iload_n 0, 1) := by decide +kernel
theorem dJ6_bitCount_0f7a4_49 : decode cJ6_bitCount_0f7a4 49 = .ok (.bipush 63, 2) := by decide +kernel
theorem dJ6_bitCount_0f7a4_51 : decode cJ6_bitCount_0f7a4 51 = .ok (.iand, 1) := by decide +kernel
theorem dJ6_bitCount_0f7a4_52 : decode cJ6_bitCount_0f7a4 52 = .ok (.ireturn, 1) := by decide +kernel
theorem sm_J6_bitCount_0f7a4 : aSm yJ6_bitCount_0f7a4 cJ6_bitCount_0f7a4 1 (some .int) 1 := ⟨tw_493, tw_492, tw_17, by decide +kernel, by decide +kernel, by decide +kernel⟩
def w_J6_bitCount_0f7a4 (x1 : Int32) (q : aS) (P : Int32 → aS → Prop) : Prop := ∀ x2 : Int32, x2 = (x1 - ((ushr x1 1) &&& 1431655765)) → ∀ x3 : Int32, x3 = ((x2 &&& 858993459) + ((ushr x2 2) &&& 858993459)) → ∀ x4 : Int32, x4 = ((x3 + (ushr x3 4)) &&& 252645135) → ∀ x5 : Int32, x5 = (x4 + (ushr x4 8)) → ∀ x6 : Int32, x6 = (x5 + (ushr x5 16)) → P (x6 &&& 63) q
set_option maxRecDepth 20000 in
theorem t_J6_bitCount_0f7a4 {l : Launch} {g : aG} (hX : gCl g) (hl : l.stackTraces = false) (x1 : Int32) (q : aS) (P : Int32 → aS → Prop) (h : w_J6_bitCount_0f7a4 x1 q P) : aMi l g yJ6_bitCount_0f7a4 (aWs yJ6_bitCount_0f7a4 cJ6_bitCount_0f7a4 1 (some .int)) 0 0 0 [.int x1] q P (fun _ _ => False) := by
  refine aMi_of RJ6 ⟨by decide +kernel, rfl⟩ (cat_all rfl) (Nat.le_of_ble_eq_true rfl) hl hX (fun f hR hC hE => ?_)
  show AW f g 0 [some (.int x1)] [] q 0 0
  unfold w_J6_bitCount_0f7a4 at h
  refine a_iload_n (pc := 0) hC dJ6_bitCount_0f7a4_0 rfl ?_
  refine a_iload_n (pc := 1) hC dJ6_bitCount_0f7a4_1 rfl ?_
  refine a_iconst (pc := 2) hC dJ6_bitCount_0f7a4_2 (v := 1) rfl ?_
  refine a_iushr (pc := 3) hC dJ6_bitCount_0f7a4_3 ?_
  refine a_ldcwI (pc := 4) hC tw_494 dJ6_bitCount_0f7a4_4 ?_
  refine a_iand (pc := 7) hC dJ6_bitCount_0f7a4_7 ?_
  refine a_isub (pc := 8) hC dJ6_bitCount_0f7a4_8 ?_
  refine a_istore_n (pc := 9) hC dJ6_bitCount_0f7a4_9 (Nat.le_of_ble_eq_true rfl) ?_
  replace h := h _ rfl
  refine a_iload_n (pc := 10) hC dJ6_bitCount_0f7a4_10 rfl ?_
  refine a_ldcwI (pc := 11) hC tw_495 dJ6_bitCount_0f7a4_11 ?_
  refine a_iand (pc := 14) hC dJ6_bitCount_0f7a4_14 ?_
  refine a_iload_n (pc := 15) hC dJ6_bitCount_0f7a4_15 rfl ?_
  refine a_iconst (pc := 16) hC dJ6_bitCount_0f7a4_16 (v := 2) rfl ?_
  refine a_iushr (pc := 17) hC dJ6_bitCount_0f7a4_17 ?_
  refine a_ldcwI (pc := 18) hC tw_495 dJ6_bitCount_0f7a4_18 ?_
  refine a_iand (pc := 21) hC dJ6_bitCount_0f7a4_21 ?_
  refine a_iadd (pc := 22) hC dJ6_bitCount_0f7a4_22 ?_
  refine a_istore_n (pc := 23) hC dJ6_bitCount_0f7a4_23 (Nat.le_of_ble_eq_true rfl) ?_
  replace h := h _ rfl
  refine a_iload_n (pc := 24) hC dJ6_bitCount_0f7a4_24 rfl ?_
  refine a_iload_n (pc := 25) hC dJ6_bitCount_0f7a4_25 rfl ?_
  refine a_iconst (pc := 26) hC dJ6_bitCount_0f7a4_26 (v := 4) rfl ?_
  refine a_iushr (pc := 27) hC dJ6_bitCount_0f7a4_27 ?_
  refine a_iadd (pc := 28) hC dJ6_bitCount_0f7a4_28 ?_
  refine a_ldcwI (pc := 29) hC tw_496 dJ6_bitCount_0f7a4_29 ?_
  refine a_iand (pc := 32) hC dJ6_bitCount_0f7a4_32 ?_
  refine a_istore_n (pc := 33) hC dJ6_bitCount_0f7a4_33 (Nat.le_of_ble_eq_true rfl) ?_
  replace h := h _ rfl
  refine a_iload_n (pc := 34) hC dJ6_bitCount_0f7a4_34 rfl ?_
  refine a_iload_n (pc := 35) hC dJ6_bitCount_0f7a4_35 rfl ?_
  refine a_bipush (pc := 36) hC dJ6_bitCount_0f7a4_36 (v := 8) rfl ?_
  refine a_iushr (pc := 38) hC dJ6_bitCount_0f7a4_38 ?_
  refine a_iadd (pc := 39) hC dJ6_bitCount_0f7a4_39 ?_
  refine a_istore_n (pc := 40) hC dJ6_bitCount_0f7a4_40 (Nat.le_of_ble_eq_true rfl) ?_
  replace h := h _ rfl
  refine a_iload_n (pc := 41) hC dJ6_bitCount_0f7a4_41 rfl ?_
  refine a_iload_n (pc := 42) hC dJ6_bitCount_0f7a4_42 rfl ?_
  refine a_bipush (pc := 43) hC dJ6_bitCount_0f7a4_43 (v := 16) rfl ?_
  refine a_iushr (pc := 45) hC dJ6_bitCount_0f7a4_45 ?_
  refine a_iadd (pc := 46) hC dJ6_bitCount_0f7a4_46 ?_
  refine a_istore_n (pc := 47) hC dJ6_bitCount_0f7a4_47 (Nat.le_of_ble_eq_true rfl) ?_
  replace h := h _ rfl
  refine a_iload_n (pc := 48) hC dJ6_bitCount_0f7a4_48 rfl ?_
  refine a_bipush (pc := 49) hC dJ6_bitCount_0f7a4_49 (v := 63) rfl ?_
  refine a_iand (pc := 51) hC dJ6_bitCount_0f7a4_51 ?_
  exact a_iret (pc := 52) hC hE h (Nat.le_of_ble_eq_true rfl) (Nat.le_of_ble_eq_true rfl) dJ6_bitCount_0f7a4_52

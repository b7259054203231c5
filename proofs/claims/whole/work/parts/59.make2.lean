def dM0 : Nat → Nat → Int32 := fun k i => if k = 0 then (if i = 10 then -1 else 0) else 0
def dX0 : Nat → Nat → Int32 := fun k i => if k = 190 then (if i = 2 then -1 else 0) else if k = 192 then 9 else 0
def eX (ad kd : Nat → Nat) (c : Nat → ClassId) (F G H : Nat → Option Nat) (k : Nat) : va_E :=
  if k = 53 then .inl (c 2, (8, .inr (.inr (.inr (.inr F))))) else if k = 192 then .inl (c 3, (10, .inr (.inr (.inr (.inr G))))) else if k = 193 then .inl (c 4, (10, .inr (.inr (.inr (.inr H))))) else shX ad kd c k (dX0 k)
theorem dX10_init_0 : decode cX10_init 0 = .ok (.aload_n 0, 1) := by decide +kernel
theorem dX10_init_1 : decode cX10_init 1 = .ok (.invokespecial 3, 3) := by decide +kernel
theorem dX10_init_4 : decode cX10_init 4 = .ok (.aload_n 0, 1) := by decide +kernel
theorem dX10_init_5 : decode cX10_init 5 = .ok (.bipush 97, 2) := by decide +kernel
theorem dX10_init_7 : decode cX10_init 7 = .ok (.newarray .int, 2) := by decide +kernel
theorem dX10_init_9 : decode cX10_init 9 = .ok (.putfield 9, 3) := by decide +kernel
theorem dX10_init_12 : decode cX10_init 12 = .ok (.aload_n 0, 1) := by decide +kernel
theorem dX10_init_13 : decode cX10_init 13 = .ok (.bipush 97, 2) := by decide +kernel
theorem dX10_init_15 : decode cX10_init 15 = .ok (.newarray .int, 2) := by decide +kernel
theorem dX10_init_17 : decode cX10_init 17 = .ok (.putfield 13, 3) := by decide +kernel
theorem dX10_init_20 : decode cX10_init 20 = .ok (.aload_n 0, 1) := by decide +kernel
theorem dX10_init_21 : decode cX10_init 21 = .ok (.bipush 97, 2) := by decide +kernel
theorem dX10_init_23 : decode cX10_init 23 = .ok (.newarray .int, 2) := by decide +kernel
theorem dX10_init_25 : decode cX10_init 25 = .ok (.putfield 16, 3) := by decide +kernel
theorem dX10_init_28 : decode cX10_init 28 = .ok (.aload_n 0, 1) := by decide +kernel
theorem dX10_init_29 : decode cX10_init 29 = .ok (.sipush 776, 3) := by decide +kernel
theorem dX10_init_32 : decode cX10_init 32 = .ok (.newarray .int, 2) := by decide +kernel
theorem dX10_init_34 : decode cX10_init 34 = .ok (.putfield 19, 3) := by decide +kernel
theorem dX10_init_37 : decode cX10_init 37 = .ok (.aload_n 0, 1) := by decide +kernel
theorem dX10_init_38 : decode cX10_init 38 = .ok (.iconst (-1), 1) := by decide +kernel
theorem dX10_init_39 : decode cX10_init 39 = .ok (.putfield 22, 3) := by decide +kernel
theorem dX10_init_42 : decode cX10_init 42 = .ok (.aload_n 0, 1) := by decide +kernel
theorem dX10_init_43 : decode cX10_init 43 = .ok (.bipush 60, 2) := by decide +kernel
theorem dX10_init_45 : decode cX10_init 45 = .ok (.newarray .int, 2) := by decide +kernel
theorem dX10_init_47 : decode cX10_init 47 = .ok (.putfield 26, 3) := by decide +kernel
theorem dX10_init_50 : decode cX10_init 50 = .ok (.aload_n 0, 1) := by decide +kernel
theorem dX10_init_51 : decode cX10_init 51 = .ok (.bipush 60, 2) := by decide +kernel
theorem dX10_init_53 : decode cX10_init 53 = .ok (.newarray .int, 2) := by decide +kernel
theorem dX10_init_55 : decode cX10_init 55 = .ok (.putfield 29, 3) := by decide +kernel
theorem dX10_init_58 : decode cX10_init 58 = .ok (.aload_n 0, 1) := by decide +kernel
theorem dX10_init_59 : decode cX10_init 59 = .ok (.bipush 120, 2) := by decide +kernel
theorem dX10_init_61 : decode cX10_init 61 = .ok (.newarray .int, 2) := by decide +kernel
theorem dX10_init_63 : decode cX10_init 63 = .ok (.putfield 32, 3) := by decide +kernel
theorem dX10_init_66 : decode cX10_init 66 = .ok (.aload_n 0, 1) := by decide +kernel
theorem dX10_init_67 : decode cX10_init 67 = .ok (.iconst (-1), 1) := by decide +kernel
theorem dX10_init_68 : decode cX10_init 68 = .ok (.putfield 22, 3) := by decide +kernel
theorem dX10_init_71 : decode cX10_init 71 = .ok (.return_, 1) := by decide +kernel
theorem nm_X10_init : nIm yX10_init cX10_init 1 0 := ⟨tw_1502, tw_1501, tw_15, rfl, by decide +kernel, by decide +kernel, by decide +kernel⟩
set_option maxRecDepth 20000 in
theorem k_X10_init {l : Launch} {z : lP} (ht : z.2.1.map Prod.snd = tyX) (hl : l.stackTraces = false) (o : Nat) (pre : va_W) : nMet l z yX10_init (aWs yX10_init cX10_init 1 none) 1 7 1307 [.ref o] (pre ++ [(o, .inr (12, [.null, .null, .null, .null, .int 0, .int 0, .int 0, .int 0, .int 0, .int 0, .int 0, .null, .int 0, .null, .int 0, .int 0, .int 0, .int 0, .int 0, .int 0, .int 0, .int 0, .null]))]) (fun W => ∃ ad : Nat → Nat, ad 0 = o ∧ W = pre ++ (List.range 8).map (fun k => (ad k, shM ad (lc z) k (dM0 k)))) := by
  refine nMet_of RX10 ⟨by decide +kernel, rfl⟩ rfl (cat_all rfl) (Nat.le_of_ble_eq_true rfl) hl (fun f hR hin hC hE => ?_)
  have hR1 := lRoom_of hR
  show AW f (nG z (pre ++ [(o, .inr (12, [.null, .null, .null, .null, .int 0, .int 0, .int 0, .int 0, .int 0, .int 0, .int 0, .null, .int 0, .null, .int 0, .int 0, .int 0, .int 0, .int 0, .int 0, .int 0, .int 0, .null]))])) 0 [some (.ref o)] [] q0 0 0
  refine a_aload_n (pc := 0) (nOK hC _) dX10_init_0 rfl ?_
  refine n_obj (pc := 1) (nOK hC _) hR1 (by omega) rfl tw_1503 tw_42 tw_43 (Nat.le_of_ble_eq_true rfl) dX10_init_1 ?_
  refine a_aload_n (pc := 4) (nOK hC _) dX10_init_4 rfl ?_
  refine a_bipush (pc := 5) (nOK hC _) dX10_init_5 (v := 97) rfl ?_
  refine n_newa (pc := 7) (atype := .int) (N' := 97) (a0 := (97, .inl (fun _ => 0))) (nOK hC _) ht hR1 0 rfl rfl tw_77 rfl (fun _ => rfl) (by decide) rfl (by decide) (by omega) (by omega) dX10_init_7 (fun q1 => ?_)
  refine n_putF (pc := 9) (nOK hC _) hin cl_X10 tyX10 tyX10_ok 0 (fs := [.null, .null, .null, .null, .int 0, .int 0, .int 0, .int 0, .int 0, .int 0, .int 0, .null, .int 0, .null, .int 0, .int 0, .int 0, .int 0, .int 0, .int 0, .int 0, .int 0, .null]) rfl 0 (by decide) tw_1504 rfl rfl rfl rfl (Nat.le_of_ble_eq_true rfl) dX10_init_9 ?_
  refine a_aload_n (pc := 12) (nOK hC _) dX10_init_12 rfl ?_
  refine a_bipush (pc := 13) (nOK hC _) dX10_init_13 (v := 97) rfl ?_
  refine n_newa (pc := 15) (atype := .int) (N' := 97) (a0 := (97, .inl (fun _ => 0))) (nOK hC _) ht hR1 0 rfl rfl tw_77 rfl (fun _ => rfl) (by decide) rfl (by decide) (by omega) (by omega) dX10_init_15 (fun q2 => ?_)
  refine n_putF (pc := 17) (nOK hC _) hin cl_X10 tyX10 tyX10_ok 0 (fs := [.ref q1, .null, .null, .null, .int 0, .int 0, .int 0, .int 0, .int 0, .int 0, .int 0, .null, .int 0, .null, .int 0, .int 0, .int 0, .int 0, .int 0, .int 0, .int 0, .int 0, .null]) rfl 1 (by decide) tw_1505 rfl rfl rfl rfl (Nat.le_of_ble_eq_true rfl) dX10_init_17 ?_
  refine a_aload_n (pc := 20) (nOK hC _) dX10_init_20 rfl ?_
  refine a_bipush (pc := 21) (nOK hC _) dX10_init_21 (v := 97) rfl ?_
  refine n_newa (pc := 23) (atype := .int) (N' := 97) (a0 := (97, .inl (fun _ => 0))) (nOK hC _) ht hR1 0 rfl rfl tw_77 rfl (fun _ => rfl) (by decide) rfl (by decide) (by omega) (by omega) dX10_init_23 (fun q3 => ?_)
  refine n_putF (pc := 25) (nOK hC _) hin cl_X10 tyX10 tyX10_ok 0 (fs := [.ref q1, .ref q2, .null, .null, .int 0, .int 0, .int 0, .int 0, .int 0, .int 0, .int 0, .null, .int 0, .null, .int 0, .int 0, .int 0, .int 0, .int 0, .int 0, .int 0, .int 0, .null]) rfl 2 (by decide) tw_1506 rfl rfl rfl rfl (Nat.le_of_ble_eq_true rfl) dX10_init_25 ?_
  refine a_aload_n (pc := 28) (nOK hC _) dX10_init_28 rfl ?_
  refine a_sipush (pc := 29) (nOK hC _) dX10_init_29 (v := 776) rfl ?_
  refine n_newa (pc := 32) (atype := .int) (N' := 776) (a0 := (776, .inl (fun _ => 0))) (nOK hC _) ht hR1 0 rfl rfl tw_77 rfl (fun _ => rfl) (by decide) rfl (by decide) (by omega) (by omega) dX10_init_32 (fun q4 => ?_)
  refine n_putF (pc := 34) (nOK hC _) hin cl_X10 tyX10 tyX10_ok 0 (fs := [.ref q1, .ref q2, .ref q3, .null, .int 0, .int 0, .int 0, .int 0, .int 0, .int 0, .int 0, .null, .int 0, .null, .int 0, .int 0, .int 0, .int 0, .int 0, .int 0, .int 0, .int 0, .null]) rfl 3 (by decide) tw_1507 rfl rfl rfl rfl (Nat.le_of_ble_eq_true rfl) dX10_init_34 ?_
  refine a_aload_n (pc := 37) (nOK hC _) dX10_init_37 rfl ?_
  refine a_iconst (pc := 38) (nOK hC _) dX10_init_38 (v := (-1)) rfl ?_
  refine n_put (pc := 39) (nOK hC _) cl_X10 tyX10 tyX10_ok 0 (fs := [.ref q1, .ref q2, .ref q3, .ref q4, .int 0, .int 0, .int 0, .int 0, .int 0, .int 0, .int 0, .null, .int 0, .null, .int 0, .int 0, .int 0, .int 0, .int 0, .int 0, .int 0, .int 0, .null]) rfl 10 (by decide) tw_1514 rfl rfl rfl (Nat.le_of_ble_eq_true rfl) dX10_init_39 ?_
  refine a_aload_n (pc := 42) (nOK hC _) dX10_init_42 rfl ?_
  refine a_bipush (pc := 43) (nOK hC _) dX10_init_43 (v := 60) rfl ?_
  refine n_newa (pc := 45) (atype := .int) (N' := 60) (a0 := (60, .inl (fun _ => 0))) (nOK hC _) ht hR1 0 rfl rfl tw_77 rfl (fun _ => rfl) (by decide) rfl (by decide) (by omega) (by omega) dX10_init_45 (fun q5 => ?_)
  refine n_putF (pc := 47) (nOK hC _) hin cl_X10 tyX10 tyX10_ok 0 (fs := [.ref q1, .ref q2, .ref q3, .ref q4, .int 0, .int 0, .int 0, .int 0, .int 0, .int 0, .int (-1), .null, .int 0, .null, .int 0, .int 0, .int 0, .int 0, .int 0, .int 0, .int 0, .int 0, .null]) rfl 11 (by decide) tw_1515 rfl rfl rfl rfl (Nat.le_of_ble_eq_true rfl) dX10_init_47 ?_
  refine a_aload_n (pc := 50) (nOK hC _) dX10_init_50 rfl ?_
  refine a_bipush (pc := 51) (nOK hC _) dX10_init_51 (v := 60) rfl ?_
  refine n_newa (pc := 53) (atype := .int) (N' := 60) (a0 := (60, .inl (fun _ => 0))) (nOK hC _) ht hR1 0 rfl rfl tw_77 rfl (fun _ => rfl) (by decide) rfl (by decide) (by omega) (by omega) dX10_init_53 (fun q6 => ?_)
  refine n_putF (pc := 55) (nOK hC _) hin cl_X10 tyX10 tyX10_ok 0 (fs := [.ref q1, .ref q2, .ref q3, .ref q4, .int 0, .int 0, .int 0, .int 0, .int 0, .int 0, .int (-1), .ref q5, .int 0, .null, .int 0, .int 0, .int 0, .int 0, .int 0, .int 0, .int 0, .int 0, .null]) rfl 13 (by decide) tw_1517 rfl rfl rfl rfl (Nat.le_of_ble_eq_true rfl) dX10_init_55 ?_
  refine a_aload_n (pc := 58) (nOK hC _) dX10_init_58 rfl ?_
  refine a_bipush (pc := 59) (nOK hC _) dX10_init_59 (v := 120) rfl ?_
  refine n_newa (pc := 61) (atype := .int) (N' := 120) (a0 := (120, .inl (fun _ => 0))) (nOK hC _) ht hR1 0 rfl rfl tw_77 rfl (fun _ => rfl) (by decide) rfl (by decide) (by omega) (by omega) dX10_init_61 (fun q7 => ?_)
  refine n_putF (pc := 63) (nOK hC _) hin cl_X10 tyX10 tyX10_ok 0 (fs := [.ref q1, .ref q2, .ref q3, .ref q4, .int 0, .int 0, .int 0, .int 0, .int 0, .int 0, .int (-1), .ref q5, .int 0, .ref q6, .int 0, .int 0, .int 0, .int 0, .int 0, .int 0, .int 0, .int 0, .null]) rfl 22 (by decide) tw_1526 rfl rfl rfl rfl (Nat.le_of_ble_eq_true rfl) dX10_init_63 ?_
  refine a_aload_n (pc := 66) (nOK hC _) dX10_init_66 rfl ?_
  refine a_iconst (pc := 67) (nOK hC _) dX10_init_67 (v := (-1)) rfl ?_
  refine n_put (pc := 68) (nOK hC _) cl_X10 tyX10 tyX10_ok 0 (fs := [.ref q1, .ref q2, .ref q3, .ref q4, .int 0, .int 0, .int 0, .int 0, .int 0, .int 0, .int (-1), .ref q5, .int 0, .ref q6, .int 0, .int 0, .int 0, .int 0, .int 0, .int 0, .int 0, .int 0, .ref q7]) rfl 10 (by decide) tw_1514 rfl rfl rfl (Nat.le_of_ble_eq_true rfl) dX10_init_68 ?_
  exact n_vret (pc := 71) (nOK hC _) hE ⟨fun j => if j = 0 then o else if j = 1 then q1 else if j = 2 then q2 else if j = 3 then q3 else if j = 4 then q4 else if j = 5 then q5 else if j = 6 then q6 else q7, rfl, rfl⟩ (by omega) (by omega) dX10_init_71
theorem dX9_init_0 : decode cX9_init 0 = .ok (.aload_n 0, 1) := by decide +kernel
theorem dX9_init_1 : decode cX9_init 1 = .ok (.invokespecial 1, 3) := by decide +kernel
theorem dX9_init_4 : decode cX9_init 4 = .ok (.aload_n 0, 1) := by decide +kernel
theorem dX9_init_5 : decode cX9_init 5 = .ok (.new 7, 3) := by decide +kernel
theorem dX9_init_8 : decode cX9_init 8 = .ok (.dup, 1) := by decide +kernel
theorem dX9_init_9 : decode cX9_init 9 = .ok (.invokespecial 9, 3) := by decide +kernel
theorem dX9_init_12 : decode cX9_init 12 = .ok (.putfield 10, 3) := by decide +kernel
theorem dX9_init_15 : decode cX9_init 15 = .ok (.aload_n 0, 1) := by decide +kernel
theorem dX9_init_16 : decode cX9_init 16 = .ok (.new 7, 3) := by decide +kernel
theorem dX9_init_19 : decode cX9_init 19 = .ok (.dup, 1) := by decide +kernel
theorem dX9_init_20 : decode cX9_init 20 = .ok (.invokespecial 9, 3) := by decide +kernel
theorem dX9_init_23 : decode cX9_init 23 = .ok (.putfield 16, 3) := by decide +kernel
theorem dX9_init_26 : decode cX9_init 26 = .ok (.aload_n 0, 1) := by decide +kernel
theorem dX9_init_27 : decode cX9_init 27 = .ok (.new 7, 3) := by decide +kernel
theorem dX9_init_30 : decode cX9_init 30 = .ok (.dup, 1) := by decide +kernel
theorem dX9_init_31 : decode cX9_init 31 = .ok (.invokespecial 9, 3) := by decide +kernel
theorem dX9_init_34 : decode cX9_init 34 = .ok (.putfield 19, 3) := by decide +kernel
theorem dX9_init_37 : decode cX9_init 37 = .ok (.aload_n 0, 1) := by decide +kernel
theorem dX9_init_38 : decode cX9_init 38 = .ok (.new 22, 3) := by decide +kernel
theorem dX9_init_41 : decode cX9_init 41 = .ok (.dup, 1) := by decide +kernel
theorem dX9_init_42 : decode cX9_init 42 = .ok (.invokespecial 24, 3) := by decide +kernel
theorem dX9_init_45 : decode cX9_init 45 = .ok (.putfield 25, 3) := by decide +kernel
theorem dX9_init_48 : decode cX9_init 48 = .ok (.aload_n 0, 1) := by decide +kernel
theorem dX9_init_49 : decode cX9_init 49 = .ok (.new 29, 3) := by decide +kernel
theorem dX9_init_52 : decode cX9_init 52 = .ok (.dup, 1) := by decide +kernel
theorem dX9_init_53 : decode cX9_init 53 = .ok (.invokespecial 31, 3) := by decide +kernel
theorem dX9_init_56 : decode cX9_init 56 = .ok (.putfield 32, 3) := by decide +kernel
theorem dX9_init_59 : decode cX9_init 59 = .ok (.aload_n 0, 1) := by decide +kernel
theorem dX9_init_60 : decode cX9_init 60 = .ok (.new 36, 3) := by decide +kernel
theorem dX9_init_63 : decode cX9_init 63 = .ok (.dup, 1) := by decide +kernel
theorem dX9_init_64 : decode cX9_init 64 = .ok (.invokespecial 38, 3) := by decide +kernel
theorem dX9_init_67 : decode cX9_init 67 = .ok (.putfield 39, 3) := by decide +kernel
theorem dX9_init_70 : decode cX9_init 70 = .ok (.aload_n 0, 1) := by decide +kernel
theorem dX9_init_71 : decode cX9_init 71 = .ok (.new 43, 3) := by decide +kernel
theorem dX9_init_74 : decode cX9_init 74 = .ok (.dup, 1) := by decide +kernel
theorem dX9_init_75 : decode cX9_init 75 = .ok (.invokespecial 45, 3) := by decide +kernel
theorem dX9_init_78 : decode cX9_init 78 = .ok (.putfield 46, 3) := by decide +kernel
theorem dX9_init_81 : decode cX9_init 81 = .ok (.return_, 1) := by decide +kernel
theorem nm_X9_init : nIm yX9_init cX9_init 1 0 := ⟨tw_40, tw_39, tw_1, rfl, by decide +kernel, by decide +kernel, by decide +kernel⟩
set_option maxRecDepth 20000 in
theorem k_X9_init {l : Launch} {z : lP} (ht : z.2.1.map Prod.snd = tyX) (hl : l.stackTraces = false) (o : Nat) (pre : va_W) : nMet l z yX9_init (aWs yX9_init cX9_init 1 none) 4 206 1375 [.ref o] (pre ++ [(o, .inr (11, [.null, .null, .null, .int 0, .null, .null, .null, .null]))]) (fun W => ∃ (ad : Nat → Nat) (qv : Nat) (F G H : Nat → Option Nat), (∀ j, j < 8 → F j = some (ad (54 + 17 * j))) ∧ (∀ j, j < 10 → G j = some (z.2.2.2.2.1 9)) ∧ (∀ j, j < 10 → H j = some (ad (194 + j))) ∧ ad 0 = o ∧ W = pre ++ ((List.range 205).map (fun k => (ad k, eX ad z.2.2.2.2.1 (lc z) F G H k)) ++ [(ad 205, .inr (1, [.ref qv, .int 0, .int 0, .int 0])), (qv, .inl (lc z 5, (16, .inl (fun _ => 0))))])) := by
  refine nMet_of RX9 ⟨by decide +kernel, rfl⟩ rfl (cat_all rfl) (Nat.le_of_ble_eq_true rfl) hl (fun f hR hin hC hE => ?_)
  have hR1 := lRoom_of hR
  show AW f (nG z (pre ++ [(o, .inr (11, [.null, .null, .null, .int 0, .null, .null, .null, .null]))])) 0 [some (.ref o)] [] q0 0 0
  refine a_aload_n (pc := 0) (nOK hC _) dX9_init_0 rfl ?_
  refine n_obj (pc := 1) (nOK hC _) hR1 (by omega) rfl tw_41 tw_42 tw_43 (Nat.le_of_ble_eq_true rfl) dX9_init_1 ?_
  refine a_aload_n (pc := 4) (nOK hC _) dX9_init_4 rfl ?_
  refine n_new (pc := 5) (nOK hC _) hR1 cl_X8 tyX8 tyX8_ok tw_44 tw_45 tw_2 (fs := [.null, .null, .null, .int 0, .int 0, .int 0, .int 0]) (fun j hj => by rcases (show j = 0 ∨ j = 1 ∨ j = 2 ∨ j = 3 ∨ j = 4 ∨ j = 5 ∨ j = 6 by omega) with rfl | rfl | rfl | rfl | rfl | rfl | rfl <;> rfl) (by omega) (by omega) dX9_init_5 (fun p5_0 => ?_)
  refine a_dup (pc := 8) (nOK hC _) dX9_init_8 rfl ?_
  refine n_callN (pc := 9) (nOK hC _) hR1 nm_X8_init (List.mem_of_getElem? (i := 0) rfl) ⟨(Nat.le_of_ble_eq_true rfl), (Nat.le_of_ble_eq_true rfl), by omega, by omega⟩ dX9_init_9 (k_X8_init ht hC.tr _ _) rfl rfl rfl (Nat.le_of_ble_eq_true rfl) (fun W h => ?_)
  obtain ⟨x9_0, rfl, rfl⟩ := h
  rw [List.append_assoc]
  refine n_putF (pc := 12) (nOK hC _) hin cl_X9 tyX9 tyX9_ok 0 (fs := [.null, .null, .null, .int 0, .null, .null, .null, .null]) rfl 0 (by decide) tw_306 rfl rfl rfl rfl (Nat.le_of_ble_eq_true rfl) dX9_init_12 ?_
  refine a_aload_n (pc := 15) (nOK hC _) dX9_init_15 rfl ?_
  refine n_new (pc := 16) (nOK hC _) hR1 cl_X8 tyX8 tyX8_ok tw_44 tw_45 tw_2 (fs := [.null, .null, .null, .int 0, .int 0, .int 0, .int 0]) (fun j hj => by rcases (show j = 0 ∨ j = 1 ∨ j = 2 ∨ j = 3 ∨ j = 4 ∨ j = 5 ∨ j = 6 by omega) with rfl | rfl | rfl | rfl | rfl | rfl | rfl <;> rfl) (by omega) (by omega) dX9_init_16 (fun p16_0 => ?_)
  refine a_dup (pc := 19) (nOK hC _) dX9_init_19 rfl ?_
  refine n_callN (pc := 20) (nOK hC _) hR1 nm_X8_init (List.mem_of_getElem? (i := 0) rfl) ⟨(Nat.le_of_ble_eq_true rfl), (Nat.le_of_ble_eq_true rfl), by omega, by omega⟩ dX9_init_20 (k_X8_init ht hC.tr _ _) rfl rfl rfl (Nat.le_of_ble_eq_true rfl) (fun W h => ?_)
  obtain ⟨x20_0, rfl, rfl⟩ := h
  rw [List.append_assoc]
  refine n_putF (pc := 23) (nOK hC _) hin cl_X9 tyX9 tyX9_ok 0 (fs := [.ref (x9_0 0), .null, .null, .int 0, .null, .null, .null, .null]) rfl 1 (by decide) tw_307 rfl rfl rfl rfl (Nat.le_of_ble_eq_true rfl) dX9_init_23 ?_
  refine a_aload_n (pc := 26) (nOK hC _) dX9_init_26 rfl ?_
  refine n_new (pc := 27) (nOK hC _) hR1 cl_X8 tyX8 tyX8_ok tw_44 tw_45 tw_2 (fs := [.null, .null, .null, .int 0, .int 0, .int 0, .int 0]) (fun j hj => by rcases (show j = 0 ∨ j = 1 ∨ j = 2 ∨ j = 3 ∨ j = 4 ∨ j = 5 ∨ j = 6 by omega) with rfl | rfl | rfl | rfl | rfl | rfl | rfl <;> rfl) (by omega) (by omega) dX9_init_27 (fun p27_0 => ?_)
  refine a_dup (pc := 30) (nOK hC _) dX9_init_30 rfl ?_
  refine n_callN (pc := 31) (nOK hC _) hR1 nm_X8_init (List.mem_of_getElem? (i := 0) rfl) ⟨(Nat.le_of_ble_eq_true rfl), (Nat.le_of_ble_eq_true rfl), by omega, by omega⟩ dX9_init_31 (k_X8_init ht hC.tr _ _) rfl rfl rfl (Nat.le_of_ble_eq_true rfl) (fun W h => ?_)
  obtain ⟨x31_0, rfl, rfl⟩ := h
  rw [List.append_assoc]
  refine n_putF (pc := 34) (nOK hC _) hin cl_X9 tyX9 tyX9_ok 0 (fs := [.ref (x9_0 0), .ref (x20_0 0), .null, .int 0, .null, .null, .null, .null]) rfl 2 (by decide) tw_308 rfl rfl rfl rfl (Nat.le_of_ble_eq_true rfl) dX9_init_34 ?_
  refine a_aload_n (pc := 37) (nOK hC _) dX9_init_37 rfl ?_
  refine n_new (pc := 38) (nOK hC _) hR1 cl_X4 tyX4 tyX4_ok tw_181 tw_182 tw_6 (fs := [.null, .int 0, .int 0]) (fun j hj => by rcases (show j = 0 ∨ j = 1 ∨ j = 2 by omega) with rfl | rfl | rfl <;> rfl) (by omega) (by omega) dX9_init_38 (fun p38_0 => ?_)
  refine a_dup (pc := 41) (nOK hC _) dX9_init_41 rfl ?_
  refine n_call (pc := 42) (nOK hC _) hR1 nm_X4_init tw_183 ⟨(Nat.le_of_ble_eq_true rfl), (Nat.le_of_ble_eq_true rfl), by omega, by omega⟩ dX9_init_42 (k_X4_init ht hC.tr _ _) rfl rfl rfl (Nat.le_of_ble_eq_true rfl) (fun W h => ?_)
  obtain ⟨rx42_0, sx42_0, Fx42_0, hFx42_0, rfl⟩ := h
  rw [List.append_assoc]
  refine n_putF (pc := 45) (nOK hC _) hin cl_X9 tyX9 tyX9_ok 0 (fs := [.ref (x9_0 0), .ref (x20_0 0), .ref (x31_0 0), .int 0, .null, .null, .null, .null]) rfl 4 (by decide) tw_310 rfl rfl rfl rfl (Nat.le_of_ble_eq_true rfl) dX9_init_45 ?_
  refine a_aload_n (pc := 48) (nOK hC _) dX9_init_48 rfl ?_
  refine n_new (pc := 49) (nOK hC _) hR1 cl_X3 tyX3 tyX3_ok tw_201 tw_202 tw_7 (fs := [.null, .int 0, .int 0, .int 0, .null, .null, .int 0]) (fun j hj => by rcases (show j = 0 ∨ j = 1 ∨ j = 2 ∨ j = 3 ∨ j = 4 ∨ j = 5 ∨ j = 6 by omega) with rfl | rfl | rfl | rfl | rfl | rfl | rfl <;> rfl) (by omega) (by omega) dX9_init_49 (fun p49_0 => ?_)
  refine a_dup (pc := 52) (nOK hC _) dX9_init_52 rfl ?_
  refine n_call (pc := 53) (nOK hC _) hR1 nm_X3_init tw_203 ⟨(Nat.le_of_ble_eq_true rfl), (Nat.le_of_ble_eq_true rfl), by omega, by omega⟩ dX9_init_53 (k_X3_init ht hC.tr _ _) rfl rfl rfl (Nat.le_of_ble_eq_true rfl) (fun W h => ?_)
  obtain ⟨ax53_0, bx53_0, cx53_0, rx53_0, Fx53_0, hFx53_0, rfl⟩ := h
  rw [List.append_assoc]
  refine n_putF (pc := 56) (nOK hC _) hin cl_X9 tyX9 tyX9_ok 0 (fs := [.ref (x9_0 0), .ref (x20_0 0), .ref (x31_0 0), .int 0, .ref p38_0, .null, .null, .null]) rfl 5 (by decide) tw_311 rfl rfl rfl rfl (Nat.le_of_ble_eq_true rfl) dX9_init_56 ?_
  refine a_aload_n (pc := 59) (nOK hC _) dX9_init_59 rfl ?_
  refine n_new (pc := 60) (nOK hC _) hR1 cl_X5 tyX5 tyX5_ok tw_242 tw_243 tw_10 (fs := [.int 0, .int 0, .int 0, .int 0, .int 0, .int 0]) (fun j hj => by rcases (show j = 0 ∨ j = 1 ∨ j = 2 ∨ j = 3 ∨ j = 4 ∨ j = 5 by omega) with rfl | rfl | rfl | rfl | rfl | rfl <;> rfl) (by omega) (by omega) dX9_init_60 (fun p60_0 => ?_)
  refine a_dup (pc := 63) (nOK hC _) dX9_init_63 rfl ?_
  refine n_callN (pc := 64) (nOK hC _) hR1 nm_X5_init (List.mem_of_getElem? (i := 5) rfl) ⟨(Nat.le_of_ble_eq_true rfl), (Nat.le_of_ble_eq_true rfl), by omega, by omega⟩ dX9_init_64 (k_X5_init ht hC.tr _ _) rfl rfl rfl (Nat.le_of_ble_eq_true rfl) (fun W h => ?_)
  obtain ⟨rfl⟩ := h
  rw [List.append_assoc]
  refine n_putF (pc := 67) (nOK hC _) hin cl_X9 tyX9 tyX9_ok 0 (fs := [.ref (x9_0 0), .ref (x20_0 0), .ref (x31_0 0), .int 0, .ref p38_0, .ref p49_0, .null, .null]) rfl 6 (by decide) tw_312 rfl rfl rfl rfl (Nat.le_of_ble_eq_true rfl) dX9_init_67 ?_
  refine a_aload_n (pc := 70) (nOK hC _) dX9_init_70 rfl ?_
  refine n_new (pc := 71) (nOK hC _) hR1 cl_J4 tyJ4 tyJ4_ok tw_273 tw_274 tw_12 (fs := [.null, .int 0, .int 0, .int 0]) (fun j hj => by rcases (show j = 0 ∨ j = 1 ∨ j = 2 ∨ j = 3 by omega) with rfl | rfl | rfl | rfl <;> rfl) (by omega) (by omega) dX9_init_71 (fun p71_0 => ?_)
  refine a_dup (pc := 74) (nOK hC _) dX9_init_74 rfl ?_
  refine n_call (pc := 75) (nOK hC _) hR1 nm_J4_init_da8c8 tw_275 ⟨(Nat.le_of_ble_eq_true rfl), (Nat.le_of_ble_eq_true rfl), by omega, by omega⟩ dX9_init_75 (k_J4_init_da8c8 ht hC.tr _ _) rfl rfl rfl (Nat.le_of_ble_eq_true rfl) (fun W h => ?_)
  obtain ⟨x75_0, rfl⟩ := h
  rw [List.append_assoc]
  refine n_putF (pc := 78) (nOK hC _) hin cl_X9 tyX9 tyX9_ok 0 (fs := [.ref (x9_0 0), .ref (x20_0 0), .ref (x31_0 0), .int 0, .ref p38_0, .ref p49_0, .ref p60_0, .null]) rfl 7 (by decide) tw_313 rfl rfl rfl rfl (Nat.le_of_ble_eq_true rfl) dX9_init_78 ?_
  refine n_vret (pc := 81) (nOK hC _) hE ⟨fun k => if k = 0 then o else if k < 18 then x9_0 (k - 1) else if k < 35 then x20_0 (k - 18) else if k < 52 then x31_0 (k - 35) else if k = 52 then p38_0 else if k = 53 then rx42_0 else if k < 190 then sx42_0 (k - 54) else if k = 190 then p49_0 else if k = 191 then ax53_0 else if k = 192 then bx53_0 else if k = 193 then cx53_0 else if k < 204 then rx53_0 (k - 194) else if k = 204 then p60_0 else p71_0, x75_0, Fx42_0, Fx53_0, _, fun j hj => ?_, fun j hj => ?_, fun j hj => ?_, rfl, rfl⟩ (by omega) (by omega) dX9_init_81
  · rw [hFx42_0 j hj]; rcases (show j = 0 ∨ j = 1 ∨ j = 2 ∨ j = 3 ∨ j = 4 ∨ j = 5 ∨ j = 6 ∨ j = 7 by omega) with rfl | rfl | rfl | rfl | rfl | rfl | rfl | rfl <;> rfl
  · exact hFx53_0 j hj
  · rcases (show j = 0 ∨ j = 1 ∨ j = 2 ∨ j = 3 ∨ j = 4 ∨ j = 5 ∨ j = 6 ∨ j = 7 ∨ j = 8 ∨ j = 9 by omega) with rfl | rfl | rfl | rfl | rfl | rfl | rfl | rfl | rfl | rfl <;> rfl

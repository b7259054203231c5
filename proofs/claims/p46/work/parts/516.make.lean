theorem dX6_init_0 : decode cX6_init 0 = .ok (.aload_n 0, 1) := by decide +kernel
theorem dX6_init_1 : decode cX6_init 1 = .ok (.invokespecial 3, 3) := by decide +kernel
theorem dX6_init_4 : decode cX6_init 4 = .ok (.aload_n 0, 1) := by decide +kernel
theorem dX6_init_5 : decode cX6_init 5 = .ok (.bipush 6, 2) := by decide +kernel
theorem dX6_init_7 : decode cX6_init 7 = .ok (.newarray .int, 2) := by decide +kernel
theorem dX6_init_9 : decode cX6_init 9 = .ok (.putfield 9, 3) := by decide +kernel
theorem dX6_init_12 : decode cX6_init 12 = .ok (.aload_n 0, 1) := by decide +kernel
theorem dX6_init_13 : decode cX6_init 13 = .ok (.bipush 6, 2) := by decide +kernel
theorem dX6_init_15 : decode cX6_init 15 = .ok (.newarray .int, 2) := by decide +kernel
theorem dX6_init_17 : decode cX6_init 17 = .ok (.putfield 15, 3) := by decide +kernel
theorem dX6_init_20 : decode cX6_init 20 = .ok (.aload_n 0, 1) := by decide +kernel
theorem dX6_init_21 : decode cX6_init 21 = .ok (.bipush 6, 2) := by decide +kernel
theorem dX6_init_23 : decode cX6_init 23 = .ok (.newarray .int, 2) := by decide +kernel
theorem dX6_init_25 : decode cX6_init 25 = .ok (.putfield 18, 3) := by decide +kernel
theorem dX6_init_28 : decode cX6_init 28 = .ok (.return_, 1) := by decide +kernel
theorem nm_X6_init : nIm yX6_init cX6_init 1 0 := ⟨tw_52, tw_51, tw_3, rfl, by decide +kernel, by decide +kernel, by decide +kernel⟩
set_option maxRecDepth 20000 in
theorem k_X6_init {l : Launch} {z : lP} (ht : z.2.1.map Prod.snd = tyX) (hl : l.stackTraces = false) (o : Nat) (pre : va_W) : nMet l z yX6_init (aWs yX6_init cX6_init 1 none) 1 3 18 [.ref o] (pre ++ [(o, .inr (8, [.int 0, .null, .null, .null]))]) (fun W => ∃ ad : Nat → Nat, ad 0 = o ∧ W = pre ++ ((ad 0, .inr (8, [.int 0, .ref (ad 1), .ref (ad 2), .ref (ad 3)])) :: [(ad 1, .inl (lc z 0, (6, .inl (fun _ => 0)))), (ad 2, .inl (lc z 0, (6, .inl (fun _ => 0)))), (ad 3, .inl (lc z 0, (6, .inl (fun _ => 0))))])) := by
  refine nMet_of RX6 ⟨by decide +kernel, rfl⟩ rfl (cat_all rfl) (Nat.le_of_ble_eq_true rfl) hl (fun f hR hin hC hE => ?_)
  have hR1 := lRoom_of hR
  show AW f (nG z (pre ++ [(o, .inr (8, [.int 0, .null, .null, .null]))])) 0 [some (.ref o)] [] q0 0 0
  refine a_aload_n (pc := 0) (nOK hC _) dX6_init_0 rfl ?_
  refine n_obj (pc := 1) (nOK hC _) hR1 (by omega) rfl tw_53 tw_40 tw_41 (Nat.le_of_ble_eq_true rfl) dX6_init_1 ?_
  refine a_aload_n (pc := 4) (nOK hC _) dX6_init_4 rfl ?_
  refine a_bipush (pc := 5) (nOK hC _) dX6_init_5 (v := 6) rfl ?_
  refine n_newa (pc := 7) (atype := .int) (N' := 6) (a0 := (6, .inl (fun _ => 0))) (nOK hC _) ht hR1 0 rfl rfl tw_75 rfl (fun _ => rfl) (by decide) rfl (by decide) (by omega) (by omega) dX6_init_7 (fun q1 => ?_)
  refine n_putF (pc := 9) (nOK hC _) hin cl_X6 tyX6 tyX6_ok 0 (fs := [.int 0, .null, .null, .null]) rfl 1 (by decide) tw_57 rfl rfl rfl rfl (Nat.le_of_ble_eq_true rfl) dX6_init_9 ?_
  refine a_aload_n (pc := 12) (nOK hC _) dX6_init_12 rfl ?_
  refine a_bipush (pc := 13) (nOK hC _) dX6_init_13 (v := 6) rfl ?_
  refine n_newa (pc := 15) (atype := .int) (N' := 6) (a0 := (6, .inl (fun _ => 0))) (nOK hC _) ht hR1 0 rfl rfl tw_75 rfl (fun _ => rfl) (by decide) rfl (by decide) (by omega) (by omega) dX6_init_15 (fun q2 => ?_)
  refine n_putF (pc := 17) (nOK hC _) hin cl_X6 tyX6 tyX6_ok 0 (fs := [.int 0, .ref q1, .null, .null]) rfl 2 (by decide) tw_60 rfl rfl rfl rfl (Nat.le_of_ble_eq_true rfl) dX6_init_17 ?_
  refine a_aload_n (pc := 20) (nOK hC _) dX6_init_20 rfl ?_
  refine a_bipush (pc := 21) (nOK hC _) dX6_init_21 (v := 6) rfl ?_
  refine n_newa (pc := 23) (atype := .int) (N' := 6) (a0 := (6, .inl (fun _ => 0))) (nOK hC _) ht hR1 0 rfl rfl tw_75 rfl (fun _ => rfl) (by decide) rfl (by decide) (by omega) (by omega) dX6_init_23 (fun q3 => ?_)
  refine n_putF (pc := 25) (nOK hC _) hin cl_X6 tyX6 tyX6_ok 0 (fs := [.int 0, .ref q1, .ref q2, .null]) rfl 3 (by decide) tw_63 rfl rfl rfl rfl (Nat.le_of_ble_eq_true rfl) dX6_init_25 ?_
  exact n_vret (pc := 28) (nOK hC _) hE ⟨fun j => if j = 0 then o else if j = 1 then q1 else if j = 2 then q2 else q3, rfl, rfl⟩ (by omega) (by omega) dX6_init_28
theorem dX1_init_0 : decode cX1_init 0 = .ok (.aload_n 0, 1) := by decide +kernel
theorem dX1_init_1 : decode cX1_init 1 = .ok (.invokespecial 3, 3) := by decide +kernel
theorem dX1_init_4 : decode cX1_init 4 = .ok (.aload_n 0, 1) := by decide +kernel
theorem dX1_init_5 : decode cX1_init 5 = .ok (.bipush 8, 2) := by decide +kernel
theorem dX1_init_7 : decode cX1_init 7 = .ok (.newarray .int, 2) := by decide +kernel
theorem dX1_init_9 : decode cX1_init 9 = .ok (.putfield 9, 3) := by decide +kernel
theorem dX1_init_12 : decode cX1_init 12 = .ok (.aload_n 0, 1) := by decide +kernel
theorem dX1_init_13 : decode cX1_init 13 = .ok (.bipush 8, 2) := by decide +kernel
theorem dX1_init_15 : decode cX1_init 15 = .ok (.newarray .int, 2) := by decide +kernel
theorem dX1_init_17 : decode cX1_init 17 = .ok (.putfield 15, 3) := by decide +kernel
theorem dX1_init_20 : decode cX1_init 20 = .ok (.aload_n 0, 1) := by decide +kernel
theorem dX1_init_21 : decode cX1_init 21 = .ok (.bipush 8, 2) := by decide +kernel
theorem dX1_init_23 : decode cX1_init 23 = .ok (.newarray .int, 2) := by decide +kernel
theorem dX1_init_25 : decode cX1_init 25 = .ok (.putfield 18, 3) := by decide +kernel
theorem dX1_init_28 : decode cX1_init 28 = .ok (.aload_n 0, 1) := by decide +kernel
theorem dX1_init_29 : decode cX1_init 29 = .ok (.bipush 8, 2) := by decide +kernel
theorem dX1_init_31 : decode cX1_init 31 = .ok (.newarray .int, 2) := by decide +kernel
theorem dX1_init_33 : decode cX1_init 33 = .ok (.putfield 21, 3) := by decide +kernel
theorem dX1_init_36 : decode cX1_init 36 = .ok (.aload_n 0, 1) := by decide +kernel
theorem dX1_init_37 : decode cX1_init 37 = .ok (.bipush 8, 2) := by decide +kernel
theorem dX1_init_39 : decode cX1_init 39 = .ok (.newarray .int, 2) := by decide +kernel
theorem dX1_init_41 : decode cX1_init 41 = .ok (.putfield 24, 3) := by decide +kernel
theorem dX1_init_44 : decode cX1_init 44 = .ok (.return_, 1) := by decide +kernel
theorem nm_X1_init : nIm yX1_init cX1_init 1 0 := ⟨tw_80, tw_79, tw_4, rfl, by decide +kernel, by decide +kernel, by decide +kernel⟩
set_option maxRecDepth 20000 in
theorem k_X1_init {l : Launch} {z : lP} (ht : z.2.1.map Prod.snd = tyX) (hl : l.stackTraces = false) (o : Nat) (pre : va_W) : nMet l z yX1_init (aWs yX1_init cX1_init 1 none) 1 5 40 [.ref o] (pre ++ [(o, .inr (4, [.int 0, .null, .null, .null, .null, .null]))]) (fun W => ∃ ad : Nat → Nat, ad 0 = o ∧ W = pre ++ ((ad 0, .inr (4, [.int 0, .ref (ad 1), .ref (ad 2), .ref (ad 3), .ref (ad 4), .ref (ad 5)])) :: [(ad 1, .inl (lc z 0, (8, .inl (fun _ => 0)))), (ad 2, .inl (lc z 0, (8, .inl (fun _ => 0)))), (ad 3, .inl (lc z 0, (8, .inl (fun _ => 0)))), (ad 4, .inl (lc z 0, (8, .inl (fun _ => 0)))), (ad 5, .inl (lc z 0, (8, .inl (fun _ => 0))))])) := by
  refine nMet_of RX1 ⟨by decide +kernel, rfl⟩ rfl (cat_all rfl) (Nat.le_of_ble_eq_true rfl) hl (fun f hR hin hC hE => ?_)
  have hR1 := lRoom_of hR
  show AW f (nG z (pre ++ [(o, .inr (4, [.int 0, .null, .null, .null, .null, .null]))])) 0 [some (.ref o)] [] q0 0 0
  refine a_aload_n (pc := 0) (nOK hC _) dX1_init_0 rfl ?_
  refine n_obj (pc := 1) (nOK hC _) hR1 (by omega) rfl tw_81 tw_40 tw_41 (Nat.le_of_ble_eq_true rfl) dX1_init_1 ?_
  refine a_aload_n (pc := 4) (nOK hC _) dX1_init_4 rfl ?_
  refine a_bipush (pc := 5) (nOK hC _) dX1_init_5 (v := 8) rfl ?_
  refine n_newa (pc := 7) (atype := .int) (N' := 8) (a0 := (8, .inl (fun _ => 0))) (nOK hC _) ht hR1 0 rfl rfl tw_75 rfl (fun _ => rfl) (by decide) rfl (by decide) (by omega) (by omega) dX1_init_7 (fun q1 => ?_)
  refine n_putF (pc := 9) (nOK hC _) hin cl_X1 tyX1 tyX1_ok 0 (fs := [.int 0, .null, .null, .null, .null, .null]) rfl 1 (by decide) tw_85 rfl rfl rfl rfl (Nat.le_of_ble_eq_true rfl) dX1_init_9 ?_
  refine a_aload_n (pc := 12) (nOK hC _) dX1_init_12 rfl ?_
  refine a_bipush (pc := 13) (nOK hC _) dX1_init_13 (v := 8) rfl ?_
  refine n_newa (pc := 15) (atype := .int) (N' := 8) (a0 := (8, .inl (fun _ => 0))) (nOK hC _) ht hR1 0 rfl rfl tw_75 rfl (fun _ => rfl) (by decide) rfl (by decide) (by omega) (by omega) dX1_init_15 (fun q2 => ?_)
  refine n_putF (pc := 17) (nOK hC _) hin cl_X1 tyX1 tyX1_ok 0 (fs := [.int 0, .ref q1, .null, .null, .null, .null]) rfl 2 (by decide) tw_88 rfl rfl rfl rfl (Nat.le_of_ble_eq_true rfl) dX1_init_17 ?_
  refine a_aload_n (pc := 20) (nOK hC _) dX1_init_20 rfl ?_
  refine a_bipush (pc := 21) (nOK hC _) dX1_init_21 (v := 8) rfl ?_
  refine n_newa (pc := 23) (atype := .int) (N' := 8) (a0 := (8, .inl (fun _ => 0))) (nOK hC _) ht hR1 0 rfl rfl tw_75 rfl (fun _ => rfl) (by decide) rfl (by decide) (by omega) (by omega) dX1_init_23 (fun q3 => ?_)
  refine n_putF (pc := 25) (nOK hC _) hin cl_X1 tyX1 tyX1_ok 0 (fs := [.int 0, .ref q1, .ref q2, .null, .null, .null]) rfl 3 (by decide) tw_91 rfl rfl rfl rfl (Nat.le_of_ble_eq_true rfl) dX1_init_25 ?_
  refine a_aload_n (pc := 28) (nOK hC _) dX1_init_28 rfl ?_
  refine a_bipush (pc := 29) (nOK hC _) dX1_init_29 (v := 8) rfl ?_
  refine n_newa (pc := 31) (atype := .int) (N' := 8) (a0 := (8, .inl (fun _ => 0))) (nOK hC _) ht hR1 0 rfl rfl tw_75 rfl (fun _ => rfl) (by decide) rfl (by decide) (by omega) (by omega) dX1_init_31 (fun q4 => ?_)
  refine n_putF (pc := 33) (nOK hC _) hin cl_X1 tyX1 tyX1_ok 0 (fs := [.int 0, .ref q1, .ref q2, .ref q3, .null, .null]) rfl 4 (by decide) tw_94 rfl rfl rfl rfl (Nat.le_of_ble_eq_true rfl) dX1_init_33 ?_
  refine a_aload_n (pc := 36) (nOK hC _) dX1_init_36 rfl ?_
  refine a_bipush (pc := 37) (nOK hC _) dX1_init_37 (v := 8) rfl ?_
  refine n_newa (pc := 39) (atype := .int) (N' := 8) (a0 := (8, .inl (fun _ => 0))) (nOK hC _) ht hR1 0 rfl rfl tw_75 rfl (fun _ => rfl) (by decide) rfl (by decide) (by omega) (by omega) dX1_init_39 (fun q5 => ?_)
  refine n_putF (pc := 41) (nOK hC _) hin cl_X1 tyX1 tyX1_ok 0 (fs := [.int 0, .ref q1, .ref q2, .ref q3, .ref q4, .null]) rfl 5 (by decide) tw_97 rfl rfl rfl rfl (Nat.le_of_ble_eq_true rfl) dX1_init_41 ?_
  exact n_vret (pc := 44) (nOK hC _) hE ⟨fun j => if j = 0 then o else if j = 1 then q1 else if j = 2 then q2 else if j = 3 then q3 else if j = 4 then q4 else q5, rfl, rfl⟩ (by omega) (by omega) dX1_init_44
theorem dX7_init_0 : decode cX7_init 0 = .ok (.aload_n 0, 1) := by decide +kernel
theorem dX7_init_1 : decode cX7_init 1 = .ok (.invokespecial 3, 3) := by decide +kernel
theorem dX7_init_4 : decode cX7_init 4 = .ok (.aload_n 0, 1) := by decide +kernel
theorem dX7_init_5 : decode cX7_init 5 = .ok (.bipush 6, 2) := by decide +kernel
theorem dX7_init_7 : decode cX7_init 7 = .ok (.newarray .int, 2) := by decide +kernel
theorem dX7_init_9 : decode cX7_init 9 = .ok (.putfield 9, 3) := by decide +kernel
theorem dX7_init_12 : decode cX7_init 12 = .ok (.aload_n 0, 1) := by decide +kernel
theorem dX7_init_13 : decode cX7_init 13 = .ok (.bipush 6, 2) := by decide +kernel
theorem dX7_init_15 : decode cX7_init 15 = .ok (.newarray .int, 2) := by decide +kernel
theorem dX7_init_17 : decode cX7_init 17 = .ok (.putfield 15, 3) := by decide +kernel
theorem dX7_init_20 : decode cX7_init 20 = .ok (.aload_n 0, 1) := by decide +kernel
theorem dX7_init_21 : decode cX7_init 21 = .ok (.bipush 6, 2) := by decide +kernel
theorem dX7_init_23 : decode cX7_init 23 = .ok (.newarray .int, 2) := by decide +kernel
theorem dX7_init_25 : decode cX7_init 25 = .ok (.putfield 18, 3) := by decide +kernel
theorem dX7_init_28 : decode cX7_init 28 = .ok (.aload_n 0, 1) := by decide +kernel
theorem dX7_init_29 : decode cX7_init 29 = .ok (.bipush 6, 2) := by decide +kernel
theorem dX7_init_31 : decode cX7_init 31 = .ok (.newarray .int, 2) := by decide +kernel
theorem dX7_init_33 : decode cX7_init 33 = .ok (.putfield 21, 3) := by decide +kernel
theorem dX7_init_36 : decode cX7_init 36 = .ok (.aload_n 0, 1) := by decide +kernel
theorem dX7_init_37 : decode cX7_init 37 = .ok (.bipush 6, 2) := by decide +kernel
theorem dX7_init_39 : decode cX7_init 39 = .ok (.newarray .int, 2) := by decide +kernel
theorem dX7_init_41 : decode cX7_init 41 = .ok (.putfield 24, 3) := by decide +kernel
theorem dX7_init_44 : decode cX7_init 44 = .ok (.return_, 1) := by decide +kernel
theorem nm_X7_init : nIm yX7_init cX7_init 1 0 := ⟨tw_117, tw_116, tw_5, rfl, by decide +kernel, by decide +kernel, by decide +kernel⟩
set_option maxRecDepth 20000 in
theorem k_X7_init {l : Launch} {z : lP} (ht : z.2.1.map Prod.snd = tyX) (hl : l.stackTraces = false) (o : Nat) (pre : va_W) : nMet l z yX7_init (aWs yX7_init cX7_init 1 none) 1 5 30 [.ref o] (pre ++ [(o, .inr (9, [.int 0, .null, .null, .null, .null, .null]))]) (fun W => ∃ ad : Nat → Nat, ad 0 = o ∧ W = pre ++ ((ad 0, .inr (9, [.int 0, .ref (ad 1), .ref (ad 2), .ref (ad 3), .ref (ad 4), .ref (ad 5)])) :: [(ad 1, .inl (lc z 0, (6, .inl (fun _ => 0)))), (ad 2, .inl (lc z 0, (6, .inl (fun _ => 0)))), (ad 3, .inl (lc z 0, (6, .inl (fun _ => 0)))), (ad 4, .inl (lc z 0, (6, .inl (fun _ => 0)))), (ad 5, .inl (lc z 0, (6, .inl (fun _ => 0))))])) := by
  refine nMet_of RX7 ⟨by decide +kernel, rfl⟩ rfl (cat_all rfl) (Nat.le_of_ble_eq_true rfl) hl (fun f hR hin hC hE => ?_)
  have hR1 := lRoom_of hR
  show AW f (nG z (pre ++ [(o, .inr (9, [.int 0, .null, .null, .null, .null, .null]))])) 0 [some (.ref o)] [] q0 0 0
  refine a_aload_n (pc := 0) (nOK hC _) dX7_init_0 rfl ?_
  refine n_obj (pc := 1) (nOK hC _) hR1 (by omega) rfl tw_118 tw_40 tw_41 (Nat.le_of_ble_eq_true rfl) dX7_init_1 ?_
  refine a_aload_n (pc := 4) (nOK hC _) dX7_init_4 rfl ?_
  refine a_bipush (pc := 5) (nOK hC _) dX7_init_5 (v := 6) rfl ?_
  refine n_newa (pc := 7) (atype := .int) (N' := 6) (a0 := (6, .inl (fun _ => 0))) (nOK hC _) ht hR1 0 rfl rfl tw_75 rfl (fun _ => rfl) (by decide) rfl (by decide) (by omega) (by omega) dX7_init_7 (fun q1 => ?_)
  refine n_putF (pc := 9) (nOK hC _) hin cl_X7 tyX7 tyX7_ok 0 (fs := [.int 0, .null, .null, .null, .null, .null]) rfl 1 (by decide) tw_122 rfl rfl rfl rfl (Nat.le_of_ble_eq_true rfl) dX7_init_9 ?_
  refine a_aload_n (pc := 12) (nOK hC _) dX7_init_12 rfl ?_
  refine a_bipush (pc := 13) (nOK hC _) dX7_init_13 (v := 6) rfl ?_
  refine n_newa (pc := 15) (atype := .int) (N' := 6) (a0 := (6, .inl (fun _ => 0))) (nOK hC _) ht hR1 0 rfl rfl tw_75 rfl (fun _ => rfl) (by decide) rfl (by decide) (by omega) (by omega) dX7_init_15 (fun q2 => ?_)
  refine n_putF (pc := 17) (nOK hC _) hin cl_X7 tyX7 tyX7_ok 0 (fs := [.int 0, .ref q1, .null, .null, .null, .null]) rfl 2 (by decide) tw_125 rfl rfl rfl rfl (Nat.le_of_ble_eq_true rfl) dX7_init_17 ?_
  refine a_aload_n (pc := 20) (nOK hC _) dX7_init_20 rfl ?_
  refine a_bipush (pc := 21) (nOK hC _) dX7_init_21 (v := 6) rfl ?_
  refine n_newa (pc := 23) (atype := .int) (N' := 6) (a0 := (6, .inl (fun _ => 0))) (nOK hC _) ht hR1 0 rfl rfl tw_75 rfl (fun _ => rfl) (by decide) rfl (by decide) (by omega) (by omega) dX7_init_23 (fun q3 => ?_)
  refine n_putF (pc := 25) (nOK hC _) hin cl_X7 tyX7 tyX7_ok 0 (fs := [.int 0, .ref q1, .ref q2, .null, .null, .null]) rfl 3 (by decide) tw_128 rfl rfl rfl rfl (Nat.le_of_ble_eq_true rfl) dX7_init_25 ?_
  refine a_aload_n (pc := 28) (nOK hC _) dX7_init_28 rfl ?_
  refine a_bipush (pc := 29) (nOK hC _) dX7_init_29 (v := 6) rfl ?_
  refine n_newa (pc := 31) (atype := .int) (N' := 6) (a0 := (6, .inl (fun _ => 0))) (nOK hC _) ht hR1 0 rfl rfl tw_75 rfl (fun _ => rfl) (by decide) rfl (by decide) (by omega) (by omega) dX7_init_31 (fun q4 => ?_)
  refine n_putF (pc := 33) (nOK hC _) hin cl_X7 tyX7 tyX7_ok 0 (fs := [.int 0, .ref q1, .ref q2, .ref q3, .null, .null]) rfl 4 (by decide) tw_131 rfl rfl rfl rfl (Nat.le_of_ble_eq_true rfl) dX7_init_33 ?_
  refine a_aload_n (pc := 36) (nOK hC _) dX7_init_36 rfl ?_
  refine a_bipush (pc := 37) (nOK hC _) dX7_init_37 (v := 6) rfl ?_
  refine n_newa (pc := 39) (atype := .int) (N' := 6) (a0 := (6, .inl (fun _ => 0))) (nOK hC _) ht hR1 0 rfl rfl tw_75 rfl (fun _ => rfl) (by decide) rfl (by decide) (by omega) (by omega) dX7_init_39 (fun q5 => ?_)
  refine n_putF (pc := 41) (nOK hC _) hin cl_X7 tyX7 tyX7_ok 0 (fs := [.int 0, .ref q1, .ref q2, .ref q3, .ref q4, .null]) rfl 5 (by decide) tw_134 rfl rfl rfl rfl (Nat.le_of_ble_eq_true rfl) dX7_init_41 ?_
  exact n_vret (pc := 44) (nOK hC _) hE ⟨fun j => if j = 0 then o else if j = 1 then q1 else if j = 2 then q2 else if j = 3 then q3 else if j = 4 then q4 else q5, rfl, rfl⟩ (by omega) (by omega) dX7_init_44
theorem dX8_init_0 : decode cX8_init 0 = .ok (.aload_n 0, 1) := by decide +kernel
theorem dX8_init_1 : decode cX8_init 1 = .ok (.invokespecial 3, 3) := by decide +kernel
theorem dX8_init_4 : decode cX8_init 4 = .ok (.aload_n 0, 1) := by decide +kernel
theorem dX8_init_5 : decode cX8_init 5 = .ok (.new 9, 3) := by decide +kernel
theorem dX8_init_8 : decode cX8_init 8 = .ok (.dup, 1) := by decide +kernel
theorem dX8_init_9 : decode cX8_init 9 = .ok (.invokespecial 11, 3) := by decide +kernel
theorem dX8_init_12 : decode cX8_init 12 = .ok (.putfield 12, 3) := by decide +kernel
theorem dX8_init_15 : decode cX8_init 15 = .ok (.aload_n 0, 1) := by decide +kernel
theorem dX8_init_16 : decode cX8_init 16 = .ok (.new 18, 3) := by decide +kernel
theorem dX8_init_19 : decode cX8_init 19 = .ok (.dup, 1) := by decide +kernel
theorem dX8_init_20 : decode cX8_init 20 = .ok (.invokespecial 20, 3) := by decide +kernel
theorem dX8_init_23 : decode cX8_init 23 = .ok (.putfield 21, 3) := by decide +kernel
theorem dX8_init_26 : decode cX8_init 26 = .ok (.aload_n 0, 1) := by decide +kernel
theorem dX8_init_27 : decode cX8_init 27 = .ok (.new 25, 3) := by decide +kernel
theorem dX8_init_30 : decode cX8_init 30 = .ok (.dup, 1) := by decide +kernel
theorem dX8_init_31 : decode cX8_init 31 = .ok (.invokespecial 27, 3) := by decide +kernel
theorem dX8_init_34 : decode cX8_init 34 = .ok (.putfield 28, 3) := by decide +kernel
theorem dX8_init_37 : decode cX8_init 37 = .ok (.return_, 1) := by decide +kernel
theorem nm_X8_init : nIm yX8_init cX8_init 1 0 := ⟨tw_46, tw_45, tw_2, rfl, by decide +kernel, by decide +kernel, by decide +kernel⟩
set_option maxRecDepth 20000 in
theorem k_X8_init {l : Launch} {z : lP} (ht : z.2.1.map Prod.snd = tyX) (hl : l.stackTraces = false) (o : Nat) (pre : va_W) : nMet l z yX8_init (aWs yX8_init cX8_init 1 none) 2 16 104 [.ref o] (pre ++ [(o, .inr (10, [.null, .null, .null, .int 0, .int 0, .int 0, .int 0]))]) (fun W => ∃ ad : Nat → Nat, ad 0 = o ∧ W = pre ++ (List.range 17).map (fun j => (ad j, shS ad (lc z) 0 j (fun _ => 0)))) := by
  refine nMet_of RX8 ⟨by decide +kernel, rfl⟩ rfl (cat_all rfl) (Nat.le_of_ble_eq_true rfl) hl (fun f hR hin hC hE => ?_)
  have hR1 := lRoom_of hR
  show AW f (nG z (pre ++ [(o, .inr (10, [.null, .null, .null, .int 0, .int 0, .int 0, .int 0]))])) 0 [some (.ref o)] [] q0 0 0
  refine a_aload_n (pc := 0) (nOK hC _) dX8_init_0 rfl ?_
  refine n_obj (pc := 1) (nOK hC _) hR1 (by omega) rfl tw_47 tw_40 tw_41 (Nat.le_of_ble_eq_true rfl) dX8_init_1 ?_
  refine a_aload_n (pc := 4) (nOK hC _) dX8_init_4 rfl ?_
  refine n_new (pc := 5) (nOK hC _) hR1 cl_X6 tyX6 tyX6_ok tw_48 tw_49 tw_3 (fs := [.int 0, .null, .null, .null]) (fun j hj => by rcases (show j = 0 ∨ j = 1 ∨ j = 2 ∨ j = 3 by omega) with rfl | rfl | rfl | rfl <;> rfl) (by omega) (by omega) dX8_init_5 (fun p5_0 => ?_)
  refine a_dup (pc := 8) (nOK hC _) dX8_init_8 rfl ?_
  refine n_callN (pc := 9) (nOK hC _) hR1 nm_X6_init (List.mem_of_getElem? (i := 1) rfl) ⟨(Nat.le_of_ble_eq_true rfl), (Nat.le_of_ble_eq_true rfl), by omega, by omega⟩ dX8_init_9 (k_X6_init ht hC.tr _ _) rfl rfl rfl (Nat.le_of_ble_eq_true rfl) (fun W h => ?_)
  obtain ⟨x9_0, rfl, rfl⟩ := h
  rw [List.append_assoc]
  refine n_putF (pc := 12) (nOK hC _) hin cl_X8 tyX8 tyX8_ok 0 (fs := [.null, .null, .null, .int 0, .int 0, .int 0, .int 0]) rfl 0 (by decide) tw_150 rfl rfl rfl rfl (Nat.le_of_ble_eq_true rfl) dX8_init_12 ?_
  refine a_aload_n (pc := 15) (nOK hC _) dX8_init_15 rfl ?_
  refine n_new (pc := 16) (nOK hC _) hR1 cl_X1 tyX1 tyX1_ok tw_76 tw_77 tw_4 (fs := [.int 0, .null, .null, .null, .null, .null]) (fun j hj => by rcases (show j = 0 ∨ j = 1 ∨ j = 2 ∨ j = 3 ∨ j = 4 ∨ j = 5 by omega) with rfl | rfl | rfl | rfl | rfl | rfl <;> rfl) (by omega) (by omega) dX8_init_16 (fun p16_0 => ?_)
  refine a_dup (pc := 19) (nOK hC _) dX8_init_19 rfl ?_
  refine n_callN (pc := 20) (nOK hC _) hR1 nm_X1_init (List.mem_of_getElem? (i := 2) rfl) ⟨(Nat.le_of_ble_eq_true rfl), (Nat.le_of_ble_eq_true rfl), by omega, by omega⟩ dX8_init_20 (k_X1_init ht hC.tr _ _) rfl rfl rfl (Nat.le_of_ble_eq_true rfl) (fun W h => ?_)
  obtain ⟨x20_0, rfl, rfl⟩ := h
  rw [List.append_assoc]
  refine n_putF (pc := 23) (nOK hC _) hin cl_X8 tyX8 tyX8_ok 0 (fs := [.ref (x9_0 0), .null, .null, .int 0, .int 0, .int 0, .int 0]) rfl 1 (by decide) tw_152 rfl rfl rfl rfl (Nat.le_of_ble_eq_true rfl) dX8_init_23 ?_
  refine a_aload_n (pc := 26) (nOK hC _) dX8_init_26 rfl ?_
  refine n_new (pc := 27) (nOK hC _) hR1 cl_X7 tyX7 tyX7_ok tw_113 tw_114 tw_5 (fs := [.int 0, .null, .null, .null, .null, .null]) (fun j hj => by rcases (show j = 0 ∨ j = 1 ∨ j = 2 ∨ j = 3 ∨ j = 4 ∨ j = 5 by omega) with rfl | rfl | rfl | rfl | rfl | rfl <;> rfl) (by omega) (by omega) dX8_init_27 (fun p27_0 => ?_)
  refine a_dup (pc := 30) (nOK hC _) dX8_init_30 rfl ?_
  refine n_callN (pc := 31) (nOK hC _) hR1 nm_X7_init (List.mem_of_getElem? (i := 3) rfl) ⟨(Nat.le_of_ble_eq_true rfl), (Nat.le_of_ble_eq_true rfl), by omega, by omega⟩ dX8_init_31 (k_X7_init ht hC.tr _ _) rfl rfl rfl (Nat.le_of_ble_eq_true rfl) (fun W h => ?_)
  obtain ⟨x31_0, rfl, rfl⟩ := h
  rw [List.append_assoc]
  refine n_putF (pc := 34) (nOK hC _) hin cl_X8 tyX8 tyX8_ok 0 (fs := [.ref (x9_0 0), .ref (x20_0 0), .null, .int 0, .int 0, .int 0, .int 0]) rfl 2 (by decide) tw_154 rfl rfl rfl rfl (Nat.le_of_ble_eq_true rfl) dX8_init_34 ?_
  exact n_vret (pc := 37) (nOK hC _) hE ⟨fun j => if j = 0 then o else if j < 5 then x9_0 (j - 1) else if j < 11 then x20_0 (j - 5) else x31_0 (j - 11), rfl, rfl⟩ (by omega) (by omega) dX8_init_37
theorem dX5_init_0 : decode cX5_init 0 = .ok (.aload_n 0, 1) := by decide +kernel
theorem dX5_init_1 : decode cX5_init 1 = .ok (.invokespecial 1, 3) := by decide +kernel
theorem dX5_init_4 : decode cX5_init 4 = .ok (.return_, 1) := by decide +kernel
theorem nm_X5_init : nIm yX5_init cX5_init 1 0 := ⟨tw_243, tw_242, tw_10, rfl, by decide +kernel, by decide +kernel, by decide +kernel⟩
set_option maxRecDepth 20000 in
theorem k_X5_init {l : Launch} {z : lP} (ht : z.2.1.map Prod.snd = tyX) (hl : l.stackTraces = false) (o : Nat) (pre : va_W) : nMet l z yX5_init (aWs yX5_init cX5_init 1 none) 1 0 0 [.ref o] (pre ++ [(o, .inr (7, [.int 0, .int 0, .int 0, .int 0, .int 0, .int 0]))]) (fun W => W = pre ++ [(o, .inr (7, [.int 0, .int 0, .int 0, .int 0, .int 0, .int 0]))]) := by
  refine nMet_of RX5 ⟨by decide +kernel, rfl⟩ rfl (cat_all rfl) (Nat.le_of_ble_eq_true rfl) hl (fun f hR hin hC hE => ?_)
  have hR1 := lRoom_of hR
  show AW f (nG z (pre ++ [(o, .inr (7, [.int 0, .int 0, .int 0, .int 0, .int 0, .int 0]))])) 0 [some (.ref o)] [] q0 0 0
  refine a_aload_n (pc := 0) (nOK hC _) dX5_init_0 rfl ?_
  refine n_obj (pc := 1) (nOK hC _) hR1 (by omega) rfl tw_244 tw_40 tw_41 (Nat.le_of_ble_eq_true rfl) dX5_init_1 ?_
  exact n_vret (pc := 4) (nOK hC _) hE rfl (by omega) (by omega) dX5_init_4
theorem dX4_init_0 : decode cX4_init 0 = .ok (.aload_n 0, 1) := by decide +kernel
theorem dX4_init_1 : decode cX4_init 1 = .ok (.invokespecial 3, 3) := by decide +kernel
theorem dX4_init_4 : decode cX4_init 4 = .ok (.aload_n 0, 1) := by decide +kernel
theorem dX4_init_5 : decode cX4_init 5 = .ok (.bipush 8, 2) := by decide +kernel
theorem dX4_init_7 : decode cX4_init 7 = .ok (.anewarray 9, 3) := by decide +kernel
theorem dX4_init_10 : decode cX4_init 10 = .ok (.putfield 11, 3) := by decide +kernel
theorem dX4_init_13 : decode cX4_init 13 = .ok (.iconst 0, 1) := by decide +kernel
theorem dX4_init_14 : decode cX4_init 14 = .ok (.istore_n 1, 1) := by decide +kernel
theorem dX4_init_15 : decode cX4_init 15 = .ok (.iload_n 1, 1) := by decide +kernel
theorem dX4_init_16 : decode cX4_init 16 = .ok (.bipush 8, 2) := by decide +kernel
theorem dX4_init_18 : decode cX4_init 18 = .ok (.if_icmp .ge 22, 3) := by decide +kernel
theorem dX4_init_21 : decode cX4_init 21 = .ok (.aload_n 0, 1) := by decide +kernel
theorem dX4_init_22 : decode cX4_init 22 = .ok (.getfield 11, 3) := by decide +kernel
theorem dX4_init_25 : decode cX4_init 25 = .ok (.iload_n 1, 1) := by decide +kernel
theorem dX4_init_26 : decode cX4_init 26 = .ok (.new 9, 3) := by decide +kernel
theorem dX4_init_29 : decode cX4_init 29 = .ok (.dup, 1) := by decide +kernel
theorem dX4_init_30 : decode cX4_init 30 = .ok (.invokespecial 17, 3) := by decide +kernel
theorem dX4_init_33 : decode cX4_init 33 = .ok (.aastore, 1) := by decide +kernel
theorem dX4_init_34 : decode cX4_init 34 = .ok (.iinc 1 1, 3) := by decide +kernel
theorem dX4_init_37 : decode cX4_init 37 = .ok (.goto (-22), 3) := by decide +kernel
theorem dX4_init_40 : decode cX4_init 40 = .ok (.return_, 1) := by decide +kernel
theorem nm_X4_init : nIm yX4_init cX4_init 2 0 := ⟨tw_183, tw_182, tw_6, rfl, by decide +kernel, by decide +kernel, by decide +kernel⟩
set_option maxRecDepth 20000 in
theorem k_X4_init {l : Launch} {z : lP} (ht : z.2.1.map Prod.snd = tyX) (hl : l.stackTraces = false) (o : Nat) (pre : va_W) : nMet l z yX4_init (aWs yX4_init cX4_init 2 none) 3 137 896 [.ref o] (pre ++ [(o, .inr (6, [.null, .int 0, .int 0]))]) (fun W => ∃ (r : Nat) (sd : Nat → Nat) (F : Nat → Option Nat), (∀ j, j < 8 → F j = some (sd (17 * j))) ∧ W = pre ++ ((o, .inr (6, [.ref r, .int 0, .int 0])) :: (r, .inl (lc z 2, (8, .inr (.inr (.inr (.inr F)))))) :: (List.range 136).map (fun j => (sd j, shS sd (lc z) (17 * (j / 17)) (j % 17) (fun _ => 0))))) := by
  refine nMet_of RX4 ⟨by decide +kernel, rfl⟩ rfl (cat_all rfl) (Nat.le_of_ble_eq_true rfl) hl (fun f hR hin hC hE => ?_)
  have hR1 := lRoom_of hR
  show AW f (nG z (pre ++ [(o, .inr (6, [.null, .int 0, .int 0]))])) 0 [some (.ref o), none] [] q0 0 0
  refine a_aload_n (pc := 0) (nOK hC _) dX4_init_0 rfl ?_
  refine n_obj (pc := 1) (nOK hC _) hR1 (by omega) rfl tw_184 tw_40 tw_41 (Nat.le_of_ble_eq_true rfl) dX4_init_1 ?_
  refine a_aload_n (pc := 4) (nOK hC _) dX4_init_4 rfl ?_
  refine a_bipush (pc := 5) (nOK hC _) dX4_init_5 (v := 8) rfl ?_
  refine n_newq (pc := 7) (N' := 8) (nOK hC _) ht hR1 2 rfl tw_185 hC.en.2.2.1 (by decide) rfl (by decide) (by omega) (by omega) dX4_init_7 (fun q1 => ?_)
  refine n_putF (pc := 10) (nOK hC _) hin cl_X4 tyX4 tyX4_ok 0 (fs := [.null, .int 0, .int 0]) rfl 0 (by decide) tw_188 rfl rfl rfl rfl (Nat.le_of_ble_eq_true rfl) dX4_init_10 ?_
  refine a_iconst (pc := 13) (nOK hC _) dX4_init_13 (v := 0) rfl ?_
  refine a_istore_n (pc := 14) (nOK hC _) dX4_init_14 (Nat.le_of_ble_eq_true rfl) ?_
  refine a_iload_n (pc := 15) (nOK hC _) dX4_init_15 rfl ?_
  refine a_bipush (pc := 16) (nOK hC _) dX4_init_16 (v := 8) rfl ?_
  refine a_icmp_ge (pc := 18) (tgt := 40) (nOK hC _) dX4_init_18 (by decide) (fun h => (absurd h (by decide))) (fun _ => ?_)
  refine a_aload_n (pc := 21) (nOK hC _) dX4_init_21 rfl ?_
  refine n_get (pc := 22) (nOK hC _) cl_X4 0 (fs := [.ref q1, .int 0, .int 0]) rfl 0 (by decide) tw_188 rfl dX4_init_22 ?_
  refine a_iload_n (pc := 25) (nOK hC _) dX4_init_25 rfl ?_
  refine n_new (pc := 26) (nOK hC _) hR1 cl_X8 tyX8 tyX8_ok tw_185 tw_43 tw_2 (fs := [.null, .null, .null, .int 0, .int 0, .int 0, .int 0]) (fun j hj => by rcases (show j = 0 ∨ j = 1 ∨ j = 2 ∨ j = 3 ∨ j = 4 ∨ j = 5 ∨ j = 6 by omega) with rfl | rfl | rfl | rfl | rfl | rfl | rfl <;> rfl) (by omega) (by omega) dX4_init_26 (fun p26_0 => ?_)
  refine a_dup (pc := 29) (nOK hC _) dX4_init_29 rfl ?_
  refine n_callN (pc := 30) (nOK hC _) hR1 nm_X8_init (List.mem_of_getElem? (i := 4) rfl) ⟨(Nat.le_of_ble_eq_true rfl), (Nat.le_of_ble_eq_true rfl), by omega, by omega⟩ dX4_init_30 (k_X8_init ht hC.tr _ _) rfl rfl rfl (Nat.le_of_ble_eq_true rfl) (fun W h => ?_)
  obtain ⟨x30_0, rfl, rfl⟩ := h
  rw [List.append_assoc]
  refine n_aasto (pc := 33) (nOK hC _) ht 1 rfl 2 rfl (by unfold vp_in; decide) dX4_init_33 ?_
  refine a_iinc (pc := 34) (nOK hC _) dX4_init_34 rfl (c := 1) rfl ?_
  refine a_goto (pc := 37) (tgt := 15) (nOK hC _) dX4_init_37 (by decide) ?_
  refine a_iload_n (pc := 15) (nOK hC _) dX4_init_15 rfl ?_
  refine a_bipush (pc := 16) (nOK hC _) dX4_init_16 (v := 8) rfl ?_
  refine a_icmp_ge (pc := 18) (tgt := 40) (nOK hC _) dX4_init_18 (by decide) (fun h => (absurd h (by decide))) (fun _ => ?_)
  refine a_aload_n (pc := 21) (nOK hC _) dX4_init_21 rfl ?_
  refine n_get (pc := 22) (nOK hC _) cl_X4 0 (fs := [.ref q1, .int 0, .int 0]) rfl 0 (by decide) tw_188 rfl dX4_init_22 ?_
  refine a_iload_n (pc := 25) (nOK hC _) dX4_init_25 rfl ?_
  refine n_new (pc := 26) (nOK hC _) hR1 cl_X8 tyX8 tyX8_ok tw_185 tw_43 tw_2 (fs := [.null, .null, .null, .int 0, .int 0, .int 0, .int 0]) (fun j hj => by rcases (show j = 0 ∨ j = 1 ∨ j = 2 ∨ j = 3 ∨ j = 4 ∨ j = 5 ∨ j = 6 by omega) with rfl | rfl | rfl | rfl | rfl | rfl | rfl <;> rfl) (by omega) (by omega) dX4_init_26 (fun p26_1 => ?_)
  refine a_dup (pc := 29) (nOK hC _) dX4_init_29 rfl ?_
  refine n_callN (pc := 30) (nOK hC _) hR1 nm_X8_init (List.mem_of_getElem? (i := 4) rfl) ⟨(Nat.le_of_ble_eq_true rfl), (Nat.le_of_ble_eq_true rfl), by omega, by omega⟩ dX4_init_30 (k_X8_init ht hC.tr _ _) rfl rfl rfl (Nat.le_of_ble_eq_true rfl) (fun W h => ?_)
  obtain ⟨x30_1, rfl, rfl⟩ := h
  rw [List.append_assoc]
  refine n_aasto (pc := 33) (nOK hC _) ht 1 rfl 19 rfl (by unfold vp_in; decide) dX4_init_33 ?_
  refine a_iinc (pc := 34) (nOK hC _) dX4_init_34 rfl (c := 1) rfl ?_
  refine a_goto (pc := 37) (tgt := 15) (nOK hC _) dX4_init_37 (by decide) ?_
  refine a_iload_n (pc := 15) (nOK hC _) dX4_init_15 rfl ?_
  refine a_bipush (pc := 16) (nOK hC _) dX4_init_16 (v := 8) rfl ?_
  refine a_icmp_ge (pc := 18) (tgt := 40) (nOK hC _) dX4_init_18 (by decide) (fun h => (absurd h (by decide))) (fun _ => ?_)
  refine a_aload_n (pc := 21) (nOK hC _) dX4_init_21 rfl ?_
  refine n_get (pc := 22) (nOK hC _) cl_X4 0 (fs := [.ref q1, .int 0, .int 0]) rfl 0 (by decide) tw_188 rfl dX4_init_22 ?_
  refine a_iload_n (pc := 25) (nOK hC _) dX4_init_25 rfl ?_
  refine n_new (pc := 26) (nOK hC _) hR1 cl_X8 tyX8 tyX8_ok tw_185 tw_43 tw_2 (fs := [.null, .null, .null, .int 0, .int 0, .int 0, .int 0]) (fun j hj => by rcases (show j = 0 ∨ j = 1 ∨ j = 2 ∨ j = 3 ∨ j = 4 ∨ j = 5 ∨ j = 6 by omega) with rfl | rfl | rfl | rfl | rfl | rfl | rfl <;> rfl) (by omega) (by omega) dX4_init_26 (fun p26_2 => ?_)
  refine a_dup (pc := 29) (nOK hC _) dX4_init_29 rfl ?_
  refine n_callN (pc := 30) (nOK hC _) hR1 nm_X8_init (List.mem_of_getElem? (i := 4) rfl) ⟨(Nat.le_of_ble_eq_true rfl), (Nat.le_of_ble_eq_true rfl), by omega, by omega⟩ dX4_init_30 (k_X8_init ht hC.tr _ _) rfl rfl rfl (Nat.le_of_ble_eq_true rfl) (fun W h => ?_)
  obtain ⟨x30_2, rfl, rfl⟩ := h
  rw [List.append_assoc]
  refine n_aasto (pc := 33) (nOK hC _) ht 1 rfl 36 rfl (by unfold vp_in; decide) dX4_init_33 ?_
  refine a_iinc (pc := 34) (nOK hC _) dX4_init_34 rfl (c := 1) rfl ?_
  refine a_goto (pc := 37) (tgt := 15) (nOK hC _) dX4_init_37 (by decide) ?_
  refine a_iload_n (pc := 15) (nOK hC _) dX4_init_15 rfl ?_
  refine a_bipush (pc := 16) (nOK hC _) dX4_init_16 (v := 8) rfl ?_
  refine a_icmp_ge (pc := 18) (tgt := 40) (nOK hC _) dX4_init_18 (by decide) (fun h => (absurd h (by decide))) (fun _ => ?_)
  refine a_aload_n (pc := 21) (nOK hC _) dX4_init_21 rfl ?_
  refine n_get (pc := 22) (nOK hC _) cl_X4 0 (fs := [.ref q1, .int 0, .int 0]) rfl 0 (by decide) tw_188 rfl dX4_init_22 ?_
  refine a_iload_n (pc := 25) (nOK hC _) dX4_init_25 rfl ?_
  refine n_new (pc := 26) (nOK hC _) hR1 cl_X8 tyX8 tyX8_ok tw_185 tw_43 tw_2 (fs := [.null, .null, .null, .int 0, .int 0, .int 0, .int 0]) (fun j hj => by rcases (show j = 0 ∨ j = 1 ∨ j = 2 ∨ j = 3 ∨ j = 4 ∨ j = 5 ∨ j = 6 by omega) with rfl | rfl | rfl | rfl | rfl | rfl | rfl <;> rfl) (by omega) (by omega) dX4_init_26 (fun p26_3 => ?_)
  refine a_dup (pc := 29) (nOK hC _) dX4_init_29 rfl ?_
  refine n_callN (pc := 30) (nOK hC _) hR1 nm_X8_init (List.mem_of_getElem? (i := 4) rfl) ⟨(Nat.le_of_ble_eq_true rfl), (Nat.le_of_ble_eq_true rfl), by omega, by omega⟩ dX4_init_30 (k_X8_init ht hC.tr _ _) rfl rfl rfl (Nat.le_of_ble_eq_true rfl) (fun W h => ?_)
  obtain ⟨x30_3, rfl, rfl⟩ := h
  rw [List.append_assoc]
  refine n_aasto (pc := 33) (nOK hC _) ht 1 rfl 53 rfl (by unfold vp_in; decide) dX4_init_33 ?_
  refine a_iinc (pc := 34) (nOK hC _) dX4_init_34 rfl (c := 1) rfl ?_
  refine a_goto (pc := 37) (tgt := 15) (nOK hC _) dX4_init_37 (by decide) ?_
  refine a_iload_n (pc := 15) (nOK hC _) dX4_init_15 rfl ?_
  refine a_bipush (pc := 16) (nOK hC _) dX4_init_16 (v := 8) rfl ?_
  refine a_icmp_ge (pc := 18) (tgt := 40) (nOK hC _) dX4_init_18 (by decide) (fun h => (absurd h (by decide))) (fun _ => ?_)
  refine a_aload_n (pc := 21) (nOK hC _) dX4_init_21 rfl ?_
  refine n_get (pc := 22) (nOK hC _) cl_X4 0 (fs := [.ref q1, .int 0, .int 0]) rfl 0 (by decide) tw_188 rfl dX4_init_22 ?_
  refine a_iload_n (pc := 25) (nOK hC _) dX4_init_25 rfl ?_
  refine n_new (pc := 26) (nOK hC _) hR1 cl_X8 tyX8 tyX8_ok tw_185 tw_43 tw_2 (fs := [.null, .null, .null, .int 0, .int 0, .int 0, .int 0]) (fun j hj => by rcases (show j = 0 ∨ j = 1 ∨ j = 2 ∨ j = 3 ∨ j = 4 ∨ j = 5 ∨ j = 6 by omega) with rfl | rfl | rfl | rfl | rfl | rfl | rfl <;> rfl) (by omega) (by omega) dX4_init_26 (fun p26_4 => ?_)
  refine a_dup (pc := 29) (nOK hC _) dX4_init_29 rfl ?_
  refine n_callN (pc := 30) (nOK hC _) hR1 nm_X8_init (List.mem_of_getElem? (i := 4) rfl) ⟨(Nat.le_of_ble_eq_true rfl), (Nat.le_of_ble_eq_true rfl), by omega, by omega⟩ dX4_init_30 (k_X8_init ht hC.tr _ _) rfl rfl rfl (Nat.le_of_ble_eq_true rfl) (fun W h => ?_)
  obtain ⟨x30_4, rfl, rfl⟩ := h
  rw [List.append_assoc]
  refine n_aasto (pc := 33) (nOK hC _) ht 1 rfl 70 rfl (by unfold vp_in; decide) dX4_init_33 ?_
  refine a_iinc (pc := 34) (nOK hC _) dX4_init_34 rfl (c := 1) rfl ?_
  refine a_goto (pc := 37) (tgt := 15) (nOK hC _) dX4_init_37 (by decide) ?_
  refine a_iload_n (pc := 15) (nOK hC _) dX4_init_15 rfl ?_
  refine a_bipush (pc := 16) (nOK hC _) dX4_init_16 (v := 8) rfl ?_
  refine a_icmp_ge (pc := 18) (tgt := 40) (nOK hC _) dX4_init_18 (by decide) (fun h => (absurd h (by decide))) (fun _ => ?_)
  refine a_aload_n (pc := 21) (nOK hC _) dX4_init_21 rfl ?_
  refine n_get (pc := 22) (nOK hC _) cl_X4 0 (fs := [.ref q1, .int 0, .int 0]) rfl 0 (by decide) tw_188 rfl dX4_init_22 ?_
  refine a_iload_n (pc := 25) (nOK hC _) dX4_init_25 rfl ?_
  refine n_new (pc := 26) (nOK hC _) hR1 cl_X8 tyX8 tyX8_ok tw_185 tw_43 tw_2 (fs := [.null, .null, .null, .int 0, .int 0, .int 0, .int 0]) (fun j hj => by rcases (show j = 0 ∨ j = 1 ∨ j = 2 ∨ j = 3 ∨ j = 4 ∨ j = 5 ∨ j = 6 by omega) with rfl | rfl | rfl | rfl | rfl | rfl | rfl <;> rfl) (by omega) (by omega) dX4_init_26 (fun p26_5 => ?_)
  refine a_dup (pc := 29) (nOK hC _) dX4_init_29 rfl ?_
  refine n_callN (pc := 30) (nOK hC _) hR1 nm_X8_init (List.mem_of_getElem? (i := 4) rfl) ⟨(Nat.le_of_ble_eq_true rfl), (Nat.le_of_ble_eq_true rfl), by omega, by omega⟩ dX4_init_30 (k_X8_init ht hC.tr _ _) rfl rfl rfl (Nat.le_of_ble_eq_true rfl) (fun W h => ?_)
  obtain ⟨x30_5, rfl, rfl⟩ := h
  rw [List.append_assoc]
  refine n_aasto (pc := 33) (nOK hC _) ht 1 rfl 87 rfl (by unfold vp_in; decide) dX4_init_33 ?_
  refine a_iinc (pc := 34) (nOK hC _) dX4_init_34 rfl (c := 1) rfl ?_
  refine a_goto (pc := 37) (tgt := 15) (nOK hC _) dX4_init_37 (by decide) ?_
  refine a_iload_n (pc := 15) (nOK hC _) dX4_init_15 rfl ?_
  refine a_bipush (pc := 16) (nOK hC _) dX4_init_16 (v := 8) rfl ?_
  refine a_icmp_ge (pc := 18) (tgt := 40) (nOK hC _) dX4_init_18 (by decide) (fun h => (absurd h (by decide))) (fun _ => ?_)
  refine a_aload_n (pc := 21) (nOK hC _) dX4_init_21 rfl ?_
  refine n_get (pc := 22) (nOK hC _) cl_X4 0 (fs := [.ref q1, .int 0, .int 0]) rfl 0 (by decide) tw_188 rfl dX4_init_22 ?_
  refine a_iload_n (pc := 25) (nOK hC _) dX4_init_25 rfl ?_
  refine n_new (pc := 26) (nOK hC _) hR1 cl_X8 tyX8 tyX8_ok tw_185 tw_43 tw_2 (fs := [.null, .null, .null, .int 0, .int 0, .int 0, .int 0]) (fun j hj => by rcases (show j = 0 ∨ j = 1 ∨ j = 2 ∨ j = 3 ∨ j = 4 ∨ j = 5 ∨ j = 6 by omega) with rfl | rfl | rfl | rfl | rfl | rfl | rfl <;> rfl) (by omega) (by omega) dX4_init_26 (fun p26_6 => ?_)
  refine a_dup (pc := 29) (nOK hC _) dX4_init_29 rfl ?_
  refine n_callN (pc := 30) (nOK hC _) hR1 nm_X8_init (List.mem_of_getElem? (i := 4) rfl) ⟨(Nat.le_of_ble_eq_true rfl), (Nat.le_of_ble_eq_true rfl), by omega, by omega⟩ dX4_init_30 (k_X8_init ht hC.tr _ _) rfl rfl rfl (Nat.le_of_ble_eq_true rfl) (fun W h => ?_)
  obtain ⟨x30_6, rfl, rfl⟩ := h
  rw [List.append_assoc]
  refine n_aasto (pc := 33) (nOK hC _) ht 1 rfl 104 rfl (by unfold vp_in; decide) dX4_init_33 ?_
  refine a_iinc (pc := 34) (nOK hC _) dX4_init_34 rfl (c := 1) rfl ?_
  refine a_goto (pc := 37) (tgt := 15) (nOK hC _) dX4_init_37 (by decide) ?_
  refine a_iload_n (pc := 15) (nOK hC _) dX4_init_15 rfl ?_
  refine a_bipush (pc := 16) (nOK hC _) dX4_init_16 (v := 8) rfl ?_
  refine a_icmp_ge (pc := 18) (tgt := 40) (nOK hC _) dX4_init_18 (by decide) (fun h => (absurd h (by decide))) (fun _ => ?_)
  refine a_aload_n (pc := 21) (nOK hC _) dX4_init_21 rfl ?_
  refine n_get (pc := 22) (nOK hC _) cl_X4 0 (fs := [.ref q1, .int 0, .int 0]) rfl 0 (by decide) tw_188 rfl dX4_init_22 ?_
  refine a_iload_n (pc := 25) (nOK hC _) dX4_init_25 rfl ?_
  refine n_new (pc := 26) (nOK hC _) hR1 cl_X8 tyX8 tyX8_ok tw_185 tw_43 tw_2 (fs := [.null, .null, .null, .int 0, .int 0, .int 0, .int 0]) (fun j hj => by rcases (show j = 0 ∨ j = 1 ∨ j = 2 ∨ j = 3 ∨ j = 4 ∨ j = 5 ∨ j = 6 by omega) with rfl | rfl | rfl | rfl | rfl | rfl | rfl <;> rfl) (by omega) (by omega) dX4_init_26 (fun p26_7 => ?_)
  refine a_dup (pc := 29) (nOK hC _) dX4_init_29 rfl ?_
  refine n_callN (pc := 30) (nOK hC _) hR1 nm_X8_init (List.mem_of_getElem? (i := 4) rfl) ⟨(Nat.le_of_ble_eq_true rfl), (Nat.le_of_ble_eq_true rfl), by omega, by omega⟩ dX4_init_30 (k_X8_init ht hC.tr _ _) rfl rfl rfl (Nat.le_of_ble_eq_true rfl) (fun W h => ?_)
  obtain ⟨x30_7, rfl, rfl⟩ := h
  rw [List.append_assoc]
  refine n_aasto (pc := 33) (nOK hC _) ht 1 rfl 121 rfl (by unfold vp_in; decide) dX4_init_33 ?_
  refine a_iinc (pc := 34) (nOK hC _) dX4_init_34 rfl (c := 1) rfl ?_
  refine a_goto (pc := 37) (tgt := 15) (nOK hC _) dX4_init_37 (by decide) ?_
  refine a_iload_n (pc := 15) (nOK hC _) dX4_init_15 rfl ?_
  refine a_bipush (pc := 16) (nOK hC _) dX4_init_16 (v := 8) rfl ?_
  refine a_icmp_ge (pc := 18) (tgt := 40) (nOK hC _) dX4_init_18 (by decide) (fun _ => ?_) (fun h => (h (by decide)).elim)
  refine n_vret (pc := 40) (nOK hC _) hE ⟨q1, fun j => if j < 17 then x30_0 (j - 0) else if j < 34 then x30_1 (j - 17) else if j < 51 then x30_2 (j - 34) else if j < 68 then x30_3 (j - 51) else if j < 85 then x30_4 (j - 68) else if j < 102 then x30_5 (j - 85) else if j < 119 then x30_6 (j - 102) else x30_7 (j - 119), _, fun j hj => ?_, rfl⟩ (by omega) (by omega) dX4_init_40
  rcases (show j = 0 ∨ j = 1 ∨ j = 2 ∨ j = 3 ∨ j = 4 ∨ j = 5 ∨ j = 6 ∨ j = 7 by omega) with rfl | rfl | rfl | rfl | rfl | rfl | rfl | rfl <;> rfl
theorem dX3_init_0 : decode cX3_init 0 = .ok (.aload_n 0, 1) := by decide +kernel
theorem dX3_init_1 : decode cX3_init 1 = .ok (.invokespecial 3, 3) := by decide +kernel
theorem dX3_init_4 : decode cX3_init 4 = .ok (.aload_n 0, 1) := by decide +kernel
theorem dX3_init_5 : decode cX3_init 5 = .ok (.bipush 60, 2) := by decide +kernel
theorem dX3_init_7 : decode cX3_init 7 = .ok (.newarray .char, 2) := by decide +kernel
theorem dX3_init_9 : decode cX3_init 9 = .ok (.putfield 9, 3) := by decide +kernel
theorem dX3_init_12 : decode cX3_init 12 = .ok (.aload_n 0, 1) := by decide +kernel
theorem dX3_init_13 : decode cX3_init 13 = .ok (.iconst (-1), 1) := by decide +kernel
theorem dX3_init_14 : decode cX3_init 14 = .ok (.putfield 15, 3) := by decide +kernel
theorem dX3_init_17 : decode cX3_init 17 = .ok (.aload_n 0, 1) := by decide +kernel
theorem dX3_init_18 : decode cX3_init 18 = .ok (.bipush 10, 2) := by decide +kernel
theorem dX3_init_20 : decode cX3_init 20 = .ok (.anewarray 19, 3) := by decide +kernel
theorem dX3_init_23 : decode cX3_init 23 = .ok (.putfield 21, 3) := by decide +kernel
theorem dX3_init_26 : decode cX3_init 26 = .ok (.aload_n 0, 1) := by decide +kernel
theorem dX3_init_27 : decode cX3_init 27 = .ok (.bipush 10, 2) := by decide +kernel
theorem dX3_init_29 : decode cX3_init 29 = .ok (.iconst 3, 1) := by decide +kernel
theorem dX3_init_30 : decode cX3_init 30 = .ok (.multianewarray 25 2, 4) := by decide +kernel
theorem dX3_init_34 : decode cX3_init 34 = .ok (.putfield 27, 3) := by decide +kernel
theorem dX3_init_37 : decode cX3_init 37 = .ok (.iconst 0, 1) := by decide +kernel
theorem dX3_init_38 : decode cX3_init 38 = .ok (.istore_n 1, 1) := by decide +kernel
theorem dX3_init_39 : decode cX3_init 39 = .ok (.iload_n 1, 1) := by decide +kernel
theorem dX3_init_40 : decode cX3_init 40 = .ok (.bipush 10, 2) := by decide +kernel
theorem dX3_init_42 : decode cX3_init 42 = .ok (.if_icmp .ge 18, 3) := by decide +kernel
theorem dX3_init_45 : decode cX3_init 45 = .ok (.aload_n 0, 1) := by decide +kernel
theorem dX3_init_46 : decode cX3_init 46 = .ok (.getfield 21, 3) := by decide +kernel
theorem dX3_init_49 : decode cX3_init 49 = .ok (.iload_n 1, 1) := by decide +kernel
theorem dX3_init_50 : decode cX3_init 50 = .ok (.getstatic 30, 3) := by decide +kernel
theorem dX3_init_53 : decode cX3_init 53 = .ok (.aastore, 1) := by decide +kernel
theorem dX3_init_54 : decode cX3_init 54 = .ok (.iinc 1 1, 3) := by decide +kernel
theorem dX3_init_57 : decode cX3_init 57 = .ok (.goto (-18), 3) := by decide +kernel
theorem dX3_init_60 : decode cX3_init 60 = .ok (.return_, 1) := by decide +kernel
theorem nm_X3_init : nIm yX3_init cX3_init 2 0 := ⟨tw_203, tw_202, tw_7, rfl, by decide +kernel, by decide +kernel, by decide +kernel⟩
set_option maxRecDepth 20000 in
theorem k_X3_init {l : Launch} {z : lP} (ht : z.2.1.map Prod.snd = tyX) (hl : l.stackTraces = false) (o : Nat) (pre : va_W) : nMet l z yX3_init (aWs yX3_init cX3_init 2 none) 1 13 110 [.ref o] (pre ++ [(o, .inr (5, [.null, .int 0, .int 0, .int 0, .null, .null, .int 0]))]) (fun W => ∃ (a b c : Nat) (r : Nat → Nat) (F : Nat → Option Nat), (∀ j, j < 10 → F j = some (z.2.2.2.1 9)) ∧ W = pre ++ ((o, .inr (5, [.ref a, .int 0, .int (-1), .int 0, .ref b, .ref c, .int 0])) :: (a, .inl (lc z 1, (60, .inl (fun _ => 0)))) :: (b, .inl (lc z 3, (10, .inr (.inr (.inr (.inr F)))))) :: (c, .inl (lc z 4, (10, .inr (.inr (.inr (.inr (fun i => if i < 10 then some (r i) else none))))))) :: (List.range 10).map (fun i => (r i, .inl (lc z 0, (3, .inl (fun _ => 0))))))) := by
  refine nMet_of RX3 ⟨by decide +kernel, rfl⟩ rfl (cat_all rfl) (Nat.le_of_ble_eq_true rfl) hl (fun f hR hin hC hE => ?_)
  have hR1 := lRoom_of hR
  show AW f (nG z (pre ++ [(o, .inr (5, [.null, .int 0, .int 0, .int 0, .null, .null, .int 0]))])) 0 [some (.ref o), none] [] q0 0 0
  refine a_aload_n (pc := 0) (nOK hC _) dX3_init_0 rfl ?_
  refine n_obj (pc := 1) (nOK hC _) hR1 (by omega) rfl tw_204 tw_40 tw_41 (Nat.le_of_ble_eq_true rfl) dX3_init_1 ?_
  refine a_aload_n (pc := 4) (nOK hC _) dX3_init_4 rfl ?_
  refine a_bipush (pc := 5) (nOK hC _) dX3_init_5 (v := 60) rfl ?_
  refine n_newa (pc := 7) (atype := .char) (N' := 60) (a0 := (60, .inl (fun _ => 0))) (nOK hC _) ht hR1 1 rfl rfl tw_238 rfl (fun _ => rfl) (by decide) rfl (by decide) (by omega) (by omega) dX3_init_7 (fun q1 => ?_)
  refine n_putF (pc := 9) (nOK hC _) hin cl_X3 tyX3 tyX3_ok 0 (fs := [.null, .int 0, .int 0, .int 0, .null, .null, .int 0]) rfl 0 (by decide) tw_211 rfl rfl rfl rfl (Nat.le_of_ble_eq_true rfl) dX3_init_9 ?_
  refine a_aload_n (pc := 12) (nOK hC _) dX3_init_12 rfl ?_
  refine a_iconst (pc := 13) (nOK hC _) dX3_init_13 (v := (-1)) rfl ?_
  refine n_put (pc := 14) (nOK hC _) cl_X3 tyX3 tyX3_ok 0 (fs := [.ref q1, .int 0, .int 0, .int 0, .null, .null, .int 0]) rfl 2 (by decide) tw_214 rfl rfl rfl (Nat.le_of_ble_eq_true rfl) dX3_init_14 ?_
  refine a_aload_n (pc := 17) (nOK hC _) dX3_init_17 rfl ?_
  refine a_bipush (pc := 18) (nOK hC _) dX3_init_18 (v := 10) rfl ?_
  refine n_newq (pc := 20) (N' := 10) (nOK hC _) ht hR1 3 rfl tw_205 hC.en.2.2.2.1 (by decide) rfl (by decide) (by omega) (by omega) dX3_init_20 (fun q2 => ?_)
  refine n_putF (pc := 23) (nOK hC _) hin cl_X3 tyX3 tyX3_ok 0 (fs := [.ref q1, .int 0, .int (-1), .int 0, .null, .null, .int 0]) rfl 4 (by decide) tw_218 rfl rfl rfl rfl (Nat.le_of_ble_eq_true rfl) dX3_init_23 ?_
  refine a_aload_n (pc := 26) (nOK hC _) dX3_init_26 rfl ?_
  refine a_bipush (pc := 27) (nOK hC _) dX3_init_27 (v := 10) rfl ?_
  refine a_iconst (pc := 29) (nOK hC _) dX3_init_29 (v := 3) rfl ?_
  refine n_mna (pc := 30) (nOK hC _) ht hR1 tw_207 tw_75 (by omega) (by omega) dX3_init_30 (fun q3 r => ?_)
  refine n_putF (pc := 34) (nOK hC _) hin cl_X3 tyX3 tyX3_ok 0 (fs := [.ref q1, .int 0, .int (-1), .int 0, .ref q2, .null, .int 0]) rfl 5 (by decide) tw_220 rfl rfl rfl rfl (Nat.le_of_ble_eq_true rfl) dX3_init_34 ?_
  refine a_iconst (pc := 37) (nOK hC _) dX3_init_37 (v := 0) rfl ?_
  refine a_istore_n (pc := 38) (nOK hC _) dX3_init_38 (Nat.le_of_ble_eq_true rfl) ?_
  refine a_iload_n (pc := 39) (nOK hC _) dX3_init_39 rfl ?_
  refine a_bipush (pc := 40) (nOK hC _) dX3_init_40 (v := 10) rfl ?_
  refine a_icmp_ge (pc := 42) (tgt := 60) (nOK hC _) dX3_init_42 (by decide) (fun h => (absurd h (by decide))) (fun _ => ?_)
  refine a_aload_n (pc := 45) (nOK hC _) dX3_init_45 rfl ?_
  refine n_get (pc := 46) (nOK hC _) cl_X3 0 (fs := [.ref q1, .int 0, .int (-1), .int 0, .ref q2, .ref q3, .int 0]) rfl 4 (by decide) tw_218 rfl dX3_init_46 ?_
  refine a_iload_n (pc := 49) (nOK hC _) dX3_init_49 rfl ?_
  refine a_gets (pc := 50) (nOK hC _) (hC.en.1.1.2.2.1.1 9 (by decide)).1 tw_209 dX3_init_50 ?_
  refine n_aastk (pc := 53) (nOK hC _) ht 2 rfl (j := 9) (by decide) (by unfold vp_in; decide) dX3_init_53 ?_
  refine a_iinc (pc := 54) (nOK hC _) dX3_init_54 rfl (c := 1) rfl ?_
  refine a_goto (pc := 57) (tgt := 39) (nOK hC _) dX3_init_57 (by decide) ?_
  refine a_iload_n (pc := 39) (nOK hC _) dX3_init_39 rfl ?_
  refine a_bipush (pc := 40) (nOK hC _) dX3_init_40 (v := 10) rfl ?_
  refine a_icmp_ge (pc := 42) (tgt := 60) (nOK hC _) dX3_init_42 (by decide) (fun h => (absurd h (by decide))) (fun _ => ?_)
  refine a_aload_n (pc := 45) (nOK hC _) dX3_init_45 rfl ?_
  refine n_get (pc := 46) (nOK hC _) cl_X3 0 (fs := [.ref q1, .int 0, .int (-1), .int 0, .ref q2, .ref q3, .int 0]) rfl 4 (by decide) tw_218 rfl dX3_init_46 ?_
  refine a_iload_n (pc := 49) (nOK hC _) dX3_init_49 rfl ?_
  refine a_gets (pc := 50) (nOK hC _) (hC.en.1.1.2.2.1.1 9 (by decide)).1 tw_209 dX3_init_50 ?_
  refine n_aastk (pc := 53) (nOK hC _) ht 2 rfl (j := 9) (by decide) (by unfold vp_in; decide) dX3_init_53 ?_
  refine a_iinc (pc := 54) (nOK hC _) dX3_init_54 rfl (c := 1) rfl ?_
  refine a_goto (pc := 57) (tgt := 39) (nOK hC _) dX3_init_57 (by decide) ?_
  refine a_iload_n (pc := 39) (nOK hC _) dX3_init_39 rfl ?_
  refine a_bipush (pc := 40) (nOK hC _) dX3_init_40 (v := 10) rfl ?_
  refine a_icmp_ge (pc := 42) (tgt := 60) (nOK hC _) dX3_init_42 (by decide) (fun h => (absurd h (by decide))) (fun _ => ?_)
  refine a_aload_n (pc := 45) (nOK hC _) dX3_init_45 rfl ?_
  refine n_get (pc := 46) (nOK hC _) cl_X3 0 (fs := [.ref q1, .int 0, .int (-1), .int 0, .ref q2, .ref q3, .int 0]) rfl 4 (by decide) tw_218 rfl dX3_init_46 ?_
  refine a_iload_n (pc := 49) (nOK hC _) dX3_init_49 rfl ?_
  refine a_gets (pc := 50) (nOK hC _) (hC.en.1.1.2.2.1.1 9 (by decide)).1 tw_209 dX3_init_50 ?_
  refine n_aastk (pc := 53) (nOK hC _) ht 2 rfl (j := 9) (by decide) (by unfold vp_in; decide) dX3_init_53 ?_
  refine a_iinc (pc := 54) (nOK hC _) dX3_init_54 rfl (c := 1) rfl ?_
  refine a_goto (pc := 57) (tgt := 39) (nOK hC _) dX3_init_57 (by decide) ?_
  refine a_iload_n (pc := 39) (nOK hC _) dX3_init_39 rfl ?_
  refine a_bipush (pc := 40) (nOK hC _) dX3_init_40 (v := 10) rfl ?_
  refine a_icmp_ge (pc := 42) (tgt := 60) (nOK hC _) dX3_init_42 (by decide) (fun h => (absurd h (by decide))) (fun _ => ?_)
  refine a_aload_n (pc := 45) (nOK hC _) dX3_init_45 rfl ?_
  refine n_get (pc := 46) (nOK hC _) cl_X3 0 (fs := [.ref q1, .int 0, .int (-1), .int 0, .ref q2, .ref q3, .int 0]) rfl 4 (by decide) tw_218 rfl dX3_init_46 ?_
  refine a_iload_n (pc := 49) (nOK hC _) dX3_init_49 rfl ?_
  refine a_gets (pc := 50) (nOK hC _) (hC.en.1.1.2.2.1.1 9 (by decide)).1 tw_209 dX3_init_50 ?_
  refine n_aastk (pc := 53) (nOK hC _) ht 2 rfl (j := 9) (by decide) (by unfold vp_in; decide) dX3_init_53 ?_
  refine a_iinc (pc := 54) (nOK hC _) dX3_init_54 rfl (c := 1) rfl ?_
  refine a_goto (pc := 57) (tgt := 39) (nOK hC _) dX3_init_57 (by decide) ?_
  refine a_iload_n (pc := 39) (nOK hC _) dX3_init_39 rfl ?_
  refine a_bipush (pc := 40) (nOK hC _) dX3_init_40 (v := 10) rfl ?_
  refine a_icmp_ge (pc := 42) (tgt := 60) (nOK hC _) dX3_init_42 (by decide) (fun h => (absurd h (by decide))) (fun _ => ?_)
  refine a_aload_n (pc := 45) (nOK hC _) dX3_init_45 rfl ?_
  refine n_get (pc := 46) (nOK hC _) cl_X3 0 (fs := [.ref q1, .int 0, .int (-1), .int 0, .ref q2, .ref q3, .int 0]) rfl 4 (by decide) tw_218 rfl dX3_init_46 ?_
  refine a_iload_n (pc := 49) (nOK hC _) dX3_init_49 rfl ?_
  refine a_gets (pc := 50) (nOK hC _) (hC.en.1.1.2.2.1.1 9 (by decide)).1 tw_209 dX3_init_50 ?_
  refine n_aastk (pc := 53) (nOK hC _) ht 2 rfl (j := 9) (by decide) (by unfold vp_in; decide) dX3_init_53 ?_
  refine a_iinc (pc := 54) (nOK hC _) dX3_init_54 rfl (c := 1) rfl ?_
  refine a_goto (pc := 57) (tgt := 39) (nOK hC _) dX3_init_57 (by decide) ?_
  refine a_iload_n (pc := 39) (nOK hC _) dX3_init_39 rfl ?_
  refine a_bipush (pc := 40) (nOK hC _) dX3_init_40 (v := 10) rfl ?_
  refine a_icmp_ge (pc := 42) (tgt := 60) (nOK hC _) dX3_init_42 (by decide) (fun h => (absurd h (by decide))) (fun _ => ?_)
  refine a_aload_n (pc := 45) (nOK hC _) dX3_init_45 rfl ?_
  refine n_get (pc := 46) (nOK hC _) cl_X3 0 (fs := [.ref q1, .int 0, .int (-1), .int 0, .ref q2, .ref q3, .int 0]) rfl 4 (by decide) tw_218 rfl dX3_init_46 ?_
  refine a_iload_n (pc := 49) (nOK hC _) dX3_init_49 rfl ?_
  refine a_gets (pc := 50) (nOK hC _) (hC.en.1.1.2.2.1.1 9 (by decide)).1 tw_209 dX3_init_50 ?_
  refine n_aastk (pc := 53) (nOK hC _) ht 2 rfl (j := 9) (by decide) (by unfold vp_in; decide) dX3_init_53 ?_
  refine a_iinc (pc := 54) (nOK hC _) dX3_init_54 rfl (c := 1) rfl ?_
  refine a_goto (pc := 57) (tgt := 39) (nOK hC _) dX3_init_57 (by decide) ?_
  refine a_iload_n (pc := 39) (nOK hC _) dX3_init_39 rfl ?_
  refine a_bipush (pc := 40) (nOK hC _) dX3_init_40 (v := 10) rfl ?_
  refine a_icmp_ge (pc := 42) (tgt := 60) (nOK hC _) dX3_init_42 (by decide) (fun h => (absurd h (by decide))) (fun _ => ?_)
  refine a_aload_n (pc := 45) (nOK hC _) dX3_init_45 rfl ?_
  refine n_get (pc := 46) (nOK hC _) cl_X3 0 (fs := [.ref q1, .int 0, .int (-1), .int 0, .ref q2, .ref q3, .int 0]) rfl 4 (by decide) tw_218 rfl dX3_init_46 ?_
  refine a_iload_n (pc := 49) (nOK hC _) dX3_init_49 rfl ?_
  refine a_gets (pc := 50) (nOK hC _) (hC.en.1.1.2.2.1.1 9 (by decide)).1 tw_209 dX3_init_50 ?_
  refine n_aastk (pc := 53) (nOK hC _) ht 2 rfl (j := 9) (by decide) (by unfold vp_in; decide) dX3_init_53 ?_
  refine a_iinc (pc := 54) (nOK hC _) dX3_init_54 rfl (c := 1) rfl ?_
  refine a_goto (pc := 57) (tgt := 39) (nOK hC _) dX3_init_57 (by decide) ?_
  refine a_iload_n (pc := 39) (nOK hC _) dX3_init_39 rfl ?_
  refine a_bipush (pc := 40) (nOK hC _) dX3_init_40 (v := 10) rfl ?_
  refine a_icmp_ge (pc := 42) (tgt := 60) (nOK hC _) dX3_init_42 (by decide) (fun h => (absurd h (by decide))) (fun _ => ?_)
  refine a_aload_n (pc := 45) (nOK hC _) dX3_init_45 rfl ?_
  refine n_get (pc := 46) (nOK hC _) cl_X3 0 (fs := [.ref q1, .int 0, .int (-1), .int 0, .ref q2, .ref q3, .int 0]) rfl 4 (by decide) tw_218 rfl dX3_init_46 ?_
  refine a_iload_n (pc := 49) (nOK hC _) dX3_init_49 rfl ?_
  refine a_gets (pc := 50) (nOK hC _) (hC.en.1.1.2.2.1.1 9 (by decide)).1 tw_209 dX3_init_50 ?_
  refine n_aastk (pc := 53) (nOK hC _) ht 2 rfl (j := 9) (by decide) (by unfold vp_in; decide) dX3_init_53 ?_
  refine a_iinc (pc := 54) (nOK hC _) dX3_init_54 rfl (c := 1) rfl ?_
  refine a_goto (pc := 57) (tgt := 39) (nOK hC _) dX3_init_57 (by decide) ?_
  refine a_iload_n (pc := 39) (nOK hC _) dX3_init_39 rfl ?_
  refine a_bipush (pc := 40) (nOK hC _) dX3_init_40 (v := 10) rfl ?_
  refine a_icmp_ge (pc := 42) (tgt := 60) (nOK hC _) dX3_init_42 (by decide) (fun h => (absurd h (by decide))) (fun _ => ?_)
  refine a_aload_n (pc := 45) (nOK hC _) dX3_init_45 rfl ?_
  refine n_get (pc := 46) (nOK hC _) cl_X3 0 (fs := [.ref q1, .int 0, .int (-1), .int 0, .ref q2, .ref q3, .int 0]) rfl 4 (by decide) tw_218 rfl dX3_init_46 ?_
  refine a_iload_n (pc := 49) (nOK hC _) dX3_init_49 rfl ?_
  refine a_gets (pc := 50) (nOK hC _) (hC.en.1.1.2.2.1.1 9 (by decide)).1 tw_209 dX3_init_50 ?_
  refine n_aastk (pc := 53) (nOK hC _) ht 2 rfl (j := 9) (by decide) (by unfold vp_in; decide) dX3_init_53 ?_
  refine a_iinc (pc := 54) (nOK hC _) dX3_init_54 rfl (c := 1) rfl ?_
  refine a_goto (pc := 57) (tgt := 39) (nOK hC _) dX3_init_57 (by decide) ?_
  refine a_iload_n (pc := 39) (nOK hC _) dX3_init_39 rfl ?_
  refine a_bipush (pc := 40) (nOK hC _) dX3_init_40 (v := 10) rfl ?_
  refine a_icmp_ge (pc := 42) (tgt := 60) (nOK hC _) dX3_init_42 (by decide) (fun h => (absurd h (by decide))) (fun _ => ?_)
  refine a_aload_n (pc := 45) (nOK hC _) dX3_init_45 rfl ?_
  refine n_get (pc := 46) (nOK hC _) cl_X3 0 (fs := [.ref q1, .int 0, .int (-1), .int 0, .ref q2, .ref q3, .int 0]) rfl 4 (by decide) tw_218 rfl dX3_init_46 ?_
  refine a_iload_n (pc := 49) (nOK hC _) dX3_init_49 rfl ?_
  refine a_gets (pc := 50) (nOK hC _) (hC.en.1.1.2.2.1.1 9 (by decide)).1 tw_209 dX3_init_50 ?_
  refine n_aastk (pc := 53) (nOK hC _) ht 2 rfl (j := 9) (by decide) (by unfold vp_in; decide) dX3_init_53 ?_
  refine a_iinc (pc := 54) (nOK hC _) dX3_init_54 rfl (c := 1) rfl ?_
  refine a_goto (pc := 57) (tgt := 39) (nOK hC _) dX3_init_57 (by decide) ?_
  refine a_iload_n (pc := 39) (nOK hC _) dX3_init_39 rfl ?_
  refine a_bipush (pc := 40) (nOK hC _) dX3_init_40 (v := 10) rfl ?_
  refine a_icmp_ge (pc := 42) (tgt := 60) (nOK hC _) dX3_init_42 (by decide) (fun _ => ?_) (fun h => (h (by decide)).elim)
  refine n_vret (pc := 60) (nOK hC _) hE ⟨q1, q2, q3, r, _, fun j hj => ?_, rfl⟩ (by omega) (by omega) dX3_init_60
  rcases (show j = 0 ∨ j = 1 ∨ j = 2 ∨ j = 3 ∨ j = 4 ∨ j = 5 ∨ j = 6 ∨ j = 7 ∨ j = 8 ∨ j = 9 by omega) with rfl | rfl | rfl | rfl | rfl | rfl | rfl | rfl | rfl | rfl <;> rfl
theorem dJ5_init_d00df_0 : decode cJ5_init_d00df 0 = .ok (.aload_n 0, 1) := by decide +kernel
theorem dJ5_init_d00df_1 : decode cJ5_init_d00df 1 = .ok (.invokespecial 3, 3) := by decide +kernel
theorem dJ5_init_d00df_4 : decode cJ5_init_d00df 4 = .ok (.getstatic 18, 3) := by decide +kernel
theorem dJ5_init_d00df_7 : decode cJ5_init_d00df 7 = .ok (.ifCond .eq 18, 3) := by decide +kernel
theorem dJ5_init_d00df_10 : decode cJ5_init_d00df 10 = .ok (.aload_n 0, 1) := by decide +kernel
theorem dJ5_init_d00df_11 : decode cJ5_init_d00df 11 = .ok (.iload_n 1, 1) := by decide +kernel
theorem dJ5_init_d00df_12 : decode cJ5_init_d00df 12 = .ok (.newarray .byte, 2) := by decide +kernel
theorem dJ5_init_d00df_14 : decode cJ5_init_d00df 14 = .ok (.putfield 15, 3) := by decide +kernel
theorem dJ5_init_d00df_17 : decode cJ5_init_d00df 17 = .ok (.aload_n 0, 1) := by decide +kernel
theorem dJ5_init_d00df_18 : decode cJ5_init_d00df 18 = .ok (.iconst 0, 1) := by decide +kernel
theorem dJ5_init_d00df_19 : decode cJ5_init_d00df 19 = .ok (.putfield 22, 3) := by decide +kernel
theorem dJ5_init_d00df_22 : decode cJ5_init_d00df 22 = .ok (.goto 16, 3) := by decide +kernel
theorem dJ5_init_d00df_25 : decode cJ5_init_d00df 25 = .ok (.aload_n 0, 1) := by decide +kernel
theorem dJ5_init_d00df_26 : decode cJ5_init_d00df 26 = .ok (.iload_n 1, 1) := by decide +kernel
theorem dJ5_init_d00df_27 : decode cJ5_init_d00df 27 = .ok (.invokestatic 26, 3) := by decide +kernel
theorem dJ5_init_d00df_30 : decode cJ5_init_d00df 30 = .ok (.putfield 15, 3) := by decide +kernel
theorem dJ5_init_d00df_33 : decode cJ5_init_d00df 33 = .ok (.aload_n 0, 1) := by decide +kernel
theorem dJ5_init_d00df_34 : decode cJ5_init_d00df 34 = .ok (.iconst 1, 1) := by decide +kernel
theorem dJ5_init_d00df_35 : decode cJ5_init_d00df 35 = .ok (.putfield 22, 3) := by decide +kernel
theorem dJ5_init_d00df_38 : decode cJ5_init_d00df 38 = .ok (.return_, 1) := by decide +kernel
theorem nm_J5_init_d00df : nIm yJ5_init_d00df cJ5_init_d00df 2 1 := ⟨tw_277, tw_276, tw_11, rfl, by decide +kernel, by decide +kernel, by decide +kernel⟩
set_option maxRecDepth 20000 in
theorem k_J5_init_d00df {l : Launch} {z : lP} (ht : z.2.1.map Prod.snd = tyX) (hl : l.stackTraces = false) (o : Nat) (pre : va_W) : nMet l z yJ5_init_d00df (aWs yJ5_init_d00df cJ5_init_d00df 2 none) 1 1 16 [.ref o, .int 16] (pre ++ [(o, .inr (1, [.null, .int 0, .int 0, .int 0]))]) (fun W => ∃ qv : Nat, W = pre ++ [(o, .inr (1, [.ref qv, .int 0, .int 0, .int 0])), (qv, .inl (lc z 5, (16, .inl (fun _ => 0))))]) := by
  refine nMet_of RJ5 ⟨by decide +kernel, rfl⟩ rfl (cat_all rfl) (Nat.le_of_ble_eq_true rfl) hl (fun f hR hin hC hE => ?_)
  have hR1 := lRoom_of hR
  show AW f (nG z (pre ++ [(o, .inr (1, [.null, .int 0, .int 0, .int 0]))])) 0 [some (.ref o), some (.int 16)] [] q0 0 0
  refine a_aload_n (pc := 0) (nOK hC _) dJ5_init_d00df_0 rfl ?_
  refine n_obj (pc := 1) (nOK hC _) hR1 (by omega) rfl tw_278 tw_40 tw_41 (Nat.le_of_ble_eq_true rfl) dJ5_init_d00df_1 ?_
  refine a_gets (pc := 4) (nOK hC _) hC.en.1.1.1.2.1 tw_279 dJ5_init_d00df_4 ?_
  refine a_if_eq (pc := 7) (tgt := 25) (nOK hC _) dJ5_init_d00df_7 (by decide) (fun h => (absurd h (by decide))) (fun _ => ?_)
  refine a_aload_n (pc := 10) (nOK hC _) dJ5_init_d00df_10 rfl ?_
  refine a_iload_n (pc := 11) (nOK hC _) dJ5_init_d00df_11 rfl ?_
  refine n_newa (pc := 12) (atype := .byte) (N' := 16) (a0 := (16, .inl (fun _ => 0))) (nOK hC _) ht hR1 5 rfl rfl tw_302 rfl (fun _ => rfl) (by decide) rfl (by decide) (by omega) (by omega) dJ5_init_d00df_12 (fun q1 => ?_)
  refine n_put (pc := 14) (nOK hC _) cl_J4 tyJ4 tyJ4_ok 0 (fs := [.null, .int 0, .int 0, .int 0]) rfl 0 (by decide) tw_288 rfl rfl rfl (Nat.le_of_ble_eq_true rfl) dJ5_init_d00df_14 ?_
  refine a_aload_n (pc := 17) (nOK hC _) dJ5_init_d00df_17 rfl ?_
  refine a_iconst (pc := 18) (nOK hC _) dJ5_init_d00df_18 (v := 0) rfl ?_
  refine n_put (pc := 19) (nOK hC _) cl_J4 tyJ4 tyJ4_ok 0 (fs := [.ref q1, .int 0, .int 0, .int 0]) rfl 1 (by decide) tw_289 rfl rfl rfl (Nat.le_of_ble_eq_true rfl) dJ5_init_d00df_19 ?_
  refine a_goto (pc := 22) (tgt := 38) (nOK hC _) dJ5_init_d00df_22 (by decide) ?_
  exact n_vret (pc := 38) (nOK hC _) hE ⟨q1, rfl⟩ (by omega) (by omega) dJ5_init_d00df_38
theorem dJ4_init_da8c8_0 : decode cJ4_init_da8c8 0 = .ok (.aload_n 0, 1) := by decide +kernel
theorem dJ4_init_da8c8_1 : decode cJ4_init_da8c8 1 = .ok (.bipush 16, 2) := by decide +kernel
theorem dJ4_init_da8c8_3 : decode cJ4_init_da8c8 3 = .ok (.invokespecial 1, 3) := by decide +kernel
theorem dJ4_init_da8c8_6 : decode cJ4_init_da8c8 6 = .ok (.return_, 1) := by decide +kernel
theorem nm_J4_init_da8c8 : nIm yJ4_init_da8c8 cJ4_init_da8c8 1 0 := ⟨tw_274, tw_273, tw_12, rfl, by decide +kernel, by decide +kernel, by decide +kernel⟩
set_option maxRecDepth 20000 in
theorem k_J4_init_da8c8 {l : Launch} {z : lP} (ht : z.2.1.map Prod.snd = tyX) (hl : l.stackTraces = false) (o : Nat) (pre : va_W) : nMet l z yJ4_init_da8c8 (aWs yJ4_init_da8c8 cJ4_init_da8c8 1 none) 2 1 16 [.ref o] (pre ++ [(o, .inr (1, [.null, .int 0, .int 0, .int 0]))]) (fun W => ∃ qv : Nat, W = pre ++ [(o, .inr (1, [.ref qv, .int 0, .int 0, .int 0])), (qv, .inl (lc z 5, (16, .inl (fun _ => 0))))]) := by
  refine nMet_of RJ4 ⟨by decide +kernel, rfl⟩ rfl (cat_all rfl) (Nat.le_of_ble_eq_true rfl) hl (fun f hR hin hC hE => ?_)
  have hR1 := lRoom_of hR
  show AW f (nG z (pre ++ [(o, .inr (1, [.null, .int 0, .int 0, .int 0]))])) 0 [some (.ref o)] [] q0 0 0
  refine a_aload_n (pc := 0) (nOK hC _) dJ4_init_da8c8_0 rfl ?_
  refine a_bipush (pc := 1) (nOK hC _) dJ4_init_da8c8_1 (v := 16) rfl ?_
  refine n_call (pc := 3) (nOK hC _) hR1 nm_J5_init_d00df tw_275 ⟨(Nat.le_of_ble_eq_true rfl), (Nat.le_of_ble_eq_true rfl), by omega, by omega⟩ dJ4_init_da8c8_3 (k_J5_init_d00df ht hC.tr _ _) rfl rfl rfl (Nat.le_of_ble_eq_true rfl) (fun W h => ?_)
  exact n_vret (pc := 6) (nOK hC _) hE h (by omega) (by omega) dJ4_init_da8c8_6

def dX0 : Nat → Nat → Int32 := fun k i => if k = 190 then (if i = 2 then -1 else 0) else if k = 192 then 9 else 0
def eX (ad kd : Nat → Nat) (c : Nat → ClassId) (F G H : Nat → Option Nat) (k : Nat) : va_E :=
  if k = 53 then .inl (c 2, (8, .inr (.inr (.inr (.inr F))))) else if k = 192 then .inl (c 3, (10, .inr (.inr (.inr (.inr G))))) else if k = 193 then .inl (c 4, (10, .inr (.inr (.inr (.inr H))))) else shX ad kd c k (dX0 k)
theorem dX9_init_0 : decode cX9_init 0 = .ok (.aload_n 0, 1) := by decide +kernel
theorem dX9_init_1 : decode cX9_init 1 = .ok (.invokespecial 1, 3) := by decide +kernel
theorem dX9_init_4 : decode cX9_init 4 = .ok (.aload_n 0, 1) := by decide +kernel
theorem dX9_init_5 : decode cX9_init 5 = .ok (.new 7, 3) := by decide +kernel
theorem dX9_init_8 : decode cX9_init 8 = .ok (.dup, 1) := by decide +kernel
theorem dX9_init_9 : decode cX9_init 9 = .ok (.invokespecial 9, 3) := by decide +kernel
theorem dX9_init_12 : decode cX9_init 12 = .ok (.putfield 10, 3) := by decide +kernel
theorem dX9_init_15 : decode cX9_init 15 = .ok (.aload_n 0, 1) := by decide +kernel
theorem dX9_init_16 : decode cX9_init 16 = .ok (.new 7, 3) := by decide +kernel
theorem dX9_init_19 : decode cX9_init 19 = .ok (.dup, 1) := by decide +kernel
theorem dX9_init_20 : decode cX9_init 20 = .ok (.invokespecial 9, 3) := by decide +kernel
theorem dX9_init_23 : decode cX9_init 23 = .ok (.putfield 16, 3) := by decide +kernel
theorem dX9_init_26 : decode cX9_init 26 = .ok (.aload_n 0, 1) := by decide +kernel
theorem dX9_init_27 : decode cX9_init 27 = .ok (.new 7, 3) := by decide +kernel
theorem dX9_init_30 : decode cX9_init 30 = .ok (.dup, 1) := by decide +kernel
theorem dX9_init_31 : decode cX9_init 31 = .ok (.invokespecial 9, 3) := by decide +kernel
theorem dX9_init_34 : decode cX9_init 34 = .ok (.putfield 19, 3) := by decide +kernel
theorem dX9_init_37 : decode cX9_init 37 = .ok (.aload_n 0, 1) := by decide +kernel
theorem dX9_init_38 : decode cX9_init 38 = .ok (.new 22, 3) := by decide +kernel
theorem dX9_init_41 : decode cX9_init 41 = .ok (.dup, 1) := by decide +kernel
theorem dX9_init_42 : decode cX9_init 42 = .ok (.invokespecial 24, 3) := by decide +kernel
theorem dX9_init_45 : decode cX9_init 45 = .ok (.putfield 25, 3) := by decide +kernel
theorem dX9_init_48 : decode cX9_init 48 = .ok (.aload_n 0, 1) := by decide +kernel
theorem dX9_init_49 : decode cX9_init 49 = .ok (.new 29, 3) := by decide +kernel
theorem dX9_init_52 : decode cX9_init 52 = .ok (.dup, 1) := by decide +kernel
theorem dX9_init_53 : decode cX9_init 53 = .ok (.invokespecial 31, 3) := by decide +kernel
theorem dX9_init_56 : decode cX9_init 56 = .ok (.putfield 32, 3) := by decide +kernel
theorem dX9_init_59 : decode cX9_init 59 = .ok (.aload_n 0, 1) := by decide +kernel
theorem dX9_init_60 : decode cX9_init 60 = .ok (.new 36, 3) := by decide +kernel
theorem dX9_init_63 : decode cX9_init 63 = .ok (.dup, 1) := by decide +kernel
theorem dX9_init_64 : decode cX9_init 64 = .ok (.invokespecial 38, 3) := by decide +kernel
theorem dX9_init_67 : decode cX9_init 67 = .ok (.putfield 39, 3) := by decide +kernel
theorem dX9_init_70 : decode cX9_init 70 = .ok (.aload_n 0, 1) := by decide +kernel
theorem dX9_init_71 : decode cX9_init 71 = .ok (.new 43, 3) := by decide +kernel
theorem dX9_init_74 : decode cX9_init 74 = .ok (.dup, 1) := by decide +kernel
theorem dX9_init_75 : decode cX9_init 75 = .ok (.invokespecial 45, 3) := by decide +kernel
theorem dX9_init_78 : decode cX9_init 78 = .ok (.putfield 46, 3) := by decide +kernel
theorem dX9_init_81 : decode cX9_init 81 = .ok (.return_, 1) := by decide +kernel
theorem nm_X9_init : nIm yX9_init cX9_init 1 0 := ⟨tw_38, tw_37, tw_1, rfl, by decide +kernel, by decide +kernel, by decide +kernel⟩
set_option maxRecDepth 20000 in
theorem k_X9_init {l : Launch} {z : lP} (ht : z.2.1.map Prod.snd = tyX) (hl : l.stackTraces = false) (o : Nat) (pre : va_W) : nMet l z yX9_init (aWs yX9_init cX9_init 1 none) 4 206 1375 [.ref o] (pre ++ [(o, .inr (11, [.null, .null, .null, .int 0, .null, .null, .null, .null]))]) (fun W => ∃ (ad : Nat → Nat) (qv : Nat) (F G H : Nat → Option Nat), (∀ j, j < 8 → F j = some (ad (54 + 17 * j))) ∧ (∀ j, j < 10 → G j = some (z.2.2.2.1 9)) ∧ (∀ j, j < 10 → H j = some (ad (194 + j))) ∧ ad 0 = o ∧ W = pre ++ ((List.range 205).map (fun k => (ad k, eX ad z.2.2.2.1 (lc z) F G H k)) ++ [(ad 205, .inr (1, [.ref qv, .int 0, .int 0, .int 0])), (qv, .inl (lc z 5, (16, .inl (fun _ => 0))))])) := by
  refine nMet_of RX9 ⟨by decide +kernel, rfl⟩ rfl (cat_all rfl) (Nat.le_of_ble_eq_true rfl) hl (fun f hR hin hC hE => ?_)
  have hR1 := lRoom_of hR
  show AW f (nG z (pre ++ [(o, .inr (11, [.null, .null, .null, .int 0, .null, .null, .null, .null]))])) 0 [some (.ref o)] [] q0 0 0
  refine a_aload_n (pc := 0) (nOK hC _) dX9_init_0 rfl ?_
  refine n_obj (pc := 1) (nOK hC _) hR1 (by omega) rfl tw_39 tw_40 tw_41 (Nat.le_of_ble_eq_true rfl) dX9_init_1 ?_
  refine a_aload_n (pc := 4) (nOK hC _) dX9_init_4 rfl ?_
  refine n_new (pc := 5) (nOK hC _) hR1 cl_X8 tyX8 tyX8_ok tw_42 tw_43 tw_2 (fs := [.null, .null, .null, .int 0, .int 0, .int 0, .int 0]) (fun j hj => by rcases (show j = 0 ∨ j = 1 ∨ j = 2 ∨ j = 3 ∨ j = 4 ∨ j = 5 ∨ j = 6 by omega) with rfl | rfl | rfl | rfl | rfl | rfl | rfl <;> rfl) (by omega) (by omega) dX9_init_5 (fun p5_0 => ?_)
  refine a_dup (pc := 8) (nOK hC _) dX9_init_8 rfl ?_
  refine n_callN (pc := 9) (nOK hC _) hR1 nm_X8_init (List.mem_of_getElem? (i := 0) rfl) ⟨(Nat.le_of_ble_eq_true rfl), (Nat.le_of_ble_eq_true rfl), by omega, by omega⟩ dX9_init_9 (k_X8_init ht hC.tr _ _) rfl rfl rfl (Nat.le_of_ble_eq_true rfl) (fun W h => ?_)
  obtain ⟨x9_0, rfl, rfl⟩ := h
  rw [List.append_assoc]
  refine n_putF (pc := 12) (nOK hC _) hin cl_X9 tyX9 tyX9_ok 0 (fs := [.null, .null, .null, .int 0, .null, .null, .null, .null]) rfl 0 (by decide) tw_303 rfl rfl rfl rfl (Nat.le_of_ble_eq_true rfl) dX9_init_12 ?_
  refine a_aload_n (pc := 15) (nOK hC _) dX9_init_15 rfl ?_
  refine n_new (pc := 16) (nOK hC _) hR1 cl_X8 tyX8 tyX8_ok tw_42 tw_43 tw_2 (fs := [.null, .null, .null, .int 0, .int 0, .int 0, .int 0]) (fun j hj => by rcases (show j = 0 ∨ j = 1 ∨ j = 2 ∨ j = 3 ∨ j = 4 ∨ j = 5 ∨ j = 6 by omega) with rfl | rfl | rfl | rfl | rfl | rfl | rfl <;> rfl) (by omega) (by omega) dX9_init_16 (fun p16_0 => ?_)
  refine a_dup (pc := 19) (nOK hC _) dX9_init_19 rfl ?_
  refine n_callN (pc := 20) (nOK hC _) hR1 nm_X8_init (List.mem_of_getElem? (i := 0) rfl) ⟨(Nat.le_of_ble_eq_true rfl), (Nat.le_of_ble_eq_true rfl), by omega, by omega⟩ dX9_init_20 (k_X8_init ht hC.tr _ _) rfl rfl rfl (Nat.le_of_ble_eq_true rfl) (fun W h => ?_)
  obtain ⟨x20_0, rfl, rfl⟩ := h
  rw [List.append_assoc]
  refine n_putF (pc := 23) (nOK hC _) hin cl_X9 tyX9 tyX9_ok 0 (fs := [.ref (x9_0 0), .null, .null, .int 0, .null, .null, .null, .null]) rfl 1 (by decide) tw_304 rfl rfl rfl rfl (Nat.le_of_ble_eq_true rfl) dX9_init_23 ?_
  refine a_aload_n (pc := 26) (nOK hC _) dX9_init_26 rfl ?_
  refine n_new (pc := 27) (nOK hC _) hR1 cl_X8 tyX8 tyX8_ok tw_42 tw_43 tw_2 (fs := [.null, .null, .null, .int 0, .int 0, .int 0, .int 0]) (fun j hj => by rcases (show j = 0 ∨ j = 1 ∨ j = 2 ∨ j = 3 ∨ j = 4 ∨ j = 5 ∨ j = 6 by omega) with rfl | rfl | rfl | rfl | rfl | rfl | rfl <;> rfl) (by omega) (by omega) dX9_init_27 (fun p27_0 => ?_)
  refine a_dup (pc := 30) (nOK hC _) dX9_init_30 rfl ?_
  refine n_callN (pc := 31) (nOK hC _) hR1 nm_X8_init (List.mem_of_getElem? (i := 0) rfl) ⟨(Nat.le_of_ble_eq_true rfl), (Nat.le_of_ble_eq_true rfl), by omega, by omega⟩ dX9_init_31 (k_X8_init ht hC.tr _ _) rfl rfl rfl (Nat.le_of_ble_eq_true rfl) (fun W h => ?_)
  obtain ⟨x31_0, rfl, rfl⟩ := h
  rw [List.append_assoc]
  refine n_putF (pc := 34) (nOK hC _) hin cl_X9 tyX9 tyX9_ok 0 (fs := [.ref (x9_0 0), .ref (x20_0 0), .null, .int 0, .null, .null, .null, .null]) rfl 2 (by decide) tw_305 rfl rfl rfl rfl (Nat.le_of_ble_eq_true rfl) dX9_init_34 ?_
  refine a_aload_n (pc := 37) (nOK hC _) dX9_init_37 rfl ?_
  refine n_new (pc := 38) (nOK hC _) hR1 cl_X4 tyX4 tyX4_ok tw_179 tw_180 tw_6 (fs := [.null, .int 0, .int 0]) (fun j hj => by rcases (show j = 0 ∨ j = 1 ∨ j = 2 by omega) with rfl | rfl | rfl <;> rfl) (by omega) (by omega) dX9_init_38 (fun p38_0 => ?_)
  refine a_dup (pc := 41) (nOK hC _) dX9_init_41 rfl ?_
  refine n_call (pc := 42) (nOK hC _) hR1 nm_X4_init tw_181 ⟨(Nat.le_of_ble_eq_true rfl), (Nat.le_of_ble_eq_true rfl), by omega, by omega⟩ dX9_init_42 (k_X4_init ht hC.tr _ _) rfl rfl rfl (Nat.le_of_ble_eq_true rfl) (fun W h => ?_)
  obtain ⟨rx42_0, sx42_0, Fx42_0, hFx42_0, rfl⟩ := h
  rw [List.append_assoc]
  refine n_putF (pc := 45) (nOK hC _) hin cl_X9 tyX9 tyX9_ok 0 (fs := [.ref (x9_0 0), .ref (x20_0 0), .ref (x31_0 0), .int 0, .null, .null, .null, .null]) rfl 4 (by decide) tw_306 rfl rfl rfl rfl (Nat.le_of_ble_eq_true rfl) dX9_init_45 ?_
  refine a_aload_n (pc := 48) (nOK hC _) dX9_init_48 rfl ?_
  refine n_new (pc := 49) (nOK hC _) hR1 cl_X3 tyX3 tyX3_ok tw_199 tw_200 tw_7 (fs := [.null, .int 0, .int 0, .int 0, .null, .null, .int 0]) (fun j hj => by rcases (show j = 0 ∨ j = 1 ∨ j = 2 ∨ j = 3 ∨ j = 4 ∨ j = 5 ∨ j = 6 by omega) with rfl | rfl | rfl | rfl | rfl | rfl | rfl <;> rfl) (by omega) (by omega) dX9_init_49 (fun p49_0 => ?_)
  refine a_dup (pc := 52) (nOK hC _) dX9_init_52 rfl ?_
  refine n_call (pc := 53) (nOK hC _) hR1 nm_X3_init tw_201 ⟨(Nat.le_of_ble_eq_true rfl), (Nat.le_of_ble_eq_true rfl), by omega, by omega⟩ dX9_init_53 (k_X3_init ht hC.tr _ _) rfl rfl rfl (Nat.le_of_ble_eq_true rfl) (fun W h => ?_)
  obtain ⟨ax53_0, bx53_0, cx53_0, rx53_0, Fx53_0, hFx53_0, rfl⟩ := h
  rw [List.append_assoc]
  refine n_putF (pc := 56) (nOK hC _) hin cl_X9 tyX9 tyX9_ok 0 (fs := [.ref (x9_0 0), .ref (x20_0 0), .ref (x31_0 0), .int 0, .ref p38_0, .null, .null, .null]) rfl 5 (by decide) tw_307 rfl rfl rfl rfl (Nat.le_of_ble_eq_true rfl) dX9_init_56 ?_
  refine a_aload_n (pc := 59) (nOK hC _) dX9_init_59 rfl ?_
  refine n_new (pc := 60) (nOK hC _) hR1 cl_X5 tyX5 tyX5_ok tw_239 tw_240 tw_10 (fs := [.int 0, .int 0, .int 0, .int 0, .int 0, .int 0]) (fun j hj => by rcases (show j = 0 ∨ j = 1 ∨ j = 2 ∨ j = 3 ∨ j = 4 ∨ j = 5 by omega) with rfl | rfl | rfl | rfl | rfl | rfl <;> rfl) (by omega) (by omega) dX9_init_60 (fun p60_0 => ?_)
  refine a_dup (pc := 63) (nOK hC _) dX9_init_63 rfl ?_
  refine n_callN (pc := 64) (nOK hC _) hR1 nm_X5_init (List.mem_of_getElem? (i := 5) rfl) ⟨(Nat.le_of_ble_eq_true rfl), (Nat.le_of_ble_eq_true rfl), by omega, by omega⟩ dX9_init_64 (k_X5_init ht hC.tr _ _) rfl rfl rfl (Nat.le_of_ble_eq_true rfl) (fun W h => ?_)
  obtain ⟨rfl⟩ := h
  rw [List.append_assoc]
  refine n_putF (pc := 67) (nOK hC _) hin cl_X9 tyX9 tyX9_ok 0 (fs := [.ref (x9_0 0), .ref (x20_0 0), .ref (x31_0 0), .int 0, .ref p38_0, .ref p49_0, .null, .null]) rfl 6 (by decide) tw_308 rfl rfl rfl rfl (Nat.le_of_ble_eq_true rfl) dX9_init_67 ?_
  refine a_aload_n (pc := 70) (nOK hC _) dX9_init_70 rfl ?_
  refine n_new (pc := 71) (nOK hC _) hR1 cl_J4 tyJ4 tyJ4_ok tw_270 tw_271 tw_12 (fs := [.null, .int 0, .int 0, .int 0]) (fun j hj => by rcases (show j = 0 ∨ j = 1 ∨ j = 2 ∨ j = 3 by omega) with rfl | rfl | rfl | rfl <;> rfl) (by omega) (by omega) dX9_init_71 (fun p71_0 => ?_)
  refine a_dup (pc := 74) (nOK hC _) dX9_init_74 rfl ?_
  refine n_call (pc := 75) (nOK hC _) hR1 nm_J4_init_da8c8 tw_272 ⟨(Nat.le_of_ble_eq_true rfl), (Nat.le_of_ble_eq_true rfl), by omega, by omega⟩ dX9_init_75 (k_J4_init_da8c8 ht hC.tr _ _) rfl rfl rfl (Nat.le_of_ble_eq_true rfl) (fun W h => ?_)
  obtain ⟨x75_0, rfl⟩ := h
  rw [List.append_assoc]
  refine n_putF (pc := 78) (nOK hC _) hin cl_X9 tyX9 tyX9_ok 0 (fs := [.ref (x9_0 0), .ref (x20_0 0), .ref (x31_0 0), .int 0, .ref p38_0, .ref p49_0, .ref p60_0, .null]) rfl 7 (by decide) tw_309 rfl rfl rfl rfl (Nat.le_of_ble_eq_true rfl) dX9_init_78 ?_
  refine n_vret (pc := 81) (nOK hC _) hE ⟨fun k => if k = 0 then o else if k < 18 then x9_0 (k - 1) else if k < 35 then x20_0 (k - 18) else if k < 52 then x31_0 (k - 35) else if k = 52 then p38_0 else if k = 53 then rx42_0 else if k < 190 then sx42_0 (k - 54) else if k = 190 then p49_0 else if k = 191 then ax53_0 else if k = 192 then bx53_0 else if k = 193 then cx53_0 else if k < 204 then rx53_0 (k - 194) else if k = 204 then p60_0 else p71_0, x75_0, Fx42_0, Fx53_0, _, fun j hj => ?_, fun j hj => ?_, fun j hj => ?_, rfl, rfl⟩ (by omega) (by omega) dX9_init_81
  · rw [hFx42_0 j hj]; rcases (show j = 0 ∨ j = 1 ∨ j = 2 ∨ j = 3 ∨ j = 4 ∨ j = 5 ∨ j = 6 ∨ j = 7 by omega) with rfl | rfl | rfl | rfl | rfl | rfl | rfl | rfl <;> rfl
  · exact hFx53_0 j hj
  · rcases (show j = 0 ∨ j = 1 ∨ j = 2 ∨ j = 3 ∨ j = 4 ∨ j = 5 ∨ j = 6 ∨ j = 7 ∨ j = 8 ∨ j = 9 by omega) with rfl | rfl | rfl | rfl | rfl | rfl | rfl | rfl | rfl | rfl <;> rfl

theorem sx_13 : "java/lang/UnsupportedOperationException" ∈ sExc := by decide +kernel
theorem sx_44 : "java/lang/IndexOutOfBoundsException" ∈ sExc := by decide +kernel
theorem sx_46 : "java/lang/IllegalArgumentException" ∈ sExc := by decide +kernel
theorem sx_57 : "java/util/NoSuchElementException" ∈ sExc := by decide +kernel
theorem sx_106 : "java/lang/IllegalStateException" ∈ sExc := by decide +kernel
theorem sx_136 : "java/lang/ArithmeticException" ∈ sExc := by decide +kernel
theorem sn_13_46 : ("java/lang/UnsupportedOperationException", "java/lang/IllegalArgumentException") ∈ sNc := by decide +kernel
theorem sn_46_44 : ("java/lang/IllegalArgumentException", "java/lang/IndexOutOfBoundsException") ∈ sNc := by decide +kernel
theorem sn_57_44 : ("java/util/NoSuchElementException", "java/lang/IndexOutOfBoundsException") ∈ sNc := by decide +kernel
theorem sn_57_46 : ("java/util/NoSuchElementException", "java/lang/IllegalArgumentException") ∈ sNc := by decide +kernel
theorem sn_106_46 : ("java/lang/IllegalStateException", "java/lang/IllegalArgumentException") ∈ sNc := by decide +kernel
theorem dL_room_0 : decode cL_room 0 = .ok (.aload_n 2, 1) := by decide +kernel
theorem dL_room_1 : decode cL_room 1 = .ok (.iconst 0, 1) := by decide +kernel
theorem dL_room_2 : decode cL_room 2 = .ok (.aload_n 0, 1) := by decide +kernel
theorem dL_room_3 : decode cL_room 3 = .ok (.iload_n 1, 1) := by decide +kernel
theorem dL_room_4 : decode cL_room 4 = .ok (.invokevirtual 7, 3) := by decide +kernel
theorem dL_room_7 : decode cL_room 7 = .ok (.i2l, 1) := by decide +kernel
theorem dL_room_8 : decode cL_room 8 = .ok (.lastore, 1) := by decide +kernel
theorem dL_room_9 : decode cL_room 9 = .ok (.goto 6, 3) := by decide +kernel
theorem dL_room_12 : decode cL_room 12 = .ok (.astore_n 3, 1) := by decide +kernel
theorem dL_room_13 : decode cL_room 13 = .ok (.iconst 1, 1) := by decide +kernel
theorem dL_room_14 : decode cL_room 14 = .ok (.ireturn, 1) := by decide +kernel
theorem dL_room_15 : decode cL_room 15 = .ok (.iconst 0, 1) := by decide +kernel
theorem dL_room_16 : decode cL_room 16 = .ok (.ireturn, 1) := by decide +kernel
theorem sw_L_room : lSm yL_room cL_room 4 [(0, 9, 12, 13)] 3 := ⟨tw_434, tw_433, tw_0, by decide +kernel, by decide +kernel, by decide +kernel⟩
set_option maxRecDepth 20000 in
theorem t_L_room {l : Launch} {z : lP} (ht : z.2.1.map Prod.snd = tyX) (hl : l.stackTraces = false) (dM : Nat → Nat → Int32) (v : Nat → Int64) (vd : Nat → UInt64) (x1 : Int32) (q : aS) (P : Int32 → lU → Prop) (h : w_X9_room x1 q (fun r q2 => P 0 (vp_updL v 0 (r.toInt64), vd, q2)) (fun E q2 => (E = "java/lang/UnsupportedOperationException" ∧ P 1 (v, vd, q2)))) :
    lMet l z dM yL_room (lWs yL_room cL_room 4 [(0, 9, 12, 13)]) 10 1 6 [.ref (z.2.2.1 0), .int x1, .ref z.2.2.2.2.2.1] (v, vd, q) P := by
  have hX : isX (lX z dM v vd) := lX_is ht dM v vd
  refine lMet_of RL ⟨by decide +kernel, rfl⟩ (cat_all rfl) (Nat.le_of_ble_eq_true rfl) hl (fun f hR hC hE => ?_)
  obtain ⟨qd, qt⟩ := q
  show AW f (lX z dM v vd) 0 [some (.ref (gAd (lX z dM v vd) 0)), some (.int x1), some (.ref z.2.2.2.2.2.1), none] [] (qd, qt) 0 0
  refine a_aload_n (pc := 0) hC dL_room_0 rfl ?_
  refine a_iconst (pc := 1) hC dL_room_1 (v := 0) rfl ?_
  refine a_aload_n (pc := 2) hC dL_room_2 rfl ?_
  refine a_iload_n (pc := 3) hC dL_room_3 rfl ?_
  refine l_callx (pc := 4) hC hR vm_X9_room tw_436 cl_X9 (oX_0 hX) ⟨(Nat.le_of_ble_eq_true rfl), (Nat.le_of_ble_eq_true rfl), (Nat.le_of_ble_eq_true rfl), (Nat.le_of_ble_eq_true rfl)⟩ dL_room_4 (t_X9_room hX hC.tr _ _ _ _ h) rfl rfl rfl (Nat.le_of_ble_eq_true rfl) (fun E q1 hx => ?_) (fun r q1 h => ?_)
  · obtain ⟨rfl, hx⟩ := hx
    obtain ⟨_, _⟩ := q1
    refine ⟨12, lc_one hC hE tw_435 sx_13 rfl (by decide), fun a => ?_⟩
    refine a_astore_n (pc := 12) hC dL_room_12 (Nat.le_of_ble_eq_true rfl) ?_
    refine a_iconst (pc := 13) hC dL_room_13 (v := 1) rfl ?_
    exact l_iret (pc := 14) hC hE hx (Nat.le_of_ble_eq_true rfl) (Nat.le_of_ble_eq_true rfl) dL_room_14
  · obtain ⟨_, _⟩ := q1
    refine a_i2l (pc := 7) hC dL_room_7 ?_
    refine a_lastO (pc := 8) ht hC dL_room_8 ?_
    have hC1 := lOK_X hC dM
    refine a_goto (pc := 9) (tgt := 15) (hC1 _ _) dL_room_9 (by decide) ?_
    refine a_iconst (pc := 15) (hC1 _ _) dL_room_15 (v := 0) rfl ?_
    exact l_iret (pc := 16) (hC1 _ _) hE h (Nat.le_of_ble_eq_true rfl) (Nat.le_of_ble_eq_true rfl) dL_room_16
theorem dL_echo_0 : decode cL_echo 0 = .ok (.aload_n 3, 1) := by decide +kernel
theorem dL_echo_1 : decode cL_echo 1 = .ok (.iconst 0, 1) := by decide +kernel
theorem dL_echo_2 : decode cL_echo 2 = .ok (.aload_n 0, 1) := by decide +kernel
theorem dL_echo_3 : decode cL_echo 3 = .ok (.iload_n 1, 1) := by decide +kernel
theorem dL_echo_4 : decode cL_echo 4 = .ok (.iload_n 2, 1) := by decide +kernel
theorem dL_echo_5 : decode cL_echo 5 = .ok (.invokevirtual 15, 3) := by decide +kernel
theorem dL_echo_8 : decode cL_echo 8 = .ok (.i2l, 1) := by decide +kernel
theorem dL_echo_9 : decode cL_echo 9 = .ok (.lastore, 1) := by decide +kernel
theorem dL_echo_10 : decode cL_echo 10 = .ok (.goto 7, 3) := by decide +kernel
theorem dL_echo_13 : decode cL_echo 13 = .ok (.astore 4, 2) := by decide +kernel
theorem dL_echo_15 : decode cL_echo 15 = .ok (.iconst 1, 1) := by decide +kernel
theorem dL_echo_16 : decode cL_echo 16 = .ok (.ireturn, 1) := by decide +kernel
theorem dL_echo_17 : decode cL_echo 17 = .ok (.iconst 0, 1) := by decide +kernel
theorem dL_echo_18 : decode cL_echo 18 = .ok (.ireturn, 1) := by decide +kernel
theorem sw_L_echo : lSm yL_echo cL_echo 5 [(0, 10, 13, 13)] 4 := ⟨tw_661, tw_660, tw_0, by decide +kernel, by decide +kernel, by decide +kernel⟩
set_option maxRecDepth 20000 in
theorem t_L_echo {l : Launch} {z : lP} (ht : z.2.1.map Prod.snd = tyX) (hl : l.stackTraces = false) (dM : Nat → Nat → Int32) (v : Nat → Int64) (vd : Nat → UInt64) (x1 : Int32) (x2 : Int32) (q : aS) (P : Int32 → lU → Prop) (h : w_X9_echo x1 x2 q (fun r q2 => P 0 (vp_updL v 0 (r.toInt64), vd, q2)) (fun E q2 => (E = "java/lang/UnsupportedOperationException" ∧ P 1 (v, vd, q2)))) :
    lMet l z dM yL_echo (lWs yL_echo cL_echo 5 [(0, 10, 13, 13)]) 10 1 6 [.ref (z.2.2.1 0), .int x1, .int x2, .ref z.2.2.2.2.2.1] (v, vd, q) P := by
  have hX : isX (lX z dM v vd) := lX_is ht dM v vd
  refine lMet_of RL ⟨by decide +kernel, rfl⟩ (cat_all rfl) (Nat.le_of_ble_eq_true rfl) hl (fun f hR hC hE => ?_)
  obtain ⟨qd, qt⟩ := q
  show AW f (lX z dM v vd) 0 [some (.ref (gAd (lX z dM v vd) 0)), some (.int x1), some (.int x2), some (.ref z.2.2.2.2.2.1), none] [] (qd, qt) 0 0
  refine a_aload_n (pc := 0) hC dL_echo_0 rfl ?_
  refine a_iconst (pc := 1) hC dL_echo_1 (v := 0) rfl ?_
  refine a_aload_n (pc := 2) hC dL_echo_2 rfl ?_
  refine a_iload_n (pc := 3) hC dL_echo_3 rfl ?_
  refine a_iload_n (pc := 4) hC dL_echo_4 rfl ?_
  refine l_callx (pc := 5) hC hR vm_X9_echo tw_662 cl_X9 (oX_0 hX) ⟨(Nat.le_of_ble_eq_true rfl), (Nat.le_of_ble_eq_true rfl), (Nat.le_of_ble_eq_true rfl), (Nat.le_of_ble_eq_true rfl)⟩ dL_echo_5 (t_X9_echo hX hC.tr _ _ _ _ _ h) rfl rfl rfl (Nat.le_of_ble_eq_true rfl) (fun E q1 hx => ?_) (fun r q1 h => ?_)
  · obtain ⟨rfl, hx⟩ := hx
    obtain ⟨_, _⟩ := q1
    refine ⟨13, lc_one hC hE tw_435 sx_13 rfl (by decide), fun a => ?_⟩
    refine a_astore (pc := 13) hC dL_echo_13 (Nat.le_of_ble_eq_true rfl) ?_
    refine a_iconst (pc := 15) hC dL_echo_15 (v := 1) rfl ?_
    exact l_iret (pc := 16) hC hE hx (Nat.le_of_ble_eq_true rfl) (Nat.le_of_ble_eq_true rfl) dL_echo_16
  · obtain ⟨_, _⟩ := q1
    refine a_i2l (pc := 8) hC dL_echo_8 ?_
    refine a_lastO (pc := 9) ht hC dL_echo_9 ?_
    have hC1 := lOK_X hC dM
    refine a_goto (pc := 10) (tgt := 17) (hC1 _ _) dL_echo_10 (by decide) ?_
    refine a_iconst (pc := 17) (hC1 _ _) dL_echo_17 (v := 0) rfl ?_
    exact l_iret (pc := 18) (hC1 _ _) hE h (Nat.le_of_ble_eq_true rfl) (Nat.le_of_ble_eq_true rfl) dL_echo_18
theorem dL_singer_0 : decode cL_singer 0 = .ok (.aload_n 3, 1) := by decide +kernel
theorem dL_singer_1 : decode cL_singer 1 = .ok (.iconst 0, 1) := by decide +kernel
theorem dL_singer_2 : decode cL_singer 2 = .ok (.aload_n 0, 1) := by decide +kernel
theorem dL_singer_3 : decode cL_singer 3 = .ok (.iload_n 1, 1) := by decide +kernel
theorem dL_singer_4 : decode cL_singer 4 = .ok (.iload_n 2, 1) := by decide +kernel
theorem dL_singer_5 : decode cL_singer 5 = .ok (.invokevirtual 19, 3) := by decide +kernel
theorem dL_singer_8 : decode cL_singer 8 = .ok (.i2l, 1) := by decide +kernel
theorem dL_singer_9 : decode cL_singer 9 = .ok (.lastore, 1) := by decide +kernel
theorem dL_singer_10 : decode cL_singer 10 = .ok (.goto 7, 3) := by decide +kernel
theorem dL_singer_13 : decode cL_singer 13 = .ok (.astore 4, 2) := by decide +kernel
theorem dL_singer_15 : decode cL_singer 15 = .ok (.iconst 1, 1) := by decide +kernel
theorem dL_singer_16 : decode cL_singer 16 = .ok (.ireturn, 1) := by decide +kernel
theorem dL_singer_17 : decode cL_singer 17 = .ok (.iconst 0, 1) := by decide +kernel
theorem dL_singer_18 : decode cL_singer 18 = .ok (.ireturn, 1) := by decide +kernel
theorem sw_L_singer : lSm yL_singer cL_singer 5 [(0, 10, 13, 13)] 4 := ⟨tw_670, tw_669, tw_0, by decide +kernel, by decide +kernel, by decide +kernel⟩
set_option maxRecDepth 20000 in
theorem t_L_singer {l : Launch} {z : lP} (ht : z.2.1.map Prod.snd = tyX) (hl : l.stackTraces = false) (dM : Nat → Nat → Int32) (v : Nat → Int64) (vd : Nat → UInt64) (x1 : Int32) (x2 : Int32) (q : aS) (P : Int32 → lU → Prop) (h : w_X9_singer x1 x2 q (fun r q2 => P 0 (vp_updL v 0 (r.toInt64), vd, q2)) (fun E q2 => (E = "java/lang/UnsupportedOperationException" ∧ P 1 (v, vd, q2)))) :
    lMet l z dM yL_singer (lWs yL_singer cL_singer 5 [(0, 10, 13, 13)]) 10 1 6 [.ref (z.2.2.1 0), .int x1, .int x2, .ref z.2.2.2.2.2.1] (v, vd, q) P := by
  have hX : isX (lX z dM v vd) := lX_is ht dM v vd
  refine lMet_of RL ⟨by decide +kernel, rfl⟩ (cat_all rfl) (Nat.le_of_ble_eq_true rfl) hl (fun f hR hC hE => ?_)
  obtain ⟨qd, qt⟩ := q
  show AW f (lX z dM v vd) 0 [some (.ref (gAd (lX z dM v vd) 0)), some (.int x1), some (.int x2), some (.ref z.2.2.2.2.2.1), none] [] (qd, qt) 0 0
  refine a_aload_n (pc := 0) hC dL_singer_0 rfl ?_
  refine a_iconst (pc := 1) hC dL_singer_1 (v := 0) rfl ?_
  refine a_aload_n (pc := 2) hC dL_singer_2 rfl ?_
  refine a_iload_n (pc := 3) hC dL_singer_3 rfl ?_
  refine a_iload_n (pc := 4) hC dL_singer_4 rfl ?_
  refine l_callx (pc := 5) hC hR vm_X9_singer tw_671 cl_X9 (oX_0 hX) ⟨(Nat.le_of_ble_eq_true rfl), (Nat.le_of_ble_eq_true rfl), (Nat.le_of_ble_eq_true rfl), (Nat.le_of_ble_eq_true rfl)⟩ dL_singer_5 (t_X9_singer hX hC.tr _ _ _ _ _ h) rfl rfl rfl (Nat.le_of_ble_eq_true rfl) (fun E q1 hx => ?_) (fun r q1 h => ?_)
  · obtain ⟨rfl, hx⟩ := hx
    obtain ⟨_, _⟩ := q1
    refine ⟨13, lc_one hC hE tw_435 sx_13 rfl (by decide), fun a => ?_⟩
    refine a_astore (pc := 13) hC dL_singer_13 (Nat.le_of_ble_eq_true rfl) ?_
    refine a_iconst (pc := 15) hC dL_singer_15 (v := 1) rfl ?_
    exact l_iret (pc := 16) hC hE hx (Nat.le_of_ble_eq_true rfl) (Nat.le_of_ble_eq_true rfl) dL_singer_16
  · obtain ⟨_, _⟩ := q1
    refine a_i2l (pc := 8) hC dL_singer_8 ?_
    refine a_lastO (pc := 9) ht hC dL_singer_9 ?_
    have hC1 := lOK_X hC dM
    refine a_goto (pc := 10) (tgt := 17) (hC1 _ _) dL_singer_10 (by decide) ?_
    refine a_iconst (pc := 17) (hC1 _ _) dL_singer_17 (v := 0) rfl ?_
    exact l_iret (pc := 18) (hC1 _ _) hE h (Nat.le_of_ble_eq_true rfl) (Nat.le_of_ble_eq_true rfl) dL_singer_18
theorem dL_enter_0 : decode cL_enter 0 = .ok (.aload_n 3, 1) := by decide +kernel
theorem dL_enter_1 : decode cL_enter 1 = .ok (.iconst 0, 1) := by decide +kernel
theorem dL_enter_2 : decode cL_enter 2 = .ok (.aload_n 0, 1) := by decide +kernel
theorem dL_enter_3 : decode cL_enter 3 = .ok (.iload_n 1, 1) := by decide +kernel
theorem dL_enter_4 : decode cL_enter 4 = .ok (.iload_n 2, 1) := by decide +kernel
theorem dL_enter_5 : decode cL_enter 5 = .ok (.invokevirtual 22, 3) := by decide +kernel
theorem dL_enter_8 : decode cL_enter 8 = .ok (.i2l, 1) := by decide +kernel
theorem dL_enter_9 : decode cL_enter 9 = .ok (.lastore, 1) := by decide +kernel
theorem dL_enter_10 : decode cL_enter 10 = .ok (.goto 7, 3) := by decide +kernel
theorem dL_enter_13 : decode cL_enter 13 = .ok (.astore 4, 2) := by decide +kernel
theorem dL_enter_15 : decode cL_enter 15 = .ok (.iconst 1, 1) := by decide +kernel
theorem dL_enter_16 : decode cL_enter 16 = .ok (.ireturn, 1) := by decide +kernel
theorem dL_enter_17 : decode cL_enter 17 = .ok (.iconst 0, 1) := by decide +kernel
theorem dL_enter_18 : decode cL_enter 18 = .ok (.ireturn, 1) := by decide +kernel
theorem sw_L_enter : lSm yL_enter cL_enter 5 [(0, 10, 13, 13)] 4 := ⟨tw_679, tw_678, tw_0, by decide +kernel, by decide +kernel, by decide +kernel⟩
set_option maxRecDepth 20000 in
theorem t_L_enter {l : Launch} {z : lP} (ht : z.2.1.map Prod.snd = tyX) (hl : l.stackTraces = false) (dM : Nat → Nat → Int32) (v : Nat → Int64) (vd : Nat → UInt64) (x1 : Int32) (x2 : Int32) (q : aS) (P : Int32 → lU → Prop) (h : w_X9_enter x1 x2 q (fun r q2 => P 0 (vp_updL v 0 (r.toInt64), vd, q2)) (fun E q2 => (E = "java/lang/UnsupportedOperationException" ∧ P 1 (v, vd, q2)))) :
    lMet l z dM yL_enter (lWs yL_enter cL_enter 5 [(0, 10, 13, 13)]) 10 1 6 [.ref (z.2.2.1 0), .int x1, .int x2, .ref z.2.2.2.2.2.1] (v, vd, q) P := by
  have hX : isX (lX z dM v vd) := lX_is ht dM v vd
  refine lMet_of RL ⟨by decide +kernel, rfl⟩ (cat_all rfl) (Nat.le_of_ble_eq_true rfl) hl (fun f hR hC hE => ?_)
  obtain ⟨qd, qt⟩ := q
  show AW f (lX z dM v vd) 0 [some (.ref (gAd (lX z dM v vd) 0)), some (.int x1), some (.int x2), some (.ref z.2.2.2.2.2.1), none] [] (qd, qt) 0 0
  refine a_aload_n (pc := 0) hC dL_enter_0 rfl ?_
  refine a_iconst (pc := 1) hC dL_enter_1 (v := 0) rfl ?_
  refine a_aload_n (pc := 2) hC dL_enter_2 rfl ?_
  refine a_iload_n (pc := 3) hC dL_enter_3 rfl ?_
  refine a_iload_n (pc := 4) hC dL_enter_4 rfl ?_
  refine l_callx (pc := 5) hC hR vm_X9_enter tw_680 cl_X9 (oX_0 hX) ⟨(Nat.le_of_ble_eq_true rfl), (Nat.le_of_ble_eq_true rfl), (Nat.le_of_ble_eq_true rfl), (Nat.le_of_ble_eq_true rfl)⟩ dL_enter_5 (t_X9_enter hX hC.tr _ _ _ _ _ h) rfl rfl rfl (Nat.le_of_ble_eq_true rfl) (fun E q1 hx => ?_) (fun r q1 h => ?_)
  · obtain ⟨rfl, hx⟩ := hx
    obtain ⟨_, _⟩ := q1
    refine ⟨13, lc_one hC hE tw_435 sx_13 rfl (by decide), fun a => ?_⟩
    refine a_astore (pc := 13) hC dL_enter_13 (Nat.le_of_ble_eq_true rfl) ?_
    refine a_iconst (pc := 15) hC dL_enter_15 (v := 1) rfl ?_
    exact l_iret (pc := 16) hC hE hx (Nat.le_of_ble_eq_true rfl) (Nat.le_of_ble_eq_true rfl) dL_enter_16
  · obtain ⟨_, _⟩ := q1
    refine a_i2l (pc := 8) hC dL_enter_8 ?_
    refine a_lastO (pc := 9) ht hC dL_enter_9 ?_
    have hC1 := lOK_X hC dM
    refine a_goto (pc := 10) (tgt := 17) (hC1 _ _) dL_enter_10 (by decide) ?_
    refine a_iconst (pc := 17) (hC1 _ _) dL_enter_17 (v := 0) rfl ?_
    exact l_iret (pc := 18) (hC1 _ _) hE h (Nat.le_of_ble_eq_true rfl) (Nat.le_of_ble_eq_true rfl) dL_enter_18
theorem dL_out_0 : decode cL_out 0 = .ok (.aload_n 2, 1) := by decide +kernel
theorem dL_out_1 : decode cL_out 1 = .ok (.iconst 0, 1) := by decide +kernel
theorem dL_out_2 : decode cL_out 2 = .ok (.aload_n 0, 1) := by decide +kernel
theorem dL_out_3 : decode cL_out 3 = .ok (.iload_n 1, 1) := by decide +kernel
theorem dL_out_4 : decode cL_out 4 = .ok (.invokevirtual 25, 3) := by decide +kernel
theorem dL_out_7 : decode cL_out 7 = .ok (.i2l, 1) := by decide +kernel
theorem dL_out_8 : decode cL_out 8 = .ok (.lastore, 1) := by decide +kernel
theorem dL_out_9 : decode cL_out 9 = .ok (.goto 6, 3) := by decide +kernel
theorem dL_out_12 : decode cL_out 12 = .ok (.astore_n 3, 1) := by decide +kernel
theorem dL_out_13 : decode cL_out 13 = .ok (.iconst 1, 1) := by decide +kernel
theorem dL_out_14 : decode cL_out 14 = .ok (.ireturn, 1) := by decide +kernel
theorem dL_out_15 : decode cL_out 15 = .ok (.iconst 0, 1) := by decide +kernel
theorem dL_out_16 : decode cL_out 16 = .ok (.ireturn, 1) := by decide +kernel
theorem sw_L_out : lSm yL_out cL_out 4 [(0, 9, 12, 13)] 3 := ⟨tw_688, tw_687, tw_0, by decide +kernel, by decide +kernel, by decide +kernel⟩
set_option maxRecDepth 20000 in
theorem t_L_out {l : Launch} {z : lP} (ht : z.2.1.map Prod.snd = tyX) (hl : l.stackTraces = false) (dM : Nat → Nat → Int32) (v : Nat → Int64) (vd : Nat → UInt64) (x1 : Int32) (q : aS) (P : Int32 → lU → Prop) (h : w_X9_out x1 q (fun r q2 => P 0 (vp_updL v 0 (r.toInt64), vd, q2)) (fun E q2 => (E = "java/lang/UnsupportedOperationException" ∧ P 1 (v, vd, q2)))) :
    lMet l z dM yL_out (lWs yL_out cL_out 4 [(0, 9, 12, 13)]) 10 1 6 [.ref (z.2.2.1 0), .int x1, .ref z.2.2.2.2.2.1] (v, vd, q) P := by
  have hX : isX (lX z dM v vd) := lX_is ht dM v vd
  refine lMet_of RL ⟨by decide +kernel, rfl⟩ (cat_all rfl) (Nat.le_of_ble_eq_true rfl) hl (fun f hR hC hE => ?_)
  obtain ⟨qd, qt⟩ := q
  show AW f (lX z dM v vd) 0 [some (.ref (gAd (lX z dM v vd) 0)), some (.int x1), some (.ref z.2.2.2.2.2.1), none] [] (qd, qt) 0 0
  refine a_aload_n (pc := 0) hC dL_out_0 rfl ?_
  refine a_iconst (pc := 1) hC dL_out_1 (v := 0) rfl ?_
  refine a_aload_n (pc := 2) hC dL_out_2 rfl ?_
  refine a_iload_n (pc := 3) hC dL_out_3 rfl ?_
  refine l_callx (pc := 4) hC hR vm_X9_out tw_689 cl_X9 (oX_0 hX) ⟨(Nat.le_of_ble_eq_true rfl), (Nat.le_of_ble_eq_true rfl), (Nat.le_of_ble_eq_true rfl), (Nat.le_of_ble_eq_true rfl)⟩ dL_out_4 (t_X9_out hX hC.tr _ _ _ _ h) rfl rfl rfl (Nat.le_of_ble_eq_true rfl) (fun E q1 hx => ?_) (fun r q1 h => ?_)
  · obtain ⟨rfl, hx⟩ := hx
    obtain ⟨_, _⟩ := q1
    refine ⟨12, lc_one hC hE tw_435 sx_13 rfl (by decide), fun a => ?_⟩
    refine a_astore_n (pc := 12) hC dL_out_12 (Nat.le_of_ble_eq_true rfl) ?_
    refine a_iconst (pc := 13) hC dL_out_13 (v := 1) rfl ?_
    exact l_iret (pc := 14) hC hE hx (Nat.le_of_ble_eq_true rfl) (Nat.le_of_ble_eq_true rfl) dL_out_14
  · obtain ⟨_, _⟩ := q1
    refine a_i2l (pc := 7) hC dL_out_7 ?_
    refine a_lastO (pc := 8) ht hC dL_out_8 ?_
    have hC1 := lOK_X hC dM
    refine a_goto (pc := 9) (tgt := 15) (hC1 _ _) dL_out_9 (by decide) ?_
    refine a_iconst (pc := 15) (hC1 _ _) dL_out_15 (v := 0) rfl ?_
    exact l_iret (pc := 16) (hC1 _ _) hE h (Nat.le_of_ble_eq_true rfl) (Nat.le_of_ble_eq_true rfl) dL_out_16
theorem dL_carry_0 : decode cL_carry 0 = .ok (.aload_n 3, 1) := by decide +kernel
theorem dL_carry_1 : decode cL_carry 1 = .ok (.iconst 0, 1) := by decide +kernel
theorem dL_carry_2 : decode cL_carry 2 = .ok (.aload_n 0, 1) := by decide +kernel
theorem dL_carry_3 : decode cL_carry 3 = .ok (.iload_n 1, 1) := by decide +kernel
theorem dL_carry_4 : decode cL_carry 4 = .ok (.iload_n 2, 1) := by decide +kernel
theorem dL_carry_5 : decode cL_carry 5 = .ok (.invokevirtual 28, 3) := by decide +kernel
theorem dL_carry_8 : decode cL_carry 8 = .ok (.i2l, 1) := by decide +kernel
theorem dL_carry_9 : decode cL_carry 9 = .ok (.lastore, 1) := by decide +kernel
theorem dL_carry_10 : decode cL_carry 10 = .ok (.goto 7, 3) := by decide +kernel
theorem dL_carry_13 : decode cL_carry 13 = .ok (.astore 4, 2) := by decide +kernel
theorem dL_carry_15 : decode cL_carry 15 = .ok (.iconst 1, 1) := by decide +kernel
theorem dL_carry_16 : decode cL_carry 16 = .ok (.ireturn, 1) := by decide +kernel
theorem dL_carry_17 : decode cL_carry 17 = .ok (.iconst 0, 1) := by decide +kernel
theorem dL_carry_18 : decode cL_carry 18 = .ok (.ireturn, 1) := by decide +kernel
theorem sw_L_carry : lSm yL_carry cL_carry 5 [(0, 10, 13, 13)] 4 := ⟨tw_697, tw_696, tw_0, by decide +kernel, by decide +kernel, by decide +kernel⟩
set_option maxRecDepth 20000 in
theorem t_L_carry {l : Launch} {z : lP} (ht : z.2.1.map Prod.snd = tyX) (hl : l.stackTraces = false) (dM : Nat → Nat → Int32) (v : Nat → Int64) (vd : Nat → UInt64) (x1 : Int32) (x2 : Int32) (q : aS) (P : Int32 → lU → Prop) (h : w_X9_carry x1 x2 q (fun r q2 => P 0 (vp_updL v 0 (r.toInt64), vd, q2)) (fun E q2 => (E = "java/lang/UnsupportedOperationException" ∧ P 1 (v, vd, q2)))) :
    lMet l z dM yL_carry (lWs yL_carry cL_carry 5 [(0, 10, 13, 13)]) 10 1 6 [.ref (z.2.2.1 0), .int x1, .int x2, .ref z.2.2.2.2.2.1] (v, vd, q) P := by
  have hX : isX (lX z dM v vd) := lX_is ht dM v vd
  refine lMet_of RL ⟨by decide +kernel, rfl⟩ (cat_all rfl) (Nat.le_of_ble_eq_true rfl) hl (fun f hR hC hE => ?_)
  obtain ⟨qd, qt⟩ := q
  show AW f (lX z dM v vd) 0 [some (.ref (gAd (lX z dM v vd) 0)), some (.int x1), some (.int x2), some (.ref z.2.2.2.2.2.1), none] [] (qd, qt) 0 0
  refine a_aload_n (pc := 0) hC dL_carry_0 rfl ?_
  refine a_iconst (pc := 1) hC dL_carry_1 (v := 0) rfl ?_
  refine a_aload_n (pc := 2) hC dL_carry_2 rfl ?_
  refine a_iload_n (pc := 3) hC dL_carry_3 rfl ?_
  refine a_iload_n (pc := 4) hC dL_carry_4 rfl ?_
  refine l_callx (pc := 5) hC hR vm_X9_carry tw_698 cl_X9 (oX_0 hX) ⟨(Nat.le_of_ble_eq_true rfl), (Nat.le_of_ble_eq_true rfl), (Nat.le_of_ble_eq_true rfl), (Nat.le_of_ble_eq_true rfl)⟩ dL_carry_5 (t_X9_carry hX hC.tr _ _ _ _ _ h) rfl rfl rfl (Nat.le_of_ble_eq_true rfl) (fun E q1 hx => ?_) (fun r q1 h => ?_)
  · obtain ⟨rfl, hx⟩ := hx
    obtain ⟨_, _⟩ := q1
    refine ⟨13, lc_one hC hE tw_435 sx_13 rfl (by decide), fun a => ?_⟩
    refine a_astore (pc := 13) hC dL_carry_13 (Nat.le_of_ble_eq_true rfl) ?_
    refine a_iconst (pc := 15) hC dL_carry_15 (v := 1) rfl ?_
    exact l_iret (pc := 16) hC hE hx (Nat.le_of_ble_eq_true rfl) (Nat.le_of_ble_eq_true rfl) dL_carry_16
  · obtain ⟨_, _⟩ := q1
    refine a_i2l (pc := 8) hC dL_carry_8 ?_
    refine a_lastO (pc := 9) ht hC dL_carry_9 ?_
    have hC1 := lOK_X hC dM
    refine a_goto (pc := 10) (tgt := 17) (hC1 _ _) dL_carry_10 (by decide) ?_
    refine a_iconst (pc := 17) (hC1 _ _) dL_carry_17 (v := 0) rfl ?_
    exact l_iret (pc := 18) (hC1 _ _) hE h (Nat.le_of_ble_eq_true rfl) (Nat.le_of_ble_eq_true rfl) dL_carry_18
theorem dL_rent_0 : decode cL_rent 0 = .ok (.aload 4, 2) := by decide +kernel
theorem dL_rent_2 : decode cL_rent 2 = .ok (.iconst 0, 1) := by decide +kernel
theorem dL_rent_3 : decode cL_rent 3 = .ok (.aload_n 0, 1) := by decide +kernel
theorem dL_rent_4 : decode cL_rent 4 = .ok (.iload_n 1, 1) := by decide +kernel
theorem dL_rent_5 : decode cL_rent 5 = .ok (.iload_n 2, 1) := by decide +kernel
theorem dL_rent_6 : decode cL_rent 6 = .ok (.iload_n 3, 1) := by decide +kernel
theorem dL_rent_7 : decode cL_rent 7 = .ok (.invokevirtual 31, 3) := by decide +kernel
theorem dL_rent_10 : decode cL_rent 10 = .ok (.i2l, 1) := by decide +kernel
theorem dL_rent_11 : decode cL_rent 11 = .ok (.lastore, 1) := by decide +kernel
theorem dL_rent_12 : decode cL_rent 12 = .ok (.goto 7, 3) := by decide +kernel
theorem dL_rent_15 : decode cL_rent 15 = .ok (.astore 5, 2) := by decide +kernel
theorem dL_rent_17 : decode cL_rent 17 = .ok (.iconst 1, 1) := by decide +kernel
theorem dL_rent_18 : decode cL_rent 18 = .ok (.ireturn, 1) := by decide +kernel
theorem dL_rent_19 : decode cL_rent 19 = .ok (.iconst 0, 1) := by decide +kernel
theorem dL_rent_20 : decode cL_rent 20 = .ok (.ireturn, 1) := by decide +kernel
theorem sw_L_rent : lSm yL_rent cL_rent 6 [(0, 12, 15, 13)] 5 := ⟨tw_706, tw_705, tw_0, by decide +kernel, by decide +kernel, by decide +kernel⟩
set_option maxRecDepth 20000 in
theorem t_L_rent {l : Launch} {z : lP} (ht : z.2.1.map Prod.snd = tyX) (hl : l.stackTraces = false) (dM : Nat → Nat → Int32) (v : Nat → Int64) (vd : Nat → UInt64) (x1 : Int32) (x2 : Int32) (x3 : Int32) (q : aS) (P : Int32 → lU → Prop) (h : w_X9_rent x1 x2 x3 q (fun r q2 => P 0 (vp_updL v 0 (r.toInt64), vd, q2)) (fun E q2 => (E = "java/lang/UnsupportedOperationException" ∧ P 1 (v, vd, q2)))) :
    lMet l z dM yL_rent (lWs yL_rent cL_rent 6 [(0, 12, 15, 13)]) 10 1 6 [.ref (z.2.2.1 0), .int x1, .int x2, .int x3, .ref z.2.2.2.2.2.1] (v, vd, q) P := by
  have hX : isX (lX z dM v vd) := lX_is ht dM v vd
  refine lMet_of RL ⟨by decide +kernel, rfl⟩ (cat_all rfl) (Nat.le_of_ble_eq_true rfl) hl (fun f hR hC hE => ?_)
  obtain ⟨qd, qt⟩ := q
  show AW f (lX z dM v vd) 0 [some (.ref (gAd (lX z dM v vd) 0)), some (.int x1), some (.int x2), some (.int x3), some (.ref z.2.2.2.2.2.1), none] [] (qd, qt) 0 0
  refine a_aload (pc := 0) hC dL_rent_0 rfl ?_
  refine a_iconst (pc := 2) hC dL_rent_2 (v := 0) rfl ?_
  refine a_aload_n (pc := 3) hC dL_rent_3 rfl ?_
  refine a_iload_n (pc := 4) hC dL_rent_4 rfl ?_
  refine a_iload_n (pc := 5) hC dL_rent_5 rfl ?_
  refine a_iload_n (pc := 6) hC dL_rent_6 rfl ?_
  refine l_callx (pc := 7) hC hR vm_X9_rent tw_707 cl_X9 (oX_0 hX) ⟨(Nat.le_of_ble_eq_true rfl), (Nat.le_of_ble_eq_true rfl), (Nat.le_of_ble_eq_true rfl), (Nat.le_of_ble_eq_true rfl)⟩ dL_rent_7 (t_X9_rent hX hC.tr _ _ _ _ _ _ h) rfl rfl rfl (Nat.le_of_ble_eq_true rfl) (fun E q1 hx => ?_) (fun r q1 h => ?_)
  · obtain ⟨rfl, hx⟩ := hx
    obtain ⟨_, _⟩ := q1
    refine ⟨15, lc_one hC hE tw_435 sx_13 rfl (by decide), fun a => ?_⟩
    refine a_astore (pc := 15) hC dL_rent_15 (Nat.le_of_ble_eq_true rfl) ?_
    refine a_iconst (pc := 17) hC dL_rent_17 (v := 1) rfl ?_
    exact l_iret (pc := 18) hC hE hx (Nat.le_of_ble_eq_true rfl) (Nat.le_of_ble_eq_true rfl) dL_rent_18
  · obtain ⟨_, _⟩ := q1
    refine a_i2l (pc := 10) hC dL_rent_10 ?_
    refine a_lastO (pc := 11) ht hC dL_rent_11 ?_
    have hC1 := lOK_X hC dM
    refine a_goto (pc := 12) (tgt := 19) (hC1 _ _) dL_rent_12 (by decide) ?_
    refine a_iconst (pc := 19) (hC1 _ _) dL_rent_19 (v := 0) rfl ?_
    exact l_iret (pc := 20) (hC1 _ _) hE h (Nat.le_of_ble_eq_true rfl) (Nat.le_of_ble_eq_true rfl) dL_rent_20
theorem dL_back_0 : decode cL_back 0 = .ok (.aload_n 3, 1) := by decide +kernel
theorem dL_back_1 : decode cL_back 1 = .ok (.iconst 0, 1) := by decide +kernel
theorem dL_back_2 : decode cL_back 2 = .ok (.aload_n 0, 1) := by decide +kernel
theorem dL_back_3 : decode cL_back 3 = .ok (.iload_n 1, 1) := by decide +kernel
theorem dL_back_4 : decode cL_back 4 = .ok (.iload_n 2, 1) := by decide +kernel
theorem dL_back_5 : decode cL_back 5 = .ok (.invokevirtual 35, 3) := by decide +kernel
theorem dL_back_8 : decode cL_back 8 = .ok (.i2l, 1) := by decide +kernel
theorem dL_back_9 : decode cL_back 9 = .ok (.lastore, 1) := by decide +kernel
theorem dL_back_10 : decode cL_back 10 = .ok (.goto 7, 3) := by decide +kernel
theorem dL_back_13 : decode cL_back 13 = .ok (.astore 4, 2) := by decide +kernel
theorem dL_back_15 : decode cL_back 15 = .ok (.iconst 1, 1) := by decide +kernel
theorem dL_back_16 : decode cL_back 16 = .ok (.ireturn, 1) := by decide +kernel
theorem dL_back_17 : decode cL_back 17 = .ok (.iconst 0, 1) := by decide +kernel
theorem dL_back_18 : decode cL_back 18 = .ok (.ireturn, 1) := by decide +kernel
theorem sw_L_back : lSm yL_back cL_back 5 [(0, 10, 13, 13)] 4 := ⟨tw_715, tw_714, tw_0, by decide +kernel, by decide +kernel, by decide +kernel⟩
set_option maxRecDepth 20000 in
theorem t_L_back {l : Launch} {z : lP} (ht : z.2.1.map Prod.snd = tyX) (hl : l.stackTraces = false) (dM : Nat → Nat → Int32) (v : Nat → Int64) (vd : Nat → UInt64) (x1 : Int32) (x2 : Int32) (q : aS) (P : Int32 → lU → Prop) (h : w_X9_back x1 x2 q (fun r q2 => P 0 (vp_updL v 0 (r.toInt64), vd, q2)) (fun E q2 => (E = "java/lang/UnsupportedOperationException" ∧ P 1 (v, vd, q2)))) :
    lMet l z dM yL_back (lWs yL_back cL_back 5 [(0, 10, 13, 13)]) 10 1 6 [.ref (z.2.2.1 0), .int x1, .int x2, .ref z.2.2.2.2.2.1] (v, vd, q) P := by
  have hX : isX (lX z dM v vd) := lX_is ht dM v vd
  refine lMet_of RL ⟨by decide +kernel, rfl⟩ (cat_all rfl) (Nat.le_of_ble_eq_true rfl) hl (fun f hR hC hE => ?_)
  obtain ⟨qd, qt⟩ := q
  show AW f (lX z dM v vd) 0 [some (.ref (gAd (lX z dM v vd) 0)), some (.int x1), some (.int x2), some (.ref z.2.2.2.2.2.1), none] [] (qd, qt) 0 0
  refine a_aload_n (pc := 0) hC dL_back_0 rfl ?_
  refine a_iconst (pc := 1) hC dL_back_1 (v := 0) rfl ?_
  refine a_aload_n (pc := 2) hC dL_back_2 rfl ?_
  refine a_iload_n (pc := 3) hC dL_back_3 rfl ?_
  refine a_iload_n (pc := 4) hC dL_back_4 rfl ?_
  refine l_callx (pc := 5) hC hR vm_X9_back tw_716 cl_X9 (oX_0 hX) ⟨(Nat.le_of_ble_eq_true rfl), (Nat.le_of_ble_eq_true rfl), (Nat.le_of_ble_eq_true rfl), (Nat.le_of_ble_eq_true rfl)⟩ dL_back_5 (t_X9_back hX hC.tr _ _ _ _ _ h) rfl rfl rfl (Nat.le_of_ble_eq_true rfl) (fun E q1 hx => ?_) (fun r q1 h => ?_)
  · obtain ⟨rfl, hx⟩ := hx
    obtain ⟨_, _⟩ := q1
    refine ⟨13, lc_one hC hE tw_435 sx_13 rfl (by decide), fun a => ?_⟩
    refine a_astore (pc := 13) hC dL_back_13 (Nat.le_of_ble_eq_true rfl) ?_
    refine a_iconst (pc := 15) hC dL_back_15 (v := 1) rfl ?_
    exact l_iret (pc := 16) hC hE hx (Nat.le_of_ble_eq_true rfl) (Nat.le_of_ble_eq_true rfl) dL_back_16
  · obtain ⟨_, _⟩ := q1
    refine a_i2l (pc := 8) hC dL_back_8 ?_
    refine a_lastO (pc := 9) ht hC dL_back_9 ?_
    have hC1 := lOK_X hC dM
    refine a_goto (pc := 10) (tgt := 17) (hC1 _ _) dL_back_10 (by decide) ?_
    refine a_iconst (pc := 17) (hC1 _ _) dL_back_17 (v := 0) rfl ?_
    exact l_iret (pc := 18) (hC1 _ _) hE h (Nat.le_of_ble_eq_true rfl) (Nat.le_of_ble_eq_true rfl) dL_back_18
theorem dL_sing_0 : decode cL_sing 0 = .ok (.aload_n 2, 1) := by decide +kernel
theorem dL_sing_1 : decode cL_sing 1 = .ok (.iconst 0, 1) := by decide +kernel
theorem dL_sing_2 : decode cL_sing 2 = .ok (.aload_n 0, 1) := by decide +kernel
theorem dL_sing_3 : decode cL_sing 3 = .ok (.iload_n 1, 1) := by decide +kernel
theorem dL_sing_4 : decode cL_sing 4 = .ok (.invokevirtual 38, 3) := by decide +kernel
theorem dL_sing_7 : decode cL_sing 7 = .ok (.i2l, 1) := by decide +kernel
theorem dL_sing_8 : decode cL_sing 8 = .ok (.lastore, 1) := by decide +kernel
theorem dL_sing_9 : decode cL_sing 9 = .ok (.goto 6, 3) := by decide +kernel
theorem dL_sing_12 : decode cL_sing 12 = .ok (.astore_n 3, 1) := by decide +kernel
theorem dL_sing_13 : decode cL_sing 13 = .ok (.iconst 1, 1) := by decide +kernel
theorem dL_sing_14 : decode cL_sing 14 = .ok (.ireturn, 1) := by decide +kernel
theorem dL_sing_15 : decode cL_sing 15 = .ok (.iconst 0, 1) := by decide +kernel
theorem dL_sing_16 : decode cL_sing 16 = .ok (.ireturn, 1) := by decide +kernel
theorem sw_L_sing : lSm yL_sing cL_sing 4 [(0, 9, 12, 13)] 3 := ⟨tw_724, tw_723, tw_0, by decide +kernel, by decide +kernel, by decide +kernel⟩
set_option maxRecDepth 20000 in
theorem t_L_sing {l : Launch} {z : lP} (ht : z.2.1.map Prod.snd = tyX) (hl : l.stackTraces = false) (dM : Nat → Nat → Int32) (v : Nat → Int64) (vd : Nat → UInt64) (x1 : Int32) (q : aS) (P : Int32 → lU → Prop) (h : w_X9_sing x1 q (fun r q2 => P 0 (vp_updL v 0 (r.toInt64), vd, q2)) (fun E q2 => (E = "java/lang/UnsupportedOperationException" ∧ P 1 (v, vd, q2)))) :
    lMet l z dM yL_sing (lWs yL_sing cL_sing 4 [(0, 9, 12, 13)]) 10 1 6 [.ref (z.2.2.1 0), .int x1, .ref z.2.2.2.2.2.1] (v, vd, q) P := by
  have hX : isX (lX z dM v vd) := lX_is ht dM v vd
  refine lMet_of RL ⟨by decide +kernel, rfl⟩ (cat_all rfl) (Nat.le_of_ble_eq_true rfl) hl (fun f hR hC hE => ?_)
  obtain ⟨qd, qt⟩ := q
  show AW f (lX z dM v vd) 0 [some (.ref (gAd (lX z dM v vd) 0)), some (.int x1), some (.ref z.2.2.2.2.2.1), none] [] (qd, qt) 0 0
  refine a_aload_n (pc := 0) hC dL_sing_0 rfl ?_
  refine a_iconst (pc := 1) hC dL_sing_1 (v := 0) rfl ?_
  refine a_aload_n (pc := 2) hC dL_sing_2 rfl ?_
  refine a_iload_n (pc := 3) hC dL_sing_3 rfl ?_
  refine l_callx (pc := 4) hC hR vm_X9_sing tw_725 cl_X9 (oX_0 hX) ⟨(Nat.le_of_ble_eq_true rfl), (Nat.le_of_ble_eq_true rfl), (Nat.le_of_ble_eq_true rfl), (Nat.le_of_ble_eq_true rfl)⟩ dL_sing_4 (t_X9_sing hX hC.tr _ _ _ _ h) rfl rfl rfl (Nat.le_of_ble_eq_true rfl) (fun E q1 hx => ?_) (fun r q1 h => ?_)
  · obtain ⟨rfl, hx⟩ := hx
    obtain ⟨_, _⟩ := q1
    refine ⟨12, lc_one hC hE tw_435 sx_13 rfl (by decide), fun a => ?_⟩
    refine a_astore_n (pc := 12) hC dL_sing_12 (Nat.le_of_ble_eq_true rfl) ?_
    refine a_iconst (pc := 13) hC dL_sing_13 (v := 1) rfl ?_
    exact l_iret (pc := 14) hC hE hx (Nat.le_of_ble_eq_true rfl) (Nat.le_of_ble_eq_true rfl) dL_sing_14
  · obtain ⟨_, _⟩ := q1
    refine a_i2l (pc := 7) hC dL_sing_7 ?_
    refine a_lastO (pc := 8) ht hC dL_sing_8 ?_
    have hC1 := lOK_X hC dM
    refine a_goto (pc := 9) (tgt := 15) (hC1 _ _) dL_sing_9 (by decide) ?_
    refine a_iconst (pc := 15) (hC1 _ _) dL_sing_15 (v := 0) rfl ?_
    exact l_iret (pc := 16) (hC1 _ _) hE h (Nat.le_of_ble_eq_true rfl) (Nat.le_of_ble_eq_true rfl) dL_sing_16
theorem dL_roomOf_0 : decode cL_roomOf 0 = .ok (.aload_n 3, 1) := by decide +kernel
theorem dL_roomOf_1 : decode cL_roomOf 1 = .ok (.iconst 0, 1) := by decide +kernel
theorem dL_roomOf_2 : decode cL_roomOf 2 = .ok (.aload_n 0, 1) := by decide +kernel
theorem dL_roomOf_3 : decode cL_roomOf 3 = .ok (.iload_n 1, 1) := by decide +kernel
theorem dL_roomOf_4 : decode cL_roomOf 4 = .ok (.iload_n 2, 1) := by decide +kernel
theorem dL_roomOf_5 : decode cL_roomOf 5 = .ok (.invokevirtual 41, 3) := by decide +kernel
theorem dL_roomOf_8 : decode cL_roomOf 8 = .ok (.i2l, 1) := by decide +kernel
theorem dL_roomOf_9 : decode cL_roomOf 9 = .ok (.lastore, 1) := by decide +kernel
theorem dL_roomOf_10 : decode cL_roomOf 10 = .ok (.goto 11, 3) := by decide +kernel
theorem dL_roomOf_13 : decode cL_roomOf 13 = .ok (.astore 4, 2) := by decide +kernel
theorem dL_roomOf_15 : decode cL_roomOf 15 = .ok (.iconst 1, 1) := by decide +kernel
theorem dL_roomOf_16 : decode cL_roomOf 16 = .ok (.ireturn, 1) := by decide +kernel
theorem dL_roomOf_17 : decode cL_roomOf 17 = .ok (.astore 4, 2) := by decide +kernel
theorem dL_roomOf_19 : decode cL_roomOf 19 = .ok (.iconst 2, 1) := by decide +kernel
theorem dL_roomOf_20 : decode cL_roomOf 20 = .ok (.ireturn, 1) := by decide +kernel
theorem dL_roomOf_21 : decode cL_roomOf 21 = .ok (.iconst 0, 1) := by decide +kernel
theorem dL_roomOf_22 : decode cL_roomOf 22 = .ok (.ireturn, 1) := by decide +kernel
theorem sw_L_roomOf : lSm yL_roomOf cL_roomOf 5 [(0, 10, 13, 44), (0, 10, 17, 46)] 4 := ⟨tw_733, tw_732, tw_0, by decide +kernel, by decide +kernel, by decide +kernel⟩
set_option maxRecDepth 20000 in
theorem t_L_roomOf {l : Launch} {z : lP} (ht : z.2.1.map Prod.snd = tyX) (hl : l.stackTraces = false) (dM : Nat → Nat → Int32) (v : Nat → Int64) (vd : Nat → UInt64) (x1 : Int32) (x2 : Int32) (q : aS) (P : Int32 → lU → Prop) (h : w_X9_roomOf x1 x2 q (fun r q2 => P 0 (vp_updL v 0 (r.toInt64), vd, q2)) (fun E q2 => (E = "java/lang/IndexOutOfBoundsException" ∧ P 1 (v, vd, q2)) ∨ (E = "java/lang/IllegalArgumentException" ∧ P 2 (v, vd, q2)))) :
    lMet l z dM yL_roomOf (lWs yL_roomOf cL_roomOf 5 [(0, 10, 13, 44), (0, 10, 17, 46)]) 10 2 12 [.ref (z.2.2.1 0), .int x1, .int x2, .ref z.2.2.2.2.2.1] (v, vd, q) P := by
  have hX : isX (lX z dM v vd) := lX_is ht dM v vd
  refine lMet_of RL ⟨by decide +kernel, rfl⟩ (cat_all rfl) (Nat.le_of_ble_eq_true rfl) hl (fun f hR hC hE => ?_)
  obtain ⟨qd, qt⟩ := q
  show AW f (lX z dM v vd) 0 [some (.ref (gAd (lX z dM v vd) 0)), some (.int x1), some (.int x2), some (.ref z.2.2.2.2.2.1), none] [] (qd, qt) 0 0
  refine a_aload_n (pc := 0) hC dL_roomOf_0 rfl ?_
  refine a_iconst (pc := 1) hC dL_roomOf_1 (v := 0) rfl ?_
  refine a_aload_n (pc := 2) hC dL_roomOf_2 rfl ?_
  refine a_iload_n (pc := 3) hC dL_roomOf_3 rfl ?_
  refine a_iload_n (pc := 4) hC dL_roomOf_4 rfl ?_
  refine l_callx (pc := 5) hC hR vm_X9_roomOf tw_759 cl_X9 (oX_0 hX) ⟨(Nat.le_of_ble_eq_true rfl), (Nat.le_of_ble_eq_true rfl), (Nat.le_of_ble_eq_true rfl), (Nat.le_of_ble_eq_true rfl)⟩ dL_roomOf_5 (t_X9_roomOf hX hC.tr _ _ _ _ _ h) rfl rfl rfl (Nat.le_of_ble_eq_true rfl) (fun E q1 hx => ?_) (fun r q1 h => ?_)
  · obtain ⟨_, _⟩ := q1
    rcases hx with ⟨rfl, hx⟩ | ⟨rfl, hx⟩
    · refine ⟨13, lc_two1 hC hE tw_734 sx_44 rfl (by decide), fun a => ?_⟩
      refine a_astore (pc := 13) hC dL_roomOf_13 (Nat.le_of_ble_eq_true rfl) ?_
      refine a_iconst (pc := 15) hC dL_roomOf_15 (v := 1) rfl ?_
      exact l_iret (pc := 16) hC hE hx (Nat.le_of_ble_eq_true rfl) (Nat.le_of_ble_eq_true rfl) dL_roomOf_16
    · refine ⟨17, lc_two2 hC hE tw_734 tw_758 sx_46 sn_46_44 rfl rfl (by decide) (by decide), fun a => ?_⟩
      refine a_astore (pc := 17) hC dL_roomOf_17 (Nat.le_of_ble_eq_true rfl) ?_
      refine a_iconst (pc := 19) hC dL_roomOf_19 (v := 2) rfl ?_
      exact l_iret (pc := 20) hC hE hx (Nat.le_of_ble_eq_true rfl) (Nat.le_of_ble_eq_true rfl) dL_roomOf_20
  · obtain ⟨_, _⟩ := q1
    refine a_i2l (pc := 8) hC dL_roomOf_8 ?_
    refine a_lastO (pc := 9) ht hC dL_roomOf_9 ?_
    have hC1 := lOK_X hC dM
    refine a_goto (pc := 10) (tgt := 21) (hC1 _ _) dL_roomOf_10 (by decide) ?_
    refine a_iconst (pc := 21) (hC1 _ _) dL_roomOf_21 (v := 0) rfl ?_
    exact l_iret (pc := 22) (hC1 _ _) hE h (Nat.le_of_ble_eq_true rfl) (Nat.le_of_ble_eq_true rfl) dL_roomOf_22
theorem dL_echoOf_0 : decode cL_echoOf 0 = .ok (.aload_n 3, 1) := by decide +kernel
theorem dL_echoOf_1 : decode cL_echoOf 1 = .ok (.iconst 0, 1) := by decide +kernel
theorem dL_echoOf_2 : decode cL_echoOf 2 = .ok (.aload_n 0, 1) := by decide +kernel
theorem dL_echoOf_3 : decode cL_echoOf 3 = .ok (.iload_n 1, 1) := by decide +kernel
theorem dL_echoOf_4 : decode cL_echoOf 4 = .ok (.iload_n 2, 1) := by decide +kernel
theorem dL_echoOf_5 : decode cL_echoOf 5 = .ok (.invokevirtual 48, 3) := by decide +kernel
theorem dL_echoOf_8 : decode cL_echoOf 8 = .ok (.i2l, 1) := by decide +kernel
theorem dL_echoOf_9 : decode cL_echoOf 9 = .ok (.lastore, 1) := by decide +kernel
theorem dL_echoOf_10 : decode cL_echoOf 10 = .ok (.goto 11, 3) := by decide +kernel
theorem dL_echoOf_13 : decode cL_echoOf 13 = .ok (.astore 4, 2) := by decide +kernel
theorem dL_echoOf_15 : decode cL_echoOf 15 = .ok (.iconst 1, 1) := by decide +kernel
theorem dL_echoOf_16 : decode cL_echoOf 16 = .ok (.ireturn, 1) := by decide +kernel
theorem dL_echoOf_17 : decode cL_echoOf 17 = .ok (.astore 4, 2) := by decide +kernel
theorem dL_echoOf_19 : decode cL_echoOf 19 = .ok (.iconst 2, 1) := by decide +kernel
theorem dL_echoOf_20 : decode cL_echoOf 20 = .ok (.ireturn, 1) := by decide +kernel
theorem dL_echoOf_21 : decode cL_echoOf 21 = .ok (.iconst 0, 1) := by decide +kernel
theorem dL_echoOf_22 : decode cL_echoOf 22 = .ok (.ireturn, 1) := by decide +kernel
theorem sw_L_echoOf : lSm yL_echoOf cL_echoOf 5 [(0, 10, 13, 44), (0, 10, 17, 46)] 4 := ⟨tw_807, tw_806, tw_0, by decide +kernel, by decide +kernel, by decide +kernel⟩
set_option maxRecDepth 20000 in
theorem t_L_echoOf {l : Launch} {z : lP} (ht : z.2.1.map Prod.snd = tyX) (hl : l.stackTraces = false) (dM : Nat → Nat → Int32) (v : Nat → Int64) (vd : Nat → UInt64) (x1 : Int32) (x2 : Int32) (q : aS) (P : Int32 → lU → Prop) (h : w_X9_echoOf x1 x2 q (fun r q2 => P 0 (vp_updL v 0 (r.toInt64), vd, q2)) (fun E q2 => (E = "java/lang/IndexOutOfBoundsException" ∧ P 1 (v, vd, q2)) ∨ (E = "java/lang/IllegalArgumentException" ∧ P 2 (v, vd, q2)))) :
    lMet l z dM yL_echoOf (lWs yL_echoOf cL_echoOf 5 [(0, 10, 13, 44), (0, 10, 17, 46)]) 10 2 12 [.ref (z.2.2.1 0), .int x1, .int x2, .ref z.2.2.2.2.2.1] (v, vd, q) P := by
  have hX : isX (lX z dM v vd) := lX_is ht dM v vd
  refine lMet_of RL ⟨by decide +kernel, rfl⟩ (cat_all rfl) (Nat.le_of_ble_eq_true rfl) hl (fun f hR hC hE => ?_)
  obtain ⟨qd, qt⟩ := q
  show AW f (lX z dM v vd) 0 [some (.ref (gAd (lX z dM v vd) 0)), some (.int x1), some (.int x2), some (.ref z.2.2.2.2.2.1), none] [] (qd, qt) 0 0
  refine a_aload_n (pc := 0) hC dL_echoOf_0 rfl ?_
  refine a_iconst (pc := 1) hC dL_echoOf_1 (v := 0) rfl ?_
  refine a_aload_n (pc := 2) hC dL_echoOf_2 rfl ?_
  refine a_iload_n (pc := 3) hC dL_echoOf_3 rfl ?_
  refine a_iload_n (pc := 4) hC dL_echoOf_4 rfl ?_
  refine l_callx (pc := 5) hC hR vm_X9_echoOf tw_808 cl_X9 (oX_0 hX) ⟨(Nat.le_of_ble_eq_true rfl), (Nat.le_of_ble_eq_true rfl), (Nat.le_of_ble_eq_true rfl), (Nat.le_of_ble_eq_true rfl)⟩ dL_echoOf_5 (t_X9_echoOf hX hC.tr _ _ _ _ _ h) rfl rfl rfl (Nat.le_of_ble_eq_true rfl) (fun E q1 hx => ?_) (fun r q1 h => ?_)
  · obtain ⟨_, _⟩ := q1
    rcases hx with ⟨rfl, hx⟩ | ⟨rfl, hx⟩
    · refine ⟨13, lc_two1 hC hE tw_734 sx_44 rfl (by decide), fun a => ?_⟩
      refine a_astore (pc := 13) hC dL_echoOf_13 (Nat.le_of_ble_eq_true rfl) ?_
      refine a_iconst (pc := 15) hC dL_echoOf_15 (v := 1) rfl ?_
      exact l_iret (pc := 16) hC hE hx (Nat.le_of_ble_eq_true rfl) (Nat.le_of_ble_eq_true rfl) dL_echoOf_16
    · refine ⟨17, lc_two2 hC hE tw_734 tw_758 sx_46 sn_46_44 rfl rfl (by decide) (by decide), fun a => ?_⟩
      refine a_astore (pc := 17) hC dL_echoOf_17 (Nat.le_of_ble_eq_true rfl) ?_
      refine a_iconst (pc := 19) hC dL_echoOf_19 (v := 2) rfl ?_
      exact l_iret (pc := 20) hC hE hx (Nat.le_of_ble_eq_true rfl) (Nat.le_of_ble_eq_true rfl) dL_echoOf_20
  · obtain ⟨_, _⟩ := q1
    refine a_i2l (pc := 8) hC dL_echoOf_8 ?_
    refine a_lastO (pc := 9) ht hC dL_echoOf_9 ?_
    have hC1 := lOK_X hC dM
    refine a_goto (pc := 10) (tgt := 21) (hC1 _ _) dL_echoOf_10 (by decide) ?_
    refine a_iconst (pc := 21) (hC1 _ _) dL_echoOf_21 (v := 0) rfl ?_
    exact l_iret (pc := 22) (hC1 _ _) hE h (Nat.le_of_ble_eq_true rfl) (Nat.le_of_ble_eq_true rfl) dL_echoOf_22
theorem dL_singerOf_0 : decode cL_singerOf 0 = .ok (.aload_n 3, 1) := by decide +kernel
theorem dL_singerOf_1 : decode cL_singerOf 1 = .ok (.iconst 0, 1) := by decide +kernel
theorem dL_singerOf_2 : decode cL_singerOf 2 = .ok (.aload_n 0, 1) := by decide +kernel
theorem dL_singerOf_3 : decode cL_singerOf 3 = .ok (.iload_n 1, 1) := by decide +kernel
theorem dL_singerOf_4 : decode cL_singerOf 4 = .ok (.iload_n 2, 1) := by decide +kernel
theorem dL_singerOf_5 : decode cL_singerOf 5 = .ok (.invokevirtual 51, 3) := by decide +kernel
theorem dL_singerOf_8 : decode cL_singerOf 8 = .ok (.i2l, 1) := by decide +kernel
theorem dL_singerOf_9 : decode cL_singerOf 9 = .ok (.lastore, 1) := by decide +kernel
theorem dL_singerOf_10 : decode cL_singerOf 10 = .ok (.goto 11, 3) := by decide +kernel
theorem dL_singerOf_13 : decode cL_singerOf 13 = .ok (.astore 4, 2) := by decide +kernel
theorem dL_singerOf_15 : decode cL_singerOf 15 = .ok (.iconst 1, 1) := by decide +kernel
theorem dL_singerOf_16 : decode cL_singerOf 16 = .ok (.ireturn, 1) := by decide +kernel
theorem dL_singerOf_17 : decode cL_singerOf 17 = .ok (.astore 4, 2) := by decide +kernel
theorem dL_singerOf_19 : decode cL_singerOf 19 = .ok (.iconst 2, 1) := by decide +kernel
theorem dL_singerOf_20 : decode cL_singerOf 20 = .ok (.ireturn, 1) := by decide +kernel
theorem dL_singerOf_21 : decode cL_singerOf 21 = .ok (.iconst 0, 1) := by decide +kernel
theorem dL_singerOf_22 : decode cL_singerOf 22 = .ok (.ireturn, 1) := by decide +kernel
theorem sw_L_singerOf : lSm yL_singerOf cL_singerOf 5 [(0, 10, 13, 44), (0, 10, 17, 46)] 4 := ⟨tw_820, tw_819, tw_0, by decide +kernel, by decide +kernel, by decide +kernel⟩
set_option maxRecDepth 20000 in
theorem t_L_singerOf {l : Launch} {z : lP} (ht : z.2.1.map Prod.snd = tyX) (hl : l.stackTraces = false) (dM : Nat → Nat → Int32) (v : Nat → Int64) (vd : Nat → UInt64) (x1 : Int32) (x2 : Int32) (q : aS) (P : Int32 → lU → Prop) (h : w_X9_singerOf x1 x2 q (fun r q2 => P 0 (vp_updL v 0 (r.toInt64), vd, q2)) (fun E q2 => (E = "java/lang/IndexOutOfBoundsException" ∧ P 1 (v, vd, q2)) ∨ (E = "java/lang/IllegalArgumentException" ∧ P 2 (v, vd, q2)))) :
    lMet l z dM yL_singerOf (lWs yL_singerOf cL_singerOf 5 [(0, 10, 13, 44), (0, 10, 17, 46)]) 10 2 12 [.ref (z.2.2.1 0), .int x1, .int x2, .ref z.2.2.2.2.2.1] (v, vd, q) P := by
  have hX : isX (lX z dM v vd) := lX_is ht dM v vd
  refine lMet_of RL ⟨by decide +kernel, rfl⟩ (cat_all rfl) (Nat.le_of_ble_eq_true rfl) hl (fun f hR hC hE => ?_)
  obtain ⟨qd, qt⟩ := q
  show AW f (lX z dM v vd) 0 [some (.ref (gAd (lX z dM v vd) 0)), some (.int x1), some (.int x2), some (.ref z.2.2.2.2.2.1), none] [] (qd, qt) 0 0
  refine a_aload_n (pc := 0) hC dL_singerOf_0 rfl ?_
  refine a_iconst (pc := 1) hC dL_singerOf_1 (v := 0) rfl ?_
  refine a_aload_n (pc := 2) hC dL_singerOf_2 rfl ?_
  refine a_iload_n (pc := 3) hC dL_singerOf_3 rfl ?_
  refine a_iload_n (pc := 4) hC dL_singerOf_4 rfl ?_
  refine l_callx (pc := 5) hC hR vm_X9_singerOf tw_821 cl_X9 (oX_0 hX) ⟨(Nat.le_of_ble_eq_true rfl), (Nat.le_of_ble_eq_true rfl), (Nat.le_of_ble_eq_true rfl), (Nat.le_of_ble_eq_true rfl)⟩ dL_singerOf_5 (t_X9_singerOf hX hC.tr _ _ _ _ _ h) rfl rfl rfl (Nat.le_of_ble_eq_true rfl) (fun E q1 hx => ?_) (fun r q1 h => ?_)
  · obtain ⟨_, _⟩ := q1
    rcases hx with ⟨rfl, hx⟩ | ⟨rfl, hx⟩
    · refine ⟨13, lc_two1 hC hE tw_734 sx_44 rfl (by decide), fun a => ?_⟩
      refine a_astore (pc := 13) hC dL_singerOf_13 (Nat.le_of_ble_eq_true rfl) ?_
      refine a_iconst (pc := 15) hC dL_singerOf_15 (v := 1) rfl ?_
      exact l_iret (pc := 16) hC hE hx (Nat.le_of_ble_eq_true rfl) (Nat.le_of_ble_eq_true rfl) dL_singerOf_16
    · refine ⟨17, lc_two2 hC hE tw_734 tw_758 sx_46 sn_46_44 rfl rfl (by decide) (by decide), fun a => ?_⟩
      refine a_astore (pc := 17) hC dL_singerOf_17 (Nat.le_of_ble_eq_true rfl) ?_
      refine a_iconst (pc := 19) hC dL_singerOf_19 (v := 2) rfl ?_
      exact l_iret (pc := 20) hC hE hx (Nat.le_of_ble_eq_true rfl) (Nat.le_of_ble_eq_true rfl) dL_singerOf_20
  · obtain ⟨_, _⟩ := q1
    refine a_i2l (pc := 8) hC dL_singerOf_8 ?_
    refine a_lastO (pc := 9) ht hC dL_singerOf_9 ?_
    have hC1 := lOK_X hC dM
    refine a_goto (pc := 10) (tgt := 21) (hC1 _ _) dL_singerOf_10 (by decide) ?_
    refine a_iconst (pc := 21) (hC1 _ _) dL_singerOf_21 (v := 0) rfl ?_
    exact l_iret (pc := 22) (hC1 _ _) hE h (Nat.le_of_ble_eq_true rfl) (Nat.le_of_ble_eq_true rfl) dL_singerOf_22
theorem dL_tones_0 : decode cL_tones 0 = .ok (.aload_n 2, 1) := by decide +kernel
theorem dL_tones_1 : decode cL_tones 1 = .ok (.iconst 0, 1) := by decide +kernel
theorem dL_tones_2 : decode cL_tones 2 = .ok (.aload_n 0, 1) := by decide +kernel
theorem dL_tones_3 : decode cL_tones 3 = .ok (.iload_n 1, 1) := by decide +kernel
theorem dL_tones_4 : decode cL_tones 4 = .ok (.invokevirtual 54, 3) := by decide +kernel
theorem dL_tones_7 : decode cL_tones 7 = .ok (.i2l, 1) := by decide +kernel
theorem dL_tones_8 : decode cL_tones 8 = .ok (.lastore, 1) := by decide +kernel
theorem dL_tones_9 : decode cL_tones 9 = .ok (.goto 9, 3) := by decide +kernel
theorem dL_tones_12 : decode cL_tones 12 = .ok (.astore_n 3, 1) := by decide +kernel
theorem dL_tones_13 : decode cL_tones 13 = .ok (.iconst 1, 1) := by decide +kernel
theorem dL_tones_14 : decode cL_tones 14 = .ok (.ireturn, 1) := by decide +kernel
theorem dL_tones_15 : decode cL_tones 15 = .ok (.astore_n 3, 1) := by decide +kernel
theorem dL_tones_16 : decode cL_tones 16 = .ok (.iconst 2, 1) := by decide +kernel
theorem dL_tones_17 : decode cL_tones 17 = .ok (.ireturn, 1) := by decide +kernel
theorem dL_tones_18 : decode cL_tones 18 = .ok (.iconst 0, 1) := by decide +kernel
theorem dL_tones_19 : decode cL_tones 19 = .ok (.ireturn, 1) := by decide +kernel
theorem sw_L_tones : lSm yL_tones cL_tones 4 [(0, 9, 12, 44), (0, 9, 15, 57)] 3 := ⟨tw_838, tw_837, tw_0, by decide +kernel, by decide +kernel, by decide +kernel⟩
set_option maxRecDepth 20000 in
theorem t_L_tones {l : Launch} {z : lP} (ht : z.2.1.map Prod.snd = tyX) (hl : l.stackTraces = false) (dM : Nat → Nat → Int32) (v : Nat → Int64) (vd : Nat → UInt64) (x1 : Int32) (q : aS) (P : Int32 → lU → Prop) (h : w_X9_tones x1 q (fun r q2 => P 0 (vp_updL v 0 (r.toInt64), vd, q2)) (fun E q2 => (E = "java/lang/IndexOutOfBoundsException" ∧ P 1 (v, vd, q2)) ∨ (E = "java/util/NoSuchElementException" ∧ P 2 (v, vd, q2)))) :
    lMet l z dM yL_tones (lWs yL_tones cL_tones 4 [(0, 9, 12, 44), (0, 9, 15, 57)]) 11 2 12 [.ref (z.2.2.1 0), .int x1, .ref z.2.2.2.2.2.1] (v, vd, q) P := by
  have hX : isX (lX z dM v vd) := lX_is ht dM v vd
  refine lMet_of RL ⟨by decide +kernel, rfl⟩ (cat_all rfl) (Nat.le_of_ble_eq_true rfl) hl (fun f hR hC hE => ?_)
  obtain ⟨qd, qt⟩ := q
  show AW f (lX z dM v vd) 0 [some (.ref (gAd (lX z dM v vd) 0)), some (.int x1), some (.ref z.2.2.2.2.2.1), none] [] (qd, qt) 0 0
  refine a_aload_n (pc := 0) hC dL_tones_0 rfl ?_
  refine a_iconst (pc := 1) hC dL_tones_1 (v := 0) rfl ?_
  refine a_aload_n (pc := 2) hC dL_tones_2 rfl ?_
  refine a_iload_n (pc := 3) hC dL_tones_3 rfl ?_
  refine l_callx (pc := 4) hC hR vm_X9_tones tw_840 cl_X9 (oX_0 hX) ⟨(Nat.le_of_ble_eq_true rfl), (Nat.le_of_ble_eq_true rfl), (Nat.le_of_ble_eq_true rfl), (Nat.le_of_ble_eq_true rfl)⟩ dL_tones_4 (t_X9_tones hX hC.tr _ _ _ _ h) rfl rfl rfl (Nat.le_of_ble_eq_true rfl) (fun E q1 hx => ?_) (fun r q1 h => ?_)
  · obtain ⟨_, _⟩ := q1
    rcases hx with ⟨rfl, hx⟩ | ⟨rfl, hx⟩
    · refine ⟨12, lc_two1 hC hE tw_734 sx_44 rfl (by decide), fun a => ?_⟩
      refine a_astore_n (pc := 12) hC dL_tones_12 (Nat.le_of_ble_eq_true rfl) ?_
      refine a_iconst (pc := 13) hC dL_tones_13 (v := 1) rfl ?_
      exact l_iret (pc := 14) hC hE hx (Nat.le_of_ble_eq_true rfl) (Nat.le_of_ble_eq_true rfl) dL_tones_14
    · refine ⟨15, lc_two2 hC hE tw_734 tw_839 sx_57 sn_57_44 rfl rfl (by decide) (by decide), fun a => ?_⟩
      refine a_astore_n (pc := 15) hC dL_tones_15 (Nat.le_of_ble_eq_true rfl) ?_
      refine a_iconst (pc := 16) hC dL_tones_16 (v := 2) rfl ?_
      exact l_iret (pc := 17) hC hE hx (Nat.le_of_ble_eq_true rfl) (Nat.le_of_ble_eq_true rfl) dL_tones_17
  · obtain ⟨_, _⟩ := q1
    refine a_i2l (pc := 7) hC dL_tones_7 ?_
    refine a_lastO (pc := 8) ht hC dL_tones_8 ?_
    have hC1 := lOK_X hC dM
    refine a_goto (pc := 9) (tgt := 18) (hC1 _ _) dL_tones_9 (by decide) ?_
    refine a_iconst (pc := 18) (hC1 _ _) dL_tones_18 (v := 0) rfl ?_
    exact l_iret (pc := 19) (hC1 _ _) hE h (Nat.le_of_ble_eq_true rfl) (Nat.le_of_ble_eq_true rfl) dL_tones_19
theorem dL_tonesAgain_0 : decode cL_tonesAgain 0 = .ok (.aload_n 2, 1) := by decide +kernel
theorem dL_tonesAgain_1 : decode cL_tonesAgain 1 = .ok (.iconst 0, 1) := by decide +kernel
theorem dL_tonesAgain_2 : decode cL_tonesAgain 2 = .ok (.aload_n 0, 1) := by decide +kernel
theorem dL_tonesAgain_3 : decode cL_tonesAgain 3 = .ok (.iload_n 1, 1) := by decide +kernel
theorem dL_tonesAgain_4 : decode cL_tonesAgain 4 = .ok (.invokevirtual 59, 3) := by decide +kernel
theorem dL_tonesAgain_7 : decode cL_tonesAgain 7 = .ok (.i2l, 1) := by decide +kernel
theorem dL_tonesAgain_8 : decode cL_tonesAgain 8 = .ok (.lastore, 1) := by decide +kernel
theorem dL_tonesAgain_9 : decode cL_tonesAgain 9 = .ok (.goto 9, 3) := by decide +kernel
theorem dL_tonesAgain_12 : decode cL_tonesAgain 12 = .ok (.astore_n 3, 1) := by decide +kernel
theorem dL_tonesAgain_13 : decode cL_tonesAgain 13 = .ok (.iconst 1, 1) := by decide +kernel
theorem dL_tonesAgain_14 : decode cL_tonesAgain 14 = .ok (.ireturn, 1) := by decide +kernel
theorem dL_tonesAgain_15 : decode cL_tonesAgain 15 = .ok (.astore_n 3, 1) := by decide +kernel
theorem dL_tonesAgain_16 : decode cL_tonesAgain 16 = .ok (.iconst 2, 1) := by decide +kernel
theorem dL_tonesAgain_17 : decode cL_tonesAgain 17 = .ok (.ireturn, 1) := by decide +kernel
theorem dL_tonesAgain_18 : decode cL_tonesAgain 18 = .ok (.iconst 0, 1) := by decide +kernel
theorem dL_tonesAgain_19 : decode cL_tonesAgain 19 = .ok (.ireturn, 1) := by decide +kernel
theorem sw_L_tonesAgain : lSm yL_tonesAgain cL_tonesAgain 4 [(0, 9, 12, 44), (0, 9, 15, 57)] 3 := ⟨tw_866, tw_865, tw_0, by decide +kernel, by decide +kernel, by decide +kernel⟩
set_option maxRecDepth 20000 in
theorem t_L_tonesAgain {l : Launch} {z : lP} (ht : z.2.1.map Prod.snd = tyX) (hl : l.stackTraces = false) (dM : Nat → Nat → Int32) (v : Nat → Int64) (vd : Nat → UInt64) (x1 : Int32) (q : aS) (P : Int32 → lU → Prop) (h : w_X9_tonesAgain x1 q (fun r q2 => P 0 (vp_updL v 0 (r.toInt64), vd, q2)) (fun E q2 => (E = "java/lang/IndexOutOfBoundsException" ∧ P 1 (v, vd, q2)) ∨ (E = "java/util/NoSuchElementException" ∧ P 2 (v, vd, q2)))) :
    lMet l z dM yL_tonesAgain (lWs yL_tonesAgain cL_tonesAgain 4 [(0, 9, 12, 44), (0, 9, 15, 57)]) 11 2 12 [.ref (z.2.2.1 0), .int x1, .ref z.2.2.2.2.2.1] (v, vd, q) P := by
  have hX : isX (lX z dM v vd) := lX_is ht dM v vd
  refine lMet_of RL ⟨by decide +kernel, rfl⟩ (cat_all rfl) (Nat.le_of_ble_eq_true rfl) hl (fun f hR hC hE => ?_)
  obtain ⟨qd, qt⟩ := q
  show AW f (lX z dM v vd) 0 [some (.ref (gAd (lX z dM v vd) 0)), some (.int x1), some (.ref z.2.2.2.2.2.1), none] [] (qd, qt) 0 0
  refine a_aload_n (pc := 0) hC dL_tonesAgain_0 rfl ?_
  refine a_iconst (pc := 1) hC dL_tonesAgain_1 (v := 0) rfl ?_
  refine a_aload_n (pc := 2) hC dL_tonesAgain_2 rfl ?_
  refine a_iload_n (pc := 3) hC dL_tonesAgain_3 rfl ?_
  refine l_callx (pc := 4) hC hR vm_X9_tonesAgain tw_867 cl_X9 (oX_0 hX) ⟨(Nat.le_of_ble_eq_true rfl), (Nat.le_of_ble_eq_true rfl), (Nat.le_of_ble_eq_true rfl), (Nat.le_of_ble_eq_true rfl)⟩ dL_tonesAgain_4 (t_X9_tonesAgain hX hC.tr _ _ _ _ h) rfl rfl rfl (Nat.le_of_ble_eq_true rfl) (fun E q1 hx => ?_) (fun r q1 h => ?_)
  · obtain ⟨_, _⟩ := q1
    rcases hx with ⟨rfl, hx⟩ | ⟨rfl, hx⟩
    · refine ⟨12, lc_two1 hC hE tw_734 sx_44 rfl (by decide), fun a => ?_⟩
      refine a_astore_n (pc := 12) hC dL_tonesAgain_12 (Nat.le_of_ble_eq_true rfl) ?_
      refine a_iconst (pc := 13) hC dL_tonesAgain_13 (v := 1) rfl ?_
      exact l_iret (pc := 14) hC hE hx (Nat.le_of_ble_eq_true rfl) (Nat.le_of_ble_eq_true rfl) dL_tonesAgain_14
    · refine ⟨15, lc_two2 hC hE tw_734 tw_839 sx_57 sn_57_44 rfl rfl (by decide) (by decide), fun a => ?_⟩
      refine a_astore_n (pc := 15) hC dL_tonesAgain_15 (Nat.le_of_ble_eq_true rfl) ?_
      refine a_iconst (pc := 16) hC dL_tonesAgain_16 (v := 2) rfl ?_
      exact l_iret (pc := 17) hC hE hx (Nat.le_of_ble_eq_true rfl) (Nat.le_of_ble_eq_true rfl) dL_tonesAgain_17
  · obtain ⟨_, _⟩ := q1
    refine a_i2l (pc := 7) hC dL_tonesAgain_7 ?_
    refine a_lastO (pc := 8) ht hC dL_tonesAgain_8 ?_
    have hC1 := lOK_X hC dM
    refine a_goto (pc := 9) (tgt := 18) (hC1 _ _) dL_tonesAgain_9 (by decide) ?_
    refine a_iconst (pc := 18) (hC1 _ _) dL_tonesAgain_18 (v := 0) rfl ?_
    exact l_iret (pc := 19) (hC1 _ _) hE h (Nat.le_of_ble_eq_true rfl) (Nat.le_of_ble_eq_true rfl) dL_tonesAgain_19
theorem dL_verses_0 : decode cL_verses 0 = .ok (.aload_n 2, 1) := by decide +kernel
theorem dL_verses_1 : decode cL_verses 1 = .ok (.iconst 0, 1) := by decide +kernel
theorem dL_verses_2 : decode cL_verses 2 = .ok (.aload_n 0, 1) := by decide +kernel
theorem dL_verses_3 : decode cL_verses 3 = .ok (.iload_n 1, 1) := by decide +kernel
theorem dL_verses_4 : decode cL_verses 4 = .ok (.invokevirtual 62, 3) := by decide +kernel
theorem dL_verses_7 : decode cL_verses 7 = .ok (.i2l, 1) := by decide +kernel
theorem dL_verses_8 : decode cL_verses 8 = .ok (.lastore, 1) := by decide +kernel
theorem dL_verses_9 : decode cL_verses 9 = .ok (.goto 9, 3) := by decide +kernel
theorem dL_verses_12 : decode cL_verses 12 = .ok (.astore_n 3, 1) := by decide +kernel
theorem dL_verses_13 : decode cL_verses 13 = .ok (.iconst 1, 1) := by decide +kernel
theorem dL_verses_14 : decode cL_verses 14 = .ok (.ireturn, 1) := by decide +kernel
theorem dL_verses_15 : decode cL_verses 15 = .ok (.astore_n 3, 1) := by decide +kernel
theorem dL_verses_16 : decode cL_verses 16 = .ok (.iconst 2, 1) := by decide +kernel
theorem dL_verses_17 : decode cL_verses 17 = .ok (.ireturn, 1) := by decide +kernel
theorem dL_verses_18 : decode cL_verses 18 = .ok (.iconst 0, 1) := by decide +kernel
theorem dL_verses_19 : decode cL_verses 19 = .ok (.ireturn, 1) := by decide +kernel
theorem sw_L_verses : lSm yL_verses cL_verses 4 [(0, 9, 12, 44), (0, 9, 15, 57)] 3 := ⟨tw_873, tw_872, tw_0, by decide +kernel, by decide +kernel, by decide +kernel⟩
set_option maxRecDepth 20000 in
theorem t_L_verses {l : Launch} {z : lP} (ht : z.2.1.map Prod.snd = tyX) (hl : l.stackTraces = false) (dM : Nat → Nat → Int32) (v : Nat → Int64) (vd : Nat → UInt64) (x1 : Int32) (q : aS) (P : Int32 → lU → Prop) (h : w_X9_verses x1 q (fun r q2 => P 0 (vp_updL v 0 (r.toInt64), vd, q2)) (fun E q2 => (E = "java/lang/IndexOutOfBoundsException" ∧ P 1 (v, vd, q2)) ∨ (E = "java/util/NoSuchElementException" ∧ P 2 (v, vd, q2)))) :
    lMet l z dM yL_verses (lWs yL_verses cL_verses 4 [(0, 9, 12, 44), (0, 9, 15, 57)]) 11 2 12 [.ref (z.2.2.1 0), .int x1, .ref z.2.2.2.2.2.1] (v, vd, q) P := by
  have hX : isX (lX z dM v vd) := lX_is ht dM v vd
  refine lMet_of RL ⟨by decide +kernel, rfl⟩ (cat_all rfl) (Nat.le_of_ble_eq_true rfl) hl (fun f hR hC hE => ?_)
  obtain ⟨qd, qt⟩ := q
  show AW f (lX z dM v vd) 0 [some (.ref (gAd (lX z dM v vd) 0)), some (.int x1), some (.ref z.2.2.2.2.2.1), none] [] (qd, qt) 0 0
  refine a_aload_n (pc := 0) hC dL_verses_0 rfl ?_
  refine a_iconst (pc := 1) hC dL_verses_1 (v := 0) rfl ?_
  refine a_aload_n (pc := 2) hC dL_verses_2 rfl ?_
  refine a_iload_n (pc := 3) hC dL_verses_3 rfl ?_
  refine l_callx (pc := 4) hC hR vm_X9_verses tw_874 cl_X9 (oX_0 hX) ⟨(Nat.le_of_ble_eq_true rfl), (Nat.le_of_ble_eq_true rfl), (Nat.le_of_ble_eq_true rfl), (Nat.le_of_ble_eq_true rfl)⟩ dL_verses_4 (t_X9_verses hX hC.tr _ _ _ _ h) rfl rfl rfl (Nat.le_of_ble_eq_true rfl) (fun E q1 hx => ?_) (fun r q1 h => ?_)
  · obtain ⟨_, _⟩ := q1
    rcases hx with ⟨rfl, hx⟩ | ⟨rfl, hx⟩
    · refine ⟨12, lc_two1 hC hE tw_734 sx_44 rfl (by decide), fun a => ?_⟩
      refine a_astore_n (pc := 12) hC dL_verses_12 (Nat.le_of_ble_eq_true rfl) ?_
      refine a_iconst (pc := 13) hC dL_verses_13 (v := 1) rfl ?_
      exact l_iret (pc := 14) hC hE hx (Nat.le_of_ble_eq_true rfl) (Nat.le_of_ble_eq_true rfl) dL_verses_14
    · refine ⟨15, lc_two2 hC hE tw_734 tw_839 sx_57 sn_57_44 rfl rfl (by decide) (by decide), fun a => ?_⟩
      refine a_astore_n (pc := 15) hC dL_verses_15 (Nat.le_of_ble_eq_true rfl) ?_
      refine a_iconst (pc := 16) hC dL_verses_16 (v := 2) rfl ?_
      exact l_iret (pc := 17) hC hE hx (Nat.le_of_ble_eq_true rfl) (Nat.le_of_ble_eq_true rfl) dL_verses_17
  · obtain ⟨_, _⟩ := q1
    refine a_i2l (pc := 7) hC dL_verses_7 ?_
    refine a_lastO (pc := 8) ht hC dL_verses_8 ?_
    have hC1 := lOK_X hC dM
    refine a_goto (pc := 9) (tgt := 18) (hC1 _ _) dL_verses_9 (by decide) ?_
    refine a_iconst (pc := 18) (hC1 _ _) dL_verses_18 (v := 0) rfl ?_
    exact l_iret (pc := 19) (hC1 _ _) hE h (Nat.le_of_ble_eq_true rfl) (Nat.le_of_ble_eq_true rfl) dL_verses_19
theorem dL_versesAgain_0 : decode cL_versesAgain 0 = .ok (.aload_n 2, 1) := by decide +kernel
theorem dL_versesAgain_1 : decode cL_versesAgain 1 = .ok (.iconst 0, 1) := by decide +kernel
theorem dL_versesAgain_2 : decode cL_versesAgain 2 = .ok (.aload_n 0, 1) := by decide +kernel
theorem dL_versesAgain_3 : decode cL_versesAgain 3 = .ok (.iload_n 1, 1) := by decide +kernel
theorem dL_versesAgain_4 : decode cL_versesAgain 4 = .ok (.invokevirtual 65, 3) := by decide +kernel
theorem dL_versesAgain_7 : decode cL_versesAgain 7 = .ok (.i2l, 1) := by decide +kernel
theorem dL_versesAgain_8 : decode cL_versesAgain 8 = .ok (.lastore, 1) := by decide +kernel
theorem dL_versesAgain_9 : decode cL_versesAgain 9 = .ok (.goto 9, 3) := by decide +kernel
theorem dL_versesAgain_12 : decode cL_versesAgain 12 = .ok (.astore_n 3, 1) := by decide +kernel
theorem dL_versesAgain_13 : decode cL_versesAgain 13 = .ok (.iconst 1, 1) := by decide +kernel
theorem dL_versesAgain_14 : decode cL_versesAgain 14 = .ok (.ireturn, 1) := by decide +kernel
theorem dL_versesAgain_15 : decode cL_versesAgain 15 = .ok (.astore_n 3, 1) := by decide +kernel
theorem dL_versesAgain_16 : decode cL_versesAgain 16 = .ok (.iconst 2, 1) := by decide +kernel
theorem dL_versesAgain_17 : decode cL_versesAgain 17 = .ok (.ireturn, 1) := by decide +kernel
theorem dL_versesAgain_18 : decode cL_versesAgain 18 = .ok (.iconst 0, 1) := by decide +kernel
theorem dL_versesAgain_19 : decode cL_versesAgain 19 = .ok (.ireturn, 1) := by decide +kernel
theorem sw_L_versesAgain : lSm yL_versesAgain cL_versesAgain 4 [(0, 9, 12, 44), (0, 9, 15, 57)] 3 := ⟨tw_880, tw_879, tw_0, by decide +kernel, by decide +kernel, by decide +kernel⟩
set_option maxRecDepth 20000 in
theorem t_L_versesAgain {l : Launch} {z : lP} (ht : z.2.1.map Prod.snd = tyX) (hl : l.stackTraces = false) (dM : Nat → Nat → Int32) (v : Nat → Int64) (vd : Nat → UInt64) (x1 : Int32) (q : aS) (P : Int32 → lU → Prop) (h : w_X9_versesAgain x1 q (fun r q2 => P 0 (vp_updL v 0 (r.toInt64), vd, q2)) (fun E q2 => (E = "java/lang/IndexOutOfBoundsException" ∧ P 1 (v, vd, q2)) ∨ (E = "java/util/NoSuchElementException" ∧ P 2 (v, vd, q2)))) :
    lMet l z dM yL_versesAgain (lWs yL_versesAgain cL_versesAgain 4 [(0, 9, 12, 44), (0, 9, 15, 57)]) 11 2 12 [.ref (z.2.2.1 0), .int x1, .ref z.2.2.2.2.2.1] (v, vd, q) P := by
  have hX : isX (lX z dM v vd) := lX_is ht dM v vd
  refine lMet_of RL ⟨by decide +kernel, rfl⟩ (cat_all rfl) (Nat.le_of_ble_eq_true rfl) hl (fun f hR hC hE => ?_)
  obtain ⟨qd, qt⟩ := q
  show AW f (lX z dM v vd) 0 [some (.ref (gAd (lX z dM v vd) 0)), some (.int x1), some (.ref z.2.2.2.2.2.1), none] [] (qd, qt) 0 0
  refine a_aload_n (pc := 0) hC dL_versesAgain_0 rfl ?_
  refine a_iconst (pc := 1) hC dL_versesAgain_1 (v := 0) rfl ?_
  refine a_aload_n (pc := 2) hC dL_versesAgain_2 rfl ?_
  refine a_iload_n (pc := 3) hC dL_versesAgain_3 rfl ?_
  refine l_callx (pc := 4) hC hR vm_X9_versesAgain tw_881 cl_X9 (oX_0 hX) ⟨(Nat.le_of_ble_eq_true rfl), (Nat.le_of_ble_eq_true rfl), (Nat.le_of_ble_eq_true rfl), (Nat.le_of_ble_eq_true rfl)⟩ dL_versesAgain_4 (t_X9_versesAgain hX hC.tr _ _ _ _ h) rfl rfl rfl (Nat.le_of_ble_eq_true rfl) (fun E q1 hx => ?_) (fun r q1 h => ?_)
  · obtain ⟨_, _⟩ := q1
    rcases hx with ⟨rfl, hx⟩ | ⟨rfl, hx⟩
    · refine ⟨12, lc_two1 hC hE tw_734 sx_44 rfl (by decide), fun a => ?_⟩
      refine a_astore_n (pc := 12) hC dL_versesAgain_12 (Nat.le_of_ble_eq_true rfl) ?_
      refine a_iconst (pc := 13) hC dL_versesAgain_13 (v := 1) rfl ?_
      exact l_iret (pc := 14) hC hE hx (Nat.le_of_ble_eq_true rfl) (Nat.le_of_ble_eq_true rfl) dL_versesAgain_14
    · refine ⟨15, lc_two2 hC hE tw_734 tw_839 sx_57 sn_57_44 rfl rfl (by decide) (by decide), fun a => ?_⟩
      refine a_astore_n (pc := 15) hC dL_versesAgain_15 (Nat.le_of_ble_eq_true rfl) ?_
      refine a_iconst (pc := 16) hC dL_versesAgain_16 (v := 2) rfl ?_
      exact l_iret (pc := 17) hC hE hx (Nat.le_of_ble_eq_true rfl) (Nat.le_of_ble_eq_true rfl) dL_versesAgain_17
  · obtain ⟨_, _⟩ := q1
    refine a_i2l (pc := 7) hC dL_versesAgain_7 ?_
    refine a_lastO (pc := 8) ht hC dL_versesAgain_8 ?_
    have hC1 := lOK_X hC dM
    refine a_goto (pc := 9) (tgt := 18) (hC1 _ _) dL_versesAgain_9 (by decide) ?_
    refine a_iconst (pc := 18) (hC1 _ _) dL_versesAgain_18 (v := 0) rfl ?_
    exact l_iret (pc := 19) (hC1 _ _) hE h (Nat.le_of_ble_eq_true rfl) (Nat.le_of_ble_eq_true rfl) dL_versesAgain_19
theorem dL_would_0 : decode cL_would 0 = .ok (.aload_n 3, 1) := by decide +kernel
theorem dL_would_1 : decode cL_would 1 = .ok (.iconst 0, 1) := by decide +kernel
theorem dL_would_2 : decode cL_would 2 = .ok (.aload_n 0, 1) := by decide +kernel
theorem dL_would_3 : decode cL_would 3 = .ok (.iload_n 1, 1) := by decide +kernel
theorem dL_would_4 : decode cL_would 4 = .ok (.iload_n 2, 1) := by decide +kernel
theorem dL_would_5 : decode cL_would 5 = .ok (.invokevirtual 68, 3) := by decide +kernel
theorem dL_would_8 : decode cL_would 8 = .ok (.i2l, 1) := by decide +kernel
theorem dL_would_9 : decode cL_would 9 = .ok (.lastore, 1) := by decide +kernel
theorem dL_would_10 : decode cL_would 10 = .ok (.goto 7, 3) := by decide +kernel
theorem dL_would_13 : decode cL_would 13 = .ok (.astore 4, 2) := by decide +kernel
theorem dL_would_15 : decode cL_would 15 = .ok (.iconst 1, 1) := by decide +kernel
theorem dL_would_16 : decode cL_would 16 = .ok (.ireturn, 1) := by decide +kernel
theorem dL_would_17 : decode cL_would 17 = .ok (.iconst 0, 1) := by decide +kernel
theorem dL_would_18 : decode cL_would 18 = .ok (.ireturn, 1) := by decide +kernel
theorem sw_L_would : lSm yL_would cL_would 5 [(0, 10, 13, 44)] 4 := ⟨tw_887, tw_886, tw_0, by decide +kernel, by decide +kernel, by decide +kernel⟩
set_option maxRecDepth 20000 in
theorem t_L_would {l : Launch} {z : lP} (ht : z.2.1.map Prod.snd = tyX) (hl : l.stackTraces = false) (dM : Nat → Nat → Int32) (v : Nat → Int64) (vd : Nat → UInt64) (x1 : Int32) (x2 : Int32) (q : aS) (P : Int32 → lU → Prop) (h : w_X9_would x1 x2 q (fun r q2 => P 0 (vp_updL v 0 (r.toInt64), vd, q2)) (fun E q2 => (E = "java/lang/IndexOutOfBoundsException" ∧ P 1 (v, vd, q2)))) :
    lMet l z dM yL_would (lWs yL_would cL_would 5 [(0, 10, 13, 44)]) 10 2 12 [.ref (z.2.2.1 0), .int x1, .int x2, .ref z.2.2.2.2.2.1] (v, vd, q) P := by
  have hX : isX (lX z dM v vd) := lX_is ht dM v vd
  refine lMet_of RL ⟨by decide +kernel, rfl⟩ (cat_all rfl) (Nat.le_of_ble_eq_true rfl) hl (fun f hR hC hE => ?_)
  obtain ⟨qd, qt⟩ := q
  show AW f (lX z dM v vd) 0 [some (.ref (gAd (lX z dM v vd) 0)), some (.int x1), some (.int x2), some (.ref z.2.2.2.2.2.1), none] [] (qd, qt) 0 0
  refine a_aload_n (pc := 0) hC dL_would_0 rfl ?_
  refine a_iconst (pc := 1) hC dL_would_1 (v := 0) rfl ?_
  refine a_aload_n (pc := 2) hC dL_would_2 rfl ?_
  refine a_iload_n (pc := 3) hC dL_would_3 rfl ?_
  refine a_iload_n (pc := 4) hC dL_would_4 rfl ?_
  refine l_callx (pc := 5) hC hR vm_X9_would tw_888 cl_X9 (oX_0 hX) ⟨(Nat.le_of_ble_eq_true rfl), (Nat.le_of_ble_eq_true rfl), (Nat.le_of_ble_eq_true rfl), (Nat.le_of_ble_eq_true rfl)⟩ dL_would_5 (t_X9_would hX hC.tr _ _ _ _ _ h) rfl rfl rfl (Nat.le_of_ble_eq_true rfl) (fun E q1 hx => ?_) (fun r q1 h => ?_)
  · obtain ⟨rfl, hx⟩ := hx
    obtain ⟨_, _⟩ := q1
    refine ⟨13, lc_one hC hE tw_734 sx_44 rfl (by decide), fun a => ?_⟩
    refine a_astore (pc := 13) hC dL_would_13 (Nat.le_of_ble_eq_true rfl) ?_
    refine a_iconst (pc := 15) hC dL_would_15 (v := 1) rfl ?_
    exact l_iret (pc := 16) hC hE hx (Nat.le_of_ble_eq_true rfl) (Nat.le_of_ble_eq_true rfl) dL_would_16
  · obtain ⟨_, _⟩ := q1
    refine a_i2l (pc := 8) hC dL_would_8 ?_
    refine a_lastO (pc := 9) ht hC dL_would_9 ?_
    have hC1 := lOK_X hC dM
    refine a_goto (pc := 10) (tgt := 17) (hC1 _ _) dL_would_10 (by decide) ?_
    refine a_iconst (pc := 17) (hC1 _ _) dL_would_17 (v := 0) rfl ?_
    exact l_iret (pc := 18) (hC1 _ _) hE h (Nat.le_of_ble_eq_true rfl) (Nat.le_of_ble_eq_true rfl) dL_would_18
theorem dL_bestRoom_0 : decode cL_bestRoom 0 = .ok (.aload_n 2, 1) := by decide +kernel
theorem dL_bestRoom_1 : decode cL_bestRoom 1 = .ok (.iconst 0, 1) := by decide +kernel
theorem dL_bestRoom_2 : decode cL_bestRoom 2 = .ok (.aload_n 0, 1) := by decide +kernel
theorem dL_bestRoom_3 : decode cL_bestRoom 3 = .ok (.iload_n 1, 1) := by decide +kernel
theorem dL_bestRoom_4 : decode cL_bestRoom 4 = .ok (.invokevirtual 71, 3) := by decide +kernel
theorem dL_bestRoom_7 : decode cL_bestRoom 7 = .ok (.i2l, 1) := by decide +kernel
theorem dL_bestRoom_8 : decode cL_bestRoom 8 = .ok (.lastore, 1) := by decide +kernel
theorem dL_bestRoom_9 : decode cL_bestRoom 9 = .ok (.goto 9, 3) := by decide +kernel
theorem dL_bestRoom_12 : decode cL_bestRoom 12 = .ok (.astore_n 3, 1) := by decide +kernel
theorem dL_bestRoom_13 : decode cL_bestRoom 13 = .ok (.iconst 1, 1) := by decide +kernel
theorem dL_bestRoom_14 : decode cL_bestRoom 14 = .ok (.ireturn, 1) := by decide +kernel
theorem dL_bestRoom_15 : decode cL_bestRoom 15 = .ok (.astore_n 3, 1) := by decide +kernel
theorem dL_bestRoom_16 : decode cL_bestRoom 16 = .ok (.iconst 2, 1) := by decide +kernel
theorem dL_bestRoom_17 : decode cL_bestRoom 17 = .ok (.ireturn, 1) := by decide +kernel
theorem dL_bestRoom_18 : decode cL_bestRoom 18 = .ok (.iconst 0, 1) := by decide +kernel
theorem dL_bestRoom_19 : decode cL_bestRoom 19 = .ok (.ireturn, 1) := by decide +kernel
theorem sw_L_bestRoom : lSm yL_bestRoom cL_bestRoom 4 [(0, 9, 12, 44), (0, 9, 15, 57)] 3 := ⟨tw_894, tw_893, tw_0, by decide +kernel, by decide +kernel, by decide +kernel⟩
set_option maxRecDepth 20000 in
theorem t_L_bestRoom {l : Launch} {z : lP} (ht : z.2.1.map Prod.snd = tyX) (hl : l.stackTraces = false) (dM : Nat → Nat → Int32) (v : Nat → Int64) (vd : Nat → UInt64) (x1 : Int32) (q : aS) (P : Int32 → lU → Prop) (h : w_X9_bestRoom x1 q (fun r q2 => P 0 (vp_updL v 0 (r.toInt64), vd, q2)) (fun E q2 => (E = "java/lang/IndexOutOfBoundsException" ∧ P 1 (v, vd, q2)) ∨ (E = "java/util/NoSuchElementException" ∧ P 2 (v, vd, q2)))) :
    lMet l z dM yL_bestRoom (lWs yL_bestRoom cL_bestRoom 4 [(0, 9, 12, 44), (0, 9, 15, 57)]) 10 2 12 [.ref (z.2.2.1 0), .int x1, .ref z.2.2.2.2.2.1] (v, vd, q) P := by
  have hX : isX (lX z dM v vd) := lX_is ht dM v vd
  refine lMet_of RL ⟨by decide +kernel, rfl⟩ (cat_all rfl) (Nat.le_of_ble_eq_true rfl) hl (fun f hR hC hE => ?_)
  obtain ⟨qd, qt⟩ := q
  show AW f (lX z dM v vd) 0 [some (.ref (gAd (lX z dM v vd) 0)), some (.int x1), some (.ref z.2.2.2.2.2.1), none] [] (qd, qt) 0 0
  refine a_aload_n (pc := 0) hC dL_bestRoom_0 rfl ?_
  refine a_iconst (pc := 1) hC dL_bestRoom_1 (v := 0) rfl ?_
  refine a_aload_n (pc := 2) hC dL_bestRoom_2 rfl ?_
  refine a_iload_n (pc := 3) hC dL_bestRoom_3 rfl ?_
  refine l_callx (pc := 4) hC hR vm_X9_bestRoom tw_895 cl_X9 (oX_0 hX) ⟨(Nat.le_of_ble_eq_true rfl), (Nat.le_of_ble_eq_true rfl), (Nat.le_of_ble_eq_true rfl), (Nat.le_of_ble_eq_true rfl)⟩ dL_bestRoom_4 (t_X9_bestRoom hX hC.tr _ _ _ _ h) rfl rfl rfl (Nat.le_of_ble_eq_true rfl) (fun E q1 hx => ?_) (fun r q1 h => ?_)
  · obtain ⟨_, _⟩ := q1
    rcases hx with ⟨rfl, hx⟩ | ⟨rfl, hx⟩
    · refine ⟨12, lc_two1 hC hE tw_734 sx_44 rfl (by decide), fun a => ?_⟩
      refine a_astore_n (pc := 12) hC dL_bestRoom_12 (Nat.le_of_ble_eq_true rfl) ?_
      refine a_iconst (pc := 13) hC dL_bestRoom_13 (v := 1) rfl ?_
      exact l_iret (pc := 14) hC hE hx (Nat.le_of_ble_eq_true rfl) (Nat.le_of_ble_eq_true rfl) dL_bestRoom_14
    · refine ⟨15, lc_two2 hC hE tw_734 tw_839 sx_57 sn_57_44 rfl rfl (by decide) (by decide), fun a => ?_⟩
      refine a_astore_n (pc := 15) hC dL_bestRoom_15 (Nat.le_of_ble_eq_true rfl) ?_
      refine a_iconst (pc := 16) hC dL_bestRoom_16 (v := 2) rfl ?_
      exact l_iret (pc := 17) hC hE hx (Nat.le_of_ble_eq_true rfl) (Nat.le_of_ble_eq_true rfl) dL_bestRoom_17
  · obtain ⟨_, _⟩ := q1
    refine a_i2l (pc := 7) hC dL_bestRoom_7 ?_
    refine a_lastO (pc := 8) ht hC dL_bestRoom_8 ?_
    have hC1 := lOK_X hC dM
    refine a_goto (pc := 9) (tgt := 18) (hC1 _ _) dL_bestRoom_9 (by decide) ?_
    refine a_iconst (pc := 18) (hC1 _ _) dL_bestRoom_18 (v := 0) rfl ?_
    exact l_iret (pc := 19) (hC1 _ _) hE h (Nat.le_of_ble_eq_true rfl) (Nat.le_of_ble_eq_true rfl) dL_bestRoom_19
theorem dL_canEnter_0 : decode cL_canEnter 0 = .ok (.aload_n 3, 1) := by decide +kernel
theorem dL_canEnter_1 : decode cL_canEnter 1 = .ok (.iconst 0, 1) := by decide +kernel
theorem dL_canEnter_2 : decode cL_canEnter 2 = .ok (.aload_n 0, 1) := by decide +kernel
theorem dL_canEnter_3 : decode cL_canEnter 3 = .ok (.iload_n 1, 1) := by decide +kernel
theorem dL_canEnter_4 : decode cL_canEnter 4 = .ok (.iload_n 2, 1) := by decide +kernel
theorem dL_canEnter_5 : decode cL_canEnter 5 = .ok (.invokevirtual 74, 3) := by decide +kernel
theorem dL_canEnter_8 : decode cL_canEnter 8 = .ok (.ifCond .eq 7, 3) := by decide +kernel
theorem dL_canEnter_11 : decode cL_canEnter 11 = .ok (.lconst 1, 1) := by decide +kernel
theorem dL_canEnter_12 : decode cL_canEnter 12 = .ok (.goto 4, 3) := by decide +kernel
theorem dL_canEnter_15 : decode cL_canEnter 15 = .ok (.lconst 0, 1) := by decide +kernel
theorem dL_canEnter_16 : decode cL_canEnter 16 = .ok (.lastore, 1) := by decide +kernel
theorem dL_canEnter_17 : decode cL_canEnter 17 = .ok (.goto 7, 3) := by decide +kernel
theorem dL_canEnter_20 : decode cL_canEnter 20 = .ok (.astore 4, 2) := by decide +kernel
theorem dL_canEnter_22 : decode cL_canEnter 22 = .ok (.iconst 1, 1) := by decide +kernel
theorem dL_canEnter_23 : decode cL_canEnter 23 = .ok (.ireturn, 1) := by decide +kernel
theorem dL_canEnter_24 : decode cL_canEnter 24 = .ok (.iconst 0, 1) := by decide +kernel
theorem dL_canEnter_25 : decode cL_canEnter 25 = .ok (.ireturn, 1) := by decide +kernel
theorem sw_L_canEnter : lSm yL_canEnter cL_canEnter 5 [(0, 17, 20, 44)] 4 := ⟨tw_902, tw_901, tw_0, by decide +kernel, by decide +kernel, by decide +kernel⟩
set_option maxRecDepth 20000 in
theorem t_L_canEnter {l : Launch} {z : lP} (ht : z.2.1.map Prod.snd = tyX) (hl : l.stackTraces = false) (dM : Nat → Nat → Int32) (v : Nat → Int64) (vd : Nat → UInt64) (x1 : Int32) (x2 : Int32) (q : aS) (P : Int32 → lU → Prop) (h : w_X9_canEnter x1 x2 q (fun r q2 => P 0 (vp_updL v 0 (bL r), vd, q2)) (fun E q2 => (E = "java/lang/IndexOutOfBoundsException" ∧ P 1 (v, vd, q2)))) :
    lMet l z dM yL_canEnter (lWs yL_canEnter cL_canEnter 5 [(0, 17, 20, 44)]) 10 2 12 [.ref (z.2.2.1 0), .int x1, .int x2, .ref z.2.2.2.2.2.1] (v, vd, q) P := by
  have hX : isX (lX z dM v vd) := lX_is ht dM v vd
  refine lMet_of RL ⟨by decide +kernel, rfl⟩ (cat_all rfl) (Nat.le_of_ble_eq_true rfl) hl (fun f hR hC hE => ?_)
  obtain ⟨qd, qt⟩ := q
  show AW f (lX z dM v vd) 0 [some (.ref (gAd (lX z dM v vd) 0)), some (.int x1), some (.int x2), some (.ref z.2.2.2.2.2.1), none] [] (qd, qt) 0 0
  refine a_aload_n (pc := 0) hC dL_canEnter_0 rfl ?_
  refine a_iconst (pc := 1) hC dL_canEnter_1 (v := 0) rfl ?_
  refine a_aload_n (pc := 2) hC dL_canEnter_2 rfl ?_
  refine a_iload_n (pc := 3) hC dL_canEnter_3 rfl ?_
  refine a_iload_n (pc := 4) hC dL_canEnter_4 rfl ?_
  refine l_callx (pc := 5) hC hR vm_X9_canEnter tw_903 cl_X9 (oX_0 hX) ⟨(Nat.le_of_ble_eq_true rfl), (Nat.le_of_ble_eq_true rfl), (Nat.le_of_ble_eq_true rfl), (Nat.le_of_ble_eq_true rfl)⟩ dL_canEnter_5 (t_X9_canEnter hX hC.tr _ _ _ _ _ h) rfl rfl rfl (Nat.le_of_ble_eq_true rfl) (fun E q1 hx => ?_) (fun r q1 h => ?_)
  · obtain ⟨rfl, hx⟩ := hx
    obtain ⟨_, _⟩ := q1
    refine ⟨20, lc_one hC hE tw_734 sx_44 rfl (by decide), fun a => ?_⟩
    refine a_astore (pc := 20) hC dL_canEnter_20 (Nat.le_of_ble_eq_true rfl) ?_
    refine a_iconst (pc := 22) hC dL_canEnter_22 (v := 1) rfl ?_
    exact l_iret (pc := 23) hC hE hx (Nat.le_of_ble_eq_true rfl) (Nat.le_of_ble_eq_true rfl) dL_canEnter_23
  · obtain ⟨_, _⟩ := q1
    replace h := h.2
    refine a_if_eq (pc := 8) (tgt := 15) hC dL_canEnter_8 (by decide) (fun e => ?_) (fun e => ?_)
    · rw [bL0 e] at h
      refine a_lconst (pc := 15) hC dL_canEnter_15 (w := 0) rfl ?_
      refine a_lastO (pc := 16) ht hC dL_canEnter_16 ?_
      have hC1 := lOK_X hC dM
      refine a_goto (pc := 17) (tgt := 24) (hC1 _ _) dL_canEnter_17 (by decide) ?_
      refine a_iconst (pc := 24) (hC1 _ _) dL_canEnter_24 (v := 0) rfl ?_
      exact l_iret (pc := 25) (hC1 _ _) hE h (Nat.le_of_ble_eq_true rfl) (Nat.le_of_ble_eq_true rfl) dL_canEnter_25
    · rw [bL1 e] at h
      refine a_lconst (pc := 11) hC dL_canEnter_11 (w := 1) rfl ?_
      refine a_goto (pc := 12) (tgt := 16) hC dL_canEnter_12 (by decide) ?_
      refine a_lastO (pc := 16) ht hC dL_canEnter_16 ?_
      have hC1 := lOK_X hC dM
      refine a_goto (pc := 17) (tgt := 24) (hC1 _ _) dL_canEnter_17 (by decide) ?_
      refine a_iconst (pc := 24) (hC1 _ _) dL_canEnter_24 (v := 0) rfl ?_
      exact l_iret (pc := 25) (hC1 _ _) hE h (Nat.le_of_ble_eq_true rfl) (Nat.le_of_ble_eq_true rfl) dL_canEnter_25
theorem dL_canRent_0 : decode cL_canRent 0 = .ok (.aload_n 3, 1) := by decide +kernel
theorem dL_canRent_1 : decode cL_canRent 1 = .ok (.iconst 0, 1) := by decide +kernel
theorem dL_canRent_2 : decode cL_canRent 2 = .ok (.aload_n 0, 1) := by decide +kernel
theorem dL_canRent_3 : decode cL_canRent 3 = .ok (.iload_n 1, 1) := by decide +kernel
theorem dL_canRent_4 : decode cL_canRent 4 = .ok (.iload_n 2, 1) := by decide +kernel
theorem dL_canRent_5 : decode cL_canRent 5 = .ok (.invokevirtual 78, 3) := by decide +kernel
theorem dL_canRent_8 : decode cL_canRent 8 = .ok (.ifCond .eq 7, 3) := by decide +kernel
theorem dL_canRent_11 : decode cL_canRent 11 = .ok (.lconst 1, 1) := by decide +kernel
theorem dL_canRent_12 : decode cL_canRent 12 = .ok (.goto 4, 3) := by decide +kernel
theorem dL_canRent_15 : decode cL_canRent 15 = .ok (.lconst 0, 1) := by decide +kernel
theorem dL_canRent_16 : decode cL_canRent 16 = .ok (.lastore, 1) := by decide +kernel
theorem dL_canRent_17 : decode cL_canRent 17 = .ok (.goto 7, 3) := by decide +kernel
theorem dL_canRent_20 : decode cL_canRent 20 = .ok (.astore 4, 2) := by decide +kernel
theorem dL_canRent_22 : decode cL_canRent 22 = .ok (.iconst 1, 1) := by decide +kernel
theorem dL_canRent_23 : decode cL_canRent 23 = .ok (.ireturn, 1) := by decide +kernel
theorem dL_canRent_24 : decode cL_canRent 24 = .ok (.iconst 0, 1) := by decide +kernel
theorem dL_canRent_25 : decode cL_canRent 25 = .ok (.ireturn, 1) := by decide +kernel
theorem sw_L_canRent : lSm yL_canRent cL_canRent 5 [(0, 17, 20, 44)] 4 := ⟨tw_909, tw_908, tw_0, by decide +kernel, by decide +kernel, by decide +kernel⟩
set_option maxRecDepth 20000 in
theorem t_L_canRent {l : Launch} {z : lP} (ht : z.2.1.map Prod.snd = tyX) (hl : l.stackTraces = false) (dM : Nat → Nat → Int32) (v : Nat → Int64) (vd : Nat → UInt64) (x1 : Int32) (x2 : Int32) (q : aS) (P : Int32 → lU → Prop) (h : w_X9_canRent x1 x2 q (fun r q2 => P 0 (vp_updL v 0 (bL r), vd, q2)) (fun E q2 => (E = "java/lang/IndexOutOfBoundsException" ∧ P 1 (v, vd, q2)))) :
    lMet l z dM yL_canRent (lWs yL_canRent cL_canRent 5 [(0, 17, 20, 44)]) 10 2 12 [.ref (z.2.2.1 0), .int x1, .int x2, .ref z.2.2.2.2.2.1] (v, vd, q) P := by
  have hX : isX (lX z dM v vd) := lX_is ht dM v vd
  refine lMet_of RL ⟨by decide +kernel, rfl⟩ (cat_all rfl) (Nat.le_of_ble_eq_true rfl) hl (fun f hR hC hE => ?_)
  obtain ⟨qd, qt⟩ := q
  show AW f (lX z dM v vd) 0 [some (.ref (gAd (lX z dM v vd) 0)), some (.int x1), some (.int x2), some (.ref z.2.2.2.2.2.1), none] [] (qd, qt) 0 0
  refine a_aload_n (pc := 0) hC dL_canRent_0 rfl ?_
  refine a_iconst (pc := 1) hC dL_canRent_1 (v := 0) rfl ?_
  refine a_aload_n (pc := 2) hC dL_canRent_2 rfl ?_
  refine a_iload_n (pc := 3) hC dL_canRent_3 rfl ?_
  refine a_iload_n (pc := 4) hC dL_canRent_4 rfl ?_
  refine l_callx (pc := 5) hC hR vm_X9_canRent tw_910 cl_X9 (oX_0 hX) ⟨(Nat.le_of_ble_eq_true rfl), (Nat.le_of_ble_eq_true rfl), (Nat.le_of_ble_eq_true rfl), (Nat.le_of_ble_eq_true rfl)⟩ dL_canRent_5 (t_X9_canRent hX hC.tr _ _ _ _ _ h) rfl rfl rfl (Nat.le_of_ble_eq_true rfl) (fun E q1 hx => ?_) (fun r q1 h => ?_)
  · obtain ⟨rfl, hx⟩ := hx
    obtain ⟨_, _⟩ := q1
    refine ⟨20, lc_one hC hE tw_734 sx_44 rfl (by decide), fun a => ?_⟩
    refine a_astore (pc := 20) hC dL_canRent_20 (Nat.le_of_ble_eq_true rfl) ?_
    refine a_iconst (pc := 22) hC dL_canRent_22 (v := 1) rfl ?_
    exact l_iret (pc := 23) hC hE hx (Nat.le_of_ble_eq_true rfl) (Nat.le_of_ble_eq_true rfl) dL_canRent_23
  · obtain ⟨_, _⟩ := q1
    replace h := h.2
    refine a_if_eq (pc := 8) (tgt := 15) hC dL_canRent_8 (by decide) (fun e => ?_) (fun e => ?_)
    · rw [bL0 e] at h
      refine a_lconst (pc := 15) hC dL_canRent_15 (w := 0) rfl ?_
      refine a_lastO (pc := 16) ht hC dL_canRent_16 ?_
      have hC1 := lOK_X hC dM
      refine a_goto (pc := 17) (tgt := 24) (hC1 _ _) dL_canRent_17 (by decide) ?_
      refine a_iconst (pc := 24) (hC1 _ _) dL_canRent_24 (v := 0) rfl ?_
      exact l_iret (pc := 25) (hC1 _ _) hE h (Nat.le_of_ble_eq_true rfl) (Nat.le_of_ble_eq_true rfl) dL_canRent_25
    · rw [bL1 e] at h
      refine a_lconst (pc := 11) hC dL_canRent_11 (w := 1) rfl ?_
      refine a_goto (pc := 12) (tgt := 16) hC dL_canRent_12 (by decide) ?_
      refine a_lastO (pc := 16) ht hC dL_canRent_16 ?_
      have hC1 := lOK_X hC dM
      refine a_goto (pc := 17) (tgt := 24) (hC1 _ _) dL_canRent_17 (by decide) ?_
      refine a_iconst (pc := 24) (hC1 _ _) dL_canRent_24 (v := 0) rfl ?_
      exact l_iret (pc := 25) (hC1 _ _) hE h (Nat.le_of_ble_eq_true rfl) (Nat.le_of_ble_eq_true rfl) dL_canRent_25
theorem dL_backFor_0 : decode cL_backFor 0 = .ok (.aload_n 2, 1) := by decide +kernel
theorem dL_backFor_1 : decode cL_backFor 1 = .ok (.iconst 0, 1) := by decide +kernel
theorem dL_backFor_2 : decode cL_backFor 2 = .ok (.aload_n 0, 1) := by decide +kernel
theorem dL_backFor_3 : decode cL_backFor 3 = .ok (.iload_n 1, 1) := by decide +kernel
theorem dL_backFor_4 : decode cL_backFor 4 = .ok (.invokevirtual 81, 3) := by decide +kernel
theorem dL_backFor_7 : decode cL_backFor 7 = .ok (.i2l, 1) := by decide +kernel
theorem dL_backFor_8 : decode cL_backFor 8 = .ok (.lastore, 1) := by decide +kernel
theorem dL_backFor_9 : decode cL_backFor 9 = .ok (.goto 9, 3) := by decide +kernel
theorem dL_backFor_12 : decode cL_backFor 12 = .ok (.astore_n 3, 1) := by decide +kernel
theorem dL_backFor_13 : decode cL_backFor 13 = .ok (.iconst 1, 1) := by decide +kernel
theorem dL_backFor_14 : decode cL_backFor 14 = .ok (.ireturn, 1) := by decide +kernel
theorem dL_backFor_15 : decode cL_backFor 15 = .ok (.astore_n 3, 1) := by decide +kernel
theorem dL_backFor_16 : decode cL_backFor 16 = .ok (.iconst 2, 1) := by decide +kernel
theorem dL_backFor_17 : decode cL_backFor 17 = .ok (.ireturn, 1) := by decide +kernel
theorem dL_backFor_18 : decode cL_backFor 18 = .ok (.iconst 0, 1) := by decide +kernel
theorem dL_backFor_19 : decode cL_backFor 19 = .ok (.ireturn, 1) := by decide +kernel
theorem sw_L_backFor : lSm yL_backFor cL_backFor 4 [(0, 9, 12, 44), (0, 9, 15, 57)] 3 := ⟨tw_916, tw_915, tw_0, by decide +kernel, by decide +kernel, by decide +kernel⟩
set_option maxRecDepth 20000 in
theorem t_L_backFor {l : Launch} {z : lP} (ht : z.2.1.map Prod.snd = tyX) (hl : l.stackTraces = false) (dM : Nat → Nat → Int32) (v : Nat → Int64) (vd : Nat → UInt64) (x1 : Int32) (q : aS) (P : Int32 → lU → Prop) (h : w_X9_backFor x1 q (fun r q2 => P 0 (vp_updL v 0 (r.toInt64), vd, q2)) (fun E q2 => (E = "java/lang/IndexOutOfBoundsException" ∧ P 1 (v, vd, q2)) ∨ (E = "java/util/NoSuchElementException" ∧ P 2 (v, vd, q2)))) :
    lMet l z dM yL_backFor (lWs yL_backFor cL_backFor 4 [(0, 9, 12, 44), (0, 9, 15, 57)]) 10 2 12 [.ref (z.2.2.1 0), .int x1, .ref z.2.2.2.2.2.1] (v, vd, q) P := by
  have hX : isX (lX z dM v vd) := lX_is ht dM v vd
  refine lMet_of RL ⟨by decide +kernel, rfl⟩ (cat_all rfl) (Nat.le_of_ble_eq_true rfl) hl (fun f hR hC hE => ?_)
  obtain ⟨qd, qt⟩ := q
  show AW f (lX z dM v vd) 0 [some (.ref (gAd (lX z dM v vd) 0)), some (.int x1), some (.ref z.2.2.2.2.2.1), none] [] (qd, qt) 0 0
  refine a_aload_n (pc := 0) hC dL_backFor_0 rfl ?_
  refine a_iconst (pc := 1) hC dL_backFor_1 (v := 0) rfl ?_
  refine a_aload_n (pc := 2) hC dL_backFor_2 rfl ?_
  refine a_iload_n (pc := 3) hC dL_backFor_3 rfl ?_
  refine l_callx (pc := 4) hC hR vm_X9_backFor tw_917 cl_X9 (oX_0 hX) ⟨(Nat.le_of_ble_eq_true rfl), (Nat.le_of_ble_eq_true rfl), (Nat.le_of_ble_eq_true rfl), (Nat.le_of_ble_eq_true rfl)⟩ dL_backFor_4 (t_X9_backFor hX hC.tr _ _ _ _ h) rfl rfl rfl (Nat.le_of_ble_eq_true rfl) (fun E q1 hx => ?_) (fun r q1 h => ?_)
  · obtain ⟨_, _⟩ := q1
    rcases hx with ⟨rfl, hx⟩ | ⟨rfl, hx⟩
    · refine ⟨12, lc_two1 hC hE tw_734 sx_44 rfl (by decide), fun a => ?_⟩
      refine a_astore_n (pc := 12) hC dL_backFor_12 (Nat.le_of_ble_eq_true rfl) ?_
      refine a_iconst (pc := 13) hC dL_backFor_13 (v := 1) rfl ?_
      exact l_iret (pc := 14) hC hE hx (Nat.le_of_ble_eq_true rfl) (Nat.le_of_ble_eq_true rfl) dL_backFor_14
    · refine ⟨15, lc_two2 hC hE tw_734 tw_839 sx_57 sn_57_44 rfl rfl (by decide) (by decide), fun a => ?_⟩
      refine a_astore_n (pc := 15) hC dL_backFor_15 (Nat.le_of_ble_eq_true rfl) ?_
      refine a_iconst (pc := 16) hC dL_backFor_16 (v := 2) rfl ?_
      exact l_iret (pc := 17) hC hE hx (Nat.le_of_ble_eq_true rfl) (Nat.le_of_ble_eq_true rfl) dL_backFor_17
  · obtain ⟨_, _⟩ := q1
    refine a_i2l (pc := 7) hC dL_backFor_7 ?_
    refine a_lastO (pc := 8) ht hC dL_backFor_8 ?_
    have hC1 := lOK_X hC dM
    refine a_goto (pc := 9) (tgt := 18) (hC1 _ _) dL_backFor_9 (by decide) ?_
    refine a_iconst (pc := 18) (hC1 _ _) dL_backFor_18 (v := 0) rfl ?_
    exact l_iret (pc := 19) (hC1 _ _) hE h (Nat.le_of_ble_eq_true rfl) (Nat.le_of_ble_eq_true rfl) dL_backFor_19
theorem dL_others_0 : decode cL_others 0 = .ok (.aload_n 2, 1) := by decide +kernel
theorem dL_others_1 : decode cL_others 1 = .ok (.iconst 0, 1) := by decide +kernel
theorem dL_others_2 : decode cL_others 2 = .ok (.aload_n 0, 1) := by decide +kernel
theorem dL_others_3 : decode cL_others 3 = .ok (.iload_n 1, 1) := by decide +kernel
theorem dL_others_4 : decode cL_others 4 = .ok (.invokevirtual 84, 3) := by decide +kernel
theorem dL_others_7 : decode cL_others 7 = .ok (.i2l, 1) := by decide +kernel
theorem dL_others_8 : decode cL_others 8 = .ok (.lastore, 1) := by decide +kernel
theorem dL_others_9 : decode cL_others 9 = .ok (.goto 6, 3) := by decide +kernel
theorem dL_others_12 : decode cL_others 12 = .ok (.astore_n 3, 1) := by decide +kernel
theorem dL_others_13 : decode cL_others 13 = .ok (.iconst 1, 1) := by decide +kernel
theorem dL_others_14 : decode cL_others 14 = .ok (.ireturn, 1) := by decide +kernel
theorem dL_others_15 : decode cL_others 15 = .ok (.iconst 0, 1) := by decide +kernel
theorem dL_others_16 : decode cL_others 16 = .ok (.ireturn, 1) := by decide +kernel
theorem sw_L_others : lSm yL_others cL_others 4 [(0, 9, 12, 44)] 3 := ⟨tw_925, tw_924, tw_0, by decide +kernel, by decide +kernel, by decide +kernel⟩
set_option maxRecDepth 20000 in
theorem t_L_others {l : Launch} {z : lP} (ht : z.2.1.map Prod.snd = tyX) (hl : l.stackTraces = false) (dM : Nat → Nat → Int32) (v : Nat → Int64) (vd : Nat → UInt64) (x1 : Int32) (q : aS) (P : Int32 → lU → Prop) (h : w_X9_others x1 q (fun r q2 => P 0 (vp_updL v 0 (r.toInt64), vd, q2)) (fun E q2 => (E = "java/lang/IndexOutOfBoundsException" ∧ P 1 (v, vd, q2)))) :
    lMet l z dM yL_others (lWs yL_others cL_others 4 [(0, 9, 12, 44)]) 10 1 6 [.ref (z.2.2.1 0), .int x1, .ref z.2.2.2.2.2.1] (v, vd, q) P := by
  have hX : isX (lX z dM v vd) := lX_is ht dM v vd
  refine lMet_of RL ⟨by decide +kernel, rfl⟩ (cat_all rfl) (Nat.le_of_ble_eq_true rfl) hl (fun f hR hC hE => ?_)
  obtain ⟨qd, qt⟩ := q
  show AW f (lX z dM v vd) 0 [some (.ref (gAd (lX z dM v vd) 0)), some (.int x1), some (.ref z.2.2.2.2.2.1), none] [] (qd, qt) 0 0
  refine a_aload_n (pc := 0) hC dL_others_0 rfl ?_
  refine a_iconst (pc := 1) hC dL_others_1 (v := 0) rfl ?_
  refine a_aload_n (pc := 2) hC dL_others_2 rfl ?_
  refine a_iload_n (pc := 3) hC dL_others_3 rfl ?_
  refine l_callx (pc := 4) hC hR vm_X9_others tw_926 cl_X9 (oX_0 hX) ⟨(Nat.le_of_ble_eq_true rfl), (Nat.le_of_ble_eq_true rfl), (Nat.le_of_ble_eq_true rfl), (Nat.le_of_ble_eq_true rfl)⟩ dL_others_4 (t_X9_others hX hC.tr _ _ _ _ h) rfl rfl rfl (Nat.le_of_ble_eq_true rfl) (fun E q1 hx => ?_) (fun r q1 h => ?_)
  · obtain ⟨rfl, hx⟩ := hx
    obtain ⟨_, _⟩ := q1
    refine ⟨12, lc_one hC hE tw_734 sx_44 rfl (by decide), fun a => ?_⟩
    refine a_astore_n (pc := 12) hC dL_others_12 (Nat.le_of_ble_eq_true rfl) ?_
    refine a_iconst (pc := 13) hC dL_others_13 (v := 1) rfl ?_
    exact l_iret (pc := 14) hC hE hx (Nat.le_of_ble_eq_true rfl) (Nat.le_of_ble_eq_true rfl) dL_others_14
  · obtain ⟨_, _⟩ := q1
    refine a_i2l (pc := 7) hC dL_others_7 ?_
    refine a_lastO (pc := 8) ht hC dL_others_8 ?_
    have hC1 := lOK_X hC dM
    refine a_goto (pc := 9) (tgt := 15) (hC1 _ _) dL_others_9 (by decide) ?_
    refine a_iconst (pc := 15) (hC1 _ _) dL_others_15 (v := 0) rfl ?_
    exact l_iret (pc := 16) (hC1 _ _) hE h (Nat.le_of_ble_eq_true rfl) (Nat.le_of_ble_eq_true rfl) dL_others_16
theorem dL_free_0 : decode cL_free 0 = .ok (.aload_n 2, 1) := by decide +kernel
theorem dL_free_1 : decode cL_free 1 = .ok (.iconst 0, 1) := by decide +kernel
theorem dL_free_2 : decode cL_free 2 = .ok (.aload_n 0, 1) := by decide +kernel
theorem dL_free_3 : decode cL_free 3 = .ok (.iload_n 1, 1) := by decide +kernel
theorem dL_free_4 : decode cL_free 4 = .ok (.invokevirtual 87, 3) := by decide +kernel
theorem dL_free_7 : decode cL_free 7 = .ok (.i2l, 1) := by decide +kernel
theorem dL_free_8 : decode cL_free 8 = .ok (.lastore, 1) := by decide +kernel
theorem dL_free_9 : decode cL_free 9 = .ok (.goto 6, 3) := by decide +kernel
theorem dL_free_12 : decode cL_free 12 = .ok (.astore_n 3, 1) := by decide +kernel
theorem dL_free_13 : decode cL_free 13 = .ok (.iconst 1, 1) := by decide +kernel
theorem dL_free_14 : decode cL_free 14 = .ok (.ireturn, 1) := by decide +kernel
theorem dL_free_15 : decode cL_free 15 = .ok (.iconst 0, 1) := by decide +kernel
theorem dL_free_16 : decode cL_free 16 = .ok (.ireturn, 1) := by decide +kernel
theorem sw_L_free : lSm yL_free cL_free 4 [(0, 9, 12, 44)] 3 := ⟨tw_932, tw_931, tw_0, by decide +kernel, by decide +kernel, by decide +kernel⟩
set_option maxRecDepth 20000 in
theorem t_L_free {l : Launch} {z : lP} (ht : z.2.1.map Prod.snd = tyX) (hl : l.stackTraces = false) (dM : Nat → Nat → Int32) (v : Nat → Int64) (vd : Nat → UInt64) (x1 : Int32) (q : aS) (P : Int32 → lU → Prop) (h : w_X9_free x1 q (fun r q2 => P 0 (vp_updL v 0 (r.toInt64), vd, q2)) (fun E q2 => (E = "java/lang/IndexOutOfBoundsException" ∧ P 1 (v, vd, q2)))) :
    lMet l z dM yL_free (lWs yL_free cL_free 4 [(0, 9, 12, 44)]) 10 1 6 [.ref (z.2.2.1 0), .int x1, .ref z.2.2.2.2.2.1] (v, vd, q) P := by
  have hX : isX (lX z dM v vd) := lX_is ht dM v vd
  refine lMet_of RL ⟨by decide +kernel, rfl⟩ (cat_all rfl) (Nat.le_of_ble_eq_true rfl) hl (fun f hR hC hE => ?_)
  obtain ⟨qd, qt⟩ := q
  show AW f (lX z dM v vd) 0 [some (.ref (gAd (lX z dM v vd) 0)), some (.int x1), some (.ref z.2.2.2.2.2.1), none] [] (qd, qt) 0 0
  refine a_aload_n (pc := 0) hC dL_free_0 rfl ?_
  refine a_iconst (pc := 1) hC dL_free_1 (v := 0) rfl ?_
  refine a_aload_n (pc := 2) hC dL_free_2 rfl ?_
  refine a_iload_n (pc := 3) hC dL_free_3 rfl ?_
  refine l_callx (pc := 4) hC hR vm_X9_free tw_933 cl_X9 (oX_0 hX) ⟨(Nat.le_of_ble_eq_true rfl), (Nat.le_of_ble_eq_true rfl), (Nat.le_of_ble_eq_true rfl), (Nat.le_of_ble_eq_true rfl)⟩ dL_free_4 (t_X9_free hX hC.tr _ _ _ _ h) rfl rfl rfl (Nat.le_of_ble_eq_true rfl) (fun E q1 hx => ?_) (fun r q1 h => ?_)
  · obtain ⟨rfl, hx⟩ := hx
    obtain ⟨_, _⟩ := q1
    refine ⟨12, lc_one hC hE tw_734 sx_44 rfl (by decide), fun a => ?_⟩
    refine a_astore_n (pc := 12) hC dL_free_12 (Nat.le_of_ble_eq_true rfl) ?_
    refine a_iconst (pc := 13) hC dL_free_13 (v := 1) rfl ?_
    exact l_iret (pc := 14) hC hE hx (Nat.le_of_ble_eq_true rfl) (Nat.le_of_ble_eq_true rfl) dL_free_14
  · obtain ⟨_, _⟩ := q1
    refine a_i2l (pc := 7) hC dL_free_7 ?_
    refine a_lastO (pc := 8) ht hC dL_free_8 ?_
    have hC1 := lOK_X hC dM
    refine a_goto (pc := 9) (tgt := 15) (hC1 _ _) dL_free_9 (by decide) ?_
    refine a_iconst (pc := 15) (hC1 _ _) dL_free_15 (v := 0) rfl ?_
    exact l_iret (pc := 16) (hC1 _ _) hE h (Nat.le_of_ble_eq_true rfl) (Nat.le_of_ble_eq_true rfl) dL_free_16
theorem dL_dryIn_0 : decode cL_dryIn 0 = .ok (.aload_n 2, 1) := by decide +kernel
theorem dL_dryIn_1 : decode cL_dryIn 1 = .ok (.iconst 0, 1) := by decide +kernel
theorem dL_dryIn_2 : decode cL_dryIn 2 = .ok (.aload_n 0, 1) := by decide +kernel
theorem dL_dryIn_3 : decode cL_dryIn 3 = .ok (.iload_n 1, 1) := by decide +kernel
theorem dL_dryIn_4 : decode cL_dryIn 4 = .ok (.invokevirtual 90, 3) := by decide +kernel
theorem dL_dryIn_7 : decode cL_dryIn 7 = .ok (.i2l, 1) := by decide +kernel
theorem dL_dryIn_8 : decode cL_dryIn 8 = .ok (.lastore, 1) := by decide +kernel
theorem dL_dryIn_9 : decode cL_dryIn 9 = .ok (.goto 6, 3) := by decide +kernel
theorem dL_dryIn_12 : decode cL_dryIn 12 = .ok (.astore_n 3, 1) := by decide +kernel
theorem dL_dryIn_13 : decode cL_dryIn 13 = .ok (.iconst 1, 1) := by decide +kernel
theorem dL_dryIn_14 : decode cL_dryIn 14 = .ok (.ireturn, 1) := by decide +kernel
theorem dL_dryIn_15 : decode cL_dryIn 15 = .ok (.iconst 0, 1) := by decide +kernel
theorem dL_dryIn_16 : decode cL_dryIn 16 = .ok (.ireturn, 1) := by decide +kernel
theorem sw_L_dryIn : lSm yL_dryIn cL_dryIn 4 [(0, 9, 12, 44)] 3 := ⟨tw_939, tw_938, tw_0, by decide +kernel, by decide +kernel, by decide +kernel⟩
set_option maxRecDepth 20000 in
theorem t_L_dryIn {l : Launch} {z : lP} (ht : z.2.1.map Prod.snd = tyX) (hl : l.stackTraces = false) (dM : Nat → Nat → Int32) (v : Nat → Int64) (vd : Nat → UInt64) (x1 : Int32) (q : aS) (P : Int32 → lU → Prop) (h : w_X9_dryIn x1 q (fun r q2 => P 0 (vp_updL v 0 (r.toInt64), vd, q2)) (fun E q2 => (E = "java/lang/IndexOutOfBoundsException" ∧ P 1 (v, vd, q2)))) :
    lMet l z dM yL_dryIn (lWs yL_dryIn cL_dryIn 4 [(0, 9, 12, 44)]) 10 1 6 [.ref (z.2.2.1 0), .int x1, .ref z.2.2.2.2.2.1] (v, vd, q) P := by
  have hX : isX (lX z dM v vd) := lX_is ht dM v vd
  refine lMet_of RL ⟨by decide +kernel, rfl⟩ (cat_all rfl) (Nat.le_of_ble_eq_true rfl) hl (fun f hR hC hE => ?_)
  obtain ⟨qd, qt⟩ := q
  show AW f (lX z dM v vd) 0 [some (.ref (gAd (lX z dM v vd) 0)), some (.int x1), some (.ref z.2.2.2.2.2.1), none] [] (qd, qt) 0 0
  refine a_aload_n (pc := 0) hC dL_dryIn_0 rfl ?_
  refine a_iconst (pc := 1) hC dL_dryIn_1 (v := 0) rfl ?_
  refine a_aload_n (pc := 2) hC dL_dryIn_2 rfl ?_
  refine a_iload_n (pc := 3) hC dL_dryIn_3 rfl ?_
  refine l_callx (pc := 4) hC hR vm_X9_dryIn tw_940 cl_X9 (oX_0 hX) ⟨(Nat.le_of_ble_eq_true rfl), (Nat.le_of_ble_eq_true rfl), (Nat.le_of_ble_eq_true rfl), (Nat.le_of_ble_eq_true rfl)⟩ dL_dryIn_4 (t_X9_dryIn hX hC.tr _ _ _ _ h) rfl rfl rfl (Nat.le_of_ble_eq_true rfl) (fun E q1 hx => ?_) (fun r q1 h => ?_)
  · obtain ⟨rfl, hx⟩ := hx
    obtain ⟨_, _⟩ := q1
    refine ⟨12, lc_one hC hE tw_734 sx_44 rfl (by decide), fun a => ?_⟩
    refine a_astore_n (pc := 12) hC dL_dryIn_12 (Nat.le_of_ble_eq_true rfl) ?_
    refine a_iconst (pc := 13) hC dL_dryIn_13 (v := 1) rfl ?_
    exact l_iret (pc := 14) hC hE hx (Nat.le_of_ble_eq_true rfl) (Nat.le_of_ble_eq_true rfl) dL_dryIn_14
  · obtain ⟨_, _⟩ := q1
    refine a_i2l (pc := 7) hC dL_dryIn_7 ?_
    refine a_lastO (pc := 8) ht hC dL_dryIn_8 ?_
    have hC1 := lOK_X hC dM
    refine a_goto (pc := 9) (tgt := 15) (hC1 _ _) dL_dryIn_9 (by decide) ?_
    refine a_iconst (pc := 15) (hC1 _ _) dL_dryIn_15 (v := 0) rfl ?_
    exact l_iret (pc := 16) (hC1 _ _) hE h (Nat.le_of_ble_eq_true rfl) (Nat.le_of_ble_eq_true rfl) dL_dryIn_16
theorem dL_dampest_0 : decode cL_dampest 0 = .ok (.aload_n 2, 1) := by decide +kernel
theorem dL_dampest_1 : decode cL_dampest 1 = .ok (.iconst 0, 1) := by decide +kernel
theorem dL_dampest_2 : decode cL_dampest 2 = .ok (.aload_n 0, 1) := by decide +kernel
theorem dL_dampest_3 : decode cL_dampest 3 = .ok (.iload_n 1, 1) := by decide +kernel
theorem dL_dampest_4 : decode cL_dampest 4 = .ok (.invokevirtual 93, 3) := by decide +kernel
theorem dL_dampest_7 : decode cL_dampest 7 = .ok (.i2l, 1) := by decide +kernel
theorem dL_dampest_8 : decode cL_dampest 8 = .ok (.lastore, 1) := by decide +kernel
theorem dL_dampest_9 : decode cL_dampest 9 = .ok (.goto 6, 3) := by decide +kernel
theorem dL_dampest_12 : decode cL_dampest 12 = .ok (.astore_n 3, 1) := by decide +kernel
theorem dL_dampest_13 : decode cL_dampest 13 = .ok (.iconst 1, 1) := by decide +kernel
theorem dL_dampest_14 : decode cL_dampest 14 = .ok (.ireturn, 1) := by decide +kernel
theorem dL_dampest_15 : decode cL_dampest 15 = .ok (.iconst 0, 1) := by decide +kernel
theorem dL_dampest_16 : decode cL_dampest 16 = .ok (.ireturn, 1) := by decide +kernel
theorem sw_L_dampest : lSm yL_dampest cL_dampest 4 [(0, 9, 12, 57)] 3 := ⟨tw_946, tw_945, tw_0, by decide +kernel, by decide +kernel, by decide +kernel⟩
set_option maxRecDepth 20000 in
theorem t_L_dampest {l : Launch} {z : lP} (ht : z.2.1.map Prod.snd = tyX) (hl : l.stackTraces = false) (dM : Nat → Nat → Int32) (v : Nat → Int64) (vd : Nat → UInt64) (x1 : Int32) (q : aS) (P : Int32 → lU → Prop) (h : w_X9_dampest x1 q (fun r q2 => P 0 (vp_updL v 0 (r.toInt64), vd, q2)) (fun E q2 => (E = "java/util/NoSuchElementException" ∧ P 1 (v, vd, q2)))) :
    lMet l z dM yL_dampest (lWs yL_dampest cL_dampest 4 [(0, 9, 12, 57)]) 9 1 6 [.ref (z.2.2.1 0), .int x1, .ref z.2.2.2.2.2.1] (v, vd, q) P := by
  have hX : isX (lX z dM v vd) := lX_is ht dM v vd
  refine lMet_of RL ⟨by decide +kernel, rfl⟩ (cat_all rfl) (Nat.le_of_ble_eq_true rfl) hl (fun f hR hC hE => ?_)
  obtain ⟨qd, qt⟩ := q
  show AW f (lX z dM v vd) 0 [some (.ref (gAd (lX z dM v vd) 0)), some (.int x1), some (.ref z.2.2.2.2.2.1), none] [] (qd, qt) 0 0
  refine a_aload_n (pc := 0) hC dL_dampest_0 rfl ?_
  refine a_iconst (pc := 1) hC dL_dampest_1 (v := 0) rfl ?_
  refine a_aload_n (pc := 2) hC dL_dampest_2 rfl ?_
  refine a_iload_n (pc := 3) hC dL_dampest_3 rfl ?_
  refine l_callx (pc := 4) hC hR vm_X9_dampest tw_947 cl_X9 (oX_0 hX) ⟨(Nat.le_of_ble_eq_true rfl), (Nat.le_of_ble_eq_true rfl), (Nat.le_of_ble_eq_true rfl), (Nat.le_of_ble_eq_true rfl)⟩ dL_dampest_4 (t_X9_dampest hX hC.tr _ _ _ _ h) rfl rfl rfl (Nat.le_of_ble_eq_true rfl) (fun E q1 hx => ?_) (fun r q1 h => ?_)
  · obtain ⟨rfl, hx⟩ := hx
    obtain ⟨_, _⟩ := q1
    refine ⟨12, lc_one hC hE tw_839 sx_57 rfl (by decide), fun a => ?_⟩
    refine a_astore_n (pc := 12) hC dL_dampest_12 (Nat.le_of_ble_eq_true rfl) ?_
    refine a_iconst (pc := 13) hC dL_dampest_13 (v := 1) rfl ?_
    exact l_iret (pc := 14) hC hE hx (Nat.le_of_ble_eq_true rfl) (Nat.le_of_ble_eq_true rfl) dL_dampest_14
  · obtain ⟨_, _⟩ := q1
    refine a_i2l (pc := 7) hC dL_dampest_7 ?_
    refine a_lastO (pc := 8) ht hC dL_dampest_8 ?_
    have hC1 := lOK_X hC dM
    refine a_goto (pc := 9) (tgt := 15) (hC1 _ _) dL_dampest_9 (by decide) ?_
    refine a_iconst (pc := 15) (hC1 _ _) dL_dampest_15 (v := 0) rfl ?_
    exact l_iret (pc := 16) (hC1 _ _) hE h (Nat.le_of_ble_eq_true rfl) (Nat.le_of_ble_eq_true rfl) dL_dampest_16
theorem dL_ranked_0 : decode cL_ranked 0 = .ok (.aload_n 3, 1) := by decide +kernel
theorem dL_ranked_1 : decode cL_ranked 1 = .ok (.iconst 0, 1) := by decide +kernel
theorem dL_ranked_2 : decode cL_ranked 2 = .ok (.aload_n 0, 1) := by decide +kernel
theorem dL_ranked_3 : decode cL_ranked 3 = .ok (.iload_n 1, 1) := by decide +kernel
theorem dL_ranked_4 : decode cL_ranked 4 = .ok (.iload_n 2, 1) := by decide +kernel
theorem dL_ranked_5 : decode cL_ranked 5 = .ok (.invokevirtual 96, 3) := by decide +kernel
theorem dL_ranked_8 : decode cL_ranked 8 = .ok (.i2l, 1) := by decide +kernel
theorem dL_ranked_9 : decode cL_ranked 9 = .ok (.lastore, 1) := by decide +kernel
theorem dL_ranked_10 : decode cL_ranked 10 = .ok (.goto 11, 3) := by decide +kernel
theorem dL_ranked_13 : decode cL_ranked 13 = .ok (.astore 4, 2) := by decide +kernel
theorem dL_ranked_15 : decode cL_ranked 15 = .ok (.iconst 1, 1) := by decide +kernel
theorem dL_ranked_16 : decode cL_ranked 16 = .ok (.ireturn, 1) := by decide +kernel
theorem dL_ranked_17 : decode cL_ranked 17 = .ok (.astore 4, 2) := by decide +kernel
theorem dL_ranked_19 : decode cL_ranked 19 = .ok (.iconst 2, 1) := by decide +kernel
theorem dL_ranked_20 : decode cL_ranked 20 = .ok (.ireturn, 1) := by decide +kernel
theorem dL_ranked_21 : decode cL_ranked 21 = .ok (.iconst 0, 1) := by decide +kernel
theorem dL_ranked_22 : decode cL_ranked 22 = .ok (.ireturn, 1) := by decide +kernel
theorem sw_L_ranked : lSm yL_ranked cL_ranked 5 [(0, 10, 13, 46), (0, 10, 17, 57)] 4 := ⟨tw_962, tw_961, tw_0, by decide +kernel, by decide +kernel, by decide +kernel⟩
set_option maxRecDepth 20000 in
theorem t_L_ranked {l : Launch} {z : lP} (ht : z.2.1.map Prod.snd = tyX) (hl : l.stackTraces = false) (dM : Nat → Nat → Int32) (v : Nat → Int64) (vd : Nat → UInt64) (x1 : Int32) (x2 : Int32) (q : aS) (P : Int32 → lU → Prop) (h : w_X9_ranked x1 x2 q (fun r q2 => P 0 (vp_updL v 0 (r.toInt64), vd, q2)) (fun E q2 => (E = "java/lang/IllegalArgumentException" ∧ P 1 (v, vd, q2)) ∨ (E = "java/util/NoSuchElementException" ∧ P 2 (v, vd, q2)))) :
    lMet l z dM yL_ranked (lWs yL_ranked cL_ranked 5 [(0, 10, 13, 46), (0, 10, 17, 57)]) 9 1 6 [.ref (z.2.2.1 0), .int x1, .int x2, .ref z.2.2.2.2.2.1] (v, vd, q) P := by
  have hX : isX (lX z dM v vd) := lX_is ht dM v vd
  refine lMet_of RL ⟨by decide +kernel, rfl⟩ (cat_all rfl) (Nat.le_of_ble_eq_true rfl) hl (fun f hR hC hE => ?_)
  obtain ⟨qd, qt⟩ := q
  show AW f (lX z dM v vd) 0 [some (.ref (gAd (lX z dM v vd) 0)), some (.int x1), some (.int x2), some (.ref z.2.2.2.2.2.1), none] [] (qd, qt) 0 0
  refine a_aload_n (pc := 0) hC dL_ranked_0 rfl ?_
  refine a_iconst (pc := 1) hC dL_ranked_1 (v := 0) rfl ?_
  refine a_aload_n (pc := 2) hC dL_ranked_2 rfl ?_
  refine a_iload_n (pc := 3) hC dL_ranked_3 rfl ?_
  refine a_iload_n (pc := 4) hC dL_ranked_4 rfl ?_
  refine l_callx (pc := 5) hC hR vm_X9_ranked tw_963 cl_X9 (oX_0 hX) ⟨(Nat.le_of_ble_eq_true rfl), (Nat.le_of_ble_eq_true rfl), (Nat.le_of_ble_eq_true rfl), (Nat.le_of_ble_eq_true rfl)⟩ dL_ranked_5 (t_X9_ranked hX hC.tr _ _ _ _ _ h) rfl rfl rfl (Nat.le_of_ble_eq_true rfl) (fun E q1 hx => ?_) (fun r q1 h => ?_)
  · obtain ⟨_, _⟩ := q1
    rcases hx with ⟨rfl, hx⟩ | ⟨rfl, hx⟩
    · refine ⟨13, lc_two1 hC hE tw_758 sx_46 rfl (by decide), fun a => ?_⟩
      refine a_astore (pc := 13) hC dL_ranked_13 (Nat.le_of_ble_eq_true rfl) ?_
      refine a_iconst (pc := 15) hC dL_ranked_15 (v := 1) rfl ?_
      exact l_iret (pc := 16) hC hE hx (Nat.le_of_ble_eq_true rfl) (Nat.le_of_ble_eq_true rfl) dL_ranked_16
    · refine ⟨17, lc_two2 hC hE tw_758 tw_839 sx_57 sn_57_46 rfl rfl (by decide) (by decide), fun a => ?_⟩
      refine a_astore (pc := 17) hC dL_ranked_17 (Nat.le_of_ble_eq_true rfl) ?_
      refine a_iconst (pc := 19) hC dL_ranked_19 (v := 2) rfl ?_
      exact l_iret (pc := 20) hC hE hx (Nat.le_of_ble_eq_true rfl) (Nat.le_of_ble_eq_true rfl) dL_ranked_20
  · obtain ⟨_, _⟩ := q1
    refine a_i2l (pc := 8) hC dL_ranked_8 ?_
    refine a_lastO (pc := 9) ht hC dL_ranked_9 ?_
    have hC1 := lOK_X hC dM
    refine a_goto (pc := 10) (tgt := 21) (hC1 _ _) dL_ranked_10 (by decide) ?_
    refine a_iconst (pc := 21) (hC1 _ _) dL_ranked_21 (v := 0) rfl ?_
    exact l_iret (pc := 22) (hC1 _ _) hE h (Nat.le_of_ble_eq_true rfl) (Nat.le_of_ble_eq_true rfl) dL_ranked_22
theorem dL_strongest_0 : decode cL_strongest 0 = .ok (.aload_n 2, 1) := by decide +kernel
theorem dL_strongest_1 : decode cL_strongest 1 = .ok (.iconst 0, 1) := by decide +kernel
theorem dL_strongest_2 : decode cL_strongest 2 = .ok (.aload_n 0, 1) := by decide +kernel
theorem dL_strongest_3 : decode cL_strongest 3 = .ok (.iload_n 1, 1) := by decide +kernel
theorem dL_strongest_4 : decode cL_strongest 4 = .ok (.invokevirtual 99, 3) := by decide +kernel
theorem dL_strongest_7 : decode cL_strongest 7 = .ok (.i2l, 1) := by decide +kernel
theorem dL_strongest_8 : decode cL_strongest 8 = .ok (.lastore, 1) := by decide +kernel
theorem dL_strongest_9 : decode cL_strongest 9 = .ok (.goto 6, 3) := by decide +kernel
theorem dL_strongest_12 : decode cL_strongest 12 = .ok (.astore_n 3, 1) := by decide +kernel
theorem dL_strongest_13 : decode cL_strongest 13 = .ok (.iconst 1, 1) := by decide +kernel
theorem dL_strongest_14 : decode cL_strongest 14 = .ok (.ireturn, 1) := by decide +kernel
theorem dL_strongest_15 : decode cL_strongest 15 = .ok (.iconst 0, 1) := by decide +kernel
theorem dL_strongest_16 : decode cL_strongest 16 = .ok (.ireturn, 1) := by decide +kernel
theorem sw_L_strongest : lSm yL_strongest cL_strongest 4 [(0, 9, 12, 57)] 3 := ⟨tw_979, tw_978, tw_0, by decide +kernel, by decide +kernel, by decide +kernel⟩
set_option maxRecDepth 20000 in
theorem t_L_strongest {l : Launch} {z : lP} (ht : z.2.1.map Prod.snd = tyX) (hl : l.stackTraces = false) (dM : Nat → Nat → Int32) (v : Nat → Int64) (vd : Nat → UInt64) (x1 : Int32) (q : aS) (P : Int32 → lU → Prop) (h : w_X9_strongest x1 q (fun r q2 => P 0 (vp_updL v 0 (r.toInt64), vd, q2)) (fun E q2 => (E = "java/util/NoSuchElementException" ∧ P 1 (v, vd, q2)))) :
    lMet l z dM yL_strongest (lWs yL_strongest cL_strongest 4 [(0, 9, 12, 57)]) 9 1 6 [.ref (z.2.2.1 0), .int x1, .ref z.2.2.2.2.2.1] (v, vd, q) P := by
  have hX : isX (lX z dM v vd) := lX_is ht dM v vd
  refine lMet_of RL ⟨by decide +kernel, rfl⟩ (cat_all rfl) (Nat.le_of_ble_eq_true rfl) hl (fun f hR hC hE => ?_)
  obtain ⟨qd, qt⟩ := q
  show AW f (lX z dM v vd) 0 [some (.ref (gAd (lX z dM v vd) 0)), some (.int x1), some (.ref z.2.2.2.2.2.1), none] [] (qd, qt) 0 0
  refine a_aload_n (pc := 0) hC dL_strongest_0 rfl ?_
  refine a_iconst (pc := 1) hC dL_strongest_1 (v := 0) rfl ?_
  refine a_aload_n (pc := 2) hC dL_strongest_2 rfl ?_
  refine a_iload_n (pc := 3) hC dL_strongest_3 rfl ?_
  refine l_callx (pc := 4) hC hR vm_X9_strongest tw_980 cl_X9 (oX_0 hX) ⟨(Nat.le_of_ble_eq_true rfl), (Nat.le_of_ble_eq_true rfl), (Nat.le_of_ble_eq_true rfl), (Nat.le_of_ble_eq_true rfl)⟩ dL_strongest_4 (t_X9_strongest hX hC.tr _ _ _ _ h) rfl rfl rfl (Nat.le_of_ble_eq_true rfl) (fun E q1 hx => ?_) (fun r q1 h => ?_)
  · obtain ⟨rfl, hx⟩ := hx
    obtain ⟨_, _⟩ := q1
    refine ⟨12, lc_one hC hE tw_839 sx_57 rfl (by decide), fun a => ?_⟩
    refine a_astore_n (pc := 12) hC dL_strongest_12 (Nat.le_of_ble_eq_true rfl) ?_
    refine a_iconst (pc := 13) hC dL_strongest_13 (v := 1) rfl ?_
    exact l_iret (pc := 14) hC hE hx (Nat.le_of_ble_eq_true rfl) (Nat.le_of_ble_eq_true rfl) dL_strongest_14
  · obtain ⟨_, _⟩ := q1
    refine a_i2l (pc := 7) hC dL_strongest_7 ?_
    refine a_lastO (pc := 8) ht hC dL_strongest_8 ?_
    have hC1 := lOK_X hC dM
    refine a_goto (pc := 9) (tgt := 15) (hC1 _ _) dL_strongest_9 (by decide) ?_
    refine a_iconst (pc := 15) (hC1 _ _) dL_strongest_15 (v := 0) rfl ?_
    exact l_iret (pc := 16) (hC1 _ _) hE h (Nat.le_of_ble_eq_true rfl) (Nat.le_of_ble_eq_true rfl) dL_strongest_16
theorem dL_append_0 : decode cL_append 0 = .ok (.aload_n 2, 1) := by decide +kernel
theorem dL_append_1 : decode cL_append 1 = .ok (.iconst 0, 1) := by decide +kernel
theorem dL_append_2 : decode cL_append 2 = .ok (.aload_n 0, 1) := by decide +kernel
theorem dL_append_3 : decode cL_append 3 = .ok (.iload_n 1, 1) := by decide +kernel
theorem dL_append_4 : decode cL_append 4 = .ok (.invokevirtual 102, 3) := by decide +kernel
theorem dL_append_7 : decode cL_append 7 = .ok (.i2l, 1) := by decide +kernel
theorem dL_append_8 : decode cL_append 8 = .ok (.lastore, 1) := by decide +kernel
theorem dL_append_9 : decode cL_append 9 = .ok (.goto 9, 3) := by decide +kernel
theorem dL_append_12 : decode cL_append 12 = .ok (.astore_n 3, 1) := by decide +kernel
theorem dL_append_13 : decode cL_append 13 = .ok (.iconst 1, 1) := by decide +kernel
theorem dL_append_14 : decode cL_append 14 = .ok (.ireturn, 1) := by decide +kernel
theorem dL_append_15 : decode cL_append 15 = .ok (.astore_n 3, 1) := by decide +kernel
theorem dL_append_16 : decode cL_append 16 = .ok (.iconst 2, 1) := by decide +kernel
theorem dL_append_17 : decode cL_append 17 = .ok (.ireturn, 1) := by decide +kernel
theorem dL_append_18 : decode cL_append 18 = .ok (.iconst 0, 1) := by decide +kernel
theorem dL_append_19 : decode cL_append 19 = .ok (.ireturn, 1) := by decide +kernel
theorem sw_L_append : lSm yL_append cL_append 4 [(0, 9, 12, 46), (0, 9, 15, 106)] 3 := ⟨tw_995, tw_994, tw_0, by decide +kernel, by decide +kernel, by decide +kernel⟩
set_option maxRecDepth 20000 in
theorem t_L_append {l : Launch} {z : lP} (ht : z.2.1.map Prod.snd = tyX) (hl : l.stackTraces = false) (dM : Nat → Nat → Int32) (v : Nat → Int64) (vd : Nat → UInt64) (x1 : Int32) (q : aS) (P : Int32 → lU → Prop) (h : w_X9_append x1 q (fun r q2 => P 0 (vp_updL v 0 (r.toInt64), vd, q2)) (fun E q2 => (E = "java/lang/IllegalArgumentException" ∧ P 1 (v, vd, q2)) ∨ (E = "java/lang/IllegalStateException" ∧ P 2 (v, vd, q2)))) :
    lMet l z dM yL_append (lWs yL_append cL_append 4 [(0, 9, 12, 46), (0, 9, 15, 106)]) 9 1 6 [.ref (z.2.2.1 0), .int x1, .ref z.2.2.2.2.2.1] (v, vd, q) P := by
  have hX : isX (lX z dM v vd) := lX_is ht dM v vd
  refine lMet_of RL ⟨by decide +kernel, rfl⟩ (cat_all rfl) (Nat.le_of_ble_eq_true rfl) hl (fun f hR hC hE => ?_)
  obtain ⟨qd, qt⟩ := q
  show AW f (lX z dM v vd) 0 [some (.ref (gAd (lX z dM v vd) 0)), some (.int x1), some (.ref z.2.2.2.2.2.1), none] [] (qd, qt) 0 0
  refine a_aload_n (pc := 0) hC dL_append_0 rfl ?_
  refine a_iconst (pc := 1) hC dL_append_1 (v := 0) rfl ?_
  refine a_aload_n (pc := 2) hC dL_append_2 rfl ?_
  refine a_iload_n (pc := 3) hC dL_append_3 rfl ?_
  refine l_callx (pc := 4) hC hR vm_X9_append tw_997 cl_X9 (oX_0 hX) ⟨(Nat.le_of_ble_eq_true rfl), (Nat.le_of_ble_eq_true rfl), (Nat.le_of_ble_eq_true rfl), (Nat.le_of_ble_eq_true rfl)⟩ dL_append_4 (t_X9_append hX hC.tr _ _ _ _ h) rfl rfl rfl (Nat.le_of_ble_eq_true rfl) (fun E q1 hx => ?_) (fun r q1 h => ?_)
  · obtain ⟨_, _⟩ := q1
    rcases hx with ⟨rfl, hx⟩ | ⟨rfl, hx⟩
    · refine ⟨12, lc_two1 hC hE tw_758 sx_46 rfl (by decide), fun a => ?_⟩
      refine a_astore_n (pc := 12) hC dL_append_12 (Nat.le_of_ble_eq_true rfl) ?_
      refine a_iconst (pc := 13) hC dL_append_13 (v := 1) rfl ?_
      exact l_iret (pc := 14) hC hE hx (Nat.le_of_ble_eq_true rfl) (Nat.le_of_ble_eq_true rfl) dL_append_14
    · refine ⟨15, lc_two2 hC hE tw_758 tw_996 sx_106 sn_106_46 rfl rfl (by decide) (by decide), fun a => ?_⟩
      refine a_astore_n (pc := 15) hC dL_append_15 (Nat.le_of_ble_eq_true rfl) ?_
      refine a_iconst (pc := 16) hC dL_append_16 (v := 2) rfl ?_
      exact l_iret (pc := 17) hC hE hx (Nat.le_of_ble_eq_true rfl) (Nat.le_of_ble_eq_true rfl) dL_append_17
  · obtain ⟨_, _⟩ := q1
    refine a_i2l (pc := 7) hC dL_append_7 ?_
    refine a_lastO (pc := 8) ht hC dL_append_8 ?_
    have hC1 := lOK_X hC dM
    refine a_goto (pc := 9) (tgt := 18) (hC1 _ _) dL_append_9 (by decide) ?_
    refine a_iconst (pc := 18) (hC1 _ _) dL_append_18 (v := 0) rfl ?_
    exact l_iret (pc := 19) (hC1 _ _) hE h (Nat.le_of_ble_eq_true rfl) (Nat.le_of_ble_eq_true rfl) dL_append_19
theorem dL_run_0 : decode cL_run 0 = .ok (.aload_n 1, 1) := by decide +kernel
theorem dL_run_1 : decode cL_run 1 = .ok (.iconst 0, 1) := by decide +kernel
theorem dL_run_2 : decode cL_run 2 = .ok (.aload_n 0, 1) := by decide +kernel
theorem dL_run_3 : decode cL_run 3 = .ok (.invokevirtual 108, 3) := by decide +kernel
theorem dL_run_6 : decode cL_run 6 = .ok (.i2l, 1) := by decide +kernel
theorem dL_run_7 : decode cL_run 7 = .ok (.lastore, 1) := by decide +kernel
theorem dL_run_8 : decode cL_run 8 = .ok (.goto 9, 3) := by decide +kernel
theorem dL_run_11 : decode cL_run 11 = .ok (.astore_n 2, 1) := by decide +kernel
theorem dL_run_12 : decode cL_run 12 = .ok (.iconst 1, 1) := by decide +kernel
theorem dL_run_13 : decode cL_run 13 = .ok (.ireturn, 1) := by decide +kernel
theorem dL_run_14 : decode cL_run 14 = .ok (.astore_n 2, 1) := by decide +kernel
theorem dL_run_15 : decode cL_run 15 = .ok (.iconst 2, 1) := by decide +kernel
theorem dL_run_16 : decode cL_run 16 = .ok (.ireturn, 1) := by decide +kernel
theorem dL_run_17 : decode cL_run 17 = .ok (.iconst 0, 1) := by decide +kernel
theorem dL_run_18 : decode cL_run 18 = .ok (.ireturn, 1) := by decide +kernel
theorem sw_L_run : lSm yL_run cL_run 3 [(0, 8, 11, 46), (0, 8, 14, 13)] 2 := ⟨tw_1020, tw_1019, tw_0, by decide +kernel, by decide +kernel, by decide +kernel⟩
set_option maxRecDepth 20000 in
theorem t_L_run {l : Launch} {z : lP} (ht : z.2.1.map Prod.snd = tyX) (hl : l.stackTraces = false) (dM : Nat → Nat → Int32) (v : Nat → Int64) (vd : Nat → UInt64) (q : aS) (P : Int32 → lU → Prop) (h : w_X9_run q (fun r q2 => P 0 (vp_updL v 0 (r.toInt64), vd, q2)) (fun E q2 => (E = "java/lang/IllegalArgumentException" ∧ P 1 (v, vd, q2)) ∨ (E = "java/lang/UnsupportedOperationException" ∧ P 2 (v, vd, q2)))) :
    lMet l z dM yL_run (lWs yL_run cL_run 3 [(0, 8, 11, 46), (0, 8, 14, 13)]) 9 1 6 [.ref (z.2.2.1 0), .ref z.2.2.2.2.2.1] (v, vd, q) P := by
  have hX : isX (lX z dM v vd) := lX_is ht dM v vd
  refine lMet_of RL ⟨by decide +kernel, rfl⟩ (cat_all rfl) (Nat.le_of_ble_eq_true rfl) hl (fun f hR hC hE => ?_)
  obtain ⟨qd, qt⟩ := q
  show AW f (lX z dM v vd) 0 [some (.ref (gAd (lX z dM v vd) 0)), some (.ref z.2.2.2.2.2.1), none] [] (qd, qt) 0 0
  refine a_aload_n (pc := 0) hC dL_run_0 rfl ?_
  refine a_iconst (pc := 1) hC dL_run_1 (v := 0) rfl ?_
  refine a_aload_n (pc := 2) hC dL_run_2 rfl ?_
  refine l_callx (pc := 3) hC hR vm_X9_run tw_1021 cl_X9 (oX_0 hX) ⟨(Nat.le_of_ble_eq_true rfl), (Nat.le_of_ble_eq_true rfl), (Nat.le_of_ble_eq_true rfl), (Nat.le_of_ble_eq_true rfl)⟩ dL_run_3 (t_X9_run hX hC.tr _ _ _ h) rfl rfl rfl (Nat.le_of_ble_eq_true rfl) (fun E q1 hx => ?_) (fun r q1 h => ?_)
  · obtain ⟨_, _⟩ := q1
    rcases hx with ⟨rfl, hx⟩ | ⟨rfl, hx⟩
    · refine ⟨11, lc_two1 hC hE tw_758 sx_46 rfl (by decide), fun a => ?_⟩
      refine a_astore_n (pc := 11) hC dL_run_11 (Nat.le_of_ble_eq_true rfl) ?_
      refine a_iconst (pc := 12) hC dL_run_12 (v := 1) rfl ?_
      exact l_iret (pc := 13) hC hE hx (Nat.le_of_ble_eq_true rfl) (Nat.le_of_ble_eq_true rfl) dL_run_13
    · refine ⟨14, lc_two2 hC hE tw_758 tw_435 sx_13 sn_13_46 rfl rfl (by decide) (by decide), fun a => ?_⟩
      refine a_astore_n (pc := 14) hC dL_run_14 (Nat.le_of_ble_eq_true rfl) ?_
      refine a_iconst (pc := 15) hC dL_run_15 (v := 2) rfl ?_
      exact l_iret (pc := 16) hC hE hx (Nat.le_of_ble_eq_true rfl) (Nat.le_of_ble_eq_true rfl) dL_run_16
  · obtain ⟨_, _⟩ := q1
    refine a_i2l (pc := 6) hC dL_run_6 ?_
    refine a_lastO (pc := 7) ht hC dL_run_7 ?_
    have hC1 := lOK_X hC dM
    refine a_goto (pc := 8) (tgt := 17) (hC1 _ _) dL_run_8 (by decide) ?_
    refine a_iconst (pc := 17) (hC1 _ _) dL_run_17 (v := 0) rfl ?_
    exact l_iret (pc := 18) (hC1 _ _) hE h (Nat.le_of_ble_eq_true rfl) (Nat.le_of_ble_eq_true rfl) dL_run_18
theorem dL_reason_0 : decode cL_reason 0 = .ok (.aload_n 3, 1) := by decide +kernel
theorem dL_reason_1 : decode cL_reason 1 = .ok (.iconst 0, 1) := by decide +kernel
theorem dL_reason_2 : decode cL_reason 2 = .ok (.aload_n 0, 1) := by decide +kernel
theorem dL_reason_3 : decode cL_reason 3 = .ok (.iload_n 1, 1) := by decide +kernel
theorem dL_reason_4 : decode cL_reason 4 = .ok (.iload_n 2, 1) := by decide +kernel
theorem dL_reason_5 : decode cL_reason 5 = .ok (.invokevirtual 112, 3) := by decide +kernel
theorem dL_reason_8 : decode cL_reason 8 = .ok (.i2l, 1) := by decide +kernel
theorem dL_reason_9 : decode cL_reason 9 = .ok (.lastore, 1) := by decide +kernel
theorem dL_reason_10 : decode cL_reason 10 = .ok (.goto 11, 3) := by decide +kernel
theorem dL_reason_13 : decode cL_reason 13 = .ok (.astore 4, 2) := by decide +kernel
theorem dL_reason_15 : decode cL_reason 15 = .ok (.iconst 1, 1) := by decide +kernel
theorem dL_reason_16 : decode cL_reason 16 = .ok (.ireturn, 1) := by decide +kernel
theorem dL_reason_17 : decode cL_reason 17 = .ok (.astore 4, 2) := by decide +kernel
theorem dL_reason_19 : decode cL_reason 19 = .ok (.iconst 2, 1) := by decide +kernel
theorem dL_reason_20 : decode cL_reason 20 = .ok (.ireturn, 1) := by decide +kernel
theorem dL_reason_21 : decode cL_reason 21 = .ok (.iconst 0, 1) := by decide +kernel
theorem dL_reason_22 : decode cL_reason 22 = .ok (.ireturn, 1) := by decide +kernel
theorem sw_L_reason : lSm yL_reason cL_reason 5 [(0, 10, 13, 46), (0, 10, 17, 57)] 4 := ⟨tw_1119, tw_1118, tw_0, by decide +kernel, by decide +kernel, by decide +kernel⟩
set_option maxRecDepth 20000 in
theorem t_L_reason {l : Launch} {z : lP} (ht : z.2.1.map Prod.snd = tyX) (hl : l.stackTraces = false) (dM : Nat → Nat → Int32) (v : Nat → Int64) (vd : Nat → UInt64) (x1 : Int32) (x2 : Int32) (q : aS) (P : Int32 → lU → Prop) (h : w_X9_reason x1 x2 q (fun r q2 => P 0 (vp_updL v 0 (r.toInt64), vd, q2)) (fun E q2 => (E = "java/lang/IllegalArgumentException" ∧ P 1 (v, vd, q2)) ∨ (E = "java/util/NoSuchElementException" ∧ P 2 (v, vd, q2)))) :
    lMet l z dM yL_reason (lWs yL_reason cL_reason 5 [(0, 10, 13, 46), (0, 10, 17, 57)]) 9 1 6 [.ref (z.2.2.1 0), .int x1, .int x2, .ref z.2.2.2.2.2.1] (v, vd, q) P := by
  have hX : isX (lX z dM v vd) := lX_is ht dM v vd
  refine lMet_of RL ⟨by decide +kernel, rfl⟩ (cat_all rfl) (Nat.le_of_ble_eq_true rfl) hl (fun f hR hC hE => ?_)
  obtain ⟨qd, qt⟩ := q
  show AW f (lX z dM v vd) 0 [some (.ref (gAd (lX z dM v vd) 0)), some (.int x1), some (.int x2), some (.ref z.2.2.2.2.2.1), none] [] (qd, qt) 0 0
  refine a_aload_n (pc := 0) hC dL_reason_0 rfl ?_
  refine a_iconst (pc := 1) hC dL_reason_1 (v := 0) rfl ?_
  refine a_aload_n (pc := 2) hC dL_reason_2 rfl ?_
  refine a_iload_n (pc := 3) hC dL_reason_3 rfl ?_
  refine a_iload_n (pc := 4) hC dL_reason_4 rfl ?_
  refine l_callx (pc := 5) hC hR vm_X9_reason tw_1120 cl_X9 (oX_0 hX) ⟨(Nat.le_of_ble_eq_true rfl), (Nat.le_of_ble_eq_true rfl), (Nat.le_of_ble_eq_true rfl), (Nat.le_of_ble_eq_true rfl)⟩ dL_reason_5 (t_X9_reason hX hC.tr _ _ _ _ _ h) rfl rfl rfl (Nat.le_of_ble_eq_true rfl) (fun E q1 hx => ?_) (fun r q1 h => ?_)
  · obtain ⟨_, _⟩ := q1
    rcases hx with ⟨rfl, hx⟩ | ⟨rfl, hx⟩
    · refine ⟨13, lc_two1 hC hE tw_758 sx_46 rfl (by decide), fun a => ?_⟩
      refine a_astore (pc := 13) hC dL_reason_13 (Nat.le_of_ble_eq_true rfl) ?_
      refine a_iconst (pc := 15) hC dL_reason_15 (v := 1) rfl ?_
      exact l_iret (pc := 16) hC hE hx (Nat.le_of_ble_eq_true rfl) (Nat.le_of_ble_eq_true rfl) dL_reason_16
    · refine ⟨17, lc_two2 hC hE tw_758 tw_839 sx_57 sn_57_46 rfl rfl (by decide) (by decide), fun a => ?_⟩
      refine a_astore (pc := 17) hC dL_reason_17 (Nat.le_of_ble_eq_true rfl) ?_
      refine a_iconst (pc := 19) hC dL_reason_19 (v := 2) rfl ?_
      exact l_iret (pc := 20) hC hE hx (Nat.le_of_ble_eq_true rfl) (Nat.le_of_ble_eq_true rfl) dL_reason_20
  · obtain ⟨_, _⟩ := q1
    refine a_i2l (pc := 8) hC dL_reason_8 ?_
    refine a_lastO (pc := 9) ht hC dL_reason_9 ?_
    have hC1 := lOK_X hC dM
    refine a_goto (pc := 10) (tgt := 21) (hC1 _ _) dL_reason_10 (by decide) ?_
    refine a_iconst (pc := 21) (hC1 _ _) dL_reason_21 (v := 0) rfl ?_
    exact l_iret (pc := 22) (hC1 _ _) hE h (Nat.le_of_ble_eq_true rfl) (Nat.le_of_ble_eq_true rfl) dL_reason_22
theorem dL_account_0 : decode cL_account 0 = .ok (.aload_n 2, 1) := by decide +kernel
theorem dL_account_1 : decode cL_account 1 = .ok (.iconst 0, 1) := by decide +kernel
theorem dL_account_2 : decode cL_account 2 = .ok (.aload_n 0, 1) := by decide +kernel
theorem dL_account_3 : decode cL_account 3 = .ok (.iload_n 1, 1) := by decide +kernel
theorem dL_account_4 : decode cL_account 4 = .ok (.invokevirtual 129, 3) := by decide +kernel
theorem dL_account_7 : decode cL_account 7 = .ok (.i2l, 1) := by decide +kernel
theorem dL_account_8 : decode cL_account 8 = .ok (.lastore, 1) := by decide +kernel
theorem dL_account_9 : decode cL_account 9 = .ok (.goto 6, 3) := by decide +kernel
theorem dL_account_12 : decode cL_account 12 = .ok (.astore_n 3, 1) := by decide +kernel
theorem dL_account_13 : decode cL_account 13 = .ok (.iconst 1, 1) := by decide +kernel
theorem dL_account_14 : decode cL_account 14 = .ok (.ireturn, 1) := by decide +kernel
theorem dL_account_15 : decode cL_account 15 = .ok (.iconst 0, 1) := by decide +kernel
theorem dL_account_16 : decode cL_account 16 = .ok (.ireturn, 1) := by decide +kernel
theorem sw_L_account : lSm yL_account cL_account 4 [(0, 9, 12, 46)] 3 := ⟨tw_1420, tw_1419, tw_0, by decide +kernel, by decide +kernel, by decide +kernel⟩
set_option maxRecDepth 20000 in
theorem t_L_account {l : Launch} {z : lP} (ht : z.2.1.map Prod.snd = tyX) (hl : l.stackTraces = false) (dM : Nat → Nat → Int32) (v : Nat → Int64) (vd : Nat → UInt64) (x1 : Int32) (q : aS) (P : Int32 → lU → Prop) (h : w_X9_account x1 q (fun r q2 => P 0 (vp_updL v 0 (r.toInt64), vd, q2)) (fun E q2 => (E = "java/lang/IllegalArgumentException" ∧ P 1 (v, vd, q2)))) :
    lMet l z dM yL_account (lWs yL_account cL_account 4 [(0, 9, 12, 46)]) 9 1 6 [.ref (z.2.2.1 0), .int x1, .ref z.2.2.2.2.2.1] (v, vd, q) P := by
  have hX : isX (lX z dM v vd) := lX_is ht dM v vd
  refine lMet_of RL ⟨by decide +kernel, rfl⟩ (cat_all rfl) (Nat.le_of_ble_eq_true rfl) hl (fun f hR hC hE => ?_)
  obtain ⟨qd, qt⟩ := q
  show AW f (lX z dM v vd) 0 [some (.ref (gAd (lX z dM v vd) 0)), some (.int x1), some (.ref z.2.2.2.2.2.1), none] [] (qd, qt) 0 0
  refine a_aload_n (pc := 0) hC dL_account_0 rfl ?_
  refine a_iconst (pc := 1) hC dL_account_1 (v := 0) rfl ?_
  refine a_aload_n (pc := 2) hC dL_account_2 rfl ?_
  refine a_iload_n (pc := 3) hC dL_account_3 rfl ?_
  refine l_callx (pc := 4) hC hR vm_X9_account tw_1421 cl_X9 (oX_0 hX) ⟨(Nat.le_of_ble_eq_true rfl), (Nat.le_of_ble_eq_true rfl), (Nat.le_of_ble_eq_true rfl), (Nat.le_of_ble_eq_true rfl)⟩ dL_account_4 (t_X9_account hX hC.tr _ _ _ _ h) rfl rfl rfl (Nat.le_of_ble_eq_true rfl) (fun E q1 hx => ?_) (fun r q1 h => ?_)
  · obtain ⟨rfl, hx⟩ := hx
    obtain ⟨_, _⟩ := q1
    refine ⟨12, lc_one hC hE tw_758 sx_46 rfl (by decide), fun a => ?_⟩
    refine a_astore_n (pc := 12) hC dL_account_12 (Nat.le_of_ble_eq_true rfl) ?_
    refine a_iconst (pc := 13) hC dL_account_13 (v := 1) rfl ?_
    exact l_iret (pc := 14) hC hE hx (Nat.le_of_ble_eq_true rfl) (Nat.le_of_ble_eq_true rfl) dL_account_14
  · obtain ⟨_, _⟩ := q1
    refine a_i2l (pc := 7) hC dL_account_7 ?_
    refine a_lastO (pc := 8) ht hC dL_account_8 ?_
    have hC1 := lOK_X hC dM
    refine a_goto (pc := 9) (tgt := 15) (hC1 _ _) dL_account_9 (by decide) ?_
    refine a_iconst (pc := 15) (hC1 _ _) dL_account_15 (v := 0) rfl ?_
    exact l_iret (pc := 16) (hC1 _ _) hE h (Nat.le_of_ble_eq_true rfl) (Nat.le_of_ble_eq_true rfl) dL_account_16
theorem dL_meanDamp_0 : decode cL_meanDamp 0 = .ok (.aload_n 1, 1) := by decide +kernel
theorem dL_meanDamp_1 : decode cL_meanDamp 1 = .ok (.iconst 0, 1) := by decide +kernel
theorem dL_meanDamp_2 : decode cL_meanDamp 2 = .ok (.aload_n 0, 1) := by decide +kernel
theorem dL_meanDamp_3 : decode cL_meanDamp 3 = .ok (.invokevirtual 132, 3) := by decide +kernel
theorem dL_meanDamp_6 : decode cL_meanDamp 6 = .ok (.dastore, 1) := by decide +kernel
theorem dL_meanDamp_7 : decode cL_meanDamp 7 = .ok (.goto 6, 3) := by decide +kernel
theorem dL_meanDamp_10 : decode cL_meanDamp 10 = .ok (.astore_n 2, 1) := by decide +kernel
theorem dL_meanDamp_11 : decode cL_meanDamp 11 = .ok (.iconst 1, 1) := by decide +kernel
theorem dL_meanDamp_12 : decode cL_meanDamp 12 = .ok (.ireturn, 1) := by decide +kernel
theorem dL_meanDamp_13 : decode cL_meanDamp 13 = .ok (.iconst 0, 1) := by decide +kernel
theorem dL_meanDamp_14 : decode cL_meanDamp 14 = .ok (.ireturn, 1) := by decide +kernel
theorem sw_L_meanDamp : lSm yL_meanDamp cL_meanDamp 3 [(0, 7, 10, 136)] 2 := ⟨tw_1445, tw_1444, tw_0, by decide +kernel, by decide +kernel, by decide +kernel⟩
set_option maxRecDepth 20000 in
theorem t_L_meanDamp {l : Launch} {z : lP} (ht : z.2.1.map Prod.snd = tyX) (hl : l.stackTraces = false) (dM : Nat → Nat → Int32) (v : Nat → Int64) (vd : Nat → UInt64) (q : aS) (P : Int32 → lU → Prop) (h : w_X9_meanDamp q (fun r q2 => P 0 (v, vf_upd vd 0 r, q2)) (fun E q2 => (E = "java/lang/ArithmeticException" ∧ P 1 (v, vd, q2)))) :
    lMet l z dM yL_meanDamp (lWs yL_meanDamp cL_meanDamp 3 [(0, 7, 10, 136)]) 9 1 6 [.ref (z.2.2.1 0), .ref z.2.2.2.2.2.2.1] (v, vd, q) P := by
  have hX : isX (lX z dM v vd) := lX_is ht dM v vd
  refine lMet_of RL ⟨by decide +kernel, rfl⟩ (cat_all rfl) (Nat.le_of_ble_eq_true rfl) hl (fun f hR hC hE => ?_)
  obtain ⟨qd, qt⟩ := q
  show AW f (lX z dM v vd) 0 [some (.ref (gAd (lX z dM v vd) 0)), some (.ref z.2.2.2.2.2.2.1), none] [] (qd, qt) 0 0
  refine a_aload_n (pc := 0) hC dL_meanDamp_0 rfl ?_
  refine a_iconst (pc := 1) hC dL_meanDamp_1 (v := 0) rfl ?_
  refine a_aload_n (pc := 2) hC dL_meanDamp_2 rfl ?_
  refine l_callxd (pc := 3) hC hR vm_X9_meanDamp tw_1460 cl_X9 (oX_0 hX) ⟨(Nat.le_of_ble_eq_true rfl), (Nat.le_of_ble_eq_true rfl), (Nat.le_of_ble_eq_true rfl), (Nat.le_of_ble_eq_true rfl)⟩ dL_meanDamp_3 (t_X9_meanDamp hX hC.tr _ _ _ h) rfl rfl rfl (Nat.le_of_ble_eq_true rfl) (fun E q1 hx => ?_) (fun r q1 h => ?_)
  · obtain ⟨rfl, hx⟩ := hx
    obtain ⟨_, _⟩ := q1
    refine ⟨10, lc_one hC hE tw_1446 sx_136 rfl (by decide), fun a => ?_⟩
    refine a_astore_n (pc := 10) hC dL_meanDamp_10 (Nat.le_of_ble_eq_true rfl) ?_
    refine a_iconst (pc := 11) hC dL_meanDamp_11 (v := 1) rfl ?_
    exact l_iret (pc := 12) hC hE hx (Nat.le_of_ble_eq_true rfl) (Nat.le_of_ble_eq_true rfl) dL_meanDamp_12
  · obtain ⟨_, _⟩ := q1
    refine a_dastO (pc := 6) ht hC dL_meanDamp_6 ?_
    have hC1 := lOK_X hC dM v
    refine a_goto (pc := 7) (tgt := 13) (hC1 _) dL_meanDamp_7 (by decide) ?_
    refine a_iconst (pc := 13) (hC1 _) dL_meanDamp_13 (v := 0) rfl ?_
    exact l_iret (pc := 14) (hC1 _) hE h (Nat.le_of_ble_eq_true rfl) (Nat.le_of_ble_eq_true rfl) dL_meanDamp_14
theorem dL_letShare_0 : decode cL_letShare 0 = .ok (.aload_n 1, 1) := by decide +kernel
theorem dL_letShare_1 : decode cL_letShare 1 = .ok (.iconst 0, 1) := by decide +kernel
theorem dL_letShare_2 : decode cL_letShare 2 = .ok (.aload_n 0, 1) := by decide +kernel
theorem dL_letShare_3 : decode cL_letShare 3 = .ok (.invokevirtual 138, 3) := by decide +kernel
theorem dL_letShare_6 : decode cL_letShare 6 = .ok (.f2d, 1) := by decide +kernel
theorem dL_letShare_7 : decode cL_letShare 7 = .ok (.dastore, 1) := by decide +kernel
theorem dL_letShare_8 : decode cL_letShare 8 = .ok (.goto 6, 3) := by decide +kernel
theorem dL_letShare_11 : decode cL_letShare 11 = .ok (.astore_n 2, 1) := by decide +kernel
theorem dL_letShare_12 : decode cL_letShare 12 = .ok (.iconst 1, 1) := by decide +kernel
theorem dL_letShare_13 : decode cL_letShare 13 = .ok (.ireturn, 1) := by decide +kernel
theorem dL_letShare_14 : decode cL_letShare 14 = .ok (.iconst 0, 1) := by decide +kernel
theorem dL_letShare_15 : decode cL_letShare 15 = .ok (.ireturn, 1) := by decide +kernel
theorem sw_L_letShare : lSm yL_letShare cL_letShare 3 [(0, 8, 11, 136)] 2 := ⟨tw_1468, tw_1467, tw_0, by decide +kernel, by decide +kernel, by decide +kernel⟩
set_option maxRecDepth 20000 in
theorem t_L_letShare {l : Launch} {z : lP} (ht : z.2.1.map Prod.snd = tyX) (hl : l.stackTraces = false) (dM : Nat → Nat → Int32) (v : Nat → Int64) (vd : Nat → UInt64) (q : aS) (P : Int32 → lU → Prop) (h : w_X9_letShare q (fun r q2 => vf_n64 (FP.f2d r) ∧ P 0 (v, vf_upd vd 0 (FP.f2d r), q2)) (fun E q2 => (E = "java/lang/ArithmeticException" ∧ P 1 (v, vd, q2)))) :
    lMet l z dM yL_letShare (lWs yL_letShare cL_letShare 3 [(0, 8, 11, 136)]) 9 1 6 [.ref (z.2.2.1 0), .ref z.2.2.2.2.2.2.1] (v, vd, q) P := by
  have hX : isX (lX z dM v vd) := lX_is ht dM v vd
  refine lMet_of RL ⟨by decide +kernel, rfl⟩ (cat_all rfl) (Nat.le_of_ble_eq_true rfl) hl (fun f hR hC hE => ?_)
  obtain ⟨qd, qt⟩ := q
  show AW f (lX z dM v vd) 0 [some (.ref (gAd (lX z dM v vd) 0)), some (.ref z.2.2.2.2.2.2.1), none] [] (qd, qt) 0 0
  refine a_aload_n (pc := 0) hC dL_letShare_0 rfl ?_
  refine a_iconst (pc := 1) hC dL_letShare_1 (v := 0) rfl ?_
  refine a_aload_n (pc := 2) hC dL_letShare_2 rfl ?_
  refine l_callxf (pc := 3) hC hR vm_X9_letShare tw_1469 cl_X9 (oX_0 hX) ⟨(Nat.le_of_ble_eq_true rfl), (Nat.le_of_ble_eq_true rfl), (Nat.le_of_ble_eq_true rfl), (Nat.le_of_ble_eq_true rfl)⟩ dL_letShare_3 (t_X9_letShare hX hC.tr _ _ _ h) rfl rfl rfl (Nat.le_of_ble_eq_true rfl) (fun E q1 hx => ?_) (fun r q1 h => ?_)
  · obtain ⟨rfl, hx⟩ := hx
    obtain ⟨_, _⟩ := q1
    refine ⟨11, lc_one hC hE tw_1446 sx_136 rfl (by decide), fun a => ?_⟩
    refine a_astore_n (pc := 11) hC dL_letShare_11 (Nat.le_of_ble_eq_true rfl) ?_
    refine a_iconst (pc := 12) hC dL_letShare_12 (v := 1) rfl ?_
    exact l_iret (pc := 13) hC hE hx (Nat.le_of_ble_eq_true rfl) (Nat.le_of_ble_eq_true rfl) dL_letShare_13
  · obtain ⟨_, _⟩ := q1
    refine a_f2d (pc := 6) hC dL_letShare_6 h.1 ?_
    refine a_dastO (pc := 7) ht hC dL_letShare_7 ?_
    have hC1 := lOK_X hC dM v
    refine a_goto (pc := 8) (tgt := 14) (hC1 _) dL_letShare_8 (by decide) ?_
    refine a_iconst (pc := 14) (hC1 _) dL_letShare_14 (v := 0) rfl ?_
    exact l_iret (pc := 15) (hC1 _) hE h.2 (Nat.le_of_ble_eq_true rfl) (Nat.le_of_ble_eq_true rfl) dL_letShare_15
theorem dL_undo_0 : decode cL_undo 0 = .ok (.aload_n 1, 1) := by decide +kernel
theorem dL_undo_1 : decode cL_undo 1 = .ok (.iconst 0, 1) := by decide +kernel
theorem dL_undo_2 : decode cL_undo 2 = .ok (.aload_n 0, 1) := by decide +kernel
theorem dL_undo_3 : decode cL_undo 3 = .ok (.invokevirtual 142, 3) := by decide +kernel
theorem dL_undo_6 : decode cL_undo 6 = .ok (.i2l, 1) := by decide +kernel
theorem dL_undo_7 : decode cL_undo 7 = .ok (.lastore, 1) := by decide +kernel
theorem dL_undo_8 : decode cL_undo 8 = .ok (.goto 6, 3) := by decide +kernel
theorem dL_undo_11 : decode cL_undo 11 = .ok (.astore_n 2, 1) := by decide +kernel
theorem dL_undo_12 : decode cL_undo 12 = .ok (.iconst 1, 1) := by decide +kernel
theorem dL_undo_13 : decode cL_undo 13 = .ok (.ireturn, 1) := by decide +kernel
theorem dL_undo_14 : decode cL_undo 14 = .ok (.iconst 0, 1) := by decide +kernel
theorem dL_undo_15 : decode cL_undo 15 = .ok (.ireturn, 1) := by decide +kernel
theorem sw_L_undo : lSm yL_undo cL_undo 3 [(0, 8, 11, 106)] 2 := ⟨tw_1476, tw_1475, tw_0, by decide +kernel, by decide +kernel, by decide +kernel⟩
set_option maxRecDepth 20000 in
theorem t_L_undo {l : Launch} {z : lP} (ht : z.2.1.map Prod.snd = tyX) (hl : l.stackTraces = false) (dM : Nat → Nat → Int32) (v : Nat → Int64) (vd : Nat → UInt64) (q : aS) (P : Int32 → lU → Prop) (h : w_X9_undo q (fun r q2 => P 0 (vp_updL v 0 (r.toInt64), vd, q2)) (fun E q2 => (E = "java/lang/IllegalStateException" ∧ P 1 (v, vd, q2)))) :
    lMet l z dM yL_undo (lWs yL_undo cL_undo 3 [(0, 8, 11, 106)]) 9 1 6 [.ref (z.2.2.1 0), .ref z.2.2.2.2.2.1] (v, vd, q) P := by
  have hX : isX (lX z dM v vd) := lX_is ht dM v vd
  refine lMet_of RL ⟨by decide +kernel, rfl⟩ (cat_all rfl) (Nat.le_of_ble_eq_true rfl) hl (fun f hR hC hE => ?_)
  obtain ⟨qd, qt⟩ := q
  show AW f (lX z dM v vd) 0 [some (.ref (gAd (lX z dM v vd) 0)), some (.ref z.2.2.2.2.2.1), none] [] (qd, qt) 0 0
  refine a_aload_n (pc := 0) hC dL_undo_0 rfl ?_
  refine a_iconst (pc := 1) hC dL_undo_1 (v := 0) rfl ?_
  refine a_aload_n (pc := 2) hC dL_undo_2 rfl ?_
  refine l_callx (pc := 3) hC hR vm_X9_undo tw_1477 cl_X9 (oX_0 hX) ⟨(Nat.le_of_ble_eq_true rfl), (Nat.le_of_ble_eq_true rfl), (Nat.le_of_ble_eq_true rfl), (Nat.le_of_ble_eq_true rfl)⟩ dL_undo_3 (t_X9_undo hX hC.tr _ _ _ h) rfl rfl rfl (Nat.le_of_ble_eq_true rfl) (fun E q1 hx => ?_) (fun r q1 h => ?_)
  · obtain ⟨rfl, hx⟩ := hx
    obtain ⟨_, _⟩ := q1
    refine ⟨11, lc_one hC hE tw_996 sx_106 rfl (by decide), fun a => ?_⟩
    refine a_astore_n (pc := 11) hC dL_undo_11 (Nat.le_of_ble_eq_true rfl) ?_
    refine a_iconst (pc := 12) hC dL_undo_12 (v := 1) rfl ?_
    exact l_iret (pc := 13) hC hE hx (Nat.le_of_ble_eq_true rfl) (Nat.le_of_ble_eq_true rfl) dL_undo_13
  · obtain ⟨_, _⟩ := q1
    refine a_i2l (pc := 6) hC dL_undo_6 ?_
    refine a_lastO (pc := 7) ht hC dL_undo_7 ?_
    have hC1 := lOK_X hC dM
    refine a_goto (pc := 8) (tgt := 14) (hC1 _ _) dL_undo_8 (by decide) ?_
    refine a_iconst (pc := 14) (hC1 _ _) dL_undo_14 (v := 0) rfl ?_
    exact l_iret (pc := 15) (hC1 _ _) hE h (Nat.le_of_ble_eq_true rfl) (Nat.le_of_ble_eq_true rfl) dL_undo_15
theorem dL_restore_0 : decode cL_restore 0 = .ok (.aload_n 1, 1) := by decide +kernel
theorem dL_restore_1 : decode cL_restore 1 = .ok (.iconst 0, 1) := by decide +kernel
theorem dL_restore_2 : decode cL_restore 2 = .ok (.aload_n 0, 1) := by decide +kernel
theorem dL_restore_3 : decode cL_restore 3 = .ok (.invokevirtual 145, 3) := by decide +kernel
theorem dL_restore_6 : decode cL_restore 6 = .ok (.i2l, 1) := by decide +kernel
theorem dL_restore_7 : decode cL_restore 7 = .ok (.lastore, 1) := by decide +kernel
theorem dL_restore_8 : decode cL_restore 8 = .ok (.goto 6, 3) := by decide +kernel
theorem dL_restore_11 : decode cL_restore 11 = .ok (.astore_n 2, 1) := by decide +kernel
theorem dL_restore_12 : decode cL_restore 12 = .ok (.iconst 1, 1) := by decide +kernel
theorem dL_restore_13 : decode cL_restore 13 = .ok (.ireturn, 1) := by decide +kernel
theorem dL_restore_14 : decode cL_restore 14 = .ok (.iconst 0, 1) := by decide +kernel
theorem dL_restore_15 : decode cL_restore 15 = .ok (.ireturn, 1) := by decide +kernel
theorem sw_L_restore : lSm yL_restore cL_restore 3 [(0, 8, 11, 106)] 2 := ⟨tw_1488, tw_1487, tw_0, by decide +kernel, by decide +kernel, by decide +kernel⟩
set_option maxRecDepth 20000 in
theorem t_L_restore {l : Launch} {z : lP} (ht : z.2.1.map Prod.snd = tyX) (hl : l.stackTraces = false) (dM : Nat → Nat → Int32) (v : Nat → Int64) (vd : Nat → UInt64) (q : aS) (P : Int32 → lU → Prop) (h : w_X9_restore q (fun r q2 => P 0 (vp_updL v 0 (r.toInt64), vd, q2)) (fun E q2 => (E = "java/lang/IllegalStateException" ∧ P 1 (v, vd, q2)))) :
    lMet l z dM yL_restore (lWs yL_restore cL_restore 3 [(0, 8, 11, 106)]) 9 1 6 [.ref (z.2.2.1 0), .ref z.2.2.2.2.2.1] (v, vd, q) P := by
  have hX : isX (lX z dM v vd) := lX_is ht dM v vd
  refine lMet_of RL ⟨by decide +kernel, rfl⟩ (cat_all rfl) (Nat.le_of_ble_eq_true rfl) hl (fun f hR hC hE => ?_)
  obtain ⟨qd, qt⟩ := q
  show AW f (lX z dM v vd) 0 [some (.ref (gAd (lX z dM v vd) 0)), some (.ref z.2.2.2.2.2.1), none] [] (qd, qt) 0 0
  refine a_aload_n (pc := 0) hC dL_restore_0 rfl ?_
  refine a_iconst (pc := 1) hC dL_restore_1 (v := 0) rfl ?_
  refine a_aload_n (pc := 2) hC dL_restore_2 rfl ?_
  refine l_callx (pc := 3) hC hR vm_X9_restore tw_1489 cl_X9 (oX_0 hX) ⟨(Nat.le_of_ble_eq_true rfl), (Nat.le_of_ble_eq_true rfl), (Nat.le_of_ble_eq_true rfl), (Nat.le_of_ble_eq_true rfl)⟩ dL_restore_3 (t_X9_restore hX hC.tr _ _ _ h) rfl rfl rfl (Nat.le_of_ble_eq_true rfl) (fun E q1 hx => ?_) (fun r q1 h => ?_)
  · obtain ⟨rfl, hx⟩ := hx
    obtain ⟨_, _⟩ := q1
    refine ⟨11, lc_one hC hE tw_996 sx_106 rfl (by decide), fun a => ?_⟩
    refine a_astore_n (pc := 11) hC dL_restore_11 (Nat.le_of_ble_eq_true rfl) ?_
    refine a_iconst (pc := 12) hC dL_restore_12 (v := 1) rfl ?_
    exact l_iret (pc := 13) hC hE hx (Nat.le_of_ble_eq_true rfl) (Nat.le_of_ble_eq_true rfl) dL_restore_13
  · obtain ⟨_, _⟩ := q1
    refine a_i2l (pc := 6) hC dL_restore_6 ?_
    refine a_lastO (pc := 7) ht hC dL_restore_7 ?_
    have hC1 := lOK_X hC dM
    refine a_goto (pc := 8) (tgt := 14) (hC1 _ _) dL_restore_8 (by decide) ?_
    refine a_iconst (pc := 14) (hC1 _ _) dL_restore_14 (v := 0) rfl ?_
    exact l_iret (pc := 15) (hC1 _ _) hE h (Nat.le_of_ble_eq_true rfl) (Nat.le_of_ble_eq_true rfl) dL_restore_15

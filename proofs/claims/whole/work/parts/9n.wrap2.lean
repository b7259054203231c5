/-! the law's wrappers of the four that ask for the line -/
theorem dL_tellRoom_0 : decode cL_tellRoom 0 = .ok (.aload_n 2, 1) := by decide +kernel
theorem dL_tellRoom_1 : decode cL_tellRoom 1 = .ok (.iconst 0, 1) := by decide +kernel
theorem dL_tellRoom_2 : decode cL_tellRoom 2 = .ok (.aload_n 0, 1) := by decide +kernel
theorem dL_tellRoom_3 : decode cL_tellRoom 3 = .ok (.iload_n 1, 1) := by decide +kernel
theorem dL_tellRoom_4 : decode cL_tellRoom 4 = .ok (.invokevirtual 116, 3) := by decide +kernel
theorem dL_tellRoom_7 : decode cL_tellRoom 7 = .ok (.i2l, 1) := by decide +kernel
theorem dL_tellRoom_8 : decode cL_tellRoom 8 = .ok (.lastore, 1) := by decide +kernel
theorem dL_tellRoom_9 : decode cL_tellRoom 9 = .ok (.goto 6, 3) := by decide +kernel
theorem dL_tellRoom_12 : decode cL_tellRoom 12 = .ok (.astore_n 3, 1) := by decide +kernel
theorem dL_tellRoom_13 : decode cL_tellRoom 13 = .ok (.iconst 1, 1) := by decide +kernel
theorem dL_tellRoom_14 : decode cL_tellRoom 14 = .ok (.ireturn, 1) := by decide +kernel
theorem dL_tellRoom_15 : decode cL_tellRoom 15 = .ok (.iconst 0, 1) := by decide +kernel
theorem dL_tellRoom_16 : decode cL_tellRoom 16 = .ok (.ireturn, 1) := by decide +kernel
theorem sw_L_tellRoom : lSm yL_tellRoom cL_tellRoom 4 [(0, 9, 12, 44)] 3 := ⟨tw_1129, tw_1128, tw_0, by decide +kernel, by decide +kernel, by decide +kernel⟩
set_option maxRecDepth 20000 in
theorem t_L_tellRoom {l : Launch} {z : lP} (ht : z.2.1.map Prod.snd = tyX) (hl : l.stackTraces = false) (dM : Nat → Nat → Int32) (v : Nat → Int64) (vd : Nat → UInt64) (x1 : Int32) (q : aS) (P : Int32 → lU → Prop) (h : w_X9_tellRoom x1 q (fun r q2 => P 0 (vp_updL v 0 (r.toInt64), vd, q2)) (fun E q2 => (E = "java/lang/IndexOutOfBoundsException" ∧ P 1 (v, vd, q2)))) :
    lMet l z dM yL_tellRoom (lWs yL_tellRoom cL_tellRoom 4 [(0, 9, 12, 44)]) 10 36 4206 [.ref (z.2.2.1 0), .int x1, .ref z.2.2.2.2.2.1] (v, vd, q) P := by
  have hX : isX (lX z dM v vd) := lX_is ht dM v vd
  refine lMet_of RL ⟨by decide +kernel, rfl⟩ (cat_all rfl) (Nat.le_of_ble_eq_true rfl) hl (fun f hR hC hE => ?_)
  obtain ⟨qd, qt⟩ := q
  show AW f (lX z dM v vd) 0 [some (.ref (gAd (lX z dM v vd) 0)), some (.int x1), some (.ref z.2.2.2.2.2.1), none] [] (qd, qt) 0 0
  refine a_aload_n (pc := 0) hC dL_tellRoom_0 rfl ?_
  refine a_iconst (pc := 1) hC dL_tellRoom_1 (v := 0) rfl ?_
  refine a_aload_n (pc := 2) hC dL_tellRoom_2 rfl ?_
  refine a_iload_n (pc := 3) hC dL_tellRoom_3 rfl ?_
  refine l_callx (pc := 4) hC hR vm_X9_tellRoom tw_1130 cl_X9 (oX_0 hX) ⟨(Nat.le_of_ble_eq_true rfl), (Nat.le_of_ble_eq_true rfl), (Nat.le_of_ble_eq_true rfl), (Nat.le_of_ble_eq_true rfl)⟩ dL_tellRoom_4 (t_X9_tellRoom rfl ht hX hC.tr _ _ _ _ h) rfl rfl rfl (Nat.le_of_ble_eq_true rfl) (fun E q1 hx => ?_) (fun r q1 h => ?_)
  · obtain ⟨rfl, hx⟩ := hx
    obtain ⟨_, _⟩ := q1
    refine ⟨12, lc_one hC hE tw_734 sx_44 rfl (by decide), fun a => ?_⟩
    refine a_astore_n (pc := 12) hC dL_tellRoom_12 (Nat.le_of_ble_eq_true rfl) ?_
    refine a_iconst (pc := 13) hC dL_tellRoom_13 (v := 1) rfl ?_
    exact l_iret (pc := 14) hC hE hx (Nat.le_of_ble_eq_true rfl) (Nat.le_of_ble_eq_true rfl) dL_tellRoom_14
  · obtain ⟨_, _⟩ := q1
    refine a_i2l (pc := 7) hC dL_tellRoom_7 ?_
    refine a_lastO (pc := 8) ht hC dL_tellRoom_8 ?_
    have hC1 := lOK_X hC dM
    refine a_goto (pc := 9) (tgt := 15) (hC1 _ _) dL_tellRoom_9 (by decide) ?_
    refine a_iconst (pc := 15) (hC1 _ _) dL_tellRoom_15 (v := 0) rfl ?_
    exact l_iret (pc := 16) (hC1 _ _) hE h (Nat.le_of_ble_eq_true rfl) (Nat.le_of_ble_eq_true rfl) dL_tellRoom_16
theorem dL_tellEcho_0 : decode cL_tellEcho 0 = .ok (.aload_n 2, 1) := by decide +kernel
theorem dL_tellEcho_1 : decode cL_tellEcho 1 = .ok (.iconst 0, 1) := by decide +kernel
theorem dL_tellEcho_2 : decode cL_tellEcho 2 = .ok (.aload_n 0, 1) := by decide +kernel
theorem dL_tellEcho_3 : decode cL_tellEcho 3 = .ok (.iload_n 1, 1) := by decide +kernel
theorem dL_tellEcho_4 : decode cL_tellEcho 4 = .ok (.invokevirtual 119, 3) := by decide +kernel
theorem dL_tellEcho_7 : decode cL_tellEcho 7 = .ok (.i2l, 1) := by decide +kernel
theorem dL_tellEcho_8 : decode cL_tellEcho 8 = .ok (.lastore, 1) := by decide +kernel
theorem dL_tellEcho_9 : decode cL_tellEcho 9 = .ok (.goto 6, 3) := by decide +kernel
theorem dL_tellEcho_12 : decode cL_tellEcho 12 = .ok (.astore_n 3, 1) := by decide +kernel
theorem dL_tellEcho_13 : decode cL_tellEcho 13 = .ok (.iconst 1, 1) := by decide +kernel
theorem dL_tellEcho_14 : decode cL_tellEcho 14 = .ok (.ireturn, 1) := by decide +kernel
theorem dL_tellEcho_15 : decode cL_tellEcho 15 = .ok (.iconst 0, 1) := by decide +kernel
theorem dL_tellEcho_16 : decode cL_tellEcho 16 = .ok (.ireturn, 1) := by decide +kernel
theorem sw_L_tellEcho : lSm yL_tellEcho cL_tellEcho 4 [(0, 9, 12, 44)] 3 := ⟨tw_1388, tw_1387, tw_0, by decide +kernel, by decide +kernel, by decide +kernel⟩
set_option maxRecDepth 20000 in
theorem t_L_tellEcho {l : Launch} {z : lP} (ht : z.2.1.map Prod.snd = tyX) (hl : l.stackTraces = false) (dM : Nat → Nat → Int32) (v : Nat → Int64) (vd : Nat → UInt64) (x1 : Int32) (q : aS) (P : Int32 → lU → Prop) (h : w_X9_tellEcho x1 q (fun r q2 => P 0 (vp_updL v 0 (r.toInt64), vd, q2)) (fun E q2 => (E = "java/lang/IndexOutOfBoundsException" ∧ P 1 (v, vd, q2)))) :
    lMet l z dM yL_tellEcho (lWs yL_tellEcho cL_tellEcho 4 [(0, 9, 12, 44)]) 10 11 1206 [.ref (z.2.2.1 0), .int x1, .ref z.2.2.2.2.2.1] (v, vd, q) P := by
  have hX : isX (lX z dM v vd) := lX_is ht dM v vd
  refine lMet_of RL ⟨by decide +kernel, rfl⟩ (cat_all rfl) (Nat.le_of_ble_eq_true rfl) hl (fun f hR hC hE => ?_)
  obtain ⟨qd, qt⟩ := q
  show AW f (lX z dM v vd) 0 [some (.ref (gAd (lX z dM v vd) 0)), some (.int x1), some (.ref z.2.2.2.2.2.1), none] [] (qd, qt) 0 0
  refine a_aload_n (pc := 0) hC dL_tellEcho_0 rfl ?_
  refine a_iconst (pc := 1) hC dL_tellEcho_1 (v := 0) rfl ?_
  refine a_aload_n (pc := 2) hC dL_tellEcho_2 rfl ?_
  refine a_iload_n (pc := 3) hC dL_tellEcho_3 rfl ?_
  refine l_callx (pc := 4) hC hR vm_X9_tellEcho tw_1389 cl_X9 (oX_0 hX) ⟨(Nat.le_of_ble_eq_true rfl), (Nat.le_of_ble_eq_true rfl), (Nat.le_of_ble_eq_true rfl), (Nat.le_of_ble_eq_true rfl)⟩ dL_tellEcho_4 (t_X9_tellEcho rfl ht hX hC.tr _ _ _ _ h) rfl rfl rfl (Nat.le_of_ble_eq_true rfl) (fun E q1 hx => ?_) (fun r q1 h => ?_)
  · obtain ⟨rfl, hx⟩ := hx
    obtain ⟨_, _⟩ := q1
    refine ⟨12, lc_one hC hE tw_734 sx_44 rfl (by decide), fun a => ?_⟩
    refine a_astore_n (pc := 12) hC dL_tellEcho_12 (Nat.le_of_ble_eq_true rfl) ?_
    refine a_iconst (pc := 13) hC dL_tellEcho_13 (v := 1) rfl ?_
    exact l_iret (pc := 14) hC hE hx (Nat.le_of_ble_eq_true rfl) (Nat.le_of_ble_eq_true rfl) dL_tellEcho_14
  · obtain ⟨_, _⟩ := q1
    refine a_i2l (pc := 7) hC dL_tellEcho_7 ?_
    refine a_lastO (pc := 8) ht hC dL_tellEcho_8 ?_
    have hC1 := lOK_X hC dM
    refine a_goto (pc := 9) (tgt := 15) (hC1 _ _) dL_tellEcho_9 (by decide) ?_
    refine a_iconst (pc := 15) (hC1 _ _) dL_tellEcho_15 (v := 0) rfl ?_
    exact l_iret (pc := 16) (hC1 _ _) hE h (Nat.le_of_ble_eq_true rfl) (Nat.le_of_ble_eq_true rfl) dL_tellEcho_16
theorem dL_tellSinger_0 : decode cL_tellSinger 0 = .ok (.aload_n 2, 1) := by decide +kernel
theorem dL_tellSinger_1 : decode cL_tellSinger 1 = .ok (.iconst 0, 1) := by decide +kernel
theorem dL_tellSinger_2 : decode cL_tellSinger 2 = .ok (.aload_n 0, 1) := by decide +kernel
theorem dL_tellSinger_3 : decode cL_tellSinger 3 = .ok (.iload_n 1, 1) := by decide +kernel
theorem dL_tellSinger_4 : decode cL_tellSinger 4 = .ok (.invokevirtual 122, 3) := by decide +kernel
theorem dL_tellSinger_7 : decode cL_tellSinger 7 = .ok (.i2l, 1) := by decide +kernel
theorem dL_tellSinger_8 : decode cL_tellSinger 8 = .ok (.lastore, 1) := by decide +kernel
theorem dL_tellSinger_9 : decode cL_tellSinger 9 = .ok (.goto 6, 3) := by decide +kernel
theorem dL_tellSinger_12 : decode cL_tellSinger 12 = .ok (.astore_n 3, 1) := by decide +kernel
theorem dL_tellSinger_13 : decode cL_tellSinger 13 = .ok (.iconst 1, 1) := by decide +kernel
theorem dL_tellSinger_14 : decode cL_tellSinger 14 = .ok (.ireturn, 1) := by decide +kernel
theorem dL_tellSinger_15 : decode cL_tellSinger 15 = .ok (.iconst 0, 1) := by decide +kernel
theorem dL_tellSinger_16 : decode cL_tellSinger 16 = .ok (.ireturn, 1) := by decide +kernel
theorem sw_L_tellSinger : lSm yL_tellSinger cL_tellSinger 4 [(0, 9, 12, 44)] 3 := ⟨tw_1395, tw_1394, tw_0, by decide +kernel, by decide +kernel, by decide +kernel⟩
set_option maxRecDepth 20000 in
theorem t_L_tellSinger {l : Launch} {z : lP} (ht : z.2.1.map Prod.snd = tyX) (hl : l.stackTraces = false) (dM : Nat → Nat → Int32) (v : Nat → Int64) (vd : Nat → UInt64) (x1 : Int32) (q : aS) (P : Int32 → lU → Prop) (h : w_X9_tellSinger x1 q (fun r q2 => P 0 (vp_updL v 0 (r.toInt64), vd, q2)) (fun E q2 => (E = "java/lang/IndexOutOfBoundsException" ∧ P 1 (v, vd, q2)))) :
    lMet l z dM yL_tellSinger (lWs yL_tellSinger cL_tellSinger 4 [(0, 9, 12, 44)]) 10 9 966 [.ref (z.2.2.1 0), .int x1, .ref z.2.2.2.2.2.1] (v, vd, q) P := by
  have hX : isX (lX z dM v vd) := lX_is ht dM v vd
  refine lMet_of RL ⟨by decide +kernel, rfl⟩ (cat_all rfl) (Nat.le_of_ble_eq_true rfl) hl (fun f hR hC hE => ?_)
  obtain ⟨qd, qt⟩ := q
  show AW f (lX z dM v vd) 0 [some (.ref (gAd (lX z dM v vd) 0)), some (.int x1), some (.ref z.2.2.2.2.2.1), none] [] (qd, qt) 0 0
  refine a_aload_n (pc := 0) hC dL_tellSinger_0 rfl ?_
  refine a_iconst (pc := 1) hC dL_tellSinger_1 (v := 0) rfl ?_
  refine a_aload_n (pc := 2) hC dL_tellSinger_2 rfl ?_
  refine a_iload_n (pc := 3) hC dL_tellSinger_3 rfl ?_
  refine l_callx (pc := 4) hC hR vm_X9_tellSinger tw_1396 cl_X9 (oX_0 hX) ⟨(Nat.le_of_ble_eq_true rfl), (Nat.le_of_ble_eq_true rfl), (Nat.le_of_ble_eq_true rfl), (Nat.le_of_ble_eq_true rfl)⟩ dL_tellSinger_4 (t_X9_tellSinger rfl ht hX hC.tr _ _ _ _ h) rfl rfl rfl (Nat.le_of_ble_eq_true rfl) (fun E q1 hx => ?_) (fun r q1 h => ?_)
  · obtain ⟨rfl, hx⟩ := hx
    obtain ⟨_, _⟩ := q1
    refine ⟨12, lc_one hC hE tw_734 sx_44 rfl (by decide), fun a => ?_⟩
    refine a_astore_n (pc := 12) hC dL_tellSinger_12 (Nat.le_of_ble_eq_true rfl) ?_
    refine a_iconst (pc := 13) hC dL_tellSinger_13 (v := 1) rfl ?_
    exact l_iret (pc := 14) hC hE hx (Nat.le_of_ble_eq_true rfl) (Nat.le_of_ble_eq_true rfl) dL_tellSinger_14
  · obtain ⟨_, _⟩ := q1
    refine a_i2l (pc := 7) hC dL_tellSinger_7 ?_
    refine a_lastO (pc := 8) ht hC dL_tellSinger_8 ?_
    have hC1 := lOK_X hC dM
    refine a_goto (pc := 9) (tgt := 15) (hC1 _ _) dL_tellSinger_9 (by decide) ?_
    refine a_iconst (pc := 15) (hC1 _ _) dL_tellSinger_15 (v := 0) rfl ?_
    exact l_iret (pc := 16) (hC1 _ _) hE h (Nat.le_of_ble_eq_true rfl) (Nat.le_of_ble_eq_true rfl) dL_tellSinger_16
theorem dL_character_0 : decode cL_character 0 = .ok (.aload_n 2, 1) := by decide +kernel
theorem dL_character_1 : decode cL_character 1 = .ok (.iconst 0, 1) := by decide +kernel
theorem dL_character_2 : decode cL_character 2 = .ok (.aload_n 0, 1) := by decide +kernel
theorem dL_character_3 : decode cL_character 3 = .ok (.iload_n 1, 1) := by decide +kernel
theorem dL_character_4 : decode cL_character 4 = .ok (.invokevirtual 125, 3) := by decide +kernel
theorem dL_character_7 : decode cL_character 7 = .ok (.i2l, 1) := by decide +kernel
theorem dL_character_8 : decode cL_character 8 = .ok (.lastore, 1) := by decide +kernel
theorem dL_character_9 : decode cL_character 9 = .ok (.goto 6, 3) := by decide +kernel
theorem dL_character_12 : decode cL_character 12 = .ok (.astore_n 3, 1) := by decide +kernel
theorem dL_character_13 : decode cL_character 13 = .ok (.iconst 1, 1) := by decide +kernel
theorem dL_character_14 : decode cL_character 14 = .ok (.ireturn, 1) := by decide +kernel
theorem dL_character_15 : decode cL_character 15 = .ok (.iconst 0, 1) := by decide +kernel
theorem dL_character_16 : decode cL_character 16 = .ok (.ireturn, 1) := by decide +kernel
theorem sw_L_character : lSm yL_character cL_character 4 [(0, 9, 12, 44)] 3 := ⟨tw_1402, tw_1401, tw_0, by decide +kernel, by decide +kernel, by decide +kernel⟩
set_option maxRecDepth 20000 in
theorem t_L_character {l : Launch} {z : lP} (ht : z.2.1.map Prod.snd = tyX) (hl : l.stackTraces = false) (dM : Nat → Nat → Int32) (v : Nat → Int64) (vd : Nat → UInt64) (x1 : Int32) (q : aS) (P : Int32 → lU → Prop) (h : w_X9_character x1 q (fun r q2 => P 0 (vp_updL v 0 (r.toInt64), vd, q2)) (fun E q2 => (E = "java/lang/IndexOutOfBoundsException" ∧ P 1 (v, vd, q2)))) :
    lMet l z dM yL_character (lWs yL_character cL_character 4 [(0, 9, 12, 44)]) 9 1 6 [.ref (z.2.2.1 0), .int x1, .ref z.2.2.2.2.2.1] (v, vd, q) P := by
  have hX : isX (lX z dM v vd) := lX_is ht dM v vd
  refine lMet_of RL ⟨by decide +kernel, rfl⟩ (cat_all rfl) (Nat.le_of_ble_eq_true rfl) hl (fun f hR hC hE => ?_)
  obtain ⟨qd, qt⟩ := q
  show AW f (lX z dM v vd) 0 [some (.ref (gAd (lX z dM v vd) 0)), some (.int x1), some (.ref z.2.2.2.2.2.1), none] [] (qd, qt) 0 0
  refine a_aload_n (pc := 0) hC dL_character_0 rfl ?_
  refine a_iconst (pc := 1) hC dL_character_1 (v := 0) rfl ?_
  refine a_aload_n (pc := 2) hC dL_character_2 rfl ?_
  refine a_iload_n (pc := 3) hC dL_character_3 rfl ?_
  refine l_callx (pc := 4) hC hR vm_X9_character tw_1403 cl_X9 (oX_0 hX) ⟨(Nat.le_of_ble_eq_true rfl), (Nat.le_of_ble_eq_true rfl), (Nat.le_of_ble_eq_true rfl), (Nat.le_of_ble_eq_true rfl)⟩ dL_character_4 (t_X9_character rfl ht hX hC.tr _ _ _ _ h) rfl rfl rfl (Nat.le_of_ble_eq_true rfl) (fun E q1 hx => ?_) (fun r q1 h => ?_)
  · obtain ⟨rfl, hx⟩ := hx
    obtain ⟨_, _⟩ := q1
    refine ⟨12, lc_one hC hE tw_734 sx_44 rfl (by decide), fun a => ?_⟩
    refine a_astore_n (pc := 12) hC dL_character_12 (Nat.le_of_ble_eq_true rfl) ?_
    refine a_iconst (pc := 13) hC dL_character_13 (v := 1) rfl ?_
    exact l_iret (pc := 14) hC hE hx (Nat.le_of_ble_eq_true rfl) (Nat.le_of_ble_eq_true rfl) dL_character_14
  · obtain ⟨_, _⟩ := q1
    refine a_i2l (pc := 7) hC dL_character_7 ?_
    refine a_lastO (pc := 8) ht hC dL_character_8 ?_
    have hC1 := lOK_X hC dM
    refine a_goto (pc := 9) (tgt := 15) (hC1 _ _) dL_character_9 (by decide) ?_
    refine a_iconst (pc := 15) (hC1 _ _) dL_character_15 (v := 0) rfl ?_
    exact l_iret (pc := 16) (hC1 _ _) hE h (Nat.le_of_ble_eq_true rfl) (Nat.le_of_ble_eq_true rfl) dL_character_16

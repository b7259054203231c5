/-! the law: a deed, a question, under handlers -/
theorem dL_deed_0 : decode cL_deed 0 = .ok (.aload_n 0, 1) := by decide +kernel
theorem dL_deed_1 : decode cL_deed 1 = .ok (.iload_n 1, 1) := by decide +kernel
theorem dL_deed_2 : decode cL_deed 2 = .ok (.iload_n 2, 1) := by decide +kernel
theorem dL_deed_3 : decode cL_deed 3 = .ok (.iload_n 3, 1) := by decide +kernel
theorem dL_deed_4 : decode cL_deed 4 = .ok (.iload 4, 2) := by decide +kernel
theorem dL_deed_6 : decode cL_deed 6 = .ok (.invokestatic 67, 3) := by decide +kernel
theorem dL_deed_9 : decode cL_deed 9 = .ok (.ireturn, 1) := by decide +kernel
theorem dL_deed_10 : decode cL_deed 10 = .ok (.astore 5, 2) := by decide +kernel
theorem dL_deed_12 : decode cL_deed 12 = .ok (.sipush (-2003), 3) := by decide +kernel
theorem dL_deed_15 : decode cL_deed 15 = .ok (.ireturn, 1) := by decide +kernel
theorem dL_deed_16 : decode cL_deed 16 = .ok (.astore 5, 2) := by decide +kernel
theorem dL_deed_18 : decode cL_deed 18 = .ok (.sipush (-2001), 3) := by decide +kernel
theorem dL_deed_21 : decode cL_deed 21 = .ok (.ireturn, 1) := by decide +kernel
theorem sm_L_deed : lSm yL_deed cL_deed 6 [(0, 9, 10, 71), (0, 9, 16, 73)] 5 := ⟨tw_674, tw_673, tw_0, by decide +kernel, by decide +kernel, by decide +kernel⟩
def w_L_deed (x1 : Int32) (x2 : Int32) (x3 : Int32) (x4 : Int32) (q : aS) (P : Int32 → aS → Prop) : Prop := w_L_plain x1 x2 x3 x4 q P (fun E q2 => (E = "java/lang/IllegalArgumentException" ∧ P (-2003) q2) ∨ (E = "java/lang/UnsupportedOperationException" ∧ P (-2001) q2))
set_option maxRecDepth 20000 in
theorem t_L_deed {l : Launch} {g : aG} (hX : isX g) (hN : isNc g) (hl : l.stackTraces = false) (x1 : Int32) (x2 : Int32) (x3 : Int32) (x4 : Int32) (q : aS) (P : Int32 → aS → Prop) (h : w_L_deed x1 x2 x3 x4 q P) : aMh l g yL_deed (hWs yL_deed cL_deed 6 [(0, 9, 10, 71), (0, 9, 16, 73)]) 11 1 6 [.ref (gAd g 0), .int x1, .int x2, .int x3, .int x4] q P := by
  refine aMh_of RL ⟨by decide +kernel, rfl⟩ (cat_all rfl) (Nat.le_of_ble_eq_true rfl) hl hX.cl (fun f hR hC hE => ?_)
  show AW f g 0 [some (.ref (gAd g 0)), some (.int x1), some (.int x2), some (.int x3), some (.int x4), none] [] q 0 0
  refine a_aload_n (pc := 0) hC dL_deed_0 rfl ?_
  refine a_iload_n (pc := 1) hC dL_deed_1 rfl ?_
  refine a_iload_n (pc := 2) hC dL_deed_2 rfl ?_
  refine a_iload_n (pc := 3) hC dL_deed_3 rfl ?_
  refine a_iload (pc := 4) hC dL_deed_4 rfl ?_
  refine h_callSx (pc := 6) hC hR sm_L_plain tw_676 ⟨(Nat.le_of_ble_eq_true rfl), (Nat.le_of_ble_eq_true rfl), (Nat.le_of_ble_eq_true rfl), (Nat.le_of_ble_eq_true rfl)⟩ dL_deed_6 (t_L_plain hX hC.tr _ _ _ _ _ _ _ h) rfl rfl rfl (Nat.le_of_ble_eq_true rfl) (fun E q1 hx => ?_) (fun r q1 h => ?_)
  · rcases hx with ⟨rfl, hx⟩ | ⟨rfl, hx⟩
    · refine ⟨10, lc_i (i := 0) (a := 0) (b := 9) (ct := 71) hX hN hC hE.2.2 rfl (fun j hj => by omega) rfl (by decide) tw_457 (by decide +kernel), fun a => ?_⟩
      refine a_astore (pc := 10) hC dL_deed_10 (Nat.le_of_ble_eq_true rfl) ?_
      refine a_sipush (pc := 12) hC dL_deed_12 (v := (-2003)) rfl ?_
      exact h_iret (pc := 15) hC hE hx (Nat.le_of_ble_eq_true rfl) (Nat.le_of_ble_eq_true rfl) dL_deed_15
    · refine ⟨16, lc_i (i := 1) (a := 0) (b := 9) (ct := 73) hX hN hC hE.2.2 rfl (fun j hj => by
        have hj : j < 1 := hj
        rcases (show j = 0 by omega) with rfl
        · exact ⟨_, rfl, by decide, _, tw_457, by decide +kernel⟩) rfl (by decide) tw_675 (by decide +kernel), fun a => ?_⟩
      refine a_astore (pc := 16) hC dL_deed_16 (Nat.le_of_ble_eq_true rfl) ?_
      refine a_sipush (pc := 18) hC dL_deed_18 (v := (-2001)) rfl ?_
      exact h_iret (pc := 21) hC hE hx (Nat.le_of_ble_eq_true rfl) (Nat.le_of_ble_eq_true rfl) dL_deed_21
  · exact h_iret (pc := 9) hC hE h (Nat.le_of_ble_eq_true rfl) (Nat.le_of_ble_eq_true rfl) dL_deed_9
theorem dL_ask_0 : decode cL_ask 0 = .ok (.aload_n 0, 1) := by decide +kernel
theorem dL_ask_1 : decode cL_ask 1 = .ok (.iload_n 1, 1) := by decide +kernel
theorem dL_ask_2 : decode cL_ask 2 = .ok (.iload_n 2, 1) := by decide +kernel
theorem dL_ask_3 : decode cL_ask 3 = .ok (.iload_n 3, 1) := by decide +kernel
theorem dL_ask_4 : decode cL_ask 4 = .ok (.invokestatic 112, 3) := by decide +kernel
theorem dL_ask_7 : decode cL_ask 7 = .ok (.ireturn, 1) := by decide +kernel
theorem dL_ask_8 : decode cL_ask 8 = .ok (.astore 4, 2) := by decide +kernel
theorem dL_ask_10 : decode cL_ask 10 = .ok (.sipush (-2002), 3) := by decide +kernel
theorem dL_ask_13 : decode cL_ask 13 = .ok (.ireturn, 1) := by decide +kernel
theorem dL_ask_14 : decode cL_ask 14 = .ok (.astore 4, 2) := by decide +kernel
theorem dL_ask_16 : decode cL_ask 16 = .ok (.sipush (-2003), 3) := by decide +kernel
theorem dL_ask_19 : decode cL_ask 19 = .ok (.ireturn, 1) := by decide +kernel
theorem dL_ask_20 : decode cL_ask 20 = .ok (.astore 4, 2) := by decide +kernel
theorem dL_ask_22 : decode cL_ask 22 = .ok (.sipush (-2004), 3) := by decide +kernel
theorem dL_ask_25 : decode cL_ask 25 = .ok (.ireturn, 1) := by decide +kernel
theorem sm_L_ask : lSm yL_ask cL_ask 5 [(0, 7, 8, 116), (0, 7, 14, 71), (0, 7, 20, 118)] 4 := ⟨tw_432, tw_431, tw_0, by decide +kernel, by decide +kernel, by decide +kernel⟩
def w_L_ask (x1 : Int32) (x2 : Int32) (x3 : Int32) (q : aS) (P : Int32 → aS → Prop) : Prop := w_L_asked x1 x2 x3 q P (fun E q2 => (E = "java/lang/IndexOutOfBoundsException" ∧ P (-2002) q2) ∨ (E = "java/lang/IllegalArgumentException" ∧ P (-2003) q2) ∨ (E = "java/util/NoSuchElementException" ∧ P (-2004) q2))
set_option maxRecDepth 20000 in
theorem t_L_ask {l : Launch} {g : aG} (hX : isX g) (hN : isNc g) (hl : l.stackTraces = false) (x1 : Int32) (x2 : Int32) (x3 : Int32) (q : aS) (P : Int32 → aS → Prop) (h : w_L_ask x1 x2 x3 q P) : aMh l g yL_ask (hWs yL_ask cL_ask 5 [(0, 7, 8, 116), (0, 7, 14, 71), (0, 7, 20, 118)]) 12 2 12 [.ref (gAd g 0), .int x1, .int x2, .int x3] q P := by
  refine aMh_of RL ⟨by decide +kernel, rfl⟩ (cat_all rfl) (Nat.le_of_ble_eq_true rfl) hl hX.cl (fun f hR hC hE => ?_)
  show AW f g 0 [some (.ref (gAd g 0)), some (.int x1), some (.int x2), some (.int x3), none] [] q 0 0
  refine a_aload_n (pc := 0) hC dL_ask_0 rfl ?_
  refine a_iload_n (pc := 1) hC dL_ask_1 rfl ?_
  refine a_iload_n (pc := 2) hC dL_ask_2 rfl ?_
  refine a_iload_n (pc := 3) hC dL_ask_3 rfl ?_
  refine h_callSx (pc := 4) hC hR sm_L_asked tw_459 ⟨(Nat.le_of_ble_eq_true rfl), (Nat.le_of_ble_eq_true rfl), (Nat.le_of_ble_eq_true rfl), (Nat.le_of_ble_eq_true rfl)⟩ dL_ask_4 (t_L_asked hX hC.tr _ _ _ _ _ _ h) rfl rfl rfl (Nat.le_of_ble_eq_true rfl) (fun E q1 hx => ?_) (fun r q1 h => ?_)
  · rcases hx with ⟨rfl, hx⟩ | ⟨rfl, hx⟩ | ⟨rfl, hx⟩
    · refine ⟨8, lc_i (i := 0) (a := 0) (b := 7) (ct := 116) hX hN hC hE.2.2 rfl (fun j hj => by omega) rfl (by decide) tw_433 (by decide +kernel), fun a => ?_⟩
      refine a_astore (pc := 8) hC dL_ask_8 (Nat.le_of_ble_eq_true rfl) ?_
      refine a_sipush (pc := 10) hC dL_ask_10 (v := (-2002)) rfl ?_
      exact h_iret (pc := 13) hC hE hx (Nat.le_of_ble_eq_true rfl) (Nat.le_of_ble_eq_true rfl) dL_ask_13
    · refine ⟨14, lc_i (i := 1) (a := 0) (b := 7) (ct := 71) hX hN hC hE.2.2 rfl (fun j hj => by
        have hj : j < 1 := hj
        rcases (show j = 0 by omega) with rfl
        · exact ⟨_, rfl, by decide, _, tw_433, by decide +kernel⟩) rfl (by decide) tw_457 (by decide +kernel), fun a => ?_⟩
      refine a_astore (pc := 14) hC dL_ask_14 (Nat.le_of_ble_eq_true rfl) ?_
      refine a_sipush (pc := 16) hC dL_ask_16 (v := (-2003)) rfl ?_
      exact h_iret (pc := 19) hC hE hx (Nat.le_of_ble_eq_true rfl) (Nat.le_of_ble_eq_true rfl) dL_ask_19
    · refine ⟨20, lc_i (i := 2) (a := 0) (b := 7) (ct := 118) hX hN hC hE.2.2 rfl (fun j hj => by
        have hj : j < 2 := hj
        rcases (show j = 0 ∨ j = 1 by omega) with rfl | rfl
        · exact ⟨_, rfl, by decide, _, tw_433, by decide +kernel⟩
        · exact ⟨_, rfl, by decide, _, tw_457, by decide +kernel⟩) rfl (by decide) tw_458 (by decide +kernel), fun a => ?_⟩
      refine a_astore (pc := 20) hC dL_ask_20 (Nat.le_of_ble_eq_true rfl) ?_
      refine a_sipush (pc := 22) hC dL_ask_22 (v := (-2004)) rfl ?_
      exact h_iret (pc := 25) hC hE hx (Nat.le_of_ble_eq_true rfl) (Nat.le_of_ble_eq_true rfl) dL_ask_25
  · exact h_iret (pc := 7) hC hE h (Nat.le_of_ble_eq_true rfl) (Nat.le_of_ble_eq_true rfl) dL_ask_7

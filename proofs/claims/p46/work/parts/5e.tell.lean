/-! the line of text: the class' four methods, asked what can be answered -/
def w_X9_tellRoom0 (x1 : Int32) (q : aS) (P : Int32 → aS → Prop) : Prop := w_X9_checkRoom0 x1 q (fun _ q3 => ∀ q4 : aS, q4 = (q3.1, []) → (∃ w6 : Nat, x1 = nI w6 ∧ w6 < 100 ∧ q4.2.length + dgn w6 ≤ 60 ∧ ∀ q5 : aS, q5 = (q4.1, q4.2 ++ dgs w6) → (q5.2.length + 1 ≤ 60 ∧ ∀ q7 : aS, q7 = (q5.1, q5.2 ++ [91]) → (vp_in x1 6 ∧ (∃ w9 : Nat, (q7.1 3 (Int32.toNatClampNeg x1)) = nI w9 ∧ w9 < 100 ∧ q7.2.length + dgn w9 ≤ 60 ∧ ∀ q8 : aS, q8 = (q7.1, q7.2 ++ dgs w9) → (q8.2.length + 1 ≤ 60 ∧ ∀ q10 : aS, q10 = (q8.1, q8.2 ++ [126]) → (vp_in x1 6 ∧ (∃ w12 : Nat, (q10.1 4 (Int32.toNatClampNeg x1)) = nI w12 ∧ w12 < 100 ∧ q10.2.length + dgn w12 ≤ 60 ∧ ∀ q11 : aS, q11 = (q10.1, q10.2 ++ dgs w12) → (q11.2.length + 1 ≤ 60 ∧ ∀ q13 : aS, q13 = (q11.1, q11.2 ++ [93]) → w_X9_writeEchoesIn x1 q13 (fun _ q15 => w_X9_writeSingersIn x1 q15 (fun _ q17 => P (nI q17.2.length) q17)))))))))))
def w_X9_tellEcho0 (x1 : Int32) (q : aS) (P : Int32 → aS → Prop) : Prop := w_X9_checkEcho0 x1 q (fun _ q3 => ∀ q4 : aS, q4 = (q3.1, []) → (∃ w6 : Nat, x1 = nI w6 ∧ w6 < 100 ∧ q4.2.length + dgn w6 ≤ 60 ∧ ∀ q5 : aS, q5 = (q4.1, q4.2 ++ dgs w6) → (q5.2.length + 1 ≤ 60 ∧ ∀ q7 : aS, q7 = (q5.1, q5.2 ++ [94]) → (vp_in x1 8 ∧ (∃ w9 : Nat, (q7.1 8 (Int32.toNatClampNeg x1)) = nI w9 ∧ w9 < 100 ∧ q7.2.length + dgn w9 ≤ 60 ∧ ∀ q8 : aS, q8 = (q7.1, q7.2 ++ dgs w9) → (q8.2.length + 1 ≤ 60 ∧ ∀ q10 : aS, q10 = (q8.1, q8.2 ++ [64]) → (vp_in x1 8 ∧ (∃ w12 : Nat, (q10.1 7 (Int32.toNatClampNeg x1)) = nI w12 ∧ w12 < 100 ∧ q10.2.length + dgn w12 ≤ 60 ∧ ∀ q11 : aS, q11 = (q10.1, q10.2 ++ dgs w12) → w_X8_isLet x1 q11 (fun r13 q14 => ((r13 = 0 → P (nI q14.2.length) q14) ∧ (¬ r13 = 0 → (q14.2.length + 1 ≤ 60 ∧ ∀ q16 : aS, q16 = (q14.1, q14.2 ++ [61]) → (vp_in x1 8 ∧ (∃ w18 : Nat, (q16.1 9 (Int32.toNatClampNeg x1)) = nI w18 ∧ w18 < 100 ∧ q16.2.length + dgn w18 ≤ 60 ∧ ∀ q17 : aS, q17 = (q16.1, q16.2 ++ dgs w18) → (q17.2.length + 1 ≤ 60 ∧ ∀ q19 : aS, q19 = (q17.1, q17.2 ++ [47]) → (vp_in x1 8 ∧ (∃ w21 : Nat, (q19.1 10 (Int32.toNatClampNeg x1)) = nI w21 ∧ w21 < 100 ∧ q19.2.length + dgn w21 ≤ 60 ∧ ∀ q20 : aS, q20 = (q19.1, q19.2 ++ dgs w21) → P (nI q20.2.length) q20)))))))))))))))))
def w_X9_tellSinger0 (x1 : Int32) (q : aS) (P : Int32 → aS → Prop) : Prop := w_X9_checkSinger0 x1 q (fun _ q3 => ∀ q4 : aS, q4 = (q3.1, []) → (∃ w6 : Nat, x1 = nI w6 ∧ w6 < 100 ∧ q4.2.length + dgn w6 ≤ 60 ∧ ∀ q5 : aS, q5 = (q4.1, q4.2 ++ dgs w6) → (q5.2.length + 1 ≤ 60 ∧ ∀ q7 : aS, q7 = (q5.1, q5.2 ++ [33]) → (vp_in x1 6 ∧ (∃ w9 : Nat, (q7.1 13 (Int32.toNatClampNeg x1)) = nI w9 ∧ w9 < 100 ∧ q7.2.length + dgn w9 ≤ 60 ∧ ∀ q8 : aS, q8 = (q7.1, q7.2 ++ dgs w9) → (q8.2.length + 1 ≤ 60 ∧ ∀ q10 : aS, q10 = (q8.1, q8.2 ++ [37]) → (vp_in x1 6 ∧ (∃ w12 : Nat, (q10.1 14 (Int32.toNatClampNeg x1)) = nI w12 ∧ w12 < 100 ∧ q10.2.length + dgn w12 ≤ 60 ∧ ∀ q11 : aS, q11 = (q10.1, q10.2 ++ dgs w12) → w_X8_isInside x1 q11 (fun r13 q14 => ((r13 = 0 → P (nI q14.2.length) q14) ∧ (¬ r13 = 0 → (q14.2.length + 1 ≤ 60 ∧ ∀ q16 : aS, q16 = (q14.1, q14.2 ++ [64]) → (vp_in x1 6 ∧ (∃ w18 : Nat, (q16.1 15 (Int32.toNatClampNeg x1)) = nI w18 ∧ w18 < 100 ∧ q16.2.length + dgn w18 ≤ 60 ∧ ∀ q17 : aS, q17 = (q16.1, q16.2 ++ dgs w18) → P (nI q17.2.length) q17))))))))))))))
def JX9_character0_15 (P : Int32 → aS → Prop) (q : aS) : Prop := False
def w_X9_character0 (x1 : Int32) (q : aS) (P : Int32 → aS → Prop) : Prop := ((x1 < 0 → JX9_character0_15 P q) ∧ (¬ x1 < 0 → ((x1 < (nI q.2.length) → (∃ w4 : Nat, x1 = nI w4 ∧ w4 < q.2.length ∧ q.2.getD w4 0 < 128 ∧ (narrow .char (.int (nI (q.2.getD w4 0))) = .int (nI (q.2.getD w4 0)) ∧ P (nI (q.2.getD w4 0)) q))) ∧ (¬ x1 < (nI q.2.length) → JX9_character0_15 P q))))
set_option maxRecDepth 20000 in
theorem t_X9_tellRoom0 {l : Launch} {g : aG} {z : lP} {RS : va_W} (hg : g = lX z RS (gAd g 205)) (ht : z.2.1.map Prod.snd = tyX) (hX : isX g) (hl : l.stackTraces = false) (x1 : Int32) (q : aS) (P : Int32 → aS → Prop) (h : w_X9_tellRoom0 x1 q P) : aMi l g yX9_tellRoom (aWs yX9_tellRoom cX9_tellRoom 2 (some .int)) 7 35 4200 [.ref (gAd g 0), .int x1] q P (fun _ _ => False) := by
  refine aMi_of RX9 ⟨by decide +kernel, rfl⟩ (cat_all rfl) (Nat.le_of_ble_eq_true rfl) hl hX.cl (fun f hR hC hE => ?_)
  show AW f g 0 [some (.ref (gAd g 0)), some (.int x1)] [] q 0 0
  unfold w_X9_tellRoom0 at h
  refine a_aload_n (pc := 0) hC dX9_tellRoom_0 rfl ?_
  refine a_iload_n (pc := 1) hC dX9_tellRoom_1 rfl ?_
  refine a_callVv (pc := 2) hC hR vm_X9_checkRoom tw_466 cl_X9 (oX_0 hX) ⟨(Nat.le_of_ble_eq_true rfl), (Nat.le_of_ble_eq_true rfl), (Nat.le_of_ble_eq_true rfl), (Nat.le_of_ble_eq_true rfl)⟩ dX9_tellRoom_2 (t_X9_checkRoom0 hX hC.tr _ _ _ h) rfl rfl rfl (Nat.le_of_ble_eq_true rfl) (fun q3 h => ?_)
  refine a_aload_n (pc := 5) hC dX9_tellRoom_5 rfl ?_
  refine a_get (pc := 6) hC cl_X9 (oX_0 hX) 7 (by decide) tw_309 rfl dX9_tellRoom_6 ?_
  refine a_iconst (pc := 9) hC dX9_tellRoom_9 (v := 0) rfl ?_
  refine a_sbSet0 (pc := 10) hg ht hC hR tw_1296 ⟨(Nat.le_of_ble_eq_true rfl), (Nat.le_of_ble_eq_true rfl), (Nat.le_of_ble_eq_true rfl), (Nat.le_of_ble_eq_true rfl)⟩ dX9_tellRoom_10 rfl (Nat.le_of_ble_eq_true rfl) ?_
  replace h := h _ rfl
  refine a_aload_n (pc := 13) hC dX9_tellRoom_13 rfl ?_
  refine a_get (pc := 14) hC cl_X9 (oX_0 hX) 7 (by decide) tw_309 rfl dX9_tellRoom_14 ?_
  refine a_iload_n (pc := 17) hC dX9_tellRoom_17 rfl ?_
  obtain ⟨w6, hw6, hw61, hw62, h⟩ := h
  replace h := h _ rfl
  refine a_sbAppI (pc := 18) hg ht hC hR tw_1348 hw6 hw61 hw62 ⟨(Nat.le_of_ble_eq_true rfl), (Nat.le_of_ble_eq_true rfl), (Nat.le_of_ble_eq_true rfl), (Nat.le_of_ble_eq_true rfl)⟩ dX9_tellRoom_18 rfl (Nat.le_of_ble_eq_true rfl) ?_
  refine a_bipush (pc := 21) hC dX9_tellRoom_21 (v := 91) rfl ?_
  refine a_sbAppC (pc := 23) hg ht hC hR tw_1349 91 rfl (by decide) h.1 ⟨(Nat.le_of_ble_eq_true rfl), (Nat.le_of_ble_eq_true rfl), (Nat.le_of_ble_eq_true rfl), (Nat.le_of_ble_eq_true rfl)⟩ dX9_tellRoom_23 rfl (Nat.le_of_ble_eq_true rfl) ?_
  replace h := h.2 _ rfl
  refine a_aload_n (pc := 26) hC dX9_tellRoom_26 rfl ?_
  refine a_get (pc := 27) hC cl_X9 (oX_0 hX) 0 (by decide) tw_303 rfl dX9_tellRoom_27 ?_
  refine a_get (pc := 30) hC cl_X8 (oX_1 hX) 0 (by decide) tw_151 rfl dX9_tellRoom_30 ?_
  refine a_get (pc := 33) hC cl_X6 (oX_2 hX) 1 (by decide) tw_59 rfl dX9_tellRoom_33 ?_
  refine a_iload_n (pc := 36) hC dX9_tellRoom_36 rfl ?_
  refine a_iald (pc := 37) hC (oX_3 hX) h.1 dX9_tellRoom_37 ?_
  replace h := h.2
  obtain ⟨w9, hw9, hw91, hw92, h⟩ := h
  replace h := h _ rfl
  refine a_sbAppI (pc := 38) hg ht hC hR tw_1348 hw9 hw91 hw92 ⟨(Nat.le_of_ble_eq_true rfl), (Nat.le_of_ble_eq_true rfl), (Nat.le_of_ble_eq_true rfl), (Nat.le_of_ble_eq_true rfl)⟩ dX9_tellRoom_38 rfl (Nat.le_of_ble_eq_true rfl) ?_
  refine a_pop (pc := 41) hC dX9_tellRoom_41 rfl ?_
  refine a_aload_n (pc := 42) hC dX9_tellRoom_42 rfl ?_
  refine a_get (pc := 43) hC cl_X9 (oX_0 hX) 7 (by decide) tw_309 rfl dX9_tellRoom_43 ?_
  refine a_bipush (pc := 46) hC dX9_tellRoom_46 (v := 126) rfl ?_
  refine a_sbAppC (pc := 48) hg ht hC hR tw_1349 126 rfl (by decide) h.1 ⟨(Nat.le_of_ble_eq_true rfl), (Nat.le_of_ble_eq_true rfl), (Nat.le_of_ble_eq_true rfl), (Nat.le_of_ble_eq_true rfl)⟩ dX9_tellRoom_48 rfl (Nat.le_of_ble_eq_true rfl) ?_
  replace h := h.2 _ rfl
  refine a_aload_n (pc := 51) hC dX9_tellRoom_51 rfl ?_
  refine a_get (pc := 52) hC cl_X9 (oX_0 hX) 0 (by decide) tw_303 rfl dX9_tellRoom_52 ?_
  refine a_get (pc := 55) hC cl_X8 (oX_1 hX) 0 (by decide) tw_151 rfl dX9_tellRoom_55 ?_
  refine a_get (pc := 58) hC cl_X6 (oX_2 hX) 2 (by decide) tw_61 rfl dX9_tellRoom_58 ?_
  refine a_iload_n (pc := 61) hC dX9_tellRoom_61 rfl ?_
  refine a_iald (pc := 62) hC (oX_4 hX) h.1 dX9_tellRoom_62 ?_
  replace h := h.2
  obtain ⟨w12, hw12, hw121, hw122, h⟩ := h
  replace h := h _ rfl
  refine a_sbAppI (pc := 63) hg ht hC hR tw_1348 hw12 hw121 hw122 ⟨(Nat.le_of_ble_eq_true rfl), (Nat.le_of_ble_eq_true rfl), (Nat.le_of_ble_eq_true rfl), (Nat.le_of_ble_eq_true rfl)⟩ dX9_tellRoom_63 rfl (Nat.le_of_ble_eq_true rfl) ?_
  refine a_bipush (pc := 66) hC dX9_tellRoom_66 (v := 93) rfl ?_
  refine a_sbAppC (pc := 68) hg ht hC hR tw_1349 93 rfl (by decide) h.1 ⟨(Nat.le_of_ble_eq_true rfl), (Nat.le_of_ble_eq_true rfl), (Nat.le_of_ble_eq_true rfl), (Nat.le_of_ble_eq_true rfl)⟩ dX9_tellRoom_68 rfl (Nat.le_of_ble_eq_true rfl) ?_
  replace h := h.2 _ rfl
  refine a_pop (pc := 71) hC dX9_tellRoom_71 rfl ?_
  refine a_aload_n (pc := 72) hC dX9_tellRoom_72 rfl ?_
  refine a_iload_n (pc := 73) hC dX9_tellRoom_73 rfl ?_
  refine a_callVv (pc := 74) hC hR vm_X9_writeEchoesIn tw_1362 cl_X9 (oX_0 hX) ⟨(Nat.le_of_ble_eq_true rfl), (Nat.le_of_ble_eq_true rfl), (Nat.le_of_ble_eq_true rfl), (Nat.le_of_ble_eq_true rfl)⟩ dX9_tellRoom_74 (t_X9_writeEchoesIn hg ht hX hC.tr _ _ _ h) rfl rfl rfl (Nat.le_of_ble_eq_true rfl) (fun q15 h => ?_)
  refine a_aload_n (pc := 77) hC dX9_tellRoom_77 rfl ?_
  refine a_iload_n (pc := 78) hC dX9_tellRoom_78 rfl ?_
  refine a_callVv (pc := 79) hC hR vm_X9_writeSingersIn tw_1366 cl_X9 (oX_0 hX) ⟨(Nat.le_of_ble_eq_true rfl), (Nat.le_of_ble_eq_true rfl), (Nat.le_of_ble_eq_true rfl), (Nat.le_of_ble_eq_true rfl)⟩ dX9_tellRoom_79 (t_X9_writeSingersIn hg ht hX hC.tr _ _ _ h) rfl rfl rfl (Nat.le_of_ble_eq_true rfl) (fun q17 h => ?_)
  refine a_aload_n (pc := 82) hC dX9_tellRoom_82 rfl ?_
  refine a_get (pc := 83) hC cl_X9 (oX_0 hX) 7 (by decide) tw_309 rfl dX9_tellRoom_83 ?_
  refine a_sbLen (pc := 86) hg hC hR tw_1370 ⟨(Nat.le_of_ble_eq_true rfl), (Nat.le_of_ble_eq_true rfl), (Nat.le_of_ble_eq_true rfl), (Nat.le_of_ble_eq_true rfl)⟩ dX9_tellRoom_86 rfl (Nat.le_of_ble_eq_true rfl) ?_
  exact a_iret (pc := 89) hC hE h (Nat.le_of_ble_eq_true rfl) (Nat.le_of_ble_eq_true rfl) dX9_tellRoom_89
set_option maxRecDepth 20000 in
theorem t_X9_tellEcho0 {l : Launch} {g : aG} {z : lP} {RS : va_W} (hg : g = lX z RS (gAd g 205)) (ht : z.2.1.map Prod.snd = tyX) (hX : isX g) (hl : l.stackTraces = false) (x1 : Int32) (q : aS) (P : Int32 → aS → Prop) (h : w_X9_tellEcho0 x1 q P) : aMi l g yX9_tellEcho (aWs yX9_tellEcho cX9_tellEcho 2 (some .int)) 6 10 1200 [.ref (gAd g 0), .int x1] q P (fun _ _ => False) := by
  refine aMi_of RX9 ⟨by decide +kernel, rfl⟩ (cat_all rfl) (Nat.le_of_ble_eq_true rfl) hl hX.cl (fun f hR hC hE => ?_)
  show AW f g 0 [some (.ref (gAd g 0)), some (.int x1)] [] q 0 0
  unfold w_X9_tellEcho0 at h
  refine a_aload_n (pc := 0) hC dX9_tellEcho_0 rfl ?_
  refine a_iload_n (pc := 1) hC dX9_tellEcho_1 rfl ?_
  refine a_callVv (pc := 2) hC hR vm_X9_checkEcho tw_514 cl_X9 (oX_0 hX) ⟨(Nat.le_of_ble_eq_true rfl), (Nat.le_of_ble_eq_true rfl), (Nat.le_of_ble_eq_true rfl), (Nat.le_of_ble_eq_true rfl)⟩ dX9_tellEcho_2 (t_X9_checkEcho0 hX hC.tr _ _ _ h) rfl rfl rfl (Nat.le_of_ble_eq_true rfl) (fun q3 h => ?_)
  refine a_aload_n (pc := 5) hC dX9_tellEcho_5 rfl ?_
  refine a_get (pc := 6) hC cl_X9 (oX_0 hX) 7 (by decide) tw_309 rfl dX9_tellEcho_6 ?_
  refine a_iconst (pc := 9) hC dX9_tellEcho_9 (v := 0) rfl ?_
  refine a_sbSet0 (pc := 10) hg ht hC hR tw_1296 ⟨(Nat.le_of_ble_eq_true rfl), (Nat.le_of_ble_eq_true rfl), (Nat.le_of_ble_eq_true rfl), (Nat.le_of_ble_eq_true rfl)⟩ dX9_tellEcho_10 rfl (Nat.le_of_ble_eq_true rfl) ?_
  replace h := h _ rfl
  refine a_aload_n (pc := 13) hC dX9_tellEcho_13 rfl ?_
  refine a_get (pc := 14) hC cl_X9 (oX_0 hX) 7 (by decide) tw_309 rfl dX9_tellEcho_14 ?_
  refine a_iload_n (pc := 17) hC dX9_tellEcho_17 rfl ?_
  obtain ⟨w6, hw6, hw61, hw62, h⟩ := h
  replace h := h _ rfl
  refine a_sbAppI (pc := 18) hg ht hC hR tw_1348 hw6 hw61 hw62 ⟨(Nat.le_of_ble_eq_true rfl), (Nat.le_of_ble_eq_true rfl), (Nat.le_of_ble_eq_true rfl), (Nat.le_of_ble_eq_true rfl)⟩ dX9_tellEcho_18 rfl (Nat.le_of_ble_eq_true rfl) ?_
  refine a_bipush (pc := 21) hC dX9_tellEcho_21 (v := 94) rfl ?_
  refine a_sbAppC (pc := 23) hg ht hC hR tw_1349 94 rfl (by decide) h.1 ⟨(Nat.le_of_ble_eq_true rfl), (Nat.le_of_ble_eq_true rfl), (Nat.le_of_ble_eq_true rfl), (Nat.le_of_ble_eq_true rfl)⟩ dX9_tellEcho_23 rfl (Nat.le_of_ble_eq_true rfl) ?_
  replace h := h.2 _ rfl
  refine a_aload_n (pc := 26) hC dX9_tellEcho_26 rfl ?_
  refine a_get (pc := 27) hC cl_X9 (oX_0 hX) 0 (by decide) tw_303 rfl dX9_tellEcho_27 ?_
  refine a_get (pc := 30) hC cl_X8 (oX_1 hX) 1 (by decide) tw_153 rfl dX9_tellEcho_30 ?_
  refine a_get (pc := 33) hC cl_X1 (oX_6 hX) 2 (by decide) tw_90 rfl dX9_tellEcho_33 ?_
  refine a_iload_n (pc := 36) hC dX9_tellEcho_36 rfl ?_
  refine a_iald (pc := 37) hC (oX_8 hX) h.1 dX9_tellEcho_37 ?_
  replace h := h.2
  obtain ⟨w9, hw9, hw91, hw92, h⟩ := h
  replace h := h _ rfl
  refine a_sbAppI (pc := 38) hg ht hC hR tw_1348 hw9 hw91 hw92 ⟨(Nat.le_of_ble_eq_true rfl), (Nat.le_of_ble_eq_true rfl), (Nat.le_of_ble_eq_true rfl), (Nat.le_of_ble_eq_true rfl)⟩ dX9_tellEcho_38 rfl (Nat.le_of_ble_eq_true rfl) ?_
  refine a_pop (pc := 41) hC dX9_tellEcho_41 rfl ?_
  refine a_aload_n (pc := 42) hC dX9_tellEcho_42 rfl ?_
  refine a_get (pc := 43) hC cl_X9 (oX_0 hX) 7 (by decide) tw_309 rfl dX9_tellEcho_43 ?_
  refine a_bipush (pc := 46) hC dX9_tellEcho_46 (v := 64) rfl ?_
  refine a_sbAppC (pc := 48) hg ht hC hR tw_1349 64 rfl (by decide) h.1 ⟨(Nat.le_of_ble_eq_true rfl), (Nat.le_of_ble_eq_true rfl), (Nat.le_of_ble_eq_true rfl), (Nat.le_of_ble_eq_true rfl)⟩ dX9_tellEcho_48 rfl (Nat.le_of_ble_eq_true rfl) ?_
  replace h := h.2 _ rfl
  refine a_aload_n (pc := 51) hC dX9_tellEcho_51 rfl ?_
  refine a_get (pc := 52) hC cl_X9 (oX_0 hX) 0 (by decide) tw_303 rfl dX9_tellEcho_52 ?_
  refine a_get (pc := 55) hC cl_X8 (oX_1 hX) 1 (by decide) tw_153 rfl dX9_tellEcho_55 ?_
  refine a_get (pc := 58) hC cl_X1 (oX_6 hX) 1 (by decide) tw_87 rfl dX9_tellEcho_58 ?_
  refine a_iload_n (pc := 61) hC dX9_tellEcho_61 rfl ?_
  refine a_iald (pc := 62) hC (oX_7 hX) h.1 dX9_tellEcho_62 ?_
  replace h := h.2
  obtain ⟨w12, hw12, hw121, hw122, h⟩ := h
  replace h := h _ rfl
  refine a_sbAppI (pc := 63) hg ht hC hR tw_1348 hw12 hw121 hw122 ⟨(Nat.le_of_ble_eq_true rfl), (Nat.le_of_ble_eq_true rfl), (Nat.le_of_ble_eq_true rfl), (Nat.le_of_ble_eq_true rfl)⟩ dX9_tellEcho_63 rfl (Nat.le_of_ble_eq_true rfl) ?_
  refine a_pop (pc := 66) hC dX9_tellEcho_66 rfl ?_
  refine a_aload_n (pc := 67) hC dX9_tellEcho_67 rfl ?_
  refine a_get (pc := 68) hC cl_X9 (oX_0 hX) 0 (by decide) tw_303 rfl dX9_tellEcho_68 ?_
  refine a_iload_n (pc := 71) hC dX9_tellEcho_71 rfl ?_
  refine a_callV (pc := 72) hC hR vm_X8_isLet tw_611 cl_X8 (oX_1 hX) ⟨(Nat.le_of_ble_eq_true rfl), (Nat.le_of_ble_eq_true rfl), (Nat.le_of_ble_eq_true rfl), (Nat.le_of_ble_eq_true rfl)⟩ dX9_tellEcho_72 (t_X8_isLet hX hC.tr _ _ _ h) rfl rfl rfl (Nat.le_of_ble_eq_true rfl) (fun r13 q14 h => ?_)
  have z_r13 := h.1
  replace h := h.2
  refine a_if_eq (pc := 75) (tgt := 128) hC dX9_tellEcho_75 (by decide) (fun c => ?_) (fun c => ?_)
  · replace h := h.1 c
    refine a_aload_n (pc := 128) hC dX9_tellEcho_128 rfl ?_
    refine a_get (pc := 129) hC cl_X9 (oX_0 hX) 7 (by decide) tw_309 rfl dX9_tellEcho_129 ?_
    refine a_sbLen (pc := 132) hg hC hR tw_1370 ⟨(Nat.le_of_ble_eq_true rfl), (Nat.le_of_ble_eq_true rfl), (Nat.le_of_ble_eq_true rfl), (Nat.le_of_ble_eq_true rfl)⟩ dX9_tellEcho_132 rfl (Nat.le_of_ble_eq_true rfl) ?_
    exact a_iret (pc := 135) hC hE h (Nat.le_of_ble_eq_true rfl) (Nat.le_of_ble_eq_true rfl) dX9_tellEcho_135
  · replace h := h.2 c
    refine a_aload_n (pc := 78) hC dX9_tellEcho_78 rfl ?_
    refine a_get (pc := 79) hC cl_X9 (oX_0 hX) 7 (by decide) tw_309 rfl dX9_tellEcho_79 ?_
    refine a_bipush (pc := 82) hC dX9_tellEcho_82 (v := 61) rfl ?_
    refine a_sbAppC (pc := 84) hg ht hC hR tw_1349 61 rfl (by decide) h.1 ⟨(Nat.le_of_ble_eq_true rfl), (Nat.le_of_ble_eq_true rfl), (Nat.le_of_ble_eq_true rfl), (Nat.le_of_ble_eq_true rfl)⟩ dX9_tellEcho_84 rfl (Nat.le_of_ble_eq_true rfl) ?_
    replace h := h.2 _ rfl
    refine a_aload_n (pc := 87) hC dX9_tellEcho_87 rfl ?_
    refine a_get (pc := 88) hC cl_X9 (oX_0 hX) 0 (by decide) tw_303 rfl dX9_tellEcho_88 ?_
    refine a_get (pc := 91) hC cl_X8 (oX_1 hX) 1 (by decide) tw_153 rfl dX9_tellEcho_91 ?_
    refine a_get (pc := 94) hC cl_X1 (oX_6 hX) 3 (by decide) tw_93 rfl dX9_tellEcho_94 ?_
    refine a_iload_n (pc := 97) hC dX9_tellEcho_97 rfl ?_
    refine a_iald (pc := 98) hC (oX_9 hX) h.1 dX9_tellEcho_98 ?_
    replace h := h.2
    obtain ⟨w18, hw18, hw181, hw182, h⟩ := h
    replace h := h _ rfl
    refine a_sbAppI (pc := 99) hg ht hC hR tw_1348 hw18 hw181 hw182 ⟨(Nat.le_of_ble_eq_true rfl), (Nat.le_of_ble_eq_true rfl), (Nat.le_of_ble_eq_true rfl), (Nat.le_of_ble_eq_true rfl)⟩ dX9_tellEcho_99 rfl (Nat.le_of_ble_eq_true rfl) ?_
    refine a_pop (pc := 102) hC dX9_tellEcho_102 rfl ?_
    refine a_aload_n (pc := 103) hC dX9_tellEcho_103 rfl ?_
    refine a_get (pc := 104) hC cl_X9 (oX_0 hX) 7 (by decide) tw_309 rfl dX9_tellEcho_104 ?_
    refine a_bipush (pc := 107) hC dX9_tellEcho_107 (v := 47) rfl ?_
    refine a_sbAppC (pc := 109) hg ht hC hR tw_1349 47 rfl (by decide) h.1 ⟨(Nat.le_of_ble_eq_true rfl), (Nat.le_of_ble_eq_true rfl), (Nat.le_of_ble_eq_true rfl), (Nat.le_of_ble_eq_true rfl)⟩ dX9_tellEcho_109 rfl (Nat.le_of_ble_eq_true rfl) ?_
    replace h := h.2 _ rfl
    refine a_aload_n (pc := 112) hC dX9_tellEcho_112 rfl ?_
    refine a_get (pc := 113) hC cl_X9 (oX_0 hX) 0 (by decide) tw_303 rfl dX9_tellEcho_113 ?_
    refine a_get (pc := 116) hC cl_X8 (oX_1 hX) 1 (by decide) tw_153 rfl dX9_tellEcho_116 ?_
    refine a_get (pc := 119) hC cl_X1 (oX_6 hX) 4 (by decide) tw_95 rfl dX9_tellEcho_119 ?_
    refine a_iload_n (pc := 122) hC dX9_tellEcho_122 rfl ?_
    refine a_iald (pc := 123) hC (oX_10 hX) h.1 dX9_tellEcho_123 ?_
    replace h := h.2
    obtain ⟨w21, hw21, hw211, hw212, h⟩ := h
    replace h := h _ rfl
    refine a_sbAppI (pc := 124) hg ht hC hR tw_1348 hw21 hw211 hw212 ⟨(Nat.le_of_ble_eq_true rfl), (Nat.le_of_ble_eq_true rfl), (Nat.le_of_ble_eq_true rfl), (Nat.le_of_ble_eq_true rfl)⟩ dX9_tellEcho_124 rfl (Nat.le_of_ble_eq_true rfl) ?_
    refine a_pop (pc := 127) hC dX9_tellEcho_127 rfl ?_
    refine a_aload_n (pc := 128) hC dX9_tellEcho_128 rfl ?_
    refine a_get (pc := 129) hC cl_X9 (oX_0 hX) 7 (by decide) tw_309 rfl dX9_tellEcho_129 ?_
    refine a_sbLen (pc := 132) hg hC hR tw_1370 ⟨(Nat.le_of_ble_eq_true rfl), (Nat.le_of_ble_eq_true rfl), (Nat.le_of_ble_eq_true rfl), (Nat.le_of_ble_eq_true rfl)⟩ dX9_tellEcho_132 rfl (Nat.le_of_ble_eq_true rfl) ?_
    exact a_iret (pc := 135) hC hE h (Nat.le_of_ble_eq_true rfl) (Nat.le_of_ble_eq_true rfl) dX9_tellEcho_135
set_option maxRecDepth 20000 in
theorem t_X9_tellSinger0 {l : Launch} {g : aG} {z : lP} {RS : va_W} (hg : g = lX z RS (gAd g 205)) (ht : z.2.1.map Prod.snd = tyX) (hX : isX g) (hl : l.stackTraces = false) (x1 : Int32) (q : aS) (P : Int32 → aS → Prop) (h : w_X9_tellSinger0 x1 q P) : aMi l g yX9_tellSinger (aWs yX9_tellSinger cX9_tellSinger 2 (some .int)) 6 8 960 [.ref (gAd g 0), .int x1] q P (fun _ _ => False) := by
  refine aMi_of RX9 ⟨by decide +kernel, rfl⟩ (cat_all rfl) (Nat.le_of_ble_eq_true rfl) hl hX.cl (fun f hR hC hE => ?_)
  show AW f g 0 [some (.ref (gAd g 0)), some (.int x1)] [] q 0 0
  unfold w_X9_tellSinger0 at h
  refine a_aload_n (pc := 0) hC dX9_tellSinger_0 rfl ?_
  refine a_iload_n (pc := 1) hC dX9_tellSinger_1 rfl ?_
  refine a_callVv (pc := 2) hC hR vm_X9_checkSinger tw_528 cl_X9 (oX_0 hX) ⟨(Nat.le_of_ble_eq_true rfl), (Nat.le_of_ble_eq_true rfl), (Nat.le_of_ble_eq_true rfl), (Nat.le_of_ble_eq_true rfl)⟩ dX9_tellSinger_2 (t_X9_checkSinger0 hX hC.tr _ _ _ h) rfl rfl rfl (Nat.le_of_ble_eq_true rfl) (fun q3 h => ?_)
  refine a_aload_n (pc := 5) hC dX9_tellSinger_5 rfl ?_
  refine a_get (pc := 6) hC cl_X9 (oX_0 hX) 7 (by decide) tw_309 rfl dX9_tellSinger_6 ?_
  refine a_iconst (pc := 9) hC dX9_tellSinger_9 (v := 0) rfl ?_
  refine a_sbSet0 (pc := 10) hg ht hC hR tw_1296 ⟨(Nat.le_of_ble_eq_true rfl), (Nat.le_of_ble_eq_true rfl), (Nat.le_of_ble_eq_true rfl), (Nat.le_of_ble_eq_true rfl)⟩ dX9_tellSinger_10 rfl (Nat.le_of_ble_eq_true rfl) ?_
  replace h := h _ rfl
  refine a_aload_n (pc := 13) hC dX9_tellSinger_13 rfl ?_
  refine a_get (pc := 14) hC cl_X9 (oX_0 hX) 7 (by decide) tw_309 rfl dX9_tellSinger_14 ?_
  refine a_iload_n (pc := 17) hC dX9_tellSinger_17 rfl ?_
  obtain ⟨w6, hw6, hw61, hw62, h⟩ := h
  replace h := h _ rfl
  refine a_sbAppI (pc := 18) hg ht hC hR tw_1348 hw6 hw61 hw62 ⟨(Nat.le_of_ble_eq_true rfl), (Nat.le_of_ble_eq_true rfl), (Nat.le_of_ble_eq_true rfl), (Nat.le_of_ble_eq_true rfl)⟩ dX9_tellSinger_18 rfl (Nat.le_of_ble_eq_true rfl) ?_
  refine a_bipush (pc := 21) hC dX9_tellSinger_21 (v := 33) rfl ?_
  refine a_sbAppC (pc := 23) hg ht hC hR tw_1349 33 rfl (by decide) h.1 ⟨(Nat.le_of_ble_eq_true rfl), (Nat.le_of_ble_eq_true rfl), (Nat.le_of_ble_eq_true rfl), (Nat.le_of_ble_eq_true rfl)⟩ dX9_tellSinger_23 rfl (Nat.le_of_ble_eq_true rfl) ?_
  replace h := h.2 _ rfl
  refine a_aload_n (pc := 26) hC dX9_tellSinger_26 rfl ?_
  refine a_get (pc := 27) hC cl_X9 (oX_0 hX) 0 (by decide) tw_303 rfl dX9_tellSinger_27 ?_
  refine a_get (pc := 30) hC cl_X8 (oX_1 hX) 2 (by decide) tw_155 rfl dX9_tellSinger_30 ?_
  refine a_get (pc := 33) hC cl_X7 (oX_12 hX) 1 (by decide) tw_124 rfl dX9_tellSinger_33 ?_
  refine a_iload_n (pc := 36) hC dX9_tellSinger_36 rfl ?_
  refine a_iald (pc := 37) hC (oX_13 hX) h.1 dX9_tellSinger_37 ?_
  replace h := h.2
  obtain ⟨w9, hw9, hw91, hw92, h⟩ := h
  replace h := h _ rfl
  refine a_sbAppI (pc := 38) hg ht hC hR tw_1348 hw9 hw91 hw92 ⟨(Nat.le_of_ble_eq_true rfl), (Nat.le_of_ble_eq_true rfl), (Nat.le_of_ble_eq_true rfl), (Nat.le_of_ble_eq_true rfl)⟩ dX9_tellSinger_38 rfl (Nat.le_of_ble_eq_true rfl) ?_
  refine a_pop (pc := 41) hC dX9_tellSinger_41 rfl ?_
  refine a_aload_n (pc := 42) hC dX9_tellSinger_42 rfl ?_
  refine a_get (pc := 43) hC cl_X9 (oX_0 hX) 7 (by decide) tw_309 rfl dX9_tellSinger_43 ?_
  refine a_bipush (pc := 46) hC dX9_tellSinger_46 (v := 37) rfl ?_
  refine a_sbAppC (pc := 48) hg ht hC hR tw_1349 37 rfl (by decide) h.1 ⟨(Nat.le_of_ble_eq_true rfl), (Nat.le_of_ble_eq_true rfl), (Nat.le_of_ble_eq_true rfl), (Nat.le_of_ble_eq_true rfl)⟩ dX9_tellSinger_48 rfl (Nat.le_of_ble_eq_true rfl) ?_
  replace h := h.2 _ rfl
  refine a_aload_n (pc := 51) hC dX9_tellSinger_51 rfl ?_
  refine a_get (pc := 52) hC cl_X9 (oX_0 hX) 0 (by decide) tw_303 rfl dX9_tellSinger_52 ?_
  refine a_get (pc := 55) hC cl_X8 (oX_1 hX) 2 (by decide) tw_155 rfl dX9_tellSinger_55 ?_
  refine a_get (pc := 58) hC cl_X7 (oX_12 hX) 2 (by decide) tw_127 rfl dX9_tellSinger_58 ?_
  refine a_iload_n (pc := 61) hC dX9_tellSinger_61 rfl ?_
  refine a_iald (pc := 62) hC (oX_14 hX) h.1 dX9_tellSinger_62 ?_
  replace h := h.2
  obtain ⟨w12, hw12, hw121, hw122, h⟩ := h
  replace h := h _ rfl
  refine a_sbAppI (pc := 63) hg ht hC hR tw_1348 hw12 hw121 hw122 ⟨(Nat.le_of_ble_eq_true rfl), (Nat.le_of_ble_eq_true rfl), (Nat.le_of_ble_eq_true rfl), (Nat.le_of_ble_eq_true rfl)⟩ dX9_tellSinger_63 rfl (Nat.le_of_ble_eq_true rfl) ?_
  refine a_pop (pc := 66) hC dX9_tellSinger_66 rfl ?_
  refine a_aload_n (pc := 67) hC dX9_tellSinger_67 rfl ?_
  refine a_get (pc := 68) hC cl_X9 (oX_0 hX) 0 (by decide) tw_303 rfl dX9_tellSinger_68 ?_
  refine a_iload_n (pc := 71) hC dX9_tellSinger_71 rfl ?_
  refine a_callV (pc := 72) hC hR vm_X8_isInside tw_548 cl_X8 (oX_1 hX) ⟨(Nat.le_of_ble_eq_true rfl), (Nat.le_of_ble_eq_true rfl), (Nat.le_of_ble_eq_true rfl), (Nat.le_of_ble_eq_true rfl)⟩ dX9_tellSinger_72 (t_X8_isInside hX hC.tr _ _ _ h) rfl rfl rfl (Nat.le_of_ble_eq_true rfl) (fun r13 q14 h => ?_)
  have z_r13 := h.1
  replace h := h.2
  refine a_if_eq (pc := 75) (tgt := 103) hC dX9_tellSinger_75 (by decide) (fun c => ?_) (fun c => ?_)
  · replace h := h.1 c
    refine a_aload_n (pc := 103) hC dX9_tellSinger_103 rfl ?_
    refine a_get (pc := 104) hC cl_X9 (oX_0 hX) 7 (by decide) tw_309 rfl dX9_tellSinger_104 ?_
    refine a_sbLen (pc := 107) hg hC hR tw_1370 ⟨(Nat.le_of_ble_eq_true rfl), (Nat.le_of_ble_eq_true rfl), (Nat.le_of_ble_eq_true rfl), (Nat.le_of_ble_eq_true rfl)⟩ dX9_tellSinger_107 rfl (Nat.le_of_ble_eq_true rfl) ?_
    exact a_iret (pc := 110) hC hE h (Nat.le_of_ble_eq_true rfl) (Nat.le_of_ble_eq_true rfl) dX9_tellSinger_110
  · replace h := h.2 c
    refine a_aload_n (pc := 78) hC dX9_tellSinger_78 rfl ?_
    refine a_get (pc := 79) hC cl_X9 (oX_0 hX) 7 (by decide) tw_309 rfl dX9_tellSinger_79 ?_
    refine a_bipush (pc := 82) hC dX9_tellSinger_82 (v := 64) rfl ?_
    refine a_sbAppC (pc := 84) hg ht hC hR tw_1349 64 rfl (by decide) h.1 ⟨(Nat.le_of_ble_eq_true rfl), (Nat.le_of_ble_eq_true rfl), (Nat.le_of_ble_eq_true rfl), (Nat.le_of_ble_eq_true rfl)⟩ dX9_tellSinger_84 rfl (Nat.le_of_ble_eq_true rfl) ?_
    replace h := h.2 _ rfl
    refine a_aload_n (pc := 87) hC dX9_tellSinger_87 rfl ?_
    refine a_get (pc := 88) hC cl_X9 (oX_0 hX) 0 (by decide) tw_303 rfl dX9_tellSinger_88 ?_
    refine a_get (pc := 91) hC cl_X8 (oX_1 hX) 2 (by decide) tw_155 rfl dX9_tellSinger_91 ?_
    refine a_get (pc := 94) hC cl_X7 (oX_12 hX) 3 (by decide) tw_130 rfl dX9_tellSinger_94 ?_
    refine a_iload_n (pc := 97) hC dX9_tellSinger_97 rfl ?_
    refine a_iald (pc := 98) hC (oX_15 hX) h.1 dX9_tellSinger_98 ?_
    replace h := h.2
    obtain ⟨w18, hw18, hw181, hw182, h⟩ := h
    replace h := h _ rfl
    refine a_sbAppI (pc := 99) hg ht hC hR tw_1348 hw18 hw181 hw182 ⟨(Nat.le_of_ble_eq_true rfl), (Nat.le_of_ble_eq_true rfl), (Nat.le_of_ble_eq_true rfl), (Nat.le_of_ble_eq_true rfl)⟩ dX9_tellSinger_99 rfl (Nat.le_of_ble_eq_true rfl) ?_
    refine a_pop (pc := 102) hC dX9_tellSinger_102 rfl ?_
    refine a_aload_n (pc := 103) hC dX9_tellSinger_103 rfl ?_
    refine a_get (pc := 104) hC cl_X9 (oX_0 hX) 7 (by decide) tw_309 rfl dX9_tellSinger_104 ?_
    refine a_sbLen (pc := 107) hg hC hR tw_1370 ⟨(Nat.le_of_ble_eq_true rfl), (Nat.le_of_ble_eq_true rfl), (Nat.le_of_ble_eq_true rfl), (Nat.le_of_ble_eq_true rfl)⟩ dX9_tellSinger_107 rfl (Nat.le_of_ble_eq_true rfl) ?_
    exact a_iret (pc := 110) hC hE h (Nat.le_of_ble_eq_true rfl) (Nat.le_of_ble_eq_true rfl) dX9_tellSinger_110
set_option maxRecDepth 20000 in
theorem tJX9_character0_15 {f : aF} {g : aG} {z : lP} {RS : va_W} (hg : g = lX z RS (gAd g 205)) (ht : z.2.1.map Prod.snd = tyX) (hX : isX g) (P : Int32 → aS → Prop) (hR : f_R f = aR 6 0 0) (hC : aOK f g cX9_character 2 RX9) (hE : aEi f g .char P (fun _ _ => False) 0 0) (q : aS) (h : JX9_character0_15 P q) : AW f g 15 [none, none] [] q 0 0 := by
  unfold JX9_character0_15 at h
  exact h.elim
set_option maxRecDepth 20000 in
theorem t_X9_character0 {l : Launch} {g : aG} {z : lP} {RS : va_W} (hg : g = lX z RS (gAd g 205)) (ht : z.2.1.map Prod.snd = tyX) (hX : isX g) (hl : l.stackTraces = false) (x1 : Int32) (q : aS) (P : Int32 → aS → Prop) (h : w_X9_character0 x1 q P) : aMi l g yX9_character (aWs yX9_character cX9_character 2 (some .char)) 6 0 0 [.ref (gAd g 0), .int x1] q P (fun _ _ => False) := by
  refine aMi_of RX9 ⟨by decide +kernel, rfl⟩ (cat_all rfl) (Nat.le_of_ble_eq_true rfl) hl hX.cl (fun f hR hC hE => ?_)
  show AW f g 0 [some (.ref (gAd g 0)), some (.int x1)] [] q 0 0
  unfold w_X9_character0 at h
  refine a_iload_n (pc := 0) hC dX9_character_0 rfl ?_
  refine a_if_lt (pc := 1) (tgt := 15) hC dX9_character_1 (by decide) (fun c => ?_) (fun c => ?_)
  · replace h := h.1 c
    exact (tJX9_character0_15 hg ht hX P hR hC hE _ h).forget trivial
  · replace h := h.2 c
    refine a_iload_n (pc := 4) hC dX9_character_4 rfl ?_
    refine a_aload_n (pc := 5) hC dX9_character_5 rfl ?_
    refine a_get (pc := 6) hC cl_X9 (oX_0 hX) 7 (by decide) tw_309 rfl dX9_character_6 ?_
    refine a_sbLen (pc := 9) hg hC hR tw_1370 ⟨(Nat.le_of_ble_eq_true rfl), (Nat.le_of_ble_eq_true rfl), (Nat.le_of_ble_eq_true rfl), (Nat.le_of_ble_eq_true rfl)⟩ dX9_character_9 rfl (Nat.le_of_ble_eq_true rfl) ?_
    refine a_icmp_lt (pc := 12) (tgt := 26) hC dX9_character_12 (by decide) (fun c => ?_) (fun c => ?_)
    · replace h := h.1 c
      refine a_aload_n (pc := 26) hC dX9_character_26 rfl ?_
      refine a_get (pc := 27) hC cl_X9 (oX_0 hX) 7 (by decide) tw_309 rfl dX9_character_27 ?_
      refine a_iload_n (pc := 30) hC dX9_character_30 rfl ?_
      obtain ⟨w4, hw4, hw41, hw42, h⟩ := h
      refine a_sbChar (pc := 31) hg ht hC hR tw_1380 hw4 hw41 hw42 ⟨(Nat.le_of_ble_eq_true rfl), (Nat.le_of_ble_eq_true rfl), (Nat.le_of_ble_eq_true rfl), (Nat.le_of_ble_eq_true rfl)⟩ dX9_character_31 rfl (Nat.le_of_ble_eq_true rfl) ?_
      exact a_cret (pc := 34) hC hE h.1 h.2 (Nat.le_of_ble_eq_true rfl) (Nat.le_of_ble_eq_true rfl) dX9_character_34
    · replace h := h.2 c
      exact (tJX9_character0_15 hg ht hX P hR hC hE _ h).forget trivial

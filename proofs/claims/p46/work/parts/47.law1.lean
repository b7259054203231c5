/-! the law: numbers of the script, deeds and questions -/
theorem dL_cell_0 : decode cL_cell 0 = .ok (.ldc 7, 2) := by decide +kernel
theorem dL_cell_2 : decode cL_cell 2 = .ok (.iload_n 1, 1) := by decide +kernel
theorem dL_cell_3 : decode cL_cell 3 = .ok (.aload_n 0, 1) := by decide +kernel
theorem dL_cell_4 : decode cL_cell 4 = .ok (.arraylength, 1) := by decide +kernel
theorem dL_cell_5 : decode cL_cell 5 = .ok (.if_icmp .ge 9, 3) := by decide +kernel
theorem dL_cell_8 : decode cL_cell 8 = .ok (.aload_n 0, 1) := by decide +kernel
theorem dL_cell_9 : decode cL_cell 9 = .ok (.iload_n 1, 1) := by decide +kernel
theorem dL_cell_10 : decode cL_cell 10 = .ok (.iaload, 1) := by decide +kernel
theorem dL_cell_11 : decode cL_cell 11 = .ok (.goto 4, 3) := by decide +kernel
theorem dL_cell_14 : decode cL_cell 14 = .ok (.iconst 0, 1) := by decide +kernel
theorem dL_cell_15 : decode cL_cell 15 = .ok (.sipush 1009, 3) := by decide +kernel
theorem dL_cell_18 : decode cL_cell 18 = .ok (.iload_n 1, 1) := by decide +kernel
theorem dL_cell_19 : decode cL_cell 19 = .ok (.imul, 1) := by decide +kernel
theorem dL_cell_20 : decode cL_cell 20 = .ok (.iadd, 1) := by decide +kernel
theorem dL_cell_21 : decode cL_cell 21 = .ok (.imul, 1) := by decide +kernel
theorem dL_cell_22 : decode cL_cell 22 = .ok (.sipush 12345, 3) := by decide +kernel
theorem dL_cell_25 : decode cL_cell 25 = .ok (.iadd, 1) := by decide +kernel
theorem dL_cell_26 : decode cL_cell 26 = .ok (.istore_n 2, 1) := by decide +kernel
theorem dL_cell_27 : decode cL_cell 27 = .ok (.iload_n 2, 1) := by decide +kernel
theorem dL_cell_28 : decode cL_cell 28 = .ok (.iload_n 2, 1) := by decide +kernel
theorem dL_cell_29 : decode cL_cell 29 = .ok (.bipush 13, 2) := by decide +kernel
theorem dL_cell_31 : decode cL_cell 31 = .ok (.iushr, 1) := by decide +kernel
theorem dL_cell_32 : decode cL_cell 32 = .ok (.ixor, 1) := by decide +kernel
theorem dL_cell_33 : decode cL_cell 33 = .ok (.ldc 8, 2) := by decide +kernel
theorem dL_cell_35 : decode cL_cell 35 = .ok (.imul, 1) := by decide +kernel
theorem dL_cell_36 : decode cL_cell 36 = .ok (.istore_n 2, 1) := by decide +kernel
theorem dL_cell_37 : decode cL_cell 37 = .ok (.iload_n 2, 1) := by decide +kernel
theorem dL_cell_38 : decode cL_cell 38 = .ok (.iload_n 2, 1) := by decide +kernel
theorem dL_cell_39 : decode cL_cell 39 = .ok (.bipush 16, 2) := by decide +kernel
theorem dL_cell_41 : decode cL_cell 41 = .ok (.iushr, 1) := by decide +kernel
theorem dL_cell_42 : decode cL_cell 42 = .ok (.ixor, 1) := by decide +kernel
theorem dL_cell_43 : decode cL_cell 43 = .ok (.ireturn, 1) := by decide +kernel
theorem sm_L_cell : aSm yL_cell cL_cell 3 (some .int) 2 := ⟨tw_669, tw_668, tw_0, by decide +kernel, by decide +kernel, by decide +kernel⟩
theorem dL_pick_0 : decode cL_pick 0 = .ok (.aload_n 0, 1) := by decide +kernel
theorem dL_pick_1 : decode cL_pick 1 = .ok (.iload_n 1, 1) := by decide +kernel
theorem dL_pick_2 : decode cL_pick 2 = .ok (.invokestatic 9, 3) := by decide +kernel
theorem dL_pick_5 : decode cL_pick 5 = .ok (.bipush 8, 2) := by decide +kernel
theorem dL_pick_7 : decode cL_pick 7 = .ok (.iushr, 1) := by decide +kernel
theorem dL_pick_8 : decode cL_pick 8 = .ok (.iload_n 2, 1) := by decide +kernel
theorem dL_pick_9 : decode cL_pick 9 = .ok (.irem, 1) := by decide +kernel
theorem dL_pick_10 : decode cL_pick 10 = .ok (.ireturn, 1) := by decide +kernel
theorem sm_L_pick : aSm yL_pick cL_pick 3 (some .int) 3 := ⟨tw_666, tw_665, tw_0, by decide +kernel, by decide +kernel, by decide +kernel⟩
theorem dL_plain_0 : decode cL_plain 0 = .ok (.iload_n 1, 1) := by decide +kernel
theorem dL_plain_1 : decode cL_plain 1 = .ok (.tableswitch 122 0 9 #[55, 61, 68, 75, 82, 88, 95, 104, 111, 117], 55) := by decide +kernel
theorem dL_plain_56 : decode cL_plain 56 = .ok (.aload_n 0, 1) := by decide +kernel
theorem dL_plain_57 : decode cL_plain 57 = .ok (.iload_n 2, 1) := by decide +kernel
theorem dL_plain_58 : decode cL_plain 58 = .ok (.invokevirtual 31, 3) := by decide +kernel
theorem dL_plain_61 : decode cL_plain 61 = .ok (.ireturn, 1) := by decide +kernel
theorem dL_plain_62 : decode cL_plain 62 = .ok (.aload_n 0, 1) := by decide +kernel
theorem dL_plain_63 : decode cL_plain 63 = .ok (.iload_n 2, 1) := by decide +kernel
theorem dL_plain_64 : decode cL_plain 64 = .ok (.iload_n 3, 1) := by decide +kernel
theorem dL_plain_65 : decode cL_plain 65 = .ok (.invokevirtual 35, 3) := by decide +kernel
theorem dL_plain_68 : decode cL_plain 68 = .ok (.ireturn, 1) := by decide +kernel
theorem dL_plain_69 : decode cL_plain 69 = .ok (.aload_n 0, 1) := by decide +kernel
theorem dL_plain_70 : decode cL_plain 70 = .ok (.iload_n 2, 1) := by decide +kernel
theorem dL_plain_71 : decode cL_plain 71 = .ok (.iload_n 3, 1) := by decide +kernel
theorem dL_plain_72 : decode cL_plain 72 = .ok (.invokevirtual 39, 3) := by decide +kernel
theorem dL_plain_75 : decode cL_plain 75 = .ok (.ireturn, 1) := by decide +kernel
theorem dL_plain_76 : decode cL_plain 76 = .ok (.aload_n 0, 1) := by decide +kernel
theorem dL_plain_77 : decode cL_plain 77 = .ok (.iload_n 2, 1) := by decide +kernel
theorem dL_plain_78 : decode cL_plain 78 = .ok (.iload_n 3, 1) := by decide +kernel
theorem dL_plain_79 : decode cL_plain 79 = .ok (.invokevirtual 42, 3) := by decide +kernel
theorem dL_plain_82 : decode cL_plain 82 = .ok (.ireturn, 1) := by decide +kernel
theorem dL_plain_83 : decode cL_plain 83 = .ok (.aload_n 0, 1) := by decide +kernel
theorem dL_plain_84 : decode cL_plain 84 = .ok (.iload_n 2, 1) := by decide +kernel
theorem dL_plain_85 : decode cL_plain 85 = .ok (.invokevirtual 45, 3) := by decide +kernel
theorem dL_plain_88 : decode cL_plain 88 = .ok (.ireturn, 1) := by decide +kernel
theorem dL_plain_89 : decode cL_plain 89 = .ok (.aload_n 0, 1) := by decide +kernel
theorem dL_plain_90 : decode cL_plain 90 = .ok (.iload_n 2, 1) := by decide +kernel
theorem dL_plain_91 : decode cL_plain 91 = .ok (.iload_n 3, 1) := by decide +kernel
theorem dL_plain_92 : decode cL_plain 92 = .ok (.invokevirtual 48, 3) := by decide +kernel
theorem dL_plain_95 : decode cL_plain 95 = .ok (.ireturn, 1) := by decide +kernel
theorem dL_plain_96 : decode cL_plain 96 = .ok (.aload_n 0, 1) := by decide +kernel
theorem dL_plain_97 : decode cL_plain 97 = .ok (.iload_n 2, 1) := by decide +kernel
theorem dL_plain_98 : decode cL_plain 98 = .ok (.iload_n 3, 1) := by decide +kernel
theorem dL_plain_99 : decode cL_plain 99 = .ok (.iload 4, 2) := by decide +kernel
theorem dL_plain_101 : decode cL_plain 101 = .ok (.invokevirtual 51, 3) := by decide +kernel
theorem dL_plain_104 : decode cL_plain 104 = .ok (.ireturn, 1) := by decide +kernel
theorem dL_plain_105 : decode cL_plain 105 = .ok (.aload_n 0, 1) := by decide +kernel
theorem dL_plain_106 : decode cL_plain 106 = .ok (.iload_n 2, 1) := by decide +kernel
theorem dL_plain_107 : decode cL_plain 107 = .ok (.iload_n 3, 1) := by decide +kernel
theorem dL_plain_108 : decode cL_plain 108 = .ok (.invokevirtual 55, 3) := by decide +kernel
theorem dL_plain_111 : decode cL_plain 111 = .ok (.ireturn, 1) := by decide +kernel
theorem dL_plain_112 : decode cL_plain 112 = .ok (.aload_n 0, 1) := by decide +kernel
theorem dL_plain_113 : decode cL_plain 113 = .ok (.iload_n 2, 1) := by decide +kernel
theorem dL_plain_114 : decode cL_plain 114 = .ok (.invokevirtual 58, 3) := by decide +kernel
theorem dL_plain_117 : decode cL_plain 117 = .ok (.ireturn, 1) := by decide +kernel
theorem dL_plain_118 : decode cL_plain 118 = .ok (.aload_n 0, 1) := by decide +kernel
theorem dL_plain_119 : decode cL_plain 119 = .ok (.invokevirtual 61, 3) := by decide +kernel
theorem dL_plain_122 : decode cL_plain 122 = .ok (.ireturn, 1) := by decide +kernel
theorem dL_plain_123 : decode cL_plain 123 = .ok (.aload_n 0, 1) := by decide +kernel
theorem dL_plain_124 : decode cL_plain 124 = .ok (.invokevirtual 64, 3) := by decide +kernel
theorem dL_plain_127 : decode cL_plain 127 = .ok (.ireturn, 1) := by decide +kernel
theorem sm_L_plain : aSm yL_plain cL_plain 5 (some .int) 5 := ⟨tw_678, tw_677, tw_0, by decide +kernel, by decide +kernel, by decide +kernel⟩
theorem dL_asked_0 : decode cL_asked 0 = .ok (.iload_n 1, 1) := by decide +kernel
theorem dL_asked_1 : decode cL_asked 1 = .ok (.tableswitch 130 0 10 #[59, 66, 73, 80, 86, 92, 99, 105, 111, 117, 124], 59) := by decide +kernel
theorem dL_asked_60 : decode cL_asked 60 = .ok (.aload_n 0, 1) := by decide +kernel
theorem dL_asked_61 : decode cL_asked 61 = .ok (.iload_n 2, 1) := by decide +kernel
theorem dL_asked_62 : decode cL_asked 62 = .ok (.iload_n 3, 1) := by decide +kernel
theorem dL_asked_63 : decode cL_asked 63 = .ok (.invokevirtual 75, 3) := by decide +kernel
theorem dL_asked_66 : decode cL_asked 66 = .ok (.ireturn, 1) := by decide +kernel
theorem dL_asked_67 : decode cL_asked 67 = .ok (.aload_n 0, 1) := by decide +kernel
theorem dL_asked_68 : decode cL_asked 68 = .ok (.iload_n 2, 1) := by decide +kernel
theorem dL_asked_69 : decode cL_asked 69 = .ok (.iload_n 3, 1) := by decide +kernel
theorem dL_asked_70 : decode cL_asked 70 = .ok (.invokevirtual 78, 3) := by decide +kernel
theorem dL_asked_73 : decode cL_asked 73 = .ok (.ireturn, 1) := by decide +kernel
theorem dL_asked_74 : decode cL_asked 74 = .ok (.aload_n 0, 1) := by decide +kernel
theorem dL_asked_75 : decode cL_asked 75 = .ok (.iload_n 2, 1) := by decide +kernel
theorem dL_asked_76 : decode cL_asked 76 = .ok (.iload_n 3, 1) := by decide +kernel
theorem dL_asked_77 : decode cL_asked 77 = .ok (.invokevirtual 81, 3) := by decide +kernel
theorem dL_asked_80 : decode cL_asked 80 = .ok (.ireturn, 1) := by decide +kernel
theorem dL_asked_81 : decode cL_asked 81 = .ok (.aload_n 0, 1) := by decide +kernel
theorem dL_asked_82 : decode cL_asked 82 = .ok (.iload_n 2, 1) := by decide +kernel
theorem dL_asked_83 : decode cL_asked 83 = .ok (.invokevirtual 84, 3) := by decide +kernel
theorem dL_asked_86 : decode cL_asked 86 = .ok (.ireturn, 1) := by decide +kernel
theorem dL_asked_87 : decode cL_asked 87 = .ok (.aload_n 0, 1) := by decide +kernel
theorem dL_asked_88 : decode cL_asked 88 = .ok (.iload_n 2, 1) := by decide +kernel
theorem dL_asked_89 : decode cL_asked 89 = .ok (.invokevirtual 87, 3) := by decide +kernel
theorem dL_asked_92 : decode cL_asked 92 = .ok (.ireturn, 1) := by decide +kernel
theorem dL_asked_93 : decode cL_asked 93 = .ok (.aload_n 0, 1) := by decide +kernel
theorem dL_asked_94 : decode cL_asked 94 = .ok (.iload_n 2, 1) := by decide +kernel
theorem dL_asked_95 : decode cL_asked 95 = .ok (.iload_n 3, 1) := by decide +kernel
theorem dL_asked_96 : decode cL_asked 96 = .ok (.invokevirtual 90, 3) := by decide +kernel
theorem dL_asked_99 : decode cL_asked 99 = .ok (.ireturn, 1) := by decide +kernel
theorem dL_asked_100 : decode cL_asked 100 = .ok (.aload_n 0, 1) := by decide +kernel
theorem dL_asked_101 : decode cL_asked 101 = .ok (.iload_n 2, 1) := by decide +kernel
theorem dL_asked_102 : decode cL_asked 102 = .ok (.invokevirtual 93, 3) := by decide +kernel
theorem dL_asked_105 : decode cL_asked 105 = .ok (.ireturn, 1) := by decide +kernel
theorem dL_asked_106 : decode cL_asked 106 = .ok (.aload_n 0, 1) := by decide +kernel
theorem dL_asked_107 : decode cL_asked 107 = .ok (.iload_n 2, 1) := by decide +kernel
theorem dL_asked_108 : decode cL_asked 108 = .ok (.invokevirtual 96, 3) := by decide +kernel
theorem dL_asked_111 : decode cL_asked 111 = .ok (.ireturn, 1) := by decide +kernel
theorem dL_asked_112 : decode cL_asked 112 = .ok (.aload_n 0, 1) := by decide +kernel
theorem dL_asked_113 : decode cL_asked 113 = .ok (.iload_n 2, 1) := by decide +kernel
theorem dL_asked_114 : decode cL_asked 114 = .ok (.invokevirtual 99, 3) := by decide +kernel
theorem dL_asked_117 : decode cL_asked 117 = .ok (.ireturn, 1) := by decide +kernel
theorem dL_asked_118 : decode cL_asked 118 = .ok (.aload_n 0, 1) := by decide +kernel
theorem dL_asked_119 : decode cL_asked 119 = .ok (.iload_n 2, 1) := by decide +kernel
theorem dL_asked_120 : decode cL_asked 120 = .ok (.iload_n 3, 1) := by decide +kernel
theorem dL_asked_121 : decode cL_asked 121 = .ok (.invokevirtual 102, 3) := by decide +kernel
theorem dL_asked_124 : decode cL_asked 124 = .ok (.ireturn, 1) := by decide +kernel
theorem dL_asked_125 : decode cL_asked 125 = .ok (.aload_n 0, 1) := by decide +kernel
theorem dL_asked_126 : decode cL_asked 126 = .ok (.iload_n 2, 1) := by decide +kernel
theorem dL_asked_127 : decode cL_asked 127 = .ok (.invokevirtual 105, 3) := by decide +kernel
theorem dL_asked_130 : decode cL_asked 130 = .ok (.ireturn, 1) := by decide +kernel
theorem dL_asked_131 : decode cL_asked 131 = .ok (.aload_n 0, 1) := by decide +kernel
theorem dL_asked_132 : decode cL_asked 132 = .ok (.iload_n 2, 1) := by decide +kernel
theorem dL_asked_133 : decode cL_asked 133 = .ok (.iload_n 3, 1) := by decide +kernel
theorem dL_asked_134 : decode cL_asked 134 = .ok (.iconst 1, 1) := by decide +kernel
theorem dL_asked_135 : decode cL_asked 135 = .ok (.if_icmp .ne 7, 3) := by decide +kernel
theorem dL_asked_138 : decode cL_asked 138 = .ok (.iconst 1, 1) := by decide +kernel
theorem dL_asked_139 : decode cL_asked 139 = .ok (.goto 4, 3) := by decide +kernel
theorem dL_asked_142 : decode cL_asked 142 = .ok (.iconst 0, 1) := by decide +kernel
theorem dL_asked_143 : decode cL_asked 143 = .ok (.invokevirtual 108, 3) := by decide +kernel
theorem dL_asked_146 : decode cL_asked 146 = .ok (.ireturn, 1) := by decide +kernel
theorem sm_L_asked : aSm yL_asked cL_asked 4 (some .int) 4 := ⟨tw_461, tw_460, tw_0, by decide +kernel, by decide +kernel, by decide +kernel⟩
def JL_cell_15 (sa : Nat) (sn : Nat) (xs : Nat → Int32) (j1 : Int32) (s0 : Int32) (s1 : Int32) (P : Int32 → aS → Prop) (q : aS) : Prop := ∀ x2 : Int32, x2 = ((s1 * (s0 + (1009 * j1))) + 12345) → ∀ x3 : Int32, x3 = ((x2 ^^^ (ushr x2 13)) * 1103515245) → P (x3 ^^^ (ushr x3 16)) q
def w_L_cell (sa : Nat) (sn : Nat) (xs : Nat → Int32) (x1 : Int32) (q : aS) (P : Int32 → aS → Prop) : Prop := (((Int32.ofNat sn) ≤ x1 → JL_cell_15 sa sn xs x1 0 69069 P q) ∧ (¬ (Int32.ofNat sn) ≤ x1 → (vp_in x1 sn ∧ JL_cell_15 sa sn xs x1 (xs (Int32.toNatClampNeg x1)) 69069 P q)))
def w_L_pick (sa : Nat) (sn : Nat) (xs : Nat → Int32) (x1 : Int32) (x2 : Int32) (q : aS) (P : Int32 → aS → Prop) : Prop := w_L_cell sa sn xs x1 q (fun r3 q4 => ¬ x2 = 0 ∧ P ((ushr r3 8) - (ushr r3 8) / x2 * x2) q4)
def w_L_plain (x1 : Int32) (x2 : Int32) (x3 : Int32) (x4 : Int32) (q : aS) (P : Int32 → aS → Prop) (X : String → aS → Prop) : Prop := ((x1 = 0 → w_X9_room x2 q (fun r5 q6 => P r5 q6) X) ∧ (¬ x1 = 0 → ((x1 = 1 → w_X9_echo x2 x3 q (fun r7 q8 => P r7 q8) X) ∧ (¬ x1 = 1 → ((x1 = 2 → w_X9_singer x2 x3 q (fun r9 q10 => P r9 q10) X) ∧ (¬ x1 = 2 → ((x1 = 3 → w_X9_enter x2 x3 q (fun r11 q12 => P r11 q12) X) ∧ (¬ x1 = 3 → ((x1 = 4 → w_X9_out x2 q (fun r13 q14 => P r13 q14) X) ∧ (¬ x1 = 4 → ((x1 = 5 → w_X9_carry x2 x3 q (fun r15 q16 => P r15 q16) X) ∧ (¬ x1 = 5 → ((x1 = 6 → w_X9_rent x2 x3 x4 q (fun r17 q18 => P r17 q18) X) ∧ (¬ x1 = 6 → ((x1 = 7 → w_X9_back x2 x3 q (fun r19 q20 => P r19 q20) X) ∧ (¬ x1 = 7 → ((x1 = 8 → w_X9_sing x2 q (fun r21 q22 => P r21 q22) X) ∧ (¬ x1 = 8 → ((x1 = 9 → w_X9_night q (fun r23 q24 => P r23 q24)) ∧ (¬ x1 = 9 → False))))))))))))))))))))
def w_L_asked (x1 : Int32) (x2 : Int32) (x3 : Int32) (q : aS) (P : Int32 → aS → Prop) (X : String → aS → Prop) : Prop := ((x1 = 0 → w_X9_roomOf x2 x3 q (fun r4 q5 => P r4 q5) X) ∧ (¬ x1 = 0 → ((x1 = 1 → w_X9_echoOf x2 x3 q (fun r6 q7 => P r6 q7) X) ∧ (¬ x1 = 1 → ((x1 = 2 → w_X9_singerOf x2 x3 q (fun r8 q9 => P r8 q9) X) ∧ (¬ x1 = 2 → ((x1 = 3 → w_X9_tones x2 q (fun r10 q11 => P r10 q11) X) ∧ (¬ x1 = 3 → ((x1 = 4 → w_X9_verses x2 q (fun r12 q13 => P r12 q13) X) ∧ (¬ x1 = 4 → ((x1 = 5 → w_X9_would x2 x3 q (fun r14 q15 => P r14 q15) X) ∧ (¬ x1 = 5 → ((x1 = 6 → w_X9_bestRoom x2 q (fun r16 q17 => P r16 q17) X) ∧ (¬ x1 = 6 → ((x1 = 7 → w_X9_backFor x2 q (fun r18 q19 => P r18 q19) X) ∧ (¬ x1 = 7 → ((x1 = 8 → w_X9_dampest x2 q (fun r20 q21 => P r20 q21) X) ∧ (¬ x1 = 8 → ((x1 = 9 → w_X9_ranked x2 x3 q (fun r22 q23 => P r22 q23) X) ∧ (¬ x1 = 9 → ((x1 = 10 → w_X9_strongest x2 q (fun r24 q25 => P r24 q25) X) ∧ (¬ x1 = 10 → ((¬ x3 = 1 → False) ∧ (x3 = 1 → False))))))))))))))))))))))))
set_option maxRecDepth 20000 in
theorem tJL_cell_15 {f : aF} {g : aG} (hX : isX g) (sa : Nat) (sn : Nat) (xs : Nat → Int32) (hS : isScr sa sn xs g) (P : Int32 → aS → Prop) (hR : f_R f = aR 0 0 0) (hC : aOK f g cL_cell 3 RL) (hE : aEi f g .int P (fun _ _ => False) 0 0) (j1 : Int32) (s0 : Int32) (s1 : Int32) (q : aS) (h : JL_cell_15 sa sn xs j1 s0 s1 P q) : AW f g 15 [none, some (.int j1), none] [.int s0, .int s1] q 0 0 := by
  unfold JL_cell_15 at h
  refine a_sipush (pc := 15) hC dL_cell_15 (v := 1009) rfl ?_
  refine a_iload_n (pc := 18) hC dL_cell_18 rfl ?_
  refine a_imul (pc := 19) hC dL_cell_19 ?_
  refine a_iadd (pc := 20) hC dL_cell_20 ?_
  refine a_imul (pc := 21) hC dL_cell_21 ?_
  refine a_sipush (pc := 22) hC dL_cell_22 (v := 12345) rfl ?_
  refine a_iadd (pc := 25) hC dL_cell_25 ?_
  refine a_istore_n (pc := 26) hC dL_cell_26 (Nat.le_of_ble_eq_true rfl) ?_
  replace h := h _ rfl
  refine a_iload_n (pc := 27) hC dL_cell_27 rfl ?_
  refine a_iload_n (pc := 28) hC dL_cell_28 rfl ?_
  refine a_bipush (pc := 29) hC dL_cell_29 (v := 13) rfl ?_
  refine a_iushr (pc := 31) hC dL_cell_31 ?_
  refine a_ixor (pc := 32) hC dL_cell_32 ?_
  refine a_ldcI (pc := 33) hC tw_671 dL_cell_33 ?_
  refine a_imul (pc := 35) hC dL_cell_35 ?_
  refine a_istore_n (pc := 36) hC dL_cell_36 (Nat.le_of_ble_eq_true rfl) ?_
  replace h := h _ rfl
  refine a_iload_n (pc := 37) hC dL_cell_37 rfl ?_
  refine a_iload_n (pc := 38) hC dL_cell_38 rfl ?_
  refine a_bipush (pc := 39) hC dL_cell_39 (v := 16) rfl ?_
  refine a_iushr (pc := 41) hC dL_cell_41 ?_
  refine a_ixor (pc := 42) hC dL_cell_42 ?_
  exact a_iret (pc := 43) hC hE h (Nat.le_of_ble_eq_true rfl) (Nat.le_of_ble_eq_true rfl) dL_cell_43
set_option maxRecDepth 20000 in
theorem t_L_cell {l : Launch} {g : aG} (hX : isX g) (sa : Nat) (sn : Nat) (xs : Nat → Int32) (hS : isScr sa sn xs g) (hl : l.stackTraces = false) (x1 : Int32) (q : aS) (P : Int32 → aS → Prop) (h : w_L_cell sa sn xs x1 q P) : aMi l g yL_cell (aWs yL_cell cL_cell 3 (some .int)) 0 0 0 [.ref sa, .int x1] q P (fun _ _ => False) := by
  refine aMi_of RL ⟨by decide +kernel, rfl⟩ (cat_all rfl) (Nat.le_of_ble_eq_true rfl) hl hX.cl (fun f hR hC hE => ?_)
  show AW f g 0 [some (.ref sa), some (.int x1), none] [] q 0 0
  unfold w_L_cell at h
  refine a_ldcI (pc := 0) hC tw_670 dL_cell_0 ?_
  refine a_iload_n (pc := 2) hC dL_cell_2 rfl ?_
  refine a_aload_n (pc := 3) hC dL_cell_3 rfl ?_
  refine a_slen (pc := 4) hS hC dL_cell_4 ?_
  refine a_icmp_ge (pc := 5) (tgt := 14) hC dL_cell_5 (by decide) (fun c => ?_) (fun c => ?_)
  · replace h := h.1 c
    refine a_iconst (pc := 14) hC dL_cell_14 (v := 0) rfl ?_
    exact (tJL_cell_15 hX sa sn xs hS P hR hC hE _ _ _ _ h).forget ⟨rfl, trivial⟩
  · replace h := h.2 c
    refine a_aload_n (pc := 8) hC dL_cell_8 rfl ?_
    refine a_iload_n (pc := 9) hC dL_cell_9 rfl ?_
    refine a_sld (pc := 10) hS hC h.1 dL_cell_10 ?_
    replace h := h.2
    refine a_goto (pc := 11) (tgt := 15) hC dL_cell_11 (by decide) ?_
    exact (tJL_cell_15 hX sa sn xs hS P hR hC hE _ _ _ _ h).forget ⟨rfl, trivial⟩
set_option maxRecDepth 20000 in
theorem t_L_pick {l : Launch} {g : aG} (hX : isX g) (sa : Nat) (sn : Nat) (xs : Nat → Int32) (hS : isScr sa sn xs g) (hl : l.stackTraces = false) (x1 : Int32) (x2 : Int32) (q : aS) (P : Int32 → aS → Prop) (h : w_L_pick sa sn xs x1 x2 q P) : aMi l g yL_pick (aWs yL_pick cL_pick 3 (some .int)) 1 0 0 [.ref sa, .int x1, .int x2] q P (fun _ _ => False) := by
  refine aMi_of RL ⟨by decide +kernel, rfl⟩ (cat_all rfl) (Nat.le_of_ble_eq_true rfl) hl hX.cl (fun f hR hC hE => ?_)
  show AW f g 0 [some (.ref sa), some (.int x1), some (.int x2)] [] q 0 0
  unfold w_L_pick at h
  refine a_aload_n (pc := 0) hC dL_pick_0 rfl ?_
  refine a_iload_n (pc := 1) hC dL_pick_1 rfl ?_
  refine a_callS (pc := 2) hC hR sm_L_cell tw_667 ⟨(Nat.le_of_ble_eq_true rfl), (Nat.le_of_ble_eq_true rfl), (Nat.le_of_ble_eq_true rfl), (Nat.le_of_ble_eq_true rfl)⟩ dL_pick_2 (t_L_cell hX _ _ _ hS hC.tr _ _ _ h) rfl rfl rfl (Nat.le_of_ble_eq_true rfl) (fun r3 q4 h => ?_)
  refine a_bipush (pc := 5) hC dL_pick_5 (v := 8) rfl ?_
  refine a_iushr (pc := 7) hC dL_pick_7 ?_
  refine a_iload_n (pc := 8) hC dL_pick_8 rfl ?_
  refine a_irem (pc := 9) hC dL_pick_9 h.1 ?_
  replace h := h.2
  exact a_iret (pc := 10) hC hE h (Nat.le_of_ble_eq_true rfl) (Nat.le_of_ble_eq_true rfl) dL_pick_10
set_option maxRecDepth 20000 in
theorem t_L_plain {l : Launch} {g : aG} (hX : isX g) (hl : l.stackTraces = false) (x1 : Int32) (x2 : Int32) (x3 : Int32) (x4 : Int32) (q : aS) (P : Int32 → aS → Prop) (X : String → aS → Prop) (h : w_L_plain x1 x2 x3 x4 q P X) : aMi l g yL_plain (aWs yL_plain cL_plain 5 (some .int)) 10 1 6 [.ref (gAd g 0), .int x1, .int x2, .int x3, .int x4] q P X := by
  refine aMi_of RL ⟨by decide +kernel, rfl⟩ (cat_all rfl) (Nat.le_of_ble_eq_true rfl) hl hX.cl (fun f hR hC hE => ?_)
  show AW f g 0 [some (.ref (gAd g 0)), some (.int x1), some (.int x2), some (.int x3), some (.int x4)] [] q 0 0
  unfold w_L_plain at h
  refine a_iload_n (pc := 0) hC dL_plain_0 rfl ?_
  refine tab_or (fun c0 => ?_) (fun c0 => ?_) h
  · intro h
    refine a_tabIn (pc := 1) (tgt := 56) hC dL_plain_1 (by rw [c0]; decide) (by rw [c0]; decide) (by rw [c0]; rfl) (by decide) ?_
    refine a_aload_n (pc := 56) hC dL_plain_56 rfl ?_
    refine a_iload_n (pc := 57) hC dL_plain_57 rfl ?_
    refine a_callVx (pc := 58) hC hR hE.1 ⟨(Nat.le_of_ble_eq_true rfl), (Nat.le_of_ble_eq_true rfl)⟩ vm_X9_room tw_679 cl_X9 (oX_0 hX) ⟨(Nat.le_of_ble_eq_true rfl), (Nat.le_of_ble_eq_true rfl), (Nat.le_of_ble_eq_true rfl), (Nat.le_of_ble_eq_true rfl)⟩ dL_plain_58 (t_X9_room hX hC.tr _ _ _ _ h) rfl rfl rfl (Nat.le_of_ble_eq_true rfl) (fun r5 q6 h => ?_)
    exact a_iret (pc := 61) hC hE h (Nat.le_of_ble_eq_true rfl) (Nat.le_of_ble_eq_true rfl) dL_plain_61
  intro h
  refine tab_or (fun c1 => ?_) (fun c1 => ?_) h
  · intro h
    refine a_tabIn (pc := 1) (tgt := 62) hC dL_plain_1 (by rw [c1]; decide) (by rw [c1]; decide) (by rw [c1]; rfl) (by decide) ?_
    refine a_aload_n (pc := 62) hC dL_plain_62 rfl ?_
    refine a_iload_n (pc := 63) hC dL_plain_63 rfl ?_
    refine a_iload_n (pc := 64) hC dL_plain_64 rfl ?_
    refine a_callVx (pc := 65) hC hR hE.1 ⟨(Nat.le_of_ble_eq_true rfl), (Nat.le_of_ble_eq_true rfl)⟩ vm_X9_echo tw_850 cl_X9 (oX_0 hX) ⟨(Nat.le_of_ble_eq_true rfl), (Nat.le_of_ble_eq_true rfl), (Nat.le_of_ble_eq_true rfl), (Nat.le_of_ble_eq_true rfl)⟩ dL_plain_65 (t_X9_echo hX hC.tr _ _ _ _ _ h) rfl rfl rfl (Nat.le_of_ble_eq_true rfl) (fun r7 q8 h => ?_)
    exact a_iret (pc := 68) hC hE h (Nat.le_of_ble_eq_true rfl) (Nat.le_of_ble_eq_true rfl) dL_plain_68
  intro h
  refine tab_or (fun c2 => ?_) (fun c2 => ?_) h
  · intro h
    refine a_tabIn (pc := 1) (tgt := 69) hC dL_plain_1 (by rw [c2]; decide) (by rw [c2]; decide) (by rw [c2]; rfl) (by decide) ?_
    refine a_aload_n (pc := 69) hC dL_plain_69 rfl ?_
    refine a_iload_n (pc := 70) hC dL_plain_70 rfl ?_
    refine a_iload_n (pc := 71) hC dL_plain_71 rfl ?_
    refine a_callVx (pc := 72) hC hR hE.1 ⟨(Nat.le_of_ble_eq_true rfl), (Nat.le_of_ble_eq_true rfl)⟩ vm_X9_singer tw_856 cl_X9 (oX_0 hX) ⟨(Nat.le_of_ble_eq_true rfl), (Nat.le_of_ble_eq_true rfl), (Nat.le_of_ble_eq_true rfl), (Nat.le_of_ble_eq_true rfl)⟩ dL_plain_72 (t_X9_singer hX hC.tr _ _ _ _ _ h) rfl rfl rfl (Nat.le_of_ble_eq_true rfl) (fun r9 q10 h => ?_)
    exact a_iret (pc := 75) hC hE h (Nat.le_of_ble_eq_true rfl) (Nat.le_of_ble_eq_true rfl) dL_plain_75
  intro h
  refine tab_or (fun c3 => ?_) (fun c3 => ?_) h
  · intro h
    refine a_tabIn (pc := 1) (tgt := 76) hC dL_plain_1 (by rw [c3]; decide) (by rw [c3]; decide) (by rw [c3]; rfl) (by decide) ?_
    refine a_aload_n (pc := 76) hC dL_plain_76 rfl ?_
    refine a_iload_n (pc := 77) hC dL_plain_77 rfl ?_
    refine a_iload_n (pc := 78) hC dL_plain_78 rfl ?_
    refine a_callVx (pc := 79) hC hR hE.1 ⟨(Nat.le_of_ble_eq_true rfl), (Nat.le_of_ble_eq_true rfl)⟩ vm_X9_enter tw_862 cl_X9 (oX_0 hX) ⟨(Nat.le_of_ble_eq_true rfl), (Nat.le_of_ble_eq_true rfl), (Nat.le_of_ble_eq_true rfl), (Nat.le_of_ble_eq_true rfl)⟩ dL_plain_79 (t_X9_enter hX hC.tr _ _ _ _ _ h) rfl rfl rfl (Nat.le_of_ble_eq_true rfl) (fun r11 q12 h => ?_)
    exact a_iret (pc := 82) hC hE h (Nat.le_of_ble_eq_true rfl) (Nat.le_of_ble_eq_true rfl) dL_plain_82
  intro h
  refine tab_or (fun c4 => ?_) (fun c4 => ?_) h
  · intro h
    refine a_tabIn (pc := 1) (tgt := 83) hC dL_plain_1 (by rw [c4]; decide) (by rw [c4]; decide) (by rw [c4]; rfl) (by decide) ?_
    refine a_aload_n (pc := 83) hC dL_plain_83 rfl ?_
    refine a_iload_n (pc := 84) hC dL_plain_84 rfl ?_
    refine a_callVx (pc := 85) hC hR hE.1 ⟨(Nat.le_of_ble_eq_true rfl), (Nat.le_of_ble_eq_true rfl)⟩ vm_X9_out tw_868 cl_X9 (oX_0 hX) ⟨(Nat.le_of_ble_eq_true rfl), (Nat.le_of_ble_eq_true rfl), (Nat.le_of_ble_eq_true rfl), (Nat.le_of_ble_eq_true rfl)⟩ dL_plain_85 (t_X9_out hX hC.tr _ _ _ _ h) rfl rfl rfl (Nat.le_of_ble_eq_true rfl) (fun r13 q14 h => ?_)
    exact a_iret (pc := 88) hC hE h (Nat.le_of_ble_eq_true rfl) (Nat.le_of_ble_eq_true rfl) dL_plain_88
  intro h
  refine tab_or (fun c5 => ?_) (fun c5 => ?_) h
  · intro h
    refine a_tabIn (pc := 1) (tgt := 89) hC dL_plain_1 (by rw [c5]; decide) (by rw [c5]; decide) (by rw [c5]; rfl) (by decide) ?_
    refine a_aload_n (pc := 89) hC dL_plain_89 rfl ?_
    refine a_iload_n (pc := 90) hC dL_plain_90 rfl ?_
    refine a_iload_n (pc := 91) hC dL_plain_91 rfl ?_
    refine a_callVx (pc := 92) hC hR hE.1 ⟨(Nat.le_of_ble_eq_true rfl), (Nat.le_of_ble_eq_true rfl)⟩ vm_X9_carry tw_874 cl_X9 (oX_0 hX) ⟨(Nat.le_of_ble_eq_true rfl), (Nat.le_of_ble_eq_true rfl), (Nat.le_of_ble_eq_true rfl), (Nat.le_of_ble_eq_true rfl)⟩ dL_plain_92 (t_X9_carry hX hC.tr _ _ _ _ _ h) rfl rfl rfl (Nat.le_of_ble_eq_true rfl) (fun r15 q16 h => ?_)
    exact a_iret (pc := 95) hC hE h (Nat.le_of_ble_eq_true rfl) (Nat.le_of_ble_eq_true rfl) dL_plain_95
  intro h
  refine tab_or (fun c6 => ?_) (fun c6 => ?_) h
  · intro h
    refine a_tabIn (pc := 1) (tgt := 96) hC dL_plain_1 (by rw [c6]; decide) (by rw [c6]; decide) (by rw [c6]; rfl) (by decide) ?_
    refine a_aload_n (pc := 96) hC dL_plain_96 rfl ?_
    refine a_iload_n (pc := 97) hC dL_plain_97 rfl ?_
    refine a_iload_n (pc := 98) hC dL_plain_98 rfl ?_
    refine a_iload (pc := 99) hC dL_plain_99 rfl ?_
    refine a_callVx (pc := 101) hC hR hE.1 ⟨(Nat.le_of_ble_eq_true rfl), (Nat.le_of_ble_eq_true rfl)⟩ vm_X9_rent tw_880 cl_X9 (oX_0 hX) ⟨(Nat.le_of_ble_eq_true rfl), (Nat.le_of_ble_eq_true rfl), (Nat.le_of_ble_eq_true rfl), (Nat.le_of_ble_eq_true rfl)⟩ dL_plain_101 (t_X9_rent hX hC.tr _ _ _ _ _ _ h) rfl rfl rfl (Nat.le_of_ble_eq_true rfl) (fun r17 q18 h => ?_)
    exact a_iret (pc := 104) hC hE h (Nat.le_of_ble_eq_true rfl) (Nat.le_of_ble_eq_true rfl) dL_plain_104
  intro h
  refine tab_or (fun c7 => ?_) (fun c7 => ?_) h
  · intro h
    refine a_tabIn (pc := 1) (tgt := 105) hC dL_plain_1 (by rw [c7]; decide) (by rw [c7]; decide) (by rw [c7]; rfl) (by decide) ?_
    refine a_aload_n (pc := 105) hC dL_plain_105 rfl ?_
    refine a_iload_n (pc := 106) hC dL_plain_106 rfl ?_
    refine a_iload_n (pc := 107) hC dL_plain_107 rfl ?_
    refine a_callVx (pc := 108) hC hR hE.1 ⟨(Nat.le_of_ble_eq_true rfl), (Nat.le_of_ble_eq_true rfl)⟩ vm_X9_back tw_886 cl_X9 (oX_0 hX) ⟨(Nat.le_of_ble_eq_true rfl), (Nat.le_of_ble_eq_true rfl), (Nat.le_of_ble_eq_true rfl), (Nat.le_of_ble_eq_true rfl)⟩ dL_plain_108 (t_X9_back hX hC.tr _ _ _ _ _ h) rfl rfl rfl (Nat.le_of_ble_eq_true rfl) (fun r19 q20 h => ?_)
    exact a_iret (pc := 111) hC hE h (Nat.le_of_ble_eq_true rfl) (Nat.le_of_ble_eq_true rfl) dL_plain_111
  intro h
  refine tab_or (fun c8 => ?_) (fun c8 => ?_) h
  · intro h
    refine a_tabIn (pc := 1) (tgt := 112) hC dL_plain_1 (by rw [c8]; decide) (by rw [c8]; decide) (by rw [c8]; rfl) (by decide) ?_
    refine a_aload_n (pc := 112) hC dL_plain_112 rfl ?_
    refine a_iload_n (pc := 113) hC dL_plain_113 rfl ?_
    refine a_callVx (pc := 114) hC hR hE.1 ⟨(Nat.le_of_ble_eq_true rfl), (Nat.le_of_ble_eq_true rfl)⟩ vm_X9_sing tw_892 cl_X9 (oX_0 hX) ⟨(Nat.le_of_ble_eq_true rfl), (Nat.le_of_ble_eq_true rfl), (Nat.le_of_ble_eq_true rfl), (Nat.le_of_ble_eq_true rfl)⟩ dL_plain_114 (t_X9_sing hX hC.tr _ _ _ _ h) rfl rfl rfl (Nat.le_of_ble_eq_true rfl) (fun r21 q22 h => ?_)
    exact a_iret (pc := 117) hC hE h (Nat.le_of_ble_eq_true rfl) (Nat.le_of_ble_eq_true rfl) dL_plain_117
  intro h
  refine tab_or (fun c9 => ?_) (fun c9 => ?_) h
  · intro h
    refine a_tabIn (pc := 1) (tgt := 118) hC dL_plain_1 (by rw [c9]; decide) (by rw [c9]; decide) (by rw [c9]; rfl) (by decide) ?_
    refine a_aload_n (pc := 118) hC dL_plain_118 rfl ?_
    refine a_callV (pc := 119) hC hR vm_X9_night tw_898 cl_X9 (oX_0 hX) ⟨(Nat.le_of_ble_eq_true rfl), (Nat.le_of_ble_eq_true rfl), (Nat.le_of_ble_eq_true rfl), (Nat.le_of_ble_eq_true rfl)⟩ dL_plain_119 (t_X9_night hX hC.tr _ _ h) rfl rfl rfl (Nat.le_of_ble_eq_true rfl) (fun r23 q24 h => ?_)
    exact a_iret (pc := 122) hC hE h (Nat.le_of_ble_eq_true rfl) (Nat.le_of_ble_eq_true rfl) dL_plain_122
  intro h
  refine a_tabOut (pc := 1) (tgt := 123) hC dL_plain_1 (by have e0 := tab_ne (z := 0) rfl c0; have e1 := tab_ne (z := 1) rfl c1; have e2 := tab_ne (z := 2) rfl c2; have e3 := tab_ne (z := 3) rfl c3; have e4 := tab_ne (z := 4) rfl c4; have e5 := tab_ne (z := 5) rfl c5; have e6 := tab_ne (z := 6) rfl c6; have e7 := tab_ne (z := 7) rfl c7; have e8 := tab_ne (z := 8) rfl c8; have e9 := tab_ne (z := 9) rfl c9; omega) (by decide) ?_
  refine a_aload_n (pc := 123) hC dL_plain_123 rfl ?_
  exact h.elim
set_option maxRecDepth 20000 in
theorem t_L_asked {l : Launch} {g : aG} (hX : isX g) (hl : l.stackTraces = false) (x1 : Int32) (x2 : Int32) (x3 : Int32) (q : aS) (P : Int32 → aS → Prop) (X : String → aS → Prop) (h : w_L_asked x1 x2 x3 q P X) : aMi l g yL_asked (aWs yL_asked cL_asked 4 (some .int)) 11 2 12 [.ref (gAd g 0), .int x1, .int x2, .int x3] q P X := by
  refine aMi_of RL ⟨by decide +kernel, rfl⟩ (cat_all rfl) (Nat.le_of_ble_eq_true rfl) hl hX.cl (fun f hR hC hE => ?_)
  show AW f g 0 [some (.ref (gAd g 0)), some (.int x1), some (.int x2), some (.int x3)] [] q 0 0
  unfold w_L_asked at h
  refine a_iload_n (pc := 0) hC dL_asked_0 rfl ?_
  refine tab_or (fun c0 => ?_) (fun c0 => ?_) h
  · intro h
    refine a_tabIn (pc := 1) (tgt := 60) hC dL_asked_1 (by rw [c0]; decide) (by rw [c0]; decide) (by rw [c0]; rfl) (by decide) ?_
    refine a_aload_n (pc := 60) hC dL_asked_60 rfl ?_
    refine a_iload_n (pc := 61) hC dL_asked_61 rfl ?_
    refine a_iload_n (pc := 62) hC dL_asked_62 rfl ?_
    refine a_callVx (pc := 63) hC hR hE.1 ⟨(Nat.le_of_ble_eq_true rfl), (Nat.le_of_ble_eq_true rfl)⟩ vm_X9_roomOf tw_462 cl_X9 (oX_0 hX) ⟨(Nat.le_of_ble_eq_true rfl), (Nat.le_of_ble_eq_true rfl), (Nat.le_of_ble_eq_true rfl), (Nat.le_of_ble_eq_true rfl)⟩ dL_asked_63 (t_X9_roomOf hX hC.tr _ _ _ _ _ h) rfl rfl rfl (Nat.le_of_ble_eq_true rfl) (fun r4 q5 h => ?_)
    exact a_iret (pc := 66) hC hE h (Nat.le_of_ble_eq_true rfl) (Nat.le_of_ble_eq_true rfl) dL_asked_66
  intro h
  refine tab_or (fun c1 => ?_) (fun c1 => ?_) h
  · intro h
    refine a_tabIn (pc := 1) (tgt := 67) hC dL_asked_1 (by rw [c1]; decide) (by rw [c1]; decide) (by rw [c1]; rfl) (by decide) ?_
    refine a_aload_n (pc := 67) hC dL_asked_67 rfl ?_
    refine a_iload_n (pc := 68) hC dL_asked_68 rfl ?_
    refine a_iload_n (pc := 69) hC dL_asked_69 rfl ?_
    refine a_callVx (pc := 70) hC hR hE.1 ⟨(Nat.le_of_ble_eq_true rfl), (Nat.le_of_ble_eq_true rfl)⟩ vm_X9_echoOf tw_510 cl_X9 (oX_0 hX) ⟨(Nat.le_of_ble_eq_true rfl), (Nat.le_of_ble_eq_true rfl), (Nat.le_of_ble_eq_true rfl), (Nat.le_of_ble_eq_true rfl)⟩ dL_asked_70 (t_X9_echoOf hX hC.tr _ _ _ _ _ h) rfl rfl rfl (Nat.le_of_ble_eq_true rfl) (fun r6 q7 h => ?_)
    exact a_iret (pc := 73) hC hE h (Nat.le_of_ble_eq_true rfl) (Nat.le_of_ble_eq_true rfl) dL_asked_73
  intro h
  refine tab_or (fun c2 => ?_) (fun c2 => ?_) h
  · intro h
    refine a_tabIn (pc := 1) (tgt := 74) hC dL_asked_1 (by rw [c2]; decide) (by rw [c2]; decide) (by rw [c2]; rfl) (by decide) ?_
    refine a_aload_n (pc := 74) hC dL_asked_74 rfl ?_
    refine a_iload_n (pc := 75) hC dL_asked_75 rfl ?_
    refine a_iload_n (pc := 76) hC dL_asked_76 rfl ?_
    refine a_callVx (pc := 77) hC hR hE.1 ⟨(Nat.le_of_ble_eq_true rfl), (Nat.le_of_ble_eq_true rfl)⟩ vm_X9_singerOf tw_524 cl_X9 (oX_0 hX) ⟨(Nat.le_of_ble_eq_true rfl), (Nat.le_of_ble_eq_true rfl), (Nat.le_of_ble_eq_true rfl), (Nat.le_of_ble_eq_true rfl)⟩ dL_asked_77 (t_X9_singerOf hX hC.tr _ _ _ _ _ h) rfl rfl rfl (Nat.le_of_ble_eq_true rfl) (fun r8 q9 h => ?_)
    exact a_iret (pc := 80) hC hE h (Nat.le_of_ble_eq_true rfl) (Nat.le_of_ble_eq_true rfl) dL_asked_80
  intro h
  refine tab_or (fun c3 => ?_) (fun c3 => ?_) h
  · intro h
    refine a_tabIn (pc := 1) (tgt := 81) hC dL_asked_1 (by rw [c3]; decide) (by rw [c3]; decide) (by rw [c3]; rfl) (by decide) ?_
    refine a_aload_n (pc := 81) hC dL_asked_81 rfl ?_
    refine a_iload_n (pc := 82) hC dL_asked_82 rfl ?_
    refine a_callVx (pc := 83) hC hR hE.1 ⟨(Nat.le_of_ble_eq_true rfl), (Nat.le_of_ble_eq_true rfl)⟩ vm_X9_tones tw_540 cl_X9 (oX_0 hX) ⟨(Nat.le_of_ble_eq_true rfl), (Nat.le_of_ble_eq_true rfl), (Nat.le_of_ble_eq_true rfl), (Nat.le_of_ble_eq_true rfl)⟩ dL_asked_83 (t_X9_tones hX hC.tr _ _ _ _ h) rfl rfl rfl (Nat.le_of_ble_eq_true rfl) (fun r10 q11 h => ?_)
    exact a_iret (pc := 86) hC hE h (Nat.le_of_ble_eq_true rfl) (Nat.le_of_ble_eq_true rfl) dL_asked_86
  intro h
  refine tab_or (fun c4 => ?_) (fun c4 => ?_) h
  · intro h
    refine a_tabIn (pc := 1) (tgt := 87) hC dL_asked_1 (by rw [c4]; decide) (by rw [c4]; decide) (by rw [c4]; rfl) (by decide) ?_
    refine a_aload_n (pc := 87) hC dL_asked_87 rfl ?_
    refine a_iload_n (pc := 88) hC dL_asked_88 rfl ?_
    refine a_callVx (pc := 89) hC hR hE.1 ⟨(Nat.le_of_ble_eq_true rfl), (Nat.le_of_ble_eq_true rfl)⟩ vm_X9_verses tw_583 cl_X9 (oX_0 hX) ⟨(Nat.le_of_ble_eq_true rfl), (Nat.le_of_ble_eq_true rfl), (Nat.le_of_ble_eq_true rfl), (Nat.le_of_ble_eq_true rfl)⟩ dL_asked_89 (t_X9_verses hX hC.tr _ _ _ _ h) rfl rfl rfl (Nat.le_of_ble_eq_true rfl) (fun r12 q13 h => ?_)
    exact a_iret (pc := 92) hC hE h (Nat.le_of_ble_eq_true rfl) (Nat.le_of_ble_eq_true rfl) dL_asked_92
  intro h
  refine tab_or (fun c5 => ?_) (fun c5 => ?_) h
  · intro h
    refine a_tabIn (pc := 1) (tgt := 93) hC dL_asked_1 (by rw [c5]; decide) (by rw [c5]; decide) (by rw [c5]; rfl) (by decide) ?_
    refine a_aload_n (pc := 93) hC dL_asked_93 rfl ?_
    refine a_iload_n (pc := 94) hC dL_asked_94 rfl ?_
    refine a_iload_n (pc := 95) hC dL_asked_95 rfl ?_
    refine a_callVx (pc := 96) hC hR hE.1 ⟨(Nat.le_of_ble_eq_true rfl), (Nat.le_of_ble_eq_true rfl)⟩ vm_X9_would tw_598 cl_X9 (oX_0 hX) ⟨(Nat.le_of_ble_eq_true rfl), (Nat.le_of_ble_eq_true rfl), (Nat.le_of_ble_eq_true rfl), (Nat.le_of_ble_eq_true rfl)⟩ dL_asked_96 (t_X9_would hX hC.tr _ _ _ _ _ h) rfl rfl rfl (Nat.le_of_ble_eq_true rfl) (fun r14 q15 h => ?_)
    exact a_iret (pc := 99) hC hE h (Nat.le_of_ble_eq_true rfl) (Nat.le_of_ble_eq_true rfl) dL_asked_99
  intro h
  refine tab_or (fun c6 => ?_) (fun c6 => ?_) h
  · intro h
    refine a_tabIn (pc := 1) (tgt := 100) hC dL_asked_1 (by rw [c6]; decide) (by rw [c6]; decide) (by rw [c6]; rfl) (by decide) ?_
    refine a_aload_n (pc := 100) hC dL_asked_100 rfl ?_
    refine a_iload_n (pc := 101) hC dL_asked_101 rfl ?_
    refine a_callVx (pc := 102) hC hR hE.1 ⟨(Nat.le_of_ble_eq_true rfl), (Nat.le_of_ble_eq_true rfl)⟩ vm_X9_bestRoom tw_602 cl_X9 (oX_0 hX) ⟨(Nat.le_of_ble_eq_true rfl), (Nat.le_of_ble_eq_true rfl), (Nat.le_of_ble_eq_true rfl), (Nat.le_of_ble_eq_true rfl)⟩ dL_asked_102 (t_X9_bestRoom hX hC.tr _ _ _ _ h) rfl rfl rfl (Nat.le_of_ble_eq_true rfl) (fun r16 q17 h => ?_)
    exact a_iret (pc := 105) hC hE h (Nat.le_of_ble_eq_true rfl) (Nat.le_of_ble_eq_true rfl) dL_asked_105
  intro h
  refine tab_or (fun c7 => ?_) (fun c7 => ?_) h
  · intro h
    refine a_tabIn (pc := 1) (tgt := 106) hC dL_asked_1 (by rw [c7]; decide) (by rw [c7]; decide) (by rw [c7]; rfl) (by decide) ?_
    refine a_aload_n (pc := 106) hC dL_asked_106 rfl ?_
    refine a_iload_n (pc := 107) hC dL_asked_107 rfl ?_
    refine a_callVx (pc := 108) hC hR hE.1 ⟨(Nat.le_of_ble_eq_true rfl), (Nat.le_of_ble_eq_true rfl)⟩ vm_X9_backFor tw_607 cl_X9 (oX_0 hX) ⟨(Nat.le_of_ble_eq_true rfl), (Nat.le_of_ble_eq_true rfl), (Nat.le_of_ble_eq_true rfl), (Nat.le_of_ble_eq_true rfl)⟩ dL_asked_108 (t_X9_backFor hX hC.tr _ _ _ _ h) rfl rfl rfl (Nat.le_of_ble_eq_true rfl) (fun r18 q19 h => ?_)
    exact a_iret (pc := 111) hC hE h (Nat.le_of_ble_eq_true rfl) (Nat.le_of_ble_eq_true rfl) dL_asked_111
  intro h
  refine tab_or (fun c8 => ?_) (fun c8 => ?_) h
  · intro h
    refine a_tabIn (pc := 1) (tgt := 112) hC dL_asked_1 (by rw [c8]; decide) (by rw [c8]; decide) (by rw [c8]; rfl) (by decide) ?_
    refine a_aload_n (pc := 112) hC dL_asked_112 rfl ?_
    refine a_iload_n (pc := 113) hC dL_asked_113 rfl ?_
    refine a_callVx (pc := 114) hC hR hE.1 ⟨(Nat.le_of_ble_eq_true rfl), (Nat.le_of_ble_eq_true rfl)⟩ vm_X9_dampest tw_614 cl_X9 (oX_0 hX) ⟨(Nat.le_of_ble_eq_true rfl), (Nat.le_of_ble_eq_true rfl), (Nat.le_of_ble_eq_true rfl), (Nat.le_of_ble_eq_true rfl)⟩ dL_asked_114 (t_X9_dampest hX hC.tr _ _ _ _ h) rfl rfl rfl (Nat.le_of_ble_eq_true rfl) (fun r20 q21 h => ?_)
    exact a_iret (pc := 117) hC hE h (Nat.le_of_ble_eq_true rfl) (Nat.le_of_ble_eq_true rfl) dL_asked_117
  intro h
  refine tab_or (fun c9 => ?_) (fun c9 => ?_) h
  · intro h
    refine a_tabIn (pc := 1) (tgt := 118) hC dL_asked_1 (by rw [c9]; decide) (by rw [c9]; decide) (by rw [c9]; rfl) (by decide) ?_
    refine a_aload_n (pc := 118) hC dL_asked_118 rfl ?_
    refine a_iload_n (pc := 119) hC dL_asked_119 rfl ?_
    refine a_iload_n (pc := 120) hC dL_asked_120 rfl ?_
    refine a_callVx (pc := 121) hC hR hE.1 ⟨(Nat.le_of_ble_eq_true rfl), (Nat.le_of_ble_eq_true rfl)⟩ vm_X9_ranked tw_627 cl_X9 (oX_0 hX) ⟨(Nat.le_of_ble_eq_true rfl), (Nat.le_of_ble_eq_true rfl), (Nat.le_of_ble_eq_true rfl), (Nat.le_of_ble_eq_true rfl)⟩ dL_asked_121 (t_X9_ranked hX hC.tr _ _ _ _ _ h) rfl rfl rfl (Nat.le_of_ble_eq_true rfl) (fun r22 q23 h => ?_)
    exact a_iret (pc := 124) hC hE h (Nat.le_of_ble_eq_true rfl) (Nat.le_of_ble_eq_true rfl) dL_asked_124
  intro h
  refine tab_or (fun c10 => ?_) (fun c10 => ?_) h
  · intro h
    refine a_tabIn (pc := 1) (tgt := 125) hC dL_asked_1 (by rw [c10]; decide) (by rw [c10]; decide) (by rw [c10]; rfl) (by decide) ?_
    refine a_aload_n (pc := 125) hC dL_asked_125 rfl ?_
    refine a_iload_n (pc := 126) hC dL_asked_126 rfl ?_
    refine a_callVx (pc := 127) hC hR hE.1 ⟨(Nat.le_of_ble_eq_true rfl), (Nat.le_of_ble_eq_true rfl)⟩ vm_X9_strongest tw_641 cl_X9 (oX_0 hX) ⟨(Nat.le_of_ble_eq_true rfl), (Nat.le_of_ble_eq_true rfl), (Nat.le_of_ble_eq_true rfl), (Nat.le_of_ble_eq_true rfl)⟩ dL_asked_127 (t_X9_strongest hX hC.tr _ _ _ _ h) rfl rfl rfl (Nat.le_of_ble_eq_true rfl) (fun r24 q25 h => ?_)
    exact a_iret (pc := 130) hC hE h (Nat.le_of_ble_eq_true rfl) (Nat.le_of_ble_eq_true rfl) dL_asked_130
  intro h
  refine a_tabOut (pc := 1) (tgt := 131) hC dL_asked_1 (by have e0 := tab_ne (z := 0) rfl c0; have e1 := tab_ne (z := 1) rfl c1; have e2 := tab_ne (z := 2) rfl c2; have e3 := tab_ne (z := 3) rfl c3; have e4 := tab_ne (z := 4) rfl c4; have e5 := tab_ne (z := 5) rfl c5; have e6 := tab_ne (z := 6) rfl c6; have e7 := tab_ne (z := 7) rfl c7; have e8 := tab_ne (z := 8) rfl c8; have e9 := tab_ne (z := 9) rfl c9; have e10 := tab_ne (z := 10) rfl c10; omega) (by decide) ?_
  refine a_aload_n (pc := 131) hC dL_asked_131 rfl ?_
  refine a_iload_n (pc := 132) hC dL_asked_132 rfl ?_
  refine a_iload_n (pc := 133) hC dL_asked_133 rfl ?_
  refine a_iconst (pc := 134) hC dL_asked_134 (v := 1) rfl ?_
  refine a_icmp_ne (pc := 135) (tgt := 142) hC dL_asked_135 (by decide) (fun c => ?_) (fun c => ?_)
  · replace h := h.1 c
    refine a_iconst (pc := 142) hC dL_asked_142 (v := 0) rfl ?_
    exact h.elim
  · replace h := h.2 c
    refine a_iconst (pc := 138) hC dL_asked_138 (v := 1) rfl ?_
    refine a_goto (pc := 139) (tgt := 143) hC dL_asked_139 (by decide) ?_
    exact h.elim

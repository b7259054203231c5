theorem dJ0_isLatin1_aae02_0 : decode cJ0_isLatin1_aae02 0 = .ok (.getstatic 38, 3) := by decide +kernel
theorem dJ0_isLatin1_aae02_3 : decode cJ0_isLatin1_aae02 3 = .ok (.ifCond .eq 14, 3) := by decide +kernel
theorem dJ0_isLatin1_aae02_6 : decode cJ0_isLatin1_aae02 6 = .ok (.aload_n 0, 1) := by decide +kernel
theorem dJ0_isLatin1_aae02_7 : decode cJ0_isLatin1_aae02 7 = .ok (.getfield 15, 3) := by decide +kernel
theorem dJ0_isLatin1_aae02_10 : decode cJ0_isLatin1_aae02 10 = .ok (.ifCond .ne 7, 3) := by decide +kernel
theorem dJ0_isLatin1_aae02_13 : decode cJ0_isLatin1_aae02 13 = .ok (.iconst 1, 1) := by decide +kernel
theorem dJ0_isLatin1_aae02_14 : decode cJ0_isLatin1_aae02 14 = .ok (.goto 4, 3) := by decide +kernel
theorem dJ0_isLatin1_aae02_17 : decode cJ0_isLatin1_aae02 17 = .ok (.iconst 0, 1) := by decide +kernel
theorem dJ0_isLatin1_aae02_18 : decode cJ0_isLatin1_aae02 18 = .ok (.ireturn, 1) := by decide +kernel
theorem vm_J0_isLatin1_aae02 : aVm yJ0_isLatin1_aae02 RJ0 cJ0_isLatin1_aae02 1 (some .boolean) 0 := ⟨tw_1055, tw_1053, tw_1054, tw_13, rfl, by decide +kernel, by decide +kernel, by decide +kernel⟩
theorem dJ0_coder_7d493_0 : decode cJ0_coder_7d493 0 = .ok (.getstatic 38, 3) := by decide +kernel
theorem dJ0_coder_7d493_3 : decode cJ0_coder_7d493 3 = .ok (.ifCond .eq 10, 3) := by decide +kernel
theorem dJ0_coder_7d493_6 : decode cJ0_coder_7d493 6 = .ok (.aload_n 0, 1) := by decide +kernel
theorem dJ0_coder_7d493_7 : decode cJ0_coder_7d493 7 = .ok (.getfield 15, 3) := by decide +kernel
theorem dJ0_coder_7d493_10 : decode cJ0_coder_7d493 10 = .ok (.goto 4, 3) := by decide +kernel
theorem dJ0_coder_7d493_13 : decode cJ0_coder_7d493 13 = .ok (.iconst 1, 1) := by decide +kernel
theorem dJ0_coder_7d493_14 : decode cJ0_coder_7d493 14 = .ok (.ireturn, 1) := by decide +kernel
theorem vm_J0_coder_7d493 : aVm yJ0_coder_7d493 RJ0 cJ0_coder_7d493 1 (some .byte) 0 := ⟨tw_1046, tw_1044, tw_1045, tw_13, rfl, by decide +kernel, by decide +kernel, by decide +kernel⟩
theorem dJ0_length_8abf5_0 : decode cJ0_length_8abf5 0 = .ok (.aload_n 0, 1) := by decide +kernel
theorem dJ0_length_8abf5_1 : decode cJ0_length_8abf5 1 = .ok (.getfield 9, 3) := by decide +kernel
theorem dJ0_length_8abf5_4 : decode cJ0_length_8abf5 4 = .ok (.arraylength, 1) := by decide +kernel
theorem dJ0_length_8abf5_5 : decode cJ0_length_8abf5 5 = .ok (.aload_n 0, 1) := by decide +kernel
theorem dJ0_length_8abf5_6 : decode cJ0_length_8abf5 6 = .ok (.invokevirtual 335, 3) := by decide +kernel
theorem dJ0_length_8abf5_9 : decode cJ0_length_8abf5 9 = .ok (.ishr, 1) := by decide +kernel
theorem dJ0_length_8abf5_10 : decode cJ0_length_8abf5 10 = .ok (.ireturn, 1) := by decide +kernel
theorem vm_J0_length_8abf5 : aVm yJ0_length_8abf5 RJ0 cJ0_length_8abf5 1 (some .int) 0 := ⟨tw_1042, tw_1040, tw_1041, tw_13, rfl, by decide +kernel, by decide +kernel, by decide +kernel⟩
theorem dJ0_charAt_5068e_0 : decode cJ0_charAt_5068e 0 = .ok (.aload_n 0, 1) := by decide +kernel
theorem dJ0_charAt_5068e_1 : decode cJ0_charAt_5068e 1 = .ok (.invokevirtual 492, 3) := by decide +kernel
theorem dJ0_charAt_5068e_4 : decode cJ0_charAt_5068e 4 = .ok (.ifCond .eq 12, 3) := by decide +kernel
theorem dJ0_charAt_5068e_7 : decode cJ0_charAt_5068e 7 = .ok (.aload_n 0, 1) := by decide +kernel
theorem dJ0_charAt_5068e_8 : decode cJ0_charAt_5068e 8 = .ok (.getfield 9, 3) := by decide +kernel
theorem dJ0_charAt_5068e_11 : decode cJ0_charAt_5068e 11 = .ok (.iload_n 1, 1) := by decide +kernel
theorem dJ0_charAt_5068e_12 : decode cJ0_charAt_5068e 12 = .ok (.invokestatic 495, 3) := by decide +kernel
theorem dJ0_charAt_5068e_15 : decode cJ0_charAt_5068e 15 = .ok (.ireturn, 1) := by decide +kernel
theorem dJ0_charAt_5068e_16 : decode cJ0_charAt_5068e 16 = .ok (.aload_n 0, 1) := by decide +kernel
theorem dJ0_charAt_5068e_17 : decode cJ0_charAt_5068e 17 = .ok (.getfield 9, 3) := by decide +kernel
theorem dJ0_charAt_5068e_20 : decode cJ0_charAt_5068e 20 = .ok (.iload_n 1, 1) := by decide +kernel
theorem dJ0_charAt_5068e_21 : decode cJ0_charAt_5068e 21 = .ok (.invokestatic 498, 3) := by decide +kernel
theorem dJ0_charAt_5068e_24 : decode cJ0_charAt_5068e 24 = .ok (.ireturn, 1) := by decide +kernel
theorem vm_J0_charAt_5068e : aVm yJ0_charAt_5068e RJ0 cJ0_charAt_5068e 2 (some .char) 1 := ⟨tw_1051, tw_1049, tw_1050, tw_13, rfl, by decide +kernel, by decide +kernel, by decide +kernel⟩
theorem dJ1_charAt_3b067_0 : decode cJ1_charAt_3b067 0 = .ok (.iload_n 1, 1) := by decide +kernel
theorem dJ1_charAt_3b067_1 : decode cJ1_charAt_3b067 1 = .ok (.aload_n 0, 1) := by decide +kernel
theorem dJ1_charAt_3b067_2 : decode cJ1_charAt_3b067 2 = .ok (.arraylength, 1) := by decide +kernel
theorem dJ1_charAt_3b067_3 : decode cJ1_charAt_3b067 3 = .ok (.invokestatic 9, 3) := by decide +kernel
theorem dJ1_charAt_3b067_6 : decode cJ1_charAt_3b067 6 = .ok (.aload_n 0, 1) := by decide +kernel
theorem dJ1_charAt_3b067_7 : decode cJ1_charAt_3b067 7 = .ok (.iload_n 1, 1) := by decide +kernel
theorem dJ1_charAt_3b067_8 : decode cJ1_charAt_3b067 8 = .ok (.baload, 1) := by decide +kernel
theorem dJ1_charAt_3b067_9 : decode cJ1_charAt_3b067 9 = .ok (.sipush 255, 3) := by decide +kernel
theorem dJ1_charAt_3b067_12 : decode cJ1_charAt_3b067 12 = .ok (.iand, 1) := by decide +kernel
theorem dJ1_charAt_3b067_13 : decode cJ1_charAt_3b067 13 = .ok (.i2c, 1) := by decide +kernel
theorem dJ1_charAt_3b067_14 : decode cJ1_charAt_3b067 14 = .ok (.ireturn, 1) := by decide +kernel
theorem sm_J1_charAt_3b067 : aSm yJ1_charAt_3b067 cJ1_charAt_3b067 2 (some .char) 2 := ⟨tw_1058, tw_1057, tw_30, by decide +kernel, by decide +kernel, by decide +kernel⟩
theorem dJ0_checkIndex_df160_0 : decode cJ0_checkIndex_df160 0 = .ok (.iload_n 0, 1) := by decide +kernel
theorem dJ0_checkIndex_df160_1 : decode cJ0_checkIndex_df160 1 = .ok (.iload_n 1, 1) := by decide +kernel
theorem dJ0_checkIndex_df160_2 : decode cJ0_checkIndex_df160 2 = .ok (.getstatic 1053, 3) := by decide +kernel
theorem dJ0_checkIndex_df160_5 : decode cJ0_checkIndex_df160 5 = .ok (.invokestatic 1059, 3) := by decide +kernel
theorem dJ0_checkIndex_df160_8 : decode cJ0_checkIndex_df160 8 = .ok (.pop, 1) := by decide +kernel
theorem dJ0_checkIndex_df160_9 : decode cJ0_checkIndex_df160 9 = .ok (.return_, 1) := by decide +kernel
theorem sm_J0_checkIndex_df160 : aSm yJ0_checkIndex_df160 cJ0_checkIndex_df160 2 none 2 := ⟨tw_1061, tw_1060, tw_13, by decide +kernel, by decide +kernel, by decide +kernel⟩
theorem dJ3_checkIndex_8e157_0 : decode cJ3_checkIndex_8e157 0 = .ok (.iload_n 0, 1) := by decide +kernel
theorem dJ3_checkIndex_8e157_1 : decode cJ3_checkIndex_8e157 1 = .ok (.ifCond .lt 8, 3) := by decide +kernel
theorem dJ3_checkIndex_8e157_4 : decode cJ3_checkIndex_8e157 4 = .ok (.iload_n 0, 1) := by decide +kernel
theorem dJ3_checkIndex_8e157_5 : decode cJ3_checkIndex_8e157 5 = .ok (.iload_n 1, 1) := by decide +kernel
theorem dJ3_checkIndex_8e157_6 : decode cJ3_checkIndex_8e157 6 = .ok (.if_icmp .lt 10, 3) := by decide +kernel
theorem dJ3_checkIndex_8e157_9 : decode cJ3_checkIndex_8e157 9 = .ok (.aload_n 2, 1) := by decide +kernel
theorem dJ3_checkIndex_8e157_10 : decode cJ3_checkIndex_8e157 10 = .ok (.iload_n 0, 1) := by decide +kernel
theorem dJ3_checkIndex_8e157_11 : decode cJ3_checkIndex_8e157 11 = .ok (.iload_n 1, 1) := by decide +kernel
theorem dJ3_checkIndex_8e157_12 : decode cJ3_checkIndex_8e157 12 = .ok (.invokestatic 95, 3) := by decide +kernel
theorem dJ3_checkIndex_8e157_15 : decode cJ3_checkIndex_8e157 15 = .ok (.athrow, 1) := by decide +kernel
theorem dJ3_checkIndex_8e157_16 : decode cJ3_checkIndex_8e157 16 = .ok (.iload_n 0, 1) := by decide +kernel
theorem dJ3_checkIndex_8e157_17 : decode cJ3_checkIndex_8e157 17 = .ok (.ireturn, 1) := by decide +kernel
theorem sm_J3_checkIndex_8e157 : aSm yJ3_checkIndex_8e157 cJ3_checkIndex_8e157 3 (some .int) 3 := ⟨tw_1066, tw_1065, tw_31, by decide +kernel, by decide +kernel, by decide +kernel⟩
section STR
variable {f : aF} {g : aG} {cc : ByteArray} {nL : Nat} {own : String} {pc : Nat} {L : List (Option Value)} {st : List Value} {q : aS} {k n : Nat}
theorem isS.en {g : aG} (h : isS g) {U : State} {H : Heap} (e : gEn g U H) : EnvS (gA g) (gK g) U H := h.2 U H e
/-- a call of a method of a constant object -/
theorem a_callR {y : MethodName} {C : String} {bytes : ByteArray} {maxL n' mc ms N mcR msR index m t : Nat} {ty : FieldType} {As : List Value} {P : Int32 → aS → Prop}
    (hC : aOK f g cc nL own) (hR : f_R f = aR N mcR msR) (hm : aVm y C bytes maxL (some ty) m) (hw : Cond.methodLink own index y ∈ lw_tbl) (hrec : ∀ (H : Heap) (locs : List Loc), va_S (gA g) (f_s f).heap H locs → ∃ cell : Cell, H[t]? = some cell ∧ cell.vm.isStatics = false ∧ (f_s f).vm.findClass C = some cell.cls) (hfit : aFit maxL n' mc ms k n N mcR msR) {rest : List Value} (dg : decode cc pc = .ok (.invokevirtual index, 3))
    (hM : aMi (f_l f) g y (aWs y bytes maxL (some ty)) n' mc ms (.ref t :: As) q P (fun _ _ => False)) (hst : st = As.reverse ++ .ref t :: rest) (hn : As.length = m) (hL : L.length = nL) (hrest : (rest.map fun v => v.category).sum ≤ 8) (kk : ∀ (r : Int32) (q' : aS), P r q' → AW f g (pc + 3) L (.int r :: rest) q' (k + mc) (n + ms)) : AW f g pc L st q k n := by
  intro ls H locs ex hl hI hS
  subst hst
  have hf := hfit.loc
  rw [← hR] at hf
  have hrun := vx_runV (rest := rest) (g := F0 (f_m f) pc ls (As.reverse ++ .ref t :: rest)) (locs := locs) (meth := f_me f) (below := f_b f) (e := f_e f) (cells := k) (slots := n) (S := (⟨hC.x, hC.b, hC.ml, hC.o, hC.ts⟩ : CallFix (f_p f) (f_m f) (f_c f) cc nL (f_s f) (f_a f) TW own)) hM (cwV m hC.ts (good_V hm hw) rfl rfl rfl hm.2.2.2.2 hf) ⟨aBlind hC.cl _ q, hrec H locs hS, fun U hU hW => ⟨rfl, aWd_of hC hI hS hU hW⟩⟩ rfl hn (hl.1.trans hL) rfl (lv_room hrest) dg (by rw [hR]; exact ⟨hfit.2.2.1, hfit.2.2.2⟩)
  refine vx_calli hrun hS (fun _ _ h => h) (fun _ h => h) (fun _ _ h => h) (fun E ce q9 u t H1 locs1 ht hvm _ hB => hB.1.elim) (fun r u t H1 locs1 ht hvm hp1 hB hz hk1 hS1 => ?_)
  obtain ⟨ex', hI'⟩ := hB
  rw [ht] at hI'
  exact kk r u hp1 ls H1 locs1 ex' hl hI' hS1
theorem a_srec (hX : isS g) (hC : aOK f g cc nL own) {i : Nat} (hi : i < 11) : ∀ (H : Heap) (locs : List Loc), va_S (gA g) (f_s f).heap H locs → ∃ cell : Cell, H[gK g (20 + i)]? = some cell ∧ cell.vm.isStatics = false ∧ (f_s f).vm.findClass "java/lang/String" = some cell.cls := fun H locs hS => vk_recv (adK := fun i => gK g (20 + i)) (i := i) (hX.en hC.en).1 hi hS
end STR
theorem t_J0_isLatin1 {l : Launch} {g : aG} (hX : isS g) (hl : l.stackTraces = false) {i : Nat} (hi : i < 11) (q : aS) (P : Int32 → aS → Prop) (h : P 1 q) : aMi l g yJ0_isLatin1_aae02 (aWs yJ0_isLatin1_aae02 cJ0_isLatin1_aae02 1 (some .boolean)) 0 0 0 [.ref (gK g (20 + i))] q P (fun _ _ => False) := by
  refine aMi_of RJ0 ⟨by decide +kernel, rfl⟩ (cat_all rfl) (Nat.le_of_ble_eq_true rfl) hl hX.cl (fun f hR hC hE => ?_)
  show AW f g 0 [some (.ref (gK g (20 + i)))] [] q 0 0
  refine a_gets (pc := 0) hC (hX.en hC.en).2.1 tw_1047 dJ0_isLatin1_aae02_0 ?_
  refine a_if_eq (pc := 3) (tgt := 17) hC dJ0_isLatin1_aae02_3 (by decide) (fun c => absurd c (by decide)) (fun _ => ?_)
  refine a_aload_n (pc := 6) hC dJ0_isLatin1_aae02_6 rfl ?_
  refine a_getf (pc := 7) hC ((hX.en hC.en).1.1 i hi).2.1 tw_1323 dJ0_isLatin1_aae02_7 ?_
  refine a_if_ne (pc := 10) (tgt := 17) hC dJ0_isLatin1_aae02_10 (by decide) (fun c => absurd rfl c) (fun _ => ?_)
  refine a_iconst (pc := 13) hC dJ0_isLatin1_aae02_13 (v := 1) rfl ?_
  refine a_goto (pc := 14) (tgt := 18) hC dJ0_isLatin1_aae02_14 (by decide) ?_
  exact a_zret (pc := 18) hC hE rfl h (Nat.le_refl _) (Nat.le_refl _) dJ0_isLatin1_aae02_18
theorem t_J0_coder {l : Launch} {g : aG} (hX : isS g) (hl : l.stackTraces = false) {i : Nat} (hi : i < 11) (q : aS) (P : Int32 → aS → Prop) (h : P 0 q) : aMi l g yJ0_coder_7d493 (aWs yJ0_coder_7d493 cJ0_coder_7d493 1 (some .byte)) 0 0 0 [.ref (gK g (20 + i))] q P (fun _ _ => False) := by
  refine aMi_of RJ0 ⟨by decide +kernel, rfl⟩ (cat_all rfl) (Nat.le_of_ble_eq_true rfl) hl hX.cl (fun f hR hC hE => ?_)
  show AW f g 0 [some (.ref (gK g (20 + i)))] [] q 0 0
  refine a_gets (pc := 0) hC (hX.en hC.en).2.1 tw_1047 dJ0_coder_7d493_0 ?_
  refine a_if_eq (pc := 3) (tgt := 13) hC dJ0_coder_7d493_3 (by decide) (fun c => absurd c (by decide)) (fun _ => ?_)
  refine a_aload_n (pc := 6) hC dJ0_coder_7d493_6 rfl ?_
  refine a_getf (pc := 7) hC ((hX.en hC.en).1.1 i hi).2.1 tw_1323 dJ0_coder_7d493_7 ?_
  refine a_goto (pc := 10) (tgt := 14) hC dJ0_coder_7d493_10 (by decide) ?_
  exact a_zret (pc := 14) hC hE rfl h (Nat.le_refl _) (Nat.le_refl _) dJ0_coder_7d493_14
theorem t_strlen {l : Launch} {g : aG} (hX : isS g) (hl : l.stackTraces = false) {i : Nat} (hi : i < 11) (q : aS) (P : Int32 → aS → Prop) (h : P (Int32.ofNat (sLen.getD i 0)) q) : aMi l g yJ0_length_8abf5 (aWs yJ0_length_8abf5 cJ0_length_8abf5 1 (some .int)) 1 0 0 [.ref (gK g (20 + i))] q P (fun _ _ => False) := by
  refine aMi_of RJ0 ⟨by decide +kernel, rfl⟩ (cat_all rfl) (Nat.le_of_ble_eq_true rfl) hl hX.cl (fun f hR hC hE => ?_)
  show AW f g 0 [some (.ref (gK g (20 + i)))] [] q 0 0
  refine a_aload_n (pc := 0) hC dJ0_length_8abf5_0 rfl ?_
  refine a_getf (pc := 1) hC ((hX.en hC.en).1.1 i hi).2.2.1 tw_1322 dJ0_length_8abf5_1 ?_
  refine a_tlen (pc := 4) hC ((hX.en hC.en).1.1 i hi).2.2.2 dJ0_length_8abf5_4 ?_
  refine a_aload_n (pc := 5) hC dJ0_length_8abf5_5 rfl ?_
  refine a_callR (pc := 6) hC hR vm_J0_coder_7d493 tw_1043 (a_srec hX hC hi) ⟨Nat.le_of_ble_eq_true rfl, Nat.le_of_ble_eq_true rfl, Nat.le_of_ble_eq_true rfl, Nat.le_of_ble_eq_true rfl⟩ dJ0_length_8abf5_6 (t_J0_coder hX hC.tr hi q (fun r u => r = 0 ∧ u = q) ⟨rfl, rfl⟩) rfl rfl rfl (Nat.le_of_ble_eq_true rfl) (fun r q2 h2 => ?_)
  obtain ⟨rfl, rfl⟩ := h2
  refine a_ishr (pc := 9) hC dJ0_length_8abf5_9 ?_
  have e : ∀ x : Int32, x >>> ((0 : Int32) &&& 31) = x := fun x => by
    rw [show (0 : Int32) &&& 31 = 0 by decide]
    exact Int32.shiftRight_zero
  rw [e]
  exact a_iret (pc := 10) hC hE h (Nat.le_refl _) (Nat.le_refl _) dJ0_length_8abf5_10
theorem t_J3_checkIndex {l : Launch} {g : aG} (hcl : gCl g) (hl : l.stackTraces = false) (x y : Int32) (v : Value) (hv : v.category = 1) (q : aS) (P : Int32 → aS → Prop) (h0 : ¬ x < 0) (h1 : x < y) (h : P x q) : aMi l g yJ3_checkIndex_8e157 (aWs yJ3_checkIndex_8e157 cJ3_checkIndex_8e157 3 (some .int)) 0 0 0 [.int x, .int y, v] q P (fun _ _ => False) := by
  refine aMi_of RJ3 ⟨by decide +kernel, rfl⟩ (fun w hw => by
    simp only [List.mem_cons, List.not_mem_nil, or_false] at hw
    rcases hw with rfl | rfl | rfl
    · rfl
    · rfl
    · exact hv) (Nat.le_of_ble_eq_true rfl) hl hcl (fun f hR hC hE => ?_)
  show AW f g 0 [some (.int x), some (.int y), some v] [] q 0 0
  refine a_iload_n (pc := 0) hC dJ3_checkIndex_8e157_0 rfl ?_
  refine a_if_lt (pc := 1) (tgt := 9) hC dJ3_checkIndex_8e157_1 (by decide) (fun c => absurd c h0) (fun _ => ?_)
  refine a_iload_n (pc := 4) hC dJ3_checkIndex_8e157_4 rfl ?_
  refine a_iload_n (pc := 5) hC dJ3_checkIndex_8e157_5 rfl ?_
  refine a_icmp_lt (pc := 6) (tgt := 16) hC dJ3_checkIndex_8e157_6 (by decide) (fun _ => ?_) (fun c => absurd h1 c)
  refine a_iload_n (pc := 16) hC dJ3_checkIndex_8e157_16 rfl ?_
  exact a_iret (pc := 17) hC hE h (Nat.le_refl _) (Nat.le_refl _) dJ3_checkIndex_8e157_17
theorem t_J0_checkIndex {l : Launch} {g : aG} (hX : isS g) (hl : l.stackTraces = false) (x y : Int32) (q : aS) (P : Int32 → aS → Prop) (h0 : ¬ x < 0) (h1 : x < y) (h : P 0 q) : aMv l g yJ0_checkIndex_df160 (aWs yJ0_checkIndex_df160 cJ0_checkIndex_df160 2 none) 1 0 0 [.int x, .int y] q P (fun _ _ => False) := by
  refine aMv_of RJ0 ⟨by decide +kernel, rfl⟩ (cat_all rfl) (Nat.le_of_ble_eq_true rfl) hl hX.cl (fun f hR hC hE => ?_)
  show AW f g 0 [some (.int x), some (.int y)] [] q 0 0
  have go : ∀ v : Value, v.category = 1 → va_Z "jdk/internal/util/Preconditions" "SIOOBE_FORMATTER" "Ljava/util/function/BiFunction;" v (gA g) (f_s f) (f_s f).heap → AW f g 0 [some (.int x), some (.int y)] [] q 0 0 := by
    intro v hv hZ
    refine a_iload_n (pc := 0) hC dJ0_checkIndex_df160_0 rfl ?_
    refine a_iload_n (pc := 1) hC dJ0_checkIndex_df160_1 rfl ?_
    refine a_gets (pc := 2) hC hZ tw_1062 dJ0_checkIndex_df160_2 ?_
    refine a_callS (pc := 5) hC hR sm_J3_checkIndex_8e157 tw_1064 ⟨Nat.le_of_ble_eq_true rfl, Nat.le_of_ble_eq_true rfl, Nat.le_of_ble_eq_true rfl, Nat.le_of_ble_eq_true rfl⟩ dJ0_checkIndex_df160_5 (t_J3_checkIndex hX.cl hC.tr x y v hv q (fun r u => u = q) h0 h1 rfl) rfl rfl rfl (Nat.le_of_ble_eq_true rfl) (fun r q2 h2 => ?_)
    subst h2
    refine a_pop (pc := 8) hC dJ0_checkIndex_df160_8 rfl ?_
    exact a_vret (pc := 9) hC hE h (Nat.le_refl _) (Nat.le_refl _) dJ0_checkIndex_df160_9
  rcases (hX.en hC.en).2.2 with hz | ⟨t, hz⟩
  · exact go _ rfl hz
  · exact go _ rfl hz
/-- the letter of a constant text at a place -/
def sChr (i j : Nat) : Int32 := (((sByt.getD i []).getD j 0 &&& 255).toUInt32 % 65536).toInt32
theorem t_J1_charAt {l : Launch} {g : aG} (hX : isS g) (hl : l.stackTraces = false) {i : Nat} (hi : i < 11) (x : Int32) (q : aS) (P : Int32 → aS → Prop) (hin : vp_in x (sLen.getD i 0)) (h : P (sChr i x.toNatClampNeg) q) : aMi l g yJ1_charAt_3b067 (aWs yJ1_charAt_3b067 cJ1_charAt_3b067 2 (some .char)) 2 0 0 [.ref (gK g (40 + i)), .int x] q P (fun _ _ => False) := by
  refine aMi_of RJ1 ⟨by decide +kernel, rfl⟩ (cat_all rfl) (Nat.le_of_ble_eq_true rfl) hl hX.cl (fun f hR hC hE => ?_)
  show AW f g 0 [some (.ref (gK g (40 + i))), some (.int x)] [] q 0 0
  have hlen : sLen.getD i 0 < 2 ^ 31 := co_dec (N := 11) (P := fun i => sLen.getD i 0 < 2 ^ 31) (by decide +kernel) hi
  have hlt : x < Int32.ofNat (sLen.getD i 0) := by
    obtain ⟨j, hj, rfl⟩ := vp_in_of hin hlen
    exact nI_lt hj hlen
  refine a_iload_n (pc := 0) hC dJ1_charAt_3b067_0 rfl ?_
  refine a_aload_n (pc := 1) hC dJ1_charAt_3b067_1 rfl ?_
  refine a_tlen (pc := 2) hC ((hX.en hC.en).1.1 i hi).2.2.2 dJ1_charAt_3b067_2 ?_
  refine a_callSv (pc := 3) hC hR sm_J0_checkIndex_df160 tw_1059 ⟨Nat.le_of_ble_eq_true rfl, Nat.le_of_ble_eq_true rfl, Nat.le_of_ble_eq_true rfl, Nat.le_of_ble_eq_true rfl⟩ dJ1_charAt_3b067_3 (t_J0_checkIndex hX hC.tr x _ q (fun r u => u = q) (fun c => hin (Or.inl c)) hlt rfl) rfl rfl rfl (Nat.le_of_ble_eq_true rfl) (fun q2 h2 => ?_)
  subst h2
  refine a_aload_n (pc := 6) hC dJ1_charAt_3b067_6 rfl ?_
  refine a_iload_n (pc := 7) hC dJ1_charAt_3b067_7 rfl ?_
  refine a_tinb (pc := 8) hC ((hX.en hC.en).1.1 i hi).2.2.2 hin dJ1_charAt_3b067_8 ?_
  refine a_sipush (pc := 9) hC dJ1_charAt_3b067_9 (v := 255) rfl ?_
  refine a_iand (pc := 12) hC dJ1_charAt_3b067_12 ?_
  refine a_i2c (pc := 13) hC dJ1_charAt_3b067_13 ?_
  exact a_zret (pc := 14) hC hE (pk_nc _) h (Nat.le_refl _) (Nat.le_refl _) dJ1_charAt_3b067_14
theorem t_strchr {l : Launch} {g : aG} (hX : isS g) (hl : l.stackTraces = false) {i : Nat} (hi : i < 11) (x : Int32) (q : aS) (P : Int32 → aS → Prop) (hin : vp_in x (sLen.getD i 0)) (h : P (sChr i x.toNatClampNeg) q) : aMi l g yJ0_charAt_5068e (aWs yJ0_charAt_5068e cJ0_charAt_5068e 2 (some .char)) 3 0 0 [.ref (gK g (20 + i)), .int x] q P (fun _ _ => False) := by
  refine aMi_of RJ0 ⟨by decide +kernel, rfl⟩ (cat_all rfl) (Nat.le_of_ble_eq_true rfl) hl hX.cl (fun f hR hC hE => ?_)
  show AW f g 0 [some (.ref (gK g (20 + i))), some (.int x)] [] q 0 0
  refine a_aload_n (pc := 0) hC dJ0_charAt_5068e_0 rfl ?_
  refine a_callR (pc := 1) hC hR vm_J0_isLatin1_aae02 tw_1052 (a_srec hX hC hi) ⟨Nat.le_of_ble_eq_true rfl, Nat.le_of_ble_eq_true rfl, Nat.le_of_ble_eq_true rfl, Nat.le_of_ble_eq_true rfl⟩ dJ0_charAt_5068e_1 (t_J0_isLatin1 hX hC.tr hi q (fun r u => r = 1 ∧ u = q) ⟨rfl, rfl⟩) rfl rfl rfl (Nat.le_of_ble_eq_true rfl) (fun r q2 h2 => ?_)
  obtain ⟨rfl, rfl⟩ := h2
  refine a_if_eq (pc := 4) (tgt := 16) hC dJ0_charAt_5068e_4 (by decide) (fun c => absurd c (by decide)) (fun _ => ?_)
  refine a_aload_n (pc := 7) hC dJ0_charAt_5068e_7 rfl ?_
  refine a_getf (pc := 8) hC ((hX.en hC.en).1.1 i hi).2.2.1 tw_1322 dJ0_charAt_5068e_8 ?_
  refine a_iload_n (pc := 11) hC dJ0_charAt_5068e_11 rfl ?_
  refine a_callS (pc := 12) hC hR sm_J1_charAt_3b067 tw_1056 ⟨Nat.le_of_ble_eq_true rfl, Nat.le_of_ble_eq_true rfl, Nat.le_of_ble_eq_true rfl, Nat.le_of_ble_eq_true rfl⟩ dJ0_charAt_5068e_12 (t_J1_charAt hX hC.tr hi x q2 (fun r u => r = sChr i x.toNatClampNeg ∧ u = q2) hin ⟨rfl, rfl⟩) rfl rfl rfl (Nat.le_of_ble_eq_true rfl) (fun r q3 h3 => ?_)
  obtain ⟨rfl, rfl⟩ := h3
  exact a_zret (pc := 15) hC hE (pk_nc _) h (Nat.le_refl _) (Nat.le_refl _) dJ0_charAt_5068e_15
section STR2
variable {f : aF} {g : aG} {cc : ByteArray} {nL : Nat} {own : String} {pc : Nat} {L : List (Option Value)} {st : List Value} {q : aS} {k n : Nat}
theorem a_strlen (hX : isS g) (hC : aOK f g cc nL own) {N mcR msR index : Nat} (hR : f_R f = aR N mcR msR) {i : Nat} (hi : i < 11) (hw : Cond.methodLink own index yJ0_length_8abf5 ∈ lw_tbl) (hL : L.length = nL) (hN : 2 ≤ N ∧ k ≤ mcR ∧ n ≤ msR) (hrest : (st.map fun v => v.category).sum ≤ 8) (dg : decode cc pc = .ok (.invokevirtual index, 3)) (kk : AW f g (pc + 3) L (.int (Int32.ofNat (sLen.getD i 0)) :: st) q k n) : AW f g pc L (.ref (gK g (20 + i)) :: st) q k n :=
  a_callR hC hR vm_J0_length_8abf5 hw (a_srec hX hC hi) ⟨hN.1, Nat.le_of_ble_eq_true rfl, hN.2.1, hN.2.2⟩ dg (t_strlen hX hC.tr hi q (fun r u => r = Int32.ofNat (sLen.getD i 0) ∧ u = q) ⟨rfl, rfl⟩) rfl rfl hL hrest (fun r q2 h2 => by
    obtain ⟨rfl, rfl⟩ := h2
    exact kk)
theorem a_strchr (hX : isS g) (hC : aOK f g cc nL own) {N mcR msR index : Nat} (hR : f_R f = aR N mcR msR) {i : Nat} (hi : i < 11) (hw : Cond.methodLink own index yJ0_charAt_5068e ∈ lw_tbl) (hL : L.length = nL) (hN : 4 ≤ N ∧ k ≤ mcR ∧ n ≤ msR) (hrest : (st.map fun v => v.category).sum ≤ 8) {x : Int32} (hin : vp_in x (sLen.getD i 0)) (dg : decode cc pc = .ok (.invokevirtual index, 3)) (kk : AW f g (pc + 3) L (.int (sChr i x.toNatClampNeg) :: st) q k n) : AW f g pc L (.int x :: .ref (gK g (20 + i)) :: st) q k n :=
  a_callR (As := [.int x]) hC hR vm_J0_charAt_5068e hw (a_srec hX hC hi) ⟨hN.1, Nat.le_of_ble_eq_true rfl, hN.2.1, hN.2.2⟩ dg (t_strchr hX hC.tr hi x q (fun r u => r = sChr i x.toNatClampNeg ∧ u = q) hin ⟨rfl, rfl⟩) rfl rfl hL hrest (fun r q2 h2 => by
    obtain ⟨rfl, rfl⟩ := h2
    exact kk)
/-- the reference's row of words -/
theorem a_ldcM (hX : isM g) (hC : aOK f g cc nL "EchoCouncilModel") (dg : decode cc pc = .ok (.ldc 238, 2)) (kk : AW f g (pc + 2) L (.ref (gK g (20 + 10)) :: st) q k n) : AW f g pc L st q k n := fun ls H locs ex hl hI hS =>
  va_ldcS hC.x hC.b hC.o (hX.2.2.2.2 _ _ hC.en).2 dg (kk ls H locs ex hl hI hS)
/-- a kind is put into the orders' kinds -/
theorem a_aastk (hX : isX g) (hC : aOK f g cc nL own) {j : Nat} (hj : j < 10) {i : Int32} (hin : vp_in i 10) (dg : decode cc pc = .ok (.aastore, 1)) (kk : AW f g (pc + 1) L st (up2 q.1 192 i.toNatClampNeg (nI j), q.2) k n) : AW f g pc L (.ref (gK g j) :: .int i :: .ref (gAd g 192) :: st) q k n := fun ls H locs ex hl hI hS => by
  have hp := oX_192 hX
  have hO := ((hX.en hC.en).2.2.1.1 j hj).2.1
  obtain ⟨cell, h1, h2, h3, -⟩ := hO.kept hS.2.1
  have hany : va_Any "EchoCouncil$OrderKind" (f_s f) H (gK g j) := by
    obtain ⟨kC, hkC, -⟩ := Vm.findClass_spec h3
    refine ⟨cell, h1, h2, ⟨kC, hkC⟩, fun comp hc => ?_⟩
    cases Option.some.inj (hc.symm.trans h3)
    show Vm.assignableAux _ (255 + 1) _ _ = true
    rw [Vm.assignableAux]
    simp
  refine va_astqM hC.x hC.b hC.K hI.2.1 hI.2.2 hS 192 3 ((aWl_at g q.1 ex hp.1).trans (by rw [hp.2.1])) hp.2.2 hany hin dg (fun H1 locs1 hP hD hS1 => ?_)
  have e : va_up (fun j => some (gK g (q.1 192 j).toNatClampNeg)) i.toNatClampNeg (some (gK g j)) = (fun j' => some (gK g (upd (q.1 192) i.toNatClampNeg (nI j) j').toNatClampNeg)) := by
    funext j'
    unfold va_up upd
    by_cases c : j' = i.toNatClampNeg
    · rw [if_pos c, if_pos c, nI_clamp (show j < 2 ^ 31 by omega)]
    · rw [if_neg c, if_neg c]
  rw [e] at hP hD
  have hs := hp.2.1 (upd (q.1 192) i.toNatClampNeg (nI j))
  rw [← hs, aWl_set g q.1 ex hp.1] at hP hD
  exact kk ls H1 locs1 ex hl ⟨hI.1, hP, hD⟩ hS1
end STR2

/-! the StringBuilder: calls with what follows them; the small methods -/
theorem sh0r (x : Int32) : x >>> ((0 : Int32) &&& 31) = x := by
  rw [show (0 : Int32) &&& 31 = 0 by decide]
  exact Int32.shiftRight_zero
theorem sh0l (x : Int32) : x <<< ((0 : Int32) &&& 31) = x := by
  rw [show (0 : Int32) &&& 31 = 0 by decide]
  exact Int32.shiftLeft_zero
section SB2
variable {f : aF} {g : aG} {z : lP} {cc : ByteArray} {nL : Nat} {own : String} {pc : Nat} {L : List (Option Value)} {st rest : List Value} {q : aS} {dX : Nat → Nat → Int32} {t t' t0 : List Nat} {RS : va_W} {ba : Nat} {k n qv m : Nat} {d : Nat → Nat → Int32}
theorem lB_cl : gCl (lB z RS ba qv m) := lEn_cl (z := z) rfl rfl
theorem lB_en (hC : aOK f (lB z RS ba qv m) cc nL own) : lEn z (f_s f) (f_s f).heap := hC.en
theorem lOK_BB (hC : aOK f (lB z RS ba qv m) cc nL own) (qv' m' : Nat) : aOK f (lB z RS ba qv' m') cc nL own :=
  ⟨hC.1, hC.2.1, hC.2.2.1, hC.2.2.2.1, hC.2.2.2.2.1, hC.2.2.2.2.2.1, hC.2.2.2.2.2.2.1, hC.2.2.2.2.2.2.2.1, hC.2.2.2.2.2.2.2.2.1, hC.2.2.2.2.2.2.2.2.2.1, lB_cl⟩
/-- an int's call, of the superclass and on the superclass -/
theorem b_superI {y : MethodName} {idx : Nat} {bytes : ByteArray} {maxL n' mc ms N mcR msR mP : Nat} {ty : FieldType} {As : List Value} {P : Int32 → aS → Prop} (hC : aOK f (lB z RS ba qv m) cc nL RJ4) (hR : f_R f = aR N mcR msR) (hm : aSu y idx bytes maxL (some ty) mP) (hfit : aFit maxL n' mc ms k n N mcR msR) (dg : decode cc pc = .ok (.invokespecial idx, 3))
    (hM : aMi (f_l f) (lB z RS ba qv m) y (aWs y bytes maxL (some ty)) n' mc ms (.ref ba :: As) (d, []) P noX) (hst : st = As.reverse ++ .ref ba :: rest) (hn : As.length = mP) (hL : L.length = nL) (hrest : (rest.map fun v => v.category).sum ≤ 8) (kk : ∀ (r : Int32) (q' : aS), P r q' → AW f (lB z RS ba qv m) (pc + 3) L (.int r :: rest) q' (k + mc) (n + ms)) : AW f (lB z RS ba qv m) pc L st (d, []) k n := by
  intro ls H locs ex hl hI hS
  subst hst
  refine va_calli (b_super hC hR hm hfit dg hM hn hL hrest hl hI hS) hS (fun _ _ h => h) (fun _ h => h) (fun r u t H1 locs1 ht hvm hp1 hB hz hk1 hS1 => ?_)
  obtain ⟨ex', hI'⟩ := hB
  rw [ht] at hI'
  exact kk r u hp1 ls H1 locs1 ex' hl hI' hS1
theorem b_superV {y : MethodName} {idx : Nat} {bytes : ByteArray} {maxL n' mc ms N mcR msR mP M : Nat} {As : List Value} (hC : aOK f (lB z RS ba qv m) cc nL RJ4) (hR : f_R f = aR N mcR msR) (hm : aSu y idx bytes maxL none mP) (hfit : aFit maxL n' mc ms k n N mcR msR) (dg : decode cc pc = .ok (.invokespecial idx, 3))
    (hM : bM (f_l f) z RS ba qv m d y (aWs y bytes maxL none) n' mc ms (.ref ba :: As) (bQv z RS ba dX t M)) (hst : st = As.reverse ++ .ref ba :: rest) (hn : As.length = mP) (hL : L.length = nL) (hrest : (rest.map fun v => v.category).sum ≤ 8) (kk : ∀ qv' m' d', bE dX t M (qv', m', d') → AW f (lB z RS ba qv' m') (pc + 3) L rest (d', []) (k + mc) (n + ms)) : AW f (lB z RS ba qv m) pc L st (d, []) k n := by
  intro ls H locs ex hl hI hS
  subst hst
  refine va_callv (b_super hC hR hm hfit dg hM hn hL hrest hl hI hS) hS (fun _ _ h => h) (fun _ h => h) (fun u t H1 locs1 ht hvm hp1 hB hz hk1 hS1 => ?_)
  obtain ⟨qv', m', d'⟩ := u
  obtain ⟨ex', hI'⟩ := hB
  rw [ht] at hI'
  exact kk qv' m' d' hp1 ls H1 locs1 ex' hl hI' hS1
theorem b_superQ {y : MethodName} {idx : Nat} {bytes : ByteArray} {maxL n' mc ms N mcR msR mP M : Nat} {ty : FieldType} {As : List Value} (hC : aOK f (lB z RS ba qv m) cc nL RJ4) (hR : f_R f = aR N mcR msR) (hm : aSu y idx bytes maxL (some ty) mP) (hfit : aFit maxL n' mc ms k n N mcR msR) (dg : decode cc pc = .ok (.invokespecial idx, 3))
    (hM : bM (f_l f) z RS ba qv m d y (aWs y bytes maxL (some ty)) n' mc ms (.ref ba :: As) (bQq z RS ba dX t M)) (hst : st = As.reverse ++ .ref ba :: rest) (hn : As.length = mP) (hL : L.length = nL) (hrest : (rest.map fun v => v.category).sum ≤ 8) (kk : ∀ qv' m' d', bE dX t M (qv', m', d') → AW f (lB z RS ba qv' m') (pc + 3) L (.ref ba :: rest) (d', []) (k + mc) (n + ms)) : AW f (lB z RS ba qv m) pc L st (d, []) k n := by
  intro ls H locs ex hl hI hS
  subst hst
  refine va_callq (b_super hC hR hm hfit dg hM hn hL hrest hl hI hS) hS (fun _ _ h => h) (fun _ h => h) (fun r u t H1 locs1 ht hvm hp1 hB hz hk1 hS1 => ?_)
  obtain ⟨qv', m', d'⟩ := u
  obtain ⟨ex', hI'⟩ := hB
  obtain ⟨rfl, hp2⟩ := hp1
  rw [ht] at hI'
  exact kk qv' m' d' hp2 ls H1 locs1 ex' hl hI' hS1
theorem b_upI {y : MethodName} {idx : Nat} {bytes : ByteArray} {maxL n' mc ms N mcR msR mP : Nat} {ty : FieldType} {As : List Value} {P : Int32 → aS → Prop} (hC : aOK f (lB z RS ba qv m) cc nL RJ5) (hR : f_R f = aR N mcR msR) (hm : aUp y idx bytes maxL (some ty) mP) (hfit : aFit maxL n' mc ms k n N mcR msR) (dg : decode cc pc = .ok (.invokevirtual idx, 3))
    (hM : aMi (f_l f) (lB z RS ba qv m) y (aWs y bytes maxL (some ty)) n' mc ms (.ref ba :: As) (d, []) P noX) (hst : st = As.reverse ++ .ref ba :: rest) (hn : As.length = mP) (hL : L.length = nL) (hrest : (rest.map fun v => v.category).sum ≤ 8) (kk : ∀ (r : Int32) (q' : aS), P r q' → AW f (lB z RS ba qv m) (pc + 3) L (.int r :: rest) q' (k + mc) (n + ms)) : AW f (lB z RS ba qv m) pc L st (d, []) k n := by
  intro ls H locs ex hl hI hS
  subst hst
  refine va_calli (b_up hC hR hm hfit dg hM hn hL hrest hl hI hS) hS (fun _ _ h => h) (fun _ h => h) (fun r u t H1 locs1 ht hvm hp1 hB hz hk1 hS1 => ?_)
  obtain ⟨ex', hI'⟩ := hB
  rw [ht] at hI'
  exact kk r u hp1 ls H1 locs1 ex' hl hI' hS1
theorem b_upV {y : MethodName} {idx : Nat} {bytes : ByteArray} {maxL n' mc ms N mcR msR mP M : Nat} {As : List Value} (hC : aOK f (lB z RS ba qv m) cc nL RJ5) (hR : f_R f = aR N mcR msR) (hm : aUp y idx bytes maxL none mP) (hfit : aFit maxL n' mc ms k n N mcR msR) (dg : decode cc pc = .ok (.invokevirtual idx, 3))
    (hM : bM (f_l f) z RS ba qv m d y (aWs y bytes maxL none) n' mc ms (.ref ba :: As) (bQv z RS ba dX t M)) (hst : st = As.reverse ++ .ref ba :: rest) (hn : As.length = mP) (hL : L.length = nL) (hrest : (rest.map fun v => v.category).sum ≤ 8) (kk : ∀ qv' m' d', bE dX t M (qv', m', d') → AW f (lB z RS ba qv' m') (pc + 3) L rest (d', []) (k + mc) (n + ms)) : AW f (lB z RS ba qv m) pc L st (d, []) k n := by
  intro ls H locs ex hl hI hS
  subst hst
  refine va_callv (b_up hC hR hm hfit dg hM hn hL hrest hl hI hS) hS (fun _ _ h => h) (fun _ h => h) (fun u t H1 locs1 ht hvm hp1 hB hz hk1 hS1 => ?_)
  obtain ⟨qv', m', d'⟩ := u
  obtain ⟨ex', hI'⟩ := hB
  rw [ht] at hI'
  exact kk qv' m' d' hp1 ls H1 locs1 ex' hl hI' hS1
end SB2
section SB3
variable {l : Launch} {z : lP} {dX : Nat → Nat → Int32} {t : List Nat} {RS : va_W} {ba : Nat} {qv m : Nat} {d : Nat → Nat → Int32} {P : Int32 → aS → Prop}
theorem t_isLatin1 (hl : l.stackTraces = false) (h : P 1 (d, [])) : aMi l (lB z RS ba qv m) yJ5_isLatin1_aae02 (aWs yJ5_isLatin1_aae02 cJ5_isLatin1_aae02 1 (some .boolean)) 0 0 0 [.ref ba] (d, []) P noX := by
  refine aMi_of RJ5 ⟨by decide +kernel, rfl⟩ (cat_all rfl) (Nat.le_of_ble_eq_true rfl) hl lB_cl (fun f hR hC hE => ?_)
  show AW f (lB z RS ba qv m) 0 [some (.ref ba)] [] (d, []) 0 0
  refine a_gets (pc := 0) hC (lB_en hC).1.1.2.1 tw_279 dJ5_isLatin1_aae02_0 ?_
  refine a_if_eq (pc := 3) (tgt := 17) hC dJ5_isLatin1_aae02_3 (by decide) (fun c => absurd c (by decide)) (fun _ => ?_)
  refine a_aload_n (pc := 6) hC dJ5_isLatin1_aae02_6 rfl ?_
  refine sb_coder (pc := 7) hC dJ5_isLatin1_aae02_7 ?_
  refine a_if_ne (pc := 10) (tgt := 17) hC dJ5_isLatin1_aae02_10 (by decide) (fun c => absurd rfl c) (fun _ => ?_)
  refine a_iconst (pc := 13) hC dJ5_isLatin1_aae02_13 (v := 1) rfl ?_
  refine a_goto (pc := 14) (tgt := 18) hC dJ5_isLatin1_aae02_14 (by decide) ?_
  exact a_zret (pc := 18) hC hE rfl h (Nat.le_refl _) (Nat.le_refl _) dJ5_isLatin1_aae02_18
theorem t_canEncode {g : aG} (hcl : gCl g) (hl : l.stackTraces = false) {x : Int32} (hx : ¬ 255 < x) {q : aS} (h : P 1 q) : aMi l g yJ1_canEncode_fc78d (aWs yJ1_canEncode_fc78d cJ1_canEncode_fc78d 1 (some .boolean)) 0 0 0 [.int x] q P noX := by
  refine aMi_of RJ1 ⟨by decide +kernel, rfl⟩ (cat_all rfl) (Nat.le_of_ble_eq_true rfl) hl hcl (fun f hR hC hE => ?_)
  show AW f g 0 [some (.int x)] [] q 0 0
  refine a_iload_n (pc := 0) hC dJ1_canEncode_fc78d_0 rfl ?_
  refine a_sipush (pc := 1) hC dJ1_canEncode_fc78d_1 (v := 255) rfl ?_
  refine a_icmp_gt (pc := 4) (tgt := 11) hC dJ1_canEncode_fc78d_4 (by decide) (fun c => absurd c hx) (fun _ => ?_)
  refine a_iconst (pc := 7) hC dJ1_canEncode_fc78d_7 (v := 1) rfl ?_
  refine a_goto (pc := 8) (tgt := 12) hC dJ1_canEncode_fc78d_8 (by decide) ?_
  exact a_zret (pc := 12) hC hE rfl h (Nat.le_refl _) (Nat.le_refl _) dJ1_canEncode_fc78d_12
theorem mxI {a b : Nat} (ha : a < 1000) (hb : b < 1000) : (if nI a < nI b then nI b else nI a) = nI (Nat.max a b) := by
  by_cases c : a < b
  · rw [if_pos (nI_lt c (by omega)), show Nat.max a b = b from Nat.max_eq_right (by omega)]
  · rw [if_neg (nI_nlt (by omega) (by omega)), show Nat.max a b = a from Nat.max_eq_left (by omega)]
theorem t_newLength {g : aG} (hcl : gCl g) (hl : l.stackTraces = false) {a b c : Nat} (h0 : 0 < a + Nat.max b c) (ha : a < 300) (hb : b < 300) (hc : c < 300) {q : aS} (h : P (nI (a + Nat.max b c)) q) : aMi l g yJ8_newLength_cabcc (aWs yJ8_newLength_cabcc cJ8_newLength_cabcc 4 (some .int)) 1 0 0 [.int (nI a), .int (nI b), .int (nI c)] q P noX := by
  have hm : Nat.max b c < 300 := Nat.max_lt.mpr ⟨hb, hc⟩
  refine aMi_of RJ8 ⟨by decide +kernel, rfl⟩ (cat_all rfl) (Nat.le_of_ble_eq_true rfl) hl hcl (fun f hR hC hE => ?_)
  show AW f g 0 [some (.int (nI a)), some (.int (nI b)), some (.int (nI c)), none] [] q 0 0
  refine a_iload_n (pc := 0) hC dJ8_newLength_cabcc_0 rfl ?_
  refine a_iload_n (pc := 1) hC dJ8_newLength_cabcc_1 rfl ?_
  refine a_iload_n (pc := 2) hC dJ8_newLength_cabcc_2 rfl ?_
  refine a_mmax (pc := 3) hC hR ⟨Nat.le_refl _, Nat.le_refl _, Nat.le_refl _⟩ rfl tw_1127 tw_581 tw_23 tw_582 (Nat.le_of_ble_eq_true rfl) dJ8_newLength_cabcc_3 ?_
  rw [mxI (by omega) (by omega)]
  refine a_iadd (pc := 6) hC dJ8_newLength_cabcc_6 ?_
  rw [nI_add]
  refine a_istore_n (pc := 7) hC dJ8_newLength_cabcc_7 (Nat.le_of_ble_eq_true rfl) ?_
  refine a_iconst (pc := 8) hC dJ8_newLength_cabcc_8 (v := 0) rfl ?_
  refine a_iload_n (pc := 9) hC dJ8_newLength_cabcc_9 rfl ?_
  refine a_icmp_ge (pc := 10) (tgt := 21) hC dJ8_newLength_cabcc_10 (by decide) (fun c => absurd c (nI_nle h0 (by omega))) (fun _ => ?_)
  refine a_iload_n (pc := 13) hC dJ8_newLength_cabcc_13 rfl ?_
  refine a_ldcI (pc := 14) hC tw_1128 dJ8_newLength_cabcc_14 ?_
  refine a_icmp_gt (pc := 16) (tgt := 21) hC dJ8_newLength_cabcc_16 (by decide) (fun y => absurd (show nI 2147483639 < nI (a + Nat.max b c) from y) (nI_nlt (by omega) (by omega))) (fun _ => ?_)
  refine a_iload_n (pc := 19) hC dJ8_newLength_cabcc_19 rfl ?_
  exact a_iret (pc := 20) hC hE h (Nat.le_refl _) (Nat.le_refl _) dJ8_newLength_cabcc_20
end SB3

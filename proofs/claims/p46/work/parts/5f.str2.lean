/-! String: coder, length, charAt of a text -/
section STR2
variable {l : Launch} {g : aG} {z : lP} {RS : va_W} {a qa : Nat} {w : List Nat} {q : aS} {P : Int32 → aS → Prop}
theorem s_isLatin1 (hi : inR g z RS) (hl : l.stackTraces = false) (hs : Str z RS a qa w) (h : P 1 q) : aMi l g yJ0_isLatin1_aae02 (aWs yJ0_isLatin1_aae02 cJ0_isLatin1_aae02 1 (some .boolean)) 0 0 0 [.ref a] q P (fun _ _ => False) := by
  refine aMi_of RJ0 ⟨by decide +kernel, rfl⟩ (cat_all rfl) (Nat.le_of_ble_eq_true rfl) hl hi.cl (fun f hR hC hE => ?_)
  show AW f g 0 [some (.ref a)] [] q 0 0
  refine a_gets (pc := 0) hC (hi.toS.en hC.en).2.1 tw_928 dJ0_isLatin1_aae02_0 ?_
  refine a_if_eq (pc := 3) (tgt := 17) hC dJ0_isLatin1_aae02_3 (by decide) (fun c => absurd c (by decide)) (fun _ => ?_)
  refine a_aload_n (pc := 6) hC dJ0_isLatin1_aae02_6 rfl ?_
  refine s_coder (pc := 7) hi hC hs tw_1283 dJ0_isLatin1_aae02_7 ?_
  refine a_if_ne (pc := 10) (tgt := 17) hC dJ0_isLatin1_aae02_10 (by decide) (fun c => absurd rfl c) (fun _ => ?_)
  refine a_iconst (pc := 13) hC dJ0_isLatin1_aae02_13 (v := 1) rfl ?_
  refine a_goto (pc := 14) (tgt := 18) hC dJ0_isLatin1_aae02_14 (by decide) ?_
  exact a_zret (pc := 18) hC hE rfl h (Nat.le_refl _) (Nat.le_refl _) dJ0_isLatin1_aae02_18
theorem s_coderM (hi : inR g z RS) (hl : l.stackTraces = false) (hs : Str z RS a qa w) (h : P 0 q) : aMi l g yJ0_coder_7d493 (aWs yJ0_coder_7d493 cJ0_coder_7d493 1 (some .byte)) 0 0 0 [.ref a] q P (fun _ _ => False) := by
  refine aMi_of RJ0 ⟨by decide +kernel, rfl⟩ (cat_all rfl) (Nat.le_of_ble_eq_true rfl) hl hi.cl (fun f hR hC hE => ?_)
  show AW f g 0 [some (.ref a)] [] q 0 0
  refine a_gets (pc := 0) hC (hi.toS.en hC.en).2.1 tw_928 dJ0_coder_7d493_0 ?_
  refine a_if_eq (pc := 3) (tgt := 13) hC dJ0_coder_7d493_3 (by decide) (fun c => absurd c (by decide)) (fun _ => ?_)
  refine a_aload_n (pc := 6) hC dJ0_coder_7d493_6 rfl ?_
  refine s_coder (pc := 7) hi hC hs tw_1283 dJ0_coder_7d493_7 ?_
  refine a_goto (pc := 10) (tgt := 14) hC dJ0_coder_7d493_10 (by decide) ?_
  exact a_zret (pc := 14) hC hE rfl h (Nat.le_refl _) (Nat.le_refl _) dJ0_coder_7d493_14
end STR2
section STR3
variable {f : aF} {g : aG} {z : lP} {RS : va_W} {cc : ByteArray} {nL : Nat} {own : String} {pc : Nat} {L : List (Option Value)} {st : List Value} {q : aS} {k n a qa : Nat} {w : List Nat}
/-- a call of a method of a text -/
theorem s_call {y : MethodName} {bytes : ByteArray} {maxL n' mc ms N mcR msR index m : Nat} {ty : FieldType} {As : List Value} {P : Int32 → aS → Prop}
    (hi : inR g z RS) (hC : aOK f g cc nL own) (hs : Str z RS a qa w) (hR : f_R f = aR N mcR msR) (hm : aVm y RJ0 bytes maxL (some ty) m) (hw : Cond.methodLink own index y ∈ lw_tbl) (hfit : aFit maxL n' mc ms k n N mcR msR) {rest : List Value} (dg : decode cc pc = .ok (.invokevirtual index, 3))
    (hM : aMi (f_l f) g y (aWs y bytes maxL (some ty)) n' mc ms (.ref a :: As) q P (fun _ _ => False)) (hst : st = As.reverse ++ .ref a :: rest) (hn : As.length = m) (hL : L.length = nL) (hrest : (rest.map fun v => v.category).sum ≤ 8) (kk : ∀ (r : Int32) (q' : aS), P r q' → AW f g (pc + 3) L (.int r :: rest) q' (k + mc) (n + ms)) : AW f g pc L st q k n := by
  intro ls H locs ex hl hI hS
  subst hst
  have hf := hfit.loc
  rw [← hR] at hf
  have hrun := vx_runV (rest := rest) (g := F0 (f_m f) pc ls (As.reverse ++ .ref a :: rest)) (locs := locs) (meth := f_me f) (below := f_b f) (e := f_e f) (cells := k) (slots := n) (S := (⟨hC.x, hC.b, hC.ml, hC.o, hC.ts⟩ : CallFix (f_p f) (f_m f) (f_c f) cc nL (f_s f) (f_a f) TW own)) hM (cwV m hC.ts (good_V hm hw) rfl rfl rfl hm.2.2.2.2 hf) ⟨aBlind hC.cl _ q, s_recv hi hC hs hI hS, fun U hU hW => ⟨rfl, aWd_of hC hI hS hU hW⟩⟩ rfl hn (hl.1.trans hL) rfl (lv_room hrest) dg (by rw [hR]; exact ⟨hfit.2.2.1, hfit.2.2.2⟩)
  refine vx_calli hrun hS (fun _ _ h => h) (fun _ h => h) (fun _ _ h => h) (fun E ce q9 u t H1 locs1 ht hvm _ hB => hB.1.elim) (fun r u t H1 locs1 ht hvm hp1 hB hz hk1 hS1 => ?_)
  obtain ⟨ex', hI'⟩ := hB
  rw [ht] at hI'
  exact kk r u hp1 ls H1 locs1 ex' hl hI' hS1
end STR3
section STR4
variable {l : Launch} {g : aG} {z : lP} {RS : va_W} {a qa : Nat} {w : List Nat} {q : aS} {P : Int32 → aS → Prop}
theorem s_lengthM (hi : inR g z RS) (ht : z.2.1.map Prod.snd = tyX) (hl : l.stackTraces = false) (hs : Str z RS a qa w) (h : P (nI w.length) q) : aMi l g yJ0_length_8abf5 (aWs yJ0_length_8abf5 cJ0_length_8abf5 1 (some .int)) 1 0 0 [.ref a] q P (fun _ _ => False) := by
  refine aMi_of RJ0 ⟨by decide +kernel, rfl⟩ (cat_all rfl) (Nat.le_of_ble_eq_true rfl) hl hi.cl (fun f hR hC hE => ?_)
  show AW f g 0 [some (.ref a)] [] q 0 0
  refine a_aload_n (pc := 0) hC dJ0_length_8abf5_0 rfl ?_
  refine s_value (pc := 1) hi hC hs tw_1282 dJ0_length_8abf5_1 ?_
  refine s_len (pc := 4) hi ht hC hs dJ0_length_8abf5_4 ?_
  refine a_aload_n (pc := 5) hC dJ0_length_8abf5_5 rfl ?_
  refine s_call (As := []) (pc := 6) hi hC hs hR vm_J0_coder_7d493 tw_924 ⟨Nat.le_refl _, Nat.le_of_ble_eq_true rfl, Nat.le_refl _, Nat.le_refl _⟩ dJ0_length_8abf5_6 (s_coderM (P := fun r u => r = 0 ∧ u = q) hi hC.tr hs ⟨rfl, rfl⟩) rfl rfl rfl (Nat.le_of_ble_eq_true rfl) (fun r q2 h2 => ?_)
  obtain ⟨rfl, rfl⟩ := h2
  refine a_ishr (pc := 9) hC dJ0_length_8abf5_9 ?_
  rw [sh0r]
  exact a_iret (pc := 10) hC hE h (Nat.le_refl _) (Nat.le_refl _) dJ0_length_8abf5_10
theorem s_charAt1 (hi : inR g z RS) (ht : z.2.1.map Prod.snd = tyX) (hl : l.stackTraces = false) (hs : Str z RS a qa w) (hw : okT w) {j : Nat} (hj : j < w.length) (h : P (nI (w.getD j 0)) q) : aMi l g yJ1_charAt_3b067 (aWs yJ1_charAt_3b067 cJ1_charAt_3b067 2 (some .char)) 2 0 0 [.ref qa, .int (nI j)] q P (fun _ _ => False) := by
  have hw60 := hw.1
  have h128 := hw.2 j hj
  refine aMi_of RJ1 ⟨by decide +kernel, rfl⟩ (cat_all rfl) (Nat.le_of_ble_eq_true rfl) hl hi.cl (fun f hR hC hE => ?_)
  show AW f g 0 [some (.ref qa), some (.int (nI j))] [] q 0 0
  refine a_iload_n (pc := 0) hC dJ1_charAt_3b067_0 rfl ?_
  refine a_aload_n (pc := 1) hC dJ1_charAt_3b067_1 rfl ?_
  refine s_len (pc := 2) hi ht hC hs dJ1_charAt_3b067_2 ?_
  refine a_callSv (pc := 3) hC hR sm_J0_checkIndex_df160 tw_940 ⟨Nat.le_refl _, Nat.le_of_ble_eq_true rfl, Nat.le_refl _, Nat.le_refl _⟩ dJ1_charAt_3b067_3 (t_J0_checkIndex hi.toS hC.tr (nI j) (nI w.length) q (fun r u => u = q) (nI_pos (by omega)) (nI_lt hj (by omega)) rfl) rfl rfl rfl (Nat.le_of_ble_eq_true rfl) (fun q2 h2 => ?_)
  subst h2
  refine a_aload_n (pc := 6) hC dJ1_charAt_3b067_6 rfl ?_
  refine a_iload_n (pc := 7) hC dJ1_charAt_3b067_7 rfl ?_
  refine s_bald (pc := 8) hi ht hC hs (vp_in_nI hj (by omega)) dJ1_charAt_3b067_8 (by omega) ?_
  rw [nI_clamp (show j < 2 ^ 31 by omega)]
  refine a_sipush (pc := 9) hC dJ1_charAt_3b067_9 (v := 255) rfl ?_
  refine a_iand (pc := 12) hC dJ1_charAt_3b067_12 ?_
  refine a_i2c (pc := 13) hC dJ1_charAt_3b067_13 ?_
  rw [(i2b_c _ h128).2.2.2]
  have hnc := pk_nc (nI (w.getD j 0) &&& 255)
  rw [(i2b_c _ h128).2.2.2] at hnc
  exact a_zret (pc := 14) hC hE hnc h (Nat.le_refl _) (Nat.le_refl _) dJ1_charAt_3b067_14
theorem s_charAtM (hi : inR g z RS) (ht : z.2.1.map Prod.snd = tyX) (hl : l.stackTraces = false) (hs : Str z RS a qa w) (hw : okT w) {j : Nat} (hj : j < w.length) (h : P (nI (w.getD j 0)) q) : aMi l g yJ0_charAt_5068e (aWs yJ0_charAt_5068e cJ0_charAt_5068e 2 (some .char)) 3 0 0 [.ref a, .int (nI j)] q P (fun _ _ => False) := by
  have h128 := hw.2 j hj
  refine aMi_of RJ0 ⟨by decide +kernel, rfl⟩ (cat_all rfl) (Nat.le_of_ble_eq_true rfl) hl hi.cl (fun f hR hC hE => ?_)
  show AW f g 0 [some (.ref a), some (.int (nI j))] [] q 0 0
  refine a_aload_n (pc := 0) hC dJ0_charAt_5068e_0 rfl ?_
  refine s_call (As := []) (pc := 1) hi hC hs hR vm_J0_isLatin1_aae02 tw_933 ⟨Nat.le_of_ble_eq_true rfl, Nat.le_of_ble_eq_true rfl, Nat.le_refl _, Nat.le_refl _⟩ dJ0_charAt_5068e_1 (s_isLatin1 (P := fun r u => r = 1 ∧ u = q) hi hC.tr hs ⟨rfl, rfl⟩) rfl rfl rfl (Nat.le_of_ble_eq_true rfl) (fun r q2 h2 => ?_)
  obtain ⟨rfl, rfl⟩ := h2
  refine a_if_eq (pc := 4) (tgt := 16) hC dJ0_charAt_5068e_4 (by decide) (fun c => absurd c (by decide)) (fun _ => ?_)
  refine a_aload_n (pc := 7) hC dJ0_charAt_5068e_7 rfl ?_
  refine s_value (pc := 8) hi hC hs tw_1282 dJ0_charAt_5068e_8 ?_
  refine a_iload_n (pc := 11) hC dJ0_charAt_5068e_11 rfl ?_
  refine a_callS (pc := 12) hC hR sm_J1_charAt_3b067 tw_937 ⟨Nat.le_refl _, Nat.le_of_ble_eq_true rfl, Nat.le_refl _, Nat.le_refl _⟩ dJ0_charAt_5068e_12 (s_charAt1 (P := fun r u => r = nI (w.getD j 0) ∧ u = q2) hi ht hC.tr hs hw hj ⟨rfl, rfl⟩) rfl rfl rfl (Nat.le_of_ble_eq_true rfl) (fun r q3 h3 => ?_)
  obtain ⟨rfl, rfl⟩ := h3
  have hnc := pk_nc (nI (w.getD j 0) &&& 255)
  rw [(i2b_c _ h128).2.2.2] at hnc
  exact a_zret (pc := 15) hC hE hnc h (Nat.le_refl _) (Nat.le_refl _) dJ0_charAt_5068e_15
end STR4

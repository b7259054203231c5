/-! the StringBuilder: new capacity, ensureCapacityInternal -/
section SB5
variable {f : aF} {z : lP} {cc : ByteArray} {nL : Nat} {own : String} {pc : Nat} {L : List (Option Value)} {st rest : List Value} {dX : Nat → Nat → Int32} {t : List Nat} {RS : va_W} {ba : Nat} {k n qv m : Nat} {d : Nat → Nat → Int32}
def ncap (q m : Nat) : Nat := m + Nat.max (q - m) (m + 2)
theorem ncap_le {q m : Nat} (hq : q ≤ 60) (hm : m < q) : q ≤ ncap q m ∧ ncap q m ≤ 120 ∧ m < ncap q m := by
  unfold ncap
  have h1 := Nat.le_max_left (q - m) (m + 2)
  have h2 : Nat.max (q - m) (m + 2) ≤ 61 := Nat.max_le.mpr ⟨by omega, by omega⟩
  have h3 := Nat.le_max_right (q - m) (m + 2)
  have h1 : q - m ≤ Nat.max (q - m) (m + 2) := h1
  have h3 : m + 2 ≤ Nat.max (q - m) (m + 2) := h3
  exact ⟨by omega, by omega, by omega⟩
theorem t_newCap {l : Launch} {P : Int32 → aS → Prop} (hl : l.stackTraces = false) (ht : z.2.1.map Prod.snd = tyX) {q : Nat} (hq : q ≤ 60) (hm : m < q) (h : P (nI (ncap q m)) (d, [])) : aMi l (lB z RS ba qv m) yJ5_newCapacity_0f7a4 (aWs yJ5_newCapacity_0f7a4 cJ5_newCapacity_0f7a4 6 (some .int)) 2 0 0 [.ref ba, .int (nI q)] (d, []) P noX := by
  have hc := ncap_le hq hm
  refine aMi_of RJ5 ⟨by decide +kernel, rfl⟩ (cat_all rfl) (Nat.le_of_ble_eq_true rfl) hl lB_cl (fun f hR hC hE => ?_)
  show AW f (lB z RS ba qv m) 0 [some (.ref ba), some (.int (nI q)), none, none, none, none] [] (d, []) 0 0
  refine a_aload_n (pc := 0) hC dJ5_newCapacity_0f7a4_0 rfl ?_
  refine sb_value (pc := 1) hC dJ5_newCapacity_0f7a4_1 ?_
  refine sb_len (pc := 4) ht hC dJ5_newCapacity_0f7a4_4 ?_
  refine a_istore_n (pc := 5) hC dJ5_newCapacity_0f7a4_5 (Nat.le_of_ble_eq_true rfl) ?_
  refine a_iload_n (pc := 6) hC dJ5_newCapacity_0f7a4_6 rfl ?_
  refine a_aload_n (pc := 7) hC dJ5_newCapacity_0f7a4_7 rfl ?_
  refine sb_coder (pc := 8) hC dJ5_newCapacity_0f7a4_8 ?_
  refine a_ishl (pc := 11) hC dJ5_newCapacity_0f7a4_11 ?_
  rw [sh0l]
  refine a_istore_n (pc := 12) hC dJ5_newCapacity_0f7a4_12 (Nat.le_of_ble_eq_true rfl) ?_
  refine a_iload_n (pc := 13) hC dJ5_newCapacity_0f7a4_13 rfl ?_
  refine a_iload_n (pc := 14) hC dJ5_newCapacity_0f7a4_14 rfl ?_
  refine a_isub (pc := 15) hC dJ5_newCapacity_0f7a4_15 ?_
  have es : nI q - nI m = nI (q - m) := by
    have := nI_add m (q - m)
    rw [show m + (q - m) = q by omega] at this
    rw [← this]
    generalize nI m = a
    generalize nI (q - m) = b
    grind
  rw [es]
  refine a_istore (pc := 16) hC dJ5_newCapacity_0f7a4_16 (Nat.le_of_ble_eq_true rfl) ?_
  refine a_iload_n (pc := 18) hC dJ5_newCapacity_0f7a4_18 rfl ?_
  refine a_iload (pc := 19) hC dJ5_newCapacity_0f7a4_19 rfl ?_
  refine a_iload_n (pc := 21) hC dJ5_newCapacity_0f7a4_21 rfl ?_
  refine a_iconst (pc := 22) hC dJ5_newCapacity_0f7a4_22 (v := nI 2) rfl ?_
  refine a_aload_n (pc := 23) hC dJ5_newCapacity_0f7a4_23 rfl ?_
  refine sb_coder (pc := 24) hC dJ5_newCapacity_0f7a4_24 ?_
  refine a_ishl (pc := 27) hC dJ5_newCapacity_0f7a4_27 ?_
  rw [sh0l]
  refine a_iadd (pc := 28) hC dJ5_newCapacity_0f7a4_28 ?_
  rw [nI_add]
  refine a_callS (pc := 29) hC hR sm_J8_newLength_cabcc tw_1124 ⟨Nat.le_refl _, Nat.le_of_ble_eq_true rfl, Nat.le_refl _, Nat.le_refl _⟩ dJ5_newCapacity_0f7a4_29 (t_newLength lB_cl hC.tr (P := fun r u => r = nI (ncap q m) ∧ u = (d, [])) (by have := hc.2.2; unfold ncap at this; omega) (by omega) (by omega) (by omega) ⟨rfl, rfl⟩) rfl rfl rfl (Nat.le_of_ble_eq_true rfl) (fun r q2 h2 => ?_)
  obtain ⟨rfl, rfl⟩ := h2
  refine a_istore (pc := 32) hC dJ5_newCapacity_0f7a4_32 (Nat.le_of_ble_eq_true rfl) ?_
  refine a_iload (pc := 34) hC dJ5_newCapacity_0f7a4_34 rfl ?_
  refine a_ldcI (pc := 36) hC tw_1132 dJ5_newCapacity_0f7a4_36 ?_
  refine a_icmp_ne (pc := 38) (tgt := 51) hC dJ5_newCapacity_0f7a4_38 (by decide) (fun _ => ?_) (fun c => absurd ((nI_eq (by omega) (by decide)).mp (show nI (ncap q m) = nI 2147483647 from c)) (by omega))
  refine a_iload (pc := 51) hC dJ5_newCapacity_0f7a4_51 rfl ?_
  refine a_aload_n (pc := 53) hC dJ5_newCapacity_0f7a4_53 rfl ?_
  refine sb_coder (pc := 54) hC dJ5_newCapacity_0f7a4_54 ?_
  refine a_ishr (pc := 57) hC dJ5_newCapacity_0f7a4_57 ?_
  rw [sh0r]
  exact a_iret (pc := 58) hC hE h (Nat.le_refl _) (Nat.le_refl _) dJ5_newCapacity_0f7a4_58
/-- the call of Arrays.copyOf -/
theorem b_copyOf (hC : aOK f (lB z RS ba qv m) cc nL RJ5) (ht : z.2.1.map Prod.snd = tyX) {N mcR msR cap : Nat} (hR : f_R f = aR N mcR msR) (hm : m < cap) (hc : cap < 1000) (hfit : ∀ j, fits .byte (.int (d 206 j)) = true) (hF : aFit 3 1 1 cap k n N mcR msR) (dg : decode cc pc = .ok (.invokestatic 108, 3)) (hL : L.length = nL) (hrest : (rest.map fun v => v.category).sum ≤ 8)
    (kk : ∀ q b2, (∀ j, j < m → b2 j = d 206 j) → (∀ j, fits .byte (.int (b2 j)) = true) → AW f (lBN z RS ba qv m q cap b2) (pc + 3) L (.ref q :: rest) (d, []) (k + 1) (n + cap)) : AW f (lB z RS ba qv m) pc L (.int (nI cap) :: .ref qv :: rest) (d, []) k n := by
  intro ls H locs ex hl hI hS
  have hf := hF.loc
  rw [← hR] at hf
  have hrun := va_runS (As := [.ref qv, .int (nI cap)]) (rest := rest) (g := F0 (f_m f) pc ls (([.ref qv, .int (nI cap)] : List Value).reverse ++ rest)) (locs := locs) (meth := f_me f) (below := f_b f) (e := f_e f) (cells := k) (slots := n) (S := (⟨hC.x, hC.b, hC.ml, hC.o, hC.ts⟩ : CallFix (f_p f) (f_m f) (f_c f) cc nL (f_s f) (f_a f) TW RJ5)) (aMet_of (t_copyOf (l := f_l f) (RS := RS) (ba := ba) (qv := qv) (m := m) (d := d) hC.tr ht hm hc hfit) aX_no) (va_cwS 2 hC.ts (good_S sm_J7_copyOf_9075b tw_1133) rfl rfl rfl sm_J7_copyOf_9075b.2.2.2 hf) (a_preS hC hI hS _) rfl rfl (hl.1.trans hL) rfl (lv_room hrest) dg (by rw [hR]; exact ⟨hF.2.2.1, hF.2.2.2⟩)
  refine va_callq hrun hS (fun _ _ h => h) (fun _ h => h) (fun r u t H1 locs1 ht hvm hp1 hB hz hk1 hS1 => ?_)
  obtain ⟨q, b2⟩ := u
  obtain ⟨ex', hI'⟩ := hB
  obtain ⟨rfl, hp2, hp3⟩ := hp1
  rw [ht] at hI'
  exact kk q b2 hp2 hp3 ls H1 locs1 ex' hl hI' hS1
/-- room for Q signs -/
theorem t_ensure {l : Launch} (hl : l.stackTraces = false) (ht : z.2.1.map Prod.snd = tyX) {Q : Nat} (hQ : Q ≤ 60) (hT : isT t m d) (hd : ∀ k, k < 205 → d k = dX k) : bM l z RS ba qv m d yJ5_ensureCapacityInternal_d00df (aWs yJ5_ensureCapacityInternal_d00df cJ5_ensureCapacityInternal_d00df 3 none) 3 1 120 [.ref ba, .int (nI Q)] (bQv z RS ba dX t Q) := by
  have hT' := hT
  obtain ⟨h1, h2, h3, h4, h5, h6⟩ := hT
  refine bM_of RJ5 ⟨by decide +kernel, rfl⟩ (cat_all rfl) (Nat.le_of_ble_eq_true rfl) hl (fun f hR hC hE _ => ?_)
  show AW f (lB z RS ba qv m) 0 [some (.ref ba), some (.int (nI Q)), none] [] (d, []) 0 0
  refine a_aload_n (pc := 0) hC dJ5_ensureCapacityInternal_d00df_0 rfl ?_
  refine sb_value (pc := 1) hC dJ5_ensureCapacityInternal_d00df_1 ?_
  refine sb_len (pc := 4) ht hC dJ5_ensureCapacityInternal_d00df_4 ?_
  refine a_aload_n (pc := 5) hC dJ5_ensureCapacityInternal_d00df_5 rfl ?_
  refine sb_coder (pc := 6) hC dJ5_ensureCapacityInternal_d00df_6 ?_
  refine a_ishr (pc := 9) hC dJ5_ensureCapacityInternal_d00df_9 ?_
  rw [sh0r]
  refine a_istore_n (pc := 10) hC dJ5_ensureCapacityInternal_d00df_10 (Nat.le_of_ble_eq_true rfl) ?_
  refine a_iload_n (pc := 11) hC dJ5_ensureCapacityInternal_d00df_11 rfl ?_
  refine a_iload_n (pc := 12) hC dJ5_ensureCapacityInternal_d00df_12 rfl ?_
  refine a_isub (pc := 13) hC dJ5_ensureCapacityInternal_d00df_13 ?_
  have e1 : (nI Q - nI m).toInt = (Q : Int) - m := pk_sub_toInt (by omega) (by omega)
  refine a_if_le (pc := 14) (tgt := 38) hC dJ5_ensureCapacityInternal_d00df_14 (by decide) (fun c => ?_) (fun c => ?_)
  · rw [Int32.le_iff_toInt_le, e1, Int32.toInt_zero] at c
    exact b_vret (pc := 38) hC hE ⟨hT', by show Q ≤ m; omega, hd⟩ (by decide) (by decide) dJ5_ensureCapacityInternal_d00df_38
  · rw [Int32.le_iff_toInt_le, e1, Int32.toInt_zero] at c
    have hm : m < Q := by omega
    have hc := ncap_le hQ hm
    refine a_aload_n (pc := 17) hC dJ5_ensureCapacityInternal_d00df_17 rfl ?_
    refine a_aload_n (pc := 18) hC dJ5_ensureCapacityInternal_d00df_18 rfl ?_
    refine sb_value (pc := 19) hC dJ5_ensureCapacityInternal_d00df_19 ?_
    refine a_aload_n (pc := 22) hC dJ5_ensureCapacityInternal_d00df_22 rfl ?_
    refine a_iload_n (pc := 23) hC dJ5_ensureCapacityInternal_d00df_23 rfl ?_
    refine b_upI (pc := 24) hC hR up_J5_newCapacity_0f7a4 ⟨Nat.le_refl _, Nat.le_of_ble_eq_true rfl, Nat.le_of_ble_eq_true rfl, Nat.le_of_ble_eq_true rfl⟩ dJ5_ensureCapacityInternal_d00df_24 (t_newCap (P := fun r u => r = nI (ncap Q m) ∧ u = (d, [])) hC.tr ht hQ hm ⟨rfl, rfl⟩) rfl rfl rfl (Nat.le_of_ble_eq_true rfl) (fun r q2 h2 => ?_)
    obtain ⟨rfl, rfl⟩ := h2
    refine a_aload_n (pc := 27) hC dJ5_ensureCapacityInternal_d00df_27 rfl ?_
    refine sb_coder (pc := 28) hC dJ5_ensureCapacityInternal_d00df_28 ?_
    refine a_ishl (pc := 31) hC dJ5_ensureCapacityInternal_d00df_31 ?_
    rw [sh0l]
    refine b_copyOf (pc := 32) hC ht hR hc.2.2 (by omega) h6 ⟨Nat.le_of_ble_eq_true rfl, Nat.le_of_ble_eq_true rfl, Nat.le_of_ble_eq_true rfl, by omega⟩ dJ5_ensureCapacityInternal_d00df_32 rfl (Nat.le_of_ble_eq_true rfl) (fun q b2 hb hf => ?_)
    refine bc_putv (pc := 35) (lOK_N hC q _ b2) dJ5_ensureCapacityInternal_d00df_35 ?_
    refine b_vret (pc := 38) (lOK_BB hC q (ncap Q m)) hE ⟨⟨by show t.length ≤ ncap Q m; omega, by show ncap Q m ≤ 200; omega, h3, h4, fun j hj => ?_, fun j => ?_⟩, hc.1, fun k hk => ?_⟩ (Nat.le_of_ble_eq_true rfl) (by omega) dJ5_ensureCapacityInternal_d00df_38
    · refine ⟨(h5 j hj).1, ?_⟩
      show dNew d b2 206 j = _
      unfold dNew
      rw [if_pos rfl, hb j (by omega)]
      exact (h5 j hj).2
    · show fits .byte (.int (dNew d b2 206 j)) = true
      unfold dNew
      rw [if_pos rfl]
      exact hf j
    · show dNew d b2 k = dX k
      unfold dNew
      rw [if_neg (by omega)]
      exact hd k hk
end SB5

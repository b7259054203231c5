/-! the StringBuilder: append(char), stringSize and getChars below 100, append(int), length, charAt, setLength(0) -/
theorem getD_app (t : List Nat) (c : Nat) (j : Nat) : (t ++ [c]).getD j 0 = if j < t.length then t.getD j 0 else if j = t.length then c else 0 := by
  rw [List.getD_eq_getElem?_getD, List.getD_eq_getElem?_getD]
  by_cases h : j < t.length
  · rw [if_pos h, List.getElem?_append_left h]
  · rw [if_neg h, List.getElem?_append_right (by omega)]
    by_cases e : j = t.length
    · rw [if_pos e, e, Nat.sub_self]; rfl
    · rw [if_neg e, List.getElem?_eq_none (by simp; omega)]; rfl
theorem i2b_c : ∀ c, c < 128 → vp_nar .byte ((nI c).toInt8.toInt32) = nI c ∧ vp_nar .byte (nI c) = nI c ∧ fits .byte (.int (nI c)) = true ∧ ((nI c &&& 255).toUInt32 % 65536).toInt32 = nI c := by decide +kernel
theorem isT.push {t : List Nat} {m : Nat} {d : Nat → Nat → Int32} (h : isT t m d) {c : Nat} (hc : c < 128) (hl : t.length + 1 ≤ m) (h60 : t.length + 1 ≤ 60) {d' : Nat → Nat → Int32} (h3 : d' 205 3 = nI (t.length + 1)) (hb : ∀ j, d' 206 j = if j = t.length then nI c else d 206 j) : isT (t ++ [c]) m d' := by
  obtain ⟨h1, h2, h3', h4, h5, h6⟩ := h
  have e : (t ++ [c]).length = t.length + 1 := by simp
  refine ⟨by rw [e]; exact hl, h2, by rw [e]; exact h60, by rw [e]; exact h3, fun j hj => ?_, fun j => ?_⟩
  · rw [e] at hj
    rw [getD_app, hb]
    by_cases c1 : j = t.length
    · rw [if_neg (by omega), if_pos c1, if_pos c1]
      exact ⟨hc, rfl⟩
    · rw [if_pos (by omega), if_neg c1]
      exact h5 j (by omega)
  · rw [hb]
    by_cases c1 : j = t.length
    · rw [if_pos c1]; exact (i2b_c c hc).2.2.1
    · rw [if_neg c1]; exact h6 j
theorem up2_ne' (d : Nat → Nat → Int32) {k a : Nat} (j : Nat) (x : Int32) (h : a ≠ k) : up2 d k j x a = d a := by
  unfold up2 upR
  rw [if_neg h]
theorem up2_ne_at (d : Nat → Nat → Int32) (k j : Nat) (x : Int32) : up2 d k j x k j = x := by
  unfold up2 upR upd
  simp
theorem up2_206 (d : Nat → Nat → Int32) (k j i : Nat) (x : Int32) : up2 d k j x k i = if i = j then x else d k i := by
  unfold up2 upR upd
  simp
section SB6
variable {f : aF} {g : aG} {q : aS} {cc : ByteArray} {nL : Nat} {own : String} {pc : Nat} {L : List (Option Value)} {st : List Value} {k n : Nat}
theorem a_i2b (hC : aOK f g cc nL own) {x : Int32} (dg : decode cc pc = .ok (.i2b, 1)) (kk : AW f g (pc + 1) L (.int x.toInt8.toInt32 :: st) q k n) : AW f g pc L (.int x :: st) q k n := fun ls H locs ex hl hI hS => lv_i2b hC.x hC.b dg rfl (kk ls H locs ex hl hI hS)
end SB6
section SB7
variable {l : Launch} {z : lP} {dX : Nat → Nat → Int32} {t : List Nat} {RS : va_W} {ba : Nat} {qv m : Nat} {d : Nat → Nat → Int32} {P : Int32 → aS → Prop}
theorem t5_appendC (hl : l.stackTraces = false) (ht : z.2.1.map Prod.snd = tyX) {c : Nat} (hc : c < 128) (h60 : t.length + 1 ≤ 60) (hT : isT t m d) (hd : ∀ k, k < 205 → d k = dX k) : bM l z RS ba qv m d yJ5_append_3fe6f (aWs yJ5_append_3fe6f cJ5_append_3fe6f 2 (some (.object "java/lang/AbstractStringBuilder"))) 4 1 120 [.ref ba, .int (nI c)] (bQq z RS ba dX (t ++ [c]) 0) := by
  refine bM_of RJ5 ⟨by decide +kernel, rfl⟩ (cat_all rfl) (Nat.le_of_ble_eq_true rfl) hl (fun f hR hC hE _ => ?_)
  show AW f (lB z RS ba qv m) 0 [some (.ref ba), some (.int (nI c))] [] (d, []) 0 0
  refine a_aload_n (pc := 0) hC dJ5_append_3fe6f_0 rfl ?_
  refine a_aload_n (pc := 1) hC dJ5_append_3fe6f_1 rfl ?_
  refine sb_count (pc := 2) hC dJ5_append_3fe6f_2 ?_
  rw [hT.2.2.2.1]
  refine a_iconst (pc := 5) hC dJ5_append_3fe6f_5 (v := 1) rfl ?_
  refine a_iadd (pc := 6) hC dJ5_append_3fe6f_6 ?_
  rw [nI_1]
  refine b_upV (pc := 7) hC hR up_J5_ensureCapacityInternal_d00df ⟨Nat.le_refl _, Nat.le_of_ble_eq_true rfl, Nat.le_of_ble_eq_true rfl, Nat.le_of_ble_eq_true rfl⟩ dJ5_append_3fe6f_7 (t_ensure hC.tr ht h60 hT hd) rfl rfl rfl (Nat.le_of_ble_eq_true rfl) (fun qv' m' d' hB => ?_)
  obtain ⟨hT', hM, hd'⟩ := hB
  have hM : t.length + 1 ≤ m' := hM
  have hT' : isT t m' d' := hT'
  have hd' : ∀ k, k < 205 → d' k = dX k := hd'
  have hC' := lOK_BB hC qv' m'
  refine a_aload_n (pc := 10) hC' dJ5_append_3fe6f_10 rfl ?_
  refine b_upI (pc := 11) hC' hR up_J5_isLatin1_aae02 ⟨Nat.le_of_ble_eq_true rfl, Nat.le_of_ble_eq_true rfl, Nat.le_of_ble_eq_true rfl, Nat.le_of_ble_eq_true rfl⟩ dJ5_append_3fe6f_11 (t_isLatin1 (P := fun r u => r = 1 ∧ u = (d', [])) hC.tr ⟨rfl, rfl⟩) rfl rfl rfl (Nat.le_of_ble_eq_true rfl) (fun r q2 h2 => ?_)
  obtain ⟨rfl, rfl⟩ := h2
  refine a_if_eq (pc := 14) (tgt := 45) hC' dJ5_append_3fe6f_14 (by decide) (fun c => absurd c (by decide)) (fun _ => ?_)
  refine a_iload_n (pc := 17) hC' dJ5_append_3fe6f_17 rfl ?_
  refine a_callS (pc := 18) hC' hR sm_J1_canEncode_fc78d tw_1356 ⟨Nat.le_of_ble_eq_true rfl, Nat.le_of_ble_eq_true rfl, Nat.le_of_ble_eq_true rfl, Nat.le_of_ble_eq_true rfl⟩ dJ5_append_3fe6f_18 (t_canEncode lB_cl hC.tr (P := fun r u => r = 1 ∧ u = (d', [])) (nI_nlt (a := 255) (b := c) (by omega) (by omega)) ⟨rfl, rfl⟩) rfl rfl rfl (Nat.le_of_ble_eq_true rfl) (fun r q2 h2 => ?_)
  obtain ⟨rfl, rfl⟩ := h2
  refine a_if_eq (pc := 21) (tgt := 45) hC' dJ5_append_3fe6f_21 (by decide) (fun c => absurd c (by decide)) (fun _ => ?_)
  refine a_aload_n (pc := 24) hC' dJ5_append_3fe6f_24 rfl ?_
  refine sb_value (pc := 25) hC' dJ5_append_3fe6f_25 ?_
  refine a_aload_n (pc := 28) hC' dJ5_append_3fe6f_28 rfl ?_
  refine a_dup (pc := 29) hC' dJ5_append_3fe6f_29 rfl ?_
  refine sb_count (pc := 30) hC' dJ5_append_3fe6f_30 ?_
  rw [hT'.2.2.2.1]
  refine a_dup_x1 (pc := 33) hC' dJ5_append_3fe6f_33 rfl rfl ?_
  refine a_iconst (pc := 34) hC' dJ5_append_3fe6f_34 (v := 1) rfl ?_
  refine a_iadd (pc := 35) hC' dJ5_append_3fe6f_35 ?_
  rw [nI_1]
  refine sb_putCount (pc := 36) hC' dJ5_append_3fe6f_36 ?_
  refine a_iload_n (pc := 39) hC' dJ5_append_3fe6f_39 rfl ?_
  refine a_i2b (pc := 40) hC' dJ5_append_3fe6f_40 ?_
  refine sb_bast (pc := 41) ht hC' (vp_in_nI hM (by have := hT'.2.1; omega)) dJ5_append_3fe6f_41 ?_
  rw [nI_clamp (by omega), (i2b_c c hc).1]
  refine a_goto (pc := 42) (tgt := 75) hC' dJ5_append_3fe6f_42 (by decide) ?_
  refine a_aload_n (pc := 75) hC' dJ5_append_3fe6f_75 rfl ?_
  refine b_qret (pc := 76) (Or.inl ⟨_, rfl⟩) hC' hE ⟨hT'.push hc hM h60 ?_ (fun j => ?_), Nat.zero_le _, fun k hk => ?_⟩ (Nat.le_refl _) (Nat.le_refl _) dJ5_append_3fe6f_76
  · show up2 (up2 d' 205 3 (nI (t.length + 1))) 206 t.length (nI c) 205 3 = _
    rw [up2_ne' _ _ _ (by decide), up2_ne_at]
  · show up2 (up2 d' 205 3 (nI (t.length + 1))) 206 t.length (nI c) 206 j = _
    rw [up2_206, up2_ne' _ _ _ (by decide)]
  · show up2 (up2 d' 205 3 (nI (t.length + 1))) 206 t.length (nI c) k = _
    rw [up2_ne' _ _ _ (by omega), up2_ne' _ _ _ (by omega)]
    exact hd' k hk
end SB7

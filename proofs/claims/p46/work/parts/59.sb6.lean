/-! the StringBuilder: numbers below 100; length, charAt, setLength(0) -/
theorem sz_1 : ∀ w, w < 100 → ((-(nI w) ≤ -10 ↔ 10 ≤ w) ∧ ¬ -(nI w) ≤ -100 ∧ (-100 < -(nI w)) ∧ (-9 ≤ -(nI w) ↔ w < 10) ∧ ¬ nI w < 0 ∧ 0 ≤ nI w) := by decide +kernel
def dgs (w : Nat) : List Nat := if w < 10 then [48 + w] else [48 + w / 10, 48 + w % 10]
def dgn (w : Nat) : Nat := if w < 10 then 1 else 2
section SB8
variable {l : Launch} {g : aG} {q : aS} {z : lP} {dX : Nat → Nat → Int32} {t : List Nat} {RS : va_W} {ba : Nat} {qv m : Nat} {d : Nat → Nat → Int32} {P : Int32 → aS → Prop}
theorem t_stringSize (hcl : gCl g) (hl : l.stackTraces = false) {w : Nat} (hw : w < 100) (h : P (nI (dgn w)) q) : aMi l g yJ6_stringSize_0f7a4 (aWs yJ6_stringSize_0f7a4 cJ6_stringSize_0f7a4 4 (some .int)) 0 0 0 [.int (nI w)] q P noX := by
  obtain ⟨s1, s2, s3, s4, s5, s6⟩ := sz_1 w hw
  refine aMi_of RJ6 ⟨by decide +kernel, rfl⟩ (cat_all rfl) (Nat.le_of_ble_eq_true rfl) hl hcl (fun f hR hC hE => ?_)
  show AW f g 0 [some (.int (nI w)), none, none, none] [] q 0 0
  refine a_iconst (pc := 0) hC dJ6_stringSize_0f7a4_0 (v := 1) rfl ?_
  refine a_istore_n (pc := 1) hC dJ6_stringSize_0f7a4_1 (Nat.le_of_ble_eq_true rfl) ?_
  refine a_iload_n (pc := 2) hC dJ6_stringSize_0f7a4_2 rfl ?_
  refine a_if_lt (pc := 3) (tgt := 11) hC dJ6_stringSize_0f7a4_3 (by decide) (fun c => absurd c s5) (fun _ => ?_)
  refine a_iconst (pc := 6) hC dJ6_stringSize_0f7a4_6 (v := 0) rfl ?_
  refine a_istore_n (pc := 7) hC dJ6_stringSize_0f7a4_7 (Nat.le_of_ble_eq_true rfl) ?_
  refine a_iload_n (pc := 8) hC dJ6_stringSize_0f7a4_8 rfl ?_
  refine a_ineg (pc := 9) hC dJ6_stringSize_0f7a4_9 ?_
  refine a_istore_n (pc := 10) hC dJ6_stringSize_0f7a4_10 (Nat.le_of_ble_eq_true rfl) ?_
  refine a_bipush (pc := 11) hC dJ6_stringSize_0f7a4_11 (v := -10) rfl ?_
  refine a_istore_n (pc := 13) hC dJ6_stringSize_0f7a4_13 (Nat.le_of_ble_eq_true rfl) ?_
  refine a_iconst (pc := 14) hC dJ6_stringSize_0f7a4_14 (v := 1) rfl ?_
  refine a_istore_n (pc := 15) hC dJ6_stringSize_0f7a4_15 (Nat.le_of_ble_eq_true rfl) ?_
  refine a_iload_n (pc := 16) hC dJ6_stringSize_0f7a4_16 rfl ?_
  refine a_bipush (pc := 17) hC dJ6_stringSize_0f7a4_17 (v := 10) rfl ?_
  refine a_icmp_ge (pc := 19) (tgt := 42) hC dJ6_stringSize_0f7a4_19 (by decide) (fun c => absurd c (by decide)) (fun _ => ?_)
  refine a_iload_n (pc := 22) hC dJ6_stringSize_0f7a4_22 rfl ?_
  refine a_iload_n (pc := 23) hC dJ6_stringSize_0f7a4_23 rfl ?_
  refine a_icmp_le (pc := 24) (tgt := 31) hC dJ6_stringSize_0f7a4_24 (by decide) (fun c => ?_) (fun c => ?_)
  · have h10 := s1.mp c
    refine a_bipush (pc := 31) hC dJ6_stringSize_0f7a4_31 (v := 10) rfl ?_
    refine a_iload_n (pc := 33) hC dJ6_stringSize_0f7a4_33 rfl ?_
    refine a_imul (pc := 34) hC dJ6_stringSize_0f7a4_34 ?_
    rw [show (10 : Int32) * -10 = -100 by decide]
    refine a_istore_n (pc := 35) hC dJ6_stringSize_0f7a4_35 (Nat.le_of_ble_eq_true rfl) ?_
    refine a_iinc (pc := 36) hC dJ6_stringSize_0f7a4_36 (x := 1) (c := 1) rfl rfl ?_
    rw [show (1 : Int32) + 1 = 2 by decide]
    refine a_goto (pc := 39) (tgt := 16) hC dJ6_stringSize_0f7a4_39 (by decide) ?_
    refine a_iload_n (pc := 16) hC dJ6_stringSize_0f7a4_16 rfl ?_
    refine a_bipush (pc := 17) hC dJ6_stringSize_0f7a4_17 (v := 10) rfl ?_
    refine a_icmp_ge (pc := 19) (tgt := 42) hC dJ6_stringSize_0f7a4_19 (by decide) (fun c => absurd c (by decide)) (fun _ => ?_)
    refine a_iload_n (pc := 22) hC dJ6_stringSize_0f7a4_22 rfl ?_
    refine a_iload_n (pc := 23) hC dJ6_stringSize_0f7a4_23 rfl ?_
    refine a_icmp_le (pc := 24) (tgt := 31) hC dJ6_stringSize_0f7a4_24 (by decide) (fun c => absurd c s2) (fun _ => ?_)
    refine a_iload_n (pc := 27) hC dJ6_stringSize_0f7a4_27 rfl ?_
    refine a_iload_n (pc := 28) hC dJ6_stringSize_0f7a4_28 rfl ?_
    refine a_iadd (pc := 29) hC dJ6_stringSize_0f7a4_29 ?_
    have e : (2 : Int32) + 0 = nI (dgn w) := by
      unfold dgn
      rw [if_neg (by omega)]
      decide
    rw [e]
    exact a_iret (pc := 30) hC hE h (Nat.le_refl _) (Nat.le_refl _) dJ6_stringSize_0f7a4_30
  · have h10 : w < 10 := by
      rcases Nat.lt_or_ge w 10 with y | y
      · exact y
      · exact absurd (s1.mpr y) c
    refine a_iload_n (pc := 27) hC dJ6_stringSize_0f7a4_27 rfl ?_
    refine a_iload_n (pc := 28) hC dJ6_stringSize_0f7a4_28 rfl ?_
    refine a_iadd (pc := 29) hC dJ6_stringSize_0f7a4_29 ?_
    have e : (1 : Int32) + 0 = nI (dgn w) := by
      unfold dgn
      rw [if_pos h10]
      decide
    rw [e]
    exact a_iret (pc := 30) hC hE h (Nat.le_refl _) (Nat.le_refl _) dJ6_stringSize_0f7a4_30
/-- the bytes with the signs of w before p -/
def dGC (d : Nat → Nat → Int32) (w p : Nat) : Nat → Nat → Int32 := if w < 10 then up2 d 206 (p - 1) (nI (48 + w % 10)) else up2 (up2 d 206 (p - 1) (nI (48 + w % 10))) 206 (p - 2) (nI (48 + w / 10))
theorem nI_pm {p : Nat} (h : 0 < p) : nI p + -1 = nI (p - 1) := by
  have := nI_1 (p - 1)
  rw [show p - 1 + 1 = p by omega] at this
  rw [← this]
  generalize nI (p - 1) = a
  grind
theorem lB_D {f : aF} {cc : ByteArray} {nL : Nat} {own : String} (hC : aOK f (lB z RS ba qv m) cc nL own) : EnvD (lA z) z.2.2.2.1 (f_s f) (f_s f).heap := (lB_en hC).1.2.2.2.2.2.2.2.2
theorem t_getChars (hl : l.stackTraces = false) (ht : z.2.1.map Prod.snd = tyX) {w p : Nat} (hw : w < 100) (hp : dgn w ≤ p ∧ p ≤ m) (hm : m ≤ 200) (h : ∀ r, P r (dGC d w p, [])) : aMi l (lB z RS ba qv m) yJ6_getChars_ba4f3 (aWs yJ6_getChars_ba4f3 cJ6_getChars_ba4f3 7 (some .int)) 0 0 0 [.int (nI w), .int (nI p), .ref qv] (d, []) P noX := by
  obtain ⟨s1, s2, s3, s4, s5, s6⟩ := sz_1 w hw
  have hp1 : 0 < p := by have := hp.1; unfold dgn at this; split at this <;> omega
  have b1 := i2b_c (48 + w % 10) (by omega)
  have b2 := i2b_c (48 + w / 10) (by omega)
  refine aMi_of RJ6 ⟨by decide +kernel, rfl⟩ (cat_all rfl) (Nat.le_of_ble_eq_true rfl) hl lB_cl (fun f hR hC hE => ?_)
  have hD := lB_D hC
  show AW f (lB z RS ba qv m) 0 [some (.int (nI w)), some (.int (nI p)), some (.ref qv), none, none, none, none] [] (d, []) 0 0
  refine a_iload_n (pc := 0) hC dJ6_getChars_ba4f3_0 rfl ?_
  refine a_istore (pc := 1) hC dJ6_getChars_ba4f3_1 (Nat.le_of_ble_eq_true rfl) ?_
  refine a_iload_n (pc := 3) hC dJ6_getChars_ba4f3_3 rfl ?_
  refine a_if_ge (pc := 4) (tgt := 11) hC dJ6_getChars_ba4f3_4 (by decide) (fun _ => ?_) (fun c => absurd s6 c)
  refine a_iconst (pc := 11) hC dJ6_getChars_ba4f3_11 (v := 0) rfl ?_
  refine a_istore (pc := 12) hC dJ6_getChars_ba4f3_12 (Nat.le_of_ble_eq_true rfl) ?_
  refine a_iload (pc := 14) hC dJ6_getChars_ba4f3_14 rfl ?_
  refine a_if_ne (pc := 16) (tgt := 22) hC dJ6_getChars_ba4f3_16 (by decide) (fun c => absurd rfl c) (fun _ => ?_)
  refine a_iload_n (pc := 19) hC dJ6_getChars_ba4f3_19 rfl ?_
  refine a_ineg (pc := 20) hC dJ6_getChars_ba4f3_20 ?_
  refine a_istore_n (pc := 21) hC dJ6_getChars_ba4f3_21 (Nat.le_of_ble_eq_true rfl) ?_
  refine a_iload_n (pc := 22) hC dJ6_getChars_ba4f3_22 rfl ?_
  refine a_bipush (pc := 23) hC dJ6_getChars_ba4f3_23 (v := -100) rfl ?_
  refine a_icmp_gt (pc := 25) (tgt := 72) hC dJ6_getChars_ba4f3_25 (by decide) (fun _ => ?_) (fun c => absurd s3 c)
  refine a_aload_n (pc := 72) hC dJ6_getChars_ba4f3_72 rfl ?_
  refine a_iinc (pc := 73) hC dJ6_getChars_ba4f3_73 (x := nI p) (c := -1) rfl rfl ?_
  rw [nI_pm hp1]
  refine a_iload (pc := 76) hC dJ6_getChars_ba4f3_76 rfl ?_
  refine a_gets (pc := 78) hC hD.1 tw_1153 dJ6_getChars_ba4f3_78 ?_
  refine a_iload_n (pc := 81) hC dJ6_getChars_ba4f3_81 rfl ?_
  refine a_ineg (pc := 82) hC dJ6_getChars_ba4f3_82 ?_
  rw [Int32.neg_neg]
  refine a_tinb (pc := 83) hC hD.2.1 (vp_in_nI hw (by decide)) dJ6_getChars_ba4f3_83 ?_
  rw [nI_clamp (by omega)]
  refine sb_bast (pc := 84) ht hC (vp_in_nI (by omega) (by omega)) dJ6_getChars_ba4f3_84 ?_
  rw [nI_clamp (by omega), show dgO w = nI (48 + w % 10) from rfl, b1.2.1]
  refine a_iload_n (pc := 85) hC dJ6_getChars_ba4f3_85 rfl ?_
  refine a_bipush (pc := 86) hC dJ6_getChars_ba4f3_86 (v := -9) rfl ?_
  refine a_icmp_ge (pc := 88) (tgt := 104) hC dJ6_getChars_ba4f3_88 (by decide) (fun c => ?_) (fun c => ?_)
  · have h10 := s4.mp c
    refine a_iload (pc := 104) hC dJ6_getChars_ba4f3_104 rfl ?_
    refine a_if_eq (pc := 106) (tgt := 118) hC dJ6_getChars_ba4f3_106 (by decide) (fun _ => ?_) (fun c => absurd rfl c)
    refine a_iload (pc := 118) hC dJ6_getChars_ba4f3_118 rfl ?_
    refine a_iret (pc := 120) hC hE ?_ (Nat.le_refl _) (Nat.le_refl _) dJ6_getChars_ba4f3_120
    have := h (nI (p - 1))
    rw [dGC, if_pos h10] at this
    exact this
  · have h10 : ¬ w < 10 := fun y => c (s4.mpr y)
    have hp2 : 2 ≤ p := by have := hp.1; unfold dgn at this; rw [if_neg h10] at this; exact this
    refine a_aload_n (pc := 91) hC dJ6_getChars_ba4f3_91 rfl ?_
    refine a_iinc (pc := 92) hC dJ6_getChars_ba4f3_92 (x := nI (p - 1)) (c := -1) rfl rfl ?_
    rw [nI_pm (by omega), show p - 1 - 1 = p - 2 by omega]
    refine a_iload (pc := 95) hC dJ6_getChars_ba4f3_95 rfl ?_
    refine a_gets (pc := 97) hC hD.2.2.1 tw_1155 dJ6_getChars_ba4f3_97 ?_
    refine a_iload_n (pc := 100) hC dJ6_getChars_ba4f3_100 rfl ?_
    refine a_ineg (pc := 101) hC dJ6_getChars_ba4f3_101 ?_
    rw [Int32.neg_neg]
    refine a_tinb (pc := 102) hC hD.2.2.2 (vp_in_nI hw (by decide)) dJ6_getChars_ba4f3_102 ?_
    rw [nI_clamp (by omega)]
    refine sb_bast (pc := 103) ht hC (vp_in_nI (by omega) (by omega)) dJ6_getChars_ba4f3_103 ?_
    rw [nI_clamp (by omega), show dgT w = nI (48 + w / 10) from rfl, b2.2.1]
    refine a_iload (pc := 104) hC dJ6_getChars_ba4f3_104 rfl ?_
    refine a_if_eq (pc := 106) (tgt := 118) hC dJ6_getChars_ba4f3_106 (by decide) (fun _ => ?_) (fun c => absurd rfl c)
    refine a_iload (pc := 118) hC dJ6_getChars_ba4f3_118 rfl ?_
    refine a_iret (pc := 120) hC hE ?_ (Nat.le_refl _) (Nat.le_refl _) dJ6_getChars_ba4f3_120
    have := h (nI (p - 2))
    rw [dGC, if_neg h10] at this
    exact this
theorem dgs_len (w : Nat) : (dgs w).length = dgn w := by
  unfold dgs dgn
  split <;> rfl
theorem dgn_2 (w : Nat) : dgn w ≤ 2 ∧ 1 ≤ dgn w := by
  unfold dgn
  split <;> omega
theorem t5_appendI (hl : l.stackTraces = false) (ht : z.2.1.map Prod.snd = tyX) {w : Nat} (hw : w < 100) (h60 : t.length + dgn w ≤ 60) (hT : isT t m d) (hd : ∀ k, k < 205 → d k = dX k) : bM l z RS ba qv m d yJ5_append_c97b9 (aWs yJ5_append_c97b9 cJ5_append_c97b9 4 (some (.object "java/lang/AbstractStringBuilder"))) 4 1 120 [.ref ba, .int (nI w)] (bQq z RS ba dX (t ++ dgs w) 0) := by
  have hg2 := dgn_2 w
  refine bM_of RJ5 ⟨by decide +kernel, rfl⟩ (cat_all rfl) (Nat.le_of_ble_eq_true rfl) hl (fun f hR hC hE _ => ?_)
  show AW f (lB z RS ba qv m) 0 [some (.ref ba), some (.int (nI w)), none, none] [] (d, []) 0 0
  refine a_aload_n (pc := 0) hC dJ5_append_c97b9_0 rfl ?_
  refine sb_count (pc := 1) hC dJ5_append_c97b9_1 ?_
  rw [hT.2.2.2.1]
  refine a_istore_n (pc := 4) hC dJ5_append_c97b9_4 (Nat.le_of_ble_eq_true rfl) ?_
  refine a_iload_n (pc := 5) hC dJ5_append_c97b9_5 rfl ?_
  refine a_iload_n (pc := 6) hC dJ5_append_c97b9_6 rfl ?_
  refine a_callS (pc := 7) hC hR sm_J6_stringSize_0f7a4 tw_1113 ⟨Nat.le_of_ble_eq_true rfl, Nat.le_of_ble_eq_true rfl, Nat.le_of_ble_eq_true rfl, Nat.le_of_ble_eq_true rfl⟩ dJ5_append_c97b9_7 (t_stringSize lB_cl hC.tr hw (P := fun r u => r = nI (dgn w) ∧ u = (d, [])) ⟨rfl, rfl⟩) rfl rfl rfl (Nat.le_of_ble_eq_true rfl) (fun r q2 h2 => ?_)
  obtain ⟨rfl, rfl⟩ := h2
  refine a_iadd (pc := 10) hC dJ5_append_c97b9_10 ?_
  rw [nI_add]
  refine a_istore_n (pc := 11) hC dJ5_append_c97b9_11 (Nat.le_of_ble_eq_true rfl) ?_
  refine a_aload_n (pc := 12) hC dJ5_append_c97b9_12 rfl ?_
  refine a_iload_n (pc := 13) hC dJ5_append_c97b9_13 rfl ?_
  refine b_upV (pc := 14) hC hR up_J5_ensureCapacityInternal_d00df ⟨Nat.le_refl _, Nat.le_of_ble_eq_true rfl, Nat.le_of_ble_eq_true rfl, Nat.le_of_ble_eq_true rfl⟩ dJ5_append_c97b9_14 (t_ensure hC.tr ht h60 hT hd) rfl rfl rfl (Nat.le_of_ble_eq_true rfl) (fun qv' m' d' hB => ?_)
  obtain ⟨hT', hM, hd'⟩ := hB
  have hM : t.length + dgn w ≤ m' := hM
  have hT' : isT t m' d' := hT'
  have hd' : ∀ k, k < 205 → d' k = dX k := hd'
  have hC' := lOK_BB hC qv' m'
  refine a_aload_n (pc := 17) hC' dJ5_append_c97b9_17 rfl ?_
  refine b_upI (pc := 18) hC' hR up_J5_isLatin1_aae02 ⟨Nat.le_of_ble_eq_true rfl, Nat.le_of_ble_eq_true rfl, Nat.le_of_ble_eq_true rfl, Nat.le_of_ble_eq_true rfl⟩ dJ5_append_c97b9_18 (t_isLatin1 (P := fun r u => r = 1 ∧ u = (d', [])) hC.tr ⟨rfl, rfl⟩) rfl rfl rfl (Nat.le_of_ble_eq_true rfl) (fun r q2 h2 => ?_)
  obtain ⟨rfl, rfl⟩ := h2
  refine a_if_eq (pc := 21) (tgt := 37) hC' dJ5_append_c97b9_21 (by decide) (fun c => absurd c (by decide)) (fun _ => ?_)
  refine a_iload_n (pc := 24) hC' dJ5_append_c97b9_24 rfl ?_
  refine a_iload_n (pc := 25) hC' dJ5_append_c97b9_25 rfl ?_
  refine a_aload_n (pc := 26) hC' dJ5_append_c97b9_26 rfl ?_
  refine sb_value (pc := 27) hC' dJ5_append_c97b9_27 ?_
  refine a_callS (pc := 30) hC' hR sm_J6_getChars_ba4f3 tw_1150 ⟨Nat.le_of_ble_eq_true rfl, Nat.le_of_ble_eq_true rfl, Nat.le_of_ble_eq_true rfl, Nat.le_of_ble_eq_true rfl⟩ dJ5_append_c97b9_30 (t_getChars hC.tr ht hw (p := t.length + dgn w) ⟨by omega, hM⟩ hT'.2.1 (P := fun r u => u = (dGC d' w (t.length + dgn w), [])) (fun _ => rfl)) rfl rfl rfl (Nat.le_of_ble_eq_true rfl) (fun r q2 h2 => ?_)
  subst h2
  refine a_pop (pc := 33) hC' dJ5_append_c97b9_33 rfl ?_
  refine a_goto (pc := 34) (tgt := 48) hC' dJ5_append_c97b9_34 (by decide) ?_
  refine a_aload_n (pc := 48) hC' dJ5_append_c97b9_48 rfl ?_
  refine a_iload_n (pc := 49) hC' dJ5_append_c97b9_49 rfl ?_
  refine sb_putCount (pc := 50) hC' dJ5_append_c97b9_50 ?_
  refine a_aload_n (pc := 53) hC' dJ5_append_c97b9_53 rfl ?_
  refine b_qret (pc := 54) (Or.inl ⟨_, rfl⟩) hC' hE ⟨?_, Nat.zero_le _, fun k hk => ?_⟩ (Nat.le_refl _) (Nat.le_refl _) dJ5_append_c97b9_54
  · show isT (t ++ dgs w) m' (up2 (dGC d' w (t.length + dgn w)) 205 3 (nI (t.length + dgn w)))
    by_cases h10 : w < 10
    · have eg : dgn w = 1 := if_pos h10
      rw [eg] at hM h60 ⊢
      rw [show dgs w = [48 + w] from if_pos h10]
      refine hT'.push (by omega) hM h60 (up2_ne_at _ _ _ _) (fun j => ?_)
      rw [up2_ne' _ _ _ (by decide), dGC, if_pos h10, up2_206, show t.length + 1 - 1 = t.length by omega, show w % 10 = w by omega]
    · have eg : dgn w = 2 := if_neg h10
      rw [eg] at hM h60 ⊢
      rw [show dgs w = [48 + w / 10] ++ [48 + w % 10] from if_neg h10, ← List.append_assoc]
      have l1 : (t ++ [48 + w / 10]).length = t.length + 1 := by simp
      have h1 : isT (t ++ [48 + w / 10]) m' (up2 (up2 d' 206 t.length (nI (48 + w / 10))) 205 3 (nI (t.length + 1))) :=
        hT'.push (by omega) (by omega) (by omega) (up2_ne_at _ _ _ _) (fun j => by rw [up2_ne' _ _ _ (by decide), up2_206])
      refine h1.push (by omega) (by rw [l1]; omega) (by rw [l1]; omega) ?_ (fun j => ?_)
      · rw [l1]
        exact up2_ne_at _ _ _ _
      · rw [l1, up2_ne' _ _ _ (by decide), dGC, if_neg h10, up2_206, up2_206, up2_ne' _ _ _ (by decide), up2_206, show t.length + 2 - 1 = t.length + 1 by omega, show t.length + 2 - 2 = t.length by omega]
        by_cases c1 : j = t.length + 1
        · rw [if_neg (by omega), if_pos c1, if_pos c1]
        · rw [if_neg c1, if_neg c1]
  · show up2 (dGC d' w (t.length + dgn w)) 205 3 (nI (t.length + dgn w)) k = dX k
    rw [up2_ne' _ _ _ (by omega)]
    unfold dGC
    split
    · rw [up2_ne' _ _ _ (by omega)]; exact hd' k hk
    · rw [up2_ne' _ _ _ (by omega), up2_ne' _ _ _ (by omega)]; exact hd' k hk
end SB8

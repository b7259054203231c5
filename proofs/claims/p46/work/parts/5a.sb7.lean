/-! the StringBuilder: length, charAt, setLength(0); her own methods, in the law's world; calls of them -/
section SB9
variable {l : Launch} {z : lP} {dX : Nat → Nat → Int32} {t : List Nat} {RS : va_W} {ba : Nat} {qv m : Nat} {d : Nat → Nat → Int32} {P : Int32 → aS → Prop}
theorem t5_length (hl : l.stackTraces = false) (h : P (d 205 3) (d, [])) : aMi l (lB z RS ba qv m) yJ5_length_8abf5 (aWs yJ5_length_8abf5 cJ5_length_8abf5 1 (some .int)) 0 0 0 [.ref ba] (d, []) P noX := by
  refine aMi_of RJ5 ⟨by decide +kernel, rfl⟩ (cat_all rfl) (Nat.le_of_ble_eq_true rfl) hl lB_cl (fun f hR hC hE => ?_)
  show AW f (lB z RS ba qv m) 0 [some (.ref ba)] [] (d, []) 0 0
  refine a_aload_n (pc := 0) hC dJ5_length_8abf5_0 rfl ?_
  refine sb_count (pc := 1) hC dJ5_length_8abf5_1 ?_
  exact a_iret (pc := 4) hC hE h (Nat.le_refl _) (Nat.le_refl _) dJ5_length_8abf5_4
theorem lB_S : isS (lB z RS ba qv m) := ⟨lB_cl, fun _ _ h => h.1.1⟩
theorem t5_charAt (hl : l.stackTraces = false) (ht : z.2.1.map Prod.snd = tyX) (hT : isT t m d) {j : Nat} (hj : j < t.length) (h : P (nI (t.getD j 0)) (d, [])) : aMi l (lB z RS ba qv m) yJ5_charAt_5068e (aWs yJ5_charAt_5068e cJ5_charAt_5068e 5 (some .char)) 2 0 0 [.ref ba, .int (nI j)] (d, []) P noX := by
  obtain ⟨h1, h2, h3, h4, h5, h6⟩ := hT
  obtain ⟨g1, g2⟩ := h5 j hj
  refine aMi_of RJ5 ⟨by decide +kernel, rfl⟩ (cat_all rfl) (Nat.le_of_ble_eq_true rfl) hl lB_cl (fun f hR hC hE => ?_)
  show AW f (lB z RS ba qv m) 0 [some (.ref ba), some (.int (nI j)), none, none, none] [] (d, []) 0 0
  refine a_aload_n (pc := 0) hC dJ5_charAt_5068e_0 rfl ?_
  refine sb_coder (pc := 1) hC dJ5_charAt_5068e_1 ?_
  refine a_istore_n (pc := 4) hC dJ5_charAt_5068e_4 (Nat.le_of_ble_eq_true rfl) ?_
  refine a_aload_n (pc := 5) hC dJ5_charAt_5068e_5 rfl ?_
  refine sb_value (pc := 6) hC dJ5_charAt_5068e_6 ?_
  refine a_astore_n (pc := 9) hC dJ5_charAt_5068e_9 (Nat.le_of_ble_eq_true rfl) ?_
  refine a_aload_n (pc := 10) hC dJ5_charAt_5068e_10 rfl ?_
  refine sb_count (pc := 11) hC dJ5_charAt_5068e_11 ?_
  rw [h4]
  refine a_aload_n (pc := 14) hC dJ5_charAt_5068e_14 rfl ?_
  refine sb_len (pc := 15) ht hC dJ5_charAt_5068e_15 ?_
  refine a_iload_n (pc := 16) hC dJ5_charAt_5068e_16 rfl ?_
  refine a_ishr (pc := 17) hC dJ5_charAt_5068e_17 ?_
  rw [sh0r]
  refine a_mmin (pc := 18) hC hR ⟨Nat.le_of_ble_eq_true rfl, Nat.le_refl _, Nat.le_refl _⟩ rfl tw_1387 tw_596 tw_23 tw_597 (Nat.le_of_ble_eq_true rfl) dJ5_charAt_5068e_18 ?_
  rw [if_neg (nI_nlt (by omega) (by omega))]
  refine a_istore (pc := 21) hC dJ5_charAt_5068e_21 (Nat.le_of_ble_eq_true rfl) ?_
  refine a_iload_n (pc := 23) hC dJ5_charAt_5068e_23 rfl ?_
  refine a_iload (pc := 24) hC dJ5_charAt_5068e_24 rfl ?_
  refine a_callSv (pc := 26) hC hR sm_J0_checkIndex_df160 tw_1388 ⟨Nat.le_of_ble_eq_true rfl, Nat.le_of_ble_eq_true rfl, Nat.le_of_ble_eq_true rfl, Nat.le_of_ble_eq_true rfl⟩ dJ5_charAt_5068e_26 (t_J0_checkIndex lB_S hC.tr (nI j) (nI t.length) (d, []) (fun _ u => u = (d, [])) (nI_pos (by omega)) (nI_lt hj (by omega)) rfl) rfl rfl rfl (Nat.le_of_ble_eq_true rfl) (fun q2 h2 => ?_)
  subst h2
  refine a_iload_n (pc := 29) hC dJ5_charAt_5068e_29 rfl ?_
  refine a_if_ne (pc := 30) (tgt := 42) hC dJ5_charAt_5068e_30 (by decide) (fun c => absurd rfl c) (fun _ => ?_)
  refine a_aload_n (pc := 33) hC dJ5_charAt_5068e_33 rfl ?_
  refine a_iload_n (pc := 34) hC dJ5_charAt_5068e_34 rfl ?_
  refine sb_bald (pc := 35) ht hC (vp_in_nI (by omega) (by omega)) dJ5_charAt_5068e_35 ?_
  rw [nI_clamp (by omega), g2]
  refine a_sipush (pc := 36) hC dJ5_charAt_5068e_36 (v := 255) rfl ?_
  refine a_iand (pc := 39) hC dJ5_charAt_5068e_39 ?_
  refine a_i2c (pc := 40) hC dJ5_charAt_5068e_40 ?_
  have hnc := pk_nc (nI (t.getD j 0) &&& 255)
  rw [(i2b_c _ g1).2.2.2] at hnc ⊢
  exact a_zret (pc := 41) hC hE hnc h (Nat.le_refl _) (Nat.le_refl _) dJ5_charAt_5068e_41
theorem t5_setLength (hl : l.stackTraces = false) (ht : z.2.1.map Prod.snd = tyX) (hT : isT t m d) (hd : ∀ k, k < 205 → d k = dX k) : bM l z RS ba qv m d yJ5_setLength_d00df (aWs yJ5_setLength_d00df cJ5_setLength_d00df 2 none) 4 1 120 [.ref ba, .int 0] (bQv z RS ba dX [] 0) := by
  refine bM_of RJ5 ⟨by decide +kernel, rfl⟩ (cat_all rfl) (Nat.le_of_ble_eq_true rfl) hl (fun f hR hC hE _ => ?_)
  show AW f (lB z RS ba qv m) 0 [some (.ref ba), some (.int 0)] [] (d, []) 0 0
  refine a_iload_n (pc := 0) hC dJ5_setLength_d00df_0 rfl ?_
  refine a_if_ge (pc := 1) (tgt := 13) hC dJ5_setLength_d00df_1 (by decide) (fun _ => ?_) (fun c => absurd (by decide) c)
  refine a_aload_n (pc := 13) hC dJ5_setLength_d00df_13 rfl ?_
  refine a_iload_n (pc := 14) hC dJ5_setLength_d00df_14 rfl ?_
  refine b_upV (pc := 15) hC hR up_J5_ensureCapacityInternal_d00df ⟨Nat.le_refl _, Nat.le_of_ble_eq_true rfl, Nat.le_of_ble_eq_true rfl, Nat.le_of_ble_eq_true rfl⟩ dJ5_setLength_d00df_15 (t_ensure (Q := 0) hC.tr ht (Nat.zero_le _) hT hd) rfl rfl rfl (Nat.le_of_ble_eq_true rfl) (fun qv' m' d' hB => ?_)
  obtain ⟨hT', hM, hd'⟩ := hB
  have hT' : isT t m' d' := hT'
  have hd' : ∀ k, k < 205 → d' k = dX k := hd'
  have hC' := lOK_BB hC qv' m'
  have fin : ∀ d2 : Nat → Nat → Int32, (∀ k, k < 205 → d2 k = dX k) → (∀ j, d2 206 j = d' 206 j) → AW f (lB z RS ba qv' m') 76 [some (.ref ba), some (.int 0)] [] (d2, []) (0 + 1) (0 + 120) := by
    intro d2 g1 g2
    refine a_aload_n (pc := 76) hC' dJ5_setLength_d00df_76 rfl ?_
    refine a_iload_n (pc := 77) hC' dJ5_setLength_d00df_77 rfl ?_
    refine sb_putCount (pc := 78) hC' dJ5_setLength_d00df_78 ?_
    refine b_vret (pc := 81) hC' hE ⟨⟨Nat.zero_le _, hT'.2.1, Nat.zero_le _, ?_, fun j hj => absurd hj (Nat.not_lt_zero j), fun j => ?_⟩, Nat.zero_le _, fun k hk => ?_⟩ (Nat.le_refl _) (Nat.le_refl _) dJ5_setLength_d00df_81
    · show up2 d2 205 3 0 205 3 = 0
      exact up2_ne_at _ _ _ _
    · show fits .byte (.int (up2 d2 205 3 0 206 j)) = true
      rw [up2_ne' _ _ _ (by decide), g2]
      exact hT'.2.2.2.2.2 j
    · show up2 d2 205 3 0 k = dX k
      rw [up2_ne' _ _ _ (by omega)]
      exact g1 k hk
  refine a_aload_n (pc := 18) hC' dJ5_setLength_d00df_18 rfl ?_
  refine sb_count (pc := 19) hC' dJ5_setLength_d00df_19 ?_
  rw [hT'.2.2.2.1]
  refine a_iload_n (pc := 22) hC' dJ5_setLength_d00df_22 rfl ?_
  refine a_icmp_ge (pc := 23) (tgt := 63) hC' dJ5_setLength_d00df_23 (by decide) (fun _ => ?_) (fun c => absurd (show (0 : Int32) ≤ nI t.length from nI_pos' (by have := hT'.2.2.1; omega)) c)
  refine a_aload_n (pc := 63) hC' dJ5_setLength_d00df_63 rfl ?_
  refine sb_count (pc := 64) hC' dJ5_setLength_d00df_64 ?_
  rw [hT'.2.2.2.1]
  refine a_iload_n (pc := 67) hC' dJ5_setLength_d00df_67 rfl ?_
  refine a_icmp_le (pc := 68) (tgt := 76) hC' dJ5_setLength_d00df_68 (by decide) (fun _ => ?_) (fun _ => ?_)
  · exact fin d' hd' (fun _ => rfl)
  · refine a_aload_n (pc := 71) hC' dJ5_setLength_d00df_71 rfl ?_
    refine a_iconst (pc := 72) hC' dJ5_setLength_d00df_72 (v := 1) rfl ?_
    refine sb_putMay (pc := 73) hC' dJ5_setLength_d00df_73 ?_
    exact fin _ (fun k hk => by rw [up2_ne' _ _ _ (by omega)]; exact hd' k hk) (fun j => by rw [up2_ne' _ _ _ (by decide)])
end SB9
section SBA
def aMq (l : Launch) (g : aG) (y : MethodName) (ws : List Cond) (n mc ms : Nat) (As : List Value) (q : aS) (P : Option Nat → aS → Prop) : Prop :=
  vx_Met l y ws (aR n mc ms) (va_Pc As (aWd g q)) (va_Qq P (aWp g) (gA g)) (aX g noX) mc ms (gA g)
variable {f : aF} {g : aG} {q : aS} {cc : ByteArray} {nL : Nat} {own : String} {pc : Nat} {L : List (Option Value)} {st : List Value} {k n : Nat}
theorem aMq_of {l : Launch} {y : MethodName} {maxL mc ms : Nat} {rt : FieldType} {As : List Value} {P : Option Nat → aS → Prop} (own : String) (hy : plainName y.cls = true ∧ y.cls = own) (hcat : ∀ v ∈ As, v.category = 1) (hlen : As.length ≤ maxL) (hl : l.stackTraces = false) (hcl : gCl g)
    (body : ∀ f : aF, f_R f = aR n mc ms → aOK f g cc maxL own → (aEQ f g (va_Qq P (aWp g) (gA g)) noX mc ms ∧ (f_me f).sig.returnType = some rt) → AW f g 0 (As.map some ++ List.replicate (maxL - As.length) none) [] q 0 0) : aMq l g y (aWs y cc maxL (some rt)) n mc ms As q P := by
  refine vx_ofW (cc := cc) (maxL := maxL) (ret := some rt) hy.1 rfl ?_
  intro p e s m args below meth c s₁ B hml ht hv
  obtain ⟨rfl, ⟨ex, hI⟩, hK, hA, hEn⟩ := hv
  have hts := atoms_spec (ws := aWs y cc maxL (some rt)) B.pre
  have hown : s.vm.findClass own = some m.cls := by rw [← hy.2]; exact findClass_of_methodNamed B.named
  have h := body (p, l, e, (headSpec (aWs y cc maxL (some rt)) (aR n mc ms)).room, s, m, As.toArray, below, meth, c, vx_MQ below (va_Qq P (aWp g) (gA g)) (aX g noX) As.toArray s mc ms (gA g)) rfl
    ⟨B.exec, B.bytes, hml, hown, fun w hw => hts w (List.mem_cons_of_mem _ hw), hK, B.notSynchronized, hEn, hA, hl, hcl⟩ ⟨⟨rfl, ht⟩, B.returns⟩
  rw [lg_entry_eq]
  exact h _ _ [] ex (lw_entry As hcat hlen) hI va_S.rf
theorem a_qret {rt : FieldType} (hrt : (∃ n, rt = .object n) ∨ ∃ t, rt = .array t) {P : Option Nat → aS → Prop} {mc ms a : Nat} (hC : aOK f g cc nL own) (hE : aEQ f g (va_Qq P (aWp g) (gA g)) noX mc ms ∧ (f_me f).sig.returnType = some rt) (hp : P (some a) q) (h1 : k ≤ mc) (h2 : n ≤ ms) (dg : decode cc pc = .ok (.areturn, 1)) : AW f g pc L [.ref a] q k n := by
  intro ls H locs ex hl hI hS
  rw [hE.1.1]
  exact W.widen h1 h2 (vx_ret (W.aret hC.x hC.b hE.2 hrt (Or.inr ⟨_, rfl⟩) (fun t ht hW => ⟨⟨some a, q, rfl, hp, ⟨ex, by rw [ht]; exact hI⟩⟩, hS.F ht⟩) hS.2.2 dg hC.lk))
end SBA
section SBC
variable {l : Launch} {z : lP} {dX : Nat → Nat → Int32} {t : List Nat} {RS : va_W} {ba : Nat} {P : Int32 → aS → Prop}
theorem t4_length (hl : l.stackTraces = false) (h : P (nI t.length) (dX, t)) : aMi l (lX z RS ba) yJ4_length_8abf5 (aWs yJ4_length_8abf5 cJ4_length_8abf5 1 (some .int)) 1 0 0 [.ref ba] (dX, t) P noX := by
  refine aMi_of RJ4 ⟨by decide +kernel, rfl⟩ (cat_all rfl) (Nat.le_of_ble_eq_true rfl) hl (lEn_cl (z := z) rfl rfl) (fun f hR hC hE => ?_)
  show AW f (lX z RS ba) 0 [some (.ref ba)] [] (dX, t) 0 0
  refine AW.openB (fun qv m d hT hd => ?_)
  have hC' := lOK_B hC qv m
  refine a_aload_n (pc := 0) hC' dJ4_length_8abf5_0 rfl ?_
  refine b_superI (pc := 1) hC' hR su_J5_length_8abf5 ⟨Nat.le_refl _, Nat.le_of_ble_eq_true rfl, Nat.le_refl _, Nat.le_refl _⟩ dJ4_length_8abf5_1 (t5_length (P := fun r u => r = nI t.length ∧ u = (d, [])) hC.tr ⟨hT.2.2.2.1, rfl⟩) rfl rfl rfl (Nat.le_of_ble_eq_true rfl) (fun r q2 h2 => ?_)
  obtain ⟨rfl, rfl⟩ := h2
  refine AW.closeB hT hd ?_
  exact a_iret (pc := 4) hC hE h (Nat.le_refl _) (Nat.le_refl _) dJ4_length_8abf5_4
theorem t4_charAt (hl : l.stackTraces = false) (ht : z.2.1.map Prod.snd = tyX) {j : Nat} (hj : j < t.length) (hc : t.getD j 0 < 128) (h : P (nI (t.getD j 0)) (dX, t)) : aMi l (lX z RS ba) yJ4_charAt_5068e (aWs yJ4_charAt_5068e cJ4_charAt_5068e 2 (some .char)) 3 0 0 [.ref ba, .int (nI j)] (dX, t) P noX := by
  refine aMi_of RJ4 ⟨by decide +kernel, rfl⟩ (cat_all rfl) (Nat.le_of_ble_eq_true rfl) hl (lEn_cl (z := z) rfl rfl) (fun f hR hC hE => ?_)
  show AW f (lX z RS ba) 0 [some (.ref ba), some (.int (nI j))] [] (dX, t) 0 0
  refine AW.openB (fun qv m d hT hd => ?_)
  have hC' := lOK_B hC qv m
  refine a_aload_n (pc := 0) hC' dJ4_charAt_5068e_0 rfl ?_
  refine a_iload_n (pc := 1) hC' dJ4_charAt_5068e_1 rfl ?_
  refine b_superI (pc := 2) hC' hR su_J5_charAt_5068e ⟨Nat.le_refl _, Nat.le_of_ble_eq_true rfl, Nat.le_refl _, Nat.le_refl _⟩ dJ4_charAt_5068e_2 (t5_charAt (P := fun r u => r = nI (t.getD j 0) ∧ u = (d, [])) hC.tr ht hT hj ⟨rfl, rfl⟩) rfl rfl rfl (Nat.le_of_ble_eq_true rfl) (fun r q2 h2 => ?_)
  obtain ⟨rfl, rfl⟩ := h2
  refine AW.closeB hT hd ?_
  have hnc := pk_nc (nI (t.getD j 0) &&& 255)
  rw [(i2b_c _ hc).2.2.2] at hnc
  exact a_zret (pc := 5) hC hE hnc h (Nat.le_refl _) (Nat.le_refl _) dJ4_charAt_5068e_5
theorem t4_setLength (hl : l.stackTraces = false) (ht : z.2.1.map Prod.snd = tyX) (h : P 0 (dX, [])) : aMv l (lX z RS ba) yJ4_setLength_d00df (aWs yJ4_setLength_d00df cJ4_setLength_d00df 2 none) 5 1 120 [.ref ba, .int 0] (dX, t) P noX := by
  refine aMv_of RJ4 ⟨by decide +kernel, rfl⟩ (cat_all rfl) (Nat.le_of_ble_eq_true rfl) hl (lEn_cl (z := z) rfl rfl) (fun f hR hC hE => ?_)
  show AW f (lX z RS ba) 0 [some (.ref ba), some (.int 0)] [] (dX, t) 0 0
  refine AW.openB (fun qv m d hT hd => ?_)
  have hC' := lOK_B hC qv m
  refine a_aload_n (pc := 0) hC' dJ4_setLength_d00df_0 rfl ?_
  refine a_iload_n (pc := 1) hC' dJ4_setLength_d00df_1 rfl ?_
  refine b_superV (pc := 2) hC' hR su_J5_setLength_d00df ⟨Nat.le_refl _, Nat.le_of_ble_eq_true rfl, Nat.le_refl _, Nat.le_refl _⟩ dJ4_setLength_d00df_2 (t5_setLength hC.tr ht hT hd) rfl rfl rfl (Nat.le_of_ble_eq_true rfl) (fun qv' m' d' hB => ?_)
  refine AW.closeB hB.1 hB.2.2 ?_
  exact a_vret (pc := 5) hC hE h (Nat.le_refl _) (Nat.le_refl _) dJ4_setLength_d00df_5
theorem t4_appendC {PQ : Option Nat → aS → Prop} (hl : l.stackTraces = false) (ht : z.2.1.map Prod.snd = tyX) {c : Nat} (hc : c < 128) (h60 : t.length + 1 ≤ 60) (h : PQ (some ba) (dX, t ++ [c])) : aMq l (lX z RS ba) yJ4_append_cf468 (aWs yJ4_append_cf468 cJ4_append_cf468 2 (some (.object "java/lang/StringBuilder"))) 5 1 120 [.ref ba, .int (nI c)] (dX, t) PQ := by
  refine aMq_of RJ4 ⟨by decide +kernel, rfl⟩ (cat_all rfl) (Nat.le_of_ble_eq_true rfl) hl (lEn_cl (z := z) rfl rfl) (fun f hR hC hE => ?_)
  show AW f (lX z RS ba) 0 [some (.ref ba), some (.int (nI c))] [] (dX, t) 0 0
  refine AW.openB (fun qv m d hT hd => ?_)
  have hC' := lOK_B hC qv m
  refine a_aload_n (pc := 0) hC' dJ4_append_cf468_0 rfl ?_
  refine a_iload_n (pc := 1) hC' dJ4_append_cf468_1 rfl ?_
  refine b_superQ (pc := 2) hC' hR su_J5_append_3fe6f ⟨Nat.le_refl _, Nat.le_of_ble_eq_true rfl, Nat.le_refl _, Nat.le_refl _⟩ dJ4_append_cf468_2 (t5_appendC hC.tr ht hc h60 hT hd) rfl rfl rfl (Nat.le_of_ble_eq_true rfl) (fun qv' m' d' hB => ?_)
  refine AW.closeB hB.1 hB.2.2 ?_
  refine a_pop (pc := 5) hC dJ4_append_cf468_5 rfl ?_
  refine a_aload_n (pc := 6) hC dJ4_append_cf468_6 rfl ?_
  exact a_qret (pc := 7) (Or.inl ⟨_, rfl⟩) hC hE h (Nat.le_refl _) (Nat.le_refl _) dJ4_append_cf468_7
theorem t4_appendI {PQ : Option Nat → aS → Prop} (hl : l.stackTraces = false) (ht : z.2.1.map Prod.snd = tyX) {w : Nat} (hw : w < 100) (h60 : t.length + dgn w ≤ 60) (h : PQ (some ba) (dX, t ++ dgs w)) : aMq l (lX z RS ba) yJ4_append_bf812 (aWs yJ4_append_bf812 cJ4_append_bf812 2 (some (.object "java/lang/StringBuilder"))) 5 1 120 [.ref ba, .int (nI w)] (dX, t) PQ := by
  refine aMq_of RJ4 ⟨by decide +kernel, rfl⟩ (cat_all rfl) (Nat.le_of_ble_eq_true rfl) hl (lEn_cl (z := z) rfl rfl) (fun f hR hC hE => ?_)
  show AW f (lX z RS ba) 0 [some (.ref ba), some (.int (nI w))] [] (dX, t) 0 0
  refine AW.openB (fun qv m d hT hd => ?_)
  have hC' := lOK_B hC qv m
  refine a_aload_n (pc := 0) hC' dJ4_append_bf812_0 rfl ?_
  refine a_iload_n (pc := 1) hC' dJ4_append_bf812_1 rfl ?_
  refine b_superQ (pc := 2) hC' hR su_J5_append_c97b9 ⟨Nat.le_refl _, Nat.le_of_ble_eq_true rfl, Nat.le_refl _, Nat.le_refl _⟩ dJ4_append_bf812_2 (t5_appendI hC.tr ht hw h60 hT hd) rfl rfl rfl (Nat.le_of_ble_eq_true rfl) (fun qv' m' d' hB => ?_)
  refine AW.closeB hB.1 hB.2.2 ?_
  refine a_pop (pc := 5) hC dJ4_append_bf812_5 rfl ?_
  refine a_aload_n (pc := 6) hC dJ4_append_bf812_6 rfl ?_
  exact a_qret (pc := 7) (Or.inl ⟨_, rfl⟩) hC hE h (Nat.le_refl _) (Nat.le_refl _) dJ4_append_bf812_7
end SBC

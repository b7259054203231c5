/-! Arrays.copyOfRange of the builder's bytes, from 0 -/
theorem dJ7_checkLength_df160_0 : decode cJ7_checkLength_df160 0 = .ok (.iload_n 1, 1) := by decide +kernel
theorem dJ7_checkLength_df160_1 : decode cJ7_checkLength_df160 1 = .ok (.iload_n 0, 1) := by decide +kernel
theorem dJ7_checkLength_df160_2 : decode cJ7_checkLength_df160 2 = .ok (.if_icmp .ge 35, 3) := by decide +kernel
theorem dJ7_checkLength_df160_5 : decode cJ7_checkLength_df160 5 = .ok (.new 43, 3) := by decide +kernel
theorem dJ7_checkLength_df160_8 : decode cJ7_checkLength_df160 8 = .ok (.dup, 1) := by decide +kernel
theorem dJ7_checkLength_df160_9 : decode cJ7_checkLength_df160 9 = .ok (.new 45, 3) := by decide +kernel
theorem dJ7_checkLength_df160_12 : decode cJ7_checkLength_df160 12 = .ok (.dup, 1) := by decide +kernel
theorem dJ7_checkLength_df160_13 : decode cJ7_checkLength_df160 13 = .ok (.invokespecial 47, 3) := by decide +kernel
theorem dJ7_checkLength_df160_16 : decode cJ7_checkLength_df160 16 = .ok (.iload_n 0, 1) := by decide +kernel
theorem dJ7_checkLength_df160_17 : decode cJ7_checkLength_df160 17 = .ok (.invokevirtual 54, 3) := by decide +kernel
theorem dJ7_checkLength_df160_20 : decode cJ7_checkLength_df160 20 = .ok (.ldc_w 337, 3) := by decide +kernel
theorem dJ7_checkLength_df160_23 : decode cJ7_checkLength_df160 23 = .ok (.invokevirtual 50, 3) := by decide +kernel
theorem dJ7_checkLength_df160_26 : decode cJ7_checkLength_df160 26 = .ok (.iload_n 1, 1) := by decide +kernel
theorem dJ7_checkLength_df160_27 : decode cJ7_checkLength_df160 27 = .ok (.invokevirtual 54, 3) := by decide +kernel
theorem dJ7_checkLength_df160_30 : decode cJ7_checkLength_df160 30 = .ok (.invokevirtual 61, 3) := by decide +kernel
theorem dJ7_checkLength_df160_33 : decode cJ7_checkLength_df160 33 = .ok (.invokespecial 65, 3) := by decide +kernel
theorem dJ7_checkLength_df160_36 : decode cJ7_checkLength_df160 36 = .ok (.athrow, 1) := by decide +kernel
theorem dJ7_checkLength_df160_37 : decode cJ7_checkLength_df160 37 = .ok (.return_, 1) := by decide +kernel
theorem sm_J7_checkLength_df160 : aSm yJ7_checkLength_df160 cJ7_checkLength_df160 2 none 2 := ⟨tw_1263, tw_1262, tw_32, by decide +kernel, by decide +kernel, by decide +kernel⟩
section CPR
variable {f : aF} {g : aG} {z : lP} {cc : ByteArray} {nL : Nat} {own : String} {pc : Nat} {L : List (Option Value)} {st rest : List Value} {RS : va_W} {ba k n qv m q cap : Nat} {d : Nat → Nat → Int32} {b2 : Nat → Int32}
/-- y bytes of the builder's go into a new row -/
theorem bc_copyN (hC : aOK f (lBN z RS ba qv m q cap b2) cc nL "java/util/Arrays") (ht : z.2.1.map Prod.snd = tyX) {N mcR msR y : Nat} (hR : f_R f = aR N mcR msR) (hN : 1 ≤ N) (hL : L.length = nL) (h1 : y ≤ m) (h2 : y ≤ cap) (hc : y < 10000) (hfit : ∀ j, fits .byte (.int (d 206 j)) = true) (dg : decode cc pc = .ok (.invokestatic 150, 3)) (hrest : (st.map fun v => v.category).sum ≤ 8)
    (kk : AW f (lBN z RS ba qv m q cap (va_cpy (d 206) b2 0 0 y)) (pc + 3) L st (d, []) k n) : AW f (lBN z RS ba qv m q cap b2) pc L (.int (nI y) :: .int 0 :: .ref q :: .int 0 :: .ref qv :: st) (d, []) k n := by
  intro ls H locs ex hl hI hS
  obtain ⟨rfl, hP, hD⟩ := hI
  have z0 : Int32.toNatClampNeg 0 = 0 := by decide +kernel
  have zm : Int32.toNatClampNeg (nI y) = y := nI_clamp (by omega)
  refine va_copyi hC.x hC.b (hC.ml.trans (hL.symm.trans hl.1.symm)) hC.o (hC.w tw_1144 rfl) (hC.w tw_789 rfl) (hC.w tw_788 rfl) (hC.w tw_22 rfl) hC.K hP hD hS 206 207 5 5 (ty := .byte) (n0 := m) (n1 := cap) (f := d 206) (g := b2) (c0 := lc z 5) (c1 := lc z 5) ((aWl_at (lBN z RS ba qv m q cap b2) d _ (oN_by ht).1).trans (by rw [(oN_by ht).2.1]; rfl)) (by rw [List.getElem?_append_right (by rw [aWl_len]; exact Nat.le_refl 207), aWl_len]; rfl) (gc_at (g := lBN z RS ba qv m q cap b2) ht rfl) (gc_at (g := lBN z RS ba qv m q cap b2) ht rfl) rfl (by decide) (by decide) (nI_pos (by omega)) (by rw [z0, zm]; omega) (by rw [z0, zm]; omega) (fun i _ => hfit _) (by rw [hR]; exact hN) (by rw [hR]; exact Nat.le_trans (Nat.add_le_add hrest (Nat.add_le_add_right nfw_le 11)) (Nat.le_trans (Nat.le_of_ble_eq_true rfl : 8 + (30 + 11) ≤ 60 * 1) (Nat.mul_le_mul_left 60 hN))) dg (fun H1 locs1 hP1 hD1 hS1 => ?_)
  have hs : ∀ (x y : Nat × va_E) (b : va_W), (aWl (lBN z RS ba qv m q cap b2) d ++ (x :: b)).set 207 y = aWl (lBN z RS ba qv m q cap b2) d ++ (y :: b) := fun x y b => by
    rw [List.set_append_right _ _ (by rw [aWl_len]; exact Nat.le_refl 207), aWl_len]
    rfl
  rw [hs, z0, zm] at hP1 hD1
  exact kk ls H1 locs1 _ hl ⟨rfl, hP1, hD1⟩ hS1
/-- the whole row once more -/
theorem bc_clone (hC : aOK f (lB z RS ba qv m) cc nL "java/util/Arrays") (ht : z.2.1.map Prod.snd = tyX) {N mcR msR : Nat} (hR : f_R f = aR N mcR msR) (hN : 1 ≤ N) (hL : L.length = nL) (hfit : ∀ j, fits .byte (.int (d 206 j)) = true) (hk : k + 1 ≤ mcR) (hn : n + m ≤ msR) (dg : decode cc pc = .ok (.invokevirtual 310, 3)) (d3 : decode cc (pc + 3) = .ok (.checkcast 311, 3)) (hrest : (st.map fun v => v.category).sum ≤ 8)
    (kk : ∀ q, AW f (lBN z RS ba qv m q m (d 206)) (pc + 3 + 3) L (.ref q :: st) (d, []) (k + 1) (n + m)) : AW f (lB z RS ba qv m) pc L (.ref qv :: st) (d, []) k n := by
  intro ls H locs ex hl hI hS
  obtain ⟨hex, hP, hD⟩ := hI
  have hex : ex = RS := hex
  subst ex
  have hby := oB_by (z := z) (RS := RS) (ba := ba) (qv := qv) (m := m) ht
  have hnm : (f_s f).vm.findClass "[B" = some (lc z 5) := (hC.K.2 5 (lc z 5, .byte) hby.2.2).2
  have hat : (aWl (lB z RS ba qv m) d ++ RS)[206]? = some (qv, .inl (lc z 5, m, .inl (d 206))) := (aWl_at (lB z RS ba qv m) d RS hby.1).trans (by rw [hby.2.1]; rfl)
  have hle : (st.map fun v => v.category).sum + 14 ≤ (f_R f).locals := by
    rw [hR]
    show _ ≤ 60 * N
    omega
  refine va_clone (x := (m, .inl (d 206))) hC.x hC.b (hC.ml.trans (hL.symm.trans hl.1.symm)) hC.o (hC.w tw_1136 rfl) (hC.w tw_1137 rfl) (hC.w tw_1138 rfl) (hC.w tw_1139 rfl) (hC.w tw_1140 rfl) (show lEn z (f_s f) (f_s f).heap from hC.en).2.1.2.2 hC.K hP hD hS hC.A 206 5 hat hby.2.2 hnm (fun i v hv => ?_) (by rw [hR]; exact hN) hle (by rw [hR]; exact hk) (by rw [hR]; exact hn) dg (fun q H1 _ hP1 hD1 hS1 => ?_)
  · have hlt : i < m := by
      have h9 := (Array.getElem?_eq_some_iff.mp hv).1
      have e9 : (vp_cell (lc z 5) (m, .inl (d 206))).slots.size = m := arrV_size ..
      omega
    have e : (vp_cell (lc z 5) (m, .inl (d 206))).slots[i]? = some (.int (d 206 i)) := arrV_read _ _ hlt
    cases Option.some.inj (hv.symm.trans e)
    exact hfit i
  · have hp : ∀ (a b : va_W) (x : Nat × va_E), List.Perm (a ++ b ++ [x]) (a ++ (x :: b)) := fun a b x => by
      rw [List.append_assoc]
      exact List.Perm.append_left a (List.perm_append_comm (l₁ := b) (l₂ := [x]))
    have hlen : (aWl (lB z RS ba qv m) d ++ RS ++ [(q, .inl (lc z 5, m, .inl (d 206)))])[(aWl (lB z RS ba qv m) d ++ RS).length]? = some (q, .inl (lc z 5, m, .inl (d 206))) := by
      rw [List.getElem?_append_right (Nat.le_refl _), Nat.sub_self]
      rfl
    exact va_castA hC.x hC.b hC.o (hC.w tw_1142 rfl) hP1 _ hlen hnm d3 (kk q ls H1 locs _ hl ⟨rfl, wP_perm (hp _ _ _) hP1, wD_perm (hp _ _ _) hD1⟩ hS1)
/-- a static call that answers a new row -/
abbrev bQr (z : lP) (RS : va_W) (ba qv m : Nat) (d : Nat → Nat → Int32) (len : Nat) : Array Value → State → Outcome → State → Prop :=
  va_Qq (S := Nat × (Nat → Int32)) (fun r u => r = some u.1 ∧ ∀ j, j < len → u.2 j = d 206 j) (fun u s => aWp (lBN z RS ba qv m u.1 len u.2) (d, []) s) (lA z)
theorem b_callSq {y : MethodName} {bytes : ByteArray} {maxL n' mc ms N mcR msR index mP len : Nat} {ty : FieldType} {As : List Value} (hC : aOK f (lB z RS ba qv m) cc nL own) (hR : f_R f = aR N mcR msR) (hm : aSm y bytes maxL (some ty) mP) (hw : Cond.methodLink own index y ∈ lw_tbl) (hF : aFit maxL n' mc ms k n N mcR msR) (dg : decode cc pc = .ok (.invokestatic index, 3))
    (hM : bM (f_l f) z RS ba qv m d y (aWs y bytes maxL (some ty)) n' mc ms As (bQr z RS ba qv m d len)) (hst : st = As.reverse ++ rest) (hn : As.length = mP) (hL : L.length = nL) (hrest : (rest.map fun v => v.category).sum ≤ 8)
    (kk : ∀ q b2, (∀ j, j < len → b2 j = d 206 j) → AW f (lBN z RS ba qv m q len b2) (pc + 3) L (.ref q :: rest) (d, []) (k + mc) (n + ms)) : AW f (lB z RS ba qv m) pc L st (d, []) k n := by
  intro ls H locs ex hl hI hS
  subst hst
  have hf := hF.loc
  rw [← hR] at hf
  have hrun := va_runS (As := As) (rest := rest) (g := F0 (f_m f) pc ls (As.reverse ++ rest)) (locs := locs) (meth := f_me f) (below := f_b f) (e := f_e f) (cells := k) (slots := n) (S := (⟨hC.x, hC.b, hC.ml, hC.o, hC.ts⟩ : CallFix (f_p f) (f_m f) (f_c f) cc nL (f_s f) (f_a f) TW own)) (aMet_of hM aX_no) (va_cwS mP hC.ts (good_S hm hw) rfl rfl rfl hm.2.2.2 hf) (a_preS hC hI hS _) rfl hn (hl.1.trans hL) rfl (lv_room hrest) dg (by rw [hR]; exact ⟨hF.2.2.1, hF.2.2.2⟩)
  refine va_callq hrun hS (fun _ _ h => h) (fun _ h => h) (fun r u t H1 locs1 ht hvm hp1 hB hz hk1 hS1 => ?_)
  obtain ⟨q, b2⟩ := u
  obtain ⟨ex', hI'⟩ := hB
  obtain ⟨rfl, hp2⟩ := hp1
  rw [ht] at hI'
  exact kk q b2 hp2 ls H1 locs1 ex' hl hI' hS1
theorem b_rret {qv' m' len mc ms : Nat} (hC : aOK f (lBN z RS ba qv m q len b2) cc nL own) (hE : aEQ f (lB z RS ba qv m) (bQr z RS ba qv m d len) noX mc ms ∧ (f_me f).sig.returnType = some (.array .byte)) (hb : ∀ j, j < len → b2 j = d 206 j) (h1 : k ≤ mc) (h2 : n ≤ ms) (dg : decode cc pc = .ok (.areturn, 1)) : AW f (lBN z RS ba qv m q len b2) pc L [.ref q] (d, []) k n := by
  intro ls H locs ex hl hI hS
  rw [hE.1.1]
  exact W.widen h1 h2 (vx_ret (W.aret hC.x hC.b hE.2 (Or.inr ⟨_, rfl⟩) (Or.inr ⟨_, rfl⟩) (fun t ht hW => ⟨⟨some q, (q, b2), rfl, ⟨rfl, hb⟩, ⟨ex, by rw [ht]; exact hI⟩⟩, hS.F ht⟩) hS.2.2 dg hC.lk))
end CPR
section CPS
variable {l : Launch} {g : aG} {z : lP} {RS : va_W} {ba qv m len : Nat} {d : Nat → Nat → Int32} {q : aS} {P : Int32 → aS → Prop}
theorem t_checkLength (hcl : gCl g) (hl : l.stackTraces = false) {x y : Int32} (hxy : x ≤ y) (h : P 0 q) : aMv l g yJ7_checkLength_df160 (aWs yJ7_checkLength_df160 cJ7_checkLength_df160 2 none) 0 0 0 [.int x, .int y] q P noX := by
  refine aMv_of RJ7 ⟨by decide +kernel, rfl⟩ (cat_all rfl) (Nat.le_of_ble_eq_true rfl) hl hcl (fun f hR hC hE => ?_)
  show AW f g 0 [some (.int x), some (.int y)] [] q 0 0
  refine a_iload_n (pc := 0) hC dJ7_checkLength_df160_0 rfl ?_
  refine a_iload_n (pc := 1) hC dJ7_checkLength_df160_1 rfl ?_
  refine a_icmp_ge (pc := 2) (tgt := 37) hC dJ7_checkLength_df160_2 (by decide) (fun _ => ?_) (fun c => absurd hxy c)
  exact a_vret (pc := 37) hC hE h (Nat.le_refl _) (Nat.le_refl _) dJ7_checkLength_df160_37
theorem sub_0 (x : Int32) : x - 0 = x := Int32.sub_zero x
theorem t_copyRangeB (hl : l.stackTraces = false) (ht : z.2.1.map Prod.snd = tyX) (h1 : len ≤ m) (hm : m < 10000) (hfit : ∀ j, fits .byte (.int (d 206 j)) = true) : bM l z RS ba qv m d yJ7_copyOfRangeByte_39247 (aWs yJ7_copyOfRangeByte_39247 cJ7_copyOfRangeByte_39247 5 (some (.array .byte))) 1 1 len [.ref qv, .int 0, .int (nI len)] (bQr z RS ba qv m d len) := by
  refine bM_of RJ7 ⟨by decide +kernel, rfl⟩ (cat_all rfl) (Nat.le_of_ble_eq_true rfl) hl (fun f hR hC hE _ => ?_)
  show AW f (lB z RS ba qv m) 0 [some (.ref qv), some (.int 0), some (.int (nI len)), none, none] [] (d, []) 0 0
  refine a_iload_n (pc := 0) hC dJ7_copyOfRangeByte_39247_0 rfl ?_
  refine a_iload_n (pc := 1) hC dJ7_copyOfRangeByte_39247_1 rfl ?_
  refine a_callSv (As := [.int 0, .int (nI len)]) (pc := 2) hC hR sm_J7_checkLength_df160 tw_1261 ⟨Nat.le_refl _, Nat.le_of_ble_eq_true rfl, by omega, by omega⟩ dJ7_copyOfRangeByte_39247_2 (t_checkLength (P := fun _ u => u = (d, [])) lB_cl hC.tr (nI_pos' (by omega)) rfl) rfl rfl rfl (Nat.le_of_ble_eq_true rfl) (fun q2 h2 => ?_)
  subst h2
  refine a_iload_n (pc := 5) hC dJ7_copyOfRangeByte_39247_5 rfl ?_
  refine a_iload_n (pc := 6) hC dJ7_copyOfRangeByte_39247_6 rfl ?_
  refine a_isub (pc := 7) hC dJ7_copyOfRangeByte_39247_7 ?_
  rw [sub_0]
  refine a_istore_n (pc := 8) hC dJ7_copyOfRangeByte_39247_8 (Nat.le_of_ble_eq_true rfl) ?_
  refine a_iload_n (pc := 9) hC dJ7_copyOfRangeByte_39247_9 rfl ?_
  refine bc_newa (pc := 10) hC ht hR (by omega) (Nat.le_refl _) (by omega) dJ7_copyOfRangeByte_39247_10 (fun q => ?_)
  have hC' := lOK_N hC q len (fun _ => 0)
  refine a_astore (pc := 12) hC' dJ7_copyOfRangeByte_39247_12 (Nat.le_of_ble_eq_true rfl) ?_
  refine a_aload_n (pc := 14) hC' dJ7_copyOfRangeByte_39247_14 rfl ?_
  refine a_iload_n (pc := 15) hC' dJ7_copyOfRangeByte_39247_15 rfl ?_
  refine a_aload (pc := 16) hC' dJ7_copyOfRangeByte_39247_16 rfl ?_
  refine a_iconst (pc := 18) hC' dJ7_copyOfRangeByte_39247_18 (v := 0) rfl ?_
  refine a_aload_n (pc := 19) hC' dJ7_copyOfRangeByte_39247_19 rfl ?_
  refine a_alen (q := (d, [])) (pc := 20) hC' (oN_by ht) (v := nI m) rfl dJ7_copyOfRangeByte_39247_20 ?_
  refine a_iload_n (pc := 21) hC' dJ7_copyOfRangeByte_39247_21 rfl ?_
  refine a_isub (pc := 22) hC' dJ7_copyOfRangeByte_39247_22 ?_
  rw [sub_0]
  refine a_iload_n (pc := 23) hC' dJ7_copyOfRangeByte_39247_23 rfl ?_
  refine a_mmin (pc := 24) hC' hR ⟨Nat.le_refl _, by omega, by omega⟩ rfl tw_1143 tw_596 tw_23 tw_597 (Nat.le_of_ble_eq_true rfl) dJ7_copyOfRangeByte_39247_24 ?_
  rw [show (if nI len < nI m then nI len else nI m) = nI len by
    by_cases c : len < m
    · rw [if_pos (nI_lt c (by omega))]
    · rw [if_neg (nI_nlt (by omega) (by omega)), show m = len by omega]]
  refine bc_copyN (pc := 27) hC' ht hR (Nat.le_refl _) rfl h1 (Nat.le_refl _) (by omega) hfit dJ7_copyOfRangeByte_39247_27 (Nat.le_of_ble_eq_true rfl) ?_
  have hC2 := lOK_N hC q len (va_cpy (d 206) (fun _ => 0) 0 0 len)
  refine a_aload (pc := 30) hC2 dJ7_copyOfRangeByte_39247_30 rfl ?_
  refine b_rret (qv' := 0) (m' := 0) (pc := 32) hC2 hE (fun j hj => ?_) (Nat.le_refl _) (by omega) dJ7_copyOfRangeByte_39247_32
  rw [pk_cpy_in (Nat.zero_le _) (by omega), Nat.zero_add, Nat.sub_zero]
theorem t_copyRange (hl : l.stackTraces = false) (ht : z.2.1.map Prod.snd = tyX) (h1 : len ≤ m) (hm : m < 10000) (hfit : ∀ j, fits .byte (.int (d 206 j)) = true) : bM l z RS ba qv m d yJ7_copyOfRange_39247 (aWs yJ7_copyOfRange_39247 cJ7_copyOfRange_39247 3 (some (.array .byte))) 2 1 len [.ref qv, .int 0, .int (nI len)] (bQr z RS ba qv m d len) := by
  refine bM_of RJ7 ⟨by decide +kernel, rfl⟩ (cat_all rfl) (Nat.le_of_ble_eq_true rfl) hl (fun f hR hC hE _ => ?_)
  show AW f (lB z RS ba qv m) 0 [some (.ref qv), some (.int 0), some (.int (nI len))] [] (d, []) 0 0
  refine a_iload_n (pc := 0) hC dJ7_copyOfRange_39247_0 rfl ?_
  refine a_if_ne (pc := 1) (tgt := 10) hC dJ7_copyOfRange_39247_1 (by decide) (fun c => absurd rfl c) (fun _ => ?_)
  refine a_iload_n (pc := 4) hC dJ7_copyOfRange_39247_4 rfl ?_
  refine a_aload_n (pc := 5) hC dJ7_copyOfRange_39247_5 rfl ?_
  refine sb_len (pc := 6) ht hC dJ7_copyOfRange_39247_6 ?_
  refine a_icmp_eq (pc := 7) (tgt := 17) hC dJ7_copyOfRange_39247_7 (by decide) (fun c => ?_) (fun _ => ?_)
  · have e : len = m := (nI_eq (by omega) (by omega)).mp c
    subst e
    refine a_aload_n (pc := 17) hC dJ7_copyOfRange_39247_17 rfl ?_
    refine bc_clone (pc := 18) hC ht hR (by decide) rfl hfit (Nat.le_refl _) (by omega) dJ7_copyOfRange_39247_18 dJ7_copyOfRange_39247_21 (Nat.le_of_ble_eq_true rfl) (fun q => ?_)
    exact b_rret (qv' := 0) (m' := 0) (pc := 24) (lOK_N hC q len (d 206)) hE (fun _ _ => rfl) (Nat.le_refl _) (by omega) dJ7_copyOfRange_39247_24
  · refine a_aload_n (pc := 10) hC dJ7_copyOfRange_39247_10 rfl ?_
    refine a_iload_n (pc := 11) hC dJ7_copyOfRange_39247_11 rfl ?_
    refine a_iload_n (pc := 12) hC dJ7_copyOfRange_39247_12 rfl ?_
    refine b_callSq (As := [.ref qv, .int 0, .int (nI len)]) (pc := 13) hC hR sm_J7_copyOfRangeByte_39247 tw_1258 ⟨Nat.le_refl _, Nat.le_of_ble_eq_true rfl, by omega, by omega⟩ dJ7_copyOfRange_39247_13 (t_copyRangeB hC.tr ht h1 hm hfit) rfl rfl rfl (Nat.le_of_ble_eq_true rfl) (fun q b2 hb => ?_)
    exact b_rret (qv' := 0) (m' := 0) (pc := 16) (lOK_N hC q len b2) hE hb (Nat.le_refl _) (by omega) dJ7_copyOfRange_39247_16
end CPS

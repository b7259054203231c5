/-! the StringBuilder: a text is appended -/
/-- the copy of a constant row's stretch into a row of the world -/
theorem k_copyT {p : Program} {l : Launch} {e : Env} {R : Room} {s : State} {m : MethodId} {args : Array Value} {below : List Frame} {meth : Method} {c : Code} {H : Heap} {locs : List Loc} {cells slots : Nat} {Q : State → Prop} {cc : ByteArray} {pc : Nat} {ls : Array Slot} {rest : List Value} {D : va_G} {cl : List vw_C} {A : Nat → Prop} {a tb : Nat} {tys : List (ClassId × FieldType)} {ws : va_W}
    (hexec : p.tables.exec = Jvm.exec) (hb : c.code = cc) (hml : c.maxLocals = ls.size) {own : String} {index : Nat} (hown : s.vm.findClass own = some m.cls) (hlink : (Cond.methodLink own index arraycopyName).before args s = true) (hnat : (Cond.native arraycopyName).before args s = true) (hstat : (Cond.static arraycopyName).before args s = true) (hini : (Cond.initialized "java/lang/System").before args s = true)
    (hK : va_K D cl tys s) (hP : va_P D cl ws H) (hD : va_D A ws) (hS : va_S A s.heap H locs) {n0 n1 q1 t1 : Nat} {fv gv : Nat → Int32} (hT : va_T .byte tb n0 (fun j => .int (fv j)) A s s.heap) {c1 : ClassId} (hw1 : ws[q1]? = some (a, .inl (c1, n1, .inl gv))) (ht1 : tys[t1]? = some (c1, .byte))
    {x y : Nat} (hx : y ≤ n0) (hy : x + y ≤ n1) (hbig : x + y < 2 ^ 31) (hfit : ∀ j, j < y → fits .byte (.int (fv j)) = true) (hfr : 1 ≤ R.frames) (hlo : (rest.map fun v => v.category).sum + (nativeFrameWords "java/lang/System" "arraycopy" 5 + 11) ≤ R.locals) (dg : decode cc pc = .ok (.invokestatic index, 3))
    (kk : ∀ (H1 : Heap) (locs1 : List Loc), va_P D cl (ws.set q1 (a, .inl (c1, n1, .inl (va_cpy fv gv 0 x y)))) H1 → va_D A (ws.set q1 (a, .inl (c1, n1, .inl (va_cpy fv gv 0 x y)))) → va_S A s.heap H1 locs1 → W p l e R s m args below meth c H1 locs1 cells slots Q (F0 m (pc + 3) ls rest)) :
    W p l e R s m args below meth c H locs cells slots Q (F0 m pc ls (.int (nI y) :: .int (nI x) :: .ref a :: .int 0 :: .ref tb :: rest)) := by
  intro T hTH X
  subst hb
  obtain ⟨cell, g1, ⟨gs, k0, gk, comp, gkind⟩, gun, gsz, -, gat, gA9⟩ := hT
  have cx : Int32.toNatClampNeg (nI x) = x := nI_clamp (by omega)
  have cy : Int32.toNatClampNeg (nI y) = y := nI_clamp (by omega)
  have c0 : Int32.toNatClampNeg 0 = 0 := by decide +kernel
  have tx : (nI x).toInt = (x : Int) := nI_toInt (by omega)
  have ty : (nI y).toInt = (y : Int) := nI_toInt (by omega)
  have i0 : Int32.toInt 0 = 0 := by decide +kernel
  have hsrc : T.heap[tb]? = some cell := by rw [hTH, hS.2.1 tb ((Array.getElem?_eq_some_iff.mp g1).1) gA9, g1]
  have hdst : T.heap[a]? = some (vp_cell c1 (n1, .inl gv)) := by rw [hTH]; exact hP q1 _ hw1
  have hlt : a < H.size := by rw [hTH] at hdst; exact (Array.getElem?_eq_some_iff.mp hdst).1
  obtain ⟨-, k1, hk1, comp1, hkind1⟩ := (hK.2 t1 _ ht1).1 n1 (fun j => .int (gv j))
  have hread : ∀ i, i < y → cell.slots.getD ((0 : Int32).toNatClampNeg + i) .null = .int (fv i) := fun i hi => by
    rw [c0, Nat.zero_add, Array.getD_eq_getD_getElem?, gat i (by omega)]
    rfl
  obtain ⟨vm', X', step⟩ := X.arraycopy hexec hown hlink hnat hstat hini (g := F0 m pc ls (.int (nI y) :: .int (nI x) :: .ref a :: .int 0 :: .ref tb :: rest)) (rest := rest) hsrc hdst gs (fun _ h => nomatch h) gun (fun h => nomatch h) gk hk1 gkind hkind1 rfl (by decide) (nI_pos (by omega)) (nI_pos (by omega))
    (by rw [i0, ty]; omega) (by rw [tx, ty]; show ¬ _ > ((arrV c1 n1 (fun j => .int (gv j))).slots.size : Int); rw [arrV_size]; omega)
    (fun vm₁ _ i hi => by
      rw [cy] at hi
      rw [hread i hi]
      exact ⟨hfit i hi, trivial⟩) rfl hml.symm rfl dg hfr (by show 2 * 0 + _ + _ ≤ _; omega)
  have e1 : copied cell (vp_cell c1 (n1, .inl gv)) 0 (nI x) (nI y) = vp_cell c1 (n1, .inl (va_cpy fv gv 0 x y)) := by
    have h9 := va_copiedX (fun z => .int z) cell c1 (n0 := n0) (n1 := n1) (sp := 0) (dp := x) (n := y) fv gv gat (by omega)
    unfold copied
    rw [c0, cx, cy]
    exact h9
  rw [e1] at X' step
  refine (kk _ _ (hP.set hD hw1 ?_ (fun q hq => ?_)) (hD.set hw1) ⟨?_, fun q q1 q2 => ?_, fun z hz => ?_⟩ _ rfl X').imp (fun t h => ⟨step t h.1, h.2⟩)
  · show (T.heap.setIfInBounds a _)[a]? = some _
    rw [hTH]
    simp [Array.getElem?_setIfInBounds, hlt]
  · show (T.heap.setIfInBounds a _)[q]? = H[q]?
    rw [hTH]
    simp [Array.getElem?_setIfInBounds, Ne.symm hq]
  · show s.heap.size ≤ (T.heap.setIfInBounds a _).size
    rw [hTH]
    simpa using hS.1
  · show (T.heap.setIfInBounds a _)[q]? = s.heap[q]?
    have hne : q ≠ a := fun h => q2 (by rw [h]; exact hD.2 _ _ hw1)
    rw [hTH]
    simp only [Array.getElem?_setIfInBounds, Ne.symm hne, if_false]
    exact hS.2.1 q q1 q2
  · rcases List.mem_append.mp hz with h | h
    · exact hS.2.2 z h
    · obtain ⟨v, -, rfl⟩ := List.mem_map.mp h
      exact hD.2 _ _ hw1
section SBS
variable {f : aF} {g : aG} {z : lP} {cc : ByteArray} {nL : Nat} {own : String} {pc : Nat} {L : List (Option Value)} {st rest : List Value} {q : aS} {dX : Nat → Nat → Int32} {t : List Nat} {RS : va_W} {ba : Nat} {k n qv m a qa : Nat} {d : Nat → Nat → Int32} {w : List Nat}
theorem a_ifnonnull (hC : aOK f g cc nL own) {x : Nat} {off : Int} {tgt : Nat} (dg : decode cc pc = .ok (.ifnonnull off, 3)) (ht : (pc : Int) + off = (tgt : Int)) (kk : AW f g tgt L st q k n) : AW f g pc L (.ref x :: st) q k n := fun ls H locs ex hl hI hS => lv_ifnonnull hC.x hC.b dg ht (kk ls H locs ex hl hI hS)
theorem sLet_fit : ∀ i, i < 12 → ∀ j, j < (sLet i).length → fits .byte (.int (nI ((sLet i).getD j 0))) = true := by decide +kernel
theorem sLet_ok : ∀ i, i < 12 → (sLet i).length ≤ 1 := by decide +kernel
/-- the letters of a text are copied behind the first n0 -/
theorem s_copyB (ht : z.2.1.map Prod.snd = tyX) (hC : aOK f (lB z RS ba qv m) cc nL own) {N mcR msR index : Nat} (hR : f_R f = aR N mcR msR) (hN : 1 ≤ N) (hL : L.length = nL) (hw : Cond.methodLink own index arraycopyName ∈ lw_tbl) (hs : Str z RS a qa w) (hok : okT w) {n0 : Nat} (h0 : n0 + w.length ≤ m) (hm : m ≤ 200) (dg : decode cc pc = .ok (.invokestatic index, 3)) (hrest : (st.map fun v => v.category).sum ≤ 8)
    (kk : ∀ b : Nat → Int32, (∀ j, j < w.length → b j = nI (w.getD j 0)) → AW f (lB z RS ba qv m) (pc + 3) L st (upR d 206 (va_cpy b (d 206) 0 n0 w.length), []) k n) : AW f (lB z RS ba qv m) pc L (.int (nI w.length) :: .int (nI n0) :: .ref qv :: .int 0 :: .ref qa :: st) (d, []) k n := by
  have hi := lB_in z RS ba qv m
  have hby := oB_by (z := z) (RS := RS) (ba := ba) (qv := qv) (m := m) ht
  have hroom : (st.map fun v => v.category).sum + (nativeFrameWords "java/lang/System" "arraycopy" 5 + 11) ≤ (f_R f).locals := by
    rw [hR]
    exact Nat.le_trans (Nat.add_le_add hrest (Nat.add_le_add_right nfw_le 11)) (Nat.le_trans (Nat.le_of_ble_eq_true rfl : 8 + (30 + 11) ≤ 60 * 1) (Nat.mul_le_mul_left 60 hN))
  have c0 : Int32.toNatClampNeg 0 = 0 := by decide +kernel
  have cx : Int32.toNatClampNeg (nI n0) = n0 := nI_clamp (by omega)
  have cw : Int32.toNatClampNeg (nI w.length) = w.length := nI_clamp (by omega)
  have hset : ∀ (ex : va_W) (r : Nat → Int32), (aWl (lB z RS ba qv m) d ++ ex).set 206 (qv, .inl (lc z 5, m, .inl r)) = aWl (lB z RS ba qv m) (upR d 206 r) ++ ex := fun ex r => by
    have e := aWl_set (lB z RS ba qv m) d ex hby.1 r
    rw [hby.2.1] at e
    exact e
  intro ls H locs ex hl hI hS
  have hat : (aWl (lB z RS ba qv m) d ++ ex)[206]? = some (qv, .inl (lc z 5, m, .inl (d 206))) := (aWl_at (lB z RS ba qv m) d ex hby.1).trans (by rw [hby.2.1]; rfl)
  rcases hs with ⟨i, h12, -, rfl, rfl⟩ | ⟨b, h1, h2, -, g2, g3⟩
  · have h := (s_env hi hC i h12).2.2.2
    refine k_copyT hC.x hC.b (hC.ml.trans (hL.symm.trans hl.1.symm)) hC.o (hC.w hw rfl) (hC.w tw_789 rfl) (hC.w tw_788 rfl) (hC.w tw_22 rfl) hC.K hI.2.1 hI.2.2 hS h hat hby.2.2 (Nat.le_refl _) h0 (by omega) (sLet_fit i h12) (by rw [hR]; exact hN) hroom dg (fun H1 locs1 hP hD hS1 => ?_)
    rw [hset] at hP hD
    exact kk (fun j => nI ((sLet i).getD j 0)) (fun _ _ => rfl) ls H1 locs1 ex hl ⟨hI.1, hP, hD⟩ hS1
  · obtain ⟨j, hj⟩ := s_at (q := (d, [])) hi hI g2
    refine va_copyi hC.x hC.b (hC.ml.trans (hL.symm.trans hl.1.symm)) hC.o (hC.w hw rfl) (hC.w tw_789 rfl) (hC.w tw_788 rfl) (hC.w tw_22 rfl) hC.K hI.2.1 hI.2.2 hS j 206 5 5 hj hat (s_gc hi ht) hby.2.2 rfl (by decide) (nI_pos (by omega)) (nI_pos (by omega)) (by rw [c0, cw]; omega) (by rw [cx, cw]; exact h0) (fun i h9 => ?_) (by rw [hR]; exact hN) hroom dg (fun H1 locs1 hP hD hS1 => ?_)
    · rw [cw] at h9
      rw [c0, Nat.zero_add, g3 i h9]
      exact (i2b_c _ (hok.2 i h9)).2.2.1
    · rw [c0, cx, cw, hset] at hP hD
      exact kk b g3 ls H1 locs1 ex hl ⟨hI.1, hP, hD⟩ hS1
/-- a void call of a text's method, of the builder's -/
theorem s_callv {y : MethodName} {bytes : ByteArray} {maxL n' mc ms N mcR msR index m9 : Nat} {As : List Value} {P : Int32 → aS → Prop}
    (hi : inR g z RS) (hC : aOK f g cc nL own) (hs : Str z RS a qa w) (hR : f_R f = aR N mcR msR) (hm : aVm y RJ0 bytes maxL none m9) (hw : Cond.methodLink own index y ∈ lw_tbl) (hfit : aFit maxL n' mc ms k n N mcR msR) (dg : decode cc pc = .ok (.invokevirtual index, 3))
    (hM : aMv (f_l f) g y (aWs y bytes maxL none) n' mc ms (.ref a :: As) q P (fun _ _ => False)) (hst : st = As.reverse ++ .ref a :: rest) (hn : As.length = m9) (hL : L.length = nL) (hrest : (rest.map fun v => v.category).sum ≤ 8) (kk : ∀ (q' : aS), P 0 q' → AW f g (pc + 3) L rest q' (k + mc) (n + ms)) : AW f g pc L st q k n := by
  intro ls H locs ex hl hI hS
  subst hst
  have hf := hfit.loc
  rw [← hR] at hf
  have hrun := vx_runV (rest := rest) (g := F0 (f_m f) pc ls (As.reverse ++ .ref a :: rest)) (locs := locs) (meth := f_me f) (below := f_b f) (e := f_e f) (cells := k) (slots := n) (S := (⟨hC.x, hC.b, hC.ml, hC.o, hC.ts⟩ : CallFix (f_p f) (f_m f) (f_c f) cc nL (f_s f) (f_a f) TW own)) hM (cwV m9 hC.ts (good_V hm hw) rfl rfl rfl hm.2.2.2.2 hf) ⟨aBlind hC.cl _ q, s_recv hi hC hs hI hS, fun U hU hW => ⟨rfl, aWd_of hC hI hS hU hW⟩⟩ rfl hn (hl.1.trans hL) rfl (lv_room hrest) dg (by rw [hR]; exact ⟨hfit.2.2.1, hfit.2.2.2⟩)
  refine vx_callv hrun hS (fun _ _ h => h) (fun _ h => h) (fun _ _ h => h) (fun E ce q9 u t H1 locs1 ht hvm _ hB => hB.1.elim) (fun u t H1 locs1 ht hvm hp1 hB hz hk1 hS1 => ?_)
  obtain ⟨ex', hI'⟩ := hB
  rw [ht] at hI'
  exact kk u hp1 ls H1 locs1 ex' hl hI' hS1
theorem b_upv {y : MethodName} {idx : Nat} {bytes : ByteArray} {maxL n' mc ms N mcR msR mP : Nat} {As : List Value} {P : Int32 → aS → Prop} (hC : aOK f (lB z RS ba qv m) cc nL RJ5) (hR : f_R f = aR N mcR msR) (hm : aUp y idx bytes maxL none mP) (hfit : aFit maxL n' mc ms k n N mcR msR) (dg : decode cc pc = .ok (.invokevirtual idx, 3))
    (hM : aMv (f_l f) (lB z RS ba qv m) y (aWs y bytes maxL none) n' mc ms (.ref ba :: As) (d, []) P noX) (hst : st = As.reverse ++ .ref ba :: rest) (hn : As.length = mP) (hL : L.length = nL) (hrest : (rest.map fun v => v.category).sum ≤ 8) (kk : ∀ (q' : aS), P 0 q' → AW f (lB z RS ba qv m) (pc + 3) L rest q' (k + mc) (n + ms)) : AW f (lB z RS ba qv m) pc L st (d, []) k n := by
  intro ls H locs ex hl hI hS
  subst hst
  refine va_callv (b_up hC hR hm hfit dg hM hn hL hrest hl hI hS) hS (fun _ _ h => h) (fun _ h => h) (fun u t H1 locs1 ht hvm hp1 hB hz hk1 hS1 => ?_)
  obtain ⟨ex', hI'⟩ := hB
  rw [ht] at hI'
  exact kk u hp1 ls H1 locs1 ex' hl hI' hS1
end SBS
section SBU
variable {l : Launch} {z : lP} {dX : Nat → Nat → Int32} {t : List Nat} {RS : va_W} {ba : Nat} {qv m a qa : Nat} {d : Nat → Nat → Int32} {w : List Nat} {P : Int32 → aS → Prop}
/-- String.getBytes(byte[], int, byte) -/
theorem s_getBytes (hl : l.stackTraces = false) (ht : z.2.1.map Prod.snd = tyX) (hs : Str z RS a qa w) (hok : okT w) {n0 : Nat} (h0 : n0 + w.length ≤ m) (hm : m ≤ 200) (h : ∀ b : Nat → Int32, (∀ j, j < w.length → b j = nI (w.getD j 0)) → P 0 (upR d 206 (va_cpy b (d 206) 0 n0 w.length), [])) :
    aMv l (lB z RS ba qv m) yJ0_getBytes_840e7 (aWs yJ0_getBytes_840e7 cJ0_getBytes_840e7 4 none) 1 0 0 [.ref a, .ref qv, .int (nI n0), .int 0] (d, []) P noX := by
  have hi := lB_in z RS ba qv m
  refine aMv_of RJ0 ⟨by decide +kernel, rfl⟩ (cat_all rfl) (Nat.le_of_ble_eq_true rfl) hl lB_cl (fun f hR hC hE => ?_)
  show AW f (lB z RS ba qv m) 0 [some (.ref a), some (.ref qv), some (.int (nI n0)), some (.int 0)] [] (d, []) 0 0
  refine a_aload_n (pc := 0) hC dJ0_getBytes_840e7_0 rfl ?_
  refine s_call (As := []) (pc := 1) hi hC hs hR vm_J0_coder_7d493 tw_924 ⟨Nat.le_refl _, Nat.le_of_ble_eq_true rfl, Nat.le_refl _, Nat.le_refl _⟩ dJ0_getBytes_840e7_1 (s_coderM (P := fun r u => r = 0 ∧ u = (d, [])) hi hC.tr hs ⟨rfl, rfl⟩) rfl rfl rfl (Nat.le_of_ble_eq_true rfl) (fun r q2 h2 => ?_)
  obtain ⟨rfl, rfl⟩ := h2
  refine a_iload_n (pc := 4) hC dJ0_getBytes_840e7_4 rfl ?_
  refine a_icmp_ne (pc := 5) (tgt := 28) hC dJ0_getBytes_840e7_5 (by decide) (fun c => absurd rfl c) (fun _ => ?_)
  refine a_aload_n (pc := 8) hC dJ0_getBytes_840e7_8 rfl ?_
  refine s_value (pc := 9) hi hC hs tw_1282 dJ0_getBytes_840e7_9 ?_
  refine a_iconst (pc := 12) hC dJ0_getBytes_840e7_12 (v := 0) rfl ?_
  refine a_aload_n (pc := 13) hC dJ0_getBytes_840e7_13 rfl ?_
  refine a_iload_n (pc := 14) hC dJ0_getBytes_840e7_14 rfl ?_
  refine a_iload_n (pc := 15) hC dJ0_getBytes_840e7_15 rfl ?_
  refine a_ishl (pc := 16) hC dJ0_getBytes_840e7_16 ?_
  rw [sh0l]
  refine a_aload_n (pc := 17) hC dJ0_getBytes_840e7_17 rfl ?_
  refine s_value (pc := 18) hi hC hs tw_1282 dJ0_getBytes_840e7_18 ?_
  refine s_len (pc := 21) hi ht hC hs dJ0_getBytes_840e7_21 ?_
  refine s_copyB (pc := 22) ht hC hR (Nat.le_refl _) rfl tw_1225 hs hok h0 hm dJ0_getBytes_840e7_22 (Nat.le_of_ble_eq_true rfl) (fun b hb => ?_)
  refine a_goto (pc := 25) (tgt := 43) hC dJ0_getBytes_840e7_25 (by decide) ?_
  exact a_vret (pc := 43) hC hE (h b hb) (Nat.le_refl _) (Nat.le_refl _) dJ0_getBytes_840e7_43
theorem s_inflateIf (hl : l.stackTraces = false) (hs : Str z RS a qa w) (h : P 0 (d, [])) : aMv l (lB z RS ba qv m) yJ5_inflateIfNeededFor_a7421 (aWs yJ5_inflateIfNeededFor_a7421 cJ5_inflateIfNeededFor_a7421 2 none) 1 0 0 [.ref ba, .ref a] (d, []) P noX := by
  have hi := lB_in z RS ba qv m
  refine aMv_of RJ5 ⟨by decide +kernel, rfl⟩ (cat_all rfl) (Nat.le_of_ble_eq_true rfl) hl lB_cl (fun f hR hC hE => ?_)
  show AW f (lB z RS ba qv m) 0 [some (.ref ba), some (.ref a)] [] (d, []) 0 0
  refine a_gets (pc := 0) hC (lB_en hC).1.1.2.1 tw_279 dJ5_inflateIfNeededFor_a7421_0 ?_
  refine a_if_eq (pc := 3) (tgt := 21) hC dJ5_inflateIfNeededFor_a7421_3 (by decide) (fun c => absurd c (by decide)) (fun _ => ?_)
  refine a_aload_n (pc := 6) hC dJ5_inflateIfNeededFor_a7421_6 rfl ?_
  refine sb_coder (pc := 7) hC dJ5_inflateIfNeededFor_a7421_7 ?_
  refine a_aload_n (pc := 10) hC dJ5_inflateIfNeededFor_a7421_10 rfl ?_
  refine s_call (As := []) (pc := 11) hi hC hs hR vm_J0_coder_7d493 tw_1201 ⟨Nat.le_refl _, Nat.le_of_ble_eq_true rfl, Nat.le_refl _, Nat.le_refl _⟩ dJ5_inflateIfNeededFor_a7421_11 (s_coderM (P := fun r u => r = 0 ∧ u = (d, [])) hi hC.tr hs ⟨rfl, rfl⟩) rfl rfl rfl (Nat.le_of_ble_eq_true rfl) (fun r q2 h2 => ?_)
  obtain ⟨rfl, rfl⟩ := h2
  refine a_icmp_eq (pc := 14) (tgt := 21) hC dJ5_inflateIfNeededFor_a7421_14 (by decide) (fun _ => ?_) (fun c => absurd rfl c)
  exact a_vret (pc := 21) hC hE h (Nat.le_refl _) (Nat.le_refl _) dJ5_inflateIfNeededFor_a7421_21
theorem s_putString (hl : l.stackTraces = false) (ht : z.2.1.map Prod.snd = tyX) (hs : Str z RS a qa w) (hok : okT w) {n0 : Nat} (h0 : n0 + w.length ≤ m) (hm : m ≤ 200) (h : ∀ b : Nat → Int32, (∀ j, j < w.length → b j = nI (w.getD j 0)) → P 0 (upR d 206 (va_cpy b (d 206) 0 n0 w.length), [])) :
    aMv l (lB z RS ba qv m) yJ5_putStringAt_47b60 (aWs yJ5_putStringAt_47b60 cJ5_putStringAt_47b60 3 none) 2 0 0 [.ref ba, .int (nI n0), .ref a] (d, []) P noX := by
  have hi := lB_in z RS ba qv m
  refine aMv_of RJ5 ⟨by decide +kernel, rfl⟩ (cat_all rfl) (Nat.le_of_ble_eq_true rfl) hl lB_cl (fun f hR hC hE => ?_)
  show AW f (lB z RS ba qv m) 0 [some (.ref ba), some (.int (nI n0)), some (.ref a)] [] (d, []) 0 0
  refine a_aload_n (pc := 0) hC dJ5_putStringAt_47b60_0 rfl ?_
  refine a_aload_n (pc := 1) hC dJ5_putStringAt_47b60_1 rfl ?_
  refine b_upv (As := [.ref a]) (pc := 2) hC hR up_J5_inflateIfNeededFor_a7421 ⟨Nat.le_refl _, Nat.le_of_ble_eq_true rfl, Nat.le_refl _, Nat.le_refl _⟩ dJ5_putStringAt_47b60_2 (s_inflateIf (P := fun _ u => u = (d, [])) hC.tr hs rfl) rfl rfl rfl (Nat.le_of_ble_eq_true rfl) (fun q2 h2 => ?_)
  subst h2
  refine a_aload_n (pc := 5) hC dJ5_putStringAt_47b60_5 rfl ?_
  refine a_aload_n (pc := 6) hC dJ5_putStringAt_47b60_6 rfl ?_
  refine sb_value (pc := 7) hC dJ5_putStringAt_47b60_7 ?_
  refine a_iload_n (pc := 10) hC dJ5_putStringAt_47b60_10 rfl ?_
  refine a_aload_n (pc := 11) hC dJ5_putStringAt_47b60_11 rfl ?_
  refine sb_coder (pc := 12) hC dJ5_putStringAt_47b60_12 ?_
  refine s_callv (As := [.ref qv, .int (nI n0), .int 0]) (pc := 15) hi hC hs hR vm_J0_getBytes_840e7 tw_1221 ⟨Nat.le_refl _, Nat.le_of_ble_eq_true rfl, Nat.le_refl _, Nat.le_refl _⟩ dJ5_putStringAt_47b60_15 (s_getBytes hC.tr ht hs hok h0 hm h) rfl rfl rfl (Nat.le_of_ble_eq_true rfl) (fun q2 h2 => ?_)
  exact a_vret (pc := 18) hC hE h2 (Nat.le_refl _) (Nat.le_refl _) dJ5_putStringAt_47b60_18
theorem getD_cat (t w : List Nat) (j : Nat) : (t ++ w).getD j 0 = if j < t.length then t.getD j 0 else w.getD (j - t.length) 0 := by
  rw [List.getD_eq_getElem?_getD, List.getD_eq_getElem?_getD, List.getD_eq_getElem?_getD]
  by_cases c : j < t.length
  · rw [if_pos c, List.getElem?_append_left c]
  · rw [if_neg c, List.getElem?_append_right (by omega)]
theorem t5_appendS (hl : l.stackTraces = false) (ht : z.2.1.map Prod.snd = tyX) (hs : Str z RS a qa w) (hok : okT w) (h60 : t.length + w.length ≤ 60) (hT : isT t m d) (hd : ∀ k, k < 205 → d k = dX k) : bM l z RS ba qv m d yJ5_append_cf1ce (aWs yJ5_append_cf1ce cJ5_append_cf1ce 3 (some (.object "java/lang/AbstractStringBuilder"))) 4 1 120 [.ref ba, .ref a] (bQq z RS ba dX (t ++ w) 0) := by
  refine bM_of RJ5 ⟨by decide +kernel, rfl⟩ (cat_all rfl) (Nat.le_of_ble_eq_true rfl) hl (fun f hR hC hE _ => ?_)
  show AW f (lB z RS ba qv m) 0 [some (.ref ba), some (.ref a), none] [] (d, []) 0 0
  refine a_aload_n (pc := 0) hC dJ5_append_cf1ce_0 rfl ?_
  refine a_ifnonnull (pc := 1) (tgt := 9) hC dJ5_append_cf1ce_1 (by decide) ?_
  refine a_aload_n (pc := 9) hC dJ5_append_cf1ce_9 rfl ?_
  refine s_call (As := []) (pc := 10) (lB_in z RS ba qv m) hC hs hR vm_J0_length_8abf5 tw_1192 ⟨Nat.le_of_ble_eq_true rfl, Nat.le_of_ble_eq_true rfl, Nat.le_of_ble_eq_true rfl, Nat.le_of_ble_eq_true rfl⟩ dJ5_append_cf1ce_10 (s_lengthM (P := fun r u => r = nI w.length ∧ u = (d, [])) (lB_in z RS ba qv m) ht hC.tr hs ⟨rfl, rfl⟩) rfl rfl rfl (Nat.le_of_ble_eq_true rfl) (fun r q2 h2 => ?_)
  obtain ⟨rfl, rfl⟩ := h2
  refine a_istore_n (pc := 13) hC dJ5_append_cf1ce_13 (Nat.le_of_ble_eq_true rfl) ?_
  refine a_aload_n (pc := 14) hC dJ5_append_cf1ce_14 rfl ?_
  refine a_aload_n (pc := 15) hC dJ5_append_cf1ce_15 rfl ?_
  refine sb_count (pc := 16) hC dJ5_append_cf1ce_16 ?_
  rw [hT.2.2.2.1]
  refine a_iload_n (pc := 19) hC dJ5_append_cf1ce_19 rfl ?_
  refine a_iadd (pc := 20) hC dJ5_append_cf1ce_20 ?_
  rw [nI_add]
  refine b_upV (pc := 21) hC hR up_J5_ensureCapacityInternal_d00df ⟨Nat.le_refl _, Nat.le_of_ble_eq_true rfl, Nat.le_of_ble_eq_true rfl, Nat.le_of_ble_eq_true rfl⟩ dJ5_append_cf1ce_21 (t_ensure hC.tr ht h60 hT hd) rfl rfl rfl (Nat.le_of_ble_eq_true rfl) (fun qv' m' d' hB => ?_)
  obtain ⟨hT', hM, hd'⟩ := hB
  have hM : t.length + w.length ≤ m' := hM
  have hT' : isT t m' d' := hT'
  have hd' : ∀ k, k < 205 → d' k = dX k := hd'
  have hC' := lOK_BB hC qv' m'
  refine a_aload_n (pc := 24) hC' dJ5_append_cf1ce_24 rfl ?_
  refine a_aload_n (pc := 25) hC' dJ5_append_cf1ce_25 rfl ?_
  refine sb_count (pc := 26) hC' dJ5_append_cf1ce_26 ?_
  rw [hT'.2.2.2.1]
  refine a_aload_n (pc := 29) hC' dJ5_append_cf1ce_29 rfl ?_
  refine b_upv (As := [.int (nI t.length), .ref a]) (pc := 30) hC' hR up_J5_putStringAt_47b60 ⟨Nat.le_of_ble_eq_true rfl, Nat.le_of_ble_eq_true rfl, Nat.le_of_ble_eq_true rfl, Nat.le_of_ble_eq_true rfl⟩ dJ5_append_cf1ce_30 (s_putString (P := fun _ u => ∃ b : Nat → Int32, (∀ j, j < w.length → b j = nI (w.getD j 0)) ∧ u = (upR d' 206 (va_cpy b (d' 206) 0 t.length w.length), [])) hC.tr ht hs hok hM hT'.2.1 (fun b hb => ⟨b, hb, rfl⟩)) rfl rfl rfl (Nat.le_of_ble_eq_true rfl) (fun q2 h2 => ?_)
  obtain ⟨b, hb, rfl⟩ := h2
  refine a_aload_n (pc := 33) hC' dJ5_append_cf1ce_33 rfl ?_
  refine a_dup (pc := 34) hC' dJ5_append_cf1ce_34 rfl ?_
  refine sb_count (pc := 35) hC' dJ5_append_cf1ce_35 ?_
  rw [show upR d' 206 (va_cpy b (d' 206) 0 t.length w.length) 205 3 = nI t.length by
    unfold upR
    rw [if_neg (by decide)]
    exact hT'.2.2.2.1]
  refine a_iload_n (pc := 38) hC' dJ5_append_cf1ce_38 rfl ?_
  refine a_iadd (pc := 39) hC' dJ5_append_cf1ce_39 ?_
  rw [nI_add]
  refine sb_putCount (pc := 40) hC' dJ5_append_cf1ce_40 ?_
  refine a_aload_n (pc := 43) hC' dJ5_append_cf1ce_43 rfl ?_
  have e206 : ∀ j, up2 (upR d' 206 (va_cpy b (d' 206) 0 t.length w.length)) 205 3 (nI (t.length + w.length)) 206 j = va_cpy b (d' 206) 0 t.length w.length j := fun j => by
    rw [up2_ne' _ _ _ (by decide)]
    unfold upR
    rw [if_pos rfl]
  have h60' := hok.1
  refine b_qret (pc := 44) (Or.inl ⟨_, rfl⟩) hC' hE ⟨⟨by rw [List.length_append]; exact hM, hT'.2.1, by rw [List.length_append]; exact h60, by
    rw [List.length_append]
    exact up2_ne_at (upR d' 206 (va_cpy b (d' 206) 0 t.length w.length)) 205 3 (nI (t.length + w.length)), fun j hj => ?_, fun j => ?_⟩, Nat.zero_le _, fun k hk => ?_⟩ (Nat.le_refl _) (Nat.le_refl _) dJ5_append_cf1ce_44
  · rw [List.length_append] at hj
    show (t ++ w).getD j 0 < 128 ∧ up2 (upR d' 206 (va_cpy b (d' 206) 0 t.length w.length)) 205 3 (nI (t.length + w.length)) 206 j = _
    rw [e206, getD_cat]
    by_cases c : j < t.length
    · rw [if_pos c, pk_cpy_out (Or.inl c)]
      exact hT'.2.2.2.2.1 j c
    · rw [if_neg c, pk_cpy_in (by omega) (by omega), Nat.zero_add]
      exact ⟨hok.2 _ (by omega), hb _ (by omega)⟩
  · show fits .byte (.int (up2 (upR d' 206 (va_cpy b (d' 206) 0 t.length w.length)) 205 3 (nI (t.length + w.length)) 206 j)) = true
    rw [e206]
    by_cases c : t.length ≤ j ∧ j < t.length + w.length
    · rw [pk_cpy_in c.1 c.2, Nat.zero_add, hb _ (by omega)]
      exact (i2b_c _ (hok.2 _ (by omega))).2.2.1
    · rw [pk_cpy_out (by omega)]
      exact hT'.2.2.2.2.2 j
  · show up2 (upR d' 206 (va_cpy b (d' 206) 0 t.length w.length)) 205 3 (nI (t.length + w.length)) k = _
    rw [up2_ne' _ _ _ (by omega)]
    unfold upR
    rw [if_neg (by omega)]
    exact hd' k hk
theorem t4_appendS {PQ : Option Nat → aS → Prop} (hl : l.stackTraces = false) (ht : z.2.1.map Prod.snd = tyX) (hs : Str z RS a qa w) (hok : okT w) (h60 : t.length + w.length ≤ 60) (h : PQ (some ba) (dX, t ++ w)) : aMq l (lX z RS ba) yJ4_append_15ec4 (aWs yJ4_append_15ec4 cJ4_append_15ec4 2 (some (.object "java/lang/StringBuilder"))) 5 1 120 [.ref ba, .ref a] (dX, t) PQ := by
  refine aMq_of RJ4 ⟨by decide +kernel, rfl⟩ (cat_all rfl) (Nat.le_of_ble_eq_true rfl) hl (lEn_cl (z := z) rfl rfl) (fun f hR hC hE => ?_)
  show AW f (lX z RS ba) 0 [some (.ref ba), some (.ref a)] [] (dX, t) 0 0
  refine AW.openB (fun qv m d hT hd => ?_)
  have hC' := lOK_B hC qv m
  refine a_aload_n (pc := 0) hC' dJ4_append_15ec4_0 rfl ?_
  refine a_aload_n (pc := 1) hC' dJ4_append_15ec4_1 rfl ?_
  refine b_superQ (As := [.ref a]) (pc := 2) hC' hR su_J5_append_cf1ce ⟨Nat.le_refl _, Nat.le_of_ble_eq_true rfl, Nat.le_refl _, Nat.le_refl _⟩ dJ4_append_15ec4_2 (t5_appendS hC.tr ht hs hok h60 hT hd) rfl rfl rfl (Nat.le_of_ble_eq_true rfl) (fun qv' m' d' hB => ?_)
  refine AW.closeB hB.1 hB.2.2 ?_
  refine a_pop (pc := 5) hC dJ4_append_15ec4_5 rfl ?_
  refine a_aload_n (pc := 6) hC dJ4_append_15ec4_6 rfl ?_
  exact a_qret (pc := 7) (Or.inl ⟨_, rfl⟩) hC hE h (Nat.le_refl _) (Nat.le_refl _) dJ4_append_15ec4_7
end SBU
section SBW
variable {f : aF} {g : aG} {z : lP} {cc : ByteArray} {nL : Nat} {own : String} {pc : Nat} {L : List (Option Value)} {rest : List Value} {q : aS} {RS : va_W} {ba : Nat} {k n a qa : Nat} {w : List Nat}
theorem a_sbAppS (hg : g = lX z RS ba) (ht : z.2.1.map Prod.snd = tyX) (hC : aOK f g cc nL own) {N mcR msR : Nat} (hR : f_R f = aR N mcR msR) {idx : Nat} (hwl : Cond.methodLink own idx yJ4_append_15ec4 ∈ lw_tbl) (hs : Str z RS a qa w) (hok : okT w) (h60 : q.2.length + w.length ≤ 60) (hfit : aFit 2 5 1 120 k n N mcR msR) (dg : decode cc pc = .ok (.invokevirtual idx, 3)) (hL : L.length = nL) (hrest : (rest.map fun v => v.category).sum ≤ 8)
    (kk : AW f g (pc + 3) L (.ref ba :: rest) (q.1, q.2 ++ w) (k + 1) (n + 120)) : AW f g pc L (.ref a :: .ref ba :: rest) q k n := by
  intro ls H locs ex hl hI hS
  have hM : aMq (f_l f) g yJ4_append_15ec4 (aWs yJ4_append_15ec4 cJ4_append_15ec4 2 (some (.object "java/lang/StringBuilder"))) 5 1 120 [.ref ba, .ref a] q (fun r u => r = some ba ∧ u = (q.1, q.2 ++ w)) := by
    subst hg
    exact t4_appendS (dX := q.1) (t := q.2) hC.tr ht hs hok h60 ⟨rfl, rfl⟩
  refine va_callq (sb_runM (As := [.ref a]) hg hC hR vm_J4_append_15ec4 hwl hfit dg hM rfl hL hrest hl hI hS) hS (fun _ _ h => h) (fun _ h => h) (fun r u t H1 locs1 ht hvm hp1 hB hz hk1 hS1 => ?_)
  obtain ⟨ex', hI'⟩ := hB
  obtain ⟨rfl, rfl⟩ := hp1
  rw [ht] at hI'
  exact kk ls H1 locs1 ex' hl hI' hS1
end SBW

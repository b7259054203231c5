/-! texts are made out of builders, builders are made -/
/-- .. a call of a method of the builder's superclass, from String -/
def aUpS (x y : MethodName) (idx : Nat) (bytes : ByteArray) (maxL : Nat) (ret : Option FieldType) (m : Nat) : Prop :=
  Cond.methodLink RJ0 idx x ∈ lw_tbl ∧ Cond.sameMethod x.cls x.cls x.name x.desc ∈ lw_tbl ∧ Cond.selects RJ4 x y ∈ lw_tbl ∧ Cond.instanceMethod y ∈ lw_tbl ∧ Cond.instanceMethod x ∈ lw_tbl ∧ Cond.initialized y.cls ∈ lw_tbl ∧ Cond.code y bytes maxL ret ∈ lw_tbl ∧ (∃ bx mx rx, Cond.code x bx mx rx ∈ lw_tbl) ∧ (x.cls ≠ "java/lang/invoke/MethodHandle" ∧ x.cls ≠ "java/lang/invoke/VarHandle") ∧ (parseMethodDescriptor x.desc).map (fun d => d.parameters.length) = some m
theorem us_J5_getValue_6d5f1 : aUpS yJ5_getValue_6d5f1 yJ5_getValue_6d5f1 552 cJ5_getValue_6d5f1 1 (some (.array .byte)) 0 := ⟨tw_1241, tw_1243, tw_1244, tw_1242, tw_1242, tw_11, tw_1245, ⟨_, _, _, tw_1245⟩, ⟨by decide +kernel, by decide +kernel⟩, by decide +kernel⟩
theorem us_J5_length_8abf5 : aUpS yJ5_length_8abf5 yJ4_length_8abf5 549 cJ4_length_8abf5 1 (some .int) 0 := ⟨tw_1246, tw_1248, tw_1249, tw_1250, tw_1247, tw_12, tw_1251, ⟨_, _, _, tw_1253⟩, ⟨by decide +kernel, by decide +kernel⟩, by decide +kernel⟩
theorem us_J5_isLatin1_aae02 : aUpS yJ5_isLatin1_aae02 yJ5_isLatin1_aae02 1047 cJ5_isLatin1_aae02 1 (some .boolean) 0 := ⟨tw_1254, tw_1147, tw_1148, tw_1146, tw_1146, tw_11, tw_1149, ⟨_, _, _, tw_1149⟩, ⟨by decide +kernel, by decide +kernel⟩, by decide +kernel⟩
theorem nm_J0_init_db425 : nIm yJ0_init_db425 cJ0_init_db425 5 2 := ⟨tw_1239, tw_1238, tw_13, rfl, by decide +kernel, by decide +kernel, by decide +kernel⟩
theorem nm_J0_init_81219 : nIm yJ0_init_81219 cJ0_init_81219 2 1 := ⟨tw_1236, tw_1235, tw_13, rfl, by decide +kernel, by decide +kernel, by decide +kernel⟩
section MKS
variable {f : aF} {g : aG} {z : lP} {cc : ByteArray} {nL : Nat} {own : String} {pc : Nat} {L : List (Option Value)} {st rest : List Value} {q : aS} {dX : Nat → Nat → Int32} {t tl : List Nat} {RS X R0 sl WL : va_W} {ba lb k n qv m qn cap : Nat} {d : Nat → Nat → Int32} {b2 : Nat → Int32}
theorem a_null (hC : aOK f g cc nL own) (dg : decode cc pc = .ok (.aconst_null, 1)) (kk : AW f g (pc + 1) L (.null :: st) q k n) : AW f g pc L st q k n := fun ls H locs ex hl hI hS => lv_null hC.x hC.b dg (kk ls H locs ex hl hI hS)
theorem b_upS {x y : MethodName} {idx : Nat} {bytes : ByteArray} {maxL n' mc ms N mcR msR mP : Nat} {ret : Option FieldType} {As : List Value} {Qc : Array Value → State → Outcome → State → Prop} (hC : aOK f (lB z RS ba qv m) cc nL RJ0) (hR : f_R f = aR N mcR msR) (hm : aUpS x y idx bytes maxL ret mP) (hfit : aFit maxL n' mc ms k n N mcR msR) (dg : decode cc pc = .ok (.invokevirtual idx, 3))
    (hM : bM (f_l f) z RS ba qv m d y (aWs y bytes maxL ret) n' mc ms (.ref ba :: As) Qc) (hn : As.length = mP) (hL : L.length = nL) (hrest : (rest.map fun v => v.category).sum ≤ 8) {ls : Array Slot} {H : Heap} {locs : List Loc} {ex : va_W} (hl : lw_has ls L) (hI : aI (lB z RS ba qv m) (d, []) ex H) (hS : va_S (gA (lB z RS ba qv m)) (f_s f).heap H locs) :
    va_Run (f_p f) (f_l f) (f_e f) (f_R f) (f_s f) (f_m f) (f_a f) (f_b f) (f_me f) (f_c f) H locs k n mc ms (F0 (f_m f) pc ls (As.reverse ++ .ref ba :: rest)) rest (Qc (Value.ref ba :: As).toArray) (lA z) := by
  have hf := hfit.loc
  rw [← hR] at hf
  obtain ⟨h1, h2, h3, h4, h4x, h5, h6, ⟨_, _, _, h6x⟩, h7, h8⟩ := hm
  have w : ∀ {c : Cond}, c ∈ lw_tbl → goodWord c = true → c.before (f_a f) (f_s f) = true := fun hw hg => hC.w hw hg
  have hG : GoodIn TW (aWs y bytes maxL ret) := fun c hc => good_TW (by
    rcases List.mem_cons.mp hc with rfl | hc
    · exact tk_w h6 rfl
    · exact hc)
  have cw : va_CU (f_R f) (f_s f) (f_a f) RJ0 RJ4 x.cls idx x y bytes maxL ret (aWs y bytes maxL ret) (aR n' mc ms) mc ms mP :=
    ⟨⟨rfl, rfl, hf.1, hf.2, pay_in hC.ts hG, List.mem_cons_self⟩, w h6 rfl, w h5 rfl, h7, fun sig h => by rw [h] at h8; exact (Option.some.inj h8).symm, w h1 rfl, w h2 rfl, va_Decl.of (w h4x rfl) (w h6x rfl), w h3 rfl, w h4 rfl⟩
  exact va_runU (rest := rest) (g := F0 (f_m f) pc ls (As.reverse ++ .ref ba :: rest)) (locs := locs) (meth := f_me f) (below := f_b f) (e := f_e f) (cells := k) (slots := n) (S := (⟨hC.x, hC.b, hC.ml, hC.o, hC.ts⟩ : CallFix (f_p f) (f_m f) (f_c f) cc nL (f_s f) (f_a f) TW RJ0)) (aMet_of hM aX_no) cw (b_preV hC hI hS As) rfl hn (hl.1.trans hL) rfl (lv_room hrest) dg (by rw [hR]; exact ⟨hfit.2.2.1, hfit.2.2.2⟩)
theorem b_upSi {x y : MethodName} {idx : Nat} {bytes : ByteArray} {maxL n' mc ms N mcR msR mP : Nat} {ty : FieldType} {As : List Value} {P : Int32 → aS → Prop} (hC : aOK f (lB z RS ba qv m) cc nL RJ0) (hR : f_R f = aR N mcR msR) (hm : aUpS x y idx bytes maxL (some ty) mP) (hfit : aFit maxL n' mc ms k n N mcR msR) (dg : decode cc pc = .ok (.invokevirtual idx, 3))
    (hM : aMi (f_l f) (lB z RS ba qv m) y (aWs y bytes maxL (some ty)) n' mc ms (.ref ba :: As) (d, []) P noX) (hst : st = As.reverse ++ .ref ba :: rest) (hn : As.length = mP) (hL : L.length = nL) (hrest : (rest.map fun v => v.category).sum ≤ 8) (kk : ∀ (r : Int32) (q' : aS), P r q' → AW f (lB z RS ba qv m) (pc + 3) L (.int r :: rest) q' (k + mc) (n + ms)) : AW f (lB z RS ba qv m) pc L st (d, []) k n := by
  intro ls H locs ex hl hI hS
  subst hst
  refine va_calli (b_upS hC hR hm hfit dg hM hn hL hrest hl hI hS) hS (fun _ _ h => h) (fun _ h => h) (fun r u t H1 locs1 ht hvm hp1 hB hz hk1 hS1 => ?_)
  obtain ⟨ex', hI'⟩ := hB
  rw [ht] at hI'
  exact kk r u hp1 ls H1 locs1 ex' hl hI' hS1
abbrev bQg (z : lP) (RS : va_W) (ba qv m : Nat) (d : Nat → Nat → Int32) : Array Value → State → Outcome → State → Prop :=
  va_Qq (S := Unit) (fun r _ => r = some qv) (fun _ s => aWp (lB z RS ba qv m) (d, []) s) (lA z)
theorem b_upSq {x y : MethodName} {idx : Nat} {bytes : ByteArray} {maxL n' mc ms N mcR msR mP : Nat} {ty : FieldType} {As : List Value} (hC : aOK f (lB z RS ba qv m) cc nL RJ0) (hR : f_R f = aR N mcR msR) (hm : aUpS x y idx bytes maxL (some ty) mP) (hfit : aFit maxL n' mc ms k n N mcR msR) (dg : decode cc pc = .ok (.invokevirtual idx, 3))
    (hM : bM (f_l f) z RS ba qv m d y (aWs y bytes maxL (some ty)) n' mc ms (.ref ba :: As) (bQg z RS ba qv m d)) (hst : st = As.reverse ++ .ref ba :: rest) (hn : As.length = mP) (hL : L.length = nL) (hrest : (rest.map fun v => v.category).sum ≤ 8) (kk : AW f (lB z RS ba qv m) (pc + 3) L (.ref qv :: rest) (d, []) (k + mc) (n + ms)) : AW f (lB z RS ba qv m) pc L st (d, []) k n := by
  intro ls H locs ex hl hI hS
  subst hst
  refine va_callq (b_upS hC hR hm hfit dg hM hn hL hrest hl hI hS) hS (fun _ _ h => h) (fun _ h => h) (fun r u t H1 locs1 ht hvm hp1 hB hz hk1 hS1 => ?_)
  obtain ⟨ex', hI'⟩ := hB
  have hp1 : r = some qv := hp1
  subst hp1
  rw [ht] at hI'
  exact kk ls H1 locs1 ex' hl hI' hS1
/-! from one view of the world to another -/
def bC (z : lP) (ba qv m : Nat) (d : Nat → Nat → Int32) : va_W := [(ba, .inr (1, [.ref qv, .int 0, .int (d 205 2), .int (d 205 3)])), (qv, .inl (lc z 5, (m, .inl (d 206))))]
theorem nOK_of (hi : inR g z RS) (hC : aOK f g cc nL own) (ws : va_W) : aOK f (nG z ws) cc nL own := by
  obtain ⟨e1, e2, e3, e4, -, -⟩ := hi
  refine ⟨hC.1, hC.2.1, hC.2.2.1, hC.2.2.2.1, hC.2.2.2.2.1, ?_, hC.2.2.2.2.2.2.1, ?_, ?_, hC.tr, nG_cl z ws⟩
  · have h := hC.K
    rw [e1, e2] at h
    exact h
  · have h := hC.en
    rw [e3] at h
    exact ⟨h, h.2.2.2.2⟩
  · have h := hC.A
    rw [e4] at h
    exact h
theorem lOK_of (hi : inR g z RS) (hC : aOK f g cc nL own) (RS' : va_W) (ba' : Nat) : aOK f (lX z RS' ba') cc nL own := by
  obtain ⟨e1, e2, e3, e4, -, -⟩ := hi
  refine ⟨hC.1, hC.2.1, hC.2.2.1, hC.2.2.2.1, hC.2.2.2.2.1, ?_, hC.2.2.2.2.2.2.1, ?_, ?_, hC.tr, lEn_cl (z := z) rfl rfl⟩
  · have h := hC.K
    rw [e1, e2] at h
    exact h
  · have h := hC.en
    rw [e3] at h
    exact h
  · have h := hC.A
    rw [e4] at h
    exact h
theorem lOK_nX (hC : aOK f (nG z WL) cc nL own) (RS' : va_W) (ba' : Nat) : aOK f (lX z RS' ba') cc nL own :=
  ⟨hC.1, hC.2.1, hC.2.2.1, hC.2.2.2.1, hC.2.2.2.2.1, hC.2.2.2.2.2.1, hC.2.2.2.2.2.2.1, hC.en.1, hC.2.2.2.2.2.2.2.2.1, hC.tr, lEn_cl (z := z) rfl rfl⟩
theorem AW.nB (h : AW f (nG z (lWX z d ++ (bC z ba qv m d ++ RS))) pc L st q0 k n) : AW f (lB z RS ba qv m) pc L st (d, []) k n := by
  intro ls H locs ex hl hI hS
  obtain ⟨hex, hP, hD⟩ := hI
  have hex : ex = RS := hex
  subst ex
  rw [lB_wl] at hP hD
  exact nUse h hl hP hD hS
theorem AW.bN (hp : List.Perm WL (lWX z d ++ (bC z ba qv m d ++ RS))) (h : AW f (lB z RS ba qv m) pc L st (d, []) k n) : AW f (nG z WL) pc L st q0 k n :=
  nAW (fun ls H locs hl hP hD hS => h ls H locs RS hl ⟨rfl, by rw [lB_wl]; exact wP_perm hp hP, by rw [lB_wl]; exact wD_perm hp hD⟩ hS)
theorem AW.nBN (h : AW f (nG z (lWX z d ++ (bC z ba qv m d ++ ((qn, .inl (lc z 5, (cap, .inl b2))) :: RS)))) pc L st q0 k n) : AW f (lBN z RS ba qv m qn cap b2) pc L st (d, []) k n := by
  intro ls H locs ex hl hI hS
  obtain ⟨hex, hP, hD⟩ := hI
  have hex : ex = (qn, .inl (lc z 5, (cap, .inl b2))) :: RS := hex
  subst hex
  have e : aWl (lBN z RS ba qv m qn cap b2) d ++ ((qn, .inl (lc z 5, (cap, .inl b2))) :: RS) = lWX z d ++ (bC z ba qv m d ++ ((qn, .inl (lc z 5, (cap, .inl b2))) :: RS)) := lB_wl (RS := RS) (ba := ba) (z := z) (qv := qv) (m := m) (d := d) _
  rw [e] at hP hD
  exact nUse h hl hP hD hS
theorem AW.nX (h : ∀ sb, sbEX z ba t sb → AW f (nG z (lWX z dX ++ (sb ++ RS))) pc L st q0 k n) : AW f (lX z RS ba) pc L st (dX, t) k n := by
  intro ls H locs ex hl hI hS
  obtain ⟨⟨sb, hsb, rfl⟩, hP, hD⟩ := hI
  exact nUse (h sb hsb) hl hP hD hS
theorem AW.xN {sb : va_W} (hsb : sbEX z ba t sb) (hp : List.Perm WL (lWX z dX ++ (sb ++ RS))) (h : AW f (lX z RS ba) pc L st (dX, t) k n) : AW f (nG z WL) pc L st q0 k n :=
  nAW (fun ls H locs hl hP hD hS => h ls H locs (sb ++ RS) hl ⟨⟨sb, hsb, rfl⟩, wP_perm hp hP, wD_perm hp hD⟩ hS)
theorem wP_subset {D : va_G} {cl : List vw_C} {a b : va_W} {H : Heap} (h : ∀ x ∈ a, x ∈ b) (hP : va_P D cl b H) : va_P D cl a H := by
  intro k q hk
  obtain ⟨i, hi⟩ := List.getElem?_of_mem (h q (List.mem_of_getElem? hk))
  exact hP i q hi
/-- the builder at ba is left, the one at lb is looked at again -/
theorem AW.refocus (hsl : sbEX z lb tl sl) (h : AW f (lX z (X ++ R0) lb) pc L st (dX, tl) k n) : AW f (lX z (X ++ (sl ++ R0)) ba) pc L st (dX, t) k n := by
  intro ls H locs ex hl hI hS
  obtain ⟨⟨sb, hsb, rfl⟩, hP, hD⟩ := hI
  have hp : List.Perm (aWl (lX z (X ++ R0) lb) dX ++ (sl ++ (X ++ R0))) (aWl (lX z (X ++ (sl ++ R0)) ba) dX ++ (X ++ (sl ++ R0))) := by
    refine List.Perm.append_left _ ?_
    rw [← List.append_assoc, ← List.append_assoc]
    exact List.Perm.append_right _ List.perm_append_comm
  have hs : List.Sublist (aWl (lX z (X ++ (sl ++ R0)) ba) dX ++ (X ++ (sl ++ R0))) (aWl (lX z (X ++ (sl ++ R0)) ba) dX ++ (sb ++ (X ++ (sl ++ R0)))) :=
    List.Sublist.append (List.Sublist.refl _) (List.sublist_append_right _ _)
  exact h ls H locs _ hl ⟨⟨sl, hsl, rfl⟩, wP_perm hp.symm (wP_sub hs hP), wD_perm hp.symm (wD_sub hs hD)⟩ hS
/-- a text is forgotten -/
theorem AW.drop (h : AW f (lX z R0 ba) pc L st (dX, t) k n) : AW f (lX z (X ++ R0) ba) pc L st (dX, t) k n := by
  intro ls H locs ex hl hI hS
  obtain ⟨⟨sb, hsb, rfl⟩, hP, hD⟩ := hI
  have hs : List.Sublist (aWl (lX z R0 ba) dX ++ (sb ++ R0)) (aWl (lX z (X ++ R0) ba) dX ++ (sb ++ (X ++ R0))) :=
    List.Sublist.append (List.Sublist.refl _) (List.Sublist.append (List.Sublist.refl _) (List.sublist_append_right _ _))
  exact h ls H locs _ hl ⟨⟨sb, hsb, rfl⟩, wP_sub hs hP, wD_sub hs hD⟩ hS
end MKS
def strC (z : lP) (o q len : Nat) (b : Nat → Int32) : va_W := [(o, .inr (0, [.ref q, .int 0, .int 0, .int 0])), (q, .inl (lc z 5, (len, .inl b)))]
section MKT
variable {l : Launch} {z : lP} {RS : va_W} {ba qv m len o : Nat} {d dX : Nat → Nat → Int32} {t : List Nat}
theorem t4_lengthB {P : Int32 → aS → Prop} (hl : l.stackTraces = false) (h : P (d 205 3) (d, [])) : aMi l (lB z RS ba qv m) yJ4_length_8abf5 (aWs yJ4_length_8abf5 cJ4_length_8abf5 1 (some .int)) 1 0 0 [.ref ba] (d, []) P noX := by
  refine aMi_of RJ4 ⟨by decide +kernel, rfl⟩ (cat_all rfl) (Nat.le_of_ble_eq_true rfl) hl lB_cl (fun f hR hC hE => ?_)
  show AW f (lB z RS ba qv m) 0 [some (.ref ba)] [] (d, []) 0 0
  refine a_aload_n (pc := 0) hC dJ4_length_8abf5_0 rfl ?_
  refine b_superI (pc := 1) hC hR su_J5_length_8abf5 ⟨Nat.le_refl _, Nat.le_of_ble_eq_true rfl, Nat.le_refl _, Nat.le_refl _⟩ dJ4_length_8abf5_1 (t5_length (P := fun r u => r = d 205 3 ∧ u = (d, [])) hC.tr ⟨rfl, rfl⟩) rfl rfl rfl (Nat.le_of_ble_eq_true rfl) (fun r q2 h2 => ?_)
  obtain ⟨rfl, rfl⟩ := h2
  exact a_iret (pc := 4) hC hE h (Nat.le_refl _) (Nat.le_refl _) dJ4_length_8abf5_4
theorem t_getValue (hl : l.stackTraces = false) : bM l z RS ba qv m d yJ5_getValue_6d5f1 (aWs yJ5_getValue_6d5f1 cJ5_getValue_6d5f1 1 (some (.array .byte))) 0 0 0 [.ref ba] (bQg z RS ba qv m d) := by
  refine bM_of RJ5 ⟨by decide +kernel, rfl⟩ (cat_all rfl) (Nat.le_of_ble_eq_true rfl) hl (fun f hR hC hE _ => ?_)
  show AW f (lB z RS ba qv m) 0 [some (.ref ba)] [] (d, []) 0 0
  refine a_aload_n (pc := 0) hC dJ5_getValue_6d5f1_0 rfl ?_
  refine sb_value (pc := 1) hC dJ5_getValue_6d5f1_1 ?_
  intro ls H locs ex hl hI hS
  rw [hE.1.1]
  exact W.widen (Nat.le_refl _) (Nat.le_refl _) (vx_ret (W.aret hC.x hC.b hE.2 (Or.inr ⟨_, rfl⟩) (Or.inr ⟨_, rfl⟩) (fun t ht hW => ⟨⟨some qv, (), rfl, rfl, ⟨ex, by rw [ht]; exact hI⟩⟩, hS.F ht⟩) hS.2.2 dJ5_getValue_6d5f1_4 hC.lk))
def strN (o : Nat) : Nat × va_E := (o, .inr (0, [.null, .int 0, .int 0, .int 0]))
abbrev mkP (z : lP) (RS : va_W) (ba qv m len o : Nat) (d : Nat → Nat → Int32) (W : va_W) : Prop := ∃ (q : Nat) (b : Nat → Int32), (∀ j, j < len → b j = d 206 j) ∧ W = (lWX z d ++ (bC z ba qv m d ++ ((q, .inl (lc z 5, (len, .inl b))) :: RS))) ++ [(o, .inr (0, [.ref q, .int 0, .int 0, .int 0]))]
theorem k_J0_init_db425 (ht : z.2.1.map Prod.snd = tyX) (hl : l.stackTraces = false) (h1 : len ≤ m) (hm : m ≤ 200) (hd3 : d 205 3 = nI len) (hfit : ∀ j, fits .byte (.int (d 206 j)) = true) : nMet l z yJ0_init_db425 (aWs yJ0_init_db425 cJ0_init_db425 5 none) 3 1 len [.ref o, .ref ba, .null] ((lWX z d ++ (bC z ba qv m d ++ RS)) ++ [strN o]) (mkP z RS ba qv m len o d) := by
  refine nMet_of RJ0 ⟨by decide +kernel, rfl⟩ rfl (cat_all rfl) (Nat.le_of_ble_eq_true rfl) hl (fun f hR hin hC hE => ?_)
  have hR1 := lRoom_of hR
  have hp : List.Perm ((lWX z d ++ (bC z ba qv m d ++ RS)) ++ [strN o]) (lWX z d ++ (bC z ba qv m d ++ (RS ++ [strN o]))) := List.Perm.of_eq (by simp only [List.append_assoc])
  have hCB : aOK f (lB z (RS ++ [strN o]) ba qv m) cJ0_init_db425 5 RJ0 := ⟨hC.1, hC.2.1, hC.2.2.1, hC.2.2.2.1, hC.2.2.2.2.1, hC.2.2.2.2.2.1, hC.2.2.2.2.2.2.1, hC.en.1, hC.2.2.2.2.2.2.2.2.1, hC.tr, lB_cl⟩
  show AW f (nG z ((lWX z d ++ (bC z ba qv m d ++ RS)) ++ [strN o])) 0 [some (.ref o), some (.ref ba), some .null, none, none] [] q0 0 0
  refine a_aload_n (pc := 0) (nOK hC _) dJ0_init_db425_0 rfl ?_
  refine n_obj (pc := 1) (nOK hC _) hR1 (by omega) rfl tw_1240 tw_40 tw_41 (Nat.le_of_ble_eq_true rfl) dJ0_init_db425_1 ?_
  refine AW.bN hp ?_
  refine a_aload_n (pc := 4) hCB dJ0_init_db425_4 rfl ?_
  refine b_upSq (As := []) (pc := 5) hCB hR us_J5_getValue_6d5f1 ⟨by omega, Nat.le_of_ble_eq_true rfl, by omega, by omega⟩ dJ0_init_db425_5 (t_getValue hC.tr) rfl rfl rfl (Nat.le_of_ble_eq_true rfl) ?_
  refine a_astore_n (pc := 8) hCB dJ0_init_db425_8 (Nat.le_of_ble_eq_true rfl) ?_
  refine a_aload_n (pc := 9) hCB dJ0_init_db425_9 rfl ?_
  refine b_upSi (As := []) (pc := 10) hCB hR us_J5_length_8abf5 ⟨by omega, Nat.le_of_ble_eq_true rfl, by omega, by omega⟩ dJ0_init_db425_10 (t4_lengthB (P := fun r u => r = d 205 3 ∧ u = (d, [])) hC.tr ⟨rfl, rfl⟩) rfl rfl rfl (Nat.le_of_ble_eq_true rfl) (fun r q2 h2 => ?_)
  obtain ⟨rfl, rfl⟩ := h2
  rw [hd3]
  refine a_istore (pc := 13) hCB dJ0_init_db425_13 (Nat.le_of_ble_eq_true rfl) ?_
  refine a_aload_n (pc := 15) hCB dJ0_init_db425_15 rfl ?_
  refine b_upSi (As := []) (pc := 16) hCB hR us_J5_isLatin1_aae02 ⟨by omega, Nat.le_of_ble_eq_true rfl, by omega, by omega⟩ dJ0_init_db425_16 (t_isLatin1 (P := fun r u => r = 1 ∧ u = (d, [])) hC.tr ⟨rfl, rfl⟩) rfl rfl rfl (Nat.le_of_ble_eq_true rfl) (fun r q2 h2 => ?_)
  obtain ⟨rfl, rfl⟩ := h2
  refine a_if_eq (pc := 19) (tgt := 41) hCB dJ0_init_db425_19 (by decide) (fun c => absurd c (by decide)) (fun _ => ?_)
  refine a_aload_n (pc := 22) hCB dJ0_init_db425_22 rfl ?_
  refine a_iconst (pc := 23) hCB dJ0_init_db425_23 (v := 0) rfl ?_
  refine AW.nB ?_
  rw [show lWX z d ++ (bC z ba qv m d ++ (RS ++ [strN o])) = (lWX z d ++ (bC z ba qv m d ++ RS)) ++ [strN o] by simp only [List.append_assoc]]
  refine n_putF (pc := 24) (nOK hC _) hin cl_J0 tyJ0 tyJ0_ok 0 (a := o) (fs := [.null, .int 0, .int 0, .int 0]) rfl 1 (by decide) tw_1283 rfl rfl rfl rfl (Nat.le_of_ble_eq_true rfl) dJ0_init_db425_24 ?_
  refine AW.bN (m := m) (qv := qv) (ba := ba) hp ?_
  refine a_aload_n (pc := 27) hCB dJ0_init_db425_27 rfl ?_
  refine a_aload_n (pc := 28) hCB dJ0_init_db425_28 rfl ?_
  refine a_iconst (pc := 29) hCB dJ0_init_db425_29 (v := 0) rfl ?_
  refine a_iload (pc := 30) hCB dJ0_init_db425_30 rfl ?_
  refine b_callSq (As := [.ref qv, .int 0, .int (nI len)]) (pc := 32) hCB hR sm_J7_copyOfRange_39247 tw_1255 ⟨Nat.le_refl _, Nat.le_of_ble_eq_true rfl, by omega, by omega⟩ dJ0_init_db425_32 (t_copyRange hC.tr ht h1 (by omega) hfit) rfl rfl rfl (Nat.le_of_ble_eq_true rfl) (fun q b hb => ?_)
  refine AW.nBN ?_
  rw [show lWX z d ++ (bC z ba qv m d ++ ((q, .inl (lc z 5, (len, .inl b))) :: (RS ++ [strN o]))) = (lWX z d ++ (bC z ba qv m d ++ ((q, .inl (lc z 5, (len, .inl b))) :: RS))) ++ [strN o] by simp only [List.append_assoc, List.cons_append]]
  refine n_putF (pc := 35) (nOK hC _) hin cl_J0 tyJ0 tyJ0_ok 0 (a := o) (fs := [.null, .int 0, .int 0, .int 0]) rfl 0 (by decide) tw_1282 rfl rfl rfl rfl (Nat.le_of_ble_eq_true rfl) dJ0_init_db425_35 ?_
  refine a_goto (pc := 38) (tgt := 97) (nOK hC _) dJ0_init_db425_38 (by decide) ?_
  exact n_vret (pc := 97) (nOK hC _) hE ⟨q, b, hb, rfl⟩ (by omega) (by omega) dJ0_init_db425_97
theorem k_J0_init_81219 (ht : z.2.1.map Prod.snd = tyX) (hl : l.stackTraces = false) (h1 : len ≤ m) (hm : m ≤ 200) (hd3 : d 205 3 = nI len) (hfit : ∀ j, fits .byte (.int (d 206 j)) = true) : nMet l z yJ0_init_81219 (aWs yJ0_init_81219 cJ0_init_81219 2 none) 4 1 len [.ref o, .ref ba] ((lWX z d ++ (bC z ba qv m d ++ RS)) ++ [strN o]) (mkP z RS ba qv m len o d) := by
  refine nMet_of RJ0 ⟨by decide +kernel, rfl⟩ rfl (cat_all rfl) (Nat.le_of_ble_eq_true rfl) hl (fun f hR hin hC hE => ?_)
  have hR1 := lRoom_of hR
  show AW f (nG z ((lWX z d ++ (bC z ba qv m d ++ RS)) ++ [strN o])) 0 [some (.ref o), some (.ref ba)] [] q0 0 0
  refine a_aload_n (pc := 0) (nOK hC _) dJ0_init_81219_0 rfl ?_
  refine a_aload_n (pc := 1) (nOK hC _) dJ0_init_81219_1 rfl ?_
  refine a_null (pc := 2) (nOK hC _) dJ0_init_81219_2 ?_
  refine n_call (As := [.ref ba, .null]) (pc := 3) (nOK hC _) hR1 nm_J0_init_db425 tw_1237 ⟨by omega, Nat.le_of_ble_eq_true rfl, by omega, by omega⟩ dJ0_init_81219_3 (k_J0_init_db425 ht hC.tr h1 hm hd3 hfit) rfl rfl rfl (Nat.le_of_ble_eq_true rfl) (fun W h => ?_)
  exact n_vret (pc := 6) (nOK hC _) hE h (by omega) (by omega) dJ0_init_81219_6
/-- StringBuilder.toString -/
abbrev bQs (z : lP) (RS : va_W) (ba : Nat) (dX : Nat → Nat → Int32) (t : List Nat) : Array Value → State → Outcome → State → Prop :=
  va_Qq (S := Nat × Nat × (Nat → Int32)) (fun r u => r = some u.1 ∧ ∀ j, j < t.length → u.2.2 j = nI (t.getD j 0)) (fun u s => aWp (lX z (strC z u.1 u.2.1 t.length u.2.2 ++ RS) ba) (dX, t) s) (lA z)
theorem t4_toString (ht : z.2.1.map Prod.snd = tyX) (hl : l.stackTraces = false) : vx_Met l yJ4_toString_0e30d (aWs yJ4_toString_0e30d cJ4_toString_0e30d 1 (some (.object "java/lang/String"))) (aR 5 2 64) (va_Pc [.ref ba] (aWd (lX z RS ba) (dX, t))) (bQs z RS ba dX t) (aX (lX z RS ba) noX) 2 64 (lA z) := by
  refine vx_ofW (cc := cJ4_toString_0e30d) (maxL := 1) (ret := some (.object "java/lang/String")) (by decide +kernel) rfl ?_
  intro p e s m' args below meth c s₁ B hml htb hv
  obtain ⟨rfl, ⟨ex, hI⟩, hK, hA, hEn⟩ := hv
  have hts := atoms_spec (ws := aWs yJ4_toString_0e30d cJ4_toString_0e30d 1 (some (.object "java/lang/String"))) B.pre
  have hown : s.vm.findClass RJ4 = some m'.cls := findClass_of_methodNamed B.named
  have body : ∀ f : aF, f_R f = aR 5 2 64 → aOK f (lX z RS ba) cJ4_toString_0e30d 1 RJ4 → (aEQ f (lX z RS ba) (bQs z RS ba dX t) noX 2 64 ∧ (f_me f).sig.returnType = some (.object "java/lang/String")) → AW f (lX z RS ba) 0 [some (.ref ba)] [] (dX, t) 0 0 := by
    intro f hR hC hE
    have hR1 := lRoom_of hR
    refine AW.openB (fun qv m d hT hd => ?_)
    have h60 : t.length ≤ 60 := hT.2.2.1
    have hN : ∀ ws, aOK f (nG z ws) cJ4_toString_0e30d 1 RJ4 := nOK_of (lX_in z RS ba) hC
    refine AW.nB ?_
    rw [← List.append_nil (lWX z d ++ (bC z ba qv m d ++ RS))]
    refine n_new (pc := 0) (hN _) hR1 cl_J0 tyJ0 tyJ0_ok tw_1233 tw_452 tw_13 (fs := [.null, .int 0, .int 0, .int 0]) (fun j hj => by rcases (show j = 0 ∨ j = 1 ∨ j = 2 ∨ j = 3 by omega) with rfl | rfl | rfl | rfl <;> rfl) (by omega) (by omega) dJ4_toString_0e30d_0 (fun o => ?_)
    rw [List.append_nil]
    refine a_dup (pc := 3) (hN _) dJ4_toString_0e30d_3 rfl ?_
    refine a_aload_n (pc := 4) (hN _) dJ4_toString_0e30d_4 rfl ?_
    refine n_call (As := [.ref ba]) (pc := 5) (hN _) hR1 nm_J0_init_81219 tw_1234 ⟨by omega, Nat.le_of_ble_eq_true rfl, by omega, by omega⟩ dJ4_toString_0e30d_5 (k_J0_init_81219 ht hC.tr hT.1 hT.2.1 hT.2.2.2.1 hT.2.2.2.2.2) rfl rfl rfl (Nat.le_of_ble_eq_true rfl) (fun W h => ?_)
    obtain ⟨q, b, hb, rfl⟩ := h
    have hsb : sbEX z ba t (bC z ba qv m d) := ⟨m, qv, d 206, d 205 2, by rw [← hT.2.2.2.1]; rfl, hT.1, hT.2.1, hT.2.2.1, hT.2.2.2.2.1, hT.2.2.2.2.2⟩
    refine AW.xN (RS := strC z o q t.length b ++ RS) (dX := d) hsb ?_ ?_
    · rw [List.append_assoc, List.append_assoc]
      refine List.Perm.append_left _ (List.Perm.append_left _ ?_)
      show List.Perm (((q, .inl (lc z 5, (t.length, .inl b))) :: RS) ++ [(o, .inr (0, [.ref q, .int 0, .int 0, .int 0]))]) ((o, .inr (0, [.ref q, .int 0, .int 0, .int 0])) :: ((q, .inl (lc z 5, (t.length, .inl b))) :: RS))
      exact List.perm_append_comm
    · have hCX := lOK_of (lX_in z RS ba) hC (strC z o q t.length b ++ RS) ba
      intro ls H locs ex hl hI hS
      rw [hE.1.1]
      refine W.widen (by omega) (by omega) (vx_ret (W.aret hCX.x hCX.b hE.2 (Or.inl ⟨_, rfl⟩) (Or.inr ⟨_, rfl⟩) (fun t' ht' hW => ⟨⟨some o, (o, q, b), rfl, ⟨rfl, fun j hj => ?_⟩, ⟨ex, ?_⟩⟩, hS.F ht'⟩) hS.2.2 dJ4_toString_0e30d_8 hCX.lk))
      · exact (hb j hj).trans (hT.2.2.2.2.1 j hj).2
      · rw [ht']
        obtain ⟨i1, i2, i3⟩ := hI
        have e : aWl (lX z (strC z o q t.length b ++ RS) ba) dX = aWl (lX z (strC z o q t.length b ++ RS) ba) d := lWX_cg (fun k hk => (hd k hk).symm)
        exact ⟨i1, by rw [e]; exact i2, by rw [e]; exact i3⟩
  have h := body (p, l, e, (headSpec (aWs yJ4_toString_0e30d cJ4_toString_0e30d 1 (some (.object "java/lang/String"))) (aR 5 2 64)).room, s, m', [Value.ref ba].toArray, below, meth, c, vx_MQ below (bQs z RS ba dX t) (aX (lX z RS ba) noX) [Value.ref ba].toArray s 2 64 (lA z)) rfl
    ⟨B.exec, B.bytes, hml, hown, fun w hw => hts w (List.mem_cons_of_mem _ hw), hK, B.notSynchronized, hEn, hA, hl, lEn_cl (z := z) rfl rfl⟩ ⟨⟨rfl, htb⟩, B.returns⟩
  rw [lg_entry_eq]
  exact h _ _ [] ex (lw_entry [.ref ba] (cat_all rfl) (Nat.le_of_ble_eq_true rfl)) hI va_S.rf
end MKT
section MKU
variable {f : aF} {g : aG} {z : lP} {cc : ByteArray} {nL : Nat} {own : String} {pc : Nat} {L : List (Option Value)} {st rest : List Value} {q : aS} {dX : Nat → Nat → Int32} {t tl : List Nat} {RS : va_W} {ba lb k n : Nat}
/-- the text of a builder -/
theorem l_toStr (ht : z.2.1.map Prod.snd = tyX) (hC : aOK f (lX z RS ba) cc nL own) {N mcR msR : Nat} (hR : f_R f = aR N mcR msR) {idx : Nat} (hwl : Cond.methodLink own idx yJ4_toString_0e30d ∈ lw_tbl) (hfit : aFit 1 5 2 64 k n N mcR msR) (dg : decode cc pc = .ok (.invokevirtual idx, 3)) (hL : L.length = nL) (hrest : (rest.map fun v => v.category).sum ≤ 8)
    (kk : ∀ (o qs : Nat) (b : Nat → Int32), (∀ j, j < t.length → b j = nI (t.getD j 0)) → AW f (lX z (strC z o qs t.length b ++ RS) ba) (pc + 3) L (.ref o :: rest) (dX, t) (k + 2) (n + 64)) : AW f (lX z RS ba) pc L (.ref ba :: rest) (dX, t) k n := by
  intro ls H locs ex hl hI hS
  refine va_callq (sb_runM (As := []) (g := lX z RS ba) (q := (dX, t)) rfl hC hR vm_J4_toString_0e30d hwl hfit dg (t4_toString ht hC.tr) rfl hL hrest hl hI hS) hS (fun _ _ h => h) (fun _ h => h) (fun r u t' H1 locs1 ht' hvm hp1 hB hz hk1 hS1 => ?_)
  obtain ⟨o, qs, b⟩ := u
  obtain ⟨ex', hI'⟩ := hB
  obtain ⟨rfl, hb⟩ := hp1
  rw [ht'] at hI'
  exact kk o qs b hb ls H1 locs1 ex' hl hI' hS1
/-- a new builder: she is looked at from now on -/
theorem l_newSB (ht : z.2.1.map Prod.snd = tyX) (hC : aOK f (lX z RS ba) cc nL RL) {N mcR msR : Nat} (hR : f_R f = aR N mcR msR) (hN : 3 ≤ N) (hk : k + 2 ≤ mcR) (hn : n + 20 ≤ msR) (d0 : decode cc pc = .ok (.new 196, 3)) (d3 : decode cc (pc + 3) = .ok (.dup, 1)) (d4 : decode cc (pc + 4) = .ok (.invokespecial 198, 3)) (hL : L.length = nL) (hst : (st.map fun v => v.category).sum ≤ 7)
    (kk : ∀ (p : Nat) (sl : va_W), sbEX z ba t sl → AW f (lX z (sl ++ RS) p) (pc + 7) L (.ref p :: st) (dX, []) (k + 2) (n + 20)) : AW f (lX z RS ba) pc L st (dX, t) k n := by
  have hN9 : ∀ ws, aOK f (nG z ws) cc nL RL := nOK_of (lX_in z RS ba) hC
  have hR1 := lRoom_of hR
  refine AW.nX (fun sb hsb => ?_)
  rw [← List.append_nil (lWX z dX ++ (sb ++ RS))]
  refine n_new (pc := pc) (hN9 _) hR1 cl_J4 tyJ4 tyJ4_ok tw_1104 tw_271 tw_12 (fs := [.null, .int 0, .int 0, .int 0]) (fun j hj => by rcases (show j = 0 ∨ j = 1 ∨ j = 2 ∨ j = 3 by omega) with rfl | rfl | rfl | rfl <;> rfl) (by omega) (by omega) d0 (fun p => ?_)
  rw [List.append_nil]
  refine a_dup (pc := pc + 3) (hN9 _) d3 rfl ?_
  refine n_call (As := []) (pc := pc + 4) (rest := .ref p :: st) (hN9 _) hR1 nm_J4_init_da8c8 tw_1105 ⟨by omega, Nat.le_of_ble_eq_true rfl, by omega, by omega⟩ d4 (k_J4_init_da8c8 ht hC.tr _ _) rfl rfl hL (by show 1 + (st.map fun v => v.category).sum ≤ 8; omega) (fun W h => ?_)
  obtain ⟨qv, rfl⟩ := h
  refine AW.xN (t := []) (RS := sb ++ RS) (sb := [(p, .inr (1, [.ref qv, .int 0, .int 0, .int 0])), (qv, .inl (lc z 5, (16, .inl (fun _ => 0))))]) ⟨16, qv, fun _ => 0, 0, rfl, Nat.zero_le _, by decide, Nat.zero_le _, fun j hj => absurd hj (Nat.not_lt_zero j), fun _ => rfl⟩ ?_ (kk p sb hsb)
  rw [List.append_assoc]
  exact List.Perm.append_left _ List.perm_append_comm
end MKU

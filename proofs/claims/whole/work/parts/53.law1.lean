/-! the law's own frame -/
def lRoom (f : aF) (N mcR msR : Nat) : Prop := N ≤ (f_R f).frames ∧ 60 * N ≤ (f_R f).locals ∧ mcR ≤ (f_R f).cells ∧ msR ≤ (f_R f).slots
theorem lRoom.fit {f : aF} {N mcR msR maxL n' mc ms k n : Nat} (h : lRoom f N mcR msR) (hf : aFit maxL n' mc ms k n N mcR msR) : ((aR n' mc ms).frames + 1 ≤ (f_R f).frames ∧ 8 + (maxL + 11) + (aR n' mc ms).locals ≤ (f_R f).locals) ∧ k + mc ≤ (f_R f).cells ∧ n + ms ≤ (f_R f).slots := by
  obtain ⟨h1, h2, h3, h4⟩ := h
  obtain ⟨g1, g2, g3, g4⟩ := hf
  refine ⟨⟨?_, ?_⟩, by omega, by omega⟩
  · show n' + 1 ≤ _
    omega
  · show 8 + (maxL + 11) + 60 * n' ≤ _
    omega
section LAWR
variable {f : aF} {g : aG} {cc : ByteArray} {nL : Nat} {own : String} {pc : Nat} {L : List (Option Value)} {st : List Value} {q : aS} {k n : Nat}
/-- a call of an instance method from the law, by its locals -/
theorem l_callW {y : MethodName} {C : String} {bytes : ByteArray} {maxL n' mc ms N mcR msR index ci p Nf m : Nat} {ty : FieldType} {As : List Value} {T : u_T} {F : (Nat → Int32) → List Value} {P : Int32 → aS → Prop} {ls : Array Slot} {H : Heap} {locs : List Loc} {ex : va_W}
    (hC : aOK f g cc nL own) (hR : lRoom f N mcR msR) (hm : aVm y C bytes maxL (some ty) m) (hw : Cond.methodLink own index y ∈ lw_tbl) (hc : aCl ci C T Nf) (hp : aOb g p ci F) (hfit : aFit maxL n' mc ms k n N mcR msR) {rest : List Value} (dg : decode cc pc = .ok (.invokevirtual index, 3))
    (hM : aMi (f_l f) g y (aWs y bytes maxL (some ty)) n' mc ms (.ref (gAd g p) :: As) q P (fun _ _ => False)) (hst : st = As.reverse ++ .ref (gAd g p) :: rest) (hn : As.length = m) (hL : ls.size = nL) (hrest : (rest.map fun v => v.category).sum ≤ 8) (hI : aI g q ex H) (hS : va_S (gA g) (f_s f).heap H locs)
    (kk : ∀ (r : Int32) (q' : aS) (H1 : Heap) (locs1 : List Loc) (ex1 : va_W), P r q' → aI g q' ex1 H1 → va_S (gA g) (f_s f).heap H1 locs1 → W (f_p f) (f_l f) (f_e f) (f_R f) (f_s f) (f_m f) (f_a f) (f_b f) (f_me f) (f_c f) H1 locs1 (k + mc) (n + ms) (f_Q f) (F0 (f_m f) (pc + 3) ls (.int r :: rest))) : W (f_p f) (f_l f) (f_e f) (f_R f) (f_s f) (f_m f) (f_a f) (f_b f) (f_me f) (f_c f) H locs k n (f_Q f) (F0 (f_m f) pc ls st) := by
  subst hst
  have hf := hR.fit hfit
  have hrun := vx_runV (rest := rest) (g := F0 (f_m f) pc ls (As.reverse ++ .ref (gAd g p) :: rest)) (locs := locs) (meth := f_me f) (below := f_b f) (e := f_e f) (cells := k) (slots := n) (S := (⟨hC.x, hC.b, hC.ml, hC.o, hC.ts⟩ : CallFix (f_p f) (f_m f) (f_c f) cc nL (f_s f) (f_a f) TW own)) hM (cwV m hC.ts (good_V hm hw) rfl rfl rfl hm.2.2.2.2 hf.1) (a_preV hC hI hS hc hp As) rfl hn hL rfl (lv_room hrest) dg hf.2
  refine vx_calli hrun hS (fun _ _ h => h) (fun _ h => h) (fun _ _ h => h) (fun E ce q9 u t H1 locs1 ht hvm _ hB => hB.1.elim) (fun r u t H1 locs1 ht hvm hp1 hB hz hk1 hS1 => ?_)
  obtain ⟨ex', hI'⟩ := hB
  rw [ht] at hI'
  exact kk r u H1 locs1 ex' hp1 hI' hS1
theorem l_callV {y : MethodName} {C : String} {bytes : ByteArray} {maxL n' mc ms N mcR msR index ci p Nf m : Nat} {ty : FieldType} {As : List Value} {T : u_T} {F : (Nat → Int32) → List Value} {P : Int32 → aS → Prop}
    (hC : aOK f g cc nL own) (hR : lRoom f N mcR msR) (hm : aVm y C bytes maxL (some ty) m) (hw : Cond.methodLink own index y ∈ lw_tbl) (hc : aCl ci C T Nf) (hp : aOb g p ci F) (hfit : aFit maxL n' mc ms k n N mcR msR) {rest : List Value} (dg : decode cc pc = .ok (.invokevirtual index, 3))
    (hM : aMi (f_l f) g y (aWs y bytes maxL (some ty)) n' mc ms (.ref (gAd g p) :: As) q P (fun _ _ => False)) (hst : st = As.reverse ++ .ref (gAd g p) :: rest) (hn : As.length = m) (hL : L.length = nL) (hrest : (rest.map fun v => v.category).sum ≤ 8) (kk : ∀ (r : Int32) (q' : aS), P r q' → AW f g (pc + 3) L (.int r :: rest) q' (k + mc) (n + ms)) : AW f g pc L st q k n := by
  intro ls H locs ex hl hI hS
  exact l_callW hC hR hm hw hc hp hfit dg hM hst hn (hl.1.trans hL) hrest hI hS (fun r q' H1 locs1 ex1 hp1 hI1 hS1 => kk r q' hp1 ls H1 locs1 ex1 hl hI1 hS1)
theorem l_callVd {y : MethodName} {C : String} {bytes : ByteArray} {maxL n' mc ms N mcR msR index ci p Nf m : Nat} {As : List Value} {T : u_T} {F : (Nat → Int32) → List Value} {P : UInt64 → aS → Prop}
    (hC : aOK f g cc nL own) (hR : lRoom f N mcR msR) (hm : aVm y C bytes maxL (some .double) m) (hw : Cond.methodLink own index y ∈ lw_tbl) (hc : aCl ci C T Nf) (hp : aOb g p ci F) (hfit : aFit maxL n' mc ms k n N mcR msR) {rest : List Value} (dg : decode cc pc = .ok (.invokevirtual index, 3))
    (hM : aMd (f_l f) g y (aWs y bytes maxL (some .double)) n' mc ms (.ref (gAd g p) :: As) q P (fun _ _ => False)) (hst : st = As.reverse ++ .ref (gAd g p) :: rest) (hn : As.length = m) (hL : L.length = nL) (hrest : (rest.map fun v => v.category).sum ≤ 8) (kk : ∀ (r : UInt64) (q' : aS), P r q' → AW f g (pc + 3) L (.double r :: rest) q' (k + mc) (n + ms)) : AW f g pc L st q k n := by
  intro ls H locs ex hl hI hS
  subst hst
  have hf := hR.fit hfit
  have hrun := vx_runV (rest := rest) (g := F0 (f_m f) pc ls (As.reverse ++ .ref (gAd g p) :: rest)) (locs := locs) (meth := f_me f) (below := f_b f) (e := f_e f) (cells := k) (slots := n) (S := (⟨hC.x, hC.b, hC.ml, hC.o, hC.ts⟩ : CallFix (f_p f) (f_m f) (f_c f) cc nL (f_s f) (f_a f) TW own)) hM (cwV m hC.ts (good_V hm hw) rfl rfl rfl hm.2.2.2.2 hf.1) (a_preV hC hI hS hc hp As) rfl hn (hl.1.trans hL) rfl (lv_room hrest) dg hf.2
  refine vx_calld hrun hS (fun _ _ h => h) (fun _ h => h) (fun _ _ h => h) (fun E ce q9 u t H1 locs1 ht hvm _ hB => hB.1.elim) (fun r u t H1 locs1 ht hvm hp1 hB hz hk1 hS1 => ?_)
  obtain ⟨ex', hI'⟩ := hB
  rw [ht] at hI'
  exact kk r u hp1 ls H1 locs1 ex' hl hI' hS1
theorem l_callVf {y : MethodName} {C : String} {bytes : ByteArray} {maxL n' mc ms N mcR msR index ci p Nf m : Nat} {As : List Value} {T : u_T} {F : (Nat → Int32) → List Value} {P : UInt32 → aS → Prop}
    (hC : aOK f g cc nL own) (hR : lRoom f N mcR msR) (hm : aVm y C bytes maxL (some .float) m) (hw : Cond.methodLink own index y ∈ lw_tbl) (hc : aCl ci C T Nf) (hp : aOb g p ci F) (hfit : aFit maxL n' mc ms k n N mcR msR) {rest : List Value} (dg : decode cc pc = .ok (.invokevirtual index, 3))
    (hM : aMf (f_l f) g y (aWs y bytes maxL (some .float)) n' mc ms (.ref (gAd g p) :: As) q P (fun _ _ => False)) (hst : st = As.reverse ++ .ref (gAd g p) :: rest) (hn : As.length = m) (hL : L.length = nL) (hrest : (rest.map fun v => v.category).sum ≤ 8) (kk : ∀ (r : UInt32) (q' : aS), P r q' → AW f g (pc + 3) L (.float r :: rest) q' (k + mc) (n + ms)) : AW f g pc L st q k n := by
  intro ls H locs ex hl hI hS
  subst hst
  have hf := hR.fit hfit
  have hrun := vx_runV (rest := rest) (g := F0 (f_m f) pc ls (As.reverse ++ .ref (gAd g p) :: rest)) (locs := locs) (meth := f_me f) (below := f_b f) (e := f_e f) (cells := k) (slots := n) (S := (⟨hC.x, hC.b, hC.ml, hC.o, hC.ts⟩ : CallFix (f_p f) (f_m f) (f_c f) cc nL (f_s f) (f_a f) TW own)) hM (cwV m hC.ts (good_V hm hw) rfl rfl rfl hm.2.2.2.2 hf.1) (a_preV hC hI hS hc hp As) rfl hn (hl.1.trans hL) rfl (lv_room hrest) dg hf.2
  refine vx_callf hrun hS (fun _ _ h => h) (fun _ h => h) (fun _ _ h => h) (fun E ce q9 u t H1 locs1 ht hvm _ hB => hB.1.elim) (fun r u t H1 locs1 ht hvm hp1 hB hz hk1 hS1 => ?_)
  obtain ⟨ex', hI'⟩ := hB
  rw [ht] at hI'
  exact kk r u hp1 ls H1 locs1 ex' hl hI' hS1
/-- floats in the locals -/
theorem a_fstore (hC : aOK f g cc nL own) {i : Nat} {x : UInt32} (dg : decode cc pc = .ok (.fstore i, 2)) (hi : i < L.length) (kk : AW f g (pc + 2) (L.set i (some (.float x))) st q k n) : AW f g pc L (.float x :: st) q k n := fun ls H locs ex hl hI hS => lv_fstore hC.x hC.b dg hl.to hi rfl (fun ls' hl' => kk ls' H locs ex (hl.set rfl hl') hI hS)
theorem a_fload (hC : aOK f g cc nL own) {i : Nat} {x : UInt32} (dg : decode cc pc = .ok (.fload i, 2)) (hi : L[i]? = some (some (.float x))) (kk : AW f g (pc + 2) L (.float x :: st) q k n) : AW f g pc L st q k n := fun ls H locs ex hl hI hS => lv_fload hC.x hC.b dg (hl.2.2 _ _ hi).1 (kk ls H locs ex hl hI hS)
theorem a_fcmp (hC : aOK f g cc nL own) {x y : UInt32} {op : CmpOp} (dg : decode cc pc = .ok (.fcmp op, 1)) (kk : AW f g (pc + 1) L (.int (Op.cmpValue (FP.fcmp x y) op) :: st) q k n) : AW f g pc L (.float y :: .float x :: st) q k n := fun ls H locs ex hl hI hS => lv_fcmp hC.x hC.b dg (kk ls H locs ex hl hI hS)
end LAWR
theorem AW.toX' {f : aF} {z : lP} {pc : Nat} {L : List (Option Value)} {st : List Value} {dX dM : Nat → Nat → Int32} {t tm : List Nat} {v : Nat → Int64} {vd : Nat → UInt64} {k n : Nat} (h : AW f (lM z dX t v vd) pc L st (dM, tm) k n) : AW f (lX z dM v vd) pc L st (dX, t) k n := by
  intro ls H locs ex hl hI hS
  obtain ⟨ex', hI'⟩ := lX_M (t' := tm) hI
  exact h ls H locs ex' hl hI' hS
/-- the law's frame: its script, its room -/
def lawOK (f : aF) (z : lP) (sa N : Nat) (xs : Nat → Int32) : Prop :=
  z.2.1.map Prod.snd = tyX ∧ (∀ (dM : Nat → Nat → Int32) (v : Nat → Int64) (vd : Nat → UInt64), aOK f (lX z dM v vd) cL_law 9 RL) ∧ lRoom f 1000 603072 7202922 ∧ va_X sa N xs (f_s f) (f_s f).heap ∧ sa < (f_s f).heap.size ∧ ¬ lA z sa
def lawL (z : lP) (sa : Nat) (i : Int32) : List (Option Value) := [some (.ref sa), some (.ref (z.2.2.1 0)), some (.ref (z.2.2.2.1 0)), some (.ref z.2.2.2.2.2.1), some (.ref z.2.2.2.2.2.2.1), some (.int i), none, none, none]
theorem lawL_sub (z : lP) (sa : Nat) (i : Int32) (a b c : Option Value) : lsub (lawL z sa i) [some (.ref sa), some (.ref (z.2.2.1 0)), some (.ref (z.2.2.2.1 0)), some (.ref z.2.2.2.2.2.1), some (.ref z.2.2.2.2.2.2.1), some (.int i), a, b, c] := by
  unfold lawL
  exact ⟨rfl, rfl, rfl, rfl, rfl, rfl, trivial⟩
section LAWS
variable {f : aF} {z : lP} {sa N : Nat} {xs : Nat → Int32} {pc : Nat} {L : List (Option Value)} {st : List Value} {dX dM : Nat → Nat → Int32} {t tm : List Nat} {v : Nat → Int64} {vd : Nat → UInt64} {k n : Nat}
theorem lawOK.C (h : lawOK f z sa N xs) (dM : Nat → Nat → Int32) (v : Nat → Int64) (vd : Nat → UInt64) : aOK f (lX z dM v vd) cL_law 9 RL := h.2.1 dM v vd
/-- a number of the script -/
theorem a_scr (hO : lawOK f z sa N xs) {i j : Int32} {zj : Int} {q : aS} (hL0 : L[0]? = some (some (.ref sa))) (hL5 : L[5]? = some (some (.int i))) (hj : Int32.ofInt zj = j) (hin : vp_in (i + j) N) (d0 : decode cL_law pc = .ok (.aload_n 0, 1)) (d1 : decode cL_law (pc + 1) = .ok (.iload 5, 2)) (d2 : decode cL_law (pc + 3) = .ok (.iconst zj, 1)) (d3 : decode cL_law (pc + 4) = .ok (.iadd, 1)) (d4 : decode cL_law (pc + 5) = .ok (.iaload, 1))
    (kk : AW f (lX z dM v vd) (pc + 6) L (.int (xs (i + j).toNatClampNeg) :: st) q k n) : AW f (lX z dM v vd) pc L st q k n := by
  have hC := hO.C dM v vd
  refine a_aload_n (pc := pc) hC d0 hL0 ?_
  refine a_iload (pc := pc + 1) hC d1 hL5 ?_
  refine a_iconst (pc := pc + 3) hC d2 hj ?_
  refine a_iadd (pc := pc + 4) hC d3 ?_
  intro ls H locs ex hl hI hS
  exact va_sld hC.x hC.b hO.2.2.2.1 hO.2.2.2.2.1 hO.2.2.2.2.2 hS hin d4 (kk ls H locs ex hl hI hS)
/-- a call of a helper -/
theorem l_helper {y : MethodName} {bytes : ByteArray} {maxL n' mc ms index m : Nat} {hh : List (Nat × Nat × Nat × Nat)} {As : List Value} {P : Int32 → lU → Prop}
    (hO : lawOK f z sa N xs) (hm : lSm y bytes maxL hh m) (hw : Cond.methodLink RL index y ∈ lw_tbl) (hfit : aFit maxL n' mc ms k n 1000 603072 7202922) {rest : List Value} (dg : decode cL_law pc = .ok (.invokestatic index, 3))
    (hM : lMet (f_l f) z dM y (lWs y bytes maxL hh) n' mc ms As (v, vd, (dX, t)) P) (hst : st = As.reverse ++ rest) (hn : As.length = m) (hL : L.length = 9) (hrest : (rest.map fun v => v.category).sum ≤ 8)
    (kk : ∀ (r : Int32) (u : lU), P r u → AW f (lX z dM u.1 u.2.1) (pc + 3) L (.int r :: rest) u.2.2 (k + mc) (n + ms)) : AW f (lX z dM v vd) pc L st (dX, t) k n := by
  intro ls H locs ex hl hI hS
  subst hst
  have hC := hO.C dM v vd
  have hf := hO.2.2.1.fit hfit
  have hgood : GoodIn TW (va_wsS RL index y (lWs y bytes maxL hh)) := by
    intro w h
    refine good_TW ?_
    rcases List.mem_append.mp h with h | h
    · simp only [List.mem_cons, List.not_mem_nil, or_false] at h
      rcases h with rfl | rfl | rfl
      · exact tk_w hw rfl
      · exact tk_w hm.2.1 rfl
      · exact tk_w hm.2.2.1 rfl
    · rcases List.mem_cons.mp h with rfl | h
      · exact tk_w hm.1 rfl
      · exact h
  have hrun := vx_runSW (rest := rest) (g := F0 (f_m f) pc ls (As.reverse ++ rest)) (locs := locs) (meth := f_me f) (below := f_b f) (e := f_e f) (cells := k) (slots := n) (S := (⟨hC.x, hC.b, hC.ml, hC.o, hC.ts⟩ : CallFix (f_p f) (f_m f) (f_c f) cL_law 9 (f_s f) (f_a f) TW RL)) hM (vx_cwSW m hC.ts hgood rfl rfl rfl hm.2.2.2 hf.1) (a_preS hC hI hS As) rfl hn (hl.1.trans hL) rfl (lv_room hrest) dg hf.2
  refine va_calli hrun hS (fun _ _ h => h) (fun _ h => h) (fun r u t H1 locs1 ht hvm hp1 hB hz hk1 hS1 => ?_)
  obtain ⟨ex', hI'⟩ := hB
  rw [ht] at hI'
  exact kk r u hp1 ls H1 locs1 ex' hl hI' hS1
/-- calls of the reference -/
theorem l_model {y : MethodName} {bytes : ByteArray} {maxL n' mc ms index m : Nat} {ty : FieldType} {As : List Value} {P : Int32 → aS → Prop}
    (hO : lawOK f z sa N xs) (hm : aVm y RX10 bytes maxL (some ty) m) (hw : Cond.methodLink RL index y ∈ lw_tbl) (hfit : aFit maxL n' mc ms k n 1000 603072 7202922) {rest : List Value} (dg : decode cL_law pc = .ok (.invokevirtual index, 3))
    (hM : aMi (f_l f) (lM z dX t v vd) y (aWs y bytes maxL (some ty)) n' mc ms (.ref (gAd (lM z dX t v vd) 0) :: As) (dM, tm) P (fun _ _ => False)) (hst : st = As.reverse ++ .ref (z.2.2.2.1 0) :: rest) (hn : As.length = m) (hL : L.length = 9) (hrest : (rest.map fun v => v.category).sum ≤ 8)
    (kk : ∀ (r : Int32) (qm : aS), P r qm → AW f (lX z qm.1 v vd) (pc + 3) L (.int r :: rest) (dX, t) (k + mc) (n + ms)) : AW f (lX z dM v vd) pc L st (dX, t) k n := by
  have hX : isM (lM z dX t v vd) := lM_is hO.1 dX t v vd
  refine AW.toX' (l_callV (lOK_M (hO.C dM v vd) dX t) hO.2.2.1 hm hw cl_X10 (oM_0 hX) hfit dg hM hst hn hL hrest (fun r q' h => ?_))
  obtain ⟨q1, q2⟩ := q'
  exact AW.toM (kk r (q1, q2) h)
theorem l_modeld {y : MethodName} {bytes : ByteArray} {maxL n' mc ms index m : Nat} {As : List Value} {P : UInt64 → aS → Prop}
    (hO : lawOK f z sa N xs) (hm : aVm y RX10 bytes maxL (some .double) m) (hw : Cond.methodLink RL index y ∈ lw_tbl) (hfit : aFit maxL n' mc ms k n 1000 603072 7202922) {rest : List Value} (dg : decode cL_law pc = .ok (.invokevirtual index, 3))
    (hM : aMd (f_l f) (lM z dX t v vd) y (aWs y bytes maxL (some .double)) n' mc ms (.ref (gAd (lM z dX t v vd) 0) :: As) (dM, tm) P (fun _ _ => False)) (hst : st = As.reverse ++ .ref (z.2.2.2.1 0) :: rest) (hn : As.length = m) (hL : L.length = 9) (hrest : (rest.map fun v => v.category).sum ≤ 8)
    (kk : ∀ (r : UInt64) (qm : aS), P r qm → AW f (lX z qm.1 v vd) (pc + 3) L (.double r :: rest) (dX, t) (k + mc) (n + ms)) : AW f (lX z dM v vd) pc L st (dX, t) k n := by
  have hX : isM (lM z dX t v vd) := lM_is hO.1 dX t v vd
  refine AW.toX' (l_callVd (lOK_M (hO.C dM v vd) dX t) hO.2.2.1 hm hw cl_X10 (oM_0 hX) hfit dg hM hst hn hL hrest (fun r q' h => ?_))
  obtain ⟨q1, q2⟩ := q'
  exact AW.toM (kk r (q1, q2) h)
theorem l_modelf {y : MethodName} {bytes : ByteArray} {maxL n' mc ms index m : Nat} {As : List Value} {P : UInt32 → aS → Prop}
    (hO : lawOK f z sa N xs) (hm : aVm y RX10 bytes maxL (some .float) m) (hw : Cond.methodLink RL index y ∈ lw_tbl) (hfit : aFit maxL n' mc ms k n 1000 603072 7202922) {rest : List Value} (dg : decode cL_law pc = .ok (.invokevirtual index, 3))
    (hM : aMf (f_l f) (lM z dX t v vd) y (aWs y bytes maxL (some .float)) n' mc ms (.ref (gAd (lM z dX t v vd) 0) :: As) (dM, tm) P (fun _ _ => False)) (hst : st = As.reverse ++ .ref (z.2.2.2.1 0) :: rest) (hn : As.length = m) (hL : L.length = 9) (hrest : (rest.map fun v => v.category).sum ≤ 8)
    (kk : ∀ (r : UInt32) (qm : aS), P r qm → AW f (lX z qm.1 v vd) (pc + 3) L (.float r :: rest) (dX, t) (k + mc) (n + ms)) : AW f (lX z dM v vd) pc L st (dX, t) k n := by
  have hX : isM (lM z dX t v vd) := lM_is hO.1 dX t v vd
  refine AW.toX' (l_callVf (lOK_M (hO.C dM v vd) dX t) hO.2.2.1 hm hw cl_X10 (oM_0 hX) hfit dg hM hst hn hL hrest (fun r q' h => ?_))
  obtain ⟨q1, q2⟩ := q'
  exact AW.toM (kk r (q1, q2) h)
def zI (x : Int32) : Int32 := if x = 0 then 0 else 1
theorem a_zI (hC : aOK f (lX z dM v vd) cL_law 9 RL) {x : Int32} {q : aS} (d0 : decode cL_law pc = .ok (.ifCond .eq 7, 3)) (d1 : decode cL_law (pc + 3) = .ok (.iconst 1, 1)) (d2 : decode cL_law (pc + 4) = .ok (.goto 4, 3)) (d3 : decode cL_law (pc + 7) = .ok (.iconst 0, 1))
    (kk : AW f (lX z dM v vd) (pc + 8) L (.int (zI x) :: st) q k n) : AW f (lX z dM v vd) pc L (.int x :: st) q k n := by
  refine a_if_eq (pc := pc) (tgt := pc + 7) hC d0 (by omega) (fun e => ?_) (fun e => ?_)
  · refine a_iconst (pc := pc + 7) hC d3 (v := 0) rfl ?_
    rw [show zI x = 0 by unfold zI; rw [if_pos e]] at kk
    exact kk
  · refine a_iconst (pc := pc + 3) hC d1 (v := 1) rfl ?_
    refine a_goto (pc := pc + 4) (tgt := pc + 8) hC d2 (by omega) ?_
    rw [show zI x = 1 by unfold zI; rw [if_neg e]] at kk
    exact kk
theorem l_chk (hC : aOK f (lX z dM v vd) cL_law 9 RL) {q : aS} {th r : Int32} (he : th = r) (hL6 : L[6]? = some (some (.int r))) (d0 : decode cL_law pc = .ok (.iload 6, 2)) (d1 : decode cL_law (pc + 2) = .ok (.if_icmp .eq 5, 3)) (kt : AW f (lX z dM v vd) (pc + 7) L st q k n) : AW f (lX z dM v vd) pc L (.int th :: st) q k n := by
  refine a_iload (pc := pc) hC d0 hL6 ?_
  exact a_icmp_eq (pc := pc + 2) (tgt := pc + 7) hC d1 (by omega) (fun _ => kt) (fun h => (h he).elim)
theorem lcmp_self (x : Int64) : lg_cmp x x = 0 := by
  unfold lg_cmp
  simp
theorem l_fin (hO : lawOK f z sa N xs) {r b : Int32} {off : Int} (hL3 : L[3]? = some (some (.ref z.2.2.2.2.2.1))) (hL6 : L[6]? = some (some (.int r))) (hL7 : L[7]? = some (some (.int b))) (hp : r = 0 → v 0 = b.toInt64)
    (d0 : decode cL_law pc = .ok (.iload 6, 2)) (d1 : decode cL_law (pc + 2) = .ok (.ifCond .ne 15, 3)) (d2 : decode cL_law (pc + 5) = .ok (.aload_n 3, 1)) (d3 : decode cL_law (pc + 6) = .ok (.iconst 0, 1)) (d4 : decode cL_law (pc + 7) = .ok (.laload, 1)) (d5 : decode cL_law (pc + 8) = .ok (.iload 7, 2)) (d6 : decode cL_law (pc + 10) = .ok (.i2l, 1)) (d7 : decode cL_law (pc + 11) = .ok (.lcmp, 1)) (d8 : decode cL_law (pc + 12) = .ok (.ifCond .eq 5, 3)) (d9 : decode cL_law (pc + 17) = .ok (.goto off, 3)) (ho : ((pc + 17 : Nat) : Int) + off = (2663 : Nat))
    (kk : AW f (lX z dM v vd) 2663 L [] (dX, t) k n) : AW f (lX z dM v vd) pc L [] (dX, t) k n := by
  have hC := hO.C dM v vd
  have hg : AW f (lX z dM v vd) (pc + 17) L [] (dX, t) k n := a_goto (pc := pc + 17) (tgt := 2663) hC d9 ho kk
  refine a_iload (pc := pc) hC d0 hL6 ?_
  refine a_if_ne (pc := pc + 2) (tgt := pc + 17) hC d1 (by omega) (fun _ => hg) (fun e => ?_)
  refine a_aload_n (pc := pc + 5) hC d2 hL3 ?_
  refine a_iconst (pc := pc + 6) hC d3 (v := 0) rfl ?_
  refine a_laldO (pc := pc + 7) hO.1 hC d4 ?_
  refine a_iload (pc := pc + 8) hC d5 hL7 ?_
  refine a_i2l (pc := pc + 10) hC d6 ?_
  refine a_lcmp (pc := pc + 11) hC d7 ?_
  refine a_if_eq (pc := pc + 12) (tgt := pc + 17) hC d8 (by omega) (fun _ => hg) (fun h => ?_)
  rw [hp e, lcmp_self] at h
  exact (h rfl).elim
theorem l_finb (hO : lawOK f z sa N xs) {r b : Int32} {off : Int} (hL3 : L[3]? = some (some (.ref z.2.2.2.2.2.1))) (hL6 : L[6]? = some (some (.int r))) (hL7 : L[7]? = some (some (.int b))) (hp : r = 0 → v 0 = bL b)
    (d0 : decode cL_law pc = .ok (.iload 6, 2)) (d1 : decode cL_law (pc + 2) = .ok (.ifCond .ne 22, 3)) (d2 : decode cL_law (pc + 5) = .ok (.aload_n 3, 1)) (d3 : decode cL_law (pc + 6) = .ok (.iconst 0, 1)) (d4 : decode cL_law (pc + 7) = .ok (.laload, 1)) (d5 : decode cL_law (pc + 8) = .ok (.iload 7, 2)) (e0 : decode cL_law (pc + 10) = .ok (.ifCond .eq 7, 3)) (e1 : decode cL_law (pc + 13) = .ok (.lconst 1, 1)) (e2 : decode cL_law (pc + 14) = .ok (.goto 4, 3)) (e3 : decode cL_law (pc + 17) = .ok (.lconst 0, 1)) (d7 : decode cL_law (pc + 18) = .ok (.lcmp, 1)) (d8 : decode cL_law (pc + 19) = .ok (.ifCond .eq 5, 3)) (d9 : decode cL_law (pc + 24) = .ok (.goto off, 3)) (ho : ((pc + 24 : Nat) : Int) + off = (2663 : Nat))
    (kk : AW f (lX z dM v vd) 2663 L [] (dX, t) k n) : AW f (lX z dM v vd) pc L [] (dX, t) k n := by
  have hC := hO.C dM v vd
  have hg : AW f (lX z dM v vd) (pc + 24) L [] (dX, t) k n := a_goto (pc := pc + 24) (tgt := 2663) hC d9 ho kk
  have hg2 : r = 0 → AW f (lX z dM v vd) (pc + 18) L [.long (bL b), .long (v 0)] (dX, t) k n := fun e => by
    refine a_lcmp (pc := pc + 18) hC d7 ?_
    refine a_if_eq (pc := pc + 19) (tgt := pc + 24) hC d8 (by omega) (fun _ => hg) (fun h => ?_)
    rw [hp e, lcmp_self] at h
    exact (h rfl).elim
  refine a_iload (pc := pc) hC d0 hL6 ?_
  refine a_if_ne (pc := pc + 2) (tgt := pc + 24) hC d1 (by omega) (fun _ => hg) (fun e => ?_)
  refine a_aload_n (pc := pc + 5) hC d2 hL3 ?_
  refine a_iconst (pc := pc + 6) hC d3 (v := 0) rfl ?_
  refine a_laldO (pc := pc + 7) hO.1 hC d4 ?_
  refine a_iload (pc := pc + 8) hC d5 hL7 ?_
  replace hg2 := hg2 e
  refine a_if_eq (pc := pc + 10) (tgt := pc + 17) hC e0 (by omega) (fun h => ?_) (fun h => ?_)
  · refine a_lconst (pc := pc + 17) hC e3 (w := 0) rfl ?_
    rw [bL0 h] at hg2
    exact hg2
  · refine a_lconst (pc := pc + 13) hC e1 (w := 1) rfl ?_
    refine a_goto (pc := pc + 14) (tgt := pc + 18) hC e2 (by omega) ?_
    rw [bL1 h] at hg2
    exact hg2
theorem dcmp_ok {x : UInt64} (h : vf_n64 x) : Op.cmpValue (FP.dcmp x x) .l = 0 := by
  have h1 : FP.Core.dIsNaN x = false := by
    rw [← Bool.not_eq_true, FP.Core.isNaN_bits]
    intro h2
    have h3 : (x &&& 0x7fffffffffffffff).toNat ≤ (0x7ff0000000000000 : UInt64).toNat := UInt64.le_iff_toNat_le.mp h
    rw [UInt64.toNat_and, show (0x7fffffffffffffff : UInt64).toNat = 2 ^ 63 - 1 from rfl, Nat.and_two_pow_sub_one_eq_mod, show (0x7ff0000000000000 : UInt64).toNat = 9218868437227405312 from rfl] at h3
    omega
  rw [show FP.dcmp x x = some .eq from FP.Core.dcmp_refl h1]
  rfl
theorem l_finf (hO : lawOK f z sa N xs) {r : Int32} {b : UInt32} {off : Int} (hL4 : L[4]? = some (some (.ref z.2.2.2.2.2.2.1))) (hL6 : L[6]? = some (some (.int r))) (hL7 : L[7]? = some (some (.float b))) (hp : r = 0 → vd 0 = FP.f2d b) (hn : r = 0 → vf_n64 (FP.f2d b))
    (d0 : decode cL_law pc = .ok (.iload 6, 2)) (d1 : decode cL_law (pc + 2) = .ok (.ifCond .ne 36, 3)) (d2 : decode cL_law (pc + 5) = .ok (.aload 4, 2)) (d3 : decode cL_law (pc + 7) = .ok (.iconst 0, 1)) (d4 : decode cL_law (pc + 8) = .ok (.daload, 1)) (d5 : decode cL_law (pc + 9) = .ok (.fload 7, 2)) (d6 : decode cL_law (pc + 11) = .ok (.f2d, 1)) (d7 : decode cL_law (pc + 12) = .ok (.dcmp .l, 1)) (d8 : decode cL_law (pc + 13) = .ok (.ifCond .eq 25, 3)) (d9 : decode cL_law (pc + 38) = .ok (.goto off, 3)) (ho : ((pc + 38 : Nat) : Int) + off = (2663 : Nat))
    (kk : AW f (lX z dM v vd) 2663 L [] (dX, t) k n) : AW f (lX z dM v vd) pc L [] (dX, t) k n := by
  have hC := hO.C dM v vd
  have hg : AW f (lX z dM v vd) (pc + 38) L [] (dX, t) k n := a_goto (pc := pc + 38) (tgt := 2663) hC d9 ho kk
  refine a_iload (pc := pc) hC d0 hL6 ?_
  refine a_if_ne (pc := pc + 2) (tgt := pc + 38) hC d1 (by omega) (fun _ => hg) (fun e => ?_)
  refine a_aload (pc := pc + 5) hC d2 hL4 ?_
  refine a_iconst (pc := pc + 7) hC d3 (v := 0) rfl ?_
  refine a_daldO (pc := pc + 8) hO.1 hC d4 ?_
  refine a_fload (pc := pc + 9) hC d5 hL7 ?_
  refine a_f2d (pc := pc + 11) hC d6 (hn e) ?_
  refine a_dcmp (pc := pc + 12) hC d7 ?_
  refine a_if_eq (pc := pc + 13) (tgt := pc + 38) hC d8 (by omega) (fun _ => hg) (fun h => ?_)
  rw [hp e, dcmp_ok (hn e)] at h
  exact (h rfl).elim
end LAWS
/-- what a call's two sides come to: the number of the exception, the answer, what holds behind -/
def lPo (wM : (Int32 → aS → Prop) → Prop) (K : aS → aS → Prop) : Int32 → lU → Prop := fun kk u => wM (fun b qm => w_X10_thrown qm (fun th qm' => th = kk ∧ (kk = 0 → u.1 0 = b.toInt64) ∧ K u.2.2 qm'))
def lPob (wM : (Int32 → aS → Prop) → Prop) (K : aS → aS → Prop) : Int32 → lU → Prop := fun kk u => wM (fun b qm => w_X10_thrown qm (fun th qm' => th = kk ∧ (kk = 0 → u.1 0 = bL b) ∧ K u.2.2 qm'))
def lPod (wM : (UInt64 → aS → Prop) → Prop) (K : aS → aS → Prop) : Int32 → lU → Prop := fun kk u => wM (fun b qm => w_X10_thrown qm (fun th qm' => th = kk ∧ (kk = 0 → u.2.1 0 = b ∧ vf_n64 b) ∧ K u.2.2 qm'))
def lPof (wM : (UInt32 → aS → Prop) → Prop) (K : aS → aS → Prop) : Int32 → lU → Prop := fun kk u => wM (fun b qm => w_X10_thrown qm (fun th qm' => th = kk ∧ (kk = 0 → u.2.1 0 = FP.f2d b ∧ vf_n64 (FP.f2d b)) ∧ K u.2.2 qm'))

/-! the law's rows: the script, doubles, calls under handlers -/
def isScr (sa sn : Nat) (xs : Nat → Int32) (g : aG) : Prop := ∀ U H, gEn g U H → va_X sa sn xs U H ∧ sa < H.size ∧ ¬ gA g sa
def sNc : List (String × String) := [("java/lang/IllegalArgumentException", "java/lang/IndexOutOfBoundsException"), ("java/util/NoSuchElementException", "java/lang/IndexOutOfBoundsException"), ("java/util/NoSuchElementException", "java/lang/IllegalArgumentException"), ("java/lang/UnsupportedOperationException", "java/lang/IllegalArgumentException")]
def isNc (g : aG) : Prop := ∀ U H, gEn g U H → ∀ p ∈ sNc, va_Nc p.1 p.2 U
def hWs (y : MethodName) (cc : ByteArray) (maxL : Nat) (hh : List (Nat × Nat × Nat × Nat)) : List Cond := Cond.codeWith y cc maxL (some .int) hh :: TW
/-- a method with handlers, that throws nothing -/
def aMh (l : Launch) (g : aG) (y : MethodName) (ws : List Cond) (n mc ms : Nat) (As : List Value) (q : aS) (P : Int32 → aS → Prop) : Prop :=
  Met l y ws (aR n mc ms) (va_Pc As (aWd g q)) (va_Qi P (aWp g) (gA g)) mc ms (gA g)
def hEQ (f : aF) (g : aG) (P : Int32 → aS → Prop) (mc ms : Nat) (hh : List (Nat × Nat × Nat × Nat)) : Prop :=
  f_Q f = MQ (f_b f) (va_Qi P (aWp g) (gA g)) (f_a f) (f_s f) mc ms (gA g) ∧ (f_me f).sig.returnType = some .int ∧ (f_c f).exceptionTable.toList = tableOf hh
def lCatch (f : aF) (own : String) (pc : Nat) (E : String) (h : Nat) : Prop :=
  ∃ (pre : List ExceptionTableEntry) (x : ExceptionTableEntry) (suf : List ExceptionTableEntry) (name : String), (f_c f).exceptionTable.toList = pre ++ x :: suf ∧
    (∀ w ∈ pre, covers w pc = false ∨ (w.catchType ≠ 0 ∧ ∃ nm : String, (Cond.classLink own w.catchType nm).before (f_a f) (f_s f) = true ∧ va_Nc E nm (f_s f))) ∧
    covers x pc = true ∧ x.catchType ≠ 0 ∧ (Cond.classLink own x.catchType name).before (f_a f) (f_s f) = true ∧ (Cond.castable E name).before (f_a f) (f_s f) = true ∧ x.handlerPc = h
/-- a method with handlers, by the tables -/
def lSm (y : MethodName) (bytes : ByteArray) (maxL : Nat) (hh : List (Nat × Nat × Nat × Nat)) (n : Nat) : Prop :=
  Cond.codeWith y bytes maxL (some .int) hh ∈ lw_tbl ∧ Cond.static y ∈ lw_tbl ∧ Cond.initialized y.cls ∈ lw_tbl ∧ (y.cls ≠ "java/lang/invoke/MethodHandle" ∧ y.cls ≠ "java/lang/invoke/VarHandle" ∧ (parseMethodDescriptor y.desc).map (fun d => d.parameters.length) = some n)
section LAWC
variable {f : aF} {g : aG} {cc : ByteArray} {nL : Nat} {own : String} {pc : Nat} {L : List (Option Value)} {st : List Value} {q : aS} {k n : Nat}
theorem a_sld {sa sn : Nat} {xs : Nat → Int32} (hS : isScr sa sn xs g) (hC : aOK f g cc nL own) {i : Int32} (hin : vp_in i sn) (dg : decode cc pc = .ok (.iaload, 1)) (kk : AW f g (pc + 1) L (.int (xs i.toNatClampNeg) :: st) q k n) : AW f g pc L (.int i :: .ref sa :: st) q k n := fun ls H locs ex hl hI hS1 =>
  va_sld hC.x hC.b (hS _ _ hC.en).1 (hS _ _ hC.en).2.1 (hS _ _ hC.en).2.2 hS1 hin dg (kk ls H locs ex hl hI hS1)
theorem a_slen {sa sn : Nat} {xs : Nat → Int32} (hS : isScr sa sn xs g) (hC : aOK f g cc nL own) (dg : decode cc pc = .ok (.arraylength, 1)) (kk : AW f g (pc + 1) L (.int (Int32.ofNat sn) :: st) q k n) : AW f g pc L (.ref sa :: st) q k n := fun ls H locs ex hl hI hS1 =>
  va_slen hC.x hC.b (hS _ _ hC.en).1 (hS _ _ hC.en).2.1 (hS _ _ hC.en).2.2 hS1 dg (kk ls H locs ex hl hI hS1)
theorem a_dcmp (hC : aOK f g cc nL own) {x y : UInt64} {op : CmpOp} (dg : decode cc pc = .ok (.dcmp op, 1)) (kk : AW f g (pc + 1) L (.int (Op.cmpValue (FP.dcmp x y) op) :: st) q k n) : AW f g pc L (.double y :: .double x :: st) q k n := fun ls H locs ex hl hI hS => lv_dcmp hC.x hC.b dg (kk ls H locs ex hl hI hS)
theorem a_fcmp (hC : aOK f g cc nL own) {x y : UInt32} {op : CmpOp} (dg : decode cc pc = .ok (.fcmp op, 1)) (kk : AW f g (pc + 1) L (.int (Op.cmpValue (FP.fcmp x y) op) :: st) q k n) : AW f g pc L (.float y :: .float x :: st) q k n := fun ls H locs ex hl hI hS => lv_fcmp hC.x hC.b dg (kk ls H locs ex hl hI hS)
theorem a_callVd {y : MethodName} {C : String} {bytes : ByteArray} {maxL n' mc ms N mcR msR index ci p Nf m : Nat} {As : List Value} {T : u_T} {F : (Nat → Int32) → List Value} {P : UInt64 → aS → Prop}
    (hC : aOK f g cc nL own) (hR : f_R f = aR N mcR msR) (hm : aVm y C bytes maxL (some .double) m) (hw : Cond.methodLink own index y ∈ lw_tbl) (hc : aCl ci C T Nf) (hp : aOb g p ci F) (hfit : aFit maxL n' mc ms k n N mcR msR) {rest : List Value} (dg : decode cc pc = .ok (.invokevirtual index, 3))
    (hM : aMd (f_l f) g y (aWs y bytes maxL (some .double)) n' mc ms (.ref (gAd g p) :: As) q P (fun _ _ => False)) (hst : st = As.reverse ++ .ref (gAd g p) :: rest) (hn : As.length = m) (hL : L.length = nL) (hrest : (rest.map fun v => v.category).sum ≤ 8) (kk : ∀ (r : UInt64) (q' : aS), P r q' → AW f g (pc + 3) L (.double r :: rest) q' (k + mc) (n + ms)) : AW f g pc L st q k n := by
  intro ls H locs ex hl hI hS
  subst hst
  have hf := hfit.loc
  rw [← hR] at hf
  have hrun := vx_runV (rest := rest) (g := F0 (f_m f) pc ls (As.reverse ++ .ref (gAd g p) :: rest)) (locs := locs) (meth := f_me f) (below := f_b f) (e := f_e f) (cells := k) (slots := n) (S := (⟨hC.x, hC.b, hC.ml, hC.o, hC.ts⟩ : CallFix (f_p f) (f_m f) (f_c f) cc nL (f_s f) (f_a f) TW own)) hM (cwV m hC.ts (good_V hm hw) rfl rfl rfl hm.2.2.2.2 hf) (a_preV hC hI hS hc hp As) rfl hn (hl.1.trans hL) rfl (lv_room hrest) dg (by rw [hR]; exact ⟨hfit.2.2.1, hfit.2.2.2⟩)
  refine vx_calld hrun hS (fun _ _ h => h) (fun _ h => h) (fun _ _ h => h) (fun E ce q9 u t H1 locs1 ht hvm _ hB => hB.1.elim) (fun r u t H1 locs1 ht hvm hp1 hB hz hk1 hS1 => ?_)
  obtain ⟨ex', hI'⟩ := hB
  rw [ht] at hI'
  exact kk r u hp1 ls H1 locs1 ex' hl hI' hS1
theorem a_callVf {y : MethodName} {C : String} {bytes : ByteArray} {maxL n' mc ms N mcR msR index ci p Nf m : Nat} {As : List Value} {T : u_T} {F : (Nat → Int32) → List Value} {P : UInt32 → aS → Prop}
    (hC : aOK f g cc nL own) (hR : f_R f = aR N mcR msR) (hm : aVm y C bytes maxL (some .float) m) (hw : Cond.methodLink own index y ∈ lw_tbl) (hc : aCl ci C T Nf) (hp : aOb g p ci F) (hfit : aFit maxL n' mc ms k n N mcR msR) {rest : List Value} (dg : decode cc pc = .ok (.invokevirtual index, 3))
    (hM : aMf (f_l f) g y (aWs y bytes maxL (some .float)) n' mc ms (.ref (gAd g p) :: As) q P (fun _ _ => False)) (hst : st = As.reverse ++ .ref (gAd g p) :: rest) (hn : As.length = m) (hL : L.length = nL) (hrest : (rest.map fun v => v.category).sum ≤ 8) (kk : ∀ (r : UInt32) (q' : aS), P r q' → AW f g (pc + 3) L (.float r :: rest) q' (k + mc) (n + ms)) : AW f g pc L st q k n := by
  intro ls H locs ex hl hI hS
  subst hst
  have hf := hfit.loc
  rw [← hR] at hf
  have hrun := vx_runV (rest := rest) (g := F0 (f_m f) pc ls (As.reverse ++ .ref (gAd g p) :: rest)) (locs := locs) (meth := f_me f) (below := f_b f) (e := f_e f) (cells := k) (slots := n) (S := (⟨hC.x, hC.b, hC.ml, hC.o, hC.ts⟩ : CallFix (f_p f) (f_m f) (f_c f) cc nL (f_s f) (f_a f) TW own)) hM (cwV m hC.ts (good_V hm hw) rfl rfl rfl hm.2.2.2.2 hf) (a_preV hC hI hS hc hp As) rfl hn (hl.1.trans hL) rfl (lv_room hrest) dg (by rw [hR]; exact ⟨hfit.2.2.1, hfit.2.2.2⟩)
  refine vx_callf hrun hS (fun _ _ h => h) (fun _ h => h) (fun _ _ h => h) (fun E ce q9 u t H1 locs1 ht hvm _ hB => hB.1.elim) (fun r u t H1 locs1 ht hvm hp1 hB hz hk1 hS1 => ?_)
  obtain ⟨ex', hI'⟩ := hB
  rw [ht] at hI'
  exact kk r u hp1 ls H1 locs1 ex' hl hI' hS1
theorem aMh_of {l : Launch} {y : MethodName} {maxL mc ms : Nat} {hh : List (Nat × Nat × Nat × Nat)} {As : List Value} {P : Int32 → aS → Prop} (own : String) (hy : plainName y.cls = true ∧ y.cls = own) (hcat : ∀ w ∈ As, w.category = 1) (hlen : As.length ≤ maxL) (hl : l.stackTraces = false) (hcl : gCl g)
    (body : ∀ f : aF, f_R f = aR n mc ms → aOK f g cc maxL own → hEQ f g P mc ms hh → AW f g 0 (As.map some ++ List.replicate (maxL - As.length) none) [] q 0 0) : aMh l g y (hWs y cc maxL hh) n mc ms As q P := by
  refine va_MetW (cc := cc) (maxL := maxL) (ret := some .int) (hh := hh) hy.1 rfl ?_
  intro p e s m args below meth c s₁ B hml hv
  obtain ⟨rfl, ⟨ex, hI⟩, hK, hA, hEn⟩ := hv
  have hts := atoms_spec (ws := hWs y cc maxL hh) B.pre
  have hown : s.vm.findClass own = some m.cls := by rw [← hy.2]; exact findClass_of_methodNamed B.named
  have ht := vx_table (x := y) B (hts _ List.mem_cons_self)
  have h := body (p, l, e, (headSpec (hWs y cc maxL hh) (aR n mc ms)).room, s, m, As.toArray, below, meth, c, MQ below (va_Qi P (aWp g) (gA g)) As.toArray s mc ms (gA g)) rfl
    ⟨B.exec, B.bytes, hml, hown, fun w hw => hts w (List.mem_cons_of_mem _ hw), hK, B.notSynchronized, hEn, hA, hl, hcl⟩ ⟨rfl, B.returns, ht⟩
  rw [lg_entry_eq]
  exact h _ _ [] ex (lw_entry As hcat hlen) hI va_S.rf
theorem h_iret (hC : aOK f g cc nL own) {P : Int32 → aS → Prop} {mc ms : Nat} {hh : List (Nat × Nat × Nat × Nat)} (hE : hEQ f g P mc ms hh) {r : Int32} (hp : P r q) (h1 : k ≤ mc) (h2 : n ≤ ms) (dg : decode cc pc = .ok (.ireturn, 1)) : AW f g pc L [.int r] q k n := by
  intro ls H locs ex hl hI hS
  rw [hE.1]
  exact W.widen h1 h2 (W.zret hC.x hC.b hE.2.1 rfl (fun t ht hW => ⟨⟨r, q, rfl, hp, ⟨ex, by rw [ht]; exact hI⟩⟩, hS.F ht⟩) hS.2.2 dg hC.lk)
/-- the handler at place i of the table -/
theorem lc_i (hX : isX g) (hN : isNc g) (hC : aOK f g cc nL own) {hh : List (Nat × Nat × Nat × Nat)} {i a b h ct : Nat} {E : String} (hE : (f_c f).exceptionTable.toList = tableOf hh) (hi : hh[i]? = some (a, b, h, ct))
    (hpre : ∀ j, j < i → ∃ w, hh[j]? = some w ∧ w.2.2.2 ≠ 0 ∧ ∃ nm, Cond.classLink own w.2.2.2 nm ∈ lw_tbl ∧ (E, nm) ∈ sNc) (hc : covers (⟨a, b, h, ct⟩ : ExceptionTableEntry) pc = true) (h0 : ct ≠ 0) (hw : Cond.classLink own ct E ∈ lw_tbl) (hx : E ∈ sExc) : lCatch f own pc E h := by
  have hl : (tableOf hh)[i]? = some ⟨a, b, h, ct⟩ := by
    unfold tableOf
    rw [List.getElem?_map, hi]
    rfl
  obtain ⟨hlt, he⟩ := List.getElem?_eq_some_iff.mp hl
  refine ⟨(tableOf hh).take i, ⟨a, b, h, ct⟩, (tableOf hh).drop (i + 1), E, ?_, fun w hw9 => ?_, hc, h0, hC.w hw rfl, (((hX.en hC.en).2.1).2.2.1 E hx).1.use rfl, rfl⟩
  · rw [hE, ← he, ← List.drop_eq_getElem_cons hlt, List.take_append_drop]
  · obtain ⟨j, hj⟩ := List.getElem?_of_mem hw9
    rw [List.getElem?_take] at hj
    by_cases c : j < i
    · rw [if_pos c] at hj
      obtain ⟨w2, g1, g2, nm, g3, g4⟩ := hpre j c
      have e2 : (tableOf hh)[j]? = some ⟨w2.1, w2.2.1, w2.2.2.1, w2.2.2.2⟩ := by
        unfold tableOf
        rw [List.getElem?_map, g1]
        rfl
      cases Option.some.inj (hj.symm.trans e2)
      exact Or.inr ⟨g2, nm, hC.w g3 rfl, hN _ _ hC.en _ g4⟩
    · rw [if_neg c] at hj
      cases hj
/-- where an exception is caught -/
theorem l_caught (hC : aOK f g cc nL own) {E : String} {h : Nat} (hc : lCatch f own pc E h) {ls : Array Slot} {rest : List Value} {H1 : Heap} {locs1 : List Loc} {ce : Cell} {q9 : Addr} (hce : H1[q9]? = some ce) (hv : ce.vm = .none) (hcl : (f_s f).vm.findClass E = some ce.cls)
    (kk : W (f_p f) (f_l f) (f_e f) (f_R f) (f_s f) (f_m f) (f_a f) (f_b f) (f_me f) (f_c f) H1 locs1 k n (f_Q f) (F0 (f_m f) h ls [.ref q9])) : vx_W (f_p f) (f_l f) (f_e f) (f_R f) (f_s f) (f_m f) (f_a f) (f_b f) (f_me f) (f_c f) H1 locs1 k n (f_Q f) (F0 (f_m f) pc ls rest) q9 := by
  obtain ⟨pre, x, suf, name, h1, h2, h3, h4, h5, h6, rfl⟩ := hc
  exact vx_catch hC.o pre x suf h1 h2 h3 h4 h5 h6 hce hv hcl kk
theorem h_callSx {y : MethodName} {bytes : ByteArray} {maxL n' mc ms N mcR msR index m : Nat} {ty : FieldType} {As : List Value} {P : Int32 → aS → Prop} {X : String → aS → Prop}
    (hC : aOK f g cc nL own) (hR : f_R f = aR N mcR msR) (hm : aSm y bytes maxL (some ty) m) (hw : Cond.methodLink own index y ∈ lw_tbl) (hfit : aFit maxL n' mc ms k n N mcR msR) {rest : List Value} (dg : decode cc pc = .ok (.invokestatic index, 3))
    (hM : aMi (f_l f) g y (aWs y bytes maxL (some ty)) n' mc ms As q P X) (hst : st = As.reverse ++ rest) (hn : As.length = m) (hL : L.length = nL) (hrest : (rest.map fun v => v.category).sum ≤ 8)
    (kx : ∀ (E : String) (u : aS), X E u → ∃ h, lCatch f own pc E h ∧ ∀ a : Nat, AW f g h L [.ref a] u (k + mc) (n + ms))
    (kk : ∀ (r : Int32) (q' : aS), P r q' → AW f g (pc + 3) L (.int r :: rest) q' (k + mc) (n + ms)) : AW f g pc L st q k n := by
  intro ls H locs ex hl hI hS
  subst hst
  have hf := hfit.loc
  rw [← hR] at hf
  have hrun := vx_runS (rest := rest) (g := F0 (f_m f) pc ls (As.reverse ++ rest)) (locs := locs) (meth := f_me f) (below := f_b f) (e := f_e f) (cells := k) (slots := n) (S := (⟨hC.x, hC.b, hC.ml, hC.o, hC.ts⟩ : CallFix (f_p f) (f_m f) (f_c f) cc nL (f_s f) (f_a f) TW own)) hM (va_cwS m hC.ts (good_S hm hw) rfl rfl rfl hm.2.2.2 hf) (a_preS hC hI hS As) rfl hn (hl.1.trans hL) rfl (lv_room hrest) dg (by rw [hR]; exact ⟨hfit.2.2.1, hfit.2.2.2⟩)
  refine vx_calli hrun hS (fun _ _ h => h) (fun _ h => h) (fun _ _ h => h) (fun E ce q9 u t H1 locs1 ht hvm _ hB _ _ hS1 hce hv hcl => ?_) (fun r u t H1 locs1 ht hvm hp1 hB hz hk1 hS1 => ?_)
  · obtain ⟨hx, ex1, hI1⟩ := hB
    rw [ht] at hI1
    obtain ⟨h, hcat, hk⟩ := kx E u hx
    exact l_caught hC hcat hce hv hcl (hk q9 ls H1 locs1 ex1 hl hI1 hS1)
  · obtain ⟨ex', hI'⟩ := hB
    rw [ht] at hI'
    exact kk r u hp1 ls H1 locs1 ex' hl hI' hS1
/-- a call of a method with handlers -/
theorem a_callSh {y : MethodName} {bytes : ByteArray} {maxL n' mc ms N mcR msR index m : Nat} {hh : List (Nat × Nat × Nat × Nat)} {As : List Value} {P : Int32 → aS → Prop}
    (hC : aOK f g cc nL own) (hR : f_R f = aR N mcR msR) (hm : lSm y bytes maxL hh m) (hw : Cond.methodLink own index y ∈ lw_tbl) (hfit : aFit maxL n' mc ms k n N mcR msR) {rest : List Value} (dg : decode cc pc = .ok (.invokestatic index, 3))
    (hM : aMh (f_l f) g y (hWs y bytes maxL hh) n' mc ms As q P) (hst : st = As.reverse ++ rest) (hn : As.length = m) (hL : L.length = nL) (hrest : (rest.map fun v => v.category).sum ≤ 8)
    (kk : ∀ (r : Int32) (q' : aS), P r q' → AW f g (pc + 3) L (.int r :: rest) q' (k + mc) (n + ms)) : AW f g pc L st q k n := by
  intro ls H locs ex hl hI hS
  subst hst
  have hf := hfit.loc
  rw [← hR] at hf
  have hgood : GoodIn TW (va_wsS own index y (hWs y bytes maxL hh)) := by
    intro w h
    refine good_TW ?_
    rcases List.mem_append.mp h with h | h
    · simp only [List.mem_cons, List.not_mem_nil, or_false] at h
      rcases h with rfl | rfl | rfl
      · exact tk_w hw rfl
      · exact tk_w hm.2.1 rfl
      · exact tk_w hm.2.2.1 rfl
    · rcases List.mem_cons.mp h with rfl | h
      · exact tk_w hm.1 rfl
      · exact h
  have hrun := vx_runSW (rest := rest) (g := F0 (f_m f) pc ls (As.reverse ++ rest)) (locs := locs) (meth := f_me f) (below := f_b f) (e := f_e f) (cells := k) (slots := n) (S := (⟨hC.x, hC.b, hC.ml, hC.o, hC.ts⟩ : CallFix (f_p f) (f_m f) (f_c f) cc nL (f_s f) (f_a f) TW own)) hM (vx_cwSW m hC.ts hgood rfl rfl rfl hm.2.2.2 hf) (a_preS hC hI hS As) rfl hn (hl.1.trans hL) rfl (lv_room hrest) dg (by rw [hR]; exact ⟨hfit.2.2.1, hfit.2.2.2⟩)
  refine va_calli hrun hS (fun _ _ h => h) (fun _ h => h) (fun r u t H1 locs1 ht hvm hp1 hB hz hk1 hS1 => ?_)
  obtain ⟨ex', hI'⟩ := hB
  rw [ht] at hI'
  exact kk r u hp1 ls H1 locs1 ex' hl hI' hS1
end LAWC

/-! the law's helpers: a call under handlers, its answer in the row -/
abbrev lU : Type := (Nat → Int64) × (Nat → UInt64) × aS
def lWp (z : lP) (dM : Nat → Nat → Int32) (u : lU) (U : State) : Prop := aWp (lX z dM u.1 u.2.1) u.2.2 U
def lWs (y : MethodName) (cc : ByteArray) (maxL : Nat) (hh : List (Nat × Nat × Nat × Nat)) : List Cond := Cond.codeWith y cc maxL (some .int) hh :: TW
def lMet (l : Launch) (z : lP) (dM : Nat → Nat → Int32) (y : MethodName) (ws : List Cond) (n mc ms : Nat) (As : List Value) (u : lU) (P : Int32 → lU → Prop) : Prop :=
  Met l y ws (aR n mc ms) (va_Pc As (aWd (lX z dM u.1 u.2.1) u.2.2)) (va_Qi P (lWp z dM) (lA z)) mc ms (lA z)
def lEQ (f : aF) (z : lP) (dM : Nat → Nat → Int32) (P : Int32 → lU → Prop) (mc ms : Nat) (hh : List (Nat × Nat × Nat × Nat)) : Prop :=
  f_Q f = MQ (f_b f) (va_Qi P (lWp z dM) (lA z)) (f_a f) (f_s f) mc ms (lA z) ∧ (f_me f).sig.returnType = some .int ∧ (f_c f).exceptionTable.toList = tableOf hh
def lCatch (f : aF) (own : String) (pc : Nat) (E : String) (h : Nat) : Prop :=
  ∃ (pre : List ExceptionTableEntry) (x : ExceptionTableEntry) (suf : List ExceptionTableEntry) (name : String), (f_c f).exceptionTable.toList = pre ++ x :: suf ∧
    (∀ w ∈ pre, covers w pc = false ∨ (w.catchType ≠ 0 ∧ ∃ nm : String, (Cond.classLink own w.catchType nm).before (f_a f) (f_s f) = true ∧ va_Nc E nm (f_s f))) ∧
    covers x pc = true ∧ x.catchType ≠ 0 ∧ (Cond.classLink own x.catchType name).before (f_a f) (f_s f) = true ∧ (Cond.castable E name).before (f_a f) (f_s f) = true ∧ x.handlerPc = h
def bL (r : Int32) : Int64 := if r = 0 then 0 else 1
theorem bL0 {r : Int32} (h : r = 0) : bL r = 0 := by unfold bL; rw [if_pos h]
theorem bL1 {r : Int32} (h : ¬ r = 0) : bL r = 1 := by unfold bL; rw [if_neg h]
theorem tab_all {x : ExceptionTableEntry} {pc ct h : Nat} (hc : [x].all (fun x => covers x pc && ((x.catchType == ct) && (x.handlerPc == h))) = true) : covers x pc = true ∧ x.catchType = ct ∧ x.handlerPc = h := by
  have h1 := List.all_eq_true.mp hc x List.mem_cons_self
  have h2 := (Bool.and_eq_true _ _).mp h1
  have h3 := (Bool.and_eq_true _ _).mp h2.2
  exact ⟨h2.1, beq_iff_eq.mp h3.1, beq_iff_eq.mp h3.2⟩
section CATCH
variable {f : aF} {z : lP} {cc : ByteArray} {nL : Nat} {own : String} {pc : Nat} {L : List (Option Value)} {st : List Value} {dM : Nat → Nat → Int32} {v : Nat → Int64} {vd : Nat → UInt64} {q : aS} {k n : Nat}
theorem lMet_of {l : Launch} {y : MethodName} {maxL mc ms : Nat} {hh : List (Nat × Nat × Nat × Nat)} {As : List Value} {P : Int32 → lU → Prop} (own : String) (hy : plainName y.cls = true ∧ y.cls = own) (hcat : ∀ w ∈ As, w.category = 1) (hlen : As.length ≤ maxL) (hl : l.stackTraces = false)
    (body : ∀ f : aF, f_R f = aR n mc ms → aOK f (lX z dM v vd) cc maxL own → lEQ f z dM P mc ms hh → AW f (lX z dM v vd) 0 (As.map some ++ List.replicate (maxL - As.length) none) [] q 0 0) : lMet l z dM y (lWs y cc maxL hh) n mc ms As (v, vd, q) P := by
  refine va_MetW (cc := cc) (maxL := maxL) (ret := some .int) (hh := hh) hy.1 rfl ?_
  intro p e s m args below meth c s₁ B hml hv
  obtain ⟨rfl, ⟨ex, hI⟩, hK, hA, hEn⟩ := hv
  have hts := atoms_spec (ws := lWs y cc maxL hh) B.pre
  have hown : s.vm.findClass own = some m.cls := by rw [← hy.2]; exact findClass_of_methodNamed B.named
  have ht := vx_table (x := y) B (hts _ List.mem_cons_self)
  have h := body (p, l, e, (headSpec (lWs y cc maxL hh) (aR n mc ms)).room, s, m, As.toArray, below, meth, c, MQ below (va_Qi P (lWp z dM) (lA z)) As.toArray s mc ms (lA z)) rfl
    ⟨B.exec, B.bytes, hml, hown, fun w hw => hts w (List.mem_cons_of_mem _ hw), hK, B.notSynchronized, hEn, hA, hl, lEn_cl (z := z) rfl rfl⟩ ⟨rfl, B.returns, ht⟩
  rw [lg_entry_eq]
  exact h _ _ [] ex (lw_entry As hcat hlen) hI va_S.rf
theorem l_iret (hC : aOK f (lX z dM v vd) cc nL own) {P : Int32 → lU → Prop} {mc ms : Nat} {hh : List (Nat × Nat × Nat × Nat)} (hE : lEQ f z dM P mc ms hh) {r : Int32} (hp : P r (v, vd, q)) (h1 : k ≤ mc) (h2 : n ≤ ms) (dg : decode cc pc = .ok (.ireturn, 1)) : AW f (lX z dM v vd) pc L [.int r] q k n := by
  intro ls H locs ex hl hI hS
  rw [hE.1]
  exact W.widen h1 h2 (W.zret hC.x hC.b hE.2.1 rfl (fun t ht hW => ⟨⟨r, (v, vd, q), rfl, hp, ⟨ex, by rw [ht]; exact hI⟩⟩, hS.F ht⟩) hS.2.2 dg hC.lk)
theorem lc_castable (hC : aOK f (lX z dM v vd) cc nL own) {E : String} (hE : E ∈ sExc) : (Cond.castable E E).before (f_a f) (f_s f) = true :=
  ((hC.en.1.2.1).2.2.1 E hE).1.use rfl
theorem lc_one (hC : aOK f (lX z dM v vd) cc nL own) {P : Int32 → lU → Prop} {mc ms a b h ct : Nat} (hE : lEQ f z dM P mc ms [(a, b, h, ct)]) {E : String} (hw : Cond.classLink own ct E ∈ lw_tbl) (hx : E ∈ sExc) (hc : (tableOf [(a, b, h, ct)]).all (fun x => covers x pc && ((x.catchType == ct) && (x.handlerPc == h))) = true) (h0 : ct ≠ 0) : lCatch f own pc E h := by
  have he : (f_c f).exceptionTable.toList = tableOf [(a, b, h, ct)] := hE.2.2
  obtain ⟨x, hx1⟩ : ∃ x, tableOf [(a, b, h, ct)] = [x] := ⟨_, rfl⟩
  rw [hx1] at he hc
  obtain ⟨hc1, hc2, hc3⟩ := tab_all hc
  refine ⟨[], x, [], E, he, fun w hw => (List.not_mem_nil hw).elim, hc1, by rw [hc2]; exact h0, by rw [hc2]; exact hC.w hw rfl, lc_castable hC hx, hc3⟩
theorem lc_two1 (hC : aOK f (lX z dM v vd) cc nL own) {P : Int32 → lU → Prop} {mc ms a b h ct a' b' h' ct' : Nat} (hE : lEQ f z dM P mc ms [(a, b, h, ct), (a', b', h', ct')]) {E : String} (hw : Cond.classLink own ct E ∈ lw_tbl) (hx : E ∈ sExc) (hc : (tableOf [(a, b, h, ct)]).all (fun x => covers x pc && ((x.catchType == ct) && (x.handlerPc == h))) = true) (h0 : ct ≠ 0) : lCatch f own pc E h := by
  have he : (f_c f).exceptionTable.toList = tableOf [(a, b, h, ct), (a', b', h', ct')] := hE.2.2
  obtain ⟨x, x', hx1, hx2⟩ : ∃ x x', tableOf [(a, b, h, ct)] = [x] ∧ tableOf [(a, b, h, ct), (a', b', h', ct')] = [x, x'] := ⟨_, _, rfl, rfl⟩
  rw [hx1] at hc
  rw [hx2] at he
  obtain ⟨hc1, hc2, hc3⟩ := tab_all hc
  refine ⟨[], x, [x'], E, he, fun w hw => (List.not_mem_nil hw).elim, hc1, by rw [hc2]; exact h0, by rw [hc2]; exact hC.w hw rfl, lc_castable hC hx, hc3⟩
theorem lc_two2 (hC : aOK f (lX z dM v vd) cc nL own) {P : Int32 → lU → Prop} {mc ms a b h ct a' b' h' ct' : Nat} (hE : lEQ f z dM P mc ms [(a, b, h, ct), (a', b', h', ct')]) {E E1 : String} (hw1 : Cond.classLink own ct E1 ∈ lw_tbl) (hw : Cond.classLink own ct' E ∈ lw_tbl) (hx : E ∈ sExc) (hn : (E, E1) ∈ sNc)
    (hc1 : (tableOf [(a, b, h, ct)]).all (fun x => x.catchType == ct) = true) (hc : (tableOf [(a', b', h', ct')]).all (fun x => covers x pc && ((x.catchType == ct') && (x.handlerPc == h'))) = true) (h0 : ct ≠ 0) (h0' : ct' ≠ 0) : lCatch f own pc E h' := by
  have he : (f_c f).exceptionTable.toList = tableOf [(a, b, h, ct), (a', b', h', ct')] := hE.2.2
  obtain ⟨x, x', hx1, hx1', hx2⟩ : ∃ x x', tableOf [(a, b, h, ct)] = [x] ∧ tableOf [(a', b', h', ct')] = [x'] ∧ tableOf [(a, b, h, ct), (a', b', h', ct')] = [x, x'] := ⟨_, _, rfl, rfl, rfl⟩
  rw [hx1'] at hc
  rw [hx1] at hc1
  rw [hx2] at he
  obtain ⟨hc1', hc2, hc3⟩ := tab_all hc
  have hc1 : x.catchType = ct := by simpa using hc1
  refine ⟨[x], x', [], E, he, fun w hw => ?_, hc1', by rw [hc2]; exact h0', by rw [hc2]; exact hC.w hw rfl, lc_castable hC hx, hc3⟩
  rw [List.mem_singleton.mp hw]
  exact Or.inr ⟨by rw [hc1]; exact h0, E1, by rw [hc1]; exact hC.w hw1 rfl, hC.en.2.2.1 (E, E1) hn⟩
/-- where an exception is caught -/
theorem l_caught {g : aG} (hC : aOK f g cc nL own) {E : String} {h : Nat} (hc : lCatch f own pc E h) {ls : Array Slot} {rest : List Value} {H1 : Heap} {locs1 : List Loc} {ce : Cell} {q9 : Addr} (hce : H1[q9]? = some ce) (hv : ce.vm = .none) (hcl : (f_s f).vm.findClass E = some ce.cls)
    (kk : W (f_p f) (f_l f) (f_e f) (f_R f) (f_s f) (f_m f) (f_a f) (f_b f) (f_me f) (f_c f) H1 locs1 k n (f_Q f) (F0 (f_m f) h ls [.ref q9])) : vx_W (f_p f) (f_l f) (f_e f) (f_R f) (f_s f) (f_m f) (f_a f) (f_b f) (f_me f) (f_c f) H1 locs1 k n (f_Q f) (F0 (f_m f) pc ls rest) q9 := by
  obtain ⟨pre, x, suf, name, h1, h2, h3, h4, h5, h6, rfl⟩ := hc
  exact vx_catch hC.o pre x suf h1 h2 h3 h4 h5 h6 hce hv hcl kk
theorem l_callx {g : aG} {y : MethodName} {C : String} {bytes : ByteArray} {maxL n' mc ms N mcR msR index ci p Nf m : Nat} {ty : FieldType} {As : List Value} {T : u_T} {F : (Nat → Int32) → List Value} {P : Int32 → aS → Prop} {X : String → aS → Prop}
    (hC : aOK f g cc nL own) (hR : f_R f = aR N mcR msR) (hm : aVm y C bytes maxL (some ty) m) (hw : Cond.methodLink own index y ∈ lw_tbl) (hc : aCl ci C T Nf) (hp : aOb g p ci F) (hfit : aFit maxL n' mc ms k n N mcR msR) {rest : List Value} (dg : decode cc pc = .ok (.invokevirtual index, 3))
    (hM : aMi (f_l f) g y (aWs y bytes maxL (some ty)) n' mc ms (.ref (gAd g p) :: As) q P X) (hst : st = As.reverse ++ .ref (gAd g p) :: rest) (hn : As.length = m) (hL : L.length = nL) (hrest : (rest.map fun v => v.category).sum ≤ 8)
    (kx : ∀ (E : String) (u : aS), X E u → ∃ h, lCatch f own pc E h ∧ ∀ a : Nat, AW f g h L [.ref a] u (k + mc) (n + ms))
    (kk : ∀ (r : Int32) (q' : aS), P r q' → AW f g (pc + 3) L (.int r :: rest) q' (k + mc) (n + ms)) : AW f g pc L st q k n := by
  intro ls H locs ex hl hI hS
  subst hst
  have hf := hfit.loc
  rw [← hR] at hf
  have hrun := vx_runV (rest := rest) (g := F0 (f_m f) pc ls (As.reverse ++ .ref (gAd g p) :: rest)) (locs := locs) (meth := f_me f) (below := f_b f) (e := f_e f) (cells := k) (slots := n) (S := (⟨hC.x, hC.b, hC.ml, hC.o, hC.ts⟩ : CallFix (f_p f) (f_m f) (f_c f) cc nL (f_s f) (f_a f) TW own)) hM (cwV m hC.ts (good_V hm hw) rfl rfl rfl hm.2.2.2.2 hf) (a_preV hC hI hS hc hp As) rfl hn (hl.1.trans hL) rfl (lv_room hrest) dg (by rw [hR]; exact ⟨hfit.2.2.1, hfit.2.2.2⟩)
  refine vx_calli hrun hS (fun _ _ h => h) (fun _ h => h) (fun _ _ h => h) (fun E ce q9 u t H1 locs1 ht hvm _ hB _ _ hS1 hce hv hcl => ?_) (fun r u t H1 locs1 ht hvm hp1 hB hz hk1 hS1 => ?_)
  · obtain ⟨hx, ex1, hI1⟩ := hB
    rw [ht] at hI1
    obtain ⟨h, hcat, hk⟩ := kx E u hx
    exact l_caught hC hcat hce hv hcl (hk q9 ls H1 locs1 ex1 hl hI1 hS1)
  · obtain ⟨ex', hI'⟩ := hB
    rw [ht] at hI'
    exact kk r u hp1 ls H1 locs1 ex' hl hI' hS1
theorem l_callxd {g : aG} {y : MethodName} {C : String} {bytes : ByteArray} {maxL n' mc ms N mcR msR index ci p Nf m : Nat} {As : List Value} {T : u_T} {F : (Nat → Int32) → List Value} {P : UInt64 → aS → Prop} {X : String → aS → Prop}
    (hC : aOK f g cc nL own) (hR : f_R f = aR N mcR msR) (hm : aVm y C bytes maxL (some .double) m) (hw : Cond.methodLink own index y ∈ lw_tbl) (hc : aCl ci C T Nf) (hp : aOb g p ci F) (hfit : aFit maxL n' mc ms k n N mcR msR) {rest : List Value} (dg : decode cc pc = .ok (.invokevirtual index, 3))
    (hM : aMd (f_l f) g y (aWs y bytes maxL (some .double)) n' mc ms (.ref (gAd g p) :: As) q P X) (hst : st = As.reverse ++ .ref (gAd g p) :: rest) (hn : As.length = m) (hL : L.length = nL) (hrest : (rest.map fun v => v.category).sum ≤ 8)
    (kx : ∀ (E : String) (u : aS), X E u → ∃ h, lCatch f own pc E h ∧ ∀ a : Nat, AW f g h L [.ref a] u (k + mc) (n + ms))
    (kk : ∀ (r : UInt64) (q' : aS), P r q' → AW f g (pc + 3) L (.double r :: rest) q' (k + mc) (n + ms)) : AW f g pc L st q k n := by
  intro ls H locs ex hl hI hS
  subst hst
  have hf := hfit.loc
  rw [← hR] at hf
  have hrun := vx_runV (rest := rest) (g := F0 (f_m f) pc ls (As.reverse ++ .ref (gAd g p) :: rest)) (locs := locs) (meth := f_me f) (below := f_b f) (e := f_e f) (cells := k) (slots := n) (S := (⟨hC.x, hC.b, hC.ml, hC.o, hC.ts⟩ : CallFix (f_p f) (f_m f) (f_c f) cc nL (f_s f) (f_a f) TW own)) hM (cwV m hC.ts (good_V hm hw) rfl rfl rfl hm.2.2.2.2 hf) (a_preV hC hI hS hc hp As) rfl hn (hl.1.trans hL) rfl (lv_room hrest) dg (by rw [hR]; exact ⟨hfit.2.2.1, hfit.2.2.2⟩)
  refine vx_calld hrun hS (fun _ _ h => h) (fun _ h => h) (fun _ _ h => h) (fun E ce q9 u t H1 locs1 ht hvm _ hB _ _ hS1 hce hv hcl => ?_) (fun r u t H1 locs1 ht hvm hp1 hB hz hk1 hS1 => ?_)
  · obtain ⟨hx, ex1, hI1⟩ := hB
    rw [ht] at hI1
    obtain ⟨h, hcat, hk⟩ := kx E u hx
    exact l_caught hC hcat hce hv hcl (hk q9 ls H1 locs1 ex1 hl hI1 hS1)
  · obtain ⟨ex', hI'⟩ := hB
    rw [ht] at hI'
    exact kk r u hp1 ls H1 locs1 ex' hl hI' hS1
theorem l_callxf {g : aG} {y : MethodName} {C : String} {bytes : ByteArray} {maxL n' mc ms N mcR msR index ci p Nf m : Nat} {As : List Value} {T : u_T} {F : (Nat → Int32) → List Value} {P : UInt32 → aS → Prop} {X : String → aS → Prop}
    (hC : aOK f g cc nL own) (hR : f_R f = aR N mcR msR) (hm : aVm y C bytes maxL (some .float) m) (hw : Cond.methodLink own index y ∈ lw_tbl) (hc : aCl ci C T Nf) (hp : aOb g p ci F) (hfit : aFit maxL n' mc ms k n N mcR msR) {rest : List Value} (dg : decode cc pc = .ok (.invokevirtual index, 3))
    (hM : aMf (f_l f) g y (aWs y bytes maxL (some .float)) n' mc ms (.ref (gAd g p) :: As) q P X) (hst : st = As.reverse ++ .ref (gAd g p) :: rest) (hn : As.length = m) (hL : L.length = nL) (hrest : (rest.map fun v => v.category).sum ≤ 8)
    (kx : ∀ (E : String) (u : aS), X E u → ∃ h, lCatch f own pc E h ∧ ∀ a : Nat, AW f g h L [.ref a] u (k + mc) (n + ms))
    (kk : ∀ (r : UInt32) (q' : aS), P r q' → AW f g (pc + 3) L (.float r :: rest) q' (k + mc) (n + ms)) : AW f g pc L st q k n := by
  intro ls H locs ex hl hI hS
  subst hst
  have hf := hfit.loc
  rw [← hR] at hf
  have hrun := vx_runV (rest := rest) (g := F0 (f_m f) pc ls (As.reverse ++ .ref (gAd g p) :: rest)) (locs := locs) (meth := f_me f) (below := f_b f) (e := f_e f) (cells := k) (slots := n) (S := (⟨hC.x, hC.b, hC.ml, hC.o, hC.ts⟩ : CallFix (f_p f) (f_m f) (f_c f) cc nL (f_s f) (f_a f) TW own)) hM (cwV m hC.ts (good_V hm hw) rfl rfl rfl hm.2.2.2.2 hf) (a_preV hC hI hS hc hp As) rfl hn (hl.1.trans hL) rfl (lv_room hrest) dg (by rw [hR]; exact ⟨hfit.2.2.1, hfit.2.2.2⟩)
  refine vx_callf hrun hS (fun _ _ h => h) (fun _ h => h) (fun _ _ h => h) (fun E ce q9 u t H1 locs1 ht hvm _ hB _ _ hS1 hce hv hcl => ?_) (fun r u t H1 locs1 ht hvm hp1 hB hz hk1 hS1 => ?_)
  · obtain ⟨hx, ex1, hI1⟩ := hB
    rw [ht] at hI1
    obtain ⟨h, hcat, hk⟩ := kx E u hx
    exact l_caught hC hcat hce hv hcl (hk q9 ls H1 locs1 ex1 hl hI1 hS1)
  · obtain ⟨ex', hI'⟩ := hB
    rw [ht] at hI'
    exact kk r u hp1 ls H1 locs1 ex' hl hI' hS1
end CATCH
/-- a helper of the law, by the tables -/
def lSm (y : MethodName) (bytes : ByteArray) (maxL : Nat) (hh : List (Nat × Nat × Nat × Nat)) (n : Nat) : Prop :=
  Cond.codeWith y bytes maxL (some .int) hh ∈ lw_tbl ∧ Cond.static y ∈ lw_tbl ∧ Cond.initialized y.cls ∈ lw_tbl ∧ (y.cls ≠ "java/lang/invoke/MethodHandle" ∧ y.cls ≠ "java/lang/invoke/VarHandle" ∧ (parseMethodDescriptor y.desc).map (fun d => d.parameters.length) = some n)

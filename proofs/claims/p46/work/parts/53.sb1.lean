/-! the StringBuilder: contracts whose world may have moved, calls upward and of the superclass -/
section SB1
variable {f : aF} {g : aG} {z : lP} {cc : ByteArray} {nL : Nat} {own : String} {pc : Nat} {L : List (Option Value)} {st : List Value} {q : aS} {dX : Nat → Nat → Int32} {t t' t0 : List Nat} {RS : va_W} {ba : Nat} {k n qv m : Nat} {d : Nat → Nat → Int32}
abbrev bU : Type := Nat × Nat × (Nat → Nat → Int32)
def bE (dX : Nat → Nat → Int32) (t : List Nat) (M : Nat) (u : bU) : Prop := isT t u.2.1 u.2.2 ∧ M ≤ u.2.1 ∧ ∀ k, k < 205 → u.2.2 k = dX k
def bW (z : lP) (RS : va_W) (ba : Nat) (u : bU) (s : State) : Prop := aWp (lB z RS ba u.1 u.2.1) (u.2.2, []) s
abbrev bQv (z : lP) (RS : va_W) (ba : Nat) (dX : Nat → Nat → Int32) (t : List Nat) (M : Nat) : Array Value → State → Outcome → State → Prop := va_Qv (bE dX t M) (bW z RS ba) (lA z)
abbrev bQq (z : lP) (RS : va_W) (ba : Nat) (dX : Nat → Nat → Int32) (t : List Nat) (M : Nat) : Array Value → State → Outcome → State → Prop := va_Qq (fun r u => r = some ba ∧ bE dX t M u) (bW z RS ba) (lA z)
def noX : String → aS → Prop := fun _ _ => False
/-- a contract in the builder's world -/
def bM (l : Launch) (z : lP) (RS : va_W) (ba : Nat) (qv m : Nat) (d : Nat → Nat → Int32) (y : MethodName) (ws : List Cond) (n mc ms : Nat) (As : List Value) (Qc : Array Value → State → Outcome → State → Prop) : Prop :=
  vx_Met l y ws (aR n mc ms) (va_Pc As (aWd (lB z RS ba qv m) (d, []))) Qc (aX (lB z RS ba qv m) noX) mc ms (lA z)
theorem bM_of {l : Launch} {y : MethodName} {maxL mc ms n : Nat} {ret : Option FieldType} {As : List Value} {Qc : Array Value → State → Outcome → State → Prop} (own : String) (hy : plainName y.cls = true ∧ y.cls = own) (hcat : ∀ v ∈ As, v.category = 1) (hlen : As.length ≤ maxL) (hl : l.stackTraces = false)
    (body : ∀ f : aF, f_R f = aR n mc ms → aOK f (lB z RS ba qv m) cc maxL own → (aEQ f (lB z RS ba qv m) Qc noX mc ms ∧ (f_me f).sig.returnType = ret) → f_l f = l → AW f (lB z RS ba qv m) 0 (As.map some ++ List.replicate (maxL - As.length) none) [] (d, []) 0 0) : bM l z RS ba qv m d y (aWs y cc maxL ret) n mc ms As Qc := by
  have hcl : gCl (lB z RS ba qv m) := lEn_cl (z := z) rfl rfl
  refine vx_ofW (cc := cc) (maxL := maxL) (ret := ret) hy.1 rfl ?_
  intro p e s m' args below meth c s₁ B hml ht hv
  obtain ⟨rfl, ⟨ex, hI⟩, hK, hA, hEn⟩ := hv
  have hts := atoms_spec (ws := aWs y cc maxL ret) B.pre
  have hown : s.vm.findClass own = some m'.cls := by rw [← hy.2]; exact findClass_of_methodNamed B.named
  have h := body (p, l, e, (headSpec (aWs y cc maxL ret) (aR n mc ms)).room, s, m', As.toArray, below, meth, c, vx_MQ below Qc (aX (lB z RS ba qv m) noX) As.toArray s mc ms (lA z)) rfl
    ⟨B.exec, B.bytes, hml, hown, fun w hw => hts w (List.mem_cons_of_mem _ hw), hK, B.notSynchronized, hEn, hA, hl, hcl⟩ ⟨⟨rfl, ht⟩, B.returns⟩ rfl
  rw [lg_entry_eq]
  exact h _ _ [] ex (lw_entry As hcat hlen) hI va_S.rf
theorem b_vret {qv' m' M mc ms : Nat} (hC : aOK f (lB z RS ba qv' m') cc nL own) (hE : aEQ f (lB z RS ba qv m) (bQv z RS ba dX t M) noX mc ms ∧ (f_me f).sig.returnType = none) (hp : bE dX t M (qv', m', d)) (h1 : k ≤ mc) (h2 : n ≤ ms) (dg : decode cc pc = .ok (.return_, 1)) : AW f (lB z RS ba qv' m') pc L [] (d, []) k n := by
  intro ls H locs ex hl hI hS
  rw [hE.1.1]
  exact W.widen h1 h2 (vx_ret (W.vret hC.x hC.b hE.2 (fun t ht hW => ⟨⟨(qv', m', d), rfl, hp, ⟨ex, by rw [ht]; exact hI⟩⟩, hS.F ht⟩) hS.2.2 dg hC.lk))
theorem b_qret {qv' m' M mc ms : Nat} {rt : FieldType} (hrt : (∃ n, rt = .object n) ∨ ∃ t, rt = .array t) (hC : aOK f (lB z RS ba qv' m') cc nL own) (hE : aEQ f (lB z RS ba qv m) (bQq z RS ba dX t M) noX mc ms ∧ (f_me f).sig.returnType = some rt) (hp : bE dX t M (qv', m', d)) (h1 : k ≤ mc) (h2 : n ≤ ms) (dg : decode cc pc = .ok (.areturn, 1)) : AW f (lB z RS ba qv' m') pc L [.ref ba] (d, []) k n := by
  intro ls H locs ex hl hI hS
  rw [hE.1.1]
  exact W.widen h1 h2 (vx_ret (W.aret hC.x hC.b hE.2 hrt (Or.inr ⟨_, rfl⟩) (fun t ht hW => ⟨⟨some ba, (qv', m', d), rfl, ⟨rfl, hp⟩, ⟨ex, by rw [ht]; exact hI⟩⟩, hS.F ht⟩) hS.2.2 dg hC.lk))
/-- what a call upward asks of the tables -/
def aSu (y : MethodName) (idx : Nat) (bytes : ByteArray) (maxL : Nat) (ret : Option FieldType) (m : Nat) : Prop :=
  Cond.methodLink RJ4 idx y ∈ lw_tbl ∧ Cond.sameMethod y.cls y.cls y.name y.desc ∈ lw_tbl ∧ Cond.superclass RJ4 y.cls ∈ lw_tbl ∧ Cond.instanceMethod y ∈ lw_tbl ∧ Cond.initialized y.cls ∈ lw_tbl ∧ Cond.code y bytes maxL ret ∈ lw_tbl ∧ (y.name ≠ "<init>" ∧ (parseMethodDescriptor y.desc).map (fun d => d.parameters.length) = some m)
theorem good_Su {y : MethodName} {idx : Nat} {bytes : ByteArray} {maxL : Nat} {ret : Option FieldType} {m : Nat} (h : aSu y idx bytes maxL ret m) : GoodIn TW (va_wsSU RJ4 idx y (aWs y bytes maxL ret)) := by
  obtain ⟨h1, h2, h3, h4, h5, h6, -⟩ := h
  intro w hw
  refine good_TW ?_
  rcases List.mem_append.mp hw with hw | hw
  · simp only [List.mem_cons, List.not_mem_nil, or_false] at hw
    rcases hw with rfl | rfl | rfl | rfl | rfl
    · exact tk_w h1 rfl
    · exact tk_w h2 rfl
    · exact tk_w h3 rfl
    · exact tk_w h4 rfl
    · exact tk_w h5 rfl
  · rcases List.mem_cons.mp hw with rfl | hw
    · exact tk_w h6 rfl
    · exact hw
theorem b_preV (hC : aOK f (lB z RS ba qv m) cc nL own) {H : Heap} {locs : List Loc} {ex : va_W} (hI : aI (lB z RS ba qv m) (d, []) ex H) (hS : va_S (gA (lB z RS ba qv m)) (f_s f).heap H locs) (As : List Value) : PreV (f_s f) H RJ4 ba (va_Pc (.ref ba :: As) (aWd (lB z RS ba qv m) (d, []))) As :=
  a_preV hC hI hS cl_J4 oB_sb As
theorem b_super {y : MethodName} {idx : Nat} {bytes : ByteArray} {maxL n' mc ms N mcR msR mP : Nat} {ret : Option FieldType} {As rest : List Value} {Qc : Array Value → State → Outcome → State → Prop} (hC : aOK f (lB z RS ba qv m) cc nL RJ4) (hR : f_R f = aR N mcR msR) (hm : aSu y idx bytes maxL ret mP) (hfit : aFit maxL n' mc ms k n N mcR msR) (dg : decode cc pc = .ok (.invokespecial idx, 3))
    (hM : bM (f_l f) z RS ba qv m d y (aWs y bytes maxL ret) n' mc ms (.ref ba :: As) Qc) (hn : As.length = mP) (hL : L.length = nL) (hrest : (rest.map fun v => v.category).sum ≤ 8) {ls : Array Slot} {H : Heap} {locs : List Loc} {ex : va_W} (hl : lw_has ls L) (hI : aI (lB z RS ba qv m) (d, []) ex H) (hS : va_S (gA (lB z RS ba qv m)) (f_s f).heap H locs) :
    va_Run (f_p f) (f_l f) (f_e f) (f_R f) (f_s f) (f_m f) (f_a f) (f_b f) (f_me f) (f_c f) H locs k n mc ms (F0 (f_m f) pc ls (As.reverse ++ .ref ba :: rest)) rest (Qc (Value.ref ba :: As).toArray) (lA z) := by
  have hf := hfit.loc
  rw [← hR] at hf
  exact va_runSU (rest := rest) (g := F0 (f_m f) pc ls (As.reverse ++ .ref ba :: rest)) (locs := locs) (meth := f_me f) (below := f_b f) (e := f_e f) (cells := k) (slots := n) (hC.K.1 1 (RJ4, TJ4, 4) rfl).2 (S := (⟨hC.x, hC.b, hC.ml, hC.o, hC.ts⟩ : CallFix (f_p f) (f_m f) (f_c f) cc nL (f_s f) (f_a f) TW RJ4)) (aMet_of hM aX_no) (va_cwSU mP hC.ts (good_Su hm) rfl rfl rfl hm.2.2.2.2.2.2 hf) (b_preV hC hI hS As) rfl hn (hl.1.trans hL) rfl (lv_room hrest) dg (by rw [hR]; exact ⟨hfit.2.2.1, hfit.2.2.2⟩)
/-- .. a call of a method of AbstractStringBuilder on the builder -/
def aUp (y : MethodName) (idx : Nat) (bytes : ByteArray) (maxL : Nat) (ret : Option FieldType) (m : Nat) : Prop :=
  Cond.methodLink RJ5 idx y ∈ lw_tbl ∧ Cond.sameMethod y.cls y.cls y.name y.desc ∈ lw_tbl ∧ (Cond.selects RJ4 y y ∈ lw_tbl ∨ Cond.selects RJ4 y y ∈ selB) ∧ Cond.instanceMethod y ∈ lw_tbl ∧ Cond.initialized y.cls ∈ lw_tbl ∧ Cond.code y bytes maxL ret ∈ lw_tbl ∧ (y.cls ≠ "java/lang/invoke/MethodHandle" ∧ y.cls ≠ "java/lang/invoke/VarHandle") ∧ (parseMethodDescriptor y.desc).map (fun d => d.parameters.length) = some m
theorem b_up {y : MethodName} {idx : Nat} {bytes : ByteArray} {maxL n' mc ms N mcR msR mP : Nat} {ret : Option FieldType} {As rest : List Value} {Qc : Array Value → State → Outcome → State → Prop} (hC : aOK f (lB z RS ba qv m) cc nL RJ5) (hR : f_R f = aR N mcR msR) (hm : aUp y idx bytes maxL ret mP) (hfit : aFit maxL n' mc ms k n N mcR msR) (dg : decode cc pc = .ok (.invokevirtual idx, 3))
    (hM : bM (f_l f) z RS ba qv m d y (aWs y bytes maxL ret) n' mc ms (.ref ba :: As) Qc) (hn : As.length = mP) (hL : L.length = nL) (hrest : (rest.map fun v => v.category).sum ≤ 8) {ls : Array Slot} {H : Heap} {locs : List Loc} {ex : va_W} (hl : lw_has ls L) (hI : aI (lB z RS ba qv m) (d, []) ex H) (hS : va_S (gA (lB z RS ba qv m)) (f_s f).heap H locs) :
    va_Run (f_p f) (f_l f) (f_e f) (f_R f) (f_s f) (f_m f) (f_a f) (f_b f) (f_me f) (f_c f) H locs k n mc ms (F0 (f_m f) pc ls (As.reverse ++ .ref ba :: rest)) rest (Qc (Value.ref ba :: As).toArray) (lA z) := by
  have hf := hfit.loc
  rw [← hR] at hf
  obtain ⟨h1, h2, h3, h4, h5, h6, h7, h8⟩ := hm
  have w : ∀ {c : Cond}, c ∈ lw_tbl → goodWord c = true → c.before (f_a f) (f_s f) = true := fun hw hg => hC.w hw hg
  have hG : GoodIn TW (aWs y bytes maxL ret) := fun c hc => good_TW (by
    rcases List.mem_cons.mp hc with rfl | hc
    · exact tk_w h6 rfl
    · exact hc)
  have hsel : (Cond.selects RJ4 y y).before (f_a f) (f_s f) = true := by
    rcases h3 with h3 | h3
    · exact w h3 rfl
    · exact va_Nw.use rfl (hC.en.2.1.2.1 _ h3)
  have cw : va_CU (f_R f) (f_s f) (f_a f) RJ5 RJ4 y.cls idx y y bytes maxL ret (aWs y bytes maxL ret) (aR n' mc ms) mc ms mP :=
    ⟨⟨rfl, rfl, hf.1, hf.2, pay_in hC.ts hG, List.mem_cons_self⟩, w h6 rfl, w h5 rfl, h7, fun sig h => by rw [h] at h8; exact (Option.some.inj h8).symm, w h1 rfl, w h2 rfl, va_Decl.of (w h4 rfl) (w h6 rfl), hsel, w h4 rfl⟩
  exact va_runU (rest := rest) (g := F0 (f_m f) pc ls (As.reverse ++ .ref ba :: rest)) (locs := locs) (meth := f_me f) (below := f_b f) (e := f_e f) (cells := k) (slots := n) (S := (⟨hC.x, hC.b, hC.ml, hC.o, hC.ts⟩ : CallFix (f_p f) (f_m f) (f_c f) cc nL (f_s f) (f_a f) TW RJ5)) (aMet_of hM aX_no) cw (b_preV hC hI hS As) rfl hn (hl.1.trans hL) rfl (lv_room hrest) dg (by rw [hR]; exact ⟨hfit.2.2.1, hfit.2.2.2⟩)
end SB1

def lRoom (f : aF) (N mcR msR : Nat) : Prop := N ≤ (f_R f).frames ∧ 60 * N ≤ (f_R f).locals ∧ mcR ≤ (f_R f).cells ∧ msR ≤ (f_R f).slots
theorem lRoom.fit {f : aF} {N mcR msR maxL n' mc ms k n : Nat} (h : lRoom f N mcR msR) (hf : aFit maxL n' mc ms k n N mcR msR) : ((aR n' mc ms).frames + 1 ≤ (f_R f).frames ∧ 8 + (maxL + 11) + (aR n' mc ms).locals ≤ (f_R f).locals) ∧ k + mc ≤ (f_R f).cells ∧ n + ms ≤ (f_R f).slots := by
  obtain ⟨h1, h2, h3, h4⟩ := h
  obtain ⟨g1, g2, g3, g4⟩ := hf
  refine ⟨⟨?_, ?_⟩, by omega, by omega⟩
  · show n' + 1 ≤ _
    omega
  · show 8 + (maxL + 11) + 60 * n' ≤ _
    omega
/-! makers: a world that grows, by its list -/
def nEn (z : lP) : State → Heap → Prop := fun U H => lEn z U H ∧ EnvC U
def q0 : aS := (fun _ _ => 0, [])
def nG (z : lP) (ws : va_W) : aG := (z.1, z.2.1, fun _ _ => .inl (0, (0, .inl (fun _ => 0))), 0, fun _ => 0, fun _ ex => ex = ws, nEn z, lA z, z.2.2.2.1)
theorem nG_cl (z : lP) (ws : va_W) : gCl (nG z ws) := fun _ _ _ _ hW hq h => ⟨⟨h.1.1.go hW hq, h.1.2.1.go hW, h.1.2.2.1.go hW, h.1.2.2.2.1.go hW hq, h.1.2.2.2.2.go hW⟩, h.2.go hW⟩
def nWp (z : lP) (W : va_W) (U : State) : Prop := aWp (nG z W) q0 U
def nMet (l : Launch) (z : lP) (y : MethodName) (ws : List Cond) (n mc ms : Nat) (As : List Value) (W0 : va_W) (Post : va_W → Prop) : Prop :=
  Met l y ws (aR n mc ms) (va_Pc As (aWd (nG z W0) q0)) (va_Qv Post (nWp z) (lA z)) mc ms (lA z)
def nE (f : aF) (z : lP) (Post : va_W → Prop) (mc ms : Nat) : Prop := f_Q f = vx_MQ (f_b f) (va_Qv Post (nWp z) (lA z)) (fun _ _ _ => False) (f_a f) (f_s f) mc ms (lA z) ∧ (f_me f).sig.returnType = none
theorem lRoom_of {f : aF} {n mc ms : Nat} (h : f_R f = aR n mc ms) : lRoom f n mc ms := by
  unfold lRoom
  rw [h]
  exact ⟨Nat.le_refl _, Nat.le_refl _, Nat.le_refl _, Nat.le_refl _⟩
/-- a maker, by the tables -/
def nIm (y : MethodName) (bytes : ByteArray) (maxL : Nat) (n : Nat) : Prop :=
  Cond.code y bytes maxL none ∈ lw_tbl ∧ Cond.instanceMethod y ∈ lw_tbl ∧ Cond.initialized y.cls ∈ lw_tbl ∧ y.name = "<init>" ∧ (y.cls ≠ "java/lang/invoke/MethodHandle" ∧ y.cls ≠ "java/lang/invoke/VarHandle" ∧ (parseMethodDescriptor y.desc).map (fun d => d.parameters.length) = some n)
section NEW
variable {f : aF} {z : lP} {cc : ByteArray} {nL : Nat} {own : String} {pc : Nat} {L : List (Option Value)} {st : List Value} {ws pre suf : va_W} {k n : Nat}
theorem nOK (hC : aOK f (nG z ws) cc nL own) (ws' : va_W) : aOK f (nG z ws') cc nL own :=
  ⟨hC.1, hC.2.1, hC.2.2.1, hC.2.2.2.1, hC.2.2.2.2.1, hC.2.2.2.2.2.1, hC.2.2.2.2.2.2.1, hC.2.2.2.2.2.2.2.1, hC.2.2.2.2.2.2.2.2.1, hC.2.2.2.2.2.2.2.2.2.1, nG_cl z ws'⟩
theorem nAW (h : ∀ (ls : Array Slot) (H : Heap) (locs : List Loc), lw_has ls L → va_P z.1 vwCl ws H → va_D (lA z) ws → va_S (lA z) (f_s f).heap H locs → W (f_p f) (f_l f) (f_e f) (f_R f) (f_s f) (f_m f) (f_a f) (f_b f) (f_me f) (f_c f) H locs k n (f_Q f) (F0 (f_m f) pc ls st)) : AW f (nG z ws) pc L st q0 k n := by
  intro ls H locs ex hl hI hS
  obtain ⟨he, hP, hD⟩ := hI
  have he : ex = ws := he
  subst he
  exact h ls H locs hl hP hD hS
theorem nUse (h : AW f (nG z ws) pc L st q0 k n) {ls : Array Slot} {H : Heap} {locs : List Loc} (hl : lw_has ls L) (hP : va_P z.1 vwCl ws H) (hD : va_D (lA z) ws) (hS : va_S (lA z) (f_s f).heap H locs) : W (f_p f) (f_l f) (f_e f) (f_R f) (f_s f) (f_m f) (f_a f) (f_b f) (f_me f) (f_c f) H locs k n (f_Q f) (F0 (f_m f) pc ls st) :=
  h ls H locs ws hl ⟨rfl, hP, hD⟩ hS
theorem nMet_of {l : Launch} {y : MethodName} {maxL mc ms : Nat} {As : List Value} {Post : va_W → Prop} (own : String) (hy : plainName y.cls = true ∧ y.cls = own) (hnm : y.name = "<init>") (hcat : ∀ w ∈ As, w.category = 1) (hlen : As.length ≤ maxL) (hl : l.stackTraces = false)
    (body : ∀ f : aF, f_R f = aR n mc ms → (f_me f).name = "<init>" → aOK f (nG z ws) cc maxL own → nE f z Post mc ms → AW f (nG z ws) 0 (As.map some ++ List.replicate (maxL - As.length) none) [] q0 0 0) : nMet l z y (aWs y cc maxL none) n mc ms As ws Post := by
  refine aMet_of (XC := fun _ _ _ => False) (vx_ofW (cc := cc) (maxL := maxL) (ret := none) hy.1 rfl ?_) (fun _ _ _ h => h)
  intro p e s m args below meth c s₁ B hml ht hv
  obtain ⟨rfl, ⟨ex, hI⟩, hK, hA, hEn⟩ := hv
  have hts := atoms_spec (ws := aWs y cc maxL none) B.pre
  have hown : s.vm.findClass own = some m.cls := by rw [← hy.2]; exact findClass_of_methodNamed B.named
  have h := body (p, l, e, (headSpec (aWs y cc maxL none) (aR n mc ms)).room, s, m, As.toArray, below, meth, c, vx_MQ below (va_Qv Post (nWp z) (lA z)) (fun _ _ _ => False) As.toArray s mc ms (lA z)) rfl
    (((name_of_methodNamed B.named B.method).1).trans hnm) ⟨B.exec, B.bytes, hml, hown, fun w hw => hts w (List.mem_cons_of_mem _ hw), hK, B.notSynchronized, hEn, hA, hl, nG_cl z ws⟩ ⟨rfl, B.returns⟩
  rw [lg_entry_eq]
  exact h _ _ [] ex (lw_entry As hcat hlen) hI va_S.rf
theorem n_vret (hC : aOK f (nG z ws) cc nL own) {Post : va_W → Prop} {mc ms : Nat} (hE : nE f z Post mc ms) (hp : Post ws) (h1 : k ≤ mc) (h2 : n ≤ ms) (dg : decode cc pc = .ok (.return_, 1)) : AW f (nG z ws) pc L [] q0 k n := by
  refine nAW (fun ls H locs hl hP hD hS => ?_)
  rw [hE.1]
  exact W.widen h1 h2 (vx_ret (W.vret hC.x hC.b hE.2 (fun t ht hW => ⟨⟨ws, rfl, hp, ⟨ws, rfl, by rw [ht]; exact hP, hD⟩⟩, hS.F ht⟩) hS.2.2 dg hC.lk))
theorem n_newa (hC : aOK f (nG z (pre ++ suf)) cc nL own) (ht : z.2.1.map Prod.snd = tyX) {N mcR msR : Nat} (hR : lRoom f N mcR msR) (i : Nat) {ty : FieldType} (hi : tyX[i]? = some ty) {atype : ArrayType} (hty : newarray.typeOf atype = ty) (harr : Cond.arrayClass (newarray.typeOf atype) ∈ lw_tbl) (hg : goodWord (Cond.arrayClass (newarray.typeOf atype)) = true) {x : Int32} {N' : Nat} {a0 : vp_A} (ha : ∀ cA : ClassId, vp_cell cA a0 = arrV cA N' (fun _ => defaultValue ty)) (hn : ¬ x < 0) (hN : x.toNatClampNeg = N') (hb : N' * componentBytes ty ≤ 536870912) (hk : k + 1 ≤ mcR) (hs : n + N' ≤ msR) (dg : decode cc pc = .ok (.newarray atype, 2))
    (kk : ∀ q : Nat, AW f (nG z (pre ++ (suf ++ [(q, .inl (lc z i, a0))]))) (pc + 2) L (.ref q :: st) q0 (k + 1) (n + N')) : AW f (nG z (pre ++ suf)) pc L (.int x :: st) q0 k n := by
  refine nAW (fun ls H locs hl hP hD hS => ?_)
  refine va_newa hC.x hC.b (hC.w harr hg) hty hC.K hP hD hS hC.A ha hn hN hb (Nat.le_trans hk hR.2.2.1) (Nat.le_trans hs hR.2.2.2) dg (fun q cA H1 hK1 hP1 hD1 hS1 => ?_)
  have e1 : va_RA (f_s f) cA ty := (hK1.2 z.2.1.length (cA, ty) (by rw [show gT (nG z (pre ++ suf)) = z.2.1 from rfl, List.getElem?_append_right (Nat.le_refl _), Nat.sub_self]; rfl)).2
  have e2 : va_RA (f_s f) (lc z i) ty := (hC.K.2 i (lc z i, ty) (gc_at (g := nG z (pre ++ suf)) ht hi)).2
  have e : cA = lc z i := va_RA_inj e1 e2
  subst e
  rw [List.append_assoc] at hP1 hD1
  exact nUse (kk q) hl hP1 hD1 hS1
theorem n_newq (hC : aOK f (nG z (pre ++ suf)) cc nL own) (ht : z.2.1.map Prod.snd = tyX) {N mcR msR : Nat} (hR : lRoom f N mcR msR) (i : Nat) {C : String} {index : Nat} (hi : tyX[i]? = some (.object C)) (hw : Cond.classLink own index C ∈ lw_tbl) (hover : va_AO C (f_s f)) {x : Int32} {N' : Nat} (hn : ¬ x < 0) (hN : x.toNatClampNeg = N') (hb : N' * 4 ≤ 536870912) (hk : k + 1 ≤ mcR) (hs : n + N' ≤ msR) (dg : decode cc pc = .ok (.anewarray index, 3))
    (kk : ∀ q : Nat, AW f (nG z (pre ++ (suf ++ [(q, .inl (lc z i, (N', .inr (.inr (.inr (.inr (fun _ => none)))))))]))) (pc + 3) L (.ref q :: st) q0 (k + 1) (n + N')) : AW f (nG z (pre ++ suf)) pc L (.int x :: st) q0 k n := by
  refine nAW (fun ls H locs hl hP hD hS => ?_)
  refine va_newq hC.x hC.b hC.o (hC.w hw rfl) hover hC.K hP hD hS hC.A hn hN hb (Nat.le_trans hk hR.2.2.1) (Nat.le_trans hs hR.2.2.2) dg (fun q cA H1 hK1 hP1 hD1 hS1 => ?_)
  have e1 : va_RA (f_s f) cA (.object C) := (hK1.2 z.2.1.length (cA, .object C) (by rw [show gT (nG z (pre ++ suf)) = z.2.1 from rfl, List.getElem?_append_right (Nat.le_refl _), Nat.sub_self]; rfl)).2
  have e2 : va_RA (f_s f) (lc z i) (.object C) := (hC.K.2 i (lc z i, .object C) (gc_at (g := nG z (pre ++ suf)) ht hi)).2
  have e : cA = lc z i := va_RA_inj e1 e2
  subst e
  rw [List.append_assoc] at hP1 hD1
  exact nUse (kk q) hl hP1 hD1 hS1
theorem n_new (hC : aOK f (nG z (pre ++ suf)) cc nL own) {N' mcR msR : Nat} (hR : lRoom f N' mcR msR) {ci N index : Nat} {C : String} {T : u_T} (hc : aCl ci C T N) (ty0 : Nat → FieldType) (hty : ∀ k, k < N → parseFieldDescriptor (T k).2.2.1 = some (ty0 k)) (hw : Cond.classLink own index C ∈ lw_tbl) (hinst : Cond.instantiable C N ∈ lw_tbl) (hini : Cond.initialized C ∈ lw_tbl) {fs : List Value} (hfs : ∀ j, j < N → defaultValue (ty0 j) = vp_V fs j) (hk : k + 1 ≤ mcR) (hs : n + N ≤ msR) (dg : decode cc pc = .ok (.new index, 3))
    (kk : ∀ q : Nat, AW f (nG z ((pre ++ suf) ++ [(q, .inr (ci, fs))])) (pc + 3) L (.ref q :: st) q0 (k + 1) (n + N)) : AW f (nG z (pre ++ suf)) pc L st q0 k n := by
  refine nAW (fun ls H locs hl hP hD hS => ?_)
  exact va_new hC.x hC.b hC.ts hc.2.1 ty0 hty hC.o (hC.w hw rfl) (hC.w hinst rfl) (hC.w hini rfl) hC.K hP hD hS hC.A hc.1 hfs (Nat.le_trans hk hR.2.2.1) (Nat.le_trans hs hR.2.2.2) dg (fun q H1 hP1 hD1 hS1 => nUse (kk q) hl hP1 hD1 hS1)
theorem n_at {j : Nat} {x : Nat × va_E} (h : suf[j]? = some x) : (pre ++ suf)[pre.length + j]? = some x := by
  rw [List.getElem?_append_right (Nat.le_add_right _ _), Nat.add_sub_cancel_left]
  exact h
theorem n_set {j : Nat} {x : Nat × va_E} : (pre ++ suf).set (pre.length + j) x = pre ++ suf.set j x := by
  rw [List.set_append_right _ _ (Nat.le_add_right _ _), Nat.add_sub_cancel_left]
theorem n_putF (hC : aOK f (nG z (pre ++ suf)) cc nL own) (hin : (f_me f).name = "<init>") {ci N index : Nat} {C : String} {T : u_T} (hc : aCl ci C T N) (ty0 : Nat → FieldType) (hty : ∀ k, k < N → parseFieldDescriptor (T k).2.2.1 = some (ty0 k)) (j : Nat) {a : Nat} {fs : List Value} (he : suf[j]? = some (a, .inr (ci, fs))) (kx : Nat) (hkx : kx < N) (hw : Cond.fieldLink own index (T kx).1 (T kx).2.1 (T kx).2.2.1 ∈ lw_tbl) (hfin : (T kx).2.2.2 = true) (hdecl : (T kx).1 = own) {v : Value} (hn : narrow (ty0 kx) v = v) (hfit : fits (ty0 kx) v = true) (hl0 : kx < fs.length) (dg : decode cc pc = .ok (.putfield index, 3))
    (kk : AW f (nG z (pre ++ suf.set j (a, .inr (ci, fs.set kx v)))) (pc + 3) L st q0 k n) : AW f (nG z (pre ++ suf)) pc L (v :: .ref a :: st) q0 k n := by
  refine nAW (fun ls H locs hl hP hD hS => ?_)
  refine va_putF hC.x hC.b hC.ts hc.2.1 ty0 hty hc.2.2 hC.o hC.K hP hD hS (pre.length + j) (n_at he) hc.1 kx hkx (hC.w hw rfl) (fun _ h => h) hfin hin hdecl (hty kx hkx) hn hfit hl0 dg (fun H1 locs1 hP1 hD1 hS1 => ?_)
  rw [n_set] at hP1 hD1
  exact nUse kk hl hP1 hD1 hS1
theorem n_put (hC : aOK f (nG z (pre ++ suf)) cc nL own) {ci N index : Nat} {C : String} {T : u_T} (hc : aCl ci C T N) (ty0 : Nat → FieldType) (hty : ∀ k, k < N → parseFieldDescriptor (T k).2.2.1 = some (ty0 k)) (j : Nat) {a : Nat} {fs : List Value} (he : suf[j]? = some (a, .inr (ci, fs))) (kx : Nat) (hkx : kx < N) (hw : Cond.fieldLink own index (T kx).1 (T kx).2.1 (T kx).2.2.1 ∈ lw_tbl) (hfin : (T kx).2.2.2 = false) {v : Value} (hn : narrow (ty0 kx) v = v) (hfit : fits (ty0 kx) v = true) (hl0 : kx < fs.length) (dg : decode cc pc = .ok (.putfield index, 3))
    (kk : AW f (nG z (pre ++ suf.set j (a, .inr (ci, fs.set kx v)))) (pc + 3) L st q0 k n) : AW f (nG z (pre ++ suf)) pc L (v :: .ref a :: st) q0 k n := by
  refine nAW (fun ls H locs hl hP hD hS => ?_)
  refine va_put hC.x hC.b hC.ts hc.2.1 ty0 hty hc.2.2 hC.o hC.K hP hD hS (pre.length + j) (n_at he) hc.1 kx hkx (hC.w hw rfl) (fun _ h => h) hfin (hty kx hkx) hn hfit hl0 dg (fun H1 locs1 hP1 hD1 hS1 => ?_)
  rw [n_set] at hP1 hD1
  exact nUse kk hl hP1 hD1 hS1
theorem n_get (hC : aOK f (nG z (pre ++ suf)) cc nL own) {ci N index : Nat} {C : String} {T : u_T} (hc : aCl ci C T N) (j : Nat) {a : Nat} {fs : List Value} (he : suf[j]? = some (a, .inr (ci, fs))) (kx : Nat) (hkx : kx < N) (hw : Cond.fieldLink own index (T kx).1 (T kx).2.1 (T kx).2.2.1 ∈ lw_tbl) {v : Value} (hv : fs[kx]? = some v) (dg : decode cc pc = .ok (.getfield index, 3))
    (kk : AW f (nG z (pre ++ suf)) (pc + 3) L (v :: st) q0 k n) : AW f (nG z (pre ++ suf)) pc L (.ref a :: st) q0 k n := by
  refine nAW (fun ls H locs hl hP hD hS => ?_)
  exact va_get hC.x hC.b hC.ts hc.2.1 hC.o hC.K hP (pre.length + j) (n_at he) hc.1 kx hkx (hC.w hw rfl) (fun _ h => h) hv dg (nUse kk hl hP hD hS)
theorem n_obj {g : aG} {q : aS} (hC : aOK f g cc nL own) {N mcR msR idx a : Nat} (hR : lRoom f N mcR msR) (hN : 1 ≤ N) (hL : L.length = nL) (hw : Cond.methodLink own idx Lib.objectInit ∈ lw_tbl) (hinst : Cond.instanceMethod Lib.objectInit ∈ lw_tbl) (hcode : Cond.code Lib.objectInit ⟨#[0xb1]⟩ 1 none ∈ lw_tbl) (hst : (st.map fun v => v.category).sum ≤ 8) (dg : decode cc pc = .ok (.invokespecial idx, 3)) (kk : AW f g (pc + 3) L st q k n) : AW f g pc L (.ref a :: st) q k n := by
  intro ls H locs ex hl hI hS
  refine W.objInit hC.x hC.b hC.o (hC.w hw rfl) (hC.w hinst rfl) (hC.w hcode rfl) rfl (by rw [hC.ml]; exact hl.1.trans hL) rfl dg (Nat.le_trans hN hR.1) ?_ (kk ls H locs ex hl hI hS)
  refine Nat.le_trans ?_ hR.2.1
  show 0 + (st.map fun v => v.category).sum + 12 ≤ 60 * N
  omega
theorem n_pre (hC : aOK f (nG z ws) cc nL own) {H : Heap} {locs : List Loc} (hP : va_P z.1 vwCl ws H) (hD : va_D (lA z) ws) (hS : va_S (lA z) (f_s f).heap H locs) (As : List Value) : PreS (f_s f) H (va_Pc As (aWd (nG z ws) q0)) As :=
  a_preS hC (q := q0) (ex := ws) ⟨rfl, hP, hD⟩ hS As
theorem n_good {y : MethodName} {bytes : ByteArray} {maxL m : Nat} (hm : nIm y bytes maxL m) : GoodIn TW (aWs y bytes maxL none) := by
  intro w h
  refine good_TW ?_
  rcases List.mem_cons.mp h with rfl | h
  · exact tk_w hm.1 rfl
  · exact h
theorem n_call {y : MethodName} {bytes : ByteArray} {maxL n' mc ms N mcR msR index m a : Nat} {As : List Value} {Post : va_W → Prop} (hC : aOK f (nG z ws) cc nL own) (hR : lRoom f N mcR msR) (hm : nIm y bytes maxL m) (hw : Cond.methodLink own index y ∈ lw_tbl) (hfit : aFit maxL n' mc ms k n N mcR msR) {rest : List Value} (dg : decode cc pc = .ok (.invokespecial index, 3))
    (hM : nMet (f_l f) z y (aWs y bytes maxL none) n' mc ms (.ref a :: As) ws Post) (hst : st = As.reverse ++ .ref a :: rest) (hn : As.length = m) (hL : L.length = nL) (hrest : (rest.map fun v => v.category).sum ≤ 8)
    (kk : ∀ ws' : va_W, Post ws' → AW f (nG z ws') (pc + 3) L rest q0 (k + mc) (n + ms)) : AW f (nG z ws) pc L st q0 k n := by
  refine nAW (fun ls H locs hl hP hD hS => ?_)
  subst hst
  have hf := hR.fit hfit
  have hrun := va_runI (b := a) (As := As) (rest := rest) (g := F0 (f_m f) pc ls (As.reverse ++ .ref a :: rest)) (locs := locs) (meth := f_me f) (below := f_b f) (e := f_e f) (cells := k) (slots := n) (S := (⟨hC.x, hC.b, hC.ml, hC.o, hC.ts⟩ : CallFix (f_p f) (f_m f) (f_c f) cc nL (f_s f) (f_a f) TW own)) hM
    (cwI m hC.ts (n_good hm) rfl rfl rfl (hC.w hm.2.2.1 rfl) (hC.w hw rfl) (hC.w hm.2.1 rfl) hm.2.2.2.1 hm.2.2.2.2 hf.1) (n_pre hC hP hD hS (.ref a :: As)) rfl hn (hl.1.trans hL) rfl (lv_room hrest) dg hf.2
  refine va_callv hrun hS (fun _ _ h => h) (fun _ h => h) (fun u t H1 locs1 ht hvm hw hB hz1 hk1 hS1 => ?_)
  obtain ⟨ex', he', hP1, hD1⟩ := hB
  have he' : ex' = u := he'
  subst he'
  rw [ht] at hP1
  exact nUse (kk ex' hw) hl hP1 hD1 hS1
theorem n_callN {y : MethodName} {bytes : ByteArray} {maxL n' mc ms N mcR msR index m a : Nat} {As : List Value} {Post : va_W → Prop} (hC : aOK f (nG z ws) cc nL own) (hR : lRoom f N mcR msR) (hm : nIm y bytes maxL m) (hw : (own, index, y) ∈ cNest) (hfit : aFit maxL n' mc ms k n N mcR msR) {rest : List Value} (dg : decode cc pc = .ok (.invokespecial index, 3))
    (hM : nMet (f_l f) z y (aWs y bytes maxL none) n' mc ms (.ref a :: As) ws Post) (hst : st = As.reverse ++ .ref a :: rest) (hn : As.length = m) (hL : L.length = nL) (hrest : (rest.map fun v => v.category).sum ≤ 8)
    (kk : ∀ ws' : va_W, Post ws' → AW f (nG z ws') (pc + 3) L rest q0 (k + mc) (n + ms)) : AW f (nG z ws) pc L st q0 k n := by
  refine nAW (fun ls H locs hl hP hD hS => ?_)
  subst hst
  have hf := hR.fit hfit
  have hnest : va_Nw (.methodLinkNest own index y "EchoCouncil") (f_s f) := hC.en.2.1 (own, index, y) hw
  have hrun := va_runIN (b := a) (As := As) (rest := rest) (g := F0 (f_m f) pc ls (As.reverse ++ .ref a :: rest)) (locs := locs) (meth := f_me f) (below := f_b f) (e := f_e f) (cells := k) (slots := n) (S := (⟨hC.x, hC.b, hC.ml, hC.o, hC.ts⟩ : CallFix (f_p f) (f_m f) (f_c f) cc nL (f_s f) (f_a f) TW own)) hM
    ⟨va_cnB m hC.ts (n_good hm) rfl rfl rfl hnest (hC.w hm.2.2.1 rfl) hm.2.2.2.2 hf.1, hm.2.2.2.1, hC.w hm.2.1 rfl⟩ (n_pre hC hP hD hS (.ref a :: As)) rfl hn (hl.1.trans hL) rfl (lv_room hrest) dg hf.2
  refine va_callv hrun hS (fun _ _ h => h) (fun _ h => h) (fun u t H1 locs1 ht hvm hw hB hz1 hk1 hS1 => ?_)
  obtain ⟨ex', he', hP1, hD1⟩ := hB
  have he' : ex' = u := he'
  subst he'
  rw [ht] at hP1
  exact nUse (kk ex' hw) hl hP1 hD1 hS1
end NEW
section NEW2
variable {f : aF} {z : lP} {cc : ByteArray} {nL : Nat} {own : String} {pc : Nat} {L : List (Option Value)} {st : List Value} {ws pre suf : va_W} {k n : Nat}
theorem n_aasto (hC : aOK f (nG z (pre ++ suf)) cc nL own) (ht : z.2.1.map Prod.snd = tyX) (j : Nat) {a : Nat} {F : Nat → Option Nat} (he : suf[j]? = some (a, .inl (lc z 2, (8, .inr (.inr (.inr (.inr F))))))) (qk : Nat) {v : Nat} {vs : List Value} (hv : suf[qk]? = some (v, .inr (10, vs))) {i : Int32} (hin : vp_in i 8) (dg : decode cc pc = .ok (.aastore, 1))
    (kk : AW f (nG z (pre ++ suf.set j (a, .inl (lc z 2, (8, .inr (.inr (.inr (.inr (va_up F i.toNatClampNeg (some v)))))))))) (pc + 1) L st q0 k n) : AW f (nG z (pre ++ suf)) pc L (.ref v :: .int i :: .ref a :: st) q0 k n := by
  refine nAW (fun ls H locs hl hP hD hS => ?_)
  refine va_astq hC.x hC.b hC.K hP hD hS (pre.length + j) 2 (pre.length + qk) 10 (n_at he) (gc_at (g := nG z (pre ++ suf)) ht rfl) (n_at hv) cl_X8.1 hin dg (fun H1 locs1 hP1 hD1 hS1 => ?_)
  rw [n_set] at hP1 hD1
  exact nUse kk hl hP1 hD1 hS1
theorem n_aastk (hC : aOK f (nG z (pre ++ suf)) cc nL own) (ht : z.2.1.map Prod.snd = tyX) (jx : Nat) {a : Nat} {F : Nat → Option Nat} (he : suf[jx]? = some (a, .inl (lc z 3, (10, .inr (.inr (.inr (.inr F))))))) {j : Nat} (hj : j < 10) {i : Int32} (hin : vp_in i 10) (dg : decode cc pc = .ok (.aastore, 1))
    (kk : AW f (nG z (pre ++ suf.set jx (a, .inl (lc z 3, (10, .inr (.inr (.inr (.inr (va_up F i.toNatClampNeg (some (z.2.2.2.1 j))))))))))) (pc + 1) L st q0 k n) : AW f (nG z (pre ++ suf)) pc L (.ref (z.2.2.2.1 j) :: .int i :: .ref a :: st) q0 k n := by
  refine nAW (fun ls H locs hl hP hD hS => ?_)
  have hO := (hC.en.1.1.2.2.1.1 j hj).2.1
  obtain ⟨cell, h1, h2, h3, -⟩ := hO.kept hS.2.1
  have hany : va_Any "EchoCouncil$OrderKind" (f_s f) H (z.2.2.2.1 j) := by
    obtain ⟨kC, hkC, -⟩ := Vm.findClass_spec h3
    refine ⟨cell, h1, h2, ⟨kC, hkC⟩, fun comp hc => ?_⟩
    cases Option.some.inj (hc.symm.trans h3)
    show Vm.assignableAux _ (255 + 1) _ _ = true
    rw [Vm.assignableAux]
    simp
  refine va_astqM hC.x hC.b hC.K hP hD hS (pre.length + jx) 3 (n_at he) (gc_at (g := nG z (pre ++ suf)) ht rfl) hany hin dg (fun H1 locs1 hP1 hD1 hS1 => ?_)
  rw [n_set] at hP1 hD1
  exact nUse kk hl hP1 hD1 hS1
theorem n_mna (hC : aOK f (nG z (pre ++ suf)) cc nL own) (ht : z.2.1.map Prod.snd = tyX) {N mcR msR index : Nat} (hR : lRoom f N mcR msR) (hw : Cond.classLink own index "[[I" ∈ lw_tbl) (harr : Cond.arrayClass .int ∈ lw_tbl) (hk : k + 11 ≤ mcR) (hs : n + 40 ≤ msR) (dg : decode cc pc = .ok (.multianewarray index 2, 4))
    (kk : ∀ (q : Nat) (r : Nat → Nat), AW f (nG z (pre ++ (suf ++ ((q, .inl (lc z 4, (10, .inr (.inr (.inr (.inr (fun i => if i < 10 then some (r i) else none))))))) :: (List.range 10).map (fun i => (r i, .inl (lc z 0, (3, .inl (fun _ => 0))))))))) (pc + 4) L (.ref q :: st) q0 (k + 11) (n + 40)) : AW f (nG z (pre ++ suf)) pc L (.int 3 :: .int 10 :: st) q0 k n := by
  refine nAW (fun ls H locs hl hP hD hS => ?_)
  have hcy : (f_s f).vm.findClass (FieldType.array .int).toString = some (lc z 0) := (hC.K.2 0 (lc z 0, .int) (gc_at (g := nG z (pre ++ suf)) ht rfl)).2
  have hP0 : va_P z.1 vwCl ((pre ++ suf) ++ va_pl [] (fun _ => .inl (0, (0, .inl (fun _ => 0))))) H := by
    show va_P z.1 vwCl ((pre ++ suf) ++ []) H
    rw [List.append_nil]; exact hP
  have hD0 : va_D (lA z) ((pre ++ suf) ++ va_pl [] (fun _ => .inl (0, (0, .inl (fun _ => 0))))) := by
    show va_D (lA z) ((pre ++ suf) ++ [])
    rw [List.append_nil]; exact hD
  refine va_mna (ty := .int) (n := 10) (k := 3) (N' := 10) (K' := 3) (z := (3, .inl (fun _ => 0))) hC.x hC.b hC.o (hC.w hw rfl) hC.en.2.2.2.2 (hC.w harr rfl) hcy hC.K hP0 hD0 hS hC.A (by decide) (by decide) rfl rfl (by decide) (by decide) (by decide) rfl rfl (by show k + (1 + 10) ≤ _; exact Nat.le_trans hk hR.2.2.1) (by show n + (10 + 10 * 3) ≤ _; exact Nat.le_trans hs hR.2.2.2) (fun c => rfl) dg (fun q r cA H1 h1 h2 hK1 hP1 hD1 hS1 => ?_)
  have e1 : va_RA (f_s f) cA (.array .int) := (hK1.2 z.2.1.length (cA, .array .int) (by rw [show gT (nG z (pre ++ suf)) = z.2.1 from rfl, List.getElem?_append_right (Nat.le_refl _), Nat.sub_self]; rfl)).2
  have e2 : va_RA (f_s f) (lc z 4) (.array .int) := (hC.K.2 4 (lc z 4, .array .int) (gc_at (g := nG z (pre ++ suf)) ht rfl)).2
  have e : cA = lc z 4 := va_RA_inj e1 e2
  subst e
  have hl2 : va_pl ([] ++ (List.range 10).map r) (vr_up (fun _ => (.inl (0, (0, .inl (fun _ => 0))) : va_E)) ((List.range 10).map r) (.inl (lc z 0, (3, .inl (fun _ => 0))))) = (List.range 10).map (fun i => (r i, .inl (lc z 0, (3, .inl (fun _ => 0))))) := by
    unfold va_pl vr_up
    rw [List.nil_append, List.map_map]
    refine List.map_congr_left (fun i hi => ?_)
    show (r i, if r i ∈ _ then _ else _) = _
    rw [if_pos (List.mem_map_of_mem hi)]
  rw [hl2, List.append_assoc, List.append_assoc] at hP1 hD1
  exact nUse (kk q r) hl hP1 hD1 hS1
end NEW2

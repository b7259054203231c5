/-! throws, calls that may throw, constants -/
theorem excs_names : ∀ n ∈ ["java/lang/RuntimeException", "java/lang/Exception"], Bundle.fit n = true := by decide +kernel
/-- the throw of cls by the constructor at ic of EchoCouncil's pool: all that a program decides -/
def excOk (ik ic : Nat) (cls : String) : Prop :=
  Bundle.fit cls = true ∧ Cond.classLink "EchoCouncil" ik cls ∈ lw_tbl ∧ Cond.initialized cls ∈ lw_tbl ∧ (∀ w ∈ (vx_atS "EchoCouncil" ic cls ["java/lang/RuntimeException", "java/lang/Exception"]).filter goodWord, w ∈ lw_tbl) ∧
  (∀ w ∈ (vx_atS "EchoCouncil" ic cls ["java/lang/RuntimeException", "java/lang/Exception"]).filter (fun w => !goodWord w), w ∈ Cond.castable cls cls :: sDec.map (fun x => Cond.declares (Bundle.initS x))) ∧
  (∀ w ∈ Cond.classLink "EchoCouncil" ik cls :: Cond.initialized cls :: vx_atS "EchoCouncil" ic cls ["java/lang/RuntimeException", "java/lang/Exception"], vx_ot w = true) ∧ cls ∈ sExc
theorem isX.en {g : aG} (h : isX g) {U : State} {H : Heap} (e : gEn g U H) : EnvX (gA g) (gK g) U H := h.2.2.2.2 U H e
section CORE3
variable {f : aF} {g : aG} {cc : ByteArray} {nL : Nat} {own : String} {pc : Nat} {L : List (Option Value)} {st : List Value} {q : aS} {k n : Nat}
theorem a_hat (hC : aOK f g cc nL own) (hT : EnvT (gA g) (f_s f) (f_s f).heap) {ik ic : Nat} {cls : String} (ho : excOk ik ic cls) : ∀ w ∈ vx_atS "EchoCouncil" ic cls ["java/lang/RuntimeException", "java/lang/Exception"], w.before (f_a f) (f_s f) = true :=
  vx_hat (B := Cond.castable cls cls :: sDec.map (fun x => Cond.declares (Bundle.initS x))) (fun w hw => hC.w (ho.2.2.2.1 w hw) (List.mem_filter.mp hw).2) ho.2.2.2.2.1 (fun w hw => by
    rcases List.mem_cons.mp hw with rfl | hw
    · exact (hT.2.2.1 cls ho.2.2.2.2.2.2).1.use rfl
    · obtain ⟨x, hx, rfl⟩ := List.mem_map.mp hw
      exact ((hT.2.2.1 cls ho.2.2.2.2.2.2).2 x hx).use rfl)
theorem a_thrown (hC : aOK f g cc nL own) {X : String → aS → Prop} {cls : String} (hp : X cls q) {H : Heap} {locs : List Loc} {ex : va_W} (hI : aI g q ex H) (hS : va_S (gA g) (f_s f).heap H locs) (t : State) (h1 : H.size ≤ t.heap.size) (h2 : ∀ a : Nat, a < H.size → t.heap[a]? = H[a]?) : aX g X cls (f_s f) t :=
  ⟨q, trivial, ⟨hp, ex, hI.1, hI.2.1.kept (fun k9 x hx => h2 x.1 (hI.2.1 k9 x hx).lt), hI.2.2⟩, Nat.le_trans hS.1 h1, fun a ha hn => (h2 a (Nat.lt_of_lt_of_le ha hS.1)).trans (hS.2.1 a ha hn)⟩
theorem a_throw (hX : isX g) (hC : aOK f g cc nL "EchoCouncil") {N mcR msR : Nat} (hR : f_R f = aR N mcR msR) {Qc : Array Value → State → Outcome → State → Prop} {X : String → aS → Prop} {mc ms : Nat} (hQ : aEQ f g Qc X mc ms) {ik is ic : Nat} {cls text : String} (ho : excOk ik ic cls) (hm : (is, text) ∈ sMsg) (hL : L.length = nL) (hn : 8 ≤ N ∧ k + 1 ≤ mc ∧ n + 6 ≤ ms ∧ mc ≤ mcR ∧ ms ≤ msR) (hrest : (st.map fun v => v.category).sum ≤ 8)
    (d0 : decode cc pc = .ok (.new ik, 3)) (d3 : decode cc (pc + 3) = .ok (.dup, 1)) (d4 : decode cc (pc + 4) = .ok (.ldc is, 2)) (d6 : decode cc (pc + 6) = .ok (.invokespecial ic, 3)) (d9 : decode cc (pc + 9) = .ok (.athrow, 1)) (hp : X cls q) : AW f g pc L st q k n := by
  intro ls H locs ex hl hI hS
  have hT := (hX.en hC.en).2.1
  obtain ⟨sa, hsa⟩ := hT.2.2.2 (is, text) hm
  rw [hQ.1]
  exact vx_throwS hC.x hC.b hC.tr hC.o ho.1 excs_names (hC.w ho.2.1 rfl) (hC.w ho.2.2.1 rfl) hsa (a_hat hC hT ho) ho.2.2.2.2.2.1 hT.1 hT.2.1 hS (hl.1.trans (hL.trans hC.ml.symm)) d0 d3 d4 d6 d9 (fun x hx => (hQ.2 x hx).elim) (by rw [hR]; exact Nat.lt_of_lt_of_le (by decide) hn.1) (by rw [hR]; exact Nat.le_trans (Nat.add_le_add_right hrest _) (Nat.le_trans (by decide : 8 + (13 * (2 + 1) + 43) ≤ 60 * 8) (Nat.mul_le_mul_left 60 hn.1))) (by rw [hR]; exact Nat.le_trans hn.2.1 hn.2.2.2.1) (by rw [hR]; exact Nat.le_trans hn.2.2.1 hn.2.2.2.2) hC.lk (fun t _ h1 h2 => a_thrown hC hp hI hS t h1 h2) hS.2.2 hn.2.1 hn.2.2.1
theorem a_throwW (hX : isX g) (hC : aOK f g cc nL "EchoCouncil") {N mcR msR : Nat} (hR : f_R f = aR N mcR msR) {Qc : Array Value → State → Outcome → State → Prop} {X : String → aS → Prop} {mc ms : Nat} (hQ : aEQ f g Qc X mc ms) {ik is ic : Nat} {cls text : String} (ho : excOk ik ic cls) (hm : (is, text) ∈ sMsg) (hL : L.length = nL) (hn : 8 ≤ N ∧ k + 1 ≤ mc ∧ n + 6 ≤ ms ∧ mc ≤ mcR ∧ ms ≤ msR) (hrest : (st.map fun v => v.category).sum ≤ 8)
    (d0 : decode cc pc = .ok (.new ik, 3)) (d3 : decode cc (pc + 3) = .ok (.dup, 1)) (d4 : decode cc (pc + 4) = .ok (.ldc_w is, 3)) (d6 : decode cc (pc + 7) = .ok (.invokespecial ic, 3)) (d9 : decode cc (pc + 10) = .ok (.athrow, 1)) (hp : X cls q) : AW f g pc L st q k n := by
  intro ls H locs ex hl hI hS
  have hT := (hX.en hC.en).2.1
  obtain ⟨sa, hsa⟩ := hT.2.2.2 (is, text) hm
  rw [hQ.1]
  exact vx_throwSW hC.x hC.b hC.tr hC.o ho.1 excs_names (hC.w ho.2.1 rfl) (hC.w ho.2.2.1 rfl) hsa (a_hat hC hT ho) ho.2.2.2.2.2.1 hT.1 hT.2.1 hS (hl.1.trans (hL.trans hC.ml.symm)) d0 d3 d4 d6 d9 (fun x hx => (hQ.2 x hx).elim) (by rw [hR]; exact Nat.lt_of_lt_of_le (by decide) hn.1) (by rw [hR]; exact Nat.le_trans (Nat.add_le_add_right hrest _) (Nat.le_trans (by decide : 8 + (13 * (2 + 1) + 43) ≤ 60 * 8) (Nat.mul_le_mul_left 60 hn.1))) (by rw [hR]; exact Nat.le_trans hn.2.1 hn.2.2.2.1) (by rw [hR]; exact Nat.le_trans hn.2.2.1 hn.2.2.2.2) hC.lk (fun t _ h1 h2 => a_thrown hC hp hI hS t h1 h2) hS.2.2 hn.2.1 hn.2.2.1
/-- an exception of a callee that goes on to the caller -/
theorem a_outs (hC : aOK f g cc nL own) {Qc : Array Value → State → Outcome → State → Prop} {X : String → aS → Prop} {mcE msE : Nat} (hQ : aEQ f g Qc X mcE msE) (h1 : k ≤ mcE) (h2 : n ≤ msE) {E : String} {ce : Cell} {q9 : Addr} {u : aS} {t : State} {H1 : Heap} {locs1 : List Loc} {ls : Array Slot} {rest : List Value} (ht : t.heap = H1) (hp : X E u ∧ aWp g u t) (hS : va_S (gA g) (f_s f).heap H1 locs1) (hce : H1[q9]? = some ce) (hv : ce.vm = .none) (hcl : (f_s f).vm.findClass E = some ce.cls) :
    vx_W (f_p f) (f_l f) (f_e f) (f_R f) (f_s f) (f_m f) (f_a f) (f_b f) (f_me f) (f_c f) H1 locs1 k n (f_Q f) (F0 (f_m f) pc ls rest) q9 := by
  rw [hQ.1]
  refine vx_out (fun x hx => (hQ.2 x hx).elim) hC.lk hce hv hcl (fun t' ht' _ => ?_) hS.2.2 h1 h2
  obtain ⟨hx, ex, hI⟩ := hp
  rw [ht] at hI
  exact ⟨u, trivial, ⟨hx, ex, by rw [ht']; exact hI⟩, hS.F ht'⟩
theorem a_callVx {y : MethodName} {C : String} {bytes : ByteArray} {maxL n' mc ms N mcR msR index ci p Nf m : Nat} {ty : FieldType} {As : List Value} {T : u_T} {F : (Nat → Int32) → List Value} {P : Int32 → aS → Prop} {Qc : Array Value → State → Outcome → State → Prop} {X : String → aS → Prop} {mcE msE : Nat}
    (hC : aOK f g cc nL own) (hR : f_R f = aR N mcR msR) (hQ : aEQ f g Qc X mcE msE) (hE : k + mc ≤ mcE ∧ n + ms ≤ msE) (hm : aVm y C bytes maxL (some ty) m) (hw : Cond.methodLink own index y ∈ lw_tbl) (hc : aCl ci C T Nf) (hp : aOb g p ci F) (hfit : aFit maxL n' mc ms k n N mcR msR) {rest : List Value} (dg : decode cc pc = .ok (.invokevirtual index, 3))
    (hM : aMi (f_l f) g y (aWs y bytes maxL (some ty)) n' mc ms (.ref (gAd g p) :: As) q P X) (hst : st = As.reverse ++ .ref (gAd g p) :: rest) (hn : As.length = m) (hL : L.length = nL) (hrest : (rest.map fun v => v.category).sum ≤ 8) (kk : ∀ (r : Int32) (q' : aS), P r q' → AW f g (pc + 3) L (.int r :: rest) q' (k + mc) (n + ms)) : AW f g pc L st q k n := by
  intro ls H locs ex hl hI hS
  subst hst
  have hf := hfit.loc
  rw [← hR] at hf
  have hrun := vx_runV (rest := rest) (g := F0 (f_m f) pc ls (As.reverse ++ .ref (gAd g p) :: rest)) (locs := locs) (meth := f_me f) (below := f_b f) (e := f_e f) (cells := k) (slots := n) (S := (⟨hC.x, hC.b, hC.ml, hC.o, hC.ts⟩ : CallFix (f_p f) (f_m f) (f_c f) cc nL (f_s f) (f_a f) TW own)) hM (cwV m hC.ts (good_V hm hw) rfl rfl rfl hm.2.2.2.2 hf) (a_preV hC hI hS hc hp As) rfl hn (hl.1.trans hL) rfl (lv_room hrest) dg (by rw [hR]; exact ⟨hfit.2.2.1, hfit.2.2.2⟩)
  refine vx_calli hrun hS (fun _ _ h => h) (fun _ h => h) (fun _ _ h => h) (fun E ce q9 u t H1 locs1 ht hvm _ hB _ _ hS1 hce hv hcl => a_outs hC hQ hE.1 hE.2 ht hB hS1 hce hv hcl) (fun r u t H1 locs1 ht hvm hp1 hB hz hk1 hS1 => ?_)
  obtain ⟨ex', hI'⟩ := hB
  rw [ht] at hI'
  exact kk r u hp1 ls H1 locs1 ex' hl hI' hS1
theorem a_callVvx {y : MethodName} {C : String} {bytes : ByteArray} {maxL n' mc ms N mcR msR index ci p Nf m : Nat} {As : List Value} {T : u_T} {F : (Nat → Int32) → List Value} {P : Int32 → aS → Prop} {Qc : Array Value → State → Outcome → State → Prop} {X : String → aS → Prop} {mcE msE : Nat}
    (hC : aOK f g cc nL own) (hR : f_R f = aR N mcR msR) (hQ : aEQ f g Qc X mcE msE) (hE : k + mc ≤ mcE ∧ n + ms ≤ msE) (hm : aVm y C bytes maxL none m) (hw : Cond.methodLink own index y ∈ lw_tbl) (hc : aCl ci C T Nf) (hp : aOb g p ci F) (hfit : aFit maxL n' mc ms k n N mcR msR) {rest : List Value} (dg : decode cc pc = .ok (.invokevirtual index, 3))
    (hM : aMv (f_l f) g y (aWs y bytes maxL none) n' mc ms (.ref (gAd g p) :: As) q P X) (hst : st = As.reverse ++ .ref (gAd g p) :: rest) (hn : As.length = m) (hL : L.length = nL) (hrest : (rest.map fun v => v.category).sum ≤ 8) (kk : ∀ (q' : aS), P 0 q' → AW f g (pc + 3) L rest q' (k + mc) (n + ms)) : AW f g pc L st q k n := by
  intro ls H locs ex hl hI hS
  subst hst
  have hf := hfit.loc
  rw [← hR] at hf
  have hrun := vx_runV (rest := rest) (g := F0 (f_m f) pc ls (As.reverse ++ .ref (gAd g p) :: rest)) (locs := locs) (meth := f_me f) (below := f_b f) (e := f_e f) (cells := k) (slots := n) (S := (⟨hC.x, hC.b, hC.ml, hC.o, hC.ts⟩ : CallFix (f_p f) (f_m f) (f_c f) cc nL (f_s f) (f_a f) TW own)) hM (cwV m hC.ts (good_V hm hw) rfl rfl rfl hm.2.2.2.2 hf) (a_preV hC hI hS hc hp As) rfl hn (hl.1.trans hL) rfl (lv_room hrest) dg (by rw [hR]; exact ⟨hfit.2.2.1, hfit.2.2.2⟩)
  refine vx_callv hrun hS (fun _ _ h => h) (fun _ h => h) (fun _ _ h => h) (fun E ce q9 u t H1 locs1 ht hvm _ hB _ _ hS1 hce hv hcl => a_outs hC hQ hE.1 hE.2 ht hB hS1 hce hv hcl) (fun u t H1 locs1 ht hvm hp1 hB hz hk1 hS1 => ?_)
  obtain ⟨ex', hI'⟩ := hB
  rw [ht] at hI'
  exact kk u hp1 ls H1 locs1 ex' hl hI' hS1
theorem AW.widen {k2 n2 : Nat} (h1 : k ≤ k2) (h2 : n ≤ n2) (kk : AW f g pc L st q k2 n2) : AW f g pc L st q k n := fun ls H locs ex hl hI hS => W.widen h1 h2 (kk ls H locs ex hl hI hS)
/-! constants -/
theorem a_gets (hC : aOK f g cc nL own) {C d nm : String} {v : Value} {index : Nat} (hZ : va_Z C nm d v (gA g) (f_s f) (f_s f).heap) (hw : Cond.fieldLink own index C nm d ∈ lw_tbl) (dg : decode cc pc = .ok (.getstatic index, 3)) (kk : AW f g (pc + 3) L (v :: st) q k n) : AW f g pc L st q k n := fun ls H locs ex hl hI hS =>
  va_gets hC.x hC.b hZ hS hC.o (hC.w hw rfl) (fun _ h => h) dg (kk ls H locs ex hl hI hS)
theorem a_getsN (hC : aOK f g cc nL own) {C d nm host : String} {v : Value} {index : Nat} (hZ : va_Z C nm d v (gA g) (f_s f) (f_s f).heap) (hw : va_Nw (.fieldLinkNest own index C nm d host) (f_s f)) (dg : decode cc pc = .ok (.getstatic index, 3)) (kk : AW f g (pc + 3) L (v :: st) q k n) : AW f g pc L st q k n := fun ls H locs ex hl hI hS =>
  va_getsN hC.x hC.b hZ hS hC.o (hw.use rfl) (fun _ h => h) dg (kk ls H locs ex hl hI hS)
theorem a_tini (hC : aOK f g cc nL own) {t N : Nat} {fv : Nat → Value} (hT : va_T .int t N fv (gA g) (f_s f) (f_s f).heap) {i : Int32} (hin : vp_in i N) (dg : decode cc pc = .ok (.iaload, 1)) (kk : AW f g (pc + 1) L (fv i.toNatClampNeg :: st) q k n) : AW f g pc L (.int i :: .ref t :: st) q k n := fun ls H locs ex hl hI hS =>
  va_ti hC.x hC.b hT hS hin rfl dg (kk ls H locs ex hl hI hS)
theorem a_tinb (hC : aOK f g cc nL own) {t N : Nat} {fv : Nat → Value} (hT : va_T .byte t N fv (gA g) (f_s f) (f_s f).heap) {i : Int32} (hin : vp_in i N) (dg : decode cc pc = .ok (.baload, 1)) (kk : AW f g (pc + 1) L (fv i.toNatClampNeg :: st) q k n) : AW f g pc L (.int i :: .ref t :: st) q k n := fun ls H locs ex hl hI hS =>
  va_tb hC.x hC.b hT hS hin rfl dg (kk ls H locs ex hl hI hS)
theorem a_tinq (hC : aOK f g cc nL own) {t N : Nat} {C : String} {fv : Nat → Value} (hT : va_T (.object C) t N fv (gA g) (f_s f) (f_s f).heap) {i : Int32} (hin : vp_in i N) {a : Nat} (ha : fv i.toNatClampNeg = .ref a) (dg : decode cc pc = .ok (.aaload, 1)) (kk : AW f g (pc + 1) L (.ref a :: st) q k n) : AW f g pc L (.int i :: .ref t :: st) q k n := fun ls H locs ex hl hI hS =>
  vb_tq hC.x hC.b hT hS hin ha dg (kk ls H locs ex hl hI hS)
theorem a_tlen (hC : aOK f g cc nL own) {t N : Nat} {ty : FieldType} {fv : Nat → Value} (hT : va_T ty t N fv (gA g) (f_s f) (f_s f).heap) (dg : decode cc pc = .ok (.arraylength, 1)) (kk : AW f g (pc + 1) L (.int (Int32.ofNat N) :: st) q k n) : AW f g pc L (.ref t :: st) q k n := fun ls H locs ex hl hI hS =>
  va_tlen hC.x hC.b hT hS rfl dg (kk ls H locs ex hl hI hS)
/-- a field of a constant object -/
theorem a_getf (hC : aOK f g cc nL own) {o d nm : String} {v : Value} {t index : Nat} (hE : va_OF o nm d v t (gA g) (f_s f) (f_s f).heap) (hw : Cond.fieldLink own index o nm d ∈ lw_tbl) (dg : decode cc pc = .ok (.getfield index, 3)) (kk : AW f g (pc + 3) L (v :: st) q k n) : AW f g pc L (.ref t :: st) q k n := fun ls H locs ex hl hI hS =>
  vk_getf hC.x hC.b hE hS hC.o (hC.w hw rfl) (fun _ h => h) dg (kk ls H locs ex hl hI hS)
end CORE3
/-- a plain method by its own, out of one that may throw what can't be -/
theorem aMet_of {l : Launch} {y : MethodName} {ws : List Cond} {rm : Room} {Pc : Array Value → State → Prop} {Qc : Array Value → State → Outcome → State → Prop} {XC : String → State → State → Prop} {mc ms : Nat} {free : Addr → Prop} (h : vx_Met l y ws rm Pc Qc XC mc ms free) (hx : ∀ E s t, ¬ XC E s t) : Met l y ws rm Pc Qc mc ms free := by
  intro p e h1 h2 h3 s m args below h4 h5 h6 h7
  obtain ⟨n, o, a1, a2, a3, a4⟩ := h p e h1 h2 h3 s m args below h4 h5 h6 h7
  refine ⟨n, o, a1, a2, a3, ?_⟩
  rcases a4 with a4 | ⟨q, -, E, ce, L, hxe, -⟩
  · exact a4
  · exact (hx _ _ _ hxe).elim
theorem aX_no {g : aG} : ∀ (E : String) (s t : State), ¬ aX g (fun _ _ => False) E s t := fun _ _ _ ⟨_, _, h, _⟩ => h.1
/-! the kinds of orders -/
section KIND
variable {f : aF} {g : aG} {cc : ByteArray} {nL : Nat} {own : String} {pc : Nat} {L : List (Option Value)} {st : List Value} {q : aS} {k n : Nat}
theorem eF_ord {i : Nat} (hi : i < 10) : ([0, 1, 2, 3, 4, 5, 6, 7, 8, 9] : List Int32).getD i 0 = nI i := by
  rcases (show i = 0 ∨ i = 1 ∨ i = 2 ∨ i = 3 ∨ i = 4 ∨ i = 5 ∨ i = 6 ∨ i = 7 ∨ i = 8 ∨ i = 9 by omega) with rfl | rfl | rfl | rfl | rfl | rfl | rfl | rfl | rfl | rfl <;> rfl
def kNum (i : Nat) : Int32 := ([1, 2, 2, 2, 1, 2, 3, 2, 1, 0] : List Int32).getD i 0
def kDig (i : Nat) : Int32 := ([1, 1, 2, 1, 1, 1, 1, 1, 1, 0] : List Int32).getD i 0
theorem a_kget (hX : isX g) (hC : aOK f g cc nL own) {i : Nat} (hi : i < 10) {p : String × String × String × List Int32} (hp : p ∈ eF) {index : Nat} (hw : Cond.fieldLink own index p.1 p.2.1 p.2.2.1 ∈ lw_tbl) {v : Int32} (hv : p.2.2.2.getD i 0 = v) (dg : decode cc pc = .ok (.getfield index, 3)) (kk : AW f g (pc + 3) L (.int v :: st) q k n) : AW f g pc L (.ref (gK g i) :: st) q k n :=
  a_getf hC (((hX.en hC.en).2.2.1.1 i hi).2.2 p hp) hw dg (by rw [hv]; exact kk)
theorem a_kst (hX : isX g) (hC : aOK f g cc nL own) (i : Nat) (hi : i < 10) {nm : String} (hn : eNm.getD i "" = nm) {index : Nat} (hw : Cond.fieldLink own index "EchoCouncil$OrderKind" nm "LEchoCouncil$OrderKind;" ∈ lw_tbl) (dg : decode cc pc = .ok (.getstatic index, 3)) (kk : AW f g (pc + 3) L (.ref (gK g i) :: st) q k n) : AW f g pc L st q k n :=
  a_gets hC (by rw [← hn]; exact ((hX.en hC.en).2.2.1.1 i hi).1) hw dg kk
theorem a_sw (hX : isX g) (hC : aOK f g cc nL own) {index : Nat} (hw : Cond.fieldLink own index "EchoCouncil$1" "$SwitchMap$EchoCouncil$OrderKind" "[I" ∈ lw_tbl) (dg : decode cc pc = .ok (.getstatic index, 3)) (kk : AW f g (pc + 3) L (.ref (gK g 11) :: st) q k n) : AW f g pc L st q k n :=
  a_gets hC (hX.en hC.en).2.2.2.2.2.1 hw dg kk
theorem a_swi (hX : isX g) (hC : aOK f g cc nL own) {i : Nat} (hi : i < 10) (dg : decode cc pc = .ok (.iaload, 1)) (kk : AW f g (pc + 1) L (.int (swI i) :: st) q k n) : AW f g pc L (.int (nI i) :: .ref (gK g 11) :: st) q k n :=
  a_tini hC (hX.en hC.en).2.2.2.2.2.2.1 (vp_in_nI hi (by decide)) dg (by rw [nI_clamp (show i < 2 ^ 31 by omega)]; exact kk)
theorem a_kinds (hX : isX g) (hC : aOK f g cc nL "EchoCouncil$OrderText") (dg : decode cc pc = .ok (.getstatic 51, 3)) (kk : AW f g (pc + 3) L (.ref (gK g 10) :: st) q k n) : AW f g pc L st q k n :=
  a_getsN hC (hX.en hC.en).2.2.2.1 (hX.en hC.en).2.2.2.2.2.2.2.1 dg kk
theorem a_kindsi (hX : isX g) (hC : aOK f g cc nL own) {i : Int32} (hin : vp_in i 10) (dg : decode cc pc = .ok (.aaload, 1)) (kk : AW f g (pc + 1) L (.ref (gK g i.toNatClampNeg) :: st) q k n) : AW f g pc L (.int i :: .ref (gK g 10) :: st) q k n :=
  a_tinq hC (hX.en hC.en).2.2.2.2.1 hin rfl dg kk
theorem a_kindsl (hX : isX g) (hC : aOK f g cc nL own) (dg : decode cc pc = .ok (.arraylength, 1)) (kk : AW f g (pc + 1) L (.int 10 :: st) q k n) : AW f g pc L (.ref (gK g 10) :: st) q k n :=
  a_tlen hC (hX.en hC.en).2.2.2.2.1 dg kk
end KIND

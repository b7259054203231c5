/-! more rows: constants, shifts, doubles and floats -/
def aMd (l : Launch) (g : aG) (y : MethodName) (ws : List Cond) (n mc ms : Nat) (As : List Value) (q : aS) (P : UInt64 → aS → Prop) (X : String → aS → Prop) : Prop :=
  vx_Met l y ws (aR n mc ms) (va_Pc As (aWd g q)) (va_Qd P (aWp g) (gA g)) (aX g X) mc ms (gA g)
def aMf (l : Launch) (g : aG) (y : MethodName) (ws : List Cond) (n mc ms : Nat) (As : List Value) (q : aS) (P : UInt32 → aS → Prop) (X : String → aS → Prop) : Prop :=
  vx_Met l y ws (aR n mc ms) (va_Pc As (aWd g q)) (va_Qf P (aWp g) (gA g)) (aX g X) mc ms (gA g)
section CORE2
variable {f : aF} {g : aG} {cc : ByteArray} {nL : Nat} {own : String} {pc : Nat} {L : List (Option Value)} {st : List Value} {q : aS} {k n : Nat}
def aEd (f : aF) (g : aG) (P : UInt64 → aS → Prop) (X : String → aS → Prop) (mc ms : Nat) : Prop :=
  aEQ f g (va_Qd P (aWp g) (gA g)) X mc ms ∧ (f_me f).sig.returnType = some .double
def aEf (f : aF) (g : aG) (P : UInt32 → aS → Prop) (X : String → aS → Prop) (mc ms : Nat) : Prop :=
  aEQ f g (va_Qf P (aWp g) (gA g)) X mc ms ∧ (f_me f).sig.returnType = some .float
theorem aMd_of {l : Launch} {y : MethodName} {maxL mc ms : Nat} {As : List Value} {P : UInt64 → aS → Prop} {X : String → aS → Prop} (own : String) (hy : plainName y.cls = true ∧ y.cls = own) (hcat : ∀ v ∈ As, v.category = 1) (hlen : As.length ≤ maxL) (hl : l.stackTraces = false) (hcl : gCl g)
    (body : ∀ f : aF, f_R f = aR n mc ms → aOK f g cc maxL own → aEd f g P X mc ms → AW f g 0 (As.map some ++ List.replicate (maxL - As.length) none) [] q 0 0) : aMd l g y (aWs y cc maxL (some .double)) n mc ms As q P X := by
  refine vx_ofW (cc := cc) (maxL := maxL) (ret := some .double) hy.1 rfl ?_
  intro p e s m args below meth c s₁ B hml ht hv
  obtain ⟨rfl, ⟨ex, hI⟩, hK, hA, hEn⟩ := hv
  have hts := atoms_spec (ws := aWs y cc maxL (some .double)) B.pre
  have hown : s.vm.findClass own = some m.cls := by rw [← hy.2]; exact findClass_of_methodNamed B.named
  have h := body (p, l, e, (headSpec (aWs y cc maxL (some .double)) (aR n mc ms)).room, s, m, As.toArray, below, meth, c, vx_MQ below (va_Qd P (aWp g) (gA g)) (aX g X) As.toArray s mc ms (gA g)) rfl
    ⟨B.exec, B.bytes, hml, hown, fun w hw => hts w (List.mem_cons_of_mem _ hw), hK, B.notSynchronized, hEn, hA, hl, hcl⟩ ⟨⟨rfl, ht⟩, B.returns⟩
  rw [lg_entry_eq]
  exact h _ _ [] ex (lw_entry As hcat hlen) hI va_S.rf
theorem aMf_of {l : Launch} {y : MethodName} {maxL mc ms : Nat} {As : List Value} {P : UInt32 → aS → Prop} {X : String → aS → Prop} (own : String) (hy : plainName y.cls = true ∧ y.cls = own) (hcat : ∀ v ∈ As, v.category = 1) (hlen : As.length ≤ maxL) (hl : l.stackTraces = false) (hcl : gCl g)
    (body : ∀ f : aF, f_R f = aR n mc ms → aOK f g cc maxL own → aEf f g P X mc ms → AW f g 0 (As.map some ++ List.replicate (maxL - As.length) none) [] q 0 0) : aMf l g y (aWs y cc maxL (some .float)) n mc ms As q P X := by
  refine vx_ofW (cc := cc) (maxL := maxL) (ret := some .float) hy.1 rfl ?_
  intro p e s m args below meth c s₁ B hml ht hv
  obtain ⟨rfl, ⟨ex, hI⟩, hK, hA, hEn⟩ := hv
  have hts := atoms_spec (ws := aWs y cc maxL (some .float)) B.pre
  have hown : s.vm.findClass own = some m.cls := by rw [← hy.2]; exact findClass_of_methodNamed B.named
  have h := body (p, l, e, (headSpec (aWs y cc maxL (some .float)) (aR n mc ms)).room, s, m, As.toArray, below, meth, c, vx_MQ below (va_Qf P (aWp g) (gA g)) (aX g X) As.toArray s mc ms (gA g)) rfl
    ⟨B.exec, B.bytes, hml, hown, fun w hw => hts w (List.mem_cons_of_mem _ hw), hK, B.notSynchronized, hEn, hA, hl, hcl⟩ ⟨⟨rfl, ht⟩, B.returns⟩
  rw [lg_entry_eq]
  exact h _ _ [] ex (lw_entry As hcat hlen) hI va_S.rf
theorem a_dret (hC : aOK f g cc nL own) {P : UInt64 → aS → Prop} {X : String → aS → Prop} {mc ms : Nat} (hE : aEd f g P X mc ms) {v : UInt64} (hp : P v q) (h1 : k ≤ mc) (h2 : n ≤ ms) (dg : decode cc pc = .ok (.dreturn, 1)) : AW f g pc L [.double v] q k n := by
  intro ls H locs ex hl hI hS
  rw [hE.1.1]
  exact W.widen h1 h2 (vx_ret (W.dret hC.x hC.b hE.2 (fun t ht hW => ⟨⟨v, q, rfl, hp, ⟨ex, by rw [ht]; exact hI⟩⟩, hS.F ht⟩) hS.2.2 dg hC.lk))
theorem a_fret (hC : aOK f g cc nL own) {P : UInt32 → aS → Prop} {X : String → aS → Prop} {mc ms : Nat} (hE : aEf f g P X mc ms) {v : UInt32} (hp : P v q) (h1 : k ≤ mc) (h2 : n ≤ ms) (dg : decode cc pc = .ok (.freturn, 1)) : AW f g pc L [.float v] q k n := by
  intro ls H locs ex hl hI hS
  rw [hE.1.1]
  exact W.widen h1 h2 (vx_ret (W.fret hC.x hC.b hE.2 (fun t ht hW => ⟨⟨v, q, rfl, hp, ⟨ex, by rw [ht]; exact hI⟩⟩, hS.F ht⟩) hS.2.2 dg hC.lk))
theorem a_i2d (hC : aOK f g cc nL own) {x : Int32} (dg : decode cc pc = .ok (.i2d, 1)) (kk : AW f g (pc + 1) L (.double (FP.i2d x) :: st) q k n) : AW f g pc L (.int x :: st) q k n := fun ls H locs ex hl hI hS => lv_i2d hC.x hC.b dg (kk ls H locs ex hl hI hS)
theorem a_i2f (hC : aOK f g cc nL own) {x : Int32} (dg : decode cc pc = .ok (.i2f, 1)) (kk : AW f g (pc + 1) L (.float (FP.i2f x) :: st) q k n) : AW f g pc L (.int x :: st) q k n := fun ls H locs ex hl hI hS => lv_i2f hC.x hC.b dg (kk ls H locs ex hl hI hS)
theorem a_ddiv (hC : aOK f g cc nL own) {x y : UInt64} (dg : decode cc pc = .ok (.ddiv, 1)) (hne : vf_n64 (FP.ddiv x y)) (kk : AW f g (pc + 1) L (.double (FP.ddiv x y) :: st) q k n) : AW f g pc L (.double y :: .double x :: st) q k n := fun ls H locs ex hl hI hS => lv_ddiv hC.x hC.b dg hne (kk ls H locs ex hl hI hS)
theorem a_fdiv (hC : aOK f g cc nL own) {x y : UInt32} (dg : decode cc pc = .ok (.fdiv, 1)) (hne : vf_n32 (FP.fdiv x y)) (kk : AW f g (pc + 1) L (.float (FP.fdiv x y) :: st) q k n) : AW f g pc L (.float y :: .float x :: st) q k n := fun ls H locs ex hl hI hS => lv_fdiv hC.x hC.b dg hne (kk ls H locs ex hl hI hS)
theorem a_dconst0 (hC : aOK f g cc nL own) (dg : decode cc pc = .ok (.dconst 0, 1)) (kk : AW f g (pc + 1) L (.double FP.dconst0 :: st) q k n) : AW f g pc L st q k n := fun ls H locs ex hl hI hS => lv_dconst0 hC.x hC.b dg (kk ls H locs ex hl hI hS)
theorem a_fconst0 (hC : aOK f g cc nL own) (dg : decode cc pc = .ok (.fconst 0, 1)) (kk : AW f g (pc + 1) L (.float FP.fconst0 :: st) q k n) : AW f g pc L st q k n := fun ls H locs ex hl hI hS => lv_fconst0 hC.x hC.b dg (kk ls H locs ex hl hI hS)
def ushr (x y : Int32) : Int32 := (x.toUInt32 >>> (y.toUInt32 &&& Int32.toUInt32 31)).toInt32
theorem a_iushr (hC : aOK f g cc nL own) {x y : Int32} (dg : decode cc pc = .ok (.iushr, 1)) (kk : AW f g (pc + 1) L (.int (ushr x y) :: st) q k n) : AW f g pc L (.int y :: .int x :: st) q k n := fun ls H locs ex hl hI hS => lv_iushr hC.x hC.b dg rfl (kk ls H locs ex hl hI hS)
theorem a_ishr (hC : aOK f g cc nL own) {x y : Int32} (dg : decode cc pc = .ok (.ishr, 1)) (kk : AW f g (pc + 1) L (.int (x >>> (y &&& 31)) :: st) q k n) : AW f g pc L (.int y :: .int x :: st) q k n := fun ls H locs ex hl hI hS => lv_ishr hC.x hC.b dg (kk ls H locs ex hl hI hS)
theorem a_ineg (hC : aOK f g cc nL own) {x : Int32} (dg : decode cc pc = .ok (.ineg, 1)) (kk : AW f g (pc + 1) L (.int (-x) :: st) q k n) : AW f g pc L (.int x :: st) q k n := fun ls H locs ex hl hI hS => lv_ineg hC.x hC.b dg (kk ls H locs ex hl hI hS)
theorem a_ldcwI (hC : aOK f g cc nL own) {index : Nat} {v : Int32} (hw : Cond.constant own index v ∈ lw_tbl) (dg : decode cc pc = .ok (.ldc_w index, 3)) (kk : AW f g (pc + 3) L (.int v :: st) q k n) : AW f g pc L st q k n := fun ls H locs ex hl hI hS => lv_ldcw hC.x hC.b hC.o (hC.w hw rfl) dg (kk ls H locs ex hl hI hS)
theorem a_ldcI (hC : aOK f g cc nL own) {index : Nat} {v : Int32} (hw : Cond.constant own index v ∈ lw_tbl) (dg : decode cc pc = .ok (.ldc index, 2)) (kk : AW f g (pc + 2) L (.int v :: st) q k n) : AW f g pc L st q k n := fun ls H locs ex hl hI hS => lv_ldc hC.x hC.b hC.o (hC.w hw rfl) dg (kk ls H locs ex hl hI hS)
end CORE2

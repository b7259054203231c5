/-! An abstract machine over the kit's rows: a world is a list of gN cells of fixed shape (classes, references), its numbers are one function d : place -> slot -> number; beside it a list of letters (the line of text). -/
def upR (d : Nat → Nat → Int32) (k : Nat) (f : Nat → Int32) : Nat → Nat → Int32 := fun a => if a = k then f else d a
def up2 (d : Nat → Nat → Int32) (k j : Nat) (x : Int32) : Nat → Nat → Int32 := upR d k (upd (d k) j x)
abbrev aS : Type := (Nat → Nat → Int32) × List Nat
abbrev aG : Type := va_G × List (ClassId × FieldType) × (Nat → (Nat → Int32) → va_E) × Nat × (Nat → Nat) × (List Nat → va_W → Prop) × (State → Heap → Prop) × (Nat → Prop) × (Nat → Nat)
def gD (g : aG) : va_G := g.1
def gT (g : aG) : List (ClassId × FieldType) := g.2.1
def gSh (g : aG) : Nat → (Nat → Int32) → va_E := g.2.2.1
def gN (g : aG) : Nat := g.2.2.2.1
def gAd (g : aG) : Nat → Nat := g.2.2.2.2.1
def gEX (g : aG) : List Nat → va_W → Prop := g.2.2.2.2.2.1
def gEn (g : aG) : State → Heap → Prop := g.2.2.2.2.2.2.1
def gA (g : aG) : Nat → Prop := g.2.2.2.2.2.2.2.1
def gK (g : aG) : Nat → Nat := g.2.2.2.2.2.2.2.2
/-- the class of the arrays of kind i -/
def gc (g : aG) (i : Nat) : ClassId := ((gT g).getD i (0, .int)).1
theorem gc_at {g : aG} {i : Nat} {ty : FieldType} {l : List FieldType} (h : (gT g).map Prod.snd = l) (hi : l[i]? = some ty) : (gT g)[i]? = some (gc g i, ty) := by
  subst h
  rw [List.getElem?_map] at hi
  unfold gc
  cases hq : (gT g)[i]? with
  | none => rw [hq] at hi; cases hi
  | some x =>
    rw [hq] at hi
    cases hi
    rw [List.getD_eq_getElem?_getD, hq]
    rfl
def aWl (g : aG) (d : Nat → Nat → Int32) : va_W := (List.range (gN g)).map (fun k => (gAd g k, gSh g k (d k)))
theorem aWl_len (g : aG) (d : Nat → Nat → Int32) : (aWl g d).length = gN g := by simp [aWl]
theorem aWl_at (g : aG) (d : Nat → Nat → Int32) (ex : va_W) {k : Nat} (hk : k < gN g) : (aWl g d ++ ex)[k]? = some (gAd g k, gSh g k (d k)) := by
  rw [List.getElem?_append_left (by rw [aWl_len]; exact hk)]
  simp [aWl, hk]
theorem aWl_set (g : aG) (d : Nat → Nat → Int32) (ex : va_W) {k : Nat} (hk : k < gN g) (f : Nat → Int32) : (aWl g d ++ ex).set k (gAd g k, gSh g k f) = aWl g (upR d k f) ++ ex := by
  rw [List.set_append_left _ _ (by rw [aWl_len]; exact hk)]
  congr 1
  apply List.ext_getElem?
  intro i
  rw [List.getElem?_set, aWl_len]
  by_cases hi : i < gN g
  · by_cases e : k = i
    · subst e
      simp [aWl, hk, upR]
    · have e' : ¬ i = k := fun q => e q.symm
      simp [aWl, hi, upR, e, e']
  · have e : ¬ k = i := by omega
    simp [aWl, hi, e]
def aI (g : aG) (q : aS) (ex : va_W) (H : Heap) : Prop := gEX g q.2 ex ∧ va_P (gD g) vwCl (aWl g q.1 ++ ex) H ∧ va_D (gA g) (aWl g q.1 ++ ex)
def aWd (g : aG) (q : aS) (U : State) : Prop := (∃ ex, aI g q ex U.heap) ∧ va_K (gD g) vwCl (gT g) U ∧ (∀ a, U.heap.size ≤ a → gA g a) ∧ gEn g U U.heap
/-- the world behind a method -/
def aWp (g : aG) (q : aS) (U : State) : Prop := ∃ ex, aI g q ex U.heap
def gCl (g : aG) : Prop := ∀ (u U : State) (H H1 : Heap), u.WarmedH U.vm → (∀ a : Nat, a < H.size → ¬ gA g a → H1[a]? = H[a]?) → gEn g u H → gEn g U H1
def aR (n mc ms : Nat) : Room := { frames := n, cells := mc, slots := ms, locals := 60 * n }
def aWs (y : MethodName) (cc : ByteArray) (maxL : Nat) (ret : Option FieldType) : List Cond := Cond.code y cc maxL ret :: TW
def aX (g : aG) (X : String → aS → Prop) : String → State → State → Prop := vx_X (fun _ : aS => True) (fun E u t => X E u ∧ aWp g u t) (gA g)
/-- a method that answers an int (or boolean, char): P of the answer and the world behind it -/
def aMi (l : Launch) (g : aG) (y : MethodName) (ws : List Cond) (n mc ms : Nat) (As : List Value) (q : aS) (P : Int32 → aS → Prop) (X : String → aS → Prop) : Prop :=
  vx_Met l y ws (aR n mc ms) (va_Pc As (aWd g q)) (va_Qi P (aWp g) (gA g)) (aX g X) mc ms (gA g)
def aMv (l : Launch) (g : aG) (y : MethodName) (ws : List Cond) (n mc ms : Nat) (As : List Value) (q : aS) (P : Int32 → aS → Prop) (X : String → aS → Prop) : Prop :=
  vx_Met l y ws (aR n mc ms) (va_Pc As (aWd g q)) (va_Qv (P 0) (aWp g) (gA g)) (aX g X) mc ms (gA g)
theorem aBlind {g : aG} (hcl : gCl g) (As : List Value) (q : aS) : FrameBlind (va_Pc As (aWd g q)) := by
  intro a U g9 mk ⟨h1, h2, h3, h4, h5⟩
  exact ⟨h1, h2, va_K.moved (u := U) (U := U.calling g9 mk a) (Vm.Alike.refl U.vm) h3, h4, hcl U (U.calling g9 mk a) U.heap U.heap (State.WarmedH.refl U) (fun _ _ _ => rfl) h5⟩
/-! locals: a list of places -/
def lw_has (ls : Array Slot) (L : List (Option Value)) : Prop := ls.size = L.length ∧ lv_wf ls ∧ ∀ (i : Nat) (v : Value), L[i]? = some (some v) → ls[i]? = some (.val v) ∧ v.category = 1
def lw_prs (L : List (Option Value)) : List (Nat × Value) := (List.range L.length).filterMap (fun i => (L[i]?.join).map (fun v => (i, v)))
theorem lw_prs_mem {L : List (Option Value)} {i : Nat} {v : Value} : (i, v) ∈ lw_prs L ↔ L[i]? = some (some v) := by
  unfold lw_prs
  rw [List.mem_filterMap]
  constructor
  · rintro ⟨j, hj, h⟩
    cases hq : L[j]? with
    | none => rw [hq] at h; simp at h
    | some o =>
      rw [hq] at h
      cases o with
      | none => simp at h
      | some w =>
        simp at h
        obtain ⟨rfl, rfl⟩ := h
        exact hq
  · intro h
    have hl : i < L.length := (List.getElem?_eq_some_iff.mp h).1
    exact ⟨i, List.mem_range.mpr hl, by rw [h]; rfl⟩
theorem lw_has.to {ls : Array Slot} {L : List (Option Value)} (h : lw_has ls L) : lv_has ls L.length (lw_prs L) :=
  ⟨h.1, h.2.1, fun q hq => (h.2.2 q.1 q.2 (lw_prs_mem.mp hq)).1⟩
theorem lw_has.set {ls ls' : Array Slot} {L : List (Option Value)} {i : Nat} {x : Value} (h : lw_has ls L) (hc : x.category = 1) (h' : lv_has ls' L.length ((i, x) :: (lw_prs L).filter (fun q => !(q.1 == i) && !(q.1 + 1 == i && q.2.category == 2)))) : lw_has ls' (L.set i (some x)) := by
  refine ⟨by rw [List.length_set]; exact h'.1, h'.2.1, fun j v hj => ?_⟩
  rw [List.getElem?_set] at hj
  by_cases e : i = j
  · subst e
    by_cases hi : i < L.length
    · simp [hi] at hj
      subst hj
      exact ⟨h'.2.2 (i, x) List.mem_cons_self, hc⟩
    · simp [hi] at hj
  · rw [if_neg e] at hj
    have hcv := (h.2.2 j v hj).2
    refine ⟨h'.2.2 (j, v) (List.mem_cons_of_mem _ (List.mem_filter.mpr ⟨lw_prs_mem.mpr hj, ?_⟩)), hcv⟩
    have e' : ¬ j = i := fun q => e q.symm
    simp [e', hcv]
theorem lw_sl_len : ∀ (vs : List Value), (∀ v ∈ vs, v.category = 1) → (lg_sl vs).length = vs.length
  | [], _ => rfl
  | v :: vs, h => by
    have h1 := h v List.mem_cons_self
    have h2 := lw_sl_len vs (fun w hw => h w (List.mem_cons_of_mem _ hw))
    have e : lg_sl (v :: vs) = (if v.category = 2 then [.val v, .second] else [.val v]) ++ lg_sl vs := rfl
    rw [e, h1]
    simp [h2]
theorem lw_args_mem : ∀ (vs : List Value) (j : Nat), (∀ v ∈ vs, v.category = 1) → ∀ (i : Nat) (v : Value), vs[i]? = some v → (j + i, v) ∈ lv_args j vs
  | [], _, _, i, v, h => by simp at h
  | w :: vs, j, hc, i, v, h => by
    have h1 := hc w List.mem_cons_self
    have e : lv_args j (w :: vs) = (j, w) :: lv_args (j + 1) vs := by
      show (j, w) :: lv_args (if w.category = 2 then j + 2 else j + 1) vs = _
      rw [h1]; rfl
    rw [e]
    cases i with
    | zero => simp at h; subst h; exact List.mem_cons_self
    | succ i =>
      simp at h
      have := lw_args_mem vs (j + 1) (fun w hw => hc w (List.mem_cons_of_mem _ hw)) i v h
      rw [show j + 1 + i = j + (i + 1) by omega] at this
      exact List.mem_cons_of_mem _ this
theorem lw_entry (vs : List Value) {n : Nat} (hc : ∀ v ∈ vs, v.category = 1) (h : vs.length ≤ n) : lw_has ((lg_sl vs ++ List.replicate (n - (lg_sl vs).length) Slot.unset).toArray) (vs.map some ++ List.replicate (n - vs.length) none) := by
  have h0 := lv_entry vs (n := n) (by rw [lw_sl_len vs hc]; exact h)
  refine ⟨?_, h0.2.1, fun i v hi => ?_⟩
  · rw [h0.1]; simp; omega
  · by_cases hl : i < vs.length
    · rw [List.getElem?_append_left (by simpa using hl), List.getElem?_map] at hi
      cases hq : vs[i]? with
      | none => rw [hq] at hi; simp at hi
      | some w =>
        rw [hq] at hi
        simp at hi
        subst hi
        have := lw_args_mem vs 0 hc i w hq
        rw [Nat.zero_add] at this
        exact ⟨h0.2.2 (i, w) this, hc w (List.mem_of_getElem? hq)⟩
    · rw [List.getElem?_append_right (by simpa using hl)] at hi
      rw [List.getElem?_replicate] at hi
      split at hi <;> simp at hi
/-! the frame of a method that runs -/
abbrev aF : Type := Program × Launch × Env × Room × State × MethodId × Array Value × List Frame × Method × Code × (State → Prop)
def f_p (f : aF) : Program := f.1
def f_l (f : aF) : Launch := f.2.1
def f_e (f : aF) : Env := f.2.2.1
def f_R (f : aF) : Room := f.2.2.2.1
def f_s (f : aF) : State := f.2.2.2.2.1
def f_m (f : aF) : MethodId := f.2.2.2.2.2.1
def f_a (f : aF) : Array Value := f.2.2.2.2.2.2.1
def f_b (f : aF) : List Frame := f.2.2.2.2.2.2.2.1
def f_me (f : aF) : Method := f.2.2.2.2.2.2.2.2.1
def f_c (f : aF) : Code := f.2.2.2.2.2.2.2.2.2.1
def f_Q (f : aF) : State → Prop := f.2.2.2.2.2.2.2.2.2.2
def AW (f : aF) (g : aG) (pc : Nat) (L : List (Option Value)) (st : List Value) (q : aS) (k n : Nat) : Prop :=
  ∀ (ls : Array Slot) (H : Heap) (locs : List Loc) (ex : va_W), lw_has ls L → aI g q ex H → va_S (gA g) (f_s f).heap H locs → W (f_p f) (f_l f) (f_e f) (f_R f) (f_s f) (f_m f) (f_a f) (f_b f) (f_me f) (f_c f) H locs k n (f_Q f) (F0 (f_m f) pc ls st)
def aOK (f : aF) (g : aG) (cc : ByteArray) (nL : Nat) (own : String) : Prop :=
  (f_p f).tables.exec = Jvm.exec ∧ (f_c f).code = cc ∧ (f_c f).maxLocals = nL ∧ (f_s f).vm.findClass own = some (f_m f).cls ∧ (∀ w ∈ TW, w.before (f_a f) (f_s f) = true) ∧ va_K (gD g) vwCl (gT g) (f_s f) ∧ (f_me f).locks = false ∧
  gEn g (f_s f) (f_s f).heap ∧ (∀ a, (f_s f).heap.size ≤ a → gA g a) ∧ (f_l f).stackTraces = false ∧ gCl g
/-- fewer known locals -/
def lsub : List (Option Value) → List (Option Value) → Prop
  | [], [] => True
  | none :: a, _ :: b => lsub a b
  | some v :: a, w :: b => w = some v ∧ lsub a b
  | [], _ :: _ => False
  | _ :: _, [] => False
theorem lsub_get : ∀ (a b : List (Option Value)), lsub a b → a.length = b.length ∧ ∀ (i : Nat) (v : Value), a[i]? = some (some v) → b[i]? = some (some v)
  | [], [], _ => ⟨rfl, fun _ _ h => h⟩
  | [], _ :: _, h => h.elim
  | none :: a, _ :: b, h => by
    have h1 := lsub_get a b h
    refine ⟨by simp [h1.1], fun i v hi => ?_⟩
    cases i with
    | zero => simp at hi
    | succ i => simp at hi ⊢; exact h1.2 i v hi
  | some v :: a, w :: b, h => by
    have h1 := lsub_get a b h.2
    refine ⟨by simp [h1.1], fun i x hi => ?_⟩
    cases i with
    | zero => simp at hi ⊢; rw [h.1, hi]
    | succ i => simp at hi ⊢; exact h1.2 i x hi
  | none :: _, [], h => h.elim
  | some _ :: _, [], h => h.elim
theorem AW.forget {f : aF} {g : aG} {pc : Nat} {L L' : List (Option Value)} {st : List Value} {q : aS} {k n : Nat} (h : AW f g pc L' st q k n) (hs : lsub L' L) : AW f g pc L st q k n := by
  obtain ⟨h1, h2⟩ := lsub_get L' L hs
  intro ls H locs ex hl hI hS
  exact h ls H locs ex ⟨by rw [h1]; exact hl.1, hl.2.1, fun i v hi => hl.2.2 i v (h2 i v hi)⟩ hI hS
theorem cat_all {As : List Value} (h : As.all (fun v => v.category == 1) = true) : ∀ v ∈ As, v.category = 1 := fun v hv => by simpa using List.all_eq_true.mp h v hv
section CORE
variable {f : aF} {g : aG} {cc : ByteArray} {nL : Nat} {own : String} {pc : Nat} {L : List (Option Value)} {st : List Value} {q : aS} {k n : Nat}
theorem aOK.x (h : aOK f g cc nL own) : (f_p f).tables.exec = Jvm.exec := h.1
theorem aOK.b (h : aOK f g cc nL own) : (f_c f).code = cc := h.2.1
theorem aOK.ml (h : aOK f g cc nL own) : (f_c f).maxLocals = nL := h.2.2.1
theorem aOK.o (h : aOK f g cc nL own) : (f_s f).vm.findClass own = some (f_m f).cls := h.2.2.2.1
theorem aOK.ts (h : aOK f g cc nL own) : ∀ w ∈ TW, w.before (f_a f) (f_s f) = true := h.2.2.2.2.1
theorem aOK.K (h : aOK f g cc nL own) : va_K (gD g) vwCl (gT g) (f_s f) := h.2.2.2.2.2.1
theorem aOK.lk (h : aOK f g cc nL own) : (f_me f).locks = false := h.2.2.2.2.2.2.1
theorem aOK.en (h : aOK f g cc nL own) : gEn g (f_s f) (f_s f).heap := h.2.2.2.2.2.2.2.1
theorem aOK.A (h : aOK f g cc nL own) : ∀ a, (f_s f).heap.size ≤ a → gA g a := h.2.2.2.2.2.2.2.2.1
theorem aOK.tr (h : aOK f g cc nL own) : (f_l f).stackTraces = false := h.2.2.2.2.2.2.2.2.2.1
theorem aOK.cl (h : aOK f g cc nL own) : gCl g := h.2.2.2.2.2.2.2.2.2.2
theorem aOK.w (h : aOK f g cc nL own) {w : Cond} (hw : w ∈ lw_tbl) (hg : goodWord w = true) : w.before (f_a f) (f_s f) = true := h.ts w (tk_w hw hg)
theorem aWd_of (hC : aOK f g cc nL own) {H : Heap} {locs : List Loc} {ex : va_W} (hI : aI g q ex H) (hS : va_S (gA g) (f_s f).heap H locs) {U : State} (hU : U.heap = H) (hW : (f_s f).WarmedH U.vm) : aWd g q U := by
  refine ⟨⟨ex, by rw [hU]; exact hI⟩, va_K.moved hW.alike hC.K, fun a ha => hC.A a ?_, hC.cl _ _ _ _ hW (fun a h1 h2 => ?_) hC.en⟩
  · rw [hU] at ha; exact Nat.le_trans hS.1 ha
  · rw [hU]; exact hS.2.1 a h1 h2
/-- how a body ends; it has no table of handlers -/
def aEQ (f : aF) (g : aG) (Qc : Array Value → State → Outcome → State → Prop) (X : String → aS → Prop) (mc ms : Nat) : Prop :=
  f_Q f = vx_MQ (f_b f) Qc (aX g X) (f_a f) (f_s f) mc ms (gA g) ∧ ∀ x ∈ (f_c f).exceptionTable.toList, False
/-- .. with an int -/
def aEi (f : aF) (g : aG) (ty : FieldType) (P : Int32 → aS → Prop) (X : String → aS → Prop) (mc ms : Nat) : Prop :=
  aEQ f g (va_Qi P (aWp g) (gA g)) X mc ms ∧ (f_me f).sig.returnType = some ty
def aEv (f : aF) (g : aG) (P : Int32 → aS → Prop) (X : String → aS → Prop) (mc ms : Nat) : Prop :=
  aEQ f g (va_Qv (P 0) (aWp g) (gA g)) X mc ms ∧ (f_me f).sig.returnType = none
theorem aMi_of {l : Launch} {y : MethodName} {maxL mc ms : Nat} {ty : FieldType} {As : List Value} {P : Int32 → aS → Prop} {X : String → aS → Prop} (own : String) (hy : plainName y.cls = true ∧ y.cls = own) (hcat : ∀ v ∈ As, v.category = 1) (hlen : As.length ≤ maxL) (hl : l.stackTraces = false) (hcl : gCl g)
    (body : ∀ f : aF, f_R f = aR n mc ms → aOK f g cc maxL own → aEi f g ty P X mc ms → AW f g 0 (As.map some ++ List.replicate (maxL - As.length) none) [] q 0 0) : aMi l g y (aWs y cc maxL (some ty)) n mc ms As q P X := by
  refine vx_ofW (cc := cc) (maxL := maxL) (ret := some ty) hy.1 rfl ?_
  intro p e s m args below meth c s₁ B hml ht hv
  obtain ⟨rfl, ⟨ex, hI⟩, hK, hA, hEn⟩ := hv
  have hts := atoms_spec (ws := aWs y cc maxL (some ty)) B.pre
  have hown : s.vm.findClass own = some m.cls := by rw [← hy.2]; exact findClass_of_methodNamed B.named
  have h := body (p, l, e, (headSpec (aWs y cc maxL (some ty)) (aR n mc ms)).room, s, m, As.toArray, below, meth, c, vx_MQ below (va_Qi P (aWp g) (gA g)) (aX g X) As.toArray s mc ms (gA g)) rfl
    ⟨B.exec, B.bytes, hml, hown, fun w hw => hts w (List.mem_cons_of_mem _ hw), hK, B.notSynchronized, hEn, hA, hl, hcl⟩ ⟨⟨rfl, ht⟩, B.returns⟩
  rw [lg_entry_eq]
  exact h _ _ [] ex (lw_entry As hcat hlen) hI va_S.rf
theorem aMv_of {l : Launch} {y : MethodName} {maxL mc ms : Nat} {As : List Value} {P : Int32 → aS → Prop} {X : String → aS → Prop} (own : String) (hy : plainName y.cls = true ∧ y.cls = own) (hcat : ∀ v ∈ As, v.category = 1) (hlen : As.length ≤ maxL) (hl : l.stackTraces = false) (hcl : gCl g)
    (body : ∀ f : aF, f_R f = aR n mc ms → aOK f g cc maxL own → aEv f g P X mc ms → AW f g 0 (As.map some ++ List.replicate (maxL - As.length) none) [] q 0 0) : aMv l g y (aWs y cc maxL none) n mc ms As q P X := by
  refine vx_ofW (cc := cc) (maxL := maxL) (ret := none) hy.1 rfl ?_
  intro p e s m args below meth c s₁ B hml ht hv
  obtain ⟨rfl, ⟨ex, hI⟩, hK, hA, hEn⟩ := hv
  have hts := atoms_spec (ws := aWs y cc maxL none) B.pre
  have hown : s.vm.findClass own = some m.cls := by rw [← hy.2]; exact findClass_of_methodNamed B.named
  have h := body (p, l, e, (headSpec (aWs y cc maxL none) (aR n mc ms)).room, s, m, As.toArray, below, meth, c, vx_MQ below (va_Qv (P 0) (aWp g) (gA g)) (aX g X) As.toArray s mc ms (gA g)) rfl
    ⟨B.exec, B.bytes, hml, hown, fun w hw => hts w (List.mem_cons_of_mem _ hw), hK, B.notSynchronized, hEn, hA, hl, hcl⟩ ⟨⟨rfl, ht⟩, B.returns⟩
  rw [lg_entry_eq]
  exact h _ _ [] ex (lw_entry As hcat hlen) hI va_S.rf
theorem a_zret (hC : aOK f g cc nL own) {ty : FieldType} {P : Int32 → aS → Prop} {X : String → aS → Prop} {mc ms : Nat} (hE : aEi f g ty P X mc ms) {v : Int32} (hn : narrow ty (.int v) = .int v) (hp : P v q) (h1 : k ≤ mc) (h2 : n ≤ ms) (dg : decode cc pc = .ok (.ireturn, 1)) : AW f g pc L [.int v] q k n := by
  intro ls H locs ex hl hI hS
  rw [hE.1.1]
  exact W.widen h1 h2 (vx_ret (W.zret hC.x hC.b hE.2 hn (fun t ht hW => ⟨⟨v, q, rfl, hp, ⟨ex, by rw [ht]; exact hI⟩⟩, hS.F ht⟩) hS.2.2 dg hC.lk))
theorem a_iret (hC : aOK f g cc nL own) {P : Int32 → aS → Prop} {X : String → aS → Prop} {mc ms : Nat} (hE : aEi f g .int P X mc ms) {v : Int32} (hp : P v q) (h1 : k ≤ mc) (h2 : n ≤ ms) (dg : decode cc pc = .ok (.ireturn, 1)) : AW f g pc L [.int v] q k n := a_zret hC hE rfl hp h1 h2 dg
theorem a_bret (hC : aOK f g cc nL own) {P : Int32 → aS → Prop} {X : String → aS → Prop} {mc ms : Nat} (hE : aEi f g .boolean (fun r u => (r = 0 ∨ r = 1) ∧ P r u) X mc ms) {v : Int32} (hz : v = 0 ∨ v = 1) (hp : P v q) (h1 : k ≤ mc) (h2 : n ≤ ms) (dg : decode cc pc = .ok (.ireturn, 1)) : AW f g pc L [.int v] q k n :=
  a_zret hC hE (by rcases hz with rfl | rfl <;> rfl) ⟨hz, hp⟩ h1 h2 dg
theorem a_vret (hC : aOK f g cc nL own) {P : Int32 → aS → Prop} {X : String → aS → Prop} {mc ms : Nat} (hE : aEv f g P X mc ms) (hp : P 0 q) (h1 : k ≤ mc) (h2 : n ≤ ms) (dg : decode cc pc = .ok (.return_, 1)) : AW f g pc L [] q k n := by
  intro ls H locs ex hl hI hS
  rw [hE.1.1]
  exact W.widen h1 h2 (vx_ret (W.vret hC.x hC.b hE.2 (fun t ht hW => ⟨⟨q, rfl, hp, ⟨ex, by rw [ht]; exact hI⟩⟩, hS.F ht⟩) hS.2.2 dg hC.lk))
/-! rows -/
theorem a_iconst (hC : aOK f g cc nL own) {z : Int} {v : Int32} (dg : decode cc pc = .ok (.iconst z, 1)) (hv : Int32.ofInt z = v) (kk : AW f g (pc + 1) L (.int v :: st) q k n) : AW f g pc L st q k n := fun ls H locs ex hl hI hS => lv_iconst hC.x hC.b dg hv (kk ls H locs ex hl hI hS)
theorem a_bipush (hC : aOK f g cc nL own) {z : Int} {v : Int32} (dg : decode cc pc = .ok (.bipush z, 2)) (hv : (Int8.ofInt z).toInt32 = v) (kk : AW f g (pc + 2) L (.int v :: st) q k n) : AW f g pc L st q k n := fun ls H locs ex hl hI hS => lv_bipush hC.x hC.b dg hv (kk ls H locs ex hl hI hS)
theorem a_sipush (hC : aOK f g cc nL own) {z : Int} {v : Int32} (dg : decode cc pc = .ok (.sipush z, 3)) (hv : (Int16.ofInt z).toInt32 = v) (kk : AW f g (pc + 3) L (.int v :: st) q k n) : AW f g pc L st q k n := fun ls H locs ex hl hI hS => lv_sipush hC.x hC.b dg hv (kk ls H locs ex hl hI hS)
theorem a_iload_n (hC : aOK f g cc nL own) {i : Fin 4} {x : Int32} (dg : decode cc pc = .ok (.iload_n i, 1)) (hi : L[(i : Nat)]? = some (some (.int x))) (kk : AW f g (pc + 1) L (.int x :: st) q k n) : AW f g pc L st q k n := fun ls H locs ex hl hI hS => lv_iload_n hC.x hC.b dg rfl (hl.2.2 _ _ hi).1 (kk ls H locs ex hl hI hS)
theorem a_iload (hC : aOK f g cc nL own) {i : Nat} {x : Int32} (dg : decode cc pc = .ok (.iload i, 2)) (hi : L[i]? = some (some (.int x))) (kk : AW f g (pc + 2) L (.int x :: st) q k n) : AW f g pc L st q k n := fun ls H locs ex hl hI hS => lv_iload hC.x hC.b dg (hl.2.2 _ _ hi).1 (kk ls H locs ex hl hI hS)
theorem a_aload_n (hC : aOK f g cc nL own) {i : Fin 4} {x : Nat} (dg : decode cc pc = .ok (.aload_n i, 1)) (hi : L[(i : Nat)]? = some (some (.ref x))) (kk : AW f g (pc + 1) L (.ref x :: st) q k n) : AW f g pc L st q k n := fun ls H locs ex hl hI hS => lv_aload_n hC.x hC.b dg rfl (hl.2.2 _ _ hi).1 (kk ls H locs ex hl hI hS)
theorem a_aload (hC : aOK f g cc nL own) {i : Nat} {x : Nat} (dg : decode cc pc = .ok (.aload i, 2)) (hi : L[i]? = some (some (.ref x))) (kk : AW f g (pc + 2) L (.ref x :: st) q k n) : AW f g pc L st q k n := fun ls H locs ex hl hI hS => lv_aload hC.x hC.b dg (hl.2.2 _ _ hi).1 (kk ls H locs ex hl hI hS)
theorem a_istore_n (hC : aOK f g cc nL own) {i : Fin 4} {x : Int32} (dg : decode cc pc = .ok (.istore_n i, 1)) (hi : (i : Nat) < L.length) (kk : AW f g (pc + 1) (L.set i (some (.int x))) st q k n) : AW f g pc L (.int x :: st) q k n := fun ls H locs ex hl hI hS => lv_istore_n hC.x hC.b dg rfl hl.to hi rfl (fun ls' hl' => kk ls' H locs ex (hl.set rfl hl') hI hS)
theorem a_istore (hC : aOK f g cc nL own) {i : Nat} {x : Int32} (dg : decode cc pc = .ok (.istore i, 2)) (hi : i < L.length) (kk : AW f g (pc + 2) (L.set i (some (.int x))) st q k n) : AW f g pc L (.int x :: st) q k n := fun ls H locs ex hl hI hS => lv_istore hC.x hC.b dg hl.to hi rfl (fun ls' hl' => kk ls' H locs ex (hl.set rfl hl') hI hS)
theorem a_astore_n (hC : aOK f g cc nL own) {i : Fin 4} {x : Nat} (dg : decode cc pc = .ok (.astore_n i, 1)) (hi : (i : Nat) < L.length) (kk : AW f g (pc + 1) (L.set i (some (.ref x))) st q k n) : AW f g pc L (.ref x :: st) q k n := fun ls H locs ex hl hI hS => lv_astore_n hC.x hC.b dg rfl hl.to hi rfl (fun ls' hl' => kk ls' H locs ex (hl.set rfl hl') hI hS)
theorem a_astore (hC : aOK f g cc nL own) {i : Nat} {x : Nat} (dg : decode cc pc = .ok (.astore i, 2)) (hi : i < L.length) (kk : AW f g (pc + 2) (L.set i (some (.ref x))) st q k n) : AW f g pc L (.ref x :: st) q k n := fun ls H locs ex hl hI hS => lv_astore hC.x hC.b dg hl.to hi rfl (fun ls' hl' => kk ls' H locs ex (hl.set rfl hl') hI hS)
theorem a_iinc (hC : aOK f g cc nL own) {i : Nat} {z : Int} {x c : Int32} (dg : decode cc pc = .ok (.iinc i z, 3)) (hi : L[i]? = some (some (.int x))) (hc : Int32.ofInt z = c) (kk : AW f g (pc + 3) (L.set i (some (.int (x + c)))) st q k n) : AW f g pc L st q k n := fun ls H locs ex hl hI hS => by
  obtain ⟨j, hj⟩ := List.getElem?_of_mem (lw_prs_mem.mpr hi)
  exact lv_iinc hC.x hC.b dg hl.to hj (by rw [hc]) (List.getElem?_eq_some_iff.mp hi).1 rfl (fun ls' hl' => kk ls' H locs ex (hl.set rfl hl') hI hS)
theorem a_iadd (hC : aOK f g cc nL own) {x y : Int32} (dg : decode cc pc = .ok (.iadd, 1)) (kk : AW f g (pc + 1) L (.int (x + y) :: st) q k n) : AW f g pc L (.int y :: .int x :: st) q k n := fun ls H locs ex hl hI hS => lv_iadd hC.x hC.b dg (kk ls H locs ex hl hI hS)
theorem a_isub (hC : aOK f g cc nL own) {x y : Int32} (dg : decode cc pc = .ok (.isub, 1)) (kk : AW f g (pc + 1) L (.int (x - y) :: st) q k n) : AW f g pc L (.int y :: .int x :: st) q k n := fun ls H locs ex hl hI hS => lv_isub hC.x hC.b dg (kk ls H locs ex hl hI hS)
theorem a_imul (hC : aOK f g cc nL own) {x y : Int32} (dg : decode cc pc = .ok (.imul, 1)) (kk : AW f g (pc + 1) L (.int (x * y) :: st) q k n) : AW f g pc L (.int y :: .int x :: st) q k n := fun ls H locs ex hl hI hS => lv_imul hC.x hC.b dg (kk ls H locs ex hl hI hS)
theorem a_idiv (hC : aOK f g cc nL own) {x y : Int32} (dg : decode cc pc = .ok (.idiv, 1)) (h0 : ¬ y = 0) (kk : AW f g (pc + 1) L (.int (x / y) :: st) q k n) : AW f g pc L (.int y :: .int x :: st) q k n := fun ls H locs ex hl hI hS => lv_idiv hC.x hC.b dg h0 (kk ls H locs ex hl hI hS)
theorem a_irem (hC : aOK f g cc nL own) {x y : Int32} (dg : decode cc pc = .ok (.irem, 1)) (h0 : ¬ y = 0) (kk : AW f g (pc + 1) L (.int (x - x / y * y) :: st) q k n) : AW f g pc L (.int y :: .int x :: st) q k n := fun ls H locs ex hl hI hS => lv_irem hC.x hC.b dg h0 (kk ls H locs ex hl hI hS)
theorem a_ior (hC : aOK f g cc nL own) {x y : Int32} (dg : decode cc pc = .ok (.ior, 1)) (kk : AW f g (pc + 1) L (.int (x ||| y) :: st) q k n) : AW f g pc L (.int y :: .int x :: st) q k n := fun ls H locs ex hl hI hS => lv_ior hC.x hC.b dg (kk ls H locs ex hl hI hS)
theorem a_iand (hC : aOK f g cc nL own) {x y : Int32} (dg : decode cc pc = .ok (.iand, 1)) (kk : AW f g (pc + 1) L (.int (x &&& y) :: st) q k n) : AW f g pc L (.int y :: .int x :: st) q k n := fun ls H locs ex hl hI hS => lv_iand hC.x hC.b dg (kk ls H locs ex hl hI hS)
theorem a_ixor (hC : aOK f g cc nL own) {x y : Int32} (dg : decode cc pc = .ok (.ixor, 1)) (kk : AW f g (pc + 1) L (.int (x ^^^ y) :: st) q k n) : AW f g pc L (.int y :: .int x :: st) q k n := fun ls H locs ex hl hI hS => lv_ixor hC.x hC.b dg (kk ls H locs ex hl hI hS)
theorem a_ishl (hC : aOK f g cc nL own) {x y : Int32} (dg : decode cc pc = .ok (.ishl, 1)) (kk : AW f g (pc + 1) L (.int (x <<< (y &&& 31)) :: st) q k n) : AW f g pc L (.int y :: .int x :: st) q k n := fun ls H locs ex hl hI hS => lv_ishl hC.x hC.b dg (kk ls H locs ex hl hI hS)
theorem a_i2c (hC : aOK f g cc nL own) {x : Int32} (dg : decode cc pc = .ok (.i2c, 1)) (kk : AW f g (pc + 1) L (.int (x.toUInt32 % 65536).toInt32 :: st) q k n) : AW f g pc L (.int x :: st) q k n := fun ls H locs ex hl hI hS => lv_i2c hC.x hC.b dg rfl (kk ls H locs ex hl hI hS)
theorem a_dup (hC : aOK f g cc nL own) {v : Value} (dg : decode cc pc = .ok (.dup, 1)) (hv : v.category = 1) (kk : AW f g (pc + 1) L (v :: v :: st) q k n) : AW f g pc L (v :: st) q k n := fun ls H locs ex hl hI hS => lv_dup hC.x hC.b dg hv (kk ls H locs ex hl hI hS)
theorem a_pop (hC : aOK f g cc nL own) {v : Value} (dg : decode cc pc = .ok (.pop, 1)) (hv : v.category = 1) (kk : AW f g (pc + 1) L st q k n) : AW f g pc L (v :: st) q k n := fun ls H locs ex hl hI hS => lv_pop hC.x hC.b dg hv (kk ls H locs ex hl hI hS)
theorem a_dup2 (hC : aOK f g cc nL own) {v w : Value} (dg : decode cc pc = .ok (.dup2, 1)) (hv : v.category = 1) (hw : w.category = 1) (kk : AW f g (pc + 1) L (v :: w :: v :: w :: st) q k n) : AW f g pc L (v :: w :: st) q k n := fun ls H locs ex hl hI hS => lv_dup2_11 hC.x hC.b dg hv hw (kk ls H locs ex hl hI hS)
theorem a_dup_x1 (hC : aOK f g cc nL own) {v w : Value} (dg : decode cc pc = .ok (.dup_x1, 1)) (hv : v.category = 1) (hw : w.category = 1) (kk : AW f g (pc + 1) L (v :: w :: v :: st) q k n) : AW f g pc L (v :: w :: st) q k n := fun ls H locs ex hl hI hS => lv_dup_x1 hC.x hC.b dg hv hw (kk ls H locs ex hl hI hS)
theorem a_goto (hC : aOK f g cc nL own) {off : Int} {tgt : Nat} (dg : decode cc pc = .ok (.goto off, 3)) (ht : (pc : Int) + off = (tgt : Int)) (kk : AW f g tgt L st q k n) : AW f g pc L st q k n := fun ls H locs ex hl hI hS => lv_goto hC.x hC.b dg ht (kk ls H locs ex hl hI hS)
theorem a_if_eq (hC : aOK f g cc nL own) {x : Int32} {off : Int} {tgt : Nat} (dg : decode cc pc = .ok (.ifCond .eq off, 3)) (ht : (pc : Int) + off = (tgt : Int)) (kt : x = 0 → AW f g tgt L st q k n) (kf : ¬ x = 0 → AW f g (pc + 3) L st q k n) : AW f g pc L (.int x :: st) q k n := fun ls H locs ex hl hI hS => lv_if_eq hC.x hC.b dg ht (fun h => kt h ls H locs ex hl hI hS) (fun h => kf h ls H locs ex hl hI hS)
theorem a_if_ne (hC : aOK f g cc nL own) {x : Int32} {off : Int} {tgt : Nat} (dg : decode cc pc = .ok (.ifCond .ne off, 3)) (ht : (pc : Int) + off = (tgt : Int)) (kt : ¬ x = 0 → AW f g tgt L st q k n) (kf : x = 0 → AW f g (pc + 3) L st q k n) : AW f g pc L (.int x :: st) q k n := fun ls H locs ex hl hI hS => lv_if_ne hC.x hC.b dg ht (fun h => kt h ls H locs ex hl hI hS) (fun h => kf h ls H locs ex hl hI hS)
theorem a_if_lt (hC : aOK f g cc nL own) {x : Int32} {off : Int} {tgt : Nat} (dg : decode cc pc = .ok (.ifCond .lt off, 3)) (ht : (pc : Int) + off = (tgt : Int)) (kt : x < 0 → AW f g tgt L st q k n) (kf : ¬ x < 0 → AW f g (pc + 3) L st q k n) : AW f g pc L (.int x :: st) q k n := fun ls H locs ex hl hI hS => lv_if_lt hC.x hC.b dg ht (fun h => kt h ls H locs ex hl hI hS) (fun h => kf h ls H locs ex hl hI hS)
theorem a_if_ge (hC : aOK f g cc nL own) {x : Int32} {off : Int} {tgt : Nat} (dg : decode cc pc = .ok (.ifCond .ge off, 3)) (ht : (pc : Int) + off = (tgt : Int)) (kt : 0 ≤ x → AW f g tgt L st q k n) (kf : ¬ 0 ≤ x → AW f g (pc + 3) L st q k n) : AW f g pc L (.int x :: st) q k n := fun ls H locs ex hl hI hS => lv_if_ge hC.x hC.b dg ht (fun h => kt h ls H locs ex hl hI hS) (fun h => kf h ls H locs ex hl hI hS)
theorem a_if_gt (hC : aOK f g cc nL own) {x : Int32} {off : Int} {tgt : Nat} (dg : decode cc pc = .ok (.ifCond .gt off, 3)) (ht : (pc : Int) + off = (tgt : Int)) (kt : 0 < x → AW f g tgt L st q k n) (kf : ¬ 0 < x → AW f g (pc + 3) L st q k n) : AW f g pc L (.int x :: st) q k n := fun ls H locs ex hl hI hS => lv_if_gt hC.x hC.b dg ht (fun h => kt h ls H locs ex hl hI hS) (fun h => kf h ls H locs ex hl hI hS)
theorem a_if_le (hC : aOK f g cc nL own) {x : Int32} {off : Int} {tgt : Nat} (dg : decode cc pc = .ok (.ifCond .le off, 3)) (ht : (pc : Int) + off = (tgt : Int)) (kt : x ≤ 0 → AW f g tgt L st q k n) (kf : ¬ x ≤ 0 → AW f g (pc + 3) L st q k n) : AW f g pc L (.int x :: st) q k n := fun ls H locs ex hl hI hS => lv_if_le hC.x hC.b dg ht (fun h => kt h ls H locs ex hl hI hS) (fun h => kf h ls H locs ex hl hI hS)
theorem a_icmp_eq (hC : aOK f g cc nL own) {x y : Int32} {off : Int} {tgt : Nat} (dg : decode cc pc = .ok (.if_icmp .eq off, 3)) (ht : (pc : Int) + off = (tgt : Int)) (kt : x = y → AW f g tgt L st q k n) (kf : ¬ x = y → AW f g (pc + 3) L st q k n) : AW f g pc L (.int y :: .int x :: st) q k n := fun ls H locs ex hl hI hS => lv_icmp_eq hC.x hC.b dg ht (fun h => kt h ls H locs ex hl hI hS) (fun h => kf h ls H locs ex hl hI hS)
theorem a_icmp_ne (hC : aOK f g cc nL own) {x y : Int32} {off : Int} {tgt : Nat} (dg : decode cc pc = .ok (.if_icmp .ne off, 3)) (ht : (pc : Int) + off = (tgt : Int)) (kt : ¬ x = y → AW f g tgt L st q k n) (kf : x = y → AW f g (pc + 3) L st q k n) : AW f g pc L (.int y :: .int x :: st) q k n := fun ls H locs ex hl hI hS => lv_icmp_ne hC.x hC.b dg ht (fun h => kt h ls H locs ex hl hI hS) (fun h => kf h ls H locs ex hl hI hS)
theorem a_icmp_lt (hC : aOK f g cc nL own) {x y : Int32} {off : Int} {tgt : Nat} (dg : decode cc pc = .ok (.if_icmp .lt off, 3)) (ht : (pc : Int) + off = (tgt : Int)) (kt : x < y → AW f g tgt L st q k n) (kf : ¬ x < y → AW f g (pc + 3) L st q k n) : AW f g pc L (.int y :: .int x :: st) q k n := fun ls H locs ex hl hI hS => lv_icmp_lt hC.x hC.b dg ht (fun h => kt h ls H locs ex hl hI hS) (fun h => kf h ls H locs ex hl hI hS)
theorem a_icmp_ge (hC : aOK f g cc nL own) {x y : Int32} {off : Int} {tgt : Nat} (dg : decode cc pc = .ok (.if_icmp .ge off, 3)) (ht : (pc : Int) + off = (tgt : Int)) (kt : y ≤ x → AW f g tgt L st q k n) (kf : ¬ y ≤ x → AW f g (pc + 3) L st q k n) : AW f g pc L (.int y :: .int x :: st) q k n := fun ls H locs ex hl hI hS => lv_icmp_ge hC.x hC.b dg ht (fun h => kt h ls H locs ex hl hI hS) (fun h => kf h ls H locs ex hl hI hS)
theorem a_icmp_gt (hC : aOK f g cc nL own) {x y : Int32} {off : Int} {tgt : Nat} (dg : decode cc pc = .ok (.if_icmp .gt off, 3)) (ht : (pc : Int) + off = (tgt : Int)) (kt : y < x → AW f g tgt L st q k n) (kf : ¬ y < x → AW f g (pc + 3) L st q k n) : AW f g pc L (.int y :: .int x :: st) q k n := fun ls H locs ex hl hI hS => lv_icmp_gt hC.x hC.b dg ht (fun h => kt h ls H locs ex hl hI hS) (fun h => kf h ls H locs ex hl hI hS)
theorem a_icmp_le (hC : aOK f g cc nL own) {x y : Int32} {off : Int} {tgt : Nat} (dg : decode cc pc = .ok (.if_icmp .le off, 3)) (ht : (pc : Int) + off = (tgt : Int)) (kt : x ≤ y → AW f g tgt L st q k n) (kf : ¬ x ≤ y → AW f g (pc + 3) L st q k n) : AW f g pc L (.int y :: .int x :: st) q k n := fun ls H locs ex hl hI hS => lv_icmp_le hC.x hC.b dg ht (fun h => kt h ls H locs ex hl hI hS) (fun h => kf h ls H locs ex hl hI hS)
theorem a_tabOut (hC : aOK f g cc nL own) {dflt lo hi : Int} {offs : Array Int} {len : Nat} {x : Int32} {tgt : Nat} (dg : decode cc pc = .ok (.tableswitch dflt lo hi offs, len)) (h : x.toInt < lo ∨ hi < x.toInt) (ht : (pc : Int) + dflt = (tgt : Int)) (kk : AW f g tgt L st q k n) : AW f g pc L (.int x :: st) q k n := fun ls H locs ex hl hI hS => lv_tableOut hC.x hC.b dg h ht (kk ls H locs ex hl hI hS)
theorem a_tabIn (hC : aOK f g cc nL own) {dflt lo hi : Int} {offs : Array Int} {len : Nat} {x : Int32} {off : Int} {tgt : Nat} (dg : decode cc pc = .ok (.tableswitch dflt lo hi offs, len)) (h1 : ¬ x.toInt < lo) (h2 : ¬ hi < x.toInt) (ho : offs[(x.toInt - lo).toNat]? = some off) (ht : (pc : Int) + off = (tgt : Int)) (kk : AW f g tgt L st q k n) : AW f g pc L (.int x :: st) q k n := fun ls H locs ex hl hI hS => lv_tableIn hC.x hC.b dg h1 h2 ho ht (kk ls H locs ex hl hI hS)
/-- a class of the worlds: its row of vwCl, its fields' words -/
def aCl (ci : Nat) (C : String) (T : u_T) (N : Nat) : Prop := vwCl[ci]? = some (C, T, N) ∧ (∀ w ∈ u_ws C T N, w ∈ TW) ∧ (∀ a, a < N → ∀ b, b < N → a ≠ b → (T a).2.1 ≠ (T b).2.1)
/-- the shape of the cell at place k: an object of class ci, its fields by F -/
def aOb (g : aG) (k ci : Nat) (F : (Nat → Int32) → List Value) : Prop := k < gN g ∧ ∀ d, gSh g k d = .inr (ci, F d)
/-- .. an array of n ints (chars, bytes) of the array class t -/
def aAr (g : aG) (k t n : Nat) (ty : FieldType) : Prop := k < gN g ∧ (∀ d, gSh g k d = .inl (gc g t, n, .inl d)) ∧ (gT g)[t]? = some (gc g t, ty)
/-- .. an array of n references of the array class t, F the numbers' reading -/
def aQr (g : aG) (k t n : Nat) (ty : FieldType) (F : (Nat → Int32) → Nat → Option Nat) : Prop := k < gN g ∧ (∀ d, gSh g k d = .inl (gc g t, n, .inr (.inr (.inr (.inr (F d)))))) ∧ (gT g)[t]? = some (gc g t, ty)
theorem a_get (hC : aOK f g cc nL own) {ci p N index : Nat} {C : String} {T : u_T} {F : (Nat → Int32) → List Value} (hc : aCl ci C T N) (hp : aOb g p ci F) (j : Nat) (hj : j < N) (hw : Cond.fieldLink own index (T j).1 (T j).2.1 (T j).2.2.1 ∈ lw_tbl) {v : Value} (hv : (F (q.1 p))[j]? = some v) (dg : decode cc pc = .ok (.getfield index, 3)) (kk : AW f g (pc + 3) L (v :: st) q k n) : AW f g pc L (.ref (gAd g p) :: st) q k n := fun ls H locs ex hl hI hS =>
  va_get hC.x hC.b hC.ts hc.2.1 hC.o hC.K hI.2.1 p ((aWl_at g q.1 ex hp.1).trans (by rw [hp.2])) hc.1 j hj (hC.w hw rfl) (fun _ h => h) hv dg (kk ls H locs ex hl hI hS)
theorem a_put (hC : aOK f g cc nL own) {ci p N index : Nat} {C : String} {T : u_T} {F : (Nat → Int32) → List Value} (hc : aCl ci C T N) (hp : aOb g p ci F) (j : Nat) (hj : j < N) (hw : Cond.fieldLink own index (T j).1 (T j).2.1 (T j).2.2.1 ∈ lw_tbl) {x : Int32} (ty0 : Nat → FieldType) (hty : ∀ k, k < N → parseFieldDescriptor (T k).2.2.1 = some (ty0 k)) (hfin : (T j).2.2.2 = false) (hn : narrow (ty0 j) (.int x) = .int x) (hfit : fits (ty0 j) (.int x) = true) (hl0 : j < (F (q.1 p)).length) (hF : (F (q.1 p)).set j (.int x) = F (upd (q.1 p) j x)) (dg : decode cc pc = .ok (.putfield index, 3)) (kk : AW f g (pc + 3) L st (up2 q.1 p j x, q.2) k n) : AW f g pc L (.int x :: .ref (gAd g p) :: st) q k n := fun ls H locs ex hl hI hS =>
  va_put hC.x hC.b hC.ts hc.2.1 ty0 hty hc.2.2 hC.o hC.K hI.2.1 hI.2.2 hS p ((aWl_at g q.1 ex hp.1).trans (by rw [hp.2])) hc.1 j hj (hC.w hw rfl) (fun _ h => h) hfin (hty j hj) hn hfit hl0 dg (fun H1 locs1 hP hD hS1 => by
    rw [hF, ← hp.2, aWl_set g q.1 ex hp.1] at hP hD
    exact kk ls H1 locs1 ex hl ⟨hI.1, hP, hD⟩ hS1)
theorem a_iald (hC : aOK f g cc nL own) {p t N : Nat} (hp : aAr g p t N .int) {i : Int32} (hin : vp_in i N) (dg : decode cc pc = .ok (.iaload, 1)) (kk : AW f g (pc + 1) L (.int (q.1 p i.toNatClampNeg) :: st) q k n) : AW f g pc L (.int i :: .ref (gAd g p) :: st) q k n := fun ls H locs ex hl hI hS =>
  va_iald hC.x hC.b hC.K hI.2.1 p t ((aWl_at g q.1 ex hp.1).trans (by rw [hp.2.1])) hp.2.2 hin dg (kk ls H locs ex hl hI hS)
theorem a_cald (hC : aOK f g cc nL own) {p t N : Nat} (hp : aAr g p t N .char) {i : Int32} (hin : vp_in i N) (dg : decode cc pc = .ok (.caload, 1)) (kk : AW f g (pc + 1) L (.int (q.1 p i.toNatClampNeg) :: st) q k n) : AW f g pc L (.int i :: .ref (gAd g p) :: st) q k n := fun ls H locs ex hl hI hS =>
  va_cald hC.x hC.b hC.K hI.2.1 p t ((aWl_at g q.1 ex hp.1).trans (by rw [hp.2.1])) hp.2.2 hin dg (kk ls H locs ex hl hI hS)
theorem a_iast (hC : aOK f g cc nL own) {p t N : Nat} (hp : aAr g p t N .int) {i x : Int32} (hin : vp_in i N) (dg : decode cc pc = .ok (.iastore, 1)) (kk : AW f g (pc + 1) L st (up2 q.1 p i.toNatClampNeg x, q.2) k n) : AW f g pc L (.int x :: .int i :: .ref (gAd g p) :: st) q k n := fun ls H locs ex hl hI hS =>
  va_iast hC.x hC.b hC.K hI.2.1 hI.2.2 hS p t ((aWl_at g q.1 ex hp.1).trans (by rw [hp.2.1])) hp.2.2 hin dg (fun H1 locs1 hP hD hS1 => by
    rw [← hp.2.1, aWl_set g q.1 ex hp.1] at hP hD
    exact kk ls H1 locs1 ex hl ⟨hI.1, hP, hD⟩ hS1)
theorem a_cast (hC : aOK f g cc nL own) {p t N : Nat} (hp : aAr g p t N .char) {i x : Int32} (hin : vp_in i N) (dg : decode cc pc = .ok (.castore, 1)) (kk : AW f g (pc + 1) L st (up2 q.1 p i.toNatClampNeg (vp_nar .char x), q.2) k n) : AW f g pc L (.int x :: .int i :: .ref (gAd g p) :: st) q k n := fun ls H locs ex hl hI hS =>
  va_cast hC.x hC.b hC.K hI.2.1 hI.2.2 hS p t ((aWl_at g q.1 ex hp.1).trans (by rw [hp.2.1])) hp.2.2 hin dg (fun H1 locs1 hP hD hS1 => by
    rw [← hp.2.1, aWl_set g q.1 ex hp.1] at hP hD
    exact kk ls H1 locs1 ex hl ⟨hI.1, hP, hD⟩ hS1)
theorem a_alen (hC : aOK f g cc nL own) {p t N : Nat} {ty : FieldType} (hp : aAr g p t N ty) {v : Int32} (hv : Int32.ofNat N = v) (dg : decode cc pc = .ok (.arraylength, 1)) (kk : AW f g (pc + 1) L (.int v :: st) q k n) : AW f g pc L (.ref (gAd g p) :: st) q k n := fun ls H locs ex hl hI hS =>
  va_alen hC.x hC.b hC.K hI.2.1 p t ((aWl_at g q.1 ex hp.1).trans (by rw [hp.2.1])) hp.2.2 hv dg (kk ls H locs ex hl hI hS)
/-- aaload: the place of the array, what the reading names there -/
theorem a_aald (hC : aOK f g cc nL own) {p t N : Nat} {ty : FieldType} {F : (Nat → Int32) → Nat → Option Nat} (hp : aQr g p t N ty F) (hr : ty.isReference = true) {i : Int32} (hin : vp_in i N) {a : Nat} (ha : F (q.1 p) i.toNatClampNeg = some a) (dg : decode cc pc = .ok (.aaload, 1)) (kk : AW f g (pc + 1) L (.ref a :: st) q k n) : AW f g pc L (.int i :: .ref (gAd g p) :: st) q k n := fun ls H locs ex hl hI hS => by
  have hlt : i.toNatClampNeg < N := Nat.not_le.mp fun q => hin (Or.inr q)
  have h1 := hI.2.1 p _ ((aWl_at g q.1 ex hp.1).trans (by rw [hp.2.1]))
  refine W.aald (v := .ref a) (ty := ty) hC.x hC.b h1 ((hC.K.2 t _ hp.2.2).1 N (fun j => va_rf (F (q.1 p) j))) hr (fun q => by cases q) (by show ¬ (i < 0 ∨ (arrV _ _ _).slots.size ≤ _); rw [arrV_size]; exact hin) (by show (arrV _ _ _).slots[_]? = _; rw [arrV_read _ _ hlt, ha]; rfl) rfl rfl dg (kk ls H locs ex hl hI hS)
/-- what a method is, by the tables: its code, an instance method that is its own selection on C (of C itself) -/
def aVm (y : MethodName) (C : String) (bytes : ByteArray) (maxL : Nat) (ret : Option FieldType) (n : Nat) : Prop :=
  Cond.code y bytes maxL ret ∈ lw_tbl ∧ Cond.instanceMethod y ∈ lw_tbl ∧ Cond.selects C y y ∈ lw_tbl ∧ Cond.initialized C ∈ lw_tbl ∧ (y.cls = C ∧ y.cls ≠ "java/lang/invoke/MethodHandle" ∧ y.cls ≠ "java/lang/invoke/VarHandle" ∧ (parseMethodDescriptor y.desc).map (fun d => d.parameters.length) = some n)
def aSm (y : MethodName) (bytes : ByteArray) (maxL : Nat) (ret : Option FieldType) (n : Nat) : Prop :=
  Cond.code y bytes maxL ret ∈ lw_tbl ∧ Cond.static y ∈ lw_tbl ∧ Cond.initialized y.cls ∈ lw_tbl ∧ (y.cls ≠ "java/lang/invoke/MethodHandle" ∧ y.cls ≠ "java/lang/invoke/VarHandle" ∧ (parseMethodDescriptor y.desc).map (fun d => d.parameters.length) = some n)
theorem good_TW {w : Cond} (h : w ∈ TW) : w ∈ TW ∧ ((w.onTables && w.keeps) = true ∨ ∃ ty, w = .arrayClass ty) := ⟨h, good_of_word (List.mem_filter.mp h).2⟩
theorem good_V {y : MethodName} {C own : String} {bytes : ByteArray} {maxL : Nat} {ret : Option FieldType} {m index : Nat} (hm : aVm y C bytes maxL ret m) (hw : Cond.methodLink own index y ∈ lw_tbl) : GoodIn TW (wsV own index C y (aWs y bytes maxL ret)) := by
  intro w h
  refine good_TW ?_
  rcases List.mem_append.mp h with h | h
  · simp only [List.mem_cons, List.not_mem_nil, or_false] at h
    rcases h with rfl | rfl | rfl | rfl
    · exact tk_w hw rfl
    · exact tk_w hm.2.1 rfl
    · exact tk_w hm.2.2.1 rfl
    · exact tk_w hm.2.2.2.1 rfl
  · rcases List.mem_cons.mp h with rfl | h
    · exact tk_w hm.1 rfl
    · exact h
theorem good_S {y : MethodName} {own : String} {bytes : ByteArray} {maxL : Nat} {ret : Option FieldType} {m index : Nat} (hm : aSm y bytes maxL ret m) (hw : Cond.methodLink own index y ∈ lw_tbl) : GoodIn TW (va_wsS own index y (aWs y bytes maxL ret)) := by
  intro w h
  refine good_TW ?_
  rcases List.mem_append.mp h with h | h
  · simp only [List.mem_cons, List.not_mem_nil, or_false] at h
    rcases h with rfl | rfl | rfl
    · exact tk_w hw rfl
    · exact tk_w hm.2.1 rfl
    · exact tk_w hm.2.2.1 rfl
  · rcases List.mem_cons.mp h with rfl | h
    · exact tk_w hm.1 rfl
    · exact h
/-- the room of a call, by numbers -/
def aFit (maxL n' mc ms k n N mcR msR : Nat) : Prop := n' + 1 ≤ N ∧ maxL ≤ 41 ∧ k + mc ≤ mcR ∧ n + ms ≤ msR
theorem aFit.loc {maxL n' mc ms k n N mcR msR : Nat} (h : aFit maxL n' mc ms k n N mcR msR) : (aR n' mc ms).frames + 1 ≤ (aR N mcR msR).frames ∧ 8 + (maxL + 11) + (aR n' mc ms).locals ≤ (aR N mcR msR).locals := by
  obtain ⟨h1, h2, -, -⟩ := h
  refine ⟨h1, ?_⟩
  show 8 + (maxL + 11) + 60 * n' ≤ 60 * N
  omega
theorem a_recv (hC : aOK f g cc nL own) {H : Heap} {ex : va_W} (hI : aI g q ex H) {ci p N : Nat} {C : String} {T : u_T} {F : (Nat → Int32) → List Value} (hc : aCl ci C T N) (hp : aOb g p ci F) : ∃ cell : Cell, H[gAd g p]? = some cell ∧ cell.vm.isStatics = false ∧ (f_s f).vm.findClass C = some cell.cls :=
  va_recv hC.K hI.2.1 hc.1 ((aWl_at g q.1 ex hp.1).trans (by rw [hp.2]))
theorem a_preV (hC : aOK f g cc nL own) {H : Heap} {locs : List Loc} {ex : va_W} (hI : aI g q ex H) (hS : va_S (gA g) (f_s f).heap H locs) {ci p N : Nat} {C : String} {T : u_T} {F : (Nat → Int32) → List Value} (hc : aCl ci C T N) (hp : aOb g p ci F) (As : List Value) : PreV (f_s f) H C (gAd g p) (va_Pc (.ref (gAd g p) :: As) (aWd g q)) As :=
  ⟨aBlind hC.cl _ q, a_recv hC hI hc hp, fun U hU hW => ⟨rfl, aWd_of hC hI hS hU hW⟩⟩
theorem a_preS (hC : aOK f g cc nL own) {H : Heap} {locs : List Loc} {ex : va_W} (hI : aI g q ex H) (hS : va_S (gA g) (f_s f).heap H locs) (As : List Value) : PreS (f_s f) H (va_Pc As (aWd g q)) As :=
  ⟨aBlind hC.cl _ q, fun U hU hW => ⟨rfl, aWd_of hC hI hS hU hW⟩⟩
theorem a_callV {y : MethodName} {C : String} {bytes : ByteArray} {maxL n' mc ms N mcR msR index ci p Nf m : Nat} {ty : FieldType} {As : List Value} {T : u_T} {F : (Nat → Int32) → List Value} {P : Int32 → aS → Prop}
    (hC : aOK f g cc nL own) (hR : f_R f = aR N mcR msR) (hm : aVm y C bytes maxL (some ty) m) (hw : Cond.methodLink own index y ∈ lw_tbl) (hc : aCl ci C T Nf) (hp : aOb g p ci F) (hfit : aFit maxL n' mc ms k n N mcR msR) {rest : List Value} (dg : decode cc pc = .ok (.invokevirtual index, 3))
    (hM : aMi (f_l f) g y (aWs y bytes maxL (some ty)) n' mc ms (.ref (gAd g p) :: As) q P (fun _ _ => False)) (hst : st = As.reverse ++ .ref (gAd g p) :: rest) (hn : As.length = m) (hL : L.length = nL) (hrest : (rest.map fun v => v.category).sum ≤ 8) (kk : ∀ (r : Int32) (q' : aS), P r q' → AW f g (pc + 3) L (.int r :: rest) q' (k + mc) (n + ms)) : AW f g pc L st q k n := by
  intro ls H locs ex hl hI hS
  subst hst
  have hf := hfit.loc
  rw [← hR] at hf
  have hrun := vx_runV (rest := rest) (g := F0 (f_m f) pc ls (As.reverse ++ .ref (gAd g p) :: rest)) (locs := locs) (meth := f_me f) (below := f_b f) (e := f_e f) (cells := k) (slots := n) (S := (⟨hC.x, hC.b, hC.ml, hC.o, hC.ts⟩ : CallFix (f_p f) (f_m f) (f_c f) cc nL (f_s f) (f_a f) TW own)) hM (cwV m hC.ts (good_V hm hw) rfl rfl rfl hm.2.2.2.2 hf) (a_preV hC hI hS hc hp As) rfl hn (hl.1.trans hL) rfl (lv_room hrest) dg (by rw [hR]; exact ⟨hfit.2.2.1, hfit.2.2.2⟩)
  refine vx_calli hrun hS (fun _ _ h => h) (fun _ h => h) (fun _ _ h => h) (fun E ce q9 u t H1 locs1 ht hvm _ hB => hB.1.elim) (fun r u t H1 locs1 ht hvm hp1 hB hz hk1 hS1 => ?_)
  obtain ⟨ex', hI'⟩ := hB
  rw [ht] at hI'
  exact kk r u hp1 ls H1 locs1 ex' hl hI' hS1
theorem a_callVv {y : MethodName} {C : String} {bytes : ByteArray} {maxL n' mc ms N mcR msR index ci p Nf m : Nat} {As : List Value} {T : u_T} {F : (Nat → Int32) → List Value} {P : Int32 → aS → Prop}
    (hC : aOK f g cc nL own) (hR : f_R f = aR N mcR msR) (hm : aVm y C bytes maxL none m) (hw : Cond.methodLink own index y ∈ lw_tbl) (hc : aCl ci C T Nf) (hp : aOb g p ci F) (hfit : aFit maxL n' mc ms k n N mcR msR) {rest : List Value} (dg : decode cc pc = .ok (.invokevirtual index, 3))
    (hM : aMv (f_l f) g y (aWs y bytes maxL none) n' mc ms (.ref (gAd g p) :: As) q P (fun _ _ => False)) (hst : st = As.reverse ++ .ref (gAd g p) :: rest) (hn : As.length = m) (hL : L.length = nL) (hrest : (rest.map fun v => v.category).sum ≤ 8) (kk : ∀ (q' : aS), P 0 q' → AW f g (pc + 3) L rest q' (k + mc) (n + ms)) : AW f g pc L st q k n := by
  intro ls H locs ex hl hI hS
  subst hst
  have hf := hfit.loc
  rw [← hR] at hf
  have hrun := vx_runV (rest := rest) (g := F0 (f_m f) pc ls (As.reverse ++ .ref (gAd g p) :: rest)) (locs := locs) (meth := f_me f) (below := f_b f) (e := f_e f) (cells := k) (slots := n) (S := (⟨hC.x, hC.b, hC.ml, hC.o, hC.ts⟩ : CallFix (f_p f) (f_m f) (f_c f) cc nL (f_s f) (f_a f) TW own)) hM (cwV m hC.ts (good_V hm hw) rfl rfl rfl hm.2.2.2.2 hf) (a_preV hC hI hS hc hp As) rfl hn (hl.1.trans hL) rfl (lv_room hrest) dg (by rw [hR]; exact ⟨hfit.2.2.1, hfit.2.2.2⟩)
  refine vx_callv hrun hS (fun _ _ h => h) (fun _ h => h) (fun _ _ h => h) (fun E ce q9 u t H1 locs1 ht hvm _ hB => hB.1.elim) (fun u t H1 locs1 ht hvm hp1 hB hz hk1 hS1 => ?_)
  obtain ⟨ex', hI'⟩ := hB
  rw [ht] at hI'
  exact kk u hp1 ls H1 locs1 ex' hl hI' hS1
theorem a_callS {y : MethodName} {bytes : ByteArray} {maxL n' mc ms N mcR msR index m : Nat} {ty : FieldType} {As : List Value} {P : Int32 → aS → Prop}
    (hC : aOK f g cc nL own) (hR : f_R f = aR N mcR msR) (hm : aSm y bytes maxL (some ty) m) (hw : Cond.methodLink own index y ∈ lw_tbl) (hfit : aFit maxL n' mc ms k n N mcR msR) {rest : List Value} (dg : decode cc pc = .ok (.invokestatic index, 3))
    (hM : aMi (f_l f) g y (aWs y bytes maxL (some ty)) n' mc ms As q P (fun _ _ => False)) (hst : st = As.reverse ++ rest) (hn : As.length = m) (hL : L.length = nL) (hrest : (rest.map fun v => v.category).sum ≤ 8) (kk : ∀ (r : Int32) (q' : aS), P r q' → AW f g (pc + 3) L (.int r :: rest) q' (k + mc) (n + ms)) : AW f g pc L st q k n := by
  intro ls H locs ex hl hI hS
  subst hst
  have hf := hfit.loc
  rw [← hR] at hf
  have hrun := vx_runS (rest := rest) (g := F0 (f_m f) pc ls (As.reverse ++ rest)) (locs := locs) (meth := f_me f) (below := f_b f) (e := f_e f) (cells := k) (slots := n) (S := (⟨hC.x, hC.b, hC.ml, hC.o, hC.ts⟩ : CallFix (f_p f) (f_m f) (f_c f) cc nL (f_s f) (f_a f) TW own)) hM (va_cwS m hC.ts (good_S hm hw) rfl rfl rfl hm.2.2.2 hf) (a_preS hC hI hS As) rfl hn (hl.1.trans hL) rfl (lv_room hrest) dg (by rw [hR]; exact ⟨hfit.2.2.1, hfit.2.2.2⟩)
  refine vx_calli hrun hS (fun _ _ h => h) (fun _ h => h) (fun _ _ h => h) (fun E ce q9 u t H1 locs1 ht hvm _ hB => hB.1.elim) (fun r u t H1 locs1 ht hvm hp1 hB hz hk1 hS1 => ?_)
  obtain ⟨ex', hI'⟩ := hB
  rw [ht] at hI'
  exact kk r u hp1 ls H1 locs1 ex' hl hI' hS1
theorem a_callSv {y : MethodName} {bytes : ByteArray} {maxL n' mc ms N mcR msR index m : Nat} {As : List Value} {P : Int32 → aS → Prop}
    (hC : aOK f g cc nL own) (hR : f_R f = aR N mcR msR) (hm : aSm y bytes maxL none m) (hw : Cond.methodLink own index y ∈ lw_tbl) (hfit : aFit maxL n' mc ms k n N mcR msR) {rest : List Value} (dg : decode cc pc = .ok (.invokestatic index, 3))
    (hM : aMv (f_l f) g y (aWs y bytes maxL none) n' mc ms As q P (fun _ _ => False)) (hst : st = As.reverse ++ rest) (hn : As.length = m) (hL : L.length = nL) (hrest : (rest.map fun v => v.category).sum ≤ 8) (kk : ∀ (q' : aS), P 0 q' → AW f g (pc + 3) L rest q' (k + mc) (n + ms)) : AW f g pc L st q k n := by
  intro ls H locs ex hl hI hS
  subst hst
  have hf := hfit.loc
  rw [← hR] at hf
  have hrun := vx_runS (rest := rest) (g := F0 (f_m f) pc ls (As.reverse ++ rest)) (locs := locs) (meth := f_me f) (below := f_b f) (e := f_e f) (cells := k) (slots := n) (S := (⟨hC.x, hC.b, hC.ml, hC.o, hC.ts⟩ : CallFix (f_p f) (f_m f) (f_c f) cc nL (f_s f) (f_a f) TW own)) hM (va_cwS m hC.ts (good_S hm hw) rfl rfl rfl hm.2.2.2 hf) (a_preS hC hI hS As) rfl hn (hl.1.trans hL) rfl (lv_room hrest) dg (by rw [hR]; exact ⟨hfit.2.2.1, hfit.2.2.2⟩)
  refine vx_callv hrun hS (fun _ _ h => h) (fun _ h => h) (fun _ _ h => h) (fun E ce q9 u t H1 locs1 ht hvm _ hB => hB.1.elim) (fun u t H1 locs1 ht hvm hp1 hB hz hk1 hS1 => ?_)
  obtain ⟨ex', hI'⟩ := hB
  rw [ht] at hI'
  exact kk u hp1 ls H1 locs1 ex' hl hI' hS1
theorem a_mmax (hC : aOK f g cc nL own) {N mcR msR index : Nat} (hR : f_R f = aR N mcR msR) (hN : 1 ≤ N ∧ k ≤ mcR ∧ n ≤ msR) (hL : L.length = nL) (hw : Cond.methodLink own index Lib.Math.max.name ∈ lw_tbl) (hstat : Cond.static Lib.Math.max.name ∈ lw_tbl) (hini : Cond.initialized "java/lang/Math" ∈ lw_tbl) (hcode : Cond.code Lib.Math.max.name Lib.Math.max.code 2 (some .int) ∈ lw_tbl) (hrest : (st.map fun v => v.category).sum ≤ 8) {x y : Int32} (dg : decode cc pc = .ok (.invokestatic index, 3)) (kk : AW f g (pc + 3) L (.int (if x < y then y else x) :: st) q k n) : AW f g pc L (.int y :: .int x :: st) q k n := fun ls H locs ex hl hI hS =>
  va_mmax hC.x hC.b (hC.ml.trans (hL.symm.trans hl.1.symm)) hC.o (hC.w hw rfl) (hC.w hstat rfl) (hC.w hini rfl) (hC.w hcode rfl) (by rw [hR]; exact hN.1) (by rw [hR]; show _ + 13 ≤ 60 * N; omega) (by rw [hR]; exact hN.2.1) (by rw [hR]; exact hN.2.2) dg (kk ls H locs ex hl hI hS)
theorem a_mmin (hC : aOK f g cc nL own) {N mcR msR index : Nat} (hR : f_R f = aR N mcR msR) (hN : 1 ≤ N ∧ k ≤ mcR ∧ n ≤ msR) (hL : L.length = nL) (hw : Cond.methodLink own index Lib.Math.min.name ∈ lw_tbl) (hstat : Cond.static Lib.Math.min.name ∈ lw_tbl) (hini : Cond.initialized "java/lang/Math" ∈ lw_tbl) (hcode : Cond.code Lib.Math.min.name Lib.Math.min.code 2 (some .int) ∈ lw_tbl) (hrest : (st.map fun v => v.category).sum ≤ 8) {x y : Int32} (dg : decode cc pc = .ok (.invokestatic index, 3)) (kk : AW f g (pc + 3) L (.int (if y < x then y else x) :: st) q k n) : AW f g pc L (.int y :: .int x :: st) q k n := fun ls H locs ex hl hI hS =>
  va_mmin hC.x hC.b (hC.ml.trans (hL.symm.trans hl.1.symm)) hC.o (hC.w hw rfl) (hC.w hstat rfl) (hC.w hini rfl) (hC.w hcode rfl) (by rw [hR]; exact hN.1) (by rw [hR]; show _ + 13 ≤ 60 * N; omega) (by rw [hR]; exact hN.2.1) (by rw [hR]; exact hN.2.2) dg (kk ls H locs ex hl hI hS)
theorem a_cret (hC : aOK f g cc nL own) {P : Int32 → aS → Prop} {X : String → aS → Prop} {mc ms : Nat} (hE : aEi f g .char P X mc ms) {v : Int32} (hn : narrow .char (.int v) = .int v) (hp : P v q) (h1 : k ≤ mc) (h2 : n ≤ ms) (dg : decode cc pc = .ok (.ireturn, 1)) : AW f g pc L [.int v] q k n := a_zret hC hE hn hp h1 h2 dg
/-- System.arraycopy of ints: where it keeps to its rows -/
def cpok (n0 n1 : Nat) (sp dp n : Int32) : Prop := ¬ sp < 0 ∧ ¬ dp < 0 ∧ ¬ n < 0 ∧ sp.toNatClampNeg + n.toNatClampNeg ≤ n0 ∧ dp.toNatClampNeg + n.toNatClampNeg ≤ n1
theorem nfw_le : nativeFrameWords "java/lang/System" "arraycopy" 5 ≤ 30 := by decide +kernel
theorem a_copy (hC : aOK f g cc nL own) {N mcR msR index : Nat} (hR : f_R f = aR N mcR msR) (hN : 1 ≤ N) (hL : L.length = nL) (hw : Cond.methodLink own index arraycopyName ∈ lw_tbl) (hnat : Cond.native arraycopyName ∈ lw_tbl) (hstat : Cond.static arraycopyName ∈ lw_tbl) (hini : Cond.initialized "java/lang/System" ∈ lw_tbl) {p0 p1 t0 t1 n0 n1 : Nat} (h0 : aAr g p0 t0 n0 .int) (h1 : aAr g p1 t1 n1 .int) {sp dp z : Int32} (hok : cpok n0 n1 sp dp z) (dg : decode cc pc = .ok (.invokestatic index, 3)) (hrest : (st.map fun v => v.category).sum ≤ 8)
    (kk : AW f g (pc + 3) L st (upR q.1 p1 (va_cpy (q.1 p0) (q.1 p1) sp.toNatClampNeg dp.toNatClampNeg z.toNatClampNeg), q.2) k n) : AW f g pc L (.int z :: .int dp :: .ref (gAd g p1) :: .int sp :: .ref (gAd g p0) :: st) q k n := fun ls H locs ex hl hI hS =>
  va_copyi hC.x hC.b (hC.ml.trans (hL.symm.trans hl.1.symm)) hC.o (hC.w hw rfl) (hC.w hnat rfl) (hC.w hstat rfl) (hC.w hini rfl) hC.K hI.2.1 hI.2.2 hS p0 p1 t0 t1 ((aWl_at g q.1 ex h0.1).trans (by rw [h0.2.1])) ((aWl_at g q.1 ex h1.1).trans (by rw [h1.2.1])) h0.2.2 h1.2.2 rfl hok.1 hok.2.1 hok.2.2.1 hok.2.2.2.1 hok.2.2.2.2 (fun _ _ => rfl) (by rw [hR]; exact hN) (by rw [hR]; exact Nat.le_trans (Nat.add_le_add hrest (Nat.add_le_add_right nfw_le 11)) (Nat.le_trans (Nat.le_of_ble_eq_true rfl : 8 + (30 + 11) ≤ 60 * 1) (Nat.mul_le_mul_left 60 hN))) dg (fun H1 locs1 hP hD hS1 => by
    rw [← h1.2.1, aWl_set g q.1 ex h1.1] at hP hD
    exact kk ls H1 locs1 ex hl ⟨hI.1, hP, hD⟩ hS1)
theorem tab_or {c A B G : Prop} (a : c → A → G) (b : ¬ c → B → G) (h : (c → A) ∧ (¬ c → B)) : G := by
  by_cases e : c
  · exact a e (h.1 e)
  · exact b e (h.2 e)
theorem tab_ne {x v : Int32} {z : Int} (hv : v.toInt = z) (h : ¬ x = v) : x.toInt ≠ z := fun e => h (Int32.toInt_inj.mp (e.trans hv.symm))
end CORE

/-! the law's world: the class' 205 places, the text's two cells, the two rows that take answers, the reference's 8 places; both sides see it by a context of their own -/
/-- worlds as sets: the order doesn't matter -/
theorem wP_perm {D : va_G} {cl : List vw_C} {a b : va_W} {H : Heap} (h : List.Perm a b) (hP : va_P D cl a H) : va_P D cl b H := by
  intro k q hk
  obtain ⟨i, hi⟩ := List.getElem?_of_mem (h.mem_iff.mpr (List.mem_of_getElem? hk))
  exact hP i q hi
theorem wD_nodup {A : Nat → Prop} {a : va_W} : va_D A a ↔ (a.map Prod.fst).Nodup ∧ ∀ q ∈ a, A q.1 := by
  constructor
  · intro h
    refine ⟨?_, fun q hq => ?_⟩
    · show List.Pairwise _ _
      rw [List.pairwise_iff_getElem]
      intro i j hi hj hij he
      have hil : i < a.length := by simpa using hi
      have hjl : j < a.length := by simpa using hj
      rw [List.getElem_map, List.getElem_map] at he
      have := h.1 i j _ _ (List.getElem?_eq_getElem hil) (List.getElem?_eq_getElem hjl) he
      omega
    · obtain ⟨i, hi⟩ := List.getElem?_of_mem hq
      exact h.2 i q hi
  · rintro ⟨hn, hA⟩
    refine ⟨fun i j p q hi hj e => ?_, fun k q hk => hA q (List.mem_of_getElem? hk)⟩
    have hn' : List.Pairwise (fun x y => x ≠ y) (a.map Prod.fst) := hn
    rw [List.pairwise_iff_getElem] at hn'
    obtain ⟨hil, ei⟩ := List.getElem?_eq_some_iff.mp hi
    obtain ⟨hjl, ej⟩ := List.getElem?_eq_some_iff.mp hj
    rcases Nat.lt_trichotomy i j with c | c | c
    · refine absurd ?_ (hn' i j (by simpa using hil) (by simpa using hjl) c)
      rw [List.getElem_map, List.getElem_map, ei, ej]
      exact e
    · exact c
    · refine absurd ?_ (hn' j i (by simpa using hjl) (by simpa using hil) c)
      rw [List.getElem_map, List.getElem_map, ei, ej]
      exact e.symm
theorem wD_perm {A : Nat → Prop} {a b : va_W} (h : List.Perm a b) (hD : va_D A a) : va_D A b := by
  rw [wD_nodup] at hD ⊢
  exact ⟨(h.map Prod.fst).nodup_iff.mp hD.1, fun q hq => hD.2 q (h.mem_iff.mpr hq)⟩
/-- what the law keeps fixed: D, tys, the places of the class, of the reference, of the constants, the rows for answers, base -/
abbrev lP : Type := va_G × List (ClassId × FieldType) × (Nat → Nat) × (Nat → Nat) × (Nat → Nat) × Nat × Nat × Nat
def lc (z : lP) (i : Nat) : ClassId := (z.2.1.getD i (0, .int)).1
def lA (z : lP) : Nat → Prop := fun a => z.2.2.2.2.2.2.2 ≤ a
def sNc : List (String × String) := [("java/lang/IllegalArgumentException", "java/lang/IndexOutOfBoundsException"), ("java/util/NoSuchElementException", "java/lang/IndexOutOfBoundsException"), ("java/util/NoSuchElementException", "java/lang/IllegalArgumentException"), ("java/lang/IllegalStateException", "java/lang/IllegalArgumentException"), ("java/lang/UnsupportedOperationException", "java/lang/IllegalArgumentException")]
theorem sel_priv {C : String} {y : MethodName} {s : State} {args : Array Value} {n : Nat} (hins : (Cond.instantiable C n).before args s = true) (hsame : (Cond.sameMethod y.cls y.cls y.name y.desc).before args s = true) (hpriv : (Cond.privateMethod y).before args s = true) (hinst : (Cond.instanceMethod y).before args s = true) : (Cond.selects C y y).before args s = true := by
  obtain ⟨c, k, hc, hk, -, hniab, -, -⟩ := Cond.instantiable_spec hins
  obtain ⟨mk, methM, hnamed, hmethM, -, -⟩ := Cond.instanceMethod_spec hinst
  obtain ⟨cn, ck, r1, hcn, hck, hni, hf, hn1⟩ := Cond.sameMethod_found hsame
  have hm1 : r1 = mk := Option.some.inj (hn1.symm.trans hnamed)
  subst hm1
  have hcls : r1.cls = cn := Option.some.inj ((findClass_of_methodNamed hnamed).symm.trans hcn)
  have hsel : selectMethod {} s.vm c r1 = .method r1 := selectMethod_private hmethM (Cond.privateMethod_at hpriv r1 methM hnamed hmethM)
  simp only [Cond.before, Cond.holds, Cond.value, hc, hf, hnamed, hsel, hcls, hck]
  simp
  exact hni
/-- private methods of the builder's superclass: they are their own selection on her -/
def selB : List Cond := [.selects RJ4 yJ5_ensureCapacityInternal_d00df yJ5_ensureCapacityInternal_d00df, .selects RJ4 yJ5_newCapacity_0f7a4 yJ5_newCapacity_0f7a4]
theorem selB_2 {P : Cond → Prop} (h1 : P (.selects RJ4 yJ5_ensureCapacityInternal_d00df yJ5_ensureCapacityInternal_d00df)) (h2 : P (.selects RJ4 yJ5_newCapacity_0f7a4 yJ5_newCapacity_0f7a4)) : ∀ w ∈ selB, P w := by
  intro w hw
  simp only [selB, List.mem_cons, List.not_mem_nil, or_false] at hw
  rcases hw with rfl | rfl
  · exact h1
  · exact h2
def EnvN (U : State) : Prop := (∀ p ∈ sNc, va_Nc p.1 p.2 U) ∧ ∀ w ∈ selB, va_Nw w U
theorem EnvN.go {u U : State} (hW : u.WarmedH U.vm) (h : EnvN u) : EnvN U :=
  ⟨fun p hp => (h.1 p hp).moved hW.alike, selB_2 (word_at hW (Or.inl rfl) (h.2 _ List.mem_cons_self)) (word_at hW (Or.inl rfl) (h.2 _ (List.mem_cons_of_mem _ List.mem_cons_self)))⟩
def lEn (z : lP) : State → Heap → Prop := fun U H => EnvX (lA z) z.2.2.2.2.1 U H ∧ EnvM (lA z) z.2.2.2.2.1 U H ∧ EnvN U
/-- the text's cells: the builder at place 205, its bytes -/
def sbEX (z : lP) (t : List Nat) (sb : va_W) : Prop :=
  ∃ (m qv : Nat) (by_ : Nat → Int32) (ml : Int32), sb = [(z.2.2.1 205, .inr (1, [.ref qv, .int 0, .int ml, .int (nI t.length)])), (qv, .inl (lc z 5, (m, .inl by_)))] ∧ t.length ≤ m ∧ m ≤ 200 ∧ t.length ≤ 60 ∧ (∀ j, j < t.length → t.getD j 0 < 128 ∧ by_ j = nI (t.getD j 0)) ∧ ∀ j, fits .byte (.int (by_ j)) = true
def lOut (z : lP) (v : Nat → Int64) (vd : Nat → UInt64) : va_W := [(z.2.2.2.2.2.1, .inl (lc z 6, (1, .inr (.inl v)))), (z.2.2.2.2.2.2.1, .inl (lc z 7, (1, .inr (.inr (.inr (.inl vd))))))]
def lWX (z : lP) (d : Nat → Nat → Int32) : va_W := (List.range 205).map (fun k => (z.2.2.1 k, shX z.2.2.1 z.2.2.2.2.1 (lc z) k (d k)))
def lWM (z : lP) (d : Nat → Nat → Int32) : va_W := (List.range 8).map (fun k => (z.2.2.2.1 k, shM z.2.2.2.1 (lc z) k (d k)))
/-- the class' context: beside it the reference's numbers dM, the answers v, vd -/
def lX (z : lP) (dM : Nat → Nat → Int32) (v : Nat → Int64) (vd : Nat → UInt64) : aG :=
  (z.1, z.2.1, shX z.2.2.1 z.2.2.2.2.1 (lc z), 205, z.2.2.1, fun t ex => ∃ sb, sbEX z t sb ∧ ex = sb ++ (lOut z v vd ++ lWM z dM), lEn z, lA z, z.2.2.2.2.1)
/-- the reference's context: beside it the class' numbers and text -/
def lM (z : lP) (dX : Nat → Nat → Int32) (t : List Nat) (v : Nat → Int64) (vd : Nat → UInt64) : aG :=
  (z.1, z.2.1, shM z.2.2.2.1 (lc z), 8, z.2.2.2.1, fun _ ex => ∃ sb, sbEX z t sb ∧ ex = sb ++ (lOut z v vd ++ lWX z dX), lEn z, lA z, z.2.2.2.2.1)
theorem lEn_cl {z : lP} {g : aG} (h1 : gEn g = lEn z) (h2 : gA g = lA z) : gCl g := by
  intro u U H H1 hW hq h
  rw [h1] at h ⊢
  rw [h2] at hq
  exact ⟨h.1.go hW hq, h.2.1.go hW hq, h.2.2.go hW⟩
theorem lX_is {z : lP} (ht : z.2.1.map Prod.snd = tyX) (dM : Nat → Nat → Int32) (v : Nat → Int64) (vd : Nat → UInt64) : isX (lX z dM v vd) := ⟨rfl, rfl, ht, lEn_cl (z := z) rfl rfl, fun _ _ h => h.1⟩
theorem lM_is {z : lP} (ht : z.2.1.map Prod.snd = tyX) (dX : Nat → Nat → Int32) (t : List Nat) (v : Nat → Int64) (vd : Nat → UInt64) : isM (lM z dX t v vd) := ⟨rfl, rfl, ht, lEn_cl (z := z) rfl rfl, fun _ _ h => h.2.1⟩
theorem lX_wl (z : lP) (dM : Nat → Nat → Int32) (v : Nat → Int64) (vd : Nat → UInt64) (d : Nat → Nat → Int32) : aWl (lX z dM v vd) d = lWX z d := rfl
theorem lM_wl (z : lP) (dX : Nat → Nat → Int32) (t : List Nat) (v : Nat → Int64) (vd : Nat → UInt64) (d : Nat → Nat → Int32) : aWl (lM z dX t v vd) d = lWM z d := rfl
theorem l_perm (a b c d : va_W) : List.Perm (a ++ (b ++ (c ++ d))) (d ++ (b ++ (c ++ a))) := by
  have h1 : List.Perm (a ++ (b ++ (c ++ d))) ((b ++ c) ++ (d ++ a)) := by
    have := List.perm_append_comm (l₁ := a) (l₂ := b ++ (c ++ d))
    simpa [List.append_assoc] using this
  have h2 : List.Perm ((b ++ c) ++ (d ++ a)) (d ++ (a ++ (b ++ c))) := by
    have := List.perm_append_comm (l₁ := b ++ c) (l₂ := d ++ a)
    simpa [List.append_assoc] using this
  have h3 : List.Perm (d ++ (a ++ (b ++ c))) (d ++ (b ++ (c ++ a))) := by
    have := List.Perm.append_left d (List.perm_append_comm (l₁ := a) (l₂ := b ++ c))
    simpa [List.append_assoc] using this
  exact h1.trans (h2.trans h3)
/-- from the class' side to the reference's, and back -/
theorem lX_M {z : lP} {dX dM : Nat → Nat → Int32} {t t' : List Nat} {v : Nat → Int64} {vd : Nat → UInt64} {ex : va_W} {H : Heap} (h : aI (lX z dM v vd) (dX, t) ex H) : ∃ ex', aI (lM z dX t v vd) (dM, t') ex' H := by
  obtain ⟨⟨sb, hsb, rfl⟩, hP, hD⟩ := h
  exact ⟨sb ++ (lOut z v vd ++ lWX z dX), ⟨sb, hsb, rfl⟩, wP_perm (l_perm _ _ _ _) hP, wD_perm (l_perm _ _ _ _) hD⟩
theorem lM_X {z : lP} {dX dM : Nat → Nat → Int32} {t t' : List Nat} {v : Nat → Int64} {vd : Nat → UInt64} {ex : va_W} {H : Heap} (h : aI (lM z dX t v vd) (dM, t') ex H) : ∃ ex', aI (lX z dM v vd) (dX, t) ex' H := by
  obtain ⟨⟨sb, hsb, rfl⟩, hP, hD⟩ := h
  exact ⟨sb ++ (lOut z v vd ++ lWM z dM), ⟨sb, hsb, rfl⟩, wP_perm (l_perm _ _ _ _) hP, wD_perm (l_perm _ _ _ _) hD⟩
section LAW
variable {f : aF} {z : lP} {cc : ByteArray} {nL : Nat} {own : String} {pc : Nat} {L : List (Option Value)} {st : List Value} {dX dM : Nat → Nat → Int32} {t : List Nat} {v : Nat → Int64} {vd : Nat → UInt64} {k n : Nat}
/-- the law's frame, whatever the answers and the reference's numbers are -/
theorem lOK_M (hC : aOK f (lX z dM v vd) cc nL own) (dX : Nat → Nat → Int32) (t : List Nat) : aOK f (lM z dX t v vd) cc nL own :=
  ⟨hC.1, hC.2.1, hC.2.2.1, hC.2.2.2.1, hC.2.2.2.2.1, hC.2.2.2.2.2.1, hC.2.2.2.2.2.2.1, hC.2.2.2.2.2.2.2.1, hC.2.2.2.2.2.2.2.2.1, hC.2.2.2.2.2.2.2.2.2.1, lEn_cl (z := z) rfl rfl⟩
theorem lOK_X (hC : aOK f (lX z dM v vd) cc nL own) (dM' : Nat → Nat → Int32) (v' : Nat → Int64) (vd' : Nat → UInt64) : aOK f (lX z dM' v' vd') cc nL own :=
  ⟨hC.1, hC.2.1, hC.2.2.1, hC.2.2.2.1, hC.2.2.2.2.1, hC.2.2.2.2.2.1, hC.2.2.2.2.2.2.1, hC.2.2.2.2.2.2.2.1, hC.2.2.2.2.2.2.2.2.1, hC.2.2.2.2.2.2.2.2.2.1, lEn_cl (z := z) rfl rfl⟩
/-- a piece of the walk, seen from the reference's side -/
theorem AW.toX (h : AW f (lM z dX t v vd) pc L st (dM, []) k n) : AW f (lX z dM v vd) pc L st (dX, t) k n := by
  intro ls H locs ex hl hI hS
  obtain ⟨ex', hI'⟩ := lX_M (t' := []) hI
  exact h ls H locs ex' hl hI' hS
theorem AW.toM {t' : List Nat} (h : AW f (lX z dM v vd) pc L st (dX, t) k n) : AW f (lM z dX t v vd) pc L st (dM, t') k n := by
  intro ls H locs ex hl hI hS
  obtain ⟨ex', hI'⟩ := lM_X hI
  exact h ls H locs ex' hl hI' hS
theorem a_i2l {g : aG} {q : aS} (hC : aOK f g cc nL own) {x : Int32} (dg : decode cc pc = .ok (.i2l, 1)) (kk : AW f g (pc + 1) L (.long x.toInt64 :: st) q k n) : AW f g pc L (.int x :: st) q k n := fun ls H locs ex hl hI hS => lv_i2l hC.x hC.b dg rfl (kk ls H locs ex hl hI hS)
theorem a_lconst {g : aG} {q : aS} (hC : aOK f g cc nL own) {i : Fin 2} {w : Int64} (dg : decode cc pc = .ok (.lconst i, 1)) (hw : Int64.ofNat (i : Nat) = w) (kk : AW f g (pc + 1) L (.long w :: st) q k n) : AW f g pc L st q k n := fun ls H locs ex hl hI hS => lv_lconst hC.x hC.b dg hw (kk ls H locs ex hl hI hS)
theorem a_lcmp {g : aG} {q : aS} (hC : aOK f g cc nL own) {x y : Int64} (dg : decode cc pc = .ok (.lcmp, 1)) (kk : AW f g (pc + 1) L (.int (lg_cmp x y) :: st) q k n) : AW f g pc L (.long y :: .long x :: st) q k n := fun ls H locs ex hl hI hS => W.lcmp hC.x hC.b dg (kk ls H locs ex hl hI hS)
theorem a_dcmp {g : aG} {q : aS} (hC : aOK f g cc nL own) {x y : UInt64} {op : CmpOp} (dg : decode cc pc = .ok (.dcmp op, 1)) (kk : AW f g (pc + 1) L (.int (Op.cmpValue (FP.dcmp x y) op) :: st) q k n) : AW f g pc L (.double y :: .double x :: st) q k n := fun ls H locs ex hl hI hS => lv_dcmp hC.x hC.b dg (kk ls H locs ex hl hI hS)
theorem a_f2d {g : aG} {q : aS} (hC : aOK f g cc nL own) {x : UInt32} (dg : decode cc pc = .ok (.f2d, 1)) (hne : vf_n64 (FP.f2d x)) (kk : AW f g (pc + 1) L (.double (FP.f2d x) :: st) q k n) : AW f g pc L (.float x :: st) q k n := fun ls H locs ex hl hI hS => lv_f2d hC.x hC.b dg hne (kk ls H locs ex hl hI hS)
/-- the row of answers: its place in the class' world behind the 205 and the text's two -/
theorem lX_out {ex : va_W} {H : Heap} (hI : aI (lX z dM v vd) (dX, t) ex H) : (aWl (lX z dM v vd) dX ++ ex)[207]? = some (z.2.2.2.2.2.1, .inl (lc z 6, (1, .inr (.inl v)))) ∧ (aWl (lX z dM v vd) dX ++ ex)[208]? = some (z.2.2.2.2.2.2.1, .inl (lc z 7, (1, .inr (.inr (.inr (.inl vd)))))) := by
  obtain ⟨⟨sb, ⟨m, qv, by_, ml, rfl, -⟩, rfl⟩, -⟩ := hI
  constructor <;> (rw [List.getElem?_append_right (by rw [aWl_len]; show 205 ≤ _; decide), aWl_len]; rfl)
theorem lX_set {ex : va_W} {H : Heap} (hI : aI (lX z dM v vd) (dX, t) ex H) (v' : Nat → Int64) {H1 : Heap} (hP : va_P z.1 vwCl ((aWl (lX z dM v vd) dX ++ ex).set 207 (z.2.2.2.2.2.1, .inl (lc z 6, (1, .inr (.inl v'))))) H1) (hD : va_D (lA z) ((aWl (lX z dM v vd) dX ++ ex).set 207 (z.2.2.2.2.2.1, .inl (lc z 6, (1, .inr (.inl v')))))) : ∃ ex', aI (lX z dM v' vd) (dX, t) ex' H1 := by
  obtain ⟨⟨sb, hsb, rfl⟩, -⟩ := hI
  have hs := hsb
  obtain ⟨m, qv, by_, ml, rfl, -⟩ := hs
  rw [List.set_append_right _ _ (by rw [aWl_len]; show 205 ≤ _; decide), aWl_len] at hP hD
  exact ⟨_, ⟨_, hsb, rfl⟩, hP, hD⟩
theorem lX_setD {ex : va_W} {H : Heap} (hI : aI (lX z dM v vd) (dX, t) ex H) (v' : Nat → UInt64) {H1 : Heap} (hP : va_P z.1 vwCl ((aWl (lX z dM v vd) dX ++ ex).set 208 (z.2.2.2.2.2.2.1, .inl (lc z 7, (1, .inr (.inr (.inr (.inl v'))))))) H1) (hD : va_D (lA z) ((aWl (lX z dM v vd) dX ++ ex).set 208 (z.2.2.2.2.2.2.1, .inl (lc z 7, (1, .inr (.inr (.inr (.inl v')))))))) : ∃ ex', aI (lX z dM v v') (dX, t) ex' H1 := by
  obtain ⟨⟨sb, hsb, rfl⟩, -⟩ := hI
  have hs := hsb
  obtain ⟨m, qv, by_, ml, rfl, -⟩ := hs
  rw [List.set_append_right _ _ (by rw [aWl_len]; show 205 ≤ _; decide), aWl_len] at hP hD
  exact ⟨_, ⟨_, hsb, rfl⟩, hP, hD⟩
theorem in01 : vp_in 0 1 := by unfold vp_in; decide

theorem a_lastO (ht : z.2.1.map Prod.snd = tyX) (hC : aOK f (lX z dM v vd) cc nL own) {x : Int64} (dg : decode cc pc = .ok (.lastore, 1)) (kk : AW f (lX z dM (vp_updL v 0 x) vd) (pc + 1) L st (dX, t) k n) : AW f (lX z dM v vd) pc L (.long x :: .int 0 :: .ref z.2.2.2.2.2.1 :: st) (dX, t) k n := fun ls H locs ex hl hI hS =>
  va_last hC.x hC.b hC.K hI.2.1 hI.2.2 hS 207 6 (lX_out hI).1 (gc_at (g := lX z dM v vd) ht rfl) in01 dg (fun H1 locs1 hP hD hS1 => by
    obtain ⟨ex', hI'⟩ := lX_set hI _ hP hD
    exact kk ls H1 locs1 ex' hl hI' hS1)
theorem a_dastO (ht : z.2.1.map Prod.snd = tyX) (hC : aOK f (lX z dM v vd) cc nL own) {x : UInt64} (dg : decode cc pc = .ok (.dastore, 1)) (kk : AW f (lX z dM v (vf_upd vd 0 x)) (pc + 1) L st (dX, t) k n) : AW f (lX z dM v vd) pc L (.double x :: .int 0 :: .ref z.2.2.2.2.2.2.1 :: st) (dX, t) k n := fun ls H locs ex hl hI hS =>
  va_dast hC.x hC.b hC.K hI.2.1 hI.2.2 hS 208 7 (lX_out hI).2 (gc_at (g := lX z dM v vd) ht rfl) in01 dg (fun H1 locs1 hP hD hS1 => by
    obtain ⟨ex', hI'⟩ := lX_setD hI _ hP hD
    exact kk ls H1 locs1 ex' hl hI' hS1)
theorem a_laldO (ht : z.2.1.map Prod.snd = tyX) (hC : aOK f (lX z dM v vd) cc nL own) (dg : decode cc pc = .ok (.laload, 1)) (kk : AW f (lX z dM v vd) (pc + 1) L (.long (v 0) :: st) (dX, t) k n) : AW f (lX z dM v vd) pc L (.int 0 :: .ref z.2.2.2.2.2.1 :: st) (dX, t) k n := fun ls H locs ex hl hI hS =>
  va_lald hC.x hC.b hC.K hI.2.1 207 6 (lX_out hI).1 (gc_at (g := lX z dM v vd) ht rfl) in01 dg (kk ls H locs ex hl hI hS)
theorem a_daldO (ht : z.2.1.map Prod.snd = tyX) (hC : aOK f (lX z dM v vd) cc nL own) (dg : decode cc pc = .ok (.daload, 1)) (kk : AW f (lX z dM v vd) (pc + 1) L (.double (vd 0) :: st) (dX, t) k n) : AW f (lX z dM v vd) pc L (.int 0 :: .ref z.2.2.2.2.2.2.1 :: st) (dX, t) k n := fun ls H locs ex hl hI hS =>
  va_dald hC.x hC.b hC.K hI.2.1 208 7 (lX_out hI).2 (gc_at (g := lX z dM v vd) ht rfl) in01 dg (kk ls H locs ex hl hI hS)
end LAW

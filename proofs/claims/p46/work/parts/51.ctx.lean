/-! the law's world: the class' 205 places, a builder at ba, beside them the cells RS -/
/-- worlds as sets: the order doesn't matter -/
theorem wP_perm {D : va_G} {cl : List vw_C} {a b : va_W} {H : Heap} (h : List.Perm a b) (hP : va_P D cl a H) : va_P D cl b H := by
  intro k q hk
  obtain ⟨i, hi⟩ := List.getElem?_of_mem (h.mem_iff.mpr (List.mem_of_getElem? hk))
  exact hP i q hi
theorem wD_nodup {A : Nat → Prop} {a : va_W} : va_D A a ↔ (a.map Prod.fst).Nodup ∧ ∀ q ∈ a, A q.1 := by
  constructor
  · intro h
    refine ⟨?_, fun q hq => ?_⟩
    · show List.Pairwise _ _
      rw [List.pairwise_iff_getElem]
      intro i j hi hj hij he
      have hil : i < a.length := by simpa using hi
      have hjl : j < a.length := by simpa using hj
      rw [List.getElem_map, List.getElem_map] at he
      have := h.1 i j _ _ (List.getElem?_eq_getElem hil) (List.getElem?_eq_getElem hjl) he
      omega
    · obtain ⟨i, hi⟩ := List.getElem?_of_mem hq
      exact h.2 i q hi
  · rintro ⟨hn, hA⟩
    refine ⟨fun i j p q hi hj e => ?_, fun k q hk => hA q (List.mem_of_getElem? hk)⟩
    have hn' : List.Pairwise (fun x y => x ≠ y) (a.map Prod.fst) := hn
    rw [List.pairwise_iff_getElem] at hn'
    obtain ⟨hil, ei⟩ := List.getElem?_eq_some_iff.mp hi
    obtain ⟨hjl, ej⟩ := List.getElem?_eq_some_iff.mp hj
    rcases Nat.lt_trichotomy i j with c | c | c
    · refine absurd ?_ (hn' i j (by simpa using hil) (by simpa using hjl) c)
      rw [List.getElem_map, List.getElem_map, ei, ej]
      exact e
    · exact c
    · refine absurd ?_ (hn' j i (by simpa using hjl) (by simpa using hil) c)
      rw [List.getElem_map, List.getElem_map, ei, ej]
      exact e.symm
theorem wD_perm {A : Nat → Prop} {a b : va_W} (h : List.Perm a b) (hD : va_D A a) : va_D A b := by
  rw [wD_nodup] at hD ⊢
  exact ⟨(h.map Prod.fst).nodup_iff.mp hD.1, fun q hq => hD.2 q (h.mem_iff.mpr hq)⟩
/-- what the law keeps fixed: D, tys, the places of the class, of the constants, base, the script -/
abbrev lP : Type := va_G × List (ClassId × FieldType) × (Nat → Nat) × (Nat → Nat) × Nat × Nat × Nat × (Nat → Int32)
def lc (z : lP) (i : Nat) : ClassId := (z.2.1.getD i (0, .int)).1
def lA (z : lP) : Nat → Prop := fun a => z.2.2.2.2.1 ≤ a
theorem sel_priv {C : String} {y : MethodName} {s : State} {args : Array Value} {n : Nat} (hins : (Cond.instantiable C n).before args s = true) (hsame : (Cond.sameMethod y.cls y.cls y.name y.desc).before args s = true) (hpriv : (Cond.privateMethod y).before args s = true) (hinst : (Cond.instanceMethod y).before args s = true) : (Cond.selects C y y).before args s = true := by
  obtain ⟨c, k, hc, hk, -, hniab, -, -⟩ := Cond.instantiable_spec hins
  obtain ⟨mk, methM, hnamed, hmethM, -, -⟩ := Cond.instanceMethod_spec hinst
  obtain ⟨cn, ck, r1, hcn, hck, hni, hf, hn1⟩ := Cond.sameMethod_found hsame
  have hm1 : r1 = mk := Option.some.inj (hn1.symm.trans hnamed)
  subst hm1
  have hcls : r1.cls = cn := Option.some.inj ((findClass_of_methodNamed hnamed).symm.trans hcn)
  have hsel : selectMethod {} s.vm c r1 = .method r1 := selectMethod_private hmethM (Cond.privateMethod_at hpriv r1 methM hnamed hmethM)
  simp only [Cond.before, Cond.holds, Cond.value, hc, hf, hnamed, hsel, hcls, hck]
  simp
  exact hni
/-- private methods of the builder's superclass: they are their own selection on her -/
def selB : List Cond := [.selects RJ4 yJ5_ensureCapacityInternal_d00df yJ5_ensureCapacityInternal_d00df, .selects RJ4 yJ5_newCapacity_0f7a4 yJ5_newCapacity_0f7a4, .selects RJ4 yJ5_inflateIfNeededFor_a7421 yJ5_inflateIfNeededFor_a7421, .selects RJ4 yJ5_putStringAt_47b60 yJ5_putStringAt_47b60]
theorem selB_4 {P : Cond → Prop} (h1 : P (.selects RJ4 yJ5_ensureCapacityInternal_d00df yJ5_ensureCapacityInternal_d00df)) (h2 : P (.selects RJ4 yJ5_newCapacity_0f7a4 yJ5_newCapacity_0f7a4)) (h3 : P (.selects RJ4 yJ5_inflateIfNeededFor_a7421 yJ5_inflateIfNeededFor_a7421)) (h4 : P (.selects RJ4 yJ5_putStringAt_47b60 yJ5_putStringAt_47b60)) : ∀ w ∈ selB, P w := by
  intro w hw
  simp only [selB, List.mem_cons, List.not_mem_nil, or_false] at hw
  rcases hw with rfl | rfl | rfl | rfl
  · exact h1
  · exact h2
  · exact h3
  · exact h4
theorem selB_m (i : Nat) {w : Cond} (h : selB[i]? = some w) : w ∈ selB := List.mem_of_getElem? h
/-- the law's constants: where their texts lie -/
def lTxt : List (Nat × String) := [(215, ""), (217, "*"), (202, "["), (207, "~"), (209, "]"), (219, "s"), (228, "="), (230, "/"), (235, "^"), (237, "@"), (242, "!"), (244, "%")]
def EnvN (U : State) : Prop := (∀ p ∈ sNc, va_Nc p.1 p.2 U) ∧ (∀ w ∈ selB, va_Nw w U) ∧ va_Nw (.castable "[B" "java/lang/Cloneable") U
theorem EnvN.go {u U : State} (hW : u.WarmedH U.vm) (h : EnvN u) : EnvN U :=
  ⟨fun p hp => (h.1 p hp).moved hW.alike, selB_4 (word_at hW (Or.inl rfl) (h.2.1 _ (selB_m 0 rfl))) (word_at hW (Or.inl rfl) (h.2.1 _ (selB_m 1 rfl))) (word_at hW (Or.inl rfl) (h.2.1 _ (selB_m 2 rfl))) (word_at hW (Or.inl rfl) (h.2.1 _ (selB_m 3 rfl))), h.2.2.warmC hW⟩
def EnvL (kd : Nat → Nat) (U : State) : Prop := ∀ i, i < 12 → vk_R RL (lTxt.getD i (0, "")).1 (lTxt.getD i (0, "")).2 (kd (20 + i)) U
theorem EnvL.go {kd : Nat → Nat} {u U : State} (hW : u.WarmedH U.vm) (h : EnvL kd u) : EnvL kd U := fun i hi => (h i hi).warm hW
def Scr (A : Nat → Prop) (sa sn : Nat) (xs : Nat → Int32) (U : State) (H : Heap) : Prop := va_X sa sn xs U H ∧ sa < H.size ∧ ¬ A sa
theorem Scr.go {A : Nat → Prop} {sa sn : Nat} {xs : Nat → Int32} {u U : State} {H H1 : Heap} (hW : u.WarmedH U.vm) (hq : ∀ a : Nat, a < H.size → ¬ A a → H1[a]? = H[a]?) (h : Scr A sa sn xs u H) : Scr A sa sn xs U H1 := by
  obtain ⟨h1, h2, h3⟩ := h
  have e := hq sa h2 h3
  refine ⟨va_X.kept (va_X.moved hW.alike h1) e, ?_, h3⟩
  rw [Array.getElem?_eq_getElem h2] at e
  exact (Array.getElem?_eq_some_iff.mp e).1
def lEn (z : lP) : State → Heap → Prop := fun U H => EnvX (lA z) z.2.2.2.1 U H ∧ EnvN U ∧ EnvL z.2.2.2.1 U ∧ Scr (lA z) z.2.2.2.2.2.1 z.2.2.2.2.2.2.1 z.2.2.2.2.2.2.2 U H ∧ EnvC U
/-- the builder's cells: she at ba, her bytes -/
def sbEX (z : lP) (ba : Nat) (t : List Nat) (sb : va_W) : Prop :=
  ∃ (m qv : Nat) (by_ : Nat → Int32) (ml : Int32), sb = [(ba, .inr (1, [.ref qv, .int 0, .int ml, .int (nI t.length)])), (qv, .inl (lc z 5, (m, .inl by_)))] ∧ t.length ≤ m ∧ m ≤ 200 ∧ t.length ≤ 60 ∧ (∀ j, j < t.length → t.getD j 0 < 128 ∧ by_ j = nI (t.getD j 0)) ∧ ∀ j, fits .byte (.int (by_ j)) = true
def lWX (z : lP) (d : Nat → Nat → Int32) : va_W := (List.range 205).map (fun k => (z.2.2.1 k, shX z.2.2.1 z.2.2.2.1 (lc z) k (d k)))
def lX (z : lP) (RS : va_W) (ba : Nat) : aG :=
  (z.1, z.2.1, shX z.2.2.1 z.2.2.2.1 (lc z), 205, z.2.2.1, fun t ex => ∃ sb, sbEX z ba t sb ∧ ex = sb ++ RS, lEn z, lA z, z.2.2.2.1)
theorem lEn_cl {z : lP} {g : aG} (h1 : gEn g = lEn z) (h2 : gA g = lA z) : gCl g := by
  intro u U H H1 hW hq h
  rw [h1] at h ⊢
  rw [h2] at hq
  exact ⟨h.1.go hW hq, h.2.1.go hW, h.2.2.1.go hW, h.2.2.2.1.go hW hq, h.2.2.2.2.go hW⟩
theorem lX_is {z : lP} (ht : z.2.1.map Prod.snd = tyX) (RS : va_W) (ba : Nat) : isX (lX z RS ba) := ⟨rfl, rfl, ht, lEn_cl (z := z) rfl rfl, fun _ _ h => h.1⟩
theorem lX_nc {z : lP} (RS : va_W) (ba : Nat) : isNc (lX z RS ba) := fun _ _ h => h.2.1.1
theorem lX_scr {z : lP} (RS : va_W) (ba : Nat) : isScr z.2.2.2.2.2.1 z.2.2.2.2.2.2.1 z.2.2.2.2.2.2.2 (lX z RS ba) := fun _ _ h => h.2.2.2.1
theorem lX_wl (z : lP) (RS : va_W) (ba : Nat) (d : Nat → Nat → Int32) : aWl (lX z RS ba) d = lWX z d := rfl
section CTX
variable {f : aF} {z : lP} {cc : ByteArray} {nL : Nat} {own : String} {pc : Nat} {L : List (Option Value)} {st : List Value} {q : aS} {RS : va_W} {ba k n : Nat}
/-- the frame, whatever stands beside the class -/
theorem lOK (hC : aOK f (lX z RS ba) cc nL own) (RS' : va_W) (ba' : Nat) : aOK f (lX z RS' ba') cc nL own :=
  ⟨hC.1, hC.2.1, hC.2.2.1, hC.2.2.2.1, hC.2.2.2.2.1, hC.2.2.2.2.2.1, hC.2.2.2.2.2.2.1, hC.2.2.2.2.2.2.2.1, hC.2.2.2.2.2.2.2.2.1, hC.2.2.2.2.2.2.2.2.2.1, lEn_cl (z := z) rfl rfl⟩
/-- a constant text of the law -/
theorem a_ldcT (hC : aOK f (lX z RS ba) cc nL RL) (i : Nat) (hi : i < 12) {idx : Nat} (hx : (lTxt.getD i (0, "")).1 = idx) (dg : decode cc pc = .ok (.ldc idx, 2)) (kk : AW f (lX z RS ba) (pc + 2) L (.ref (z.2.2.2.1 (20 + i)) :: st) q k n) : AW f (lX z RS ba) pc L st q k n := fun ls H locs ex hl hI hS => by
  have hR : vk_R RL (lTxt.getD i (0, "")).1 (lTxt.getD i (0, "")).2 (z.2.2.2.1 (20 + i)) (f_s f) := (show lEn z (f_s f) (f_s f).heap from hC.en).2.2.1 i hi
  rw [hx] at hR
  exact va_ldcS hC.x hC.b hC.o hR dg (kk ls H locs ex hl hI hS)
end CTX

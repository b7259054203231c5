/-! the law itself: a council is made, laid, and looked at sixteen times -/
theorem dL_law_0 : decode cL_law 0 = .ok (.new 26, 3) := by decide +kernel
theorem dL_law_3 : decode cL_law 3 = .ok (.dup, 1) := by decide +kernel
theorem dL_law_4 : decode cL_law 4 = .ok (.invokespecial 246, 3) := by decide +kernel
theorem dL_law_7 : decode cL_law 7 = .ok (.astore_n 1, 1) := by decide +kernel
theorem dL_law_8 : decode cL_law 8 = .ok (.aload_n 1, 1) := by decide +kernel
theorem dL_law_9 : decode cL_law 9 = .ok (.aload_n 0, 1) := by decide +kernel
theorem dL_law_10 : decode cL_law 10 = .ok (.invokestatic 247, 3) := by decide +kernel
theorem dL_law_13 : decode cL_law 13 = .ok (.iconst 0, 1) := by decide +kernel
theorem dL_law_14 : decode cL_law 14 = .ok (.istore_n 2, 1) := by decide +kernel
theorem dL_law_15 : decode cL_law 15 = .ok (.iload_n 2, 1) := by decide +kernel
theorem dL_law_16 : decode cL_law 16 = .ok (.bipush 16, 2) := by decide +kernel
theorem dL_law_18 : decode cL_law 18 = .ok (.if_icmp .ge 121, 3) := by decide +kernel
theorem dL_law_21 : decode cL_law 21 = .ok (.aload_n 1, 1) := by decide +kernel
theorem dL_law_22 : decode cL_law 22 = .ok (.aload_n 0, 1) := by decide +kernel
theorem dL_law_23 : decode cL_law 23 = .ok (.sipush 200, 3) := by decide +kernel
theorem dL_law_26 : decode cL_law 26 = .ok (.iconst 5, 1) := by decide +kernel
theorem dL_law_27 : decode cL_law 27 = .ok (.iload_n 2, 1) := by decide +kernel
theorem dL_law_28 : decode cL_law 28 = .ok (.imul, 1) := by decide +kernel
theorem dL_law_29 : decode cL_law 29 = .ok (.iadd, 1) := by decide +kernel
theorem dL_law_30 : decode cL_law 30 = .ok (.invokestatic 251, 3) := by decide +kernel
theorem dL_law_33 : decode cL_law 33 = .ok (.istore_n 3, 1) := by decide +kernel
theorem dL_law_34 : decode cL_law 34 = .ok (.aload_n 1, 1) := by decide +kernel
theorem dL_law_35 : decode cL_law 35 = .ok (.invokestatic 255, 3) := by decide +kernel
theorem dL_law_38 : decode cL_law 38 = .ok (.ifCond .eq 45, 3) := by decide +kernel
theorem dL_law_41 : decode cL_law 41 = .ok (.aload_n 1, 1) := by decide +kernel
theorem dL_law_42 : decode cL_law 42 = .ok (.invokestatic 259, 3) := by decide +kernel
theorem dL_law_45 : decode cL_law 45 = .ok (.ifCond .eq 38, 3) := by decide +kernel
theorem dL_law_48 : decode cL_law 48 = .ok (.aload_n 1, 1) := by decide +kernel
theorem dL_law_49 : decode cL_law 49 = .ok (.invokestatic 262, 3) := by decide +kernel
theorem dL_law_52 : decode cL_law 52 = .ok (.ifCond .eq 31, 3) := by decide +kernel
theorem dL_law_55 : decode cL_law 55 = .ok (.aload_n 1, 1) := by decide +kernel
theorem dL_law_56 : decode cL_law 56 = .ok (.invokestatic 265, 3) := by decide +kernel
theorem dL_law_59 : decode cL_law 59 = .ok (.ifCond .eq 24, 3) := by decide +kernel
theorem dL_law_62 : decode cL_law 62 = .ok (.aload_n 1, 1) := by decide +kernel
theorem dL_law_63 : decode cL_law 63 = .ok (.iconst 3, 1) := by decide +kernel
theorem dL_law_64 : decode cL_law 64 = .ok (.aload_n 1, 1) := by decide +kernel
theorem dL_law_65 : decode cL_law 65 = .ok (.iconst 2, 1) := by decide +kernel
theorem dL_law_66 : decode cL_law 66 = .ok (.invokevirtual 127, 3) := by decide +kernel
theorem dL_law_69 : decode cL_law 69 = .ok (.iconst 0, 1) := by decide +kernel
theorem dL_law_70 : decode cL_law 70 = .ok (.invokestatic 138, 3) := by decide +kernel
theorem dL_law_73 : decode cL_law 73 = .ok (.sipush (-2002), 3) := by decide +kernel
theorem dL_law_76 : decode cL_law 76 = .ok (.if_icmp .ne 7, 3) := by decide +kernel
theorem dL_law_79 : decode cL_law 79 = .ok (.iconst 1, 1) := by decide +kernel
theorem dL_law_80 : decode cL_law 80 = .ok (.goto 4, 3) := by decide +kernel
theorem dL_law_83 : decode cL_law 83 = .ok (.iconst 0, 1) := by decide +kernel
theorem dL_law_84 : decode cL_law 84 = .ok (.istore 4, 2) := by decide +kernel
theorem dL_law_86 : decode cL_law 86 = .ok (.iconst 0, 1) := by decide +kernel
theorem dL_law_87 : decode cL_law 87 = .ok (.istore 5, 2) := by decide +kernel
theorem dL_law_89 : decode cL_law 89 = .ok (.iload 5, 2) := by decide +kernel
theorem dL_law_91 : decode cL_law 91 = .ok (.aload_n 1, 1) := by decide +kernel
theorem dL_law_92 : decode cL_law 92 = .ok (.iconst 2, 1) := by decide +kernel
theorem dL_law_93 : decode cL_law 93 = .ok (.invokevirtual 127, 3) := by decide +kernel
theorem dL_law_96 : decode cL_law 96 = .ok (.if_icmp .ge 30, 3) := by decide +kernel
theorem dL_law_99 : decode cL_law 99 = .ok (.iload 4, 2) := by decide +kernel
theorem dL_law_101 : decode cL_law 101 = .ok (.ifCond .eq 16, 3) := by decide +kernel
theorem dL_law_104 : decode cL_law 104 = .ok (.aload_n 1, 1) := by decide +kernel
theorem dL_law_105 : decode cL_law 105 = .ok (.iload 5, 2) := by decide +kernel
theorem dL_law_107 : decode cL_law 107 = .ok (.invokestatic 268, 3) := by decide +kernel
theorem dL_law_110 : decode cL_law 110 = .ok (.ifCond .eq 7, 3) := by decide +kernel
theorem dL_law_113 : decode cL_law 113 = .ok (.iconst 1, 1) := by decide +kernel
theorem dL_law_114 : decode cL_law 114 = .ok (.goto 4, 3) := by decide +kernel
theorem dL_law_117 : decode cL_law 117 = .ok (.iconst 0, 1) := by decide +kernel
theorem dL_law_118 : decode cL_law 118 = .ok (.istore 4, 2) := by decide +kernel
theorem dL_law_120 : decode cL_law 120 = .ok (.iinc 5 1, 3) := by decide +kernel
theorem dL_law_123 : decode cL_law 123 = .ok (.goto (-34), 3) := by decide +kernel
theorem dL_law_126 : decode cL_law 126 = .ok (.iload 4, 2) := by decide +kernel
theorem dL_law_128 : decode cL_law 128 = .ok (.ifCond .ne 5, 3) := by decide +kernel
theorem dL_law_131 : decode cL_law 131 = .ok (.iconst 0, 1) := by decide +kernel
theorem dL_law_132 : decode cL_law 132 = .ok (.ireturn, 1) := by decide +kernel
theorem dL_law_133 : decode cL_law 133 = .ok (.iinc 2 1, 3) := by decide +kernel
theorem dL_law_136 : decode cL_law 136 = .ok (.goto (-121), 3) := by decide +kernel
theorem dL_law_139 : decode cL_law 139 = .ok (.iconst 1, 1) := by decide +kernel
theorem dL_law_140 : decode cL_law 140 = .ok (.ireturn, 1) := by decide +kernel
section LAWR
variable {f : aF} {g : aG} {cc : ByteArray} {nL : Nat} {own : String} {pc : Nat} {L : List (Option Value)} {st : List Value} {q : aS} {k n : Nat}
theorem r_callV {y : MethodName} {C : String} {bytes : ByteArray} {maxL n' mc ms N mcR msR index ci p Nf m : Nat} {ty : FieldType} {As : List Value} {T : u_T} {F : (Nat → Int32) → List Value} {P : Int32 → aS → Prop}
    (hC : aOK f g cc nL own) (hR : lRoom f N mcR msR) (hm : aVm y C bytes maxL (some ty) m) (hw : Cond.methodLink own index y ∈ lw_tbl) (hc : aCl ci C T Nf) (hp : aOb g p ci F) (hfit : aFit maxL n' mc ms k n N mcR msR) {rest : List Value} (dg : decode cc pc = .ok (.invokevirtual index, 3))
    (hM : aMi (f_l f) g y (aWs y bytes maxL (some ty)) n' mc ms (.ref (gAd g p) :: As) q P (fun _ _ => False)) (hst : st = As.reverse ++ .ref (gAd g p) :: rest) (hn : As.length = m) (hL : L.length = nL) (hrest : (rest.map fun v => v.category).sum ≤ 8) (kk : ∀ (r : Int32) (q' : aS), P r q' → AW f g (pc + 3) L (.int r :: rest) q' (k + mc) (n + ms)) : AW f g pc L st q k n := by
  intro ls H locs ex hl hI hS
  subst hst
  have hf := (hR.fit hfit).1
  have hrun := vx_runV (rest := rest) (g := F0 (f_m f) pc ls (As.reverse ++ .ref (gAd g p) :: rest)) (locs := locs) (meth := f_me f) (below := f_b f) (e := f_e f) (cells := k) (slots := n) (S := (⟨hC.x, hC.b, hC.ml, hC.o, hC.ts⟩ : CallFix (f_p f) (f_m f) (f_c f) cc nL (f_s f) (f_a f) TW own)) hM (cwV m hC.ts (good_V hm hw) rfl rfl rfl hm.2.2.2.2 hf) (a_preV hC hI hS hc hp As) rfl hn (hl.1.trans hL) rfl (lv_room hrest) dg (hR.fit hfit).2
  refine vx_calli hrun hS (fun _ _ h => h) (fun _ h => h) (fun _ _ h => h) (fun E ce q9 u t H1 locs1 ht hvm _ hB => hB.1.elim) (fun r u t H1 locs1 ht hvm hp1 hB hz hk1 hS1 => ?_)
  obtain ⟨ex', hI'⟩ := hB
  rw [ht] at hI'
  exact kk r u hp1 ls H1 locs1 ex' hl hI' hS1
theorem r_callS {y : MethodName} {bytes : ByteArray} {maxL n' mc ms N mcR msR index m : Nat} {ty : FieldType} {As : List Value} {P : Int32 → aS → Prop}
    (hC : aOK f g cc nL own) (hR : lRoom f N mcR msR) (hm : aSm y bytes maxL (some ty) m) (hw : Cond.methodLink own index y ∈ lw_tbl) (hfit : aFit maxL n' mc ms k n N mcR msR) {rest : List Value} (dg : decode cc pc = .ok (.invokestatic index, 3))
    (hM : aMi (f_l f) g y (aWs y bytes maxL (some ty)) n' mc ms As q P (fun _ _ => False)) (hst : st = As.reverse ++ rest) (hn : As.length = m) (hL : L.length = nL) (hrest : (rest.map fun v => v.category).sum ≤ 8) (kk : ∀ (r : Int32) (q' : aS), P r q' → AW f g (pc + 3) L (.int r :: rest) q' (k + mc) (n + ms)) : AW f g pc L st q k n := by
  intro ls H locs ex hl hI hS
  subst hst
  have hf := (hR.fit hfit).1
  have hrun := vx_runS (rest := rest) (g := F0 (f_m f) pc ls (As.reverse ++ rest)) (locs := locs) (meth := f_me f) (below := f_b f) (e := f_e f) (cells := k) (slots := n) (S := (⟨hC.x, hC.b, hC.ml, hC.o, hC.ts⟩ : CallFix (f_p f) (f_m f) (f_c f) cc nL (f_s f) (f_a f) TW own)) hM (va_cwS m hC.ts (good_S hm hw) rfl rfl rfl hm.2.2.2 hf) (a_preS hC hI hS As) rfl hn (hl.1.trans hL) rfl (lv_room hrest) dg (hR.fit hfit).2
  refine vx_calli hrun hS (fun _ _ h => h) (fun _ h => h) (fun _ _ h => h) (fun E ce q9 u t H1 locs1 ht hvm _ hB => hB.1.elim) (fun r u t H1 locs1 ht hvm hp1 hB hz hk1 hS1 => ?_)
  obtain ⟨ex', hI'⟩ := hB
  rw [ht] at hI'
  exact kk r u hp1 ls H1 locs1 ex' hl hI' hS1
theorem r_callSv {y : MethodName} {bytes : ByteArray} {maxL n' mc ms N mcR msR index m : Nat} {As : List Value} {P : Int32 → aS → Prop}
    (hC : aOK f g cc nL own) (hR : lRoom f N mcR msR) (hm : aSm y bytes maxL none m) (hw : Cond.methodLink own index y ∈ lw_tbl) (hfit : aFit maxL n' mc ms k n N mcR msR) {rest : List Value} (dg : decode cc pc = .ok (.invokestatic index, 3))
    (hM : aMv (f_l f) g y (aWs y bytes maxL none) n' mc ms As q P (fun _ _ => False)) (hst : st = As.reverse ++ rest) (hn : As.length = m) (hL : L.length = nL) (hrest : (rest.map fun v => v.category).sum ≤ 8) (kk : ∀ (q' : aS), P 0 q' → AW f g (pc + 3) L rest q' (k + mc) (n + ms)) : AW f g pc L st q k n := by
  intro ls H locs ex hl hI hS
  subst hst
  have hf := (hR.fit hfit).1
  have hrun := vx_runS (rest := rest) (g := F0 (f_m f) pc ls (As.reverse ++ rest)) (locs := locs) (meth := f_me f) (below := f_b f) (e := f_e f) (cells := k) (slots := n) (S := (⟨hC.x, hC.b, hC.ml, hC.o, hC.ts⟩ : CallFix (f_p f) (f_m f) (f_c f) cc nL (f_s f) (f_a f) TW own)) hM (va_cwS m hC.ts (good_S hm hw) rfl rfl rfl hm.2.2.2 hf) (a_preS hC hI hS As) rfl hn (hl.1.trans hL) rfl (lv_room hrest) dg (hR.fit hfit).2
  refine vx_callv hrun hS (fun _ _ h => h) (fun _ h => h) (fun _ _ h => h) (fun E ce q9 u t H1 locs1 ht hvm _ hB => hB.1.elim) (fun u t H1 locs1 ht hvm hp1 hB hz hk1 hS1 => ?_)
  obtain ⟨ex', hI'⟩ := hB
  rw [ht] at hI'
  exact kk u hp1 ls H1 locs1 ex' hl hI' hS1
theorem r_callSh {y : MethodName} {bytes : ByteArray} {maxL n' mc ms N mcR msR index m : Nat} {hh : List (Nat × Nat × Nat × Nat)} {As : List Value} {P : Int32 → aS → Prop}
    (hC : aOK f g cc nL own) (hR : lRoom f N mcR msR) (hm : lSm y bytes maxL hh m) (hw : Cond.methodLink own index y ∈ lw_tbl) (hfit : aFit maxL n' mc ms k n N mcR msR) {rest : List Value} (dg : decode cc pc = .ok (.invokestatic index, 3))
    (hM : aMh (f_l f) g y (hWs y bytes maxL hh) n' mc ms As q P) (hst : st = As.reverse ++ rest) (hn : As.length = m) (hL : L.length = nL) (hrest : (rest.map fun v => v.category).sum ≤ 8)
    (kk : ∀ (r : Int32) (q' : aS), P r q' → AW f g (pc + 3) L (.int r :: rest) q' (k + mc) (n + ms)) : AW f g pc L st q k n := by
  intro ls H locs ex hl hI hS
  subst hst
  have hf := (hR.fit hfit).1
  have hgood : GoodIn TW (va_wsS own index y (hWs y bytes maxL hh)) := by
    intro w h
    refine good_TW ?_
    rcases List.mem_append.mp h with h | h
    · simp only [List.mem_cons, List.not_mem_nil, or_false] at h
      rcases h with rfl | rfl | rfl
      · exact tk_w hw rfl
      · exact tk_w hm.2.1 rfl
      · exact tk_w hm.2.2.1 rfl
    · rcases List.mem_cons.mp h with rfl | h
      · exact tk_w hm.1 rfl
      · exact h
  have hrun := vx_runSW (rest := rest) (g := F0 (f_m f) pc ls (As.reverse ++ rest)) (locs := locs) (meth := f_me f) (below := f_b f) (e := f_e f) (cells := k) (slots := n) (S := (⟨hC.x, hC.b, hC.ml, hC.o, hC.ts⟩ : CallFix (f_p f) (f_m f) (f_c f) cc nL (f_s f) (f_a f) TW own)) hM (vx_cwSW m hC.ts hgood rfl rfl rfl hm.2.2.2 hf) (a_preS hC hI hS As) rfl hn (hl.1.trans hL) rfl (lv_room hrest) dg (hR.fit hfit).2
  refine va_calli hrun hS (fun _ _ h => h) (fun _ h => h) (fun r u t H1 locs1 ht hvm hp1 hB hz hk1 hS1 => ?_)
  obtain ⟨ex', hI'⟩ := hB
  rw [ht] at hI'
  exact kk r u hp1 ls H1 locs1 ex' hl hI' hS1
end LAWR
theorem va_at_dc {D : va_G} {cl : List vw_C} {a : Nat} {cA : ClassId} {n : Nat} {F F' : Nat → Option Nat} (hF : ∀ j, j < n → F j = F' j) {H : Heap} (h : va_at D cl (a, .inl (cA, (n, .inr (.inr (.inr (.inr F)))))) H) : va_at D cl (a, .inl (cA, (n, .inr (.inr (.inr (.inr F')))))) H := by
  have e : vp_cell cA (n, .inr (.inr (.inr (.inr F)))) = vp_cell cA (n, .inr (.inr (.inr (.inr F')))) := by
    rw [vp_cell, vp_cell]
    unfold arrV
    have e2 : (fun j : Fin n => va_rf (F j.val)) = fun j : Fin n => va_rf (F' j.val) := funext (fun j => by rw [hF j.val j.isLt])
    exact congrArg (fun g : Fin n → Value => ({ cls := cA, slots := Array.ofFn g, vm := .none } : Cell)) e2
  exact (show H[a]? = some _ from h).trans (congrArg some e)
theorem eX_shX {D : va_G} {cl : List vw_C} {ad kd : Nat → Nat} {c : Nat → ClassId} {F G H : Nat → Option Nat} (hF : ∀ j, j < 8 → F j = some (ad (54 + 17 * j))) (hG : ∀ j, j < 10 → G j = some (kd 9)) (hH : ∀ j, j < 10 → H j = some (ad (194 + j))) {k : Nat} {Hp : Heap} (h : va_at D cl (ad k, eX ad kd c F G H k) Hp) : va_at D cl (ad k, shX ad kd c k (dX0 k)) Hp := by
  unfold eX at h
  by_cases e1 : k = 53
  · subst e1
    exact va_at_dc hF h
  rw [if_neg e1] at h
  by_cases e2 : k = 192
  · subst e2
    exact va_at_dc hG h
  rw [if_neg e2] at h
  by_cases e3 : k = 193
  · subst e3
    exact va_at_dc hH h
  rw [if_neg e3] at h
  exact h
theorem wP_map {D : va_G} {cl : List vw_C} {n : Nat} {a : Nat → Nat} {e e' : Nat → va_E} {r : va_W} {H : Heap} (he : ∀ k, k < n → va_at D cl (a k, e k) H → va_at D cl (a k, e' k) H) (hP : va_P D cl ((List.range n).map (fun k => (a k, e k)) ++ r) H) : va_P D cl ((List.range n).map (fun k => (a k, e' k)) ++ r) H := by
  intro i q hq
  by_cases hi : i < n
  · rw [List.getElem?_append_left (by simpa using hi)] at hq
    have hq' : q = (a i, e' i) := by
      simpa [hi, eq_comm] using hq
    subst hq'
    refine he i hi (hP i _ ?_)
    rw [List.getElem?_append_left (by simpa using hi)]
    simp [hi]
  · have hl : ∀ g : Nat → va_E, ((List.range n).map (fun k => (a k, g k)) ++ r)[i]? = r[i - n]? := by
      intro g
      rw [List.getElem?_append_right (by simpa using Nat.le_of_not_lt hi)]
      simp
    rw [hl] at hq
    exact hP i q (by rw [hl]; exact hq)
theorem wD_fst {A : Nat → Prop} {w w' : va_W} (h : w.map Prod.fst = w'.map Prod.fst) (hD : va_D A w) : va_D A w' := by
  have hg : ∀ (i : Nat) (p : Nat × va_E), w'[i]? = some p → ∃ p0 : Nat × va_E, w[i]? = some p0 ∧ p0.1 = p.1 := by
    intro i p hp
    have h1 : (w'.map Prod.fst)[i]? = some p.1 := by rw [List.getElem?_map, hp]; rfl
    rw [← h, List.getElem?_map] at h1
    cases hw : w[i]? with
    | none => rw [hw] at h1; cases h1
    | some p0 => rw [hw] at h1; exact ⟨p0, rfl, Option.some.inj h1⟩
  refine ⟨fun i j p q hp hq e => ?_, fun k q hq => ?_⟩
  · obtain ⟨p0, p1, p2⟩ := hg i p hp
    obtain ⟨q0, q1, q2⟩ := hg j q hq
    exact hD.1 i j p0 q0 p1 q1 (p2.trans (e.trans q2.symm))
  · obtain ⟨q0, q1, q2⟩ := hg k q hq
    exact q2 ▸ hD.2 k q0 q1
def zMk (z : lP) (ad : Nat → Nat) : lP := (z.1, z.2.1, ad, z.2.2.2)
theorem nX_of {f : aF} {z : lP} {ad : Nat → Nat} {qv : Nat} {F G H : Nat → Option Nat} (hF : ∀ j, j < 8 → F j = some (ad (54 + 17 * j))) (hG : ∀ j, j < 10 → G j = some (z.2.2.2.1 9)) (hH : ∀ j, j < 10 → H j = some (ad (194 + j))) {ws : va_W} (hp : ws.Perm ((List.range 205).map (fun k => (ad k, eX ad z.2.2.2.1 (lc z) F G H k)) ++ ([(ad 205, .inr (1, [.ref qv, .int 0, .int 0, .int 0])), (qv, .inl (lc z 5, (16, .inl (fun _ => 0))))] ++ []))) {pc : Nat} {L : List (Option Value)} {st : List Value} {k n : Nat}
    (h : AW f (lX (zMk z ad) [] (ad 205)) pc L st (dX0, []) k n) : AW f (nG z ws) pc L st q0 k n := by
  intro ls Hp locs ex hl hI hS
  obtain ⟨he, hP, hD⟩ := hI
  have he : ex = ws := he
  subst he
  have hP1 := wP_map (fun k _ => eX_shX hF hG hH) (wP_perm hp (show va_P z.1 vwCl ex Hp from hP))
  have hD1 := wD_perm hp (show va_D (lA z) ex from hD)
  refine h ls Hp locs _ hl ⟨⟨_, ⟨16, qv, fun _ => 0, 0, rfl, Nat.zero_le _, by decide, Nat.zero_le _, fun j hj => absurd hj (Nat.not_lt_zero j), fun _ => rfl⟩, rfl⟩, hP1, wD_fst ?_ hD1⟩ hS
  have hm : ∀ (e e' : Nat → va_E) (r : va_W), ((List.range 205).map (fun k => (ad k, e k)) ++ r).map Prod.fst = ((List.range 205).map (fun k => (ad k, e' k)) ++ r).map Prod.fst := fun e e' r => by
    rw [List.map_append, List.map_append, List.map_map, List.map_map]
    rfl
  exact hm _ _ _
theorem j0 : J 0 (dX0, []) := by
  refine ⟨fun _ _ => 0, 0, 0, fun _ _ _ => 0, fun i j h => ?_, ?_, ?_⟩
  · unfold okS at h
    show dX0 (1 + i) j = 0
    unfold dX0
    rw [if_neg (by omega), if_neg (by omega)]
  · have c : cR (fun _ _ => 0) = 0 := by unfold cR; decide
    have ce : cE (fun _ _ => 0) = 0 := by unfold cE; decide
    have cs : cS (fun _ _ => 0) = 0 := by unfold cS; decide
    refine ⟨⟨⟨by rw [c]; rfl, by rw [c]; decide⟩, ⟨by rw [ce]; rfl, by rw [ce]; decide⟩, ⟨by rw [cs]; rfl, by rw [cs]; decide⟩⟩, fun j hj => ?_, fun j hj => ?_, fun j hj => ?_, ⟨fun _ _ _ => ⟨rfl, rfl⟩, fun _ _ _ => ⟨rfl, rfl⟩, fun _ _ _ => ⟨rfl, rfl⟩⟩, ?_, ?_⟩
    · rw [c] at hj
      exact absurd hj (Nat.not_lt_zero _)
    · rw [ce] at hj
      exact absurd hj (Nat.not_lt_zero _)
    · rw [cs] at hj
      exact absurd hj (Nat.not_lt_zero _)
    · show (0 : Int32) = 0 + 0 + sumTo _ (cE _)
      rw [ce]
      rfl
    · exact ⟨by decide, by decide⟩
  · exact ⟨by decide, by decide, rfl, rfl, fun k hk => absurd hk (Nat.not_lt_zero _)⟩
section LAWW
variable {f : aF} {z : lP} {mcR msR : Nat}
set_option maxRecDepth 20000 in
theorem w_sing (ht : z.2.1.map Prod.snd = tyX) (hC : aOK f (lX z [] (z.2.2.1 205)) cL_law 6 RL) (hR : lRoom f 1000 mcR msR) (hsn : z.2.2.2.2.2.2.1 < 2 ^ 31) {u : pU} {n0 : Nat} {q : aS} (h : RX 1 q.1 u) (hI : Inv n0 u) {r : Nat} {x3 : Option Value} : ∀ (c i k n : Nat), i + c = cS u → k + 10 * c ≤ mcR → n + 60 * c ≤ msR →
    (AW f (lX z [] (z.2.2.1 205)) 126 [some (.ref z.2.2.2.2.2.1), some (.ref (z.2.2.1 0)), some (.int (nI r)), x3, some (.int 1), some (.int (nI (cS u)))] [] q (k + 10 * c) (n + 60 * c)) → AW f (lX z [] (z.2.2.1 205)) 89 [some (.ref z.2.2.2.2.2.1), some (.ref (z.2.2.1 0)), some (.int (nI r)), x3, some (.int 1), some (.int (nI i))] [] q k n := by
  have hX := lX_is ht [] (z.2.2.1 205)
  have hN := lX_nc (z := z) [] (z.2.2.1 205)
  have hS := lX_scr (z := z) [] (z.2.2.1 205)
  have hb3 := hI.1.2.2.2
  intro c
  induction c with
  | zero =>
    intro i k n hi hk hn kk
    have hi : i = cS u := hi
    subst hi
    refine a_iload (pc := 89) hC dL_law_89 rfl ?_
    refine a_aload_n (pc := 91) hC dL_law_91 rfl ?_
    refine a_iconst (pc := 92) hC dL_law_92 (v := (2)) rfl ?_
    refine r_callV (As := [.int 2]) (pc := 93) hC hR vm_X9_account tw_327 cl_X9 (oX_0 hX) ⟨(Nat.le_of_ble_eq_true rfl), (Nat.le_of_ble_eq_true rfl), by omega, by omega⟩ dL_law_93 (t_X9_account0 hX hC.tr 2 q (fun x9 q9 => x9 = nI (cS u) ∧ q9 = q) (y_A2 (q := q) (P := fun x9 q9 => x9 = nI (cS u) ∧ q9 = q) h hI ⟨rfl, rfl⟩)) rfl rfl rfl (Nat.le_of_ble_eq_true rfl) (fun x q2 h2 => ?_)
    obtain ⟨rfl, e2⟩ := h2
    rw [e2]
    clear e2 q2
    refine a_icmp_ge (pc := 96) (tgt := 126) hC dL_law_96 (by decide) (fun _ => kk) (fun c => absurd (nI_le (Nat.le_refl _) (by omega)) c)
  | succ c ih =>
    intro i k n hi hk hn kk
    have hi' : i < cS u := by omega
    refine a_iload (pc := 89) hC dL_law_89 rfl ?_
    refine a_aload_n (pc := 91) hC dL_law_91 rfl ?_
    refine a_iconst (pc := 92) hC dL_law_92 (v := (2)) rfl ?_
    refine r_callV (As := [.int 2]) (pc := 93) hC hR vm_X9_account tw_327 cl_X9 (oX_0 hX) ⟨(Nat.le_of_ble_eq_true rfl), (Nat.le_of_ble_eq_true rfl), by omega, by omega⟩ dL_law_93 (t_X9_account0 hX hC.tr 2 q (fun x9 q9 => x9 = nI (cS u) ∧ q9 = q) (y_A2 (q := q) (P := fun x9 q9 => x9 = nI (cS u) ∧ q9 = q) h hI ⟨rfl, rfl⟩)) rfl rfl rfl (Nat.le_of_ble_eq_true rfl) (fun x q2 h2 => ?_)
    obtain ⟨rfl, e2⟩ := h2
    rw [e2]
    clear e2 q2
    refine a_icmp_ge (pc := 96) (tgt := 126) hC dL_law_96 (by decide) (fun c => absurd c (nI_ge hi' (by omega))) (fun _ => ?_)
    refine a_iload (pc := 99) hC dL_law_99 rfl ?_
    refine a_if_eq (pc := 101) (tgt := 117) hC dL_law_101 (by decide) (fun c => absurd c (by decide)) (fun _ => ?_)
    refine a_aload_n (pc := 104) hC dL_law_104 rfl ?_
    refine a_iload (pc := 105) hC dL_law_105 rfl ?_
    refine r_callS (As := [.ref (z.2.2.1 0), .int (nI i)]) (pc := 107) hC hR sm_L_isSingerRight tw_1003 ⟨(Nat.le_of_ble_eq_true rfl), (Nat.le_of_ble_eq_true rfl), by omega, by omega⟩ dL_law_107 (t_L_isSingerRight hX hN hC.tr (nI i) q (fun x9 q9 => x9 = 1 ∧ q9 = q) (z_singer h hI hi' ⟨rfl, rfl⟩)) rfl rfl rfl (Nat.le_of_ble_eq_true rfl) (fun x q2 h2 => ?_)
    obtain ⟨-, rfl, e2⟩ := h2
    rw [e2]
    clear e2 q2
    refine a_if_eq (pc := 110) (tgt := 117) hC dL_law_110 (by decide) (fun c => absurd c (by decide)) (fun _ => ?_)
    refine a_iconst (pc := 113) hC dL_law_113 (v := (1)) rfl ?_
    refine a_goto (pc := 114) (tgt := 118) hC dL_law_114 (by decide) ?_
    refine a_istore (pc := 118) hC dL_law_118 (Nat.le_of_ble_eq_true rfl) ?_
    refine a_iinc (pc := 120) hC dL_law_120 rfl (c := 1) rfl ?_
    rw [nI_1]
    refine a_goto (pc := 123) (tgt := 89) hC dL_law_123 (by decide) ?_
    refine ih (i + 1) _ _ (by omega) (by omega) (by omega) ?_
    have e1 : k + 10 + 10 * c = k + 10 * (c + 1) := by omega
    have e2 : n + 60 + 60 * c = n + 60 * (c + 1) := by omega
    rw [e1, e2]
    exact kk
theorem st_le {k a c m : Nat} (h : k + a * (c + 1) ≤ m) : k + a ≤ m ∧ (k + a) + a * c ≤ m := by
  rw [Nat.mul_succ] at h
  generalize a * c = x at h ⊢
  omega
theorem st_eq (k a c : Nat) : (k + a) + a * c = k + a * (c + 1) := by
  rw [Nat.mul_succ]
  generalize a * c = x
  omega
set_option maxRecDepth 20000 in
theorem w_round (ht : z.2.1.map Prod.snd = tyX) (hC : aOK f (lX z [] (z.2.2.1 205)) cL_law 6 RL) (hR : lRoom f 1000 mcR msR) (hsn : z.2.2.2.2.2.2.1 < 2 ^ 31) {r k n : Nat} {q : aS} {x3 x4 x5 : Option Value} (hr : r < 16) (hJ : J (50 + r) q) (hk : k + 1829 ≤ mcR) (hn : n + 120774 ≤ msR) (kk : ∀ (q2 : aS) (x3 x4 x5 : Option Value), J (50 + (r + 1)) q2 → AW f (lX z [] (z.2.2.1 205)) 15 [some (.ref z.2.2.2.2.2.1), some (.ref (z.2.2.1 0)), some (.int (nI (r + 1))), x3, x4, x5] [] q2 (k + 1829) (n + 120774)) : AW f (lX z [] (z.2.2.1 205)) 21 [some (.ref z.2.2.2.2.2.1), some (.ref (z.2.2.1 0)), some (.int (nI r)), x3, x4, x5] [] q k n := by
  have hX := lX_is ht [] (z.2.2.1 205)
  have hN := lX_nc (z := z) [] (z.2.2.1 205)
  have hS := lX_scr (z := z) [] (z.2.2.1 205)
  have e5 : (200 : Int32) + 5 * nI r = nI (200 + 5 * r) := by
    have e1 : (5 : Int32) * nI r = nI (5 * r) := nI_mul 5 r
    rw [e1]
    exact nI_add 200 (5 * r)
  refine a_aload_n (pc := 21) hC dL_law_21 rfl ?_
  refine a_aload_n (pc := 22) hC dL_law_22 rfl ?_
  refine a_sipush (pc := 23) hC dL_law_23 (v := (200)) rfl ?_
  refine a_iconst (pc := 26) hC dL_law_26 (v := (5)) rfl ?_
  refine a_iload_n (pc := 27) hC dL_law_27 rfl ?_
  refine a_imul (pc := 28) hC dL_law_28 ?_
  refine a_iadd (pc := 29) hC dL_law_29 ?_
  rw [e5]
  refine r_callS (As := [.ref (z.2.2.1 0), .ref z.2.2.2.2.2.1, .int (nI (200 + 5 * r))]) (pc := 30) hC hR sm_L_any tw_999 ⟨(Nat.le_of_ble_eq_true rfl), (Nat.le_of_ble_eq_true rfl), by omega, by omega⟩ dL_law_30 (t_L_any hX _ _ _ hS hN hC.tr (nI (200 + 5 * r)) q (fun _ q9 => J (50 + r + 1) q9) (z_any hsn (by omega) hJ (fun _ _ hj => hj))) rfl rfl rfl (Nat.le_of_ble_eq_true rfl) (fun x9 q2 hJ2 => ?_)
  clear hJ
  revert hJ2
  generalize q2 = q
  intro hJ2
  have hJ3 := hJ2
  obtain ⟨u, cc, pp, hh, h, hI, -⟩ := hJ3
  have hb3 := hI.1.2.2.2
  refine a_istore_n (pc := 33) hC dL_law_33 (Nat.le_of_ble_eq_true rfl) ?_
  refine a_aload_n (pc := 34) hC dL_law_34 rfl ?_
  refine r_callS (As := [.ref (z.2.2.1 0)]) (pc := 35) hC hR sm_L_areRoomsRight tw_1042 ⟨(Nat.le_of_ble_eq_true rfl), (Nat.le_of_ble_eq_true rfl), by omega, by omega⟩ dL_law_35 (t_L_areRoomsRight hX hN hC.tr q (fun x9 q9 => x9 = 1 ∧ q9 = q) (z_rooms h hI ⟨rfl, rfl⟩)) rfl rfl rfl (Nat.le_of_ble_eq_true rfl) (fun x q2 h2 => ?_)
  obtain ⟨-, rfl, e2⟩ := h2
  rw [e2]
  clear e2 q2
  refine a_if_eq (pc := 38) (tgt := 83) hC dL_law_38 (by decide) (fun c => absurd c (by decide)) (fun _ => ?_)
  refine a_aload_n (pc := 41) hC dL_law_41 rfl ?_
  refine r_callS (As := [.ref (z.2.2.1 0)]) (pc := 42) hC hR sm_L_areEchoesRight tw_1076 ⟨(Nat.le_of_ble_eq_true rfl), (Nat.le_of_ble_eq_true rfl), by omega, by omega⟩ dL_law_42 (t_L_areEchoesRight hX hN hC.tr q (fun x9 q9 => x9 = 1 ∧ q9 = q) (z_echoes h hI ⟨rfl, rfl⟩)) rfl rfl rfl (Nat.le_of_ble_eq_true rfl) (fun x q2 h2 => ?_)
  obtain ⟨-, rfl, e2⟩ := h2
  rw [e2]
  clear e2 q2
  refine a_if_eq (pc := 45) (tgt := 83) hC dL_law_45 (by decide) (fun c => absurd c (by decide)) (fun _ => ?_)
  refine a_aload_n (pc := 48) hC dL_law_48 rfl ?_
  refine r_callS (As := [.ref (z.2.2.1 0)]) (pc := 49) hC hR sm_L_areRanksRight tw_1095 ⟨(Nat.le_of_ble_eq_true rfl), (Nat.le_of_ble_eq_true rfl), by omega, by omega⟩ dL_law_49 (t_L_areRanksRight hX hN hC.tr q (fun x9 q9 => x9 = 1 ∧ q9 = q) (z_ranks h hI (by omega) ⟨rfl, rfl⟩)) rfl rfl rfl (Nat.le_of_ble_eq_true rfl) (fun x q2 h2 => ?_)
  obtain ⟨-, rfl, e2⟩ := h2
  rw [e2]
  clear e2 q2
  refine a_if_eq (pc := 52) (tgt := 83) hC dL_law_52 (by decide) (fun c => absurd c (by decide)) (fun _ => ?_)
  refine a_aload_n (pc := 55) hC dL_law_55 rfl ?_
  refine r_callS (As := [.ref (z.2.2.1 0)]) (pc := 56) hC hR sm_L_areLinesRight tw_1101 ⟨(Nat.le_of_ble_eq_true rfl), (Nat.le_of_ble_eq_true rfl), by omega, by omega⟩ dL_law_56 (t_L_areLinesRight (q := q) (P := fun x9 q9 => x9 = 1 ∧ ∃ t, q9 = (q.1, t)) ht hC.tr h hI (fun t => ⟨rfl, t, rfl⟩)) rfl rfl rfl (Nat.le_of_ble_eq_true rfl) (fun x q2 h2 => ?_)
  obtain ⟨-, rfl, t, rfl⟩ := h2
  have hJ4 : J (50 + (r + 1)) (q.1, t) := hJ2
  have h : RX 1 (q.1, t).1 u := h
  clear hJ2
  generalize (q.1, t) = q at h hJ4 ⊢
  refine a_if_eq (pc := 59) (tgt := 83) hC dL_law_59 (by decide) (fun c => absurd c (by decide)) (fun _ => ?_)
  refine a_aload_n (pc := 62) hC dL_law_62 rfl ?_
  refine a_iconst (pc := 63) hC dL_law_63 (v := (3)) rfl ?_
  refine a_aload_n (pc := 64) hC dL_law_64 rfl ?_
  refine a_iconst (pc := 65) hC dL_law_65 (v := (2)) rfl ?_
  refine r_callV (As := [.int 2]) (pc := 66) hC hR vm_X9_account tw_327 cl_X9 (oX_0 hX) ⟨(Nat.le_of_ble_eq_true rfl), (Nat.le_of_ble_eq_true rfl), by omega, by omega⟩ dL_law_66 (t_X9_account0 hX hC.tr 2 q (fun x9 q9 => x9 = nI (cS u) ∧ q9 = q) (y_A2 (q := q) (P := fun x9 q9 => x9 = nI (cS u) ∧ q9 = q) h hI ⟨rfl, rfl⟩)) rfl rfl rfl (Nat.le_of_ble_eq_true rfl) (fun x q2 h2 => ?_)
  obtain ⟨rfl, e2⟩ := h2
  rw [e2]
  clear e2 q2
  refine a_iconst (pc := 69) hC dL_law_69 (v := (0)) rfl ?_
  refine r_callSh (As := [.ref (z.2.2.1 0), .int 3, .int (nI (cS u)), .int 0]) (pc := 70) hC hR sm_L_ask tw_430 ⟨(Nat.le_of_ble_eq_true rfl), (Nat.le_of_ble_eq_true rfl), by omega, by omega⟩ dL_law_70 (t_L_ask hX hN hC.tr 3 (nI (cS u)) 0 q (fun x9 q9 => x9 = -2002 ∧ q9 = q) (k_tonesNo h hI ⟨rfl, rfl⟩)) rfl rfl rfl (Nat.le_of_ble_eq_true rfl) (fun x q2 h2 => ?_)
  obtain ⟨rfl, e2⟩ := h2
  rw [e2]
  clear e2 q2
  refine a_sipush (pc := 73) hC dL_law_73 (v := (-2002)) rfl ?_
  refine a_icmp_ne (pc := 76) (tgt := 83) hC dL_law_76 (by decide) (fun c => absurd rfl c) (fun _ => ?_)
  refine a_iconst (pc := 79) hC dL_law_79 (v := (1)) rfl ?_
  refine a_goto (pc := 80) (tgt := 84) hC dL_law_80 (by decide) ?_
  refine a_istore (pc := 84) hC dL_law_84 (Nat.le_of_ble_eq_true rfl) ?_
  refine a_iconst (pc := 86) hC dL_law_86 (v := (0)) rfl ?_
  refine a_istore (pc := 87) hC dL_law_87 (Nat.le_of_ble_eq_true rfl) ?_
  refine (show ∀ {x : Int32}, x = nI 0 → AW f (lX z [] (z.2.2.1 205)) 89 [some (.ref z.2.2.2.2.2.1), some (.ref (z.2.2.1 0)), some (.int (nI r)), _, some (.int 1), some (.int x)] [] _ _ _ from fun e => ?_) (rfl : (0 : Int32) = nI 0)
  subst e
  refine w_sing ht hC hR hsn h hI (cS u) 0 _ _ (by omega) (by omega) (by omega) ?_
  refine a_iload (pc := 126) hC dL_law_126 rfl ?_
  refine a_if_ne (pc := 128) (tgt := 133) hC dL_law_128 (by decide) (fun _ => ?_) (fun c => absurd c (by decide))
  refine a_iinc (pc := 133) hC dL_law_133 rfl (c := 1) rfl ?_
  rw [nI_1]
  refine a_goto (pc := 136) (tgt := 15) hC dL_law_136 (by decide) ?_
  exact AW.widen (k2 := k + 1829) (n2 := n + 120774) (by omega) (by omega) (kk _ _ _ _ hJ4)
set_option maxRecDepth 20000 in
theorem w_rounds (ht : z.2.1.map Prod.snd = tyX) (hC : aOK f (lX z [] (z.2.2.1 205)) cL_law 6 RL) (hR : lRoom f 1000 mcR msR) (hsn : z.2.2.2.2.2.2.1 < 2 ^ 31) : ∀ (c r k n : Nat) (q : aS) (x3 x4 x5 : Option Value), r + c = 16 → J (50 + r) q → k + 1829 * c ≤ mcR → n + 120774 * c ≤ msR →
    (∀ (q2 : aS) (L2 : List (Option Value)), AW f (lX z [] (z.2.2.1 205)) 140 L2 [.int 1] q2 (k + 1829 * c) (n + 120774 * c)) → AW f (lX z [] (z.2.2.1 205)) 15 [some (.ref z.2.2.2.2.2.1), some (.ref (z.2.2.1 0)), some (.int (nI r)), x3, x4, x5] [] q k n := by
  intro c
  induction c with
  | zero =>
    intro r k n q x3 x4 x5 hr hJ hk hn kk
    have hr : r = 16 := hr
    subst hr
    refine a_iload_n (pc := 15) hC dL_law_15 rfl ?_
    refine a_bipush (pc := 16) hC dL_law_16 (v := (16)) rfl ?_
    refine a_icmp_ge (pc := 18) (tgt := 139) hC dL_law_18 (by decide) (fun _ => ?_) (fun c => absurd (by decide) c)
    refine a_iconst (pc := 139) hC dL_law_139 (v := (1)) rfl ?_
    exact kk _ _
  | succ c ih =>
    intro r k n q x3 x4 x5 hr hJ hk hn kk
    refine a_iload_n (pc := 15) hC dL_law_15 rfl ?_
    refine a_bipush (pc := 16) hC dL_law_16 (v := (16)) rfl ?_
    refine a_icmp_ge (pc := 18) (tgt := 139) hC dL_law_18 (by decide) (fun c => absurd (show nI 16 ≤ nI r from c) (nI_ge (by omega) (by decide))) (fun _ => ?_)
    refine w_round ht hC hR hsn (by omega) hJ (st_le hk).1 (st_le hn).1 (fun q2 y3 y4 y5 hJ2 => ?_)
    refine ih (r + 1) _ _ q2 y3 y4 y5 (by omega) hJ2 (st_le hk).2 (st_le hn).2 (fun q3 L3 => ?_)
    rw [st_eq, st_eq]
    exact kk q3 L3
set_option maxRecDepth 20000 in
theorem law_begin (ht : z.2.1.map Prod.snd = tyX) (hC : aOK f (nG z []) cL_law 6 RL) (hR : lRoom f 1000 mcR msR) (hsn : z.2.2.2.2.2.2.1 < 2 ^ 31) (hmc : 40000 ≤ mcR) (hms : 2000000 ≤ msR)
    (kk : ∀ (ad : Nat → Nat) (q2 : aS) (L2 : List (Option Value)) (k n : Nat), k ≤ 40000 → n ≤ 2000000 → AW f (lX (zMk z ad) [] (ad 205)) 140 L2 [.int 1] q2 k n) : AW f (nG z ([] ++ [])) 0 [some (.ref z.2.2.2.2.2.1), none, none, none, none, none] [] q0 0 0 := by
  refine n_new (pc := 0) (pre := []) (suf := []) (nOK hC _) hR cl_X9 tyX9 tyX9_ok tw_34 tw_35 tw_1 (fs := [.null, .null, .null, .int 0, .null, .null, .null, .null]) (fun j hj => by rcases (show j = 0 ∨ j = 1 ∨ j = 2 ∨ j = 3 ∨ j = 4 ∨ j = 5 ∨ j = 6 ∨ j = 7 by omega) with rfl | rfl | rfl | rfl | rfl | rfl | rfl | rfl <;> rfl) (by omega) (by omega) dL_law_0 (fun o => ?_)
  refine a_dup (pc := 3) (nOK hC _) dL_law_3 rfl ?_
  refine n_call (pc := 4) (nOK hC _) hR nm_X9_init tw_36 ⟨(Nat.le_of_ble_eq_true rfl), (Nat.le_of_ble_eq_true rfl), by omega, by omega⟩ dL_law_4 (k_X9_init ht hC.tr _ _) rfl rfl rfl (Nat.le_of_ble_eq_true rfl) (fun W h => ?_)
  obtain ⟨ad, qv, F, G, H, hF, hG, hH, rfl, rfl⟩ := h
  refine nX_of (ad := ad) (qv := qv) hF hG hH ?_ ?_
  · rw [List.append_nil]
    exact List.Perm.refl _
  have hC' : aOK f (lX (zMk z ad) [] (ad 205)) cL_law 6 RL :=
    ⟨hC.1, hC.2.1, hC.2.2.1, hC.2.2.2.1, hC.2.2.2.2.1, hC.2.2.2.2.2.1, hC.2.2.2.2.2.2.1, hC.en.1, hC.2.2.2.2.2.2.2.2.1, hC.tr, lEn_cl (z := zMk z ad) rfl rfl⟩
  revert hC'
  have hsn' : (zMk z ad).2.2.2.2.2.2.1 < 2 ^ 31 := hsn
  have ht' : (zMk z ad).2.1.map Prod.snd = tyX := ht
  have kk' : ∀ (q2 : aS) (L2 : List (Option Value)) (k n : Nat), k ≤ 40000 → n ≤ 2000000 → AW f (lX (zMk z ad) [] ((zMk z ad).2.2.1 205)) 140 L2 [.int 1] q2 k n := kk ad
  show aOK f (lX (zMk z ad) [] ((zMk z ad).2.2.1 205)) cL_law 6 RL → AW f (lX (zMk z ad) [] ((zMk z ad).2.2.1 205)) 7 [some (.ref (zMk z ad).2.2.2.2.2.1), none, none, none, none, none] [.ref ((zMk z ad).2.2.1 0)] (dX0, []) _ _
  clear kk hsn ht hC hF hG hH
  generalize zMk z ad = z at *
  intro hC
  have hX := lX_is ht' [] (z.2.2.1 205)
  have hN := lX_nc (z := z) [] (z.2.2.1 205)
  have hS := lX_scr (z := z) [] (z.2.2.1 205)
  refine a_astore_n (pc := 7) hC dL_law_7 (Nat.le_of_ble_eq_true rfl) ?_
  refine a_aload_n (pc := 8) hC dL_law_8 rfl ?_
  refine a_aload_n (pc := 9) hC dL_law_9 rfl ?_
  refine r_callSv (As := [.ref (z.2.2.1 0), .ref z.2.2.2.2.2.1]) (pc := 10) hC hR sm_L_lay tw_661 ⟨(Nat.le_of_ble_eq_true rfl), (Nat.le_of_ble_eq_true rfl), by omega, by omega⟩ dL_law_10 (t_L_lay hX _ _ _ hS hN hC.tr (dX0, []) (fun _ q9 => J 50 q9) (z_lay hsn' j0 (fun _ hj => hj))) rfl rfl rfl (Nat.le_of_ble_eq_true rfl) (fun q2 hJ => ?_)
  refine a_iconst (pc := 13) hC dL_law_13 (v := (0)) rfl ?_
  refine a_istore_n (pc := 14) hC dL_law_14 (Nat.le_of_ble_eq_true rfl) ?_
  refine (show ∀ {x : Int32}, x = nI 0 → AW f (lX z [] (z.2.2.1 205)) 15 [some (.ref z.2.2.2.2.2.1), some (.ref (z.2.2.1 0)), some (.int x), none, none, none] [] q2 _ _ from fun e => ?_) (rfl : (0 : Int32) = nI 0)
  subst e
  exact w_rounds ht' hC hR hsn' 16 0 _ _ q2 none none none (by omega) hJ (by omega) (by omega) (fun q3 L3 => kk' q3 L3 _ _ (by omega) (by omega))
end LAWW

/-! the StringBuilder: calls of her methods by the class -/
section SBD
variable {f : aF} {g : aG} {z : lP} {cc : ByteArray} {nL : Nat} {own : String} {pc : Nat} {L : List (Option Value)} {st rest : List Value} {q : aS} {RS : va_W} {ba : Nat} {k n : Nat}
theorem sb_recv {dX : Nat → Nat → Int32} {t : List Nat} (hC : aOK f (lX z RS ba) cc nL own) {H : Heap} {ex : va_W} (hI : aI (lX z RS ba) (dX, t) ex H) : ∃ cell : Cell, H[ba]? = some cell ∧ cell.vm.isStatics = false ∧ (f_s f).vm.findClass RJ4 = some cell.cls := by
  obtain ⟨⟨sb, ⟨m, qv, b, ml, rfl, -⟩, rfl⟩, hP, -⟩ := hI
  exact va_recv (q0 := 205) (ci := 1) (q := (RJ4, TJ4, 4)) hC.K hP rfl (by rw [List.getElem?_append_right (by rw [aWl_len]; exact Nat.le_refl 205), aWl_len]; rfl)
theorem sb_run {y : MethodName} {bytes : ByteArray} {maxL n' mc ms N mcR msR index mP : Nat} {ret : Option FieldType} {As : List Value} {Qc : Array Value → State → Outcome → State → Prop} (hg : g = lX z RS ba) (hC : aOK f g cc nL own) (hR : f_R f = aR N mcR msR) (hm : aVm y RJ4 bytes maxL ret mP) (hw : Cond.methodLink own index y ∈ lw_tbl) (hfit : aFit maxL n' mc ms k n N mcR msR) (dg : decode cc pc = .ok (.invokevirtual index, 3))
    (hM : vx_Met (f_l f) y (aWs y bytes maxL ret) (aR n' mc ms) (va_Pc (.ref ba :: As) (aWd g q)) Qc (aX g noX) mc ms (gA g)) (hn : As.length = mP) (hL : L.length = nL) (hrest : (rest.map fun v => v.category).sum ≤ 8) {ls : Array Slot} {H : Heap} {locs : List Loc} {ex : va_W} (hl : lw_has ls L) (hI : aI g q ex H) (hS : va_S (gA g) (f_s f).heap H locs) :
    vx_Run (f_p f) (f_l f) (f_e f) (f_R f) (f_s f) (f_m f) (f_a f) (f_b f) (f_me f) (f_c f) H locs k n mc ms (F0 (f_m f) pc ls (As.reverse ++ .ref ba :: rest)) rest (Qc (Value.ref ba :: As).toArray) (aX g noX) (gA g) := by
  subst hg
  have hf := hfit.loc
  rw [← hR] at hf
  exact vx_runV (rest := rest) (g := F0 (f_m f) pc ls (As.reverse ++ .ref ba :: rest)) (locs := locs) (meth := f_me f) (below := f_b f) (e := f_e f) (cells := k) (slots := n) (S := (⟨hC.x, hC.b, hC.ml, hC.o, hC.ts⟩ : CallFix (f_p f) (f_m f) (f_c f) cc nL (f_s f) (f_a f) TW own)) hM (cwV mP hC.ts (good_V hm hw) rfl rfl rfl hm.2.2.2.2 hf) ⟨aBlind hC.cl _ q, sb_recv hC hI, fun U hU hW => ⟨rfl, aWd_of hC hI hS hU hW⟩⟩ rfl hn (hl.1.trans hL) rfl (lv_room hrest) dg (by rw [hR]; exact ⟨hfit.2.2.1, hfit.2.2.2⟩)
theorem sb_runM {y : MethodName} {bytes : ByteArray} {maxL n' mc ms N mcR msR index mP : Nat} {ret : Option FieldType} {As : List Value} {Qc : Array Value → State → Outcome → State → Prop} (hg : g = lX z RS ba) (hC : aOK f g cc nL own) (hR : f_R f = aR N mcR msR) (hm : aVm y RJ4 bytes maxL ret mP) (hw : Cond.methodLink own index y ∈ lw_tbl) (hfit : aFit maxL n' mc ms k n N mcR msR) (dg : decode cc pc = .ok (.invokevirtual index, 3))
    (hM : vx_Met (f_l f) y (aWs y bytes maxL ret) (aR n' mc ms) (va_Pc (.ref ba :: As) (aWd g q)) Qc (aX g noX) mc ms (gA g)) (hn : As.length = mP) (hL : L.length = nL) (hrest : (rest.map fun v => v.category).sum ≤ 8) {ls : Array Slot} {H : Heap} {locs : List Loc} {ex : va_W} (hl : lw_has ls L) (hI : aI g q ex H) (hS : va_S (gA g) (f_s f).heap H locs) :
    va_Run (f_p f) (f_l f) (f_e f) (f_R f) (f_s f) (f_m f) (f_a f) (f_b f) (f_me f) (f_c f) H locs k n mc ms (F0 (f_m f) pc ls (As.reverse ++ .ref ba :: rest)) rest (Qc (Value.ref ba :: As).toArray) (gA g) := by
  subst hg
  have hf := hfit.loc
  rw [← hR] at hf
  exact va_runV (rest := rest) (g := F0 (f_m f) pc ls (As.reverse ++ .ref ba :: rest)) (locs := locs) (meth := f_me f) (below := f_b f) (e := f_e f) (cells := k) (slots := n) (S := (⟨hC.x, hC.b, hC.ml, hC.o, hC.ts⟩ : CallFix (f_p f) (f_m f) (f_c f) cc nL (f_s f) (f_a f) TW own)) (aMet_of hM aX_no) (cwV mP hC.ts (good_V hm hw) rfl rfl rfl hm.2.2.2.2 hf) ⟨aBlind hC.cl _ q, sb_recv hC hI, fun U hU hW => ⟨rfl, aWd_of hC hI hS hU hW⟩⟩ rfl hn (hl.1.trans hL) rfl (lv_room hrest) dg (by rw [hR]; exact ⟨hfit.2.2.1, hfit.2.2.2⟩)
end SBD

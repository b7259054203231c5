/-! texts: constants of the law, and those that it makes -/
section STR0
variable {f : aF} {g : aG} {cc : ByteArray} {nL : Nat} {own : String} {pc : Nat} {L : List (Option Value)} {st : List Value} {q : aS} {k n : Nat}
theorem isS.en {g : aG} (h : isS g) {U : State} {H : Heap} (e : gEn g U H) : EnvS (gA g) (gK g) U H := h.2 U H e
/-- a call of a method of an object, whatever is known of it -/
theorem a_callR {y : MethodName} {C : String} {bytes : ByteArray} {maxL n' mc ms N mcR msR index m t : Nat} {ty : FieldType} {As : List Value} {P : Int32 → aS → Prop}
    (hC : aOK f g cc nL own) (hR : f_R f = aR N mcR msR) (hm : aVm y C bytes maxL (some ty) m) (hw : Cond.methodLink own index y ∈ lw_tbl) (hrec : ∀ (H : Heap) (locs : List Loc), va_S (gA g) (f_s f).heap H locs → ∃ cell : Cell, H[t]? = some cell ∧ cell.vm.isStatics = false ∧ (f_s f).vm.findClass C = some cell.cls) (hfit : aFit maxL n' mc ms k n N mcR msR) {rest : List Value} (dg : decode cc pc = .ok (.invokevirtual index, 3))
    (hM : aMi (f_l f) g y (aWs y bytes maxL (some ty)) n' mc ms (.ref t :: As) q P (fun _ _ => False)) (hst : st = As.reverse ++ .ref t :: rest) (hn : As.length = m) (hL : L.length = nL) (hrest : (rest.map fun v => v.category).sum ≤ 8) (kk : ∀ (r : Int32) (q' : aS), P r q' → AW f g (pc + 3) L (.int r :: rest) q' (k + mc) (n + ms)) : AW f g pc L st q k n := by
  intro ls H locs ex hl hI hS
  subst hst
  have hf := hfit.loc
  rw [← hR] at hf
  have hrun := vx_runV (rest := rest) (g := F0 (f_m f) pc ls (As.reverse ++ .ref t :: rest)) (locs := locs) (meth := f_me f) (below := f_b f) (e := f_e f) (cells := k) (slots := n) (S := (⟨hC.x, hC.b, hC.ml, hC.o, hC.ts⟩ : CallFix (f_p f) (f_m f) (f_c f) cc nL (f_s f) (f_a f) TW own)) hM (cwV m hC.ts (good_V hm hw) rfl rfl rfl hm.2.2.2.2 hf) ⟨aBlind hC.cl _ q, hrec H locs hS, fun U hU hW => ⟨rfl, aWd_of hC hI hS hU hW⟩⟩ rfl hn (hl.1.trans hL) rfl (lv_room hrest) dg (by rw [hR]; exact ⟨hfit.2.2.1, hfit.2.2.2⟩)
  refine vx_calli hrun hS (fun _ _ h => h) (fun _ h => h) (fun _ _ h => h) (fun E ce q9 u t H1 locs1 ht hvm _ hB => hB.1.elim) (fun r u t H1 locs1 ht hvm hp1 hB hz hk1 hS1 => ?_)
  obtain ⟨ex', hI'⟩ := hB
  rw [ht] at hI'
  exact kk r u hp1 ls H1 locs1 ex' hl hI' hS1
end STR0
theorem t_J3_checkIndex {l : Launch} {g : aG} (hcl : gCl g) (hl : l.stackTraces = false) (x y : Int32) (v : Value) (hv : v.category = 1) (q : aS) (P : Int32 → aS → Prop) (h0 : ¬ x < 0) (h1 : x < y) (h : P x q) : aMi l g yJ3_checkIndex_8e157 (aWs yJ3_checkIndex_8e157 cJ3_checkIndex_8e157 3 (some .int)) 0 0 0 [.int x, .int y, v] q P (fun _ _ => False) := by
  refine aMi_of RJ3 ⟨by decide +kernel, rfl⟩ (fun w hw => by
    simp only [List.mem_cons, List.not_mem_nil, or_false] at hw
    rcases hw with rfl | rfl | rfl
    · rfl
    · rfl
    · exact hv) (Nat.le_of_ble_eq_true rfl) hl hcl (fun f hR hC hE => ?_)
  show AW f g 0 [some (.int x), some (.int y), some v] [] q 0 0
  refine a_iload_n (pc := 0) hC dJ3_checkIndex_8e157_0 rfl ?_
  refine a_if_lt (pc := 1) (tgt := 9) hC dJ3_checkIndex_8e157_1 (by decide) (fun c => absurd c h0) (fun _ => ?_)
  refine a_iload_n (pc := 4) hC dJ3_checkIndex_8e157_4 rfl ?_
  refine a_iload_n (pc := 5) hC dJ3_checkIndex_8e157_5 rfl ?_
  refine a_icmp_lt (pc := 6) (tgt := 16) hC dJ3_checkIndex_8e157_6 (by decide) (fun _ => ?_) (fun c => absurd h1 c)
  refine a_iload_n (pc := 16) hC dJ3_checkIndex_8e157_16 rfl ?_
  exact a_iret (pc := 17) hC hE h (Nat.le_refl _) (Nat.le_refl _) dJ3_checkIndex_8e157_17
theorem t_J0_checkIndex {l : Launch} {g : aG} (hX : isS g) (hl : l.stackTraces = false) (x y : Int32) (q : aS) (P : Int32 → aS → Prop) (h0 : ¬ x < 0) (h1 : x < y) (h : P 0 q) : aMv l g yJ0_checkIndex_df160 (aWs yJ0_checkIndex_df160 cJ0_checkIndex_df160 2 none) 1 0 0 [.int x, .int y] q P (fun _ _ => False) := by
  refine aMv_of RJ0 ⟨by decide +kernel, rfl⟩ (cat_all rfl) (Nat.le_of_ble_eq_true rfl) hl hX.cl (fun f hR hC hE => ?_)
  show AW f g 0 [some (.int x), some (.int y)] [] q 0 0
  have go : ∀ v : Value, v.category = 1 → va_Z "jdk/internal/util/Preconditions" "SIOOBE_FORMATTER" "Ljava/util/function/BiFunction;" v (gA g) (f_s f) (f_s f).heap → AW f g 0 [some (.int x), some (.int y)] [] q 0 0 := by
    intro v hv hZ
    refine a_iload_n (pc := 0) hC dJ0_checkIndex_df160_0 rfl ?_
    refine a_iload_n (pc := 1) hC dJ0_checkIndex_df160_1 rfl ?_
    refine a_gets (pc := 2) hC hZ tw_943 dJ0_checkIndex_df160_2 ?_
    refine a_callS (pc := 5) hC hR sm_J3_checkIndex_8e157 tw_945 ⟨Nat.le_of_ble_eq_true rfl, Nat.le_of_ble_eq_true rfl, Nat.le_of_ble_eq_true rfl, Nat.le_of_ble_eq_true rfl⟩ dJ0_checkIndex_df160_5 (t_J3_checkIndex hX.cl hC.tr x y v hv q (fun r u => u = q) h0 h1 rfl) rfl rfl rfl (Nat.le_of_ble_eq_true rfl) (fun r q2 h2 => ?_)
    subst h2
    refine a_pop (pc := 8) hC dJ0_checkIndex_df160_8 rfl ?_
    exact a_vret (pc := 9) hC hE h (Nat.le_refl _) (Nat.le_refl _) dJ0_checkIndex_df160_9
  rcases (hX.en hC.en).2.2 with hz | ⟨t, hz⟩
  · exact go _ rfl hz
  · exact go _ rfl hz
/-- what stands beside the class: at least RS -/
def inR (g : aG) (z : lP) (RS : va_W) : Prop := gD g = z.1 ∧ gT g = z.2.1 ∧ gEn g = lEn z ∧ gA g = lA z ∧ gK g = z.2.2.2.1 ∧ ∀ (t : List Nat) (ex : va_W), gEX g t ex → ∀ x ∈ RS, x ∈ ex
theorem lX_in (z : lP) (RS : va_W) (ba : Nat) : inR (lX z RS ba) z RS := ⟨rfl, rfl, rfl, rfl, rfl, fun _ _ h x hx => by
  obtain ⟨sb, -, rfl⟩ := h
  exact List.mem_append_right _ hx⟩
theorem lB_in (z : lP) (RS : va_W) (ba qv m : Nat) : inR (lB z RS ba qv m) z RS := ⟨rfl, rfl, rfl, rfl, rfl, fun _ ex h x hx => by
  have h : ex = RS := h
  rw [h]
  exact hx⟩
theorem inR.cl {g : aG} {z : lP} {RS : va_W} (h : inR g z RS) : gCl g := lEn_cl h.2.2.1 h.2.2.2.1
theorem inR.toS {g : aG} {z : lP} {RS : va_W} (h : inR g z RS) : isS g := ⟨h.cl, fun U H e => by
  rw [h.2.2.1] at e
  rw [h.2.2.2.1, h.2.2.2.2.1]
  exact e.1.1⟩
/-- a text at a, her bytes at qa -/
def Str (z : lP) (RS : va_W) (a qa : Nat) (w : List Nat) : Prop :=
  (∃ i, i < 12 ∧ a = z.2.2.2.1 (20 + i) ∧ qa = z.2.2.2.1 (40 + i) ∧ w = sLet i) ∨
  ∃ (b : Nat → Int32) (h1 h2 : Int32), (a, .inr (0, [.ref qa, .int 0, .int h1, .int h2])) ∈ RS ∧ (qa, .inl (lc z 5, (w.length, .inl b))) ∈ RS ∧ ∀ j, j < w.length → b j = nI (w.getD j 0)
def okT (w : List Nat) : Prop := w.length ≤ 60 ∧ ∀ j, j < w.length → w.getD j 0 < 128
theorem cl_J0 : aCl 0 RJ0 TJ0 4 := ⟨rfl, fun w h => tk_w ((by decide +kernel : ∀ w ∈ u_ws RJ0 TJ0 4, w ∈ lw_tbl) w h) ((by decide +kernel : ∀ w ∈ u_ws RJ0 TJ0 4, goodWord w = true) w h), nmJ0⟩
theorem nI_ofNat (n : Nat) : Int32.ofNat n = nI n := rfl
section STR1
variable {f : aF} {g : aG} {z : lP} {RS : va_W} {cc : ByteArray} {nL : Nat} {own : String} {pc : Nat} {L : List (Option Value)} {st : List Value} {q : aS} {k n a qa : Nat} {w : List Nat}
theorem s_at (hi : inR g z RS) {ex : va_W} {H : Heap} (hI : aI g q ex H) {x : Nat × va_E} (hx : x ∈ RS) : ∃ i : Nat, (aWl g q.1 ++ ex)[i]? = some x := List.getElem?_of_mem (List.mem_append_right _ (hi.2.2.2.2.2 _ _ hI.1 x hx))
theorem s_env (hi : inR g z RS) (hC : aOK f g cc nL own) (i : Nat) (h : i < 12) : EnvC1 (gA g) (gK g (20 + i)) (gK g (40 + i)) (sLet i) (f_s f) (f_s f).heap := (hi.toS.en hC.en).1 i h
theorem s_recv (hi : inR g z RS) (hC : aOK f g cc nL own) (hs : Str z RS a qa w) {H : Heap} {locs : List Loc} {ex : va_W} (hI : aI g q ex H) (hS : va_S (gA g) (f_s f).heap H locs) : ∃ cell : Cell, H[a]? = some cell ∧ cell.vm.isStatics = false ∧ (f_s f).vm.findClass RJ0 = some cell.cls := by
  rcases hs with ⟨i, h12, rfl, -, -⟩ | ⟨b, h1, h2, g1, -⟩
  · have h := (s_env hi hC i h12).1
    rw [hi.2.2.2.2.1] at h
    obtain ⟨cell, c1, c2, c3, -⟩ := h.kept hS.2.1
    exact ⟨cell, c1, c2, c3⟩
  · obtain ⟨j, hj⟩ := s_at hi hI g1
    exact va_recv hC.K hI.2.1 cl_J0.1 hj
theorem s_coder (hi : inR g z RS) (hC : aOK f g cc nL own) (hs : Str z RS a qa w) {idx : Nat} (hw : Cond.fieldLink own idx "java/lang/String" "coder" "B" ∈ lw_tbl) (dg : decode cc pc = .ok (.getfield idx, 3)) (kk : AW f g (pc + 3) L (.int 0 :: st) q k n) : AW f g pc L (.ref a :: st) q k n := by
  rcases hs with ⟨i, h12, rfl, -, -⟩ | ⟨b, h1, h2, g1, -⟩
  · have h := (s_env hi hC i h12).2.1
    rw [hi.2.2.2.2.1] at h
    exact a_getf hC h hw dg kk
  · intro ls H locs ex hl hI hS
    obtain ⟨j, hj⟩ := s_at hi hI g1
    exact va_get hC.x hC.b hC.ts cl_J0.2.1 hC.o hC.K hI.2.1 j hj cl_J0.1 1 (by decide) (hC.w hw rfl) (fun _ h => h) rfl dg (kk ls H locs ex hl hI hS)
theorem s_value (hi : inR g z RS) (hC : aOK f g cc nL own) (hs : Str z RS a qa w) {idx : Nat} (hw : Cond.fieldLink own idx "java/lang/String" "value" "[B" ∈ lw_tbl) (dg : decode cc pc = .ok (.getfield idx, 3)) (kk : AW f g (pc + 3) L (.ref qa :: st) q k n) : AW f g pc L (.ref a :: st) q k n := by
  rcases hs with ⟨i, h12, rfl, rfl, -⟩ | ⟨b, h1, h2, g1, -⟩
  · have h := (s_env hi hC i h12).2.2.1
    rw [hi.2.2.2.2.1] at h
    exact a_getf hC h hw dg kk
  · intro ls H locs ex hl hI hS
    obtain ⟨j, hj⟩ := s_at hi hI g1
    exact va_get hC.x hC.b hC.ts cl_J0.2.1 hC.o hC.K hI.2.1 j hj cl_J0.1 0 (by decide) (hC.w hw rfl) (fun _ h => h) rfl dg (kk ls H locs ex hl hI hS)
theorem s_gc (hi : inR g z RS) (ht : z.2.1.map Prod.snd = tyX) : (gT g)[5]? = some (lc z 5, .byte) := by
  have h := gc_at (g := g) (i := 5) (ty := .byte) (l := tyX) (by rw [hi.2.1]; exact ht) rfl
  unfold gc at h
  rw [hi.2.1] at h ⊢
  exact h
theorem s_len (hi : inR g z RS) (ht : z.2.1.map Prod.snd = tyX) (hC : aOK f g cc nL own) (hs : Str z RS a qa w) (dg : decode cc pc = .ok (.arraylength, 1)) (kk : AW f g (pc + 1) L (.int (nI w.length) :: st) q k n) : AW f g pc L (.ref qa :: st) q k n := by
  rcases hs with ⟨i, h12, -, rfl, rfl⟩ | ⟨b, h1, h2, -, g2, -⟩
  · have h := (s_env hi hC i h12).2.2.2
    rw [hi.2.2.2.2.1] at h
    exact a_tlen hC h dg kk
  · intro ls H locs ex hl hI hS
    obtain ⟨j, hj⟩ := s_at hi hI g2
    exact va_alen hC.x hC.b hC.K hI.2.1 j 5 hj (s_gc hi ht) rfl dg (kk ls H locs ex hl hI hS)
theorem s_bald (hi : inR g z RS) (ht : z.2.1.map Prod.snd = tyX) (hC : aOK f g cc nL own) (hs : Str z RS a qa w) {x : Int32} (hin : vp_in x w.length) (dg : decode cc pc = .ok (.baload, 1)) (hw : w.length < 2 ^ 31) (kk : AW f g (pc + 1) L (.int (nI (w.getD x.toNatClampNeg 0)) :: st) q k n) : AW f g pc L (.int x :: .ref qa :: st) q k n := by
  rcases hs with ⟨i, h12, -, rfl, rfl⟩ | ⟨b, h1, h2, -, g2, g3⟩
  · have h := (s_env hi hC i h12).2.2.2
    rw [hi.2.2.2.2.1] at h
    exact a_tinb hC h hin dg kk
  · intro ls H locs ex hl hI hS
    obtain ⟨j, hj⟩ := s_at hi hI g2
    obtain ⟨y, hy, rfl⟩ := vp_in_of hin hw
    rw [nI_clamp (show y < 2 ^ 31 by omega)] at kk
    rw [← g3 y hy] at kk
    refine va_bald hC.x hC.b hC.K hI.2.1 j 5 hj (s_gc hi ht) hin dg ?_
    rw [nI_clamp (show y < 2 ^ 31 by omega)]
    exact kk ls H locs ex hl hI hS
end STR1

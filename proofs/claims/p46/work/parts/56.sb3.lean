/-! the StringBuilder: how she grows -/
section SB4
def lBN (z : lP) (RS : va_W) (ba : Nat) (qv m q cap : Nat) (b2 : Nat → Int32) : aG :=
  (z.1, z.2.1, shB z qv m, 207, adB z ba qv, fun _ ex => ex = (q, .inl (lc z 5, (cap, .inl b2))) :: RS, lEn z, lA z, z.2.2.2.1)
variable {f : aF} {z : lP} {cc : ByteArray} {nL : Nat} {own : String} {pc : Nat} {L : List (Option Value)} {st rest : List Value} {dX : Nat → Nat → Int32} {t : List Nat} {RS : va_W} {ba : Nat} {k n qv m q cap : Nat} {d : Nat → Nat → Int32} {b2 : Nat → Int32}
theorem lOK_N (hC : aOK f (lB z RS ba qv m) cc nL own) (q cap : Nat) (b2 : Nat → Int32) : aOK f (lBN z RS ba qv m q cap b2) cc nL own :=
  ⟨hC.1, hC.2.1, hC.2.2.1, hC.2.2.2.1, hC.2.2.2.2.1, hC.2.2.2.2.2.1, hC.2.2.2.2.2.2.1, hC.2.2.2.2.2.2.2.1, hC.2.2.2.2.2.2.2.2.1, hC.2.2.2.2.2.2.2.2.2.1, lEn_cl (z := z) rfl rfl⟩
theorem oN_by (ht : z.2.1.map Prod.snd = tyX) : aAr (lBN z RS ba qv m q cap b2) 206 5 m .byte := ⟨by show 206 < 207; decide, fun d => by show shB z qv m 206 d = _; unfold shB; rw [if_neg (by decide), if_neg (by decide)]; rfl, gc_at ht rfl⟩
theorem bc_newa (hC : aOK f (lB z RS ba qv m) cc nL own) (ht : z.2.1.map Prod.snd = tyX) {N mcR msR : Nat} (hR : f_R f = aR N mcR msR) (hcap : cap < 10000) (hk : k + 1 ≤ mcR) (hs : n + cap ≤ msR) (dg : decode cc pc = .ok (.newarray .byte, 2)) (kk : ∀ q, AW f (lBN z RS ba qv m q cap (fun _ => 0)) (pc + 2) L (.ref q :: st) (d, []) (k + 1) (n + cap)) : AW f (lB z RS ba qv m) pc L (.int (nI cap) :: st) (d, []) k n := by
  intro ls H locs ex hl hI hS
  obtain ⟨hex, hP, hD⟩ := hI
  have hex : ex = RS := hex
  subst ex
  refine va_newa (atype := .byte) (ty := .byte) hC.x hC.b (hC.w tw_302 rfl) rfl hC.K hP hD hS hC.A (a0 := (cap, .inl (fun _ => 0))) (fun _ => rfl) (nI_pos (by omega)) (nI_clamp (by omega)) (by show cap * 1 ≤ _; omega) (by rw [hR]; exact hk) (by rw [hR]; exact hs) dg (fun q cA H1 hK1 hP1 hD1 hS1 => ?_)
  have e1 : va_RA (f_s f) cA .byte := (hK1.2 z.2.1.length (cA, .byte) (by rw [show gT (lB z RS ba qv m) = z.2.1 from rfl, List.getElem?_append_right (Nat.le_refl _), Nat.sub_self]; rfl)).2
  have e2 : va_RA (f_s f) (lc z 5) .byte := (hC.K.2 5 (lc z 5, .byte) (gc_at (g := lB z RS ba qv m) ht rfl)).2
  have e : cA = lc z 5 := va_RA_inj e1 e2
  subst e
  have hp : ∀ (a b : va_W) (x : Nat × va_E), List.Perm (a ++ b ++ [x]) (a ++ (x :: b)) := fun a b x => by
    rw [List.append_assoc]
    exact List.Perm.append_left a (List.perm_append_comm (l₁ := b) (l₂ := [x]))
  exact kk q ls H1 locs _ hl ⟨rfl, wP_perm (hp _ _ _) hP1, wD_perm (hp _ _ _) hD1⟩ hS1
def cpB (d : Nat → Nat → Int32) (b2 : Nat → Int32) (m : Nat) : Nat → Int32 := va_cpy (d 206) b2 (Int32.toNatClampNeg 0) (Int32.toNatClampNeg 0) (Int32.toNatClampNeg (nI m))
theorem cpB_at (hm : m < 10000) (j : Nat) : cpB d b2 m j = if j < m then d 206 j else b2 j := by
  unfold cpB va_cpy
  rw [show Int32.toNatClampNeg 0 = 0 by decide +kernel, nI_clamp (by omega)]
  by_cases c : j < m
  · rw [if_pos c, if_pos ⟨Nat.zero_le _, by omega⟩, show 0 + (j - 0) = j by omega]
  · rw [if_neg c, if_neg (fun z => c (by have := z.2; omega))]
theorem bc_copy (hC : aOK f (lBN z RS ba qv m q cap b2) cc nL "java/util/Arrays") (ht : z.2.1.map Prod.snd = tyX) {N mcR msR : Nat} (hR : f_R f = aR N mcR msR) (hN : 1 ≤ N) (hL : L.length = nL) (hm : m ≤ cap) (hc : cap < 10000) (hfit : ∀ j, fits .byte (.int (d 206 j)) = true) (dg : decode cc pc = .ok (.invokestatic 150, 3)) (hrest : (st.map fun v => v.category).sum ≤ 8)
    (kk : AW f (lBN z RS ba qv m q cap (cpB d b2 m)) (pc + 3) L st (d, []) k n) : AW f (lBN z RS ba qv m q cap b2) pc L (.int (nI m) :: .int 0 :: .ref q :: .int 0 :: .ref qv :: st) (d, []) k n := by
  intro ls H locs ex hl hI hS
  obtain ⟨rfl, hP, hD⟩ := hI
  have z0 : Int32.toNatClampNeg 0 = 0 := by decide +kernel
  have zm : Int32.toNatClampNeg (nI m) = m := nI_clamp (by omega)
  refine va_copyi hC.x hC.b (hC.ml.trans (hL.symm.trans hl.1.symm)) hC.o (hC.w tw_1144 rfl) (hC.w tw_789 rfl) (hC.w tw_788 rfl) (hC.w tw_22 rfl) hC.K hP hD hS 206 207 5 5 (ty := .byte) (n0 := m) (n1 := cap) (f := d 206) (g := b2) (c0 := lc z 5) (c1 := lc z 5) ((aWl_at (lBN z RS ba qv m q cap b2) d _ (oN_by ht).1).trans (by rw [(oN_by ht).2.1]; rfl)) (by rw [List.getElem?_append_right (by rw [aWl_len]; exact Nat.le_refl 207), aWl_len]; rfl) (gc_at (g := lBN z RS ba qv m q cap b2) ht rfl) (gc_at (g := lBN z RS ba qv m q cap b2) ht rfl) rfl (by decide) (by decide) (nI_pos (by omega)) (by rw [z0, zm]; omega) (by rw [z0, zm]; omega) (fun i _ => hfit _) (by rw [hR]; exact hN) (by rw [hR]; exact Nat.le_trans (Nat.add_le_add hrest (Nat.add_le_add_right nfw_le 11)) (Nat.le_trans (Nat.le_of_ble_eq_true rfl : 8 + (30 + 11) ≤ 60 * 1) (Nat.mul_le_mul_left 60 hN))) dg (fun H1 locs1 hP1 hD1 hS1 => ?_)
  have hs : ∀ (x y : Nat × va_E) (b : va_W), (aWl (lBN z RS ba qv m q cap b2) d ++ (x :: b)).set 207 y = aWl (lBN z RS ba qv m q cap b2) d ++ (y :: b) := fun x y b => by
    rw [List.set_append_right _ _ (by rw [aWl_len]; exact Nat.le_refl 207), aWl_len]
    rfl
  rw [hs] at hP1 hD1
  exact kk ls H1 locs1 _ hl ⟨rfl, hP1, hD1⟩ hS1
abbrev bQn (z : lP) (RS : va_W) (ba : Nat) (qv m : Nat) (d : Nat → Nat → Int32) (cap : Nat) : Array Value → State → Outcome → State → Prop :=
  va_Qq (S := Nat × (Nat → Int32)) (fun r u => r = some u.1 ∧ (∀ j, j < m → u.2 j = d 206 j) ∧ ∀ j, fits .byte (.int (u.2 j)) = true) (fun u s => aWp (lBN z RS ba qv m u.1 cap u.2) (d, []) s) (lA z)
theorem t_copyOf {l : Launch} (hl : l.stackTraces = false) (ht : z.2.1.map Prod.snd = tyX) (hm : m < cap) (hc : cap < 1000) (hfit : ∀ j, fits .byte (.int (d 206 j)) = true) : bM l z RS ba qv m d yJ7_copyOf_9075b (aWs yJ7_copyOf_9075b cJ7_copyOf_9075b 3 (some (.array .byte))) 1 1 cap [.ref qv, .int (nI cap)] (bQn z RS ba qv m d cap) := by
  refine bM_of RJ7 ⟨by decide +kernel, rfl⟩ (cat_all rfl) (Nat.le_of_ble_eq_true rfl) hl (fun f hR hC hE _ => ?_)
  show AW f (lB z RS ba qv m) 0 [some (.ref qv), some (.int (nI cap)), none] [] (d, []) 0 0
  refine a_iload_n (pc := 0) hC dJ7_copyOf_9075b_0 rfl ?_
  refine a_aload_n (pc := 1) hC dJ7_copyOf_9075b_1 rfl ?_
  refine sb_len (pc := 2) ht hC dJ7_copyOf_9075b_2 ?_
  refine a_icmp_ne (pc := 3) (tgt := 14) hC dJ7_copyOf_9075b_3 (by decide) (fun _ => ?_) (fun c => absurd ((nI_eq (by omega) (by omega)).mp c) (by omega))
  refine a_iload_n (pc := 14) hC dJ7_copyOf_9075b_14 rfl ?_
  refine bc_newa (pc := 15) hC ht hR (by omega) (Nat.le_refl _) (by omega) dJ7_copyOf_9075b_15 (fun q => ?_)
  have hC' := lOK_N hC q cap (fun _ => 0)
  refine a_astore_n (pc := 17) hC' dJ7_copyOf_9075b_17 (Nat.le_of_ble_eq_true rfl) ?_
  refine a_aload_n (pc := 18) hC' dJ7_copyOf_9075b_18 rfl ?_
  refine a_iconst (pc := 19) hC' dJ7_copyOf_9075b_19 (v := 0) rfl ?_
  refine a_aload_n (pc := 20) hC' dJ7_copyOf_9075b_20 rfl ?_
  refine a_iconst (pc := 21) hC' dJ7_copyOf_9075b_21 (v := 0) rfl ?_
  refine a_aload_n (pc := 22) hC' dJ7_copyOf_9075b_22 rfl ?_
  refine a_alen (q := (d, [])) (pc := 23) hC' (oN_by ht) (v := nI m) rfl dJ7_copyOf_9075b_23 ?_
  refine a_iload_n (pc := 24) hC' dJ7_copyOf_9075b_24 rfl ?_
  refine a_mmin (pc := 25) hC' hR ⟨Nat.le_refl _, Nat.le_refl _, by omega⟩ rfl tw_1143 tw_596 tw_23 tw_597 (Nat.le_of_ble_eq_true rfl) dJ7_copyOf_9075b_25 ?_
  rw [if_neg (nI_nlt (by omega) (by omega))]
  refine bc_copy (pc := 28) hC' ht hR (Nat.le_refl _) rfl (by omega) (by omega) hfit dJ7_copyOf_9075b_28 (Nat.le_of_ble_eq_true rfl) ?_
  have hC2 := lOK_N hC q cap (cpB d (fun _ => 0) m)
  refine a_aload_n (pc := 31) hC2 dJ7_copyOf_9075b_31 rfl ?_
  intro ls H locs ex hl hI hS
  rw [hE.1.1]
  refine W.widen (Nat.le_of_eq rfl) (by omega) (vx_ret (W.aret hC2.x hC2.b hE.2 (Or.inr ⟨_, rfl⟩) (Or.inr ⟨_, rfl⟩) (fun t ht hW => ⟨⟨some q, (q, cpB d (fun _ => 0) m), rfl, ⟨rfl, fun j hj => ?_, fun j => ?_⟩, ⟨ex, by rw [ht]; exact hI⟩⟩, hS.F ht⟩) hS.2.2 dJ7_copyOf_9075b_32 hC2.lk))
  · show cpB d (fun _ => 0) m j = _
    rw [cpB_at (by omega), if_pos hj]
  · show fits .byte (.int (cpB d (fun _ => 0) m j)) = true
    rw [cpB_at (by omega)]
    by_cases c : j < m
    · rw [if_pos c]; exact hfit j
    · rw [if_neg c]; rfl
theorem wP_sub {D : va_G} {cl : List vw_C} {a b : va_W} {H : Heap} (h : List.Sublist a b) (hP : va_P D cl b H) : va_P D cl a H := by
  intro k q hk
  obtain ⟨i, hi⟩ := List.getElem?_of_mem (h.subset (List.mem_of_getElem? hk))
  exact hP i q hi
theorem wD_sub {A : Nat → Prop} {a b : va_W} (h : List.Sublist a b) (hD : va_D A b) : va_D A a := by
  rw [wD_nodup] at hD ⊢
  exact ⟨hD.1.sublist (h.map Prod.fst), fun q hq => hD.2 q (h.subset hq)⟩
def dNew (d : Nat → Nat → Int32) (b2 : Nat → Int32) : Nat → Nat → Int32 := fun k => if k = 206 then b2 else d k
theorem bc_putv (hC : aOK f (lBN z RS ba qv m q cap b2) cc nL RJ5) (dg : decode cc pc = .ok (.putfield 15, 3)) (kk : AW f (lB z RS ba q cap) (pc + 3) L st (dNew d b2, []) k n) : AW f (lBN z RS ba qv m q cap b2) pc L (.ref q :: .ref ba :: st) (d, []) k n := by
  intro ls H locs ex hl hI hS
  obtain ⟨rfl, hP, hD⟩ := hI
  have hw : ∀ ex : va_W, aWl (lBN z RS ba qv m q cap b2) d ++ ex = lWX z d ++ ([(ba, .inr (1, [.ref qv, .int 0, .int (d 205 2), .int (d 205 3)])), (qv, .inl (lc z 5, (m, .inl (d 206))))] ++ ex) := fun ex => lB_wl (RS := RS) (ba := ba) ex
  have hlen : (lWX z d).length = 205 := by unfold lWX; simp
  rw [hw] at hP hD
  refine va_put hC.x hC.b hC.ts cl_J4.2.1 tyJ4 tyJ4_ok cl_J4.2.2 hC.o hC.K hP hD hS 205 (fs := [.ref qv, .int 0, .int (d 205 2), .int (d 205 3)]) (by rw [List.getElem?_append_right (by rw [hlen]; exact Nat.le_refl _), hlen]; rfl) cl_J4.1 0 (by decide) (hC.w tw_288 rfl) (fun _ h => h) rfl (tyJ4_ok 0 (by decide)) rfl rfl (Nat.le_of_ble_eq_true rfl) dg (fun H1 locs1 hP1 hD1 hS1 => ?_)
  rw [List.set_append_right _ _ (by rw [hlen]; exact Nat.le_refl _), hlen] at hP1 hD1
  have hx : aWl (lB z RS ba q cap) (dNew d b2) ++ RS = lWX z d ++ ([(ba, .inr (1, [.ref q, .int 0, .int (d 205 2), .int (d 205 3)])), (q, .inl (lc z 5, (cap, .inl b2)))] ++ RS) := by
    rw [lB_wl, lWX_cg (d' := d) (fun k hk => by unfold dNew; rw [if_neg (by omega)])]
    rfl
  have hsub : List.Sublist (aWl (lB z RS ba q cap) (dNew d b2) ++ RS) (lWX z d ++ ((ba, .inr (1, [.ref q, .int 0, .int (d 205 2), .int (d 205 3)])) :: (qv, .inl (lc z 5, (m, .inl (d 206)))) :: (q, .inl (lc z 5, (cap, .inl b2))) :: RS)) := by
    rw [hx]
    exact List.Sublist.append (List.Sublist.refl _) (List.Sublist.cons₂ _ (List.Sublist.cons _ (List.Sublist.refl _)))
  exact kk ls H1 locs1 _ hl ⟨rfl, wP_sub hsub hP1, wD_sub hsub hD1⟩ hS1
end SB4

/-! Enum.ordinal of a kind -/
theorem dord_0 : decode cJx29ce0_ordinal_8abf5 0 = .ok (.aload_n 0, 1) := by decide +kernel
theorem dord_1 : decode cJx29ce0_ordinal_8abf5 1 = .ok (.getfield 7, 3) := by decide +kernel
theorem dord_4 : decode cJx29ce0_ordinal_8abf5 4 = .ok (.ireturn, 1) := by decide +kernel
theorem t_ord {l : Launch} {g : aG} (hX : isX g) (hl : l.stackTraces = false) {i : Nat} (hi : i < 10) (q : aS) (P : Int32 → aS → Prop) (h : P (nI i) q) : aMi l g yJx29ce0_ordinal_8abf5 (aWs yJx29ce0_ordinal_8abf5 cJx29ce0_ordinal_8abf5 1 (some .int)) 0 0 0 [.ref (gK g i)] q P (fun _ _ => False) := by
  refine aMi_of RJx29ce0 ⟨by decide +kernel, rfl⟩ (cat_all rfl) (Nat.le_of_ble_eq_true rfl) hl hX.cl (fun f hR hC hE => ?_)
  show AW f g 0 [some (.ref (gK g i))] [] q 0 0
  refine a_aload_n (pc := 0) hC dord_0 rfl ?_
  refine a_kget (pc := 1) hX hC hi (p := eF[0]) (by decide) tw_1439 (v := nI i) (eF_ord hi) dord_1 ?_
  exact a_iret (pc := 4) hC hE h (Nat.le_refl _) (Nat.le_refl _) dord_4
section ORD
variable {f : aF} {g : aG} {cc : ByteArray} {nL : Nat} {own : String} {pc : Nat} {L : List (Option Value)} {st : List Value} {q : aS} {k n : Nat}
theorem a_ord (hX : isX g) (hC : aOK f g cc nL "EchoCouncil") {N mcR msR : Nat} (hR : f_R f = aR N mcR msR) {i : Nat} (hi : i < 10) (hL : L.length = nL) (hN : 1 ≤ N ∧ k ≤ mcR ∧ n ≤ msR) (hrest : (st.map fun v => v.category).sum ≤ 8) (dg : decode cc pc = .ok (.invokevirtual 436, 3)) (kk : AW f g (pc + 3) L (.int (nI i) :: st) q k n) : AW f g pc L (.ref (gK g i) :: st) q k n := by
  intro ls H locs ex hl hI hS
  have hg : GoodIn TW (va_wsU "EchoCouncil" 436 "EchoCouncil$OrderKind" "java/lang/Enum" ⟨"EchoCouncil$OrderKind", "ordinal", "()I"⟩ yJx29ce0_ordinal_8abf5 (aWs yJx29ce0_ordinal_8abf5 cJx29ce0_ordinal_8abf5 1 (some .int))) := by
    intro w h
    refine good_TW ?_
    rcases List.mem_append.mp h with h | h
    · simp only [List.mem_cons, List.not_mem_nil, or_false] at h
      rcases h with rfl | rfl | rfl | rfl | rfl
      · exact tk_w tw_695 rfl
      · exact tk_w tw_696 rfl
      · exact tk_w tw_698 rfl
      · exact tk_w tw_699 rfl
      · exact tk_w tw_8 rfl
    · rcases List.mem_cons.mp h with rfl | h
      · exact tk_w tw_700 rfl
      · exact h
  have hf : (aR 0 0 0).frames + 1 ≤ (f_R f).frames ∧ 8 + (1 + 11) + (aR 0 0 0).locals ≤ (f_R f).locals := by
    rw [hR]
    refine ⟨hN.1, ?_⟩
    show 8 + (1 + 11) + 60 * 0 ≤ 60 * N
    omega
  have hrun := va_runU (rest := st) (As := []) (g := F0 (f_m f) pc ls (([] : List Value).reverse ++ .ref (gK g i) :: st)) (locs := locs) (meth := f_me f) (below := f_b f) (e := f_e f) (cells := k) (slots := n) (S := (⟨hC.x, hC.b, hC.ml, hC.o, hC.ts⟩ : CallFix (f_p f) (f_m f) (f_c f) cc nL (f_s f) (f_a f) TW "EchoCouncil")) (aMet_of (t_ord (l := f_l f) hX hC.tr hi q (fun r u => r = nI i ∧ u = q) ⟨rfl, rfl⟩) aX_no) (va_cwU 0 hC.ts hg rfl rfl rfl rfl (by decide +kernel) hf)
    ⟨aBlind hC.cl _ q, va_recvE (hX.en hC.en).2.2.1 hi hS, fun U hU hW => ⟨rfl, aWd_of hC hI hS hU hW⟩⟩ rfl rfl (hl.1.trans hL) rfl (lv_room hrest) dg (by rw [hR]; exact ⟨hN.2.1, hN.2.2⟩)
  refine va_calli hrun hS (fun _ _ h => h) (fun _ h => h) (fun r u t H1 locs1 ht hvm hp1 hB hz hk1 hS1 => ?_)
  obtain ⟨ex', hI'⟩ := hB
  obtain ⟨rfl, rfl⟩ := hp1
  rw [ht] at hI'
  exact kk ls H1 locs1 ex' hl hI' hS1
end ORD

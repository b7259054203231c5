/-! the double among the locals, and the law's loop -/
theorem l_find {f : aF} {z : lP} {sa N : Nat} {xs : Nat → Int32} (hO : lawOK f z sa N xs) {i r : Int32} {b : UInt64} {dX dM : Nat → Nat → Int32} {t tm : List Nat} {v : Nat → Int64} {vd : Nat → UInt64} {k n : Nat} {K : aS → aS → Prop} (hk : k ≤ 603072) (hn : n ≤ 7202922)
    (h : w_X10_thrown (dM, tm) (fun th qm => th = r ∧ (r = 0 → vd 0 = b ∧ vf_n64 b) ∧ K (dX, t) qm)) (kk : ∀ qm : aS, K (dX, t) qm → AW f (lX z qm.1 v vd) 2663 (lawL z sa i) [] (dX, t) k n) : AW f (lX z dM v vd) 2443 ((lawL z sa i).set 6 (some (.int r))) [.double b] (dX, t) k n := by
  intro ls H locs ex hl hI hS
  have hC := hO.C dM v vd
  have htr := hC.tr
  refine lv_dstore hC.x hC.b dL_law_2443 hl.to (by show 7 + 1 < 9; decide) rfl (fun ls' hl' => ?_)
  have hD : ls'[7]? = some (.val (.double b)) := hl'.2.2 (7, .double b) List.mem_cons_self
  have hl2 : lw_has ls' ((lawL z sa i).set 6 (some (.int r))) := by
    refine ⟨hl'.1, hl'.2.1, fun j w hj => ?_⟩
    have hc := (hl.2.2 j w hj).2
    refine ⟨hl'.2.2 (j, w) (List.mem_cons_of_mem _ (List.mem_filter.mpr ⟨lw_prs_mem.mpr hj, ?_⟩)), hc⟩
    have h7 : ¬ j = 7 := fun e => by subst e; cases hj
    have h8 : ¬ j = 8 := fun e => by subst e; cases hj
    simp [h7, h8, hc]
  refine lv_aload_n hC.x hC.b dL_law_2445 rfl (hl2.2.2 2 _ rfl).1 ?_
  obtain ⟨ex', hI'⟩ := lX_M (t' := tm) hI
  have hX : isM (lM z dX t v vd) := lM_is hO.1 dX t v vd
  refine l_callW (rest := []) (lOK_M hC dX t) hO.2.2.1 vm_X10_thrown tw_1574 cl_X10 (oM_0 hX) ⟨by decide, by decide, hk, hn⟩ dL_law_2446 (t_X10_thrown hX htr _ _ h) rfl rfl (hl2.1.trans rfl) (by decide) hI' hS (fun th q' H1 locs1 ex1 hp1 hI1 hS1 => ?_)
  obtain ⟨dM1, tm1⟩ := q'
  obtain ⟨he, hv, hK⟩ := hp1
  obtain ⟨ex2, hI2⟩ := lM_X hI1
  have hC1 := hO.C dM1 v vd
  have hg : W (f_p f) (f_l f) (f_e f) (f_R f) (f_s f) (f_m f) (f_a f) (f_b f) (f_me f) (f_c f) H1 locs1 (k + 0) (n + 0) (f_Q f) (F0 (f_m f) 2493 ls' []) :=
    lv_goto hC.x hC.b dL_law_2493 (tgt := 2663) (by decide) (((kk (dM1, tm1) hK).forget (lawL_sub z sa i (some (.int r)) none none)) ls' H1 locs1 ex2 hl2 hI2 hS1)
  refine lv_iload hC.x hC.b dL_law_2449 (hl2.2.2 6 _ rfl).1 ?_
  refine lv_icmp_eq hC.x hC.b dL_law_2451 (tgt := 2456) (by decide) (fun _ => ?_) (fun e => (e he).elim)
  refine lv_iload hC.x hC.b dL_law_2456 (hl2.2.2 6 _ rfl).1 ?_
  refine lv_if_ne hC.x hC.b dL_law_2458 (tgt := 2493) (by decide) (fun _ => hg) (fun e => ?_)
  refine lv_aload hC.x hC.b dL_law_2461 (hl2.2.2 4 _ rfl).1 ?_
  refine lv_iconst hC.x hC.b dL_law_2463 (v := 0) rfl ?_
  refine va_dald hC1.x hC1.b hC1.K hI2.2.1 208 7 (lX_out hI2).2 (gc_at (g := lX z dM1 v vd) hO.1 rfl) in01 dL_law_2464 ?_
  refine lv_dload hC.x hC.b dL_law_2465 hD ?_
  refine lv_dcmp hC.x hC.b dL_law_2467 ?_
  refine lv_if_eq hC.x hC.b dL_law_2468 (tgt := 2493) (by decide) (fun _ => hg) (fun h => ?_)
  have h0 : vd (Int32.toNatClampNeg 0) = b := (hv e).1
  rw [h0, dcmp_ok (hv e).2] at h
  exact (h rfl).elim
set_option maxRecDepth 20000 in
theorem lc_38 {f : aF} {z : lP} {sa N : Nat} {xs : Nat → Int32} (hO : lawOK f z sa N xs) {i : Int32} (hi1 : vp_in (i + 1) N) (hi2 : vp_in (i + 2) N) (hi3 : vp_in (i + 3) N) {dX dM : Nat → Nat → Int32} {t : List Nat} {v : Nat → Int64} {vd : Nat → UInt64} {k n : Nat} {K : aS → aS → Prop} (hk : k + 40 ≤ 603072) (hn : n + 5000 ≤ 7202922)
    (h : ob_38 v vd (xs (i + 1).toNatClampNeg) (xs (i + 2).toNatClampNeg) (xs (i + 3).toNatClampNeg) (dX, t) (dM, []) K) (kk : ∀ (v1 : Nat → Int64) (vd1 : Nat → UInt64) (q2 qm : aS), K q2 qm → AW f (lX z qm.1 v1 vd1) 2663 (lawL z sa i) [] q2 (k + 40) (n + 5000)) : AW f (lX z dM v vd) 2431 (lawL z sa i) [] (dX, t) k n := by
  have hX : isX (lX z dM v vd) := lX_is hO.1 dM v vd
  have hl := (hO.C dM v vd).tr
  unfold ob_38 at h
  refine a_aload_n (pc := 2431) (hO.C _ _ _) dL_law_2431 rfl ?_
  refine a_aload (pc := 2432) (hO.C _ _ _) dL_law_2432 rfl ?_
  refine l_helper (pc := 2434) hO sw_L_meanDamp tw_1443 ⟨(Nat.le_of_ble_eq_true rfl), (Nat.le_of_ble_eq_true rfl), by omega, by omega⟩ dL_law_2434 (t_L_meanDamp hO.1 hl dM v vd (dX, t) (lPod (w_X10_meanDamp (dM, [])) K) h) rfl rfl rfl (Nat.le_of_ble_eq_true rfl) (fun r u h => ?_)
  obtain ⟨v1, vd1, dX1, t1⟩ := u
  refine a_istore (pc := 2437) (hO.C _ _ _) dL_law_2437 (Nat.le_of_ble_eq_true rfl) ?_
  refine a_aload_n (pc := 2439) (hO.C _ _ _) dL_law_2439 rfl ?_
  refine l_modeld (pc := 2440) hO vm_X10_meanDamp tw_1892 ⟨(Nat.le_of_ble_eq_true rfl), (Nat.le_of_ble_eq_true rfl), by omega, by omega⟩ dL_law_2440 (t_X10_meanDamp (lM_is hO.1 _ _ _ _) hl _ _ h) rfl rfl rfl (Nat.le_of_ble_eq_true rfl) (fun b qm h => ?_)
  obtain ⟨dM1, tm⟩ := qm
  exact l_find hO (by omega) (by omega) h (fun qm hK => (kk _ _ _ _ hK).widen (by omega) (by omega))

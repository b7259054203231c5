/-! the law's step and its loop -/
def lawOb (v : Nat → Int64) (vd : Nat → UInt64) (p1 p2 p3 : Int32) (q qm : aS) (K : aS → aS → Prop) : Prop :=
  ob_0 v vd p1 p2 p3 q qm K ∧ ob_1 v vd p1 p2 p3 q qm K ∧ ob_2 v vd p1 p2 p3 q qm K ∧ ob_3 v vd p1 p2 p3 q qm K ∧ ob_4 v vd p1 p2 p3 q qm K ∧ ob_5 v vd p1 p2 p3 q qm K ∧ ob_6 v vd p1 p2 p3 q qm K ∧ ob_7 v vd p1 p2 p3 q qm K ∧ ob_8 v vd p1 p2 p3 q qm K ∧ ob_9 v vd p1 p2 p3 q qm K ∧ ob_10 v vd p1 p2 p3 q qm K ∧ ob_11 v vd p1 p2 p3 q qm K ∧ ob_12 v vd p1 p2 p3 q qm K ∧ ob_13 v vd p1 p2 p3 q qm K ∧ ob_14 v vd p1 p2 p3 q qm K ∧ ob_15 v vd p1 p2 p3 q qm K ∧ ob_16 v vd p1 p2 p3 q qm K ∧ ob_17 v vd p1 p2 p3 q qm K ∧ ob_18 v vd p1 p2 p3 q qm K ∧ ob_19 v vd p1 p2 p3 q qm K ∧ ob_20 v vd p1 p2 p3 q qm K ∧ ob_21 v vd p1 p2 p3 q qm K ∧ ob_22 v vd p1 p2 p3 q qm K ∧ ob_23 v vd p1 p2 p3 q qm K ∧ ob_24 v vd p1 p2 p3 q qm K ∧ ob_25 v vd p1 p2 p3 q qm K ∧ ob_26 v vd p1 p2 p3 q qm K ∧ ob_27 v vd p1 p2 p3 q qm K ∧ ob_28 v vd p1 p2 p3 q qm K ∧ ob_29 v vd p1 p2 p3 q qm K ∧ ob_30 v vd p1 p2 p3 q qm K ∧ ob_31 v vd p1 p2 p3 q qm K ∧ ob_32 v vd p1 p2 p3 q qm K ∧ ob_33 v vd p1 p2 p3 q qm K ∧ ob_34 v vd p1 p2 p3 q qm K ∧ ob_35 v vd p1 p2 p3 q qm K ∧ ob_36 v vd p1 p2 p3 q qm K ∧ ob_37 v vd p1 p2 p3 q qm K ∧ ob_38 v vd p1 p2 p3 q qm K ∧ ob_39 v vd p1 p2 p3 q qm K ∧ ob_40 v vd p1 p2 p3 q qm K ∧ ob_41 v vd p1 p2 p3 q qm K ∧ ob_42 v vd p1 p2 p3 q qm K ∧ K q qm
theorem a_sld {f : aF} {z : lP} {sa N : Nat} {xs : Nat → Int32} (hO : lawOK f z sa N xs) {pc : Nat} {L : List (Option Value)} {st : List Value} {dM : Nat → Nat → Int32} {v : Nat → Int64} {vd : Nat → UInt64} {q : aS} {k n : Nat} {i : Int32} (hin : vp_in i N) (dg : decode cL_law pc = .ok (.iaload, 1)) (kk : AW f (lX z dM v vd) (pc + 1) L (.int (xs i.toNatClampNeg) :: st) q k n) : AW f (lX z dM v vd) pc L (.int i :: .ref sa :: st) q k n :=
  fun ls H locs ex hl hI hS => va_sld (hO.C dM v vd).x (hO.C dM v vd).b hO.2.2.2.1 hO.2.2.2.2.1 hO.2.2.2.2.2 hS hin dg (kk ls H locs ex hl hI hS)
theorem a_slen {f : aF} {z : lP} {sa N : Nat} {xs : Nat → Int32} (hO : lawOK f z sa N xs) {pc : Nat} {L : List (Option Value)} {st : List Value} {dM : Nat → Nat → Int32} {v : Nat → Int64} {vd : Nat → UInt64} {q : aS} {k n : Nat} (dg : decode cL_law pc = .ok (.arraylength, 1)) (kk : AW f (lX z dM v vd) (pc + 1) L (.int (Int32.ofNat N) :: st) q k n) : AW f (lX z dM v vd) pc L (.ref sa :: st) q k n :=
  fun ls H locs ex hl hI hS => va_slen (hO.C dM v vd).x (hO.C dM v vd).b hO.2.2.2.1 hO.2.2.2.2.1 hO.2.2.2.2.2 hS dg (kk ls H locs ex hl hI hS)
set_option maxRecDepth 20000 in
theorem law_step {f : aF} {z : lP} {sa N : Nat} {xs : Nat → Int32} (hO : lawOK f z sa N xs) {i : Int32} (hi0 : vp_in i N) (hi1 : vp_in (i + 1) N) (hi2 : vp_in (i + 2) N) (hi3 : vp_in (i + 3) N) {dX dM : Nat → Nat → Int32} {t : List Nat} {v : Nat → Int64} {vd : Nat → UInt64} {k n : Nat} {K : aS → aS → Prop} (hk : k + 40 ≤ 603072) (hn : n + 5000 ≤ 7202922)
    (h : lawOb v vd (xs (i + 1).toNatClampNeg) (xs (i + 2).toNatClampNeg) (xs (i + 3).toNatClampNeg) (dX, t) (dM, []) K) (kk : ∀ (v1 : Nat → Int64) (vd1 : Nat → UInt64) (q2 qm : aS), K q2 qm → AW f (lX z qm.1 v1 vd1) 2663 (lawL z sa i) [] q2 (k + 40) (n + 5000)) : AW f (lX z dM v vd) 37 (lawL z sa i) [] (dX, t) k n := by
  refine a_aload_n (pc := 37) (hO.C _ _ _) dL_law_37 rfl ?_
  refine a_iload (pc := 38) (hO.C _ _ _) dL_law_38 rfl ?_
  refine a_sld (pc := 40) hO hi0 dL_law_40 ?_
  refine a_bipush (pc := 41) (hO.C _ _ _) dL_law_41 (v := 63) rfl ?_
  refine a_iand (pc := 43) (hO.C _ _ _) dL_law_43 ?_
  unfold lawOb at h
  generalize xs i.toNatClampNeg &&& 63 = x
  by_cases c0 : x = 0
  · subst c0
    refine a_tabIn (pc := 44) (tgt := 232) (hO.C _ _ _) dL_law_44 (by decide) (by decide) rfl (by decide) ?_
    exact lc_0 hO hi1 hi2 hi3 hk hn h.1 kk
  replace h := h.2
  by_cases c1 : x = 1
  · subst c1
    refine a_tabIn (pc := 44) (tgt := 288) (hO.C _ _ _) dL_law_44 (by decide) (by decide) rfl (by decide) ?_
    exact lc_1 hO hi1 hi2 hi3 hk hn h.1 kk
  replace h := h.2
  by_cases c2 : x = 2
  · subst c2
    refine a_tabIn (pc := 44) (tgt := 356) (hO.C _ _ _) dL_law_44 (by decide) (by decide) rfl (by decide) ?_
    exact lc_2 hO hi1 hi2 hi3 hk hn h.1 kk
  replace h := h.2
  by_cases c3 : x = 3
  · subst c3
    refine a_tabIn (pc := 44) (tgt := 424) (hO.C _ _ _) dL_law_44 (by decide) (by decide) rfl (by decide) ?_
    exact lc_3 hO hi1 hi2 hi3 hk hn h.1 kk
  replace h := h.2
  by_cases c4 : x = 4
  · subst c4
    refine a_tabIn (pc := 44) (tgt := 492) (hO.C _ _ _) dL_law_44 (by decide) (by decide) rfl (by decide) ?_
    exact lc_4 hO hi1 hi2 hi3 hk hn h.1 kk
  replace h := h.2
  by_cases c5 : x = 5
  · subst c5
    refine a_tabIn (pc := 44) (tgt := 548) (hO.C _ _ _) dL_law_44 (by decide) (by decide) rfl (by decide) ?_
    exact lc_5 hO hi1 hi2 hi3 hk hn h.1 kk
  replace h := h.2
  by_cases c6 : x = 6
  · subst c6
    refine a_tabIn (pc := 44) (tgt := 616) (hO.C _ _ _) dL_law_44 (by decide) (by decide) rfl (by decide) ?_
    exact lc_6 hO hi1 hi2 hi3 hk hn h.1 kk
  replace h := h.2
  by_cases c7 : x = 7
  · subst c7
    refine a_tabIn (pc := 44) (tgt := 696) (hO.C _ _ _) dL_law_44 (by decide) (by decide) rfl (by decide) ?_
    exact lc_7 hO hi1 hi2 hi3 hk hn h.1 kk
  replace h := h.2
  by_cases c8 : x = 8
  · subst c8
    refine a_tabIn (pc := 44) (tgt := 764) (hO.C _ _ _) dL_law_44 (by decide) (by decide) rfl (by decide) ?_
    exact lc_8 hO hi1 hi2 hi3 hk hn h.1 kk
  replace h := h.2
  by_cases c9 : x = 9
  · subst c9
    refine a_tabIn (pc := 44) (tgt := 820) (hO.C _ _ _) dL_law_44 (by decide) (by decide) rfl (by decide) ?_
    exact lc_9 hO hi1 hi2 hi3 hk hn h.1 kk
  replace h := h.2
  by_cases c10 : x = 10
  · subst c10
    refine a_tabIn (pc := 44) (tgt := 833) (hO.C _ _ _) dL_law_44 (by decide) (by decide) rfl (by decide) ?_
    exact lc_10 hO hi1 hi2 hi3 hk hn h.1 kk
  replace h := h.2
  by_cases c11 : x = 11
  · subst c11
    refine a_tabIn (pc := 44) (tgt := 901) (hO.C _ _ _) dL_law_44 (by decide) (by decide) rfl (by decide) ?_
    exact lc_11 hO hi1 hi2 hi3 hk hn h.1 kk
  replace h := h.2
  by_cases c12 : x = 12
  · subst c12
    refine a_tabIn (pc := 44) (tgt := 969) (hO.C _ _ _) dL_law_44 (by decide) (by decide) rfl (by decide) ?_
    exact lc_12 hO hi1 hi2 hi3 hk hn h.1 kk
  replace h := h.2
  by_cases c13 : x = 13
  · subst c13
    refine a_tabIn (pc := 44) (tgt := 1037) (hO.C _ _ _) dL_law_44 (by decide) (by decide) rfl (by decide) ?_
    exact lc_13 hO hi1 hi2 hi3 hk hn h.1 kk
  replace h := h.2
  by_cases c14 : x = 14
  · subst c14
    refine a_tabIn (pc := 44) (tgt := 1093) (hO.C _ _ _) dL_law_44 (by decide) (by decide) rfl (by decide) ?_
    exact lc_14 hO hi1 hi2 hi3 hk hn h.1 kk
  replace h := h.2
  by_cases c15 : x = 15
  · subst c15
    refine a_tabIn (pc := 44) (tgt := 1149) (hO.C _ _ _) dL_law_44 (by decide) (by decide) rfl (by decide) ?_
    exact lc_15 hO hi1 hi2 hi3 hk hn h.1 kk
  replace h := h.2
  by_cases c16 : x = 16
  · subst c16
    refine a_tabIn (pc := 44) (tgt := 1205) (hO.C _ _ _) dL_law_44 (by decide) (by decide) rfl (by decide) ?_
    exact lc_16 hO hi1 hi2 hi3 hk hn h.1 kk
  replace h := h.2
  by_cases c17 : x = 17
  · subst c17
    refine a_tabIn (pc := 44) (tgt := 1261) (hO.C _ _ _) dL_law_44 (by decide) (by decide) rfl (by decide) ?_
    exact lc_17 hO hi1 hi2 hi3 hk hn h.1 kk
  replace h := h.2
  by_cases c18 : x = 18
  · subst c18
    refine a_tabIn (pc := 44) (tgt := 1329) (hO.C _ _ _) dL_law_44 (by decide) (by decide) rfl (by decide) ?_
    exact lc_18 hO hi1 hi2 hi3 hk hn h.1 kk
  replace h := h.2
  by_cases c19 : x = 19
  · subst c19
    refine a_tabIn (pc := 44) (tgt := 1385) (hO.C _ _ _) dL_law_44 (by decide) (by decide) rfl (by decide) ?_
    exact lc_19 hO hi1 hi2 hi3 hk hn h.1 kk
  replace h := h.2
  by_cases c20 : x = 20
  · subst c20
    refine a_tabIn (pc := 44) (tgt := 1460) (hO.C _ _ _) dL_law_44 (by decide) (by decide) rfl (by decide) ?_
    exact lc_20 hO hi1 hi2 hi3 hk hn h.1 kk
  replace h := h.2
  by_cases c21 : x = 21
  · subst c21
    refine a_tabIn (pc := 44) (tgt := 1535) (hO.C _ _ _) dL_law_44 (by decide) (by decide) rfl (by decide) ?_
    exact lc_21 hO hi1 hi2 hi3 hk hn h.1 kk
  replace h := h.2
  by_cases c22 : x = 22
  · subst c22
    refine a_tabIn (pc := 44) (tgt := 1591) (hO.C _ _ _) dL_law_44 (by decide) (by decide) rfl (by decide) ?_
    exact lc_22 hO hi1 hi2 hi3 hk hn h.1 kk
  replace h := h.2
  by_cases c23 : x = 23
  · subst c23
    refine a_tabIn (pc := 44) (tgt := 1647) (hO.C _ _ _) dL_law_44 (by decide) (by decide) rfl (by decide) ?_
    exact lc_23 hO hi1 hi2 hi3 hk hn h.1 kk
  replace h := h.2
  by_cases c24 : x = 24
  · subst c24
    refine a_tabIn (pc := 44) (tgt := 1703) (hO.C _ _ _) dL_law_44 (by decide) (by decide) rfl (by decide) ?_
    exact lc_24 hO hi1 hi2 hi3 hk hn h.1 kk
  replace h := h.2
  by_cases c25 : x = 25
  · subst c25
    refine a_tabIn (pc := 44) (tgt := 1759) (hO.C _ _ _) dL_law_44 (by decide) (by decide) rfl (by decide) ?_
    exact lc_25 hO hi1 hi2 hi3 hk hn h.1 kk
  replace h := h.2
  by_cases c26 : x = 26
  · subst c26
    refine a_tabIn (pc := 44) (tgt := 1815) (hO.C _ _ _) dL_law_44 (by decide) (by decide) rfl (by decide) ?_
    exact lc_26 hO hi1 hi2 hi3 hk hn h.1 kk
  replace h := h.2
  by_cases c27 : x = 27
  · subst c27
    refine a_tabIn (pc := 44) (tgt := 1883) (hO.C _ _ _) dL_law_44 (by decide) (by decide) rfl (by decide) ?_
    exact lc_27 hO hi1 hi2 hi3 hk hn h.1 kk
  replace h := h.2
  by_cases c28 : x = 28
  · subst c28
    refine a_tabIn (pc := 44) (tgt := 1939) (hO.C _ _ _) dL_law_44 (by decide) (by decide) rfl (by decide) ?_
    exact lc_28 hO hi1 hi2 hi3 hk hn h.1 kk
  replace h := h.2
  by_cases c29 : x = 29
  · subst c29
    refine a_tabIn (pc := 44) (tgt := 1952) (hO.C _ _ _) dL_law_44 (by decide) (by decide) rfl (by decide) ?_
    exact lc_29 hO hi1 hi2 hi3 hk hn h.1 kk
  replace h := h.2
  by_cases c30 : x = 30
  · subst c30
    refine a_tabIn (pc := 44) (tgt := 2010) (hO.C _ _ _) dL_law_44 (by decide) (by decide) rfl (by decide) ?_
    exact lc_30 hO hi1 hi2 hi3 hk hn h.1 kk
  replace h := h.2
  by_cases c31 : x = 31
  · subst c31
    refine a_tabIn (pc := 44) (tgt := 2054) (hO.C _ _ _) dL_law_44 (by decide) (by decide) rfl (by decide) ?_
    exact lc_31 hO hi1 hi2 hi3 hk hn h.1 kk
  replace h := h.2
  by_cases c32 : x = 32
  · subst c32
    refine a_tabIn (pc := 44) (tgt := 2067) (hO.C _ _ _) dL_law_44 (by decide) (by decide) rfl (by decide) ?_
    exact lc_32 hO hi1 hi2 hi3 hk hn h.1 kk
  replace h := h.2
  by_cases c33 : x = 33
  · subst c33
    refine a_tabIn (pc := 44) (tgt := 2151) (hO.C _ _ _) dL_law_44 (by decide) (by decide) rfl (by decide) ?_
    exact lc_33 hO hi1 hi2 hi3 hk hn h.1 kk
  replace h := h.2
  by_cases c34 : x = 34
  · subst c34
    refine a_tabIn (pc := 44) (tgt := 2207) (hO.C _ _ _) dL_law_44 (by decide) (by decide) rfl (by decide) ?_
    exact lc_34 hO hi1 hi2 hi3 hk hn h.1 kk
  replace h := h.2
  by_cases c35 : x = 35
  · subst c35
    refine a_tabIn (pc := 44) (tgt := 2263) (hO.C _ _ _) dL_law_44 (by decide) (by decide) rfl (by decide) ?_
    exact lc_35 hO hi1 hi2 hi3 hk hn h.1 kk
  replace h := h.2
  by_cases c36 : x = 36
  · subst c36
    refine a_tabIn (pc := 44) (tgt := 2319) (hO.C _ _ _) dL_law_44 (by decide) (by decide) rfl (by decide) ?_
    exact lc_36 hO hi1 hi2 hi3 hk hn h.1 kk
  replace h := h.2
  by_cases c37 : x = 37
  · subst c37
    refine a_tabIn (pc := 44) (tgt := 2375) (hO.C _ _ _) dL_law_44 (by decide) (by decide) rfl (by decide) ?_
    exact lc_37 hO hi1 hi2 hi3 hk hn h.1 kk
  replace h := h.2
  by_cases c38 : x = 38
  · subst c38
    refine a_tabIn (pc := 44) (tgt := 2431) (hO.C _ _ _) dL_law_44 (by decide) (by decide) rfl (by decide) ?_
    exact lc_38 hO hi1 hi2 hi3 hk hn h.1 kk
  replace h := h.2
  by_cases c39 : x = 39
  · subst c39
    refine a_tabIn (pc := 44) (tgt := 2496) (hO.C _ _ _) dL_law_44 (by decide) (by decide) rfl (by decide) ?_
    exact lc_39 hO hi1 hi2 hi3 hk hn h.1 kk
  replace h := h.2
  by_cases c40 : x = 40
  · subst c40
    refine a_tabIn (pc := 44) (tgt := 2562) (hO.C _ _ _) dL_law_44 (by decide) (by decide) rfl (by decide) ?_
    exact lc_40 hO hi1 hi2 hi3 hk hn h.1 kk
  replace h := h.2
  by_cases c41 : x = 41
  · subst c41
    refine a_tabIn (pc := 44) (tgt := 2606) (hO.C _ _ _) dL_law_44 (by decide) (by decide) rfl (by decide) ?_
    exact lc_41 hO hi1 hi2 hi3 hk hn h.1 kk
  replace h := h.2
  by_cases c42 : x = 42
  · subst c42
    refine a_tabIn (pc := 44) (tgt := 2619) (hO.C _ _ _) dL_law_44 (by decide) (by decide) rfl (by decide) ?_
    exact lc_42 hO hi1 hi2 hi3 hk hn h.1 kk
  replace h := h.2
  refine a_tabOut (pc := 44) (tgt := 2663) (hO.C _ _ _) dL_law_44 ?_ (by decide) ((kk _ _ _ _ h).widen (by omega) (by omega))
  have e0 := tab_ne (z := 0) rfl c0; have e1 := tab_ne (z := 1) rfl c1; have e2 := tab_ne (z := 2) rfl c2; have e3 := tab_ne (z := 3) rfl c3; have e4 := tab_ne (z := 4) rfl c4; have e5 := tab_ne (z := 5) rfl c5; have e6 := tab_ne (z := 6) rfl c6; have e7 := tab_ne (z := 7) rfl c7; have e8 := tab_ne (z := 8) rfl c8; have e9 := tab_ne (z := 9) rfl c9; have e10 := tab_ne (z := 10) rfl c10; have e11 := tab_ne (z := 11) rfl c11; have e12 := tab_ne (z := 12) rfl c12; have e13 := tab_ne (z := 13) rfl c13; have e14 := tab_ne (z := 14) rfl c14; have e15 := tab_ne (z := 15) rfl c15; have e16 := tab_ne (z := 16) rfl c16; have e17 := tab_ne (z := 17) rfl c17; have e18 := tab_ne (z := 18) rfl c18; have e19 := tab_ne (z := 19) rfl c19; have e20 := tab_ne (z := 20) rfl c20; have e21 := tab_ne (z := 21) rfl c21; have e22 := tab_ne (z := 22) rfl c22; have e23 := tab_ne (z := 23) rfl c23; have e24 := tab_ne (z := 24) rfl c24; have e25 := tab_ne (z := 25) rfl c25; have e26 := tab_ne (z := 26) rfl c26; have e27 := tab_ne (z := 27) rfl c27; have e28 := tab_ne (z := 28) rfl c28; have e29 := tab_ne (z := 29) rfl c29; have e30 := tab_ne (z := 30) rfl c30; have e31 := tab_ne (z := 31) rfl c31; have e32 := tab_ne (z := 32) rfl c32; have e33 := tab_ne (z := 33) rfl c33; have e34 := tab_ne (z := 34) rfl c34; have e35 := tab_ne (z := 35) rfl c35; have e36 := tab_ne (z := 36) rfl c36; have e37 := tab_ne (z := 37) rfl c37; have e38 := tab_ne (z := 38) rfl c38; have e39 := tab_ne (z := 39) rfl c39; have e40 := tab_ne (z := 40) rfl c40; have e41 := tab_ne (z := 41) rfl c41; have e42 := tab_ne (z := 42) rfl c42; omega
theorem law_cmp {N s : Nat} (hN : N ≤ 2048) (hs : s ≤ 512) : Int32.ofNat N - 4 < nI (4 * s) ↔ N < 4 * s + 4 := by
  have e : Int32.ofNat N - 4 = Int32.ofInt ((N : Int) - 4) := by rw [Int32.ofInt_sub, Int32.ofInt_eq_ofNat]; rfl
  have e2 : nI (4 * s) = Int32.ofInt ((4 * s : Nat) : Int) := by rw [Int32.ofInt_eq_ofNat]; rfl
  rw [e, e2, Int32.lt_iff_toInt_lt, Int32.toInt_ofInt, Int32.toInt_ofInt, Int.bmod_eq_of_le (by simp [Int32.size]; omega) (by simp [Int32.size]; omega), Int.bmod_eq_of_le (by simp [Int32.size]; omega) (by simp [Int32.size]; omega)]
  omega
theorem law_idx {N s j : Nat} (hN : N ≤ 2048) (h : 4 * s + j < N) : vp_in (nI (4 * s) + nI j) N := by
  have e : nI (4 * s) + nI j = nI (4 * s + j) := by show Int32.ofNat _ + Int32.ofNat _ = Int32.ofNat _; rw [← Int32.ofNat_add]
  rw [e]
  exact vp_in_nI h (by omega)
theorem law_loop {f : aF} {z : lP} {sa N : Nat} {xs : Nat → Int32} (hO : lawOK f z sa N xs) (hN : N ≤ 2048) (INV : Nat → aS → (Nat → Nat → Int32) → Prop) (hob : ∀ (s : Nat) (q : aS) (dM : Nat → Nat → Int32), s < 512 → INV s q dM → ∀ (v : Nat → Int64) (vd : Nat → UInt64) (p1 p2 p3 : Int32), lawOb v vd p1 p2 p3 q (dM, []) (fun q2 qm => INV (s + 1) q2 qm.1)) {c0 n0 : Nat} (hc : c0 + 40 * 512 + 40 ≤ 603072) (hn : n0 + 5000 * 512 + 5000 ≤ 7202922)
    (hret : ∀ (dM : Nat → Nat → Int32) (v : Nat → Int64) (vd : Nat → UInt64) (q : aS) (k n : Nat) (L : List (Option Value)), k ≤ 603072 → n ≤ 7202922 → AW f (lX z dM v vd) 2670 L [.int 1] q k n) :
    ∀ (m s : Nat), N < 4 * (s + m) + 4 → s ≤ 512 → ∀ (q : aS) (dM : Nat → Nat → Int32) (v : Nat → Int64) (vd : Nat → UInt64), INV s q dM → AW f (lX z dM v vd) 28 (lawL z sa (nI (4 * s))) [] q (c0 + 40 * s) (n0 + 5000 * s) := by
  have hexit : ∀ (s : Nat) (q : aS) (dM : Nat → Nat → Int32) (v : Nat → Int64) (vd : Nat → UInt64), s ≤ 512 → (¬ N < 4 * s + 4 → AW f (lX z dM v vd) 37 (lawL z sa (nI (4 * s))) [] q (c0 + 40 * s) (n0 + 5000 * s)) → AW f (lX z dM v vd) 28 (lawL z sa (nI (4 * s))) [] q (c0 + 40 * s) (n0 + 5000 * s) := by
    intro s q dM v vd hs hgo
    refine a_iload (pc := 28) (hO.C _ _ _) dL_law_28 rfl ?_
    refine a_aload_n (pc := 30) (hO.C _ _ _) dL_law_30 rfl ?_
    refine a_slen (pc := 31) hO dL_law_31 ?_
    refine a_iconst (pc := 32) (hO.C _ _ _) dL_law_32 (v := 4) rfl ?_
    refine a_isub (pc := 33) (hO.C _ _ _) dL_law_33 ?_
    refine a_icmp_gt (pc := 34) (tgt := 2669) (hO.C _ _ _) dL_law_34 (by decide) (fun _ => ?_) (fun h => ?_)
    · refine a_iconst (pc := 2669) (hO.C _ _ _) dL_law_2669 (v := 1) rfl ?_
      exact hret _ _ _ _ _ _ _ (by omega) (by omega)
    · exact hgo (fun h2 => h ((law_cmp hN hs).mpr h2))
  intro m
  induction m with
  | zero =>
    intro s hm hs q dM v vd hI
    exact hexit s q dM v vd hs (fun h => (h (by omega)).elim)
  | succ m ih =>
    intro s hm hs q dM v vd hI
    refine hexit s q dM v vd hs (fun h => ?_)
    have hs1 : s < 512 := by omega
    obtain ⟨dX, t⟩ := q
    refine law_step hO (vp_in_nI (by omega) (by omega)) (law_idx (j := 1) hN (by omega)) (law_idx (j := 2) hN (by omega)) (law_idx (j := 3) hN (by omega)) (by omega) (by omega) (hob s (dX, t) dM hs1 hI v vd _ _ _) (fun v1 vd1 q2 qm hK => ?_)
    refine a_iinc (pc := 2663) (hO.C _ _ _) dL_law_2663 rfl (c := 4) rfl ?_
    refine a_goto (pc := 2666) (tgt := 28) (hO.C _ _ _) dL_law_2666 (by decide) ?_
    have e : nI (4 * s) + 4 = nI (4 * (s + 1)) := by
      show Int32.ofNat _ + Int32.ofNat 4 = Int32.ofNat _
      rw [← Int32.ofNat_add]; congr 1
    have h9 := ih (s + 1) (by omega) (by omega) q2 qm.1 v1 vd1 hK
    rw [← e] at h9
    exact h9.widen (by omega) (by omega)

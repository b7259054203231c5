/-! what the law asks, and its small ways of counting -/
section ASKL
variable {q : aS} {u : pU} {n : Nat} {P : Int32 → aS → Prop}
theorem cmp_d {x : UInt64} (h : vf_n64 x) : Op.cmpValue (FP.dcmp x x) .l = 0 := by
  have h1 : FP.Core.dIsNaN x = false := by
    rw [← Bool.not_eq_true, FP.Core.isNaN_bits]
    intro h2
    have h3 : (x &&& 0x7fffffffffffffff).toNat ≤ (0x7ff0000000000000 : UInt64).toNat := UInt64.le_iff_toNat_le.mp h
    rw [UInt64.toNat_and, show (0x7fffffffffffffff : UInt64).toNat = 2 ^ 63 - 1 from rfl, Nat.and_two_pow_sub_one_eq_mod, show (0x7ff0000000000000 : UInt64).toNat = 9218868437227405312 from rfl] at h3
    omega
  rw [show FP.dcmp x x = some .eq from FP.Core.dcmp_refl h1]
  rfl
theorem cmp_f {x : UInt32} (h : vf_n32 x) : Op.cmpValue (FP.fcmp x x) .l = 0 := by
  have h1 : FP.Core.fIsNaN x = false := by
    rw [← Bool.not_eq_true, FP.Core.isNaN_bits32]
    intro h2
    have h3 : (x &&& 0x7fffffff).toNat ≤ (0x7f800000 : UInt32).toNat := UInt32.le_iff_toNat_le.mp h
    rw [UInt32.toNat_and, show (0x7fffffff : UInt32).toNat = 2 ^ 31 - 1 from rfl, Nat.and_two_pow_sub_one_eq_mod, show (0x7f800000 : UInt32).toNat = 2139095040 from rfl] at h3
    omega
  rw [show FP.fcmp x x = some .eq from FP.Core.fcmp_self (FP.Core.notNaN_iff32 x |>.mp h1)]
  rfl
theorem k_Rx (h : RX 1 q.1 u) (hI : Inv n u) (a : Int32) (k : P (-2002) q) : w_L_ask 0 (nI (cR u)) a q P := by
  have hb1 := hI.1.1.2
  have hb2 := hI.1.2.1.2
  have hb3 := hI.1.2.2.2
  unfold w_L_ask w_L_asked
  refine br_t (by decide) (?_)
  unfold w_X9_roomOf w_X9_checkRoom
  exact x_hasRoom h hI.1 _ (fun _ => ⟨fun z => absurd rfl z, fun _ => Or.inl ⟨rfl, k⟩⟩) (fun j hj e => absurd (nI_inj (by omega) (by omega) e) (by omega))
theorem k_Rb (h : RX 1 q.1 u) (hI : Inv n u) {j : Nat} (hj : j < cR u) (k : P (-2003) q) : w_L_ask 0 (nI j) 6 q P := by
  have hb1 := hI.1.1.2
  have hb2 := hI.1.2.1.2
  have hb3 := hI.1.2.2.2
  unfold w_L_ask w_L_asked
  refine br_t (by decide) (?_)
  unfold w_X9_roomOf w_X9_checkRoom
  refine x_hasRoom h hI.1 _ (fun c => absurd c (has_no hj (by omega))) (fun j' hj' e => ⟨fun _ => ?_, fun z => absurd z i10⟩)
  exact br_f (by decide) (br_f (by decide) (br_f (by decide) (br_f (by decide) (br_f (by decide) (br_f (by decide) (Or.inr (Or.inl ⟨rfl, k⟩)))))))
theorem k_Ex (h : RX 1 q.1 u) (hI : Inv n u) (a : Int32) (k : P (-2002) q) : w_L_ask 1 (nI (cE u)) a q P := by
  have hb1 := hI.1.1.2
  have hb2 := hI.1.2.1.2
  have hb3 := hI.1.2.2.2
  unfold w_L_ask w_L_asked
  refine br_f (by decide) (br_t (by decide) (?_))
  unfold w_X9_echoOf w_X9_checkEcho
  exact x_hasEcho h hI.1 _ (fun _ => ⟨fun z => absurd rfl z, fun _ => Or.inl ⟨rfl, k⟩⟩) (fun j hj e => absurd (nI_inj (by omega) (by omega) e) (by omega))
theorem k_Eb (h : RX 1 q.1 u) (hI : Inv n u) {j : Nat} (hj : j < cE u) (k : P (-2003) q) : w_L_ask 1 (nI j) 5 q P := by
  have hb1 := hI.1.1.2
  have hb2 := hI.1.2.1.2
  have hb3 := hI.1.2.2.2
  unfold w_L_ask w_L_asked
  refine br_f (by decide) (br_t (by decide) (?_))
  unfold w_X9_echoOf w_X9_checkEcho
  refine x_hasEcho h hI.1 _ (fun c => absurd c (has_no hj (by omega))) (fun j' hj' e => ⟨fun _ => ?_, fun z => absurd z i10⟩)
  exact br_f (by decide) (br_f (by decide) (br_f (by decide) (br_f (by decide) (br_f (by decide) (Or.inr (Or.inl ⟨rfl, k⟩))))))
theorem k_Sb (h : RX 1 q.1 u) (hI : Inv n u) {j : Nat} (hj : j < cS u) (k : P (-2003) q) : w_L_ask 2 (nI j) 7 q P := by
  have hb1 := hI.1.1.2
  have hb2 := hI.1.2.1.2
  have hb3 := hI.1.2.2.2
  unfold w_L_ask w_L_asked
  refine br_f (by decide) (br_f (by decide) (br_t (by decide) (?_)))
  unfold w_X9_singerOf w_X9_checkSinger
  refine x_hasSinger h hI.1 _ (fun c => absurd c (has_no hj (by omega))) (fun j' hj' e => ⟨fun _ => ?_, fun z => absurd z i10⟩)
  exact br_f (by decide) (br_f (by decide) (br_f (by decide) (br_f (by decide) (br_f (by decide) (br_f (by decide) (br_f (by decide) (Or.inr (Or.inl ⟨rfl, k⟩))))))))
theorem k_tonesOut (h : RX 1 q.1 u) (hI : Inv n u) {i : Nat} (hi : i < cS u) (e14 : u 14 i = -1) (k : P (-2004) q) : w_L_ask 3 (nI i) 0 q P := by
  have hb1 := hI.1.1.2
  have hb2 := hI.1.2.1.2
  have hb3 := hI.1.2.2.2
  unfold w_L_ask w_L_asked
  refine br_f (by decide) (br_f (by decide) (br_f (by decide) (br_t (by decide) (?_))))
  unfold w_X9_tones
  refine x_inside h hI _ (fun c => absurd c (has_no hi (by omega))) (fun _ _ _ _ => Or.inr (Or.inr ⟨rfl, k⟩)) (fun i' r hi' e hr er => ?_)
  have ei := nI_inj (a := i) (b := i') (by omega) (by omega) e
  subst ei
  exact absurd (er.symm.trans e14) (nI_nm (by omega))
theorem k_versesOut (h : RX 1 q.1 u) (hI : Inv n u) {i : Nat} (hi : i < cS u) (e14 : u 14 i = -1) (k : P (-2004) q) : w_L_ask 4 (nI i) 0 q P := by
  have hb1 := hI.1.1.2
  have hb2 := hI.1.2.1.2
  have hb3 := hI.1.2.2.2
  unfold w_L_ask w_L_asked
  refine br_f (by decide) (br_f (by decide) (br_f (by decide) (br_f (by decide) (br_t (by decide) (?_)))))
  unfold w_X9_verses
  refine x_inside h hI _ (fun c => absurd c (has_no hi (by omega))) (fun _ _ _ _ => Or.inr (Or.inr ⟨rfl, k⟩)) (fun i' r hi' e hr er => ?_)
  have ei := nI_inj (a := i) (b := i') (by omega) (by omega) e
  subst ei
  exact absurd (er.symm.trans e14) (nI_nm (by omega))
theorem k_tonesNo (h : RX 1 q.1 u) (hI : Inv n u) (k : P (-2002) q) : w_L_ask 3 (nI (cS u)) 0 q P := by
  have hb1 := hI.1.1.2
  have hb2 := hI.1.2.1.2
  have hb3 := hI.1.2.2.2
  unfold w_L_ask w_L_asked
  refine br_f (by decide) (br_f (by decide) (br_f (by decide) (br_t (by decide) (?_))))
  unfold w_X9_tones
  exact x_inside h hI _ (fun _ => Or.inl ⟨rfl, k⟩) (fun i hi e _ => absurd (nI_inj (by omega) (by omega) e) (by omega)) (fun i r hi e _ _ => absurd (nI_inj (by omega) (by omega) e) (by omega))
theorem k_would (h : RX 1 q.1 u) (hI : Inv n u) {i : Nat} (hi : i < cS u) (k : P (-2002) q) : w_L_ask 5 (nI i) (nI (cR u)) q P := by
  have hb1 := hI.1.1.2
  have hb2 := hI.1.2.1.2
  have hb3 := hI.1.2.2.2
  unfold w_L_ask w_L_asked
  refine br_f (by decide) (br_f (by decide) (br_f (by decide) (br_f (by decide) (br_f (by decide) (br_t (by decide) (?_))))))
  unfold w_X9_would w_X9_checkSinger w_X9_checkRoom
  refine x_hasSinger h hI.1 _ (fun c => absurd c (has_no hi (by omega))) (fun i' hi' e => ⟨fun _ => ?_, fun z => absurd z i10⟩)
  exact x_hasRoom h hI.1 _ (fun _ => ⟨fun z => absurd rfl z, fun _ => Or.inl ⟨rfl, k⟩⟩) (fun j hj e => absurd (nI_inj (by omega) (by omega) e) (by omega))
theorem k_bestNo (h : RX 1 q.1 u) (hI : Inv n u) {i : Nat} (hi : i < cS u) (h0 : cR u = 0) (k : P (-2004) q) : w_L_ask 6 (nI i) 0 q P := by
  have hb1 := hI.1.1.2
  have hb2 := hI.1.2.1.2
  have hb3 := hI.1.2.2.2
  unfold w_L_ask w_L_asked
  refine br_f (by decide) (br_f (by decide) (br_f (by decide) (br_f (by decide) (br_f (by decide) (br_f (by decide) (br_t (by decide) (?_)))))))
  unfold w_X9_bestRoom w_X9_checkSinger
  refine x_hasSinger h hI.1 _ (fun c => absurd c (has_no hi (by omega))) (fun i' hi' e => ⟨fun _ => ?_, fun z => absurd z i10⟩)
  exact ⟨fun z => absurd ((rx_2 h).trans (hI.1.1.1.trans (by rw [h0]; rfl))) z, fun _ => Or.inr (Or.inr ⟨rfl, k⟩)⟩
theorem k_best (h : RX 1 q.1 u) (hI : Inv n u) {i : Nat} (hi : i < cS u) (h0 : 0 < cR u) (k : P (nI (bst u (nI i) (cR u))) q) : w_L_ask 6 (nI i) 0 q P := by
  have hb1 := hI.1.1.2
  have hb2 := hI.1.2.1.2
  have hb3 := hI.1.2.2.2
  unfold w_L_ask w_L_asked
  refine br_f (by decide) (br_f (by decide) (br_f (by decide) (br_f (by decide) (br_f (by decide) (br_f (by decide) (br_t (by decide) (?_)))))))
  unfold w_X9_bestRoom w_X9_checkSinger
  refine x_hasSinger h hI.1 _ (fun c => absurd c (has_no hi (by omega))) (fun i' hi' e => ⟨fun _ => ?_, fun z => absurd z i10⟩)
  have hn := (rx_2 h).trans hI.1.1.1
  have n0 : ¬ nI (cR u) = 0 := fun z => by
    have := nI_inj (a := cR u) (b := 0) (by omega) (by omega) z
    omega
  refine ⟨fun _ => ?_, fun z => absurd (hn.symm.trans z) n0⟩
  refine lp_k (fun m v x => LX9_bestRoom_32 (nI i) P (fun E q2 => (E = "java/lang/IndexOutOfBoundsException" ∧ P (-2002) q2) ∨ (E = "java/lang/IllegalArgumentException" ∧ P (-2003) q2) ∨ (E = "java/util/NoSuchElementException" ∧ P (-2004) q2)) (fun y10 q11 => P y10 q11) m v x q) (fun j v => v = nI (bst u (nI i) j)) (cR u) 1 (by omega) 0 rfl (fun m v hv => ?_) (fun m j v hj hv hk => ?_)
  · subst hv
    rw [LX9_bestRoom_32, hn]
    exact ⟨fun _ => k, fun z => absurd (nI_le (Nat.le_refl _) (by omega)) z⟩
  · subst hv
    rw [LX9_bestRoom_32, hn]
    refine ⟨fun z => absurd z (nI_ge hj (by omega)), fun _ => x_tonesInRoom h hI.1 hI.ech _ _ (x_tonesInRoom h hI.1 hI.ech _ _ ⟨fun c => ?_, fun c => ?_⟩)⟩
    · intro x8 e8
      rw [nI_1] at e8
      subst e8
      refine hk _ ?_
      show nI (bst u (nI i) j) = nI (if j = 0 then 0 else if pTon u (nI i) (nI j) ≤ pTon u (nI i) (nI (bst u (nI i) j)) then bst u (nI i) j else j)
      by_cases j0 : j = 0
      · subst j0
        rfl
      · rw [if_neg j0, if_pos c]
    · intro x8 e8
      rw [nI_1] at e8
      subst e8
      refine hk _ ?_
      show nI j = nI (if j = 0 then 0 else if pTon u (nI i) (nI j) ≤ pTon u (nI i) (nI (bst u (nI i) j)) then bst u (nI i) j else j)
      by_cases j0 : j = 0
      · subst j0
        rfl
      · rw [if_neg j0, if_neg c]
theorem k_back (h : RX 1 q.1 u) (hI : Inv n u) {j : Nat} (hj : j < cE u) (k1 : ¬ u 8 j = -1 → P (pW u j) q) (k0 : u 8 j = -1 → P (-2004) q) : w_L_ask 7 (nI j) 0 q P := by
  have hb1 := hI.1.1.2
  have hb2 := hI.1.2.1.2
  have hb3 := hI.1.2.2.2
  unfold w_L_ask w_L_asked
  refine br_f (by decide) (br_f (by decide) (br_f (by decide) (br_f (by decide) (br_f (by decide) (br_f (by decide) (br_f (by decide) (br_t (by decide) (?_))))))))
  unfold w_X9_backFor w_X9_checkEcho
  refine x_hasEcho h hI.1 _ (fun c => absurd c (has_no hj (by omega))) (fun i' hi' e => ⟨fun _ => ?_, fun z => absurd z i10⟩)
  exact x_isLet h (by omega) (fun c => ⟨fun z => absurd rfl z, fun _ => Or.inr (Or.inr ⟨rfl, k0 c⟩)⟩) (fun c => ⟨fun _ => x_aboveDamp h hI.1 hI.ech hj (k1 c), fun z => absurd z i10⟩)
theorem k_damp (h : RX 1 q.1 u) (hI : Inv n u) (k : P (-2004) q) : w_L_ask 8 (nI (cR u)) 0 q P := by
  have hb1 := hI.1.1.2
  have hb2 := hI.1.2.1.2
  have hb3 := hI.1.2.2.2
  unfold w_L_ask w_L_asked
  refine br_f (by decide) (br_f (by decide) (br_f (by decide) (br_f (by decide) (br_f (by decide) (br_f (by decide) (br_f (by decide) (br_f (by decide) (br_t (by decide) (?_)))))))))
  refine y_dampestNo h hI (fun j hj z => ?_) (Or.inr (Or.inr ⟨rfl, k⟩))
  have r1 := rk_n (k1 := kR1 u) (k2 := kR2 u) hj
  have := nI_inj (by omega) (by omega) z
  omega
theorem k_dampM (h : RX 1 q.1 u) (hI : Inv n u) (k : P (-2004) q) : w_L_ask 8 (-1) 0 q P := by
  have hb1 := hI.1.1.2
  have hb2 := hI.1.2.1.2
  have hb3 := hI.1.2.2.2
  unfold w_L_ask w_L_asked
  refine br_f (by decide) (br_f (by decide) (br_f (by decide) (br_f (by decide) (br_f (by decide) (br_f (by decide) (br_f (by decide) (br_f (by decide) (br_t (by decide) (?_)))))))))
  refine y_dampestNo h hI (fun j hj z => ?_) (Or.inr (Or.inr ⟨rfl, k⟩))
  have r1 := rk_n (k1 := kR1 u) (k2 := kR2 u) hj
  exact nI_nm (by omega) z
theorem k_strong (h : RX 1 q.1 u) (hI : Inv n u) (k : P (-2004) q) : w_L_ask 10 (nI (cE u)) 0 q P := by
  have hb1 := hI.1.1.2
  have hb2 := hI.1.2.1.2
  have hb3 := hI.1.2.2.2
  unfold w_L_ask w_L_asked
  refine br_f (by decide) (br_f (by decide) (br_f (by decide) (br_f (by decide) (br_f (by decide) (br_f (by decide) (br_f (by decide) (br_f (by decide) (br_f (by decide) (br_f (by decide) (br_t (by decide) (?_)))))))))))
  refine y_strongestNo h hI (fun j hj z => ?_) (Or.inr (Or.inr ⟨rfl, k⟩))
  have r1 := rk_n (k1 := kE1 u) (k2 := kE2 u) hj
  have := nI_inj (by omega) (by omega) z
  omega
theorem k_rank4 (h : RX 1 q.1 u) (hI : Inv n u) (k : P (-2003) q) : w_L_ask 9 4 0 q P := by
  have hb1 := hI.1.1.2
  have hb2 := hI.1.2.1.2
  have hb3 := hI.1.2.2.2
  unfold w_L_ask w_L_asked
  refine br_f (by decide) (br_f (by decide) (br_f (by decide) (br_f (by decide) (br_f (by decide) (br_f (by decide) (br_f (by decide) (br_f (by decide) (br_f (by decide) (br_t (by decide) (?_))))))))))
  exact y_rankedBad (by decide) (Or.inr (Or.inl ⟨rfl, k⟩))
theorem k_rankM (h : RX 1 q.1 u) (hI : Inv n u) (k : P (-2003) q) : w_L_ask 9 (-1) 0 q P := by
  have hb1 := hI.1.1.2
  have hb2 := hI.1.2.1.2
  have hb3 := hI.1.2.2.2
  unfold w_L_ask w_L_asked
  refine br_f (by decide) (br_f (by decide) (br_f (by decide) (br_f (by decide) (br_f (by decide) (br_f (by decide) (br_f (by decide) (br_f (by decide) (br_f (by decide) (br_t (by decide) (?_))))))))))
  exact y_rankedBad (by decide) (Or.inr (Or.inl ⟨rfl, k⟩))
theorem k_rankN (h : RX 1 q.1 u) (hI : Inv n u) (hn9 : n ≤ 10000) (k : P (-2004) q) : w_L_ask 9 0 (nI (cS u)) q P := by
  have hb1 := hI.1.1.2
  have hb2 := hI.1.2.1.2
  have hb3 := hI.1.2.2.2
  unfold w_L_ask w_L_asked
  refine br_f (by decide) (br_f (by decide) (br_f (by decide) (br_f (by decide) (br_f (by decide) (br_f (by decide) (br_f (by decide) (br_f (by decide) (br_f (by decide) (br_t (by decide) (?_))))))))))
  refine y_rankedNo h hI hn9 (by decide) (by decide) (fun j hj z => ?_) (Or.inr (Or.inr ⟨rfl, k⟩))
  have r1 := rk_n (k1 := kS1 u 0) (k2 := kS2) hj
  have := nI_inj (by omega) (by omega) z
  omega
theorem z_singersIn (h : RX 1 q.1 u) (hI : Inv n u) (x : Int32) (k : P (pSin u x) q) : w_L_singersIn x q P := by
  have hb1 := hI.1.1.2
  have hb2 := hI.1.2.1.2
  have hb3 := hI.1.2.2.2
  unfold w_L_singersIn
  refine lp_0 (fun m v i => LL_singersIn_4 x P _ m v i q) (fun j v => v = orTo (gSin u x) j) (cS u) 0 rfl (fun m v hv => ?_) (fun m j v hj hv hk => ?_)
  · subst hv
    rw [LL_singersIn_4]
    exact y_A2 h hI ⟨fun _ => k, fun z => absurd (nI_le (Nat.le_refl _) (by omega)) z⟩
  · subst hv
    rw [LL_singersIn_4]
    refine y_A2 h hI ⟨fun z => absurd z (nI_ge hj (by omega)), fun _ => y_S2 h hI hj ⟨fun c => ?_, fun c => ?_⟩⟩
    · intro x6 e6 x7 e7
      rw [nI_1] at e7
      subst e6 e7
      refine hk _ ?_
      show _ = orTo _ j ||| gSin u x j
      rw [gSin, if_neg c]
    · intro x6 e6 x7 e7
      rw [nI_1] at e7
      subst e6 e7
      refine hk _ ?_
      show _ = orTo _ j ||| gSin u x j
      rw [gSin, if_pos c]
theorem z_backOf (h : RX 1 q.1 u) (hI : Inv n u) {j : Nat} (hj : j < cE u) (k : P (pW u j) q) : w_L_backOf (nI j) q P := by
  have hb1 := hI.1.1.2
  have hb2 := hI.1.2.1.2
  have hb3 := hI.1.2.2.2
  obtain ⟨r, hr, er⟩ := hI.ech j hj
  unfold w_L_backOf
  refine y_E1 h hI hj (y_E0 h hI hj ?_)
  rw [er]
  refine y_R1 h hI hr ?_
  unfold pW p0_ at k
  rw [er, nI_c (show r < 100000 by omega)] at k
  exact k
theorem z_tones (h : RX 1 q.1 u) (hI : Inv n u) {r : Nat} (hr : r < cR u) (s v : Int32) (k : P (pTI u s (nI r) v) q) : w_L_tones s (nI r) v q P := by
  have hb1 := hI.1.1.2
  have hb2 := hI.1.2.1.2
  have hb3 := hI.1.2.2.2
  have er := nI_c (show r < 100000 by omega)
  unfold w_L_tones
  refine lp_0 (fun m a i => LL_tones_6 s (nI r) v P _ m a i q) (fun j a => a = sumTo (gTI u s (nI r) v (pDm u (nI r) v)) j) (cE u) 0 rfl (fun m a ha => ?_) (fun m j a hj ha hk => ?_)
  · subst ha
    rw [LL_tones_6]
    exact y_A1 h hI ⟨fun _ => k, fun z => absurd (nI_le (Nat.le_refl _) (by omega)) z⟩
  · subst ha
    rw [LL_tones_6]
    have stop : ¬ ((u 6 j = nI r ∧ u 8 j = s) ∧ ¬ u 9 j ≤ v) → JL_tones_53 s (nI r) v (sumTo (gTI u s (nI r) v (pDm u (nI r) v)) j) (nI j) P (fun a i q => LL_tones_6 s (nI r) v P (fun y20 q21 => P y20 q21) m a i q) (fun y20 q21 => P y20 q21) q := fun c => by
      unfold JL_tones_53 JL_tones_54
      refine br_t rfl (fun x8 e8 x9 e9 => ?_)
      rw [nI_1] at e9
      subst e8 e9
      refine hk _ ?_
      show _ = sumTo _ j + gTI u s (nI r) v (pDm u (nI r) v) j
      rw [gTI, if_neg c]
    refine y_A1 h hI ⟨fun z => absurd z (nI_ge hj (by omega)), fun _ => y_E0 h hI hj ⟨fun c => stop (fun z => c z.1.1), fun c => y_E2 h hI hj ⟨fun c2 => stop (fun z => c2 z.1.2), fun c2 => y_E3 h hI hj ⟨fun c3 => stop (fun z => z.2 c3), fun c3 => ?_⟩⟩⟩⟩
    unfold JL_tones_54
    refine br_f (by decide) (y_E1 h hI hj (y_R1 h hI hr (fun x14 e14 x15 e15 => ?_)))
    rw [nI_1] at e15
    subst e14 e15
    refine hk _ ?_
    show _ = sumTo _ j + gTI u s (nI r) v (pDm u (nI r) v) j
    have eg : gTI u s (nI r) v (pDm u (nI r) v) j = p0_ (u 7 j - pDm u (nI r) v) := if_pos ⟨⟨c, c2⟩, c3⟩
    rw [eg]
    unfold p0_ pDm
    rw [er]
theorem z_rank (h : RX 1 q.1 u) (hI : Inv n u) (c : Int32) {j : Nat} (hj : j < cS u) (k : P (rv_ u c j) q) : w_L_rank (nI j) c q P := by
  unfold w_L_rank
  unfold rv_ at k
  refine ⟨fun c0 => ⟨fun c1 => ⟨fun c2 => y_S0 h hI hj ?_, fun c2 => y_S4 h hI hj ?_⟩, fun c1 => y_S5 h hI hj ?_⟩, fun c0 => y_S1 h hI hj ?_⟩
  · rw [if_neg c0, if_neg c1, if_neg c2] at k
    exact k
  · rw [if_neg c0, if_neg c1, if_pos c2] at k
    exact k
  · rw [if_neg c0, if_pos c1] at k
    exact k
  · rw [if_pos c0] at k
    exact k
end ASKL

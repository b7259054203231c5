/-! the class, asked what can be answered: no throw is reached, nothing is made -/
def w_X9_checkRoom0 (x1 : Int32) (q : aS) (P : Int32 → aS → Prop) : Prop := w_X8_hasRoom x1 q (fun r2 q3 => ((¬ r2 = 0 → P 0 q3) ∧ (r2 = 0 → False)))
def w_X9_checkEcho0 (x1 : Int32) (q : aS) (P : Int32 → aS → Prop) : Prop := w_X8_hasEcho x1 q (fun r2 q3 => ((¬ r2 = 0 → P 0 q3) ∧ (r2 = 0 → False)))
def w_X9_checkSinger0 (x1 : Int32) (q : aS) (P : Int32 → aS → Prop) : Prop := w_X8_hasSinger x1 q (fun r2 q3 => ((¬ r2 = 0 → P 0 q3) ∧ (r2 = 0 → False)))
def w_X9_checkSingerInside0 (x1 : Int32) (q : aS) (P : Int32 → aS → Prop) : Prop := w_X9_checkSinger0 x1 q (fun _ q3 => w_X8_isInside x1 q3 (fun r4 q5 => ((¬ r4 = 0 → P 0 q5) ∧ (r4 = 0 → False))))
def w_X9_roomOf0 (x1 : Int32) (x2 : Int32) (q : aS) (P : Int32 → aS → Prop) : Prop := w_X9_checkRoom0 x1 q (fun _ q4 => ((x2 = 0 → (vp_in x1 6 ∧ P (q4.1 3 (Int32.toNatClampNeg x1)) q4)) ∧ (¬ x2 = 0 → ((x2 = 1 → (vp_in x1 6 ∧ P (q4.1 4 (Int32.toNatClampNeg x1)) q4)) ∧ (¬ x2 = 1 → ((x2 = 2 → w_X8_singersIn x1 q4 (fun r5 q6 => w_J6_bitCount_0f7a4 r5 q6 (fun r7 q8 => P r7 q8))) ∧ (¬ x2 = 2 → ((x2 = 3 → w_X8_echoesIn x1 q4 (fun r9 q10 => w_J6_bitCount_0f7a4 r9 q10 (fun r11 q12 => P r11 q12))) ∧ (¬ x2 = 3 → ((x2 = 4 → w_X8_echoesIn x1 q4 (fun r13 q14 => w_X8_freeIn x1 q14 (fun r15 q16 => w_J6_bitCount_0f7a4 (r13 &&& (r15 ^^^ (-1))) q16 (fun r17 q18 => P r17 q18)))) ∧ (¬ x2 = 4 → ((x2 = 5 → (vp_in x1 6 ∧ P (q4.1 5 (Int32.toNatClampNeg x1)) q4)) ∧ (¬ x2 = 5 → False)))))))))))))
def w_X9_echoOf0 (x1 : Int32) (x2 : Int32) (q : aS) (P : Int32 → aS → Prop) : Prop := w_X9_checkEcho0 x1 q (fun _ q4 => ((x2 = 0 → (vp_in x1 8 ∧ P (q4.1 7 (Int32.toNatClampNeg x1)) q4)) ∧ (¬ x2 = 0 → ((x2 = 1 → (vp_in x1 8 ∧ P (q4.1 8 (Int32.toNatClampNeg x1)) q4)) ∧ (¬ x2 = 1 → ((x2 = 2 → (vp_in x1 8 ∧ P (q4.1 9 (Int32.toNatClampNeg x1)) q4)) ∧ (¬ x2 = 2 → ((x2 = 3 → (vp_in x1 8 ∧ P (q4.1 10 (Int32.toNatClampNeg x1)) q4)) ∧ (¬ x2 = 3 → ((x2 = 4 → (vp_in x1 8 ∧ P (q4.1 11 (Int32.toNatClampNeg x1)) q4)) ∧ (¬ x2 = 4 → False)))))))))))
def w_X9_singerOf0 (x1 : Int32) (x2 : Int32) (q : aS) (P : Int32 → aS → Prop) : Prop := w_X9_checkSinger0 x1 q (fun _ q4 => ((x2 = 0 → (vp_in x1 6 ∧ P (q4.1 13 (Int32.toNatClampNeg x1)) q4)) ∧ (¬ x2 = 0 → ((x2 = 1 → (vp_in x1 6 ∧ P (q4.1 14 (Int32.toNatClampNeg x1)) q4)) ∧ (¬ x2 = 1 → ((x2 = 2 → (vp_in x1 6 ∧ P (q4.1 15 (Int32.toNatClampNeg x1)) q4)) ∧ (¬ x2 = 2 → ((x2 = 3 → w_X8_countLetTo x1 q4 (fun r5 q6 => P r5 q6)) ∧ (¬ x2 = 3 → ((x2 = 4 → (vp_in x1 6 ∧ P (q4.1 16 (Int32.toNatClampNeg x1)) q4)) ∧ (¬ x2 = 4 → ((x2 = 5 → (vp_in x1 6 ∧ P (q4.1 17 (Int32.toNatClampNeg x1)) q4)) ∧ (¬ x2 = 5 → ((x2 = 6 → w_X8_heldOf x1 q4 (fun r7 q8 => P r7 q8)) ∧ (¬ x2 = 6 → False)))))))))))))))
def w_X9_tones0 (x1 : Int32) (q : aS) (P : Int32 → aS → Prop) : Prop := w_X9_checkSingerInside0 x1 q (fun _ q3 => (vp_in x1 6 ∧ w_X8_tonesInRoom x1 (q3.1 15 (Int32.toNatClampNeg x1)) q3 (fun r4 q5 => P r4 q5)))
def w_X9_tonesAgain0 (x1 : Int32) (q : aS) (P : Int32 → aS → Prop) : Prop := w_X9_checkSingerInside0 x1 q (fun _ q3 => w_X8_tonesByStrength x1 q3 (fun r4 q5 => P r4 q5))
def w_X9_verses0 (x1 : Int32) (q : aS) (P : Int32 → aS → Prop) : Prop := w_X9_checkSingerInside0 x1 q (fun _ q3 => w_X8_versesInThought x1 q3 (fun r4 q5 => P r4 q5))
def w_X9_versesAgain0 (x1 : Int32) (q : aS) (P : Int32 → aS → Prop) : Prop := w_X9_checkSingerInside0 x1 q (fun _ q3 => w_X8_versesByEcho x1 q3 (fun r4 q5 => P r4 q5))
def w_X9_would0 (x1 : Int32) (x2 : Int32) (q : aS) (P : Int32 → aS → Prop) : Prop := w_X9_checkSinger0 x1 q (fun _ q4 => w_X9_checkRoom0 x2 q4 (fun _ q6 => w_X8_tonesInRoom x1 x2 q6 (fun r7 q8 => P r7 q8)))
def w_X9_canEnter0 (x1 : Int32) (x2 : Int32) (q : aS) (P : Int32 → aS → Prop) : Prop := w_X9_checkSinger0 x1 q (fun _ q4 => w_X9_checkRoom0 x2 q4 (fun _ q6 => (vp_in x1 6 ∧ (((q6.1 15 (Int32.toNatClampNeg x1)) = x2 → P 0 q6) ∧ (¬ (q6.1 15 (Int32.toNatClampNeg x1)) = x2 → w_X8_isFull x2 q6 (fun r7 q8 => ((¬ r7 = 0 → P 0 q8) ∧ (r7 = 0 → w_X8_isTooShyFor x1 x2 q8 (fun r9 q10 => ((¬ r9 = 0 → P 0 q10) ∧ (r9 = 0 → P 1 q10)))))))))))
def w_X9_canRent0 (x1 : Int32) (x2 : Int32) (q : aS) (P : Int32 → aS → Prop) : Prop := w_X9_checkSinger0 x1 q (fun _ q4 => w_X9_checkEcho0 x2 q4 (fun _ q6 => w_X8_isLet x2 q6 (fun r7 q8 => ((¬ r7 = 0 → P 0 q8) ∧ (r7 = 0 → w_X8_isWithEcho x1 x2 q8 (fun r9 q10 => ((r9 = 0 → P 0 q10) ∧ (¬ r9 = 0 → w_X8_canPayFor x1 x2 q10 (fun r11 q12 => ((r11 = 0 → P 0 q12) ∧ (¬ r11 = 0 → P 1 q12)))))))))))
def w_X9_others0 (x1 : Int32) (q : aS) (P : Int32 → aS → Prop) : Prop := w_X9_checkRoom0 x1 q (fun _ q3 => w_X8_singersIn x1 q3 (fun r4 q5 => P r4 q5))
def w_X9_free0 (x1 : Int32) (q : aS) (P : Int32 → aS → Prop) : Prop := w_X9_checkRoom0 x1 q (fun _ q3 => w_X8_freeIn x1 q3 (fun r4 q5 => P r4 q5))
def w_X9_dryIn0 (x1 : Int32) (q : aS) (P : Int32 → aS → Prop) : Prop := w_X9_checkRoom0 x1 q (fun _ q3 => (vp_in x1 6 ∧ P ((((q3.1 4 (Int32.toNatClampNeg x1)) + 2) - 1) / 2) q3))
def LX9_dampest0_2 (c1 : Int32) (P : Int32 → aS → Prop) (K : aS → Prop) : Nat → Int32 → aS → Prop
  | 0, _, _ => False
  | N + 1, v2, q => (((q.1 2 0) ≤ v2 → K  q) ∧ (¬ (q.1 2 0) ≤ v2 → w_X9_countRoomsAhead v2 q (fun r2 q3 => ((¬ r2 = c1 → ∀ x4 : Int32, x4 = v2 + 1 → (LX9_dampest0_2 c1 P K N) x4 q3) ∧ (r2 = c1 → P v2 q3)))))
def w_X9_dampest0 (x1 : Int32) (q : aS) (P : Int32 → aS → Prop) : Prop := ∃ M6, LX9_dampest0_2 x1 P (fun q5 => False) M6 0 q
def JX9_ranked0_9 (P : Int32 → aS → Prop) (q : aS) : Prop := False
def LX9_ranked0_21 (c1 : Int32) (c2 : Int32) (P : Int32 → aS → Prop) (K : aS → Prop) : Nat → Int32 → aS → Prop
  | 0, _, _ => False
  | N + 1, v3, q => (((q.1 12 0) ≤ v3 → K  q) ∧ (¬ (q.1 12 0) ≤ v3 → w_X9_countSingersAhead c1 v3 q (fun r3 q4 => ((¬ r3 = c2 → ∀ x5 : Int32, x5 = v3 + 1 → (LX9_ranked0_21 c1 c2 P K N) x5 q4) ∧ (r3 = c2 → P v3 q4)))))
def w_X9_ranked0 (x1 : Int32) (x2 : Int32) (q : aS) (P : Int32 → aS → Prop) : Prop := ((x1 < 0 → JX9_ranked0_9 P q) ∧ (¬ x1 < 0 → ((x1 ≤ 3 → ∃ M7, LX9_ranked0_21 x1 x2 P (fun q6 => False) M7 0 q) ∧ (¬ x1 ≤ 3 → JX9_ranked0_9 P q))))
def LX9_strongest0_2 (c1 : Int32) (P : Int32 → aS → Prop) (K : aS → Prop) : Nat → Int32 → aS → Prop
  | 0, _, _ => False
  | N + 1, v2, q => (((q.1 6 0) ≤ v2 → K  q) ∧ (¬ (q.1 6 0) ≤ v2 → w_X9_countEchoesAhead v2 q (fun r2 q3 => ((¬ r2 = c1 → ∀ x4 : Int32, x4 = v2 + 1 → (LX9_strongest0_2 c1 P K N) x4 q3) ∧ (r2 = c1 → P v2 q3)))))
def w_X9_strongest0 (x1 : Int32) (q : aS) (P : Int32 → aS → Prop) : Prop := ∃ M6, LX9_strongest0_2 x1 P (fun q5 => False) M6 0 q
def w_X9_account0 (x1 : Int32) (q : aS) (P : Int32 → aS → Prop) : Prop := ((x1 = 0 → P (q.1 2 0) q) ∧ (¬ x1 = 0 → ((x1 = 1 → P (q.1 6 0) q) ∧ (¬ x1 = 1 → ((x1 = 2 → P (q.1 12 0) q) ∧ (¬ x1 = 2 → ((x1 = 3 → w_X8_countLet q (fun r2 q3 => P r2 q3)) ∧ (¬ x1 = 3 → ((x1 = 4 → P (q.1 1 3) q) ∧ (¬ x1 = 4 → ((x1 = 5 → w_X8_dampOfAll q (fun r4 q5 => P r4 q5)) ∧ (¬ x1 = 5 → ((x1 = 6 → w_X8_versesOfAll q (fun r6 q7 => P r6 q7)) ∧ (¬ x1 = 6 → ((x1 = 7 → w_X8_tonesOfAll q (fun r8 q9 => P r8 q9)) ∧ (¬ x1 = 7 → ((x1 = 8 → P (q.1 1 4) q) ∧ (¬ x1 = 8 → ((x1 = 9 → P (q.1 1 5) q) ∧ (¬ x1 = 9 → ((x1 = 10 → P (q.1 1 6) q) ∧ (¬ x1 = 10 → ((x1 = 11 → w_X8_heldOfAll q (fun r10 q11 => P r10 q11)) ∧ (¬ x1 = 11 → ((x1 = 12 → P (q.1 190 1) q) ∧ (¬ x1 = 12 → ((x1 = 13 → P (q.1 52 2) q) ∧ (¬ x1 = 13 → False))))))))))))))))))))))))))))
def w_X9_meanDamp0 (q : aS) (P : UInt64 → aS → Prop) : Prop := ((¬ (q.1 2 0) = 0 → w_X8_dampOfAll q (fun r1 q2 => (vf_n64 (FP.ddiv (FP.i2d r1) (FP.i2d (q2.1 2 0))) ∧ P (FP.ddiv (FP.i2d r1) (FP.i2d (q2.1 2 0))) q2))) ∧ ((q.1 2 0) = 0 → False))
def w_X9_letShare0 (q : aS) (P : UInt32 → aS → Prop) : Prop := ((¬ (q.1 6 0) = 0 → w_X8_countLet q (fun r1 q2 => (vf_n32 (FP.fdiv (FP.i2f r1) (FP.i2f (q2.1 6 0))) ∧ P (FP.fdiv (FP.i2f r1) (FP.i2f (q2.1 6 0))) q2))) ∧ ((q.1 6 0) = 0 → False))
set_option maxRecDepth 20000 in
theorem t_X9_checkRoom0 {l : Launch} {g : aG} (hX : isX g) (hl : l.stackTraces = false) (x1 : Int32) (q : aS) (P : Int32 → aS → Prop) (h : w_X9_checkRoom0 x1 q P) : aMv l g yX9_checkRoom (aWs yX9_checkRoom cX9_checkRoom 2 none) 1 0 0 [.ref (gAd g 0), .int x1] q P (fun _ _ => False) := by
  refine aMv_of RX9 ⟨by decide +kernel, rfl⟩ (cat_all rfl) (Nat.le_of_ble_eq_true rfl) hl hX.cl (fun f hR hC hE => ?_)
  show AW f g 0 [some (.ref (gAd g 0)), some (.int x1)] [] q 0 0
  unfold w_X9_checkRoom0 at h
  refine a_aload_n (pc := 0) hC dX9_checkRoom_0 rfl ?_
  refine a_get (pc := 1) hC cl_X9 (oX_0 hX) 0 (by decide) tw_303 rfl dX9_checkRoom_1 ?_
  refine a_iload_n (pc := 4) hC dX9_checkRoom_4 rfl ?_
  refine a_callV (pc := 5) hC hR vm_X8_hasRoom tw_470 cl_X8 (oX_1 hX) ⟨(Nat.le_of_ble_eq_true rfl), (Nat.le_of_ble_eq_true rfl), (Nat.le_of_ble_eq_true rfl), (Nat.le_of_ble_eq_true rfl)⟩ dX9_checkRoom_5 (t_X8_hasRoom hX hC.tr _ _ _ h) rfl rfl rfl (Nat.le_of_ble_eq_true rfl) (fun r2 q3 h => ?_)
  have z_r2 := h.1
  replace h := h.2
  refine a_if_ne (pc := 8) (tgt := 22) hC dX9_checkRoom_8 (by decide) (fun c => ?_) (fun c => ?_)
  · replace h := h.1 c
    exact a_vret (pc := 22) hC hE h (Nat.le_of_ble_eq_true rfl) (Nat.le_of_ble_eq_true rfl) dX9_checkRoom_22
  · replace h := h.2 c
    exact h.elim
set_option maxRecDepth 20000 in
theorem t_X9_checkEcho0 {l : Launch} {g : aG} (hX : isX g) (hl : l.stackTraces = false) (x1 : Int32) (q : aS) (P : Int32 → aS → Prop) (h : w_X9_checkEcho0 x1 q P) : aMv l g yX9_checkEcho (aWs yX9_checkEcho cX9_checkEcho 2 none) 1 0 0 [.ref (gAd g 0), .int x1] q P (fun _ _ => False) := by
  refine aMv_of RX9 ⟨by decide +kernel, rfl⟩ (cat_all rfl) (Nat.le_of_ble_eq_true rfl) hl hX.cl (fun f hR hC hE => ?_)
  show AW f g 0 [some (.ref (gAd g 0)), some (.int x1)] [] q 0 0
  unfold w_X9_checkEcho0 at h
  refine a_aload_n (pc := 0) hC dX9_checkEcho_0 rfl ?_
  refine a_get (pc := 1) hC cl_X9 (oX_0 hX) 0 (by decide) tw_303 rfl dX9_checkEcho_1 ?_
  refine a_iload_n (pc := 4) hC dX9_checkEcho_4 rfl ?_
  refine a_callV (pc := 5) hC hR vm_X8_hasEcho tw_518 cl_X8 (oX_1 hX) ⟨(Nat.le_of_ble_eq_true rfl), (Nat.le_of_ble_eq_true rfl), (Nat.le_of_ble_eq_true rfl), (Nat.le_of_ble_eq_true rfl)⟩ dX9_checkEcho_5 (t_X8_hasEcho hX hC.tr _ _ _ h) rfl rfl rfl (Nat.le_of_ble_eq_true rfl) (fun r2 q3 h => ?_)
  have z_r2 := h.1
  replace h := h.2
  refine a_if_ne (pc := 8) (tgt := 22) hC dX9_checkEcho_8 (by decide) (fun c => ?_) (fun c => ?_)
  · replace h := h.1 c
    exact a_vret (pc := 22) hC hE h (Nat.le_of_ble_eq_true rfl) (Nat.le_of_ble_eq_true rfl) dX9_checkEcho_22
  · replace h := h.2 c
    exact h.elim
set_option maxRecDepth 20000 in
theorem t_X9_checkSinger0 {l : Launch} {g : aG} (hX : isX g) (hl : l.stackTraces = false) (x1 : Int32) (q : aS) (P : Int32 → aS → Prop) (h : w_X9_checkSinger0 x1 q P) : aMv l g yX9_checkSinger (aWs yX9_checkSinger cX9_checkSinger 2 none) 1 0 0 [.ref (gAd g 0), .int x1] q P (fun _ _ => False) := by
  refine aMv_of RX9 ⟨by decide +kernel, rfl⟩ (cat_all rfl) (Nat.le_of_ble_eq_true rfl) hl hX.cl (fun f hR hC hE => ?_)
  show AW f g 0 [some (.ref (gAd g 0)), some (.int x1)] [] q 0 0
  unfold w_X9_checkSinger0 at h
  refine a_aload_n (pc := 0) hC dX9_checkSinger_0 rfl ?_
  refine a_get (pc := 1) hC cl_X9 (oX_0 hX) 0 (by decide) tw_303 rfl dX9_checkSinger_1 ?_
  refine a_iload_n (pc := 4) hC dX9_checkSinger_4 rfl ?_
  refine a_callV (pc := 5) hC hR vm_X8_hasSinger tw_532 cl_X8 (oX_1 hX) ⟨(Nat.le_of_ble_eq_true rfl), (Nat.le_of_ble_eq_true rfl), (Nat.le_of_ble_eq_true rfl), (Nat.le_of_ble_eq_true rfl)⟩ dX9_checkSinger_5 (t_X8_hasSinger hX hC.tr _ _ _ h) rfl rfl rfl (Nat.le_of_ble_eq_true rfl) (fun r2 q3 h => ?_)
  have z_r2 := h.1
  replace h := h.2
  refine a_if_ne (pc := 8) (tgt := 22) hC dX9_checkSinger_8 (by decide) (fun c => ?_) (fun c => ?_)
  · replace h := h.1 c
    exact a_vret (pc := 22) hC hE h (Nat.le_of_ble_eq_true rfl) (Nat.le_of_ble_eq_true rfl) dX9_checkSinger_22
  · replace h := h.2 c
    exact h.elim
set_option maxRecDepth 20000 in
theorem t_X9_checkSingerInside0 {l : Launch} {g : aG} (hX : isX g) (hl : l.stackTraces = false) (x1 : Int32) (q : aS) (P : Int32 → aS → Prop) (h : w_X9_checkSingerInside0 x1 q P) : aMv l g yX9_checkSingerInside (aWs yX9_checkSingerInside cX9_checkSingerInside 2 none) 2 0 0 [.ref (gAd g 0), .int x1] q P (fun _ _ => False) := by
  refine aMv_of RX9 ⟨by decide +kernel, rfl⟩ (cat_all rfl) (Nat.le_of_ble_eq_true rfl) hl hX.cl (fun f hR hC hE => ?_)
  show AW f g 0 [some (.ref (gAd g 0)), some (.int x1)] [] q 0 0
  unfold w_X9_checkSingerInside0 at h
  refine a_aload_n (pc := 0) hC dX9_checkSingerInside_0 rfl ?_
  refine a_iload_n (pc := 1) hC dX9_checkSingerInside_1 rfl ?_
  refine a_callVv (pc := 2) hC hR vm_X9_checkSinger tw_528 cl_X9 (oX_0 hX) ⟨(Nat.le_of_ble_eq_true rfl), (Nat.le_of_ble_eq_true rfl), (Nat.le_of_ble_eq_true rfl), (Nat.le_of_ble_eq_true rfl)⟩ dX9_checkSingerInside_2 (t_X9_checkSinger0 hX hC.tr _ _ _ h) rfl rfl rfl (Nat.le_of_ble_eq_true rfl) (fun q3 h => ?_)
  refine a_aload_n (pc := 5) hC dX9_checkSingerInside_5 rfl ?_
  refine a_get (pc := 6) hC cl_X9 (oX_0 hX) 0 (by decide) tw_303 rfl dX9_checkSingerInside_6 ?_
  refine a_iload_n (pc := 9) hC dX9_checkSingerInside_9 rfl ?_
  refine a_callV (pc := 10) hC hR vm_X8_isInside tw_548 cl_X8 (oX_1 hX) ⟨(Nat.le_of_ble_eq_true rfl), (Nat.le_of_ble_eq_true rfl), (Nat.le_of_ble_eq_true rfl), (Nat.le_of_ble_eq_true rfl)⟩ dX9_checkSingerInside_10 (t_X8_isInside hX hC.tr _ _ _ h) rfl rfl rfl (Nat.le_of_ble_eq_true rfl) (fun r4 q5 h => ?_)
  have z_r4 := h.1
  replace h := h.2
  refine a_if_ne (pc := 13) (tgt := 27) hC dX9_checkSingerInside_13 (by decide) (fun c => ?_) (fun c => ?_)
  · replace h := h.1 c
    exact a_vret (pc := 27) hC hE h (Nat.le_of_ble_eq_true rfl) (Nat.le_of_ble_eq_true rfl) dX9_checkSingerInside_27
  · replace h := h.2 c
    exact h.elim
set_option maxRecDepth 20000 in
theorem t_X9_roomOf0 {l : Launch} {g : aG} (hX : isX g) (hl : l.stackTraces = false) (x1 : Int32) (x2 : Int32) (q : aS) (P : Int32 → aS → Prop) (h : w_X9_roomOf0 x1 x2 q P) : aMi l g yX9_roomOf (aWs yX9_roomOf cX9_roomOf 3 (some .int)) 2 0 0 [.ref (gAd g 0), .int x1, .int x2] q P (fun _ _ => False) := by
  refine aMi_of RX9 ⟨by decide +kernel, rfl⟩ (cat_all rfl) (Nat.le_of_ble_eq_true rfl) hl hX.cl (fun f hR hC hE => ?_)
  show AW f g 0 [some (.ref (gAd g 0)), some (.int x1), some (.int x2)] [] q 0 0
  unfold w_X9_roomOf0 at h
  refine a_aload_n (pc := 0) hC dX9_roomOf_0 rfl ?_
  refine a_iload_n (pc := 1) hC dX9_roomOf_1 rfl ?_
  refine a_callVv (pc := 2) hC hR vm_X9_checkRoom tw_466 cl_X9 (oX_0 hX) ⟨(Nat.le_of_ble_eq_true rfl), (Nat.le_of_ble_eq_true rfl), (Nat.le_of_ble_eq_true rfl), (Nat.le_of_ble_eq_true rfl)⟩ dX9_roomOf_2 (t_X9_checkRoom0 hX hC.tr _ _ _ h) rfl rfl rfl (Nat.le_of_ble_eq_true rfl) (fun q4 h => ?_)
  refine a_iload_n (pc := 5) hC dX9_roomOf_5 rfl ?_
  refine tab_or (fun c0 => ?_) (fun c0 => ?_) h
  · intro h
    refine a_tabIn (pc := 6) (tgt := 44) hC dX9_roomOf_6 (by rw [c0]; decide) (by rw [c0]; decide) (by rw [c0]; rfl) (by decide) ?_
    refine a_aload_n (pc := 44) hC dX9_roomOf_44 rfl ?_
    refine a_get (pc := 45) hC cl_X9 (oX_0 hX) 0 (by decide) tw_303 rfl dX9_roomOf_45 ?_
    refine a_get (pc := 48) hC cl_X8 (oX_1 hX) 0 (by decide) tw_151 rfl dX9_roomOf_48 ?_
    refine a_get (pc := 51) hC cl_X6 (oX_2 hX) 1 (by decide) tw_59 rfl dX9_roomOf_51 ?_
    refine a_iload_n (pc := 54) hC dX9_roomOf_54 rfl ?_
    refine a_iald (pc := 55) hC (oX_3 hX) h.1 dX9_roomOf_55 ?_
    replace h := h.2
    exact a_iret (pc := 56) hC hE h (Nat.le_of_ble_eq_true rfl) (Nat.le_of_ble_eq_true rfl) dX9_roomOf_56
  intro h
  refine tab_or (fun c1 => ?_) (fun c1 => ?_) h
  · intro h
    refine a_tabIn (pc := 6) (tgt := 57) hC dX9_roomOf_6 (by rw [c1]; decide) (by rw [c1]; decide) (by rw [c1]; rfl) (by decide) ?_
    refine a_aload_n (pc := 57) hC dX9_roomOf_57 rfl ?_
    refine a_get (pc := 58) hC cl_X9 (oX_0 hX) 0 (by decide) tw_303 rfl dX9_roomOf_58 ?_
    refine a_get (pc := 61) hC cl_X8 (oX_1 hX) 0 (by decide) tw_151 rfl dX9_roomOf_61 ?_
    refine a_get (pc := 64) hC cl_X6 (oX_2 hX) 2 (by decide) tw_61 rfl dX9_roomOf_64 ?_
    refine a_iload_n (pc := 67) hC dX9_roomOf_67 rfl ?_
    refine a_iald (pc := 68) hC (oX_4 hX) h.1 dX9_roomOf_68 ?_
    replace h := h.2
    exact a_iret (pc := 69) hC hE h (Nat.le_of_ble_eq_true rfl) (Nat.le_of_ble_eq_true rfl) dX9_roomOf_69
  intro h
  refine tab_or (fun c2 => ?_) (fun c2 => ?_) h
  · intro h
    refine a_tabIn (pc := 6) (tgt := 70) hC dX9_roomOf_6 (by rw [c2]; decide) (by rw [c2]; decide) (by rw [c2]; rfl) (by decide) ?_
    refine a_aload_n (pc := 70) hC dX9_roomOf_70 rfl ?_
    refine a_get (pc := 71) hC cl_X9 (oX_0 hX) 0 (by decide) tw_303 rfl dX9_roomOf_71 ?_
    refine a_iload_n (pc := 74) hC dX9_roomOf_74 rfl ?_
    refine a_callV (pc := 75) hC hR vm_X8_singersIn tw_487 cl_X8 (oX_1 hX) ⟨(Nat.le_of_ble_eq_true rfl), (Nat.le_of_ble_eq_true rfl), (Nat.le_of_ble_eq_true rfl), (Nat.le_of_ble_eq_true rfl)⟩ dX9_roomOf_75 (t_X8_singersIn hX hC.tr _ _ _ h) rfl rfl rfl (Nat.le_of_ble_eq_true rfl) (fun r5 q6 h => ?_)
    refine a_callS (pc := 78) hC hR sm_J6_bitCount_0f7a4 tw_491 ⟨(Nat.le_of_ble_eq_true rfl), (Nat.le_of_ble_eq_true rfl), (Nat.le_of_ble_eq_true rfl), (Nat.le_of_ble_eq_true rfl)⟩ dX9_roomOf_78 (t_J6_bitCount_0f7a4 hX.cl hC.tr _ _ _ h) rfl rfl rfl (Nat.le_of_ble_eq_true rfl) (fun r7 q8 h => ?_)
    exact a_iret (pc := 81) hC hE h (Nat.le_of_ble_eq_true rfl) (Nat.le_of_ble_eq_true rfl) dX9_roomOf_81
  intro h
  refine tab_or (fun c3 => ?_) (fun c3 => ?_) h
  · intro h
    refine a_tabIn (pc := 6) (tgt := 82) hC dX9_roomOf_6 (by rw [c3]; decide) (by rw [c3]; decide) (by rw [c3]; rfl) (by decide) ?_
    refine a_aload_n (pc := 82) hC dX9_roomOf_82 rfl ?_
    refine a_get (pc := 83) hC cl_X9 (oX_0 hX) 0 (by decide) tw_303 rfl dX9_roomOf_83 ?_
    refine a_iload_n (pc := 86) hC dX9_roomOf_86 rfl ?_
    refine a_callV (pc := 87) hC hR vm_X8_echoesIn tw_497 cl_X8 (oX_1 hX) ⟨(Nat.le_of_ble_eq_true rfl), (Nat.le_of_ble_eq_true rfl), (Nat.le_of_ble_eq_true rfl), (Nat.le_of_ble_eq_true rfl)⟩ dX9_roomOf_87 (t_X8_echoesIn hX hC.tr _ _ _ h) rfl rfl rfl (Nat.le_of_ble_eq_true rfl) (fun r9 q10 h => ?_)
    refine a_callS (pc := 90) hC hR sm_J6_bitCount_0f7a4 tw_491 ⟨(Nat.le_of_ble_eq_true rfl), (Nat.le_of_ble_eq_true rfl), (Nat.le_of_ble_eq_true rfl), (Nat.le_of_ble_eq_true rfl)⟩ dX9_roomOf_90 (t_J6_bitCount_0f7a4 hX.cl hC.tr _ _ _ h) rfl rfl rfl (Nat.le_of_ble_eq_true rfl) (fun r11 q12 h => ?_)
    exact a_iret (pc := 93) hC hE h (Nat.le_of_ble_eq_true rfl) (Nat.le_of_ble_eq_true rfl) dX9_roomOf_93
  intro h
  refine tab_or (fun c4 => ?_) (fun c4 => ?_) h
  · intro h
    refine a_tabIn (pc := 6) (tgt := 94) hC dX9_roomOf_6 (by rw [c4]; decide) (by rw [c4]; decide) (by rw [c4]; rfl) (by decide) ?_
    refine a_aload_n (pc := 94) hC dX9_roomOf_94 rfl ?_
    refine a_get (pc := 95) hC cl_X9 (oX_0 hX) 0 (by decide) tw_303 rfl dX9_roomOf_95 ?_
    refine a_iload_n (pc := 98) hC dX9_roomOf_98 rfl ?_
    refine a_callV (pc := 99) hC hR vm_X8_echoesIn tw_497 cl_X8 (oX_1 hX) ⟨(Nat.le_of_ble_eq_true rfl), (Nat.le_of_ble_eq_true rfl), (Nat.le_of_ble_eq_true rfl), (Nat.le_of_ble_eq_true rfl)⟩ dX9_roomOf_99 (t_X8_echoesIn hX hC.tr _ _ _ h) rfl rfl rfl (Nat.le_of_ble_eq_true rfl) (fun r13 q14 h => ?_)
    refine a_aload_n (pc := 102) hC dX9_roomOf_102 rfl ?_
    refine a_get (pc := 103) hC cl_X9 (oX_0 hX) 0 (by decide) tw_303 rfl dX9_roomOf_103 ?_
    refine a_iload_n (pc := 106) hC dX9_roomOf_106 rfl ?_
    refine a_callV (pc := 107) hC hR vm_X8_freeIn tw_501 cl_X8 (oX_1 hX) ⟨(Nat.le_of_ble_eq_true rfl), (Nat.le_of_ble_eq_true rfl), (Nat.le_of_ble_eq_true rfl), (Nat.le_of_ble_eq_true rfl)⟩ dX9_roomOf_107 (t_X8_freeIn hX hC.tr _ _ _ h) rfl rfl rfl (Nat.le_of_ble_eq_true rfl) (fun r15 q16 h => ?_)
    refine a_iconst (pc := 110) hC dX9_roomOf_110 (v := (-1)) rfl ?_
    refine a_ixor (pc := 111) hC dX9_roomOf_111 ?_
    refine a_iand (pc := 112) hC dX9_roomOf_112 ?_
    refine a_callS (pc := 113) hC hR sm_J6_bitCount_0f7a4 tw_491 ⟨(Nat.le_of_ble_eq_true rfl), (Nat.le_of_ble_eq_true rfl), (Nat.le_of_ble_eq_true rfl), (Nat.le_of_ble_eq_true rfl)⟩ dX9_roomOf_113 (t_J6_bitCount_0f7a4 hX.cl hC.tr _ _ _ h) rfl rfl rfl (Nat.le_of_ble_eq_true rfl) (fun r17 q18 h => ?_)
    exact a_iret (pc := 116) hC hE h (Nat.le_of_ble_eq_true rfl) (Nat.le_of_ble_eq_true rfl) dX9_roomOf_116
  intro h
  refine tab_or (fun c5 => ?_) (fun c5 => ?_) h
  · intro h
    refine a_tabIn (pc := 6) (tgt := 117) hC dX9_roomOf_6 (by rw [c5]; decide) (by rw [c5]; decide) (by rw [c5]; rfl) (by decide) ?_
    refine a_aload_n (pc := 117) hC dX9_roomOf_117 rfl ?_
    refine a_get (pc := 118) hC cl_X9 (oX_0 hX) 0 (by decide) tw_303 rfl dX9_roomOf_118 ?_
    refine a_get (pc := 121) hC cl_X8 (oX_1 hX) 0 (by decide) tw_151 rfl dX9_roomOf_121 ?_
    refine a_get (pc := 124) hC cl_X6 (oX_2 hX) 3 (by decide) tw_64 rfl dX9_roomOf_124 ?_
    refine a_iload_n (pc := 127) hC dX9_roomOf_127 rfl ?_
    refine a_iald (pc := 128) hC (oX_5 hX) h.1 dX9_roomOf_128 ?_
    replace h := h.2
    exact a_iret (pc := 129) hC hE h (Nat.le_of_ble_eq_true rfl) (Nat.le_of_ble_eq_true rfl) dX9_roomOf_129
  intro h
  refine a_tabOut (pc := 6) (tgt := 130) hC dX9_roomOf_6 (by have e0 := tab_ne (z := 0) rfl c0; have e1 := tab_ne (z := 1) rfl c1; have e2 := tab_ne (z := 2) rfl c2; have e3 := tab_ne (z := 3) rfl c3; have e4 := tab_ne (z := 4) rfl c4; have e5 := tab_ne (z := 5) rfl c5; omega) (by decide) ?_
  exact h.elim
set_option maxRecDepth 20000 in
theorem t_X9_echoOf0 {l : Launch} {g : aG} (hX : isX g) (hl : l.stackTraces = false) (x1 : Int32) (x2 : Int32) (q : aS) (P : Int32 → aS → Prop) (h : w_X9_echoOf0 x1 x2 q P) : aMi l g yX9_echoOf (aWs yX9_echoOf cX9_echoOf 3 (some .int)) 2 0 0 [.ref (gAd g 0), .int x1, .int x2] q P (fun _ _ => False) := by
  refine aMi_of RX9 ⟨by decide +kernel, rfl⟩ (cat_all rfl) (Nat.le_of_ble_eq_true rfl) hl hX.cl (fun f hR hC hE => ?_)
  show AW f g 0 [some (.ref (gAd g 0)), some (.int x1), some (.int x2)] [] q 0 0
  unfold w_X9_echoOf0 at h
  refine a_aload_n (pc := 0) hC dX9_echoOf_0 rfl ?_
  refine a_iload_n (pc := 1) hC dX9_echoOf_1 rfl ?_
  refine a_callVv (pc := 2) hC hR vm_X9_checkEcho tw_514 cl_X9 (oX_0 hX) ⟨(Nat.le_of_ble_eq_true rfl), (Nat.le_of_ble_eq_true rfl), (Nat.le_of_ble_eq_true rfl), (Nat.le_of_ble_eq_true rfl)⟩ dX9_echoOf_2 (t_X9_checkEcho0 hX hC.tr _ _ _ h) rfl rfl rfl (Nat.le_of_ble_eq_true rfl) (fun q4 h => ?_)
  refine a_iload_n (pc := 5) hC dX9_echoOf_5 rfl ?_
  refine tab_or (fun c0 => ?_) (fun c0 => ?_) h
  · intro h
    refine a_tabIn (pc := 6) (tgt := 40) hC dX9_echoOf_6 (by rw [c0]; decide) (by rw [c0]; decide) (by rw [c0]; rfl) (by decide) ?_
    refine a_aload_n (pc := 40) hC dX9_echoOf_40 rfl ?_
    refine a_get (pc := 41) hC cl_X9 (oX_0 hX) 0 (by decide) tw_303 rfl dX9_echoOf_41 ?_
    refine a_get (pc := 44) hC cl_X8 (oX_1 hX) 1 (by decide) tw_153 rfl dX9_echoOf_44 ?_
    refine a_get (pc := 47) hC cl_X1 (oX_6 hX) 1 (by decide) tw_87 rfl dX9_echoOf_47 ?_
    refine a_iload_n (pc := 50) hC dX9_echoOf_50 rfl ?_
    refine a_iald (pc := 51) hC (oX_7 hX) h.1 dX9_echoOf_51 ?_
    replace h := h.2
    exact a_iret (pc := 52) hC hE h (Nat.le_of_ble_eq_true rfl) (Nat.le_of_ble_eq_true rfl) dX9_echoOf_52
  intro h
  refine tab_or (fun c1 => ?_) (fun c1 => ?_) h
  · intro h
    refine a_tabIn (pc := 6) (tgt := 53) hC dX9_echoOf_6 (by rw [c1]; decide) (by rw [c1]; decide) (by rw [c1]; rfl) (by decide) ?_
    refine a_aload_n (pc := 53) hC dX9_echoOf_53 rfl ?_
    refine a_get (pc := 54) hC cl_X9 (oX_0 hX) 0 (by decide) tw_303 rfl dX9_echoOf_54 ?_
    refine a_get (pc := 57) hC cl_X8 (oX_1 hX) 1 (by decide) tw_153 rfl dX9_echoOf_57 ?_
    refine a_get (pc := 60) hC cl_X1 (oX_6 hX) 2 (by decide) tw_90 rfl dX9_echoOf_60 ?_
    refine a_iload_n (pc := 63) hC dX9_echoOf_63 rfl ?_
    refine a_iald (pc := 64) hC (oX_8 hX) h.1 dX9_echoOf_64 ?_
    replace h := h.2
    exact a_iret (pc := 65) hC hE h (Nat.le_of_ble_eq_true rfl) (Nat.le_of_ble_eq_true rfl) dX9_echoOf_65
  intro h
  refine tab_or (fun c2 => ?_) (fun c2 => ?_) h
  · intro h
    refine a_tabIn (pc := 6) (tgt := 66) hC dX9_echoOf_6 (by rw [c2]; decide) (by rw [c2]; decide) (by rw [c2]; rfl) (by decide) ?_
    refine a_aload_n (pc := 66) hC dX9_echoOf_66 rfl ?_
    refine a_get (pc := 67) hC cl_X9 (oX_0 hX) 0 (by decide) tw_303 rfl dX9_echoOf_67 ?_
    refine a_get (pc := 70) hC cl_X8 (oX_1 hX) 1 (by decide) tw_153 rfl dX9_echoOf_70 ?_
    refine a_get (pc := 73) hC cl_X1 (oX_6 hX) 3 (by decide) tw_93 rfl dX9_echoOf_73 ?_
    refine a_iload_n (pc := 76) hC dX9_echoOf_76 rfl ?_
    refine a_iald (pc := 77) hC (oX_9 hX) h.1 dX9_echoOf_77 ?_
    replace h := h.2
    exact a_iret (pc := 78) hC hE h (Nat.le_of_ble_eq_true rfl) (Nat.le_of_ble_eq_true rfl) dX9_echoOf_78
  intro h
  refine tab_or (fun c3 => ?_) (fun c3 => ?_) h
  · intro h
    refine a_tabIn (pc := 6) (tgt := 79) hC dX9_echoOf_6 (by rw [c3]; decide) (by rw [c3]; decide) (by rw [c3]; rfl) (by decide) ?_
    refine a_aload_n (pc := 79) hC dX9_echoOf_79 rfl ?_
    refine a_get (pc := 80) hC cl_X9 (oX_0 hX) 0 (by decide) tw_303 rfl dX9_echoOf_80 ?_
    refine a_get (pc := 83) hC cl_X8 (oX_1 hX) 1 (by decide) tw_153 rfl dX9_echoOf_83 ?_
    refine a_get (pc := 86) hC cl_X1 (oX_6 hX) 4 (by decide) tw_95 rfl dX9_echoOf_86 ?_
    refine a_iload_n (pc := 89) hC dX9_echoOf_89 rfl ?_
    refine a_iald (pc := 90) hC (oX_10 hX) h.1 dX9_echoOf_90 ?_
    replace h := h.2
    exact a_iret (pc := 91) hC hE h (Nat.le_of_ble_eq_true rfl) (Nat.le_of_ble_eq_true rfl) dX9_echoOf_91
  intro h
  refine tab_or (fun c4 => ?_) (fun c4 => ?_) h
  · intro h
    refine a_tabIn (pc := 6) (tgt := 92) hC dX9_echoOf_6 (by rw [c4]; decide) (by rw [c4]; decide) (by rw [c4]; rfl) (by decide) ?_
    refine a_aload_n (pc := 92) hC dX9_echoOf_92 rfl ?_
    refine a_get (pc := 93) hC cl_X9 (oX_0 hX) 0 (by decide) tw_303 rfl dX9_echoOf_93 ?_
    refine a_get (pc := 96) hC cl_X8 (oX_1 hX) 1 (by decide) tw_153 rfl dX9_echoOf_96 ?_
    refine a_get (pc := 99) hC cl_X1 (oX_6 hX) 5 (by decide) tw_98 rfl dX9_echoOf_99 ?_
    refine a_iload_n (pc := 102) hC dX9_echoOf_102 rfl ?_
    refine a_iald (pc := 103) hC (oX_11 hX) h.1 dX9_echoOf_103 ?_
    replace h := h.2
    exact a_iret (pc := 104) hC hE h (Nat.le_of_ble_eq_true rfl) (Nat.le_of_ble_eq_true rfl) dX9_echoOf_104
  intro h
  refine a_tabOut (pc := 6) (tgt := 105) hC dX9_echoOf_6 (by have e0 := tab_ne (z := 0) rfl c0; have e1 := tab_ne (z := 1) rfl c1; have e2 := tab_ne (z := 2) rfl c2; have e3 := tab_ne (z := 3) rfl c3; have e4 := tab_ne (z := 4) rfl c4; omega) (by decide) ?_
  exact h.elim
set_option maxRecDepth 20000 in
theorem t_X9_singerOf0 {l : Launch} {g : aG} (hX : isX g) (hl : l.stackTraces = false) (x1 : Int32) (x2 : Int32) (q : aS) (P : Int32 → aS → Prop) (h : w_X9_singerOf0 x1 x2 q P) : aMi l g yX9_singerOf (aWs yX9_singerOf cX9_singerOf 3 (some .int)) 2 0 0 [.ref (gAd g 0), .int x1, .int x2] q P (fun _ _ => False) := by
  refine aMi_of RX9 ⟨by decide +kernel, rfl⟩ (cat_all rfl) (Nat.le_of_ble_eq_true rfl) hl hX.cl (fun f hR hC hE => ?_)
  show AW f g 0 [some (.ref (gAd g 0)), some (.int x1), some (.int x2)] [] q 0 0
  unfold w_X9_singerOf0 at h
  refine a_aload_n (pc := 0) hC dX9_singerOf_0 rfl ?_
  refine a_iload_n (pc := 1) hC dX9_singerOf_1 rfl ?_
  refine a_callVv (pc := 2) hC hR vm_X9_checkSinger tw_528 cl_X9 (oX_0 hX) ⟨(Nat.le_of_ble_eq_true rfl), (Nat.le_of_ble_eq_true rfl), (Nat.le_of_ble_eq_true rfl), (Nat.le_of_ble_eq_true rfl)⟩ dX9_singerOf_2 (t_X9_checkSinger0 hX hC.tr _ _ _ h) rfl rfl rfl (Nat.le_of_ble_eq_true rfl) (fun q4 h => ?_)
  refine a_iload_n (pc := 5) hC dX9_singerOf_5 rfl ?_
  refine tab_or (fun c0 => ?_) (fun c0 => ?_) h
  · intro h
    refine a_tabIn (pc := 6) (tgt := 48) hC dX9_singerOf_6 (by rw [c0]; decide) (by rw [c0]; decide) (by rw [c0]; rfl) (by decide) ?_
    refine a_aload_n (pc := 48) hC dX9_singerOf_48 rfl ?_
    refine a_get (pc := 49) hC cl_X9 (oX_0 hX) 0 (by decide) tw_303 rfl dX9_singerOf_49 ?_
    refine a_get (pc := 52) hC cl_X8 (oX_1 hX) 2 (by decide) tw_155 rfl dX9_singerOf_52 ?_
    refine a_get (pc := 55) hC cl_X7 (oX_12 hX) 1 (by decide) tw_124 rfl dX9_singerOf_55 ?_
    refine a_iload_n (pc := 58) hC dX9_singerOf_58 rfl ?_
    refine a_iald (pc := 59) hC (oX_13 hX) h.1 dX9_singerOf_59 ?_
    replace h := h.2
    exact a_iret (pc := 60) hC hE h (Nat.le_of_ble_eq_true rfl) (Nat.le_of_ble_eq_true rfl) dX9_singerOf_60
  intro h
  refine tab_or (fun c1 => ?_) (fun c1 => ?_) h
  · intro h
    refine a_tabIn (pc := 6) (tgt := 61) hC dX9_singerOf_6 (by rw [c1]; decide) (by rw [c1]; decide) (by rw [c1]; rfl) (by decide) ?_
    refine a_aload_n (pc := 61) hC dX9_singerOf_61 rfl ?_
    refine a_get (pc := 62) hC cl_X9 (oX_0 hX) 0 (by decide) tw_303 rfl dX9_singerOf_62 ?_
    refine a_get (pc := 65) hC cl_X8 (oX_1 hX) 2 (by decide) tw_155 rfl dX9_singerOf_65 ?_
    refine a_get (pc := 68) hC cl_X7 (oX_12 hX) 2 (by decide) tw_127 rfl dX9_singerOf_68 ?_
    refine a_iload_n (pc := 71) hC dX9_singerOf_71 rfl ?_
    refine a_iald (pc := 72) hC (oX_14 hX) h.1 dX9_singerOf_72 ?_
    replace h := h.2
    exact a_iret (pc := 73) hC hE h (Nat.le_of_ble_eq_true rfl) (Nat.le_of_ble_eq_true rfl) dX9_singerOf_73
  intro h
  refine tab_or (fun c2 => ?_) (fun c2 => ?_) h
  · intro h
    refine a_tabIn (pc := 6) (tgt := 74) hC dX9_singerOf_6 (by rw [c2]; decide) (by rw [c2]; decide) (by rw [c2]; rfl) (by decide) ?_
    refine a_aload_n (pc := 74) hC dX9_singerOf_74 rfl ?_
    refine a_get (pc := 75) hC cl_X9 (oX_0 hX) 0 (by decide) tw_303 rfl dX9_singerOf_75 ?_
    refine a_get (pc := 78) hC cl_X8 (oX_1 hX) 2 (by decide) tw_155 rfl dX9_singerOf_78 ?_
    refine a_get (pc := 81) hC cl_X7 (oX_12 hX) 3 (by decide) tw_130 rfl dX9_singerOf_81 ?_
    refine a_iload_n (pc := 84) hC dX9_singerOf_84 rfl ?_
    refine a_iald (pc := 85) hC (oX_15 hX) h.1 dX9_singerOf_85 ?_
    replace h := h.2
    exact a_iret (pc := 86) hC hE h (Nat.le_of_ble_eq_true rfl) (Nat.le_of_ble_eq_true rfl) dX9_singerOf_86
  intro h
  refine tab_or (fun c3 => ?_) (fun c3 => ?_) h
  · intro h
    refine a_tabIn (pc := 6) (tgt := 87) hC dX9_singerOf_6 (by rw [c3]; decide) (by rw [c3]; decide) (by rw [c3]; rfl) (by decide) ?_
    refine a_aload_n (pc := 87) hC dX9_singerOf_87 rfl ?_
    refine a_get (pc := 88) hC cl_X9 (oX_0 hX) 0 (by decide) tw_303 rfl dX9_singerOf_88 ?_
    refine a_iload_n (pc := 91) hC dX9_singerOf_91 rfl ?_
    refine a_callV (pc := 92) hC hR vm_X8_countLetTo tw_537 cl_X8 (oX_1 hX) ⟨(Nat.le_of_ble_eq_true rfl), (Nat.le_of_ble_eq_true rfl), (Nat.le_of_ble_eq_true rfl), (Nat.le_of_ble_eq_true rfl)⟩ dX9_singerOf_92 (t_X8_countLetTo hX hC.tr _ _ _ h) rfl rfl rfl (Nat.le_of_ble_eq_true rfl) (fun r5 q6 h => ?_)
    exact a_iret (pc := 95) hC hE h (Nat.le_of_ble_eq_true rfl) (Nat.le_of_ble_eq_true rfl) dX9_singerOf_95
  intro h
  refine tab_or (fun c4 => ?_) (fun c4 => ?_) h
  · intro h
    refine a_tabIn (pc := 6) (tgt := 96) hC dX9_singerOf_6 (by rw [c4]; decide) (by rw [c4]; decide) (by rw [c4]; rfl) (by decide) ?_
    refine a_aload_n (pc := 96) hC dX9_singerOf_96 rfl ?_
    refine a_get (pc := 97) hC cl_X9 (oX_0 hX) 0 (by decide) tw_303 rfl dX9_singerOf_97 ?_
    refine a_get (pc := 100) hC cl_X8 (oX_1 hX) 2 (by decide) tw_155 rfl dX9_singerOf_100 ?_
    refine a_get (pc := 103) hC cl_X7 (oX_12 hX) 4 (by decide) tw_132 rfl dX9_singerOf_103 ?_
    refine a_iload_n (pc := 106) hC dX9_singerOf_106 rfl ?_
    refine a_iald (pc := 107) hC (oX_16 hX) h.1 dX9_singerOf_107 ?_
    replace h := h.2
    exact a_iret (pc := 108) hC hE h (Nat.le_of_ble_eq_true rfl) (Nat.le_of_ble_eq_true rfl) dX9_singerOf_108
  intro h
  refine tab_or (fun c5 => ?_) (fun c5 => ?_) h
  · intro h
    refine a_tabIn (pc := 6) (tgt := 109) hC dX9_singerOf_6 (by rw [c5]; decide) (by rw [c5]; decide) (by rw [c5]; rfl) (by decide) ?_
    refine a_aload_n (pc := 109) hC dX9_singerOf_109 rfl ?_
    refine a_get (pc := 110) hC cl_X9 (oX_0 hX) 0 (by decide) tw_303 rfl dX9_singerOf_110 ?_
    refine a_get (pc := 113) hC cl_X8 (oX_1 hX) 2 (by decide) tw_155 rfl dX9_singerOf_113 ?_
    refine a_get (pc := 116) hC cl_X7 (oX_12 hX) 5 (by decide) tw_135 rfl dX9_singerOf_116 ?_
    refine a_iload_n (pc := 119) hC dX9_singerOf_119 rfl ?_
    refine a_iald (pc := 120) hC (oX_17 hX) h.1 dX9_singerOf_120 ?_
    replace h := h.2
    exact a_iret (pc := 121) hC hE h (Nat.le_of_ble_eq_true rfl) (Nat.le_of_ble_eq_true rfl) dX9_singerOf_121
  intro h
  refine tab_or (fun c6 => ?_) (fun c6 => ?_) h
  · intro h
    refine a_tabIn (pc := 6) (tgt := 122) hC dX9_singerOf_6 (by rw [c6]; decide) (by rw [c6]; decide) (by rw [c6]; rfl) (by decide) ?_
    refine a_aload_n (pc := 122) hC dX9_singerOf_122 rfl ?_
    refine a_get (pc := 123) hC cl_X9 (oX_0 hX) 0 (by decide) tw_303 rfl dX9_singerOf_123 ?_
    refine a_iload_n (pc := 126) hC dX9_singerOf_126 rfl ?_
    refine a_callV (pc := 127) hC hR vm_X8_heldOf tw_538 cl_X8 (oX_1 hX) ⟨(Nat.le_of_ble_eq_true rfl), (Nat.le_of_ble_eq_true rfl), (Nat.le_of_ble_eq_true rfl), (Nat.le_of_ble_eq_true rfl)⟩ dX9_singerOf_127 (t_X8_heldOf hX hC.tr _ _ _ h) rfl rfl rfl (Nat.le_of_ble_eq_true rfl) (fun r7 q8 h => ?_)
    exact a_iret (pc := 130) hC hE h (Nat.le_of_ble_eq_true rfl) (Nat.le_of_ble_eq_true rfl) dX9_singerOf_130
  intro h
  refine a_tabOut (pc := 6) (tgt := 131) hC dX9_singerOf_6 (by have e0 := tab_ne (z := 0) rfl c0; have e1 := tab_ne (z := 1) rfl c1; have e2 := tab_ne (z := 2) rfl c2; have e3 := tab_ne (z := 3) rfl c3; have e4 := tab_ne (z := 4) rfl c4; have e5 := tab_ne (z := 5) rfl c5; have e6 := tab_ne (z := 6) rfl c6; omega) (by decide) ?_
  exact h.elim
set_option maxRecDepth 20000 in
theorem t_X9_tones0 {l : Launch} {g : aG} (hX : isX g) (hl : l.stackTraces = false) (x1 : Int32) (q : aS) (P : Int32 → aS → Prop) (h : w_X9_tones0 x1 q P) : aMi l g yX9_tones (aWs yX9_tones cX9_tones 2 (some .int)) 3 0 0 [.ref (gAd g 0), .int x1] q P (fun _ _ => False) := by
  refine aMi_of RX9 ⟨by decide +kernel, rfl⟩ (cat_all rfl) (Nat.le_of_ble_eq_true rfl) hl hX.cl (fun f hR hC hE => ?_)
  show AW f g 0 [some (.ref (gAd g 0)), some (.int x1)] [] q 0 0
  unfold w_X9_tones0 at h
  refine a_aload_n (pc := 0) hC dX9_tones_0 rfl ?_
  refine a_iload_n (pc := 1) hC dX9_tones_1 rfl ?_
  refine a_callVv (pc := 2) hC hR vm_X9_checkSingerInside tw_544 cl_X9 (oX_0 hX) ⟨(Nat.le_of_ble_eq_true rfl), (Nat.le_of_ble_eq_true rfl), (Nat.le_of_ble_eq_true rfl), (Nat.le_of_ble_eq_true rfl)⟩ dX9_tones_2 (t_X9_checkSingerInside0 hX hC.tr _ _ _ h) rfl rfl rfl (Nat.le_of_ble_eq_true rfl) (fun q3 h => ?_)
  refine a_aload_n (pc := 5) hC dX9_tones_5 rfl ?_
  refine a_get (pc := 6) hC cl_X9 (oX_0 hX) 0 (by decide) tw_303 rfl dX9_tones_6 ?_
  refine a_iload_n (pc := 9) hC dX9_tones_9 rfl ?_
  refine a_aload_n (pc := 10) hC dX9_tones_10 rfl ?_
  refine a_get (pc := 11) hC cl_X9 (oX_0 hX) 0 (by decide) tw_303 rfl dX9_tones_11 ?_
  refine a_get (pc := 14) hC cl_X8 (oX_1 hX) 2 (by decide) tw_155 rfl dX9_tones_14 ?_
  refine a_get (pc := 17) hC cl_X7 (oX_12 hX) 3 (by decide) tw_130 rfl dX9_tones_17 ?_
  refine a_iload_n (pc := 20) hC dX9_tones_20 rfl ?_
  refine a_iald (pc := 21) hC (oX_15 hX) h.1 dX9_tones_21 ?_
  replace h := h.2
  refine a_callV (pc := 22) hC hR vm_X8_tonesInRoom tw_568 cl_X8 (oX_1 hX) ⟨(Nat.le_of_ble_eq_true rfl), (Nat.le_of_ble_eq_true rfl), (Nat.le_of_ble_eq_true rfl), (Nat.le_of_ble_eq_true rfl)⟩ dX9_tones_22 (t_X8_tonesInRoom hX hC.tr _ _ _ _ h) rfl rfl rfl (Nat.le_of_ble_eq_true rfl) (fun r4 q5 h => ?_)
  exact a_iret (pc := 25) hC hE h (Nat.le_of_ble_eq_true rfl) (Nat.le_of_ble_eq_true rfl) dX9_tones_25
set_option maxRecDepth 20000 in
theorem t_X9_tonesAgain0 {l : Launch} {g : aG} (hX : isX g) (hl : l.stackTraces = false) (x1 : Int32) (q : aS) (P : Int32 → aS → Prop) (h : w_X9_tonesAgain0 x1 q P) : aMi l g yX9_tonesAgain (aWs yX9_tonesAgain cX9_tonesAgain 2 (some .int)) 3 0 0 [.ref (gAd g 0), .int x1] q P (fun _ _ => False) := by
  refine aMi_of RX9 ⟨by decide +kernel, rfl⟩ (cat_all rfl) (Nat.le_of_ble_eq_true rfl) hl hX.cl (fun f hR hC hE => ?_)
  show AW f g 0 [some (.ref (gAd g 0)), some (.int x1)] [] q 0 0
  unfold w_X9_tonesAgain0 at h
  refine a_aload_n (pc := 0) hC dX9_tonesAgain_0 rfl ?_
  refine a_iload_n (pc := 1) hC dX9_tonesAgain_1 rfl ?_
  refine a_callVv (pc := 2) hC hR vm_X9_checkSingerInside tw_544 cl_X9 (oX_0 hX) ⟨(Nat.le_of_ble_eq_true rfl), (Nat.le_of_ble_eq_true rfl), (Nat.le_of_ble_eq_true rfl), (Nat.le_of_ble_eq_true rfl)⟩ dX9_tonesAgain_2 (t_X9_checkSingerInside0 hX hC.tr _ _ _ h) rfl rfl rfl (Nat.le_of_ble_eq_true rfl) (fun q3 h => ?_)
  refine a_aload_n (pc := 5) hC dX9_tonesAgain_5 rfl ?_
  refine a_get (pc := 6) hC cl_X9 (oX_0 hX) 0 (by decide) tw_303 rfl dX9_tonesAgain_6 ?_
  refine a_iload_n (pc := 9) hC dX9_tonesAgain_9 rfl ?_
  refine a_callV (pc := 10) hC hR vm_X8_tonesByStrength tw_1026 cl_X8 (oX_1 hX) ⟨(Nat.le_of_ble_eq_true rfl), (Nat.le_of_ble_eq_true rfl), (Nat.le_of_ble_eq_true rfl), (Nat.le_of_ble_eq_true rfl)⟩ dX9_tonesAgain_10 (t_X8_tonesByStrength hX hC.tr _ _ _ h) rfl rfl rfl (Nat.le_of_ble_eq_true rfl) (fun r4 q5 h => ?_)
  exact a_iret (pc := 13) hC hE h (Nat.le_of_ble_eq_true rfl) (Nat.le_of_ble_eq_true rfl) dX9_tonesAgain_13
set_option maxRecDepth 20000 in
theorem t_X9_verses0 {l : Launch} {g : aG} (hX : isX g) (hl : l.stackTraces = false) (x1 : Int32) (q : aS) (P : Int32 → aS → Prop) (h : w_X9_verses0 x1 q P) : aMi l g yX9_verses (aWs yX9_verses cX9_verses 2 (some .int)) 3 0 0 [.ref (gAd g 0), .int x1] q P (fun _ _ => False) := by
  refine aMi_of RX9 ⟨by decide +kernel, rfl⟩ (cat_all rfl) (Nat.le_of_ble_eq_true rfl) hl hX.cl (fun f hR hC hE => ?_)
  show AW f g 0 [some (.ref (gAd g 0)), some (.int x1)] [] q 0 0
  unfold w_X9_verses0 at h
  refine a_aload_n (pc := 0) hC dX9_verses_0 rfl ?_
  refine a_iload_n (pc := 1) hC dX9_verses_1 rfl ?_
  refine a_callVv (pc := 2) hC hR vm_X9_checkSingerInside tw_544 cl_X9 (oX_0 hX) ⟨(Nat.le_of_ble_eq_true rfl), (Nat.le_of_ble_eq_true rfl), (Nat.le_of_ble_eq_true rfl), (Nat.le_of_ble_eq_true rfl)⟩ dX9_verses_2 (t_X9_checkSingerInside0 hX hC.tr _ _ _ h) rfl rfl rfl (Nat.le_of_ble_eq_true rfl) (fun q3 h => ?_)
  refine a_aload_n (pc := 5) hC dX9_verses_5 rfl ?_
  refine a_get (pc := 6) hC cl_X9 (oX_0 hX) 0 (by decide) tw_303 rfl dX9_verses_6 ?_
  refine a_iload_n (pc := 9) hC dX9_verses_9 rfl ?_
  refine a_callV (pc := 10) hC hR vm_X8_versesInThought tw_587 cl_X8 (oX_1 hX) ⟨(Nat.le_of_ble_eq_true rfl), (Nat.le_of_ble_eq_true rfl), (Nat.le_of_ble_eq_true rfl), (Nat.le_of_ble_eq_true rfl)⟩ dX9_verses_10 (t_X8_versesInThought hX hC.tr _ _ _ h) rfl rfl rfl (Nat.le_of_ble_eq_true rfl) (fun r4 q5 h => ?_)
  exact a_iret (pc := 13) hC hE h (Nat.le_of_ble_eq_true rfl) (Nat.le_of_ble_eq_true rfl) dX9_verses_13
set_option maxRecDepth 20000 in
theorem t_X9_versesAgain0 {l : Launch} {g : aG} (hX : isX g) (hl : l.stackTraces = false) (x1 : Int32) (q : aS) (P : Int32 → aS → Prop) (h : w_X9_versesAgain0 x1 q P) : aMi l g yX9_versesAgain (aWs yX9_versesAgain cX9_versesAgain 2 (some .int)) 3 0 0 [.ref (gAd g 0), .int x1] q P (fun _ _ => False) := by
  refine aMi_of RX9 ⟨by decide +kernel, rfl⟩ (cat_all rfl) (Nat.le_of_ble_eq_true rfl) hl hX.cl (fun f hR hC hE => ?_)
  show AW f g 0 [some (.ref (gAd g 0)), some (.int x1)] [] q 0 0
  unfold w_X9_versesAgain0 at h
  refine a_aload_n (pc := 0) hC dX9_versesAgain_0 rfl ?_
  refine a_iload_n (pc := 1) hC dX9_versesAgain_1 rfl ?_
  refine a_callVv (pc := 2) hC hR vm_X9_checkSingerInside tw_544 cl_X9 (oX_0 hX) ⟨(Nat.le_of_ble_eq_true rfl), (Nat.le_of_ble_eq_true rfl), (Nat.le_of_ble_eq_true rfl), (Nat.le_of_ble_eq_true rfl)⟩ dX9_versesAgain_2 (t_X9_checkSingerInside0 hX hC.tr _ _ _ h) rfl rfl rfl (Nat.le_of_ble_eq_true rfl) (fun q3 h => ?_)
  refine a_aload_n (pc := 5) hC dX9_versesAgain_5 rfl ?_
  refine a_get (pc := 6) hC cl_X9 (oX_0 hX) 0 (by decide) tw_303 rfl dX9_versesAgain_6 ?_
  refine a_iload_n (pc := 9) hC dX9_versesAgain_9 rfl ?_
  refine a_callV (pc := 10) hC hR vm_X8_versesByEcho tw_1038 cl_X8 (oX_1 hX) ⟨(Nat.le_of_ble_eq_true rfl), (Nat.le_of_ble_eq_true rfl), (Nat.le_of_ble_eq_true rfl), (Nat.le_of_ble_eq_true rfl)⟩ dX9_versesAgain_10 (t_X8_versesByEcho hX hC.tr _ _ _ h) rfl rfl rfl (Nat.le_of_ble_eq_true rfl) (fun r4 q5 h => ?_)
  exact a_iret (pc := 13) hC hE h (Nat.le_of_ble_eq_true rfl) (Nat.le_of_ble_eq_true rfl) dX9_versesAgain_13
set_option maxRecDepth 20000 in
theorem t_X9_would0 {l : Launch} {g : aG} (hX : isX g) (hl : l.stackTraces = false) (x1 : Int32) (x2 : Int32) (q : aS) (P : Int32 → aS → Prop) (h : w_X9_would0 x1 x2 q P) : aMi l g yX9_would (aWs yX9_would cX9_would 3 (some .int)) 3 0 0 [.ref (gAd g 0), .int x1, .int x2] q P (fun _ _ => False) := by
  refine aMi_of RX9 ⟨by decide +kernel, rfl⟩ (cat_all rfl) (Nat.le_of_ble_eq_true rfl) hl hX.cl (fun f hR hC hE => ?_)
  show AW f g 0 [some (.ref (gAd g 0)), some (.int x1), some (.int x2)] [] q 0 0
  unfold w_X9_would0 at h
  refine a_aload_n (pc := 0) hC dX9_would_0 rfl ?_
  refine a_iload_n (pc := 1) hC dX9_would_1 rfl ?_
  refine a_callVv (pc := 2) hC hR vm_X9_checkSinger tw_528 cl_X9 (oX_0 hX) ⟨(Nat.le_of_ble_eq_true rfl), (Nat.le_of_ble_eq_true rfl), (Nat.le_of_ble_eq_true rfl), (Nat.le_of_ble_eq_true rfl)⟩ dX9_would_2 (t_X9_checkSinger0 hX hC.tr _ _ _ h) rfl rfl rfl (Nat.le_of_ble_eq_true rfl) (fun q4 h => ?_)
  refine a_aload_n (pc := 5) hC dX9_would_5 rfl ?_
  refine a_iload_n (pc := 6) hC dX9_would_6 rfl ?_
  refine a_callVv (pc := 7) hC hR vm_X9_checkRoom tw_466 cl_X9 (oX_0 hX) ⟨(Nat.le_of_ble_eq_true rfl), (Nat.le_of_ble_eq_true rfl), (Nat.le_of_ble_eq_true rfl), (Nat.le_of_ble_eq_true rfl)⟩ dX9_would_7 (t_X9_checkRoom0 hX hC.tr _ _ _ h) rfl rfl rfl (Nat.le_of_ble_eq_true rfl) (fun q6 h => ?_)
  refine a_aload_n (pc := 10) hC dX9_would_10 rfl ?_
  refine a_get (pc := 11) hC cl_X9 (oX_0 hX) 0 (by decide) tw_303 rfl dX9_would_11 ?_
  refine a_iload_n (pc := 14) hC dX9_would_14 rfl ?_
  refine a_iload_n (pc := 15) hC dX9_would_15 rfl ?_
  refine a_callV (pc := 16) hC hR vm_X8_tonesInRoom tw_568 cl_X8 (oX_1 hX) ⟨(Nat.le_of_ble_eq_true rfl), (Nat.le_of_ble_eq_true rfl), (Nat.le_of_ble_eq_true rfl), (Nat.le_of_ble_eq_true rfl)⟩ dX9_would_16 (t_X8_tonesInRoom hX hC.tr _ _ _ _ h) rfl rfl rfl (Nat.le_of_ble_eq_true rfl) (fun r7 q8 h => ?_)
  exact a_iret (pc := 19) hC hE h (Nat.le_of_ble_eq_true rfl) (Nat.le_of_ble_eq_true rfl) dX9_would_19
set_option maxRecDepth 20000 in
theorem t_X9_canEnter0 {l : Launch} {g : aG} (hX : isX g) (hl : l.stackTraces = false) (x1 : Int32) (x2 : Int32) (q : aS) (P : Int32 → aS → Prop) (h : w_X9_canEnter0 x1 x2 q P) : aMi l g yX9_canEnter (aWs yX9_canEnter cX9_canEnter 3 (some .boolean)) 2 0 0 [.ref (gAd g 0), .int x1, .int x2] q (fun r u => (r = 0 ∨ r = 1) ∧ P r u) (fun _ _ => False) := by
  refine aMi_of RX9 ⟨by decide +kernel, rfl⟩ (cat_all rfl) (Nat.le_of_ble_eq_true rfl) hl hX.cl (fun f hR hC hE => ?_)
  show AW f g 0 [some (.ref (gAd g 0)), some (.int x1), some (.int x2)] [] q 0 0
  unfold w_X9_canEnter0 at h
  refine a_aload_n (pc := 0) hC dX9_canEnter_0 rfl ?_
  refine a_iload_n (pc := 1) hC dX9_canEnter_1 rfl ?_
  refine a_callVv (pc := 2) hC hR vm_X9_checkSinger tw_528 cl_X9 (oX_0 hX) ⟨(Nat.le_of_ble_eq_true rfl), (Nat.le_of_ble_eq_true rfl), (Nat.le_of_ble_eq_true rfl), (Nat.le_of_ble_eq_true rfl)⟩ dX9_canEnter_2 (t_X9_checkSinger0 hX hC.tr _ _ _ h) rfl rfl rfl (Nat.le_of_ble_eq_true rfl) (fun q4 h => ?_)
  refine a_aload_n (pc := 5) hC dX9_canEnter_5 rfl ?_
  refine a_iload_n (pc := 6) hC dX9_canEnter_6 rfl ?_
  refine a_callVv (pc := 7) hC hR vm_X9_checkRoom tw_466 cl_X9 (oX_0 hX) ⟨(Nat.le_of_ble_eq_true rfl), (Nat.le_of_ble_eq_true rfl), (Nat.le_of_ble_eq_true rfl), (Nat.le_of_ble_eq_true rfl)⟩ dX9_canEnter_7 (t_X9_checkRoom0 hX hC.tr _ _ _ h) rfl rfl rfl (Nat.le_of_ble_eq_true rfl) (fun q6 h => ?_)
  refine a_aload_n (pc := 10) hC dX9_canEnter_10 rfl ?_
  refine a_get (pc := 11) hC cl_X9 (oX_0 hX) 0 (by decide) tw_303 rfl dX9_canEnter_11 ?_
  refine a_get (pc := 14) hC cl_X8 (oX_1 hX) 2 (by decide) tw_155 rfl dX9_canEnter_14 ?_
  refine a_get (pc := 17) hC cl_X7 (oX_12 hX) 3 (by decide) tw_130 rfl dX9_canEnter_17 ?_
  refine a_iload_n (pc := 20) hC dX9_canEnter_20 rfl ?_
  refine a_iald (pc := 21) hC (oX_15 hX) h.1 dX9_canEnter_21 ?_
  replace h := h.2
  refine a_iload_n (pc := 22) hC dX9_canEnter_22 rfl ?_
  refine a_icmp_eq (pc := 23) (tgt := 53) hC dX9_canEnter_23 (by decide) (fun c => ?_) (fun c => ?_)
  · replace h := h.1 c
    refine a_iconst (pc := 53) hC dX9_canEnter_53 (v := 0) rfl ?_
    exact a_bret (pc := 54) hC hE (Or.inl rfl) h (Nat.le_of_ble_eq_true rfl) (Nat.le_of_ble_eq_true rfl) dX9_canEnter_54
  · replace h := h.2 c
    refine a_aload_n (pc := 26) hC dX9_canEnter_26 rfl ?_
    refine a_get (pc := 27) hC cl_X9 (oX_0 hX) 0 (by decide) tw_303 rfl dX9_canEnter_27 ?_
    refine a_iload_n (pc := 30) hC dX9_canEnter_30 rfl ?_
    refine a_callV (pc := 31) hC hR vm_X8_isFull tw_721 cl_X8 (oX_1 hX) ⟨(Nat.le_of_ble_eq_true rfl), (Nat.le_of_ble_eq_true rfl), (Nat.le_of_ble_eq_true rfl), (Nat.le_of_ble_eq_true rfl)⟩ dX9_canEnter_31 (t_X8_isFull hX hC.tr _ _ _ h) rfl rfl rfl (Nat.le_of_ble_eq_true rfl) (fun r7 q8 h => ?_)
    have z_r7 := h.1
    replace h := h.2
    refine a_if_ne (pc := 34) (tgt := 53) hC dX9_canEnter_34 (by decide) (fun c => ?_) (fun c => ?_)
    · replace h := h.1 c
      refine a_iconst (pc := 53) hC dX9_canEnter_53 (v := 0) rfl ?_
      exact a_bret (pc := 54) hC hE (Or.inl rfl) h (Nat.le_of_ble_eq_true rfl) (Nat.le_of_ble_eq_true rfl) dX9_canEnter_54
    · replace h := h.2 c
      refine a_aload_n (pc := 37) hC dX9_canEnter_37 rfl ?_
      refine a_get (pc := 38) hC cl_X9 (oX_0 hX) 0 (by decide) tw_303 rfl dX9_canEnter_38 ?_
      refine a_iload_n (pc := 41) hC dX9_canEnter_41 rfl ?_
      refine a_iload_n (pc := 42) hC dX9_canEnter_42 rfl ?_
      refine a_callV (pc := 43) hC hR vm_X8_isTooShyFor tw_727 cl_X8 (oX_1 hX) ⟨(Nat.le_of_ble_eq_true rfl), (Nat.le_of_ble_eq_true rfl), (Nat.le_of_ble_eq_true rfl), (Nat.le_of_ble_eq_true rfl)⟩ dX9_canEnter_43 (t_X8_isTooShyFor hX hC.tr _ _ _ _ h) rfl rfl rfl (Nat.le_of_ble_eq_true rfl) (fun r9 q10 h => ?_)
      have z_r9 := h.1
      replace h := h.2
      refine a_if_ne (pc := 46) (tgt := 53) hC dX9_canEnter_46 (by decide) (fun c => ?_) (fun c => ?_)
      · replace h := h.1 c
        refine a_iconst (pc := 53) hC dX9_canEnter_53 (v := 0) rfl ?_
        exact a_bret (pc := 54) hC hE (Or.inl rfl) h (Nat.le_of_ble_eq_true rfl) (Nat.le_of_ble_eq_true rfl) dX9_canEnter_54
      · replace h := h.2 c
        refine a_iconst (pc := 49) hC dX9_canEnter_49 (v := 1) rfl ?_
        refine a_goto (pc := 50) (tgt := 54) hC dX9_canEnter_50 (by decide) ?_
        exact a_bret (pc := 54) hC hE (Or.inr rfl) h (Nat.le_of_ble_eq_true rfl) (Nat.le_of_ble_eq_true rfl) dX9_canEnter_54
set_option maxRecDepth 20000 in
theorem t_X9_canRent0 {l : Launch} {g : aG} (hX : isX g) (hl : l.stackTraces = false) (x1 : Int32) (x2 : Int32) (q : aS) (P : Int32 → aS → Prop) (h : w_X9_canRent0 x1 x2 q P) : aMi l g yX9_canRent (aWs yX9_canRent cX9_canRent 3 (some .boolean)) 2 0 0 [.ref (gAd g 0), .int x1, .int x2] q (fun r u => (r = 0 ∨ r = 1) ∧ P r u) (fun _ _ => False) := by
  refine aMi_of RX9 ⟨by decide +kernel, rfl⟩ (cat_all rfl) (Nat.le_of_ble_eq_true rfl) hl hX.cl (fun f hR hC hE => ?_)
  show AW f g 0 [some (.ref (gAd g 0)), some (.int x1), some (.int x2)] [] q 0 0
  unfold w_X9_canRent0 at h
  refine a_aload_n (pc := 0) hC dX9_canRent_0 rfl ?_
  refine a_iload_n (pc := 1) hC dX9_canRent_1 rfl ?_
  refine a_callVv (pc := 2) hC hR vm_X9_checkSinger tw_528 cl_X9 (oX_0 hX) ⟨(Nat.le_of_ble_eq_true rfl), (Nat.le_of_ble_eq_true rfl), (Nat.le_of_ble_eq_true rfl), (Nat.le_of_ble_eq_true rfl)⟩ dX9_canRent_2 (t_X9_checkSinger0 hX hC.tr _ _ _ h) rfl rfl rfl (Nat.le_of_ble_eq_true rfl) (fun q4 h => ?_)
  refine a_aload_n (pc := 5) hC dX9_canRent_5 rfl ?_
  refine a_iload_n (pc := 6) hC dX9_canRent_6 rfl ?_
  refine a_callVv (pc := 7) hC hR vm_X9_checkEcho tw_514 cl_X9 (oX_0 hX) ⟨(Nat.le_of_ble_eq_true rfl), (Nat.le_of_ble_eq_true rfl), (Nat.le_of_ble_eq_true rfl), (Nat.le_of_ble_eq_true rfl)⟩ dX9_canRent_7 (t_X9_checkEcho0 hX hC.tr _ _ _ h) rfl rfl rfl (Nat.le_of_ble_eq_true rfl) (fun q6 h => ?_)
  refine a_aload_n (pc := 10) hC dX9_canRent_10 rfl ?_
  refine a_get (pc := 11) hC cl_X9 (oX_0 hX) 0 (by decide) tw_303 rfl dX9_canRent_11 ?_
  refine a_iload_n (pc := 14) hC dX9_canRent_14 rfl ?_
  refine a_callV (pc := 15) hC hR vm_X8_isLet tw_611 cl_X8 (oX_1 hX) ⟨(Nat.le_of_ble_eq_true rfl), (Nat.le_of_ble_eq_true rfl), (Nat.le_of_ble_eq_true rfl), (Nat.le_of_ble_eq_true rfl)⟩ dX9_canRent_15 (t_X8_isLet hX hC.tr _ _ _ h) rfl rfl rfl (Nat.le_of_ble_eq_true rfl) (fun r7 q8 h => ?_)
  have z_r7 := h.1
  replace h := h.2
  refine a_if_ne (pc := 18) (tgt := 49) hC dX9_canRent_18 (by decide) (fun c => ?_) (fun c => ?_)
  · replace h := h.1 c
    refine a_iconst (pc := 49) hC dX9_canRent_49 (v := 0) rfl ?_
    exact a_bret (pc := 50) hC hE (Or.inl rfl) h (Nat.le_of_ble_eq_true rfl) (Nat.le_of_ble_eq_true rfl) dX9_canRent_50
  · replace h := h.2 c
    refine a_aload_n (pc := 21) hC dX9_canRent_21 rfl ?_
    refine a_get (pc := 22) hC cl_X9 (oX_0 hX) 0 (by decide) tw_303 rfl dX9_canRent_22 ?_
    refine a_iload_n (pc := 25) hC dX9_canRent_25 rfl ?_
    refine a_iload_n (pc := 26) hC dX9_canRent_26 rfl ?_
    refine a_callV (pc := 27) hC hR vm_X8_isWithEcho tw_743 cl_X8 (oX_1 hX) ⟨(Nat.le_of_ble_eq_true rfl), (Nat.le_of_ble_eq_true rfl), (Nat.le_of_ble_eq_true rfl), (Nat.le_of_ble_eq_true rfl)⟩ dX9_canRent_27 (t_X8_isWithEcho hX hC.tr _ _ _ _ h) rfl rfl rfl (Nat.le_of_ble_eq_true rfl) (fun r9 q10 h => ?_)
    have z_r9 := h.1
    replace h := h.2
    refine a_if_eq (pc := 30) (tgt := 49) hC dX9_canRent_30 (by decide) (fun c => ?_) (fun c => ?_)
    · replace h := h.1 c
      refine a_iconst (pc := 49) hC dX9_canRent_49 (v := 0) rfl ?_
      exact a_bret (pc := 50) hC hE (Or.inl rfl) h (Nat.le_of_ble_eq_true rfl) (Nat.le_of_ble_eq_true rfl) dX9_canRent_50
    · replace h := h.2 c
      refine a_aload_n (pc := 33) hC dX9_canRent_33 rfl ?_
      refine a_get (pc := 34) hC cl_X9 (oX_0 hX) 0 (by decide) tw_303 rfl dX9_canRent_34 ?_
      refine a_iload_n (pc := 37) hC dX9_canRent_37 rfl ?_
      refine a_iload_n (pc := 38) hC dX9_canRent_38 rfl ?_
      refine a_callV (pc := 39) hC hR vm_X8_canPayFor tw_747 cl_X8 (oX_1 hX) ⟨(Nat.le_of_ble_eq_true rfl), (Nat.le_of_ble_eq_true rfl), (Nat.le_of_ble_eq_true rfl), (Nat.le_of_ble_eq_true rfl)⟩ dX9_canRent_39 (t_X8_canPayFor hX hC.tr _ _ _ _ h) rfl rfl rfl (Nat.le_of_ble_eq_true rfl) (fun r11 q12 h => ?_)
      have z_r11 := h.1
      replace h := h.2
      refine a_if_eq (pc := 42) (tgt := 49) hC dX9_canRent_42 (by decide) (fun c => ?_) (fun c => ?_)
      · replace h := h.1 c
        refine a_iconst (pc := 49) hC dX9_canRent_49 (v := 0) rfl ?_
        exact a_bret (pc := 50) hC hE (Or.inl rfl) h (Nat.le_of_ble_eq_true rfl) (Nat.le_of_ble_eq_true rfl) dX9_canRent_50
      · replace h := h.2 c
        refine a_iconst (pc := 45) hC dX9_canRent_45 (v := 1) rfl ?_
        refine a_goto (pc := 46) (tgt := 50) hC dX9_canRent_46 (by decide) ?_
        exact a_bret (pc := 50) hC hE (Or.inr rfl) h (Nat.le_of_ble_eq_true rfl) (Nat.le_of_ble_eq_true rfl) dX9_canRent_50
set_option maxRecDepth 20000 in
theorem t_X9_others0 {l : Launch} {g : aG} (hX : isX g) (hl : l.stackTraces = false) (x1 : Int32) (q : aS) (P : Int32 → aS → Prop) (h : w_X9_others0 x1 q P) : aMi l g yX9_others (aWs yX9_others cX9_others 2 (some .int)) 2 0 0 [.ref (gAd g 0), .int x1] q P (fun _ _ => False) := by
  refine aMi_of RX9 ⟨by decide +kernel, rfl⟩ (cat_all rfl) (Nat.le_of_ble_eq_true rfl) hl hX.cl (fun f hR hC hE => ?_)
  show AW f g 0 [some (.ref (gAd g 0)), some (.int x1)] [] q 0 0
  unfold w_X9_others0 at h
  refine a_aload_n (pc := 0) hC dX9_others_0 rfl ?_
  refine a_iload_n (pc := 1) hC dX9_others_1 rfl ?_
  refine a_callVv (pc := 2) hC hR vm_X9_checkRoom tw_466 cl_X9 (oX_0 hX) ⟨(Nat.le_of_ble_eq_true rfl), (Nat.le_of_ble_eq_true rfl), (Nat.le_of_ble_eq_true rfl), (Nat.le_of_ble_eq_true rfl)⟩ dX9_others_2 (t_X9_checkRoom0 hX hC.tr _ _ _ h) rfl rfl rfl (Nat.le_of_ble_eq_true rfl) (fun q3 h => ?_)
  refine a_aload_n (pc := 5) hC dX9_others_5 rfl ?_
  refine a_get (pc := 6) hC cl_X9 (oX_0 hX) 0 (by decide) tw_303 rfl dX9_others_6 ?_
  refine a_iload_n (pc := 9) hC dX9_others_9 rfl ?_
  refine a_callV (pc := 10) hC hR vm_X8_singersIn tw_487 cl_X8 (oX_1 hX) ⟨(Nat.le_of_ble_eq_true rfl), (Nat.le_of_ble_eq_true rfl), (Nat.le_of_ble_eq_true rfl), (Nat.le_of_ble_eq_true rfl)⟩ dX9_others_10 (t_X8_singersIn hX hC.tr _ _ _ h) rfl rfl rfl (Nat.le_of_ble_eq_true rfl) (fun r4 q5 h => ?_)
  exact a_iret (pc := 13) hC hE h (Nat.le_of_ble_eq_true rfl) (Nat.le_of_ble_eq_true rfl) dX9_others_13
set_option maxRecDepth 20000 in
theorem t_X9_free0 {l : Launch} {g : aG} (hX : isX g) (hl : l.stackTraces = false) (x1 : Int32) (q : aS) (P : Int32 → aS → Prop) (h : w_X9_free0 x1 q P) : aMi l g yX9_free (aWs yX9_free cX9_free 2 (some .int)) 2 0 0 [.ref (gAd g 0), .int x1] q P (fun _ _ => False) := by
  refine aMi_of RX9 ⟨by decide +kernel, rfl⟩ (cat_all rfl) (Nat.le_of_ble_eq_true rfl) hl hX.cl (fun f hR hC hE => ?_)
  show AW f g 0 [some (.ref (gAd g 0)), some (.int x1)] [] q 0 0
  unfold w_X9_free0 at h
  refine a_aload_n (pc := 0) hC dX9_free_0 rfl ?_
  refine a_iload_n (pc := 1) hC dX9_free_1 rfl ?_
  refine a_callVv (pc := 2) hC hR vm_X9_checkRoom tw_466 cl_X9 (oX_0 hX) ⟨(Nat.le_of_ble_eq_true rfl), (Nat.le_of_ble_eq_true rfl), (Nat.le_of_ble_eq_true rfl), (Nat.le_of_ble_eq_true rfl)⟩ dX9_free_2 (t_X9_checkRoom0 hX hC.tr _ _ _ h) rfl rfl rfl (Nat.le_of_ble_eq_true rfl) (fun q3 h => ?_)
  refine a_aload_n (pc := 5) hC dX9_free_5 rfl ?_
  refine a_get (pc := 6) hC cl_X9 (oX_0 hX) 0 (by decide) tw_303 rfl dX9_free_6 ?_
  refine a_iload_n (pc := 9) hC dX9_free_9 rfl ?_
  refine a_callV (pc := 10) hC hR vm_X8_freeIn tw_501 cl_X8 (oX_1 hX) ⟨(Nat.le_of_ble_eq_true rfl), (Nat.le_of_ble_eq_true rfl), (Nat.le_of_ble_eq_true rfl), (Nat.le_of_ble_eq_true rfl)⟩ dX9_free_10 (t_X8_freeIn hX hC.tr _ _ _ h) rfl rfl rfl (Nat.le_of_ble_eq_true rfl) (fun r4 q5 h => ?_)
  exact a_iret (pc := 13) hC hE h (Nat.le_of_ble_eq_true rfl) (Nat.le_of_ble_eq_true rfl) dX9_free_13
set_option maxRecDepth 20000 in
theorem t_X9_dryIn0 {l : Launch} {g : aG} (hX : isX g) (hl : l.stackTraces = false) (x1 : Int32) (q : aS) (P : Int32 → aS → Prop) (h : w_X9_dryIn0 x1 q P) : aMi l g yX9_dryIn (aWs yX9_dryIn cX9_dryIn 2 (some .int)) 2 0 0 [.ref (gAd g 0), .int x1] q P (fun _ _ => False) := by
  refine aMi_of RX9 ⟨by decide +kernel, rfl⟩ (cat_all rfl) (Nat.le_of_ble_eq_true rfl) hl hX.cl (fun f hR hC hE => ?_)
  show AW f g 0 [some (.ref (gAd g 0)), some (.int x1)] [] q 0 0
  unfold w_X9_dryIn0 at h
  refine a_aload_n (pc := 0) hC dX9_dryIn_0 rfl ?_
  refine a_iload_n (pc := 1) hC dX9_dryIn_1 rfl ?_
  refine a_callVv (pc := 2) hC hR vm_X9_checkRoom tw_466 cl_X9 (oX_0 hX) ⟨(Nat.le_of_ble_eq_true rfl), (Nat.le_of_ble_eq_true rfl), (Nat.le_of_ble_eq_true rfl), (Nat.le_of_ble_eq_true rfl)⟩ dX9_dryIn_2 (t_X9_checkRoom0 hX hC.tr _ _ _ h) rfl rfl rfl (Nat.le_of_ble_eq_true rfl) (fun q3 h => ?_)
  refine a_aload_n (pc := 5) hC dX9_dryIn_5 rfl ?_
  refine a_get (pc := 6) hC cl_X9 (oX_0 hX) 0 (by decide) tw_303 rfl dX9_dryIn_6 ?_
  refine a_get (pc := 9) hC cl_X8 (oX_1 hX) 0 (by decide) tw_151 rfl dX9_dryIn_9 ?_
  refine a_get (pc := 12) hC cl_X6 (oX_2 hX) 2 (by decide) tw_61 rfl dX9_dryIn_12 ?_
  refine a_iload_n (pc := 15) hC dX9_dryIn_15 rfl ?_
  refine a_iald (pc := 16) hC (oX_4 hX) h.1 dX9_dryIn_16 ?_
  replace h := h.2
  refine a_iconst (pc := 17) hC dX9_dryIn_17 (v := 2) rfl ?_
  refine a_iadd (pc := 18) hC dX9_dryIn_18 ?_
  refine a_iconst (pc := 19) hC dX9_dryIn_19 (v := 1) rfl ?_
  refine a_isub (pc := 20) hC dX9_dryIn_20 ?_
  refine a_iconst (pc := 21) hC dX9_dryIn_21 (v := 2) rfl ?_
  refine a_idiv (pc := 22) hC dX9_dryIn_22 (by decide) ?_
  exact a_iret (pc := 23) hC hE h (Nat.le_of_ble_eq_true rfl) (Nat.le_of_ble_eq_true rfl) dX9_dryIn_23
set_option maxRecDepth 20000 in
theorem tLX9_dampest0_2 {f : aF} {g : aG} (hX : isX g) (P : Int32 → aS → Prop) (hR : f_R f = aR 3 0 0) (hC : aOK f g cX9_dampest 3 RX9) (hE : aEi f g .int P (fun _ _ => False) 0 0) (c1 : Int32) {K : aS → Prop} (hK : ∀ (q : aS), K q → AW f g 33 [none, none, none] [] q 0 0) : ∀ (N : Nat) (v2 : Int32) (q : aS), LX9_dampest0_2 c1 P K N v2 q → AW f g 2 [some (.ref (gAd g 0)), some (.int c1), some (.int v2)] [] q 0 0 := by
  intro N
  induction N with
  | zero =>
    intro v2 q h
    exact h.elim
  | succ N ih =>
    intro v2 q h
    unfold LX9_dampest0_2 at h
    refine a_iload_n (pc := 2) hC dX9_dampest_2 rfl ?_
    refine a_aload_n (pc := 3) hC dX9_dampest_3 rfl ?_
    refine a_get (pc := 4) hC cl_X9 (oX_0 hX) 0 (by decide) tw_303 rfl dX9_dampest_4 ?_
    refine a_get (pc := 7) hC cl_X8 (oX_1 hX) 0 (by decide) tw_151 rfl dX9_dampest_7 ?_
    refine a_get (pc := 10) hC cl_X6 (oX_2 hX) 0 (by decide) tw_56 rfl dX9_dampest_10 ?_
    refine a_icmp_ge (pc := 13) (tgt := 33) hC dX9_dampest_13 (by decide) (fun c => ?_) (fun c => ?_)
    · replace h := h.1 c
      exact ((hK _ h).forget trivial)
    · replace h := h.2 c
      refine a_aload_n (pc := 16) hC dX9_dampest_16 rfl ?_
      refine a_iload_n (pc := 17) hC dX9_dampest_17 rfl ?_
      refine a_callV (pc := 18) hC hR vm_X9_countRoomsAhead tw_618 cl_X9 (oX_0 hX) ⟨(Nat.le_of_ble_eq_true rfl), (Nat.le_of_ble_eq_true rfl), (Nat.le_of_ble_eq_true rfl), (Nat.le_of_ble_eq_true rfl)⟩ dX9_dampest_18 (t_X9_countRoomsAhead hX hC.tr _ _ _ h) rfl rfl rfl (Nat.le_of_ble_eq_true rfl) (fun r2 q3 h => ?_)
      refine a_iload_n (pc := 21) hC dX9_dampest_21 rfl ?_
      refine a_icmp_ne (pc := 22) (tgt := 27) hC dX9_dampest_22 (by decide) (fun c => ?_) (fun c => ?_)
      · replace h := h.1 c
        refine a_iinc (pc := 27) hC dX9_dampest_27 rfl (c := 1) rfl ?_
        replace h := h _ rfl
        refine a_goto (pc := 30) (tgt := 2) hC dX9_dampest_30 (by decide) ?_
        exact ((ih _ _ h).forget ⟨rfl, rfl, rfl, trivial⟩)
      · replace h := h.2 c
        refine a_iload_n (pc := 25) hC dX9_dampest_25 rfl ?_
        exact a_iret (pc := 26) hC hE h (Nat.le_of_ble_eq_true rfl) (Nat.le_of_ble_eq_true rfl) dX9_dampest_26
set_option maxRecDepth 20000 in
theorem t_X9_dampest0 {l : Launch} {g : aG} (hX : isX g) (hl : l.stackTraces = false) (x1 : Int32) (q : aS) (P : Int32 → aS → Prop) (h : w_X9_dampest0 x1 q P) : aMi l g yX9_dampest (aWs yX9_dampest cX9_dampest 3 (some .int)) 3 0 0 [.ref (gAd g 0), .int x1] q P (fun _ _ => False) := by
  refine aMi_of RX9 ⟨by decide +kernel, rfl⟩ (cat_all rfl) (Nat.le_of_ble_eq_true rfl) hl hX.cl (fun f hR hC hE => ?_)
  show AW f g 0 [some (.ref (gAd g 0)), some (.int x1), none] [] q 0 0
  unfold w_X9_dampest0 at h
  refine a_iconst (pc := 0) hC dX9_dampest_0 (v := 0) rfl ?_
  refine a_istore_n (pc := 1) hC dX9_dampest_1 (Nat.le_of_ble_eq_true rfl) ?_
  obtain ⟨N, h⟩ := h
  refine (tLX9_dampest0_2 hX P hR hC hE _ (fun q5 h => ?_) N _ _ h).forget ⟨rfl, rfl, rfl, trivial⟩
  exact h.elim
set_option maxRecDepth 20000 in
theorem tJX9_ranked0_9 {f : aF} {g : aG} (hX : isX g) (P : Int32 → aS → Prop) (hR : f_R f = aR 2 0 0) (hC : aOK f g cX9_ranked 4 RX9) (hE : aEi f g .int P (fun _ _ => False) 0 0) (q : aS) (h : JX9_ranked0_9 P q) : AW f g 9 [none, none, none, none] [] q 0 0 := by
  unfold JX9_ranked0_9 at h
  exact h.elim
set_option maxRecDepth 20000 in
theorem tLX9_ranked0_21 {f : aF} {g : aG} (hX : isX g) (P : Int32 → aS → Prop) (hR : f_R f = aR 2 0 0) (hC : aOK f g cX9_ranked 4 RX9) (hE : aEi f g .int P (fun _ _ => False) 0 0) (c1 : Int32) (c2 : Int32) {K : aS → Prop} (hK : ∀ (q : aS), K q → AW f g 53 [none, none, none, none] [] q 0 0) : ∀ (N : Nat) (v3 : Int32) (q : aS), LX9_ranked0_21 c1 c2 P K N v3 q → AW f g 21 [some (.ref (gAd g 0)), some (.int c1), some (.int c2), some (.int v3)] [] q 0 0 := by
  intro N
  induction N with
  | zero =>
    intro v3 q h
    exact h.elim
  | succ N ih =>
    intro v3 q h
    unfold LX9_ranked0_21 at h
    refine a_iload_n (pc := 21) hC dX9_ranked_21 rfl ?_
    refine a_aload_n (pc := 22) hC dX9_ranked_22 rfl ?_
    refine a_get (pc := 23) hC cl_X9 (oX_0 hX) 0 (by decide) tw_303 rfl dX9_ranked_23 ?_
    refine a_get (pc := 26) hC cl_X8 (oX_1 hX) 2 (by decide) tw_155 rfl dX9_ranked_26 ?_
    refine a_get (pc := 29) hC cl_X7 (oX_12 hX) 0 (by decide) tw_121 rfl dX9_ranked_29 ?_
    refine a_icmp_ge (pc := 32) (tgt := 53) hC dX9_ranked_32 (by decide) (fun c => ?_) (fun c => ?_)
    · replace h := h.1 c
      exact ((hK _ h).forget trivial)
    · replace h := h.2 c
      refine a_aload_n (pc := 35) hC dX9_ranked_35 rfl ?_
      refine a_iload_n (pc := 36) hC dX9_ranked_36 rfl ?_
      refine a_iload_n (pc := 37) hC dX9_ranked_37 rfl ?_
      refine a_callV (pc := 38) hC hR vm_X9_countSingersAhead tw_632 cl_X9 (oX_0 hX) ⟨(Nat.le_of_ble_eq_true rfl), (Nat.le_of_ble_eq_true rfl), (Nat.le_of_ble_eq_true rfl), (Nat.le_of_ble_eq_true rfl)⟩ dX9_ranked_38 (t_X9_countSingersAhead hX hC.tr _ _ _ _ h) rfl rfl rfl (Nat.le_of_ble_eq_true rfl) (fun r3 q4 h => ?_)
      refine a_iload_n (pc := 41) hC dX9_ranked_41 rfl ?_
      refine a_icmp_ne (pc := 42) (tgt := 47) hC dX9_ranked_42 (by decide) (fun c => ?_) (fun c => ?_)
      · replace h := h.1 c
        refine a_iinc (pc := 47) hC dX9_ranked_47 rfl (c := 1) rfl ?_
        replace h := h _ rfl
        refine a_goto (pc := 50) (tgt := 21) hC dX9_ranked_50 (by decide) ?_
        exact ((ih _ _ h).forget ⟨rfl, rfl, rfl, rfl, trivial⟩)
      · replace h := h.2 c
        refine a_iload_n (pc := 45) hC dX9_ranked_45 rfl ?_
        exact a_iret (pc := 46) hC hE h (Nat.le_of_ble_eq_true rfl) (Nat.le_of_ble_eq_true rfl) dX9_ranked_46
set_option maxRecDepth 20000 in
theorem t_X9_ranked0 {l : Launch} {g : aG} (hX : isX g) (hl : l.stackTraces = false) (x1 : Int32) (x2 : Int32) (q : aS) (P : Int32 → aS → Prop) (h : w_X9_ranked0 x1 x2 q P) : aMi l g yX9_ranked (aWs yX9_ranked cX9_ranked 4 (some .int)) 2 0 0 [.ref (gAd g 0), .int x1, .int x2] q P (fun _ _ => False) := by
  refine aMi_of RX9 ⟨by decide +kernel, rfl⟩ (cat_all rfl) (Nat.le_of_ble_eq_true rfl) hl hX.cl (fun f hR hC hE => ?_)
  show AW f g 0 [some (.ref (gAd g 0)), some (.int x1), some (.int x2), none] [] q 0 0
  unfold w_X9_ranked0 at h
  refine a_iload_n (pc := 0) hC dX9_ranked_0 rfl ?_
  refine a_if_lt (pc := 1) (tgt := 9) hC dX9_ranked_1 (by decide) (fun c => ?_) (fun c => ?_)
  · replace h := h.1 c
    exact (tJX9_ranked0_9 hX P hR hC hE _ h).forget trivial
  · replace h := h.2 c
    refine a_iload_n (pc := 4) hC dX9_ranked_4 rfl ?_
    refine a_iconst (pc := 5) hC dX9_ranked_5 (v := 3) rfl ?_
    refine a_icmp_le (pc := 6) (tgt := 19) hC dX9_ranked_6 (by decide) (fun c => ?_) (fun c => ?_)
    · replace h := h.1 c
      refine a_iconst (pc := 19) hC dX9_ranked_19 (v := 0) rfl ?_
      refine a_istore_n (pc := 20) hC dX9_ranked_20 (Nat.le_of_ble_eq_true rfl) ?_
      obtain ⟨N, h⟩ := h
      refine (tLX9_ranked0_21 hX P hR hC hE _ _ (fun q6 h => ?_) N _ _ h).forget ⟨rfl, rfl, rfl, rfl, trivial⟩
      exact h.elim
    · replace h := h.2 c
      exact (tJX9_ranked0_9 hX P hR hC hE _ h).forget trivial
set_option maxRecDepth 20000 in
theorem tLX9_strongest0_2 {f : aF} {g : aG} (hX : isX g) (P : Int32 → aS → Prop) (hR : f_R f = aR 3 0 0) (hC : aOK f g cX9_strongest 3 RX9) (hE : aEi f g .int P (fun _ _ => False) 0 0) (c1 : Int32) {K : aS → Prop} (hK : ∀ (q : aS), K q → AW f g 33 [none, none, none] [] q 0 0) : ∀ (N : Nat) (v2 : Int32) (q : aS), LX9_strongest0_2 c1 P K N v2 q → AW f g 2 [some (.ref (gAd g 0)), some (.int c1), some (.int v2)] [] q 0 0 := by
  intro N
  induction N with
  | zero =>
    intro v2 q h
    exact h.elim
  | succ N ih =>
    intro v2 q h
    unfold LX9_strongest0_2 at h
    refine a_iload_n (pc := 2) hC dX9_strongest_2 rfl ?_
    refine a_aload_n (pc := 3) hC dX9_strongest_3 rfl ?_
    refine a_get (pc := 4) hC cl_X9 (oX_0 hX) 0 (by decide) tw_303 rfl dX9_strongest_4 ?_
    refine a_get (pc := 7) hC cl_X8 (oX_1 hX) 1 (by decide) tw_153 rfl dX9_strongest_7 ?_
    refine a_get (pc := 10) hC cl_X1 (oX_6 hX) 0 (by decide) tw_84 rfl dX9_strongest_10 ?_
    refine a_icmp_ge (pc := 13) (tgt := 33) hC dX9_strongest_13 (by decide) (fun c => ?_) (fun c => ?_)
    · replace h := h.1 c
      exact ((hK _ h).forget trivial)
    · replace h := h.2 c
      refine a_aload_n (pc := 16) hC dX9_strongest_16 rfl ?_
      refine a_iload_n (pc := 17) hC dX9_strongest_17 rfl ?_
      refine a_callV (pc := 18) hC hR vm_X9_countEchoesAhead tw_645 cl_X9 (oX_0 hX) ⟨(Nat.le_of_ble_eq_true rfl), (Nat.le_of_ble_eq_true rfl), (Nat.le_of_ble_eq_true rfl), (Nat.le_of_ble_eq_true rfl)⟩ dX9_strongest_18 (t_X9_countEchoesAhead hX hC.tr _ _ _ h) rfl rfl rfl (Nat.le_of_ble_eq_true rfl) (fun r2 q3 h => ?_)
      refine a_iload_n (pc := 21) hC dX9_strongest_21 rfl ?_
      refine a_icmp_ne (pc := 22) (tgt := 27) hC dX9_strongest_22 (by decide) (fun c => ?_) (fun c => ?_)
      · replace h := h.1 c
        refine a_iinc (pc := 27) hC dX9_strongest_27 rfl (c := 1) rfl ?_
        replace h := h _ rfl
        refine a_goto (pc := 30) (tgt := 2) hC dX9_strongest_30 (by decide) ?_
        exact ((ih _ _ h).forget ⟨rfl, rfl, rfl, trivial⟩)
      · replace h := h.2 c
        refine a_iload_n (pc := 25) hC dX9_strongest_25 rfl ?_
        exact a_iret (pc := 26) hC hE h (Nat.le_of_ble_eq_true rfl) (Nat.le_of_ble_eq_true rfl) dX9_strongest_26
set_option maxRecDepth 20000 in
theorem t_X9_strongest0 {l : Launch} {g : aG} (hX : isX g) (hl : l.stackTraces = false) (x1 : Int32) (q : aS) (P : Int32 → aS → Prop) (h : w_X9_strongest0 x1 q P) : aMi l g yX9_strongest (aWs yX9_strongest cX9_strongest 3 (some .int)) 3 0 0 [.ref (gAd g 0), .int x1] q P (fun _ _ => False) := by
  refine aMi_of RX9 ⟨by decide +kernel, rfl⟩ (cat_all rfl) (Nat.le_of_ble_eq_true rfl) hl hX.cl (fun f hR hC hE => ?_)
  show AW f g 0 [some (.ref (gAd g 0)), some (.int x1), none] [] q 0 0
  unfold w_X9_strongest0 at h
  refine a_iconst (pc := 0) hC dX9_strongest_0 (v := 0) rfl ?_
  refine a_istore_n (pc := 1) hC dX9_strongest_1 (Nat.le_of_ble_eq_true rfl) ?_
  obtain ⟨N, h⟩ := h
  refine (tLX9_strongest0_2 hX P hR hC hE _ (fun q5 h => ?_) N _ _ h).forget ⟨rfl, rfl, rfl, trivial⟩
  exact h.elim
set_option maxRecDepth 20000 in
theorem t_X9_account0 {l : Launch} {g : aG} (hX : isX g) (hl : l.stackTraces = false) (x1 : Int32) (q : aS) (P : Int32 → aS → Prop) (h : w_X9_account0 x1 q P) : aMi l g yX9_account (aWs yX9_account cX9_account 2 (some .int)) 2 0 0 [.ref (gAd g 0), .int x1] q P (fun _ _ => False) := by
  refine aMi_of RX9 ⟨by decide +kernel, rfl⟩ (cat_all rfl) (Nat.le_of_ble_eq_true rfl) hl hX.cl (fun f hR hC hE => ?_)
  show AW f g 0 [some (.ref (gAd g 0)), some (.int x1)] [] q 0 0
  unfold w_X9_account0 at h
  refine a_iload_n (pc := 0) hC dX9_account_0 rfl ?_
  refine tab_or (fun c0 => ?_) (fun c0 => ?_) h
  · intro h
    refine a_tabIn (pc := 1) (tgt := 72) hC dX9_account_1 (by rw [c0]; decide) (by rw [c0]; decide) (by rw [c0]; rfl) (by decide) ?_
    refine a_aload_n (pc := 72) hC dX9_account_72 rfl ?_
    refine a_get (pc := 73) hC cl_X9 (oX_0 hX) 0 (by decide) tw_303 rfl dX9_account_73 ?_
    refine a_get (pc := 76) hC cl_X8 (oX_1 hX) 0 (by decide) tw_151 rfl dX9_account_76 ?_
    refine a_get (pc := 79) hC cl_X6 (oX_2 hX) 0 (by decide) tw_56 rfl dX9_account_79 ?_
    exact a_iret (pc := 82) hC hE h (Nat.le_of_ble_eq_true rfl) (Nat.le_of_ble_eq_true rfl) dX9_account_82
  intro h
  refine tab_or (fun c1 => ?_) (fun c1 => ?_) h
  · intro h
    refine a_tabIn (pc := 1) (tgt := 83) hC dX9_account_1 (by rw [c1]; decide) (by rw [c1]; decide) (by rw [c1]; rfl) (by decide) ?_
    refine a_aload_n (pc := 83) hC dX9_account_83 rfl ?_
    refine a_get (pc := 84) hC cl_X9 (oX_0 hX) 0 (by decide) tw_303 rfl dX9_account_84 ?_
    refine a_get (pc := 87) hC cl_X8 (oX_1 hX) 1 (by decide) tw_153 rfl dX9_account_87 ?_
    refine a_get (pc := 90) hC cl_X1 (oX_6 hX) 0 (by decide) tw_84 rfl dX9_account_90 ?_
    exact a_iret (pc := 93) hC hE h (Nat.le_of_ble_eq_true rfl) (Nat.le_of_ble_eq_true rfl) dX9_account_93
  intro h
  refine tab_or (fun c2 => ?_) (fun c2 => ?_) h
  · intro h
    refine a_tabIn (pc := 1) (tgt := 94) hC dX9_account_1 (by rw [c2]; decide) (by rw [c2]; decide) (by rw [c2]; rfl) (by decide) ?_
    refine a_aload_n (pc := 94) hC dX9_account_94 rfl ?_
    refine a_get (pc := 95) hC cl_X9 (oX_0 hX) 0 (by decide) tw_303 rfl dX9_account_95 ?_
    refine a_get (pc := 98) hC cl_X8 (oX_1 hX) 2 (by decide) tw_155 rfl dX9_account_98 ?_
    refine a_get (pc := 101) hC cl_X7 (oX_12 hX) 0 (by decide) tw_121 rfl dX9_account_101 ?_
    exact a_iret (pc := 104) hC hE h (Nat.le_of_ble_eq_true rfl) (Nat.le_of_ble_eq_true rfl) dX9_account_104
  intro h
  refine tab_or (fun c3 => ?_) (fun c3 => ?_) h
  · intro h
    refine a_tabIn (pc := 1) (tgt := 105) hC dX9_account_1 (by rw [c3]; decide) (by rw [c3]; decide) (by rw [c3]; rfl) (by decide) ?_
    refine a_aload_n (pc := 105) hC dX9_account_105 rfl ?_
    refine a_get (pc := 106) hC cl_X9 (oX_0 hX) 0 (by decide) tw_303 rfl dX9_account_106 ?_
    refine a_callV (pc := 109) hC hR vm_X8_countLet tw_331 cl_X8 (oX_1 hX) ⟨(Nat.le_of_ble_eq_true rfl), (Nat.le_of_ble_eq_true rfl), (Nat.le_of_ble_eq_true rfl), (Nat.le_of_ble_eq_true rfl)⟩ dX9_account_109 (t_X8_countLet hX hC.tr _ _ h) rfl rfl rfl (Nat.le_of_ble_eq_true rfl) (fun r2 q3 h => ?_)
    exact a_iret (pc := 112) hC hE h (Nat.le_of_ble_eq_true rfl) (Nat.le_of_ble_eq_true rfl) dX9_account_112
  intro h
  refine tab_or (fun c4 => ?_) (fun c4 => ?_) h
  · intro h
    refine a_tabIn (pc := 1) (tgt := 113) hC dX9_account_1 (by rw [c4]; decide) (by rw [c4]; decide) (by rw [c4]; rfl) (by decide) ?_
    refine a_aload_n (pc := 113) hC dX9_account_113 rfl ?_
    refine a_get (pc := 114) hC cl_X9 (oX_0 hX) 0 (by decide) tw_303 rfl dX9_account_114 ?_
    refine a_get (pc := 117) hC cl_X8 (oX_1 hX) 3 (by decide) tw_157 rfl dX9_account_117 ?_
    exact a_iret (pc := 120) hC hE h (Nat.le_of_ble_eq_true rfl) (Nat.le_of_ble_eq_true rfl) dX9_account_120
  intro h
  refine tab_or (fun c5 => ?_) (fun c5 => ?_) h
  · intro h
    refine a_tabIn (pc := 1) (tgt := 121) hC dX9_account_1 (by rw [c5]; decide) (by rw [c5]; decide) (by rw [c5]; rfl) (by decide) ?_
    refine a_aload_n (pc := 121) hC dX9_account_121 rfl ?_
    refine a_get (pc := 122) hC cl_X9 (oX_0 hX) 0 (by decide) tw_303 rfl dX9_account_122 ?_
    refine a_callV (pc := 125) hC hR vm_X8_dampOfAll tw_339 cl_X8 (oX_1 hX) ⟨(Nat.le_of_ble_eq_true rfl), (Nat.le_of_ble_eq_true rfl), (Nat.le_of_ble_eq_true rfl), (Nat.le_of_ble_eq_true rfl)⟩ dX9_account_125 (t_X8_dampOfAll hX hC.tr _ _ h) rfl rfl rfl (Nat.le_of_ble_eq_true rfl) (fun r4 q5 h => ?_)
    exact a_iret (pc := 128) hC hE h (Nat.le_of_ble_eq_true rfl) (Nat.le_of_ble_eq_true rfl) dX9_account_128
  intro h
  refine tab_or (fun c6 => ?_) (fun c6 => ?_) h
  · intro h
    refine a_tabIn (pc := 1) (tgt := 129) hC dX9_account_1 (by rw [c6]; decide) (by rw [c6]; decide) (by rw [c6]; rfl) (by decide) ?_
    refine a_aload_n (pc := 129) hC dX9_account_129 rfl ?_
    refine a_get (pc := 130) hC cl_X9 (oX_0 hX) 0 (by decide) tw_303 rfl dX9_account_130 ?_
    refine a_callV (pc := 133) hC hR vm_X8_versesOfAll tw_343 cl_X8 (oX_1 hX) ⟨(Nat.le_of_ble_eq_true rfl), (Nat.le_of_ble_eq_true rfl), (Nat.le_of_ble_eq_true rfl), (Nat.le_of_ble_eq_true rfl)⟩ dX9_account_133 (t_X8_versesOfAll hX hC.tr _ _ h) rfl rfl rfl (Nat.le_of_ble_eq_true rfl) (fun r6 q7 h => ?_)
    exact a_iret (pc := 136) hC hE h (Nat.le_of_ble_eq_true rfl) (Nat.le_of_ble_eq_true rfl) dX9_account_136
  intro h
  refine tab_or (fun c7 => ?_) (fun c7 => ?_) h
  · intro h
    refine a_tabIn (pc := 1) (tgt := 137) hC dX9_account_1 (by rw [c7]; decide) (by rw [c7]; decide) (by rw [c7]; rfl) (by decide) ?_
    refine a_aload_n (pc := 137) hC dX9_account_137 rfl ?_
    refine a_get (pc := 138) hC cl_X9 (oX_0 hX) 0 (by decide) tw_303 rfl dX9_account_138 ?_
    refine a_callV (pc := 141) hC hR vm_X8_tonesOfAll tw_347 cl_X8 (oX_1 hX) ⟨(Nat.le_of_ble_eq_true rfl), (Nat.le_of_ble_eq_true rfl), (Nat.le_of_ble_eq_true rfl), (Nat.le_of_ble_eq_true rfl)⟩ dX9_account_141 (t_X8_tonesOfAll hX hC.tr _ _ h) rfl rfl rfl (Nat.le_of_ble_eq_true rfl) (fun r8 q9 h => ?_)
    exact a_iret (pc := 144) hC hE h (Nat.le_of_ble_eq_true rfl) (Nat.le_of_ble_eq_true rfl) dX9_account_144
  intro h
  refine tab_or (fun c8 => ?_) (fun c8 => ?_) h
  · intro h
    refine a_tabIn (pc := 1) (tgt := 145) hC dX9_account_1 (by rw [c8]; decide) (by rw [c8]; decide) (by rw [c8]; rfl) (by decide) ?_
    refine a_aload_n (pc := 145) hC dX9_account_145 rfl ?_
    refine a_get (pc := 146) hC cl_X9 (oX_0 hX) 0 (by decide) tw_303 rfl dX9_account_146 ?_
    refine a_get (pc := 149) hC cl_X8 (oX_1 hX) 4 (by decide) tw_159 rfl dX9_account_149 ?_
    exact a_iret (pc := 152) hC hE h (Nat.le_of_ble_eq_true rfl) (Nat.le_of_ble_eq_true rfl) dX9_account_152
  intro h
  refine tab_or (fun c9 => ?_) (fun c9 => ?_) h
  · intro h
    refine a_tabIn (pc := 1) (tgt := 153) hC dX9_account_1 (by rw [c9]; decide) (by rw [c9]; decide) (by rw [c9]; rfl) (by decide) ?_
    refine a_aload_n (pc := 153) hC dX9_account_153 rfl ?_
    refine a_get (pc := 154) hC cl_X9 (oX_0 hX) 0 (by decide) tw_303 rfl dX9_account_154 ?_
    refine a_get (pc := 157) hC cl_X8 (oX_1 hX) 5 (by decide) tw_161 rfl dX9_account_157 ?_
    exact a_iret (pc := 160) hC hE h (Nat.le_of_ble_eq_true rfl) (Nat.le_of_ble_eq_true rfl) dX9_account_160
  intro h
  refine tab_or (fun c10 => ?_) (fun c10 => ?_) h
  · intro h
    refine a_tabIn (pc := 1) (tgt := 161) hC dX9_account_1 (by rw [c10]; decide) (by rw [c10]; decide) (by rw [c10]; rfl) (by decide) ?_
    refine a_aload_n (pc := 161) hC dX9_account_161 rfl ?_
    refine a_get (pc := 162) hC cl_X9 (oX_0 hX) 0 (by decide) tw_303 rfl dX9_account_162 ?_
    refine a_get (pc := 165) hC cl_X8 (oX_1 hX) 6 (by decide) tw_163 rfl dX9_account_165 ?_
    exact a_iret (pc := 168) hC hE h (Nat.le_of_ble_eq_true rfl) (Nat.le_of_ble_eq_true rfl) dX9_account_168
  intro h
  refine tab_or (fun c11 => ?_) (fun c11 => ?_) h
  · intro h
    refine a_tabIn (pc := 1) (tgt := 169) hC dX9_account_1 (by rw [c11]; decide) (by rw [c11]; decide) (by rw [c11]; rfl) (by decide) ?_
    refine a_aload_n (pc := 169) hC dX9_account_169 rfl ?_
    refine a_get (pc := 170) hC cl_X9 (oX_0 hX) 0 (by decide) tw_303 rfl dX9_account_170 ?_
    refine a_callV (pc := 173) hC hR vm_X8_heldOfAll tw_351 cl_X8 (oX_1 hX) ⟨(Nat.le_of_ble_eq_true rfl), (Nat.le_of_ble_eq_true rfl), (Nat.le_of_ble_eq_true rfl), (Nat.le_of_ble_eq_true rfl)⟩ dX9_account_173 (t_X8_heldOfAll hX hC.tr _ _ h) rfl rfl rfl (Nat.le_of_ble_eq_true rfl) (fun r10 q11 h => ?_)
    exact a_iret (pc := 176) hC hE h (Nat.le_of_ble_eq_true rfl) (Nat.le_of_ble_eq_true rfl) dX9_account_176
  intro h
  refine tab_or (fun c12 => ?_) (fun c12 => ?_) h
  · intro h
    refine a_tabIn (pc := 1) (tgt := 177) hC dX9_account_1 (by rw [c12]; decide) (by rw [c12]; decide) (by rw [c12]; rfl) (by decide) ?_
    refine a_aload_n (pc := 177) hC dX9_account_177 rfl ?_
    refine a_get (pc := 178) hC cl_X9 (oX_0 hX) 5 (by decide) tw_307 rfl dX9_account_178 ?_
    refine a_get (pc := 181) hC cl_X3 (oX_190 hX) 1 (by decide) tw_213 rfl dX9_account_181 ?_
    exact a_iret (pc := 184) hC hE h (Nat.le_of_ble_eq_true rfl) (Nat.le_of_ble_eq_true rfl) dX9_account_184
  intro h
  refine tab_or (fun c13 => ?_) (fun c13 => ?_) h
  · intro h
    refine a_tabIn (pc := 1) (tgt := 185) hC dX9_account_1 (by rw [c13]; decide) (by rw [c13]; decide) (by rw [c13]; rfl) (by decide) ?_
    refine a_aload_n (pc := 185) hC dX9_account_185 rfl ?_
    refine a_get (pc := 186) hC cl_X9 (oX_0 hX) 4 (by decide) tw_306 rfl dX9_account_186 ?_
    refine a_get (pc := 189) hC cl_X4 (oX_52 hX) 2 (by decide) tw_191 rfl dX9_account_189 ?_
    exact a_iret (pc := 192) hC hE h (Nat.le_of_ble_eq_true rfl) (Nat.le_of_ble_eq_true rfl) dX9_account_192
  intro h
  refine a_tabOut (pc := 1) (tgt := 193) hC dX9_account_1 (by have e0 := tab_ne (z := 0) rfl c0; have e1 := tab_ne (z := 1) rfl c1; have e2 := tab_ne (z := 2) rfl c2; have e3 := tab_ne (z := 3) rfl c3; have e4 := tab_ne (z := 4) rfl c4; have e5 := tab_ne (z := 5) rfl c5; have e6 := tab_ne (z := 6) rfl c6; have e7 := tab_ne (z := 7) rfl c7; have e8 := tab_ne (z := 8) rfl c8; have e9 := tab_ne (z := 9) rfl c9; have e10 := tab_ne (z := 10) rfl c10; have e11 := tab_ne (z := 11) rfl c11; have e12 := tab_ne (z := 12) rfl c12; have e13 := tab_ne (z := 13) rfl c13; omega) (by decide) ?_
  exact h.elim
set_option maxRecDepth 20000 in
theorem t_X9_meanDamp0 {l : Launch} {g : aG} (hX : isX g) (hl : l.stackTraces = false) (q : aS) (P : UInt64 → aS → Prop) (h : w_X9_meanDamp0 q P) : aMd l g yX9_meanDamp (aWs yX9_meanDamp cX9_meanDamp 1 (some .double)) 1 0 0 [.ref (gAd g 0)] q P (fun _ _ => False) := by
  refine aMd_of RX9 ⟨by decide +kernel, rfl⟩ (cat_all rfl) (Nat.le_of_ble_eq_true rfl) hl hX.cl (fun f hR hC hE => ?_)
  show AW f g 0 [some (.ref (gAd g 0))] [] q 0 0
  unfold w_X9_meanDamp0 at h
  refine a_aload_n (pc := 0) hC dX9_meanDamp_0 rfl ?_
  refine a_get (pc := 1) hC cl_X9 (oX_0 hX) 0 (by decide) tw_303 rfl dX9_meanDamp_1 ?_
  refine a_get (pc := 4) hC cl_X8 (oX_1 hX) 0 (by decide) tw_151 rfl dX9_meanDamp_4 ?_
  refine a_get (pc := 7) hC cl_X6 (oX_2 hX) 0 (by decide) tw_56 rfl dX9_meanDamp_7 ?_
  refine a_if_ne (pc := 10) (tgt := 23) hC dX9_meanDamp_10 (by decide) (fun c => ?_) (fun c => ?_)
  · replace h := h.1 c
    refine a_aload_n (pc := 23) hC dX9_meanDamp_23 rfl ?_
    refine a_get (pc := 24) hC cl_X9 (oX_0 hX) 0 (by decide) tw_303 rfl dX9_meanDamp_24 ?_
    refine a_callV (pc := 27) hC hR vm_X8_dampOfAll tw_339 cl_X8 (oX_1 hX) ⟨(Nat.le_of_ble_eq_true rfl), (Nat.le_of_ble_eq_true rfl), (Nat.le_of_ble_eq_true rfl), (Nat.le_of_ble_eq_true rfl)⟩ dX9_meanDamp_27 (t_X8_dampOfAll hX hC.tr _ _ h) rfl rfl rfl (Nat.le_of_ble_eq_true rfl) (fun r1 q2 h => ?_)
    refine a_i2d (pc := 30) hC dX9_meanDamp_30 ?_
    refine a_aload_n (pc := 31) hC dX9_meanDamp_31 rfl ?_
    refine a_get (pc := 32) hC cl_X9 (oX_0 hX) 0 (by decide) tw_303 rfl dX9_meanDamp_32 ?_
    refine a_get (pc := 35) hC cl_X8 (oX_1 hX) 0 (by decide) tw_151 rfl dX9_meanDamp_35 ?_
    refine a_get (pc := 38) hC cl_X6 (oX_2 hX) 0 (by decide) tw_56 rfl dX9_meanDamp_38 ?_
    refine a_i2d (pc := 41) hC dX9_meanDamp_41 ?_
    refine a_ddiv (pc := 42) hC dX9_meanDamp_42 h.1 ?_
    replace h := h.2
    exact a_dret (pc := 43) hC hE h (Nat.le_of_ble_eq_true rfl) (Nat.le_of_ble_eq_true rfl) dX9_meanDamp_43
  · replace h := h.2 c
    exact h.elim
set_option maxRecDepth 20000 in
theorem t_X9_letShare0 {l : Launch} {g : aG} (hX : isX g) (hl : l.stackTraces = false) (q : aS) (P : UInt32 → aS → Prop) (h : w_X9_letShare0 q P) : aMf l g yX9_letShare (aWs yX9_letShare cX9_letShare 1 (some .float)) 2 0 0 [.ref (gAd g 0)] q P (fun _ _ => False) := by
  refine aMf_of RX9 ⟨by decide +kernel, rfl⟩ (cat_all rfl) (Nat.le_of_ble_eq_true rfl) hl hX.cl (fun f hR hC hE => ?_)
  show AW f g 0 [some (.ref (gAd g 0))] [] q 0 0
  unfold w_X9_letShare0 at h
  refine a_aload_n (pc := 0) hC dX9_letShare_0 rfl ?_
  refine a_get (pc := 1) hC cl_X9 (oX_0 hX) 0 (by decide) tw_303 rfl dX9_letShare_1 ?_
  refine a_get (pc := 4) hC cl_X8 (oX_1 hX) 1 (by decide) tw_153 rfl dX9_letShare_4 ?_
  refine a_get (pc := 7) hC cl_X1 (oX_6 hX) 0 (by decide) tw_84 rfl dX9_letShare_7 ?_
  refine a_if_ne (pc := 10) (tgt := 24) hC dX9_letShare_10 (by decide) (fun c => ?_) (fun c => ?_)
  · replace h := h.1 c
    refine a_aload_n (pc := 24) hC dX9_letShare_24 rfl ?_
    refine a_get (pc := 25) hC cl_X9 (oX_0 hX) 0 (by decide) tw_303 rfl dX9_letShare_25 ?_
    refine a_callV (pc := 28) hC hR vm_X8_countLet tw_331 cl_X8 (oX_1 hX) ⟨(Nat.le_of_ble_eq_true rfl), (Nat.le_of_ble_eq_true rfl), (Nat.le_of_ble_eq_true rfl), (Nat.le_of_ble_eq_true rfl)⟩ dX9_letShare_28 (t_X8_countLet hX hC.tr _ _ h) rfl rfl rfl (Nat.le_of_ble_eq_true rfl) (fun r1 q2 h => ?_)
    refine a_i2f (pc := 31) hC dX9_letShare_31 ?_
    refine a_aload_n (pc := 32) hC dX9_letShare_32 rfl ?_
    refine a_get (pc := 33) hC cl_X9 (oX_0 hX) 0 (by decide) tw_303 rfl dX9_letShare_33 ?_
    refine a_get (pc := 36) hC cl_X8 (oX_1 hX) 1 (by decide) tw_153 rfl dX9_letShare_36 ?_
    refine a_get (pc := 39) hC cl_X1 (oX_6 hX) 0 (by decide) tw_84 rfl dX9_letShare_39 ?_
    refine a_i2f (pc := 42) hC dX9_letShare_42 ?_
    refine a_fdiv (pc := 43) hC dX9_letShare_43 h.1 ?_
    replace h := h.2
    exact a_fret (pc := 44) hC hE h (Nat.le_of_ble_eq_true rfl) (Nat.le_of_ble_eq_true rfl) dX9_letShare_44
  · replace h := h.2 c
    exact h.elim

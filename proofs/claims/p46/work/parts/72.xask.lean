/-! what is asked of the class' State, as numbers of u -/
def gSin (u : pU) (x : Int32) (j : Nat) : Int32 := if u 14 j = x then 1 <<< (nI j &&& 31) else 0
def pSin (u : pU) (x : Int32) : Int32 := orTo (gSin u x) (cS u)
def gEin (u : pU) (x : Int32) (j : Nat) : Int32 := if u 6 j = x then 1 <<< (nI j &&& 31) else 0
def pEin (u : pU) (x : Int32) : Int32 := orTo (gEin u x) (cE u)
def gFin (u : pU) (x : Int32) (j : Nat) : Int32 := if u 6 j = x ∧ u 8 j = -1 then 1 <<< (nI j &&& 31) else 0
def pFin (u : pU) (x : Int32) : Int32 := orTo (gFin u x) (cE u)
def b_1 (x : Int32) : Int32 := x - ((ushr x 1) &&& 1431655765)
def b_2 (x : Int32) : Int32 := (x &&& 858993459) + ((ushr x 2) &&& 858993459)
def b_3 (x : Int32) : Int32 := (x + (ushr x 4)) &&& 252645135
def b_4 (x : Int32) : Int32 := x + (ushr x 8)
def b_5 (x : Int32) : Int32 := x + (ushr x 16)
def bc_ (x : Int32) : Int32 := b_5 (b_4 (b_3 (b_2 (b_1 x)))) &&& 63
def mx_ (a b : Int32) : Int32 := if a < b then b else a
def mi_ (a b : Int32) : Int32 := if a < b then a else b
def p0_ (x : Int32) : Int32 := if 0 < x then x else 0
def pW (u : pU) (e : Nat) : Int32 := p0_ (u 7 e - u 3 (u 6 e).toNatClampNeg)
def gTon (u : pU) (s r : Int32) (e : Nat) : Int32 := if u 6 e = r ∧ u 8 e = s then pW u e else 0
def pTon (u : pU) (s r : Int32) : Int32 := sumTo (gTon u s r) (cE u)
def gCnt (u : pU) (t s r : Int32) (e : Nat) : Int32 := if (u 6 e = r ∧ u 8 e = s) ∧ u 7 e = t then 1 else 0
def pCnt (u : pU) (t s r : Int32) : Int32 := sumTo (gCnt u t s r) (cE u)
def gTI (u : pU) (s r v d : Int32) (e : Nat) : Int32 := if (u 6 e = r ∧ u 8 e = s) ∧ ¬ u 9 e ≤ v then p0_ (u 7 e - d) else 0
def pDm (u : pU) (r v : Int32) : Int32 := if u 3 r.toNatClampNeg + v < 9 then u 3 r.toNatClampNeg + v else 9
def pTI (u : pU) (s r v : Int32) : Int32 := sumTo (gTI u s r v (pDm u r v)) (cE u)
def gLt (u : pU) (s : Int32) (e : Nat) : Int32 := if u 8 e = s then 1 else 0
def pLt (u : pU) (s : Int32) : Int32 := sumTo (gLt u s) (cE u)
def gHd (u : pU) (s : Int32) (e : Nat) : Int32 := if u 8 e = s then u 7 e else 0
def pHd (u : pU) (s : Int32) : Int32 := sumTo (gHd u s) (cE u)
def mxE (u : pU) (s r : Int32) : Nat → Int32
  | 0 => 0
  | e + 1 => if u 6 e = r ∧ u 8 e = s then mx_ (mxE u s r e) (mi_ (pW u e) (u 9 e)) else mxE u s r e
/-- the echoes' rooms are there -/
def Ech (u : pU) : Prop := ∀ e, e < cE u → ∃ r, r < cR u ∧ u 6 e = nI r
theorem x_bc {q : aS} {P : Int32 → aS → Prop} (x : Int32) (k : P (bc_ x) q) : w_J6_bitCount_0f7a4 x q P := by
  unfold w_J6_bitCount_0f7a4
  intro x2 e2 x3 e3 x4 e4 x5 e5 x6 e6
  subst e2 e3 e4 e5 e6
  exact k
section XQ
variable {q : aS} {u : pU} {P : Int32 → aS → Prop}
theorem x_hasRoom (h : RX 1 q.1 u) (hc : Cnt u) (x : Int32) (k0 : (x < 0 ∨ nI (cR u) ≤ x) → P 0 q) (k1 : ∀ j, j < cR u → x = nI j → P 1 q) : w_X8_hasRoom x q P := by
  have hn := (rx_2 h).trans hc.1.1
  have hb := hc.1.2
  unfold w_X8_hasRoom
  rw [hn]
  refine ⟨fun c => k0 (Or.inl c), fun c => ⟨fun c2 => k0 (Or.inr c2), fun c2 => ?_⟩⟩
  obtain ⟨j, hj, e⟩ := has_of (by omega) c c2
  exact k1 j hj e
theorem x_hasEcho (h : RX 1 q.1 u) (hc : Cnt u) (x : Int32) (k0 : (x < 0 ∨ nI (cE u) ≤ x) → P 0 q) (k1 : ∀ j, j < cE u → x = nI j → P 1 q) : w_X8_hasEcho x q P := by
  have hn := (rx_6 h).trans hc.2.1.1
  have hb := hc.2.1.2
  unfold w_X8_hasEcho
  rw [hn]
  refine ⟨fun c => k0 (Or.inl c), fun c => ⟨fun c2 => k0 (Or.inr c2), fun c2 => ?_⟩⟩
  obtain ⟨j, hj, e⟩ := has_of (by omega) c c2
  exact k1 j hj e
theorem x_hasSinger (h : RX 1 q.1 u) (hc : Cnt u) (x : Int32) (k0 : (x < 0 ∨ nI (cS u) ≤ x) → P 0 q) (k1 : ∀ j, j < cS u → x = nI j → P 1 q) : w_X8_hasSinger x q P := by
  have hn := (rx_12 h).trans hc.2.2.1
  have hb := hc.2.2.2
  unfold w_X8_hasSinger
  rw [hn]
  refine ⟨fun c => k0 (Or.inl c), fun c => ⟨fun c2 => k0 (Or.inr c2), fun c2 => ?_⟩⟩
  obtain ⟨j, hj, e⟩ := has_of (by omega) c c2
  exact k1 j hj e
theorem x_isInside (h : RX 1 q.1 u) {j : Nat} (hj : j < 6) (k0 : u 14 j = -1 → P 0 q) (k1 : ¬ u 14 j = -1 → P 1 q) : w_X8_isInside (nI j) q P := by
  unfold w_X8_isInside
  rw [nI_c (by omega), rx_15 h hj]
  exact ⟨vp_in_nI hj (by decide), k0, k1⟩
theorem x_isLet (h : RX 1 q.1 u) {j : Nat} (hj : j < 8) (k0 : u 8 j = -1 → P 0 q) (k1 : ¬ u 8 j = -1 → P 1 q) : w_X8_isLet (nI j) q P := by
  unfold w_X8_isLet
  rw [nI_c (by omega), rx_9 h hj]
  exact ⟨vp_in_nI hj (by decide), k0, k1⟩
theorem x_isWithEcho (h : RX 1 q.1 u) {i j : Nat} (hi : i < 6) (hj : j < 8) (k0 : ¬ u 14 i = u 6 j → P 0 q) (k1 : u 14 i = u 6 j → P 1 q) : w_X8_isWithEcho (nI i) (nI j) q P := by
  unfold w_X8_isWithEcho
  rw [nI_c (by omega), nI_c (by omega), rx_15 h hi, rx_7 h hj]
  exact ⟨vp_in_nI hi (by decide), vp_in_nI hj (by decide), k0, k1⟩
theorem x_canPayFor (h : RX 1 q.1 u) {i j : Nat} (hi : i < 6) (hj : j < 8) (k0 : u 13 i < u 7 j → P 0 q) (k1 : ¬ u 13 i < u 7 j → P 1 q) : w_X8_canPayFor (nI i) (nI j) q P := by
  unfold w_X8_canPayFor
  rw [nI_c (by omega), nI_c (by omega), rx_14 h hi, rx_8 h hj]
  exact ⟨vp_in_nI hi (by decide), vp_in_nI hj (by decide), k0, k1⟩
theorem x_singersIn (h : RX 1 q.1 u) (hc : Cnt u) (x : Int32) (k : P (pSin u x) q) : w_X8_singersIn x q P := by
  unfold w_X8_singersIn
  have hn := (rx_12 h).trans hc.2.2.1
  have hb := hc.2.2.2
  refine lp_0 (fun m v i => LX8_singersIn_4 x P _ m v i q) (fun j v => v = orTo (gSin u x) j) (cS u) 0 rfl (fun m v hv => ?_) (fun m j v hj hv hk => ?_)
  · subst hv
    have hle := nI_le (Nat.le_refl (cS u)) (by omega)
    simp only [LX8_singersIn_4, hn, hle, forall_eq, eq_self, nI_1, false_implies, not_false_eq_true, not_true_eq_false, true_implies, true_and, and_true]
    exact k
  · subst hv
    have hlt := nI_ge hj (by omega)
    have hin : vp_in (nI j) 6 := vp_in_nI (by omega) (by decide)
    have hj9 : j < 6 := by omega
    have hjc := nI_c (show j < 100000 by omega)
    simp only [LX8_singersIn_4, hn, hlt, hin, hjc, rx_15 h hj9, forall_eq, eq_self, nI_1, false_implies, not_false_eq_true, not_true_eq_false, true_implies, true_and, and_true]
    refine ⟨fun c => hk _ ?_, fun c => hk _ ?_⟩
    · show _ = orTo _ j ||| gSin u x j
      rw [gSin, if_neg c, Int32.or_zero]
    · show _ = orTo _ j ||| gSin u x j
      rw [gSin, if_pos c]
theorem x_echoesIn (h : RX 1 q.1 u) (hc : Cnt u) (x : Int32) (k : P (pEin u x) q) : w_X8_echoesIn x q P := by
  unfold w_X8_echoesIn
  have hn := (rx_6 h).trans hc.2.1.1
  have hb := hc.2.1.2
  refine lp_0 (fun m v i => LX8_echoesIn_4 x P _ m v i q) (fun j v => v = orTo (gEin u x) j) (cE u) 0 rfl (fun m v hv => ?_) (fun m j v hj hv hk => ?_)
  · subst hv
    have hle := nI_le (Nat.le_refl (cE u)) (by omega)
    simp only [LX8_echoesIn_4, hn, hle, forall_eq, eq_self, nI_1, false_implies, not_false_eq_true, not_true_eq_false, true_implies, true_and, and_true]
    exact k
  · subst hv
    have hlt := nI_ge hj (by omega)
    have hin : vp_in (nI j) 8 := vp_in_nI (by omega) (by decide)
    have hj9 : j < 8 := by omega
    have hjc := nI_c (show j < 100000 by omega)
    simp only [LX8_echoesIn_4, hn, hlt, hin, hjc, rx_7 h hj9, forall_eq, eq_self, nI_1, false_implies, not_false_eq_true, not_true_eq_false, true_implies, true_and, and_true]
    refine ⟨fun c => hk _ ?_, fun c => hk _ ?_⟩
    · show _ = orTo _ j ||| gEin u x j
      rw [gEin, if_neg c, Int32.or_zero]
    · show _ = orTo _ j ||| gEin u x j
      rw [gEin, if_pos c]
theorem x_freeIn (h : RX 1 q.1 u) (hc : Cnt u) (x : Int32) (k : P (pFin u x) q) : w_X8_freeIn x q P := by
  unfold w_X8_freeIn
  have hn := (rx_6 h).trans hc.2.1.1
  have hb := hc.2.1.2
  refine lp_0 (fun m v i => LX8_freeIn_4 x P _ m v i q) (fun j v => v = orTo (gFin u x) j) (cE u) 0 rfl (fun m v hv => ?_) (fun m j v hj hv hk => ?_)
  · subst hv
    have hle := nI_le (Nat.le_refl (cE u)) (by omega)
    simp only [LX8_freeIn_4, hn, hle, forall_eq, eq_self, nI_1, false_implies, not_false_eq_true, not_true_eq_false, true_implies, true_and, and_true]
    exact k
  · subst hv
    have hlt := nI_ge hj (by omega)
    have hin : vp_in (nI j) 8 := vp_in_nI (by omega) (by decide)
    have hj9 : j < 8 := by omega
    have hjc := nI_c (show j < 100000 by omega)
    simp only [LX8_freeIn_4, hn, hlt, hin, hjc, rx_7 h hj9, forall_eq, eq_self, nI_1, false_implies, not_false_eq_true, not_true_eq_false, true_implies, true_and, and_true]
    refine ⟨fun c => hk _ ?_, fun c => x_isLet h hj9 (fun c2 => ?_) (fun c2 => ?_)⟩
    · show _ = orTo _ j ||| gFin u x j
      rw [gFin, if_neg (fun z => c z.1), Int32.or_zero]
    · refine ⟨fun z => absurd rfl z, fun _ => hk _ ?_⟩
      show _ = orTo _ j ||| gFin u x j
      rw [gFin, if_pos ⟨c, c2⟩]
    · refine ⟨fun _ => hk _ ?_, fun z => absurd z (by decide)⟩
      show _ = orTo _ j ||| gFin u x j
      rw [gFin, if_neg (fun z => c2 z.2), Int32.or_zero]
theorem x_isFull (h : RX 1 q.1 u) (hc : Cnt u) {j : Nat} (hj : j < 6) (k0 : bc_ (pSin u (nI j)) < u 2 j → P 0 q) (k1 : ¬ bc_ (pSin u (nI j)) < u 2 j → P 1 q) : w_X8_isFull (nI j) q P := by
  unfold w_X8_isFull
  refine x_singersIn h hc _ (x_bc _ ?_)
  rw [nI_c (by omega), rx_3 h hj]
  exact ⟨vp_in_nI hj (by decide), k0, k1⟩
theorem x_isTooShyFor (h : RX 1 q.1 u) (hc : Cnt u) {i : Nat} (x : Int32) (hi : i < 6) (k0 : bc_ (pSin u x) ≤ (9 - u 12 i) / 3 → P 0 q) (k1 : ¬ bc_ (pSin u x) ≤ (9 - u 12 i) / 3 → P 1 q) : w_X8_isTooShyFor (nI i) x q P := by
  unfold w_X8_isTooShyFor
  refine x_singersIn h hc _ (x_bc _ ?_)
  rw [nI_c (by omega), rx_13 h hi]
  exact ⟨vp_in_nI hi (by decide), k0, k1⟩
theorem x_aboveDamp (h : RX 1 q.1 u) (hc : Cnt u) (he : Ech u) {j : Nat} (hj : j < cE u) (k : P (pW u j) q) : w_X8_aboveDamp (nI j) q P := by
  have hb := hc.2.1.2
  have hb2 := hc.1.2
  obtain ⟨r, hr, er⟩ := he j hj
  unfold w_X8_aboveDamp
  rw [nI_c (by omega), rx_7 h (j := j) (by omega), rx_8 h (j := j) (by omega), er, nI_c (by omega), rx_4 h (j := r) (by omega)]
  refine ⟨vp_in_nI (by omega) (by decide), vp_in_nI (by omega) (by decide), vp_in_nI (by omega) (by decide), ?_⟩
  unfold pW p0_ at k
  rw [er, nI_c (by omega)] at k
  exact k
theorem x_isHeard (h : RX 1 q.1 u) {j : Nat} (hj : j < 8) (s r : Int32) (k0 : ¬ (u 6 j = r ∧ u 8 j = s) → P 0 q) (k1 : u 6 j = r ∧ u 8 j = s → P 1 q) : w_X8_isHeard (nI j) s r q P := by
  unfold w_X8_isHeard
  rw [nI_c (by omega), rx_7 h hj, rx_9 h hj]
  exact ⟨vp_in_nI hj (by decide), fun c => k0 (fun z => c z.1), fun c => ⟨vp_in_nI hj (by decide), fun c2 => k0 (fun z => c2 z.2), fun c2 => k1 ⟨c, c2⟩⟩⟩
theorem i10 : ¬ (1 : Int32) = 0 := by decide
theorem x_tonesInRoom (h : RX 1 q.1 u) (hc : Cnt u) (he : Ech u) (s r : Int32) (k : P (pTon u s r) q) : w_X8_tonesInRoom s r q P := by
  unfold w_X8_tonesInRoom
  have hn := (rx_6 h).trans hc.2.1.1
  have hb := hc.2.1.2
  refine lp_0 (fun m v i => LX8_tonesInRoom_5 s r P _ m v i q) (fun j v => v = sumTo (gTon u s r) j) (cE u) 0 rfl (fun m v hv => ?_) (fun m j v hj hv hk => ?_)
  · subst hv
    have hle := nI_le (Nat.le_refl (cE u)) (by omega)
    simp only [LX8_tonesInRoom_5, hn, hle, forall_eq, eq_self, nI_1, false_implies, not_false_eq_true, not_true_eq_false, true_implies, true_and, and_true]
    exact k
  · subst hv
    have hlt := nI_ge hj (by omega)
    have hin : vp_in (nI j) 8 := vp_in_nI (by omega) (by decide)
    have hj9 : j < 8 := by omega
    have hjc := nI_c (show j < 100000 by omega)
    simp only [LX8_tonesInRoom_5, hn, hlt, hin, hjc, forall_eq, eq_self, nI_1, false_implies, not_false_eq_true, not_true_eq_false, true_implies, true_and, and_true]
    refine x_isHeard h hj9 s r (fun c => ⟨fun _ => hk _ ?_, fun z => absurd rfl z⟩) (fun c => ⟨fun z => absurd z i10, fun _ => x_aboveDamp h hc he hj (hk _ ?_)⟩)
    · show _ = sumTo _ j + gTon u s r j
      rw [gTon, if_neg c, Int32.add_zero]
    · show _ = sumTo _ j + gTon u s r j
      rw [gTon, if_pos c]
theorem x_countHeardOf (h : RX 1 q.1 u) (hc : Cnt u) (t s r : Int32) (k : P (pCnt u t s r) q) : w_X8_countHeardOf t s r q P := by
  unfold w_X8_countHeardOf
  have hn := (rx_6 h).trans hc.2.1.1
  have hb := hc.2.1.2
  refine lp_0 (fun m v i => LX8_countHeardOf_6 t s r P _ m v i q) (fun j v => v = sumTo (gCnt u t s r) j) (cE u) 0 rfl (fun m v hv => ?_) (fun m j v hj hv hk => ?_)
  · subst hv
    have hle := nI_le (Nat.le_refl (cE u)) (by omega)
    simp only [LX8_countHeardOf_6, hn, hle, forall_eq, eq_self, nI_1, false_implies, not_false_eq_true, not_true_eq_false, true_implies, true_and, and_true]
    exact k
  · subst hv
    have hlt := nI_ge hj (by omega)
    have hin : vp_in (nI j) 8 := vp_in_nI (by omega) (by decide)
    have hj9 : j < 8 := by omega
    have hjc := nI_c (show j < 100000 by omega)
    simp only [LX8_countHeardOf_6, hn, hlt, hin, hjc, rx_8 h hj9, forall_eq, eq_self, nI_1, false_implies, not_false_eq_true, not_true_eq_false, true_implies, true_and, and_true]
    refine x_isHeard h hj9 s r (fun c => ⟨fun _ => hk _ ?_, fun z => absurd rfl z⟩) (fun c => ⟨fun z => absurd z i10, fun _ => ?_⟩)
    · show _ = sumTo _ j + gCnt u t s r j
      rw [gCnt, if_neg (fun z => c z.1), Int32.add_zero]
    · simp only [rx_8 h hj9]
      refine ⟨fun c2 => hk _ ?_, fun c2 => hk _ ?_⟩
      · show _ = sumTo _ j + gCnt u t s r j
        rw [gCnt, if_neg (fun z => c2 z.2), Int32.add_zero]
      · show _ = sumTo _ j + gCnt u t s r j
        rw [gCnt, if_pos ⟨c, c2⟩]
theorem x_tonesAfter (h : RX 1 q.1 u) (hc : Cnt u) {si r : Nat} (hi : si < 6) (hr : r < 6) (er : u 14 si = nI r) (sg : Int32) (k : P (pTI u (nI si) (nI r) sg) q) : w_X8_tonesAfter (nI si) sg q P := by
  unfold w_X8_tonesAfter
  rw [nI_c (show si < 100000 by omega), rx_15 h hi, er]
  refine ⟨vp_in_nI hi (by decide), ?_⟩
  intro x3 e3
  subst e3
  rw [nI_c (show r < 100000 by omega), rx_4 h hr]
  refine ⟨vp_in_nI hr (by decide), ?_⟩
  intro x4 e4
  have e5 : x4 = pDm u (nI r) sg := by
    unfold pDm
    rw [nI_c (show r < 100000 by omega)]
    exact e4
  clear e4
  subst e5
  have hn := (rx_6 h).trans hc.2.1.1
  have hb := hc.2.1.2
  refine lp_0 (fun m v i => LX8_tonesAfter_34 (nI si) sg (nI r) (pDm u (nI r) sg) P _ m v i q) (fun j v => v = sumTo (gTI u (nI si) (nI r) sg (pDm u (nI r) sg)) j) (cE u) 0 rfl (fun m v hv => ?_) (fun m j v hj hv hk => ?_)
  · subst hv
    have hle := nI_le (Nat.le_refl (cE u)) (by omega)
    simp only [LX8_tonesAfter_34, hn, hle, forall_eq, eq_self, nI_1, false_implies, not_false_eq_true, not_true_eq_false, true_implies, true_and, and_true]
    exact k
  · subst hv
    have hlt := nI_ge hj (by omega)
    have hin : vp_in (nI j) 8 := vp_in_nI (by omega) (by decide)
    have hj9 : j < 8 := by omega
    have hjc := nI_c (show j < 100000 by omega)
    simp only [LX8_tonesAfter_34, hn, hlt, hin, hjc, rx_8 h hj9, rx_10 h hj9, forall_eq, eq_self, nI_1, false_implies, not_false_eq_true, not_true_eq_false, true_implies, true_and, and_true]
    refine x_isHeard h hj9 _ _ (fun c => ⟨fun _ => hk _ ?_, fun z => absurd rfl z⟩) (fun c => ⟨fun z => absurd z i10, fun _ => ?_⟩)
    · show _ = sumTo _ j + gTI u _ _ _ _ j
      rw [gTI, if_neg (fun z => c z.1), Int32.add_zero]
    · simp only [rx_8 h hj9, rx_10 h hj9]
      refine ⟨fun c2 => hk _ ?_, fun c2 => hk _ ?_⟩
      · show _ = sumTo _ j + gTI u _ _ _ _ j
        rw [gTI, if_neg (fun z => z.2 c2), Int32.add_zero]
      · show _ = sumTo _ j + gTI u _ _ _ _ j
        rw [gTI, if_pos (show (u 6 j = nI r ∧ u 8 j = nI si) ∧ ¬ u 9 j ≤ sg from ⟨c, c2⟩)]
        rfl
theorem x_versesByEcho (h : RX 1 q.1 u) (hc : Cnt u) (he : Ech u) {si : Nat} (hi : si < 6) (k : P (mxE u (nI si) (u 14 si) (cE u)) q) : w_X8_versesByEcho (nI si) q P := by
  unfold w_X8_versesByEcho
  have hsi : vp_in (nI si) 6 := vp_in_nI hi (by decide)
  have hsc := nI_c (show si < 100000 by omega)
  have hn := (rx_6 h).trans hc.2.1.1
  have hb := hc.2.1.2
  refine lp_0 (fun m v i => LX8_versesByEcho_4 (nI si) P _ m v i q) (fun j v => v = mxE u (nI si) (u 14 si) j) (cE u) 0 rfl (fun m v hv => ?_) (fun m j v hj hv hk => ?_)
  · subst hv
    have hle := nI_le (Nat.le_refl (cE u)) (by omega)
    simp only [LX8_versesByEcho_4, hn, hle, forall_eq, eq_self, nI_1, false_implies, not_false_eq_true, not_true_eq_false, true_implies, true_and, and_true]
    exact k
  · subst hv
    have hlt := nI_ge hj (by omega)
    have hin : vp_in (nI j) 8 := vp_in_nI (by omega) (by decide)
    have hj9 : j < 8 := by omega
    have hjc := nI_c (show j < 100000 by omega)
    simp only [LX8_versesByEcho_4, hn, hlt, hin, hjc, hsi, hsc, rx_15 h hi, rx_10 h hj9, forall_eq, eq_self, nI_1, false_implies, not_false_eq_true, not_true_eq_false, true_implies, true_and, and_true]
    refine x_isHeard h hj9 _ _ (fun c => ⟨fun _ => hk _ ?_, fun z => absurd rfl z⟩) (fun c => ⟨fun z => absurd z i10, fun _ => x_aboveDamp h hc he hj (hk _ ?_)⟩)
    · show _ = if _ then _ else _
      rw [if_neg c]
    · simp only [rx_10 h hj9]
      show _ = if _ then _ else _
      rw [if_pos c]
      rfl
theorem x_countLetTo (h : RX 1 q.1 u) (hc : Cnt u) (s : Int32) (k : P (pLt u s) q) : w_X8_countLetTo s q P := by
  unfold w_X8_countLetTo
  have hn := (rx_6 h).trans hc.2.1.1
  have hb := hc.2.1.2
  refine lp_0 (fun m v i => LX8_countLetTo_4 s P _ m v i q) (fun j v => v = sumTo (gLt u s) j) (cE u) 0 rfl (fun m v hv => ?_) (fun m j v hj hv hk => ?_)
  · subst hv
    have hle := nI_le (Nat.le_refl (cE u)) (by omega)
    simp only [LX8_countLetTo_4, hn, hle, forall_eq, eq_self, nI_1, false_implies, not_false_eq_true, not_true_eq_false, true_implies, true_and, and_true]
    exact k
  · subst hv
    have hlt := nI_ge hj (by omega)
    have hin : vp_in (nI j) 8 := vp_in_nI (by omega) (by decide)
    have hj9 : j < 8 := by omega
    have hjc := nI_c (show j < 100000 by omega)
    simp only [LX8_countLetTo_4, hn, hlt, hin, hjc, rx_9 h hj9, forall_eq, eq_self, nI_1, false_implies, not_false_eq_true, not_true_eq_false, true_implies, true_and, and_true]
    refine ⟨fun c => hk _ ?_, fun c => hk _ ?_⟩
    · show _ = sumTo _ j + gLt u s j
      rw [gLt, if_neg c, Int32.add_zero]
    · show _ = sumTo _ j + gLt u s j
      rw [gLt, if_pos c]
theorem x_countLet (h : RX 1 q.1 u) (hc : Cnt u) (k : P (u 5 0 - pLt u (-1)) q) : w_X8_countLet q P := by
  unfold w_X8_countLet
  refine x_countLetTo h hc _ ?_
  rw [rx_6 h]
  exact k
theorem x_heldOf (h : RX 1 q.1 u) (hc : Cnt u) (s : Int32) (k : P (pHd u s) q) : w_X8_heldOf s q P := by
  unfold w_X8_heldOf
  have hn := (rx_6 h).trans hc.2.1.1
  have hb := hc.2.1.2
  refine lp_0 (fun m v i => LX8_heldOf_4 s P _ m v i q) (fun j v => v = sumTo (gHd u s) j) (cE u) 0 rfl (fun m v hv => ?_) (fun m j v hj hv hk => ?_)
  · subst hv
    have hle := nI_le (Nat.le_refl (cE u)) (by omega)
    simp only [LX8_heldOf_4, hn, hle, forall_eq, eq_self, nI_1, false_implies, not_false_eq_true, not_true_eq_false, true_implies, true_and, and_true]
    exact k
  · subst hv
    have hlt := nI_ge hj (by omega)
    have hin : vp_in (nI j) 8 := vp_in_nI (by omega) (by decide)
    have hj9 : j < 8 := by omega
    have hjc := nI_c (show j < 100000 by omega)
    simp only [LX8_heldOf_4, hn, hlt, hin, hjc, rx_9 h hj9, rx_8 h hj9, forall_eq, eq_self, nI_1, false_implies, not_false_eq_true, not_true_eq_false, true_implies, true_and, and_true]
    refine ⟨fun c => hk _ ?_, fun c => hk _ ?_⟩
    · show _ = sumTo _ j + gHd u s j
      rw [gHd, if_neg c, Int32.add_zero]
    · show _ = sumTo _ j + gHd u s j
      rw [gHd, if_pos c]
theorem x_heldOfAll (h : RX 1 q.1 u) (hc : Cnt u) (k : P (sumTo (fun j => pHd u (nI j)) (cS u)) q) : w_X8_heldOfAll q P := by
  unfold w_X8_heldOfAll
  have hn := (rx_12 h).trans hc.2.2.1
  have hb := hc.2.2.2
  refine lp_0 (fun m v i => LX8_heldOfAll_4 P _ m v i q) (fun j v => v = sumTo (fun j => pHd u (nI j)) j) (cS u) 0 rfl (fun m v hv => ?_) (fun m j v hj hv hk => ?_)
  · subst hv
    have hle := nI_le (Nat.le_refl (cS u)) (by omega)
    simp only [LX8_heldOfAll_4, hn, hle, forall_eq, eq_self, nI_1, false_implies, not_false_eq_true, not_true_eq_false, true_implies, true_and, and_true]
    exact k
  · subst hv
    have hlt := nI_ge hj (by omega)
    have hin : vp_in (nI j) 6 := vp_in_nI (by omega) (by decide)
    have hj9 : j < 6 := by omega
    have hjc := nI_c (show j < 100000 by omega)
    simp only [LX8_heldOfAll_4, hn, hlt, hin, hjc, forall_eq, eq_self, nI_1, false_implies, not_false_eq_true, not_true_eq_false, true_implies, true_and, and_true]
    refine x_heldOf h hc _ (hk _ ?_)
    rfl
theorem x_dampOfAll (h : RX 1 q.1 u) (hc : Cnt u) (k : P (sumTo (u 3) (cR u)) q) : w_X8_dampOfAll q P := by
  unfold w_X8_dampOfAll
  have hn := (rx_2 h).trans hc.1.1
  have hb := hc.1.2
  refine lp_0 (fun m v i => LX8_dampOfAll_4 P _ m v i q) (fun j v => v = sumTo (u 3) j) (cR u) 0 rfl (fun m v hv => ?_) (fun m j v hj hv hk => ?_)
  · subst hv
    have hle := nI_le (Nat.le_refl (cR u)) (by omega)
    simp only [LX8_dampOfAll_4, hn, hle, forall_eq, eq_self, nI_1, false_implies, not_false_eq_true, not_true_eq_false, true_implies, true_and, and_true]
    exact k
  · subst hv
    have hlt := nI_ge hj (by omega)
    have hin : vp_in (nI j) 6 := vp_in_nI (by omega) (by decide)
    have hj9 : j < 6 := by omega
    have hjc := nI_c (show j < 100000 by omega)
    simp only [LX8_dampOfAll_4, hn, hlt, hin, hjc, rx_4 h hj9, forall_eq, eq_self, nI_1, false_implies, not_false_eq_true, not_true_eq_false, true_implies, true_and, and_true]
    exact hk _ rfl
theorem x_versesOfAll (h : RX 1 q.1 u) (hc : Cnt u) (k : P (sumTo (u 4) (cR u)) q) : w_X8_versesOfAll q P := by
  unfold w_X8_versesOfAll
  have hn := (rx_2 h).trans hc.1.1
  have hb := hc.1.2
  refine lp_0 (fun m v i => LX8_versesOfAll_4 P _ m v i q) (fun j v => v = sumTo (u 4) j) (cR u) 0 rfl (fun m v hv => ?_) (fun m j v hj hv hk => ?_)
  · subst hv
    have hle := nI_le (Nat.le_refl (cR u)) (by omega)
    simp only [LX8_versesOfAll_4, hn, hle, forall_eq, eq_self, nI_1, false_implies, not_false_eq_true, not_true_eq_false, true_implies, true_and, and_true]
    exact k
  · subst hv
    have hlt := nI_ge hj (by omega)
    have hin : vp_in (nI j) 6 := vp_in_nI (by omega) (by decide)
    have hj9 : j < 6 := by omega
    have hjc := nI_c (show j < 100000 by omega)
    simp only [LX8_versesOfAll_4, hn, hlt, hin, hjc, rx_5 h hj9, forall_eq, eq_self, nI_1, false_implies, not_false_eq_true, not_true_eq_false, true_implies, true_and, and_true]
    exact hk _ rfl
theorem x_tonesOfAll (h : RX 1 q.1 u) (hc : Cnt u) (k : P (sumTo (u 10) (cE u)) q) : w_X8_tonesOfAll q P := by
  unfold w_X8_tonesOfAll
  have hn := (rx_6 h).trans hc.2.1.1
  have hb := hc.2.1.2
  refine lp_0 (fun m v i => LX8_tonesOfAll_4 P _ m v i q) (fun j v => v = sumTo (u 10) j) (cE u) 0 rfl (fun m v hv => ?_) (fun m j v hj hv hk => ?_)
  · subst hv
    have hle := nI_le (Nat.le_refl (cE u)) (by omega)
    simp only [LX8_tonesOfAll_4, hn, hle, forall_eq, eq_self, nI_1, false_implies, not_false_eq_true, not_true_eq_false, true_implies, true_and, and_true]
    exact k
  · subst hv
    have hlt := nI_ge hj (by omega)
    have hin : vp_in (nI j) 8 := vp_in_nI (by omega) (by decide)
    have hj9 : j < 8 := by omega
    have hjc := nI_c (show j < 100000 by omega)
    simp only [LX8_tonesOfAll_4, hn, hlt, hin, hjc, rx_11 h hj9, forall_eq, eq_self, nI_1, false_implies, not_false_eq_true, not_true_eq_false, true_implies, true_and, and_true]
    exact hk _ rfl
end XQ

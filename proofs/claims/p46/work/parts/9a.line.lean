/-! the law: a line is as is told -/
theorem dL_isLine_0 : decode cL_isLine 0 = .ok (.iload_n 1, 1) := by decide +kernel
theorem dL_isLine_1 : decode cL_isLine 1 = .ok (.aload_n 2, 1) := by decide +kernel
theorem dL_isLine_2 : decode cL_isLine 2 = .ok (.invokevirtual 15, 3) := by decide +kernel
theorem dL_isLine_5 : decode cL_isLine 5 = .ok (.if_icmp .ne 7, 3) := by decide +kernel
theorem dL_isLine_8 : decode cL_isLine 8 = .ok (.iconst 1, 1) := by decide +kernel
theorem dL_isLine_9 : decode cL_isLine 9 = .ok (.goto 4, 3) := by decide +kernel
theorem dL_isLine_12 : decode cL_isLine 12 = .ok (.iconst 0, 1) := by decide +kernel
theorem dL_isLine_13 : decode cL_isLine 13 = .ok (.istore_n 3, 1) := by decide +kernel
theorem dL_isLine_14 : decode cL_isLine 14 = .ok (.iconst 0, 1) := by decide +kernel
theorem dL_isLine_15 : decode cL_isLine 15 = .ok (.istore 4, 2) := by decide +kernel
theorem dL_isLine_17 : decode cL_isLine 17 = .ok (.iload 4, 2) := by decide +kernel
theorem dL_isLine_19 : decode cL_isLine 19 = .ok (.aload_n 2, 1) := by decide +kernel
theorem dL_isLine_20 : decode cL_isLine 20 = .ok (.invokevirtual 15, 3) := by decide +kernel
theorem dL_isLine_23 : decode cL_isLine 23 = .ok (.if_icmp .ge 34, 3) := by decide +kernel
theorem dL_isLine_26 : decode cL_isLine 26 = .ok (.iload_n 3, 1) := by decide +kernel
theorem dL_isLine_27 : decode cL_isLine 27 = .ok (.ifCond .eq 30, 3) := by decide +kernel
theorem dL_isLine_30 : decode cL_isLine 30 = .ok (.aload_n 0, 1) := by decide +kernel
theorem dL_isLine_31 : decode cL_isLine 31 = .ok (.iload 4, 2) := by decide +kernel
theorem dL_isLine_33 : decode cL_isLine 33 = .ok (.invokevirtual 193, 3) := by decide +kernel
theorem dL_isLine_36 : decode cL_isLine 36 = .ok (.aload_n 2, 1) := by decide +kernel
theorem dL_isLine_37 : decode cL_isLine 37 = .ok (.iload 4, 2) := by decide +kernel
theorem dL_isLine_39 : decode cL_isLine 39 = .ok (.invokevirtual 21, 3) := by decide +kernel
theorem dL_isLine_42 : decode cL_isLine 42 = .ok (.if_icmp .ne 7, 3) := by decide +kernel
theorem dL_isLine_45 : decode cL_isLine 45 = .ok (.iconst 1, 1) := by decide +kernel
theorem dL_isLine_46 : decode cL_isLine 46 = .ok (.goto 4, 3) := by decide +kernel
theorem dL_isLine_49 : decode cL_isLine 49 = .ok (.iconst 0, 1) := by decide +kernel
theorem dL_isLine_50 : decode cL_isLine 50 = .ok (.istore_n 3, 1) := by decide +kernel
theorem dL_isLine_51 : decode cL_isLine 51 = .ok (.iinc 4 1, 3) := by decide +kernel
theorem dL_isLine_54 : decode cL_isLine 54 = .ok (.goto (-37), 3) := by decide +kernel
theorem dL_isLine_57 : decode cL_isLine 57 = .ok (.iload_n 3, 1) := by decide +kernel
theorem dL_isLine_58 : decode cL_isLine 58 = .ok (.ireturn, 1) := by decide +kernel
theorem sm_L_isLine : aSm yL_isLine cL_isLine 5 (some .boolean) 3 := ⟨tw_1373, tw_1372, tw_0, by decide +kernel, by decide +kernel, by decide +kernel⟩
theorem okT_nil : okT [] := ⟨Nat.zero_le _, fun j hj => absurd hj (Nat.not_lt_zero j)⟩
theorem okT_app {v w : List Nat} (hv : okT v) (hw : okT w) (h : v.length + w.length ≤ 60) : okT (v ++ w) := by
  refine ⟨by rw [List.length_append]; exact h, fun j hj => ?_⟩
  rw [List.length_append] at hj
  rw [getD_cat]
  split
  · exact hv.2 j (by assumption)
  · exact hw.2 (j - v.length) (by omega)
theorem okT_1 {c : Nat} (hc : c < 128) : okT [c] := ⟨Nat.le_of_ble_eq_true rfl, fun j hj => by
  have h0 : j = 0 := by
    have : j < 1 := hj
    omega
  subst h0
  exact hc⟩
theorem dg_l {x : Nat} (hx : x < 10) : (dgs x).length = 1 ∧ dgn x = 1 := by
  obtain ⟨h1, h2⟩ := dgs_1 hx
  exact ⟨by rw [h1]; rfl, h2⟩
theorem dg_2 {x : Nat} : (dgs x).length = dgn x ∧ dgn x ≤ 2 := by
  unfold dgs dgn
  split <;> simp
theorem okT_d {x : Nat} (hx : x < 100) : okT (dgs x) := by
  unfold dgs
  split
  · exact okT_1 (by omega)
  · exact okT_app (v := [48 + x / 10]) (w := [48 + x % 10]) (okT_1 (by omega)) (okT_1 (by omega)) (Nat.le_of_ble_eq_true rfl)
theorem okT_E (d : Nat → Nat → Int32) (x : Int32) : ∀ e, e ≤ 8 → okT (txE d x e)
  | 0, _ => okT_nil
  | e + 1, h => by
    have l1 := txE_len d x e
    unfold txE
    refine okT_app (okT_E d x e (by omega)) ?_ ?_
    · split
      · refine okT_app (okT_1 (by omega)) ?_ ?_
        · split
          · exact okT_nil
          · exact okT_1 (by decide)
        · split <;> simp
      · exact okT_nil
    · split
      · split <;> simp <;> omega
      · simp
        omega
theorem okT_S (d : Nat → Nat → Int32) (x : Int32) : ∀ e, e ≤ 6 → okT (txS d x e)
  | 0, _ => okT_nil
  | e + 1, h => by
    have l1 := txS_len d x e
    unfold txS
    refine okT_app (okT_S d x e (by omega)) ?_ ?_
    · split
      · exact okT_app (okT_1 (by decide)) (okT_1 (by omega)) (Nat.le_of_ble_eq_true rfl)
      · exact okT_nil
    · split
      · simp
        omega
      · simp
        omega
def lnR (r s m : Nat) : List Nat := ((((([] ++ dgs r) ++ [91]) ++ dgs s) ++ [126]) ++ dgs m) ++ [93]
def lnE (e s r : Nat) : List Nat := (((([] ++ dgs e) ++ [94]) ++ dgs s) ++ [64]) ++ dgs r
def lnS (i s b : Nat) : List Nat := (((([] ++ dgs i) ++ [33]) ++ dgs s) ++ [37]) ++ dgs b
theorem lnR_l {r s m : Nat} (hr : r < 10) (hs : s < 10) (hm : m < 10) : (lnR r s m).length = 6 ∧ okT (lnR r s m) := by
  have a := dg_l hr
  have b := dg_l hs
  have c := dg_l hm
  have l1 : ([] ++ dgs r).length = 1 := by simp [a.1]
  have l2 : (([] ++ dgs r) ++ [91]).length = 2 := by simp [a.1]
  have l3 : ((([] ++ dgs r) ++ [91]) ++ dgs s).length = 3 := by simp [a.1, b.1]
  have l4 : (((([] ++ dgs r) ++ [91]) ++ dgs s) ++ [126]).length = 4 := by simp [a.1, b.1]
  have l5 : ((((([] ++ dgs r) ++ [91]) ++ dgs s) ++ [126]) ++ dgs m).length = 5 := by simp [a.1, b.1, c.1]
  refine ⟨by unfold lnR; simp [a.1, b.1, c.1], ?_⟩
  unfold lnR
  refine okT_app (okT_app (okT_app (okT_app (okT_app (okT_app okT_nil (okT_d (by omega)) ?_) (okT_1 (by decide)) ?_) (okT_d (by omega)) ?_) (okT_1 (by decide)) ?_) (okT_d (by omega)) ?_) (okT_1 (by decide)) ?_
  · rw [a.1]; decide
  · rw [l1]; exact Nat.le_of_ble_eq_true rfl
  · rw [l2, b.1]; decide
  · rw [l3]; exact Nat.le_of_ble_eq_true rfl
  · rw [l4, c.1]; decide
  · rw [l5]; exact Nat.le_of_ble_eq_true rfl
theorem ln_5 {a b : Nat} {r s m : Nat} (ha : a < 128) (hb : b < 128) (hr : r < 10) (hs : s < 10) (hm : m < 100) : ((((([] ++ dgs r) ++ [a]) ++ dgs s) ++ [b]) ++ dgs m).length = 4 + dgn m ∧ okT (((([] ++ dgs r) ++ [a] ++ dgs s) ++ [b]) ++ dgs m) := by
  have x := dg_l hr
  have y := dg_l hs
  have z := dg_2 (x := m)
  have l1 : ([] ++ dgs r).length = 1 := by simp [x.1]
  have l2 : (([] ++ dgs r) ++ [a]).length = 2 := by simp [x.1]
  have l3 : ((([] ++ dgs r) ++ [a]) ++ dgs s).length = 3 := by simp [x.1, y.1]
  have l4 : (((([] ++ dgs r) ++ [a]) ++ dgs s) ++ [b]).length = 4 := by simp [x.1, y.1]
  refine ⟨by rw [List.length_append, l4, z.1], ?_⟩
  refine okT_app (okT_app (okT_app (okT_app (okT_app okT_nil (okT_d (by omega)) ?_) (okT_1 ha) ?_) (okT_d (by omega)) ?_) (okT_1 hb) ?_) (okT_d (by omega)) ?_
  · rw [x.1]; decide
  · rw [l1]; exact Nat.le_of_ble_eq_true rfl
  · rw [l2, y.1]; decide
  · rw [l3]; exact Nat.le_of_ble_eq_true rfl
  · rw [l4, z.1]; omega
section TELL
variable {q : aS} {u : pU} {n : Nat} {P : Int32 → aS → Prop}
def lineR (d : Nat → Nat → Int32) (u : pU) (r s m : Nat) : List Nat := (lnR r s m ++ txE d (nI r) (cE u)) ++ txS d (nI r) (cS u)
theorem lineR_ok (hI : Inv n u) (d : Nat → Nat → Int32) {r s m : Nat} (hr : r < 10) (hs : s < 10) (hm : m < 10) : okT (lineR d u r s m) := by
  have l1 := lnR_l hr hs hm
  have l2 := txE_len d (nI r) (cE u)
  have l3 := txS_len d (nI r) (cS u)
  have hb2 := hI.1.2.1.2
  have hb3 := hI.1.2.2.2
  refine okT_app (okT_app l1.2 (okT_E d _ _ hb2) ?_) (okT_S d _ _ hb3) ?_
  · rw [l1.1]; omega
  · rw [List.length_append, l1.1]; omega
theorem y_tellRoom (h : RX 1 q.1 u) (hI : Inv n u) {r s m : Nat} (hr : r < cR u) (es : u 2 r = nI s) (em : u 3 r = nI m) (hs : s < 10) (hm : m < 10) (k : P (nI (lineR q.1 u r s m).length) (q.1, lineR q.1 u r s m)) : w_X9_tellRoom0 (nI r) q P := by
  have hb1 := hI.1.1.2
  have hb2 := hI.1.2.1.2
  have hb3 := hI.1.2.2.2
  have a := dg_l (x := r) (by omega)
  have b := dg_l hs
  have c := dg_l hm
  have r6 : r < 6 := by omega
  have l1 := txE_len q.1 (nI r) (cE u)
  have v := vp_in_nI r6 (by decide)
  have er := nI_c (show r < 100000 by omega)
  unfold w_X9_tellRoom0
  refine y_chkR h hI hr (fun q4 e4 => ?_)
  subst e4
  refine ⟨r, rfl, by omega, by rw [a.2]; exact Nat.le_of_ble_eq_true rfl, fun q5 e5 => ?_⟩
  subst e5
  refine ⟨by simp [a.1], fun q7 e7 => ?_⟩
  subst e7
  refine ⟨v, s, by rw [er]; exact (rx_3 h r6).trans es, by omega, by simp [a.1, b.2], fun q8 e8 => ?_⟩
  subst e8
  refine ⟨by simp [a.1, b.1], fun q10 e10 => ?_⟩
  subst e10
  refine ⟨v, m, by rw [er]; exact (rx_4 h r6).trans em, by omega, by simp [a.1, b.1, c.2], fun q11 e11 => ?_⟩
  subst e11
  refine ⟨by simp [a.1, b.1, c.1], fun q13 e13 => ?_⟩
  subst e13
  refine ⟨cE u, hb2, (rx_6 h).trans hI.1.2.1.1, ?_, cS u, hb3, (rx_12 h).trans hI.1.2.2.1, ?_, k⟩
  · simp [a.1, b.1, c.1]
    omega
  · simp [a.1, b.1, c.1]
    omega
def xtE (u : pU) (e l v : Nat) : List Nat := if u 8 e = -1 then [] else ((([] ++ [61]) ++ dgs l) ++ [47]) ++ dgs v
def lineE (u : pU) (e s r l v : Nat) : List Nat := if u 8 e = -1 then lnE e s r else (((lnE e s r ++ [61]) ++ dgs l) ++ [47]) ++ dgs v
theorem y_tellEcho (h : RX 1 q.1 u) (hI : Inv n u) {e s r l v : Nat} (he : e < cE u) (es : u 7 e = nI s) (er : u 6 e = nI r) (hs : s < 10) (hr : r < 10) (el : ¬ u 8 e = -1 → u 8 e = nI l ∧ l < 10 ∧ u 9 e = nI v ∧ v < 10) (k : P (nI (lineE u e s r l v).length) (q.1, lineE u e s r l v)) : w_X9_tellEcho0 (nI e) q P := by
  have hb2 := hI.1.2.1.2
  have a := dg_l (x := e) (by omega)
  have b := dg_l hs
  have c := dg_l hr
  have r6 : e < 8 := by omega
  have vv := vp_in_nI r6 (by decide)
  have ee := nI_c (show e < 100000 by omega)
  unfold w_X9_tellEcho0
  refine y_chkE h hI he (fun q4 e4 => ?_)
  subst e4
  refine ⟨e, rfl, by omega, by rw [a.2]; exact Nat.le_of_ble_eq_true rfl, fun q5 e5 => ?_⟩
  subst e5
  refine ⟨by simp [a.1], fun q7 e7 => ?_⟩
  subst e7
  refine ⟨vv, s, by rw [ee]; exact (rx_8 h r6).trans es, by omega, by simp [a.1, b.2], fun q8 e8 => ?_⟩
  subst e8
  refine ⟨by simp [a.1, b.1], fun q10 e10 => ?_⟩
  subst e10
  refine ⟨vv, r, by rw [ee]; exact (rx_7 h r6).trans er, by omega, by simp [a.1, b.1, c.2], fun q11 e11 => ?_⟩
  subst e11
  unfold lineE at k
  refine x_isLet (q := (q.1, lnE e s r)) (u := u) h r6 (fun z => ⟨fun _ => ?_, fun w => absurd rfl w⟩) (fun z => ⟨fun w => absurd w i10, fun _ => ?_⟩)
  · rw [if_pos z] at k
    exact k
  · rw [if_neg z] at k
    obtain ⟨e8, hl, e9, hv⟩ := el z
    have ll : (lnE e s r).length = 5 := (ln_5 (a := 94) (b := 64) (by decide) (by decide) (show e < 10 by omega) hs (show r < 100 by omega)).1.trans (by rw [c.2])
    have dl := dg_l hl
    have dv := dg_l hv
    refine ⟨by simp [ll], fun q16 e16 => ?_⟩
    subst e16
    refine ⟨vv, l, by rw [ee]; exact (rx_9 h r6).trans e8, by omega, by simp [ll, dl.2], fun q17 e17 => ?_⟩
    subst e17
    refine ⟨by simp [ll, dl.1], fun q19 e19 => ?_⟩
    subst e19
    refine ⟨vv, v, by rw [ee]; exact (rx_10 h r6).trans e9, by omega, by simp [ll, dl.1, dv.2], fun q20 e20 => ?_⟩
    subst e20
    exact k
def lineS (u : pU) (i s b r : Nat) : List Nat := if u 14 i = -1 then lnS i s b else (lnS i s b ++ [64]) ++ dgs r
theorem y_tellSinger (h : RX 1 q.1 u) (hI : Inv n u) {i s b r : Nat} (hi : i < cS u) (es : u 12 i = nI s) (eb : u 13 i = nI b) (hs : s < 10) (hb : b < 100) (el : ¬ u 14 i = -1 → u 14 i = nI r ∧ r < 10) (k : P (nI (lineS u i s b r).length) (q.1, lineS u i s b r)) : w_X9_tellSinger0 (nI i) q P := by
  have hb3 := hI.1.2.2.2
  have a := dg_l (x := i) (by omega)
  have b1 := dg_l hs
  have c := dg_2 (x := b)
  have r6 : i < 6 := by omega
  have vv := vp_in_nI r6 (by decide)
  have ee := nI_c (show i < 100000 by omega)
  unfold w_X9_tellSinger0
  refine y_chkS h hI hi (fun q4 e4 => ?_)
  subst e4
  refine ⟨i, rfl, by omega, by rw [a.2]; exact Nat.le_of_ble_eq_true rfl, fun q5 e5 => ?_⟩
  subst e5
  refine ⟨by simp [a.1], fun q7 e7 => ?_⟩
  subst e7
  refine ⟨vv, s, by rw [ee]; exact (rx_13 h r6).trans es, by omega, by simp [a.1, b1.2], fun q8 e8 => ?_⟩
  subst e8
  refine ⟨by simp [a.1, b1.1], fun q10 e10 => ?_⟩
  subst e10
  refine ⟨vv, b, by rw [ee]; exact (rx_14 h r6).trans eb, hb, by simp [a.1, b1.1]; omega, fun q11 e11 => ?_⟩
  subst e11
  unfold lineS at k
  refine x_isInside (q := (q.1, lnS i s b)) (u := u) h r6 (fun z => ⟨fun _ => ?_, fun w => absurd rfl w⟩) (fun z => ⟨fun w => absurd w i10, fun _ => ?_⟩)
  · rw [if_pos z] at k
    exact k
  · rw [if_neg z] at k
    obtain ⟨e8, hl⟩ := el z
    have ll : (lnS i s b).length = 4 + dgn b := (ln_5 (a := 33) (b := 37) (by decide) (by decide) (show i < 10 by omega) hs hb).1
    have dl := dg_l hl
    refine ⟨by simp [ll]; omega, fun q16 e16 => ?_⟩
    subst e16
    refine ⟨vv, r, by rw [ee]; exact (rx_15 h r6).trans e8, by omega, by simp [ll, dl.2]; omega, fun q17 e17 => ?_⟩
    subst e17
    exact k
theorem y_char {j : Nat} (hw : okT q.2) (hj : j < q.2.length) (k : P (nI (q.2.getD j 0)) q) : w_X9_character0 (nI j) q P := by
  have h60 := hw.1
  have h128 := hw.2 j hj
  have hnc := pk_nc (nI (q.2.getD j 0) &&& 255)
  rw [(i2b_c _ h128).2.2.2] at hnc
  unfold w_X9_character0
  exact br_f (nI_n0 (by omega)) (br_t (nI_lt hj (by omega)) ⟨j, rfl, hj, h128, hnc, k⟩)
end TELL
section LINE
variable {l : Launch} {z : lP} {RS : va_W} {a qa : Nat} {w : List Nat} {q : aS} {P : Int32 → aS → Prop}
theorem t_L_isLine (ht : z.2.1.map Prod.snd = tyX) (hl : l.stackTraces = false) (hs : Str z RS a qa w) (hw : okT w) (hq : q.2 = w) (h : P 1 q) : aMi l (lX z RS (z.2.2.1 205)) yL_isLine (aWs yL_isLine cL_isLine 5 (some .boolean)) 7 0 0 [.ref (z.2.2.1 0), .int (nI w.length), .ref a] q (fun r u => (r = 0 ∨ r = 1) ∧ P r u) (fun _ _ => False) := by
  have hX := lX_is ht RS (z.2.2.1 205)
  have hi := lX_in z RS (z.2.2.1 205)
  have h60 := hw.1
  refine aMi_of RL ⟨by decide +kernel, rfl⟩ (cat_all rfl) (Nat.le_of_ble_eq_true rfl) hl hX.cl (fun f hR hC hE => ?_)
  show AW f (lX z RS (z.2.2.1 205)) 0 [some (.ref (z.2.2.1 0)), some (.int (nI w.length)), some (.ref a), none, none] [] q 0 0
  have len : ∀ {pc : Nat} {L : List (Option Value)} {rest : List Value}, decode cL_isLine pc = .ok (.invokevirtual 15, 3) → L.length = 5 → (rest.map fun v => v.category).sum ≤ 8 → AW f (lX z RS (z.2.2.1 205)) (pc + 3) L (.int (nI w.length) :: rest) q 0 0 → AW f (lX z RS (z.2.2.1 205)) pc L (.ref a :: rest) q 0 0 := fun dg hL hrest kk =>
    s_call (As := []) hi hC hs hR vm_J0_length_8abf5 tw_1374 ⟨(Nat.le_of_ble_eq_true rfl), (Nat.le_of_ble_eq_true rfl), (Nat.le_of_ble_eq_true rfl), (Nat.le_of_ble_eq_true rfl)⟩ dg (s_lengthM (P := fun r u => r = nI w.length ∧ u = q) hi ht hC.tr hs ⟨rfl, rfl⟩) rfl rfl hL hrest (fun r q2 h2 => by
      obtain ⟨rfl, rfl⟩ := h2
      exact kk)
  refine a_iload_n (pc := 0) hC dL_isLine_0 rfl ?_
  refine a_aload_n (pc := 1) hC dL_isLine_1 rfl ?_
  refine len (pc := 2) dL_isLine_2 rfl (Nat.le_of_ble_eq_true rfl) ?_
  refine a_icmp_ne (pc := 5) (tgt := 12) hC dL_isLine_5 (by decide) (fun c => absurd rfl c) (fun _ => ?_)
  refine a_iconst (pc := 8) hC dL_isLine_8 (v := 1) rfl ?_
  refine a_goto (pc := 9) (tgt := 13) hC dL_isLine_9 (by decide) ?_
  refine a_istore_n (pc := 13) hC dL_isLine_13 (Nat.le_of_ble_eq_true rfl) ?_
  refine a_iconst (pc := 14) hC dL_isLine_14 (v := 0) rfl ?_
  refine a_istore (pc := 15) hC dL_isLine_15 (Nat.le_of_ble_eq_true rfl) ?_
  have loop : ∀ m j, j + m = w.length → AW f (lX z RS (z.2.2.1 205)) 17 [some (.ref (z.2.2.1 0)), some (.int (nI w.length)), some (.ref a), some (.int 1), some (.int (nI j))] [] q 0 0 := by
    intro m
    induction m with
    | zero =>
      intro j hj
      refine a_iload (pc := 17) hC dL_isLine_17 rfl ?_
      refine a_aload_n (pc := 19) hC dL_isLine_19 rfl ?_
      refine len (pc := 20) dL_isLine_20 rfl (Nat.le_of_ble_eq_true rfl) ?_
      refine a_icmp_ge (pc := 23) (tgt := 57) hC dL_isLine_23 (by decide) (fun _ => ?_) (fun c => absurd (nI_le (by omega) (by omega)) c)
      refine a_iload_n (pc := 57) hC dL_isLine_57 rfl ?_
      exact a_bret (pc := 58) hC hE (Or.inr rfl) h (Nat.le_refl _) (Nat.le_refl _) dL_isLine_58
    | succ m ih =>
      intro j hj
      have hj' : j < w.length := by omega
      refine a_iload (pc := 17) hC dL_isLine_17 rfl ?_
      refine a_aload_n (pc := 19) hC dL_isLine_19 rfl ?_
      refine len (pc := 20) dL_isLine_20 rfl (Nat.le_of_ble_eq_true rfl) ?_
      refine a_icmp_ge (pc := 23) (tgt := 57) hC dL_isLine_23 (by decide) (fun c => absurd c (nI_ge hj' (by omega))) (fun _ => ?_)
      refine a_iload_n (pc := 26) hC dL_isLine_26 rfl ?_
      refine a_if_eq (pc := 27) (tgt := 57) hC dL_isLine_27 (by decide) (fun c => absurd c (by decide)) (fun _ => ?_)
      refine a_aload_n (pc := 30) hC dL_isLine_30 rfl ?_
      refine a_iload (pc := 31) hC dL_isLine_31 rfl ?_
      refine a_callV (As := [.int (nI j)]) (pc := 33) hC hR vm_X9_character tw_1375 cl_X9 (oX_0 hX) ⟨(Nat.le_of_ble_eq_true rfl), (Nat.le_of_ble_eq_true rfl), (Nat.le_of_ble_eq_true rfl), (Nat.le_of_ble_eq_true rfl)⟩ dL_isLine_33 (t_X9_character0 rfl ht hX hC.tr (nI j) q (fun r u => r = nI (w.getD j 0) ∧ u = q) (y_char (hq ▸ hw) (by rw [hq]; exact hj') ⟨by rw [hq], rfl⟩)) rfl rfl rfl (Nat.le_of_ble_eq_true rfl) (fun r q2 h2 => ?_)
      obtain ⟨rfl, rfl⟩ := h2
      refine a_aload_n (pc := 36) hC dL_isLine_36 rfl ?_
      refine a_iload (pc := 37) hC dL_isLine_37 rfl ?_
      refine s_call (As := [.int (nI j)]) (pc := 39) hi hC hs hR vm_J0_charAt_5068e tw_1390 ⟨(Nat.le_of_ble_eq_true rfl), (Nat.le_of_ble_eq_true rfl), (Nat.le_of_ble_eq_true rfl), (Nat.le_of_ble_eq_true rfl)⟩ dL_isLine_39 (s_charAtM (P := fun r u => r = nI (w.getD j 0) ∧ u = q2) hi ht hC.tr hs hw hj' ⟨rfl, rfl⟩) rfl rfl rfl (Nat.le_of_ble_eq_true rfl) (fun r q3 h3 => ?_)
      obtain ⟨rfl, rfl⟩ := h3
      refine a_icmp_ne (pc := 42) (tgt := 49) hC dL_isLine_42 (by decide) (fun c => absurd rfl c) (fun _ => ?_)
      refine a_iconst (pc := 45) hC dL_isLine_45 (v := 1) rfl ?_
      refine a_goto (pc := 46) (tgt := 50) hC dL_isLine_46 (by decide) ?_
      refine a_istore_n (pc := 50) hC dL_isLine_50 (Nat.le_of_ble_eq_true rfl) ?_
      refine a_iinc (pc := 51) hC dL_isLine_51 rfl (c := 1) rfl ?_
      rw [nI_1]
      refine a_goto (pc := 54) (tgt := 17) hC dL_isLine_54 (by decide) ?_
      exact ih (j + 1) (by omega)
  have e := loop w.length 0 (by omega)
  rw [nI_0] at e
  exact e
end LINE

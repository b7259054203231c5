/-! the law: the lines, round after round -/
section LINES2
variable {f : aF} {z : lP} {u : pU} {d : Nat → Nat → Int32} {n0 : Nat}
set_option maxRecDepth 20000 in
theorem g_lE (ht : z.2.1.map Prod.snd = tyX) (hC : aOK f (lX z [] (z.2.2.1 205)) cL_areLinesRight 5 RL) (hR : f_R f = aR 9 1700 120000) (h : RX 1 d u) (hI : Inv n0 u) {r s m : Nat} (hr : r < cR u) (hs : s < 10) (hm : m < 10) : ∀ (c i : Nat) (RS : va_W) (t : List Nat) (a qa k n : Nat), i + c = cE u → Str z RS a qa (lnR r s m ++ txE d (nI r) i) → k + 12 * c ≤ 1700 → n + 648 * c ≤ 120000 →
    (∀ (RS' : va_W) (a qa : Nat) (t' : List Nat), Str z RS' a qa (lnR r s m ++ txE d (nI r) (cE u)) → AW f (lX z RS' (z.2.2.1 205)) 152 [some (.ref (z.2.2.1 0)), some (.int 1), some (.int (nI r)), some (.ref a), some (.int 0)] [] (d, t') (k + 12 * c) (n + 648 * c)) → AW f (lX z RS (z.2.2.1 205)) 64 [some (.ref (z.2.2.1 0)), some (.int 1), some (.int (nI r)), some (.ref a), some (.int (nI i))] [] (d, t) k n := by
  have hN : ∀ RS ba, aOK f (lX z RS ba) cL_areLinesRight 5 RL := lOK hC
  have hX : ∀ RS ba, isX (lX z RS ba) := lX_is ht
  have hb1 := hI.1.1.2
  have hb2 := hI.1.2.1.2
  have hb3 := hI.1.2.2.2
  have l0 := lnR_l (r := r) (by omega) hs hm
  have l1 := txE_len d (nI r) (cE u)
  intro c
  induction c with
  | zero =>
    intro i RS t a qa k n hi hS hk hn kk
    have hi : i = cE u := hi
    subst hi
    refine a_iload (pc := 64) (hN _ _) dL_areLinesRight_64 rfl ?_
    refine a_aload_n (pc := 66) (hN _ _) dL_areLinesRight_66 rfl ?_
    refine a_iconst (pc := 67) (hN _ _) dL_areLinesRight_67 (v := 1) rfl ?_
    refine a_callV (As := [.int (1)]) (pc := 68) (hN _ _) hR vm_X9_account tw_327 cl_X9 (oX_0 (hX _ _)) ⟨(Nat.le_of_ble_eq_true rfl), (Nat.le_of_ble_eq_true rfl), by omega, by omega⟩ dL_areLinesRight_68 (t_X9_account0 (hX _ _) hC.tr (1) (d, t) (fun x9 q9 => x9 = nI (cE u) ∧ q9 = (d, t)) (y_A1 (q := (d, t)) (P := fun x9 q9 => x9 = nI (cE u) ∧ q9 = (d, t)) h hI ⟨rfl, rfl⟩)) rfl rfl rfl (Nat.le_of_ble_eq_true rfl) (fun x q2 h2 => ?_)
    obtain ⟨rfl, rfl⟩ := h2
    refine a_icmp_ge (pc := 71) (tgt := 149) (hN _ _) dL_areLinesRight_71 (by decide) (fun _ => ?_) (fun c => absurd (nI_le (Nat.le_refl _) (by omega)) c)
    refine a_iconst (pc := 149) (hN _ _) dL_areLinesRight_149 (v := 0) rfl ?_
    refine a_istore (pc := 150) (hN _ _) dL_areLinesRight_150 (Nat.le_of_ble_eq_true rfl) ?_
    exact kk RS a qa t hS
  | succ c ih =>
    intro i RS t a qa k n hi hS hk hn kk
    have hi' : i < cE u := by omega
    have l2 := txE_len d (nI r) i
    have hl : (lnR r s m ++ txE d (nI r) i).length + 2 ≤ 60 := by
      simp [l0.1]
      omega
    refine g_ech ht hC hR h hI hS (okT_app l0.2 (okT_E d _ _ (by omega)) (by simp [l0.1]; omega)) hl hi' (by omega) (by omega) (fun RS' a' qa' t' hS' => ?_)
    refine ih (i + 1) RS' t' a' qa' _ _ (by omega) ?_ (by omega) (by omega) (fun RS' a qa t' hS => ?_)
    · unfold txE
      rw [rx_7 h (show i < 8 by omega), rx_9 h (show i < 8 by omega)]
      rw [← List.append_assoc]
      exact hS'
    · have e1 : k + 12 + 12 * c = k + 12 * (c + 1) := by omega
      have e2 : n + 648 + 648 * c = n + 648 * (c + 1) := by omega
      rw [e1, e2]
      exact kk RS' a qa t' hS
set_option maxRecDepth 20000 in
theorem g_lS (ht : z.2.1.map Prod.snd = tyX) (hC : aOK f (lX z [] (z.2.2.1 205)) cL_areLinesRight 5 RL) (hR : f_R f = aR 9 1700 120000) (h : RX 1 d u) (hI : Inv n0 u) {r s m : Nat} (hr : r < cR u) (hs : s < 10) (hm : m < 10) : ∀ (c i : Nat) (RS : va_W) (t : List Nat) (a qa k n : Nat), i + c = cS u → Str z RS a qa ((lnR r s m ++ txE d (nI r) (cE u)) ++ txS d (nI r) i) → k + 12 * c ≤ 1700 → n + 648 * c ≤ 120000 →
    (∀ (RS' : va_W) (a qa : Nat) (t' : List Nat), Str z RS' a qa ((lnR r s m ++ txE d (nI r) (cE u)) ++ txS d (nI r) (cS u)) → AW f (lX z RS' (z.2.2.1 205)) 222 [some (.ref (z.2.2.1 0)), some (.int 1), some (.int (nI r)), some (.ref a), some (.int (nI (cS u)))] [] (d, t') (k + 12 * c) (n + 648 * c)) → AW f (lX z RS (z.2.2.1 205)) 152 [some (.ref (z.2.2.1 0)), some (.int 1), some (.int (nI r)), some (.ref a), some (.int (nI i))] [] (d, t) k n := by
  have hN : ∀ RS ba, aOK f (lX z RS ba) cL_areLinesRight 5 RL := lOK hC
  have hX : ∀ RS ba, isX (lX z RS ba) := lX_is ht
  have hb1 := hI.1.1.2
  have hb2 := hI.1.2.1.2
  have hb3 := hI.1.2.2.2
  have l0 := lnR_l (r := r) (by omega) hs hm
  have l1 := txE_len d (nI r) (cE u)
  intro c
  induction c with
  | zero =>
    intro i RS t a qa k n hi hS hk hn kk
    have hi : i = cS u := hi
    subst hi
    refine a_iload (pc := 152) (hN _ _) dL_areLinesRight_152 rfl ?_
    refine a_aload_n (pc := 154) (hN _ _) dL_areLinesRight_154 rfl ?_
    refine a_iconst (pc := 155) (hN _ _) dL_areLinesRight_155 (v := 2) rfl ?_
    refine a_callV (As := [.int (2)]) (pc := 156) (hN _ _) hR vm_X9_account tw_327 cl_X9 (oX_0 (hX _ _)) ⟨(Nat.le_of_ble_eq_true rfl), (Nat.le_of_ble_eq_true rfl), by omega, by omega⟩ dL_areLinesRight_156 (t_X9_account0 (hX _ _) hC.tr (2) (d, t) (fun x9 q9 => x9 = nI (cS u) ∧ q9 = (d, t)) (y_A2 (q := (d, t)) (P := fun x9 q9 => x9 = nI (cS u) ∧ q9 = (d, t)) h hI ⟨rfl, rfl⟩)) rfl rfl rfl (Nat.le_of_ble_eq_true rfl) (fun x q2 h2 => ?_)
    obtain ⟨rfl, rfl⟩ := h2
    refine a_icmp_ge (pc := 159) (tgt := 222) (hN _ _) dL_areLinesRight_159 (by decide) (fun _ => ?_) (fun c => absurd (nI_le (Nat.le_refl _) (by omega)) c)
    exact kk RS a qa t hS
  | succ c ih =>
    intro i RS t a qa k n hi hS hk hn kk
    have hi' : i < cS u := by omega
    have l2 := txS_len d (nI r) i
    have hl : ((lnR r s m ++ txE d (nI r) (cE u)) ++ txS d (nI r) i).length + 2 ≤ 60 := by
      simp [l0.1]
      omega
    refine g_sng ht hC hR h hI hS (okT_app (okT_app l0.2 (okT_E d _ _ hb2) (by rw [l0.1]; omega)) (okT_S d _ _ (by omega)) (by simp [l0.1]; omega)) hl hi' (by omega) (by omega) (fun RS' a' qa' t' hS' => ?_)
    refine ih (i + 1) RS' t' a' qa' _ _ (by omega) ?_ (by omega) (by omega) (fun RS' a qa t' hS => ?_)
    · unfold txS
      rw [rx_15 h (show i < 6 by omega)]
      rw [← List.append_assoc]
      exact hS'
    · have e1 : k + 12 + 12 * c = k + 12 * (c + 1) := by omega
      have e2 : n + 648 + 648 * c = n + 648 * (c + 1) := by omega
      rw [e1, e2]
      exact kk RS' a qa t' hS
set_option maxRecDepth 20000 in
theorem g_rend (ht : z.2.1.map Prod.snd = tyX) (hC : aOK f (lX z [] (z.2.2.1 205)) cL_areLinesRight 5 RL) (hR : f_R f = aR 9 1700 120000) (h : RX 1 d u) (hI : Inv n0 u) {r s m : Nat} (hr : r < cR u) (es : u 2 r = nI s) (em : u 3 r = nI m) (hs : s < 10) (hm : m < 10) {RS : va_W} {t : List Nat} {a qa k n : Nat} {x4 : Option Value} (hS : Str z RS a qa (lineR d u r s m)) (hk : k + 35 ≤ 1700) (hn : n + 4200 ≤ 120000) (kk : ∀ t' : List Nat, AW f (lX z RS (z.2.2.1 205)) 4 [some (.ref (z.2.2.1 0)), some (.int 1), some (.int (nI (r + 1))), some (.ref a), x4] [] (d, t') (k + 35) (n + 4200)) : AW f (lX z RS (z.2.2.1 205)) 222 [some (.ref (z.2.2.1 0)), some (.int 1), some (.int (nI r)), some (.ref a), x4] [] (d, t) k n := by
  have hN : ∀ RS ba, aOK f (lX z RS ba) cL_areLinesRight 5 RL := lOK hC
  have hX : ∀ RS ba, isX (lX z RS ba) := lX_is ht
  have hb1 := hI.1.1.2
  have hb2 := hI.1.2.1.2
  have hb3 := hI.1.2.2.2
  have hok := lineR_ok hI d (r := r) (by omega) hs hm
  refine a_iload_n (pc := 222) (hN _ _) dL_areLinesRight_222 rfl ?_
  refine a_if_eq (pc := 223) (tgt := 243) (hN _ _) dL_areLinesRight_223 (by decide) (fun c => absurd c (by decide)) (fun _ => ?_)
  refine a_aload_n (pc := 226) (hN _ _) dL_areLinesRight_226 rfl ?_
  refine a_aload_n (pc := 227) (hN _ _) dL_areLinesRight_227 rfl ?_
  refine a_iload_n (pc := 228) (hN _ _) dL_areLinesRight_228 rfl ?_
  refine a_callV (As := [.int (nI r)]) (pc := 229) (hN _ _) hR vm_X9_tellRoom tw_1292 cl_X9 (oX_0 (hX _ _)) ⟨(Nat.le_of_ble_eq_true rfl), (Nat.le_of_ble_eq_true rfl), by omega, by omega⟩ dL_areLinesRight_229 (t_X9_tellRoom0 rfl ht (hX _ _) hC.tr (nI r) (d, t) (fun x9 q9 => x9 = nI (lineR d u r s m).length ∧ q9 = (d, lineR d u r s m)) (y_tellRoom (q := (d, t)) (P := fun x9 q9 => x9 = nI (lineR d u r s m).length ∧ q9 = (d, lineR d u r s m)) h hI hr es em hs hm ⟨rfl, rfl⟩)) rfl rfl rfl (Nat.le_of_ble_eq_true rfl) (fun x q2 h2 => ?_)
  obtain ⟨rfl, rfl⟩ := h2
  refine a_aload_n (pc := 232) (hN _ _) dL_areLinesRight_232 rfl ?_
  refine a_callS (As := [.ref (z.2.2.1 0), .int (nI (lineR d u r s m).length), .ref a]) (pc := 233) (hN _ _) hR sm_L_isLine tw_1371 ⟨(Nat.le_of_ble_eq_true rfl), (Nat.le_of_ble_eq_true rfl), by omega, by omega⟩ dL_areLinesRight_233 (t_L_isLine (q := (d, lineR d u r s m)) (P := fun x9 q9 => x9 = 1 ∧ q9 = (d, lineR d u r s m)) ht hC.tr hS hok rfl ⟨rfl, rfl⟩) rfl rfl rfl (Nat.le_of_ble_eq_true rfl) (fun x q2 h2 => ?_)
  obtain ⟨-, rfl, rfl⟩ := h2
  refine a_if_eq (pc := 236) (tgt := 243) (hN _ _) dL_areLinesRight_236 (by decide) (fun c => absurd c (by decide)) (fun _ => ?_)
  refine a_iconst (pc := 239) (hN _ _) dL_areLinesRight_239 (v := 1) rfl ?_
  refine a_goto (pc := 240) (tgt := 244) (hN _ _) dL_areLinesRight_240 (by decide) ?_
  refine a_istore_n (pc := 244) (hN _ _) dL_areLinesRight_244 (Nat.le_of_ble_eq_true rfl) ?_
  refine a_iinc (pc := 245) (hN _ _) dL_areLinesRight_245 rfl (c := 1) rfl ?_
  rw [nI_1]
  refine a_goto (pc := 248) (tgt := 4) (hN _ _) dL_areLinesRight_248 (by decide) ?_
  exact kk _
set_option maxRecDepth 20000 in
theorem g_rooms (ht : z.2.1.map Prod.snd = tyX) (hC : aOK f (lX z [] (z.2.2.1 205)) cL_areLinesRight 5 RL) (hR : f_R f = aR 9 1700 120000) (h : RX 1 d u) (hI : Inv n0 u) : ∀ (c r : Nat) (RS : va_W) (t : List Nat) (x3 x4 : Option Value) (k n : Nat), r + c = cR u → k + 213 * c ≤ 1700 → n + 14076 * c ≤ 120000 →
    (∀ (RS' : va_W) (t' : List Nat) (x3 x4 : Option Value), AW f (lX z RS' (z.2.2.1 205)) 251 [some (.ref (z.2.2.1 0)), some (.int 1), some (.int (nI (cR u))), x3, x4] [] (d, t') (k + 213 * c) (n + 14076 * c)) → AW f (lX z RS (z.2.2.1 205)) 4 [some (.ref (z.2.2.1 0)), some (.int 1), some (.int (nI r)), x3, x4] [] (d, t) k n := by
  have hN : ∀ RS ba, aOK f (lX z RS ba) cL_areLinesRight 5 RL := lOK hC
  have hX : ∀ RS ba, isX (lX z RS ba) := lX_is ht
  have hb1 := hI.1.1.2
  have hb2 := hI.1.2.1.2
  have hb3 := hI.1.2.2.2
  intro c
  induction c with
  | zero =>
    intro r RS t x3 x4 k n hr hk hn kk
    have hr : r = cR u := hr
    subst hr
    refine a_iload_n (pc := 4) (hN _ _) dL_areLinesRight_4 rfl ?_
    refine a_aload_n (pc := 5) (hN _ _) dL_areLinesRight_5 rfl ?_
    refine a_iconst (pc := 6) (hN _ _) dL_areLinesRight_6 (v := 0) rfl ?_
    refine a_callV (As := [.int (0)]) (pc := 7) (hN _ _) hR vm_X9_account tw_327 cl_X9 (oX_0 (hX _ _)) ⟨(Nat.le_of_ble_eq_true rfl), (Nat.le_of_ble_eq_true rfl), by omega, by omega⟩ dL_areLinesRight_7 (t_X9_account0 (hX _ _) hC.tr (0) (d, t) (fun x9 q9 => x9 = nI (cR u) ∧ q9 = (d, t)) (y_A0 (q := (d, t)) (P := fun x9 q9 => x9 = nI (cR u) ∧ q9 = (d, t)) h hI ⟨rfl, rfl⟩)) rfl rfl rfl (Nat.le_of_ble_eq_true rfl) (fun x q2 h2 => ?_)
    obtain ⟨rfl, rfl⟩ := h2
    refine a_icmp_ge (pc := 10) (tgt := 251) (hN _ _) dL_areLinesRight_10 (by decide) (fun _ => ?_) (fun c => absurd (nI_le (Nat.le_refl _) (by omega)) c)
    exact kk RS t x3 x4
  | succ c ih =>
    intro r RS t x3 x4 k n hr hk hn kk
    have hr' : r < cR u := by omega
    obtain ⟨s, s1, hs, es⟩ := (hI.2.1 r hr').1
    obtain ⟨m, -, hm, em⟩ := (hI.2.1 r hr').2
    refine a_iload_n (pc := 4) (hN _ _) dL_areLinesRight_4 rfl ?_
    refine a_aload_n (pc := 5) (hN _ _) dL_areLinesRight_5 rfl ?_
    refine a_iconst (pc := 6) (hN _ _) dL_areLinesRight_6 (v := 0) rfl ?_
    refine a_callV (As := [.int (0)]) (pc := 7) (hN _ _) hR vm_X9_account tw_327 cl_X9 (oX_0 (hX _ _)) ⟨(Nat.le_of_ble_eq_true rfl), (Nat.le_of_ble_eq_true rfl), by omega, by omega⟩ dL_areLinesRight_7 (t_X9_account0 (hX _ _) hC.tr (0) (d, t) (fun x9 q9 => x9 = nI (cR u) ∧ q9 = (d, t)) (y_A0 (q := (d, t)) (P := fun x9 q9 => x9 = nI (cR u) ∧ q9 = (d, t)) h hI ⟨rfl, rfl⟩)) rfl rfl rfl (Nat.le_of_ble_eq_true rfl) (fun x q2 h2 => ?_)
    obtain ⟨rfl, rfl⟩ := h2
    refine a_icmp_ge (pc := 10) (tgt := 251) (hN _ _) dL_areLinesRight_10 (by decide) (fun c => absurd c (nI_ge hr' (by omega))) (fun _ => ?_)
    refine g_room ht hC hR h hI hr' es em (by omega) (by omega) (by omega) (by omega) (fun RS1 a1 qa1 t1 hS1 => ?_)
    refine (show ∀ {x : Int32}, x = nI 0 → AW f (lX z RS1 (z.2.2.1 205)) 64 [some (.ref (z.2.2.1 0)), some (.int 1), some (.int (nI r)), some (.ref a1), some (.int x)] [] (d, t1) _ _ from fun e => ?_) (rfl : (0 : Int32) = nI 0)
    subst e
    refine g_lE ht hC hR h hI hr' (s := s) (m := m) (by omega) (by omega) (cE u) 0 RS1 t1 a1 qa1 _ _ (by omega) (by unfold txE; rw [List.append_nil]; exact hS1) (by omega) (by omega) (fun RS2 a2 qa2 t2 hS2 => ?_)
    refine (show ∀ {x : Int32}, x = nI 0 → AW f (lX z RS2 (z.2.2.1 205)) 152 [some (.ref (z.2.2.1 0)), some (.int 1), some (.int (nI r)), some (.ref a2), some (.int x)] [] (d, t2) _ _ from fun e => ?_) (rfl : (0 : Int32) = nI 0)
    subst e
    refine g_lS ht hC hR h hI hr' (s := s) (m := m) (by omega) (by omega) (cS u) 0 RS2 t2 a2 qa2 _ _ (by omega) (by unfold txS; rw [List.append_nil]; exact hS2) (by omega) (by omega) (fun RS3 a3 qa3 t3 hS3 => ?_)
    refine g_rend ht hC hR h hI hr' es em (by omega) (by omega) hS3 (by omega) (by omega) (fun t4 => ?_)
    refine AW.widen (k2 := k + 213) (n2 := n + 14076) (by omega) (by omega) ?_
    refine ih (r + 1) RS3 t4 _ _ _ _ (by omega) (by omega) (by omega) (fun RS5 t5 y3 y4 => ?_)
    have e1 : k + 213 + 213 * c = k + 213 * (c + 1) := by omega
    have e2 : n + 14076 + 14076 * c = n + 14076 * (c + 1) := by omega
    rw [e1, e2]
    exact kk RS5 t5 y3 y4
set_option maxRecDepth 20000 in
theorem g_ecoj (ht : z.2.1.map Prod.snd = tyX) (hC : aOK f (lX z [] (z.2.2.1 205)) cL_areLinesRight 5 RL) (hR : f_R f = aR 9 1700 120000) (h : RX 1 d u) (hI : Inv n0 u) {i s r l v : Nat} (hi : i < cE u) (es : u 7 i = nI s) (er : u 6 i = nI r) (hs : s < 10) (hr : r < 10) (el : ¬ u 8 i = -1 → u 8 i = nI l ∧ l < 10 ∧ u 9 i = nI v ∧ v < 10) {RS : va_W} {t w1 : List Nat} {a qa k n : Nat} {x3 x4 : Option Value} (hS : Str z RS a qa w1) (hok : okT w1) (h4 : w1.length ≤ 4) (ew : (lnE i s r) ++ w1 = lineE u i s r l v) (hk : k + 20 ≤ 1700) (hn : n + 2004 ≤ 120000) (kk : ∀ (RS' : va_W) (t' : List Nat) (x3 x4 : Option Value), AW f (lX z RS' (z.2.2.1 205)) 253 [some (.ref (z.2.2.1 0)), some (.int 1), some (.int (nI (i + 1))), x3, x4] [] (d, t') (k + 20) (n + 2004)) : AW f (lX z RS (z.2.2.1 205)) 314 [some (.ref (z.2.2.1 0)), some (.int 1), some (.int (nI i)), x3, x4] [.ref a] (d, t) k n := by
  have hN : ∀ RS ba, aOK f (lX z RS ba) cL_areLinesRight 5 RL := lOK hC
  have hX : ∀ RS ba, isX (lX z RS ba) := lX_is ht
  have hb1 := hI.1.1.2
  have hb2 := hI.1.2.1.2
  have hb3 := hI.1.2.2.2
  have ra := dg_l (x := i) (by omega)
  have rb := dg_l hs
  have rc := dg_2 (x := r)
  have ll := ln_5 (a := 94) (b := 64) (by decide) (by decide) (show i < 10 by omega) hs (show r < 100 by omega)
  have okl : okT (lineE u i s r l v) := by
    rw [← ew]
    exact okT_app ll.2 hok (by unfold lnE; rw [ll.1]; omega)
  refine a_astore_n (pc := 314) (hN _ _) dL_areLinesRight_314 (Nat.le_of_ble_eq_true rfl) ?_
  refine a_iload_n (pc := 315) (hN _ _) dL_areLinesRight_315 rfl ?_
  refine a_if_eq (pc := 316) (tgt := 381) (hN _ _) dL_areLinesRight_316 (by decide) (fun c => absurd c (by decide)) (fun _ => ?_)
  refine a_aload_n (pc := 319) (hN _ _) dL_areLinesRight_319 rfl ?_
  refine a_aload_n (pc := 320) (hN _ _) dL_areLinesRight_320 rfl ?_
  refine a_iload_n (pc := 321) (hN _ _) dL_areLinesRight_321 rfl ?_
  refine a_callV (As := [.int (nI i)]) (pc := 322) (hN _ _) hR vm_X9_tellEcho tw_1393 cl_X9 (oX_0 (hX _ _)) ⟨(Nat.le_of_ble_eq_true rfl), (Nat.le_of_ble_eq_true rfl), by omega, by omega⟩ dL_areLinesRight_322 (t_X9_tellEcho0 rfl ht (hX _ _) hC.tr (nI i) (d, t) (fun x9 q9 => x9 = nI (lineE u i s r l v).length ∧ q9 = (d, lineE u i s r l v)) (y_tellEcho (q := (d, t)) (P := fun x9 q9 => x9 = nI (lineE u i s r l v).length ∧ q9 = (d, lineE u i s r l v)) h hI hi es er hs hr el ⟨rfl, rfl⟩)) rfl rfl rfl (Nat.le_of_ble_eq_true rfl) (fun x q2 h2 => ?_)
  obtain ⟨rfl, rfl⟩ := h2
  refine l_newSB (pc := 325) ht (hN _ _) hR (by decide) (by omega) (by omega) dL_areLinesRight_325 dL_areLinesRight_328 dL_areLinesRight_329 rfl (Nat.le_of_ble_eq_true rfl) (fun p1 sl1 hsl1 => ?_)
  refine a_iload_n (pc := 332) (hN _ _) dL_areLinesRight_332 rfl ?_
  refine a_sbAppI (pc := 333) (q := (d, [])) rfl ht (hN _ _) hR tw_1106 (w := i) rfl (by omega) (by simp [ra.2]) ⟨(Nat.le_of_ble_eq_true rfl), (Nat.le_of_ble_eq_true rfl), by omega, by omega⟩ dL_areLinesRight_333 rfl (Nat.le_of_ble_eq_true rfl) ?_
  show AW f _ 336 _ _ (d, ([]) ++ dgs i) _ _
  refine a_ldcT (pc := 336) (hN _ _) 8 (by decide) (idx := 235) rfl dL_areLinesRight_336 ?_
  refine a_sbAppS (pc := 338) (q := (d, ([]) ++ dgs i)) rfl ht (hN _ _) hR tw_1178 (strK 8 (by decide)) (okT_k 8 (by decide)) (Nat.le_trans (Nat.add_le_add_left (sLet_ok 8 (by decide)) _) (by simp [ra.1])) ⟨(Nat.le_of_ble_eq_true rfl), (Nat.le_of_ble_eq_true rfl), by omega, by omega⟩ dL_areLinesRight_338 rfl (Nat.le_of_ble_eq_true rfl) ?_
  show AW f _ 341 _ _ (d, (([]) ++ dgs i) ++ [94]) _ _
  refine a_aload_n (pc := 341) (hN _ _) dL_areLinesRight_341 rfl ?_
  refine a_iload_n (pc := 342) (hN _ _) dL_areLinesRight_342 rfl ?_
  refine a_iconst (pc := 343) (hN _ _) dL_areLinesRight_343 (v := 1) rfl ?_
  refine a_callV (As := [.int (nI i), .int (1)]) (pc := 344) (hN _ _) hR vm_X9_echoOf tw_510 cl_X9 (oX_0 (hX _ _)) ⟨(Nat.le_of_ble_eq_true rfl), (Nat.le_of_ble_eq_true rfl), by omega, by omega⟩ dL_areLinesRight_344 (t_X9_echoOf0 (hX _ _) hC.tr (nI i) (1) (d, (([]) ++ dgs i) ++ [94]) (fun x9 q9 => x9 = u 7 i ∧ q9 = (d, (([]) ++ dgs i) ++ [94])) (y_E1 (q := (d, (([]) ++ dgs i) ++ [94])) (P := fun x9 q9 => x9 = u 7 i ∧ q9 = (d, (([]) ++ dgs i) ++ [94])) h hI hi ⟨rfl, rfl⟩)) rfl rfl rfl (Nat.le_of_ble_eq_true rfl) (fun x q2 h2 => ?_)
  obtain ⟨rfl, rfl⟩ := h2
  refine a_sbAppI (pc := 347) (q := (d, (([]) ++ dgs i) ++ [94])) rfl ht (hN _ _) hR tw_1106 (w := s) es (by omega) (by simp [ra.1, rb.2]) ⟨(Nat.le_of_ble_eq_true rfl), (Nat.le_of_ble_eq_true rfl), by omega, by omega⟩ dL_areLinesRight_347 rfl (Nat.le_of_ble_eq_true rfl) ?_
  show AW f _ 350 _ _ (d, ((([]) ++ dgs i) ++ [94]) ++ dgs s) _ _
  refine a_ldcT (pc := 350) (hN _ _) 9 (by decide) (idx := 237) rfl dL_areLinesRight_350 ?_
  refine a_sbAppS (pc := 352) (q := (d, ((([]) ++ dgs i) ++ [94]) ++ dgs s)) rfl ht (hN _ _) hR tw_1178 (strK 9 (by decide)) (okT_k 9 (by decide)) (Nat.le_trans (Nat.add_le_add_left (sLet_ok 9 (by decide)) _) (by simp [ra.1, rb.1])) ⟨(Nat.le_of_ble_eq_true rfl), (Nat.le_of_ble_eq_true rfl), by omega, by omega⟩ dL_areLinesRight_352 rfl (Nat.le_of_ble_eq_true rfl) ?_
  show AW f _ 355 _ _ (d, (((([]) ++ dgs i) ++ [94]) ++ dgs s) ++ [64]) _ _
  refine a_aload_n (pc := 355) (hN _ _) dL_areLinesRight_355 rfl ?_
  refine a_iload_n (pc := 356) (hN _ _) dL_areLinesRight_356 rfl ?_
  refine a_iconst (pc := 357) (hN _ _) dL_areLinesRight_357 (v := 0) rfl ?_
  refine a_callV (As := [.int (nI i), .int (0)]) (pc := 358) (hN _ _) hR vm_X9_echoOf tw_510 cl_X9 (oX_0 (hX _ _)) ⟨(Nat.le_of_ble_eq_true rfl), (Nat.le_of_ble_eq_true rfl), by omega, by omega⟩ dL_areLinesRight_358 (t_X9_echoOf0 (hX _ _) hC.tr (nI i) (0) (d, (((([]) ++ dgs i) ++ [94]) ++ dgs s) ++ [64]) (fun x9 q9 => x9 = u 6 i ∧ q9 = (d, (((([]) ++ dgs i) ++ [94]) ++ dgs s) ++ [64])) (y_E0 (q := (d, (((([]) ++ dgs i) ++ [94]) ++ dgs s) ++ [64])) (P := fun x9 q9 => x9 = u 6 i ∧ q9 = (d, (((([]) ++ dgs i) ++ [94]) ++ dgs s) ++ [64])) h hI hi ⟨rfl, rfl⟩)) rfl rfl rfl (Nat.le_of_ble_eq_true rfl) (fun x q2 h2 => ?_)
  obtain ⟨rfl, rfl⟩ := h2
  refine a_sbAppI (pc := 361) (q := (d, (((([]) ++ dgs i) ++ [94]) ++ dgs s) ++ [64])) rfl ht (hN _ _) hR tw_1106 (w := r) er (by omega) (by simp [ra.1, rb.1]; omega) ⟨(Nat.le_of_ble_eq_true rfl), (Nat.le_of_ble_eq_true rfl), by omega, by omega⟩ dL_areLinesRight_361 rfl (Nat.le_of_ble_eq_true rfl) ?_
  show AW f _ 364 _ _ (d, ((((([]) ++ dgs i) ++ [94]) ++ dgs s) ++ [64]) ++ dgs r) _ _
  show AW f _ 364 _ _ (d, lnE i s r) _ _
  refine a_aload_n (pc := 364) (hN _ _) dL_areLinesRight_364 rfl ?_
  refine a_sbAppS (pc := 365) (q := (d, lnE i s r)) rfl ht (hN _ _) hR tw_1178 (hS.add) hok (by unfold lnE; simp [ra.1, rb.1, rc.1]; omega) ⟨(Nat.le_of_ble_eq_true rfl), (Nat.le_of_ble_eq_true rfl), by omega, by omega⟩ dL_areLinesRight_365 rfl (Nat.le_of_ble_eq_true rfl) ?_
  show AW f _ 368 _ _ (d, (lnE i s r) ++ w1) _ _
  refine l_toStr (pc := 368) (t := (lnE i s r) ++ w1) ht (hN _ _) hR tw_1229 ⟨(Nat.le_of_ble_eq_true rfl), (Nat.le_of_ble_eq_true rfl), by omega, by omega⟩ dL_areLinesRight_368 rfl (Nat.le_of_ble_eq_true rfl) (fun o1 qs1 b1 hb1 => ?_)
  refine AW.refocus (X := strC z o1 qs1 _ b1) (R0 := RS) hsl1 ?_
  have hS9 := strN_ (z := z) (RS := RS) (o := o1) (qs := qs1) hb1
  generalize hX9 : strC z o1 qs1 ((lnE i s r) ++ w1).length b1 ++ RS = R9 at hS9 ⊢
  rw [ew] at hS9
  refine a_callS (As := [.ref (z.2.2.1 0), .int (nI (lineE u i s r l v).length), .ref o1]) (pc := 371) (hN _ _) hR sm_L_isLine tw_1371 ⟨(Nat.le_of_ble_eq_true rfl), (Nat.le_of_ble_eq_true rfl), by omega, by omega⟩ dL_areLinesRight_371 (t_L_isLine (q := (d, lineE u i s r l v)) (P := fun x9 q9 => x9 = 1 ∧ q9 = (d, lineE u i s r l v)) ht hC.tr hS9 okl rfl ⟨rfl, rfl⟩) rfl rfl rfl (Nat.le_of_ble_eq_true rfl) (fun x q2 h2 => ?_)
  obtain ⟨-, rfl, rfl⟩ := h2
  refine a_if_eq (pc := 374) (tgt := 381) (hN _ _) dL_areLinesRight_374 (by decide) (fun c => absurd c (by decide)) (fun _ => ?_)
  refine a_iconst (pc := 377) (hN _ _) dL_areLinesRight_377 (v := 1) rfl ?_
  refine a_goto (pc := 378) (tgt := 382) (hN _ _) dL_areLinesRight_378 (by decide) ?_
  refine a_istore_n (pc := 382) (hN _ _) dL_areLinesRight_382 (Nat.le_of_ble_eq_true rfl) ?_
  refine a_iinc (pc := 383) (hN _ _) dL_areLinesRight_383 rfl (c := 1) rfl ?_
  rw [nI_1]
  refine a_goto (pc := 386) (tgt := 253) (hN _ _) dL_areLinesRight_386 (by decide) ?_
  exact kk _ _ _ _
set_option maxRecDepth 20000 in
theorem g_eco (ht : z.2.1.map Prod.snd = tyX) (hC : aOK f (lX z [] (z.2.2.1 205)) cL_areLinesRight 5 RL) (hR : f_R f = aR 9 1700 120000) (h : RX 1 d u) (hI : Inv n0 u) {i s r l v : Nat} (hi : i < cE u) (es : u 7 i = nI s) (er : u 6 i = nI r) (hs : s < 10) (hr : r < 10) (el : ¬ u 8 i = -1 → u 8 i = nI l ∧ l < 10 ∧ u 9 i = nI v ∧ v < 10) {RS : va_W} {t : List Nat} {k n : Nat} {x3 x4 : Option Value} (hk : k + 28 ≤ 1700) (hn : n + 2568 ≤ 120000) (kk : ∀ (RS' : va_W) (t' : List Nat) (x3 x4 : Option Value), AW f (lX z RS' (z.2.2.1 205)) 253 [some (.ref (z.2.2.1 0)), some (.int 1), some (.int (nI (i + 1))), x3, x4] [] (d, t') (k + 28) (n + 2568)) : AW f (lX z RS (z.2.2.1 205)) 253 [some (.ref (z.2.2.1 0)), some (.int 1), some (.int (nI i)), x3, x4] [] (d, t) k n := by
  have hN : ∀ RS ba, aOK f (lX z RS ba) cL_areLinesRight 5 RL := lOK hC
  have hX : ∀ RS ba, isX (lX z RS ba) := lX_is ht
  have hb1 := hI.1.1.2
  have hb2 := hI.1.2.1.2
  have hb3 := hI.1.2.2.2
  refine a_iload_n (pc := 253) (hN _ _) dL_areLinesRight_253 rfl ?_
  refine a_aload_n (pc := 254) (hN _ _) dL_areLinesRight_254 rfl ?_
  refine a_iconst (pc := 255) (hN _ _) dL_areLinesRight_255 (v := 1) rfl ?_
  refine a_callV (As := [.int (1)]) (pc := 256) (hN _ _) hR vm_X9_account tw_327 cl_X9 (oX_0 (hX _ _)) ⟨(Nat.le_of_ble_eq_true rfl), (Nat.le_of_ble_eq_true rfl), by omega, by omega⟩ dL_areLinesRight_256 (t_X9_account0 (hX _ _) hC.tr (1) (d, t) (fun x9 q9 => x9 = nI (cE u) ∧ q9 = (d, t)) (y_A1 (q := (d, t)) (P := fun x9 q9 => x9 = nI (cE u) ∧ q9 = (d, t)) h hI ⟨rfl, rfl⟩)) rfl rfl rfl (Nat.le_of_ble_eq_true rfl) (fun x q2 h2 => ?_)
  obtain ⟨rfl, rfl⟩ := h2
  refine a_icmp_ge (pc := 259) (tgt := 389) (hN _ _) dL_areLinesRight_259 (by decide) (fun c => absurd c (nI_ge hi (by omega))) (fun _ => ?_)
  refine a_aload_n (pc := 262) (hN _ _) dL_areLinesRight_262 rfl ?_
  refine a_iload_n (pc := 263) (hN _ _) dL_areLinesRight_263 rfl ?_
  refine a_iconst (pc := 264) (hN _ _) dL_areLinesRight_264 (v := 2) rfl ?_
  refine a_callV (As := [.int (nI i), .int (2)]) (pc := 265) (hN _ _) hR vm_X9_echoOf tw_510 cl_X9 (oX_0 (hX _ _)) ⟨(Nat.le_of_ble_eq_true rfl), (Nat.le_of_ble_eq_true rfl), by omega, by omega⟩ dL_areLinesRight_265 (t_X9_echoOf0 (hX _ _) hC.tr (nI i) (2) (d, t) (fun x9 q9 => x9 = u 8 i ∧ q9 = (d, t)) (y_E2 (q := (d, t)) (P := fun x9 q9 => x9 = u 8 i ∧ q9 = (d, t)) h hI hi ⟨rfl, rfl⟩)) rfl rfl rfl (Nat.le_of_ble_eq_true rfl) (fun x q2 h2 => ?_)
  obtain ⟨rfl, rfl⟩ := h2
  refine a_if_ge (pc := 268) (tgt := 276) (hN _ _) dL_areLinesRight_268 (by decide) (fun c9 => ?_) (fun c9 => ?_)
  · have c8 : ¬ u 8 i = -1 := fun e => by
      rw [e] at c9
      exact absurd c9 (by decide)
    obtain ⟨e8, hl, e9, hv⟩ := el c8
    have rl := dg_l hl
    have rv := dg_l hv
    refine l_newSB (pc := 276) ht (hN _ _) hR (by decide) (by omega) (by omega) dL_areLinesRight_276 dL_areLinesRight_279 dL_areLinesRight_280 rfl (Nat.le_of_ble_eq_true rfl) (fun p1 sl1 hsl1 => ?_)
    refine a_ldcT (pc := 283) (hN _ _) 6 (by decide) (idx := 228) rfl dL_areLinesRight_283 ?_
    refine a_sbAppS (pc := 285) (q := (d, [])) rfl ht (hN _ _) hR tw_1178 (strK 6 (by decide)) (okT_k 6 (by decide)) (Nat.le_trans (Nat.add_le_add_left (sLet_ok 6 (by decide)) _) (by simp)) ⟨(Nat.le_of_ble_eq_true rfl), (Nat.le_of_ble_eq_true rfl), by omega, by omega⟩ dL_areLinesRight_285 rfl (Nat.le_of_ble_eq_true rfl) ?_
    show AW f _ 288 _ _ (d, ([]) ++ [61]) _ _
    refine a_aload_n (pc := 288) (hN _ _) dL_areLinesRight_288 rfl ?_
    refine a_iload_n (pc := 289) (hN _ _) dL_areLinesRight_289 rfl ?_
    refine a_iconst (pc := 290) (hN _ _) dL_areLinesRight_290 (v := 2) rfl ?_
    refine a_callV (As := [.int (nI i), .int (2)]) (pc := 291) (hN _ _) hR vm_X9_echoOf tw_510 cl_X9 (oX_0 (hX _ _)) ⟨(Nat.le_of_ble_eq_true rfl), (Nat.le_of_ble_eq_true rfl), by omega, by omega⟩ dL_areLinesRight_291 (t_X9_echoOf0 (hX _ _) hC.tr (nI i) (2) (d, ([]) ++ [61]) (fun x9 q9 => x9 = u 8 i ∧ q9 = (d, ([]) ++ [61])) (y_E2 (q := (d, ([]) ++ [61])) (P := fun x9 q9 => x9 = u 8 i ∧ q9 = (d, ([]) ++ [61])) h hI hi ⟨rfl, rfl⟩)) rfl rfl rfl (Nat.le_of_ble_eq_true rfl) (fun x q2 h2 => ?_)
    obtain ⟨rfl, rfl⟩ := h2
    refine a_sbAppI (pc := 294) (q := (d, ([]) ++ [61])) rfl ht (hN _ _) hR tw_1106 (w := l) e8 (by omega) (by simp [rl.2]) ⟨(Nat.le_of_ble_eq_true rfl), (Nat.le_of_ble_eq_true rfl), by omega, by omega⟩ dL_areLinesRight_294 rfl (Nat.le_of_ble_eq_true rfl) ?_
    show AW f _ 297 _ _ (d, (([]) ++ [61]) ++ dgs l) _ _
    refine a_ldcT (pc := 297) (hN _ _) 7 (by decide) (idx := 230) rfl dL_areLinesRight_297 ?_
    refine a_sbAppS (pc := 299) (q := (d, (([]) ++ [61]) ++ dgs l)) rfl ht (hN _ _) hR tw_1178 (strK 7 (by decide)) (okT_k 7 (by decide)) (Nat.le_trans (Nat.add_le_add_left (sLet_ok 7 (by decide)) _) (by simp [rl.1])) ⟨(Nat.le_of_ble_eq_true rfl), (Nat.le_of_ble_eq_true rfl), by omega, by omega⟩ dL_areLinesRight_299 rfl (Nat.le_of_ble_eq_true rfl) ?_
    show AW f _ 302 _ _ (d, ((([]) ++ [61]) ++ dgs l) ++ [47]) _ _
    refine a_aload_n (pc := 302) (hN _ _) dL_areLinesRight_302 rfl ?_
    refine a_iload_n (pc := 303) (hN _ _) dL_areLinesRight_303 rfl ?_
    refine a_iconst (pc := 304) (hN _ _) dL_areLinesRight_304 (v := 3) rfl ?_
    refine a_callV (As := [.int (nI i), .int (3)]) (pc := 305) (hN _ _) hR vm_X9_echoOf tw_510 cl_X9 (oX_0 (hX _ _)) ⟨(Nat.le_of_ble_eq_true rfl), (Nat.le_of_ble_eq_true rfl), by omega, by omega⟩ dL_areLinesRight_305 (t_X9_echoOf0 (hX _ _) hC.tr (nI i) (3) (d, ((([]) ++ [61]) ++ dgs l) ++ [47]) (fun x9 q9 => x9 = u 9 i ∧ q9 = (d, ((([]) ++ [61]) ++ dgs l) ++ [47])) (y_E3 (q := (d, ((([]) ++ [61]) ++ dgs l) ++ [47])) (P := fun x9 q9 => x9 = u 9 i ∧ q9 = (d, ((([]) ++ [61]) ++ dgs l) ++ [47])) h hI hi ⟨rfl, rfl⟩)) rfl rfl rfl (Nat.le_of_ble_eq_true rfl) (fun x q2 h2 => ?_)
    obtain ⟨rfl, rfl⟩ := h2
    refine a_sbAppI (pc := 308) (q := (d, ((([]) ++ [61]) ++ dgs l) ++ [47])) rfl ht (hN _ _) hR tw_1106 (w := v) e9 (by omega) (by simp [rl.1, rv.2]) ⟨(Nat.le_of_ble_eq_true rfl), (Nat.le_of_ble_eq_true rfl), by omega, by omega⟩ dL_areLinesRight_308 rfl (Nat.le_of_ble_eq_true rfl) ?_
    show AW f _ 311 _ _ (d, (((([]) ++ [61]) ++ dgs l) ++ [47]) ++ dgs v) _ _
    refine l_toStr (pc := 311) (t := (((([]) ++ [61]) ++ dgs l) ++ [47]) ++ dgs v) ht (hN _ _) hR tw_1229 ⟨(Nat.le_of_ble_eq_true rfl), (Nat.le_of_ble_eq_true rfl), by omega, by omega⟩ dL_areLinesRight_311 rfl (Nat.le_of_ble_eq_true rfl) (fun o1 qs1 b1 hb1 => ?_)
    refine AW.refocus (X := strC z o1 qs1 _ b1) (R0 := RS) hsl1 ?_
    exact g_ecoj ht hC hR h hI hi es er hs hr el (strN_ hb1) (okT_app (okT_app (okT_app (okT_app okT_nil (okT_1 (by decide)) (Nat.le_of_ble_eq_true rfl)) (okT_d (by omega)) (by simp [rl.1])) (okT_1 (by decide)) (by simp [rl.1])) (okT_d (by omega)) (by simp [rl.1, rv.1])) (by simp [rl.1, rv.1]) (by unfold lineE; rw [if_neg c8]; simp [List.append_assoc]) (by omega) (by omega) (fun RS' t' y3 y4 => AW.widen (k2 := k + 28) (n2 := n + 2568) (by omega) (by omega) (kk _ _ _ _))
  · have c8 : u 8 i = -1 := by
      rcases e8_c hI hi with ⟨z, _⟩ | ⟨_, _, z, _⟩
      · exact z
      · exact absurd z c9
    refine a_ldcT (pc := 271) (hN _ _) 0 (by decide) (idx := 215) rfl dL_areLinesRight_271 ?_
    refine a_goto (pc := 273) (tgt := 314) (hN _ _) dL_areLinesRight_273 (by decide) ?_
    exact g_ecoj ht hC hR h hI hi es er hs hr el (strK 0 (by decide)) okT_nil (Nat.zero_le _) (by unfold lineE; rw [if_pos c8]; exact List.append_nil _) (by omega) (by omega) (fun RS' t' y3 y4 => AW.widen (k2 := k + 28) (n2 := n + 2568) (by omega) (by omega) (kk _ _ _ _))
set_option maxRecDepth 20000 in
theorem g_ecol (ht : z.2.1.map Prod.snd = tyX) (hC : aOK f (lX z [] (z.2.2.1 205)) cL_areLinesRight 5 RL) (hR : f_R f = aR 9 1700 120000) (h : RX 1 d u) (hI : Inv n0 u) : ∀ (c i : Nat) (RS : va_W) (t : List Nat) (x3 x4 : Option Value) (k n : Nat), i + c = cE u → k + 28 * c ≤ 1700 → n + 2568 * c ≤ 120000 →
    (∀ (RS' : va_W) (t' : List Nat) (x3 x4 : Option Value), AW f (lX z RS' (z.2.2.1 205)) 389 [some (.ref (z.2.2.1 0)), some (.int 1), some (.int (nI (cE u))), x3, x4] [] (d, t') (k + 28 * c) (n + 2568 * c)) → AW f (lX z RS (z.2.2.1 205)) 253 [some (.ref (z.2.2.1 0)), some (.int 1), some (.int (nI i)), x3, x4] [] (d, t) k n := by
  have hN : ∀ RS ba, aOK f (lX z RS ba) cL_areLinesRight 5 RL := lOK hC
  have hX : ∀ RS ba, isX (lX z RS ba) := lX_is ht
  have hb1 := hI.1.1.2
  have hb2 := hI.1.2.1.2
  have hb3 := hI.1.2.2.2
  intro c
  induction c with
  | zero =>
    intro i RS t x3 x4 k n hi hk hn kk
    have hi : i = cE u := hi
    subst hi
    refine a_iload_n (pc := 253) (hN _ _) dL_areLinesRight_253 rfl ?_
    refine a_aload_n (pc := 254) (hN _ _) dL_areLinesRight_254 rfl ?_
    refine a_iconst (pc := 255) (hN _ _) dL_areLinesRight_255 (v := 1) rfl ?_
    refine a_callV (As := [.int (1)]) (pc := 256) (hN _ _) hR vm_X9_account tw_327 cl_X9 (oX_0 (hX _ _)) ⟨(Nat.le_of_ble_eq_true rfl), (Nat.le_of_ble_eq_true rfl), by omega, by omega⟩ dL_areLinesRight_256 (t_X9_account0 (hX _ _) hC.tr (1) (d, t) (fun x9 q9 => x9 = nI (cE u) ∧ q9 = (d, t)) (y_A1 (q := (d, t)) (P := fun x9 q9 => x9 = nI (cE u) ∧ q9 = (d, t)) h hI ⟨rfl, rfl⟩)) rfl rfl rfl (Nat.le_of_ble_eq_true rfl) (fun x q2 h2 => ?_)
    obtain ⟨rfl, rfl⟩ := h2
    refine a_icmp_ge (pc := 259) (tgt := 389) (hN _ _) dL_areLinesRight_259 (by decide) (fun _ => ?_) (fun c => absurd (nI_le (Nat.le_refl _) (by omega)) c)
    exact kk RS t x3 x4
  | succ c ih =>
    intro i RS t x3 x4 k n hi hk hn kk
    have hi' : i < cE u := by omega
    obtain ⟨⟨r, hr, er⟩, ⟨s, s1, hs, es⟩, h8⟩ := hI.2.2.1 i hi'
    have el : ∃ l v : Nat, ¬ u 8 i = -1 → u 8 i = nI l ∧ l < 10 ∧ u 9 i = nI v ∧ v < 10 := by
      rcases h8 with z | ⟨⟨l, hl, e8⟩, v, v1, v9, e9⟩
      · exact ⟨0, 0, fun c => absurd z.1 c⟩
      · exact ⟨l, v, fun _ => ⟨e8, by omega, e9, by omega⟩⟩
    obtain ⟨l, v, el⟩ := el
    refine g_eco ht hC hR h hI hi' es er (by omega) (by omega) el (by omega) (by omega) (fun RS1 t1 y3 y4 => ?_)
    refine ih (i + 1) RS1 t1 y3 y4 _ _ (by omega) (by omega) (by omega) (fun RS5 t5 y3 y4 => ?_)
    have e1 : k + 28 + 28 * c = k + 28 * (c + 1) := by omega
    have e2 : n + 2568 + 2568 * c = n + 2568 * (c + 1) := by omega
    rw [e1, e2]
    exact kk RS5 t5 y3 y4
set_option maxRecDepth 20000 in
theorem g_scoj (ht : z.2.1.map Prod.snd = tyX) (hC : aOK f (lX z [] (z.2.2.1 205)) cL_areLinesRight 5 RL) (hR : f_R f = aR 9 1700 120000) (h : RX 1 d u) (hI : Inv n0 u) {i s r l : Nat} (hi : i < cS u) (es : u 12 i = nI s) (er : u 13 i = nI r) (hs : s < 10) (hr : r < 100) (el : ¬ u 14 i = -1 → u 14 i = nI l ∧ l < 10) {RS : va_W} {t w1 : List Nat} {a qa k n : Nat} {x3 x4 : Option Value} (hS : Str z RS a qa w1) (hok : okT w1) (h4 : w1.length ≤ 4) (ew : (lnS i s r) ++ w1 = lineS u i s r l) (hk : k + 18 ≤ 1700) (hn : n + 1764 ≤ 120000) (kk : ∀ (RS' : va_W) (t' : List Nat) (x3 x4 : Option Value), AW f (lX z RS' (z.2.2.1 205)) 391 [some (.ref (z.2.2.1 0)), some (.int 1), some (.int (nI (i + 1))), x3, x4] [] (d, t') (k + 18) (n + 1764)) : AW f (lX z RS (z.2.2.1 205)) 438 [some (.ref (z.2.2.1 0)), some (.int 1), some (.int (nI i)), x3, x4] [.ref a] (d, t) k n := by
  have hN : ∀ RS ba, aOK f (lX z RS ba) cL_areLinesRight 5 RL := lOK hC
  have hX : ∀ RS ba, isX (lX z RS ba) := lX_is ht
  have hb1 := hI.1.1.2
  have hb2 := hI.1.2.1.2
  have hb3 := hI.1.2.2.2
  have ra := dg_l (x := i) (by omega)
  have rb := dg_l hs
  have rc := dg_2 (x := r)
  have ll := ln_5 (a := 33) (b := 37) (by decide) (by decide) (show i < 10 by omega) hs hr
  have okl : okT (lineS u i s r l) := by
    rw [← ew]
    exact okT_app ll.2 hok (by unfold lnS; rw [ll.1]; omega)
  refine a_astore_n (pc := 438) (hN _ _) dL_areLinesRight_438 (Nat.le_of_ble_eq_true rfl) ?_
  refine a_iload_n (pc := 439) (hN _ _) dL_areLinesRight_439 rfl ?_
  refine a_if_eq (pc := 440) (tgt := 505) (hN _ _) dL_areLinesRight_440 (by decide) (fun c => absurd c (by decide)) (fun _ => ?_)
  refine a_aload_n (pc := 443) (hN _ _) dL_areLinesRight_443 rfl ?_
  refine a_aload_n (pc := 444) (hN _ _) dL_areLinesRight_444 rfl ?_
  refine a_iload_n (pc := 445) (hN _ _) dL_areLinesRight_445 rfl ?_
  refine a_callV (As := [.int (nI i)]) (pc := 446) (hN _ _) hR vm_X9_tellSinger tw_1399 cl_X9 (oX_0 (hX _ _)) ⟨(Nat.le_of_ble_eq_true rfl), (Nat.le_of_ble_eq_true rfl), by omega, by omega⟩ dL_areLinesRight_446 (t_X9_tellSinger0 rfl ht (hX _ _) hC.tr (nI i) (d, t) (fun x9 q9 => x9 = nI (lineS u i s r l).length ∧ q9 = (d, lineS u i s r l)) (y_tellSinger (q := (d, t)) (P := fun x9 q9 => x9 = nI (lineS u i s r l).length ∧ q9 = (d, lineS u i s r l)) h hI hi es er hs hr el ⟨rfl, rfl⟩)) rfl rfl rfl (Nat.le_of_ble_eq_true rfl) (fun x q2 h2 => ?_)
  obtain ⟨rfl, rfl⟩ := h2
  refine l_newSB (pc := 449) ht (hN _ _) hR (by decide) (by omega) (by omega) dL_areLinesRight_449 dL_areLinesRight_452 dL_areLinesRight_453 rfl (Nat.le_of_ble_eq_true rfl) (fun p1 sl1 hsl1 => ?_)
  refine a_iload_n (pc := 456) (hN _ _) dL_areLinesRight_456 rfl ?_
  refine a_sbAppI (pc := 457) (q := (d, [])) rfl ht (hN _ _) hR tw_1106 (w := i) rfl (by omega) (by simp [ra.2]) ⟨(Nat.le_of_ble_eq_true rfl), (Nat.le_of_ble_eq_true rfl), by omega, by omega⟩ dL_areLinesRight_457 rfl (Nat.le_of_ble_eq_true rfl) ?_
  show AW f _ 460 _ _ (d, ([]) ++ dgs i) _ _
  refine a_ldcT (pc := 460) (hN _ _) 10 (by decide) (idx := 242) rfl dL_areLinesRight_460 ?_
  refine a_sbAppS (pc := 462) (q := (d, ([]) ++ dgs i)) rfl ht (hN _ _) hR tw_1178 (strK 10 (by decide)) (okT_k 10 (by decide)) (Nat.le_trans (Nat.add_le_add_left (sLet_ok 10 (by decide)) _) (by simp [ra.1])) ⟨(Nat.le_of_ble_eq_true rfl), (Nat.le_of_ble_eq_true rfl), by omega, by omega⟩ dL_areLinesRight_462 rfl (Nat.le_of_ble_eq_true rfl) ?_
  show AW f _ 465 _ _ (d, (([]) ++ dgs i) ++ [33]) _ _
  refine a_aload_n (pc := 465) (hN _ _) dL_areLinesRight_465 rfl ?_
  refine a_iload_n (pc := 466) (hN _ _) dL_areLinesRight_466 rfl ?_
  refine a_iconst (pc := 467) (hN _ _) dL_areLinesRight_467 (v := 0) rfl ?_
  refine a_callV (As := [.int (nI i), .int (0)]) (pc := 468) (hN _ _) hR vm_X9_singerOf tw_524 cl_X9 (oX_0 (hX _ _)) ⟨(Nat.le_of_ble_eq_true rfl), (Nat.le_of_ble_eq_true rfl), by omega, by omega⟩ dL_areLinesRight_468 (t_X9_singerOf0 (hX _ _) hC.tr (nI i) (0) (d, (([]) ++ dgs i) ++ [33]) (fun x9 q9 => x9 = u 12 i ∧ q9 = (d, (([]) ++ dgs i) ++ [33])) (y_S0 (q := (d, (([]) ++ dgs i) ++ [33])) (P := fun x9 q9 => x9 = u 12 i ∧ q9 = (d, (([]) ++ dgs i) ++ [33])) h hI hi ⟨rfl, rfl⟩)) rfl rfl rfl (Nat.le_of_ble_eq_true rfl) (fun x q2 h2 => ?_)
  obtain ⟨rfl, rfl⟩ := h2
  refine a_sbAppI (pc := 471) (q := (d, (([]) ++ dgs i) ++ [33])) rfl ht (hN _ _) hR tw_1106 (w := s) es (by omega) (by simp [ra.1, rb.2]) ⟨(Nat.le_of_ble_eq_true rfl), (Nat.le_of_ble_eq_true rfl), by omega, by omega⟩ dL_areLinesRight_471 rfl (Nat.le_of_ble_eq_true rfl) ?_
  show AW f _ 474 _ _ (d, ((([]) ++ dgs i) ++ [33]) ++ dgs s) _ _
  refine a_ldcT (pc := 474) (hN _ _) 11 (by decide) (idx := 244) rfl dL_areLinesRight_474 ?_
  refine a_sbAppS (pc := 476) (q := (d, ((([]) ++ dgs i) ++ [33]) ++ dgs s)) rfl ht (hN _ _) hR tw_1178 (strK 11 (by decide)) (okT_k 11 (by decide)) (Nat.le_trans (Nat.add_le_add_left (sLet_ok 11 (by decide)) _) (by simp [ra.1, rb.1])) ⟨(Nat.le_of_ble_eq_true rfl), (Nat.le_of_ble_eq_true rfl), by omega, by omega⟩ dL_areLinesRight_476 rfl (Nat.le_of_ble_eq_true rfl) ?_
  show AW f _ 479 _ _ (d, (((([]) ++ dgs i) ++ [33]) ++ dgs s) ++ [37]) _ _
  refine a_aload_n (pc := 479) (hN _ _) dL_areLinesRight_479 rfl ?_
  refine a_iload_n (pc := 480) (hN _ _) dL_areLinesRight_480 rfl ?_
  refine a_iconst (pc := 481) (hN _ _) dL_areLinesRight_481 (v := 1) rfl ?_
  refine a_callV (As := [.int (nI i), .int (1)]) (pc := 482) (hN _ _) hR vm_X9_singerOf tw_524 cl_X9 (oX_0 (hX _ _)) ⟨(Nat.le_of_ble_eq_true rfl), (Nat.le_of_ble_eq_true rfl), by omega, by omega⟩ dL_areLinesRight_482 (t_X9_singerOf0 (hX _ _) hC.tr (nI i) (1) (d, (((([]) ++ dgs i) ++ [33]) ++ dgs s) ++ [37]) (fun x9 q9 => x9 = u 13 i ∧ q9 = (d, (((([]) ++ dgs i) ++ [33]) ++ dgs s) ++ [37])) (y_S1 (q := (d, (((([]) ++ dgs i) ++ [33]) ++ dgs s) ++ [37])) (P := fun x9 q9 => x9 = u 13 i ∧ q9 = (d, (((([]) ++ dgs i) ++ [33]) ++ dgs s) ++ [37])) h hI hi ⟨rfl, rfl⟩)) rfl rfl rfl (Nat.le_of_ble_eq_true rfl) (fun x q2 h2 => ?_)
  obtain ⟨rfl, rfl⟩ := h2
  refine a_sbAppI (pc := 485) (q := (d, (((([]) ++ dgs i) ++ [33]) ++ dgs s) ++ [37])) rfl ht (hN _ _) hR tw_1106 (w := r) er (by omega) (by simp [ra.1, rb.1]; omega) ⟨(Nat.le_of_ble_eq_true rfl), (Nat.le_of_ble_eq_true rfl), by omega, by omega⟩ dL_areLinesRight_485 rfl (Nat.le_of_ble_eq_true rfl) ?_
  show AW f _ 488 _ _ (d, ((((([]) ++ dgs i) ++ [33]) ++ dgs s) ++ [37]) ++ dgs r) _ _
  show AW f _ 488 _ _ (d, lnS i s r) _ _
  refine a_aload_n (pc := 488) (hN _ _) dL_areLinesRight_488 rfl ?_
  refine a_sbAppS (pc := 489) (q := (d, lnS i s r)) rfl ht (hN _ _) hR tw_1178 (hS.add) hok (by unfold lnS; simp [ra.1, rb.1, rc.1]; omega) ⟨(Nat.le_of_ble_eq_true rfl), (Nat.le_of_ble_eq_true rfl), by omega, by omega⟩ dL_areLinesRight_489 rfl (Nat.le_of_ble_eq_true rfl) ?_
  show AW f _ 492 _ _ (d, (lnS i s r) ++ w1) _ _
  refine l_toStr (pc := 492) (t := (lnS i s r) ++ w1) ht (hN _ _) hR tw_1229 ⟨(Nat.le_of_ble_eq_true rfl), (Nat.le_of_ble_eq_true rfl), by omega, by omega⟩ dL_areLinesRight_492 rfl (Nat.le_of_ble_eq_true rfl) (fun o1 qs1 b1 hb1 => ?_)
  refine AW.refocus (X := strC z o1 qs1 _ b1) (R0 := RS) hsl1 ?_
  have hS9 := strN_ (z := z) (RS := RS) (o := o1) (qs := qs1) hb1
  generalize hX9 : strC z o1 qs1 ((lnS i s r) ++ w1).length b1 ++ RS = R9 at hS9 ⊢
  rw [ew] at hS9
  refine a_callS (As := [.ref (z.2.2.1 0), .int (nI (lineS u i s r l).length), .ref o1]) (pc := 495) (hN _ _) hR sm_L_isLine tw_1371 ⟨(Nat.le_of_ble_eq_true rfl), (Nat.le_of_ble_eq_true rfl), by omega, by omega⟩ dL_areLinesRight_495 (t_L_isLine (q := (d, lineS u i s r l)) (P := fun x9 q9 => x9 = 1 ∧ q9 = (d, lineS u i s r l)) ht hC.tr hS9 okl rfl ⟨rfl, rfl⟩) rfl rfl rfl (Nat.le_of_ble_eq_true rfl) (fun x q2 h2 => ?_)
  obtain ⟨-, rfl, rfl⟩ := h2
  refine a_if_eq (pc := 498) (tgt := 505) (hN _ _) dL_areLinesRight_498 (by decide) (fun c => absurd c (by decide)) (fun _ => ?_)
  refine a_iconst (pc := 501) (hN _ _) dL_areLinesRight_501 (v := 1) rfl ?_
  refine a_goto (pc := 502) (tgt := 506) (hN _ _) dL_areLinesRight_502 (by decide) ?_
  refine a_istore_n (pc := 506) (hN _ _) dL_areLinesRight_506 (Nat.le_of_ble_eq_true rfl) ?_
  refine a_iinc (pc := 507) (hN _ _) dL_areLinesRight_507 rfl (c := 1) rfl ?_
  rw [nI_1]
  refine a_goto (pc := 510) (tgt := 391) (hN _ _) dL_areLinesRight_510 (by decide) ?_
  exact kk _ _ _ _
set_option maxRecDepth 20000 in
theorem g_sco (ht : z.2.1.map Prod.snd = tyX) (hC : aOK f (lX z [] (z.2.2.1 205)) cL_areLinesRight 5 RL) (hR : f_R f = aR 9 1700 120000) (h : RX 1 d u) (hI : Inv n0 u) {i s r l : Nat} (hi : i < cS u) (es : u 12 i = nI s) (er : u 13 i = nI r) (hs : s < 10) (hr : r < 100) (el : ¬ u 14 i = -1 → u 14 i = nI l ∧ l < 10) {RS : va_W} {t : List Nat} {k n : Nat} {x3 x4 : Option Value} (hk : k + 24 ≤ 1700) (hn : n + 2088 ≤ 120000) (kk : ∀ (RS' : va_W) (t' : List Nat) (x3 x4 : Option Value), AW f (lX z RS' (z.2.2.1 205)) 391 [some (.ref (z.2.2.1 0)), some (.int 1), some (.int (nI (i + 1))), x3, x4] [] (d, t') (k + 24) (n + 2088)) : AW f (lX z RS (z.2.2.1 205)) 391 [some (.ref (z.2.2.1 0)), some (.int 1), some (.int (nI i)), x3, x4] [] (d, t) k n := by
  have hN : ∀ RS ba, aOK f (lX z RS ba) cL_areLinesRight 5 RL := lOK hC
  have hX : ∀ RS ba, isX (lX z RS ba) := lX_is ht
  have hb1 := hI.1.1.2
  have hb2 := hI.1.2.1.2
  have hb3 := hI.1.2.2.2
  refine a_iload_n (pc := 391) (hN _ _) dL_areLinesRight_391 rfl ?_
  refine a_aload_n (pc := 392) (hN _ _) dL_areLinesRight_392 rfl ?_
  refine a_iconst (pc := 393) (hN _ _) dL_areLinesRight_393 (v := 2) rfl ?_
  refine a_callV (As := [.int (2)]) (pc := 394) (hN _ _) hR vm_X9_account tw_327 cl_X9 (oX_0 (hX _ _)) ⟨(Nat.le_of_ble_eq_true rfl), (Nat.le_of_ble_eq_true rfl), by omega, by omega⟩ dL_areLinesRight_394 (t_X9_account0 (hX _ _) hC.tr (2) (d, t) (fun x9 q9 => x9 = nI (cS u) ∧ q9 = (d, t)) (y_A2 (q := (d, t)) (P := fun x9 q9 => x9 = nI (cS u) ∧ q9 = (d, t)) h hI ⟨rfl, rfl⟩)) rfl rfl rfl (Nat.le_of_ble_eq_true rfl) (fun x q2 h2 => ?_)
  obtain ⟨rfl, rfl⟩ := h2
  refine a_icmp_ge (pc := 397) (tgt := 513) (hN _ _) dL_areLinesRight_397 (by decide) (fun c => absurd c (nI_ge hi (by omega))) (fun _ => ?_)
  refine a_aload_n (pc := 400) (hN _ _) dL_areLinesRight_400 rfl ?_
  refine a_iload_n (pc := 401) (hN _ _) dL_areLinesRight_401 rfl ?_
  refine a_iconst (pc := 402) (hN _ _) dL_areLinesRight_402 (v := 2) rfl ?_
  refine a_callV (As := [.int (nI i), .int (2)]) (pc := 403) (hN _ _) hR vm_X9_singerOf tw_524 cl_X9 (oX_0 (hX _ _)) ⟨(Nat.le_of_ble_eq_true rfl), (Nat.le_of_ble_eq_true rfl), by omega, by omega⟩ dL_areLinesRight_403 (t_X9_singerOf0 (hX _ _) hC.tr (nI i) (2) (d, t) (fun x9 q9 => x9 = u 14 i ∧ q9 = (d, t)) (y_S2 (q := (d, t)) (P := fun x9 q9 => x9 = u 14 i ∧ q9 = (d, t)) h hI hi ⟨rfl, rfl⟩)) rfl rfl rfl (Nat.le_of_ble_eq_true rfl) (fun x q2 h2 => ?_)
  obtain ⟨rfl, rfl⟩ := h2
  refine a_if_ge (pc := 406) (tgt := 414) (hN _ _) dL_areLinesRight_406 (by decide) (fun c9 => ?_) (fun c9 => ?_)
  · have c8 : ¬ u 14 i = -1 := fun e => by
      rw [e] at c9
      exact absurd c9 (by decide)
    obtain ⟨e8, hl⟩ := el c8
    have rl := dg_l hl
    refine l_newSB (pc := 414) ht (hN _ _) hR (by decide) (by omega) (by omega) dL_areLinesRight_414 dL_areLinesRight_417 dL_areLinesRight_418 rfl (Nat.le_of_ble_eq_true rfl) (fun p1 sl1 hsl1 => ?_)
    refine a_ldcT (pc := 421) (hN _ _) 9 (by decide) (idx := 237) rfl dL_areLinesRight_421 ?_
    refine a_sbAppS (pc := 423) (q := (d, [])) rfl ht (hN _ _) hR tw_1178 (strK 9 (by decide)) (okT_k 9 (by decide)) (Nat.le_trans (Nat.add_le_add_left (sLet_ok 9 (by decide)) _) (by simp)) ⟨(Nat.le_of_ble_eq_true rfl), (Nat.le_of_ble_eq_true rfl), by omega, by omega⟩ dL_areLinesRight_423 rfl (Nat.le_of_ble_eq_true rfl) ?_
    show AW f _ 426 _ _ (d, ([]) ++ [64]) _ _
    refine a_aload_n (pc := 426) (hN _ _) dL_areLinesRight_426 rfl ?_
    refine a_iload_n (pc := 427) (hN _ _) dL_areLinesRight_427 rfl ?_
    refine a_iconst (pc := 428) (hN _ _) dL_areLinesRight_428 (v := 2) rfl ?_
    refine a_callV (As := [.int (nI i), .int (2)]) (pc := 429) (hN _ _) hR vm_X9_singerOf tw_524 cl_X9 (oX_0 (hX _ _)) ⟨(Nat.le_of_ble_eq_true rfl), (Nat.le_of_ble_eq_true rfl), by omega, by omega⟩ dL_areLinesRight_429 (t_X9_singerOf0 (hX _ _) hC.tr (nI i) (2) (d, ([]) ++ [64]) (fun x9 q9 => x9 = u 14 i ∧ q9 = (d, ([]) ++ [64])) (y_S2 (q := (d, ([]) ++ [64])) (P := fun x9 q9 => x9 = u 14 i ∧ q9 = (d, ([]) ++ [64])) h hI hi ⟨rfl, rfl⟩)) rfl rfl rfl (Nat.le_of_ble_eq_true rfl) (fun x q2 h2 => ?_)
    obtain ⟨rfl, rfl⟩ := h2
    refine a_sbAppI (pc := 432) (q := (d, ([]) ++ [64])) rfl ht (hN _ _) hR tw_1106 (w := l) e8 (by omega) (by simp [rl.2]) ⟨(Nat.le_of_ble_eq_true rfl), (Nat.le_of_ble_eq_true rfl), by omega, by omega⟩ dL_areLinesRight_432 rfl (Nat.le_of_ble_eq_true rfl) ?_
    show AW f _ 435 _ _ (d, (([]) ++ [64]) ++ dgs l) _ _
    refine l_toStr (pc := 435) (t := (([]) ++ [64]) ++ dgs l) ht (hN _ _) hR tw_1229 ⟨(Nat.le_of_ble_eq_true rfl), (Nat.le_of_ble_eq_true rfl), by omega, by omega⟩ dL_areLinesRight_435 rfl (Nat.le_of_ble_eq_true rfl) (fun o1 qs1 b1 hb1 => ?_)
    refine AW.refocus (X := strC z o1 qs1 _ b1) (R0 := RS) hsl1 ?_
    exact g_scoj ht hC hR h hI hi es er hs hr el (strN_ hb1) (okT_app (okT_app okT_nil (okT_1 (by decide)) (Nat.le_of_ble_eq_true rfl)) (okT_d (by omega)) (by simp [rl.1])) (by simp [rl.1]) (by unfold lineS; rw [if_neg c8]; simp [List.append_assoc]) (by omega) (by omega) (fun RS' t' y3 y4 => AW.widen (k2 := k + 24) (n2 := n + 2088) (by omega) (by omega) (kk _ _ _ _))
  · have c8 : u 14 i = -1 := by
      rcases (hI.2.2.2.1 i hi).2.2.1 with z | ⟨r9, hr9, z⟩
      · exact z
      · rw [z] at c9
        exact absurd (nI_le (a := 0) (Nat.zero_le _) (by omega)) c9
    refine a_ldcT (pc := 409) (hN _ _) 0 (by decide) (idx := 215) rfl dL_areLinesRight_409 ?_
    refine a_goto (pc := 411) (tgt := 438) (hN _ _) dL_areLinesRight_411 (by decide) ?_
    exact g_scoj ht hC hR h hI hi es er hs hr el (strK 0 (by decide)) okT_nil (Nat.zero_le _) (by unfold lineS; rw [if_pos c8]; exact List.append_nil _) (by omega) (by omega) (fun RS' t' y3 y4 => AW.widen (k2 := k + 24) (n2 := n + 2088) (by omega) (by omega) (kk _ _ _ _))
set_option maxRecDepth 20000 in
theorem g_scol (ht : z.2.1.map Prod.snd = tyX) (hC : aOK f (lX z [] (z.2.2.1 205)) cL_areLinesRight 5 RL) (hR : f_R f = aR 9 1700 120000) (h : RX 1 d u) (hI : Inv n0 u) : ∀ (c i : Nat) (RS : va_W) (t : List Nat) (x3 x4 : Option Value) (k n : Nat), i + c = cS u → k + 24 * c ≤ 1700 → n + 2088 * c ≤ 120000 →
    (∀ (RS' : va_W) (t' : List Nat) (x3 x4 : Option Value), AW f (lX z RS' (z.2.2.1 205)) 513 [some (.ref (z.2.2.1 0)), some (.int 1), some (.int (nI (cS u))), x3, x4] [] (d, t') (k + 24 * c) (n + 2088 * c)) → AW f (lX z RS (z.2.2.1 205)) 391 [some (.ref (z.2.2.1 0)), some (.int 1), some (.int (nI i)), x3, x4] [] (d, t) k n := by
  have hN : ∀ RS ba, aOK f (lX z RS ba) cL_areLinesRight 5 RL := lOK hC
  have hX : ∀ RS ba, isX (lX z RS ba) := lX_is ht
  have hb1 := hI.1.1.2
  have hb2 := hI.1.2.1.2
  have hb3 := hI.1.2.2.2
  intro c
  induction c with
  | zero =>
    intro i RS t x3 x4 k n hi hk hn kk
    have hi : i = cS u := hi
    subst hi
    refine a_iload_n (pc := 391) (hN _ _) dL_areLinesRight_391 rfl ?_
    refine a_aload_n (pc := 392) (hN _ _) dL_areLinesRight_392 rfl ?_
    refine a_iconst (pc := 393) (hN _ _) dL_areLinesRight_393 (v := 2) rfl ?_
    refine a_callV (As := [.int (2)]) (pc := 394) (hN _ _) hR vm_X9_account tw_327 cl_X9 (oX_0 (hX _ _)) ⟨(Nat.le_of_ble_eq_true rfl), (Nat.le_of_ble_eq_true rfl), by omega, by omega⟩ dL_areLinesRight_394 (t_X9_account0 (hX _ _) hC.tr (2) (d, t) (fun x9 q9 => x9 = nI (cS u) ∧ q9 = (d, t)) (y_A2 (q := (d, t)) (P := fun x9 q9 => x9 = nI (cS u) ∧ q9 = (d, t)) h hI ⟨rfl, rfl⟩)) rfl rfl rfl (Nat.le_of_ble_eq_true rfl) (fun x q2 h2 => ?_)
    obtain ⟨rfl, rfl⟩ := h2
    refine a_icmp_ge (pc := 397) (tgt := 513) (hN _ _) dL_areLinesRight_397 (by decide) (fun _ => ?_) (fun c => absurd (nI_le (Nat.le_refl _) (by omega)) c)
    exact kk RS t x3 x4
  | succ c ih =>
    intro i RS t x3 x4 k n hi hk hn kk
    have hi' : i < cS u := by omega
    obtain ⟨⟨s, -, hs, es⟩, ⟨r, -, hr, er⟩, h8, -⟩ := hI.2.2.2.1 i hi'
    have el : ∃ l : Nat, ¬ u 14 i = -1 → u 14 i = nI l ∧ l < 10 := by
      rcases h8 with z | ⟨l, hl, e8⟩
      · exact ⟨0, fun c => absurd z c⟩
      · exact ⟨l, fun _ => ⟨e8, by omega⟩⟩
    obtain ⟨l, el⟩ := el
    refine g_sco ht hC hR h hI hi' es er (by omega) (by omega) el (by omega) (by omega) (fun RS1 t1 y3 y4 => ?_)
    refine ih (i + 1) RS1 t1 y3 y4 _ _ (by omega) (by omega) (by omega) (fun RS5 t5 y3 y4 => ?_)
    have e1 : k + 24 + 24 * c = k + 24 * (c + 1) := by omega
    have e2 : n + 2088 + 2088 * c = n + 2088 * (c + 1) := by omega
    rw [e1, e2]
    exact kk RS5 t5 y3 y4
/-- the lines of all rooms, echoes and singers -/
theorem t_L_areLinesRight {l : Launch} {q : aS} {P : Int32 → aS → Prop} (ht : z.2.1.map Prod.snd = tyX) (hl : l.stackTraces = false) (h : RX 1 q.1 u) (hI : Inv n0 u) (k : ∀ t, P 1 (q.1, t)) : aMi l (lX z [] (z.2.2.1 205)) yL_areLinesRight (aWs yL_areLinesRight cL_areLinesRight 5 (some .boolean)) 9 1700 120000 [.ref (z.2.2.1 0)] q (fun r u => (r = 0 ∨ r = 1) ∧ P r u) (fun _ _ => False) := by
  have hX0 := lX_is ht [] (z.2.2.1 205)
  obtain ⟨d, t⟩ := q
  refine aMi_of RL ⟨by decide +kernel, rfl⟩ (cat_all rfl) (Nat.le_of_ble_eq_true rfl) hl hX0.cl (fun f hR hC hE => ?_)
  show AW f (lX z [] (z.2.2.1 205)) 0 [some (.ref (z.2.2.1 0)), none, none, none, none] [] (d, t) 0 0
  have hN : ∀ RS ba, aOK f (lX z RS ba) cL_areLinesRight 5 RL := lOK hC
  have hX : ∀ RS ba, isX (lX z RS ba) := lX_is ht
  have hb1 := hI.1.1.2
  have hb2 := hI.1.2.1.2
  have hb3 := hI.1.2.2.2
  refine a_iconst (pc := 0) (hN _ _) dL_areLinesRight_0 (v := 1) rfl ?_
  refine a_istore_n (pc := 1) (hN _ _) dL_areLinesRight_1 (Nat.le_of_ble_eq_true rfl) ?_
  refine a_iconst (pc := 2) (hN _ _) dL_areLinesRight_2 (v := 0) rfl ?_
  refine a_istore_n (pc := 3) (hN _ _) dL_areLinesRight_3 (Nat.le_of_ble_eq_true rfl) ?_
  refine g_rooms ht hC hR h hI (cR u) 0 [] t none none 0 0 (by omega) (by omega) (by omega) (fun RS1 t1 a3 a4 => ?_)
  refine a_iconst (pc := 251) (hN _ _) dL_areLinesRight_251 (v := 0) rfl ?_
  refine a_istore_n (pc := 252) (hN _ _) dL_areLinesRight_252 (Nat.le_of_ble_eq_true rfl) ?_
  refine g_ecol ht hC hR h hI (cE u) 0 RS1 t1 a3 a4 _ _ (by omega) (by omega) (by omega) (fun RS2 t2 b3 b4 => ?_)
  refine a_iconst (pc := 389) (hN _ _) dL_areLinesRight_389 (v := 0) rfl ?_
  refine a_istore_n (pc := 390) (hN _ _) dL_areLinesRight_390 (Nat.le_of_ble_eq_true rfl) ?_
  refine g_scol ht hC hR h hI (cS u) 0 RS2 t2 b3 b4 _ _ (by omega) (by omega) (by omega) (fun RS3 t3 d3 d4 => ?_)
  refine a_iload_n (pc := 513) (hN _ _) dL_areLinesRight_513 rfl ?_
  refine AW.sub (List.nil_sublist _) ?_
  exact a_bret (pc := 514) hC hE (Or.inr rfl) (k t3) (by omega) (by omega) dL_areLinesRight_514
end LINES2

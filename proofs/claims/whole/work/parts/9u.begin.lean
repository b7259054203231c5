/-! the world that the makers leave, as the class' context -/
theorem va_at_dc {D : va_G} {cl : List vw_C} {a : Nat} {cA : ClassId} {n : Nat} {F F' : Nat → Option Nat} (hF : ∀ j, j < n → F j = F' j) {H : Heap} (h : va_at D cl (a, .inl (cA, (n, .inr (.inr (.inr (.inr F)))))) H) : va_at D cl (a, .inl (cA, (n, .inr (.inr (.inr (.inr F')))))) H := by
  have e : vp_cell cA (n, .inr (.inr (.inr (.inr F)))) = vp_cell cA (n, .inr (.inr (.inr (.inr F')))) := by
    rw [vp_cell, vp_cell]
    unfold arrV
    have e2 : (fun j : Fin n => va_rf (F j.val)) = fun j : Fin n => va_rf (F' j.val) := funext (fun j => by rw [hF j.val j.isLt])
    exact congrArg (fun g : Fin n → Value => ({ cls := cA, slots := Array.ofFn g, vm := .none } : Cell)) e2
  exact (show H[a]? = some _ from h).trans (congrArg some e)
theorem eX_shX {D : va_G} {cl : List vw_C} {ad kd : Nat → Nat} {c : Nat → ClassId} {F G H : Nat → Option Nat} (hF : ∀ j, j < 8 → F j = some (ad (54 + 17 * j))) (hG : ∀ j, j < 10 → G j = some (kd 9)) (hH : ∀ j, j < 10 → H j = some (ad (194 + j))) {k : Nat} {Hp : Heap} (h : va_at D cl (ad k, eX ad kd c F G H k) Hp) : va_at D cl (ad k, shX ad kd c k (dX0 k)) Hp := by
  unfold eX at h
  by_cases e1 : k = 53
  · subst e1
    exact va_at_dc hF h
  rw [if_neg e1] at h
  by_cases e2 : k = 192
  · subst e2
    exact va_at_dc hG h
  rw [if_neg e2] at h
  by_cases e3 : k = 193
  · subst e3
    exact va_at_dc hH h
  rw [if_neg e3] at h
  exact h
theorem wP_map {D : va_G} {cl : List vw_C} {n : Nat} {a : Nat → Nat} {e e' : Nat → va_E} {r : va_W} {H : Heap} (he : ∀ k, k < n → va_at D cl (a k, e k) H → va_at D cl (a k, e' k) H) (hP : va_P D cl ((List.range n).map (fun k => (a k, e k)) ++ r) H) : va_P D cl ((List.range n).map (fun k => (a k, e' k)) ++ r) H := by
  intro i q hq
  by_cases hi : i < n
  · rw [List.getElem?_append_left (by simpa using hi)] at hq
    have hq' : q = (a i, e' i) := by
      simpa [hi, eq_comm] using hq
    subst hq'
    refine he i hi (hP i _ ?_)
    rw [List.getElem?_append_left (by simpa using hi)]
    simp [hi]
  · have hl : ∀ g : Nat → va_E, ((List.range n).map (fun k => (a k, g k)) ++ r)[i]? = r[i - n]? := by
      intro g
      rw [List.getElem?_append_right (by simpa using Nat.le_of_not_lt hi)]
      simp
    rw [hl] at hq
    exact hP i q (by rw [hl]; exact hq)
theorem wD_fst {A : Nat → Prop} {w w' : va_W} (h : w.map Prod.fst = w'.map Prod.fst) (hD : va_D A w) : va_D A w' := by
  have hg : ∀ (i : Nat) (p : Nat × va_E), w'[i]? = some p → ∃ p0 : Nat × va_E, w[i]? = some p0 ∧ p0.1 = p.1 := by
    intro i p hp
    have h1 : (w'.map Prod.fst)[i]? = some p.1 := by rw [List.getElem?_map, hp]; rfl
    rw [← h, List.getElem?_map] at h1
    cases hw : w[i]? with
    | none => rw [hw] at h1; cases h1
    | some p0 => rw [hw] at h1; exact ⟨p0, rfl, Option.some.inj h1⟩
  refine ⟨fun i j p q hp hq e => ?_, fun k q hq => ?_⟩
  · obtain ⟨p0, p1, p2⟩ := hg i p hp
    obtain ⟨q0, q1, q2⟩ := hg j q hq
    exact hD.1 i j p0 q0 p1 q1 (p2.trans (e.trans q2.symm))
  · obtain ⟨q0, q1, q2⟩ := hg k q hq
    exact q2 ▸ hD.2 k q0 q1
def zMk (z : lP) (ad am : Nat → Nat) (a1 a2 : Nat) : lP := (z.1, z.2.1, ad, am, z.2.2.2.2.1, a1, a2, z.2.2.2.2.2.2.2)
theorem nX_of {f : aF} {z : lP} {ad am : Nat → Nat} {a1 a2 qv : Nat} {F G H : Nat → Option Nat} (hF : ∀ j, j < 8 → F j = some (ad (54 + 17 * j))) (hG : ∀ j, j < 10 → G j = some (z.2.2.2.2.1 9)) (hH : ∀ j, j < 10 → H j = some (ad (194 + j))) {ws : va_W} (hp : ws.Perm ((List.range 205).map (fun k => (ad k, eX ad z.2.2.2.2.1 (lc z) F G H k)) ++ ([(ad 205, .inr (1, [.ref qv, .int 0, .int 0, .int 0])), (qv, .inl (lc z 5, (16, .inl (fun _ => 0))))] ++ (lOut (zMk z ad am a1 a2) (fun _ => 0) (fun _ => 0) ++ lWM (zMk z ad am a1 a2) dM0)))) {pc : Nat} {L : List (Option Value)} {st : List Value} {k n : Nat}
    (h : AW f (lX (zMk z ad am a1 a2) dM0 (fun _ => 0) (fun _ => 0)) pc L st (dX0, []) k n) : AW f (nG z ws) pc L st q0 k n := by
  intro ls Hp locs ex hl hI hS
  obtain ⟨he, hP, hD⟩ := hI
  have he : ex = ws := he
  subst he
  have hP1 := wP_map (fun k _ => eX_shX hF hG hH) (wP_perm hp (show va_P z.1 vwCl ex Hp from hP))
  have hD1 := wD_perm hp (show va_D (lA z) ex from hD)
  refine h ls Hp locs _ hl ⟨⟨_, ⟨16, qv, fun _ => 0, 0, rfl, Nat.zero_le _, by decide, Nat.zero_le _, fun j hj => absurd hj (Nat.not_lt_zero j), fun _ => rfl⟩, rfl⟩, hP1, wD_fst ?_ hD1⟩ hS
  have hm : ∀ (e e' : Nat → va_E) (r : va_W), ((List.range 205).map (fun k => (ad k, e k)) ++ r).map Prod.fst = ((List.range 205).map (fun k => (ad k, e' k)) ++ r).map Prod.fst := fun e e' r => by
    rw [List.map_append, List.map_append, List.map_map, List.map_map]
    rfl
  exact hm _ _ _
theorem nX_perm (X sb M : va_W) (a b : Nat × va_E) : List.Perm ([] ++ [] ++ (X ++ sb) ++ (M ++ [a] ++ [b])) (X ++ (sb ++ ([a, b] ++ M))) := by
  have h : List.Perm (M ++ [a] ++ [b]) ([a, b] ++ M) := by
    rw [List.append_assoc]
    exact List.perm_append_comm
  rw [← List.append_assoc X]
  exact h.append_left (X ++ sb)
set_option maxRecDepth 20000 in
theorem law_begin {f : aF} {z : lP} {sa : Nat} (ht : z.2.1.map Prod.snd = tyX) (hC : aOK f (nG z []) cL_law 9 RL) (hR : lRoom f 1000 603072 7202922)
    (kk : ∀ (ad am : Nat → Nat) (a1 a2 : Nat), AW f (lX (zMk z ad am a1 a2) dM0 (fun _ => 0) (fun _ => 0)) 28 (lawL (zMk z ad am a1 a2) sa 0) [] (dX0, []) 300 5000) : AW f (nG z ([] ++ [])) 0 [some (.ref sa), none, none, none, none, none, none, none, none] [] q0 0 0 := by
  refine n_new (pc := 0) (pre := []) (suf := []) (nOK hC _) hR cl_X9 tyX9 tyX9_ok tw_36 tw_37 tw_1 (fs := [.null, .null, .null, .int 0, .null, .null, .null, .null]) (fun j hj => by rcases (show j = 0 ∨ j = 1 ∨ j = 2 ∨ j = 3 ∨ j = 4 ∨ j = 5 ∨ j = 6 ∨ j = 7 by omega) with rfl | rfl | rfl | rfl | rfl | rfl | rfl | rfl <;> rfl) (by omega) (by omega) dL_law_0 (fun o => ?_)
  refine a_dup (pc := 3) (nOK hC _) dL_law_3 rfl ?_
  refine n_call (pc := 4) (nOK hC _) hR nm_X9_init tw_38 ⟨(Nat.le_of_ble_eq_true rfl), (Nat.le_of_ble_eq_true rfl), by omega, by omega⟩ dL_law_4 (k_X9_init ht hC.tr _ _) rfl rfl rfl (Nat.le_of_ble_eq_true rfl) (fun W h => ?_)
  obtain ⟨ad, qv, F, G, H, hF, hG, hH, rfl, rfl⟩ := h
  refine a_astore_n (pc := 7) (nOK hC _) dL_law_7 (Nat.le_of_ble_eq_true rfl) ?_
  refine n_new (pc := 8) (nOK hC _) hR cl_X10 tyX10 tyX10_ok tw_1498 tw_1499 tw_15 (fs := [.null, .null, .null, .null, .int 0, .int 0, .int 0, .int 0, .int 0, .int 0, .int 0, .null, .int 0, .null, .int 0, .int 0, .int 0, .int 0, .int 0, .int 0, .int 0, .int 0, .null]) (fun j hj => by rcases (show j = 0 ∨ j = 1 ∨ j = 2 ∨ j = 3 ∨ j = 4 ∨ j = 5 ∨ j = 6 ∨ j = 7 ∨ j = 8 ∨ j = 9 ∨ j = 10 ∨ j = 11 ∨ j = 12 ∨ j = 13 ∨ j = 14 ∨ j = 15 ∨ j = 16 ∨ j = 17 ∨ j = 18 ∨ j = 19 ∨ j = 20 ∨ j = 21 ∨ j = 22 by omega) with rfl | rfl | rfl | rfl | rfl | rfl | rfl | rfl | rfl | rfl | rfl | rfl | rfl | rfl | rfl | rfl | rfl | rfl | rfl | rfl | rfl | rfl | rfl <;> rfl) (by omega) (by omega) dL_law_8 (fun o2 => ?_)
  refine a_dup (pc := 11) (nOK hC _) dL_law_11 rfl ?_
  refine n_call (pc := 12) (nOK hC _) hR nm_X10_init tw_1500 ⟨(Nat.le_of_ble_eq_true rfl), (Nat.le_of_ble_eq_true rfl), by omega, by omega⟩ dL_law_12 (k_X10_init ht hC.tr _ _) rfl rfl rfl (Nat.le_of_ble_eq_true rfl) (fun W h => ?_)
  obtain ⟨am, rfl, rfl⟩ := h
  refine a_astore_n (pc := 15) (nOK hC _) dL_law_15 (Nat.le_of_ble_eq_true rfl) ?_
  refine a_iconst (pc := 16) (nOK hC _) dL_law_16 (v := 1) rfl ?_
  refine n_newa (pc := 17) (atype := .long) (N' := 1) (a0 := (1, .inr (.inl (fun _ => 0)))) (nOK hC _) ht hR 6 rfl rfl tw_1949 rfl (fun _ => rfl) (by decide) rfl (by decide) (by omega) (by omega) dL_law_17 (fun a1 => ?_)
  refine a_astore_n (pc := 19) (nOK hC _) dL_law_19 (Nat.le_of_ble_eq_true rfl) ?_
  refine a_iconst (pc := 20) (nOK hC _) dL_law_20 (v := 1) rfl ?_
  refine n_newa (pc := 21) (atype := .double) (N' := 1) (a0 := (1, .inr (.inr (.inr (.inl (fun _ => 0)))))) (nOK hC _) ht hR 7 rfl rfl tw_1950 rfl (fun _ => rfl) (by decide) rfl (by decide) (by omega) (by omega) dL_law_21 (fun a2 => ?_)
  refine a_astore (pc := 23) (nOK hC _) dL_law_23 (Nat.le_of_ble_eq_true rfl) ?_
  refine a_iconst (pc := 25) (nOK hC _) dL_law_25 (v := 0) rfl ?_
  refine a_istore (pc := 26) (nOK hC _) dL_law_26 (Nat.le_of_ble_eq_true rfl) ?_
  exact nX_of (ad := ad) (am := am) (a1 := a1) (a2 := a2) (qv := qv) hF hG hH (nX_perm _ _ _ _ _) (AW.widen (k2 := 300) (n2 := 5000) (by omega) (by omega) (kk ad am a1 a2))

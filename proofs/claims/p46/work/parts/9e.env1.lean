section START
variable {s : State} {b : Nat} {A : Nat → Prop}
theorem st_at (hgv : stC.before #[.ref b] s = true) {n : Nat} {c : Cond} (h : stF[n]? = some c) : c.before #[.ref b] s = true := flat_of_before stC hgv c (List.mem_of_getElem? h)
theorem va_OF_inj {o n d : String} {v v' : Value} {t : Nat} {U : State} {H : Heap} (h : va_OF o n d v t A U H) (h' : va_OF o n d v' t A U H) : v = v' := by
  obtain ⟨cf, k, i, f, cell, a1, a2, a3, a4, a5, a6⟩ := h
  obtain ⟨cf', k', i', f', cell', b1, b2, b3, b4, b5, b6⟩ := h'
  have e := a1.symm.trans b1
  simp only [Option.some.injEq, Prod.mk.injEq] at e
  obtain ⟨rfl, rfl, rfl, rfl⟩ := e
  cases Option.some.inj (a3.symm.trans b3)
  exact Option.some.inj (a5.symm.trans b5)
theorem va_Z_inj {C n d : String} {v v' : Value} {U : State} {H : Heap} (h : va_Z C n d v A U H) (h' : va_Z C n d v' A U H) : v = v' := by
  obtain ⟨cf, k, i, f, a, cell, a1, a2, a3, a4, a5, a6, a7, a8⟩ := h
  obtain ⟨cf', k', i', f', a', cell', b1, b2, b3, b4, b5, b6, b7, b8⟩ := h'
  have e := a1.symm.trans b1
  simp only [Option.some.injEq, Prod.mk.injEq] at e
  obtain ⟨rfl, rfl, rfl, rfl⟩ := e
  cases Option.some.inj (a4.symm.trans b4)
  cases Option.some.inj (a5.symm.trans b5)
  exact Option.some.inj (a7.symm.trans b7)
theorem va_T_eq {ty ty' : FieldType} {t N N' : Nat} {f f' : Nat → Value} {U : State} {H : Heap} (h : va_T ty t N f A U H) (h' : va_T ty' t N' f' A U H) : Int32.ofNat N = Int32.ofNat N' ∧ ∀ j, j < N → j < N' → f j = f' j := by
  obtain ⟨cell, a1, a2, a3, a4, a5, a6, a7⟩ := h
  obtain ⟨cell', b1, b2, b3, b4, b5, b6, b7⟩ := h'
  cases Option.some.inj (a1.symm.trans b1)
  exact ⟨a5.symm.trans b5, fun j h1 h2 => Option.some.inj ((a6 j h1).symm.trans (b6 j h2))⟩
theorem va_T_cg {ty : FieldType} {t N : Nat} {f f' : Nat → Value} {U : State} {H : Heap} (h : va_T ty t N f A U H) (e : ∀ j, j < N → f j = f' j) : va_T ty t N f' A U H := by
  obtain ⟨cell, a1, a2, a3, a4, a5, a6, a7⟩ := h
  exact ⟨cell, a1, a2, a3, a4, a5, fun j hj => by rw [a6 j hj, e j hj], a7⟩
theorem st_S (hgv : stC.before #[.ref b] s = true) (hA : ∀ a : Nat, a < s.heap.size → ¬ A a) : ∃ adK adV : Nat → Nat, ∀ i : Nat, i < 12 → EnvC1 A (adK i) (adV i) (sLet i) s s.heap ∧ (sTm i).eval #[.ref b] s none [] s = some (.ref (adK i)) := by
  have h0 : ∀ i : Nat, ∃ q : Nat × Nat, i < 12 → EnvC1 A q.1 q.2 (sLet i) s s.heap ∧ (sTm i).eval #[.ref b] s none [] s = some (.ref q.1) := by
    intro i
    by_cases hi : i < 12
    · have l1 := sLet_ok i hi
      obtain ⟨aK, aV, hS, hE⟩ := vk_Sof (N := 1) (tm := fun _ => sTm i) (len := [(sLet i).length]) (byt := [(sLet i).map nI]) (A := A) (args := #[.ref b]) (s := s) (fun j hj => by rw [show j = 0 by omega]; exact Nat.lt_of_le_of_lt l1 (by decide)) (fun j _ => st_at hgv (st_m1 i hi)) (fun j _ => st_at hgv (st_m2 i hi)) (fun j _ => st_at hgv (st_m3 i hi))
        (fun j hj => by rw [show j = 0 by omega]; exact st_at hgv (st_m4 i hi)) (fun j hj k hk => by rw [show j = 0 by omega] at hk ⊢; exact st_at hgv (st_m5 i hi k hk)) (fun j k h1 h2 h3 => absurd (show j = k by omega) h3) hA
      obtain ⟨g1, g2, g3, g4⟩ := hS.1 0 (by omega)
      refine ⟨(aK 0, aV 0), fun _ => ⟨⟨g1, g2, g3, va_T_cg g4 (fun j hj => ?_)⟩, hE 0 (by omega)⟩⟩
      have hj : j < (sLet i).length := hj
      show Value.int (((sLet i).map nI).getD j 0) = Value.int (nI ((sLet i).getD j 0))
      rw [List.getD_eq_getElem?_getD, List.getD_eq_getElem?_getD, List.getElem?_map, List.getElem?_eq_getElem hj]
      rfl
    · exact ⟨(0, 0), fun h => absurd h hi⟩
  obtain ⟨ad, had⟩ := Classical.axiomOfChoice h0
  exact ⟨fun i => (ad i).1, fun i => (ad i).2, had⟩
def tyG (t : Nat → ClassId) : List (ClassId × FieldType) := [(t 0, .int), (t 1, .char), (t 2, .object "EchoCouncil$State"), (t 3, .object "EchoCouncil$OrderKind"), (t 4, .array .int), (t 5, .byte)]
theorem st_arrp {ty : FieldType} (h : (Cond.arrayClass ty).before #[.ref b] s = true) (hR : ∀ cA : ClassId, s.vm.findClass ("[" ++ ty.toString) = some cA → va_RA s cA ty) : ∃ cA : ClassId, ArrOfT s cA ty ∧ va_RA s cA ty := by
  obtain ⟨cA, kA, comp, h1, h2, h3⟩ := Cond.arrayClass_spec h
  exact ⟨cA, fun n z => ⟨fun k h => (by cases h), kA, h2, comp, h3⟩, hR cA h1⟩
theorem st_arro {C : String} (h : va_AO C s) : ∃ cA : ClassId, ArrOfT s cA (.object C) ∧ va_RA s cA (.object C) := by
  obtain ⟨comp, c, k, h1, h2, h3, h4, h5⟩ := Cond.arrayOver_spec h
  exact ⟨c, fun n z => ⟨fun k h => (by cases h), k, h3, comp, h4⟩, k, comp, h3, h4, h1, h5⟩
theorem st_arra {ty : FieldType} (h : va_AOA ty s) : ∃ cA : ClassId, ArrOfT s cA (.array ty) ∧ va_RA s cA (.array ty) := by
  obtain ⟨comp, c, k, h1, h2, h3, h4, h5⟩ := arrayOver_specA h
  exact ⟨c, fun n z => ⟨fun k h => (by cases h), k, h3, comp, h4⟩, h5⟩
theorem st_K (hts : ∀ w ∈ lw_tbl, w.before #[.ref b] s = true) : ∃ (D : va_G) (tys : List (ClassId × FieldType)), tys.map Prod.snd = tyX ∧ va_K D vwCl tys s := by
  have hcl : ∀ k : Nat, ∃ q : ClassId × (Nat → Nat), k < 12 → u_Kn s (vwCl.getD k (RX9, TX9, 8)).1 (vwCl.getD k (RX9, TX9, 8)).2.1 (vwCl.getD k (RX9, TX9, 8)).2.2 q.1 q.2 := by
    intro k
    by_cases hk : k < 12
    · have hi : ∀ w ∈ u_ws (vwCl.getD k (RX9, TX9, 8)).1 (vwCl.getD k (RX9, TX9, 8)).2.1 (vwCl.getD k (RX9, TX9, 8)).2.2, w ∈ lw_tbl := by
        rcases (show k = 0 ∨ k = 1 ∨ k = 2 ∨ k = 3 ∨ k = 4 ∨ k = 5 ∨ k = 6 ∨ k = 7 ∨ k = 8 ∨ k = 9 ∨ k = 10 ∨ k = 11 by omega) with rfl | rfl | rfl | rfl | rfl | rfl | rfl | rfl | rfl | rfl | rfl | rfl
        · exact (by decide +kernel : ∀ w ∈ u_ws RJ0 TJ0 4, w ∈ lw_tbl)
        · exact (by decide +kernel : ∀ w ∈ u_ws RJ4 TJ4 4, w ∈ lw_tbl)
        · exact (by decide +kernel : ∀ w ∈ u_ws RJx00060 TJx00060 6, w ∈ lw_tbl)
        · exact (by decide +kernel : ∀ w ∈ u_ws RJx7c733 TJx7c733 6, w ∈ lw_tbl)
        · exact (by decide +kernel : ∀ w ∈ u_ws RX1 TX1 6, w ∈ lw_tbl)
        · exact (by decide +kernel : ∀ w ∈ u_ws RX3 TX3 7, w ∈ lw_tbl)
        · exact (by decide +kernel : ∀ w ∈ u_ws RX4 TX4 3, w ∈ lw_tbl)
        · exact (by decide +kernel : ∀ w ∈ u_ws RX5 TX5 6, w ∈ lw_tbl)
        · exact (by decide +kernel : ∀ w ∈ u_ws RX6 TX6 4, w ∈ lw_tbl)
        · exact (by decide +kernel : ∀ w ∈ u_ws RX7 TX7 6, w ∈ lw_tbl)
        · exact (by decide +kernel : ∀ w ∈ u_ws RX8 TX8 7, w ∈ lw_tbl)
        · exact (by decide +kernel : ∀ w ∈ u_ws RX9 TX9 8, w ∈ lw_tbl)
      obtain ⟨c, i, h⟩ := u_known hts hi (hts _ (st_i k hk))
      exact ⟨(c, i), fun _ => h⟩
    · exact ⟨(0, fun _ => 0), fun h => absurd h hk⟩
  obtain ⟨F, hF⟩ := Classical.axiomOfChoice hcl
  obtain ⟨t0, a0, b0⟩ := st_arrp (hts _ tw_75) (fun _ h => h)
  obtain ⟨t1, a1, b1⟩ := st_arrp (hts _ tw_238) (fun _ h => h)
  obtain ⟨t5, a5, b5⟩ := st_arrp (hts _ tw_302) (fun _ h => h)
  obtain ⟨t2, a2, b2⟩ := st_arro (va_AO.of (hts _ tw_186))
  obtain ⟨t3, a3, b3⟩ := st_arro (va_AO.of (hts _ tw_206))
  obtain ⟨t4, a4, b4⟩ := st_arra (ty := .int) (show va_AOA .int s from hts _ tw_208)
  refine ⟨(fun k => (F k).1, fun k => (F k).2), tyG (fun k => if k = 0 then t0 else if k = 1 then t1 else if k = 2 then t2 else if k = 3 then t3 else if k = 4 then t4 else t5), rfl, fun k q hq => ?_, fun k q hq => ?_⟩
  · have hk : k < 12 := (List.getElem?_eq_some_iff.mp hq).1
    have h := hF k hk
    rw [List.getD_eq_getElem?_getD, hq] at h
    exact h
  · have hk : k < 6 := (List.getElem?_eq_some_iff.mp hq).1
    rcases (show k = 0 ∨ k = 1 ∨ k = 2 ∨ k = 3 ∨ k = 4 ∨ k = 5 by omega) with rfl | rfl | rfl | rfl | rfl | rfl <;> cases hq
    · exact ⟨a0, b0⟩
    · exact ⟨a1, b1⟩
    · exact ⟨a2, b2⟩
    · exact ⟨a3, b3⟩
    · exact ⟨a4, b4⟩
    · exact ⟨a5, b5⟩
theorem st_ev {t : Term} {C : String} (h : (Cond.exactly t C).before #[.ref b] s = true) : ∃ a : Nat, t.eval #[.ref b] s none [] s = some (.ref a) := by
  obtain ⟨a, c, cell, k, q1, -⟩ := Cond.exactly_spec h
  exact ⟨a, q1⟩
theorem getD_mem {α : Type} {l : List α} {x d : α} (h : x ∈ l) : ∃ i, i < l.length ∧ l.getD i d = x := by
  obtain ⟨i, hi⟩ := List.getElem?_of_mem h
  exact ⟨i, (List.getElem?_eq_some_iff.mp hi).1, by rw [List.getD_eq_getElem?_getD, hi]; rfl⟩
theorem start_env (hgv : stC.before #[.ref b] s = true) (hts : ∀ w ∈ lw_tbl, w.before #[.ref b] s = true) (hA : ∀ a : Nat, a < s.heap.size → ¬ A a) : ∃ kd : Nat → Nat, EnvX A kd s s.heap ∧ EnvN s ∧ EnvL kd s ∧ EnvC s := by
  obtain ⟨adK, adV, hS⟩ := st_S hgv hA
  obtain ⟨ad, hE⟩ := va_Enof (E := "EchoCouncil$OrderKind") (d := "LEchoCouncil$OrderKind;") (nm := eNm) (F := eF) (A := A) (args := #[.ref b]) (s := s) (fun i hi => hts _ (st_k7 i hi)) (hts _ tw_9) (fun i hi => st_at hgv (st_k1 i hi)) (fun q hq i hi => by
    have hi : i < 10 := hi
    simp only [eF, List.mem_cons, List.not_mem_nil, or_false] at hq
    rcases hq with rfl | rfl | rfl
    · exact st_at hgv (st_k20 i hi)
    · exact st_at hgv (st_k21 i hi)
    · exact st_at hgv (st_k22 i hi)) (fun i j hi hj hij => (st_k3 i hi j hj hij).imp (fun h => st_at hgv h) (fun h => st_at hgv h)) hA
  have hev : ∀ i, i < 10 → (kTm i).eval #[.ref b] s none [] s = some (.ref (ad i)) := by
    intro i hi
    obtain ⟨a, ha⟩ := st_ev (st_at hgv (st_k1 i hi))
    have h1 := va_Zref (hts _ (st_k7 i hi)) (hts _ tw_9) ha hA
    have h2 := va_Z_inj h1 (hE.1 i hi).1
    rw [ha, h2]
  obtain ⟨tK, eK, hK⟩ := va_Tof (tm := kkT) (ty := .object "EchoCouncil$OrderKind") (N := 10) (f := fun j => .ref (ad j)) (A := A) (args := #[.ref b]) (s := s) (by decide) (st_at hgv st_og) (va_eqt (st_at hgv st_oh)) (fun j hj => va_eqv (st_at hgv (st_k5 j hj)) (hev j hj)) hA
  obtain ⟨tS, eS, hW⟩ := va_Tof (tm := swT) (ty := .int) (N := 10) (f := fun j => .int (swI j)) (A := A) (args := #[.ref b]) (s := s) (by decide) (st_at hgv st_oe) (va_eqt (st_at hgv st_of)) (fun j hj => va_eqt (st_at hgv (st_k6 j hj))) hA
  obtain ⟨tO, eO, hO⟩ := va_Tof (tm := dgT1) (ty := .byte) (N := 100) (f := fun j => .int (dgO j)) (A := A) (args := #[.ref b]) (s := s) (by decide) (st_at hgv st_oi) (va_eqt (st_at hgv st_oj)) (fun j hj => va_eqt (st_at hgv (st_d1 j hj))) hA
  obtain ⟨tT, eT, hT⟩ := va_Tof (tm := dgT2) (ty := .byte) (N := 100) (f := fun j => .int (dgT j)) (A := A) (args := #[.ref b]) (s := s) (by decide) (st_at hgv st_ok) (va_eqt (st_at hgv st_ol)) (fun j hj => va_eqt (st_at hgv (st_d2 j hj))) hA
  obtain ⟨kd, k0, k10, k11, k12, k13, k20, k40⟩ : ∃ kd : Nat → Nat, (∀ i, i < 10 → kd i = ad i) ∧ kd 10 = tK ∧ kd 11 = tS ∧ kd 12 = tO ∧ kd 13 = tT ∧ (∀ i, i < 12 → kd (20 + i) = adK i) ∧ (∀ i, i < 12 → kd (40 + i) = adV i) := by
    refine ⟨fun n => if n < 10 then ad n else if n = 10 then tK else if n = 11 then tS else if n = 12 then tO else if n = 13 then tT else if n < 40 then adK (n - 20) else adV (n - 40), fun i hi => if_pos hi, rfl, rfl, rfl, rfl, fun i hi => ?_, fun i hi => ?_⟩
    · show (if 20 + i < 10 then _ else _) = _
      rw [if_neg (by omega), if_neg (by omega), if_neg (by omega), if_neg (by omega), if_neg (by omega), if_pos (by omega), show 20 + i - 20 = i by omega]
    · show (if 40 + i < 10 then _ else _) = _
      rw [if_neg (by omega), if_neg (by omega), if_neg (by omega), if_neg (by omega), if_neg (by omega), if_neg (by omega), show 40 + i - 40 = i by omega]
  have hS' : EnvS A kd s s.heap := by
    refine ⟨fun i hi => ?_, va_Zof (hts _ tw_280) (hts _ tw_13) (va_eqi (st_at hgv st_oa)) hA, va_Zqof (hts _ tw_944) (hts _ tw_25) (st_at hgv st_ob) hA⟩
    rw [k20 i hi, k40 i hi]
    exact (hS i hi).1
  have hED : EnvD A kd s s.heap := by
    refine ⟨by rw [k12]; exact va_Zref (hts _ tw_1154) (hts _ tw_17) eO hA, by rw [k12]; exact hO, by rw [k13]; exact va_Zref (hts _ tw_1156) (hts _ tw_17) eT hA, by rw [k13]; exact hT⟩
  have hEn : va_En "EchoCouncil$OrderKind" "LEchoCouncil$OrderKind;" eNm eF kd A s s.heap := by
    refine ⟨fun i hi => ?_, fun i j hi hj e => ?_⟩
    · rw [k0 i hi]; exact hE.1 i hi
    · rw [k0 i hi, k0 j hj] at e; exact hE.2 i j hi hj e
  have hKt : va_T (.object "EchoCouncil$OrderKind") (kd 10) 10 (fun j => .ref (kd j)) A s s.heap := by
    rw [k10]
    obtain ⟨cell, a1, a2, a3, a4, a5, a6, a7⟩ := hK
    exact ⟨cell, a1, a2, a3, a4, a5, fun j hj => by
      rw [a6 j hj]
      show some (Value.ref (ad j)) = some (Value.ref (kd j))
      rw [k0 j hj], a7⟩
  refine ⟨kd, ⟨hS', ⟨vx_Zqof (hts _ tw_386) (hts _ tw_18) (st_at hgv st_oc) hA, vx_Zqof (hts _ tw_388) (hts _ tw_18) (st_at hgv st_od) hA, fun E hE9 => ?_, fun p hp => ?_⟩, hEn, by rw [k10]; exact va_Zref (hts _ tw_915) (hts _ tw_1) eK hA, hKt, by rw [k11]; exact va_Zref (hts _ tw_694) (hts _ tw_15) eS hA, by rw [k11]; exact hW, va_Nw.of rfl (hts _ tw_914), hED⟩, ⟨fun p hp => ?_, selB_4 (va_Nw.of rfl (sel_priv (hts _ tw_271) (hts _ tw_1407) (hts _ tw_1117) (hts _ tw_1118))) (va_Nw.of rfl (sel_priv (hts _ tw_271) (hts _ tw_1408) (hts _ tw_1121) (hts _ tw_1122))) (va_Nw.of rfl (sel_priv (hts _ tw_271) (hts _ tw_1412) (hts _ tw_1198) (hts _ tw_1199))) (va_Nw.of rfl (sel_priv (hts _ tw_271) (hts _ tw_1411) (hts _ tw_1194) (hts _ tw_1195))), va_Nw.of rfl (hts _ tw_1141)⟩, fun i hi => ?_, fun p hp => ?_, va_AO.of (hts _ tw_186), va_AO.of (hts _ tw_206), hts _ tw_208⟩
  · obtain ⟨i, hi, rfl⟩ := getD_mem (d := "") hE9
    refine ⟨va_Nw.of rfl (hts _ (st_t i hi)), fun w hw => ?_⟩
    obtain ⟨j, hj, rfl⟩ := getD_mem (d := "") hw
    exact va_Nw.of rfl (hts _ (st_d j hj))
  · obtain ⟨i, hi, rfl⟩ := getD_mem (d := (0, "")) hp
    obtain ⟨a, ha⟩ := st_ev (st_at hgv (st_g i hi))
    exact ⟨a, vk_R.of (hts _ (st_g2 i hi)) ha⟩
  · obtain ⟨i, hi, rfl⟩ := getD_mem (d := ("", "")) hp
    exact va_Nc.of (st_at hgv (st_n i hi))
  · rw [k20 i hi]
    exact vk_R.of (hts _ (st_l2 i hi)) (hS i hi).2
  · obtain ⟨i, hi, rfl⟩ := getD_mem (d := ("", 0, yX8_init)) hp
    exact va_Nw.of rfl (hts _ (st_c i hi))
end START

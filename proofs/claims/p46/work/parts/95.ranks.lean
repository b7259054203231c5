/-! the orders of singers -/
theorem nb_t {c A B : Prop} (h : c) (b : B) : (¬ c → A) ∧ (c → B) := ⟨fun z => absurd h z, fun _ => b⟩
theorem nb_f {c A B : Prop} (h : ¬ c) (a : A) : (¬ c → A) ∧ (c → B) := ⟨fun _ => a, fun z => absurd z h⟩
theorem rn_1 : ∀ S, S < 7 → ∀ i, i < 24 → (4 * (nI S - 1) ≤ nI i ↔ 4 * (S - 1) ≤ i) := by decide +kernel
theorem rn_2 : ∀ i, i < 24 → nI i - nI i / 4 * 4 = nI (i % 4) ∧ nI i / 4 = nI (i / 4) ∧ nI (i / 4) + 1 = nI (i / 4 + 1) := by decide +kernel
theorem rn_3 : ∀ i, i < 4 → ¬ nI i < 0 ∧ nI i ≤ 3 := by decide +kernel
section RNK
variable {q : aS} {u : pU} {n : Nat} {P : Int32 → aS → Prop}
theorem z_ranks (h : RX 1 q.1 u) (hI : Inv n u) (hn9 : n ≤ 10000) (k : P 1 q) : w_L_areRanksRight q P := by
  have hb3 := hI.1.2.2.2
  unfold w_L_areRanksRight
  refine y_A2 h hI (k_rank4 h hI (nb_t rfl (k_rankM h hI (nb_t rfl (k_rankN h hI hn9 (nb_t rfl ?_))))))
  refine lp_0 (fun m v i => LL_areRanksRight_56 (nI (cS u)) P (fun y32 q33 => ((y32 = 0 ∨ y32 = 1) ∧ P y32 q33)) m v i q) (fun _ v => v = 1) (4 * (cS u - 1)) 1 rfl (fun m v hv => ?_) (fun m i v hi hv hk => ?_)
  · subst hv
    rw [LL_areRanksRight_56]
    exact ⟨fun _ => ⟨Or.inr rfl, k⟩, fun z => absurd ((rn_1 _ (by omega) _ (by omega)).mpr (Nat.le_refl _)) z⟩
  · subst hv
    obtain ⟨e1, e2, e3⟩ := rn_2 i (by omega)
    obtain ⟨c0, c3⟩ := rn_3 (i % 4) (by omega)
    obtain ⟨j1, hj1, r1⟩ := rk_at (k1 := kS1 u (nI (i % 4))) (k2 := kS2) (n := cS u) (k := i / 4) (by omega)
    obtain ⟨j2, hj2, r2⟩ := rk_at (k1 := kS1 u (nI (i % 4))) (k2 := kS2) (n := cS u) (k := i / 4 + 1) (by omega)
    have al := rk_next (k1 := kS1 u (nI (i % 4))) (k2 := kS2) hj1 hj2 (by omega)
    rw [ahL_iff] at al
    obtain ⟨v1, l1⟩ := kS1_e hI hn9 (nI (i % 4)) hj1
    obtain ⟨v2, l2⟩ := kS1_e hI hn9 (nI (i % 4)) hj2
    have go : ∀ x : Int32, x = nI i + 1 → LL_areRanksRight_56 (nI (cS u)) P (fun y32 q33 => ((y32 = 0 ∨ y32 = 1) ∧ P y32 q33)) m 1 x q := fun x e => by
      rw [e, nI_1]
      exact hk 1 rfl
    rw [LL_areRanksRight_56, e1, e2, e3]
    refine ⟨fun z => absurd ((rn_1 _ (by omega) _ (by omega)).mp z) (by omega), fun _ => y_ranked h hI hn9 c0 c3 hj1 r1 (y_ranked h hI hn9 c0 c3 hj2 r2 (z_rank h hI _ hj1 (z_rank h hI _ hj2 (fun x ex => ?_))))⟩
    rw [v1, v2] at ex
    subst ex
    refine br_f i10 ⟨fun _ => go, fun np => ?_⟩
    rw [d_pos l1 l2] at np
    have eq : kS1 u (nI (i % 4)) j1 = kS1 u (nI (i % 4)) j2 ∧ j1 < j2 := by
      have : kS2 j1 = kS2 j2 := rfl
      omega
    exact nb_t ((d_zero l1 l2).mpr eq.1) (br_f (nI_ge eq.2 (by omega)) go)
end RNK

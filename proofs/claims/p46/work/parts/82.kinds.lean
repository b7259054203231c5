/-! the ten kinds of orders in one -/
theorem pR_0 (a b c : Int32) (u : pU) : pRef 0 a b c u = pR0 a u := by
  unfold pRef
  rw [if_pos rfl]
theorem pR_1 (a b c : Int32) (u : pU) : pRef 1 a b c u = pR1 a b u := by
  unfold pRef
  rw [if_neg (by decide), if_pos rfl]
theorem pR_2 (a b c : Int32) (u : pU) : pRef 2 a b c u = pR2 a b u := by
  unfold pRef
  rw [if_neg (by decide), if_neg (by decide), if_pos rfl]
theorem pR_3 (a b c : Int32) (u : pU) : pRef 3 a b c u = pR3 a b u := by
  unfold pRef
  rw [if_neg (by decide), if_neg (by decide), if_neg (by decide), if_pos rfl]
theorem pR_4 (a b c : Int32) (u : pU) : pRef 4 a b c u = pR4 a u := by
  unfold pRef
  rw [if_neg (by decide), if_neg (by decide), if_neg (by decide), if_neg (by decide), if_pos rfl]
theorem pR_5 (a b c : Int32) (u : pU) : pRef 5 a b c u = pR5 a b u := by
  unfold pRef
  rw [if_neg (by decide), if_neg (by decide), if_neg (by decide), if_neg (by decide), if_neg (by decide), if_pos rfl]
theorem pR_6 (a b c : Int32) (u : pU) : pRef 6 a b c u = pR6 a b c u := by
  unfold pRef
  rw [if_neg (by decide), if_neg (by decide), if_neg (by decide), if_neg (by decide), if_neg (by decide), if_neg (by decide), if_pos rfl]
theorem pR_7 (a b c : Int32) (u : pU) : pRef 7 a b c u = pR7 a b u := by
  unfold pRef
  rw [if_neg (by decide), if_neg (by decide), if_neg (by decide), if_neg (by decide), if_neg (by decide), if_neg (by decide), if_neg (by decide), if_pos rfl]
theorem pR_8 (a b c : Int32) (u : pU) : pRef 8 a b c u = pR8 a u := by
  unfold pRef
  rw [if_neg (by decide), if_neg (by decide), if_neg (by decide), if_neg (by decide), if_neg (by decide), if_neg (by decide), if_neg (by decide), if_neg (by decide), if_pos rfl]
theorem pR_9 (a b c : Int32) (u : pU) : pRef 9 a b c u = (0, 0) := by
  unfold pRef
  rw [if_neg (by decide), if_neg (by decide), if_neg (by decide), if_neg (by decide), if_neg (by decide), if_neg (by decide), if_neg (by decide), if_neg (by decide), if_neg (by decide)]
theorem pD_0 (a b c : Int32) (u : pU) : pDo 0 a b c u = pD0 a u := by
  unfold pDo
  rw [if_pos rfl]
theorem pD_1 (a b c : Int32) (u : pU) : pDo 1 a b c u = pD1 a b u := by
  unfold pDo
  rw [if_neg (by decide), if_pos rfl]
theorem pD_2 (a b c : Int32) (u : pU) : pDo 2 a b c u = pD2 a b u := by
  unfold pDo
  rw [if_neg (by decide), if_neg (by decide), if_pos rfl]
theorem pD_3 (a b c : Int32) (u : pU) : pDo 3 a b c u = pD3 a b u := by
  unfold pDo
  rw [if_neg (by decide), if_neg (by decide), if_neg (by decide), if_pos rfl]
theorem pD_4 (a b c : Int32) (u : pU) : pDo 4 a b c u = pD4 a u := by
  unfold pDo
  rw [if_neg (by decide), if_neg (by decide), if_neg (by decide), if_neg (by decide), if_pos rfl]
theorem pD_5 (a b c : Int32) (u : pU) : pDo 5 a b c u = pD5 a b u := by
  unfold pDo
  rw [if_neg (by decide), if_neg (by decide), if_neg (by decide), if_neg (by decide), if_neg (by decide), if_pos rfl]
theorem pD_6 (a b c : Int32) (u : pU) : pDo 6 a b c u = pD6 a b c u := by
  unfold pDo
  rw [if_neg (by decide), if_neg (by decide), if_neg (by decide), if_neg (by decide), if_neg (by decide), if_neg (by decide), if_pos rfl]
theorem pD_7 (a b c : Int32) (u : pU) : pDo 7 a b c u = pD7 b u := by
  unfold pDo
  rw [if_neg (by decide), if_neg (by decide), if_neg (by decide), if_neg (by decide), if_neg (by decide), if_neg (by decide), if_neg (by decide), if_pos rfl]
theorem pD_8 (a b c : Int32) (u : pU) : pDo 8 a b c u = pSing u (tn a) := by
  unfold pDo
  rw [if_neg (by decide), if_neg (by decide), if_neg (by decide), if_neg (by decide), if_neg (by decide), if_neg (by decide), if_neg (by decide), if_neg (by decide), if_pos rfl]
theorem pD_9 (a b c : Int32) (u : pU) : pDo 9 a b c u = pNight u := by
  unfold pDo
  rw [if_neg (by decide), if_neg (by decide), if_neg (by decide), if_neg (by decide), if_neg (by decide), if_neg (by decide), if_neg (by decide), if_neg (by decide), if_neg (by decide)]
theorem k10 {k : Nat} (h : k < 10) : k = 0 ∨ k = 1 ∨ k = 2 ∨ k = 3 ∨ k = 4 ∨ k = 5 ∨ k = 6 ∨ k = 7 ∨ k = 8 ∨ k = 9 := by omega
section KINDS
variable {q : aS} {u : pU} {P : Int32 → aS → Prop} {n : Nat}
theorem x_ref (h : RX 1 q.1 u) (hc : Cnt u) {k : Nat} (hk : k < 10) (a b c : Int32) (k0 : (pRef k a b c u).1 = 0 → P 0 q) (k1 : ¬ (pRef k a b c u).1 = 0 → P 1 (kp_ q.1 (pRef k a b c u).1 (pRef k a b c u).2, q.2)) : w_X9_isRefused k a b c q P := by
  unfold w_X9_isRefused
  rcases k10 hk with rfl | rfl | rfl | rfl | rfl | rfl | rfl | rfl | rfl | rfl
  · rw [pR_0] at k0 k1
    exact br_t (by decide) (x_R0 h hc a k0 k1)
  · rw [pR_1] at k0 k1
    exact br_f (by decide) (br_t (by decide) (x_R1 h hc a b k0 k1))
  · rw [pR_2] at k0 k1
    exact br_f (by decide) (br_f (by decide) (br_t (by decide) (x_R2 h hc a b k0 k1)))
  · rw [pR_3] at k0 k1
    exact br_f (by decide) (br_f (by decide) (br_f (by decide) (br_t (by decide) (x_R3 h hc a b k0 k1))))
  · rw [pR_4] at k0 k1
    exact br_f (by decide) (br_f (by decide) (br_f (by decide) (br_f (by decide) (br_t (by decide) (x_R4 h hc a k0 k1)))))
  · rw [pR_5] at k0 k1
    exact br_f (by decide) (br_f (by decide) (br_f (by decide) (br_f (by decide) (br_f (by decide) (br_t (by decide) (x_R5 h hc a b k0 k1))))))
  · rw [pR_6] at k0 k1
    exact br_f (by decide) (br_f (by decide) (br_f (by decide) (br_f (by decide) (br_f (by decide) (br_f (by decide) (br_t (by decide) (x_R6 h hc a b c k0 k1)))))))
  · rw [pR_7] at k0 k1
    exact br_f (by decide) (br_f (by decide) (br_f (by decide) (br_f (by decide) (br_f (by decide) (br_f (by decide) (br_f (by decide) (br_t (by decide) (x_R7 h hc a b k0 k1))))))))
  · rw [pR_8] at k0 k1
    exact br_f (by decide) (br_f (by decide) (br_f (by decide) (br_f (by decide) (br_f (by decide) (br_f (by decide) (br_f (by decide) (br_f (by decide) (br_t (by decide) (x_R8 h hc a k0 k1)))))))))
  · rw [pR_9] at k0
    exact br_f (by decide) (br_f (by decide) (br_f (by decide) (br_f (by decide) (br_f (by decide) (br_f (by decide) (br_f (by decide) (br_f (by decide) (br_f (by decide) (k0 rfl)))))))))
theorem x_do (h : RX 1 q.1 u) (hI : Inv n u) {k : Nat} (hk : k < 10) (a b c : Int32) (hr : (pRef k a b c u).1 = 0) (k0 : ∀ d', RX 1 d' (pDo k a b c u).2 → frX q.1 d' → P (pDo k a b c u).1 (d', q.2)) : w_X9_doOrder k a b c q P := by
  have hc := hI.1
  have hb1 := hc.1.2
  have hb2 := hc.2.1.2
  have hb3 := hc.2.2.2
  unfold w_X9_doOrder
  rcases k10 hk with rfl | rfl | rfl | rfl | rfl | rfl | rfl | rfl | rfl | rfl
  · rw [pR_0] at hr
    rw [pD_0] at k0
    have ca : ¬ (a < 1 ∨ 9 < a) := fun z => by rw [pR0, if_pos z] at hr; exact no_ hr (by decide)
    have c6 : ¬ cR u = 6 := fun z => by rw [pR0, if_neg ca, if_pos z] at hr; exact no_ hr (by decide)
    exact br_t (by decide) (x_D0 h hI a (by omega) k0)
  · rw [pR_1] at hr
    rw [pD_1] at k0
    have ca : ¬ (a < 0 ∨ nI (cR u) ≤ a) := fun z => by rw [pR1, if_pos z] at hr; exact no_ hr (by decide)
    have cb : ¬ (b < 1 ∨ 9 < b) := fun z => by rw [pR1, if_neg ca, if_pos z] at hr; exact no_ hr (by decide)
    have c8 : ¬ cE u = 8 := fun z => by rw [pR1, if_neg ca, if_neg cb, if_pos z] at hr; exact no_ hr (by decide)
    exact br_f (by decide) (br_t (by decide) (x_D1 h hI a b (by omega) k0))
  · rw [pR_2] at hr
    rw [pD_2] at k0
    have ca : ¬ (a < 0 ∨ 9 < a) := fun z => by rw [pR2, if_pos z] at hr; exact no_ hr (by decide)
    have cb : ¬ (b < 0 ∨ 99 < b) := fun z => by rw [pR2, if_neg ca, if_pos z] at hr; exact no_ hr (by decide)
    have c8 : ¬ cS u = 6 := fun z => by rw [pR2, if_neg ca, if_neg cb, if_pos z] at hr; exact no_ hr (by decide)
    exact br_f (by decide) (br_f (by decide) (br_t (by decide) (x_D2 h hI a b (by omega) k0)))
  · rw [pR_3] at hr
    rw [pD_3] at k0
    have ca : ¬ (a < 0 ∨ nI (cS u) ≤ a) := fun z => by rw [pR3, if_pos z] at hr; exact no_ hr (by decide)
    obtain ⟨i, hi, rfl⟩ := has_of (by omega) (fun z => ca (Or.inl z)) (fun z => ca (Or.inr z))
    exact br_f (by decide) (br_f (by decide) (br_f (by decide) (br_t (by decide) (x_D3 h hc (by omega) b k0))))
  · rw [pR_4] at hr
    rw [pD_4] at k0
    have ca : ¬ (a < 0 ∨ nI (cS u) ≤ a) := fun z => by rw [pR4, if_pos z] at hr; exact no_ hr (by decide)
    obtain ⟨i, hi, rfl⟩ := has_of (by omega) (fun z => ca (Or.inl z)) (fun z => ca (Or.inr z))
    exact br_f (by decide) (br_f (by decide) (br_f (by decide) (br_f (by decide) (br_t (by decide) (x_D4 h (by omega) k0)))))
  · rw [pR_5] at hr
    rw [pD_5] at k0
    have ca : ¬ (a < 0 ∨ nI (cE u) ≤ a) := fun z => by rw [pR5, if_pos z] at hr; exact no_ hr (by decide)
    obtain ⟨i, hi, rfl⟩ := has_of (by omega) (fun z => ca (Or.inl z)) (fun z => ca (Or.inr z))
    exact br_f (by decide) (br_f (by decide) (br_f (by decide) (br_f (by decide) (br_f (by decide) (br_t (by decide) (x_D5 h (by omega) b k0))))))
  · rw [pR_6] at hr
    rw [pD_6] at k0
    have ca : ¬ (a < 0 ∨ nI (cS u) ≤ a) := fun z => by rw [pR6, if_pos z] at hr; exact no_ hr (by decide)
    have cb : ¬ (b < 0 ∨ nI (cE u) ≤ b) := fun z => by rw [pR6, if_neg ca, if_pos z] at hr; exact no_ hr (by decide)
    obtain ⟨i, hi, rfl⟩ := has_of (by omega) (fun z => ca (Or.inl z)) (fun z => ca (Or.inr z))
    obtain ⟨j, hj, rfl⟩ := has_of (by omega) (fun z => cb (Or.inl z)) (fun z => cb (Or.inr z))
    exact br_f (by decide) (br_f (by decide) (br_f (by decide) (br_f (by decide) (br_f (by decide) (br_f (by decide) (br_t (by decide) (x_D6 h (by omega) (by omega) c k0)))))))
  · rw [pR_7] at hr
    rw [pD_7] at k0
    have ca : ¬ (a < 0 ∨ nI (cS u) ≤ a) := fun z => by rw [pR7, if_pos z] at hr; exact no_ hr (by decide)
    have cb : ¬ (b < 0 ∨ nI (cE u) ≤ b) := fun z => by rw [pR7, if_neg ca, if_pos z] at hr; exact no_ hr (by decide)
    obtain ⟨i, hi, rfl⟩ := has_of (by omega) (fun z => ca (Or.inl z)) (fun z => ca (Or.inr z))
    obtain ⟨j, hj, rfl⟩ := has_of (by omega) (fun z => cb (Or.inl z)) (fun z => cb (Or.inr z))
    have tj := tn_c (show j < 100000 by omega)
    have c1 : u 8 j = nI i := Classical.byContradiction fun z => by rw [pR7, if_neg ca, if_neg cb, tj, if_pos z] at hr; exact no_ hr (by decide)
    have eD : pD7 (nI j) u = (pW u j, pSt u j) := by
      unfold pD7
      rw [tj]
    rw [eD] at k0
    exact br_f (by decide) (br_f (by decide) (br_f (by decide) (br_f (by decide) (br_f (by decide) (br_f (by decide) (br_f (by decide) (br_t (by decide) (x_D7 h hc hI.ech hj (s := i) (by omega) c1 k0))))))))
  · rw [pR_8] at hr
    rw [pD_8] at k0
    have ca : ¬ (a < 0 ∨ nI (cS u) ≤ a) := fun z => by rw [pR8, if_pos z] at hr; exact no_ hr (by decide)
    obtain ⟨i, hi, rfl⟩ := has_of (by omega) (fun z => ca (Or.inl z)) (fun z => ca (Or.inr z))
    have ti := tn_c (show i < 100000 by omega)
    have c1 : ¬ u 14 i = -1 := fun z => by rw [pR8, if_neg ca, ti, if_pos z] at hr; exact no_ hr (by decide)
    obtain ⟨r, hr0, er⟩ := ((hI.2.2.2.1 i hi).2.2.1).resolve_left c1
    rw [ti] at k0
    exact br_f (by decide) (br_f (by decide) (br_f (by decide) (br_f (by decide) (br_f (by decide) (br_f (by decide) (br_f (by decide) (br_f (by decide) (br_t (by decide) (x_D8 h hc hI.ech (by omega) (r := r) (by omega) er k0)))))))))
  · rw [pD_9] at k0
    exact br_f (by decide) (br_f (by decide) (br_f (by decide) (br_f (by decide) (br_f (by decide) (br_f (by decide) (br_f (by decide) (br_f (by decide) (br_f (by decide) (x_D9 h hc k0)))))))))
theorem v_do (hI : Inv n u) {k : Nat} (hk : k < 10) (a b c : Int32) (hr : (pRef k a b c u).1 = 0) : Inv (n + 1) (pDo k a b c u).2 := by
  rcases k10 hk with rfl | rfl | rfl | rfl | rfl | rfl | rfl | rfl | rfl | rfl
  · rw [pR_0] at hr
    rw [pD_0]
    exact (v_D0 hI a hr).wd (by omega)
  · rw [pR_1] at hr
    rw [pD_1]
    exact (v_D1 hI a b hr).wd (by omega)
  · rw [pR_2] at hr
    rw [pD_2]
    exact (v_D2 hI a b hr).wd (by omega)
  · rw [pR_3] at hr
    rw [pD_3]
    exact (v_D3 hI a b hr).wd (by omega)
  · rw [pR_4] at hr
    rw [pD_4]
    exact (v_14 hI (i := tn a) (-1) (Or.inl rfl)).wd (by omega)
  · rw [pR_5] at hr
    rw [pD_5]
    exact (v_D5 hI a b hr).wd (by omega)
  · rw [pR_6] at hr
    rw [pD_6]
    exact (v_D6 hI a b c hr).wd (by omega)
  · rw [pR_7] at hr
    rw [pD_7]
    exact (v_D7 hI a b hr).wd (by omega)
  · rw [pR_8] at hr
    rw [pD_8]
    exact v_D8 hI a hr
  · rw [pR_9] at hr
    rw [pD_9]
    exact (v_D9 hI).wd (by omega)
end KINDS

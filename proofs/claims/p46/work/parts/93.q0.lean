/-! questions that throw nothing, over one state -/
theorem lp_b {σ : Type} (L : Nat → σ → Int32 → Prop) (I : Nat → σ → Prop) (e B : Nat) (hB : e + 1 ≤ B) (s : σ) (h0 : I 0 s) (hx : ∀ n s, I e s → L (n + 1) s (nI e))
    (hs : ∀ n i s, i < e → I i s → (∀ s', I (i + 1) s' → L n s' (nI (i + 1))) → L (n + 1) s (nI i)) : ∃ n, n ≤ B ∧ L n s 0 :=
  ⟨e + 1, hB, by
    have h2 : L (e + 1) s (nI 0) := loop_i (fun n i s => L n s (nI i)) I e hx hs (e + 1) 0 s (Nat.zero_le _) (by omega) h0
    rw [nI_0] at h2
    exact h2⟩
section Q0
variable {q : aS} {u : pU} {n : Nat} {P : Int32 → aS → Prop} {X : String → aS → Prop}
theorem y_chkR (h : RX 1 q.1 u) (hI : Inv n u) {j : Nat} (hj : j < cR u) (k : P 0 q) : w_X9_checkRoom0 (nI j) q P := by
  have hb1 := hI.1.1.2
  have hb2 := hI.1.2.1.2
  have hb3 := hI.1.2.2.2
  unfold w_X9_checkRoom0
  exact x_hasRoom h hI.1 _ (fun c => absurd c (has_no hj (by omega))) (fun j' _ _ => ⟨fun _ => k, fun z => absurd z i10⟩)
theorem y_chkE (h : RX 1 q.1 u) (hI : Inv n u) {j : Nat} (hj : j < cE u) (k : P 0 q) : w_X9_checkEcho0 (nI j) q P := by
  have hb1 := hI.1.1.2
  have hb2 := hI.1.2.1.2
  have hb3 := hI.1.2.2.2
  unfold w_X9_checkEcho0
  exact x_hasEcho h hI.1 _ (fun c => absurd c (has_no hj (by omega))) (fun j' _ _ => ⟨fun _ => k, fun z => absurd z i10⟩)
theorem y_chkS (h : RX 1 q.1 u) (hI : Inv n u) {j : Nat} (hj : j < cS u) (k : P 0 q) : w_X9_checkSinger0 (nI j) q P := by
  have hb1 := hI.1.1.2
  have hb2 := hI.1.2.1.2
  have hb3 := hI.1.2.2.2
  unfold w_X9_checkSinger0
  exact x_hasSinger h hI.1 _ (fun c => absurd c (has_no hj (by omega))) (fun j' _ _ => ⟨fun _ => k, fun z => absurd z i10⟩)
theorem y_chkI (h : RX 1 q.1 u) (hI : Inv n u) {i : Nat} (hi : i < cS u) (hn : ¬ u 14 i = -1) (k : P 0 q) : w_X9_checkSingerInside0 (nI i) q P := by
  have hb3 := hI.1.2.2.2
  unfold w_X9_checkSingerInside0
  refine y_chkS h hI hi (x_isInside h (by omega) (fun c => absurd c hn) (fun c => ⟨fun _ => k, fun z => absurd z i10⟩))
theorem y_R0 (h : RX 1 q.1 u) (hI : Inv n u) {j : Nat} (hj : j < cR u) (k : P (u 2 j) q) : w_X9_roomOf0 (nI j) 0 q P := by
  have hb1 := hI.1.1.2
  have hj9 : j < 6 := by omega
  have ej := nI_c (show j < 100000 by omega)
  have vj : vp_in (nI j) 6 := vp_in_nI hj9 (by decide)
  unfold w_X9_roomOf0
  refine y_chkR h hI hj ?_
  refine br_t (by decide) (⟨vj, ?_⟩)
  rw [ej, rx_3 h hj9]
  exact k
theorem y_R1 (h : RX 1 q.1 u) (hI : Inv n u) {j : Nat} (hj : j < cR u) (k : P (u 3 j) q) : w_X9_roomOf0 (nI j) 1 q P := by
  have hb1 := hI.1.1.2
  have hj9 : j < 6 := by omega
  have ej := nI_c (show j < 100000 by omega)
  have vj : vp_in (nI j) 6 := vp_in_nI hj9 (by decide)
  unfold w_X9_roomOf0
  refine y_chkR h hI hj ?_
  refine br_f (by decide) (br_t (by decide) (⟨vj, ?_⟩))
  rw [ej, rx_4 h hj9]
  exact k
theorem y_R5 (h : RX 1 q.1 u) (hI : Inv n u) {j : Nat} (hj : j < cR u) (k : P (u 4 j) q) : w_X9_roomOf0 (nI j) 5 q P := by
  have hb1 := hI.1.1.2
  have hj9 : j < 6 := by omega
  have ej := nI_c (show j < 100000 by omega)
  have vj : vp_in (nI j) 6 := vp_in_nI hj9 (by decide)
  unfold w_X9_roomOf0
  refine y_chkR h hI hj ?_
  refine br_f (by decide) (br_f (by decide) (br_f (by decide) (br_f (by decide) (br_f (by decide) (br_t (by decide) (⟨vj, ?_⟩))))))
  rw [ej, rx_5 h hj9]
  exact k
theorem y_R2 (h : RX 1 q.1 u) (hI : Inv n u) {j : Nat} (hj : j < cR u) (k : P (bc_ (pSin u (nI j))) q) : w_X9_roomOf0 (nI j) 2 q P := by
  have hb1 := hI.1.1.2
  have hj9 : j < 6 := by omega
  have ej := nI_c (show j < 100000 by omega)
  have vj : vp_in (nI j) 6 := vp_in_nI hj9 (by decide)
  unfold w_X9_roomOf0
  refine y_chkR h hI hj ?_
  refine br_f (by decide) (br_f (by decide) (br_t (by decide) (x_singersIn h hI.1 _ (x_bc _ k))))
  skip
theorem y_R3 (h : RX 1 q.1 u) (hI : Inv n u) {j : Nat} (hj : j < cR u) (k : P (bc_ (pEin u (nI j))) q) : w_X9_roomOf0 (nI j) 3 q P := by
  have hb1 := hI.1.1.2
  have hj9 : j < 6 := by omega
  have ej := nI_c (show j < 100000 by omega)
  have vj : vp_in (nI j) 6 := vp_in_nI hj9 (by decide)
  unfold w_X9_roomOf0
  refine y_chkR h hI hj ?_
  refine br_f (by decide) (br_f (by decide) (br_f (by decide) (br_t (by decide) (x_echoesIn h hI.1 _ (x_bc _ k)))))
  skip
theorem y_R4 (h : RX 1 q.1 u) (hI : Inv n u) {j : Nat} (hj : j < cR u) (k : P (bc_ (pEin u (nI j) &&& (pFin u (nI j) ^^^ (-1)))) q) : w_X9_roomOf0 (nI j) 4 q P := by
  have hb1 := hI.1.1.2
  have hj9 : j < 6 := by omega
  have ej := nI_c (show j < 100000 by omega)
  have vj : vp_in (nI j) 6 := vp_in_nI hj9 (by decide)
  unfold w_X9_roomOf0
  refine y_chkR h hI hj ?_
  refine br_f (by decide) (br_f (by decide) (br_f (by decide) (br_f (by decide) (br_t (by decide) (x_echoesIn h hI.1 _ (x_freeIn h hI.1 _ (x_bc _ k)))))))
  skip
theorem y_E0 (h : RX 1 q.1 u) (hI : Inv n u) {j : Nat} (hj : j < cE u) (k : P (u 6 j) q) : w_X9_echoOf0 (nI j) 0 q P := by
  have hb2 := hI.1.2.1.2
  have hj9 : j < 8 := by omega
  have ej := nI_c (show j < 100000 by omega)
  have vj : vp_in (nI j) 8 := vp_in_nI hj9 (by decide)
  unfold w_X9_echoOf0
  refine y_chkE h hI hj ?_
  refine br_t (by decide) (⟨vj, ?_⟩)
  rw [ej, rx_7 h hj9]
  exact k
theorem y_E1 (h : RX 1 q.1 u) (hI : Inv n u) {j : Nat} (hj : j < cE u) (k : P (u 7 j) q) : w_X9_echoOf0 (nI j) 1 q P := by
  have hb2 := hI.1.2.1.2
  have hj9 : j < 8 := by omega
  have ej := nI_c (show j < 100000 by omega)
  have vj : vp_in (nI j) 8 := vp_in_nI hj9 (by decide)
  unfold w_X9_echoOf0
  refine y_chkE h hI hj ?_
  refine br_f (by decide) (br_t (by decide) (⟨vj, ?_⟩))
  rw [ej, rx_8 h hj9]
  exact k
theorem y_E2 (h : RX 1 q.1 u) (hI : Inv n u) {j : Nat} (hj : j < cE u) (k : P (u 8 j) q) : w_X9_echoOf0 (nI j) 2 q P := by
  have hb2 := hI.1.2.1.2
  have hj9 : j < 8 := by omega
  have ej := nI_c (show j < 100000 by omega)
  have vj : vp_in (nI j) 8 := vp_in_nI hj9 (by decide)
  unfold w_X9_echoOf0
  refine y_chkE h hI hj ?_
  refine br_f (by decide) (br_f (by decide) (br_t (by decide) (⟨vj, ?_⟩)))
  rw [ej, rx_9 h hj9]
  exact k
theorem y_E3 (h : RX 1 q.1 u) (hI : Inv n u) {j : Nat} (hj : j < cE u) (k : P (u 9 j) q) : w_X9_echoOf0 (nI j) 3 q P := by
  have hb2 := hI.1.2.1.2
  have hj9 : j < 8 := by omega
  have ej := nI_c (show j < 100000 by omega)
  have vj : vp_in (nI j) 8 := vp_in_nI hj9 (by decide)
  unfold w_X9_echoOf0
  refine y_chkE h hI hj ?_
  refine br_f (by decide) (br_f (by decide) (br_f (by decide) (br_t (by decide) (⟨vj, ?_⟩))))
  rw [ej, rx_10 h hj9]
  exact k
theorem y_E4 (h : RX 1 q.1 u) (hI : Inv n u) {j : Nat} (hj : j < cE u) (k : P (u 10 j) q) : w_X9_echoOf0 (nI j) 4 q P := by
  have hb2 := hI.1.2.1.2
  have hj9 : j < 8 := by omega
  have ej := nI_c (show j < 100000 by omega)
  have vj : vp_in (nI j) 8 := vp_in_nI hj9 (by decide)
  unfold w_X9_echoOf0
  refine y_chkE h hI hj ?_
  refine br_f (by decide) (br_f (by decide) (br_f (by decide) (br_f (by decide) (br_t (by decide) (⟨vj, ?_⟩)))))
  rw [ej, rx_11 h hj9]
  exact k
theorem y_S0 (h : RX 1 q.1 u) (hI : Inv n u) {j : Nat} (hj : j < cS u) (k : P (u 12 j) q) : w_X9_singerOf0 (nI j) 0 q P := by
  have hb3 := hI.1.2.2.2
  have hj9 : j < 6 := by omega
  have ej := nI_c (show j < 100000 by omega)
  have vj : vp_in (nI j) 6 := vp_in_nI hj9 (by decide)
  unfold w_X9_singerOf0
  refine y_chkS h hI hj ?_
  refine br_t (by decide) (⟨vj, ?_⟩)
  rw [ej, rx_13 h hj9]
  exact k
theorem y_S1 (h : RX 1 q.1 u) (hI : Inv n u) {j : Nat} (hj : j < cS u) (k : P (u 13 j) q) : w_X9_singerOf0 (nI j) 1 q P := by
  have hb3 := hI.1.2.2.2
  have hj9 : j < 6 := by omega
  have ej := nI_c (show j < 100000 by omega)
  have vj : vp_in (nI j) 6 := vp_in_nI hj9 (by decide)
  unfold w_X9_singerOf0
  refine y_chkS h hI hj ?_
  refine br_f (by decide) (br_t (by decide) (⟨vj, ?_⟩))
  rw [ej, rx_14 h hj9]
  exact k
theorem y_S2 (h : RX 1 q.1 u) (hI : Inv n u) {j : Nat} (hj : j < cS u) (k : P (u 14 j) q) : w_X9_singerOf0 (nI j) 2 q P := by
  have hb3 := hI.1.2.2.2
  have hj9 : j < 6 := by omega
  have ej := nI_c (show j < 100000 by omega)
  have vj : vp_in (nI j) 6 := vp_in_nI hj9 (by decide)
  unfold w_X9_singerOf0
  refine y_chkS h hI hj ?_
  refine br_f (by decide) (br_f (by decide) (br_t (by decide) (⟨vj, ?_⟩)))
  rw [ej, rx_15 h hj9]
  exact k
theorem y_S4 (h : RX 1 q.1 u) (hI : Inv n u) {j : Nat} (hj : j < cS u) (k : P (u 15 j) q) : w_X9_singerOf0 (nI j) 4 q P := by
  have hb3 := hI.1.2.2.2
  have hj9 : j < 6 := by omega
  have ej := nI_c (show j < 100000 by omega)
  have vj : vp_in (nI j) 6 := vp_in_nI hj9 (by decide)
  unfold w_X9_singerOf0
  refine y_chkS h hI hj ?_
  refine br_f (by decide) (br_f (by decide) (br_f (by decide) (br_f (by decide) (br_t (by decide) (⟨vj, ?_⟩)))))
  rw [ej, rx_16 h hj9]
  exact k
theorem y_S5 (h : RX 1 q.1 u) (hI : Inv n u) {j : Nat} (hj : j < cS u) (k : P (u 16 j) q) : w_X9_singerOf0 (nI j) 5 q P := by
  have hb3 := hI.1.2.2.2
  have hj9 : j < 6 := by omega
  have ej := nI_c (show j < 100000 by omega)
  have vj : vp_in (nI j) 6 := vp_in_nI hj9 (by decide)
  unfold w_X9_singerOf0
  refine y_chkS h hI hj ?_
  refine br_f (by decide) (br_f (by decide) (br_f (by decide) (br_f (by decide) (br_f (by decide) (br_t (by decide) (⟨vj, ?_⟩))))))
  rw [ej, rx_17 h hj9]
  exact k
theorem y_S3 (h : RX 1 q.1 u) (hI : Inv n u) {j : Nat} (hj : j < cS u) (k : P (pLt u (nI j)) q) : w_X9_singerOf0 (nI j) 3 q P := by
  have hb3 := hI.1.2.2.2
  have hj9 : j < 6 := by omega
  have ej := nI_c (show j < 100000 by omega)
  have vj : vp_in (nI j) 6 := vp_in_nI hj9 (by decide)
  unfold w_X9_singerOf0
  refine y_chkS h hI hj ?_
  refine br_f (by decide) (br_f (by decide) (br_f (by decide) (br_t (by decide) (x_countLetTo h hI.1 _ k))))
  skip
theorem y_S6 (h : RX 1 q.1 u) (hI : Inv n u) {j : Nat} (hj : j < cS u) (k : P (pHd u (nI j)) q) : w_X9_singerOf0 (nI j) 6 q P := by
  have hb3 := hI.1.2.2.2
  have hj9 : j < 6 := by omega
  have ej := nI_c (show j < 100000 by omega)
  have vj : vp_in (nI j) 6 := vp_in_nI hj9 (by decide)
  unfold w_X9_singerOf0
  refine y_chkS h hI hj ?_
  refine br_f (by decide) (br_f (by decide) (br_f (by decide) (br_f (by decide) (br_f (by decide) (br_f (by decide) (br_t (by decide) (x_heldOf h hI.1 _ k)))))))
  skip
theorem y_A0 (h : RX 1 q.1 u) (hI : Inv n u) (k : P (nI (cR u)) q) : w_X9_account0 0 q P := by
  unfold w_X9_account0
  refine br_t (by decide) (?_)
  rw [rx_2 h, hI.1.1.1]
  exact k
theorem y_A1 (h : RX 1 q.1 u) (hI : Inv n u) (k : P (nI (cE u)) q) : w_X9_account0 1 q P := by
  unfold w_X9_account0
  refine br_f (by decide) (br_t (by decide) (?_))
  rw [rx_6 h, hI.1.2.1.1]
  exact k
theorem y_A2 (h : RX 1 q.1 u) (hI : Inv n u) (k : P (nI (cS u)) q) : w_X9_account0 2 q P := by
  unfold w_X9_account0
  refine br_f (by decide) (br_f (by decide) (br_t (by decide) (?_)))
  rw [rx_12 h, hI.1.2.2.1]
  exact k
theorem y_A3 (h : RX 1 q.1 u) (hI : Inv n u) (k : P (u 5 0 - pLt u (-1)) q) : w_X9_account0 3 q P := by
  unfold w_X9_account0
  refine br_f (by decide) (br_f (by decide) (br_f (by decide) (br_t (by decide) (x_countLet h hI.1 k))))
  skip
theorem y_A5 (h : RX 1 q.1 u) (hI : Inv n u) (k : P (sumTo (u 3) (cR u)) q) : w_X9_account0 5 q P := by
  unfold w_X9_account0
  refine br_f (by decide) (br_f (by decide) (br_f (by decide) (br_f (by decide) (br_f (by decide) (br_t (by decide) (x_dampOfAll h hI.1 k))))))
  skip
theorem y_A6 (h : RX 1 q.1 u) (hI : Inv n u) (k : P (sumTo (u 4) (cR u)) q) : w_X9_account0 6 q P := by
  unfold w_X9_account0
  refine br_f (by decide) (br_f (by decide) (br_f (by decide) (br_f (by decide) (br_f (by decide) (br_f (by decide) (br_t (by decide) (x_versesOfAll h hI.1 k)))))))
  skip
theorem y_A7 (h : RX 1 q.1 u) (hI : Inv n u) (k : P (sumTo (u 10) (cE u)) q) : w_X9_account0 7 q P := by
  unfold w_X9_account0
  refine br_f (by decide) (br_f (by decide) (br_f (by decide) (br_f (by decide) (br_f (by decide) (br_f (by decide) (br_f (by decide) (br_t (by decide) (x_tonesOfAll h hI.1 k))))))))
  skip
theorem y_A8 (h : RX 1 q.1 u) (hI : Inv n u) (k : P (u 0 4) q) : w_X9_account0 8 q P := by
  unfold w_X9_account0
  refine br_f (by decide) (br_f (by decide) (br_f (by decide) (br_f (by decide) (br_f (by decide) (br_f (by decide) (br_f (by decide) (br_f (by decide) (br_t (by decide) (?_)))))))))
  rw [rx_1_4 h]
  exact k
theorem y_A9 (h : RX 1 q.1 u) (hI : Inv n u) (k : P (u 0 5) q) : w_X9_account0 9 q P := by
  unfold w_X9_account0
  refine br_f (by decide) (br_f (by decide) (br_f (by decide) (br_f (by decide) (br_f (by decide) (br_f (by decide) (br_f (by decide) (br_f (by decide) (br_f (by decide) (br_t (by decide) (?_))))))))))
  rw [rx_1_5 h]
  exact k
theorem y_A10 (h : RX 1 q.1 u) (hI : Inv n u) (k : P (u 0 6) q) : w_X9_account0 10 q P := by
  unfold w_X9_account0
  refine br_f (by decide) (br_f (by decide) (br_f (by decide) (br_f (by decide) (br_f (by decide) (br_f (by decide) (br_f (by decide) (br_f (by decide) (br_f (by decide) (br_f (by decide) (br_t (by decide) (?_)))))))))))
  rw [rx_1_6 h]
  exact k
theorem y_A11 (h : RX 1 q.1 u) (hI : Inv n u) (k : P (sumTo (gDp u) (cE u)) q) : w_X9_account0 11 q P := by
  unfold w_X9_account0
  refine br_f (by decide) (br_f (by decide) (br_f (by decide) (br_f (by decide) (br_f (by decide) (br_f (by decide) (br_f (by decide) (br_f (by decide) (br_f (by decide) (br_f (by decide) (br_f (by decide) (br_t (by decide) (x_heldOfAll h hI.1 ?_))))))))))))
  rw [held_all hI]
  exact k
theorem y_would (h : RX 1 q.1 u) (hI : Inv n u) {i j : Nat} (hi : i < cS u) (hj : j < cR u) (k : P (pTon u (nI i) (nI j)) q) : w_X9_would0 (nI i) (nI j) q P := by
  unfold w_X9_would0
  exact y_chkS h hI hi (y_chkR h hI hj (x_tonesInRoom h hI.1 hI.ech _ _ k))
theorem y_tones (h : RX 1 q.1 u) (hI : Inv n u) {i r : Nat} (hi : i < cS u) (hr : r < cR u) (er : u 14 i = nI r) (k : P (pTon u (nI i) (nI r)) q) : w_X9_tones0 (nI i) q P := by
  have hb1 := hI.1.1.2
  have hb3 := hI.1.2.2.2
  have hi6 : i < 6 := by omega
  unfold w_X9_tones0
  refine y_chkI h hI hi (by rw [er]; exact nI_nm (by omega)) ?_
  refine ⟨vp_in_nI hi6 (by decide), ?_⟩
  rw [nI_c (show i < 100000 by omega), rx_15 h hi6, er]
  exact x_tonesInRoom h hI.1 hI.ech _ _ k
theorem y_tonesAgain (h : RX 1 q.1 u) (hI : Inv n u) {i r : Nat} (hi : i < cS u) (hr : r < cR u) (er : u 14 i = nI r) (k : P (pTon u (nI i) (nI r)) q) : w_X9_tonesAgain0 (nI i) q P := by
  have hb1 := hI.1.1.2
  have hb3 := hI.1.2.2.2
  have hi6 : i < 6 := by omega
  unfold w_X9_tonesAgain0
  refine y_chkI h hI hi (by rw [er]; exact nI_nm (by omega)) ?_
  exact x_tonesByStrength h hI hi6 hr er k
theorem y_verses (h : RX 1 q.1 u) (hI : Inv n u) {i r : Nat} (hi : i < cS u) (hr : r < cR u) (er : u 14 i = nI r) (k : P (nI (nV u i r)) q) : w_X9_verses0 (nI i) q P := by
  have hb1 := hI.1.1.2
  have hb3 := hI.1.2.2.2
  have hi6 : i < 6 := by omega
  unfold w_X9_verses0
  refine y_chkI h hI hi (by rw [er]; exact nI_nm (by omega)) ?_
  exact x_versesInThought h hI hi6 hr er k
theorem y_versesAgain (h : RX 1 q.1 u) (hI : Inv n u) {i r : Nat} (hi : i < cS u) (hr : r < cR u) (er : u 14 i = nI r) (k : P (nI (nV u i r)) q) : w_X9_versesAgain0 (nI i) q P := by
  have hb1 := hI.1.1.2
  have hb3 := hI.1.2.2.2
  have hi6 : i < 6 := by omega
  unfold w_X9_versesAgain0
  refine y_chkI h hI hi (by rw [er]; exact nI_nm (by omega)) ?_
  exact x_versesByEcho2 h hI hi6 er k
theorem y_others (h : RX 1 q.1 u) (hI : Inv n u) {j : Nat} (hj : j < cR u) (k : P (pSin u (nI j)) q) : w_X9_others0 (nI j) q P := by
  unfold w_X9_others0
  exact y_chkR h hI hj (x_singersIn h hI.1 _ k)
theorem y_free (h : RX 1 q.1 u) (hI : Inv n u) {j : Nat} (hj : j < cR u) (k : P (pFin u (nI j)) q) : w_X9_free0 (nI j) q P := by
  unfold w_X9_free0
  exact y_chkR h hI hj (x_freeIn h hI.1 _ k)
theorem y_dry (h : RX 1 q.1 u) (hI : Inv n u) {j : Nat} (hj : j < cR u) (k : P ((u 3 j + 1) / 2) q) : w_X9_dryIn0 (nI j) q P := by
  have hb1 := hI.1.1.2
  have hj9 : j < 6 := by omega
  have ej := nI_c (show j < 100000 by omega)
  have vj : vp_in (nI j) 6 := vp_in_nI hj9 (by decide)
  obtain ⟨d, -, hd, ed⟩ := (hI.2.1 j hj).2
  unfold w_X9_dryIn0
  refine y_chkR h hI hj ⟨vj, ?_⟩
  rw [ej, rx_4 h hj9, ed, dry_eq d (by omega), ← ed]
  exact k
theorem y_canEnter (h : RX 1 q.1 u) (hI : Inv n u) {i j : Nat} (hi : i < cS u) (hj : j < cR u) (k1 : ¬ u 14 i = nI j → bc_ (pSin u (nI j)) < u 2 j → bc_ (pSin u (nI j)) ≤ (9 - u 12 i) / 3 → P 1 q) (k0 : ¬ (¬ u 14 i = nI j ∧ bc_ (pSin u (nI j)) < u 2 j ∧ bc_ (pSin u (nI j)) ≤ (9 - u 12 i) / 3) → P 0 q) : w_X9_canEnter0 (nI i) (nI j) q P := by
  have hb1 := hI.1.1.2
  have hb3 := hI.1.2.2.2
  have hi6 : i < 6 := by omega
  unfold w_X9_canEnter0
  refine y_chkS h hI hi (y_chkR h hI hj ⟨vp_in_nI hi6 (by decide), ?_⟩)
  rw [nI_c (show i < 100000 by omega), rx_15 h hi6]
  refine ⟨fun c => k0 (fun z => z.1 c), fun c => x_isFull h hI.1 (by omega) (fun c2 => ⟨fun z => absurd rfl z, fun _ => x_isTooShyFor h hI.1 _ hi6 (fun c3 => ⟨fun z => absurd rfl z, fun _ => k1 c c2 c3⟩) (fun c3 => ⟨fun _ => k0 (fun z => c3 z.2.2), fun z => absurd z i10⟩)⟩) (fun c2 => ⟨fun _ => k0 (fun z => c2 z.2.1), fun z => absurd z i10⟩)⟩
theorem y_canRent (h : RX 1 q.1 u) (hI : Inv n u) {i j : Nat} (hi : i < cS u) (hj : j < cE u) (k1 : u 8 j = -1 → u 14 i = u 6 j → ¬ u 13 i < u 7 j → P 1 q) (k0 : ¬ (u 8 j = -1 ∧ u 14 i = u 6 j ∧ ¬ u 13 i < u 7 j) → P 0 q) : w_X9_canRent0 (nI i) (nI j) q P := by
  have hb2 := hI.1.2.1.2
  have hb3 := hI.1.2.2.2
  have hi6 : i < 6 := by omega
  have hj8 : j < 8 := by omega
  unfold w_X9_canRent0
  refine y_chkS h hI hi (y_chkE h hI hj ?_)
  refine x_isLet h hj8 (fun c => ⟨fun z => absurd rfl z, fun _ => ?_⟩) (fun c => ⟨fun _ => k0 (fun z => c z.1), fun z => absurd z i10⟩)
  refine x_isWithEcho h hi6 hj8 (fun c2 => ⟨fun _ => k0 (fun z => c2 z.2.1), fun z => absurd rfl z⟩) (fun c2 => ⟨fun z => absurd z i10, fun _ => ?_⟩)
  exact x_canPayFor h hi6 hj8 (fun c3 => ⟨fun _ => k0 (fun z => z.2.2 c3), fun z => absurd rfl z⟩) (fun c3 => ⟨fun z => absurd z i10, fun _ => k1 c c2 c3⟩)
end Q0
/-- who stands at a place -/
theorem pig : ∀ (n : Nat) (f : Nat → Nat), (∀ j, j < n → f j < n) → (∀ a b, a < n → b < n → f a = f b → a = b) → ∀ k, k < n → ∃ j, j < n ∧ f j = k
  | 0, _, _, _, k, hk => absurd hk (Nat.not_lt_zero k)
  | n + 1, f, hf, hi, k, hk => by
    have hm := hf n (by omega)
    have ne : ∀ j, j < n → ¬ f j = f n := fun j hj z => by
      have := hi j n (by omega) (by omega) z
      omega
    have ih := pig n (fun j => if f j = n then f n else f j) (fun j hj => by
      have h1 := ne j hj
      have h2 := hf j (by omega)
      show (if f j = n then f n else f j) < n
      split <;> omega) (fun a b ha hb e => by
      have h1 := ne a ha
      have h2 := ne b hb
      have e : (if f a = n then f n else f a) = (if f b = n then f n else f b) := e
      refine hi a b (by omega) (by omega) ?_
      by_cases c1 : f a = n
      · by_cases c2 : f b = n
        · omega
        · rw [if_pos c1, if_neg c2] at e
          omega
      · by_cases c2 : f b = n
        · rw [if_neg c1, if_pos c2] at e
          omega
        · rw [if_neg c1, if_neg c2] at e
          exact e)
    by_cases c : k = f n
    · exact ⟨n, by omega, c.symm⟩
    · by_cases ck : k < n
      · obtain ⟨j, hj, e⟩ := ih k ck
        have e : (if f j = n then f n else f j) = k := e
        by_cases c1 : f j = n
        · rw [if_pos c1] at e
          exact absurd e.symm c
        · rw [if_neg c1] at e
          exact ⟨j, by omega, e⟩
      · obtain ⟨j, hj, e⟩ := ih (f n) (by omega)
        have e : (if f j = n then f n else f j) = f n := e
        by_cases c1 : f j = n
        · exact ⟨j, by omega, by omega⟩
        · rw [if_neg c1] at e
          exact absurd e (ne j hj)
theorem rk_n {k1 k2 : Nat → Nat} {n b : Nat} (hb : b < n) : rkL k1 k2 n b < n := by
  have h1 := cB_lt (f := fun a => ahL k1 k2 a b) (g := fun _ => true) (y := b) (fun z => by rw [ahL_iff] at z; omega) rfl (n := n) hb (fun _ _ _ => rfl)
  have h2 := cB_le (fun _ => true) n
  unfold rkL
  omega
theorem rk_at {k1 k2 : Nat → Nat} {n k : Nat} (hk : k < n) : ∃ j, j < n ∧ rkL k1 k2 n j = k :=
  pig n (rkL k1 k2 n) (fun _ hj => rk_n hj) (fun _ _ ha hb e => rk_inj ha hb e) k hk
/-- the next one stands behind -/
theorem rk_next {k1 k2 : Nat → Nat} {n a b : Nat} (ha : a < n) (hb : b < n) (h : rkL k1 k2 n a < rkL k1 k2 n b) : ahL k1 k2 a b = true := by
  by_cases z : ahL k1 k2 a b = true
  · exact z
  · by_cases e : a = b
    · subst e
      omega
    · have w : ahL k1 k2 b a = true := by
        rw [ahL_iff] at z ⊢
        omega
      have := rk_lt hb w
      omega
section ORD
variable {q : aS} {u : pU} {n : Nat} {P : Int32 → aS → Prop} {X : String → aS → Prop}
theorem y_dampest (h : RX 1 q.1 u) (hI : Inv n u) {k j : Nat} (hj : j < cR u) (hrk : rkL (kR1 u) (kR2 u) (cR u) j = k) (kk : P (nI j) q) : w_X9_dampest0 (nI k) q P := by
  have hb := hI.1.1.2
  have hn := (rx_2 h).trans hI.1.1.1
  unfold w_X9_dampest0
  refine lp_0 (fun m (_ : Unit) i => LX9_dampest0_2 (nI k) P (fun q9 => False) m i q) (fun i _ => ∀ i', i' < i → ¬ i' = j) (cR u) () (fun _ z => absurd z (Nat.not_lt_zero _)) (fun m v hv => ?_) (fun m i v hi hv hk => ?_)
  · rw [LX9_dampest0_2, hn]
    refine ⟨fun _ => absurd rfl (hv j hj), fun z => absurd (nI_le (Nat.le_refl _) (by omega)) z⟩
  · rw [LX9_dampest0_2, hn]
    refine ⟨fun z => absurd z (nI_ge hi (by omega)), fun _ => x_countRoomsAhead h hI hi ⟨fun c => ?_, fun c => ?_⟩⟩
    · intro x e
      rw [nI_1] at e
      subst e
      exact hk () (fun i' hi' z => by
        subst z
        by_cases e2 : i' = i
        · subst e2
          exact c (by rw [hrk])
        · exact hv i' (by omega) rfl)
    · have r1 := rk_n (k1 := kR1 u) (k2 := kR2 u) hi
      have r2 := rk_n (k1 := kR1 u) (k2 := kR2 u) hj
      have e3 := nI_inj (b := k) (by omega) (by omega) c
      rw [rk_inj hi hj (e3.trans hrk.symm)]
      exact kk
theorem y_dampestNo (h : RX 1 q.1 u) (hI : Inv n u) {p : Int32} (hp : ∀ j, j < cR u → ¬ nI (rkL (kR1 u) (kR2 u) (cR u) j) = p) (kk : X "java/util/NoSuchElementException" q) : w_X9_dampest p q P X := by
  have hb := hI.1.1.2
  have hn := (rx_2 h).trans hI.1.1.1
  unfold w_X9_dampest
  refine lp_0 (fun m (_ : Unit) i => LX9_dampest_2 p P X (fun q9 => X "java/util/NoSuchElementException" q9) m i q) (fun i _ => True) (cR u) () trivial (fun m v hv => ?_) (fun m i v hi hv hk => ?_)
  · rw [LX9_dampest_2, hn]
    refine ⟨fun _ => kk, fun z => absurd (nI_le (Nat.le_refl _) (by omega)) z⟩
  · rw [LX9_dampest_2, hn]
    refine ⟨fun z => absurd z (nI_ge hi (by omega)), fun _ => x_countRoomsAhead h hI hi ⟨fun c => ?_, fun c => ?_⟩⟩
    · intro x e
      rw [nI_1] at e
      subst e
      exact hk () (trivial)
    · exact absurd c (hp i hi)
theorem y_strongest (h : RX 1 q.1 u) (hI : Inv n u) {k j : Nat} (hj : j < cE u) (hrk : rkL (kE1 u) (kE2 u) (cE u) j = k) (kk : P (nI j) q) : w_X9_strongest0 (nI k) q P := by
  have hb := hI.1.2.1.2
  have hn := (rx_6 h).trans hI.1.2.1.1
  unfold w_X9_strongest0
  refine lp_0 (fun m (_ : Unit) i => LX9_strongest0_2 (nI k) P (fun q9 => False) m i q) (fun i _ => ∀ i', i' < i → ¬ i' = j) (cE u) () (fun _ z => absurd z (Nat.not_lt_zero _)) (fun m v hv => ?_) (fun m i v hi hv hk => ?_)
  · rw [LX9_strongest0_2, hn]
    refine ⟨fun _ => absurd rfl (hv j hj), fun z => absurd (nI_le (Nat.le_refl _) (by omega)) z⟩
  · rw [LX9_strongest0_2, hn]
    refine ⟨fun z => absurd z (nI_ge hi (by omega)), fun _ => x_countEchoesAhead h hI hi ⟨fun c => ?_, fun c => ?_⟩⟩
    · intro x e
      rw [nI_1] at e
      subst e
      exact hk () (fun i' hi' z => by
        subst z
        by_cases e2 : i' = i
        · subst e2
          exact c (by rw [hrk])
        · exact hv i' (by omega) rfl)
    · have r1 := rk_n (k1 := kE1 u) (k2 := kE2 u) hi
      have r2 := rk_n (k1 := kE1 u) (k2 := kE2 u) hj
      have e3 := nI_inj (b := k) (by omega) (by omega) c
      rw [rk_inj hi hj (e3.trans hrk.symm)]
      exact kk
theorem y_strongestNo (h : RX 1 q.1 u) (hI : Inv n u) {p : Int32} (hp : ∀ j, j < cE u → ¬ nI (rkL (kE1 u) (kE2 u) (cE u) j) = p) (kk : X "java/util/NoSuchElementException" q) : w_X9_strongest p q P X := by
  have hb := hI.1.2.1.2
  have hn := (rx_6 h).trans hI.1.2.1.1
  unfold w_X9_strongest
  refine lp_0 (fun m (_ : Unit) i => LX9_strongest_2 p P X (fun q9 => X "java/util/NoSuchElementException" q9) m i q) (fun i _ => True) (cE u) () trivial (fun m v hv => ?_) (fun m i v hi hv hk => ?_)
  · rw [LX9_strongest_2, hn]
    refine ⟨fun _ => kk, fun z => absurd (nI_le (Nat.le_refl _) (by omega)) z⟩
  · rw [LX9_strongest_2, hn]
    refine ⟨fun z => absurd z (nI_ge hi (by omega)), fun _ => x_countEchoesAhead h hI hi ⟨fun c => ?_, fun c => ?_⟩⟩
    · intro x e
      rw [nI_1] at e
      subst e
      exact hk () (trivial)
    · exact absurd c (hp i hi)
theorem y_ranked (h : RX 1 q.1 u) (hI : Inv n u) (hn9 : n ≤ 10000) {c9 : Int32} (h0 : ¬ c9 < 0) (h3 : c9 ≤ 3) {k j : Nat} (hj : j < cS u) (hrk : rkL (kS1 u c9) (kS2) (cS u) j = k) (kk : P (nI j) q) : w_X9_ranked0 c9 (nI k) q P := by
  have hb := hI.1.2.2.2
  have hn := (rx_12 h).trans hI.1.2.2.1
  unfold w_X9_ranked0
  refine ⟨fun z => absurd z h0, fun _ => ⟨fun _ => ?_, fun z => absurd h3 z⟩⟩
  refine lp_0 (fun m (_ : Unit) i => LX9_ranked0_21 c9 (nI k) P (fun q9 => False) m i q) (fun i _ => ∀ i', i' < i → ¬ i' = j) (cS u) () (fun _ z => absurd z (Nat.not_lt_zero _)) (fun m v hv => ?_) (fun m i v hi hv hk => ?_)
  · rw [LX9_ranked0_21, hn]
    refine ⟨fun _ => absurd rfl (hv j hj), fun z => absurd (nI_le (Nat.le_refl _) (by omega)) z⟩
  · rw [LX9_ranked0_21, hn]
    refine ⟨fun z => absurd z (nI_ge hi (by omega)), fun _ => x_countSingersAhead h hI hn9 c9 hi ⟨fun c => ?_, fun c => ?_⟩⟩
    · intro x e
      rw [nI_1] at e
      subst e
      exact hk () (fun i' hi' z => by
        subst z
        by_cases e2 : i' = i
        · subst e2
          exact c (by rw [hrk])
        · exact hv i' (by omega) rfl)
    · have r1 := rk_n (k1 := kS1 u c9) (k2 := kS2) hi
      have r2 := rk_n (k1 := kS1 u c9) (k2 := kS2) hj
      have e3 := nI_inj (b := k) (by omega) (by omega) c
      rw [rk_inj hi hj (e3.trans hrk.symm)]
      exact kk
theorem y_rankedNo (h : RX 1 q.1 u) (hI : Inv n u) (hn9 : n ≤ 10000) {c9 : Int32} (h0 : ¬ c9 < 0) (h3 : c9 ≤ 3) {p : Int32} (hp : ∀ j, j < cS u → ¬ nI (rkL (kS1 u c9) (kS2) (cS u) j) = p) (kk : X "java/util/NoSuchElementException" q) : w_X9_ranked c9 p q P X := by
  have hb := hI.1.2.2.2
  have hn := (rx_12 h).trans hI.1.2.2.1
  unfold w_X9_ranked
  refine ⟨fun z => absurd z h0, fun _ => ⟨fun _ => ?_, fun z => absurd h3 z⟩⟩
  refine lp_0 (fun m (_ : Unit) i => LX9_ranked_21 c9 p P X (fun q9 => X "java/util/NoSuchElementException" q9) m i q) (fun i _ => True) (cS u) () trivial (fun m v hv => ?_) (fun m i v hi hv hk => ?_)
  · rw [LX9_ranked_21, hn]
    refine ⟨fun _ => kk, fun z => absurd (nI_le (Nat.le_refl _) (by omega)) z⟩
  · rw [LX9_ranked_21, hn]
    refine ⟨fun z => absurd z (nI_ge hi (by omega)), fun _ => x_countSingersAhead h hI hn9 c9 hi ⟨fun c => ?_, fun c => ?_⟩⟩
    · intro x e
      rw [nI_1] at e
      subst e
      exact hk () (trivial)
    · exact absurd c (hp i hi)
theorem y_rankedBad {c9 p : Int32} (hc : c9 < 0 ∨ ¬ c9 ≤ 3) (kk : X "java/lang/IllegalArgumentException" q) : w_X9_ranked c9 p q P X := by
  unfold w_X9_ranked JX9_ranked_9
  exact ⟨fun _ => kk, fun c => ⟨fun c2 => absurd hc (fun z => z.elim c (fun w => w c2)), fun _ => kk⟩⟩
end ORD

def tyX : List FieldType := [.int, .char, .object "EchoCouncil$State", .object "EchoCouncil$OrderKind", .array .int, .byte]
/-! the class: its State at b: 17 places -/
def shS (ad : Nat → Nat) (c : Nat → ClassId) (b j : Nat) (f : Nat → Int32) : va_E := match j with
  | 0 => .inr (10, [.ref (ad (b + 1)), .ref (ad (b + 5)), .ref (ad (b + 11)), .int (f 3), .int (f 4), .int (f 5), .int (f 6)])
  | 1 => .inr (8, [.int (f 0), .ref (ad (b + 2)), .ref (ad (b + 3)), .ref (ad (b + 4))])
  | 2 => .inl (c 0, (6, .inl f))
  | 3 => .inl (c 0, (6, .inl f))
  | 4 => .inl (c 0, (6, .inl f))
  | 5 => .inr (4, [.int (f 0), .ref (ad (b + 6)), .ref (ad (b + 7)), .ref (ad (b + 8)), .ref (ad (b + 9)), .ref (ad (b + 10))])
  | 6 => .inl (c 0, (8, .inl f))
  | 7 => .inl (c 0, (8, .inl f))
  | 8 => .inl (c 0, (8, .inl f))
  | 9 => .inl (c 0, (8, .inl f))
  | 10 => .inl (c 0, (8, .inl f))
  | 11 => .inr (9, [.int (f 0), .ref (ad (b + 12)), .ref (ad (b + 13)), .ref (ad (b + 14)), .ref (ad (b + 15)), .ref (ad (b + 16))])
  | 12 => .inl (c 0, (6, .inl f))
  | 13 => .inl (c 0, (6, .inl f))
  | 14 => .inl (c 0, (6, .inl f))
  | 15 => .inl (c 0, (6, .inl f))
  | _ => .inl (c 0, (6, .inl f))
def shX (ad kd : Nat → Nat) (c : Nat → ClassId) (k : Nat) (f : Nat → Int32) : va_E :=
  if k = 0 then .inr (11, [.ref (ad 1), .ref (ad 18), .ref (ad 35), .int (f 3), .ref (ad 52), .ref (ad 190), .ref (ad 204), .ref (ad 205)])
  else if k < 52 then shS ad c (17 * ((k - 1) / 17) + 1) ((k - 1) % 17) f
  else if k = 52 then .inr (6, [.ref (ad 53), .int (f 1), .int (f 2)])
  else if k = 53 then .inl (c 2, (8, .inr (.inr (.inr (.inr (fun j => some (ad (54 + 17 * j))))))))
  else if k < 190 then shS ad c (17 * ((k - 54) / 17) + 54) ((k - 54) % 17) f
  else if k = 190 then .inr (5, [.ref (ad 191), .int (f 1), .int (f 2), .int (f 3), .ref (ad 192), .ref (ad 193), .int (f 6)])
  else if k = 191 then .inl (c 1, (60, .inl f))
  else if k = 192 then .inl (c 3, (10, .inr (.inr (.inr (.inr (fun j => some (kd (f j).toNatClampNeg)))))))
  else if k = 193 then .inl (c 4, (10, .inr (.inr (.inr (.inr (fun j => some (ad (194 + j))))))))
  else if k < 204 then .inl (c 0, (3, .inl f))
  else .inr (7, [.int (f 0), .int (f 1), .int (f 2), .int (f 3), .int (f 4), .int (f 5)])
def isX (g : aG) : Prop := gSh g = shX (gAd g) (gK g) (gc g) ∧ gN g = 205 ∧ (gT g).map Prod.snd = tyX ∧ gCl g ∧ ∀ U H, gEn g U H → EnvX (gA g) (gK g) U H
theorem isX.cl {g : aG} (h : isX g) : gCl g := h.2.2.2.1
theorem isX.toS {g : aG} (h : isX g) : isS g := ⟨h.2.2.2.1, fun U H e => (h.2.2.2.2 U H e).1⟩
theorem oX_0 {g : aG} (h : isX g) : aOb g 0 11 (fun f => [.ref (gAd g 1), .ref (gAd g 18), .ref (gAd g 35), .int (f 3), .ref (gAd g 52), .ref (gAd g 190), .ref (gAd g 204), .ref (gAd g 205)]) := ⟨by rw [h.2.1]; decide, fun d => by rw [h.1]; rfl⟩
theorem oX_1 {g : aG} (h : isX g) : aOb g 1 10 (fun f => [.ref (gAd g 2), .ref (gAd g 6), .ref (gAd g 12), .int (f 3), .int (f 4), .int (f 5), .int (f 6)]) := ⟨by rw [h.2.1]; decide, fun d => by rw [h.1]; rfl⟩
theorem oX_2 {g : aG} (h : isX g) : aOb g 2 8 (fun f => [.int (f 0), .ref (gAd g 3), .ref (gAd g 4), .ref (gAd g 5)]) := ⟨by rw [h.2.1]; decide, fun d => by rw [h.1]; rfl⟩
theorem oX_3 {g : aG} (h : isX g) : aAr g 3 0 6 .int := ⟨by rw [h.2.1]; decide, fun d => by rw [h.1]; rfl, gc_at h.2.2.1 rfl⟩
theorem oX_4 {g : aG} (h : isX g) : aAr g 4 0 6 .int := ⟨by rw [h.2.1]; decide, fun d => by rw [h.1]; rfl, gc_at h.2.2.1 rfl⟩
theorem oX_5 {g : aG} (h : isX g) : aAr g 5 0 6 .int := ⟨by rw [h.2.1]; decide, fun d => by rw [h.1]; rfl, gc_at h.2.2.1 rfl⟩
theorem oX_6 {g : aG} (h : isX g) : aOb g 6 4 (fun f => [.int (f 0), .ref (gAd g 7), .ref (gAd g 8), .ref (gAd g 9), .ref (gAd g 10), .ref (gAd g 11)]) := ⟨by rw [h.2.1]; decide, fun d => by rw [h.1]; rfl⟩
theorem oX_7 {g : aG} (h : isX g) : aAr g 7 0 8 .int := ⟨by rw [h.2.1]; decide, fun d => by rw [h.1]; rfl, gc_at h.2.2.1 rfl⟩
theorem oX_8 {g : aG} (h : isX g) : aAr g 8 0 8 .int := ⟨by rw [h.2.1]; decide, fun d => by rw [h.1]; rfl, gc_at h.2.2.1 rfl⟩
theorem oX_9 {g : aG} (h : isX g) : aAr g 9 0 8 .int := ⟨by rw [h.2.1]; decide, fun d => by rw [h.1]; rfl, gc_at h.2.2.1 rfl⟩
theorem oX_10 {g : aG} (h : isX g) : aAr g 10 0 8 .int := ⟨by rw [h.2.1]; decide, fun d => by rw [h.1]; rfl, gc_at h.2.2.1 rfl⟩
theorem oX_11 {g : aG} (h : isX g) : aAr g 11 0 8 .int := ⟨by rw [h.2.1]; decide, fun d => by rw [h.1]; rfl, gc_at h.2.2.1 rfl⟩
theorem oX_12 {g : aG} (h : isX g) : aOb g 12 9 (fun f => [.int (f 0), .ref (gAd g 13), .ref (gAd g 14), .ref (gAd g 15), .ref (gAd g 16), .ref (gAd g 17)]) := ⟨by rw [h.2.1]; decide, fun d => by rw [h.1]; rfl⟩
theorem oX_13 {g : aG} (h : isX g) : aAr g 13 0 6 .int := ⟨by rw [h.2.1]; decide, fun d => by rw [h.1]; rfl, gc_at h.2.2.1 rfl⟩
theorem oX_14 {g : aG} (h : isX g) : aAr g 14 0 6 .int := ⟨by rw [h.2.1]; decide, fun d => by rw [h.1]; rfl, gc_at h.2.2.1 rfl⟩
theorem oX_15 {g : aG} (h : isX g) : aAr g 15 0 6 .int := ⟨by rw [h.2.1]; decide, fun d => by rw [h.1]; rfl, gc_at h.2.2.1 rfl⟩
theorem oX_16 {g : aG} (h : isX g) : aAr g 16 0 6 .int := ⟨by rw [h.2.1]; decide, fun d => by rw [h.1]; rfl, gc_at h.2.2.1 rfl⟩
theorem oX_17 {g : aG} (h : isX g) : aAr g 17 0 6 .int := ⟨by rw [h.2.1]; decide, fun d => by rw [h.1]; rfl, gc_at h.2.2.1 rfl⟩
theorem oX_52 {g : aG} (h : isX g) : aOb g 52 6 (fun f => [.ref (gAd g 53), .int (f 1), .int (f 2)]) := ⟨by rw [h.2.1]; decide, fun d => by rw [h.1]; rfl⟩
theorem oX_53 {g : aG} (h : isX g) : aQr g 53 2 8 (.object "EchoCouncil$State") (fun _ j => some (gAd g (54 + 17 * j))) := ⟨by rw [h.2.1]; decide, fun d => by rw [h.1]; rfl, gc_at h.2.2.1 rfl⟩
theorem oX_190 {g : aG} (h : isX g) : aOb g 190 5 (fun f => [.ref (gAd g 191), .int (f 1), .int (f 2), .int (f 3), .ref (gAd g 192), .ref (gAd g 193), .int (f 6)]) := ⟨by rw [h.2.1]; decide, fun d => by rw [h.1]; rfl⟩
theorem oX_191 {g : aG} (h : isX g) : aAr g 191 1 60 .char := ⟨by rw [h.2.1]; decide, fun d => by rw [h.1]; rfl, gc_at h.2.2.1 rfl⟩
theorem oX_192 {g : aG} (h : isX g) : aQr g 192 3 10 (.object "EchoCouncil$OrderKind") (fun f j => some (gK g (f j).toNatClampNeg)) := ⟨by rw [h.2.1]; decide, fun d => by rw [h.1]; rfl, gc_at h.2.2.1 rfl⟩
theorem oX_193 {g : aG} (h : isX g) : aQr g 193 4 10 (.array .int) (fun _ j => some (gAd g (194 + j))) := ⟨by rw [h.2.1]; decide, fun d => by rw [h.1]; rfl, gc_at h.2.2.1 rfl⟩
theorem oX_204 {g : aG} (h : isX g) : aOb g 204 7 (fun f => [.int (f 0), .int (f 1), .int (f 2), .int (f 3), .int (f 4), .int (f 5)]) := ⟨by rw [h.2.1]; decide, fun d => by rw [h.1]; rfl⟩
theorem row_lt {i : Int32} (h : vp_in i 10) : i.toNatClampNeg < 10 := Nat.not_le.mp fun q => h (Or.inr q)
/-- a row of the orders' numbers -/
theorem oX_row {g : aG} (h : isX g) (r : Nat) (hr : r < 10) : aAr g (194 + r) 0 3 .int := ⟨by rw [h.2.1]; omega, fun d => by rw [h.1]; rcases (show r = 0 ∨ r = 1 ∨ r = 2 ∨ r = 3 ∨ r = 4 ∨ r = 5 ∨ r = 6 ∨ r = 7 ∨ r = 8 ∨ r = 9 by omega) with rfl | rfl | rfl | rfl | rfl | rfl | rfl | rfl | rfl | rfl <;> rfl, gc_at h.2.2.1 rfl⟩
/-- where a State stands -/
def isB (b : Nat) : Prop := b = 1 ∨ b = 18 ∨ b = 35 ∨ ∃ i, i < 8 ∧ b = 54 + 17 * i
theorem isB.sh {b : Nat} (h : isB b) (ad kd : Nat → Nat) (c : Nat → ClassId) (j : Nat) (hj : j < 17) (f : Nat → Int32) : shX ad kd c (b + j) f = shS ad c b j f ∧ b + j < 205 := by
  rcases h with rfl | rfl | rfl | ⟨i, hi, rfl⟩
  · refine ⟨?_, by omega⟩
    unfold shX
    rw [if_neg (by omega), if_pos (by omega), show (1 + j - 1) / 17 = 0 by omega, show (1 + j - 1) % 17 = j by omega]
  · refine ⟨?_, by omega⟩
    unfold shX
    rw [if_neg (by omega), if_pos (by omega), show (18 + j - 1) / 17 = 1 by omega, show (18 + j - 1) % 17 = j by omega]
  · refine ⟨?_, by omega⟩
    unfold shX
    rw [if_neg (by omega), if_pos (by omega), show (35 + j - 1) / 17 = 2 by omega, show (35 + j - 1) % 17 = j by omega]
  · refine ⟨?_, by omega⟩
    unfold shX
    rw [if_neg (by omega), if_neg (by omega), if_neg (by omega), if_neg (by omega), if_pos (by omega), show (54 + 17 * i + j - 54) / 17 = i by omega, show (54 + 17 * i + j - 54) % 17 = j by omega, Nat.add_comm (17 * i)]
theorem isB_past {i : Int32} (h : vp_in i 8) : isB (54 + 17 * i.toNatClampNeg) := Or.inr (Or.inr (Or.inr ⟨_, Nat.not_le.mp fun q => h (Or.inr q), rfl⟩))
theorem oB_0 {g : aG} (h : isX g) {b : Nat} (hb : isB b) : aOb g (b + 0) 10 (fun f => [.ref (gAd g (b + 1)), .ref (gAd g (b + 5)), .ref (gAd g (b + 11)), .int (f 3), .int (f 4), .int (f 5), .int (f 6)]) := ⟨by rw [h.2.1]; exact (hb.sh (gAd g) (gK g) (gc g) 0 (by decide) (fun _ => 0)).2, fun d => by rw [h.1]; exact (hb.sh (gAd g) (gK g) (gc g) 0 (by decide) d).1⟩
theorem oB_1 {g : aG} (h : isX g) {b : Nat} (hb : isB b) : aOb g (b + 1) 8 (fun f => [.int (f 0), .ref (gAd g (b + 2)), .ref (gAd g (b + 3)), .ref (gAd g (b + 4))]) := ⟨by rw [h.2.1]; exact (hb.sh (gAd g) (gK g) (gc g) 1 (by decide) (fun _ => 0)).2, fun d => by rw [h.1]; exact (hb.sh (gAd g) (gK g) (gc g) 1 (by decide) d).1⟩
theorem oB_2 {g : aG} (h : isX g) {b : Nat} (hb : isB b) : aAr g (b + 2) 0 6 .int := ⟨by rw [h.2.1]; exact (hb.sh (gAd g) (gK g) (gc g) 2 (by decide) (fun _ => 0)).2, fun d => by rw [h.1]; exact (hb.sh (gAd g) (gK g) (gc g) 2 (by decide) d).1, gc_at h.2.2.1 rfl⟩
theorem oB_3 {g : aG} (h : isX g) {b : Nat} (hb : isB b) : aAr g (b + 3) 0 6 .int := ⟨by rw [h.2.1]; exact (hb.sh (gAd g) (gK g) (gc g) 3 (by decide) (fun _ => 0)).2, fun d => by rw [h.1]; exact (hb.sh (gAd g) (gK g) (gc g) 3 (by decide) d).1, gc_at h.2.2.1 rfl⟩
theorem oB_4 {g : aG} (h : isX g) {b : Nat} (hb : isB b) : aAr g (b + 4) 0 6 .int := ⟨by rw [h.2.1]; exact (hb.sh (gAd g) (gK g) (gc g) 4 (by decide) (fun _ => 0)).2, fun d => by rw [h.1]; exact (hb.sh (gAd g) (gK g) (gc g) 4 (by decide) d).1, gc_at h.2.2.1 rfl⟩
theorem oB_5 {g : aG} (h : isX g) {b : Nat} (hb : isB b) : aOb g (b + 5) 4 (fun f => [.int (f 0), .ref (gAd g (b + 6)), .ref (gAd g (b + 7)), .ref (gAd g (b + 8)), .ref (gAd g (b + 9)), .ref (gAd g (b + 10))]) := ⟨by rw [h.2.1]; exact (hb.sh (gAd g) (gK g) (gc g) 5 (by decide) (fun _ => 0)).2, fun d => by rw [h.1]; exact (hb.sh (gAd g) (gK g) (gc g) 5 (by decide) d).1⟩
theorem oB_6 {g : aG} (h : isX g) {b : Nat} (hb : isB b) : aAr g (b + 6) 0 8 .int := ⟨by rw [h.2.1]; exact (hb.sh (gAd g) (gK g) (gc g) 6 (by decide) (fun _ => 0)).2, fun d => by rw [h.1]; exact (hb.sh (gAd g) (gK g) (gc g) 6 (by decide) d).1, gc_at h.2.2.1 rfl⟩
theorem oB_7 {g : aG} (h : isX g) {b : Nat} (hb : isB b) : aAr g (b + 7) 0 8 .int := ⟨by rw [h.2.1]; exact (hb.sh (gAd g) (gK g) (gc g) 7 (by decide) (fun _ => 0)).2, fun d => by rw [h.1]; exact (hb.sh (gAd g) (gK g) (gc g) 7 (by decide) d).1, gc_at h.2.2.1 rfl⟩
theorem oB_8 {g : aG} (h : isX g) {b : Nat} (hb : isB b) : aAr g (b + 8) 0 8 .int := ⟨by rw [h.2.1]; exact (hb.sh (gAd g) (gK g) (gc g) 8 (by decide) (fun _ => 0)).2, fun d => by rw [h.1]; exact (hb.sh (gAd g) (gK g) (gc g) 8 (by decide) d).1, gc_at h.2.2.1 rfl⟩
theorem oB_9 {g : aG} (h : isX g) {b : Nat} (hb : isB b) : aAr g (b + 9) 0 8 .int := ⟨by rw [h.2.1]; exact (hb.sh (gAd g) (gK g) (gc g) 9 (by decide) (fun _ => 0)).2, fun d => by rw [h.1]; exact (hb.sh (gAd g) (gK g) (gc g) 9 (by decide) d).1, gc_at h.2.2.1 rfl⟩
theorem oB_10 {g : aG} (h : isX g) {b : Nat} (hb : isB b) : aAr g (b + 10) 0 8 .int := ⟨by rw [h.2.1]; exact (hb.sh (gAd g) (gK g) (gc g) 10 (by decide) (fun _ => 0)).2, fun d => by rw [h.1]; exact (hb.sh (gAd g) (gK g) (gc g) 10 (by decide) d).1, gc_at h.2.2.1 rfl⟩
theorem oB_11 {g : aG} (h : isX g) {b : Nat} (hb : isB b) : aOb g (b + 11) 9 (fun f => [.int (f 0), .ref (gAd g (b + 12)), .ref (gAd g (b + 13)), .ref (gAd g (b + 14)), .ref (gAd g (b + 15)), .ref (gAd g (b + 16))]) := ⟨by rw [h.2.1]; exact (hb.sh (gAd g) (gK g) (gc g) 11 (by decide) (fun _ => 0)).2, fun d => by rw [h.1]; exact (hb.sh (gAd g) (gK g) (gc g) 11 (by decide) d).1⟩
theorem oB_12 {g : aG} (h : isX g) {b : Nat} (hb : isB b) : aAr g (b + 12) 0 6 .int := ⟨by rw [h.2.1]; exact (hb.sh (gAd g) (gK g) (gc g) 12 (by decide) (fun _ => 0)).2, fun d => by rw [h.1]; exact (hb.sh (gAd g) (gK g) (gc g) 12 (by decide) d).1, gc_at h.2.2.1 rfl⟩
theorem oB_13 {g : aG} (h : isX g) {b : Nat} (hb : isB b) : aAr g (b + 13) 0 6 .int := ⟨by rw [h.2.1]; exact (hb.sh (gAd g) (gK g) (gc g) 13 (by decide) (fun _ => 0)).2, fun d => by rw [h.1]; exact (hb.sh (gAd g) (gK g) (gc g) 13 (by decide) d).1, gc_at h.2.2.1 rfl⟩
theorem oB_14 {g : aG} (h : isX g) {b : Nat} (hb : isB b) : aAr g (b + 14) 0 6 .int := ⟨by rw [h.2.1]; exact (hb.sh (gAd g) (gK g) (gc g) 14 (by decide) (fun _ => 0)).2, fun d => by rw [h.1]; exact (hb.sh (gAd g) (gK g) (gc g) 14 (by decide) d).1, gc_at h.2.2.1 rfl⟩
theorem oB_15 {g : aG} (h : isX g) {b : Nat} (hb : isB b) : aAr g (b + 15) 0 6 .int := ⟨by rw [h.2.1]; exact (hb.sh (gAd g) (gK g) (gc g) 15 (by decide) (fun _ => 0)).2, fun d => by rw [h.1]; exact (hb.sh (gAd g) (gK g) (gc g) 15 (by decide) d).1, gc_at h.2.2.1 rfl⟩
theorem oB_16 {g : aG} (h : isX g) {b : Nat} (hb : isB b) : aAr g (b + 16) 0 6 .int := ⟨by rw [h.2.1]; exact (hb.sh (gAd g) (gK g) (gc g) 16 (by decide) (fun _ => 0)).2, fun d => by rw [h.1]; exact (hb.sh (gAd g) (gK g) (gc g) 16 (by decide) d).1, gc_at h.2.2.1 rfl⟩
theorem cl_X1 : aCl 4 RX1 TX1 6 := ⟨rfl, fun w h => tk_w ((by decide +kernel : ∀ w ∈ u_ws RX1 TX1 6, w ∈ lw_tbl) w h) ((by decide +kernel : ∀ w ∈ u_ws RX1 TX1 6, goodWord w = true) w h), nmX1⟩
theorem cl_X3 : aCl 5 RX3 TX3 7 := ⟨rfl, fun w h => tk_w ((by decide +kernel : ∀ w ∈ u_ws RX3 TX3 7, w ∈ lw_tbl) w h) ((by decide +kernel : ∀ w ∈ u_ws RX3 TX3 7, goodWord w = true) w h), nmX3⟩
theorem cl_X4 : aCl 6 RX4 TX4 3 := ⟨rfl, fun w h => tk_w ((by decide +kernel : ∀ w ∈ u_ws RX4 TX4 3, w ∈ lw_tbl) w h) ((by decide +kernel : ∀ w ∈ u_ws RX4 TX4 3, goodWord w = true) w h), nmX4⟩
theorem cl_X5 : aCl 7 RX5 TX5 6 := ⟨rfl, fun w h => tk_w ((by decide +kernel : ∀ w ∈ u_ws RX5 TX5 6, w ∈ lw_tbl) w h) ((by decide +kernel : ∀ w ∈ u_ws RX5 TX5 6, goodWord w = true) w h), nmX5⟩
theorem cl_X6 : aCl 8 RX6 TX6 4 := ⟨rfl, fun w h => tk_w ((by decide +kernel : ∀ w ∈ u_ws RX6 TX6 4, w ∈ lw_tbl) w h) ((by decide +kernel : ∀ w ∈ u_ws RX6 TX6 4, goodWord w = true) w h), nmX6⟩
theorem cl_X7 : aCl 9 RX7 TX7 6 := ⟨rfl, fun w h => tk_w ((by decide +kernel : ∀ w ∈ u_ws RX7 TX7 6, w ∈ lw_tbl) w h) ((by decide +kernel : ∀ w ∈ u_ws RX7 TX7 6, goodWord w = true) w h), nmX7⟩
theorem cl_X8 : aCl 10 RX8 TX8 7 := ⟨rfl, fun w h => tk_w ((by decide +kernel : ∀ w ∈ u_ws RX8 TX8 7, w ∈ lw_tbl) w h) ((by decide +kernel : ∀ w ∈ u_ws RX8 TX8 7, goodWord w = true) w h), nmX8⟩
theorem cl_X9 : aCl 11 RX9 TX9 8 := ⟨rfl, fun w h => tk_w ((by decide +kernel : ∀ w ∈ u_ws RX9 TX9 8, w ∈ lw_tbl) w h) ((by decide +kernel : ∀ w ∈ u_ws RX9 TX9 8, goodWord w = true) w h), nmX9⟩
theorem cl_J4 : aCl 1 RJ4 TJ4 4 := ⟨rfl, fun w h => tk_w ((by decide +kernel : ∀ w ∈ u_ws RJ4 TJ4 4, w ∈ lw_tbl) w h) ((by decide +kernel : ∀ w ∈ u_ws RJ4 TJ4 4, goodWord w = true) w h), nmJ4⟩

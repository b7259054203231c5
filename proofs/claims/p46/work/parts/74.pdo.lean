/-! the orders, purely: why one is refused (0: it isn't) with the detail; what one answers and makes of u -/
def pR0 (a : Int32) (u : pU) : Int32 × Int32 := if a < 1 ∨ 9 < a then (3, a) else if cR u = 6 then (1, 6) else (0, 0)
def pR1 (a b : Int32) (u : pU) : Int32 × Int32 := if a < 0 ∨ nI (cR u) ≤ a then (2, a) else if b < 1 ∨ 9 < b then (3, b) else if cE u = 8 then (1, 8) else (0, 0)
def pR2 (a b : Int32) (u : pU) : Int32 × Int32 := if a < 0 ∨ 9 < a then (3, a) else if b < 0 ∨ 99 < b then (3, b) else if cS u = 6 then (1, 6) else (0, 0)
def pR3 (a b : Int32) (u : pU) : Int32 × Int32 := if a < 0 ∨ nI (cS u) ≤ a then (2, a) else if b < 0 ∨ nI (cR u) ≤ b then (2, b) else if u 14 (tn a) = b then (4, b)
    else if ¬ bc_ (pSin u b) < u 2 (tn b) then (5, u 2 (tn b)) else if ¬ bc_ (pSin u b) ≤ (9 - u 12 (tn a)) / 3 then (6, bc_ (pSin u b)) else (0, 0)
def pR4 (a : Int32) (u : pU) : Int32 × Int32 := if a < 0 ∨ nI (cS u) ≤ a then (2, a) else if u 14 (tn a) = -1 then (10, a) else (0, 0)
def pR5 (a b : Int32) (u : pU) : Int32 × Int32 := if a < 0 ∨ nI (cE u) ≤ a then (2, a) else if b < 0 ∨ nI (cR u) ≤ b then (2, b) else if u 6 (tn a) = b then (4, b) else if ¬ u 8 (tn a) = -1 then (7, u 8 (tn a)) else (0, 0)
def pR6 (a b c : Int32) (u : pU) : Int32 × Int32 := if a < 0 ∨ nI (cS u) ≤ a then (2, a) else if b < 0 ∨ nI (cE u) ≤ b then (2, b) else if c < 1 ∨ 9 < c then (3, c) else if ¬ u 8 (tn b) = -1 then (7, u 8 (tn b))
    else if ¬ u 14 (tn a) = u 6 (tn b) then (8, u 6 (tn b)) else if u 13 (tn a) < u 7 (tn b) then (9, u 13 (tn a)) else (0, 0)
def pR7 (a b : Int32) (u : pU) : Int32 × Int32 := if a < 0 ∨ nI (cS u) ≤ a then (2, a) else if b < 0 ∨ nI (cE u) ≤ b then (2, b) else if ¬ u 8 (tn b) = a then (11, u 8 (tn b)) else (0, 0)
def pR8 (a : Int32) (u : pU) : Int32 × Int32 := if a < 0 ∨ nI (cS u) ≤ a then (2, a) else if u 14 (tn a) = -1 then (10, a) else if u 13 (tn a) < 1 then (9, u 13 (tn a)) else (0, 0)
def pRef (k : Nat) (a b c : Int32) (u : pU) : Int32 × Int32 :=
  if k = 0 then pR0 a u else if k = 1 then pR1 a b u else if k = 2 then pR2 a b u else if k = 3 then pR3 a b u else if k = 4 then pR4 a u else if k = 5 then pR5 a b u
  else if k = 6 then pR6 a b c u else if k = 7 then pR7 a b u else if k = 8 then pR8 a u else (0, 0)
/-- a letting ends -/
def pSt (u : pU) (e : Nat) : pU :=
  up2 (up2 (up2 (up2 (up2 u 13 (tn (u 8 e)) (mi_ (u 13 (tn (u 8 e)) + pW u e) 99)) 0 5 (u 0 5 + pW u e)) 0 6 (u 0 6 + (u 7 e - pW u e))) 8 e (-1)) 9 e 0
/-- a verse of one echo -/
def pV1 (u : pU) (e : Nat) : pU :=
  let w := up2 (up2 u 10 e (u 10 e + pW u e)) 9 e (u 9 e - 1)
  if u 9 e - 1 = 0 then pSt w e else w
def pVs (s r : Int32) (u : pU) : Nat → Int32 × pU
  | 0 => (0, u)
  | e + 1 => if (pVs s r u e).2 6 e = r ∧ (pVs s r u e).2 8 e = s then ((pVs s r u e).1 + pW (pVs s r u e).2 e, pV1 (pVs s r u e).2 e) else pVs s r u e
def pEnd (a : Nat) (r : Nat) (y : Int32) (w : pU) : pU :=
  up2 (up2 (up2 (up2 (up2 (up2 w 15 a (w 15 a + 1)) 16 a (w 16 a + y)) 4 r (w 4 r + 1)) 3 r (mi_ (w 3 r + 1) 9)) 0 7 (w 0 7 + 1)) 0 8 (w 0 8 + y)
def pSing (u : pU) (a : Nat) : Int32 × pU :=
  let v := pVs (nI a) (u 14 a) (up2 u 13 a (u 13 a - 1)) (cE u)
  (v.1, pEnd a (tn (u 14 a)) v.1 v.2)
def pN1 (u : pU) : Nat → pU
  | 0 => u
  | r + 1 => up2 (pN1 u r) 3 r (p0_ (pN1 u r 3 r - 2))
def pN2 (u : pU) : Nat → Int32 × pU
  | 0 => (0, u)
  | s + 1 => ((pN2 u s).1 + mi_ (99 - (pN2 u s).2 13 s) 3, up2 (pN2 u s).2 13 s ((pN2 u s).2 13 s + mi_ (99 - (pN2 u s).2 13 s) 3))
def pNight (u : pU) : Int32 × pU := pN2 (pN1 (up2 u 0 3 (u 0 3 + 1)) (cR u)) (cS u)
def pD0 (a : Int32) (u : pU) : Int32 × pU := (u 1 0, up2 (up2 u 2 (cR u) a) 1 0 (u 1 0 + 1))
def pD1 (a b : Int32) (u : pU) : Int32 × pU := (u 5 0, up2 (up2 (up2 (up2 u 6 (cE u) a) 7 (cE u) b) 8 (cE u) (-1)) 5 0 (u 5 0 + 1))
def pD2 (a b : Int32) (u : pU) : Int32 × pU := (u 11 0, up2 (up2 (up2 (up2 u 12 (cS u) a) 13 (cS u) b) 14 (cS u) (-1)) 11 0 (u 11 0 + 1))
def pD3 (a b : Int32) (u : pU) : Int32 × pU := (bc_ (pSin (up2 u 14 (tn a) b) b), up2 u 14 (tn a) b)
def pD4 (a : Int32) (u : pU) : Int32 × pU := (u 14 (tn a), up2 u 14 (tn a) (-1))
def pD5 (a b : Int32) (u : pU) : Int32 × pU := (u 6 (tn a), up2 u 6 (tn a) b)
def pD6 (a b c : Int32) (u : pU) : Int32 × pU := (u 7 (tn b), up2 (up2 (up2 (up2 u 13 (tn a) (u 13 (tn a) - u 7 (tn b))) 0 4 (u 0 4 + u 7 (tn b))) 8 (tn b) a) 9 (tn b) c)
def pD7 (b : Int32) (u : pU) : Int32 × pU := (pW u (tn b), pSt u (tn b))
def pDo (k : Nat) (a b c : Int32) (u : pU) : Int32 × pU :=
  if k = 0 then pD0 a u else if k = 1 then pD1 a b u else if k = 2 then pD2 a b u else if k = 3 then pD3 a b u else if k = 4 then pD4 a u else if k = 5 then pD5 a b u
  else if k = 6 then pD6 a b c u else if k = 7 then pD7 b u else if k = 8 then pSing u (tn a) else pNight u
/-! what holds of every state: n: how many orders were done so far, at most -/
def IvR (u : pU) : Prop := ∀ j, j < cR u → Rg (u 2 j) 1 9 ∧ Rg (u 3 j) 0 9
def IvE (u : pU) : Prop := ∀ j, j < cE u → (∃ r, r < cR u ∧ u 6 j = nI r) ∧ Rg (u 7 j) 1 9 ∧ ((u 8 j = -1 ∧ u 9 j = 0) ∨ ((∃ s, s < cS u ∧ u 8 j = nI s) ∧ Rg (u 9 j) 1 9))
def IvS (n : Nat) (u : pU) : Prop := ∀ j, j < cS u → Rg (u 12 j) 0 9 ∧ Rg (u 13 j) 0 99 ∧ (u 14 j = -1 ∨ ∃ r, r < cR u ∧ u 14 j = nI r) ∧ Rg (u 15 j) 0 n ∧ Rg (u 16 j) 0 (72 * n)
def IvZ (u : pU) : Prop := (∀ j, cR u ≤ j → j < 6 → u 3 j = 0 ∧ u 4 j = 0) ∧ (∀ j, cE u ≤ j → j < 8 → u 9 j = 0 ∧ u 10 j = 0) ∧ (∀ j, cS u ≤ j → j < 6 → u 15 j = 0 ∧ u 16 j = 0)
def gDp (u : pU) (e : Nat) : Int32 := if u 8 e = -1 then 0 else u 7 e
def IvD (u : pU) : Prop := u 0 4 = u 0 5 + u 0 6 + sumTo (gDp u) (cE u)
def IvG (u : pU) : Prop := u 0 7 = sumTo (u 4) 6 ∧ u 0 8 = sumTo (u 10) 8
def Inv (n : Nat) (u : pU) : Prop := Cnt u ∧ IvR u ∧ IvE u ∧ IvS n u ∧ IvZ u ∧ IvD u ∧ IvG u
theorem Inv.ech {n : Nat} {u : pU} (h : Inv n u) : Ech u := fun e he => (h.2.2.1 e he).1
theorem Inv.wd {n m : Nat} {u : pU} (h : Inv n u) (hm : n ≤ m) : Inv m u := by
  obtain ⟨h1, h2, h3, h4, h5⟩ := h
  refine ⟨h1, h2, h3, fun j hj => ?_, h5⟩
  obtain ⟨a, b, c, d, e⟩ := h4 j hj
  exact ⟨a, b, c, d.wd hm, e.wd (by omega)⟩

/-! the StringBuilder: a world of 207 places, she at 205, her bytes at 206 -/
section SB0
def shB (z : lP) (qv m : Nat) (k : Nat) (f : Nat → Int32) : va_E :=
  if k < 205 then shX z.2.2.1 z.2.2.2.1 (lc z) k f else if k = 205 then .inr (1, [.ref qv, .int 0, .int (f 2), .int (f 3)]) else .inl (lc z 5, (m, .inl f))
def adB (z : lP) (ba qv : Nat) (k : Nat) : Nat := if k = 206 then qv else if k = 205 then ba else z.2.2.1 k
def lB (z : lP) (RS : va_W) (ba : Nat) (qv m : Nat) : aG :=
  (z.1, z.2.1, shB z qv m, 207, adB z ba qv, fun _ ex => ex = RS, lEn z, lA z, z.2.2.2.1)
def dB (dX : Nat → Nat → Int32) (ml n : Int32) (b : Nat → Int32) : Nat → Nat → Int32 := fun k => if k < 205 then dX k else if k = 205 then (fun j => if j = 2 then ml else n) else b
variable {f : aF} {z : lP} {cc : ByteArray} {nL : Nat} {own : String} {pc : Nat} {L : List (Option Value)} {st : List Value} {dX : Nat → Nat → Int32} {t t0 : List Nat} {RS : va_W} {ba : Nat} {k n qv m : Nat} {d : Nat → Nat → Int32}
theorem lB_wl (ex : va_W) : aWl (lB z RS ba qv m) d ++ ex = lWX z d ++ ([(ba, .inr (1, [.ref qv, .int 0, .int (d 205 2), .int (d 205 3)])), (qv, .inl (lc z 5, (m, .inl (d 206))))] ++ ex) := by
  show (List.range (205 + 1 + 1)).map (fun k => (adB z ba qv k, shB z qv m k (d k))) ++ ex = _
  rw [List.range_succ, List.range_succ, List.map_append, List.map_append]
  have e : (List.range 205).map (fun k => (adB z ba qv k, shB z qv m k (d k))) = lWX z d := by
    unfold lWX
    refine List.map_congr_left (fun k hk => ?_)
    have hk' := List.mem_range.mp hk
    show (adB z ba qv k, shB z qv m k (d k)) = _
    unfold adB shB
    rw [if_neg (by omega), if_neg (by omega), if_pos hk']
  rw [e]
  simp [adB, shB]
theorem lWX_cg {d d' : Nat → Nat → Int32} (h : ∀ k, k < 205 → d k = d' k) : lWX z d = lWX z d' := by
  unfold lWX
  refine List.map_congr_left (fun k hk => ?_)
  rw [h k (List.mem_range.mp hk)]
theorem dB_x (dX : Nat → Nat → Int32) (ml n : Int32) (b : Nat → Int32) {k : Nat} (hk : k < 205) : dB dX ml n b k = dX k := by unfold dB; rw [if_pos hk]
/-- what is written: t -/
def isT (t : List Nat) (m : Nat) (d : Nat → Nat → Int32) : Prop := t.length ≤ m ∧ m ≤ 200 ∧ t.length ≤ 60 ∧ d 205 3 = nI t.length ∧ (∀ j, j < t.length → t.getD j 0 < 128 ∧ d 206 j = nI (t.getD j 0)) ∧ ∀ j, fits .byte (.int (d 206 j)) = true
theorem AW.openB (h : ∀ qv m d, isT t m d → (∀ k, k < 205 → d k = dX k) → AW f (lB z RS ba qv m) pc L st (d, []) k n) : AW f (lX z RS ba) pc L st (dX, t) k n := by
  intro ls H locs ex hl hI hS
  obtain ⟨⟨sb, ⟨m, qv, b, ml, rfl, h1, h2, h3, h4⟩, rfl⟩, hP, hD⟩ := hI
  have hw : aWl (lB z RS ba qv m) (dB dX ml (nI t.length) b) ++ RS = aWl (lX z RS ba) dX ++ ([(ba, .inr (1, [.ref qv, .int 0, .int ml, .int (nI t.length)])), (qv, .inl (lc z 5, (m, .inl b)))] ++ RS) := by
    rw [lB_wl, lX_wl, lWX_cg (fun k hk => dB_x dX ml (nI t.length) b hk)]
    rfl
  exact h qv m (dB dX ml (nI t.length) b) ⟨h1, h2, h3, rfl, h4⟩ (fun k hk => dB_x dX ml _ b hk) ls H locs RS hl ⟨rfl, by rw [hw]; exact hP, by rw [hw]; exact hD⟩ hS
theorem AW.closeB (hT : isT t m d) (hd : ∀ k, k < 205 → d k = dX k) (h : AW f (lX z RS ba) pc L st (dX, t) k n) : AW f (lB z RS ba qv m) pc L st (d, t0) k n := by
  intro ls H locs ex hl hI hS
  obtain ⟨hex, hP, hD⟩ := hI
  have hex : ex = RS := hex
  subst ex
  obtain ⟨h1, h2, h3, h4, h5, h6⟩ := hT
  have hw : aWl (lB z RS ba qv m) d ++ RS = aWl (lX z RS ba) dX ++ ([(ba, .inr (1, [.ref qv, .int 0, .int (d 205 2), .int (nI t.length)])), (qv, .inl (lc z 5, (m, .inl (d 206))))] ++ RS) := by
    rw [lB_wl, lX_wl, lWX_cg hd, h4]
  exact h ls H locs _ hl ⟨⟨_, ⟨m, qv, d 206, d 205 2, rfl, h1, h2, h3, h5, h6⟩, rfl⟩, by rw [← hw]; exact hP, by rw [← hw]; exact hD⟩ hS
theorem lOK_B (hC : aOK f (lX z RS ba) cc nL own) (qv m : Nat) : aOK f (lB z RS ba qv m) cc nL own :=
  ⟨hC.1, hC.2.1, hC.2.2.1, hC.2.2.2.1, hC.2.2.2.2.1, hC.2.2.2.2.2.1, hC.2.2.2.2.2.2.1, hC.2.2.2.2.2.2.2.1, hC.2.2.2.2.2.2.2.2.1, hC.2.2.2.2.2.2.2.2.2.1, lEn_cl (z := z) rfl rfl⟩
theorem oB_sb : aOb (lB z RS ba qv m) 205 1 (fun f => [.ref qv, .int 0, .int (f 2), .int (f 3)]) := ⟨by show 205 < 207; decide, fun d => by show shB z qv m 205 d = _; unfold shB; rw [if_neg (by decide), if_pos rfl]⟩
theorem oB_by (ht : z.2.1.map Prod.snd = tyX) : aAr (lB z RS ba qv m) 206 5 m .byte := ⟨by show 206 < 207; decide, fun d => by show shB z qv m 206 d = _; unfold shB; rw [if_neg (by decide), if_neg (by decide)]; rfl, gc_at ht rfl⟩
theorem sb_value (hC : aOK f (lB z RS ba qv m) cc nL RJ5) (dg : decode cc pc = .ok (.getfield 15, 3)) (kk : AW f (lB z RS ba qv m) (pc + 3) L (.ref qv :: st) (d, t) k n) : AW f (lB z RS ba qv m) pc L (.ref ba :: st) (d, t) k n :=
  a_get (q := (d, t)) hC cl_J4 oB_sb 0 (by decide) tw_288 (v := .ref qv) rfl dg kk
theorem sb_coder (hC : aOK f (lB z RS ba qv m) cc nL RJ5) (dg : decode cc pc = .ok (.getfield 22, 3)) (kk : AW f (lB z RS ba qv m) (pc + 3) L (.int 0 :: st) (d, t) k n) : AW f (lB z RS ba qv m) pc L (.ref ba :: st) (d, t) k n :=
  a_get (q := (d, t)) hC cl_J4 oB_sb 1 (by decide) tw_289 (v := .int 0) rfl dg kk
theorem sb_count (hC : aOK f (lB z RS ba qv m) cc nL RJ5) (dg : decode cc pc = .ok (.getfield 79, 3)) (kk : AW f (lB z RS ba qv m) (pc + 3) L (.int (d 205 3) :: st) (d, t) k n) : AW f (lB z RS ba qv m) pc L (.ref ba :: st) (d, t) k n :=
  a_get (q := (d, t)) hC cl_J4 oB_sb 3 (by decide) tw_292 (v := .int (d 205 3)) rfl dg kk
theorem sb_putCount (hC : aOK f (lB z RS ba qv m) cc nL RJ5) {x : Int32} (dg : decode cc pc = .ok (.putfield 79, 3)) (kk : AW f (lB z RS ba qv m) (pc + 3) L st (up2 d 205 3 x, t) k n) : AW f (lB z RS ba qv m) pc L (.int x :: .ref ba :: st) (d, t) k n :=
  a_put (q := (d, t)) hC cl_J4 oB_sb 3 (by decide) tw_292 tyJ4 tyJ4_ok rfl rfl rfl (Nat.le_of_ble_eq_true rfl) rfl dg kk
theorem sb_putMay (hC : aOK f (lB z RS ba qv m) cc nL RJ5) (dg : decode cc pc = .ok (.putfield 73, 3)) (kk : AW f (lB z RS ba qv m) (pc + 3) L st (up2 d 205 2 1, t) k n) : AW f (lB z RS ba qv m) pc L (.int 1 :: .ref ba :: st) (d, t) k n :=
  a_put (q := (d, t)) hC cl_J4 oB_sb 2 (by decide) tw_290 tyJ4 tyJ4_ok rfl rfl rfl (Nat.le_of_ble_eq_true rfl) rfl dg kk
theorem sb_len (ht : z.2.1.map Prod.snd = tyX) (hC : aOK f (lB z RS ba qv m) cc nL own) (dg : decode cc pc = .ok (.arraylength, 1)) (kk : AW f (lB z RS ba qv m) (pc + 1) L (.int (nI m) :: st) (d, t) k n) : AW f (lB z RS ba qv m) pc L (.ref qv :: st) (d, t) k n :=
  a_alen (q := (d, t)) hC (oB_by ht) (v := nI m) rfl dg kk
theorem sb_bald (ht : z.2.1.map Prod.snd = tyX) (hC : aOK f (lB z RS ba qv m) cc nL own) {i : Int32} (hin : vp_in i m) (dg : decode cc pc = .ok (.baload, 1)) (kk : AW f (lB z RS ba qv m) (pc + 1) L (.int (d 206 i.toNatClampNeg) :: st) (d, t) k n) : AW f (lB z RS ba qv m) pc L (.int i :: .ref qv :: st) (d, t) k n := fun ls H locs ex hl hI hS =>
  va_bald hC.x hC.b hC.K hI.2.1 206 5 ((aWl_at (lB z RS ba qv m) d ex (oB_by ht).1).trans (by rw [(oB_by ht).2.1]; rfl)) (oB_by (RS := RS) (ba := ba) (qv := qv) (m := m) ht).2.2 hin dg (kk ls H locs ex hl hI hS)
theorem sb_bast (ht : z.2.1.map Prod.snd = tyX) (hC : aOK f (lB z RS ba qv m) cc nL own) {i x : Int32} (hin : vp_in i m) (dg : decode cc pc = .ok (.bastore, 1)) (kk : AW f (lB z RS ba qv m) (pc + 1) L st (up2 d 206 i.toNatClampNeg (vp_nar .byte x), t) k n) : AW f (lB z RS ba qv m) pc L (.int x :: .int i :: .ref qv :: st) (d, t) k n := fun ls H locs ex hl hI hS =>
  va_bast hC.x hC.b hC.K hI.2.1 hI.2.2 hS 206 5 ((aWl_at (lB z RS ba qv m) d ex (oB_by ht).1).trans (by rw [(oB_by ht).2.1]; rfl)) (oB_by (RS := RS) (ba := ba) (qv := qv) (m := m) ht).2.2 hin dg (fun H1 locs1 hP hD hS1 => by
    have e := aWl_set (lB z RS ba qv m) d ex (oB_by (RS := RS) (ba := ba) (qv := qv) (m := m) ht).1 (upd (d 206) i.toNatClampNeg (vp_nar .byte x))
    rw [(oB_by ht).2.1] at e
    exact kk ls H1 locs1 ex hl ⟨hI.1, e ▸ hP, e ▸ hD⟩ hS1)
end SB0

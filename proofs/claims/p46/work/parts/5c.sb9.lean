/-! the StringBuilder: the class appends, asks her length and a letter -/
section SBE
variable {f : aF} {g : aG} {z : lP} {cc : ByteArray} {nL : Nat} {own : String} {pc : Nat} {L : List (Option Value)} {rest : List Value} {q : aS} {RS : va_W} {ba : Nat} {k n : Nat}
theorem a_sbAppI (hg : g = lX z RS ba) (ht : z.2.1.map Prod.snd = tyX) (hC : aOK f g cc nL own) {N mcR msR : Nat} (hR : f_R f = aR N mcR msR) {idx : Nat} (hwl : Cond.methodLink own idx yJ4_append_bf812 ∈ lw_tbl) {x : Int32} {w : Nat} (hx : x = nI w) (hw : w < 100) (h60 : q.2.length + dgn w ≤ 60) (hfit : aFit 2 5 1 120 k n N mcR msR) (dg : decode cc pc = .ok (.invokevirtual idx, 3)) (hL : L.length = nL) (hrest : (rest.map fun v => v.category).sum ≤ 8)
    (kk : AW f g (pc + 3) L (.ref ba :: rest) (q.1, q.2 ++ dgs w) (k + 1) (n + 120)) : AW f g pc L (.int x :: .ref ba :: rest) q k n := by
  subst hx
  intro ls H locs ex hl hI hS
  have hM : aMq (f_l f) g yJ4_append_bf812 (aWs yJ4_append_bf812 cJ4_append_bf812 2 (some (.object "java/lang/StringBuilder"))) 5 1 120 [.ref ba, .int (nI w)] q (fun r u => r = some ba ∧ u = (q.1, q.2 ++ dgs w)) := by
    subst hg
    exact t4_appendI (dX := q.1) (t := q.2) hC.tr ht hw h60 ⟨rfl, rfl⟩
  refine va_callq (sb_runM (As := [.int (nI w)]) hg hC hR vm_J4_append_bf812 hwl hfit dg hM rfl hL hrest hl hI hS) hS (fun _ _ h => h) (fun _ h => h) (fun r u t H1 locs1 ht hvm hp1 hB hz hk1 hS1 => ?_)
  obtain ⟨ex', hI'⟩ := hB
  obtain ⟨rfl, rfl⟩ := hp1
  rw [ht] at hI'
  exact kk ls H1 locs1 ex' hl hI' hS1
theorem a_sbAppC (hg : g = lX z RS ba) (ht : z.2.1.map Prod.snd = tyX) (hC : aOK f g cc nL own) {N mcR msR : Nat} (hR : f_R f = aR N mcR msR) {idx : Nat} (hwl : Cond.methodLink own idx yJ4_append_cf468 ∈ lw_tbl) {x : Int32} (c : Nat) (hx : x = nI c) (hc : c < 128) (h60 : q.2.length + 1 ≤ 60) (hfit : aFit 2 5 1 120 k n N mcR msR) (dg : decode cc pc = .ok (.invokevirtual idx, 3)) (hL : L.length = nL) (hrest : (rest.map fun v => v.category).sum ≤ 8)
    (kk : AW f g (pc + 3) L (.ref ba :: rest) (q.1, q.2 ++ [c]) (k + 1) (n + 120)) : AW f g pc L (.int x :: .ref ba :: rest) q k n := by
  subst hx
  intro ls H locs ex hl hI hS
  have hM : aMq (f_l f) g yJ4_append_cf468 (aWs yJ4_append_cf468 cJ4_append_cf468 2 (some (.object "java/lang/StringBuilder"))) 5 1 120 [.ref ba, .int (nI c)] q (fun r u => r = some ba ∧ u = (q.1, q.2 ++ [c])) := by
    subst hg
    exact t4_appendC (dX := q.1) (t := q.2) hC.tr ht hc h60 ⟨rfl, rfl⟩
  refine va_callq (sb_runM (As := [.int (nI c)]) hg hC hR vm_J4_append_cf468 hwl hfit dg hM rfl hL hrest hl hI hS) hS (fun _ _ h => h) (fun _ h => h) (fun r u t H1 locs1 ht hvm hp1 hB hz hk1 hS1 => ?_)
  obtain ⟨ex', hI'⟩ := hB
  obtain ⟨rfl, rfl⟩ := hp1
  rw [ht] at hI'
  exact kk ls H1 locs1 ex' hl hI' hS1
theorem a_sbSet0 (hg : g = lX z RS ba) (ht : z.2.1.map Prod.snd = tyX) (hC : aOK f g cc nL own) {N mcR msR : Nat} (hR : f_R f = aR N mcR msR) {idx : Nat} (hwl : Cond.methodLink own idx yJ4_setLength_d00df ∈ lw_tbl) (hfit : aFit 2 5 1 120 k n N mcR msR) (dg : decode cc pc = .ok (.invokevirtual idx, 3)) (hL : L.length = nL) (hrest : (rest.map fun v => v.category).sum ≤ 8)
    (kk : AW f g (pc + 3) L rest (q.1, []) (k + 1) (n + 120)) : AW f g pc L (.int 0 :: .ref ba :: rest) q k n := by
  intro ls H locs ex hl hI hS
  have hM : aMv (f_l f) g yJ4_setLength_d00df (aWs yJ4_setLength_d00df cJ4_setLength_d00df 2 none) 5 1 120 [.ref ba, .int 0] q (fun _ u => u = (q.1, [])) noX := by
    subst hg
    exact t4_setLength (dX := q.1) (t := q.2) hC.tr ht rfl
  refine vx_callv (sb_run (As := [.int 0]) hg hC hR vm_J4_setLength_d00df hwl hfit dg hM rfl hL hrest hl hI hS) hS (fun _ _ h => h) (fun _ h => h) (fun _ _ h => h) (fun E ce q9 u t H1 locs1 ht hvm _ hB => hB.1.elim) (fun u t H1 locs1 ht hvm hp1 hB hz hk1 hS1 => ?_)
  obtain ⟨ex', hI'⟩ := hB
  have hp1 : u = (q.1, []) := hp1
  subst hp1
  rw [ht] at hI'
  exact kk ls H1 locs1 ex' hl hI' hS1
theorem a_sbLen (hg : g = lX z RS ba) (hC : aOK f g cc nL own) {N mcR msR : Nat} (hR : f_R f = aR N mcR msR) {idx : Nat} (hwl : Cond.methodLink own idx yJ4_length_8abf5 ∈ lw_tbl) (hfit : aFit 1 1 0 0 k n N mcR msR) (dg : decode cc pc = .ok (.invokevirtual idx, 3)) (hL : L.length = nL) (hrest : (rest.map fun v => v.category).sum ≤ 8)
    (kk : AW f g (pc + 3) L (.int (nI q.2.length) :: rest) q k n) : AW f g pc L (.ref ba :: rest) q k n := by
  intro ls H locs ex hl hI hS
  have hM : aMi (f_l f) g yJ4_length_8abf5 (aWs yJ4_length_8abf5 cJ4_length_8abf5 1 (some .int)) 1 0 0 [.ref ba] q (fun r u => r = nI q.2.length ∧ u = q) noX := by
    subst hg
    exact t4_length (dX := q.1) (t := q.2) hC.tr ⟨rfl, rfl⟩
  refine vx_calli (sb_run (As := []) hg hC hR vm_J4_length_8abf5 hwl hfit dg hM rfl hL hrest hl hI hS) hS (fun _ _ h => h) (fun _ h => h) (fun _ _ h => h) (fun E ce q9 u t H1 locs1 ht hvm _ hB => hB.1.elim) (fun r u t H1 locs1 ht hvm hp1 hB hz hk1 hS1 => ?_)
  obtain ⟨ex', hI'⟩ := hB
  obtain ⟨rfl, rfl⟩ := hp1
  rw [ht] at hI'
  exact kk ls H1 locs1 ex' hl hI' hS1
theorem a_sbChar (hg : g = lX z RS ba) (ht : z.2.1.map Prod.snd = tyX) (hC : aOK f g cc nL own) {N mcR msR : Nat} (hR : f_R f = aR N mcR msR) {idx : Nat} (hwl : Cond.methodLink own idx yJ4_charAt_5068e ∈ lw_tbl) {x : Int32} {j : Nat} (hx : x = nI j) (hj : j < q.2.length) (hc : q.2.getD j 0 < 128) (hfit : aFit 2 3 0 0 k n N mcR msR) (dg : decode cc pc = .ok (.invokevirtual idx, 3)) (hL : L.length = nL) (hrest : (rest.map fun v => v.category).sum ≤ 8)
    (kk : AW f g (pc + 3) L (.int (nI (q.2.getD j 0)) :: rest) q k n) : AW f g pc L (.int x :: .ref ba :: rest) q k n := by
  subst hx
  intro ls H locs ex hl hI hS
  have hM : aMi (f_l f) g yJ4_charAt_5068e (aWs yJ4_charAt_5068e cJ4_charAt_5068e 2 (some .char)) 3 0 0 [.ref ba, .int (nI j)] q (fun r u => r = nI (q.2.getD j 0) ∧ u = q) noX := by
    subst hg
    exact t4_charAt (dX := q.1) (t := q.2) hC.tr ht hj hc ⟨rfl, rfl⟩
  refine vx_calli (sb_run (As := [.int (nI j)]) hg hC hR vm_J4_charAt_5068e hwl hfit dg hM rfl hL hrest hl hI hS) hS (fun _ _ h => h) (fun _ h => h) (fun _ _ h => h) (fun E ce q9 u t H1 locs1 ht hvm _ hB => hB.1.elim) (fun r u t H1 locs1 ht hvm hp1 hB hz hk1 hS1 => ?_)
  obtain ⟨ex', hI'⟩ := hB
  obtain ⟨rfl, rfl⟩ := hp1
  rw [ht] at hI'
  exact kk ls H1 locs1 ex' hl hI' hS1
end SBE

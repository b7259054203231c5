/-! the law's cases 33 to 36 -/
def ob_33 (v : Nat → Int64) (vd : Nat → UInt64) (p1 p2 p3 : Int32) (q qm : aS) (K : aS → aS → Prop) : Prop := w_X9_tellRoom p1 q (fun r q2 => lPo (w_X10_tellRoom p1 qm) K 0 (vp_updL v 0 (r.toInt64), vd, q2)) (fun E q2 => (E = "java/lang/IndexOutOfBoundsException" ∧ lPo (w_X10_tellRoom p1 qm) K 1 (v, vd, q2)))
set_option maxRecDepth 20000 in
theorem lc_33 {f : aF} {z : lP} {sa N : Nat} {xs : Nat → Int32} (hO : lawOK f z sa N xs) {i : Int32} (hi1 : vp_in (i + 1) N) (hi2 : vp_in (i + 2) N) (hi3 : vp_in (i + 3) N) {dX dM : Nat → Nat → Int32} {t : List Nat} {v : Nat → Int64} {vd : Nat → UInt64} {k n : Nat} {K : aS → aS → Prop} (hk : k + 40 ≤ 603072) (hn : n + 5000 ≤ 7202922)
    (h : ob_33 v vd (xs (i + 1).toNatClampNeg) (xs (i + 2).toNatClampNeg) (xs (i + 3).toNatClampNeg) (dX, t) (dM, []) K) (kk : ∀ (v1 : Nat → Int64) (vd1 : Nat → UInt64) (q2 qm : aS), K q2 qm → AW f (lX z qm.1 v1 vd1) 2663 (lawL z sa i) [] q2 (k + 40) (n + 5000)) : AW f (lX z dM v vd) 2151 (lawL z sa i) [] (dX, t) k n := by
  have hX : isX (lX z dM v vd) := lX_is hO.1 dM v vd
  have hl := (hO.C dM v vd).tr
  unfold ob_33 at h
  refine a_aload_n (pc := 2151) (hO.C _ _ _) dL_law_2151 rfl ?_
  refine a_scr (pc := 2152) (j := 1) hO rfl rfl rfl hi1 dL_law_2152 dL_law_2153 dL_law_2155 dL_law_2156 dL_law_2157 ?_
  refine a_aload_n (pc := 2158) (hO.C _ _ _) dL_law_2158 rfl ?_
  refine l_helper (pc := 2159) hO sw_L_tellRoom tw_1127 ⟨(Nat.le_of_ble_eq_true rfl), (Nat.le_of_ble_eq_true rfl), by omega, by omega⟩ dL_law_2159 (t_L_tellRoom hO.1 hl dM v vd _ (dX, t) (lPo (w_X10_tellRoom (xs (i + 1).toNatClampNeg) (dM, [])) K) h) rfl rfl rfl (Nat.le_of_ble_eq_true rfl) (fun r u h => ?_)
  obtain ⟨v1, vd1, dX1, t1⟩ := u
  refine a_istore (pc := 2162) (hO.C _ _ _) dL_law_2162 (Nat.le_of_ble_eq_true rfl) ?_
  refine a_aload_n (pc := 2164) (hO.C _ _ _) dL_law_2164 rfl ?_
  refine a_scr (pc := 2165) (j := 1) hO rfl rfl rfl hi1 dL_law_2165 dL_law_2166 dL_law_2168 dL_law_2169 dL_law_2170 ?_
  refine l_model (pc := 2171) hO vm_X10_tellRoom tw_1856 ⟨(Nat.le_of_ble_eq_true rfl), (Nat.le_of_ble_eq_true rfl), by omega, by omega⟩ dL_law_2171 (t_X10_tellRoom (lM_is hO.1 _ _ _ _) hl _ _ _ h) rfl rfl rfl (Nat.le_of_ble_eq_true rfl) (fun b qm h => ?_)
  obtain ⟨dM1, tm⟩ := qm
  refine a_istore (pc := 2174) (hO.C _ _ _) dL_law_2174 (Nat.le_of_ble_eq_true rfl) ?_
  refine a_aload_n (pc := 2176) (hO.C _ _ _) dL_law_2176 rfl ?_
  refine l_model (pc := 2177) hO vm_X10_thrown tw_1574 ⟨(Nat.le_of_ble_eq_true rfl), (Nat.le_of_ble_eq_true rfl), by omega, by omega⟩ dL_law_2177 (t_X10_thrown (lM_is hO.1 _ _ _ _) hl _ _ h) rfl rfl rfl (Nat.le_of_ble_eq_true rfl) (fun th qm h => ?_)
  obtain ⟨dM2, tm2⟩ := qm
  obtain ⟨he, hv, h⟩ := h
  refine l_chk (pc := 2180) (hO.C _ _ _) he rfl dL_law_2180 dL_law_2182 ?_
  exact l_fin (pc := 2187) hO rfl rfl rfl hv dL_law_2187 dL_law_2189 dL_law_2192 dL_law_2193 dL_law_2194 dL_law_2195 dL_law_2197 dL_law_2198 dL_law_2199 dL_law_2204 (by decide) (((kk _ _ _ _ h).forget (lawL_sub _ _ _ _ _ _)).widen (by omega) (by omega))
def ob_34 (v : Nat → Int64) (vd : Nat → UInt64) (p1 p2 p3 : Int32) (q qm : aS) (K : aS → aS → Prop) : Prop := w_X9_tellEcho p1 q (fun r q2 => lPo (w_X10_tellEcho p1 qm) K 0 (vp_updL v 0 (r.toInt64), vd, q2)) (fun E q2 => (E = "java/lang/IndexOutOfBoundsException" ∧ lPo (w_X10_tellEcho p1 qm) K 1 (v, vd, q2)))
set_option maxRecDepth 20000 in
theorem lc_34 {f : aF} {z : lP} {sa N : Nat} {xs : Nat → Int32} (hO : lawOK f z sa N xs) {i : Int32} (hi1 : vp_in (i + 1) N) (hi2 : vp_in (i + 2) N) (hi3 : vp_in (i + 3) N) {dX dM : Nat → Nat → Int32} {t : List Nat} {v : Nat → Int64} {vd : Nat → UInt64} {k n : Nat} {K : aS → aS → Prop} (hk : k + 40 ≤ 603072) (hn : n + 5000 ≤ 7202922)
    (h : ob_34 v vd (xs (i + 1).toNatClampNeg) (xs (i + 2).toNatClampNeg) (xs (i + 3).toNatClampNeg) (dX, t) (dM, []) K) (kk : ∀ (v1 : Nat → Int64) (vd1 : Nat → UInt64) (q2 qm : aS), K q2 qm → AW f (lX z qm.1 v1 vd1) 2663 (lawL z sa i) [] q2 (k + 40) (n + 5000)) : AW f (lX z dM v vd) 2207 (lawL z sa i) [] (dX, t) k n := by
  have hX : isX (lX z dM v vd) := lX_is hO.1 dM v vd
  have hl := (hO.C dM v vd).tr
  unfold ob_34 at h
  refine a_aload_n (pc := 2207) (hO.C _ _ _) dL_law_2207 rfl ?_
  refine a_scr (pc := 2208) (j := 1) hO rfl rfl rfl hi1 dL_law_2208 dL_law_2209 dL_law_2211 dL_law_2212 dL_law_2213 ?_
  refine a_aload_n (pc := 2214) (hO.C _ _ _) dL_law_2214 rfl ?_
  refine l_helper (pc := 2215) hO sw_L_tellEcho tw_1386 ⟨(Nat.le_of_ble_eq_true rfl), (Nat.le_of_ble_eq_true rfl), by omega, by omega⟩ dL_law_2215 (t_L_tellEcho hO.1 hl dM v vd _ (dX, t) (lPo (w_X10_tellEcho (xs (i + 1).toNatClampNeg) (dM, [])) K) h) rfl rfl rfl (Nat.le_of_ble_eq_true rfl) (fun r u h => ?_)
  obtain ⟨v1, vd1, dX1, t1⟩ := u
  refine a_istore (pc := 2218) (hO.C _ _ _) dL_law_2218 (Nat.le_of_ble_eq_true rfl) ?_
  refine a_aload_n (pc := 2220) (hO.C _ _ _) dL_law_2220 rfl ?_
  refine a_scr (pc := 2221) (j := 1) hO rfl rfl rfl hi1 dL_law_2221 dL_law_2222 dL_law_2224 dL_law_2225 dL_law_2226 ?_
  refine l_model (pc := 2227) hO vm_X10_tellEcho tw_1868 ⟨(Nat.le_of_ble_eq_true rfl), (Nat.le_of_ble_eq_true rfl), by omega, by omega⟩ dL_law_2227 (t_X10_tellEcho (lM_is hO.1 _ _ _ _) hl _ _ _ h) rfl rfl rfl (Nat.le_of_ble_eq_true rfl) (fun b qm h => ?_)
  obtain ⟨dM1, tm⟩ := qm
  refine a_istore (pc := 2230) (hO.C _ _ _) dL_law_2230 (Nat.le_of_ble_eq_true rfl) ?_
  refine a_aload_n (pc := 2232) (hO.C _ _ _) dL_law_2232 rfl ?_
  refine l_model (pc := 2233) hO vm_X10_thrown tw_1574 ⟨(Nat.le_of_ble_eq_true rfl), (Nat.le_of_ble_eq_true rfl), by omega, by omega⟩ dL_law_2233 (t_X10_thrown (lM_is hO.1 _ _ _ _) hl _ _ h) rfl rfl rfl (Nat.le_of_ble_eq_true rfl) (fun th qm h => ?_)
  obtain ⟨dM2, tm2⟩ := qm
  obtain ⟨he, hv, h⟩ := h
  refine l_chk (pc := 2236) (hO.C _ _ _) he rfl dL_law_2236 dL_law_2238 ?_
  exact l_fin (pc := 2243) hO rfl rfl rfl hv dL_law_2243 dL_law_2245 dL_law_2248 dL_law_2249 dL_law_2250 dL_law_2251 dL_law_2253 dL_law_2254 dL_law_2255 dL_law_2260 (by decide) (((kk _ _ _ _ h).forget (lawL_sub _ _ _ _ _ _)).widen (by omega) (by omega))
def ob_35 (v : Nat → Int64) (vd : Nat → UInt64) (p1 p2 p3 : Int32) (q qm : aS) (K : aS → aS → Prop) : Prop := w_X9_tellSinger p1 q (fun r q2 => lPo (w_X10_tellSinger p1 qm) K 0 (vp_updL v 0 (r.toInt64), vd, q2)) (fun E q2 => (E = "java/lang/IndexOutOfBoundsException" ∧ lPo (w_X10_tellSinger p1 qm) K 1 (v, vd, q2)))
set_option maxRecDepth 20000 in
theorem lc_35 {f : aF} {z : lP} {sa N : Nat} {xs : Nat → Int32} (hO : lawOK f z sa N xs) {i : Int32} (hi1 : vp_in (i + 1) N) (hi2 : vp_in (i + 2) N) (hi3 : vp_in (i + 3) N) {dX dM : Nat → Nat → Int32} {t : List Nat} {v : Nat → Int64} {vd : Nat → UInt64} {k n : Nat} {K : aS → aS → Prop} (hk : k + 40 ≤ 603072) (hn : n + 5000 ≤ 7202922)
    (h : ob_35 v vd (xs (i + 1).toNatClampNeg) (xs (i + 2).toNatClampNeg) (xs (i + 3).toNatClampNeg) (dX, t) (dM, []) K) (kk : ∀ (v1 : Nat → Int64) (vd1 : Nat → UInt64) (q2 qm : aS), K q2 qm → AW f (lX z qm.1 v1 vd1) 2663 (lawL z sa i) [] q2 (k + 40) (n + 5000)) : AW f (lX z dM v vd) 2263 (lawL z sa i) [] (dX, t) k n := by
  have hX : isX (lX z dM v vd) := lX_is hO.1 dM v vd
  have hl := (hO.C dM v vd).tr
  unfold ob_35 at h
  refine a_aload_n (pc := 2263) (hO.C _ _ _) dL_law_2263 rfl ?_
  refine a_scr (pc := 2264) (j := 1) hO rfl rfl rfl hi1 dL_law_2264 dL_law_2265 dL_law_2267 dL_law_2268 dL_law_2269 ?_
  refine a_aload_n (pc := 2270) (hO.C _ _ _) dL_law_2270 rfl ?_
  refine l_helper (pc := 2271) hO sw_L_tellSinger tw_1393 ⟨(Nat.le_of_ble_eq_true rfl), (Nat.le_of_ble_eq_true rfl), by omega, by omega⟩ dL_law_2271 (t_L_tellSinger hO.1 hl dM v vd _ (dX, t) (lPo (w_X10_tellSinger (xs (i + 1).toNatClampNeg) (dM, [])) K) h) rfl rfl rfl (Nat.le_of_ble_eq_true rfl) (fun r u h => ?_)
  obtain ⟨v1, vd1, dX1, t1⟩ := u
  refine a_istore (pc := 2274) (hO.C _ _ _) dL_law_2274 (Nat.le_of_ble_eq_true rfl) ?_
  refine a_aload_n (pc := 2276) (hO.C _ _ _) dL_law_2276 rfl ?_
  refine a_scr (pc := 2277) (j := 1) hO rfl rfl rfl hi1 dL_law_2277 dL_law_2278 dL_law_2280 dL_law_2281 dL_law_2282 ?_
  refine l_model (pc := 2283) hO vm_X10_tellSinger tw_1872 ⟨(Nat.le_of_ble_eq_true rfl), (Nat.le_of_ble_eq_true rfl), by omega, by omega⟩ dL_law_2283 (t_X10_tellSinger (lM_is hO.1 _ _ _ _) hl _ _ _ h) rfl rfl rfl (Nat.le_of_ble_eq_true rfl) (fun b qm h => ?_)
  obtain ⟨dM1, tm⟩ := qm
  refine a_istore (pc := 2286) (hO.C _ _ _) dL_law_2286 (Nat.le_of_ble_eq_true rfl) ?_
  refine a_aload_n (pc := 2288) (hO.C _ _ _) dL_law_2288 rfl ?_
  refine l_model (pc := 2289) hO vm_X10_thrown tw_1574 ⟨(Nat.le_of_ble_eq_true rfl), (Nat.le_of_ble_eq_true rfl), by omega, by omega⟩ dL_law_2289 (t_X10_thrown (lM_is hO.1 _ _ _ _) hl _ _ h) rfl rfl rfl (Nat.le_of_ble_eq_true rfl) (fun th qm h => ?_)
  obtain ⟨dM2, tm2⟩ := qm
  obtain ⟨he, hv, h⟩ := h
  refine l_chk (pc := 2292) (hO.C _ _ _) he rfl dL_law_2292 dL_law_2294 ?_
  exact l_fin (pc := 2299) hO rfl rfl rfl hv dL_law_2299 dL_law_2301 dL_law_2304 dL_law_2305 dL_law_2306 dL_law_2307 dL_law_2309 dL_law_2310 dL_law_2311 dL_law_2316 (by decide) (((kk _ _ _ _ h).forget (lawL_sub _ _ _ _ _ _)).widen (by omega) (by omega))
def ob_36 (v : Nat → Int64) (vd : Nat → UInt64) (p1 p2 p3 : Int32) (q qm : aS) (K : aS → aS → Prop) : Prop := w_X9_character p1 q (fun r q2 => lPo (w_X10_character p1 qm) K 0 (vp_updL v 0 (r.toInt64), vd, q2)) (fun E q2 => (E = "java/lang/IndexOutOfBoundsException" ∧ lPo (w_X10_character p1 qm) K 1 (v, vd, q2)))
set_option maxRecDepth 20000 in
theorem lc_36 {f : aF} {z : lP} {sa N : Nat} {xs : Nat → Int32} (hO : lawOK f z sa N xs) {i : Int32} (hi1 : vp_in (i + 1) N) (hi2 : vp_in (i + 2) N) (hi3 : vp_in (i + 3) N) {dX dM : Nat → Nat → Int32} {t : List Nat} {v : Nat → Int64} {vd : Nat → UInt64} {k n : Nat} {K : aS → aS → Prop} (hk : k + 40 ≤ 603072) (hn : n + 5000 ≤ 7202922)
    (h : ob_36 v vd (xs (i + 1).toNatClampNeg) (xs (i + 2).toNatClampNeg) (xs (i + 3).toNatClampNeg) (dX, t) (dM, []) K) (kk : ∀ (v1 : Nat → Int64) (vd1 : Nat → UInt64) (q2 qm : aS), K q2 qm → AW f (lX z qm.1 v1 vd1) 2663 (lawL z sa i) [] q2 (k + 40) (n + 5000)) : AW f (lX z dM v vd) 2319 (lawL z sa i) [] (dX, t) k n := by
  have hX : isX (lX z dM v vd) := lX_is hO.1 dM v vd
  have hl := (hO.C dM v vd).tr
  unfold ob_36 at h
  refine a_aload_n (pc := 2319) (hO.C _ _ _) dL_law_2319 rfl ?_
  refine a_scr (pc := 2320) (j := 1) hO rfl rfl rfl hi1 dL_law_2320 dL_law_2321 dL_law_2323 dL_law_2324 dL_law_2325 ?_
  refine a_aload_n (pc := 2326) (hO.C _ _ _) dL_law_2326 rfl ?_
  refine l_helper (pc := 2327) hO sw_L_character tw_1400 ⟨(Nat.le_of_ble_eq_true rfl), (Nat.le_of_ble_eq_true rfl), by omega, by omega⟩ dL_law_2327 (t_L_character hO.1 hl dM v vd _ (dX, t) (lPo (w_X10_character (xs (i + 1).toNatClampNeg) (dM, [])) K) h) rfl rfl rfl (Nat.le_of_ble_eq_true rfl) (fun r u h => ?_)
  obtain ⟨v1, vd1, dX1, t1⟩ := u
  refine a_istore (pc := 2330) (hO.C _ _ _) dL_law_2330 (Nat.le_of_ble_eq_true rfl) ?_
  refine a_aload_n (pc := 2332) (hO.C _ _ _) dL_law_2332 rfl ?_
  refine a_scr (pc := 2333) (j := 1) hO rfl rfl rfl hi1 dL_law_2333 dL_law_2334 dL_law_2336 dL_law_2337 dL_law_2338 ?_
  refine l_model (pc := 2339) hO vm_X10_character tw_1876 ⟨(Nat.le_of_ble_eq_true rfl), (Nat.le_of_ble_eq_true rfl), by omega, by omega⟩ dL_law_2339 (t_X10_character (lM_is hO.1 _ _ _ _) hl _ _ _ h) rfl rfl rfl (Nat.le_of_ble_eq_true rfl) (fun b qm h => ?_)
  obtain ⟨dM1, tm⟩ := qm
  refine a_istore (pc := 2342) (hO.C _ _ _) dL_law_2342 (Nat.le_of_ble_eq_true rfl) ?_
  refine a_aload_n (pc := 2344) (hO.C _ _ _) dL_law_2344 rfl ?_
  refine l_model (pc := 2345) hO vm_X10_thrown tw_1574 ⟨(Nat.le_of_ble_eq_true rfl), (Nat.le_of_ble_eq_true rfl), by omega, by omega⟩ dL_law_2345 (t_X10_thrown (lM_is hO.1 _ _ _ _) hl _ _ h) rfl rfl rfl (Nat.le_of_ble_eq_true rfl) (fun th qm h => ?_)
  obtain ⟨dM2, tm2⟩ := qm
  obtain ⟨he, hv, h⟩ := h
  refine l_chk (pc := 2348) (hO.C _ _ _) he rfl dL_law_2348 dL_law_2350 ?_
  exact l_fin (pc := 2355) hO rfl rfl rfl hv dL_law_2355 dL_law_2357 dL_law_2360 dL_law_2361 dL_law_2362 dL_law_2363 dL_law_2365 dL_law_2366 dL_law_2367 dL_law_2372 (by decide) (((kk _ _ _ _ h).forget (lawL_sub _ _ _ _ _ _)).widen (by omega) (by omega))

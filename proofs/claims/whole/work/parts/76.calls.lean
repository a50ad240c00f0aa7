set_option maxHeartbeats 4000000 in
set_option maxRecDepth 100000 in
theorem lw_play {p : Program} {l : Launch} {e : Env} {s : State} {m : MethodId} {below : List Frame} {meth : Method} {c : Code} {b L : Nat} {xs : Nat → Int32} {D : va_G} {cI : ClassId} {sa va : Nat} {h g : Nat → Nat} (C0 : lw_At p s m meth c b L xs) (hZ : zK D cI s) (hT : zS sa va (fun q : Nat => s.heap.size ≤ q) s s.heap) {i : Nat} (hL : L ≤ 256) (hi4 : 4 * i + 4 ≤ L) {H : Heap} {locs : List Loc} (Wd : zWd D cI h g (fun q : Nat => s.heap.size ≤ q) i H) (hS : va_S (fun q : Nat => s.heap.size ≤ q) s.heap H locs) {ls : Array Slot} (hl : lv_has ls 4 [(3, .int (nI (4 * i))), (2, .ref (g 0)), (1, .ref (h 0)), (0, .ref b)]) (K : ∀ (H1 : Heap) (locs1 : List Loc), zWd D cI h g (fun q : Nat => s.heap.size ≤ q) (i + 1) H1 → va_S (fun q : Nat => s.heap.size ≤ q) s.heap H1 locs1 → W p l e room_1 s m #[Value.ref b] below meth c H1 locs1 44 294 (lw_Z below #[Value.ref b] s) (F0 m 550 ls [])) : W p l e room_1 s m #[Value.ref b] below meth c H locs 44 294 (lw_Z below #[Value.ref b] s) (F0 m 279 ls []) := by
  obtain ⟨hx, hb, hr, hml, hown, hts0, hX, hbl, hlocks, hgv⟩ := C0
  have hts : ∀ w ∈ wsL_law, w.before #[Value.ref b] s = true := fun w hw => hts0 w (wsL_law_in w hw)
  have hA : ∀ q : Nat, s.heap.size ≤ q → (fun q : Nat => s.heap.size ≤ q) q := fun _ h => h
  have hbA : ¬ (fun q : Nat => s.heap.size ≤ q) b := Nat.not_le.mpr hbl
  obtain ⟨len, cd, n, ks, gs, wt, mi, pl, sk, he, nh, ru, bg, la, sd, pl2, sk2, he2, nh2, ru2, bg2, la2, sd2, u0, l0, u1, l1, u2, l2, wy, fi, fl, nu, ik, pr, rm, rr, st, ry, xu, xl, sn, kp, kr, kb, kl, kw, kh, hc, pg, rd, rw, ro, be, hm, kro, khe, X, hPA, hPB, hD⟩ := Wd
  have hi : i ≤ 64 := by omega
  have hx1 := lw_in1 hi4 hL
  refine lv_aload_n hx hb dL_law_279 rfl (lv_at hl 2 rfl) ?_
  refine lv_aload_n hx hb dL_law_280 rfl (lv_at hl 3 rfl) ?_
  refine lv_iload_n hx hb dL_law_281 rfl (lv_at hl 0 rfl) ?_
  refine lv_iconst (v := 1) hx hb dL_law_282 (by decide) ?_
  refine lv_iadd hx hb dL_law_283 ?_
  refine va_sld hx hb hX hbl hbA hS hx1 dL_law_284 ?_
  have hF1 : ∀ q, va_A (zSA cI h len cd n ks gs wt mi pl sk he nh ru bg la sd pl2 sk2 he2 nh2 ru2 bg2 la2 sd2 u0 l0 u1 l1 u2 l2 wy fi fl nu ik pr) H.size q → (fun q : Nat => s.heap.size ≤ q) q := vz_freeAll (zDl hD) hS hA
  refine va_calli (va_runV (As := [.int (xs (nI (4 * i) + 1).toNatClampNeg)]) (rest := []) ⟨hx, hb, hml, hown, hts⟩ (c_X6_play l D cI h len cd n ks gs wt mi pl sk he nh ru bg la sd pl2 sk2 he2 nh2 ru2 bg2 la2 sd2 u0 l0 u1 l1 u2 l2 wy fi fl nu ik pr H.size (xs (nI (4 * i) + 1).toNatClampNeg) X.2.1.n6) (cwV 1 hts gL_law_X6_play rfl rfl rfl (by decide +kernel) ⟨Nat.le_of_ble_eq_true rfl, Nat.le_of_ble_eq_true rfl⟩) (vz_pvW (va_recv hZ.1 hPA (ci := 6) (q0 := 0) rfl rfl) hZ hPA (zDl hD)) rfl rfl hl.1 rfl (lv_room (Nat.le_of_ble_eq_true rfl)) dL_law_285 ⟨Nat.le_of_ble_eq_true rfl, Nat.le_of_ble_eq_true rfl⟩) hS (fun q _ h => hF1 q h) hF1 (fun r1 u1_ t1 H1 locs1 ht hvm hw1 hB hz1 hk1 hS9 => ?_)
  rw [ht] at hB
  replace hPB : va_P D vwCl (zM cI g len rm rr st n ru bg la sd pr ry nh xu xl sn kp kr kb kl kw kh hc pg rd rw ro be hm kro khe) H1 := zkeepR hD hPB hk1
  replace hPA : va_P D vwCl (zSA cI h len cd n ks gs wt mi (pl_n (pl_ok n ks gs ru bg la (xs (nI (4 * i) + 1).toNatClampNeg)) (rw_inc 6 pl (xs (nI (4 * i) + 1).toNatClampNeg)) pl) sk he nh ru (pl_n (pl_ok n ks gs ru bg la (xs (nI (4 * i) + 1).toNatClampNeg)) (bk_bag n bg (xs (nI (4 * i) + 1).toNatClampNeg)) bg) (pl_n (pl_ok n ks gs ru bg la (xs (nI (4 * i) + 1).toNatClampNeg)) (xs (nI (4 * i) + 1).toNatClampNeg) la) (pl_n (pl_ok n ks gs ru bg la (xs (nI (4 * i) + 1).toNatClampNeg)) false sd) pl2 sk2 he2 nh2 ru2 bg2 la2 sd2 u0 l0 u1 l1 u2 l2 wy fi fl nu ik pr) H1 := hB
  replace hD : va_D (fun q : Nat => s.heap.size ≤ q) (zSA cI h len cd n ks gs wt mi (pl_n (pl_ok n ks gs ru bg la (xs (nI (4 * i) + 1).toNatClampNeg)) (rw_inc 6 pl (xs (nI (4 * i) + 1).toNatClampNeg)) pl) sk he nh ru (pl_n (pl_ok n ks gs ru bg la (xs (nI (4 * i) + 1).toNatClampNeg)) (bk_bag n bg (xs (nI (4 * i) + 1).toNatClampNeg)) bg) (pl_n (pl_ok n ks gs ru bg la (xs (nI (4 * i) + 1).toNatClampNeg)) (xs (nI (4 * i) + 1).toNatClampNeg) la) (pl_n (pl_ok n ks gs ru bg la (xs (nI (4 * i) + 1).toNatClampNeg)) false sd) pl2 sk2 he2 nh2 ru2 bg2 la2 sd2 u0 l0 u1 l1 u2 l2 wy fi fl nu ik pr ++ zM cI g len rm rr st n ru bg la sd pr ry nh xu xl sn kp kr kb kl kw kh hc pg rd rw ro be hm kro khe) := vz_same hD rfl
  replace hS := hS9
  clear hS9 hB hk1 hz1 ht hvm hF1
  refine lv_aload_n hx hb dL_law_288 rfl (lv_at hl 1 rfl) ?_
  refine lv_aload_n hx hb dL_law_289 rfl (lv_at hl 3 rfl) ?_
  refine lv_iload_n hx hb dL_law_290 rfl (lv_at hl 0 rfl) ?_
  refine lv_iconst (v := 1) hx hb dL_law_291 (by decide) ?_
  refine lv_iadd hx hb dL_law_292 ?_
  refine va_sld hx hb hX hbl hbA hS hx1 dL_law_293 ?_
  have hF2 : ∀ q, va_A (zM cI g len rm rr st n ru bg la sd pr ry nh xu xl sn kp kr kb kl kw kh hc pg rd rw ro be hm kro khe) H1.size q → (fun q : Nat => s.heap.size ≤ q) q := vz_freeAll (zDr hD) hS hA
  refine va_calli (va_runV (As := [.int (xs (nI (4 * i) + 1).toNatClampNeg)]) (rest := [.int r1]) ⟨hx, hb, hml, hown, hts⟩ (c_X7_play l D cI g len rm rr st n ru bg la sd pr ry nh xu xl sn kp kr kb kl kw kh hc pg rd rw ro be hm kro khe H1.size (xs (nI (4 * i) + 1).toNatClampNeg) X.2.1.n6 X.2.2.1.2.2) (cwV 1 hts gL_law_X7_play rfl rfl rfl (by decide +kernel) ⟨Nat.le_of_ble_eq_true rfl, Nat.le_of_ble_eq_true rfl⟩) (vz_pvW (va_recv hZ.1 hPB (ci := 7) (q0 := 0) rfl rfl) hZ hPB (zDr hD)) rfl rfl hl.1 rfl (lv_room (Nat.le_of_ble_eq_true rfl)) dL_law_294 ⟨Nat.le_of_ble_eq_true rfl, Nat.le_of_ble_eq_true rfl⟩) hS (fun q _ h => hF2 q h) hF2 (fun r2 u2_ t2 H2 locs2 ht hvm hw2 hB hz1 hk1 hS9 => ?_)
  rw [ht] at hB
  replace hPA : va_P D vwCl (zSA cI h len cd n ks gs wt mi (pl_n (pl_ok n ks gs ru bg la (xs (nI (4 * i) + 1).toNatClampNeg)) (rw_inc 6 pl (xs (nI (4 * i) + 1).toNatClampNeg)) pl) sk he nh ru (pl_n (pl_ok n ks gs ru bg la (xs (nI (4 * i) + 1).toNatClampNeg)) (bk_bag n bg (xs (nI (4 * i) + 1).toNatClampNeg)) bg) (pl_n (pl_ok n ks gs ru bg la (xs (nI (4 * i) + 1).toNatClampNeg)) (xs (nI (4 * i) + 1).toNatClampNeg) la) (pl_n (pl_ok n ks gs ru bg la (xs (nI (4 * i) + 1).toNatClampNeg)) false sd) pl2 sk2 he2 nh2 ru2 bg2 la2 sd2 u0 l0 u1 l1 u2 l2 wy fi fl nu ik pr) H2 := zkeepL hD hPA hk1
  replace hPB : va_P D vwCl (zM cI g len rm rr st n ru (pl_n (mpl n rw ru bg la (xs (nI (4 * i) + 1).toNatClampNeg)) (bk_bag n bg (xs (nI (4 * i) + 1).toNatClampNeg)) bg) (pl_n (mpl n rw ru bg la (xs (nI (4 * i) + 1).toNatClampNeg)) (xs (nI (4 * i) + 1).toNatClampNeg) la) (pl_n (mpl n rw ru bg la (xs (nI (4 * i) + 1).toNatClampNeg)) false sd) pr ry nh xu xl sn kp kr kb kl kw kh hc pg rd (pl_n (mpl n rw ru bg la (xs (nI (4 * i) + 1).toNatClampNeg)) (upd rw (4 * (xs (nI (4 * i) + 1).toNatClampNeg).toNatClampNeg + 2) (rw (4 * (xs (nI (4 * i) + 1).toNatClampNeg).toNatClampNeg + 2) + 1)) rw) ro be hm kro khe) H2 := hB
  replace hD : va_D (fun q : Nat => s.heap.size ≤ q) (zSA cI h len cd n ks gs wt mi (pl_n (pl_ok n ks gs ru bg la (xs (nI (4 * i) + 1).toNatClampNeg)) (rw_inc 6 pl (xs (nI (4 * i) + 1).toNatClampNeg)) pl) sk he nh ru (pl_n (pl_ok n ks gs ru bg la (xs (nI (4 * i) + 1).toNatClampNeg)) (bk_bag n bg (xs (nI (4 * i) + 1).toNatClampNeg)) bg) (pl_n (pl_ok n ks gs ru bg la (xs (nI (4 * i) + 1).toNatClampNeg)) (xs (nI (4 * i) + 1).toNatClampNeg) la) (pl_n (pl_ok n ks gs ru bg la (xs (nI (4 * i) + 1).toNatClampNeg)) false sd) pl2 sk2 he2 nh2 ru2 bg2 la2 sd2 u0 l0 u1 l1 u2 l2 wy fi fl nu ik pr ++ zM cI g len rm rr st n ru (pl_n (mpl n rw ru bg la (xs (nI (4 * i) + 1).toNatClampNeg)) (bk_bag n bg (xs (nI (4 * i) + 1).toNatClampNeg)) bg) (pl_n (mpl n rw ru bg la (xs (nI (4 * i) + 1).toNatClampNeg)) (xs (nI (4 * i) + 1).toNatClampNeg) la) (pl_n (mpl n rw ru bg la (xs (nI (4 * i) + 1).toNatClampNeg)) false sd) pr ry nh xu xl sn kp kr kb kl kw kh hc pg rd (pl_n (mpl n rw ru bg la (xs (nI (4 * i) + 1).toNatClampNeg)) (upd rw (4 * (xs (nI (4 * i) + 1).toNatClampNeg).toNatClampNeg + 2) (rw (4 * (xs (nI (4 * i) + 1).toNatClampNeg).toNatClampNeg + 2) + 1)) rw) ro be hm kro khe) := vz_same hD rfl
  replace hS := hS9
  clear hS9 hB hk1 hz1 ht hvm hF2
  have e12 : r1 = r2 := ((show r1 = _ from hw1).trans ((X.2.1.play X.2.2.1 (xs (nI (4 * i) + 1).toNatClampNeg)).2.1)).trans (show r2 = _ from hw2).symm
  rw [← (X.2.1.play X.2.2.1 (xs (nI (4 * i) + 1).toNatClampNeg)).1] at hPB hD
  have Wd2 : zWd D cI h g (fun q : Nat => s.heap.size ≤ q) (i + 1) H2 := ⟨len, cd, n, ks, gs, wt, mi, pl_n (pl_ok n ks gs ru bg la (xs (nI (4 * i) + 1).toNatClampNeg)) (rw_inc 6 pl (xs (nI (4 * i) + 1).toNatClampNeg)) pl, sk, he, nh, ru, pl_n (pl_ok n ks gs ru bg la (xs (nI (4 * i) + 1).toNatClampNeg)) (bk_bag n bg (xs (nI (4 * i) + 1).toNatClampNeg)) bg, pl_n (pl_ok n ks gs ru bg la (xs (nI (4 * i) + 1).toNatClampNeg)) (xs (nI (4 * i) + 1).toNatClampNeg) la, pl_n (pl_ok n ks gs ru bg la (xs (nI (4 * i) + 1).toNatClampNeg)) false sd, pl2, sk2, he2, nh2, ru2, bg2, la2, sd2, u0, l0, u1, l1, u2, l2, wy, fi, fl, nu, ik, pr, rm, rr, st, ry, xu, xl, sn, kp, kr, kb, kl, kw, kh, hc, pg, rd, pl_n (pl_ok n ks gs ru bg la (xs (nI (4 * i) + 1).toNatClampNeg)) (upd rw (4 * (xs (nI (4 * i) + 1).toNatClampNeg).toNatClampNeg + 2) (rw (4 * (xs (nI (4 * i) + 1).toNatClampNeg).toNatClampNeg + 2) + 1)) rw, ro, be, hm, kro, khe, X.play (xs (nI (4 * i) + 1).toNatClampNeg), hPA, hPB, hD⟩
  refine lv_icmp_eq (tgt := 550) hx hb dL_law_297 (by decide) (fun _ => ?_) (fun c1 => absurd e12 c1)
  exact K _ _ Wd2 hS
set_option maxHeartbeats 4000000 in
set_option maxRecDepth 100000 in
theorem lw_skip {p : Program} {l : Launch} {e : Env} {s : State} {m : MethodId} {below : List Frame} {meth : Method} {c : Code} {b L : Nat} {xs : Nat → Int32} {D : va_G} {cI : ClassId} {sa va : Nat} {h g : Nat → Nat} (C0 : lw_At p s m meth c b L xs) (hZ : zK D cI s) (hT : zS sa va (fun q : Nat => s.heap.size ≤ q) s s.heap) {i : Nat} (hL : L ≤ 256) (hi4 : 4 * i + 4 ≤ L) {H : Heap} {locs : List Loc} (Wd : zWd D cI h g (fun q : Nat => s.heap.size ≤ q) i H) (hS : va_S (fun q : Nat => s.heap.size ≤ q) s.heap H locs) {ls : Array Slot} (hl : lv_has ls 4 [(3, .int (nI (4 * i))), (2, .ref (g 0)), (1, .ref (h 0)), (0, .ref b)]) (K : ∀ (H1 : Heap) (locs1 : List Loc), zWd D cI h g (fun q : Nat => s.heap.size ≤ q) (i + 1) H1 → va_S (fun q : Nat => s.heap.size ≤ q) s.heap H1 locs1 → W p l e room_1 s m #[Value.ref b] below meth c H1 locs1 44 294 (lw_Z below #[Value.ref b] s) (F0 m 550 ls [])) : W p l e room_1 s m #[Value.ref b] below meth c H locs 44 294 (lw_Z below #[Value.ref b] s) (F0 m 302 ls []) := by
  obtain ⟨hx, hb, hr, hml, hown, hts0, hX, hbl, hlocks, hgv⟩ := C0
  have hts : ∀ w ∈ wsL_law, w.before #[Value.ref b] s = true := fun w hw => hts0 w (wsL_law_in w hw)
  have hA : ∀ q : Nat, s.heap.size ≤ q → (fun q : Nat => s.heap.size ≤ q) q := fun _ h => h
  have hbA : ¬ (fun q : Nat => s.heap.size ≤ q) b := Nat.not_le.mpr hbl
  obtain ⟨len, cd, n, ks, gs, wt, mi, pl, sk, he, nh, ru, bg, la, sd, pl2, sk2, he2, nh2, ru2, bg2, la2, sd2, u0, l0, u1, l1, u2, l2, wy, fi, fl, nu, ik, pr, rm, rr, st, ry, xu, xl, sn, kp, kr, kb, kl, kw, kh, hc, pg, rd, rw, ro, be, hm, kro, khe, X, hPA, hPB, hD⟩ := Wd
  have hi : i ≤ 64 := by omega
  refine lv_aload_n hx hb dL_law_302 rfl (lv_at hl 2 rfl) ?_
  have hF1 : ∀ q, va_A (zSA cI h len cd n ks gs wt mi pl sk he nh ru bg la sd pl2 sk2 he2 nh2 ru2 bg2 la2 sd2 u0 l0 u1 l1 u2 l2 wy fi fl nu ik pr) H.size q → (fun q : Nat => s.heap.size ≤ q) q := vz_freeAll (zDl hD) hS hA
  refine va_calli (va_runV (As := []) (rest := []) ⟨hx, hb, hml, hown, hts⟩ (c_X6_skip l D cI h len cd n ks gs wt mi pl sk he nh ru bg la sd pl2 sk2 he2 nh2 ru2 bg2 la2 sd2 u0 l0 u1 l1 u2 l2 wy fi fl nu ik pr H.size) (cwV 0 hts gL_law_X6_skip rfl rfl rfl (by decide +kernel) ⟨Nat.le_of_ble_eq_true rfl, Nat.le_of_ble_eq_true rfl⟩) (vz_pvW (va_recv hZ.1 hPA (ci := 6) (q0 := 0) rfl rfl) hZ hPA (zDl hD)) rfl rfl hl.1 rfl (lv_room (Nat.le_of_ble_eq_true rfl)) dL_law_303 ⟨Nat.le_of_ble_eq_true rfl, Nat.le_of_ble_eq_true rfl⟩) hS (fun q _ h => hF1 q h) hF1 (fun r1 u1_ t1 H1 locs1 ht hvm hw1 hB hz1 hk1 hS9 => ?_)
  rw [ht] at hB
  replace hPB : va_P D vwCl (zM cI g len rm rr st n ru bg la sd pr ry nh xu xl sn kp kr kb kl kw kh hc pg rd rw ro be hm kro khe) H1 := zkeepR hD hPB hk1
  replace hPA : va_P D vwCl (zSA cI h len cd n ks gs wt mi pl (pl_n (sk_ok la sd) (rw_inc 6 sk la) sk) he nh ru bg la (pl_n (sk_ok la sd) true sd) pl2 sk2 he2 nh2 ru2 bg2 la2 sd2 u0 l0 u1 l1 u2 l2 wy fi fl nu ik pr) H1 := hB
  replace hD : va_D (fun q : Nat => s.heap.size ≤ q) (zSA cI h len cd n ks gs wt mi pl (pl_n (sk_ok la sd) (rw_inc 6 sk la) sk) he nh ru bg la (pl_n (sk_ok la sd) true sd) pl2 sk2 he2 nh2 ru2 bg2 la2 sd2 u0 l0 u1 l1 u2 l2 wy fi fl nu ik pr ++ zM cI g len rm rr st n ru bg la sd pr ry nh xu xl sn kp kr kb kl kw kh hc pg rd rw ro be hm kro khe) := vz_same hD rfl
  replace hS := hS9
  clear hS9 hB hk1 hz1 ht hvm hF1
  refine lv_aload_n hx hb dL_law_306 rfl (lv_at hl 1 rfl) ?_
  have hF2 : ∀ q, va_A (zM cI g len rm rr st n ru bg la sd pr ry nh xu xl sn kp kr kb kl kw kh hc pg rd rw ro be hm kro khe) H1.size q → (fun q : Nat => s.heap.size ≤ q) q := vz_freeAll (zDr hD) hS hA
  refine va_calli (va_runV (As := []) (rest := [.int r1]) ⟨hx, hb, hml, hown, hts⟩ (c_X7_skip l D cI g len rm rr st n ru bg la sd pr ry nh xu xl sn kp kr kb kl kw kh hc pg rd rw ro be hm kro khe H1.size X.2.1.n6 X.2.2.1.2.2) (cwV 0 hts gL_law_X7_skip rfl rfl rfl (by decide +kernel) ⟨Nat.le_of_ble_eq_true rfl, Nat.le_of_ble_eq_true rfl⟩) (vz_pvW (va_recv hZ.1 hPB (ci := 7) (q0 := 0) rfl rfl) hZ hPB (zDr hD)) rfl rfl hl.1 rfl (lv_room (Nat.le_of_ble_eq_true rfl)) dL_law_307 ⟨Nat.le_of_ble_eq_true rfl, Nat.le_of_ble_eq_true rfl⟩) hS (fun q _ h => hF2 q h) hF2 (fun r2 u2_ t2 H2 locs2 ht hvm hw2 hB hz1 hk1 hS9 => ?_)
  rw [ht] at hB
  replace hPA : va_P D vwCl (zSA cI h len cd n ks gs wt mi pl (pl_n (sk_ok la sd) (rw_inc 6 sk la) sk) he nh ru bg la (pl_n (sk_ok la sd) true sd) pl2 sk2 he2 nh2 ru2 bg2 la2 sd2 u0 l0 u1 l1 u2 l2 wy fi fl nu ik pr) H2 := zkeepL hD hPA hk1
  replace hPB : va_P D vwCl (zM cI g len rm rr st n ru bg la (pl_n (sk_ok la sd) true sd) pr ry nh xu xl sn kp kr kb kl kw kh hc pg rd (pl_n (sk_ok la sd) (upd rw (4 * la.toNatClampNeg + 3) (rw (4 * la.toNatClampNeg + 3) + 1)) rw) ro be hm kro khe) H2 := hB
  replace hD : va_D (fun q : Nat => s.heap.size ≤ q) (zSA cI h len cd n ks gs wt mi pl (pl_n (sk_ok la sd) (rw_inc 6 sk la) sk) he nh ru bg la (pl_n (sk_ok la sd) true sd) pl2 sk2 he2 nh2 ru2 bg2 la2 sd2 u0 l0 u1 l1 u2 l2 wy fi fl nu ik pr ++ zM cI g len rm rr st n ru bg la (pl_n (sk_ok la sd) true sd) pr ry nh xu xl sn kp kr kb kl kw kh hc pg rd (pl_n (sk_ok la sd) (upd rw (4 * la.toNatClampNeg + 3) (rw (4 * la.toNatClampNeg + 3) + 1)) rw) ro be hm kro khe) := vz_same hD rfl
  replace hS := hS9
  clear hS9 hB hk1 hz1 ht hvm hF2
  have e12 : r1 = r2 := ((show r1 = _ from hw1).trans (X.skr)).trans (show r2 = _ from hw2).symm
  have Wd2 : zWd D cI h g (fun q : Nat => s.heap.size ≤ q) (i + 1) H2 := ⟨len, cd, n, ks, gs, wt, mi, pl, pl_n (sk_ok la sd) (rw_inc 6 sk la) sk, he, nh, ru, bg, la, pl_n (sk_ok la sd) true sd, pl2, sk2, he2, nh2, ru2, bg2, la2, sd2, u0, l0, u1, l1, u2, l2, wy, fi, fl, nu, ik, pr, rm, rr, st, ry, xu, xl, sn, kp, kr, kb, kl, kw, kh, hc, pg, rd, pl_n (sk_ok la sd) (upd rw (4 * la.toNatClampNeg + 3) (rw (4 * la.toNatClampNeg + 3) + 1)) rw, ro, be, hm, kro, khe, X.skip, hPA, hPB, hD⟩
  refine lv_icmp_eq (tgt := 550) hx hb dL_law_310 (by decide) (fun _ => ?_) (fun c1 => absurd e12 c1)
  exact K _ _ Wd2 hS
set_option maxHeartbeats 4000000 in
set_option maxRecDepth 100000 in
theorem lw_twice {p : Program} {l : Launch} {e : Env} {s : State} {m : MethodId} {below : List Frame} {meth : Method} {c : Code} {b L : Nat} {xs : Nat → Int32} {D : va_G} {cI : ClassId} {sa va : Nat} {h g : Nat → Nat} (C0 : lw_At p s m meth c b L xs) (hZ : zK D cI s) (hT : zS sa va (fun q : Nat => s.heap.size ≤ q) s s.heap) {i : Nat} (hL : L ≤ 256) (hi4 : 4 * i + 4 ≤ L) {H : Heap} {locs : List Loc} (Wd : zWd D cI h g (fun q : Nat => s.heap.size ≤ q) i H) (hS : va_S (fun q : Nat => s.heap.size ≤ q) s.heap H locs) {ls : Array Slot} (hl : lv_has ls 4 [(3, .int (nI (4 * i))), (2, .ref (g 0)), (1, .ref (h 0)), (0, .ref b)]) (K : ∀ (H1 : Heap) (locs1 : List Loc), zWd D cI h g (fun q : Nat => s.heap.size ≤ q) (i + 1) H1 → va_S (fun q : Nat => s.heap.size ≤ q) s.heap H1 locs1 → W p l e room_1 s m #[Value.ref b] below meth c H1 locs1 44 294 (lw_Z below #[Value.ref b] s) (F0 m 550 ls [])) : W p l e room_1 s m #[Value.ref b] below meth c H locs 44 294 (lw_Z below #[Value.ref b] s) (F0 m 315 ls []) := by
  obtain ⟨hx, hb, hr, hml, hown, hts0, hX, hbl, hlocks, hgv⟩ := C0
  have hts : ∀ w ∈ wsL_law, w.before #[Value.ref b] s = true := fun w hw => hts0 w (wsL_law_in w hw)
  have hA : ∀ q : Nat, s.heap.size ≤ q → (fun q : Nat => s.heap.size ≤ q) q := fun _ h => h
  have hbA : ¬ (fun q : Nat => s.heap.size ≤ q) b := Nat.not_le.mpr hbl
  obtain ⟨len, cd, n, ks, gs, wt, mi, pl, sk, he, nh, ru, bg, la, sd, pl2, sk2, he2, nh2, ru2, bg2, la2, sd2, u0, l0, u1, l1, u2, l2, wy, fi, fl, nu, ik, pr, rm, rr, st, ry, xu, xl, sn, kp, kr, kb, kl, kw, kh, hc, pg, rd, rw, ro, be, hm, kro, khe, X, hPA, hPB, hD⟩ := Wd
  have hi : i ≤ 64 := by omega
  have hx1 := lw_in1 hi4 hL
  have hx2 := lw_in2 hi4 hL
  refine lv_aload_n hx hb dL_law_315 rfl (lv_at hl 2 rfl) ?_
  refine lv_aload_n hx hb dL_law_316 rfl (lv_at hl 3 rfl) ?_
  refine lv_iload_n hx hb dL_law_317 rfl (lv_at hl 0 rfl) ?_
  refine lv_iconst (v := 1) hx hb dL_law_318 (by decide) ?_
  refine lv_iadd hx hb dL_law_319 ?_
  refine va_sld hx hb hX hbl hbA hS hx1 dL_law_320 ?_
  refine lv_aload_n hx hb dL_law_321 rfl (lv_at hl 3 rfl) ?_
  refine lv_iload_n hx hb dL_law_322 rfl (lv_at hl 0 rfl) ?_
  refine lv_iconst (v := 2) hx hb dL_law_323 (by decide) ?_
  refine lv_iadd hx hb dL_law_324 ?_
  refine va_sld hx hb hX hbl hbA hS hx2 dL_law_325 ?_
  have hF1 : ∀ q, va_A (zSA cI h len cd n ks gs wt mi pl sk he nh ru bg la sd pl2 sk2 he2 nh2 ru2 bg2 la2 sd2 u0 l0 u1 l1 u2 l2 wy fi fl nu ik pr) H.size q → (fun q : Nat => s.heap.size ≤ q) q := vz_freeAll (zDl hD) hS hA
  refine va_calll (va_runV (As := [.int (xs (nI (4 * i) + 1).toNatClampNeg), .int (xs (nI (4 * i) + 2).toNatClampNeg)]) (rest := []) ⟨hx, hb, hml, hown, hts⟩ (c_X6_twice l D cI h len cd n ks gs wt mi pl sk he nh ru bg la sd pl2 sk2 he2 nh2 ru2 bg2 la2 sd2 u0 l0 u1 l1 u2 l2 wy fi fl nu ik pr H.size (xs (nI (4 * i) + 1).toNatClampNeg) (xs (nI (4 * i) + 2).toNatClampNeg) X.2.1.n6) (cwV 2 hts gL_law_X6_twice rfl rfl rfl (by decide +kernel) ⟨Nat.le_of_ble_eq_true rfl, Nat.le_of_ble_eq_true rfl⟩) (vz_pvW (va_recv hZ.1 hPA (ci := 6) (q0 := 0) rfl rfl) hZ hPA (zDl hD)) rfl rfl hl.1 rfl (lv_room (Nat.le_of_ble_eq_true rfl)) dL_law_326 ⟨Nat.le_of_ble_eq_true rfl, Nat.le_of_ble_eq_true rfl⟩) hS (fun q _ h => hF1 q h) hF1 (fun r1 u1_ t1 H1 locs1 ht hvm hw1 hB hz1 hk1 hS9 => ?_)
  rw [ht] at hB
  replace hPB : va_P D vwCl (zM cI g len rm rr st n ru bg la sd pr ry nh xu xl sn kp kr kb kl kw kh hc pg rd rw ro be hm kro khe) H1 := zkeepR hD hPB hk1
  replace hPA : va_P D vwCl (zSA cI h len cd n ks gs wt mi pl sk he nh ru bg la sd pl2 sk2 he2 nh2 ru2 bg2 la2 sd2 u1_.1 u1_.2 u1 l1 u2 l2 wy fi fl nu ik pr) H1 := hB
  replace hD : va_D (fun q : Nat => s.heap.size ≤ q) (zSA cI h len cd n ks gs wt mi pl sk he nh ru bg la sd pl2 sk2 he2 nh2 ru2 bg2 la2 sd2 u1_.1 u1_.2 u1 l1 u2 l2 wy fi fl nu ik pr ++ zM cI g len rm rr st n ru bg la sd pr ry nh xu xl sn kp kr kb kl kw kh hc pg rd rw ro be hm kro khe) := vz_same hD rfl
  replace hS := hS9
  clear hS9 hB hk1 hz1 ht hvm hF1
  refine lv_aload_n hx hb dL_law_329 rfl (lv_at hl 1 rfl) ?_
  refine lv_aload_n hx hb dL_law_330 rfl (lv_at hl 3 rfl) ?_
  refine lv_iload_n hx hb dL_law_331 rfl (lv_at hl 0 rfl) ?_
  refine lv_iconst (v := 1) hx hb dL_law_332 (by decide) ?_
  refine lv_iadd hx hb dL_law_333 ?_
  refine va_sld hx hb hX hbl hbA hS hx1 dL_law_334 ?_
  refine lv_aload_n hx hb dL_law_335 rfl (lv_at hl 3 rfl) ?_
  refine lv_iload_n hx hb dL_law_336 rfl (lv_at hl 0 rfl) ?_
  refine lv_iconst (v := 2) hx hb dL_law_337 (by decide) ?_
  refine lv_iadd hx hb dL_law_338 ?_
  refine va_sld hx hb hX hbl hbA hS hx2 dL_law_339 ?_
  refine vp_callSl (W.runV (As := [.int (xs (nI (4 * i) + 1).toNatClampNeg), .int (xs (nI (4 * i) + 2).toNatClampNeg)]) (rest := [.long r1]) ⟨hx, hb, hml, hown, hts⟩ (c_X7_twice l D cI g len rm rr st n ru bg la sd pr ry nh xu xl sn kp kr kb kl kw kh hc pg rd rw ro be hm kro khe (xs (nI (4 * i) + 1).toNatClampNeg) (xs (nI (4 * i) + 2).toNatClampNeg) X.2.1.n6 X.2.2.1.2.2 (fun a0 ha => X.2.1.nz hi (X.2.2.1.bag X.2.1.n6 ha) (by omega)) (fun a0 b0 ha hb => X.2.1.nz hi ((X.2.2.1.bag X.2.1.n6 ha).bag X.2.1.n6 hb) (by omega)) (fun q hs => X.2.1.hT hi X.2.2.1 (sa_np0 hs) (zp_23 q))) (cwV 2 hts gL_law_X7_twice rfl rfl rfl (by decide +kernel) ⟨Nat.le_of_ble_eq_true rfl, Nat.le_of_ble_eq_true rfl⟩) (vz_pvR (va_recv hZ.1 hPB (ci := 7) (q0 := 0) rfl rfl) hZ hPB) rfl rfl hl.1 rfl (lv_room (Nat.le_of_ble_eq_true rfl)) dL_law_340 ⟨Nat.le_of_ble_eq_true rfl, Nat.le_of_ble_eq_true rfl⟩) (fun r2 hw2 => ?_)
  have e12 : r1 = r2 := ((show r1 = _ from hw1).trans (X.2.1.twice hi X.2.2.1 (xs (nI (4 * i) + 1).toNatClampNeg) (xs (nI (4 * i) + 2).toNatClampNeg))).trans (show r2 = _ from hw2).symm
  have Wd2 : zWd D cI h g (fun q : Nat => s.heap.size ≤ q) (i + 1) H1 := ⟨len, cd, n, ks, gs, wt, mi, pl, sk, he, nh, ru, bg, la, sd, pl2, sk2, he2, nh2, ru2, bg2, la2, sd2, u1_.1, u1_.2, u1, l1, u2, l2, wy, fi, fl, nu, ik, pr, rm, rr, st, ry, xu, xl, sn, kp, kr, kb, kl, kw, kh, hc, pg, rd, rw, ro, be, hm, kro, khe, X.more, hPA, hPB, hD⟩
  refine W.lcmp hx hb dL_law_343 ?_
  refine lv_if_eq (tgt := 550) hx hb dL_law_344 (by decide) (fun _ => ?_) (fun c1 => absurd ((lg_cmp_eq _ _).mpr e12) c1)
  exact K _ _ Wd2 hS

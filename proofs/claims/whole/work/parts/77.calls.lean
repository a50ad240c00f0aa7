set_option maxHeartbeats 4000000 in
set_option maxRecDepth 100000 in
theorem lw_party {p : Program} {l : Launch} {e : Env} {s : State} {m : MethodId} {below : List Frame} {meth : Method} {c : Code} {b L : Nat} {xs : Nat → Int32} {D : va_G} {cI : ClassId} {sa va : Nat} {h g : Nat → Nat} (C0 : lw_At p s m meth c b L xs) (hZ : zK D cI s) (hT : zS sa va (fun q : Nat => s.heap.size ≤ q) s s.heap) {i : Nat} (hL : L ≤ 256) (hi4 : 4 * i + 4 ≤ L) {H : Heap} {locs : List Loc} (Wd : zWd D cI h g (fun q : Nat => s.heap.size ≤ q) i H) (hS : va_S (fun q : Nat => s.heap.size ≤ q) s.heap H locs) {ls : Array Slot} (hl : lv_has ls 4 [(3, .int (nI (4 * i))), (2, .ref (g 0)), (1, .ref (h 0)), (0, .ref b)]) (K : ∀ (H1 : Heap) (locs1 : List Loc), zWd D cI h g (fun q : Nat => s.heap.size ≤ q) (i + 1) H1 → va_S (fun q : Nat => s.heap.size ≤ q) s.heap H1 locs1 → W p l e room_1 s m #[Value.ref b] below meth c H1 locs1 44 294 (lw_Z below #[Value.ref b] s) (F0 m 550 ls [])) : W p l e room_1 s m #[Value.ref b] below meth c H locs 44 294 (lw_Z below #[Value.ref b] s) (F0 m 349 ls []) := by
  obtain ⟨hx, hb, hr, hml, hown, hts0, hX, hbl, hlocks, hgv⟩ := C0
  have hts : ∀ w ∈ wsL_law, w.before #[Value.ref b] s = true := fun w hw => hts0 w (wsL_law_in w hw)
  have hA : ∀ q : Nat, s.heap.size ≤ q → (fun q : Nat => s.heap.size ≤ q) q := fun _ h => h
  have hbA : ¬ (fun q : Nat => s.heap.size ≤ q) b := Nat.not_le.mpr hbl
  obtain ⟨len, cd, n, ks, gs, wt, mi, pl, sk, he, nh, ru, bg, la, sd, pl2, sk2, he2, nh2, ru2, bg2, la2, sd2, u0, l0, u1, l1, u2, l2, wy, fi, fl, nu, ik, pr, rm, rr, st, ry, xu, xl, sn, kp, kr, kb, kl, kw, kh, hc, pg, rd, rw, ro, be, hm, kro, khe, X, hPA, hPB, hD⟩ := Wd
  have hi : i ≤ 64 := by omega
  have hx1 := lw_in1 hi4 hL
  have hx2 := lw_in2 hi4 hL
  refine lv_aload_n hx hb dL_law_349 rfl (lv_at hl 2 rfl) ?_
  refine lv_aload_n hx hb dL_law_350 rfl (lv_at hl 3 rfl) ?_
  refine lv_iload_n hx hb dL_law_351 rfl (lv_at hl 0 rfl) ?_
  refine lv_iconst (v := 1) hx hb dL_law_352 (by decide) ?_
  refine lv_iadd hx hb dL_law_353 ?_
  refine va_sld hx hb hX hbl hbA hS hx1 dL_law_354 ?_
  refine lv_aload_n hx hb dL_law_355 rfl (lv_at hl 3 rfl) ?_
  refine lv_iload_n hx hb dL_law_356 rfl (lv_at hl 0 rfl) ?_
  refine lv_iconst (v := 2) hx hb dL_law_357 (by decide) ?_
  refine lv_iadd hx hb dL_law_358 ?_
  refine va_sld hx hb hX hbl hbA hS hx2 dL_law_359 ?_
  have hF1 : ∀ q, va_A (zSA cI h len cd n ks gs wt mi pl sk he nh ru bg la sd pl2 sk2 he2 nh2 ru2 bg2 la2 sd2 u0 l0 u1 l1 u2 l2 wy fi fl nu ik pr) H.size q → (fun q : Nat => s.heap.size ≤ q) q := vz_freeAll (zDl hD) hS hA
  refine va_calli (va_runV (As := [.int (xs (nI (4 * i) + 1).toNatClampNeg), .int (xs (nI (4 * i) + 2).toNatClampNeg)]) (rest := []) ⟨hx, hb, hml, hown, hts⟩ (c_X6_party l D cI h len cd n ks gs wt mi pl sk he nh ru bg la sd pl2 sk2 he2 nh2 ru2 bg2 la2 sd2 u0 l0 u1 l1 u2 l2 wy fi fl nu ik pr H.size (xs (nI (4 * i) + 1).toNatClampNeg) (xs (nI (4 * i) + 2).toNatClampNeg) X.2.1.n6) (cwV 2 hts gL_law_X6_party rfl rfl rfl (by decide +kernel) ⟨Nat.le_of_ble_eq_true rfl, Nat.le_of_ble_eq_true rfl⟩) (vz_pvW (va_recv hZ.1 hPA (ci := 6) (q0 := 0) rfl rfl) hZ hPA (zDl hD)) rfl rfl hl.1 rfl (lv_room (Nat.le_of_ble_eq_true rfl)) dL_law_360 ⟨Nat.le_of_ble_eq_true rfl, Nat.le_of_ble_eq_true rfl⟩) hS (fun q _ h => hF1 q h) hF1 (fun r1 u1_ t1 H1 locs1 ht hvm hw1 hB hz1 hk1 hS9 => ?_)
  rw [ht] at hB
  replace hPB : va_P D vwCl (zM cI g len rm rr st n ru bg la sd pr ry nh xu xl sn kp kr kb kl kw kh hc pg rd rw ro be hm kro khe) H1 := zkeepR hD hPB hk1
  replace hPA : va_P D vwCl (zSA cI h len cd n ks gs wt mi pl sk he nh ru bg la sd pl2 sk2 he2 nh2 ru2 bg2 la2 sd2 u0 l0 u1 l1 u2 l2 u1_.1 u1_.2.1 u1_.2.2.1 u1_.2.2.2 ik pr) H1 := hB
  replace hD : va_D (fun q : Nat => s.heap.size ≤ q) (zSA cI h len cd n ks gs wt mi pl sk he nh ru bg la sd pl2 sk2 he2 nh2 ru2 bg2 la2 sd2 u0 l0 u1 l1 u2 l2 u1_.1 u1_.2.1 u1_.2.2.1 u1_.2.2.2 ik pr ++ zM cI g len rm rr st n ru bg la sd pr ry nh xu xl sn kp kr kb kl kw kh hc pg rd rw ro be hm kro khe) := vz_same hD rfl
  replace hS := hS9
  clear hS9 hB hk1 hz1 ht hvm hF1
  refine lv_aload_n hx hb dL_law_363 rfl (lv_at hl 1 rfl) ?_
  refine lv_aload_n hx hb dL_law_364 rfl (lv_at hl 3 rfl) ?_
  refine lv_iload_n hx hb dL_law_365 rfl (lv_at hl 0 rfl) ?_
  refine lv_iconst (v := 1) hx hb dL_law_366 (by decide) ?_
  refine lv_iadd hx hb dL_law_367 ?_
  refine va_sld hx hb hX hbl hbA hS hx1 dL_law_368 ?_
  refine lv_aload_n hx hb dL_law_369 rfl (lv_at hl 3 rfl) ?_
  refine lv_iload_n hx hb dL_law_370 rfl (lv_at hl 0 rfl) ?_
  refine lv_iconst (v := 2) hx hb dL_law_371 (by decide) ?_
  refine lv_iadd hx hb dL_law_372 ?_
  refine va_sld hx hb hX hbl hbA hS hx2 dL_law_373 ?_
  have hF2 : ∀ q, va_A (zM cI g len rm rr st n ru bg la sd pr ry nh xu xl sn kp kr kb kl kw kh hc pg rd rw ro be hm kro khe) H1.size q → (fun q : Nat => s.heap.size ≤ q) q := vz_freeAll (zDr hD) hS hA
  refine va_calli (va_runV (As := [.int (xs (nI (4 * i) + 1).toNatClampNeg), .int (xs (nI (4 * i) + 2).toNatClampNeg)]) (rest := [.int r1]) ⟨hx, hb, hml, hown, hts⟩ (c_X7_party l D cI g len rm rr st n ru bg la sd pr ry nh xu xl sn kp kr kb kl kw kh hc pg rd rw ro be hm kro khe H1.size (xs (nI (4 * i) + 1).toNatClampNeg) (xs (nI (4 * i) + 2).toNatClampNeg) X.2.1.n6) (cwV 2 hts gL_law_X7_party rfl rfl rfl (by decide +kernel) ⟨Nat.le_of_ble_eq_true rfl, Nat.le_of_ble_eq_true rfl⟩) (vz_pvW (va_recv hZ.1 hPB (ci := 7) (q0 := 0) rfl rfl) hZ hPB (zDr hD)) rfl rfl hl.1 rfl (lv_room (Nat.le_of_ble_eq_true rfl)) dL_law_374 ⟨Nat.le_of_ble_eq_true rfl, Nat.le_of_ble_eq_true rfl⟩) hS (fun q _ h => hF2 q h) hF2 (fun r2 u2_ t2 H2 locs2 ht hvm hw2 hB hz1 hk1 hS9 => ?_)
  rw [ht] at hB
  replace hPA : va_P D vwCl (zSA cI h len cd n ks gs wt mi pl sk he nh ru bg la sd pl2 sk2 he2 nh2 ru2 bg2 la2 sd2 u0 l0 u1 l1 u2 l2 u1_.1 u1_.2.1 u1_.2.2.1 u1_.2.2.2 ik pr) H2 := zkeepL hD hPA hk1
  replace hPB : va_P D vwCl (zM cI g len rm rr st n ru bg la sd pr u2_.2.2 nh xu xl sn kp kr kb kl kw kh hc pg rd rw u2_.1 u2_.2.1 hm kro khe) H2 := hB
  replace hD : va_D (fun q : Nat => s.heap.size ≤ q) (zSA cI h len cd n ks gs wt mi pl sk he nh ru bg la sd pl2 sk2 he2 nh2 ru2 bg2 la2 sd2 u0 l0 u1 l1 u2 l2 u1_.1 u1_.2.1 u1_.2.2.1 u1_.2.2.2 ik pr ++ zM cI g len rm rr st n ru bg la sd pr u2_.2.2 nh xu xl sn kp kr kb kl kw kh hc pg rd rw u2_.1 u2_.2.1 hm kro khe) := vz_same hD rfl
  replace hS := hS9
  clear hS9 hB hk1 hz1 ht hvm hF2
  have e12 : r1 = r2 := ((show r1 = _ from hw1).trans (zpart X.2.1.n6 (fun s0 hs => X.2.1.g s0 hs) wy fi (xs (nI (4 * i) + 1).toNatClampNeg) (xs (nI (4 * i) + 2).toNatClampNeg))).trans (show r2 = _ from hw2).symm
  have Wd2 : zWd D cI h g (fun q : Nat => s.heap.size ≤ q) (i + 1) H2 := ⟨len, cd, n, ks, gs, wt, mi, pl, sk, he, nh, ru, bg, la, sd, pl2, sk2, he2, nh2, ru2, bg2, la2, sd2, u0, l0, u1, l1, u2, l2, u1_.1, u1_.2.1, u1_.2.2.1, u1_.2.2.2, ik, pr, rm, rr, st, u2_.2.2, xu, xl, sn, kp, kr, kb, kl, kw, kh, hc, pg, rd, rw, u2_.1, u2_.2.1, hm, kro, khe, X.more, hPA, hPB, hD⟩
  refine lv_icmp_eq (tgt := 550) hx hb dL_law_377 (by decide) (fun _ => ?_) (fun c1 => absurd e12 c1)
  exact K _ _ Wd2 hS
set_option maxHeartbeats 4000000 in
set_option maxRecDepth 100000 in
theorem lw_hear {p : Program} {l : Launch} {e : Env} {s : State} {m : MethodId} {below : List Frame} {meth : Method} {c : Code} {b L : Nat} {xs : Nat → Int32} {D : va_G} {cI : ClassId} {sa va : Nat} {h g : Nat → Nat} (C0 : lw_At p s m meth c b L xs) (hZ : zK D cI s) (hT : zS sa va (fun q : Nat => s.heap.size ≤ q) s s.heap) {i : Nat} (hL : L ≤ 256) (hi4 : 4 * i + 4 ≤ L) {H : Heap} {locs : List Loc} (Wd : zWd D cI h g (fun q : Nat => s.heap.size ≤ q) i H) (hS : va_S (fun q : Nat => s.heap.size ≤ q) s.heap H locs) {ls : Array Slot} (hl : lv_has ls 4 [(3, .int (nI (4 * i))), (2, .ref (g 0)), (1, .ref (h 0)), (0, .ref b)]) (K : ∀ (H1 : Heap) (locs1 : List Loc), zWd D cI h g (fun q : Nat => s.heap.size ≤ q) (i + 1) H1 → va_S (fun q : Nat => s.heap.size ≤ q) s.heap H1 locs1 → W p l e room_1 s m #[Value.ref b] below meth c H1 locs1 44 294 (lw_Z below #[Value.ref b] s) (F0 m 550 ls [])) : W p l e room_1 s m #[Value.ref b] below meth c H locs 44 294 (lw_Z below #[Value.ref b] s) (F0 m 382 ls []) := by
  obtain ⟨hx, hb, hr, hml, hown, hts0, hX, hbl, hlocks, hgv⟩ := C0
  have hts : ∀ w ∈ wsL_law, w.before #[Value.ref b] s = true := fun w hw => hts0 w (wsL_law_in w hw)
  have hA : ∀ q : Nat, s.heap.size ≤ q → (fun q : Nat => s.heap.size ≤ q) q := fun _ h => h
  have hbA : ¬ (fun q : Nat => s.heap.size ≤ q) b := Nat.not_le.mpr hbl
  obtain ⟨len, cd, n, ks, gs, wt, mi, pl, sk, he, nh, ru, bg, la, sd, pl2, sk2, he2, nh2, ru2, bg2, la2, sd2, u0, l0, u1, l1, u2, l2, wy, fi, fl, nu, ik, pr, rm, rr, st, ry, xu, xl, sn, kp, kr, kb, kl, kw, kh, hc, pg, rd, rw, ro, be, hm, kro, khe, X, hPA, hPB, hD⟩ := Wd
  have hi : i ≤ 64 := by omega
  have hx1 := lw_in1 hi4 hL
  refine lv_aload_n hx hb dL_law_382 rfl (lv_at hl 2 rfl) ?_
  refine lv_aload_n hx hb dL_law_383 rfl (lv_at hl 3 rfl) ?_
  refine lv_iload_n hx hb dL_law_384 rfl (lv_at hl 0 rfl) ?_
  refine lv_iconst (v := 1) hx hb dL_law_385 (by decide) ?_
  refine lv_iadd hx hb dL_law_386 ?_
  refine va_sld hx hb hX hbl hbA hS hx1 dL_law_387 ?_
  have hF1 : ∀ q, va_A (zSA cI h len cd n ks gs wt mi pl sk he nh ru bg la sd pl2 sk2 he2 nh2 ru2 bg2 la2 sd2 u0 l0 u1 l1 u2 l2 wy fi fl nu ik pr) H.size q → (fun q : Nat => s.heap.size ≤ q) q := vz_freeAll (zDl hD) hS hA
  refine va_calli (va_runV (As := [.int (xs (nI (4 * i) + 1).toNatClampNeg)]) (rest := []) ⟨hx, hb, hml, hown, hts⟩ (c_X6_hear l D cI h len cd n ks gs wt mi pl sk he nh ru bg la sd pl2 sk2 he2 nh2 ru2 bg2 la2 sd2 u0 l0 u1 l1 u2 l2 wy fi fl nu ik pr H.size (xs (nI (4 * i) + 1).toNatClampNeg) X.2.1.n6 X.2.2.2.1.1) (cwV 1 hts gL_law_X6_hear rfl rfl rfl (by decide +kernel) ⟨Nat.le_of_ble_eq_true rfl, Nat.le_of_ble_eq_true rfl⟩) (vz_pvW (va_recv hZ.1 hPA (ci := 6) (q0 := 0) rfl rfl) hZ hPA (zDl hD)) rfl rfl hl.1 rfl (lv_room (Nat.le_of_ble_eq_true rfl)) dL_law_388 ⟨Nat.le_of_ble_eq_true rfl, Nat.le_of_ble_eq_true rfl⟩) hS (fun q _ h => hF1 q h) hF1 (fun r1 u1_ t1 H1 locs1 ht hvm hw1 hB hz1 hk1 hS9 => ?_)
  rw [ht] at hB
  replace hPB : va_P D vwCl (zM cI g len rm rr st n ru bg la sd pr ry nh xu xl sn kp kr kb kl kw kh hc pg rd rw ro be hm kro khe) H1 := zkeepR hD hPB hk1
  replace hPA : va_P D vwCl (zSA cI h len cd n ks gs wt mi pl sk (pl_n (he_ok n nh (xs (nI (4 * i) + 1).toNatClampNeg)) (rw_put 8 he (nI nh) (xs (nI (4 * i) + 1).toNatClampNeg)) he) (pl_n (he_ok n nh (xs (nI (4 * i) + 1).toNatClampNeg)) (nh + 1) nh) ru bg la sd pl2 sk2 he2 nh2 ru2 bg2 la2 sd2 u0 l0 u1 l1 u2 l2 wy fi fl nu ik pr) H1 := hB
  replace hD : va_D (fun q : Nat => s.heap.size ≤ q) (zSA cI h len cd n ks gs wt mi pl sk (pl_n (he_ok n nh (xs (nI (4 * i) + 1).toNatClampNeg)) (rw_put 8 he (nI nh) (xs (nI (4 * i) + 1).toNatClampNeg)) he) (pl_n (he_ok n nh (xs (nI (4 * i) + 1).toNatClampNeg)) (nh + 1) nh) ru bg la sd pl2 sk2 he2 nh2 ru2 bg2 la2 sd2 u0 l0 u1 l1 u2 l2 wy fi fl nu ik pr ++ zM cI g len rm rr st n ru bg la sd pr ry nh xu xl sn kp kr kb kl kw kh hc pg rd rw ro be hm kro khe) := vz_same hD rfl
  replace hS := hS9
  clear hS9 hB hk1 hz1 ht hvm hF1
  refine lv_aload_n hx hb dL_law_391 rfl (lv_at hl 1 rfl) ?_
  refine lv_aload_n hx hb dL_law_392 rfl (lv_at hl 3 rfl) ?_
  refine lv_iload_n hx hb dL_law_393 rfl (lv_at hl 0 rfl) ?_
  refine lv_iconst (v := 1) hx hb dL_law_394 (by decide) ?_
  refine lv_iadd hx hb dL_law_395 ?_
  refine va_sld hx hb hX hbl hbA hS hx1 dL_law_396 ?_
  have hF2 : ∀ q, va_A (zM cI g len rm rr st n ru bg la sd pr ry nh xu xl sn kp kr kb kl kw kh hc pg rd rw ro be hm kro khe) H1.size q → (fun q : Nat => s.heap.size ≤ q) q := vz_freeAll (zDr hD) hS hA
  refine va_calli (va_runV (As := [.int (xs (nI (4 * i) + 1).toNatClampNeg)]) (rest := [.int r1]) ⟨hx, hb, hml, hown, hts⟩ (c_X7_hear l D cI g len rm rr st n ru bg la sd pr ry nh xu xl sn kp kr kb kl kw kh hc pg rd rw ro be hm kro khe H1.size (xs (nI (4 * i) + 1).toNatClampNeg) X.2.2.2.1.1) (cwV 1 hts gL_law_X7_hear rfl rfl rfl (by decide +kernel) ⟨Nat.le_of_ble_eq_true rfl, Nat.le_of_ble_eq_true rfl⟩) (vz_pvW (va_recv hZ.1 hPB (ci := 7) (q0 := 0) rfl rfl) hZ hPB (zDr hD)) rfl rfl hl.1 rfl (lv_room (Nat.le_of_ble_eq_true rfl)) dL_law_397 ⟨Nat.le_of_ble_eq_true rfl, Nat.le_of_ble_eq_true rfl⟩) hS (fun q _ h => hF2 q h) hF2 (fun r2 u2_ t2 H2 locs2 ht hvm hw2 hB hz1 hk1 hS9 => ?_)
  rw [ht] at hB
  replace hPA : va_P D vwCl (zSA cI h len cd n ks gs wt mi pl sk (pl_n (he_ok n nh (xs (nI (4 * i) + 1).toNatClampNeg)) (rw_put 8 he (nI nh) (xs (nI (4 * i) + 1).toNatClampNeg)) he) (pl_n (he_ok n nh (xs (nI (4 * i) + 1).toNatClampNeg)) (nh + 1) nh) ru bg la sd pl2 sk2 he2 nh2 ru2 bg2 la2 sd2 u0 l0 u1 l1 u2 l2 wy fi fl nu ik pr) H2 := zkeepL hD hPA hk1
  replace hPB : va_P D vwCl (zM cI g len rm rr st n ru bg la sd pr ry (pl_n (mhe n nh (xs (nI (4 * i) + 1).toNatClampNeg)) (nh + 1) nh) xu xl sn kp kr kb kl kw kh hc pg rd rw ro be (pl_n (mhe n nh (xs (nI (4 * i) + 1).toNatClampNeg)) (upd hm nh (xs (nI (4 * i) + 1).toNatClampNeg)) hm) kro khe) H2 := hB
  replace hD : va_D (fun q : Nat => s.heap.size ≤ q) (zSA cI h len cd n ks gs wt mi pl sk (pl_n (he_ok n nh (xs (nI (4 * i) + 1).toNatClampNeg)) (rw_put 8 he (nI nh) (xs (nI (4 * i) + 1).toNatClampNeg)) he) (pl_n (he_ok n nh (xs (nI (4 * i) + 1).toNatClampNeg)) (nh + 1) nh) ru bg la sd pl2 sk2 he2 nh2 ru2 bg2 la2 sd2 u0 l0 u1 l1 u2 l2 wy fi fl nu ik pr ++ zM cI g len rm rr st n ru bg la sd pr ry (pl_n (mhe n nh (xs (nI (4 * i) + 1).toNatClampNeg)) (nh + 1) nh) xu xl sn kp kr kb kl kw kh hc pg rd rw ro be (pl_n (mhe n nh (xs (nI (4 * i) + 1).toNatClampNeg)) (upd hm nh (xs (nI (4 * i) + 1).toNatClampNeg)) hm) kro khe) := vz_same hD rfl
  replace hS := hS9
  clear hS9 hB hk1 hz1 ht hvm hF2
  have e12 : r1 = r2 := ((show r1 = _ from hw1).trans ((X.2.2.2.1.hear X.2.1.n6 (xs (nI (4 * i) + 1).toNatClampNeg)).1)).trans (show r2 = _ from hw2).symm
  have X3 := X.hear (xs (nI (4 * i) + 1).toNatClampNeg)
  rw [(X.2.2.2.1.hear X.2.1.n6 (xs (nI (4 * i) + 1).toNatClampNeg)).2.1] at hPA hD X3
  have Wd2 : zWd D cI h g (fun q : Nat => s.heap.size ≤ q) (i + 1) H2 := ⟨len, cd, n, ks, gs, wt, mi, pl, sk, pl_n (mhe n nh (xs (nI (4 * i) + 1).toNatClampNeg)) (rw_put 8 he (nI nh) (xs (nI (4 * i) + 1).toNatClampNeg)) he, pl_n (mhe n nh (xs (nI (4 * i) + 1).toNatClampNeg)) (nh + 1) nh, ru, bg, la, sd, pl2, sk2, he2, nh2, ru2, bg2, la2, sd2, u0, l0, u1, l1, u2, l2, wy, fi, fl, nu, ik, pr, rm, rr, st, ry, xu, xl, sn, kp, kr, kb, kl, kw, kh, hc, pg, rd, rw, ro, be, pl_n (mhe n nh (xs (nI (4 * i) + 1).toNatClampNeg)) (upd hm nh (xs (nI (4 * i) + 1).toNatClampNeg)) hm, kro, khe, X3, hPA, hPB, hD⟩
  refine lv_icmp_eq (tgt := 550) hx hb dL_law_400 (by decide) (fun _ => ?_) (fun c1 => absurd e12 c1)
  exact K _ _ Wd2 hS
set_option maxHeartbeats 4000000 in
set_option maxRecDepth 100000 in
theorem lw_forget {p : Program} {l : Launch} {e : Env} {s : State} {m : MethodId} {below : List Frame} {meth : Method} {c : Code} {b L : Nat} {xs : Nat → Int32} {D : va_G} {cI : ClassId} {sa va : Nat} {h g : Nat → Nat} (C0 : lw_At p s m meth c b L xs) (hZ : zK D cI s) (hT : zS sa va (fun q : Nat => s.heap.size ≤ q) s s.heap) {i : Nat} (hL : L ≤ 256) (hi4 : 4 * i + 4 ≤ L) {H : Heap} {locs : List Loc} (Wd : zWd D cI h g (fun q : Nat => s.heap.size ≤ q) i H) (hS : va_S (fun q : Nat => s.heap.size ≤ q) s.heap H locs) {ls : Array Slot} (hl : lv_has ls 4 [(3, .int (nI (4 * i))), (2, .ref (g 0)), (1, .ref (h 0)), (0, .ref b)]) (K : ∀ (H1 : Heap) (locs1 : List Loc), zWd D cI h g (fun q : Nat => s.heap.size ≤ q) (i + 1) H1 → va_S (fun q : Nat => s.heap.size ≤ q) s.heap H1 locs1 → W p l e room_1 s m #[Value.ref b] below meth c H1 locs1 44 294 (lw_Z below #[Value.ref b] s) (F0 m 550 ls [])) : W p l e room_1 s m #[Value.ref b] below meth c H locs 44 294 (lw_Z below #[Value.ref b] s) (F0 m 405 ls []) := by
  obtain ⟨hx, hb, hr, hml, hown, hts0, hX, hbl, hlocks, hgv⟩ := C0
  have hts : ∀ w ∈ wsL_law, w.before #[Value.ref b] s = true := fun w hw => hts0 w (wsL_law_in w hw)
  have hA : ∀ q : Nat, s.heap.size ≤ q → (fun q : Nat => s.heap.size ≤ q) q := fun _ h => h
  have hbA : ¬ (fun q : Nat => s.heap.size ≤ q) b := Nat.not_le.mpr hbl
  obtain ⟨len, cd, n, ks, gs, wt, mi, pl, sk, he, nh, ru, bg, la, sd, pl2, sk2, he2, nh2, ru2, bg2, la2, sd2, u0, l0, u1, l1, u2, l2, wy, fi, fl, nu, ik, pr, rm, rr, st, ry, xu, xl, sn, kp, kr, kb, kl, kw, kh, hc, pg, rd, rw, ro, be, hm, kro, khe, X, hPA, hPB, hD⟩ := Wd
  have hi : i ≤ 64 := by omega
  refine lv_aload_n hx hb dL_law_405 rfl (lv_at hl 2 rfl) ?_
  have hF1 : ∀ q, va_A (zSA cI h len cd n ks gs wt mi pl sk he nh ru bg la sd pl2 sk2 he2 nh2 ru2 bg2 la2 sd2 u0 l0 u1 l1 u2 l2 wy fi fl nu ik pr) H.size q → (fun q : Nat => s.heap.size ≤ q) q := vz_freeAll (zDl hD) hS hA
  refine va_calli (va_runV (As := []) (rest := []) ⟨hx, hb, hml, hown, hts⟩ (c_X6_forget l D cI h len cd n ks gs wt mi pl sk he nh ru bg la sd pl2 sk2 he2 nh2 ru2 bg2 la2 sd2 u0 l0 u1 l1 u2 l2 wy fi fl nu ik pr H.size) (cwV 0 hts gL_law_X6_forget rfl rfl rfl (by decide +kernel) ⟨Nat.le_of_ble_eq_true rfl, Nat.le_of_ble_eq_true rfl⟩) (vz_pvW (va_recv hZ.1 hPA (ci := 6) (q0 := 0) rfl rfl) hZ hPA (zDl hD)) rfl rfl hl.1 rfl (lv_room (Nat.le_of_ble_eq_true rfl)) dL_law_406 ⟨Nat.le_of_ble_eq_true rfl, Nat.le_of_ble_eq_true rfl⟩) hS (fun q _ h => hF1 q h) hF1 (fun r1 u1_ t1 H1 locs1 ht hvm hw1 hB hz1 hk1 hS9 => ?_)
  rw [ht] at hB
  replace hPB : va_P D vwCl (zM cI g len rm rr st n ru bg la sd pr ry nh xu xl sn kp kr kb kl kw kh hc pg rd rw ro be hm kro khe) H1 := zkeepR hD hPB hk1
  replace hPA : va_P D vwCl (zSA cI h len cd n ks gs wt mi pl sk he 0 ru bg la sd pl2 sk2 he2 nh2 ru2 bg2 la2 sd2 u0 l0 u1 l1 u2 l2 wy fi fl nu ik pr) H1 := hB
  replace hD : va_D (fun q : Nat => s.heap.size ≤ q) (zSA cI h len cd n ks gs wt mi pl sk he 0 ru bg la sd pl2 sk2 he2 nh2 ru2 bg2 la2 sd2 u0 l0 u1 l1 u2 l2 wy fi fl nu ik pr ++ zM cI g len rm rr st n ru bg la sd pr ry nh xu xl sn kp kr kb kl kw kh hc pg rd rw ro be hm kro khe) := vz_same hD rfl
  replace hS := hS9
  clear hS9 hB hk1 hz1 ht hvm hF1
  refine lv_aload_n hx hb dL_law_409 rfl (lv_at hl 1 rfl) ?_
  have hF2 : ∀ q, va_A (zM cI g len rm rr st n ru bg la sd pr ry nh xu xl sn kp kr kb kl kw kh hc pg rd rw ro be hm kro khe) H1.size q → (fun q : Nat => s.heap.size ≤ q) q := vz_freeAll (zDr hD) hS hA
  refine va_calli (va_runV (As := []) (rest := [.int r1]) ⟨hx, hb, hml, hown, hts⟩ (c_X7_forget l D cI g len rm rr st n ru bg la sd pr ry nh xu xl sn kp kr kb kl kw kh hc pg rd rw ro be hm kro khe H1.size) (cwV 0 hts gL_law_X7_forget rfl rfl rfl (by decide +kernel) ⟨Nat.le_of_ble_eq_true rfl, Nat.le_of_ble_eq_true rfl⟩) (vz_pvW (va_recv hZ.1 hPB (ci := 7) (q0 := 0) rfl rfl) hZ hPB (zDr hD)) rfl rfl hl.1 rfl (lv_room (Nat.le_of_ble_eq_true rfl)) dL_law_410 ⟨Nat.le_of_ble_eq_true rfl, Nat.le_of_ble_eq_true rfl⟩) hS (fun q _ h => hF2 q h) hF2 (fun r2 u2_ t2 H2 locs2 ht hvm hw2 hB hz1 hk1 hS9 => ?_)
  rw [ht] at hB
  replace hPA : va_P D vwCl (zSA cI h len cd n ks gs wt mi pl sk he 0 ru bg la sd pl2 sk2 he2 nh2 ru2 bg2 la2 sd2 u0 l0 u1 l1 u2 l2 wy fi fl nu ik pr) H2 := zkeepL hD hPA hk1
  replace hPB : va_P D vwCl (zM cI g len rm rr st n ru bg la sd pr ry 0 xu xl sn kp kr kb kl kw kh hc pg rd rw ro be hm kro khe) H2 := hB
  replace hD : va_D (fun q : Nat => s.heap.size ≤ q) (zSA cI h len cd n ks gs wt mi pl sk he 0 ru bg la sd pl2 sk2 he2 nh2 ru2 bg2 la2 sd2 u0 l0 u1 l1 u2 l2 wy fi fl nu ik pr ++ zM cI g len rm rr st n ru bg la sd pr ry 0 xu xl sn kp kr kb kl kw kh hc pg rd rw ro be hm kro khe) := vz_same hD rfl
  replace hS := hS9
  clear hS9 hB hk1 hz1 ht hvm hF2
  have e12 : r1 = r2 := ((show r1 = _ from hw1).trans (rfl)).trans (show r2 = _ from hw2).symm
  have Wd2 : zWd D cI h g (fun q : Nat => s.heap.size ≤ q) (i + 1) H2 := ⟨len, cd, n, ks, gs, wt, mi, pl, sk, he, 0, ru, bg, la, sd, pl2, sk2, he2, nh2, ru2, bg2, la2, sd2, u0, l0, u1, l1, u2, l2, wy, fi, fl, nu, ik, pr, rm, rr, st, ry, xu, xl, sn, kp, kr, kb, kl, kw, kh, hc, pg, rd, rw, ro, be, hm, kro, khe, X.forget, hPA, hPB, hD⟩
  refine lv_icmp_eq (tgt := 550) hx hb dL_law_413 (by decide) (fun _ => ?_) (fun c1 => absurd e12 c1)
  exact K _ _ Wd2 hS

set_option maxHeartbeats 4000000 in
set_option maxRecDepth 100000 in
theorem lw_count {p : Program} {l : Launch} {e : Env} {s : State} {m : MethodId} {below : List Frame} {meth : Method} {c : Code} {b L : Nat} {xs : Nat → Int32} {D : va_G} {cI : ClassId} {sa va : Nat} {h g : Nat → Nat} (C0 : lw_At p s m meth c b L xs) (hZ : zK D cI s) (hT : zS sa va (fun q : Nat => s.heap.size ≤ q) s s.heap) {i : Nat} (hL : L ≤ 256) (hi4 : 4 * i + 4 ≤ L) {H : Heap} {locs : List Loc} (Wd : zWd D cI h g (fun q : Nat => s.heap.size ≤ q) i H) (hS : va_S (fun q : Nat => s.heap.size ≤ q) s.heap H locs) {ls : Array Slot} (hl : lv_has ls 4 [(3, .int (nI (4 * i))), (2, .ref (g 0)), (1, .ref (h 0)), (0, .ref b)]) (K : ∀ (H1 : Heap) (locs1 : List Loc), zWd D cI h g (fun q : Nat => s.heap.size ≤ q) (i + 1) H1 → va_S (fun q : Nat => s.heap.size ≤ q) s.heap H1 locs1 → W p l e room_1 s m #[Value.ref b] below meth c H1 locs1 44 294 (lw_Z below #[Value.ref b] s) (F0 m 550 ls [])) : W p l e room_1 s m #[Value.ref b] below meth c H locs 44 294 (lw_Z below #[Value.ref b] s) (F0 m 513 ls []) := by
  obtain ⟨hx, hb, hr, hml, hown, hts0, hX, hbl, hlocks, hgv⟩ := C0
  have hts : ∀ w ∈ wsL_law, w.before #[Value.ref b] s = true := fun w hw => hts0 w (wsL_law_in w hw)
  have hA : ∀ q : Nat, s.heap.size ≤ q → (fun q : Nat => s.heap.size ≤ q) q := fun _ h => h
  have hbA : ¬ (fun q : Nat => s.heap.size ≤ q) b := Nat.not_le.mpr hbl
  obtain ⟨len, cd, n, ks, gs, wt, mi, pl, sk, he, nh, ru, bg, la, sd, pl2, sk2, he2, nh2, ru2, bg2, la2, sd2, u0, l0, u1, l1, u2, l2, wy, fi, fl, nu, ik, pr, rm, rr, st, ry, xu, xl, sn, kp, kr, kb, kl, kw, kh, hc, pg, rd, rw, ro, be, hm, kro, khe, X, hPA, hPB, hD⟩ := Wd
  have hi : i ≤ 64 := by omega
  have hx1 := lw_in1 hi4 hL
  refine lv_aload_n hx hb dL_law_513 rfl (lv_at hl 2 rfl) ?_
  refine lv_aload_n hx hb dL_law_514 rfl (lv_at hl 3 rfl) ?_
  refine lv_iload_n hx hb dL_law_515 rfl (lv_at hl 0 rfl) ?_
  refine lv_iconst (v := 1) hx hb dL_law_516 (by decide) ?_
  refine lv_iadd hx hb dL_law_517 ?_
  refine va_sld hx hb hX hbl hbA hS hx1 dL_law_518 ?_
  refine vp_callSi (W.runV (As := [.int (xs (nI (4 * i) + 1).toNatClampNeg)]) (rest := []) ⟨hx, hb, hml, hown, hts⟩ (c_X6_count l D cI h len cd n ks gs wt mi pl sk he nh ru bg la sd pl2 sk2 he2 nh2 ru2 bg2 la2 sd2 u0 l0 u1 l1 u2 l2 wy fi fl nu ik pr (xs (nI (4 * i) + 1).toNatClampNeg) X.2.1.n6) (cwV 1 hts gL_law_X6_count rfl rfl rfl (by decide +kernel) ⟨Nat.le_of_ble_eq_true rfl, Nat.le_of_ble_eq_true rfl⟩) (vz_pvR (va_recv hZ.1 hPA (ci := 6) (q0 := 0) rfl rfl) hZ hPA) rfl rfl hl.1 rfl (lv_room (Nat.le_of_ble_eq_true rfl)) dL_law_519 ⟨Nat.le_of_ble_eq_true rfl, Nat.le_of_ble_eq_true rfl⟩) (fun r1 hw1 => ?_)
  refine lv_aload_n hx hb dL_law_522 rfl (lv_at hl 1 rfl) ?_
  refine lv_aload_n hx hb dL_law_523 rfl (lv_at hl 3 rfl) ?_
  refine lv_iload_n hx hb dL_law_524 rfl (lv_at hl 0 rfl) ?_
  refine lv_iconst (v := 1) hx hb dL_law_525 (by decide) ?_
  refine lv_iadd hx hb dL_law_526 ?_
  refine va_sld hx hb hX hbl hbA hS hx1 dL_law_527 ?_
  refine vp_callSi (W.runV (As := [.int (xs (nI (4 * i) + 1).toNatClampNeg)]) (rest := [.int r1]) ⟨hx, hb, hml, hown, hts⟩ (c_X7_count l D cI g len rm rr st n ru bg la sd pr ry nh xu xl sn kp kr kb kl kw kh hc pg rd rw ro be hm kro khe (xs (nI (4 * i) + 1).toNatClampNeg) X.2.1.n6 X.2.2.1.2.2) (cwV 1 hts gL_law_X7_count rfl rfl rfl (by decide +kernel) ⟨Nat.le_of_ble_eq_true rfl, Nat.le_of_ble_eq_true rfl⟩) (vz_pvR (va_recv hZ.1 hPB (ci := 7) (q0 := 0) rfl rfl) hZ hPB) rfl rfl hl.1 rfl (lv_room (Nat.le_of_ble_eq_true rfl)) dL_law_528 ⟨Nat.le_of_ble_eq_true rfl, Nat.le_of_ble_eq_true rfl⟩) (fun r2 hw2 => ?_)
  have e12 : r1 = r2 := ((show r1 = _ from hw1).trans (X.2.1.count X.2.2.1 nh len pr (xs (nI (4 * i) + 1).toNatClampNeg))).trans (show r2 = _ from hw2).symm
  have Wd2 : zWd D cI h g (fun q : Nat => s.heap.size ≤ q) (i + 1) H := ⟨len, cd, n, ks, gs, wt, mi, pl, sk, he, nh, ru, bg, la, sd, pl2, sk2, he2, nh2, ru2, bg2, la2, sd2, u0, l0, u1, l1, u2, l2, wy, fi, fl, nu, ik, pr, rm, rr, st, ry, xu, xl, sn, kp, kr, kb, kl, kw, kh, hc, pg, rd, rw, ro, be, hm, kro, khe, X.more, hPA, hPB, hD⟩
  refine lv_icmp_eq (tgt := 550) hx hb dL_law_531 (by decide) (fun _ => ?_) (fun c1 => absurd e12 c1)
  exact K _ _ Wd2 hS
set_option maxHeartbeats 4000000 in
set_option maxRecDepth 100000 in
theorem lw_digest {p : Program} {l : Launch} {e : Env} {s : State} {m : MethodId} {below : List Frame} {meth : Method} {c : Code} {b L : Nat} {xs : Nat → Int32} {D : va_G} {cI : ClassId} {sa va : Nat} {h g : Nat → Nat} (C0 : lw_At p s m meth c b L xs) (hZ : zK D cI s) (hT : zS sa va (fun q : Nat => s.heap.size ≤ q) s s.heap) {i : Nat} (hL : L ≤ 256) (hi4 : 4 * i + 4 ≤ L) {H : Heap} {locs : List Loc} (Wd : zWd D cI h g (fun q : Nat => s.heap.size ≤ q) i H) (hS : va_S (fun q : Nat => s.heap.size ≤ q) s.heap H locs) {ls : Array Slot} (hl : lv_has ls 4 [(3, .int (nI (4 * i))), (2, .ref (g 0)), (1, .ref (h 0)), (0, .ref b)]) (K : ∀ (H1 : Heap) (locs1 : List Loc), zWd D cI h g (fun q : Nat => s.heap.size ≤ q) (i + 1) H1 → va_S (fun q : Nat => s.heap.size ≤ q) s.heap H1 locs1 → W p l e room_1 s m #[Value.ref b] below meth c H1 locs1 44 294 (lw_Z below #[Value.ref b] s) (F0 m 550 ls [])) : W p l e room_1 s m #[Value.ref b] below meth c H locs 44 294 (lw_Z below #[Value.ref b] s) (F0 m 536 ls []) := by
  obtain ⟨hx, hb, hr, hml, hown, hts0, hX, hbl, hlocks, hgv⟩ := C0
  have hts : ∀ w ∈ wsL_law, w.before #[Value.ref b] s = true := fun w hw => hts0 w (wsL_law_in w hw)
  have hA : ∀ q : Nat, s.heap.size ≤ q → (fun q : Nat => s.heap.size ≤ q) q := fun _ h => h
  have hbA : ¬ (fun q : Nat => s.heap.size ≤ q) b := Nat.not_le.mpr hbl
  obtain ⟨len, cd, n, ks, gs, wt, mi, pl, sk, he, nh, ru, bg, la, sd, pl2, sk2, he2, nh2, ru2, bg2, la2, sd2, u0, l0, u1, l1, u2, l2, wy, fi, fl, nu, ik, pr, rm, rr, st, ry, xu, xl, sn, kp, kr, kb, kl, kw, kh, hc, pg, rd, rw, ro, be, hm, kro, khe, X, hPA, hPB, hD⟩ := Wd
  have hi : i ≤ 64 := by omega
  refine lv_aload_n hx hb dL_law_536 rfl (lv_at hl 2 rfl) ?_
  have hF1 : ∀ q, va_A (zSA cI h len cd n ks gs wt mi pl sk he nh ru bg la sd pl2 sk2 he2 nh2 ru2 bg2 la2 sd2 u0 l0 u1 l1 u2 l2 wy fi fl nu ik pr) H.size q → (fun q : Nat => s.heap.size ≤ q) q := vz_freeAll (zDl hD) hS hA
  refine va_calll (va_runV (As := []) (rest := []) ⟨hx, hb, hml, hown, hts⟩ (c_X6_digest l D cI h len cd n ks gs wt mi pl sk he nh ru bg la sd pl2 sk2 he2 nh2 ru2 bg2 la2 sd2 u0 l0 u1 l1 u2 l2 wy fi fl nu ik pr H.size X.2.1.n6 X.2.2.2.1.1 X.1.1 (X.2.1.hch hi X.2.2.1)) (cwV 0 hts gL_law_X6_digest rfl rfl rfl (by decide +kernel) ⟨Nat.le_of_ble_eq_true rfl, Nat.le_of_ble_eq_true rfl⟩) (vz_pvW (va_recv hZ.1 hPA (ci := 6) (q0 := 0) rfl rfl) hZ hPA (zDl hD)) rfl rfl hl.1 rfl (lv_room (Nat.le_of_ble_eq_true rfl)) dL_law_537 ⟨Nat.le_of_ble_eq_true rfl, Nat.le_of_ble_eq_true rfl⟩) hS (fun q _ h => hF1 q h) hF1 (fun r1 u1_ t1 H1 locs1 ht hvm hw1 hB hz1 hk1 hS9 => ?_)
  rw [ht] at hB
  replace hPB : va_P D vwCl (zM cI g len rm rr st n ru bg la sd pr ry nh xu xl sn kp kr kb kl kw kh hc pg rd rw ro be hm kro khe) H1 := zkeepR hD hPB hk1
  replace hPA : va_P D vwCl (zSA cI h len cd n ks gs wt mi pl sk he nh ru bg la sd pl2 sk2 he2 nh2 ru2 bg2 la2 sd2 u1_.1 u1_.2.1 u1_.2.2.1 u1_.2.2.2.1 u1_.2.2.2.2.1 u1_.2.2.2.2.2.1 u1_.2.2.2.2.2.2.1 u1_.2.2.2.2.2.2.2.1 u1_.2.2.2.2.2.2.2.2.1 u1_.2.2.2.2.2.2.2.2.2 ik pr) H1 := hB
  replace hD : va_D (fun q : Nat => s.heap.size ≤ q) (zSA cI h len cd n ks gs wt mi pl sk he nh ru bg la sd pl2 sk2 he2 nh2 ru2 bg2 la2 sd2 u1_.1 u1_.2.1 u1_.2.2.1 u1_.2.2.2.1 u1_.2.2.2.2.1 u1_.2.2.2.2.2.1 u1_.2.2.2.2.2.2.1 u1_.2.2.2.2.2.2.2.1 u1_.2.2.2.2.2.2.2.2.1 u1_.2.2.2.2.2.2.2.2.2 ik pr ++ zM cI g len rm rr st n ru bg la sd pr ry nh xu xl sn kp kr kb kl kw kh hc pg rd rw ro be hm kro khe) := vz_same hD rfl
  replace hS := hS9
  clear hS9 hB hk1 hz1 ht hvm hF1
  refine lv_aload_n hx hb dL_law_540 rfl (lv_at hl 1 rfl) ?_
  have hF2 : ∀ q, va_A (zM cI g len rm rr st n ru bg la sd pr ry nh xu xl sn kp kr kb kl kw kh hc pg rd rw ro be hm kro khe) H1.size q → (fun q : Nat => s.heap.size ≤ q) q := vz_freeAll (zDr hD) hS hA
  refine va_calll (va_runV (As := []) (rest := [.long r1]) ⟨hx, hb, hml, hown, hts⟩ (c_X7_digest l D cI g len rm rr st n ru bg la sd pr ry nh xu xl sn kp kr kb kl kw kh hc pg rd rw ro be hm kro khe H1.size X.2.1.n6 X.1.1 X.2.2.2.1.1 (fun k hk => (X.2.2.2.1.2 k hk).2) X.2.2.1.2.2 (X.dd hi)) (cwV 0 hts gL_law_X7_digest rfl rfl rfl (by decide +kernel) ⟨Nat.le_of_ble_eq_true rfl, Nat.le_of_ble_eq_true rfl⟩) (vz_pvW (va_recv hZ.1 hPB (ci := 7) (q0 := 0) rfl rfl) hZ hPB (zDr hD)) rfl rfl hl.1 rfl (lv_room (Nat.le_of_ble_eq_true rfl)) dL_law_541 ⟨Nat.le_of_ble_eq_true rfl, Nat.le_of_ble_eq_true rfl⟩) hS (fun q _ h => hF2 q h) hF2 (fun r2 u2_ t2 H2 locs2 ht hvm hw2 hB hz1 hk1 hS9 => ?_)
  rw [ht] at hB
  replace hPA : va_P D vwCl (zSA cI h len cd n ks gs wt mi pl sk he nh ru bg la sd pl2 sk2 he2 nh2 ru2 bg2 la2 sd2 u1_.1 u1_.2.1 u1_.2.2.1 u1_.2.2.2.1 u1_.2.2.2.2.1 u1_.2.2.2.2.2.1 u1_.2.2.2.2.2.2.1 u1_.2.2.2.2.2.2.2.1 u1_.2.2.2.2.2.2.2.2.1 u1_.2.2.2.2.2.2.2.2.2 ik pr) H2 := zkeepL hD hPA hk1
  replace hPB : va_P D vwCl (zM cI g len rm rr st n ru bg la sd pr u2_.2.2.1 nh u2_.2.2.2.1 u2_.2.2.2.2.1 sn kp kr kb kl kw kh u2_.2.2.2.2.2 pg rd rw u2_.1 u2_.2.1 hm kro khe) H2 := hB
  replace hD : va_D (fun q : Nat => s.heap.size ≤ q) (zSA cI h len cd n ks gs wt mi pl sk he nh ru bg la sd pl2 sk2 he2 nh2 ru2 bg2 la2 sd2 u1_.1 u1_.2.1 u1_.2.2.1 u1_.2.2.2.1 u1_.2.2.2.2.1 u1_.2.2.2.2.2.1 u1_.2.2.2.2.2.2.1 u1_.2.2.2.2.2.2.2.1 u1_.2.2.2.2.2.2.2.2.1 u1_.2.2.2.2.2.2.2.2.2 ik pr ++ zM cI g len rm rr st n ru bg la sd pr u2_.2.2.1 nh u2_.2.2.2.1 u2_.2.2.2.2.1 sn kp kr kb kl kw kh u2_.2.2.2.2.2 pg rd rw u2_.1 u2_.2.1 hm kro khe) := vz_same hD rfl
  replace hS := hS9
  clear hS9 hB hk1 hz1 ht hvm hF2
  have e12 : r1 = r2 := ((show r1 = _ from hw1).trans (X.2.1.dgs hi X.2.2.1 X.2.2.2.1 X.1 wy fi pr)).trans (show r2 = _ from hw2).symm
  have Wd2 : zWd D cI h g (fun q : Nat => s.heap.size ≤ q) (i + 1) H2 := ⟨len, cd, n, ks, gs, wt, mi, pl, sk, he, nh, ru, bg, la, sd, pl2, sk2, he2, nh2, ru2, bg2, la2, sd2, u1_.1, u1_.2.1, u1_.2.2.1, u1_.2.2.2.1, u1_.2.2.2.2.1, u1_.2.2.2.2.2.1, u1_.2.2.2.2.2.2.1, u1_.2.2.2.2.2.2.2.1, u1_.2.2.2.2.2.2.2.2.1, u1_.2.2.2.2.2.2.2.2.2, ik, pr, rm, rr, st, u2_.2.2.1, u2_.2.2.2.1, u2_.2.2.2.2.1, sn, kp, kr, kb, kl, kw, kh, u2_.2.2.2.2.2, pg, rd, rw, u2_.1, u2_.2.1, hm, kro, khe, X.more, hPA, hPB, hD⟩
  refine W.lcmp hx hb dL_law_544 ?_
  refine lv_if_eq (tgt := 550) hx hb dL_law_545 (by decide) (fun _ => ?_) (fun c1 => absurd ((lg_cmp_eq _ _).mpr e12) c1)
  exact K _ _ Wd2 hS

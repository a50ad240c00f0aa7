set_option maxHeartbeats 4000000 in
set_option maxRecDepth 100000 in
theorem lw_image {p : Program} {l : Launch} {e : Env} {s : State} {m : MethodId} {below : List Frame} {meth : Method} {c : Code} {b L : Nat} {xs : Nat → Int32} {D : va_G} {cI : ClassId} {sa va : Nat} {h g : Nat → Nat} (C0 : lw_At p s m meth c b L xs) (hZ : zK D cI s) (hT : zS sa va (fun q : Nat => s.heap.size ≤ q) s s.heap) {i : Nat} (hL : L ≤ 256) (hi4 : 4 * i + 4 ≤ L) {H : Heap} {locs : List Loc} (Wd : zWd D cI h g (fun q : Nat => s.heap.size ≤ q) i H) (hS : va_S (fun q : Nat => s.heap.size ≤ q) s.heap H locs) {ls : Array Slot} (hl : lv_has ls 4 [(3, .int (nI (4 * i))), (2, .ref (g 0)), (1, .ref (h 0)), (0, .ref b)]) (K : ∀ (H1 : Heap) (locs1 : List Loc), zWd D cI h g (fun q : Nat => s.heap.size ≤ q) (i + 1) H1 → va_S (fun q : Nat => s.heap.size ≤ q) s.heap H1 locs1 → W p l e room_1 s m #[Value.ref b] below meth c H1 locs1 44 294 (lw_Z below #[Value.ref b] s) (F0 m 550 ls [])) : W p l e room_1 s m #[Value.ref b] below meth c H locs 44 294 (lw_Z below #[Value.ref b] s) (F0 m 487 ls []) := by
  obtain ⟨hx, hb, hr, hml, hown, hts0, hX, hbl, hlocks, hgv⟩ := C0
  have hts : ∀ w ∈ wsL_law, w.before #[Value.ref b] s = true := fun w hw => hts0 w (wsL_law_in w hw)
  have hA : ∀ q : Nat, s.heap.size ≤ q → (fun q : Nat => s.heap.size ≤ q) q := fun _ h => h
  have hbA : ¬ (fun q : Nat => s.heap.size ≤ q) b := Nat.not_le.mpr hbl
  obtain ⟨len, cd, n, ks, gs, wt, mi, pl, sk, he, nh, ru, bg, la, sd, pl2, sk2, he2, nh2, ru2, bg2, la2, sd2, u0, l0, u1, l1, u2, l2, wy, fi, fl, nu, ik, pr, rm, rr, st, ry, xu, xl, sn, kp, kr, kb, kl, kw, kh, hc, pg, rd, rw, ro, be, hm, kro, khe, X, hPA, hPB, hD⟩ := Wd
  have hi : i ≤ 64 := by omega
  refine lv_aload_n hx hb dL_law_487 rfl (lv_at hl 2 rfl) ?_
  have hF1 : ∀ q, va_A (zSA cI h len cd n ks gs wt mi pl sk he nh ru bg la sd pl2 sk2 he2 nh2 ru2 bg2 la2 sd2 u0 l0 u1 l1 u2 l2 wy fi fl nu ik pr) H.size q → (fun q : Nat => s.heap.size ≤ q) q := vz_freeAll (zDl hD) hS hA
  refine va_calli (va_runV (As := []) (rest := []) ⟨hx, hb, hml, hown, hts⟩ (c_X6_image l D cI h len cd n ks gs wt mi pl sk he nh ru bg la sd pl2 sk2 he2 nh2 ru2 bg2 la2 sd2 u0 l0 u1 l1 u2 l2 wy fi fl nu ik pr H.size X.2.1.n6) (cwV 0 hts gL_law_X6_image rfl rfl rfl (by decide +kernel) ⟨Nat.le_of_ble_eq_true rfl, Nat.le_of_ble_eq_true rfl⟩) (vz_pvW (va_recv hZ.1 hPA (ci := 6) (q0 := 0) rfl rfl) hZ hPA (zDl hD)) rfl rfl hl.1 rfl (lv_room (Nat.le_of_ble_eq_true rfl)) dL_law_488 ⟨Nat.le_of_ble_eq_true rfl, Nat.le_of_ble_eq_true rfl⟩) hS (fun q _ h => hF1 q h) hF1 (fun r1 u1_ t1 H1 locs1 ht hvm hw1 hB hz1 hk1 hS9 => ?_)
  rw [ht] at hB
  replace hPB : va_P D vwCl (zM cI g len rm rr st n ru bg la sd pr ry nh xu xl sn kp kr kb kl kw kh hc pg rd rw ro be hm kro khe) H1 := zkeepR hD hPB hk1
  replace hPA : va_P D vwCl (zSA cI h len cd n ks gs wt mi pl sk he nh ru bg la sd (pl_n (sa_np n) pl2 (rw_cp pl pl2 6)) (pl_n (sa_np n) sk2 (rw_cp sk sk2 6)) (pl_n (sa_np n) he2 (rw_cp he he2 8)) (pl_n (sa_np n) nh2 (nh)) (pl_n (sa_np n) ru2 (ru)) (pl_n (sa_np n) bg2 (bg)) (pl_n (sa_np n) la2 (la)) (pl_n (sa_np n) sd2 (sd)) u0 l0 u1 l1 u2 l2 wy fi fl nu (pl_n (sa_np n) ik (true)) pr) H1 := hB
  replace hD : va_D (fun q : Nat => s.heap.size ≤ q) (zSA cI h len cd n ks gs wt mi pl sk he nh ru bg la sd (pl_n (sa_np n) pl2 (rw_cp pl pl2 6)) (pl_n (sa_np n) sk2 (rw_cp sk sk2 6)) (pl_n (sa_np n) he2 (rw_cp he he2 8)) (pl_n (sa_np n) nh2 (nh)) (pl_n (sa_np n) ru2 (ru)) (pl_n (sa_np n) bg2 (bg)) (pl_n (sa_np n) la2 (la)) (pl_n (sa_np n) sd2 (sd)) u0 l0 u1 l1 u2 l2 wy fi fl nu (pl_n (sa_np n) ik (true)) pr ++ zM cI g len rm rr st n ru bg la sd pr ry nh xu xl sn kp kr kb kl kw kh hc pg rd rw ro be hm kro khe) := vz_same hD rfl
  replace hS := hS9
  clear hS9 hB hk1 hz1 ht hvm hF1
  refine lv_aload_n hx hb dL_law_491 rfl (lv_at hl 1 rfl) ?_
  have hF2 : ∀ q, va_A (zM cI g len rm rr st n ru bg la sd pr ry nh xu xl sn kp kr kb kl kw kh hc pg rd rw ro be hm kro khe) H1.size q → (fun q : Nat => s.heap.size ≤ q) q := vz_freeAll (zDr hD) hS hA
  refine va_calli (va_runV (As := []) (rest := [.int r1]) ⟨hx, hb, hml, hown, hts⟩ (c_X7_image l D cI g len rm rr st n ru bg la sd pr ry nh xu xl sn kp kr kb kl kw kh hc pg rd rw ro be hm kro khe H1.size X.2.1.n6) (cwV 0 hts gL_law_X7_image rfl rfl rfl (by decide +kernel) ⟨Nat.le_of_ble_eq_true rfl, Nat.le_of_ble_eq_true rfl⟩) (vz_pvW (va_recv hZ.1 hPB (ci := 7) (q0 := 0) rfl rfl) hZ hPB (zDr hD)) rfl rfl hl.1 rfl (lv_room (Nat.le_of_ble_eq_true rfl)) dL_law_492 ⟨Nat.le_of_ble_eq_true rfl, Nat.le_of_ble_eq_true rfl⟩) hS (fun q _ h => hF2 q h) hF2 (fun r2 u2_ t2 H2 locs2 ht hvm hw2 hB hz1 hk1 hS9 => ?_)
  rw [ht] at hB
  replace hPA : va_P D vwCl (zSA cI h len cd n ks gs wt mi pl sk he nh ru bg la sd (pl_n (sa_np n) pl2 (rw_cp pl pl2 6)) (pl_n (sa_np n) sk2 (rw_cp sk sk2 6)) (pl_n (sa_np n) he2 (rw_cp he he2 8)) (pl_n (sa_np n) nh2 (nh)) (pl_n (sa_np n) ru2 (ru)) (pl_n (sa_np n) bg2 (bg)) (pl_n (sa_np n) la2 (la)) (pl_n (sa_np n) sd2 (sd)) u0 l0 u1 l1 u2 l2 wy fi fl nu (pl_n (sa_np n) ik (true)) pr) H2 := zkeepL hD hPA hk1
  replace hPB : va_P D vwCl (zM cI g len rm rr st n ru bg la sd pr ry nh xu xl sn (pl_n (sa_np n) kp (nI pr)) (pl_n (sa_np n) kr (ru)) (pl_n (sa_np n) kb (bg)) (pl_n (sa_np n) kl (la)) (pl_n (sa_np n) kw (sd)) (pl_n (sa_np n) kh (nh)) hc pg rd rw ro be hm (pl_n (sa_np n) kro (rw_cp rw kro 24)) (pl_n (sa_np n) khe (rw_cp hm khe 8))) H2 := hB
  replace hD : va_D (fun q : Nat => s.heap.size ≤ q) (zSA cI h len cd n ks gs wt mi pl sk he nh ru bg la sd (pl_n (sa_np n) pl2 (rw_cp pl pl2 6)) (pl_n (sa_np n) sk2 (rw_cp sk sk2 6)) (pl_n (sa_np n) he2 (rw_cp he he2 8)) (pl_n (sa_np n) nh2 (nh)) (pl_n (sa_np n) ru2 (ru)) (pl_n (sa_np n) bg2 (bg)) (pl_n (sa_np n) la2 (la)) (pl_n (sa_np n) sd2 (sd)) u0 l0 u1 l1 u2 l2 wy fi fl nu (pl_n (sa_np n) ik (true)) pr ++ zM cI g len rm rr st n ru bg la sd pr ry nh xu xl sn (pl_n (sa_np n) kp (nI pr)) (pl_n (sa_np n) kr (ru)) (pl_n (sa_np n) kb (bg)) (pl_n (sa_np n) kl (la)) (pl_n (sa_np n) kw (sd)) (pl_n (sa_np n) kh (nh)) hc pg rd rw ro be hm (pl_n (sa_np n) kro (rw_cp rw kro 24)) (pl_n (sa_np n) khe (rw_cp hm khe 8))) := vz_same hD rfl
  replace hS := hS9
  clear hS9 hB hk1 hz1 ht hvm hF2
  have e12 : r1 = r2 := ((show r1 = _ from hw1).trans (zq_image X)).trans (show r2 = _ from hw2).symm
  have Wd2 : zWd D cI h g (fun q : Nat => s.heap.size ≤ q) (i + 1) H2 := ⟨len, cd, n, ks, gs, wt, mi, pl, sk, he, nh, ru, bg, la, sd, pl_n (sa_np n) pl2 (rw_cp pl pl2 6), pl_n (sa_np n) sk2 (rw_cp sk sk2 6), pl_n (sa_np n) he2 (rw_cp he he2 8), pl_n (sa_np n) nh2 (nh), pl_n (sa_np n) ru2 (ru), pl_n (sa_np n) bg2 (bg), pl_n (sa_np n) la2 (la), pl_n (sa_np n) sd2 (sd), u0, l0, u1, l1, u2, l2, wy, fi, fl, nu, pl_n (sa_np n) ik (true), pr, rm, rr, st, ry, xu, xl, sn, pl_n (sa_np n) kp (nI pr), pl_n (sa_np n) kr (ru), pl_n (sa_np n) kb (bg), pl_n (sa_np n) kl (la), pl_n (sa_np n) kw (sd), pl_n (sa_np n) kh (nh), hc, pg, rd, rw, ro, be, hm, pl_n (sa_np n) kro (rw_cp rw kro 24), pl_n (sa_np n) khe (rw_cp hm khe 8), X.image, hPA, hPB, hD⟩
  refine lv_icmp_eq (tgt := 550) hx hb dL_law_495 (by decide) (fun _ => ?_) (fun c1 => absurd e12 c1)
  exact K _ _ Wd2 hS
set_option maxHeartbeats 4000000 in
set_option maxRecDepth 100000 in
theorem lw_restore {p : Program} {l : Launch} {e : Env} {s : State} {m : MethodId} {below : List Frame} {meth : Method} {c : Code} {b L : Nat} {xs : Nat → Int32} {D : va_G} {cI : ClassId} {sa va : Nat} {h g : Nat → Nat} (C0 : lw_At p s m meth c b L xs) (hZ : zK D cI s) (hT : zS sa va (fun q : Nat => s.heap.size ≤ q) s s.heap) {i : Nat} (hL : L ≤ 256) (hi4 : 4 * i + 4 ≤ L) {H : Heap} {locs : List Loc} (Wd : zWd D cI h g (fun q : Nat => s.heap.size ≤ q) i H) (hS : va_S (fun q : Nat => s.heap.size ≤ q) s.heap H locs) {ls : Array Slot} (hl : lv_has ls 4 [(3, .int (nI (4 * i))), (2, .ref (g 0)), (1, .ref (h 0)), (0, .ref b)]) (K : ∀ (H1 : Heap) (locs1 : List Loc), zWd D cI h g (fun q : Nat => s.heap.size ≤ q) (i + 1) H1 → va_S (fun q : Nat => s.heap.size ≤ q) s.heap H1 locs1 → W p l e room_1 s m #[Value.ref b] below meth c H1 locs1 44 294 (lw_Z below #[Value.ref b] s) (F0 m 550 ls [])) : W p l e room_1 s m #[Value.ref b] below meth c H locs 44 294 (lw_Z below #[Value.ref b] s) (F0 m 500 ls []) := by
  obtain ⟨hx, hb, hr, hml, hown, hts0, hX, hbl, hlocks, hgv⟩ := C0
  have hts : ∀ w ∈ wsL_law, w.before #[Value.ref b] s = true := fun w hw => hts0 w (wsL_law_in w hw)
  have hA : ∀ q : Nat, s.heap.size ≤ q → (fun q : Nat => s.heap.size ≤ q) q := fun _ h => h
  have hbA : ¬ (fun q : Nat => s.heap.size ≤ q) b := Nat.not_le.mpr hbl
  obtain ⟨len, cd, n, ks, gs, wt, mi, pl, sk, he, nh, ru, bg, la, sd, pl2, sk2, he2, nh2, ru2, bg2, la2, sd2, u0, l0, u1, l1, u2, l2, wy, fi, fl, nu, ik, pr, rm, rr, st, ry, xu, xl, sn, kp, kr, kb, kl, kw, kh, hc, pg, rd, rw, ro, be, hm, kro, khe, X, hPA, hPB, hD⟩ := Wd
  have hi : i ≤ 64 := by omega
  obtain ⟨X3, hre⟩ := X.restore
  have hke := X.key hi
  refine lv_aload_n hx hb dL_law_500 rfl (lv_at hl 2 rfl) ?_
  have hF1 : ∀ q, va_A (zSA cI h len cd n ks gs wt mi pl sk he nh ru bg la sd pl2 sk2 he2 nh2 ru2 bg2 la2 sd2 u0 l0 u1 l1 u2 l2 wy fi fl nu ik pr) H.size q → (fun q : Nat => s.heap.size ≤ q) q := vz_freeAll (zDl hD) hS hA
  refine va_calli (va_runV (As := []) (rest := []) ⟨hx, hb, hml, hown, hts⟩ (c_X6_restore l D cI h len cd n ks gs wt mi pl sk he nh ru bg la sd pl2 sk2 he2 nh2 ru2 bg2 la2 sd2 u0 l0 u1 l1 u2 l2 wy fi fl nu ik pr H.size) (cwV 0 hts gL_law_X6_restore rfl rfl rfl (by decide +kernel) ⟨Nat.le_of_ble_eq_true rfl, Nat.le_of_ble_eq_true rfl⟩) (vz_pvW (va_recv hZ.1 hPA (ci := 6) (q0 := 0) rfl rfl) hZ hPA (zDl hD)) rfl rfl hl.1 rfl (lv_room (Nat.le_of_ble_eq_true rfl)) dL_law_501 ⟨Nat.le_of_ble_eq_true rfl, Nat.le_of_ble_eq_true rfl⟩) hS (fun q _ h => hF1 q h) hF1 (fun r1 u1_ t1 H1 locs1 ht hvm hw1 hB hz1 hk1 hS9 => ?_)
  rw [ht] at hB
  replace hPB : va_P D vwCl (zM cI g len rm rr st n ru bg la sd pr ry nh xu xl sn kp kr kb kl kw kh hc pg rd rw ro be hm kro khe) H1 := zkeepR hD hPB hk1
  replace hPA : va_P D vwCl (zSA cI h len cd n ks gs wt mi (pl_n ik (rw_cp pl2 pl 6) pl) (pl_n ik (rw_cp sk2 sk 6) sk) (pl_n ik (rw_cp he2 he 8) he) (pl_n ik (nh2) nh) (pl_n ik (ru2) ru) (pl_n ik (bg2) bg) (pl_n ik (la2) la) (pl_n ik (sd2) sd) pl2 sk2 he2 nh2 ru2 bg2 la2 sd2 u0 l0 u1 l1 u2 l2 wy fi fl nu ik pr) H1 := hB
  replace hD : va_D (fun q : Nat => s.heap.size ≤ q) (zSA cI h len cd n ks gs wt mi (pl_n ik (rw_cp pl2 pl 6) pl) (pl_n ik (rw_cp sk2 sk 6) sk) (pl_n ik (rw_cp he2 he 8) he) (pl_n ik (nh2) nh) (pl_n ik (ru2) ru) (pl_n ik (bg2) bg) (pl_n ik (la2) la) (pl_n ik (sd2) sd) pl2 sk2 he2 nh2 ru2 bg2 la2 sd2 u0 l0 u1 l1 u2 l2 wy fi fl nu ik pr ++ zM cI g len rm rr st n ru bg la sd pr ry nh xu xl sn kp kr kb kl kw kh hc pg rd rw ro be hm kro khe) := vz_same hD rfl
  replace hS := hS9
  clear hS9 hB hk1 hz1 ht hvm hF1
  refine lv_aload_n hx hb dL_law_504 rfl (lv_at hl 1 rfl) ?_
  have hF2 : ∀ q, va_A (zM cI g len rm rr st n ru bg la sd pr ry nh xu xl sn kp kr kb kl kw kh hc pg rd rw ro be hm kro khe) H1.size q → (fun q : Nat => s.heap.size ≤ q) q := vz_freeAll (zDr hD) hS hA
  refine va_calli (va_runV (As := []) (rest := [.int r1]) ⟨hx, hb, hml, hown, hts⟩ (c_X7_restore l D cI g len rm rr st n ru bg la sd pr ry nh xu xl sn kp kr kb kl kw kh hc pg rd rw ro be hm kro khe H1.size X.2.1.n6) (cwV 0 hts gL_law_X7_restore rfl rfl rfl (by decide +kernel) ⟨Nat.le_of_ble_eq_true rfl, Nat.le_of_ble_eq_true rfl⟩) (vz_pvW (va_recv hZ.1 hPB (ci := 7) (q0 := 0) rfl rfl) hZ hPB (zDr hD)) rfl rfl hl.1 rfl (lv_room (Nat.le_of_ble_eq_true rfl)) dL_law_505 ⟨Nat.le_of_ble_eq_true rfl, Nat.le_of_ble_eq_true rfl⟩) hS (fun q _ h => hF2 q h) hF2 (fun r2 u2_ t2 H2 locs2 ht hvm hw2 hB hz1 hk1 hS9 => ?_)
  rw [ht] at hB
  replace hPA : va_P D vwCl (zSA cI h len cd n ks gs wt mi (pl_n ik (rw_cp pl2 pl 6) pl) (pl_n ik (rw_cp sk2 sk 6) sk) (pl_n ik (rw_cp he2 he 8) he) (pl_n ik (nh2) nh) (pl_n ik (ru2) ru) (pl_n ik (bg2) bg) (pl_n ik (la2) la) (pl_n ik (sd2) sd) pl2 sk2 he2 nh2 ru2 bg2 la2 sd2 u0 l0 u1 l1 u2 l2 wy fi fl nu ik pr) H2 := zkeepL hD hPA hk1
  replace hPB : va_P D vwCl (zM cI g len rm rr st n (pl_n (mre kp pr) (kr) ru) (pl_n (mre kp pr) (kb) bg) (pl_n (mre kp pr) (kl) la) (pl_n (mre kp pr) (kw) sd) pr ry (pl_n (mre kp pr) (kh) nh) xu xl sn kp kr kb kl kw kh hc pg rd (pl_n (mre kp pr) (rw_cp kro rw 24) rw) ro be (pl_n (mre kp pr) (rw_cp khe hm 8) hm) kro khe) H2 := hB
  replace hD : va_D (fun q : Nat => s.heap.size ≤ q) (zSA cI h len cd n ks gs wt mi (pl_n ik (rw_cp pl2 pl 6) pl) (pl_n ik (rw_cp sk2 sk 6) sk) (pl_n ik (rw_cp he2 he 8) he) (pl_n ik (nh2) nh) (pl_n ik (ru2) ru) (pl_n ik (bg2) bg) (pl_n ik (la2) la) (pl_n ik (sd2) sd) pl2 sk2 he2 nh2 ru2 bg2 la2 sd2 u0 l0 u1 l1 u2 l2 wy fi fl nu ik pr ++ zM cI g len rm rr st n (pl_n (mre kp pr) (kr) ru) (pl_n (mre kp pr) (kb) bg) (pl_n (mre kp pr) (kl) la) (pl_n (mre kp pr) (kw) sd) pr ry (pl_n (mre kp pr) (kh) nh) xu xl sn kp kr kb kl kw kh hc pg rd (pl_n (mre kp pr) (rw_cp kro rw 24) rw) ro be (pl_n (mre kp pr) (rw_cp khe hm 8) hm) kro khe) := vz_same hD rfl
  replace hS := hS9
  clear hS9 hB hk1 hz1 ht hvm hF2
  have e12 : r1 = r2 := ((show r1 = _ from hw1).trans (zq_restore X hi)).trans (show r2 = _ from hw2).symm
  have Wd2 : zWd D cI h g (fun q : Nat => s.heap.size ≤ q) (i + 1) H2 := by
    rw [hke] at hPB hD
    cases ik with
    | true =>
      obtain ⟨-, q1, q2, q3, q4, q5⟩ := hre rfl
      rw [q1, q2, q3, q4, q5] at hPB hD X3
      exact ⟨len, cd, n, ks, gs, wt, mi, rw_cp pl2 pl 6, rw_cp sk2 sk 6, rw_cp he2 he 8, nh2, ru2, bg2, la2, sd2, pl2, sk2, he2, nh2, ru2, bg2, la2, sd2, u0, l0, u1, l1, u2, l2, wy, fi, fl, nu, true, pr, rm, rr, st, ry, xu, xl, sn, kp, ru2, bg2, la2, sd2, nh2, hc, pg, rd, rw_cp kro rw 24, ro, be, rw_cp khe hm 8, kro, khe, X3, hPA, hPB, hD⟩
    | false =>
      exact ⟨len, cd, n, ks, gs, wt, mi, pl, sk, he, nh, ru, bg, la, sd, pl2, sk2, he2, nh2, ru2, bg2, la2, sd2, u0, l0, u1, l1, u2, l2, wy, fi, fl, nu, false, pr, rm, rr, st, ry, xu, xl, sn, kp, kr, kb, kl, kw, kh, hc, pg, rd, rw, ro, be, hm, kro, khe, X3, hPA, hPB, hD⟩
  refine lv_icmp_eq (tgt := 550) hx hb dL_law_508 (by decide) (fun _ => ?_) (fun c1 => absurd e12 c1)
  exact K _ _ Wd2 hS

/-! the calls of the law, one by one: both answer alike, and the worlds stay beside each other -/
section
variable {i n len : Nat} {cd ks gs wt mi pl sk he : Nat → Int32} {nh : Nat} {ru bg la : Int32} {sd : Bool} {pl2 sk2 he2 : Nat → Int32} {nh2 : Nat} {ru2 bg2 la2 : Int32} {sd2 ik : Bool} {pr : Nat} {pg rw hm kro khe : Nat → Int32} {kp kr kb kl : Int32} {kw : Bool} {kh : Nat}
theorem zq_rules (X : zI i n len cd ks gs wt mi pl sk he nh ru bg la sd pl2 sk2 he2 nh2 ru2 bg2 la2 sd2 ik pr pg rw hm kro khe kp kr kb kl kw kh) : (if sa_np n then (-103 : Int32) else pr_acc n ks gs wt he nh 4) = if sa_np n then -103 else mr_acc n rw hm nh 4 := by
  cases hs : sa_np n with
  | true => rw [if_pos rfl, if_pos rfl]
  | false => rw [if_neg (by decide), if_neg (by decide), X.2.1.rules (sa_np0 hs) X.2.2.2.1 4 (Nat.le_refl _)]
theorem zq_likely (X : zI i n len cd ks gs wt mi pl sk he nh ru bg la sd pl2 sk2 he2 nh2 ru2 bg2 la2 sd2 ik pr pg rw hm kro khe kp kr kb kl kw kh) : (if sa_np n then (-103 : Int32) else (lk n ks gs wt he nh 4).1) = if sa_np n then -103 else (mk n rw hm nh 4).1 := by
  cases hs : sa_np n with
  | true => rw [if_pos rfl, if_pos rfl]
  | false =>
    obtain ⟨z, U, L, l1, -, -, -, l2, -⟩ := X.2.1.lks (sa_np0 hs) X.2.2.2.1 4 (Nat.le_refl _)
    rw [if_neg (by decide), if_neg (by decide), l1, l2]
theorem zq_image (X : zI i n len cd ks gs wt mi pl sk he nh ru bg la sd pl2 sk2 he2 nh2 ru2 bg2 la2 sd2 ik pr pg rw hm kro khe kp kr kb kl kw kh) : (if sa_np n then (-103 : Int32) else rw_sum pl 6) = if sa_np n then -103 else mo_at rw 2 n := by
  rw [X.2.1.sumP]
theorem zq_restore (X : zI i n len cd ks gs wt mi pl sk he nh ru bg la sd pl2 sk2 he2 nh2 ru2 bg2 la2 sd2 ik pr pg rw hm kro khe kp kr kb kl kw kh) (hi : i ≤ 64) : (if ik then rw_sum (rw_cp pl2 pl 6) 6 else (-103 : Int32)) = if kp = nI pr then mo_at (rw_cp kro rw 24) 2 n else -103 := by
  have hk := X.key hi
  unfold mre at hk
  cases ik with
  | true =>
    have e : kp = nI pr := (X.2.2.2.2.2.1 rfl).1
    rw [if_pos rfl, if_pos e, (X.restore.2 rfl).1]
  | false =>
    have e : ¬ kp = nI pr := fun q => by rw [if_pos q] at hk; cases hk
    rw [if_neg (by decide), if_neg e]
end
set_option maxHeartbeats 4000000 in
set_option maxRecDepth 100000 in
theorem lw_letter {p : Program} {l : Launch} {e : Env} {s : State} {m : MethodId} {below : List Frame} {meth : Method} {c : Code} {b L : Nat} {xs : Nat → Int32} {D : va_G} {cI : ClassId} {sa va : Nat} {h g : Nat → Nat} (C0 : lw_At p s m meth c b L xs) (hZ : zK D cI s) (hT : zS sa va (fun q : Nat => s.heap.size ≤ q) s s.heap) {i : Nat} (hL : L ≤ 256) (hi4 : 4 * i + 4 ≤ L) {H : Heap} {locs : List Loc} (Wd : zWd D cI h g (fun q : Nat => s.heap.size ≤ q) i H) (hS : va_S (fun q : Nat => s.heap.size ≤ q) s.heap H locs) {ls : Array Slot} (hl : lv_has ls 4 [(3, .int (nI (4 * i))), (2, .ref (g 0)), (1, .ref (h 0)), (0, .ref b)]) (K : ∀ (H1 : Heap) (locs1 : List Loc), zWd D cI h g (fun q : Nat => s.heap.size ≤ q) (i + 1) H1 → va_S (fun q : Nat => s.heap.size ≤ q) s.heap H1 locs1 → W p l e room_1 s m #[Value.ref b] below meth c H1 locs1 44 294 (lw_Z below #[Value.ref b] s) (F0 m 550 ls [])) : W p l e room_1 s m #[Value.ref b] below meth c H locs 44 294 (lw_Z below #[Value.ref b] s) (F0 m 128 ls []) := by
  obtain ⟨hx, hb, hr, hml, hown, hts0, hX, hbl, hlocks, hgv⟩ := C0
  have hts : ∀ w ∈ wsL_law, w.before #[Value.ref b] s = true := fun w hw => hts0 w (wsL_law_in w hw)
  have hA : ∀ q : Nat, s.heap.size ≤ q → (fun q : Nat => s.heap.size ≤ q) q := fun _ h => h
  have hbA : ¬ (fun q : Nat => s.heap.size ≤ q) b := Nat.not_le.mpr hbl
  obtain ⟨len, cd, n, ks, gs, wt, mi, pl, sk, he, nh, ru, bg, la, sd, pl2, sk2, he2, nh2, ru2, bg2, la2, sd2, u0, l0, u1, l1, u2, l2, wy, fi, fl, nu, ik, pr, rm, rr, st, ry, xu, xl, sn, kp, kr, kb, kl, kw, kh, hc, pg, rd, rw, ro, be, hm, kro, khe, X, hPA, hPB, hD⟩ := Wd
  have hi : i ≤ 64 := by omega
  have hx1 := lw_in1 hi4 hL
  refine lv_aload_n hx hb dL_law_128 rfl (lv_at hl 2 rfl) ?_
  refine lv_aload_n hx hb dL_law_129 rfl (lv_at hl 3 rfl) ?_
  refine lv_iload_n hx hb dL_law_130 rfl (lv_at hl 0 rfl) ?_
  refine lv_iconst (v := 1) hx hb dL_law_131 (by decide) ?_
  refine lv_iadd hx hb dL_law_132 ?_
  refine va_sld hx hb hX hbl hbA hS hx1 dL_law_133 ?_
  have hF1 : ∀ q, va_A (zSA cI h len cd n ks gs wt mi pl sk he nh ru bg la sd pl2 sk2 he2 nh2 ru2 bg2 la2 sd2 u0 l0 u1 l1 u2 l2 wy fi fl nu ik pr) H.size q → (fun q : Nat => s.heap.size ≤ q) q := vz_freeAll (zDl hD) hS hA
  refine va_calli (va_runV (As := [.int (xs (nI (4 * i) + 1).toNatClampNeg)]) (rest := []) ⟨hx, hb, hml, hown, hts⟩ (c_X6_letter l D cI h len cd n ks gs wt mi pl sk he nh ru bg la sd pl2 sk2 he2 nh2 ru2 bg2 la2 sd2 u0 l0 u1 l1 u2 l2 wy fi fl nu ik pr H.size (xs (nI (4 * i) + 1).toNatClampNeg) X.1.1) (cwV 1 hts gL_law_X6_letter rfl rfl rfl (by decide +kernel) ⟨Nat.le_of_ble_eq_true rfl, Nat.le_of_ble_eq_true rfl⟩) (vz_pvW (va_recv hZ.1 hPA (ci := 6) (q0 := 0) rfl rfl) hZ hPA (zDl hD)) rfl rfl hl.1 rfl (lv_room (Nat.le_of_ble_eq_true rfl)) dL_law_134 ⟨Nat.le_of_ble_eq_true rfl, Nat.le_of_ble_eq_true rfl⟩) hS (fun q _ h => hF1 q h) hF1 (fun r1 u1_ t1 H1 locs1 ht hvm hw1 hB hz1 hk1 hS9 => ?_)
  rw [ht] at hB
  replace hPB : va_P D vwCl (zM cI g len rm rr st n ru bg la sd pr ry nh xu xl sn kp kr kb kl kw kh hc pg rd rw ro be hm kro khe) H1 := zkeepR hD hPB hk1
  replace hPA : va_P D vwCl (zSA cI h (le_l len (xs (nI (4 * i) + 1).toNatClampNeg)) (le_c len cd (xs (nI (4 * i) + 1).toNatClampNeg)) n ks gs wt mi pl sk he nh ru bg la sd pl2 sk2 he2 nh2 ru2 bg2 la2 sd2 u0 l0 u1 l1 u2 l2 wy fi fl nu ik pr) H1 := hB
  replace hD : va_D (fun q : Nat => s.heap.size ≤ q) (zSA cI h (le_l len (xs (nI (4 * i) + 1).toNatClampNeg)) (le_c len cd (xs (nI (4 * i) + 1).toNatClampNeg)) n ks gs wt mi pl sk he nh ru bg la sd pl2 sk2 he2 nh2 ru2 bg2 la2 sd2 u0 l0 u1 l1 u2 l2 wy fi fl nu ik pr ++ zM cI g len rm rr st n ru bg la sd pr ry nh xu xl sn kp kr kb kl kw kh hc pg rd rw ro be hm kro khe) := vz_same hD rfl
  replace hS := hS9
  clear hS9 hB hk1 hz1 ht hvm hF1
  refine lv_aload_n hx hb dL_law_137 rfl (lv_at hl 1 rfl) ?_
  refine lv_aload_n hx hb dL_law_138 rfl (lv_at hl 3 rfl) ?_
  refine lv_iload_n hx hb dL_law_139 rfl (lv_at hl 0 rfl) ?_
  refine lv_iconst (v := 1) hx hb dL_law_140 (by decide) ?_
  refine lv_iadd hx hb dL_law_141 ?_
  refine va_sld hx hb hX hbl hbA hS hx1 dL_law_142 ?_
  have hF2 : ∀ q, va_A (zM cI g len rm rr st n ru bg la sd pr ry nh xu xl sn kp kr kb kl kw kh hc pg rd rw ro be hm kro khe) H1.size q → (fun q : Nat => s.heap.size ≤ q) q := vz_freeAll (zDr hD) hS hA
  refine va_calli (va_runV (As := [.int (xs (nI (4 * i) + 1).toNatClampNeg)]) (rest := [.int r1]) ⟨hx, hb, hml, hown, hts⟩ (c_X7_letter l D cI g len rm rr st n ru bg la sd pr ry nh xu xl sn kp kr kb kl kw kh hc pg rd rw ro be hm kro khe H1.size (xs (nI (4 * i) + 1).toNatClampNeg) X.1.1) (cwV 1 hts gL_law_X7_letter rfl rfl rfl (by decide +kernel) ⟨Nat.le_of_ble_eq_true rfl, Nat.le_of_ble_eq_true rfl⟩) (vz_pvW (va_recv hZ.1 hPB (ci := 7) (q0 := 0) rfl rfl) hZ hPB (zDr hD)) rfl rfl hl.1 rfl (lv_room (Nat.le_of_ble_eq_true rfl)) dL_law_143 ⟨Nat.le_of_ble_eq_true rfl, Nat.le_of_ble_eq_true rfl⟩) hS (fun q _ h => hF2 q h) hF2 (fun r2 u2_ t2 H2 locs2 ht hvm hw2 hB hz1 hk1 hS9 => ?_)
  rw [ht] at hB
  replace hPA : va_P D vwCl (zSA cI h (le_l len (xs (nI (4 * i) + 1).toNatClampNeg)) (le_c len cd (xs (nI (4 * i) + 1).toNatClampNeg)) n ks gs wt mi pl sk he nh ru bg la sd pl2 sk2 he2 nh2 ru2 bg2 la2 sd2 u0 l0 u1 l1 u2 l2 wy fi fl nu ik pr) H2 := zkeepL hD hPA hk1
  replace hPB : va_P D vwCl (zM cI g (pl_n (ml_ok len (xs (nI (4 * i) + 1).toNatClampNeg)) (len + 1) len) rm rr st n ru bg la sd pr ry nh xu xl sn kp kr kb kl kw kh hc (pl_n (ml_ok len (xs (nI (4 * i) + 1).toNatClampNeg)) (upd pg len (xs (nI (4 * i) + 1).toNatClampNeg)) pg) rd rw ro be hm kro khe) H2 := hB
  replace hD : va_D (fun q : Nat => s.heap.size ≤ q) (zSA cI h (le_l len (xs (nI (4 * i) + 1).toNatClampNeg)) (le_c len cd (xs (nI (4 * i) + 1).toNatClampNeg)) n ks gs wt mi pl sk he nh ru bg la sd pl2 sk2 he2 nh2 ru2 bg2 la2 sd2 u0 l0 u1 l1 u2 l2 wy fi fl nu ik pr ++ zM cI g (pl_n (ml_ok len (xs (nI (4 * i) + 1).toNatClampNeg)) (len + 1) len) rm rr st n ru bg la sd pr ry nh xu xl sn kp kr kb kl kw kh hc (pl_n (ml_ok len (xs (nI (4 * i) + 1).toNatClampNeg)) (upd pg len (xs (nI (4 * i) + 1).toNatClampNeg)) pg) rd rw ro be hm kro khe) := vz_same hD rfl
  replace hS := hS9
  clear hS9 hB hk1 hz1 ht hvm hF2
  have e12 : r1 = r2 := ((show r1 = _ from hw1).trans ((X.1.letter (xs (nI (4 * i) + 1).toNatClampNeg)).1)).trans (show r2 = _ from hw2).symm
  rw [← (X.1.letter (xs (nI (4 * i) + 1).toNatClampNeg)).2.1] at hPB hD
  have Wd2 : zWd D cI h g (fun q : Nat => s.heap.size ≤ q) (i + 1) H2 := ⟨le_l len (xs (nI (4 * i) + 1).toNatClampNeg), le_c len cd (xs (nI (4 * i) + 1).toNatClampNeg), n, ks, gs, wt, mi, pl, sk, he, nh, ru, bg, la, sd, pl2, sk2, he2, nh2, ru2, bg2, la2, sd2, u0, l0, u1, l1, u2, l2, wy, fi, fl, nu, ik, pr, rm, rr, st, ry, xu, xl, sn, kp, kr, kb, kl, kw, kh, hc, pl_n (ml_ok len (xs (nI (4 * i) + 1).toNatClampNeg)) (upd pg len (xs (nI (4 * i) + 1).toNatClampNeg)) pg, rd, rw, ro, be, hm, kro, khe, X.letter (xs (nI (4 * i) + 1).toNatClampNeg), hPA, hPB, hD⟩
  refine lv_icmp_eq (tgt := 550) hx hb dL_law_146 (by decide) (fun _ => ?_) (fun c1 => absurd e12 c1)
  exact K _ _ Wd2 hS
set_option maxHeartbeats 4000000 in
set_option maxRecDepth 100000 in
theorem lw_blank {p : Program} {l : Launch} {e : Env} {s : State} {m : MethodId} {below : List Frame} {meth : Method} {c : Code} {b L : Nat} {xs : Nat → Int32} {D : va_G} {cI : ClassId} {sa va : Nat} {h g : Nat → Nat} (C0 : lw_At p s m meth c b L xs) (hZ : zK D cI s) (hT : zS sa va (fun q : Nat => s.heap.size ≤ q) s s.heap) {i : Nat} (hL : L ≤ 256) (hi4 : 4 * i + 4 ≤ L) {H : Heap} {locs : List Loc} (Wd : zWd D cI h g (fun q : Nat => s.heap.size ≤ q) i H) (hS : va_S (fun q : Nat => s.heap.size ≤ q) s.heap H locs) {ls : Array Slot} (hl : lv_has ls 4 [(3, .int (nI (4 * i))), (2, .ref (g 0)), (1, .ref (h 0)), (0, .ref b)]) (K : ∀ (H1 : Heap) (locs1 : List Loc), zWd D cI h g (fun q : Nat => s.heap.size ≤ q) (i + 1) H1 → va_S (fun q : Nat => s.heap.size ≤ q) s.heap H1 locs1 → W p l e room_1 s m #[Value.ref b] below meth c H1 locs1 44 294 (lw_Z below #[Value.ref b] s) (F0 m 550 ls [])) : W p l e room_1 s m #[Value.ref b] below meth c H locs 44 294 (lw_Z below #[Value.ref b] s) (F0 m 151 ls []) := by
  obtain ⟨hx, hb, hr, hml, hown, hts0, hX, hbl, hlocks, hgv⟩ := C0
  have hts : ∀ w ∈ wsL_law, w.before #[Value.ref b] s = true := fun w hw => hts0 w (wsL_law_in w hw)
  have hA : ∀ q : Nat, s.heap.size ≤ q → (fun q : Nat => s.heap.size ≤ q) q := fun _ h => h
  have hbA : ¬ (fun q : Nat => s.heap.size ≤ q) b := Nat.not_le.mpr hbl
  obtain ⟨len, cd, n, ks, gs, wt, mi, pl, sk, he, nh, ru, bg, la, sd, pl2, sk2, he2, nh2, ru2, bg2, la2, sd2, u0, l0, u1, l1, u2, l2, wy, fi, fl, nu, ik, pr, rm, rr, st, ry, xu, xl, sn, kp, kr, kb, kl, kw, kh, hc, pg, rd, rw, ro, be, hm, kro, khe, X, hPA, hPB, hD⟩ := Wd
  have hi : i ≤ 64 := by omega
  refine lv_aload_n hx hb dL_law_151 rfl (lv_at hl 2 rfl) ?_
  have hF1 : ∀ q, va_A (zSA cI h len cd n ks gs wt mi pl sk he nh ru bg la sd pl2 sk2 he2 nh2 ru2 bg2 la2 sd2 u0 l0 u1 l1 u2 l2 wy fi fl nu ik pr) H.size q → (fun q : Nat => s.heap.size ≤ q) q := vz_freeAll (zDl hD) hS hA
  refine va_calli (va_runV (As := []) (rest := []) ⟨hx, hb, hml, hown, hts⟩ (c_X6_blank l D cI h len cd n ks gs wt mi pl sk he nh ru bg la sd pl2 sk2 he2 nh2 ru2 bg2 la2 sd2 u0 l0 u1 l1 u2 l2 wy fi fl nu ik pr H.size) (cwV 0 hts gL_law_X6_blank rfl rfl rfl (by decide +kernel) ⟨Nat.le_of_ble_eq_true rfl, Nat.le_of_ble_eq_true rfl⟩) (vz_pvW (va_recv hZ.1 hPA (ci := 6) (q0 := 0) rfl rfl) hZ hPA (zDl hD)) rfl rfl hl.1 rfl (lv_room (Nat.le_of_ble_eq_true rfl)) dL_law_152 ⟨Nat.le_of_ble_eq_true rfl, Nat.le_of_ble_eq_true rfl⟩) hS (fun q _ h => hF1 q h) hF1 (fun r1 u1_ t1 H1 locs1 ht hvm hw1 hB hz1 hk1 hS9 => ?_)
  rw [ht] at hB
  replace hPB : va_P D vwCl (zM cI g len rm rr st n ru bg la sd pr ry nh xu xl sn kp kr kb kl kw kh hc pg rd rw ro be hm kro khe) H1 := zkeepR hD hPB hk1
  replace hPA : va_P D vwCl (zSA cI h 0 cd n ks gs wt mi pl sk he nh ru bg la sd pl2 sk2 he2 nh2 ru2 bg2 la2 sd2 u0 l0 u1 l1 u2 l2 wy fi fl nu ik pr) H1 := hB
  replace hD : va_D (fun q : Nat => s.heap.size ≤ q) (zSA cI h 0 cd n ks gs wt mi pl sk he nh ru bg la sd pl2 sk2 he2 nh2 ru2 bg2 la2 sd2 u0 l0 u1 l1 u2 l2 wy fi fl nu ik pr ++ zM cI g len rm rr st n ru bg la sd pr ry nh xu xl sn kp kr kb kl kw kh hc pg rd rw ro be hm kro khe) := vz_same hD rfl
  replace hS := hS9
  clear hS9 hB hk1 hz1 ht hvm hF1
  refine lv_aload_n hx hb dL_law_155 rfl (lv_at hl 1 rfl) ?_
  have hF2 : ∀ q, va_A (zM cI g len rm rr st n ru bg la sd pr ry nh xu xl sn kp kr kb kl kw kh hc pg rd rw ro be hm kro khe) H1.size q → (fun q : Nat => s.heap.size ≤ q) q := vz_freeAll (zDr hD) hS hA
  refine va_calli (va_runV (As := []) (rest := [.int r1]) ⟨hx, hb, hml, hown, hts⟩ (c_X7_blank l D cI g len rm rr st n ru bg la sd pr ry nh xu xl sn kp kr kb kl kw kh hc pg rd rw ro be hm kro khe H1.size) (cwV 0 hts gL_law_X7_blank rfl rfl rfl (by decide +kernel) ⟨Nat.le_of_ble_eq_true rfl, Nat.le_of_ble_eq_true rfl⟩) (vz_pvW (va_recv hZ.1 hPB (ci := 7) (q0 := 0) rfl rfl) hZ hPB (zDr hD)) rfl rfl hl.1 rfl (lv_room (Nat.le_of_ble_eq_true rfl)) dL_law_156 ⟨Nat.le_of_ble_eq_true rfl, Nat.le_of_ble_eq_true rfl⟩) hS (fun q _ h => hF2 q h) hF2 (fun r2 u2_ t2 H2 locs2 ht hvm hw2 hB hz1 hk1 hS9 => ?_)
  rw [ht] at hB
  replace hPA : va_P D vwCl (zSA cI h 0 cd n ks gs wt mi pl sk he nh ru bg la sd pl2 sk2 he2 nh2 ru2 bg2 la2 sd2 u0 l0 u1 l1 u2 l2 wy fi fl nu ik pr) H2 := zkeepL hD hPA hk1
  replace hPB : va_P D vwCl (zM cI g 0 rm rr st n ru bg la sd pr ry nh xu xl sn kp kr kb kl kw kh hc pg rd rw ro be hm kro khe) H2 := hB
  replace hD : va_D (fun q : Nat => s.heap.size ≤ q) (zSA cI h 0 cd n ks gs wt mi pl sk he nh ru bg la sd pl2 sk2 he2 nh2 ru2 bg2 la2 sd2 u0 l0 u1 l1 u2 l2 wy fi fl nu ik pr ++ zM cI g 0 rm rr st n ru bg la sd pr ry nh xu xl sn kp kr kb kl kw kh hc pg rd rw ro be hm kro khe) := vz_same hD rfl
  replace hS := hS9
  clear hS9 hB hk1 hz1 ht hvm hF2
  have e12 : r1 = r2 := ((show r1 = _ from hw1).trans (rfl)).trans (show r2 = _ from hw2).symm
  have Wd2 : zWd D cI h g (fun q : Nat => s.heap.size ≤ q) (i + 1) H2 := ⟨0, cd, n, ks, gs, wt, mi, pl, sk, he, nh, ru, bg, la, sd, pl2, sk2, he2, nh2, ru2, bg2, la2, sd2, u0, l0, u1, l1, u2, l2, wy, fi, fl, nu, ik, pr, rm, rr, st, ry, xu, xl, sn, kp, kr, kb, kl, kw, kh, hc, pg, rd, rw, ro, be, hm, kro, khe, X.blank, hPA, hPB, hD⟩
  refine lv_icmp_eq (tgt := 550) hx hb dL_law_159 (by decide) (fun _ => ?_) (fun c1 => absurd e12 c1)
  exact K _ _ Wd2 hS
set_option maxHeartbeats 4000000 in
set_option maxRecDepth 100000 in
theorem lw_fault {p : Program} {l : Launch} {e : Env} {s : State} {m : MethodId} {below : List Frame} {meth : Method} {c : Code} {b L : Nat} {xs : Nat → Int32} {D : va_G} {cI : ClassId} {sa va : Nat} {h g : Nat → Nat} (C0 : lw_At p s m meth c b L xs) (hZ : zK D cI s) (hT : zS sa va (fun q : Nat => s.heap.size ≤ q) s s.heap) {i : Nat} (hL : L ≤ 256) (hi4 : 4 * i + 4 ≤ L) {H : Heap} {locs : List Loc} (Wd : zWd D cI h g (fun q : Nat => s.heap.size ≤ q) i H) (hS : va_S (fun q : Nat => s.heap.size ≤ q) s.heap H locs) {ls : Array Slot} (hl : lv_has ls 4 [(3, .int (nI (4 * i))), (2, .ref (g 0)), (1, .ref (h 0)), (0, .ref b)]) (K : ∀ (H1 : Heap) (locs1 : List Loc), zWd D cI h g (fun q : Nat => s.heap.size ≤ q) (i + 1) H1 → va_S (fun q : Nat => s.heap.size ≤ q) s.heap H1 locs1 → W p l e room_1 s m #[Value.ref b] below meth c H1 locs1 44 294 (lw_Z below #[Value.ref b] s) (F0 m 550 ls [])) : W p l e room_1 s m #[Value.ref b] below meth c H locs 44 294 (lw_Z below #[Value.ref b] s) (F0 m 164 ls []) := by
  obtain ⟨hx, hb, hr, hml, hown, hts0, hX, hbl, hlocks, hgv⟩ := C0
  have hts : ∀ w ∈ wsL_law, w.before #[Value.ref b] s = true := fun w hw => hts0 w (wsL_law_in w hw)
  have hA : ∀ q : Nat, s.heap.size ≤ q → (fun q : Nat => s.heap.size ≤ q) q := fun _ h => h
  have hbA : ¬ (fun q : Nat => s.heap.size ≤ q) b := Nat.not_le.mpr hbl
  obtain ⟨len, cd, n, ks, gs, wt, mi, pl, sk, he, nh, ru, bg, la, sd, pl2, sk2, he2, nh2, ru2, bg2, la2, sd2, u0, l0, u1, l1, u2, l2, wy, fi, fl, nu, ik, pr, rm, rr, st, ry, xu, xl, sn, kp, kr, kb, kl, kw, kh, hc, pg, rd, rw, ro, be, hm, kro, khe, X, hPA, hPB, hD⟩ := Wd
  have hi : i ≤ 64 := by omega
  refine lv_aload_n hx hb dL_law_164 rfl (lv_at hl 2 rfl) ?_
  refine vp_callSi (W.runV (As := []) (rest := []) ⟨hx, hb, hml, hown, hts⟩ (c_X6_fault l D cI h len cd n ks gs wt mi pl sk he nh ru bg la sd pl2 sk2 he2 nh2 ru2 bg2 la2 sd2 u0 l0 u1 l1 u2 l2 wy fi fl nu ik pr sa va X.1.1) (cwV 0 hts gL_law_X6_fault rfl rfl rfl (by decide +kernel) ⟨Nat.le_of_ble_eq_true rfl, Nat.le_of_ble_eq_true rfl⟩) (vz_pvRs (va_recv hZ.1 hPA (ci := 6) (q0 := 0) rfl rfl) hZ hPA (vz_sk hT hS)) rfl rfl hl.1 rfl (lv_room (Nat.le_of_ble_eq_true rfl)) dL_law_165 ⟨Nat.le_of_ble_eq_true rfl, Nat.le_of_ble_eq_true rfl⟩) (fun r1 hw1 => ?_)
  refine lv_aload_n hx hb dL_law_168 rfl (lv_at hl 1 rfl) ?_
  have hF2 : ∀ q, va_A (zM cI g len rm rr st n ru bg la sd pr ry nh xu xl sn kp kr kb kl kw kh hc pg rd rw ro be hm kro khe) H.size q → (fun q : Nat => s.heap.size ≤ q) q := vz_freeAll (zDr hD) hS hA
  refine va_calli (va_runV (As := []) (rest := [.int r1]) ⟨hx, hb, hml, hown, hts⟩ (c_X7_fault l D cI g len rm rr st n ru bg la sd pr ry nh xu xl sn kp kr kb kl kw kh hc pg rd rw ro be hm kro khe H.size X.1.1) (cwV 0 hts gL_law_X7_fault rfl rfl rfl (by decide +kernel) ⟨Nat.le_of_ble_eq_true rfl, Nat.le_of_ble_eq_true rfl⟩) (vz_pvW (va_recv hZ.1 hPB (ci := 7) (q0 := 0) rfl rfl) hZ hPB (zDr hD)) rfl rfl hl.1 rfl (lv_room (Nat.le_of_ble_eq_true rfl)) dL_law_169 ⟨Nat.le_of_ble_eq_true rfl, Nat.le_of_ble_eq_true rfl⟩) hS (fun q _ h => hF2 q h) hF2 (fun r2 u2_ t2 H2 locs2 ht hvm hw2 hB hz1 hk1 hS9 => ?_)
  rw [ht] at hB
  replace hPA : va_P D vwCl (zSA cI h len cd n ks gs wt mi pl sk he nh ru bg la sd pl2 sk2 he2 nh2 ru2 bg2 la2 sd2 u0 l0 u1 l1 u2 l2 wy fi fl nu ik pr) H2 := zkeepL hD hPA hk1
  replace hPB : va_P D vwCl (zM cI g len u2_.2.1 u2_.2.2.1 u2_.2.2.2 n ru bg la sd pr ry nh xu xl sn kp kr kb kl kw kh hc pg u2_.1 rw ro be hm kro khe) H2 := hB
  replace hD : va_D (fun q : Nat => s.heap.size ≤ q) (zSA cI h len cd n ks gs wt mi pl sk he nh ru bg la sd pl2 sk2 he2 nh2 ru2 bg2 la2 sd2 u0 l0 u1 l1 u2 l2 wy fi fl nu ik pr ++ zM cI g len u2_.2.1 u2_.2.2.1 u2_.2.2.2 n ru bg la sd pr ry nh xu xl sn kp kr kb kl kw kh hc pg u2_.1 rw ro be hm kro khe) := vz_same hD rfl
  replace hS := hS9
  clear hS9 hB hk1 hz1 ht hvm hF2
  have e12 : r1 = r2 := ((show r1 = _ from hw1).trans (zfault X.1 rd rr)).trans (show r2 = _ from hw2).symm
  have Wd2 : zWd D cI h g (fun q : Nat => s.heap.size ≤ q) (i + 1) H2 := ⟨len, cd, n, ks, gs, wt, mi, pl, sk, he, nh, ru, bg, la, sd, pl2, sk2, he2, nh2, ru2, bg2, la2, sd2, u0, l0, u1, l1, u2, l2, wy, fi, fl, nu, ik, pr, u2_.2.1, u2_.2.2.1, u2_.2.2.2, ry, xu, xl, sn, kp, kr, kb, kl, kw, kh, hc, pg, u2_.1, rw, ro, be, hm, kro, khe, X.more, hPA, hPB, hD⟩
  refine lv_icmp_eq (tgt := 550) hx hb dL_law_172 (by decide) (fun _ => ?_) (fun c1 => absurd e12 c1)
  exact K _ _ Wd2 hS

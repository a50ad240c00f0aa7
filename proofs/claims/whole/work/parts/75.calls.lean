set_option maxHeartbeats 4000000 in
set_option maxRecDepth 100000 in
theorem lw_song {p : Program} {l : Launch} {e : Env} {s : State} {m : MethodId} {below : List Frame} {meth : Method} {c : Code} {b L : Nat} {xs : Nat → Int32} {D : va_G} {cI : ClassId} {sa va : Nat} {h g : Nat → Nat} (C0 : lw_At p s m meth c b L xs) (hZ : zK D cI s) (hT : zS sa va (fun q : Nat => s.heap.size ≤ q) s s.heap) {i : Nat} (hL : L ≤ 256) (hi4 : 4 * i + 4 ≤ L) {H : Heap} {locs : List Loc} (Wd : zWd D cI h g (fun q : Nat => s.heap.size ≤ q) i H) (hS : va_S (fun q : Nat => s.heap.size ≤ q) s.heap H locs) {ls : Array Slot} (hl : lv_has ls 4 [(3, .int (nI (4 * i))), (2, .ref (g 0)), (1, .ref (h 0)), (0, .ref b)]) (K : ∀ (H1 : Heap) (locs1 : List Loc), zWd D cI h g (fun q : Nat => s.heap.size ≤ q) (i + 1) H1 → va_S (fun q : Nat => s.heap.size ≤ q) s.heap H1 locs1 → W p l e room_1 s m #[Value.ref b] below meth c H1 locs1 44 294 (lw_Z below #[Value.ref b] s) (F0 m 550 ls [])) : W p l e room_1 s m #[Value.ref b] below meth c H locs 44 294 (lw_Z below #[Value.ref b] s) (F0 m 190 ls []) := by
  obtain ⟨hx, hb, hr, hml, hown, hts0, hX, hbl, hlocks, hgv⟩ := C0
  have hts : ∀ w ∈ wsL_law, w.before #[Value.ref b] s = true := fun w hw => hts0 w (wsL_law_in w hw)
  have hA : ∀ q : Nat, s.heap.size ≤ q → (fun q : Nat => s.heap.size ≤ q) q := fun _ h => h
  have hbA : ¬ (fun q : Nat => s.heap.size ≤ q) b := Nat.not_le.mpr hbl
  obtain ⟨len, cd, n, ks, gs, wt, mi, pl, sk, he, nh, ru, bg, la, sd, pl2, sk2, he2, nh2, ru2, bg2, la2, sd2, u0, l0, u1, l1, u2, l2, wy, fi, fl, nu, ik, pr, rm, rr, st, ry, xu, xl, sn, kp, kr, kb, kl, kw, kh, hc, pg, rd, rw, ro, be, hm, kro, khe, X, hPA, hPB, hD⟩ := Wd
  have hi : i ≤ 64 := by omega
  have hx1 := lw_in1 hi4 hL
  have hx2 := lw_in2 hi4 hL
  refine lv_aload_n hx hb dL_law_190 rfl (lv_at hl 2 rfl) ?_
  refine lv_aload_n hx hb dL_law_191 rfl (lv_at hl 3 rfl) ?_
  refine lv_iload_n hx hb dL_law_192 rfl (lv_at hl 0 rfl) ?_
  refine lv_iconst (v := 1) hx hb dL_law_193 (by decide) ?_
  refine lv_iadd hx hb dL_law_194 ?_
  refine va_sld hx hb hX hbl hbA hS hx1 dL_law_195 ?_
  refine lv_aload_n hx hb dL_law_196 rfl (lv_at hl 3 rfl) ?_
  refine lv_iload_n hx hb dL_law_197 rfl (lv_at hl 0 rfl) ?_
  refine lv_iconst (v := 2) hx hb dL_law_198 (by decide) ?_
  refine lv_iadd hx hb dL_law_199 ?_
  refine va_sld hx hb hX hbl hbA hS hx2 dL_law_200 ?_
  have hF1 : ∀ q, va_A (zSA cI h len cd n ks gs wt mi pl sk he nh ru bg la sd pl2 sk2 he2 nh2 ru2 bg2 la2 sd2 u0 l0 u1 l1 u2 l2 wy fi fl nu ik pr) H.size q → (fun q : Nat => s.heap.size ≤ q) q := vz_freeAll (zDl hD) hS hA
  refine va_calli (va_runV (As := [.int (xs (nI (4 * i) + 1).toNatClampNeg), .int (xs (nI (4 * i) + 2).toNatClampNeg)]) (rest := []) ⟨hx, hb, hml, hown, hts⟩ (c_X6_song l D cI h len cd n ks gs wt mi pl sk he nh ru bg la sd pl2 sk2 he2 nh2 ru2 bg2 la2 sd2 u0 l0 u1 l1 u2 l2 wy fi fl nu ik pr H.size (xs (nI (4 * i) + 1).toNatClampNeg) (xs (nI (4 * i) + 2).toNatClampNeg) X.2.1.n6 (X.2.1.hch hi X.2.2.1)) (cwV 2 hts gL_law_X6_song rfl rfl rfl (by decide +kernel) ⟨Nat.le_of_ble_eq_true rfl, Nat.le_of_ble_eq_true rfl⟩) (vz_pvW (va_recv hZ.1 hPA (ci := 6) (q0 := 0) rfl rfl) hZ hPA (zDl hD)) rfl rfl hl.1 rfl (lv_room (Nat.le_of_ble_eq_true rfl)) dL_law_201 ⟨Nat.le_of_ble_eq_true rfl, Nat.le_of_ble_eq_true rfl⟩) hS (fun q _ h => hF1 q h) hF1 (fun r1 u1_ t1 H1 locs1 ht hvm hw1 hB hz1 hk1 hS9 => ?_)
  rw [ht] at hB
  replace hPB : va_P D vwCl (zM cI g len rm rr st n ru bg la sd pr ry nh xu xl sn kp kr kb kl kw kh hc pg rd rw ro be hm kro khe) H1 := zkeepR hD hPB hk1
  replace hPA : va_P D vwCl (zSA cI h len cd n ks gs wt mi pl sk he nh ru bg la sd pl2 sk2 he2 nh2 ru2 bg2 la2 sd2 u0 l0 u1_.1 u1_.2 u2 l2 wy fi fl nu ik pr) H1 := hB
  replace hD : va_D (fun q : Nat => s.heap.size ≤ q) (zSA cI h len cd n ks gs wt mi pl sk he nh ru bg la sd pl2 sk2 he2 nh2 ru2 bg2 la2 sd2 u0 l0 u1_.1 u1_.2 u2 l2 wy fi fl nu ik pr ++ zM cI g len rm rr st n ru bg la sd pr ry nh xu xl sn kp kr kb kl kw kh hc pg rd rw ro be hm kro khe) := vz_same hD rfl
  replace hS := hS9
  clear hS9 hB hk1 hz1 ht hvm hF1
  refine lv_aload_n hx hb dL_law_204 rfl (lv_at hl 1 rfl) ?_
  refine lv_aload_n hx hb dL_law_205 rfl (lv_at hl 3 rfl) ?_
  refine lv_iload_n hx hb dL_law_206 rfl (lv_at hl 0 rfl) ?_
  refine lv_iconst (v := 1) hx hb dL_law_207 (by decide) ?_
  refine lv_iadd hx hb dL_law_208 ?_
  refine va_sld hx hb hX hbl hbA hS hx1 dL_law_209 ?_
  refine lv_aload_n hx hb dL_law_210 rfl (lv_at hl 3 rfl) ?_
  refine lv_iload_n hx hb dL_law_211 rfl (lv_at hl 0 rfl) ?_
  refine lv_iconst (v := 2) hx hb dL_law_212 (by decide) ?_
  refine lv_iadd hx hb dL_law_213 ?_
  refine va_sld hx hb hX hbl hbA hS hx2 dL_law_214 ?_
  refine vp_callSi (W.runV (As := [.int (xs (nI (4 * i) + 1).toNatClampNeg), .int (xs (nI (4 * i) + 2).toNatClampNeg)]) (rest := [.int r1]) ⟨hx, hb, hml, hown, hts⟩ (c_X7_song l D cI g len rm rr st n ru bg la sd pr ry nh xu xl sn kp kr kb kl kw kh hc pg rd rw ro be hm kro khe (xs (nI (4 * i) + 1).toNatClampNeg) (xs (nI (4 * i) + 2).toNatClampNeg) X.2.1.n6 X.2.2.1.2.2 (X.2.1.hM hi X.2.2.1)) (cwV 2 hts gL_law_X7_song rfl rfl rfl (by decide +kernel) ⟨Nat.le_of_ble_eq_true rfl, Nat.le_of_ble_eq_true rfl⟩) (vz_pvR (va_recv hZ.1 hPB (ci := 7) (q0 := 0) rfl rfl) hZ hPB) rfl rfl hl.1 rfl (lv_room (Nat.le_of_ble_eq_true rfl)) dL_law_215 ⟨Nat.le_of_ble_eq_true rfl, Nat.le_of_ble_eq_true rfl⟩) (fun r2 hw2 => ?_)
  have e12 : r1 = r2 := ((show r1 = _ from hw1).trans (X.2.1.song hi X.2.2.1 (xs (nI (4 * i) + 1).toNatClampNeg) (xs (nI (4 * i) + 2).toNatClampNeg))).trans (show r2 = _ from hw2).symm
  have Wd2 : zWd D cI h g (fun q : Nat => s.heap.size ≤ q) (i + 1) H1 := ⟨len, cd, n, ks, gs, wt, mi, pl, sk, he, nh, ru, bg, la, sd, pl2, sk2, he2, nh2, ru2, bg2, la2, sd2, u0, l0, u1_.1, u1_.2, u2, l2, wy, fi, fl, nu, ik, pr, rm, rr, st, ry, xu, xl, sn, kp, kr, kb, kl, kw, kh, hc, pg, rd, rw, ro, be, hm, kro, khe, X.more, hPA, hPB, hD⟩
  refine lv_icmp_eq (tgt := 550) hx hb dL_law_218 (by decide) (fun _ => ?_) (fun c1 => absurd e12 c1)
  exact K _ _ Wd2 hS
set_option maxHeartbeats 4000000 in
set_option maxRecDepth 100000 in
theorem lw_as {p : Program} {l : Launch} {e : Env} {s : State} {m : MethodId} {below : List Frame} {meth : Method} {c : Code} {b L : Nat} {xs : Nat → Int32} {D : va_G} {cI : ClassId} {sa va : Nat} {h g : Nat → Nat} (C0 : lw_At p s m meth c b L xs) (hZ : zK D cI s) (hT : zS sa va (fun q : Nat => s.heap.size ≤ q) s s.heap) {i : Nat} (hL : L ≤ 256) (hi4 : 4 * i + 4 ≤ L) {H : Heap} {locs : List Loc} (Wd : zWd D cI h g (fun q : Nat => s.heap.size ≤ q) i H) (hS : va_S (fun q : Nat => s.heap.size ≤ q) s.heap H locs) {ls : Array Slot} (hl : lv_has ls 4 [(3, .int (nI (4 * i))), (2, .ref (g 0)), (1, .ref (h 0)), (0, .ref b)]) (K : ∀ (H1 : Heap) (locs1 : List Loc), zWd D cI h g (fun q : Nat => s.heap.size ≤ q) (i + 1) H1 → va_S (fun q : Nat => s.heap.size ≤ q) s.heap H1 locs1 → W p l e room_1 s m #[Value.ref b] below meth c H1 locs1 44 294 (lw_Z below #[Value.ref b] s) (F0 m 550 ls [])) : W p l e room_1 s m #[Value.ref b] below meth c H locs 44 294 (lw_Z below #[Value.ref b] s) (F0 m 223 ls []) := by
  obtain ⟨hx, hb, hr, hml, hown, hts0, hX, hbl, hlocks, hgv⟩ := C0
  have hts : ∀ w ∈ wsL_law, w.before #[Value.ref b] s = true := fun w hw => hts0 w (wsL_law_in w hw)
  have hA : ∀ q : Nat, s.heap.size ≤ q → (fun q : Nat => s.heap.size ≤ q) q := fun _ h => h
  have hbA : ¬ (fun q : Nat => s.heap.size ≤ q) b := Nat.not_le.mpr hbl
  obtain ⟨len, cd, n, ks, gs, wt, mi, pl, sk, he, nh, ru, bg, la, sd, pl2, sk2, he2, nh2, ru2, bg2, la2, sd2, u0, l0, u1, l1, u2, l2, wy, fi, fl, nu, ik, pr, rm, rr, st, ry, xu, xl, sn, kp, kr, kb, kl, kw, kh, hc, pg, rd, rw, ro, be, hm, kro, khe, X, hPA, hPB, hD⟩ := Wd
  have hi : i ≤ 64 := by omega
  have hx1 := lw_in1 hi4 hL
  have hx2 := lw_in2 hi4 hL
  refine lv_aload_n hx hb dL_law_223 rfl (lv_at hl 2 rfl) ?_
  refine lv_aload_n hx hb dL_law_224 rfl (lv_at hl 3 rfl) ?_
  refine lv_iload_n hx hb dL_law_225 rfl (lv_at hl 0 rfl) ?_
  refine lv_iconst (v := 1) hx hb dL_law_226 (by decide) ?_
  refine lv_iadd hx hb dL_law_227 ?_
  refine va_sld hx hb hX hbl hbA hS hx1 dL_law_228 ?_
  refine lv_aload_n hx hb dL_law_229 rfl (lv_at hl 3 rfl) ?_
  refine lv_iload_n hx hb dL_law_230 rfl (lv_at hl 0 rfl) ?_
  refine lv_iconst (v := 2) hx hb dL_law_231 (by decide) ?_
  refine lv_iadd hx hb dL_law_232 ?_
  refine va_sld hx hb hX hbl hbA hS hx2 dL_law_233 ?_
  refine vp_callSi (W.runV (As := [.int (xs (nI (4 * i) + 1).toNatClampNeg), .int (xs (nI (4 * i) + 2).toNatClampNeg)]) (rest := []) ⟨hx, hb, hml, hown, hts⟩ (c_X6_as l D cI h len cd n ks gs wt mi pl sk he nh ru bg la sd pl2 sk2 he2 nh2 ru2 bg2 la2 sd2 u0 l0 u1 l1 u2 l2 wy fi fl nu ik pr (xs (nI (4 * i) + 1).toNatClampNeg) (xs (nI (4 * i) + 2).toNatClampNeg)) (cwV 2 hts gL_law_X6_as rfl rfl rfl (by decide +kernel) ⟨Nat.le_of_ble_eq_true rfl, Nat.le_of_ble_eq_true rfl⟩) (vz_pvR (va_recv hZ.1 hPA (ci := 6) (q0 := 0) rfl rfl) hZ hPA) rfl rfl hl.1 rfl (lv_room (Nat.le_of_ble_eq_true rfl)) dL_law_234 ⟨Nat.le_of_ble_eq_true rfl, Nat.le_of_ble_eq_true rfl⟩) (fun r1 hw1 => ?_)
  refine lv_aload_n hx hb dL_law_237 rfl (lv_at hl 1 rfl) ?_
  refine lv_aload_n hx hb dL_law_238 rfl (lv_at hl 3 rfl) ?_
  refine lv_iload_n hx hb dL_law_239 rfl (lv_at hl 0 rfl) ?_
  refine lv_iconst (v := 1) hx hb dL_law_240 (by decide) ?_
  refine lv_iadd hx hb dL_law_241 ?_
  refine va_sld hx hb hX hbl hbA hS hx1 dL_law_242 ?_
  refine lv_aload_n hx hb dL_law_243 rfl (lv_at hl 3 rfl) ?_
  refine lv_iload_n hx hb dL_law_244 rfl (lv_at hl 0 rfl) ?_
  refine lv_iconst (v := 2) hx hb dL_law_245 (by decide) ?_
  refine lv_iadd hx hb dL_law_246 ?_
  refine va_sld hx hb hX hbl hbA hS hx2 dL_law_247 ?_
  refine vp_callSi (W.runV (As := [.int (xs (nI (4 * i) + 1).toNatClampNeg), .int (xs (nI (4 * i) + 2).toNatClampNeg)]) (rest := [.int r1]) ⟨hx, hb, hml, hown, hts⟩ (c_X7_as l D cI g len rm rr st n ru bg la sd pr ry nh xu xl sn kp kr kb kl kw kh hc pg rd rw ro be hm kro khe (xs (nI (4 * i) + 1).toNatClampNeg) (xs (nI (4 * i) + 2).toNatClampNeg) X.2.1.n6) (cwV 2 hts gL_law_X7_as rfl rfl rfl (by decide +kernel) ⟨Nat.le_of_ble_eq_true rfl, Nat.le_of_ble_eq_true rfl⟩) (vz_pvR (va_recv hZ.1 hPB (ci := 7) (q0 := 0) rfl rfl) hZ hPB) rfl rfl hl.1 rfl (lv_room (Nat.le_of_ble_eq_true rfl)) dL_law_248 ⟨Nat.le_of_ble_eq_true rfl, Nat.le_of_ble_eq_true rfl⟩) (fun r2 hw2 => ?_)
  have e12 : r1 = r2 := ((show r1 = _ from hw1).trans (X.2.1.as (xs (nI (4 * i) + 1).toNatClampNeg) (xs (nI (4 * i) + 2).toNatClampNeg))).trans (show r2 = _ from hw2).symm
  have Wd2 : zWd D cI h g (fun q : Nat => s.heap.size ≤ q) (i + 1) H := ⟨len, cd, n, ks, gs, wt, mi, pl, sk, he, nh, ru, bg, la, sd, pl2, sk2, he2, nh2, ru2, bg2, la2, sd2, u0, l0, u1, l1, u2, l2, wy, fi, fl, nu, ik, pr, rm, rr, st, ry, xu, xl, sn, kp, kr, kb, kl, kw, kh, hc, pg, rd, rw, ro, be, hm, kro, khe, X.more, hPA, hPB, hD⟩
  refine lv_icmp_eq (tgt := 550) hx hb dL_law_251 (by decide) (fun _ => ?_) (fun c1 => absurd e12 c1)
  exact K _ _ Wd2 hS
set_option maxHeartbeats 4000000 in
set_option maxRecDepth 100000 in
theorem lw_rule {p : Program} {l : Launch} {e : Env} {s : State} {m : MethodId} {below : List Frame} {meth : Method} {c : Code} {b L : Nat} {xs : Nat → Int32} {D : va_G} {cI : ClassId} {sa va : Nat} {h g : Nat → Nat} (C0 : lw_At p s m meth c b L xs) (hZ : zK D cI s) (hT : zS sa va (fun q : Nat => s.heap.size ≤ q) s s.heap) {i : Nat} (hL : L ≤ 256) (hi4 : 4 * i + 4 ≤ L) {H : Heap} {locs : List Loc} (Wd : zWd D cI h g (fun q : Nat => s.heap.size ≤ q) i H) (hS : va_S (fun q : Nat => s.heap.size ≤ q) s.heap H locs) {ls : Array Slot} (hl : lv_has ls 4 [(3, .int (nI (4 * i))), (2, .ref (g 0)), (1, .ref (h 0)), (0, .ref b)]) (K : ∀ (H1 : Heap) (locs1 : List Loc), zWd D cI h g (fun q : Nat => s.heap.size ≤ q) (i + 1) H1 → va_S (fun q : Nat => s.heap.size ≤ q) s.heap H1 locs1 → W p l e room_1 s m #[Value.ref b] below meth c H1 locs1 44 294 (lw_Z below #[Value.ref b] s) (F0 m 550 ls [])) : W p l e room_1 s m #[Value.ref b] below meth c H locs 44 294 (lw_Z below #[Value.ref b] s) (F0 m 256 ls []) := by
  obtain ⟨hx, hb, hr, hml, hown, hts0, hX, hbl, hlocks, hgv⟩ := C0
  have hts : ∀ w ∈ wsL_law, w.before #[Value.ref b] s = true := fun w hw => hts0 w (wsL_law_in w hw)
  have hA : ∀ q : Nat, s.heap.size ≤ q → (fun q : Nat => s.heap.size ≤ q) q := fun _ h => h
  have hbA : ¬ (fun q : Nat => s.heap.size ≤ q) b := Nat.not_le.mpr hbl
  obtain ⟨len, cd, n, ks, gs, wt, mi, pl, sk, he, nh, ru, bg, la, sd, pl2, sk2, he2, nh2, ru2, bg2, la2, sd2, u0, l0, u1, l1, u2, l2, wy, fi, fl, nu, ik, pr, rm, rr, st, ry, xu, xl, sn, kp, kr, kb, kl, kw, kh, hc, pg, rd, rw, ro, be, hm, kro, khe, X, hPA, hPB, hD⟩ := Wd
  have hi : i ≤ 64 := by omega
  have hx1 := lw_in1 hi4 hL
  refine lv_aload_n hx hb dL_law_256 rfl (lv_at hl 2 rfl) ?_
  refine lv_aload_n hx hb dL_law_257 rfl (lv_at hl 3 rfl) ?_
  refine lv_iload_n hx hb dL_law_258 rfl (lv_at hl 0 rfl) ?_
  refine lv_iconst (v := 1) hx hb dL_law_259 (by decide) ?_
  refine lv_iadd hx hb dL_law_260 ?_
  refine va_sld hx hb hX hbl hbA hS hx1 dL_law_261 ?_
  have hF1 : ∀ q, va_A (zSA cI h len cd n ks gs wt mi pl sk he nh ru bg la sd pl2 sk2 he2 nh2 ru2 bg2 la2 sd2 u0 l0 u1 l1 u2 l2 wy fi fl nu ik pr) H.size q → (fun q : Nat => s.heap.size ≤ q) q := vz_freeAll (zDl hD) hS hA
  refine va_calli (va_runV (As := [.int (xs (nI (4 * i) + 1).toNatClampNeg)]) (rest := []) ⟨hx, hb, hml, hown, hts⟩ (c_X6_rule l D cI h len cd n ks gs wt mi pl sk he nh ru bg la sd pl2 sk2 he2 nh2 ru2 bg2 la2 sd2 u0 l0 u1 l1 u2 l2 wy fi fl nu ik pr H.size (xs (nI (4 * i) + 1).toNatClampNeg) X.2.1.n6) (cwV 1 hts gL_law_X6_rule rfl rfl rfl (by decide +kernel) ⟨Nat.le_of_ble_eq_true rfl, Nat.le_of_ble_eq_true rfl⟩) (vz_pvW (va_recv hZ.1 hPA (ci := 6) (q0 := 0) rfl rfl) hZ hPA (zDl hD)) rfl rfl hl.1 rfl (lv_room (Nat.le_of_ble_eq_true rfl)) dL_law_262 ⟨Nat.le_of_ble_eq_true rfl, Nat.le_of_ble_eq_true rfl⟩) hS (fun q _ h => hF1 q h) hF1 (fun r1 u1_ t1 H1 locs1 ht hvm hw1 hB hz1 hk1 hS9 => ?_)
  rw [ht] at hB
  replace hPB : va_P D vwCl (zM cI g len rm rr st n ru bg la sd pr ry nh xu xl sn kp kr kb kl kw kh hc pg rd rw ro be hm kro khe) H1 := zkeepR hD hPB hk1
  replace hPA : va_P D vwCl (zSA cI h len cd n ks gs wt mi pl sk he nh (ru_n n ru (xs (nI (4 * i) + 1).toNatClampNeg)) bg la sd pl2 sk2 he2 nh2 ru2 bg2 la2 sd2 u0 l0 u1 l1 u2 l2 wy fi fl nu ik pr) H1 := hB
  replace hD : va_D (fun q : Nat => s.heap.size ≤ q) (zSA cI h len cd n ks gs wt mi pl sk he nh (ru_n n ru (xs (nI (4 * i) + 1).toNatClampNeg)) bg la sd pl2 sk2 he2 nh2 ru2 bg2 la2 sd2 u0 l0 u1 l1 u2 l2 wy fi fl nu ik pr ++ zM cI g len rm rr st n ru bg la sd pr ry nh xu xl sn kp kr kb kl kw kh hc pg rd rw ro be hm kro khe) := vz_same hD rfl
  replace hS := hS9
  clear hS9 hB hk1 hz1 ht hvm hF1
  refine lv_aload_n hx hb dL_law_265 rfl (lv_at hl 1 rfl) ?_
  refine lv_aload_n hx hb dL_law_266 rfl (lv_at hl 3 rfl) ?_
  refine lv_iload_n hx hb dL_law_267 rfl (lv_at hl 0 rfl) ?_
  refine lv_iconst (v := 1) hx hb dL_law_268 (by decide) ?_
  refine lv_iadd hx hb dL_law_269 ?_
  refine va_sld hx hb hX hbl hbA hS hx1 dL_law_270 ?_
  have hF2 : ∀ q, va_A (zM cI g len rm rr st n ru bg la sd pr ry nh xu xl sn kp kr kb kl kw kh hc pg rd rw ro be hm kro khe) H1.size q → (fun q : Nat => s.heap.size ≤ q) q := vz_freeAll (zDr hD) hS hA
  refine va_calli (va_runV (As := [.int (xs (nI (4 * i) + 1).toNatClampNeg)]) (rest := [.int r1]) ⟨hx, hb, hml, hown, hts⟩ (c_X7_rule l D cI g len rm rr st n ru bg la sd pr ry nh xu xl sn kp kr kb kl kw kh hc pg rd rw ro be hm kro khe H1.size (xs (nI (4 * i) + 1).toNatClampNeg) X.2.1.n6) (cwV 1 hts gL_law_X7_rule rfl rfl rfl (by decide +kernel) ⟨Nat.le_of_ble_eq_true rfl, Nat.le_of_ble_eq_true rfl⟩) (vz_pvW (va_recv hZ.1 hPB (ci := 7) (q0 := 0) rfl rfl) hZ hPB (zDr hD)) rfl rfl hl.1 rfl (lv_room (Nat.le_of_ble_eq_true rfl)) dL_law_271 ⟨Nat.le_of_ble_eq_true rfl, Nat.le_of_ble_eq_true rfl⟩) hS (fun q _ h => hF2 q h) hF2 (fun r2 u2_ t2 H2 locs2 ht hvm hw2 hB hz1 hk1 hS9 => ?_)
  rw [ht] at hB
  replace hPA : va_P D vwCl (zSA cI h len cd n ks gs wt mi pl sk he nh (ru_n n ru (xs (nI (4 * i) + 1).toNatClampNeg)) bg la sd pl2 sk2 he2 nh2 ru2 bg2 la2 sd2 u0 l0 u1 l1 u2 l2 wy fi fl nu ik pr) H2 := zkeepL hD hPA hk1
  replace hPB : va_P D vwCl (zM cI g len rm rr st n (pl_n (mru n (xs (nI (4 * i) + 1).toNatClampNeg)) (xs (nI (4 * i) + 1).toNatClampNeg) ru) bg la sd pr ry nh xu xl sn kp kr kb kl kw kh hc pg rd rw ro be hm kro khe) H2 := hB
  replace hD : va_D (fun q : Nat => s.heap.size ≤ q) (zSA cI h len cd n ks gs wt mi pl sk he nh (ru_n n ru (xs (nI (4 * i) + 1).toNatClampNeg)) bg la sd pl2 sk2 he2 nh2 ru2 bg2 la2 sd2 u0 l0 u1 l1 u2 l2 wy fi fl nu ik pr ++ zM cI g len rm rr st n (pl_n (mru n (xs (nI (4 * i) + 1).toNatClampNeg)) (xs (nI (4 * i) + 1).toNatClampNeg) ru) bg la sd pr ry nh xu xl sn kp kr kb kl kw kh hc pg rd rw ro be hm kro khe) := vz_same hD rfl
  replace hS := hS9
  clear hS9 hB hk1 hz1 ht hvm hF2
  have e12 : r1 = r2 := ((show r1 = _ from hw1).trans ((X.2.2.1.rule (xs (nI (4 * i) + 1).toNatClampNeg)).1)).trans (show r2 = _ from hw2).symm
  rw [← (X.2.2.1.rule (xs (nI (4 * i) + 1).toNatClampNeg)).2.1] at hPB hD
  have Wd2 : zWd D cI h g (fun q : Nat => s.heap.size ≤ q) (i + 1) H2 := ⟨len, cd, n, ks, gs, wt, mi, pl, sk, he, nh, ru_n n ru (xs (nI (4 * i) + 1).toNatClampNeg), bg, la, sd, pl2, sk2, he2, nh2, ru2, bg2, la2, sd2, u0, l0, u1, l1, u2, l2, wy, fi, fl, nu, ik, pr, rm, rr, st, ry, xu, xl, sn, kp, kr, kb, kl, kw, kh, hc, pg, rd, rw, ro, be, hm, kro, khe, X.rule (xs (nI (4 * i) + 1).toNatClampNeg), hPA, hPB, hD⟩
  refine lv_icmp_eq (tgt := 550) hx hb dL_law_274 (by decide) (fun _ => ?_) (fun c1 => absurd e12 c1)
  exact K _ _ Wd2 hS

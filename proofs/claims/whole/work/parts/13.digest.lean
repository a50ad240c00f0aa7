set_option maxHeartbeats 4000000 in
set_option maxRecDepth 100000 in
theorem c_X6_digestOfPlayer (l : Launch) (D : va_G) (cI : ClassId) (h : Nat → Nat) (len : Nat) (cd : Nat → Int32) (nm : Nat) (ks : Nat → Int32) (gs : Nat → Int32) (wt : Nat → Int32) (mi : Nat → Int32) (pl : Nat → Int32) (sk : Nat → Int32) (he : Nat → Int32) (nh : Nat) (ru : Int32) (bg : Int32) (la : Int32) (sd : Bool) (pl2 : Nat → Int32) (sk2 : Nat → Int32) (he2 : Nat → Int32) (nh2 : Nat) (ru2 : Int32) (bg2 : Int32) (la2 : Int32) (sd2 : Bool) (u0 : Int64) (l0 : Int64) (u1 : Int64) (l1 : Int64) (u2 : Int64) (l2 : Int64) (wy : Nat → Int32) (fi : Nat → Int32) (fl : Int32) (nu : Int32) (ik : Bool) (pr : Nat) (sz : Nat) (p0 : Int64) (hnm : nm ≤ 6) (hnh : nh ≤ 8) : Met l yX6_digestOfPlayer wsX6_digestOfPlayer ({ frames := 13, cells := 0, slots := 0, locals := 302 } : Room) (vz_rw D cI (zSA cI h len cd nm ks gs wt mi pl sk he nh ru bg la sd pl2 sk2 he2 nh2 ru2 bg2 la2 sd2 u0 l0 u1 l1 u2 l2 wy fi fl nu ik pr) sz [.ref (h 0), .long p0]) (va_Ql (fun r (_ : Int64 × Int64 × Int64 × Int64 × Int64 × Int64 × (Nat → Int32) × (Nat → Int32) × Int32 × Int32) => r = dp nm ks gs wt sk he wy fi nh ru bg la p0) (fun (u : Int64 × Int64 × Int64 × Int64 × Int64 × Int64 × (Nat → Int32) × (Nat → Int32) × Int32 × Int32) (t : State) => va_P D vwCl (zSA cI h len cd nm ks gs wt mi pl sk he nh ru bg la sd pl2 sk2 he2 nh2 ru2 bg2 la2 sd2 u.1 u.2.1 u.2.2.1 u.2.2.2.1 u.2.2.2.2.1 u.2.2.2.2.2.1 u.2.2.2.2.2.2.1 u.2.2.2.2.2.2.2.1 u.2.2.2.2.2.2.2.2.1 u.2.2.2.2.2.2.2.2.2 ik pr) t.heap) (va_A (zSA cI h len cd nm ks gs wt mi pl sk he nh ru bg la sd pl2 sk2 he2 nh2 ru2 bg2 la2 sd2 u0 l0 u1 l1 u2 l2 wy fi fl nu ik pr) sz)) 0 0 (va_A (zSA cI h len cd nm ks gs wt mi pl sk he nh ru bg la sd pl2 sk2 he2 nh2 ru2 bg2 la2 sd2 u0 l0 u1 l1 u2 l2 wy fi fl nu ik pr) sz) := by
  refine Met.ofW (cc := cX6_digestOfPlayer) (maxL := 6) (ret := (some .long)) (by decide) rfl ?_
  intro p e s m args below meth c s₁ B hml hv
  obtain ⟨rfl, hsz, hP, hZ, hD0⟩ := hv
  obtain ⟨hK, hN⟩ := id hZ
  have hx := B.exec
  have hb := B.bytes
  have hr := B.returns
  have hts := atoms_spec (ws := wsX6_digestOfPlayer) B.pre
  have hown : s.vm.findClass RX6 = some m.cls := findClass_of_methodNamed B.named
  have hlocks := B.notSynchronized
  subst hsz
  have hD := hD0.self (sz := s.heap.size)
  generalize hAe : va_A (zSA cI h len cd nm ks gs wt mi pl sk he nh ru bg la sd pl2 sk2 he2 nh2 ru2 bg2 la2 sd2 u0 l0 u1 l1 u2 l2 wy fi fl nu ik pr) s.heap.size = A at hD ⊢
  have hA : ∀ q : Nat, s.heap.size ≤ q → A q := fun q h => by rw [← hAe]; exact Or.inr h
  have hS : va_S A s.heap s.heap [] := va_S.rf
  have k19 := hts (.fieldLink RX6 19 "SongsAgain" "book" "LSongsAgain$Book;") (List.mem_of_getElem? (i := 4) rfl)
  have k36 := hts (.fieldLink RX6 36 "SongsAgain" "sum" "LSongsAgain$Fraction;") (List.mem_of_getElem? (i := 2) rfl)
  have k49 := hts (.fieldLink RX6 49 "SongsAgain" "orders" "LSongsAgain$Orders;") (List.mem_of_getElem? (i := 3) rfl)
  have k160 : (Cond.fieldLinkNest "SongsAgain" 160 "SongsAgain$Fraction" "above" "J" "SongsAgain").before _ s = true := va_Nw.use (A := ([.ref (h 0), .long p0] : List Value).toArray) rfl (hN.1 ("SongsAgain", 160, "SongsAgain$Fraction", "above", "J") (List.mem_of_getElem? (i := 17) rfl))
  have k164 : (Cond.fieldLinkNest "SongsAgain" 164 "SongsAgain$Fraction" "below" "J" "SongsAgain").before _ s = true := va_Nw.use (A := ([.ref (h 0), .long p0] : List Value).toArray) rfl (hN.1 ("SongsAgain", 164, "SongsAgain$Fraction", "below", "J") (List.mem_of_getElem? (i := 18) rfl))
  have iX1 : ∀ w ∈ u_ws RX1 TX1 2, w ∈ wsX6_digestOfPlayer := vz_in (i := 156) (n := 2) rfl
  have iX6 : ∀ w ∈ u_ws RX6 TX6 10, w ∈ wsX6_digestOfPlayer := vz_in (i := 146) (n := 10) rfl
  have hl := lv_entry ([.ref (h 0), .long p0]) (n := 6) (Nat.le_of_ble_eq_true rfl)
  rw [lg_entry_eq]
  generalize (lg_sl ([.ref (h 0), .long p0]) ++ List.replicate (6 - (lg_sl ([.ref (h 0), .long p0])).length) Slot.unset).toArray = ls at hl ⊢
  have hl : lv_has ls 6 [(0, .ref (h 0)), (1, .long p0)] := hl
  have hP : va_P D vwCl (zSA cI h len cd nm ks gs wt mi pl sk he nh ru bg la sd pl2 sk2 he2 nh2 ru2 bg2 la2 sd2 u0 l0 u1 l1 u2 l2 wy fi fl nu ik pr) s.heap := hP
  refine lv_lload_n hx hb dX6_digestOfPlayer_0 rfl (lv_at hl 1 rfl) ?_
  refine lv_lstore_n (lv' := [(3, .long p0), (0, .ref (h 0)), (1, .long p0)]) hx hb dX6_digestOfPlayer_1 rfl hl (by decide) rfl (fun ls hl => ?_)
  refine lv_aload_n hx hb dX6_digestOfPlayer_2 rfl (lv_at hl 1 rfl) ?_
  refine lv_iconst (v := 2) hx hb dX6_digestOfPlayer_3 (by decide) ?_
  have hPc := hP
  have hDc := hD
  have hFc : ∀ q, va_A (zSA cI h len cd nm ks gs wt mi pl sk he nh ru bg la sd pl2 sk2 he2 nh2 ru2 bg2 la2 sd2 u0 l0 u1 l1 u2 l2 wy fi fl nu ik pr) s.heap.size q → A q := vz_freeAll hD hS hA
  refine va_callv (va_runV (As := [.int 2]) (rest := []) ⟨hx, hb, hml, hown, hts⟩ (c_X6_reckonTwice l D cI h len cd nm ks gs wt mi pl sk he nh ru bg la sd pl2 sk2 he2 nh2 ru2 bg2 la2 sd2 u0 l0 u1 l1 u2 l2 wy fi fl nu ik pr s.heap.size 2 (by first | assumption | omega) (by omega)) (cwV 1 hts gX6_digestOfPlayer_X6_reckonTwice rfl rfl rfl (by decide +kernel) ⟨Nat.le_of_ble_eq_true rfl, Nat.le_of_ble_eq_true rfl⟩) (vz_pvW (va_recv hK hP (ci := 6) (q0 := 0) rfl rfl) hZ hPc hDc) rfl rfl hl.1 rfl (lv_room (Nat.le_of_ble_eq_true rfl)) dX6_digestOfPlayer_4 ⟨Nat.zero_le _, Nat.zero_le _⟩) hS (fun q _ h => hFc q h) hFc (fun u_4 t H_4 locs_4 ht hvm hw hB hz1 hk1 hS9 => ?_)
  rw [ht] at hB
  replace hP : va_P D vwCl (zSA cI h len cd nm ks gs wt mi pl sk he nh ru bg la sd pl2 sk2 he2 nh2 ru2 bg2 la2 sd2 ((tw nm ks gs wt sk ru 2 bg la 0 1 1 (0, 1)).1) ((tw nm ks gs wt sk ru 2 bg la 0 1 1 (0, 1)).2) u1 l1 u2 l2 wy fi fl nu ik pr) H_4 := hB
  replace hD : va_D A (zSA cI h len cd nm ks gs wt mi pl sk he nh ru bg la sd pl2 sk2 he2 nh2 ru2 bg2 la2 sd2 ((tw nm ks gs wt sk ru 2 bg la 0 1 1 (0, 1)).1) ((tw nm ks gs wt sk ru 2 bg la 0 1 1 (0, 1)).2) u1 l1 u2 l2 wy fi fl nu ik pr) := vz_same hD rfl
  replace hS := hS9
  clear hS9 hPc hDc hFc hB hk1 hz1
  refine lv_ldc2 (v := 31) hx hb hown (hts (.constantLong RX6 207 (31)) (List.mem_of_getElem? (i := 1) rfl)) dX6_digestOfPlayer_7 ?_
  refine lv_lload_n hx hb dX6_digestOfPlayer_10 rfl (lv_at hl 0 rfl) ?_
  refine lv_lmul hx hb dX6_digestOfPlayer_11 ?_
  refine lv_aload_n hx hb dX6_digestOfPlayer_12 rfl (lv_at hl 1 rfl) ?_
  refine va_get (D := D) (ci := 6) (v := .ref (h 27)) (C := RX6) (T := TX6) (N := 10) hx hb hts iX6 hown hK hP 0 rfl rfl 4 (by decide) k36 (fun _ h9 => h9) rfl dX6_digestOfPlayer_13 ?_
  refine va_getN (D := D) (ci := 1) (v := .long ((tw nm ks gs wt sk ru 2 bg la 0 1 1 (0, 1)).1)) (C := RX1) (T := TX1) (N := 2) hx hb hts iX1 hown hK hP 27 rfl rfl 0 (by decide) k160 (fun _ h9 => h9) rfl dX6_digestOfPlayer_16 ?_
  refine lv_ladd hx hb dX6_digestOfPlayer_19 ?_
  refine lv_lstore_n (lv' := [(3, .long ((31 * p0) + ((tw nm ks gs wt sk ru 2 bg la 0 1 1 (0, 1)).1))), (0, .ref (h 0)), (1, .long p0)]) hx hb dX6_digestOfPlayer_20 rfl hl (by decide) rfl (fun ls hl => ?_)
  refine lv_ldc2 (v := 31) hx hb hown (hts (.constantLong RX6 207 (31)) (List.mem_of_getElem? (i := 1) rfl)) dX6_digestOfPlayer_21 ?_
  refine lv_lload_n hx hb dX6_digestOfPlayer_24 rfl (lv_at hl 0 rfl) ?_
  refine lv_lmul hx hb dX6_digestOfPlayer_25 ?_
  refine lv_aload_n hx hb dX6_digestOfPlayer_26 rfl (lv_at hl 1 rfl) ?_
  refine va_get (D := D) (ci := 6) (v := .ref (h 27)) (C := RX6) (T := TX6) (N := 10) hx hb hts iX6 hown hK hP 0 rfl rfl 4 (by decide) k36 (fun _ h9 => h9) rfl dX6_digestOfPlayer_27 ?_
  refine va_getN (D := D) (ci := 1) (v := .long ((tw nm ks gs wt sk ru 2 bg la 0 1 1 (0, 1)).2)) (C := RX1) (T := TX1) (N := 2) hx hb hts iX1 hown hK hP 27 rfl rfl 1 (by decide) k164 (fun _ h9 => h9) rfl dX6_digestOfPlayer_30 ?_
  refine lv_ladd hx hb dX6_digestOfPlayer_33 ?_
  refine lv_lstore_n (lv' := [(3, .long ((31 * ((31 * p0) + ((tw nm ks gs wt sk ru 2 bg la 0 1 1 (0, 1)).1))) + ((tw nm ks gs wt sk ru 2 bg la 0 1 1 (0, 1)).2))), (0, .ref (h 0)), (1, .long p0)]) hx hb dX6_digestOfPlayer_34 rfl hl (by decide) rfl (fun ls hl => ?_)
  refine lv_aload_n hx hb dX6_digestOfPlayer_35 rfl (lv_at hl 1 rfl) ?_
  refine va_get (D := D) (ci := 6) (v := .ref (h 30)) (C := RX6) (T := TX6) (N := 10) hx hb hts iX6 hown hK hP 0 rfl rfl 7 (by decide) k49 (fun _ h9 => h9) rfl dX6_digestOfPlayer_36 ?_
  refine lv_aload_n hx hb dX6_digestOfPlayer_39 rfl (lv_at hl 1 rfl) ?_
  refine va_get (D := D) (ci := 6) (v := .ref (h 4)) (C := RX6) (T := TX6) (N := 10) hx hb hts iX6 hown hK hP 0 rfl rfl 1 (by decide) k19 (fun _ h9 => h9) rfl dX6_digestOfPlayer_40 ?_
  refine lv_aload_n hx hb dX6_digestOfPlayer_43 rfl (lv_at hl 1 rfl) ?_
  refine va_get (D := D) (ci := 6) (v := .ref (h 4)) (C := RX6) (T := TX6) (N := 10) hx hb hts iX6 hown hK hP 0 rfl rfl 1 (by decide) k19 (fun _ h9 => h9) rfl dX6_digestOfPlayer_44 ?_
  refine vp_callSi (W.runV (As := []) (rest := [.ref (h 4), .ref (h 30)]) ⟨hx, hb, hml, hown, hts⟩ (c_X0_all l D cI (fun i => h (4 + i)) nm ks gs wt mi) (cwV 0 hts gX6_digestOfPlayer_X0_all rfl rfl rfl (by decide +kernel) ⟨Nat.le_of_ble_eq_true rfl, Nat.le_of_ble_eq_true rfl⟩) (vz_pvR (va_recv hK hP (ci := 0) (q0 := 4) rfl rfl) hZ (hP.sub (ws' := (zBook cI (fun i => h (4 + i)) nm ks gs wt mi)) [4, 5, 6, 7, 8, 9, 10, 11, 12] rfl)) rfl rfl hl.1 rfl (lv_room (Nat.le_of_ble_eq_true rfl)) dX6_digestOfPlayer_47 ⟨Nat.zero_le _, Nat.zero_le _⟩) (fun r_47 hr_47 => ?_)
  subst hr_47
  have hPc := (hP.sub (ws' := (zOrdBook cI (fun i => h (30 + i)) (fun i => h (4 + i)) wy fi fl nu nm ks gs wt mi)) [30, 31, 32, 33, 34, 4, 5, 6, 7, 8, 9, 10, 11, 12] rfl)
  have hDc := hD.sub (ws' := (zOrdBook cI (fun i => h (30 + i)) (fun i => h (4 + i)) wy fi fl nu nm ks gs wt mi)) [30, 31, 32, 33, 34, 4, 5, 6, 7, 8, 9, 10, 11, 12] rfl rfl
  have hFc := va_free (wc := (zOrdBook cI (fun i => h (30 + i)) (fun i => h (4 + i)) wy fi fl nu nm ks gs wt mi)) hD hS hA [30, 31, 32, 33, 34, 4, 5, 6, 7, 8, 9, 10, 11, 12] rfl
  refine va_callv (va_runV (As := [.ref (h 4), .int (bk_all nm)]) (rest := []) ⟨hx, hb, hml, hown, hts⟩ (c_X2_findAll l D cI (fun i => h (30 + i)) (fun i => h (4 + i)) wy fi fl nu nm ks gs wt mi H_4.size (bk_all nm) (by first | assumption | omega)) (cwV 2 hts gX6_digestOfPlayer_X2_findAll rfl rfl rfl (by decide +kernel) ⟨Nat.le_of_ble_eq_true rfl, Nat.le_of_ble_eq_true rfl⟩) (vz_pvW (va_recv hK hP (ci := 2) (q0 := 30) rfl rfl) hZ hPc hDc) rfl rfl hl.1 rfl (lv_room (Nat.le_of_ble_eq_true rfl)) dX6_digestOfPlayer_50 ⟨Nat.zero_le _, Nat.zero_le _⟩) hS (fun q _ h => hFc q h) hFc (fun u_50 t H_50 locs_50 ht hvm hw hB hz1 hk1 hS9 => ?_)
  rw [ht] at hB
  replace hP : va_P D vwCl (zSA cI h len cd nm ks gs wt mi pl sk he nh ru bg la sd pl2 sk2 he2 nh2 ru2 bg2 la2 sd2 ((tw nm ks gs wt sk ru 2 bg la 0 1 1 (0, 1)).1) ((tw nm ks gs wt sk ru 2 bg la 0 1 1 (0, 1)).2) u1 l1 u2 l2 ((od nm gs 7 0 (bk_all nm) (wy, fi, 0, 0)).1) ((od nm gs 7 0 (bk_all nm) (wy, fi, 0, 0)).2.1) ((od nm gs 7 0 (bk_all nm) (wy, fi, 0, 0)).2.2.1) ((od nm gs 7 0 (bk_all nm) (wy, fi, 0, 0)).2.2.2) ik pr) H_50 := vz_join (w1 := (zOrdBook cI (fun i => h (30 + i)) (fun i => h (4 + i)) ((od nm gs 7 0 (bk_all nm) (wy, fi, 0, 0)).1) ((od nm gs 7 0 (bk_all nm) (wy, fi, 0, 0)).2.1) ((od nm gs 7 0 (bk_all nm) (wy, fi, 0, 0)).2.2.1) ((od nm gs 7 0 (bk_all nm) (wy, fi, 0, 0)).2.2.2) nm ks gs wt mi)) hP hD [30, 31, 32, 33, 34, 4, 5, 6, 7, 8, 9, 10, 11, 12] rfl rfl hk1 hB
  replace hD : va_D A (zSA cI h len cd nm ks gs wt mi pl sk he nh ru bg la sd pl2 sk2 he2 nh2 ru2 bg2 la2 sd2 ((tw nm ks gs wt sk ru 2 bg la 0 1 1 (0, 1)).1) ((tw nm ks gs wt sk ru 2 bg la 0 1 1 (0, 1)).2) u1 l1 u2 l2 ((od nm gs 7 0 (bk_all nm) (wy, fi, 0, 0)).1) ((od nm gs 7 0 (bk_all nm) (wy, fi, 0, 0)).2.1) ((od nm gs 7 0 (bk_all nm) (wy, fi, 0, 0)).2.2.1) ((od nm gs 7 0 (bk_all nm) (wy, fi, 0, 0)).2.2.2) ik pr) := vz_same hD rfl
  replace hS := hS9
  clear hS9 hPc hDc hFc hB hk1 hz1
  refine lv_ldc2 (v := 31) hx hb hown (hts (.constantLong RX6 207 (31)) (List.mem_of_getElem? (i := 1) rfl)) dX6_digestOfPlayer_53 ?_
  refine lv_lload_n hx hb dX6_digestOfPlayer_56 rfl (lv_at hl 0 rfl) ?_
  refine lv_lmul hx hb dX6_digestOfPlayer_57 ?_
  refine lv_aload_n hx hb dX6_digestOfPlayer_58 rfl (lv_at hl 1 rfl) ?_
  refine va_get (D := D) (ci := 6) (v := .ref (h 30)) (C := RX6) (T := TX6) (N := 10) hx hb hts iX6 hown hK hP 0 rfl rfl 7 (by decide) k49 (fun _ h9 => h9) rfl dX6_digestOfPlayer_59 ?_
  refine lv_iconst (v := 0) hx hb dX6_digestOfPlayer_62 (by decide) ?_
  refine vp_callSi (W.runV (As := [.int 0]) (rest := [.long (31 * ((31 * ((31 * p0) + ((tw nm ks gs wt sk ru 2 bg la 0 1 1 (0, 1)).1))) + ((tw nm ks gs wt sk ru 2 bg la 0 1 1 (0, 1)).2)))]) ⟨hx, hb, hml, hown, hts⟩ (c_X2_fact l D cI (fun i => h (30 + i)) ((od nm gs 7 0 (bk_all nm) (wy, fi, 0, 0)).1) ((od nm gs 7 0 (bk_all nm) (wy, fi, 0, 0)).2.1) ((od nm gs 7 0 (bk_all nm) (wy, fi, 0, 0)).2.2.1) ((od nm gs 7 0 (bk_all nm) (wy, fi, 0, 0)).2.2.2) 0) (cwV 1 hts gX6_digestOfPlayer_X2_fact rfl rfl rfl (by decide +kernel) ⟨Nat.le_of_ble_eq_true rfl, Nat.le_of_ble_eq_true rfl⟩) (vz_pvR (va_recv hK hP (ci := 2) (q0 := 30) rfl rfl) hZ (hP.sub (ws' := (zOrd cI (fun i => h (30 + i)) ((od nm gs 7 0 (bk_all nm) (wy, fi, 0, 0)).1) ((od nm gs 7 0 (bk_all nm) (wy, fi, 0, 0)).2.1) ((od nm gs 7 0 (bk_all nm) (wy, fi, 0, 0)).2.2.1) ((od nm gs 7 0 (bk_all nm) (wy, fi, 0, 0)).2.2.2))) [30, 31, 32, 33, 34] rfl)) rfl rfl hl.1 rfl (lv_room (Nat.le_of_ble_eq_true rfl)) dX6_digestOfPlayer_63 ⟨Nat.zero_le _, Nat.zero_le _⟩) (fun r_63 hr_63 => ?_)
  subst hr_63
  refine lv_i2l (v := (od_fact ((od nm gs 7 0 (bk_all nm) (wy, fi, 0, 0)).2.1) ((od nm gs 7 0 (bk_all nm) (wy, fi, 0, 0)).2.2.1) ((od nm gs 7 0 (bk_all nm) (wy, fi, 0, 0)).2.2.2) 0 : Int32).toInt64) hx hb dX6_digestOfPlayer_66 rfl ?_
  refine lv_ladd hx hb dX6_digestOfPlayer_67 ?_
  refine lv_lstore_n (lv' := [(3, .long ((31 * ((31 * ((31 * p0) + ((tw nm ks gs wt sk ru 2 bg la 0 1 1 (0, 1)).1))) + ((tw nm ks gs wt sk ru 2 bg la 0 1 1 (0, 1)).2))) + ((od_fact ((od nm gs 7 0 (bk_all nm) (wy, fi, 0, 0)).2.1) ((od nm gs 7 0 (bk_all nm) (wy, fi, 0, 0)).2.2.1) ((od nm gs 7 0 (bk_all nm) (wy, fi, 0, 0)).2.2.2) 0 : Int32).toInt64))), (0, .ref (h 0)), (1, .long p0)]) hx hb dX6_digestOfPlayer_68 rfl hl (by decide) rfl (fun ls hl => ?_)
  refine lv_iconst (v := 0) hx hb dX6_digestOfPlayer_69 (by decide) ?_
  refine lv_istore (lv' := [(5, .int 0), (3, .long ((31 * ((31 * ((31 * p0) + ((tw nm ks gs wt sk ru 2 bg la 0 1 1 (0, 1)).1))) + ((tw nm ks gs wt sk ru 2 bg la 0 1 1 (0, 1)).2))) + ((od_fact ((od nm gs 7 0 (bk_all nm) (wy, fi, 0, 0)).2.1) ((od nm gs 7 0 (bk_all nm) (wy, fi, 0, 0)).2.2.1) ((od nm gs 7 0 (bk_all nm) (wy, fi, 0, 0)).2.2.2) 0 : Int32).toInt64))), (0, .ref (h 0)), (1, .long p0)]) hx hb dX6_digestOfPlayer_70 hl (by decide) rfl (fun ls hl => ?_)
  have L_72 : ∀ (d_72 : Nat) (j : Nat) (H_72 : Heap) (locs_72 : List Loc), 6 - j < d_72 → (j ≤ 6) → va_P D vwCl (zSA cI h len cd nm ks gs wt mi pl sk he nh ru bg la sd pl2 sk2 he2 nh2 ru2 bg2 la2 sd2 ((tw nm ks gs wt sk ru 2 bg la 0 1 1 (0, 1)).1) ((tw nm ks gs wt sk ru 2 bg la 0 1 1 (0, 1)).2) u1 l1 u2 l2 ((od nm gs 7 0 (bk_all nm) (wy, fi, 0, 0)).1) ((od nm gs 7 0 (bk_all nm) (wy, fi, 0, 0)).2.1) ((od nm gs 7 0 (bk_all nm) (wy, fi, 0, 0)).2.2.1) ((od nm gs 7 0 (bk_all nm) (wy, fi, 0, 0)).2.2.2) ik pr) H_72 → va_D A (zSA cI h len cd nm ks gs wt mi pl sk he nh ru bg la sd pl2 sk2 he2 nh2 ru2 bg2 la2 sd2 ((tw nm ks gs wt sk ru 2 bg la 0 1 1 (0, 1)).1) ((tw nm ks gs wt sk ru 2 bg la 0 1 1 (0, 1)).2) u1 l1 u2 l2 ((od nm gs 7 0 (bk_all nm) (wy, fi, 0, 0)).1) ((od nm gs 7 0 (bk_all nm) (wy, fi, 0, 0)).2.1) ((od nm gs 7 0 (bk_all nm) (wy, fi, 0, 0)).2.2.1) ((od nm gs 7 0 (bk_all nm) (wy, fi, 0, 0)).2.2.2) ik pr) → va_S A s.heap H_72 locs_72 → ∀ (ls : Array Slot), lv_has ls 6 [(5, .int (nI j)), (3, .long (dp6 (od nm gs 7 0 (bk_all nm) (wy, fi, 0, 0)) j (dp3 nm ks gs wt sk wy fi ru bg la p0))), (0, .ref (h 0)), (1, .long p0)] → W p l e ({ frames := 13, cells := 0, slots := 0, locals := 302 } : Room) s m ([.ref (h 0), .long p0] : List Value).toArray below meth c H_72 locs_72 0 0 (MQ below (va_Ql (fun r (_ : Int64 × Int64 × Int64 × Int64 × Int64 × Int64 × (Nat → Int32) × (Nat → Int32) × Int32 × Int32) => r = dp nm ks gs wt sk he wy fi nh ru bg la p0) (fun (u : Int64 × Int64 × Int64 × Int64 × Int64 × Int64 × (Nat → Int32) × (Nat → Int32) × Int32 × Int32) (t : State) => va_P D vwCl (zSA cI h len cd nm ks gs wt mi pl sk he nh ru bg la sd pl2 sk2 he2 nh2 ru2 bg2 la2 sd2 u.1 u.2.1 u.2.2.1 u.2.2.2.1 u.2.2.2.2.1 u.2.2.2.2.2.1 u.2.2.2.2.2.2.1 u.2.2.2.2.2.2.2.1 u.2.2.2.2.2.2.2.2.1 u.2.2.2.2.2.2.2.2.2 ik pr) t.heap) A) ([.ref (h 0), .long p0] : List Value).toArray s 0 0 A) (F0 m 72 ls []) := by
    intro d_72
    induction d_72 with
    | zero => intro j H_72 locs_72 hd; exact absurd hd (Nat.not_lt_zero _)
    | succ d_72 ih_72 =>
      intro j H_72 locs_72 hd_72 hj hP hD hS ls hl
      refine lv_iload hx hb dX6_digestOfPlayer_72 (lv_at hl 0 rfl) ?_
      refine lv_bipush (v := 6) hx hb dX6_digestOfPlayer_74 (by decide) ?_
      refine lv_icmp_ge (tgt := 105) hx hb dX6_digestOfPlayer_76 (by decide) (fun c_76 => ?_) (fun c_76 => ?_)
      · skip
        have hje : j = 6 := Nat.le_antisymm hj (vz_ge (n := 6) c_76 (by omega) (by omega))
        refine lv_ldc2 (v := 31) hx hb hown (hts (.constantLong RX6 207 (31)) (List.mem_of_getElem? (i := 1) rfl)) dX6_digestOfPlayer_105 ?_
        refine lv_lload_n hx hb dX6_digestOfPlayer_108 rfl (lv_at hl 1 rfl) ?_
        refine lv_lmul hx hb dX6_digestOfPlayer_109 ?_
        refine lv_aload_n hx hb dX6_digestOfPlayer_110 rfl (lv_at hl 2 rfl) ?_
        have hPc := hP
        have hDc := hD
        have hFc : ∀ q, va_A (zSA cI h len cd nm ks gs wt mi pl sk he nh ru bg la sd pl2 sk2 he2 nh2 ru2 bg2 la2 sd2 ((tw nm ks gs wt sk ru 2 bg la 0 1 1 (0, 1)).1) ((tw nm ks gs wt sk ru 2 bg la 0 1 1 (0, 1)).2) u1 l1 u2 l2 ((od nm gs 7 0 (bk_all nm) (wy, fi, 0, 0)).1) ((od nm gs 7 0 (bk_all nm) (wy, fi, 0, 0)).2.1) ((od nm gs 7 0 (bk_all nm) (wy, fi, 0, 0)).2.2.1) ((od nm gs 7 0 (bk_all nm) (wy, fi, 0, 0)).2.2.2) ik pr) H_72.size q → A q := vz_freeAll hD hS hA
        refine va_calli (va_runV (As := []) (rest := [.long (31 * (dp6 (od nm gs 7 0 (bk_all nm) (wy, fi, 0, 0)) j (dp3 nm ks gs wt sk wy fi ru bg la p0)))]) ⟨hx, hb, hml, hown, hts⟩ (c_X6_possibleRules l D cI h len cd nm ks gs wt mi pl sk he nh ru bg la sd pl2 sk2 he2 nh2 ru2 bg2 la2 sd2 ((tw nm ks gs wt sk ru 2 bg la 0 1 1 (0, 1)).1) ((tw nm ks gs wt sk ru 2 bg la 0 1 1 (0, 1)).2) u1 l1 u2 l2 ((od nm gs 7 0 (bk_all nm) (wy, fi, 0, 0)).1) ((od nm gs 7 0 (bk_all nm) (wy, fi, 0, 0)).2.1) ((od nm gs 7 0 (bk_all nm) (wy, fi, 0, 0)).2.2.1) ((od nm gs 7 0 (bk_all nm) (wy, fi, 0, 0)).2.2.2) ik pr H_72.size (by first | assumption | omega) (by first | assumption | omega)) (cwV 0 hts gX6_digestOfPlayer_X6_possibleRules rfl rfl rfl (by decide +kernel) ⟨Nat.le_of_ble_eq_true rfl, Nat.le_of_ble_eq_true rfl⟩) (vz_pvW (va_recv hK hP (ci := 6) (q0 := 0) rfl rfl) hZ hPc hDc) rfl rfl hl.1 rfl (lv_room (Nat.le_of_ble_eq_true rfl)) dX6_digestOfPlayer_111 ⟨Nat.zero_le _, Nat.zero_le _⟩) hS (fun q _ h => hFc q h) hFc (fun r_111 u_111 t H_111 locs_111 ht hvm hw hB hz1 hk1 hS9 => ?_)
        rw [ht] at hB
        replace hP : va_P D vwCl (zSA cI h len cd nm ks gs wt mi pl sk he nh ru bg la sd pl2 sk2 he2 nh2 ru2 bg2 la2 sd2 ((tw nm ks gs wt sk ru 2 bg la 0 1 1 (0, 1)).1) ((tw nm ks gs wt sk ru 2 bg la 0 1 1 (0, 1)).2) u_111.1 u_111.2 u2 l2 ((od nm gs 7 0 (bk_all nm) (wy, fi, 0, 0)).1) ((od nm gs 7 0 (bk_all nm) (wy, fi, 0, 0)).2.1) ((od nm gs 7 0 (bk_all nm) (wy, fi, 0, 0)).2.2.1) ((od nm gs 7 0 (bk_all nm) (wy, fi, 0, 0)).2.2.2) ik pr) H_111 := hB
        replace hD : va_D A (zSA cI h len cd nm ks gs wt mi pl sk he nh ru bg la sd pl2 sk2 he2 nh2 ru2 bg2 la2 sd2 ((tw nm ks gs wt sk ru 2 bg la 0 1 1 (0, 1)).1) ((tw nm ks gs wt sk ru 2 bg la 0 1 1 (0, 1)).2) u_111.1 u_111.2 u2 l2 ((od nm gs 7 0 (bk_all nm) (wy, fi, 0, 0)).1) ((od nm gs 7 0 (bk_all nm) (wy, fi, 0, 0)).2.1) ((od nm gs 7 0 (bk_all nm) (wy, fi, 0, 0)).2.2.1) ((od nm gs 7 0 (bk_all nm) (wy, fi, 0, 0)).2.2.2) ik pr) := vz_same hD rfl
        replace hS := hS9
        clear hS9 hPc hDc hFc hB hk1 hz1
        subst hw
        refine lv_i2l (v := (pr_acc nm ks gs wt he nh 4 : Int32).toInt64) hx hb dX6_digestOfPlayer_114 rfl ?_
        refine lv_ladd hx hb dX6_digestOfPlayer_115 ?_
        refine lv_lstore_n (lv' := [(3, .long ((31 * (dp6 (od nm gs 7 0 (bk_all nm) (wy, fi, 0, 0)) j (dp3 nm ks gs wt sk wy fi ru bg la p0))) + ((pr_acc nm ks gs wt he nh 4 : Int32).toInt64))), (5, .int (nI j)), (0, .ref (h 0)), (1, .long p0)]) hx hb dX6_digestOfPlayer_116 rfl hl (by decide) rfl (fun ls hl => ?_)
        refine lv_ldc2 (v := 31) hx hb hown (hts (.constantLong RX6 207 (31)) (List.mem_of_getElem? (i := 1) rfl)) dX6_digestOfPlayer_117 ?_
        refine lv_lload_n hx hb dX6_digestOfPlayer_120 rfl (lv_at hl 0 rfl) ?_
        refine lv_lmul hx hb dX6_digestOfPlayer_121 ?_
        refine lv_aload_n hx hb dX6_digestOfPlayer_122 rfl (lv_at hl 2 rfl) ?_
        have hPc := hP
        have hDc := hD
        have hFc : ∀ q, va_A (zSA cI h len cd nm ks gs wt mi pl sk he nh ru bg la sd pl2 sk2 he2 nh2 ru2 bg2 la2 sd2 ((tw nm ks gs wt sk ru 2 bg la 0 1 1 (0, 1)).1) ((tw nm ks gs wt sk ru 2 bg la 0 1 1 (0, 1)).2) u_111.1 u_111.2 u2 l2 ((od nm gs 7 0 (bk_all nm) (wy, fi, 0, 0)).1) ((od nm gs 7 0 (bk_all nm) (wy, fi, 0, 0)).2.1) ((od nm gs 7 0 (bk_all nm) (wy, fi, 0, 0)).2.2.1) ((od nm gs 7 0 (bk_all nm) (wy, fi, 0, 0)).2.2.2) ik pr) H_111.size q → A q := vz_freeAll hD hS hA
        refine va_calli (va_runV (As := []) (rest := [.long (31 * ((31 * (dp6 (od nm gs 7 0 (bk_all nm) (wy, fi, 0, 0)) j (dp3 nm ks gs wt sk wy fi ru bg la p0))) + ((pr_acc nm ks gs wt he nh 4 : Int32).toInt64)))]) ⟨hx, hb, hml, hown, hts⟩ (c_X6_likeliestRule l D cI h len cd nm ks gs wt mi pl sk he nh ru bg la sd pl2 sk2 he2 nh2 ru2 bg2 la2 sd2 ((tw nm ks gs wt sk ru 2 bg la 0 1 1 (0, 1)).1) ((tw nm ks gs wt sk ru 2 bg la 0 1 1 (0, 1)).2) u_111.1 u_111.2 u2 l2 ((od nm gs 7 0 (bk_all nm) (wy, fi, 0, 0)).1) ((od nm gs 7 0 (bk_all nm) (wy, fi, 0, 0)).2.1) ((od nm gs 7 0 (bk_all nm) (wy, fi, 0, 0)).2.2.1) ((od nm gs 7 0 (bk_all nm) (wy, fi, 0, 0)).2.2.2) ik pr H_111.size (by first | assumption | omega) (by first | assumption | omega)) (cwV 0 hts gX6_digestOfPlayer_X6_likeliestRule rfl rfl rfl (by decide +kernel) ⟨Nat.le_of_ble_eq_true rfl, Nat.le_of_ble_eq_true rfl⟩) (vz_pvW (va_recv hK hP (ci := 6) (q0 := 0) rfl rfl) hZ hPc hDc) rfl rfl hl.1 rfl (lv_room (Nat.le_of_ble_eq_true rfl)) dX6_digestOfPlayer_123 ⟨Nat.zero_le _, Nat.zero_le _⟩) hS (fun q _ h => hFc q h) hFc (fun r_123 u_123 t H_123 locs_123 ht hvm hw hB hz1 hk1 hS9 => ?_)
        rw [ht] at hB
        replace hP : va_P D vwCl (zSA cI h len cd nm ks gs wt mi pl sk he nh ru bg la sd pl2 sk2 he2 nh2 ru2 bg2 la2 sd2 ((tw nm ks gs wt sk ru 2 bg la 0 1 1 (0, 1)).1) ((tw nm ks gs wt sk ru 2 bg la 0 1 1 (0, 1)).2) u_123.1 u_123.2.1 u_123.2.2.1 u_123.2.2.2 ((od nm gs 7 0 (bk_all nm) (wy, fi, 0, 0)).1) ((od nm gs 7 0 (bk_all nm) (wy, fi, 0, 0)).2.1) ((od nm gs 7 0 (bk_all nm) (wy, fi, 0, 0)).2.2.1) ((od nm gs 7 0 (bk_all nm) (wy, fi, 0, 0)).2.2.2) ik pr) H_123 := hB
        replace hD : va_D A (zSA cI h len cd nm ks gs wt mi pl sk he nh ru bg la sd pl2 sk2 he2 nh2 ru2 bg2 la2 sd2 ((tw nm ks gs wt sk ru 2 bg la 0 1 1 (0, 1)).1) ((tw nm ks gs wt sk ru 2 bg la 0 1 1 (0, 1)).2) u_123.1 u_123.2.1 u_123.2.2.1 u_123.2.2.2 ((od nm gs 7 0 (bk_all nm) (wy, fi, 0, 0)).1) ((od nm gs 7 0 (bk_all nm) (wy, fi, 0, 0)).2.1) ((od nm gs 7 0 (bk_all nm) (wy, fi, 0, 0)).2.2.1) ((od nm gs 7 0 (bk_all nm) (wy, fi, 0, 0)).2.2.2) ik pr) := vz_same hD rfl
        replace hS := hS9
        clear hS9 hPc hDc hFc hB hk1 hz1
        subst hw
        refine lv_i2l (v := ((lk nm ks gs wt he nh 4).1 : Int32).toInt64) hx hb dX6_digestOfPlayer_126 rfl ?_
        refine lv_ladd hx hb dX6_digestOfPlayer_127 ?_
        exact W.lret hx hb hr (fun t ht hW => ⟨⟨_, ((tw nm ks gs wt sk ru 2 bg la 0 1 1 (0, 1)).1, (tw nm ks gs wt sk ru 2 bg la 0 1 1 (0, 1)).2, u_123.1, u_123.2.1, u_123.2.2.1, u_123.2.2.2, (od nm gs 7 0 (bk_all nm) (wy, fi, 0, 0)).1, (od nm gs 7 0 (bk_all nm) (wy, fi, 0, 0)).2.1, (od nm gs 7 0 (bk_all nm) (wy, fi, 0, 0)).2.2.1, (od nm gs 7 0 (bk_all nm) (wy, fi, 0, 0)).2.2.2), rfl, (by rw [hje] ; rfl), (by show va_P D vwCl (zSA cI h len cd nm ks gs wt mi pl sk he nh ru bg la sd pl2 sk2 he2 nh2 ru2 bg2 la2 sd2 ((tw nm ks gs wt sk ru 2 bg la 0 1 1 (0, 1)).1) ((tw nm ks gs wt sk ru 2 bg la 0 1 1 (0, 1)).2) u_123.1 u_123.2.1 u_123.2.2.1 u_123.2.2.2 ((od nm gs 7 0 (bk_all nm) (wy, fi, 0, 0)).1) ((od nm gs 7 0 (bk_all nm) (wy, fi, 0, 0)).2.1) ((od nm gs 7 0 (bk_all nm) (wy, fi, 0, 0)).2.2.1) ((od nm gs 7 0 (bk_all nm) (wy, fi, 0, 0)).2.2.2) ik pr) t.heap; rw [ht]; exact hP)⟩, hS.F ht⟩) hS.2.2 dX6_digestOfPlayer_128
      · skip
        have hlt : j < 6 := vz_lt (n := 6) c_76 (by omega)
        refine lv_ldc2 (v := 31) hx hb hown (hts (.constantLong RX6 207 (31)) (List.mem_of_getElem? (i := 1) rfl)) dX6_digestOfPlayer_79 ?_
        refine lv_lload_n hx hb dX6_digestOfPlayer_82 rfl (lv_at hl 1 rfl) ?_
        refine lv_lmul hx hb dX6_digestOfPlayer_83 ?_
        refine lv_aload_n hx hb dX6_digestOfPlayer_84 rfl (lv_at hl 2 rfl) ?_
        refine va_get (D := D) (ci := 6) (v := .ref (h 30)) (C := RX6) (T := TX6) (N := 10) hx hb hts iX6 hown hK hP 0 rfl rfl 7 (by decide) k49 (fun _ h9 => h9) rfl dX6_digestOfPlayer_85 ?_
        refine lv_bipush (v := 10) hx hb dX6_digestOfPlayer_88 (by decide) ?_
        refine lv_iload hx hb dX6_digestOfPlayer_90 (lv_at hl 0 rfl) ?_
        refine lv_iadd hx hb dX6_digestOfPlayer_92 ?_
        refine W.eq (congrArg (fun z => F0 m 93 ls (.int z :: [.ref (h 30), .long (31 * (dp6 (od nm gs 7 0 (bk_all nm) (wy, fi, 0, 0)) j (dp3 nm ks gs wt sk wy fi ru bg la p0)))])) (nI_add 10 j : 10 + (nI j) = nI (10 + j))) ?_
        refine vp_callSi (W.runV (As := [.int (nI (10 + j))]) (rest := [.long (31 * (dp6 (od nm gs 7 0 (bk_all nm) (wy, fi, 0, 0)) j (dp3 nm ks gs wt sk wy fi ru bg la p0)))]) ⟨hx, hb, hml, hown, hts⟩ (c_X2_fact l D cI (fun i => h (30 + i)) ((od nm gs 7 0 (bk_all nm) (wy, fi, 0, 0)).1) ((od nm gs 7 0 (bk_all nm) (wy, fi, 0, 0)).2.1) ((od nm gs 7 0 (bk_all nm) (wy, fi, 0, 0)).2.2.1) ((od nm gs 7 0 (bk_all nm) (wy, fi, 0, 0)).2.2.2) (nI (10 + j))) (cwV 1 hts gX6_digestOfPlayer_X2_fact rfl rfl rfl (by decide +kernel) ⟨Nat.le_of_ble_eq_true rfl, Nat.le_of_ble_eq_true rfl⟩) (vz_pvR (va_recv hK hP (ci := 2) (q0 := 30) rfl rfl) hZ (hP.sub (ws' := (zOrd cI (fun i => h (30 + i)) ((od nm gs 7 0 (bk_all nm) (wy, fi, 0, 0)).1) ((od nm gs 7 0 (bk_all nm) (wy, fi, 0, 0)).2.1) ((od nm gs 7 0 (bk_all nm) (wy, fi, 0, 0)).2.2.1) ((od nm gs 7 0 (bk_all nm) (wy, fi, 0, 0)).2.2.2))) [30, 31, 32, 33, 34] rfl)) rfl rfl hl.1 rfl (lv_room (Nat.le_of_ble_eq_true rfl)) dX6_digestOfPlayer_93 ⟨Nat.zero_le _, Nat.zero_le _⟩) (fun r_93 hr_93 => ?_)
        subst hr_93
        refine lv_i2l (v := (od_fact ((od nm gs 7 0 (bk_all nm) (wy, fi, 0, 0)).2.1) ((od nm gs 7 0 (bk_all nm) (wy, fi, 0, 0)).2.2.1) ((od nm gs 7 0 (bk_all nm) (wy, fi, 0, 0)).2.2.2) (nI (10 + j)) : Int32).toInt64) hx hb dX6_digestOfPlayer_96 rfl ?_
        refine lv_ladd hx hb dX6_digestOfPlayer_97 ?_
        refine lv_lstore_n (lv' := [(3, .long ((31 * (dp6 (od nm gs 7 0 (bk_all nm) (wy, fi, 0, 0)) j (dp3 nm ks gs wt sk wy fi ru bg la p0))) + ((od_fact ((od nm gs 7 0 (bk_all nm) (wy, fi, 0, 0)).2.1) ((od nm gs 7 0 (bk_all nm) (wy, fi, 0, 0)).2.2.1) ((od nm gs 7 0 (bk_all nm) (wy, fi, 0, 0)).2.2.2) (nI (10 + j)) : Int32).toInt64))), (5, .int (nI j)), (0, .ref (h 0)), (1, .long p0)]) hx hb dX6_digestOfPlayer_98 rfl hl (by decide) rfl (fun ls hl => ?_)
        refine lv_iinc (v := nI (j + 1)) (lv' := [(5, .int (nI (j + 1))), (3, .long ((31 * (dp6 (od nm gs 7 0 (bk_all nm) (wy, fi, 0, 0)) j (dp3 nm ks gs wt sk wy fi ru bg la p0))) + ((od_fact ((od nm gs 7 0 (bk_all nm) (wy, fi, 0, 0)).2.1) ((od nm gs 7 0 (bk_all nm) (wy, fi, 0, 0)).2.2.1) ((od nm gs 7 0 (bk_all nm) (wy, fi, 0, 0)).2.2.2) (nI (10 + j)) : Int32).toInt64))), (0, .ref (h 0)), (1, .long p0)]) hx hb dX6_digestOfPlayer_99 hl (k := 1) rfl (vz_inc _) (by decide) rfl (fun ls hl => ?_)
        refine lv_goto (tgt := 72) hx hb dX6_digestOfPlayer_102 (by decide) ?_
        exact ih_72 (j + 1) _ _ (by omega) (by omega) hP hD hS ls (lv_sub hl [0, 1, 2, 3] rfl)
  exact L_72 _ 0 _ _ (Nat.lt_succ_self _) (Nat.zero_le _) hP hD hS ls (lv_sub hl [0, 1, 2, 3] rfl)
set_option maxHeartbeats 4000000 in
set_option maxRecDepth 100000 in
theorem c_X6_digest (l : Launch) (D : va_G) (cI : ClassId) (h : Nat → Nat) (len : Nat) (cd : Nat → Int32) (nm : Nat) (ks : Nat → Int32) (gs : Nat → Int32) (wt : Nat → Int32) (mi : Nat → Int32) (pl : Nat → Int32) (sk : Nat → Int32) (he : Nat → Int32) (nh : Nat) (ru : Int32) (bg : Int32) (la : Int32) (sd : Bool) (pl2 : Nat → Int32) (sk2 : Nat → Int32) (he2 : Nat → Int32) (nh2 : Nat) (ru2 : Int32) (bg2 : Int32) (la2 : Int32) (sd2 : Bool) (u0 : Int64) (l0 : Int64) (u1 : Int64) (l1 : Int64) (u2 : Int64) (l2 : Int64) (wy : Nat → Int32) (fi : Nat → Int32) (fl : Int32) (nu : Int32) (ik : Bool) (pr : Nat) (sz : Nat) (hnm : nm ≤ 6) (hnh : nh ≤ 8) (hlen : len ≤ 22) (hch : ∀ s : Int32, bk_has nm s = true → ¬ fr_cd (sa_cx nm ks gs wt sk ru bg la s) (sa_cy nm ks gs wt sk ru bg la) ≤ 0) : Met l yX6_digest wsX6_digest ({ frames := 14, cells := 0, slots := 0, locals := 327 } : Room) (vz_rw D cI (zSA cI h len cd nm ks gs wt mi pl sk he nh ru bg la sd pl2 sk2 he2 nh2 ru2 bg2 la2 sd2 u0 l0 u1 l1 u2 l2 wy fi fl nu ik pr) sz [.ref (h 0)]) (va_Ql (fun r (_ : Int64 × Int64 × Int64 × Int64 × Int64 × Int64 × (Nat → Int32) × (Nat → Int32) × Int32 × Int32) => r = dg nm ks gs wt sk mi pl he cd wy fi nh ru bg la len pr) (fun (u : Int64 × Int64 × Int64 × Int64 × Int64 × Int64 × (Nat → Int32) × (Nat → Int32) × Int32 × Int32) (t : State) => va_P D vwCl (zSA cI h len cd nm ks gs wt mi pl sk he nh ru bg la sd pl2 sk2 he2 nh2 ru2 bg2 la2 sd2 u.1 u.2.1 u.2.2.1 u.2.2.2.1 u.2.2.2.2.1 u.2.2.2.2.2.1 u.2.2.2.2.2.2.1 u.2.2.2.2.2.2.2.1 u.2.2.2.2.2.2.2.2.1 u.2.2.2.2.2.2.2.2.2 ik pr) t.heap) (va_A (zSA cI h len cd nm ks gs wt mi pl sk he nh ru bg la sd pl2 sk2 he2 nh2 ru2 bg2 la2 sd2 u0 l0 u1 l1 u2 l2 wy fi fl nu ik pr) sz)) 0 0 (va_A (zSA cI h len cd nm ks gs wt mi pl sk he nh ru bg la sd pl2 sk2 he2 nh2 ru2 bg2 la2 sd2 u0 l0 u1 l1 u2 l2 wy fi fl nu ik pr) sz) := by
  refine Met.ofW (cc := cX6_digest) (maxL := 5) (ret := (some .long)) (by decide) rfl ?_
  intro p e s m args below meth c s₁ B hml hv
  obtain ⟨rfl, hsz, hP, hZ, hD0⟩ := hv
  obtain ⟨hK, hN⟩ := id hZ
  have hx := B.exec
  have hb := B.bytes
  have hr := B.returns
  have hts := atoms_spec (ws := wsX6_digest) B.pre
  have hown : s.vm.findClass RX6 = some m.cls := findClass_of_methodNamed B.named
  have hlocks := B.notSynchronized
  subst hsz
  have hD := hD0.self (sz := s.heap.size)
  generalize hAe : va_A (zSA cI h len cd nm ks gs wt mi pl sk he nh ru bg la sd pl2 sk2 he2 nh2 ru2 bg2 la2 sd2 u0 l0 u1 l1 u2 l2 wy fi fl nu ik pr) s.heap.size = A at hD ⊢
  have hA : ∀ q : Nat, s.heap.size ≤ q → A q := fun q h => by rw [← hAe]; exact Or.inr h
  have hS : va_S A s.heap s.heap [] := va_S.rf
  have k10 := hts (.fieldLink RX6 10 "SongsAgain" "page" "LSongsAgain$Page;") (List.mem_of_getElem? (i := 4) rfl)
  have k19 := hts (.fieldLink RX6 19 "SongsAgain" "book" "LSongsAgain$Book;") (List.mem_of_getElem? (i := 2) rfl)
  have k61 : (Cond.fieldLinkNest "SongsAgain" 61 "SongsAgain$Page" "length" "I" "SongsAgain").before _ s = true := va_Nw.use (A := ([.ref (h 0)] : List Value).toArray) rfl (hN.1 ("SongsAgain", 61, "SongsAgain$Page", "length", "I") (List.mem_of_getElem? (i := 1) rfl))
  have k93 : (Cond.fieldLinkNest "SongsAgain" 93 "SongsAgain$Book" "number" "I" "SongsAgain").before _ s = true := va_Nw.use (A := ([.ref (h 0)] : List Value).toArray) rfl (hN.1 ("SongsAgain", 93, "SongsAgain$Book", "number", "I") (List.mem_of_getElem? (i := 8) rfl))
  have k213 : (Cond.fieldLinkNest "SongsAgain" 213 "SongsAgain$Page" "codes" "LSongsAgain$Row;" "SongsAgain").before _ s = true := va_Nw.use (A := ([.ref (h 0)] : List Value).toArray) rfl (hN.1 ("SongsAgain", 213, "SongsAgain$Page", "codes", "LSongsAgain$Row;") (List.mem_of_getElem? (i := 0) rfl))
  have iX0 : ∀ w ∈ u_ws RX0 TX0 5, w ∈ wsX6_digest := vz_in (i := 195) (n := 5) rfl
  have iX3 : ∀ w ∈ u_ws RX3 TX3 2, w ∈ wsX6_digest := vz_in (i := 200) (n := 2) rfl
  have iX6 : ∀ w ∈ u_ws RX6 TX6 10, w ∈ wsX6_digest := vz_in (i := 185) (n := 10) rfl
  have hl := lv_entry ([.ref (h 0)]) (n := 5) (Nat.le_of_ble_eq_true rfl)
  rw [lg_entry_eq]
  generalize (lg_sl ([.ref (h 0)]) ++ List.replicate (5 - (lg_sl ([.ref (h 0)])).length) Slot.unset).toArray = ls at hl ⊢
  have hl : lv_has ls 5 [(0, .ref (h 0))] := hl
  have hP : va_P D vwCl (zSA cI h len cd nm ks gs wt mi pl sk he nh ru bg la sd pl2 sk2 he2 nh2 ru2 bg2 la2 sd2 u0 l0 u1 l1 u2 l2 wy fi fl nu ik pr) s.heap := hP
  refine lv_ldc2 (v := 997) hx hb hown (hts (.constantLong RX6 205 (997)) (List.mem_of_getElem? (i := 1) rfl)) dX6_digest_0 ?_
  refine lv_lstore_n (lv' := [(1, .long 997), (0, .ref (h 0))]) hx hb dX6_digest_3 rfl hl (by decide) rfl (fun ls hl => ?_)
  refine lv_iconst (v := 0) hx hb dX6_digest_4 (by decide) ?_
  refine lv_istore_n (lv' := [(3, .int 0), (1, .long 997), (0, .ref (h 0))]) hx hb dX6_digest_5 rfl hl (by decide) rfl (fun ls hl => ?_)
  have L_6 : ∀ (d_6 : Nat) (j_14 : Nat) (y1 : Int64) (xu : Int64) (xl : Int64) (H_6 : Heap) (locs_6 : List Loc), nm - j_14 < d_6 → (j_14 ≤ nm) → (y1 = dgo (sa_fact nm ks gs wt sk mi pl ru bg la) j_14 997) → va_P D vwCl (zSA cI h len cd nm ks gs wt mi pl sk he nh ru bg la sd pl2 sk2 he2 nh2 ru2 bg2 la2 sd2 u0 l0 xu xl u2 l2 wy fi fl nu ik pr) H_6 → va_D A (zSA cI h len cd nm ks gs wt mi pl sk he nh ru bg la sd pl2 sk2 he2 nh2 ru2 bg2 la2 sd2 u0 l0 xu xl u2 l2 wy fi fl nu ik pr) → va_S A s.heap H_6 locs_6 → ∀ (ls : Array Slot), lv_has ls 5 [(3, .int (nI j_14)), (1, .long y1), (0, .ref (h 0))] → W p l e ({ frames := 14, cells := 0, slots := 0, locals := 327 } : Room) s m ([.ref (h 0)] : List Value).toArray below meth c H_6 locs_6 0 0 (MQ below (va_Ql (fun r (_ : Int64 × Int64 × Int64 × Int64 × Int64 × Int64 × (Nat → Int32) × (Nat → Int32) × Int32 × Int32) => r = dg nm ks gs wt sk mi pl he cd wy fi nh ru bg la len pr) (fun (u : Int64 × Int64 × Int64 × Int64 × Int64 × Int64 × (Nat → Int32) × (Nat → Int32) × Int32 × Int32) (t : State) => va_P D vwCl (zSA cI h len cd nm ks gs wt mi pl sk he nh ru bg la sd pl2 sk2 he2 nh2 ru2 bg2 la2 sd2 u.1 u.2.1 u.2.2.1 u.2.2.2.1 u.2.2.2.2.1 u.2.2.2.2.2.1 u.2.2.2.2.2.2.1 u.2.2.2.2.2.2.2.1 u.2.2.2.2.2.2.2.2.1 u.2.2.2.2.2.2.2.2.2 ik pr) t.heap) A) ([.ref (h 0)] : List Value).toArray s 0 0 A) (F0 m 6 ls []) := by
    intro d_6
    induction d_6 with
    | zero => intro j_14 y1 xu xl H_6 locs_6 hd; exact absurd hd (Nat.not_lt_zero _)
    | succ d_6 ih_6 =>
      intro j_14 y1 xu xl H_6 locs_6 hd_6 hj_14 hy1 hP hD hS ls hl
      refine lv_iload_n hx hb dX6_digest_6 rfl (lv_at hl 0 rfl) ?_
      refine lv_aload_n hx hb dX6_digest_7 rfl (lv_at hl 2 rfl) ?_
      refine va_get (D := D) (ci := 6) (v := .ref (h 4)) (C := RX6) (T := TX6) (N := 10) hx hb hts iX6 hown hK hP 0 rfl rfl 1 (by decide) k19 (fun _ h9 => h9) rfl dX6_digest_8 ?_
      refine va_getN (D := D) (ci := 0) (v := .int (nI nm)) (C := RX0) (T := TX0) (N := 5) hx hb hts iX0 hown hK hP 4 rfl rfl 4 (by decide) k93 (fun _ h9 => h9) rfl dX6_digest_11 ?_
      refine lv_icmp_ge (tgt := 54) hx hb dX6_digest_14 (by decide) (fun c_14 => ?_) (fun c_14 => ?_)
      · skip
        have hje_14 : j_14 = nm := Nat.le_antisymm hj_14 (vz_ge (n := nm) c_14 (by omega) (by omega))
        refine lv_aload_n hx hb dX6_digest_54 rfl (lv_at hl 2 rfl) ?_
        refine vp_callSi (W.runV (As := []) (rest := []) ⟨hx, hb, hml, hown, hts⟩ (c_X6_noPlayer l D cI h len cd nm ks gs wt mi pl sk he nh ru bg la sd pl2 sk2 he2 nh2 ru2 bg2 la2 sd2 u0 l0 xu xl u2 l2 wy fi fl nu ik pr (by first | assumption | omega)) (cwV 0 hts gX6_digest_X6_noPlayer rfl rfl rfl (by decide +kernel) ⟨Nat.le_of_ble_eq_true rfl, Nat.le_of_ble_eq_true rfl⟩) (vz_pvR (va_recv hK hP (ci := 6) (q0 := 0) rfl rfl) hZ hP) rfl rfl hl.1 rfl (lv_room (Nat.le_of_ble_eq_true rfl)) dX6_digest_55 ⟨Nat.zero_le _, Nat.zero_le _⟩) (fun r_55 hr_55 => ?_)
        subst hr_55
        refine lv_if_ne (tgt := 67) hx hb dX6_digest_58 (by decide) (fun c_58 => ?_) (fun c_58 => ?_)
        · skip
          replace c_58 := vz_b1 c_58
          refine lv_iconst (v := 0) hx hb dX6_digest_67 (by decide) ?_
          refine lv_istore_n (lv' := [(3, .int 0), (1, .long y1), (0, .ref (h 0))]) hx hb dX6_digest_68 rfl hl (by decide) rfl (fun ls hl => ?_)
          have L_69 : ∀ (d_69 : Nat) (j_77 : Nat) (w1 : Int64) (H_69 : Heap) (locs_69 : List Loc), len - j_77 < d_69 → (j_77 ≤ len) → (w1 = dgc cd j_77 (if sa_np nm then dgo (sa_fact nm ks gs wt sk mi pl ru bg la) nm 997 else dp nm ks gs wt sk he wy fi nh ru bg la (dgo (sa_fact nm ks gs wt sk mi pl ru bg la) nm 997))) → va_P D vwCl (zSA cI h len cd nm ks gs wt mi pl sk he nh ru bg la sd pl2 sk2 he2 nh2 ru2 bg2 la2 sd2 u0 l0 xu xl u2 l2 wy fi fl nu ik pr) H_69 → va_D A (zSA cI h len cd nm ks gs wt mi pl sk he nh ru bg la sd pl2 sk2 he2 nh2 ru2 bg2 la2 sd2 u0 l0 xu xl u2 l2 wy fi fl nu ik pr) → va_S A s.heap H_69 locs_69 → ∀ (ls : Array Slot), lv_has ls 5 [(3, .int (nI j_77)), (1, .long w1), (0, .ref (h 0))] → W p l e ({ frames := 14, cells := 0, slots := 0, locals := 327 } : Room) s m ([.ref (h 0)] : List Value).toArray below meth c H_69 locs_69 0 0 (MQ below (va_Ql (fun r (_ : Int64 × Int64 × Int64 × Int64 × Int64 × Int64 × (Nat → Int32) × (Nat → Int32) × Int32 × Int32) => r = dg nm ks gs wt sk mi pl he cd wy fi nh ru bg la len pr) (fun (u : Int64 × Int64 × Int64 × Int64 × Int64 × Int64 × (Nat → Int32) × (Nat → Int32) × Int32 × Int32) (t : State) => va_P D vwCl (zSA cI h len cd nm ks gs wt mi pl sk he nh ru bg la sd pl2 sk2 he2 nh2 ru2 bg2 la2 sd2 u.1 u.2.1 u.2.2.1 u.2.2.2.1 u.2.2.2.2.1 u.2.2.2.2.2.1 u.2.2.2.2.2.2.1 u.2.2.2.2.2.2.2.1 u.2.2.2.2.2.2.2.2.1 u.2.2.2.2.2.2.2.2.2 ik pr) t.heap) A) ([.ref (h 0)] : List Value).toArray s 0 0 A) (F0 m 69 ls []) := by
            intro d_69
            induction d_69 with
            | zero => intro j_77 w1 H_69 locs_69 hd; exact absurd hd (Nat.not_lt_zero _)
            | succ d_69 ih_69 =>
              intro j_77 w1 H_69 locs_69 hd_69 hj_77 hw1 hP hD hS ls hl
              refine lv_iload_n hx hb dX6_digest_69 rfl (lv_at hl 0 rfl) ?_
              refine lv_aload_n hx hb dX6_digest_70 rfl (lv_at hl 2 rfl) ?_
              refine va_get (D := D) (ci := 6) (v := .ref (h 1)) (C := RX6) (T := TX6) (N := 10) hx hb hts iX6 hown hK hP 0 rfl rfl 0 (by decide) k10 (fun _ h9 => h9) rfl dX6_digest_71 ?_
              refine va_getN (D := D) (ci := 3) (v := .int (nI len)) (C := RX3) (T := TX3) (N := 2) hx hb hts iX3 hown hK hP 1 rfl rfl 1 (by decide) k61 (fun _ h9 => h9) rfl dX6_digest_74 ?_
              refine lv_icmp_ge (tgt := 105) hx hb dX6_digest_77 (by decide) (fun c_77 => ?_) (fun c_77 => ?_)
              · skip
                have hje_77 : j_77 = len := Nat.le_antisymm hj_77 (vz_ge (n := len) c_77 (by omega) (by omega))
                refine lv_iconst (v := 0) hx hb dX6_digest_105 (by decide) ?_
                refine lv_istore_n (lv' := [(3, .int 0), (1, .long w1), (0, .ref (h 0))]) hx hb dX6_digest_106 rfl hl (by decide) rfl (fun ls hl => ?_)
                have L_107 : ∀ (d_107 : Nat) (j_110 : Nat) (q1 : Int64) (H_107 : Heap) (locs_107 : List Loc), 12 - j_110 < d_107 → (j_110 ≤ 12) → (q1 = dgn (sa_count nm ks gs mi pl sk nh ru bg la len pr) j_110 (dgc cd len (if sa_np nm then dgo (sa_fact nm ks gs wt sk mi pl ru bg la) nm 997 else dp nm ks gs wt sk he wy fi nh ru bg la (dgo (sa_fact nm ks gs wt sk mi pl ru bg la) nm 997)))) → va_P D vwCl (zSA cI h len cd nm ks gs wt mi pl sk he nh ru bg la sd pl2 sk2 he2 nh2 ru2 bg2 la2 sd2 u0 l0 xu xl u2 l2 wy fi fl nu ik pr) H_107 → va_D A (zSA cI h len cd nm ks gs wt mi pl sk he nh ru bg la sd pl2 sk2 he2 nh2 ru2 bg2 la2 sd2 u0 l0 xu xl u2 l2 wy fi fl nu ik pr) → va_S A s.heap H_107 locs_107 → ∀ (ls : Array Slot), lv_has ls 5 [(3, .int (nI j_110)), (1, .long q1), (0, .ref (h 0))] → W p l e ({ frames := 14, cells := 0, slots := 0, locals := 327 } : Room) s m ([.ref (h 0)] : List Value).toArray below meth c H_107 locs_107 0 0 (MQ below (va_Ql (fun r (_ : Int64 × Int64 × Int64 × Int64 × Int64 × Int64 × (Nat → Int32) × (Nat → Int32) × Int32 × Int32) => r = dg nm ks gs wt sk mi pl he cd wy fi nh ru bg la len pr) (fun (u : Int64 × Int64 × Int64 × Int64 × Int64 × Int64 × (Nat → Int32) × (Nat → Int32) × Int32 × Int32) (t : State) => va_P D vwCl (zSA cI h len cd nm ks gs wt mi pl sk he nh ru bg la sd pl2 sk2 he2 nh2 ru2 bg2 la2 sd2 u.1 u.2.1 u.2.2.1 u.2.2.2.1 u.2.2.2.2.1 u.2.2.2.2.2.1 u.2.2.2.2.2.2.1 u.2.2.2.2.2.2.2.1 u.2.2.2.2.2.2.2.2.1 u.2.2.2.2.2.2.2.2.2 ik pr) t.heap) A) ([.ref (h 0)] : List Value).toArray s 0 0 A) (F0 m 107 ls []) := by
                  intro d_107
                  induction d_107 with
                  | zero => intro j_110 q1 H_107 locs_107 hd; exact absurd hd (Nat.not_lt_zero _)
                  | succ d_107 ih_107 =>
                    intro j_110 q1 H_107 locs_107 hd_107 hj_110 hq1 hP hD hS ls hl
                    refine lv_iload_n hx hb dX6_digest_107 rfl (lv_at hl 0 rfl) ?_
                    refine lv_bipush (v := 12) hx hb dX6_digest_108 (by decide) ?_
                    refine lv_icmp_ge (tgt := 132) hx hb dX6_digest_110 (by decide) (fun c_110 => ?_) (fun c_110 => ?_)
                    · skip
                      have hje_110 : j_110 = 12 := Nat.le_antisymm hj_110 (vz_ge (n := 12) c_110 (by omega) (by omega))
                      refine lv_lload_n hx hb dX6_digest_132 rfl (lv_at hl 1 rfl) ?_
                      exact W.lret hx hb hr (fun t ht hW => ⟨⟨_, (u0, l0, xu, xl, u2, l2, wy, fi, fl, nu), rfl, (by rw [hq1, hje_110] ; rfl), (by show va_P D vwCl (zSA cI h len cd nm ks gs wt mi pl sk he nh ru bg la sd pl2 sk2 he2 nh2 ru2 bg2 la2 sd2 u0 l0 xu xl u2 l2 wy fi fl nu ik pr) t.heap; rw [ht]; exact hP)⟩, hS.F ht⟩) hS.2.2 dX6_digest_133
                    · skip
                      have hlt_110 : j_110 < 12 := vz_lt (n := 12) c_110 (by omega)
                      refine lv_ldc2 (v := 31) hx hb hown (hts (.constantLong RX6 207 (31)) (List.mem_of_getElem? (i := 3) rfl)) dX6_digest_113 ?_
                      refine lv_lload_n hx hb dX6_digest_116 rfl (lv_at hl 1 rfl) ?_
                      refine lv_lmul hx hb dX6_digest_117 ?_
                      refine lv_aload_n hx hb dX6_digest_118 rfl (lv_at hl 2 rfl) ?_
                      refine lv_iload_n hx hb dX6_digest_119 rfl (lv_at hl 0 rfl) ?_
                      refine vp_callSi (W.runV (As := [.int (nI j_110)]) (rest := [.long (31 * q1)]) ⟨hx, hb, hml, hown, hts⟩ (c_X6_count l D cI h len cd nm ks gs wt mi pl sk he nh ru bg la sd pl2 sk2 he2 nh2 ru2 bg2 la2 sd2 u0 l0 xu xl u2 l2 wy fi fl nu ik pr (nI j_110) (by first | assumption | omega)) (cwV 1 hts gX6_digest_X6_count rfl rfl rfl (by decide +kernel) ⟨Nat.le_of_ble_eq_true rfl, Nat.le_of_ble_eq_true rfl⟩) (vz_pvR (va_recv hK hP (ci := 6) (q0 := 0) rfl rfl) hZ hP) rfl rfl hl.1 rfl (lv_room (Nat.le_of_ble_eq_true rfl)) dX6_digest_120 ⟨Nat.zero_le _, Nat.zero_le _⟩) (fun r_120 hr_120 => ?_)
                      subst hr_120
                      refine lv_i2l (v := (sa_count nm ks gs mi pl sk nh ru bg la len pr (nI j_110) : Int32).toInt64) hx hb dX6_digest_123 rfl ?_
                      refine lv_ladd hx hb dX6_digest_124 ?_
                      refine lv_lstore_n (lv' := [(1, .long ((31 * q1) + ((sa_count nm ks gs mi pl sk nh ru bg la len pr (nI j_110) : Int32).toInt64))), (3, .int (nI j_110)), (0, .ref (h 0))]) hx hb dX6_digest_125 rfl hl (by decide) rfl (fun ls hl => ?_)
                      refine lv_iinc (v := nI (j_110 + 1)) (lv' := [(3, .int (nI (j_110 + 1))), (1, .long ((31 * q1) + ((sa_count nm ks gs mi pl sk nh ru bg la len pr (nI j_110) : Int32).toInt64))), (0, .ref (h 0))]) hx hb dX6_digest_126 hl (k := 1) rfl (vz_inc _) (by decide) rfl (fun ls hl => ?_)
                      refine lv_goto (tgt := 107) hx hb dX6_digest_129 (by decide) ?_
                      exact ih_107 (j_110 + 1) ((31 * q1) + ((sa_count nm ks gs mi pl sk nh ru bg la len pr (nI j_110) : Int32).toInt64)) _ _ (by omega) (by omega) (by rw [hq1] ; rfl) hP hD hS ls (lv_sub hl [0, 1, 2] rfl)
                exact L_107 _ 0 w1 _ _ (Nat.lt_succ_self _) (Nat.zero_le _) (by rw [hw1, hje_77] ; rfl) hP hD hS ls (lv_sub hl [0, 1, 2] rfl)
              · skip
                have hlt_77 : j_77 < len := vz_lt (n := len) c_77 (by omega)
                refine lv_ldc2 (v := 31) hx hb hown (hts (.constantLong RX6 207 (31)) (List.mem_of_getElem? (i := 3) rfl)) dX6_digest_80 ?_
                refine lv_lload_n hx hb dX6_digest_83 rfl (lv_at hl 1 rfl) ?_
                refine lv_lmul hx hb dX6_digest_84 ?_
                refine lv_aload_n hx hb dX6_digest_85 rfl (lv_at hl 2 rfl) ?_
                refine va_get (D := D) (ci := 6) (v := .ref (h 1)) (C := RX6) (T := TX6) (N := 10) hx hb hts iX6 hown hK hP 0 rfl rfl 0 (by decide) k10 (fun _ h9 => h9) rfl dX6_digest_86 ?_
                refine va_getN (D := D) (ci := 3) (v := .ref (h 2)) (C := RX3) (T := TX3) (N := 2) hx hb hts iX3 hown hK hP 1 rfl rfl 0 (by decide) k213 (fun _ h9 => h9) rfl dX6_digest_89 ?_
                refine lv_iload_n hx hb dX6_digest_92 rfl (lv_at hl 0 rfl) ?_
                refine vp_callSi (W.runV (As := [.int (nI j_77)]) (rest := [.long (31 * w1)]) ⟨hx, hb, hml, hown, hts⟩ (c_X5_at l D cI (h 2) (h 3) 22 cd (nI j_77) (by decide)) (cwV 1 hts gX6_digest_X5_at rfl rfl rfl (by decide +kernel) ⟨Nat.le_of_ble_eq_true rfl, Nat.le_of_ble_eq_true rfl⟩) (vz_pvR (va_recv hK hP (ci := 5) (q0 := 2) rfl rfl) hZ (hP.sub (ws' := (zRow cI (h 2) (h 3) 22 cd)) [2, 3] rfl)) rfl rfl hl.1 rfl (lv_room (Nat.le_of_ble_eq_true rfl)) dX6_digest_93 ⟨Nat.zero_le _, Nat.zero_le _⟩) (fun r_93 hr_93 => ?_)
                subst hr_93
                refine lv_i2l (v := (rw_at 22 cd (nI j_77) : Int32).toInt64) hx hb dX6_digest_96 rfl ?_
                refine lv_ladd hx hb dX6_digest_97 ?_
                refine lv_lstore_n (lv' := [(1, .long ((31 * w1) + ((rw_at 22 cd (nI j_77) : Int32).toInt64))), (3, .int (nI j_77)), (0, .ref (h 0))]) hx hb dX6_digest_98 rfl hl (by decide) rfl (fun ls hl => ?_)
                refine lv_iinc (v := nI (j_77 + 1)) (lv' := [(3, .int (nI (j_77 + 1))), (1, .long ((31 * w1) + ((rw_at 22 cd (nI j_77) : Int32).toInt64))), (0, .ref (h 0))]) hx hb dX6_digest_99 hl (k := 1) rfl (vz_inc _) (by decide) rfl (fun ls hl => ?_)
                refine lv_goto (tgt := 69) hx hb dX6_digest_102 (by decide) ?_
                exact ih_69 (j_77 + 1) ((31 * w1) + ((rw_at 22 cd (nI j_77) : Int32).toInt64)) _ _ (by omega) (by omega) (by rw [hw1] ; rfl) hP hD hS ls (lv_sub hl [0, 1, 2] rfl)
          exact L_69 _ 0 y1 _ _ (Nat.lt_succ_self _) (Nat.zero_le _) (by subst hy1 ; rw [hje_14] ; simp only [c_58, ↓reduceIte, Bool.false_eq_true] ; rfl) hP hD hS ls (lv_sub hl [0, 1, 2] rfl)
        · skip
          replace c_58 := vz_b0 c_58
          refine lv_aload_n hx hb dX6_digest_61 rfl (lv_at hl 2 rfl) ?_
          refine lv_lload_n hx hb dX6_digest_62 rfl (lv_at hl 1 rfl) ?_
          have hPc := hP
          have hDc := hD
          have hFc : ∀ q, va_A (zSA cI h len cd nm ks gs wt mi pl sk he nh ru bg la sd pl2 sk2 he2 nh2 ru2 bg2 la2 sd2 u0 l0 xu xl u2 l2 wy fi fl nu ik pr) H_6.size q → A q := vz_freeAll hD hS hA
          refine va_calll (va_runV (As := [.long y1]) (rest := []) ⟨hx, hb, hml, hown, hts⟩ (c_X6_digestOfPlayer l D cI h len cd nm ks gs wt mi pl sk he nh ru bg la sd pl2 sk2 he2 nh2 ru2 bg2 la2 sd2 u0 l0 xu xl u2 l2 wy fi fl nu ik pr H_6.size y1 (by first | assumption | omega) (by first | assumption | omega)) (cwV 1 hts gX6_digest_X6_digestOfPlayer rfl rfl rfl (by decide +kernel) ⟨Nat.le_of_ble_eq_true rfl, Nat.le_of_ble_eq_true rfl⟩) (vz_pvW (va_recv hK hP (ci := 6) (q0 := 0) rfl rfl) hZ hPc hDc) rfl rfl hl.1 rfl (lv_room (Nat.le_of_ble_eq_true rfl)) dX6_digest_63 ⟨Nat.zero_le _, Nat.zero_le _⟩) hS (fun q _ h => hFc q h) hFc (fun r_63 u_63 t H_63 locs_63 ht hvm hw hB hz1 hk1 hS9 => ?_)
          rw [ht] at hB
          replace hP : va_P D vwCl (zSA cI h len cd nm ks gs wt mi pl sk he nh ru bg la sd pl2 sk2 he2 nh2 ru2 bg2 la2 sd2 u_63.1 u_63.2.1 u_63.2.2.1 u_63.2.2.2.1 u_63.2.2.2.2.1 u_63.2.2.2.2.2.1 u_63.2.2.2.2.2.2.1 u_63.2.2.2.2.2.2.2.1 u_63.2.2.2.2.2.2.2.2.1 u_63.2.2.2.2.2.2.2.2.2 ik pr) H_63 := hB
          replace hD : va_D A (zSA cI h len cd nm ks gs wt mi pl sk he nh ru bg la sd pl2 sk2 he2 nh2 ru2 bg2 la2 sd2 u_63.1 u_63.2.1 u_63.2.2.1 u_63.2.2.2.1 u_63.2.2.2.2.1 u_63.2.2.2.2.2.1 u_63.2.2.2.2.2.2.1 u_63.2.2.2.2.2.2.2.1 u_63.2.2.2.2.2.2.2.2.1 u_63.2.2.2.2.2.2.2.2.2 ik pr) := vz_same hD rfl
          replace hS := hS9
          clear hS9 hPc hDc hFc hB hk1 hz1
          subst hw
          refine lv_lstore_n (lv' := [(1, .long (dp nm ks gs wt sk he wy fi nh ru bg la y1)), (3, .int (nI j_14)), (0, .ref (h 0))]) hx hb dX6_digest_66 rfl hl (by decide) rfl (fun ls hl => ?_)
          refine lv_iconst (v := 0) hx hb dX6_digest_67 (by decide) ?_
          refine lv_istore_n (lv' := [(3, .int 0), (1, .long (dp nm ks gs wt sk he wy fi nh ru bg la y1)), (0, .ref (h 0))]) hx hb dX6_digest_68 rfl hl (by decide) rfl (fun ls hl => ?_)
          have L_69 : ∀ (d_69 : Nat) (j_77 : Nat) (w1 : Int64) (H_69 : Heap) (locs_69 : List Loc), len - j_77 < d_69 → (j_77 ≤ len) → (w1 = dgc cd j_77 (if sa_np nm then dgo (sa_fact nm ks gs wt sk mi pl ru bg la) nm 997 else dp nm ks gs wt sk he wy fi nh ru bg la (dgo (sa_fact nm ks gs wt sk mi pl ru bg la) nm 997))) → va_P D vwCl (zSA cI h len cd nm ks gs wt mi pl sk he nh ru bg la sd pl2 sk2 he2 nh2 ru2 bg2 la2 sd2 u_63.1 u_63.2.1 u_63.2.2.1 u_63.2.2.2.1 u_63.2.2.2.2.1 u_63.2.2.2.2.2.1 u_63.2.2.2.2.2.2.1 u_63.2.2.2.2.2.2.2.1 u_63.2.2.2.2.2.2.2.2.1 u_63.2.2.2.2.2.2.2.2.2 ik pr) H_69 → va_D A (zSA cI h len cd nm ks gs wt mi pl sk he nh ru bg la sd pl2 sk2 he2 nh2 ru2 bg2 la2 sd2 u_63.1 u_63.2.1 u_63.2.2.1 u_63.2.2.2.1 u_63.2.2.2.2.1 u_63.2.2.2.2.2.1 u_63.2.2.2.2.2.2.1 u_63.2.2.2.2.2.2.2.1 u_63.2.2.2.2.2.2.2.2.1 u_63.2.2.2.2.2.2.2.2.2 ik pr) → va_S A s.heap H_69 locs_69 → ∀ (ls : Array Slot), lv_has ls 5 [(3, .int (nI j_77)), (1, .long w1), (0, .ref (h 0))] → W p l e ({ frames := 14, cells := 0, slots := 0, locals := 327 } : Room) s m ([.ref (h 0)] : List Value).toArray below meth c H_69 locs_69 0 0 (MQ below (va_Ql (fun r (_ : Int64 × Int64 × Int64 × Int64 × Int64 × Int64 × (Nat → Int32) × (Nat → Int32) × Int32 × Int32) => r = dg nm ks gs wt sk mi pl he cd wy fi nh ru bg la len pr) (fun (u : Int64 × Int64 × Int64 × Int64 × Int64 × Int64 × (Nat → Int32) × (Nat → Int32) × Int32 × Int32) (t : State) => va_P D vwCl (zSA cI h len cd nm ks gs wt mi pl sk he nh ru bg la sd pl2 sk2 he2 nh2 ru2 bg2 la2 sd2 u.1 u.2.1 u.2.2.1 u.2.2.2.1 u.2.2.2.2.1 u.2.2.2.2.2.1 u.2.2.2.2.2.2.1 u.2.2.2.2.2.2.2.1 u.2.2.2.2.2.2.2.2.1 u.2.2.2.2.2.2.2.2.2 ik pr) t.heap) A) ([.ref (h 0)] : List Value).toArray s 0 0 A) (F0 m 69 ls []) := by
            intro d_69
            induction d_69 with
            | zero => intro j_77 w1 H_69 locs_69 hd; exact absurd hd (Nat.not_lt_zero _)
            | succ d_69 ih_69 =>
              intro j_77 w1 H_69 locs_69 hd_69 hj_77 hw1 hP hD hS ls hl
              refine lv_iload_n hx hb dX6_digest_69 rfl (lv_at hl 0 rfl) ?_
              refine lv_aload_n hx hb dX6_digest_70 rfl (lv_at hl 2 rfl) ?_
              refine va_get (D := D) (ci := 6) (v := .ref (h 1)) (C := RX6) (T := TX6) (N := 10) hx hb hts iX6 hown hK hP 0 rfl rfl 0 (by decide) k10 (fun _ h9 => h9) rfl dX6_digest_71 ?_
              refine va_getN (D := D) (ci := 3) (v := .int (nI len)) (C := RX3) (T := TX3) (N := 2) hx hb hts iX3 hown hK hP 1 rfl rfl 1 (by decide) k61 (fun _ h9 => h9) rfl dX6_digest_74 ?_
              refine lv_icmp_ge (tgt := 105) hx hb dX6_digest_77 (by decide) (fun c_77 => ?_) (fun c_77 => ?_)
              · skip
                have hje_77 : j_77 = len := Nat.le_antisymm hj_77 (vz_ge (n := len) c_77 (by omega) (by omega))
                refine lv_iconst (v := 0) hx hb dX6_digest_105 (by decide) ?_
                refine lv_istore_n (lv' := [(3, .int 0), (1, .long w1), (0, .ref (h 0))]) hx hb dX6_digest_106 rfl hl (by decide) rfl (fun ls hl => ?_)
                have L_107 : ∀ (d_107 : Nat) (j_110 : Nat) (q1 : Int64) (H_107 : Heap) (locs_107 : List Loc), 12 - j_110 < d_107 → (j_110 ≤ 12) → (q1 = dgn (sa_count nm ks gs mi pl sk nh ru bg la len pr) j_110 (dgc cd len (if sa_np nm then dgo (sa_fact nm ks gs wt sk mi pl ru bg la) nm 997 else dp nm ks gs wt sk he wy fi nh ru bg la (dgo (sa_fact nm ks gs wt sk mi pl ru bg la) nm 997)))) → va_P D vwCl (zSA cI h len cd nm ks gs wt mi pl sk he nh ru bg la sd pl2 sk2 he2 nh2 ru2 bg2 la2 sd2 u_63.1 u_63.2.1 u_63.2.2.1 u_63.2.2.2.1 u_63.2.2.2.2.1 u_63.2.2.2.2.2.1 u_63.2.2.2.2.2.2.1 u_63.2.2.2.2.2.2.2.1 u_63.2.2.2.2.2.2.2.2.1 u_63.2.2.2.2.2.2.2.2.2 ik pr) H_107 → va_D A (zSA cI h len cd nm ks gs wt mi pl sk he nh ru bg la sd pl2 sk2 he2 nh2 ru2 bg2 la2 sd2 u_63.1 u_63.2.1 u_63.2.2.1 u_63.2.2.2.1 u_63.2.2.2.2.1 u_63.2.2.2.2.2.1 u_63.2.2.2.2.2.2.1 u_63.2.2.2.2.2.2.2.1 u_63.2.2.2.2.2.2.2.2.1 u_63.2.2.2.2.2.2.2.2.2 ik pr) → va_S A s.heap H_107 locs_107 → ∀ (ls : Array Slot), lv_has ls 5 [(3, .int (nI j_110)), (1, .long q1), (0, .ref (h 0))] → W p l e ({ frames := 14, cells := 0, slots := 0, locals := 327 } : Room) s m ([.ref (h 0)] : List Value).toArray below meth c H_107 locs_107 0 0 (MQ below (va_Ql (fun r (_ : Int64 × Int64 × Int64 × Int64 × Int64 × Int64 × (Nat → Int32) × (Nat → Int32) × Int32 × Int32) => r = dg nm ks gs wt sk mi pl he cd wy fi nh ru bg la len pr) (fun (u : Int64 × Int64 × Int64 × Int64 × Int64 × Int64 × (Nat → Int32) × (Nat → Int32) × Int32 × Int32) (t : State) => va_P D vwCl (zSA cI h len cd nm ks gs wt mi pl sk he nh ru bg la sd pl2 sk2 he2 nh2 ru2 bg2 la2 sd2 u.1 u.2.1 u.2.2.1 u.2.2.2.1 u.2.2.2.2.1 u.2.2.2.2.2.1 u.2.2.2.2.2.2.1 u.2.2.2.2.2.2.2.1 u.2.2.2.2.2.2.2.2.1 u.2.2.2.2.2.2.2.2.2 ik pr) t.heap) A) ([.ref (h 0)] : List Value).toArray s 0 0 A) (F0 m 107 ls []) := by
                  intro d_107
                  induction d_107 with
                  | zero => intro j_110 q1 H_107 locs_107 hd; exact absurd hd (Nat.not_lt_zero _)
                  | succ d_107 ih_107 =>
                    intro j_110 q1 H_107 locs_107 hd_107 hj_110 hq1 hP hD hS ls hl
                    refine lv_iload_n hx hb dX6_digest_107 rfl (lv_at hl 0 rfl) ?_
                    refine lv_bipush (v := 12) hx hb dX6_digest_108 (by decide) ?_
                    refine lv_icmp_ge (tgt := 132) hx hb dX6_digest_110 (by decide) (fun c_110 => ?_) (fun c_110 => ?_)
                    · skip
                      have hje_110 : j_110 = 12 := Nat.le_antisymm hj_110 (vz_ge (n := 12) c_110 (by omega) (by omega))
                      refine lv_lload_n hx hb dX6_digest_132 rfl (lv_at hl 1 rfl) ?_
                      exact W.lret hx hb hr (fun t ht hW => ⟨⟨_, (u_63.1, u_63.2.1, u_63.2.2.1, u_63.2.2.2.1, u_63.2.2.2.2.1, u_63.2.2.2.2.2.1, u_63.2.2.2.2.2.2.1, u_63.2.2.2.2.2.2.2.1, u_63.2.2.2.2.2.2.2.2.1, u_63.2.2.2.2.2.2.2.2.2), rfl, (by rw [hq1, hje_110] ; rfl), (by show va_P D vwCl (zSA cI h len cd nm ks gs wt mi pl sk he nh ru bg la sd pl2 sk2 he2 nh2 ru2 bg2 la2 sd2 u_63.1 u_63.2.1 u_63.2.2.1 u_63.2.2.2.1 u_63.2.2.2.2.1 u_63.2.2.2.2.2.1 u_63.2.2.2.2.2.2.1 u_63.2.2.2.2.2.2.2.1 u_63.2.2.2.2.2.2.2.2.1 u_63.2.2.2.2.2.2.2.2.2 ik pr) t.heap; rw [ht]; exact hP)⟩, hS.F ht⟩) hS.2.2 dX6_digest_133
                    · skip
                      have hlt_110 : j_110 < 12 := vz_lt (n := 12) c_110 (by omega)
                      refine lv_ldc2 (v := 31) hx hb hown (hts (.constantLong RX6 207 (31)) (List.mem_of_getElem? (i := 3) rfl)) dX6_digest_113 ?_
                      refine lv_lload_n hx hb dX6_digest_116 rfl (lv_at hl 1 rfl) ?_
                      refine lv_lmul hx hb dX6_digest_117 ?_
                      refine lv_aload_n hx hb dX6_digest_118 rfl (lv_at hl 2 rfl) ?_
                      refine lv_iload_n hx hb dX6_digest_119 rfl (lv_at hl 0 rfl) ?_
                      refine vp_callSi (W.runV (As := [.int (nI j_110)]) (rest := [.long (31 * q1)]) ⟨hx, hb, hml, hown, hts⟩ (c_X6_count l D cI h len cd nm ks gs wt mi pl sk he nh ru bg la sd pl2 sk2 he2 nh2 ru2 bg2 la2 sd2 u_63.1 u_63.2.1 u_63.2.2.1 u_63.2.2.2.1 u_63.2.2.2.2.1 u_63.2.2.2.2.2.1 u_63.2.2.2.2.2.2.1 u_63.2.2.2.2.2.2.2.1 u_63.2.2.2.2.2.2.2.2.1 u_63.2.2.2.2.2.2.2.2.2 ik pr (nI j_110) (by first | assumption | omega)) (cwV 1 hts gX6_digest_X6_count rfl rfl rfl (by decide +kernel) ⟨Nat.le_of_ble_eq_true rfl, Nat.le_of_ble_eq_true rfl⟩) (vz_pvR (va_recv hK hP (ci := 6) (q0 := 0) rfl rfl) hZ hP) rfl rfl hl.1 rfl (lv_room (Nat.le_of_ble_eq_true rfl)) dX6_digest_120 ⟨Nat.zero_le _, Nat.zero_le _⟩) (fun r_120 hr_120 => ?_)
                      subst hr_120
                      refine lv_i2l (v := (sa_count nm ks gs mi pl sk nh ru bg la len pr (nI j_110) : Int32).toInt64) hx hb dX6_digest_123 rfl ?_
                      refine lv_ladd hx hb dX6_digest_124 ?_
                      refine lv_lstore_n (lv' := [(1, .long ((31 * q1) + ((sa_count nm ks gs mi pl sk nh ru bg la len pr (nI j_110) : Int32).toInt64))), (3, .int (nI j_110)), (0, .ref (h 0))]) hx hb dX6_digest_125 rfl hl (by decide) rfl (fun ls hl => ?_)
                      refine lv_iinc (v := nI (j_110 + 1)) (lv' := [(3, .int (nI (j_110 + 1))), (1, .long ((31 * q1) + ((sa_count nm ks gs mi pl sk nh ru bg la len pr (nI j_110) : Int32).toInt64))), (0, .ref (h 0))]) hx hb dX6_digest_126 hl (k := 1) rfl (vz_inc _) (by decide) rfl (fun ls hl => ?_)
                      refine lv_goto (tgt := 107) hx hb dX6_digest_129 (by decide) ?_
                      exact ih_107 (j_110 + 1) ((31 * q1) + ((sa_count nm ks gs mi pl sk nh ru bg la len pr (nI j_110) : Int32).toInt64)) _ _ (by omega) (by omega) (by rw [hq1] ; rfl) hP hD hS ls (lv_sub hl [0, 1, 2] rfl)
                exact L_107 _ 0 w1 _ _ (Nat.lt_succ_self _) (Nat.zero_le _) (by rw [hw1, hje_77] ; rfl) hP hD hS ls (lv_sub hl [0, 1, 2] rfl)
              · skip
                have hlt_77 : j_77 < len := vz_lt (n := len) c_77 (by omega)
                refine lv_ldc2 (v := 31) hx hb hown (hts (.constantLong RX6 207 (31)) (List.mem_of_getElem? (i := 3) rfl)) dX6_digest_80 ?_
                refine lv_lload_n hx hb dX6_digest_83 rfl (lv_at hl 1 rfl) ?_
                refine lv_lmul hx hb dX6_digest_84 ?_
                refine lv_aload_n hx hb dX6_digest_85 rfl (lv_at hl 2 rfl) ?_
                refine va_get (D := D) (ci := 6) (v := .ref (h 1)) (C := RX6) (T := TX6) (N := 10) hx hb hts iX6 hown hK hP 0 rfl rfl 0 (by decide) k10 (fun _ h9 => h9) rfl dX6_digest_86 ?_
                refine va_getN (D := D) (ci := 3) (v := .ref (h 2)) (C := RX3) (T := TX3) (N := 2) hx hb hts iX3 hown hK hP 1 rfl rfl 0 (by decide) k213 (fun _ h9 => h9) rfl dX6_digest_89 ?_
                refine lv_iload_n hx hb dX6_digest_92 rfl (lv_at hl 0 rfl) ?_
                refine vp_callSi (W.runV (As := [.int (nI j_77)]) (rest := [.long (31 * w1)]) ⟨hx, hb, hml, hown, hts⟩ (c_X5_at l D cI (h 2) (h 3) 22 cd (nI j_77) (by decide)) (cwV 1 hts gX6_digest_X5_at rfl rfl rfl (by decide +kernel) ⟨Nat.le_of_ble_eq_true rfl, Nat.le_of_ble_eq_true rfl⟩) (vz_pvR (va_recv hK hP (ci := 5) (q0 := 2) rfl rfl) hZ (hP.sub (ws' := (zRow cI (h 2) (h 3) 22 cd)) [2, 3] rfl)) rfl rfl hl.1 rfl (lv_room (Nat.le_of_ble_eq_true rfl)) dX6_digest_93 ⟨Nat.zero_le _, Nat.zero_le _⟩) (fun r_93 hr_93 => ?_)
                subst hr_93
                refine lv_i2l (v := (rw_at 22 cd (nI j_77) : Int32).toInt64) hx hb dX6_digest_96 rfl ?_
                refine lv_ladd hx hb dX6_digest_97 ?_
                refine lv_lstore_n (lv' := [(1, .long ((31 * w1) + ((rw_at 22 cd (nI j_77) : Int32).toInt64))), (3, .int (nI j_77)), (0, .ref (h 0))]) hx hb dX6_digest_98 rfl hl (by decide) rfl (fun ls hl => ?_)
                refine lv_iinc (v := nI (j_77 + 1)) (lv' := [(3, .int (nI (j_77 + 1))), (1, .long ((31 * w1) + ((rw_at 22 cd (nI j_77) : Int32).toInt64))), (0, .ref (h 0))]) hx hb dX6_digest_99 hl (k := 1) rfl (vz_inc _) (by decide) rfl (fun ls hl => ?_)
                refine lv_goto (tgt := 69) hx hb dX6_digest_102 (by decide) ?_
                exact ih_69 (j_77 + 1) ((31 * w1) + ((rw_at 22 cd (nI j_77) : Int32).toInt64)) _ _ (by omega) (by omega) (by rw [hw1] ; rfl) hP hD hS ls (lv_sub hl [0, 1, 2] rfl)
          exact L_69 _ 0 (dp nm ks gs wt sk he wy fi nh ru bg la y1) _ _ (Nat.lt_succ_self _) (Nat.zero_le _) (by subst hy1 ; rw [hje_14] ; simp only [c_58, ↓reduceIte, Bool.false_eq_true] ; rfl) hP hD hS ls (lv_sub hl [0, 1, 2] rfl)
      · skip
        have hlt_14 : j_14 < nm := vz_lt (n := nm) c_14 (by omega)
        refine lv_iconst (v := 0) hx hb dX6_digest_17 (by decide) ?_
        refine lv_istore (lv' := [(4, .int 0), (3, .int (nI j_14)), (1, .long y1), (0, .ref (h 0))]) hx hb dX6_digest_18 hl (by decide) rfl (fun ls hl => ?_)
        have L_20 : ∀ (d_20 : Nat) (j_24 : Nat) (z1 : Int64) (yu : Int64) (yl : Int64) (H_20 : Heap) (locs_20 : List Loc), 10 - j_24 < d_20 → (j_24 ≤ 10) → (z1 = dgi (sa_fact nm ks gs wt sk mi pl ru bg la) j_14 j_24 y1) → va_P D vwCl (zSA cI h len cd nm ks gs wt mi pl sk he nh ru bg la sd pl2 sk2 he2 nh2 ru2 bg2 la2 sd2 u0 l0 yu yl u2 l2 wy fi fl nu ik pr) H_20 → va_D A (zSA cI h len cd nm ks gs wt mi pl sk he nh ru bg la sd pl2 sk2 he2 nh2 ru2 bg2 la2 sd2 u0 l0 yu yl u2 l2 wy fi fl nu ik pr) → va_S A s.heap H_20 locs_20 → ∀ (ls : Array Slot), lv_has ls 5 [(4, .int (nI j_24)), (3, .int (nI j_14)), (1, .long z1), (0, .ref (h 0))] → W p l e ({ frames := 14, cells := 0, slots := 0, locals := 327 } : Room) s m ([.ref (h 0)] : List Value).toArray below meth c H_20 locs_20 0 0 (MQ below (va_Ql (fun r (_ : Int64 × Int64 × Int64 × Int64 × Int64 × Int64 × (Nat → Int32) × (Nat → Int32) × Int32 × Int32) => r = dg nm ks gs wt sk mi pl he cd wy fi nh ru bg la len pr) (fun (u : Int64 × Int64 × Int64 × Int64 × Int64 × Int64 × (Nat → Int32) × (Nat → Int32) × Int32 × Int32) (t : State) => va_P D vwCl (zSA cI h len cd nm ks gs wt mi pl sk he nh ru bg la sd pl2 sk2 he2 nh2 ru2 bg2 la2 sd2 u.1 u.2.1 u.2.2.1 u.2.2.2.1 u.2.2.2.2.1 u.2.2.2.2.2.1 u.2.2.2.2.2.2.1 u.2.2.2.2.2.2.2.1 u.2.2.2.2.2.2.2.2.1 u.2.2.2.2.2.2.2.2.2 ik pr) t.heap) A) ([.ref (h 0)] : List Value).toArray s 0 0 A) (F0 m 20 ls []) := by
          intro d_20
          induction d_20 with
          | zero => intro j_24 z1 yu yl H_20 locs_20 hd; exact absurd hd (Nat.not_lt_zero _)
          | succ d_20 ih_20 =>
            intro j_24 z1 yu yl H_20 locs_20 hd_20 hj_24 hz1 hP hD hS ls hl
            refine lv_iload hx hb dX6_digest_20 (lv_at hl 0 rfl) ?_
            refine lv_bipush (v := 10) hx hb dX6_digest_22 (by decide) ?_
            refine lv_icmp_ge (tgt := 48) hx hb dX6_digest_24 (by decide) (fun c_24 => ?_) (fun c_24 => ?_)
            · skip
              have hje_24 : j_24 = 10 := Nat.le_antisymm hj_24 (vz_ge (n := 10) c_24 (by omega) (by omega))
              refine lv_iinc (v := nI (j_14 + 1)) (lv' := [(3, .int (nI (j_14 + 1))), (4, .int (nI j_24)), (1, .long z1), (0, .ref (h 0))]) hx hb dX6_digest_48 hl (k := 1) rfl (vz_inc _) (by decide) rfl (fun ls hl => ?_)
              refine lv_goto (tgt := 6) hx hb dX6_digest_51 (by decide) ?_
              exact ih_6 (j_14 + 1) z1 yu yl _ _ (by omega) (by omega) (by rw [hz1, hje_24, hy1] ; rfl) hP hD hS ls (lv_sub hl [0, 2, 3] rfl)
            · skip
              have hlt_24 : j_24 < 10 := vz_lt (n := 10) c_24 (by omega)
              refine lv_ldc2 (v := 31) hx hb hown (hts (.constantLong RX6 207 (31)) (List.mem_of_getElem? (i := 3) rfl)) dX6_digest_27 ?_
              refine lv_lload_n hx hb dX6_digest_30 rfl (lv_at hl 2 rfl) ?_
              refine lv_lmul hx hb dX6_digest_31 ?_
              refine lv_aload_n hx hb dX6_digest_32 rfl (lv_at hl 3 rfl) ?_
              refine lv_iload_n hx hb dX6_digest_33 rfl (lv_at hl 1 rfl) ?_
              refine lv_iload hx hb dX6_digest_34 (lv_at hl 0 rfl) ?_
              have hPc := hP
              have hDc := hD
              have hFc : ∀ q, va_A (zSA cI h len cd nm ks gs wt mi pl sk he nh ru bg la sd pl2 sk2 he2 nh2 ru2 bg2 la2 sd2 u0 l0 yu yl u2 l2 wy fi fl nu ik pr) H_20.size q → A q := vz_freeAll hD hS hA
              refine va_calli (va_runV (As := [.int (nI j_14), .int (nI j_24)]) (rest := [.long (31 * z1)]) ⟨hx, hb, hml, hown, hts⟩ (c_X6_songFact l D cI h len cd nm ks gs wt mi pl sk he nh ru bg la sd pl2 sk2 he2 nh2 ru2 bg2 la2 sd2 u0 l0 yu yl u2 l2 wy fi fl nu ik pr H_20.size (nI j_14) (nI j_24) (by first | assumption | omega) (hch _ (bk_hasN hlt_14 hnm))) (cwV 2 hts gX6_digest_X6_songFact rfl rfl rfl (by decide +kernel) ⟨Nat.le_of_ble_eq_true rfl, Nat.le_of_ble_eq_true rfl⟩) (vz_pvW (va_recv hK hP (ci := 6) (q0 := 0) rfl rfl) hZ hPc hDc) rfl rfl hl.1 rfl (lv_room (Nat.le_of_ble_eq_true rfl)) dX6_digest_36 ⟨Nat.zero_le _, Nat.zero_le _⟩) hS (fun q _ h => hFc q h) hFc (fun r_36 u_36 t H_36 locs_36 ht hvm hw hB hz1 hk1 hS9 => ?_)
              rw [ht] at hB
              replace hP : va_P D vwCl (zSA cI h len cd nm ks gs wt mi pl sk he nh ru bg la sd pl2 sk2 he2 nh2 ru2 bg2 la2 sd2 u0 l0 u_36.1 u_36.2 u2 l2 wy fi fl nu ik pr) H_36 := hB
              replace hD : va_D A (zSA cI h len cd nm ks gs wt mi pl sk he nh ru bg la sd pl2 sk2 he2 nh2 ru2 bg2 la2 sd2 u0 l0 u_36.1 u_36.2 u2 l2 wy fi fl nu ik pr) := vz_same hD rfl
              replace hS := hS9
              clear hS9 hPc hDc hFc hB hk1 hz1
              subst hw
              refine lv_i2l (v := (sa_fact nm ks gs wt sk mi pl ru bg la (nI j_14) (nI j_24) : Int32).toInt64) hx hb dX6_digest_39 rfl ?_
              refine lv_ladd hx hb dX6_digest_40 ?_
              refine lv_lstore_n (lv' := [(1, .long ((31 * z1) + ((sa_fact nm ks gs wt sk mi pl ru bg la (nI j_14) (nI j_24) : Int32).toInt64))), (4, .int (nI j_24)), (3, .int (nI j_14)), (0, .ref (h 0))]) hx hb dX6_digest_41 rfl hl (by decide) rfl (fun ls hl => ?_)
              refine lv_iinc (v := nI (j_24 + 1)) (lv' := [(4, .int (nI (j_24 + 1))), (1, .long ((31 * z1) + ((sa_fact nm ks gs wt sk mi pl ru bg la (nI j_14) (nI j_24) : Int32).toInt64))), (3, .int (nI j_14)), (0, .ref (h 0))]) hx hb dX6_digest_42 hl (k := 1) rfl (vz_inc _) (by decide) rfl (fun ls hl => ?_)
              refine lv_goto (tgt := 20) hx hb dX6_digest_45 (by decide) ?_
              exact ih_20 (j_24 + 1) ((31 * z1) + ((sa_fact nm ks gs wt sk mi pl ru bg la (nI j_14) (nI j_24) : Int32).toInt64)) u_36.1 u_36.2 _ _ (by omega) (by omega) (by rw [hz1] ; rfl) hP hD hS ls (lv_sub hl [0, 2, 1, 3] rfl)
        exact L_20 _ 0 y1 xu xl _ _ (Nat.lt_succ_self _) (Nat.zero_le _) rfl hP hD hS ls (lv_sub hl [0, 1, 2, 3] rfl)
  exact L_6 _ 0 997 u1 l1 _ _ (Nat.lt_succ_self _) (Nat.zero_le _) rfl hP hD hS ls (lv_sub hl [0, 1, 2] rfl)

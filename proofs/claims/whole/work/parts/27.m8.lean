theorem zM_fst {cI : ClassId} {g : Nat → Nat} {pm : Nat} {rm : Nat} {rr : Int32} {st : Nat} {sg : Nat} {rn : Int32} {bg : Int32} {la : Int32} {ws : Bool} {pr : Nat} {ry : Nat} {hm : Nat} {xu : Int64} {xl : Int64} {sn : Int32} {kp : Int32} {kr : Int32} {kb : Int32} {kl : Int32} {kw : Bool} {kh : Nat} {hc : Int64} {pg : Nat → Int32} {rd : Nat → Int32} {rw : Nat → Int32} {ro : Nat → Int32} {be : Nat → Int32} {he : Nat → Int32} {kro : Nat → Int32} {khe : Nat → Int32} : (zM cI g pm rm rr st sg rn bg la ws pr ry hm xu xl sn kp kr kb kl kw kh hc pg rd rw ro be he kro khe).map Prod.fst = [(g 0), (g 1), (g 2), (g 3), (g 4), (g 5), (g 6), (g 7), (g 8)] := rfl
set_option maxHeartbeats 4000000 in
set_option maxRecDepth 100000 in
theorem c_X7_sayPlayer (l : Launch) (D : va_G) (cI : ClassId) (g : Nat → Nat) (pm : Nat) (rm : Nat) (rr : Int32) (st : Nat) (sg : Nat) (rn : Int32) (bg : Int32) (la : Int32) (ws : Bool) (pr : Nat) (ry : Nat) (hm : Nat) (xu : Int64) (xl : Int64) (sn : Int32) (kp : Int32) (kr : Int32) (kb : Int32) (kl : Int32) (kw : Bool) (kh : Nat) (hc : Int64) (pg : Nat → Int32) (rd : Nat → Int32) (rw : Nat → Int32) (ro : Nat → Int32) (be : Nat → Int32) (he : Nat → Int32) (kro : Nat → Int32) (khe : Nat → Int32) (sz : Nat) (hsg : sg ≤ 6) (hs0 : 0 < sg) (hbf : la = -1 ∨ ∃ b : Nat, b < sg ∧ la = nI b) (hhm : hm ≤ 8) (hhe : ∀ k : Nat, k < hm → ∃ x : Nat, x < sg ∧ he k = nI x) (hN1 : ∀ i : Nat, i < sg → ¬ (mo_shs sg rw (mo_may sg rw rn (bk_bag sg bg (nI i)) (nI i))).toInt64 = 0) (hN2 : ∀ i j : Nat, i < sg → j < sg → ¬ (mo_shs sg rw (mo_may sg rw rn (bk_bag sg (bk_bag sg bg (nI i)) (nI j)) (nI j))).toInt64 = 0) (hT2 : mTw (to_low sg rw (mo_may sg rw rn bg la) 2) (to_up sg rw rn bg (mo_may sg rw rn bg la) 2 sg)) : Met l yX7_sayPlayer wsX7_sayPlayer ({ frames := 7, cells := 0, slots := 0, locals := 173 } : Room) (vz_rw D cI (zM cI g pm rm rr st sg rn bg la ws pr ry hm xu xl sn kp kr kb kl kw kh hc pg rd rw ro be he kro khe) sz [.ref (g 0)]) (va_Qv (fun (_ : (Nat → Int32) × (Nat → Int32) × Nat × Int64 × Int64) => True) (fun (u : (Nat → Int32) × (Nat → Int32) × Nat × Int64 × Int64) (t : State) => va_P D vwCl (zM cI g pm rm rr st sg rn bg la ws pr u.2.2.1 hm u.2.2.2.1 u.2.2.2.2 sn kp kr kb kl kw kh (msp sg rw he rn bg la hm hc) pg rd rw u.1 u.2.1 he kro khe) t.heap) (va_A (zM cI g pm rm rr st sg rn bg la ws pr ry hm xu xl sn kp kr kb kl kw kh hc pg rd rw ro be he kro khe) sz)) 0 0 (va_A (zM cI g pm rm rr st sg rn bg la ws pr ry hm xu xl sn kp kr kb kl kw kh hc pg rd rw ro be he kro khe) sz) := by
  refine Met.ofW (cc := cX7_sayPlayer) (maxL := 2) (ret := none) (by decide) rfl ?_
  intro p e s m args below meth c s₁ B hml hv
  obtain ⟨rfl, hsz, hP, hZ, hD0⟩ := hv
  obtain ⟨hK, hN⟩ := id hZ
  have hx := B.exec
  have hb := B.bytes
  have hr := B.returns
  have hts := atoms_spec (ws := wsX7_sayPlayer) B.pre
  have hown : s.vm.findClass RX7 = some m.cls := findClass_of_methodNamed B.named
  have hlocks := B.notSynchronized
  subst hsz
  have hD := hD0.self (sz := s.heap.size)
  generalize hAe : va_A (zM cI g pm rm rr st sg rn bg la ws pr ry hm xu xl sn kp kr kb kl kw kh hc pg rd rw ro be he kro khe) s.heap.size = A at hD ⊢
  have hA : ∀ q : Nat, s.heap.size ≤ q → A q := fun q h => by rw [← hAe]; exact Or.inr h
  have hS : va_S A s.heap s.heap [] := va_S.rf
  have hl := lv_entry ([.ref (g 0)]) (n := 2) (Nat.le_of_ble_eq_true rfl)
  rw [lg_entry_eq]
  generalize (lg_sl ([.ref (g 0)]) ++ List.replicate (2 - (lg_sl ([.ref (g 0)])).length) Slot.unset).toArray = ls at hl ⊢
  have hl : lv_has ls 2 [(0, .ref (g 0))] := hl
  have hP : va_P D vwCl (zM cI g pm rm rr st sg rn bg la ws pr ry hm xu xl sn kp kr kb kl kw kh hc pg rd rw ro be he kro khe) s.heap := hP
  refine lv_aload_n hx hb dX7_sayPlayer_0 rfl (lv_at hl 0 rfl) ?_
  refine lv_aload_n hx hb dX7_sayPlayer_1 rfl (lv_at hl 0 rfl) ?_
  refine lv_iconst (v := 2) hx hb dX7_sayPlayer_2 (by decide) ?_
  refine lv_iconst (v := 0) hx hb dX7_sayPlayer_3 (by decide) ?_
  refine vp_callSl (W.runV (As := [.int 2, .int 0]) (rest := [.ref (g 0)]) ⟨hx, hb, hml, hown, hts⟩ (c_X7_twiceOf l D cI g pm rm rr st sg rn bg la ws pr ry hm xu xl sn kp kr kb kl kw kh hc pg rd rw ro be he kro khe 2 0 (by first | assumption | omega) (by first | assumption | omega) hN1 hN2 hT2) (cwV 2 hts gX7_sayPlayer_X7_twiceOf rfl rfl rfl (by decide +kernel) ⟨Nat.le_of_ble_eq_true rfl, Nat.le_of_ble_eq_true rfl⟩) (vz_pvR (va_recv hK hP (ci := 7) (q0 := 0) rfl rfl) hZ hP) rfl rfl hl.1 rfl (lv_room (Nat.le_of_ble_eq_true rfl)) dX7_sayPlayer_4 ⟨Nat.zero_le _, Nat.zero_le _⟩) (fun r_4 hr_4 => ?_)
  subst hr_4
  have hPc := hP
  have hDc := hD
  have hFc : ∀ q, va_A (zM cI g pm rm rr st sg rn bg la ws pr ry hm xu xl sn kp kr kb kl kw kh hc pg rd rw ro be he kro khe) s.heap.size q → A q := vz_freeAll hD hS hA
  refine va_callv (va_runV (As := [.long (to_r sg rw rn bg la 2 0)]) (rest := []) ⟨hx, hb, hml, hown, hts⟩ (c_X7_say l D cI g pm rm rr st sg rn bg la ws pr ry hm xu xl sn kp kr kb kl kw kh hc pg rd rw ro be he kro khe s.heap.size (to_r sg rw rn bg la 2 0)) (cwV 1 hts gX7_sayPlayer_X7_say rfl rfl rfl (by decide +kernel) ⟨Nat.le_of_ble_eq_true rfl, Nat.le_of_ble_eq_true rfl⟩) (vz_pvW (va_recv hK hP (ci := 7) (q0 := 0) rfl rfl) hZ hPc hDc) rfl rfl hl.1 rfl (lv_room (Nat.le_of_ble_eq_true rfl)) dX7_sayPlayer_7 ⟨Nat.zero_le _, Nat.zero_le _⟩) hS (fun q _ h => hFc q h) hFc (fun u_7 t H_7 locs_7 ht hvm hw hB hz1 hk1 hS9 => ?_)
  rw [ht] at hB
  replace hP : va_P D vwCl (zM cI g pm rm rr st sg rn bg la ws pr ry hm xu xl sn kp kr kb kl kw kh (31 * hc + (to_r sg rw rn bg la 2 0)) pg rd rw ro be he kro khe) H_7 := hB
  replace hD : va_D A (zM cI g pm rm rr st sg rn bg la ws pr ry hm xu xl sn kp kr kb kl kw kh (31 * hc + (to_r sg rw rn bg la 2 0)) pg rd rw ro be he kro khe) := vz_same hD (zM_fst.trans zM_fst.symm)
  replace hS := hS9
  clear hS9 hPc hDc hFc hB hk1 hz1
  refine lv_aload_n hx hb dX7_sayPlayer_10 rfl (lv_at hl 0 rfl) ?_
  refine lv_aload_n hx hb dX7_sayPlayer_11 rfl (lv_at hl 0 rfl) ?_
  refine lv_iconst (v := 2) hx hb dX7_sayPlayer_12 (by decide) ?_
  refine lv_iconst (v := 1) hx hb dX7_sayPlayer_13 (by decide) ?_
  refine vp_callSl (W.runV (As := [.int 2, .int 1]) (rest := [.ref (g 0)]) ⟨hx, hb, hml, hown, hts⟩ (c_X7_twiceOf l D cI g pm rm rr st sg rn bg la ws pr ry hm xu xl sn kp kr kb kl kw kh (31 * hc + (to_r sg rw rn bg la 2 0)) pg rd rw ro be he kro khe 2 1 (by first | assumption | omega) (by first | assumption | omega) hN1 hN2 hT2) (cwV 2 hts gX7_sayPlayer_X7_twiceOf rfl rfl rfl (by decide +kernel) ⟨Nat.le_of_ble_eq_true rfl, Nat.le_of_ble_eq_true rfl⟩) (vz_pvR (va_recv hK hP (ci := 7) (q0 := 0) rfl rfl) hZ hP) rfl rfl hl.1 rfl (lv_room (Nat.le_of_ble_eq_true rfl)) dX7_sayPlayer_14 ⟨Nat.zero_le _, Nat.zero_le _⟩) (fun r_14 hr_14 => ?_)
  subst hr_14
  have hPc := hP
  have hDc := hD
  have hFc : ∀ q, va_A (zM cI g pm rm rr st sg rn bg la ws pr ry hm xu xl sn kp kr kb kl kw kh (31 * hc + (to_r sg rw rn bg la 2 0)) pg rd rw ro be he kro khe) H_7.size q → A q := vz_freeAll hD hS hA
  refine va_callv (va_runV (As := [.long (to_r sg rw rn bg la 2 1)]) (rest := []) ⟨hx, hb, hml, hown, hts⟩ (c_X7_say l D cI g pm rm rr st sg rn bg la ws pr ry hm xu xl sn kp kr kb kl kw kh (31 * hc + (to_r sg rw rn bg la 2 0)) pg rd rw ro be he kro khe H_7.size (to_r sg rw rn bg la 2 1)) (cwV 1 hts gX7_sayPlayer_X7_say rfl rfl rfl (by decide +kernel) ⟨Nat.le_of_ble_eq_true rfl, Nat.le_of_ble_eq_true rfl⟩) (vz_pvW (va_recv hK hP (ci := 7) (q0 := 0) rfl rfl) hZ hPc hDc) rfl rfl hl.1 rfl (lv_room (Nat.le_of_ble_eq_true rfl)) dX7_sayPlayer_17 ⟨Nat.zero_le _, Nat.zero_le _⟩) hS (fun q _ h => hFc q h) hFc (fun u_17 t H_17 locs_17 ht hvm hw hB hz1 hk1 hS9 => ?_)
  rw [ht] at hB
  replace hP : va_P D vwCl (zM cI g pm rm rr st sg rn bg la ws pr ry hm xu xl sn kp kr kb kl kw kh (31 * (31 * hc + (to_r sg rw rn bg la 2 0)) + (to_r sg rw rn bg la 2 1)) pg rd rw ro be he kro khe) H_17 := hB
  replace hD : va_D A (zM cI g pm rm rr st sg rn bg la ws pr ry hm xu xl sn kp kr kb kl kw kh (31 * (31 * hc + (to_r sg rw rn bg la 2 0)) + (to_r sg rw rn bg la 2 1)) pg rd rw ro be he kro khe) := vz_same hD (zM_fst.trans zM_fst.symm)
  replace hS := hS9
  clear hS9 hPc hDc hFc hB hk1 hz1
  refine lv_aload_n hx hb dX7_sayPlayer_20 rfl (lv_at hl 0 rfl) ?_
  refine lv_aload_n hx hb dX7_sayPlayer_21 rfl (lv_at hl 0 rfl) ?_
  refine lv_aload_n hx hb dX7_sayPlayer_22 rfl (lv_at hl 0 rfl) ?_
  refine vp_callSi (W.runV (As := []) (rest := [.ref (g 0), .ref (g 0)]) ⟨hx, hb, hml, hown, hts⟩ (c_X7_all l D cI g pm rm rr st sg rn bg la ws pr ry hm xu xl sn kp kr kb kl kw kh (31 * (31 * hc + (to_r sg rw rn bg la 2 0)) + (to_r sg rw rn bg la 2 1)) pg rd rw ro be he kro khe) (cwV 0 hts gX7_sayPlayer_X7_all rfl rfl rfl (by decide +kernel) ⟨Nat.le_of_ble_eq_true rfl, Nat.le_of_ble_eq_true rfl⟩) (vz_pvR (va_recv hK hP (ci := 7) (q0 := 0) rfl rfl) hZ hP) rfl rfl hl.1 rfl (lv_room (Nat.le_of_ble_eq_true rfl)) dX7_sayPlayer_23 ⟨Nat.zero_le _, Nat.zero_le _⟩) (fun r_23 hr_23 => ?_)
  subst hr_23
  refine lv_iconst (v := 0) hx hb dX7_sayPlayer_26 (by decide) ?_
  have hPc := hP
  have hDc := hD
  have hFc : ∀ q, va_A (zM cI g pm rm rr st sg rn bg la ws pr ry hm xu xl sn kp kr kb kl kw kh (31 * (31 * hc + (to_r sg rw rn bg la 2 0)) + (to_r sg rw rn bg la 2 1)) pg rd rw ro be he kro khe) H_17.size q → A q := vz_freeAll hD hS hA
  refine va_calli (va_runV (As := [.int (bk_all sg), .int 0]) (rest := [.ref (g 0)]) ⟨hx, hb, hml, hown, hts⟩ (c_X7_partyOf l D cI g pm rm rr st sg rn bg la ws pr ry hm xu xl sn kp kr kb kl kw kh (31 * (31 * hc + (to_r sg rw rn bg la 2 0)) + (to_r sg rw rn bg la 2 1)) pg rd rw ro be he kro khe H_17.size (bk_all sg) 0 ((mo_ones (bk_all sg) 6).toNatClampNeg) (by first | assumption | omega) (by first | assumption | omega) ((ones_all hsg).2) ((ones_all hsg).1) (Or.inl rfl)) (cwV 2 hts gX7_sayPlayer_X7_partyOf rfl rfl rfl (by decide +kernel) ⟨Nat.le_of_ble_eq_true rfl, Nat.le_of_ble_eq_true rfl⟩) (vz_pvW (va_recv hK hP (ci := 7) (q0 := 0) rfl rfl) hZ hPc hDc) rfl rfl hl.1 rfl (lv_room (Nat.le_of_ble_eq_true rfl)) dX7_sayPlayer_27 ⟨Nat.zero_le _, Nat.zero_le _⟩) hS (fun q _ h => hFc q h) hFc (fun r_27 u_27 t H_27 locs_27 ht hvm hw hB hz1 hk1 hS9 => ?_)
  rw [ht] at hB
  replace hP : va_P D vwCl (zM cI g pm rm rr st sg rn bg la ws pr u_27.2.2 hm xu xl sn kp kr kb kl kw kh (31 * (31 * hc + (to_r sg rw rn bg la 2 0)) + (to_r sg rw rn bg la 2 1)) pg rd rw u_27.1 u_27.2.1 he kro khe) H_27 := hB
  replace hD : va_D A (zM cI g pm rm rr st sg rn bg la ws pr u_27.2.2 hm xu xl sn kp kr kb kl kw kh (31 * (31 * hc + (to_r sg rw rn bg la 2 0)) + (to_r sg rw rn bg la 2 1)) pg rd rw u_27.1 u_27.2.1 he kro khe) := vz_same hD (zM_fst.trans zM_fst.symm)
  replace hS := hS9
  clear hS9 hPc hDc hFc hB hk1 hz1
  subst hw
  refine lv_i2l (v := (py sg rw ((mo_ones (bk_all sg) 6).toNatClampNeg) (bk_all sg) 0 : Int32).toInt64) hx hb dX7_sayPlayer_30 rfl ?_
  have hPc := hP
  have hDc := hD
  have hFc : ∀ q, va_A (zM cI g pm rm rr st sg rn bg la ws pr u_27.2.2 hm xu xl sn kp kr kb kl kw kh (31 * (31 * hc + (to_r sg rw rn bg la 2 0)) + (to_r sg rw rn bg la 2 1)) pg rd rw u_27.1 u_27.2.1 he kro khe) H_27.size q → A q := vz_freeAll hD hS hA
  refine va_callv (va_runV (As := [.long ((py sg rw ((mo_ones (bk_all sg) 6).toNatClampNeg) (bk_all sg) 0 : Int32).toInt64)]) (rest := []) ⟨hx, hb, hml, hown, hts⟩ (c_X7_say l D cI g pm rm rr st sg rn bg la ws pr u_27.2.2 hm xu xl sn kp kr kb kl kw kh (31 * (31 * hc + (to_r sg rw rn bg la 2 0)) + (to_r sg rw rn bg la 2 1)) pg rd rw u_27.1 u_27.2.1 he kro khe H_27.size ((py sg rw ((mo_ones (bk_all sg) 6).toNatClampNeg) (bk_all sg) 0 : Int32).toInt64)) (cwV 1 hts gX7_sayPlayer_X7_say rfl rfl rfl (by decide +kernel) ⟨Nat.le_of_ble_eq_true rfl, Nat.le_of_ble_eq_true rfl⟩) (vz_pvW (va_recv hK hP (ci := 7) (q0 := 0) rfl rfl) hZ hPc hDc) rfl rfl hl.1 rfl (lv_room (Nat.le_of_ble_eq_true rfl)) dX7_sayPlayer_31 ⟨Nat.zero_le _, Nat.zero_le _⟩) hS (fun q _ h => hFc q h) hFc (fun u_31 t H_31 locs_31 ht hvm hw hB hz1 hk1 hS9 => ?_)
  rw [ht] at hB
  replace hP : va_P D vwCl (zM cI g pm rm rr st sg rn bg la ws pr u_27.2.2 hm xu xl sn kp kr kb kl kw kh (31 * (31 * (31 * hc + (to_r sg rw rn bg la 2 0)) + (to_r sg rw rn bg la 2 1)) + ((py sg rw ((mo_ones (bk_all sg) 6).toNatClampNeg) (bk_all sg) 0 : Int32).toInt64)) pg rd rw u_27.1 u_27.2.1 he kro khe) H_31 := hB
  replace hD : va_D A (zM cI g pm rm rr st sg rn bg la ws pr u_27.2.2 hm xu xl sn kp kr kb kl kw kh (31 * (31 * (31 * hc + (to_r sg rw rn bg la 2 0)) + (to_r sg rw rn bg la 2 1)) + ((py sg rw ((mo_ones (bk_all sg) 6).toNatClampNeg) (bk_all sg) 0 : Int32).toInt64)) pg rd rw u_27.1 u_27.2.1 he kro khe) := vz_same hD (zM_fst.trans zM_fst.symm)
  replace hS := hS9
  clear hS9 hPc hDc hFc hB hk1 hz1
  refine lv_bipush (v := 10) hx hb dX7_sayPlayer_34 (by decide) ?_
  refine lv_istore_n (lv' := [(1, .int 10), (0, .ref (g 0))]) hx hb dX7_sayPlayer_36 rfl hl (by decide) rfl (fun ls hl => ?_)
  have L_37 : ∀ (d_37 : Nat) (j : Nat) (r0 : Nat → Int32) (r1 : Nat → Int32) (r2 : Nat) (H_37 : Heap) (locs_37 : List Loc), 6 - j < d_37 → (j ≤ 6) → va_P D vwCl (zM cI g pm rm rr st sg rn bg la ws pr r2 hm xu xl sn kp kr kb kl kw kh (ms6 sg rw j (ms3 sg rw rn bg la hc)) pg rd rw r0 r1 he kro khe) H_37 → va_D A (zM cI g pm rm rr st sg rn bg la ws pr r2 hm xu xl sn kp kr kb kl kw kh (ms6 sg rw j (ms3 sg rw rn bg la hc)) pg rd rw r0 r1 he kro khe) → va_S A s.heap H_37 locs_37 → ∀ (ls : Array Slot), lv_has ls 2 [(1, .int (nI (10 + j))), (0, .ref (g 0))] → W p l e ({ frames := 7, cells := 0, slots := 0, locals := 173 } : Room) s m ([.ref (g 0)] : List Value).toArray below meth c H_37 locs_37 0 0 (MQ below (va_Qv (fun (_ : (Nat → Int32) × (Nat → Int32) × Nat × Int64 × Int64) => True) (fun (u : (Nat → Int32) × (Nat → Int32) × Nat × Int64 × Int64) (t : State) => va_P D vwCl (zM cI g pm rm rr st sg rn bg la ws pr u.2.2.1 hm u.2.2.2.1 u.2.2.2.2 sn kp kr kb kl kw kh (msp sg rw he rn bg la hm hc) pg rd rw u.1 u.2.1 he kro khe) t.heap) A) ([.ref (g 0)] : List Value).toArray s 0 0 A) (F0 m 37 ls []) := by
    intro d_37
    induction d_37 with
    | zero => intro j r0 r1 r2 H_37 locs_37 hd; exact absurd hd (Nat.not_lt_zero _)
    | succ d_37 ih_37 =>
      intro j r0 r1 r2 H_37 locs_37 hd_37 hj hP hD hS ls hl
      refine lv_iload_n hx hb dX7_sayPlayer_37 rfl (lv_at hl 0 rfl) ?_
      refine lv_bipush (v := 16) hx hb dX7_sayPlayer_38 (by decide) ?_
      refine lv_icmp_ge (tgt := 63) hx hb dX7_sayPlayer_40 (by decide) (fun c_40 => ?_) (fun c_40 => ?_)
      · skip
        have hje : j = 6 := by have := vz_ge (n := 16) c_40 (by omega) (by omega) ; omega
        refine lv_aload_n hx hb dX7_sayPlayer_63 rfl (lv_at hl 1 rfl) ?_
        refine lv_aload_n hx hb dX7_sayPlayer_64 rfl (lv_at hl 1 rfl) ?_
        have hPc := hP
        have hDc := hD
        have hFc : ∀ q, va_A (zM cI g pm rm rr st sg rn bg la ws pr r2 hm xu xl sn kp kr kb kl kw kh (ms6 sg rw j (ms3 sg rw rn bg la hc)) pg rd rw r0 r1 he kro khe) H_37.size q → A q := vz_freeAll hD hS hA
        refine va_calli (va_runV (As := []) (rest := [.ref (g 0)]) ⟨hx, hb, hml, hown, hts⟩ (c_X7_rulesOf l D cI g pm rm rr st sg rn bg la ws pr r2 hm xu xl sn kp kr kb kl kw kh (ms6 sg rw j (ms3 sg rw rn bg la hc)) pg rd rw r0 r1 he kro khe H_37.size (by first | assumption | omega) (by first | assumption | omega) (by first | assumption | omega)) (cwV 0 hts gX7_sayPlayer_X7_rulesOf rfl rfl rfl (by decide +kernel) ⟨Nat.le_of_ble_eq_true rfl, Nat.le_of_ble_eq_true rfl⟩) (vz_pvW (va_recv hK hP (ci := 7) (q0 := 0) rfl rfl) hZ hPc hDc) rfl rfl hl.1 rfl (lv_room (Nat.le_of_ble_eq_true rfl)) dX7_sayPlayer_65 ⟨Nat.zero_le _, Nat.zero_le _⟩) hS (fun q _ h => hFc q h) hFc (fun r_65 u_65 t H_65 locs_65 ht hvm hw hB hz1 hk1 hS9 => ?_)
        rw [ht] at hB
        replace hP : va_P D vwCl (zM cI g pm rm rr st sg rn bg la ws pr r2 hm u_65.1 u_65.2 sn kp kr kb kl kw kh (ms6 sg rw j (ms3 sg rw rn bg la hc)) pg rd rw r0 r1 he kro khe) H_65 := hB
        replace hD : va_D A (zM cI g pm rm rr st sg rn bg la ws pr r2 hm u_65.1 u_65.2 sn kp kr kb kl kw kh (ms6 sg rw j (ms3 sg rw rn bg la hc)) pg rd rw r0 r1 he kro khe) := vz_same hD (zM_fst.trans zM_fst.symm)
        replace hS := hS9
        clear hS9 hPc hDc hFc hB hk1 hz1
        subst hw
        refine lv_i2l (v := (mr_acc sg rw he hm 4 : Int32).toInt64) hx hb dX7_sayPlayer_68 rfl ?_
        have hPc := hP
        have hDc := hD
        have hFc : ∀ q, va_A (zM cI g pm rm rr st sg rn bg la ws pr r2 hm u_65.1 u_65.2 sn kp kr kb kl kw kh (ms6 sg rw j (ms3 sg rw rn bg la hc)) pg rd rw r0 r1 he kro khe) H_65.size q → A q := vz_freeAll hD hS hA
        refine va_callv (va_runV (As := [.long ((mr_acc sg rw he hm 4 : Int32).toInt64)]) (rest := []) ⟨hx, hb, hml, hown, hts⟩ (c_X7_say l D cI g pm rm rr st sg rn bg la ws pr r2 hm u_65.1 u_65.2 sn kp kr kb kl kw kh (ms6 sg rw j (ms3 sg rw rn bg la hc)) pg rd rw r0 r1 he kro khe H_65.size ((mr_acc sg rw he hm 4 : Int32).toInt64)) (cwV 1 hts gX7_sayPlayer_X7_say rfl rfl rfl (by decide +kernel) ⟨Nat.le_of_ble_eq_true rfl, Nat.le_of_ble_eq_true rfl⟩) (vz_pvW (va_recv hK hP (ci := 7) (q0 := 0) rfl rfl) hZ hPc hDc) rfl rfl hl.1 rfl (lv_room (Nat.le_of_ble_eq_true rfl)) dX7_sayPlayer_69 ⟨Nat.zero_le _, Nat.zero_le _⟩) hS (fun q _ h => hFc q h) hFc (fun u_69 t H_69 locs_69 ht hvm hw hB hz1 hk1 hS9 => ?_)
        rw [ht] at hB
        replace hP : va_P D vwCl (zM cI g pm rm rr st sg rn bg la ws pr r2 hm u_65.1 u_65.2 sn kp kr kb kl kw kh (31 * (ms6 sg rw j (ms3 sg rw rn bg la hc)) + ((mr_acc sg rw he hm 4 : Int32).toInt64)) pg rd rw r0 r1 he kro khe) H_69 := hB
        replace hD : va_D A (zM cI g pm rm rr st sg rn bg la ws pr r2 hm u_65.1 u_65.2 sn kp kr kb kl kw kh (31 * (ms6 sg rw j (ms3 sg rw rn bg la hc)) + ((mr_acc sg rw he hm 4 : Int32).toInt64)) pg rd rw r0 r1 he kro khe) := vz_same hD (zM_fst.trans zM_fst.symm)
        replace hS := hS9
        clear hS9 hPc hDc hFc hB hk1 hz1
        refine lv_aload_n hx hb dX7_sayPlayer_72 rfl (lv_at hl 1 rfl) ?_
        refine lv_aload_n hx hb dX7_sayPlayer_73 rfl (lv_at hl 1 rfl) ?_
        have hPc := hP
        have hDc := hD
        have hFc : ∀ q, va_A (zM cI g pm rm rr st sg rn bg la ws pr r2 hm u_65.1 u_65.2 sn kp kr kb kl kw kh (31 * (ms6 sg rw j (ms3 sg rw rn bg la hc)) + ((mr_acc sg rw he hm 4 : Int32).toInt64)) pg rd rw r0 r1 he kro khe) H_69.size q → A q := vz_freeAll hD hS hA
        refine va_calli (va_runV (As := []) (rest := [.ref (g 0)]) ⟨hx, hb, hml, hown, hts⟩ (c_X7_likelyOf l D cI g pm rm rr st sg rn bg la ws pr r2 hm u_65.1 u_65.2 sn kp kr kb kl kw kh (31 * (ms6 sg rw j (ms3 sg rw rn bg la hc)) + ((mr_acc sg rw he hm 4 : Int32).toInt64)) pg rd rw r0 r1 he kro khe H_69.size (by first | assumption | omega) (by first | assumption | omega) (by first | assumption | omega)) (cwV 0 hts gX7_sayPlayer_X7_likelyOf rfl rfl rfl (by decide +kernel) ⟨Nat.le_of_ble_eq_true rfl, Nat.le_of_ble_eq_true rfl⟩) (vz_pvW (va_recv hK hP (ci := 7) (q0 := 0) rfl rfl) hZ hPc hDc) rfl rfl hl.1 rfl (lv_room (Nat.le_of_ble_eq_true rfl)) dX7_sayPlayer_74 ⟨Nat.zero_le _, Nat.zero_le _⟩) hS (fun q _ h => hFc q h) hFc (fun r_74 u_74 t H_74 locs_74 ht hvm hw hB hz1 hk1 hS9 => ?_)
        rw [ht] at hB
        replace hP : va_P D vwCl (zM cI g pm rm rr st sg rn bg la ws pr r2 hm u_74.1 u_74.2 sn kp kr kb kl kw kh (31 * (ms6 sg rw j (ms3 sg rw rn bg la hc)) + ((mr_acc sg rw he hm 4 : Int32).toInt64)) pg rd rw r0 r1 he kro khe) H_74 := hB
        replace hD : va_D A (zM cI g pm rm rr st sg rn bg la ws pr r2 hm u_74.1 u_74.2 sn kp kr kb kl kw kh (31 * (ms6 sg rw j (ms3 sg rw rn bg la hc)) + ((mr_acc sg rw he hm 4 : Int32).toInt64)) pg rd rw r0 r1 he kro khe) := vz_same hD (zM_fst.trans zM_fst.symm)
        replace hS := hS9
        clear hS9 hPc hDc hFc hB hk1 hz1
        subst hw
        refine lv_i2l (v := ((mk sg rw he hm 4).1 : Int32).toInt64) hx hb dX7_sayPlayer_77 rfl ?_
        have hPc := hP
        have hDc := hD
        have hFc : ∀ q, va_A (zM cI g pm rm rr st sg rn bg la ws pr r2 hm u_74.1 u_74.2 sn kp kr kb kl kw kh (31 * (ms6 sg rw j (ms3 sg rw rn bg la hc)) + ((mr_acc sg rw he hm 4 : Int32).toInt64)) pg rd rw r0 r1 he kro khe) H_74.size q → A q := vz_freeAll hD hS hA
        refine va_callv (va_runV (As := [.long (((mk sg rw he hm 4).1 : Int32).toInt64)]) (rest := []) ⟨hx, hb, hml, hown, hts⟩ (c_X7_say l D cI g pm rm rr st sg rn bg la ws pr r2 hm u_74.1 u_74.2 sn kp kr kb kl kw kh (31 * (ms6 sg rw j (ms3 sg rw rn bg la hc)) + ((mr_acc sg rw he hm 4 : Int32).toInt64)) pg rd rw r0 r1 he kro khe H_74.size (((mk sg rw he hm 4).1 : Int32).toInt64)) (cwV 1 hts gX7_sayPlayer_X7_say rfl rfl rfl (by decide +kernel) ⟨Nat.le_of_ble_eq_true rfl, Nat.le_of_ble_eq_true rfl⟩) (vz_pvW (va_recv hK hP (ci := 7) (q0 := 0) rfl rfl) hZ hPc hDc) rfl rfl hl.1 rfl (lv_room (Nat.le_of_ble_eq_true rfl)) dX7_sayPlayer_78 ⟨Nat.zero_le _, Nat.zero_le _⟩) hS (fun q _ h => hFc q h) hFc (fun u_78 t H_78 locs_78 ht hvm hw hB hz1 hk1 hS9 => ?_)
        rw [ht] at hB
        replace hP : va_P D vwCl (zM cI g pm rm rr st sg rn bg la ws pr r2 hm u_74.1 u_74.2 sn kp kr kb kl kw kh (31 * (31 * (ms6 sg rw j (ms3 sg rw rn bg la hc)) + ((mr_acc sg rw he hm 4 : Int32).toInt64)) + (((mk sg rw he hm 4).1 : Int32).toInt64)) pg rd rw r0 r1 he kro khe) H_78 := hB
        replace hD : va_D A (zM cI g pm rm rr st sg rn bg la ws pr r2 hm u_74.1 u_74.2 sn kp kr kb kl kw kh (31 * (31 * (ms6 sg rw j (ms3 sg rw rn bg la hc)) + ((mr_acc sg rw he hm 4 : Int32).toInt64)) + (((mk sg rw he hm 4).1 : Int32).toInt64)) pg rd rw r0 r1 he kro khe) := vz_same hD (zM_fst.trans zM_fst.symm)
        replace hS := hS9
        clear hS9 hPc hDc hFc hB hk1 hz1
        have en_hc : msp sg rw he rn bg la hm hc = 31 * (31 * (ms6 sg rw j (ms3 sg rw rn bg la hc)) + ((mr_acc sg rw he hm 4 : Int32).toInt64)) + (((mk sg rw he hm 4).1 : Int32).toInt64) := by rw [hje] ; simp only [msp]
        exact W.vret hx hb hr (fun t ht hW => ⟨⟨(r0, r1, r2, u_74.1, u_74.2), rfl, trivial, (by show va_P D vwCl (zM cI g pm rm rr st sg rn bg la ws pr r2 hm u_74.1 u_74.2 sn kp kr kb kl kw kh (msp sg rw he rn bg la hm hc) pg rd rw r0 r1 he kro khe) t.heap; rw [ht, en_hc]; exact hP)⟩, hS.F ht⟩) hS.2.2 dX7_sayPlayer_81
      · skip
        have hlt : j < 6 := by have := vz_lt (n := 16) c_40 (by omega) ; omega
        refine lv_aload_n hx hb dX7_sayPlayer_43 rfl (lv_at hl 1 rfl) ?_
        refine lv_aload_n hx hb dX7_sayPlayer_44 rfl (lv_at hl 1 rfl) ?_
        refine lv_aload_n hx hb dX7_sayPlayer_45 rfl (lv_at hl 1 rfl) ?_
        refine vp_callSi (W.runV (As := []) (rest := [.ref (g 0), .ref (g 0)]) ⟨hx, hb, hml, hown, hts⟩ (c_X7_all l D cI g pm rm rr st sg rn bg la ws pr r2 hm xu xl sn kp kr kb kl kw kh (ms6 sg rw j (ms3 sg rw rn bg la hc)) pg rd rw r0 r1 he kro khe) (cwV 0 hts gX7_sayPlayer_X7_all rfl rfl rfl (by decide +kernel) ⟨Nat.le_of_ble_eq_true rfl, Nat.le_of_ble_eq_true rfl⟩) (vz_pvR (va_recv hK hP (ci := 7) (q0 := 0) rfl rfl) hZ hP) rfl rfl hl.1 rfl (lv_room (Nat.le_of_ble_eq_true rfl)) dX7_sayPlayer_46 ⟨Nat.zero_le _, Nat.zero_le _⟩) (fun r_46 hr_46 => ?_)
        subst hr_46
        refine lv_iload_n hx hb dX7_sayPlayer_49 rfl (lv_at hl 0 rfl) ?_
        have hPc := hP
        have hDc := hD
        have hFc : ∀ q, va_A (zM cI g pm rm rr st sg rn bg la ws pr r2 hm xu xl sn kp kr kb kl kw kh (ms6 sg rw j (ms3 sg rw rn bg la hc)) pg rd rw r0 r1 he kro khe) H_37.size q → A q := vz_freeAll hD hS hA
        refine va_calli (va_runV (As := [.int (bk_all sg), .int (nI (10 + j))]) (rest := [.ref (g 0)]) ⟨hx, hb, hml, hown, hts⟩ (c_X7_partyOf l D cI g pm rm rr st sg rn bg la ws pr r2 hm xu xl sn kp kr kb kl kw kh (ms6 sg rw j (ms3 sg rw rn bg la hc)) pg rd rw r0 r1 he kro khe H_37.size (bk_all sg) (nI (10 + j)) ((mo_ones (bk_all sg) 6).toNatClampNeg) (by first | assumption | omega) (by first | assumption | omega) ((ones_all hsg).2) ((ones_all hsg).1) (Or.inr ⟨j, hlt, rfl⟩)) (cwV 2 hts gX7_sayPlayer_X7_partyOf rfl rfl rfl (by decide +kernel) ⟨Nat.le_of_ble_eq_true rfl, Nat.le_of_ble_eq_true rfl⟩) (vz_pvW (va_recv hK hP (ci := 7) (q0 := 0) rfl rfl) hZ hPc hDc) rfl rfl hl.1 rfl (lv_room (Nat.le_of_ble_eq_true rfl)) dX7_sayPlayer_50 ⟨Nat.zero_le _, Nat.zero_le _⟩) hS (fun q _ h => hFc q h) hFc (fun r_50 u_50 t H_50 locs_50 ht hvm hw hB hz1 hk1 hS9 => ?_)
        rw [ht] at hB
        replace hP : va_P D vwCl (zM cI g pm rm rr st sg rn bg la ws pr u_50.2.2 hm xu xl sn kp kr kb kl kw kh (ms6 sg rw j (ms3 sg rw rn bg la hc)) pg rd rw u_50.1 u_50.2.1 he kro khe) H_50 := hB
        replace hD : va_D A (zM cI g pm rm rr st sg rn bg la ws pr u_50.2.2 hm xu xl sn kp kr kb kl kw kh (ms6 sg rw j (ms3 sg rw rn bg la hc)) pg rd rw u_50.1 u_50.2.1 he kro khe) := vz_same hD (zM_fst.trans zM_fst.symm)
        replace hS := hS9
        clear hS9 hPc hDc hFc hB hk1 hz1
        subst hw
        refine lv_i2l (v := (py sg rw ((mo_ones (bk_all sg) 6).toNatClampNeg) (bk_all sg) (nI (10 + j)) : Int32).toInt64) hx hb dX7_sayPlayer_53 rfl ?_
        have hPc := hP
        have hDc := hD
        have hFc : ∀ q, va_A (zM cI g pm rm rr st sg rn bg la ws pr u_50.2.2 hm xu xl sn kp kr kb kl kw kh (ms6 sg rw j (ms3 sg rw rn bg la hc)) pg rd rw u_50.1 u_50.2.1 he kro khe) H_50.size q → A q := vz_freeAll hD hS hA
        refine va_callv (va_runV (As := [.long ((py sg rw ((mo_ones (bk_all sg) 6).toNatClampNeg) (bk_all sg) (nI (10 + j)) : Int32).toInt64)]) (rest := []) ⟨hx, hb, hml, hown, hts⟩ (c_X7_say l D cI g pm rm rr st sg rn bg la ws pr u_50.2.2 hm xu xl sn kp kr kb kl kw kh (ms6 sg rw j (ms3 sg rw rn bg la hc)) pg rd rw u_50.1 u_50.2.1 he kro khe H_50.size ((py sg rw ((mo_ones (bk_all sg) 6).toNatClampNeg) (bk_all sg) (nI (10 + j)) : Int32).toInt64)) (cwV 1 hts gX7_sayPlayer_X7_say rfl rfl rfl (by decide +kernel) ⟨Nat.le_of_ble_eq_true rfl, Nat.le_of_ble_eq_true rfl⟩) (vz_pvW (va_recv hK hP (ci := 7) (q0 := 0) rfl rfl) hZ hPc hDc) rfl rfl hl.1 rfl (lv_room (Nat.le_of_ble_eq_true rfl)) dX7_sayPlayer_54 ⟨Nat.zero_le _, Nat.zero_le _⟩) hS (fun q _ h => hFc q h) hFc (fun u_54 t H_54 locs_54 ht hvm hw hB hz1 hk1 hS9 => ?_)
        rw [ht] at hB
        replace hP : va_P D vwCl (zM cI g pm rm rr st sg rn bg la ws pr u_50.2.2 hm xu xl sn kp kr kb kl kw kh (31 * (ms6 sg rw j (ms3 sg rw rn bg la hc)) + ((py sg rw ((mo_ones (bk_all sg) 6).toNatClampNeg) (bk_all sg) (nI (10 + j)) : Int32).toInt64)) pg rd rw u_50.1 u_50.2.1 he kro khe) H_54 := hB
        replace hD : va_D A (zM cI g pm rm rr st sg rn bg la ws pr u_50.2.2 hm xu xl sn kp kr kb kl kw kh (31 * (ms6 sg rw j (ms3 sg rw rn bg la hc)) + ((py sg rw ((mo_ones (bk_all sg) 6).toNatClampNeg) (bk_all sg) (nI (10 + j)) : Int32).toInt64)) pg rd rw u_50.1 u_50.2.1 he kro khe) := vz_same hD (zM_fst.trans zM_fst.symm)
        replace hS := hS9
        clear hS9 hPc hDc hFc hB hk1 hz1
        refine lv_iinc (v := nI (10 + j + 1)) (lv' := [(1, .int (nI (10 + j + 1))), (0, .ref (g 0))]) hx hb dX7_sayPlayer_57 hl (k := 0) rfl (vz_inc _) (by decide) rfl (fun ls hl => ?_)
        refine lv_goto (tgt := 37) hx hb dX7_sayPlayer_60 (by decide) ?_
        have ew_hc : ms6 sg rw (j + 1) (ms3 sg rw rn bg la hc) = 31 * (ms6 sg rw j (ms3 sg rw rn bg la hc)) + ((py sg rw ((mo_ones (bk_all sg) 6).toNatClampNeg) (bk_all sg) (nI (10 + j)) : Int32).toInt64) := by simp only [ms6]
        replace hP : va_P D vwCl (zM cI g pm rm rr st sg rn bg la ws pr u_50.2.2 hm xu xl sn kp kr kb kl kw kh (ms6 sg rw (j + 1) (ms3 sg rw rn bg la hc)) pg rd rw u_50.1 u_50.2.1 he kro khe) H_54 := by rw [ew_hc]; exact hP
        replace hD : va_D A (zM cI g pm rm rr st sg rn bg la ws pr u_50.2.2 hm xu xl sn kp kr kb kl kw kh (ms6 sg rw (j + 1) (ms3 sg rw rn bg la hc)) pg rd rw u_50.1 u_50.2.1 he kro khe) := vz_same hD (zM_fst.trans zM_fst.symm)
        exact ih_37 (j + 1) u_50.1 u_50.2.1 u_50.2.2 _ _ (by omega) (by omega) hP hD hS ls (lv_sub hl [0, 1] rfl)
  have ew_hc : ms6 sg rw 0 (ms3 sg rw rn bg la hc) = 31 * (31 * (31 * hc + (to_r sg rw rn bg la 2 0)) + (to_r sg rw rn bg la 2 1)) + ((py sg rw ((mo_ones (bk_all sg) 6).toNatClampNeg) (bk_all sg) 0 : Int32).toInt64) := by simp only [ms6, ms3]
  replace hP : va_P D vwCl (zM cI g pm rm rr st sg rn bg la ws pr u_27.2.2 hm xu xl sn kp kr kb kl kw kh (ms6 sg rw 0 (ms3 sg rw rn bg la hc)) pg rd rw u_27.1 u_27.2.1 he kro khe) H_31 := by rw [ew_hc]; exact hP
  replace hD : va_D A (zM cI g pm rm rr st sg rn bg la ws pr u_27.2.2 hm xu xl sn kp kr kb kl kw kh (ms6 sg rw 0 (ms3 sg rw rn bg la hc)) pg rd rw u_27.1 u_27.2.1 he kro khe) := vz_same hD (zM_fst.trans zM_fst.symm)
  exact L_37 _ 0 u_27.1 u_27.2.1 u_27.2.2 _ _ (Nat.lt_succ_self _) (Nat.zero_le _) hP hD hS ls (lv_sub hl [0, 1] rfl)

set_option maxHeartbeats 4000000 in
set_option maxRecDepth 100000 in
theorem c_X7_partsOf (l : Launch) (D : va_G) (cI : ClassId) (g : Nat → Nat) (pm : Nat) (rm : Nat) (rr : Int32) (st : Nat) (sg : Nat) (rn : Int32) (bg : Int32) (la : Int32) (ws : Bool) (pr : Nat) (ry : Nat) (hm : Nat) (xu : Int64) (xl : Int64) (sn : Int32) (kp : Int32) (kr : Int32) (kb : Int32) (kl : Int32) (kw : Bool) (kh : Nat) (hc : Int64) (pg : Nat → Int32) (rd : Nat → Int32) (rw : Nat → Int32) (ro : Nat → Int32) (be : Nat → Int32) (he : Nat → Int32) (kro : Nat → Int32) (khe : Nat → Int32) (p0 : Int32) (p1 : Int32) (hsg : sg ≤ 6) (hne : ¬ (mo_shs sg rw p1).toInt64 = 0) : Met l yX7_partsOf wsX7_partsOf ({ frames := 4, cells := 0, slots := 0, locals := 89 } : Room) (vz_ro D cI (zM cI g pm rm rr st sg rn bg la ws pr ry hm xu xl sn kp kr kb kl kw kh hc pg rd rw ro be he kro khe) [.ref (g 0), .int p0, .int p1]) (vp_Sl (fun r => r = mo_pts sg rw p0 p1)) 0 0 (fun _ => False) := by
  refine Met.ofW (cc := cX7_partsOf) (maxL := 6) (ret := (some .long)) (by decide) rfl ?_
  intro p e s m args below meth c s₁ B hml hv
  obtain ⟨rfl, hP, hZ⟩ := hv
  obtain ⟨hK, hN⟩ := id hZ
  have hx := B.exec
  have hb := B.bytes
  have hr := B.returns
  have hts := atoms_spec (ws := wsX7_partsOf) B.pre
  have hown : s.vm.findClass RX7 = some m.cls := findClass_of_methodNamed B.named
  have hlocks := B.notSynchronized
  have k73 := hts (.fieldLink RX7 73 "SongsAgainModel" "songs" "I") (List.mem_of_getElem? (i := 1) rfl)
  have iX7 : ∀ w ∈ u_ws RX7 TX7 30, w ∈ wsX7_partsOf := vz_in (i := 28) (n := 30) rfl
  have hl := lv_entry ([.ref (g 0), .int p0, .int p1]) (n := 6) (Nat.le_of_ble_eq_true rfl)
  rw [lg_entry_eq]
  generalize (lg_sl ([.ref (g 0), .int p0, .int p1]) ++ List.replicate (6 - (lg_sl ([.ref (g 0), .int p0, .int p1])).length) Slot.unset).toArray = ls at hl ⊢
  have hl : lv_has ls 6 [(0, .ref (g 0)), (1, .int p0), (2, .int p1)] := hl
  refine lv_lconst (v := 0) hx hb dX7_partsOf_0 (by decide) ?_
  refine lv_lstore_n (lv' := [(3, .long 0), (0, .ref (g 0)), (1, .int p0), (2, .int p1)]) hx hb dX7_partsOf_1 rfl hl (by decide) rfl (fun ls hl => ?_)
  refine lv_iconst (v := 0) hx hb dX7_partsOf_2 (by decide) ?_
  refine lv_istore (lv' := [(5, .int 0), (3, .long 0), (0, .ref (g 0)), (1, .int p0), (2, .int p1)]) hx hb dX7_partsOf_3 hl (by decide) rfl (fun ls hl => ?_)
  have L_5 : ∀ (d_5 : Nat) (j : Nat) (acc : Int64), sg - j < d_5 → (j ≤ sg) → (acc = mo_pt sg rw p0 p1 j) → ∀ (ls : Array Slot), lv_has ls 6 [(5, .int (nI j)), (3, .long acc), (0, .ref (g 0)), (1, .int p0), (2, .int p1)] → W p l e ({ frames := 4, cells := 0, slots := 0, locals := 89 } : Room) s m ([.ref (g 0), .int p0, .int p1] : List Value).toArray below meth c s.heap [] 0 0 (MQ below (vp_Sl (fun r => r = mo_pts sg rw p0 p1)) ([.ref (g 0), .int p0, .int p1] : List Value).toArray s 0 0 (fun _ => False)) (F0 m 5 ls []) := by
    intro d_5
    induction d_5 with
    | zero => intro j acc hd; exact absurd hd (Nat.not_lt_zero _)
    | succ d_5 ih_5 =>
      intro j acc hd_5 hj hacc ls hl
      refine lv_iload hx hb dX7_partsOf_5 (lv_at hl 0 rfl) ?_
      refine lv_aload_n hx hb dX7_partsOf_7 rfl (lv_at hl 2 rfl) ?_
      refine va_get (D := D) (ci := 7) (v := .int (nI sg)) (C := RX7) (T := TX7) (N := 30) hx hb hts iX7 hown hK hP 0 rfl rfl 6 (by decide) k73 (fun _ h9 => h9) rfl dX7_partsOf_8 ?_
      refine lv_icmp_ge (tgt := 38) hx hb dX7_partsOf_11 (by decide) (fun c_11 => ?_) (fun c_11 => ?_)
      · skip
        have hje : j = sg := Nat.le_antisymm hj (vz_ge c_11 (by omega) (by omega))
        refine lv_lload_n hx hb dX7_partsOf_38 rfl (lv_at hl 1 rfl) ?_
        refine lv_ldc2 (v := 12252240) hx hb hown (hts (.constantLong RX7 147 (12252240)) (List.mem_of_getElem? (i := 2) rfl)) dX7_partsOf_39 ?_
        refine lv_aload_n hx hb dX7_partsOf_42 rfl (lv_at hl 2 rfl) ?_
        refine lv_iload_n hx hb dX7_partsOf_43 rfl (lv_at hl 4 rfl) ?_
        refine vp_callSi (W.runV (As := [.int p1]) (rest := [.long 12252240, .long acc]) ⟨hx, hb, hml, hown, hts⟩ (c_X7_sharesOf l D cI g pm rm rr st sg rn bg la ws pr ry hm xu xl sn kp kr kb kl kw kh hc pg rd rw ro be he kro khe p1 (by first | assumption | omega)) (cwV 1 hts gX7_partsOf_X7_sharesOf rfl rfl rfl (by decide +kernel) ⟨Nat.le_of_ble_eq_true rfl, Nat.le_of_ble_eq_true rfl⟩) (vz_pvR (va_recv hK hP (ci := 7) (q0 := 0) rfl rfl) hZ hP) rfl rfl hl.1 rfl (lv_room (Nat.le_of_ble_eq_true rfl)) dX7_partsOf_44 ⟨Nat.zero_le _, Nat.zero_le _⟩) (fun r_44 hr_44 => ?_)
        subst hr_44
        refine lv_i2l (v := (mo_shs sg rw p1 : Int32).toInt64) hx hb dX7_partsOf_47 rfl ?_
        refine lv_ldiv hx hb dX7_partsOf_48 (hne) ?_
        refine lv_lmul hx hb dX7_partsOf_49 ?_
        exact W.lret hx hb hr (fun t ht hW => ⟨_, rfl, (by rw [mo_pts, hacc, hje]), ht⟩) (fun q h => absurd h List.not_mem_nil) dX7_partsOf_50
      · skip
        have hlt : j < sg := vz_lt c_11 (by omega)
        refine lv_lload_n hx hb dX7_partsOf_14 rfl (lv_at hl 1 rfl) ?_
        refine lv_iload_n hx hb dX7_partsOf_15 rfl (lv_at hl 3 rfl) ?_
        refine lv_iload hx hb dX7_partsOf_16 (lv_at hl 0 rfl) ?_
        refine lv_ishr hx hb dX7_partsOf_18 ?_
        refine lv_iconst (v := 1) hx hb dX7_partsOf_19 (by decide) ?_
        refine lv_iand hx hb dX7_partsOf_20 ?_
        refine lv_aload_n hx hb dX7_partsOf_21 rfl (lv_at hl 2 rfl) ?_
        refine lv_iload hx hb dX7_partsOf_22 (lv_at hl 0 rfl) ?_
        refine lv_iload_n hx hb dX7_partsOf_24 rfl (lv_at hl 4 rfl) ?_
        refine vp_callSi (W.runV (As := [.int (nI j), .int p1]) (rest := [.int ((p0 >>> ((nI j) &&& 31)) &&& 1), .long acc]) ⟨hx, hb, hml, hown, hts⟩ (c_X7_shareOf l D cI g pm rm rr st sg rn bg la ws pr ry hm xu xl sn kp kr kb kl kw kh hc pg rd rw ro be he kro khe j p1 (by first | assumption | omega) (by first | assumption | omega)) (cwV 2 hts gX7_partsOf_X7_shareOf rfl rfl rfl (by decide +kernel) ⟨Nat.le_of_ble_eq_true rfl, Nat.le_of_ble_eq_true rfl⟩) (vz_pvR (va_recv hK hP (ci := 7) (q0 := 0) rfl rfl) hZ hP) rfl rfl hl.1 rfl (lv_room (Nat.le_of_ble_eq_true rfl)) dX7_partsOf_25 ⟨Nat.zero_le _, Nat.zero_le _⟩) (fun r_25 hr_25 => ?_)
        subst hr_25
        refine lv_imul hx hb dX7_partsOf_28 ?_
        refine lv_i2l (v := (((p0 >>> ((nI j) &&& 31)) &&& 1) * (mo_sh sg rw j p1) : Int32).toInt64) hx hb dX7_partsOf_29 rfl ?_
        refine lv_ladd hx hb dX7_partsOf_30 ?_
        refine lv_lstore_n (lv' := [(3, .long (acc + ((((p0 >>> ((nI j) &&& 31)) &&& 1) * (mo_sh sg rw j p1) : Int32).toInt64))), (5, .int (nI j)), (0, .ref (g 0)), (1, .int p0), (2, .int p1)]) hx hb dX7_partsOf_31 rfl hl (by decide) rfl (fun ls hl => ?_)
        refine lv_iinc (v := nI (j + 1)) (lv' := [(5, .int (nI (j + 1))), (3, .long (acc + ((((p0 >>> ((nI j) &&& 31)) &&& 1) * (mo_sh sg rw j p1) : Int32).toInt64))), (0, .ref (g 0)), (1, .int p0), (2, .int p1)]) hx hb dX7_partsOf_32 hl (k := 1) rfl (vz_inc _) (by decide) rfl (fun ls hl => ?_)
        refine lv_goto (tgt := 5) hx hb dX7_partsOf_35 (by decide) ?_
        exact ih_5 (j + 1) (acc + ((((p0 >>> ((nI j) &&& 31)) &&& 1) * (mo_sh sg rw j p1) : Int32).toInt64)) (by omega) (by omega) (by rw [mo_pt, hacc]) ls (lv_sub hl [0, 1, 2, 3, 4] rfl)
  exact L_5 _ 0 0 (Nat.lt_succ_self _) (Nat.zero_le _) rfl ls (lv_sub hl [0, 1, 2, 3, 4] rfl)
set_option maxHeartbeats 4000000 in
set_option maxRecDepth 100000 in
theorem c_X7_behindOne (l : Launch) (D : va_G) (cI : ClassId) (g : Nat → Nat) (pm : Nat) (rm : Nat) (rr : Int32) (st : Nat) (sg : Nat) (rn : Int32) (bg : Int32) (la : Int32) (ws : Bool) (pr : Nat) (ry : Nat) (hm : Nat) (xu : Int64) (xl : Int64) (sn : Int32) (kp : Int32) (kr : Int32) (kb : Int32) (kl : Int32) (kw : Bool) (kh : Nat) (hc : Int64) (pg : Nat → Int32) (rd : Nat → Int32) (rw : Nat → Int32) (ro : Nat → Int32) (be : Nat → Int32) (he : Nat → Int32) (kro : Nat → Int32) (khe : Nat → Int32) (p0 : Nat) (p1 : Int32) (hsg : sg ≤ 6) (hs : p0 < sg) (hN1 : ¬ (mo_shs sg rw (mo_may sg rw rn (bk_bag sg bg (nI p0)) (nI p0))).toInt64 = 0) (hN2 : ∀ j : Nat, j < sg → ¬ (mo_shs sg rw (mo_may sg rw rn (bk_bag sg (bk_bag sg bg (nI p0)) (nI j)) (nI j))).toInt64 = 0) : Met l yX7_behindOne wsX7_behindOne ({ frames := 5, cells := 0, slots := 0, locals := 114 } : Room) (vz_ro D cI (zM cI g pm rm rr st sg rn bg la ws pr ry hm xu xl sn kp kr kb kl kw kh hc pg rd rw ro be he kro khe) [.ref (g 0), .int (nI p0), .int p1]) (vp_Sl (fun r => r = bo_r sg rw rn bg p0 p1)) 0 0 (fun _ => False) := by
  refine Met.ofW (cc := cX7_behindOne) (maxL := 11) (ret := (some .long)) (by decide) rfl ?_
  intro p e s m args below meth c s₁ B hml hv
  obtain ⟨rfl, hP, hZ⟩ := hv
  obtain ⟨hK, hN⟩ := id hZ
  have hx := B.exec
  have hb := B.bytes
  have hr := B.returns
  have hts := atoms_spec (ws := wsX7_behindOne) B.pre
  have hown : s.vm.findClass RX7 = some m.cls := findClass_of_methodNamed B.named
  have hlocks := B.notSynchronized
  have k73 := hts (.fieldLink RX7 73 "SongsAgainModel" "songs" "I") (List.mem_of_getElem? (i := 3) rfl)
  have k76 := hts (.fieldLink RX7 76 "SongsAgainModel" "ruleNow" "I") (List.mem_of_getElem? (i := 2) rfl)
  have k82 := hts (.fieldLink RX7 82 "SongsAgainModel" "bag" "I") (List.mem_of_getElem? (i := 1) rfl)
  have iX7 : ∀ w ∈ u_ws RX7 TX7 30, w ∈ wsX7_behindOne := vz_in (i := 46) (n := 30) rfl
  have hl := lv_entry ([.ref (g 0), .int (nI p0), .int p1]) (n := 11) (Nat.le_of_ble_eq_true rfl)
  rw [lg_entry_eq]
  generalize (lg_sl ([.ref (g 0), .int (nI p0), .int p1]) ++ List.replicate (11 - (lg_sl ([.ref (g 0), .int (nI p0), .int p1])).length) Slot.unset).toArray = ls at hl ⊢
  have hl : lv_has ls 11 [(0, .ref (g 0)), (1, .int (nI p0)), (2, .int p1)] := hl
  refine lv_aload_n hx hb dX7_behindOne_0 rfl (lv_at hl 0 rfl) ?_
  refine lv_aload_n hx hb dX7_behindOne_1 rfl (lv_at hl 0 rfl) ?_
  refine va_get (D := D) (ci := 7) (v := .int bg) (C := RX7) (T := TX7) (N := 30) hx hb hts iX7 hown hK hP 0 rfl rfl 8 (by decide) k82 (fun _ h9 => h9) rfl dX7_behindOne_2 ?_
  refine lv_iload_n hx hb dX7_behindOne_5 rfl (lv_at hl 1 rfl) ?_
  refine vp_callSi (W.runV (As := [.int bg, .int (nI p0)]) (rest := []) ⟨hx, hb, hml, hown, hts⟩ (c_X7_bagBehind l D cI g pm rm rr st sg rn bg la ws pr ry hm xu xl sn kp kr kb kl kw kh hc pg rd rw ro be he kro khe bg (nI p0)) (cwV 2 hts gX7_behindOne_X7_bagBehind rfl rfl rfl (by decide +kernel) ⟨Nat.le_of_ble_eq_true rfl, Nat.le_of_ble_eq_true rfl⟩) (vz_pvR (va_recv hK hP (ci := 7) (q0 := 0) rfl rfl) hZ hP) rfl rfl hl.1 rfl (lv_room (Nat.le_of_ble_eq_true rfl)) dX7_behindOne_6 ⟨Nat.zero_le _, Nat.zero_le _⟩) (fun r_6 hr_6 => ?_)
  subst hr_6
  refine lv_istore_n (lv' := [(3, .int (bk_bag sg bg (nI p0))), (0, .ref (g 0)), (1, .int (nI p0)), (2, .int p1)]) hx hb dX7_behindOne_9 rfl hl (by decide) rfl (fun ls hl => ?_)
  refine lv_aload_n hx hb dX7_behindOne_10 rfl (lv_at hl 1 rfl) ?_
  refine lv_aload_n hx hb dX7_behindOne_11 rfl (lv_at hl 1 rfl) ?_
  refine va_get (D := D) (ci := 7) (v := .int rn) (C := RX7) (T := TX7) (N := 30) hx hb hts iX7 hown hK hP 0 rfl rfl 7 (by decide) k76 (fun _ h9 => h9) rfl dX7_behindOne_12 ?_
  refine lv_iload_n hx hb dX7_behindOne_15 rfl (lv_at hl 0 rfl) ?_
  refine lv_iload_n hx hb dX7_behindOne_16 rfl (lv_at hl 2 rfl) ?_
  refine vp_callSi (W.runV (As := [.int rn, .int (bk_bag sg bg (nI p0)), .int (nI p0)]) (rest := []) ⟨hx, hb, hml, hown, hts⟩ (c_X7_mayBy l D cI g pm rm rr st sg rn bg la ws pr ry hm xu xl sn kp kr kb kl kw kh hc pg rd rw ro be he kro khe rn (bk_bag sg bg (nI p0)) (nI p0) (by first | assumption | omega) (Or.inr ⟨p0, hs, rfl⟩)) (cwV 3 hts gX7_behindOne_X7_mayBy rfl rfl rfl (by decide +kernel) ⟨Nat.le_of_ble_eq_true rfl, Nat.le_of_ble_eq_true rfl⟩) (vz_pvR (va_recv hK hP (ci := 7) (q0 := 0) rfl rfl) hZ hP) rfl rfl hl.1 rfl (lv_room (Nat.le_of_ble_eq_true rfl)) dX7_behindOne_17 ⟨Nat.zero_le _, Nat.zero_le _⟩) (fun r_17 hr_17 => ?_)
  subst hr_17
  refine lv_istore (lv' := [(4, .int (mo_may sg rw rn (bk_bag sg bg (nI p0)) (nI p0))), (3, .int (bk_bag sg bg (nI p0))), (0, .ref (g 0)), (1, .int (nI p0)), (2, .int p1)]) hx hb dX7_behindOne_20 hl (by decide) rfl (fun ls hl => ?_)
  refine lv_iload_n hx hb dX7_behindOne_22 rfl (lv_at hl 4 rfl) ?_
  refine lv_iconst (v := 1) hx hb dX7_behindOne_23 (by decide) ?_
  refine lv_icmp_ne (tgt := 37) hx hb dX7_behindOne_24 (by decide) (fun c_24 => ?_) (fun c_24 => ?_)
  · skip
    refine lv_lconst (v := 0) hx hb dX7_behindOne_37 (by decide) ?_
    refine lv_lstore (lv' := [(5, .long 0), (4, .int (mo_may sg rw rn (bk_bag sg bg (nI p0)) (nI p0))), (3, .int (bk_bag sg bg (nI p0))), (0, .ref (g 0)), (1, .int (nI p0)), (2, .int p1)]) hx hb dX7_behindOne_38 hl (by decide) rfl (fun ls hl => ?_)
    refine lv_iconst (v := 0) hx hb dX7_behindOne_40 (by decide) ?_
    refine lv_istore (lv' := [(7, .int 0), (5, .long 0), (4, .int (mo_may sg rw rn (bk_bag sg bg (nI p0)) (nI p0))), (3, .int (bk_bag sg bg (nI p0))), (0, .ref (g 0)), (1, .int (nI p0)), (2, .int p1)]) hx hb dX7_behindOne_41 hl (by decide) rfl (fun ls hl => ?_)
    have L_43 : ∀ (d_43 : Nat) (j : Nat) (acc : Int64), sg - j < d_43 → (j ≤ sg) → (acc = bo sg rw rn bg p0 j) → ∀ (ls : Array Slot), lv_has ls 11 [(7, .int (nI j)), (5, .long acc), (4, .int (mo_may sg rw rn (bk_bag sg bg (nI p0)) (nI p0))), (3, .int (bk_bag sg bg (nI p0))), (0, .ref (g 0)), (1, .int (nI p0)), (2, .int p1)] → W p l e ({ frames := 5, cells := 0, slots := 0, locals := 114 } : Room) s m ([.ref (g 0), .int (nI p0), .int p1] : List Value).toArray below meth c s.heap [] 0 0 (MQ below (vp_Sl (fun r => r = bo_r sg rw rn bg p0 p1)) ([.ref (g 0), .int (nI p0), .int p1] : List Value).toArray s 0 0 (fun _ => False)) (F0 m 43 ls []) := by
      intro d_43
      induction d_43 with
      | zero => intro j acc hd; exact absurd hd (Nat.not_lt_zero _)
      | succ d_43 ih_43 =>
        intro j acc hd_43 hj hacc ls hl
        refine lv_iload hx hb dX7_behindOne_43 (lv_at hl 0 rfl) ?_
        refine lv_aload_n hx hb dX7_behindOne_45 rfl (lv_at hl 4 rfl) ?_
        refine va_get (D := D) (ci := 7) (v := .int (nI sg)) (C := RX7) (T := TX7) (N := 30) hx hb hts iX7 hown hK hP 0 rfl rfl 6 (by decide) k73 (fun _ h9 => h9) rfl dX7_behindOne_46 ?_
        refine lv_icmp_ge (tgt := 122) hx hb dX7_behindOne_49 (by decide) (fun c_49 => ?_) (fun c_49 => ?_)
        · skip
          have hje : j = sg := Nat.le_antisymm hj (vz_ge c_49 (by omega) (by omega))
          refine lv_lload hx hb dX7_behindOne_122 (lv_at hl 1 rfl) ?_
          refine lv_ldc2 (v := 12252240) hx hb hown (hts (.constantLong RX7 147 (12252240)) (List.mem_of_getElem? (i := 4) rfl)) dX7_behindOne_124 ?_
          refine lv_aload_n hx hb dX7_behindOne_127 rfl (lv_at hl 4 rfl) ?_
          refine lv_iload hx hb dX7_behindOne_128 (lv_at hl 2 rfl) ?_
          refine vp_callSi (W.runV (As := [.int (mo_may sg rw rn (bk_bag sg bg (nI p0)) (nI p0))]) (rest := [.long 12252240, .long acc]) ⟨hx, hb, hml, hown, hts⟩ (c_X7_sharesOf l D cI g pm rm rr st sg rn bg la ws pr ry hm xu xl sn kp kr kb kl kw kh hc pg rd rw ro be he kro khe (mo_may sg rw rn (bk_bag sg bg (nI p0)) (nI p0)) (by first | assumption | omega)) (cwV 1 hts gX7_behindOne_X7_sharesOf rfl rfl rfl (by decide +kernel) ⟨Nat.le_of_ble_eq_true rfl, Nat.le_of_ble_eq_true rfl⟩) (vz_pvR (va_recv hK hP (ci := 7) (q0 := 0) rfl rfl) hZ hP) rfl rfl hl.1 rfl (lv_room (Nat.le_of_ble_eq_true rfl)) dX7_behindOne_130 ⟨Nat.zero_le _, Nat.zero_le _⟩) (fun r_130 hr_130 => ?_)
          subst hr_130
          refine lv_i2l (v := (mo_shs sg rw (mo_may sg rw rn (bk_bag sg bg (nI p0)) (nI p0)) : Int32).toInt64) hx hb dX7_behindOne_133 rfl ?_
          refine lv_ldiv hx hb dX7_behindOne_134 (hN1) ?_
          refine lv_lmul hx hb dX7_behindOne_135 ?_
          exact W.lret hx hb hr (fun t ht hW => ⟨_, rfl, (by simp only [bo_r, c_24, ↓reduceIte] ; rw [hacc, hje]), ht⟩) (fun q h => absurd h List.not_mem_nil) dX7_behindOne_136
        · skip
          have hlt : j < sg := vz_lt c_49 (by omega)
          refine lv_aload_n hx hb dX7_behindOne_52 rfl (lv_at hl 4 rfl) ?_
          refine lv_aload_n hx hb dX7_behindOne_53 rfl (lv_at hl 4 rfl) ?_
          refine va_get (D := D) (ci := 7) (v := .int rn) (C := RX7) (T := TX7) (N := 30) hx hb hts iX7 hown hK hP 0 rfl rfl 7 (by decide) k76 (fun _ h9 => h9) rfl dX7_behindOne_54 ?_
          refine lv_aload_n hx hb dX7_behindOne_57 rfl (lv_at hl 4 rfl) ?_
          refine lv_iload_n hx hb dX7_behindOne_58 rfl (lv_at hl 3 rfl) ?_
          refine lv_iload hx hb dX7_behindOne_59 (lv_at hl 0 rfl) ?_
          refine vp_callSi (W.runV (As := [.int (bk_bag sg bg (nI p0)), .int (nI j)]) (rest := [.int rn, .ref (g 0)]) ⟨hx, hb, hml, hown, hts⟩ (c_X7_bagBehind l D cI g pm rm rr st sg rn bg la ws pr ry hm xu xl sn kp kr kb kl kw kh hc pg rd rw ro be he kro khe (bk_bag sg bg (nI p0)) (nI j)) (cwV 2 hts gX7_behindOne_X7_bagBehind rfl rfl rfl (by decide +kernel) ⟨Nat.le_of_ble_eq_true rfl, Nat.le_of_ble_eq_true rfl⟩) (vz_pvR (va_recv hK hP (ci := 7) (q0 := 0) rfl rfl) hZ hP) rfl rfl hl.1 rfl (lv_room (Nat.le_of_ble_eq_true rfl)) dX7_behindOne_61 ⟨Nat.zero_le _, Nat.zero_le _⟩) (fun r_61 hr_61 => ?_)
          subst hr_61
          refine lv_iload hx hb dX7_behindOne_64 (lv_at hl 0 rfl) ?_
          refine vp_callSi (W.runV (As := [.int rn, .int (bk_bag sg (bk_bag sg bg (nI p0)) (nI j)), .int (nI j)]) (rest := []) ⟨hx, hb, hml, hown, hts⟩ (c_X7_mayBy l D cI g pm rm rr st sg rn bg la ws pr ry hm xu xl sn kp kr kb kl kw kh hc pg rd rw ro be he kro khe rn (bk_bag sg (bk_bag sg bg (nI p0)) (nI j)) (nI j) (by first | assumption | omega) (Or.inr ⟨j, hlt, rfl⟩)) (cwV 3 hts gX7_behindOne_X7_mayBy rfl rfl rfl (by decide +kernel) ⟨Nat.le_of_ble_eq_true rfl, Nat.le_of_ble_eq_true rfl⟩) (vz_pvR (va_recv hK hP (ci := 7) (q0 := 0) rfl rfl) hZ hP) rfl rfl hl.1 rfl (lv_room (Nat.le_of_ble_eq_true rfl)) dX7_behindOne_66 ⟨Nat.zero_le _, Nat.zero_le _⟩) (fun r_66 hr_66 => ?_)
          subst hr_66
          refine lv_istore (lv' := [(8, .int (mo_may sg rw rn (bk_bag sg (bk_bag sg bg (nI p0)) (nI j)) (nI j))), (7, .int (nI j)), (5, .long acc), (4, .int (mo_may sg rw rn (bk_bag sg bg (nI p0)) (nI p0))), (3, .int (bk_bag sg bg (nI p0))), (0, .ref (g 0)), (1, .int (nI p0)), (2, .int p1)]) hx hb dX7_behindOne_69 hl (by decide) rfl (fun ls hl => ?_)
          refine lv_iload hx hb dX7_behindOne_71 (lv_at hl 1 rfl) ?_
          refine lv_iload_n hx hb dX7_behindOne_73 rfl (lv_at hl 6 rfl) ?_
          refine lv_icmp_ne (tgt := 83) hx hb dX7_behindOne_74 (by decide) (fun c_74 => ?_) (fun c_74 => ?_)
          · skip
            refine lv_aload_n hx hb dX7_behindOne_83 rfl (lv_at hl 5 rfl) ?_
            refine lv_iconst (v := 1) hx hb dX7_behindOne_84 (by decide) ?_
            refine lv_iload_n hx hb dX7_behindOne_85 rfl (lv_at hl 6 rfl) ?_
            refine lv_ishl hx hb dX7_behindOne_86 ?_
            refine lv_iconst (v := 1) hx hb dX7_behindOne_87 (by decide) ?_
            refine lv_iload hx hb dX7_behindOne_88 (lv_at hl 1 rfl) ?_
            refine lv_ishl hx hb dX7_behindOne_90 ?_
            refine lv_ior hx hb dX7_behindOne_91 ?_
            refine lv_iload hx hb dX7_behindOne_92 (lv_at hl 0 rfl) ?_
            refine vp_callSl (W.runV (As := [.int ((1 <<< ((nI p0) &&& 31)) ||| (1 <<< ((nI j) &&& 31))), .int (mo_may sg rw rn (bk_bag sg (bk_bag sg bg (nI p0)) (nI j)) (nI j))]) (rest := []) ⟨hx, hb, hml, hown, hts⟩ (c_X7_partsOf l D cI g pm rm rr st sg rn bg la ws pr ry hm xu xl sn kp kr kb kl kw kh hc pg rd rw ro be he kro khe ((1 <<< ((nI p0) &&& 31)) ||| (1 <<< ((nI j) &&& 31))) (mo_may sg rw rn (bk_bag sg (bk_bag sg bg (nI p0)) (nI j)) (nI j)) (by first | assumption | omega) (hN2 j hlt)) (cwV 2 hts gX7_behindOne_X7_partsOf rfl rfl rfl (by decide +kernel) ⟨Nat.le_of_ble_eq_true rfl, Nat.le_of_ble_eq_true rfl⟩) (vz_pvR (va_recv hK hP (ci := 7) (q0 := 0) rfl rfl) hZ hP) rfl rfl hl.1 rfl (lv_room (Nat.le_of_ble_eq_true rfl)) dX7_behindOne_94 ⟨Nat.zero_le _, Nat.zero_le _⟩) (fun r_94 hr_94 => ?_)
            subst hr_94
            refine lv_lstore (lv' := [(9, .long (mo_pts sg rw ((1 <<< ((nI p0) &&& 31)) ||| (1 <<< ((nI j) &&& 31))) (mo_may sg rw rn (bk_bag sg (bk_bag sg bg (nI p0)) (nI j)) (nI j)))), (8, .int (mo_may sg rw rn (bk_bag sg (bk_bag sg bg (nI p0)) (nI j)) (nI j))), (7, .int (nI j)), (5, .long acc), (4, .int (mo_may sg rw rn (bk_bag sg bg (nI p0)) (nI p0))), (3, .int (bk_bag sg bg (nI p0))), (0, .ref (g 0)), (1, .int (nI p0)), (2, .int p1)]) hx hb dX7_behindOne_97 hl (by decide) rfl (fun ls hl => ?_)
            refine lv_lload hx hb dX7_behindOne_99 (lv_at hl 3 rfl) ?_
            refine lv_aload_n hx hb dX7_behindOne_101 rfl (lv_at hl 6 rfl) ?_
            refine lv_iload hx hb dX7_behindOne_102 (lv_at hl 2 rfl) ?_
            refine lv_iload hx hb dX7_behindOne_104 (lv_at hl 4 rfl) ?_
            refine vp_callSi (W.runV (As := [.int (nI j), .int (mo_may sg rw rn (bk_bag sg bg (nI p0)) (nI p0))]) (rest := [.long acc]) ⟨hx, hb, hml, hown, hts⟩ (c_X7_shareOf l D cI g pm rm rr st sg rn bg la ws pr ry hm xu xl sn kp kr kb kl kw kh hc pg rd rw ro be he kro khe j (mo_may sg rw rn (bk_bag sg bg (nI p0)) (nI p0)) (by first | assumption | omega) (by first | assumption | omega)) (cwV 2 hts gX7_behindOne_X7_shareOf rfl rfl rfl (by decide +kernel) ⟨Nat.le_of_ble_eq_true rfl, Nat.le_of_ble_eq_true rfl⟩) (vz_pvR (va_recv hK hP (ci := 7) (q0 := 0) rfl rfl) hZ hP) rfl rfl hl.1 rfl (lv_room (Nat.le_of_ble_eq_true rfl)) dX7_behindOne_106 ⟨Nat.zero_le _, Nat.zero_le _⟩) (fun r_106 hr_106 => ?_)
            subst hr_106
            refine lv_i2l (v := (mo_sh sg rw j (mo_may sg rw rn (bk_bag sg bg (nI p0)) (nI p0)) : Int32).toInt64) hx hb dX7_behindOne_109 rfl ?_
            refine lv_lload hx hb dX7_behindOne_110 (lv_at hl 0 rfl) ?_
            refine lv_lmul hx hb dX7_behindOne_112 ?_
            refine lv_ladd hx hb dX7_behindOne_113 ?_
            refine lv_lstore (lv' := [(5, .long (acc + (((mo_sh sg rw j (mo_may sg rw rn (bk_bag sg bg (nI p0)) (nI p0)) : Int32).toInt64) * (mo_pts sg rw ((1 <<< ((nI p0) &&& 31)) ||| (1 <<< ((nI j) &&& 31))) (mo_may sg rw rn (bk_bag sg (bk_bag sg bg (nI p0)) (nI j)) (nI j)))))), (9, .long (mo_pts sg rw ((1 <<< ((nI p0) &&& 31)) ||| (1 <<< ((nI j) &&& 31))) (mo_may sg rw rn (bk_bag sg (bk_bag sg bg (nI p0)) (nI j)) (nI j)))), (8, .int (mo_may sg rw rn (bk_bag sg (bk_bag sg bg (nI p0)) (nI j)) (nI j))), (7, .int (nI j)), (4, .int (mo_may sg rw rn (bk_bag sg bg (nI p0)) (nI p0))), (3, .int (bk_bag sg bg (nI p0))), (0, .ref (g 0)), (1, .int (nI p0)), (2, .int p1)]) hx hb dX7_behindOne_114 hl (by decide) rfl (fun ls hl => ?_)
            refine lv_iinc (v := nI (j + 1)) (lv' := [(7, .int (nI (j + 1))), (5, .long (acc + (((mo_sh sg rw j (mo_may sg rw rn (bk_bag sg bg (nI p0)) (nI p0)) : Int32).toInt64) * (mo_pts sg rw ((1 <<< ((nI p0) &&& 31)) ||| (1 <<< ((nI j) &&& 31))) (mo_may sg rw rn (bk_bag sg (bk_bag sg bg (nI p0)) (nI j)) (nI j)))))), (9, .long (mo_pts sg rw ((1 <<< ((nI p0) &&& 31)) ||| (1 <<< ((nI j) &&& 31))) (mo_may sg rw rn (bk_bag sg (bk_bag sg bg (nI p0)) (nI j)) (nI j)))), (8, .int (mo_may sg rw rn (bk_bag sg (bk_bag sg bg (nI p0)) (nI j)) (nI j))), (4, .int (mo_may sg rw rn (bk_bag sg bg (nI p0)) (nI p0))), (3, .int (bk_bag sg bg (nI p0))), (0, .ref (g 0)), (1, .int (nI p0)), (2, .int p1)]) hx hb dX7_behindOne_116 hl (k := 3) rfl (vz_inc _) (by decide) rfl (fun ls hl => ?_)
            refine lv_goto (tgt := 43) hx hb dX7_behindOne_119 (by decide) ?_
            exact ih_43 (j + 1) (acc + (((mo_sh sg rw j (mo_may sg rw rn (bk_bag sg bg (nI p0)) (nI p0)) : Int32).toInt64) * (mo_pts sg rw ((1 <<< ((nI p0) &&& 31)) ||| (1 <<< ((nI j) &&& 31))) (mo_may sg rw rn (bk_bag sg (bk_bag sg bg (nI p0)) (nI j)) (nI j))))) (by omega) (by omega) (by rw [bo, hacc] ; simp only [c_24, c_49, c_74, ↓reduceIte]) ls (lv_sub hl [0, 1, 4, 5, 6, 7, 8] rfl)
          · skip
            refine lv_ldc2 (v := 12252240) hx hb hown (hts (.constantLong RX7 147 (12252240)) (List.mem_of_getElem? (i := 4) rfl)) dX7_behindOne_77 ?_
            refine lv_goto (tgt := 97) hx hb dX7_behindOne_80 (by decide) ?_
            refine lv_lstore (lv' := [(9, .long 12252240), (8, .int (mo_may sg rw rn (bk_bag sg (bk_bag sg bg (nI p0)) (nI j)) (nI j))), (7, .int (nI j)), (5, .long acc), (4, .int (mo_may sg rw rn (bk_bag sg bg (nI p0)) (nI p0))), (3, .int (bk_bag sg bg (nI p0))), (0, .ref (g 0)), (1, .int (nI p0)), (2, .int p1)]) hx hb dX7_behindOne_97 hl (by decide) rfl (fun ls hl => ?_)
            refine lv_lload hx hb dX7_behindOne_99 (lv_at hl 3 rfl) ?_
            refine lv_aload_n hx hb dX7_behindOne_101 rfl (lv_at hl 6 rfl) ?_
            refine lv_iload hx hb dX7_behindOne_102 (lv_at hl 2 rfl) ?_
            refine lv_iload hx hb dX7_behindOne_104 (lv_at hl 4 rfl) ?_
            refine vp_callSi (W.runV (As := [.int (nI j), .int (mo_may sg rw rn (bk_bag sg bg (nI p0)) (nI p0))]) (rest := [.long acc]) ⟨hx, hb, hml, hown, hts⟩ (c_X7_shareOf l D cI g pm rm rr st sg rn bg la ws pr ry hm xu xl sn kp kr kb kl kw kh hc pg rd rw ro be he kro khe j (mo_may sg rw rn (bk_bag sg bg (nI p0)) (nI p0)) (by first | assumption | omega) (by first | assumption | omega)) (cwV 2 hts gX7_behindOne_X7_shareOf rfl rfl rfl (by decide +kernel) ⟨Nat.le_of_ble_eq_true rfl, Nat.le_of_ble_eq_true rfl⟩) (vz_pvR (va_recv hK hP (ci := 7) (q0 := 0) rfl rfl) hZ hP) rfl rfl hl.1 rfl (lv_room (Nat.le_of_ble_eq_true rfl)) dX7_behindOne_106 ⟨Nat.zero_le _, Nat.zero_le _⟩) (fun r_106 hr_106 => ?_)
            subst hr_106
            refine lv_i2l (v := (mo_sh sg rw j (mo_may sg rw rn (bk_bag sg bg (nI p0)) (nI p0)) : Int32).toInt64) hx hb dX7_behindOne_109 rfl ?_
            refine lv_lload hx hb dX7_behindOne_110 (lv_at hl 0 rfl) ?_
            refine lv_lmul hx hb dX7_behindOne_112 ?_
            refine lv_ladd hx hb dX7_behindOne_113 ?_
            refine lv_lstore (lv' := [(5, .long (acc + (((mo_sh sg rw j (mo_may sg rw rn (bk_bag sg bg (nI p0)) (nI p0)) : Int32).toInt64) * 12252240))), (9, .long 12252240), (8, .int (mo_may sg rw rn (bk_bag sg (bk_bag sg bg (nI p0)) (nI j)) (nI j))), (7, .int (nI j)), (4, .int (mo_may sg rw rn (bk_bag sg bg (nI p0)) (nI p0))), (3, .int (bk_bag sg bg (nI p0))), (0, .ref (g 0)), (1, .int (nI p0)), (2, .int p1)]) hx hb dX7_behindOne_114 hl (by decide) rfl (fun ls hl => ?_)
            refine lv_iinc (v := nI (j + 1)) (lv' := [(7, .int (nI (j + 1))), (5, .long (acc + (((mo_sh sg rw j (mo_may sg rw rn (bk_bag sg bg (nI p0)) (nI p0)) : Int32).toInt64) * 12252240))), (9, .long 12252240), (8, .int (mo_may sg rw rn (bk_bag sg (bk_bag sg bg (nI p0)) (nI j)) (nI j))), (4, .int (mo_may sg rw rn (bk_bag sg bg (nI p0)) (nI p0))), (3, .int (bk_bag sg bg (nI p0))), (0, .ref (g 0)), (1, .int (nI p0)), (2, .int p1)]) hx hb dX7_behindOne_116 hl (k := 3) rfl (vz_inc _) (by decide) rfl (fun ls hl => ?_)
            refine lv_goto (tgt := 43) hx hb dX7_behindOne_119 (by decide) ?_
            exact ih_43 (j + 1) (acc + (((mo_sh sg rw j (mo_may sg rw rn (bk_bag sg bg (nI p0)) (nI p0)) : Int32).toInt64) * 12252240)) (by omega) (by omega) (by rw [bo, hacc] ; simp only [c_24, c_49, c_74, ↓reduceIte]) ls (lv_sub hl [0, 1, 4, 5, 6, 7, 8] rfl)
    exact L_43 _ 0 0 (Nat.lt_succ_self _) (Nat.zero_le _) rfl ls (lv_sub hl [0, 1, 2, 3, 4, 5, 6] rfl)
  · skip
    refine lv_aload_n hx hb dX7_behindOne_27 rfl (lv_at hl 2 rfl) ?_
    refine lv_iconst (v := 1) hx hb dX7_behindOne_28 (by decide) ?_
    refine lv_iload_n hx hb dX7_behindOne_29 rfl (lv_at hl 3 rfl) ?_
    refine lv_ishl hx hb dX7_behindOne_30 ?_
    refine lv_iload hx hb dX7_behindOne_31 (lv_at hl 0 rfl) ?_
    refine vp_callSl (W.runV (As := [.int (1 <<< ((nI p0) &&& 31)), .int (mo_may sg rw rn (bk_bag sg bg (nI p0)) (nI p0))]) (rest := []) ⟨hx, hb, hml, hown, hts⟩ (c_X7_partsOf l D cI g pm rm rr st sg rn bg la ws pr ry hm xu xl sn kp kr kb kl kw kh hc pg rd rw ro be he kro khe (1 <<< ((nI p0) &&& 31)) (mo_may sg rw rn (bk_bag sg bg (nI p0)) (nI p0)) (by first | assumption | omega) hN1) (cwV 2 hts gX7_behindOne_X7_partsOf rfl rfl rfl (by decide +kernel) ⟨Nat.le_of_ble_eq_true rfl, Nat.le_of_ble_eq_true rfl⟩) (vz_pvR (va_recv hK hP (ci := 7) (q0 := 0) rfl rfl) hZ hP) rfl rfl hl.1 rfl (lv_room (Nat.le_of_ble_eq_true rfl)) dX7_behindOne_33 ⟨Nat.zero_le _, Nat.zero_le _⟩) (fun r_33 hr_33 => ?_)
    subst hr_33
    exact W.lret hx hb hr (fun t ht hW => ⟨_, rfl, (by first | rfl | (simp only [bo_r, if_pos c_24]; done) | (simp only [bo_r, if_pos c_24]; rfl) | (simp only [bo_r, c_24, ↓reduceIte, Bool.false_eq_true, if_true, if_false, reduceCtorEq, not_true_eq_false, not_false_eq_true, eq_self]; done) | (simp only [bo_r, c_24, ↓reduceIte, Bool.false_eq_true, if_true, if_false, reduceCtorEq, not_true_eq_false, not_false_eq_true, eq_self]; rfl) | (simp [bo_r, c_24]; done)), ht⟩) (fun q h => absurd h List.not_mem_nil) dX7_behindOne_36
set_option maxHeartbeats 4000000 in
set_option maxRecDepth 100000 in
theorem c_X7_twiceOf (l : Launch) (D : va_G) (cI : ClassId) (g : Nat → Nat) (pm : Nat) (rm : Nat) (rr : Int32) (st : Nat) (sg : Nat) (rn : Int32) (bg : Int32) (la : Int32) (ws : Bool) (pr : Nat) (ry : Nat) (hm : Nat) (xu : Int64) (xl : Int64) (sn : Int32) (kp : Int32) (kr : Int32) (kb : Int32) (kl : Int32) (kw : Bool) (kh : Nat) (hc : Int64) (pg : Nat → Int32) (rd : Nat → Int32) (rw : Nat → Int32) (ro : Nat → Int32) (be : Nat → Int32) (he : Nat → Int32) (kro : Nat → Int32) (khe : Nat → Int32) (p0 : Int32) (p1 : Int32) (hsg : sg ≤ 6) (hbf : la = -1 ∨ ∃ b : Nat, b < sg ∧ la = nI b) (hN1 : ∀ i : Nat, i < sg → ¬ (mo_shs sg rw (mo_may sg rw rn (bk_bag sg bg (nI i)) (nI i))).toInt64 = 0) (hN2 : ∀ i j : Nat, i < sg → j < sg → ¬ (mo_shs sg rw (mo_may sg rw rn (bk_bag sg (bk_bag sg bg (nI i)) (nI j)) (nI j))).toInt64 = 0) (hT : mTw (to_low sg rw (mo_may sg rw rn bg la) p0) (to_up sg rw rn bg (mo_may sg rw rn bg la) p0 sg)) : Met l yX7_twiceOf wsX7_twiceOf ({ frames := 6, cells := 0, slots := 0, locals := 144 } : Room) (vz_ro D cI (zM cI g pm rm rr st sg rn bg la ws pr ry hm xu xl sn kp kr kb kl kw kh hc pg rd rw ro be he kro khe) [.ref (g 0), .int p0, .int p1]) (vp_Sl (fun r => r = to_r sg rw rn bg la p0 p1)) 0 0 (fun _ => False) := by
  refine Met.ofW (cc := cX7_twiceOf) (maxL := 10) (ret := (some .long)) (by decide) rfl ?_
  intro p e s m args below meth c s₁ B hml hv
  obtain ⟨rfl, hP, hZ⟩ := hv
  obtain ⟨hK, hN⟩ := id hZ
  have hx := B.exec
  have hb := B.bytes
  have hr := B.returns
  have hts := atoms_spec (ws := wsX7_twiceOf) B.pre
  have hown : s.vm.findClass RX7 = some m.cls := findClass_of_methodNamed B.named
  have hlocks := B.notSynchronized
  have k73 := hts (.fieldLink RX7 73 "SongsAgainModel" "songs" "I") (List.mem_of_getElem? (i := 1) rfl)
  have iX7 : ∀ w ∈ u_ws RX7 TX7 30, w ∈ wsX7_twiceOf := vz_in (i := 58) (n := 30) rfl
  have hl := lv_entry ([.ref (g 0), .int p0, .int p1]) (n := 10) (Nat.le_of_ble_eq_true rfl)
  rw [lg_entry_eq]
  generalize (lg_sl ([.ref (g 0), .int p0, .int p1]) ++ List.replicate (10 - (lg_sl ([.ref (g 0), .int p0, .int p1])).length) Slot.unset).toArray = ls at hl ⊢
  have hl : lv_has ls 10 [(0, .ref (g 0)), (1, .int p0), (2, .int p1)] := hl
  refine lv_aload_n hx hb dX7_twiceOf_0 rfl (lv_at hl 0 rfl) ?_
  refine vp_callSi (W.runV (As := []) (rest := []) ⟨hx, hb, hml, hown, hts⟩ (c_X7_mayNow l D cI g pm rm rr st sg rn bg la ws pr ry hm xu xl sn kp kr kb kl kw kh hc pg rd rw ro be he kro khe (by first | assumption | omega) (by first | assumption | omega)) (cwV 0 hts gX7_twiceOf_X7_mayNow rfl rfl rfl (by decide +kernel) ⟨Nat.le_of_ble_eq_true rfl, Nat.le_of_ble_eq_true rfl⟩) (vz_pvR (va_recv hK hP (ci := 7) (q0 := 0) rfl rfl) hZ hP) rfl rfl hl.1 rfl (lv_room (Nat.le_of_ble_eq_true rfl)) dX7_twiceOf_1 ⟨Nat.zero_le _, Nat.zero_le _⟩) (fun r_1 hr_1 => ?_)
  subst hr_1
  refine lv_istore_n (lv' := [(3, .int (mo_may sg rw rn bg la)), (0, .ref (g 0)), (1, .int p0), (2, .int p1)]) hx hb dX7_twiceOf_4 rfl hl (by decide) rfl (fun ls hl => ?_)
  refine lv_lconst (v := 0) hx hb dX7_twiceOf_5 (by decide) ?_
  refine lv_lstore (lv' := [(4, .long 0), (3, .int (mo_may sg rw rn bg la)), (0, .ref (g 0)), (1, .int p0), (2, .int p1)]) hx hb dX7_twiceOf_6 hl (by decide) rfl (fun ls hl => ?_)
  refine lv_iconst (v := 0) hx hb dX7_twiceOf_8 (by decide) ?_
  refine lv_istore (lv' := [(6, .int 0), (4, .long 0), (3, .int (mo_may sg rw rn bg la)), (0, .ref (g 0)), (1, .int p0), (2, .int p1)]) hx hb dX7_twiceOf_9 hl (by decide) rfl (fun ls hl => ?_)
  have L_11 : ∀ (d_11 : Nat) (j : Nat) (acc : Int64), sg - j < d_11 → (j ≤ sg) → (acc = to_up sg rw rn bg (mo_may sg rw rn bg la) p0 j) → ∀ (ls : Array Slot), lv_has ls 10 [(6, .int (nI j)), (4, .long acc), (3, .int (mo_may sg rw rn bg la)), (0, .ref (g 0)), (1, .int p0), (2, .int p1)] → W p l e ({ frames := 6, cells := 0, slots := 0, locals := 144 } : Room) s m ([.ref (g 0), .int p0, .int p1] : List Value).toArray below meth c s.heap [] 0 0 (MQ below (vp_Sl (fun r => r = to_r sg rw rn bg la p0 p1)) ([.ref (g 0), .int p0, .int p1] : List Value).toArray s 0 0 (fun _ => False)) (F0 m 11 ls []) := by
    intro d_11
    induction d_11 with
    | zero => intro j acc hd; exact absurd hd (Nat.not_lt_zero _)
    | succ d_11 ih_11 =>
      intro j acc hd_11 hj hacc ls hl
      refine lv_iload hx hb dX7_twiceOf_11 (lv_at hl 0 rfl) ?_
      refine lv_aload_n hx hb dX7_twiceOf_13 rfl (lv_at hl 3 rfl) ?_
      refine va_get (D := D) (ci := 7) (v := .int (nI sg)) (C := RX7) (T := TX7) (N := 30) hx hb hts iX7 hown hK hP 0 rfl rfl 6 (by decide) k73 (fun _ h9 => h9) rfl dX7_twiceOf_14 ?_
      refine lv_icmp_ge (tgt := 49) hx hb dX7_twiceOf_17 (by decide) (fun c_17 => ?_) (fun c_17 => ?_)
      · skip
        have hje : j = sg := Nat.le_antisymm hj (vz_ge c_17 (by omega) (by omega))
        have hacc2 := hacc
        rw [hje] at hacc2
        refine lv_aload_n hx hb dX7_twiceOf_49 rfl (lv_at hl 3 rfl) ?_
        refine lv_iload_n hx hb dX7_twiceOf_50 rfl (lv_at hl 2 rfl) ?_
        refine vp_callSi (W.runV (As := [.int (mo_may sg rw rn bg la)]) (rest := []) ⟨hx, hb, hml, hown, hts⟩ (c_X7_sharesOf l D cI g pm rm rr st sg rn bg la ws pr ry hm xu xl sn kp kr kb kl kw kh hc pg rd rw ro be he kro khe (mo_may sg rw rn bg la) (by first | assumption | omega)) (cwV 1 hts gX7_twiceOf_X7_sharesOf rfl rfl rfl (by decide +kernel) ⟨Nat.le_of_ble_eq_true rfl, Nat.le_of_ble_eq_true rfl⟩) (vz_pvR (va_recv hK hP (ci := 7) (q0 := 0) rfl rfl) hZ hP) rfl rfl hl.1 rfl (lv_room (Nat.le_of_ble_eq_true rfl)) dX7_twiceOf_51 ⟨Nat.zero_le _, Nat.zero_le _⟩) (fun r_51 hr_51 => ?_)
        subst hr_51
        refine lv_i2l (v := (mo_shs sg rw (mo_may sg rw rn bg la) : Int32).toInt64) hx hb dX7_twiceOf_54 rfl ?_
        refine lv_ldc2 (v := 12252240) hx hb hown (hts (.constantLong RX7 147 (12252240)) (List.mem_of_getElem? (i := 2) rfl)) dX7_twiceOf_55 ?_
        refine lv_lmul hx hb dX7_twiceOf_58 ?_
        refine lv_iload_n hx hb dX7_twiceOf_59 rfl (lv_at hl 4 rfl) ?_
        refine lv_iconst (v := 3) hx hb dX7_twiceOf_60 (by decide) ?_
        have J_71 : ∀ (z9 : Int64), z9 = to_k p0 → W p l e ({ frames := 6, cells := 0, slots := 0, locals := 144 } : Room) s m ([.ref (g 0), .int p0, .int p1] : List Value).toArray below meth c s.heap [] 0 0 (MQ below (vp_Sl (fun r => r = to_r sg rw rn bg la p0 p1)) ([.ref (g 0), .int p0, .int p1] : List Value).toArray s 0 0 (fun _ => False)) (F0 m 71 ls [.long z9, .long (((mo_shs sg rw (mo_may sg rw rn bg la) : Int32).toInt64) * 12252240)]) := by
          intro z9 hz9
          subst hz9
          refine lv_lmul hx hb dX7_twiceOf_71 ?_
          refine lv_lstore (lv' := [(6, .long ((((mo_shs sg rw (mo_may sg rw rn bg la) : Int32).toInt64) * 12252240) * (to_k p0))), (4, .long acc), (3, .int (mo_may sg rw rn bg la)), (0, .ref (g 0)), (1, .int p0), (2, .int p1)]) hx hb dX7_twiceOf_72 hl (by decide) rfl (fun ls hl => ?_)
          refine lv_lload hx hb dX7_twiceOf_74 (lv_at hl 0 rfl) ?_
          refine W.eq (congrArg (fun z => F0 m 76 ls (.long z :: [])) (mTw_3 hT)) ?_
          refine lv_lload hx hb dX7_twiceOf_76 (lv_at hl 1 rfl) ?_
          refine W.eq (congrArg (fun z => F0 m 78 ls (.long z :: [.long (lN (n64 (to_low sg rw (mo_may sg rw rn bg la) p0)))])) (hacc2.trans (mTw_4 hT))) ?_
          refine vp_callSl (W.runS (As := [.long (lN (n64 (to_low sg rw (mo_may sg rw rn bg la) p0))), .long (lN (n64 (to_up sg rw rn bg (mo_may sg rw rn bg la) p0 sg)))]) (rest := []) ⟨hx, hb, hml, hown, hts⟩ (c_X7_common l (n64 (to_low sg rw (mo_may sg rw rn bg la) p0)) (n64 (to_up sg rw rn bg (mo_may sg rw rn bg la) p0 sg)) (mTw_1 hT) (mTw_2 hT)) (va_cwS 2 hts gX7_twiceOf_X7_common rfl rfl rfl (by decide +kernel) ⟨Nat.le_of_ble_eq_true rfl, Nat.le_of_ble_eq_true rfl⟩) (vz_psS) rfl rfl hl.1 rfl (lv_room (Nat.le_of_ble_eq_true rfl)) dX7_twiceOf_78 ⟨Nat.zero_le _, Nat.zero_le _⟩) (fun r_78 hr_78 => ?_)
          subst hr_78
          refine lv_lstore (lv' := [(8, .long (lN (Nat.gcd (n64 (to_low sg rw (mo_may sg rw rn bg la) p0)) (n64 (to_up sg rw rn bg (mo_may sg rw rn bg la) p0 sg))))), (6, .long ((((mo_shs sg rw (mo_may sg rw rn bg la) : Int32).toInt64) * 12252240) * (to_k p0))), (4, .long acc), (3, .int (mo_may sg rw rn bg la)), (0, .ref (g 0)), (1, .int p0), (2, .int p1)]) hx hb dX7_twiceOf_81 hl (by decide) rfl (fun ls hl => ?_)
          refine lv_iload_n hx hb dX7_twiceOf_83 rfl (lv_at hl 6 rfl) ?_
          refine lv_if_ne (tgt := 95) hx hb dX7_twiceOf_84 (by decide) (fun c_84 => ?_) (fun c_84 => ?_)
          · skip
            refine lv_lload hx hb dX7_twiceOf_95 (lv_at hl 1 rfl) ?_
            refine lv_lload hx hb dX7_twiceOf_97 (lv_at hl 0 rfl) ?_
            refine lv_ldiv hx hb dX7_twiceOf_99 (mTw_5 hT) ?_
            exact W.lret hx hb hr (fun t ht hW => ⟨_, rfl, (by first | (rw [hacc2, to_r, if_pos c_84] ; done) | (rw [to_r, if_neg c_84] ; rfl)), ht⟩) (fun q h => absurd h List.not_mem_nil) dX7_twiceOf_100
          · skip
            refine lv_lload hx hb dX7_twiceOf_87 (lv_at hl 2 rfl) ?_
            refine lv_lload hx hb dX7_twiceOf_89 (lv_at hl 0 rfl) ?_
            refine lv_ldiv hx hb dX7_twiceOf_91 (mTw_5 hT) ?_
            refine lv_goto (tgt := 100) hx hb dX7_twiceOf_92 (by decide) ?_
            exact W.lret hx hb hr (fun t ht hW => ⟨_, rfl, (by first | (rw [hacc2, to_r, if_pos c_84] ; done) | (rw [to_r, if_neg c_84] ; rfl)), ht⟩) (fun q h => absurd h List.not_mem_nil) dX7_twiceOf_100
        refine lv_icmp_ne (tgt := 70) hx hb dX7_twiceOf_61 (by decide) (fun c_61 => ?_) (fun c_61 => ?_)
        · skip
          refine lv_lconst (v := 1) hx hb dX7_twiceOf_70 (by decide) ?_
          exact J_71 _ (by first | rfl | (simp only [to_k, if_neg c_61]; done) | (simp only [to_k, if_neg c_61]; rfl) | (simp only [to_k, c_61, ↓reduceIte, Bool.false_eq_true, if_true, if_false, reduceCtorEq, not_true_eq_false, not_false_eq_true, eq_self]; done) | (simp [to_k, c_61]; done))
        · skip
          refine lv_ldc2 (v := 12252240) hx hb hown (hts (.constantLong RX7 147 (12252240)) (List.mem_of_getElem? (i := 2) rfl)) dX7_twiceOf_64 ?_
          refine lv_goto (tgt := 71) hx hb dX7_twiceOf_67 (by decide) ?_
          exact J_71 _ (by first | rfl | (simp only [to_k, if_pos c_61]; done) | (simp only [to_k, if_pos c_61]; rfl) | (simp only [to_k, c_61, ↓reduceIte, Bool.false_eq_true, if_true, if_false, reduceCtorEq, not_true_eq_false, not_false_eq_true, eq_self]; done) | (simp [to_k, c_61]; done))
      · skip
        have hlt : j < sg := vz_lt c_17 (by omega)
        refine lv_lload hx hb dX7_twiceOf_20 (lv_at hl 1 rfl) ?_
        refine lv_aload_n hx hb dX7_twiceOf_22 rfl (lv_at hl 3 rfl) ?_
        refine lv_iload hx hb dX7_twiceOf_23 (lv_at hl 0 rfl) ?_
        refine lv_iload_n hx hb dX7_twiceOf_25 rfl (lv_at hl 2 rfl) ?_
        refine vp_callSi (W.runV (As := [.int (nI j), .int (mo_may sg rw rn bg la)]) (rest := [.long acc]) ⟨hx, hb, hml, hown, hts⟩ (c_X7_shareOf l D cI g pm rm rr st sg rn bg la ws pr ry hm xu xl sn kp kr kb kl kw kh hc pg rd rw ro be he kro khe j (mo_may sg rw rn bg la) (by first | assumption | omega) (by first | assumption | omega)) (cwV 2 hts gX7_twiceOf_X7_shareOf rfl rfl rfl (by decide +kernel) ⟨Nat.le_of_ble_eq_true rfl, Nat.le_of_ble_eq_true rfl⟩) (vz_pvR (va_recv hK hP (ci := 7) (q0 := 0) rfl rfl) hZ hP) rfl rfl hl.1 rfl (lv_room (Nat.le_of_ble_eq_true rfl)) dX7_twiceOf_26 ⟨Nat.zero_le _, Nat.zero_le _⟩) (fun r_26 hr_26 => ?_)
        subst hr_26
        refine lv_i2l (v := (mo_sh sg rw j (mo_may sg rw rn bg la) : Int32).toInt64) hx hb dX7_twiceOf_29 rfl ?_
        refine lv_aload_n hx hb dX7_twiceOf_30 rfl (lv_at hl 3 rfl) ?_
        refine lv_iload hx hb dX7_twiceOf_31 (lv_at hl 0 rfl) ?_
        refine lv_iload_n hx hb dX7_twiceOf_33 rfl (lv_at hl 4 rfl) ?_
        refine lv_iconst (v := 1) hx hb dX7_twiceOf_34 (by decide) ?_
        refine lv_isub hx hb dX7_twiceOf_35 ?_
        refine vp_callSl (W.runV (As := [.int (nI j), .int (p0 - 1)]) (rest := [.long ((mo_sh sg rw j (mo_may sg rw rn bg la) : Int32).toInt64), .long acc]) ⟨hx, hb, hml, hown, hts⟩ (c_X7_behindOne l D cI g pm rm rr st sg rn bg la ws pr ry hm xu xl sn kp kr kb kl kw kh hc pg rd rw ro be he kro khe j (p0 - 1) (by first | assumption | omega) (by first | assumption | omega) (hN1 j hlt) (fun q hq => hN2 j q hlt hq)) (cwV 2 hts gX7_twiceOf_X7_behindOne rfl rfl rfl (by decide +kernel) ⟨Nat.le_of_ble_eq_true rfl, Nat.le_of_ble_eq_true rfl⟩) (vz_pvR (va_recv hK hP (ci := 7) (q0 := 0) rfl rfl) hZ hP) rfl rfl hl.1 rfl (lv_room (Nat.le_of_ble_eq_true rfl)) dX7_twiceOf_36 ⟨Nat.zero_le _, Nat.zero_le _⟩) (fun r_36 hr_36 => ?_)
        subst hr_36
        refine lv_lmul hx hb dX7_twiceOf_39 ?_
        refine lv_ladd hx hb dX7_twiceOf_40 ?_
        refine lv_lstore (lv' := [(4, .long (acc + (((mo_sh sg rw j (mo_may sg rw rn bg la) : Int32).toInt64) * (bo_r sg rw rn bg j (p0 - 1))))), (6, .int (nI j)), (3, .int (mo_may sg rw rn bg la)), (0, .ref (g 0)), (1, .int p0), (2, .int p1)]) hx hb dX7_twiceOf_41 hl (by decide) rfl (fun ls hl => ?_)
        refine lv_iinc (v := nI (j + 1)) (lv' := [(6, .int (nI (j + 1))), (4, .long (acc + (((mo_sh sg rw j (mo_may sg rw rn bg la) : Int32).toInt64) * (bo_r sg rw rn bg j (p0 - 1))))), (3, .int (mo_may sg rw rn bg la)), (0, .ref (g 0)), (1, .int p0), (2, .int p1)]) hx hb dX7_twiceOf_43 hl (k := 1) rfl (vz_inc _) (by decide) rfl (fun ls hl => ?_)
        refine lv_goto (tgt := 11) hx hb dX7_twiceOf_46 (by decide) ?_
        exact ih_11 (j + 1) (acc + (((mo_sh sg rw j (mo_may sg rw rn bg la) : Int32).toInt64) * (bo_r sg rw rn bg j (p0 - 1)))) (by omega) (by omega) (by rw [to_up, hacc]) ls (lv_sub hl [0, 1, 2, 3, 4, 5] rfl)
  exact L_11 _ 0 0 (Nat.lt_succ_self _) (Nat.zero_le _) rfl ls (lv_sub hl [0, 1, 2, 3, 4, 5] rfl)

set_option maxHeartbeats 4000000 in
set_option maxRecDepth 100000 in
theorem c_X7_common (l : Launch) (xa : Nat) (xb : Nat) (hA63 : xa < 2 ^ 63) (hB63 : xb < 2 ^ 63) : Met l yX7_common wsX7_common ({ frames := 0, cells := 0, slots := 0, locals := 0 } : Room) (vz_st [.long (lN xa), .long (lN xb)]) (vp_Sl (fun r => r = lN (Nat.gcd xa xb))) 0 0 (fun _ => False) := by
  refine Met.ofW (cc := cX7_common) (maxL := 10) (ret := (some .long)) (by decide) rfl ?_
  intro p e s m args below meth c s₁ B hml hv
  obtain ⟨rfl, -⟩ := hv
  have hx := B.exec
  have hb := B.bytes
  have hr := B.returns
  have hts := atoms_spec (ws := wsX7_common) B.pre
  have hown : s.vm.findClass RX7 = some m.cls := findClass_of_methodNamed B.named
  have hlocks := B.notSynchronized
  have hl := lv_entry ([.long (lN xa), .long (lN xb)]) (n := 10) (Nat.le_of_ble_eq_true rfl)
  rw [lg_entry_eq]
  generalize (lg_sl ([.long (lN xa), .long (lN xb)]) ++ List.replicate (10 - (lg_sl ([.long (lN xa), .long (lN xb)])).length) Slot.unset).toArray = ls at hl ⊢
  have hl : lv_has ls 10 [(0, .long (lN xa)), (2, .long (lN xb))] := hl
  refine lv_lload_n hx hb dX7_common_0 rfl (lv_at hl 0 rfl) ?_
  refine lv_lstore (lv' := [(4, .long (lN xa)), (0, .long (lN xa)), (2, .long (lN xb))]) hx hb dX7_common_1 hl (by decide) rfl (fun ls hl => ?_)
  refine lv_lload_n hx hb dX7_common_3 rfl (lv_at hl 2 rfl) ?_
  refine lv_lstore (lv' := [(6, .long (lN xb)), (4, .long (lN xa)), (0, .long (lN xa)), (2, .long (lN xb))]) hx hb dX7_common_4 hl (by decide) rfl (fun ls hl => ?_)
  have L_6 : ∀ (d_6 : Nat) (x : Nat) (y : Nat), y < d_6 → (Nat.gcd x y = Nat.gcd xa xb) → (x < 2 ^ 63) → (y < 2 ^ 63) → ∀ (ls : Array Slot), lv_has ls 10 [(6, .long (lN y)), (4, .long (lN x)), (0, .long (lN xa)), (2, .long (lN xb))] → W p l e ({ frames := 0, cells := 0, slots := 0, locals := 0 } : Room) s m ([.long (lN xa), .long (lN xb)] : List Value).toArray below meth c s.heap [] 0 0 (MQ below (vp_Sl (fun r => r = lN (Nat.gcd xa xb))) ([.long (lN xa), .long (lN xb)] : List Value).toArray s 0 0 (fun _ => False)) (F0 m 6 ls []) := by
    intro d_6
    induction d_6 with
    | zero => intro x y hd; exact absurd hd (Nat.not_lt_zero _)
    | succ d_6 ih_6 =>
      intro x y hd_6 hg hx63 hy63 ls hl
      refine lv_lload hx hb dX7_common_6 (lv_at hl 0 rfl) ?_
      refine lv_lconst (v := 0) hx hb dX7_common_8 (by decide) ?_
      refine W.lcmp hx hb dX7_common_9 ?_
      refine lv_if_le (tgt := 31) hx hb dX7_common_10 (by decide) (fun c_10 => ?_) (fun c_10 => ?_)
      · skip
        replace c_10 := (lg_cmp_le _ _).mp c_10
        have hy0 : y = 0 := vz_l0 c_10 hy63
        refine lv_lload hx hb dX7_common_31 (lv_at hl 1 rfl) ?_
        exact W.lret hx hb hr (fun t ht hW => ⟨_, rfl, (by rw [← hg, hy0, Nat.gcd_zero_right]), ht⟩) (fun q h => absurd h List.not_mem_nil) dX7_common_33
      · skip
        replace c_10 := mt (lg_cmp_le _ _).mpr c_10
        have hy0 : 0 < y := vz_lp c_10
        refine lv_lload hx hb dX7_common_13 (lv_at hl 1 rfl) ?_
        refine lv_lload hx hb dX7_common_15 (lv_at hl 0 rfl) ?_
        refine lv_lrem hx hb dX7_common_17 (fun q => c_10 (by rw [q] ; decide)) ?_
        refine W.eq (congrArg (fun z => F0 m 18 ls (.long z :: [])) (pk_lRem hx63 hy0 hy63)) ?_
        refine lv_lstore (lv' := [(8, .long (lN (x % y))), (6, .long (lN y)), (4, .long (lN x)), (0, .long (lN xa)), (2, .long (lN xb))]) hx hb dX7_common_18 hl (by decide) rfl (fun ls hl => ?_)
        refine lv_lload hx hb dX7_common_20 (lv_at hl 1 rfl) ?_
        refine lv_lstore (lv' := [(4, .long (lN y)), (8, .long (lN (x % y))), (6, .long (lN y)), (0, .long (lN xa)), (2, .long (lN xb))]) hx hb dX7_common_22 hl (by decide) rfl (fun ls hl => ?_)
        refine lv_lload hx hb dX7_common_24 (lv_at hl 1 rfl) ?_
        refine lv_lstore (lv' := [(6, .long (lN (x % y))), (4, .long (lN y)), (8, .long (lN (x % y))), (0, .long (lN xa)), (2, .long (lN xb))]) hx hb dX7_common_26 hl (by decide) rfl (fun ls hl => ?_)
        refine lv_goto (tgt := 6) hx hb dX7_common_28 (by decide) ?_
        exact ih_6 y (x % y) (by have := Nat.mod_lt x hy0 ; omega) (by rw [← hg, Nat.gcd_comm x y, Nat.gcd_rec y x, Nat.gcd_comm]) hy63 (by have := Nat.mod_lt x hy0 ; omega) ls (lv_sub hl [0, 1, 3, 4] rfl)
  exact L_6 _ xa xb (Nat.lt_succ_self _) (Eq.refl (Nat.gcd xa xb)) hA63 hB63 ls (lv_sub hl [0, 1, 2, 3] rfl)
set_option maxHeartbeats 4000000 in
set_option maxRecDepth 100000 in
theorem c_X7_chanceOf (l : Launch) (D : va_G) (cI : ClassId) (g : Nat → Nat) (pm : Nat) (rm : Nat) (rr : Int32) (st : Nat) (sg : Nat) (rn : Int32) (bg : Int32) (la : Int32) (ws : Bool) (pr : Nat) (ry : Nat) (hm : Nat) (xu : Int64) (xl : Int64) (sn : Int32) (kp : Int32) (kr : Int32) (kb : Int32) (kl : Int32) (kw : Bool) (kh : Nat) (hc : Int64) (pg : Nat → Int32) (rd : Nat → Int32) (rw : Nat → Int32) (ro : Nat → Int32) (be : Nat → Int32) (he : Nat → Int32) (kro : Nat → Int32) (khe : Nat → Int32) (p0 : Nat) (p1 : Int32) (hsg : sg ≤ 6) (hs : p0 < sg) (hbf : la = -1 ∨ ∃ b : Nat, b < sg ∧ la = nI b) (hM : mSh sg rw (mo_may sg rw rn bg la)) : Met l yX7_chanceOf wsX7_chanceOf ({ frames := 4, cells := 0, slots := 0, locals := 89 } : Room) (vz_ro D cI (zM cI g pm rm rr st sg rn bg la ws pr ry hm xu xl sn kp kr kb kl kw kh hc pg rd rw ro be he kro khe) [.ref (g 0), .int (nI p0), .int p1]) (vp_Si (fun r => r = mc_r (mo_sh sg rw p0 (mo_may sg rw rn bg la)) (mo_shs sg rw (mo_may sg rw rn bg la)) (Nat.gcd (n32 (mo_shs sg rw (mo_may sg rw rn bg la))) (n32 (mo_sh sg rw p0 (mo_may sg rw rn bg la)))) p1)) 0 0 (fun _ => False) := by
  refine Met.ofW (cc := cX7_chanceOf) (maxL := 5) (ret := (some .int)) (by decide) rfl ?_
  intro p e s m args below meth c s₁ B hml hv
  obtain ⟨rfl, hP, hZ⟩ := hv
  obtain ⟨hK, hN⟩ := id hZ
  have hx := B.exec
  have hb := B.bytes
  have hr := B.returns
  have hts := atoms_spec (ws := wsX7_chanceOf) B.pre
  have hown : s.vm.findClass RX7 = some m.cls := findClass_of_methodNamed B.named
  have hlocks := B.notSynchronized
  have hl := lv_entry ([.ref (g 0), .int (nI p0), .int p1]) (n := 5) (Nat.le_of_ble_eq_true rfl)
  rw [lg_entry_eq]
  generalize (lg_sl ([.ref (g 0), .int (nI p0), .int p1]) ++ List.replicate (5 - (lg_sl ([.ref (g 0), .int (nI p0), .int p1])).length) Slot.unset).toArray = ls at hl ⊢
  have hl : lv_has ls 5 [(0, .ref (g 0)), (1, .int (nI p0)), (2, .int p1)] := hl
  refine lv_aload_n hx hb dX7_chanceOf_0 rfl (lv_at hl 0 rfl) ?_
  refine vp_callSi (W.runV (As := []) (rest := []) ⟨hx, hb, hml, hown, hts⟩ (c_X7_mayNow l D cI g pm rm rr st sg rn bg la ws pr ry hm xu xl sn kp kr kb kl kw kh hc pg rd rw ro be he kro khe (by first | assumption | omega) (by first | assumption | omega)) (cwV 0 hts gX7_chanceOf_X7_mayNow rfl rfl rfl (by decide +kernel) ⟨Nat.le_of_ble_eq_true rfl, Nat.le_of_ble_eq_true rfl⟩) (vz_pvR (va_recv hK hP (ci := 7) (q0 := 0) rfl rfl) hZ hP) rfl rfl hl.1 rfl (lv_room (Nat.le_of_ble_eq_true rfl)) dX7_chanceOf_1 ⟨Nat.zero_le _, Nat.zero_le _⟩) (fun r_1 hr_1 => ?_)
  subst hr_1
  refine lv_istore_n (lv' := [(3, .int (mo_may sg rw rn bg la)), (0, .ref (g 0)), (1, .int (nI p0)), (2, .int p1)]) hx hb dX7_chanceOf_4 rfl hl (by decide) rfl (fun ls hl => ?_)
  refine lv_aload_n hx hb dX7_chanceOf_5 rfl (lv_at hl 1 rfl) ?_
  refine lv_iload_n hx hb dX7_chanceOf_6 rfl (lv_at hl 0 rfl) ?_
  refine vp_callSi (W.runV (As := [.int (mo_may sg rw rn bg la)]) (rest := []) ⟨hx, hb, hml, hown, hts⟩ (c_X7_sharesOf l D cI g pm rm rr st sg rn bg la ws pr ry hm xu xl sn kp kr kb kl kw kh hc pg rd rw ro be he kro khe (mo_may sg rw rn bg la) (by first | assumption | omega)) (cwV 1 hts gX7_chanceOf_X7_sharesOf rfl rfl rfl (by decide +kernel) ⟨Nat.le_of_ble_eq_true rfl, Nat.le_of_ble_eq_true rfl⟩) (vz_pvR (va_recv hK hP (ci := 7) (q0 := 0) rfl rfl) hZ hP) rfl rfl hl.1 rfl (lv_room (Nat.le_of_ble_eq_true rfl)) dX7_chanceOf_7 ⟨Nat.zero_le _, Nat.zero_le _⟩) (fun r_7 hr_7 => ?_)
  subst hr_7
  refine lv_i2l (v := (mo_shs sg rw (mo_may sg rw rn bg la) : Int32).toInt64) hx hb dX7_chanceOf_10 rfl ?_
  refine W.eq (congrArg (fun z => F0 m 11 ls (.long z :: [])) (mSh_1 hM)) ?_
  refine lv_aload_n hx hb dX7_chanceOf_11 rfl (lv_at hl 1 rfl) ?_
  refine lv_iload_n hx hb dX7_chanceOf_12 rfl (lv_at hl 2 rfl) ?_
  refine lv_iload_n hx hb dX7_chanceOf_13 rfl (lv_at hl 0 rfl) ?_
  refine vp_callSi (W.runV (As := [.int (nI p0), .int (mo_may sg rw rn bg la)]) (rest := [.long (lN (n32 (mo_shs sg rw (mo_may sg rw rn bg la))))]) ⟨hx, hb, hml, hown, hts⟩ (c_X7_shareOf l D cI g pm rm rr st sg rn bg la ws pr ry hm xu xl sn kp kr kb kl kw kh hc pg rd rw ro be he kro khe p0 (mo_may sg rw rn bg la) (by first | assumption | omega) (by first | assumption | omega)) (cwV 2 hts gX7_chanceOf_X7_shareOf rfl rfl rfl (by decide +kernel) ⟨Nat.le_of_ble_eq_true rfl, Nat.le_of_ble_eq_true rfl⟩) (vz_pvR (va_recv hK hP (ci := 7) (q0 := 0) rfl rfl) hZ hP) rfl rfl hl.1 rfl (lv_room (Nat.le_of_ble_eq_true rfl)) dX7_chanceOf_14 ⟨Nat.zero_le _, Nat.zero_le _⟩) (fun r_14 hr_14 => ?_)
  subst hr_14
  refine lv_i2l (v := (mo_sh sg rw p0 (mo_may sg rw rn bg la) : Int32).toInt64) hx hb dX7_chanceOf_17 rfl ?_
  refine W.eq (congrArg (fun z => F0 m 18 ls (.long z :: [.long (lN (n32 (mo_shs sg rw (mo_may sg rw rn bg la))))])) (mSh_2 hM hs)) ?_
  refine vp_callSl (W.runS (As := [.long (lN (n32 (mo_shs sg rw (mo_may sg rw rn bg la)))), .long (lN (n32 (mo_sh sg rw p0 (mo_may sg rw rn bg la))))]) (rest := []) ⟨hx, hb, hml, hown, hts⟩ (c_X7_common l (n32 (mo_shs sg rw (mo_may sg rw rn bg la))) (n32 (mo_sh sg rw p0 (mo_may sg rw rn bg la))) (mSh_3 hM) (mSh_4 hM hs)) (va_cwS 2 hts gX7_chanceOf_X7_common rfl rfl rfl (by decide +kernel) ⟨Nat.le_of_ble_eq_true rfl, Nat.le_of_ble_eq_true rfl⟩) (vz_psS) rfl rfl hl.1 rfl (lv_room (Nat.le_of_ble_eq_true rfl)) dX7_chanceOf_18 ⟨Nat.zero_le _, Nat.zero_le _⟩) (fun r_18 hr_18 => ?_)
  subst hr_18
  refine lv_l2i (v := (lN (Nat.gcd (n32 (mo_shs sg rw (mo_may sg rw rn bg la))) (n32 (mo_sh sg rw p0 (mo_may sg rw rn bg la)))) : Int64).toInt32) hx hb dX7_chanceOf_21 rfl ?_
  refine W.eq (congrArg (fun z => F0 m 22 ls (.int z :: [])) (lN_i _)) ?_
  refine lv_istore (lv' := [(4, .int (nI (Nat.gcd (n32 (mo_shs sg rw (mo_may sg rw rn bg la))) (n32 (mo_sh sg rw p0 (mo_may sg rw rn bg la)))))), (3, .int (mo_may sg rw rn bg la)), (0, .ref (g 0)), (1, .int (nI p0)), (2, .int p1)]) hx hb dX7_chanceOf_22 hl (by decide) rfl (fun ls hl => ?_)
  refine lv_iload_n hx hb dX7_chanceOf_24 rfl (lv_at hl 4 rfl) ?_
  refine lv_if_ne (tgt := 40) hx hb dX7_chanceOf_25 (by decide) (fun c_25 => ?_) (fun c_25 => ?_)
  · skip
    refine lv_aload_n hx hb dX7_chanceOf_40 rfl (lv_at hl 2 rfl) ?_
    refine lv_iload_n hx hb dX7_chanceOf_41 rfl (lv_at hl 1 rfl) ?_
    refine vp_callSi (W.runV (As := [.int (mo_may sg rw rn bg la)]) (rest := []) ⟨hx, hb, hml, hown, hts⟩ (c_X7_sharesOf l D cI g pm rm rr st sg rn bg la ws pr ry hm xu xl sn kp kr kb kl kw kh hc pg rd rw ro be he kro khe (mo_may sg rw rn bg la) (by first | assumption | omega)) (cwV 1 hts gX7_chanceOf_X7_sharesOf rfl rfl rfl (by decide +kernel) ⟨Nat.le_of_ble_eq_true rfl, Nat.le_of_ble_eq_true rfl⟩) (vz_pvR (va_recv hK hP (ci := 7) (q0 := 0) rfl rfl) hZ hP) rfl rfl hl.1 rfl (lv_room (Nat.le_of_ble_eq_true rfl)) dX7_chanceOf_42 ⟨Nat.zero_le _, Nat.zero_le _⟩) (fun r_42 hr_42 => ?_)
    subst hr_42
    refine lv_iload hx hb dX7_chanceOf_45 (lv_at hl 0 rfl) ?_
    refine lv_idiv hx hb dX7_chanceOf_47 (mSh_5 hM hs) ?_
    exact W.iret hx hb hr (fun t ht hW => ⟨_, rfl, (by first | rfl | (simp only [mc_r, if_neg c_25]; done) | (simp only [mc_r, if_neg c_25]; rfl) | (simp only [mc_r, c_25, ↓reduceIte, Bool.false_eq_true, if_true, if_false, reduceCtorEq, not_true_eq_false, not_false_eq_true, eq_self]; done) | (simp only [mc_r, c_25, ↓reduceIte, Bool.false_eq_true, if_true, if_false, reduceCtorEq, not_true_eq_false, not_false_eq_true, eq_self]; rfl) | (simp [mc_r, c_25]; done)), ht⟩) (fun q h => absurd h List.not_mem_nil) dX7_chanceOf_48
  · skip
    refine lv_aload_n hx hb dX7_chanceOf_28 rfl (lv_at hl 2 rfl) ?_
    refine lv_iload_n hx hb dX7_chanceOf_29 rfl (lv_at hl 3 rfl) ?_
    refine lv_iload_n hx hb dX7_chanceOf_30 rfl (lv_at hl 1 rfl) ?_
    refine vp_callSi (W.runV (As := [.int (nI p0), .int (mo_may sg rw rn bg la)]) (rest := []) ⟨hx, hb, hml, hown, hts⟩ (c_X7_shareOf l D cI g pm rm rr st sg rn bg la ws pr ry hm xu xl sn kp kr kb kl kw kh hc pg rd rw ro be he kro khe p0 (mo_may sg rw rn bg la) (by first | assumption | omega) (by first | assumption | omega)) (cwV 2 hts gX7_chanceOf_X7_shareOf rfl rfl rfl (by decide +kernel) ⟨Nat.le_of_ble_eq_true rfl, Nat.le_of_ble_eq_true rfl⟩) (vz_pvR (va_recv hK hP (ci := 7) (q0 := 0) rfl rfl) hZ hP) rfl rfl hl.1 rfl (lv_room (Nat.le_of_ble_eq_true rfl)) dX7_chanceOf_31 ⟨Nat.zero_le _, Nat.zero_le _⟩) (fun r_31 hr_31 => ?_)
    subst hr_31
    refine lv_iload hx hb dX7_chanceOf_34 (lv_at hl 0 rfl) ?_
    refine lv_idiv hx hb dX7_chanceOf_36 (mSh_5 hM hs) ?_
    refine lv_goto (tgt := 48) hx hb dX7_chanceOf_37 (by decide) ?_
    exact W.iret hx hb hr (fun t ht hW => ⟨_, rfl, (by first | rfl | (simp only [mc_r, if_pos c_25]; done) | (simp only [mc_r, if_pos c_25]; rfl) | (simp only [mc_r, c_25, ↓reduceIte, Bool.false_eq_true, if_true, if_false, reduceCtorEq, not_true_eq_false, not_false_eq_true, eq_self]; done) | (simp only [mc_r, c_25, ↓reduceIte, Bool.false_eq_true, if_true, if_false, reduceCtorEq, not_true_eq_false, not_false_eq_true, eq_self]; rfl) | (simp [mc_r, c_25]; done)), ht⟩) (fun q h => absurd h List.not_mem_nil) dX7_chanceOf_48
set_option maxHeartbeats 4000000 in
set_option maxRecDepth 100000 in
theorem c_X7_tell (l : Launch) (D : va_G) (cI : ClassId) (g : Nat → Nat) (pm : Nat) (rm : Nat) (rr : Int32) (st : Nat) (sg : Nat) (rn : Int32) (bg : Int32) (la : Int32) (ws : Bool) (pr : Nat) (ry : Nat) (hm : Nat) (xu : Int64) (xl : Int64) (sn : Int32) (kp : Int32) (kr : Int32) (kb : Int32) (kl : Int32) (kw : Bool) (kh : Nat) (hc : Int64) (pg : Nat → Int32) (rd : Nat → Int32) (rw : Nat → Int32) (ro : Nat → Int32) (be : Nat → Int32) (he : Nat → Int32) (kro : Nat → Int32) (khe : Nat → Int32) (p0 : Nat) (p1 : Int32) (hsg : sg ≤ 6) (hs : p0 < sg) (hbf : la = -1 ∨ ∃ b : Nat, b < sg ∧ la = nI b) (hM : mSh sg rw (mo_may sg rw rn bg la)) : Met l yX7_tell wsX7_tell ({ frames := 5, cells := 0, slots := 0, locals := 113 } : Room) (vz_ro D cI (zM cI g pm rm rr st sg rn bg la ws pr ry hm xu xl sn kp kr kb kl kw kh hc pg rd rw ro be he kro khe) [.ref (g 0), .int (nI p0), .int p1]) (vp_Si (fun r => r = mtl sg rw rn bg la p0 p1)) 0 0 (fun _ => False) := by
  refine Met.ofW (cc := cX7_tell) (maxL := 3) (ret := (some .int)) (by decide) rfl ?_
  intro p e s m args below meth c s₁ B hml hv
  obtain ⟨rfl, hP, hZ⟩ := hv
  obtain ⟨hK, hN⟩ := id hZ
  have hx := B.exec
  have hb := B.bytes
  have hr := B.returns
  have hts := atoms_spec (ws := wsX7_tell) B.pre
  have hown : s.vm.findClass RX7 = some m.cls := findClass_of_methodNamed B.named
  have hlocks := B.notSynchronized
  have k16 := hts (.fieldLink RX7 16 "SongsAgainModel" "rows" "[I") (List.mem_of_getElem? (i := 1) rfl)
  have k82 := hts (.fieldLink RX7 82 "SongsAgainModel" "bag" "I") (List.mem_of_getElem? (i := 2) rfl)
  have iX7 : ∀ w ∈ u_ws RX7 TX7 30, w ∈ wsX7_tell := vz_in (i := 53) (n := 30) rfl
  have hl := lv_entry ([.ref (g 0), .int (nI p0), .int p1]) (n := 3) (Nat.le_of_ble_eq_true rfl)
  rw [lg_entry_eq]
  generalize (lg_sl ([.ref (g 0), .int (nI p0), .int p1]) ++ List.replicate (3 - (lg_sl ([.ref (g 0), .int (nI p0), .int p1])).length) Slot.unset).toArray = ls at hl ⊢
  have hl : lv_has ls 3 [(0, .ref (g 0)), (1, .int (nI p0)), (2, .int p1)] := hl
  refine lv_iload_n hx hb dX7_tell_0 rfl (lv_at hl 2 rfl) ?_
  rcases vz_tab p1 (0) (9) with c_1 | c_1
  · skip
    refine lv_tableOut (tgt := 120) hx hb dX7_tell_1 c_1 (by decide) ?_
    have n_0 : ¬ p1 = 0 := fun q => by rw [q] at c_1 ; revert c_1 ; decide
    have n_1 : ¬ p1 = 1 := fun q => by rw [q] at c_1 ; revert c_1 ; decide
    have n_2 : ¬ p1 = 2 := fun q => by rw [q] at c_1 ; revert c_1 ; decide
    have n_3 : ¬ p1 = 3 := fun q => by rw [q] at c_1 ; revert c_1 ; decide
    have n_4 : ¬ p1 = 4 := fun q => by rw [q] at c_1 ; revert c_1 ; decide
    have n_5 : ¬ p1 = 5 := fun q => by rw [q] at c_1 ; revert c_1 ; decide
    have n_6 : ¬ p1 = 6 := fun q => by rw [q] at c_1 ; revert c_1 ; decide
    have n_7 : ¬ p1 = 7 := fun q => by rw [q] at c_1 ; revert c_1 ; decide
    have n_8 : ¬ p1 = 8 := fun q => by rw [q] at c_1 ; revert c_1 ; decide
    have n_9 : ¬ p1 = 9 := fun q => by rw [q] at c_1 ; revert c_1 ; decide
    refine lv_bipush (v := (-102)) hx hb dX7_tell_120 (by decide) ?_
    exact W.iret hx hb hr (fun t ht hW => ⟨_, rfl, (by rw [mtl, if_neg n_0, if_neg n_1, if_neg n_2, if_neg n_3, if_neg n_4, if_neg n_5, if_neg n_6, if_neg n_7, if_neg n_8, if_neg n_9]), ht⟩) (fun q h => absurd h List.not_mem_nil) dX7_tell_122
  · skip
    obtain ⟨h1_1, h2_1⟩ := c_1
    rcases (show (p1 : Int32).toInt = 0 ∨ (p1 : Int32).toInt = 1 ∨ (p1 : Int32).toInt = 2 ∨ (p1 : Int32).toInt = 3 ∨ (p1 : Int32).toInt = 4 ∨ (p1 : Int32).toInt = 5 ∨ (p1 : Int32).toInt = 6 ∨ (p1 : Int32).toInt = 7 ∨ (p1 : Int32).toInt = 8 ∨ (p1 : Int32).toInt = 9 by omega) with c_1 | c_1 | c_1 | c_1 | c_1 | c_1 | c_1 | c_1 | c_1 | c_1
    · skip
      refine lv_tableIn (tgt := 56) (off := 55) hx hb dX7_tell_1 h1_1 h2_1 (by rw [c_1]; rfl) (by decide) ?_
      replace c_1 : p1 = 0 := vz_toI c_1 (by decide)
      subst c_1
      refine lv_aload_n hx hb dX7_tell_56 rfl (lv_at hl 0 rfl) ?_
      refine va_get (D := D) (ci := 7) (v := .ref (g 3)) (C := RX7) (T := TX7) (N := 30) hx hb hts iX7 hown hK hP 0 rfl rfl 12 (by decide) k16 (fun _ h9 => h9) rfl dX7_tell_57 ?_
      refine lv_iconst (v := 4) hx hb dX7_tell_60 (by decide) ?_
      refine lv_iload_n hx hb dX7_tell_61 rfl (lv_at hl 1 rfl) ?_
      refine lv_imul hx hb dX7_tell_62 ?_
      refine W.eq (congrArg (fun z => F0 m 63 ls (.int z :: [.ref (g 3)])) (pk_mul 4 p0 : 4 * (nI p0) = nI (4 * p0))) ?_
      refine lv_iload_n hx hb dX7_tell_63 rfl (lv_at hl 2 rfl) ?_
      refine lv_iadd hx hb dX7_tell_64 ?_
      refine W.eq (congrArg (fun z => F0 m 65 ls (.int z :: [.ref (g 3)])) (nI_add (4 * p0) 0 : (nI (4 * p0)) + 0 = nI ((4 * p0) + 0))) ?_
      refine va_iald hx hb hK hP 3 0 rfl rfl (i := nI ((4 * p0) + 0)) (vp_in_nI (by first | assumption | omega) (by first | assumption | omega)) dX7_tell_65 ?_
      refine W.eq (congrArg (fun z => F0 m 66 ls (.int z :: [])) (vz_ix rw (by first | assumption | omega))) ?_
      exact W.iret hx hb hr (fun t ht hW => ⟨_, rfl, (by first | rfl | (rfl; done) | (rfl; rfl) | (rfl; done) | (rfl; rfl) | (simp; done) | (rfl)), ht⟩) (fun q h => absurd h List.not_mem_nil) dX7_tell_66
    · skip
      refine lv_tableIn (tgt := 56) (off := 55) hx hb dX7_tell_1 h1_1 h2_1 (by rw [c_1]; rfl) (by decide) ?_
      replace c_1 : p1 = 1 := vz_toI c_1 (by decide)
      subst c_1
      refine lv_aload_n hx hb dX7_tell_56 rfl (lv_at hl 0 rfl) ?_
      refine va_get (D := D) (ci := 7) (v := .ref (g 3)) (C := RX7) (T := TX7) (N := 30) hx hb hts iX7 hown hK hP 0 rfl rfl 12 (by decide) k16 (fun _ h9 => h9) rfl dX7_tell_57 ?_
      refine lv_iconst (v := 4) hx hb dX7_tell_60 (by decide) ?_
      refine lv_iload_n hx hb dX7_tell_61 rfl (lv_at hl 1 rfl) ?_
      refine lv_imul hx hb dX7_tell_62 ?_
      refine W.eq (congrArg (fun z => F0 m 63 ls (.int z :: [.ref (g 3)])) (pk_mul 4 p0 : 4 * (nI p0) = nI (4 * p0))) ?_
      refine lv_iload_n hx hb dX7_tell_63 rfl (lv_at hl 2 rfl) ?_
      refine lv_iadd hx hb dX7_tell_64 ?_
      refine W.eq (congrArg (fun z => F0 m 65 ls (.int z :: [.ref (g 3)])) (nI_add (4 * p0) 1 : (nI (4 * p0)) + 1 = nI ((4 * p0) + 1))) ?_
      refine va_iald hx hb hK hP 3 0 rfl rfl (i := nI ((4 * p0) + 1)) (vp_in_nI (by first | assumption | omega) (by first | assumption | omega)) dX7_tell_65 ?_
      refine W.eq (congrArg (fun z => F0 m 66 ls (.int z :: [])) (vz_ix rw (by first | assumption | omega))) ?_
      exact W.iret hx hb hr (fun t ht hW => ⟨_, rfl, (by first | rfl | (rfl; done) | (rfl; rfl) | (rfl; done) | (rfl; rfl) | (simp; done) | (rfl)), ht⟩) (fun q h => absurd h List.not_mem_nil) dX7_tell_66
    · skip
      refine lv_tableIn (tgt := 67) (off := 66) hx hb dX7_tell_1 h1_1 h2_1 (by rw [c_1]; rfl) (by decide) ?_
      replace c_1 : p1 = 2 := vz_toI c_1 (by decide)
      subst c_1
      refine lv_aload_n hx hb dX7_tell_67 rfl (lv_at hl 0 rfl) ?_
      refine lv_iload_n hx hb dX7_tell_68 rfl (lv_at hl 1 rfl) ?_
      refine vp_callSi (W.runV (As := [.int (nI p0)]) (rest := []) ⟨hx, hb, hml, hown, hts⟩ (c_X7_weightOf l D cI g pm rm rr st sg rn bg la ws pr ry hm xu xl sn kp kr kb kl kw kh hc pg rd rw ro be he kro khe p0 (by first | assumption | omega) (by first | assumption | omega)) (cwV 1 hts gX7_tell_X7_weightOf rfl rfl rfl (by decide +kernel) ⟨Nat.le_of_ble_eq_true rfl, Nat.le_of_ble_eq_true rfl⟩) (vz_pvR (va_recv hK hP (ci := 7) (q0 := 0) rfl rfl) hZ hP) rfl rfl hl.1 rfl (lv_room (Nat.le_of_ble_eq_true rfl)) dX7_tell_69 ⟨Nat.zero_le _, Nat.zero_le _⟩) (fun r_69 hr_69 => ?_)
      subst hr_69
      exact W.iret hx hb hr (fun t ht hW => ⟨_, rfl, (by first | rfl | (rfl; done) | (rfl; rfl) | (rfl; done) | (rfl; rfl) | (simp; done) | (rfl)), ht⟩) (fun q h => absurd h List.not_mem_nil) dX7_tell_72
    · skip
      refine lv_tableIn (tgt := 73) (off := 72) hx hb dX7_tell_1 h1_1 h2_1 (by rw [c_1]; rfl) (by decide) ?_
      replace c_1 : p1 = 3 := vz_toI c_1 (by decide)
      subst c_1
      refine lv_aload_n hx hb dX7_tell_73 rfl (lv_at hl 0 rfl) ?_
      refine lv_iload_n hx hb dX7_tell_74 rfl (lv_at hl 1 rfl) ?_
      refine vp_callSi (W.runV (As := [.int (nI p0)]) (rest := []) ⟨hx, hb, hml, hown, hts⟩ (c_X7_minutesOf l D cI g pm rm rr st sg rn bg la ws pr ry hm xu xl sn kp kr kb kl kw kh hc pg rd rw ro be he kro khe p0 (by first | assumption | omega) (by first | assumption | omega)) (cwV 1 hts gX7_tell_X7_minutesOf rfl rfl rfl (by decide +kernel) ⟨Nat.le_of_ble_eq_true rfl, Nat.le_of_ble_eq_true rfl⟩) (vz_pvR (va_recv hK hP (ci := 7) (q0 := 0) rfl rfl) hZ hP) rfl rfl hl.1 rfl (lv_room (Nat.le_of_ble_eq_true rfl)) dX7_tell_75 ⟨Nat.zero_le _, Nat.zero_le _⟩) (fun r_75 hr_75 => ?_)
      subst hr_75
      exact W.iret hx hb hr (fun t ht hW => ⟨_, rfl, (by first | rfl | (rfl; done) | (rfl; rfl) | (rfl; done) | (rfl; rfl) | (simp; done) | (rfl)), ht⟩) (fun q h => absurd h List.not_mem_nil) dX7_tell_78
    · skip
      refine lv_tableIn (tgt := 79) (off := 78) hx hb dX7_tell_1 h1_1 h2_1 (by rw [c_1]; rfl) (by decide) ?_
      replace c_1 : p1 = 4 := vz_toI c_1 (by decide)
      subst c_1
      refine lv_aload_n hx hb dX7_tell_79 rfl (lv_at hl 0 rfl) ?_
      refine va_get (D := D) (ci := 7) (v := .ref (g 3)) (C := RX7) (T := TX7) (N := 30) hx hb hts iX7 hown hK hP 0 rfl rfl 12 (by decide) k16 (fun _ h9 => h9) rfl dX7_tell_80 ?_
      refine lv_iconst (v := 4) hx hb dX7_tell_83 (by decide) ?_
      refine lv_iload_n hx hb dX7_tell_84 rfl (lv_at hl 1 rfl) ?_
      refine lv_imul hx hb dX7_tell_85 ?_
      refine W.eq (congrArg (fun z => F0 m 86 ls (.int z :: [.ref (g 3)])) (pk_mul 4 p0 : 4 * (nI p0) = nI (4 * p0))) ?_
      refine lv_iload_n hx hb dX7_tell_86 rfl (lv_at hl 2 rfl) ?_
      refine lv_iadd hx hb dX7_tell_87 ?_
      refine W.eq (congrArg (fun z => F0 m 88 ls (.int z :: [.ref (g 3)])) (nI_add (4 * p0) 4 : (nI (4 * p0)) + 4 = nI ((4 * p0) + 4))) ?_
      refine lv_iconst (v := 2) hx hb dX7_tell_88 (by decide) ?_
      refine lv_isub hx hb dX7_tell_89 ?_
      refine W.eq (congrArg (fun z => F0 m 90 ls (.int z :: [.ref (g 3)])) (pk_sub (a := 4 * p0 + 4) (b := 2) (by omega))) ?_
      refine va_iald hx hb hK hP 3 0 rfl rfl (i := nI (4 * p0 + 4 - 2)) (vp_in_nI (by first | assumption | omega) (by first | assumption | omega)) dX7_tell_90 ?_
      refine W.eq (congrArg (fun z => F0 m 91 ls (.int z :: [])) (vz_ix rw (by first | assumption | omega))) ?_
      exact W.iret hx hb hr (fun t ht hW => ⟨_, rfl, (by first | rfl | (rfl; done) | (rfl; rfl) | (rfl; done) | (rfl; rfl) | (simp; done) | (rfl)), ht⟩) (fun q h => absurd h List.not_mem_nil) dX7_tell_91
    · skip
      refine lv_tableIn (tgt := 79) (off := 78) hx hb dX7_tell_1 h1_1 h2_1 (by rw [c_1]; rfl) (by decide) ?_
      replace c_1 : p1 = 5 := vz_toI c_1 (by decide)
      subst c_1
      refine lv_aload_n hx hb dX7_tell_79 rfl (lv_at hl 0 rfl) ?_
      refine va_get (D := D) (ci := 7) (v := .ref (g 3)) (C := RX7) (T := TX7) (N := 30) hx hb hts iX7 hown hK hP 0 rfl rfl 12 (by decide) k16 (fun _ h9 => h9) rfl dX7_tell_80 ?_
      refine lv_iconst (v := 4) hx hb dX7_tell_83 (by decide) ?_
      refine lv_iload_n hx hb dX7_tell_84 rfl (lv_at hl 1 rfl) ?_
      refine lv_imul hx hb dX7_tell_85 ?_
      refine W.eq (congrArg (fun z => F0 m 86 ls (.int z :: [.ref (g 3)])) (pk_mul 4 p0 : 4 * (nI p0) = nI (4 * p0))) ?_
      refine lv_iload_n hx hb dX7_tell_86 rfl (lv_at hl 2 rfl) ?_
      refine lv_iadd hx hb dX7_tell_87 ?_
      refine W.eq (congrArg (fun z => F0 m 88 ls (.int z :: [.ref (g 3)])) (nI_add (4 * p0) 5 : (nI (4 * p0)) + 5 = nI ((4 * p0) + 5))) ?_
      refine lv_iconst (v := 2) hx hb dX7_tell_88 (by decide) ?_
      refine lv_isub hx hb dX7_tell_89 ?_
      refine W.eq (congrArg (fun z => F0 m 90 ls (.int z :: [.ref (g 3)])) (pk_sub (a := 4 * p0 + 5) (b := 2) (by omega))) ?_
      refine va_iald hx hb hK hP 3 0 rfl rfl (i := nI (4 * p0 + 5 - 2)) (vp_in_nI (by first | assumption | omega) (by first | assumption | omega)) dX7_tell_90 ?_
      refine W.eq (congrArg (fun z => F0 m 91 ls (.int z :: [])) (vz_ix rw (by first | assumption | omega))) ?_
      exact W.iret hx hb hr (fun t ht hW => ⟨_, rfl, (by first | rfl | (rfl; done) | (rfl; rfl) | (rfl; done) | (rfl; rfl) | (simp; done) | (rfl)), ht⟩) (fun q h => absurd h List.not_mem_nil) dX7_tell_91
    · skip
      refine lv_tableIn (tgt := 92) (off := 91) hx hb dX7_tell_1 h1_1 h2_1 (by rw [c_1]; rfl) (by decide) ?_
      replace c_1 : p1 = 6 := vz_toI c_1 (by decide)
      subst c_1
      refine lv_aload_n hx hb dX7_tell_92 rfl (lv_at hl 0 rfl) ?_
      refine va_get (D := D) (ci := 7) (v := .int bg) (C := RX7) (T := TX7) (N := 30) hx hb hts iX7 hown hK hP 0 rfl rfl 8 (by decide) k82 (fun _ h9 => h9) rfl dX7_tell_93 ?_
      refine lv_iload_n hx hb dX7_tell_96 rfl (lv_at hl 1 rfl) ?_
      refine lv_ishr hx hb dX7_tell_97 ?_
      refine lv_iconst (v := 1) hx hb dX7_tell_98 (by decide) ?_
      refine lv_iand hx hb dX7_tell_99 ?_
      exact W.iret hx hb hr (fun t ht hW => ⟨_, rfl, (by first | rfl | (rfl; done) | (rfl; rfl) | (rfl; done) | (rfl; rfl) | (simp; done) | (rfl)), ht⟩) (fun q h => absurd h List.not_mem_nil) dX7_tell_100
    · skip
      refine lv_tableIn (tgt := 101) (off := 100) hx hb dX7_tell_1 h1_1 h2_1 (by rw [c_1]; rfl) (by decide) ?_
      replace c_1 : p1 = 7 := vz_toI c_1 (by decide)
      subst c_1
      refine lv_aload_n hx hb dX7_tell_101 rfl (lv_at hl 0 rfl) ?_
      refine vp_callSi (W.runV (As := []) (rest := []) ⟨hx, hb, hml, hown, hts⟩ (c_X7_mayNow l D cI g pm rm rr st sg rn bg la ws pr ry hm xu xl sn kp kr kb kl kw kh hc pg rd rw ro be he kro khe (by first | assumption | omega) (by first | assumption | omega)) (cwV 0 hts gX7_tell_X7_mayNow rfl rfl rfl (by decide +kernel) ⟨Nat.le_of_ble_eq_true rfl, Nat.le_of_ble_eq_true rfl⟩) (vz_pvR (va_recv hK hP (ci := 7) (q0 := 0) rfl rfl) hZ hP) rfl rfl hl.1 rfl (lv_room (Nat.le_of_ble_eq_true rfl)) dX7_tell_102 ⟨Nat.zero_le _, Nat.zero_le _⟩) (fun r_102 hr_102 => ?_)
      subst hr_102
      refine lv_iload_n hx hb dX7_tell_105 rfl (lv_at hl 1 rfl) ?_
      refine lv_ishr hx hb dX7_tell_106 ?_
      refine lv_iconst (v := 1) hx hb dX7_tell_107 (by decide) ?_
      refine lv_iand hx hb dX7_tell_108 ?_
      exact W.iret hx hb hr (fun t ht hW => ⟨_, rfl, (by first | rfl | (rfl; done) | (rfl; rfl) | (rfl; done) | (rfl; rfl) | (simp; done) | (rfl)), ht⟩) (fun q h => absurd h List.not_mem_nil) dX7_tell_109
    · skip
      refine lv_tableIn (tgt := 110) (off := 109) hx hb dX7_tell_1 h1_1 h2_1 (by rw [c_1]; rfl) (by decide) ?_
      replace c_1 : p1 = 8 := vz_toI c_1 (by decide)
      subst c_1
      refine lv_aload_n hx hb dX7_tell_110 rfl (lv_at hl 0 rfl) ?_
      refine lv_iload_n hx hb dX7_tell_111 rfl (lv_at hl 1 rfl) ?_
      refine lv_iload_n hx hb dX7_tell_112 rfl (lv_at hl 2 rfl) ?_
      refine lv_bipush (v := 8) hx hb dX7_tell_113 (by decide) ?_
      refine lv_isub hx hb dX7_tell_115 ?_
      refine vp_callSi (W.runV (As := [.int (nI p0), .int (8 - 8)]) (rest := []) ⟨hx, hb, hml, hown, hts⟩ (c_X7_chanceOf l D cI g pm rm rr st sg rn bg la ws pr ry hm xu xl sn kp kr kb kl kw kh hc pg rd rw ro be he kro khe p0 (8 - 8) (by first | assumption | omega) (by first | assumption | omega) (by first | assumption | omega) (by first | assumption | omega)) (cwV 2 hts gX7_tell_X7_chanceOf rfl rfl rfl (by decide +kernel) ⟨Nat.le_of_ble_eq_true rfl, Nat.le_of_ble_eq_true rfl⟩) (vz_pvR (va_recv hK hP (ci := 7) (q0 := 0) rfl rfl) hZ hP) rfl rfl hl.1 rfl (lv_room (Nat.le_of_ble_eq_true rfl)) dX7_tell_116 ⟨Nat.zero_le _, Nat.zero_le _⟩) (fun r_116 hr_116 => ?_)
      subst hr_116
      exact W.iret hx hb hr (fun t ht hW => ⟨_, rfl, (by first | rfl | (rfl; done) | (rfl; rfl) | (rfl; done) | (rfl; rfl) | (simp; done) | (rfl)), ht⟩) (fun q h => absurd h List.not_mem_nil) dX7_tell_119
    · skip
      refine lv_tableIn (tgt := 110) (off := 109) hx hb dX7_tell_1 h1_1 h2_1 (by rw [c_1]; rfl) (by decide) ?_
      replace c_1 : p1 = 9 := vz_toI c_1 (by decide)
      subst c_1
      refine lv_aload_n hx hb dX7_tell_110 rfl (lv_at hl 0 rfl) ?_
      refine lv_iload_n hx hb dX7_tell_111 rfl (lv_at hl 1 rfl) ?_
      refine lv_iload_n hx hb dX7_tell_112 rfl (lv_at hl 2 rfl) ?_
      refine lv_bipush (v := 8) hx hb dX7_tell_113 (by decide) ?_
      refine lv_isub hx hb dX7_tell_115 ?_
      refine vp_callSi (W.runV (As := [.int (nI p0), .int (9 - 8)]) (rest := []) ⟨hx, hb, hml, hown, hts⟩ (c_X7_chanceOf l D cI g pm rm rr st sg rn bg la ws pr ry hm xu xl sn kp kr kb kl kw kh hc pg rd rw ro be he kro khe p0 (9 - 8) (by first | assumption | omega) (by first | assumption | omega) (by first | assumption | omega) (by first | assumption | omega)) (cwV 2 hts gX7_tell_X7_chanceOf rfl rfl rfl (by decide +kernel) ⟨Nat.le_of_ble_eq_true rfl, Nat.le_of_ble_eq_true rfl⟩) (vz_pvR (va_recv hK hP (ci := 7) (q0 := 0) rfl rfl) hZ hP) rfl rfl hl.1 rfl (lv_room (Nat.le_of_ble_eq_true rfl)) dX7_tell_116 ⟨Nat.zero_le _, Nat.zero_le _⟩) (fun r_116 hr_116 => ?_)
      subst hr_116
      exact W.iret hx hb hr (fun t ht hW => ⟨_, rfl, (by first | rfl | (rfl; done) | (rfl; rfl) | (rfl; done) | (rfl; rfl) | (simp; done) | (rfl)), ht⟩) (fun q h => absurd h List.not_mem_nil) dX7_tell_119
set_option maxHeartbeats 4000000 in
set_option maxRecDepth 100000 in
theorem c_X7_song (l : Launch) (D : va_G) (cI : ClassId) (g : Nat → Nat) (pm : Nat) (rm : Nat) (rr : Int32) (st : Nat) (sg : Nat) (rn : Int32) (bg : Int32) (la : Int32) (ws : Bool) (pr : Nat) (ry : Nat) (hm : Nat) (xu : Int64) (xl : Int64) (sn : Int32) (kp : Int32) (kr : Int32) (kb : Int32) (kl : Int32) (kw : Bool) (kh : Nat) (hc : Int64) (pg : Nat → Int32) (rd : Nat → Int32) (rw : Nat → Int32) (ro : Nat → Int32) (be : Nat → Int32) (he : Nat → Int32) (kro : Nat → Int32) (khe : Nat → Int32) (p0 : Int32) (p1 : Int32) (hsg : sg ≤ 6) (hbf : la = -1 ∨ ∃ b : Nat, b < sg ∧ la = nI b) (hM : sa_np sg = false → mSh sg rw (mo_may sg rw rn bg la)) : Met l yX7_song wsX7_song ({ frames := 6, cells := 0, slots := 0, locals := 135 } : Room) (vz_ro D cI (zM cI g pm rm rr st sg rn bg la ws pr ry hm xu xl sn kp kr kb kl kw kh hc pg rd rw ro be he kro khe) [.ref (g 0), .int p0, .int p1]) (vp_Si (fun r => r = ms_r sg rw rn bg la p0 p1)) 0 0 (fun _ => False) := by
  refine Met.ofW (cc := cX7_song) (maxL := 3) (ret := (some .int)) (by decide) rfl ?_
  intro p e s m args below meth c s₁ B hml hv
  obtain ⟨rfl, hP, hZ⟩ := hv
  obtain ⟨hK, hN⟩ := id hZ
  have hx := B.exec
  have hb := B.bytes
  have hr := B.returns
  have hts := atoms_spec (ws := wsX7_song) B.pre
  have hown : s.vm.findClass RX7 = some m.cls := findClass_of_methodNamed B.named
  have hlocks := B.notSynchronized
  have hl := lv_entry ([.ref (g 0), .int p0, .int p1]) (n := 3) (Nat.le_of_ble_eq_true rfl)
  rw [lg_entry_eq]
  generalize (lg_sl ([.ref (g 0), .int p0, .int p1]) ++ List.replicate (3 - (lg_sl ([.ref (g 0), .int p0, .int p1])).length) Slot.unset).toArray = ls at hl ⊢
  have hl : lv_has ls 3 [(0, .ref (g 0)), (1, .int p0), (2, .int p1)] := hl
  refine lv_aload_n hx hb dX7_song_0 rfl (lv_at hl 0 rfl) ?_
  refine lv_iload_n hx hb dX7_song_1 rfl (lv_at hl 1 rfl) ?_
  refine vp_callSi (W.runV (As := [.int p0]) (rest := []) ⟨hx, hb, hml, hown, hts⟩ (c_X7_isSong l D cI g pm rm rr st sg rn bg la ws pr ry hm xu xl sn kp kr kb kl kw kh hc pg rd rw ro be he kro khe p0) (cwV 1 hts gX7_song_X7_isSong rfl rfl rfl (by decide +kernel) ⟨Nat.le_of_ble_eq_true rfl, Nat.le_of_ble_eq_true rfl⟩) (vz_pvR (va_recv hK hP (ci := 7) (q0 := 0) rfl rfl) hZ hP) rfl rfl hl.1 rfl (lv_room (Nat.le_of_ble_eq_true rfl)) dX7_song_2 ⟨Nat.zero_le _, Nat.zero_le _⟩) (fun r_2 hr_2 => ?_)
  subst hr_2
  refine lv_if_eq (tgt := 17) hx hb dX7_song_5 (by decide) (fun c_5 => ?_) (fun c_5 => ?_)
  · skip
    replace c_5 := vz_b0 c_5
    refine lv_bipush (v := (-101)) hx hb dX7_song_17 (by decide) ?_
    exact W.iret hx hb hr (fun t ht hW => ⟨_, rfl, (by first | rfl | (simp only [ms_r]; done) | (simp only [ms_r]; rfl) | (simp only [ms_r, c_5, ↓reduceIte, Bool.false_eq_true, if_true, if_false, reduceCtorEq, not_true_eq_false, not_false_eq_true, eq_self]; done) | (simp only [ms_r, c_5, ↓reduceIte, Bool.false_eq_true, if_true, if_false, reduceCtorEq, not_true_eq_false, not_false_eq_true, eq_self]; rfl) | (simp [ms_r, c_5]; done)), ht⟩) (fun q h => absurd h List.not_mem_nil) dX7_song_19
  · skip
    replace c_5 := vz_b1 c_5
    obtain ⟨hs, hs1⟩ := mo_song c_5 hsg
    refine lv_aload_n hx hb dX7_song_8 rfl (lv_at hl 0 rfl) ?_
    refine lv_iload_n hx hb dX7_song_9 rfl (lv_at hl 1 rfl) ?_
    refine W.eq (congrArg (fun z => F0 m 10 ls (.int z :: [.ref (g 0)])) (hs1)) ?_
    refine lv_iload_n hx hb dX7_song_10 rfl (lv_at hl 2 rfl) ?_
    refine vp_callSi (W.runV (As := [.int (nI (p0.toNatClampNeg)), .int p1]) (rest := []) ⟨hx, hb, hml, hown, hts⟩ (c_X7_tell l D cI g pm rm rr st sg rn bg la ws pr ry hm xu xl sn kp kr kb kl kw kh hc pg rd rw ro be he kro khe p0.toNatClampNeg p1 (by first | assumption | omega) hs (by first | assumption | omega) (hM (if_neg (by omega)))) (cwV 2 hts gX7_song_X7_tell rfl rfl rfl (by decide +kernel) ⟨Nat.le_of_ble_eq_true rfl, Nat.le_of_ble_eq_true rfl⟩) (vz_pvR (va_recv hK hP (ci := 7) (q0 := 0) rfl rfl) hZ hP) rfl rfl hl.1 rfl (lv_room (Nat.le_of_ble_eq_true rfl)) dX7_song_11 ⟨Nat.zero_le _, Nat.zero_le _⟩) (fun r_11 hr_11 => ?_)
    subst hr_11
    refine lv_goto (tgt := 19) hx hb dX7_song_14 (by decide) ?_
    exact W.iret hx hb hr (fun t ht hW => ⟨_, rfl, (by first | rfl | (simp only [ms_r]; done) | (simp only [ms_r]; rfl) | (simp only [ms_r, c_5, ↓reduceIte, Bool.false_eq_true, if_true, if_false, reduceCtorEq, not_true_eq_false, not_false_eq_true, eq_self]; done) | (simp only [ms_r, c_5, ↓reduceIte, Bool.false_eq_true, if_true, if_false, reduceCtorEq, not_true_eq_false, not_false_eq_true, eq_self]; rfl) | (simp [ms_r, c_5]; done)), ht⟩) (fun q h => absurd h List.not_mem_nil) dX7_song_19
set_option maxHeartbeats 4000000 in
set_option maxRecDepth 100000 in
theorem c_X7_as (l : Launch) (D : va_G) (cI : ClassId) (g : Nat → Nat) (pm : Nat) (rm : Nat) (rr : Int32) (st : Nat) (sg : Nat) (rn : Int32) (bg : Int32) (la : Int32) (ws : Bool) (pr : Nat) (ry : Nat) (hm : Nat) (xu : Int64) (xl : Int64) (sn : Int32) (kp : Int32) (kr : Int32) (kb : Int32) (kl : Int32) (kw : Bool) (kh : Nat) (hc : Int64) (pg : Nat → Int32) (rd : Nat → Int32) (rw : Nat → Int32) (ro : Nat → Int32) (be : Nat → Int32) (he : Nat → Int32) (kro : Nat → Int32) (khe : Nat → Int32) (p0 : Int32) (p1 : Int32) (hsg : sg ≤ 6) : Met l yX7_as wsX7_as ({ frames := 2, cells := 0, slots := 0, locals := 46 } : Room) (vz_ro D cI (zM cI g pm rm rr st sg rn bg la ws pr ry hm xu xl sn kp kr kb kl kw kh hc pg rd rw ro be he kro khe) [.ref (g 0), .int p0, .int p1]) (vp_Si (fun r => r = ma_r sg rw p0 p1)) 0 0 (fun _ => False) := by
  refine Met.ofW (cc := cX7_as) (maxL := 5) (ret := (some .int)) (by decide) rfl ?_
  intro p e s m args below meth c s₁ B hml hv
  obtain ⟨rfl, hP, hZ⟩ := hv
  obtain ⟨hK, hN⟩ := id hZ
  have hx := B.exec
  have hb := B.bytes
  have hr := B.returns
  have hts := atoms_spec (ws := wsX7_as) B.pre
  have hown : s.vm.findClass RX7 = some m.cls := findClass_of_methodNamed B.named
  have hlocks := B.notSynchronized
  have k16 := hts (.fieldLink RX7 16 "SongsAgainModel" "rows" "[I") (List.mem_of_getElem? (i := 2) rfl)
  have iX7 : ∀ w ∈ u_ws RX7 TX7 30, w ∈ wsX7_as := vz_in (i := 12) (n := 30) rfl
  have hl := lv_entry ([.ref (g 0), .int p0, .int p1]) (n := 5) (Nat.le_of_ble_eq_true rfl)
  rw [lg_entry_eq]
  generalize (lg_sl ([.ref (g 0), .int p0, .int p1]) ++ List.replicate (5 - (lg_sl ([.ref (g 0), .int p0, .int p1])).length) Slot.unset).toArray = ls at hl ⊢
  have hl : lv_has ls 5 [(0, .ref (g 0)), (1, .int p0), (2, .int p1)] := hl
  refine lv_aload_n hx hb dX7_as_0 rfl (lv_at hl 0 rfl) ?_
  refine lv_iload_n hx hb dX7_as_1 rfl (lv_at hl 1 rfl) ?_
  refine vp_callSi (W.runV (As := [.int p0]) (rest := []) ⟨hx, hb, hml, hown, hts⟩ (c_X7_isSong l D cI g pm rm rr st sg rn bg la ws pr ry hm xu xl sn kp kr kb kl kw kh hc pg rd rw ro be he kro khe p0) (cwV 1 hts gX7_as_X7_isSong rfl rfl rfl (by decide +kernel) ⟨Nat.le_of_ble_eq_true rfl, Nat.le_of_ble_eq_true rfl⟩) (vz_pvR (va_recv hK hP (ci := 7) (q0 := 0) rfl rfl) hZ hP) rfl rfl hl.1 rfl (lv_room (Nat.le_of_ble_eq_true rfl)) dX7_as_2 ⟨Nat.zero_le _, Nat.zero_le _⟩) (fun r_2 hr_2 => ?_)
  subst hr_2
  refine lv_if_ne (tgt := 11) hx hb dX7_as_5 (by decide) (fun c_5 => ?_) (fun c_5 => ?_)
  · skip
    replace c_5 := vz_b1 c_5
    obtain ⟨hs, hs1⟩ := mo_song c_5 hsg
    refine lv_iload_n hx hb dX7_as_11 rfl (lv_at hl 2 rfl) ?_
    refine lv_i2l (v := (p1 : Int32).toInt64) hx hb dX7_as_12 rfl ?_
    refine lv_lconst (v := 0) hx hb dX7_as_13 (by decide) ?_
    refine lv_ldc2 (v := 4) hx hb hown (hts (.constantLong RX7 138 (4)) (List.mem_of_getElem? (i := 1) rfl)) dX7_as_14 ?_
    refine vp_callSi (W.runS (As := [.long ((p1 : Int32).toInt64), .long 0, .long 4]) (rest := []) ⟨hx, hb, hml, hown, hts⟩ (c_X7_in l ((p1 : Int32).toInt64) 0 4) (va_cwS 3 hts gX7_as_X7_in rfl rfl rfl (by decide +kernel) ⟨Nat.le_of_ble_eq_true rfl, Nat.le_of_ble_eq_true rfl⟩) (vz_psS) rfl rfl hl.1 rfl (lv_room (Nat.le_of_ble_eq_true rfl)) dX7_as_17 ⟨Nat.zero_le _, Nat.zero_le _⟩) (fun r_17 hr_17 => ?_)
    subst hr_17
    refine lv_if_ne (tgt := 26) hx hb dX7_as_20 (by decide) (fun c_20 => ?_) (fun c_20 => ?_)
    · skip
      replace c_20 := vz_b1 c_20
      refine lv_aload_n hx hb dX7_as_26 rfl (lv_at hl 0 rfl) ?_
      refine va_get (D := D) (ci := 7) (v := .ref (g 3)) (C := RX7) (T := TX7) (N := 30) hx hb hts iX7 hown hK hP 0 rfl rfl 12 (by decide) k16 (fun _ h9 => h9) rfl dX7_as_27 ?_
      refine lv_iconst (v := 4) hx hb dX7_as_30 (by decide) ?_
      refine lv_iload_n hx hb dX7_as_31 rfl (lv_at hl 1 rfl) ?_
      refine W.eq (congrArg (fun z => F0 m 32 ls (.int z :: [.int 4, .ref (g 3)])) (hs1)) ?_
      refine lv_imul hx hb dX7_as_32 ?_
      refine W.eq (congrArg (fun z => F0 m 33 ls (.int z :: [.ref (g 3)])) (pk_mul 4 p0.toNatClampNeg : 4 * (nI (p0.toNatClampNeg)) = nI (4 * p0.toNatClampNeg))) ?_
      refine va_iald hx hb hK hP 3 0 rfl rfl (i := nI (4 * p0.toNatClampNeg)) (vp_in_nI (by first | assumption | omega) (by first | assumption | omega)) dX7_as_33 ?_
      refine W.eq (congrArg (fun z => F0 m 34 ls (.int z :: [])) (vz_ix rw (by first | assumption | omega))) ?_
      refine lv_istore_n (lv' := [(3, .int (rw (4 * p0.toNatClampNeg))), (0, .ref (g 0)), (1, .int p0), (2, .int p1)]) hx hb dX7_as_34 rfl hl (by decide) rfl (fun ls hl => ?_)
      refine lv_iload_n hx hb dX7_as_35 rfl (lv_at hl 3 rfl) ?_
      have J_59 : ∀ (z4 : Int32), z4 = vz_b (ma_is (rw (4 * p0.toNatClampNeg)) p1) → W p l e ({ frames := 2, cells := 0, slots := 0, locals := 46 } : Room) s m ([.ref (g 0), .int p0, .int p1] : List Value).toArray below meth c s.heap [] 0 0 (MQ below (vp_Si (fun r => r = ma_r sg rw p0 p1)) ([.ref (g 0), .int p0, .int p1] : List Value).toArray s 0 0 (fun _ => False)) (F0 m 59 ls [.int z4]) := by
        intro z4 hz4
        subst hz4
        refine lv_istore (lv' := [(4, .int (vz_b (ma_is (rw (4 * p0.toNatClampNeg)) p1))), (3, .int (rw (4 * p0.toNatClampNeg))), (0, .ref (g 0)), (1, .int p0), (2, .int p1)]) hx hb dX7_as_59 hl (by decide) rfl (fun ls hl => ?_)
        refine lv_iload hx hb dX7_as_61 (lv_at hl 0 rfl) ?_
        refine lv_if_eq (tgt := 70) hx hb dX7_as_63 (by decide) (fun c_63 => ?_) (fun c_63 => ?_)
        · skip
          replace c_63 := vz_b0 c_63
          refine lv_iconst (v := (-1)) hx hb dX7_as_70 (by decide) ?_
          exact W.iret hx hb hr (fun t ht hW => ⟨_, rfl, (by first | rfl | (simp only [ma_r]; done) | (simp only [ma_r]; rfl) | (simp only [ma_r, c_5, c_20, c_63, ↓reduceIte, Bool.false_eq_true, if_true, if_false, reduceCtorEq, not_true_eq_false, not_false_eq_true, eq_self]; done) | (simp only [ma_r, c_5, c_20, c_63, ↓reduceIte, Bool.false_eq_true, if_true, if_false, reduceCtorEq, not_true_eq_false, not_false_eq_true, eq_self]; rfl) | (simp [ma_r, c_5, c_20, c_63]; done)), ht⟩) (fun q h => absurd h List.not_mem_nil) dX7_as_71
        · skip
          replace c_63 := vz_b1 c_63
          refine lv_iload_n hx hb dX7_as_66 rfl (lv_at hl 3 rfl) ?_
          refine lv_goto (tgt := 71) hx hb dX7_as_67 (by decide) ?_
          exact W.iret hx hb hr (fun t ht hW => ⟨_, rfl, (by first | rfl | (simp only [ma_r]; done) | (simp only [ma_r]; rfl) | (simp only [ma_r, c_5, c_20, c_63, ↓reduceIte, Bool.false_eq_true, if_true, if_false, reduceCtorEq, not_true_eq_false, not_false_eq_true, eq_self]; done) | (simp only [ma_r, c_5, c_20, c_63, ↓reduceIte, Bool.false_eq_true, if_true, if_false, reduceCtorEq, not_true_eq_false, not_false_eq_true, eq_self]; rfl) | (simp [ma_r, c_5, c_20, c_63]; done)), ht⟩) (fun q h => absurd h List.not_mem_nil) dX7_as_71
      refine lv_if_eq (tgt := 54) hx hb dX7_as_36 (by decide) (fun c_36 => ?_) (fun c_36 => ?_)
      · skip
        refine lv_iconst (v := 1) hx hb dX7_as_54 (by decide) ?_
        refine lv_goto (tgt := 59) hx hb dX7_as_55 (by decide) ?_
        exact J_59 _ (by first | rfl | (simp only [ma_is, vz_b, if_pos c_36]; done) | (simp only [ma_is, vz_b, if_pos c_36]; rfl) | (simp only [ma_is, vz_b, c_36, ↓reduceIte, Bool.false_eq_true, if_true, if_false, reduceCtorEq, not_true_eq_false, not_false_eq_true, eq_self]; done) | (simp [ma_is, vz_b, c_36]; done))
      · skip
        refine lv_iload_n hx hb dX7_as_39 rfl (lv_at hl 3 rfl) ?_
        refine lv_iload_n hx hb dX7_as_40 rfl (lv_at hl 0 rfl) ?_
        refine lv_icmp_eq (tgt := 54) hx hb dX7_as_41 (by decide) (fun c_41 => ?_) (fun c_41 => ?_)
        · skip
          refine lv_iconst (v := 1) hx hb dX7_as_54 (by decide) ?_
          refine lv_goto (tgt := 59) hx hb dX7_as_55 (by decide) ?_
          exact J_59 _ (by first | rfl | (simp only [ma_is, vz_b, if_neg c_36, if_pos c_41]; done) | (simp only [ma_is, vz_b, if_neg c_36, if_pos c_41]; rfl) | (simp only [ma_is, vz_b, c_36, c_41, ↓reduceIte, Bool.false_eq_true, if_true, if_false, reduceCtorEq, not_true_eq_false, not_false_eq_true, eq_self]; done) | (simp [ma_is, vz_b, c_36, c_41]; done))
        · skip
          refine lv_iload_n hx hb dX7_as_44 rfl (lv_at hl 3 rfl) ?_
          refine lv_iconst (v := 2) hx hb dX7_as_45 (by decide) ?_
          refine lv_icmp_ne (tgt := 58) hx hb dX7_as_46 (by decide) (fun c_46 => ?_) (fun c_46 => ?_)
          · skip
            refine lv_iconst (v := 0) hx hb dX7_as_58 (by decide) ?_
            exact J_59 _ (by first | rfl | (simp only [ma_is, vz_b, if_neg c_36, if_neg c_41, if_neg c_46]; done) | (simp only [ma_is, vz_b, if_neg c_36, if_neg c_41, if_neg c_46]; rfl) | (simp only [ma_is, vz_b, c_36, c_41, c_46, ↓reduceIte, Bool.false_eq_true, if_true, if_false, reduceCtorEq, not_true_eq_false, not_false_eq_true, eq_self]; done) | (simp [ma_is, vz_b, c_36, c_41, c_46]; done))
          · skip
            refine lv_iload_n hx hb dX7_as_49 rfl (lv_at hl 0 rfl) ?_
            refine lv_iconst (v := 4) hx hb dX7_as_50 (by decide) ?_
            refine lv_icmp_ne (tgt := 58) hx hb dX7_as_51 (by decide) (fun c_51 => ?_) (fun c_51 => ?_)
            · skip
              refine lv_iconst (v := 0) hx hb dX7_as_58 (by decide) ?_
              exact J_59 _ (by first | rfl | (simp only [ma_is, vz_b, if_neg c_36, if_neg c_41, if_pos c_46, if_neg c_51]; done) | (simp only [ma_is, vz_b, if_neg c_36, if_neg c_41, if_pos c_46, if_neg c_51]; rfl) | (simp only [ma_is, vz_b, c_36, c_41, c_46, c_51, ↓reduceIte, Bool.false_eq_true, if_true, if_false, reduceCtorEq, not_true_eq_false, not_false_eq_true, eq_self]; done) | (simp [ma_is, vz_b, c_36, c_41, c_46, c_51]; done))
            · skip
              refine lv_iconst (v := 1) hx hb dX7_as_54 (by decide) ?_
              refine lv_goto (tgt := 59) hx hb dX7_as_55 (by decide) ?_
              exact J_59 _ (by first | rfl | (simp only [ma_is, vz_b, if_neg c_36, if_neg c_41, if_pos c_46, if_pos c_51]; done) | (simp only [ma_is, vz_b, if_neg c_36, if_neg c_41, if_pos c_46, if_pos c_51]; rfl) | (simp only [ma_is, vz_b, c_36, c_41, c_46, c_51, ↓reduceIte, Bool.false_eq_true, if_true, if_false, reduceCtorEq, not_true_eq_false, not_false_eq_true, eq_self]; done) | (simp [ma_is, vz_b, c_36, c_41, c_46, c_51]; done))
    · skip
      replace c_20 := vz_b0 c_20
      refine lv_bipush (v := (-102)) hx hb dX7_as_23 (by decide) ?_
      exact W.iret hx hb hr (fun t ht hW => ⟨_, rfl, (by first | rfl | (simp only [ma_r]; done) | (simp only [ma_r]; rfl) | (simp only [ma_r, c_5, c_20, ↓reduceIte, Bool.false_eq_true, if_true, if_false, reduceCtorEq, not_true_eq_false, not_false_eq_true, eq_self]; done) | (simp only [ma_r, c_5, c_20, ↓reduceIte, Bool.false_eq_true, if_true, if_false, reduceCtorEq, not_true_eq_false, not_false_eq_true, eq_self]; rfl) | (simp [ma_r, c_5, c_20]; done)), ht⟩) (fun q h => absurd h List.not_mem_nil) dX7_as_25
  · skip
    replace c_5 := vz_b0 c_5
    refine lv_bipush (v := (-101)) hx hb dX7_as_8 (by decide) ?_
    exact W.iret hx hb hr (fun t ht hW => ⟨_, rfl, (by first | rfl | (simp only [ma_r]; done) | (simp only [ma_r]; rfl) | (simp only [ma_r, c_5, ↓reduceIte, Bool.false_eq_true, if_true, if_false, reduceCtorEq, not_true_eq_false, not_false_eq_true, eq_self]; done) | (simp only [ma_r, c_5, ↓reduceIte, Bool.false_eq_true, if_true, if_false, reduceCtorEq, not_true_eq_false, not_false_eq_true, eq_self]; rfl) | (simp [ma_r, c_5]; done)), ht⟩) (fun q h => absurd h List.not_mem_nil) dX7_as_10
set_option maxHeartbeats 4000000 in
set_option maxRecDepth 100000 in
theorem c_X7_rule (l : Launch) (D : va_G) (cI : ClassId) (g : Nat → Nat) (pm : Nat) (rm : Nat) (rr : Int32) (st : Nat) (sg : Nat) (rn : Int32) (bg : Int32) (la : Int32) (ws : Bool) (pr : Nat) (ry : Nat) (hm : Nat) (xu : Int64) (xl : Int64) (sn : Int32) (kp : Int32) (kr : Int32) (kb : Int32) (kl : Int32) (kw : Bool) (kh : Nat) (hc : Int64) (pg : Nat → Int32) (rd : Nat → Int32) (rw : Nat → Int32) (ro : Nat → Int32) (be : Nat → Int32) (he : Nat → Int32) (kro : Nat → Int32) (khe : Nat → Int32) (sz : Nat) (p0 : Int32) (hsg : sg ≤ 6) : Met l yX7_rule wsX7_rule ({ frames := 1, cells := 0, slots := 0, locals := 25 } : Room) (vz_rw D cI (zM cI g pm rm rr st sg rn bg la ws pr ry hm xu xl sn kp kr kb kl kw kh hc pg rd rw ro be he kro khe) sz [.ref (g 0), .int p0]) (va_Qi (fun r (_ : Unit) => r = if mo_in (p0 : Int32).toInt64 0 3 then (if sa_np sg then -103 else rn) else -102) (fun (u : Unit) (t : State) => va_P D vwCl (zM cI g pm rm rr st sg (pl_n (mru sg p0) p0 rn) bg la ws pr ry hm xu xl sn kp kr kb kl kw kh hc pg rd rw ro be he kro khe) t.heap) (va_A (zM cI g pm rm rr st sg rn bg la ws pr ry hm xu xl sn kp kr kb kl kw kh hc pg rd rw ro be he kro khe) sz)) 0 0 (va_A (zM cI g pm rm rr st sg rn bg la ws pr ry hm xu xl sn kp kr kb kl kw kh hc pg rd rw ro be he kro khe) sz) := by
  refine Met.ofW (cc := cX7_rule) (maxL := 3) (ret := (some .int)) (by decide) rfl ?_
  intro p e s m args below meth c s₁ B hml hv
  obtain ⟨rfl, hsz, hP, hZ, hD0⟩ := hv
  obtain ⟨hK, hN⟩ := id hZ
  have hx := B.exec
  have hb := B.bytes
  have hr := B.returns
  have hts := atoms_spec (ws := wsX7_rule) B.pre
  have hown : s.vm.findClass RX7 = some m.cls := findClass_of_methodNamed B.named
  have hlocks := B.notSynchronized
  subst hsz
  have hD := hD0.self (sz := s.heap.size)
  generalize hAe : va_A (zM cI g pm rm rr st sg rn bg la ws pr ry hm xu xl sn kp kr kb kl kw kh hc pg rd rw ro be he kro khe) s.heap.size = A at hD ⊢
  have hA : ∀ q : Nat, s.heap.size ≤ q → A q := fun q h => by rw [← hAe]; exact Or.inr h
  have hS : va_S A s.heap s.heap [] := va_S.rf
  have k76 := hts (.fieldLink RX7 76 "SongsAgainModel" "ruleNow" "I") (List.mem_of_getElem? (i := 2) rfl)
  have iX7 : ∀ w ∈ u_ws RX7 TX7 30, w ∈ wsX7_rule := vz_in (i := 12) (n := 30) rfl
  have hl := lv_entry ([.ref (g 0), .int p0]) (n := 3) (Nat.le_of_ble_eq_true rfl)
  rw [lg_entry_eq]
  generalize (lg_sl ([.ref (g 0), .int p0]) ++ List.replicate (3 - (lg_sl ([.ref (g 0), .int p0])).length) Slot.unset).toArray = ls at hl ⊢
  have hl : lv_has ls 3 [(0, .ref (g 0)), (1, .int p0)] := hl
  have hP : va_P D vwCl (zM cI g pm rm rr st sg rn bg la ws pr ry hm xu xl sn kp kr kb kl kw kh hc pg rd rw ro be he kro khe) s.heap := hP
  refine lv_iload_n hx hb dX7_rule_0 rfl (lv_at hl 1 rfl) ?_
  refine lv_i2l (v := (p0 : Int32).toInt64) hx hb dX7_rule_1 rfl ?_
  refine lv_lconst (v := 0) hx hb dX7_rule_2 (by decide) ?_
  refine lv_ldc2 (v := 3) hx hb hown (hts (.constantLong RX7 60 (3)) (List.mem_of_getElem? (i := 1) rfl)) dX7_rule_3 ?_
  refine vp_callSi (W.runS (As := [.long ((p0 : Int32).toInt64), .long 0, .long 3]) (rest := []) ⟨hx, hb, hml, hown, hts⟩ (c_X7_in l ((p0 : Int32).toInt64) 0 3) (va_cwS 3 hts gX7_rule_X7_in rfl rfl rfl (by decide +kernel) ⟨Nat.le_of_ble_eq_true rfl, Nat.le_of_ble_eq_true rfl⟩) (vz_psS) rfl rfl hl.1 rfl (lv_room (Nat.le_of_ble_eq_true rfl)) dX7_rule_6 ⟨Nat.zero_le _, Nat.zero_le _⟩) (fun r_6 hr_6 => ?_)
  subst hr_6
  refine lv_if_ne (tgt := 15) hx hb dX7_rule_9 (by decide) (fun c_9 => ?_) (fun c_9 => ?_)
  · skip
    replace c_9 := vz_b1 c_9
    refine lv_aload_n hx hb dX7_rule_15 rfl (lv_at hl 0 rfl) ?_
    refine vp_callSi (W.runV (As := []) (rest := []) ⟨hx, hb, hml, hown, hts⟩ (c_X7_lacks l D cI g pm rm rr st sg rn bg la ws pr ry hm xu xl sn kp kr kb kl kw kh hc pg rd rw ro be he kro khe (by first | assumption | omega)) (cwV 0 hts gX7_rule_X7_lacks rfl rfl rfl (by decide +kernel) ⟨Nat.le_of_ble_eq_true rfl, Nat.le_of_ble_eq_true rfl⟩) (vz_pvR (va_recv hK hP (ci := 7) (q0 := 0) rfl rfl) hZ hP) rfl rfl hl.1 rfl (lv_room (Nat.le_of_ble_eq_true rfl)) dX7_rule_16 ⟨Nat.zero_le _, Nat.zero_le _⟩) (fun r_16 hr_16 => ?_)
    subst hr_16
    refine lv_if_eq (tgt := 25) hx hb dX7_rule_19 (by decide) (fun c_19 => ?_) (fun c_19 => ?_)
    · skip
      replace c_19 := vz_b0 c_19
      refine lv_aload_n hx hb dX7_rule_25 rfl (lv_at hl 0 rfl) ?_
      refine va_get (D := D) (ci := 7) (v := .int rn) (C := RX7) (T := TX7) (N := 30) hx hb hts iX7 hown hK hP 0 rfl rfl 7 (by decide) k76 (fun _ h9 => h9) rfl dX7_rule_26 ?_
      refine lv_istore_n (lv' := [(2, .int rn), (0, .ref (g 0)), (1, .int p0)]) hx hb dX7_rule_29 rfl hl (by decide) rfl (fun ls hl => ?_)
      refine lv_aload_n hx hb dX7_rule_30 rfl (lv_at hl 1 rfl) ?_
      refine lv_iload_n hx hb dX7_rule_31 rfl (lv_at hl 2 rfl) ?_
      refine va_put (D := D) (ci := 7) (v := .int p0) (ty := .int) (C := RX7) (T := TX7) (N := 30) hx hb hts iX7 tyX7 tyX7_ok nmX7 hown hK hP hD hS 0 rfl rfl 7 (by decide) k76 (fun _ h9 => h9) rfl (by decide +kernel) rfl rfl (Nat.le_of_ble_eq_true rfl) dX7_rule_32 (fun H_32 locs_32 hP9 hD9 hS9 => ?_)
      replace hP : va_P D vwCl (zM cI g pm rm rr st sg p0 bg la ws pr ry hm xu xl sn kp kr kb kl kw kh hc pg rd rw ro be he kro khe) H_32 := hP9
      replace hD : va_D A (zM cI g pm rm rr st sg p0 bg la ws pr ry hm xu xl sn kp kr kb kl kw kh hc pg rd rw ro be he kro khe) := hD9
      replace hS := hS9
      clear hP9 hD9 hS9
      refine lv_iload_n hx hb dX7_rule_35 rfl (lv_at hl 0 rfl) ?_
      have en_rn : pl_n (mru sg p0) p0 rn = p0 := by first | rfl | (simp only [pl_n, mru]; done) | (simp only [pl_n, mru]; rfl) | (simp only [pl_n, mru, c_9, c_19, ↓reduceIte, Bool.false_eq_true, if_true, if_false, reduceCtorEq, not_true_eq_false, not_false_eq_true, eq_self]; done) | (simp only [pl_n, mru, c_9, c_19, ↓reduceIte, Bool.false_eq_true, if_true, if_false, reduceCtorEq, not_true_eq_false, not_false_eq_true, eq_self]; rfl) | (simp [pl_n, mru, c_9, c_19]; done)
      exact W.iret hx hb hr (fun t ht hW => ⟨⟨_, (), rfl, (by first | rfl | (simp only [pl_n, mru]; done) | (simp only [pl_n, mru]; rfl) | (simp only [pl_n, mru, c_9, c_19, ↓reduceIte, Bool.false_eq_true, if_true, if_false, reduceCtorEq, not_true_eq_false, not_false_eq_true, eq_self]; done) | (simp only [pl_n, mru, c_9, c_19, ↓reduceIte, Bool.false_eq_true, if_true, if_false, reduceCtorEq, not_true_eq_false, not_false_eq_true, eq_self]; rfl) | (simp [pl_n, mru, c_9, c_19]; done)), (by show va_P D vwCl (zM cI g pm rm rr st sg (pl_n (mru sg p0) p0 rn) bg la ws pr ry hm xu xl sn kp kr kb kl kw kh hc pg rd rw ro be he kro khe) t.heap; rw [ht, en_rn]; exact hP)⟩, hS.F ht⟩) hS.2.2 dX7_rule_36
    · skip
      replace c_19 := vz_b1 c_19
      refine lv_bipush (v := (-103)) hx hb dX7_rule_22 (by decide) ?_
      have en_rn : pl_n (mru sg p0) p0 rn = rn := by first | rfl | (simp only [pl_n, mru]; done) | (simp only [pl_n, mru]; rfl) | (simp only [pl_n, mru, c_9, c_19, ↓reduceIte, Bool.false_eq_true, if_true, if_false, reduceCtorEq, not_true_eq_false, not_false_eq_true, eq_self]; done) | (simp only [pl_n, mru, c_9, c_19, ↓reduceIte, Bool.false_eq_true, if_true, if_false, reduceCtorEq, not_true_eq_false, not_false_eq_true, eq_self]; rfl) | (simp [pl_n, mru, c_9, c_19]; done)
      exact W.iret hx hb hr (fun t ht hW => ⟨⟨_, (), rfl, (by first | rfl | (simp only [pl_n, mru]; done) | (simp only [pl_n, mru]; rfl) | (simp only [pl_n, mru, c_9, c_19, ↓reduceIte, Bool.false_eq_true, if_true, if_false, reduceCtorEq, not_true_eq_false, not_false_eq_true, eq_self]; done) | (simp only [pl_n, mru, c_9, c_19, ↓reduceIte, Bool.false_eq_true, if_true, if_false, reduceCtorEq, not_true_eq_false, not_false_eq_true, eq_self]; rfl) | (simp [pl_n, mru, c_9, c_19]; done)), (by show va_P D vwCl (zM cI g pm rm rr st sg (pl_n (mru sg p0) p0 rn) bg la ws pr ry hm xu xl sn kp kr kb kl kw kh hc pg rd rw ro be he kro khe) t.heap; rw [ht, en_rn]; exact hP)⟩, hS.F ht⟩) hS.2.2 dX7_rule_24
  · skip
    replace c_9 := vz_b0 c_9
    refine lv_bipush (v := (-102)) hx hb dX7_rule_12 (by decide) ?_
    have en_rn : pl_n (mru sg p0) p0 rn = rn := by first | rfl | (simp only [pl_n, mru]; done) | (simp only [pl_n, mru]; rfl) | (simp only [pl_n, mru, c_9, ↓reduceIte, Bool.false_eq_true, if_true, if_false, reduceCtorEq, not_true_eq_false, not_false_eq_true, eq_self]; done) | (simp only [pl_n, mru, c_9, ↓reduceIte, Bool.false_eq_true, if_true, if_false, reduceCtorEq, not_true_eq_false, not_false_eq_true, eq_self]; rfl) | (simp [pl_n, mru, c_9]; done)
    exact W.iret hx hb hr (fun t ht hW => ⟨⟨_, (), rfl, (by first | rfl | (simp only [pl_n, mru]; done) | (simp only [pl_n, mru]; rfl) | (simp only [pl_n, mru, c_9, ↓reduceIte, Bool.false_eq_true, if_true, if_false, reduceCtorEq, not_true_eq_false, not_false_eq_true, eq_self]; done) | (simp only [pl_n, mru, c_9, ↓reduceIte, Bool.false_eq_true, if_true, if_false, reduceCtorEq, not_true_eq_false, not_false_eq_true, eq_self]; rfl) | (simp [pl_n, mru, c_9]; done)), (by show va_P D vwCl (zM cI g pm rm rr st sg (pl_n (mru sg p0) p0 rn) bg la ws pr ry hm xu xl sn kp kr kb kl kw kh hc pg rd rw ro be he kro khe) t.heap; rw [ht, en_rn]; exact hP)⟩, hS.F ht⟩) hS.2.2 dX7_rule_14
set_option maxHeartbeats 4000000 in
set_option maxRecDepth 100000 in
theorem c_X7_play (l : Launch) (D : va_G) (cI : ClassId) (g : Nat → Nat) (pm : Nat) (rm : Nat) (rr : Int32) (st : Nat) (sg : Nat) (rn : Int32) (bg : Int32) (la : Int32) (ws : Bool) (pr : Nat) (ry : Nat) (hm : Nat) (xu : Int64) (xl : Int64) (sn : Int32) (kp : Int32) (kr : Int32) (kb : Int32) (kl : Int32) (kw : Bool) (kh : Nat) (hc : Int64) (pg : Nat → Int32) (rd : Nat → Int32) (rw : Nat → Int32) (ro : Nat → Int32) (be : Nat → Int32) (he : Nat → Int32) (kro : Nat → Int32) (khe : Nat → Int32) (sz : Nat) (p0 : Int32) (hsg : sg ≤ 6) (hbf : la = -1 ∨ ∃ b : Nat, b < sg ∧ la = nI b) : Met l yX7_play wsX7_play ({ frames := 3, cells := 0, slots := 0, locals := 67 } : Room) (vz_rw D cI (zM cI g pm rm rr st sg rn bg la ws pr ry hm xu xl sn kp kr kb kl kw kh hc pg rd rw ro be he kro khe) sz [.ref (g 0), .int p0]) (va_Qi (fun r (_ : Unit) => r = if mo_in (p0 : Int32).toInt64 0 (nI sg - 1).toInt64 then (if ((mo_may sg rw rn bg la) >>> (p0 &&& 31)) &&& 1 = 0 then -103 else mo_ones (bk_bag sg bg p0) 6) else -101) (fun (u : Unit) (t : State) => va_P D vwCl (zM cI g pm rm rr st sg rn (pl_n (mpl sg rw rn bg la p0) (bk_bag sg bg p0) bg) (pl_n (mpl sg rw rn bg la p0) p0 la) (pl_n (mpl sg rw rn bg la p0) false ws) pr ry hm xu xl sn kp kr kb kl kw kh hc pg rd (pl_n (mpl sg rw rn bg la p0) (upd rw (4 * p0.toNatClampNeg + 2) (rw (4 * p0.toNatClampNeg + 2) + 1)) rw) ro be he kro khe) t.heap) (va_A (zM cI g pm rm rr st sg rn bg la ws pr ry hm xu xl sn kp kr kb kl kw kh hc pg rd rw ro be he kro khe) sz)) 0 0 (va_A (zM cI g pm rm rr st sg rn bg la ws pr ry hm xu xl sn kp kr kb kl kw kh hc pg rd rw ro be he kro khe) sz) := by
  refine Met.ofW (cc := cX7_play) (maxL := 2) (ret := (some .int)) (by decide) rfl ?_
  intro p e s m args below meth c s₁ B hml hv
  obtain ⟨rfl, hsz, hP, hZ, hD0⟩ := hv
  obtain ⟨hK, hN⟩ := id hZ
  have hx := B.exec
  have hb := B.bytes
  have hr := B.returns
  have hts := atoms_spec (ws := wsX7_play) B.pre
  have hown : s.vm.findClass RX7 = some m.cls := findClass_of_methodNamed B.named
  have hlocks := B.notSynchronized
  subst hsz
  have hD := hD0.self (sz := s.heap.size)
  generalize hAe : va_A (zM cI g pm rm rr st sg rn bg la ws pr ry hm xu xl sn kp kr kb kl kw kh hc pg rd rw ro be he kro khe) s.heap.size = A at hD ⊢
  have hA : ∀ q : Nat, s.heap.size ≤ q → A q := fun q h => by rw [← hAe]; exact Or.inr h
  have hS : va_S A s.heap s.heap [] := va_S.rf
  have k16 := hts (.fieldLink RX7 16 "SongsAgainModel" "rows" "[I") (List.mem_of_getElem? (i := 4) rfl)
  have k38 := hts (.fieldLink RX7 38 "SongsAgainModel" "last" "I") (List.mem_of_getElem? (i := 2) rfl)
  have k82 := hts (.fieldLink RX7 82 "SongsAgainModel" "bag" "I") (List.mem_of_getElem? (i := 1) rfl)
  have k85 := hts (.fieldLink RX7 85 "SongsAgainModel" "wasSkipped" "Z") (List.mem_of_getElem? (i := 3) rfl)
  have iX7 : ∀ w ∈ u_ws RX7 TX7 30, w ∈ wsX7_play := vz_in (i := 34) (n := 30) rfl
  have hl := lv_entry ([.ref (g 0), .int p0]) (n := 2) (Nat.le_of_ble_eq_true rfl)
  rw [lg_entry_eq]
  generalize (lg_sl ([.ref (g 0), .int p0]) ++ List.replicate (2 - (lg_sl ([.ref (g 0), .int p0])).length) Slot.unset).toArray = ls at hl ⊢
  have hl : lv_has ls 2 [(0, .ref (g 0)), (1, .int p0)] := hl
  have hP : va_P D vwCl (zM cI g pm rm rr st sg rn bg la ws pr ry hm xu xl sn kp kr kb kl kw kh hc pg rd rw ro be he kro khe) s.heap := hP
  refine lv_aload_n hx hb dX7_play_0 rfl (lv_at hl 0 rfl) ?_
  refine lv_iload_n hx hb dX7_play_1 rfl (lv_at hl 1 rfl) ?_
  refine vp_callSi (W.runV (As := [.int p0]) (rest := []) ⟨hx, hb, hml, hown, hts⟩ (c_X7_isSong l D cI g pm rm rr st sg rn bg la ws pr ry hm xu xl sn kp kr kb kl kw kh hc pg rd rw ro be he kro khe p0) (cwV 1 hts gX7_play_X7_isSong rfl rfl rfl (by decide +kernel) ⟨Nat.le_of_ble_eq_true rfl, Nat.le_of_ble_eq_true rfl⟩) (vz_pvR (va_recv hK hP (ci := 7) (q0 := 0) rfl rfl) hZ hP) rfl rfl hl.1 rfl (lv_room (Nat.le_of_ble_eq_true rfl)) dX7_play_2 ⟨Nat.zero_le _, Nat.zero_le _⟩) (fun r_2 hr_2 => ?_)
  subst hr_2
  refine lv_if_ne (tgt := 11) hx hb dX7_play_5 (by decide) (fun c_5 => ?_) (fun c_5 => ?_)
  · skip
    replace c_5 := vz_b1 c_5
    obtain ⟨hs, hs1⟩ := mo_song c_5 hsg
    refine lv_aload_n hx hb dX7_play_11 rfl (lv_at hl 0 rfl) ?_
    refine vp_callSi (W.runV (As := []) (rest := []) ⟨hx, hb, hml, hown, hts⟩ (c_X7_mayNow l D cI g pm rm rr st sg rn bg la ws pr ry hm xu xl sn kp kr kb kl kw kh hc pg rd rw ro be he kro khe (by first | assumption | omega) (by first | assumption | omega)) (cwV 0 hts gX7_play_X7_mayNow rfl rfl rfl (by decide +kernel) ⟨Nat.le_of_ble_eq_true rfl, Nat.le_of_ble_eq_true rfl⟩) (vz_pvR (va_recv hK hP (ci := 7) (q0 := 0) rfl rfl) hZ hP) rfl rfl hl.1 rfl (lv_room (Nat.le_of_ble_eq_true rfl)) dX7_play_12 ⟨Nat.zero_le _, Nat.zero_le _⟩) (fun r_12 hr_12 => ?_)
    subst hr_12
    refine lv_iload_n hx hb dX7_play_15 rfl (lv_at hl 1 rfl) ?_
    refine lv_ishr hx hb dX7_play_16 ?_
    refine lv_iconst (v := 1) hx hb dX7_play_17 (by decide) ?_
    refine lv_iand hx hb dX7_play_18 ?_
    refine lv_if_ne (tgt := 25) hx hb dX7_play_19 (by decide) (fun c_19 => ?_) (fun c_19 => ?_)
    · skip
      refine lv_aload_n hx hb dX7_play_25 rfl (lv_at hl 0 rfl) ?_
      refine lv_aload_n hx hb dX7_play_26 rfl (lv_at hl 0 rfl) ?_
      refine lv_aload_n hx hb dX7_play_27 rfl (lv_at hl 0 rfl) ?_
      refine va_get (D := D) (ci := 7) (v := .int bg) (C := RX7) (T := TX7) (N := 30) hx hb hts iX7 hown hK hP 0 rfl rfl 8 (by decide) k82 (fun _ h9 => h9) rfl dX7_play_28 ?_
      refine lv_iload_n hx hb dX7_play_31 rfl (lv_at hl 1 rfl) ?_
      refine vp_callSi (W.runV (As := [.int bg, .int p0]) (rest := [.ref (g 0)]) ⟨hx, hb, hml, hown, hts⟩ (c_X7_bagBehind l D cI g pm rm rr st sg rn bg la ws pr ry hm xu xl sn kp kr kb kl kw kh hc pg rd rw ro be he kro khe bg p0) (cwV 2 hts gX7_play_X7_bagBehind rfl rfl rfl (by decide +kernel) ⟨Nat.le_of_ble_eq_true rfl, Nat.le_of_ble_eq_true rfl⟩) (vz_pvR (va_recv hK hP (ci := 7) (q0 := 0) rfl rfl) hZ hP) rfl rfl hl.1 rfl (lv_room (Nat.le_of_ble_eq_true rfl)) dX7_play_32 ⟨Nat.zero_le _, Nat.zero_le _⟩) (fun r_32 hr_32 => ?_)
      subst hr_32
      refine va_put (D := D) (ci := 7) (v := .int (bk_bag sg bg p0)) (ty := .int) (C := RX7) (T := TX7) (N := 30) hx hb hts iX7 tyX7 tyX7_ok nmX7 hown hK hP hD hS 0 rfl rfl 8 (by decide) k82 (fun _ h9 => h9) rfl (by decide +kernel) rfl rfl (Nat.le_of_ble_eq_true rfl) dX7_play_35 (fun H_35 locs_35 hP9 hD9 hS9 => ?_)
      replace hP : va_P D vwCl (zM cI g pm rm rr st sg rn (bk_bag sg bg p0) la ws pr ry hm xu xl sn kp kr kb kl kw kh hc pg rd rw ro be he kro khe) H_35 := hP9
      replace hD : va_D A (zM cI g pm rm rr st sg rn (bk_bag sg bg p0) la ws pr ry hm xu xl sn kp kr kb kl kw kh hc pg rd rw ro be he kro khe) := hD9
      replace hS := hS9
      clear hP9 hD9 hS9
      refine lv_aload_n hx hb dX7_play_38 rfl (lv_at hl 0 rfl) ?_
      refine lv_iload_n hx hb dX7_play_39 rfl (lv_at hl 1 rfl) ?_
      refine va_put (D := D) (ci := 7) (v := .int p0) (ty := .int) (C := RX7) (T := TX7) (N := 30) hx hb hts iX7 tyX7 tyX7_ok nmX7 hown hK hP hD hS 0 rfl rfl 9 (by decide) k38 (fun _ h9 => h9) rfl (by decide +kernel) rfl rfl (Nat.le_of_ble_eq_true rfl) dX7_play_40 (fun H_40 locs_40 hP9 hD9 hS9 => ?_)
      replace hP : va_P D vwCl (zM cI g pm rm rr st sg rn (bk_bag sg bg p0) p0 ws pr ry hm xu xl sn kp kr kb kl kw kh hc pg rd rw ro be he kro khe) H_40 := hP9
      replace hD : va_D A (zM cI g pm rm rr st sg rn (bk_bag sg bg p0) p0 ws pr ry hm xu xl sn kp kr kb kl kw kh hc pg rd rw ro be he kro khe) := hD9
      replace hS := hS9
      clear hP9 hD9 hS9
      refine lv_aload_n hx hb dX7_play_43 rfl (lv_at hl 0 rfl) ?_
      refine lv_iconst (v := 0) hx hb dX7_play_44 (by decide) ?_
      refine va_put (D := D) (ci := 7) (v := .int 0) (ty := .boolean) (C := RX7) (T := TX7) (N := 30) hx hb hts iX7 tyX7 tyX7_ok nmX7 hown hK hP hD hS 0 rfl rfl 10 (by decide) k85 (fun _ h9 => h9) rfl (by decide +kernel) narrow_b0 rfl (Nat.le_of_ble_eq_true rfl) dX7_play_45 (fun H_45 locs_45 hP9 hD9 hS9 => ?_)
      replace hP : va_P D vwCl (zM cI g pm rm rr st sg rn (bk_bag sg bg p0) p0 false pr ry hm xu xl sn kp kr kb kl kw kh hc pg rd rw ro be he kro khe) H_45 := hP9
      replace hD : va_D A (zM cI g pm rm rr st sg rn (bk_bag sg bg p0) p0 false pr ry hm xu xl sn kp kr kb kl kw kh hc pg rd rw ro be he kro khe) := hD9
      replace hS := hS9
      clear hP9 hD9 hS9
      refine lv_aload_n hx hb dX7_play_48 rfl (lv_at hl 0 rfl) ?_
      refine va_get (D := D) (ci := 7) (v := .ref (g 3)) (C := RX7) (T := TX7) (N := 30) hx hb hts iX7 hown hK hP 0 rfl rfl 12 (by decide) k16 (fun _ h9 => h9) rfl dX7_play_49 ?_
      refine lv_iconst (v := 4) hx hb dX7_play_52 (by decide) ?_
      refine lv_iload_n hx hb dX7_play_53 rfl (lv_at hl 1 rfl) ?_
      refine W.eq (congrArg (fun z => F0 m 54 ls (.int z :: [.int 4, .ref (g 3)])) (hs1)) ?_
      refine lv_imul hx hb dX7_play_54 ?_
      refine W.eq (congrArg (fun z => F0 m 55 ls (.int z :: [.ref (g 3)])) (pk_mul 4 p0.toNatClampNeg : 4 * (nI (p0.toNatClampNeg)) = nI (4 * p0.toNatClampNeg))) ?_
      refine lv_iconst (v := 2) hx hb dX7_play_55 (by decide) ?_
      refine lv_iadd hx hb dX7_play_56 ?_
      refine W.eq (congrArg (fun z => F0 m 57 ls (.int z :: [.ref (g 3)])) (nI_add (4 * p0.toNatClampNeg) 2 : (nI (4 * p0.toNatClampNeg)) + 2 = nI ((4 * p0.toNatClampNeg) + 2))) ?_
      refine lv_dup2_11 hx hb dX7_play_57 rfl rfl ?_
      refine va_iald hx hb hK hP 3 0 rfl rfl (i := nI ((4 * p0.toNatClampNeg) + 2)) (vp_in_nI (by first | assumption | omega) (by first | assumption | omega)) dX7_play_58 ?_
      refine W.eq (congrArg (fun z => F0 m 59 ls (.int z :: [.int (nI ((4 * p0.toNatClampNeg) + 2)), .ref (g 3)])) (vz_ix rw (by first | assumption | omega))) ?_
      refine lv_iconst (v := 1) hx hb dX7_play_59 (by decide) ?_
      refine lv_iadd hx hb dX7_play_60 ?_
      refine va_iast hx hb hK hP hD hS 3 0 rfl rfl (i := nI ((4 * p0.toNatClampNeg) + 2)) (x := (rw ((4 * p0.toNatClampNeg) + 2)) + 1) (vp_in_nI (by first | assumption | omega) (by first | assumption | omega)) dX7_play_61 (fun H_61 locs_61 hP9 hD9 hS9 => ?_)
      rw [show (nI ((4 * p0.toNatClampNeg) + 2) : Int32).toNatClampNeg = (4 * p0.toNatClampNeg) + 2 from nI_clamp (by first | assumption | omega)] at hP9 hD9
      replace hP : va_P D vwCl (zM cI g pm rm rr st sg rn (bk_bag sg bg p0) p0 false pr ry hm xu xl sn kp kr kb kl kw kh hc pg rd (upd rw ((4 * p0.toNatClampNeg) + 2) ((rw ((4 * p0.toNatClampNeg) + 2)) + 1)) ro be he kro khe) H_61 := hP9
      replace hD : va_D A (zM cI g pm rm rr st sg rn (bk_bag sg bg p0) p0 false pr ry hm xu xl sn kp kr kb kl kw kh hc pg rd (upd rw ((4 * p0.toNatClampNeg) + 2) ((rw ((4 * p0.toNatClampNeg) + 2)) + 1)) ro be he kro khe) := hD9
      replace hS := hS9
      clear hP9 hD9 hS9
      refine lv_aload_n hx hb dX7_play_62 rfl (lv_at hl 0 rfl) ?_
      refine va_get (D := D) (ci := 7) (v := .int (bk_bag sg bg p0)) (C := RX7) (T := TX7) (N := 30) hx hb hts iX7 hown hK hP 0 rfl rfl 8 (by decide) k82 (fun _ h9 => h9) rfl dX7_play_63 ?_
      refine vp_callSi (W.runS (As := [.int (bk_bag sg bg p0)]) (rest := []) ⟨hx, hb, hml, hown, hts⟩ (c_X7_ones l (bk_bag sg bg p0)) (va_cwS 1 hts gX7_play_X7_ones rfl rfl rfl (by decide +kernel) ⟨Nat.le_of_ble_eq_true rfl, Nat.le_of_ble_eq_true rfl⟩) (vz_psS) rfl rfl hl.1 rfl (lv_room (Nat.le_of_ble_eq_true rfl)) dX7_play_66 ⟨Nat.zero_le _, Nat.zero_le _⟩) (fun r_66 hr_66 => ?_)
      subst hr_66
      have en_bg : pl_n (mpl sg rw rn bg la p0) (bk_bag sg bg p0) bg = bk_bag sg bg p0 := by first | rfl | (simp only [pl_n, mpl, if_neg c_19]; done) | (simp only [pl_n, mpl, if_neg c_19]; rfl) | (simp only [pl_n, mpl, c_5, c_19, ↓reduceIte, Bool.false_eq_true, if_true, if_false, reduceCtorEq, not_true_eq_false, not_false_eq_true, eq_self]; done) | (simp only [pl_n, mpl, c_5, c_19, ↓reduceIte, Bool.false_eq_true, if_true, if_false, reduceCtorEq, not_true_eq_false, not_false_eq_true, eq_self]; rfl) | (simp [pl_n, mpl, c_5, c_19]; done) | (simp only [pl_n, mpl, if_neg c_19, c_5, ↓reduceIte, Bool.false_eq_true])
      have en_la : pl_n (mpl sg rw rn bg la p0) p0 la = p0 := by first | rfl | (simp only [pl_n, mpl, if_neg c_19]; done) | (simp only [pl_n, mpl, if_neg c_19]; rfl) | (simp only [pl_n, mpl, c_5, c_19, ↓reduceIte, Bool.false_eq_true, if_true, if_false, reduceCtorEq, not_true_eq_false, not_false_eq_true, eq_self]; done) | (simp only [pl_n, mpl, c_5, c_19, ↓reduceIte, Bool.false_eq_true, if_true, if_false, reduceCtorEq, not_true_eq_false, not_false_eq_true, eq_self]; rfl) | (simp [pl_n, mpl, c_5, c_19]; done) | (simp only [pl_n, mpl, if_neg c_19, c_5, ↓reduceIte, Bool.false_eq_true])
      have en_ws : pl_n (mpl sg rw rn bg la p0) false ws = false := by first | rfl | (simp only [pl_n, mpl, if_neg c_19]; done) | (simp only [pl_n, mpl, if_neg c_19]; rfl) | (simp only [pl_n, mpl, c_5, c_19, ↓reduceIte, Bool.false_eq_true, if_true, if_false, reduceCtorEq, not_true_eq_false, not_false_eq_true, eq_self]; done) | (simp only [pl_n, mpl, c_5, c_19, ↓reduceIte, Bool.false_eq_true, if_true, if_false, reduceCtorEq, not_true_eq_false, not_false_eq_true, eq_self]; rfl) | (simp [pl_n, mpl, c_5, c_19]; done) | (simp only [pl_n, mpl, if_neg c_19, c_5, ↓reduceIte, Bool.false_eq_true])
      have en_rw : pl_n (mpl sg rw rn bg la p0) (upd rw (4 * p0.toNatClampNeg + 2) (rw (4 * p0.toNatClampNeg + 2) + 1)) rw = upd rw ((4 * p0.toNatClampNeg) + 2) ((rw ((4 * p0.toNatClampNeg) + 2)) + 1) := by first | rfl | (simp only [pl_n, mpl, if_neg c_19]; done) | (simp only [pl_n, mpl, if_neg c_19]; rfl) | (simp only [pl_n, mpl, c_5, c_19, ↓reduceIte, Bool.false_eq_true, if_true, if_false, reduceCtorEq, not_true_eq_false, not_false_eq_true, eq_self]; done) | (simp only [pl_n, mpl, c_5, c_19, ↓reduceIte, Bool.false_eq_true, if_true, if_false, reduceCtorEq, not_true_eq_false, not_false_eq_true, eq_self]; rfl) | (simp [pl_n, mpl, c_5, c_19]; done) | (simp only [pl_n, mpl, if_neg c_19, c_5, ↓reduceIte, Bool.false_eq_true])
      exact W.iret hx hb hr (fun t ht hW => ⟨⟨_, (), rfl, (by first | rfl | (simp only [pl_n, mpl, if_neg c_19]; done) | (simp only [pl_n, mpl, if_neg c_19]; rfl) | (simp only [pl_n, mpl, c_5, c_19, ↓reduceIte, Bool.false_eq_true, if_true, if_false, reduceCtorEq, not_true_eq_false, not_false_eq_true, eq_self]; done) | (simp only [pl_n, mpl, c_5, c_19, ↓reduceIte, Bool.false_eq_true, if_true, if_false, reduceCtorEq, not_true_eq_false, not_false_eq_true, eq_self]; rfl) | (simp [pl_n, mpl, c_5, c_19]; done) | (simp only [pl_n, mpl, if_neg c_19, c_5, ↓reduceIte, Bool.false_eq_true])), (by show va_P D vwCl (zM cI g pm rm rr st sg rn (pl_n (mpl sg rw rn bg la p0) (bk_bag sg bg p0) bg) (pl_n (mpl sg rw rn bg la p0) p0 la) (pl_n (mpl sg rw rn bg la p0) false ws) pr ry hm xu xl sn kp kr kb kl kw kh hc pg rd (pl_n (mpl sg rw rn bg la p0) (upd rw (4 * p0.toNatClampNeg + 2) (rw (4 * p0.toNatClampNeg + 2) + 1)) rw) ro be he kro khe) t.heap; rw [ht, en_bg, en_la, en_ws, en_rw]; exact hP)⟩, hS.F ht⟩) hS.2.2 dX7_play_69
    · skip
      refine lv_bipush (v := (-103)) hx hb dX7_play_22 (by decide) ?_
      have en_bg : pl_n (mpl sg rw rn bg la p0) (bk_bag sg bg p0) bg = bg := by first | rfl | (simp only [pl_n, mpl, if_pos c_19]; done) | (simp only [pl_n, mpl, if_pos c_19]; rfl) | (simp only [pl_n, mpl, c_5, c_19, ↓reduceIte, Bool.false_eq_true, if_true, if_false, reduceCtorEq, not_true_eq_false, not_false_eq_true, eq_self]; done) | (simp only [pl_n, mpl, c_5, c_19, ↓reduceIte, Bool.false_eq_true, if_true, if_false, reduceCtorEq, not_true_eq_false, not_false_eq_true, eq_self]; rfl) | (simp [pl_n, mpl, c_5, c_19]; done) | (simp only [pl_n, mpl, if_pos c_19, c_5, ↓reduceIte, Bool.false_eq_true])
      have en_la : pl_n (mpl sg rw rn bg la p0) p0 la = la := by first | rfl | (simp only [pl_n, mpl, if_pos c_19]; done) | (simp only [pl_n, mpl, if_pos c_19]; rfl) | (simp only [pl_n, mpl, c_5, c_19, ↓reduceIte, Bool.false_eq_true, if_true, if_false, reduceCtorEq, not_true_eq_false, not_false_eq_true, eq_self]; done) | (simp only [pl_n, mpl, c_5, c_19, ↓reduceIte, Bool.false_eq_true, if_true, if_false, reduceCtorEq, not_true_eq_false, not_false_eq_true, eq_self]; rfl) | (simp [pl_n, mpl, c_5, c_19]; done) | (simp only [pl_n, mpl, if_pos c_19, c_5, ↓reduceIte, Bool.false_eq_true])
      have en_ws : pl_n (mpl sg rw rn bg la p0) false ws = ws := by first | rfl | (simp only [pl_n, mpl, if_pos c_19]; done) | (simp only [pl_n, mpl, if_pos c_19]; rfl) | (simp only [pl_n, mpl, c_5, c_19, ↓reduceIte, Bool.false_eq_true, if_true, if_false, reduceCtorEq, not_true_eq_false, not_false_eq_true, eq_self]; done) | (simp only [pl_n, mpl, c_5, c_19, ↓reduceIte, Bool.false_eq_true, if_true, if_false, reduceCtorEq, not_true_eq_false, not_false_eq_true, eq_self]; rfl) | (simp [pl_n, mpl, c_5, c_19]; done) | (simp only [pl_n, mpl, if_pos c_19, c_5, ↓reduceIte, Bool.false_eq_true])
      have en_rw : pl_n (mpl sg rw rn bg la p0) (upd rw (4 * p0.toNatClampNeg + 2) (rw (4 * p0.toNatClampNeg + 2) + 1)) rw = rw := by first | rfl | (simp only [pl_n, mpl, if_pos c_19]; done) | (simp only [pl_n, mpl, if_pos c_19]; rfl) | (simp only [pl_n, mpl, c_5, c_19, ↓reduceIte, Bool.false_eq_true, if_true, if_false, reduceCtorEq, not_true_eq_false, not_false_eq_true, eq_self]; done) | (simp only [pl_n, mpl, c_5, c_19, ↓reduceIte, Bool.false_eq_true, if_true, if_false, reduceCtorEq, not_true_eq_false, not_false_eq_true, eq_self]; rfl) | (simp [pl_n, mpl, c_5, c_19]; done) | (simp only [pl_n, mpl, if_pos c_19, c_5, ↓reduceIte, Bool.false_eq_true])
      exact W.iret hx hb hr (fun t ht hW => ⟨⟨_, (), rfl, (by first | rfl | (simp only [pl_n, mpl, if_pos c_19]; done) | (simp only [pl_n, mpl, if_pos c_19]; rfl) | (simp only [pl_n, mpl, c_5, c_19, ↓reduceIte, Bool.false_eq_true, if_true, if_false, reduceCtorEq, not_true_eq_false, not_false_eq_true, eq_self]; done) | (simp only [pl_n, mpl, c_5, c_19, ↓reduceIte, Bool.false_eq_true, if_true, if_false, reduceCtorEq, not_true_eq_false, not_false_eq_true, eq_self]; rfl) | (simp [pl_n, mpl, c_5, c_19]; done) | (simp only [pl_n, mpl, if_pos c_19, c_5, ↓reduceIte, Bool.false_eq_true])), (by show va_P D vwCl (zM cI g pm rm rr st sg rn (pl_n (mpl sg rw rn bg la p0) (bk_bag sg bg p0) bg) (pl_n (mpl sg rw rn bg la p0) p0 la) (pl_n (mpl sg rw rn bg la p0) false ws) pr ry hm xu xl sn kp kr kb kl kw kh hc pg rd (pl_n (mpl sg rw rn bg la p0) (upd rw (4 * p0.toNatClampNeg + 2) (rw (4 * p0.toNatClampNeg + 2) + 1)) rw) ro be he kro khe) t.heap; rw [ht, en_bg, en_la, en_ws, en_rw]; exact hP)⟩, hS.F ht⟩) hS.2.2 dX7_play_24
  · skip
    replace c_5 := vz_b0 c_5
    refine lv_bipush (v := (-101)) hx hb dX7_play_8 (by decide) ?_
    have en_bg : pl_n (mpl sg rw rn bg la p0) (bk_bag sg bg p0) bg = bg := by first | rfl | (simp only [pl_n, mpl]; done) | (simp only [pl_n, mpl]; rfl) | (simp only [pl_n, mpl, c_5, ↓reduceIte, Bool.false_eq_true, if_true, if_false, reduceCtorEq, not_true_eq_false, not_false_eq_true, eq_self]; done) | (simp only [pl_n, mpl, c_5, ↓reduceIte, Bool.false_eq_true, if_true, if_false, reduceCtorEq, not_true_eq_false, not_false_eq_true, eq_self]; rfl) | (simp [pl_n, mpl, c_5]; done)
    have en_la : pl_n (mpl sg rw rn bg la p0) p0 la = la := by first | rfl | (simp only [pl_n, mpl]; done) | (simp only [pl_n, mpl]; rfl) | (simp only [pl_n, mpl, c_5, ↓reduceIte, Bool.false_eq_true, if_true, if_false, reduceCtorEq, not_true_eq_false, not_false_eq_true, eq_self]; done) | (simp only [pl_n, mpl, c_5, ↓reduceIte, Bool.false_eq_true, if_true, if_false, reduceCtorEq, not_true_eq_false, not_false_eq_true, eq_self]; rfl) | (simp [pl_n, mpl, c_5]; done)
    have en_ws : pl_n (mpl sg rw rn bg la p0) false ws = ws := by first | rfl | (simp only [pl_n, mpl]; done) | (simp only [pl_n, mpl]; rfl) | (simp only [pl_n, mpl, c_5, ↓reduceIte, Bool.false_eq_true, if_true, if_false, reduceCtorEq, not_true_eq_false, not_false_eq_true, eq_self]; done) | (simp only [pl_n, mpl, c_5, ↓reduceIte, Bool.false_eq_true, if_true, if_false, reduceCtorEq, not_true_eq_false, not_false_eq_true, eq_self]; rfl) | (simp [pl_n, mpl, c_5]; done)
    have en_rw : pl_n (mpl sg rw rn bg la p0) (upd rw (4 * p0.toNatClampNeg + 2) (rw (4 * p0.toNatClampNeg + 2) + 1)) rw = rw := by first | rfl | (simp only [pl_n, mpl]; done) | (simp only [pl_n, mpl]; rfl) | (simp only [pl_n, mpl, c_5, ↓reduceIte, Bool.false_eq_true, if_true, if_false, reduceCtorEq, not_true_eq_false, not_false_eq_true, eq_self]; done) | (simp only [pl_n, mpl, c_5, ↓reduceIte, Bool.false_eq_true, if_true, if_false, reduceCtorEq, not_true_eq_false, not_false_eq_true, eq_self]; rfl) | (simp [pl_n, mpl, c_5]; done)
    exact W.iret hx hb hr (fun t ht hW => ⟨⟨_, (), rfl, (by first | rfl | (simp only [pl_n, mpl]; done) | (simp only [pl_n, mpl]; rfl) | (simp only [pl_n, mpl, c_5, ↓reduceIte, Bool.false_eq_true, if_true, if_false, reduceCtorEq, not_true_eq_false, not_false_eq_true, eq_self]; done) | (simp only [pl_n, mpl, c_5, ↓reduceIte, Bool.false_eq_true, if_true, if_false, reduceCtorEq, not_true_eq_false, not_false_eq_true, eq_self]; rfl) | (simp [pl_n, mpl, c_5]; done)), (by show va_P D vwCl (zM cI g pm rm rr st sg rn (pl_n (mpl sg rw rn bg la p0) (bk_bag sg bg p0) bg) (pl_n (mpl sg rw rn bg la p0) p0 la) (pl_n (mpl sg rw rn bg la p0) false ws) pr ry hm xu xl sn kp kr kb kl kw kh hc pg rd (pl_n (mpl sg rw rn bg la p0) (upd rw (4 * p0.toNatClampNeg + 2) (rw (4 * p0.toNatClampNeg + 2) + 1)) rw) ro be he kro khe) t.heap; rw [ht, en_bg, en_la, en_ws, en_rw]; exact hP)⟩, hS.F ht⟩) hS.2.2 dX7_play_10
set_option maxHeartbeats 4000000 in
set_option maxRecDepth 100000 in
theorem c_X7_skip (l : Launch) (D : va_G) (cI : ClassId) (g : Nat → Nat) (pm : Nat) (rm : Nat) (rr : Int32) (st : Nat) (sg : Nat) (rn : Int32) (bg : Int32) (la : Int32) (ws : Bool) (pr : Nat) (ry : Nat) (hm : Nat) (xu : Int64) (xl : Int64) (sn : Int32) (kp : Int32) (kr : Int32) (kb : Int32) (kl : Int32) (kw : Bool) (kh : Nat) (hc : Int64) (pg : Nat → Int32) (rd : Nat → Int32) (rw : Nat → Int32) (ro : Nat → Int32) (be : Nat → Int32) (he : Nat → Int32) (kro : Nat → Int32) (khe : Nat → Int32) (sz : Nat) (hsg : sg ≤ 6) (hbf : la = -1 ∨ ∃ b : Nat, b < sg ∧ la = nI b) : Met l yX7_skip wsX7_skip ({ frames := 2, cells := 0, slots := 0, locals := 43 } : Room) (vz_rw D cI (zM cI g pm rm rr st sg rn bg la ws pr ry hm xu xl sn kp kr kb kl kw kh hc pg rd rw ro be he kro khe) sz [.ref (g 0)]) (va_Qi (fun r (_ : Unit) => r = if la = -1 then -103 else if ws then -103 else mo_w (upd rw (4 * la.toNatClampNeg + 3) (rw (4 * la.toNatClampNeg + 3) + 1)) la.toNatClampNeg) (fun (u : Unit) (t : State) => va_P D vwCl (zM cI g pm rm rr st sg rn bg la (pl_n (sk_ok la ws) true ws) pr ry hm xu xl sn kp kr kb kl kw kh hc pg rd (pl_n (sk_ok la ws) (upd rw (4 * la.toNatClampNeg + 3) (rw (4 * la.toNatClampNeg + 3) + 1)) rw) ro be he kro khe) t.heap) (va_A (zM cI g pm rm rr st sg rn bg la ws pr ry hm xu xl sn kp kr kb kl kw kh hc pg rd rw ro be he kro khe) sz)) 0 0 (va_A (zM cI g pm rm rr st sg rn bg la ws pr ry hm xu xl sn kp kr kb kl kw kh hc pg rd rw ro be he kro khe) sz) := by
  refine Met.ofW (cc := cX7_skip) (maxL := 1) (ret := (some .int)) (by decide) rfl ?_
  intro p e s m args below meth c s₁ B hml hv
  obtain ⟨rfl, hsz, hP, hZ, hD0⟩ := hv
  obtain ⟨hK, hN⟩ := id hZ
  have hx := B.exec
  have hb := B.bytes
  have hr := B.returns
  have hts := atoms_spec (ws := wsX7_skip) B.pre
  have hown : s.vm.findClass RX7 = some m.cls := findClass_of_methodNamed B.named
  have hlocks := B.notSynchronized
  subst hsz
  have hD := hD0.self (sz := s.heap.size)
  generalize hAe : va_A (zM cI g pm rm rr st sg rn bg la ws pr ry hm xu xl sn kp kr kb kl kw kh hc pg rd rw ro be he kro khe) s.heap.size = A at hD ⊢
  have hA : ∀ q : Nat, s.heap.size ≤ q → A q := fun q h => by rw [← hAe]; exact Or.inr h
  have hS : va_S A s.heap s.heap [] := va_S.rf
  have k16 := hts (.fieldLink RX7 16 "SongsAgainModel" "rows" "[I") (List.mem_of_getElem? (i := 3) rfl)
  have k38 := hts (.fieldLink RX7 38 "SongsAgainModel" "last" "I") (List.mem_of_getElem? (i := 1) rfl)
  have k85 := hts (.fieldLink RX7 85 "SongsAgainModel" "wasSkipped" "Z") (List.mem_of_getElem? (i := 2) rfl)
  have iX7 : ∀ w ∈ u_ws RX7 TX7 30, w ∈ wsX7_skip := vz_in (i := 13) (n := 30) rfl
  have hl := lv_entry ([.ref (g 0)]) (n := 1) (Nat.le_of_ble_eq_true rfl)
  rw [lg_entry_eq]
  generalize (lg_sl ([.ref (g 0)]) ++ List.replicate (1 - (lg_sl ([.ref (g 0)])).length) Slot.unset).toArray = ls at hl ⊢
  have hl : lv_has ls 1 [(0, .ref (g 0))] := hl
  have hP : va_P D vwCl (zM cI g pm rm rr st sg rn bg la ws pr ry hm xu xl sn kp kr kb kl kw kh hc pg rd rw ro be he kro khe) s.heap := hP
  refine lv_aload_n hx hb dX7_skip_0 rfl (lv_at hl 0 rfl) ?_
  refine va_get (D := D) (ci := 7) (v := .int la) (C := RX7) (T := TX7) (N := 30) hx hb hts iX7 hown hK hP 0 rfl rfl 9 (by decide) k38 (fun _ h9 => h9) rfl dX7_skip_1 ?_
  refine lv_iconst (v := (-1)) hx hb dX7_skip_4 (by decide) ?_
  refine lv_icmp_eq (tgt := 15) hx hb dX7_skip_5 (by decide) (fun c_5 => ?_) (fun c_5 => ?_)
  · skip
    refine lv_bipush (v := (-103)) hx hb dX7_skip_15 (by decide) ?_
    have en_ws : pl_n (sk_ok la ws) true ws = ws := by first | rfl | (simp only [pl_n, sk_ok, if_pos c_5]; done) | (simp only [pl_n, sk_ok, if_pos c_5]; rfl) | (simp only [pl_n, sk_ok, c_5, ↓reduceIte, Bool.false_eq_true, if_true, if_false, reduceCtorEq, not_true_eq_false, not_false_eq_true, eq_self]; done) | (simp only [pl_n, sk_ok, c_5, ↓reduceIte, Bool.false_eq_true, if_true, if_false, reduceCtorEq, not_true_eq_false, not_false_eq_true, eq_self]; rfl) | (simp [pl_n, sk_ok, c_5]; done)
    have en_rw : pl_n (sk_ok la ws) (upd rw (4 * la.toNatClampNeg + 3) (rw (4 * la.toNatClampNeg + 3) + 1)) rw = rw := by first | rfl | (simp only [pl_n, sk_ok, if_pos c_5]; done) | (simp only [pl_n, sk_ok, if_pos c_5]; rfl) | (simp only [pl_n, sk_ok, c_5, ↓reduceIte, Bool.false_eq_true, if_true, if_false, reduceCtorEq, not_true_eq_false, not_false_eq_true, eq_self]; done) | (simp only [pl_n, sk_ok, c_5, ↓reduceIte, Bool.false_eq_true, if_true, if_false, reduceCtorEq, not_true_eq_false, not_false_eq_true, eq_self]; rfl) | (simp [pl_n, sk_ok, c_5]; done)
    exact W.iret hx hb hr (fun t ht hW => ⟨⟨_, (), rfl, (by first | rfl | (simp only [pl_n, sk_ok, if_pos c_5]; done) | (simp only [pl_n, sk_ok, if_pos c_5]; rfl) | (simp only [pl_n, sk_ok, c_5, ↓reduceIte, Bool.false_eq_true, if_true, if_false, reduceCtorEq, not_true_eq_false, not_false_eq_true, eq_self]; done) | (simp only [pl_n, sk_ok, c_5, ↓reduceIte, Bool.false_eq_true, if_true, if_false, reduceCtorEq, not_true_eq_false, not_false_eq_true, eq_self]; rfl) | (simp [pl_n, sk_ok, c_5]; done)), (by show va_P D vwCl (zM cI g pm rm rr st sg rn bg la (pl_n (sk_ok la ws) true ws) pr ry hm xu xl sn kp kr kb kl kw kh hc pg rd (pl_n (sk_ok la ws) (upd rw (4 * la.toNatClampNeg + 3) (rw (4 * la.toNatClampNeg + 3) + 1)) rw) ro be he kro khe) t.heap; rw [ht, en_ws, en_rw]; exact hP)⟩, hS.F ht⟩) hS.2.2 dX7_skip_17
  · skip
    obtain ⟨hs, hs1⟩ := vz_la hbf c_5 hsg
    refine lv_aload_n hx hb dX7_skip_8 rfl (lv_at hl 0 rfl) ?_
    refine va_get (D := D) (ci := 7) (v := .int (vz_b ws)) (C := RX7) (T := TX7) (N := 30) hx hb hts iX7 hown hK hP 0 rfl rfl 10 (by decide) k85 (fun _ h9 => h9) rfl dX7_skip_9 ?_
    refine lv_if_eq (tgt := 18) hx hb dX7_skip_12 (by decide) (fun c_12 => ?_) (fun c_12 => ?_)
    · skip
      replace c_12 := vz_b0 c_12
      refine lv_aload_n hx hb dX7_skip_18 rfl (lv_at hl 0 rfl) ?_
      refine lv_iconst (v := 1) hx hb dX7_skip_19 (by decide) ?_
      refine va_put (D := D) (ci := 7) (v := .int 1) (ty := .boolean) (C := RX7) (T := TX7) (N := 30) hx hb hts iX7 tyX7 tyX7_ok nmX7 hown hK hP hD hS 0 rfl rfl 10 (by decide) k85 (fun _ h9 => h9) rfl (by decide +kernel) narrow_b1 rfl (Nat.le_of_ble_eq_true rfl) dX7_skip_20 (fun H_20 locs_20 hP9 hD9 hS9 => ?_)
      replace hP : va_P D vwCl (zM cI g pm rm rr st sg rn bg la true pr ry hm xu xl sn kp kr kb kl kw kh hc pg rd rw ro be he kro khe) H_20 := hP9
      replace hD : va_D A (zM cI g pm rm rr st sg rn bg la true pr ry hm xu xl sn kp kr kb kl kw kh hc pg rd rw ro be he kro khe) := hD9
      replace hS := hS9
      clear hP9 hD9 hS9
      refine lv_aload_n hx hb dX7_skip_23 rfl (lv_at hl 0 rfl) ?_
      refine va_get (D := D) (ci := 7) (v := .ref (g 3)) (C := RX7) (T := TX7) (N := 30) hx hb hts iX7 hown hK hP 0 rfl rfl 12 (by decide) k16 (fun _ h9 => h9) rfl dX7_skip_24 ?_
      refine lv_iconst (v := 4) hx hb dX7_skip_27 (by decide) ?_
      refine lv_aload_n hx hb dX7_skip_28 rfl (lv_at hl 0 rfl) ?_
      refine va_get (D := D) (ci := 7) (v := .int la) (C := RX7) (T := TX7) (N := 30) hx hb hts iX7 hown hK hP 0 rfl rfl 9 (by decide) k38 (fun _ h9 => h9) rfl dX7_skip_29 ?_
      refine W.eq (congrArg (fun z => F0 m 32 ls (.int z :: [.int 4, .ref (g 3)])) (hs1)) ?_
      refine lv_imul hx hb dX7_skip_32 ?_
      refine W.eq (congrArg (fun z => F0 m 33 ls (.int z :: [.ref (g 3)])) (pk_mul 4 la.toNatClampNeg : 4 * (nI (la.toNatClampNeg)) = nI (4 * la.toNatClampNeg))) ?_
      refine lv_iconst (v := 3) hx hb dX7_skip_33 (by decide) ?_
      refine lv_iadd hx hb dX7_skip_34 ?_
      refine W.eq (congrArg (fun z => F0 m 35 ls (.int z :: [.ref (g 3)])) (nI_add (4 * la.toNatClampNeg) 3 : (nI (4 * la.toNatClampNeg)) + 3 = nI ((4 * la.toNatClampNeg) + 3))) ?_
      refine lv_dup2_11 hx hb dX7_skip_35 rfl rfl ?_
      refine va_iald hx hb hK hP 3 0 rfl rfl (i := nI ((4 * la.toNatClampNeg) + 3)) (vp_in_nI (by first | assumption | omega) (by first | assumption | omega)) dX7_skip_36 ?_
      refine W.eq (congrArg (fun z => F0 m 37 ls (.int z :: [.int (nI ((4 * la.toNatClampNeg) + 3)), .ref (g 3)])) (vz_ix rw (by first | assumption | omega))) ?_
      refine lv_iconst (v := 1) hx hb dX7_skip_37 (by decide) ?_
      refine lv_iadd hx hb dX7_skip_38 ?_
      refine va_iast hx hb hK hP hD hS 3 0 rfl rfl (i := nI ((4 * la.toNatClampNeg) + 3)) (x := (rw ((4 * la.toNatClampNeg) + 3)) + 1) (vp_in_nI (by first | assumption | omega) (by first | assumption | omega)) dX7_skip_39 (fun H_39 locs_39 hP9 hD9 hS9 => ?_)
      rw [show (nI ((4 * la.toNatClampNeg) + 3) : Int32).toNatClampNeg = (4 * la.toNatClampNeg) + 3 from nI_clamp (by first | assumption | omega)] at hP9 hD9
      replace hP : va_P D vwCl (zM cI g pm rm rr st sg rn bg la true pr ry hm xu xl sn kp kr kb kl kw kh hc pg rd (upd rw ((4 * la.toNatClampNeg) + 3) ((rw ((4 * la.toNatClampNeg) + 3)) + 1)) ro be he kro khe) H_39 := hP9
      replace hD : va_D A (zM cI g pm rm rr st sg rn bg la true pr ry hm xu xl sn kp kr kb kl kw kh hc pg rd (upd rw ((4 * la.toNatClampNeg) + 3) ((rw ((4 * la.toNatClampNeg) + 3)) + 1)) ro be he kro khe) := hD9
      replace hS := hS9
      clear hP9 hD9 hS9
      refine lv_aload_n hx hb dX7_skip_40 rfl (lv_at hl 0 rfl) ?_
      refine lv_aload_n hx hb dX7_skip_41 rfl (lv_at hl 0 rfl) ?_
      refine va_get (D := D) (ci := 7) (v := .int la) (C := RX7) (T := TX7) (N := 30) hx hb hts iX7 hown hK hP 0 rfl rfl 9 (by decide) k38 (fun _ h9 => h9) rfl dX7_skip_42 ?_
      refine W.eq (congrArg (fun z => F0 m 45 ls (.int z :: [.ref (g 0)])) (hs1)) ?_
      refine vp_callSi (W.runV (As := [.int (nI (la.toNatClampNeg))]) (rest := []) ⟨hx, hb, hml, hown, hts⟩ (c_X7_weightOf l D cI g pm rm rr st sg rn bg la true pr ry hm xu xl sn kp kr kb kl kw kh hc pg rd (upd rw ((4 * la.toNatClampNeg) + 3) ((rw ((4 * la.toNatClampNeg) + 3)) + 1)) ro be he kro khe la.toNatClampNeg (by first | assumption | omega) (by first | assumption | omega)) (cwV 1 hts gX7_skip_X7_weightOf rfl rfl rfl (by decide +kernel) ⟨Nat.le_of_ble_eq_true rfl, Nat.le_of_ble_eq_true rfl⟩) (vz_pvR (va_recv hK hP (ci := 7) (q0 := 0) rfl rfl) hZ hP) rfl rfl hl.1 rfl (lv_room (Nat.le_of_ble_eq_true rfl)) dX7_skip_45 ⟨Nat.zero_le _, Nat.zero_le _⟩) (fun r_45 hr_45 => ?_)
      subst hr_45
      have en_ws : pl_n (sk_ok la ws) true ws = true := by first | rfl | (simp only [pl_n, sk_ok, if_neg c_5]; done) | (simp only [pl_n, sk_ok, if_neg c_5]; rfl) | (simp only [pl_n, sk_ok, c_5, c_12, ↓reduceIte, Bool.false_eq_true, if_true, if_false, reduceCtorEq, not_true_eq_false, not_false_eq_true, eq_self]; done) | (simp only [pl_n, sk_ok, c_5, c_12, ↓reduceIte, Bool.false_eq_true, if_true, if_false, reduceCtorEq, not_true_eq_false, not_false_eq_true, eq_self]; rfl) | (simp [pl_n, sk_ok, c_5, c_12]; done) | (simp only [pl_n, sk_ok, if_neg c_5, c_12, ↓reduceIte, Bool.false_eq_true])
      have en_rw : pl_n (sk_ok la ws) (upd rw (4 * la.toNatClampNeg + 3) (rw (4 * la.toNatClampNeg + 3) + 1)) rw = upd rw ((4 * la.toNatClampNeg) + 3) ((rw ((4 * la.toNatClampNeg) + 3)) + 1) := by first | rfl | (simp only [pl_n, sk_ok, if_neg c_5]; done) | (simp only [pl_n, sk_ok, if_neg c_5]; rfl) | (simp only [pl_n, sk_ok, c_5, c_12, ↓reduceIte, Bool.false_eq_true, if_true, if_false, reduceCtorEq, not_true_eq_false, not_false_eq_true, eq_self]; done) | (simp only [pl_n, sk_ok, c_5, c_12, ↓reduceIte, Bool.false_eq_true, if_true, if_false, reduceCtorEq, not_true_eq_false, not_false_eq_true, eq_self]; rfl) | (simp [pl_n, sk_ok, c_5, c_12]; done) | (simp only [pl_n, sk_ok, if_neg c_5, c_12, ↓reduceIte, Bool.false_eq_true])
      exact W.iret hx hb hr (fun t ht hW => ⟨⟨_, (), rfl, (by first | rfl | (simp only [pl_n, sk_ok, if_neg c_5]; done) | (simp only [pl_n, sk_ok, if_neg c_5]; rfl) | (simp only [pl_n, sk_ok, c_5, c_12, ↓reduceIte, Bool.false_eq_true, if_true, if_false, reduceCtorEq, not_true_eq_false, not_false_eq_true, eq_self]; done) | (simp only [pl_n, sk_ok, c_5, c_12, ↓reduceIte, Bool.false_eq_true, if_true, if_false, reduceCtorEq, not_true_eq_false, not_false_eq_true, eq_self]; rfl) | (simp [pl_n, sk_ok, c_5, c_12]; done) | (simp only [pl_n, sk_ok, if_neg c_5, c_12, ↓reduceIte, Bool.false_eq_true])), (by show va_P D vwCl (zM cI g pm rm rr st sg rn bg la (pl_n (sk_ok la ws) true ws) pr ry hm xu xl sn kp kr kb kl kw kh hc pg rd (pl_n (sk_ok la ws) (upd rw (4 * la.toNatClampNeg + 3) (rw (4 * la.toNatClampNeg + 3) + 1)) rw) ro be he kro khe) t.heap; rw [ht, en_ws, en_rw]; exact hP)⟩, hS.F ht⟩) hS.2.2 dX7_skip_48
    · skip
      replace c_12 := vz_b1 c_12
      refine lv_bipush (v := (-103)) hx hb dX7_skip_15 (by decide) ?_
      have en_ws : pl_n (sk_ok la ws) true ws = ws := by first | rfl | (simp only [pl_n, sk_ok, if_neg c_5]; done) | (simp only [pl_n, sk_ok, if_neg c_5]; rfl) | (simp only [pl_n, sk_ok, c_5, c_12, ↓reduceIte, Bool.false_eq_true, if_true, if_false, reduceCtorEq, not_true_eq_false, not_false_eq_true, eq_self]; done) | (simp only [pl_n, sk_ok, c_5, c_12, ↓reduceIte, Bool.false_eq_true, if_true, if_false, reduceCtorEq, not_true_eq_false, not_false_eq_true, eq_self]; rfl) | (simp [pl_n, sk_ok, c_5, c_12]; done) | (simp only [pl_n, sk_ok, if_neg c_5, c_12, ↓reduceIte, Bool.false_eq_true])
      have en_rw : pl_n (sk_ok la ws) (upd rw (4 * la.toNatClampNeg + 3) (rw (4 * la.toNatClampNeg + 3) + 1)) rw = rw := by first | rfl | (simp only [pl_n, sk_ok, if_neg c_5]; done) | (simp only [pl_n, sk_ok, if_neg c_5]; rfl) | (simp only [pl_n, sk_ok, c_5, c_12, ↓reduceIte, Bool.false_eq_true, if_true, if_false, reduceCtorEq, not_true_eq_false, not_false_eq_true, eq_self]; done) | (simp only [pl_n, sk_ok, c_5, c_12, ↓reduceIte, Bool.false_eq_true, if_true, if_false, reduceCtorEq, not_true_eq_false, not_false_eq_true, eq_self]; rfl) | (simp [pl_n, sk_ok, c_5, c_12]; done) | (simp only [pl_n, sk_ok, if_neg c_5, c_12, ↓reduceIte, Bool.false_eq_true])
      exact W.iret hx hb hr (fun t ht hW => ⟨⟨_, (), rfl, (by first | rfl | (simp only [pl_n, sk_ok, if_neg c_5]; done) | (simp only [pl_n, sk_ok, if_neg c_5]; rfl) | (simp only [pl_n, sk_ok, c_5, c_12, ↓reduceIte, Bool.false_eq_true, if_true, if_false, reduceCtorEq, not_true_eq_false, not_false_eq_true, eq_self]; done) | (simp only [pl_n, sk_ok, c_5, c_12, ↓reduceIte, Bool.false_eq_true, if_true, if_false, reduceCtorEq, not_true_eq_false, not_false_eq_true, eq_self]; rfl) | (simp [pl_n, sk_ok, c_5, c_12]; done) | (simp only [pl_n, sk_ok, if_neg c_5, c_12, ↓reduceIte, Bool.false_eq_true])), (by show va_P D vwCl (zM cI g pm rm rr st sg rn bg la (pl_n (sk_ok la ws) true ws) pr ry hm xu xl sn kp kr kb kl kw kh hc pg rd (pl_n (sk_ok la ws) (upd rw (4 * la.toNatClampNeg + 3) (rw (4 * la.toNatClampNeg + 3) + 1)) rw) ro be he kro khe) t.heap; rw [ht, en_ws, en_rw]; exact hP)⟩, hS.F ht⟩) hS.2.2 dX7_skip_17

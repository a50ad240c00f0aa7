set_option maxHeartbeats 4000000 in
set_option maxRecDepth 100000 in
theorem c_X7_hear (l : Launch) (D : va_G) (cI : ClassId) (g : Nat → Nat) (pm : Nat) (rm : Nat) (rr : Int32) (st : Nat) (sg : Nat) (rn : Int32) (bg : Int32) (la : Int32) (ws : Bool) (pr : Nat) (ry : Nat) (hm : Nat) (xu : Int64) (xl : Int64) (sn : Int32) (kp : Int32) (kr : Int32) (kb : Int32) (kl : Int32) (kw : Bool) (kh : Nat) (hc : Int64) (pg : Nat → Int32) (rd : Nat → Int32) (rw : Nat → Int32) (ro : Nat → Int32) (be : Nat → Int32) (he : Nat → Int32) (kro : Nat → Int32) (khe : Nat → Int32) (sz : Nat) (p0 : Int32) (hhm : hm ≤ 8) : Met l yX7_hear wsX7_hear ({ frames := 2, cells := 0, slots := 0, locals := 46 } : Room) (vz_rw D cI (zM cI g pm rm rr st sg rn bg la ws pr ry hm xu xl sn kp kr kb kl kw kh hc pg rd rw ro be he kro khe) sz [.ref (g 0), .int p0]) (va_Qi (fun r (_ : Unit) => r = if mo_in (p0 : Int32).toInt64 0 (nI sg - 1).toInt64 then (if nI hm = 8 then -104 else nI (hm + 1)) else -101) (fun (u : Unit) (t : State) => va_P D vwCl (zM cI g pm rm rr st sg rn bg la ws pr ry (pl_n (mhe sg hm p0) (hm + 1) hm) xu xl sn kp kr kb kl kw kh hc pg rd rw ro be (pl_n (mhe sg hm p0) (upd he hm p0) he) kro khe) t.heap) (va_A (zM cI g pm rm rr st sg rn bg la ws pr ry hm xu xl sn kp kr kb kl kw kh hc pg rd rw ro be he kro khe) sz)) 0 0 (va_A (zM cI g pm rm rr st sg rn bg la ws pr ry hm xu xl sn kp kr kb kl kw kh hc pg rd rw ro be he kro khe) sz) := by
  refine Met.ofW (cc := cX7_hear) (maxL := 2) (ret := (some .int)) (by decide) rfl ?_
  intro p e s m args below meth c s₁ B hml hv
  obtain ⟨rfl, hsz, hP, hZ, hD0⟩ := hv
  obtain ⟨hK, hN⟩ := id hZ
  have hx := B.exec
  have hb := B.bytes
  have hr := B.returns
  have hts := atoms_spec (ws := wsX7_hear) B.pre
  have hown : s.vm.findClass RX7 = some m.cls := findClass_of_methodNamed B.named
  have hlocks := B.notSynchronized
  subst hsz
  have hD := hD0.self (sz := s.heap.size)
  generalize hAe : va_A (zM cI g pm rm rr st sg rn bg la ws pr ry hm xu xl sn kp kr kb kl kw kh hc pg rd rw ro be he kro khe) s.heap.size = A at hD ⊢
  have hA : ∀ q : Nat, s.heap.size ≤ q → A q := fun q h => by rw [← hAe]; exact Or.inr h
  have hS : va_S A s.heap s.heap [] := va_S.rf
  have k25 := hts (.fieldLink RX7 25 "SongsAgainModel" "heards" "[I") (List.mem_of_getElem? (i := 2) rfl)
  have k89 := hts (.fieldLink RX7 89 "SongsAgainModel" "heardMany" "I") (List.mem_of_getElem? (i := 1) rfl)
  have iX7 : ∀ w ∈ u_ws RX7 TX7 30, w ∈ wsX7_hear := vz_in (i := 12) (n := 30) rfl
  have hl := lv_entry ([.ref (g 0), .int p0]) (n := 2) (Nat.le_of_ble_eq_true rfl)
  rw [lg_entry_eq]
  generalize (lg_sl ([.ref (g 0), .int p0]) ++ List.replicate (2 - (lg_sl ([.ref (g 0), .int p0])).length) Slot.unset).toArray = ls at hl ⊢
  have hl : lv_has ls 2 [(0, .ref (g 0)), (1, .int p0)] := hl
  have hP : va_P D vwCl (zM cI g pm rm rr st sg rn bg la ws pr ry hm xu xl sn kp kr kb kl kw kh hc pg rd rw ro be he kro khe) s.heap := hP
  refine lv_aload_n hx hb dX7_hear_0 rfl (lv_at hl 0 rfl) ?_
  refine lv_iload_n hx hb dX7_hear_1 rfl (lv_at hl 1 rfl) ?_
  refine vp_callSi (W.runV (As := [.int p0]) (rest := []) ⟨hx, hb, hml, hown, hts⟩ (c_X7_isSong l D cI g pm rm rr st sg rn bg la ws pr ry hm xu xl sn kp kr kb kl kw kh hc pg rd rw ro be he kro khe p0) (cwV 1 hts gX7_hear_X7_isSong rfl rfl rfl (by decide +kernel) ⟨Nat.le_of_ble_eq_true rfl, Nat.le_of_ble_eq_true rfl⟩) (vz_pvR (va_recv hK hP (ci := 7) (q0 := 0) rfl rfl) hZ hP) rfl rfl hl.1 rfl (lv_room (Nat.le_of_ble_eq_true rfl)) dX7_hear_2 ⟨Nat.zero_le _, Nat.zero_le _⟩) (fun r_2 hr_2 => ?_)
  subst hr_2
  refine lv_if_ne (tgt := 11) hx hb dX7_hear_5 (by decide) (fun c_5 => ?_) (fun c_5 => ?_)
  · skip
    replace c_5 := vz_b1 c_5
    refine lv_aload_n hx hb dX7_hear_11 rfl (lv_at hl 0 rfl) ?_
    refine va_get (D := D) (ci := 7) (v := .int (nI hm)) (C := RX7) (T := TX7) (N := 30) hx hb hts iX7 hown hK hP 0 rfl rfl 16 (by decide) k89 (fun _ h9 => h9) rfl dX7_hear_12 ?_
    refine lv_bipush (v := 8) hx hb dX7_hear_15 (by decide) ?_
    refine lv_icmp_ne (tgt := 23) hx hb dX7_hear_17 (by decide) (fun c_17 => ?_) (fun c_17 => ?_)
    · skip
      have hl_17 : hm < 8 := vz_nlt (n := 8) c_17 hhm (by omega)
      refine lv_aload_n hx hb dX7_hear_23 rfl (lv_at hl 0 rfl) ?_
      refine va_get (D := D) (ci := 7) (v := .ref (g 6)) (C := RX7) (T := TX7) (N := 30) hx hb hts iX7 hown hK hP 0 rfl rfl 17 (by decide) k25 (fun _ h9 => h9) rfl dX7_hear_24 ?_
      refine lv_aload_n hx hb dX7_hear_27 rfl (lv_at hl 0 rfl) ?_
      refine va_get (D := D) (ci := 7) (v := .int (nI hm)) (C := RX7) (T := TX7) (N := 30) hx hb hts iX7 hown hK hP 0 rfl rfl 16 (by decide) k89 (fun _ h9 => h9) rfl dX7_hear_28 ?_
      refine lv_iload_n hx hb dX7_hear_31 rfl (lv_at hl 1 rfl) ?_
      refine va_iast hx hb hK hP hD hS 6 0 rfl rfl (i := nI hm) (x := p0) (vp_in_nI (by first | assumption | omega) (by first | assumption | omega)) dX7_hear_32 (fun H_32 locs_32 hP9 hD9 hS9 => ?_)
      rw [show (nI hm : Int32).toNatClampNeg = hm from nI_clamp (by first | assumption | omega)] at hP9 hD9
      replace hP : va_P D vwCl (zM cI g pm rm rr st sg rn bg la ws pr ry hm xu xl sn kp kr kb kl kw kh hc pg rd rw ro be (upd he hm p0) kro khe) H_32 := hP9
      replace hD : va_D A (zM cI g pm rm rr st sg rn bg la ws pr ry hm xu xl sn kp kr kb kl kw kh hc pg rd rw ro be (upd he hm p0) kro khe) := hD9
      replace hS := hS9
      clear hP9 hD9 hS9
      refine lv_aload_n hx hb dX7_hear_33 rfl (lv_at hl 0 rfl) ?_
      refine lv_dup hx hb dX7_hear_34 rfl ?_
      refine va_get (D := D) (ci := 7) (v := .int (nI hm)) (C := RX7) (T := TX7) (N := 30) hx hb hts iX7 hown hK hP 0 rfl rfl 16 (by decide) k89 (fun _ h9 => h9) rfl dX7_hear_35 ?_
      refine lv_iconst (v := 1) hx hb dX7_hear_38 (by decide) ?_
      refine lv_iadd hx hb dX7_hear_39 ?_
      refine W.eq (congrArg (fun z => F0 m 40 ls (.int z :: [.ref (g 0)])) (nI_add hm 1 : (nI hm) + 1 = nI (hm + 1))) ?_
      refine va_put (D := D) (ci := 7) (v := .int (nI (hm + 1))) (ty := .int) (C := RX7) (T := TX7) (N := 30) hx hb hts iX7 tyX7 tyX7_ok nmX7 hown hK hP hD hS 0 rfl rfl 16 (by decide) k89 (fun _ h9 => h9) rfl (by decide +kernel) rfl rfl (Nat.le_of_ble_eq_true rfl) dX7_hear_40 (fun H_40 locs_40 hP9 hD9 hS9 => ?_)
      replace hP : va_P D vwCl (zM cI g pm rm rr st sg rn bg la ws pr ry (hm + 1) xu xl sn kp kr kb kl kw kh hc pg rd rw ro be (upd he hm p0) kro khe) H_40 := hP9
      replace hD : va_D A (zM cI g pm rm rr st sg rn bg la ws pr ry (hm + 1) xu xl sn kp kr kb kl kw kh hc pg rd rw ro be (upd he hm p0) kro khe) := hD9
      replace hS := hS9
      clear hP9 hD9 hS9
      refine lv_aload_n hx hb dX7_hear_43 rfl (lv_at hl 0 rfl) ?_
      refine va_get (D := D) (ci := 7) (v := .int (nI (hm + 1))) (C := RX7) (T := TX7) (N := 30) hx hb hts iX7 hown hK hP 0 rfl rfl 16 (by decide) k89 (fun _ h9 => h9) rfl dX7_hear_44 ?_
      have en_hm : pl_n (mhe sg hm p0) (hm + 1) hm = hm + 1 := by first | rfl | (simp only [pl_n, mhe, if_neg c_17]; done) | (simp only [pl_n, mhe, if_neg c_17]; rfl) | (simp only [pl_n, mhe, c_5, c_17, ↓reduceIte, Bool.false_eq_true, if_true, if_false, reduceCtorEq, not_true_eq_false, not_false_eq_true, eq_self]; done) | (simp only [pl_n, mhe, c_5, c_17, ↓reduceIte, Bool.false_eq_true, if_true, if_false, reduceCtorEq, not_true_eq_false, not_false_eq_true, eq_self]; rfl) | (simp [pl_n, mhe, c_5, c_17]; done) | (simp only [pl_n, mhe, if_neg c_17, c_5, ↓reduceIte, Bool.false_eq_true])
      have en_he : pl_n (mhe sg hm p0) (upd he hm p0) he = upd he hm p0 := by first | rfl | (simp only [pl_n, mhe, if_neg c_17]; done) | (simp only [pl_n, mhe, if_neg c_17]; rfl) | (simp only [pl_n, mhe, c_5, c_17, ↓reduceIte, Bool.false_eq_true, if_true, if_false, reduceCtorEq, not_true_eq_false, not_false_eq_true, eq_self]; done) | (simp only [pl_n, mhe, c_5, c_17, ↓reduceIte, Bool.false_eq_true, if_true, if_false, reduceCtorEq, not_true_eq_false, not_false_eq_true, eq_self]; rfl) | (simp [pl_n, mhe, c_5, c_17]; done) | (simp only [pl_n, mhe, if_neg c_17, c_5, ↓reduceIte, Bool.false_eq_true])
      exact W.iret hx hb hr (fun t ht hW => ⟨⟨_, (), rfl, (by first | rfl | (simp only [pl_n, mhe, if_neg c_17]; done) | (simp only [pl_n, mhe, if_neg c_17]; rfl) | (simp only [pl_n, mhe, c_5, c_17, ↓reduceIte, Bool.false_eq_true, if_true, if_false, reduceCtorEq, not_true_eq_false, not_false_eq_true, eq_self]; done) | (simp only [pl_n, mhe, c_5, c_17, ↓reduceIte, Bool.false_eq_true, if_true, if_false, reduceCtorEq, not_true_eq_false, not_false_eq_true, eq_self]; rfl) | (simp [pl_n, mhe, c_5, c_17]; done) | (simp only [pl_n, mhe, if_neg c_17, c_5, ↓reduceIte, Bool.false_eq_true])), (by show va_P D vwCl (zM cI g pm rm rr st sg rn bg la ws pr ry (pl_n (mhe sg hm p0) (hm + 1) hm) xu xl sn kp kr kb kl kw kh hc pg rd rw ro be (pl_n (mhe sg hm p0) (upd he hm p0) he) kro khe) t.heap; rw [ht, en_hm, en_he]; exact hP)⟩, hS.F ht⟩) hS.2.2 dX7_hear_47
    · skip
      refine lv_bipush (v := (-104)) hx hb dX7_hear_20 (by decide) ?_
      have en_hm : pl_n (mhe sg hm p0) (hm + 1) hm = hm := by first | rfl | (simp only [pl_n, mhe, if_pos c_17]; done) | (simp only [pl_n, mhe, if_pos c_17]; rfl) | (simp only [pl_n, mhe, c_5, c_17, ↓reduceIte, Bool.false_eq_true, if_true, if_false, reduceCtorEq, not_true_eq_false, not_false_eq_true, eq_self]; done) | (simp only [pl_n, mhe, c_5, c_17, ↓reduceIte, Bool.false_eq_true, if_true, if_false, reduceCtorEq, not_true_eq_false, not_false_eq_true, eq_self]; rfl) | (simp [pl_n, mhe, c_5, c_17]; done) | (simp only [pl_n, mhe, if_pos c_17, c_5, ↓reduceIte, Bool.false_eq_true])
      have en_he : pl_n (mhe sg hm p0) (upd he hm p0) he = he := by first | rfl | (simp only [pl_n, mhe, if_pos c_17]; done) | (simp only [pl_n, mhe, if_pos c_17]; rfl) | (simp only [pl_n, mhe, c_5, c_17, ↓reduceIte, Bool.false_eq_true, if_true, if_false, reduceCtorEq, not_true_eq_false, not_false_eq_true, eq_self]; done) | (simp only [pl_n, mhe, c_5, c_17, ↓reduceIte, Bool.false_eq_true, if_true, if_false, reduceCtorEq, not_true_eq_false, not_false_eq_true, eq_self]; rfl) | (simp [pl_n, mhe, c_5, c_17]; done) | (simp only [pl_n, mhe, if_pos c_17, c_5, ↓reduceIte, Bool.false_eq_true])
      exact W.iret hx hb hr (fun t ht hW => ⟨⟨_, (), rfl, (by first | rfl | (simp only [pl_n, mhe, if_pos c_17]; done) | (simp only [pl_n, mhe, if_pos c_17]; rfl) | (simp only [pl_n, mhe, c_5, c_17, ↓reduceIte, Bool.false_eq_true, if_true, if_false, reduceCtorEq, not_true_eq_false, not_false_eq_true, eq_self]; done) | (simp only [pl_n, mhe, c_5, c_17, ↓reduceIte, Bool.false_eq_true, if_true, if_false, reduceCtorEq, not_true_eq_false, not_false_eq_true, eq_self]; rfl) | (simp [pl_n, mhe, c_5, c_17]; done) | (simp only [pl_n, mhe, if_pos c_17, c_5, ↓reduceIte, Bool.false_eq_true])), (by show va_P D vwCl (zM cI g pm rm rr st sg rn bg la ws pr ry (pl_n (mhe sg hm p0) (hm + 1) hm) xu xl sn kp kr kb kl kw kh hc pg rd rw ro be (pl_n (mhe sg hm p0) (upd he hm p0) he) kro khe) t.heap; rw [ht, en_hm, en_he]; exact hP)⟩, hS.F ht⟩) hS.2.2 dX7_hear_22
  · skip
    replace c_5 := vz_b0 c_5
    refine lv_bipush (v := (-101)) hx hb dX7_hear_8 (by decide) ?_
    have en_hm : pl_n (mhe sg hm p0) (hm + 1) hm = hm := by first | rfl | (simp only [pl_n, mhe]; done) | (simp only [pl_n, mhe]; rfl) | (simp only [pl_n, mhe, c_5, ↓reduceIte, Bool.false_eq_true, if_true, if_false, reduceCtorEq, not_true_eq_false, not_false_eq_true, eq_self]; done) | (simp only [pl_n, mhe, c_5, ↓reduceIte, Bool.false_eq_true, if_true, if_false, reduceCtorEq, not_true_eq_false, not_false_eq_true, eq_self]; rfl) | (simp [pl_n, mhe, c_5]; done)
    have en_he : pl_n (mhe sg hm p0) (upd he hm p0) he = he := by first | rfl | (simp only [pl_n, mhe]; done) | (simp only [pl_n, mhe]; rfl) | (simp only [pl_n, mhe, c_5, ↓reduceIte, Bool.false_eq_true, if_true, if_false, reduceCtorEq, not_true_eq_false, not_false_eq_true, eq_self]; done) | (simp only [pl_n, mhe, c_5, ↓reduceIte, Bool.false_eq_true, if_true, if_false, reduceCtorEq, not_true_eq_false, not_false_eq_true, eq_self]; rfl) | (simp [pl_n, mhe, c_5]; done)
    exact W.iret hx hb hr (fun t ht hW => ⟨⟨_, (), rfl, (by first | rfl | (simp only [pl_n, mhe]; done) | (simp only [pl_n, mhe]; rfl) | (simp only [pl_n, mhe, c_5, ↓reduceIte, Bool.false_eq_true, if_true, if_false, reduceCtorEq, not_true_eq_false, not_false_eq_true, eq_self]; done) | (simp only [pl_n, mhe, c_5, ↓reduceIte, Bool.false_eq_true, if_true, if_false, reduceCtorEq, not_true_eq_false, not_false_eq_true, eq_self]; rfl) | (simp [pl_n, mhe, c_5]; done)), (by show va_P D vwCl (zM cI g pm rm rr st sg rn bg la ws pr ry (pl_n (mhe sg hm p0) (hm + 1) hm) xu xl sn kp kr kb kl kw kh hc pg rd rw ro be (pl_n (mhe sg hm p0) (upd he hm p0) he) kro khe) t.heap; rw [ht, en_hm, en_he]; exact hP)⟩, hS.F ht⟩) hS.2.2 dX7_hear_10
set_option maxHeartbeats 4000000 in
set_option maxRecDepth 100000 in
theorem c_X7_forget (l : Launch) (D : va_G) (cI : ClassId) (g : Nat → Nat) (pm : Nat) (rm : Nat) (rr : Int32) (st : Nat) (sg : Nat) (rn : Int32) (bg : Int32) (la : Int32) (ws : Bool) (pr : Nat) (ry : Nat) (hm : Nat) (xu : Int64) (xl : Int64) (sn : Int32) (kp : Int32) (kr : Int32) (kb : Int32) (kl : Int32) (kw : Bool) (kh : Nat) (hc : Int64) (pg : Nat → Int32) (rd : Nat → Int32) (rw : Nat → Int32) (ro : Nat → Int32) (be : Nat → Int32) (he : Nat → Int32) (kro : Nat → Int32) (khe : Nat → Int32) (sz : Nat) : Met l yX7_forget wsX7_forget ({ frames := 0, cells := 0, slots := 0, locals := 0 } : Room) (vz_rw D cI (zM cI g pm rm rr st sg rn bg la ws pr ry hm xu xl sn kp kr kb kl kw kh hc pg rd rw ro be he kro khe) sz [.ref (g 0)]) (va_Qi (fun r (_ : Unit) => r = nI hm) (fun (u : Unit) (t : State) => va_P D vwCl (zM cI g pm rm rr st sg rn bg la ws pr ry 0 xu xl sn kp kr kb kl kw kh hc pg rd rw ro be he kro khe) t.heap) (va_A (zM cI g pm rm rr st sg rn bg la ws pr ry hm xu xl sn kp kr kb kl kw kh hc pg rd rw ro be he kro khe) sz)) 0 0 (va_A (zM cI g pm rm rr st sg rn bg la ws pr ry hm xu xl sn kp kr kb kl kw kh hc pg rd rw ro be he kro khe) sz) := by
  refine Met.ofW (cc := cX7_forget) (maxL := 2) (ret := (some .int)) (by decide) rfl ?_
  intro p e s m args below meth c s₁ B hml hv
  obtain ⟨rfl, hsz, hP, hZ, hD0⟩ := hv
  obtain ⟨hK, hN⟩ := id hZ
  have hx := B.exec
  have hb := B.bytes
  have hr := B.returns
  have hts := atoms_spec (ws := wsX7_forget) B.pre
  have hown : s.vm.findClass RX7 = some m.cls := findClass_of_methodNamed B.named
  have hlocks := B.notSynchronized
  subst hsz
  have hD := hD0.self (sz := s.heap.size)
  generalize hAe : va_A (zM cI g pm rm rr st sg rn bg la ws pr ry hm xu xl sn kp kr kb kl kw kh hc pg rd rw ro be he kro khe) s.heap.size = A at hD ⊢
  have hA : ∀ q : Nat, s.heap.size ≤ q → A q := fun q h => by rw [← hAe]; exact Or.inr h
  have hS : va_S A s.heap s.heap [] := va_S.rf
  have k89 := hts (.fieldLink RX7 89 "SongsAgainModel" "heardMany" "I") (List.mem_of_getElem? (i := 1) rfl)
  have iX7 : ∀ w ∈ u_ws RX7 TX7 30, w ∈ wsX7_forget := vz_in (i := 2) (n := 30) rfl
  have hl := lv_entry ([.ref (g 0)]) (n := 2) (Nat.le_of_ble_eq_true rfl)
  rw [lg_entry_eq]
  generalize (lg_sl ([.ref (g 0)]) ++ List.replicate (2 - (lg_sl ([.ref (g 0)])).length) Slot.unset).toArray = ls at hl ⊢
  have hl : lv_has ls 2 [(0, .ref (g 0))] := hl
  have hP : va_P D vwCl (zM cI g pm rm rr st sg rn bg la ws pr ry hm xu xl sn kp kr kb kl kw kh hc pg rd rw ro be he kro khe) s.heap := hP
  refine lv_aload_n hx hb dX7_forget_0 rfl (lv_at hl 0 rfl) ?_
  refine va_get (D := D) (ci := 7) (v := .int (nI hm)) (C := RX7) (T := TX7) (N := 30) hx hb hts iX7 hown hK hP 0 rfl rfl 16 (by decide) k89 (fun _ h9 => h9) rfl dX7_forget_1 ?_
  refine lv_istore_n (lv' := [(1, .int (nI hm)), (0, .ref (g 0))]) hx hb dX7_forget_4 rfl hl (by decide) rfl (fun ls hl => ?_)
  refine lv_aload_n hx hb dX7_forget_5 rfl (lv_at hl 1 rfl) ?_
  refine lv_iconst (v := 0) hx hb dX7_forget_6 (by decide) ?_
  refine va_put (D := D) (ci := 7) (v := .int 0) (ty := .int) (C := RX7) (T := TX7) (N := 30) hx hb hts iX7 tyX7 tyX7_ok nmX7 hown hK hP hD hS 0 rfl rfl 16 (by decide) k89 (fun _ h9 => h9) rfl (by decide +kernel) rfl rfl (Nat.le_of_ble_eq_true rfl) dX7_forget_7 (fun H_7 locs_7 hP9 hD9 hS9 => ?_)
  replace hP : va_P D vwCl (zM cI g pm rm rr st sg rn bg la ws pr ry 0 xu xl sn kp kr kb kl kw kh hc pg rd rw ro be he kro khe) H_7 := hP9
  replace hD : va_D A (zM cI g pm rm rr st sg rn bg la ws pr ry 0 xu xl sn kp kr kb kl kw kh hc pg rd rw ro be he kro khe) := hD9
  replace hS := hS9
  clear hP9 hD9 hS9
  refine lv_iload_n hx hb dX7_forget_10 rfl (lv_at hl 0 rfl) ?_
  exact W.iret hx hb hr (fun t ht hW => ⟨⟨_, (), rfl, (by first | rfl | (rfl; done) | (rfl; rfl) | (rfl; done) | (rfl; rfl) | (simp; done)), (by show va_P D vwCl (zM cI g pm rm rr st sg rn bg la ws pr ry 0 xu xl sn kp kr kb kl kw kh hc pg rd rw ro be he kro khe) t.heap; rw [ht]; exact hP)⟩, hS.F ht⟩) hS.2.2 dX7_forget_11
set_option maxHeartbeats 4000000 in
set_option maxRecDepth 100000 in
theorem c_X7_layHeard (l : Launch) (D : va_G) (cI : ClassId) (g : Nat → Nat) (pm : Nat) (rm : Nat) (rr : Int32) (st : Nat) (sg : Nat) (rn : Int32) (bg : Int32) (la : Int32) (ws : Bool) (pr : Nat) (ry : Nat) (hm : Nat) (xu : Int64) (xl : Int64) (sn : Int32) (kp : Int32) (kr : Int32) (kb : Int32) (kl : Int32) (kw : Bool) (kh : Nat) (hc : Int64) (pg : Nat → Int32) (rd : Nat → Int32) (rw : Nat → Int32) (ro : Nat → Int32) (be : Nat → Int32) (he : Nat → Int32) (kro : Nat → Int32) (khe : Nat → Int32) (sz : Nat) (p0 : Int32) (hsg : sg ≤ 6) (hhm : hm ≤ 8) (hhe : ∀ k : Nat, k < hm → ∃ x : Nat, x < sg ∧ he k = nI x) : Met l yX7_layHeard wsX7_layHeard ({ frames := 3, cells := 0, slots := 0, locals := 67 } : Room) (vz_rw D cI (zM cI g pm rm rr st sg rn bg la ws pr ry hm xu xl sn kp kr kb kl kw kh hc pg rd rw ro be he kro khe) sz [.ref (g 0), .int p0]) (va_Qv (fun (_ : Unit) => True) (fun (u : Unit) (t : State) => va_P D vwCl (zM cI g pm rm rr st sg rn bg la ws pr ry hm ((lh sg rw he p0 hm).1) ((lh sg rw he p0 hm).2.1) sn kp kr kb kl kw kh hc pg rd rw ro be he kro khe) t.heap) (va_A (zM cI g pm rm rr st sg rn bg la ws pr ry hm xu xl sn kp kr kb kl kw kh hc pg rd rw ro be he kro khe) sz)) 0 0 (va_A (zM cI g pm rm rr st sg rn bg la ws pr ry hm xu xl sn kp kr kb kl kw kh hc pg rd rw ro be he kro khe) sz) := by
  refine Met.ofW (cc := cX7_layHeard) (maxL := 7) (ret := none) (by decide) rfl ?_
  intro p e s m args below meth c s₁ B hml hv
  obtain ⟨rfl, hsz, hP, hZ, hD0⟩ := hv
  obtain ⟨hK, hN⟩ := id hZ
  have hx := B.exec
  have hb := B.bytes
  have hr := B.returns
  have hts := atoms_spec (ws := wsX7_layHeard) B.pre
  have hown : s.vm.findClass RX7 = some m.cls := findClass_of_methodNamed B.named
  have hlocks := B.notSynchronized
  subst hsz
  have hD := hD0.self (sz := s.heap.size)
  generalize hAe : va_A (zM cI g pm rm rr st sg rn bg la ws pr ry hm xu xl sn kp kr kb kl kw kh hc pg rd rw ro be he kro khe) s.heap.size = A at hD ⊢
  have hA : ∀ q : Nat, s.heap.size ≤ q → A q := fun q h => by rw [← hAe]; exact Or.inr h
  have hS : va_S A s.heap s.heap [] := va_S.rf
  have k25 := hts (.fieldLink RX7 25 "SongsAgainModel" "heards" "[I") (List.mem_of_getElem? (i := 4) rfl)
  have k89 := hts (.fieldLink RX7 89 "SongsAgainModel" "heardMany" "I") (List.mem_of_getElem? (i := 3) rfl)
  have k183 := hts (.fieldLink RX7 183 "SongsAgainModel" "heardUp" "J") (List.mem_of_getElem? (i := 1) rfl)
  have k187 := hts (.fieldLink RX7 187 "SongsAgainModel" "heardLow" "J") (List.mem_of_getElem? (i := 2) rfl)
  have iX7 : ∀ w ∈ u_ws RX7 TX7 30, w ∈ wsX7_layHeard := vz_in (i := 32) (n := 30) rfl
  have hl := lv_entry ([.ref (g 0), .int p0]) (n := 7) (Nat.le_of_ble_eq_true rfl)
  rw [lg_entry_eq]
  generalize (lg_sl ([.ref (g 0), .int p0]) ++ List.replicate (7 - (lg_sl ([.ref (g 0), .int p0])).length) Slot.unset).toArray = ls at hl ⊢
  have hl : lv_has ls 7 [(0, .ref (g 0)), (1, .int p0)] := hl
  have hP : va_P D vwCl (zM cI g pm rm rr st sg rn bg la ws pr ry hm xu xl sn kp kr kb kl kw kh hc pg rd rw ro be he kro khe) s.heap := hP
  refine lv_aload_n hx hb dX7_layHeard_0 rfl (lv_at hl 0 rfl) ?_
  refine lv_lconst (v := 1) hx hb dX7_layHeard_1 (by decide) ?_
  refine va_put (D := D) (ci := 7) (v := .long 1) (ty := .long) (C := RX7) (T := TX7) (N := 30) hx hb hts iX7 tyX7 tyX7_ok nmX7 hown hK hP hD hS 0 rfl rfl 18 (by decide) k183 (fun _ h9 => h9) rfl (by decide +kernel) rfl rfl (Nat.le_of_ble_eq_true rfl) dX7_layHeard_2 (fun H_2 locs_2 hP9 hD9 hS9 => ?_)
  replace hP : va_P D vwCl (zM cI g pm rm rr st sg rn bg la ws pr ry hm 1 xl sn kp kr kb kl kw kh hc pg rd rw ro be he kro khe) H_2 := hP9
  replace hD : va_D A (zM cI g pm rm rr st sg rn bg la ws pr ry hm 1 xl sn kp kr kb kl kw kh hc pg rd rw ro be he kro khe) := hD9
  replace hS := hS9
  clear hP9 hD9 hS9
  refine lv_aload_n hx hb dX7_layHeard_5 rfl (lv_at hl 0 rfl) ?_
  refine lv_lconst (v := 1) hx hb dX7_layHeard_6 (by decide) ?_
  refine va_put (D := D) (ci := 7) (v := .long 1) (ty := .long) (C := RX7) (T := TX7) (N := 30) hx hb hts iX7 tyX7 tyX7_ok nmX7 hown hK hP hD hS 0 rfl rfl 19 (by decide) k187 (fun _ h9 => h9) rfl (by decide +kernel) rfl rfl (Nat.le_of_ble_eq_true rfl) dX7_layHeard_7 (fun H_7 locs_7 hP9 hD9 hS9 => ?_)
  replace hP : va_P D vwCl (zM cI g pm rm rr st sg rn bg la ws pr ry hm 1 1 sn kp kr kb kl kw kh hc pg rd rw ro be he kro khe) H_7 := hP9
  replace hD : va_D A (zM cI g pm rm rr st sg rn bg la ws pr ry hm 1 1 sn kp kr kb kl kw kh hc pg rd rw ro be he kro khe) := hD9
  replace hS := hS9
  clear hP9 hD9 hS9
  refine lv_aload_n hx hb dX7_layHeard_10 rfl (lv_at hl 0 rfl) ?_
  refine vp_callSi (W.runV (As := []) (rest := []) ⟨hx, hb, hml, hown, hts⟩ (c_X7_all l D cI g pm rm rr st sg rn bg la ws pr ry hm 1 1 sn kp kr kb kl kw kh hc pg rd rw ro be he kro khe) (cwV 0 hts gX7_layHeard_X7_all rfl rfl rfl (by decide +kernel) ⟨Nat.le_of_ble_eq_true rfl, Nat.le_of_ble_eq_true rfl⟩) (vz_pvR (va_recv hK hP (ci := 7) (q0 := 0) rfl rfl) hZ hP) rfl rfl hl.1 rfl (lv_room (Nat.le_of_ble_eq_true rfl)) dX7_layHeard_11 ⟨Nat.zero_le _, Nat.zero_le _⟩) (fun r_11 hr_11 => ?_)
  subst hr_11
  refine lv_istore_n (lv' := [(2, .int (bk_all sg)), (0, .ref (g 0)), (1, .int p0)]) hx hb dX7_layHeard_14 rfl hl (by decide) rfl (fun ls hl => ?_)
  refine lv_iconst (v := (-1)) hx hb dX7_layHeard_15 (by decide) ?_
  refine lv_istore_n (lv' := [(3, .int (-1)), (2, .int (bk_all sg)), (0, .ref (g 0)), (1, .int p0)]) hx hb dX7_layHeard_16 rfl hl (by decide) rfl (fun ls hl => ?_)
  refine lv_iconst (v := 0) hx hb dX7_layHeard_17 (by decide) ?_
  refine lv_istore (lv' := [(4, .int 0), (3, .int (-1)), (2, .int (bk_all sg)), (0, .ref (g 0)), (1, .int p0)]) hx hb dX7_layHeard_18 hl (by decide) rfl (fun ls hl => ?_)
  have L_20 : ∀ (d_20 : Nat) (j : Nat) (b2 : Int32) (l3 : Int32) (yu : Int64) (yl : Int64) (H_20 : Heap) (locs_20 : List Loc), hm - j < d_20 → (j ≤ hm) → (l3 = -1 ∨ ∃ b : Nat, b < sg ∧ l3 = nI b) → (lh sg rw he p0 j = (yu, yl, b2, l3)) → va_P D vwCl (zM cI g pm rm rr st sg rn bg la ws pr ry hm yu yl sn kp kr kb kl kw kh hc pg rd rw ro be he kro khe) H_20 → va_D A (zM cI g pm rm rr st sg rn bg la ws pr ry hm yu yl sn kp kr kb kl kw kh hc pg rd rw ro be he kro khe) → va_S A s.heap H_20 locs_20 → ∀ (ls : Array Slot), lv_has ls 7 [(4, .int (nI j)), (3, .int l3), (2, .int b2), (0, .ref (g 0)), (1, .int p0)] → W p l e ({ frames := 3, cells := 0, slots := 0, locals := 67 } : Room) s m ([.ref (g 0), .int p0] : List Value).toArray below meth c H_20 locs_20 0 0 (MQ below (va_Qv (fun (_ : Unit) => True) (fun (u : Unit) (t : State) => va_P D vwCl (zM cI g pm rm rr st sg rn bg la ws pr ry hm ((lh sg rw he p0 hm).1) ((lh sg rw he p0 hm).2.1) sn kp kr kb kl kw kh hc pg rd rw ro be he kro khe) t.heap) A) ([.ref (g 0), .int p0] : List Value).toArray s 0 0 A) (F0 m 20 ls []) := by
    intro d_20
    induction d_20 with
    | zero => intro j b2 l3 yu yl H_20 locs_20 hd; exact absurd hd (Nat.not_lt_zero _)
    | succ d_20 ih_20 =>
      intro j b2 l3 yu yl H_20 locs_20 hd_20 hj hbf hlh hP hD hS ls hl
      refine lv_iload hx hb dX7_layHeard_20 (lv_at hl 0 rfl) ?_
      refine lv_aload_n hx hb dX7_layHeard_22 rfl (lv_at hl 3 rfl) ?_
      refine va_get (D := D) (ci := 7) (v := .int (nI hm)) (C := RX7) (T := TX7) (N := 30) hx hb hts iX7 hown hK hP 0 rfl rfl 16 (by decide) k89 (fun _ h9 => h9) rfl dX7_layHeard_23 ?_
      refine lv_icmp_ge (tgt := 105) hx hb dX7_layHeard_26 (by decide) (fun c_26 => ?_) (fun c_26 => ?_)
      · skip
        have hje : j = hm := Nat.le_antisymm hj (vz_ge c_26 (by omega) (by omega))
        have en_xu : (lh sg rw he p0 hm).1 = yu := by rw [← hje, hlh]
        have en_xl : (lh sg rw he p0 hm).2.1 = yl := by rw [← hje, hlh]
        exact W.vret hx hb hr (fun t ht hW => ⟨⟨(), rfl, trivial, (by show va_P D vwCl (zM cI g pm rm rr st sg rn bg la ws pr ry hm ((lh sg rw he p0 hm).1) ((lh sg rw he p0 hm).2.1) sn kp kr kb kl kw kh hc pg rd rw ro be he kro khe) t.heap; rw [ht, en_xu, en_xl]; exact hP)⟩, hS.F ht⟩) hS.2.2 dX7_layHeard_105
      · skip
        have hlt : j < hm := vz_lt c_26 (by omega)
        obtain ⟨hs, hs1⟩ := vz_el (hhe j hlt)
        refine lv_aload_n hx hb dX7_layHeard_29 rfl (lv_at hl 3 rfl) ?_
        refine va_get (D := D) (ci := 7) (v := .ref (g 6)) (C := RX7) (T := TX7) (N := 30) hx hb hts iX7 hown hK hP 0 rfl rfl 17 (by decide) k25 (fun _ h9 => h9) rfl dX7_layHeard_30 ?_
        refine lv_iload hx hb dX7_layHeard_33 (lv_at hl 0 rfl) ?_
        refine va_iald hx hb hK hP 6 0 rfl rfl (i := nI j) (vp_in_nI (by first | assumption | omega) (by first | assumption | omega)) dX7_layHeard_35 ?_
        refine W.eq (congrArg (fun z => F0 m 36 ls (.int z :: [])) (vz_ix he (by first | assumption | omega))) ?_
        refine W.eq (congrArg (fun z => F0 m 36 ls (.int z :: [])) (hs1)) ?_
        refine lv_istore (lv' := [(5, .int (nI ((he j).toNatClampNeg))), (4, .int (nI j)), (3, .int l3), (2, .int b2), (0, .ref (g 0)), (1, .int p0)]) hx hb dX7_layHeard_36 hl (by decide) rfl (fun ls hl => ?_)
        refine lv_aload_n hx hb dX7_layHeard_38 rfl (lv_at hl 4 rfl) ?_
        refine lv_iload_n hx hb dX7_layHeard_39 rfl (lv_at hl 5 rfl) ?_
        refine lv_iload_n hx hb dX7_layHeard_40 rfl (lv_at hl 3 rfl) ?_
        refine lv_iload_n hx hb dX7_layHeard_41 rfl (lv_at hl 2 rfl) ?_
        refine vp_callSi (W.runV (As := [.int p0, .int b2, .int l3]) (rest := []) ⟨hx, hb, hml, hown, hts⟩ (c_X7_mayBy l D cI g pm rm rr st sg rn bg la ws pr ry hm yu yl sn kp kr kb kl kw kh hc pg rd rw ro be he kro khe p0 b2 l3 (by first | assumption | omega) (by first | assumption | omega)) (cwV 3 hts gX7_layHeard_X7_mayBy rfl rfl rfl (by decide +kernel) ⟨Nat.le_of_ble_eq_true rfl, Nat.le_of_ble_eq_true rfl⟩) (vz_pvR (va_recv hK hP (ci := 7) (q0 := 0) rfl rfl) hZ hP) rfl rfl hl.1 rfl (lv_room (Nat.le_of_ble_eq_true rfl)) dX7_layHeard_42 ⟨Nat.zero_le _, Nat.zero_le _⟩) (fun r_42 hr_42 => ?_)
        subst hr_42
        refine lv_istore (lv' := [(6, .int (mo_may sg rw p0 b2 l3)), (5, .int (nI ((he j).toNatClampNeg))), (4, .int (nI j)), (3, .int l3), (2, .int b2), (0, .ref (g 0)), (1, .int p0)]) hx hb dX7_layHeard_45 hl (by decide) rfl (fun ls hl => ?_)
        refine lv_aload_n hx hb dX7_layHeard_47 rfl (lv_at hl 5 rfl) ?_
        refine lv_dup hx hb dX7_layHeard_48 rfl ?_
        refine va_get (D := D) (ci := 7) (v := .long yu) (C := RX7) (T := TX7) (N := 30) hx hb hts iX7 hown hK hP 0 rfl rfl 18 (by decide) k183 (fun _ h9 => h9) rfl dX7_layHeard_49 ?_
        refine lv_iload hx hb dX7_layHeard_52 (lv_at hl 0 rfl) ?_
        refine lv_iload hx hb dX7_layHeard_54 (lv_at hl 1 rfl) ?_
        refine lv_ishr hx hb dX7_layHeard_56 ?_
        refine lv_iconst (v := 1) hx hb dX7_layHeard_57 (by decide) ?_
        refine lv_iand hx hb dX7_layHeard_58 ?_
        refine lv_aload_n hx hb dX7_layHeard_59 rfl (lv_at hl 5 rfl) ?_
        refine lv_iload hx hb dX7_layHeard_60 (lv_at hl 1 rfl) ?_
        refine vp_callSi (W.runV (As := [.int (nI ((he j).toNatClampNeg))]) (rest := [.int (((mo_may sg rw p0 b2 l3) >>> ((nI ((he j).toNatClampNeg)) &&& 31)) &&& 1), .long yu, .ref (g 0)]) ⟨hx, hb, hml, hown, hts⟩ (c_X7_baseOf l D cI g pm rm rr st sg rn bg la ws pr ry hm yu yl sn kp kr kb kl kw kh hc pg rd rw ro be he kro khe ((he j).toNatClampNeg) (by first | assumption | omega) (by first | assumption | omega)) (cwV 1 hts gX7_layHeard_X7_baseOf rfl rfl rfl (by decide +kernel) ⟨Nat.le_of_ble_eq_true rfl, Nat.le_of_ble_eq_true rfl⟩) (vz_pvR (va_recv hK hP (ci := 7) (q0 := 0) rfl rfl) hZ hP) rfl rfl hl.1 rfl (lv_room (Nat.le_of_ble_eq_true rfl)) dX7_layHeard_62 ⟨Nat.zero_le _, Nat.zero_le _⟩) (fun r_62 hr_62 => ?_)
        subst hr_62
        refine lv_imul hx hb dX7_layHeard_65 ?_
        refine lv_i2l (v := ((((mo_may sg rw p0 b2 l3) >>> ((nI ((he j).toNatClampNeg)) &&& 31)) &&& 1) * (mo_base rw ((he j).toNatClampNeg)) : Int32).toInt64) hx hb dX7_layHeard_66 rfl ?_
        refine lv_lmul hx hb dX7_layHeard_67 ?_
        refine va_put (D := D) (ci := 7) (v := .long (yu * (((((mo_may sg rw p0 b2 l3) >>> ((nI ((he j).toNatClampNeg)) &&& 31)) &&& 1) * (mo_base rw ((he j).toNatClampNeg)) : Int32).toInt64))) (ty := .long) (C := RX7) (T := TX7) (N := 30) hx hb hts iX7 tyX7 tyX7_ok nmX7 hown hK hP hD hS 0 rfl rfl 18 (by decide) k183 (fun _ h9 => h9) rfl (by decide +kernel) rfl rfl (Nat.le_of_ble_eq_true rfl) dX7_layHeard_68 (fun H_68 locs_68 hP9 hD9 hS9 => ?_)
        replace hP : va_P D vwCl (zM cI g pm rm rr st sg rn bg la ws pr ry hm (yu * (((((mo_may sg rw p0 b2 l3) >>> ((nI ((he j).toNatClampNeg)) &&& 31)) &&& 1) * (mo_base rw ((he j).toNatClampNeg)) : Int32).toInt64)) yl sn kp kr kb kl kw kh hc pg rd rw ro be he kro khe) H_68 := hP9
        replace hD : va_D A (zM cI g pm rm rr st sg rn bg la ws pr ry hm (yu * (((((mo_may sg rw p0 b2 l3) >>> ((nI ((he j).toNatClampNeg)) &&& 31)) &&& 1) * (mo_base rw ((he j).toNatClampNeg)) : Int32).toInt64)) yl sn kp kr kb kl kw kh hc pg rd rw ro be he kro khe) := hD9
        replace hS := hS9
        clear hP9 hD9 hS9
        refine lv_aload_n hx hb dX7_layHeard_71 rfl (lv_at hl 5 rfl) ?_
        refine lv_dup hx hb dX7_layHeard_72 rfl ?_
        refine va_get (D := D) (ci := 7) (v := .long yl) (C := RX7) (T := TX7) (N := 30) hx hb hts iX7 hown hK hP 0 rfl rfl 19 (by decide) k187 (fun _ h9 => h9) rfl dX7_layHeard_73 ?_
        refine lv_aload_n hx hb dX7_layHeard_76 rfl (lv_at hl 5 rfl) ?_
        refine lv_iload hx hb dX7_layHeard_77 (lv_at hl 0 rfl) ?_
        refine lv_iconst (v := 1) hx hb dX7_layHeard_79 (by decide) ?_
        refine vp_callSi (W.runV (As := [.int (mo_may sg rw p0 b2 l3), .int 1]) (rest := [.long yl, .ref (g 0)]) ⟨hx, hb, hml, hown, hts⟩ (c_X7_sumOf l D cI g pm rm rr st sg rn bg la ws pr ry hm (yu * (((((mo_may sg rw p0 b2 l3) >>> ((nI ((he j).toNatClampNeg)) &&& 31)) &&& 1) * (mo_base rw ((he j).toNatClampNeg)) : Int32).toInt64)) yl sn kp kr kb kl kw kh hc pg rd rw ro be he kro khe (mo_may sg rw p0 b2 l3) true (by first | assumption | omega)) (cwV 2 hts gX7_layHeard_X7_sumOf rfl rfl rfl (by decide +kernel) ⟨Nat.le_of_ble_eq_true rfl, Nat.le_of_ble_eq_true rfl⟩) (vz_pvR (va_recv hK hP (ci := 7) (q0 := 0) rfl rfl) hZ hP) rfl rfl hl.1 rfl (lv_room (Nat.le_of_ble_eq_true rfl)) dX7_layHeard_80 ⟨Nat.zero_le _, Nat.zero_le _⟩) (fun r_80 hr_80 => ?_)
        subst hr_80
        refine lv_i2l (v := (mo_sum rw (mo_may sg rw p0 b2 l3) true sg : Int32).toInt64) hx hb dX7_layHeard_83 rfl ?_
        refine lv_lmul hx hb dX7_layHeard_84 ?_
        refine va_put (D := D) (ci := 7) (v := .long (yl * ((mo_sum rw (mo_may sg rw p0 b2 l3) true sg : Int32).toInt64))) (ty := .long) (C := RX7) (T := TX7) (N := 30) hx hb hts iX7 tyX7 tyX7_ok nmX7 hown hK hP hD hS 0 rfl rfl 19 (by decide) k187 (fun _ h9 => h9) rfl (by decide +kernel) rfl rfl (Nat.le_of_ble_eq_true rfl) dX7_layHeard_85 (fun H_85 locs_85 hP9 hD9 hS9 => ?_)
        replace hP : va_P D vwCl (zM cI g pm rm rr st sg rn bg la ws pr ry hm (yu * (((((mo_may sg rw p0 b2 l3) >>> ((nI ((he j).toNatClampNeg)) &&& 31)) &&& 1) * (mo_base rw ((he j).toNatClampNeg)) : Int32).toInt64)) (yl * ((mo_sum rw (mo_may sg rw p0 b2 l3) true sg : Int32).toInt64)) sn kp kr kb kl kw kh hc pg rd rw ro be he kro khe) H_85 := hP9
        replace hD : va_D A (zM cI g pm rm rr st sg rn bg la ws pr ry hm (yu * (((((mo_may sg rw p0 b2 l3) >>> ((nI ((he j).toNatClampNeg)) &&& 31)) &&& 1) * (mo_base rw ((he j).toNatClampNeg)) : Int32).toInt64)) (yl * ((mo_sum rw (mo_may sg rw p0 b2 l3) true sg : Int32).toInt64)) sn kp kr kb kl kw kh hc pg rd rw ro be he kro khe) := hD9
        replace hS := hS9
        clear hP9 hD9 hS9
        refine lv_aload_n hx hb dX7_layHeard_88 rfl (lv_at hl 5 rfl) ?_
        refine lv_iload_n hx hb dX7_layHeard_89 rfl (lv_at hl 4 rfl) ?_
        refine lv_iload hx hb dX7_layHeard_90 (lv_at hl 1 rfl) ?_
        refine vp_callSi (W.runV (As := [.int b2, .int (nI ((he j).toNatClampNeg))]) (rest := []) ⟨hx, hb, hml, hown, hts⟩ (c_X7_bagBehind l D cI g pm rm rr st sg rn bg la ws pr ry hm (yu * (((((mo_may sg rw p0 b2 l3) >>> ((nI ((he j).toNatClampNeg)) &&& 31)) &&& 1) * (mo_base rw ((he j).toNatClampNeg)) : Int32).toInt64)) (yl * ((mo_sum rw (mo_may sg rw p0 b2 l3) true sg : Int32).toInt64)) sn kp kr kb kl kw kh hc pg rd rw ro be he kro khe b2 (nI ((he j).toNatClampNeg))) (cwV 2 hts gX7_layHeard_X7_bagBehind rfl rfl rfl (by decide +kernel) ⟨Nat.le_of_ble_eq_true rfl, Nat.le_of_ble_eq_true rfl⟩) (vz_pvR (va_recv hK hP (ci := 7) (q0 := 0) rfl rfl) hZ hP) rfl rfl hl.1 rfl (lv_room (Nat.le_of_ble_eq_true rfl)) dX7_layHeard_92 ⟨Nat.zero_le _, Nat.zero_le _⟩) (fun r_92 hr_92 => ?_)
        subst hr_92
        refine lv_istore_n (lv' := [(2, .int (bk_bag sg b2 (nI ((he j).toNatClampNeg)))), (6, .int (mo_may sg rw p0 b2 l3)), (5, .int (nI ((he j).toNatClampNeg))), (4, .int (nI j)), (3, .int l3), (0, .ref (g 0)), (1, .int p0)]) hx hb dX7_layHeard_95 rfl hl (by decide) rfl (fun ls hl => ?_)
        refine lv_iload hx hb dX7_layHeard_96 (lv_at hl 2 rfl) ?_
        refine lv_istore_n (lv' := [(3, .int (nI ((he j).toNatClampNeg))), (2, .int (bk_bag sg b2 (nI ((he j).toNatClampNeg)))), (6, .int (mo_may sg rw p0 b2 l3)), (5, .int (nI ((he j).toNatClampNeg))), (4, .int (nI j)), (0, .ref (g 0)), (1, .int p0)]) hx hb dX7_layHeard_98 rfl hl (by decide) rfl (fun ls hl => ?_)
        refine lv_iinc (v := nI (j + 1)) (lv' := [(4, .int (nI (j + 1))), (3, .int (nI ((he j).toNatClampNeg))), (2, .int (bk_bag sg b2 (nI ((he j).toNatClampNeg)))), (6, .int (mo_may sg rw p0 b2 l3)), (5, .int (nI ((he j).toNatClampNeg))), (0, .ref (g 0)), (1, .int p0)]) hx hb dX7_layHeard_99 hl (k := 4) rfl (vz_inc _) (by decide) rfl (fun ls hl => ?_)
        refine lv_goto (tgt := 20) hx hb dX7_layHeard_102 (by decide) ?_
        have ew_xu : (yu * (((((mo_may sg rw p0 b2 l3) >>> ((nI ((he j).toNatClampNeg)) &&& 31)) &&& 1) * (mo_base rw ((he j).toNatClampNeg)) : Int32).toInt64)) = yu * (((((mo_may sg rw p0 b2 l3) >>> ((nI ((he j).toNatClampNeg)) &&& 31)) &&& 1) * (mo_base rw ((he j).toNatClampNeg)) : Int32).toInt64) := by rfl
        have ew_xl : (yl * ((mo_sum rw (mo_may sg rw p0 b2 l3) true sg : Int32).toInt64)) = yl * ((mo_sum rw (mo_may sg rw p0 b2 l3) true sg : Int32).toInt64) := by rfl
        replace hP : va_P D vwCl (zM cI g pm rm rr st sg rn bg la ws pr ry hm (yu * (((((mo_may sg rw p0 b2 l3) >>> ((nI ((he j).toNatClampNeg)) &&& 31)) &&& 1) * (mo_base rw ((he j).toNatClampNeg)) : Int32).toInt64)) (yl * ((mo_sum rw (mo_may sg rw p0 b2 l3) true sg : Int32).toInt64)) sn kp kr kb kl kw kh hc pg rd rw ro be he kro khe) H_85 := by rw [ew_xu, ew_xl]; exact hP
        replace hD : va_D A (zM cI g pm rm rr st sg rn bg la ws pr ry hm (yu * (((((mo_may sg rw p0 b2 l3) >>> ((nI ((he j).toNatClampNeg)) &&& 31)) &&& 1) * (mo_base rw ((he j).toNatClampNeg)) : Int32).toInt64)) (yl * ((mo_sum rw (mo_may sg rw p0 b2 l3) true sg : Int32).toInt64)) sn kp kr kb kl kw kh hc pg rd rw ro be he kro khe) := vz_same hD rfl
        exact ih_20 (j + 1) (bk_bag sg b2 (nI ((he j).toNatClampNeg))) (nI ((he j).toNatClampNeg)) (yu * (((((mo_may sg rw p0 b2 l3) >>> ((nI ((he j).toNatClampNeg)) &&& 31)) &&& 1) * (mo_base rw ((he j).toNatClampNeg)) : Int32).toInt64)) (yl * ((mo_sum rw (mo_may sg rw p0 b2 l3) true sg : Int32).toInt64)) _ _ (by omega) (by omega) (Or.inr ⟨_, hs, rfl⟩) (by simp only [lh, hlh, ← hs1]) hP hD hS ls (lv_sub hl [0, 1, 2, 5, 6] rfl)
  exact L_20 _ 0 (bk_all sg) (-1) 1 1 _ _ (Nat.lt_succ_self _) (Nat.zero_le _) (Or.inl rfl) rfl hP hD hS ls (lv_sub hl [0, 1, 2, 3, 4] rfl)
set_option maxHeartbeats 4000000 in
set_option maxRecDepth 100000 in
theorem c_X7_rulesOf (l : Launch) (D : va_G) (cI : ClassId) (g : Nat → Nat) (pm : Nat) (rm : Nat) (rr : Int32) (st : Nat) (sg : Nat) (rn : Int32) (bg : Int32) (la : Int32) (ws : Bool) (pr : Nat) (ry : Nat) (hm : Nat) (xu : Int64) (xl : Int64) (sn : Int32) (kp : Int32) (kr : Int32) (kb : Int32) (kl : Int32) (kw : Bool) (kh : Nat) (hc : Int64) (pg : Nat → Int32) (rd : Nat → Int32) (rw : Nat → Int32) (ro : Nat → Int32) (be : Nat → Int32) (he : Nat → Int32) (kro : Nat → Int32) (khe : Nat → Int32) (sz : Nat) (hsg : sg ≤ 6) (hhm : hm ≤ 8) (hhe : ∀ k : Nat, k < hm → ∃ x : Nat, x < sg ∧ he k = nI x) : Met l yX7_rulesOf wsX7_rulesOf ({ frames := 4, cells := 0, slots := 0, locals := 93 } : Room) (vz_rw D cI (zM cI g pm rm rr st sg rn bg la ws pr ry hm xu xl sn kp kr kb kl kw kh hc pg rd rw ro be he kro khe) sz [.ref (g 0)]) (va_Qi (fun r (_ : Int64 × Int64) => r = mr_acc sg rw he hm 4) (fun (u : Int64 × Int64) (t : State) => va_P D vwCl (zM cI g pm rm rr st sg rn bg la ws pr ry hm u.1 u.2 sn kp kr kb kl kw kh hc pg rd rw ro be he kro khe) t.heap) (va_A (zM cI g pm rm rr st sg rn bg la ws pr ry hm xu xl sn kp kr kb kl kw kh hc pg rd rw ro be he kro khe) sz)) 0 0 (va_A (zM cI g pm rm rr st sg rn bg la ws pr ry hm xu xl sn kp kr kb kl kw kh hc pg rd rw ro be he kro khe) sz) := by
  refine Met.ofW (cc := cX7_rulesOf) (maxL := 3) (ret := (some .int)) (by decide) rfl ?_
  intro p e s m args below meth c s₁ B hml hv
  obtain ⟨rfl, hsz, hP, hZ, hD0⟩ := hv
  obtain ⟨hK, hN⟩ := id hZ
  have hx := B.exec
  have hb := B.bytes
  have hr := B.returns
  have hts := atoms_spec (ws := wsX7_rulesOf) B.pre
  have hown : s.vm.findClass RX7 = some m.cls := findClass_of_methodNamed B.named
  have hlocks := B.notSynchronized
  subst hsz
  have hD := hD0.self (sz := s.heap.size)
  generalize hAe : va_A (zM cI g pm rm rr st sg rn bg la ws pr ry hm xu xl sn kp kr kb kl kw kh hc pg rd rw ro be he kro khe) s.heap.size = A at hD ⊢
  have hA : ∀ q : Nat, s.heap.size ≤ q → A q := fun q h => by rw [← hAe]; exact Or.inr h
  have hS : va_S A s.heap s.heap [] := va_S.rf
  have k183 := hts (.fieldLink RX7 183 "SongsAgainModel" "heardUp" "J") (List.mem_of_getElem? (i := 1) rfl)
  have iX7 : ∀ w ∈ u_ws RX7 TX7 30, w ∈ wsX7_rulesOf := vz_in (i := 36) (n := 30) rfl
  have hl := lv_entry ([.ref (g 0)]) (n := 3) (Nat.le_of_ble_eq_true rfl)
  rw [lg_entry_eq]
  generalize (lg_sl ([.ref (g 0)]) ++ List.replicate (3 - (lg_sl ([.ref (g 0)])).length) Slot.unset).toArray = ls at hl ⊢
  have hl : lv_has ls 3 [(0, .ref (g 0))] := hl
  have hP : va_P D vwCl (zM cI g pm rm rr st sg rn bg la ws pr ry hm xu xl sn kp kr kb kl kw kh hc pg rd rw ro be he kro khe) s.heap := hP
  refine lv_iconst (v := 0) hx hb dX7_rulesOf_0 (by decide) ?_
  refine lv_istore_n (lv' := [(1, .int 0), (0, .ref (g 0))]) hx hb dX7_rulesOf_1 rfl hl (by decide) rfl (fun ls hl => ?_)
  refine lv_iconst (v := 0) hx hb dX7_rulesOf_2 (by decide) ?_
  refine lv_istore_n (lv' := [(2, .int 0), (1, .int 0), (0, .ref (g 0))]) hx hb dX7_rulesOf_3 rfl hl (by decide) rfl (fun ls hl => ?_)
  have L_4 : ∀ (d_4 : Nat) (j : Nat) (acc : Int32) (yu : Int64) (yl : Int64) (H_4 : Heap) (locs_4 : List Loc), 4 - j < d_4 → (j ≤ 4) → (acc = mr_acc sg rw he hm j) → va_P D vwCl (zM cI g pm rm rr st sg rn bg la ws pr ry hm yu yl sn kp kr kb kl kw kh hc pg rd rw ro be he kro khe) H_4 → va_D A (zM cI g pm rm rr st sg rn bg la ws pr ry hm yu yl sn kp kr kb kl kw kh hc pg rd rw ro be he kro khe) → va_S A s.heap H_4 locs_4 → ∀ (ls : Array Slot), lv_has ls 3 [(2, .int (nI j)), (1, .int acc), (0, .ref (g 0))] → W p l e ({ frames := 4, cells := 0, slots := 0, locals := 93 } : Room) s m ([.ref (g 0)] : List Value).toArray below meth c H_4 locs_4 0 0 (MQ below (va_Qi (fun r (_ : Int64 × Int64) => r = mr_acc sg rw he hm 4) (fun (u : Int64 × Int64) (t : State) => va_P D vwCl (zM cI g pm rm rr st sg rn bg la ws pr ry hm u.1 u.2 sn kp kr kb kl kw kh hc pg rd rw ro be he kro khe) t.heap) A) ([.ref (g 0)] : List Value).toArray s 0 0 A) (F0 m 4 ls []) := by
    intro d_4
    induction d_4 with
    | zero => intro j acc yu yl H_4 locs_4 hd; exact absurd hd (Nat.not_lt_zero _)
    | succ d_4 ih_4 =>
      intro j acc yu yl H_4 locs_4 hd_4 hj hacc hP hD hS ls hl
      refine lv_iload_n hx hb dX7_rulesOf_4 rfl (lv_at hl 0 rfl) ?_
      refine lv_iconst (v := 4) hx hb dX7_rulesOf_5 (by decide) ?_
      refine lv_icmp_ge (tgt := 39) hx hb dX7_rulesOf_6 (by decide) (fun c_6 => ?_) (fun c_6 => ?_)
      · skip
        have hje : j = 4 := Nat.le_antisymm hj (vz_ge (n := 4) c_6 (by omega) (by omega))
        refine lv_iload_n hx hb dX7_rulesOf_39 rfl (lv_at hl 1 rfl) ?_
        exact W.iret hx hb hr (fun t ht hW => ⟨⟨_, (yu, yl), rfl, (by rw [hacc, hje]), (by show va_P D vwCl (zM cI g pm rm rr st sg rn bg la ws pr ry hm yu yl sn kp kr kb kl kw kh hc pg rd rw ro be he kro khe) t.heap; rw [ht]; exact hP)⟩, hS.F ht⟩) hS.2.2 dX7_rulesOf_40
      · skip
        have hlt : j < 4 := vz_lt (n := 4) c_6 (by omega)
        refine lv_aload_n hx hb dX7_rulesOf_9 rfl (lv_at hl 2 rfl) ?_
        refine lv_iload_n hx hb dX7_rulesOf_10 rfl (lv_at hl 0 rfl) ?_
        have hPc := hP
        have hDc := hD
        have hFc : ∀ q, va_A (zM cI g pm rm rr st sg rn bg la ws pr ry hm yu yl sn kp kr kb kl kw kh hc pg rd rw ro be he kro khe) H_4.size q → A q := vz_freeAll hD hS hA
        refine va_callv (va_runV (As := [.int (nI j)]) (rest := []) ⟨hx, hb, hml, hown, hts⟩ (c_X7_layHeard l D cI g pm rm rr st sg rn bg la ws pr ry hm yu yl sn kp kr kb kl kw kh hc pg rd rw ro be he kro khe H_4.size (nI j) (by first | assumption | omega) (by first | assumption | omega) (by first | assumption | omega)) (cwV 1 hts gX7_rulesOf_X7_layHeard rfl rfl rfl (by decide +kernel) ⟨Nat.le_of_ble_eq_true rfl, Nat.le_of_ble_eq_true rfl⟩) (vz_pvW (va_recv hK hP (ci := 7) (q0 := 0) rfl rfl) hZ hPc hDc) rfl rfl hl.1 rfl (lv_room (Nat.le_of_ble_eq_true rfl)) dX7_rulesOf_11 ⟨Nat.zero_le _, Nat.zero_le _⟩) hS (fun q _ h => hFc q h) hFc (fun u_11 t H_11 locs_11 ht hvm hw hB hz1 hk1 hS9 => ?_)
        rw [ht] at hB
        replace hP : va_P D vwCl (zM cI g pm rm rr st sg rn bg la ws pr ry hm ((lh sg rw he (nI j) hm).1) ((lh sg rw he (nI j) hm).2.1) sn kp kr kb kl kw kh hc pg rd rw ro be he kro khe) H_11 := hB
        replace hD : va_D A (zM cI g pm rm rr st sg rn bg la ws pr ry hm ((lh sg rw he (nI j) hm).1) ((lh sg rw he (nI j) hm).2.1) sn kp kr kb kl kw kh hc pg rd rw ro be he kro khe) := vz_same hD rfl
        replace hS := hS9
        clear hS9 hPc hDc hFc hB hk1 hz1
        refine lv_iload_n hx hb dX7_rulesOf_14 rfl (lv_at hl 1 rfl) ?_
        refine lv_aload_n hx hb dX7_rulesOf_15 rfl (lv_at hl 2 rfl) ?_
        refine va_get (D := D) (ci := 7) (v := .long ((lh sg rw he (nI j) hm).1)) (C := RX7) (T := TX7) (N := 30) hx hb hts iX7 hown hK hP 0 rfl rfl 18 (by decide) k183 (fun _ h9 => h9) rfl dX7_rulesOf_16 ?_
        refine lv_lconst (v := 0) hx hb dX7_rulesOf_19 (by decide) ?_
        refine W.lcmp hx hb dX7_rulesOf_20 ?_
        refine lv_if_le (tgt := 30) hx hb dX7_rulesOf_21 (by decide) (fun c_21 => ?_) (fun c_21 => ?_)
        · skip
          replace c_21 := (lg_cmp_le _ _).mp c_21
          refine lv_iconst (v := 0) hx hb dX7_rulesOf_30 (by decide) ?_
          refine lv_ior hx hb dX7_rulesOf_31 ?_
          refine lv_istore_n (lv' := [(1, .int (acc ||| 0)), (2, .int (nI j)), (0, .ref (g 0))]) hx hb dX7_rulesOf_32 rfl hl (by decide) rfl (fun ls hl => ?_)
          refine lv_iinc (v := nI (j + 1)) (lv' := [(2, .int (nI (j + 1))), (1, .int (acc ||| 0)), (0, .ref (g 0))]) hx hb dX7_rulesOf_33 hl (k := 1) rfl (vz_inc _) (by decide) rfl (fun ls hl => ?_)
          refine lv_goto (tgt := 4) hx hb dX7_rulesOf_36 (by decide) ?_
          have ew_xu : ((lh sg rw he (nI j) hm).1) = (lh sg rw he (nI j) hm).1 := by rfl
          have ew_xl : ((lh sg rw he (nI j) hm).2.1) = (lh sg rw he (nI j) hm).2.1 := by rfl
          replace hP : va_P D vwCl (zM cI g pm rm rr st sg rn bg la ws pr ry hm ((lh sg rw he (nI j) hm).1) ((lh sg rw he (nI j) hm).2.1) sn kp kr kb kl kw kh hc pg rd rw ro be he kro khe) H_11 := by rw [ew_xu, ew_xl]; exact hP
          replace hD : va_D A (zM cI g pm rm rr st sg rn bg la ws pr ry hm ((lh sg rw he (nI j) hm).1) ((lh sg rw he (nI j) hm).2.1) sn kp kr kb kl kw kh hc pg rd rw ro be he kro khe) := vz_same hD rfl
          exact ih_4 (j + 1) (acc ||| 0) ((lh sg rw he (nI j) hm).1) ((lh sg rw he (nI j) hm).2.1) _ _ (by omega) (by omega) (by simp only [mr_acc, hacc, c_6, c_21, ↓reduceIte]) hP hD hS ls (lv_sub hl [0, 1, 2] rfl)
        · skip
          replace c_21 := mt (lg_cmp_le _ _).mpr c_21
          refine lv_iconst (v := 1) hx hb dX7_rulesOf_24 (by decide) ?_
          refine lv_iload_n hx hb dX7_rulesOf_25 rfl (lv_at hl 0 rfl) ?_
          refine lv_ishl hx hb dX7_rulesOf_26 ?_
          refine lv_goto (tgt := 31) hx hb dX7_rulesOf_27 (by decide) ?_
          refine lv_ior hx hb dX7_rulesOf_31 ?_
          refine lv_istore_n (lv' := [(1, .int (acc ||| (1 <<< ((nI j) &&& 31)))), (2, .int (nI j)), (0, .ref (g 0))]) hx hb dX7_rulesOf_32 rfl hl (by decide) rfl (fun ls hl => ?_)
          refine lv_iinc (v := nI (j + 1)) (lv' := [(2, .int (nI (j + 1))), (1, .int (acc ||| (1 <<< ((nI j) &&& 31)))), (0, .ref (g 0))]) hx hb dX7_rulesOf_33 hl (k := 1) rfl (vz_inc _) (by decide) rfl (fun ls hl => ?_)
          refine lv_goto (tgt := 4) hx hb dX7_rulesOf_36 (by decide) ?_
          have ew_xu : ((lh sg rw he (nI j) hm).1) = (lh sg rw he (nI j) hm).1 := by rfl
          have ew_xl : ((lh sg rw he (nI j) hm).2.1) = (lh sg rw he (nI j) hm).2.1 := by rfl
          replace hP : va_P D vwCl (zM cI g pm rm rr st sg rn bg la ws pr ry hm ((lh sg rw he (nI j) hm).1) ((lh sg rw he (nI j) hm).2.1) sn kp kr kb kl kw kh hc pg rd rw ro be he kro khe) H_11 := by rw [ew_xu, ew_xl]; exact hP
          replace hD : va_D A (zM cI g pm rm rr st sg rn bg la ws pr ry hm ((lh sg rw he (nI j) hm).1) ((lh sg rw he (nI j) hm).2.1) sn kp kr kb kl kw kh hc pg rd rw ro be he kro khe) := vz_same hD rfl
          exact ih_4 (j + 1) (acc ||| (1 <<< ((nI j) &&& 31))) ((lh sg rw he (nI j) hm).1) ((lh sg rw he (nI j) hm).2.1) _ _ (by omega) (by omega) (by simp only [mr_acc, hacc, c_6, c_21, ↓reduceIte]) hP hD hS ls (lv_sub hl [0, 1, 2] rfl)
  exact L_4 _ 0 0 xu xl _ _ (Nat.lt_succ_self _) (Nat.zero_le _) rfl hP hD hS ls (lv_sub hl [0, 1, 2] rfl)
set_option maxHeartbeats 4000000 in
set_option maxRecDepth 100000 in
theorem c_X7_rules (l : Launch) (D : va_G) (cI : ClassId) (g : Nat → Nat) (pm : Nat) (rm : Nat) (rr : Int32) (st : Nat) (sg : Nat) (rn : Int32) (bg : Int32) (la : Int32) (ws : Bool) (pr : Nat) (ry : Nat) (hm : Nat) (xu : Int64) (xl : Int64) (sn : Int32) (kp : Int32) (kr : Int32) (kb : Int32) (kl : Int32) (kw : Bool) (kh : Nat) (hc : Int64) (pg : Nat → Int32) (rd : Nat → Int32) (rw : Nat → Int32) (ro : Nat → Int32) (be : Nat → Int32) (he : Nat → Int32) (kro : Nat → Int32) (khe : Nat → Int32) (sz : Nat) (hsg : sg ≤ 6) (hhm : hm ≤ 8) (hhe : ∀ k : Nat, k < hm → ∃ x : Nat, x < sg ∧ he k = nI x) : Met l yX7_rules wsX7_rules ({ frames := 5, cells := 0, slots := 0, locals := 115 } : Room) (vz_rw D cI (zM cI g pm rm rr st sg rn bg la ws pr ry hm xu xl sn kp kr kb kl kw kh hc pg rd rw ro be he kro khe) sz [.ref (g 0)]) (va_Qi (fun r (_ : Int64 × Int64) => r = if sa_np sg then -103 else mr_acc sg rw he hm 4) (fun (u : Int64 × Int64) (t : State) => va_P D vwCl (zM cI g pm rm rr st sg rn bg la ws pr ry hm u.1 u.2 sn kp kr kb kl kw kh hc pg rd rw ro be he kro khe) t.heap) (va_A (zM cI g pm rm rr st sg rn bg la ws pr ry hm xu xl sn kp kr kb kl kw kh hc pg rd rw ro be he kro khe) sz)) 0 0 (va_A (zM cI g pm rm rr st sg rn bg la ws pr ry hm xu xl sn kp kr kb kl kw kh hc pg rd rw ro be he kro khe) sz) := by
  refine Met.ofW (cc := cX7_rules) (maxL := 1) (ret := (some .int)) (by decide) rfl ?_
  intro p e s m args below meth c s₁ B hml hv
  obtain ⟨rfl, hsz, hP, hZ, hD0⟩ := hv
  obtain ⟨hK, hN⟩ := id hZ
  have hx := B.exec
  have hb := B.bytes
  have hr := B.returns
  have hts := atoms_spec (ws := wsX7_rules) B.pre
  have hown : s.vm.findClass RX7 = some m.cls := findClass_of_methodNamed B.named
  have hlocks := B.notSynchronized
  subst hsz
  have hD := hD0.self (sz := s.heap.size)
  generalize hAe : va_A (zM cI g pm rm rr st sg rn bg la ws pr ry hm xu xl sn kp kr kb kl kw kh hc pg rd rw ro be he kro khe) s.heap.size = A at hD ⊢
  have hA : ∀ q : Nat, s.heap.size ≤ q → A q := fun q h => by rw [← hAe]; exact Or.inr h
  have hS : va_S A s.heap s.heap [] := va_S.rf
  have hl := lv_entry ([.ref (g 0)]) (n := 1) (Nat.le_of_ble_eq_true rfl)
  rw [lg_entry_eq]
  generalize (lg_sl ([.ref (g 0)]) ++ List.replicate (1 - (lg_sl ([.ref (g 0)])).length) Slot.unset).toArray = ls at hl ⊢
  have hl : lv_has ls 1 [(0, .ref (g 0))] := hl
  have hP : va_P D vwCl (zM cI g pm rm rr st sg rn bg la ws pr ry hm xu xl sn kp kr kb kl kw kh hc pg rd rw ro be he kro khe) s.heap := hP
  refine lv_aload_n hx hb dX7_rules_0 rfl (lv_at hl 0 rfl) ?_
  refine vp_callSi (W.runV (As := []) (rest := []) ⟨hx, hb, hml, hown, hts⟩ (c_X7_lacks l D cI g pm rm rr st sg rn bg la ws pr ry hm xu xl sn kp kr kb kl kw kh hc pg rd rw ro be he kro khe (by first | assumption | omega)) (cwV 0 hts gX7_rules_X7_lacks rfl rfl rfl (by decide +kernel) ⟨Nat.le_of_ble_eq_true rfl, Nat.le_of_ble_eq_true rfl⟩) (vz_pvR (va_recv hK hP (ci := 7) (q0 := 0) rfl rfl) hZ hP) rfl rfl hl.1 rfl (lv_room (Nat.le_of_ble_eq_true rfl)) dX7_rules_1 ⟨Nat.zero_le _, Nat.zero_le _⟩) (fun r_1 hr_1 => ?_)
  subst hr_1
  refine lv_if_eq (tgt := 12) hx hb dX7_rules_4 (by decide) (fun c_4 => ?_) (fun c_4 => ?_)
  · skip
    replace c_4 := vz_b0 c_4
    refine lv_aload_n hx hb dX7_rules_12 rfl (lv_at hl 0 rfl) ?_
    have hPc := hP
    have hDc := hD
    have hFc : ∀ q, va_A (zM cI g pm rm rr st sg rn bg la ws pr ry hm xu xl sn kp kr kb kl kw kh hc pg rd rw ro be he kro khe) s.heap.size q → A q := vz_freeAll hD hS hA
    refine va_calli (va_runV (As := []) (rest := []) ⟨hx, hb, hml, hown, hts⟩ (c_X7_rulesOf l D cI g pm rm rr st sg rn bg la ws pr ry hm xu xl sn kp kr kb kl kw kh hc pg rd rw ro be he kro khe s.heap.size (by first | assumption | omega) (by first | assumption | omega) (by first | assumption | omega)) (cwV 0 hts gX7_rules_X7_rulesOf rfl rfl rfl (by decide +kernel) ⟨Nat.le_of_ble_eq_true rfl, Nat.le_of_ble_eq_true rfl⟩) (vz_pvW (va_recv hK hP (ci := 7) (q0 := 0) rfl rfl) hZ hPc hDc) rfl rfl hl.1 rfl (lv_room (Nat.le_of_ble_eq_true rfl)) dX7_rules_13 ⟨Nat.zero_le _, Nat.zero_le _⟩) hS (fun q _ h => hFc q h) hFc (fun r_13 u_13 t H_13 locs_13 ht hvm hw hB hz1 hk1 hS9 => ?_)
    rw [ht] at hB
    replace hP : va_P D vwCl (zM cI g pm rm rr st sg rn bg la ws pr ry hm u_13.1 u_13.2 sn kp kr kb kl kw kh hc pg rd rw ro be he kro khe) H_13 := hB
    replace hD : va_D A (zM cI g pm rm rr st sg rn bg la ws pr ry hm u_13.1 u_13.2 sn kp kr kb kl kw kh hc pg rd rw ro be he kro khe) := vz_same hD rfl
    replace hS := hS9
    clear hS9 hPc hDc hFc hB hk1 hz1
    subst hw
    exact W.iret hx hb hr (fun t ht hW => ⟨⟨_, (u_13.1, u_13.2), rfl, (by first | rfl | (rfl; done) | (rfl; rfl) | (simp only [c_4, ↓reduceIte, Bool.false_eq_true, if_true, if_false, reduceCtorEq, not_true_eq_false, not_false_eq_true, eq_self]; done) | (simp only [c_4, ↓reduceIte, Bool.false_eq_true, if_true, if_false, reduceCtorEq, not_true_eq_false, not_false_eq_true, eq_self]; rfl) | (simp [c_4]; done)), (by show va_P D vwCl (zM cI g pm rm rr st sg rn bg la ws pr ry hm u_13.1 u_13.2 sn kp kr kb kl kw kh hc pg rd rw ro be he kro khe) t.heap; rw [ht]; exact hP)⟩, hS.F ht⟩) hS.2.2 dX7_rules_16
  · skip
    replace c_4 := vz_b1 c_4
    refine lv_bipush (v := (-103)) hx hb dX7_rules_7 (by decide) ?_
    refine lv_goto (tgt := 16) hx hb dX7_rules_9 (by decide) ?_
    exact W.iret hx hb hr (fun t ht hW => ⟨⟨_, (xu, xl), rfl, (by first | rfl | (rfl; done) | (rfl; rfl) | (simp only [c_4, ↓reduceIte, Bool.false_eq_true, if_true, if_false, reduceCtorEq, not_true_eq_false, not_false_eq_true, eq_self]; done) | (simp only [c_4, ↓reduceIte, Bool.false_eq_true, if_true, if_false, reduceCtorEq, not_true_eq_false, not_false_eq_true, eq_self]; rfl) | (simp [c_4]; done)), (by show va_P D vwCl (zM cI g pm rm rr st sg rn bg la ws pr ry hm xu xl sn kp kr kb kl kw kh hc pg rd rw ro be he kro khe) t.heap; rw [ht]; exact hP)⟩, hS.F ht⟩) hS.2.2 dX7_rules_16
set_option maxHeartbeats 4000000 in
set_option maxRecDepth 100000 in
theorem c_X7_likelyOf (l : Launch) (D : va_G) (cI : ClassId) (g : Nat → Nat) (pm : Nat) (rm : Nat) (rr : Int32) (st : Nat) (sg : Nat) (rn : Int32) (bg : Int32) (la : Int32) (ws : Bool) (pr : Nat) (ry : Nat) (hm : Nat) (xu : Int64) (xl : Int64) (sn : Int32) (kp : Int32) (kr : Int32) (kb : Int32) (kl : Int32) (kw : Bool) (kh : Nat) (hc : Int64) (pg : Nat → Int32) (rd : Nat → Int32) (rw : Nat → Int32) (ro : Nat → Int32) (be : Nat → Int32) (he : Nat → Int32) (kro : Nat → Int32) (khe : Nat → Int32) (sz : Nat) (hsg : sg ≤ 6) (hhm : hm ≤ 8) (hhe : ∀ k : Nat, k < hm → ∃ x : Nat, x < sg ∧ he k = nI x) : Met l yX7_likelyOf wsX7_likelyOf ({ frames := 4, cells := 0, slots := 0, locals := 93 } : Room) (vz_rw D cI (zM cI g pm rm rr st sg rn bg la ws pr ry hm xu xl sn kp kr kb kl kw kh hc pg rd rw ro be he kro khe) sz [.ref (g 0)]) (va_Qi (fun r (_ : Int64 × Int64) => r = (mk sg rw he hm 4).1) (fun (u : Int64 × Int64) (t : State) => va_P D vwCl (zM cI g pm rm rr st sg rn bg la ws pr ry hm u.1 u.2 sn kp kr kb kl kw kh hc pg rd rw ro be he kro khe) t.heap) (va_A (zM cI g pm rm rr st sg rn bg la ws pr ry hm xu xl sn kp kr kb kl kw kh hc pg rd rw ro be he kro khe) sz)) 0 0 (va_A (zM cI g pm rm rr st sg rn bg la ws pr ry hm xu xl sn kp kr kb kl kw kh hc pg rd rw ro be he kro khe) sz) := by
  refine Met.ofW (cc := cX7_likelyOf) (maxL := 7) (ret := (some .int)) (by decide) rfl ?_
  intro p e s m args below meth c s₁ B hml hv
  obtain ⟨rfl, hsz, hP, hZ, hD0⟩ := hv
  obtain ⟨hK, hN⟩ := id hZ
  have hx := B.exec
  have hb := B.bytes
  have hr := B.returns
  have hts := atoms_spec (ws := wsX7_likelyOf) B.pre
  have hown : s.vm.findClass RX7 = some m.cls := findClass_of_methodNamed B.named
  have hlocks := B.notSynchronized
  subst hsz
  have hD := hD0.self (sz := s.heap.size)
  generalize hAe : va_A (zM cI g pm rm rr st sg rn bg la ws pr ry hm xu xl sn kp kr kb kl kw kh hc pg rd rw ro be he kro khe) s.heap.size = A at hD ⊢
  have hA : ∀ q : Nat, s.heap.size ≤ q → A q := fun q h => by rw [← hAe]; exact Or.inr h
  have hS : va_S A s.heap s.heap [] := va_S.rf
  have k183 := hts (.fieldLink RX7 183 "SongsAgainModel" "heardUp" "J") (List.mem_of_getElem? (i := 1) rfl)
  have k187 := hts (.fieldLink RX7 187 "SongsAgainModel" "heardLow" "J") (List.mem_of_getElem? (i := 2) rfl)
  have iX7 : ∀ w ∈ u_ws RX7 TX7 30, w ∈ wsX7_likelyOf := vz_in (i := 36) (n := 30) rfl
  have hl := lv_entry ([.ref (g 0)]) (n := 7) (Nat.le_of_ble_eq_true rfl)
  rw [lg_entry_eq]
  generalize (lg_sl ([.ref (g 0)]) ++ List.replicate (7 - (lg_sl ([.ref (g 0)])).length) Slot.unset).toArray = ls at hl ⊢
  have hl : lv_has ls 7 [(0, .ref (g 0))] := hl
  have hP : va_P D vwCl (zM cI g pm rm rr st sg rn bg la ws pr ry hm xu xl sn kp kr kb kl kw kh hc pg rd rw ro be he kro khe) s.heap := hP
  refine lv_iconst (v := (-1)) hx hb dX7_likelyOf_0 (by decide) ?_
  refine lv_istore_n (lv' := [(1, .int (-1)), (0, .ref (g 0))]) hx hb dX7_likelyOf_1 rfl hl (by decide) rfl (fun ls hl => ?_)
  refine lv_lconst (v := 0) hx hb dX7_likelyOf_2 (by decide) ?_
  refine lv_lstore_n (lv' := [(2, .long 0), (1, .int (-1)), (0, .ref (g 0))]) hx hb dX7_likelyOf_3 rfl hl (by decide) rfl (fun ls hl => ?_)
  refine lv_lconst (v := 1) hx hb dX7_likelyOf_4 (by decide) ?_
  refine lv_lstore (lv' := [(4, .long 1), (2, .long 0), (1, .int (-1)), (0, .ref (g 0))]) hx hb dX7_likelyOf_5 hl (by decide) rfl (fun ls hl => ?_)
  refine lv_iconst (v := 0) hx hb dX7_likelyOf_7 (by decide) ?_
  refine lv_istore (lv' := [(6, .int 0), (4, .long 1), (2, .long 0), (1, .int (-1)), (0, .ref (g 0))]) hx hb dX7_likelyOf_8 hl (by decide) rfl (fun ls hl => ?_)
  have L_10 : ∀ (d_10 : Nat) (j : Nat) (a1 : Int32) (u2 : Int64) (l4 : Int64) (yu : Int64) (yl : Int64) (H_10 : Heap) (locs_10 : List Loc), 4 - j < d_10 → (j ≤ 4) → (mk sg rw he hm j = (a1, u2, l4)) → va_P D vwCl (zM cI g pm rm rr st sg rn bg la ws pr ry hm yu yl sn kp kr kb kl kw kh hc pg rd rw ro be he kro khe) H_10 → va_D A (zM cI g pm rm rr st sg rn bg la ws pr ry hm yu yl sn kp kr kb kl kw kh hc pg rd rw ro be he kro khe) → va_S A s.heap H_10 locs_10 → ∀ (ls : Array Slot), lv_has ls 7 [(6, .int (nI j)), (4, .long l4), (2, .long u2), (1, .int a1), (0, .ref (g 0))] → W p l e ({ frames := 4, cells := 0, slots := 0, locals := 93 } : Room) s m ([.ref (g 0)] : List Value).toArray below meth c H_10 locs_10 0 0 (MQ below (va_Qi (fun r (_ : Int64 × Int64) => r = (mk sg rw he hm 4).1) (fun (u : Int64 × Int64) (t : State) => va_P D vwCl (zM cI g pm rm rr st sg rn bg la ws pr ry hm u.1 u.2 sn kp kr kb kl kw kh hc pg rd rw ro be he kro khe) t.heap) A) ([.ref (g 0)] : List Value).toArray s 0 0 A) (F0 m 10 ls []) := by
    intro d_10
    induction d_10 with
    | zero => intro j a1 u2 l4 yu yl H_10 locs_10 hd; exact absurd hd (Nat.not_lt_zero _)
    | succ d_10 ih_10 =>
      intro j a1 u2 l4 yu yl H_10 locs_10 hd_10 hj hmk hP hD hS ls hl
      refine lv_iload hx hb dX7_likelyOf_10 (lv_at hl 0 rfl) ?_
      refine lv_iconst (v := 4) hx hb dX7_likelyOf_12 (by decide) ?_
      refine lv_icmp_ge (tgt := 59) hx hb dX7_likelyOf_13 (by decide) (fun c_13 => ?_) (fun c_13 => ?_)
      · skip
        have hje : j = 4 := Nat.le_antisymm hj (vz_ge (n := 4) c_13 (by omega) (by omega))
        refine lv_iload_n hx hb dX7_likelyOf_59 rfl (lv_at hl 3 rfl) ?_
        exact W.iret hx hb hr (fun t ht hW => ⟨⟨_, (yu, yl), rfl, (by rw [← hje, hmk]), (by show va_P D vwCl (zM cI g pm rm rr st sg rn bg la ws pr ry hm yu yl sn kp kr kb kl kw kh hc pg rd rw ro be he kro khe) t.heap; rw [ht]; exact hP)⟩, hS.F ht⟩) hS.2.2 dX7_likelyOf_60
      · skip
        have hlt : j < 4 := vz_lt (n := 4) c_13 (by omega)
        refine lv_aload_n hx hb dX7_likelyOf_16 rfl (lv_at hl 4 rfl) ?_
        refine lv_iload hx hb dX7_likelyOf_17 (lv_at hl 0 rfl) ?_
        have hPc := hP
        have hDc := hD
        have hFc : ∀ q, va_A (zM cI g pm rm rr st sg rn bg la ws pr ry hm yu yl sn kp kr kb kl kw kh hc pg rd rw ro be he kro khe) H_10.size q → A q := vz_freeAll hD hS hA
        refine va_callv (va_runV (As := [.int (nI j)]) (rest := []) ⟨hx, hb, hml, hown, hts⟩ (c_X7_layHeard l D cI g pm rm rr st sg rn bg la ws pr ry hm yu yl sn kp kr kb kl kw kh hc pg rd rw ro be he kro khe H_10.size (nI j) (by first | assumption | omega) (by first | assumption | omega) (by first | assumption | omega)) (cwV 1 hts gX7_likelyOf_X7_layHeard rfl rfl rfl (by decide +kernel) ⟨Nat.le_of_ble_eq_true rfl, Nat.le_of_ble_eq_true rfl⟩) (vz_pvW (va_recv hK hP (ci := 7) (q0 := 0) rfl rfl) hZ hPc hDc) rfl rfl hl.1 rfl (lv_room (Nat.le_of_ble_eq_true rfl)) dX7_likelyOf_19 ⟨Nat.zero_le _, Nat.zero_le _⟩) hS (fun q _ h => hFc q h) hFc (fun u_19 t H_19 locs_19 ht hvm hw hB hz1 hk1 hS9 => ?_)
        rw [ht] at hB
        replace hP : va_P D vwCl (zM cI g pm rm rr st sg rn bg la ws pr ry hm ((lh sg rw he (nI j) hm).1) ((lh sg rw he (nI j) hm).2.1) sn kp kr kb kl kw kh hc pg rd rw ro be he kro khe) H_19 := hB
        replace hD : va_D A (zM cI g pm rm rr st sg rn bg la ws pr ry hm ((lh sg rw he (nI j) hm).1) ((lh sg rw he (nI j) hm).2.1) sn kp kr kb kl kw kh hc pg rd rw ro be he kro khe) := vz_same hD rfl
        replace hS := hS9
        clear hS9 hPc hDc hFc hB hk1 hz1
        refine lv_aload_n hx hb dX7_likelyOf_22 rfl (lv_at hl 4 rfl) ?_
        refine va_get (D := D) (ci := 7) (v := .long ((lh sg rw he (nI j) hm).1)) (C := RX7) (T := TX7) (N := 30) hx hb hts iX7 hown hK hP 0 rfl rfl 18 (by decide) k183 (fun _ h9 => h9) rfl dX7_likelyOf_23 ?_
        refine lv_lload hx hb dX7_likelyOf_26 (lv_at hl 1 rfl) ?_
        refine lv_lmul hx hb dX7_likelyOf_28 ?_
        refine lv_lload_n hx hb dX7_likelyOf_29 rfl (lv_at hl 2 rfl) ?_
        refine lv_aload_n hx hb dX7_likelyOf_30 rfl (lv_at hl 4 rfl) ?_
        refine va_get (D := D) (ci := 7) (v := .long ((lh sg rw he (nI j) hm).2.1)) (C := RX7) (T := TX7) (N := 30) hx hb hts iX7 hown hK hP 0 rfl rfl 19 (by decide) k187 (fun _ h9 => h9) rfl dX7_likelyOf_31 ?_
        refine lv_lmul hx hb dX7_likelyOf_34 ?_
        refine W.lcmp hx hb dX7_likelyOf_35 ?_
        refine lv_if_le (tgt := 53) hx hb dX7_likelyOf_36 (by decide) (fun c_36 => ?_) (fun c_36 => ?_)
        · skip
          replace c_36 := (lg_cmp_le _ _).mp c_36
          refine lv_iinc (v := nI (j + 1)) (lv' := [(6, .int (nI (j + 1))), (4, .long l4), (2, .long u2), (1, .int a1), (0, .ref (g 0))]) hx hb dX7_likelyOf_53 hl (k := 0) rfl (vz_inc _) (by decide) rfl (fun ls hl => ?_)
          refine lv_goto (tgt := 10) hx hb dX7_likelyOf_56 (by decide) ?_
          have ew_xu : ((lh sg rw he (nI j) hm).1) = (lh sg rw he (nI j) hm).1 := by rfl
          have ew_xl : ((lh sg rw he (nI j) hm).2.1) = (lh sg rw he (nI j) hm).2.1 := by rfl
          replace hP : va_P D vwCl (zM cI g pm rm rr st sg rn bg la ws pr ry hm ((lh sg rw he (nI j) hm).1) ((lh sg rw he (nI j) hm).2.1) sn kp kr kb kl kw kh hc pg rd rw ro be he kro khe) H_19 := by rw [ew_xu, ew_xl]; exact hP
          replace hD : va_D A (zM cI g pm rm rr st sg rn bg la ws pr ry hm ((lh sg rw he (nI j) hm).1) ((lh sg rw he (nI j) hm).2.1) sn kp kr kb kl kw kh hc pg rd rw ro be he kro khe) := vz_same hD rfl
          exact ih_10 (j + 1) a1 u2 l4 ((lh sg rw he (nI j) hm).1) ((lh sg rw he (nI j) hm).2.1) _ _ (by omega) (by omega) (by simp only [mk, hmk, c_13, c_36, ↓reduceIte]) hP hD hS ls (lv_sub hl [0, 1, 2, 3, 4] rfl)
        · skip
          replace c_36 := mt (lg_cmp_le _ _).mpr c_36
          refine lv_iload hx hb dX7_likelyOf_39 (lv_at hl 0 rfl) ?_
          refine lv_istore_n (lv' := [(1, .int (nI j)), (6, .int (nI j)), (4, .long l4), (2, .long u2), (0, .ref (g 0))]) hx hb dX7_likelyOf_41 rfl hl (by decide) rfl (fun ls hl => ?_)
          refine lv_aload_n hx hb dX7_likelyOf_42 rfl (lv_at hl 4 rfl) ?_
          refine va_get (D := D) (ci := 7) (v := .long ((lh sg rw he (nI j) hm).1)) (C := RX7) (T := TX7) (N := 30) hx hb hts iX7 hown hK hP 0 rfl rfl 18 (by decide) k183 (fun _ h9 => h9) rfl dX7_likelyOf_43 ?_
          refine lv_lstore_n (lv' := [(2, .long ((lh sg rw he (nI j) hm).1)), (1, .int (nI j)), (6, .int (nI j)), (4, .long l4), (0, .ref (g 0))]) hx hb dX7_likelyOf_46 rfl hl (by decide) rfl (fun ls hl => ?_)
          refine lv_aload_n hx hb dX7_likelyOf_47 rfl (lv_at hl 4 rfl) ?_
          refine va_get (D := D) (ci := 7) (v := .long ((lh sg rw he (nI j) hm).2.1)) (C := RX7) (T := TX7) (N := 30) hx hb hts iX7 hown hK hP 0 rfl rfl 19 (by decide) k187 (fun _ h9 => h9) rfl dX7_likelyOf_48 ?_
          refine lv_lstore (lv' := [(4, .long ((lh sg rw he (nI j) hm).2.1)), (2, .long ((lh sg rw he (nI j) hm).1)), (1, .int (nI j)), (6, .int (nI j)), (0, .ref (g 0))]) hx hb dX7_likelyOf_51 hl (by decide) rfl (fun ls hl => ?_)
          refine lv_iinc (v := nI (j + 1)) (lv' := [(6, .int (nI (j + 1))), (4, .long ((lh sg rw he (nI j) hm).2.1)), (2, .long ((lh sg rw he (nI j) hm).1)), (1, .int (nI j)), (0, .ref (g 0))]) hx hb dX7_likelyOf_53 hl (k := 3) rfl (vz_inc _) (by decide) rfl (fun ls hl => ?_)
          refine lv_goto (tgt := 10) hx hb dX7_likelyOf_56 (by decide) ?_
          have ew_xu : ((lh sg rw he (nI j) hm).1) = (lh sg rw he (nI j) hm).1 := by rfl
          have ew_xl : ((lh sg rw he (nI j) hm).2.1) = (lh sg rw he (nI j) hm).2.1 := by rfl
          replace hP : va_P D vwCl (zM cI g pm rm rr st sg rn bg la ws pr ry hm ((lh sg rw he (nI j) hm).1) ((lh sg rw he (nI j) hm).2.1) sn kp kr kb kl kw kh hc pg rd rw ro be he kro khe) H_19 := by rw [ew_xu, ew_xl]; exact hP
          replace hD : va_D A (zM cI g pm rm rr st sg rn bg la ws pr ry hm ((lh sg rw he (nI j) hm).1) ((lh sg rw he (nI j) hm).2.1) sn kp kr kb kl kw kh hc pg rd rw ro be he kro khe) := vz_same hD rfl
          exact ih_10 (j + 1) (nI j) ((lh sg rw he (nI j) hm).1) ((lh sg rw he (nI j) hm).2.1) ((lh sg rw he (nI j) hm).1) ((lh sg rw he (nI j) hm).2.1) _ _ (by omega) (by omega) (by simp only [mk, hmk, c_13, c_36, ↓reduceIte]) hP hD hS ls (lv_sub hl [0, 1, 2, 3, 4] rfl)
  exact L_10 _ 0 (-1) 0 1 xu xl _ _ (Nat.lt_succ_self _) (Nat.zero_le _) rfl hP hD hS ls (lv_sub hl [0, 1, 2, 3, 4] rfl)
set_option maxHeartbeats 4000000 in
set_option maxRecDepth 100000 in
theorem c_X7_likely (l : Launch) (D : va_G) (cI : ClassId) (g : Nat → Nat) (pm : Nat) (rm : Nat) (rr : Int32) (st : Nat) (sg : Nat) (rn : Int32) (bg : Int32) (la : Int32) (ws : Bool) (pr : Nat) (ry : Nat) (hm : Nat) (xu : Int64) (xl : Int64) (sn : Int32) (kp : Int32) (kr : Int32) (kb : Int32) (kl : Int32) (kw : Bool) (kh : Nat) (hc : Int64) (pg : Nat → Int32) (rd : Nat → Int32) (rw : Nat → Int32) (ro : Nat → Int32) (be : Nat → Int32) (he : Nat → Int32) (kro : Nat → Int32) (khe : Nat → Int32) (sz : Nat) (hsg : sg ≤ 6) (hhm : hm ≤ 8) (hhe : ∀ k : Nat, k < hm → ∃ x : Nat, x < sg ∧ he k = nI x) : Met l yX7_likely wsX7_likely ({ frames := 5, cells := 0, slots := 0, locals := 119 } : Room) (vz_rw D cI (zM cI g pm rm rr st sg rn bg la ws pr ry hm xu xl sn kp kr kb kl kw kh hc pg rd rw ro be he kro khe) sz [.ref (g 0)]) (va_Qi (fun r (_ : Int64 × Int64) => r = if sa_np sg then -103 else (mk sg rw he hm 4).1) (fun (u : Int64 × Int64) (t : State) => va_P D vwCl (zM cI g pm rm rr st sg rn bg la ws pr ry hm u.1 u.2 sn kp kr kb kl kw kh hc pg rd rw ro be he kro khe) t.heap) (va_A (zM cI g pm rm rr st sg rn bg la ws pr ry hm xu xl sn kp kr kb kl kw kh hc pg rd rw ro be he kro khe) sz)) 0 0 (va_A (zM cI g pm rm rr st sg rn bg la ws pr ry hm xu xl sn kp kr kb kl kw kh hc pg rd rw ro be he kro khe) sz) := by
  refine Met.ofW (cc := cX7_likely) (maxL := 1) (ret := (some .int)) (by decide) rfl ?_
  intro p e s m args below meth c s₁ B hml hv
  obtain ⟨rfl, hsz, hP, hZ, hD0⟩ := hv
  obtain ⟨hK, hN⟩ := id hZ
  have hx := B.exec
  have hb := B.bytes
  have hr := B.returns
  have hts := atoms_spec (ws := wsX7_likely) B.pre
  have hown : s.vm.findClass RX7 = some m.cls := findClass_of_methodNamed B.named
  have hlocks := B.notSynchronized
  subst hsz
  have hD := hD0.self (sz := s.heap.size)
  generalize hAe : va_A (zM cI g pm rm rr st sg rn bg la ws pr ry hm xu xl sn kp kr kb kl kw kh hc pg rd rw ro be he kro khe) s.heap.size = A at hD ⊢
  have hA : ∀ q : Nat, s.heap.size ≤ q → A q := fun q h => by rw [← hAe]; exact Or.inr h
  have hS : va_S A s.heap s.heap [] := va_S.rf
  have hl := lv_entry ([.ref (g 0)]) (n := 1) (Nat.le_of_ble_eq_true rfl)
  rw [lg_entry_eq]
  generalize (lg_sl ([.ref (g 0)]) ++ List.replicate (1 - (lg_sl ([.ref (g 0)])).length) Slot.unset).toArray = ls at hl ⊢
  have hl : lv_has ls 1 [(0, .ref (g 0))] := hl
  have hP : va_P D vwCl (zM cI g pm rm rr st sg rn bg la ws pr ry hm xu xl sn kp kr kb kl kw kh hc pg rd rw ro be he kro khe) s.heap := hP
  refine lv_aload_n hx hb dX7_likely_0 rfl (lv_at hl 0 rfl) ?_
  refine vp_callSi (W.runV (As := []) (rest := []) ⟨hx, hb, hml, hown, hts⟩ (c_X7_lacks l D cI g pm rm rr st sg rn bg la ws pr ry hm xu xl sn kp kr kb kl kw kh hc pg rd rw ro be he kro khe (by first | assumption | omega)) (cwV 0 hts gX7_likely_X7_lacks rfl rfl rfl (by decide +kernel) ⟨Nat.le_of_ble_eq_true rfl, Nat.le_of_ble_eq_true rfl⟩) (vz_pvR (va_recv hK hP (ci := 7) (q0 := 0) rfl rfl) hZ hP) rfl rfl hl.1 rfl (lv_room (Nat.le_of_ble_eq_true rfl)) dX7_likely_1 ⟨Nat.zero_le _, Nat.zero_le _⟩) (fun r_1 hr_1 => ?_)
  subst hr_1
  refine lv_if_eq (tgt := 12) hx hb dX7_likely_4 (by decide) (fun c_4 => ?_) (fun c_4 => ?_)
  · skip
    replace c_4 := vz_b0 c_4
    refine lv_aload_n hx hb dX7_likely_12 rfl (lv_at hl 0 rfl) ?_
    have hPc := hP
    have hDc := hD
    have hFc : ∀ q, va_A (zM cI g pm rm rr st sg rn bg la ws pr ry hm xu xl sn kp kr kb kl kw kh hc pg rd rw ro be he kro khe) s.heap.size q → A q := vz_freeAll hD hS hA
    refine va_calli (va_runV (As := []) (rest := []) ⟨hx, hb, hml, hown, hts⟩ (c_X7_likelyOf l D cI g pm rm rr st sg rn bg la ws pr ry hm xu xl sn kp kr kb kl kw kh hc pg rd rw ro be he kro khe s.heap.size (by first | assumption | omega) (by first | assumption | omega) (by first | assumption | omega)) (cwV 0 hts gX7_likely_X7_likelyOf rfl rfl rfl (by decide +kernel) ⟨Nat.le_of_ble_eq_true rfl, Nat.le_of_ble_eq_true rfl⟩) (vz_pvW (va_recv hK hP (ci := 7) (q0 := 0) rfl rfl) hZ hPc hDc) rfl rfl hl.1 rfl (lv_room (Nat.le_of_ble_eq_true rfl)) dX7_likely_13 ⟨Nat.zero_le _, Nat.zero_le _⟩) hS (fun q _ h => hFc q h) hFc (fun r_13 u_13 t H_13 locs_13 ht hvm hw hB hz1 hk1 hS9 => ?_)
    rw [ht] at hB
    replace hP : va_P D vwCl (zM cI g pm rm rr st sg rn bg la ws pr ry hm u_13.1 u_13.2 sn kp kr kb kl kw kh hc pg rd rw ro be he kro khe) H_13 := hB
    replace hD : va_D A (zM cI g pm rm rr st sg rn bg la ws pr ry hm u_13.1 u_13.2 sn kp kr kb kl kw kh hc pg rd rw ro be he kro khe) := vz_same hD rfl
    replace hS := hS9
    clear hS9 hPc hDc hFc hB hk1 hz1
    subst hw
    exact W.iret hx hb hr (fun t ht hW => ⟨⟨_, (u_13.1, u_13.2), rfl, (by first | rfl | (rfl; done) | (rfl; rfl) | (simp only [c_4, ↓reduceIte, Bool.false_eq_true, if_true, if_false, reduceCtorEq, not_true_eq_false, not_false_eq_true, eq_self]; done) | (simp only [c_4, ↓reduceIte, Bool.false_eq_true, if_true, if_false, reduceCtorEq, not_true_eq_false, not_false_eq_true, eq_self]; rfl) | (simp [c_4]; done)), (by show va_P D vwCl (zM cI g pm rm rr st sg rn bg la ws pr ry hm u_13.1 u_13.2 sn kp kr kb kl kw kh hc pg rd rw ro be he kro khe) t.heap; rw [ht]; exact hP)⟩, hS.F ht⟩) hS.2.2 dX7_likely_16
  · skip
    replace c_4 := vz_b1 c_4
    refine lv_bipush (v := (-103)) hx hb dX7_likely_7 (by decide) ?_
    refine lv_goto (tgt := 16) hx hb dX7_likely_9 (by decide) ?_
    exact W.iret hx hb hr (fun t ht hW => ⟨⟨_, (xu, xl), rfl, (by first | rfl | (rfl; done) | (rfl; rfl) | (simp only [c_4, ↓reduceIte, Bool.false_eq_true, if_true, if_false, reduceCtorEq, not_true_eq_false, not_false_eq_true, eq_self]; done) | (simp only [c_4, ↓reduceIte, Bool.false_eq_true, if_true, if_false, reduceCtorEq, not_true_eq_false, not_false_eq_true, eq_self]; rfl) | (simp [c_4]; done)), (by show va_P D vwCl (zM cI g pm rm rr st sg rn bg la ws pr ry hm xu xl sn kp kr kb kl kw kh hc pg rd rw ro be he kro khe) t.heap; rw [ht]; exact hP)⟩, hS.F ht⟩) hS.2.2 dX7_likely_16
set_option maxHeartbeats 4000000 in
set_option maxRecDepth 100000 in
theorem c_X7_draw (l : Launch) (D : va_G) (cI : ClassId) (g : Nat → Nat) (pm : Nat) (rm : Nat) (rr : Int32) (st : Nat) (sg : Nat) (rn : Int32) (bg : Int32) (la : Int32) (ws : Bool) (pr : Nat) (ry : Nat) (hm : Nat) (xu : Int64) (xl : Int64) (sn : Int32) (kp : Int32) (kr : Int32) (kb : Int32) (kl : Int32) (kw : Bool) (kh : Nat) (hc : Int64) (pg : Nat → Int32) (rd : Nat → Int32) (rw : Nat → Int32) (ro : Nat → Int32) (be : Nat → Int32) (he : Nat → Int32) (kro : Nat → Int32) (khe : Nat → Int32) (sz : Nat) (p0 : Int32) (hne : ¬ p0 = 0) : Met l yX7_draw wsX7_draw ({ frames := 0, cells := 0, slots := 0, locals := 0 } : Room) (vz_rw D cI (zM cI g pm rm rr st sg rn bg la ws pr ry hm xu xl sn kp kr kb kl kw kh hc pg rd rw ro be he kro khe) sz [.ref (g 0), .int p0]) (va_Qi (fun r (_ : Unit) => r = md_v (md_s sn) p0) (fun (u : Unit) (t : State) => va_P D vwCl (zM cI g pm rm rr st sg rn bg la ws pr ry hm xu xl (md_s sn) kp kr kb kl kw kh hc pg rd rw ro be he kro khe) t.heap) (va_A (zM cI g pm rm rr st sg rn bg la ws pr ry hm xu xl sn kp kr kb kl kw kh hc pg rd rw ro be he kro khe) sz)) 0 0 (va_A (zM cI g pm rm rr st sg rn bg la ws pr ry hm xu xl sn kp kr kb kl kw kh hc pg rd rw ro be he kro khe) sz) := by
  refine Met.ofW (cc := cX7_draw) (maxL := 2) (ret := (some .int)) (by decide) rfl ?_
  intro p e s m args below meth c s₁ B hml hv
  obtain ⟨rfl, hsz, hP, hZ, hD0⟩ := hv
  obtain ⟨hK, hN⟩ := id hZ
  have hx := B.exec
  have hb := B.bytes
  have hr := B.returns
  have hts := atoms_spec (ws := wsX7_draw) B.pre
  have hown : s.vm.findClass RX7 = some m.cls := findClass_of_methodNamed B.named
  have hlocks := B.notSynchronized
  subst hsz
  have hD := hD0.self (sz := s.heap.size)
  generalize hAe : va_A (zM cI g pm rm rr st sg rn bg la ws pr ry hm xu xl sn kp kr kb kl kw kh hc pg rd rw ro be he kro khe) s.heap.size = A at hD ⊢
  have hA : ∀ q : Nat, s.heap.size ≤ q → A q := fun q h => by rw [← hAe]; exact Or.inr h
  have hS : va_S A s.heap s.heap [] := va_S.rf
  have k202 := hts (.fieldLink RX7 202 "SongsAgainModel" "seedNow" "I") (List.mem_of_getElem? (i := 2) rfl)
  have iX7 : ∀ w ∈ u_ws RX7 TX7 30, w ∈ wsX7_draw := vz_in (i := 6) (n := 30) rfl
  have hl := lv_entry ([.ref (g 0), .int p0]) (n := 2) (Nat.le_of_ble_eq_true rfl)
  rw [lg_entry_eq]
  generalize (lg_sl ([.ref (g 0), .int p0]) ++ List.replicate (2 - (lg_sl ([.ref (g 0), .int p0])).length) Slot.unset).toArray = ls at hl ⊢
  have hl : lv_has ls 2 [(0, .ref (g 0)), (1, .int p0)] := hl
  have hP : va_P D vwCl (zM cI g pm rm rr st sg rn bg la ws pr ry hm xu xl sn kp kr kb kl kw kh hc pg rd rw ro be he kro khe) s.heap := hP
  refine lv_aload_n hx hb dX7_draw_0 rfl (lv_at hl 0 rfl) ?_
  refine lv_ldc2 (v := 1103515245) hx hb hown (hts (.constantLong RX7 200 (1103515245)) (List.mem_of_getElem? (i := 1) rfl)) dX7_draw_1 ?_
  refine lv_aload_n hx hb dX7_draw_4 rfl (lv_at hl 0 rfl) ?_
  refine va_get (D := D) (ci := 7) (v := .int sn) (C := RX7) (T := TX7) (N := 30) hx hb hts iX7 hown hK hP 0 rfl rfl 20 (by decide) k202 (fun _ h9 => h9) rfl dX7_draw_5 ?_
  refine lv_i2l (v := (sn : Int32).toInt64) hx hb dX7_draw_8 rfl ?_
  refine lv_lmul hx hb dX7_draw_9 ?_
  refine lv_ldc2 (v := 12345) hx hb hown (hts (.constantLong RX7 205 (12345)) (List.mem_of_getElem? (i := 3) rfl)) dX7_draw_10 ?_
  refine lv_ladd hx hb dX7_draw_13 ?_
  refine lv_ldc2 (v := 2147483647) hx hb hown (hts (.constantLong RX7 207 (2147483647)) (List.mem_of_getElem? (i := 4) rfl)) dX7_draw_14 ?_
  refine lv_land hx hb dX7_draw_17 ?_
  refine lv_l2i (v := (((1103515245 * ((sn : Int32).toInt64)) + 12345) &&& 2147483647 : Int64).toInt32) hx hb dX7_draw_18 rfl ?_
  refine va_put (D := D) (ci := 7) (v := .int ((((1103515245 * ((sn : Int32).toInt64)) + 12345) &&& 2147483647 : Int64).toInt32)) (ty := .int) (C := RX7) (T := TX7) (N := 30) hx hb hts iX7 tyX7 tyX7_ok nmX7 hown hK hP hD hS 0 rfl rfl 20 (by decide) k202 (fun _ h9 => h9) rfl (by decide +kernel) rfl rfl (Nat.le_of_ble_eq_true rfl) dX7_draw_19 (fun H_19 locs_19 hP9 hD9 hS9 => ?_)
  replace hP : va_P D vwCl (zM cI g pm rm rr st sg rn bg la ws pr ry hm xu xl ((((1103515245 * ((sn : Int32).toInt64)) + 12345) &&& 2147483647 : Int64).toInt32) kp kr kb kl kw kh hc pg rd rw ro be he kro khe) H_19 := hP9
  replace hD : va_D A (zM cI g pm rm rr st sg rn bg la ws pr ry hm xu xl ((((1103515245 * ((sn : Int32).toInt64)) + 12345) &&& 2147483647 : Int64).toInt32) kp kr kb kl kw kh hc pg rd rw ro be he kro khe) := hD9
  replace hS := hS9
  clear hP9 hD9 hS9
  refine lv_aload_n hx hb dX7_draw_22 rfl (lv_at hl 0 rfl) ?_
  refine va_get (D := D) (ci := 7) (v := .int ((((1103515245 * ((sn : Int32).toInt64)) + 12345) &&& 2147483647 : Int64).toInt32)) (C := RX7) (T := TX7) (N := 30) hx hb hts iX7 hown hK hP 0 rfl rfl 20 (by decide) k202 (fun _ h9 => h9) rfl dX7_draw_23 ?_
  refine lv_ldc (v := 65536) hx hb hown (hts (.constant RX7 209 (65536)) (List.mem_of_getElem? (i := 5) rfl)) dX7_draw_26 ?_
  refine lv_idiv hx hb dX7_draw_28 (by decide) ?_
  refine lv_iload_n hx hb dX7_draw_29 rfl (lv_at hl 1 rfl) ?_
  refine lv_irem hx hb dX7_draw_30 (hne) ?_
  have en_sn : md_s sn = (((1103515245 * ((sn : Int32).toInt64)) + 12345) &&& 2147483647 : Int64).toInt32 := by first | rfl | (simp only [md_v]; done) | (simp only [md_v]; rfl) | (simp only [md_v, ↓reduceIte, Bool.false_eq_true, if_true, if_false, reduceCtorEq, not_true_eq_false, not_false_eq_true, eq_self]; done) | (simp only [md_v, ↓reduceIte, Bool.false_eq_true, if_true, if_false, reduceCtorEq, not_true_eq_false, not_false_eq_true, eq_self]; rfl) | (simp [md_v]; done)
  exact W.iret hx hb hr (fun t ht hW => ⟨⟨_, (), rfl, (by first | rfl | (simp only [md_v]; done) | (simp only [md_v]; rfl) | (simp only [md_v, ↓reduceIte, Bool.false_eq_true, if_true, if_false, reduceCtorEq, not_true_eq_false, not_false_eq_true, eq_self]; done) | (simp only [md_v, ↓reduceIte, Bool.false_eq_true, if_true, if_false, reduceCtorEq, not_true_eq_false, not_false_eq_true, eq_self]; rfl) | (simp [md_v]; done)), (by show va_P D vwCl (zM cI g pm rm rr st sg rn bg la ws pr ry hm xu xl (md_s sn) kp kr kb kl kw kh hc pg rd rw ro be he kro khe) t.heap; rw [ht, en_sn]; exact hP)⟩, hS.F ht⟩) hS.2.2 dX7_draw_31
set_option maxHeartbeats 4000000 in
set_option maxRecDepth 100000 in
theorem c_X7_drawn (l : Launch) (D : va_G) (cI : ClassId) (g : Nat → Nat) (pm : Nat) (rm : Nat) (rr : Int32) (st : Nat) (sg : Nat) (rn : Int32) (bg : Int32) (la : Int32) (ws : Bool) (pr : Nat) (ry : Nat) (hm : Nat) (xu : Int64) (xl : Int64) (sn : Int32) (kp : Int32) (kr : Int32) (kb : Int32) (kl : Int32) (kw : Bool) (kh : Nat) (hc : Int64) (pg : Nat → Int32) (rd : Nat → Int32) (rw : Nat → Int32) (ro : Nat → Int32) (be : Nat → Int32) (he : Nat → Int32) (kro : Nat → Int32) (khe : Nat → Int32) (sz : Nat) (p0 : Int32) (S : Nat) (hsg : sg ≤ 6) (hne : ¬ mo_shs sg rw p0 = 0) (hSd : dm sg rw p0 sg 0 (md_v (md_s sn) (mo_shs sg rw p0)) = some S) : Met l yX7_drawn wsX7_drawn ({ frames := 4, cells := 0, slots := 0, locals := 89 } : Room) (vz_rw D cI (zM cI g pm rm rr st sg rn bg la ws pr ry hm xu xl sn kp kr kb kl kw kh hc pg rd rw ro be he kro khe) sz [.ref (g 0), .int p0]) (va_Qi (fun r (_ : Unit) => r = nI S) (fun (u : Unit) (t : State) => va_P D vwCl (zM cI g pm rm rr st sg rn bg la ws pr ry hm xu xl (md_s sn) kp kr kb kl kw kh hc pg rd rw ro be he kro khe) t.heap) (va_A (zM cI g pm rm rr st sg rn bg la ws pr ry hm xu xl sn kp kr kb kl kw kh hc pg rd rw ro be he kro khe) sz)) 0 0 (va_A (zM cI g pm rm rr st sg rn bg la ws pr ry hm xu xl sn kp kr kb kl kw kh hc pg rd rw ro be he kro khe) sz) := by
  refine Met.ofW (cc := cX7_drawn) (maxL := 4) (ret := (some .int)) (by decide) rfl ?_
  intro p e s m args below meth c s₁ B hml hv
  obtain ⟨rfl, hsz, hP, hZ, hD0⟩ := hv
  obtain ⟨hK, hN⟩ := id hZ
  have hx := B.exec
  have hb := B.bytes
  have hr := B.returns
  have hts := atoms_spec (ws := wsX7_drawn) B.pre
  have hown : s.vm.findClass RX7 = some m.cls := findClass_of_methodNamed B.named
  have hlocks := B.notSynchronized
  subst hsz
  have hD := hD0.self (sz := s.heap.size)
  generalize hAe : va_A (zM cI g pm rm rr st sg rn bg la ws pr ry hm xu xl sn kp kr kb kl kw kh hc pg rd rw ro be he kro khe) s.heap.size = A at hD ⊢
  have hA : ∀ q : Nat, s.heap.size ≤ q → A q := fun q h => by rw [← hAe]; exact Or.inr h
  have hS : va_S A s.heap s.heap [] := va_S.rf
  have hl := lv_entry ([.ref (g 0), .int p0]) (n := 4) (Nat.le_of_ble_eq_true rfl)
  rw [lg_entry_eq]
  generalize (lg_sl ([.ref (g 0), .int p0]) ++ List.replicate (4 - (lg_sl ([.ref (g 0), .int p0])).length) Slot.unset).toArray = ls at hl ⊢
  have hl : lv_has ls 4 [(0, .ref (g 0)), (1, .int p0)] := hl
  have hP : va_P D vwCl (zM cI g pm rm rr st sg rn bg la ws pr ry hm xu xl sn kp kr kb kl kw kh hc pg rd rw ro be he kro khe) s.heap := hP
  refine lv_aload_n hx hb dX7_drawn_0 rfl (lv_at hl 0 rfl) ?_
  refine lv_aload_n hx hb dX7_drawn_1 rfl (lv_at hl 0 rfl) ?_
  refine lv_iload_n hx hb dX7_drawn_2 rfl (lv_at hl 1 rfl) ?_
  refine vp_callSi (W.runV (As := [.int p0]) (rest := [.ref (g 0)]) ⟨hx, hb, hml, hown, hts⟩ (c_X7_sharesOf l D cI g pm rm rr st sg rn bg la ws pr ry hm xu xl sn kp kr kb kl kw kh hc pg rd rw ro be he kro khe p0 (by first | assumption | omega)) (cwV 1 hts gX7_drawn_X7_sharesOf rfl rfl rfl (by decide +kernel) ⟨Nat.le_of_ble_eq_true rfl, Nat.le_of_ble_eq_true rfl⟩) (vz_pvR (va_recv hK hP (ci := 7) (q0 := 0) rfl rfl) hZ hP) rfl rfl hl.1 rfl (lv_room (Nat.le_of_ble_eq_true rfl)) dX7_drawn_3 ⟨Nat.zero_le _, Nat.zero_le _⟩) (fun r_3 hr_3 => ?_)
  subst hr_3
  have hPc := hP
  have hDc := hD
  have hFc : ∀ q, va_A (zM cI g pm rm rr st sg rn bg la ws pr ry hm xu xl sn kp kr kb kl kw kh hc pg rd rw ro be he kro khe) s.heap.size q → A q := vz_freeAll hD hS hA
  refine va_calli (va_runV (As := [.int (mo_shs sg rw p0)]) (rest := []) ⟨hx, hb, hml, hown, hts⟩ (c_X7_draw l D cI g pm rm rr st sg rn bg la ws pr ry hm xu xl sn kp kr kb kl kw kh hc pg rd rw ro be he kro khe s.heap.size (mo_shs sg rw p0) (by first | assumption | omega)) (cwV 1 hts gX7_drawn_X7_draw rfl rfl rfl (by decide +kernel) ⟨Nat.le_of_ble_eq_true rfl, Nat.le_of_ble_eq_true rfl⟩) (vz_pvW (va_recv hK hP (ci := 7) (q0 := 0) rfl rfl) hZ hPc hDc) rfl rfl hl.1 rfl (lv_room (Nat.le_of_ble_eq_true rfl)) dX7_drawn_6 ⟨Nat.zero_le _, Nat.zero_le _⟩) hS (fun q _ h => hFc q h) hFc (fun r_6 u_6 t H_6 locs_6 ht hvm hw hB hz1 hk1 hS9 => ?_)
  rw [ht] at hB
  replace hP : va_P D vwCl (zM cI g pm rm rr st sg rn bg la ws pr ry hm xu xl (md_s sn) kp kr kb kl kw kh hc pg rd rw ro be he kro khe) H_6 := hB
  replace hD : va_D A (zM cI g pm rm rr st sg rn bg la ws pr ry hm xu xl (md_s sn) kp kr kb kl kw kh hc pg rd rw ro be he kro khe) := vz_same hD rfl
  replace hS := hS9
  clear hS9 hPc hDc hFc hB hk1 hz1
  subst hw
  refine lv_istore_n (lv' := [(2, .int (md_v (md_s sn) (mo_shs sg rw p0))), (0, .ref (g 0)), (1, .int p0)]) hx hb dX7_drawn_9 rfl hl (by decide) rfl (fun ls hl => ?_)
  refine lv_iconst (v := 0) hx hb dX7_drawn_10 (by decide) ?_
  refine lv_istore_n (lv' := [(3, .int 0), (2, .int (md_v (md_s sn) (mo_shs sg rw p0))), (0, .ref (g 0)), (1, .int p0)]) hx hb dX7_drawn_11 rfl hl (by decide) rfl (fun ls hl => ?_)
  have L_12 : ∀ (d_12 : Nat) (j : Nat) (v : Int32) (H_12 : Heap) (locs_12 : List Loc), sg - j < d_12 → (j ≤ sg) → (dm sg rw p0 (sg - j) j v = some S) → va_P D vwCl (zM cI g pm rm rr st sg rn bg la ws pr ry hm xu xl (md_s sn) kp kr kb kl kw kh hc pg rd rw ro be he kro khe) H_12 → va_D A (zM cI g pm rm rr st sg rn bg la ws pr ry hm xu xl (md_s sn) kp kr kb kl kw kh hc pg rd rw ro be he kro khe) → va_S A s.heap H_12 locs_12 → ∀ (ls : Array Slot), lv_has ls 4 [(3, .int (nI j)), (2, .int v), (0, .ref (g 0)), (1, .int p0)] → W p l e ({ frames := 4, cells := 0, slots := 0, locals := 89 } : Room) s m ([.ref (g 0), .int p0] : List Value).toArray below meth c H_12 locs_12 0 0 (MQ below (va_Qi (fun r (_ : Unit) => r = nI S) (fun (u : Unit) (t : State) => va_P D vwCl (zM cI g pm rm rr st sg rn bg la ws pr ry hm xu xl (md_s sn) kp kr kb kl kw kh hc pg rd rw ro be he kro khe) t.heap) A) ([.ref (g 0), .int p0] : List Value).toArray s 0 0 A) (F0 m 12 ls []) := by
    intro d_12
    induction d_12 with
    | zero => intro j v H_12 locs_12 hd; exact absurd hd (Nat.not_lt_zero _)
    | succ d_12 ih_12 =>
      intro j v H_12 locs_12 hd_12 hj hres hP hD hS ls hl
      have hlt : j < sg := dm_lt hres
      refine lv_iload_n hx hb dX7_drawn_12 rfl (lv_at hl 1 rfl) ?_
      refine lv_aload_n hx hb dX7_drawn_13 rfl (lv_at hl 2 rfl) ?_
      refine lv_iload_n hx hb dX7_drawn_14 rfl (lv_at hl 0 rfl) ?_
      refine lv_iload_n hx hb dX7_drawn_15 rfl (lv_at hl 3 rfl) ?_
      refine vp_callSi (W.runV (As := [.int (nI j), .int p0]) (rest := [.int v]) ⟨hx, hb, hml, hown, hts⟩ (c_X7_shareOf l D cI g pm rm rr st sg rn bg la ws pr ry hm xu xl (md_s sn) kp kr kb kl kw kh hc pg rd rw ro be he kro khe j p0 (by first | assumption | omega) (by first | assumption | omega)) (cwV 2 hts gX7_drawn_X7_shareOf rfl rfl rfl (by decide +kernel) ⟨Nat.le_of_ble_eq_true rfl, Nat.le_of_ble_eq_true rfl⟩) (vz_pvR (va_recv hK hP (ci := 7) (q0 := 0) rfl rfl) hZ hP) rfl rfl hl.1 rfl (lv_room (Nat.le_of_ble_eq_true rfl)) dX7_drawn_16 ⟨Nat.zero_le _, Nat.zero_le _⟩) (fun r_16 hr_16 => ?_)
      subst hr_16
      refine lv_icmp_lt (tgt := 37) hx hb dX7_drawn_19 (by decide) (fun c_19 => ?_) (fun c_19 => ?_)
      · skip
        refine lv_iload_n hx hb dX7_drawn_37 rfl (lv_at hl 0 rfl) ?_
        exact W.iret hx hb hr (fun t ht hW => ⟨⟨_, (), rfl, (by rw [dm_s hlt, if_pos c_19] at hres ; exact congrArg nI (Option.some.inj hres)), (by show va_P D vwCl (zM cI g pm rm rr st sg rn bg la ws pr ry hm xu xl (md_s sn) kp kr kb kl kw kh hc pg rd rw ro be he kro khe) t.heap; rw [ht]; exact hP)⟩, hS.F ht⟩) hS.2.2 dX7_drawn_38
      · skip
        refine lv_iload_n hx hb dX7_drawn_22 rfl (lv_at hl 1 rfl) ?_
        refine lv_aload_n hx hb dX7_drawn_23 rfl (lv_at hl 2 rfl) ?_
        refine lv_iload_n hx hb dX7_drawn_24 rfl (lv_at hl 0 rfl) ?_
        refine lv_iload_n hx hb dX7_drawn_25 rfl (lv_at hl 3 rfl) ?_
        refine vp_callSi (W.runV (As := [.int (nI j), .int p0]) (rest := [.int v]) ⟨hx, hb, hml, hown, hts⟩ (c_X7_shareOf l D cI g pm rm rr st sg rn bg la ws pr ry hm xu xl (md_s sn) kp kr kb kl kw kh hc pg rd rw ro be he kro khe j p0 (by first | assumption | omega) (by first | assumption | omega)) (cwV 2 hts gX7_drawn_X7_shareOf rfl rfl rfl (by decide +kernel) ⟨Nat.le_of_ble_eq_true rfl, Nat.le_of_ble_eq_true rfl⟩) (vz_pvR (va_recv hK hP (ci := 7) (q0 := 0) rfl rfl) hZ hP) rfl rfl hl.1 rfl (lv_room (Nat.le_of_ble_eq_true rfl)) dX7_drawn_26 ⟨Nat.zero_le _, Nat.zero_le _⟩) (fun r_26 hr_26 => ?_)
        subst hr_26
        refine lv_isub hx hb dX7_drawn_29 ?_
        refine lv_istore_n (lv' := [(2, .int (v - (mo_sh sg rw j p0))), (3, .int (nI j)), (0, .ref (g 0)), (1, .int p0)]) hx hb dX7_drawn_30 rfl hl (by decide) rfl (fun ls hl => ?_)
        refine lv_iinc (v := nI (j + 1)) (lv' := [(3, .int (nI (j + 1))), (2, .int (v - (mo_sh sg rw j p0))), (0, .ref (g 0)), (1, .int p0)]) hx hb dX7_drawn_31 hl (k := 1) rfl (vz_inc _) (by decide) rfl (fun ls hl => ?_)
        refine lv_goto (tgt := 12) hx hb dX7_drawn_34 (by decide) ?_
        exact ih_12 (j + 1) (v - (mo_sh sg rw j p0)) _ _ (by omega) (by omega) (by rw [dm_s hlt, if_neg c_19] at hres ; exact hres) hP hD hS ls (lv_sub hl [0, 1, 2, 3] rfl)
  exact L_12 _ 0 (md_v (md_s sn) (mo_shs sg rw p0)) _ _ (Nat.lt_succ_self _) (Nat.zero_le _) hSd hP hD hS ls (lv_sub hl [0, 1, 2, 3] rfl)
set_option maxHeartbeats 4000000 in
set_option maxRecDepth 100000 in
theorem c_X7_evenings (l : Launch) (D : va_G) (cI : ClassId) (g : Nat → Nat) (pm : Nat) (rm : Nat) (rr : Int32) (st : Nat) (sg : Nat) (rn : Int32) (bg : Int32) (la : Int32) (ws : Bool) (pr : Nat) (ry : Nat) (hm : Nat) (xu : Int64) (xl : Int64) (sn : Int32) (kp : Int32) (kr : Int32) (kb : Int32) (kl : Int32) (kw : Bool) (kh : Nat) (hc : Int64) (pg : Nat → Int32) (rd : Nat → Int32) (rw : Nat → Int32) (ro : Nat → Int32) (be : Nat → Int32) (he : Nat → Int32) (kro : Nat → Int32) (khe : Nat → Int32) (sz : Nat) (p0 : Int32) (p1 : Int32) (p2 : Int32) (G : Int32 → Int32 → Prop) (hsg : sg ≤ 6) (hGG : sa_np sg = false → G bg la ∧ ∀ b p : Int32, G b p → (p = -1 ∨ ∃ s : Nat, s < sg ∧ p = nI s) ∧ ¬ mo_shs sg rw (mo_may sg rw rn b p) = 0 ∧ ∀ x : Int32, ∃ S : Nat, S < sg ∧ dm sg rw (mo_may sg rw rn b p) sg 0 (md_v (md_s x) (mo_shs sg rw (mo_may sg rw rn b p))) = some S ∧ G (bk_bag sg b (nI S)) (nI S)) : Met l yX7_evenings wsX7_evenings ({ frames := 5, cells := 0, slots := 0, locals := 112 } : Room) (vz_rw D cI (zM cI g pm rm rr st sg rn bg la ws pr ry hm xu xl sn kp kr kb kl kw kh hc pg rd rw ro be he kro khe) sz [.ref (g 0), .int p0, .int p1, .int p2]) (va_Qi (fun r (_ : Int32) => r = me_r sg rw rn bg la p0 p1 p2) (fun (u : Int32) (t : State) => va_P D vwCl (zM cI g pm rm rr st sg rn bg la ws pr ry hm xu xl u kp kr kb kl kw kh hc pg rd rw ro be he kro khe) t.heap) (va_A (zM cI g pm rm rr st sg rn bg la ws pr ry hm xu xl sn kp kr kb kl kw kh hc pg rd rw ro be he kro khe) sz)) 0 0 (va_A (zM cI g pm rm rr st sg rn bg la ws pr ry hm xu xl sn kp kr kb kl kw kh hc pg rd rw ro be he kro khe) sz) := by
  refine Met.ofW (cc := cX7_evenings) (maxL := 9) (ret := (some .int)) (by decide) rfl ?_
  intro p e s m args below meth c s₁ B hml hv
  obtain ⟨rfl, hsz, hP, hZ, hD0⟩ := hv
  obtain ⟨hK, hN⟩ := id hZ
  have hx := B.exec
  have hb := B.bytes
  have hr := B.returns
  have hts := atoms_spec (ws := wsX7_evenings) B.pre
  have hown : s.vm.findClass RX7 = some m.cls := findClass_of_methodNamed B.named
  have hlocks := B.notSynchronized
  subst hsz
  have hD := hD0.self (sz := s.heap.size)
  generalize hAe : va_A (zM cI g pm rm rr st sg rn bg la ws pr ry hm xu xl sn kp kr kb kl kw kh hc pg rd rw ro be he kro khe) s.heap.size = A at hD ⊢
  have hA : ∀ q : Nat, s.heap.size ≤ q → A q := fun q h => by rw [← hAe]; exact Or.inr h
  have hS : va_S A s.heap s.heap [] := va_S.rf
  have k38 := hts (.fieldLink RX7 38 "SongsAgainModel" "last" "I") (List.mem_of_getElem? (i := 5) rfl)
  have k76 := hts (.fieldLink RX7 76 "SongsAgainModel" "ruleNow" "I") (List.mem_of_getElem? (i := 6) rfl)
  have k82 := hts (.fieldLink RX7 82 "SongsAgainModel" "bag" "I") (List.mem_of_getElem? (i := 4) rfl)
  have k202 := hts (.fieldLink RX7 202 "SongsAgainModel" "seedNow" "I") (List.mem_of_getElem? (i := 3) rfl)
  have iX7 : ∀ w ∈ u_ws RX7 TX7 30, w ∈ wsX7_evenings := vz_in (i := 68) (n := 30) rfl
  have hl := lv_entry ([.ref (g 0), .int p0, .int p1, .int p2]) (n := 9) (Nat.le_of_ble_eq_true rfl)
  rw [lg_entry_eq]
  generalize (lg_sl ([.ref (g 0), .int p0, .int p1, .int p2]) ++ List.replicate (9 - (lg_sl ([.ref (g 0), .int p0, .int p1, .int p2])).length) Slot.unset).toArray = ls at hl ⊢
  have hl : lv_has ls 9 [(0, .ref (g 0)), (1, .int p0), (2, .int p1), (3, .int p2)] := hl
  have hP : va_P D vwCl (zM cI g pm rm rr st sg rn bg la ws pr ry hm xu xl sn kp kr kb kl kw kh hc pg rd rw ro be he kro khe) s.heap := hP
  refine lv_iload_n hx hb dX7_evenings_0 rfl (lv_at hl 1 rfl) ?_
  refine lv_i2l (v := (p0 : Int32).toInt64) hx hb dX7_evenings_1 rfl ?_
  refine lv_lconst (v := 1) hx hb dX7_evenings_2 (by decide) ?_
  refine lv_ldc2 (v := 60) hx hb hown (hts (.constantLong RX7 213 (60)) (List.mem_of_getElem? (i := 1) rfl)) dX7_evenings_3 ?_
  refine vp_callSi (W.runS (As := [.long ((p0 : Int32).toInt64), .long 1, .long 60]) (rest := []) ⟨hx, hb, hml, hown, hts⟩ (c_X7_in l ((p0 : Int32).toInt64) 1 60) (va_cwS 3 hts gX7_evenings_X7_in rfl rfl rfl (by decide +kernel) ⟨Nat.le_of_ble_eq_true rfl, Nat.le_of_ble_eq_true rfl⟩) (vz_psS) rfl rfl hl.1 rfl (lv_room (Nat.le_of_ble_eq_true rfl)) dX7_evenings_6 ⟨Nat.zero_le _, Nat.zero_le _⟩) (fun r_6 hr_6 => ?_)
  subst hr_6
  refine lv_if_eq (tgt := 28) hx hb dX7_evenings_9 (by decide) (fun c_9 => ?_) (fun c_9 => ?_)
  · skip
    replace c_9 := vz_b0 c_9
    refine lv_bipush (v := (-102)) hx hb dX7_evenings_28 (by decide) ?_
    exact W.iret hx hb hr (fun t ht hW => ⟨⟨_, (sn), rfl, (by first | rfl | (simp only [me_r]; done) | (simp only [me_r]; rfl) | (simp only [me_r, c_9, ↓reduceIte, Bool.false_eq_true, if_true, if_false, reduceCtorEq, not_true_eq_false, not_false_eq_true, eq_self]; done) | (simp only [me_r, c_9, ↓reduceIte, Bool.false_eq_true, if_true, if_false, reduceCtorEq, not_true_eq_false, not_false_eq_true, eq_self]; rfl) | (simp [me_r, c_9]; done)), (by show va_P D vwCl (zM cI g pm rm rr st sg rn bg la ws pr ry hm xu xl sn kp kr kb kl kw kh hc pg rd rw ro be he kro khe) t.heap; rw [ht]; exact hP)⟩, hS.F ht⟩) hS.2.2 dX7_evenings_30
  · skip
    replace c_9 := vz_b1 c_9
    obtain ⟨hn60, hn1⟩ := me_n c_9
    refine lv_iload_n hx hb dX7_evenings_12 rfl (lv_at hl 2 rfl) ?_
    refine lv_if_lt (tgt := 28) hx hb dX7_evenings_13 (by decide) (fun c_13 => ?_) (fun c_13 => ?_)
    · skip
      refine lv_bipush (v := (-102)) hx hb dX7_evenings_28 (by decide) ?_
      exact W.iret hx hb hr (fun t ht hW => ⟨⟨_, (sn), rfl, (by first | rfl | (simp only [me_r, if_pos c_13]; done) | (simp only [me_r, if_pos c_13]; rfl) | (simp only [me_r, c_9, c_13, ↓reduceIte, Bool.false_eq_true, if_true, if_false, reduceCtorEq, not_true_eq_false, not_false_eq_true, eq_self]; done) | (simp only [me_r, c_9, c_13, ↓reduceIte, Bool.false_eq_true, if_true, if_false, reduceCtorEq, not_true_eq_false, not_false_eq_true, eq_self]; rfl) | (simp [me_r, c_9, c_13]; done) | (simp only [me_r, if_pos c_13, c_9, ↓reduceIte, Bool.false_eq_true])), (by show va_P D vwCl (zM cI g pm rm rr st sg rn bg la ws pr ry hm xu xl sn kp kr kb kl kw kh hc pg rd rw ro be he kro khe) t.heap; rw [ht]; exact hP)⟩, hS.F ht⟩) hS.2.2 dX7_evenings_30
    · skip
      refine lv_iload_n hx hb dX7_evenings_16 rfl (lv_at hl 3 rfl) ?_
      refine lv_i2l (v := (p2 : Int32).toInt64) hx hb dX7_evenings_17 rfl ?_
      refine lv_lconst (v := 0) hx hb dX7_evenings_18 (by decide) ?_
      refine lv_ldc2 (v := 2) hx hb hown (hts (.constantLong RX7 156 (2)) (List.mem_of_getElem? (i := 2) rfl)) dX7_evenings_19 ?_
      refine vp_callSi (W.runS (As := [.long ((p2 : Int32).toInt64), .long 0, .long 2]) (rest := []) ⟨hx, hb, hml, hown, hts⟩ (c_X7_in l ((p2 : Int32).toInt64) 0 2) (va_cwS 3 hts gX7_evenings_X7_in rfl rfl rfl (by decide +kernel) ⟨Nat.le_of_ble_eq_true rfl, Nat.le_of_ble_eq_true rfl⟩) (vz_psS) rfl rfl hl.1 rfl (lv_room (Nat.le_of_ble_eq_true rfl)) dX7_evenings_22 ⟨Nat.zero_le _, Nat.zero_le _⟩) (fun r_22 hr_22 => ?_)
      subst hr_22
      refine lv_if_ne (tgt := 31) hx hb dX7_evenings_25 (by decide) (fun c_25 => ?_) (fun c_25 => ?_)
      · skip
        replace c_25 := vz_b1 c_25
        refine lv_aload_n hx hb dX7_evenings_31 rfl (lv_at hl 0 rfl) ?_
        refine vp_callSi (W.runV (As := []) (rest := []) ⟨hx, hb, hml, hown, hts⟩ (c_X7_lacks l D cI g pm rm rr st sg rn bg la ws pr ry hm xu xl sn kp kr kb kl kw kh hc pg rd rw ro be he kro khe (by first | assumption | omega)) (cwV 0 hts gX7_evenings_X7_lacks rfl rfl rfl (by decide +kernel) ⟨Nat.le_of_ble_eq_true rfl, Nat.le_of_ble_eq_true rfl⟩) (vz_pvR (va_recv hK hP (ci := 7) (q0 := 0) rfl rfl) hZ hP) rfl rfl hl.1 rfl (lv_room (Nat.le_of_ble_eq_true rfl)) dX7_evenings_32 ⟨Nat.zero_le _, Nat.zero_le _⟩) (fun r_32 hr_32 => ?_)
        subst hr_32
        refine lv_if_eq (tgt := 41) hx hb dX7_evenings_35 (by decide) (fun c_35 => ?_) (fun c_35 => ?_)
        · skip
          replace c_35 := vz_b0 c_35
          obtain ⟨hG0, hG⟩ := hGG c_35
          refine lv_aload_n hx hb dX7_evenings_41 rfl (lv_at hl 0 rfl) ?_
          refine lv_iload_n hx hb dX7_evenings_42 rfl (lv_at hl 2 rfl) ?_
          refine va_put (D := D) (ci := 7) (v := .int p1) (ty := .int) (C := RX7) (T := TX7) (N := 30) hx hb hts iX7 tyX7 tyX7_ok nmX7 hown hK hP hD hS 0 rfl rfl 20 (by decide) k202 (fun _ h9 => h9) rfl (by decide +kernel) rfl rfl (Nat.le_of_ble_eq_true rfl) dX7_evenings_43 (fun H_43 locs_43 hP9 hD9 hS9 => ?_)
          replace hP : va_P D vwCl (zM cI g pm rm rr st sg rn bg la ws pr ry hm xu xl p1 kp kr kb kl kw kh hc pg rd rw ro be he kro khe) H_43 := hP9
          replace hD : va_D A (zM cI g pm rm rr st sg rn bg la ws pr ry hm xu xl p1 kp kr kb kl kw kh hc pg rd rw ro be he kro khe) := hD9
          replace hS := hS9
          clear hP9 hD9 hS9
          refine lv_aload_n hx hb dX7_evenings_46 rfl (lv_at hl 0 rfl) ?_
          refine va_get (D := D) (ci := 7) (v := .int bg) (C := RX7) (T := TX7) (N := 30) hx hb hts iX7 hown hK hP 0 rfl rfl 8 (by decide) k82 (fun _ h9 => h9) rfl dX7_evenings_47 ?_
          refine lv_istore (lv' := [(4, .int bg), (0, .ref (g 0)), (1, .int p0), (2, .int p1), (3, .int p2)]) hx hb dX7_evenings_50 hl (by decide) rfl (fun ls hl => ?_)
          refine lv_aload_n hx hb dX7_evenings_52 rfl (lv_at hl 1 rfl) ?_
          refine va_get (D := D) (ci := 7) (v := .int la) (C := RX7) (T := TX7) (N := 30) hx hb hts iX7 hown hK hP 0 rfl rfl 9 (by decide) k38 (fun _ h9 => h9) rfl dX7_evenings_53 ?_
          refine lv_istore (lv' := [(5, .int la), (4, .int bg), (0, .ref (g 0)), (1, .int p0), (2, .int p1), (3, .int p2)]) hx hb dX7_evenings_56 hl (by decide) rfl (fun ls hl => ?_)
          refine lv_iconst (v := 0) hx hb dX7_evenings_58 (by decide) ?_
          refine lv_istore (lv' := [(6, .int 0), (5, .int la), (4, .int bg), (0, .ref (g 0)), (1, .int p0), (2, .int p1), (3, .int p2)]) hx hb dX7_evenings_59 hl (by decide) rfl (fun ls hl => ?_)
          refine lv_iconst (v := 0) hx hb dX7_evenings_61 (by decide) ?_
          refine lv_istore (lv' := [(7, .int 0), (6, .int 0), (5, .int la), (4, .int bg), (0, .ref (g 0)), (1, .int p0), (2, .int p1), (3, .int p2)]) hx hb dX7_evenings_62 hl (by decide) rfl (fun ls hl => ?_)
          refine lv_iconst (v := 0) hx hb dX7_evenings_64 (by decide) ?_
          refine lv_istore (lv' := [(8, .int 0), (7, .int 0), (6, .int 0), (5, .int la), (4, .int bg), (0, .ref (g 0)), (1, .int p0), (2, .int p1), (3, .int p2)]) hx hb dX7_evenings_65 hl (by decide) rfl (fun ls hl => ?_)
          have L_67 : ∀ (d_67 : Nat) (j : Nat) (x4 : Int32) (x5 : Int32) (x6 : Int32) (x7 : Int32) (xs : Int32) (H_67 : Heap) (locs_67 : List Loc), p0.toNatClampNeg - j < d_67 → (j ≤ p0.toNatClampNeg) → (G x4 x5) → (mv sg rw rn bg la p1 j = (xs, x4, x5, x6, x7)) → va_P D vwCl (zM cI g pm rm rr st sg rn bg la ws pr ry hm xu xl xs kp kr kb kl kw kh hc pg rd rw ro be he kro khe) H_67 → va_D A (zM cI g pm rm rr st sg rn bg la ws pr ry hm xu xl xs kp kr kb kl kw kh hc pg rd rw ro be he kro khe) → va_S A s.heap H_67 locs_67 → ∀ (ls : Array Slot), lv_has ls 9 [(8, .int (nI j)), (7, .int x7), (6, .int x6), (5, .int x5), (4, .int x4), (0, .ref (g 0)), (1, .int p0), (2, .int p1), (3, .int p2)] → W p l e ({ frames := 5, cells := 0, slots := 0, locals := 112 } : Room) s m ([.ref (g 0), .int p0, .int p1, .int p2] : List Value).toArray below meth c H_67 locs_67 0 0 (MQ below (va_Qi (fun r (_ : Int32) => r = me_r sg rw rn bg la p0 p1 p2) (fun (u : Int32) (t : State) => va_P D vwCl (zM cI g pm rm rr st sg rn bg la ws pr ry hm xu xl u kp kr kb kl kw kh hc pg rd rw ro be he kro khe) t.heap) A) ([.ref (g 0), .int p0, .int p1, .int p2] : List Value).toArray s 0 0 A) (F0 m 67 ls []) := by
            intro d_67
            induction d_67 with
            | zero => intro j x4 x5 x6 x7 xs H_67 locs_67 hd; exact absurd hd (Nat.not_lt_zero _)
            | succ d_67 ih_67 =>
              intro j x4 x5 x6 x7 xs H_67 locs_67 hd_67 hj hg hmv hP hD hS ls hl
              refine lv_iload hx hb dX7_evenings_67 (lv_at hl 0 rfl) ?_
              refine lv_iload_n hx hb dX7_evenings_69 rfl (lv_at hl 6 rfl) ?_
              refine lv_icmp_ge (tgt := 127) hx hb dX7_evenings_70 (by decide) (fun c_70 => ?_) (fun c_70 => ?_)
              · skip
                have q70 := c_70
                rw [hn1] at q70
                have hje : j = p0.toNatClampNeg := Nat.le_antisymm hj (vz_ge q70 (by omega) (by omega))
                refine lv_iload_n hx hb dX7_evenings_127 rfl (lv_at hl 8 rfl) ?_
                refine lv_if_ne (tgt := 139) hx hb dX7_evenings_128 (by decide) (fun c_128 => ?_) (fun c_128 => ?_)
                · skip
                  refine lv_iload_n hx hb dX7_evenings_139 rfl (lv_at hl 8 rfl) ?_
                  refine lv_iconst (v := 1) hx hb dX7_evenings_140 (by decide) ?_
                  refine lv_icmp_ne (tgt := 149) hx hb dX7_evenings_141 (by decide) (fun c_141 => ?_) (fun c_141 => ?_)
                  · skip
                    refine lv_aload_n hx hb dX7_evenings_149 rfl (lv_at hl 5 rfl) ?_
                    refine va_get (D := D) (ci := 7) (v := .int xs) (C := RX7) (T := TX7) (N := 30) hx hb hts iX7 hown hK hP 0 rfl rfl 20 (by decide) k202 (fun _ h9 => h9) rfl dX7_evenings_150 ?_
                    exact W.iret hx hb hr (fun t ht hW => ⟨⟨_, (xs), rfl, (by first | (simp only [me_r, c_9, c_13, c_25, c_35, c_70, c_128, c_141, ↓reduceIte, Bool.false_eq_true] ; done) | (rw [hje] at hmv ; simp only [me_r, c_9, c_13, c_25, c_35, c_70, c_128, c_141, ↓reduceIte, Bool.false_eq_true, hmv] ; done) | (rw [hje] at hmv ; simp only [me_r, c_9, c_13, c_25, c_35, c_70, c_128, c_141, ↓reduceIte, Bool.false_eq_true, hmv] ; rfl)), (by show va_P D vwCl (zM cI g pm rm rr st sg rn bg la ws pr ry hm xu xl xs kp kr kb kl kw kh hc pg rd rw ro be he kro khe) t.heap; rw [ht]; exact hP)⟩, hS.F ht⟩) hS.2.2 dX7_evenings_153
                  · skip
                    refine lv_iload hx hb dX7_evenings_144 (lv_at hl 1 rfl) ?_
                    refine lv_goto (tgt := 153) hx hb dX7_evenings_146 (by decide) ?_
                    exact W.iret hx hb hr (fun t ht hW => ⟨⟨_, (xs), rfl, (by first | (simp only [me_r, c_9, c_13, c_25, c_35, c_70, c_128, c_141, ↓reduceIte, Bool.false_eq_true] ; done) | (rw [hje] at hmv ; simp only [me_r, c_9, c_13, c_25, c_35, c_70, c_128, c_141, ↓reduceIte, Bool.false_eq_true, hmv] ; done) | (rw [hje] at hmv ; simp only [me_r, c_9, c_13, c_25, c_35, c_70, c_128, c_141, ↓reduceIte, Bool.false_eq_true, hmv] ; rfl)), (by show va_P D vwCl (zM cI g pm rm rr st sg rn bg la ws pr ry hm xu xl xs kp kr kb kl kw kh hc pg rd rw ro be he kro khe) t.heap; rw [ht]; exact hP)⟩, hS.F ht⟩) hS.2.2 dX7_evenings_153
                · skip
                  refine lv_iload hx hb dX7_evenings_131 (lv_at hl 2 rfl) ?_
                  refine vp_callSi (W.runS (As := [.int x6]) (rest := []) ⟨hx, hb, hml, hown, hts⟩ (c_X7_ones l x6) (va_cwS 1 hts gX7_evenings_X7_ones rfl rfl rfl (by decide +kernel) ⟨Nat.le_of_ble_eq_true rfl, Nat.le_of_ble_eq_true rfl⟩) (vz_psS) rfl rfl hl.1 rfl (lv_room (Nat.le_of_ble_eq_true rfl)) dX7_evenings_133 ⟨Nat.zero_le _, Nat.zero_le _⟩) (fun r_133 hr_133 => ?_)
                  subst hr_133
                  refine lv_goto (tgt := 153) hx hb dX7_evenings_136 (by decide) ?_
                  exact W.iret hx hb hr (fun t ht hW => ⟨⟨_, (xs), rfl, (by first | (simp only [me_r, c_9, c_13, c_25, c_35, c_70, c_128, ↓reduceIte, Bool.false_eq_true] ; done) | (rw [hje] at hmv ; simp only [me_r, c_9, c_13, c_25, c_35, c_70, c_128, ↓reduceIte, Bool.false_eq_true, hmv] ; done) | (rw [hje] at hmv ; simp only [me_r, c_9, c_13, c_25, c_35, c_70, c_128, ↓reduceIte, Bool.false_eq_true, hmv] ; rfl)), (by show va_P D vwCl (zM cI g pm rm rr st sg rn bg la ws pr ry hm xu xl xs kp kr kb kl kw kh hc pg rd rw ro be he kro khe) t.heap; rw [ht]; exact hP)⟩, hS.F ht⟩) hS.2.2 dX7_evenings_153
              · skip
                have q70 := c_70
                rw [hn1] at q70
                have hlt : j < p0.toNatClampNeg := vz_lt q70 (by omega)
                obtain ⟨hbf, hne, hdr⟩ := hG _ _ hg
                obtain ⟨S, hSl, hSd, hSg⟩ := hdr xs
                refine lv_aload_n hx hb dX7_evenings_73 rfl (lv_at hl 5 rfl) ?_
                refine lv_aload_n hx hb dX7_evenings_74 rfl (lv_at hl 5 rfl) ?_
                refine lv_aload_n hx hb dX7_evenings_75 rfl (lv_at hl 5 rfl) ?_
                refine va_get (D := D) (ci := 7) (v := .int rn) (C := RX7) (T := TX7) (N := 30) hx hb hts iX7 hown hK hP 0 rfl rfl 7 (by decide) k76 (fun _ h9 => h9) rfl dX7_evenings_76 ?_
                refine lv_iload hx hb dX7_evenings_79 (lv_at hl 4 rfl) ?_
                refine lv_iload hx hb dX7_evenings_81 (lv_at hl 3 rfl) ?_
                refine vp_callSi (W.runV (As := [.int rn, .int x4, .int x5]) (rest := [.ref (g 0)]) ⟨hx, hb, hml, hown, hts⟩ (c_X7_mayBy l D cI g pm rm rr st sg rn bg la ws pr ry hm xu xl xs kp kr kb kl kw kh hc pg rd rw ro be he kro khe rn x4 x5 (by first | assumption | omega) hbf) (cwV 3 hts gX7_evenings_X7_mayBy rfl rfl rfl (by decide +kernel) ⟨Nat.le_of_ble_eq_true rfl, Nat.le_of_ble_eq_true rfl⟩) (vz_pvR (va_recv hK hP (ci := 7) (q0 := 0) rfl rfl) hZ hP) rfl rfl hl.1 rfl (lv_room (Nat.le_of_ble_eq_true rfl)) dX7_evenings_83 ⟨Nat.zero_le _, Nat.zero_le _⟩) (fun r_83 hr_83 => ?_)
                subst hr_83
                have hPc := hP
                have hDc := hD
                have hFc : ∀ q, va_A (zM cI g pm rm rr st sg rn bg la ws pr ry hm xu xl xs kp kr kb kl kw kh hc pg rd rw ro be he kro khe) H_67.size q → A q := vz_freeAll hD hS hA
                refine va_calli (va_runV (As := [.int (mo_may sg rw rn x4 x5)]) (rest := []) ⟨hx, hb, hml, hown, hts⟩ (c_X7_drawn l D cI g pm rm rr st sg rn bg la ws pr ry hm xu xl xs kp kr kb kl kw kh hc pg rd rw ro be he kro khe H_67.size (mo_may sg rw rn x4 x5) S (by first | assumption | omega) hne hSd) (cwV 1 hts gX7_evenings_X7_drawn rfl rfl rfl (by decide +kernel) ⟨Nat.le_of_ble_eq_true rfl, Nat.le_of_ble_eq_true rfl⟩) (vz_pvW (va_recv hK hP (ci := 7) (q0 := 0) rfl rfl) hZ hPc hDc) rfl rfl hl.1 rfl (lv_room (Nat.le_of_ble_eq_true rfl)) dX7_evenings_86 ⟨Nat.zero_le _, Nat.zero_le _⟩) hS (fun q _ h => hFc q h) hFc (fun r_86 u_86 t H_86 locs_86 ht hvm hw hB hz1 hk1 hS9 => ?_)
                rw [ht] at hB
                replace hP : va_P D vwCl (zM cI g pm rm rr st sg rn bg la ws pr ry hm xu xl (md_s xs) kp kr kb kl kw kh hc pg rd rw ro be he kro khe) H_86 := hB
                replace hD : va_D A (zM cI g pm rm rr st sg rn bg la ws pr ry hm xu xl (md_s xs) kp kr kb kl kw kh hc pg rd rw ro be he kro khe) := vz_same hD rfl
                replace hS := hS9
                clear hS9 hPc hDc hFc hB hk1 hz1
                subst hw
                refine lv_istore (lv' := [(5, .int (nI S)), (8, .int (nI j)), (7, .int x7), (6, .int x6), (4, .int x4), (0, .ref (g 0)), (1, .int p0), (2, .int p1), (3, .int p2)]) hx hb dX7_evenings_89 hl (by decide) rfl (fun ls hl => ?_)
                refine lv_aload_n hx hb dX7_evenings_91 rfl (lv_at hl 5 rfl) ?_
                refine lv_iload hx hb dX7_evenings_92 (lv_at hl 4 rfl) ?_
                refine lv_iload hx hb dX7_evenings_94 (lv_at hl 0 rfl) ?_
                refine vp_callSi (W.runV (As := [.int x4, .int (nI S)]) (rest := []) ⟨hx, hb, hml, hown, hts⟩ (c_X7_bagBehind l D cI g pm rm rr st sg rn bg la ws pr ry hm xu xl (md_s xs) kp kr kb kl kw kh hc pg rd rw ro be he kro khe x4 (nI S)) (cwV 2 hts gX7_evenings_X7_bagBehind rfl rfl rfl (by decide +kernel) ⟨Nat.le_of_ble_eq_true rfl, Nat.le_of_ble_eq_true rfl⟩) (vz_pvR (va_recv hK hP (ci := 7) (q0 := 0) rfl rfl) hZ hP) rfl rfl hl.1 rfl (lv_room (Nat.le_of_ble_eq_true rfl)) dX7_evenings_96 ⟨Nat.zero_le _, Nat.zero_le _⟩) (fun r_96 hr_96 => ?_)
                subst hr_96
                refine lv_istore (lv' := [(4, .int (bk_bag sg x4 (nI S))), (5, .int (nI S)), (8, .int (nI j)), (7, .int x7), (6, .int x6), (0, .ref (g 0)), (1, .int p0), (2, .int p1), (3, .int p2)]) hx hb dX7_evenings_99 hl (by decide) rfl (fun ls hl => ?_)
                refine lv_iload hx hb dX7_evenings_101 (lv_at hl 4 rfl) ?_
                refine lv_iconst (v := 1) hx hb dX7_evenings_103 (by decide) ?_
                refine lv_iload hx hb dX7_evenings_104 (lv_at hl 1 rfl) ?_
                refine lv_ishl hx hb dX7_evenings_106 ?_
                refine lv_ior hx hb dX7_evenings_107 ?_
                refine lv_istore (lv' := [(6, .int (x6 ||| (1 <<< ((nI S) &&& 31)))), (4, .int (bk_bag sg x4 (nI S))), (5, .int (nI S)), (8, .int (nI j)), (7, .int x7), (0, .ref (g 0)), (1, .int p0), (2, .int p1), (3, .int p2)]) hx hb dX7_evenings_108 hl (by decide) rfl (fun ls hl => ?_)
                refine lv_iload hx hb dX7_evenings_110 (lv_at hl 4 rfl) ?_
                refine lv_aload_n hx hb dX7_evenings_112 rfl (lv_at hl 5 rfl) ?_
                refine lv_iload hx hb dX7_evenings_113 (lv_at hl 2 rfl) ?_
                refine vp_callSi (W.runV (As := [.int (nI S)]) (rest := [.int x7]) ⟨hx, hb, hml, hown, hts⟩ (c_X7_minutesOf l D cI g pm rm rr st sg rn bg la ws pr ry hm xu xl (md_s xs) kp kr kb kl kw kh hc pg rd rw ro be he kro khe S (by first | assumption | omega) hSl) (cwV 1 hts gX7_evenings_X7_minutesOf rfl rfl rfl (by decide +kernel) ⟨Nat.le_of_ble_eq_true rfl, Nat.le_of_ble_eq_true rfl⟩) (vz_pvR (va_recv hK hP (ci := 7) (q0 := 0) rfl rfl) hZ hP) rfl rfl hl.1 rfl (lv_room (Nat.le_of_ble_eq_true rfl)) dX7_evenings_115 ⟨Nat.zero_le _, Nat.zero_le _⟩) (fun r_115 hr_115 => ?_)
                subst hr_115
                refine lv_iadd hx hb dX7_evenings_118 ?_
                refine lv_istore (lv' := [(7, .int (x7 + (mo_mins rw S))), (6, .int (x6 ||| (1 <<< ((nI S) &&& 31)))), (4, .int (bk_bag sg x4 (nI S))), (5, .int (nI S)), (8, .int (nI j)), (0, .ref (g 0)), (1, .int p0), (2, .int p1), (3, .int p2)]) hx hb dX7_evenings_119 hl (by decide) rfl (fun ls hl => ?_)
                refine lv_iinc (v := nI (j + 1)) (lv' := [(8, .int (nI (j + 1))), (7, .int (x7 + (mo_mins rw S))), (6, .int (x6 ||| (1 <<< ((nI S) &&& 31)))), (4, .int (bk_bag sg x4 (nI S))), (5, .int (nI S)), (0, .ref (g 0)), (1, .int p0), (2, .int p1), (3, .int p2)]) hx hb dX7_evenings_121 hl (k := 4) rfl (vz_inc _) (by decide) rfl (fun ls hl => ?_)
                refine lv_goto (tgt := 67) hx hb dX7_evenings_124 (by decide) ?_
                have ew_sn : (md_s xs) = md_s xs := by rfl
                replace hP : va_P D vwCl (zM cI g pm rm rr st sg rn bg la ws pr ry hm xu xl (md_s xs) kp kr kb kl kw kh hc pg rd rw ro be he kro khe) H_86 := by rw [ew_sn]; exact hP
                replace hD : va_D A (zM cI g pm rm rr st sg rn bg la ws pr ry hm xu xl (md_s xs) kp kr kb kl kw kh hc pg rd rw ro be he kro khe) := vz_same hD rfl
                exact ih_67 (j + 1) (bk_bag sg x4 (nI S)) (nI S) (x6 ||| (1 <<< ((nI S) &&& 31))) (x7 + (mo_mins rw S)) (md_s xs) _ _ (by omega) (by omega) hSg (by simp only [mv, hmv, hSd, Option.getD_some]) hP hD hS ls (lv_sub hl [0, 1, 2, 4, 3, 5, 6, 7, 8] rfl)
          exact L_67 _ 0 bg la 0 0 p1 _ _ (Nat.lt_succ_self _) (Nat.zero_le _) hG0 rfl hP hD hS ls (lv_sub hl [0, 1, 2, 3, 4, 5, 6, 7, 8] rfl)
        · skip
          replace c_35 := vz_b1 c_35
          refine lv_bipush (v := (-103)) hx hb dX7_evenings_38 (by decide) ?_
          exact W.iret hx hb hr (fun t ht hW => ⟨⟨_, (sn), rfl, (by first | rfl | (simp only [me_r, if_neg c_13]; done) | (simp only [me_r, if_neg c_13]; rfl) | (simp only [me_r, c_9, c_13, c_25, c_35, ↓reduceIte, Bool.false_eq_true, if_true, if_false, reduceCtorEq, not_true_eq_false, not_false_eq_true, eq_self]; done) | (simp only [me_r, c_9, c_13, c_25, c_35, ↓reduceIte, Bool.false_eq_true, if_true, if_false, reduceCtorEq, not_true_eq_false, not_false_eq_true, eq_self]; rfl) | (simp [me_r, c_9, c_13, c_25, c_35]; done) | (simp only [me_r, if_neg c_13, c_9, c_25, c_35, ↓reduceIte, Bool.false_eq_true])), (by show va_P D vwCl (zM cI g pm rm rr st sg rn bg la ws pr ry hm xu xl sn kp kr kb kl kw kh hc pg rd rw ro be he kro khe) t.heap; rw [ht]; exact hP)⟩, hS.F ht⟩) hS.2.2 dX7_evenings_40
      · skip
        replace c_25 := vz_b0 c_25
        refine lv_bipush (v := (-102)) hx hb dX7_evenings_28 (by decide) ?_
        exact W.iret hx hb hr (fun t ht hW => ⟨⟨_, (sn), rfl, (by first | rfl | (simp only [me_r, if_neg c_13]; done) | (simp only [me_r, if_neg c_13]; rfl) | (simp only [me_r, c_9, c_13, c_25, ↓reduceIte, Bool.false_eq_true, if_true, if_false, reduceCtorEq, not_true_eq_false, not_false_eq_true, eq_self]; done) | (simp only [me_r, c_9, c_13, c_25, ↓reduceIte, Bool.false_eq_true, if_true, if_false, reduceCtorEq, not_true_eq_false, not_false_eq_true, eq_self]; rfl) | (simp [me_r, c_9, c_13, c_25]; done) | (simp only [me_r, if_neg c_13, c_9, c_25, ↓reduceIte, Bool.false_eq_true])), (by show va_P D vwCl (zM cI g pm rm rr st sg rn bg la ws pr ry hm xu xl sn kp kr kb kl kw kh hc pg rd rw ro be he kro khe) t.heap; rw [ht]; exact hP)⟩, hS.F ht⟩) hS.2.2 dX7_evenings_30

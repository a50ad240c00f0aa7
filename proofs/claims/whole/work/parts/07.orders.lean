abbrev zOrd (cI : ClassId) (h : Nat → Nat) (wy : Nat → Int32) (fi : Nat → Int32) (fl : Int32) (nu : Int32) : va_W := [((h 0), .inr (2, [.ref (h 1), .ref (h 3), .int fl, .int nu])), ((h 1), .inr (5, [.ref (h 2)])), ((h 2), .inl (cI, 6, .inl wy)), ((h 3), .inr (5, [.ref (h 4)])), ((h 4), .inl (cI, 6, .inl fi))]
abbrev zOrdBook (cI : ClassId) (h : Nat → Nat) (g : Nat → Nat) (wy : Nat → Int32) (fi : Nat → Int32) (fl : Int32) (nu : Int32) (nm : Nat) (ks : Nat → Int32) (gs : Nat → Int32) (wt : Nat → Int32) (mi : Nat → Int32) : va_W := [((h 0), .inr (2, [.ref (h 1), .ref (h 3), .int fl, .int nu])), ((h 1), .inr (5, [.ref (h 2)])), ((h 2), .inl (cI, 6, .inl wy)), ((h 3), .inr (5, [.ref (h 4)])), ((h 4), .inl (cI, 6, .inl fi)), ((g 0), .inr (0, [.ref (g 1), .ref (g 3), .ref (g 5), .ref (g 7), .int (nI nm)])), ((g 1), .inr (5, [.ref (g 2)])), ((g 2), .inl (cI, 6, .inl ks)), ((g 3), .inr (5, [.ref (g 4)])), ((g 4), .inl (cI, 6, .inl gs)), ((g 5), .inr (5, [.ref (g 6)])), ((g 6), .inl (cI, 6, .inl wt)), ((g 7), .inr (5, [.ref (g 8)])), ((g 8), .inl (cI, 6, .inl mi))]
set_option maxHeartbeats 4000000 in
set_option maxRecDepth 100000 in
theorem c_X2_unlikeSingers (l : Launch) (D : va_G) (cI : ClassId) (h : Nat → Nat) (nm : Nat) (ks : Nat → Int32) (gs : Nat → Int32) (wt : Nat → Int32) (mi : Nat → Int32) (p0 : Int32) (p1 : Int32) : Met l yX2_unlikeSingers wsX2_unlikeSingers ({ frames := 1, cells := 0, slots := 0, locals := 21 } : Room) (vz_ro D cI (zBook cI h nm ks gs wt mi) [.ref (h 0), .int p0, .int p1]) (vp_Si (fun r => r = vz_b (od_un gs p0 p1))) 0 0 (fun _ => False) := by
  refine Met.ofW (cc := cX2_unlikeSingers) (maxL := 3) (ret := (some .boolean)) (by decide) rfl ?_
  intro p e s m args below meth c s₁ B hml hv
  obtain ⟨rfl, hP, hZ⟩ := hv
  obtain ⟨hK, hN⟩ := id hZ
  have hx := B.exec
  have hb := B.bytes
  have hr := B.returns
  have hts := atoms_spec (ws := wsX2_unlikeSingers) B.pre
  have hown : s.vm.findClass RX2 = some m.cls := findClass_of_methodNamed B.named
  have hlocks := B.notSynchronized
  have k56 : (Cond.fieldLinkNest "SongsAgain$Orders" 56 "SongsAgain$Book" "singers" "LSongsAgain$Row;" "SongsAgain").before _ s = true := va_Nw.use (A := ([.ref (h 0), .int p0, .int p1] : List Value).toArray) rfl (hN.1 ("SongsAgain$Orders", 56, "SongsAgain$Book", "singers", "LSongsAgain$Row;") (List.mem_of_getElem? (i := 3) rfl))
  have iX0 : ∀ w ∈ u_ws RX0 TX0 5, w ∈ wsX2_unlikeSingers := vz_in (i := 7) (n := 5) rfl
  have hl := lv_entry ([.ref (h 0), .int p0, .int p1]) (n := 3) (Nat.le_of_ble_eq_true rfl)
  rw [lg_entry_eq]
  generalize (lg_sl ([.ref (h 0), .int p0, .int p1]) ++ List.replicate (3 - (lg_sl ([.ref (h 0), .int p0, .int p1])).length) Slot.unset).toArray = ls at hl ⊢
  have hl : lv_has ls 3 [(0, .ref (h 0)), (1, .int p0), (2, .int p1)] := hl
  refine lv_aload_n hx hb dX2_unlikeSingers_0 rfl (lv_at hl 0 rfl) ?_
  refine va_getN (D := D) (ci := 0) (v := .ref (h 3)) (C := RX0) (T := TX0) (N := 5) hx hb hts iX0 hown hK hP 0 rfl rfl 1 (by decide) k56 (fun _ h9 => h9) rfl dX2_unlikeSingers_1 ?_
  refine lv_iload_n hx hb dX2_unlikeSingers_4 rfl (lv_at hl 1 rfl) ?_
  refine vp_callSi (W.runV (As := [.int p0]) (rest := []) ⟨hx, hb, hml, hown, hts⟩ (c_X5_at l D cI (h 3) (h 4) 6 gs p0 (by decide)) (cwV 1 hts gX2_unlikeSingers_X5_at rfl rfl rfl (by decide +kernel) ⟨Nat.le_of_ble_eq_true rfl, Nat.le_of_ble_eq_true rfl⟩) (vz_pvR (va_recv hK hP (ci := 5) (q0 := 3) rfl rfl) hZ (hP.sub (ws' := (zRow cI (h 3) (h 4) 6 gs)) [3, 4] rfl)) rfl rfl hl.1 rfl (lv_room (Nat.le_of_ble_eq_true rfl)) dX2_unlikeSingers_5 ⟨Nat.zero_le _, Nat.zero_le _⟩) (fun r_5 hr_5 => ?_)
  subst hr_5
  refine lv_aload_n hx hb dX2_unlikeSingers_8 rfl (lv_at hl 0 rfl) ?_
  refine va_getN (D := D) (ci := 0) (v := .ref (h 3)) (C := RX0) (T := TX0) (N := 5) hx hb hts iX0 hown hK hP 0 rfl rfl 1 (by decide) k56 (fun _ h9 => h9) rfl dX2_unlikeSingers_9 ?_
  refine lv_iload_n hx hb dX2_unlikeSingers_12 rfl (lv_at hl 2 rfl) ?_
  refine vp_callSi (W.runV (As := [.int p1]) (rest := [.int (rw_at 6 gs p0)]) ⟨hx, hb, hml, hown, hts⟩ (c_X5_at l D cI (h 3) (h 4) 6 gs p1 (by decide)) (cwV 1 hts gX2_unlikeSingers_X5_at rfl rfl rfl (by decide +kernel) ⟨Nat.le_of_ble_eq_true rfl, Nat.le_of_ble_eq_true rfl⟩) (vz_pvR (va_recv hK hP (ci := 5) (q0 := 3) rfl rfl) hZ (hP.sub (ws' := (zRow cI (h 3) (h 4) 6 gs)) [3, 4] rfl)) rfl rfl hl.1 rfl (lv_room (Nat.le_of_ble_eq_true rfl)) dX2_unlikeSingers_13 ⟨Nat.zero_le _, Nat.zero_le _⟩) (fun r_13 hr_13 => ?_)
  subst hr_13
  refine lv_icmp_eq (tgt := 23) hx hb dX2_unlikeSingers_16 (by decide) (fun c_16 => ?_) (fun c_16 => ?_)
  · skip
    refine lv_iconst (v := 0) hx hb dX2_unlikeSingers_23 (by decide) ?_
    exact W.zret hx hb hr narrow_b0 (fun t ht hW => ⟨_, rfl, (by first | rfl | (simp only [od_un, vz_b, if_pos c_16]; done) | (simp only [od_un, vz_b, if_pos c_16]; rfl) | (simp only [od_un, vz_b, c_16, ↓reduceIte, Bool.false_eq_true, if_true, if_false, reduceCtorEq, not_true_eq_false, not_false_eq_true, eq_self]; done) | (simp only [od_un, vz_b, c_16, ↓reduceIte, Bool.false_eq_true, if_true, if_false, reduceCtorEq, not_true_eq_false, not_false_eq_true, eq_self]; rfl) | (simp [od_un, vz_b, c_16]; done)), ht⟩) (fun q h => absurd h List.not_mem_nil) dX2_unlikeSingers_24
  · skip
    refine lv_iconst (v := 1) hx hb dX2_unlikeSingers_19 (by decide) ?_
    refine lv_goto (tgt := 24) hx hb dX2_unlikeSingers_20 (by decide) ?_
    exact W.zret hx hb hr narrow_b1 (fun t ht hW => ⟨_, rfl, (by first | rfl | (simp only [od_un, vz_b, if_neg c_16]; done) | (simp only [od_un, vz_b, if_neg c_16]; rfl) | (simp only [od_un, vz_b, c_16, ↓reduceIte, Bool.false_eq_true, if_true, if_false, reduceCtorEq, not_true_eq_false, not_false_eq_true, eq_self]; done) | (simp only [od_un, vz_b, c_16, ↓reduceIte, Bool.false_eq_true, if_true, if_false, reduceCtorEq, not_true_eq_false, not_false_eq_true, eq_self]; rfl) | (simp [od_un, vz_b, c_16]; done)), ht⟩) (fun q h => absurd h List.not_mem_nil) dX2_unlikeSingers_24
set_option maxHeartbeats 4000000 in
set_option maxRecDepth 100000 in
theorem c_X2_take (l : Launch) (D : va_G) (cI : ClassId) (h : Nat → Nat) (wy : Nat → Int32) (fi : Nat → Int32) (fl : Int32) (nu : Int32) (sz : Nat) (p0 : Int32) : Met l yX2_take wsX2_take ({ frames := 2, cells := 0, slots := 0, locals := 43 } : Room) (vz_rw D cI (zOrd cI h wy fi fl nu) sz [.ref (h 0), .int p0]) (va_Qv (fun (_ : Unit) => True) (fun (u : Unit) (t : State) => va_P D vwCl (zOrd cI h wy (od_tf wy fi nu) (od_tl fl nu p0) (nu + 1)) t.heap) (va_A (zOrd cI h wy fi fl nu) sz)) 0 0 (va_A (zOrd cI h wy fi fl nu) sz) := by
  refine Met.ofW (cc := cX2_take) (maxL := 2) (ret := none) (by decide) rfl ?_
  intro p e s m args below meth c s₁ B hml hv
  obtain ⟨rfl, hsz, hP, hZ, hD0⟩ := hv
  obtain ⟨hK, hN⟩ := id hZ
  have hx := B.exec
  have hb := B.bytes
  have hr := B.returns
  have hts := atoms_spec (ws := wsX2_take) B.pre
  have hown : s.vm.findClass RX2 = some m.cls := findClass_of_methodNamed B.named
  have hlocks := B.notSynchronized
  subst hsz
  have hD := hD0.self (sz := s.heap.size)
  generalize hAe : va_A (zOrd cI h wy fi fl nu) s.heap.size = A at hD ⊢
  have hA : ∀ q : Nat, s.heap.size ≤ q → A q := fun q h => by rw [← hAe]; exact Or.inr h
  have hS : va_S A s.heap s.heap [] := va_S.rf
  have k14 := hts (.fieldLink RX2 14 "SongsAgain$Orders" "way" "LSongsAgain$Row;") (List.mem_of_getElem? (i := 3) rfl)
  have k20 := hts (.fieldLink RX2 20 "SongsAgain$Orders" "first" "LSongsAgain$Row;") (List.mem_of_getElem? (i := 2) rfl)
  have k23 := hts (.fieldLink RX2 23 "SongsAgain$Orders" "firstLength" "I") (List.mem_of_getElem? (i := 4) rfl)
  have k27 := hts (.fieldLink RX2 27 "SongsAgain$Orders" "number" "I") (List.mem_of_getElem? (i := 1) rfl)
  have iX2 : ∀ w ∈ u_ws RX2 TX2 4, w ∈ wsX2_take := vz_in (i := 15) (n := 4) rfl
  have hl := lv_entry ([.ref (h 0), .int p0]) (n := 2) (Nat.le_of_ble_eq_true rfl)
  rw [lg_entry_eq]
  generalize (lg_sl ([.ref (h 0), .int p0]) ++ List.replicate (2 - (lg_sl ([.ref (h 0), .int p0])).length) Slot.unset).toArray = ls at hl ⊢
  have hl : lv_has ls 2 [(0, .ref (h 0)), (1, .int p0)] := hl
  have hP : va_P D vwCl (zOrd cI h wy fi fl nu) s.heap := hP
  refine lv_aload_n hx hb dX2_take_0 rfl (lv_at hl 0 rfl) ?_
  refine va_get (D := D) (ci := 2) (v := .int nu) (C := RX2) (T := TX2) (N := 4) hx hb hts iX2 hown hK hP 0 rfl rfl 3 (by decide) k27 (fun _ h9 => h9) rfl dX2_take_1 ?_
  refine lv_if_ne (tgt := 23) hx hb dX2_take_4 (by decide) (fun c_4 => ?_) (fun c_4 => ?_)
  · skip
    refine lv_aload_n hx hb dX2_take_23 rfl (lv_at hl 0 rfl) ?_
    refine lv_dup hx hb dX2_take_24 rfl ?_
    refine va_get (D := D) (ci := 2) (v := .int nu) (C := RX2) (T := TX2) (N := 4) hx hb hts iX2 hown hK hP 0 rfl rfl 3 (by decide) k27 (fun _ h9 => h9) rfl dX2_take_25 ?_
    refine lv_iconst (v := 1) hx hb dX2_take_28 (by decide) ?_
    refine lv_iadd hx hb dX2_take_29 ?_
    refine va_put (D := D) (ci := 2) (v := .int (nu + 1)) (ty := .int) (C := RX2) (T := TX2) (N := 4) hx hb hts iX2 tyX2 tyX2_ok nmX2 hown hK hP hD hS 0 rfl rfl 3 (by decide) k27 (fun _ h9 => h9) rfl (by decide +kernel) rfl rfl (Nat.le_of_ble_eq_true rfl) dX2_take_30 (fun H_30 locs_30 hP9 hD9 hS9 => ?_)
    replace hP : va_P D vwCl (zOrd cI h wy fi fl (nu + 1)) H_30 := hP9
    replace hD : va_D A (zOrd cI h wy fi fl (nu + 1)) := hD9
    replace hS := hS9
    clear hP9 hD9 hS9
    have en_fi : od_tf wy fi nu = fi := by first | rfl | (simp only [od_tf, od_tl, if_neg c_4]; done) | (simp only [od_tf, od_tl, if_neg c_4]; rfl) | (simp only [od_tf, od_tl, c_4, ↓reduceIte, Bool.false_eq_true, if_true, if_false, reduceCtorEq, not_true_eq_false, not_false_eq_true, eq_self]; done) | (simp only [od_tf, od_tl, c_4, ↓reduceIte, Bool.false_eq_true, if_true, if_false, reduceCtorEq, not_true_eq_false, not_false_eq_true, eq_self]; rfl) | (simp [od_tf, od_tl, c_4]; done)
    have en_fl : od_tl fl nu p0 = fl := by first | rfl | (simp only [od_tf, od_tl, if_neg c_4]; done) | (simp only [od_tf, od_tl, if_neg c_4]; rfl) | (simp only [od_tf, od_tl, c_4, ↓reduceIte, Bool.false_eq_true, if_true, if_false, reduceCtorEq, not_true_eq_false, not_false_eq_true, eq_self]; done) | (simp only [od_tf, od_tl, c_4, ↓reduceIte, Bool.false_eq_true, if_true, if_false, reduceCtorEq, not_true_eq_false, not_false_eq_true, eq_self]; rfl) | (simp [od_tf, od_tl, c_4]; done)
    exact W.vret hx hb hr (fun t ht hW => ⟨⟨(), rfl, trivial, (by show va_P D vwCl (zOrd cI h wy (od_tf wy fi nu) (od_tl fl nu p0) (nu + 1)) t.heap; rw [ht, en_fi, en_fl]; exact hP)⟩, hS.F ht⟩) hS.2.2 dX2_take_33
  · skip
    refine lv_aload_n hx hb dX2_take_7 rfl (lv_at hl 0 rfl) ?_
    refine va_get (D := D) (ci := 2) (v := .ref (h 3)) (C := RX2) (T := TX2) (N := 4) hx hb hts iX2 hown hK hP 0 rfl rfl 1 (by decide) k20 (fun _ h9 => h9) rfl dX2_take_8 ?_
    refine lv_aload_n hx hb dX2_take_11 rfl (lv_at hl 0 rfl) ?_
    refine va_get (D := D) (ci := 2) (v := .ref (h 1)) (C := RX2) (T := TX2) (N := 4) hx hb hts iX2 hown hK hP 0 rfl rfl 0 (by decide) k14 (fun _ h9 => h9) rfl dX2_take_12 ?_
    have hPc := (hP.sub (ws' := (zRowRow cI (h 3) (h 4) (h 1) (h 2) 6 fi wy)) [3, 4, 1, 2] rfl)
    have hDc := hD.sub (ws' := (zRowRow cI (h 3) (h 4) (h 1) (h 2) 6 fi wy)) [3, 4, 1, 2] rfl rfl
    have hFc := va_free (wc := (zRowRow cI (h 3) (h 4) (h 1) (h 2) 6 fi wy)) hD hS hA [3, 4, 1, 2] rfl
    refine va_callv (va_runV (As := [.ref (h 1)]) (rest := []) ⟨hx, hb, hml, hown, hts⟩ (c_X5_become l D cI (h 3) (h 4) (h 1) (h 2) 6 fi wy s.heap.size (by decide)) (cwV 1 hts gX2_take_X5_become rfl rfl rfl (by decide +kernel) ⟨Nat.le_of_ble_eq_true rfl, Nat.le_of_ble_eq_true rfl⟩) (vz_pvW (va_recv hK hP (ci := 5) (q0 := 3) rfl rfl) hZ hPc hDc) rfl rfl hl.1 rfl (lv_room (Nat.le_of_ble_eq_true rfl)) dX2_take_15 ⟨Nat.zero_le _, Nat.zero_le _⟩) hS (fun q _ h => hFc q h) hFc (fun u_15 t H_15 locs_15 ht hvm hw hB hz1 hk1 hS9 => ?_)
    rw [ht] at hB
    replace hP : va_P D vwCl (zOrd cI h wy (rw_cp wy fi 6) fl nu) H_15 := vz_join (w1 := (zRowRow cI (h 3) (h 4) (h 1) (h 2) 6 (rw_cp wy fi 6) wy)) hP hD [3, 4, 1, 2] rfl rfl hk1 hB
    replace hD : va_D A (zOrd cI h wy (rw_cp wy fi 6) fl nu) := vz_same hD rfl
    replace hS := hS9
    clear hS9 hPc hDc hFc hB hk1 hz1
    refine lv_aload_n hx hb dX2_take_18 rfl (lv_at hl 0 rfl) ?_
    refine lv_iload_n hx hb dX2_take_19 rfl (lv_at hl 1 rfl) ?_
    refine va_put (D := D) (ci := 2) (v := .int p0) (ty := .int) (C := RX2) (T := TX2) (N := 4) hx hb hts iX2 tyX2 tyX2_ok nmX2 hown hK hP hD hS 0 rfl rfl 2 (by decide) k23 (fun _ h9 => h9) rfl (by decide +kernel) rfl rfl (Nat.le_of_ble_eq_true rfl) dX2_take_20 (fun H_20 locs_20 hP9 hD9 hS9 => ?_)
    replace hP : va_P D vwCl (zOrd cI h wy (rw_cp wy fi 6) p0 nu) H_20 := hP9
    replace hD : va_D A (zOrd cI h wy (rw_cp wy fi 6) p0 nu) := hD9
    replace hS := hS9
    clear hP9 hD9 hS9
    refine lv_aload_n hx hb dX2_take_23 rfl (lv_at hl 0 rfl) ?_
    refine lv_dup hx hb dX2_take_24 rfl ?_
    refine va_get (D := D) (ci := 2) (v := .int nu) (C := RX2) (T := TX2) (N := 4) hx hb hts iX2 hown hK hP 0 rfl rfl 3 (by decide) k27 (fun _ h9 => h9) rfl dX2_take_25 ?_
    refine lv_iconst (v := 1) hx hb dX2_take_28 (by decide) ?_
    refine lv_iadd hx hb dX2_take_29 ?_
    refine va_put (D := D) (ci := 2) (v := .int (nu + 1)) (ty := .int) (C := RX2) (T := TX2) (N := 4) hx hb hts iX2 tyX2 tyX2_ok nmX2 hown hK hP hD hS 0 rfl rfl 3 (by decide) k27 (fun _ h9 => h9) rfl (by decide +kernel) rfl rfl (Nat.le_of_ble_eq_true rfl) dX2_take_30 (fun H_30 locs_30 hP9 hD9 hS9 => ?_)
    replace hP : va_P D vwCl (zOrd cI h wy (rw_cp wy fi 6) p0 (nu + 1)) H_30 := hP9
    replace hD : va_D A (zOrd cI h wy (rw_cp wy fi 6) p0 (nu + 1)) := hD9
    replace hS := hS9
    clear hP9 hD9 hS9
    have en_fi : od_tf wy fi nu = rw_cp wy fi 6 := by first | rfl | (simp only [od_tf, od_tl, if_pos c_4]; done) | (simp only [od_tf, od_tl, if_pos c_4]; rfl) | (simp only [od_tf, od_tl, c_4, ↓reduceIte, Bool.false_eq_true, if_true, if_false, reduceCtorEq, not_true_eq_false, not_false_eq_true, eq_self]; done) | (simp only [od_tf, od_tl, c_4, ↓reduceIte, Bool.false_eq_true, if_true, if_false, reduceCtorEq, not_true_eq_false, not_false_eq_true, eq_self]; rfl) | (simp [od_tf, od_tl, c_4]; done)
    have en_fl : od_tl fl nu p0 = p0 := by first | rfl | (simp only [od_tf, od_tl, if_pos c_4]; done) | (simp only [od_tf, od_tl, if_pos c_4]; rfl) | (simp only [od_tf, od_tl, c_4, ↓reduceIte, Bool.false_eq_true, if_true, if_false, reduceCtorEq, not_true_eq_false, not_false_eq_true, eq_self]; done) | (simp only [od_tf, od_tl, c_4, ↓reduceIte, Bool.false_eq_true, if_true, if_false, reduceCtorEq, not_true_eq_false, not_false_eq_true, eq_self]; rfl) | (simp [od_tf, od_tl, c_4]; done)
    exact W.vret hx hb hr (fun t ht hW => ⟨⟨(), rfl, trivial, (by show va_P D vwCl (zOrd cI h wy (od_tf wy fi nu) (od_tl fl nu p0) (nu + 1)) t.heap; rw [ht, en_fi, en_fl]; exact hP)⟩, hS.F ht⟩) hS.2.2 dX2_take_33
set_option maxHeartbeats 4000000 in
set_option maxRecDepth 100000 in
theorem c_X2_fact (l : Launch) (D : va_G) (cI : ClassId) (h : Nat → Nat) (wy : Nat → Int32) (fi : Nat → Int32) (fl : Int32) (nu : Int32) (p0 : Int32) : Met l yX2_fact wsX2_fact ({ frames := 1, cells := 0, slots := 0, locals := 21 } : Room) (vz_ro D cI (zOrd cI h wy fi fl nu) [.ref (h 0), .int p0]) (vp_Si (fun r => r = od_fact fi fl nu p0)) 0 0 (fun _ => False) := by
  refine Met.ofW (cc := cX2_fact) (maxL := 3) (ret := (some .int)) (by decide) rfl ?_
  intro p e s m args below meth c s₁ B hml hv
  obtain ⟨rfl, hP, hZ⟩ := hv
  obtain ⟨hK, hN⟩ := id hZ
  have hx := B.exec
  have hb := B.bytes
  have hr := B.returns
  have hts := atoms_spec (ws := wsX2_fact) B.pre
  have hown : s.vm.findClass RX2 = some m.cls := findClass_of_methodNamed B.named
  have hlocks := B.notSynchronized
  have k20 := hts (.fieldLink RX2 20 "SongsAgain$Orders" "first" "LSongsAgain$Row;") (List.mem_of_getElem? (i := 3) rfl)
  have k23 := hts (.fieldLink RX2 23 "SongsAgain$Orders" "firstLength" "I") (List.mem_of_getElem? (i := 2) rfl)
  have k27 := hts (.fieldLink RX2 27 "SongsAgain$Orders" "number" "I") (List.mem_of_getElem? (i := 1) rfl)
  have iX2 : ∀ w ∈ u_ws RX2 TX2 4, w ∈ wsX2_fact := vz_in (i := 10) (n := 4) rfl
  have hl := lv_entry ([.ref (h 0), .int p0]) (n := 3) (Nat.le_of_ble_eq_true rfl)
  rw [lg_entry_eq]
  generalize (lg_sl ([.ref (h 0), .int p0]) ++ List.replicate (3 - (lg_sl ([.ref (h 0), .int p0])).length) Slot.unset).toArray = ls at hl ⊢
  have hl : lv_has ls 3 [(0, .ref (h 0)), (1, .int p0)] := hl
  refine lv_iload_n hx hb dX2_fact_0 rfl (lv_at hl 1 rfl) ?_
  refine lv_if_ne (tgt := 9) hx hb dX2_fact_1 (by decide) (fun c_1 => ?_) (fun c_1 => ?_)
  · skip
    refine lv_iload_n hx hb dX2_fact_9 rfl (lv_at hl 1 rfl) ?_
    refine lv_bipush (v := 10) hx hb dX2_fact_10 (by decide) ?_
    refine lv_isub hx hb dX2_fact_12 ?_
    refine lv_istore_n (lv' := [(2, .int (p0 - 10)), (0, .ref (h 0)), (1, .int p0)]) hx hb dX2_fact_13 rfl hl (by decide) rfl (fun ls hl => ?_)
    refine lv_iload_n hx hb dX2_fact_14 rfl (lv_at hl 0 rfl) ?_
    refine lv_if_lt (tgt := 37) hx hb dX2_fact_15 (by decide) (fun c_15 => ?_) (fun c_15 => ?_)
    · skip
      refine lv_iconst (v := (-1)) hx hb dX2_fact_37 (by decide) ?_
      exact W.iret hx hb hr (fun t ht hW => ⟨_, rfl, (by first | rfl | (simp only [od_fact, if_neg c_1, if_pos c_15]; done) | (simp only [od_fact, if_neg c_1, if_pos c_15]; rfl) | (simp only [od_fact, c_1, c_15, ↓reduceIte, Bool.false_eq_true, if_true, if_false, reduceCtorEq, not_true_eq_false, not_false_eq_true, eq_self]; done) | (simp only [od_fact, c_1, c_15, ↓reduceIte, Bool.false_eq_true, if_true, if_false, reduceCtorEq, not_true_eq_false, not_false_eq_true, eq_self]; rfl) | (simp [od_fact, c_1, c_15]; done)), ht⟩) (fun q h => absurd h List.not_mem_nil) dX2_fact_38
    · skip
      refine lv_iload_n hx hb dX2_fact_18 rfl (lv_at hl 0 rfl) ?_
      refine lv_aload_n hx hb dX2_fact_19 rfl (lv_at hl 1 rfl) ?_
      refine va_get (D := D) (ci := 2) (v := .int fl) (C := RX2) (T := TX2) (N := 4) hx hb hts iX2 hown hK hP 0 rfl rfl 2 (by decide) k23 (fun _ h9 => h9) rfl dX2_fact_20 ?_
      refine lv_icmp_ge (tgt := 37) hx hb dX2_fact_23 (by decide) (fun c_23 => ?_) (fun c_23 => ?_)
      · skip
        refine lv_iconst (v := (-1)) hx hb dX2_fact_37 (by decide) ?_
        exact W.iret hx hb hr (fun t ht hW => ⟨_, rfl, (by first | rfl | (simp only [od_fact, if_neg c_1, if_neg c_15, if_pos c_23]; done) | (simp only [od_fact, if_neg c_1, if_neg c_15, if_pos c_23]; rfl) | (simp only [od_fact, c_1, c_15, c_23, ↓reduceIte, Bool.false_eq_true, if_true, if_false, reduceCtorEq, not_true_eq_false, not_false_eq_true, eq_self]; done) | (simp only [od_fact, c_1, c_15, c_23, ↓reduceIte, Bool.false_eq_true, if_true, if_false, reduceCtorEq, not_true_eq_false, not_false_eq_true, eq_self]; rfl) | (simp [od_fact, c_1, c_15, c_23]; done)), ht⟩) (fun q h => absurd h List.not_mem_nil) dX2_fact_38
      · skip
        refine lv_aload_n hx hb dX2_fact_26 rfl (lv_at hl 1 rfl) ?_
        refine va_get (D := D) (ci := 2) (v := .ref (h 3)) (C := RX2) (T := TX2) (N := 4) hx hb hts iX2 hown hK hP 0 rfl rfl 1 (by decide) k20 (fun _ h9 => h9) rfl dX2_fact_27 ?_
        refine lv_iload_n hx hb dX2_fact_30 rfl (lv_at hl 0 rfl) ?_
        refine vp_callSi (W.runV (As := [.int (p0 - 10)]) (rest := []) ⟨hx, hb, hml, hown, hts⟩ (c_X5_at l D cI (h 3) (h 4) 6 fi (p0 - 10) (by decide)) (cwV 1 hts gX2_fact_X5_at rfl rfl rfl (by decide +kernel) ⟨Nat.le_of_ble_eq_true rfl, Nat.le_of_ble_eq_true rfl⟩) (vz_pvR (va_recv hK hP (ci := 5) (q0 := 3) rfl rfl) hZ (hP.sub (ws' := (zRow cI (h 3) (h 4) 6 fi)) [3, 4] rfl)) rfl rfl hl.1 rfl (lv_room (Nat.le_of_ble_eq_true rfl)) dX2_fact_31 ⟨Nat.zero_le _, Nat.zero_le _⟩) (fun r_31 hr_31 => ?_)
        subst hr_31
        refine lv_goto (tgt := 38) hx hb dX2_fact_34 (by decide) ?_
        exact W.iret hx hb hr (fun t ht hW => ⟨_, rfl, (by first | rfl | (simp only [od_fact, if_neg c_1, if_neg c_15, if_neg c_23]; done) | (simp only [od_fact, if_neg c_1, if_neg c_15, if_neg c_23]; rfl) | (simp only [od_fact, c_1, c_15, c_23, ↓reduceIte, Bool.false_eq_true, if_true, if_false, reduceCtorEq, not_true_eq_false, not_false_eq_true, eq_self]; done) | (simp only [od_fact, c_1, c_15, c_23, ↓reduceIte, Bool.false_eq_true, if_true, if_false, reduceCtorEq, not_true_eq_false, not_false_eq_true, eq_self]; rfl) | (simp [od_fact, c_1, c_15, c_23]; done)), ht⟩) (fun q h => absurd h List.not_mem_nil) dX2_fact_38
  · skip
    refine lv_aload_n hx hb dX2_fact_4 rfl (lv_at hl 0 rfl) ?_
    refine va_get (D := D) (ci := 2) (v := .int nu) (C := RX2) (T := TX2) (N := 4) hx hb hts iX2 hown hK hP 0 rfl rfl 3 (by decide) k27 (fun _ h9 => h9) rfl dX2_fact_5 ?_
    exact W.iret hx hb hr (fun t ht hW => ⟨_, rfl, (by first | rfl | (simp only [od_fact, if_pos c_1]; done) | (simp only [od_fact, if_pos c_1]; rfl) | (simp only [od_fact, c_1, ↓reduceIte, Bool.false_eq_true, if_true, if_false, reduceCtorEq, not_true_eq_false, not_false_eq_true, eq_self]; done) | (simp only [od_fact, c_1, ↓reduceIte, Bool.false_eq_true, if_true, if_false, reduceCtorEq, not_true_eq_false, not_false_eq_true, eq_self]; rfl) | (simp [od_fact, c_1]; done)), ht⟩) (fun q h => absurd h List.not_mem_nil) dX2_fact_8

abbrev zPage (cI : ClassId) (a : Nat) (b : Nat) (q3 : Nat) (len : Nat) (f : Nat → Int32) : va_W := [(a, .inr (3, [.ref b, .int (nI len)])), (b, .inr (5, [.ref q3])), (q3, .inl (cI, 22, .inl f))]
abbrev zPast (cI : ClassId) (h : Nat → Nat) (pl : Nat → Int32) (sk : Nat → Int32) (he : Nat → Int32) (nh : Nat) (ru : Int32) (bg : Int32) (la : Int32) (sd : Bool) : va_W := [((h 0), .inr (4, [.ref (h 1), .ref (h 3), .ref (h 5), .int (nI nh), .int ru, .int bg, .int la, .int (vz_b sd)])), ((h 1), .inr (5, [.ref (h 2)])), ((h 2), .inl (cI, 6, .inl pl)), ((h 3), .inr (5, [.ref (h 4)])), ((h 4), .inl (cI, 6, .inl sk)), ((h 5), .inr (5, [.ref (h 6)])), ((h 6), .inl (cI, 8, .inl he))]
abbrev zPastPast (cI : ClassId) (h : Nat → Nat) (g : Nat → Nat) (pl : Nat → Int32) (sk : Nat → Int32) (he : Nat → Int32) (nh : Nat) (ru : Int32) (bg : Int32) (la : Int32) (sd : Bool) (pl2 : Nat → Int32) (sk2 : Nat → Int32) (he2 : Nat → Int32) (nh2 : Nat) (ru2 : Int32) (bg2 : Int32) (la2 : Int32) (sd2 : Bool) : va_W := [((h 0), .inr (4, [.ref (h 1), .ref (h 3), .ref (h 5), .int (nI nh), .int ru, .int bg, .int la, .int (vz_b sd)])), ((h 1), .inr (5, [.ref (h 2)])), ((h 2), .inl (cI, 6, .inl pl)), ((h 3), .inr (5, [.ref (h 4)])), ((h 4), .inl (cI, 6, .inl sk)), ((h 5), .inr (5, [.ref (h 6)])), ((h 6), .inl (cI, 8, .inl he)), ((g 0), .inr (4, [.ref (g 1), .ref (g 3), .ref (g 5), .int (nI nh2), .int ru2, .int bg2, .int la2, .int (vz_b sd2)])), ((g 1), .inr (5, [.ref (g 2)])), ((g 2), .inl (cI, 6, .inl pl2)), ((g 3), .inr (5, [.ref (g 4)])), ((g 4), .inl (cI, 6, .inl sk2)), ((g 5), .inr (5, [.ref (g 6)])), ((g 6), .inl (cI, 8, .inl he2))]
set_option maxHeartbeats 4000000 in
set_option maxRecDepth 100000 in
theorem c_X3_append (l : Launch) (D : va_G) (cI : ClassId) (a : Nat) (b : Nat) (q3 : Nat) (len : Nat) (f : Nat → Int32) (sz : Nat) (p0 : Int32) : Met l yX3_append wsX3_append ({ frames := 1, cells := 0, slots := 0, locals := 22 } : Room) (vz_rw D cI (zPage cI a b q3 len f) sz [.ref a, .int p0]) (va_Qv (fun (_ : Unit) => True) (fun (u : Unit) (t : State) => va_P D vwCl (zPage cI a b q3 (len + 1) (rw_put 22 f (nI len) p0)) t.heap) (va_A (zPage cI a b q3 len f) sz)) 0 0 (va_A (zPage cI a b q3 len f) sz) := by
  refine Met.ofW (cc := cX3_append) (maxL := 2) (ret := none) (by decide) rfl ?_
  intro p e s m args below meth c s₁ B hml hv
  obtain ⟨rfl, hsz, hP, hZ, hD0⟩ := hv
  obtain ⟨hK, hN⟩ := id hZ
  have hx := B.exec
  have hb := B.bytes
  have hr := B.returns
  have hts := atoms_spec (ws := wsX3_append) B.pre
  have hown : s.vm.findClass RX3 = some m.cls := findClass_of_methodNamed B.named
  have hlocks := B.notSynchronized
  subst hsz
  have hD := hD0.self (sz := s.heap.size)
  generalize hAe : va_A (zPage cI a b q3 len f) s.heap.size = A at hD ⊢
  have hA : ∀ q : Nat, s.heap.size ≤ q → A q := fun q h => by rw [← hAe]; exact Or.inr h
  have hS : va_S A s.heap s.heap [] := va_S.rf
  have k14 := hts (.fieldLink RX3 14 "SongsAgain$Page" "codes" "LSongsAgain$Row;") (List.mem_of_getElem? (i := 1) rfl)
  have k20 := hts (.fieldLink RX3 20 "SongsAgain$Page" "length" "I") (List.mem_of_getElem? (i := 2) rfl)
  have iX3 : ∀ w ∈ u_ws RX3 TX3 2, w ∈ wsX3_append := vz_in (i := 9) (n := 2) rfl
  have hl := lv_entry ([.ref a, .int p0]) (n := 2) (Nat.le_of_ble_eq_true rfl)
  rw [lg_entry_eq]
  generalize (lg_sl ([.ref a, .int p0]) ++ List.replicate (2 - (lg_sl ([.ref a, .int p0])).length) Slot.unset).toArray = ls at hl ⊢
  have hl : lv_has ls 2 [(0, .ref a), (1, .int p0)] := hl
  have hP : va_P D vwCl (zPage cI a b q3 len f) s.heap := hP
  refine lv_aload_n hx hb dX3_append_0 rfl (lv_at hl 0 rfl) ?_
  refine va_get (D := D) (ci := 3) (v := .ref b) (C := RX3) (T := TX3) (N := 2) hx hb hts iX3 hown hK hP 0 rfl rfl 0 (by decide) k14 (fun _ h9 => h9) rfl dX3_append_1 ?_
  refine lv_aload_n hx hb dX3_append_4 rfl (lv_at hl 0 rfl) ?_
  refine va_get (D := D) (ci := 3) (v := .int (nI len)) (C := RX3) (T := TX3) (N := 2) hx hb hts iX3 hown hK hP 0 rfl rfl 1 (by decide) k20 (fun _ h9 => h9) rfl dX3_append_5 ?_
  refine lv_iload_n hx hb dX3_append_8 rfl (lv_at hl 1 rfl) ?_
  have hPc := (hP.sub (ws' := (zRow cI b q3 22 f)) [1, 2] rfl)
  have hDc := hD.sub (ws' := (zRow cI b q3 22 f)) [1, 2] rfl rfl
  have hFc := va_free (wc := (zRow cI b q3 22 f)) hD hS hA [1, 2] rfl
  refine va_callv (va_runV (As := [.int (nI len), .int p0]) (rest := []) ⟨hx, hb, hml, hown, hts⟩ (c_X5_put l D cI b q3 22 f s.heap.size (nI len) p0 (by decide)) (cwV 2 hts gX3_append_X5_put rfl rfl rfl (by decide +kernel) ⟨Nat.le_of_ble_eq_true rfl, Nat.le_of_ble_eq_true rfl⟩) (vz_pvW (va_recv hK hP (ci := 5) (q0 := 1) rfl rfl) hZ hPc hDc) rfl rfl hl.1 rfl (lv_room (Nat.le_of_ble_eq_true rfl)) dX3_append_9 ⟨Nat.zero_le _, Nat.zero_le _⟩) hS (fun q _ h => hFc q h) hFc (fun u_9 t H_9 locs_9 ht hvm hw hB hz1 hk1 hS9 => ?_)
  rw [ht] at hB
  replace hP : va_P D vwCl (zPage cI a b q3 len (rw_put 22 f (nI len) p0)) H_9 := vz_join (w1 := (zRow cI b q3 22 (rw_put 22 f (nI len) p0))) hP hD [1, 2] rfl rfl hk1 hB
  replace hD : va_D A (zPage cI a b q3 len (rw_put 22 f (nI len) p0)) := vz_same hD rfl
  replace hS := hS9
  clear hS9 hPc hDc hFc hB hk1 hz1
  refine lv_aload_n hx hb dX3_append_12 rfl (lv_at hl 0 rfl) ?_
  refine lv_dup hx hb dX3_append_13 rfl ?_
  refine va_get (D := D) (ci := 3) (v := .int (nI len)) (C := RX3) (T := TX3) (N := 2) hx hb hts iX3 hown hK hP 0 rfl rfl 1 (by decide) k20 (fun _ h9 => h9) rfl dX3_append_14 ?_
  refine lv_iconst (v := 1) hx hb dX3_append_17 (by decide) ?_
  refine lv_iadd hx hb dX3_append_18 ?_
  refine W.eq (congrArg (fun z => F0 m 19 ls (.int z :: [.ref a])) (nI_add len 1 : (nI len) + 1 = nI (len + 1))) ?_
  refine va_put (D := D) (ci := 3) (v := .int (nI (len + 1))) (ty := .int) (C := RX3) (T := TX3) (N := 2) hx hb hts iX3 tyX3 tyX3_ok nmX3 hown hK hP hD hS 0 rfl rfl 1 (by decide) k20 (fun _ h9 => h9) rfl (by decide +kernel) rfl rfl (Nat.le_of_ble_eq_true rfl) dX3_append_19 (fun H_19 locs_19 hP9 hD9 hS9 => ?_)
  replace hP : va_P D vwCl (zPage cI a b q3 (len + 1) (rw_put 22 f (nI len) p0)) H_19 := hP9
  replace hD : va_D A (zPage cI a b q3 (len + 1) (rw_put 22 f (nI len) p0)) := hD9
  replace hS := hS9
  clear hP9 hD9 hS9
  exact W.vret hx hb hr (fun t ht hW => ⟨⟨(), rfl, trivial, (by show va_P D vwCl (zPage cI a b q3 (len + 1) (rw_put 22 f (nI len) p0)) t.heap; rw [ht]; exact hP)⟩, hS.F ht⟩) hS.2.2 dX3_append_22
set_option maxHeartbeats 4000000 in
set_option maxRecDepth 100000 in
theorem c_X3_clear (l : Launch) (D : va_G) (cI : ClassId) (a : Nat) (b : Nat) (q3 : Nat) (len : Nat) (f : Nat → Int32) (sz : Nat) : Met l yX3_clear wsX3_clear ({ frames := 0, cells := 0, slots := 0, locals := 0 } : Room) (vz_rw D cI (zPage cI a b q3 len f) sz [.ref a]) (va_Qv (fun (_ : Unit) => True) (fun (u : Unit) (t : State) => va_P D vwCl (zPage cI a b q3 0 f) t.heap) (va_A (zPage cI a b q3 len f) sz)) 0 0 (va_A (zPage cI a b q3 len f) sz) := by
  refine Met.ofW (cc := cX3_clear) (maxL := 1) (ret := none) (by decide) rfl ?_
  intro p e s m args below meth c s₁ B hml hv
  obtain ⟨rfl, hsz, hP, hZ, hD0⟩ := hv
  obtain ⟨hK, hN⟩ := id hZ
  have hx := B.exec
  have hb := B.bytes
  have hr := B.returns
  have hts := atoms_spec (ws := wsX3_clear) B.pre
  have hown : s.vm.findClass RX3 = some m.cls := findClass_of_methodNamed B.named
  have hlocks := B.notSynchronized
  subst hsz
  have hD := hD0.self (sz := s.heap.size)
  generalize hAe : va_A (zPage cI a b q3 len f) s.heap.size = A at hD ⊢
  have hA : ∀ q : Nat, s.heap.size ≤ q → A q := fun q h => by rw [← hAe]; exact Or.inr h
  have hS : va_S A s.heap s.heap [] := va_S.rf
  have k20 := hts (.fieldLink RX3 20 "SongsAgain$Page" "length" "I") (List.mem_of_getElem? (i := 1) rfl)
  have iX3 : ∀ w ∈ u_ws RX3 TX3 2, w ∈ wsX3_clear := vz_in (i := 2) (n := 2) rfl
  have hl := lv_entry ([.ref a]) (n := 1) (Nat.le_of_ble_eq_true rfl)
  rw [lg_entry_eq]
  generalize (lg_sl ([.ref a]) ++ List.replicate (1 - (lg_sl ([.ref a])).length) Slot.unset).toArray = ls at hl ⊢
  have hl : lv_has ls 1 [(0, .ref a)] := hl
  have hP : va_P D vwCl (zPage cI a b q3 len f) s.heap := hP
  refine lv_aload_n hx hb dX3_clear_0 rfl (lv_at hl 0 rfl) ?_
  refine lv_iconst (v := 0) hx hb dX3_clear_1 (by decide) ?_
  refine va_put (D := D) (ci := 3) (v := .int 0) (ty := .int) (C := RX3) (T := TX3) (N := 2) hx hb hts iX3 tyX3 tyX3_ok nmX3 hown hK hP hD hS 0 rfl rfl 1 (by decide) k20 (fun _ h9 => h9) rfl (by decide +kernel) rfl rfl (Nat.le_of_ble_eq_true rfl) dX3_clear_2 (fun H_2 locs_2 hP9 hD9 hS9 => ?_)
  replace hP : va_P D vwCl (zPage cI a b q3 0 f) H_2 := hP9
  replace hD : va_D A (zPage cI a b q3 0 f) := hD9
  replace hS := hS9
  clear hP9 hD9 hS9
  exact W.vret hx hb hr (fun t ht hW => ⟨⟨(), rfl, trivial, (by show va_P D vwCl (zPage cI a b q3 0 f) t.heap; rw [ht]; exact hP)⟩, hS.F ht⟩) hS.2.2 dX3_clear_5
set_option maxHeartbeats 4000000 in
set_option maxRecDepth 100000 in
theorem c_X3_isDigitBelow (l : Launch) (p0 : Int32) (p1 : Int32) : Met l yX3_isDigitBelow wsX3_isDigitBelow ({ frames := 0, cells := 0, slots := 0, locals := 0 } : Room) (vz_st [.int p0, .int p1]) (vp_Si (fun r => r = vz_b (pg_dig p0 p1))) 0 0 (fun _ => False) := by
  refine Met.ofW (cc := cX3_isDigitBelow) (maxL := 2) (ret := (some .boolean)) (by decide) rfl ?_
  intro p e s m args below meth c s₁ B hml hv
  obtain ⟨rfl, -⟩ := hv
  have hx := B.exec
  have hb := B.bytes
  have hr := B.returns
  have hts := atoms_spec (ws := wsX3_isDigitBelow) B.pre
  have hown : s.vm.findClass RX3 = some m.cls := findClass_of_methodNamed B.named
  have hlocks := B.notSynchronized
  have hl := lv_entry ([.int p0, .int p1]) (n := 2) (Nat.le_of_ble_eq_true rfl)
  rw [lg_entry_eq]
  generalize (lg_sl ([.int p0, .int p1]) ++ List.replicate (2 - (lg_sl ([.int p0, .int p1])).length) Slot.unset).toArray = ls at hl ⊢
  have hl : lv_has ls 2 [(0, .int p0), (1, .int p1)] := hl
  refine lv_iload_n hx hb dX3_isDigitBelow_0 rfl (lv_at hl 0 rfl) ?_
  refine lv_bipush (v := 48) hx hb dX3_isDigitBelow_1 (by decide) ?_
  refine lv_icmp_lt (tgt := 18) hx hb dX3_isDigitBelow_3 (by decide) (fun c_3 => ?_) (fun c_3 => ?_)
  · skip
    refine lv_iconst (v := 0) hx hb dX3_isDigitBelow_18 (by decide) ?_
    exact W.zret hx hb hr narrow_b0 (fun t ht hW => ⟨_, rfl, (by first | rfl | (simp only [pg_dig, vz_b, if_pos c_3]; done) | (simp only [pg_dig, vz_b, if_pos c_3]; rfl) | (simp only [pg_dig, vz_b, c_3, ↓reduceIte, Bool.false_eq_true, if_true, if_false, reduceCtorEq, not_true_eq_false, not_false_eq_true, eq_self]; done) | (simp only [pg_dig, vz_b, c_3, ↓reduceIte, Bool.false_eq_true, if_true, if_false, reduceCtorEq, not_true_eq_false, not_false_eq_true, eq_self]; rfl) | (simp [pg_dig, vz_b, c_3]; done)), ht⟩) (fun q h => absurd h List.not_mem_nil) dX3_isDigitBelow_19
  · skip
    refine lv_iload_n hx hb dX3_isDigitBelow_6 rfl (lv_at hl 0 rfl) ?_
    refine lv_bipush (v := 48) hx hb dX3_isDigitBelow_7 (by decide) ?_
    refine lv_iload_n hx hb dX3_isDigitBelow_9 rfl (lv_at hl 1 rfl) ?_
    refine lv_iadd hx hb dX3_isDigitBelow_10 ?_
    refine lv_icmp_ge (tgt := 18) hx hb dX3_isDigitBelow_11 (by decide) (fun c_11 => ?_) (fun c_11 => ?_)
    · skip
      refine lv_iconst (v := 0) hx hb dX3_isDigitBelow_18 (by decide) ?_
      exact W.zret hx hb hr narrow_b0 (fun t ht hW => ⟨_, rfl, (by first | rfl | (simp only [pg_dig, vz_b, if_neg c_3, if_pos c_11]; done) | (simp only [pg_dig, vz_b, if_neg c_3, if_pos c_11]; rfl) | (simp only [pg_dig, vz_b, c_3, c_11, ↓reduceIte, Bool.false_eq_true, if_true, if_false, reduceCtorEq, not_true_eq_false, not_false_eq_true, eq_self]; done) | (simp only [pg_dig, vz_b, c_3, c_11, ↓reduceIte, Bool.false_eq_true, if_true, if_false, reduceCtorEq, not_true_eq_false, not_false_eq_true, eq_self]; rfl) | (simp [pg_dig, vz_b, c_3, c_11]; done)), ht⟩) (fun q h => absurd h List.not_mem_nil) dX3_isDigitBelow_19
    · skip
      refine lv_iconst (v := 1) hx hb dX3_isDigitBelow_14 (by decide) ?_
      refine lv_goto (tgt := 19) hx hb dX3_isDigitBelow_15 (by decide) ?_
      exact W.zret hx hb hr narrow_b1 (fun t ht hW => ⟨_, rfl, (by first | rfl | (simp only [pg_dig, vz_b, if_neg c_3, if_neg c_11]; done) | (simp only [pg_dig, vz_b, if_neg c_3, if_neg c_11]; rfl) | (simp only [pg_dig, vz_b, c_3, c_11, ↓reduceIte, Bool.false_eq_true, if_true, if_false, reduceCtorEq, not_true_eq_false, not_false_eq_true, eq_self]; done) | (simp only [pg_dig, vz_b, c_3, c_11, ↓reduceIte, Bool.false_eq_true, if_true, if_false, reduceCtorEq, not_true_eq_false, not_false_eq_true, eq_self]; rfl) | (simp [pg_dig, vz_b, c_3, c_11]; done)), ht⟩) (fun q h => absurd h List.not_mem_nil) dX3_isDigitBelow_19
set_option maxHeartbeats 4000000 in
set_option maxRecDepth 100000 in
theorem c_X3_endsSong (l : Launch) (p0 : Int32) (p1 : Int32) : Met l yX3_endsSong wsX3_endsSong ({ frames := 0, cells := 0, slots := 0, locals := 0 } : Room) (vz_st [.int p0, .int p1]) (vp_Si (fun r => r = vz_b (pg_ends p0 p1))) 0 0 (fun _ => False) := by
  refine Met.ofW (cc := cX3_endsSong) (maxL := 2) (ret := (some .boolean)) (by decide) rfl ?_
  intro p e s m args below meth c s₁ B hml hv
  obtain ⟨rfl, -⟩ := hv
  have hx := B.exec
  have hb := B.bytes
  have hr := B.returns
  have hts := atoms_spec (ws := wsX3_endsSong) B.pre
  have hown : s.vm.findClass RX3 = some m.cls := findClass_of_methodNamed B.named
  have hlocks := B.notSynchronized
  have hl := lv_entry ([.int p0, .int p1]) (n := 2) (Nat.le_of_ble_eq_true rfl)
  rw [lg_entry_eq]
  generalize (lg_sl ([.int p0, .int p1]) ++ List.replicate (2 - (lg_sl ([.int p0, .int p1])).length) Slot.unset).toArray = ls at hl ⊢
  have hl : lv_has ls 2 [(0, .int p0), (1, .int p1)] := hl
  refine lv_iload_n hx hb dX3_endsSong_0 rfl (lv_at hl 0 rfl) ?_
  refine lv_bipush (v := 44) hx hb dX3_endsSong_1 (by decide) ?_
  refine lv_icmp_ne (tgt := 18) hx hb dX3_endsSong_3 (by decide) (fun c_3 => ?_) (fun c_3 => ?_)
  · skip
    refine lv_iload_n hx hb dX3_endsSong_18 rfl (lv_at hl 0 rfl) ?_
    refine lv_bipush (v := 59) hx hb dX3_endsSong_19 (by decide) ?_
    refine lv_icmp_ne (tgt := 33) hx hb dX3_endsSong_21 (by decide) (fun c_21 => ?_) (fun c_21 => ?_)
    · skip
      refine lv_iconst (v := 0) hx hb dX3_endsSong_33 (by decide) ?_
      exact W.zret hx hb hr narrow_b0 (fun t ht hW => ⟨_, rfl, (by first | rfl | (simp only [pg_ends, vz_b, if_neg c_3, if_neg c_21]; done) | (simp only [pg_ends, vz_b, if_neg c_3, if_neg c_21]; rfl) | (simp only [pg_ends, vz_b, c_3, c_21, ↓reduceIte, Bool.false_eq_true, if_true, if_false, reduceCtorEq, not_true_eq_false, not_false_eq_true, eq_self]; done) | (simp only [pg_ends, vz_b, c_3, c_21, ↓reduceIte, Bool.false_eq_true, if_true, if_false, reduceCtorEq, not_true_eq_false, not_false_eq_true, eq_self]; rfl) | (simp [pg_ends, vz_b, c_3, c_21]; done)), ht⟩) (fun q h => absurd h List.not_mem_nil) dX3_endsSong_34
    · skip
      refine lv_iload_n hx hb dX3_endsSong_24 rfl (lv_at hl 1 rfl) ?_
      refine lv_iconst (v := 2) hx hb dX3_endsSong_25 (by decide) ?_
      refine lv_icmp_lt (tgt := 33) hx hb dX3_endsSong_26 (by decide) (fun c_26 => ?_) (fun c_26 => ?_)
      · skip
        refine lv_iconst (v := 0) hx hb dX3_endsSong_33 (by decide) ?_
        exact W.zret hx hb hr narrow_b0 (fun t ht hW => ⟨_, rfl, (by first | rfl | (simp only [pg_ends, vz_b, if_neg c_3, if_pos c_21, if_pos c_26]; done) | (simp only [pg_ends, vz_b, if_neg c_3, if_pos c_21, if_pos c_26]; rfl) | (simp only [pg_ends, vz_b, c_3, c_21, c_26, ↓reduceIte, Bool.false_eq_true, if_true, if_false, reduceCtorEq, not_true_eq_false, not_false_eq_true, eq_self]; done) | (simp only [pg_ends, vz_b, c_3, c_21, c_26, ↓reduceIte, Bool.false_eq_true, if_true, if_false, reduceCtorEq, not_true_eq_false, not_false_eq_true, eq_self]; rfl) | (simp [pg_ends, vz_b, c_3, c_21, c_26]; done)), ht⟩) (fun q h => absurd h List.not_mem_nil) dX3_endsSong_34
      · skip
        refine lv_iconst (v := 1) hx hb dX3_endsSong_29 (by decide) ?_
        refine lv_goto (tgt := 34) hx hb dX3_endsSong_30 (by decide) ?_
        exact W.zret hx hb hr narrow_b1 (fun t ht hW => ⟨_, rfl, (by first | rfl | (simp only [pg_ends, vz_b, if_neg c_3, if_pos c_21, if_neg c_26]; done) | (simp only [pg_ends, vz_b, if_neg c_3, if_pos c_21, if_neg c_26]; rfl) | (simp only [pg_ends, vz_b, c_3, c_21, c_26, ↓reduceIte, Bool.false_eq_true, if_true, if_false, reduceCtorEq, not_true_eq_false, not_false_eq_true, eq_self]; done) | (simp only [pg_ends, vz_b, c_3, c_21, c_26, ↓reduceIte, Bool.false_eq_true, if_true, if_false, reduceCtorEq, not_true_eq_false, not_false_eq_true, eq_self]; rfl) | (simp [pg_ends, vz_b, c_3, c_21, c_26]; done)), ht⟩) (fun q h => absurd h List.not_mem_nil) dX3_endsSong_34
  · skip
    refine lv_iload_n hx hb dX3_endsSong_6 rfl (lv_at hl 1 rfl) ?_
    refine lv_bipush (v := 6) hx hb dX3_endsSong_7 (by decide) ?_
    refine lv_icmp_ge (tgt := 16) hx hb dX3_endsSong_9 (by decide) (fun c_9 => ?_) (fun c_9 => ?_)
    · skip
      refine lv_iconst (v := 0) hx hb dX3_endsSong_16 (by decide) ?_
      exact W.zret hx hb hr narrow_b0 (fun t ht hW => ⟨_, rfl, (by first | rfl | (simp only [pg_ends, vz_b, if_pos c_3, if_pos c_9]; done) | (simp only [pg_ends, vz_b, if_pos c_3, if_pos c_9]; rfl) | (simp only [pg_ends, vz_b, c_3, c_9, ↓reduceIte, Bool.false_eq_true, if_true, if_false, reduceCtorEq, not_true_eq_false, not_false_eq_true, eq_self]; done) | (simp only [pg_ends, vz_b, c_3, c_9, ↓reduceIte, Bool.false_eq_true, if_true, if_false, reduceCtorEq, not_true_eq_false, not_false_eq_true, eq_self]; rfl) | (simp [pg_ends, vz_b, c_3, c_9]; done)), ht⟩) (fun q h => absurd h List.not_mem_nil) dX3_endsSong_17
    · skip
      refine lv_iconst (v := 1) hx hb dX3_endsSong_12 (by decide) ?_
      refine lv_goto (tgt := 17) hx hb dX3_endsSong_13 (by decide) ?_
      exact W.zret hx hb hr narrow_b1 (fun t ht hW => ⟨_, rfl, (by first | rfl | (simp only [pg_ends, vz_b, if_pos c_3, if_neg c_9]; done) | (simp only [pg_ends, vz_b, if_pos c_3, if_neg c_9]; rfl) | (simp only [pg_ends, vz_b, c_3, c_9, ↓reduceIte, Bool.false_eq_true, if_true, if_false, reduceCtorEq, not_true_eq_false, not_false_eq_true, eq_self]; done) | (simp only [pg_ends, vz_b, c_3, c_9, ↓reduceIte, Bool.false_eq_true, if_true, if_false, reduceCtorEq, not_true_eq_false, not_false_eq_true, eq_self]; rfl) | (simp [pg_ends, vz_b, c_3, c_9]; done)), ht⟩) (fun q h => absurd h List.not_mem_nil) dX3_endsSong_17
set_option maxHeartbeats 4000000 in
set_option maxRecDepth 100000 in
theorem c_X3_songsRead (l : Launch) (D : va_G) (cI : ClassId) (a : Nat) (b : Nat) (q3 : Nat) (len : Nat) (f : Nat → Int32) : Met l yX3_songsRead wsX3_songsRead ({ frames := 1, cells := 0, slots := 0, locals := 40 } : Room) (vz_ro D cI (zPage cI a b q3 len f) [.ref a]) (vp_Si (fun r => r = pg_songs len)) 0 0 (fun _ => False) := by
  refine Met.ofW (cc := cX3_songsRead) (maxL := 1) (ret := (some .int)) (by decide) rfl ?_
  intro p e s m args below meth c s₁ B hml hv
  obtain ⟨rfl, hP, hZ⟩ := hv
  obtain ⟨hK, hN⟩ := id hZ
  have hx := B.exec
  have hb := B.bytes
  have hr := B.returns
  have hts := atoms_spec (ws := wsX3_songsRead) B.pre
  have hown : s.vm.findClass RX3 = some m.cls := findClass_of_methodNamed B.named
  have hlocks := B.notSynchronized
  have k20 := hts (.fieldLink RX3 20 "SongsAgain$Page" "length" "I") (List.mem_of_getElem? (i := 1) rfl)
  have iX3 : ∀ w ∈ u_ws RX3 TX3 2, w ∈ wsX3_songsRead := vz_in (i := 6) (n := 2) rfl
  have hl := lv_entry ([.ref a]) (n := 1) (Nat.le_of_ble_eq_true rfl)
  rw [lg_entry_eq]
  generalize (lg_sl ([.ref a]) ++ List.replicate (1 - (lg_sl ([.ref a])).length) Slot.unset).toArray = ls at hl ⊢
  have hl : lv_has ls 1 [(0, .ref a)] := hl
  refine lv_bipush (v := 6) hx hb dX3_songsRead_0 (by decide) ?_
  refine lv_aload_n hx hb dX3_songsRead_2 rfl (lv_at hl 0 rfl) ?_
  refine va_get (D := D) (ci := 3) (v := .int (nI len)) (C := RX3) (T := TX3) (N := 2) hx hb hts iX3 hown hK hP 0 rfl rfl 1 (by decide) k20 (fun _ h9 => h9) rfl dX3_songsRead_3 ?_
  refine lv_iconst (v := 1) hx hb dX3_songsRead_6 (by decide) ?_
  refine lv_isub hx hb dX3_songsRead_7 ?_
  refine lv_iconst (v := 3) hx hb dX3_songsRead_8 (by decide) ?_
  refine lv_idiv hx hb dX3_songsRead_9 (by decide) ?_
  refine va_mmin hx hb (by rw [hml]; exact hl.1.symm) hown (hts (.methodLink RX3 53 Lib.Math.min.name) (List.mem_of_getElem? (i := 2) rfl)) (hts (.static Lib.Math.min.name) (List.mem_of_getElem? (i := 3) rfl)) (hts (.initialized "java/lang/Math") (List.mem_of_getElem? (i := 4) rfl)) (hts (.code Lib.Math.min.name Lib.Math.min.code 2 (some .int)) (List.mem_of_getElem? (i := 5) rfl)) (Nat.le_of_ble_eq_true rfl) (Nat.le_of_ble_eq_true rfl) (Nat.zero_le _) (Nat.zero_le _) dX3_songsRead_10 ?_
  exact W.iret hx hb hr (fun t ht hW => ⟨_, rfl, (by first | rfl | (simp only [pg_songs]; done) | (simp only [pg_songs]; rfl) | (simp only [pg_songs, ↓reduceIte, Bool.false_eq_true, if_true, if_false, reduceCtorEq, not_true_eq_false, not_false_eq_true, eq_self]; done) | (simp only [pg_songs, ↓reduceIte, Bool.false_eq_true, if_true, if_false, reduceCtorEq, not_true_eq_false, not_false_eq_true, eq_self]; rfl) | (simp [pg_songs]; done)), ht⟩) (fun q h => absurd h List.not_mem_nil) dX3_songsRead_13
set_option maxHeartbeats 4000000 in
set_option maxRecDepth 100000 in
theorem c_X3_singerRead (l : Launch) (D : va_G) (cI : ClassId) (a : Nat) (b : Nat) (q3 : Nat) (len : Nat) (f : Nat → Int32) (p0 : Int32) : Met l yX3_singerRead wsX3_singerRead ({ frames := 1, cells := 0, slots := 0, locals := 21 } : Room) (vz_ro D cI (zPage cI a b q3 len f) [.ref a, .int p0]) (vp_Si (fun r => r = rw_at 22 f (3 * p0 + 1) - 48)) 0 0 (fun _ => False) := by
  refine Met.ofW (cc := cX3_singerRead) (maxL := 2) (ret := (some .int)) (by decide) rfl ?_
  intro p e s m args below meth c s₁ B hml hv
  obtain ⟨rfl, hP, hZ⟩ := hv
  obtain ⟨hK, hN⟩ := id hZ
  have hx := B.exec
  have hb := B.bytes
  have hr := B.returns
  have hts := atoms_spec (ws := wsX3_singerRead) B.pre
  have hown : s.vm.findClass RX3 = some m.cls := findClass_of_methodNamed B.named
  have hlocks := B.notSynchronized
  have k14 := hts (.fieldLink RX3 14 "SongsAgain$Page" "codes" "LSongsAgain$Row;") (List.mem_of_getElem? (i := 1) rfl)
  have iX3 : ∀ w ∈ u_ws RX3 TX3 2, w ∈ wsX3_singerRead := vz_in (i := 8) (n := 2) rfl
  have hl := lv_entry ([.ref a, .int p0]) (n := 2) (Nat.le_of_ble_eq_true rfl)
  rw [lg_entry_eq]
  generalize (lg_sl ([.ref a, .int p0]) ++ List.replicate (2 - (lg_sl ([.ref a, .int p0])).length) Slot.unset).toArray = ls at hl ⊢
  have hl : lv_has ls 2 [(0, .ref a), (1, .int p0)] := hl
  refine lv_aload_n hx hb dX3_singerRead_0 rfl (lv_at hl 0 rfl) ?_
  refine va_get (D := D) (ci := 3) (v := .ref b) (C := RX3) (T := TX3) (N := 2) hx hb hts iX3 hown hK hP 0 rfl rfl 0 (by decide) k14 (fun _ h9 => h9) rfl dX3_singerRead_1 ?_
  refine lv_iconst (v := 3) hx hb dX3_singerRead_4 (by decide) ?_
  refine lv_iload_n hx hb dX3_singerRead_5 rfl (lv_at hl 1 rfl) ?_
  refine lv_imul hx hb dX3_singerRead_6 ?_
  refine lv_iconst (v := 1) hx hb dX3_singerRead_7 (by decide) ?_
  refine lv_iadd hx hb dX3_singerRead_8 ?_
  refine vp_callSi (W.runV (As := [.int ((3 * p0) + 1)]) (rest := []) ⟨hx, hb, hml, hown, hts⟩ (c_X5_at l D cI b q3 22 f ((3 * p0) + 1) (by decide)) (cwV 1 hts gX3_singerRead_X5_at rfl rfl rfl (by decide +kernel) ⟨Nat.le_of_ble_eq_true rfl, Nat.le_of_ble_eq_true rfl⟩) (vz_pvR (va_recv hK hP (ci := 5) (q0 := 1) rfl rfl) hZ (hP.sub (ws' := (zRow cI b q3 22 f)) [1, 2] rfl)) rfl rfl hl.1 rfl (lv_room (Nat.le_of_ble_eq_true rfl)) dX3_singerRead_9 ⟨Nat.zero_le _, Nat.zero_le _⟩) (fun r_9 hr_9 => ?_)
  subst hr_9
  refine lv_bipush (v := 48) hx hb dX3_singerRead_12 (by decide) ?_
  refine lv_isub hx hb dX3_singerRead_14 ?_
  exact W.iret hx hb hr (fun t ht hW => ⟨_, rfl, (by first | rfl | (rfl; done) | (rfl; rfl) | (rfl; done) | (rfl; rfl) | (simp; done)), ht⟩) (fun q h => absurd h List.not_mem_nil) dX3_singerRead_15
set_option maxHeartbeats 4000000 in
set_option maxRecDepth 100000 in
theorem c_X3_ruleRead (l : Launch) (D : va_G) (cI : ClassId) (a : Nat) (b : Nat) (q3 : Nat) (len : Nat) (f : Nat → Int32) : Met l yX3_ruleRead wsX3_ruleRead ({ frames := 1, cells := 0, slots := 0, locals := 21 } : Room) (vz_ro D cI (zPage cI a b q3 len f) [.ref a]) (vp_Si (fun r => r = rw_at 22 f (nI len - 1) - 48)) 0 0 (fun _ => False) := by
  refine Met.ofW (cc := cX3_ruleRead) (maxL := 1) (ret := (some .int)) (by decide) rfl ?_
  intro p e s m args below meth c s₁ B hml hv
  obtain ⟨rfl, hP, hZ⟩ := hv
  obtain ⟨hK, hN⟩ := id hZ
  have hx := B.exec
  have hb := B.bytes
  have hr := B.returns
  have hts := atoms_spec (ws := wsX3_ruleRead) B.pre
  have hown : s.vm.findClass RX3 = some m.cls := findClass_of_methodNamed B.named
  have hlocks := B.notSynchronized
  have k14 := hts (.fieldLink RX3 14 "SongsAgain$Page" "codes" "LSongsAgain$Row;") (List.mem_of_getElem? (i := 1) rfl)
  have k20 := hts (.fieldLink RX3 20 "SongsAgain$Page" "length" "I") (List.mem_of_getElem? (i := 2) rfl)
  have iX3 : ∀ w ∈ u_ws RX3 TX3 2, w ∈ wsX3_ruleRead := vz_in (i := 9) (n := 2) rfl
  have hl := lv_entry ([.ref a]) (n := 1) (Nat.le_of_ble_eq_true rfl)
  rw [lg_entry_eq]
  generalize (lg_sl ([.ref a]) ++ List.replicate (1 - (lg_sl ([.ref a])).length) Slot.unset).toArray = ls at hl ⊢
  have hl : lv_has ls 1 [(0, .ref a)] := hl
  refine lv_aload_n hx hb dX3_ruleRead_0 rfl (lv_at hl 0 rfl) ?_
  refine va_get (D := D) (ci := 3) (v := .ref b) (C := RX3) (T := TX3) (N := 2) hx hb hts iX3 hown hK hP 0 rfl rfl 0 (by decide) k14 (fun _ h9 => h9) rfl dX3_ruleRead_1 ?_
  refine lv_aload_n hx hb dX3_ruleRead_4 rfl (lv_at hl 0 rfl) ?_
  refine va_get (D := D) (ci := 3) (v := .int (nI len)) (C := RX3) (T := TX3) (N := 2) hx hb hts iX3 hown hK hP 0 rfl rfl 1 (by decide) k20 (fun _ h9 => h9) rfl dX3_ruleRead_5 ?_
  refine lv_iconst (v := 1) hx hb dX3_ruleRead_8 (by decide) ?_
  refine lv_isub hx hb dX3_ruleRead_9 ?_
  refine vp_callSi (W.runV (As := [.int ((nI len) - 1)]) (rest := []) ⟨hx, hb, hml, hown, hts⟩ (c_X5_at l D cI b q3 22 f ((nI len) - 1) (by decide)) (cwV 1 hts gX3_ruleRead_X5_at rfl rfl rfl (by decide +kernel) ⟨Nat.le_of_ble_eq_true rfl, Nat.le_of_ble_eq_true rfl⟩) (vz_pvR (va_recv hK hP (ci := 5) (q0 := 1) rfl rfl) hZ (hP.sub (ws' := (zRow cI b q3 22 f)) [1, 2] rfl)) rfl rfl hl.1 rfl (lv_room (Nat.le_of_ble_eq_true rfl)) dX3_ruleRead_10 ⟨Nat.zero_le _, Nat.zero_le _⟩) (fun r_10 hr_10 => ?_)
  subst hr_10
  refine lv_bipush (v := 48) hx hb dX3_ruleRead_13 (by decide) ?_
  refine lv_isub hx hb dX3_ruleRead_15 ?_
  exact W.iret hx hb hr (fun t ht hW => ⟨_, rfl, (by first | rfl | (rfl; done) | (rfl; rfl) | (rfl; done) | (rfl; rfl) | (simp; done)), ht⟩) (fun q h => absurd h List.not_mem_nil) dX3_ruleRead_16
set_option maxHeartbeats 4000000 in
set_option maxRecDepth 100000 in
theorem c_X4_begin (l : Launch) (D : va_G) (cI : ClassId) (h : Nat → Nat) (pl : Nat → Int32) (sk : Nat → Int32) (he : Nat → Int32) (nh : Nat) (ru : Int32) (bg : Int32) (la : Int32) (sd : Bool) (sz : Nat) (p0 : Int32) (p1 : Int32) : Met l yX4_begin wsX4_begin ({ frames := 1, cells := 0, slots := 0, locals := 21 } : Room) (vz_rw D cI (zPast cI h pl sk he nh ru bg la sd) sz [.ref (h 0), .int p0, .int p1]) (va_Qv (fun (_ : Unit) => True) (fun (u : Unit) (t : State) => va_P D vwCl (zPast cI h (rw_clr pl 6) (rw_clr sk 6) he 0 p0 p1 (-1) false) t.heap) (va_A (zPast cI h pl sk he nh ru bg la sd) sz)) 0 0 (va_A (zPast cI h pl sk he nh ru bg la sd) sz) := by
  refine Met.ofW (cc := cX4_begin) (maxL := 3) (ret := none) (by decide) rfl ?_
  intro p e s m args below meth c s₁ B hml hv
  obtain ⟨rfl, hsz, hP, hZ, hD0⟩ := hv
  obtain ⟨hK, hN⟩ := id hZ
  have hx := B.exec
  have hb := B.bytes
  have hr := B.returns
  have hts := atoms_spec (ws := wsX4_begin) B.pre
  have hown : s.vm.findClass RX4 = some m.cls := findClass_of_methodNamed B.named
  have hlocks := B.notSynchronized
  subst hsz
  have hD := hD0.self (sz := s.heap.size)
  generalize hAe : va_A (zPast cI h pl sk he nh ru bg la sd) s.heap.size = A at hD ⊢
  have hA : ∀ q : Nat, s.heap.size ≤ q → A q := fun q h => by rw [← hAe]; exact Or.inr h
  have hS : va_S A s.heap s.heap [] := va_S.rf
  have k14 := hts (.fieldLink RX4 14 "SongsAgain$Past" "played" "LSongsAgain$Row;") (List.mem_of_getElem? (i := 1) rfl)
  have k20 := hts (.fieldLink RX4 20 "SongsAgain$Past" "skipped" "LSongsAgain$Row;") (List.mem_of_getElem? (i := 2) rfl)
  have k26 := hts (.fieldLink RX4 26 "SongsAgain$Past" "heardLength" "I") (List.mem_of_getElem? (i := 3) rfl)
  have k30 := hts (.fieldLink RX4 30 "SongsAgain$Past" "rule" "I") (List.mem_of_getElem? (i := 4) rfl)
  have k33 := hts (.fieldLink RX4 33 "SongsAgain$Past" "bag" "I") (List.mem_of_getElem? (i := 5) rfl)
  have k36 := hts (.fieldLink RX4 36 "SongsAgain$Past" "last" "I") (List.mem_of_getElem? (i := 6) rfl)
  have k39 := hts (.fieldLink RX4 39 "SongsAgain$Past" "lastIsSkipped" "Z") (List.mem_of_getElem? (i := 7) rfl)
  have iX4 : ∀ w ∈ u_ws RX4 TX4 8, w ∈ wsX4_begin := vz_in (i := 14) (n := 8) rfl
  have hl := lv_entry ([.ref (h 0), .int p0, .int p1]) (n := 3) (Nat.le_of_ble_eq_true rfl)
  rw [lg_entry_eq]
  generalize (lg_sl ([.ref (h 0), .int p0, .int p1]) ++ List.replicate (3 - (lg_sl ([.ref (h 0), .int p0, .int p1])).length) Slot.unset).toArray = ls at hl ⊢
  have hl : lv_has ls 3 [(0, .ref (h 0)), (1, .int p0), (2, .int p1)] := hl
  have hP : va_P D vwCl (zPast cI h pl sk he nh ru bg la sd) s.heap := hP
  refine lv_aload_n hx hb dX4_begin_0 rfl (lv_at hl 0 rfl) ?_
  refine va_get (D := D) (ci := 4) (v := .ref (h 1)) (C := RX4) (T := TX4) (N := 8) hx hb hts iX4 hown hK hP 0 rfl rfl 0 (by decide) k14 (fun _ h9 => h9) rfl dX4_begin_1 ?_
  have hPc := (hP.sub (ws' := (zRow cI (h 1) (h 2) 6 pl)) [1, 2] rfl)
  have hDc := hD.sub (ws' := (zRow cI (h 1) (h 2) 6 pl)) [1, 2] rfl rfl
  have hFc := va_free (wc := (zRow cI (h 1) (h 2) 6 pl)) hD hS hA [1, 2] rfl
  refine va_callv (va_runV (As := []) (rest := []) ⟨hx, hb, hml, hown, hts⟩ (c_X5_clear l D cI (h 1) (h 2) 6 pl s.heap.size (by decide)) (cwV 0 hts gX4_begin_X5_clear rfl rfl rfl (by decide +kernel) ⟨Nat.le_of_ble_eq_true rfl, Nat.le_of_ble_eq_true rfl⟩) (vz_pvW (va_recv hK hP (ci := 5) (q0 := 1) rfl rfl) hZ hPc hDc) rfl rfl hl.1 rfl (lv_room (Nat.le_of_ble_eq_true rfl)) dX4_begin_4 ⟨Nat.zero_le _, Nat.zero_le _⟩) hS (fun q _ h => hFc q h) hFc (fun u_4 t H_4 locs_4 ht hvm hw hB hz1 hk1 hS9 => ?_)
  rw [ht] at hB
  replace hP : va_P D vwCl (zPast cI h (rw_clr pl 6) sk he nh ru bg la sd) H_4 := vz_join (w1 := (zRow cI (h 1) (h 2) 6 (rw_clr pl 6))) hP hD [1, 2] rfl rfl hk1 hB
  replace hD : va_D A (zPast cI h (rw_clr pl 6) sk he nh ru bg la sd) := vz_same hD rfl
  replace hS := hS9
  clear hS9 hPc hDc hFc hB hk1 hz1
  refine lv_aload_n hx hb dX4_begin_7 rfl (lv_at hl 0 rfl) ?_
  refine va_get (D := D) (ci := 4) (v := .ref (h 3)) (C := RX4) (T := TX4) (N := 8) hx hb hts iX4 hown hK hP 0 rfl rfl 1 (by decide) k20 (fun _ h9 => h9) rfl dX4_begin_8 ?_
  have hPc := (hP.sub (ws' := (zRow cI (h 3) (h 4) 6 sk)) [3, 4] rfl)
  have hDc := hD.sub (ws' := (zRow cI (h 3) (h 4) 6 sk)) [3, 4] rfl rfl
  have hFc := va_free (wc := (zRow cI (h 3) (h 4) 6 sk)) hD hS hA [3, 4] rfl
  refine va_callv (va_runV (As := []) (rest := []) ⟨hx, hb, hml, hown, hts⟩ (c_X5_clear l D cI (h 3) (h 4) 6 sk H_4.size (by decide)) (cwV 0 hts gX4_begin_X5_clear rfl rfl rfl (by decide +kernel) ⟨Nat.le_of_ble_eq_true rfl, Nat.le_of_ble_eq_true rfl⟩) (vz_pvW (va_recv hK hP (ci := 5) (q0 := 3) rfl rfl) hZ hPc hDc) rfl rfl hl.1 rfl (lv_room (Nat.le_of_ble_eq_true rfl)) dX4_begin_11 ⟨Nat.zero_le _, Nat.zero_le _⟩) hS (fun q _ h => hFc q h) hFc (fun u_11 t H_11 locs_11 ht hvm hw hB hz1 hk1 hS9 => ?_)
  rw [ht] at hB
  replace hP : va_P D vwCl (zPast cI h (rw_clr pl 6) (rw_clr sk 6) he nh ru bg la sd) H_11 := vz_join (w1 := (zRow cI (h 3) (h 4) 6 (rw_clr sk 6))) hP hD [3, 4] rfl rfl hk1 hB
  replace hD : va_D A (zPast cI h (rw_clr pl 6) (rw_clr sk 6) he nh ru bg la sd) := vz_same hD rfl
  replace hS := hS9
  clear hS9 hPc hDc hFc hB hk1 hz1
  refine lv_aload_n hx hb dX4_begin_14 rfl (lv_at hl 0 rfl) ?_
  refine lv_iconst (v := 0) hx hb dX4_begin_15 (by decide) ?_
  refine va_put (D := D) (ci := 4) (v := .int 0) (ty := .int) (C := RX4) (T := TX4) (N := 8) hx hb hts iX4 tyX4 tyX4_ok nmX4 hown hK hP hD hS 0 rfl rfl 3 (by decide) k26 (fun _ h9 => h9) rfl (by decide +kernel) rfl rfl (Nat.le_of_ble_eq_true rfl) dX4_begin_16 (fun H_16 locs_16 hP9 hD9 hS9 => ?_)
  replace hP : va_P D vwCl (zPast cI h (rw_clr pl 6) (rw_clr sk 6) he 0 ru bg la sd) H_16 := hP9
  replace hD : va_D A (zPast cI h (rw_clr pl 6) (rw_clr sk 6) he 0 ru bg la sd) := hD9
  replace hS := hS9
  clear hP9 hD9 hS9
  refine lv_aload_n hx hb dX4_begin_19 rfl (lv_at hl 0 rfl) ?_
  refine lv_iload_n hx hb dX4_begin_20 rfl (lv_at hl 1 rfl) ?_
  refine va_put (D := D) (ci := 4) (v := .int p0) (ty := .int) (C := RX4) (T := TX4) (N := 8) hx hb hts iX4 tyX4 tyX4_ok nmX4 hown hK hP hD hS 0 rfl rfl 4 (by decide) k30 (fun _ h9 => h9) rfl (by decide +kernel) rfl rfl (Nat.le_of_ble_eq_true rfl) dX4_begin_21 (fun H_21 locs_21 hP9 hD9 hS9 => ?_)
  replace hP : va_P D vwCl (zPast cI h (rw_clr pl 6) (rw_clr sk 6) he 0 p0 bg la sd) H_21 := hP9
  replace hD : va_D A (zPast cI h (rw_clr pl 6) (rw_clr sk 6) he 0 p0 bg la sd) := hD9
  replace hS := hS9
  clear hP9 hD9 hS9
  refine lv_aload_n hx hb dX4_begin_24 rfl (lv_at hl 0 rfl) ?_
  refine lv_iload_n hx hb dX4_begin_25 rfl (lv_at hl 2 rfl) ?_
  refine va_put (D := D) (ci := 4) (v := .int p1) (ty := .int) (C := RX4) (T := TX4) (N := 8) hx hb hts iX4 tyX4 tyX4_ok nmX4 hown hK hP hD hS 0 rfl rfl 5 (by decide) k33 (fun _ h9 => h9) rfl (by decide +kernel) rfl rfl (Nat.le_of_ble_eq_true rfl) dX4_begin_26 (fun H_26 locs_26 hP9 hD9 hS9 => ?_)
  replace hP : va_P D vwCl (zPast cI h (rw_clr pl 6) (rw_clr sk 6) he 0 p0 p1 la sd) H_26 := hP9
  replace hD : va_D A (zPast cI h (rw_clr pl 6) (rw_clr sk 6) he 0 p0 p1 la sd) := hD9
  replace hS := hS9
  clear hP9 hD9 hS9
  refine lv_aload_n hx hb dX4_begin_29 rfl (lv_at hl 0 rfl) ?_
  refine lv_iconst (v := (-1)) hx hb dX4_begin_30 (by decide) ?_
  refine va_put (D := D) (ci := 4) (v := .int (-1)) (ty := .int) (C := RX4) (T := TX4) (N := 8) hx hb hts iX4 tyX4 tyX4_ok nmX4 hown hK hP hD hS 0 rfl rfl 6 (by decide) k36 (fun _ h9 => h9) rfl (by decide +kernel) rfl rfl (Nat.le_of_ble_eq_true rfl) dX4_begin_31 (fun H_31 locs_31 hP9 hD9 hS9 => ?_)
  replace hP : va_P D vwCl (zPast cI h (rw_clr pl 6) (rw_clr sk 6) he 0 p0 p1 (-1) sd) H_31 := hP9
  replace hD : va_D A (zPast cI h (rw_clr pl 6) (rw_clr sk 6) he 0 p0 p1 (-1) sd) := hD9
  replace hS := hS9
  clear hP9 hD9 hS9
  refine lv_aload_n hx hb dX4_begin_34 rfl (lv_at hl 0 rfl) ?_
  refine lv_iconst (v := 0) hx hb dX4_begin_35 (by decide) ?_
  refine va_put (D := D) (ci := 4) (v := .int 0) (ty := .boolean) (C := RX4) (T := TX4) (N := 8) hx hb hts iX4 tyX4 tyX4_ok nmX4 hown hK hP hD hS 0 rfl rfl 7 (by decide) k39 (fun _ h9 => h9) rfl (by decide +kernel) narrow_b0 rfl (Nat.le_of_ble_eq_true rfl) dX4_begin_36 (fun H_36 locs_36 hP9 hD9 hS9 => ?_)
  replace hP : va_P D vwCl (zPast cI h (rw_clr pl 6) (rw_clr sk 6) he 0 p0 p1 (-1) false) H_36 := hP9
  replace hD : va_D A (zPast cI h (rw_clr pl 6) (rw_clr sk 6) he 0 p0 p1 (-1) false) := hD9
  replace hS := hS9
  clear hP9 hD9 hS9
  exact W.vret hx hb hr (fun t ht hW => ⟨⟨(), rfl, trivial, (by show va_P D vwCl (zPast cI h (rw_clr pl 6) (rw_clr sk 6) he 0 p0 p1 (-1) false) t.heap; rw [ht]; exact hP)⟩, hS.F ht⟩) hS.2.2 dX4_begin_39
set_option maxHeartbeats 4000000 in
set_option maxRecDepth 100000 in
theorem c_X4_become (l : Launch) (D : va_G) (cI : ClassId) (h : Nat → Nat) (g : Nat → Nat) (pl : Nat → Int32) (sk : Nat → Int32) (he : Nat → Int32) (nh : Nat) (ru : Int32) (bg : Int32) (la : Int32) (sd : Bool) (pl2 : Nat → Int32) (sk2 : Nat → Int32) (he2 : Nat → Int32) (nh2 : Nat) (ru2 : Int32) (bg2 : Int32) (la2 : Int32) (sd2 : Bool) (sz : Nat) : Met l yX4_become wsX4_become ({ frames := 2, cells := 0, slots := 0, locals := 43 } : Room) (vz_rw D cI (zPastPast cI h g pl sk he nh ru bg la sd pl2 sk2 he2 nh2 ru2 bg2 la2 sd2) sz [.ref (h 0), .ref (g 0)]) (va_Qv (fun (_ : Unit) => True) (fun (u : Unit) (t : State) => va_P D vwCl (zPastPast cI h g (rw_cp pl2 pl 6) (rw_cp sk2 sk 6) (rw_cp he2 he 8) nh2 ru2 bg2 la2 sd2 pl2 sk2 he2 nh2 ru2 bg2 la2 sd2) t.heap) (va_A (zPastPast cI h g pl sk he nh ru bg la sd pl2 sk2 he2 nh2 ru2 bg2 la2 sd2) sz)) 0 0 (va_A (zPastPast cI h g pl sk he nh ru bg la sd pl2 sk2 he2 nh2 ru2 bg2 la2 sd2) sz) := by
  refine Met.ofW (cc := cX4_become) (maxL := 2) (ret := none) (by decide) rfl ?_
  intro p e s m args below meth c s₁ B hml hv
  obtain ⟨rfl, hsz, hP, hZ, hD0⟩ := hv
  obtain ⟨hK, hN⟩ := id hZ
  have hx := B.exec
  have hb := B.bytes
  have hr := B.returns
  have hts := atoms_spec (ws := wsX4_become) B.pre
  have hown : s.vm.findClass RX4 = some m.cls := findClass_of_methodNamed B.named
  have hlocks := B.notSynchronized
  subst hsz
  have hD := hD0.self (sz := s.heap.size)
  generalize hAe : va_A (zPastPast cI h g pl sk he nh ru bg la sd pl2 sk2 he2 nh2 ru2 bg2 la2 sd2) s.heap.size = A at hD ⊢
  have hA : ∀ q : Nat, s.heap.size ≤ q → A q := fun q h => by rw [← hAe]; exact Or.inr h
  have hS : va_S A s.heap s.heap [] := va_S.rf
  have k14 := hts (.fieldLink RX4 14 "SongsAgain$Past" "played" "LSongsAgain$Row;") (List.mem_of_getElem? (i := 1) rfl)
  have k20 := hts (.fieldLink RX4 20 "SongsAgain$Past" "skipped" "LSongsAgain$Row;") (List.mem_of_getElem? (i := 2) rfl)
  have k23 := hts (.fieldLink RX4 23 "SongsAgain$Past" "heard" "LSongsAgain$Row;") (List.mem_of_getElem? (i := 3) rfl)
  have k26 := hts (.fieldLink RX4 26 "SongsAgain$Past" "heardLength" "I") (List.mem_of_getElem? (i := 4) rfl)
  have k30 := hts (.fieldLink RX4 30 "SongsAgain$Past" "rule" "I") (List.mem_of_getElem? (i := 5) rfl)
  have k33 := hts (.fieldLink RX4 33 "SongsAgain$Past" "bag" "I") (List.mem_of_getElem? (i := 6) rfl)
  have k36 := hts (.fieldLink RX4 36 "SongsAgain$Past" "last" "I") (List.mem_of_getElem? (i := 7) rfl)
  have k39 := hts (.fieldLink RX4 39 "SongsAgain$Past" "lastIsSkipped" "Z") (List.mem_of_getElem? (i := 8) rfl)
  have iX4 : ∀ w ∈ u_ws RX4 TX4 8, w ∈ wsX4_become := vz_in (i := 19) (n := 8) rfl
  have hl := lv_entry ([.ref (h 0), .ref (g 0)]) (n := 2) (Nat.le_of_ble_eq_true rfl)
  rw [lg_entry_eq]
  generalize (lg_sl ([.ref (h 0), .ref (g 0)]) ++ List.replicate (2 - (lg_sl ([.ref (h 0), .ref (g 0)])).length) Slot.unset).toArray = ls at hl ⊢
  have hl : lv_has ls 2 [(0, .ref (h 0)), (1, .ref (g 0))] := hl
  have hP : va_P D vwCl (zPastPast cI h g pl sk he nh ru bg la sd pl2 sk2 he2 nh2 ru2 bg2 la2 sd2) s.heap := hP
  refine lv_aload_n hx hb dX4_become_0 rfl (lv_at hl 0 rfl) ?_
  refine va_get (D := D) (ci := 4) (v := .ref (h 1)) (C := RX4) (T := TX4) (N := 8) hx hb hts iX4 hown hK hP 0 rfl rfl 0 (by decide) k14 (fun _ h9 => h9) rfl dX4_become_1 ?_
  refine lv_aload_n hx hb dX4_become_4 rfl (lv_at hl 1 rfl) ?_
  refine va_get (D := D) (ci := 4) (v := .ref (g 1)) (C := RX4) (T := TX4) (N := 8) hx hb hts iX4 hown hK hP 7 rfl rfl 0 (by decide) k14 (fun _ h9 => h9) rfl dX4_become_5 ?_
  have hPc := (hP.sub (ws' := (zRowRow cI (h 1) (h 2) (g 1) (g 2) 6 pl pl2)) [1, 2, 8, 9] rfl)
  have hDc := hD.sub (ws' := (zRowRow cI (h 1) (h 2) (g 1) (g 2) 6 pl pl2)) [1, 2, 8, 9] rfl rfl
  have hFc := va_free (wc := (zRowRow cI (h 1) (h 2) (g 1) (g 2) 6 pl pl2)) hD hS hA [1, 2, 8, 9] rfl
  refine va_callv (va_runV (As := [.ref (g 1)]) (rest := []) ⟨hx, hb, hml, hown, hts⟩ (c_X5_become l D cI (h 1) (h 2) (g 1) (g 2) 6 pl pl2 s.heap.size (by decide)) (cwV 1 hts gX4_become_X5_become rfl rfl rfl (by decide +kernel) ⟨Nat.le_of_ble_eq_true rfl, Nat.le_of_ble_eq_true rfl⟩) (vz_pvW (va_recv hK hP (ci := 5) (q0 := 1) rfl rfl) hZ hPc hDc) rfl rfl hl.1 rfl (lv_room (Nat.le_of_ble_eq_true rfl)) dX4_become_8 ⟨Nat.zero_le _, Nat.zero_le _⟩) hS (fun q _ h => hFc q h) hFc (fun u_8 t H_8 locs_8 ht hvm hw hB hz1 hk1 hS9 => ?_)
  rw [ht] at hB
  replace hP : va_P D vwCl (zPastPast cI h g (rw_cp pl2 pl 6) sk he nh ru bg la sd pl2 sk2 he2 nh2 ru2 bg2 la2 sd2) H_8 := vz_join (w1 := (zRowRow cI (h 1) (h 2) (g 1) (g 2) 6 (rw_cp pl2 pl 6) pl2)) hP hD [1, 2, 8, 9] rfl rfl hk1 hB
  replace hD : va_D A (zPastPast cI h g (rw_cp pl2 pl 6) sk he nh ru bg la sd pl2 sk2 he2 nh2 ru2 bg2 la2 sd2) := vz_same hD rfl
  replace hS := hS9
  clear hS9 hPc hDc hFc hB hk1 hz1
  refine lv_aload_n hx hb dX4_become_11 rfl (lv_at hl 0 rfl) ?_
  refine va_get (D := D) (ci := 4) (v := .ref (h 3)) (C := RX4) (T := TX4) (N := 8) hx hb hts iX4 hown hK hP 0 rfl rfl 1 (by decide) k20 (fun _ h9 => h9) rfl dX4_become_12 ?_
  refine lv_aload_n hx hb dX4_become_15 rfl (lv_at hl 1 rfl) ?_
  refine va_get (D := D) (ci := 4) (v := .ref (g 3)) (C := RX4) (T := TX4) (N := 8) hx hb hts iX4 hown hK hP 7 rfl rfl 1 (by decide) k20 (fun _ h9 => h9) rfl dX4_become_16 ?_
  have hPc := (hP.sub (ws' := (zRowRow cI (h 3) (h 4) (g 3) (g 4) 6 sk sk2)) [3, 4, 10, 11] rfl)
  have hDc := hD.sub (ws' := (zRowRow cI (h 3) (h 4) (g 3) (g 4) 6 sk sk2)) [3, 4, 10, 11] rfl rfl
  have hFc := va_free (wc := (zRowRow cI (h 3) (h 4) (g 3) (g 4) 6 sk sk2)) hD hS hA [3, 4, 10, 11] rfl
  refine va_callv (va_runV (As := [.ref (g 3)]) (rest := []) ⟨hx, hb, hml, hown, hts⟩ (c_X5_become l D cI (h 3) (h 4) (g 3) (g 4) 6 sk sk2 H_8.size (by decide)) (cwV 1 hts gX4_become_X5_become rfl rfl rfl (by decide +kernel) ⟨Nat.le_of_ble_eq_true rfl, Nat.le_of_ble_eq_true rfl⟩) (vz_pvW (va_recv hK hP (ci := 5) (q0 := 3) rfl rfl) hZ hPc hDc) rfl rfl hl.1 rfl (lv_room (Nat.le_of_ble_eq_true rfl)) dX4_become_19 ⟨Nat.zero_le _, Nat.zero_le _⟩) hS (fun q _ h => hFc q h) hFc (fun u_19 t H_19 locs_19 ht hvm hw hB hz1 hk1 hS9 => ?_)
  rw [ht] at hB
  replace hP : va_P D vwCl (zPastPast cI h g (rw_cp pl2 pl 6) (rw_cp sk2 sk 6) he nh ru bg la sd pl2 sk2 he2 nh2 ru2 bg2 la2 sd2) H_19 := vz_join (w1 := (zRowRow cI (h 3) (h 4) (g 3) (g 4) 6 (rw_cp sk2 sk 6) sk2)) hP hD [3, 4, 10, 11] rfl rfl hk1 hB
  replace hD : va_D A (zPastPast cI h g (rw_cp pl2 pl 6) (rw_cp sk2 sk 6) he nh ru bg la sd pl2 sk2 he2 nh2 ru2 bg2 la2 sd2) := vz_same hD rfl
  replace hS := hS9
  clear hS9 hPc hDc hFc hB hk1 hz1
  refine lv_aload_n hx hb dX4_become_22 rfl (lv_at hl 0 rfl) ?_
  refine va_get (D := D) (ci := 4) (v := .ref (h 5)) (C := RX4) (T := TX4) (N := 8) hx hb hts iX4 hown hK hP 0 rfl rfl 2 (by decide) k23 (fun _ h9 => h9) rfl dX4_become_23 ?_
  refine lv_aload_n hx hb dX4_become_26 rfl (lv_at hl 1 rfl) ?_
  refine va_get (D := D) (ci := 4) (v := .ref (g 5)) (C := RX4) (T := TX4) (N := 8) hx hb hts iX4 hown hK hP 7 rfl rfl 2 (by decide) k23 (fun _ h9 => h9) rfl dX4_become_27 ?_
  have hPc := (hP.sub (ws' := (zRowRow cI (h 5) (h 6) (g 5) (g 6) 8 he he2)) [5, 6, 12, 13] rfl)
  have hDc := hD.sub (ws' := (zRowRow cI (h 5) (h 6) (g 5) (g 6) 8 he he2)) [5, 6, 12, 13] rfl rfl
  have hFc := va_free (wc := (zRowRow cI (h 5) (h 6) (g 5) (g 6) 8 he he2)) hD hS hA [5, 6, 12, 13] rfl
  refine va_callv (va_runV (As := [.ref (g 5)]) (rest := []) ⟨hx, hb, hml, hown, hts⟩ (c_X5_become l D cI (h 5) (h 6) (g 5) (g 6) 8 he he2 H_19.size (by decide)) (cwV 1 hts gX4_become_X5_become rfl rfl rfl (by decide +kernel) ⟨Nat.le_of_ble_eq_true rfl, Nat.le_of_ble_eq_true rfl⟩) (vz_pvW (va_recv hK hP (ci := 5) (q0 := 5) rfl rfl) hZ hPc hDc) rfl rfl hl.1 rfl (lv_room (Nat.le_of_ble_eq_true rfl)) dX4_become_30 ⟨Nat.zero_le _, Nat.zero_le _⟩) hS (fun q _ h => hFc q h) hFc (fun u_30 t H_30 locs_30 ht hvm hw hB hz1 hk1 hS9 => ?_)
  rw [ht] at hB
  replace hP : va_P D vwCl (zPastPast cI h g (rw_cp pl2 pl 6) (rw_cp sk2 sk 6) (rw_cp he2 he 8) nh ru bg la sd pl2 sk2 he2 nh2 ru2 bg2 la2 sd2) H_30 := vz_join (w1 := (zRowRow cI (h 5) (h 6) (g 5) (g 6) 8 (rw_cp he2 he 8) he2)) hP hD [5, 6, 12, 13] rfl rfl hk1 hB
  replace hD : va_D A (zPastPast cI h g (rw_cp pl2 pl 6) (rw_cp sk2 sk 6) (rw_cp he2 he 8) nh ru bg la sd pl2 sk2 he2 nh2 ru2 bg2 la2 sd2) := vz_same hD rfl
  replace hS := hS9
  clear hS9 hPc hDc hFc hB hk1 hz1
  refine lv_aload_n hx hb dX4_become_33 rfl (lv_at hl 0 rfl) ?_
  refine lv_aload_n hx hb dX4_become_34 rfl (lv_at hl 1 rfl) ?_
  refine va_get (D := D) (ci := 4) (v := .int (nI nh2)) (C := RX4) (T := TX4) (N := 8) hx hb hts iX4 hown hK hP 7 rfl rfl 3 (by decide) k26 (fun _ h9 => h9) rfl dX4_become_35 ?_
  refine va_put (D := D) (ci := 4) (v := .int (nI nh2)) (ty := .int) (C := RX4) (T := TX4) (N := 8) hx hb hts iX4 tyX4 tyX4_ok nmX4 hown hK hP hD hS 0 rfl rfl 3 (by decide) k26 (fun _ h9 => h9) rfl (by decide +kernel) rfl rfl (Nat.le_of_ble_eq_true rfl) dX4_become_38 (fun H_38 locs_38 hP9 hD9 hS9 => ?_)
  replace hP : va_P D vwCl (zPastPast cI h g (rw_cp pl2 pl 6) (rw_cp sk2 sk 6) (rw_cp he2 he 8) nh2 ru bg la sd pl2 sk2 he2 nh2 ru2 bg2 la2 sd2) H_38 := hP9
  replace hD : va_D A (zPastPast cI h g (rw_cp pl2 pl 6) (rw_cp sk2 sk 6) (rw_cp he2 he 8) nh2 ru bg la sd pl2 sk2 he2 nh2 ru2 bg2 la2 sd2) := hD9
  replace hS := hS9
  clear hP9 hD9 hS9
  refine lv_aload_n hx hb dX4_become_41 rfl (lv_at hl 0 rfl) ?_
  refine lv_aload_n hx hb dX4_become_42 rfl (lv_at hl 1 rfl) ?_
  refine va_get (D := D) (ci := 4) (v := .int ru2) (C := RX4) (T := TX4) (N := 8) hx hb hts iX4 hown hK hP 7 rfl rfl 4 (by decide) k30 (fun _ h9 => h9) rfl dX4_become_43 ?_
  refine va_put (D := D) (ci := 4) (v := .int ru2) (ty := .int) (C := RX4) (T := TX4) (N := 8) hx hb hts iX4 tyX4 tyX4_ok nmX4 hown hK hP hD hS 0 rfl rfl 4 (by decide) k30 (fun _ h9 => h9) rfl (by decide +kernel) rfl rfl (Nat.le_of_ble_eq_true rfl) dX4_become_46 (fun H_46 locs_46 hP9 hD9 hS9 => ?_)
  replace hP : va_P D vwCl (zPastPast cI h g (rw_cp pl2 pl 6) (rw_cp sk2 sk 6) (rw_cp he2 he 8) nh2 ru2 bg la sd pl2 sk2 he2 nh2 ru2 bg2 la2 sd2) H_46 := hP9
  replace hD : va_D A (zPastPast cI h g (rw_cp pl2 pl 6) (rw_cp sk2 sk 6) (rw_cp he2 he 8) nh2 ru2 bg la sd pl2 sk2 he2 nh2 ru2 bg2 la2 sd2) := hD9
  replace hS := hS9
  clear hP9 hD9 hS9
  refine lv_aload_n hx hb dX4_become_49 rfl (lv_at hl 0 rfl) ?_
  refine lv_aload_n hx hb dX4_become_50 rfl (lv_at hl 1 rfl) ?_
  refine va_get (D := D) (ci := 4) (v := .int bg2) (C := RX4) (T := TX4) (N := 8) hx hb hts iX4 hown hK hP 7 rfl rfl 5 (by decide) k33 (fun _ h9 => h9) rfl dX4_become_51 ?_
  refine va_put (D := D) (ci := 4) (v := .int bg2) (ty := .int) (C := RX4) (T := TX4) (N := 8) hx hb hts iX4 tyX4 tyX4_ok nmX4 hown hK hP hD hS 0 rfl rfl 5 (by decide) k33 (fun _ h9 => h9) rfl (by decide +kernel) rfl rfl (Nat.le_of_ble_eq_true rfl) dX4_become_54 (fun H_54 locs_54 hP9 hD9 hS9 => ?_)
  replace hP : va_P D vwCl (zPastPast cI h g (rw_cp pl2 pl 6) (rw_cp sk2 sk 6) (rw_cp he2 he 8) nh2 ru2 bg2 la sd pl2 sk2 he2 nh2 ru2 bg2 la2 sd2) H_54 := hP9
  replace hD : va_D A (zPastPast cI h g (rw_cp pl2 pl 6) (rw_cp sk2 sk 6) (rw_cp he2 he 8) nh2 ru2 bg2 la sd pl2 sk2 he2 nh2 ru2 bg2 la2 sd2) := hD9
  replace hS := hS9
  clear hP9 hD9 hS9
  refine lv_aload_n hx hb dX4_become_57 rfl (lv_at hl 0 rfl) ?_
  refine lv_aload_n hx hb dX4_become_58 rfl (lv_at hl 1 rfl) ?_
  refine va_get (D := D) (ci := 4) (v := .int la2) (C := RX4) (T := TX4) (N := 8) hx hb hts iX4 hown hK hP 7 rfl rfl 6 (by decide) k36 (fun _ h9 => h9) rfl dX4_become_59 ?_
  refine va_put (D := D) (ci := 4) (v := .int la2) (ty := .int) (C := RX4) (T := TX4) (N := 8) hx hb hts iX4 tyX4 tyX4_ok nmX4 hown hK hP hD hS 0 rfl rfl 6 (by decide) k36 (fun _ h9 => h9) rfl (by decide +kernel) rfl rfl (Nat.le_of_ble_eq_true rfl) dX4_become_62 (fun H_62 locs_62 hP9 hD9 hS9 => ?_)
  replace hP : va_P D vwCl (zPastPast cI h g (rw_cp pl2 pl 6) (rw_cp sk2 sk 6) (rw_cp he2 he 8) nh2 ru2 bg2 la2 sd pl2 sk2 he2 nh2 ru2 bg2 la2 sd2) H_62 := hP9
  replace hD : va_D A (zPastPast cI h g (rw_cp pl2 pl 6) (rw_cp sk2 sk 6) (rw_cp he2 he 8) nh2 ru2 bg2 la2 sd pl2 sk2 he2 nh2 ru2 bg2 la2 sd2) := hD9
  replace hS := hS9
  clear hP9 hD9 hS9
  refine lv_aload_n hx hb dX4_become_65 rfl (lv_at hl 0 rfl) ?_
  refine lv_aload_n hx hb dX4_become_66 rfl (lv_at hl 1 rfl) ?_
  refine va_get (D := D) (ci := 4) (v := .int (vz_b sd2)) (C := RX4) (T := TX4) (N := 8) hx hb hts iX4 hown hK hP 7 rfl rfl 7 (by decide) k39 (fun _ h9 => h9) rfl dX4_become_67 ?_
  refine va_put (D := D) (ci := 4) (v := .int (vz_b sd2)) (ty := .boolean) (C := RX4) (T := TX4) (N := 8) hx hb hts iX4 tyX4 tyX4_ok nmX4 hown hK hP hD hS 0 rfl rfl 7 (by decide) k39 (fun _ h9 => h9) rfl (by decide +kernel) (vz_nb _) (vz_fb _) (Nat.le_of_ble_eq_true rfl) dX4_become_70 (fun H_70 locs_70 hP9 hD9 hS9 => ?_)
  replace hP : va_P D vwCl (zPastPast cI h g (rw_cp pl2 pl 6) (rw_cp sk2 sk 6) (rw_cp he2 he 8) nh2 ru2 bg2 la2 sd2 pl2 sk2 he2 nh2 ru2 bg2 la2 sd2) H_70 := hP9
  replace hD : va_D A (zPastPast cI h g (rw_cp pl2 pl 6) (rw_cp sk2 sk 6) (rw_cp he2 he 8) nh2 ru2 bg2 la2 sd2 pl2 sk2 he2 nh2 ru2 bg2 la2 sd2) := hD9
  replace hS := hS9
  clear hP9 hD9 hS9
  exact W.vret hx hb hr (fun t ht hW => ⟨⟨(), rfl, trivial, (by show va_P D vwCl (zPastPast cI h g (rw_cp pl2 pl 6) (rw_cp sk2 sk 6) (rw_cp he2 he 8) nh2 ru2 bg2 la2 sd2 pl2 sk2 he2 nh2 ru2 bg2 la2 sd2) t.heap; rw [ht]; exact hP)⟩, hS.F ht⟩) hS.2.2 dX4_become_73

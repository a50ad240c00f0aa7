abbrev zBook (cI : ClassId) (h : Nat → Nat) (nm : Nat) (ks : Nat → Int32) (gs : Nat → Int32) (wt : Nat → Int32) (mi : Nat → Int32) : va_W := [((h 0), .inr (0, [.ref (h 1), .ref (h 3), .ref (h 5), .ref (h 7), .int (nI nm)])), ((h 1), .inr (5, [.ref (h 2)])), ((h 2), .inl (cI, 6, .inl ks)), ((h 3), .inr (5, [.ref (h 4)])), ((h 4), .inl (cI, 6, .inl gs)), ((h 5), .inr (5, [.ref (h 6)])), ((h 6), .inl (cI, 6, .inl wt)), ((h 7), .inr (5, [.ref (h 8)])), ((h 8), .inl (cI, 6, .inl mi))]
set_option maxHeartbeats 4000000 in
set_option maxRecDepth 100000 in
theorem c_X6_holds (l : Launch) (p0 : Int32) (p1 : Int32) : Met l yX6_holds wsX6_holds ({ frames := 0, cells := 0, slots := 0, locals := 0 } : Room) (vz_st [.int p0, .int p1]) (vp_Si (fun r => r = vz_b (sa_holds p0 p1))) 0 0 (fun _ => False) := by
  refine Met.ofW (cc := cX6_holds) (maxL := 2) (ret := (some .boolean)) (by decide) rfl ?_
  intro p e s m args below meth c s₁ B hml hv
  obtain ⟨rfl, -⟩ := hv
  have hx := B.exec
  have hb := B.bytes
  have hr := B.returns
  have hts := atoms_spec (ws := wsX6_holds) B.pre
  have hown : s.vm.findClass RX6 = some m.cls := findClass_of_methodNamed B.named
  have hlocks := B.notSynchronized
  have hl := lv_entry ([.int p0, .int p1]) (n := 2) (Nat.le_of_ble_eq_true rfl)
  rw [lg_entry_eq]
  generalize (lg_sl ([.int p0, .int p1]) ++ List.replicate (2 - (lg_sl ([.int p0, .int p1])).length) Slot.unset).toArray = ls at hl ⊢
  have hl : lv_has ls 2 [(0, .int p0), (1, .int p1)] := hl
  refine lv_iload_n hx hb dX6_holds_0 rfl (lv_at hl 1 rfl) ?_
  refine lv_if_lt (tgt := 23) hx hb dX6_holds_1 (by decide) (fun c_1 => ?_) (fun c_1 => ?_)
  · skip
    refine lv_iconst (v := 0) hx hb dX6_holds_23 (by decide) ?_
    exact W.zret hx hb hr narrow_b0 (fun t ht hW => ⟨_, rfl, (by first | rfl | (simp only [sa_holds, vz_b, if_pos c_1]; done) | (simp only [sa_holds, vz_b, if_pos c_1]; rfl) | (simp only [sa_holds, vz_b, c_1, ↓reduceIte, Bool.false_eq_true, if_true, if_false, reduceCtorEq, not_true_eq_false, not_false_eq_true, eq_self]; done) | (simp only [sa_holds, vz_b, c_1, ↓reduceIte, Bool.false_eq_true, if_true, if_false, reduceCtorEq, not_true_eq_false, not_false_eq_true, eq_self]; rfl) | (simp [sa_holds, vz_b, c_1]; done)), ht⟩) (fun q h => absurd h List.not_mem_nil) dX6_holds_24
  · skip
    refine lv_iload_n hx hb dX6_holds_4 rfl (lv_at hl 1 rfl) ?_
    refine lv_bipush (v := 6) hx hb dX6_holds_5 (by decide) ?_
    refine lv_icmp_ge (tgt := 23) hx hb dX6_holds_7 (by decide) (fun c_7 => ?_) (fun c_7 => ?_)
    · skip
      refine lv_iconst (v := 0) hx hb dX6_holds_23 (by decide) ?_
      exact W.zret hx hb hr narrow_b0 (fun t ht hW => ⟨_, rfl, (by first | rfl | (simp only [sa_holds, vz_b, if_neg c_1, if_pos c_7]; done) | (simp only [sa_holds, vz_b, if_neg c_1, if_pos c_7]; rfl) | (simp only [sa_holds, vz_b, c_1, c_7, ↓reduceIte, Bool.false_eq_true, if_true, if_false, reduceCtorEq, not_true_eq_false, not_false_eq_true, eq_self]; done) | (simp only [sa_holds, vz_b, c_1, c_7, ↓reduceIte, Bool.false_eq_true, if_true, if_false, reduceCtorEq, not_true_eq_false, not_false_eq_true, eq_self]; rfl) | (simp [sa_holds, vz_b, c_1, c_7]; done)), ht⟩) (fun q h => absurd h List.not_mem_nil) dX6_holds_24
    · skip
      refine lv_iload_n hx hb dX6_holds_10 rfl (lv_at hl 0 rfl) ?_
      refine lv_iload_n hx hb dX6_holds_11 rfl (lv_at hl 1 rfl) ?_
      refine lv_ishr hx hb dX6_holds_12 ?_
      refine lv_iconst (v := 1) hx hb dX6_holds_13 (by decide) ?_
      refine lv_iand hx hb dX6_holds_14 ?_
      refine lv_iconst (v := 1) hx hb dX6_holds_15 (by decide) ?_
      refine lv_icmp_ne (tgt := 23) hx hb dX6_holds_16 (by decide) (fun c_16 => ?_) (fun c_16 => ?_)
      · skip
        refine lv_iconst (v := 0) hx hb dX6_holds_23 (by decide) ?_
        exact W.zret hx hb hr narrow_b0 (fun t ht hW => ⟨_, rfl, (by first | rfl | (simp only [sa_holds, vz_b, if_neg c_1, if_neg c_7, if_neg c_16]; done) | (simp only [sa_holds, vz_b, if_neg c_1, if_neg c_7, if_neg c_16]; rfl) | (simp only [sa_holds, vz_b, c_1, c_7, c_16, ↓reduceIte, Bool.false_eq_true, if_true, if_false, reduceCtorEq, not_true_eq_false, not_false_eq_true, eq_self]; done) | (simp only [sa_holds, vz_b, c_1, c_7, c_16, ↓reduceIte, Bool.false_eq_true, if_true, if_false, reduceCtorEq, not_true_eq_false, not_false_eq_true, eq_self]; rfl) | (simp [sa_holds, vz_b, c_1, c_7, c_16]; done)), ht⟩) (fun q h => absurd h List.not_mem_nil) dX6_holds_24
      · skip
        refine lv_iconst (v := 1) hx hb dX6_holds_19 (by decide) ?_
        refine lv_goto (tgt := 24) hx hb dX6_holds_20 (by decide) ?_
        exact W.zret hx hb hr narrow_b1 (fun t ht hW => ⟨_, rfl, (by first | rfl | (simp only [sa_holds, vz_b, if_neg c_1, if_neg c_7, if_pos c_16]; done) | (simp only [sa_holds, vz_b, if_neg c_1, if_neg c_7, if_pos c_16]; rfl) | (simp only [sa_holds, vz_b, c_1, c_7, c_16, ↓reduceIte, Bool.false_eq_true, if_true, if_false, reduceCtorEq, not_true_eq_false, not_false_eq_true, eq_self]; done) | (simp only [sa_holds, vz_b, c_1, c_7, c_16, ↓reduceIte, Bool.false_eq_true, if_true, if_false, reduceCtorEq, not_true_eq_false, not_false_eq_true, eq_self]; rfl) | (simp [sa_holds, vz_b, c_1, c_7, c_16]; done)), ht⟩) (fun q h => absurd h List.not_mem_nil) dX6_holds_24
set_option maxHeartbeats 4000000 in
set_option maxRecDepth 100000 in
theorem c_X0_has (l : Launch) (D : va_G) (cI : ClassId) (h : Nat → Nat) (nm : Nat) (ks : Nat → Int32) (gs : Nat → Int32) (wt : Nat → Int32) (mi : Nat → Int32) (p0 : Int32) : Met l yX0_has wsX0_has ({ frames := 0, cells := 0, slots := 0, locals := 0 } : Room) (vz_ro D cI (zBook cI h nm ks gs wt mi) [.ref (h 0), .int p0]) (vp_Si (fun r => r = vz_b (bk_has nm p0))) 0 0 (fun _ => False) := by
  refine Met.ofW (cc := cX0_has) (maxL := 2) (ret := (some .boolean)) (by decide) rfl ?_
  intro p e s m args below meth c s₁ B hml hv
  obtain ⟨rfl, hP, hZ⟩ := hv
  obtain ⟨hK, hN⟩ := id hZ
  have hx := B.exec
  have hb := B.bytes
  have hr := B.returns
  have hts := atoms_spec (ws := wsX0_has) B.pre
  have hown : s.vm.findClass RX0 = some m.cls := findClass_of_methodNamed B.named
  have hlocks := B.notSynchronized
  have k29 := hts (.fieldLink RX0 29 "SongsAgain$Book" "number" "I") (List.mem_of_getElem? (i := 1) rfl)
  have iX0 : ∀ w ∈ u_ws RX0 TX0 5, w ∈ wsX0_has := vz_in (i := 2) (n := 5) rfl
  have hl := lv_entry ([.ref (h 0), .int p0]) (n := 2) (Nat.le_of_ble_eq_true rfl)
  rw [lg_entry_eq]
  generalize (lg_sl ([.ref (h 0), .int p0]) ++ List.replicate (2 - (lg_sl ([.ref (h 0), .int p0])).length) Slot.unset).toArray = ls at hl ⊢
  have hl : lv_has ls 2 [(0, .ref (h 0)), (1, .int p0)] := hl
  refine lv_iload_n hx hb dX0_has_0 rfl (lv_at hl 1 rfl) ?_
  refine lv_if_lt (tgt := 16) hx hb dX0_has_1 (by decide) (fun c_1 => ?_) (fun c_1 => ?_)
  · skip
    refine lv_iconst (v := 0) hx hb dX0_has_16 (by decide) ?_
    exact W.zret hx hb hr narrow_b0 (fun t ht hW => ⟨_, rfl, (by first | rfl | (simp only [bk_has, vz_b, if_pos c_1]; done) | (simp only [bk_has, vz_b, if_pos c_1]; rfl) | (simp only [bk_has, vz_b, c_1, ↓reduceIte, Bool.false_eq_true, if_true, if_false, reduceCtorEq, not_true_eq_false, not_false_eq_true, eq_self]; done) | (simp only [bk_has, vz_b, c_1, ↓reduceIte, Bool.false_eq_true, if_true, if_false, reduceCtorEq, not_true_eq_false, not_false_eq_true, eq_self]; rfl) | (simp [bk_has, vz_b, c_1]; done)), ht⟩) (fun q h => absurd h List.not_mem_nil) dX0_has_17
  · skip
    refine lv_iload_n hx hb dX0_has_4 rfl (lv_at hl 1 rfl) ?_
    refine lv_aload_n hx hb dX0_has_5 rfl (lv_at hl 0 rfl) ?_
    refine va_get (D := D) (ci := 0) (v := .int (nI nm)) (C := RX0) (T := TX0) (N := 5) hx hb hts iX0 hown hK hP 0 rfl rfl 4 (by decide) k29 (fun _ h9 => h9) rfl dX0_has_6 ?_
    refine lv_icmp_ge (tgt := 16) hx hb dX0_has_9 (by decide) (fun c_9 => ?_) (fun c_9 => ?_)
    · skip
      refine lv_iconst (v := 0) hx hb dX0_has_16 (by decide) ?_
      exact W.zret hx hb hr narrow_b0 (fun t ht hW => ⟨_, rfl, (by first | rfl | (simp only [bk_has, vz_b, if_neg c_1, if_pos c_9]; done) | (simp only [bk_has, vz_b, if_neg c_1, if_pos c_9]; rfl) | (simp only [bk_has, vz_b, c_1, c_9, ↓reduceIte, Bool.false_eq_true, if_true, if_false, reduceCtorEq, not_true_eq_false, not_false_eq_true, eq_self]; done) | (simp only [bk_has, vz_b, c_1, c_9, ↓reduceIte, Bool.false_eq_true, if_true, if_false, reduceCtorEq, not_true_eq_false, not_false_eq_true, eq_self]; rfl) | (simp [bk_has, vz_b, c_1, c_9]; done)), ht⟩) (fun q h => absurd h List.not_mem_nil) dX0_has_17
    · skip
      refine lv_iconst (v := 1) hx hb dX0_has_12 (by decide) ?_
      refine lv_goto (tgt := 17) hx hb dX0_has_13 (by decide) ?_
      exact W.zret hx hb hr narrow_b1 (fun t ht hW => ⟨_, rfl, (by first | rfl | (simp only [bk_has, vz_b, if_neg c_1, if_neg c_9]; done) | (simp only [bk_has, vz_b, if_neg c_1, if_neg c_9]; rfl) | (simp only [bk_has, vz_b, c_1, c_9, ↓reduceIte, Bool.false_eq_true, if_true, if_false, reduceCtorEq, not_true_eq_false, not_false_eq_true, eq_self]; done) | (simp only [bk_has, vz_b, c_1, c_9, ↓reduceIte, Bool.false_eq_true, if_true, if_false, reduceCtorEq, not_true_eq_false, not_false_eq_true, eq_self]; rfl) | (simp [bk_has, vz_b, c_1, c_9]; done)), ht⟩) (fun q h => absurd h List.not_mem_nil) dX0_has_17
set_option maxHeartbeats 4000000 in
set_option maxRecDepth 100000 in
theorem c_X0_all (l : Launch) (D : va_G) (cI : ClassId) (h : Nat → Nat) (nm : Nat) (ks : Nat → Int32) (gs : Nat → Int32) (wt : Nat → Int32) (mi : Nat → Int32) : Met l yX0_all wsX0_all ({ frames := 0, cells := 0, slots := 0, locals := 0 } : Room) (vz_ro D cI (zBook cI h nm ks gs wt mi) [.ref (h 0)]) (vp_Si (fun r => r = bk_all nm)) 0 0 (fun _ => False) := by
  refine Met.ofW (cc := cX0_all) (maxL := 1) (ret := (some .int)) (by decide) rfl ?_
  intro p e s m args below meth c s₁ B hml hv
  obtain ⟨rfl, hP, hZ⟩ := hv
  obtain ⟨hK, hN⟩ := id hZ
  have hx := B.exec
  have hb := B.bytes
  have hr := B.returns
  have hts := atoms_spec (ws := wsX0_all) B.pre
  have hown : s.vm.findClass RX0 = some m.cls := findClass_of_methodNamed B.named
  have hlocks := B.notSynchronized
  have k29 := hts (.fieldLink RX0 29 "SongsAgain$Book" "number" "I") (List.mem_of_getElem? (i := 1) rfl)
  have iX0 : ∀ w ∈ u_ws RX0 TX0 5, w ∈ wsX0_all := vz_in (i := 2) (n := 5) rfl
  have hl := lv_entry ([.ref (h 0)]) (n := 1) (Nat.le_of_ble_eq_true rfl)
  rw [lg_entry_eq]
  generalize (lg_sl ([.ref (h 0)]) ++ List.replicate (1 - (lg_sl ([.ref (h 0)])).length) Slot.unset).toArray = ls at hl ⊢
  have hl : lv_has ls 1 [(0, .ref (h 0))] := hl
  refine lv_iconst (v := 1) hx hb dX0_all_0 (by decide) ?_
  refine lv_aload_n hx hb dX0_all_1 rfl (lv_at hl 0 rfl) ?_
  refine va_get (D := D) (ci := 0) (v := .int (nI nm)) (C := RX0) (T := TX0) (N := 5) hx hb hts iX0 hown hK hP 0 rfl rfl 4 (by decide) k29 (fun _ h9 => h9) rfl dX0_all_2 ?_
  refine lv_ishl hx hb dX0_all_5 ?_
  refine lv_iconst (v := 1) hx hb dX0_all_6 (by decide) ?_
  refine lv_isub hx hb dX0_all_7 ?_
  exact W.iret hx hb hr (fun t ht hW => ⟨_, rfl, (by first | rfl | (simp only [bk_all]; done) | (simp only [bk_all]; rfl) | (simp only [bk_all, ↓reduceIte, Bool.false_eq_true, if_true, if_false, reduceCtorEq, not_true_eq_false, not_false_eq_true, eq_self]; done) | (simp only [bk_all, ↓reduceIte, Bool.false_eq_true, if_true, if_false, reduceCtorEq, not_true_eq_false, not_false_eq_true, eq_self]; rfl) | (simp [bk_all]; done)), ht⟩) (fun q h => absurd h List.not_mem_nil) dX0_all_8
set_option maxHeartbeats 4000000 in
set_option maxRecDepth 100000 in
theorem c_X0_isOfKind (l : Launch) (D : va_G) (cI : ClassId) (h : Nat → Nat) (nm : Nat) (ks : Nat → Int32) (gs : Nat → Int32) (wt : Nat → Int32) (mi : Nat → Int32) (p0 : Int32) (p1 : Int32) : Met l yX0_isOfKind wsX0_isOfKind ({ frames := 1, cells := 0, slots := 0, locals := 21 } : Room) (vz_ro D cI (zBook cI h nm ks gs wt mi) [.ref (h 0), .int p0, .int p1]) (vp_Si (fun r => r = vz_b (bk_is ks p0 p1))) 0 0 (fun _ => False) := by
  refine Met.ofW (cc := cX0_isOfKind) (maxL := 4) (ret := (some .boolean)) (by decide) rfl ?_
  intro p e s m args below meth c s₁ B hml hv
  obtain ⟨rfl, hP, hZ⟩ := hv
  obtain ⟨hK, hN⟩ := id hZ
  have hx := B.exec
  have hb := B.bytes
  have hr := B.returns
  have hts := atoms_spec (ws := wsX0_isOfKind) B.pre
  have hown : s.vm.findClass RX0 = some m.cls := findClass_of_methodNamed B.named
  have hlocks := B.notSynchronized
  have k14 := hts (.fieldLink RX0 14 "SongsAgain$Book" "kinds" "LSongsAgain$Row;") (List.mem_of_getElem? (i := 1) rfl)
  have iX0 : ∀ w ∈ u_ws RX0 TX0 5, w ∈ wsX0_isOfKind := vz_in (i := 8) (n := 5) rfl
  have hl := lv_entry ([.ref (h 0), .int p0, .int p1]) (n := 4) (Nat.le_of_ble_eq_true rfl)
  rw [lg_entry_eq]
  generalize (lg_sl ([.ref (h 0), .int p0, .int p1]) ++ List.replicate (4 - (lg_sl ([.ref (h 0), .int p0, .int p1])).length) Slot.unset).toArray = ls at hl ⊢
  have hl : lv_has ls 4 [(0, .ref (h 0)), (1, .int p0), (2, .int p1)] := hl
  refine lv_aload_n hx hb dX0_isOfKind_0 rfl (lv_at hl 0 rfl) ?_
  refine va_get (D := D) (ci := 0) (v := .ref (h 1)) (C := RX0) (T := TX0) (N := 5) hx hb hts iX0 hown hK hP 0 rfl rfl 0 (by decide) k14 (fun _ h9 => h9) rfl dX0_isOfKind_1 ?_
  refine lv_iload_n hx hb dX0_isOfKind_4 rfl (lv_at hl 1 rfl) ?_
  refine vp_callSi (W.runV (As := [.int p0]) (rest := []) ⟨hx, hb, hml, hown, hts⟩ (c_X5_at l D cI (h 1) (h 2) 6 ks p0 (by decide)) (cwV 1 hts gX0_isOfKind_X5_at rfl rfl rfl (by decide +kernel) ⟨Nat.le_of_ble_eq_true rfl, Nat.le_of_ble_eq_true rfl⟩) (vz_pvR (va_recv hK hP (ci := 5) (q0 := 1) rfl rfl) hZ (hP.sub (ws' := (zRow cI (h 1) (h 2) 6 ks)) [1, 2] rfl)) rfl rfl hl.1 rfl (lv_room (Nat.le_of_ble_eq_true rfl)) dX0_isOfKind_5 ⟨Nat.zero_le _, Nat.zero_le _⟩) (fun r_5 hr_5 => ?_)
  subst hr_5
  refine lv_istore_n (lv' := [(3, .int (rw_at 6 ks p0)), (0, .ref (h 0)), (1, .int p0), (2, .int p1)]) hx hb dX0_isOfKind_8 rfl hl (by decide) rfl (fun ls hl => ?_)
  refine lv_iload_n hx hb dX0_isOfKind_9 rfl (lv_at hl 3 rfl) ?_
  refine lv_iload_n hx hb dX0_isOfKind_10 rfl (lv_at hl 0 rfl) ?_
  refine lv_icmp_eq (tgt := 28) hx hb dX0_isOfKind_11 (by decide) (fun c_11 => ?_) (fun c_11 => ?_)
  · skip
    refine lv_iconst (v := 1) hx hb dX0_isOfKind_28 (by decide) ?_
    refine lv_goto (tgt := 33) hx hb dX0_isOfKind_29 (by decide) ?_
    exact W.zret hx hb hr narrow_b1 (fun t ht hW => ⟨_, rfl, (by first | rfl | (simp only [bk_is, vz_b, if_pos c_11]; done) | (simp only [bk_is, vz_b, if_pos c_11]; rfl) | (simp only [bk_is, vz_b, c_11, ↓reduceIte, Bool.false_eq_true, if_true, if_false, reduceCtorEq, not_true_eq_false, not_false_eq_true, eq_self]; done) | (simp only [bk_is, vz_b, c_11, ↓reduceIte, Bool.false_eq_true, if_true, if_false, reduceCtorEq, not_true_eq_false, not_false_eq_true, eq_self]; rfl) | (simp [bk_is, vz_b, c_11]; done)), ht⟩) (fun q h => absurd h List.not_mem_nil) dX0_isOfKind_33
  · skip
    refine lv_iload_n hx hb dX0_isOfKind_14 rfl (lv_at hl 3 rfl) ?_
    refine lv_if_eq (tgt := 28) hx hb dX0_isOfKind_15 (by decide) (fun c_15 => ?_) (fun c_15 => ?_)
    · skip
      refine lv_iconst (v := 1) hx hb dX0_isOfKind_28 (by decide) ?_
      refine lv_goto (tgt := 33) hx hb dX0_isOfKind_29 (by decide) ?_
      exact W.zret hx hb hr narrow_b1 (fun t ht hW => ⟨_, rfl, (by first | rfl | (simp only [bk_is, vz_b, if_neg c_11, if_pos c_15]; done) | (simp only [bk_is, vz_b, if_neg c_11, if_pos c_15]; rfl) | (simp only [bk_is, vz_b, c_11, c_15, ↓reduceIte, Bool.false_eq_true, if_true, if_false, reduceCtorEq, not_true_eq_false, not_false_eq_true, eq_self]; done) | (simp only [bk_is, vz_b, c_11, c_15, ↓reduceIte, Bool.false_eq_true, if_true, if_false, reduceCtorEq, not_true_eq_false, not_false_eq_true, eq_self]; rfl) | (simp [bk_is, vz_b, c_11, c_15]; done)), ht⟩) (fun q h => absurd h List.not_mem_nil) dX0_isOfKind_33
    · skip
      refine lv_iload_n hx hb dX0_isOfKind_18 rfl (lv_at hl 3 rfl) ?_
      refine lv_iconst (v := 2) hx hb dX0_isOfKind_19 (by decide) ?_
      refine lv_icmp_ne (tgt := 32) hx hb dX0_isOfKind_20 (by decide) (fun c_20 => ?_) (fun c_20 => ?_)
      · skip
        refine lv_iconst (v := 0) hx hb dX0_isOfKind_32 (by decide) ?_
        exact W.zret hx hb hr narrow_b0 (fun t ht hW => ⟨_, rfl, (by first | rfl | (simp only [bk_is, vz_b, if_neg c_11, if_neg c_15, if_neg c_20]; done) | (simp only [bk_is, vz_b, if_neg c_11, if_neg c_15, if_neg c_20]; rfl) | (simp only [bk_is, vz_b, c_11, c_15, c_20, ↓reduceIte, Bool.false_eq_true, if_true, if_false, reduceCtorEq, not_true_eq_false, not_false_eq_true, eq_self]; done) | (simp only [bk_is, vz_b, c_11, c_15, c_20, ↓reduceIte, Bool.false_eq_true, if_true, if_false, reduceCtorEq, not_true_eq_false, not_false_eq_true, eq_self]; rfl) | (simp [bk_is, vz_b, c_11, c_15, c_20]; done)), ht⟩) (fun q h => absurd h List.not_mem_nil) dX0_isOfKind_33
      · skip
        refine lv_iload_n hx hb dX0_isOfKind_23 rfl (lv_at hl 0 rfl) ?_
        refine lv_iconst (v := 4) hx hb dX0_isOfKind_24 (by decide) ?_
        refine lv_icmp_ne (tgt := 32) hx hb dX0_isOfKind_25 (by decide) (fun c_25 => ?_) (fun c_25 => ?_)
        · skip
          refine lv_iconst (v := 0) hx hb dX0_isOfKind_32 (by decide) ?_
          exact W.zret hx hb hr narrow_b0 (fun t ht hW => ⟨_, rfl, (by first | rfl | (simp only [bk_is, vz_b, if_neg c_11, if_neg c_15, if_pos c_20, if_neg c_25]; done) | (simp only [bk_is, vz_b, if_neg c_11, if_neg c_15, if_pos c_20, if_neg c_25]; rfl) | (simp only [bk_is, vz_b, c_11, c_15, c_20, c_25, ↓reduceIte, Bool.false_eq_true, if_true, if_false, reduceCtorEq, not_true_eq_false, not_false_eq_true, eq_self]; done) | (simp only [bk_is, vz_b, c_11, c_15, c_20, c_25, ↓reduceIte, Bool.false_eq_true, if_true, if_false, reduceCtorEq, not_true_eq_false, not_false_eq_true, eq_self]; rfl) | (simp [bk_is, vz_b, c_11, c_15, c_20, c_25]; done)), ht⟩) (fun q h => absurd h List.not_mem_nil) dX0_isOfKind_33
        · skip
          refine lv_iconst (v := 1) hx hb dX0_isOfKind_28 (by decide) ?_
          refine lv_goto (tgt := 33) hx hb dX0_isOfKind_29 (by decide) ?_
          exact W.zret hx hb hr narrow_b1 (fun t ht hW => ⟨_, rfl, (by first | rfl | (simp only [bk_is, vz_b, if_neg c_11, if_neg c_15, if_pos c_20, if_pos c_25]; done) | (simp only [bk_is, vz_b, if_neg c_11, if_neg c_15, if_pos c_20, if_pos c_25]; rfl) | (simp only [bk_is, vz_b, c_11, c_15, c_20, c_25, ↓reduceIte, Bool.false_eq_true, if_true, if_false, reduceCtorEq, not_true_eq_false, not_false_eq_true, eq_self]; done) | (simp only [bk_is, vz_b, c_11, c_15, c_20, c_25, ↓reduceIte, Bool.false_eq_true, if_true, if_false, reduceCtorEq, not_true_eq_false, not_false_eq_true, eq_self]; rfl) | (simp [bk_is, vz_b, c_11, c_15, c_20, c_25]; done)), ht⟩) (fun q h => absurd h List.not_mem_nil) dX0_isOfKind_33
set_option maxHeartbeats 4000000 in
set_option maxRecDepth 100000 in
theorem c_X0_weightOf (l : Launch) (p0 : Int32) : Met l yX0_weightOf wsX0_weightOf ({ frames := 0, cells := 0, slots := 0, locals := 0 } : Room) (vz_st [.int p0]) (vp_Si (fun r => r = bk_wof p0)) 0 0 (fun _ => False) := by
  refine Met.ofW (cc := cX0_weightOf) (maxL := 1) (ret := (some .int)) (by decide) rfl ?_
  intro p e s m args below meth c s₁ B hml hv
  obtain ⟨rfl, -⟩ := hv
  have hx := B.exec
  have hb := B.bytes
  have hr := B.returns
  have hts := atoms_spec (ws := wsX0_weightOf) B.pre
  have hown : s.vm.findClass RX0 = some m.cls := findClass_of_methodNamed B.named
  have hlocks := B.notSynchronized
  have hl := lv_entry ([.int p0]) (n := 1) (Nat.le_of_ble_eq_true rfl)
  rw [lg_entry_eq]
  generalize (lg_sl ([.int p0]) ++ List.replicate (1 - (lg_sl ([.int p0])).length) Slot.unset).toArray = ls at hl ⊢
  have hl : lv_has ls 1 [(0, .int p0)] := hl
  refine lv_iload_n hx hb dX0_weightOf_0 rfl (lv_at hl 0 rfl) ?_
  by_cases c_1_2 : p0 = 2
  · skip
    refine lv_lookup (tgt := 28) (off := 27) hx hb dX0_weightOf_1 (by decide) (by rw [c_1_2]; decide) (by decide) ?_
    refine lv_iconst (v := 2) hx hb dX0_weightOf_28 (by decide) ?_
    exact W.iret hx hb hr (fun t ht hW => ⟨_, rfl, (by first | rfl | (simp only [bk_wof, if_pos c_1_2]; done) | (simp only [bk_wof, if_pos c_1_2]; rfl) | (simp only [bk_wof, c_1_2, ↓reduceIte, Bool.false_eq_true, if_true, if_false, reduceCtorEq, not_true_eq_false, not_false_eq_true, eq_self]; done) | (simp only [bk_wof, c_1_2, ↓reduceIte, Bool.false_eq_true, if_true, if_false, reduceCtorEq, not_true_eq_false, not_false_eq_true, eq_self]; rfl) | (simp [bk_wof, c_1_2]; done)), ht⟩) (fun q h => absurd h List.not_mem_nil) dX0_weightOf_29
  · skip
    by_cases c_1_4 : p0 = 4
    · skip
      refine lv_lookup (tgt := 30) (off := 29) hx hb dX0_weightOf_1 (by decide) (by rw [c_1_4]; decide) (by decide) ?_
      refine lv_iconst (v := 3) hx hb dX0_weightOf_30 (by decide) ?_
      exact W.iret hx hb hr (fun t ht hW => ⟨_, rfl, (by first | rfl | (simp only [bk_wof, if_neg c_1_2, if_pos c_1_4]; done) | (simp only [bk_wof, if_neg c_1_2, if_pos c_1_4]; rfl) | (simp only [bk_wof, c_1_2, c_1_4, ↓reduceIte, Bool.false_eq_true, if_true, if_false, reduceCtorEq, not_true_eq_false, not_false_eq_true, eq_self]; done) | (simp only [bk_wof, c_1_2, c_1_4, ↓reduceIte, Bool.false_eq_true, if_true, if_false, reduceCtorEq, not_true_eq_false, not_false_eq_true, eq_self]; rfl) | (simp [bk_wof, c_1_2, c_1_4]; done)), ht⟩) (fun q h => absurd h List.not_mem_nil) dX0_weightOf_31
    · skip
      refine lv_lookup (tgt := 32) (off := 31) hx hb dX0_weightOf_1 (by decide) (vz_look2 (vz_neI c_1_2 (by decide)) (vz_neI c_1_4 (by decide))) (by decide) ?_
      refine lv_iconst (v := 1) hx hb dX0_weightOf_32 (by decide) ?_
      exact W.iret hx hb hr (fun t ht hW => ⟨_, rfl, (by first | rfl | (simp only [bk_wof, if_neg c_1_2, if_neg c_1_4]; done) | (simp only [bk_wof, if_neg c_1_2, if_neg c_1_4]; rfl) | (simp only [bk_wof, c_1_2, c_1_4, ↓reduceIte, Bool.false_eq_true, if_true, if_false, reduceCtorEq, not_true_eq_false, not_false_eq_true, eq_self]; done) | (simp only [bk_wof, c_1_2, c_1_4, ↓reduceIte, Bool.false_eq_true, if_true, if_false, reduceCtorEq, not_true_eq_false, not_false_eq_true, eq_self]; rfl) | (simp [bk_wof, c_1_2, c_1_4]; done)), ht⟩) (fun q h => absurd h List.not_mem_nil) dX0_weightOf_33
set_option maxHeartbeats 4000000 in
set_option maxRecDepth 100000 in
theorem c_X0_weightTogether (l : Launch) (D : va_G) (cI : ClassId) (h : Nat → Nat) (nm : Nat) (ks : Nat → Int32) (gs : Nat → Int32) (wt : Nat → Int32) (mi : Nat → Int32) (p0 : Int32) (hnm : nm ≤ 6) : Met l yX0_weightTogether wsX0_weightTogether ({ frames := 1, cells := 0, slots := 0, locals := 21 } : Room) (vz_ro D cI (zBook cI h nm ks gs wt mi) [.ref (h 0), .int p0]) (vp_Si (fun r => r = bk_wt wt p0 nm)) 0 0 (fun _ => False) := by
  refine Met.ofW (cc := cX0_weightTogether) (maxL := 4) (ret := (some .int)) (by decide) rfl ?_
  intro p e s m args below meth c s₁ B hml hv
  obtain ⟨rfl, hP, hZ⟩ := hv
  obtain ⟨hK, hN⟩ := id hZ
  have hx := B.exec
  have hb := B.bytes
  have hr := B.returns
  have hts := atoms_spec (ws := wsX0_weightTogether) B.pre
  have hown : s.vm.findClass RX0 = some m.cls := findClass_of_methodNamed B.named
  have hlocks := B.notSynchronized
  have k23 := hts (.fieldLink RX0 23 "SongsAgain$Book" "weights" "LSongsAgain$Row;") (List.mem_of_getElem? (i := 2) rfl)
  have k29 := hts (.fieldLink RX0 29 "SongsAgain$Book" "number" "I") (List.mem_of_getElem? (i := 1) rfl)
  have iX0 : ∀ w ∈ u_ws RX0 TX0 5, w ∈ wsX0_weightTogether := vz_in (i := 12) (n := 5) rfl
  have hl := lv_entry ([.ref (h 0), .int p0]) (n := 4) (Nat.le_of_ble_eq_true rfl)
  rw [lg_entry_eq]
  generalize (lg_sl ([.ref (h 0), .int p0]) ++ List.replicate (4 - (lg_sl ([.ref (h 0), .int p0])).length) Slot.unset).toArray = ls at hl ⊢
  have hl : lv_has ls 4 [(0, .ref (h 0)), (1, .int p0)] := hl
  refine lv_iconst (v := 0) hx hb dX0_weightTogether_0 (by decide) ?_
  refine lv_istore_n (lv' := [(2, .int 0), (0, .ref (h 0)), (1, .int p0)]) hx hb dX0_weightTogether_1 rfl hl (by decide) rfl (fun ls hl => ?_)
  refine lv_iconst (v := 0) hx hb dX0_weightTogether_2 (by decide) ?_
  refine lv_istore_n (lv' := [(3, .int 0), (2, .int 0), (0, .ref (h 0)), (1, .int p0)]) hx hb dX0_weightTogether_3 rfl hl (by decide) rfl (fun ls hl => ?_)
  have L_4 : ∀ (d_4 : Nat) (j : Nat) (acc : Int32), nm - j < d_4 → (j ≤ nm) → (acc = bk_wt wt p0 j) → ∀ (ls : Array Slot), lv_has ls 4 [(3, .int (nI j)), (2, .int acc), (0, .ref (h 0)), (1, .int p0)] → W p l e ({ frames := 1, cells := 0, slots := 0, locals := 21 } : Room) s m ([.ref (h 0), .int p0] : List Value).toArray below meth c s.heap [] 0 0 (MQ below (vp_Si (fun r => r = bk_wt wt p0 nm)) ([.ref (h 0), .int p0] : List Value).toArray s 0 0 (fun _ => False)) (F0 m 4 ls []) := by
    intro d_4
    induction d_4 with
    | zero => intro j acc hd; exact absurd hd (Nat.not_lt_zero _)
    | succ d_4 ih_4 =>
      intro j acc hd_4 hj hacc ls hl
      refine lv_iload_n hx hb dX0_weightTogether_4 rfl (lv_at hl 0 rfl) ?_
      refine lv_aload_n hx hb dX0_weightTogether_5 rfl (lv_at hl 2 rfl) ?_
      refine va_get (D := D) (ci := 0) (v := .int (nI nm)) (C := RX0) (T := TX0) (N := 5) hx hb hts iX0 hown hK hP 0 rfl rfl 4 (by decide) k29 (fun _ h9 => h9) rfl dX0_weightTogether_6 ?_
      refine lv_icmp_ge (tgt := 41) hx hb dX0_weightTogether_9 (by decide) (fun c_9 => ?_) (fun c_9 => ?_)
      · skip
        have hje : j = nm := Nat.le_antisymm hj (vz_ge c_9 (by omega) (by omega))
        refine lv_iload_n hx hb dX0_weightTogether_41 rfl (lv_at hl 1 rfl) ?_
        exact W.iret hx hb hr (fun t ht hW => ⟨_, rfl, (by rw [hacc, hje]), ht⟩) (fun q h => absurd h List.not_mem_nil) dX0_weightTogether_42
      · skip
        have hlt : j < nm := vz_lt c_9 (by omega)
        refine lv_iload_n hx hb dX0_weightTogether_12 rfl (lv_at hl 1 rfl) ?_
        refine lv_iload_n hx hb dX0_weightTogether_13 rfl (lv_at hl 3 rfl) ?_
        refine lv_iload_n hx hb dX0_weightTogether_14 rfl (lv_at hl 0 rfl) ?_
        refine vp_callSi (vz_cr <| va_runSN (As := [.int p0, .int (nI j)]) (rest := [.int acc]) ⟨hx, hb, hml, hown, hts⟩ (c_X6_holds l p0 (nI j)) (⟨va_cnB 2 hts gX0_weightTogether_X6_holds_n56 rfl rfl rfl (hN.2 ("SongsAgain$Book", 56, ⟨"SongsAgain", "holds", "(II)Z"⟩) (List.mem_of_getElem? (i := 6) rfl)) (hts (.initialized RX6) (List.mem_of_getElem? (i := 4) rfl)) (by decide +kernel) ⟨Nat.le_of_ble_eq_true rfl, Nat.le_of_ble_eq_true rfl⟩, hts (.static yX6_holds) (List.mem_of_getElem? (i := 3) rfl), trivial⟩) (vz_psS) rfl rfl hl.1 rfl (lv_room (Nat.le_of_ble_eq_true rfl)) dX0_weightTogether_15 ⟨Nat.zero_le _, Nat.zero_le _⟩) (fun r_15 hr_15 => ?_)
        subst hr_15
        refine lv_if_eq (tgt := 32) hx hb dX0_weightTogether_18 (by decide) (fun c_18 => ?_) (fun c_18 => ?_)
        · skip
          replace c_18 := vz_b0 c_18
          refine lv_iconst (v := 0) hx hb dX0_weightTogether_32 (by decide) ?_
          refine lv_iadd hx hb dX0_weightTogether_33 ?_
          refine lv_istore_n (lv' := [(2, .int (acc + 0)), (3, .int (nI j)), (0, .ref (h 0)), (1, .int p0)]) hx hb dX0_weightTogether_34 rfl hl (by decide) rfl (fun ls hl => ?_)
          refine lv_iinc (v := nI (j + 1)) (lv' := [(3, .int (nI (j + 1))), (2, .int (acc + 0)), (0, .ref (h 0)), (1, .int p0)]) hx hb dX0_weightTogether_35 hl (k := 1) rfl (vz_inc _) (by decide) rfl (fun ls hl => ?_)
          refine lv_goto (tgt := 4) hx hb dX0_weightTogether_38 (by decide) ?_
          exact ih_4 (j + 1) (acc + 0) (by omega) (by omega) (by rw [bk_wt, hacc] ; simp only [c_9, c_18, ↓reduceIte, Bool.false_eq_true]) ls (lv_sub hl [0, 1, 2, 3] rfl)
        · skip
          replace c_18 := vz_b1 c_18
          refine lv_aload_n hx hb dX0_weightTogether_21 rfl (lv_at hl 2 rfl) ?_
          refine va_get (D := D) (ci := 0) (v := .ref (h 5)) (C := RX0) (T := TX0) (N := 5) hx hb hts iX0 hown hK hP 0 rfl rfl 2 (by decide) k23 (fun _ h9 => h9) rfl dX0_weightTogether_22 ?_
          refine lv_iload_n hx hb dX0_weightTogether_25 rfl (lv_at hl 0 rfl) ?_
          refine vp_callSi (W.runV (As := [.int (nI j)]) (rest := [.int acc]) ⟨hx, hb, hml, hown, hts⟩ (c_X5_at l D cI (h 5) (h 6) 6 wt (nI j) (by decide)) (cwV 1 hts gX0_weightTogether_X5_at rfl rfl rfl (by decide +kernel) ⟨Nat.le_of_ble_eq_true rfl, Nat.le_of_ble_eq_true rfl⟩) (vz_pvR (va_recv hK hP (ci := 5) (q0 := 5) rfl rfl) hZ (hP.sub (ws' := (zRow cI (h 5) (h 6) 6 wt)) [5, 6] rfl)) rfl rfl hl.1 rfl (lv_room (Nat.le_of_ble_eq_true rfl)) dX0_weightTogether_26 ⟨Nat.zero_le _, Nat.zero_le _⟩) (fun r_26 hr_26 => ?_)
          subst hr_26
          refine lv_goto (tgt := 33) hx hb dX0_weightTogether_29 (by decide) ?_
          refine lv_iadd hx hb dX0_weightTogether_33 ?_
          refine lv_istore_n (lv' := [(2, .int (acc + (rw_at 6 wt (nI j)))), (3, .int (nI j)), (0, .ref (h 0)), (1, .int p0)]) hx hb dX0_weightTogether_34 rfl hl (by decide) rfl (fun ls hl => ?_)
          refine lv_iinc (v := nI (j + 1)) (lv' := [(3, .int (nI (j + 1))), (2, .int (acc + (rw_at 6 wt (nI j)))), (0, .ref (h 0)), (1, .int p0)]) hx hb dX0_weightTogether_35 hl (k := 1) rfl (vz_inc _) (by decide) rfl (fun ls hl => ?_)
          refine lv_goto (tgt := 4) hx hb dX0_weightTogether_38 (by decide) ?_
          exact ih_4 (j + 1) (acc + (rw_at 6 wt (nI j))) (by omega) (by omega) (by rw [bk_wt, hacc] ; simp only [c_9, c_18, ↓reduceIte, Bool.false_eq_true]) ls (lv_sub hl [0, 1, 2, 3] rfl)
  exact L_4 _ 0 0 (Nat.lt_succ_self _) (Nat.zero_le _) rfl ls (lv_sub hl [0, 1, 2, 3] rfl)
set_option maxHeartbeats 4000000 in
set_option maxRecDepth 100000 in
theorem c_X0_mayFollow (l : Launch) (D : va_G) (cI : ClassId) (h : Nat → Nat) (nm : Nat) (ks : Nat → Int32) (gs : Nat → Int32) (wt : Nat → Int32) (mi : Nat → Int32) (p0 : Int32) (hnm : nm ≤ 6) : Met l yX0_mayFollow wsX0_mayFollow ({ frames := 1, cells := 0, slots := 0, locals := 21 } : Room) (vz_ro D cI (zBook cI h nm ks gs wt mi) [.ref (h 0), .int p0]) (vp_Si (fun r => r = bk_mf ks gs p0 nm)) 0 0 (fun _ => False) := by
  refine Met.ofW (cc := cX0_mayFollow) (maxL := 4) (ret := (some .int)) (by decide) rfl ?_
  intro p e s m args below meth c s₁ B hml hv
  obtain ⟨rfl, hP, hZ⟩ := hv
  obtain ⟨hK, hN⟩ := id hZ
  have hx := B.exec
  have hb := B.bytes
  have hr := B.returns
  have hts := atoms_spec (ws := wsX0_mayFollow) B.pre
  have hown : s.vm.findClass RX0 = some m.cls := findClass_of_methodNamed B.named
  have hlocks := B.notSynchronized
  have k14 := hts (.fieldLink RX0 14 "SongsAgain$Book" "kinds" "LSongsAgain$Row;") (List.mem_of_getElem? (i := 3) rfl)
  have k20 := hts (.fieldLink RX0 20 "SongsAgain$Book" "singers" "LSongsAgain$Row;") (List.mem_of_getElem? (i := 2) rfl)
  have k29 := hts (.fieldLink RX0 29 "SongsAgain$Book" "number" "I") (List.mem_of_getElem? (i := 1) rfl)
  have iX0 : ∀ w ∈ u_ws RX0 TX0 5, w ∈ wsX0_mayFollow := vz_in (i := 10) (n := 5) rfl
  have hl := lv_entry ([.ref (h 0), .int p0]) (n := 4) (Nat.le_of_ble_eq_true rfl)
  rw [lg_entry_eq]
  generalize (lg_sl ([.ref (h 0), .int p0]) ++ List.replicate (4 - (lg_sl ([.ref (h 0), .int p0])).length) Slot.unset).toArray = ls at hl ⊢
  have hl : lv_has ls 4 [(0, .ref (h 0)), (1, .int p0)] := hl
  refine lv_iconst (v := 0) hx hb dX0_mayFollow_0 (by decide) ?_
  refine lv_istore_n (lv' := [(2, .int 0), (0, .ref (h 0)), (1, .int p0)]) hx hb dX0_mayFollow_1 rfl hl (by decide) rfl (fun ls hl => ?_)
  refine lv_iconst (v := 0) hx hb dX0_mayFollow_2 (by decide) ?_
  refine lv_istore_n (lv' := [(3, .int 0), (2, .int 0), (0, .ref (h 0)), (1, .int p0)]) hx hb dX0_mayFollow_3 rfl hl (by decide) rfl (fun ls hl => ?_)
  have L_4 : ∀ (d_4 : Nat) (j : Nat) (acc : Int32), nm - j < d_4 → (j ≤ nm) → (acc = bk_mf ks gs p0 j) → ∀ (ls : Array Slot), lv_has ls 4 [(3, .int (nI j)), (2, .int acc), (0, .ref (h 0)), (1, .int p0)] → W p l e ({ frames := 1, cells := 0, slots := 0, locals := 21 } : Room) s m ([.ref (h 0), .int p0] : List Value).toArray below meth c s.heap [] 0 0 (MQ below (vp_Si (fun r => r = bk_mf ks gs p0 nm)) ([.ref (h 0), .int p0] : List Value).toArray s 0 0 (fun _ => False)) (F0 m 4 ls []) := by
    intro d_4
    induction d_4 with
    | zero => intro j acc hd; exact absurd hd (Nat.not_lt_zero _)
    | succ d_4 ih_4 =>
      intro j acc hd_4 hj hacc ls hl
      refine lv_iload_n hx hb dX0_mayFollow_4 rfl (lv_at hl 0 rfl) ?_
      refine lv_aload_n hx hb dX0_mayFollow_5 rfl (lv_at hl 2 rfl) ?_
      refine va_get (D := D) (ci := 0) (v := .int (nI nm)) (C := RX0) (T := TX0) (N := 5) hx hb hts iX0 hown hK hP 0 rfl rfl 4 (by decide) k29 (fun _ h9 => h9) rfl dX0_mayFollow_6 ?_
      refine lv_icmp_ge (tgt := 55) hx hb dX0_mayFollow_9 (by decide) (fun c_9 => ?_) (fun c_9 => ?_)
      · skip
        have hje : j = nm := Nat.le_antisymm hj (vz_ge c_9 (by omega) (by omega))
        refine lv_iload_n hx hb dX0_mayFollow_55 rfl (lv_at hl 1 rfl) ?_
        exact W.iret hx hb hr (fun t ht hW => ⟨_, rfl, (by rw [hacc, hje]), ht⟩) (fun q h => absurd h List.not_mem_nil) dX0_mayFollow_56
      · skip
        have hlt : j < nm := vz_lt c_9 (by omega)
        refine lv_aload_n hx hb dX0_mayFollow_12 rfl (lv_at hl 2 rfl) ?_
        refine va_get (D := D) (ci := 0) (v := .ref (h 3)) (C := RX0) (T := TX0) (N := 5) hx hb hts iX0 hown hK hP 0 rfl rfl 1 (by decide) k20 (fun _ h9 => h9) rfl dX0_mayFollow_13 ?_
        refine lv_iload_n hx hb dX0_mayFollow_16 rfl (lv_at hl 0 rfl) ?_
        refine vp_callSi (W.runV (As := [.int (nI j)]) (rest := []) ⟨hx, hb, hml, hown, hts⟩ (c_X5_at l D cI (h 3) (h 4) 6 gs (nI j) (by decide)) (cwV 1 hts gX0_mayFollow_X5_at rfl rfl rfl (by decide +kernel) ⟨Nat.le_of_ble_eq_true rfl, Nat.le_of_ble_eq_true rfl⟩) (vz_pvR (va_recv hK hP (ci := 5) (q0 := 3) rfl rfl) hZ (hP.sub (ws' := (zRow cI (h 3) (h 4) 6 gs)) [3, 4] rfl)) rfl rfl hl.1 rfl (lv_room (Nat.le_of_ble_eq_true rfl)) dX0_mayFollow_17 ⟨Nat.zero_le _, Nat.zero_le _⟩) (fun r_17 hr_17 => ?_)
        subst hr_17
        refine lv_aload_n hx hb dX0_mayFollow_20 rfl (lv_at hl 2 rfl) ?_
        refine va_get (D := D) (ci := 0) (v := .ref (h 3)) (C := RX0) (T := TX0) (N := 5) hx hb hts iX0 hown hK hP 0 rfl rfl 1 (by decide) k20 (fun _ h9 => h9) rfl dX0_mayFollow_21 ?_
        refine lv_iload_n hx hb dX0_mayFollow_24 rfl (lv_at hl 3 rfl) ?_
        refine vp_callSi (W.runV (As := [.int p0]) (rest := [.int (rw_at 6 gs (nI j))]) ⟨hx, hb, hml, hown, hts⟩ (c_X5_at l D cI (h 3) (h 4) 6 gs p0 (by decide)) (cwV 1 hts gX0_mayFollow_X5_at rfl rfl rfl (by decide +kernel) ⟨Nat.le_of_ble_eq_true rfl, Nat.le_of_ble_eq_true rfl⟩) (vz_pvR (va_recv hK hP (ci := 5) (q0 := 3) rfl rfl) hZ (hP.sub (ws' := (zRow cI (h 3) (h 4) 6 gs)) [3, 4] rfl)) rfl rfl hl.1 rfl (lv_room (Nat.le_of_ble_eq_true rfl)) dX0_mayFollow_25 ⟨Nat.zero_le _, Nat.zero_le _⟩) (fun r_25 hr_25 => ?_)
        subst hr_25
        refine lv_icmp_ne (tgt := 43) hx hb dX0_mayFollow_28 (by decide) (fun c_28 => ?_) (fun c_28 => ?_)
        · skip
          refine lv_iload_n hx hb dX0_mayFollow_43 rfl (lv_at hl 1 rfl) ?_
          refine lv_iconst (v := 1) hx hb dX0_mayFollow_44 (by decide) ?_
          refine lv_iload_n hx hb dX0_mayFollow_45 rfl (lv_at hl 0 rfl) ?_
          refine lv_ishl hx hb dX0_mayFollow_46 ?_
          refine lv_ior hx hb dX0_mayFollow_47 ?_
          refine lv_istore_n (lv' := [(2, .int (acc ||| (1 <<< ((nI j) &&& 31)))), (3, .int (nI j)), (0, .ref (h 0)), (1, .int p0)]) hx hb dX0_mayFollow_48 rfl hl (by decide) rfl (fun ls hl => ?_)
          refine lv_iinc (v := nI (j + 1)) (lv' := [(3, .int (nI (j + 1))), (2, .int (acc ||| (1 <<< ((nI j) &&& 31)))), (0, .ref (h 0)), (1, .int p0)]) hx hb dX0_mayFollow_49 hl (k := 1) rfl (vz_inc _) (by decide) rfl (fun ls hl => ?_)
          refine lv_goto (tgt := 4) hx hb dX0_mayFollow_52 (by decide) ?_
          exact ih_4 (j + 1) (acc ||| (1 <<< ((nI j) &&& 31))) (by omega) (by omega) (by rw [bk_mf, hacc] ; simp only [if_neg c_9, if_neg c_28]) ls (lv_sub hl [0, 1, 2, 3] rfl)
        · skip
          refine lv_aload_n hx hb dX0_mayFollow_31 rfl (lv_at hl 2 rfl) ?_
          refine va_get (D := D) (ci := 0) (v := .ref (h 1)) (C := RX0) (T := TX0) (N := 5) hx hb hts iX0 hown hK hP 0 rfl rfl 0 (by decide) k14 (fun _ h9 => h9) rfl dX0_mayFollow_32 ?_
          refine lv_iload_n hx hb dX0_mayFollow_35 rfl (lv_at hl 0 rfl) ?_
          refine vp_callSi (W.runV (As := [.int (nI j)]) (rest := []) ⟨hx, hb, hml, hown, hts⟩ (c_X5_at l D cI (h 1) (h 2) 6 ks (nI j) (by decide)) (cwV 1 hts gX0_mayFollow_X5_at rfl rfl rfl (by decide +kernel) ⟨Nat.le_of_ble_eq_true rfl, Nat.le_of_ble_eq_true rfl⟩) (vz_pvR (va_recv hK hP (ci := 5) (q0 := 1) rfl rfl) hZ (hP.sub (ws' := (zRow cI (h 1) (h 2) 6 ks)) [1, 2] rfl)) rfl rfl hl.1 rfl (lv_room (Nat.le_of_ble_eq_true rfl)) dX0_mayFollow_36 ⟨Nat.zero_le _, Nat.zero_le _⟩) (fun r_36 hr_36 => ?_)
          subst hr_36
          refine lv_iconst (v := 3) hx hb dX0_mayFollow_39 (by decide) ?_
          refine lv_icmp_ne (tgt := 49) hx hb dX0_mayFollow_40 (by decide) (fun c_40 => ?_) (fun c_40 => ?_)
          · skip
            refine lv_iinc (v := nI (j + 1)) (lv' := [(3, .int (nI (j + 1))), (2, .int acc), (0, .ref (h 0)), (1, .int p0)]) hx hb dX0_mayFollow_49 hl (k := 0) rfl (vz_inc _) (by decide) rfl (fun ls hl => ?_)
            refine lv_goto (tgt := 4) hx hb dX0_mayFollow_52 (by decide) ?_
            exact ih_4 (j + 1) acc (by omega) (by omega) (by rw [bk_mf, hacc] ; simp only [if_neg c_9, if_pos c_28, if_neg c_40]) ls (lv_sub hl [0, 1, 2, 3] rfl)
          · skip
            refine lv_iload_n hx hb dX0_mayFollow_43 rfl (lv_at hl 1 rfl) ?_
            refine lv_iconst (v := 1) hx hb dX0_mayFollow_44 (by decide) ?_
            refine lv_iload_n hx hb dX0_mayFollow_45 rfl (lv_at hl 0 rfl) ?_
            refine lv_ishl hx hb dX0_mayFollow_46 ?_
            refine lv_ior hx hb dX0_mayFollow_47 ?_
            refine lv_istore_n (lv' := [(2, .int (acc ||| (1 <<< ((nI j) &&& 31)))), (3, .int (nI j)), (0, .ref (h 0)), (1, .int p0)]) hx hb dX0_mayFollow_48 rfl hl (by decide) rfl (fun ls hl => ?_)
            refine lv_iinc (v := nI (j + 1)) (lv' := [(3, .int (nI (j + 1))), (2, .int (acc ||| (1 <<< ((nI j) &&& 31)))), (0, .ref (h 0)), (1, .int p0)]) hx hb dX0_mayFollow_49 hl (k := 1) rfl (vz_inc _) (by decide) rfl (fun ls hl => ?_)
            refine lv_goto (tgt := 4) hx hb dX0_mayFollow_52 (by decide) ?_
            exact ih_4 (j + 1) (acc ||| (1 <<< ((nI j) &&& 31))) (by omega) (by omega) (by rw [bk_mf, hacc] ; simp only [if_neg c_9, if_pos c_28, if_pos c_40]) ls (lv_sub hl [0, 1, 2, 3] rfl)
  exact L_4 _ 0 0 (Nat.lt_succ_self _) (Nat.zero_le _) rfl ls (lv_sub hl [0, 1, 2, 3] rfl)
set_option maxHeartbeats 4000000 in
set_option maxRecDepth 100000 in
theorem c_X0_mayCome (l : Launch) (D : va_G) (cI : ClassId) (h : Nat → Nat) (nm : Nat) (ks : Nat → Int32) (gs : Nat → Int32) (wt : Nat → Int32) (mi : Nat → Int32) (p0 : Int32) (p1 : Int32) (p2 : Int32) (hnm : nm ≤ 6) : Met l yX0_mayCome wsX0_mayCome ({ frames := 2, cells := 0, slots := 0, locals := 44 } : Room) (vz_ro D cI (zBook cI h nm ks gs wt mi) [.ref (h 0), .int p0, .int p1, .int p2]) (vp_Si (fun r => r = bk_may nm ks gs p0 p1 p2)) 0 0 (fun _ => False) := by
  refine Met.ofW (cc := cX0_mayCome) (maxL := 8) (ret := (some .int)) (by decide) rfl ?_
  intro p e s m args below meth c s₁ B hml hv
  obtain ⟨rfl, hP, hZ⟩ := hv
  obtain ⟨hK, hN⟩ := id hZ
  have hx := B.exec
  have hb := B.bytes
  have hr := B.returns
  have hts := atoms_spec (ws := wsX0_mayCome) B.pre
  have hown : s.vm.findClass RX0 = some m.cls := findClass_of_methodNamed B.named
  have hlocks := B.notSynchronized
  have hl := lv_entry ([.ref (h 0), .int p0, .int p1, .int p2]) (n := 8) (Nat.le_of_ble_eq_true rfl)
  rw [lg_entry_eq]
  generalize (lg_sl ([.ref (h 0), .int p0, .int p1, .int p2]) ++ List.replicate (8 - (lg_sl ([.ref (h 0), .int p0, .int p1, .int p2])).length) Slot.unset).toArray = ls at hl ⊢
  have hl : lv_has ls 8 [(0, .ref (h 0)), (1, .int p0), (2, .int p1), (3, .int p2)] := hl
  refine lv_iload_n hx hb dX0_mayCome_0 rfl (lv_at hl 1 rfl) ?_
  refine lv_iconst (v := 2) hx hb dX0_mayCome_1 (by decide) ?_
  have J_15 : ∀ (z4 : Int32), z4 = vz_b (bk_fb p0) → W p l e ({ frames := 2, cells := 0, slots := 0, locals := 44 } : Room) s m ([.ref (h 0), .int p0, .int p1, .int p2] : List Value).toArray below meth c s.heap [] 0 0 (MQ below (vp_Si (fun r => r = bk_may nm ks gs p0 p1 p2)) ([.ref (h 0), .int p0, .int p1, .int p2] : List Value).toArray s 0 0 (fun _ => False)) (F0 m 15 ls [.int z4]) := by
    intro z4 hz4
    subst hz4
    refine lv_istore (lv' := [(4, .int (vz_b (bk_fb p0))), (0, .ref (h 0)), (1, .int p0), (2, .int p1), (3, .int p2)]) hx hb dX0_mayCome_15 hl (by decide) rfl (fun ls hl => ?_)
    refine lv_iload_n hx hb dX0_mayCome_17 rfl (lv_at hl 2 rfl) ?_
    refine lv_iconst (v := 1) hx hb dX0_mayCome_18 (by decide) ?_
    have J_32 : ∀ (z5 : Int32), z5 = vz_b (bk_ns p0) → W p l e ({ frames := 2, cells := 0, slots := 0, locals := 44 } : Room) s m ([.ref (h 0), .int p0, .int p1, .int p2] : List Value).toArray below meth c s.heap [] 0 0 (MQ below (vp_Si (fun r => r = bk_may nm ks gs p0 p1 p2)) ([.ref (h 0), .int p0, .int p1, .int p2] : List Value).toArray s 0 0 (fun _ => False)) (F0 m 32 ls [.int z5]) := by
      intro z5 hz5
      subst hz5
      refine lv_istore (lv' := [(5, .int (vz_b (bk_ns p0))), (4, .int (vz_b (bk_fb p0))), (0, .ref (h 0)), (1, .int p0), (2, .int p1), (3, .int p2)]) hx hb dX0_mayCome_32 hl (by decide) rfl (fun ls hl => ?_)
      refine lv_iload hx hb dX0_mayCome_34 (lv_at hl 1 rfl) ?_
      have J_47 : ∀ (z6 : Int32), z6 = bk_pool nm p0 p1 → W p l e ({ frames := 2, cells := 0, slots := 0, locals := 44 } : Room) s m ([.ref (h 0), .int p0, .int p1, .int p2] : List Value).toArray below meth c s.heap [] 0 0 (MQ below (vp_Si (fun r => r = bk_may nm ks gs p0 p1 p2)) ([.ref (h 0), .int p0, .int p1, .int p2] : List Value).toArray s 0 0 (fun _ => False)) (F0 m 47 ls [.int z6]) := by
        intro z6 hz6
        subst hz6
        refine lv_istore (lv' := [(6, .int (bk_pool nm p0 p1)), (5, .int (vz_b (bk_ns p0))), (4, .int (vz_b (bk_fb p0))), (0, .ref (h 0)), (1, .int p0), (2, .int p1), (3, .int p2)]) hx hb dX0_mayCome_47 hl (by decide) rfl (fun ls hl => ?_)
        refine lv_iload hx hb dX0_mayCome_49 (lv_at hl 1 rfl) ?_
        refine lv_if_eq (tgt := 59) hx hb dX0_mayCome_51 (by decide) (fun c_51 => ?_) (fun c_51 => ?_)
        · skip
          replace c_51 := vz_b0 c_51
          refine lv_iload hx hb dX0_mayCome_59 (lv_at hl 0 rfl) ?_
          exact W.iret hx hb hr (fun t ht hW => ⟨_, rfl, (by first | rfl | (simp only [bk_may]; done) | (simp only [bk_may]; rfl) | (simp only [bk_may, c_51, ↓reduceIte, Bool.false_eq_true, if_true, if_false, reduceCtorEq, not_true_eq_false, not_false_eq_true, eq_self]; done) | (simp only [bk_may, c_51, ↓reduceIte, Bool.false_eq_true, if_true, if_false, reduceCtorEq, not_true_eq_false, not_false_eq_true, eq_self]; rfl) | (simp [bk_may, c_51]; done)), ht⟩) (fun q h => absurd h List.not_mem_nil) dX0_mayCome_61
        · skip
          replace c_51 := vz_b1 c_51
          refine lv_iload_n hx hb dX0_mayCome_54 rfl (lv_at hl 6 rfl) ?_
          refine lv_iconst (v := (-1)) hx hb dX0_mayCome_55 (by decide) ?_
          refine lv_icmp_ne (tgt := 62) hx hb dX0_mayCome_56 (by decide) (fun c_56 => ?_) (fun c_56 => ?_)
          · skip
            refine lv_iload hx hb dX0_mayCome_62 (lv_at hl 0 rfl) ?_
            refine lv_aload_n hx hb dX0_mayCome_64 rfl (lv_at hl 3 rfl) ?_
            refine lv_iload_n hx hb dX0_mayCome_65 rfl (lv_at hl 6 rfl) ?_
            refine vp_callSi (W.runV (As := [.int p2]) (rest := [.int (bk_pool nm p0 p1)]) ⟨hx, hb, hml, hown, hts⟩ (c_X0_mayFollow l D cI h nm ks gs wt mi p2 (by first | assumption | omega)) (cwV 1 hts gX0_mayCome_X0_mayFollow rfl rfl rfl (by decide +kernel) ⟨Nat.le_of_ble_eq_true rfl, Nat.le_of_ble_eq_true rfl⟩) (vz_pvR (va_recv hK hP (ci := 0) (q0 := 0) rfl rfl) hZ hP) rfl rfl hl.1 rfl (lv_room (Nat.le_of_ble_eq_true rfl)) dX0_mayCome_66 ⟨Nat.zero_le _, Nat.zero_le _⟩) (fun r_66 hr_66 => ?_)
            subst hr_66
            refine lv_iand hx hb dX0_mayCome_69 ?_
            refine lv_topi (fun v_70 ev_70 => ?_)
            refine lv_istore (lv' := [(7, .int v_70), (6, .int (bk_pool nm p0 p1)), (5, .int (vz_b (bk_ns p0))), (4, .int (vz_b (bk_fb p0))), (0, .ref (h 0)), (1, .int p0), (2, .int p1), (3, .int p2)]) hx hb dX0_mayCome_70 hl (by decide) rfl (fun ls hl => ?_)
            refine lv_iload hx hb dX0_mayCome_72 (lv_at hl 0 rfl) ?_
            refine lv_if_ne (tgt := 82) hx hb dX0_mayCome_74 (by decide) (fun c_74 => ?_) (fun c_74 => ?_)
            · skip
              refine lv_iload hx hb dX0_mayCome_82 (lv_at hl 0 rfl) ?_
              exact W.iret hx hb hr (fun t ht hW => ⟨_, rfl, (by try subst ev_70 ; first | rfl | (simp only [bk_may, if_neg c_56, if_neg c_74]; done) | (simp only [bk_may, if_neg c_56, if_neg c_74]; rfl) | (simp only [bk_may, c_51, c_56, c_74, ↓reduceIte, Bool.false_eq_true, if_true, if_false, reduceCtorEq, not_true_eq_false, not_false_eq_true, eq_self]; done) | (simp only [bk_may, c_51, c_56, c_74, ↓reduceIte, Bool.false_eq_true, if_true, if_false, reduceCtorEq, not_true_eq_false, not_false_eq_true, eq_self]; rfl) | (simp [bk_may, c_51, c_56, c_74]; done)), ht⟩) (fun q h => absurd h List.not_mem_nil) dX0_mayCome_84
            · skip
              refine lv_iload hx hb dX0_mayCome_77 (lv_at hl 1 rfl) ?_
              refine lv_goto (tgt := 84) hx hb dX0_mayCome_79 (by decide) ?_
              exact W.iret hx hb hr (fun t ht hW => ⟨_, rfl, (by try subst ev_70 ; first | rfl | (simp only [bk_may, if_neg c_56, if_pos c_74]; done) | (simp only [bk_may, if_neg c_56, if_pos c_74]; rfl) | (simp only [bk_may, c_51, c_56, c_74, ↓reduceIte, Bool.false_eq_true, if_true, if_false, reduceCtorEq, not_true_eq_false, not_false_eq_true, eq_self]; done) | (simp only [bk_may, c_51, c_56, c_74, ↓reduceIte, Bool.false_eq_true, if_true, if_false, reduceCtorEq, not_true_eq_false, not_false_eq_true, eq_self]; rfl) | (simp [bk_may, c_51, c_56, c_74]; done)), ht⟩) (fun q h => absurd h List.not_mem_nil) dX0_mayCome_84
          · skip
            refine lv_iload hx hb dX0_mayCome_59 (lv_at hl 0 rfl) ?_
            exact W.iret hx hb hr (fun t ht hW => ⟨_, rfl, (by first | rfl | (simp only [bk_may, if_pos c_56]; done) | (simp only [bk_may, if_pos c_56]; rfl) | (simp only [bk_may, c_51, c_56, ↓reduceIte, Bool.false_eq_true, if_true, if_false, reduceCtorEq, not_true_eq_false, not_false_eq_true, eq_self]; done) | (simp only [bk_may, c_51, c_56, ↓reduceIte, Bool.false_eq_true, if_true, if_false, reduceCtorEq, not_true_eq_false, not_false_eq_true, eq_self]; rfl) | (simp [bk_may, c_51, c_56]; done)), ht⟩) (fun q h => absurd h List.not_mem_nil) dX0_mayCome_61
      refine lv_if_eq (tgt := 43) hx hb dX0_mayCome_36 (by decide) (fun c_36 => ?_) (fun c_36 => ?_)
      · skip
        replace c_36 := vz_b0 c_36
        refine lv_aload_n hx hb dX0_mayCome_43 rfl (lv_at hl 2 rfl) ?_
        refine vp_callSi (W.runV (As := []) (rest := []) ⟨hx, hb, hml, hown, hts⟩ (c_X0_all l D cI h nm ks gs wt mi) (cwV 0 hts gX0_mayCome_X0_all rfl rfl rfl (by decide +kernel) ⟨Nat.le_of_ble_eq_true rfl, Nat.le_of_ble_eq_true rfl⟩) (vz_pvR (va_recv hK hP (ci := 0) (q0 := 0) rfl rfl) hZ hP) rfl rfl hl.1 rfl (lv_room (Nat.le_of_ble_eq_true rfl)) dX0_mayCome_44 ⟨Nat.zero_le _, Nat.zero_le _⟩) (fun r_44 hr_44 => ?_)
        subst hr_44
        exact J_47 _ (by first | rfl | (simp only [bk_pool]; done) | (simp only [bk_pool]; rfl) | (simp only [bk_pool, c_36, ↓reduceIte, Bool.false_eq_true, if_true, if_false, reduceCtorEq, not_true_eq_false, not_false_eq_true, eq_self]; done) | (simp [bk_pool, c_36]; done))
      · skip
        replace c_36 := vz_b1 c_36
        refine lv_iload_n hx hb dX0_mayCome_39 rfl (lv_at hl 4 rfl) ?_
        refine lv_goto (tgt := 47) hx hb dX0_mayCome_40 (by decide) ?_
        exact J_47 _ (by first | rfl | (simp only [bk_pool]; done) | (simp only [bk_pool]; rfl) | (simp only [bk_pool, c_36, ↓reduceIte, Bool.false_eq_true, if_true, if_false, reduceCtorEq, not_true_eq_false, not_false_eq_true, eq_self]; done) | (simp [bk_pool, c_36]; done))
    refine lv_icmp_eq (tgt := 27) hx hb dX0_mayCome_19 (by decide) (fun c_19 => ?_) (fun c_19 => ?_)
    · skip
      refine lv_iconst (v := 1) hx hb dX0_mayCome_27 (by decide) ?_
      refine lv_goto (tgt := 32) hx hb dX0_mayCome_28 (by decide) ?_
      exact J_32 _ (by first | rfl | (simp only [bk_ns, vz_b, if_pos c_19]; done) | (simp only [bk_ns, vz_b, if_pos c_19]; rfl) | (simp only [bk_ns, vz_b, c_19, ↓reduceIte, Bool.false_eq_true, if_true, if_false, reduceCtorEq, not_true_eq_false, not_false_eq_true, eq_self]; done) | (simp [bk_ns, vz_b, c_19]; done))
    · skip
      refine lv_iload_n hx hb dX0_mayCome_22 rfl (lv_at hl 2 rfl) ?_
      refine lv_iconst (v := 3) hx hb dX0_mayCome_23 (by decide) ?_
      refine lv_icmp_ne (tgt := 31) hx hb dX0_mayCome_24 (by decide) (fun c_24 => ?_) (fun c_24 => ?_)
      · skip
        refine lv_iconst (v := 0) hx hb dX0_mayCome_31 (by decide) ?_
        exact J_32 _ (by first | rfl | (simp only [bk_ns, vz_b, if_neg c_19, if_neg c_24]; done) | (simp only [bk_ns, vz_b, if_neg c_19, if_neg c_24]; rfl) | (simp only [bk_ns, vz_b, c_19, c_24, ↓reduceIte, Bool.false_eq_true, if_true, if_false, reduceCtorEq, not_true_eq_false, not_false_eq_true, eq_self]; done) | (simp [bk_ns, vz_b, c_19, c_24]; done))
      · skip
        refine lv_iconst (v := 1) hx hb dX0_mayCome_27 (by decide) ?_
        refine lv_goto (tgt := 32) hx hb dX0_mayCome_28 (by decide) ?_
        exact J_32 _ (by first | rfl | (simp only [bk_ns, vz_b, if_neg c_19, if_pos c_24]; done) | (simp only [bk_ns, vz_b, if_neg c_19, if_pos c_24]; rfl) | (simp only [bk_ns, vz_b, c_19, c_24, ↓reduceIte, Bool.false_eq_true, if_true, if_false, reduceCtorEq, not_true_eq_false, not_false_eq_true, eq_self]; done) | (simp [bk_ns, vz_b, c_19, c_24]; done))
  refine lv_icmp_eq (tgt := 10) hx hb dX0_mayCome_2 (by decide) (fun c_2 => ?_) (fun c_2 => ?_)
  · skip
    refine lv_iconst (v := 1) hx hb dX0_mayCome_10 (by decide) ?_
    refine lv_goto (tgt := 15) hx hb dX0_mayCome_11 (by decide) ?_
    exact J_15 _ (by first | rfl | (simp only [bk_fb, vz_b, if_pos c_2]; done) | (simp only [bk_fb, vz_b, if_pos c_2]; rfl) | (simp only [bk_fb, vz_b, c_2, ↓reduceIte, Bool.false_eq_true, if_true, if_false, reduceCtorEq, not_true_eq_false, not_false_eq_true, eq_self]; done) | (simp [bk_fb, vz_b, c_2]; done))
  · skip
    refine lv_iload_n hx hb dX0_mayCome_5 rfl (lv_at hl 1 rfl) ?_
    refine lv_iconst (v := 3) hx hb dX0_mayCome_6 (by decide) ?_
    refine lv_icmp_ne (tgt := 14) hx hb dX0_mayCome_7 (by decide) (fun c_7 => ?_) (fun c_7 => ?_)
    · skip
      refine lv_iconst (v := 0) hx hb dX0_mayCome_14 (by decide) ?_
      exact J_15 _ (by first | rfl | (simp only [bk_fb, vz_b, if_neg c_2, if_neg c_7]; done) | (simp only [bk_fb, vz_b, if_neg c_2, if_neg c_7]; rfl) | (simp only [bk_fb, vz_b, c_2, c_7, ↓reduceIte, Bool.false_eq_true, if_true, if_false, reduceCtorEq, not_true_eq_false, not_false_eq_true, eq_self]; done) | (simp [bk_fb, vz_b, c_2, c_7]; done))
    · skip
      refine lv_iconst (v := 1) hx hb dX0_mayCome_10 (by decide) ?_
      refine lv_goto (tgt := 15) hx hb dX0_mayCome_11 (by decide) ?_
      exact J_15 _ (by first | rfl | (simp only [bk_fb, vz_b, if_neg c_2, if_pos c_7]; done) | (simp only [bk_fb, vz_b, if_neg c_2, if_pos c_7]; rfl) | (simp only [bk_fb, vz_b, c_2, c_7, ↓reduceIte, Bool.false_eq_true, if_true, if_false, reduceCtorEq, not_true_eq_false, not_false_eq_true, eq_self]; done) | (simp [bk_fb, vz_b, c_2, c_7]; done))
set_option maxHeartbeats 4000000 in
set_option maxRecDepth 100000 in
theorem c_X0_bagAfter (l : Launch) (D : va_G) (cI : ClassId) (h : Nat → Nat) (nm : Nat) (ks : Nat → Int32) (gs : Nat → Int32) (wt : Nat → Int32) (mi : Nat → Int32) (p0 : Int32) (p1 : Int32) : Met l yX0_bagAfter wsX0_bagAfter ({ frames := 1, cells := 0, slots := 0, locals := 20 } : Room) (vz_ro D cI (zBook cI h nm ks gs wt mi) [.ref (h 0), .int p0, .int p1]) (vp_Si (fun r => r = bk_bag nm p0 p1)) 0 0 (fun _ => False) := by
  refine Met.ofW (cc := cX0_bagAfter) (maxL := 4) (ret := (some .int)) (by decide) rfl ?_
  intro p e s m args below meth c s₁ B hml hv
  obtain ⟨rfl, hP, hZ⟩ := hv
  obtain ⟨hK, hN⟩ := id hZ
  have hx := B.exec
  have hb := B.bytes
  have hr := B.returns
  have hts := atoms_spec (ws := wsX0_bagAfter) B.pre
  have hown : s.vm.findClass RX0 = some m.cls := findClass_of_methodNamed B.named
  have hlocks := B.notSynchronized
  have hl := lv_entry ([.ref (h 0), .int p0, .int p1]) (n := 4) (Nat.le_of_ble_eq_true rfl)
  rw [lg_entry_eq]
  generalize (lg_sl ([.ref (h 0), .int p0, .int p1]) ++ List.replicate (4 - (lg_sl ([.ref (h 0), .int p0, .int p1])).length) Slot.unset).toArray = ls at hl ⊢
  have hl : lv_has ls 4 [(0, .ref (h 0)), (1, .int p0), (2, .int p1)] := hl
  refine lv_iload_n hx hb dX0_bagAfter_0 rfl (lv_at hl 1 rfl) ?_
  refine lv_iconst (v := 1) hx hb dX0_bagAfter_1 (by decide) ?_
  refine lv_iload_n hx hb dX0_bagAfter_2 rfl (lv_at hl 2 rfl) ?_
  refine lv_ishl hx hb dX0_bagAfter_3 ?_
  refine lv_iconst (v := (-1)) hx hb dX0_bagAfter_4 (by decide) ?_
  refine lv_ixor hx hb dX0_bagAfter_5 ?_
  refine lv_iand hx hb dX0_bagAfter_6 ?_
  refine lv_istore_n (lv' := [(3, .int (p0 &&& ((1 <<< (p1 &&& 31)) ^^^ (-1)))), (0, .ref (h 0)), (1, .int p0), (2, .int p1)]) hx hb dX0_bagAfter_7 rfl hl (by decide) rfl (fun ls hl => ?_)
  refine lv_iload_n hx hb dX0_bagAfter_8 rfl (lv_at hl 0 rfl) ?_
  refine lv_if_ne (tgt := 19) hx hb dX0_bagAfter_9 (by decide) (fun c_9 => ?_) (fun c_9 => ?_)
  · skip
    refine lv_iload_n hx hb dX0_bagAfter_19 rfl (lv_at hl 0 rfl) ?_
    exact W.iret hx hb hr (fun t ht hW => ⟨_, rfl, (by first | rfl | (simp only [bk_bag, if_neg c_9]; done) | (simp only [bk_bag, if_neg c_9]; rfl) | (simp only [bk_bag, c_9, ↓reduceIte, Bool.false_eq_true, if_true, if_false, reduceCtorEq, not_true_eq_false, not_false_eq_true, eq_self]; done) | (simp only [bk_bag, c_9, ↓reduceIte, Bool.false_eq_true, if_true, if_false, reduceCtorEq, not_true_eq_false, not_false_eq_true, eq_self]; rfl) | (simp [bk_bag, c_9]; done)), ht⟩) (fun q h => absurd h List.not_mem_nil) dX0_bagAfter_20
  · skip
    refine lv_aload_n hx hb dX0_bagAfter_12 rfl (lv_at hl 1 rfl) ?_
    refine vp_callSi (W.runV (As := []) (rest := []) ⟨hx, hb, hml, hown, hts⟩ (c_X0_all l D cI h nm ks gs wt mi) (cwV 0 hts gX0_bagAfter_X0_all rfl rfl rfl (by decide +kernel) ⟨Nat.le_of_ble_eq_true rfl, Nat.le_of_ble_eq_true rfl⟩) (vz_pvR (va_recv hK hP (ci := 0) (q0 := 0) rfl rfl) hZ hP) rfl rfl hl.1 rfl (lv_room (Nat.le_of_ble_eq_true rfl)) dX0_bagAfter_13 ⟨Nat.zero_le _, Nat.zero_le _⟩) (fun r_13 hr_13 => ?_)
    subst hr_13
    refine lv_goto (tgt := 20) hx hb dX0_bagAfter_16 (by decide) ?_
    exact W.iret hx hb hr (fun t ht hW => ⟨_, rfl, (by first | rfl | (simp only [bk_bag, if_pos c_9]; done) | (simp only [bk_bag, if_pos c_9]; rfl) | (simp only [bk_bag, c_9, ↓reduceIte, Bool.false_eq_true, if_true, if_false, reduceCtorEq, not_true_eq_false, not_false_eq_true, eq_self]; done) | (simp only [bk_bag, c_9, ↓reduceIte, Bool.false_eq_true, if_true, if_false, reduceCtorEq, not_true_eq_false, not_false_eq_true, eq_self]; rfl) | (simp [bk_bag, c_9]; done)), ht⟩) (fun q h => absurd h List.not_mem_nil) dX0_bagAfter_20

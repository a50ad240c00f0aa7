/-! the constructors: cells come -/
theorem zi_max {n : Nat} (h : n ≤ 24) : (if (0 : Int32) < nI n then nI n else 0) = nI n := by
  rcases Nat.eq_zero_or_pos n with q | q
  · subst q; rfl
  · exact if_pos (nI_lt (a := 0) q (by omega))
theorem nI_n0 {n : Nat} (h : n < 2 ^ 31) : ¬ nI n < 0 := nI_nlt (a := n) (b := 0) (Nat.zero_le _) h
theorem zi_cA {D : va_G} {cI cA : ClassId} {s : State} (h : va_K D vwCl (vzI cI ++ [(cA, .int)]) s) : cI = cA := by
  have e1 := va_nm_int (h.2 0 (cI, .int) rfl).2
  have e2 := va_nm_int (h.2 1 (cA, .int) rfl).2
  exact Option.some.inj (e1.symm.trans e2)

set_option maxHeartbeats 4000000 in
set_option maxRecDepth 100000 in
theorem c_X5_init (l : Launch) (D : va_G) (cI : ClassId) (r : Nat) (sz : Nat) (n : Nat) (hn : n ≤ 24) : Met l yX5_init wsX5_init ({ frames := 1, cells := 1, slots := n, locals := 40 } : Room) (vz_rw D cI [(r, .inr (5, [.null]))] sz [.ref r, .int (nI n)]) (va_Qv (fun (_ : Nat) => True) (fun (u : Nat) (t : State) => va_P D vwCl [(r, .inr (5, [.ref u])), (u, .inl (cI, n, .inl (fun _ => 0)))] t.heap ∧ va_D (va_A [(r, .inr (5, [.null]))] sz) [(r, .inr (5, [.ref u])), (u, .inl (cI, n, .inl (fun _ => 0)))]) (va_A [(r, .inr (5, [.null]))] sz)) 1 n (va_A [(r, .inr (5, [.null]))] sz) := by
  refine Met.ofW (cc := cX5_init) (maxL := 2) (ret := none) (by decide) rfl ?_
  intro p e s m args below meth c s₁ B hml hv
  obtain ⟨rfl, hsz, hP, hZ, hD0⟩ := hv
  obtain ⟨hK, hN⟩ := id hZ
  have hx := B.exec
  have hb := B.bytes
  have hr := B.returns
  have hts := atoms_spec (ws := wsX5_init) B.pre
  have hown : s.vm.findClass RX5 = some m.cls := findClass_of_methodNamed B.named
  have hlocks := B.notSynchronized
  have hin : meth.name = "<init>" := (name_of_methodNamed B.named B.method).1
  subst hsz
  have hD := hD0.self (sz := s.heap.size)
  generalize hAe : va_A [(r, .inr (5, [.null]))] s.heap.size = A at hD ⊢
  have hA : ∀ q : Nat, s.heap.size ≤ q → A q := fun q h => by rw [← hAe]; exact Or.inr h
  have hS : va_S A s.heap s.heap [] := va_S.rf
  have hP : va_P D vwCl [(r, .inr (5, [.null]))] s.heap := hP
  have hl := lv_entry ([.ref r, .int (nI n)]) (n := 2) (Nat.le_of_ble_eq_true rfl)
  rw [lg_entry_eq]
  generalize (lg_sl ([.ref r, .int (nI n)]) ++ List.replicate (2 - (lg_sl ([.ref r, .int (nI n)])).length) Slot.unset).toArray = ls at hl ⊢
  have hl : lv_has ls 2 [(0, .ref r), (1, .int (nI n))] := hl
  refine lv_aload_n hx hb dX5_init_0 rfl (lv_at hl 0 rfl) ?_
  refine W.objInit hx hb hown (hts (.methodLink RX5 1 objectInit) (List.mem_of_getElem? (i := 1) rfl)) (hts (.instanceMethod objectInit) (List.mem_of_getElem? (i := 2) rfl)) (hts (.code objectInit ⟨#[0xb1]⟩ 1 none) (List.mem_of_getElem? (i := 3) rfl)) rfl (by rw [hml]; exact hl.1) rfl dX5_init_1 (Nat.le_of_ble_eq_true rfl) (Nat.le_of_ble_eq_true rfl) ?_
  refine W.eq (g2 := F0 m 4 ls []) rfl ?_
  refine lv_aload_n hx hb dX5_init_4 rfl (lv_at hl 0 rfl) ?_
  refine lv_iconst (v := 0) hx hb dX5_init_5 (by decide) ?_
  refine lv_iload_n hx hb dX5_init_6 rfl (lv_at hl 1 rfl) ?_
  refine va_mmax hx hb (by rw [hml]; exact hl.1.symm) hown (hts (.methodLink RX5 7 Lib.Math.max.name) (List.mem_of_getElem? (i := 4) rfl)) (hts (.static Lib.Math.max.name) (List.mem_of_getElem? (i := 5) rfl)) (hts (.initialized "java/lang/Math") (List.mem_of_getElem? (i := 6) rfl)) (hts (.code Lib.Math.max.name Lib.Math.max.code 2 (some .int)) (List.mem_of_getElem? (i := 7) rfl)) (Nat.le_of_ble_eq_true rfl) (Nat.le_of_ble_eq_true rfl) (Nat.zero_le _) (Nat.zero_le _) dX5_init_7 ?_
  refine W.eq (congrArg (fun z => F0 m 10 ls (.int z :: [.ref r])) (zi_max hn)) ?_
  refine va_newa (atype := .int) (a0 := (n, .inl (fun _ => 0))) hx hb (hts (.arrayClass .int) (List.mem_of_getElem? (i := 8) rfl)) rfl hK hP hD hS hA (fun _ => rfl) (nI_n0 (by omega)) (nI_clamp (by omega)) (by show n * 4 ≤ 536870912; omega) (Nat.le_of_ble_eq_true rfl) (by show 0 + n ≤ n; omega) dX5_init_10 (fun q10 cA H hK1 hP hD hS => ?_)
  have eA : cI = cA := zi_cA hK1
  subst eA ; clear hK1
  refine W.widen (k := 1) (n := n) (by omega) (by omega) ?_
  have hP : va_P D vwCl [(r, .inr (5, [.null])), (q10, .inl (cI, n, .inl (fun _ => 0)))] _ := hP
  have hD : va_D A [(r, .inr (5, [.null])), (q10, .inl (cI, n, .inl (fun _ => 0)))] := hD
  refine va_putF (D := D) (ci := 5) (v := .ref q10) (ty := (.array .int)) (C := RX5) (T := TX5) (N := 1) hx hb hts (vz_in (i := 10) (n := 1) rfl : ∀ w ∈ u_ws RX5 TX5 1, w ∈ wsX5_init) tyX5 tyX5_ok nmX5 hown hK hP hD hS 0 rfl rfl 0 (by decide) (hts (.fieldLink RX5 13 "SongsAgain$Row" "cells" "[I") (List.mem_of_getElem? (i := 9) rfl)) (fun _ h9 => h9) rfl hin rfl (by decide +kernel) rfl rfl (Nat.le_of_ble_eq_true rfl) dX5_init_12 (fun H locs hP hD hS => ?_)
  have hP : va_P D vwCl [(r, .inr (5, [.ref q10])), (q10, .inl (cI, n, .inl (fun _ => 0)))] _ := hP
  have hD : va_D A [(r, .inr (5, [.ref q10])), (q10, .inl (cI, n, .inl (fun _ => 0)))] := hD
  exact W.vret hx hb hr (fun t ht hW => ⟨⟨q10, rfl, trivial, (by rw [ht]; exact hP), hD⟩, hS.F ht⟩) hS.2.2 dX5_init_15
set_option maxHeartbeats 4000000 in
set_option maxRecDepth 100000 in
theorem c_X0_init (l : Launch) (D : va_G) (cI : ClassId) (r : Nat) (sz : Nat) : Met l yX0_init wsX0_init ({ frames := 2, cells := 8, slots := 28, locals := 61 } : Room) (vz_rw D cI [(r, .inr (0, [.null, .null, .null, .null, .int 0]))] sz [.ref r]) (va_Qv (fun (_ : Nat × Nat × Nat × Nat × Nat × Nat × Nat × Nat) => True) (fun (u : Nat × Nat × Nat × Nat × Nat × Nat × Nat × Nat) (t : State) => va_P D vwCl [(r, .inr (0, [.ref u.1, .ref u.2.2.1, .ref u.2.2.2.2.1, .ref u.2.2.2.2.2.2.1, .int 0])), (u.1, .inr (5, [.ref u.2.1])), (u.2.1, .inl (cI, 6, .inl (fun _ => 0))), (u.2.2.1, .inr (5, [.ref u.2.2.2.1])), (u.2.2.2.1, .inl (cI, 6, .inl (fun _ => 0))), (u.2.2.2.2.1, .inr (5, [.ref u.2.2.2.2.2.1])), (u.2.2.2.2.2.1, .inl (cI, 6, .inl (fun _ => 0))), (u.2.2.2.2.2.2.1, .inr (5, [.ref u.2.2.2.2.2.2.2])), (u.2.2.2.2.2.2.2, .inl (cI, 6, .inl (fun _ => 0)))] t.heap ∧ va_D (va_A [(r, .inr (0, [.null, .null, .null, .null, .int 0]))] sz) [(r, .inr (0, [.ref u.1, .ref u.2.2.1, .ref u.2.2.2.2.1, .ref u.2.2.2.2.2.2.1, .int 0])), (u.1, .inr (5, [.ref u.2.1])), (u.2.1, .inl (cI, 6, .inl (fun _ => 0))), (u.2.2.1, .inr (5, [.ref u.2.2.2.1])), (u.2.2.2.1, .inl (cI, 6, .inl (fun _ => 0))), (u.2.2.2.2.1, .inr (5, [.ref u.2.2.2.2.2.1])), (u.2.2.2.2.2.1, .inl (cI, 6, .inl (fun _ => 0))), (u.2.2.2.2.2.2.1, .inr (5, [.ref u.2.2.2.2.2.2.2])), (u.2.2.2.2.2.2.2, .inl (cI, 6, .inl (fun _ => 0)))]) (va_A [(r, .inr (0, [.null, .null, .null, .null, .int 0]))] sz)) 8 28 (va_A [(r, .inr (0, [.null, .null, .null, .null, .int 0]))] sz) := by
  refine Met.ofW (cc := cX0_init) (maxL := 1) (ret := none) (by decide) rfl ?_
  intro p e s m args below meth c s₁ B hml hv
  obtain ⟨rfl, hsz, hP, hZ, hD0⟩ := hv
  obtain ⟨hK, hN⟩ := id hZ
  have hx := B.exec
  have hb := B.bytes
  have hr := B.returns
  have hts := atoms_spec (ws := wsX0_init) B.pre
  have hown : s.vm.findClass RX0 = some m.cls := findClass_of_methodNamed B.named
  have hlocks := B.notSynchronized
  have hin : meth.name = "<init>" := (name_of_methodNamed B.named B.method).1
  subst hsz
  have hD := hD0.self (sz := s.heap.size)
  generalize hAe : va_A [(r, .inr (0, [.null, .null, .null, .null, .int 0]))] s.heap.size = A at hD ⊢
  have hA : ∀ q : Nat, s.heap.size ≤ q → A q := fun q h => by rw [← hAe]; exact Or.inr h
  have hS : va_S A s.heap s.heap [] := va_S.rf
  have hP : va_P D vwCl [(r, .inr (0, [.null, .null, .null, .null, .int 0]))] s.heap := hP
  have hl := lv_entry ([.ref r]) (n := 1) (Nat.le_of_ble_eq_true rfl)
  rw [lg_entry_eq]
  generalize (lg_sl ([.ref r]) ++ List.replicate (1 - (lg_sl ([.ref r])).length) Slot.unset).toArray = ls at hl ⊢
  have hl : lv_has ls 1 [(0, .ref r)] := hl
  refine lv_aload_n hx hb dX0_init_0 rfl (lv_at hl 0 rfl) ?_
  refine W.objInit hx hb hown (hts (.methodLink RX0 3 objectInit) (List.mem_of_getElem? (i := 1) rfl)) (hts (.instanceMethod objectInit) (List.mem_of_getElem? (i := 2) rfl)) (hts (.code objectInit ⟨#[0xb1]⟩ 1 none) (List.mem_of_getElem? (i := 3) rfl)) rfl (by rw [hml]; exact hl.1) rfl dX0_init_1 (Nat.le_of_ble_eq_true rfl) (Nat.le_of_ble_eq_true rfl) ?_
  refine W.eq (g2 := F0 m 4 ls []) rfl ?_
  refine lv_aload_n hx hb dX0_init_4 rfl (lv_at hl 0 rfl) ?_
  refine va_new (ci := 5) (fs := [.null]) (C := RX5) (T := TX5) (N := 1) hx hb hts (vz_in (i := 22) (n := 1) rfl : ∀ w ∈ u_ws RX5 TX5 1, w ∈ wsX0_init) tyX5 tyX5_ok hown (hts (.classLink RX0 9 RX5) (List.mem_of_getElem? (i := 4) rfl)) (hts (.instantiable RX5 1) (List.mem_of_getElem? (i := 5) rfl)) (hts (.initialized RX5) (List.mem_of_getElem? (i := 6) rfl)) hK hP hD hS hA rfl (fun j hj => match j, hj with | 0, _ => rfl | (k + 1), h => absurd h (by omega)) (Nat.le_of_ble_eq_true rfl) (Nat.le_of_ble_eq_true rfl) dX0_init_5 (fun q5 H hP hD hS => ?_)
  have hP : va_P D vwCl [(r, .inr (0, [.null, .null, .null, .null, .int 0])), (q5, .inr (5, [.null]))] _ := hP
  have hD : va_D A [(r, .inr (0, [.null, .null, .null, .null, .int 0])), (q5, .inr (5, [.null]))] := hD
  refine W.widen (k := 1) (n := 1) (Nat.le_of_ble_eq_true rfl) (Nat.le_of_ble_eq_true rfl) ?_
  refine lv_dup hx hb dX0_init_8 rfl ?_
  refine lv_bipush (v := 6) hx hb dX0_init_9 (by decide) ?_
  have hPc := hP.sub (ws' := [(q5, .inr (5, [.null]))]) [1] rfl
  have hDc := hD.sub (ws' := [(q5, .inr (5, [.null]))]) [1] (by decide) rfl
  have hFc := va_free (wc := [(q5, .inr (5, [.null]))]) hD hS hA [1] rfl
  refine va_callv (va_runI (As := [.int 6]) (rest := [.ref q5, .ref r]) ⟨hx, hb, hml, hown, hts⟩ (c_X5_init l D cI q5 H.size 6 (Nat.le_of_ble_eq_true rfl)) (cwI 1 hts gX0_init_X5_init rfl rfl rfl (hts (.initialized RX5) (List.mem_of_getElem? (i := 6) rfl)) (hts (.methodLink RX0 11 yX5_init) (List.mem_of_getElem? (i := 12) rfl)) (hts (.instanceMethod yX5_init) (List.mem_of_getElem? (i := 13) rfl)) rfl (by decide +kernel) ⟨Nat.le_of_ble_eq_true rfl, Nat.le_of_ble_eq_true rfl⟩) (vz_psW hZ hPc hDc) rfl rfl hl.1 rfl (lv_room (Nat.le_of_ble_eq_true rfl)) dX0_init_11 ⟨Nat.le_of_ble_eq_true rfl, Nat.le_of_ble_eq_true rfl⟩) hS (fun q _ h => hFc q h) hFc (fun u_11 t H1 locs ht hvm hw hB hz1 hk1 hS => ?_)
  obtain ⟨hP1, hD1⟩ := hB ; rw [ht] at hP1
  generalize u_11 = a11_0 at hP1 hD1
  have hP1 : va_P D vwCl [(q5, .inr (5, [.ref a11_0])), (a11_0, .inl (cI, 6, .inl (fun _ => 0)))] H1 := hP1
  have hD1 : va_D (va_A [(q5, .inr (5, [.null]))] H.size) [(q5, .inr (5, [.ref a11_0])), (a11_0, .inl (cI, 6, .inl (fun _ => 0)))] := hD1
  obtain ⟨hP, hD⟩ := va_join (wr := [(r, .inr (0, [.null, .null, .null, .null, .int 0]))]) (w1 := [(q5, .inr (5, [.ref a11_0])), (a11_0, .inl (cI, 6, .inl (fun _ => 0)))]) hP hD [1] [0] rfl rfl (by decide) (by decide) hk1 hFc hP1 hD1
  clear hP1 hD1 hPc hDc hFc hk1 hz1 ; generalize H1 = H at hP hS ht ⊢ ; clear ht
  have hP : va_P D vwCl [(r, .inr (0, [.null, .null, .null, .null, .int 0])), (q5, .inr (5, [.ref a11_0])), (a11_0, .inl (cI, 6, .inl (fun _ => 0)))] _ := hP
  have hD : va_D A [(r, .inr (0, [.null, .null, .null, .null, .int 0])), (q5, .inr (5, [.ref a11_0])), (a11_0, .inl (cI, 6, .inl (fun _ => 0)))] := hD
  refine W.widen (k := 2) (n := 7) (Nat.le_of_ble_eq_true rfl) (Nat.le_of_ble_eq_true rfl) ?_
  refine va_putF (D := D) (ci := 0) (v := .ref q5) (ty := (.object "SongsAgain$Row")) (C := RX0) (T := TX0) (N := 5) hx hb hts (vz_in (i := 23) (n := 5) rfl : ∀ w ∈ u_ws RX0 TX0 5, w ∈ wsX0_init) tyX0 tyX0_ok nmX0 hown hK hP hD hS 0 rfl rfl 0 (by decide) (hts (.fieldLink RX0 14 "SongsAgain$Book" "kinds" "LSongsAgain$Row;") (List.mem_of_getElem? (i := 7) rfl)) (fun _ h9 => h9) rfl hin rfl (by decide +kernel) rfl rfl (Nat.le_of_ble_eq_true rfl) dX0_init_14 (fun H locs hP hD hS => ?_)
  have hP : va_P D vwCl [(r, .inr (0, [.ref q5, .null, .null, .null, .int 0])), (q5, .inr (5, [.ref a11_0])), (a11_0, .inl (cI, 6, .inl (fun _ => 0)))] _ := hP
  have hD : va_D A [(r, .inr (0, [.ref q5, .null, .null, .null, .int 0])), (q5, .inr (5, [.ref a11_0])), (a11_0, .inl (cI, 6, .inl (fun _ => 0)))] := hD
  refine lv_aload_n hx hb dX0_init_17 rfl (lv_at hl 0 rfl) ?_
  refine va_new (ci := 5) (fs := [.null]) (C := RX5) (T := TX5) (N := 1) hx hb hts (vz_in (i := 22) (n := 1) rfl : ∀ w ∈ u_ws RX5 TX5 1, w ∈ wsX0_init) tyX5 tyX5_ok hown (hts (.classLink RX0 9 RX5) (List.mem_of_getElem? (i := 4) rfl)) (hts (.instantiable RX5 1) (List.mem_of_getElem? (i := 5) rfl)) (hts (.initialized RX5) (List.mem_of_getElem? (i := 6) rfl)) hK hP hD hS hA rfl (fun j hj => match j, hj with | 0, _ => rfl | (k + 1), h => absurd h (by omega)) (Nat.le_of_ble_eq_true rfl) (Nat.le_of_ble_eq_true rfl) dX0_init_18 (fun q18 H hP hD hS => ?_)
  have hP : va_P D vwCl [(r, .inr (0, [.ref q5, .null, .null, .null, .int 0])), (q5, .inr (5, [.ref a11_0])), (a11_0, .inl (cI, 6, .inl (fun _ => 0))), (q18, .inr (5, [.null]))] _ := hP
  have hD : va_D A [(r, .inr (0, [.ref q5, .null, .null, .null, .int 0])), (q5, .inr (5, [.ref a11_0])), (a11_0, .inl (cI, 6, .inl (fun _ => 0))), (q18, .inr (5, [.null]))] := hD
  refine W.widen (k := 3) (n := 8) (Nat.le_of_ble_eq_true rfl) (Nat.le_of_ble_eq_true rfl) ?_
  refine lv_dup hx hb dX0_init_21 rfl ?_
  refine lv_bipush (v := 6) hx hb dX0_init_22 (by decide) ?_
  have hPc := hP.sub (ws' := [(q18, .inr (5, [.null]))]) [3] rfl
  have hDc := hD.sub (ws' := [(q18, .inr (5, [.null]))]) [3] (by decide) rfl
  have hFc := va_free (wc := [(q18, .inr (5, [.null]))]) hD hS hA [3] rfl
  refine va_callv (va_runI (As := [.int 6]) (rest := [.ref q18, .ref r]) ⟨hx, hb, hml, hown, hts⟩ (c_X5_init l D cI q18 H.size 6 (Nat.le_of_ble_eq_true rfl)) (cwI 1 hts gX0_init_X5_init rfl rfl rfl (hts (.initialized RX5) (List.mem_of_getElem? (i := 6) rfl)) (hts (.methodLink RX0 11 yX5_init) (List.mem_of_getElem? (i := 12) rfl)) (hts (.instanceMethod yX5_init) (List.mem_of_getElem? (i := 13) rfl)) rfl (by decide +kernel) ⟨Nat.le_of_ble_eq_true rfl, Nat.le_of_ble_eq_true rfl⟩) (vz_psW hZ hPc hDc) rfl rfl hl.1 rfl (lv_room (Nat.le_of_ble_eq_true rfl)) dX0_init_24 ⟨Nat.le_of_ble_eq_true rfl, Nat.le_of_ble_eq_true rfl⟩) hS (fun q _ h => hFc q h) hFc (fun u_24 t H1 locs ht hvm hw hB hz1 hk1 hS => ?_)
  obtain ⟨hP1, hD1⟩ := hB ; rw [ht] at hP1
  generalize u_24 = a24_0 at hP1 hD1
  have hP1 : va_P D vwCl [(q18, .inr (5, [.ref a24_0])), (a24_0, .inl (cI, 6, .inl (fun _ => 0)))] H1 := hP1
  have hD1 : va_D (va_A [(q18, .inr (5, [.null]))] H.size) [(q18, .inr (5, [.ref a24_0])), (a24_0, .inl (cI, 6, .inl (fun _ => 0)))] := hD1
  obtain ⟨hP, hD⟩ := va_join (wr := [(r, .inr (0, [.ref q5, .null, .null, .null, .int 0])), (q5, .inr (5, [.ref a11_0])), (a11_0, .inl (cI, 6, .inl (fun _ => 0)))]) (w1 := [(q18, .inr (5, [.ref a24_0])), (a24_0, .inl (cI, 6, .inl (fun _ => 0)))]) hP hD [3] [0, 1, 2] rfl rfl (by decide) (by decide) hk1 hFc hP1 hD1
  clear hP1 hD1 hPc hDc hFc hk1 hz1 ; generalize H1 = H at hP hS ht ⊢ ; clear ht
  have hP : va_P D vwCl [(r, .inr (0, [.ref q5, .null, .null, .null, .int 0])), (q5, .inr (5, [.ref a11_0])), (a11_0, .inl (cI, 6, .inl (fun _ => 0))), (q18, .inr (5, [.ref a24_0])), (a24_0, .inl (cI, 6, .inl (fun _ => 0)))] _ := hP
  have hD : va_D A [(r, .inr (0, [.ref q5, .null, .null, .null, .int 0])), (q5, .inr (5, [.ref a11_0])), (a11_0, .inl (cI, 6, .inl (fun _ => 0))), (q18, .inr (5, [.ref a24_0])), (a24_0, .inl (cI, 6, .inl (fun _ => 0)))] := hD
  refine W.widen (k := 4) (n := 14) (Nat.le_of_ble_eq_true rfl) (Nat.le_of_ble_eq_true rfl) ?_
  refine va_putF (D := D) (ci := 0) (v := .ref q18) (ty := (.object "SongsAgain$Row")) (C := RX0) (T := TX0) (N := 5) hx hb hts (vz_in (i := 23) (n := 5) rfl : ∀ w ∈ u_ws RX0 TX0 5, w ∈ wsX0_init) tyX0 tyX0_ok nmX0 hown hK hP hD hS 0 rfl rfl 1 (by decide) (hts (.fieldLink RX0 20 "SongsAgain$Book" "singers" "LSongsAgain$Row;") (List.mem_of_getElem? (i := 8) rfl)) (fun _ h9 => h9) rfl hin rfl (by decide +kernel) rfl rfl (Nat.le_of_ble_eq_true rfl) dX0_init_27 (fun H locs hP hD hS => ?_)
  have hP : va_P D vwCl [(r, .inr (0, [.ref q5, .ref q18, .null, .null, .int 0])), (q5, .inr (5, [.ref a11_0])), (a11_0, .inl (cI, 6, .inl (fun _ => 0))), (q18, .inr (5, [.ref a24_0])), (a24_0, .inl (cI, 6, .inl (fun _ => 0)))] _ := hP
  have hD : va_D A [(r, .inr (0, [.ref q5, .ref q18, .null, .null, .int 0])), (q5, .inr (5, [.ref a11_0])), (a11_0, .inl (cI, 6, .inl (fun _ => 0))), (q18, .inr (5, [.ref a24_0])), (a24_0, .inl (cI, 6, .inl (fun _ => 0)))] := hD
  refine lv_aload_n hx hb dX0_init_30 rfl (lv_at hl 0 rfl) ?_
  refine va_new (ci := 5) (fs := [.null]) (C := RX5) (T := TX5) (N := 1) hx hb hts (vz_in (i := 22) (n := 1) rfl : ∀ w ∈ u_ws RX5 TX5 1, w ∈ wsX0_init) tyX5 tyX5_ok hown (hts (.classLink RX0 9 RX5) (List.mem_of_getElem? (i := 4) rfl)) (hts (.instantiable RX5 1) (List.mem_of_getElem? (i := 5) rfl)) (hts (.initialized RX5) (List.mem_of_getElem? (i := 6) rfl)) hK hP hD hS hA rfl (fun j hj => match j, hj with | 0, _ => rfl | (k + 1), h => absurd h (by omega)) (Nat.le_of_ble_eq_true rfl) (Nat.le_of_ble_eq_true rfl) dX0_init_31 (fun q31 H hP hD hS => ?_)
  have hP : va_P D vwCl [(r, .inr (0, [.ref q5, .ref q18, .null, .null, .int 0])), (q5, .inr (5, [.ref a11_0])), (a11_0, .inl (cI, 6, .inl (fun _ => 0))), (q18, .inr (5, [.ref a24_0])), (a24_0, .inl (cI, 6, .inl (fun _ => 0))), (q31, .inr (5, [.null]))] _ := hP
  have hD : va_D A [(r, .inr (0, [.ref q5, .ref q18, .null, .null, .int 0])), (q5, .inr (5, [.ref a11_0])), (a11_0, .inl (cI, 6, .inl (fun _ => 0))), (q18, .inr (5, [.ref a24_0])), (a24_0, .inl (cI, 6, .inl (fun _ => 0))), (q31, .inr (5, [.null]))] := hD
  refine W.widen (k := 5) (n := 15) (Nat.le_of_ble_eq_true rfl) (Nat.le_of_ble_eq_true rfl) ?_
  refine lv_dup hx hb dX0_init_34 rfl ?_
  refine lv_bipush (v := 6) hx hb dX0_init_35 (by decide) ?_
  have hPc := hP.sub (ws' := [(q31, .inr (5, [.null]))]) [5] rfl
  have hDc := hD.sub (ws' := [(q31, .inr (5, [.null]))]) [5] (by decide) rfl
  have hFc := va_free (wc := [(q31, .inr (5, [.null]))]) hD hS hA [5] rfl
  refine va_callv (va_runI (As := [.int 6]) (rest := [.ref q31, .ref r]) ⟨hx, hb, hml, hown, hts⟩ (c_X5_init l D cI q31 H.size 6 (Nat.le_of_ble_eq_true rfl)) (cwI 1 hts gX0_init_X5_init rfl rfl rfl (hts (.initialized RX5) (List.mem_of_getElem? (i := 6) rfl)) (hts (.methodLink RX0 11 yX5_init) (List.mem_of_getElem? (i := 12) rfl)) (hts (.instanceMethod yX5_init) (List.mem_of_getElem? (i := 13) rfl)) rfl (by decide +kernel) ⟨Nat.le_of_ble_eq_true rfl, Nat.le_of_ble_eq_true rfl⟩) (vz_psW hZ hPc hDc) rfl rfl hl.1 rfl (lv_room (Nat.le_of_ble_eq_true rfl)) dX0_init_37 ⟨Nat.le_of_ble_eq_true rfl, Nat.le_of_ble_eq_true rfl⟩) hS (fun q _ h => hFc q h) hFc (fun u_37 t H1 locs ht hvm hw hB hz1 hk1 hS => ?_)
  obtain ⟨hP1, hD1⟩ := hB ; rw [ht] at hP1
  generalize u_37 = a37_0 at hP1 hD1
  have hP1 : va_P D vwCl [(q31, .inr (5, [.ref a37_0])), (a37_0, .inl (cI, 6, .inl (fun _ => 0)))] H1 := hP1
  have hD1 : va_D (va_A [(q31, .inr (5, [.null]))] H.size) [(q31, .inr (5, [.ref a37_0])), (a37_0, .inl (cI, 6, .inl (fun _ => 0)))] := hD1
  obtain ⟨hP, hD⟩ := va_join (wr := [(r, .inr (0, [.ref q5, .ref q18, .null, .null, .int 0])), (q5, .inr (5, [.ref a11_0])), (a11_0, .inl (cI, 6, .inl (fun _ => 0))), (q18, .inr (5, [.ref a24_0])), (a24_0, .inl (cI, 6, .inl (fun _ => 0)))]) (w1 := [(q31, .inr (5, [.ref a37_0])), (a37_0, .inl (cI, 6, .inl (fun _ => 0)))]) hP hD [5] [0, 1, 2, 3, 4] rfl rfl (by decide) (by decide) hk1 hFc hP1 hD1
  clear hP1 hD1 hPc hDc hFc hk1 hz1 ; generalize H1 = H at hP hS ht ⊢ ; clear ht
  have hP : va_P D vwCl [(r, .inr (0, [.ref q5, .ref q18, .null, .null, .int 0])), (q5, .inr (5, [.ref a11_0])), (a11_0, .inl (cI, 6, .inl (fun _ => 0))), (q18, .inr (5, [.ref a24_0])), (a24_0, .inl (cI, 6, .inl (fun _ => 0))), (q31, .inr (5, [.ref a37_0])), (a37_0, .inl (cI, 6, .inl (fun _ => 0)))] _ := hP
  have hD : va_D A [(r, .inr (0, [.ref q5, .ref q18, .null, .null, .int 0])), (q5, .inr (5, [.ref a11_0])), (a11_0, .inl (cI, 6, .inl (fun _ => 0))), (q18, .inr (5, [.ref a24_0])), (a24_0, .inl (cI, 6, .inl (fun _ => 0))), (q31, .inr (5, [.ref a37_0])), (a37_0, .inl (cI, 6, .inl (fun _ => 0)))] := hD
  refine W.widen (k := 6) (n := 21) (Nat.le_of_ble_eq_true rfl) (Nat.le_of_ble_eq_true rfl) ?_
  refine va_putF (D := D) (ci := 0) (v := .ref q31) (ty := (.object "SongsAgain$Row")) (C := RX0) (T := TX0) (N := 5) hx hb hts (vz_in (i := 23) (n := 5) rfl : ∀ w ∈ u_ws RX0 TX0 5, w ∈ wsX0_init) tyX0 tyX0_ok nmX0 hown hK hP hD hS 0 rfl rfl 2 (by decide) (hts (.fieldLink RX0 23 "SongsAgain$Book" "weights" "LSongsAgain$Row;") (List.mem_of_getElem? (i := 9) rfl)) (fun _ h9 => h9) rfl hin rfl (by decide +kernel) rfl rfl (Nat.le_of_ble_eq_true rfl) dX0_init_40 (fun H locs hP hD hS => ?_)
  have hP : va_P D vwCl [(r, .inr (0, [.ref q5, .ref q18, .ref q31, .null, .int 0])), (q5, .inr (5, [.ref a11_0])), (a11_0, .inl (cI, 6, .inl (fun _ => 0))), (q18, .inr (5, [.ref a24_0])), (a24_0, .inl (cI, 6, .inl (fun _ => 0))), (q31, .inr (5, [.ref a37_0])), (a37_0, .inl (cI, 6, .inl (fun _ => 0)))] _ := hP
  have hD : va_D A [(r, .inr (0, [.ref q5, .ref q18, .ref q31, .null, .int 0])), (q5, .inr (5, [.ref a11_0])), (a11_0, .inl (cI, 6, .inl (fun _ => 0))), (q18, .inr (5, [.ref a24_0])), (a24_0, .inl (cI, 6, .inl (fun _ => 0))), (q31, .inr (5, [.ref a37_0])), (a37_0, .inl (cI, 6, .inl (fun _ => 0)))] := hD
  refine lv_aload_n hx hb dX0_init_43 rfl (lv_at hl 0 rfl) ?_
  refine va_new (ci := 5) (fs := [.null]) (C := RX5) (T := TX5) (N := 1) hx hb hts (vz_in (i := 22) (n := 1) rfl : ∀ w ∈ u_ws RX5 TX5 1, w ∈ wsX0_init) tyX5 tyX5_ok hown (hts (.classLink RX0 9 RX5) (List.mem_of_getElem? (i := 4) rfl)) (hts (.instantiable RX5 1) (List.mem_of_getElem? (i := 5) rfl)) (hts (.initialized RX5) (List.mem_of_getElem? (i := 6) rfl)) hK hP hD hS hA rfl (fun j hj => match j, hj with | 0, _ => rfl | (k + 1), h => absurd h (by omega)) (Nat.le_of_ble_eq_true rfl) (Nat.le_of_ble_eq_true rfl) dX0_init_44 (fun q44 H hP hD hS => ?_)
  have hP : va_P D vwCl [(r, .inr (0, [.ref q5, .ref q18, .ref q31, .null, .int 0])), (q5, .inr (5, [.ref a11_0])), (a11_0, .inl (cI, 6, .inl (fun _ => 0))), (q18, .inr (5, [.ref a24_0])), (a24_0, .inl (cI, 6, .inl (fun _ => 0))), (q31, .inr (5, [.ref a37_0])), (a37_0, .inl (cI, 6, .inl (fun _ => 0))), (q44, .inr (5, [.null]))] _ := hP
  have hD : va_D A [(r, .inr (0, [.ref q5, .ref q18, .ref q31, .null, .int 0])), (q5, .inr (5, [.ref a11_0])), (a11_0, .inl (cI, 6, .inl (fun _ => 0))), (q18, .inr (5, [.ref a24_0])), (a24_0, .inl (cI, 6, .inl (fun _ => 0))), (q31, .inr (5, [.ref a37_0])), (a37_0, .inl (cI, 6, .inl (fun _ => 0))), (q44, .inr (5, [.null]))] := hD
  refine W.widen (k := 7) (n := 22) (Nat.le_of_ble_eq_true rfl) (Nat.le_of_ble_eq_true rfl) ?_
  refine lv_dup hx hb dX0_init_47 rfl ?_
  refine lv_bipush (v := 6) hx hb dX0_init_48 (by decide) ?_
  have hPc := hP.sub (ws' := [(q44, .inr (5, [.null]))]) [7] rfl
  have hDc := hD.sub (ws' := [(q44, .inr (5, [.null]))]) [7] (by decide) rfl
  have hFc := va_free (wc := [(q44, .inr (5, [.null]))]) hD hS hA [7] rfl
  refine va_callv (va_runI (As := [.int 6]) (rest := [.ref q44, .ref r]) ⟨hx, hb, hml, hown, hts⟩ (c_X5_init l D cI q44 H.size 6 (Nat.le_of_ble_eq_true rfl)) (cwI 1 hts gX0_init_X5_init rfl rfl rfl (hts (.initialized RX5) (List.mem_of_getElem? (i := 6) rfl)) (hts (.methodLink RX0 11 yX5_init) (List.mem_of_getElem? (i := 12) rfl)) (hts (.instanceMethod yX5_init) (List.mem_of_getElem? (i := 13) rfl)) rfl (by decide +kernel) ⟨Nat.le_of_ble_eq_true rfl, Nat.le_of_ble_eq_true rfl⟩) (vz_psW hZ hPc hDc) rfl rfl hl.1 rfl (lv_room (Nat.le_of_ble_eq_true rfl)) dX0_init_50 ⟨Nat.le_of_ble_eq_true rfl, Nat.le_of_ble_eq_true rfl⟩) hS (fun q _ h => hFc q h) hFc (fun u_50 t H1 locs ht hvm hw hB hz1 hk1 hS => ?_)
  obtain ⟨hP1, hD1⟩ := hB ; rw [ht] at hP1
  generalize u_50 = a50_0 at hP1 hD1
  have hP1 : va_P D vwCl [(q44, .inr (5, [.ref a50_0])), (a50_0, .inl (cI, 6, .inl (fun _ => 0)))] H1 := hP1
  have hD1 : va_D (va_A [(q44, .inr (5, [.null]))] H.size) [(q44, .inr (5, [.ref a50_0])), (a50_0, .inl (cI, 6, .inl (fun _ => 0)))] := hD1
  obtain ⟨hP, hD⟩ := va_join (wr := [(r, .inr (0, [.ref q5, .ref q18, .ref q31, .null, .int 0])), (q5, .inr (5, [.ref a11_0])), (a11_0, .inl (cI, 6, .inl (fun _ => 0))), (q18, .inr (5, [.ref a24_0])), (a24_0, .inl (cI, 6, .inl (fun _ => 0))), (q31, .inr (5, [.ref a37_0])), (a37_0, .inl (cI, 6, .inl (fun _ => 0)))]) (w1 := [(q44, .inr (5, [.ref a50_0])), (a50_0, .inl (cI, 6, .inl (fun _ => 0)))]) hP hD [7] [0, 1, 2, 3, 4, 5, 6] rfl rfl (by decide) (by decide) hk1 hFc hP1 hD1
  clear hP1 hD1 hPc hDc hFc hk1 hz1 ; generalize H1 = H at hP hS ht ⊢ ; clear ht
  have hP : va_P D vwCl [(r, .inr (0, [.ref q5, .ref q18, .ref q31, .null, .int 0])), (q5, .inr (5, [.ref a11_0])), (a11_0, .inl (cI, 6, .inl (fun _ => 0))), (q18, .inr (5, [.ref a24_0])), (a24_0, .inl (cI, 6, .inl (fun _ => 0))), (q31, .inr (5, [.ref a37_0])), (a37_0, .inl (cI, 6, .inl (fun _ => 0))), (q44, .inr (5, [.ref a50_0])), (a50_0, .inl (cI, 6, .inl (fun _ => 0)))] _ := hP
  have hD : va_D A [(r, .inr (0, [.ref q5, .ref q18, .ref q31, .null, .int 0])), (q5, .inr (5, [.ref a11_0])), (a11_0, .inl (cI, 6, .inl (fun _ => 0))), (q18, .inr (5, [.ref a24_0])), (a24_0, .inl (cI, 6, .inl (fun _ => 0))), (q31, .inr (5, [.ref a37_0])), (a37_0, .inl (cI, 6, .inl (fun _ => 0))), (q44, .inr (5, [.ref a50_0])), (a50_0, .inl (cI, 6, .inl (fun _ => 0)))] := hD
  refine W.widen (k := 8) (n := 28) (Nat.le_of_ble_eq_true rfl) (Nat.le_of_ble_eq_true rfl) ?_
  refine va_putF (D := D) (ci := 0) (v := .ref q44) (ty := (.object "SongsAgain$Row")) (C := RX0) (T := TX0) (N := 5) hx hb hts (vz_in (i := 23) (n := 5) rfl : ∀ w ∈ u_ws RX0 TX0 5, w ∈ wsX0_init) tyX0 tyX0_ok nmX0 hown hK hP hD hS 0 rfl rfl 3 (by decide) (hts (.fieldLink RX0 26 "SongsAgain$Book" "minutes" "LSongsAgain$Row;") (List.mem_of_getElem? (i := 10) rfl)) (fun _ h9 => h9) rfl hin rfl (by decide +kernel) rfl rfl (Nat.le_of_ble_eq_true rfl) dX0_init_53 (fun H locs hP hD hS => ?_)
  have hP : va_P D vwCl [(r, .inr (0, [.ref q5, .ref q18, .ref q31, .ref q44, .int 0])), (q5, .inr (5, [.ref a11_0])), (a11_0, .inl (cI, 6, .inl (fun _ => 0))), (q18, .inr (5, [.ref a24_0])), (a24_0, .inl (cI, 6, .inl (fun _ => 0))), (q31, .inr (5, [.ref a37_0])), (a37_0, .inl (cI, 6, .inl (fun _ => 0))), (q44, .inr (5, [.ref a50_0])), (a50_0, .inl (cI, 6, .inl (fun _ => 0)))] _ := hP
  have hD : va_D A [(r, .inr (0, [.ref q5, .ref q18, .ref q31, .ref q44, .int 0])), (q5, .inr (5, [.ref a11_0])), (a11_0, .inl (cI, 6, .inl (fun _ => 0))), (q18, .inr (5, [.ref a24_0])), (a24_0, .inl (cI, 6, .inl (fun _ => 0))), (q31, .inr (5, [.ref a37_0])), (a37_0, .inl (cI, 6, .inl (fun _ => 0))), (q44, .inr (5, [.ref a50_0])), (a50_0, .inl (cI, 6, .inl (fun _ => 0)))] := hD
  refine lv_aload_n hx hb dX0_init_56 rfl (lv_at hl 0 rfl) ?_
  refine lv_iconst (v := 0) hx hb dX0_init_57 (by decide) ?_
  refine va_put (D := D) (ci := 0) (v := .int 0) (ty := .int) (C := RX0) (T := TX0) (N := 5) hx hb hts (vz_in (i := 23) (n := 5) rfl : ∀ w ∈ u_ws RX0 TX0 5, w ∈ wsX0_init) tyX0 tyX0_ok nmX0 hown hK hP hD hS 0 rfl rfl 4 (by decide) (hts (.fieldLink RX0 29 "SongsAgain$Book" "number" "I") (List.mem_of_getElem? (i := 11) rfl)) (fun _ h9 => h9) rfl (by decide +kernel) rfl rfl (Nat.le_of_ble_eq_true rfl) dX0_init_58 (fun H locs hP hD hS => ?_)
  have hP : va_P D vwCl [(r, .inr (0, [.ref q5, .ref q18, .ref q31, .ref q44, .int 0])), (q5, .inr (5, [.ref a11_0])), (a11_0, .inl (cI, 6, .inl (fun _ => 0))), (q18, .inr (5, [.ref a24_0])), (a24_0, .inl (cI, 6, .inl (fun _ => 0))), (q31, .inr (5, [.ref a37_0])), (a37_0, .inl (cI, 6, .inl (fun _ => 0))), (q44, .inr (5, [.ref a50_0])), (a50_0, .inl (cI, 6, .inl (fun _ => 0)))] _ := hP
  have hD : va_D A [(r, .inr (0, [.ref q5, .ref q18, .ref q31, .ref q44, .int 0])), (q5, .inr (5, [.ref a11_0])), (a11_0, .inl (cI, 6, .inl (fun _ => 0))), (q18, .inr (5, [.ref a24_0])), (a24_0, .inl (cI, 6, .inl (fun _ => 0))), (q31, .inr (5, [.ref a37_0])), (a37_0, .inl (cI, 6, .inl (fun _ => 0))), (q44, .inr (5, [.ref a50_0])), (a50_0, .inl (cI, 6, .inl (fun _ => 0)))] := hD
  exact W.vret hx hb hr (fun t ht hW => ⟨⟨(q5, a11_0, q18, a24_0, q31, a37_0, q44, a50_0), rfl, trivial, (by rw [ht]; exact hP), hD⟩, hS.F ht⟩) hS.2.2 dX0_init_61
set_option maxHeartbeats 4000000 in
set_option maxRecDepth 100000 in
theorem c_X1_init (l : Launch) (D : va_G) (cI : ClassId) (r : Nat) (sz : Nat) : Met l yX1_init wsX1_init ({ frames := 1, cells := 0, slots := 0, locals := 40 } : Room) (vz_rw D cI [(r, .inr (1, [.long 0, .long 0]))] sz [.ref r]) (va_Qv (fun (_ : Unit) => True) (fun (u : Unit) (t : State) => va_P D vwCl [(r, .inr (1, [.long 0, .long 1]))] t.heap ∧ va_D (va_A [(r, .inr (1, [.long 0, .long 0]))] sz) [(r, .inr (1, [.long 0, .long 1]))]) (va_A [(r, .inr (1, [.long 0, .long 0]))] sz)) 0 0 (va_A [(r, .inr (1, [.long 0, .long 0]))] sz) := by
  refine Met.ofW (cc := cX1_init) (maxL := 1) (ret := none) (by decide) rfl ?_
  intro p e s m args below meth c s₁ B hml hv
  obtain ⟨rfl, hsz, hP, hZ, hD0⟩ := hv
  obtain ⟨hK, hN⟩ := id hZ
  have hx := B.exec
  have hb := B.bytes
  have hr := B.returns
  have hts := atoms_spec (ws := wsX1_init) B.pre
  have hown : s.vm.findClass RX1 = some m.cls := findClass_of_methodNamed B.named
  have hlocks := B.notSynchronized
  have hin : meth.name = "<init>" := (name_of_methodNamed B.named B.method).1
  subst hsz
  have hD := hD0.self (sz := s.heap.size)
  generalize hAe : va_A [(r, .inr (1, [.long 0, .long 0]))] s.heap.size = A at hD ⊢
  have hA : ∀ q : Nat, s.heap.size ≤ q → A q := fun q h => by rw [← hAe]; exact Or.inr h
  have hS : va_S A s.heap s.heap [] := va_S.rf
  have hP : va_P D vwCl [(r, .inr (1, [.long 0, .long 0]))] s.heap := hP
  have hl := lv_entry ([.ref r]) (n := 1) (Nat.le_of_ble_eq_true rfl)
  rw [lg_entry_eq]
  generalize (lg_sl ([.ref r]) ++ List.replicate (1 - (lg_sl ([.ref r])).length) Slot.unset).toArray = ls at hl ⊢
  have hl : lv_has ls 1 [(0, .ref r)] := hl
  refine lv_aload_n hx hb dX1_init_0 rfl (lv_at hl 0 rfl) ?_
  refine W.objInit hx hb hown (hts (.methodLink RX1 1 objectInit) (List.mem_of_getElem? (i := 1) rfl)) (hts (.instanceMethod objectInit) (List.mem_of_getElem? (i := 2) rfl)) (hts (.code objectInit ⟨#[0xb1]⟩ 1 none) (List.mem_of_getElem? (i := 3) rfl)) rfl (by rw [hml]; exact hl.1) rfl dX1_init_1 (Nat.le_of_ble_eq_true rfl) (Nat.le_of_ble_eq_true rfl) ?_
  refine W.eq (g2 := F0 m 4 ls []) rfl ?_
  refine lv_aload_n hx hb dX1_init_4 rfl (lv_at hl 0 rfl) ?_
  refine lv_lconst (v := 0) hx hb dX1_init_5 (by decide) ?_
  refine va_put (D := D) (ci := 1) (v := .long 0) (ty := .long) (C := RX1) (T := TX1) (N := 2) hx hb hts (vz_in (i := 6) (n := 2) rfl : ∀ w ∈ u_ws RX1 TX1 2, w ∈ wsX1_init) tyX1 tyX1_ok nmX1 hown hK hP hD hS 0 rfl rfl 0 (by decide) (hts (.fieldLink RX1 7 "SongsAgain$Fraction" "above" "J") (List.mem_of_getElem? (i := 4) rfl)) (fun _ h9 => h9) rfl (by decide +kernel) rfl rfl (Nat.le_of_ble_eq_true rfl) dX1_init_6 (fun H locs hP hD hS => ?_)
  have hP : va_P D vwCl [(r, .inr (1, [.long 0, .long 0]))] _ := hP
  have hD : va_D A [(r, .inr (1, [.long 0, .long 0]))] := hD
  refine lv_aload_n hx hb dX1_init_9 rfl (lv_at hl 0 rfl) ?_
  refine lv_lconst (v := 1) hx hb dX1_init_10 (by decide) ?_
  refine va_put (D := D) (ci := 1) (v := .long 1) (ty := .long) (C := RX1) (T := TX1) (N := 2) hx hb hts (vz_in (i := 6) (n := 2) rfl : ∀ w ∈ u_ws RX1 TX1 2, w ∈ wsX1_init) tyX1 tyX1_ok nmX1 hown hK hP hD hS 0 rfl rfl 1 (by decide) (hts (.fieldLink RX1 13 "SongsAgain$Fraction" "below" "J") (List.mem_of_getElem? (i := 5) rfl)) (fun _ h9 => h9) rfl (by decide +kernel) rfl rfl (Nat.le_of_ble_eq_true rfl) dX1_init_11 (fun H locs hP hD hS => ?_)
  have hP : va_P D vwCl [(r, .inr (1, [.long 0, .long 1]))] _ := hP
  have hD : va_D A [(r, .inr (1, [.long 0, .long 1]))] := hD
  exact W.vret hx hb hr (fun t ht hW => ⟨⟨(), rfl, trivial, (by rw [ht]; exact hP), hD⟩, hS.F ht⟩) hS.2.2 dX1_init_14
set_option maxHeartbeats 4000000 in
set_option maxRecDepth 100000 in
theorem c_X2_init (l : Launch) (D : va_G) (cI : ClassId) (r : Nat) (sz : Nat) : Met l yX2_init wsX2_init ({ frames := 2, cells := 4, slots := 14, locals := 61 } : Room) (vz_rw D cI [(r, .inr (2, [.null, .null, .int 0, .int 0]))] sz [.ref r]) (va_Qv (fun (_ : Nat × Nat × Nat × Nat) => True) (fun (u : Nat × Nat × Nat × Nat) (t : State) => va_P D vwCl [(r, .inr (2, [.ref u.1, .ref u.2.2.1, .int 0, .int 0])), (u.1, .inr (5, [.ref u.2.1])), (u.2.1, .inl (cI, 6, .inl (fun _ => 0))), (u.2.2.1, .inr (5, [.ref u.2.2.2])), (u.2.2.2, .inl (cI, 6, .inl (fun _ => 0)))] t.heap ∧ va_D (va_A [(r, .inr (2, [.null, .null, .int 0, .int 0]))] sz) [(r, .inr (2, [.ref u.1, .ref u.2.2.1, .int 0, .int 0])), (u.1, .inr (5, [.ref u.2.1])), (u.2.1, .inl (cI, 6, .inl (fun _ => 0))), (u.2.2.1, .inr (5, [.ref u.2.2.2])), (u.2.2.2, .inl (cI, 6, .inl (fun _ => 0)))]) (va_A [(r, .inr (2, [.null, .null, .int 0, .int 0]))] sz)) 4 14 (va_A [(r, .inr (2, [.null, .null, .int 0, .int 0]))] sz) := by
  refine Met.ofW (cc := cX2_init) (maxL := 1) (ret := none) (by decide) rfl ?_
  intro p e s m args below meth c s₁ B hml hv
  obtain ⟨rfl, hsz, hP, hZ, hD0⟩ := hv
  obtain ⟨hK, hN⟩ := id hZ
  have hx := B.exec
  have hb := B.bytes
  have hr := B.returns
  have hts := atoms_spec (ws := wsX2_init) B.pre
  have hown : s.vm.findClass RX2 = some m.cls := findClass_of_methodNamed B.named
  have hlocks := B.notSynchronized
  have hin : meth.name = "<init>" := (name_of_methodNamed B.named B.method).1
  subst hsz
  have hD := hD0.self (sz := s.heap.size)
  generalize hAe : va_A [(r, .inr (2, [.null, .null, .int 0, .int 0]))] s.heap.size = A at hD ⊢
  have hA : ∀ q : Nat, s.heap.size ≤ q → A q := fun q h => by rw [← hAe]; exact Or.inr h
  have hS : va_S A s.heap s.heap [] := va_S.rf
  have hP : va_P D vwCl [(r, .inr (2, [.null, .null, .int 0, .int 0]))] s.heap := hP
  have hl := lv_entry ([.ref r]) (n := 1) (Nat.le_of_ble_eq_true rfl)
  rw [lg_entry_eq]
  generalize (lg_sl ([.ref r]) ++ List.replicate (1 - (lg_sl ([.ref r])).length) Slot.unset).toArray = ls at hl ⊢
  have hl : lv_has ls 1 [(0, .ref r)] := hl
  refine lv_aload_n hx hb dX2_init_0 rfl (lv_at hl 0 rfl) ?_
  refine W.objInit hx hb hown (hts (.methodLink RX2 3 objectInit) (List.mem_of_getElem? (i := 1) rfl)) (hts (.instanceMethod objectInit) (List.mem_of_getElem? (i := 2) rfl)) (hts (.code objectInit ⟨#[0xb1]⟩ 1 none) (List.mem_of_getElem? (i := 3) rfl)) rfl (by rw [hml]; exact hl.1) rfl dX2_init_1 (Nat.le_of_ble_eq_true rfl) (Nat.le_of_ble_eq_true rfl) ?_
  refine W.eq (g2 := F0 m 4 ls []) rfl ?_
  refine lv_aload_n hx hb dX2_init_4 rfl (lv_at hl 0 rfl) ?_
  refine va_new (ci := 5) (fs := [.null]) (C := RX5) (T := TX5) (N := 1) hx hb hts (vz_in (i := 21) (n := 1) rfl : ∀ w ∈ u_ws RX5 TX5 1, w ∈ wsX2_init) tyX5 tyX5_ok hown (hts (.classLink RX2 9 RX5) (List.mem_of_getElem? (i := 4) rfl)) (hts (.instantiable RX5 1) (List.mem_of_getElem? (i := 5) rfl)) (hts (.initialized RX5) (List.mem_of_getElem? (i := 6) rfl)) hK hP hD hS hA rfl (fun j hj => match j, hj with | 0, _ => rfl | (k + 1), h => absurd h (by omega)) (Nat.le_of_ble_eq_true rfl) (Nat.le_of_ble_eq_true rfl) dX2_init_5 (fun q5 H hP hD hS => ?_)
  have hP : va_P D vwCl [(r, .inr (2, [.null, .null, .int 0, .int 0])), (q5, .inr (5, [.null]))] _ := hP
  have hD : va_D A [(r, .inr (2, [.null, .null, .int 0, .int 0])), (q5, .inr (5, [.null]))] := hD
  refine W.widen (k := 1) (n := 1) (Nat.le_of_ble_eq_true rfl) (Nat.le_of_ble_eq_true rfl) ?_
  refine lv_dup hx hb dX2_init_8 rfl ?_
  refine lv_bipush (v := 6) hx hb dX2_init_9 (by decide) ?_
  have hPc := hP.sub (ws' := [(q5, .inr (5, [.null]))]) [1] rfl
  have hDc := hD.sub (ws' := [(q5, .inr (5, [.null]))]) [1] (by decide) rfl
  have hFc := va_free (wc := [(q5, .inr (5, [.null]))]) hD hS hA [1] rfl
  refine va_callv (va_runI (As := [.int 6]) (rest := [.ref q5, .ref r]) ⟨hx, hb, hml, hown, hts⟩ (c_X5_init l D cI q5 H.size 6 (Nat.le_of_ble_eq_true rfl)) (cwI 1 hts gX2_init_X5_init rfl rfl rfl (hts (.initialized RX5) (List.mem_of_getElem? (i := 6) rfl)) (hts (.methodLink RX2 11 yX5_init) (List.mem_of_getElem? (i := 11) rfl)) (hts (.instanceMethod yX5_init) (List.mem_of_getElem? (i := 12) rfl)) rfl (by decide +kernel) ⟨Nat.le_of_ble_eq_true rfl, Nat.le_of_ble_eq_true rfl⟩) (vz_psW hZ hPc hDc) rfl rfl hl.1 rfl (lv_room (Nat.le_of_ble_eq_true rfl)) dX2_init_11 ⟨Nat.le_of_ble_eq_true rfl, Nat.le_of_ble_eq_true rfl⟩) hS (fun q _ h => hFc q h) hFc (fun u_11 t H1 locs ht hvm hw hB hz1 hk1 hS => ?_)
  obtain ⟨hP1, hD1⟩ := hB ; rw [ht] at hP1
  generalize u_11 = a11_0 at hP1 hD1
  have hP1 : va_P D vwCl [(q5, .inr (5, [.ref a11_0])), (a11_0, .inl (cI, 6, .inl (fun _ => 0)))] H1 := hP1
  have hD1 : va_D (va_A [(q5, .inr (5, [.null]))] H.size) [(q5, .inr (5, [.ref a11_0])), (a11_0, .inl (cI, 6, .inl (fun _ => 0)))] := hD1
  obtain ⟨hP, hD⟩ := va_join (wr := [(r, .inr (2, [.null, .null, .int 0, .int 0]))]) (w1 := [(q5, .inr (5, [.ref a11_0])), (a11_0, .inl (cI, 6, .inl (fun _ => 0)))]) hP hD [1] [0] rfl rfl (by decide) (by decide) hk1 hFc hP1 hD1
  clear hP1 hD1 hPc hDc hFc hk1 hz1 ; generalize H1 = H at hP hS ht ⊢ ; clear ht
  have hP : va_P D vwCl [(r, .inr (2, [.null, .null, .int 0, .int 0])), (q5, .inr (5, [.ref a11_0])), (a11_0, .inl (cI, 6, .inl (fun _ => 0)))] _ := hP
  have hD : va_D A [(r, .inr (2, [.null, .null, .int 0, .int 0])), (q5, .inr (5, [.ref a11_0])), (a11_0, .inl (cI, 6, .inl (fun _ => 0)))] := hD
  refine W.widen (k := 2) (n := 7) (Nat.le_of_ble_eq_true rfl) (Nat.le_of_ble_eq_true rfl) ?_
  refine va_putF (D := D) (ci := 2) (v := .ref q5) (ty := (.object "SongsAgain$Row")) (C := RX2) (T := TX2) (N := 4) hx hb hts (vz_in (i := 22) (n := 4) rfl : ∀ w ∈ u_ws RX2 TX2 4, w ∈ wsX2_init) tyX2 tyX2_ok nmX2 hown hK hP hD hS 0 rfl rfl 0 (by decide) (hts (.fieldLink RX2 14 "SongsAgain$Orders" "way" "LSongsAgain$Row;") (List.mem_of_getElem? (i := 7) rfl)) (fun _ h9 => h9) rfl hin rfl (by decide +kernel) rfl rfl (Nat.le_of_ble_eq_true rfl) dX2_init_14 (fun H locs hP hD hS => ?_)
  have hP : va_P D vwCl [(r, .inr (2, [.ref q5, .null, .int 0, .int 0])), (q5, .inr (5, [.ref a11_0])), (a11_0, .inl (cI, 6, .inl (fun _ => 0)))] _ := hP
  have hD : va_D A [(r, .inr (2, [.ref q5, .null, .int 0, .int 0])), (q5, .inr (5, [.ref a11_0])), (a11_0, .inl (cI, 6, .inl (fun _ => 0)))] := hD
  refine lv_aload_n hx hb dX2_init_17 rfl (lv_at hl 0 rfl) ?_
  refine va_new (ci := 5) (fs := [.null]) (C := RX5) (T := TX5) (N := 1) hx hb hts (vz_in (i := 21) (n := 1) rfl : ∀ w ∈ u_ws RX5 TX5 1, w ∈ wsX2_init) tyX5 tyX5_ok hown (hts (.classLink RX2 9 RX5) (List.mem_of_getElem? (i := 4) rfl)) (hts (.instantiable RX5 1) (List.mem_of_getElem? (i := 5) rfl)) (hts (.initialized RX5) (List.mem_of_getElem? (i := 6) rfl)) hK hP hD hS hA rfl (fun j hj => match j, hj with | 0, _ => rfl | (k + 1), h => absurd h (by omega)) (Nat.le_of_ble_eq_true rfl) (Nat.le_of_ble_eq_true rfl) dX2_init_18 (fun q18 H hP hD hS => ?_)
  have hP : va_P D vwCl [(r, .inr (2, [.ref q5, .null, .int 0, .int 0])), (q5, .inr (5, [.ref a11_0])), (a11_0, .inl (cI, 6, .inl (fun _ => 0))), (q18, .inr (5, [.null]))] _ := hP
  have hD : va_D A [(r, .inr (2, [.ref q5, .null, .int 0, .int 0])), (q5, .inr (5, [.ref a11_0])), (a11_0, .inl (cI, 6, .inl (fun _ => 0))), (q18, .inr (5, [.null]))] := hD
  refine W.widen (k := 3) (n := 8) (Nat.le_of_ble_eq_true rfl) (Nat.le_of_ble_eq_true rfl) ?_
  refine lv_dup hx hb dX2_init_21 rfl ?_
  refine lv_bipush (v := 6) hx hb dX2_init_22 (by decide) ?_
  have hPc := hP.sub (ws' := [(q18, .inr (5, [.null]))]) [3] rfl
  have hDc := hD.sub (ws' := [(q18, .inr (5, [.null]))]) [3] (by decide) rfl
  have hFc := va_free (wc := [(q18, .inr (5, [.null]))]) hD hS hA [3] rfl
  refine va_callv (va_runI (As := [.int 6]) (rest := [.ref q18, .ref r]) ⟨hx, hb, hml, hown, hts⟩ (c_X5_init l D cI q18 H.size 6 (Nat.le_of_ble_eq_true rfl)) (cwI 1 hts gX2_init_X5_init rfl rfl rfl (hts (.initialized RX5) (List.mem_of_getElem? (i := 6) rfl)) (hts (.methodLink RX2 11 yX5_init) (List.mem_of_getElem? (i := 11) rfl)) (hts (.instanceMethod yX5_init) (List.mem_of_getElem? (i := 12) rfl)) rfl (by decide +kernel) ⟨Nat.le_of_ble_eq_true rfl, Nat.le_of_ble_eq_true rfl⟩) (vz_psW hZ hPc hDc) rfl rfl hl.1 rfl (lv_room (Nat.le_of_ble_eq_true rfl)) dX2_init_24 ⟨Nat.le_of_ble_eq_true rfl, Nat.le_of_ble_eq_true rfl⟩) hS (fun q _ h => hFc q h) hFc (fun u_24 t H1 locs ht hvm hw hB hz1 hk1 hS => ?_)
  obtain ⟨hP1, hD1⟩ := hB ; rw [ht] at hP1
  generalize u_24 = a24_0 at hP1 hD1
  have hP1 : va_P D vwCl [(q18, .inr (5, [.ref a24_0])), (a24_0, .inl (cI, 6, .inl (fun _ => 0)))] H1 := hP1
  have hD1 : va_D (va_A [(q18, .inr (5, [.null]))] H.size) [(q18, .inr (5, [.ref a24_0])), (a24_0, .inl (cI, 6, .inl (fun _ => 0)))] := hD1
  obtain ⟨hP, hD⟩ := va_join (wr := [(r, .inr (2, [.ref q5, .null, .int 0, .int 0])), (q5, .inr (5, [.ref a11_0])), (a11_0, .inl (cI, 6, .inl (fun _ => 0)))]) (w1 := [(q18, .inr (5, [.ref a24_0])), (a24_0, .inl (cI, 6, .inl (fun _ => 0)))]) hP hD [3] [0, 1, 2] rfl rfl (by decide) (by decide) hk1 hFc hP1 hD1
  clear hP1 hD1 hPc hDc hFc hk1 hz1 ; generalize H1 = H at hP hS ht ⊢ ; clear ht
  have hP : va_P D vwCl [(r, .inr (2, [.ref q5, .null, .int 0, .int 0])), (q5, .inr (5, [.ref a11_0])), (a11_0, .inl (cI, 6, .inl (fun _ => 0))), (q18, .inr (5, [.ref a24_0])), (a24_0, .inl (cI, 6, .inl (fun _ => 0)))] _ := hP
  have hD : va_D A [(r, .inr (2, [.ref q5, .null, .int 0, .int 0])), (q5, .inr (5, [.ref a11_0])), (a11_0, .inl (cI, 6, .inl (fun _ => 0))), (q18, .inr (5, [.ref a24_0])), (a24_0, .inl (cI, 6, .inl (fun _ => 0)))] := hD
  refine W.widen (k := 4) (n := 14) (Nat.le_of_ble_eq_true rfl) (Nat.le_of_ble_eq_true rfl) ?_
  refine va_putF (D := D) (ci := 2) (v := .ref q18) (ty := (.object "SongsAgain$Row")) (C := RX2) (T := TX2) (N := 4) hx hb hts (vz_in (i := 22) (n := 4) rfl : ∀ w ∈ u_ws RX2 TX2 4, w ∈ wsX2_init) tyX2 tyX2_ok nmX2 hown hK hP hD hS 0 rfl rfl 1 (by decide) (hts (.fieldLink RX2 20 "SongsAgain$Orders" "first" "LSongsAgain$Row;") (List.mem_of_getElem? (i := 8) rfl)) (fun _ h9 => h9) rfl hin rfl (by decide +kernel) rfl rfl (Nat.le_of_ble_eq_true rfl) dX2_init_27 (fun H locs hP hD hS => ?_)
  have hP : va_P D vwCl [(r, .inr (2, [.ref q5, .ref q18, .int 0, .int 0])), (q5, .inr (5, [.ref a11_0])), (a11_0, .inl (cI, 6, .inl (fun _ => 0))), (q18, .inr (5, [.ref a24_0])), (a24_0, .inl (cI, 6, .inl (fun _ => 0)))] _ := hP
  have hD : va_D A [(r, .inr (2, [.ref q5, .ref q18, .int 0, .int 0])), (q5, .inr (5, [.ref a11_0])), (a11_0, .inl (cI, 6, .inl (fun _ => 0))), (q18, .inr (5, [.ref a24_0])), (a24_0, .inl (cI, 6, .inl (fun _ => 0)))] := hD
  refine lv_aload_n hx hb dX2_init_30 rfl (lv_at hl 0 rfl) ?_
  refine lv_iconst (v := 0) hx hb dX2_init_31 (by decide) ?_
  refine va_put (D := D) (ci := 2) (v := .int 0) (ty := .int) (C := RX2) (T := TX2) (N := 4) hx hb hts (vz_in (i := 22) (n := 4) rfl : ∀ w ∈ u_ws RX2 TX2 4, w ∈ wsX2_init) tyX2 tyX2_ok nmX2 hown hK hP hD hS 0 rfl rfl 2 (by decide) (hts (.fieldLink RX2 23 "SongsAgain$Orders" "firstLength" "I") (List.mem_of_getElem? (i := 9) rfl)) (fun _ h9 => h9) rfl (by decide +kernel) rfl rfl (Nat.le_of_ble_eq_true rfl) dX2_init_32 (fun H locs hP hD hS => ?_)
  have hP : va_P D vwCl [(r, .inr (2, [.ref q5, .ref q18, .int 0, .int 0])), (q5, .inr (5, [.ref a11_0])), (a11_0, .inl (cI, 6, .inl (fun _ => 0))), (q18, .inr (5, [.ref a24_0])), (a24_0, .inl (cI, 6, .inl (fun _ => 0)))] _ := hP
  have hD : va_D A [(r, .inr (2, [.ref q5, .ref q18, .int 0, .int 0])), (q5, .inr (5, [.ref a11_0])), (a11_0, .inl (cI, 6, .inl (fun _ => 0))), (q18, .inr (5, [.ref a24_0])), (a24_0, .inl (cI, 6, .inl (fun _ => 0)))] := hD
  refine lv_aload_n hx hb dX2_init_35 rfl (lv_at hl 0 rfl) ?_
  refine lv_iconst (v := 0) hx hb dX2_init_36 (by decide) ?_
  refine va_put (D := D) (ci := 2) (v := .int 0) (ty := .int) (C := RX2) (T := TX2) (N := 4) hx hb hts (vz_in (i := 22) (n := 4) rfl : ∀ w ∈ u_ws RX2 TX2 4, w ∈ wsX2_init) tyX2 tyX2_ok nmX2 hown hK hP hD hS 0 rfl rfl 3 (by decide) (hts (.fieldLink RX2 27 "SongsAgain$Orders" "number" "I") (List.mem_of_getElem? (i := 10) rfl)) (fun _ h9 => h9) rfl (by decide +kernel) rfl rfl (Nat.le_of_ble_eq_true rfl) dX2_init_37 (fun H locs hP hD hS => ?_)
  have hP : va_P D vwCl [(r, .inr (2, [.ref q5, .ref q18, .int 0, .int 0])), (q5, .inr (5, [.ref a11_0])), (a11_0, .inl (cI, 6, .inl (fun _ => 0))), (q18, .inr (5, [.ref a24_0])), (a24_0, .inl (cI, 6, .inl (fun _ => 0)))] _ := hP
  have hD : va_D A [(r, .inr (2, [.ref q5, .ref q18, .int 0, .int 0])), (q5, .inr (5, [.ref a11_0])), (a11_0, .inl (cI, 6, .inl (fun _ => 0))), (q18, .inr (5, [.ref a24_0])), (a24_0, .inl (cI, 6, .inl (fun _ => 0)))] := hD
  exact W.vret hx hb hr (fun t ht hW => ⟨⟨(q5, a11_0, q18, a24_0), rfl, trivial, (by rw [ht]; exact hP), hD⟩, hS.F ht⟩) hS.2.2 dX2_init_40
set_option maxHeartbeats 4000000 in
set_option maxRecDepth 100000 in
theorem c_X3_init (l : Launch) (D : va_G) (cI : ClassId) (r : Nat) (sz : Nat) : Met l yX3_init wsX3_init ({ frames := 2, cells := 2, slots := 23, locals := 61 } : Room) (vz_rw D cI [(r, .inr (3, [.null, .int 0]))] sz [.ref r]) (va_Qv (fun (_ : Nat × Nat) => True) (fun (u : Nat × Nat) (t : State) => va_P D vwCl [(r, .inr (3, [.ref u.1, .int 0])), (u.1, .inr (5, [.ref u.2])), (u.2, .inl (cI, 22, .inl (fun _ => 0)))] t.heap ∧ va_D (va_A [(r, .inr (3, [.null, .int 0]))] sz) [(r, .inr (3, [.ref u.1, .int 0])), (u.1, .inr (5, [.ref u.2])), (u.2, .inl (cI, 22, .inl (fun _ => 0)))]) (va_A [(r, .inr (3, [.null, .int 0]))] sz)) 2 23 (va_A [(r, .inr (3, [.null, .int 0]))] sz) := by
  refine Met.ofW (cc := cX3_init) (maxL := 1) (ret := none) (by decide) rfl ?_
  intro p e s m args below meth c s₁ B hml hv
  obtain ⟨rfl, hsz, hP, hZ, hD0⟩ := hv
  obtain ⟨hK, hN⟩ := id hZ
  have hx := B.exec
  have hb := B.bytes
  have hr := B.returns
  have hts := atoms_spec (ws := wsX3_init) B.pre
  have hown : s.vm.findClass RX3 = some m.cls := findClass_of_methodNamed B.named
  have hlocks := B.notSynchronized
  have hin : meth.name = "<init>" := (name_of_methodNamed B.named B.method).1
  subst hsz
  have hD := hD0.self (sz := s.heap.size)
  generalize hAe : va_A [(r, .inr (3, [.null, .int 0]))] s.heap.size = A at hD ⊢
  have hA : ∀ q : Nat, s.heap.size ≤ q → A q := fun q h => by rw [← hAe]; exact Or.inr h
  have hS : va_S A s.heap s.heap [] := va_S.rf
  have hP : va_P D vwCl [(r, .inr (3, [.null, .int 0]))] s.heap := hP
  have hl := lv_entry ([.ref r]) (n := 1) (Nat.le_of_ble_eq_true rfl)
  rw [lg_entry_eq]
  generalize (lg_sl ([.ref r]) ++ List.replicate (1 - (lg_sl ([.ref r])).length) Slot.unset).toArray = ls at hl ⊢
  have hl : lv_has ls 1 [(0, .ref r)] := hl
  refine lv_aload_n hx hb dX3_init_0 rfl (lv_at hl 0 rfl) ?_
  refine W.objInit hx hb hown (hts (.methodLink RX3 3 objectInit) (List.mem_of_getElem? (i := 1) rfl)) (hts (.instanceMethod objectInit) (List.mem_of_getElem? (i := 2) rfl)) (hts (.code objectInit ⟨#[0xb1]⟩ 1 none) (List.mem_of_getElem? (i := 3) rfl)) rfl (by rw [hml]; exact hl.1) rfl dX3_init_1 (Nat.le_of_ble_eq_true rfl) (Nat.le_of_ble_eq_true rfl) ?_
  refine W.eq (g2 := F0 m 4 ls []) rfl ?_
  refine lv_aload_n hx hb dX3_init_4 rfl (lv_at hl 0 rfl) ?_
  refine va_new (ci := 5) (fs := [.null]) (C := RX5) (T := TX5) (N := 1) hx hb hts (vz_in (i := 19) (n := 1) rfl : ∀ w ∈ u_ws RX5 TX5 1, w ∈ wsX3_init) tyX5 tyX5_ok hown (hts (.classLink RX3 9 RX5) (List.mem_of_getElem? (i := 4) rfl)) (hts (.instantiable RX5 1) (List.mem_of_getElem? (i := 5) rfl)) (hts (.initialized RX5) (List.mem_of_getElem? (i := 6) rfl)) hK hP hD hS hA rfl (fun j hj => match j, hj with | 0, _ => rfl | (k + 1), h => absurd h (by omega)) (Nat.le_of_ble_eq_true rfl) (Nat.le_of_ble_eq_true rfl) dX3_init_5 (fun q5 H hP hD hS => ?_)
  have hP : va_P D vwCl [(r, .inr (3, [.null, .int 0])), (q5, .inr (5, [.null]))] _ := hP
  have hD : va_D A [(r, .inr (3, [.null, .int 0])), (q5, .inr (5, [.null]))] := hD
  refine W.widen (k := 1) (n := 1) (Nat.le_of_ble_eq_true rfl) (Nat.le_of_ble_eq_true rfl) ?_
  refine lv_dup hx hb dX3_init_8 rfl ?_
  refine lv_bipush (v := 22) hx hb dX3_init_9 (by decide) ?_
  have hPc := hP.sub (ws' := [(q5, .inr (5, [.null]))]) [1] rfl
  have hDc := hD.sub (ws' := [(q5, .inr (5, [.null]))]) [1] (by decide) rfl
  have hFc := va_free (wc := [(q5, .inr (5, [.null]))]) hD hS hA [1] rfl
  refine va_callv (va_runI (As := [.int 22]) (rest := [.ref q5, .ref r]) ⟨hx, hb, hml, hown, hts⟩ (c_X5_init l D cI q5 H.size 22 (Nat.le_of_ble_eq_true rfl)) (cwI 1 hts gX3_init_X5_init rfl rfl rfl (hts (.initialized RX5) (List.mem_of_getElem? (i := 6) rfl)) (hts (.methodLink RX3 11 yX5_init) (List.mem_of_getElem? (i := 9) rfl)) (hts (.instanceMethod yX5_init) (List.mem_of_getElem? (i := 10) rfl)) rfl (by decide +kernel) ⟨Nat.le_of_ble_eq_true rfl, Nat.le_of_ble_eq_true rfl⟩) (vz_psW hZ hPc hDc) rfl rfl hl.1 rfl (lv_room (Nat.le_of_ble_eq_true rfl)) dX3_init_11 ⟨Nat.le_of_ble_eq_true rfl, Nat.le_of_ble_eq_true rfl⟩) hS (fun q _ h => hFc q h) hFc (fun u_11 t H1 locs ht hvm hw hB hz1 hk1 hS => ?_)
  obtain ⟨hP1, hD1⟩ := hB ; rw [ht] at hP1
  generalize u_11 = a11_0 at hP1 hD1
  have hP1 : va_P D vwCl [(q5, .inr (5, [.ref a11_0])), (a11_0, .inl (cI, 22, .inl (fun _ => 0)))] H1 := hP1
  have hD1 : va_D (va_A [(q5, .inr (5, [.null]))] H.size) [(q5, .inr (5, [.ref a11_0])), (a11_0, .inl (cI, 22, .inl (fun _ => 0)))] := hD1
  obtain ⟨hP, hD⟩ := va_join (wr := [(r, .inr (3, [.null, .int 0]))]) (w1 := [(q5, .inr (5, [.ref a11_0])), (a11_0, .inl (cI, 22, .inl (fun _ => 0)))]) hP hD [1] [0] rfl rfl (by decide) (by decide) hk1 hFc hP1 hD1
  clear hP1 hD1 hPc hDc hFc hk1 hz1 ; generalize H1 = H at hP hS ht ⊢ ; clear ht
  have hP : va_P D vwCl [(r, .inr (3, [.null, .int 0])), (q5, .inr (5, [.ref a11_0])), (a11_0, .inl (cI, 22, .inl (fun _ => 0)))] _ := hP
  have hD : va_D A [(r, .inr (3, [.null, .int 0])), (q5, .inr (5, [.ref a11_0])), (a11_0, .inl (cI, 22, .inl (fun _ => 0)))] := hD
  refine W.widen (k := 2) (n := 23) (Nat.le_of_ble_eq_true rfl) (Nat.le_of_ble_eq_true rfl) ?_
  refine va_putF (D := D) (ci := 3) (v := .ref q5) (ty := (.object "SongsAgain$Row")) (C := RX3) (T := TX3) (N := 2) hx hb hts (vz_in (i := 20) (n := 2) rfl : ∀ w ∈ u_ws RX3 TX3 2, w ∈ wsX3_init) tyX3 tyX3_ok nmX3 hown hK hP hD hS 0 rfl rfl 0 (by decide) (hts (.fieldLink RX3 14 "SongsAgain$Page" "codes" "LSongsAgain$Row;") (List.mem_of_getElem? (i := 7) rfl)) (fun _ h9 => h9) rfl hin rfl (by decide +kernel) rfl rfl (Nat.le_of_ble_eq_true rfl) dX3_init_14 (fun H locs hP hD hS => ?_)
  have hP : va_P D vwCl [(r, .inr (3, [.ref q5, .int 0])), (q5, .inr (5, [.ref a11_0])), (a11_0, .inl (cI, 22, .inl (fun _ => 0)))] _ := hP
  have hD : va_D A [(r, .inr (3, [.ref q5, .int 0])), (q5, .inr (5, [.ref a11_0])), (a11_0, .inl (cI, 22, .inl (fun _ => 0)))] := hD
  refine lv_aload_n hx hb dX3_init_17 rfl (lv_at hl 0 rfl) ?_
  refine lv_iconst (v := 0) hx hb dX3_init_18 (by decide) ?_
  refine va_put (D := D) (ci := 3) (v := .int 0) (ty := .int) (C := RX3) (T := TX3) (N := 2) hx hb hts (vz_in (i := 20) (n := 2) rfl : ∀ w ∈ u_ws RX3 TX3 2, w ∈ wsX3_init) tyX3 tyX3_ok nmX3 hown hK hP hD hS 0 rfl rfl 1 (by decide) (hts (.fieldLink RX3 20 "SongsAgain$Page" "length" "I") (List.mem_of_getElem? (i := 8) rfl)) (fun _ h9 => h9) rfl (by decide +kernel) rfl rfl (Nat.le_of_ble_eq_true rfl) dX3_init_19 (fun H locs hP hD hS => ?_)
  have hP : va_P D vwCl [(r, .inr (3, [.ref q5, .int 0])), (q5, .inr (5, [.ref a11_0])), (a11_0, .inl (cI, 22, .inl (fun _ => 0)))] _ := hP
  have hD : va_D A [(r, .inr (3, [.ref q5, .int 0])), (q5, .inr (5, [.ref a11_0])), (a11_0, .inl (cI, 22, .inl (fun _ => 0)))] := hD
  exact W.vret hx hb hr (fun t ht hW => ⟨⟨(q5, a11_0), rfl, trivial, (by rw [ht]; exact hP), hD⟩, hS.F ht⟩) hS.2.2 dX3_init_22
set_option maxHeartbeats 4000000 in
set_option maxRecDepth 100000 in
theorem c_X4_init (l : Launch) (D : va_G) (cI : ClassId) (r : Nat) (sz : Nat) : Met l yX4_init wsX4_init ({ frames := 2, cells := 6, slots := 23, locals := 61 } : Room) (vz_rw D cI [(r, .inr (4, [.null, .null, .null, .int 0, .int 0, .int 0, .int 0, .int 0]))] sz [.ref r]) (va_Qv (fun (_ : Nat × Nat × Nat × Nat × Nat × Nat) => True) (fun (u : Nat × Nat × Nat × Nat × Nat × Nat) (t : State) => va_P D vwCl [(r, .inr (4, [.ref u.1, .ref u.2.2.1, .ref u.2.2.2.2.1, .int 0, .int 0, .int 0, .int (-1), .int 0])), (u.1, .inr (5, [.ref u.2.1])), (u.2.1, .inl (cI, 6, .inl (fun _ => 0))), (u.2.2.1, .inr (5, [.ref u.2.2.2.1])), (u.2.2.2.1, .inl (cI, 6, .inl (fun _ => 0))), (u.2.2.2.2.1, .inr (5, [.ref u.2.2.2.2.2])), (u.2.2.2.2.2, .inl (cI, 8, .inl (fun _ => 0)))] t.heap ∧ va_D (va_A [(r, .inr (4, [.null, .null, .null, .int 0, .int 0, .int 0, .int 0, .int 0]))] sz) [(r, .inr (4, [.ref u.1, .ref u.2.2.1, .ref u.2.2.2.2.1, .int 0, .int 0, .int 0, .int (-1), .int 0])), (u.1, .inr (5, [.ref u.2.1])), (u.2.1, .inl (cI, 6, .inl (fun _ => 0))), (u.2.2.1, .inr (5, [.ref u.2.2.2.1])), (u.2.2.2.1, .inl (cI, 6, .inl (fun _ => 0))), (u.2.2.2.2.1, .inr (5, [.ref u.2.2.2.2.2])), (u.2.2.2.2.2, .inl (cI, 8, .inl (fun _ => 0)))]) (va_A [(r, .inr (4, [.null, .null, .null, .int 0, .int 0, .int 0, .int 0, .int 0]))] sz)) 6 23 (va_A [(r, .inr (4, [.null, .null, .null, .int 0, .int 0, .int 0, .int 0, .int 0]))] sz) := by
  refine Met.ofW (cc := cX4_init) (maxL := 1) (ret := none) (by decide) rfl ?_
  intro p e s m args below meth c s₁ B hml hv
  obtain ⟨rfl, hsz, hP, hZ, hD0⟩ := hv
  obtain ⟨hK, hN⟩ := id hZ
  have hx := B.exec
  have hb := B.bytes
  have hr := B.returns
  have hts := atoms_spec (ws := wsX4_init) B.pre
  have hown : s.vm.findClass RX4 = some m.cls := findClass_of_methodNamed B.named
  have hlocks := B.notSynchronized
  have hin : meth.name = "<init>" := (name_of_methodNamed B.named B.method).1
  subst hsz
  have hD := hD0.self (sz := s.heap.size)
  generalize hAe : va_A [(r, .inr (4, [.null, .null, .null, .int 0, .int 0, .int 0, .int 0, .int 0]))] s.heap.size = A at hD ⊢
  have hA : ∀ q : Nat, s.heap.size ≤ q → A q := fun q h => by rw [← hAe]; exact Or.inr h
  have hS : va_S A s.heap s.heap [] := va_S.rf
  have hP : va_P D vwCl [(r, .inr (4, [.null, .null, .null, .int 0, .int 0, .int 0, .int 0, .int 0]))] s.heap := hP
  have hl := lv_entry ([.ref r]) (n := 1) (Nat.le_of_ble_eq_true rfl)
  rw [lg_entry_eq]
  generalize (lg_sl ([.ref r]) ++ List.replicate (1 - (lg_sl ([.ref r])).length) Slot.unset).toArray = ls at hl ⊢
  have hl : lv_has ls 1 [(0, .ref r)] := hl
  refine lv_aload_n hx hb dX4_init_0 rfl (lv_at hl 0 rfl) ?_
  refine W.objInit hx hb hown (hts (.methodLink RX4 3 objectInit) (List.mem_of_getElem? (i := 1) rfl)) (hts (.instanceMethod objectInit) (List.mem_of_getElem? (i := 2) rfl)) (hts (.code objectInit ⟨#[0xb1]⟩ 1 none) (List.mem_of_getElem? (i := 3) rfl)) rfl (by rw [hml]; exact hl.1) rfl dX4_init_1 (Nat.le_of_ble_eq_true rfl) (Nat.le_of_ble_eq_true rfl) ?_
  refine W.eq (g2 := F0 m 4 ls []) rfl ?_
  refine lv_aload_n hx hb dX4_init_4 rfl (lv_at hl 0 rfl) ?_
  refine va_new (ci := 5) (fs := [.null]) (C := RX5) (T := TX5) (N := 1) hx hb hts (vz_in (i := 25) (n := 1) rfl : ∀ w ∈ u_ws RX5 TX5 1, w ∈ wsX4_init) tyX5 tyX5_ok hown (hts (.classLink RX4 9 RX5) (List.mem_of_getElem? (i := 4) rfl)) (hts (.instantiable RX5 1) (List.mem_of_getElem? (i := 5) rfl)) (hts (.initialized RX5) (List.mem_of_getElem? (i := 6) rfl)) hK hP hD hS hA rfl (fun j hj => match j, hj with | 0, _ => rfl | (k + 1), h => absurd h (by omega)) (Nat.le_of_ble_eq_true rfl) (Nat.le_of_ble_eq_true rfl) dX4_init_5 (fun q5 H hP hD hS => ?_)
  have hP : va_P D vwCl [(r, .inr (4, [.null, .null, .null, .int 0, .int 0, .int 0, .int 0, .int 0])), (q5, .inr (5, [.null]))] _ := hP
  have hD : va_D A [(r, .inr (4, [.null, .null, .null, .int 0, .int 0, .int 0, .int 0, .int 0])), (q5, .inr (5, [.null]))] := hD
  refine W.widen (k := 1) (n := 1) (Nat.le_of_ble_eq_true rfl) (Nat.le_of_ble_eq_true rfl) ?_
  refine lv_dup hx hb dX4_init_8 rfl ?_
  refine lv_bipush (v := 6) hx hb dX4_init_9 (by decide) ?_
  have hPc := hP.sub (ws' := [(q5, .inr (5, [.null]))]) [1] rfl
  have hDc := hD.sub (ws' := [(q5, .inr (5, [.null]))]) [1] (by decide) rfl
  have hFc := va_free (wc := [(q5, .inr (5, [.null]))]) hD hS hA [1] rfl
  refine va_callv (va_runI (As := [.int 6]) (rest := [.ref q5, .ref r]) ⟨hx, hb, hml, hown, hts⟩ (c_X5_init l D cI q5 H.size 6 (Nat.le_of_ble_eq_true rfl)) (cwI 1 hts gX4_init_X5_init rfl rfl rfl (hts (.initialized RX5) (List.mem_of_getElem? (i := 6) rfl)) (hts (.methodLink RX4 11 yX5_init) (List.mem_of_getElem? (i := 15) rfl)) (hts (.instanceMethod yX5_init) (List.mem_of_getElem? (i := 16) rfl)) rfl (by decide +kernel) ⟨Nat.le_of_ble_eq_true rfl, Nat.le_of_ble_eq_true rfl⟩) (vz_psW hZ hPc hDc) rfl rfl hl.1 rfl (lv_room (Nat.le_of_ble_eq_true rfl)) dX4_init_11 ⟨Nat.le_of_ble_eq_true rfl, Nat.le_of_ble_eq_true rfl⟩) hS (fun q _ h => hFc q h) hFc (fun u_11 t H1 locs ht hvm hw hB hz1 hk1 hS => ?_)
  obtain ⟨hP1, hD1⟩ := hB ; rw [ht] at hP1
  generalize u_11 = a11_0 at hP1 hD1
  have hP1 : va_P D vwCl [(q5, .inr (5, [.ref a11_0])), (a11_0, .inl (cI, 6, .inl (fun _ => 0)))] H1 := hP1
  have hD1 : va_D (va_A [(q5, .inr (5, [.null]))] H.size) [(q5, .inr (5, [.ref a11_0])), (a11_0, .inl (cI, 6, .inl (fun _ => 0)))] := hD1
  obtain ⟨hP, hD⟩ := va_join (wr := [(r, .inr (4, [.null, .null, .null, .int 0, .int 0, .int 0, .int 0, .int 0]))]) (w1 := [(q5, .inr (5, [.ref a11_0])), (a11_0, .inl (cI, 6, .inl (fun _ => 0)))]) hP hD [1] [0] rfl rfl (by decide) (by decide) hk1 hFc hP1 hD1
  clear hP1 hD1 hPc hDc hFc hk1 hz1 ; generalize H1 = H at hP hS ht ⊢ ; clear ht
  have hP : va_P D vwCl [(r, .inr (4, [.null, .null, .null, .int 0, .int 0, .int 0, .int 0, .int 0])), (q5, .inr (5, [.ref a11_0])), (a11_0, .inl (cI, 6, .inl (fun _ => 0)))] _ := hP
  have hD : va_D A [(r, .inr (4, [.null, .null, .null, .int 0, .int 0, .int 0, .int 0, .int 0])), (q5, .inr (5, [.ref a11_0])), (a11_0, .inl (cI, 6, .inl (fun _ => 0)))] := hD
  refine W.widen (k := 2) (n := 7) (Nat.le_of_ble_eq_true rfl) (Nat.le_of_ble_eq_true rfl) ?_
  refine va_putF (D := D) (ci := 4) (v := .ref q5) (ty := (.object "SongsAgain$Row")) (C := RX4) (T := TX4) (N := 8) hx hb hts (vz_in (i := 26) (n := 8) rfl : ∀ w ∈ u_ws RX4 TX4 8, w ∈ wsX4_init) tyX4 tyX4_ok nmX4 hown hK hP hD hS 0 rfl rfl 0 (by decide) (hts (.fieldLink RX4 14 "SongsAgain$Past" "played" "LSongsAgain$Row;") (List.mem_of_getElem? (i := 7) rfl)) (fun _ h9 => h9) rfl hin rfl (by decide +kernel) rfl rfl (Nat.le_of_ble_eq_true rfl) dX4_init_14 (fun H locs hP hD hS => ?_)
  have hP : va_P D vwCl [(r, .inr (4, [.ref q5, .null, .null, .int 0, .int 0, .int 0, .int 0, .int 0])), (q5, .inr (5, [.ref a11_0])), (a11_0, .inl (cI, 6, .inl (fun _ => 0)))] _ := hP
  have hD : va_D A [(r, .inr (4, [.ref q5, .null, .null, .int 0, .int 0, .int 0, .int 0, .int 0])), (q5, .inr (5, [.ref a11_0])), (a11_0, .inl (cI, 6, .inl (fun _ => 0)))] := hD
  refine lv_aload_n hx hb dX4_init_17 rfl (lv_at hl 0 rfl) ?_
  refine va_new (ci := 5) (fs := [.null]) (C := RX5) (T := TX5) (N := 1) hx hb hts (vz_in (i := 25) (n := 1) rfl : ∀ w ∈ u_ws RX5 TX5 1, w ∈ wsX4_init) tyX5 tyX5_ok hown (hts (.classLink RX4 9 RX5) (List.mem_of_getElem? (i := 4) rfl)) (hts (.instantiable RX5 1) (List.mem_of_getElem? (i := 5) rfl)) (hts (.initialized RX5) (List.mem_of_getElem? (i := 6) rfl)) hK hP hD hS hA rfl (fun j hj => match j, hj with | 0, _ => rfl | (k + 1), h => absurd h (by omega)) (Nat.le_of_ble_eq_true rfl) (Nat.le_of_ble_eq_true rfl) dX4_init_18 (fun q18 H hP hD hS => ?_)
  have hP : va_P D vwCl [(r, .inr (4, [.ref q5, .null, .null, .int 0, .int 0, .int 0, .int 0, .int 0])), (q5, .inr (5, [.ref a11_0])), (a11_0, .inl (cI, 6, .inl (fun _ => 0))), (q18, .inr (5, [.null]))] _ := hP
  have hD : va_D A [(r, .inr (4, [.ref q5, .null, .null, .int 0, .int 0, .int 0, .int 0, .int 0])), (q5, .inr (5, [.ref a11_0])), (a11_0, .inl (cI, 6, .inl (fun _ => 0))), (q18, .inr (5, [.null]))] := hD
  refine W.widen (k := 3) (n := 8) (Nat.le_of_ble_eq_true rfl) (Nat.le_of_ble_eq_true rfl) ?_
  refine lv_dup hx hb dX4_init_21 rfl ?_
  refine lv_bipush (v := 6) hx hb dX4_init_22 (by decide) ?_
  have hPc := hP.sub (ws' := [(q18, .inr (5, [.null]))]) [3] rfl
  have hDc := hD.sub (ws' := [(q18, .inr (5, [.null]))]) [3] (by decide) rfl
  have hFc := va_free (wc := [(q18, .inr (5, [.null]))]) hD hS hA [3] rfl
  refine va_callv (va_runI (As := [.int 6]) (rest := [.ref q18, .ref r]) ⟨hx, hb, hml, hown, hts⟩ (c_X5_init l D cI q18 H.size 6 (Nat.le_of_ble_eq_true rfl)) (cwI 1 hts gX4_init_X5_init rfl rfl rfl (hts (.initialized RX5) (List.mem_of_getElem? (i := 6) rfl)) (hts (.methodLink RX4 11 yX5_init) (List.mem_of_getElem? (i := 15) rfl)) (hts (.instanceMethod yX5_init) (List.mem_of_getElem? (i := 16) rfl)) rfl (by decide +kernel) ⟨Nat.le_of_ble_eq_true rfl, Nat.le_of_ble_eq_true rfl⟩) (vz_psW hZ hPc hDc) rfl rfl hl.1 rfl (lv_room (Nat.le_of_ble_eq_true rfl)) dX4_init_24 ⟨Nat.le_of_ble_eq_true rfl, Nat.le_of_ble_eq_true rfl⟩) hS (fun q _ h => hFc q h) hFc (fun u_24 t H1 locs ht hvm hw hB hz1 hk1 hS => ?_)
  obtain ⟨hP1, hD1⟩ := hB ; rw [ht] at hP1
  generalize u_24 = a24_0 at hP1 hD1
  have hP1 : va_P D vwCl [(q18, .inr (5, [.ref a24_0])), (a24_0, .inl (cI, 6, .inl (fun _ => 0)))] H1 := hP1
  have hD1 : va_D (va_A [(q18, .inr (5, [.null]))] H.size) [(q18, .inr (5, [.ref a24_0])), (a24_0, .inl (cI, 6, .inl (fun _ => 0)))] := hD1
  obtain ⟨hP, hD⟩ := va_join (wr := [(r, .inr (4, [.ref q5, .null, .null, .int 0, .int 0, .int 0, .int 0, .int 0])), (q5, .inr (5, [.ref a11_0])), (a11_0, .inl (cI, 6, .inl (fun _ => 0)))]) (w1 := [(q18, .inr (5, [.ref a24_0])), (a24_0, .inl (cI, 6, .inl (fun _ => 0)))]) hP hD [3] [0, 1, 2] rfl rfl (by decide) (by decide) hk1 hFc hP1 hD1
  clear hP1 hD1 hPc hDc hFc hk1 hz1 ; generalize H1 = H at hP hS ht ⊢ ; clear ht
  have hP : va_P D vwCl [(r, .inr (4, [.ref q5, .null, .null, .int 0, .int 0, .int 0, .int 0, .int 0])), (q5, .inr (5, [.ref a11_0])), (a11_0, .inl (cI, 6, .inl (fun _ => 0))), (q18, .inr (5, [.ref a24_0])), (a24_0, .inl (cI, 6, .inl (fun _ => 0)))] _ := hP
  have hD : va_D A [(r, .inr (4, [.ref q5, .null, .null, .int 0, .int 0, .int 0, .int 0, .int 0])), (q5, .inr (5, [.ref a11_0])), (a11_0, .inl (cI, 6, .inl (fun _ => 0))), (q18, .inr (5, [.ref a24_0])), (a24_0, .inl (cI, 6, .inl (fun _ => 0)))] := hD
  refine W.widen (k := 4) (n := 14) (Nat.le_of_ble_eq_true rfl) (Nat.le_of_ble_eq_true rfl) ?_
  refine va_putF (D := D) (ci := 4) (v := .ref q18) (ty := (.object "SongsAgain$Row")) (C := RX4) (T := TX4) (N := 8) hx hb hts (vz_in (i := 26) (n := 8) rfl : ∀ w ∈ u_ws RX4 TX4 8, w ∈ wsX4_init) tyX4 tyX4_ok nmX4 hown hK hP hD hS 0 rfl rfl 1 (by decide) (hts (.fieldLink RX4 20 "SongsAgain$Past" "skipped" "LSongsAgain$Row;") (List.mem_of_getElem? (i := 8) rfl)) (fun _ h9 => h9) rfl hin rfl (by decide +kernel) rfl rfl (Nat.le_of_ble_eq_true rfl) dX4_init_27 (fun H locs hP hD hS => ?_)
  have hP : va_P D vwCl [(r, .inr (4, [.ref q5, .ref q18, .null, .int 0, .int 0, .int 0, .int 0, .int 0])), (q5, .inr (5, [.ref a11_0])), (a11_0, .inl (cI, 6, .inl (fun _ => 0))), (q18, .inr (5, [.ref a24_0])), (a24_0, .inl (cI, 6, .inl (fun _ => 0)))] _ := hP
  have hD : va_D A [(r, .inr (4, [.ref q5, .ref q18, .null, .int 0, .int 0, .int 0, .int 0, .int 0])), (q5, .inr (5, [.ref a11_0])), (a11_0, .inl (cI, 6, .inl (fun _ => 0))), (q18, .inr (5, [.ref a24_0])), (a24_0, .inl (cI, 6, .inl (fun _ => 0)))] := hD
  refine lv_aload_n hx hb dX4_init_30 rfl (lv_at hl 0 rfl) ?_
  refine va_new (ci := 5) (fs := [.null]) (C := RX5) (T := TX5) (N := 1) hx hb hts (vz_in (i := 25) (n := 1) rfl : ∀ w ∈ u_ws RX5 TX5 1, w ∈ wsX4_init) tyX5 tyX5_ok hown (hts (.classLink RX4 9 RX5) (List.mem_of_getElem? (i := 4) rfl)) (hts (.instantiable RX5 1) (List.mem_of_getElem? (i := 5) rfl)) (hts (.initialized RX5) (List.mem_of_getElem? (i := 6) rfl)) hK hP hD hS hA rfl (fun j hj => match j, hj with | 0, _ => rfl | (k + 1), h => absurd h (by omega)) (Nat.le_of_ble_eq_true rfl) (Nat.le_of_ble_eq_true rfl) dX4_init_31 (fun q31 H hP hD hS => ?_)
  have hP : va_P D vwCl [(r, .inr (4, [.ref q5, .ref q18, .null, .int 0, .int 0, .int 0, .int 0, .int 0])), (q5, .inr (5, [.ref a11_0])), (a11_0, .inl (cI, 6, .inl (fun _ => 0))), (q18, .inr (5, [.ref a24_0])), (a24_0, .inl (cI, 6, .inl (fun _ => 0))), (q31, .inr (5, [.null]))] _ := hP
  have hD : va_D A [(r, .inr (4, [.ref q5, .ref q18, .null, .int 0, .int 0, .int 0, .int 0, .int 0])), (q5, .inr (5, [.ref a11_0])), (a11_0, .inl (cI, 6, .inl (fun _ => 0))), (q18, .inr (5, [.ref a24_0])), (a24_0, .inl (cI, 6, .inl (fun _ => 0))), (q31, .inr (5, [.null]))] := hD
  refine W.widen (k := 5) (n := 15) (Nat.le_of_ble_eq_true rfl) (Nat.le_of_ble_eq_true rfl) ?_
  refine lv_dup hx hb dX4_init_34 rfl ?_
  refine lv_bipush (v := 8) hx hb dX4_init_35 (by decide) ?_
  have hPc := hP.sub (ws' := [(q31, .inr (5, [.null]))]) [5] rfl
  have hDc := hD.sub (ws' := [(q31, .inr (5, [.null]))]) [5] (by decide) rfl
  have hFc := va_free (wc := [(q31, .inr (5, [.null]))]) hD hS hA [5] rfl
  refine va_callv (va_runI (As := [.int 8]) (rest := [.ref q31, .ref r]) ⟨hx, hb, hml, hown, hts⟩ (c_X5_init l D cI q31 H.size 8 (Nat.le_of_ble_eq_true rfl)) (cwI 1 hts gX4_init_X5_init rfl rfl rfl (hts (.initialized RX5) (List.mem_of_getElem? (i := 6) rfl)) (hts (.methodLink RX4 11 yX5_init) (List.mem_of_getElem? (i := 15) rfl)) (hts (.instanceMethod yX5_init) (List.mem_of_getElem? (i := 16) rfl)) rfl (by decide +kernel) ⟨Nat.le_of_ble_eq_true rfl, Nat.le_of_ble_eq_true rfl⟩) (vz_psW hZ hPc hDc) rfl rfl hl.1 rfl (lv_room (Nat.le_of_ble_eq_true rfl)) dX4_init_37 ⟨Nat.le_of_ble_eq_true rfl, Nat.le_of_ble_eq_true rfl⟩) hS (fun q _ h => hFc q h) hFc (fun u_37 t H1 locs ht hvm hw hB hz1 hk1 hS => ?_)
  obtain ⟨hP1, hD1⟩ := hB ; rw [ht] at hP1
  generalize u_37 = a37_0 at hP1 hD1
  have hP1 : va_P D vwCl [(q31, .inr (5, [.ref a37_0])), (a37_0, .inl (cI, 8, .inl (fun _ => 0)))] H1 := hP1
  have hD1 : va_D (va_A [(q31, .inr (5, [.null]))] H.size) [(q31, .inr (5, [.ref a37_0])), (a37_0, .inl (cI, 8, .inl (fun _ => 0)))] := hD1
  obtain ⟨hP, hD⟩ := va_join (wr := [(r, .inr (4, [.ref q5, .ref q18, .null, .int 0, .int 0, .int 0, .int 0, .int 0])), (q5, .inr (5, [.ref a11_0])), (a11_0, .inl (cI, 6, .inl (fun _ => 0))), (q18, .inr (5, [.ref a24_0])), (a24_0, .inl (cI, 6, .inl (fun _ => 0)))]) (w1 := [(q31, .inr (5, [.ref a37_0])), (a37_0, .inl (cI, 8, .inl (fun _ => 0)))]) hP hD [5] [0, 1, 2, 3, 4] rfl rfl (by decide) (by decide) hk1 hFc hP1 hD1
  clear hP1 hD1 hPc hDc hFc hk1 hz1 ; generalize H1 = H at hP hS ht ⊢ ; clear ht
  have hP : va_P D vwCl [(r, .inr (4, [.ref q5, .ref q18, .null, .int 0, .int 0, .int 0, .int 0, .int 0])), (q5, .inr (5, [.ref a11_0])), (a11_0, .inl (cI, 6, .inl (fun _ => 0))), (q18, .inr (5, [.ref a24_0])), (a24_0, .inl (cI, 6, .inl (fun _ => 0))), (q31, .inr (5, [.ref a37_0])), (a37_0, .inl (cI, 8, .inl (fun _ => 0)))] _ := hP
  have hD : va_D A [(r, .inr (4, [.ref q5, .ref q18, .null, .int 0, .int 0, .int 0, .int 0, .int 0])), (q5, .inr (5, [.ref a11_0])), (a11_0, .inl (cI, 6, .inl (fun _ => 0))), (q18, .inr (5, [.ref a24_0])), (a24_0, .inl (cI, 6, .inl (fun _ => 0))), (q31, .inr (5, [.ref a37_0])), (a37_0, .inl (cI, 8, .inl (fun _ => 0)))] := hD
  refine W.widen (k := 6) (n := 23) (Nat.le_of_ble_eq_true rfl) (Nat.le_of_ble_eq_true rfl) ?_
  refine va_putF (D := D) (ci := 4) (v := .ref q31) (ty := (.object "SongsAgain$Row")) (C := RX4) (T := TX4) (N := 8) hx hb hts (vz_in (i := 26) (n := 8) rfl : ∀ w ∈ u_ws RX4 TX4 8, w ∈ wsX4_init) tyX4 tyX4_ok nmX4 hown hK hP hD hS 0 rfl rfl 2 (by decide) (hts (.fieldLink RX4 23 "SongsAgain$Past" "heard" "LSongsAgain$Row;") (List.mem_of_getElem? (i := 9) rfl)) (fun _ h9 => h9) rfl hin rfl (by decide +kernel) rfl rfl (Nat.le_of_ble_eq_true rfl) dX4_init_40 (fun H locs hP hD hS => ?_)
  have hP : va_P D vwCl [(r, .inr (4, [.ref q5, .ref q18, .ref q31, .int 0, .int 0, .int 0, .int 0, .int 0])), (q5, .inr (5, [.ref a11_0])), (a11_0, .inl (cI, 6, .inl (fun _ => 0))), (q18, .inr (5, [.ref a24_0])), (a24_0, .inl (cI, 6, .inl (fun _ => 0))), (q31, .inr (5, [.ref a37_0])), (a37_0, .inl (cI, 8, .inl (fun _ => 0)))] _ := hP
  have hD : va_D A [(r, .inr (4, [.ref q5, .ref q18, .ref q31, .int 0, .int 0, .int 0, .int 0, .int 0])), (q5, .inr (5, [.ref a11_0])), (a11_0, .inl (cI, 6, .inl (fun _ => 0))), (q18, .inr (5, [.ref a24_0])), (a24_0, .inl (cI, 6, .inl (fun _ => 0))), (q31, .inr (5, [.ref a37_0])), (a37_0, .inl (cI, 8, .inl (fun _ => 0)))] := hD
  refine lv_aload_n hx hb dX4_init_43 rfl (lv_at hl 0 rfl) ?_
  refine lv_iconst (v := 0) hx hb dX4_init_44 (by decide) ?_
  refine va_put (D := D) (ci := 4) (v := .int 0) (ty := .int) (C := RX4) (T := TX4) (N := 8) hx hb hts (vz_in (i := 26) (n := 8) rfl : ∀ w ∈ u_ws RX4 TX4 8, w ∈ wsX4_init) tyX4 tyX4_ok nmX4 hown hK hP hD hS 0 rfl rfl 3 (by decide) (hts (.fieldLink RX4 26 "SongsAgain$Past" "heardLength" "I") (List.mem_of_getElem? (i := 10) rfl)) (fun _ h9 => h9) rfl (by decide +kernel) rfl rfl (Nat.le_of_ble_eq_true rfl) dX4_init_45 (fun H locs hP hD hS => ?_)
  have hP : va_P D vwCl [(r, .inr (4, [.ref q5, .ref q18, .ref q31, .int 0, .int 0, .int 0, .int 0, .int 0])), (q5, .inr (5, [.ref a11_0])), (a11_0, .inl (cI, 6, .inl (fun _ => 0))), (q18, .inr (5, [.ref a24_0])), (a24_0, .inl (cI, 6, .inl (fun _ => 0))), (q31, .inr (5, [.ref a37_0])), (a37_0, .inl (cI, 8, .inl (fun _ => 0)))] _ := hP
  have hD : va_D A [(r, .inr (4, [.ref q5, .ref q18, .ref q31, .int 0, .int 0, .int 0, .int 0, .int 0])), (q5, .inr (5, [.ref a11_0])), (a11_0, .inl (cI, 6, .inl (fun _ => 0))), (q18, .inr (5, [.ref a24_0])), (a24_0, .inl (cI, 6, .inl (fun _ => 0))), (q31, .inr (5, [.ref a37_0])), (a37_0, .inl (cI, 8, .inl (fun _ => 0)))] := hD
  refine lv_aload_n hx hb dX4_init_48 rfl (lv_at hl 0 rfl) ?_
  refine lv_iconst (v := 0) hx hb dX4_init_49 (by decide) ?_
  refine va_put (D := D) (ci := 4) (v := .int 0) (ty := .int) (C := RX4) (T := TX4) (N := 8) hx hb hts (vz_in (i := 26) (n := 8) rfl : ∀ w ∈ u_ws RX4 TX4 8, w ∈ wsX4_init) tyX4 tyX4_ok nmX4 hown hK hP hD hS 0 rfl rfl 4 (by decide) (hts (.fieldLink RX4 30 "SongsAgain$Past" "rule" "I") (List.mem_of_getElem? (i := 11) rfl)) (fun _ h9 => h9) rfl (by decide +kernel) rfl rfl (Nat.le_of_ble_eq_true rfl) dX4_init_50 (fun H locs hP hD hS => ?_)
  have hP : va_P D vwCl [(r, .inr (4, [.ref q5, .ref q18, .ref q31, .int 0, .int 0, .int 0, .int 0, .int 0])), (q5, .inr (5, [.ref a11_0])), (a11_0, .inl (cI, 6, .inl (fun _ => 0))), (q18, .inr (5, [.ref a24_0])), (a24_0, .inl (cI, 6, .inl (fun _ => 0))), (q31, .inr (5, [.ref a37_0])), (a37_0, .inl (cI, 8, .inl (fun _ => 0)))] _ := hP
  have hD : va_D A [(r, .inr (4, [.ref q5, .ref q18, .ref q31, .int 0, .int 0, .int 0, .int 0, .int 0])), (q5, .inr (5, [.ref a11_0])), (a11_0, .inl (cI, 6, .inl (fun _ => 0))), (q18, .inr (5, [.ref a24_0])), (a24_0, .inl (cI, 6, .inl (fun _ => 0))), (q31, .inr (5, [.ref a37_0])), (a37_0, .inl (cI, 8, .inl (fun _ => 0)))] := hD
  refine lv_aload_n hx hb dX4_init_53 rfl (lv_at hl 0 rfl) ?_
  refine lv_iconst (v := 0) hx hb dX4_init_54 (by decide) ?_
  refine va_put (D := D) (ci := 4) (v := .int 0) (ty := .int) (C := RX4) (T := TX4) (N := 8) hx hb hts (vz_in (i := 26) (n := 8) rfl : ∀ w ∈ u_ws RX4 TX4 8, w ∈ wsX4_init) tyX4 tyX4_ok nmX4 hown hK hP hD hS 0 rfl rfl 5 (by decide) (hts (.fieldLink RX4 33 "SongsAgain$Past" "bag" "I") (List.mem_of_getElem? (i := 12) rfl)) (fun _ h9 => h9) rfl (by decide +kernel) rfl rfl (Nat.le_of_ble_eq_true rfl) dX4_init_55 (fun H locs hP hD hS => ?_)
  have hP : va_P D vwCl [(r, .inr (4, [.ref q5, .ref q18, .ref q31, .int 0, .int 0, .int 0, .int 0, .int 0])), (q5, .inr (5, [.ref a11_0])), (a11_0, .inl (cI, 6, .inl (fun _ => 0))), (q18, .inr (5, [.ref a24_0])), (a24_0, .inl (cI, 6, .inl (fun _ => 0))), (q31, .inr (5, [.ref a37_0])), (a37_0, .inl (cI, 8, .inl (fun _ => 0)))] _ := hP
  have hD : va_D A [(r, .inr (4, [.ref q5, .ref q18, .ref q31, .int 0, .int 0, .int 0, .int 0, .int 0])), (q5, .inr (5, [.ref a11_0])), (a11_0, .inl (cI, 6, .inl (fun _ => 0))), (q18, .inr (5, [.ref a24_0])), (a24_0, .inl (cI, 6, .inl (fun _ => 0))), (q31, .inr (5, [.ref a37_0])), (a37_0, .inl (cI, 8, .inl (fun _ => 0)))] := hD
  refine lv_aload_n hx hb dX4_init_58 rfl (lv_at hl 0 rfl) ?_
  refine lv_iconst (v := (-1)) hx hb dX4_init_59 (by decide) ?_
  refine va_put (D := D) (ci := 4) (v := .int (-1)) (ty := .int) (C := RX4) (T := TX4) (N := 8) hx hb hts (vz_in (i := 26) (n := 8) rfl : ∀ w ∈ u_ws RX4 TX4 8, w ∈ wsX4_init) tyX4 tyX4_ok nmX4 hown hK hP hD hS 0 rfl rfl 6 (by decide) (hts (.fieldLink RX4 36 "SongsAgain$Past" "last" "I") (List.mem_of_getElem? (i := 13) rfl)) (fun _ h9 => h9) rfl (by decide +kernel) rfl rfl (Nat.le_of_ble_eq_true rfl) dX4_init_60 (fun H locs hP hD hS => ?_)
  have hP : va_P D vwCl [(r, .inr (4, [.ref q5, .ref q18, .ref q31, .int 0, .int 0, .int 0, .int (-1), .int 0])), (q5, .inr (5, [.ref a11_0])), (a11_0, .inl (cI, 6, .inl (fun _ => 0))), (q18, .inr (5, [.ref a24_0])), (a24_0, .inl (cI, 6, .inl (fun _ => 0))), (q31, .inr (5, [.ref a37_0])), (a37_0, .inl (cI, 8, .inl (fun _ => 0)))] _ := hP
  have hD : va_D A [(r, .inr (4, [.ref q5, .ref q18, .ref q31, .int 0, .int 0, .int 0, .int (-1), .int 0])), (q5, .inr (5, [.ref a11_0])), (a11_0, .inl (cI, 6, .inl (fun _ => 0))), (q18, .inr (5, [.ref a24_0])), (a24_0, .inl (cI, 6, .inl (fun _ => 0))), (q31, .inr (5, [.ref a37_0])), (a37_0, .inl (cI, 8, .inl (fun _ => 0)))] := hD
  refine lv_aload_n hx hb dX4_init_63 rfl (lv_at hl 0 rfl) ?_
  refine lv_iconst (v := 0) hx hb dX4_init_64 (by decide) ?_
  refine va_put (D := D) (ci := 4) (v := .int 0) (ty := .boolean) (C := RX4) (T := TX4) (N := 8) hx hb hts (vz_in (i := 26) (n := 8) rfl : ∀ w ∈ u_ws RX4 TX4 8, w ∈ wsX4_init) tyX4 tyX4_ok nmX4 hown hK hP hD hS 0 rfl rfl 7 (by decide) (hts (.fieldLink RX4 39 "SongsAgain$Past" "lastIsSkipped" "Z") (List.mem_of_getElem? (i := 14) rfl)) (fun _ h9 => h9) rfl (by decide +kernel) rfl rfl (Nat.le_of_ble_eq_true rfl) dX4_init_65 (fun H locs hP hD hS => ?_)
  have hP : va_P D vwCl [(r, .inr (4, [.ref q5, .ref q18, .ref q31, .int 0, .int 0, .int 0, .int (-1), .int 0])), (q5, .inr (5, [.ref a11_0])), (a11_0, .inl (cI, 6, .inl (fun _ => 0))), (q18, .inr (5, [.ref a24_0])), (a24_0, .inl (cI, 6, .inl (fun _ => 0))), (q31, .inr (5, [.ref a37_0])), (a37_0, .inl (cI, 8, .inl (fun _ => 0)))] _ := hP
  have hD : va_D A [(r, .inr (4, [.ref q5, .ref q18, .ref q31, .int 0, .int 0, .int 0, .int (-1), .int 0])), (q5, .inr (5, [.ref a11_0])), (a11_0, .inl (cI, 6, .inl (fun _ => 0))), (q18, .inr (5, [.ref a24_0])), (a24_0, .inl (cI, 6, .inl (fun _ => 0))), (q31, .inr (5, [.ref a37_0])), (a37_0, .inl (cI, 8, .inl (fun _ => 0)))] := hD
  exact W.vret hx hb hr (fun t ht hW => ⟨⟨(q5, a11_0, q18, a24_0, q31, a37_0), rfl, trivial, (by rw [ht]; exact hP), hD⟩, hS.F ht⟩) hS.2.2 dX4_init_68

set_option maxHeartbeats 4000000 in
set_option maxRecDepth 100000 in
theorem whole_start {p : Program} {e : Env} {s : State} {m : MethodId} {below : List Frame} {meth : Method} {c : Code} (l : Launch) (hflags : l.flags = flags0) {b L : Nat} {xs : Nat → Int32} (hL : L ≤ 256) (C0 : lw_At p s m meth c b L xs) : W p l e room_1 s m #[Value.ref b] below meth c s.heap [] 0 0 (lw_Z below #[Value.ref b] s) (entryFrame m ([Value.ref b] : List Value).toArray 4) := by
  obtain ⟨hx, hb, hr, hml, hown, hts0, hX, hbl, hlocks, hgv⟩ := id C0
  have hts : ∀ w ∈ wsL_law, w.before #[Value.ref b] s = true := fun w hw => hts0 w (wsL_law_in w hw)
  have hA : ∀ q : Nat, s.heap.size ≤ q → (fun q : Nat => s.heap.size ≤ q) q := fun _ h => h
  obtain ⟨D, cI, hZ⟩ := zst_K hts0
  obtain ⟨sa, va, hT⟩ := zst_S hts0 hgv
  have hS : va_S (fun q : Nat => s.heap.size ≤ q) s.heap s.heap [] := va_S.rf
  have hP : va_P D vwCl [] s.heap := fun k q h => by simp at h
  have hD : va_D (fun q : Nat => s.heap.size ≤ q) [] := ⟨fun i j p q h => by simp at h, fun k q h => by simp at h⟩
  have hl := lv_entry ([.ref b]) (n := 4) (Nat.le_of_ble_eq_true rfl)
  rw [lg_entry_eq]
  generalize (lg_sl ([.ref b]) ++ List.replicate (4 - (lg_sl ([.ref b])).length) Slot.unset).toArray = ls at hl ⊢
  have hl : lv_has ls 4 [(0, .ref b)] := hl
  refine va_new (ci := 6) (fs := [.null, .null, .null, .null, .null, .null, .null, .null, .int 0, .int 0]) (C := RX6) (T := TX6) (N := 10) hx hb hts0 zw_X6 tyX6 tyX6_ok hown (hts0 (.classLink RL 7 RX6) (List.mem_of_getElem? (i := 66) (by decide +kernel))) (hts0 (.instantiable RX6 10) (List.mem_of_getElem? (i := 67) (by decide +kernel))) (hts0 (.initialized RX6) (List.mem_of_getElem? (i := 51) (by decide +kernel))) hZ.1 hP hD hS hA rfl (fun j hj => by rcases (show j = 0 ∨ j = 1 ∨ j = 2 ∨ j = 3 ∨ j = 4 ∨ j = 5 ∨ j = 6 ∨ j = 7 ∨ j = 8 ∨ j = 9 by omega) with rfl | rfl | rfl | rfl | rfl | rfl | rfl | rfl | rfl | rfl <;> rfl) (Nat.le_of_ble_eq_true rfl) (Nat.le_of_ble_eq_true rfl) dL_law_0 (fun qx H hP hD hS => ?_)
  have hP : va_P D vwCl [(qx, .inr (6, [.null, .null, .null, .null, .null, .null, .null, .null, .int 0, .int 0]))] H := hP
  have hD : va_D (fun q : Nat => s.heap.size ≤ q) [(qx, .inr (6, [.null, .null, .null, .null, .null, .null, .null, .null, .int 0, .int 0]))] := hD
  refine W.widen (k := 1) (n := 10) (Nat.le_of_ble_eq_true rfl) (Nat.le_of_ble_eq_true rfl) ?_
  refine lv_dup hx hb dL_law_3 rfl ?_
  have hF1 : ∀ q, va_A [(qx, .inr (6, [.null, .null, .null, .null, .null, .null, .null, .null, .int 0, .int 0]))] H.size q → (fun q : Nat => s.heap.size ≤ q) q := vz_freeAll hD hS hA
  refine va_callv (va_runI (As := []) (rest := [.ref qx]) ⟨hx, hb, hml, hown, hts⟩ (c_X6_init l D cI qx H.size) (cwI 0 hts gL_law_X6_init rfl rfl rfl (hts0 (.initialized RX6) (List.mem_of_getElem? (i := 51) (by decide +kernel))) (hts0 (.methodLink RL 9 yX6_init) (List.mem_of_getElem? (i := 68) (by decide +kernel))) (hts0 (.instanceMethod yX6_init) (List.mem_of_getElem? (i := 69) (by decide +kernel))) rfl (by decide +kernel) ⟨Nat.le_of_ble_eq_true rfl, Nat.le_of_ble_eq_true rfl⟩) (vz_psW hZ hP hD) rfl rfl hl.1 rfl (lv_room (Nat.le_of_ble_eq_true rfl)) dL_law_4 ⟨Nat.le_of_ble_eq_true rfl, Nat.le_of_ble_eq_true rfl⟩) hS (fun q _ h => hF1 q h) hF1 (fun u t H1 locs1 ht hvm hw hB hz1 hk1 hS1 => ?_)
  obtain ⟨hP1, hD1, hu⟩ := hB
  rw [ht] at hP1
  have hDA : va_D (fun q : Nat => s.heap.size ≤ q) (zSA cI u 0 (fun _ => 0) 0 (fun _ => 0) (fun _ => 0) (fun _ => 0) (fun _ => 0) (fun _ => 0) (fun _ => 0) (fun _ => 0) 0 0 0 (-1) false (fun _ => 0) (fun _ => 0) (fun _ => 0) 0 0 0 (-1) false 0 1 0 1 0 1 (fun _ => 0) (fun _ => 0) 0 0 false 0) := ⟨hD1.1, fun k q hq => hF1 _ (hD1.2 k q hq)⟩
  clear hD1 hk1 hF1 hP hD hw hz1 ht hvm
  subst hu
  refine W.widen (k := 35) (n := 154) (Nat.le_of_ble_eq_true rfl) (Nat.le_of_ble_eq_true rfl) ?_
  refine lv_astore_n (lv' := [(1, .ref (u 0)), (0, .ref b)]) hx hb dL_law_7 rfl hl (by decide) rfl (fun ls hl => ?_)
  refine va_new (ci := 7) (fs := [.null, .int 0, .null, .int 0, .int 0, .int 0, .int 0, .int 0, .int 0, .int 0, .int 0, .int 0, .null, .null, .null, .int 0, .int 0, .null, .long 0, .long 0, .int 0, .int 0, .int 0, .int 0, .int 0, .int 0, .int 0, .null, .null, .long 0]) (C := RX7) (T := TX7) (N := 30) hx hb hts0 zw_X7 tyX7 tyX7_ok hown (hts0 (.classLink RL 10 RX7) (List.mem_of_getElem? (i := 661) (by decide +kernel))) (hts0 (.instantiable RX7 30) (List.mem_of_getElem? (i := 662) (by decide +kernel))) (hts0 (.initialized RX7) (List.mem_of_getElem? (i := 59) (by decide +kernel))) hZ.1 hP1 hDA hS1 hA rfl (fun j hj => by rcases (show j = 0 ∨ j = 1 ∨ j = 2 ∨ j = 3 ∨ j = 4 ∨ j = 5 ∨ j = 6 ∨ j = 7 ∨ j = 8 ∨ j = 9 ∨ j = 10 ∨ j = 11 ∨ j = 12 ∨ j = 13 ∨ j = 14 ∨ j = 15 ∨ j = 16 ∨ j = 17 ∨ j = 18 ∨ j = 19 ∨ j = 20 ∨ j = 21 ∨ j = 22 ∨ j = 23 ∨ j = 24 ∨ j = 25 ∨ j = 26 ∨ j = 27 ∨ j = 28 ∨ j = 29 by omega) with rfl | rfl | rfl | rfl | rfl | rfl | rfl | rfl | rfl | rfl | rfl | rfl | rfl | rfl | rfl | rfl | rfl | rfl | rfl | rfl | rfl | rfl | rfl | rfl | rfl | rfl | rfl | rfl | rfl | rfl <;> rfl) (Nat.le_of_ble_eq_true rfl) (Nat.le_of_ble_eq_true rfl) dL_law_8 (fun qm H2 hP2 hD2 hS2 => ?_)
  have hPa : va_P D vwCl (zSA cI u 0 (fun _ => 0) 0 (fun _ => 0) (fun _ => 0) (fun _ => 0) (fun _ => 0) (fun _ => 0) (fun _ => 0) (fun _ => 0) 0 0 0 (-1) false (fun _ => 0) (fun _ => 0) (fun _ => 0) 0 0 0 (-1) false 0 1 0 1 0 1 (fun _ => 0) (fun _ => 0) 0 0 false 0) H2 := lw_pl hP2
  have hPb : va_P D vwCl [(qm, .inr (7, [.null, .int 0, .null, .int 0, .int 0, .int 0, .int 0, .int 0, .int 0, .int 0, .int 0, .int 0, .null, .null, .null, .int 0, .int 0, .null, .long 0, .long 0, .int 0, .int 0, .int 0, .int 0, .int 0, .int 0, .int 0, .null, .null, .long 0]))] H2 := lw_pr hP2
  refine W.widen (k := 36) (n := 184) (Nat.le_of_ble_eq_true rfl) (Nat.le_of_ble_eq_true rfl) ?_
  refine lv_dup hx hb dL_law_11 rfl ?_
  have hF2 : ∀ q, va_A [(qm, .inr (7, [.null, .int 0, .null, .int 0, .int 0, .int 0, .int 0, .int 0, .int 0, .int 0, .int 0, .int 0, .null, .null, .null, .int 0, .int 0, .null, .long 0, .long 0, .int 0, .int 0, .int 0, .int 0, .int 0, .int 0, .int 0, .null, .null, .long 0]))] H2.size q → (fun q : Nat => s.heap.size ≤ q) q := vz_freeAll (zDr hD2) hS2 hA
  refine va_callv (va_runI (As := []) (rest := [.ref qm]) ⟨hx, hb, hml, hown, hts⟩ (c_X7_init l D cI qm H2.size) (cwI 0 hts gL_law_X7_init rfl rfl rfl (hts0 (.initialized RX7) (List.mem_of_getElem? (i := 59) (by decide +kernel))) (hts0 (.methodLink RL 12 yX7_init) (List.mem_of_getElem? (i := 663) (by decide +kernel))) (hts0 (.instanceMethod yX7_init) (List.mem_of_getElem? (i := 664) (by decide +kernel))) rfl (by decide +kernel) ⟨Nat.le_of_ble_eq_true rfl, Nat.le_of_ble_eq_true rfl⟩) (vz_psW hZ hPb (zDr hD2)) rfl rfl hl.1 rfl (lv_room (Nat.le_of_ble_eq_true rfl)) dL_law_12 ⟨Nat.le_of_ble_eq_true rfl, Nat.le_of_ble_eq_true rfl⟩) hS2 (fun q _ h => hF2 q h) hF2 (fun u2 t H3 locs3 ht hvm hw hB hz1 hk1 hS3 => ?_)
  obtain ⟨hP3, hD3, hu⟩ := hB
  rw [ht] at hP3
  have hPA : va_P D vwCl (zSA cI u 0 (fun _ => 0) 0 (fun _ => 0) (fun _ => 0) (fun _ => 0) (fun _ => 0) (fun _ => 0) (fun _ => 0) (fun _ => 0) 0 0 0 (-1) false (fun _ => 0) (fun _ => 0) (fun _ => 0) 0 0 0 (-1) false 0 1 0 1 0 1 (fun _ => 0) (fun _ => 0) 0 0 false 0) H3 := zkeepL hD2 hPa hk1
  have hDD : va_D (fun q : Nat => s.heap.size ≤ q) (zSA cI u 0 (fun _ => 0) 0 (fun _ => 0) (fun _ => 0) (fun _ => 0) (fun _ => 0) (fun _ => 0) (fun _ => 0) (fun _ => 0) 0 0 0 (-1) false (fun _ => 0) (fun _ => 0) (fun _ => 0) 0 0 0 (-1) false 0 1 0 1 0 1 (fun _ => 0) (fun _ => 0) 0 0 false 0 ++ zM cI u2 0 0 0 0 0 0 0 (-1) false 0 0 0 0 0 0 (-1) 0 0 0 false 0 0 (fun _ => 0) (fun _ => 0) (fun _ => 0) (fun _ => 0) (fun _ => 0) (fun _ => 0) (fun _ => 0) (fun _ => 0)) := zDapp hD2 hPa hD3 hF2
  clear hD3 hk1 hF2 hP2 hD2 hPa hPb hw hz1 ht hvm
  subst hu
  refine W.widen (k := 44) (n := 294) (Nat.le_of_ble_eq_true rfl) (Nat.le_of_ble_eq_true rfl) ?_
  refine lv_astore_n (lv' := [(2, .ref (u2 0)), (1, .ref (u 0)), (0, .ref b)]) hx hb dL_law_15 rfl hl (by decide) rfl (fun ls hl => ?_)
  refine lv_iconst (v := 0) hx hb dL_law_16 (by decide) ?_
  refine lv_istore_n (lv' := [(3, .int 0), (2, .ref (u2 0)), (1, .ref (u 0)), (0, .ref b)]) hx hb dL_law_17 rfl hl (by decide) rfl (fun ls hl => ?_)
  have hWd : zWd D cI u u2 (fun q : Nat => s.heap.size ≤ q) 0 H3 := ⟨0, (fun _ => 0), 0, (fun _ => 0), (fun _ => 0), (fun _ => 0), (fun _ => 0), (fun _ => 0), (fun _ => 0), (fun _ => 0), 0, 0, 0, ((-1)), false, (fun _ => 0), (fun _ => 0), (fun _ => 0), 0, 0, 0, ((-1)), false, 0, 1, 0, 1, 0, 1, (fun _ => 0), (fun _ => 0), 0, 0, false, 0, 0, 0, 0, 0, 0, 0, 0, ((-1)), 0, 0, 0, false, 0, 0, (fun _ => 0), (fun _ => 0), (fun _ => 0), (fun _ => 0), (fun _ => 0), (fun _ => 0), (fun _ => 0), (fun _ => 0), zI.start, hPA, hP3, hDD⟩
  exact lw_loop C0 hZ hT hL 64 0 rfl H3 locs3 hWd hS3 ls hl

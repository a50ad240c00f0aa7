abbrev zBookPage (cI : ClassId) (h : Nat → Nat) (nm : Nat) (ks : Nat → Int32) (gs : Nat → Int32) (wt : Nat → Int32) (mi : Nat → Int32) (a : Nat) (b : Nat) (q3 : Nat) (len : Nat) (f : Nat → Int32) : va_W := [((h 0), .inr (0, [.ref (h 1), .ref (h 3), .ref (h 5), .ref (h 7), .int (nI nm)])), ((h 1), .inr (5, [.ref (h 2)])), ((h 2), .inl (cI, 6, .inl ks)), ((h 3), .inr (5, [.ref (h 4)])), ((h 4), .inl (cI, 6, .inl gs)), ((h 5), .inr (5, [.ref (h 6)])), ((h 6), .inl (cI, 6, .inl wt)), ((h 7), .inr (5, [.ref (h 8)])), ((h 8), .inl (cI, 6, .inl mi)), (a, .inr (3, [.ref b, .int (nI len)])), (b, .inr (5, [.ref q3])), (q3, .inl (cI, 22, .inl f))]
set_option maxHeartbeats 4000000 in
set_option maxRecDepth 100000 in
theorem c_X0_read (l : Launch) (D : va_G) (cI : ClassId) (h : Nat → Nat) (nm : Nat) (ks : Nat → Int32) (gs : Nat → Int32) (wt : Nat → Int32) (mi : Nat → Int32) (a : Nat) (b : Nat) (q3 : Nat) (len : Nat) (f : Nat → Int32) (sa va : Nat) (sz : Nat) (N : Nat) (hNe : pg_songs len = nI N) (hN6 : N ≤ 6) : Met l yX0_read wsX0_read ({ frames := 5, cells := 0, slots := 0, locals := 127 } : Room) (vz_rws D cI (zBookPage cI h nm ks gs wt mi a b q3 len f) sz sa va [.ref (h 0), .ref a]) (va_Qv (fun (_ : Unit) => True) (fun (u : Unit) (t : State) => va_P D vwCl (zBookPage cI h N (rd_f (rd_k f) ks N) (rd_f (rd_g f) gs N) (rd_f (rd_w f) wt N) (rd_f (rd_m f) mi N) a b q3 len f) t.heap) (va_A (zBookPage cI h nm ks gs wt mi a b q3 len f) sz)) 0 0 (va_A (zBookPage cI h nm ks gs wt mi a b q3 len f) sz) := by
  refine Met.ofW (cc := cX0_read) (maxL := 4) (ret := none) (by decide) rfl ?_
  intro p e s m args below meth c s₁ B hml hv
  obtain ⟨rfl, hsz, hP, hZ, hD0, hT⟩ := hv
  obtain ⟨hK, hN⟩ := id hZ
  have hx := B.exec
  have hb := B.bytes
  have hr := B.returns
  have hts := atoms_spec (ws := wsX0_read) B.pre
  have hown : s.vm.findClass RX0 = some m.cls := findClass_of_methodNamed B.named
  have hlocks := B.notSynchronized
  subst hsz
  have hD := hD0.self (sz := s.heap.size)
  generalize hAe : va_A (zBookPage cI h nm ks gs wt mi a b q3 len f) s.heap.size = A at hD hT ⊢
  have hA : ∀ q : Nat, s.heap.size ≤ q → A q := fun q h => by rw [← hAe]; exact Or.inr h
  have hS : va_S A s.heap s.heap [] := va_S.rf
  have k14 := hts (.fieldLink RX0 14 "SongsAgain$Book" "kinds" "LSongsAgain$Row;") (List.mem_of_getElem? (i := 2) rfl)
  have k20 := hts (.fieldLink RX0 20 "SongsAgain$Book" "singers" "LSongsAgain$Row;") (List.mem_of_getElem? (i := 3) rfl)
  have k23 := hts (.fieldLink RX0 23 "SongsAgain$Book" "weights" "LSongsAgain$Row;") (List.mem_of_getElem? (i := 4) rfl)
  have k26 := hts (.fieldLink RX0 26 "SongsAgain$Book" "minutes" "LSongsAgain$Row;") (List.mem_of_getElem? (i := 5) rfl)
  have k29 := hts (.fieldLink RX0 29 "SongsAgain$Book" "number" "I") (List.mem_of_getElem? (i := 1) rfl)
  have iX0 : ∀ w ∈ u_ws RX0 TX0 5, w ∈ wsX0_read := vz_in (i := 125) (n := 5) rfl
  have hl := lv_entry ([.ref (h 0), .ref a]) (n := 4) (Nat.le_of_ble_eq_true rfl)
  rw [lg_entry_eq]
  generalize (lg_sl ([.ref (h 0), .ref a]) ++ List.replicate (4 - (lg_sl ([.ref (h 0), .ref a])).length) Slot.unset).toArray = ls at hl ⊢
  have hl : lv_has ls 4 [(0, .ref (h 0)), (1, .ref a)] := hl
  have hP : va_P D vwCl (zBookPage cI h nm ks gs wt mi a b q3 len f) s.heap := hP
  refine lv_aload_n hx hb dX0_read_0 rfl (lv_at hl 0 rfl) ?_
  refine lv_aload_n hx hb dX0_read_1 rfl (lv_at hl 1 rfl) ?_
  refine vp_callSi (W.runV (As := []) (rest := [.ref (h 0)]) ⟨hx, hb, hml, hown, hts⟩ (c_X3_songsRead l D cI a b q3 len f) (cwV 0 hts gX0_read_X3_songsRead rfl rfl rfl (by decide +kernel) ⟨Nat.le_of_ble_eq_true rfl, Nat.le_of_ble_eq_true rfl⟩) (vz_pvR (va_recv hK hP (ci := 3) (q0 := 9) rfl rfl) hZ (hP.sub (ws' := (zPage cI a b q3 len f)) [9, 10, 11] rfl)) rfl rfl hl.1 rfl (lv_room (Nat.le_of_ble_eq_true rfl)) dX0_read_2 ⟨Nat.zero_le _, Nat.zero_le _⟩) (fun r_2 hr_2 => ?_)
  subst hr_2
  refine W.eq (congrArg (fun z => F0 m 5 ls (.int z :: [.ref (h 0)])) (hNe)) ?_
  refine va_put (D := D) (ci := 0) (v := .int (nI N)) (ty := .int) (C := RX0) (T := TX0) (N := 5) hx hb hts iX0 tyX0 tyX0_ok nmX0 hown hK hP hD hS 0 rfl rfl 4 (by decide) k29 (fun _ h9 => h9) rfl (by decide +kernel) rfl rfl (Nat.le_of_ble_eq_true rfl) dX0_read_5 (fun H_5 locs_5 hP9 hD9 hS9 => ?_)
  replace hP : va_P D vwCl (zBookPage cI h N ks gs wt mi a b q3 len f) H_5 := hP9
  replace hD : va_D A (zBookPage cI h N ks gs wt mi a b q3 len f) := hD9
  replace hS := hS9
  clear hP9 hD9 hS9
  refine lv_iconst (v := 0) hx hb dX0_read_8 (by decide) ?_
  refine lv_istore_n (lv' := [(2, .int 0), (0, .ref (h 0)), (1, .ref a)]) hx hb dX0_read_9 rfl hl (by decide) rfl (fun ls hl => ?_)
  have L_10 : ∀ (d_10 : Nat) (j : Nat) (H_10 : Heap) (locs_10 : List Loc), N - j < d_10 → (j ≤ N) → va_P D vwCl (zBookPage cI h N (rd_f (rd_k f) ks j) (rd_f (rd_g f) gs j) (rd_f (rd_w f) wt j) (rd_f (rd_m f) mi j) a b q3 len f) H_10 → va_D A (zBookPage cI h N (rd_f (rd_k f) ks j) (rd_f (rd_g f) gs j) (rd_f (rd_w f) wt j) (rd_f (rd_m f) mi j) a b q3 len f) → va_S A s.heap H_10 locs_10 → ∀ (ls : Array Slot), lv_has ls 4 [(2, .int (nI j)), (0, .ref (h 0)), (1, .ref a)] → W p l e ({ frames := 5, cells := 0, slots := 0, locals := 127 } : Room) s m ([.ref (h 0), .ref a] : List Value).toArray below meth c H_10 locs_10 0 0 (MQ below (va_Qv (fun (_ : Unit) => True) (fun (u : Unit) (t : State) => va_P D vwCl (zBookPage cI h N (rd_f (rd_k f) ks N) (rd_f (rd_g f) gs N) (rd_f (rd_w f) wt N) (rd_f (rd_m f) mi N) a b q3 len f) t.heap) A) ([.ref (h 0), .ref a] : List Value).toArray s 0 0 A) (F0 m 10 ls []) := by
    intro d_10
    induction d_10 with
    | zero => intro j H_10 locs_10 hd; exact absurd hd (Nat.not_lt_zero _)
    | succ d_10 ih_10 =>
      intro j H_10 locs_10 hd_10 hj hP hD hS ls hl
      refine lv_iload_n hx hb dX0_read_10 rfl (lv_at hl 0 rfl) ?_
      refine lv_aload_n hx hb dX0_read_11 rfl (lv_at hl 1 rfl) ?_
      refine va_get (D := D) (ci := 0) (v := .int (nI N)) (C := RX0) (T := TX0) (N := 5) hx hb hts iX0 hown hK hP 0 rfl rfl 4 (by decide) k29 (fun _ h9 => h9) rfl dX0_read_12 ?_
      refine lv_icmp_ge (tgt := 83) hx hb dX0_read_15 (by decide) (fun c_15 => ?_) (fun c_15 => ?_)
      · skip
        have hje : j = N := Nat.le_antisymm hj (vz_ge c_15 (by omega) (by omega))
        have en_ks : rd_f (rd_k f) ks N = rd_f (rd_k f) ks j := by rw [hje]
        have en_gs : rd_f (rd_g f) gs N = rd_f (rd_g f) gs j := by rw [hje]
        have en_wt : rd_f (rd_w f) wt N = rd_f (rd_w f) wt j := by rw [hje]
        have en_mi : rd_f (rd_m f) mi N = rd_f (rd_m f) mi j := by rw [hje]
        exact W.vret hx hb hr (fun t ht hW => ⟨⟨(), rfl, trivial, (by show va_P D vwCl (zBookPage cI h N (rd_f (rd_k f) ks N) (rd_f (rd_g f) gs N) (rd_f (rd_w f) wt N) (rd_f (rd_m f) mi N) a b q3 len f) t.heap; rw [ht, en_ks, en_gs, en_wt, en_mi]; exact hP)⟩, hS.F ht⟩) hS.2.2 dX0_read_83
      · skip
        have hlt : j < N := vz_lt c_15 (by omega)
        refine lv_aload_n hx hb dX0_read_18 rfl (lv_at hl 2 rfl) ?_
        refine lv_iload_n hx hb dX0_read_19 rfl (lv_at hl 0 rfl) ?_
        have hTs := vz_sk hT hS
        refine vp_callSi (W.runV (As := [.int (nI j)]) (rest := []) ⟨hx, hb, hml, hown, hts⟩ (c_X3_kindRead l D cI a b q3 len f sa va (nI j)) (cwV 1 hts gX0_read_X3_kindRead rfl rfl rfl (by decide +kernel) ⟨Nat.le_of_ble_eq_true rfl, Nat.le_of_ble_eq_true rfl⟩) (vz_pvRs (va_recv hK hP (ci := 3) (q0 := 9) rfl rfl) hZ (hP.sub (ws' := (zPage cI a b q3 len f)) [9, 10, 11] rfl) hTs) rfl rfl hl.1 rfl (lv_room (Nat.le_of_ble_eq_true rfl)) dX0_read_20 ⟨Nat.zero_le _, Nat.zero_le _⟩) (fun r_20 hr_20 => ?_)
        subst hr_20
        refine lv_istore_n (lv' := [(3, .int (zIdx (zch (rw_at 22 f (3 * (nI j)))))), (2, .int (nI j)), (0, .ref (h 0)), (1, .ref a)]) hx hb dX0_read_23 rfl hl (by decide) rfl (fun ls hl => ?_)
        refine lv_aload_n hx hb dX0_read_24 rfl (lv_at hl 2 rfl) ?_
        refine va_get (D := D) (ci := 0) (v := .ref (h 1)) (C := RX0) (T := TX0) (N := 5) hx hb hts iX0 hown hK hP 0 rfl rfl 0 (by decide) k14 (fun _ h9 => h9) rfl dX0_read_25 ?_
        refine lv_iload_n hx hb dX0_read_28 rfl (lv_at hl 1 rfl) ?_
        refine lv_iload_n hx hb dX0_read_29 rfl (lv_at hl 0 rfl) ?_
        have hPc := (hP.sub (ws' := (zRow cI (h 1) (h 2) 6 (rd_f (rd_k f) ks j))) [1, 2] rfl)
        have hDc := hD.sub (ws' := (zRow cI (h 1) (h 2) 6 (rd_f (rd_k f) ks j))) [1, 2] rfl rfl
        have hFc := va_free (wc := (zRow cI (h 1) (h 2) 6 (rd_f (rd_k f) ks j))) hD hS hA [1, 2] rfl
        refine va_callv (va_runV (As := [.int (nI j), .int (zIdx (zch (rw_at 22 f (3 * (nI j)))))]) (rest := []) ⟨hx, hb, hml, hown, hts⟩ (c_X5_put l D cI (h 1) (h 2) 6 (rd_f (rd_k f) ks j) H_10.size (nI j) (zIdx (zch (rw_at 22 f (3 * (nI j))))) (by decide)) (cwV 2 hts gX0_read_X5_put rfl rfl rfl (by decide +kernel) ⟨Nat.le_of_ble_eq_true rfl, Nat.le_of_ble_eq_true rfl⟩) (vz_pvW (va_recv hK hP (ci := 5) (q0 := 1) rfl rfl) hZ hPc hDc) rfl rfl hl.1 rfl (lv_room (Nat.le_of_ble_eq_true rfl)) dX0_read_30 ⟨Nat.zero_le _, Nat.zero_le _⟩) hS (fun q _ h => hFc q h) hFc (fun u_30 t H_30 locs_30 ht hvm hw hB hz1 hk1 hS9 => ?_)
        rw [ht] at hB
        replace hP : va_P D vwCl (zBookPage cI h N (rw_put 6 (rd_f (rd_k f) ks j) (nI j) (zIdx (zch (rw_at 22 f (3 * (nI j)))))) (rd_f (rd_g f) gs j) (rd_f (rd_w f) wt j) (rd_f (rd_m f) mi j) a b q3 len f) H_30 := vz_join (w1 := (zRow cI (h 1) (h 2) 6 (rw_put 6 (rd_f (rd_k f) ks j) (nI j) (zIdx (zch (rw_at 22 f (3 * (nI j)))))))) hP hD [1, 2] rfl rfl hk1 hB
        replace hD : va_D A (zBookPage cI h N (rw_put 6 (rd_f (rd_k f) ks j) (nI j) (zIdx (zch (rw_at 22 f (3 * (nI j)))))) (rd_f (rd_g f) gs j) (rd_f (rd_w f) wt j) (rd_f (rd_m f) mi j) a b q3 len f) := vz_same hD rfl
        replace hS := hS9
        clear hS9 hPc hDc hFc hB hk1 hz1
        refine lv_aload_n hx hb dX0_read_33 rfl (lv_at hl 2 rfl) ?_
        refine va_get (D := D) (ci := 0) (v := .ref (h 3)) (C := RX0) (T := TX0) (N := 5) hx hb hts iX0 hown hK hP 0 rfl rfl 1 (by decide) k20 (fun _ h9 => h9) rfl dX0_read_34 ?_
        refine lv_iload_n hx hb dX0_read_37 rfl (lv_at hl 1 rfl) ?_
        refine lv_aload_n hx hb dX0_read_38 rfl (lv_at hl 3 rfl) ?_
        refine lv_iload_n hx hb dX0_read_39 rfl (lv_at hl 1 rfl) ?_
        refine vp_callSi (W.runV (As := [.int (nI j)]) (rest := [.int (nI j), .ref (h 3)]) ⟨hx, hb, hml, hown, hts⟩ (c_X3_singerRead l D cI a b q3 len f (nI j)) (cwV 1 hts gX0_read_X3_singerRead rfl rfl rfl (by decide +kernel) ⟨Nat.le_of_ble_eq_true rfl, Nat.le_of_ble_eq_true rfl⟩) (vz_pvR (va_recv hK hP (ci := 3) (q0 := 9) rfl rfl) hZ (hP.sub (ws' := (zPage cI a b q3 len f)) [9, 10, 11] rfl)) rfl rfl hl.1 rfl (lv_room (Nat.le_of_ble_eq_true rfl)) dX0_read_40 ⟨Nat.zero_le _, Nat.zero_le _⟩) (fun r_40 hr_40 => ?_)
        subst hr_40
        have hPc := (hP.sub (ws' := (zRow cI (h 3) (h 4) 6 (rd_f (rd_g f) gs j))) [3, 4] rfl)
        have hDc := hD.sub (ws' := (zRow cI (h 3) (h 4) 6 (rd_f (rd_g f) gs j))) [3, 4] rfl rfl
        have hFc := va_free (wc := (zRow cI (h 3) (h 4) 6 (rd_f (rd_g f) gs j))) hD hS hA [3, 4] rfl
        refine va_callv (va_runV (As := [.int (nI j), .int (rw_at 22 f (3 * (nI j) + 1) - 48)]) (rest := []) ⟨hx, hb, hml, hown, hts⟩ (c_X5_put l D cI (h 3) (h 4) 6 (rd_f (rd_g f) gs j) H_30.size (nI j) (rw_at 22 f (3 * (nI j) + 1) - 48) (by decide)) (cwV 2 hts gX0_read_X5_put rfl rfl rfl (by decide +kernel) ⟨Nat.le_of_ble_eq_true rfl, Nat.le_of_ble_eq_true rfl⟩) (vz_pvW (va_recv hK hP (ci := 5) (q0 := 3) rfl rfl) hZ hPc hDc) rfl rfl hl.1 rfl (lv_room (Nat.le_of_ble_eq_true rfl)) dX0_read_43 ⟨Nat.zero_le _, Nat.zero_le _⟩) hS (fun q _ h => hFc q h) hFc (fun u_43 t H_43 locs_43 ht hvm hw hB hz1 hk1 hS9 => ?_)
        rw [ht] at hB
        replace hP : va_P D vwCl (zBookPage cI h N (rw_put 6 (rd_f (rd_k f) ks j) (nI j) (zIdx (zch (rw_at 22 f (3 * (nI j)))))) (rw_put 6 (rd_f (rd_g f) gs j) (nI j) (rw_at 22 f (3 * (nI j) + 1) - 48)) (rd_f (rd_w f) wt j) (rd_f (rd_m f) mi j) a b q3 len f) H_43 := vz_join (w1 := (zRow cI (h 3) (h 4) 6 (rw_put 6 (rd_f (rd_g f) gs j) (nI j) (rw_at 22 f (3 * (nI j) + 1) - 48)))) hP hD [3, 4] rfl rfl hk1 hB
        replace hD : va_D A (zBookPage cI h N (rw_put 6 (rd_f (rd_k f) ks j) (nI j) (zIdx (zch (rw_at 22 f (3 * (nI j)))))) (rw_put 6 (rd_f (rd_g f) gs j) (nI j) (rw_at 22 f (3 * (nI j) + 1) - 48)) (rd_f (rd_w f) wt j) (rd_f (rd_m f) mi j) a b q3 len f) := vz_same hD rfl
        replace hS := hS9
        clear hS9 hPc hDc hFc hB hk1 hz1
        refine lv_aload_n hx hb dX0_read_46 rfl (lv_at hl 2 rfl) ?_
        refine va_get (D := D) (ci := 0) (v := .ref (h 5)) (C := RX0) (T := TX0) (N := 5) hx hb hts iX0 hown hK hP 0 rfl rfl 2 (by decide) k23 (fun _ h9 => h9) rfl dX0_read_47 ?_
        refine lv_iload_n hx hb dX0_read_50 rfl (lv_at hl 1 rfl) ?_
        refine lv_iload_n hx hb dX0_read_51 rfl (lv_at hl 0 rfl) ?_
        refine vp_callSi (W.runS (As := [.int (zIdx (zch (rw_at 22 f (3 * (nI j)))))]) (rest := [.int (nI j), .ref (h 5)]) ⟨hx, hb, hml, hown, hts⟩ (c_X0_weightOf l (zIdx (zch (rw_at 22 f (3 * (nI j)))))) (va_cwS 1 hts gX0_read_X0_weightOf rfl rfl rfl (by decide +kernel) ⟨Nat.le_of_ble_eq_true rfl, Nat.le_of_ble_eq_true rfl⟩) (vz_psS) rfl rfl hl.1 rfl (lv_room (Nat.le_of_ble_eq_true rfl)) dX0_read_52 ⟨Nat.zero_le _, Nat.zero_le _⟩) (fun r_52 hr_52 => ?_)
        subst hr_52
        have hPc := (hP.sub (ws' := (zRow cI (h 5) (h 6) 6 (rd_f (rd_w f) wt j))) [5, 6] rfl)
        have hDc := hD.sub (ws' := (zRow cI (h 5) (h 6) 6 (rd_f (rd_w f) wt j))) [5, 6] rfl rfl
        have hFc := va_free (wc := (zRow cI (h 5) (h 6) 6 (rd_f (rd_w f) wt j))) hD hS hA [5, 6] rfl
        refine va_callv (va_runV (As := [.int (nI j), .int (bk_wof (zIdx (zch (rw_at 22 f (3 * (nI j))))))]) (rest := []) ⟨hx, hb, hml, hown, hts⟩ (c_X5_put l D cI (h 5) (h 6) 6 (rd_f (rd_w f) wt j) H_43.size (nI j) (bk_wof (zIdx (zch (rw_at 22 f (3 * (nI j)))))) (by decide)) (cwV 2 hts gX0_read_X5_put rfl rfl rfl (by decide +kernel) ⟨Nat.le_of_ble_eq_true rfl, Nat.le_of_ble_eq_true rfl⟩) (vz_pvW (va_recv hK hP (ci := 5) (q0 := 5) rfl rfl) hZ hPc hDc) rfl rfl hl.1 rfl (lv_room (Nat.le_of_ble_eq_true rfl)) dX0_read_55 ⟨Nat.zero_le _, Nat.zero_le _⟩) hS (fun q _ h => hFc q h) hFc (fun u_55 t H_55 locs_55 ht hvm hw hB hz1 hk1 hS9 => ?_)
        rw [ht] at hB
        replace hP : va_P D vwCl (zBookPage cI h N (rw_put 6 (rd_f (rd_k f) ks j) (nI j) (zIdx (zch (rw_at 22 f (3 * (nI j)))))) (rw_put 6 (rd_f (rd_g f) gs j) (nI j) (rw_at 22 f (3 * (nI j) + 1) - 48)) (rw_put 6 (rd_f (rd_w f) wt j) (nI j) (bk_wof (zIdx (zch (rw_at 22 f (3 * (nI j))))))) (rd_f (rd_m f) mi j) a b q3 len f) H_55 := vz_join (w1 := (zRow cI (h 5) (h 6) 6 (rw_put 6 (rd_f (rd_w f) wt j) (nI j) (bk_wof (zIdx (zch (rw_at 22 f (3 * (nI j))))))))) hP hD [5, 6] rfl rfl hk1 hB
        replace hD : va_D A (zBookPage cI h N (rw_put 6 (rd_f (rd_k f) ks j) (nI j) (zIdx (zch (rw_at 22 f (3 * (nI j)))))) (rw_put 6 (rd_f (rd_g f) gs j) (nI j) (rw_at 22 f (3 * (nI j) + 1) - 48)) (rw_put 6 (rd_f (rd_w f) wt j) (nI j) (bk_wof (zIdx (zch (rw_at 22 f (3 * (nI j))))))) (rd_f (rd_m f) mi j) a b q3 len f) := vz_same hD rfl
        replace hS := hS9
        clear hS9 hPc hDc hFc hB hk1 hz1
        refine lv_aload_n hx hb dX0_read_58 rfl (lv_at hl 2 rfl) ?_
        refine va_get (D := D) (ci := 0) (v := .ref (h 7)) (C := RX0) (T := TX0) (N := 5) hx hb hts iX0 hown hK hP 0 rfl rfl 3 (by decide) k26 (fun _ h9 => h9) rfl dX0_read_59 ?_
        refine lv_iload_n hx hb dX0_read_62 rfl (lv_at hl 1 rfl) ?_
        refine lv_iload_n hx hb dX0_read_63 rfl (lv_at hl 0 rfl) ?_
        refine lv_iconst (v := 1) hx hb dX0_read_64 (by decide) ?_
        refine lv_icmp_ne (tgt := 73) hx hb dX0_read_65 (by decide) (fun c_65 => ?_) (fun c_65 => ?_)
        · skip
          refine lv_iconst (v := 3) hx hb dX0_read_73 (by decide) ?_
          have hPc := (hP.sub (ws' := (zRow cI (h 7) (h 8) 6 (rd_f (rd_m f) mi j))) [7, 8] rfl)
          have hDc := hD.sub (ws' := (zRow cI (h 7) (h 8) 6 (rd_f (rd_m f) mi j))) [7, 8] rfl rfl
          have hFc := va_free (wc := (zRow cI (h 7) (h 8) 6 (rd_f (rd_m f) mi j))) hD hS hA [7, 8] rfl
          refine va_callv (va_runV (As := [.int (nI j), .int 3]) (rest := []) ⟨hx, hb, hml, hown, hts⟩ (c_X5_put l D cI (h 7) (h 8) 6 (rd_f (rd_m f) mi j) H_55.size (nI j) 3 (by decide)) (cwV 2 hts gX0_read_X5_put rfl rfl rfl (by decide +kernel) ⟨Nat.le_of_ble_eq_true rfl, Nat.le_of_ble_eq_true rfl⟩) (vz_pvW (va_recv hK hP (ci := 5) (q0 := 7) rfl rfl) hZ hPc hDc) rfl rfl hl.1 rfl (lv_room (Nat.le_of_ble_eq_true rfl)) dX0_read_74 ⟨Nat.zero_le _, Nat.zero_le _⟩) hS (fun q _ h => hFc q h) hFc (fun u_74 t H_74 locs_74 ht hvm hw hB hz1 hk1 hS9 => ?_)
          rw [ht] at hB
          replace hP : va_P D vwCl (zBookPage cI h N (rw_put 6 (rd_f (rd_k f) ks j) (nI j) (zIdx (zch (rw_at 22 f (3 * (nI j)))))) (rw_put 6 (rd_f (rd_g f) gs j) (nI j) (rw_at 22 f (3 * (nI j) + 1) - 48)) (rw_put 6 (rd_f (rd_w f) wt j) (nI j) (bk_wof (zIdx (zch (rw_at 22 f (3 * (nI j))))))) (rw_put 6 (rd_f (rd_m f) mi j) (nI j) 3) a b q3 len f) H_74 := vz_join (w1 := (zRow cI (h 7) (h 8) 6 (rw_put 6 (rd_f (rd_m f) mi j) (nI j) 3))) hP hD [7, 8] rfl rfl hk1 hB
          replace hD : va_D A (zBookPage cI h N (rw_put 6 (rd_f (rd_k f) ks j) (nI j) (zIdx (zch (rw_at 22 f (3 * (nI j)))))) (rw_put 6 (rd_f (rd_g f) gs j) (nI j) (rw_at 22 f (3 * (nI j) + 1) - 48)) (rw_put 6 (rd_f (rd_w f) wt j) (nI j) (bk_wof (zIdx (zch (rw_at 22 f (3 * (nI j))))))) (rw_put 6 (rd_f (rd_m f) mi j) (nI j) 3) a b q3 len f) := vz_same hD rfl
          replace hS := hS9
          clear hS9 hPc hDc hFc hB hk1 hz1
          refine lv_iinc (v := nI (j + 1)) (lv' := [(2, .int (nI (j + 1))), (3, .int (zIdx (zch (rw_at 22 f (3 * (nI j)))))), (0, .ref (h 0)), (1, .ref a)]) hx hb dX0_read_77 hl (k := 1) rfl (vz_inc _) (by decide) rfl (fun ls hl => ?_)
          refine lv_goto (tgt := 10) hx hb dX0_read_80 (by decide) ?_
          have ew_ks : rd_f (rd_k f) ks (j + 1) = rw_put 6 (rd_f (rd_k f) ks j) (nI j) (zIdx (zch (rw_at 22 f (3 * (nI j))))) := by simp only [rd_f, rd_k, rd_g, rd_w, rd_m, c_15, c_65, ↓reduceIte]
          have ew_gs : rd_f (rd_g f) gs (j + 1) = rw_put 6 (rd_f (rd_g f) gs j) (nI j) (rw_at 22 f (3 * (nI j) + 1) - 48) := by simp only [rd_f, rd_k, rd_g, rd_w, rd_m, c_15, c_65, ↓reduceIte]
          have ew_wt : rd_f (rd_w f) wt (j + 1) = rw_put 6 (rd_f (rd_w f) wt j) (nI j) (bk_wof (zIdx (zch (rw_at 22 f (3 * (nI j)))))) := by simp only [rd_f, rd_k, rd_g, rd_w, rd_m, c_15, c_65, ↓reduceIte]
          have ew_mi : rd_f (rd_m f) mi (j + 1) = rw_put 6 (rd_f (rd_m f) mi j) (nI j) 3 := by simp only [rd_f, rd_k, rd_g, rd_w, rd_m, c_15, c_65, ↓reduceIte]
          replace hP : va_P D vwCl (zBookPage cI h N (rd_f (rd_k f) ks (j + 1)) (rd_f (rd_g f) gs (j + 1)) (rd_f (rd_w f) wt (j + 1)) (rd_f (rd_m f) mi (j + 1)) a b q3 len f) H_74 := by rw [ew_ks, ew_gs, ew_wt, ew_mi]; exact hP
          replace hD : va_D A (zBookPage cI h N (rd_f (rd_k f) ks (j + 1)) (rd_f (rd_g f) gs (j + 1)) (rd_f (rd_w f) wt (j + 1)) (rd_f (rd_m f) mi (j + 1)) a b q3 len f) := vz_same hD rfl
          exact ih_10 (j + 1) _ _ (by omega) (by omega) hP hD hS ls (lv_sub hl [0, 2, 3] rfl)
        · skip
          refine lv_bipush (v := 7) hx hb dX0_read_68 (by decide) ?_
          refine lv_goto (tgt := 74) hx hb dX0_read_70 (by decide) ?_
          have hPc := (hP.sub (ws' := (zRow cI (h 7) (h 8) 6 (rd_f (rd_m f) mi j))) [7, 8] rfl)
          have hDc := hD.sub (ws' := (zRow cI (h 7) (h 8) 6 (rd_f (rd_m f) mi j))) [7, 8] rfl rfl
          have hFc := va_free (wc := (zRow cI (h 7) (h 8) 6 (rd_f (rd_m f) mi j))) hD hS hA [7, 8] rfl
          refine va_callv (va_runV (As := [.int (nI j), .int 7]) (rest := []) ⟨hx, hb, hml, hown, hts⟩ (c_X5_put l D cI (h 7) (h 8) 6 (rd_f (rd_m f) mi j) H_55.size (nI j) 7 (by decide)) (cwV 2 hts gX0_read_X5_put rfl rfl rfl (by decide +kernel) ⟨Nat.le_of_ble_eq_true rfl, Nat.le_of_ble_eq_true rfl⟩) (vz_pvW (va_recv hK hP (ci := 5) (q0 := 7) rfl rfl) hZ hPc hDc) rfl rfl hl.1 rfl (lv_room (Nat.le_of_ble_eq_true rfl)) dX0_read_74 ⟨Nat.zero_le _, Nat.zero_le _⟩) hS (fun q _ h => hFc q h) hFc (fun u_74 t H_74 locs_74 ht hvm hw hB hz1 hk1 hS9 => ?_)
          rw [ht] at hB
          replace hP : va_P D vwCl (zBookPage cI h N (rw_put 6 (rd_f (rd_k f) ks j) (nI j) (zIdx (zch (rw_at 22 f (3 * (nI j)))))) (rw_put 6 (rd_f (rd_g f) gs j) (nI j) (rw_at 22 f (3 * (nI j) + 1) - 48)) (rw_put 6 (rd_f (rd_w f) wt j) (nI j) (bk_wof (zIdx (zch (rw_at 22 f (3 * (nI j))))))) (rw_put 6 (rd_f (rd_m f) mi j) (nI j) 7) a b q3 len f) H_74 := vz_join (w1 := (zRow cI (h 7) (h 8) 6 (rw_put 6 (rd_f (rd_m f) mi j) (nI j) 7))) hP hD [7, 8] rfl rfl hk1 hB
          replace hD : va_D A (zBookPage cI h N (rw_put 6 (rd_f (rd_k f) ks j) (nI j) (zIdx (zch (rw_at 22 f (3 * (nI j)))))) (rw_put 6 (rd_f (rd_g f) gs j) (nI j) (rw_at 22 f (3 * (nI j) + 1) - 48)) (rw_put 6 (rd_f (rd_w f) wt j) (nI j) (bk_wof (zIdx (zch (rw_at 22 f (3 * (nI j))))))) (rw_put 6 (rd_f (rd_m f) mi j) (nI j) 7) a b q3 len f) := vz_same hD rfl
          replace hS := hS9
          clear hS9 hPc hDc hFc hB hk1 hz1
          refine lv_iinc (v := nI (j + 1)) (lv' := [(2, .int (nI (j + 1))), (3, .int (zIdx (zch (rw_at 22 f (3 * (nI j)))))), (0, .ref (h 0)), (1, .ref a)]) hx hb dX0_read_77 hl (k := 1) rfl (vz_inc _) (by decide) rfl (fun ls hl => ?_)
          refine lv_goto (tgt := 10) hx hb dX0_read_80 (by decide) ?_
          have ew_ks : rd_f (rd_k f) ks (j + 1) = rw_put 6 (rd_f (rd_k f) ks j) (nI j) (zIdx (zch (rw_at 22 f (3 * (nI j))))) := by simp only [rd_f, rd_k, rd_g, rd_w, rd_m, c_15, c_65, ↓reduceIte]
          have ew_gs : rd_f (rd_g f) gs (j + 1) = rw_put 6 (rd_f (rd_g f) gs j) (nI j) (rw_at 22 f (3 * (nI j) + 1) - 48) := by simp only [rd_f, rd_k, rd_g, rd_w, rd_m, c_15, c_65, ↓reduceIte]
          have ew_wt : rd_f (rd_w f) wt (j + 1) = rw_put 6 (rd_f (rd_w f) wt j) (nI j) (bk_wof (zIdx (zch (rw_at 22 f (3 * (nI j)))))) := by simp only [rd_f, rd_k, rd_g, rd_w, rd_m, c_15, c_65, ↓reduceIte]
          have ew_mi : rd_f (rd_m f) mi (j + 1) = rw_put 6 (rd_f (rd_m f) mi j) (nI j) 7 := by simp only [rd_f, rd_k, rd_g, rd_w, rd_m, c_15, c_65, ↓reduceIte]
          replace hP : va_P D vwCl (zBookPage cI h N (rd_f (rd_k f) ks (j + 1)) (rd_f (rd_g f) gs (j + 1)) (rd_f (rd_w f) wt (j + 1)) (rd_f (rd_m f) mi (j + 1)) a b q3 len f) H_74 := by rw [ew_ks, ew_gs, ew_wt, ew_mi]; exact hP
          replace hD : va_D A (zBookPage cI h N (rd_f (rd_k f) ks (j + 1)) (rd_f (rd_g f) gs (j + 1)) (rd_f (rd_w f) wt (j + 1)) (rd_f (rd_m f) mi (j + 1)) a b q3 len f) := vz_same hD rfl
          exact ih_10 (j + 1) _ _ (by omega) (by omega) hP hD hS ls (lv_sub hl [0, 2, 3] rfl)
  have ew_ks : rd_f (rd_k f) ks 0 = ks := by rfl
  have ew_gs : rd_f (rd_g f) gs 0 = gs := by rfl
  have ew_wt : rd_f (rd_w f) wt 0 = wt := by rfl
  have ew_mi : rd_f (rd_m f) mi 0 = mi := by rfl
  replace hP : va_P D vwCl (zBookPage cI h N (rd_f (rd_k f) ks 0) (rd_f (rd_g f) gs 0) (rd_f (rd_w f) wt 0) (rd_f (rd_m f) mi 0) a b q3 len f) H_5 := by rw [ew_ks, ew_gs, ew_wt, ew_mi]; exact hP
  replace hD : va_D A (zBookPage cI h N (rd_f (rd_k f) ks 0) (rd_f (rd_g f) gs 0) (rd_f (rd_w f) wt 0) (rd_f (rd_m f) mi 0) a b q3 len f) := vz_same hD rfl
  exact L_10 _ 0 _ _ (Nat.lt_succ_self _) (Nat.zero_le _) hP hD hS ls (lv_sub hl [0, 1, 2] rfl)
set_option maxHeartbeats 4000000 in
set_option maxRecDepth 100000 in
theorem c_X6_player (l : Launch) (D : va_G) (cI : ClassId) (h : Nat → Nat) (len : Nat) (cd : Nat → Int32) (nm : Nat) (ks : Nat → Int32) (gs : Nat → Int32) (wt : Nat → Int32) (mi : Nat → Int32) (pl : Nat → Int32) (sk : Nat → Int32) (he : Nat → Int32) (nh : Nat) (ru : Int32) (bg : Int32) (la : Int32) (sd : Bool) (pl2 : Nat → Int32) (sk2 : Nat → Int32) (he2 : Nat → Int32) (nh2 : Nat) (ru2 : Int32) (bg2 : Int32) (la2 : Int32) (sd2 : Bool) (u0 : Int64) (l0 : Int64) (u1 : Int64) (l1 : Int64) (u2 : Int64) (l2 : Int64) (wy : Nat → Int32) (fi : Nat → Int32) (fl : Int32) (nu : Int32) (ik : Bool) (pr : Nat) (sa va : Nat) (sz : Nat) (N : Nat) (hlen : len ≤ 22) (hNe : pg_whole cd len = true → pg_songs len = nI N) (hN6 : N ≤ 6) : Met l yX6_player wsX6_player ({ frames := 7, cells := 0, slots := 0, locals := 171 } : Room) (vz_rws D cI (zSA cI h len cd nm ks gs wt mi pl sk he nh ru bg la sd pl2 sk2 he2 nh2 ru2 bg2 la2 sd2 u0 l0 u1 l1 u2 l2 wy fi fl nu ik pr) sz sa va [.ref (h 0)]) (va_Qi (fun r (_ : Unit) => r = if (pg_whole cd len) then nI N else -103) (fun (u : Unit) (t : State) => va_P D vwCl (zSA cI h (pl_n (pg_whole cd len) (0) len) cd (pl_n (pg_whole cd len) (N) nm) (pl_n (pg_whole cd len) (rd_f (rd_k cd) ks N) ks) (pl_n (pg_whole cd len) (rd_f (rd_g cd) gs N) gs) (pl_n (pg_whole cd len) (rd_f (rd_w cd) wt N) wt) (pl_n (pg_whole cd len) (rd_f (rd_m cd) mi N) mi) (pl_n (pg_whole cd len) (rw_clr pl 6) pl) (pl_n (pg_whole cd len) (rw_clr sk 6) sk) he (pl_n (pg_whole cd len) (0) nh) (pl_n (pg_whole cd len) (rw_at 22 cd (nI len - 1) - 48) ru) (pl_n (pg_whole cd len) (bk_all N) bg) (pl_n (pg_whole cd len) ((-1)) la) (pl_n (pg_whole cd len) (false) sd) pl2 sk2 he2 nh2 ru2 bg2 la2 sd2 u0 l0 u1 l1 u2 l2 wy fi fl nu (pl_n (pg_whole cd len) (false) ik) (pl_n (pg_whole cd len) (pr + 1) pr)) t.heap) (va_A (zSA cI h len cd nm ks gs wt mi pl sk he nh ru bg la sd pl2 sk2 he2 nh2 ru2 bg2 la2 sd2 u0 l0 u1 l1 u2 l2 wy fi fl nu ik pr) sz)) 0 0 (va_A (zSA cI h len cd nm ks gs wt mi pl sk he nh ru bg la sd pl2 sk2 he2 nh2 ru2 bg2 la2 sd2 u0 l0 u1 l1 u2 l2 wy fi fl nu ik pr) sz) := by
  refine Met.ofW (cc := cX6_player) (maxL := 1) (ret := (some .int)) (by decide) rfl ?_
  intro p e s m args below meth c s₁ B hml hv
  obtain ⟨rfl, hsz, hP, hZ, hD0, hT⟩ := hv
  obtain ⟨hK, hN⟩ := id hZ
  have hx := B.exec
  have hb := B.bytes
  have hr := B.returns
  have hts := atoms_spec (ws := wsX6_player) B.pre
  have hown : s.vm.findClass RX6 = some m.cls := findClass_of_methodNamed B.named
  have hlocks := B.notSynchronized
  subst hsz
  have hD := hD0.self (sz := s.heap.size)
  generalize hAe : va_A (zSA cI h len cd nm ks gs wt mi pl sk he nh ru bg la sd pl2 sk2 he2 nh2 ru2 bg2 la2 sd2 u0 l0 u1 l1 u2 l2 wy fi fl nu ik pr) s.heap.size = A at hD hT ⊢
  have hA : ∀ q : Nat, s.heap.size ≤ q → A q := fun q h => by rw [← hAe]; exact Or.inr h
  have hS : va_S A s.heap s.heap [] := va_S.rf
  have k10 := hts (.fieldLink RX6 10 "SongsAgain" "page" "LSongsAgain$Page;") (List.mem_of_getElem? (i := 1) rfl)
  have k19 := hts (.fieldLink RX6 19 "SongsAgain" "book" "LSongsAgain$Book;") (List.mem_of_getElem? (i := 2) rfl)
  have k26 := hts (.fieldLink RX6 26 "SongsAgain" "now" "LSongsAgain$Past;") (List.mem_of_getElem? (i := 3) rfl)
  have k53 := hts (.fieldLink RX6 53 "SongsAgain" "isKept" "Z") (List.mem_of_getElem? (i := 4) rfl)
  have k57 := hts (.fieldLink RX6 57 "SongsAgain" "playersRead" "I") (List.mem_of_getElem? (i := 5) rfl)
  have k93 : (Cond.fieldLinkNest "SongsAgain" 93 "SongsAgain$Book" "number" "I" "SongsAgain").before _ s = true := va_Nw.use (A := ([.ref (h 0)] : List Value).toArray) rfl (hN.1 ("SongsAgain", 93, "SongsAgain$Book", "number", "I") (List.mem_of_getElem? (i := 8) rfl))
  have iX0 : ∀ w ∈ u_ws RX0 TX0 5, w ∈ wsX6_player := vz_in (i := 190) (n := 5) rfl
  have iX6 : ∀ w ∈ u_ws RX6 TX6 10, w ∈ wsX6_player := vz_in (i := 180) (n := 10) rfl
  have hl := lv_entry ([.ref (h 0)]) (n := 1) (Nat.le_of_ble_eq_true rfl)
  rw [lg_entry_eq]
  generalize (lg_sl ([.ref (h 0)]) ++ List.replicate (1 - (lg_sl ([.ref (h 0)])).length) Slot.unset).toArray = ls at hl ⊢
  have hl : lv_has ls 1 [(0, .ref (h 0))] := hl
  have hP : va_P D vwCl (zSA cI h len cd nm ks gs wt mi pl sk he nh ru bg la sd pl2 sk2 he2 nh2 ru2 bg2 la2 sd2 u0 l0 u1 l1 u2 l2 wy fi fl nu ik pr) s.heap := hP
  refine lv_aload_n hx hb dX6_player_0 rfl (lv_at hl 0 rfl) ?_
  refine va_get (D := D) (ci := 6) (v := .ref (h 1)) (C := RX6) (T := TX6) (N := 10) hx hb hts iX6 hown hK hP 0 rfl rfl 0 (by decide) k10 (fun _ h9 => h9) rfl dX6_player_1 ?_
  have hTs := vz_sk hT hS
  refine vp_callSi (W.runV (As := []) (rest := []) ⟨hx, hb, hml, hown, hts⟩ (c_X3_isWhole l D cI (h 1) (h 2) (h 3) len cd sa va (by first | assumption | omega)) (cwV 0 hts gX6_player_X3_isWhole rfl rfl rfl (by decide +kernel) ⟨Nat.le_of_ble_eq_true rfl, Nat.le_of_ble_eq_true rfl⟩) (vz_pvRs (va_recv hK hP (ci := 3) (q0 := 1) rfl rfl) hZ (hP.sub (ws' := (zPage cI (h 1) (h 2) (h 3) len cd)) [1, 2, 3] rfl) hTs) rfl rfl hl.1 rfl (lv_room (Nat.le_of_ble_eq_true rfl)) dX6_player_4 ⟨Nat.zero_le _, Nat.zero_le _⟩) (fun r_4 hr_4 => ?_)
  subst hr_4
  refine lv_if_ne (tgt := 13) hx hb dX6_player_7 (by decide) (fun c_7 => ?_) (fun c_7 => ?_)
  · skip
    replace c_7 := vz_b1 c_7
    refine lv_aload_n hx hb dX6_player_13 rfl (lv_at hl 0 rfl) ?_
    refine va_get (D := D) (ci := 6) (v := .ref (h 4)) (C := RX6) (T := TX6) (N := 10) hx hb hts iX6 hown hK hP 0 rfl rfl 1 (by decide) k19 (fun _ h9 => h9) rfl dX6_player_14 ?_
    refine lv_aload_n hx hb dX6_player_17 rfl (lv_at hl 0 rfl) ?_
    refine va_get (D := D) (ci := 6) (v := .ref (h 1)) (C := RX6) (T := TX6) (N := 10) hx hb hts iX6 hown hK hP 0 rfl rfl 0 (by decide) k10 (fun _ h9 => h9) rfl dX6_player_18 ?_
    have hPc := (hP.sub (ws' := (zBookPage cI (fun i => h (4 + i)) nm ks gs wt mi (h 1) (h 2) (h 3) len cd)) [4, 5, 6, 7, 8, 9, 10, 11, 12, 1, 2, 3] rfl)
    have hDc := hD.sub (ws' := (zBookPage cI (fun i => h (4 + i)) nm ks gs wt mi (h 1) (h 2) (h 3) len cd)) [4, 5, 6, 7, 8, 9, 10, 11, 12, 1, 2, 3] rfl rfl
    have hFc := va_free (wc := (zBookPage cI (fun i => h (4 + i)) nm ks gs wt mi (h 1) (h 2) (h 3) len cd)) hD hS hA [4, 5, 6, 7, 8, 9, 10, 11, 12, 1, 2, 3] rfl
    refine va_callv (va_runV (As := [.ref (h 1)]) (rest := []) ⟨hx, hb, hml, hown, hts⟩ (c_X0_read l D cI (fun i => h (4 + i)) nm ks gs wt mi (h 1) (h 2) (h 3) len cd sa va s.heap.size N (hNe c_7) hN6) (cwV 1 hts gX6_player_X0_read rfl rfl rfl (by decide +kernel) ⟨Nat.le_of_ble_eq_true rfl, Nat.le_of_ble_eq_true rfl⟩) (vz_pvWs (va_recv hK hP (ci := 0) (q0 := 4) rfl rfl) hZ hPc hDc hT hS hFc) rfl rfl hl.1 rfl (lv_room (Nat.le_of_ble_eq_true rfl)) dX6_player_21 ⟨Nat.zero_le _, Nat.zero_le _⟩) hS (fun q _ h => hFc q h) hFc (fun u_21 t H_21 locs_21 ht hvm hw hB hz1 hk1 hS9 => ?_)
    rw [ht] at hB
    replace hP : va_P D vwCl (zSA cI h len cd N (rd_f (rd_k cd) ks N) (rd_f (rd_g cd) gs N) (rd_f (rd_w cd) wt N) (rd_f (rd_m cd) mi N) pl sk he nh ru bg la sd pl2 sk2 he2 nh2 ru2 bg2 la2 sd2 u0 l0 u1 l1 u2 l2 wy fi fl nu ik pr) H_21 := vz_join (w1 := (zBookPage cI (fun i => h (4 + i)) N (rd_f (rd_k cd) ks N) (rd_f (rd_g cd) gs N) (rd_f (rd_w cd) wt N) (rd_f (rd_m cd) mi N) (h 1) (h 2) (h 3) len cd)) hP hD [4, 5, 6, 7, 8, 9, 10, 11, 12, 1, 2, 3] rfl rfl hk1 hB
    replace hD : va_D A (zSA cI h len cd N (rd_f (rd_k cd) ks N) (rd_f (rd_g cd) gs N) (rd_f (rd_w cd) wt N) (rd_f (rd_m cd) mi N) pl sk he nh ru bg la sd pl2 sk2 he2 nh2 ru2 bg2 la2 sd2 u0 l0 u1 l1 u2 l2 wy fi fl nu ik pr) := vz_same hD rfl
    replace hS := hS9
    clear hS9 hPc hDc hFc hB hk1 hz1
    refine lv_aload_n hx hb dX6_player_24 rfl (lv_at hl 0 rfl) ?_
    refine va_get (D := D) (ci := 6) (v := .ref (h 13)) (C := RX6) (T := TX6) (N := 10) hx hb hts iX6 hown hK hP 0 rfl rfl 2 (by decide) k26 (fun _ h9 => h9) rfl dX6_player_25 ?_
    refine lv_aload_n hx hb dX6_player_28 rfl (lv_at hl 0 rfl) ?_
    refine va_get (D := D) (ci := 6) (v := .ref (h 1)) (C := RX6) (T := TX6) (N := 10) hx hb hts iX6 hown hK hP 0 rfl rfl 0 (by decide) k10 (fun _ h9 => h9) rfl dX6_player_29 ?_
    refine vp_callSi (W.runV (As := []) (rest := [.ref (h 13)]) ⟨hx, hb, hml, hown, hts⟩ (c_X3_ruleRead l D cI (h 1) (h 2) (h 3) len cd) (cwV 0 hts gX6_player_X3_ruleRead rfl rfl rfl (by decide +kernel) ⟨Nat.le_of_ble_eq_true rfl, Nat.le_of_ble_eq_true rfl⟩) (vz_pvR (va_recv hK hP (ci := 3) (q0 := 1) rfl rfl) hZ (hP.sub (ws' := (zPage cI (h 1) (h 2) (h 3) len cd)) [1, 2, 3] rfl)) rfl rfl hl.1 rfl (lv_room (Nat.le_of_ble_eq_true rfl)) dX6_player_32 ⟨Nat.zero_le _, Nat.zero_le _⟩) (fun r_32 hr_32 => ?_)
    subst hr_32
    refine lv_aload_n hx hb dX6_player_35 rfl (lv_at hl 0 rfl) ?_
    refine va_get (D := D) (ci := 6) (v := .ref (h 4)) (C := RX6) (T := TX6) (N := 10) hx hb hts iX6 hown hK hP 0 rfl rfl 1 (by decide) k19 (fun _ h9 => h9) rfl dX6_player_36 ?_
    refine vp_callSi (W.runV (As := []) (rest := [.int (rw_at 22 cd (nI len - 1) - 48), .ref (h 13)]) ⟨hx, hb, hml, hown, hts⟩ (c_X0_all l D cI (fun i => h (4 + i)) N (rd_f (rd_k cd) ks N) (rd_f (rd_g cd) gs N) (rd_f (rd_w cd) wt N) (rd_f (rd_m cd) mi N)) (cwV 0 hts gX6_player_X0_all rfl rfl rfl (by decide +kernel) ⟨Nat.le_of_ble_eq_true rfl, Nat.le_of_ble_eq_true rfl⟩) (vz_pvR (va_recv hK hP (ci := 0) (q0 := 4) rfl rfl) hZ (hP.sub (ws' := (zBook cI (fun i => h (4 + i)) N (rd_f (rd_k cd) ks N) (rd_f (rd_g cd) gs N) (rd_f (rd_w cd) wt N) (rd_f (rd_m cd) mi N))) [4, 5, 6, 7, 8, 9, 10, 11, 12] rfl)) rfl rfl hl.1 rfl (lv_room (Nat.le_of_ble_eq_true rfl)) dX6_player_39 ⟨Nat.zero_le _, Nat.zero_le _⟩) (fun r_39 hr_39 => ?_)
    subst hr_39
    have hPc := (hP.sub (ws' := (zPast cI (fun i => h (13 + i)) pl sk he nh ru bg la sd)) [13, 14, 15, 16, 17, 18, 19] rfl)
    have hDc := hD.sub (ws' := (zPast cI (fun i => h (13 + i)) pl sk he nh ru bg la sd)) [13, 14, 15, 16, 17, 18, 19] rfl rfl
    have hFc := va_free (wc := (zPast cI (fun i => h (13 + i)) pl sk he nh ru bg la sd)) hD hS hA [13, 14, 15, 16, 17, 18, 19] rfl
    refine va_callv (va_runV (As := [.int (rw_at 22 cd (nI len - 1) - 48), .int (bk_all N)]) (rest := []) ⟨hx, hb, hml, hown, hts⟩ (c_X4_begin l D cI (fun i => h (13 + i)) pl sk he nh ru bg la sd H_21.size (rw_at 22 cd (nI len - 1) - 48) (bk_all N)) (cwV 2 hts gX6_player_X4_begin rfl rfl rfl (by decide +kernel) ⟨Nat.le_of_ble_eq_true rfl, Nat.le_of_ble_eq_true rfl⟩) (vz_pvW (va_recv hK hP (ci := 4) (q0 := 13) rfl rfl) hZ hPc hDc) rfl rfl hl.1 rfl (lv_room (Nat.le_of_ble_eq_true rfl)) dX6_player_42 ⟨Nat.zero_le _, Nat.zero_le _⟩) hS (fun q _ h => hFc q h) hFc (fun u_42 t H_42 locs_42 ht hvm hw hB hz1 hk1 hS9 => ?_)
    rw [ht] at hB
    replace hP : va_P D vwCl (zSA cI h len cd N (rd_f (rd_k cd) ks N) (rd_f (rd_g cd) gs N) (rd_f (rd_w cd) wt N) (rd_f (rd_m cd) mi N) (rw_clr pl 6) (rw_clr sk 6) he 0 (rw_at 22 cd (nI len - 1) - 48) (bk_all N) (-1) false pl2 sk2 he2 nh2 ru2 bg2 la2 sd2 u0 l0 u1 l1 u2 l2 wy fi fl nu ik pr) H_42 := vz_join (w1 := (zPast cI (fun i => h (13 + i)) (rw_clr pl 6) (rw_clr sk 6) he 0 (rw_at 22 cd (nI len - 1) - 48) (bk_all N) (-1) false)) hP hD [13, 14, 15, 16, 17, 18, 19] rfl rfl hk1 hB
    replace hD : va_D A (zSA cI h len cd N (rd_f (rd_k cd) ks N) (rd_f (rd_g cd) gs N) (rd_f (rd_w cd) wt N) (rd_f (rd_m cd) mi N) (rw_clr pl 6) (rw_clr sk 6) he 0 (rw_at 22 cd (nI len - 1) - 48) (bk_all N) (-1) false pl2 sk2 he2 nh2 ru2 bg2 la2 sd2 u0 l0 u1 l1 u2 l2 wy fi fl nu ik pr) := vz_same hD rfl
    replace hS := hS9
    clear hS9 hPc hDc hFc hB hk1 hz1
    refine lv_aload_n hx hb dX6_player_45 rfl (lv_at hl 0 rfl) ?_
    refine lv_iconst (v := 0) hx hb dX6_player_46 (by decide) ?_
    refine va_put (D := D) (ci := 6) (v := .int 0) (ty := .boolean) (C := RX6) (T := TX6) (N := 10) hx hb hts iX6 tyX6 tyX6_ok nmX6 hown hK hP hD hS 0 rfl rfl 8 (by decide) k53 (fun _ h9 => h9) rfl (by decide +kernel) narrow_b0 rfl (Nat.le_of_ble_eq_true rfl) dX6_player_47 (fun H_47 locs_47 hP9 hD9 hS9 => ?_)
    replace hP : va_P D vwCl (zSA cI h len cd N (rd_f (rd_k cd) ks N) (rd_f (rd_g cd) gs N) (rd_f (rd_w cd) wt N) (rd_f (rd_m cd) mi N) (rw_clr pl 6) (rw_clr sk 6) he 0 (rw_at 22 cd (nI len - 1) - 48) (bk_all N) (-1) false pl2 sk2 he2 nh2 ru2 bg2 la2 sd2 u0 l0 u1 l1 u2 l2 wy fi fl nu false pr) H_47 := hP9
    replace hD : va_D A (zSA cI h len cd N (rd_f (rd_k cd) ks N) (rd_f (rd_g cd) gs N) (rd_f (rd_w cd) wt N) (rd_f (rd_m cd) mi N) (rw_clr pl 6) (rw_clr sk 6) he 0 (rw_at 22 cd (nI len - 1) - 48) (bk_all N) (-1) false pl2 sk2 he2 nh2 ru2 bg2 la2 sd2 u0 l0 u1 l1 u2 l2 wy fi fl nu false pr) := hD9
    replace hS := hS9
    clear hP9 hD9 hS9
    refine lv_aload_n hx hb dX6_player_50 rfl (lv_at hl 0 rfl) ?_
    refine lv_dup hx hb dX6_player_51 rfl ?_
    refine va_get (D := D) (ci := 6) (v := .int (nI pr)) (C := RX6) (T := TX6) (N := 10) hx hb hts iX6 hown hK hP 0 rfl rfl 9 (by decide) k57 (fun _ h9 => h9) rfl dX6_player_52 ?_
    refine lv_iconst (v := 1) hx hb dX6_player_55 (by decide) ?_
    refine lv_iadd hx hb dX6_player_56 ?_
    refine W.eq (congrArg (fun z => F0 m 57 ls (.int z :: [.ref (h 0)])) (nI_add pr 1 : (nI pr) + 1 = nI (pr + 1))) ?_
    refine va_put (D := D) (ci := 6) (v := .int (nI (pr + 1))) (ty := .int) (C := RX6) (T := TX6) (N := 10) hx hb hts iX6 tyX6 tyX6_ok nmX6 hown hK hP hD hS 0 rfl rfl 9 (by decide) k57 (fun _ h9 => h9) rfl (by decide +kernel) rfl rfl (Nat.le_of_ble_eq_true rfl) dX6_player_57 (fun H_57 locs_57 hP9 hD9 hS9 => ?_)
    replace hP : va_P D vwCl (zSA cI h len cd N (rd_f (rd_k cd) ks N) (rd_f (rd_g cd) gs N) (rd_f (rd_w cd) wt N) (rd_f (rd_m cd) mi N) (rw_clr pl 6) (rw_clr sk 6) he 0 (rw_at 22 cd (nI len - 1) - 48) (bk_all N) (-1) false pl2 sk2 he2 nh2 ru2 bg2 la2 sd2 u0 l0 u1 l1 u2 l2 wy fi fl nu false (pr + 1)) H_57 := hP9
    replace hD : va_D A (zSA cI h len cd N (rd_f (rd_k cd) ks N) (rd_f (rd_g cd) gs N) (rd_f (rd_w cd) wt N) (rd_f (rd_m cd) mi N) (rw_clr pl 6) (rw_clr sk 6) he 0 (rw_at 22 cd (nI len - 1) - 48) (bk_all N) (-1) false pl2 sk2 he2 nh2 ru2 bg2 la2 sd2 u0 l0 u1 l1 u2 l2 wy fi fl nu false (pr + 1)) := hD9
    replace hS := hS9
    clear hP9 hD9 hS9
    refine lv_aload_n hx hb dX6_player_60 rfl (lv_at hl 0 rfl) ?_
    refine va_get (D := D) (ci := 6) (v := .ref (h 1)) (C := RX6) (T := TX6) (N := 10) hx hb hts iX6 hown hK hP 0 rfl rfl 0 (by decide) k10 (fun _ h9 => h9) rfl dX6_player_61 ?_
    have hPc := (hP.sub (ws' := (zPage cI (h 1) (h 2) (h 3) len cd)) [1, 2, 3] rfl)
    have hDc := hD.sub (ws' := (zPage cI (h 1) (h 2) (h 3) len cd)) [1, 2, 3] rfl rfl
    have hFc := va_free (wc := (zPage cI (h 1) (h 2) (h 3) len cd)) hD hS hA [1, 2, 3] rfl
    refine va_callv (va_runV (As := []) (rest := []) ⟨hx, hb, hml, hown, hts⟩ (c_X3_clear l D cI (h 1) (h 2) (h 3) len cd H_57.size) (cwV 0 hts gX6_player_X3_clear rfl rfl rfl (by decide +kernel) ⟨Nat.le_of_ble_eq_true rfl, Nat.le_of_ble_eq_true rfl⟩) (vz_pvW (va_recv hK hP (ci := 3) (q0 := 1) rfl rfl) hZ hPc hDc) rfl rfl hl.1 rfl (lv_room (Nat.le_of_ble_eq_true rfl)) dX6_player_64 ⟨Nat.zero_le _, Nat.zero_le _⟩) hS (fun q _ h => hFc q h) hFc (fun u_64 t H_64 locs_64 ht hvm hw hB hz1 hk1 hS9 => ?_)
    rw [ht] at hB
    replace hP : va_P D vwCl (zSA cI h 0 cd N (rd_f (rd_k cd) ks N) (rd_f (rd_g cd) gs N) (rd_f (rd_w cd) wt N) (rd_f (rd_m cd) mi N) (rw_clr pl 6) (rw_clr sk 6) he 0 (rw_at 22 cd (nI len - 1) - 48) (bk_all N) (-1) false pl2 sk2 he2 nh2 ru2 bg2 la2 sd2 u0 l0 u1 l1 u2 l2 wy fi fl nu false (pr + 1)) H_64 := vz_join (w1 := (zPage cI (h 1) (h 2) (h 3) 0 cd)) hP hD [1, 2, 3] rfl rfl hk1 hB
    replace hD : va_D A (zSA cI h 0 cd N (rd_f (rd_k cd) ks N) (rd_f (rd_g cd) gs N) (rd_f (rd_w cd) wt N) (rd_f (rd_m cd) mi N) (rw_clr pl 6) (rw_clr sk 6) he 0 (rw_at 22 cd (nI len - 1) - 48) (bk_all N) (-1) false pl2 sk2 he2 nh2 ru2 bg2 la2 sd2 u0 l0 u1 l1 u2 l2 wy fi fl nu false (pr + 1)) := vz_same hD rfl
    replace hS := hS9
    clear hS9 hPc hDc hFc hB hk1 hz1
    refine lv_aload_n hx hb dX6_player_67 rfl (lv_at hl 0 rfl) ?_
    refine va_get (D := D) (ci := 6) (v := .ref (h 4)) (C := RX6) (T := TX6) (N := 10) hx hb hts iX6 hown hK hP 0 rfl rfl 1 (by decide) k19 (fun _ h9 => h9) rfl dX6_player_68 ?_
    refine va_getN (D := D) (ci := 0) (v := .int (nI N)) (C := RX0) (T := TX0) (N := 5) hx hb hts iX0 hown hK hP 4 rfl rfl 4 (by decide) k93 (fun _ h9 => h9) rfl dX6_player_71 ?_
    have en_len : pl_n (pg_whole cd len) (0) len = 0 := by first | rfl | (simp only [pl_n]; done) | (simp only [pl_n]; rfl) | (simp only [pl_n, c_7, ↓reduceIte, Bool.false_eq_true, if_true, if_false, reduceCtorEq, not_true_eq_false, not_false_eq_true, eq_self]; done) | (simp only [pl_n, c_7, ↓reduceIte, Bool.false_eq_true, if_true, if_false, reduceCtorEq, not_true_eq_false, not_false_eq_true, eq_self]; rfl) | (simp [pl_n, c_7]; done)
    have en_nm : pl_n (pg_whole cd len) (N) nm = N := by first | rfl | (simp only [pl_n]; done) | (simp only [pl_n]; rfl) | (simp only [pl_n, c_7, ↓reduceIte, Bool.false_eq_true, if_true, if_false, reduceCtorEq, not_true_eq_false, not_false_eq_true, eq_self]; done) | (simp only [pl_n, c_7, ↓reduceIte, Bool.false_eq_true, if_true, if_false, reduceCtorEq, not_true_eq_false, not_false_eq_true, eq_self]; rfl) | (simp [pl_n, c_7]; done)
    have en_ks : pl_n (pg_whole cd len) (rd_f (rd_k cd) ks N) ks = rd_f (rd_k cd) ks N := by first | rfl | (simp only [pl_n]; done) | (simp only [pl_n]; rfl) | (simp only [pl_n, c_7, ↓reduceIte, Bool.false_eq_true, if_true, if_false, reduceCtorEq, not_true_eq_false, not_false_eq_true, eq_self]; done) | (simp only [pl_n, c_7, ↓reduceIte, Bool.false_eq_true, if_true, if_false, reduceCtorEq, not_true_eq_false, not_false_eq_true, eq_self]; rfl) | (simp [pl_n, c_7]; done)
    have en_gs : pl_n (pg_whole cd len) (rd_f (rd_g cd) gs N) gs = rd_f (rd_g cd) gs N := by first | rfl | (simp only [pl_n]; done) | (simp only [pl_n]; rfl) | (simp only [pl_n, c_7, ↓reduceIte, Bool.false_eq_true, if_true, if_false, reduceCtorEq, not_true_eq_false, not_false_eq_true, eq_self]; done) | (simp only [pl_n, c_7, ↓reduceIte, Bool.false_eq_true, if_true, if_false, reduceCtorEq, not_true_eq_false, not_false_eq_true, eq_self]; rfl) | (simp [pl_n, c_7]; done)
    have en_wt : pl_n (pg_whole cd len) (rd_f (rd_w cd) wt N) wt = rd_f (rd_w cd) wt N := by first | rfl | (simp only [pl_n]; done) | (simp only [pl_n]; rfl) | (simp only [pl_n, c_7, ↓reduceIte, Bool.false_eq_true, if_true, if_false, reduceCtorEq, not_true_eq_false, not_false_eq_true, eq_self]; done) | (simp only [pl_n, c_7, ↓reduceIte, Bool.false_eq_true, if_true, if_false, reduceCtorEq, not_true_eq_false, not_false_eq_true, eq_self]; rfl) | (simp [pl_n, c_7]; done)
    have en_mi : pl_n (pg_whole cd len) (rd_f (rd_m cd) mi N) mi = rd_f (rd_m cd) mi N := by first | rfl | (simp only [pl_n]; done) | (simp only [pl_n]; rfl) | (simp only [pl_n, c_7, ↓reduceIte, Bool.false_eq_true, if_true, if_false, reduceCtorEq, not_true_eq_false, not_false_eq_true, eq_self]; done) | (simp only [pl_n, c_7, ↓reduceIte, Bool.false_eq_true, if_true, if_false, reduceCtorEq, not_true_eq_false, not_false_eq_true, eq_self]; rfl) | (simp [pl_n, c_7]; done)
    have en_pl : pl_n (pg_whole cd len) (rw_clr pl 6) pl = rw_clr pl 6 := by first | rfl | (simp only [pl_n]; done) | (simp only [pl_n]; rfl) | (simp only [pl_n, c_7, ↓reduceIte, Bool.false_eq_true, if_true, if_false, reduceCtorEq, not_true_eq_false, not_false_eq_true, eq_self]; done) | (simp only [pl_n, c_7, ↓reduceIte, Bool.false_eq_true, if_true, if_false, reduceCtorEq, not_true_eq_false, not_false_eq_true, eq_self]; rfl) | (simp [pl_n, c_7]; done)
    have en_sk : pl_n (pg_whole cd len) (rw_clr sk 6) sk = rw_clr sk 6 := by first | rfl | (simp only [pl_n]; done) | (simp only [pl_n]; rfl) | (simp only [pl_n, c_7, ↓reduceIte, Bool.false_eq_true, if_true, if_false, reduceCtorEq, not_true_eq_false, not_false_eq_true, eq_self]; done) | (simp only [pl_n, c_7, ↓reduceIte, Bool.false_eq_true, if_true, if_false, reduceCtorEq, not_true_eq_false, not_false_eq_true, eq_self]; rfl) | (simp [pl_n, c_7]; done)
    have en_nh : pl_n (pg_whole cd len) (0) nh = 0 := by first | rfl | (simp only [pl_n]; done) | (simp only [pl_n]; rfl) | (simp only [pl_n, c_7, ↓reduceIte, Bool.false_eq_true, if_true, if_false, reduceCtorEq, not_true_eq_false, not_false_eq_true, eq_self]; done) | (simp only [pl_n, c_7, ↓reduceIte, Bool.false_eq_true, if_true, if_false, reduceCtorEq, not_true_eq_false, not_false_eq_true, eq_self]; rfl) | (simp [pl_n, c_7]; done)
    have en_ru : pl_n (pg_whole cd len) (rw_at 22 cd (nI len - 1) - 48) ru = (rw_at 22 cd (nI len - 1) - 48) := by first | rfl | (simp only [pl_n]; done) | (simp only [pl_n]; rfl) | (simp only [pl_n, c_7, ↓reduceIte, Bool.false_eq_true, if_true, if_false, reduceCtorEq, not_true_eq_false, not_false_eq_true, eq_self]; done) | (simp only [pl_n, c_7, ↓reduceIte, Bool.false_eq_true, if_true, if_false, reduceCtorEq, not_true_eq_false, not_false_eq_true, eq_self]; rfl) | (simp [pl_n, c_7]; done)
    have en_bg : pl_n (pg_whole cd len) (bk_all N) bg = (bk_all N) := by first | rfl | (simp only [pl_n]; done) | (simp only [pl_n]; rfl) | (simp only [pl_n, c_7, ↓reduceIte, Bool.false_eq_true, if_true, if_false, reduceCtorEq, not_true_eq_false, not_false_eq_true, eq_self]; done) | (simp only [pl_n, c_7, ↓reduceIte, Bool.false_eq_true, if_true, if_false, reduceCtorEq, not_true_eq_false, not_false_eq_true, eq_self]; rfl) | (simp [pl_n, c_7]; done)
    have en_la : pl_n (pg_whole cd len) ((-1)) la = (-1) := by first | rfl | (simp only [pl_n]; done) | (simp only [pl_n]; rfl) | (simp only [pl_n, c_7, ↓reduceIte, Bool.false_eq_true, if_true, if_false, reduceCtorEq, not_true_eq_false, not_false_eq_true, eq_self]; done) | (simp only [pl_n, c_7, ↓reduceIte, Bool.false_eq_true, if_true, if_false, reduceCtorEq, not_true_eq_false, not_false_eq_true, eq_self]; rfl) | (simp [pl_n, c_7]; done)
    have en_sd : pl_n (pg_whole cd len) (false) sd = false := by first | rfl | (simp only [pl_n]; done) | (simp only [pl_n]; rfl) | (simp only [pl_n, c_7, ↓reduceIte, Bool.false_eq_true, if_true, if_false, reduceCtorEq, not_true_eq_false, not_false_eq_true, eq_self]; done) | (simp only [pl_n, c_7, ↓reduceIte, Bool.false_eq_true, if_true, if_false, reduceCtorEq, not_true_eq_false, not_false_eq_true, eq_self]; rfl) | (simp [pl_n, c_7]; done)
    have en_ik : pl_n (pg_whole cd len) (false) ik = false := by first | rfl | (simp only [pl_n]; done) | (simp only [pl_n]; rfl) | (simp only [pl_n, c_7, ↓reduceIte, Bool.false_eq_true, if_true, if_false, reduceCtorEq, not_true_eq_false, not_false_eq_true, eq_self]; done) | (simp only [pl_n, c_7, ↓reduceIte, Bool.false_eq_true, if_true, if_false, reduceCtorEq, not_true_eq_false, not_false_eq_true, eq_self]; rfl) | (simp [pl_n, c_7]; done)
    have en_pr : pl_n (pg_whole cd len) (pr + 1) pr = pr + 1 := by first | rfl | (simp only [pl_n]; done) | (simp only [pl_n]; rfl) | (simp only [pl_n, c_7, ↓reduceIte, Bool.false_eq_true, if_true, if_false, reduceCtorEq, not_true_eq_false, not_false_eq_true, eq_self]; done) | (simp only [pl_n, c_7, ↓reduceIte, Bool.false_eq_true, if_true, if_false, reduceCtorEq, not_true_eq_false, not_false_eq_true, eq_self]; rfl) | (simp [pl_n, c_7]; done)
    exact W.iret hx hb hr (fun t ht hW => ⟨⟨_, (), rfl, (by first | rfl | (simp only [pl_n]; done) | (simp only [pl_n]; rfl) | (simp only [pl_n, c_7, ↓reduceIte, Bool.false_eq_true, if_true, if_false, reduceCtorEq, not_true_eq_false, not_false_eq_true, eq_self]; done) | (simp only [pl_n, c_7, ↓reduceIte, Bool.false_eq_true, if_true, if_false, reduceCtorEq, not_true_eq_false, not_false_eq_true, eq_self]; rfl) | (simp [pl_n, c_7]; done)), (by show va_P D vwCl (zSA cI h (pl_n (pg_whole cd len) (0) len) cd (pl_n (pg_whole cd len) (N) nm) (pl_n (pg_whole cd len) (rd_f (rd_k cd) ks N) ks) (pl_n (pg_whole cd len) (rd_f (rd_g cd) gs N) gs) (pl_n (pg_whole cd len) (rd_f (rd_w cd) wt N) wt) (pl_n (pg_whole cd len) (rd_f (rd_m cd) mi N) mi) (pl_n (pg_whole cd len) (rw_clr pl 6) pl) (pl_n (pg_whole cd len) (rw_clr sk 6) sk) he (pl_n (pg_whole cd len) (0) nh) (pl_n (pg_whole cd len) (rw_at 22 cd (nI len - 1) - 48) ru) (pl_n (pg_whole cd len) (bk_all N) bg) (pl_n (pg_whole cd len) ((-1)) la) (pl_n (pg_whole cd len) (false) sd) pl2 sk2 he2 nh2 ru2 bg2 la2 sd2 u0 l0 u1 l1 u2 l2 wy fi fl nu (pl_n (pg_whole cd len) (false) ik) (pl_n (pg_whole cd len) (pr + 1) pr)) t.heap; rw [ht, en_len, en_nm, en_ks, en_gs, en_wt, en_mi, en_pl, en_sk, en_nh, en_ru, en_bg, en_la, en_sd, en_ik, en_pr]; exact hP)⟩, hS.F ht⟩) hS.2.2 dX6_player_74
  · skip
    replace c_7 := vz_b0 c_7
    refine lv_bipush (v := (-103)) hx hb dX6_player_10 (by decide) ?_
    have en_len : pl_n (pg_whole cd len) (0) len = len := by first | rfl | (simp only [pl_n]; done) | (simp only [pl_n]; rfl) | (simp only [pl_n, c_7, ↓reduceIte, Bool.false_eq_true, if_true, if_false, reduceCtorEq, not_true_eq_false, not_false_eq_true, eq_self]; done) | (simp only [pl_n, c_7, ↓reduceIte, Bool.false_eq_true, if_true, if_false, reduceCtorEq, not_true_eq_false, not_false_eq_true, eq_self]; rfl) | (simp [pl_n, c_7]; done)
    have en_nm : pl_n (pg_whole cd len) (N) nm = nm := by first | rfl | (simp only [pl_n]; done) | (simp only [pl_n]; rfl) | (simp only [pl_n, c_7, ↓reduceIte, Bool.false_eq_true, if_true, if_false, reduceCtorEq, not_true_eq_false, not_false_eq_true, eq_self]; done) | (simp only [pl_n, c_7, ↓reduceIte, Bool.false_eq_true, if_true, if_false, reduceCtorEq, not_true_eq_false, not_false_eq_true, eq_self]; rfl) | (simp [pl_n, c_7]; done)
    have en_ks : pl_n (pg_whole cd len) (rd_f (rd_k cd) ks N) ks = ks := by first | rfl | (simp only [pl_n]; done) | (simp only [pl_n]; rfl) | (simp only [pl_n, c_7, ↓reduceIte, Bool.false_eq_true, if_true, if_false, reduceCtorEq, not_true_eq_false, not_false_eq_true, eq_self]; done) | (simp only [pl_n, c_7, ↓reduceIte, Bool.false_eq_true, if_true, if_false, reduceCtorEq, not_true_eq_false, not_false_eq_true, eq_self]; rfl) | (simp [pl_n, c_7]; done)
    have en_gs : pl_n (pg_whole cd len) (rd_f (rd_g cd) gs N) gs = gs := by first | rfl | (simp only [pl_n]; done) | (simp only [pl_n]; rfl) | (simp only [pl_n, c_7, ↓reduceIte, Bool.false_eq_true, if_true, if_false, reduceCtorEq, not_true_eq_false, not_false_eq_true, eq_self]; done) | (simp only [pl_n, c_7, ↓reduceIte, Bool.false_eq_true, if_true, if_false, reduceCtorEq, not_true_eq_false, not_false_eq_true, eq_self]; rfl) | (simp [pl_n, c_7]; done)
    have en_wt : pl_n (pg_whole cd len) (rd_f (rd_w cd) wt N) wt = wt := by first | rfl | (simp only [pl_n]; done) | (simp only [pl_n]; rfl) | (simp only [pl_n, c_7, ↓reduceIte, Bool.false_eq_true, if_true, if_false, reduceCtorEq, not_true_eq_false, not_false_eq_true, eq_self]; done) | (simp only [pl_n, c_7, ↓reduceIte, Bool.false_eq_true, if_true, if_false, reduceCtorEq, not_true_eq_false, not_false_eq_true, eq_self]; rfl) | (simp [pl_n, c_7]; done)
    have en_mi : pl_n (pg_whole cd len) (rd_f (rd_m cd) mi N) mi = mi := by first | rfl | (simp only [pl_n]; done) | (simp only [pl_n]; rfl) | (simp only [pl_n, c_7, ↓reduceIte, Bool.false_eq_true, if_true, if_false, reduceCtorEq, not_true_eq_false, not_false_eq_true, eq_self]; done) | (simp only [pl_n, c_7, ↓reduceIte, Bool.false_eq_true, if_true, if_false, reduceCtorEq, not_true_eq_false, not_false_eq_true, eq_self]; rfl) | (simp [pl_n, c_7]; done)
    have en_pl : pl_n (pg_whole cd len) (rw_clr pl 6) pl = pl := by first | rfl | (simp only [pl_n]; done) | (simp only [pl_n]; rfl) | (simp only [pl_n, c_7, ↓reduceIte, Bool.false_eq_true, if_true, if_false, reduceCtorEq, not_true_eq_false, not_false_eq_true, eq_self]; done) | (simp only [pl_n, c_7, ↓reduceIte, Bool.false_eq_true, if_true, if_false, reduceCtorEq, not_true_eq_false, not_false_eq_true, eq_self]; rfl) | (simp [pl_n, c_7]; done)
    have en_sk : pl_n (pg_whole cd len) (rw_clr sk 6) sk = sk := by first | rfl | (simp only [pl_n]; done) | (simp only [pl_n]; rfl) | (simp only [pl_n, c_7, ↓reduceIte, Bool.false_eq_true, if_true, if_false, reduceCtorEq, not_true_eq_false, not_false_eq_true, eq_self]; done) | (simp only [pl_n, c_7, ↓reduceIte, Bool.false_eq_true, if_true, if_false, reduceCtorEq, not_true_eq_false, not_false_eq_true, eq_self]; rfl) | (simp [pl_n, c_7]; done)
    have en_nh : pl_n (pg_whole cd len) (0) nh = nh := by first | rfl | (simp only [pl_n]; done) | (simp only [pl_n]; rfl) | (simp only [pl_n, c_7, ↓reduceIte, Bool.false_eq_true, if_true, if_false, reduceCtorEq, not_true_eq_false, not_false_eq_true, eq_self]; done) | (simp only [pl_n, c_7, ↓reduceIte, Bool.false_eq_true, if_true, if_false, reduceCtorEq, not_true_eq_false, not_false_eq_true, eq_self]; rfl) | (simp [pl_n, c_7]; done)
    have en_ru : pl_n (pg_whole cd len) (rw_at 22 cd (nI len - 1) - 48) ru = ru := by first | rfl | (simp only [pl_n]; done) | (simp only [pl_n]; rfl) | (simp only [pl_n, c_7, ↓reduceIte, Bool.false_eq_true, if_true, if_false, reduceCtorEq, not_true_eq_false, not_false_eq_true, eq_self]; done) | (simp only [pl_n, c_7, ↓reduceIte, Bool.false_eq_true, if_true, if_false, reduceCtorEq, not_true_eq_false, not_false_eq_true, eq_self]; rfl) | (simp [pl_n, c_7]; done)
    have en_bg : pl_n (pg_whole cd len) (bk_all N) bg = bg := by first | rfl | (simp only [pl_n]; done) | (simp only [pl_n]; rfl) | (simp only [pl_n, c_7, ↓reduceIte, Bool.false_eq_true, if_true, if_false, reduceCtorEq, not_true_eq_false, not_false_eq_true, eq_self]; done) | (simp only [pl_n, c_7, ↓reduceIte, Bool.false_eq_true, if_true, if_false, reduceCtorEq, not_true_eq_false, not_false_eq_true, eq_self]; rfl) | (simp [pl_n, c_7]; done)
    have en_la : pl_n (pg_whole cd len) ((-1)) la = la := by first | rfl | (simp only [pl_n]; done) | (simp only [pl_n]; rfl) | (simp only [pl_n, c_7, ↓reduceIte, Bool.false_eq_true, if_true, if_false, reduceCtorEq, not_true_eq_false, not_false_eq_true, eq_self]; done) | (simp only [pl_n, c_7, ↓reduceIte, Bool.false_eq_true, if_true, if_false, reduceCtorEq, not_true_eq_false, not_false_eq_true, eq_self]; rfl) | (simp [pl_n, c_7]; done)
    have en_sd : pl_n (pg_whole cd len) (false) sd = sd := by first | rfl | (simp only [pl_n]; done) | (simp only [pl_n]; rfl) | (simp only [pl_n, c_7, ↓reduceIte, Bool.false_eq_true, if_true, if_false, reduceCtorEq, not_true_eq_false, not_false_eq_true, eq_self]; done) | (simp only [pl_n, c_7, ↓reduceIte, Bool.false_eq_true, if_true, if_false, reduceCtorEq, not_true_eq_false, not_false_eq_true, eq_self]; rfl) | (simp [pl_n, c_7]; done)
    have en_ik : pl_n (pg_whole cd len) (false) ik = ik := by first | rfl | (simp only [pl_n]; done) | (simp only [pl_n]; rfl) | (simp only [pl_n, c_7, ↓reduceIte, Bool.false_eq_true, if_true, if_false, reduceCtorEq, not_true_eq_false, not_false_eq_true, eq_self]; done) | (simp only [pl_n, c_7, ↓reduceIte, Bool.false_eq_true, if_true, if_false, reduceCtorEq, not_true_eq_false, not_false_eq_true, eq_self]; rfl) | (simp [pl_n, c_7]; done)
    have en_pr : pl_n (pg_whole cd len) (pr + 1) pr = pr := by first | rfl | (simp only [pl_n]; done) | (simp only [pl_n]; rfl) | (simp only [pl_n, c_7, ↓reduceIte, Bool.false_eq_true, if_true, if_false, reduceCtorEq, not_true_eq_false, not_false_eq_true, eq_self]; done) | (simp only [pl_n, c_7, ↓reduceIte, Bool.false_eq_true, if_true, if_false, reduceCtorEq, not_true_eq_false, not_false_eq_true, eq_self]; rfl) | (simp [pl_n, c_7]; done)
    exact W.iret hx hb hr (fun t ht hW => ⟨⟨_, (), rfl, (by first | rfl | (simp only [pl_n]; done) | (simp only [pl_n]; rfl) | (simp only [pl_n, c_7, ↓reduceIte, Bool.false_eq_true, if_true, if_false, reduceCtorEq, not_true_eq_false, not_false_eq_true, eq_self]; done) | (simp only [pl_n, c_7, ↓reduceIte, Bool.false_eq_true, if_true, if_false, reduceCtorEq, not_true_eq_false, not_false_eq_true, eq_self]; rfl) | (simp [pl_n, c_7]; done)), (by show va_P D vwCl (zSA cI h (pl_n (pg_whole cd len) (0) len) cd (pl_n (pg_whole cd len) (N) nm) (pl_n (pg_whole cd len) (rd_f (rd_k cd) ks N) ks) (pl_n (pg_whole cd len) (rd_f (rd_g cd) gs N) gs) (pl_n (pg_whole cd len) (rd_f (rd_w cd) wt N) wt) (pl_n (pg_whole cd len) (rd_f (rd_m cd) mi N) mi) (pl_n (pg_whole cd len) (rw_clr pl 6) pl) (pl_n (pg_whole cd len) (rw_clr sk 6) sk) he (pl_n (pg_whole cd len) (0) nh) (pl_n (pg_whole cd len) (rw_at 22 cd (nI len - 1) - 48) ru) (pl_n (pg_whole cd len) (bk_all N) bg) (pl_n (pg_whole cd len) ((-1)) la) (pl_n (pg_whole cd len) (false) sd) pl2 sk2 he2 nh2 ru2 bg2 la2 sd2 u0 l0 u1 l1 u2 l2 wy fi fl nu (pl_n (pg_whole cd len) (false) ik) (pl_n (pg_whole cd len) (pr + 1) pr)) t.heap; rw [ht, en_len, en_nm, en_ks, en_gs, en_wt, en_mi, en_pl, en_sk, en_nh, en_ru, en_bg, en_la, en_sd, en_ik, en_pr]; exact hP)⟩, hS.F ht⟩) hS.2.2 dX6_player_12

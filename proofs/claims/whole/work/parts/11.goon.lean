set_option maxHeartbeats 4000000 in
set_option maxRecDepth 100000 in
theorem c_X2_goOn (l : Launch) : ∀ (d : Nat) (D : va_G) (cI : ClassId) (h : Nat → Nat) (g : Nat → Nat) (wy : Nat → Int32) (fi : Nat → Int32) (fl : Int32) (nu : Int32) (nm : Nat) (ks : Nat → Int32) (gs : Nat → Int32) (wt : Nat → Int32) (mi : Nat → Int32) (sz : Nat) (p2 : Int32) (k : Nat) (hnm : nm ≤ 6) (hk6 : k ≤ 6) (hk : 7 - k < d), Met l yX2_goOn wsX2_goOn ({ frames := 3 + d, cells := 0, slots := 0, locals := 64 + d * 24 } : Room) (vz_rw D cI (zOrdBook cI h g wy fi fl nu nm ks gs wt mi) sz [.ref (h 0), .ref (g 0), .int p2, .int (nI k)]) (va_Qv (fun (_ : Unit) => True) (fun (u : Unit) (t : State) => va_P D vwCl (zOrdBook cI h g ((od nm gs (7 - k) k p2 (wy, fi, fl, nu)).1) ((od nm gs (7 - k) k p2 (wy, fi, fl, nu)).2.1) ((od nm gs (7 - k) k p2 (wy, fi, fl, nu)).2.2.1) ((od nm gs (7 - k) k p2 (wy, fi, fl, nu)).2.2.2) nm ks gs wt mi) t.heap) (va_A (zOrdBook cI h g wy fi fl nu nm ks gs wt mi) sz)) 0 0 (va_A (zOrdBook cI h g wy fi fl nu nm ks gs wt mi) sz) := by
  intro d
  induction d with
  | zero => intro D cI h g wy fi fl nu nm ks gs wt mi sz p2 k hnm hk6 hk; exact absurd hk (Nat.not_lt_zero _)
  | succ d ih_rec =>
    intro D cI h g wy fi fl nu nm ks gs wt mi sz p2 k hnm hk6 hk
    refine Met.ofW (cc := cX2_goOn) (maxL := 5) (ret := none) (by decide) rfl ?_
    intro p e s m args below meth c s₁ B hml hv
    obtain ⟨rfl, hsz, hP, hZ, hD0⟩ := hv
    obtain ⟨hK, hN⟩ := id hZ
    have hx := B.exec
    have hb := B.bytes
    have hr := B.returns
    have hts := atoms_spec (ws := wsX2_goOn) B.pre
    have hown : s.vm.findClass RX2 = some m.cls := findClass_of_methodNamed B.named
    have hlocks := B.notSynchronized
    subst hsz
    have hD := hD0.self (sz := s.heap.size)
    generalize hAe : va_A (zOrdBook cI h g wy fi fl nu nm ks gs wt mi) s.heap.size = A at hD ⊢
    have hA : ∀ q : Nat, s.heap.size ≤ q → A q := fun q h => by rw [← hAe]; exact Or.inr h
    have hS : va_S A s.heap s.heap [] := va_S.rf
    have k14 := hts (.fieldLink RX2 14 "SongsAgain$Orders" "way" "LSongsAgain$Row;") (List.mem_of_getElem? (i := 1) rfl)
    have k37 : (Cond.fieldLinkNest "SongsAgain$Orders" 37 "SongsAgain$Book" "number" "I" "SongsAgain").before _ s = true := va_Nw.use (A := ([.ref (h 0), .ref (g 0), .int p2, .int (nI k)] : List Value).toArray) rfl (hN.1 ("SongsAgain$Orders", 37, "SongsAgain$Book", "number", "I") (List.mem_of_getElem? (i := 7) rfl))
    have iX0 : ∀ w ∈ u_ws RX0 TX0 5, w ∈ wsX2_goOn := vz_in (i := 33) (n := 5) rfl
    have iX2 : ∀ w ∈ u_ws RX2 TX2 4, w ∈ wsX2_goOn := vz_in (i := 38) (n := 4) rfl
    have hl := lv_entry ([.ref (h 0), .ref (g 0), .int p2, .int (nI k)]) (n := 5) (Nat.le_of_ble_eq_true rfl)
    rw [lg_entry_eq]
    generalize (lg_sl ([.ref (h 0), .ref (g 0), .int p2, .int (nI k)]) ++ List.replicate (5 - (lg_sl ([.ref (h 0), .ref (g 0), .int p2, .int (nI k)])).length) Slot.unset).toArray = ls at hl ⊢
    have hl : lv_has ls 5 [(0, .ref (h 0)), (1, .ref (g 0)), (2, .int p2), (3, .int (nI k))] := hl
    have hP : va_P D vwCl (zOrdBook cI h g wy fi fl nu nm ks gs wt mi) s.heap := hP
    refine lv_iload_n hx hb dX2_goOn_0 rfl (lv_at hl 2 rfl) ?_
    refine lv_if_ne (tgt := 10) hx hb dX2_goOn_1 (by decide) (fun c_1 => ?_) (fun c_1 => ?_)
    · skip
      refine lv_iload_n hx hb dX2_goOn_10 rfl (lv_at hl 3 rfl) ?_
      refine lv_bipush (v := 6) hx hb dX2_goOn_11 (by decide) ?_
      refine lv_icmp_lt (tgt := 17) hx hb dX2_goOn_13 (by decide) (fun c_13 => ?_) (fun c_13 => ?_)
      · skip
        have hk5 : k < 6 := (nI_ltI (b := 6) (by omega) (by omega)).mp c_13
        refine lv_iconst (v := 0) hx hb dX2_goOn_17 (by decide) ?_
        refine lv_istore (lv' := [(4, .int 0), (0, .ref (h 0)), (1, .ref (g 0)), (2, .int p2), (3, .int (nI k))]) hx hb dX2_goOn_18 hl (by decide) rfl (fun ls hl => ?_)
        have L_20 : ∀ (d_20 : Nat) (j : Nat) (H_20 : Heap) (locs_20 : List Loc), nm - j < d_20 → (j ≤ nm) → va_P D vwCl (zOrdBook cI h g ((od_lp (od nm gs (7 - (k + 1)) (k + 1)) gs p2 k j (wy, fi, fl, nu)).1) ((od_lp (od nm gs (7 - (k + 1)) (k + 1)) gs p2 k j (wy, fi, fl, nu)).2.1) ((od_lp (od nm gs (7 - (k + 1)) (k + 1)) gs p2 k j (wy, fi, fl, nu)).2.2.1) ((od_lp (od nm gs (7 - (k + 1)) (k + 1)) gs p2 k j (wy, fi, fl, nu)).2.2.2) nm ks gs wt mi) H_20 → va_D A (zOrdBook cI h g ((od_lp (od nm gs (7 - (k + 1)) (k + 1)) gs p2 k j (wy, fi, fl, nu)).1) ((od_lp (od nm gs (7 - (k + 1)) (k + 1)) gs p2 k j (wy, fi, fl, nu)).2.1) ((od_lp (od nm gs (7 - (k + 1)) (k + 1)) gs p2 k j (wy, fi, fl, nu)).2.2.1) ((od_lp (od nm gs (7 - (k + 1)) (k + 1)) gs p2 k j (wy, fi, fl, nu)).2.2.2) nm ks gs wt mi) → va_S A s.heap H_20 locs_20 → ∀ (ls : Array Slot), lv_has ls 5 [(4, .int (nI j)), (0, .ref (h 0)), (1, .ref (g 0)), (2, .int p2), (3, .int (nI k))] → W p l e ({ frames := 3 + (d + 1), cells := 0, slots := 0, locals := 64 + (d + 1) * 24 } : Room) s m ([.ref (h 0), .ref (g 0), .int p2, .int (nI k)] : List Value).toArray below meth c H_20 locs_20 0 0 (MQ below (va_Qv (fun (_ : Unit) => True) (fun (u : Unit) (t : State) => va_P D vwCl (zOrdBook cI h g ((od nm gs (7 - k) k p2 (wy, fi, fl, nu)).1) ((od nm gs (7 - k) k p2 (wy, fi, fl, nu)).2.1) ((od nm gs (7 - k) k p2 (wy, fi, fl, nu)).2.2.1) ((od nm gs (7 - k) k p2 (wy, fi, fl, nu)).2.2.2) nm ks gs wt mi) t.heap) A) ([.ref (h 0), .ref (g 0), .int p2, .int (nI k)] : List Value).toArray s 0 0 A) (F0 m 20 ls []) := by
          intro d_20
          induction d_20 with
          | zero => intro j H_20 locs_20 hd; exact absurd hd (Nat.not_lt_zero _)
          | succ d_20 ih_20 =>
            intro j H_20 locs_20 hd_20 hj hP hD hS ls hl
            refine lv_iload hx hb dX2_goOn_20 (lv_at hl 0 rfl) ?_
            refine lv_aload_n hx hb dX2_goOn_22 rfl (lv_at hl 2 rfl) ?_
            refine va_getN (D := D) (ci := 0) (v := .int (nI nm)) (C := RX0) (T := TX0) (N := 5) hx hb hts iX0 hown hK hP 5 rfl rfl 4 (by decide) k37 (fun _ h9 => h9) rfl dX2_goOn_23 ?_
            refine lv_icmp_ge (tgt := 93) hx hb dX2_goOn_26 (by decide) (fun c_26 => ?_) (fun c_26 => ?_)
            · skip
              have hje : j = nm := Nat.le_antisymm hj (vz_ge c_26 (by omega) (by omega))
              have en_wy : (od nm gs (7 - k) k p2 (wy, fi, fl, nu)).1 = (od_lp (od nm gs (7 - (k + 1)) (k + 1)) gs p2 k j (wy, fi, fl, nu)).1 := by rw [od_pos hk6 c_1 hk5, hje]
              have en_fi : (od nm gs (7 - k) k p2 (wy, fi, fl, nu)).2.1 = (od_lp (od nm gs (7 - (k + 1)) (k + 1)) gs p2 k j (wy, fi, fl, nu)).2.1 := by rw [od_pos hk6 c_1 hk5, hje]
              have en_fl : (od nm gs (7 - k) k p2 (wy, fi, fl, nu)).2.2.1 = (od_lp (od nm gs (7 - (k + 1)) (k + 1)) gs p2 k j (wy, fi, fl, nu)).2.2.1 := by rw [od_pos hk6 c_1 hk5, hje]
              have en_nu : (od nm gs (7 - k) k p2 (wy, fi, fl, nu)).2.2.2 = (od_lp (od nm gs (7 - (k + 1)) (k + 1)) gs p2 k j (wy, fi, fl, nu)).2.2.2 := by rw [od_pos hk6 c_1 hk5, hje]
              exact W.vret hx hb hr (fun t ht hW => ⟨⟨(), rfl, trivial, (by show va_P D vwCl (zOrdBook cI h g ((od nm gs (7 - k) k p2 (wy, fi, fl, nu)).1) ((od nm gs (7 - k) k p2 (wy, fi, fl, nu)).2.1) ((od nm gs (7 - k) k p2 (wy, fi, fl, nu)).2.2.1) ((od nm gs (7 - k) k p2 (wy, fi, fl, nu)).2.2.2) nm ks gs wt mi) t.heap; rw [ht, en_wy, en_fi, en_fl, en_nu]; exact hP)⟩, hS.F ht⟩) hS.2.2 dX2_goOn_93
            · skip
              have hlt : j < nm := vz_lt c_26 (by omega)
              refine lv_iload_n hx hb dX2_goOn_29 rfl (lv_at hl 3 rfl) ?_
              refine lv_iload hx hb dX2_goOn_30 (lv_at hl 0 rfl) ?_
              refine vp_callSi (vz_cr <| va_runSN (As := [.int p2, .int (nI j)]) (rest := []) ⟨hx, hb, hml, hown, hts⟩ (c_X6_holds l p2 (nI j)) (⟨va_cnB 2 hts gX2_goOn_X6_holds_n40 rfl rfl rfl (hN.2 ("SongsAgain$Orders", 40, ⟨"SongsAgain", "holds", "(II)Z"⟩) (List.mem_of_getElem? (i := 5) rfl)) (hts (.initialized RX6) (List.mem_of_getElem? (i := 21) rfl)) (by decide +kernel) ⟨by show 0 + 1 ≤ 3 + (d + 1); omega, by show 8 + (2 + 11) + 0 ≤ 64 + (d + 1) * 24; omega⟩, hts (.static yX6_holds) (List.mem_of_getElem? (i := 20) rfl), trivial⟩) (vz_psS) rfl rfl hl.1 rfl (lv_room (Nat.le_of_ble_eq_true rfl)) dX2_goOn_32 ⟨Nat.zero_le _, Nat.zero_le _⟩) (fun r_32 hr_32 => ?_)
              subst hr_32
              refine lv_if_eq (tgt := 87) hx hb dX2_goOn_35 (by decide) (fun c_35 => ?_) (fun c_35 => ?_)
              · skip
                replace c_35 := vz_b0 c_35
                refine lv_iinc (v := nI (j + 1)) (lv' := [(4, .int (nI (j + 1))), (0, .ref (h 0)), (1, .ref (g 0)), (2, .int p2), (3, .int (nI k))]) hx hb dX2_goOn_87 hl (k := 0) rfl (vz_inc _) (by decide) rfl (fun ls hl => ?_)
                refine lv_goto (tgt := 20) hx hb dX2_goOn_90 (by decide) ?_
                have ew_wy : (od_lp (od nm gs (7 - (k + 1)) (k + 1)) gs p2 k (j + 1) (wy, fi, fl, nu)).1 = (od_lp (od nm gs (7 - (k + 1)) (k + 1)) gs p2 k j (wy, fi, fl, nu)).1 := by simp only [od_lp, c_1, c_13, c_26, c_35, ↓reduceIte, Bool.false_eq_true]
                have ew_fi : (od_lp (od nm gs (7 - (k + 1)) (k + 1)) gs p2 k (j + 1) (wy, fi, fl, nu)).2.1 = (od_lp (od nm gs (7 - (k + 1)) (k + 1)) gs p2 k j (wy, fi, fl, nu)).2.1 := by simp only [od_lp, c_1, c_13, c_26, c_35, ↓reduceIte, Bool.false_eq_true]
                have ew_fl : (od_lp (od nm gs (7 - (k + 1)) (k + 1)) gs p2 k (j + 1) (wy, fi, fl, nu)).2.2.1 = (od_lp (od nm gs (7 - (k + 1)) (k + 1)) gs p2 k j (wy, fi, fl, nu)).2.2.1 := by simp only [od_lp, c_1, c_13, c_26, c_35, ↓reduceIte, Bool.false_eq_true]
                have ew_nu : (od_lp (od nm gs (7 - (k + 1)) (k + 1)) gs p2 k (j + 1) (wy, fi, fl, nu)).2.2.2 = (od_lp (od nm gs (7 - (k + 1)) (k + 1)) gs p2 k j (wy, fi, fl, nu)).2.2.2 := by simp only [od_lp, c_1, c_13, c_26, c_35, ↓reduceIte, Bool.false_eq_true]
                replace hP : va_P D vwCl (zOrdBook cI h g ((od_lp (od nm gs (7 - (k + 1)) (k + 1)) gs p2 k (j + 1) (wy, fi, fl, nu)).1) ((od_lp (od nm gs (7 - (k + 1)) (k + 1)) gs p2 k (j + 1) (wy, fi, fl, nu)).2.1) ((od_lp (od nm gs (7 - (k + 1)) (k + 1)) gs p2 k (j + 1) (wy, fi, fl, nu)).2.2.1) ((od_lp (od nm gs (7 - (k + 1)) (k + 1)) gs p2 k (j + 1) (wy, fi, fl, nu)).2.2.2) nm ks gs wt mi) H_20 := by rw [ew_wy, ew_fi, ew_fl, ew_nu]; exact hP
                replace hD : va_D A (zOrdBook cI h g ((od_lp (od nm gs (7 - (k + 1)) (k + 1)) gs p2 k (j + 1) (wy, fi, fl, nu)).1) ((od_lp (od nm gs (7 - (k + 1)) (k + 1)) gs p2 k (j + 1) (wy, fi, fl, nu)).2.1) ((od_lp (od nm gs (7 - (k + 1)) (k + 1)) gs p2 k (j + 1) (wy, fi, fl, nu)).2.2.1) ((od_lp (od nm gs (7 - (k + 1)) (k + 1)) gs p2 k (j + 1) (wy, fi, fl, nu)).2.2.2) nm ks gs wt mi) := vz_same hD rfl
                exact ih_20 (j + 1) _ _ (by omega) (by omega) hP hD hS ls (lv_sub hl [0, 1, 2, 3, 4] rfl)
              · skip
                replace c_35 := vz_b1 c_35
                refine lv_iload_n hx hb dX2_goOn_38 rfl (lv_at hl 4 rfl) ?_
                refine lv_if_eq (tgt := 61) hx hb dX2_goOn_39 (by decide) (fun c_39 => ?_) (fun c_39 => ?_)
                · skip
                  refine lv_aload_n hx hb dX2_goOn_61 rfl (lv_at hl 1 rfl) ?_
                  refine va_get (D := D) (ci := 2) (v := .ref (h 1)) (C := RX2) (T := TX2) (N := 4) hx hb hts iX2 hown hK hP 0 rfl rfl 0 (by decide) k14 (fun _ h9 => h9) rfl dX2_goOn_62 ?_
                  refine lv_iload_n hx hb dX2_goOn_65 rfl (lv_at hl 4 rfl) ?_
                  refine lv_iload hx hb dX2_goOn_66 (lv_at hl 0 rfl) ?_
                  have hPc := (hP.sub (ws' := (zRow cI (h 1) (h 2) 6 ((od_lp (od nm gs (7 - (k + 1)) (k + 1)) gs p2 k j (wy, fi, fl, nu)).1))) [1, 2] rfl)
                  have hDc := hD.sub (ws' := (zRow cI (h 1) (h 2) 6 ((od_lp (od nm gs (7 - (k + 1)) (k + 1)) gs p2 k j (wy, fi, fl, nu)).1))) [1, 2] rfl rfl
                  have hFc := va_free (wc := (zRow cI (h 1) (h 2) 6 ((od_lp (od nm gs (7 - (k + 1)) (k + 1)) gs p2 k j (wy, fi, fl, nu)).1))) hD hS hA [1, 2] rfl
                  refine va_callv (va_runV (As := [.int (nI k), .int (nI j)]) (rest := []) ⟨hx, hb, hml, hown, hts⟩ (c_X5_put l D cI (h 1) (h 2) 6 ((od_lp (od nm gs (7 - (k + 1)) (k + 1)) gs p2 k j (wy, fi, fl, nu)).1) H_20.size (nI k) (nI j) (by decide)) (cwV 2 hts gX2_goOn_X5_put rfl rfl rfl (by decide +kernel) ⟨by show 0 + 1 ≤ 3 + (d + 1); omega, by show 8 + (3 + 11) + 0 ≤ 64 + (d + 1) * 24; omega⟩) (vz_pvW (va_recv hK hP (ci := 5) (q0 := 1) rfl rfl) hZ hPc hDc) rfl rfl hl.1 rfl (lv_room (Nat.le_of_ble_eq_true rfl)) dX2_goOn_68 ⟨Nat.zero_le _, Nat.zero_le _⟩) hS (fun q _ h => hFc q h) hFc (fun u_68 t H_68 locs_68 ht hvm hw hB hz1 hk1 hS9 => ?_)
                  rw [ht] at hB
                  replace hP : va_P D vwCl (zOrdBook cI h g (rw_put 6 ((od_lp (od nm gs (7 - (k + 1)) (k + 1)) gs p2 k j (wy, fi, fl, nu)).1) (nI k) (nI j)) ((od_lp (od nm gs (7 - (k + 1)) (k + 1)) gs p2 k j (wy, fi, fl, nu)).2.1) ((od_lp (od nm gs (7 - (k + 1)) (k + 1)) gs p2 k j (wy, fi, fl, nu)).2.2.1) ((od_lp (od nm gs (7 - (k + 1)) (k + 1)) gs p2 k j (wy, fi, fl, nu)).2.2.2) nm ks gs wt mi) H_68 := vz_join (w1 := (zRow cI (h 1) (h 2) 6 (rw_put 6 ((od_lp (od nm gs (7 - (k + 1)) (k + 1)) gs p2 k j (wy, fi, fl, nu)).1) (nI k) (nI j)))) hP hD [1, 2] rfl rfl hk1 hB
                  replace hD : va_D A (zOrdBook cI h g (rw_put 6 ((od_lp (od nm gs (7 - (k + 1)) (k + 1)) gs p2 k j (wy, fi, fl, nu)).1) (nI k) (nI j)) ((od_lp (od nm gs (7 - (k + 1)) (k + 1)) gs p2 k j (wy, fi, fl, nu)).2.1) ((od_lp (od nm gs (7 - (k + 1)) (k + 1)) gs p2 k j (wy, fi, fl, nu)).2.2.1) ((od_lp (od nm gs (7 - (k + 1)) (k + 1)) gs p2 k j (wy, fi, fl, nu)).2.2.2) nm ks gs wt mi) := vz_same hD rfl
                  replace hS := hS9
                  clear hS9 hPc hDc hFc hB hk1 hz1
                  refine lv_aload_n hx hb dX2_goOn_71 rfl (lv_at hl 1 rfl) ?_
                  refine lv_aload_n hx hb dX2_goOn_72 rfl (lv_at hl 2 rfl) ?_
                  refine lv_iload_n hx hb dX2_goOn_73 rfl (lv_at hl 3 rfl) ?_
                  refine lv_iconst (v := 1) hx hb dX2_goOn_74 (by decide) ?_
                  refine lv_iload hx hb dX2_goOn_75 (lv_at hl 0 rfl) ?_
                  refine lv_ishl hx hb dX2_goOn_77 ?_
                  refine lv_iconst (v := (-1)) hx hb dX2_goOn_78 (by decide) ?_
                  refine lv_ixor hx hb dX2_goOn_79 ?_
                  refine lv_iand hx hb dX2_goOn_80 ?_
                  refine lv_iload_n hx hb dX2_goOn_81 rfl (lv_at hl 4 rfl) ?_
                  refine lv_iconst (v := 1) hx hb dX2_goOn_82 (by decide) ?_
                  refine lv_iadd hx hb dX2_goOn_83 ?_
                  refine W.eq (congrArg (fun z => F0 m 84 ls (.int z :: [.int (p2 &&& ((1 <<< ((nI j) &&& 31)) ^^^ (-1))), .ref (g 0), .ref (h 0)])) (nI_add k 1 : (nI k) + 1 = nI (k + 1))) ?_
                  have hPc := hP
                  have hDc := hD
                  have hFc : ∀ q, va_A (zOrdBook cI h g (rw_put 6 ((od_lp (od nm gs (7 - (k + 1)) (k + 1)) gs p2 k j (wy, fi, fl, nu)).1) (nI k) (nI j)) ((od_lp (od nm gs (7 - (k + 1)) (k + 1)) gs p2 k j (wy, fi, fl, nu)).2.1) ((od_lp (od nm gs (7 - (k + 1)) (k + 1)) gs p2 k j (wy, fi, fl, nu)).2.2.1) ((od_lp (od nm gs (7 - (k + 1)) (k + 1)) gs p2 k j (wy, fi, fl, nu)).2.2.2) nm ks gs wt mi) H_68.size q → A q := vz_freeAll hD hS hA
                  refine va_callv (va_runS (As := [.ref (h 0), .ref (g 0), .int (p2 &&& ((1 <<< ((nI j) &&& 31)) ^^^ (-1))), .int (nI (k + 1))]) (rest := []) ⟨hx, hb, hml, hown, hts⟩ (ih_rec D cI h g (rw_put 6 ((od_lp (od nm gs (7 - (k + 1)) (k + 1)) gs p2 k j (wy, fi, fl, nu)).1) (nI k) (nI j)) ((od_lp (od nm gs (7 - (k + 1)) (k + 1)) gs p2 k j (wy, fi, fl, nu)).2.1) ((od_lp (od nm gs (7 - (k + 1)) (k + 1)) gs p2 k j (wy, fi, fl, nu)).2.2.1) ((od_lp (od nm gs (7 - (k + 1)) (k + 1)) gs p2 k j (wy, fi, fl, nu)).2.2.2) nm ks gs wt mi H_68.size (p2 &&& ((1 <<< ((nI j) &&& 31)) ^^^ (-1))) (k + 1) (by first | assumption | omega) (by omega) (by omega)) (va_cwS 4 hts gX2_goOn_X2_goOn rfl rfl rfl (by decide +kernel) ⟨by show 3 + d + 1 ≤ 3 + (d + 1); omega, by show 8 + (5 + 11) + (64 + d * 24) ≤ 64 + (d + 1) * 24; omega⟩) (vz_psW hZ hPc hDc) rfl rfl hl.1 rfl (lv_room (Nat.le_of_ble_eq_true rfl)) dX2_goOn_84 ⟨Nat.zero_le _, Nat.zero_le _⟩) hS (fun q _ h => hFc q h) hFc (fun u_84 t H_84 locs_84 ht hvm hw hB hz1 hk1 hS9 => ?_)
                  rw [ht] at hB
                  replace hP : va_P D vwCl (zOrdBook cI h g ((od nm gs (7 - (k + 1)) (k + 1) (p2 &&& ((1 <<< ((nI j) &&& 31)) ^^^ (-1))) ((rw_put 6 ((od_lp (od nm gs (7 - (k + 1)) (k + 1)) gs p2 k j (wy, fi, fl, nu)).1) (nI k) (nI j)), ((od_lp (od nm gs (7 - (k + 1)) (k + 1)) gs p2 k j (wy, fi, fl, nu)).2.1), ((od_lp (od nm gs (7 - (k + 1)) (k + 1)) gs p2 k j (wy, fi, fl, nu)).2.2.1), ((od_lp (od nm gs (7 - (k + 1)) (k + 1)) gs p2 k j (wy, fi, fl, nu)).2.2.2))).1) ((od nm gs (7 - (k + 1)) (k + 1) (p2 &&& ((1 <<< ((nI j) &&& 31)) ^^^ (-1))) ((rw_put 6 ((od_lp (od nm gs (7 - (k + 1)) (k + 1)) gs p2 k j (wy, fi, fl, nu)).1) (nI k) (nI j)), ((od_lp (od nm gs (7 - (k + 1)) (k + 1)) gs p2 k j (wy, fi, fl, nu)).2.1), ((od_lp (od nm gs (7 - (k + 1)) (k + 1)) gs p2 k j (wy, fi, fl, nu)).2.2.1), ((od_lp (od nm gs (7 - (k + 1)) (k + 1)) gs p2 k j (wy, fi, fl, nu)).2.2.2))).2.1) ((od nm gs (7 - (k + 1)) (k + 1) (p2 &&& ((1 <<< ((nI j) &&& 31)) ^^^ (-1))) ((rw_put 6 ((od_lp (od nm gs (7 - (k + 1)) (k + 1)) gs p2 k j (wy, fi, fl, nu)).1) (nI k) (nI j)), ((od_lp (od nm gs (7 - (k + 1)) (k + 1)) gs p2 k j (wy, fi, fl, nu)).2.1), ((od_lp (od nm gs (7 - (k + 1)) (k + 1)) gs p2 k j (wy, fi, fl, nu)).2.2.1), ((od_lp (od nm gs (7 - (k + 1)) (k + 1)) gs p2 k j (wy, fi, fl, nu)).2.2.2))).2.2.1) ((od nm gs (7 - (k + 1)) (k + 1) (p2 &&& ((1 <<< ((nI j) &&& 31)) ^^^ (-1))) ((rw_put 6 ((od_lp (od nm gs (7 - (k + 1)) (k + 1)) gs p2 k j (wy, fi, fl, nu)).1) (nI k) (nI j)), ((od_lp (od nm gs (7 - (k + 1)) (k + 1)) gs p2 k j (wy, fi, fl, nu)).2.1), ((od_lp (od nm gs (7 - (k + 1)) (k + 1)) gs p2 k j (wy, fi, fl, nu)).2.2.1), ((od_lp (od nm gs (7 - (k + 1)) (k + 1)) gs p2 k j (wy, fi, fl, nu)).2.2.2))).2.2.2) nm ks gs wt mi) H_84 := hB
                  replace hD : va_D A (zOrdBook cI h g ((od nm gs (7 - (k + 1)) (k + 1) (p2 &&& ((1 <<< ((nI j) &&& 31)) ^^^ (-1))) ((rw_put 6 ((od_lp (od nm gs (7 - (k + 1)) (k + 1)) gs p2 k j (wy, fi, fl, nu)).1) (nI k) (nI j)), ((od_lp (od nm gs (7 - (k + 1)) (k + 1)) gs p2 k j (wy, fi, fl, nu)).2.1), ((od_lp (od nm gs (7 - (k + 1)) (k + 1)) gs p2 k j (wy, fi, fl, nu)).2.2.1), ((od_lp (od nm gs (7 - (k + 1)) (k + 1)) gs p2 k j (wy, fi, fl, nu)).2.2.2))).1) ((od nm gs (7 - (k + 1)) (k + 1) (p2 &&& ((1 <<< ((nI j) &&& 31)) ^^^ (-1))) ((rw_put 6 ((od_lp (od nm gs (7 - (k + 1)) (k + 1)) gs p2 k j (wy, fi, fl, nu)).1) (nI k) (nI j)), ((od_lp (od nm gs (7 - (k + 1)) (k + 1)) gs p2 k j (wy, fi, fl, nu)).2.1), ((od_lp (od nm gs (7 - (k + 1)) (k + 1)) gs p2 k j (wy, fi, fl, nu)).2.2.1), ((od_lp (od nm gs (7 - (k + 1)) (k + 1)) gs p2 k j (wy, fi, fl, nu)).2.2.2))).2.1) ((od nm gs (7 - (k + 1)) (k + 1) (p2 &&& ((1 <<< ((nI j) &&& 31)) ^^^ (-1))) ((rw_put 6 ((od_lp (od nm gs (7 - (k + 1)) (k + 1)) gs p2 k j (wy, fi, fl, nu)).1) (nI k) (nI j)), ((od_lp (od nm gs (7 - (k + 1)) (k + 1)) gs p2 k j (wy, fi, fl, nu)).2.1), ((od_lp (od nm gs (7 - (k + 1)) (k + 1)) gs p2 k j (wy, fi, fl, nu)).2.2.1), ((od_lp (od nm gs (7 - (k + 1)) (k + 1)) gs p2 k j (wy, fi, fl, nu)).2.2.2))).2.2.1) ((od nm gs (7 - (k + 1)) (k + 1) (p2 &&& ((1 <<< ((nI j) &&& 31)) ^^^ (-1))) ((rw_put 6 ((od_lp (od nm gs (7 - (k + 1)) (k + 1)) gs p2 k j (wy, fi, fl, nu)).1) (nI k) (nI j)), ((od_lp (od nm gs (7 - (k + 1)) (k + 1)) gs p2 k j (wy, fi, fl, nu)).2.1), ((od_lp (od nm gs (7 - (k + 1)) (k + 1)) gs p2 k j (wy, fi, fl, nu)).2.2.1), ((od_lp (od nm gs (7 - (k + 1)) (k + 1)) gs p2 k j (wy, fi, fl, nu)).2.2.2))).2.2.2) nm ks gs wt mi) := vz_same hD rfl
                  replace hS := hS9
                  clear hS9 hPc hDc hFc hB hk1 hz1
                  refine lv_iinc (v := nI (j + 1)) (lv' := [(4, .int (nI (j + 1))), (0, .ref (h 0)), (1, .ref (g 0)), (2, .int p2), (3, .int (nI k))]) hx hb dX2_goOn_87 hl (k := 0) rfl (vz_inc _) (by decide) rfl (fun ls hl => ?_)
                  refine lv_goto (tgt := 20) hx hb dX2_goOn_90 (by decide) ?_
                  have ew_wy : (od_lp (od nm gs (7 - (k + 1)) (k + 1)) gs p2 k (j + 1) (wy, fi, fl, nu)).1 = (od nm gs (7 - (k + 1)) (k + 1) (p2 &&& ((1 <<< ((nI j) &&& 31)) ^^^ (-1))) ((rw_put 6 ((od_lp (od nm gs (7 - (k + 1)) (k + 1)) gs p2 k j (wy, fi, fl, nu)).1) (nI k) (nI j)), ((od_lp (od nm gs (7 - (k + 1)) (k + 1)) gs p2 k j (wy, fi, fl, nu)).2.1), ((od_lp (od nm gs (7 - (k + 1)) (k + 1)) gs p2 k j (wy, fi, fl, nu)).2.2.1), ((od_lp (od nm gs (7 - (k + 1)) (k + 1)) gs p2 k j (wy, fi, fl, nu)).2.2.2))).1 := by simp only [od_lp, c_1, c_13, c_26, c_35, c_39, ↓reduceIte, Bool.false_eq_true]
                  have ew_fi : (od_lp (od nm gs (7 - (k + 1)) (k + 1)) gs p2 k (j + 1) (wy, fi, fl, nu)).2.1 = (od nm gs (7 - (k + 1)) (k + 1) (p2 &&& ((1 <<< ((nI j) &&& 31)) ^^^ (-1))) ((rw_put 6 ((od_lp (od nm gs (7 - (k + 1)) (k + 1)) gs p2 k j (wy, fi, fl, nu)).1) (nI k) (nI j)), ((od_lp (od nm gs (7 - (k + 1)) (k + 1)) gs p2 k j (wy, fi, fl, nu)).2.1), ((od_lp (od nm gs (7 - (k + 1)) (k + 1)) gs p2 k j (wy, fi, fl, nu)).2.2.1), ((od_lp (od nm gs (7 - (k + 1)) (k + 1)) gs p2 k j (wy, fi, fl, nu)).2.2.2))).2.1 := by simp only [od_lp, c_1, c_13, c_26, c_35, c_39, ↓reduceIte, Bool.false_eq_true]
                  have ew_fl : (od_lp (od nm gs (7 - (k + 1)) (k + 1)) gs p2 k (j + 1) (wy, fi, fl, nu)).2.2.1 = (od nm gs (7 - (k + 1)) (k + 1) (p2 &&& ((1 <<< ((nI j) &&& 31)) ^^^ (-1))) ((rw_put 6 ((od_lp (od nm gs (7 - (k + 1)) (k + 1)) gs p2 k j (wy, fi, fl, nu)).1) (nI k) (nI j)), ((od_lp (od nm gs (7 - (k + 1)) (k + 1)) gs p2 k j (wy, fi, fl, nu)).2.1), ((od_lp (od nm gs (7 - (k + 1)) (k + 1)) gs p2 k j (wy, fi, fl, nu)).2.2.1), ((od_lp (od nm gs (7 - (k + 1)) (k + 1)) gs p2 k j (wy, fi, fl, nu)).2.2.2))).2.2.1 := by simp only [od_lp, c_1, c_13, c_26, c_35, c_39, ↓reduceIte, Bool.false_eq_true]
                  have ew_nu : (od_lp (od nm gs (7 - (k + 1)) (k + 1)) gs p2 k (j + 1) (wy, fi, fl, nu)).2.2.2 = (od nm gs (7 - (k + 1)) (k + 1) (p2 &&& ((1 <<< ((nI j) &&& 31)) ^^^ (-1))) ((rw_put 6 ((od_lp (od nm gs (7 - (k + 1)) (k + 1)) gs p2 k j (wy, fi, fl, nu)).1) (nI k) (nI j)), ((od_lp (od nm gs (7 - (k + 1)) (k + 1)) gs p2 k j (wy, fi, fl, nu)).2.1), ((od_lp (od nm gs (7 - (k + 1)) (k + 1)) gs p2 k j (wy, fi, fl, nu)).2.2.1), ((od_lp (od nm gs (7 - (k + 1)) (k + 1)) gs p2 k j (wy, fi, fl, nu)).2.2.2))).2.2.2 := by simp only [od_lp, c_1, c_13, c_26, c_35, c_39, ↓reduceIte, Bool.false_eq_true]
                  replace hP : va_P D vwCl (zOrdBook cI h g ((od_lp (od nm gs (7 - (k + 1)) (k + 1)) gs p2 k (j + 1) (wy, fi, fl, nu)).1) ((od_lp (od nm gs (7 - (k + 1)) (k + 1)) gs p2 k (j + 1) (wy, fi, fl, nu)).2.1) ((od_lp (od nm gs (7 - (k + 1)) (k + 1)) gs p2 k (j + 1) (wy, fi, fl, nu)).2.2.1) ((od_lp (od nm gs (7 - (k + 1)) (k + 1)) gs p2 k (j + 1) (wy, fi, fl, nu)).2.2.2) nm ks gs wt mi) H_84 := by rw [ew_wy, ew_fi, ew_fl, ew_nu]; exact hP
                  replace hD : va_D A (zOrdBook cI h g ((od_lp (od nm gs (7 - (k + 1)) (k + 1)) gs p2 k (j + 1) (wy, fi, fl, nu)).1) ((od_lp (od nm gs (7 - (k + 1)) (k + 1)) gs p2 k (j + 1) (wy, fi, fl, nu)).2.1) ((od_lp (od nm gs (7 - (k + 1)) (k + 1)) gs p2 k (j + 1) (wy, fi, fl, nu)).2.2.1) ((od_lp (od nm gs (7 - (k + 1)) (k + 1)) gs p2 k (j + 1) (wy, fi, fl, nu)).2.2.2) nm ks gs wt mi) := vz_same hD rfl
                  exact ih_20 (j + 1) _ _ (by omega) (by omega) hP hD hS ls (lv_sub hl [0, 1, 2, 3, 4] rfl)
                · skip
                  refine lv_aload_n hx hb dX2_goOn_42 rfl (lv_at hl 2 rfl) ?_
                  refine lv_iload hx hb dX2_goOn_43 (lv_at hl 0 rfl) ?_
                  refine lv_aload_n hx hb dX2_goOn_45 rfl (lv_at hl 1 rfl) ?_
                  refine va_get (D := D) (ci := 2) (v := .ref (h 1)) (C := RX2) (T := TX2) (N := 4) hx hb hts iX2 hown hK hP 0 rfl rfl 0 (by decide) k14 (fun _ h9 => h9) rfl dX2_goOn_46 ?_
                  refine lv_iload_n hx hb dX2_goOn_49 rfl (lv_at hl 4 rfl) ?_
                  refine lv_iconst (v := 1) hx hb dX2_goOn_50 (by decide) ?_
                  refine lv_isub hx hb dX2_goOn_51 ?_
                  refine vp_callSi (W.runV (As := [.int ((nI k) - 1)]) (rest := [.int (nI j), .ref (g 0)]) ⟨hx, hb, hml, hown, hts⟩ (c_X5_at l D cI (h 1) (h 2) 6 ((od_lp (od nm gs (7 - (k + 1)) (k + 1)) gs p2 k j (wy, fi, fl, nu)).1) ((nI k) - 1) (by decide)) (cwV 1 hts gX2_goOn_X5_at rfl rfl rfl (by decide +kernel) ⟨by show 0 + 1 ≤ 3 + (d + 1); omega, by show 8 + (2 + 11) + 0 ≤ 64 + (d + 1) * 24; omega⟩) (vz_pvR (va_recv hK hP (ci := 5) (q0 := 1) rfl rfl) hZ (hP.sub (ws' := (zRow cI (h 1) (h 2) 6 ((od_lp (od nm gs (7 - (k + 1)) (k + 1)) gs p2 k j (wy, fi, fl, nu)).1))) [1, 2] rfl)) rfl rfl hl.1 rfl (lv_room (Nat.le_of_ble_eq_true rfl)) dX2_goOn_52 ⟨Nat.zero_le _, Nat.zero_le _⟩) (fun r_52 hr_52 => ?_)
                  subst hr_52
                  refine vp_callSi (W.runS (As := [.ref (g 0), .int (nI j), .int (rw_at 6 ((od_lp (od nm gs (7 - (k + 1)) (k + 1)) gs p2 k j (wy, fi, fl, nu)).1) ((nI k) - 1))]) (rest := []) ⟨hx, hb, hml, hown, hts⟩ (c_X2_unlikeSingers l D cI g nm ks gs wt mi (nI j) (rw_at 6 ((od_lp (od nm gs (7 - (k + 1)) (k + 1)) gs p2 k j (wy, fi, fl, nu)).1) ((nI k) - 1))) (va_cwS 3 hts gX2_goOn_X2_unlikeSingers rfl rfl rfl (by decide +kernel) ⟨by show 1 + 1 ≤ 3 + (d + 1); omega, by show 8 + (3 + 11) + 21 ≤ 64 + (d + 1) * 24; omega⟩) (vz_psR hZ (hP.sub (ws' := (zBook cI g nm ks gs wt mi)) [5, 6, 7, 8, 9, 10, 11, 12, 13] rfl)) rfl rfl hl.1 rfl (lv_room (Nat.le_of_ble_eq_true rfl)) dX2_goOn_55 ⟨Nat.zero_le _, Nat.zero_le _⟩) (fun r_55 hr_55 => ?_)
                  subst hr_55
                  refine lv_if_eq (tgt := 87) hx hb dX2_goOn_58 (by decide) (fun c_58 => ?_) (fun c_58 => ?_)
                  · skip
                    replace c_58 := vz_b0 c_58
                    refine lv_iinc (v := nI (j + 1)) (lv' := [(4, .int (nI (j + 1))), (0, .ref (h 0)), (1, .ref (g 0)), (2, .int p2), (3, .int (nI k))]) hx hb dX2_goOn_87 hl (k := 0) rfl (vz_inc _) (by decide) rfl (fun ls hl => ?_)
                    refine lv_goto (tgt := 20) hx hb dX2_goOn_90 (by decide) ?_
                    have ew_wy : (od_lp (od nm gs (7 - (k + 1)) (k + 1)) gs p2 k (j + 1) (wy, fi, fl, nu)).1 = (od_lp (od nm gs (7 - (k + 1)) (k + 1)) gs p2 k j (wy, fi, fl, nu)).1 := by simp only [od_lp, c_1, c_13, c_26, c_35, c_39, c_58, ↓reduceIte, Bool.false_eq_true]
                    have ew_fi : (od_lp (od nm gs (7 - (k + 1)) (k + 1)) gs p2 k (j + 1) (wy, fi, fl, nu)).2.1 = (od_lp (od nm gs (7 - (k + 1)) (k + 1)) gs p2 k j (wy, fi, fl, nu)).2.1 := by simp only [od_lp, c_1, c_13, c_26, c_35, c_39, c_58, ↓reduceIte, Bool.false_eq_true]
                    have ew_fl : (od_lp (od nm gs (7 - (k + 1)) (k + 1)) gs p2 k (j + 1) (wy, fi, fl, nu)).2.2.1 = (od_lp (od nm gs (7 - (k + 1)) (k + 1)) gs p2 k j (wy, fi, fl, nu)).2.2.1 := by simp only [od_lp, c_1, c_13, c_26, c_35, c_39, c_58, ↓reduceIte, Bool.false_eq_true]
                    have ew_nu : (od_lp (od nm gs (7 - (k + 1)) (k + 1)) gs p2 k (j + 1) (wy, fi, fl, nu)).2.2.2 = (od_lp (od nm gs (7 - (k + 1)) (k + 1)) gs p2 k j (wy, fi, fl, nu)).2.2.2 := by simp only [od_lp, c_1, c_13, c_26, c_35, c_39, c_58, ↓reduceIte, Bool.false_eq_true]
                    replace hP : va_P D vwCl (zOrdBook cI h g ((od_lp (od nm gs (7 - (k + 1)) (k + 1)) gs p2 k (j + 1) (wy, fi, fl, nu)).1) ((od_lp (od nm gs (7 - (k + 1)) (k + 1)) gs p2 k (j + 1) (wy, fi, fl, nu)).2.1) ((od_lp (od nm gs (7 - (k + 1)) (k + 1)) gs p2 k (j + 1) (wy, fi, fl, nu)).2.2.1) ((od_lp (od nm gs (7 - (k + 1)) (k + 1)) gs p2 k (j + 1) (wy, fi, fl, nu)).2.2.2) nm ks gs wt mi) H_20 := by rw [ew_wy, ew_fi, ew_fl, ew_nu]; exact hP
                    replace hD : va_D A (zOrdBook cI h g ((od_lp (od nm gs (7 - (k + 1)) (k + 1)) gs p2 k (j + 1) (wy, fi, fl, nu)).1) ((od_lp (od nm gs (7 - (k + 1)) (k + 1)) gs p2 k (j + 1) (wy, fi, fl, nu)).2.1) ((od_lp (od nm gs (7 - (k + 1)) (k + 1)) gs p2 k (j + 1) (wy, fi, fl, nu)).2.2.1) ((od_lp (od nm gs (7 - (k + 1)) (k + 1)) gs p2 k (j + 1) (wy, fi, fl, nu)).2.2.2) nm ks gs wt mi) := vz_same hD rfl
                    exact ih_20 (j + 1) _ _ (by omega) (by omega) hP hD hS ls (lv_sub hl [0, 1, 2, 3, 4] rfl)
                  · skip
                    replace c_58 := vz_b1 c_58
                    refine lv_aload_n hx hb dX2_goOn_61 rfl (lv_at hl 1 rfl) ?_
                    refine va_get (D := D) (ci := 2) (v := .ref (h 1)) (C := RX2) (T := TX2) (N := 4) hx hb hts iX2 hown hK hP 0 rfl rfl 0 (by decide) k14 (fun _ h9 => h9) rfl dX2_goOn_62 ?_
                    refine lv_iload_n hx hb dX2_goOn_65 rfl (lv_at hl 4 rfl) ?_
                    refine lv_iload hx hb dX2_goOn_66 (lv_at hl 0 rfl) ?_
                    have hPc := (hP.sub (ws' := (zRow cI (h 1) (h 2) 6 ((od_lp (od nm gs (7 - (k + 1)) (k + 1)) gs p2 k j (wy, fi, fl, nu)).1))) [1, 2] rfl)
                    have hDc := hD.sub (ws' := (zRow cI (h 1) (h 2) 6 ((od_lp (od nm gs (7 - (k + 1)) (k + 1)) gs p2 k j (wy, fi, fl, nu)).1))) [1, 2] rfl rfl
                    have hFc := va_free (wc := (zRow cI (h 1) (h 2) 6 ((od_lp (od nm gs (7 - (k + 1)) (k + 1)) gs p2 k j (wy, fi, fl, nu)).1))) hD hS hA [1, 2] rfl
                    refine va_callv (va_runV (As := [.int (nI k), .int (nI j)]) (rest := []) ⟨hx, hb, hml, hown, hts⟩ (c_X5_put l D cI (h 1) (h 2) 6 ((od_lp (od nm gs (7 - (k + 1)) (k + 1)) gs p2 k j (wy, fi, fl, nu)).1) H_20.size (nI k) (nI j) (by decide)) (cwV 2 hts gX2_goOn_X5_put rfl rfl rfl (by decide +kernel) ⟨by show 0 + 1 ≤ 3 + (d + 1); omega, by show 8 + (3 + 11) + 0 ≤ 64 + (d + 1) * 24; omega⟩) (vz_pvW (va_recv hK hP (ci := 5) (q0 := 1) rfl rfl) hZ hPc hDc) rfl rfl hl.1 rfl (lv_room (Nat.le_of_ble_eq_true rfl)) dX2_goOn_68 ⟨Nat.zero_le _, Nat.zero_le _⟩) hS (fun q _ h => hFc q h) hFc (fun u_68 t H_68 locs_68 ht hvm hw hB hz1 hk1 hS9 => ?_)
                    rw [ht] at hB
                    replace hP : va_P D vwCl (zOrdBook cI h g (rw_put 6 ((od_lp (od nm gs (7 - (k + 1)) (k + 1)) gs p2 k j (wy, fi, fl, nu)).1) (nI k) (nI j)) ((od_lp (od nm gs (7 - (k + 1)) (k + 1)) gs p2 k j (wy, fi, fl, nu)).2.1) ((od_lp (od nm gs (7 - (k + 1)) (k + 1)) gs p2 k j (wy, fi, fl, nu)).2.2.1) ((od_lp (od nm gs (7 - (k + 1)) (k + 1)) gs p2 k j (wy, fi, fl, nu)).2.2.2) nm ks gs wt mi) H_68 := vz_join (w1 := (zRow cI (h 1) (h 2) 6 (rw_put 6 ((od_lp (od nm gs (7 - (k + 1)) (k + 1)) gs p2 k j (wy, fi, fl, nu)).1) (nI k) (nI j)))) hP hD [1, 2] rfl rfl hk1 hB
                    replace hD : va_D A (zOrdBook cI h g (rw_put 6 ((od_lp (od nm gs (7 - (k + 1)) (k + 1)) gs p2 k j (wy, fi, fl, nu)).1) (nI k) (nI j)) ((od_lp (od nm gs (7 - (k + 1)) (k + 1)) gs p2 k j (wy, fi, fl, nu)).2.1) ((od_lp (od nm gs (7 - (k + 1)) (k + 1)) gs p2 k j (wy, fi, fl, nu)).2.2.1) ((od_lp (od nm gs (7 - (k + 1)) (k + 1)) gs p2 k j (wy, fi, fl, nu)).2.2.2) nm ks gs wt mi) := vz_same hD rfl
                    replace hS := hS9
                    clear hS9 hPc hDc hFc hB hk1 hz1
                    refine lv_aload_n hx hb dX2_goOn_71 rfl (lv_at hl 1 rfl) ?_
                    refine lv_aload_n hx hb dX2_goOn_72 rfl (lv_at hl 2 rfl) ?_
                    refine lv_iload_n hx hb dX2_goOn_73 rfl (lv_at hl 3 rfl) ?_
                    refine lv_iconst (v := 1) hx hb dX2_goOn_74 (by decide) ?_
                    refine lv_iload hx hb dX2_goOn_75 (lv_at hl 0 rfl) ?_
                    refine lv_ishl hx hb dX2_goOn_77 ?_
                    refine lv_iconst (v := (-1)) hx hb dX2_goOn_78 (by decide) ?_
                    refine lv_ixor hx hb dX2_goOn_79 ?_
                    refine lv_iand hx hb dX2_goOn_80 ?_
                    refine lv_iload_n hx hb dX2_goOn_81 rfl (lv_at hl 4 rfl) ?_
                    refine lv_iconst (v := 1) hx hb dX2_goOn_82 (by decide) ?_
                    refine lv_iadd hx hb dX2_goOn_83 ?_
                    refine W.eq (congrArg (fun z => F0 m 84 ls (.int z :: [.int (p2 &&& ((1 <<< ((nI j) &&& 31)) ^^^ (-1))), .ref (g 0), .ref (h 0)])) (nI_add k 1 : (nI k) + 1 = nI (k + 1))) ?_
                    have hPc := hP
                    have hDc := hD
                    have hFc : ∀ q, va_A (zOrdBook cI h g (rw_put 6 ((od_lp (od nm gs (7 - (k + 1)) (k + 1)) gs p2 k j (wy, fi, fl, nu)).1) (nI k) (nI j)) ((od_lp (od nm gs (7 - (k + 1)) (k + 1)) gs p2 k j (wy, fi, fl, nu)).2.1) ((od_lp (od nm gs (7 - (k + 1)) (k + 1)) gs p2 k j (wy, fi, fl, nu)).2.2.1) ((od_lp (od nm gs (7 - (k + 1)) (k + 1)) gs p2 k j (wy, fi, fl, nu)).2.2.2) nm ks gs wt mi) H_68.size q → A q := vz_freeAll hD hS hA
                    refine va_callv (va_runS (As := [.ref (h 0), .ref (g 0), .int (p2 &&& ((1 <<< ((nI j) &&& 31)) ^^^ (-1))), .int (nI (k + 1))]) (rest := []) ⟨hx, hb, hml, hown, hts⟩ (ih_rec D cI h g (rw_put 6 ((od_lp (od nm gs (7 - (k + 1)) (k + 1)) gs p2 k j (wy, fi, fl, nu)).1) (nI k) (nI j)) ((od_lp (od nm gs (7 - (k + 1)) (k + 1)) gs p2 k j (wy, fi, fl, nu)).2.1) ((od_lp (od nm gs (7 - (k + 1)) (k + 1)) gs p2 k j (wy, fi, fl, nu)).2.2.1) ((od_lp (od nm gs (7 - (k + 1)) (k + 1)) gs p2 k j (wy, fi, fl, nu)).2.2.2) nm ks gs wt mi H_68.size (p2 &&& ((1 <<< ((nI j) &&& 31)) ^^^ (-1))) (k + 1) (by first | assumption | omega) (by omega) (by omega)) (va_cwS 4 hts gX2_goOn_X2_goOn rfl rfl rfl (by decide +kernel) ⟨by show 3 + d + 1 ≤ 3 + (d + 1); omega, by show 8 + (5 + 11) + (64 + d * 24) ≤ 64 + (d + 1) * 24; omega⟩) (vz_psW hZ hPc hDc) rfl rfl hl.1 rfl (lv_room (Nat.le_of_ble_eq_true rfl)) dX2_goOn_84 ⟨Nat.zero_le _, Nat.zero_le _⟩) hS (fun q _ h => hFc q h) hFc (fun u_84 t H_84 locs_84 ht hvm hw hB hz1 hk1 hS9 => ?_)
                    rw [ht] at hB
                    replace hP : va_P D vwCl (zOrdBook cI h g ((od nm gs (7 - (k + 1)) (k + 1) (p2 &&& ((1 <<< ((nI j) &&& 31)) ^^^ (-1))) ((rw_put 6 ((od_lp (od nm gs (7 - (k + 1)) (k + 1)) gs p2 k j (wy, fi, fl, nu)).1) (nI k) (nI j)), ((od_lp (od nm gs (7 - (k + 1)) (k + 1)) gs p2 k j (wy, fi, fl, nu)).2.1), ((od_lp (od nm gs (7 - (k + 1)) (k + 1)) gs p2 k j (wy, fi, fl, nu)).2.2.1), ((od_lp (od nm gs (7 - (k + 1)) (k + 1)) gs p2 k j (wy, fi, fl, nu)).2.2.2))).1) ((od nm gs (7 - (k + 1)) (k + 1) (p2 &&& ((1 <<< ((nI j) &&& 31)) ^^^ (-1))) ((rw_put 6 ((od_lp (od nm gs (7 - (k + 1)) (k + 1)) gs p2 k j (wy, fi, fl, nu)).1) (nI k) (nI j)), ((od_lp (od nm gs (7 - (k + 1)) (k + 1)) gs p2 k j (wy, fi, fl, nu)).2.1), ((od_lp (od nm gs (7 - (k + 1)) (k + 1)) gs p2 k j (wy, fi, fl, nu)).2.2.1), ((od_lp (od nm gs (7 - (k + 1)) (k + 1)) gs p2 k j (wy, fi, fl, nu)).2.2.2))).2.1) ((od nm gs (7 - (k + 1)) (k + 1) (p2 &&& ((1 <<< ((nI j) &&& 31)) ^^^ (-1))) ((rw_put 6 ((od_lp (od nm gs (7 - (k + 1)) (k + 1)) gs p2 k j (wy, fi, fl, nu)).1) (nI k) (nI j)), ((od_lp (od nm gs (7 - (k + 1)) (k + 1)) gs p2 k j (wy, fi, fl, nu)).2.1), ((od_lp (od nm gs (7 - (k + 1)) (k + 1)) gs p2 k j (wy, fi, fl, nu)).2.2.1), ((od_lp (od nm gs (7 - (k + 1)) (k + 1)) gs p2 k j (wy, fi, fl, nu)).2.2.2))).2.2.1) ((od nm gs (7 - (k + 1)) (k + 1) (p2 &&& ((1 <<< ((nI j) &&& 31)) ^^^ (-1))) ((rw_put 6 ((od_lp (od nm gs (7 - (k + 1)) (k + 1)) gs p2 k j (wy, fi, fl, nu)).1) (nI k) (nI j)), ((od_lp (od nm gs (7 - (k + 1)) (k + 1)) gs p2 k j (wy, fi, fl, nu)).2.1), ((od_lp (od nm gs (7 - (k + 1)) (k + 1)) gs p2 k j (wy, fi, fl, nu)).2.2.1), ((od_lp (od nm gs (7 - (k + 1)) (k + 1)) gs p2 k j (wy, fi, fl, nu)).2.2.2))).2.2.2) nm ks gs wt mi) H_84 := hB
                    replace hD : va_D A (zOrdBook cI h g ((od nm gs (7 - (k + 1)) (k + 1) (p2 &&& ((1 <<< ((nI j) &&& 31)) ^^^ (-1))) ((rw_put 6 ((od_lp (od nm gs (7 - (k + 1)) (k + 1)) gs p2 k j (wy, fi, fl, nu)).1) (nI k) (nI j)), ((od_lp (od nm gs (7 - (k + 1)) (k + 1)) gs p2 k j (wy, fi, fl, nu)).2.1), ((od_lp (od nm gs (7 - (k + 1)) (k + 1)) gs p2 k j (wy, fi, fl, nu)).2.2.1), ((od_lp (od nm gs (7 - (k + 1)) (k + 1)) gs p2 k j (wy, fi, fl, nu)).2.2.2))).1) ((od nm gs (7 - (k + 1)) (k + 1) (p2 &&& ((1 <<< ((nI j) &&& 31)) ^^^ (-1))) ((rw_put 6 ((od_lp (od nm gs (7 - (k + 1)) (k + 1)) gs p2 k j (wy, fi, fl, nu)).1) (nI k) (nI j)), ((od_lp (od nm gs (7 - (k + 1)) (k + 1)) gs p2 k j (wy, fi, fl, nu)).2.1), ((od_lp (od nm gs (7 - (k + 1)) (k + 1)) gs p2 k j (wy, fi, fl, nu)).2.2.1), ((od_lp (od nm gs (7 - (k + 1)) (k + 1)) gs p2 k j (wy, fi, fl, nu)).2.2.2))).2.1) ((od nm gs (7 - (k + 1)) (k + 1) (p2 &&& ((1 <<< ((nI j) &&& 31)) ^^^ (-1))) ((rw_put 6 ((od_lp (od nm gs (7 - (k + 1)) (k + 1)) gs p2 k j (wy, fi, fl, nu)).1) (nI k) (nI j)), ((od_lp (od nm gs (7 - (k + 1)) (k + 1)) gs p2 k j (wy, fi, fl, nu)).2.1), ((od_lp (od nm gs (7 - (k + 1)) (k + 1)) gs p2 k j (wy, fi, fl, nu)).2.2.1), ((od_lp (od nm gs (7 - (k + 1)) (k + 1)) gs p2 k j (wy, fi, fl, nu)).2.2.2))).2.2.1) ((od nm gs (7 - (k + 1)) (k + 1) (p2 &&& ((1 <<< ((nI j) &&& 31)) ^^^ (-1))) ((rw_put 6 ((od_lp (od nm gs (7 - (k + 1)) (k + 1)) gs p2 k j (wy, fi, fl, nu)).1) (nI k) (nI j)), ((od_lp (od nm gs (7 - (k + 1)) (k + 1)) gs p2 k j (wy, fi, fl, nu)).2.1), ((od_lp (od nm gs (7 - (k + 1)) (k + 1)) gs p2 k j (wy, fi, fl, nu)).2.2.1), ((od_lp (od nm gs (7 - (k + 1)) (k + 1)) gs p2 k j (wy, fi, fl, nu)).2.2.2))).2.2.2) nm ks gs wt mi) := vz_same hD rfl
                    replace hS := hS9
                    clear hS9 hPc hDc hFc hB hk1 hz1
                    refine lv_iinc (v := nI (j + 1)) (lv' := [(4, .int (nI (j + 1))), (0, .ref (h 0)), (1, .ref (g 0)), (2, .int p2), (3, .int (nI k))]) hx hb dX2_goOn_87 hl (k := 0) rfl (vz_inc _) (by decide) rfl (fun ls hl => ?_)
                    refine lv_goto (tgt := 20) hx hb dX2_goOn_90 (by decide) ?_
                    have ew_wy : (od_lp (od nm gs (7 - (k + 1)) (k + 1)) gs p2 k (j + 1) (wy, fi, fl, nu)).1 = (od nm gs (7 - (k + 1)) (k + 1) (p2 &&& ((1 <<< ((nI j) &&& 31)) ^^^ (-1))) ((rw_put 6 ((od_lp (od nm gs (7 - (k + 1)) (k + 1)) gs p2 k j (wy, fi, fl, nu)).1) (nI k) (nI j)), ((od_lp (od nm gs (7 - (k + 1)) (k + 1)) gs p2 k j (wy, fi, fl, nu)).2.1), ((od_lp (od nm gs (7 - (k + 1)) (k + 1)) gs p2 k j (wy, fi, fl, nu)).2.2.1), ((od_lp (od nm gs (7 - (k + 1)) (k + 1)) gs p2 k j (wy, fi, fl, nu)).2.2.2))).1 := by simp only [od_lp, c_1, c_13, c_26, c_35, c_39, c_58, ↓reduceIte, Bool.false_eq_true]
                    have ew_fi : (od_lp (od nm gs (7 - (k + 1)) (k + 1)) gs p2 k (j + 1) (wy, fi, fl, nu)).2.1 = (od nm gs (7 - (k + 1)) (k + 1) (p2 &&& ((1 <<< ((nI j) &&& 31)) ^^^ (-1))) ((rw_put 6 ((od_lp (od nm gs (7 - (k + 1)) (k + 1)) gs p2 k j (wy, fi, fl, nu)).1) (nI k) (nI j)), ((od_lp (od nm gs (7 - (k + 1)) (k + 1)) gs p2 k j (wy, fi, fl, nu)).2.1), ((od_lp (od nm gs (7 - (k + 1)) (k + 1)) gs p2 k j (wy, fi, fl, nu)).2.2.1), ((od_lp (od nm gs (7 - (k + 1)) (k + 1)) gs p2 k j (wy, fi, fl, nu)).2.2.2))).2.1 := by simp only [od_lp, c_1, c_13, c_26, c_35, c_39, c_58, ↓reduceIte, Bool.false_eq_true]
                    have ew_fl : (od_lp (od nm gs (7 - (k + 1)) (k + 1)) gs p2 k (j + 1) (wy, fi, fl, nu)).2.2.1 = (od nm gs (7 - (k + 1)) (k + 1) (p2 &&& ((1 <<< ((nI j) &&& 31)) ^^^ (-1))) ((rw_put 6 ((od_lp (od nm gs (7 - (k + 1)) (k + 1)) gs p2 k j (wy, fi, fl, nu)).1) (nI k) (nI j)), ((od_lp (od nm gs (7 - (k + 1)) (k + 1)) gs p2 k j (wy, fi, fl, nu)).2.1), ((od_lp (od nm gs (7 - (k + 1)) (k + 1)) gs p2 k j (wy, fi, fl, nu)).2.2.1), ((od_lp (od nm gs (7 - (k + 1)) (k + 1)) gs p2 k j (wy, fi, fl, nu)).2.2.2))).2.2.1 := by simp only [od_lp, c_1, c_13, c_26, c_35, c_39, c_58, ↓reduceIte, Bool.false_eq_true]
                    have ew_nu : (od_lp (od nm gs (7 - (k + 1)) (k + 1)) gs p2 k (j + 1) (wy, fi, fl, nu)).2.2.2 = (od nm gs (7 - (k + 1)) (k + 1) (p2 &&& ((1 <<< ((nI j) &&& 31)) ^^^ (-1))) ((rw_put 6 ((od_lp (od nm gs (7 - (k + 1)) (k + 1)) gs p2 k j (wy, fi, fl, nu)).1) (nI k) (nI j)), ((od_lp (od nm gs (7 - (k + 1)) (k + 1)) gs p2 k j (wy, fi, fl, nu)).2.1), ((od_lp (od nm gs (7 - (k + 1)) (k + 1)) gs p2 k j (wy, fi, fl, nu)).2.2.1), ((od_lp (od nm gs (7 - (k + 1)) (k + 1)) gs p2 k j (wy, fi, fl, nu)).2.2.2))).2.2.2 := by simp only [od_lp, c_1, c_13, c_26, c_35, c_39, c_58, ↓reduceIte, Bool.false_eq_true]
                    replace hP : va_P D vwCl (zOrdBook cI h g ((od_lp (od nm gs (7 - (k + 1)) (k + 1)) gs p2 k (j + 1) (wy, fi, fl, nu)).1) ((od_lp (od nm gs (7 - (k + 1)) (k + 1)) gs p2 k (j + 1) (wy, fi, fl, nu)).2.1) ((od_lp (od nm gs (7 - (k + 1)) (k + 1)) gs p2 k (j + 1) (wy, fi, fl, nu)).2.2.1) ((od_lp (od nm gs (7 - (k + 1)) (k + 1)) gs p2 k (j + 1) (wy, fi, fl, nu)).2.2.2) nm ks gs wt mi) H_84 := by rw [ew_wy, ew_fi, ew_fl, ew_nu]; exact hP
                    replace hD : va_D A (zOrdBook cI h g ((od_lp (od nm gs (7 - (k + 1)) (k + 1)) gs p2 k (j + 1) (wy, fi, fl, nu)).1) ((od_lp (od nm gs (7 - (k + 1)) (k + 1)) gs p2 k (j + 1) (wy, fi, fl, nu)).2.1) ((od_lp (od nm gs (7 - (k + 1)) (k + 1)) gs p2 k (j + 1) (wy, fi, fl, nu)).2.2.1) ((od_lp (od nm gs (7 - (k + 1)) (k + 1)) gs p2 k (j + 1) (wy, fi, fl, nu)).2.2.2) nm ks gs wt mi) := vz_same hD rfl
                    exact ih_20 (j + 1) _ _ (by omega) (by omega) hP hD hS ls (lv_sub hl [0, 1, 2, 3, 4] rfl)
        have ew_wy : (od_lp (od nm gs (7 - (k + 1)) (k + 1)) gs p2 k 0 (wy, fi, fl, nu)).1 = wy := by rfl
        have ew_fi : (od_lp (od nm gs (7 - (k + 1)) (k + 1)) gs p2 k 0 (wy, fi, fl, nu)).2.1 = fi := by rfl
        have ew_fl : (od_lp (od nm gs (7 - (k + 1)) (k + 1)) gs p2 k 0 (wy, fi, fl, nu)).2.2.1 = fl := by rfl
        have ew_nu : (od_lp (od nm gs (7 - (k + 1)) (k + 1)) gs p2 k 0 (wy, fi, fl, nu)).2.2.2 = nu := by rfl
        replace hP : va_P D vwCl (zOrdBook cI h g ((od_lp (od nm gs (7 - (k + 1)) (k + 1)) gs p2 k 0 (wy, fi, fl, nu)).1) ((od_lp (od nm gs (7 - (k + 1)) (k + 1)) gs p2 k 0 (wy, fi, fl, nu)).2.1) ((od_lp (od nm gs (7 - (k + 1)) (k + 1)) gs p2 k 0 (wy, fi, fl, nu)).2.2.1) ((od_lp (od nm gs (7 - (k + 1)) (k + 1)) gs p2 k 0 (wy, fi, fl, nu)).2.2.2) nm ks gs wt mi) s.heap := by rw [ew_wy, ew_fi, ew_fl, ew_nu]; exact hP
        replace hD : va_D A (zOrdBook cI h g ((od_lp (od nm gs (7 - (k + 1)) (k + 1)) gs p2 k 0 (wy, fi, fl, nu)).1) ((od_lp (od nm gs (7 - (k + 1)) (k + 1)) gs p2 k 0 (wy, fi, fl, nu)).2.1) ((od_lp (od nm gs (7 - (k + 1)) (k + 1)) gs p2 k 0 (wy, fi, fl, nu)).2.2.1) ((od_lp (od nm gs (7 - (k + 1)) (k + 1)) gs p2 k 0 (wy, fi, fl, nu)).2.2.2) nm ks gs wt mi) := vz_same hD rfl
        exact L_20 _ 0 _ _ (Nat.lt_succ_self _) (Nat.zero_le _) hP hD hS ls (lv_sub hl [0, 1, 2, 3, 4] rfl)
      · skip
        have hk5 : ¬ k < 6 := fun q => c_13 (nI_lt (b := 6) q (by omega))
        have en_wy : (od nm gs (7 - k) k p2 (wy, fi, fl, nu)).1 = wy := by rw [od_six hk6 c_1 hk5]
        have en_fi : (od nm gs (7 - k) k p2 (wy, fi, fl, nu)).2.1 = fi := by rw [od_six hk6 c_1 hk5]
        have en_fl : (od nm gs (7 - k) k p2 (wy, fi, fl, nu)).2.2.1 = fl := by rw [od_six hk6 c_1 hk5]
        have en_nu : (od nm gs (7 - k) k p2 (wy, fi, fl, nu)).2.2.2 = nu := by rw [od_six hk6 c_1 hk5]
        exact W.vret hx hb hr (fun t ht hW => ⟨⟨(), rfl, trivial, (by show va_P D vwCl (zOrdBook cI h g ((od nm gs (7 - k) k p2 (wy, fi, fl, nu)).1) ((od nm gs (7 - k) k p2 (wy, fi, fl, nu)).2.1) ((od nm gs (7 - k) k p2 (wy, fi, fl, nu)).2.2.1) ((od nm gs (7 - k) k p2 (wy, fi, fl, nu)).2.2.2) nm ks gs wt mi) t.heap; rw [ht, en_wy, en_fi, en_fl, en_nu]; exact hP)⟩, hS.F ht⟩) hS.2.2 dX2_goOn_16
    · skip
      refine lv_aload_n hx hb dX2_goOn_4 rfl (lv_at hl 0 rfl) ?_
      refine lv_iload_n hx hb dX2_goOn_5 rfl (lv_at hl 3 rfl) ?_
      have hPc := (hP.sub (ws' := (zOrd cI h wy fi fl nu)) [0, 1, 2, 3, 4] rfl)
      have hDc := hD.sub (ws' := (zOrd cI h wy fi fl nu)) [0, 1, 2, 3, 4] rfl rfl
      have hFc := va_free (wc := (zOrd cI h wy fi fl nu)) hD hS hA [0, 1, 2, 3, 4] rfl
      refine va_callv (va_runV (As := [.int (nI k)]) (rest := []) ⟨hx, hb, hml, hown, hts⟩ (c_X2_take l D cI h wy fi fl nu s.heap.size (nI k)) (cwV 1 hts gX2_goOn_X2_take rfl rfl rfl (by decide +kernel) ⟨by show 2 + 1 ≤ 3 + (d + 1); omega, by show 8 + (2 + 11) + 43 ≤ 64 + (d + 1) * 24; omega⟩) (vz_pvW (va_recv hK hP (ci := 2) (q0 := 0) rfl rfl) hZ hPc hDc) rfl rfl hl.1 rfl (lv_room (Nat.le_of_ble_eq_true rfl)) dX2_goOn_6 ⟨Nat.zero_le _, Nat.zero_le _⟩) hS (fun q _ h => hFc q h) hFc (fun u_6 t H_6 locs_6 ht hvm hw hB hz1 hk1 hS9 => ?_)
      rw [ht] at hB
      replace hP : va_P D vwCl (zOrdBook cI h g wy (od_tf wy fi nu) (od_tl fl nu (nI k)) (nu + 1) nm ks gs wt mi) H_6 := vz_join (w1 := (zOrd cI h wy (od_tf wy fi nu) (od_tl fl nu (nI k)) (nu + 1))) hP hD [0, 1, 2, 3, 4] rfl rfl hk1 hB
      replace hD : va_D A (zOrdBook cI h g wy (od_tf wy fi nu) (od_tl fl nu (nI k)) (nu + 1) nm ks gs wt mi) := vz_same hD rfl
      replace hS := hS9
      clear hS9 hPc hDc hFc hB hk1 hz1
      have en_wy : (od nm gs (7 - k) k p2 (wy, fi, fl, nu)).1 = wy := by rw [od_end hk6 c_1]
      have en_fi : (od nm gs (7 - k) k p2 (wy, fi, fl, nu)).2.1 = od_tf wy fi nu := by rw [od_end hk6 c_1]
      have en_fl : (od nm gs (7 - k) k p2 (wy, fi, fl, nu)).2.2.1 = od_tl fl nu (nI k) := by rw [od_end hk6 c_1]
      have en_nu : (od nm gs (7 - k) k p2 (wy, fi, fl, nu)).2.2.2 = nu + 1 := by rw [od_end hk6 c_1]
      exact W.vret hx hb hr (fun t ht hW => ⟨⟨(), rfl, trivial, (by show va_P D vwCl (zOrdBook cI h g ((od nm gs (7 - k) k p2 (wy, fi, fl, nu)).1) ((od nm gs (7 - k) k p2 (wy, fi, fl, nu)).2.1) ((od nm gs (7 - k) k p2 (wy, fi, fl, nu)).2.2.1) ((od nm gs (7 - k) k p2 (wy, fi, fl, nu)).2.2.2) nm ks gs wt mi) t.heap; rw [ht, en_wy, en_fi, en_fl, en_nu]; exact hP)⟩, hS.F ht⟩) hS.2.2 dX2_goOn_9
set_option maxHeartbeats 4000000 in
set_option maxRecDepth 100000 in
theorem c_X2_findAll (l : Launch) (D : va_G) (cI : ClassId) (h : Nat → Nat) (g : Nat → Nat) (wy : Nat → Int32) (fi : Nat → Int32) (fl : Int32) (nu : Int32) (nm : Nat) (ks : Nat → Int32) (gs : Nat → Int32) (wt : Nat → Int32) (mi : Nat → Int32) (sz : Nat) (p1 : Int32) (hnm : nm ≤ 6) : Met l yX2_findAll wsX2_findAll ({ frames := 12, cells := 0, slots := 0, locals := 280 } : Room) (vz_rw D cI (zOrdBook cI h g wy fi fl nu nm ks gs wt mi) sz [.ref (h 0), .ref (g 0), .int p1]) (va_Qv (fun (_ : Unit) => True) (fun (u : Unit) (t : State) => va_P D vwCl (zOrdBook cI h g ((od nm gs 7 0 p1 (wy, fi, 0, 0)).1) ((od nm gs 7 0 p1 (wy, fi, 0, 0)).2.1) ((od nm gs 7 0 p1 (wy, fi, 0, 0)).2.2.1) ((od nm gs 7 0 p1 (wy, fi, 0, 0)).2.2.2) nm ks gs wt mi) t.heap) (va_A (zOrdBook cI h g wy fi fl nu nm ks gs wt mi) sz)) 0 0 (va_A (zOrdBook cI h g wy fi fl nu nm ks gs wt mi) sz) := by
  refine Met.ofW (cc := cX2_findAll) (maxL := 3) (ret := none) (by decide) rfl ?_
  intro p e s m args below meth c s₁ B hml hv
  obtain ⟨rfl, hsz, hP, hZ, hD0⟩ := hv
  obtain ⟨hK, hN⟩ := id hZ
  have hx := B.exec
  have hb := B.bytes
  have hr := B.returns
  have hts := atoms_spec (ws := wsX2_findAll) B.pre
  have hown : s.vm.findClass RX2 = some m.cls := findClass_of_methodNamed B.named
  have hlocks := B.notSynchronized
  subst hsz
  have hD := hD0.self (sz := s.heap.size)
  generalize hAe : va_A (zOrdBook cI h g wy fi fl nu nm ks gs wt mi) s.heap.size = A at hD ⊢
  have hA : ∀ q : Nat, s.heap.size ≤ q → A q := fun q h => by rw [← hAe]; exact Or.inr h
  have hS : va_S A s.heap s.heap [] := va_S.rf
  have k23 := hts (.fieldLink RX2 23 "SongsAgain$Orders" "firstLength" "I") (List.mem_of_getElem? (i := 2) rfl)
  have k27 := hts (.fieldLink RX2 27 "SongsAgain$Orders" "number" "I") (List.mem_of_getElem? (i := 1) rfl)
  have iX2 : ∀ w ∈ u_ws RX2 TX2 4, w ∈ wsX2_findAll := vz_in (i := 34) (n := 4) rfl
  have hl := lv_entry ([.ref (h 0), .ref (g 0), .int p1]) (n := 3) (Nat.le_of_ble_eq_true rfl)
  rw [lg_entry_eq]
  generalize (lg_sl ([.ref (h 0), .ref (g 0), .int p1]) ++ List.replicate (3 - (lg_sl ([.ref (h 0), .ref (g 0), .int p1])).length) Slot.unset).toArray = ls at hl ⊢
  have hl : lv_has ls 3 [(0, .ref (h 0)), (1, .ref (g 0)), (2, .int p1)] := hl
  have hP : va_P D vwCl (zOrdBook cI h g wy fi fl nu nm ks gs wt mi) s.heap := hP
  refine lv_aload_n hx hb dX2_findAll_0 rfl (lv_at hl 0 rfl) ?_
  refine lv_iconst (v := 0) hx hb dX2_findAll_1 (by decide) ?_
  refine va_put (D := D) (ci := 2) (v := .int 0) (ty := .int) (C := RX2) (T := TX2) (N := 4) hx hb hts iX2 tyX2 tyX2_ok nmX2 hown hK hP hD hS 0 rfl rfl 3 (by decide) k27 (fun _ h9 => h9) rfl (by decide +kernel) rfl rfl (Nat.le_of_ble_eq_true rfl) dX2_findAll_2 (fun H_2 locs_2 hP9 hD9 hS9 => ?_)
  replace hP : va_P D vwCl (zOrdBook cI h g wy fi fl 0 nm ks gs wt mi) H_2 := hP9
  replace hD : va_D A (zOrdBook cI h g wy fi fl 0 nm ks gs wt mi) := hD9
  replace hS := hS9
  clear hP9 hD9 hS9
  refine lv_aload_n hx hb dX2_findAll_5 rfl (lv_at hl 0 rfl) ?_
  refine lv_iconst (v := 0) hx hb dX2_findAll_6 (by decide) ?_
  refine va_put (D := D) (ci := 2) (v := .int 0) (ty := .int) (C := RX2) (T := TX2) (N := 4) hx hb hts iX2 tyX2 tyX2_ok nmX2 hown hK hP hD hS 0 rfl rfl 2 (by decide) k23 (fun _ h9 => h9) rfl (by decide +kernel) rfl rfl (Nat.le_of_ble_eq_true rfl) dX2_findAll_7 (fun H_7 locs_7 hP9 hD9 hS9 => ?_)
  replace hP : va_P D vwCl (zOrdBook cI h g wy fi 0 0 nm ks gs wt mi) H_7 := hP9
  replace hD : va_D A (zOrdBook cI h g wy fi 0 0 nm ks gs wt mi) := hD9
  replace hS := hS9
  clear hP9 hD9 hS9
  refine lv_aload_n hx hb dX2_findAll_10 rfl (lv_at hl 0 rfl) ?_
  refine lv_aload_n hx hb dX2_findAll_11 rfl (lv_at hl 1 rfl) ?_
  refine lv_iload_n hx hb dX2_findAll_12 rfl (lv_at hl 2 rfl) ?_
  refine lv_iconst (v := 0) hx hb dX2_findAll_13 (by decide) ?_
  have hPc := hP
  have hDc := hD
  have hFc : ∀ q, va_A (zOrdBook cI h g wy fi 0 0 nm ks gs wt mi) H_7.size q → A q := vz_freeAll hD hS hA
  refine va_callv (va_runS (As := [.ref (h 0), .ref (g 0), .int p1, .int 0]) (rest := []) ⟨hx, hb, hml, hown, hts⟩ (c_X2_goOn l 8 D cI h g wy fi 0 0 nm ks gs wt mi H_7.size p1 0 (by first | assumption | omega) (by omega) (by omega)) (va_cwS 4 hts gX2_findAll_X2_goOn rfl rfl rfl (by decide +kernel) ⟨Nat.le_of_ble_eq_true rfl, Nat.le_of_ble_eq_true rfl⟩) (vz_psW hZ hPc hDc) rfl rfl hl.1 rfl (lv_room (Nat.le_of_ble_eq_true rfl)) dX2_findAll_14 ⟨Nat.zero_le _, Nat.zero_le _⟩) hS (fun q _ h => hFc q h) hFc (fun u_14 t H_14 locs_14 ht hvm hw hB hz1 hk1 hS9 => ?_)
  rw [ht] at hB
  replace hP : va_P D vwCl (zOrdBook cI h g ((od nm gs (7 - 0) 0 p1 (wy, fi, 0, 0)).1) ((od nm gs (7 - 0) 0 p1 (wy, fi, 0, 0)).2.1) ((od nm gs (7 - 0) 0 p1 (wy, fi, 0, 0)).2.2.1) ((od nm gs (7 - 0) 0 p1 (wy, fi, 0, 0)).2.2.2) nm ks gs wt mi) H_14 := hB
  replace hD : va_D A (zOrdBook cI h g ((od nm gs (7 - 0) 0 p1 (wy, fi, 0, 0)).1) ((od nm gs (7 - 0) 0 p1 (wy, fi, 0, 0)).2.1) ((od nm gs (7 - 0) 0 p1 (wy, fi, 0, 0)).2.2.1) ((od nm gs (7 - 0) 0 p1 (wy, fi, 0, 0)).2.2.2) nm ks gs wt mi) := vz_same hD rfl
  replace hS := hS9
  clear hS9 hPc hDc hFc hB hk1 hz1
  have en_wy : (od nm gs 7 0 p1 (wy, fi, 0, 0)).1 = (od nm gs (7 - 0) 0 p1 (wy, fi, 0, 0)).1 := by first | rfl | (rfl; done) | (rfl; rfl) | (rfl; done) | (rfl; rfl) | (simp; done)
  have en_fi : (od nm gs 7 0 p1 (wy, fi, 0, 0)).2.1 = (od nm gs (7 - 0) 0 p1 (wy, fi, 0, 0)).2.1 := by first | rfl | (rfl; done) | (rfl; rfl) | (rfl; done) | (rfl; rfl) | (simp; done)
  have en_fl : (od nm gs 7 0 p1 (wy, fi, 0, 0)).2.2.1 = (od nm gs (7 - 0) 0 p1 (wy, fi, 0, 0)).2.2.1 := by first | rfl | (rfl; done) | (rfl; rfl) | (rfl; done) | (rfl; rfl) | (simp; done)
  have en_nu : (od nm gs 7 0 p1 (wy, fi, 0, 0)).2.2.2 = (od nm gs (7 - 0) 0 p1 (wy, fi, 0, 0)).2.2.2 := by first | rfl | (rfl; done) | (rfl; rfl) | (rfl; done) | (rfl; rfl) | (simp; done)
  exact W.vret hx hb hr (fun t ht hW => ⟨⟨(), rfl, trivial, (by show va_P D vwCl (zOrdBook cI h g ((od nm gs 7 0 p1 (wy, fi, 0, 0)).1) ((od nm gs 7 0 p1 (wy, fi, 0, 0)).2.1) ((od nm gs 7 0 p1 (wy, fi, 0, 0)).2.2.1) ((od nm gs 7 0 p1 (wy, fi, 0, 0)).2.2.2) nm ks gs wt mi) t.heap; rw [ht, en_wy, en_fi, en_fl, en_nu]; exact hP)⟩, hS.F ht⟩) hS.2.2 dX2_findAll_17

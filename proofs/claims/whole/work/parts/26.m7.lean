set_option maxHeartbeats 4000000 in
set_option maxRecDepth 100000 in
theorem c_X7_sumAt (l : Launch) (D : va_G) (cI : ClassId) (g : Nat → Nat) (pm : Nat) (rm : Nat) (rr : Int32) (st : Nat) (sg : Nat) (rn : Int32) (bg : Int32) (la : Int32) (ws : Bool) (pr : Nat) (ry : Nat) (hm : Nat) (xu : Int64) (xl : Int64) (sn : Int32) (kp : Int32) (kr : Int32) (kb : Int32) (kl : Int32) (kw : Bool) (kh : Nat) (hc : Int64) (pg : Nat → Int32) (rd : Nat → Int32) (rw : Nat → Int32) (ro : Nat → Int32) (be : Nat → Int32) (he : Nat → Int32) (kro : Nat → Int32) (khe : Nat → Int32) (k : Nat) (hsg : sg ≤ 6) (hk3 : k ≤ 3) : Met l yX7_sumAt wsX7_sumAt ({ frames := 0, cells := 0, slots := 0, locals := 0 } : Room) (vz_ro D cI (zM cI g pm rm rr st sg rn bg la ws pr ry hm xu xl sn kp kr kb kl kw kh hc pg rd rw ro be he kro khe) [.ref (g 0), .int (nI k)]) (vp_Si (fun r => r = mo_at rw k sg)) 0 0 (fun _ => False) := by
  refine Met.ofW (cc := cX7_sumAt) (maxL := 4) (ret := (some .int)) (by decide) rfl ?_
  intro p e s m args below meth c s₁ B hml hv
  obtain ⟨rfl, hP, hZ⟩ := hv
  obtain ⟨hK, hN⟩ := id hZ
  have hx := B.exec
  have hb := B.bytes
  have hr := B.returns
  have hts := atoms_spec (ws := wsX7_sumAt) B.pre
  have hown : s.vm.findClass RX7 = some m.cls := findClass_of_methodNamed B.named
  have hlocks := B.notSynchronized
  have k16 := hts (.fieldLink RX7 16 "SongsAgainModel" "rows" "[I") (List.mem_of_getElem? (i := 2) rfl)
  have k73 := hts (.fieldLink RX7 73 "SongsAgainModel" "songs" "I") (List.mem_of_getElem? (i := 1) rfl)
  have iX7 : ∀ w ∈ u_ws RX7 TX7 30, w ∈ wsX7_sumAt := vz_in (i := 3) (n := 30) rfl
  have hl := lv_entry ([.ref (g 0), .int (nI k)]) (n := 4) (Nat.le_of_ble_eq_true rfl)
  rw [lg_entry_eq]
  generalize (lg_sl ([.ref (g 0), .int (nI k)]) ++ List.replicate (4 - (lg_sl ([.ref (g 0), .int (nI k)])).length) Slot.unset).toArray = ls at hl ⊢
  have hl : lv_has ls 4 [(0, .ref (g 0)), (1, .int (nI k))] := hl
  refine lv_iconst (v := 0) hx hb dX7_sumAt_0 (by decide) ?_
  refine lv_istore_n (lv' := [(2, .int 0), (0, .ref (g 0)), (1, .int (nI k))]) hx hb dX7_sumAt_1 rfl hl (by decide) rfl (fun ls hl => ?_)
  refine lv_iconst (v := 0) hx hb dX7_sumAt_2 (by decide) ?_
  refine lv_istore_n (lv' := [(3, .int 0), (2, .int 0), (0, .ref (g 0)), (1, .int (nI k))]) hx hb dX7_sumAt_3 rfl hl (by decide) rfl (fun ls hl => ?_)
  have L_4 : ∀ (d_4 : Nat) (j : Nat) (acc : Int32), sg - j < d_4 → (j ≤ sg) → (acc = mo_at rw k j) → ∀ (ls : Array Slot), lv_has ls 4 [(3, .int (nI j)), (2, .int acc), (0, .ref (g 0)), (1, .int (nI k))] → W p l e ({ frames := 0, cells := 0, slots := 0, locals := 0 } : Room) s m ([.ref (g 0), .int (nI k)] : List Value).toArray below meth c s.heap [] 0 0 (MQ below (vp_Si (fun r => r = mo_at rw k sg)) ([.ref (g 0), .int (nI k)] : List Value).toArray s 0 0 (fun _ => False)) (F0 m 4 ls []) := by
    intro d_4
    induction d_4 with
    | zero => intro j acc hd; exact absurd hd (Nat.not_lt_zero _)
    | succ d_4 ih_4 =>
      intro j acc hd_4 hj hacc ls hl
      refine lv_iload_n hx hb dX7_sumAt_4 rfl (lv_at hl 0 rfl) ?_
      refine lv_aload_n hx hb dX7_sumAt_5 rfl (lv_at hl 2 rfl) ?_
      refine va_get (D := D) (ci := 7) (v := .int (nI sg)) (C := RX7) (T := TX7) (N := 30) hx hb hts iX7 hown hK hP 0 rfl rfl 6 (by decide) k73 (fun _ h9 => h9) rfl dX7_sumAt_6 ?_
      refine lv_icmp_ge (tgt := 31) hx hb dX7_sumAt_9 (by decide) (fun c_9 => ?_) (fun c_9 => ?_)
      · skip
        have hje : j = sg := Nat.le_antisymm hj (vz_ge c_9 (by omega) (by omega))
        refine lv_iload_n hx hb dX7_sumAt_31 rfl (lv_at hl 1 rfl) ?_
        exact W.iret hx hb hr (fun t ht hW => ⟨_, rfl, (by rw [hacc, hje]), ht⟩) (fun q h => absurd h List.not_mem_nil) dX7_sumAt_32
      · skip
        have hlt : j < sg := vz_lt c_9 (by omega)
        refine lv_iload_n hx hb dX7_sumAt_12 rfl (lv_at hl 1 rfl) ?_
        refine lv_aload_n hx hb dX7_sumAt_13 rfl (lv_at hl 2 rfl) ?_
        refine va_get (D := D) (ci := 7) (v := .ref (g 3)) (C := RX7) (T := TX7) (N := 30) hx hb hts iX7 hown hK hP 0 rfl rfl 12 (by decide) k16 (fun _ h9 => h9) rfl dX7_sumAt_14 ?_
        refine lv_iconst (v := 4) hx hb dX7_sumAt_17 (by decide) ?_
        refine lv_iload_n hx hb dX7_sumAt_18 rfl (lv_at hl 0 rfl) ?_
        refine lv_imul hx hb dX7_sumAt_19 ?_
        refine W.eq (congrArg (fun z => F0 m 20 ls (.int z :: [.ref (g 3), .int acc])) (pk_mul 4 j : 4 * (nI j) = nI (4 * j))) ?_
        refine lv_iload_n hx hb dX7_sumAt_20 rfl (lv_at hl 3 rfl) ?_
        refine lv_iadd hx hb dX7_sumAt_21 ?_
        refine W.eq (congrArg (fun z => F0 m 22 ls (.int z :: [.ref (g 3), .int acc])) (nI_add (4 * j) k : (nI (4 * j)) + (nI k) = nI ((4 * j) + k))) ?_
        refine va_iald hx hb hK hP 3 0 rfl rfl (i := nI ((4 * j) + k)) (vp_in_nI (by first | assumption | omega) (by first | assumption | omega)) dX7_sumAt_22 ?_
        refine W.eq (congrArg (fun z => F0 m 23 ls (.int z :: [.int acc])) (vz_ix rw (by first | assumption | omega))) ?_
        refine lv_iadd hx hb dX7_sumAt_23 ?_
        refine lv_istore_n (lv' := [(2, .int (acc + (rw ((4 * j) + k)))), (3, .int (nI j)), (0, .ref (g 0)), (1, .int (nI k))]) hx hb dX7_sumAt_24 rfl hl (by decide) rfl (fun ls hl => ?_)
        refine lv_iinc (v := nI (j + 1)) (lv' := [(3, .int (nI (j + 1))), (2, .int (acc + (rw ((4 * j) + k)))), (0, .ref (g 0)), (1, .int (nI k))]) hx hb dX7_sumAt_25 hl (k := 1) rfl (vz_inc _) (by decide) rfl (fun ls hl => ?_)
        refine lv_goto (tgt := 4) hx hb dX7_sumAt_28 (by decide) ?_
        exact ih_4 (j + 1) (acc + (rw ((4 * j) + k))) (by omega) (by omega) (by rw [mo_at, hacc]) ls (lv_sub hl [0, 1, 2, 3] rfl)
  exact L_4 _ 0 0 (Nat.lt_succ_self _) (Nat.zero_le _) rfl ls (lv_sub hl [0, 1, 2, 3] rfl)
set_option maxHeartbeats 4000000 in
set_option maxRecDepth 100000 in
theorem c_X7_minutesAll (l : Launch) (D : va_G) (cI : ClassId) (g : Nat → Nat) (pm : Nat) (rm : Nat) (rr : Int32) (st : Nat) (sg : Nat) (rn : Int32) (bg : Int32) (la : Int32) (ws : Bool) (pr : Nat) (ry : Nat) (hm : Nat) (xu : Int64) (xl : Int64) (sn : Int32) (kp : Int32) (kr : Int32) (kb : Int32) (kl : Int32) (kw : Bool) (kh : Nat) (hc : Int64) (pg : Nat → Int32) (rd : Nat → Int32) (rw : Nat → Int32) (ro : Nat → Int32) (be : Nat → Int32) (he : Nat → Int32) (kro : Nat → Int32) (khe : Nat → Int32) (hsg : sg ≤ 6) : Met l yX7_minutesAll wsX7_minutesAll ({ frames := 1, cells := 0, slots := 0, locals := 21 } : Room) (vz_ro D cI (zM cI g pm rm rr st sg rn bg la ws pr ry hm xu xl sn kp kr kb kl kw kh hc pg rd rw ro be he kro khe) [.ref (g 0)]) (vp_Si (fun r => r = mo_ma rw sg)) 0 0 (fun _ => False) := by
  refine Met.ofW (cc := cX7_minutesAll) (maxL := 3) (ret := (some .int)) (by decide) rfl ?_
  intro p e s m args below meth c s₁ B hml hv
  obtain ⟨rfl, hP, hZ⟩ := hv
  obtain ⟨hK, hN⟩ := id hZ
  have hx := B.exec
  have hb := B.bytes
  have hr := B.returns
  have hts := atoms_spec (ws := wsX7_minutesAll) B.pre
  have hown : s.vm.findClass RX7 = some m.cls := findClass_of_methodNamed B.named
  have hlocks := B.notSynchronized
  have k16 := hts (.fieldLink RX7 16 "SongsAgainModel" "rows" "[I") (List.mem_of_getElem? (i := 2) rfl)
  have k73 := hts (.fieldLink RX7 73 "SongsAgainModel" "songs" "I") (List.mem_of_getElem? (i := 1) rfl)
  have iX7 : ∀ w ∈ u_ws RX7 TX7 30, w ∈ wsX7_minutesAll := vz_in (i := 8) (n := 30) rfl
  have hl := lv_entry ([.ref (g 0)]) (n := 3) (Nat.le_of_ble_eq_true rfl)
  rw [lg_entry_eq]
  generalize (lg_sl ([.ref (g 0)]) ++ List.replicate (3 - (lg_sl ([.ref (g 0)])).length) Slot.unset).toArray = ls at hl ⊢
  have hl : lv_has ls 3 [(0, .ref (g 0))] := hl
  refine lv_iconst (v := 0) hx hb dX7_minutesAll_0 (by decide) ?_
  refine lv_istore_n (lv' := [(1, .int 0), (0, .ref (g 0))]) hx hb dX7_minutesAll_1 rfl hl (by decide) rfl (fun ls hl => ?_)
  refine lv_iconst (v := 0) hx hb dX7_minutesAll_2 (by decide) ?_
  refine lv_istore_n (lv' := [(2, .int 0), (1, .int 0), (0, .ref (g 0))]) hx hb dX7_minutesAll_3 rfl hl (by decide) rfl (fun ls hl => ?_)
  have L_4 : ∀ (d_4 : Nat) (j : Nat) (acc : Int32), sg - j < d_4 → (j ≤ sg) → (acc = mo_ma rw j) → ∀ (ls : Array Slot), lv_has ls 3 [(2, .int (nI j)), (1, .int acc), (0, .ref (g 0))] → W p l e ({ frames := 1, cells := 0, slots := 0, locals := 21 } : Room) s m ([.ref (g 0)] : List Value).toArray below meth c s.heap [] 0 0 (MQ below (vp_Si (fun r => r = mo_ma rw sg)) ([.ref (g 0)] : List Value).toArray s 0 0 (fun _ => False)) (F0 m 4 ls []) := by
    intro d_4
    induction d_4 with
    | zero => intro j acc hd; exact absurd hd (Nat.not_lt_zero _)
    | succ d_4 ih_4 =>
      intro j acc hd_4 hj hacc ls hl
      refine lv_iload_n hx hb dX7_minutesAll_4 rfl (lv_at hl 0 rfl) ?_
      refine lv_aload_n hx hb dX7_minutesAll_5 rfl (lv_at hl 2 rfl) ?_
      refine va_get (D := D) (ci := 7) (v := .int (nI sg)) (C := RX7) (T := TX7) (N := 30) hx hb hts iX7 hown hK hP 0 rfl rfl 6 (by decide) k73 (fun _ h9 => h9) rfl dX7_minutesAll_6 ?_
      refine lv_icmp_ge (tgt := 37) hx hb dX7_minutesAll_9 (by decide) (fun c_9 => ?_) (fun c_9 => ?_)
      · skip
        have hje : j = sg := Nat.le_antisymm hj (vz_ge c_9 (by omega) (by omega))
        refine lv_iload_n hx hb dX7_minutesAll_37 rfl (lv_at hl 1 rfl) ?_
        exact W.iret hx hb hr (fun t ht hW => ⟨_, rfl, (by rw [hacc, hje]), ht⟩) (fun q h => absurd h List.not_mem_nil) dX7_minutesAll_38
      · skip
        have hlt : j < sg := vz_lt c_9 (by omega)
        refine lv_iload_n hx hb dX7_minutesAll_12 rfl (lv_at hl 1 rfl) ?_
        refine lv_aload_n hx hb dX7_minutesAll_13 rfl (lv_at hl 2 rfl) ?_
        refine va_get (D := D) (ci := 7) (v := .ref (g 3)) (C := RX7) (T := TX7) (N := 30) hx hb hts iX7 hown hK hP 0 rfl rfl 12 (by decide) k16 (fun _ h9 => h9) rfl dX7_minutesAll_14 ?_
        refine lv_iconst (v := 4) hx hb dX7_minutesAll_17 (by decide) ?_
        refine lv_iload_n hx hb dX7_minutesAll_18 rfl (lv_at hl 0 rfl) ?_
        refine lv_imul hx hb dX7_minutesAll_19 ?_
        refine W.eq (congrArg (fun z => F0 m 20 ls (.int z :: [.ref (g 3), .int acc])) (pk_mul 4 j : 4 * (nI j) = nI (4 * j))) ?_
        refine lv_iconst (v := 2) hx hb dX7_minutesAll_20 (by decide) ?_
        refine lv_iadd hx hb dX7_minutesAll_21 ?_
        refine W.eq (congrArg (fun z => F0 m 22 ls (.int z :: [.ref (g 3), .int acc])) (nI_add (4 * j) 2 : (nI (4 * j)) + 2 = nI ((4 * j) + 2))) ?_
        refine va_iald hx hb hK hP 3 0 rfl rfl (i := nI ((4 * j) + 2)) (vp_in_nI (by first | assumption | omega) (by first | assumption | omega)) dX7_minutesAll_22 ?_
        refine W.eq (congrArg (fun z => F0 m 23 ls (.int z :: [.int acc])) (vz_ix rw (by first | assumption | omega))) ?_
        refine lv_aload_n hx hb dX7_minutesAll_23 rfl (lv_at hl 2 rfl) ?_
        refine lv_iload_n hx hb dX7_minutesAll_24 rfl (lv_at hl 0 rfl) ?_
        refine vp_callSi (W.runV (As := [.int (nI j)]) (rest := [.int (rw ((4 * j) + 2)), .int acc]) ⟨hx, hb, hml, hown, hts⟩ (c_X7_minutesOf l D cI g pm rm rr st sg rn bg la ws pr ry hm xu xl sn kp kr kb kl kw kh hc pg rd rw ro be he kro khe j (by first | assumption | omega) (by first | assumption | omega)) (cwV 1 hts gX7_minutesAll_X7_minutesOf rfl rfl rfl (by decide +kernel) ⟨Nat.le_of_ble_eq_true rfl, Nat.le_of_ble_eq_true rfl⟩) (vz_pvR (va_recv hK hP (ci := 7) (q0 := 0) rfl rfl) hZ hP) rfl rfl hl.1 rfl (lv_room (Nat.le_of_ble_eq_true rfl)) dX7_minutesAll_25 ⟨Nat.zero_le _, Nat.zero_le _⟩) (fun r_25 hr_25 => ?_)
        subst hr_25
        refine lv_imul hx hb dX7_minutesAll_28 ?_
        refine lv_iadd hx hb dX7_minutesAll_29 ?_
        refine lv_istore_n (lv' := [(1, .int (acc + ((rw ((4 * j) + 2)) * (mo_mins rw j)))), (2, .int (nI j)), (0, .ref (g 0))]) hx hb dX7_minutesAll_30 rfl hl (by decide) rfl (fun ls hl => ?_)
        refine lv_iinc (v := nI (j + 1)) (lv' := [(2, .int (nI (j + 1))), (1, .int (acc + ((rw ((4 * j) + 2)) * (mo_mins rw j)))), (0, .ref (g 0))]) hx hb dX7_minutesAll_31 hl (k := 1) rfl (vz_inc _) (by decide) rfl (fun ls hl => ?_)
        refine lv_goto (tgt := 4) hx hb dX7_minutesAll_34 (by decide) ?_
        exact ih_4 (j + 1) (acc + ((rw ((4 * j) + 2)) * (mo_mins rw j))) (by omega) (by omega) (by rw [mo_ma, hacc]) ls (lv_sub hl [0, 1, 2] rfl)
  exact L_4 _ 0 0 (Nat.lt_succ_self _) (Nat.zero_le _) rfl ls (lv_sub hl [0, 1, 2] rfl)
set_option maxHeartbeats 4000000 in
set_option maxRecDepth 100000 in
theorem c_X7_unlike (l : Launch) (D : va_G) (cI : ClassId) (g : Nat → Nat) (pm : Nat) (rm : Nat) (rr : Int32) (st : Nat) (sg : Nat) (rn : Int32) (bg : Int32) (la : Int32) (ws : Bool) (pr : Nat) (ry : Nat) (hm : Nat) (xu : Int64) (xl : Int64) (sn : Int32) (kp : Int32) (kr : Int32) (kb : Int32) (kl : Int32) (kw : Bool) (kh : Nat) (hc : Int64) (pg : Nat → Int32) (rd : Nat → Int32) (rw : Nat → Int32) (ro : Nat → Int32) (be : Nat → Int32) (he : Nat → Int32) (kro : Nat → Int32) (khe : Nat → Int32) (hsg : sg ≤ 6) : Met l yX7_unlike wsX7_unlike ({ frames := 0, cells := 0, slots := 0, locals := 0 } : Room) (vz_ro D cI (zM cI g pm rm rr st sg rn bg la ws pr ry hm xu xl sn kp kr kb kl kw kh hc pg rd rw ro be he kro khe) [.ref (g 0)]) (vp_Si (fun r => r = mo_un rw sg)) 0 0 (fun _ => False) := by
  refine Met.ofW (cc := cX7_unlike) (maxL := 3) (ret := (some .int)) (by decide) rfl ?_
  intro p e s m args below meth c s₁ B hml hv
  obtain ⟨rfl, hP, hZ⟩ := hv
  obtain ⟨hK, hN⟩ := id hZ
  have hx := B.exec
  have hb := B.bytes
  have hr := B.returns
  have hts := atoms_spec (ws := wsX7_unlike) B.pre
  have hown : s.vm.findClass RX7 = some m.cls := findClass_of_methodNamed B.named
  have hlocks := B.notSynchronized
  have k16 := hts (.fieldLink RX7 16 "SongsAgainModel" "rows" "[I") (List.mem_of_getElem? (i := 2) rfl)
  have k73 := hts (.fieldLink RX7 73 "SongsAgainModel" "songs" "I") (List.mem_of_getElem? (i := 1) rfl)
  have iX7 : ∀ w ∈ u_ws RX7 TX7 30, w ∈ wsX7_unlike := vz_in (i := 3) (n := 30) rfl
  have hl := lv_entry ([.ref (g 0)]) (n := 3) (Nat.le_of_ble_eq_true rfl)
  rw [lg_entry_eq]
  generalize (lg_sl ([.ref (g 0)]) ++ List.replicate (3 - (lg_sl ([.ref (g 0)])).length) Slot.unset).toArray = ls at hl ⊢
  have hl : lv_has ls 3 [(0, .ref (g 0))] := hl
  refine lv_iconst (v := 0) hx hb dX7_unlike_0 (by decide) ?_
  refine lv_istore_n (lv' := [(1, .int 0), (0, .ref (g 0))]) hx hb dX7_unlike_1 rfl hl (by decide) rfl (fun ls hl => ?_)
  refine lv_iconst (v := 0) hx hb dX7_unlike_2 (by decide) ?_
  refine lv_istore_n (lv' := [(2, .int 0), (1, .int 0), (0, .ref (g 0))]) hx hb dX7_unlike_3 rfl hl (by decide) rfl (fun ls hl => ?_)
  have L_4 : ∀ (d_4 : Nat) (j : Nat) (acc : Int32), sg - j < d_4 → (j ≤ sg) → (acc = mo_un rw j) → ∀ (ls : Array Slot), lv_has ls 3 [(2, .int (nI j)), (1, .int acc), (0, .ref (g 0))] → W p l e ({ frames := 0, cells := 0, slots := 0, locals := 0 } : Room) s m ([.ref (g 0)] : List Value).toArray below meth c s.heap [] 0 0 (MQ below (vp_Si (fun r => r = mo_un rw sg)) ([.ref (g 0)] : List Value).toArray s 0 0 (fun _ => False)) (F0 m 4 ls []) := by
    intro d_4
    induction d_4 with
    | zero => intro j acc hd; exact absurd hd (Nat.not_lt_zero _)
    | succ d_4 ih_4 =>
      intro j acc hd_4 hj hacc ls hl
      refine lv_iload_n hx hb dX7_unlike_4 rfl (lv_at hl 0 rfl) ?_
      refine lv_aload_n hx hb dX7_unlike_5 rfl (lv_at hl 2 rfl) ?_
      refine va_get (D := D) (ci := 7) (v := .int (nI sg)) (C := RX7) (T := TX7) (N := 30) hx hb hts iX7 hown hK hP 0 rfl rfl 6 (by decide) k73 (fun _ h9 => h9) rfl dX7_unlike_6 ?_
      refine lv_icmp_ge (tgt := 39) hx hb dX7_unlike_9 (by decide) (fun c_9 => ?_) (fun c_9 => ?_)
      · skip
        have hje : j = sg := Nat.le_antisymm hj (vz_ge c_9 (by omega) (by omega))
        refine lv_iload_n hx hb dX7_unlike_39 rfl (lv_at hl 1 rfl) ?_
        exact W.iret hx hb hr (fun t ht hW => ⟨_, rfl, (by rw [hacc, hje]), ht⟩) (fun q h => absurd h List.not_mem_nil) dX7_unlike_40
      · skip
        have hlt : j < sg := vz_lt c_9 (by omega)
        refine lv_iload_n hx hb dX7_unlike_12 rfl (lv_at hl 1 rfl) ?_
        refine lv_aload_n hx hb dX7_unlike_13 rfl (lv_at hl 2 rfl) ?_
        refine va_get (D := D) (ci := 7) (v := .ref (g 3)) (C := RX7) (T := TX7) (N := 30) hx hb hts iX7 hown hK hP 0 rfl rfl 12 (by decide) k16 (fun _ h9 => h9) rfl dX7_unlike_14 ?_
        refine lv_iconst (v := 4) hx hb dX7_unlike_17 (by decide) ?_
        refine lv_iload_n hx hb dX7_unlike_18 rfl (lv_at hl 0 rfl) ?_
        refine lv_imul hx hb dX7_unlike_19 ?_
        refine W.eq (congrArg (fun z => F0 m 20 ls (.int z :: [.ref (g 3), .int acc])) (pk_mul 4 j : 4 * (nI j) = nI (4 * j))) ?_
        refine lv_iconst (v := 2) hx hb dX7_unlike_20 (by decide) ?_
        refine lv_iadd hx hb dX7_unlike_21 ?_
        refine W.eq (congrArg (fun z => F0 m 22 ls (.int z :: [.ref (g 3), .int acc])) (nI_add (4 * j) 2 : (nI (4 * j)) + 2 = nI ((4 * j) + 2))) ?_
        refine va_iald hx hb hK hP 3 0 rfl rfl (i := nI ((4 * j) + 2)) (vp_in_nI (by first | assumption | omega) (by first | assumption | omega)) dX7_unlike_22 ?_
        refine W.eq (congrArg (fun z => F0 m 23 ls (.int z :: [.int acc])) (vz_ix rw (by first | assumption | omega))) ?_
        refine lv_if_le (tgt := 30) hx hb dX7_unlike_23 (by decide) (fun c_23 => ?_) (fun c_23 => ?_)
        · skip
          refine lv_iconst (v := 0) hx hb dX7_unlike_30 (by decide) ?_
          refine lv_iadd hx hb dX7_unlike_31 ?_
          refine lv_istore_n (lv' := [(1, .int (acc + 0)), (2, .int (nI j)), (0, .ref (g 0))]) hx hb dX7_unlike_32 rfl hl (by decide) rfl (fun ls hl => ?_)
          refine lv_iinc (v := nI (j + 1)) (lv' := [(2, .int (nI (j + 1))), (1, .int (acc + 0)), (0, .ref (g 0))]) hx hb dX7_unlike_33 hl (k := 1) rfl (vz_inc _) (by decide) rfl (fun ls hl => ?_)
          refine lv_goto (tgt := 4) hx hb dX7_unlike_36 (by decide) ?_
          exact ih_4 (j + 1) (acc + 0) (by omega) (by omega) (by rw [mo_un, hacc] ; simp only [c_9, c_23, ↓reduceIte]) ls (lv_sub hl [0, 1, 2] rfl)
        · skip
          refine lv_iconst (v := 1) hx hb dX7_unlike_26 (by decide) ?_
          refine lv_goto (tgt := 31) hx hb dX7_unlike_27 (by decide) ?_
          refine lv_iadd hx hb dX7_unlike_31 ?_
          refine lv_istore_n (lv' := [(1, .int (acc + 1)), (2, .int (nI j)), (0, .ref (g 0))]) hx hb dX7_unlike_32 rfl hl (by decide) rfl (fun ls hl => ?_)
          refine lv_iinc (v := nI (j + 1)) (lv' := [(2, .int (nI (j + 1))), (1, .int (acc + 1)), (0, .ref (g 0))]) hx hb dX7_unlike_33 hl (k := 1) rfl (vz_inc _) (by decide) rfl (fun ls hl => ?_)
          refine lv_goto (tgt := 4) hx hb dX7_unlike_36 (by decide) ?_
          exact ih_4 (j + 1) (acc + 1) (by omega) (by omega) (by rw [mo_un, hacc] ; simp only [c_9, c_23, ↓reduceIte]) ls (lv_sub hl [0, 1, 2] rfl)
  exact L_4 _ 0 0 (Nat.lt_succ_self _) (Nat.zero_le _) rfl ls (lv_sub hl [0, 1, 2] rfl)
set_option maxHeartbeats 4000000 in
set_option maxRecDepth 100000 in
theorem c_X7_image (l : Launch) (D : va_G) (cI : ClassId) (g : Nat → Nat) (pm : Nat) (rm : Nat) (rr : Int32) (st : Nat) (sg : Nat) (rn : Int32) (bg : Int32) (la : Int32) (ws : Bool) (pr : Nat) (ry : Nat) (hm : Nat) (xu : Int64) (xl : Int64) (sn : Int32) (kp : Int32) (kr : Int32) (kb : Int32) (kl : Int32) (kw : Bool) (kh : Nat) (hc : Int64) (pg : Nat → Int32) (rd : Nat → Int32) (rw : Nat → Int32) (ro : Nat → Int32) (be : Nat → Int32) (he : Nat → Int32) (kro : Nat → Int32) (khe : Nat → Int32) (sz : Nat) (hsg : sg ≤ 6) : Met l yX7_image wsX7_image ({ frames := 1, cells := 0, slots := 0, locals := 23 } : Room) (vz_rw D cI (zM cI g pm rm rr st sg rn bg la ws pr ry hm xu xl sn kp kr kb kl kw kh hc pg rd rw ro be he kro khe) sz [.ref (g 0)]) (va_Qi (fun r (_ : Unit) => r = if sa_np sg then -103 else mo_at rw 2 sg) (fun (u : Unit) (t : State) => va_P D vwCl (zM cI g pm rm rr st sg rn bg la ws pr ry hm xu xl sn (pl_n (sa_np sg) kp (nI pr)) (pl_n (sa_np sg) kr (rn)) (pl_n (sa_np sg) kb (bg)) (pl_n (sa_np sg) kl (la)) (pl_n (sa_np sg) kw (ws)) (pl_n (sa_np sg) kh (hm)) hc pg rd rw ro be he (pl_n (sa_np sg) kro (rw_cp rw kro 24)) (pl_n (sa_np sg) khe (rw_cp he khe 8))) t.heap) (va_A (zM cI g pm rm rr st sg rn bg la ws pr ry hm xu xl sn kp kr kb kl kw kh hc pg rd rw ro be he kro khe) sz)) 0 0 (va_A (zM cI g pm rm rr st sg rn bg la ws pr ry hm xu xl sn kp kr kb kl kw kh hc pg rd rw ro be he kro khe) sz) := by
  refine Met.ofW (cc := cX7_image) (maxL := 1) (ret := (some .int)) (by decide) rfl ?_
  intro p e s m args below meth c s₁ B hml hv
  obtain ⟨rfl, hsz, hP, hZ, hD0⟩ := hv
  obtain ⟨hK, hN⟩ := id hZ
  have hx := B.exec
  have hb := B.bytes
  have hr := B.returns
  have hts := atoms_spec (ws := wsX7_image) B.pre
  have hown : s.vm.findClass RX7 = some m.cls := findClass_of_methodNamed B.named
  have hlocks := B.notSynchronized
  subst hsz
  have hD := hD0.self (sz := s.heap.size)
  generalize hAe : va_A (zM cI g pm rm rr st sg rn bg la ws pr ry hm xu xl sn kp kr kb kl kw kh hc pg rd rw ro be he kro khe) s.heap.size = A at hD ⊢
  have hA : ∀ q : Nat, s.heap.size ≤ q → A q := fun q h => by rw [← hAe]; exact Or.inr h
  have hS : va_S A s.heap s.heap [] := va_S.rf
  have k16 := hts (.fieldLink RX7 16 "SongsAgainModel" "rows" "[I") (List.mem_of_getElem? (i := 1) rfl)
  have k25 := hts (.fieldLink RX7 25 "SongsAgainModel" "heards" "[I") (List.mem_of_getElem? (i := 3) rfl)
  have k28 := hts (.fieldLink RX7 28 "SongsAgainModel" "keptRows" "[I") (List.mem_of_getElem? (i := 2) rfl)
  have k31 := hts (.fieldLink RX7 31 "SongsAgainModel" "keptHeards" "[I") (List.mem_of_getElem? (i := 4) rfl)
  have k34 := hts (.fieldLink RX7 34 "SongsAgainModel" "keptPlayer" "I") (List.mem_of_getElem? (i := 16) rfl)
  have k38 := hts (.fieldLink RX7 38 "SongsAgainModel" "last" "I") (List.mem_of_getElem? (i := 9) rfl)
  have k76 := hts (.fieldLink RX7 76 "SongsAgainModel" "ruleNow" "I") (List.mem_of_getElem? (i := 5) rfl)
  have k82 := hts (.fieldLink RX7 82 "SongsAgainModel" "bag" "I") (List.mem_of_getElem? (i := 7) rfl)
  have k85 := hts (.fieldLink RX7 85 "SongsAgainModel" "wasSkipped" "Z") (List.mem_of_getElem? (i := 11) rfl)
  have k89 := hts (.fieldLink RX7 89 "SongsAgainModel" "heardMany" "I") (List.mem_of_getElem? (i := 13) rfl)
  have k92 := hts (.fieldLink RX7 92 "SongsAgainModel" "playersRead" "I") (List.mem_of_getElem? (i := 15) rfl)
  have k218 := hts (.fieldLink RX7 218 "SongsAgainModel" "keptRule" "I") (List.mem_of_getElem? (i := 6) rfl)
  have k221 := hts (.fieldLink RX7 221 "SongsAgainModel" "keptBag" "I") (List.mem_of_getElem? (i := 8) rfl)
  have k224 := hts (.fieldLink RX7 224 "SongsAgainModel" "keptLast" "I") (List.mem_of_getElem? (i := 10) rfl)
  have k227 := hts (.fieldLink RX7 227 "SongsAgainModel" "keptSkipped" "Z") (List.mem_of_getElem? (i := 12) rfl)
  have k230 := hts (.fieldLink RX7 230 "SongsAgainModel" "keptHeard" "I") (List.mem_of_getElem? (i := 14) rfl)
  have iX7 : ∀ w ∈ u_ws RX7 TX7 30, w ∈ wsX7_image := vz_in (i := 30) (n := 30) rfl
  have hl := lv_entry ([.ref (g 0)]) (n := 1) (Nat.le_of_ble_eq_true rfl)
  rw [lg_entry_eq]
  generalize (lg_sl ([.ref (g 0)]) ++ List.replicate (1 - (lg_sl ([.ref (g 0)])).length) Slot.unset).toArray = ls at hl ⊢
  have hl : lv_has ls 1 [(0, .ref (g 0))] := hl
  have hP : va_P D vwCl (zM cI g pm rm rr st sg rn bg la ws pr ry hm xu xl sn kp kr kb kl kw kh hc pg rd rw ro be he kro khe) s.heap := hP
  refine lv_aload_n hx hb dX7_image_0 rfl (lv_at hl 0 rfl) ?_
  refine vp_callSi (W.runV (As := []) (rest := []) ⟨hx, hb, hml, hown, hts⟩ (c_X7_lacks l D cI g pm rm rr st sg rn bg la ws pr ry hm xu xl sn kp kr kb kl kw kh hc pg rd rw ro be he kro khe (by first | assumption | omega)) (cwV 0 hts gX7_image_X7_lacks rfl rfl rfl (by decide +kernel) ⟨Nat.le_of_ble_eq_true rfl, Nat.le_of_ble_eq_true rfl⟩) (vz_pvR (va_recv hK hP (ci := 7) (q0 := 0) rfl rfl) hZ hP) rfl rfl hl.1 rfl (lv_room (Nat.le_of_ble_eq_true rfl)) dX7_image_1 ⟨Nat.zero_le _, Nat.zero_le _⟩) (fun r_1 hr_1 => ?_)
  subst hr_1
  refine lv_if_eq (tgt := 10) hx hb dX7_image_4 (by decide) (fun c_4 => ?_) (fun c_4 => ?_)
  · skip
    replace c_4 := vz_b0 c_4
    refine lv_aload_n hx hb dX7_image_10 rfl (lv_at hl 0 rfl) ?_
    refine va_get (D := D) (ci := 7) (v := .ref (g 3)) (C := RX7) (T := TX7) (N := 30) hx hb hts iX7 hown hK hP 0 rfl rfl 12 (by decide) k16 (fun _ h9 => h9) rfl dX7_image_11 ?_
    refine lv_aload_n hx hb dX7_image_14 rfl (lv_at hl 0 rfl) ?_
    refine va_get (D := D) (ci := 7) (v := .ref (g 7)) (C := RX7) (T := TX7) (N := 30) hx hb hts iX7 hown hK hP 0 rfl rfl 27 (by decide) k28 (fun _ h9 => h9) rfl dX7_image_15 ?_
    have hPc := (hP.sub (ws' := (zArrArr cI (g 3) (g 7) 24 rw kro)) [3, 7] rfl)
    have hDc := hD.sub (ws' := (zArrArr cI (g 3) (g 7) 24 rw kro)) [3, 7] rfl rfl
    have hFc := va_free (wc := (zArrArr cI (g 3) (g 7) 24 rw kro)) hD hS hA [3, 7] rfl
    refine va_callv (va_runS (As := [.ref (g 3), .ref (g 7)]) (rest := []) ⟨hx, hb, hml, hown, hts⟩ (c_X7_copy l D cI (g 3) (g 7) 24 rw kro s.heap.size (by decide)) (va_cwS 2 hts gX7_image_X7_copy rfl rfl rfl (by decide +kernel) ⟨Nat.le_of_ble_eq_true rfl, Nat.le_of_ble_eq_true rfl⟩) (vz_psW hZ hPc hDc) rfl rfl hl.1 rfl (lv_room (Nat.le_of_ble_eq_true rfl)) dX7_image_18 ⟨Nat.zero_le _, Nat.zero_le _⟩) hS (fun q _ h => hFc q h) hFc (fun u_18 t H_18 locs_18 ht hvm hw hB hz1 hk1 hS9 => ?_)
    rw [ht] at hB
    replace hP : va_P D vwCl (zM cI g pm rm rr st sg rn bg la ws pr ry hm xu xl sn kp kr kb kl kw kh hc pg rd rw ro be he (rw_cp rw kro 24) khe) H_18 := vz_join (w1 := (zArrArr cI (g 3) (g 7) 24 rw (rw_cp rw kro 24))) hP hD [3, 7] rfl rfl hk1 hB
    replace hD : va_D A (zM cI g pm rm rr st sg rn bg la ws pr ry hm xu xl sn kp kr kb kl kw kh hc pg rd rw ro be he (rw_cp rw kro 24) khe) := vz_same hD rfl
    replace hS := hS9
    clear hS9 hPc hDc hFc hB hk1 hz1
    refine lv_aload_n hx hb dX7_image_21 rfl (lv_at hl 0 rfl) ?_
    refine va_get (D := D) (ci := 7) (v := .ref (g 6)) (C := RX7) (T := TX7) (N := 30) hx hb hts iX7 hown hK hP 0 rfl rfl 17 (by decide) k25 (fun _ h9 => h9) rfl dX7_image_22 ?_
    refine lv_aload_n hx hb dX7_image_25 rfl (lv_at hl 0 rfl) ?_
    refine va_get (D := D) (ci := 7) (v := .ref (g 8)) (C := RX7) (T := TX7) (N := 30) hx hb hts iX7 hown hK hP 0 rfl rfl 28 (by decide) k31 (fun _ h9 => h9) rfl dX7_image_26 ?_
    have hPc := (hP.sub (ws' := (zArrArr cI (g 6) (g 8) 8 he khe)) [6, 8] rfl)
    have hDc := hD.sub (ws' := (zArrArr cI (g 6) (g 8) 8 he khe)) [6, 8] rfl rfl
    have hFc := va_free (wc := (zArrArr cI (g 6) (g 8) 8 he khe)) hD hS hA [6, 8] rfl
    refine va_callv (va_runS (As := [.ref (g 6), .ref (g 8)]) (rest := []) ⟨hx, hb, hml, hown, hts⟩ (c_X7_copy l D cI (g 6) (g 8) 8 he khe H_18.size (by decide)) (va_cwS 2 hts gX7_image_X7_copy rfl rfl rfl (by decide +kernel) ⟨Nat.le_of_ble_eq_true rfl, Nat.le_of_ble_eq_true rfl⟩) (vz_psW hZ hPc hDc) rfl rfl hl.1 rfl (lv_room (Nat.le_of_ble_eq_true rfl)) dX7_image_29 ⟨Nat.zero_le _, Nat.zero_le _⟩) hS (fun q _ h => hFc q h) hFc (fun u_29 t H_29 locs_29 ht hvm hw hB hz1 hk1 hS9 => ?_)
    rw [ht] at hB
    replace hP : va_P D vwCl (zM cI g pm rm rr st sg rn bg la ws pr ry hm xu xl sn kp kr kb kl kw kh hc pg rd rw ro be he (rw_cp rw kro 24) (rw_cp he khe 8)) H_29 := vz_join (w1 := (zArrArr cI (g 6) (g 8) 8 he (rw_cp he khe 8))) hP hD [6, 8] rfl rfl hk1 hB
    replace hD : va_D A (zM cI g pm rm rr st sg rn bg la ws pr ry hm xu xl sn kp kr kb kl kw kh hc pg rd rw ro be he (rw_cp rw kro 24) (rw_cp he khe 8)) := vz_same hD rfl
    replace hS := hS9
    clear hS9 hPc hDc hFc hB hk1 hz1
    refine lv_aload_n hx hb dX7_image_32 rfl (lv_at hl 0 rfl) ?_
    refine lv_aload_n hx hb dX7_image_33 rfl (lv_at hl 0 rfl) ?_
    refine va_get (D := D) (ci := 7) (v := .int rn) (C := RX7) (T := TX7) (N := 30) hx hb hts iX7 hown hK hP 0 rfl rfl 7 (by decide) k76 (fun _ h9 => h9) rfl dX7_image_34 ?_
    refine va_put (D := D) (ci := 7) (v := .int rn) (ty := .int) (C := RX7) (T := TX7) (N := 30) hx hb hts iX7 tyX7 tyX7_ok nmX7 hown hK hP hD hS 0 rfl rfl 22 (by decide) k218 (fun _ h9 => h9) rfl (by decide +kernel) rfl rfl (Nat.le_of_ble_eq_true rfl) dX7_image_37 (fun H_37 locs_37 hP9 hD9 hS9 => ?_)
    replace hP : va_P D vwCl (zM cI g pm rm rr st sg rn bg la ws pr ry hm xu xl sn kp rn kb kl kw kh hc pg rd rw ro be he (rw_cp rw kro 24) (rw_cp he khe 8)) H_37 := hP9
    replace hD : va_D A (zM cI g pm rm rr st sg rn bg la ws pr ry hm xu xl sn kp rn kb kl kw kh hc pg rd rw ro be he (rw_cp rw kro 24) (rw_cp he khe 8)) := hD9
    replace hS := hS9
    clear hP9 hD9 hS9
    refine lv_aload_n hx hb dX7_image_40 rfl (lv_at hl 0 rfl) ?_
    refine lv_aload_n hx hb dX7_image_41 rfl (lv_at hl 0 rfl) ?_
    refine va_get (D := D) (ci := 7) (v := .int bg) (C := RX7) (T := TX7) (N := 30) hx hb hts iX7 hown hK hP 0 rfl rfl 8 (by decide) k82 (fun _ h9 => h9) rfl dX7_image_42 ?_
    refine va_put (D := D) (ci := 7) (v := .int bg) (ty := .int) (C := RX7) (T := TX7) (N := 30) hx hb hts iX7 tyX7 tyX7_ok nmX7 hown hK hP hD hS 0 rfl rfl 23 (by decide) k221 (fun _ h9 => h9) rfl (by decide +kernel) rfl rfl (Nat.le_of_ble_eq_true rfl) dX7_image_45 (fun H_45 locs_45 hP9 hD9 hS9 => ?_)
    replace hP : va_P D vwCl (zM cI g pm rm rr st sg rn bg la ws pr ry hm xu xl sn kp rn bg kl kw kh hc pg rd rw ro be he (rw_cp rw kro 24) (rw_cp he khe 8)) H_45 := hP9
    replace hD : va_D A (zM cI g pm rm rr st sg rn bg la ws pr ry hm xu xl sn kp rn bg kl kw kh hc pg rd rw ro be he (rw_cp rw kro 24) (rw_cp he khe 8)) := hD9
    replace hS := hS9
    clear hP9 hD9 hS9
    refine lv_aload_n hx hb dX7_image_48 rfl (lv_at hl 0 rfl) ?_
    refine lv_aload_n hx hb dX7_image_49 rfl (lv_at hl 0 rfl) ?_
    refine va_get (D := D) (ci := 7) (v := .int la) (C := RX7) (T := TX7) (N := 30) hx hb hts iX7 hown hK hP 0 rfl rfl 9 (by decide) k38 (fun _ h9 => h9) rfl dX7_image_50 ?_
    refine va_put (D := D) (ci := 7) (v := .int la) (ty := .int) (C := RX7) (T := TX7) (N := 30) hx hb hts iX7 tyX7 tyX7_ok nmX7 hown hK hP hD hS 0 rfl rfl 24 (by decide) k224 (fun _ h9 => h9) rfl (by decide +kernel) rfl rfl (Nat.le_of_ble_eq_true rfl) dX7_image_53 (fun H_53 locs_53 hP9 hD9 hS9 => ?_)
    replace hP : va_P D vwCl (zM cI g pm rm rr st sg rn bg la ws pr ry hm xu xl sn kp rn bg la kw kh hc pg rd rw ro be he (rw_cp rw kro 24) (rw_cp he khe 8)) H_53 := hP9
    replace hD : va_D A (zM cI g pm rm rr st sg rn bg la ws pr ry hm xu xl sn kp rn bg la kw kh hc pg rd rw ro be he (rw_cp rw kro 24) (rw_cp he khe 8)) := hD9
    replace hS := hS9
    clear hP9 hD9 hS9
    refine lv_aload_n hx hb dX7_image_56 rfl (lv_at hl 0 rfl) ?_
    refine lv_aload_n hx hb dX7_image_57 rfl (lv_at hl 0 rfl) ?_
    refine va_get (D := D) (ci := 7) (v := .int (vz_b ws)) (C := RX7) (T := TX7) (N := 30) hx hb hts iX7 hown hK hP 0 rfl rfl 10 (by decide) k85 (fun _ h9 => h9) rfl dX7_image_58 ?_
    refine va_put (D := D) (ci := 7) (v := .int (vz_b ws)) (ty := .boolean) (C := RX7) (T := TX7) (N := 30) hx hb hts iX7 tyX7 tyX7_ok nmX7 hown hK hP hD hS 0 rfl rfl 25 (by decide) k227 (fun _ h9 => h9) rfl (by decide +kernel) (vz_nb _) (vz_fb _) (Nat.le_of_ble_eq_true rfl) dX7_image_61 (fun H_61 locs_61 hP9 hD9 hS9 => ?_)
    replace hP : va_P D vwCl (zM cI g pm rm rr st sg rn bg la ws pr ry hm xu xl sn kp rn bg la ws kh hc pg rd rw ro be he (rw_cp rw kro 24) (rw_cp he khe 8)) H_61 := hP9
    replace hD : va_D A (zM cI g pm rm rr st sg rn bg la ws pr ry hm xu xl sn kp rn bg la ws kh hc pg rd rw ro be he (rw_cp rw kro 24) (rw_cp he khe 8)) := hD9
    replace hS := hS9
    clear hP9 hD9 hS9
    refine lv_aload_n hx hb dX7_image_64 rfl (lv_at hl 0 rfl) ?_
    refine lv_aload_n hx hb dX7_image_65 rfl (lv_at hl 0 rfl) ?_
    refine va_get (D := D) (ci := 7) (v := .int (nI hm)) (C := RX7) (T := TX7) (N := 30) hx hb hts iX7 hown hK hP 0 rfl rfl 16 (by decide) k89 (fun _ h9 => h9) rfl dX7_image_66 ?_
    refine va_put (D := D) (ci := 7) (v := .int (nI hm)) (ty := .int) (C := RX7) (T := TX7) (N := 30) hx hb hts iX7 tyX7 tyX7_ok nmX7 hown hK hP hD hS 0 rfl rfl 26 (by decide) k230 (fun _ h9 => h9) rfl (by decide +kernel) rfl rfl (Nat.le_of_ble_eq_true rfl) dX7_image_69 (fun H_69 locs_69 hP9 hD9 hS9 => ?_)
    replace hP : va_P D vwCl (zM cI g pm rm rr st sg rn bg la ws pr ry hm xu xl sn kp rn bg la ws hm hc pg rd rw ro be he (rw_cp rw kro 24) (rw_cp he khe 8)) H_69 := hP9
    replace hD : va_D A (zM cI g pm rm rr st sg rn bg la ws pr ry hm xu xl sn kp rn bg la ws hm hc pg rd rw ro be he (rw_cp rw kro 24) (rw_cp he khe 8)) := hD9
    replace hS := hS9
    clear hP9 hD9 hS9
    refine lv_aload_n hx hb dX7_image_72 rfl (lv_at hl 0 rfl) ?_
    refine lv_aload_n hx hb dX7_image_73 rfl (lv_at hl 0 rfl) ?_
    refine va_get (D := D) (ci := 7) (v := .int (nI pr)) (C := RX7) (T := TX7) (N := 30) hx hb hts iX7 hown hK hP 0 rfl rfl 11 (by decide) k92 (fun _ h9 => h9) rfl dX7_image_74 ?_
    refine va_put (D := D) (ci := 7) (v := .int (nI pr)) (ty := .int) (C := RX7) (T := TX7) (N := 30) hx hb hts iX7 tyX7 tyX7_ok nmX7 hown hK hP hD hS 0 rfl rfl 21 (by decide) k34 (fun _ h9 => h9) rfl (by decide +kernel) rfl rfl (Nat.le_of_ble_eq_true rfl) dX7_image_77 (fun H_77 locs_77 hP9 hD9 hS9 => ?_)
    replace hP : va_P D vwCl (zM cI g pm rm rr st sg rn bg la ws pr ry hm xu xl sn (nI pr) rn bg la ws hm hc pg rd rw ro be he (rw_cp rw kro 24) (rw_cp he khe 8)) H_77 := hP9
    replace hD : va_D A (zM cI g pm rm rr st sg rn bg la ws pr ry hm xu xl sn (nI pr) rn bg la ws hm hc pg rd rw ro be he (rw_cp rw kro 24) (rw_cp he khe 8)) := hD9
    replace hS := hS9
    clear hP9 hD9 hS9
    refine lv_aload_n hx hb dX7_image_80 rfl (lv_at hl 0 rfl) ?_
    refine lv_iconst (v := 2) hx hb dX7_image_81 (by decide) ?_
    refine vp_callSi (W.runV (As := [.int 2]) (rest := []) ⟨hx, hb, hml, hown, hts⟩ (c_X7_sumAt l D cI g pm rm rr st sg rn bg la ws pr ry hm xu xl sn (nI pr) rn bg la ws hm hc pg rd rw ro be he (rw_cp rw kro 24) (rw_cp he khe 8) 2 (by first | assumption | omega) (by first | assumption | omega)) (cwV 1 hts gX7_image_X7_sumAt rfl rfl rfl (by decide +kernel) ⟨Nat.le_of_ble_eq_true rfl, Nat.le_of_ble_eq_true rfl⟩) (vz_pvR (va_recv hK hP (ci := 7) (q0 := 0) rfl rfl) hZ hP) rfl rfl hl.1 rfl (lv_room (Nat.le_of_ble_eq_true rfl)) dX7_image_82 ⟨Nat.zero_le _, Nat.zero_le _⟩) (fun r_82 hr_82 => ?_)
    subst hr_82
    have en_kp : pl_n (sa_np sg) kp (nI pr) = nI pr := by first | rfl | (simp only [pl_n]; done) | (simp only [pl_n]; rfl) | (simp only [pl_n, c_4, ↓reduceIte, Bool.false_eq_true, if_true, if_false, reduceCtorEq, not_true_eq_false, not_false_eq_true, eq_self]; done) | (simp only [pl_n, c_4, ↓reduceIte, Bool.false_eq_true, if_true, if_false, reduceCtorEq, not_true_eq_false, not_false_eq_true, eq_self]; rfl) | (simp [pl_n, c_4]; done)
    have en_kr : pl_n (sa_np sg) kr (rn) = rn := by first | rfl | (simp only [pl_n]; done) | (simp only [pl_n]; rfl) | (simp only [pl_n, c_4, ↓reduceIte, Bool.false_eq_true, if_true, if_false, reduceCtorEq, not_true_eq_false, not_false_eq_true, eq_self]; done) | (simp only [pl_n, c_4, ↓reduceIte, Bool.false_eq_true, if_true, if_false, reduceCtorEq, not_true_eq_false, not_false_eq_true, eq_self]; rfl) | (simp [pl_n, c_4]; done)
    have en_kb : pl_n (sa_np sg) kb (bg) = bg := by first | rfl | (simp only [pl_n]; done) | (simp only [pl_n]; rfl) | (simp only [pl_n, c_4, ↓reduceIte, Bool.false_eq_true, if_true, if_false, reduceCtorEq, not_true_eq_false, not_false_eq_true, eq_self]; done) | (simp only [pl_n, c_4, ↓reduceIte, Bool.false_eq_true, if_true, if_false, reduceCtorEq, not_true_eq_false, not_false_eq_true, eq_self]; rfl) | (simp [pl_n, c_4]; done)
    have en_kl : pl_n (sa_np sg) kl (la) = la := by first | rfl | (simp only [pl_n]; done) | (simp only [pl_n]; rfl) | (simp only [pl_n, c_4, ↓reduceIte, Bool.false_eq_true, if_true, if_false, reduceCtorEq, not_true_eq_false, not_false_eq_true, eq_self]; done) | (simp only [pl_n, c_4, ↓reduceIte, Bool.false_eq_true, if_true, if_false, reduceCtorEq, not_true_eq_false, not_false_eq_true, eq_self]; rfl) | (simp [pl_n, c_4]; done)
    have en_kw : pl_n (sa_np sg) kw (ws) = ws := by first | rfl | (simp only [pl_n]; done) | (simp only [pl_n]; rfl) | (simp only [pl_n, c_4, ↓reduceIte, Bool.false_eq_true, if_true, if_false, reduceCtorEq, not_true_eq_false, not_false_eq_true, eq_self]; done) | (simp only [pl_n, c_4, ↓reduceIte, Bool.false_eq_true, if_true, if_false, reduceCtorEq, not_true_eq_false, not_false_eq_true, eq_self]; rfl) | (simp [pl_n, c_4]; done)
    have en_kh : pl_n (sa_np sg) kh (hm) = hm := by first | rfl | (simp only [pl_n]; done) | (simp only [pl_n]; rfl) | (simp only [pl_n, c_4, ↓reduceIte, Bool.false_eq_true, if_true, if_false, reduceCtorEq, not_true_eq_false, not_false_eq_true, eq_self]; done) | (simp only [pl_n, c_4, ↓reduceIte, Bool.false_eq_true, if_true, if_false, reduceCtorEq, not_true_eq_false, not_false_eq_true, eq_self]; rfl) | (simp [pl_n, c_4]; done)
    have en_kro : pl_n (sa_np sg) kro (rw_cp rw kro 24) = rw_cp rw kro 24 := by first | rfl | (simp only [pl_n]; done) | (simp only [pl_n]; rfl) | (simp only [pl_n, c_4, ↓reduceIte, Bool.false_eq_true, if_true, if_false, reduceCtorEq, not_true_eq_false, not_false_eq_true, eq_self]; done) | (simp only [pl_n, c_4, ↓reduceIte, Bool.false_eq_true, if_true, if_false, reduceCtorEq, not_true_eq_false, not_false_eq_true, eq_self]; rfl) | (simp [pl_n, c_4]; done)
    have en_khe : pl_n (sa_np sg) khe (rw_cp he khe 8) = rw_cp he khe 8 := by first | rfl | (simp only [pl_n]; done) | (simp only [pl_n]; rfl) | (simp only [pl_n, c_4, ↓reduceIte, Bool.false_eq_true, if_true, if_false, reduceCtorEq, not_true_eq_false, not_false_eq_true, eq_self]; done) | (simp only [pl_n, c_4, ↓reduceIte, Bool.false_eq_true, if_true, if_false, reduceCtorEq, not_true_eq_false, not_false_eq_true, eq_self]; rfl) | (simp [pl_n, c_4]; done)
    exact W.iret hx hb hr (fun t ht hW => ⟨⟨_, (), rfl, (by first | rfl | (simp only [pl_n]; done) | (simp only [pl_n]; rfl) | (simp only [pl_n, c_4, ↓reduceIte, Bool.false_eq_true, if_true, if_false, reduceCtorEq, not_true_eq_false, not_false_eq_true, eq_self]; done) | (simp only [pl_n, c_4, ↓reduceIte, Bool.false_eq_true, if_true, if_false, reduceCtorEq, not_true_eq_false, not_false_eq_true, eq_self]; rfl) | (simp [pl_n, c_4]; done)), (by show va_P D vwCl (zM cI g pm rm rr st sg rn bg la ws pr ry hm xu xl sn (pl_n (sa_np sg) kp (nI pr)) (pl_n (sa_np sg) kr (rn)) (pl_n (sa_np sg) kb (bg)) (pl_n (sa_np sg) kl (la)) (pl_n (sa_np sg) kw (ws)) (pl_n (sa_np sg) kh (hm)) hc pg rd rw ro be he (pl_n (sa_np sg) kro (rw_cp rw kro 24)) (pl_n (sa_np sg) khe (rw_cp he khe 8))) t.heap; rw [ht, en_kp, en_kr, en_kb, en_kl, en_kw, en_kh, en_kro, en_khe]; exact hP)⟩, hS.F ht⟩) hS.2.2 dX7_image_85
  · skip
    replace c_4 := vz_b1 c_4
    refine lv_bipush (v := (-103)) hx hb dX7_image_7 (by decide) ?_
    have en_kp : pl_n (sa_np sg) kp (nI pr) = kp := by first | rfl | (simp only [pl_n]; done) | (simp only [pl_n]; rfl) | (simp only [pl_n, c_4, ↓reduceIte, Bool.false_eq_true, if_true, if_false, reduceCtorEq, not_true_eq_false, not_false_eq_true, eq_self]; done) | (simp only [pl_n, c_4, ↓reduceIte, Bool.false_eq_true, if_true, if_false, reduceCtorEq, not_true_eq_false, not_false_eq_true, eq_self]; rfl) | (simp [pl_n, c_4]; done)
    have en_kr : pl_n (sa_np sg) kr (rn) = kr := by first | rfl | (simp only [pl_n]; done) | (simp only [pl_n]; rfl) | (simp only [pl_n, c_4, ↓reduceIte, Bool.false_eq_true, if_true, if_false, reduceCtorEq, not_true_eq_false, not_false_eq_true, eq_self]; done) | (simp only [pl_n, c_4, ↓reduceIte, Bool.false_eq_true, if_true, if_false, reduceCtorEq, not_true_eq_false, not_false_eq_true, eq_self]; rfl) | (simp [pl_n, c_4]; done)
    have en_kb : pl_n (sa_np sg) kb (bg) = kb := by first | rfl | (simp only [pl_n]; done) | (simp only [pl_n]; rfl) | (simp only [pl_n, c_4, ↓reduceIte, Bool.false_eq_true, if_true, if_false, reduceCtorEq, not_true_eq_false, not_false_eq_true, eq_self]; done) | (simp only [pl_n, c_4, ↓reduceIte, Bool.false_eq_true, if_true, if_false, reduceCtorEq, not_true_eq_false, not_false_eq_true, eq_self]; rfl) | (simp [pl_n, c_4]; done)
    have en_kl : pl_n (sa_np sg) kl (la) = kl := by first | rfl | (simp only [pl_n]; done) | (simp only [pl_n]; rfl) | (simp only [pl_n, c_4, ↓reduceIte, Bool.false_eq_true, if_true, if_false, reduceCtorEq, not_true_eq_false, not_false_eq_true, eq_self]; done) | (simp only [pl_n, c_4, ↓reduceIte, Bool.false_eq_true, if_true, if_false, reduceCtorEq, not_true_eq_false, not_false_eq_true, eq_self]; rfl) | (simp [pl_n, c_4]; done)
    have en_kw : pl_n (sa_np sg) kw (ws) = kw := by first | rfl | (simp only [pl_n]; done) | (simp only [pl_n]; rfl) | (simp only [pl_n, c_4, ↓reduceIte, Bool.false_eq_true, if_true, if_false, reduceCtorEq, not_true_eq_false, not_false_eq_true, eq_self]; done) | (simp only [pl_n, c_4, ↓reduceIte, Bool.false_eq_true, if_true, if_false, reduceCtorEq, not_true_eq_false, not_false_eq_true, eq_self]; rfl) | (simp [pl_n, c_4]; done)
    have en_kh : pl_n (sa_np sg) kh (hm) = kh := by first | rfl | (simp only [pl_n]; done) | (simp only [pl_n]; rfl) | (simp only [pl_n, c_4, ↓reduceIte, Bool.false_eq_true, if_true, if_false, reduceCtorEq, not_true_eq_false, not_false_eq_true, eq_self]; done) | (simp only [pl_n, c_4, ↓reduceIte, Bool.false_eq_true, if_true, if_false, reduceCtorEq, not_true_eq_false, not_false_eq_true, eq_self]; rfl) | (simp [pl_n, c_4]; done)
    have en_kro : pl_n (sa_np sg) kro (rw_cp rw kro 24) = kro := by first | rfl | (simp only [pl_n]; done) | (simp only [pl_n]; rfl) | (simp only [pl_n, c_4, ↓reduceIte, Bool.false_eq_true, if_true, if_false, reduceCtorEq, not_true_eq_false, not_false_eq_true, eq_self]; done) | (simp only [pl_n, c_4, ↓reduceIte, Bool.false_eq_true, if_true, if_false, reduceCtorEq, not_true_eq_false, not_false_eq_true, eq_self]; rfl) | (simp [pl_n, c_4]; done)
    have en_khe : pl_n (sa_np sg) khe (rw_cp he khe 8) = khe := by first | rfl | (simp only [pl_n]; done) | (simp only [pl_n]; rfl) | (simp only [pl_n, c_4, ↓reduceIte, Bool.false_eq_true, if_true, if_false, reduceCtorEq, not_true_eq_false, not_false_eq_true, eq_self]; done) | (simp only [pl_n, c_4, ↓reduceIte, Bool.false_eq_true, if_true, if_false, reduceCtorEq, not_true_eq_false, not_false_eq_true, eq_self]; rfl) | (simp [pl_n, c_4]; done)
    exact W.iret hx hb hr (fun t ht hW => ⟨⟨_, (), rfl, (by first | rfl | (simp only [pl_n]; done) | (simp only [pl_n]; rfl) | (simp only [pl_n, c_4, ↓reduceIte, Bool.false_eq_true, if_true, if_false, reduceCtorEq, not_true_eq_false, not_false_eq_true, eq_self]; done) | (simp only [pl_n, c_4, ↓reduceIte, Bool.false_eq_true, if_true, if_false, reduceCtorEq, not_true_eq_false, not_false_eq_true, eq_self]; rfl) | (simp [pl_n, c_4]; done)), (by show va_P D vwCl (zM cI g pm rm rr st sg rn bg la ws pr ry hm xu xl sn (pl_n (sa_np sg) kp (nI pr)) (pl_n (sa_np sg) kr (rn)) (pl_n (sa_np sg) kb (bg)) (pl_n (sa_np sg) kl (la)) (pl_n (sa_np sg) kw (ws)) (pl_n (sa_np sg) kh (hm)) hc pg rd rw ro be he (pl_n (sa_np sg) kro (rw_cp rw kro 24)) (pl_n (sa_np sg) khe (rw_cp he khe 8))) t.heap; rw [ht, en_kp, en_kr, en_kb, en_kl, en_kw, en_kh, en_kro, en_khe]; exact hP)⟩, hS.F ht⟩) hS.2.2 dX7_image_9
set_option maxHeartbeats 4000000 in
set_option maxRecDepth 100000 in
theorem c_X7_restore (l : Launch) (D : va_G) (cI : ClassId) (g : Nat → Nat) (pm : Nat) (rm : Nat) (rr : Int32) (st : Nat) (sg : Nat) (rn : Int32) (bg : Int32) (la : Int32) (ws : Bool) (pr : Nat) (ry : Nat) (hm : Nat) (xu : Int64) (xl : Int64) (sn : Int32) (kp : Int32) (kr : Int32) (kb : Int32) (kl : Int32) (kw : Bool) (kh : Nat) (hc : Int64) (pg : Nat → Int32) (rd : Nat → Int32) (rw : Nat → Int32) (ro : Nat → Int32) (be : Nat → Int32) (he : Nat → Int32) (kro : Nat → Int32) (khe : Nat → Int32) (sz : Nat) (hsg : sg ≤ 6) : Met l yX7_restore wsX7_restore ({ frames := 1, cells := 0, slots := 0, locals := 23 } : Room) (vz_rw D cI (zM cI g pm rm rr st sg rn bg la ws pr ry hm xu xl sn kp kr kb kl kw kh hc pg rd rw ro be he kro khe) sz [.ref (g 0)]) (va_Qi (fun r (_ : Unit) => r = if kp = nI pr then mo_at (rw_cp kro rw 24) 2 sg else -103) (fun (u : Unit) (t : State) => va_P D vwCl (zM cI g pm rm rr st sg (pl_n (mre kp pr) (kr) rn) (pl_n (mre kp pr) (kb) bg) (pl_n (mre kp pr) (kl) la) (pl_n (mre kp pr) (kw) ws) pr ry (pl_n (mre kp pr) (kh) hm) xu xl sn kp kr kb kl kw kh hc pg rd (pl_n (mre kp pr) (rw_cp kro rw 24) rw) ro be (pl_n (mre kp pr) (rw_cp khe he 8) he) kro khe) t.heap) (va_A (zM cI g pm rm rr st sg rn bg la ws pr ry hm xu xl sn kp kr kb kl kw kh hc pg rd rw ro be he kro khe) sz)) 0 0 (va_A (zM cI g pm rm rr st sg rn bg la ws pr ry hm xu xl sn kp kr kb kl kw kh hc pg rd rw ro be he kro khe) sz) := by
  refine Met.ofW (cc := cX7_restore) (maxL := 1) (ret := (some .int)) (by decide) rfl ?_
  intro p e s m args below meth c s₁ B hml hv
  obtain ⟨rfl, hsz, hP, hZ, hD0⟩ := hv
  obtain ⟨hK, hN⟩ := id hZ
  have hx := B.exec
  have hb := B.bytes
  have hr := B.returns
  have hts := atoms_spec (ws := wsX7_restore) B.pre
  have hown : s.vm.findClass RX7 = some m.cls := findClass_of_methodNamed B.named
  have hlocks := B.notSynchronized
  subst hsz
  have hD := hD0.self (sz := s.heap.size)
  generalize hAe : va_A (zM cI g pm rm rr st sg rn bg la ws pr ry hm xu xl sn kp kr kb kl kw kh hc pg rd rw ro be he kro khe) s.heap.size = A at hD ⊢
  have hA : ∀ q : Nat, s.heap.size ≤ q → A q := fun q h => by rw [← hAe]; exact Or.inr h
  have hS : va_S A s.heap s.heap [] := va_S.rf
  have k16 := hts (.fieldLink RX7 16 "SongsAgainModel" "rows" "[I") (List.mem_of_getElem? (i := 4) rfl)
  have k25 := hts (.fieldLink RX7 25 "SongsAgainModel" "heards" "[I") (List.mem_of_getElem? (i := 6) rfl)
  have k28 := hts (.fieldLink RX7 28 "SongsAgainModel" "keptRows" "[I") (List.mem_of_getElem? (i := 3) rfl)
  have k31 := hts (.fieldLink RX7 31 "SongsAgainModel" "keptHeards" "[I") (List.mem_of_getElem? (i := 5) rfl)
  have k34 := hts (.fieldLink RX7 34 "SongsAgainModel" "keptPlayer" "I") (List.mem_of_getElem? (i := 1) rfl)
  have k38 := hts (.fieldLink RX7 38 "SongsAgainModel" "last" "I") (List.mem_of_getElem? (i := 12) rfl)
  have k76 := hts (.fieldLink RX7 76 "SongsAgainModel" "ruleNow" "I") (List.mem_of_getElem? (i := 8) rfl)
  have k82 := hts (.fieldLink RX7 82 "SongsAgainModel" "bag" "I") (List.mem_of_getElem? (i := 10) rfl)
  have k85 := hts (.fieldLink RX7 85 "SongsAgainModel" "wasSkipped" "Z") (List.mem_of_getElem? (i := 14) rfl)
  have k89 := hts (.fieldLink RX7 89 "SongsAgainModel" "heardMany" "I") (List.mem_of_getElem? (i := 16) rfl)
  have k92 := hts (.fieldLink RX7 92 "SongsAgainModel" "playersRead" "I") (List.mem_of_getElem? (i := 2) rfl)
  have k218 := hts (.fieldLink RX7 218 "SongsAgainModel" "keptRule" "I") (List.mem_of_getElem? (i := 7) rfl)
  have k221 := hts (.fieldLink RX7 221 "SongsAgainModel" "keptBag" "I") (List.mem_of_getElem? (i := 9) rfl)
  have k224 := hts (.fieldLink RX7 224 "SongsAgainModel" "keptLast" "I") (List.mem_of_getElem? (i := 11) rfl)
  have k227 := hts (.fieldLink RX7 227 "SongsAgainModel" "keptSkipped" "Z") (List.mem_of_getElem? (i := 13) rfl)
  have k230 := hts (.fieldLink RX7 230 "SongsAgainModel" "keptHeard" "I") (List.mem_of_getElem? (i := 15) rfl)
  have iX7 : ∀ w ∈ u_ws RX7 TX7 30, w ∈ wsX7_restore := vz_in (i := 26) (n := 30) rfl
  have hl := lv_entry ([.ref (g 0)]) (n := 1) (Nat.le_of_ble_eq_true rfl)
  rw [lg_entry_eq]
  generalize (lg_sl ([.ref (g 0)]) ++ List.replicate (1 - (lg_sl ([.ref (g 0)])).length) Slot.unset).toArray = ls at hl ⊢
  have hl : lv_has ls 1 [(0, .ref (g 0))] := hl
  have hP : va_P D vwCl (zM cI g pm rm rr st sg rn bg la ws pr ry hm xu xl sn kp kr kb kl kw kh hc pg rd rw ro be he kro khe) s.heap := hP
  refine lv_aload_n hx hb dX7_restore_0 rfl (lv_at hl 0 rfl) ?_
  refine va_get (D := D) (ci := 7) (v := .int kp) (C := RX7) (T := TX7) (N := 30) hx hb hts iX7 hown hK hP 0 rfl rfl 21 (by decide) k34 (fun _ h9 => h9) rfl dX7_restore_1 ?_
  refine lv_aload_n hx hb dX7_restore_4 rfl (lv_at hl 0 rfl) ?_
  refine va_get (D := D) (ci := 7) (v := .int (nI pr)) (C := RX7) (T := TX7) (N := 30) hx hb hts iX7 hown hK hP 0 rfl rfl 11 (by decide) k92 (fun _ h9 => h9) rfl dX7_restore_5 ?_
  refine lv_icmp_eq (tgt := 14) hx hb dX7_restore_8 (by decide) (fun c_8 => ?_) (fun c_8 => ?_)
  · skip
    refine lv_aload_n hx hb dX7_restore_14 rfl (lv_at hl 0 rfl) ?_
    refine va_get (D := D) (ci := 7) (v := .ref (g 7)) (C := RX7) (T := TX7) (N := 30) hx hb hts iX7 hown hK hP 0 rfl rfl 27 (by decide) k28 (fun _ h9 => h9) rfl dX7_restore_15 ?_
    refine lv_aload_n hx hb dX7_restore_18 rfl (lv_at hl 0 rfl) ?_
    refine va_get (D := D) (ci := 7) (v := .ref (g 3)) (C := RX7) (T := TX7) (N := 30) hx hb hts iX7 hown hK hP 0 rfl rfl 12 (by decide) k16 (fun _ h9 => h9) rfl dX7_restore_19 ?_
    have hPc := (hP.sub (ws' := (zArrArr cI (g 7) (g 3) 24 kro rw)) [7, 3] rfl)
    have hDc := hD.sub (ws' := (zArrArr cI (g 7) (g 3) 24 kro rw)) [7, 3] rfl rfl
    have hFc := va_free (wc := (zArrArr cI (g 7) (g 3) 24 kro rw)) hD hS hA [7, 3] rfl
    refine va_callv (va_runS (As := [.ref (g 7), .ref (g 3)]) (rest := []) ⟨hx, hb, hml, hown, hts⟩ (c_X7_copy l D cI (g 7) (g 3) 24 kro rw s.heap.size (by decide)) (va_cwS 2 hts gX7_restore_X7_copy rfl rfl rfl (by decide +kernel) ⟨Nat.le_of_ble_eq_true rfl, Nat.le_of_ble_eq_true rfl⟩) (vz_psW hZ hPc hDc) rfl rfl hl.1 rfl (lv_room (Nat.le_of_ble_eq_true rfl)) dX7_restore_22 ⟨Nat.zero_le _, Nat.zero_le _⟩) hS (fun q _ h => hFc q h) hFc (fun u_22 t H_22 locs_22 ht hvm hw hB hz1 hk1 hS9 => ?_)
    rw [ht] at hB
    replace hP : va_P D vwCl (zM cI g pm rm rr st sg rn bg la ws pr ry hm xu xl sn kp kr kb kl kw kh hc pg rd (rw_cp kro rw 24) ro be he kro khe) H_22 := vz_join (w1 := (zArrArr cI (g 7) (g 3) 24 kro (rw_cp kro rw 24))) hP hD [7, 3] rfl rfl hk1 hB
    replace hD : va_D A (zM cI g pm rm rr st sg rn bg la ws pr ry hm xu xl sn kp kr kb kl kw kh hc pg rd (rw_cp kro rw 24) ro be he kro khe) := vz_same hD rfl
    replace hS := hS9
    clear hS9 hPc hDc hFc hB hk1 hz1
    refine lv_aload_n hx hb dX7_restore_25 rfl (lv_at hl 0 rfl) ?_
    refine va_get (D := D) (ci := 7) (v := .ref (g 8)) (C := RX7) (T := TX7) (N := 30) hx hb hts iX7 hown hK hP 0 rfl rfl 28 (by decide) k31 (fun _ h9 => h9) rfl dX7_restore_26 ?_
    refine lv_aload_n hx hb dX7_restore_29 rfl (lv_at hl 0 rfl) ?_
    refine va_get (D := D) (ci := 7) (v := .ref (g 6)) (C := RX7) (T := TX7) (N := 30) hx hb hts iX7 hown hK hP 0 rfl rfl 17 (by decide) k25 (fun _ h9 => h9) rfl dX7_restore_30 ?_
    have hPc := (hP.sub (ws' := (zArrArr cI (g 8) (g 6) 8 khe he)) [8, 6] rfl)
    have hDc := hD.sub (ws' := (zArrArr cI (g 8) (g 6) 8 khe he)) [8, 6] rfl rfl
    have hFc := va_free (wc := (zArrArr cI (g 8) (g 6) 8 khe he)) hD hS hA [8, 6] rfl
    refine va_callv (va_runS (As := [.ref (g 8), .ref (g 6)]) (rest := []) ⟨hx, hb, hml, hown, hts⟩ (c_X7_copy l D cI (g 8) (g 6) 8 khe he H_22.size (by decide)) (va_cwS 2 hts gX7_restore_X7_copy rfl rfl rfl (by decide +kernel) ⟨Nat.le_of_ble_eq_true rfl, Nat.le_of_ble_eq_true rfl⟩) (vz_psW hZ hPc hDc) rfl rfl hl.1 rfl (lv_room (Nat.le_of_ble_eq_true rfl)) dX7_restore_33 ⟨Nat.zero_le _, Nat.zero_le _⟩) hS (fun q _ h => hFc q h) hFc (fun u_33 t H_33 locs_33 ht hvm hw hB hz1 hk1 hS9 => ?_)
    rw [ht] at hB
    replace hP : va_P D vwCl (zM cI g pm rm rr st sg rn bg la ws pr ry hm xu xl sn kp kr kb kl kw kh hc pg rd (rw_cp kro rw 24) ro be (rw_cp khe he 8) kro khe) H_33 := vz_join (w1 := (zArrArr cI (g 8) (g 6) 8 khe (rw_cp khe he 8))) hP hD [8, 6] rfl rfl hk1 hB
    replace hD : va_D A (zM cI g pm rm rr st sg rn bg la ws pr ry hm xu xl sn kp kr kb kl kw kh hc pg rd (rw_cp kro rw 24) ro be (rw_cp khe he 8) kro khe) := vz_same hD rfl
    replace hS := hS9
    clear hS9 hPc hDc hFc hB hk1 hz1
    refine lv_aload_n hx hb dX7_restore_36 rfl (lv_at hl 0 rfl) ?_
    refine lv_aload_n hx hb dX7_restore_37 rfl (lv_at hl 0 rfl) ?_
    refine va_get (D := D) (ci := 7) (v := .int kr) (C := RX7) (T := TX7) (N := 30) hx hb hts iX7 hown hK hP 0 rfl rfl 22 (by decide) k218 (fun _ h9 => h9) rfl dX7_restore_38 ?_
    refine va_put (D := D) (ci := 7) (v := .int kr) (ty := .int) (C := RX7) (T := TX7) (N := 30) hx hb hts iX7 tyX7 tyX7_ok nmX7 hown hK hP hD hS 0 rfl rfl 7 (by decide) k76 (fun _ h9 => h9) rfl (by decide +kernel) rfl rfl (Nat.le_of_ble_eq_true rfl) dX7_restore_41 (fun H_41 locs_41 hP9 hD9 hS9 => ?_)
    replace hP : va_P D vwCl (zM cI g pm rm rr st sg kr bg la ws pr ry hm xu xl sn kp kr kb kl kw kh hc pg rd (rw_cp kro rw 24) ro be (rw_cp khe he 8) kro khe) H_41 := hP9
    replace hD : va_D A (zM cI g pm rm rr st sg kr bg la ws pr ry hm xu xl sn kp kr kb kl kw kh hc pg rd (rw_cp kro rw 24) ro be (rw_cp khe he 8) kro khe) := hD9
    replace hS := hS9
    clear hP9 hD9 hS9
    refine lv_aload_n hx hb dX7_restore_44 rfl (lv_at hl 0 rfl) ?_
    refine lv_aload_n hx hb dX7_restore_45 rfl (lv_at hl 0 rfl) ?_
    refine va_get (D := D) (ci := 7) (v := .int kb) (C := RX7) (T := TX7) (N := 30) hx hb hts iX7 hown hK hP 0 rfl rfl 23 (by decide) k221 (fun _ h9 => h9) rfl dX7_restore_46 ?_
    refine va_put (D := D) (ci := 7) (v := .int kb) (ty := .int) (C := RX7) (T := TX7) (N := 30) hx hb hts iX7 tyX7 tyX7_ok nmX7 hown hK hP hD hS 0 rfl rfl 8 (by decide) k82 (fun _ h9 => h9) rfl (by decide +kernel) rfl rfl (Nat.le_of_ble_eq_true rfl) dX7_restore_49 (fun H_49 locs_49 hP9 hD9 hS9 => ?_)
    replace hP : va_P D vwCl (zM cI g pm rm rr st sg kr kb la ws pr ry hm xu xl sn kp kr kb kl kw kh hc pg rd (rw_cp kro rw 24) ro be (rw_cp khe he 8) kro khe) H_49 := hP9
    replace hD : va_D A (zM cI g pm rm rr st sg kr kb la ws pr ry hm xu xl sn kp kr kb kl kw kh hc pg rd (rw_cp kro rw 24) ro be (rw_cp khe he 8) kro khe) := hD9
    replace hS := hS9
    clear hP9 hD9 hS9
    refine lv_aload_n hx hb dX7_restore_52 rfl (lv_at hl 0 rfl) ?_
    refine lv_aload_n hx hb dX7_restore_53 rfl (lv_at hl 0 rfl) ?_
    refine va_get (D := D) (ci := 7) (v := .int kl) (C := RX7) (T := TX7) (N := 30) hx hb hts iX7 hown hK hP 0 rfl rfl 24 (by decide) k224 (fun _ h9 => h9) rfl dX7_restore_54 ?_
    refine va_put (D := D) (ci := 7) (v := .int kl) (ty := .int) (C := RX7) (T := TX7) (N := 30) hx hb hts iX7 tyX7 tyX7_ok nmX7 hown hK hP hD hS 0 rfl rfl 9 (by decide) k38 (fun _ h9 => h9) rfl (by decide +kernel) rfl rfl (Nat.le_of_ble_eq_true rfl) dX7_restore_57 (fun H_57 locs_57 hP9 hD9 hS9 => ?_)
    replace hP : va_P D vwCl (zM cI g pm rm rr st sg kr kb kl ws pr ry hm xu xl sn kp kr kb kl kw kh hc pg rd (rw_cp kro rw 24) ro be (rw_cp khe he 8) kro khe) H_57 := hP9
    replace hD : va_D A (zM cI g pm rm rr st sg kr kb kl ws pr ry hm xu xl sn kp kr kb kl kw kh hc pg rd (rw_cp kro rw 24) ro be (rw_cp khe he 8) kro khe) := hD9
    replace hS := hS9
    clear hP9 hD9 hS9
    refine lv_aload_n hx hb dX7_restore_60 rfl (lv_at hl 0 rfl) ?_
    refine lv_aload_n hx hb dX7_restore_61 rfl (lv_at hl 0 rfl) ?_
    refine va_get (D := D) (ci := 7) (v := .int (vz_b kw)) (C := RX7) (T := TX7) (N := 30) hx hb hts iX7 hown hK hP 0 rfl rfl 25 (by decide) k227 (fun _ h9 => h9) rfl dX7_restore_62 ?_
    refine va_put (D := D) (ci := 7) (v := .int (vz_b kw)) (ty := .boolean) (C := RX7) (T := TX7) (N := 30) hx hb hts iX7 tyX7 tyX7_ok nmX7 hown hK hP hD hS 0 rfl rfl 10 (by decide) k85 (fun _ h9 => h9) rfl (by decide +kernel) (vz_nb _) (vz_fb _) (Nat.le_of_ble_eq_true rfl) dX7_restore_65 (fun H_65 locs_65 hP9 hD9 hS9 => ?_)
    replace hP : va_P D vwCl (zM cI g pm rm rr st sg kr kb kl kw pr ry hm xu xl sn kp kr kb kl kw kh hc pg rd (rw_cp kro rw 24) ro be (rw_cp khe he 8) kro khe) H_65 := hP9
    replace hD : va_D A (zM cI g pm rm rr st sg kr kb kl kw pr ry hm xu xl sn kp kr kb kl kw kh hc pg rd (rw_cp kro rw 24) ro be (rw_cp khe he 8) kro khe) := hD9
    replace hS := hS9
    clear hP9 hD9 hS9
    refine lv_aload_n hx hb dX7_restore_68 rfl (lv_at hl 0 rfl) ?_
    refine lv_aload_n hx hb dX7_restore_69 rfl (lv_at hl 0 rfl) ?_
    refine va_get (D := D) (ci := 7) (v := .int (nI kh)) (C := RX7) (T := TX7) (N := 30) hx hb hts iX7 hown hK hP 0 rfl rfl 26 (by decide) k230 (fun _ h9 => h9) rfl dX7_restore_70 ?_
    refine va_put (D := D) (ci := 7) (v := .int (nI kh)) (ty := .int) (C := RX7) (T := TX7) (N := 30) hx hb hts iX7 tyX7 tyX7_ok nmX7 hown hK hP hD hS 0 rfl rfl 16 (by decide) k89 (fun _ h9 => h9) rfl (by decide +kernel) rfl rfl (Nat.le_of_ble_eq_true rfl) dX7_restore_73 (fun H_73 locs_73 hP9 hD9 hS9 => ?_)
    replace hP : va_P D vwCl (zM cI g pm rm rr st sg kr kb kl kw pr ry kh xu xl sn kp kr kb kl kw kh hc pg rd (rw_cp kro rw 24) ro be (rw_cp khe he 8) kro khe) H_73 := hP9
    replace hD : va_D A (zM cI g pm rm rr st sg kr kb kl kw pr ry kh xu xl sn kp kr kb kl kw kh hc pg rd (rw_cp kro rw 24) ro be (rw_cp khe he 8) kro khe) := hD9
    replace hS := hS9
    clear hP9 hD9 hS9
    refine lv_aload_n hx hb dX7_restore_76 rfl (lv_at hl 0 rfl) ?_
    refine lv_iconst (v := 2) hx hb dX7_restore_77 (by decide) ?_
    refine vp_callSi (W.runV (As := [.int 2]) (rest := []) ⟨hx, hb, hml, hown, hts⟩ (c_X7_sumAt l D cI g pm rm rr st sg kr kb kl kw pr ry kh xu xl sn kp kr kb kl kw kh hc pg rd (rw_cp kro rw 24) ro be (rw_cp khe he 8) kro khe 2 (by first | assumption | omega) (by first | assumption | omega)) (cwV 1 hts gX7_restore_X7_sumAt rfl rfl rfl (by decide +kernel) ⟨Nat.le_of_ble_eq_true rfl, Nat.le_of_ble_eq_true rfl⟩) (vz_pvR (va_recv hK hP (ci := 7) (q0 := 0) rfl rfl) hZ hP) rfl rfl hl.1 rfl (lv_room (Nat.le_of_ble_eq_true rfl)) dX7_restore_78 ⟨Nat.zero_le _, Nat.zero_le _⟩) (fun r_78 hr_78 => ?_)
    subst hr_78
    have en_rn : pl_n (mre kp pr) (kr) rn = kr := by first | rfl | (simp only [pl_n, mre, if_pos c_8]; done) | (simp only [pl_n, mre, if_pos c_8]; rfl) | (simp only [pl_n, mre, c_8, ↓reduceIte, Bool.false_eq_true, if_true, if_false, reduceCtorEq, not_true_eq_false, not_false_eq_true, eq_self]; done) | (simp only [pl_n, mre, c_8, ↓reduceIte, Bool.false_eq_true, if_true, if_false, reduceCtorEq, not_true_eq_false, not_false_eq_true, eq_self]; rfl) | (simp [pl_n, mre, c_8]; done)
    have en_bg : pl_n (mre kp pr) (kb) bg = kb := by first | rfl | (simp only [pl_n, mre, if_pos c_8]; done) | (simp only [pl_n, mre, if_pos c_8]; rfl) | (simp only [pl_n, mre, c_8, ↓reduceIte, Bool.false_eq_true, if_true, if_false, reduceCtorEq, not_true_eq_false, not_false_eq_true, eq_self]; done) | (simp only [pl_n, mre, c_8, ↓reduceIte, Bool.false_eq_true, if_true, if_false, reduceCtorEq, not_true_eq_false, not_false_eq_true, eq_self]; rfl) | (simp [pl_n, mre, c_8]; done)
    have en_la : pl_n (mre kp pr) (kl) la = kl := by first | rfl | (simp only [pl_n, mre, if_pos c_8]; done) | (simp only [pl_n, mre, if_pos c_8]; rfl) | (simp only [pl_n, mre, c_8, ↓reduceIte, Bool.false_eq_true, if_true, if_false, reduceCtorEq, not_true_eq_false, not_false_eq_true, eq_self]; done) | (simp only [pl_n, mre, c_8, ↓reduceIte, Bool.false_eq_true, if_true, if_false, reduceCtorEq, not_true_eq_false, not_false_eq_true, eq_self]; rfl) | (simp [pl_n, mre, c_8]; done)
    have en_ws : pl_n (mre kp pr) (kw) ws = kw := by first | rfl | (simp only [pl_n, mre, if_pos c_8]; done) | (simp only [pl_n, mre, if_pos c_8]; rfl) | (simp only [pl_n, mre, c_8, ↓reduceIte, Bool.false_eq_true, if_true, if_false, reduceCtorEq, not_true_eq_false, not_false_eq_true, eq_self]; done) | (simp only [pl_n, mre, c_8, ↓reduceIte, Bool.false_eq_true, if_true, if_false, reduceCtorEq, not_true_eq_false, not_false_eq_true, eq_self]; rfl) | (simp [pl_n, mre, c_8]; done)
    have en_hm : pl_n (mre kp pr) (kh) hm = kh := by first | rfl | (simp only [pl_n, mre, if_pos c_8]; done) | (simp only [pl_n, mre, if_pos c_8]; rfl) | (simp only [pl_n, mre, c_8, ↓reduceIte, Bool.false_eq_true, if_true, if_false, reduceCtorEq, not_true_eq_false, not_false_eq_true, eq_self]; done) | (simp only [pl_n, mre, c_8, ↓reduceIte, Bool.false_eq_true, if_true, if_false, reduceCtorEq, not_true_eq_false, not_false_eq_true, eq_self]; rfl) | (simp [pl_n, mre, c_8]; done)
    have en_rw : pl_n (mre kp pr) (rw_cp kro rw 24) rw = rw_cp kro rw 24 := by first | rfl | (simp only [pl_n, mre, if_pos c_8]; done) | (simp only [pl_n, mre, if_pos c_8]; rfl) | (simp only [pl_n, mre, c_8, ↓reduceIte, Bool.false_eq_true, if_true, if_false, reduceCtorEq, not_true_eq_false, not_false_eq_true, eq_self]; done) | (simp only [pl_n, mre, c_8, ↓reduceIte, Bool.false_eq_true, if_true, if_false, reduceCtorEq, not_true_eq_false, not_false_eq_true, eq_self]; rfl) | (simp [pl_n, mre, c_8]; done)
    have en_he : pl_n (mre kp pr) (rw_cp khe he 8) he = rw_cp khe he 8 := by first | rfl | (simp only [pl_n, mre, if_pos c_8]; done) | (simp only [pl_n, mre, if_pos c_8]; rfl) | (simp only [pl_n, mre, c_8, ↓reduceIte, Bool.false_eq_true, if_true, if_false, reduceCtorEq, not_true_eq_false, not_false_eq_true, eq_self]; done) | (simp only [pl_n, mre, c_8, ↓reduceIte, Bool.false_eq_true, if_true, if_false, reduceCtorEq, not_true_eq_false, not_false_eq_true, eq_self]; rfl) | (simp [pl_n, mre, c_8]; done)
    exact W.iret hx hb hr (fun t ht hW => ⟨⟨_, (), rfl, (by first | rfl | (simp only [pl_n, mre, if_pos c_8]; done) | (simp only [pl_n, mre, if_pos c_8]; rfl) | (simp only [pl_n, mre, c_8, ↓reduceIte, Bool.false_eq_true, if_true, if_false, reduceCtorEq, not_true_eq_false, not_false_eq_true, eq_self]; done) | (simp only [pl_n, mre, c_8, ↓reduceIte, Bool.false_eq_true, if_true, if_false, reduceCtorEq, not_true_eq_false, not_false_eq_true, eq_self]; rfl) | (simp [pl_n, mre, c_8]; done)), (by show va_P D vwCl (zM cI g pm rm rr st sg (pl_n (mre kp pr) (kr) rn) (pl_n (mre kp pr) (kb) bg) (pl_n (mre kp pr) (kl) la) (pl_n (mre kp pr) (kw) ws) pr ry (pl_n (mre kp pr) (kh) hm) xu xl sn kp kr kb kl kw kh hc pg rd (pl_n (mre kp pr) (rw_cp kro rw 24) rw) ro be (pl_n (mre kp pr) (rw_cp khe he 8) he) kro khe) t.heap; rw [ht, en_rn, en_bg, en_la, en_ws, en_hm, en_rw, en_he]; exact hP)⟩, hS.F ht⟩) hS.2.2 dX7_restore_81
  · skip
    refine lv_bipush (v := (-103)) hx hb dX7_restore_11 (by decide) ?_
    have en_rn : pl_n (mre kp pr) (kr) rn = rn := by first | rfl | (simp only [pl_n, mre, if_neg c_8]; done) | (simp only [pl_n, mre, if_neg c_8]; rfl) | (simp only [pl_n, mre, c_8, ↓reduceIte, Bool.false_eq_true, if_true, if_false, reduceCtorEq, not_true_eq_false, not_false_eq_true, eq_self]; done) | (simp only [pl_n, mre, c_8, ↓reduceIte, Bool.false_eq_true, if_true, if_false, reduceCtorEq, not_true_eq_false, not_false_eq_true, eq_self]; rfl) | (simp [pl_n, mre, c_8]; done)
    have en_bg : pl_n (mre kp pr) (kb) bg = bg := by first | rfl | (simp only [pl_n, mre, if_neg c_8]; done) | (simp only [pl_n, mre, if_neg c_8]; rfl) | (simp only [pl_n, mre, c_8, ↓reduceIte, Bool.false_eq_true, if_true, if_false, reduceCtorEq, not_true_eq_false, not_false_eq_true, eq_self]; done) | (simp only [pl_n, mre, c_8, ↓reduceIte, Bool.false_eq_true, if_true, if_false, reduceCtorEq, not_true_eq_false, not_false_eq_true, eq_self]; rfl) | (simp [pl_n, mre, c_8]; done)
    have en_la : pl_n (mre kp pr) (kl) la = la := by first | rfl | (simp only [pl_n, mre, if_neg c_8]; done) | (simp only [pl_n, mre, if_neg c_8]; rfl) | (simp only [pl_n, mre, c_8, ↓reduceIte, Bool.false_eq_true, if_true, if_false, reduceCtorEq, not_true_eq_false, not_false_eq_true, eq_self]; done) | (simp only [pl_n, mre, c_8, ↓reduceIte, Bool.false_eq_true, if_true, if_false, reduceCtorEq, not_true_eq_false, not_false_eq_true, eq_self]; rfl) | (simp [pl_n, mre, c_8]; done)
    have en_ws : pl_n (mre kp pr) (kw) ws = ws := by first | rfl | (simp only [pl_n, mre, if_neg c_8]; done) | (simp only [pl_n, mre, if_neg c_8]; rfl) | (simp only [pl_n, mre, c_8, ↓reduceIte, Bool.false_eq_true, if_true, if_false, reduceCtorEq, not_true_eq_false, not_false_eq_true, eq_self]; done) | (simp only [pl_n, mre, c_8, ↓reduceIte, Bool.false_eq_true, if_true, if_false, reduceCtorEq, not_true_eq_false, not_false_eq_true, eq_self]; rfl) | (simp [pl_n, mre, c_8]; done)
    have en_hm : pl_n (mre kp pr) (kh) hm = hm := by first | rfl | (simp only [pl_n, mre, if_neg c_8]; done) | (simp only [pl_n, mre, if_neg c_8]; rfl) | (simp only [pl_n, mre, c_8, ↓reduceIte, Bool.false_eq_true, if_true, if_false, reduceCtorEq, not_true_eq_false, not_false_eq_true, eq_self]; done) | (simp only [pl_n, mre, c_8, ↓reduceIte, Bool.false_eq_true, if_true, if_false, reduceCtorEq, not_true_eq_false, not_false_eq_true, eq_self]; rfl) | (simp [pl_n, mre, c_8]; done)
    have en_rw : pl_n (mre kp pr) (rw_cp kro rw 24) rw = rw := by first | rfl | (simp only [pl_n, mre, if_neg c_8]; done) | (simp only [pl_n, mre, if_neg c_8]; rfl) | (simp only [pl_n, mre, c_8, ↓reduceIte, Bool.false_eq_true, if_true, if_false, reduceCtorEq, not_true_eq_false, not_false_eq_true, eq_self]; done) | (simp only [pl_n, mre, c_8, ↓reduceIte, Bool.false_eq_true, if_true, if_false, reduceCtorEq, not_true_eq_false, not_false_eq_true, eq_self]; rfl) | (simp [pl_n, mre, c_8]; done)
    have en_he : pl_n (mre kp pr) (rw_cp khe he 8) he = he := by first | rfl | (simp only [pl_n, mre, if_neg c_8]; done) | (simp only [pl_n, mre, if_neg c_8]; rfl) | (simp only [pl_n, mre, c_8, ↓reduceIte, Bool.false_eq_true, if_true, if_false, reduceCtorEq, not_true_eq_false, not_false_eq_true, eq_self]; done) | (simp only [pl_n, mre, c_8, ↓reduceIte, Bool.false_eq_true, if_true, if_false, reduceCtorEq, not_true_eq_false, not_false_eq_true, eq_self]; rfl) | (simp [pl_n, mre, c_8]; done)
    exact W.iret hx hb hr (fun t ht hW => ⟨⟨_, (), rfl, (by first | rfl | (simp only [pl_n, mre, if_neg c_8]; done) | (simp only [pl_n, mre, if_neg c_8]; rfl) | (simp only [pl_n, mre, c_8, ↓reduceIte, Bool.false_eq_true, if_true, if_false, reduceCtorEq, not_true_eq_false, not_false_eq_true, eq_self]; done) | (simp only [pl_n, mre, c_8, ↓reduceIte, Bool.false_eq_true, if_true, if_false, reduceCtorEq, not_true_eq_false, not_false_eq_true, eq_self]; rfl) | (simp [pl_n, mre, c_8]; done)), (by show va_P D vwCl (zM cI g pm rm rr st sg (pl_n (mre kp pr) (kr) rn) (pl_n (mre kp pr) (kb) bg) (pl_n (mre kp pr) (kl) la) (pl_n (mre kp pr) (kw) ws) pr ry (pl_n (mre kp pr) (kh) hm) xu xl sn kp kr kb kl kw kh hc pg rd (pl_n (mre kp pr) (rw_cp kro rw 24) rw) ro be (pl_n (mre kp pr) (rw_cp khe he 8) he) kro khe) t.heap; rw [ht, en_rn, en_bg, en_la, en_ws, en_hm, en_rw, en_he]; exact hP)⟩, hS.F ht⟩) hS.2.2 dX7_restore_13
set_option maxHeartbeats 4000000 in
set_option maxRecDepth 100000 in
theorem c_X7_countOf (l : Launch) (D : va_G) (cI : ClassId) (g : Nat → Nat) (pm : Nat) (rm : Nat) (rr : Int32) (st : Nat) (sg : Nat) (rn : Int32) (bg : Int32) (la : Int32) (ws : Bool) (pr : Nat) (ry : Nat) (hm : Nat) (xu : Int64) (xl : Int64) (sn : Int32) (kp : Int32) (kr : Int32) (kb : Int32) (kl : Int32) (kw : Bool) (kh : Nat) (hc : Int64) (pg : Nat → Int32) (rd : Nat → Int32) (rw : Nat → Int32) (ro : Nat → Int32) (be : Nat → Int32) (he : Nat → Int32) (kro : Nat → Int32) (khe : Nat → Int32) (p0 : Int32) (hsg : sg ≤ 6) (hbf : la = -1 ∨ ∃ b : Nat, b < sg ∧ la = nI b) : Met l yX7_countOf wsX7_countOf ({ frames := 3, cells := 0, slots := 0, locals := 67 } : Room) (vz_ro D cI (zM cI g pm rm rr st sg rn bg la ws pr ry hm xu xl sn kp kr kb kl kw kh hc pg rd rw ro be he kro khe) [.ref (g 0), .int p0]) (vp_Si (fun r => r = mct sg rw rn bg la hm pm pr p0)) 0 0 (fun _ => False) := by
  refine Met.ofW (cc := cX7_countOf) (maxL := 2) (ret := (some .int)) (by decide) rfl ?_
  intro p e s m args below meth c s₁ B hml hv
  obtain ⟨rfl, hP, hZ⟩ := hv
  obtain ⟨hK, hN⟩ := id hZ
  have hx := B.exec
  have hb := B.bytes
  have hr := B.returns
  have hts := atoms_spec (ws := wsX7_countOf) B.pre
  have hown : s.vm.findClass RX7 = some m.cls := findClass_of_methodNamed B.named
  have hlocks := B.notSynchronized
  have k38 := hts (.fieldLink RX7 38 "SongsAgainModel" "last" "I") (List.mem_of_getElem? (i := 4) rfl)
  have k47 := hts (.fieldLink RX7 47 "SongsAgainModel" "pageMany" "I") (List.mem_of_getElem? (i := 6) rfl)
  have k73 := hts (.fieldLink RX7 73 "SongsAgainModel" "songs" "I") (List.mem_of_getElem? (i := 1) rfl)
  have k76 := hts (.fieldLink RX7 76 "SongsAgainModel" "ruleNow" "I") (List.mem_of_getElem? (i := 2) rfl)
  have k82 := hts (.fieldLink RX7 82 "SongsAgainModel" "bag" "I") (List.mem_of_getElem? (i := 3) rfl)
  have k89 := hts (.fieldLink RX7 89 "SongsAgainModel" "heardMany" "I") (List.mem_of_getElem? (i := 5) rfl)
  have k92 := hts (.fieldLink RX7 92 "SongsAgainModel" "playersRead" "I") (List.mem_of_getElem? (i := 7) rfl)
  have iX7 : ∀ w ∈ u_ws RX7 TX7 30, w ∈ wsX7_countOf := vz_in (i := 41) (n := 30) rfl
  have hl := lv_entry ([.ref (g 0), .int p0]) (n := 2) (Nat.le_of_ble_eq_true rfl)
  rw [lg_entry_eq]
  generalize (lg_sl ([.ref (g 0), .int p0]) ++ List.replicate (2 - (lg_sl ([.ref (g 0), .int p0])).length) Slot.unset).toArray = ls at hl ⊢
  have hl : lv_has ls 2 [(0, .ref (g 0)), (1, .int p0)] := hl
  refine lv_iload_n hx hb dX7_countOf_0 rfl (lv_at hl 1 rfl) ?_
  rcases vz_tab p0 (0) (11) with c_1 | c_1
  · skip
    refine lv_tableOut (tgt := 132) hx hb dX7_countOf_1 c_1 (by decide) ?_
    have n_0 : ¬ p0 = 0 := fun q => by rw [q] at c_1 ; revert c_1 ; decide
    have n_1 : ¬ p0 = 1 := fun q => by rw [q] at c_1 ; revert c_1 ; decide
    have n_2 : ¬ p0 = 2 := fun q => by rw [q] at c_1 ; revert c_1 ; decide
    have n_3 : ¬ p0 = 3 := fun q => by rw [q] at c_1 ; revert c_1 ; decide
    have n_4 : ¬ p0 = 4 := fun q => by rw [q] at c_1 ; revert c_1 ; decide
    have n_5 : ¬ p0 = 5 := fun q => by rw [q] at c_1 ; revert c_1 ; decide
    have n_6 : ¬ p0 = 6 := fun q => by rw [q] at c_1 ; revert c_1 ; decide
    have n_7 : ¬ p0 = 7 := fun q => by rw [q] at c_1 ; revert c_1 ; decide
    have n_8 : ¬ p0 = 8 := fun q => by rw [q] at c_1 ; revert c_1 ; decide
    have n_9 : ¬ p0 = 9 := fun q => by rw [q] at c_1 ; revert c_1 ; decide
    have n_10 : ¬ p0 = 10 := fun q => by rw [q] at c_1 ; revert c_1 ; decide
    have n_11 : ¬ p0 = 11 := fun q => by rw [q] at c_1 ; revert c_1 ; decide
    refine lv_bipush (v := (-102)) hx hb dX7_countOf_132 (by decide) ?_
    exact W.iret hx hb hr (fun t ht hW => ⟨_, rfl, (by rw [mct, if_neg n_0, if_neg n_1, if_neg n_2, if_neg n_3, if_neg n_4, if_neg n_5, if_neg n_6, if_neg n_7, if_neg n_8, if_neg n_9, if_neg n_10, if_neg n_11]), ht⟩) (fun q h => absurd h List.not_mem_nil) dX7_countOf_134
  · skip
    obtain ⟨h1_1, h2_1⟩ := c_1
    rcases (show (p0 : Int32).toInt = 0 ∨ (p0 : Int32).toInt = 1 ∨ (p0 : Int32).toInt = 2 ∨ (p0 : Int32).toInt = 3 ∨ (p0 : Int32).toInt = 4 ∨ (p0 : Int32).toInt = 5 ∨ (p0 : Int32).toInt = 6 ∨ (p0 : Int32).toInt = 7 ∨ (p0 : Int32).toInt = 8 ∨ (p0 : Int32).toInt = 9 ∨ (p0 : Int32).toInt = 10 ∨ (p0 : Int32).toInt = 11 by omega) with c_1 | c_1 | c_1 | c_1 | c_1 | c_1 | c_1 | c_1 | c_1 | c_1 | c_1 | c_1
    · skip
      refine lv_tableIn (tgt := 64) (off := 63) hx hb dX7_countOf_1 h1_1 h2_1 (by rw [c_1]; rfl) (by decide) ?_
      replace c_1 : p0 = 0 := vz_toI c_1 (by decide)
      refine lv_aload_n hx hb dX7_countOf_64 rfl (lv_at hl 0 rfl) ?_
      refine va_get (D := D) (ci := 7) (v := .int (nI sg)) (C := RX7) (T := TX7) (N := 30) hx hb hts iX7 hown hK hP 0 rfl rfl 6 (by decide) k73 (fun _ h9 => h9) rfl dX7_countOf_65 ?_
      exact W.iret hx hb hr (fun t ht hW => ⟨_, rfl, (by subst c_1 ; rfl), ht⟩) (fun q h => absurd h List.not_mem_nil) dX7_countOf_68
    · skip
      refine lv_tableIn (tgt := 69) (off := 68) hx hb dX7_countOf_1 h1_1 h2_1 (by rw [c_1]; rfl) (by decide) ?_
      replace c_1 : p0 = 1 := vz_toI c_1 (by decide)
      refine lv_aload_n hx hb dX7_countOf_69 rfl (lv_at hl 0 rfl) ?_
      refine va_get (D := D) (ci := 7) (v := .int rn) (C := RX7) (T := TX7) (N := 30) hx hb hts iX7 hown hK hP 0 rfl rfl 7 (by decide) k76 (fun _ h9 => h9) rfl dX7_countOf_70 ?_
      exact W.iret hx hb hr (fun t ht hW => ⟨_, rfl, (by subst c_1 ; rfl), ht⟩) (fun q h => absurd h List.not_mem_nil) dX7_countOf_73
    · skip
      refine lv_tableIn (tgt := 74) (off := 73) hx hb dX7_countOf_1 h1_1 h2_1 (by rw [c_1]; rfl) (by decide) ?_
      replace c_1 : p0 = 2 := vz_toI c_1 (by decide)
      refine lv_aload_n hx hb dX7_countOf_74 rfl (lv_at hl 0 rfl) ?_
      refine lv_iconst (v := 2) hx hb dX7_countOf_75 (by decide) ?_
      refine vp_callSi (W.runV (As := [.int 2]) (rest := []) ⟨hx, hb, hml, hown, hts⟩ (c_X7_sumAt l D cI g pm rm rr st sg rn bg la ws pr ry hm xu xl sn kp kr kb kl kw kh hc pg rd rw ro be he kro khe 2 (by first | assumption | omega) (by first | assumption | omega)) (cwV 1 hts gX7_countOf_X7_sumAt rfl rfl rfl (by decide +kernel) ⟨Nat.le_of_ble_eq_true rfl, Nat.le_of_ble_eq_true rfl⟩) (vz_pvR (va_recv hK hP (ci := 7) (q0 := 0) rfl rfl) hZ hP) rfl rfl hl.1 rfl (lv_room (Nat.le_of_ble_eq_true rfl)) dX7_countOf_76 ⟨Nat.zero_le _, Nat.zero_le _⟩) (fun r_76 hr_76 => ?_)
      subst hr_76
      exact W.iret hx hb hr (fun t ht hW => ⟨_, rfl, (by subst c_1 ; rfl), ht⟩) (fun q h => absurd h List.not_mem_nil) dX7_countOf_79
    · skip
      refine lv_tableIn (tgt := 80) (off := 79) hx hb dX7_countOf_1 h1_1 h2_1 (by rw [c_1]; rfl) (by decide) ?_
      replace c_1 : p0 = 3 := vz_toI c_1 (by decide)
      refine lv_aload_n hx hb dX7_countOf_80 rfl (lv_at hl 0 rfl) ?_
      refine lv_iconst (v := 3) hx hb dX7_countOf_81 (by decide) ?_
      refine vp_callSi (W.runV (As := [.int 3]) (rest := []) ⟨hx, hb, hml, hown, hts⟩ (c_X7_sumAt l D cI g pm rm rr st sg rn bg la ws pr ry hm xu xl sn kp kr kb kl kw kh hc pg rd rw ro be he kro khe 3 (by first | assumption | omega) (by first | assumption | omega)) (cwV 1 hts gX7_countOf_X7_sumAt rfl rfl rfl (by decide +kernel) ⟨Nat.le_of_ble_eq_true rfl, Nat.le_of_ble_eq_true rfl⟩) (vz_pvR (va_recv hK hP (ci := 7) (q0 := 0) rfl rfl) hZ hP) rfl rfl hl.1 rfl (lv_room (Nat.le_of_ble_eq_true rfl)) dX7_countOf_82 ⟨Nat.zero_le _, Nat.zero_le _⟩) (fun r_82 hr_82 => ?_)
      subst hr_82
      exact W.iret hx hb hr (fun t ht hW => ⟨_, rfl, (by subst c_1 ; rfl), ht⟩) (fun q h => absurd h List.not_mem_nil) dX7_countOf_85
    · skip
      refine lv_tableIn (tgt := 86) (off := 85) hx hb dX7_countOf_1 h1_1 h2_1 (by rw [c_1]; rfl) (by decide) ?_
      replace c_1 : p0 = 4 := vz_toI c_1 (by decide)
      refine lv_aload_n hx hb dX7_countOf_86 rfl (lv_at hl 0 rfl) ?_
      refine vp_callSi (W.runV (As := []) (rest := []) ⟨hx, hb, hml, hown, hts⟩ (c_X7_minutesAll l D cI g pm rm rr st sg rn bg la ws pr ry hm xu xl sn kp kr kb kl kw kh hc pg rd rw ro be he kro khe (by first | assumption | omega)) (cwV 0 hts gX7_countOf_X7_minutesAll rfl rfl rfl (by decide +kernel) ⟨Nat.le_of_ble_eq_true rfl, Nat.le_of_ble_eq_true rfl⟩) (vz_pvR (va_recv hK hP (ci := 7) (q0 := 0) rfl rfl) hZ hP) rfl rfl hl.1 rfl (lv_room (Nat.le_of_ble_eq_true rfl)) dX7_countOf_87 ⟨Nat.zero_le _, Nat.zero_le _⟩) (fun r_87 hr_87 => ?_)
      subst hr_87
      exact W.iret hx hb hr (fun t ht hW => ⟨_, rfl, (by subst c_1 ; rfl), ht⟩) (fun q h => absurd h List.not_mem_nil) dX7_countOf_90
    · skip
      refine lv_tableIn (tgt := 91) (off := 90) hx hb dX7_countOf_1 h1_1 h2_1 (by rw [c_1]; rfl) (by decide) ?_
      replace c_1 : p0 = 5 := vz_toI c_1 (by decide)
      refine lv_aload_n hx hb dX7_countOf_91 rfl (lv_at hl 0 rfl) ?_
      refine vp_callSi (W.runV (As := []) (rest := []) ⟨hx, hb, hml, hown, hts⟩ (c_X7_unlike l D cI g pm rm rr st sg rn bg la ws pr ry hm xu xl sn kp kr kb kl kw kh hc pg rd rw ro be he kro khe (by first | assumption | omega)) (cwV 0 hts gX7_countOf_X7_unlike rfl rfl rfl (by decide +kernel) ⟨Nat.le_of_ble_eq_true rfl, Nat.le_of_ble_eq_true rfl⟩) (vz_pvR (va_recv hK hP (ci := 7) (q0 := 0) rfl rfl) hZ hP) rfl rfl hl.1 rfl (lv_room (Nat.le_of_ble_eq_true rfl)) dX7_countOf_92 ⟨Nat.zero_le _, Nat.zero_le _⟩) (fun r_92 hr_92 => ?_)
      subst hr_92
      exact W.iret hx hb hr (fun t ht hW => ⟨_, rfl, (by subst c_1 ; rfl), ht⟩) (fun q h => absurd h List.not_mem_nil) dX7_countOf_95
    · skip
      refine lv_tableIn (tgt := 96) (off := 95) hx hb dX7_countOf_1 h1_1 h2_1 (by rw [c_1]; rfl) (by decide) ?_
      replace c_1 : p0 = 6 := vz_toI c_1 (by decide)
      refine lv_aload_n hx hb dX7_countOf_96 rfl (lv_at hl 0 rfl) ?_
      refine va_get (D := D) (ci := 7) (v := .int bg) (C := RX7) (T := TX7) (N := 30) hx hb hts iX7 hown hK hP 0 rfl rfl 8 (by decide) k82 (fun _ h9 => h9) rfl dX7_countOf_97 ?_
      refine vp_callSi (W.runS (As := [.int bg]) (rest := []) ⟨hx, hb, hml, hown, hts⟩ (c_X7_ones l bg) (va_cwS 1 hts gX7_countOf_X7_ones rfl rfl rfl (by decide +kernel) ⟨Nat.le_of_ble_eq_true rfl, Nat.le_of_ble_eq_true rfl⟩) (vz_psS) rfl rfl hl.1 rfl (lv_room (Nat.le_of_ble_eq_true rfl)) dX7_countOf_100 ⟨Nat.zero_le _, Nat.zero_le _⟩) (fun r_100 hr_100 => ?_)
      subst hr_100
      exact W.iret hx hb hr (fun t ht hW => ⟨_, rfl, (by subst c_1 ; rfl), ht⟩) (fun q h => absurd h List.not_mem_nil) dX7_countOf_103
    · skip
      refine lv_tableIn (tgt := 104) (off := 103) hx hb dX7_countOf_1 h1_1 h2_1 (by rw [c_1]; rfl) (by decide) ?_
      replace c_1 : p0 = 7 := vz_toI c_1 (by decide)
      refine lv_aload_n hx hb dX7_countOf_104 rfl (lv_at hl 0 rfl) ?_
      refine vp_callSi (W.runV (As := []) (rest := []) ⟨hx, hb, hml, hown, hts⟩ (c_X7_mayNow l D cI g pm rm rr st sg rn bg la ws pr ry hm xu xl sn kp kr kb kl kw kh hc pg rd rw ro be he kro khe (by first | assumption | omega) (by first | assumption | omega)) (cwV 0 hts gX7_countOf_X7_mayNow rfl rfl rfl (by decide +kernel) ⟨Nat.le_of_ble_eq_true rfl, Nat.le_of_ble_eq_true rfl⟩) (vz_pvR (va_recv hK hP (ci := 7) (q0 := 0) rfl rfl) hZ hP) rfl rfl hl.1 rfl (lv_room (Nat.le_of_ble_eq_true rfl)) dX7_countOf_105 ⟨Nat.zero_le _, Nat.zero_le _⟩) (fun r_105 hr_105 => ?_)
      subst hr_105
      refine vp_callSi (W.runS (As := [.int (mo_may sg rw rn bg la)]) (rest := []) ⟨hx, hb, hml, hown, hts⟩ (c_X7_ones l (mo_may sg rw rn bg la)) (va_cwS 1 hts gX7_countOf_X7_ones rfl rfl rfl (by decide +kernel) ⟨Nat.le_of_ble_eq_true rfl, Nat.le_of_ble_eq_true rfl⟩) (vz_psS) rfl rfl hl.1 rfl (lv_room (Nat.le_of_ble_eq_true rfl)) dX7_countOf_108 ⟨Nat.zero_le _, Nat.zero_le _⟩) (fun r_108 hr_108 => ?_)
      subst hr_108
      exact W.iret hx hb hr (fun t ht hW => ⟨_, rfl, (by subst c_1 ; rfl), ht⟩) (fun q h => absurd h List.not_mem_nil) dX7_countOf_111
    · skip
      refine lv_tableIn (tgt := 112) (off := 111) hx hb dX7_countOf_1 h1_1 h2_1 (by rw [c_1]; rfl) (by decide) ?_
      replace c_1 : p0 = 8 := vz_toI c_1 (by decide)
      refine lv_aload_n hx hb dX7_countOf_112 rfl (lv_at hl 0 rfl) ?_
      refine va_get (D := D) (ci := 7) (v := .int la) (C := RX7) (T := TX7) (N := 30) hx hb hts iX7 hown hK hP 0 rfl rfl 9 (by decide) k38 (fun _ h9 => h9) rfl dX7_countOf_113 ?_
      exact W.iret hx hb hr (fun t ht hW => ⟨_, rfl, (by subst c_1 ; rfl), ht⟩) (fun q h => absurd h List.not_mem_nil) dX7_countOf_116
    · skip
      refine lv_tableIn (tgt := 117) (off := 116) hx hb dX7_countOf_1 h1_1 h2_1 (by rw [c_1]; rfl) (by decide) ?_
      replace c_1 : p0 = 9 := vz_toI c_1 (by decide)
      refine lv_aload_n hx hb dX7_countOf_117 rfl (lv_at hl 0 rfl) ?_
      refine va_get (D := D) (ci := 7) (v := .int (nI hm)) (C := RX7) (T := TX7) (N := 30) hx hb hts iX7 hown hK hP 0 rfl rfl 16 (by decide) k89 (fun _ h9 => h9) rfl dX7_countOf_118 ?_
      exact W.iret hx hb hr (fun t ht hW => ⟨_, rfl, (by subst c_1 ; rfl), ht⟩) (fun q h => absurd h List.not_mem_nil) dX7_countOf_121
    · skip
      refine lv_tableIn (tgt := 122) (off := 121) hx hb dX7_countOf_1 h1_1 h2_1 (by rw [c_1]; rfl) (by decide) ?_
      replace c_1 : p0 = 10 := vz_toI c_1 (by decide)
      refine lv_aload_n hx hb dX7_countOf_122 rfl (lv_at hl 0 rfl) ?_
      refine va_get (D := D) (ci := 7) (v := .int (nI pm)) (C := RX7) (T := TX7) (N := 30) hx hb hts iX7 hown hK hP 0 rfl rfl 1 (by decide) k47 (fun _ h9 => h9) rfl dX7_countOf_123 ?_
      exact W.iret hx hb hr (fun t ht hW => ⟨_, rfl, (by subst c_1 ; rfl), ht⟩) (fun q h => absurd h List.not_mem_nil) dX7_countOf_126
    · skip
      refine lv_tableIn (tgt := 127) (off := 126) hx hb dX7_countOf_1 h1_1 h2_1 (by rw [c_1]; rfl) (by decide) ?_
      replace c_1 : p0 = 11 := vz_toI c_1 (by decide)
      refine lv_aload_n hx hb dX7_countOf_127 rfl (lv_at hl 0 rfl) ?_
      refine va_get (D := D) (ci := 7) (v := .int (nI pr)) (C := RX7) (T := TX7) (N := 30) hx hb hts iX7 hown hK hP 0 rfl rfl 11 (by decide) k92 (fun _ h9 => h9) rfl dX7_countOf_128 ?_
      exact W.iret hx hb hr (fun t ht hW => ⟨_, rfl, (by subst c_1 ; rfl), ht⟩) (fun q h => absurd h List.not_mem_nil) dX7_countOf_131
set_option maxHeartbeats 4000000 in
set_option maxRecDepth 100000 in
theorem c_X7_count (l : Launch) (D : va_G) (cI : ClassId) (g : Nat → Nat) (pm : Nat) (rm : Nat) (rr : Int32) (st : Nat) (sg : Nat) (rn : Int32) (bg : Int32) (la : Int32) (ws : Bool) (pr : Nat) (ry : Nat) (hm : Nat) (xu : Int64) (xl : Int64) (sn : Int32) (kp : Int32) (kr : Int32) (kb : Int32) (kl : Int32) (kw : Bool) (kh : Nat) (hc : Int64) (pg : Nat → Int32) (rd : Nat → Int32) (rw : Nat → Int32) (ro : Nat → Int32) (be : Nat → Int32) (he : Nat → Int32) (kro : Nat → Int32) (khe : Nat → Int32) (p0 : Int32) (hsg : sg ≤ 6) (hbf : la = -1 ∨ ∃ b : Nat, b < sg ∧ la = nI b) : Met l yX7_count wsX7_count ({ frames := 4, cells := 0, slots := 0, locals := 88 } : Room) (vz_ro D cI (zM cI g pm rm rr st sg rn bg la ws pr ry hm xu xl sn kp kr kb kl kw kh hc pg rd rw ro be he kro khe) [.ref (g 0), .int p0]) (vp_Si (fun r => r = mct sg rw rn bg la hm pm pr p0)) 0 0 (fun _ => False) := by
  refine Met.ofW (cc := cX7_count) (maxL := 2) (ret := (some .int)) (by decide) rfl ?_
  intro p e s m args below meth c s₁ B hml hv
  obtain ⟨rfl, hP, hZ⟩ := hv
  obtain ⟨hK, hN⟩ := id hZ
  have hx := B.exec
  have hb := B.bytes
  have hr := B.returns
  have hts := atoms_spec (ws := wsX7_count) B.pre
  have hown : s.vm.findClass RX7 = some m.cls := findClass_of_methodNamed B.named
  have hlocks := B.notSynchronized
  have hl := lv_entry ([.ref (g 0), .int p0]) (n := 2) (Nat.le_of_ble_eq_true rfl)
  rw [lg_entry_eq]
  generalize (lg_sl ([.ref (g 0), .int p0]) ++ List.replicate (2 - (lg_sl ([.ref (g 0), .int p0])).length) Slot.unset).toArray = ls at hl ⊢
  have hl : lv_has ls 2 [(0, .ref (g 0)), (1, .int p0)] := hl
  refine lv_aload_n hx hb dX7_count_0 rfl (lv_at hl 0 rfl) ?_
  refine lv_iload_n hx hb dX7_count_1 rfl (lv_at hl 1 rfl) ?_
  refine vp_callSi (W.runV (As := [.int p0]) (rest := []) ⟨hx, hb, hml, hown, hts⟩ (c_X7_countOf l D cI g pm rm rr st sg rn bg la ws pr ry hm xu xl sn kp kr kb kl kw kh hc pg rd rw ro be he kro khe p0 (by first | assumption | omega) (by first | assumption | omega)) (cwV 1 hts gX7_count_X7_countOf rfl rfl rfl (by decide +kernel) ⟨Nat.le_of_ble_eq_true rfl, Nat.le_of_ble_eq_true rfl⟩) (vz_pvR (va_recv hK hP (ci := 7) (q0 := 0) rfl rfl) hZ hP) rfl rfl hl.1 rfl (lv_room (Nat.le_of_ble_eq_true rfl)) dX7_count_2 ⟨Nat.zero_le _, Nat.zero_le _⟩) (fun r_2 hr_2 => ?_)
  subst hr_2
  exact W.iret hx hb hr (fun t ht hW => ⟨_, rfl, (by first | rfl | (rfl; done) | (rfl; rfl) | (rfl; done) | (rfl; rfl) | (simp; done)), ht⟩) (fun q h => absurd h List.not_mem_nil) dX7_count_5
set_option maxHeartbeats 4000000 in
set_option maxRecDepth 100000 in
theorem c_X7_say (l : Launch) (D : va_G) (cI : ClassId) (g : Nat → Nat) (pm : Nat) (rm : Nat) (rr : Int32) (st : Nat) (sg : Nat) (rn : Int32) (bg : Int32) (la : Int32) (ws : Bool) (pr : Nat) (ry : Nat) (hm : Nat) (xu : Int64) (xl : Int64) (sn : Int32) (kp : Int32) (kr : Int32) (kb : Int32) (kl : Int32) (kw : Bool) (kh : Nat) (hc : Int64) (pg : Nat → Int32) (rd : Nat → Int32) (rw : Nat → Int32) (ro : Nat → Int32) (be : Nat → Int32) (he : Nat → Int32) (kro : Nat → Int32) (khe : Nat → Int32) (sz : Nat) (p0 : Int64) : Met l yX7_say wsX7_say ({ frames := 0, cells := 0, slots := 0, locals := 0 } : Room) (vz_rw D cI (zM cI g pm rm rr st sg rn bg la ws pr ry hm xu xl sn kp kr kb kl kw kh hc pg rd rw ro be he kro khe) sz [.ref (g 0), .long p0]) (va_Qv (fun (_ : Unit) => True) (fun (u : Unit) (t : State) => va_P D vwCl (zM cI g pm rm rr st sg rn bg la ws pr ry hm xu xl sn kp kr kb kl kw kh (31 * hc + p0) pg rd rw ro be he kro khe) t.heap) (va_A (zM cI g pm rm rr st sg rn bg la ws pr ry hm xu xl sn kp kr kb kl kw kh hc pg rd rw ro be he kro khe) sz)) 0 0 (va_A (zM cI g pm rm rr st sg rn bg la ws pr ry hm xu xl sn kp kr kb kl kw kh hc pg rd rw ro be he kro khe) sz) := by
  refine Met.ofW (cc := cX7_say) (maxL := 3) (ret := none) (by decide) rfl ?_
  intro p e s m args below meth c s₁ B hml hv
  obtain ⟨rfl, hsz, hP, hZ, hD0⟩ := hv
  obtain ⟨hK, hN⟩ := id hZ
  have hx := B.exec
  have hb := B.bytes
  have hr := B.returns
  have hts := atoms_spec (ws := wsX7_say) B.pre
  have hown : s.vm.findClass RX7 = some m.cls := findClass_of_methodNamed B.named
  have hlocks := B.notSynchronized
  subst hsz
  have hD := hD0.self (sz := s.heap.size)
  generalize hAe : va_A (zM cI g pm rm rr st sg rn bg la ws pr ry hm xu xl sn kp kr kb kl kw kh hc pg rd rw ro be he kro khe) s.heap.size = A at hD ⊢
  have hA : ∀ q : Nat, s.heap.size ≤ q → A q := fun q h => by rw [← hAe]; exact Or.inr h
  have hS : va_S A s.heap s.heap [] := va_S.rf
  have k247 := hts (.fieldLink RX7 247 "SongsAgainModel" "hash" "J") (List.mem_of_getElem? (i := 2) rfl)
  have iX7 : ∀ w ∈ u_ws RX7 TX7 30, w ∈ wsX7_say := vz_in (i := 3) (n := 30) rfl
  have hl := lv_entry ([.ref (g 0), .long p0]) (n := 3) (Nat.le_of_ble_eq_true rfl)
  rw [lg_entry_eq]
  generalize (lg_sl ([.ref (g 0), .long p0]) ++ List.replicate (3 - (lg_sl ([.ref (g 0), .long p0])).length) Slot.unset).toArray = ls at hl ⊢
  have hl : lv_has ls 3 [(0, .ref (g 0)), (1, .long p0)] := hl
  have hP : va_P D vwCl (zM cI g pm rm rr st sg rn bg la ws pr ry hm xu xl sn kp kr kb kl kw kh hc pg rd rw ro be he kro khe) s.heap := hP
  refine lv_aload_n hx hb dX7_say_0 rfl (lv_at hl 0 rfl) ?_
  refine lv_ldc2 (v := 31) hx hb hown (hts (.constantLong RX7 245 (31)) (List.mem_of_getElem? (i := 1) rfl)) dX7_say_1 ?_
  refine lv_aload_n hx hb dX7_say_4 rfl (lv_at hl 0 rfl) ?_
  refine va_get (D := D) (ci := 7) (v := .long hc) (C := RX7) (T := TX7) (N := 30) hx hb hts iX7 hown hK hP 0 rfl rfl 29 (by decide) k247 (fun _ h9 => h9) rfl dX7_say_5 ?_
  refine lv_lmul hx hb dX7_say_8 ?_
  refine lv_lload_n hx hb dX7_say_9 rfl (lv_at hl 1 rfl) ?_
  refine lv_ladd hx hb dX7_say_10 ?_
  refine va_put (D := D) (ci := 7) (v := .long ((31 * hc) + p0)) (ty := .long) (C := RX7) (T := TX7) (N := 30) hx hb hts iX7 tyX7 tyX7_ok nmX7 hown hK hP hD hS 0 rfl rfl 29 (by decide) k247 (fun _ h9 => h9) rfl (by decide +kernel) rfl rfl (Nat.le_of_ble_eq_true rfl) dX7_say_11 (fun H_11 locs_11 hP9 hD9 hS9 => ?_)
  replace hP : va_P D vwCl (zM cI g pm rm rr st sg rn bg la ws pr ry hm xu xl sn kp kr kb kl kw kh ((31 * hc) + p0) pg rd rw ro be he kro khe) H_11 := hP9
  replace hD : va_D A (zM cI g pm rm rr st sg rn bg la ws pr ry hm xu xl sn kp kr kb kl kw kh ((31 * hc) + p0) pg rd rw ro be he kro khe) := hD9
  replace hS := hS9
  clear hP9 hD9 hS9
  have en_hc : 31 * hc + p0 = (31 * hc) + p0 := by first | rfl | (rfl; done) | (rfl; rfl) | (rfl; done) | (rfl; rfl) | (simp; done)
  exact W.vret hx hb hr (fun t ht hW => ⟨⟨(), rfl, trivial, (by show va_P D vwCl (zM cI g pm rm rr st sg rn bg la ws pr ry hm xu xl sn kp kr kb kl kw kh (31 * hc + p0) pg rd rw ro be he kro khe) t.heap; rw [ht, en_hc]; exact hP)⟩, hS.F ht⟩) hS.2.2 dX7_say_14

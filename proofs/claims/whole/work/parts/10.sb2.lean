set_option maxHeartbeats 4000000 in
set_option maxRecDepth 100000 in
theorem c_X6_reckonHeard (l : Launch) (D : va_G) (cI : ClassId) (h : Nat → Nat) (len : Nat) (cd : Nat → Int32) (nm : Nat) (ks : Nat → Int32) (gs : Nat → Int32) (wt : Nat → Int32) (mi : Nat → Int32) (pl : Nat → Int32) (sk : Nat → Int32) (he : Nat → Int32) (nh : Nat) (ru : Int32) (bg : Int32) (la : Int32) (sd : Bool) (pl2 : Nat → Int32) (sk2 : Nat → Int32) (he2 : Nat → Int32) (nh2 : Nat) (ru2 : Int32) (bg2 : Int32) (la2 : Int32) (sd2 : Bool) (u0 : Int64) (l0 : Int64) (u1 : Int64) (l1 : Int64) (u2 : Int64) (l2 : Int64) (wy : Nat → Int32) (fi : Nat → Int32) (fl : Int32) (nu : Int32) (ik : Bool) (pr : Nat) (sz : Nat) (p0 : Int32) (hnm : nm ≤ 6) (hnh : nh ≤ 8) : Met l yX6_reckonHeard wsX6_reckonHeard ({ frames := 3, cells := 0, slots := 0, locals := 80 } : Room) (vz_rw D cI (zSA cI h len cd nm ks gs wt mi pl sk he nh ru bg la sd pl2 sk2 he2 nh2 ru2 bg2 la2 sd2 u0 l0 u1 l1 u2 l2 wy fi fl nu ik pr) sz [.ref (h 0), .int p0]) (va_Qv (fun (_ : Unit) => True) (fun (u : Unit) (t : State) => va_P D vwCl (zSA cI h len cd nm ks gs wt mi pl sk he nh ru bg la sd pl2 sk2 he2 nh2 ru2 bg2 la2 sd2 u0 l0 ((hd nm ks gs wt he nh p0).1) ((hd nm ks gs wt he nh p0).2) u2 l2 wy fi fl nu ik pr) t.heap) (va_A (zSA cI h len cd nm ks gs wt mi pl sk he nh ru bg la sd pl2 sk2 he2 nh2 ru2 bg2 la2 sd2 u0 l0 u1 l1 u2 l2 wy fi fl nu ik pr) sz)) 0 0 (va_A (zSA cI h len cd nm ks gs wt mi pl sk he nh ru bg la sd pl2 sk2 he2 nh2 ru2 bg2 la2 sd2 u0 l0 u1 l1 u2 l2 wy fi fl nu ik pr) sz) := by
  refine Met.ofW (cc := cX6_reckonHeard) (maxL := 7) (ret := none) (by decide) rfl ?_
  intro p e s m args below meth c s₁ B hml hv
  obtain ⟨rfl, hsz, hP, hZ, hD0⟩ := hv
  obtain ⟨hK, hN⟩ := id hZ
  have hx := B.exec
  have hb := B.bytes
  have hr := B.returns
  have hts := atoms_spec (ws := wsX6_reckonHeard) B.pre
  have hown : s.vm.findClass RX6 = some m.cls := findClass_of_methodNamed B.named
  have hlocks := B.notSynchronized
  subst hsz
  have hD := hD0.self (sz := s.heap.size)
  generalize hAe : va_A (zSA cI h len cd nm ks gs wt mi pl sk he nh ru bg la sd pl2 sk2 he2 nh2 ru2 bg2 la2 sd2 u0 l0 u1 l1 u2 l2 wy fi fl nu ik pr) s.heap.size = A at hD ⊢
  have hA : ∀ q : Nat, s.heap.size ≤ q → A q := fun q h => by rw [← hAe]; exact Or.inr h
  have hS : va_S A s.heap s.heap [] := va_S.rf
  have k19 := hts (.fieldLink RX6 19 "SongsAgain" "book" "LSongsAgain$Book;") (List.mem_of_getElem? (i := 1) rfl)
  have k26 := hts (.fieldLink RX6 26 "SongsAgain" "now" "LSongsAgain$Past;") (List.mem_of_getElem? (i := 3) rfl)
  have k40 := hts (.fieldLink RX6 40 "SongsAgain" "chance" "LSongsAgain$Fraction;") (List.mem_of_getElem? (i := 2) rfl)
  have k174 : (Cond.fieldLinkNest "SongsAgain" 174 "SongsAgain$Past" "heardLength" "I" "SongsAgain").before _ s = true := va_Nw.use (A := ([.ref (h 0), .int p0] : List Value).toArray) rfl (hN.1 ("SongsAgain", 174, "SongsAgain$Past", "heardLength", "I") (List.mem_of_getElem? (i := 12) rfl))
  have k177 : (Cond.fieldLinkNest "SongsAgain" 177 "SongsAgain$Past" "heard" "LSongsAgain$Row;" "SongsAgain").before _ s = true := va_Nw.use (A := ([.ref (h 0), .int p0] : List Value).toArray) rfl (hN.1 ("SongsAgain", 177, "SongsAgain$Past", "heard", "LSongsAgain$Row;") (List.mem_of_getElem? (i := 11) rfl))
  have k250 : (Cond.fieldLinkNest "SongsAgain" 250 "SongsAgain$Book" "weights" "LSongsAgain$Row;" "SongsAgain").before _ s = true := va_Nw.use (A := ([.ref (h 0), .int p0] : List Value).toArray) rfl (hN.1 ("SongsAgain", 250, "SongsAgain$Book", "weights", "LSongsAgain$Row;") (List.mem_of_getElem? (i := 5) rfl))
  have iX0 : ∀ w ∈ u_ws RX0 TX0 5, w ∈ wsX6_reckonHeard := vz_in (i := 74) (n := 5) rfl
  have iX4 : ∀ w ∈ u_ws RX4 TX4 8, w ∈ wsX6_reckonHeard := vz_in (i := 66) (n := 8) rfl
  have iX6 : ∀ w ∈ u_ws RX6 TX6 10, w ∈ wsX6_reckonHeard := vz_in (i := 56) (n := 10) rfl
  have hl := lv_entry ([.ref (h 0), .int p0]) (n := 7) (Nat.le_of_ble_eq_true rfl)
  rw [lg_entry_eq]
  generalize (lg_sl ([.ref (h 0), .int p0]) ++ List.replicate (7 - (lg_sl ([.ref (h 0), .int p0])).length) Slot.unset).toArray = ls at hl ⊢
  have hl : lv_has ls 7 [(0, .ref (h 0)), (1, .int p0)] := hl
  have hP : va_P D vwCl (zSA cI h len cd nm ks gs wt mi pl sk he nh ru bg la sd pl2 sk2 he2 nh2 ru2 bg2 la2 sd2 u0 l0 u1 l1 u2 l2 wy fi fl nu ik pr) s.heap := hP
  refine lv_aload_n hx hb dX6_reckonHeard_0 rfl (lv_at hl 0 rfl) ?_
  refine va_get (D := D) (ci := 6) (v := .ref (h 4)) (C := RX6) (T := TX6) (N := 10) hx hb hts iX6 hown hK hP 0 rfl rfl 1 (by decide) k19 (fun _ h9 => h9) rfl dX6_reckonHeard_1 ?_
  refine vp_callSi (W.runV (As := []) (rest := []) ⟨hx, hb, hml, hown, hts⟩ (c_X0_all l D cI (fun i => h (4 + i)) nm ks gs wt mi) (cwV 0 hts gX6_reckonHeard_X0_all rfl rfl rfl (by decide +kernel) ⟨Nat.le_of_ble_eq_true rfl, Nat.le_of_ble_eq_true rfl⟩) (vz_pvR (va_recv hK hP (ci := 0) (q0 := 4) rfl rfl) hZ (hP.sub (ws' := (zBook cI (fun i => h (4 + i)) nm ks gs wt mi)) [4, 5, 6, 7, 8, 9, 10, 11, 12] rfl)) rfl rfl hl.1 rfl (lv_room (Nat.le_of_ble_eq_true rfl)) dX6_reckonHeard_4 ⟨Nat.zero_le _, Nat.zero_le _⟩) (fun r_4 hr_4 => ?_)
  subst hr_4
  refine lv_istore_n (lv' := [(2, .int (bk_all nm)), (0, .ref (h 0)), (1, .int p0)]) hx hb dX6_reckonHeard_7 rfl hl (by decide) rfl (fun ls hl => ?_)
  refine lv_iconst (v := (-1)) hx hb dX6_reckonHeard_8 (by decide) ?_
  refine lv_istore_n (lv' := [(3, .int (-1)), (2, .int (bk_all nm)), (0, .ref (h 0)), (1, .int p0)]) hx hb dX6_reckonHeard_9 rfl hl (by decide) rfl (fun ls hl => ?_)
  refine lv_aload_n hx hb dX6_reckonHeard_10 rfl (lv_at hl 2 rfl) ?_
  refine va_get (D := D) (ci := 6) (v := .ref (h 28)) (C := RX6) (T := TX6) (N := 10) hx hb hts iX6 hown hK hP 0 rfl rfl 5 (by decide) k40 (fun _ h9 => h9) rfl dX6_reckonHeard_11 ?_
  refine lv_lconst (v := 1) hx hb dX6_reckonHeard_14 (by decide) ?_
  refine lv_lconst (v := 1) hx hb dX6_reckonHeard_15 (by decide) ?_
  have hPc := (hP.sub (ws' := (zFr cI (h 28) u1 l1)) [28] rfl)
  have hDc := hD.sub (ws' := (zFr cI (h 28) u1 l1)) [28] rfl rfl
  have hFc := va_free (wc := (zFr cI (h 28) u1 l1)) hD hS hA [28] rfl
  refine va_callv (va_runV (As := [.long 1, .long 1]) (rest := []) ⟨hx, hb, hml, hown, hts⟩ (c_X1_become l D cI (h 28) u1 l1 s.heap.size 1 1) (cwV 2 hts gX6_reckonHeard_X1_become rfl rfl rfl (by decide +kernel) ⟨Nat.le_of_ble_eq_true rfl, Nat.le_of_ble_eq_true rfl⟩) (vz_pvW (va_recv hK hP (ci := 1) (q0 := 28) rfl rfl) hZ hPc hDc) rfl rfl hl.1 rfl (lv_room (Nat.le_of_ble_eq_true rfl)) dX6_reckonHeard_16 ⟨Nat.zero_le _, Nat.zero_le _⟩) hS (fun q _ h => hFc q h) hFc (fun u_16 t H_16 locs_16 ht hvm hw hB hz1 hk1 hS9 => ?_)
  rw [ht] at hB
  replace hP : va_P D vwCl (zSA cI h len cd nm ks gs wt mi pl sk he nh ru bg la sd pl2 sk2 he2 nh2 ru2 bg2 la2 sd2 u0 l0 (fr_q (fr_cd 1 1) 1 u1) (fr_q (fr_cd 1 1) 1 l1) u2 l2 wy fi fl nu ik pr) H_16 := vz_join (w1 := (zFr cI (h 28) (fr_q (fr_cd 1 1) 1 u1) (fr_q (fr_cd 1 1) 1 l1))) hP hD [28] rfl rfl hk1 hB
  replace hD : va_D A (zSA cI h len cd nm ks gs wt mi pl sk he nh ru bg la sd pl2 sk2 he2 nh2 ru2 bg2 la2 sd2 u0 l0 (fr_q (fr_cd 1 1) 1 u1) (fr_q (fr_cd 1 1) 1 l1) u2 l2 wy fi fl nu ik pr) := vz_same hD rfl
  replace hS := hS9
  clear hS9 hPc hDc hFc hB hk1 hz1
  have ew_u1 : 1 = fr_q (fr_cd 1 1) 1 u1 := by exact fr_11u u1
  replace hP : va_P D vwCl (zSA cI h len cd nm ks gs wt mi pl sk he nh ru bg la sd pl2 sk2 he2 nh2 ru2 bg2 la2 sd2 u0 l0 1 (fr_q (fr_cd 1 1) 1 l1) u2 l2 wy fi fl nu ik pr) H_16 := by rw [ew_u1]; exact hP
  replace hD : va_D A (zSA cI h len cd nm ks gs wt mi pl sk he nh ru bg la sd pl2 sk2 he2 nh2 ru2 bg2 la2 sd2 u0 l0 1 (fr_q (fr_cd 1 1) 1 l1) u2 l2 wy fi fl nu ik pr) := vz_same hD rfl
  have ew_l1 : 1 = fr_q (fr_cd 1 1) 1 l1 := by exact fr_11l l1
  replace hP : va_P D vwCl (zSA cI h len cd nm ks gs wt mi pl sk he nh ru bg la sd pl2 sk2 he2 nh2 ru2 bg2 la2 sd2 u0 l0 1 1 u2 l2 wy fi fl nu ik pr) H_16 := by rw [ew_l1]; exact hP
  replace hD : va_D A (zSA cI h len cd nm ks gs wt mi pl sk he nh ru bg la sd pl2 sk2 he2 nh2 ru2 bg2 la2 sd2 u0 l0 1 1 u2 l2 wy fi fl nu ik pr) := vz_same hD rfl
  refine lv_iconst (v := 0) hx hb dX6_reckonHeard_19 (by decide) ?_
  refine lv_istore (lv' := [(4, .int 0), (3, .int (-1)), (2, .int (bk_all nm)), (0, .ref (h 0)), (1, .int p0)]) hx hb dX6_reckonHeard_20 hl (by decide) rfl (fun ls hl => ?_)
  have L_22 : ∀ (d_22 : Nat) (j : Nat) (b2 : Int32) (l3 : Int32) (xu : Int64) (xl : Int64) (H_22 : Heap) (locs_22 : List Loc), nh - j < d_22 → (j ≤ nh) → (hd nm ks gs wt he nh p0 = hd_lp nm ks gs wt he p0 (nh - j) j b2 l3 (xu, xl)) → va_P D vwCl (zSA cI h len cd nm ks gs wt mi pl sk he nh ru bg la sd pl2 sk2 he2 nh2 ru2 bg2 la2 sd2 u0 l0 xu xl u2 l2 wy fi fl nu ik pr) H_22 → va_D A (zSA cI h len cd nm ks gs wt mi pl sk he nh ru bg la sd pl2 sk2 he2 nh2 ru2 bg2 la2 sd2 u0 l0 xu xl u2 l2 wy fi fl nu ik pr) → va_S A s.heap H_22 locs_22 → ∀ (ls : Array Slot), lv_has ls 7 [(4, .int (nI j)), (3, .int l3), (2, .int b2), (0, .ref (h 0)), (1, .int p0)] → W p l e ({ frames := 3, cells := 0, slots := 0, locals := 80 } : Room) s m ([.ref (h 0), .int p0] : List Value).toArray below meth c H_22 locs_22 0 0 (MQ below (va_Qv (fun (_ : Unit) => True) (fun (u : Unit) (t : State) => va_P D vwCl (zSA cI h len cd nm ks gs wt mi pl sk he nh ru bg la sd pl2 sk2 he2 nh2 ru2 bg2 la2 sd2 u0 l0 ((hd nm ks gs wt he nh p0).1) ((hd nm ks gs wt he nh p0).2) u2 l2 wy fi fl nu ik pr) t.heap) A) ([.ref (h 0), .int p0] : List Value).toArray s 0 0 A) (F0 m 22 ls []) := by
    intro d_22
    induction d_22 with
    | zero => intro j b2 l3 xu xl H_22 locs_22 hd; exact absurd hd (Nat.not_lt_zero _)
    | succ d_22 ih_22 =>
      intro j b2 l3 xu xl H_22 locs_22 hd_22 hj hres hP hD hS ls hl
      refine lv_iload hx hb dX6_reckonHeard_22 (lv_at hl 0 rfl) ?_
      refine lv_aload_n hx hb dX6_reckonHeard_24 rfl (lv_at hl 3 rfl) ?_
      refine va_get (D := D) (ci := 6) (v := .ref (h 13)) (C := RX6) (T := TX6) (N := 10) hx hb hts iX6 hown hK hP 0 rfl rfl 2 (by decide) k26 (fun _ h9 => h9) rfl dX6_reckonHeard_25 ?_
      refine va_getN (D := D) (ci := 4) (v := .int (nI nh)) (C := RX4) (T := TX4) (N := 8) hx hb hts iX4 hown hK hP 13 rfl rfl 3 (by decide) k174 (fun _ h9 => h9) rfl dX6_reckonHeard_28 ?_
      refine lv_icmp_ge (tgt := 130) hx hb dX6_reckonHeard_31 (by decide) (fun c_31 => ?_) (fun c_31 => ?_)
      · skip
        have hje : j = nh := Nat.le_antisymm hj (vz_ge c_31 (by omega) (by omega))
        have en_u1 : (hd nm ks gs wt he nh p0).1 = xu := by rw [hres, show nh - j = 0 by omega] ; rfl
        have en_l1 : (hd nm ks gs wt he nh p0).2 = xl := by rw [hres, show nh - j = 0 by omega] ; rfl
        exact W.vret hx hb hr (fun t ht hW => ⟨⟨(), rfl, trivial, (by show va_P D vwCl (zSA cI h len cd nm ks gs wt mi pl sk he nh ru bg la sd pl2 sk2 he2 nh2 ru2 bg2 la2 sd2 u0 l0 ((hd nm ks gs wt he nh p0).1) ((hd nm ks gs wt he nh p0).2) u2 l2 wy fi fl nu ik pr) t.heap; rw [ht, en_u1, en_l1]; exact hP)⟩, hS.F ht⟩) hS.2.2 dX6_reckonHeard_130
      · skip
        have hlt : j < nh := vz_lt c_31 (by omega)
        refine lv_aload_n hx hb dX6_reckonHeard_34 rfl (lv_at hl 3 rfl) ?_
        refine va_get (D := D) (ci := 6) (v := .ref (h 13)) (C := RX6) (T := TX6) (N := 10) hx hb hts iX6 hown hK hP 0 rfl rfl 2 (by decide) k26 (fun _ h9 => h9) rfl dX6_reckonHeard_35 ?_
        refine va_getN (D := D) (ci := 4) (v := .ref (h 18)) (C := RX4) (T := TX4) (N := 8) hx hb hts iX4 hown hK hP 13 rfl rfl 2 (by decide) k177 (fun _ h9 => h9) rfl dX6_reckonHeard_38 ?_
        refine lv_iload hx hb dX6_reckonHeard_41 (lv_at hl 0 rfl) ?_
        refine vp_callSi (W.runV (As := [.int (nI j)]) (rest := []) ⟨hx, hb, hml, hown, hts⟩ (c_X5_at l D cI (h 18) (h 19) 8 he (nI j) (by decide)) (cwV 1 hts gX6_reckonHeard_X5_at rfl rfl rfl (by decide +kernel) ⟨Nat.le_of_ble_eq_true rfl, Nat.le_of_ble_eq_true rfl⟩) (vz_pvR (va_recv hK hP (ci := 5) (q0 := 18) rfl rfl) hZ (hP.sub (ws' := (zRow cI (h 18) (h 19) 8 he)) [18, 19] rfl)) rfl rfl hl.1 rfl (lv_room (Nat.le_of_ble_eq_true rfl)) dX6_reckonHeard_43 ⟨Nat.zero_le _, Nat.zero_le _⟩) (fun r_43 hr_43 => ?_)
        subst hr_43
        refine lv_istore (lv' := [(5, .int (rw_at 8 he (nI j))), (4, .int (nI j)), (3, .int l3), (2, .int b2), (0, .ref (h 0)), (1, .int p0)]) hx hb dX6_reckonHeard_46 hl (by decide) rfl (fun ls hl => ?_)
        refine lv_aload_n hx hb dX6_reckonHeard_48 rfl (lv_at hl 4 rfl) ?_
        refine va_get (D := D) (ci := 6) (v := .ref (h 4)) (C := RX6) (T := TX6) (N := 10) hx hb hts iX6 hown hK hP 0 rfl rfl 1 (by decide) k19 (fun _ h9 => h9) rfl dX6_reckonHeard_49 ?_
        refine lv_iload_n hx hb dX6_reckonHeard_52 rfl (lv_at hl 5 rfl) ?_
        refine lv_iload_n hx hb dX6_reckonHeard_53 rfl (lv_at hl 3 rfl) ?_
        refine lv_iload_n hx hb dX6_reckonHeard_54 rfl (lv_at hl 2 rfl) ?_
        refine vp_callSi (W.runV (As := [.int p0, .int b2, .int l3]) (rest := []) ⟨hx, hb, hml, hown, hts⟩ (c_X0_mayCome l D cI (fun i => h (4 + i)) nm ks gs wt mi p0 b2 l3 (by first | assumption | omega)) (cwV 3 hts gX6_reckonHeard_X0_mayCome rfl rfl rfl (by decide +kernel) ⟨Nat.le_of_ble_eq_true rfl, Nat.le_of_ble_eq_true rfl⟩) (vz_pvR (va_recv hK hP (ci := 0) (q0 := 4) rfl rfl) hZ (hP.sub (ws' := (zBook cI (fun i => h (4 + i)) nm ks gs wt mi)) [4, 5, 6, 7, 8, 9, 10, 11, 12] rfl)) rfl rfl hl.1 rfl (lv_room (Nat.le_of_ble_eq_true rfl)) dX6_reckonHeard_55 ⟨Nat.zero_le _, Nat.zero_le _⟩) (fun r_55 hr_55 => ?_)
        subst hr_55
        refine lv_istore (lv' := [(6, .int (bk_may nm ks gs p0 b2 l3)), (5, .int (rw_at 8 he (nI j))), (4, .int (nI j)), (3, .int l3), (2, .int b2), (0, .ref (h 0)), (1, .int p0)]) hx hb dX6_reckonHeard_58 hl (by decide) rfl (fun ls hl => ?_)
        refine lv_iload hx hb dX6_reckonHeard_60 (lv_at hl 0 rfl) ?_
        refine lv_iload hx hb dX6_reckonHeard_62 (lv_at hl 1 rfl) ?_
        refine vp_callSi (W.runS (As := [.int (bk_may nm ks gs p0 b2 l3), .int (rw_at 8 he (nI j))]) (rest := []) ⟨hx, hb, hml, hown, hts⟩ (c_X6_holds l (bk_may nm ks gs p0 b2 l3) (rw_at 8 he (nI j))) (va_cwS 2 hts gX6_reckonHeard_X6_holds rfl rfl rfl (by decide +kernel) ⟨Nat.le_of_ble_eq_true rfl, Nat.le_of_ble_eq_true rfl⟩) (vz_psS) rfl rfl hl.1 rfl (lv_room (Nat.le_of_ble_eq_true rfl)) dX6_reckonHeard_64 ⟨Nat.zero_le _, Nat.zero_le _⟩) (fun r_64 hr_64 => ?_)
        subst hr_64
        refine lv_if_ne (tgt := 80) hx hb dX6_reckonHeard_67 (by decide) (fun c_67 => ?_) (fun c_67 => ?_)
        · skip
          replace c_67 := vz_b1 c_67
          refine lv_aload_n hx hb dX6_reckonHeard_80 rfl (lv_at hl 5 rfl) ?_
          refine va_get (D := D) (ci := 6) (v := .ref (h 28)) (C := RX6) (T := TX6) (N := 10) hx hb hts iX6 hown hK hP 0 rfl rfl 5 (by decide) k40 (fun _ h9 => h9) rfl dX6_reckonHeard_81 ?_
          refine lv_aload_n hx hb dX6_reckonHeard_84 rfl (lv_at hl 5 rfl) ?_
          refine va_get (D := D) (ci := 6) (v := .ref (h 4)) (C := RX6) (T := TX6) (N := 10) hx hb hts iX6 hown hK hP 0 rfl rfl 1 (by decide) k19 (fun _ h9 => h9) rfl dX6_reckonHeard_85 ?_
          refine va_getN (D := D) (ci := 0) (v := .ref (h 9)) (C := RX0) (T := TX0) (N := 5) hx hb hts iX0 hown hK hP 4 rfl rfl 2 (by decide) k250 (fun _ h9 => h9) rfl dX6_reckonHeard_88 ?_
          refine lv_iload hx hb dX6_reckonHeard_91 (lv_at hl 1 rfl) ?_
          refine vp_callSi (W.runV (As := [.int (rw_at 8 he (nI j))]) (rest := [.ref (h 28)]) ⟨hx, hb, hml, hown, hts⟩ (c_X5_at l D cI (h 9) (h 10) 6 wt (rw_at 8 he (nI j)) (by decide)) (cwV 1 hts gX6_reckonHeard_X5_at rfl rfl rfl (by decide +kernel) ⟨Nat.le_of_ble_eq_true rfl, Nat.le_of_ble_eq_true rfl⟩) (vz_pvR (va_recv hK hP (ci := 5) (q0 := 9) rfl rfl) hZ (hP.sub (ws' := (zRow cI (h 9) (h 10) 6 wt)) [9, 10] rfl)) rfl rfl hl.1 rfl (lv_room (Nat.le_of_ble_eq_true rfl)) dX6_reckonHeard_93 ⟨Nat.zero_le _, Nat.zero_le _⟩) (fun r_93 hr_93 => ?_)
          subst hr_93
          refine lv_i2l (v := (rw_at 6 wt (rw_at 8 he (nI j)) : Int32).toInt64) hx hb dX6_reckonHeard_96 rfl ?_
          refine lv_aload_n hx hb dX6_reckonHeard_97 rfl (lv_at hl 5 rfl) ?_
          refine va_get (D := D) (ci := 6) (v := .ref (h 4)) (C := RX6) (T := TX6) (N := 10) hx hb hts iX6 hown hK hP 0 rfl rfl 1 (by decide) k19 (fun _ h9 => h9) rfl dX6_reckonHeard_98 ?_
          refine lv_iload hx hb dX6_reckonHeard_101 (lv_at hl 0 rfl) ?_
          refine vp_callSi (W.runV (As := [.int (bk_may nm ks gs p0 b2 l3)]) (rest := [.long ((rw_at 6 wt (rw_at 8 he (nI j)) : Int32).toInt64), .ref (h 28)]) ⟨hx, hb, hml, hown, hts⟩ (c_X0_weightTogether l D cI (fun i => h (4 + i)) nm ks gs wt mi (bk_may nm ks gs p0 b2 l3) (by first | assumption | omega)) (cwV 1 hts gX6_reckonHeard_X0_weightTogether rfl rfl rfl (by decide +kernel) ⟨Nat.le_of_ble_eq_true rfl, Nat.le_of_ble_eq_true rfl⟩) (vz_pvR (va_recv hK hP (ci := 0) (q0 := 4) rfl rfl) hZ (hP.sub (ws' := (zBook cI (fun i => h (4 + i)) nm ks gs wt mi)) [4, 5, 6, 7, 8, 9, 10, 11, 12] rfl)) rfl rfl hl.1 rfl (lv_room (Nat.le_of_ble_eq_true rfl)) dX6_reckonHeard_103 ⟨Nat.zero_le _, Nat.zero_le _⟩) (fun r_103 hr_103 => ?_)
          subst hr_103
          refine lv_i2l (v := (bk_wt wt (bk_may nm ks gs p0 b2 l3) nm : Int32).toInt64) hx hb dX6_reckonHeard_106 rfl ?_
          have hPc := (hP.sub (ws' := (zFr cI (h 28) xu xl)) [28] rfl)
          have hDc := hD.sub (ws' := (zFr cI (h 28) xu xl)) [28] rfl rfl
          have hFc := va_free (wc := (zFr cI (h 28) xu xl)) hD hS hA [28] rfl
          refine va_callv (va_runV (As := [.long ((rw_at 6 wt (rw_at 8 he (nI j)) : Int32).toInt64), .long ((bk_wt wt (bk_may nm ks gs p0 b2 l3) nm : Int32).toInt64)]) (rest := []) ⟨hx, hb, hml, hown, hts⟩ (c_X1_multiply l D cI (h 28) xu xl H_22.size ((rw_at 6 wt (rw_at 8 he (nI j)) : Int32).toInt64) ((bk_wt wt (bk_may nm ks gs p0 b2 l3) nm : Int32).toInt64)) (cwV 2 hts gX6_reckonHeard_X1_multiply rfl rfl rfl (by decide +kernel) ⟨Nat.le_of_ble_eq_true rfl, Nat.le_of_ble_eq_true rfl⟩) (vz_pvW (va_recv hK hP (ci := 1) (q0 := 28) rfl rfl) hZ hPc hDc) rfl rfl hl.1 rfl (lv_room (Nat.le_of_ble_eq_true rfl)) dX6_reckonHeard_107 ⟨Nat.zero_le _, Nat.zero_le _⟩) hS (fun q _ h => hFc q h) hFc (fun u_107 t H_107 locs_107 ht hvm hw hB hz1 hk1 hS9 => ?_)
          rw [ht] at hB
          replace hP : va_P D vwCl (zSA cI h len cd nm ks gs wt mi pl sk he nh ru bg la sd pl2 sk2 he2 nh2 ru2 bg2 la2 sd2 u0 l0 (fr_mu xu xl ((rw_at 6 wt (rw_at 8 he (nI j)) : Int32).toInt64) ((bk_wt wt (bk_may nm ks gs p0 b2 l3) nm : Int32).toInt64)) (fr_ml xu xl ((rw_at 6 wt (rw_at 8 he (nI j)) : Int32).toInt64) ((bk_wt wt (bk_may nm ks gs p0 b2 l3) nm : Int32).toInt64)) u2 l2 wy fi fl nu ik pr) H_107 := vz_join (w1 := (zFr cI (h 28) (fr_mu xu xl ((rw_at 6 wt (rw_at 8 he (nI j)) : Int32).toInt64) ((bk_wt wt (bk_may nm ks gs p0 b2 l3) nm : Int32).toInt64)) (fr_ml xu xl ((rw_at 6 wt (rw_at 8 he (nI j)) : Int32).toInt64) ((bk_wt wt (bk_may nm ks gs p0 b2 l3) nm : Int32).toInt64)))) hP hD [28] rfl rfl hk1 hB
          replace hD : va_D A (zSA cI h len cd nm ks gs wt mi pl sk he nh ru bg la sd pl2 sk2 he2 nh2 ru2 bg2 la2 sd2 u0 l0 (fr_mu xu xl ((rw_at 6 wt (rw_at 8 he (nI j)) : Int32).toInt64) ((bk_wt wt (bk_may nm ks gs p0 b2 l3) nm : Int32).toInt64)) (fr_ml xu xl ((rw_at 6 wt (rw_at 8 he (nI j)) : Int32).toInt64) ((bk_wt wt (bk_may nm ks gs p0 b2 l3) nm : Int32).toInt64)) u2 l2 wy fi fl nu ik pr) := vz_same hD rfl
          replace hS := hS9
          clear hS9 hPc hDc hFc hB hk1 hz1
          refine lv_aload_n hx hb dX6_reckonHeard_110 rfl (lv_at hl 5 rfl) ?_
          refine va_get (D := D) (ci := 6) (v := .ref (h 4)) (C := RX6) (T := TX6) (N := 10) hx hb hts iX6 hown hK hP 0 rfl rfl 1 (by decide) k19 (fun _ h9 => h9) rfl dX6_reckonHeard_111 ?_
          refine lv_iload_n hx hb dX6_reckonHeard_114 rfl (lv_at hl 4 rfl) ?_
          refine lv_iload hx hb dX6_reckonHeard_115 (lv_at hl 1 rfl) ?_
          refine vp_callSi (W.runV (As := [.int b2, .int (rw_at 8 he (nI j))]) (rest := []) ⟨hx, hb, hml, hown, hts⟩ (c_X0_bagAfter l D cI (fun i => h (4 + i)) nm ks gs wt mi b2 (rw_at 8 he (nI j))) (cwV 2 hts gX6_reckonHeard_X0_bagAfter rfl rfl rfl (by decide +kernel) ⟨Nat.le_of_ble_eq_true rfl, Nat.le_of_ble_eq_true rfl⟩) (vz_pvR (va_recv hK hP (ci := 0) (q0 := 4) rfl rfl) hZ (hP.sub (ws' := (zBook cI (fun i => h (4 + i)) nm ks gs wt mi)) [4, 5, 6, 7, 8, 9, 10, 11, 12] rfl)) rfl rfl hl.1 rfl (lv_room (Nat.le_of_ble_eq_true rfl)) dX6_reckonHeard_117 ⟨Nat.zero_le _, Nat.zero_le _⟩) (fun r_117 hr_117 => ?_)
          subst hr_117
          refine lv_istore_n (lv' := [(2, .int (bk_bag nm b2 (rw_at 8 he (nI j)))), (6, .int (bk_may nm ks gs p0 b2 l3)), (5, .int (rw_at 8 he (nI j))), (4, .int (nI j)), (3, .int l3), (0, .ref (h 0)), (1, .int p0)]) hx hb dX6_reckonHeard_120 rfl hl (by decide) rfl (fun ls hl => ?_)
          refine lv_iload hx hb dX6_reckonHeard_121 (lv_at hl 2 rfl) ?_
          refine lv_istore_n (lv' := [(3, .int (rw_at 8 he (nI j))), (2, .int (bk_bag nm b2 (rw_at 8 he (nI j)))), (6, .int (bk_may nm ks gs p0 b2 l3)), (5, .int (rw_at 8 he (nI j))), (4, .int (nI j)), (0, .ref (h 0)), (1, .int p0)]) hx hb dX6_reckonHeard_123 rfl hl (by decide) rfl (fun ls hl => ?_)
          refine lv_iinc (v := nI (j + 1)) (lv' := [(4, .int (nI (j + 1))), (3, .int (rw_at 8 he (nI j))), (2, .int (bk_bag nm b2 (rw_at 8 he (nI j)))), (6, .int (bk_may nm ks gs p0 b2 l3)), (5, .int (rw_at 8 he (nI j))), (0, .ref (h 0)), (1, .int p0)]) hx hb dX6_reckonHeard_124 hl (k := 4) rfl (vz_inc _) (by decide) rfl (fun ls hl => ?_)
          refine lv_goto (tgt := 22) hx hb dX6_reckonHeard_127 (by decide) ?_
          have ew_u1 : (fr_mu xu xl ((rw_at 6 wt (rw_at 8 he (nI j)) : Int32).toInt64) ((bk_wt wt (bk_may nm ks gs p0 b2 l3) nm : Int32).toInt64)) = fr_mu xu xl ((rw_at 6 wt (rw_at 8 he (nI j)) : Int32).toInt64) ((bk_wt wt (bk_may nm ks gs p0 b2 l3) nm : Int32).toInt64) := by rfl
          have ew_l1 : (fr_ml xu xl ((rw_at 6 wt (rw_at 8 he (nI j)) : Int32).toInt64) ((bk_wt wt (bk_may nm ks gs p0 b2 l3) nm : Int32).toInt64)) = fr_ml xu xl ((rw_at 6 wt (rw_at 8 he (nI j)) : Int32).toInt64) ((bk_wt wt (bk_may nm ks gs p0 b2 l3) nm : Int32).toInt64) := by rfl
          replace hP : va_P D vwCl (zSA cI h len cd nm ks gs wt mi pl sk he nh ru bg la sd pl2 sk2 he2 nh2 ru2 bg2 la2 sd2 u0 l0 (fr_mu xu xl ((rw_at 6 wt (rw_at 8 he (nI j)) : Int32).toInt64) ((bk_wt wt (bk_may nm ks gs p0 b2 l3) nm : Int32).toInt64)) (fr_ml xu xl ((rw_at 6 wt (rw_at 8 he (nI j)) : Int32).toInt64) ((bk_wt wt (bk_may nm ks gs p0 b2 l3) nm : Int32).toInt64)) u2 l2 wy fi fl nu ik pr) H_107 := by rw [ew_u1, ew_l1]; exact hP
          replace hD : va_D A (zSA cI h len cd nm ks gs wt mi pl sk he nh ru bg la sd pl2 sk2 he2 nh2 ru2 bg2 la2 sd2 u0 l0 (fr_mu xu xl ((rw_at 6 wt (rw_at 8 he (nI j)) : Int32).toInt64) ((bk_wt wt (bk_may nm ks gs p0 b2 l3) nm : Int32).toInt64)) (fr_ml xu xl ((rw_at 6 wt (rw_at 8 he (nI j)) : Int32).toInt64) ((bk_wt wt (bk_may nm ks gs p0 b2 l3) nm : Int32).toInt64)) u2 l2 wy fi fl nu ik pr) := vz_same hD rfl
          exact ih_22 (j + 1) (bk_bag nm b2 (rw_at 8 he (nI j))) (rw_at 8 he (nI j)) (fr_mu xu xl ((rw_at 6 wt (rw_at 8 he (nI j)) : Int32).toInt64) ((bk_wt wt (bk_may nm ks gs p0 b2 l3) nm : Int32).toInt64)) (fr_ml xu xl ((rw_at 6 wt (rw_at 8 he (nI j)) : Int32).toInt64) ((bk_wt wt (bk_may nm ks gs p0 b2 l3) nm : Int32).toInt64)) _ _ (by omega) (by omega) (by rw [hres, show nh - j = (nh - (j + 1)) + 1 by omega] ; simp only [hd_lp, c_67, ↓reduceIte, Bool.false_eq_true]) hP hD hS ls (lv_sub hl [0, 1, 2, 5, 6] rfl)
        · skip
          replace c_67 := vz_b0 c_67
          refine lv_aload_n hx hb dX6_reckonHeard_70 rfl (lv_at hl 5 rfl) ?_
          refine va_get (D := D) (ci := 6) (v := .ref (h 28)) (C := RX6) (T := TX6) (N := 10) hx hb hts iX6 hown hK hP 0 rfl rfl 5 (by decide) k40 (fun _ h9 => h9) rfl dX6_reckonHeard_71 ?_
          refine lv_lconst (v := 0) hx hb dX6_reckonHeard_74 (by decide) ?_
          refine lv_lconst (v := 1) hx hb dX6_reckonHeard_75 (by decide) ?_
          have hPc := (hP.sub (ws' := (zFr cI (h 28) xu xl)) [28] rfl)
          have hDc := hD.sub (ws' := (zFr cI (h 28) xu xl)) [28] rfl rfl
          have hFc := va_free (wc := (zFr cI (h 28) xu xl)) hD hS hA [28] rfl
          refine va_callv (va_runV (As := [.long 0, .long 1]) (rest := []) ⟨hx, hb, hml, hown, hts⟩ (c_X1_become l D cI (h 28) xu xl H_22.size 0 1) (cwV 2 hts gX6_reckonHeard_X1_become rfl rfl rfl (by decide +kernel) ⟨Nat.le_of_ble_eq_true rfl, Nat.le_of_ble_eq_true rfl⟩) (vz_pvW (va_recv hK hP (ci := 1) (q0 := 28) rfl rfl) hZ hPc hDc) rfl rfl hl.1 rfl (lv_room (Nat.le_of_ble_eq_true rfl)) dX6_reckonHeard_76 ⟨Nat.zero_le _, Nat.zero_le _⟩) hS (fun q _ h => hFc q h) hFc (fun u_76 t H_76 locs_76 ht hvm hw hB hz1 hk1 hS9 => ?_)
          rw [ht] at hB
          replace hP : va_P D vwCl (zSA cI h len cd nm ks gs wt mi pl sk he nh ru bg la sd pl2 sk2 he2 nh2 ru2 bg2 la2 sd2 u0 l0 (fr_q (fr_cd 0 1) 0 xu) (fr_q (fr_cd 0 1) 1 xl) u2 l2 wy fi fl nu ik pr) H_76 := vz_join (w1 := (zFr cI (h 28) (fr_q (fr_cd 0 1) 0 xu) (fr_q (fr_cd 0 1) 1 xl))) hP hD [28] rfl rfl hk1 hB
          replace hD : va_D A (zSA cI h len cd nm ks gs wt mi pl sk he nh ru bg la sd pl2 sk2 he2 nh2 ru2 bg2 la2 sd2 u0 l0 (fr_q (fr_cd 0 1) 0 xu) (fr_q (fr_cd 0 1) 1 xl) u2 l2 wy fi fl nu ik pr) := vz_same hD rfl
          replace hS := hS9
          clear hS9 hPc hDc hFc hB hk1 hz1
          have ew_u1 : 0 = fr_q (fr_cd 0 1) 0 xu := by exact fr_01u _
          replace hP : va_P D vwCl (zSA cI h len cd nm ks gs wt mi pl sk he nh ru bg la sd pl2 sk2 he2 nh2 ru2 bg2 la2 sd2 u0 l0 0 (fr_q (fr_cd 0 1) 1 xl) u2 l2 wy fi fl nu ik pr) H_76 := by rw [ew_u1]; exact hP
          replace hD : va_D A (zSA cI h len cd nm ks gs wt mi pl sk he nh ru bg la sd pl2 sk2 he2 nh2 ru2 bg2 la2 sd2 u0 l0 0 (fr_q (fr_cd 0 1) 1 xl) u2 l2 wy fi fl nu ik pr) := vz_same hD rfl
          have ew_l1 : 1 = fr_q (fr_cd 0 1) 1 xl := by exact fr_01l _
          replace hP : va_P D vwCl (zSA cI h len cd nm ks gs wt mi pl sk he nh ru bg la sd pl2 sk2 he2 nh2 ru2 bg2 la2 sd2 u0 l0 0 1 u2 l2 wy fi fl nu ik pr) H_76 := by rw [ew_l1]; exact hP
          replace hD : va_D A (zSA cI h len cd nm ks gs wt mi pl sk he nh ru bg la sd pl2 sk2 he2 nh2 ru2 bg2 la2 sd2 u0 l0 0 1 u2 l2 wy fi fl nu ik pr) := vz_same hD rfl
          have en_u1 : (hd nm ks gs wt he nh p0).1 = 0 := by rw [hres, show nh - j = (nh - (j + 1)) + 1 by omega] ; simp only [hd_lp, c_67, ↓reduceIte, Bool.false_eq_true]
          have en_l1 : (hd nm ks gs wt he nh p0).2 = 1 := by rw [hres, show nh - j = (nh - (j + 1)) + 1 by omega] ; simp only [hd_lp, c_67, ↓reduceIte, Bool.false_eq_true]
          exact W.vret hx hb hr (fun t ht hW => ⟨⟨(), rfl, trivial, (by show va_P D vwCl (zSA cI h len cd nm ks gs wt mi pl sk he nh ru bg la sd pl2 sk2 he2 nh2 ru2 bg2 la2 sd2 u0 l0 ((hd nm ks gs wt he nh p0).1) ((hd nm ks gs wt he nh p0).2) u2 l2 wy fi fl nu ik pr) t.heap; rw [ht, en_u1, en_l1]; exact hP)⟩, hS.F ht⟩) hS.2.2 dX6_reckonHeard_79
  exact L_22 _ 0 (bk_all nm) (-1) 1 1 _ _ (Nat.lt_succ_self _) (Nat.zero_le _) rfl hP hD hS ls (lv_sub hl [0, 1, 2, 3, 4] rfl)
set_option maxHeartbeats 4000000 in
set_option maxRecDepth 100000 in
theorem c_X6_possibleRules (l : Launch) (D : va_G) (cI : ClassId) (h : Nat → Nat) (len : Nat) (cd : Nat → Int32) (nm : Nat) (ks : Nat → Int32) (gs : Nat → Int32) (wt : Nat → Int32) (mi : Nat → Int32) (pl : Nat → Int32) (sk : Nat → Int32) (he : Nat → Int32) (nh : Nat) (ru : Int32) (bg : Int32) (la : Int32) (sd : Bool) (pl2 : Nat → Int32) (sk2 : Nat → Int32) (he2 : Nat → Int32) (nh2 : Nat) (ru2 : Int32) (bg2 : Int32) (la2 : Int32) (sd2 : Bool) (u0 : Int64) (l0 : Int64) (u1 : Int64) (l1 : Int64) (u2 : Int64) (l2 : Int64) (wy : Nat → Int32) (fi : Nat → Int32) (fl : Int32) (nu : Int32) (ik : Bool) (pr : Nat) (sz : Nat) (hnm : nm ≤ 6) (hnh : nh ≤ 8) : Met l yX6_possibleRules wsX6_possibleRules ({ frames := 4, cells := 0, slots := 0, locals := 106 } : Room) (vz_rw D cI (zSA cI h len cd nm ks gs wt mi pl sk he nh ru bg la sd pl2 sk2 he2 nh2 ru2 bg2 la2 sd2 u0 l0 u1 l1 u2 l2 wy fi fl nu ik pr) sz [.ref (h 0)]) (va_Qi (fun r (_ : Int64 × Int64) => r = pr_acc nm ks gs wt he nh 4) (fun (u : Int64 × Int64) (t : State) => va_P D vwCl (zSA cI h len cd nm ks gs wt mi pl sk he nh ru bg la sd pl2 sk2 he2 nh2 ru2 bg2 la2 sd2 u0 l0 u.1 u.2 u2 l2 wy fi fl nu ik pr) t.heap) (va_A (zSA cI h len cd nm ks gs wt mi pl sk he nh ru bg la sd pl2 sk2 he2 nh2 ru2 bg2 la2 sd2 u0 l0 u1 l1 u2 l2 wy fi fl nu ik pr) sz)) 0 0 (va_A (zSA cI h len cd nm ks gs wt mi pl sk he nh ru bg la sd pl2 sk2 he2 nh2 ru2 bg2 la2 sd2 u0 l0 u1 l1 u2 l2 wy fi fl nu ik pr) sz) := by
  refine Met.ofW (cc := cX6_possibleRules) (maxL := 3) (ret := (some .int)) (by decide) rfl ?_
  intro p e s m args below meth c s₁ B hml hv
  obtain ⟨rfl, hsz, hP, hZ, hD0⟩ := hv
  obtain ⟨hK, hN⟩ := id hZ
  have hx := B.exec
  have hb := B.bytes
  have hr := B.returns
  have hts := atoms_spec (ws := wsX6_possibleRules) B.pre
  have hown : s.vm.findClass RX6 = some m.cls := findClass_of_methodNamed B.named
  have hlocks := B.notSynchronized
  subst hsz
  have hD := hD0.self (sz := s.heap.size)
  generalize hAe : va_A (zSA cI h len cd nm ks gs wt mi pl sk he nh ru bg la sd pl2 sk2 he2 nh2 ru2 bg2 la2 sd2 u0 l0 u1 l1 u2 l2 wy fi fl nu ik pr) s.heap.size = A at hD ⊢
  have hA : ∀ q : Nat, s.heap.size ≤ q → A q := fun q h => by rw [← hAe]; exact Or.inr h
  have hS : va_S A s.heap s.heap [] := va_S.rf
  have k40 := hts (.fieldLink RX6 40 "SongsAgain" "chance" "LSongsAgain$Fraction;") (List.mem_of_getElem? (i := 1) rfl)
  have k160 : (Cond.fieldLinkNest "SongsAgain" 160 "SongsAgain$Fraction" "above" "J" "SongsAgain").before _ s = true := va_Nw.use (A := ([.ref (h 0)] : List Value).toArray) rfl (hN.1 ("SongsAgain", 160, "SongsAgain$Fraction", "above", "J") (List.mem_of_getElem? (i := 17) rfl))
  have iX1 : ∀ w ∈ u_ws RX1 TX1 2, w ∈ wsX6_possibleRules := vz_in (i := 70) (n := 2) rfl
  have iX6 : ∀ w ∈ u_ws RX6 TX6 10, w ∈ wsX6_possibleRules := vz_in (i := 60) (n := 10) rfl
  have hl := lv_entry ([.ref (h 0)]) (n := 3) (Nat.le_of_ble_eq_true rfl)
  rw [lg_entry_eq]
  generalize (lg_sl ([.ref (h 0)]) ++ List.replicate (3 - (lg_sl ([.ref (h 0)])).length) Slot.unset).toArray = ls at hl ⊢
  have hl : lv_has ls 3 [(0, .ref (h 0))] := hl
  have hP : va_P D vwCl (zSA cI h len cd nm ks gs wt mi pl sk he nh ru bg la sd pl2 sk2 he2 nh2 ru2 bg2 la2 sd2 u0 l0 u1 l1 u2 l2 wy fi fl nu ik pr) s.heap := hP
  refine lv_iconst (v := 0) hx hb dX6_possibleRules_0 (by decide) ?_
  refine lv_istore_n (lv' := [(1, .int 0), (0, .ref (h 0))]) hx hb dX6_possibleRules_1 rfl hl (by decide) rfl (fun ls hl => ?_)
  refine lv_iconst (v := 0) hx hb dX6_possibleRules_2 (by decide) ?_
  refine lv_istore_n (lv' := [(2, .int 0), (1, .int 0), (0, .ref (h 0))]) hx hb dX6_possibleRules_3 rfl hl (by decide) rfl (fun ls hl => ?_)
  have L_4 : ∀ (d_4 : Nat) (j : Nat) (acc : Int32) (xu : Int64) (xl : Int64) (H_4 : Heap) (locs_4 : List Loc), 4 - j < d_4 → (j ≤ 4) → (acc = pr_acc nm ks gs wt he nh j) → va_P D vwCl (zSA cI h len cd nm ks gs wt mi pl sk he nh ru bg la sd pl2 sk2 he2 nh2 ru2 bg2 la2 sd2 u0 l0 xu xl u2 l2 wy fi fl nu ik pr) H_4 → va_D A (zSA cI h len cd nm ks gs wt mi pl sk he nh ru bg la sd pl2 sk2 he2 nh2 ru2 bg2 la2 sd2 u0 l0 xu xl u2 l2 wy fi fl nu ik pr) → va_S A s.heap H_4 locs_4 → ∀ (ls : Array Slot), lv_has ls 3 [(2, .int (nI j)), (1, .int acc), (0, .ref (h 0))] → W p l e ({ frames := 4, cells := 0, slots := 0, locals := 106 } : Room) s m ([.ref (h 0)] : List Value).toArray below meth c H_4 locs_4 0 0 (MQ below (va_Qi (fun r (_ : Int64 × Int64) => r = pr_acc nm ks gs wt he nh 4) (fun (u : Int64 × Int64) (t : State) => va_P D vwCl (zSA cI h len cd nm ks gs wt mi pl sk he nh ru bg la sd pl2 sk2 he2 nh2 ru2 bg2 la2 sd2 u0 l0 u.1 u.2 u2 l2 wy fi fl nu ik pr) t.heap) A) ([.ref (h 0)] : List Value).toArray s 0 0 A) (F0 m 4 ls []) := by
    intro d_4
    induction d_4 with
    | zero => intro j acc xu xl H_4 locs_4 hd; exact absurd hd (Nat.not_lt_zero _)
    | succ d_4 ih_4 =>
      intro j acc xu xl H_4 locs_4 hd_4 hj hacc hP hD hS ls hl
      refine lv_iload_n hx hb dX6_possibleRules_4 rfl (lv_at hl 0 rfl) ?_
      refine lv_iconst (v := 4) hx hb dX6_possibleRules_5 (by decide) ?_
      refine lv_icmp_ge (tgt := 42) hx hb dX6_possibleRules_6 (by decide) (fun c_6 => ?_) (fun c_6 => ?_)
      · skip
        have hje : j = 4 := Nat.le_antisymm hj (vz_ge (n := 4) c_6 (by omega) (by omega))
        refine lv_iload_n hx hb dX6_possibleRules_42 rfl (lv_at hl 1 rfl) ?_
        exact W.iret hx hb hr (fun t ht hW => ⟨⟨_, (xu, xl), rfl, (by rw [hacc, hje]), (by show va_P D vwCl (zSA cI h len cd nm ks gs wt mi pl sk he nh ru bg la sd pl2 sk2 he2 nh2 ru2 bg2 la2 sd2 u0 l0 xu xl u2 l2 wy fi fl nu ik pr) t.heap; rw [ht]; exact hP)⟩, hS.F ht⟩) hS.2.2 dX6_possibleRules_43
      · skip
        have hlt : j < 4 := vz_lt (n := 4) c_6 (by omega)
        refine lv_aload_n hx hb dX6_possibleRules_9 rfl (lv_at hl 2 rfl) ?_
        refine lv_iload_n hx hb dX6_possibleRules_10 rfl (lv_at hl 0 rfl) ?_
        have hPc := hP
        have hDc := hD
        have hFc : ∀ q, va_A (zSA cI h len cd nm ks gs wt mi pl sk he nh ru bg la sd pl2 sk2 he2 nh2 ru2 bg2 la2 sd2 u0 l0 xu xl u2 l2 wy fi fl nu ik pr) H_4.size q → A q := vz_freeAll hD hS hA
        refine va_callv (va_runV (As := [.int (nI j)]) (rest := []) ⟨hx, hb, hml, hown, hts⟩ (c_X6_reckonHeard l D cI h len cd nm ks gs wt mi pl sk he nh ru bg la sd pl2 sk2 he2 nh2 ru2 bg2 la2 sd2 u0 l0 xu xl u2 l2 wy fi fl nu ik pr H_4.size (nI j) (by first | assumption | omega) (by first | assumption | omega)) (cwV 1 hts gX6_possibleRules_X6_reckonHeard rfl rfl rfl (by decide +kernel) ⟨Nat.le_of_ble_eq_true rfl, Nat.le_of_ble_eq_true rfl⟩) (vz_pvW (va_recv hK hP (ci := 6) (q0 := 0) rfl rfl) hZ hPc hDc) rfl rfl hl.1 rfl (lv_room (Nat.le_of_ble_eq_true rfl)) dX6_possibleRules_11 ⟨Nat.zero_le _, Nat.zero_le _⟩) hS (fun q _ h => hFc q h) hFc (fun u_11 t H_11 locs_11 ht hvm hw hB hz1 hk1 hS9 => ?_)
        rw [ht] at hB
        replace hP : va_P D vwCl (zSA cI h len cd nm ks gs wt mi pl sk he nh ru bg la sd pl2 sk2 he2 nh2 ru2 bg2 la2 sd2 u0 l0 ((hd nm ks gs wt he nh (nI j)).1) ((hd nm ks gs wt he nh (nI j)).2) u2 l2 wy fi fl nu ik pr) H_11 := hB
        replace hD : va_D A (zSA cI h len cd nm ks gs wt mi pl sk he nh ru bg la sd pl2 sk2 he2 nh2 ru2 bg2 la2 sd2 u0 l0 ((hd nm ks gs wt he nh (nI j)).1) ((hd nm ks gs wt he nh (nI j)).2) u2 l2 wy fi fl nu ik pr) := vz_same hD rfl
        replace hS := hS9
        clear hS9 hPc hDc hFc hB hk1 hz1
        refine lv_iload_n hx hb dX6_possibleRules_14 rfl (lv_at hl 1 rfl) ?_
        refine lv_aload_n hx hb dX6_possibleRules_15 rfl (lv_at hl 2 rfl) ?_
        refine va_get (D := D) (ci := 6) (v := .ref (h 28)) (C := RX6) (T := TX6) (N := 10) hx hb hts iX6 hown hK hP 0 rfl rfl 5 (by decide) k40 (fun _ h9 => h9) rfl dX6_possibleRules_16 ?_
        refine va_getN (D := D) (ci := 1) (v := .long ((hd nm ks gs wt he nh (nI j)).1)) (C := RX1) (T := TX1) (N := 2) hx hb hts iX1 hown hK hP 28 rfl rfl 0 (by decide) k160 (fun _ h9 => h9) rfl dX6_possibleRules_19 ?_
        refine lv_lconst (v := 0) hx hb dX6_possibleRules_22 (by decide) ?_
        refine W.lcmp hx hb dX6_possibleRules_23 ?_
        refine lv_if_le (tgt := 33) hx hb dX6_possibleRules_24 (by decide) (fun c_24 => ?_) (fun c_24 => ?_)
        · skip
          replace c_24 := (lg_cmp_le _ _).mp c_24
          refine lv_iconst (v := 0) hx hb dX6_possibleRules_33 (by decide) ?_
          refine lv_ior hx hb dX6_possibleRules_34 ?_
          refine lv_istore_n (lv' := [(1, .int (acc ||| 0)), (2, .int (nI j)), (0, .ref (h 0))]) hx hb dX6_possibleRules_35 rfl hl (by decide) rfl (fun ls hl => ?_)
          refine lv_iinc (v := nI (j + 1)) (lv' := [(2, .int (nI (j + 1))), (1, .int (acc ||| 0)), (0, .ref (h 0))]) hx hb dX6_possibleRules_36 hl (k := 1) rfl (vz_inc _) (by decide) rfl (fun ls hl => ?_)
          refine lv_goto (tgt := 4) hx hb dX6_possibleRules_39 (by decide) ?_
          have ew_u1 : ((hd nm ks gs wt he nh (nI j)).1) = (hd nm ks gs wt he nh (nI j)).1 := by rfl
          have ew_l1 : ((hd nm ks gs wt he nh (nI j)).2) = (hd nm ks gs wt he nh (nI j)).2 := by rfl
          replace hP : va_P D vwCl (zSA cI h len cd nm ks gs wt mi pl sk he nh ru bg la sd pl2 sk2 he2 nh2 ru2 bg2 la2 sd2 u0 l0 ((hd nm ks gs wt he nh (nI j)).1) ((hd nm ks gs wt he nh (nI j)).2) u2 l2 wy fi fl nu ik pr) H_11 := by rw [ew_u1, ew_l1]; exact hP
          replace hD : va_D A (zSA cI h len cd nm ks gs wt mi pl sk he nh ru bg la sd pl2 sk2 he2 nh2 ru2 bg2 la2 sd2 u0 l0 ((hd nm ks gs wt he nh (nI j)).1) ((hd nm ks gs wt he nh (nI j)).2) u2 l2 wy fi fl nu ik pr) := vz_same hD rfl
          exact ih_4 (j + 1) (acc ||| 0) ((hd nm ks gs wt he nh (nI j)).1) ((hd nm ks gs wt he nh (nI j)).2) _ _ (by omega) (by omega) (by simp only [pr_acc, hacc, c_6, c_24, ↓reduceIte]) hP hD hS ls (lv_sub hl [0, 1, 2] rfl)
        · skip
          replace c_24 := mt (lg_cmp_le _ _).mpr c_24
          refine lv_iconst (v := 1) hx hb dX6_possibleRules_27 (by decide) ?_
          refine lv_iload_n hx hb dX6_possibleRules_28 rfl (lv_at hl 0 rfl) ?_
          refine lv_ishl hx hb dX6_possibleRules_29 ?_
          refine lv_goto (tgt := 34) hx hb dX6_possibleRules_30 (by decide) ?_
          refine lv_ior hx hb dX6_possibleRules_34 ?_
          refine lv_istore_n (lv' := [(1, .int (acc ||| (1 <<< ((nI j) &&& 31)))), (2, .int (nI j)), (0, .ref (h 0))]) hx hb dX6_possibleRules_35 rfl hl (by decide) rfl (fun ls hl => ?_)
          refine lv_iinc (v := nI (j + 1)) (lv' := [(2, .int (nI (j + 1))), (1, .int (acc ||| (1 <<< ((nI j) &&& 31)))), (0, .ref (h 0))]) hx hb dX6_possibleRules_36 hl (k := 1) rfl (vz_inc _) (by decide) rfl (fun ls hl => ?_)
          refine lv_goto (tgt := 4) hx hb dX6_possibleRules_39 (by decide) ?_
          have ew_u1 : ((hd nm ks gs wt he nh (nI j)).1) = (hd nm ks gs wt he nh (nI j)).1 := by rfl
          have ew_l1 : ((hd nm ks gs wt he nh (nI j)).2) = (hd nm ks gs wt he nh (nI j)).2 := by rfl
          replace hP : va_P D vwCl (zSA cI h len cd nm ks gs wt mi pl sk he nh ru bg la sd pl2 sk2 he2 nh2 ru2 bg2 la2 sd2 u0 l0 ((hd nm ks gs wt he nh (nI j)).1) ((hd nm ks gs wt he nh (nI j)).2) u2 l2 wy fi fl nu ik pr) H_11 := by rw [ew_u1, ew_l1]; exact hP
          replace hD : va_D A (zSA cI h len cd nm ks gs wt mi pl sk he nh ru bg la sd pl2 sk2 he2 nh2 ru2 bg2 la2 sd2 u0 l0 ((hd nm ks gs wt he nh (nI j)).1) ((hd nm ks gs wt he nh (nI j)).2) u2 l2 wy fi fl nu ik pr) := vz_same hD rfl
          exact ih_4 (j + 1) (acc ||| (1 <<< ((nI j) &&& 31))) ((hd nm ks gs wt he nh (nI j)).1) ((hd nm ks gs wt he nh (nI j)).2) _ _ (by omega) (by omega) (by simp only [pr_acc, hacc, c_6, c_24, ↓reduceIte]) hP hD hS ls (lv_sub hl [0, 1, 2] rfl)
  exact L_4 _ 0 0 u1 l1 _ _ (Nat.lt_succ_self _) (Nat.zero_le _) rfl hP hD hS ls (lv_sub hl [0, 1, 2] rfl)
set_option maxHeartbeats 4000000 in
set_option maxRecDepth 100000 in
theorem c_X6_likeliestRule (l : Launch) (D : va_G) (cI : ClassId) (h : Nat → Nat) (len : Nat) (cd : Nat → Int32) (nm : Nat) (ks : Nat → Int32) (gs : Nat → Int32) (wt : Nat → Int32) (mi : Nat → Int32) (pl : Nat → Int32) (sk : Nat → Int32) (he : Nat → Int32) (nh : Nat) (ru : Int32) (bg : Int32) (la : Int32) (sd : Bool) (pl2 : Nat → Int32) (sk2 : Nat → Int32) (he2 : Nat → Int32) (nh2 : Nat) (ru2 : Int32) (bg2 : Int32) (la2 : Int32) (sd2 : Bool) (u0 : Int64) (l0 : Int64) (u1 : Int64) (l1 : Int64) (u2 : Int64) (l2 : Int64) (wy : Nat → Int32) (fi : Nat → Int32) (fl : Int32) (nu : Int32) (ik : Bool) (pr : Nat) (sz : Nat) (hnm : nm ≤ 6) (hnh : nh ≤ 8) : Met l yX6_likeliestRule wsX6_likeliestRule ({ frames := 4, cells := 0, slots := 0, locals := 106 } : Room) (vz_rw D cI (zSA cI h len cd nm ks gs wt mi pl sk he nh ru bg la sd pl2 sk2 he2 nh2 ru2 bg2 la2 sd2 u0 l0 u1 l1 u2 l2 wy fi fl nu ik pr) sz [.ref (h 0)]) (va_Qi (fun r (_ : Int64 × Int64 × Int64 × Int64) => r = (lk nm ks gs wt he nh 4).1) (fun (u : Int64 × Int64 × Int64 × Int64) (t : State) => va_P D vwCl (zSA cI h len cd nm ks gs wt mi pl sk he nh ru bg la sd pl2 sk2 he2 nh2 ru2 bg2 la2 sd2 u0 l0 u.1 u.2.1 u.2.2.1 u.2.2.2 wy fi fl nu ik pr) t.heap) (va_A (zSA cI h len cd nm ks gs wt mi pl sk he nh ru bg la sd pl2 sk2 he2 nh2 ru2 bg2 la2 sd2 u0 l0 u1 l1 u2 l2 wy fi fl nu ik pr) sz)) 0 0 (va_A (zSA cI h len cd nm ks gs wt mi pl sk he nh ru bg la sd pl2 sk2 he2 nh2 ru2 bg2 la2 sd2 u0 l0 u1 l1 u2 l2 wy fi fl nu ik pr) sz) := by
  refine Met.ofW (cc := cX6_likeliestRule) (maxL := 3) (ret := (some .int)) (by decide) rfl ?_
  intro p e s m args below meth c s₁ B hml hv
  obtain ⟨rfl, hsz, hP, hZ, hD0⟩ := hv
  obtain ⟨hK, hN⟩ := id hZ
  have hx := B.exec
  have hb := B.bytes
  have hr := B.returns
  have hts := atoms_spec (ws := wsX6_likeliestRule) B.pre
  have hown : s.vm.findClass RX6 = some m.cls := findClass_of_methodNamed B.named
  have hlocks := B.notSynchronized
  subst hsz
  have hD := hD0.self (sz := s.heap.size)
  generalize hAe : va_A (zSA cI h len cd nm ks gs wt mi pl sk he nh ru bg la sd pl2 sk2 he2 nh2 ru2 bg2 la2 sd2 u0 l0 u1 l1 u2 l2 wy fi fl nu ik pr) s.heap.size = A at hD ⊢
  have hA : ∀ q : Nat, s.heap.size ≤ q → A q := fun q h => by rw [← hAe]; exact Or.inr h
  have hS : va_S A s.heap s.heap [] := va_S.rf
  have k40 := hts (.fieldLink RX6 40 "SongsAgain" "chance" "LSongsAgain$Fraction;") (List.mem_of_getElem? (i := 2) rfl)
  have k43 := hts (.fieldLink RX6 43 "SongsAgain" "best" "LSongsAgain$Fraction;") (List.mem_of_getElem? (i := 1) rfl)
  have k160 : (Cond.fieldLinkNest "SongsAgain" 160 "SongsAgain$Fraction" "above" "J" "SongsAgain").before _ s = true := va_Nw.use (A := ([.ref (h 0)] : List Value).toArray) rfl (hN.1 ("SongsAgain", 160, "SongsAgain$Fraction", "above", "J") (List.mem_of_getElem? (i := 17) rfl))
  have k164 : (Cond.fieldLinkNest "SongsAgain" 164 "SongsAgain$Fraction" "below" "J" "SongsAgain").before _ s = true := va_Nw.use (A := ([.ref (h 0)] : List Value).toArray) rfl (hN.1 ("SongsAgain", 164, "SongsAgain$Fraction", "below", "J") (List.mem_of_getElem? (i := 18) rfl))
  have iX1 : ∀ w ∈ u_ws RX1 TX1 2, w ∈ wsX6_likeliestRule := vz_in (i := 75) (n := 2) rfl
  have iX6 : ∀ w ∈ u_ws RX6 TX6 10, w ∈ wsX6_likeliestRule := vz_in (i := 65) (n := 10) rfl
  have hl := lv_entry ([.ref (h 0)]) (n := 3) (Nat.le_of_ble_eq_true rfl)
  rw [lg_entry_eq]
  generalize (lg_sl ([.ref (h 0)]) ++ List.replicate (3 - (lg_sl ([.ref (h 0)])).length) Slot.unset).toArray = ls at hl ⊢
  have hl : lv_has ls 3 [(0, .ref (h 0))] := hl
  have hP : va_P D vwCl (zSA cI h len cd nm ks gs wt mi pl sk he nh ru bg la sd pl2 sk2 he2 nh2 ru2 bg2 la2 sd2 u0 l0 u1 l1 u2 l2 wy fi fl nu ik pr) s.heap := hP
  refine lv_iconst (v := (-1)) hx hb dX6_likeliestRule_0 (by decide) ?_
  refine lv_istore_n (lv' := [(1, .int (-1)), (0, .ref (h 0))]) hx hb dX6_likeliestRule_1 rfl hl (by decide) rfl (fun ls hl => ?_)
  refine lv_aload_n hx hb dX6_likeliestRule_2 rfl (lv_at hl 1 rfl) ?_
  refine va_get (D := D) (ci := 6) (v := .ref (h 29)) (C := RX6) (T := TX6) (N := 10) hx hb hts iX6 hown hK hP 0 rfl rfl 6 (by decide) k43 (fun _ h9 => h9) rfl dX6_likeliestRule_3 ?_
  refine lv_lconst (v := 0) hx hb dX6_likeliestRule_6 (by decide) ?_
  refine lv_lconst (v := 1) hx hb dX6_likeliestRule_7 (by decide) ?_
  have hPc := (hP.sub (ws' := (zFr cI (h 29) u2 l2)) [29] rfl)
  have hDc := hD.sub (ws' := (zFr cI (h 29) u2 l2)) [29] rfl rfl
  have hFc := va_free (wc := (zFr cI (h 29) u2 l2)) hD hS hA [29] rfl
  refine va_callv (va_runV (As := [.long 0, .long 1]) (rest := []) ⟨hx, hb, hml, hown, hts⟩ (c_X1_become l D cI (h 29) u2 l2 s.heap.size 0 1) (cwV 2 hts gX6_likeliestRule_X1_become rfl rfl rfl (by decide +kernel) ⟨Nat.le_of_ble_eq_true rfl, Nat.le_of_ble_eq_true rfl⟩) (vz_pvW (va_recv hK hP (ci := 1) (q0 := 29) rfl rfl) hZ hPc hDc) rfl rfl hl.1 rfl (lv_room (Nat.le_of_ble_eq_true rfl)) dX6_likeliestRule_8 ⟨Nat.zero_le _, Nat.zero_le _⟩) hS (fun q _ h => hFc q h) hFc (fun u_8 t H_8 locs_8 ht hvm hw hB hz1 hk1 hS9 => ?_)
  rw [ht] at hB
  replace hP : va_P D vwCl (zSA cI h len cd nm ks gs wt mi pl sk he nh ru bg la sd pl2 sk2 he2 nh2 ru2 bg2 la2 sd2 u0 l0 u1 l1 (fr_q (fr_cd 0 1) 0 u2) (fr_q (fr_cd 0 1) 1 l2) wy fi fl nu ik pr) H_8 := vz_join (w1 := (zFr cI (h 29) (fr_q (fr_cd 0 1) 0 u2) (fr_q (fr_cd 0 1) 1 l2))) hP hD [29] rfl rfl hk1 hB
  replace hD : va_D A (zSA cI h len cd nm ks gs wt mi pl sk he nh ru bg la sd pl2 sk2 he2 nh2 ru2 bg2 la2 sd2 u0 l0 u1 l1 (fr_q (fr_cd 0 1) 0 u2) (fr_q (fr_cd 0 1) 1 l2) wy fi fl nu ik pr) := vz_same hD rfl
  replace hS := hS9
  clear hS9 hPc hDc hFc hB hk1 hz1
  have ew_u2 : 0 = fr_q (fr_cd 0 1) 0 u2 := by exact fr_01u _
  replace hP : va_P D vwCl (zSA cI h len cd nm ks gs wt mi pl sk he nh ru bg la sd pl2 sk2 he2 nh2 ru2 bg2 la2 sd2 u0 l0 u1 l1 0 (fr_q (fr_cd 0 1) 1 l2) wy fi fl nu ik pr) H_8 := by rw [ew_u2]; exact hP
  replace hD : va_D A (zSA cI h len cd nm ks gs wt mi pl sk he nh ru bg la sd pl2 sk2 he2 nh2 ru2 bg2 la2 sd2 u0 l0 u1 l1 0 (fr_q (fr_cd 0 1) 1 l2) wy fi fl nu ik pr) := vz_same hD rfl
  have ew_l2 : 1 = fr_q (fr_cd 0 1) 1 l2 := by exact fr_01l _
  replace hP : va_P D vwCl (zSA cI h len cd nm ks gs wt mi pl sk he nh ru bg la sd pl2 sk2 he2 nh2 ru2 bg2 la2 sd2 u0 l0 u1 l1 0 1 wy fi fl nu ik pr) H_8 := by rw [ew_l2]; exact hP
  replace hD : va_D A (zSA cI h len cd nm ks gs wt mi pl sk he nh ru bg la sd pl2 sk2 he2 nh2 ru2 bg2 la2 sd2 u0 l0 u1 l1 0 1 wy fi fl nu ik pr) := vz_same hD rfl
  refine lv_iconst (v := 0) hx hb dX6_likeliestRule_11 (by decide) ?_
  refine lv_istore_n (lv' := [(2, .int 0), (1, .int (-1)), (0, .ref (h 0))]) hx hb dX6_likeliestRule_12 rfl hl (by decide) rfl (fun ls hl => ?_)
  have L_13 : ∀ (d_13 : Nat) (j : Nat) (a1 : Int32) (xu : Int64) (xl : Int64) (yu : Int64) (yl : Int64) (H_13 : Heap) (locs_13 : List Loc), 4 - j < d_13 → (j ≤ 4) → (lk nm ks gs wt he nh j = (a1, (yu, yl))) → va_P D vwCl (zSA cI h len cd nm ks gs wt mi pl sk he nh ru bg la sd pl2 sk2 he2 nh2 ru2 bg2 la2 sd2 u0 l0 xu xl yu yl wy fi fl nu ik pr) H_13 → va_D A (zSA cI h len cd nm ks gs wt mi pl sk he nh ru bg la sd pl2 sk2 he2 nh2 ru2 bg2 la2 sd2 u0 l0 xu xl yu yl wy fi fl nu ik pr) → va_S A s.heap H_13 locs_13 → ∀ (ls : Array Slot), lv_has ls 3 [(2, .int (nI j)), (1, .int a1), (0, .ref (h 0))] → W p l e ({ frames := 4, cells := 0, slots := 0, locals := 106 } : Room) s m ([.ref (h 0)] : List Value).toArray below meth c H_13 locs_13 0 0 (MQ below (va_Qi (fun r (_ : Int64 × Int64 × Int64 × Int64) => r = (lk nm ks gs wt he nh 4).1) (fun (u : Int64 × Int64 × Int64 × Int64) (t : State) => va_P D vwCl (zSA cI h len cd nm ks gs wt mi pl sk he nh ru bg la sd pl2 sk2 he2 nh2 ru2 bg2 la2 sd2 u0 l0 u.1 u.2.1 u.2.2.1 u.2.2.2 wy fi fl nu ik pr) t.heap) A) ([.ref (h 0)] : List Value).toArray s 0 0 A) (F0 m 13 ls []) := by
    intro d_13
    induction d_13 with
    | zero => intro j a1 xu xl yu yl H_13 locs_13 hd; exact absurd hd (Nat.not_lt_zero _)
    | succ d_13 ih_13 =>
      intro j a1 xu xl yu yl H_13 locs_13 hd_13 hj hlk hP hD hS ls hl
      refine lv_iload_n hx hb dX6_likeliestRule_13 rfl (lv_at hl 0 rfl) ?_
      refine lv_iconst (v := 4) hx hb dX6_likeliestRule_14 (by decide) ?_
      refine lv_icmp_ge (tgt := 66) hx hb dX6_likeliestRule_15 (by decide) (fun c_15 => ?_) (fun c_15 => ?_)
      · skip
        have hje : j = 4 := Nat.le_antisymm hj (vz_ge (n := 4) c_15 (by omega) (by omega))
        refine lv_iload_n hx hb dX6_likeliestRule_66 rfl (lv_at hl 1 rfl) ?_
        exact W.iret hx hb hr (fun t ht hW => ⟨⟨_, (xu, xl, yu, yl), rfl, (by rw [← hje, hlk]), (by show va_P D vwCl (zSA cI h len cd nm ks gs wt mi pl sk he nh ru bg la sd pl2 sk2 he2 nh2 ru2 bg2 la2 sd2 u0 l0 xu xl yu yl wy fi fl nu ik pr) t.heap; rw [ht]; exact hP)⟩, hS.F ht⟩) hS.2.2 dX6_likeliestRule_67
      · skip
        have hlt : j < 4 := vz_lt (n := 4) c_15 (by omega)
        refine lv_aload_n hx hb dX6_likeliestRule_18 rfl (lv_at hl 2 rfl) ?_
        refine lv_iload_n hx hb dX6_likeliestRule_19 rfl (lv_at hl 0 rfl) ?_
        have hPc := hP
        have hDc := hD
        have hFc : ∀ q, va_A (zSA cI h len cd nm ks gs wt mi pl sk he nh ru bg la sd pl2 sk2 he2 nh2 ru2 bg2 la2 sd2 u0 l0 xu xl yu yl wy fi fl nu ik pr) H_13.size q → A q := vz_freeAll hD hS hA
        refine va_callv (va_runV (As := [.int (nI j)]) (rest := []) ⟨hx, hb, hml, hown, hts⟩ (c_X6_reckonHeard l D cI h len cd nm ks gs wt mi pl sk he nh ru bg la sd pl2 sk2 he2 nh2 ru2 bg2 la2 sd2 u0 l0 xu xl yu yl wy fi fl nu ik pr H_13.size (nI j) (by first | assumption | omega) (by first | assumption | omega)) (cwV 1 hts gX6_likeliestRule_X6_reckonHeard rfl rfl rfl (by decide +kernel) ⟨Nat.le_of_ble_eq_true rfl, Nat.le_of_ble_eq_true rfl⟩) (vz_pvW (va_recv hK hP (ci := 6) (q0 := 0) rfl rfl) hZ hPc hDc) rfl rfl hl.1 rfl (lv_room (Nat.le_of_ble_eq_true rfl)) dX6_likeliestRule_20 ⟨Nat.zero_le _, Nat.zero_le _⟩) hS (fun q _ h => hFc q h) hFc (fun u_20 t H_20 locs_20 ht hvm hw hB hz1 hk1 hS9 => ?_)
        rw [ht] at hB
        replace hP : va_P D vwCl (zSA cI h len cd nm ks gs wt mi pl sk he nh ru bg la sd pl2 sk2 he2 nh2 ru2 bg2 la2 sd2 u0 l0 ((hd nm ks gs wt he nh (nI j)).1) ((hd nm ks gs wt he nh (nI j)).2) yu yl wy fi fl nu ik pr) H_20 := hB
        replace hD : va_D A (zSA cI h len cd nm ks gs wt mi pl sk he nh ru bg la sd pl2 sk2 he2 nh2 ru2 bg2 la2 sd2 u0 l0 ((hd nm ks gs wt he nh (nI j)).1) ((hd nm ks gs wt he nh (nI j)).2) yu yl wy fi fl nu ik pr) := vz_same hD rfl
        replace hS := hS9
        clear hS9 hPc hDc hFc hB hk1 hz1
        refine lv_aload_n hx hb dX6_likeliestRule_23 rfl (lv_at hl 2 rfl) ?_
        refine va_get (D := D) (ci := 6) (v := .ref (h 28)) (C := RX6) (T := TX6) (N := 10) hx hb hts iX6 hown hK hP 0 rfl rfl 5 (by decide) k40 (fun _ h9 => h9) rfl dX6_likeliestRule_24 ?_
        refine lv_aload_n hx hb dX6_likeliestRule_27 rfl (lv_at hl 2 rfl) ?_
        refine va_get (D := D) (ci := 6) (v := .ref (h 29)) (C := RX6) (T := TX6) (N := 10) hx hb hts iX6 hown hK hP 0 rfl rfl 6 (by decide) k43 (fun _ h9 => h9) rfl dX6_likeliestRule_28 ?_
        refine vp_callSi (W.runV (As := [.ref (h 29)]) (rest := []) ⟨hx, hb, hml, hown, hts⟩ (c_X1_isMoreThan l D cI (h 28) ((hd nm ks gs wt he nh (nI j)).1) ((hd nm ks gs wt he nh (nI j)).2) (h 29) yu yl) (cwV 1 hts gX6_likeliestRule_X1_isMoreThan rfl rfl rfl (by decide +kernel) ⟨Nat.le_of_ble_eq_true rfl, Nat.le_of_ble_eq_true rfl⟩) (vz_pvR (va_recv hK hP (ci := 1) (q0 := 28) rfl rfl) hZ (hP.sub (ws' := (zFrFr cI (h 28) ((hd nm ks gs wt he nh (nI j)).1) ((hd nm ks gs wt he nh (nI j)).2) (h 29) yu yl)) [28, 29] rfl)) rfl rfl hl.1 rfl (lv_room (Nat.le_of_ble_eq_true rfl)) dX6_likeliestRule_31 ⟨Nat.zero_le _, Nat.zero_le _⟩) (fun r_31 hr_31 => ?_)
        subst hr_31
        refine lv_if_eq (tgt := 60) hx hb dX6_likeliestRule_34 (by decide) (fun c_34 => ?_) (fun c_34 => ?_)
        · skip
          replace c_34 := vz_b0 c_34
          refine lv_iinc (v := nI (j + 1)) (lv' := [(2, .int (nI (j + 1))), (1, .int a1), (0, .ref (h 0))]) hx hb dX6_likeliestRule_60 hl (k := 0) rfl (vz_inc _) (by decide) rfl (fun ls hl => ?_)
          refine lv_goto (tgt := 13) hx hb dX6_likeliestRule_63 (by decide) ?_
          have ew_u1 : ((hd nm ks gs wt he nh (nI j)).1) = (hd nm ks gs wt he nh (nI j)).1 := by rfl
          have ew_l1 : ((hd nm ks gs wt he nh (nI j)).2) = (hd nm ks gs wt he nh (nI j)).2 := by rfl
          replace hP : va_P D vwCl (zSA cI h len cd nm ks gs wt mi pl sk he nh ru bg la sd pl2 sk2 he2 nh2 ru2 bg2 la2 sd2 u0 l0 ((hd nm ks gs wt he nh (nI j)).1) ((hd nm ks gs wt he nh (nI j)).2) yu yl wy fi fl nu ik pr) H_20 := by rw [ew_u1, ew_l1]; exact hP
          replace hD : va_D A (zSA cI h len cd nm ks gs wt mi pl sk he nh ru bg la sd pl2 sk2 he2 nh2 ru2 bg2 la2 sd2 u0 l0 ((hd nm ks gs wt he nh (nI j)).1) ((hd nm ks gs wt he nh (nI j)).2) yu yl wy fi fl nu ik pr) := vz_same hD rfl
          exact ih_13 (j + 1) a1 ((hd nm ks gs wt he nh (nI j)).1) ((hd nm ks gs wt he nh (nI j)).2) yu yl _ _ (by omega) (by omega) (by simp only [lk, hlk, c_15, c_34, ↓reduceIte, Bool.false_eq_true]) hP hD hS ls (lv_sub hl [0, 1, 2] rfl)
        · skip
          replace c_34 := vz_b1 c_34
          refine lv_aload_n hx hb dX6_likeliestRule_37 rfl (lv_at hl 2 rfl) ?_
          refine va_get (D := D) (ci := 6) (v := .ref (h 29)) (C := RX6) (T := TX6) (N := 10) hx hb hts iX6 hown hK hP 0 rfl rfl 6 (by decide) k43 (fun _ h9 => h9) rfl dX6_likeliestRule_38 ?_
          refine lv_aload_n hx hb dX6_likeliestRule_41 rfl (lv_at hl 2 rfl) ?_
          refine va_get (D := D) (ci := 6) (v := .ref (h 28)) (C := RX6) (T := TX6) (N := 10) hx hb hts iX6 hown hK hP 0 rfl rfl 5 (by decide) k40 (fun _ h9 => h9) rfl dX6_likeliestRule_42 ?_
          refine va_getN (D := D) (ci := 1) (v := .long ((hd nm ks gs wt he nh (nI j)).1)) (C := RX1) (T := TX1) (N := 2) hx hb hts iX1 hown hK hP 28 rfl rfl 0 (by decide) k160 (fun _ h9 => h9) rfl dX6_likeliestRule_45 ?_
          refine lv_aload_n hx hb dX6_likeliestRule_48 rfl (lv_at hl 2 rfl) ?_
          refine va_get (D := D) (ci := 6) (v := .ref (h 28)) (C := RX6) (T := TX6) (N := 10) hx hb hts iX6 hown hK hP 0 rfl rfl 5 (by decide) k40 (fun _ h9 => h9) rfl dX6_likeliestRule_49 ?_
          refine va_getN (D := D) (ci := 1) (v := .long ((hd nm ks gs wt he nh (nI j)).2)) (C := RX1) (T := TX1) (N := 2) hx hb hts iX1 hown hK hP 28 rfl rfl 1 (by decide) k164 (fun _ h9 => h9) rfl dX6_likeliestRule_52 ?_
          have hPc := (hP.sub (ws' := (zFr cI (h 29) yu yl)) [29] rfl)
          have hDc := hD.sub (ws' := (zFr cI (h 29) yu yl)) [29] rfl rfl
          have hFc := va_free (wc := (zFr cI (h 29) yu yl)) hD hS hA [29] rfl
          refine va_callv (va_runV (As := [.long ((hd nm ks gs wt he nh (nI j)).1), .long ((hd nm ks gs wt he nh (nI j)).2)]) (rest := []) ⟨hx, hb, hml, hown, hts⟩ (c_X1_become l D cI (h 29) yu yl H_20.size ((hd nm ks gs wt he nh (nI j)).1) ((hd nm ks gs wt he nh (nI j)).2)) (cwV 2 hts gX6_likeliestRule_X1_become rfl rfl rfl (by decide +kernel) ⟨Nat.le_of_ble_eq_true rfl, Nat.le_of_ble_eq_true rfl⟩) (vz_pvW (va_recv hK hP (ci := 1) (q0 := 29) rfl rfl) hZ hPc hDc) rfl rfl hl.1 rfl (lv_room (Nat.le_of_ble_eq_true rfl)) dX6_likeliestRule_55 ⟨Nat.zero_le _, Nat.zero_le _⟩) hS (fun q _ h => hFc q h) hFc (fun u_55 t H_55 locs_55 ht hvm hw hB hz1 hk1 hS9 => ?_)
          rw [ht] at hB
          replace hP : va_P D vwCl (zSA cI h len cd nm ks gs wt mi pl sk he nh ru bg la sd pl2 sk2 he2 nh2 ru2 bg2 la2 sd2 u0 l0 ((hd nm ks gs wt he nh (nI j)).1) ((hd nm ks gs wt he nh (nI j)).2) (fr_q (fr_cd ((hd nm ks gs wt he nh (nI j)).1) ((hd nm ks gs wt he nh (nI j)).2)) ((hd nm ks gs wt he nh (nI j)).1) yu) (fr_q (fr_cd ((hd nm ks gs wt he nh (nI j)).1) ((hd nm ks gs wt he nh (nI j)).2)) ((hd nm ks gs wt he nh (nI j)).2) yl) wy fi fl nu ik pr) H_55 := vz_join (w1 := (zFr cI (h 29) (fr_q (fr_cd ((hd nm ks gs wt he nh (nI j)).1) ((hd nm ks gs wt he nh (nI j)).2)) ((hd nm ks gs wt he nh (nI j)).1) yu) (fr_q (fr_cd ((hd nm ks gs wt he nh (nI j)).1) ((hd nm ks gs wt he nh (nI j)).2)) ((hd nm ks gs wt he nh (nI j)).2) yl))) hP hD [29] rfl rfl hk1 hB
          replace hD : va_D A (zSA cI h len cd nm ks gs wt mi pl sk he nh ru bg la sd pl2 sk2 he2 nh2 ru2 bg2 la2 sd2 u0 l0 ((hd nm ks gs wt he nh (nI j)).1) ((hd nm ks gs wt he nh (nI j)).2) (fr_q (fr_cd ((hd nm ks gs wt he nh (nI j)).1) ((hd nm ks gs wt he nh (nI j)).2)) ((hd nm ks gs wt he nh (nI j)).1) yu) (fr_q (fr_cd ((hd nm ks gs wt he nh (nI j)).1) ((hd nm ks gs wt he nh (nI j)).2)) ((hd nm ks gs wt he nh (nI j)).2) yl) wy fi fl nu ik pr) := vz_same hD rfl
          replace hS := hS9
          clear hS9 hPc hDc hFc hB hk1 hz1
          refine lv_iload_n hx hb dX6_likeliestRule_58 rfl (lv_at hl 0 rfl) ?_
          refine lv_istore_n (lv' := [(1, .int (nI j)), (2, .int (nI j)), (0, .ref (h 0))]) hx hb dX6_likeliestRule_59 rfl hl (by decide) rfl (fun ls hl => ?_)
          refine lv_iinc (v := nI (j + 1)) (lv' := [(2, .int (nI (j + 1))), (1, .int (nI j)), (0, .ref (h 0))]) hx hb dX6_likeliestRule_60 hl (k := 1) rfl (vz_inc _) (by decide) rfl (fun ls hl => ?_)
          refine lv_goto (tgt := 13) hx hb dX6_likeliestRule_63 (by decide) ?_
          have ew_u1 : ((hd nm ks gs wt he nh (nI j)).1) = (hd nm ks gs wt he nh (nI j)).1 := by rfl
          have ew_l1 : ((hd nm ks gs wt he nh (nI j)).2) = (hd nm ks gs wt he nh (nI j)).2 := by rfl
          have ew_u2 : (fr_q (fr_cd ((hd nm ks gs wt he nh (nI j)).1) ((hd nm ks gs wt he nh (nI j)).2)) ((hd nm ks gs wt he nh (nI j)).1) yu) = fr_q (fr_cd ((hd nm ks gs wt he nh (nI j)).1) ((hd nm ks gs wt he nh (nI j)).2)) ((hd nm ks gs wt he nh (nI j)).1) yu := by rfl
          have ew_l2 : (fr_q (fr_cd ((hd nm ks gs wt he nh (nI j)).1) ((hd nm ks gs wt he nh (nI j)).2)) ((hd nm ks gs wt he nh (nI j)).2) yl) = fr_q (fr_cd ((hd nm ks gs wt he nh (nI j)).1) ((hd nm ks gs wt he nh (nI j)).2)) ((hd nm ks gs wt he nh (nI j)).2) yl := by rfl
          replace hP : va_P D vwCl (zSA cI h len cd nm ks gs wt mi pl sk he nh ru bg la sd pl2 sk2 he2 nh2 ru2 bg2 la2 sd2 u0 l0 ((hd nm ks gs wt he nh (nI j)).1) ((hd nm ks gs wt he nh (nI j)).2) (fr_q (fr_cd ((hd nm ks gs wt he nh (nI j)).1) ((hd nm ks gs wt he nh (nI j)).2)) ((hd nm ks gs wt he nh (nI j)).1) yu) (fr_q (fr_cd ((hd nm ks gs wt he nh (nI j)).1) ((hd nm ks gs wt he nh (nI j)).2)) ((hd nm ks gs wt he nh (nI j)).2) yl) wy fi fl nu ik pr) H_55 := by rw [ew_u1, ew_l1, ew_u2, ew_l2]; exact hP
          replace hD : va_D A (zSA cI h len cd nm ks gs wt mi pl sk he nh ru bg la sd pl2 sk2 he2 nh2 ru2 bg2 la2 sd2 u0 l0 ((hd nm ks gs wt he nh (nI j)).1) ((hd nm ks gs wt he nh (nI j)).2) (fr_q (fr_cd ((hd nm ks gs wt he nh (nI j)).1) ((hd nm ks gs wt he nh (nI j)).2)) ((hd nm ks gs wt he nh (nI j)).1) yu) (fr_q (fr_cd ((hd nm ks gs wt he nh (nI j)).1) ((hd nm ks gs wt he nh (nI j)).2)) ((hd nm ks gs wt he nh (nI j)).2) yl) wy fi fl nu ik pr) := vz_same hD rfl
          exact ih_13 (j + 1) (nI j) ((hd nm ks gs wt he nh (nI j)).1) ((hd nm ks gs wt he nh (nI j)).2) (fr_q (fr_cd ((hd nm ks gs wt he nh (nI j)).1) ((hd nm ks gs wt he nh (nI j)).2)) ((hd nm ks gs wt he nh (nI j)).1) yu) (fr_q (fr_cd ((hd nm ks gs wt he nh (nI j)).1) ((hd nm ks gs wt he nh (nI j)).2)) ((hd nm ks gs wt he nh (nI j)).2) yl) _ _ (by omega) (by omega) (by simp only [lk, hlk, c_15, c_34, ↓reduceIte, Bool.false_eq_true]) hP hD hS ls (lv_sub hl [0, 1, 2] rfl)
  exact L_13 _ 0 (-1) u1 l1 0 1 _ _ (Nat.lt_succ_self _) (Nat.zero_le _) rfl hP hD hS ls (lv_sub hl [0, 1, 2] rfl)
set_option maxHeartbeats 4000000 in
set_option maxRecDepth 100000 in
theorem c_X6_drawn (l : Launch) (D : va_G) (cI : ClassId) (h : Nat → Nat) (len : Nat) (cd : Nat → Int32) (nm : Nat) (ks : Nat → Int32) (gs : Nat → Int32) (wt : Nat → Int32) (mi : Nat → Int32) (pl : Nat → Int32) (sk : Nat → Int32) (he : Nat → Int32) (nh : Nat) (ru : Int32) (bg : Int32) (la : Int32) (sd : Bool) (pl2 : Nat → Int32) (sk2 : Nat → Int32) (he2 : Nat → Int32) (nh2 : Nat) (ru2 : Int32) (bg2 : Int32) (la2 : Int32) (sd2 : Bool) (u0 : Int64) (l0 : Int64) (u1 : Int64) (l1 : Int64) (u2 : Int64) (l2 : Int64) (wy : Nat → Int32) (fi : Nat → Int32) (fl : Int32) (nu : Int32) (ik : Bool) (pr : Nat) (p0 : Int64) (p1 : Int32) (hnm : nm ≤ 6) : Met l yX6_drawn wsX6_drawn ({ frames := 3, cells := 0, slots := 0, locals := 84 } : Room) (vz_ro D cI (zSA cI h len cd nm ks gs wt mi pl sk he nh ru bg la sd pl2 sk2 he2 nh2 ru2 bg2 la2 sd2 u0 l0 u1 l1 u2 l2 wy fi fl nu ik pr) [.ref (h 0), .long p0, .int p1]) (vp_Si (fun r => r = dr nm wt sk p0 p1)) 0 0 (fun _ => False) := by
  refine Met.ofW (cc := cX6_drawn) (maxL := 9) (ret := (some .int)) (by decide) rfl ?_
  intro p e s m args below meth c s₁ B hml hv
  obtain ⟨rfl, hP, hZ⟩ := hv
  obtain ⟨hK, hN⟩ := id hZ
  have hx := B.exec
  have hb := B.bytes
  have hr := B.returns
  have hts := atoms_spec (ws := wsX6_drawn) B.pre
  have hown : s.vm.findClass RX6 = some m.cls := findClass_of_methodNamed B.named
  have hlocks := B.notSynchronized
  have k19 := hts (.fieldLink RX6 19 "SongsAgain" "book" "LSongsAgain$Book;") (List.mem_of_getElem? (i := 2) rfl)
  have k93 : (Cond.fieldLinkNest "SongsAgain" 93 "SongsAgain$Book" "number" "I" "SongsAgain").before _ s = true := va_Nw.use (A := ([.ref (h 0), .long p0, .int p1] : List Value).toArray) rfl (hN.1 ("SongsAgain", 93, "SongsAgain$Book", "number", "I") (List.mem_of_getElem? (i := 8) rfl))
  have iX0 : ∀ w ∈ u_ws RX0 TX0 5, w ∈ wsX6_drawn := vz_in (i := 50) (n := 5) rfl
  have iX6 : ∀ w ∈ u_ws RX6 TX6 10, w ∈ wsX6_drawn := vz_in (i := 40) (n := 10) rfl
  have hl := lv_entry ([.ref (h 0), .long p0, .int p1]) (n := 9) (Nat.le_of_ble_eq_true rfl)
  rw [lg_entry_eq]
  generalize (lg_sl ([.ref (h 0), .long p0, .int p1]) ++ List.replicate (9 - (lg_sl ([.ref (h 0), .long p0, .int p1])).length) Slot.unset).toArray = ls at hl ⊢
  have hl : lv_has ls 9 [(0, .ref (h 0)), (1, .long p0), (3, .int p1)] := hl
  refine lv_aload_n hx hb dX6_drawn_0 rfl (lv_at hl 0 rfl) ?_
  refine lv_iload_n hx hb dX6_drawn_1 rfl (lv_at hl 2 rfl) ?_
  refine vp_callSi (W.runV (As := [.int p1]) (rest := []) ⟨hx, hb, hml, hown, hts⟩ (c_X6_weightTogether l D cI h len cd nm ks gs wt mi pl sk he nh ru bg la sd pl2 sk2 he2 nh2 ru2 bg2 la2 sd2 u0 l0 u1 l1 u2 l2 wy fi fl nu ik pr p1 (by first | assumption | omega)) (cwV 1 hts gX6_drawn_X6_weightTogether rfl rfl rfl (by decide +kernel) ⟨Nat.le_of_ble_eq_true rfl, Nat.le_of_ble_eq_true rfl⟩) (vz_pvR (va_recv hK hP (ci := 6) (q0 := 0) rfl rfl) hZ hP) rfl rfl hl.1 rfl (lv_room (Nat.le_of_ble_eq_true rfl)) dX6_drawn_2 ⟨Nat.zero_le _, Nat.zero_le _⟩) (fun r_2 hr_2 => ?_)
  subst hr_2
  refine lv_istore (lv' := [(4, .int (sa_wt wt sk p1 nm)), (0, .ref (h 0)), (1, .long p0), (3, .int p1)]) hx hb dX6_drawn_5 hl (by decide) rfl (fun ls hl => ?_)
  refine lv_iload_n hx hb dX6_drawn_7 rfl (lv_at hl 3 rfl) ?_
  refine lv_iload hx hb dX6_drawn_8 (lv_at hl 0 rfl) ?_
  refine vp_callSi (W.runS (As := [.int p1, .int (sa_wt wt sk p1 nm)]) (rest := []) ⟨hx, hb, hml, hown, hts⟩ (c_X6_allShares l p1 (sa_wt wt sk p1 nm)) (va_cwS 2 hts gX6_drawn_X6_allShares rfl rfl rfl (by decide +kernel) ⟨Nat.le_of_ble_eq_true rfl, Nat.le_of_ble_eq_true rfl⟩) (vz_psS) rfl rfl hl.1 rfl (lv_room (Nat.le_of_ble_eq_true rfl)) dX6_drawn_10 ⟨Nat.zero_le _, Nat.zero_le _⟩) (fun r_10 hr_10 => ?_)
  subst hr_10
  refine lv_istore (lv' := [(5, .int (sa_all p1 (sa_wt wt sk p1 nm))), (4, .int (sa_wt wt sk p1 nm)), (0, .ref (h 0)), (1, .long p0), (3, .int p1)]) hx hb dX6_drawn_13 hl (by decide) rfl (fun ls hl => ?_)
  refine lv_iload hx hb dX6_drawn_15 (lv_at hl 0 rfl) ?_
  refine lv_if_gt (tgt := 22) hx hb dX6_drawn_17 (by decide) (fun c_17 => ?_) (fun c_17 => ?_)
  · skip
    refine lv_lload_n hx hb dX6_drawn_22 rfl (lv_at hl 3 rfl) ?_
    refine lv_ldc2 (v := 65536) hx hb hown (hts (.constantLong RX6 289 (65536)) (List.mem_of_getElem? (i := 1) rfl)) dX6_drawn_23 ?_
    refine lv_ldiv hx hb dX6_drawn_26 (by decide) ?_
    refine lv_iload hx hb dX6_drawn_27 (lv_at hl 0 rfl) ?_
    refine lv_i2l (v := (sa_all p1 (sa_wt wt sk p1 nm) : Int32).toInt64) hx hb dX6_drawn_29 rfl ?_
    refine lv_lrem hx hb dX6_drawn_30 (vz_nz c_17) ?_
    refine lv_lstore (lv' := [(6, .long ((p0 / 65536) - (p0 / 65536) / ((sa_all p1 (sa_wt wt sk p1 nm) : Int32).toInt64) * ((sa_all p1 (sa_wt wt sk p1 nm) : Int32).toInt64))), (5, .int (sa_all p1 (sa_wt wt sk p1 nm))), (4, .int (sa_wt wt sk p1 nm)), (0, .ref (h 0)), (1, .long p0), (3, .int p1)]) hx hb dX6_drawn_31 hl (by decide) rfl (fun ls hl => ?_)
    refine lv_iconst (v := 0) hx hb dX6_drawn_33 (by decide) ?_
    refine lv_istore (lv' := [(8, .int 0), (6, .long ((p0 / 65536) - (p0 / 65536) / ((sa_all p1 (sa_wt wt sk p1 nm) : Int32).toInt64) * ((sa_all p1 (sa_wt wt sk p1 nm) : Int32).toInt64))), (5, .int (sa_all p1 (sa_wt wt sk p1 nm))), (4, .int (sa_wt wt sk p1 nm)), (0, .ref (h 0)), (1, .long p0), (3, .int p1)]) hx hb dX6_drawn_34 hl (by decide) rfl (fun ls hl => ?_)
    have L_36 : ∀ (d_36 : Nat) (j : Nat) (y : Int64), nm - j < d_36 → (j ≤ nm) → (dr nm wt sk p0 p1 = dr_lp wt sk p1 (sa_wt wt sk p1 nm) (nm - j) j y) → ∀ (ls : Array Slot), lv_has ls 9 [(8, .int (nI j)), (6, .long y), (5, .int (sa_all p1 (sa_wt wt sk p1 nm))), (4, .int (sa_wt wt sk p1 nm)), (0, .ref (h 0)), (1, .long p0), (3, .int p1)] → W p l e ({ frames := 3, cells := 0, slots := 0, locals := 84 } : Room) s m ([.ref (h 0), .long p0, .int p1] : List Value).toArray below meth c s.heap [] 0 0 (MQ below (vp_Si (fun r => r = dr nm wt sk p0 p1)) ([.ref (h 0), .long p0, .int p1] : List Value).toArray s 0 0 (fun _ => False)) (F0 m 36 ls []) := by
      intro d_36
      induction d_36 with
      | zero => intro j y hd; exact absurd hd (Nat.not_lt_zero _)
      | succ d_36 ih_36 =>
        intro j y hd_36 hj hres ls hl
        refine lv_iload hx hb dX6_drawn_36 (lv_at hl 0 rfl) ?_
        refine lv_aload_n hx hb dX6_drawn_38 rfl (lv_at hl 4 rfl) ?_
        refine va_get (D := D) (ci := 6) (v := .ref (h 4)) (C := RX6) (T := TX6) (N := 10) hx hb hts iX6 hown hK hP 0 rfl rfl 1 (by decide) k19 (fun _ h9 => h9) rfl dX6_drawn_39 ?_
        refine va_getN (D := D) (ci := 0) (v := .int (nI nm)) (C := RX0) (T := TX0) (N := 5) hx hb hts iX0 hown hK hP 4 rfl rfl 4 (by decide) k93 (fun _ h9 => h9) rfl dX6_drawn_42 ?_
        refine lv_icmp_ge (tgt := 79) hx hb dX6_drawn_45 (by decide) (fun c_45 => ?_) (fun c_45 => ?_)
        · skip
          have hje : j = nm := Nat.le_antisymm hj (vz_ge c_45 (by omega) (by omega))
          refine lv_iconst (v := 0) hx hb dX6_drawn_79 (by decide) ?_
          exact W.iret hx hb hr (fun t ht hW => ⟨_, rfl, (by rw [hres, show nm - j = 0 by omega] ; rfl), ht⟩) (fun q h => absurd h List.not_mem_nil) dX6_drawn_80
        · skip
          have hlt : j < nm := vz_lt c_45 (by omega)
          refine lv_lload hx hb dX6_drawn_48 (lv_at hl 1 rfl) ?_
          refine lv_aload_n hx hb dX6_drawn_50 rfl (lv_at hl 4 rfl) ?_
          refine lv_iload hx hb dX6_drawn_51 (lv_at hl 0 rfl) ?_
          refine lv_iload_n hx hb dX6_drawn_53 rfl (lv_at hl 6 rfl) ?_
          refine lv_iload hx hb dX6_drawn_54 (lv_at hl 3 rfl) ?_
          refine vp_callSi (W.runV (As := [.int (nI j), .int p1, .int (sa_wt wt sk p1 nm)]) (rest := [.long y]) ⟨hx, hb, hml, hown, hts⟩ (c_X6_share l D cI h len cd nm ks gs wt mi pl sk he nh ru bg la sd pl2 sk2 he2 nh2 ru2 bg2 la2 sd2 u0 l0 u1 l1 u2 l2 wy fi fl nu ik pr (nI j) p1 (sa_wt wt sk p1 nm)) (cwV 3 hts gX6_drawn_X6_share rfl rfl rfl (by decide +kernel) ⟨Nat.le_of_ble_eq_true rfl, Nat.le_of_ble_eq_true rfl⟩) (vz_pvR (va_recv hK hP (ci := 6) (q0 := 0) rfl rfl) hZ hP) rfl rfl hl.1 rfl (lv_room (Nat.le_of_ble_eq_true rfl)) dX6_drawn_56 ⟨Nat.zero_le _, Nat.zero_le _⟩) (fun r_56 hr_56 => ?_)
          subst hr_56
          refine lv_i2l (v := (sa_sh wt sk (nI j) p1 (sa_wt wt sk p1 nm) : Int32).toInt64) hx hb dX6_drawn_59 rfl ?_
          refine lv_lsub hx hb dX6_drawn_60 ?_
          refine lv_lstore (lv' := [(6, .long (y - ((sa_sh wt sk (nI j) p1 (sa_wt wt sk p1 nm) : Int32).toInt64))), (8, .int (nI j)), (5, .int (sa_all p1 (sa_wt wt sk p1 nm))), (4, .int (sa_wt wt sk p1 nm)), (0, .ref (h 0)), (1, .long p0), (3, .int p1)]) hx hb dX6_drawn_61 hl (by decide) rfl (fun ls hl => ?_)
          refine lv_lload hx hb dX6_drawn_63 (lv_at hl 0 rfl) ?_
          refine lv_lconst (v := 0) hx hb dX6_drawn_65 (by decide) ?_
          refine W.lcmp hx hb dX6_drawn_66 ?_
          refine lv_if_ge (tgt := 73) hx hb dX6_drawn_67 (by decide) (fun c_67 => ?_) (fun c_67 => ?_)
          · skip
            replace c_67 := (lg_cmp_ge _ _).mp c_67
            refine lv_iinc (v := nI (j + 1)) (lv' := [(8, .int (nI (j + 1))), (6, .long (y - ((sa_sh wt sk (nI j) p1 (sa_wt wt sk p1 nm) : Int32).toInt64))), (5, .int (sa_all p1 (sa_wt wt sk p1 nm))), (4, .int (sa_wt wt sk p1 nm)), (0, .ref (h 0)), (1, .long p0), (3, .int p1)]) hx hb dX6_drawn_73 hl (k := 1) rfl (vz_inc _) (by decide) rfl (fun ls hl => ?_)
            refine lv_goto (tgt := 36) hx hb dX6_drawn_76 (by decide) ?_
            exact ih_36 (j + 1) (y - ((sa_sh wt sk (nI j) p1 (sa_wt wt sk p1 nm) : Int32).toInt64)) (by omega) (by omega) (by rw [hres, show nm - j = (nm - (j + 1)) + 1 by omega] ; simp only [dr_lp, c_17, c_45, c_67, ↓reduceIte]) ls (lv_sub hl [0, 1, 2, 3, 4, 5, 6] rfl)
          · skip
            replace c_67 := mt (lg_cmp_ge _ _).mpr c_67
            refine lv_iload hx hb dX6_drawn_70 (lv_at hl 1 rfl) ?_
            exact W.iret hx hb hr (fun t ht hW => ⟨_, rfl, (by rw [hres, show nm - j = (nm - (j + 1)) + 1 by omega] ; simp only [dr_lp, c_67, ↓reduceIte]), ht⟩) (fun q h => absurd h List.not_mem_nil) dX6_drawn_72
    exact L_36 _ 0 ((p0 / 65536) - (p0 / 65536) / ((sa_all p1 (sa_wt wt sk p1 nm) : Int32).toInt64) * ((sa_all p1 (sa_wt wt sk p1 nm) : Int32).toInt64)) (Nat.lt_succ_self _) (Nat.zero_le _) (by simp only [dr, dr_am, c_17, ↓reduceIte] ; rfl) ls (lv_sub hl [0, 1, 2, 3, 4, 5, 6] rfl)
  · skip
    refine lv_iconst (v := 0) hx hb dX6_drawn_20 (by decide) ?_
    exact W.iret hx hb hr (fun t ht hW => ⟨_, rfl, (by first | rfl | (simp only [dr, dr_am, if_neg c_17]; done) | (simp only [dr, dr_am, if_neg c_17]; rfl) | (simp only [dr, dr_am, c_17, ↓reduceIte, Bool.false_eq_true, if_true, if_false, reduceCtorEq, not_true_eq_false, not_false_eq_true, eq_self]; done) | (simp only [dr, dr_am, c_17, ↓reduceIte, Bool.false_eq_true, if_true, if_false, reduceCtorEq, not_true_eq_false, not_false_eq_true, eq_self]; rfl) | (simp [dr, dr_am, c_17]; done)), ht⟩) (fun q h => absurd h List.not_mem_nil) dX6_drawn_21
set_option maxHeartbeats 4000000 in
set_option maxRecDepth 100000 in
theorem c_X6_eveningFact (l : Launch) (D : va_G) (cI : ClassId) (h : Nat → Nat) (len : Nat) (cd : Nat → Int32) (nm : Nat) (ks : Nat → Int32) (gs : Nat → Int32) (wt : Nat → Int32) (mi : Nat → Int32) (pl : Nat → Int32) (sk : Nat → Int32) (he : Nat → Int32) (nh : Nat) (ru : Int32) (bg : Int32) (la : Int32) (sd : Bool) (pl2 : Nat → Int32) (sk2 : Nat → Int32) (he2 : Nat → Int32) (nh2 : Nat) (ru2 : Int32) (bg2 : Int32) (la2 : Int32) (sd2 : Bool) (u0 : Int64) (l0 : Int64) (u1 : Int64) (l1 : Int64) (u2 : Int64) (l2 : Int64) (wy : Nat → Int32) (fi : Nat → Int32) (fl : Int32) (nu : Int32) (ik : Bool) (pr : Nat) (N : Nat) (p1 : Int32) (p2 : Int32) (hnm : nm ≤ 6) (hN : N ≤ 60) : Met l yX6_eveningFact wsX6_eveningFact ({ frames := 4, cells := 0, slots := 0, locals := 112 } : Room) (vz_ro D cI (zSA cI h len cd nm ks gs wt mi pl sk he nh ru bg la sd pl2 sk2 he2 nh2 ru2 bg2 la2 sd2 u0 l0 u1 l1 u2 l2 wy fi fl nu ik pr) [.ref (h 0), .int (nI N), .int p1, .int p2]) (vp_Si (fun r => r = ev_fact (ev nm ks gs wt sk mi ru bg la p1 N) p2)) 0 0 (fun _ => False) := by
  refine Met.ofW (cc := cX6_eveningFact) (maxL := 12) (ret := (some .int)) (by decide) rfl ?_
  intro p e s m args below meth c s₁ B hml hv
  obtain ⟨rfl, hP, hZ⟩ := hv
  obtain ⟨hK, hN⟩ := id hZ
  have hx := B.exec
  have hb := B.bytes
  have hr := B.returns
  have hts := atoms_spec (ws := wsX6_eveningFact) B.pre
  have hown : s.vm.findClass RX6 = some m.cls := findClass_of_methodNamed B.named
  have hlocks := B.notSynchronized
  have k19 := hts (.fieldLink RX6 19 "SongsAgain" "book" "LSongsAgain$Book;") (List.mem_of_getElem? (i := 2) rfl)
  have k26 := hts (.fieldLink RX6 26 "SongsAgain" "now" "LSongsAgain$Past;") (List.mem_of_getElem? (i := 1) rfl)
  have k111 : (Cond.fieldLinkNest "SongsAgain" 111 "SongsAgain$Past" "rule" "I" "SongsAgain").before _ s = true := va_Nw.use (A := ([.ref (h 0), .int (nI N), .int p1, .int p2] : List Value).toArray) rfl (hN.1 ("SongsAgain", 111, "SongsAgain$Past", "rule", "I") (List.mem_of_getElem? (i := 13) rfl))
  have k120 : (Cond.fieldLinkNest "SongsAgain" 120 "SongsAgain$Past" "bag" "I" "SongsAgain").before _ s = true := va_Nw.use (A := ([.ref (h 0), .int (nI N), .int p1, .int p2] : List Value).toArray) rfl (hN.1 ("SongsAgain", 120, "SongsAgain$Past", "bag", "I") (List.mem_of_getElem? (i := 14) rfl))
  have k126 : (Cond.fieldLinkNest "SongsAgain" 126 "SongsAgain$Past" "last" "I" "SongsAgain").before _ s = true := va_Nw.use (A := ([.ref (h 0), .int (nI N), .int p1, .int p2] : List Value).toArray) rfl (hN.1 ("SongsAgain", 126, "SongsAgain$Past", "last", "I") (List.mem_of_getElem? (i := 15) rfl))
  have k231 : (Cond.fieldLinkNest "SongsAgain" 231 "SongsAgain$Book" "minutes" "LSongsAgain$Row;" "SongsAgain").before _ s = true := va_Nw.use (A := ([.ref (h 0), .int (nI N), .int p1, .int p2] : List Value).toArray) rfl (hN.1 ("SongsAgain", 231, "SongsAgain$Book", "minutes", "LSongsAgain$Row;") (List.mem_of_getElem? (i := 6) rfl))
  have iX0 : ∀ w ∈ u_ws RX0 TX0 5, w ∈ wsX6_eveningFact := vz_in (i := 89) (n := 5) rfl
  have iX4 : ∀ w ∈ u_ws RX4 TX4 8, w ∈ wsX6_eveningFact := vz_in (i := 81) (n := 8) rfl
  have iX6 : ∀ w ∈ u_ws RX6 TX6 10, w ∈ wsX6_eveningFact := vz_in (i := 71) (n := 10) rfl
  have hl := lv_entry ([.ref (h 0), .int (nI N), .int p1, .int p2]) (n := 12) (Nat.le_of_ble_eq_true rfl)
  rw [lg_entry_eq]
  generalize (lg_sl ([.ref (h 0), .int (nI N), .int p1, .int p2]) ++ List.replicate (12 - (lg_sl ([.ref (h 0), .int (nI N), .int p1, .int p2])).length) Slot.unset).toArray = ls at hl ⊢
  have hl : lv_has ls 12 [(0, .ref (h 0)), (1, .int (nI N)), (2, .int p1), (3, .int p2)] := hl
  refine lv_iload_n hx hb dX6_eveningFact_0 rfl (lv_at hl 2 rfl) ?_
  refine lv_i2l (v := (p1 : Int32).toInt64) hx hb dX6_eveningFact_1 rfl ?_
  refine lv_lstore (lv' := [(4, .long ((p1 : Int32).toInt64)), (0, .ref (h 0)), (1, .int (nI N)), (2, .int p1), (3, .int p2)]) hx hb dX6_eveningFact_2 hl (by decide) rfl (fun ls hl => ?_)
  refine lv_aload_n hx hb dX6_eveningFact_4 rfl (lv_at hl 1 rfl) ?_
  refine va_get (D := D) (ci := 6) (v := .ref (h 13)) (C := RX6) (T := TX6) (N := 10) hx hb hts iX6 hown hK hP 0 rfl rfl 2 (by decide) k26 (fun _ h9 => h9) rfl dX6_eveningFact_5 ?_
  refine va_getN (D := D) (ci := 4) (v := .int bg) (C := RX4) (T := TX4) (N := 8) hx hb hts iX4 hown hK hP 13 rfl rfl 5 (by decide) k120 (fun _ h9 => h9) rfl dX6_eveningFact_8 ?_
  refine lv_istore (lv' := [(6, .int bg), (4, .long ((p1 : Int32).toInt64)), (0, .ref (h 0)), (1, .int (nI N)), (2, .int p1), (3, .int p2)]) hx hb dX6_eveningFact_11 hl (by decide) rfl (fun ls hl => ?_)
  refine lv_aload_n hx hb dX6_eveningFact_13 rfl (lv_at hl 2 rfl) ?_
  refine va_get (D := D) (ci := 6) (v := .ref (h 13)) (C := RX6) (T := TX6) (N := 10) hx hb hts iX6 hown hK hP 0 rfl rfl 2 (by decide) k26 (fun _ h9 => h9) rfl dX6_eveningFact_14 ?_
  refine va_getN (D := D) (ci := 4) (v := .int la) (C := RX4) (T := TX4) (N := 8) hx hb hts iX4 hown hK hP 13 rfl rfl 6 (by decide) k126 (fun _ h9 => h9) rfl dX6_eveningFact_17 ?_
  refine lv_istore (lv' := [(7, .int la), (6, .int bg), (4, .long ((p1 : Int32).toInt64)), (0, .ref (h 0)), (1, .int (nI N)), (2, .int p1), (3, .int p2)]) hx hb dX6_eveningFact_20 hl (by decide) rfl (fun ls hl => ?_)
  refine lv_iconst (v := 0) hx hb dX6_eveningFact_22 (by decide) ?_
  refine lv_istore (lv' := [(8, .int 0), (7, .int la), (6, .int bg), (4, .long ((p1 : Int32).toInt64)), (0, .ref (h 0)), (1, .int (nI N)), (2, .int p1), (3, .int p2)]) hx hb dX6_eveningFact_23 hl (by decide) rfl (fun ls hl => ?_)
  refine lv_iconst (v := 0) hx hb dX6_eveningFact_25 (by decide) ?_
  refine lv_istore (lv' := [(9, .int 0), (8, .int 0), (7, .int la), (6, .int bg), (4, .long ((p1 : Int32).toInt64)), (0, .ref (h 0)), (1, .int (nI N)), (2, .int p1), (3, .int p2)]) hx hb dX6_eveningFact_26 hl (by decide) rfl (fun ls hl => ?_)
  refine lv_iconst (v := 0) hx hb dX6_eveningFact_28 (by decide) ?_
  refine lv_istore (lv' := [(10, .int 0), (9, .int 0), (8, .int 0), (7, .int la), (6, .int bg), (4, .long ((p1 : Int32).toInt64)), (0, .ref (h 0)), (1, .int (nI N)), (2, .int p1), (3, .int p2)]) hx hb dX6_eveningFact_29 hl (by decide) rfl (fun ls hl => ?_)
  have L_31 : ∀ (d_31 : Nat) (j : Nat) (x4 : Int64) (x6 : Int32) (x7 : Int32) (x8 : Int32) (x9 : Int32), N - j < d_31 → (j ≤ N) → (ev nm ks gs wt sk mi ru bg la p1 j = (x4, x6, x7, x8, x9)) → ∀ (ls : Array Slot), lv_has ls 12 [(10, .int (nI j)), (9, .int x9), (8, .int x8), (7, .int x7), (6, .int x6), (4, .long x4), (0, .ref (h 0)), (1, .int (nI N)), (2, .int p1), (3, .int p2)] → W p l e ({ frames := 4, cells := 0, slots := 0, locals := 112 } : Room) s m ([.ref (h 0), .int (nI N), .int p1, .int p2] : List Value).toArray below meth c s.heap [] 0 0 (MQ below (vp_Si (fun r => r = ev_fact (ev nm ks gs wt sk mi ru bg la p1 N) p2)) ([.ref (h 0), .int (nI N), .int p1, .int p2] : List Value).toArray s 0 0 (fun _ => False)) (F0 m 31 ls []) := by
    intro d_31
    induction d_31 with
    | zero => intro j x4 x6 x7 x8 x9 hd; exact absurd hd (Nat.not_lt_zero _)
    | succ d_31 ih_31 =>
      intro j x4 x6 x7 x8 x9 hd_31 hj hev ls hl
      refine lv_iload hx hb dX6_eveningFact_31 (lv_at hl 0 rfl) ?_
      refine lv_iload_n hx hb dX6_eveningFact_33 rfl (lv_at hl 7 rfl) ?_
      refine lv_icmp_ge (tgt := 119) hx hb dX6_eveningFact_34 (by decide) (fun c_34 => ?_) (fun c_34 => ?_)
      · skip
        have hje : j = N := Nat.le_antisymm hj (vz_ge c_34 (by omega) (by omega))
        refine lv_iload_n hx hb dX6_eveningFact_119 rfl (lv_at hl 9 rfl) ?_
        refine lv_if_ne (tgt := 129) hx hb dX6_eveningFact_120 (by decide) (fun c_120 => ?_) (fun c_120 => ?_)
        · skip
          refine lv_iload_n hx hb dX6_eveningFact_129 rfl (lv_at hl 9 rfl) ?_
          refine lv_iconst (v := 1) hx hb dX6_eveningFact_130 (by decide) ?_
          refine lv_icmp_ne (tgt := 139) hx hb dX6_eveningFact_131 (by decide) (fun c_131 => ?_) (fun c_131 => ?_)
          · skip
            refine lv_lload hx hb dX6_eveningFact_139 (lv_at hl 5 rfl) ?_
            refine lv_l2i (v := (x4 : Int64).toInt32) hx hb dX6_eveningFact_141 rfl ?_
            exact W.iret hx hb hr (fun t ht hW => ⟨_, rfl, (by rw [← hje, hev] ; simp only [ev_fact, c_34, c_120, c_131, ↓reduceIte] <;> rfl), ht⟩) (fun q h => absurd h List.not_mem_nil) dX6_eveningFact_142
          · skip
            refine lv_iload hx hb dX6_eveningFact_134 (lv_at hl 1 rfl) ?_
            refine lv_goto (tgt := 142) hx hb dX6_eveningFact_136 (by decide) ?_
            exact W.iret hx hb hr (fun t ht hW => ⟨_, rfl, (by rw [← hje, hev] ; simp only [ev_fact, c_34, c_120, c_131, ↓reduceIte] <;> rfl), ht⟩) (fun q h => absurd h List.not_mem_nil) dX6_eveningFact_142
        · skip
          refine lv_iload hx hb dX6_eveningFact_123 (lv_at hl 2 rfl) ?_
          refine vp_callSi (W.runS (As := [.int x8]) (rest := []) ⟨hx, hb, hml, hown, hts⟩ (c_J6_bitCount_0f7a4 l x8) (va_cwS 1 hts gX6_eveningFact_J6_bitCount_0f7a4 rfl rfl rfl (by decide +kernel) ⟨Nat.le_of_ble_eq_true rfl, Nat.le_of_ble_eq_true rfl⟩) (vz_psS) rfl rfl hl.1 rfl (lv_room (Nat.le_of_ble_eq_true rfl)) dX6_eveningFact_125 ⟨Nat.zero_le _, Nat.zero_le _⟩) (fun r_125 hr_125 => ?_)
          subst hr_125
          exact W.iret hx hb hr (fun t ht hW => ⟨_, rfl, (by rw [← hje, hev] ; simp only [ev_fact, c_120, ↓reduceIte]), ht⟩) (fun q h => absurd h List.not_mem_nil) dX6_eveningFact_128
      · skip
        have hlt : j < N := vz_lt c_34 (by omega)
        refine lv_lload hx hb dX6_eveningFact_37 (lv_at hl 5 rfl) ?_
        refine vp_callSl (W.runS (As := [.long x4]) (rest := []) ⟨hx, hb, hml, hown, hts⟩ (c_X6_seedAfter l x4) (va_cwS 1 hts gX6_eveningFact_X6_seedAfter rfl rfl rfl (by decide +kernel) ⟨Nat.le_of_ble_eq_true rfl, Nat.le_of_ble_eq_true rfl⟩) (vz_psS) rfl rfl hl.1 rfl (lv_room (Nat.le_of_ble_eq_true rfl)) dX6_eveningFact_39 ⟨Nat.zero_le _, Nat.zero_le _⟩) (fun r_39 hr_39 => ?_)
        subst hr_39
        refine lv_lstore (lv' := [(4, .long (sa_seed x4)), (10, .int (nI j)), (9, .int x9), (8, .int x8), (7, .int x7), (6, .int x6), (0, .ref (h 0)), (1, .int (nI N)), (2, .int p1), (3, .int p2)]) hx hb dX6_eveningFact_42 hl (by decide) rfl (fun ls hl => ?_)
        refine lv_aload_n hx hb dX6_eveningFact_44 rfl (lv_at hl 6 rfl) ?_
        refine lv_lload hx hb dX6_eveningFact_45 (lv_at hl 0 rfl) ?_
        refine lv_aload_n hx hb dX6_eveningFact_47 rfl (lv_at hl 6 rfl) ?_
        refine va_get (D := D) (ci := 6) (v := .ref (h 4)) (C := RX6) (T := TX6) (N := 10) hx hb hts iX6 hown hK hP 0 rfl rfl 1 (by decide) k19 (fun _ h9 => h9) rfl dX6_eveningFact_48 ?_
        refine lv_aload_n hx hb dX6_eveningFact_51 rfl (lv_at hl 6 rfl) ?_
        refine va_get (D := D) (ci := 6) (v := .ref (h 13)) (C := RX6) (T := TX6) (N := 10) hx hb hts iX6 hown hK hP 0 rfl rfl 2 (by decide) k26 (fun _ h9 => h9) rfl dX6_eveningFact_52 ?_
        refine va_getN (D := D) (ci := 4) (v := .int ru) (C := RX4) (T := TX4) (N := 8) hx hb hts iX4 hown hK hP 13 rfl rfl 4 (by decide) k111 (fun _ h9 => h9) rfl dX6_eveningFact_55 ?_
        refine lv_iload hx hb dX6_eveningFact_58 (lv_at hl 5 rfl) ?_
        refine lv_iload hx hb dX6_eveningFact_60 (lv_at hl 4 rfl) ?_
        refine vp_callSi (W.runV (As := [.int ru, .int x6, .int x7]) (rest := [.long (sa_seed x4), .ref (h 0)]) ⟨hx, hb, hml, hown, hts⟩ (c_X0_mayCome l D cI (fun i => h (4 + i)) nm ks gs wt mi ru x6 x7 (by first | assumption | omega)) (cwV 3 hts gX6_eveningFact_X0_mayCome rfl rfl rfl (by decide +kernel) ⟨Nat.le_of_ble_eq_true rfl, Nat.le_of_ble_eq_true rfl⟩) (vz_pvR (va_recv hK hP (ci := 0) (q0 := 4) rfl rfl) hZ (hP.sub (ws' := (zBook cI (fun i => h (4 + i)) nm ks gs wt mi)) [4, 5, 6, 7, 8, 9, 10, 11, 12] rfl)) rfl rfl hl.1 rfl (lv_room (Nat.le_of_ble_eq_true rfl)) dX6_eveningFact_62 ⟨Nat.zero_le _, Nat.zero_le _⟩) (fun r_62 hr_62 => ?_)
        subst hr_62
        refine vp_callSi (W.runV (As := [.long (sa_seed x4), .int (bk_may nm ks gs ru x6 x7)]) (rest := []) ⟨hx, hb, hml, hown, hts⟩ (c_X6_drawn l D cI h len cd nm ks gs wt mi pl sk he nh ru bg la sd pl2 sk2 he2 nh2 ru2 bg2 la2 sd2 u0 l0 u1 l1 u2 l2 wy fi fl nu ik pr (sa_seed x4) (bk_may nm ks gs ru x6 x7) (by first | assumption | omega)) (cwV 2 hts gX6_eveningFact_X6_drawn rfl rfl rfl (by decide +kernel) ⟨Nat.le_of_ble_eq_true rfl, Nat.le_of_ble_eq_true rfl⟩) (vz_pvR (va_recv hK hP (ci := 6) (q0 := 0) rfl rfl) hZ hP) rfl rfl hl.1 rfl (lv_room (Nat.le_of_ble_eq_true rfl)) dX6_eveningFact_65 ⟨Nat.zero_le _, Nat.zero_le _⟩) (fun r_65 hr_65 => ?_)
        subst hr_65
        refine lv_istore (lv' := [(11, .int (dr nm wt sk (sa_seed x4) (bk_may nm ks gs ru x6 x7))), (4, .long (sa_seed x4)), (10, .int (nI j)), (9, .int x9), (8, .int x8), (7, .int x7), (6, .int x6), (0, .ref (h 0)), (1, .int (nI N)), (2, .int p1), (3, .int p2)]) hx hb dX6_eveningFact_68 hl (by decide) rfl (fun ls hl => ?_)
        refine lv_aload_n hx hb dX6_eveningFact_70 rfl (lv_at hl 7 rfl) ?_
        refine va_get (D := D) (ci := 6) (v := .ref (h 4)) (C := RX6) (T := TX6) (N := 10) hx hb hts iX6 hown hK hP 0 rfl rfl 1 (by decide) k19 (fun _ h9 => h9) rfl dX6_eveningFact_71 ?_
        refine lv_iload hx hb dX6_eveningFact_74 (lv_at hl 6 rfl) ?_
        refine lv_iload hx hb dX6_eveningFact_76 (lv_at hl 0 rfl) ?_
        refine vp_callSi (W.runV (As := [.int x6, .int (dr nm wt sk (sa_seed x4) (bk_may nm ks gs ru x6 x7))]) (rest := []) ⟨hx, hb, hml, hown, hts⟩ (c_X0_bagAfter l D cI (fun i => h (4 + i)) nm ks gs wt mi x6 (dr nm wt sk (sa_seed x4) (bk_may nm ks gs ru x6 x7))) (cwV 2 hts gX6_eveningFact_X0_bagAfter rfl rfl rfl (by decide +kernel) ⟨Nat.le_of_ble_eq_true rfl, Nat.le_of_ble_eq_true rfl⟩) (vz_pvR (va_recv hK hP (ci := 0) (q0 := 4) rfl rfl) hZ (hP.sub (ws' := (zBook cI (fun i => h (4 + i)) nm ks gs wt mi)) [4, 5, 6, 7, 8, 9, 10, 11, 12] rfl)) rfl rfl hl.1 rfl (lv_room (Nat.le_of_ble_eq_true rfl)) dX6_eveningFact_78 ⟨Nat.zero_le _, Nat.zero_le _⟩) (fun r_78 hr_78 => ?_)
        subst hr_78
        refine lv_istore (lv' := [(6, .int (bk_bag nm x6 (dr nm wt sk (sa_seed x4) (bk_may nm ks gs ru x6 x7)))), (11, .int (dr nm wt sk (sa_seed x4) (bk_may nm ks gs ru x6 x7))), (4, .long (sa_seed x4)), (10, .int (nI j)), (9, .int x9), (8, .int x8), (7, .int x7), (0, .ref (h 0)), (1, .int (nI N)), (2, .int p1), (3, .int p2)]) hx hb dX6_eveningFact_81 hl (by decide) rfl (fun ls hl => ?_)
        refine lv_iload hx hb dX6_eveningFact_83 (lv_at hl 1 rfl) ?_
        refine lv_istore (lv' := [(7, .int (dr nm wt sk (sa_seed x4) (bk_may nm ks gs ru x6 x7))), (6, .int (bk_bag nm x6 (dr nm wt sk (sa_seed x4) (bk_may nm ks gs ru x6 x7)))), (11, .int (dr nm wt sk (sa_seed x4) (bk_may nm ks gs ru x6 x7))), (4, .long (sa_seed x4)), (10, .int (nI j)), (9, .int x9), (8, .int x8), (0, .ref (h 0)), (1, .int (nI N)), (2, .int p1), (3, .int p2)]) hx hb dX6_eveningFact_85 hl (by decide) rfl (fun ls hl => ?_)
        refine lv_iload hx hb dX6_eveningFact_87 (lv_at hl 6 rfl) ?_
        refine lv_iconst (v := 1) hx hb dX6_eveningFact_89 (by decide) ?_
        refine lv_iload hx hb dX6_eveningFact_90 (lv_at hl 2 rfl) ?_
        refine lv_ishl hx hb dX6_eveningFact_92 ?_
        refine lv_ior hx hb dX6_eveningFact_93 ?_
        refine lv_istore (lv' := [(8, .int (x8 ||| (1 <<< ((dr nm wt sk (sa_seed x4) (bk_may nm ks gs ru x6 x7)) &&& 31)))), (7, .int (dr nm wt sk (sa_seed x4) (bk_may nm ks gs ru x6 x7))), (6, .int (bk_bag nm x6 (dr nm wt sk (sa_seed x4) (bk_may nm ks gs ru x6 x7)))), (11, .int (dr nm wt sk (sa_seed x4) (bk_may nm ks gs ru x6 x7))), (4, .long (sa_seed x4)), (10, .int (nI j)), (9, .int x9), (0, .ref (h 0)), (1, .int (nI N)), (2, .int p1), (3, .int p2)]) hx hb dX6_eveningFact_94 hl (by decide) rfl (fun ls hl => ?_)
        refine lv_iload hx hb dX6_eveningFact_96 (lv_at hl 6 rfl) ?_
        refine lv_aload_n hx hb dX6_eveningFact_98 rfl (lv_at hl 7 rfl) ?_
        refine va_get (D := D) (ci := 6) (v := .ref (h 4)) (C := RX6) (T := TX6) (N := 10) hx hb hts iX6 hown hK hP 0 rfl rfl 1 (by decide) k19 (fun _ h9 => h9) rfl dX6_eveningFact_99 ?_
        refine va_getN (D := D) (ci := 0) (v := .ref (h 11)) (C := RX0) (T := TX0) (N := 5) hx hb hts iX0 hown hK hP 4 rfl rfl 3 (by decide) k231 (fun _ h9 => h9) rfl dX6_eveningFact_102 ?_
        refine lv_iload hx hb dX6_eveningFact_105 (lv_at hl 3 rfl) ?_
        refine vp_callSi (W.runV (As := [.int (dr nm wt sk (sa_seed x4) (bk_may nm ks gs ru x6 x7))]) (rest := [.int x9]) ⟨hx, hb, hml, hown, hts⟩ (c_X5_at l D cI (h 11) (h 12) 6 mi (dr nm wt sk (sa_seed x4) (bk_may nm ks gs ru x6 x7)) (by decide)) (cwV 1 hts gX6_eveningFact_X5_at rfl rfl rfl (by decide +kernel) ⟨Nat.le_of_ble_eq_true rfl, Nat.le_of_ble_eq_true rfl⟩) (vz_pvR (va_recv hK hP (ci := 5) (q0 := 11) rfl rfl) hZ (hP.sub (ws' := (zRow cI (h 11) (h 12) 6 mi)) [11, 12] rfl)) rfl rfl hl.1 rfl (lv_room (Nat.le_of_ble_eq_true rfl)) dX6_eveningFact_107 ⟨Nat.zero_le _, Nat.zero_le _⟩) (fun r_107 hr_107 => ?_)
        subst hr_107
        refine lv_iadd hx hb dX6_eveningFact_110 ?_
        refine lv_istore (lv' := [(9, .int (x9 + (rw_at 6 mi (dr nm wt sk (sa_seed x4) (bk_may nm ks gs ru x6 x7))))), (8, .int (x8 ||| (1 <<< ((dr nm wt sk (sa_seed x4) (bk_may nm ks gs ru x6 x7)) &&& 31)))), (7, .int (dr nm wt sk (sa_seed x4) (bk_may nm ks gs ru x6 x7))), (6, .int (bk_bag nm x6 (dr nm wt sk (sa_seed x4) (bk_may nm ks gs ru x6 x7)))), (11, .int (dr nm wt sk (sa_seed x4) (bk_may nm ks gs ru x6 x7))), (4, .long (sa_seed x4)), (10, .int (nI j)), (0, .ref (h 0)), (1, .int (nI N)), (2, .int p1), (3, .int p2)]) hx hb dX6_eveningFact_111 hl (by decide) rfl (fun ls hl => ?_)
        refine lv_iinc (v := nI (j + 1)) (lv' := [(10, .int (nI (j + 1))), (9, .int (x9 + (rw_at 6 mi (dr nm wt sk (sa_seed x4) (bk_may nm ks gs ru x6 x7))))), (8, .int (x8 ||| (1 <<< ((dr nm wt sk (sa_seed x4) (bk_may nm ks gs ru x6 x7)) &&& 31)))), (7, .int (dr nm wt sk (sa_seed x4) (bk_may nm ks gs ru x6 x7))), (6, .int (bk_bag nm x6 (dr nm wt sk (sa_seed x4) (bk_may nm ks gs ru x6 x7)))), (11, .int (dr nm wt sk (sa_seed x4) (bk_may nm ks gs ru x6 x7))), (4, .long (sa_seed x4)), (0, .ref (h 0)), (1, .int (nI N)), (2, .int p1), (3, .int p2)]) hx hb dX6_eveningFact_113 hl (k := 6) rfl (vz_inc _) (by decide) rfl (fun ls hl => ?_)
        refine lv_goto (tgt := 31) hx hb dX6_eveningFact_116 (by decide) ?_
        exact ih_31 (j + 1) (sa_seed x4) (bk_bag nm x6 (dr nm wt sk (sa_seed x4) (bk_may nm ks gs ru x6 x7))) (dr nm wt sk (sa_seed x4) (bk_may nm ks gs ru x6 x7)) (x8 ||| (1 <<< ((dr nm wt sk (sa_seed x4) (bk_may nm ks gs ru x6 x7)) &&& 31))) (x9 + (rw_at 6 mi (dr nm wt sk (sa_seed x4) (bk_may nm ks gs ru x6 x7)))) (by omega) (by omega) (by simp only [ev, hev]) ls (lv_sub hl [0, 1, 2, 3, 4, 6, 7, 8, 9, 10] rfl)
  exact L_31 _ 0 ((p1 : Int32).toInt64) bg la 0 0 (Nat.lt_succ_self _) (Nat.zero_le _) rfl ls (lv_sub hl [0, 1, 2, 3, 4, 5, 6, 7, 8, 9] rfl)

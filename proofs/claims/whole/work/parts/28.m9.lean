set_option maxHeartbeats 4000000 in
set_option maxRecDepth 100000 in
theorem c_X7_digest (l : Launch) (D : va_G) (cI : ClassId) (g : Nat → Nat) (pm : Nat) (rm : Nat) (rr : Int32) (st : Nat) (sg : Nat) (rn : Int32) (bg : Int32) (la : Int32) (ws : Bool) (pr : Nat) (ry : Nat) (hm : Nat) (xu : Int64) (xl : Int64) (sn : Int32) (kp : Int32) (kr : Int32) (kb : Int32) (kl : Int32) (kw : Bool) (kh : Nat) (hc : Int64) (pg : Nat → Int32) (rd : Nat → Int32) (rw : Nat → Int32) (ro : Nat → Int32) (be : Nat → Int32) (he : Nat → Int32) (kro : Nat → Int32) (khe : Nat → Int32) (sz : Nat) (hsg : sg ≤ 6) (hpm : pm ≤ 22) (hhm : hm ≤ 8) (hhe : ∀ k : Nat, k < hm → ∃ x : Nat, x < sg ∧ he k = nI x) (hbf : la = -1 ∨ ∃ b : Nat, b < sg ∧ la = nI b) (hDD : sa_np sg = false → mSh sg rw (mo_may sg rw rn bg la) ∧ (∀ i : Nat, i < sg → ¬ (mo_shs sg rw (mo_may sg rw rn (bk_bag sg bg (nI i)) (nI i))).toInt64 = 0) ∧ (∀ i j : Nat, i < sg → j < sg → ¬ (mo_shs sg rw (mo_may sg rw rn (bk_bag sg (bk_bag sg bg (nI i)) (nI j)) (nI j))).toInt64 = 0) ∧ mTw (to_low sg rw (mo_may sg rw rn bg la) 2) (to_up sg rw rn bg (mo_may sg rw rn bg la) 2 sg)) : Met l yX7_digest wsX7_digest ({ frames := 8, cells := 0, slots := 0, locals := 194 } : Room) (vz_rw D cI (zM cI g pm rm rr st sg rn bg la ws pr ry hm xu xl sn kp kr kb kl kw kh hc pg rd rw ro be he kro khe) sz [.ref (g 0)]) (va_Ql (fun r (_ : (Nat → Int32) × (Nat → Int32) × Nat × Int64 × Int64 × Int64) => r = mdg sg rw he pg rn bg la hm pm pr) (fun (u : (Nat → Int32) × (Nat → Int32) × Nat × Int64 × Int64 × Int64) (t : State) => va_P D vwCl (zM cI g pm rm rr st sg rn bg la ws pr u.2.2.1 hm u.2.2.2.1 u.2.2.2.2.1 sn kp kr kb kl kw kh u.2.2.2.2.2 pg rd rw u.1 u.2.1 he kro khe) t.heap) (va_A (zM cI g pm rm rr st sg rn bg la ws pr ry hm xu xl sn kp kr kb kl kw kh hc pg rd rw ro be he kro khe) sz)) 0 0 (va_A (zM cI g pm rm rr st sg rn bg la ws pr ry hm xu xl sn kp kr kb kl kw kh hc pg rd rw ro be he kro khe) sz) := by
  refine Met.ofW (cc := cX7_digest) (maxL := 3) (ret := (some .long)) (by decide) rfl ?_
  intro p e s m args below meth c s₁ B hml hv
  obtain ⟨rfl, hsz, hP, hZ, hD0⟩ := hv
  obtain ⟨hK, hN⟩ := id hZ
  have hx := B.exec
  have hb := B.bytes
  have hr := B.returns
  have hts := atoms_spec (ws := wsX7_digest) B.pre
  have hown : s.vm.findClass RX7 = some m.cls := findClass_of_methodNamed B.named
  have hlocks := B.notSynchronized
  subst hsz
  have hD := hD0.self (sz := s.heap.size)
  generalize hAe : va_A (zM cI g pm rm rr st sg rn bg la ws pr ry hm xu xl sn kp kr kb kl kw kh hc pg rd rw ro be he kro khe) s.heap.size = A at hD ⊢
  have hA : ∀ q : Nat, s.heap.size ≤ q → A q := fun q h => by rw [← hAe]; exact Or.inr h
  have hS : va_S A s.heap s.heap [] := va_S.rf
  have k7 := hts (.fieldLink RX7 7 "SongsAgainModel" "page" "[I") (List.mem_of_getElem? (i := 5) rfl)
  have k47 := hts (.fieldLink RX7 47 "SongsAgainModel" "pageMany" "I") (List.mem_of_getElem? (i := 4) rfl)
  have k73 := hts (.fieldLink RX7 73 "SongsAgainModel" "songs" "I") (List.mem_of_getElem? (i := 3) rfl)
  have k247 := hts (.fieldLink RX7 247 "SongsAgainModel" "hash" "J") (List.mem_of_getElem? (i := 2) rfl)
  have iX7 : ∀ w ∈ u_ws RX7 TX7 30, w ∈ wsX7_digest := vz_in (i := 138) (n := 30) rfl
  have hl := lv_entry ([.ref (g 0)]) (n := 3) (Nat.le_of_ble_eq_true rfl)
  rw [lg_entry_eq]
  generalize (lg_sl ([.ref (g 0)]) ++ List.replicate (3 - (lg_sl ([.ref (g 0)])).length) Slot.unset).toArray = ls at hl ⊢
  have hl : lv_has ls 3 [(0, .ref (g 0))] := hl
  have hP : va_P D vwCl (zM cI g pm rm rr st sg rn bg la ws pr ry hm xu xl sn kp kr kb kl kw kh hc pg rd rw ro be he kro khe) s.heap := hP
  refine lv_aload_n hx hb dX7_digest_0 rfl (lv_at hl 0 rfl) ?_
  refine lv_ldc2 (v := 997) hx hb hown (hts (.constantLong RX7 254 (997)) (List.mem_of_getElem? (i := 1) rfl)) dX7_digest_1 ?_
  refine va_put (D := D) (ci := 7) (v := .long 997) (ty := .long) (C := RX7) (T := TX7) (N := 30) hx hb hts iX7 tyX7 tyX7_ok nmX7 hown hK hP hD hS 0 rfl rfl 29 (by decide) k247 (fun _ h9 => h9) rfl (by decide +kernel) rfl rfl (Nat.le_of_ble_eq_true rfl) dX7_digest_4 (fun H_4 locs_4 hP9 hD9 hS9 => ?_)
  replace hP : va_P D vwCl (zM cI g pm rm rr st sg rn bg la ws pr ry hm xu xl sn kp kr kb kl kw kh 997 pg rd rw ro be he kro khe) H_4 := hP9
  replace hD : va_D A (zM cI g pm rm rr st sg rn bg la ws pr ry hm xu xl sn kp kr kb kl kw kh 997 pg rd rw ro be he kro khe) := hD9
  replace hS := hS9
  clear hP9 hD9 hS9
  refine lv_iconst (v := 0) hx hb dX7_digest_7 (by decide) ?_
  refine lv_istore_n (lv' := [(1, .int 0), (0, .ref (g 0))]) hx hb dX7_digest_8 rfl hl (by decide) rfl (fun ls hl => ?_)
  have L_9 : ∀ (d_9 : Nat) (j_14 : Nat) (H_9 : Heap) (locs_9 : List Loc), sg - j_14 < d_9 → (j_14 ≤ sg) → va_P D vwCl (zM cI g pm rm rr st sg rn bg la ws pr ry hm xu xl sn kp kr kb kl kw kh (mgo (mtl sg rw rn bg la) j_14 997) pg rd rw ro be he kro khe) H_9 → va_D A (zM cI g pm rm rr st sg rn bg la ws pr ry hm xu xl sn kp kr kb kl kw kh (mgo (mtl sg rw rn bg la) j_14 997) pg rd rw ro be he kro khe) → va_S A s.heap H_9 locs_9 → ∀ (ls : Array Slot), lv_has ls 3 [(1, .int (nI j_14)), (0, .ref (g 0))] → W p l e ({ frames := 8, cells := 0, slots := 0, locals := 194 } : Room) s m ([.ref (g 0)] : List Value).toArray below meth c H_9 locs_9 0 0 (MQ below (va_Ql (fun r (_ : (Nat → Int32) × (Nat → Int32) × Nat × Int64 × Int64 × Int64) => r = mdg sg rw he pg rn bg la hm pm pr) (fun (u : (Nat → Int32) × (Nat → Int32) × Nat × Int64 × Int64 × Int64) (t : State) => va_P D vwCl (zM cI g pm rm rr st sg rn bg la ws pr u.2.2.1 hm u.2.2.2.1 u.2.2.2.2.1 sn kp kr kb kl kw kh u.2.2.2.2.2 pg rd rw u.1 u.2.1 he kro khe) t.heap) A) ([.ref (g 0)] : List Value).toArray s 0 0 A) (F0 m 9 ls []) := by
    intro d_9
    induction d_9 with
    | zero => intro j_14 H_9 locs_9 hd; exact absurd hd (Nat.not_lt_zero _)
    | succ d_9 ih_9 =>
      intro j_14 H_9 locs_9 hd_9 hj_14 hP hD hS ls hl
      refine lv_iload_n hx hb dX7_digest_9 rfl (lv_at hl 0 rfl) ?_
      refine lv_aload_n hx hb dX7_digest_10 rfl (lv_at hl 1 rfl) ?_
      refine va_get (D := D) (ci := 7) (v := .int (nI sg)) (C := RX7) (T := TX7) (N := 30) hx hb hts iX7 hown hK hP 0 rfl rfl 6 (by decide) k73 (fun _ h9 => h9) rfl dX7_digest_11 ?_
      refine lv_icmp_ge (tgt := 48) hx hb dX7_digest_14 (by decide) (fun c_14 => ?_) (fun c_14 => ?_)
      · skip
        have hje_14 : j_14 = sg := Nat.le_antisymm hj_14 (vz_ge (n := sg) c_14 (by omega) (by omega))
        refine lv_aload_n hx hb dX7_digest_48 rfl (lv_at hl 1 rfl) ?_
        refine vp_callSi (W.runV (As := []) (rest := []) ⟨hx, hb, hml, hown, hts⟩ (c_X7_lacks l D cI g pm rm rr st sg rn bg la ws pr ry hm xu xl sn kp kr kb kl kw kh (mgo (mtl sg rw rn bg la) j_14 997) pg rd rw ro be he kro khe (by first | assumption | omega)) (cwV 0 hts gX7_digest_X7_lacks rfl rfl rfl (by decide +kernel) ⟨Nat.le_of_ble_eq_true rfl, Nat.le_of_ble_eq_true rfl⟩) (vz_pvR (va_recv hK hP (ci := 7) (q0 := 0) rfl rfl) hZ hP) rfl rfl hl.1 rfl (lv_room (Nat.le_of_ble_eq_true rfl)) dX7_digest_49 ⟨Nat.zero_le _, Nat.zero_le _⟩) (fun r_49 hr_49 => ?_)
        subst hr_49
        refine lv_if_ne (tgt := 59) hx hb dX7_digest_52 (by decide) (fun c_52 => ?_) (fun c_52 => ?_)
        · skip
          replace c_52 := vz_b1 c_52
          refine lv_iconst (v := 0) hx hb dX7_digest_59 (by decide) ?_
          refine lv_istore_n (lv' := [(1, .int 0), (0, .ref (g 0))]) hx hb dX7_digest_60 rfl hl (by decide) rfl (fun ls hl => ?_)
          have L_61 : ∀ (d_61 : Nat) (j_66 : Nat) (t0 : Nat → Int32) (t1 : Nat → Int32) (t2 : Nat) (t3 : Int64) (t4 : Int64) (H_61 : Heap) (locs_61 : List Loc), pm - j_66 < d_61 → (j_66 ≤ pm) → va_P D vwCl (zM cI g pm rm rr st sg rn bg la ws pr t2 hm t3 t4 sn kp kr kb kl kw kh (mgc pg j_66 (if sa_np sg then mgo (mtl sg rw rn bg la) sg 997 else msp sg rw he rn bg la hm (mgo (mtl sg rw rn bg la) sg 997))) pg rd rw t0 t1 he kro khe) H_61 → va_D A (zM cI g pm rm rr st sg rn bg la ws pr t2 hm t3 t4 sn kp kr kb kl kw kh (mgc pg j_66 (if sa_np sg then mgo (mtl sg rw rn bg la) sg 997 else msp sg rw he rn bg la hm (mgo (mtl sg rw rn bg la) sg 997))) pg rd rw t0 t1 he kro khe) → va_S A s.heap H_61 locs_61 → ∀ (ls : Array Slot), lv_has ls 3 [(1, .int (nI j_66)), (0, .ref (g 0))] → W p l e ({ frames := 8, cells := 0, slots := 0, locals := 194 } : Room) s m ([.ref (g 0)] : List Value).toArray below meth c H_61 locs_61 0 0 (MQ below (va_Ql (fun r (_ : (Nat → Int32) × (Nat → Int32) × Nat × Int64 × Int64 × Int64) => r = mdg sg rw he pg rn bg la hm pm pr) (fun (u : (Nat → Int32) × (Nat → Int32) × Nat × Int64 × Int64 × Int64) (t : State) => va_P D vwCl (zM cI g pm rm rr st sg rn bg la ws pr u.2.2.1 hm u.2.2.2.1 u.2.2.2.2.1 sn kp kr kb kl kw kh u.2.2.2.2.2 pg rd rw u.1 u.2.1 he kro khe) t.heap) A) ([.ref (g 0)] : List Value).toArray s 0 0 A) (F0 m 61 ls []) := by
            intro d_61
            induction d_61 with
            | zero => intro j_66 t0 t1 t2 t3 t4 H_61 locs_61 hd; exact absurd hd (Nat.not_lt_zero _)
            | succ d_61 ih_61 =>
              intro j_66 t0 t1 t2 t3 t4 H_61 locs_61 hd_61 hj_66 hP hD hS ls hl
              refine lv_iload_n hx hb dX7_digest_61 rfl (lv_at hl 0 rfl) ?_
              refine lv_aload_n hx hb dX7_digest_62 rfl (lv_at hl 1 rfl) ?_
              refine va_get (D := D) (ci := 7) (v := .int (nI pm)) (C := RX7) (T := TX7) (N := 30) hx hb hts iX7 hown hK hP 0 rfl rfl 1 (by decide) k47 (fun _ h9 => h9) rfl dX7_digest_63 ?_
              refine lv_icmp_ge (tgt := 86) hx hb dX7_digest_66 (by decide) (fun c_66 => ?_) (fun c_66 => ?_)
              · skip
                have hje_66 : j_66 = pm := Nat.le_antisymm hj_66 (vz_ge (n := pm) c_66 (by omega) (by omega))
                refine lv_iconst (v := 0) hx hb dX7_digest_86 (by decide) ?_
                refine lv_istore_n (lv' := [(1, .int 0), (0, .ref (g 0))]) hx hb dX7_digest_87 rfl hl (by decide) rfl (fun ls hl => ?_)
                have L_88 : ∀ (d_88 : Nat) (j_91 : Nat) (H_88 : Heap) (locs_88 : List Loc), 12 - j_91 < d_88 → (j_91 ≤ 12) → va_P D vwCl (zM cI g pm rm rr st sg rn bg la ws pr t2 hm t3 t4 sn kp kr kb kl kw kh (mgn (mct sg rw rn bg la hm pm pr) j_91 (mgc pg pm (if sa_np sg then mgo (mtl sg rw rn bg la) sg 997 else msp sg rw he rn bg la hm (mgo (mtl sg rw rn bg la) sg 997)))) pg rd rw t0 t1 he kro khe) H_88 → va_D A (zM cI g pm rm rr st sg rn bg la ws pr t2 hm t3 t4 sn kp kr kb kl kw kh (mgn (mct sg rw rn bg la hm pm pr) j_91 (mgc pg pm (if sa_np sg then mgo (mtl sg rw rn bg la) sg 997 else msp sg rw he rn bg la hm (mgo (mtl sg rw rn bg la) sg 997)))) pg rd rw t0 t1 he kro khe) → va_S A s.heap H_88 locs_88 → ∀ (ls : Array Slot), lv_has ls 3 [(1, .int (nI j_91)), (0, .ref (g 0))] → W p l e ({ frames := 8, cells := 0, slots := 0, locals := 194 } : Room) s m ([.ref (g 0)] : List Value).toArray below meth c H_88 locs_88 0 0 (MQ below (va_Ql (fun r (_ : (Nat → Int32) × (Nat → Int32) × Nat × Int64 × Int64 × Int64) => r = mdg sg rw he pg rn bg la hm pm pr) (fun (u : (Nat → Int32) × (Nat → Int32) × Nat × Int64 × Int64 × Int64) (t : State) => va_P D vwCl (zM cI g pm rm rr st sg rn bg la ws pr u.2.2.1 hm u.2.2.2.1 u.2.2.2.2.1 sn kp kr kb kl kw kh u.2.2.2.2.2 pg rd rw u.1 u.2.1 he kro khe) t.heap) A) ([.ref (g 0)] : List Value).toArray s 0 0 A) (F0 m 88 ls []) := by
                  intro d_88
                  induction d_88 with
                  | zero => intro j_91 H_88 locs_88 hd; exact absurd hd (Nat.not_lt_zero _)
                  | succ d_88 ih_88 =>
                    intro j_91 H_88 locs_88 hd_88 hj_91 hP hD hS ls hl
                    refine lv_iload_n hx hb dX7_digest_88 rfl (lv_at hl 0 rfl) ?_
                    refine lv_bipush (v := 12) hx hb dX7_digest_89 (by decide) ?_
                    refine lv_icmp_ge (tgt := 110) hx hb dX7_digest_91 (by decide) (fun c_91 => ?_) (fun c_91 => ?_)
                    · skip
                      have hje_91 : j_91 = 12 := Nat.le_antisymm hj_91 (vz_ge (n := 12) c_91 (by omega) (by omega))
                      refine lv_aload_n hx hb dX7_digest_110 rfl (lv_at hl 1 rfl) ?_
                      refine va_get (D := D) (ci := 7) (v := .long (mgn (mct sg rw rn bg la hm pm pr) j_91 (mgc pg pm (if sa_np sg then mgo (mtl sg rw rn bg la) sg 997 else msp sg rw he rn bg la hm (mgo (mtl sg rw rn bg la) sg 997))))) (C := RX7) (T := TX7) (N := 30) hx hb hts iX7 hown hK hP 0 rfl rfl 29 (by decide) k247 (fun _ h9 => h9) rfl dX7_digest_111 ?_
                      exact W.lret hx hb hr (fun t ht hW => ⟨⟨_, (t0, t1, t2, t3, t4, mgn (mct sg rw rn bg la hm pm pr) j_91 (mgc pg pm (if sa_np sg then mgo (mtl sg rw rn bg la) sg 997 else msp sg rw he rn bg la hm (mgo (mtl sg rw rn bg la) sg 997)))), rfl, (by rw [hje_91] ; simp only [mdg]), (by show va_P D vwCl (zM cI g pm rm rr st sg rn bg la ws pr t2 hm t3 t4 sn kp kr kb kl kw kh (mgn (mct sg rw rn bg la hm pm pr) j_91 (mgc pg pm (if sa_np sg then mgo (mtl sg rw rn bg la) sg 997 else msp sg rw he rn bg la hm (mgo (mtl sg rw rn bg la) sg 997)))) pg rd rw t0 t1 he kro khe) t.heap; rw [ht]; exact hP)⟩, hS.F ht⟩) hS.2.2 dX7_digest_114
                    · skip
                      have hlt_91 : j_91 < 12 := vz_lt (n := 12) c_91 (by omega)
                      refine lv_aload_n hx hb dX7_digest_94 rfl (lv_at hl 1 rfl) ?_
                      refine lv_aload_n hx hb dX7_digest_95 rfl (lv_at hl 1 rfl) ?_
                      refine lv_iload_n hx hb dX7_digest_96 rfl (lv_at hl 0 rfl) ?_
                      refine vp_callSi (W.runV (As := [.int (nI j_91)]) (rest := [.ref (g 0)]) ⟨hx, hb, hml, hown, hts⟩ (c_X7_countOf l D cI g pm rm rr st sg rn bg la ws pr t2 hm t3 t4 sn kp kr kb kl kw kh (mgn (mct sg rw rn bg la hm pm pr) j_91 (mgc pg pm (if sa_np sg then mgo (mtl sg rw rn bg la) sg 997 else msp sg rw he rn bg la hm (mgo (mtl sg rw rn bg la) sg 997)))) pg rd rw t0 t1 he kro khe (nI j_91) (by first | assumption | omega) (by first | assumption | omega)) (cwV 1 hts gX7_digest_X7_countOf rfl rfl rfl (by decide +kernel) ⟨Nat.le_of_ble_eq_true rfl, Nat.le_of_ble_eq_true rfl⟩) (vz_pvR (va_recv hK hP (ci := 7) (q0 := 0) rfl rfl) hZ hP) rfl rfl hl.1 rfl (lv_room (Nat.le_of_ble_eq_true rfl)) dX7_digest_97 ⟨Nat.zero_le _, Nat.zero_le _⟩) (fun r_97 hr_97 => ?_)
                      subst hr_97
                      refine lv_i2l (v := (mct sg rw rn bg la hm pm pr (nI j_91) : Int32).toInt64) hx hb dX7_digest_100 rfl ?_
                      have hPc := hP
                      have hDc := hD
                      have hFc : ∀ q, va_A (zM cI g pm rm rr st sg rn bg la ws pr t2 hm t3 t4 sn kp kr kb kl kw kh (mgn (mct sg rw rn bg la hm pm pr) j_91 (mgc pg pm (if sa_np sg then mgo (mtl sg rw rn bg la) sg 997 else msp sg rw he rn bg la hm (mgo (mtl sg rw rn bg la) sg 997)))) pg rd rw t0 t1 he kro khe) H_88.size q → A q := vz_freeAll hD hS hA
                      refine va_callv (va_runV (As := [.long ((mct sg rw rn bg la hm pm pr (nI j_91) : Int32).toInt64)]) (rest := []) ⟨hx, hb, hml, hown, hts⟩ (c_X7_say l D cI g pm rm rr st sg rn bg la ws pr t2 hm t3 t4 sn kp kr kb kl kw kh (mgn (mct sg rw rn bg la hm pm pr) j_91 (mgc pg pm (if sa_np sg then mgo (mtl sg rw rn bg la) sg 997 else msp sg rw he rn bg la hm (mgo (mtl sg rw rn bg la) sg 997)))) pg rd rw t0 t1 he kro khe H_88.size ((mct sg rw rn bg la hm pm pr (nI j_91) : Int32).toInt64)) (cwV 1 hts gX7_digest_X7_say rfl rfl rfl (by decide +kernel) ⟨Nat.le_of_ble_eq_true rfl, Nat.le_of_ble_eq_true rfl⟩) (vz_pvW (va_recv hK hP (ci := 7) (q0 := 0) rfl rfl) hZ hPc hDc) rfl rfl hl.1 rfl (lv_room (Nat.le_of_ble_eq_true rfl)) dX7_digest_101 ⟨Nat.zero_le _, Nat.zero_le _⟩) hS (fun q _ h => hFc q h) hFc (fun u_101 t H_101 locs_101 ht hvm hw hB hz1 hk1 hS9 => ?_)
                      rw [ht] at hB
                      replace hP : va_P D vwCl (zM cI g pm rm rr st sg rn bg la ws pr t2 hm t3 t4 sn kp kr kb kl kw kh (31 * (mgn (mct sg rw rn bg la hm pm pr) j_91 (mgc pg pm (if sa_np sg then mgo (mtl sg rw rn bg la) sg 997 else msp sg rw he rn bg la hm (mgo (mtl sg rw rn bg la) sg 997)))) + ((mct sg rw rn bg la hm pm pr (nI j_91) : Int32).toInt64)) pg rd rw t0 t1 he kro khe) H_101 := hB
                      replace hD : va_D A (zM cI g pm rm rr st sg rn bg la ws pr t2 hm t3 t4 sn kp kr kb kl kw kh (31 * (mgn (mct sg rw rn bg la hm pm pr) j_91 (mgc pg pm (if sa_np sg then mgo (mtl sg rw rn bg la) sg 997 else msp sg rw he rn bg la hm (mgo (mtl sg rw rn bg la) sg 997)))) + ((mct sg rw rn bg la hm pm pr (nI j_91) : Int32).toInt64)) pg rd rw t0 t1 he kro khe) := vz_same hD (zM_fst.trans zM_fst.symm)
                      replace hS := hS9
                      clear hS9 hPc hDc hFc hB hk1 hz1
                      refine lv_iinc (v := nI (j_91 + 1)) (lv' := [(1, .int (nI (j_91 + 1))), (0, .ref (g 0))]) hx hb dX7_digest_104 hl (k := 0) rfl (vz_inc _) (by decide) rfl (fun ls hl => ?_)
                      refine lv_goto (tgt := 88) hx hb dX7_digest_107 (by decide) ?_
                      have ew_hc : mgn (mct sg rw rn bg la hm pm pr) (j_91 + 1) (mgc pg pm (if sa_np sg then mgo (mtl sg rw rn bg la) sg 997 else msp sg rw he rn bg la hm (mgo (mtl sg rw rn bg la) sg 997))) = 31 * (mgn (mct sg rw rn bg la hm pm pr) j_91 (mgc pg pm (if sa_np sg then mgo (mtl sg rw rn bg la) sg 997 else msp sg rw he rn bg la hm (mgo (mtl sg rw rn bg la) sg 997)))) + ((mct sg rw rn bg la hm pm pr (nI j_91) : Int32).toInt64) := by simp only [mgn]
                      replace hP : va_P D vwCl (zM cI g pm rm rr st sg rn bg la ws pr t2 hm t3 t4 sn kp kr kb kl kw kh (mgn (mct sg rw rn bg la hm pm pr) (j_91 + 1) (mgc pg pm (if sa_np sg then mgo (mtl sg rw rn bg la) sg 997 else msp sg rw he rn bg la hm (mgo (mtl sg rw rn bg la) sg 997)))) pg rd rw t0 t1 he kro khe) H_101 := by rw [ew_hc]; exact hP
                      replace hD : va_D A (zM cI g pm rm rr st sg rn bg la ws pr t2 hm t3 t4 sn kp kr kb kl kw kh (mgn (mct sg rw rn bg la hm pm pr) (j_91 + 1) (mgc pg pm (if sa_np sg then mgo (mtl sg rw rn bg la) sg 997 else msp sg rw he rn bg la hm (mgo (mtl sg rw rn bg la) sg 997)))) pg rd rw t0 t1 he kro khe) := vz_same hD (zM_fst.trans zM_fst.symm)
                      exact ih_88 (j_91 + 1) _ _ (by omega) (by omega) hP hD hS ls (lv_sub hl [0, 1] rfl)
                have ew_hc : mgn (mct sg rw rn bg la hm pm pr) 0 (mgc pg pm (if sa_np sg then mgo (mtl sg rw rn bg la) sg 997 else msp sg rw he rn bg la hm (mgo (mtl sg rw rn bg la) sg 997))) = mgc pg j_66 (if sa_np sg then mgo (mtl sg rw rn bg la) sg 997 else msp sg rw he rn bg la hm (mgo (mtl sg rw rn bg la) sg 997)) := by rw [hje_66] ; simp only [mgn]
                replace hP : va_P D vwCl (zM cI g pm rm rr st sg rn bg la ws pr t2 hm t3 t4 sn kp kr kb kl kw kh (mgn (mct sg rw rn bg la hm pm pr) 0 (mgc pg pm (if sa_np sg then mgo (mtl sg rw rn bg la) sg 997 else msp sg rw he rn bg la hm (mgo (mtl sg rw rn bg la) sg 997)))) pg rd rw t0 t1 he kro khe) H_61 := by rw [ew_hc]; exact hP
                replace hD : va_D A (zM cI g pm rm rr st sg rn bg la ws pr t2 hm t3 t4 sn kp kr kb kl kw kh (mgn (mct sg rw rn bg la hm pm pr) 0 (mgc pg pm (if sa_np sg then mgo (mtl sg rw rn bg la) sg 997 else msp sg rw he rn bg la hm (mgo (mtl sg rw rn bg la) sg 997)))) pg rd rw t0 t1 he kro khe) := vz_same hD (zM_fst.trans zM_fst.symm)
                exact L_88 _ 0 _ _ (Nat.lt_succ_self _) (Nat.zero_le _) hP hD hS ls (lv_sub hl [0, 1] rfl)
              · skip
                have hlt_66 : j_66 < pm := vz_lt (n := pm) c_66 (by omega)
                refine lv_aload_n hx hb dX7_digest_69 rfl (lv_at hl 1 rfl) ?_
                refine lv_aload_n hx hb dX7_digest_70 rfl (lv_at hl 1 rfl) ?_
                refine va_get (D := D) (ci := 7) (v := .ref (g 1)) (C := RX7) (T := TX7) (N := 30) hx hb hts iX7 hown hK hP 0 rfl rfl 0 (by decide) k7 (fun _ h9 => h9) rfl dX7_digest_71 ?_
                refine lv_iload_n hx hb dX7_digest_74 rfl (lv_at hl 0 rfl) ?_
                refine va_iald hx hb hK hP 1 0 rfl rfl (i := nI j_66) (vp_in_nI (by first | assumption | omega) (by first | assumption | omega)) dX7_digest_75 ?_
                refine W.eq (congrArg (fun z => F0 m 76 ls (.int z :: [.ref (g 0)])) (vz_ix pg (by first | assumption | omega))) ?_
                refine lv_i2l (v := (pg j_66 : Int32).toInt64) hx hb dX7_digest_76 rfl ?_
                have hPc := hP
                have hDc := hD
                have hFc : ∀ q, va_A (zM cI g pm rm rr st sg rn bg la ws pr t2 hm t3 t4 sn kp kr kb kl kw kh (mgc pg j_66 (if sa_np sg then mgo (mtl sg rw rn bg la) sg 997 else msp sg rw he rn bg la hm (mgo (mtl sg rw rn bg la) sg 997))) pg rd rw t0 t1 he kro khe) H_61.size q → A q := vz_freeAll hD hS hA
                refine va_callv (va_runV (As := [.long ((pg j_66 : Int32).toInt64)]) (rest := []) ⟨hx, hb, hml, hown, hts⟩ (c_X7_say l D cI g pm rm rr st sg rn bg la ws pr t2 hm t3 t4 sn kp kr kb kl kw kh (mgc pg j_66 (if sa_np sg then mgo (mtl sg rw rn bg la) sg 997 else msp sg rw he rn bg la hm (mgo (mtl sg rw rn bg la) sg 997))) pg rd rw t0 t1 he kro khe H_61.size ((pg j_66 : Int32).toInt64)) (cwV 1 hts gX7_digest_X7_say rfl rfl rfl (by decide +kernel) ⟨Nat.le_of_ble_eq_true rfl, Nat.le_of_ble_eq_true rfl⟩) (vz_pvW (va_recv hK hP (ci := 7) (q0 := 0) rfl rfl) hZ hPc hDc) rfl rfl hl.1 rfl (lv_room (Nat.le_of_ble_eq_true rfl)) dX7_digest_77 ⟨Nat.zero_le _, Nat.zero_le _⟩) hS (fun q _ h => hFc q h) hFc (fun u_77 t H_77 locs_77 ht hvm hw hB hz1 hk1 hS9 => ?_)
                rw [ht] at hB
                replace hP : va_P D vwCl (zM cI g pm rm rr st sg rn bg la ws pr t2 hm t3 t4 sn kp kr kb kl kw kh (31 * (mgc pg j_66 (if sa_np sg then mgo (mtl sg rw rn bg la) sg 997 else msp sg rw he rn bg la hm (mgo (mtl sg rw rn bg la) sg 997))) + ((pg j_66 : Int32).toInt64)) pg rd rw t0 t1 he kro khe) H_77 := hB
                replace hD : va_D A (zM cI g pm rm rr st sg rn bg la ws pr t2 hm t3 t4 sn kp kr kb kl kw kh (31 * (mgc pg j_66 (if sa_np sg then mgo (mtl sg rw rn bg la) sg 997 else msp sg rw he rn bg la hm (mgo (mtl sg rw rn bg la) sg 997))) + ((pg j_66 : Int32).toInt64)) pg rd rw t0 t1 he kro khe) := vz_same hD (zM_fst.trans zM_fst.symm)
                replace hS := hS9
                clear hS9 hPc hDc hFc hB hk1 hz1
                refine lv_iinc (v := nI (j_66 + 1)) (lv' := [(1, .int (nI (j_66 + 1))), (0, .ref (g 0))]) hx hb dX7_digest_80 hl (k := 0) rfl (vz_inc _) (by decide) rfl (fun ls hl => ?_)
                refine lv_goto (tgt := 61) hx hb dX7_digest_83 (by decide) ?_
                have ew_hc : mgc pg (j_66 + 1) (if sa_np sg then mgo (mtl sg rw rn bg la) sg 997 else msp sg rw he rn bg la hm (mgo (mtl sg rw rn bg la) sg 997)) = 31 * (mgc pg j_66 (if sa_np sg then mgo (mtl sg rw rn bg la) sg 997 else msp sg rw he rn bg la hm (mgo (mtl sg rw rn bg la) sg 997))) + ((pg j_66 : Int32).toInt64) := by simp only [mgc]
                replace hP : va_P D vwCl (zM cI g pm rm rr st sg rn bg la ws pr t2 hm t3 t4 sn kp kr kb kl kw kh (mgc pg (j_66 + 1) (if sa_np sg then mgo (mtl sg rw rn bg la) sg 997 else msp sg rw he rn bg la hm (mgo (mtl sg rw rn bg la) sg 997))) pg rd rw t0 t1 he kro khe) H_77 := by rw [ew_hc]; exact hP
                replace hD : va_D A (zM cI g pm rm rr st sg rn bg la ws pr t2 hm t3 t4 sn kp kr kb kl kw kh (mgc pg (j_66 + 1) (if sa_np sg then mgo (mtl sg rw rn bg la) sg 997 else msp sg rw he rn bg la hm (mgo (mtl sg rw rn bg la) sg 997))) pg rd rw t0 t1 he kro khe) := vz_same hD (zM_fst.trans zM_fst.symm)
                exact ih_61 (j_66 + 1) t0 t1 t2 t3 t4 _ _ (by omega) (by omega) hP hD hS ls (lv_sub hl [0, 1] rfl)
          have ew_hc : mgc pg 0 (if sa_np sg then mgo (mtl sg rw rn bg la) sg 997 else msp sg rw he rn bg la hm (mgo (mtl sg rw rn bg la) sg 997)) = mgo (mtl sg rw rn bg la) j_14 997 := by rw [hje_14] ; simp only [mgc, c_52, ↓reduceIte, Bool.false_eq_true]
          replace hP : va_P D vwCl (zM cI g pm rm rr st sg rn bg la ws pr ry hm xu xl sn kp kr kb kl kw kh (mgc pg 0 (if sa_np sg then mgo (mtl sg rw rn bg la) sg 997 else msp sg rw he rn bg la hm (mgo (mtl sg rw rn bg la) sg 997))) pg rd rw ro be he kro khe) H_9 := by rw [ew_hc]; exact hP
          replace hD : va_D A (zM cI g pm rm rr st sg rn bg la ws pr ry hm xu xl sn kp kr kb kl kw kh (mgc pg 0 (if sa_np sg then mgo (mtl sg rw rn bg la) sg 997 else msp sg rw he rn bg la hm (mgo (mtl sg rw rn bg la) sg 997))) pg rd rw ro be he kro khe) := vz_same hD (zM_fst.trans zM_fst.symm)
          exact L_61 _ 0 ro be ry xu xl _ _ (Nat.lt_succ_self _) (Nat.zero_le _) hP hD hS ls (lv_sub hl [0, 1] rfl)
        · skip
          replace c_52 := vz_b0 c_52
          refine lv_aload_n hx hb dX7_digest_55 rfl (lv_at hl 1 rfl) ?_
          have hPc := hP
          have hDc := hD
          have hFc : ∀ q, va_A (zM cI g pm rm rr st sg rn bg la ws pr ry hm xu xl sn kp kr kb kl kw kh (mgo (mtl sg rw rn bg la) j_14 997) pg rd rw ro be he kro khe) H_9.size q → A q := vz_freeAll hD hS hA
          refine va_callv (va_runV (As := []) (rest := []) ⟨hx, hb, hml, hown, hts⟩ (c_X7_sayPlayer l D cI g pm rm rr st sg rn bg la ws pr ry hm xu xl sn kp kr kb kl kw kh (mgo (mtl sg rw rn bg la) j_14 997) pg rd rw ro be he kro khe H_9.size (by first | assumption | omega) (sa_np0 c_52) (by first | assumption | omega) (by first | assumption | omega) (by first | assumption | omega) ((hDD c_52).2.1) ((hDD c_52).2.2.1) ((hDD c_52).2.2.2)) (cwV 0 hts gX7_digest_X7_sayPlayer rfl rfl rfl (by decide +kernel) ⟨Nat.le_of_ble_eq_true rfl, Nat.le_of_ble_eq_true rfl⟩) (vz_pvW (va_recv hK hP (ci := 7) (q0 := 0) rfl rfl) hZ hPc hDc) rfl rfl hl.1 rfl (lv_room (Nat.le_of_ble_eq_true rfl)) dX7_digest_56 ⟨Nat.zero_le _, Nat.zero_le _⟩) hS (fun q _ h => hFc q h) hFc (fun u_56 t H_56 locs_56 ht hvm hw hB hz1 hk1 hS9 => ?_)
          rw [ht] at hB
          replace hP : va_P D vwCl (zM cI g pm rm rr st sg rn bg la ws pr u_56.2.2.1 hm u_56.2.2.2.1 u_56.2.2.2.2 sn kp kr kb kl kw kh (msp sg rw he rn bg la hm (mgo (mtl sg rw rn bg la) j_14 997)) pg rd rw u_56.1 u_56.2.1 he kro khe) H_56 := hB
          replace hD : va_D A (zM cI g pm rm rr st sg rn bg la ws pr u_56.2.2.1 hm u_56.2.2.2.1 u_56.2.2.2.2 sn kp kr kb kl kw kh (msp sg rw he rn bg la hm (mgo (mtl sg rw rn bg la) j_14 997)) pg rd rw u_56.1 u_56.2.1 he kro khe) := vz_same hD (zM_fst.trans zM_fst.symm)
          replace hS := hS9
          clear hS9 hPc hDc hFc hB hk1 hz1
          refine lv_iconst (v := 0) hx hb dX7_digest_59 (by decide) ?_
          refine lv_istore_n (lv' := [(1, .int 0), (0, .ref (g 0))]) hx hb dX7_digest_60 rfl hl (by decide) rfl (fun ls hl => ?_)
          have L_61 : ∀ (d_61 : Nat) (j_66 : Nat) (t0 : Nat → Int32) (t1 : Nat → Int32) (t2 : Nat) (t3 : Int64) (t4 : Int64) (H_61 : Heap) (locs_61 : List Loc), pm - j_66 < d_61 → (j_66 ≤ pm) → va_P D vwCl (zM cI g pm rm rr st sg rn bg la ws pr t2 hm t3 t4 sn kp kr kb kl kw kh (mgc pg j_66 (if sa_np sg then mgo (mtl sg rw rn bg la) sg 997 else msp sg rw he rn bg la hm (mgo (mtl sg rw rn bg la) sg 997))) pg rd rw t0 t1 he kro khe) H_61 → va_D A (zM cI g pm rm rr st sg rn bg la ws pr t2 hm t3 t4 sn kp kr kb kl kw kh (mgc pg j_66 (if sa_np sg then mgo (mtl sg rw rn bg la) sg 997 else msp sg rw he rn bg la hm (mgo (mtl sg rw rn bg la) sg 997))) pg rd rw t0 t1 he kro khe) → va_S A s.heap H_61 locs_61 → ∀ (ls : Array Slot), lv_has ls 3 [(1, .int (nI j_66)), (0, .ref (g 0))] → W p l e ({ frames := 8, cells := 0, slots := 0, locals := 194 } : Room) s m ([.ref (g 0)] : List Value).toArray below meth c H_61 locs_61 0 0 (MQ below (va_Ql (fun r (_ : (Nat → Int32) × (Nat → Int32) × Nat × Int64 × Int64 × Int64) => r = mdg sg rw he pg rn bg la hm pm pr) (fun (u : (Nat → Int32) × (Nat → Int32) × Nat × Int64 × Int64 × Int64) (t : State) => va_P D vwCl (zM cI g pm rm rr st sg rn bg la ws pr u.2.2.1 hm u.2.2.2.1 u.2.2.2.2.1 sn kp kr kb kl kw kh u.2.2.2.2.2 pg rd rw u.1 u.2.1 he kro khe) t.heap) A) ([.ref (g 0)] : List Value).toArray s 0 0 A) (F0 m 61 ls []) := by
            intro d_61
            induction d_61 with
            | zero => intro j_66 t0 t1 t2 t3 t4 H_61 locs_61 hd; exact absurd hd (Nat.not_lt_zero _)
            | succ d_61 ih_61 =>
              intro j_66 t0 t1 t2 t3 t4 H_61 locs_61 hd_61 hj_66 hP hD hS ls hl
              refine lv_iload_n hx hb dX7_digest_61 rfl (lv_at hl 0 rfl) ?_
              refine lv_aload_n hx hb dX7_digest_62 rfl (lv_at hl 1 rfl) ?_
              refine va_get (D := D) (ci := 7) (v := .int (nI pm)) (C := RX7) (T := TX7) (N := 30) hx hb hts iX7 hown hK hP 0 rfl rfl 1 (by decide) k47 (fun _ h9 => h9) rfl dX7_digest_63 ?_
              refine lv_icmp_ge (tgt := 86) hx hb dX7_digest_66 (by decide) (fun c_66 => ?_) (fun c_66 => ?_)
              · skip
                have hje_66 : j_66 = pm := Nat.le_antisymm hj_66 (vz_ge (n := pm) c_66 (by omega) (by omega))
                refine lv_iconst (v := 0) hx hb dX7_digest_86 (by decide) ?_
                refine lv_istore_n (lv' := [(1, .int 0), (0, .ref (g 0))]) hx hb dX7_digest_87 rfl hl (by decide) rfl (fun ls hl => ?_)
                have L_88 : ∀ (d_88 : Nat) (j_91 : Nat) (H_88 : Heap) (locs_88 : List Loc), 12 - j_91 < d_88 → (j_91 ≤ 12) → va_P D vwCl (zM cI g pm rm rr st sg rn bg la ws pr t2 hm t3 t4 sn kp kr kb kl kw kh (mgn (mct sg rw rn bg la hm pm pr) j_91 (mgc pg pm (if sa_np sg then mgo (mtl sg rw rn bg la) sg 997 else msp sg rw he rn bg la hm (mgo (mtl sg rw rn bg la) sg 997)))) pg rd rw t0 t1 he kro khe) H_88 → va_D A (zM cI g pm rm rr st sg rn bg la ws pr t2 hm t3 t4 sn kp kr kb kl kw kh (mgn (mct sg rw rn bg la hm pm pr) j_91 (mgc pg pm (if sa_np sg then mgo (mtl sg rw rn bg la) sg 997 else msp sg rw he rn bg la hm (mgo (mtl sg rw rn bg la) sg 997)))) pg rd rw t0 t1 he kro khe) → va_S A s.heap H_88 locs_88 → ∀ (ls : Array Slot), lv_has ls 3 [(1, .int (nI j_91)), (0, .ref (g 0))] → W p l e ({ frames := 8, cells := 0, slots := 0, locals := 194 } : Room) s m ([.ref (g 0)] : List Value).toArray below meth c H_88 locs_88 0 0 (MQ below (va_Ql (fun r (_ : (Nat → Int32) × (Nat → Int32) × Nat × Int64 × Int64 × Int64) => r = mdg sg rw he pg rn bg la hm pm pr) (fun (u : (Nat → Int32) × (Nat → Int32) × Nat × Int64 × Int64 × Int64) (t : State) => va_P D vwCl (zM cI g pm rm rr st sg rn bg la ws pr u.2.2.1 hm u.2.2.2.1 u.2.2.2.2.1 sn kp kr kb kl kw kh u.2.2.2.2.2 pg rd rw u.1 u.2.1 he kro khe) t.heap) A) ([.ref (g 0)] : List Value).toArray s 0 0 A) (F0 m 88 ls []) := by
                  intro d_88
                  induction d_88 with
                  | zero => intro j_91 H_88 locs_88 hd; exact absurd hd (Nat.not_lt_zero _)
                  | succ d_88 ih_88 =>
                    intro j_91 H_88 locs_88 hd_88 hj_91 hP hD hS ls hl
                    refine lv_iload_n hx hb dX7_digest_88 rfl (lv_at hl 0 rfl) ?_
                    refine lv_bipush (v := 12) hx hb dX7_digest_89 (by decide) ?_
                    refine lv_icmp_ge (tgt := 110) hx hb dX7_digest_91 (by decide) (fun c_91 => ?_) (fun c_91 => ?_)
                    · skip
                      have hje_91 : j_91 = 12 := Nat.le_antisymm hj_91 (vz_ge (n := 12) c_91 (by omega) (by omega))
                      refine lv_aload_n hx hb dX7_digest_110 rfl (lv_at hl 1 rfl) ?_
                      refine va_get (D := D) (ci := 7) (v := .long (mgn (mct sg rw rn bg la hm pm pr) j_91 (mgc pg pm (if sa_np sg then mgo (mtl sg rw rn bg la) sg 997 else msp sg rw he rn bg la hm (mgo (mtl sg rw rn bg la) sg 997))))) (C := RX7) (T := TX7) (N := 30) hx hb hts iX7 hown hK hP 0 rfl rfl 29 (by decide) k247 (fun _ h9 => h9) rfl dX7_digest_111 ?_
                      exact W.lret hx hb hr (fun t ht hW => ⟨⟨_, (t0, t1, t2, t3, t4, mgn (mct sg rw rn bg la hm pm pr) j_91 (mgc pg pm (if sa_np sg then mgo (mtl sg rw rn bg la) sg 997 else msp sg rw he rn bg la hm (mgo (mtl sg rw rn bg la) sg 997)))), rfl, (by rw [hje_91] ; simp only [mdg]), (by show va_P D vwCl (zM cI g pm rm rr st sg rn bg la ws pr t2 hm t3 t4 sn kp kr kb kl kw kh (mgn (mct sg rw rn bg la hm pm pr) j_91 (mgc pg pm (if sa_np sg then mgo (mtl sg rw rn bg la) sg 997 else msp sg rw he rn bg la hm (mgo (mtl sg rw rn bg la) sg 997)))) pg rd rw t0 t1 he kro khe) t.heap; rw [ht]; exact hP)⟩, hS.F ht⟩) hS.2.2 dX7_digest_114
                    · skip
                      have hlt_91 : j_91 < 12 := vz_lt (n := 12) c_91 (by omega)
                      refine lv_aload_n hx hb dX7_digest_94 rfl (lv_at hl 1 rfl) ?_
                      refine lv_aload_n hx hb dX7_digest_95 rfl (lv_at hl 1 rfl) ?_
                      refine lv_iload_n hx hb dX7_digest_96 rfl (lv_at hl 0 rfl) ?_
                      refine vp_callSi (W.runV (As := [.int (nI j_91)]) (rest := [.ref (g 0)]) ⟨hx, hb, hml, hown, hts⟩ (c_X7_countOf l D cI g pm rm rr st sg rn bg la ws pr t2 hm t3 t4 sn kp kr kb kl kw kh (mgn (mct sg rw rn bg la hm pm pr) j_91 (mgc pg pm (if sa_np sg then mgo (mtl sg rw rn bg la) sg 997 else msp sg rw he rn bg la hm (mgo (mtl sg rw rn bg la) sg 997)))) pg rd rw t0 t1 he kro khe (nI j_91) (by first | assumption | omega) (by first | assumption | omega)) (cwV 1 hts gX7_digest_X7_countOf rfl rfl rfl (by decide +kernel) ⟨Nat.le_of_ble_eq_true rfl, Nat.le_of_ble_eq_true rfl⟩) (vz_pvR (va_recv hK hP (ci := 7) (q0 := 0) rfl rfl) hZ hP) rfl rfl hl.1 rfl (lv_room (Nat.le_of_ble_eq_true rfl)) dX7_digest_97 ⟨Nat.zero_le _, Nat.zero_le _⟩) (fun r_97 hr_97 => ?_)
                      subst hr_97
                      refine lv_i2l (v := (mct sg rw rn bg la hm pm pr (nI j_91) : Int32).toInt64) hx hb dX7_digest_100 rfl ?_
                      have hPc := hP
                      have hDc := hD
                      have hFc : ∀ q, va_A (zM cI g pm rm rr st sg rn bg la ws pr t2 hm t3 t4 sn kp kr kb kl kw kh (mgn (mct sg rw rn bg la hm pm pr) j_91 (mgc pg pm (if sa_np sg then mgo (mtl sg rw rn bg la) sg 997 else msp sg rw he rn bg la hm (mgo (mtl sg rw rn bg la) sg 997)))) pg rd rw t0 t1 he kro khe) H_88.size q → A q := vz_freeAll hD hS hA
                      refine va_callv (va_runV (As := [.long ((mct sg rw rn bg la hm pm pr (nI j_91) : Int32).toInt64)]) (rest := []) ⟨hx, hb, hml, hown, hts⟩ (c_X7_say l D cI g pm rm rr st sg rn bg la ws pr t2 hm t3 t4 sn kp kr kb kl kw kh (mgn (mct sg rw rn bg la hm pm pr) j_91 (mgc pg pm (if sa_np sg then mgo (mtl sg rw rn bg la) sg 997 else msp sg rw he rn bg la hm (mgo (mtl sg rw rn bg la) sg 997)))) pg rd rw t0 t1 he kro khe H_88.size ((mct sg rw rn bg la hm pm pr (nI j_91) : Int32).toInt64)) (cwV 1 hts gX7_digest_X7_say rfl rfl rfl (by decide +kernel) ⟨Nat.le_of_ble_eq_true rfl, Nat.le_of_ble_eq_true rfl⟩) (vz_pvW (va_recv hK hP (ci := 7) (q0 := 0) rfl rfl) hZ hPc hDc) rfl rfl hl.1 rfl (lv_room (Nat.le_of_ble_eq_true rfl)) dX7_digest_101 ⟨Nat.zero_le _, Nat.zero_le _⟩) hS (fun q _ h => hFc q h) hFc (fun u_101 t H_101 locs_101 ht hvm hw hB hz1 hk1 hS9 => ?_)
                      rw [ht] at hB
                      replace hP : va_P D vwCl (zM cI g pm rm rr st sg rn bg la ws pr t2 hm t3 t4 sn kp kr kb kl kw kh (31 * (mgn (mct sg rw rn bg la hm pm pr) j_91 (mgc pg pm (if sa_np sg then mgo (mtl sg rw rn bg la) sg 997 else msp sg rw he rn bg la hm (mgo (mtl sg rw rn bg la) sg 997)))) + ((mct sg rw rn bg la hm pm pr (nI j_91) : Int32).toInt64)) pg rd rw t0 t1 he kro khe) H_101 := hB
                      replace hD : va_D A (zM cI g pm rm rr st sg rn bg la ws pr t2 hm t3 t4 sn kp kr kb kl kw kh (31 * (mgn (mct sg rw rn bg la hm pm pr) j_91 (mgc pg pm (if sa_np sg then mgo (mtl sg rw rn bg la) sg 997 else msp sg rw he rn bg la hm (mgo (mtl sg rw rn bg la) sg 997)))) + ((mct sg rw rn bg la hm pm pr (nI j_91) : Int32).toInt64)) pg rd rw t0 t1 he kro khe) := vz_same hD (zM_fst.trans zM_fst.symm)
                      replace hS := hS9
                      clear hS9 hPc hDc hFc hB hk1 hz1
                      refine lv_iinc (v := nI (j_91 + 1)) (lv' := [(1, .int (nI (j_91 + 1))), (0, .ref (g 0))]) hx hb dX7_digest_104 hl (k := 0) rfl (vz_inc _) (by decide) rfl (fun ls hl => ?_)
                      refine lv_goto (tgt := 88) hx hb dX7_digest_107 (by decide) ?_
                      have ew_hc : mgn (mct sg rw rn bg la hm pm pr) (j_91 + 1) (mgc pg pm (if sa_np sg then mgo (mtl sg rw rn bg la) sg 997 else msp sg rw he rn bg la hm (mgo (mtl sg rw rn bg la) sg 997))) = 31 * (mgn (mct sg rw rn bg la hm pm pr) j_91 (mgc pg pm (if sa_np sg then mgo (mtl sg rw rn bg la) sg 997 else msp sg rw he rn bg la hm (mgo (mtl sg rw rn bg la) sg 997)))) + ((mct sg rw rn bg la hm pm pr (nI j_91) : Int32).toInt64) := by simp only [mgn]
                      replace hP : va_P D vwCl (zM cI g pm rm rr st sg rn bg la ws pr t2 hm t3 t4 sn kp kr kb kl kw kh (mgn (mct sg rw rn bg la hm pm pr) (j_91 + 1) (mgc pg pm (if sa_np sg then mgo (mtl sg rw rn bg la) sg 997 else msp sg rw he rn bg la hm (mgo (mtl sg rw rn bg la) sg 997)))) pg rd rw t0 t1 he kro khe) H_101 := by rw [ew_hc]; exact hP
                      replace hD : va_D A (zM cI g pm rm rr st sg rn bg la ws pr t2 hm t3 t4 sn kp kr kb kl kw kh (mgn (mct sg rw rn bg la hm pm pr) (j_91 + 1) (mgc pg pm (if sa_np sg then mgo (mtl sg rw rn bg la) sg 997 else msp sg rw he rn bg la hm (mgo (mtl sg rw rn bg la) sg 997)))) pg rd rw t0 t1 he kro khe) := vz_same hD (zM_fst.trans zM_fst.symm)
                      exact ih_88 (j_91 + 1) _ _ (by omega) (by omega) hP hD hS ls (lv_sub hl [0, 1] rfl)
                have ew_hc : mgn (mct sg rw rn bg la hm pm pr) 0 (mgc pg pm (if sa_np sg then mgo (mtl sg rw rn bg la) sg 997 else msp sg rw he rn bg la hm (mgo (mtl sg rw rn bg la) sg 997))) = mgc pg j_66 (if sa_np sg then mgo (mtl sg rw rn bg la) sg 997 else msp sg rw he rn bg la hm (mgo (mtl sg rw rn bg la) sg 997)) := by rw [hje_66] ; simp only [mgn]
                replace hP : va_P D vwCl (zM cI g pm rm rr st sg rn bg la ws pr t2 hm t3 t4 sn kp kr kb kl kw kh (mgn (mct sg rw rn bg la hm pm pr) 0 (mgc pg pm (if sa_np sg then mgo (mtl sg rw rn bg la) sg 997 else msp sg rw he rn bg la hm (mgo (mtl sg rw rn bg la) sg 997)))) pg rd rw t0 t1 he kro khe) H_61 := by rw [ew_hc]; exact hP
                replace hD : va_D A (zM cI g pm rm rr st sg rn bg la ws pr t2 hm t3 t4 sn kp kr kb kl kw kh (mgn (mct sg rw rn bg la hm pm pr) 0 (mgc pg pm (if sa_np sg then mgo (mtl sg rw rn bg la) sg 997 else msp sg rw he rn bg la hm (mgo (mtl sg rw rn bg la) sg 997)))) pg rd rw t0 t1 he kro khe) := vz_same hD (zM_fst.trans zM_fst.symm)
                exact L_88 _ 0 _ _ (Nat.lt_succ_self _) (Nat.zero_le _) hP hD hS ls (lv_sub hl [0, 1] rfl)
              · skip
                have hlt_66 : j_66 < pm := vz_lt (n := pm) c_66 (by omega)
                refine lv_aload_n hx hb dX7_digest_69 rfl (lv_at hl 1 rfl) ?_
                refine lv_aload_n hx hb dX7_digest_70 rfl (lv_at hl 1 rfl) ?_
                refine va_get (D := D) (ci := 7) (v := .ref (g 1)) (C := RX7) (T := TX7) (N := 30) hx hb hts iX7 hown hK hP 0 rfl rfl 0 (by decide) k7 (fun _ h9 => h9) rfl dX7_digest_71 ?_
                refine lv_iload_n hx hb dX7_digest_74 rfl (lv_at hl 0 rfl) ?_
                refine va_iald hx hb hK hP 1 0 rfl rfl (i := nI j_66) (vp_in_nI (by first | assumption | omega) (by first | assumption | omega)) dX7_digest_75 ?_
                refine W.eq (congrArg (fun z => F0 m 76 ls (.int z :: [.ref (g 0)])) (vz_ix pg (by first | assumption | omega))) ?_
                refine lv_i2l (v := (pg j_66 : Int32).toInt64) hx hb dX7_digest_76 rfl ?_
                have hPc := hP
                have hDc := hD
                have hFc : ∀ q, va_A (zM cI g pm rm rr st sg rn bg la ws pr t2 hm t3 t4 sn kp kr kb kl kw kh (mgc pg j_66 (if sa_np sg then mgo (mtl sg rw rn bg la) sg 997 else msp sg rw he rn bg la hm (mgo (mtl sg rw rn bg la) sg 997))) pg rd rw t0 t1 he kro khe) H_61.size q → A q := vz_freeAll hD hS hA
                refine va_callv (va_runV (As := [.long ((pg j_66 : Int32).toInt64)]) (rest := []) ⟨hx, hb, hml, hown, hts⟩ (c_X7_say l D cI g pm rm rr st sg rn bg la ws pr t2 hm t3 t4 sn kp kr kb kl kw kh (mgc pg j_66 (if sa_np sg then mgo (mtl sg rw rn bg la) sg 997 else msp sg rw he rn bg la hm (mgo (mtl sg rw rn bg la) sg 997))) pg rd rw t0 t1 he kro khe H_61.size ((pg j_66 : Int32).toInt64)) (cwV 1 hts gX7_digest_X7_say rfl rfl rfl (by decide +kernel) ⟨Nat.le_of_ble_eq_true rfl, Nat.le_of_ble_eq_true rfl⟩) (vz_pvW (va_recv hK hP (ci := 7) (q0 := 0) rfl rfl) hZ hPc hDc) rfl rfl hl.1 rfl (lv_room (Nat.le_of_ble_eq_true rfl)) dX7_digest_77 ⟨Nat.zero_le _, Nat.zero_le _⟩) hS (fun q _ h => hFc q h) hFc (fun u_77 t H_77 locs_77 ht hvm hw hB hz1 hk1 hS9 => ?_)
                rw [ht] at hB
                replace hP : va_P D vwCl (zM cI g pm rm rr st sg rn bg la ws pr t2 hm t3 t4 sn kp kr kb kl kw kh (31 * (mgc pg j_66 (if sa_np sg then mgo (mtl sg rw rn bg la) sg 997 else msp sg rw he rn bg la hm (mgo (mtl sg rw rn bg la) sg 997))) + ((pg j_66 : Int32).toInt64)) pg rd rw t0 t1 he kro khe) H_77 := hB
                replace hD : va_D A (zM cI g pm rm rr st sg rn bg la ws pr t2 hm t3 t4 sn kp kr kb kl kw kh (31 * (mgc pg j_66 (if sa_np sg then mgo (mtl sg rw rn bg la) sg 997 else msp sg rw he rn bg la hm (mgo (mtl sg rw rn bg la) sg 997))) + ((pg j_66 : Int32).toInt64)) pg rd rw t0 t1 he kro khe) := vz_same hD (zM_fst.trans zM_fst.symm)
                replace hS := hS9
                clear hS9 hPc hDc hFc hB hk1 hz1
                refine lv_iinc (v := nI (j_66 + 1)) (lv' := [(1, .int (nI (j_66 + 1))), (0, .ref (g 0))]) hx hb dX7_digest_80 hl (k := 0) rfl (vz_inc _) (by decide) rfl (fun ls hl => ?_)
                refine lv_goto (tgt := 61) hx hb dX7_digest_83 (by decide) ?_
                have ew_hc : mgc pg (j_66 + 1) (if sa_np sg then mgo (mtl sg rw rn bg la) sg 997 else msp sg rw he rn bg la hm (mgo (mtl sg rw rn bg la) sg 997)) = 31 * (mgc pg j_66 (if sa_np sg then mgo (mtl sg rw rn bg la) sg 997 else msp sg rw he rn bg la hm (mgo (mtl sg rw rn bg la) sg 997))) + ((pg j_66 : Int32).toInt64) := by simp only [mgc]
                replace hP : va_P D vwCl (zM cI g pm rm rr st sg rn bg la ws pr t2 hm t3 t4 sn kp kr kb kl kw kh (mgc pg (j_66 + 1) (if sa_np sg then mgo (mtl sg rw rn bg la) sg 997 else msp sg rw he rn bg la hm (mgo (mtl sg rw rn bg la) sg 997))) pg rd rw t0 t1 he kro khe) H_77 := by rw [ew_hc]; exact hP
                replace hD : va_D A (zM cI g pm rm rr st sg rn bg la ws pr t2 hm t3 t4 sn kp kr kb kl kw kh (mgc pg (j_66 + 1) (if sa_np sg then mgo (mtl sg rw rn bg la) sg 997 else msp sg rw he rn bg la hm (mgo (mtl sg rw rn bg la) sg 997))) pg rd rw t0 t1 he kro khe) := vz_same hD (zM_fst.trans zM_fst.symm)
                exact ih_61 (j_66 + 1) t0 t1 t2 t3 t4 _ _ (by omega) (by omega) hP hD hS ls (lv_sub hl [0, 1] rfl)
          have ew_hc : mgc pg 0 (if sa_np sg then mgo (mtl sg rw rn bg la) sg 997 else msp sg rw he rn bg la hm (mgo (mtl sg rw rn bg la) sg 997)) = msp sg rw he rn bg la hm (mgo (mtl sg rw rn bg la) j_14 997) := by rw [hje_14] ; simp only [mgc, c_52, ↓reduceIte, Bool.false_eq_true]
          replace hP : va_P D vwCl (zM cI g pm rm rr st sg rn bg la ws pr u_56.2.2.1 hm u_56.2.2.2.1 u_56.2.2.2.2 sn kp kr kb kl kw kh (mgc pg 0 (if sa_np sg then mgo (mtl sg rw rn bg la) sg 997 else msp sg rw he rn bg la hm (mgo (mtl sg rw rn bg la) sg 997))) pg rd rw u_56.1 u_56.2.1 he kro khe) H_56 := by rw [ew_hc]; exact hP
          replace hD : va_D A (zM cI g pm rm rr st sg rn bg la ws pr u_56.2.2.1 hm u_56.2.2.2.1 u_56.2.2.2.2 sn kp kr kb kl kw kh (mgc pg 0 (if sa_np sg then mgo (mtl sg rw rn bg la) sg 997 else msp sg rw he rn bg la hm (mgo (mtl sg rw rn bg la) sg 997))) pg rd rw u_56.1 u_56.2.1 he kro khe) := vz_same hD (zM_fst.trans zM_fst.symm)
          exact L_61 _ 0 u_56.1 u_56.2.1 u_56.2.2.1 u_56.2.2.2.1 u_56.2.2.2.2 _ _ (Nat.lt_succ_self _) (Nat.zero_le _) hP hD hS ls (lv_sub hl [0, 1] rfl)
      · skip
        have hlt_14 : j_14 < sg := vz_lt (n := sg) c_14 (by omega)
        refine lv_iconst (v := 0) hx hb dX7_digest_17 (by decide) ?_
        refine lv_istore_n (lv' := [(2, .int 0), (1, .int (nI j_14)), (0, .ref (g 0))]) hx hb dX7_digest_18 rfl hl (by decide) rfl (fun ls hl => ?_)
        have L_19 : ∀ (d_19 : Nat) (j_22 : Nat) (H_19 : Heap) (locs_19 : List Loc), 10 - j_22 < d_19 → (j_22 ≤ 10) → va_P D vwCl (zM cI g pm rm rr st sg rn bg la ws pr ry hm xu xl sn kp kr kb kl kw kh (mgi (mtl sg rw rn bg la) j_14 j_22 (mgo (mtl sg rw rn bg la) j_14 997)) pg rd rw ro be he kro khe) H_19 → va_D A (zM cI g pm rm rr st sg rn bg la ws pr ry hm xu xl sn kp kr kb kl kw kh (mgi (mtl sg rw rn bg la) j_14 j_22 (mgo (mtl sg rw rn bg la) j_14 997)) pg rd rw ro be he kro khe) → va_S A s.heap H_19 locs_19 → ∀ (ls : Array Slot), lv_has ls 3 [(2, .int (nI j_22)), (1, .int (nI j_14)), (0, .ref (g 0))] → W p l e ({ frames := 8, cells := 0, slots := 0, locals := 194 } : Room) s m ([.ref (g 0)] : List Value).toArray below meth c H_19 locs_19 0 0 (MQ below (va_Ql (fun r (_ : (Nat → Int32) × (Nat → Int32) × Nat × Int64 × Int64 × Int64) => r = mdg sg rw he pg rn bg la hm pm pr) (fun (u : (Nat → Int32) × (Nat → Int32) × Nat × Int64 × Int64 × Int64) (t : State) => va_P D vwCl (zM cI g pm rm rr st sg rn bg la ws pr u.2.2.1 hm u.2.2.2.1 u.2.2.2.2.1 sn kp kr kb kl kw kh u.2.2.2.2.2 pg rd rw u.1 u.2.1 he kro khe) t.heap) A) ([.ref (g 0)] : List Value).toArray s 0 0 A) (F0 m 19 ls []) := by
          intro d_19
          induction d_19 with
          | zero => intro j_22 H_19 locs_19 hd; exact absurd hd (Nat.not_lt_zero _)
          | succ d_19 ih_19 =>
            intro j_22 H_19 locs_19 hd_19 hj_22 hP hD hS ls hl
            refine lv_iload_n hx hb dX7_digest_19 rfl (lv_at hl 0 rfl) ?_
            refine lv_bipush (v := 10) hx hb dX7_digest_20 (by decide) ?_
            refine lv_icmp_ge (tgt := 42) hx hb dX7_digest_22 (by decide) (fun c_22 => ?_) (fun c_22 => ?_)
            · skip
              have hje_22 : j_22 = 10 := Nat.le_antisymm hj_22 (vz_ge (n := 10) c_22 (by omega) (by omega))
              refine lv_iinc (v := nI (j_14 + 1)) (lv' := [(1, .int (nI (j_14 + 1))), (2, .int (nI j_22)), (0, .ref (g 0))]) hx hb dX7_digest_42 hl (k := 1) rfl (vz_inc _) (by decide) rfl (fun ls hl => ?_)
              refine lv_goto (tgt := 9) hx hb dX7_digest_45 (by decide) ?_
              have ew_hc : mgo (mtl sg rw rn bg la) (j_14 + 1) 997 = mgi (mtl sg rw rn bg la) j_14 j_22 (mgo (mtl sg rw rn bg la) j_14 997) := by rw [hje_22] ; simp only [mgo]
              replace hP : va_P D vwCl (zM cI g pm rm rr st sg rn bg la ws pr ry hm xu xl sn kp kr kb kl kw kh (mgo (mtl sg rw rn bg la) (j_14 + 1) 997) pg rd rw ro be he kro khe) H_19 := by rw [ew_hc]; exact hP
              replace hD : va_D A (zM cI g pm rm rr st sg rn bg la ws pr ry hm xu xl sn kp kr kb kl kw kh (mgo (mtl sg rw rn bg la) (j_14 + 1) 997) pg rd rw ro be he kro khe) := vz_same hD (zM_fst.trans zM_fst.symm)
              exact ih_9 (j_14 + 1) _ _ (by omega) (by omega) hP hD hS ls (lv_sub hl [0, 2] rfl)
            · skip
              have hlt_22 : j_22 < 10 := vz_lt (n := 10) c_22 (by omega)
              refine lv_aload_n hx hb dX7_digest_25 rfl (lv_at hl 2 rfl) ?_
              refine lv_aload_n hx hb dX7_digest_26 rfl (lv_at hl 2 rfl) ?_
              refine lv_iload_n hx hb dX7_digest_27 rfl (lv_at hl 1 rfl) ?_
              refine lv_iload_n hx hb dX7_digest_28 rfl (lv_at hl 0 rfl) ?_
              refine vp_callSi (W.runV (As := [.int (nI j_14), .int (nI j_22)]) (rest := [.ref (g 0)]) ⟨hx, hb, hml, hown, hts⟩ (c_X7_tell l D cI g pm rm rr st sg rn bg la ws pr ry hm xu xl sn kp kr kb kl kw kh (mgi (mtl sg rw rn bg la) j_14 j_22 (mgo (mtl sg rw rn bg la) j_14 997)) pg rd rw ro be he kro khe j_14 (nI j_22) (by first | assumption | omega) hlt_14 (by first | assumption | omega) ((hDD (sa_npl hlt_14)).1)) (cwV 2 hts gX7_digest_X7_tell rfl rfl rfl (by decide +kernel) ⟨Nat.le_of_ble_eq_true rfl, Nat.le_of_ble_eq_true rfl⟩) (vz_pvR (va_recv hK hP (ci := 7) (q0 := 0) rfl rfl) hZ hP) rfl rfl hl.1 rfl (lv_room (Nat.le_of_ble_eq_true rfl)) dX7_digest_29 ⟨Nat.zero_le _, Nat.zero_le _⟩) (fun r_29 hr_29 => ?_)
              subst hr_29
              refine lv_i2l (v := (mtl sg rw rn bg la j_14 (nI j_22) : Int32).toInt64) hx hb dX7_digest_32 rfl ?_
              have hPc := hP
              have hDc := hD
              have hFc : ∀ q, va_A (zM cI g pm rm rr st sg rn bg la ws pr ry hm xu xl sn kp kr kb kl kw kh (mgi (mtl sg rw rn bg la) j_14 j_22 (mgo (mtl sg rw rn bg la) j_14 997)) pg rd rw ro be he kro khe) H_19.size q → A q := vz_freeAll hD hS hA
              refine va_callv (va_runV (As := [.long ((mtl sg rw rn bg la j_14 (nI j_22) : Int32).toInt64)]) (rest := []) ⟨hx, hb, hml, hown, hts⟩ (c_X7_say l D cI g pm rm rr st sg rn bg la ws pr ry hm xu xl sn kp kr kb kl kw kh (mgi (mtl sg rw rn bg la) j_14 j_22 (mgo (mtl sg rw rn bg la) j_14 997)) pg rd rw ro be he kro khe H_19.size ((mtl sg rw rn bg la j_14 (nI j_22) : Int32).toInt64)) (cwV 1 hts gX7_digest_X7_say rfl rfl rfl (by decide +kernel) ⟨Nat.le_of_ble_eq_true rfl, Nat.le_of_ble_eq_true rfl⟩) (vz_pvW (va_recv hK hP (ci := 7) (q0 := 0) rfl rfl) hZ hPc hDc) rfl rfl hl.1 rfl (lv_room (Nat.le_of_ble_eq_true rfl)) dX7_digest_33 ⟨Nat.zero_le _, Nat.zero_le _⟩) hS (fun q _ h => hFc q h) hFc (fun u_33 t H_33 locs_33 ht hvm hw hB hz1 hk1 hS9 => ?_)
              rw [ht] at hB
              replace hP : va_P D vwCl (zM cI g pm rm rr st sg rn bg la ws pr ry hm xu xl sn kp kr kb kl kw kh (31 * (mgi (mtl sg rw rn bg la) j_14 j_22 (mgo (mtl sg rw rn bg la) j_14 997)) + ((mtl sg rw rn bg la j_14 (nI j_22) : Int32).toInt64)) pg rd rw ro be he kro khe) H_33 := hB
              replace hD : va_D A (zM cI g pm rm rr st sg rn bg la ws pr ry hm xu xl sn kp kr kb kl kw kh (31 * (mgi (mtl sg rw rn bg la) j_14 j_22 (mgo (mtl sg rw rn bg la) j_14 997)) + ((mtl sg rw rn bg la j_14 (nI j_22) : Int32).toInt64)) pg rd rw ro be he kro khe) := vz_same hD (zM_fst.trans zM_fst.symm)
              replace hS := hS9
              clear hS9 hPc hDc hFc hB hk1 hz1
              refine lv_iinc (v := nI (j_22 + 1)) (lv' := [(2, .int (nI (j_22 + 1))), (1, .int (nI j_14)), (0, .ref (g 0))]) hx hb dX7_digest_36 hl (k := 0) rfl (vz_inc _) (by decide) rfl (fun ls hl => ?_)
              refine lv_goto (tgt := 19) hx hb dX7_digest_39 (by decide) ?_
              have ew_hc : mgi (mtl sg rw rn bg la) j_14 (j_22 + 1) (mgo (mtl sg rw rn bg la) j_14 997) = 31 * (mgi (mtl sg rw rn bg la) j_14 j_22 (mgo (mtl sg rw rn bg la) j_14 997)) + ((mtl sg rw rn bg la j_14 (nI j_22) : Int32).toInt64) := by simp only [mgi]
              replace hP : va_P D vwCl (zM cI g pm rm rr st sg rn bg la ws pr ry hm xu xl sn kp kr kb kl kw kh (mgi (mtl sg rw rn bg la) j_14 (j_22 + 1) (mgo (mtl sg rw rn bg la) j_14 997)) pg rd rw ro be he kro khe) H_33 := by rw [ew_hc]; exact hP
              replace hD : va_D A (zM cI g pm rm rr st sg rn bg la ws pr ry hm xu xl sn kp kr kb kl kw kh (mgi (mtl sg rw rn bg la) j_14 (j_22 + 1) (mgo (mtl sg rw rn bg la) j_14 997)) pg rd rw ro be he kro khe) := vz_same hD (zM_fst.trans zM_fst.symm)
              exact ih_19 (j_22 + 1) _ _ (by omega) (by omega) hP hD hS ls (lv_sub hl [0, 1, 2] rfl)
        have ew_hc : mgi (mtl sg rw rn bg la) j_14 0 (mgo (mtl sg rw rn bg la) j_14 997) = mgo (mtl sg rw rn bg la) j_14 997 := by simp only [mgi]
        replace hP : va_P D vwCl (zM cI g pm rm rr st sg rn bg la ws pr ry hm xu xl sn kp kr kb kl kw kh (mgi (mtl sg rw rn bg la) j_14 0 (mgo (mtl sg rw rn bg la) j_14 997)) pg rd rw ro be he kro khe) H_9 := by rw [ew_hc]; exact hP
        replace hD : va_D A (zM cI g pm rm rr st sg rn bg la ws pr ry hm xu xl sn kp kr kb kl kw kh (mgi (mtl sg rw rn bg la) j_14 0 (mgo (mtl sg rw rn bg la) j_14 997)) pg rd rw ro be he kro khe) := vz_same hD (zM_fst.trans zM_fst.symm)
        exact L_19 _ 0 _ _ (Nat.lt_succ_self _) (Nat.zero_le _) hP hD hS ls (lv_sub hl [0, 1, 2] rfl)
  have ew_hc : mgo (mtl sg rw rn bg la) 0 997 = 997 := by simp only [mgo]
  replace hP : va_P D vwCl (zM cI g pm rm rr st sg rn bg la ws pr ry hm xu xl sn kp kr kb kl kw kh (mgo (mtl sg rw rn bg la) 0 997) pg rd rw ro be he kro khe) H_4 := by rw [ew_hc]; exact hP
  replace hD : va_D A (zM cI g pm rm rr st sg rn bg la ws pr ry hm xu xl sn kp kr kb kl kw kh (mgo (mtl sg rw rn bg la) 0 997) pg rd rw ro be he kro khe) := vz_same hD (zM_fst.trans zM_fst.symm)
  exact L_9 _ 0 _ _ (Nat.lt_succ_self _) (Nat.zero_le _) hP hD hS ls (lv_sub hl [0, 1] rfl)

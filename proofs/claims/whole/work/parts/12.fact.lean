theorem bk_hasN {j nm : Nat} (h : j < nm) (hm : nm ≤ 6) : bk_has nm (nI j) = true := by
  unfold bk_has
  rw [if_neg (show ¬ nI j < 0 from nI_nlt (a := j) (b := 0) (Nat.zero_le _) (by omega)), if_neg (fun q => absurd ((nI_leI (by omega) (by omega)).mp q) (by omega))]

set_option maxHeartbeats 4000000 in
set_option maxRecDepth 100000 in
theorem c_X6_songFact (l : Launch) (D : va_G) (cI : ClassId) (h : Nat → Nat) (len : Nat) (cd : Nat → Int32) (nm : Nat) (ks : Nat → Int32) (gs : Nat → Int32) (wt : Nat → Int32) (mi : Nat → Int32) (pl : Nat → Int32) (sk : Nat → Int32) (he : Nat → Int32) (nh : Nat) (ru : Int32) (bg : Int32) (la : Int32) (sd : Bool) (pl2 : Nat → Int32) (sk2 : Nat → Int32) (he2 : Nat → Int32) (nh2 : Nat) (ru2 : Int32) (bg2 : Int32) (la2 : Int32) (sd2 : Bool) (u0 : Int64) (l0 : Int64) (u1 : Int64) (l1 : Int64) (u2 : Int64) (l2 : Int64) (wy : Nat → Int32) (fi : Nat → Int32) (fl : Int32) (nu : Int32) (ik : Bool) (pr : Nat) (sz : Nat) (p0 : Int32) (p1 : Int32) (hnm : nm ≤ 6) (hch : ¬ fr_cd (sa_cx nm ks gs wt sk ru bg la p0) (sa_cy nm ks gs wt sk ru bg la) ≤ 0) : Met l yX6_songFact wsX6_songFact ({ frames := 5, cells := 0, slots := 0, locals := 114 } : Room) (vz_rw D cI (zSA cI h len cd nm ks gs wt mi pl sk he nh ru bg la sd pl2 sk2 he2 nh2 ru2 bg2 la2 sd2 u0 l0 u1 l1 u2 l2 wy fi fl nu ik pr) sz [.ref (h 0), .int p0, .int p1]) (va_Qi (fun r (_ : Int64 × Int64) => r = sa_fact nm ks gs wt sk mi pl ru bg la p0 p1) (fun (u : Int64 × Int64) (t : State) => va_P D vwCl (zSA cI h len cd nm ks gs wt mi pl sk he nh ru bg la sd pl2 sk2 he2 nh2 ru2 bg2 la2 sd2 u0 l0 u.1 u.2 u2 l2 wy fi fl nu ik pr) t.heap) (va_A (zSA cI h len cd nm ks gs wt mi pl sk he nh ru bg la sd pl2 sk2 he2 nh2 ru2 bg2 la2 sd2 u0 l0 u1 l1 u2 l2 wy fi fl nu ik pr) sz)) 0 0 (va_A (zSA cI h len cd nm ks gs wt mi pl sk he nh ru bg la sd pl2 sk2 he2 nh2 ru2 bg2 la2 sd2 u0 l0 u1 l1 u2 l2 wy fi fl nu ik pr) sz) := by
  refine Met.ofW (cc := cX6_songFact) (maxL := 3) (ret := (some .int)) (by decide) rfl ?_
  intro p e s m args below meth c s₁ B hml hv
  obtain ⟨rfl, hsz, hP, hZ, hD0⟩ := hv
  obtain ⟨hK, hN⟩ := id hZ
  have hx := B.exec
  have hb := B.bytes
  have hr := B.returns
  have hts := atoms_spec (ws := wsX6_songFact) B.pre
  have hown : s.vm.findClass RX6 = some m.cls := findClass_of_methodNamed B.named
  have hlocks := B.notSynchronized
  subst hsz
  have hD := hD0.self (sz := s.heap.size)
  generalize hAe : va_A (zSA cI h len cd nm ks gs wt mi pl sk he nh ru bg la sd pl2 sk2 he2 nh2 ru2 bg2 la2 sd2 u0 l0 u1 l1 u2 l2 wy fi fl nu ik pr) s.heap.size = A at hD ⊢
  have hA : ∀ q : Nat, s.heap.size ≤ q → A q := fun q h => by rw [← hAe]; exact Or.inr h
  have hS : va_S A s.heap s.heap [] := va_S.rf
  have k19 := hts (.fieldLink RX6 19 "SongsAgain" "book" "LSongsAgain$Book;") (List.mem_of_getElem? (i := 1) rfl)
  have k26 := hts (.fieldLink RX6 26 "SongsAgain" "now" "LSongsAgain$Past;") (List.mem_of_getElem? (i := 2) rfl)
  have k120 : (Cond.fieldLinkNest "SongsAgain" 120 "SongsAgain$Past" "bag" "I" "SongsAgain").before _ s = true := va_Nw.use (A := ([.ref (h 0), .int p0, .int p1] : List Value).toArray) rfl (hN.1 ("SongsAgain", 120, "SongsAgain$Past", "bag", "I") (List.mem_of_getElem? (i := 14) rfl))
  have k132 : (Cond.fieldLinkNest "SongsAgain" 132 "SongsAgain$Past" "played" "LSongsAgain$Row;" "SongsAgain").before _ s = true := va_Nw.use (A := ([.ref (h 0), .int p0, .int p1] : List Value).toArray) rfl (hN.1 ("SongsAgain", 132, "SongsAgain$Past", "played", "LSongsAgain$Row;") (List.mem_of_getElem? (i := 9) rfl))
  have k147 : (Cond.fieldLinkNest "SongsAgain" 147 "SongsAgain$Past" "skipped" "LSongsAgain$Row;" "SongsAgain").before _ s = true := va_Nw.use (A := ([.ref (h 0), .int p0, .int p1] : List Value).toArray) rfl (hN.1 ("SongsAgain", 147, "SongsAgain$Past", "skipped", "LSongsAgain$Row;") (List.mem_of_getElem? (i := 10) rfl))
  have k160 : (Cond.fieldLinkNest "SongsAgain" 160 "SongsAgain$Fraction" "above" "J" "SongsAgain").before _ s = true := va_Nw.use (A := ([.ref (h 0), .int p0, .int p1] : List Value).toArray) rfl (hN.1 ("SongsAgain", 160, "SongsAgain$Fraction", "above", "J") (List.mem_of_getElem? (i := 17) rfl))
  have k164 : (Cond.fieldLinkNest "SongsAgain" 164 "SongsAgain$Fraction" "below" "J" "SongsAgain").before _ s = true := va_Nw.use (A := ([.ref (h 0), .int p0, .int p1] : List Value).toArray) rfl (hN.1 ("SongsAgain", 164, "SongsAgain$Fraction", "below", "J") (List.mem_of_getElem? (i := 18) rfl))
  have k225 : (Cond.fieldLinkNest "SongsAgain" 225 "SongsAgain$Book" "kinds" "LSongsAgain$Row;" "SongsAgain").before _ s = true := va_Nw.use (A := ([.ref (h 0), .int p0, .int p1] : List Value).toArray) rfl (hN.1 ("SongsAgain", 225, "SongsAgain$Book", "kinds", "LSongsAgain$Row;") (List.mem_of_getElem? (i := 2) rfl))
  have k228 : (Cond.fieldLinkNest "SongsAgain" 228 "SongsAgain$Book" "singers" "LSongsAgain$Row;" "SongsAgain").before _ s = true := va_Nw.use (A := ([.ref (h 0), .int p0, .int p1] : List Value).toArray) rfl (hN.1 ("SongsAgain", 228, "SongsAgain$Book", "singers", "LSongsAgain$Row;") (List.mem_of_getElem? (i := 4) rfl))
  have k231 : (Cond.fieldLinkNest "SongsAgain" 231 "SongsAgain$Book" "minutes" "LSongsAgain$Row;" "SongsAgain").before _ s = true := va_Nw.use (A := ([.ref (h 0), .int p0, .int p1] : List Value).toArray) rfl (hN.1 ("SongsAgain", 231, "SongsAgain$Book", "minutes", "LSongsAgain$Row;") (List.mem_of_getElem? (i := 6) rfl))
  have iX0 : ∀ w ∈ u_ws RX0 TX0 5, w ∈ wsX6_songFact := vz_in (i := 85) (n := 5) rfl
  have iX1 : ∀ w ∈ u_ws RX1 TX1 2, w ∈ wsX6_songFact := vz_in (i := 98) (n := 2) rfl
  have iX4 : ∀ w ∈ u_ws RX4 TX4 8, w ∈ wsX6_songFact := vz_in (i := 90) (n := 8) rfl
  have iX6 : ∀ w ∈ u_ws RX6 TX6 10, w ∈ wsX6_songFact := vz_in (i := 75) (n := 10) rfl
  have hl := lv_entry ([.ref (h 0), .int p0, .int p1]) (n := 3) (Nat.le_of_ble_eq_true rfl)
  rw [lg_entry_eq]
  generalize (lg_sl ([.ref (h 0), .int p0, .int p1]) ++ List.replicate (3 - (lg_sl ([.ref (h 0), .int p0, .int p1])).length) Slot.unset).toArray = ls at hl ⊢
  have hl : lv_has ls 3 [(0, .ref (h 0)), (1, .int p0), (2, .int p1)] := hl
  have hP : va_P D vwCl (zSA cI h len cd nm ks gs wt mi pl sk he nh ru bg la sd pl2 sk2 he2 nh2 ru2 bg2 la2 sd2 u0 l0 u1 l1 u2 l2 wy fi fl nu ik pr) s.heap := hP
  refine lv_iload_n hx hb dX6_songFact_0 rfl (lv_at hl 2 rfl) ?_
  rcases vz_tab p1 (0) (8) with c_1 | c_1
  · skip
    refine lv_tableOut (tgt := 165) hx hb dX6_songFact_1 c_1 (by decide) ?_
    have n_0 : ¬ p1 = 0 := fun q => by rw [q] at c_1 ; revert c_1 ; decide
    have n_1 : ¬ p1 = 1 := fun q => by rw [q] at c_1 ; revert c_1 ; decide
    have n_2 : ¬ p1 = 2 := fun q => by rw [q] at c_1 ; revert c_1 ; decide
    have n_3 : ¬ p1 = 3 := fun q => by rw [q] at c_1 ; revert c_1 ; decide
    have n_4 : ¬ p1 = 4 := fun q => by rw [q] at c_1 ; revert c_1 ; decide
    have n_5 : ¬ p1 = 5 := fun q => by rw [q] at c_1 ; revert c_1 ; decide
    have n_6 : ¬ p1 = 6 := fun q => by rw [q] at c_1 ; revert c_1 ; decide
    have n_7 : ¬ p1 = 7 := fun q => by rw [q] at c_1 ; revert c_1 ; decide
    have n_8 : ¬ p1 = 8 := fun q => by rw [q] at c_1 ; revert c_1 ; decide
    refine lv_aload_n hx hb dX6_songFact_165 rfl (lv_at hl 0 rfl) ?_
    refine lv_iload_n hx hb dX6_songFact_166 rfl (lv_at hl 1 rfl) ?_
    have hPc := hP
    have hDc := hD
    have hFc : ∀ q, va_A (zSA cI h len cd nm ks gs wt mi pl sk he nh ru bg la sd pl2 sk2 he2 nh2 ru2 bg2 la2 sd2 u0 l0 u1 l1 u2 l2 wy fi fl nu ik pr) s.heap.size q → A q := vz_freeAll hD hS hA
    refine va_callr (va_runV (As := [.int p0]) (rest := []) ⟨hx, hb, hml, hown, hts⟩ (c_X6_chanceNow l D cI h len cd nm ks gs wt mi pl sk he nh ru bg la sd pl2 sk2 he2 nh2 ru2 bg2 la2 sd2 u0 l0 u1 l1 u2 l2 wy fi fl nu ik pr s.heap.size p0 (by first | assumption | omega)) (cwV 1 hts gX6_songFact_X6_chanceNow rfl rfl rfl (by decide +kernel) ⟨Nat.le_of_ble_eq_true rfl, Nat.le_of_ble_eq_true rfl⟩) (vz_pvW (va_recv hK hP (ci := 6) (q0 := 0) rfl rfl) hZ hPc hDc) rfl rfl hl.1 rfl (lv_room (Nat.le_of_ble_eq_true rfl)) dX6_songFact_167 ⟨Nat.zero_le _, Nat.zero_le _⟩) hS (fun q _ h => hFc q h) hFc (fun u_167 ra_167 t H_167 locs_167 ht hvm hw hB hz1 hk1 hS9 => ?_)
    obtain ⟨hra, hB⟩ := hB
    subst hra
    rw [ht] at hB
    replace hP : va_P D vwCl (zSA cI h len cd nm ks gs wt mi pl sk he nh ru bg la sd pl2 sk2 he2 nh2 ru2 bg2 la2 sd2 u0 l0 (sa_cu nm ks gs wt sk ru bg la p0 u1) (sa_cl nm ks gs wt sk ru bg la p0 l1) u2 l2 wy fi fl nu ik pr) H_167 := hB
    replace hD : va_D A (zSA cI h len cd nm ks gs wt mi pl sk he nh ru bg la sd pl2 sk2 he2 nh2 ru2 bg2 la2 sd2 u0 l0 (sa_cu nm ks gs wt sk ru bg la p0 u1) (sa_cl nm ks gs wt sk ru bg la p0 l1) u2 l2 wy fi fl nu ik pr) := vz_same hD rfl
    replace hS := hS9
    clear hS9 hPc hDc hFc hB hk1 hz1
    refine va_getN (D := D) (ci := 1) (v := .long (sa_cl nm ks gs wt sk ru bg la p0 l1)) (C := RX1) (T := TX1) (N := 2) hx hb hts iX1 hown hK hP 28 rfl rfl 1 (by decide) k164 (fun _ h9 => h9) rfl dX6_songFact_170 ?_
    refine lv_l2i (v := (sa_cl nm ks gs wt sk ru bg la p0 l1 : Int64).toInt32) hx hb dX6_songFact_173 rfl ?_
    exact W.iret hx hb hr (fun t ht hW => ⟨⟨_, (sa_cu nm ks gs wt sk ru bg la p0 u1, sa_cl nm ks gs wt sk ru bg la p0 l1), rfl, (by rw [sa_fact, if_neg n_0, if_neg n_1, if_neg n_2, if_neg n_3, if_neg n_4, if_neg n_5, if_neg n_6, if_neg n_7, if_neg n_8, sa_cl, fr_q, if_neg hch] ; rfl), (by show va_P D vwCl (zSA cI h len cd nm ks gs wt mi pl sk he nh ru bg la sd pl2 sk2 he2 nh2 ru2 bg2 la2 sd2 u0 l0 (sa_cu nm ks gs wt sk ru bg la p0 u1) (sa_cl nm ks gs wt sk ru bg la p0 l1) u2 l2 wy fi fl nu ik pr) t.heap; rw [ht]; exact hP)⟩, hS.F ht⟩) hS.2.2 dX6_songFact_174
  · skip
    obtain ⟨h1_1, h2_1⟩ := c_1
    rcases (show (p1 : Int32).toInt = 0 ∨ (p1 : Int32).toInt = 1 ∨ (p1 : Int32).toInt = 2 ∨ (p1 : Int32).toInt = 3 ∨ (p1 : Int32).toInt = 4 ∨ (p1 : Int32).toInt = 5 ∨ (p1 : Int32).toInt = 6 ∨ (p1 : Int32).toInt = 7 ∨ (p1 : Int32).toInt = 8 by omega) with c_1 | c_1 | c_1 | c_1 | c_1 | c_1 | c_1 | c_1 | c_1
    · skip
      refine lv_tableIn (tgt := 52) (off := 51) hx hb dX6_songFact_1 h1_1 h2_1 (by rw [c_1]; rfl) (by decide) ?_
      replace c_1 : p1 = 0 := vz_toI c_1 (by decide)
      refine lv_aload_n hx hb dX6_songFact_52 rfl (lv_at hl 0 rfl) ?_
      refine va_get (D := D) (ci := 6) (v := .ref (h 4)) (C := RX6) (T := TX6) (N := 10) hx hb hts iX6 hown hK hP 0 rfl rfl 1 (by decide) k19 (fun _ h9 => h9) rfl dX6_songFact_53 ?_
      refine va_getN (D := D) (ci := 0) (v := .ref (h 5)) (C := RX0) (T := TX0) (N := 5) hx hb hts iX0 hown hK hP 4 rfl rfl 0 (by decide) k225 (fun _ h9 => h9) rfl dX6_songFact_56 ?_
      refine lv_iload_n hx hb dX6_songFact_59 rfl (lv_at hl 1 rfl) ?_
      refine vp_callSi (W.runV (As := [.int p0]) (rest := []) ⟨hx, hb, hml, hown, hts⟩ (c_X5_at l D cI (h 5) (h 6) 6 ks p0 (by decide)) (cwV 1 hts gX6_songFact_X5_at rfl rfl rfl (by decide +kernel) ⟨Nat.le_of_ble_eq_true rfl, Nat.le_of_ble_eq_true rfl⟩) (vz_pvR (va_recv hK hP (ci := 5) (q0 := 5) rfl rfl) hZ (hP.sub (ws' := (zRow cI (h 5) (h 6) 6 ks)) [5, 6] rfl)) rfl rfl hl.1 rfl (lv_room (Nat.le_of_ble_eq_true rfl)) dX6_songFact_60 ⟨Nat.zero_le _, Nat.zero_le _⟩) (fun r_60 hr_60 => ?_)
      subst hr_60
      exact W.iret hx hb hr (fun t ht hW => ⟨⟨_, (u1, l1), rfl, (by subst c_1 ; rfl), (by show va_P D vwCl (zSA cI h len cd nm ks gs wt mi pl sk he nh ru bg la sd pl2 sk2 he2 nh2 ru2 bg2 la2 sd2 u0 l0 u1 l1 u2 l2 wy fi fl nu ik pr) t.heap; rw [ht]; exact hP)⟩, hS.F ht⟩) hS.2.2 dX6_songFact_63
    · skip
      refine lv_tableIn (tgt := 64) (off := 63) hx hb dX6_songFact_1 h1_1 h2_1 (by rw [c_1]; rfl) (by decide) ?_
      replace c_1 : p1 = 1 := vz_toI c_1 (by decide)
      refine lv_aload_n hx hb dX6_songFact_64 rfl (lv_at hl 0 rfl) ?_
      refine va_get (D := D) (ci := 6) (v := .ref (h 4)) (C := RX6) (T := TX6) (N := 10) hx hb hts iX6 hown hK hP 0 rfl rfl 1 (by decide) k19 (fun _ h9 => h9) rfl dX6_songFact_65 ?_
      refine va_getN (D := D) (ci := 0) (v := .ref (h 7)) (C := RX0) (T := TX0) (N := 5) hx hb hts iX0 hown hK hP 4 rfl rfl 1 (by decide) k228 (fun _ h9 => h9) rfl dX6_songFact_68 ?_
      refine lv_iload_n hx hb dX6_songFact_71 rfl (lv_at hl 1 rfl) ?_
      refine vp_callSi (W.runV (As := [.int p0]) (rest := []) ⟨hx, hb, hml, hown, hts⟩ (c_X5_at l D cI (h 7) (h 8) 6 gs p0 (by decide)) (cwV 1 hts gX6_songFact_X5_at rfl rfl rfl (by decide +kernel) ⟨Nat.le_of_ble_eq_true rfl, Nat.le_of_ble_eq_true rfl⟩) (vz_pvR (va_recv hK hP (ci := 5) (q0 := 7) rfl rfl) hZ (hP.sub (ws' := (zRow cI (h 7) (h 8) 6 gs)) [7, 8] rfl)) rfl rfl hl.1 rfl (lv_room (Nat.le_of_ble_eq_true rfl)) dX6_songFact_72 ⟨Nat.zero_le _, Nat.zero_le _⟩) (fun r_72 hr_72 => ?_)
      subst hr_72
      exact W.iret hx hb hr (fun t ht hW => ⟨⟨_, (u1, l1), rfl, (by subst c_1 ; rfl), (by show va_P D vwCl (zSA cI h len cd nm ks gs wt mi pl sk he nh ru bg la sd pl2 sk2 he2 nh2 ru2 bg2 la2 sd2 u0 l0 u1 l1 u2 l2 wy fi fl nu ik pr) t.heap; rw [ht]; exact hP)⟩, hS.F ht⟩) hS.2.2 dX6_songFact_75
    · skip
      refine lv_tableIn (tgt := 76) (off := 75) hx hb dX6_songFact_1 h1_1 h2_1 (by rw [c_1]; rfl) (by decide) ?_
      replace c_1 : p1 = 2 := vz_toI c_1 (by decide)
      refine lv_aload_n hx hb dX6_songFact_76 rfl (lv_at hl 0 rfl) ?_
      refine lv_iload_n hx hb dX6_songFact_77 rfl (lv_at hl 1 rfl) ?_
      refine vp_callSi (W.runV (As := [.int p0]) (rest := []) ⟨hx, hb, hml, hown, hts⟩ (c_X6_weight l D cI h len cd nm ks gs wt mi pl sk he nh ru bg la sd pl2 sk2 he2 nh2 ru2 bg2 la2 sd2 u0 l0 u1 l1 u2 l2 wy fi fl nu ik pr p0) (cwV 1 hts gX6_songFact_X6_weight rfl rfl rfl (by decide +kernel) ⟨Nat.le_of_ble_eq_true rfl, Nat.le_of_ble_eq_true rfl⟩) (vz_pvR (va_recv hK hP (ci := 6) (q0 := 0) rfl rfl) hZ hP) rfl rfl hl.1 rfl (lv_room (Nat.le_of_ble_eq_true rfl)) dX6_songFact_78 ⟨Nat.zero_le _, Nat.zero_le _⟩) (fun r_78 hr_78 => ?_)
      subst hr_78
      exact W.iret hx hb hr (fun t ht hW => ⟨⟨_, (u1, l1), rfl, (by subst c_1 ; rfl), (by show va_P D vwCl (zSA cI h len cd nm ks gs wt mi pl sk he nh ru bg la sd pl2 sk2 he2 nh2 ru2 bg2 la2 sd2 u0 l0 u1 l1 u2 l2 wy fi fl nu ik pr) t.heap; rw [ht]; exact hP)⟩, hS.F ht⟩) hS.2.2 dX6_songFact_81
    · skip
      refine lv_tableIn (tgt := 82) (off := 81) hx hb dX6_songFact_1 h1_1 h2_1 (by rw [c_1]; rfl) (by decide) ?_
      replace c_1 : p1 = 3 := vz_toI c_1 (by decide)
      refine lv_aload_n hx hb dX6_songFact_82 rfl (lv_at hl 0 rfl) ?_
      refine va_get (D := D) (ci := 6) (v := .ref (h 4)) (C := RX6) (T := TX6) (N := 10) hx hb hts iX6 hown hK hP 0 rfl rfl 1 (by decide) k19 (fun _ h9 => h9) rfl dX6_songFact_83 ?_
      refine va_getN (D := D) (ci := 0) (v := .ref (h 11)) (C := RX0) (T := TX0) (N := 5) hx hb hts iX0 hown hK hP 4 rfl rfl 3 (by decide) k231 (fun _ h9 => h9) rfl dX6_songFact_86 ?_
      refine lv_iload_n hx hb dX6_songFact_89 rfl (lv_at hl 1 rfl) ?_
      refine vp_callSi (W.runV (As := [.int p0]) (rest := []) ⟨hx, hb, hml, hown, hts⟩ (c_X5_at l D cI (h 11) (h 12) 6 mi p0 (by decide)) (cwV 1 hts gX6_songFact_X5_at rfl rfl rfl (by decide +kernel) ⟨Nat.le_of_ble_eq_true rfl, Nat.le_of_ble_eq_true rfl⟩) (vz_pvR (va_recv hK hP (ci := 5) (q0 := 11) rfl rfl) hZ (hP.sub (ws' := (zRow cI (h 11) (h 12) 6 mi)) [11, 12] rfl)) rfl rfl hl.1 rfl (lv_room (Nat.le_of_ble_eq_true rfl)) dX6_songFact_90 ⟨Nat.zero_le _, Nat.zero_le _⟩) (fun r_90 hr_90 => ?_)
      subst hr_90
      exact W.iret hx hb hr (fun t ht hW => ⟨⟨_, (u1, l1), rfl, (by subst c_1 ; rfl), (by show va_P D vwCl (zSA cI h len cd nm ks gs wt mi pl sk he nh ru bg la sd pl2 sk2 he2 nh2 ru2 bg2 la2 sd2 u0 l0 u1 l1 u2 l2 wy fi fl nu ik pr) t.heap; rw [ht]; exact hP)⟩, hS.F ht⟩) hS.2.2 dX6_songFact_93
    · skip
      refine lv_tableIn (tgt := 94) (off := 93) hx hb dX6_songFact_1 h1_1 h2_1 (by rw [c_1]; rfl) (by decide) ?_
      replace c_1 : p1 = 4 := vz_toI c_1 (by decide)
      refine lv_aload_n hx hb dX6_songFact_94 rfl (lv_at hl 0 rfl) ?_
      refine va_get (D := D) (ci := 6) (v := .ref (h 13)) (C := RX6) (T := TX6) (N := 10) hx hb hts iX6 hown hK hP 0 rfl rfl 2 (by decide) k26 (fun _ h9 => h9) rfl dX6_songFact_95 ?_
      refine va_getN (D := D) (ci := 4) (v := .ref (h 14)) (C := RX4) (T := TX4) (N := 8) hx hb hts iX4 hown hK hP 13 rfl rfl 0 (by decide) k132 (fun _ h9 => h9) rfl dX6_songFact_98 ?_
      refine lv_iload_n hx hb dX6_songFact_101 rfl (lv_at hl 1 rfl) ?_
      refine vp_callSi (W.runV (As := [.int p0]) (rest := []) ⟨hx, hb, hml, hown, hts⟩ (c_X5_at l D cI (h 14) (h 15) 6 pl p0 (by decide)) (cwV 1 hts gX6_songFact_X5_at rfl rfl rfl (by decide +kernel) ⟨Nat.le_of_ble_eq_true rfl, Nat.le_of_ble_eq_true rfl⟩) (vz_pvR (va_recv hK hP (ci := 5) (q0 := 14) rfl rfl) hZ (hP.sub (ws' := (zRow cI (h 14) (h 15) 6 pl)) [14, 15] rfl)) rfl rfl hl.1 rfl (lv_room (Nat.le_of_ble_eq_true rfl)) dX6_songFact_102 ⟨Nat.zero_le _, Nat.zero_le _⟩) (fun r_102 hr_102 => ?_)
      subst hr_102
      exact W.iret hx hb hr (fun t ht hW => ⟨⟨_, (u1, l1), rfl, (by subst c_1 ; rfl), (by show va_P D vwCl (zSA cI h len cd nm ks gs wt mi pl sk he nh ru bg la sd pl2 sk2 he2 nh2 ru2 bg2 la2 sd2 u0 l0 u1 l1 u2 l2 wy fi fl nu ik pr) t.heap; rw [ht]; exact hP)⟩, hS.F ht⟩) hS.2.2 dX6_songFact_105
    · skip
      refine lv_tableIn (tgt := 106) (off := 105) hx hb dX6_songFact_1 h1_1 h2_1 (by rw [c_1]; rfl) (by decide) ?_
      replace c_1 : p1 = 5 := vz_toI c_1 (by decide)
      refine lv_aload_n hx hb dX6_songFact_106 rfl (lv_at hl 0 rfl) ?_
      refine va_get (D := D) (ci := 6) (v := .ref (h 13)) (C := RX6) (T := TX6) (N := 10) hx hb hts iX6 hown hK hP 0 rfl rfl 2 (by decide) k26 (fun _ h9 => h9) rfl dX6_songFact_107 ?_
      refine va_getN (D := D) (ci := 4) (v := .ref (h 16)) (C := RX4) (T := TX4) (N := 8) hx hb hts iX4 hown hK hP 13 rfl rfl 1 (by decide) k147 (fun _ h9 => h9) rfl dX6_songFact_110 ?_
      refine lv_iload_n hx hb dX6_songFact_113 rfl (lv_at hl 1 rfl) ?_
      refine vp_callSi (W.runV (As := [.int p0]) (rest := []) ⟨hx, hb, hml, hown, hts⟩ (c_X5_at l D cI (h 16) (h 17) 6 sk p0 (by decide)) (cwV 1 hts gX6_songFact_X5_at rfl rfl rfl (by decide +kernel) ⟨Nat.le_of_ble_eq_true rfl, Nat.le_of_ble_eq_true rfl⟩) (vz_pvR (va_recv hK hP (ci := 5) (q0 := 16) rfl rfl) hZ (hP.sub (ws' := (zRow cI (h 16) (h 17) 6 sk)) [16, 17] rfl)) rfl rfl hl.1 rfl (lv_room (Nat.le_of_ble_eq_true rfl)) dX6_songFact_114 ⟨Nat.zero_le _, Nat.zero_le _⟩) (fun r_114 hr_114 => ?_)
      subst hr_114
      exact W.iret hx hb hr (fun t ht hW => ⟨⟨_, (u1, l1), rfl, (by subst c_1 ; rfl), (by show va_P D vwCl (zSA cI h len cd nm ks gs wt mi pl sk he nh ru bg la sd pl2 sk2 he2 nh2 ru2 bg2 la2 sd2 u0 l0 u1 l1 u2 l2 wy fi fl nu ik pr) t.heap; rw [ht]; exact hP)⟩, hS.F ht⟩) hS.2.2 dX6_songFact_117
    · skip
      refine lv_tableIn (tgt := 118) (off := 117) hx hb dX6_songFact_1 h1_1 h2_1 (by rw [c_1]; rfl) (by decide) ?_
      replace c_1 : p1 = 6 := vz_toI c_1 (by decide)
      refine lv_aload_n hx hb dX6_songFact_118 rfl (lv_at hl 0 rfl) ?_
      refine va_get (D := D) (ci := 6) (v := .ref (h 13)) (C := RX6) (T := TX6) (N := 10) hx hb hts iX6 hown hK hP 0 rfl rfl 2 (by decide) k26 (fun _ h9 => h9) rfl dX6_songFact_119 ?_
      refine va_getN (D := D) (ci := 4) (v := .int bg) (C := RX4) (T := TX4) (N := 8) hx hb hts iX4 hown hK hP 13 rfl rfl 5 (by decide) k120 (fun _ h9 => h9) rfl dX6_songFact_122 ?_
      refine lv_iload_n hx hb dX6_songFact_125 rfl (lv_at hl 1 rfl) ?_
      refine vp_callSi (W.runS (As := [.int bg, .int p0]) (rest := []) ⟨hx, hb, hml, hown, hts⟩ (c_X6_holds l bg p0) (va_cwS 2 hts gX6_songFact_X6_holds rfl rfl rfl (by decide +kernel) ⟨Nat.le_of_ble_eq_true rfl, Nat.le_of_ble_eq_true rfl⟩) (vz_psS) rfl rfl hl.1 rfl (lv_room (Nat.le_of_ble_eq_true rfl)) dX6_songFact_126 ⟨Nat.zero_le _, Nat.zero_le _⟩) (fun r_126 hr_126 => ?_)
      subst hr_126
      refine lv_if_eq (tgt := 136) hx hb dX6_songFact_129 (by decide) (fun c_129 => ?_) (fun c_129 => ?_)
      · skip
        replace c_129 := vz_b0 c_129
        refine lv_iconst (v := 0) hx hb dX6_songFact_136 (by decide) ?_
        exact W.iret hx hb hr (fun t ht hW => ⟨⟨_, (u1, l1), rfl, (by subst c_1 ; show _ = vz_b (sa_holds bg p0) ; rw [c_129] ; rfl), (by show va_P D vwCl (zSA cI h len cd nm ks gs wt mi pl sk he nh ru bg la sd pl2 sk2 he2 nh2 ru2 bg2 la2 sd2 u0 l0 u1 l1 u2 l2 wy fi fl nu ik pr) t.heap; rw [ht]; exact hP)⟩, hS.F ht⟩) hS.2.2 dX6_songFact_137
      · skip
        replace c_129 := vz_b1 c_129
        refine lv_iconst (v := 1) hx hb dX6_songFact_132 (by decide) ?_
        refine lv_goto (tgt := 137) hx hb dX6_songFact_133 (by decide) ?_
        exact W.iret hx hb hr (fun t ht hW => ⟨⟨_, (u1, l1), rfl, (by subst c_1 ; show _ = vz_b (sa_holds bg p0) ; rw [c_129] ; rfl), (by show va_P D vwCl (zSA cI h len cd nm ks gs wt mi pl sk he nh ru bg la sd pl2 sk2 he2 nh2 ru2 bg2 la2 sd2 u0 l0 u1 l1 u2 l2 wy fi fl nu ik pr) t.heap; rw [ht]; exact hP)⟩, hS.F ht⟩) hS.2.2 dX6_songFact_137
    · skip
      refine lv_tableIn (tgt := 138) (off := 137) hx hb dX6_songFact_1 h1_1 h2_1 (by rw [c_1]; rfl) (by decide) ?_
      replace c_1 : p1 = 7 := vz_toI c_1 (by decide)
      refine lv_aload_n hx hb dX6_songFact_138 rfl (lv_at hl 0 rfl) ?_
      refine vp_callSi (W.runV (As := []) (rest := []) ⟨hx, hb, hml, hown, hts⟩ (c_X6_mayNow l D cI h len cd nm ks gs wt mi pl sk he nh ru bg la sd pl2 sk2 he2 nh2 ru2 bg2 la2 sd2 u0 l0 u1 l1 u2 l2 wy fi fl nu ik pr (by first | assumption | omega)) (cwV 0 hts gX6_songFact_X6_mayNow rfl rfl rfl (by decide +kernel) ⟨Nat.le_of_ble_eq_true rfl, Nat.le_of_ble_eq_true rfl⟩) (vz_pvR (va_recv hK hP (ci := 6) (q0 := 0) rfl rfl) hZ hP) rfl rfl hl.1 rfl (lv_room (Nat.le_of_ble_eq_true rfl)) dX6_songFact_139 ⟨Nat.zero_le _, Nat.zero_le _⟩) (fun r_139 hr_139 => ?_)
      subst hr_139
      refine lv_iload_n hx hb dX6_songFact_142 rfl (lv_at hl 1 rfl) ?_
      refine vp_callSi (W.runS (As := [.int (bk_may nm ks gs ru bg la), .int p0]) (rest := []) ⟨hx, hb, hml, hown, hts⟩ (c_X6_holds l (bk_may nm ks gs ru bg la) p0) (va_cwS 2 hts gX6_songFact_X6_holds rfl rfl rfl (by decide +kernel) ⟨Nat.le_of_ble_eq_true rfl, Nat.le_of_ble_eq_true rfl⟩) (vz_psS) rfl rfl hl.1 rfl (lv_room (Nat.le_of_ble_eq_true rfl)) dX6_songFact_143 ⟨Nat.zero_le _, Nat.zero_le _⟩) (fun r_143 hr_143 => ?_)
      subst hr_143
      refine lv_if_eq (tgt := 153) hx hb dX6_songFact_146 (by decide) (fun c_146 => ?_) (fun c_146 => ?_)
      · skip
        replace c_146 := vz_b0 c_146
        refine lv_iconst (v := 0) hx hb dX6_songFact_153 (by decide) ?_
        exact W.iret hx hb hr (fun t ht hW => ⟨⟨_, (u1, l1), rfl, (by subst c_1 ; show _ = vz_b (sa_holds (bk_may nm ks gs ru bg la) p0) ; rw [c_146] ; rfl), (by show va_P D vwCl (zSA cI h len cd nm ks gs wt mi pl sk he nh ru bg la sd pl2 sk2 he2 nh2 ru2 bg2 la2 sd2 u0 l0 u1 l1 u2 l2 wy fi fl nu ik pr) t.heap; rw [ht]; exact hP)⟩, hS.F ht⟩) hS.2.2 dX6_songFact_154
      · skip
        replace c_146 := vz_b1 c_146
        refine lv_iconst (v := 1) hx hb dX6_songFact_149 (by decide) ?_
        refine lv_goto (tgt := 154) hx hb dX6_songFact_150 (by decide) ?_
        exact W.iret hx hb hr (fun t ht hW => ⟨⟨_, (u1, l1), rfl, (by subst c_1 ; show _ = vz_b (sa_holds (bk_may nm ks gs ru bg la) p0) ; rw [c_146] ; rfl), (by show va_P D vwCl (zSA cI h len cd nm ks gs wt mi pl sk he nh ru bg la sd pl2 sk2 he2 nh2 ru2 bg2 la2 sd2 u0 l0 u1 l1 u2 l2 wy fi fl nu ik pr) t.heap; rw [ht]; exact hP)⟩, hS.F ht⟩) hS.2.2 dX6_songFact_154
    · skip
      refine lv_tableIn (tgt := 155) (off := 154) hx hb dX6_songFact_1 h1_1 h2_1 (by rw [c_1]; rfl) (by decide) ?_
      replace c_1 : p1 = 8 := vz_toI c_1 (by decide)
      refine lv_aload_n hx hb dX6_songFact_155 rfl (lv_at hl 0 rfl) ?_
      refine lv_iload_n hx hb dX6_songFact_156 rfl (lv_at hl 1 rfl) ?_
      have hPc := hP
      have hDc := hD
      have hFc : ∀ q, va_A (zSA cI h len cd nm ks gs wt mi pl sk he nh ru bg la sd pl2 sk2 he2 nh2 ru2 bg2 la2 sd2 u0 l0 u1 l1 u2 l2 wy fi fl nu ik pr) s.heap.size q → A q := vz_freeAll hD hS hA
      refine va_callr (va_runV (As := [.int p0]) (rest := []) ⟨hx, hb, hml, hown, hts⟩ (c_X6_chanceNow l D cI h len cd nm ks gs wt mi pl sk he nh ru bg la sd pl2 sk2 he2 nh2 ru2 bg2 la2 sd2 u0 l0 u1 l1 u2 l2 wy fi fl nu ik pr s.heap.size p0 (by first | assumption | omega)) (cwV 1 hts gX6_songFact_X6_chanceNow rfl rfl rfl (by decide +kernel) ⟨Nat.le_of_ble_eq_true rfl, Nat.le_of_ble_eq_true rfl⟩) (vz_pvW (va_recv hK hP (ci := 6) (q0 := 0) rfl rfl) hZ hPc hDc) rfl rfl hl.1 rfl (lv_room (Nat.le_of_ble_eq_true rfl)) dX6_songFact_157 ⟨Nat.zero_le _, Nat.zero_le _⟩) hS (fun q _ h => hFc q h) hFc (fun u_157 ra_157 t H_157 locs_157 ht hvm hw hB hz1 hk1 hS9 => ?_)
      obtain ⟨hra, hB⟩ := hB
      subst hra
      rw [ht] at hB
      replace hP : va_P D vwCl (zSA cI h len cd nm ks gs wt mi pl sk he nh ru bg la sd pl2 sk2 he2 nh2 ru2 bg2 la2 sd2 u0 l0 (sa_cu nm ks gs wt sk ru bg la p0 u1) (sa_cl nm ks gs wt sk ru bg la p0 l1) u2 l2 wy fi fl nu ik pr) H_157 := hB
      replace hD : va_D A (zSA cI h len cd nm ks gs wt mi pl sk he nh ru bg la sd pl2 sk2 he2 nh2 ru2 bg2 la2 sd2 u0 l0 (sa_cu nm ks gs wt sk ru bg la p0 u1) (sa_cl nm ks gs wt sk ru bg la p0 l1) u2 l2 wy fi fl nu ik pr) := vz_same hD rfl
      replace hS := hS9
      clear hS9 hPc hDc hFc hB hk1 hz1
      refine va_getN (D := D) (ci := 1) (v := .long (sa_cu nm ks gs wt sk ru bg la p0 u1)) (C := RX1) (T := TX1) (N := 2) hx hb hts iX1 hown hK hP 28 rfl rfl 0 (by decide) k160 (fun _ h9 => h9) rfl dX6_songFact_160 ?_
      refine lv_l2i (v := (sa_cu nm ks gs wt sk ru bg la p0 u1 : Int64).toInt32) hx hb dX6_songFact_163 rfl ?_
      exact W.iret hx hb hr (fun t ht hW => ⟨⟨_, (sa_cu nm ks gs wt sk ru bg la p0 u1, sa_cl nm ks gs wt sk ru bg la p0 l1), rfl, (by subst c_1 ; rw [sa_cu, fr_q, if_neg hch] ; rfl), (by show va_P D vwCl (zSA cI h len cd nm ks gs wt mi pl sk he nh ru bg la sd pl2 sk2 he2 nh2 ru2 bg2 la2 sd2 u0 l0 (sa_cu nm ks gs wt sk ru bg la p0 u1) (sa_cl nm ks gs wt sk ru bg la p0 l1) u2 l2 wy fi fl nu ik pr) t.heap; rw [ht]; exact hP)⟩, hS.F ht⟩) hS.2.2 dX6_songFact_164
set_option maxHeartbeats 4000000 in
set_option maxRecDepth 100000 in
theorem c_X6_count (l : Launch) (D : va_G) (cI : ClassId) (h : Nat → Nat) (len : Nat) (cd : Nat → Int32) (nm : Nat) (ks : Nat → Int32) (gs : Nat → Int32) (wt : Nat → Int32) (mi : Nat → Int32) (pl : Nat → Int32) (sk : Nat → Int32) (he : Nat → Int32) (nh : Nat) (ru : Int32) (bg : Int32) (la : Int32) (sd : Bool) (pl2 : Nat → Int32) (sk2 : Nat → Int32) (he2 : Nat → Int32) (nh2 : Nat) (ru2 : Int32) (bg2 : Int32) (la2 : Int32) (sd2 : Bool) (u0 : Int64) (l0 : Int64) (u1 : Int64) (l1 : Int64) (u2 : Int64) (l2 : Int64) (wy : Nat → Int32) (fi : Nat → Int32) (fl : Int32) (nu : Int32) (ik : Bool) (pr : Nat) (p0 : Int32) (hnm : nm ≤ 6) : Met l yX6_count wsX6_count ({ frames := 4, cells := 0, slots := 0, locals := 91 } : Room) (vz_ro D cI (zSA cI h len cd nm ks gs wt mi pl sk he nh ru bg la sd pl2 sk2 he2 nh2 ru2 bg2 la2 sd2 u0 l0 u1 l1 u2 l2 wy fi fl nu ik pr) [.ref (h 0), .int p0]) (vp_Si (fun r => r = sa_count nm ks gs mi pl sk nh ru bg la len pr p0)) 0 0 (fun _ => False) := by
  refine Met.ofW (cc := cX6_count) (maxL := 2) (ret := (some .int)) (by decide) rfl ?_
  intro p e s m args below meth c s₁ B hml hv
  obtain ⟨rfl, hP, hZ⟩ := hv
  obtain ⟨hK, hN⟩ := id hZ
  have hx := B.exec
  have hb := B.bytes
  have hr := B.returns
  have hts := atoms_spec (ws := wsX6_count) B.pre
  have hown : s.vm.findClass RX6 = some m.cls := findClass_of_methodNamed B.named
  have hlocks := B.notSynchronized
  have k10 := hts (.fieldLink RX6 10 "SongsAgain" "page" "LSongsAgain$Page;") (List.mem_of_getElem? (i := 3) rfl)
  have k19 := hts (.fieldLink RX6 19 "SongsAgain" "book" "LSongsAgain$Book;") (List.mem_of_getElem? (i := 1) rfl)
  have k26 := hts (.fieldLink RX6 26 "SongsAgain" "now" "LSongsAgain$Past;") (List.mem_of_getElem? (i := 2) rfl)
  have k57 := hts (.fieldLink RX6 57 "SongsAgain" "playersRead" "I") (List.mem_of_getElem? (i := 4) rfl)
  have k61 : (Cond.fieldLinkNest "SongsAgain" 61 "SongsAgain$Page" "length" "I" "SongsAgain").before _ s = true := va_Nw.use (A := ([.ref (h 0), .int p0] : List Value).toArray) rfl (hN.1 ("SongsAgain", 61, "SongsAgain$Page", "length", "I") (List.mem_of_getElem? (i := 1) rfl))
  have k93 : (Cond.fieldLinkNest "SongsAgain" 93 "SongsAgain$Book" "number" "I" "SongsAgain").before _ s = true := va_Nw.use (A := ([.ref (h 0), .int p0] : List Value).toArray) rfl (hN.1 ("SongsAgain", 93, "SongsAgain$Book", "number", "I") (List.mem_of_getElem? (i := 8) rfl))
  have k111 : (Cond.fieldLinkNest "SongsAgain" 111 "SongsAgain$Past" "rule" "I" "SongsAgain").before _ s = true := va_Nw.use (A := ([.ref (h 0), .int p0] : List Value).toArray) rfl (hN.1 ("SongsAgain", 111, "SongsAgain$Past", "rule", "I") (List.mem_of_getElem? (i := 13) rfl))
  have k120 : (Cond.fieldLinkNest "SongsAgain" 120 "SongsAgain$Past" "bag" "I" "SongsAgain").before _ s = true := va_Nw.use (A := ([.ref (h 0), .int p0] : List Value).toArray) rfl (hN.1 ("SongsAgain", 120, "SongsAgain$Past", "bag", "I") (List.mem_of_getElem? (i := 14) rfl))
  have k126 : (Cond.fieldLinkNest "SongsAgain" 126 "SongsAgain$Past" "last" "I" "SongsAgain").before _ s = true := va_Nw.use (A := ([.ref (h 0), .int p0] : List Value).toArray) rfl (hN.1 ("SongsAgain", 126, "SongsAgain$Past", "last", "I") (List.mem_of_getElem? (i := 15) rfl))
  have k132 : (Cond.fieldLinkNest "SongsAgain" 132 "SongsAgain$Past" "played" "LSongsAgain$Row;" "SongsAgain").before _ s = true := va_Nw.use (A := ([.ref (h 0), .int p0] : List Value).toArray) rfl (hN.1 ("SongsAgain", 132, "SongsAgain$Past", "played", "LSongsAgain$Row;") (List.mem_of_getElem? (i := 9) rfl))
  have k147 : (Cond.fieldLinkNest "SongsAgain" 147 "SongsAgain$Past" "skipped" "LSongsAgain$Row;" "SongsAgain").before _ s = true := va_Nw.use (A := ([.ref (h 0), .int p0] : List Value).toArray) rfl (hN.1 ("SongsAgain", 147, "SongsAgain$Past", "skipped", "LSongsAgain$Row;") (List.mem_of_getElem? (i := 10) rfl))
  have k174 : (Cond.fieldLinkNest "SongsAgain" 174 "SongsAgain$Past" "heardLength" "I" "SongsAgain").before _ s = true := va_Nw.use (A := ([.ref (h 0), .int p0] : List Value).toArray) rfl (hN.1 ("SongsAgain", 174, "SongsAgain$Past", "heardLength", "I") (List.mem_of_getElem? (i := 12) rfl))
  have iX0 : ∀ w ∈ u_ws RX0 TX0 5, w ∈ wsX6_count := vz_in (i := 62) (n := 5) rfl
  have iX3 : ∀ w ∈ u_ws RX3 TX3 2, w ∈ wsX6_count := vz_in (i := 75) (n := 2) rfl
  have iX4 : ∀ w ∈ u_ws RX4 TX4 8, w ∈ wsX6_count := vz_in (i := 67) (n := 8) rfl
  have iX6 : ∀ w ∈ u_ws RX6 TX6 10, w ∈ wsX6_count := vz_in (i := 52) (n := 10) rfl
  have hl := lv_entry ([.ref (h 0), .int p0]) (n := 2) (Nat.le_of_ble_eq_true rfl)
  rw [lg_entry_eq]
  generalize (lg_sl ([.ref (h 0), .int p0]) ++ List.replicate (2 - (lg_sl ([.ref (h 0), .int p0])).length) Slot.unset).toArray = ls at hl ⊢
  have hl : lv_has ls 2 [(0, .ref (h 0)), (1, .int p0)] := hl
  refine lv_iload_n hx hb dX6_count_0 rfl (lv_at hl 1 rfl) ?_
  rcases vz_tab p0 (0) (11) with c_1 | c_1
  · skip
    refine lv_tableOut (tgt := 166) hx hb dX6_count_1 c_1 (by decide) ?_
    have n_0 : ¬ p0 = 0 := fun q => by rw [q] at c_1 ; revert c_1 ; decide
    have n_1 : ¬ p0 = 1 := fun q => by rw [q] at c_1 ; revert c_1 ; decide
    have n_2 : ¬ p0 = 2 := fun q => by rw [q] at c_1 ; revert c_1 ; decide
    have n_3 : ¬ p0 = 3 := fun q => by rw [q] at c_1 ; revert c_1 ; decide
    have n_4 : ¬ p0 = 4 := fun q => by rw [q] at c_1 ; revert c_1 ; decide
    have n_5 : ¬ p0 = 5 := fun q => by rw [q] at c_1 ; revert c_1 ; decide
    have n_6 : ¬ p0 = 6 := fun q => by rw [q] at c_1 ; revert c_1 ; decide
    have n_7 : ¬ p0 = 7 := fun q => by rw [q] at c_1 ; revert c_1 ; decide
    have n_8 : ¬ p0 = 8 := fun q => by rw [q] at c_1 ; revert c_1 ; decide
    have n_9 : ¬ p0 = 9 := fun q => by rw [q] at c_1 ; revert c_1 ; decide
    have n_10 : ¬ p0 = 10 := fun q => by rw [q] at c_1 ; revert c_1 ; decide
    have n_11 : ¬ p0 = 11 := fun q => by rw [q] at c_1 ; revert c_1 ; decide
    refine lv_bipush (v := (-102)) hx hb dX6_count_166 (by decide) ?_
    exact W.iret hx hb hr (fun t ht hW => ⟨_, rfl, (by rw [sa_count, if_neg n_0, if_neg n_1, if_neg n_2, if_neg n_3, if_neg n_4, if_neg n_5, if_neg n_6, if_neg n_7, if_neg n_8, if_neg n_9, if_neg n_10, if_neg n_11]), ht⟩) (fun q h => absurd h List.not_mem_nil) dX6_count_168
  · skip
    obtain ⟨h1_1, h2_1⟩ := c_1
    rcases (show (p0 : Int32).toInt = 0 ∨ (p0 : Int32).toInt = 1 ∨ (p0 : Int32).toInt = 2 ∨ (p0 : Int32).toInt = 3 ∨ (p0 : Int32).toInt = 4 ∨ (p0 : Int32).toInt = 5 ∨ (p0 : Int32).toInt = 6 ∨ (p0 : Int32).toInt = 7 ∨ (p0 : Int32).toInt = 8 ∨ (p0 : Int32).toInt = 9 ∨ (p0 : Int32).toInt = 10 ∨ (p0 : Int32).toInt = 11 by omega) with c_1 | c_1 | c_1 | c_1 | c_1 | c_1 | c_1 | c_1 | c_1 | c_1 | c_1 | c_1
    · skip
      refine lv_tableIn (tgt := 64) (off := 63) hx hb dX6_count_1 h1_1 h2_1 (by rw [c_1]; rfl) (by decide) ?_
      replace c_1 : p0 = 0 := vz_toI c_1 (by decide)
      refine lv_aload_n hx hb dX6_count_64 rfl (lv_at hl 0 rfl) ?_
      refine va_get (D := D) (ci := 6) (v := .ref (h 4)) (C := RX6) (T := TX6) (N := 10) hx hb hts iX6 hown hK hP 0 rfl rfl 1 (by decide) k19 (fun _ h9 => h9) rfl dX6_count_65 ?_
      refine va_getN (D := D) (ci := 0) (v := .int (nI nm)) (C := RX0) (T := TX0) (N := 5) hx hb hts iX0 hown hK hP 4 rfl rfl 4 (by decide) k93 (fun _ h9 => h9) rfl dX6_count_68 ?_
      exact W.iret hx hb hr (fun t ht hW => ⟨_, rfl, (by subst c_1 ; rfl), ht⟩) (fun q h => absurd h List.not_mem_nil) dX6_count_71
    · skip
      refine lv_tableIn (tgt := 72) (off := 71) hx hb dX6_count_1 h1_1 h2_1 (by rw [c_1]; rfl) (by decide) ?_
      replace c_1 : p0 = 1 := vz_toI c_1 (by decide)
      refine lv_aload_n hx hb dX6_count_72 rfl (lv_at hl 0 rfl) ?_
      refine va_get (D := D) (ci := 6) (v := .ref (h 13)) (C := RX6) (T := TX6) (N := 10) hx hb hts iX6 hown hK hP 0 rfl rfl 2 (by decide) k26 (fun _ h9 => h9) rfl dX6_count_73 ?_
      refine va_getN (D := D) (ci := 4) (v := .int ru) (C := RX4) (T := TX4) (N := 8) hx hb hts iX4 hown hK hP 13 rfl rfl 4 (by decide) k111 (fun _ h9 => h9) rfl dX6_count_76 ?_
      exact W.iret hx hb hr (fun t ht hW => ⟨_, rfl, (by subst c_1 ; rfl), ht⟩) (fun q h => absurd h List.not_mem_nil) dX6_count_79
    · skip
      refine lv_tableIn (tgt := 80) (off := 79) hx hb dX6_count_1 h1_1 h2_1 (by rw [c_1]; rfl) (by decide) ?_
      replace c_1 : p0 = 2 := vz_toI c_1 (by decide)
      refine lv_aload_n hx hb dX6_count_80 rfl (lv_at hl 0 rfl) ?_
      refine va_get (D := D) (ci := 6) (v := .ref (h 13)) (C := RX6) (T := TX6) (N := 10) hx hb hts iX6 hown hK hP 0 rfl rfl 2 (by decide) k26 (fun _ h9 => h9) rfl dX6_count_81 ?_
      refine va_getN (D := D) (ci := 4) (v := .ref (h 14)) (C := RX4) (T := TX4) (N := 8) hx hb hts iX4 hown hK hP 13 rfl rfl 0 (by decide) k132 (fun _ h9 => h9) rfl dX6_count_84 ?_
      refine vp_callSi (W.runV (As := []) (rest := []) ⟨hx, hb, hml, hown, hts⟩ (c_X5_sum l D cI (h 14) (h 15) 6 pl (by decide)) (cwV 0 hts gX6_count_X5_sum rfl rfl rfl (by decide +kernel) ⟨Nat.le_of_ble_eq_true rfl, Nat.le_of_ble_eq_true rfl⟩) (vz_pvR (va_recv hK hP (ci := 5) (q0 := 14) rfl rfl) hZ (hP.sub (ws' := (zRow cI (h 14) (h 15) 6 pl)) [14, 15] rfl)) rfl rfl hl.1 rfl (lv_room (Nat.le_of_ble_eq_true rfl)) dX6_count_87 ⟨Nat.zero_le _, Nat.zero_le _⟩) (fun r_87 hr_87 => ?_)
      subst hr_87
      exact W.iret hx hb hr (fun t ht hW => ⟨_, rfl, (by subst c_1 ; rfl), ht⟩) (fun q h => absurd h List.not_mem_nil) dX6_count_90
    · skip
      refine lv_tableIn (tgt := 91) (off := 90) hx hb dX6_count_1 h1_1 h2_1 (by rw [c_1]; rfl) (by decide) ?_
      replace c_1 : p0 = 3 := vz_toI c_1 (by decide)
      refine lv_aload_n hx hb dX6_count_91 rfl (lv_at hl 0 rfl) ?_
      refine va_get (D := D) (ci := 6) (v := .ref (h 13)) (C := RX6) (T := TX6) (N := 10) hx hb hts iX6 hown hK hP 0 rfl rfl 2 (by decide) k26 (fun _ h9 => h9) rfl dX6_count_92 ?_
      refine va_getN (D := D) (ci := 4) (v := .ref (h 16)) (C := RX4) (T := TX4) (N := 8) hx hb hts iX4 hown hK hP 13 rfl rfl 1 (by decide) k147 (fun _ h9 => h9) rfl dX6_count_95 ?_
      refine vp_callSi (W.runV (As := []) (rest := []) ⟨hx, hb, hml, hown, hts⟩ (c_X5_sum l D cI (h 16) (h 17) 6 sk (by decide)) (cwV 0 hts gX6_count_X5_sum rfl rfl rfl (by decide +kernel) ⟨Nat.le_of_ble_eq_true rfl, Nat.le_of_ble_eq_true rfl⟩) (vz_pvR (va_recv hK hP (ci := 5) (q0 := 16) rfl rfl) hZ (hP.sub (ws' := (zRow cI (h 16) (h 17) 6 sk)) [16, 17] rfl)) rfl rfl hl.1 rfl (lv_room (Nat.le_of_ble_eq_true rfl)) dX6_count_98 ⟨Nat.zero_le _, Nat.zero_le _⟩) (fun r_98 hr_98 => ?_)
      subst hr_98
      exact W.iret hx hb hr (fun t ht hW => ⟨_, rfl, (by subst c_1 ; rfl), ht⟩) (fun q h => absurd h List.not_mem_nil) dX6_count_101
    · skip
      refine lv_tableIn (tgt := 102) (off := 101) hx hb dX6_count_1 h1_1 h2_1 (by rw [c_1]; rfl) (by decide) ?_
      replace c_1 : p0 = 4 := vz_toI c_1 (by decide)
      refine lv_aload_n hx hb dX6_count_102 rfl (lv_at hl 0 rfl) ?_
      refine vp_callSi (W.runV (As := []) (rest := []) ⟨hx, hb, hml, hown, hts⟩ (c_X6_minutesPlayed l D cI h len cd nm ks gs wt mi pl sk he nh ru bg la sd pl2 sk2 he2 nh2 ru2 bg2 la2 sd2 u0 l0 u1 l1 u2 l2 wy fi fl nu ik pr (by first | assumption | omega)) (cwV 0 hts gX6_count_X6_minutesPlayed rfl rfl rfl (by decide +kernel) ⟨Nat.le_of_ble_eq_true rfl, Nat.le_of_ble_eq_true rfl⟩) (vz_pvR (va_recv hK hP (ci := 6) (q0 := 0) rfl rfl) hZ hP) rfl rfl hl.1 rfl (lv_room (Nat.le_of_ble_eq_true rfl)) dX6_count_103 ⟨Nat.zero_le _, Nat.zero_le _⟩) (fun r_103 hr_103 => ?_)
      subst hr_103
      exact W.iret hx hb hr (fun t ht hW => ⟨_, rfl, (by subst c_1 ; rfl), ht⟩) (fun q h => absurd h List.not_mem_nil) dX6_count_106
    · skip
      refine lv_tableIn (tgt := 107) (off := 106) hx hb dX6_count_1 h1_1 h2_1 (by rw [c_1]; rfl) (by decide) ?_
      replace c_1 : p0 = 5 := vz_toI c_1 (by decide)
      refine lv_aload_n hx hb dX6_count_107 rfl (lv_at hl 0 rfl) ?_
      refine va_get (D := D) (ci := 6) (v := .ref (h 13)) (C := RX6) (T := TX6) (N := 10) hx hb hts iX6 hown hK hP 0 rfl rfl 2 (by decide) k26 (fun _ h9 => h9) rfl dX6_count_108 ?_
      refine va_getN (D := D) (ci := 4) (v := .ref (h 14)) (C := RX4) (T := TX4) (N := 8) hx hb hts iX4 hown hK hP 13 rfl rfl 0 (by decide) k132 (fun _ h9 => h9) rfl dX6_count_111 ?_
      refine vp_callSi (W.runV (As := []) (rest := []) ⟨hx, hb, hml, hown, hts⟩ (c_X5_aboveNothing l D cI (h 14) (h 15) 6 pl (by decide)) (cwV 0 hts gX6_count_X5_aboveNothing rfl rfl rfl (by decide +kernel) ⟨Nat.le_of_ble_eq_true rfl, Nat.le_of_ble_eq_true rfl⟩) (vz_pvR (va_recv hK hP (ci := 5) (q0 := 14) rfl rfl) hZ (hP.sub (ws' := (zRow cI (h 14) (h 15) 6 pl)) [14, 15] rfl)) rfl rfl hl.1 rfl (lv_room (Nat.le_of_ble_eq_true rfl)) dX6_count_114 ⟨Nat.zero_le _, Nat.zero_le _⟩) (fun r_114 hr_114 => ?_)
      subst hr_114
      exact W.iret hx hb hr (fun t ht hW => ⟨_, rfl, (by subst c_1 ; rfl), ht⟩) (fun q h => absurd h List.not_mem_nil) dX6_count_117
    · skip
      refine lv_tableIn (tgt := 118) (off := 117) hx hb dX6_count_1 h1_1 h2_1 (by rw [c_1]; rfl) (by decide) ?_
      replace c_1 : p0 = 6 := vz_toI c_1 (by decide)
      refine lv_aload_n hx hb dX6_count_118 rfl (lv_at hl 0 rfl) ?_
      refine va_get (D := D) (ci := 6) (v := .ref (h 13)) (C := RX6) (T := TX6) (N := 10) hx hb hts iX6 hown hK hP 0 rfl rfl 2 (by decide) k26 (fun _ h9 => h9) rfl dX6_count_119 ?_
      refine va_getN (D := D) (ci := 4) (v := .int bg) (C := RX4) (T := TX4) (N := 8) hx hb hts iX4 hown hK hP 13 rfl rfl 5 (by decide) k120 (fun _ h9 => h9) rfl dX6_count_122 ?_
      refine vp_callSi (W.runS (As := [.int bg]) (rest := []) ⟨hx, hb, hml, hown, hts⟩ (c_J6_bitCount_0f7a4 l bg) (va_cwS 1 hts gX6_count_J6_bitCount_0f7a4 rfl rfl rfl (by decide +kernel) ⟨Nat.le_of_ble_eq_true rfl, Nat.le_of_ble_eq_true rfl⟩) (vz_psS) rfl rfl hl.1 rfl (lv_room (Nat.le_of_ble_eq_true rfl)) dX6_count_125 ⟨Nat.zero_le _, Nat.zero_le _⟩) (fun r_125 hr_125 => ?_)
      subst hr_125
      exact W.iret hx hb hr (fun t ht hW => ⟨_, rfl, (by subst c_1 ; rfl), ht⟩) (fun q h => absurd h List.not_mem_nil) dX6_count_128
    · skip
      refine lv_tableIn (tgt := 129) (off := 128) hx hb dX6_count_1 h1_1 h2_1 (by rw [c_1]; rfl) (by decide) ?_
      replace c_1 : p0 = 7 := vz_toI c_1 (by decide)
      refine lv_aload_n hx hb dX6_count_129 rfl (lv_at hl 0 rfl) ?_
      refine vp_callSi (W.runV (As := []) (rest := []) ⟨hx, hb, hml, hown, hts⟩ (c_X6_mayNow l D cI h len cd nm ks gs wt mi pl sk he nh ru bg la sd pl2 sk2 he2 nh2 ru2 bg2 la2 sd2 u0 l0 u1 l1 u2 l2 wy fi fl nu ik pr (by first | assumption | omega)) (cwV 0 hts gX6_count_X6_mayNow rfl rfl rfl (by decide +kernel) ⟨Nat.le_of_ble_eq_true rfl, Nat.le_of_ble_eq_true rfl⟩) (vz_pvR (va_recv hK hP (ci := 6) (q0 := 0) rfl rfl) hZ hP) rfl rfl hl.1 rfl (lv_room (Nat.le_of_ble_eq_true rfl)) dX6_count_130 ⟨Nat.zero_le _, Nat.zero_le _⟩) (fun r_130 hr_130 => ?_)
      subst hr_130
      refine vp_callSi (W.runS (As := [.int (bk_may nm ks gs ru bg la)]) (rest := []) ⟨hx, hb, hml, hown, hts⟩ (c_J6_bitCount_0f7a4 l (bk_may nm ks gs ru bg la)) (va_cwS 1 hts gX6_count_J6_bitCount_0f7a4 rfl rfl rfl (by decide +kernel) ⟨Nat.le_of_ble_eq_true rfl, Nat.le_of_ble_eq_true rfl⟩) (vz_psS) rfl rfl hl.1 rfl (lv_room (Nat.le_of_ble_eq_true rfl)) dX6_count_133 ⟨Nat.zero_le _, Nat.zero_le _⟩) (fun r_133 hr_133 => ?_)
      subst hr_133
      exact W.iret hx hb hr (fun t ht hW => ⟨_, rfl, (by subst c_1 ; rfl), ht⟩) (fun q h => absurd h List.not_mem_nil) dX6_count_136
    · skip
      refine lv_tableIn (tgt := 137) (off := 136) hx hb dX6_count_1 h1_1 h2_1 (by rw [c_1]; rfl) (by decide) ?_
      replace c_1 : p0 = 8 := vz_toI c_1 (by decide)
      refine lv_aload_n hx hb dX6_count_137 rfl (lv_at hl 0 rfl) ?_
      refine va_get (D := D) (ci := 6) (v := .ref (h 13)) (C := RX6) (T := TX6) (N := 10) hx hb hts iX6 hown hK hP 0 rfl rfl 2 (by decide) k26 (fun _ h9 => h9) rfl dX6_count_138 ?_
      refine va_getN (D := D) (ci := 4) (v := .int la) (C := RX4) (T := TX4) (N := 8) hx hb hts iX4 hown hK hP 13 rfl rfl 6 (by decide) k126 (fun _ h9 => h9) rfl dX6_count_141 ?_
      exact W.iret hx hb hr (fun t ht hW => ⟨_, rfl, (by subst c_1 ; rfl), ht⟩) (fun q h => absurd h List.not_mem_nil) dX6_count_144
    · skip
      refine lv_tableIn (tgt := 145) (off := 144) hx hb dX6_count_1 h1_1 h2_1 (by rw [c_1]; rfl) (by decide) ?_
      replace c_1 : p0 = 9 := vz_toI c_1 (by decide)
      refine lv_aload_n hx hb dX6_count_145 rfl (lv_at hl 0 rfl) ?_
      refine va_get (D := D) (ci := 6) (v := .ref (h 13)) (C := RX6) (T := TX6) (N := 10) hx hb hts iX6 hown hK hP 0 rfl rfl 2 (by decide) k26 (fun _ h9 => h9) rfl dX6_count_146 ?_
      refine va_getN (D := D) (ci := 4) (v := .int (nI nh)) (C := RX4) (T := TX4) (N := 8) hx hb hts iX4 hown hK hP 13 rfl rfl 3 (by decide) k174 (fun _ h9 => h9) rfl dX6_count_149 ?_
      exact W.iret hx hb hr (fun t ht hW => ⟨_, rfl, (by subst c_1 ; rfl), ht⟩) (fun q h => absurd h List.not_mem_nil) dX6_count_152
    · skip
      refine lv_tableIn (tgt := 153) (off := 152) hx hb dX6_count_1 h1_1 h2_1 (by rw [c_1]; rfl) (by decide) ?_
      replace c_1 : p0 = 10 := vz_toI c_1 (by decide)
      refine lv_aload_n hx hb dX6_count_153 rfl (lv_at hl 0 rfl) ?_
      refine va_get (D := D) (ci := 6) (v := .ref (h 1)) (C := RX6) (T := TX6) (N := 10) hx hb hts iX6 hown hK hP 0 rfl rfl 0 (by decide) k10 (fun _ h9 => h9) rfl dX6_count_154 ?_
      refine va_getN (D := D) (ci := 3) (v := .int (nI len)) (C := RX3) (T := TX3) (N := 2) hx hb hts iX3 hown hK hP 1 rfl rfl 1 (by decide) k61 (fun _ h9 => h9) rfl dX6_count_157 ?_
      exact W.iret hx hb hr (fun t ht hW => ⟨_, rfl, (by subst c_1 ; rfl), ht⟩) (fun q h => absurd h List.not_mem_nil) dX6_count_160
    · skip
      refine lv_tableIn (tgt := 161) (off := 160) hx hb dX6_count_1 h1_1 h2_1 (by rw [c_1]; rfl) (by decide) ?_
      replace c_1 : p0 = 11 := vz_toI c_1 (by decide)
      refine lv_aload_n hx hb dX6_count_161 rfl (lv_at hl 0 rfl) ?_
      refine va_get (D := D) (ci := 6) (v := .int (nI pr)) (C := RX6) (T := TX6) (N := 10) hx hb hts iX6 hown hK hP 0 rfl rfl 9 (by decide) k57 (fun _ h9 => h9) rfl dX6_count_162 ?_
      exact W.iret hx hb hr (fun t ht hW => ⟨_, rfl, (by subst c_1 ; rfl), ht⟩) (fun q h => absurd h List.not_mem_nil) dX6_count_165

/-! what the methods of SongsAgain answer, as functions -/
def sa_np (nm : Nat) : Bool := if nm = 0 then true else false
def wg (wt sk : Nat → Int32) (s : Int32) : Int32 := if 0 < rw_at 6 wt s - rw_at 6 sk s then rw_at 6 wt s - rw_at 6 sk s else 0
def sa_wt (wt sk : Nat → Int32) (b : Int32) : Nat → Int32
  | 0 => 0
  | j + 1 => sa_wt wt sk b j + (if sa_holds b (nI j) then wg wt sk (nI j) else 0)
def sa_sh (wt sk : Nat → Int32) (s b t : Int32) : Int32 := if sa_holds b s then (if t = 0 then 1 else wg wt sk s) else 0
def j_ush (x : Int32) (k : Int32) : Int32 := (x.toUInt32 >>> (k.toUInt32 &&& Int32.toUInt32 31)).toInt32
def j_b1 (x : Int32) : Int32 := x - (j_ush x 1 &&& 1431655765)
def j_b2 (x : Int32) : Int32 := (x &&& 858993459) + (j_ush x 2 &&& 858993459)
def j_b3 (x : Int32) : Int32 := (x + j_ush x 4) &&& 252645135
def j_b4 (x : Int32) : Int32 := x + j_ush x 8
def j_b5 (x : Int32) : Int32 := x + j_ush x 16
def j_bc (x : Int32) : Int32 := j_b5 (j_b4 (j_b3 (j_b2 (j_b1 x)))) &&& 63
def sa_all (b t : Int32) : Int32 := if t = 0 then j_bc b else t
def sa_seed (x : Int64) : Int64 := (1103515245 * x + 12345) &&& 2147483647
def sa_min (pl mi : Nat → Int32) : Nat → Int32
  | 0 => 0
  | j + 1 => sa_min pl mi j + rw_at 6 pl (nI j) * rw_at 6 mi (nI j)
def sa_am (nm : Nat) (ks gs : Nat → Int32) (ru bg la : Int32) : Int32 := bk_may nm ks gs ru bg la
def sa_at (nm : Nat) (ks gs wt sk : Nat → Int32) (ru bg la : Int32) : Int32 := sa_wt wt sk (sa_am nm ks gs ru bg la) nm
def sa_cx (nm : Nat) (ks gs wt sk : Nat → Int32) (ru bg la s : Int32) : Int64 := (sa_sh wt sk s (sa_am nm ks gs ru bg la) (sa_at nm ks gs wt sk ru bg la)).toInt64
def sa_cy (nm : Nat) (ks gs wt sk : Nat → Int32) (ru bg la : Int32) : Int64 := (sa_all (sa_am nm ks gs ru bg la) (sa_at nm ks gs wt sk ru bg la)).toInt64
def sa_cu (nm : Nat) (ks gs wt sk : Nat → Int32) (ru bg la s : Int32) (u : Int64) : Int64 := fr_q (fr_cd (sa_cx nm ks gs wt sk ru bg la s) (sa_cy nm ks gs wt sk ru bg la)) (sa_cx nm ks gs wt sk ru bg la s) u
def sa_cl (nm : Nat) (ks gs wt sk : Nat → Int32) (ru bg la s : Int32) (u : Int64) : Int64 := fr_q (fr_cd (sa_cx nm ks gs wt sk ru bg la s) (sa_cy nm ks gs wt sk ru bg la)) (sa_cy nm ks gs wt sk ru bg la) u

abbrev zSA (cI : ClassId) (h : Nat → Nat) (len : Nat) (cd : Nat → Int32) (nm : Nat) (ks : Nat → Int32) (gs : Nat → Int32) (wt : Nat → Int32) (mi : Nat → Int32) (pl : Nat → Int32) (sk : Nat → Int32) (he : Nat → Int32) (nh : Nat) (ru : Int32) (bg : Int32) (la : Int32) (sd : Bool) (pl2 : Nat → Int32) (sk2 : Nat → Int32) (he2 : Nat → Int32) (nh2 : Nat) (ru2 : Int32) (bg2 : Int32) (la2 : Int32) (sd2 : Bool) (u0 : Int64) (l0 : Int64) (u1 : Int64) (l1 : Int64) (u2 : Int64) (l2 : Int64) (wy : Nat → Int32) (fi : Nat → Int32) (fl : Int32) (nu : Int32) (ik : Bool) (pr : Nat) : va_W := [((h 0), .inr (6, [.ref (h 1), .ref (h 4), .ref (h 13), .ref (h 20), .ref (h 27), .ref (h 28), .ref (h 29), .ref (h 30), .int (vz_b ik), .int (nI pr)])), ((h 1), .inr (3, [.ref (h 2), .int (nI len)])), ((h 2), .inr (5, [.ref (h 3)])), ((h 3), .inl (cI, 22, .inl cd)), ((h 4), .inr (0, [.ref (h 5), .ref (h 7), .ref (h 9), .ref (h 11), .int (nI nm)])), ((h 5), .inr (5, [.ref (h 6)])), ((h 6), .inl (cI, 6, .inl ks)), ((h 7), .inr (5, [.ref (h 8)])), ((h 8), .inl (cI, 6, .inl gs)), ((h 9), .inr (5, [.ref (h 10)])), ((h 10), .inl (cI, 6, .inl wt)), ((h 11), .inr (5, [.ref (h 12)])), ((h 12), .inl (cI, 6, .inl mi)), ((h 13), .inr (4, [.ref (h 14), .ref (h 16), .ref (h 18), .int (nI nh), .int ru, .int bg, .int la, .int (vz_b sd)])), ((h 14), .inr (5, [.ref (h 15)])), ((h 15), .inl (cI, 6, .inl pl)), ((h 16), .inr (5, [.ref (h 17)])), ((h 17), .inl (cI, 6, .inl sk)), ((h 18), .inr (5, [.ref (h 19)])), ((h 19), .inl (cI, 8, .inl he)), ((h 20), .inr (4, [.ref (h 21), .ref (h 23), .ref (h 25), .int (nI nh2), .int ru2, .int bg2, .int la2, .int (vz_b sd2)])), ((h 21), .inr (5, [.ref (h 22)])), ((h 22), .inl (cI, 6, .inl pl2)), ((h 23), .inr (5, [.ref (h 24)])), ((h 24), .inl (cI, 6, .inl sk2)), ((h 25), .inr (5, [.ref (h 26)])), ((h 26), .inl (cI, 8, .inl he2)), ((h 27), .inr (1, [.long u0, .long l0])), ((h 28), .inr (1, [.long u1, .long l1])), ((h 29), .inr (1, [.long u2, .long l2])), ((h 30), .inr (2, [.ref (h 31), .ref (h 33), .int fl, .int nu])), ((h 31), .inr (5, [.ref (h 32)])), ((h 32), .inl (cI, 6, .inl wy)), ((h 33), .inr (5, [.ref (h 34)])), ((h 34), .inl (cI, 6, .inl fi))]
set_option maxHeartbeats 4000000 in
set_option maxRecDepth 100000 in
theorem c_X6_noPlayer (l : Launch) (D : va_G) (cI : ClassId) (h : Nat → Nat) (len : Nat) (cd : Nat → Int32) (nm : Nat) (ks : Nat → Int32) (gs : Nat → Int32) (wt : Nat → Int32) (mi : Nat → Int32) (pl : Nat → Int32) (sk : Nat → Int32) (he : Nat → Int32) (nh : Nat) (ru : Int32) (bg : Int32) (la : Int32) (sd : Bool) (pl2 : Nat → Int32) (sk2 : Nat → Int32) (he2 : Nat → Int32) (nh2 : Nat) (ru2 : Int32) (bg2 : Int32) (la2 : Int32) (sd2 : Bool) (u0 : Int64) (l0 : Int64) (u1 : Int64) (l1 : Int64) (u2 : Int64) (l2 : Int64) (wy : Nat → Int32) (fi : Nat → Int32) (fl : Int32) (nu : Int32) (ik : Bool) (pr : Nat) (hnm : nm ≤ 6) : Met l yX6_noPlayer wsX6_noPlayer ({ frames := 0, cells := 0, slots := 0, locals := 0 } : Room) (vz_ro D cI (zSA cI h len cd nm ks gs wt mi pl sk he nh ru bg la sd pl2 sk2 he2 nh2 ru2 bg2 la2 sd2 u0 l0 u1 l1 u2 l2 wy fi fl nu ik pr) [.ref (h 0)]) (vp_Si (fun r => r = vz_b (sa_np nm))) 0 0 (fun _ => False) := by
  refine Met.ofW (cc := cX6_noPlayer) (maxL := 1) (ret := (some .boolean)) (by decide) rfl ?_
  intro p e s m args below meth c s₁ B hml hv
  obtain ⟨rfl, hP, hZ⟩ := hv
  obtain ⟨hK, hN⟩ := id hZ
  have hx := B.exec
  have hb := B.bytes
  have hr := B.returns
  have hts := atoms_spec (ws := wsX6_noPlayer) B.pre
  have hown : s.vm.findClass RX6 = some m.cls := findClass_of_methodNamed B.named
  have hlocks := B.notSynchronized
  have k19 := hts (.fieldLink RX6 19 "SongsAgain" "book" "LSongsAgain$Book;") (List.mem_of_getElem? (i := 1) rfl)
  have k93 : (Cond.fieldLinkNest "SongsAgain" 93 "SongsAgain$Book" "number" "I" "SongsAgain").before _ s = true := va_Nw.use (A := ([.ref (h 0)] : List Value).toArray) rfl (hN.1 ("SongsAgain", 93, "SongsAgain$Book", "number", "I") (List.mem_of_getElem? (i := 8) rfl))
  have iX0 : ∀ w ∈ u_ws RX0 TX0 5, w ∈ wsX6_noPlayer := vz_in (i := 12) (n := 5) rfl
  have iX6 : ∀ w ∈ u_ws RX6 TX6 10, w ∈ wsX6_noPlayer := vz_in (i := 2) (n := 10) rfl
  have hl := lv_entry ([.ref (h 0)]) (n := 1) (Nat.le_of_ble_eq_true rfl)
  rw [lg_entry_eq]
  generalize (lg_sl ([.ref (h 0)]) ++ List.replicate (1 - (lg_sl ([.ref (h 0)])).length) Slot.unset).toArray = ls at hl ⊢
  have hl : lv_has ls 1 [(0, .ref (h 0))] := hl
  refine lv_aload_n hx hb dX6_noPlayer_0 rfl (lv_at hl 0 rfl) ?_
  refine va_get (D := D) (ci := 6) (v := .ref (h 4)) (C := RX6) (T := TX6) (N := 10) hx hb hts iX6 hown hK hP 0 rfl rfl 1 (by decide) k19 (fun _ h9 => h9) rfl dX6_noPlayer_1 ?_
  refine va_getN (D := D) (ci := 0) (v := .int (nI nm)) (C := RX0) (T := TX0) (N := 5) hx hb hts iX0 hown hK hP 4 rfl rfl 4 (by decide) k93 (fun _ h9 => h9) rfl dX6_noPlayer_4 ?_
  refine lv_if_ne (tgt := 14) hx hb dX6_noPlayer_7 (by decide) (fun c_7 => ?_) (fun c_7 => ?_)
  · skip
    replace c_7 : ¬ nm = 0 := fun q => c_7 (by rw [q] ; rfl)
    refine lv_iconst (v := 0) hx hb dX6_noPlayer_14 (by decide) ?_
    exact W.zret hx hb hr narrow_b0 (fun t ht hW => ⟨_, rfl, (by first | rfl | (simp only [sa_np, vz_b, if_neg c_7]; done) | (simp only [sa_np, vz_b, if_neg c_7]; rfl) | (simp only [sa_np, vz_b, c_7, ↓reduceIte, Bool.false_eq_true, if_true, if_false, reduceCtorEq, not_true_eq_false, not_false_eq_true, eq_self]; done) | (simp only [sa_np, vz_b, c_7, ↓reduceIte, Bool.false_eq_true, if_true, if_false, reduceCtorEq, not_true_eq_false, not_false_eq_true, eq_self]; rfl) | (simp [sa_np, vz_b, c_7]; done)), ht⟩) (fun q h => absurd h List.not_mem_nil) dX6_noPlayer_15
  · skip
    replace c_7 : nm = 0 := (nI_eq (by omega) (by omega)).mp c_7
    refine lv_iconst (v := 1) hx hb dX6_noPlayer_10 (by decide) ?_
    refine lv_goto (tgt := 15) hx hb dX6_noPlayer_11 (by decide) ?_
    exact W.zret hx hb hr narrow_b1 (fun t ht hW => ⟨_, rfl, (by first | rfl | (simp only [sa_np, vz_b, if_pos c_7]; done) | (simp only [sa_np, vz_b, if_pos c_7]; rfl) | (simp only [sa_np, vz_b, c_7, ↓reduceIte, Bool.false_eq_true, if_true, if_false, reduceCtorEq, not_true_eq_false, not_false_eq_true, eq_self]; done) | (simp only [sa_np, vz_b, c_7, ↓reduceIte, Bool.false_eq_true, if_true, if_false, reduceCtorEq, not_true_eq_false, not_false_eq_true, eq_self]; rfl) | (simp [sa_np, vz_b, c_7]; done)), ht⟩) (fun q h => absurd h List.not_mem_nil) dX6_noPlayer_15
set_option maxHeartbeats 4000000 in
set_option maxRecDepth 100000 in
theorem c_X6_mayNow (l : Launch) (D : va_G) (cI : ClassId) (h : Nat → Nat) (len : Nat) (cd : Nat → Int32) (nm : Nat) (ks : Nat → Int32) (gs : Nat → Int32) (wt : Nat → Int32) (mi : Nat → Int32) (pl : Nat → Int32) (sk : Nat → Int32) (he : Nat → Int32) (nh : Nat) (ru : Int32) (bg : Int32) (la : Int32) (sd : Bool) (pl2 : Nat → Int32) (sk2 : Nat → Int32) (he2 : Nat → Int32) (nh2 : Nat) (ru2 : Int32) (bg2 : Int32) (la2 : Int32) (sd2 : Bool) (u0 : Int64) (l0 : Int64) (u1 : Int64) (l1 : Int64) (u2 : Int64) (l2 : Int64) (wy : Nat → Int32) (fi : Nat → Int32) (fl : Int32) (nu : Int32) (ik : Bool) (pr : Nat) (hnm : nm ≤ 6) : Met l yX6_mayNow wsX6_mayNow ({ frames := 3, cells := 0, slots := 0, locals := 71 } : Room) (vz_ro D cI (zSA cI h len cd nm ks gs wt mi pl sk he nh ru bg la sd pl2 sk2 he2 nh2 ru2 bg2 la2 sd2 u0 l0 u1 l1 u2 l2 wy fi fl nu ik pr) [.ref (h 0)]) (vp_Si (fun r => r = bk_may nm ks gs ru bg la)) 0 0 (fun _ => False) := by
  refine Met.ofW (cc := cX6_mayNow) (maxL := 1) (ret := (some .int)) (by decide) rfl ?_
  intro p e s m args below meth c s₁ B hml hv
  obtain ⟨rfl, hP, hZ⟩ := hv
  obtain ⟨hK, hN⟩ := id hZ
  have hx := B.exec
  have hb := B.bytes
  have hr := B.returns
  have hts := atoms_spec (ws := wsX6_mayNow) B.pre
  have hown : s.vm.findClass RX6 = some m.cls := findClass_of_methodNamed B.named
  have hlocks := B.notSynchronized
  have k19 := hts (.fieldLink RX6 19 "SongsAgain" "book" "LSongsAgain$Book;") (List.mem_of_getElem? (i := 1) rfl)
  have k26 := hts (.fieldLink RX6 26 "SongsAgain" "now" "LSongsAgain$Past;") (List.mem_of_getElem? (i := 2) rfl)
  have k111 : (Cond.fieldLinkNest "SongsAgain" 111 "SongsAgain$Past" "rule" "I" "SongsAgain").before _ s = true := va_Nw.use (A := ([.ref (h 0)] : List Value).toArray) rfl (hN.1 ("SongsAgain", 111, "SongsAgain$Past", "rule", "I") (List.mem_of_getElem? (i := 13) rfl))
  have k120 : (Cond.fieldLinkNest "SongsAgain" 120 "SongsAgain$Past" "bag" "I" "SongsAgain").before _ s = true := va_Nw.use (A := ([.ref (h 0)] : List Value).toArray) rfl (hN.1 ("SongsAgain", 120, "SongsAgain$Past", "bag", "I") (List.mem_of_getElem? (i := 14) rfl))
  have k126 : (Cond.fieldLinkNest "SongsAgain" 126 "SongsAgain$Past" "last" "I" "SongsAgain").before _ s = true := va_Nw.use (A := ([.ref (h 0)] : List Value).toArray) rfl (hN.1 ("SongsAgain", 126, "SongsAgain$Past", "last", "I") (List.mem_of_getElem? (i := 15) rfl))
  have iX4 : ∀ w ∈ u_ws RX4 TX4 8, w ∈ wsX6_mayNow := vz_in (i := 35) (n := 8) rfl
  have iX6 : ∀ w ∈ u_ws RX6 TX6 10, w ∈ wsX6_mayNow := vz_in (i := 25) (n := 10) rfl
  have hl := lv_entry ([.ref (h 0)]) (n := 1) (Nat.le_of_ble_eq_true rfl)
  rw [lg_entry_eq]
  generalize (lg_sl ([.ref (h 0)]) ++ List.replicate (1 - (lg_sl ([.ref (h 0)])).length) Slot.unset).toArray = ls at hl ⊢
  have hl : lv_has ls 1 [(0, .ref (h 0))] := hl
  refine lv_aload_n hx hb dX6_mayNow_0 rfl (lv_at hl 0 rfl) ?_
  refine va_get (D := D) (ci := 6) (v := .ref (h 4)) (C := RX6) (T := TX6) (N := 10) hx hb hts iX6 hown hK hP 0 rfl rfl 1 (by decide) k19 (fun _ h9 => h9) rfl dX6_mayNow_1 ?_
  refine lv_aload_n hx hb dX6_mayNow_4 rfl (lv_at hl 0 rfl) ?_
  refine va_get (D := D) (ci := 6) (v := .ref (h 13)) (C := RX6) (T := TX6) (N := 10) hx hb hts iX6 hown hK hP 0 rfl rfl 2 (by decide) k26 (fun _ h9 => h9) rfl dX6_mayNow_5 ?_
  refine va_getN (D := D) (ci := 4) (v := .int ru) (C := RX4) (T := TX4) (N := 8) hx hb hts iX4 hown hK hP 13 rfl rfl 4 (by decide) k111 (fun _ h9 => h9) rfl dX6_mayNow_8 ?_
  refine lv_aload_n hx hb dX6_mayNow_11 rfl (lv_at hl 0 rfl) ?_
  refine va_get (D := D) (ci := 6) (v := .ref (h 13)) (C := RX6) (T := TX6) (N := 10) hx hb hts iX6 hown hK hP 0 rfl rfl 2 (by decide) k26 (fun _ h9 => h9) rfl dX6_mayNow_12 ?_
  refine va_getN (D := D) (ci := 4) (v := .int bg) (C := RX4) (T := TX4) (N := 8) hx hb hts iX4 hown hK hP 13 rfl rfl 5 (by decide) k120 (fun _ h9 => h9) rfl dX6_mayNow_15 ?_
  refine lv_aload_n hx hb dX6_mayNow_18 rfl (lv_at hl 0 rfl) ?_
  refine va_get (D := D) (ci := 6) (v := .ref (h 13)) (C := RX6) (T := TX6) (N := 10) hx hb hts iX6 hown hK hP 0 rfl rfl 2 (by decide) k26 (fun _ h9 => h9) rfl dX6_mayNow_19 ?_
  refine va_getN (D := D) (ci := 4) (v := .int la) (C := RX4) (T := TX4) (N := 8) hx hb hts iX4 hown hK hP 13 rfl rfl 6 (by decide) k126 (fun _ h9 => h9) rfl dX6_mayNow_22 ?_
  refine vp_callSi (W.runV (As := [.int ru, .int bg, .int la]) (rest := []) ⟨hx, hb, hml, hown, hts⟩ (c_X0_mayCome l D cI (fun i => h (4 + i)) nm ks gs wt mi ru bg la (by first | assumption | omega)) (cwV 3 hts gX6_mayNow_X0_mayCome rfl rfl rfl (by decide +kernel) ⟨Nat.le_of_ble_eq_true rfl, Nat.le_of_ble_eq_true rfl⟩) (vz_pvR (va_recv hK hP (ci := 0) (q0 := 4) rfl rfl) hZ (hP.sub (ws' := (zBook cI (fun i => h (4 + i)) nm ks gs wt mi)) [4, 5, 6, 7, 8, 9, 10, 11, 12] rfl)) rfl rfl hl.1 rfl (lv_room (Nat.le_of_ble_eq_true rfl)) dX6_mayNow_25 ⟨Nat.zero_le _, Nat.zero_le _⟩) (fun r_25 hr_25 => ?_)
  subst hr_25
  exact W.iret hx hb hr (fun t ht hW => ⟨_, rfl, (by first | rfl | (rfl; done) | (rfl; rfl) | (rfl; done) | (rfl; rfl) | (simp; done)), ht⟩) (fun q h => absurd h List.not_mem_nil) dX6_mayNow_28
set_option maxHeartbeats 4000000 in
set_option maxRecDepth 100000 in
theorem c_X6_weight (l : Launch) (D : va_G) (cI : ClassId) (h : Nat → Nat) (len : Nat) (cd : Nat → Int32) (nm : Nat) (ks : Nat → Int32) (gs : Nat → Int32) (wt : Nat → Int32) (mi : Nat → Int32) (pl : Nat → Int32) (sk : Nat → Int32) (he : Nat → Int32) (nh : Nat) (ru : Int32) (bg : Int32) (la : Int32) (sd : Bool) (pl2 : Nat → Int32) (sk2 : Nat → Int32) (he2 : Nat → Int32) (nh2 : Nat) (ru2 : Int32) (bg2 : Int32) (la2 : Int32) (sd2 : Bool) (u0 : Int64) (l0 : Int64) (u1 : Int64) (l1 : Int64) (u2 : Int64) (l2 : Int64) (wy : Nat → Int32) (fi : Nat → Int32) (fl : Int32) (nu : Int32) (ik : Bool) (pr : Nat) (p0 : Int32) : Met l yX6_weight wsX6_weight ({ frames := 1, cells := 0, slots := 0, locals := 40 } : Room) (vz_ro D cI (zSA cI h len cd nm ks gs wt mi pl sk he nh ru bg la sd pl2 sk2 he2 nh2 ru2 bg2 la2 sd2 u0 l0 u1 l1 u2 l2 wy fi fl nu ik pr) [.ref (h 0), .int p0]) (vp_Si (fun r => r = wg wt sk p0)) 0 0 (fun _ => False) := by
  refine Met.ofW (cc := cX6_weight) (maxL := 2) (ret := (some .int)) (by decide) rfl ?_
  intro p e s m args below meth c s₁ B hml hv
  obtain ⟨rfl, hP, hZ⟩ := hv
  obtain ⟨hK, hN⟩ := id hZ
  have hx := B.exec
  have hb := B.bytes
  have hr := B.returns
  have hts := atoms_spec (ws := wsX6_weight) B.pre
  have hown : s.vm.findClass RX6 = some m.cls := findClass_of_methodNamed B.named
  have hlocks := B.notSynchronized
  have k19 := hts (.fieldLink RX6 19 "SongsAgain" "book" "LSongsAgain$Book;") (List.mem_of_getElem? (i := 1) rfl)
  have k26 := hts (.fieldLink RX6 26 "SongsAgain" "now" "LSongsAgain$Past;") (List.mem_of_getElem? (i := 2) rfl)
  have k147 : (Cond.fieldLinkNest "SongsAgain" 147 "SongsAgain$Past" "skipped" "LSongsAgain$Row;" "SongsAgain").before _ s = true := va_Nw.use (A := ([.ref (h 0), .int p0] : List Value).toArray) rfl (hN.1 ("SongsAgain", 147, "SongsAgain$Past", "skipped", "LSongsAgain$Row;") (List.mem_of_getElem? (i := 10) rfl))
  have k250 : (Cond.fieldLinkNest "SongsAgain" 250 "SongsAgain$Book" "weights" "LSongsAgain$Row;" "SongsAgain").before _ s = true := va_Nw.use (A := ([.ref (h 0), .int p0] : List Value).toArray) rfl (hN.1 ("SongsAgain", 250, "SongsAgain$Book", "weights", "LSongsAgain$Row;") (List.mem_of_getElem? (i := 5) rfl))
  have iX0 : ∀ w ∈ u_ws RX0 TX0 5, w ∈ wsX6_weight := vz_in (i := 23) (n := 5) rfl
  have iX4 : ∀ w ∈ u_ws RX4 TX4 8, w ∈ wsX6_weight := vz_in (i := 28) (n := 8) rfl
  have iX6 : ∀ w ∈ u_ws RX6 TX6 10, w ∈ wsX6_weight := vz_in (i := 13) (n := 10) rfl
  have hl := lv_entry ([.ref (h 0), .int p0]) (n := 2) (Nat.le_of_ble_eq_true rfl)
  rw [lg_entry_eq]
  generalize (lg_sl ([.ref (h 0), .int p0]) ++ List.replicate (2 - (lg_sl ([.ref (h 0), .int p0])).length) Slot.unset).toArray = ls at hl ⊢
  have hl : lv_has ls 2 [(0, .ref (h 0)), (1, .int p0)] := hl
  refine lv_iconst (v := 0) hx hb dX6_weight_0 (by decide) ?_
  refine lv_aload_n hx hb dX6_weight_1 rfl (lv_at hl 0 rfl) ?_
  refine va_get (D := D) (ci := 6) (v := .ref (h 4)) (C := RX6) (T := TX6) (N := 10) hx hb hts iX6 hown hK hP 0 rfl rfl 1 (by decide) k19 (fun _ h9 => h9) rfl dX6_weight_2 ?_
  refine va_getN (D := D) (ci := 0) (v := .ref (h 9)) (C := RX0) (T := TX0) (N := 5) hx hb hts iX0 hown hK hP 4 rfl rfl 2 (by decide) k250 (fun _ h9 => h9) rfl dX6_weight_5 ?_
  refine lv_iload_n hx hb dX6_weight_8 rfl (lv_at hl 1 rfl) ?_
  refine vp_callSi (W.runV (As := [.int p0]) (rest := [.int 0]) ⟨hx, hb, hml, hown, hts⟩ (c_X5_at l D cI (h 9) (h 10) 6 wt p0 (by decide)) (cwV 1 hts gX6_weight_X5_at rfl rfl rfl (by decide +kernel) ⟨Nat.le_of_ble_eq_true rfl, Nat.le_of_ble_eq_true rfl⟩) (vz_pvR (va_recv hK hP (ci := 5) (q0 := 9) rfl rfl) hZ (hP.sub (ws' := (zRow cI (h 9) (h 10) 6 wt)) [9, 10] rfl)) rfl rfl hl.1 rfl (lv_room (Nat.le_of_ble_eq_true rfl)) dX6_weight_9 ⟨Nat.zero_le _, Nat.zero_le _⟩) (fun r_9 hr_9 => ?_)
  subst hr_9
  refine lv_aload_n hx hb dX6_weight_12 rfl (lv_at hl 0 rfl) ?_
  refine va_get (D := D) (ci := 6) (v := .ref (h 13)) (C := RX6) (T := TX6) (N := 10) hx hb hts iX6 hown hK hP 0 rfl rfl 2 (by decide) k26 (fun _ h9 => h9) rfl dX6_weight_13 ?_
  refine va_getN (D := D) (ci := 4) (v := .ref (h 16)) (C := RX4) (T := TX4) (N := 8) hx hb hts iX4 hown hK hP 13 rfl rfl 1 (by decide) k147 (fun _ h9 => h9) rfl dX6_weight_16 ?_
  refine lv_iload_n hx hb dX6_weight_19 rfl (lv_at hl 1 rfl) ?_
  refine vp_callSi (W.runV (As := [.int p0]) (rest := [.int (rw_at 6 wt p0), .int 0]) ⟨hx, hb, hml, hown, hts⟩ (c_X5_at l D cI (h 16) (h 17) 6 sk p0 (by decide)) (cwV 1 hts gX6_weight_X5_at rfl rfl rfl (by decide +kernel) ⟨Nat.le_of_ble_eq_true rfl, Nat.le_of_ble_eq_true rfl⟩) (vz_pvR (va_recv hK hP (ci := 5) (q0 := 16) rfl rfl) hZ (hP.sub (ws' := (zRow cI (h 16) (h 17) 6 sk)) [16, 17] rfl)) rfl rfl hl.1 rfl (lv_room (Nat.le_of_ble_eq_true rfl)) dX6_weight_20 ⟨Nat.zero_le _, Nat.zero_le _⟩) (fun r_20 hr_20 => ?_)
  subst hr_20
  refine lv_isub hx hb dX6_weight_23 ?_
  refine va_mmax hx hb (by rw [hml]; exact hl.1.symm) hown (hts (.methodLink RX6 253 Lib.Math.max.name) (List.mem_of_getElem? (i := 3) rfl)) (hts (.static Lib.Math.max.name) (List.mem_of_getElem? (i := 4) rfl)) (hts (.initialized "java/lang/Math") (List.mem_of_getElem? (i := 5) rfl)) (hts (.code Lib.Math.max.name Lib.Math.max.code 2 (some .int)) (List.mem_of_getElem? (i := 6) rfl)) (Nat.le_of_ble_eq_true rfl) (Nat.le_of_ble_eq_true rfl) (Nat.zero_le _) (Nat.zero_le _) dX6_weight_24 ?_
  exact W.iret hx hb hr (fun t ht hW => ⟨_, rfl, (by first | rfl | (simp only [wg]; done) | (simp only [wg]; rfl) | (simp only [wg, ↓reduceIte, Bool.false_eq_true, if_true, if_false, reduceCtorEq, not_true_eq_false, not_false_eq_true, eq_self]; done) | (simp only [wg, ↓reduceIte, Bool.false_eq_true, if_true, if_false, reduceCtorEq, not_true_eq_false, not_false_eq_true, eq_self]; rfl) | (simp [wg]; done)), ht⟩) (fun q h => absurd h List.not_mem_nil) dX6_weight_27
set_option maxHeartbeats 4000000 in
set_option maxRecDepth 100000 in
theorem c_X6_weightTogether (l : Launch) (D : va_G) (cI : ClassId) (h : Nat → Nat) (len : Nat) (cd : Nat → Int32) (nm : Nat) (ks : Nat → Int32) (gs : Nat → Int32) (wt : Nat → Int32) (mi : Nat → Int32) (pl : Nat → Int32) (sk : Nat → Int32) (he : Nat → Int32) (nh : Nat) (ru : Int32) (bg : Int32) (la : Int32) (sd : Bool) (pl2 : Nat → Int32) (sk2 : Nat → Int32) (he2 : Nat → Int32) (nh2 : Nat) (ru2 : Int32) (bg2 : Int32) (la2 : Int32) (sd2 : Bool) (u0 : Int64) (l0 : Int64) (u1 : Int64) (l1 : Int64) (u2 : Int64) (l2 : Int64) (wy : Nat → Int32) (fi : Nat → Int32) (fl : Int32) (nu : Int32) (ik : Bool) (pr : Nat) (p0 : Int32) (hnm : nm ≤ 6) : Met l yX6_weightTogether wsX6_weightTogether ({ frames := 2, cells := 0, slots := 0, locals := 61 } : Room) (vz_ro D cI (zSA cI h len cd nm ks gs wt mi pl sk he nh ru bg la sd pl2 sk2 he2 nh2 ru2 bg2 la2 sd2 u0 l0 u1 l1 u2 l2 wy fi fl nu ik pr) [.ref (h 0), .int p0]) (vp_Si (fun r => r = sa_wt wt sk p0 nm)) 0 0 (fun _ => False) := by
  refine Met.ofW (cc := cX6_weightTogether) (maxL := 4) (ret := (some .int)) (by decide) rfl ?_
  intro p e s m args below meth c s₁ B hml hv
  obtain ⟨rfl, hP, hZ⟩ := hv
  obtain ⟨hK, hN⟩ := id hZ
  have hx := B.exec
  have hb := B.bytes
  have hr := B.returns
  have hts := atoms_spec (ws := wsX6_weightTogether) B.pre
  have hown : s.vm.findClass RX6 = some m.cls := findClass_of_methodNamed B.named
  have hlocks := B.notSynchronized
  have k19 := hts (.fieldLink RX6 19 "SongsAgain" "book" "LSongsAgain$Book;") (List.mem_of_getElem? (i := 1) rfl)
  have k93 : (Cond.fieldLinkNest "SongsAgain" 93 "SongsAgain$Book" "number" "I" "SongsAgain").before _ s = true := va_Nw.use (A := ([.ref (h 0), .int p0] : List Value).toArray) rfl (hN.1 ("SongsAgain", 93, "SongsAgain$Book", "number", "I") (List.mem_of_getElem? (i := 8) rfl))
  have iX0 : ∀ w ∈ u_ws RX0 TX0 5, w ∈ wsX6_weightTogether := vz_in (i := 31) (n := 5) rfl
  have iX6 : ∀ w ∈ u_ws RX6 TX6 10, w ∈ wsX6_weightTogether := vz_in (i := 21) (n := 10) rfl
  have hl := lv_entry ([.ref (h 0), .int p0]) (n := 4) (Nat.le_of_ble_eq_true rfl)
  rw [lg_entry_eq]
  generalize (lg_sl ([.ref (h 0), .int p0]) ++ List.replicate (4 - (lg_sl ([.ref (h 0), .int p0])).length) Slot.unset).toArray = ls at hl ⊢
  have hl : lv_has ls 4 [(0, .ref (h 0)), (1, .int p0)] := hl
  refine lv_iconst (v := 0) hx hb dX6_weightTogether_0 (by decide) ?_
  refine lv_istore_n (lv' := [(2, .int 0), (0, .ref (h 0)), (1, .int p0)]) hx hb dX6_weightTogether_1 rfl hl (by decide) rfl (fun ls hl => ?_)
  refine lv_iconst (v := 0) hx hb dX6_weightTogether_2 (by decide) ?_
  refine lv_istore_n (lv' := [(3, .int 0), (2, .int 0), (0, .ref (h 0)), (1, .int p0)]) hx hb dX6_weightTogether_3 rfl hl (by decide) rfl (fun ls hl => ?_)
  have L_4 : ∀ (d_4 : Nat) (j : Nat) (acc : Int32), nm - j < d_4 → (j ≤ nm) → (acc = sa_wt wt sk p0 j) → ∀ (ls : Array Slot), lv_has ls 4 [(3, .int (nI j)), (2, .int acc), (0, .ref (h 0)), (1, .int p0)] → W p l e ({ frames := 2, cells := 0, slots := 0, locals := 61 } : Room) s m ([.ref (h 0), .int p0] : List Value).toArray below meth c s.heap [] 0 0 (MQ below (vp_Si (fun r => r = sa_wt wt sk p0 nm)) ([.ref (h 0), .int p0] : List Value).toArray s 0 0 (fun _ => False)) (F0 m 4 ls []) := by
    intro d_4
    induction d_4 with
    | zero => intro j acc hd; exact absurd hd (Nat.not_lt_zero _)
    | succ d_4 ih_4 =>
      intro j acc hd_4 hj hacc ls hl
      refine lv_iload_n hx hb dX6_weightTogether_4 rfl (lv_at hl 0 rfl) ?_
      refine lv_aload_n hx hb dX6_weightTogether_5 rfl (lv_at hl 2 rfl) ?_
      refine va_get (D := D) (ci := 6) (v := .ref (h 4)) (C := RX6) (T := TX6) (N := 10) hx hb hts iX6 hown hK hP 0 rfl rfl 1 (by decide) k19 (fun _ h9 => h9) rfl dX6_weightTogether_6 ?_
      refine va_getN (D := D) (ci := 0) (v := .int (nI nm)) (C := RX0) (T := TX0) (N := 5) hx hb hts iX0 hown hK hP 4 rfl rfl 4 (by decide) k93 (fun _ h9 => h9) rfl dX6_weightTogether_9 ?_
      refine lv_icmp_ge (tgt := 41) hx hb dX6_weightTogether_12 (by decide) (fun c_12 => ?_) (fun c_12 => ?_)
      · skip
        have hje : j = nm := Nat.le_antisymm hj (vz_ge c_12 (by omega) (by omega))
        refine lv_iload_n hx hb dX6_weightTogether_41 rfl (lv_at hl 1 rfl) ?_
        exact W.iret hx hb hr (fun t ht hW => ⟨_, rfl, (by rw [hacc, hje]), ht⟩) (fun q h => absurd h List.not_mem_nil) dX6_weightTogether_42
      · skip
        have hlt : j < nm := vz_lt c_12 (by omega)
        refine lv_iload_n hx hb dX6_weightTogether_15 rfl (lv_at hl 1 rfl) ?_
        refine lv_iload_n hx hb dX6_weightTogether_16 rfl (lv_at hl 3 rfl) ?_
        refine lv_iload_n hx hb dX6_weightTogether_17 rfl (lv_at hl 0 rfl) ?_
        refine vp_callSi (W.runS (As := [.int p0, .int (nI j)]) (rest := [.int acc]) ⟨hx, hb, hml, hown, hts⟩ (c_X6_holds l p0 (nI j)) (va_cwS 2 hts gX6_weightTogether_X6_holds rfl rfl rfl (by decide +kernel) ⟨Nat.le_of_ble_eq_true rfl, Nat.le_of_ble_eq_true rfl⟩) (vz_psS) rfl rfl hl.1 rfl (lv_room (Nat.le_of_ble_eq_true rfl)) dX6_weightTogether_18 ⟨Nat.zero_le _, Nat.zero_le _⟩) (fun r_18 hr_18 => ?_)
        subst hr_18
        refine lv_if_eq (tgt := 32) hx hb dX6_weightTogether_21 (by decide) (fun c_21 => ?_) (fun c_21 => ?_)
        · skip
          replace c_21 := vz_b0 c_21
          refine lv_iconst (v := 0) hx hb dX6_weightTogether_32 (by decide) ?_
          refine lv_iadd hx hb dX6_weightTogether_33 ?_
          refine lv_istore_n (lv' := [(2, .int (acc + 0)), (3, .int (nI j)), (0, .ref (h 0)), (1, .int p0)]) hx hb dX6_weightTogether_34 rfl hl (by decide) rfl (fun ls hl => ?_)
          refine lv_iinc (v := nI (j + 1)) (lv' := [(3, .int (nI (j + 1))), (2, .int (acc + 0)), (0, .ref (h 0)), (1, .int p0)]) hx hb dX6_weightTogether_35 hl (k := 1) rfl (vz_inc _) (by decide) rfl (fun ls hl => ?_)
          refine lv_goto (tgt := 4) hx hb dX6_weightTogether_38 (by decide) ?_
          exact ih_4 (j + 1) (acc + 0) (by omega) (by omega) (by rw [sa_wt, hacc] ; simp only [c_12, c_21, ↓reduceIte, Bool.false_eq_true]) ls (lv_sub hl [0, 1, 2, 3] rfl)
        · skip
          replace c_21 := vz_b1 c_21
          refine lv_aload_n hx hb dX6_weightTogether_24 rfl (lv_at hl 2 rfl) ?_
          refine lv_iload_n hx hb dX6_weightTogether_25 rfl (lv_at hl 0 rfl) ?_
          refine vp_callSi (W.runV (As := [.int (nI j)]) (rest := [.int acc]) ⟨hx, hb, hml, hown, hts⟩ (c_X6_weight l D cI h len cd nm ks gs wt mi pl sk he nh ru bg la sd pl2 sk2 he2 nh2 ru2 bg2 la2 sd2 u0 l0 u1 l1 u2 l2 wy fi fl nu ik pr (nI j)) (cwV 1 hts gX6_weightTogether_X6_weight rfl rfl rfl (by decide +kernel) ⟨Nat.le_of_ble_eq_true rfl, Nat.le_of_ble_eq_true rfl⟩) (vz_pvR (va_recv hK hP (ci := 6) (q0 := 0) rfl rfl) hZ hP) rfl rfl hl.1 rfl (lv_room (Nat.le_of_ble_eq_true rfl)) dX6_weightTogether_26 ⟨Nat.zero_le _, Nat.zero_le _⟩) (fun r_26 hr_26 => ?_)
          subst hr_26
          refine lv_goto (tgt := 33) hx hb dX6_weightTogether_29 (by decide) ?_
          refine lv_iadd hx hb dX6_weightTogether_33 ?_
          refine lv_istore_n (lv' := [(2, .int (acc + (wg wt sk (nI j)))), (3, .int (nI j)), (0, .ref (h 0)), (1, .int p0)]) hx hb dX6_weightTogether_34 rfl hl (by decide) rfl (fun ls hl => ?_)
          refine lv_iinc (v := nI (j + 1)) (lv' := [(3, .int (nI (j + 1))), (2, .int (acc + (wg wt sk (nI j)))), (0, .ref (h 0)), (1, .int p0)]) hx hb dX6_weightTogether_35 hl (k := 1) rfl (vz_inc _) (by decide) rfl (fun ls hl => ?_)
          refine lv_goto (tgt := 4) hx hb dX6_weightTogether_38 (by decide) ?_
          exact ih_4 (j + 1) (acc + (wg wt sk (nI j))) (by omega) (by omega) (by rw [sa_wt, hacc] ; simp only [c_12, c_21, ↓reduceIte, Bool.false_eq_true]) ls (lv_sub hl [0, 1, 2, 3] rfl)
  exact L_4 _ 0 0 (Nat.lt_succ_self _) (Nat.zero_le _) rfl ls (lv_sub hl [0, 1, 2, 3] rfl)
set_option maxHeartbeats 4000000 in
set_option maxRecDepth 100000 in
theorem c_X6_share (l : Launch) (D : va_G) (cI : ClassId) (h : Nat → Nat) (len : Nat) (cd : Nat → Int32) (nm : Nat) (ks : Nat → Int32) (gs : Nat → Int32) (wt : Nat → Int32) (mi : Nat → Int32) (pl : Nat → Int32) (sk : Nat → Int32) (he : Nat → Int32) (nh : Nat) (ru : Int32) (bg : Int32) (la : Int32) (sd : Bool) (pl2 : Nat → Int32) (sk2 : Nat → Int32) (he2 : Nat → Int32) (nh2 : Nat) (ru2 : Int32) (bg2 : Int32) (la2 : Int32) (sd2 : Bool) (u0 : Int64) (l0 : Int64) (u1 : Int64) (l1 : Int64) (u2 : Int64) (l2 : Int64) (wy : Nat → Int32) (fi : Nat → Int32) (fl : Int32) (nu : Int32) (ik : Bool) (pr : Nat) (p0 : Int32) (p1 : Int32) (p2 : Int32) : Met l yX6_share wsX6_share ({ frames := 2, cells := 0, slots := 0, locals := 61 } : Room) (vz_ro D cI (zSA cI h len cd nm ks gs wt mi pl sk he nh ru bg la sd pl2 sk2 he2 nh2 ru2 bg2 la2 sd2 u0 l0 u1 l1 u2 l2 wy fi fl nu ik pr) [.ref (h 0), .int p0, .int p1, .int p2]) (vp_Si (fun r => r = sa_sh wt sk p0 p1 p2)) 0 0 (fun _ => False) := by
  refine Met.ofW (cc := cX6_share) (maxL := 4) (ret := (some .int)) (by decide) rfl ?_
  intro p e s m args below meth c s₁ B hml hv
  obtain ⟨rfl, hP, hZ⟩ := hv
  obtain ⟨hK, hN⟩ := id hZ
  have hx := B.exec
  have hb := B.bytes
  have hr := B.returns
  have hts := atoms_spec (ws := wsX6_share) B.pre
  have hown : s.vm.findClass RX6 = some m.cls := findClass_of_methodNamed B.named
  have hlocks := B.notSynchronized
  have hl := lv_entry ([.ref (h 0), .int p0, .int p1, .int p2]) (n := 4) (Nat.le_of_ble_eq_true rfl)
  rw [lg_entry_eq]
  generalize (lg_sl ([.ref (h 0), .int p0, .int p1, .int p2]) ++ List.replicate (4 - (lg_sl ([.ref (h 0), .int p0, .int p1, .int p2])).length) Slot.unset).toArray = ls at hl ⊢
  have hl : lv_has ls 4 [(0, .ref (h 0)), (1, .int p0), (2, .int p1), (3, .int p2)] := hl
  refine lv_iload_n hx hb dX6_share_0 rfl (lv_at hl 2 rfl) ?_
  refine lv_iload_n hx hb dX6_share_1 rfl (lv_at hl 1 rfl) ?_
  refine vp_callSi (W.runS (As := [.int p1, .int p0]) (rest := []) ⟨hx, hb, hml, hown, hts⟩ (c_X6_holds l p1 p0) (va_cwS 2 hts gX6_share_X6_holds rfl rfl rfl (by decide +kernel) ⟨Nat.le_of_ble_eq_true rfl, Nat.le_of_ble_eq_true rfl⟩) (vz_psS) rfl rfl hl.1 rfl (lv_room (Nat.le_of_ble_eq_true rfl)) dX6_share_2 ⟨Nat.zero_le _, Nat.zero_le _⟩) (fun r_2 hr_2 => ?_)
  subst hr_2
  refine lv_if_ne (tgt := 10) hx hb dX6_share_5 (by decide) (fun c_5 => ?_) (fun c_5 => ?_)
  · skip
    replace c_5 := vz_b1 c_5
    refine lv_iload_n hx hb dX6_share_10 rfl (lv_at hl 3 rfl) ?_
    refine lv_if_ne (tgt := 18) hx hb dX6_share_11 (by decide) (fun c_11 => ?_) (fun c_11 => ?_)
    · skip
      refine lv_aload_n hx hb dX6_share_18 rfl (lv_at hl 0 rfl) ?_
      refine lv_iload_n hx hb dX6_share_19 rfl (lv_at hl 1 rfl) ?_
      refine vp_callSi (W.runV (As := [.int p0]) (rest := []) ⟨hx, hb, hml, hown, hts⟩ (c_X6_weight l D cI h len cd nm ks gs wt mi pl sk he nh ru bg la sd pl2 sk2 he2 nh2 ru2 bg2 la2 sd2 u0 l0 u1 l1 u2 l2 wy fi fl nu ik pr p0) (cwV 1 hts gX6_share_X6_weight rfl rfl rfl (by decide +kernel) ⟨Nat.le_of_ble_eq_true rfl, Nat.le_of_ble_eq_true rfl⟩) (vz_pvR (va_recv hK hP (ci := 6) (q0 := 0) rfl rfl) hZ hP) rfl rfl hl.1 rfl (lv_room (Nat.le_of_ble_eq_true rfl)) dX6_share_20 ⟨Nat.zero_le _, Nat.zero_le _⟩) (fun r_20 hr_20 => ?_)
      subst hr_20
      exact W.iret hx hb hr (fun t ht hW => ⟨_, rfl, (by first | rfl | (simp only [sa_sh, if_neg c_11]; done) | (simp only [sa_sh, if_neg c_11]; rfl) | (simp only [sa_sh, c_5, c_11, ↓reduceIte, Bool.false_eq_true, if_true, if_false, reduceCtorEq, not_true_eq_false, not_false_eq_true, eq_self]; done) | (simp only [sa_sh, c_5, c_11, ↓reduceIte, Bool.false_eq_true, if_true, if_false, reduceCtorEq, not_true_eq_false, not_false_eq_true, eq_self]; rfl) | (simp [sa_sh, c_5, c_11]; done)), ht⟩) (fun q h => absurd h List.not_mem_nil) dX6_share_23
    · skip
      refine lv_iconst (v := 1) hx hb dX6_share_14 (by decide) ?_
      refine lv_goto (tgt := 23) hx hb dX6_share_15 (by decide) ?_
      exact W.iret hx hb hr (fun t ht hW => ⟨_, rfl, (by first | rfl | (simp only [sa_sh, if_pos c_11]; done) | (simp only [sa_sh, if_pos c_11]; rfl) | (simp only [sa_sh, c_5, c_11, ↓reduceIte, Bool.false_eq_true, if_true, if_false, reduceCtorEq, not_true_eq_false, not_false_eq_true, eq_self]; done) | (simp only [sa_sh, c_5, c_11, ↓reduceIte, Bool.false_eq_true, if_true, if_false, reduceCtorEq, not_true_eq_false, not_false_eq_true, eq_self]; rfl) | (simp [sa_sh, c_5, c_11]; done)), ht⟩) (fun q h => absurd h List.not_mem_nil) dX6_share_23
  · skip
    replace c_5 := vz_b0 c_5
    refine lv_iconst (v := 0) hx hb dX6_share_8 (by decide) ?_
    exact W.iret hx hb hr (fun t ht hW => ⟨_, rfl, (by first | rfl | (simp only [sa_sh]; done) | (simp only [sa_sh]; rfl) | (simp only [sa_sh, c_5, ↓reduceIte, Bool.false_eq_true, if_true, if_false, reduceCtorEq, not_true_eq_false, not_false_eq_true, eq_self]; done) | (simp only [sa_sh, c_5, ↓reduceIte, Bool.false_eq_true, if_true, if_false, reduceCtorEq, not_true_eq_false, not_false_eq_true, eq_self]; rfl) | (simp [sa_sh, c_5]; done)), ht⟩) (fun q h => absurd h List.not_mem_nil) dX6_share_9
set_option maxHeartbeats 4000000 in
set_option maxRecDepth 100000 in
theorem c_J6_bitCount_0f7a4 (l : Launch) (p0 : Int32) : Met l yJ6_bitCount_0f7a4 wsJ6_bitCount_0f7a4 ({ frames := 0, cells := 0, slots := 0, locals := 0 } : Room) (vz_st [.int p0]) (vp_Si (fun r => r = j_bc p0)) 0 0 (fun _ => False) := by
  refine Met.ofW (cc := cJ6_bitCount_0f7a4) (maxL := 1) (ret := (some .int)) (by decide) rfl ?_
  intro p e s m args below meth c s₁ B hml hv
  obtain ⟨rfl, -⟩ := hv
  have hx := B.exec
  have hb := B.bytes
  have hr := B.returns
  have hts := atoms_spec (ws := wsJ6_bitCount_0f7a4) B.pre
  have hown : s.vm.findClass RJ6 = some m.cls := findClass_of_methodNamed B.named
  have hlocks := B.notSynchronized
  have hl := lv_entry ([.int p0]) (n := 1) (Nat.le_of_ble_eq_true rfl)
  rw [lg_entry_eq]
  generalize (lg_sl ([.int p0]) ++ List.replicate (1 - (lg_sl ([.int p0])).length) Slot.unset).toArray = ls at hl ⊢
  have hl : lv_has ls 1 [(0, .int p0)] := hl
  refine lv_iload_n hx hb dJ6_bitCount_0f7a4_0 rfl (lv_at hl 0 rfl) ?_
  refine lv_iload_n hx hb dJ6_bitCount_0f7a4_1 rfl (lv_at hl 0 rfl) ?_
  refine lv_iconst (v := 1) hx hb dJ6_bitCount_0f7a4_2 (by decide) ?_
  refine lv_iushr (v := j_ush p0 1) hx hb dJ6_bitCount_0f7a4_3 rfl ?_
  refine lv_ldcw (v := 1431655765) hx hb hown (hts (.constant RJ6 265 (1431655765)) (List.mem_of_getElem? (i := 1) rfl)) dJ6_bitCount_0f7a4_4 ?_
  refine lv_iand hx hb dJ6_bitCount_0f7a4_7 ?_
  refine lv_isub hx hb dJ6_bitCount_0f7a4_8 ?_
  refine W.eq (congrArg (fun z => F0 m 9 ls (.int z :: [])) (rfl)) ?_
  refine lv_istore_n (lv' := [(0, .int (j_b1 p0))]) hx hb dJ6_bitCount_0f7a4_9 rfl hl (by decide) rfl (fun ls hl => ?_)
  refine lv_iload_n hx hb dJ6_bitCount_0f7a4_10 rfl (lv_at hl 0 rfl) ?_
  refine lv_ldcw (v := 858993459) hx hb hown (hts (.constant RJ6 266 (858993459)) (List.mem_of_getElem? (i := 2) rfl)) dJ6_bitCount_0f7a4_11 ?_
  refine lv_iand hx hb dJ6_bitCount_0f7a4_14 ?_
  refine lv_iload_n hx hb dJ6_bitCount_0f7a4_15 rfl (lv_at hl 0 rfl) ?_
  refine lv_iconst (v := 2) hx hb dJ6_bitCount_0f7a4_16 (by decide) ?_
  refine lv_iushr (v := j_ush (j_b1 p0) 2) hx hb dJ6_bitCount_0f7a4_17 rfl ?_
  refine lv_ldcw (v := 858993459) hx hb hown (hts (.constant RJ6 266 (858993459)) (List.mem_of_getElem? (i := 2) rfl)) dJ6_bitCount_0f7a4_18 ?_
  refine lv_iand hx hb dJ6_bitCount_0f7a4_21 ?_
  refine lv_iadd hx hb dJ6_bitCount_0f7a4_22 ?_
  refine W.eq (congrArg (fun z => F0 m 23 ls (.int z :: [])) (rfl)) ?_
  refine lv_istore_n (lv' := [(0, .int (j_b2 (j_b1 p0)))]) hx hb dJ6_bitCount_0f7a4_23 rfl hl (by decide) rfl (fun ls hl => ?_)
  refine lv_iload_n hx hb dJ6_bitCount_0f7a4_24 rfl (lv_at hl 0 rfl) ?_
  refine lv_iload_n hx hb dJ6_bitCount_0f7a4_25 rfl (lv_at hl 0 rfl) ?_
  refine lv_iconst (v := 4) hx hb dJ6_bitCount_0f7a4_26 (by decide) ?_
  refine lv_iushr (v := j_ush (j_b2 (j_b1 p0)) 4) hx hb dJ6_bitCount_0f7a4_27 rfl ?_
  refine lv_iadd hx hb dJ6_bitCount_0f7a4_28 ?_
  refine lv_ldcw (v := 252645135) hx hb hown (hts (.constant RJ6 267 (252645135)) (List.mem_of_getElem? (i := 3) rfl)) dJ6_bitCount_0f7a4_29 ?_
  refine lv_iand hx hb dJ6_bitCount_0f7a4_32 ?_
  refine W.eq (congrArg (fun z => F0 m 33 ls (.int z :: [])) (rfl)) ?_
  refine lv_istore_n (lv' := [(0, .int (j_b3 (j_b2 (j_b1 p0))))]) hx hb dJ6_bitCount_0f7a4_33 rfl hl (by decide) rfl (fun ls hl => ?_)
  refine lv_iload_n hx hb dJ6_bitCount_0f7a4_34 rfl (lv_at hl 0 rfl) ?_
  refine lv_iload_n hx hb dJ6_bitCount_0f7a4_35 rfl (lv_at hl 0 rfl) ?_
  refine lv_bipush (v := 8) hx hb dJ6_bitCount_0f7a4_36 (by decide) ?_
  refine lv_iushr (v := j_ush (j_b3 (j_b2 (j_b1 p0))) 8) hx hb dJ6_bitCount_0f7a4_38 rfl ?_
  refine lv_iadd hx hb dJ6_bitCount_0f7a4_39 ?_
  refine W.eq (congrArg (fun z => F0 m 40 ls (.int z :: [])) (rfl)) ?_
  refine lv_istore_n (lv' := [(0, .int (j_b4 (j_b3 (j_b2 (j_b1 p0)))))]) hx hb dJ6_bitCount_0f7a4_40 rfl hl (by decide) rfl (fun ls hl => ?_)
  refine lv_iload_n hx hb dJ6_bitCount_0f7a4_41 rfl (lv_at hl 0 rfl) ?_
  refine lv_iload_n hx hb dJ6_bitCount_0f7a4_42 rfl (lv_at hl 0 rfl) ?_
  refine lv_bipush (v := 16) hx hb dJ6_bitCount_0f7a4_43 (by decide) ?_
  refine lv_iushr (v := j_ush (j_b4 (j_b3 (j_b2 (j_b1 p0)))) 16) hx hb dJ6_bitCount_0f7a4_45 rfl ?_
  refine lv_iadd hx hb dJ6_bitCount_0f7a4_46 ?_
  refine W.eq (congrArg (fun z => F0 m 47 ls (.int z :: [])) (rfl)) ?_
  refine lv_istore_n (lv' := [(0, .int (j_b5 (j_b4 (j_b3 (j_b2 (j_b1 p0))))))]) hx hb dJ6_bitCount_0f7a4_47 rfl hl (by decide) rfl (fun ls hl => ?_)
  refine lv_iload_n hx hb dJ6_bitCount_0f7a4_48 rfl (lv_at hl 0 rfl) ?_
  refine lv_bipush (v := 63) hx hb dJ6_bitCount_0f7a4_49 (by decide) ?_
  refine lv_iand hx hb dJ6_bitCount_0f7a4_51 ?_
  exact W.iret hx hb hr (fun t ht hW => ⟨_, rfl, (by first | rfl | (simp only [j_bc]; done) | (simp only [j_bc]; rfl) | (simp only [j_bc, ↓reduceIte, Bool.false_eq_true, if_true, if_false, reduceCtorEq, not_true_eq_false, not_false_eq_true, eq_self]; done) | (simp only [j_bc, ↓reduceIte, Bool.false_eq_true, if_true, if_false, reduceCtorEq, not_true_eq_false, not_false_eq_true, eq_self]; rfl) | (simp [j_bc]; done)), ht⟩) (fun q h => absurd h List.not_mem_nil) dJ6_bitCount_0f7a4_52
set_option maxHeartbeats 4000000 in
set_option maxRecDepth 100000 in
theorem c_X6_allShares (l : Launch) (p0 : Int32) (p1 : Int32) : Met l yX6_allShares wsX6_allShares ({ frames := 1, cells := 0, slots := 0, locals := 20 } : Room) (vz_st [.int p0, .int p1]) (vp_Si (fun r => r = sa_all p0 p1)) 0 0 (fun _ => False) := by
  refine Met.ofW (cc := cX6_allShares) (maxL := 2) (ret := (some .int)) (by decide) rfl ?_
  intro p e s m args below meth c s₁ B hml hv
  obtain ⟨rfl, -⟩ := hv
  have hx := B.exec
  have hb := B.bytes
  have hr := B.returns
  have hts := atoms_spec (ws := wsX6_allShares) B.pre
  have hown : s.vm.findClass RX6 = some m.cls := findClass_of_methodNamed B.named
  have hlocks := B.notSynchronized
  have hl := lv_entry ([.int p0, .int p1]) (n := 2) (Nat.le_of_ble_eq_true rfl)
  rw [lg_entry_eq]
  generalize (lg_sl ([.int p0, .int p1]) ++ List.replicate (2 - (lg_sl ([.int p0, .int p1])).length) Slot.unset).toArray = ls at hl ⊢
  have hl : lv_has ls 2 [(0, .int p0), (1, .int p1)] := hl
  refine lv_iload_n hx hb dX6_allShares_0 rfl (lv_at hl 1 rfl) ?_
  refine lv_if_ne (tgt := 11) hx hb dX6_allShares_1 (by decide) (fun c_1 => ?_) (fun c_1 => ?_)
  · skip
    refine lv_iload_n hx hb dX6_allShares_11 rfl (lv_at hl 1 rfl) ?_
    exact W.iret hx hb hr (fun t ht hW => ⟨_, rfl, (by first | rfl | (simp only [sa_all, if_neg c_1]; done) | (simp only [sa_all, if_neg c_1]; rfl) | (simp only [sa_all, c_1, ↓reduceIte, Bool.false_eq_true, if_true, if_false, reduceCtorEq, not_true_eq_false, not_false_eq_true, eq_self]; done) | (simp only [sa_all, c_1, ↓reduceIte, Bool.false_eq_true, if_true, if_false, reduceCtorEq, not_true_eq_false, not_false_eq_true, eq_self]; rfl) | (simp [sa_all, c_1]; done)), ht⟩) (fun q h => absurd h List.not_mem_nil) dX6_allShares_12
  · skip
    refine lv_iload_n hx hb dX6_allShares_4 rfl (lv_at hl 0 rfl) ?_
    refine vp_callSi (W.runS (As := [.int p0]) (rest := []) ⟨hx, hb, hml, hown, hts⟩ (c_J6_bitCount_0f7a4 l p0) (va_cwS 1 hts gX6_allShares_J6_bitCount_0f7a4 rfl rfl rfl (by decide +kernel) ⟨Nat.le_of_ble_eq_true rfl, Nat.le_of_ble_eq_true rfl⟩) (vz_psS) rfl rfl hl.1 rfl (lv_room (Nat.le_of_ble_eq_true rfl)) dX6_allShares_5 ⟨Nat.zero_le _, Nat.zero_le _⟩) (fun r_5 hr_5 => ?_)
    subst hr_5
    refine lv_goto (tgt := 12) hx hb dX6_allShares_8 (by decide) ?_
    exact W.iret hx hb hr (fun t ht hW => ⟨_, rfl, (by first | rfl | (simp only [sa_all, if_pos c_1]; done) | (simp only [sa_all, if_pos c_1]; rfl) | (simp only [sa_all, c_1, ↓reduceIte, Bool.false_eq_true, if_true, if_false, reduceCtorEq, not_true_eq_false, not_false_eq_true, eq_self]; done) | (simp only [sa_all, c_1, ↓reduceIte, Bool.false_eq_true, if_true, if_false, reduceCtorEq, not_true_eq_false, not_false_eq_true, eq_self]; rfl) | (simp [sa_all, c_1]; done)), ht⟩) (fun q h => absurd h List.not_mem_nil) dX6_allShares_12
set_option maxHeartbeats 4000000 in
set_option maxRecDepth 100000 in
theorem c_X6_seedAfter (l : Launch) (p0 : Int64) : Met l yX6_seedAfter wsX6_seedAfter ({ frames := 0, cells := 0, slots := 0, locals := 0 } : Room) (vz_st [.long p0]) (vp_Sl (fun r => r = sa_seed p0)) 0 0 (fun _ => False) := by
  refine Met.ofW (cc := cX6_seedAfter) (maxL := 2) (ret := (some .long)) (by decide) rfl ?_
  intro p e s m args below meth c s₁ B hml hv
  obtain ⟨rfl, -⟩ := hv
  have hx := B.exec
  have hb := B.bytes
  have hr := B.returns
  have hts := atoms_spec (ws := wsX6_seedAfter) B.pre
  have hown : s.vm.findClass RX6 = some m.cls := findClass_of_methodNamed B.named
  have hlocks := B.notSynchronized
  have hl := lv_entry ([.long p0]) (n := 2) (Nat.le_of_ble_eq_true rfl)
  rw [lg_entry_eq]
  generalize (lg_sl ([.long p0]) ++ List.replicate (2 - (lg_sl ([.long p0])).length) Slot.unset).toArray = ls at hl ⊢
  have hl : lv_has ls 2 [(0, .long p0)] := hl
  refine lv_ldc2 (v := 1103515245) hx hb hown (hts (.constantLong RX6 283 (1103515245)) (List.mem_of_getElem? (i := 1) rfl)) dX6_seedAfter_0 ?_
  refine lv_lload_n hx hb dX6_seedAfter_3 rfl (lv_at hl 0 rfl) ?_
  refine lv_lmul hx hb dX6_seedAfter_4 ?_
  refine lv_ldc2 (v := 12345) hx hb hown (hts (.constantLong RX6 285 (12345)) (List.mem_of_getElem? (i := 2) rfl)) dX6_seedAfter_5 ?_
  refine lv_ladd hx hb dX6_seedAfter_8 ?_
  refine lv_ldc2 (v := 2147483647) hx hb hown (hts (.constantLong RX6 287 (2147483647)) (List.mem_of_getElem? (i := 3) rfl)) dX6_seedAfter_9 ?_
  refine lv_land hx hb dX6_seedAfter_12 ?_
  exact W.lret hx hb hr (fun t ht hW => ⟨_, rfl, (by first | rfl | (simp only [sa_seed]; done) | (simp only [sa_seed]; rfl) | (simp only [sa_seed, ↓reduceIte, Bool.false_eq_true, if_true, if_false, reduceCtorEq, not_true_eq_false, not_false_eq_true, eq_self]; done) | (simp only [sa_seed, ↓reduceIte, Bool.false_eq_true, if_true, if_false, reduceCtorEq, not_true_eq_false, not_false_eq_true, eq_self]; rfl) | (simp [sa_seed]; done)), ht⟩) (fun q h => absurd h List.not_mem_nil) dX6_seedAfter_13
set_option maxHeartbeats 4000000 in
set_option maxRecDepth 100000 in
theorem c_X6_minutesPlayed (l : Launch) (D : va_G) (cI : ClassId) (h : Nat → Nat) (len : Nat) (cd : Nat → Int32) (nm : Nat) (ks : Nat → Int32) (gs : Nat → Int32) (wt : Nat → Int32) (mi : Nat → Int32) (pl : Nat → Int32) (sk : Nat → Int32) (he : Nat → Int32) (nh : Nat) (ru : Int32) (bg : Int32) (la : Int32) (sd : Bool) (pl2 : Nat → Int32) (sk2 : Nat → Int32) (he2 : Nat → Int32) (nh2 : Nat) (ru2 : Int32) (bg2 : Int32) (la2 : Int32) (sd2 : Bool) (u0 : Int64) (l0 : Int64) (u1 : Int64) (l1 : Int64) (u2 : Int64) (l2 : Int64) (wy : Nat → Int32) (fi : Nat → Int32) (fl : Int32) (nu : Int32) (ik : Bool) (pr : Nat) (hnm : nm ≤ 6) : Met l yX6_minutesPlayed wsX6_minutesPlayed ({ frames := 1, cells := 0, slots := 0, locals := 21 } : Room) (vz_ro D cI (zSA cI h len cd nm ks gs wt mi pl sk he nh ru bg la sd pl2 sk2 he2 nh2 ru2 bg2 la2 sd2 u0 l0 u1 l1 u2 l2 wy fi fl nu ik pr) [.ref (h 0)]) (vp_Si (fun r => r = sa_min pl mi nm)) 0 0 (fun _ => False) := by
  refine Met.ofW (cc := cX6_minutesPlayed) (maxL := 3) (ret := (some .int)) (by decide) rfl ?_
  intro p e s m args below meth c s₁ B hml hv
  obtain ⟨rfl, hP, hZ⟩ := hv
  obtain ⟨hK, hN⟩ := id hZ
  have hx := B.exec
  have hb := B.bytes
  have hr := B.returns
  have hts := atoms_spec (ws := wsX6_minutesPlayed) B.pre
  have hown : s.vm.findClass RX6 = some m.cls := findClass_of_methodNamed B.named
  have hlocks := B.notSynchronized
  have k19 := hts (.fieldLink RX6 19 "SongsAgain" "book" "LSongsAgain$Book;") (List.mem_of_getElem? (i := 1) rfl)
  have k26 := hts (.fieldLink RX6 26 "SongsAgain" "now" "LSongsAgain$Past;") (List.mem_of_getElem? (i := 2) rfl)
  have k93 : (Cond.fieldLinkNest "SongsAgain" 93 "SongsAgain$Book" "number" "I" "SongsAgain").before _ s = true := va_Nw.use (A := ([.ref (h 0)] : List Value).toArray) rfl (hN.1 ("SongsAgain", 93, "SongsAgain$Book", "number", "I") (List.mem_of_getElem? (i := 8) rfl))
  have k132 : (Cond.fieldLinkNest "SongsAgain" 132 "SongsAgain$Past" "played" "LSongsAgain$Row;" "SongsAgain").before _ s = true := va_Nw.use (A := ([.ref (h 0)] : List Value).toArray) rfl (hN.1 ("SongsAgain", 132, "SongsAgain$Past", "played", "LSongsAgain$Row;") (List.mem_of_getElem? (i := 9) rfl))
  have k231 : (Cond.fieldLinkNest "SongsAgain" 231 "SongsAgain$Book" "minutes" "LSongsAgain$Row;" "SongsAgain").before _ s = true := va_Nw.use (A := ([.ref (h 0)] : List Value).toArray) rfl (hN.1 ("SongsAgain", 231, "SongsAgain$Book", "minutes", "LSongsAgain$Row;") (List.mem_of_getElem? (i := 6) rfl))
  have iX0 : ∀ w ∈ u_ws RX0 TX0 5, w ∈ wsX6_minutesPlayed := vz_in (i := 19) (n := 5) rfl
  have iX4 : ∀ w ∈ u_ws RX4 TX4 8, w ∈ wsX6_minutesPlayed := vz_in (i := 24) (n := 8) rfl
  have iX6 : ∀ w ∈ u_ws RX6 TX6 10, w ∈ wsX6_minutesPlayed := vz_in (i := 9) (n := 10) rfl
  have hl := lv_entry ([.ref (h 0)]) (n := 3) (Nat.le_of_ble_eq_true rfl)
  rw [lg_entry_eq]
  generalize (lg_sl ([.ref (h 0)]) ++ List.replicate (3 - (lg_sl ([.ref (h 0)])).length) Slot.unset).toArray = ls at hl ⊢
  have hl : lv_has ls 3 [(0, .ref (h 0))] := hl
  refine lv_iconst (v := 0) hx hb dX6_minutesPlayed_0 (by decide) ?_
  refine lv_istore_n (lv' := [(1, .int 0), (0, .ref (h 0))]) hx hb dX6_minutesPlayed_1 rfl hl (by decide) rfl (fun ls hl => ?_)
  refine lv_iconst (v := 0) hx hb dX6_minutesPlayed_2 (by decide) ?_
  refine lv_istore_n (lv' := [(2, .int 0), (1, .int 0), (0, .ref (h 0))]) hx hb dX6_minutesPlayed_3 rfl hl (by decide) rfl (fun ls hl => ?_)
  have L_4 : ∀ (d_4 : Nat) (j : Nat) (acc : Int32), nm - j < d_4 → (j ≤ nm) → (acc = sa_min pl mi j) → ∀ (ls : Array Slot), lv_has ls 3 [(2, .int (nI j)), (1, .int acc), (0, .ref (h 0))] → W p l e ({ frames := 1, cells := 0, slots := 0, locals := 21 } : Room) s m ([.ref (h 0)] : List Value).toArray below meth c s.heap [] 0 0 (MQ below (vp_Si (fun r => r = sa_min pl mi nm)) ([.ref (h 0)] : List Value).toArray s 0 0 (fun _ => False)) (F0 m 4 ls []) := by
    intro d_4
    induction d_4 with
    | zero => intro j acc hd; exact absurd hd (Nat.not_lt_zero _)
    | succ d_4 ih_4 =>
      intro j acc hd_4 hj hacc ls hl
      refine lv_iload_n hx hb dX6_minutesPlayed_4 rfl (lv_at hl 0 rfl) ?_
      refine lv_aload_n hx hb dX6_minutesPlayed_5 rfl (lv_at hl 2 rfl) ?_
      refine va_get (D := D) (ci := 6) (v := .ref (h 4)) (C := RX6) (T := TX6) (N := 10) hx hb hts iX6 hown hK hP 0 rfl rfl 1 (by decide) k19 (fun _ h9 => h9) rfl dX6_minutesPlayed_6 ?_
      refine va_getN (D := D) (ci := 0) (v := .int (nI nm)) (C := RX0) (T := TX0) (N := 5) hx hb hts iX0 hown hK hP 4 rfl rfl 4 (by decide) k93 (fun _ h9 => h9) rfl dX6_minutesPlayed_9 ?_
      refine lv_icmp_ge (tgt := 47) hx hb dX6_minutesPlayed_12 (by decide) (fun c_12 => ?_) (fun c_12 => ?_)
      · skip
        have hje : j = nm := Nat.le_antisymm hj (vz_ge c_12 (by omega) (by omega))
        refine lv_iload_n hx hb dX6_minutesPlayed_47 rfl (lv_at hl 1 rfl) ?_
        exact W.iret hx hb hr (fun t ht hW => ⟨_, rfl, (by rw [hacc, hje]), ht⟩) (fun q h => absurd h List.not_mem_nil) dX6_minutesPlayed_48
      · skip
        have hlt : j < nm := vz_lt c_12 (by omega)
        refine lv_iload_n hx hb dX6_minutesPlayed_15 rfl (lv_at hl 1 rfl) ?_
        refine lv_aload_n hx hb dX6_minutesPlayed_16 rfl (lv_at hl 2 rfl) ?_
        refine va_get (D := D) (ci := 6) (v := .ref (h 13)) (C := RX6) (T := TX6) (N := 10) hx hb hts iX6 hown hK hP 0 rfl rfl 2 (by decide) k26 (fun _ h9 => h9) rfl dX6_minutesPlayed_17 ?_
        refine va_getN (D := D) (ci := 4) (v := .ref (h 14)) (C := RX4) (T := TX4) (N := 8) hx hb hts iX4 hown hK hP 13 rfl rfl 0 (by decide) k132 (fun _ h9 => h9) rfl dX6_minutesPlayed_20 ?_
        refine lv_iload_n hx hb dX6_minutesPlayed_23 rfl (lv_at hl 0 rfl) ?_
        refine vp_callSi (W.runV (As := [.int (nI j)]) (rest := [.int acc]) ⟨hx, hb, hml, hown, hts⟩ (c_X5_at l D cI (h 14) (h 15) 6 pl (nI j) (by decide)) (cwV 1 hts gX6_minutesPlayed_X5_at rfl rfl rfl (by decide +kernel) ⟨Nat.le_of_ble_eq_true rfl, Nat.le_of_ble_eq_true rfl⟩) (vz_pvR (va_recv hK hP (ci := 5) (q0 := 14) rfl rfl) hZ (hP.sub (ws' := (zRow cI (h 14) (h 15) 6 pl)) [14, 15] rfl)) rfl rfl hl.1 rfl (lv_room (Nat.le_of_ble_eq_true rfl)) dX6_minutesPlayed_24 ⟨Nat.zero_le _, Nat.zero_le _⟩) (fun r_24 hr_24 => ?_)
        subst hr_24
        refine lv_aload_n hx hb dX6_minutesPlayed_27 rfl (lv_at hl 2 rfl) ?_
        refine va_get (D := D) (ci := 6) (v := .ref (h 4)) (C := RX6) (T := TX6) (N := 10) hx hb hts iX6 hown hK hP 0 rfl rfl 1 (by decide) k19 (fun _ h9 => h9) rfl dX6_minutesPlayed_28 ?_
        refine va_getN (D := D) (ci := 0) (v := .ref (h 11)) (C := RX0) (T := TX0) (N := 5) hx hb hts iX0 hown hK hP 4 rfl rfl 3 (by decide) k231 (fun _ h9 => h9) rfl dX6_minutesPlayed_31 ?_
        refine lv_iload_n hx hb dX6_minutesPlayed_34 rfl (lv_at hl 0 rfl) ?_
        refine vp_callSi (W.runV (As := [.int (nI j)]) (rest := [.int (rw_at 6 pl (nI j)), .int acc]) ⟨hx, hb, hml, hown, hts⟩ (c_X5_at l D cI (h 11) (h 12) 6 mi (nI j) (by decide)) (cwV 1 hts gX6_minutesPlayed_X5_at rfl rfl rfl (by decide +kernel) ⟨Nat.le_of_ble_eq_true rfl, Nat.le_of_ble_eq_true rfl⟩) (vz_pvR (va_recv hK hP (ci := 5) (q0 := 11) rfl rfl) hZ (hP.sub (ws' := (zRow cI (h 11) (h 12) 6 mi)) [11, 12] rfl)) rfl rfl hl.1 rfl (lv_room (Nat.le_of_ble_eq_true rfl)) dX6_minutesPlayed_35 ⟨Nat.zero_le _, Nat.zero_le _⟩) (fun r_35 hr_35 => ?_)
        subst hr_35
        refine lv_imul hx hb dX6_minutesPlayed_38 ?_
        refine lv_iadd hx hb dX6_minutesPlayed_39 ?_
        refine lv_istore_n (lv' := [(1, .int (acc + ((rw_at 6 pl (nI j)) * (rw_at 6 mi (nI j))))), (2, .int (nI j)), (0, .ref (h 0))]) hx hb dX6_minutesPlayed_40 rfl hl (by decide) rfl (fun ls hl => ?_)
        refine lv_iinc (v := nI (j + 1)) (lv' := [(2, .int (nI (j + 1))), (1, .int (acc + ((rw_at 6 pl (nI j)) * (rw_at 6 mi (nI j))))), (0, .ref (h 0))]) hx hb dX6_minutesPlayed_41 hl (k := 1) rfl (vz_inc _) (by decide) rfl (fun ls hl => ?_)
        refine lv_goto (tgt := 4) hx hb dX6_minutesPlayed_44 (by decide) ?_
        exact ih_4 (j + 1) (acc + ((rw_at 6 pl (nI j)) * (rw_at 6 mi (nI j)))) (by omega) (by omega) (by rw [sa_min, hacc]) ls (lv_sub hl [0, 1, 2] rfl)
  exact L_4 _ 0 0 (Nat.lt_succ_self _) (Nat.zero_le _) rfl ls (lv_sub hl [0, 1, 2] rfl)
set_option maxHeartbeats 4000000 in
set_option maxRecDepth 100000 in
theorem c_X6_chanceNow (l : Launch) (D : va_G) (cI : ClassId) (h : Nat → Nat) (len : Nat) (cd : Nat → Int32) (nm : Nat) (ks : Nat → Int32) (gs : Nat → Int32) (wt : Nat → Int32) (mi : Nat → Int32) (pl : Nat → Int32) (sk : Nat → Int32) (he : Nat → Int32) (nh : Nat) (ru : Int32) (bg : Int32) (la : Int32) (sd : Bool) (pl2 : Nat → Int32) (sk2 : Nat → Int32) (he2 : Nat → Int32) (nh2 : Nat) (ru2 : Int32) (bg2 : Int32) (la2 : Int32) (sd2 : Bool) (u0 : Int64) (l0 : Int64) (u1 : Int64) (l1 : Int64) (u2 : Int64) (l2 : Int64) (wy : Nat → Int32) (fi : Nat → Int32) (fl : Int32) (nu : Int32) (ik : Bool) (pr : Nat) (sz : Nat) (p0 : Int32) (hnm : nm ≤ 6) : Met l yX6_chanceNow wsX6_chanceNow ({ frames := 4, cells := 0, slots := 0, locals := 91 } : Room) (vz_rw D cI (zSA cI h len cd nm ks gs wt mi pl sk he nh ru bg la sd pl2 sk2 he2 nh2 ru2 bg2 la2 sd2 u0 l0 u1 l1 u2 l2 wy fi fl nu ik pr) sz [.ref (h 0), .int p0]) (va_Qr (fun (_ : Unit) => True) (fun (u : Unit) (ra : Nat) (t : State) => ra = (h 28) ∧ va_P D vwCl (zSA cI h len cd nm ks gs wt mi pl sk he nh ru bg la sd pl2 sk2 he2 nh2 ru2 bg2 la2 sd2 u0 l0 (sa_cu nm ks gs wt sk ru bg la p0 u1) (sa_cl nm ks gs wt sk ru bg la p0 l1) u2 l2 wy fi fl nu ik pr) t.heap) (va_A (zSA cI h len cd nm ks gs wt mi pl sk he nh ru bg la sd pl2 sk2 he2 nh2 ru2 bg2 la2 sd2 u0 l0 u1 l1 u2 l2 wy fi fl nu ik pr) sz)) 0 0 (va_A (zSA cI h len cd nm ks gs wt mi pl sk he nh ru bg la sd pl2 sk2 he2 nh2 ru2 bg2 la2 sd2 u0 l0 u1 l1 u2 l2 wy fi fl nu ik pr) sz) := by
  refine Met.ofW (cc := cX6_chanceNow) (maxL := 4) (ret := (some (.object "SongsAgain$Fraction"))) (by decide) rfl ?_
  intro p e s m args below meth c s₁ B hml hv
  obtain ⟨rfl, hsz, hP, hZ, hD0⟩ := hv
  obtain ⟨hK, hN⟩ := id hZ
  have hx := B.exec
  have hb := B.bytes
  have hr := B.returns
  have hts := atoms_spec (ws := wsX6_chanceNow) B.pre
  have hown : s.vm.findClass RX6 = some m.cls := findClass_of_methodNamed B.named
  have hlocks := B.notSynchronized
  subst hsz
  have hD := hD0.self (sz := s.heap.size)
  generalize hAe : va_A (zSA cI h len cd nm ks gs wt mi pl sk he nh ru bg la sd pl2 sk2 he2 nh2 ru2 bg2 la2 sd2 u0 l0 u1 l1 u2 l2 wy fi fl nu ik pr) s.heap.size = A at hD ⊢
  have hA : ∀ q : Nat, s.heap.size ≤ q → A q := fun q h => by rw [← hAe]; exact Or.inr h
  have hS : va_S A s.heap s.heap [] := va_S.rf
  have k40 := hts (.fieldLink RX6 40 "SongsAgain" "chance" "LSongsAgain$Fraction;") (List.mem_of_getElem? (i := 1) rfl)
  have iX6 : ∀ w ∈ u_ws RX6 TX6 10, w ∈ wsX6_chanceNow := vz_in (i := 71) (n := 10) rfl
  have hl := lv_entry ([.ref (h 0), .int p0]) (n := 4) (Nat.le_of_ble_eq_true rfl)
  rw [lg_entry_eq]
  generalize (lg_sl ([.ref (h 0), .int p0]) ++ List.replicate (4 - (lg_sl ([.ref (h 0), .int p0])).length) Slot.unset).toArray = ls at hl ⊢
  have hl : lv_has ls 4 [(0, .ref (h 0)), (1, .int p0)] := hl
  have hP : va_P D vwCl (zSA cI h len cd nm ks gs wt mi pl sk he nh ru bg la sd pl2 sk2 he2 nh2 ru2 bg2 la2 sd2 u0 l0 u1 l1 u2 l2 wy fi fl nu ik pr) s.heap := hP
  refine lv_aload_n hx hb dX6_chanceNow_0 rfl (lv_at hl 0 rfl) ?_
  refine vp_callSi (W.runV (As := []) (rest := []) ⟨hx, hb, hml, hown, hts⟩ (c_X6_mayNow l D cI h len cd nm ks gs wt mi pl sk he nh ru bg la sd pl2 sk2 he2 nh2 ru2 bg2 la2 sd2 u0 l0 u1 l1 u2 l2 wy fi fl nu ik pr (by first | assumption | omega)) (cwV 0 hts gX6_chanceNow_X6_mayNow rfl rfl rfl (by decide +kernel) ⟨Nat.le_of_ble_eq_true rfl, Nat.le_of_ble_eq_true rfl⟩) (vz_pvR (va_recv hK hP (ci := 6) (q0 := 0) rfl rfl) hZ hP) rfl rfl hl.1 rfl (lv_room (Nat.le_of_ble_eq_true rfl)) dX6_chanceNow_1 ⟨Nat.zero_le _, Nat.zero_le _⟩) (fun r_1 hr_1 => ?_)
  subst hr_1
  refine lv_istore_n (lv' := [(2, .int (bk_may nm ks gs ru bg la)), (0, .ref (h 0)), (1, .int p0)]) hx hb dX6_chanceNow_4 rfl hl (by decide) rfl (fun ls hl => ?_)
  refine lv_aload_n hx hb dX6_chanceNow_5 rfl (lv_at hl 1 rfl) ?_
  refine lv_iload_n hx hb dX6_chanceNow_6 rfl (lv_at hl 0 rfl) ?_
  refine vp_callSi (W.runV (As := [.int (bk_may nm ks gs ru bg la)]) (rest := []) ⟨hx, hb, hml, hown, hts⟩ (c_X6_weightTogether l D cI h len cd nm ks gs wt mi pl sk he nh ru bg la sd pl2 sk2 he2 nh2 ru2 bg2 la2 sd2 u0 l0 u1 l1 u2 l2 wy fi fl nu ik pr (bk_may nm ks gs ru bg la) (by first | assumption | omega)) (cwV 1 hts gX6_chanceNow_X6_weightTogether rfl rfl rfl (by decide +kernel) ⟨Nat.le_of_ble_eq_true rfl, Nat.le_of_ble_eq_true rfl⟩) (vz_pvR (va_recv hK hP (ci := 6) (q0 := 0) rfl rfl) hZ hP) rfl rfl hl.1 rfl (lv_room (Nat.le_of_ble_eq_true rfl)) dX6_chanceNow_7 ⟨Nat.zero_le _, Nat.zero_le _⟩) (fun r_7 hr_7 => ?_)
  subst hr_7
  refine lv_istore_n (lv' := [(3, .int (sa_wt wt sk (bk_may nm ks gs ru bg la) nm)), (2, .int (bk_may nm ks gs ru bg la)), (0, .ref (h 0)), (1, .int p0)]) hx hb dX6_chanceNow_10 rfl hl (by decide) rfl (fun ls hl => ?_)
  refine lv_aload_n hx hb dX6_chanceNow_11 rfl (lv_at hl 2 rfl) ?_
  refine va_get (D := D) (ci := 6) (v := .ref (h 28)) (C := RX6) (T := TX6) (N := 10) hx hb hts iX6 hown hK hP 0 rfl rfl 5 (by decide) k40 (fun _ h9 => h9) rfl dX6_chanceNow_12 ?_
  refine lv_aload_n hx hb dX6_chanceNow_15 rfl (lv_at hl 2 rfl) ?_
  refine lv_iload_n hx hb dX6_chanceNow_16 rfl (lv_at hl 3 rfl) ?_
  refine lv_iload_n hx hb dX6_chanceNow_17 rfl (lv_at hl 1 rfl) ?_
  refine lv_iload_n hx hb dX6_chanceNow_18 rfl (lv_at hl 0 rfl) ?_
  refine vp_callSi (W.runV (As := [.int p0, .int (bk_may nm ks gs ru bg la), .int (sa_wt wt sk (bk_may nm ks gs ru bg la) nm)]) (rest := [.ref (h 28)]) ⟨hx, hb, hml, hown, hts⟩ (c_X6_share l D cI h len cd nm ks gs wt mi pl sk he nh ru bg la sd pl2 sk2 he2 nh2 ru2 bg2 la2 sd2 u0 l0 u1 l1 u2 l2 wy fi fl nu ik pr p0 (bk_may nm ks gs ru bg la) (sa_wt wt sk (bk_may nm ks gs ru bg la) nm)) (cwV 3 hts gX6_chanceNow_X6_share rfl rfl rfl (by decide +kernel) ⟨Nat.le_of_ble_eq_true rfl, Nat.le_of_ble_eq_true rfl⟩) (vz_pvR (va_recv hK hP (ci := 6) (q0 := 0) rfl rfl) hZ hP) rfl rfl hl.1 rfl (lv_room (Nat.le_of_ble_eq_true rfl)) dX6_chanceNow_19 ⟨Nat.zero_le _, Nat.zero_le _⟩) (fun r_19 hr_19 => ?_)
  subst hr_19
  refine lv_i2l (v := (sa_sh wt sk p0 (bk_may nm ks gs ru bg la) (sa_wt wt sk (bk_may nm ks gs ru bg la) nm) : Int32).toInt64) hx hb dX6_chanceNow_22 rfl ?_
  refine lv_iload_n hx hb dX6_chanceNow_23 rfl (lv_at hl 1 rfl) ?_
  refine lv_iload_n hx hb dX6_chanceNow_24 rfl (lv_at hl 0 rfl) ?_
  refine vp_callSi (W.runS (As := [.int (bk_may nm ks gs ru bg la), .int (sa_wt wt sk (bk_may nm ks gs ru bg la) nm)]) (rest := [.long ((sa_sh wt sk p0 (bk_may nm ks gs ru bg la) (sa_wt wt sk (bk_may nm ks gs ru bg la) nm) : Int32).toInt64), .ref (h 28)]) ⟨hx, hb, hml, hown, hts⟩ (c_X6_allShares l (bk_may nm ks gs ru bg la) (sa_wt wt sk (bk_may nm ks gs ru bg la) nm)) (va_cwS 2 hts gX6_chanceNow_X6_allShares rfl rfl rfl (by decide +kernel) ⟨Nat.le_of_ble_eq_true rfl, Nat.le_of_ble_eq_true rfl⟩) (vz_psS) rfl rfl hl.1 rfl (lv_room (Nat.le_of_ble_eq_true rfl)) dX6_chanceNow_25 ⟨Nat.zero_le _, Nat.zero_le _⟩) (fun r_25 hr_25 => ?_)
  subst hr_25
  refine lv_i2l (v := (sa_all (bk_may nm ks gs ru bg la) (sa_wt wt sk (bk_may nm ks gs ru bg la) nm) : Int32).toInt64) hx hb dX6_chanceNow_28 rfl ?_
  have hPc := (hP.sub (ws' := (zFr cI (h 28) u1 l1)) [28] rfl)
  have hDc := hD.sub (ws' := (zFr cI (h 28) u1 l1)) [28] rfl rfl
  have hFc := va_free (wc := (zFr cI (h 28) u1 l1)) hD hS hA [28] rfl
  refine va_callv (va_runV (As := [.long ((sa_sh wt sk p0 (bk_may nm ks gs ru bg la) (sa_wt wt sk (bk_may nm ks gs ru bg la) nm) : Int32).toInt64), .long ((sa_all (bk_may nm ks gs ru bg la) (sa_wt wt sk (bk_may nm ks gs ru bg la) nm) : Int32).toInt64)]) (rest := []) ⟨hx, hb, hml, hown, hts⟩ (c_X1_become l D cI (h 28) u1 l1 s.heap.size ((sa_sh wt sk p0 (bk_may nm ks gs ru bg la) (sa_wt wt sk (bk_may nm ks gs ru bg la) nm) : Int32).toInt64) ((sa_all (bk_may nm ks gs ru bg la) (sa_wt wt sk (bk_may nm ks gs ru bg la) nm) : Int32).toInt64)) (cwV 2 hts gX6_chanceNow_X1_become rfl rfl rfl (by decide +kernel) ⟨Nat.le_of_ble_eq_true rfl, Nat.le_of_ble_eq_true rfl⟩) (vz_pvW (va_recv hK hP (ci := 1) (q0 := 28) rfl rfl) hZ hPc hDc) rfl rfl hl.1 rfl (lv_room (Nat.le_of_ble_eq_true rfl)) dX6_chanceNow_29 ⟨Nat.zero_le _, Nat.zero_le _⟩) hS (fun q _ h => hFc q h) hFc (fun u_29 t H_29 locs_29 ht hvm hw hB hz1 hk1 hS9 => ?_)
  rw [ht] at hB
  replace hP : va_P D vwCl (zSA cI h len cd nm ks gs wt mi pl sk he nh ru bg la sd pl2 sk2 he2 nh2 ru2 bg2 la2 sd2 u0 l0 (fr_q (fr_cd ((sa_sh wt sk p0 (bk_may nm ks gs ru bg la) (sa_wt wt sk (bk_may nm ks gs ru bg la) nm) : Int32).toInt64) ((sa_all (bk_may nm ks gs ru bg la) (sa_wt wt sk (bk_may nm ks gs ru bg la) nm) : Int32).toInt64)) ((sa_sh wt sk p0 (bk_may nm ks gs ru bg la) (sa_wt wt sk (bk_may nm ks gs ru bg la) nm) : Int32).toInt64) u1) (fr_q (fr_cd ((sa_sh wt sk p0 (bk_may nm ks gs ru bg la) (sa_wt wt sk (bk_may nm ks gs ru bg la) nm) : Int32).toInt64) ((sa_all (bk_may nm ks gs ru bg la) (sa_wt wt sk (bk_may nm ks gs ru bg la) nm) : Int32).toInt64)) ((sa_all (bk_may nm ks gs ru bg la) (sa_wt wt sk (bk_may nm ks gs ru bg la) nm) : Int32).toInt64) l1) u2 l2 wy fi fl nu ik pr) H_29 := vz_join (w1 := (zFr cI (h 28) (fr_q (fr_cd ((sa_sh wt sk p0 (bk_may nm ks gs ru bg la) (sa_wt wt sk (bk_may nm ks gs ru bg la) nm) : Int32).toInt64) ((sa_all (bk_may nm ks gs ru bg la) (sa_wt wt sk (bk_may nm ks gs ru bg la) nm) : Int32).toInt64)) ((sa_sh wt sk p0 (bk_may nm ks gs ru bg la) (sa_wt wt sk (bk_may nm ks gs ru bg la) nm) : Int32).toInt64) u1) (fr_q (fr_cd ((sa_sh wt sk p0 (bk_may nm ks gs ru bg la) (sa_wt wt sk (bk_may nm ks gs ru bg la) nm) : Int32).toInt64) ((sa_all (bk_may nm ks gs ru bg la) (sa_wt wt sk (bk_may nm ks gs ru bg la) nm) : Int32).toInt64)) ((sa_all (bk_may nm ks gs ru bg la) (sa_wt wt sk (bk_may nm ks gs ru bg la) nm) : Int32).toInt64) l1))) hP hD [28] rfl rfl hk1 hB
  replace hD : va_D A (zSA cI h len cd nm ks gs wt mi pl sk he nh ru bg la sd pl2 sk2 he2 nh2 ru2 bg2 la2 sd2 u0 l0 (fr_q (fr_cd ((sa_sh wt sk p0 (bk_may nm ks gs ru bg la) (sa_wt wt sk (bk_may nm ks gs ru bg la) nm) : Int32).toInt64) ((sa_all (bk_may nm ks gs ru bg la) (sa_wt wt sk (bk_may nm ks gs ru bg la) nm) : Int32).toInt64)) ((sa_sh wt sk p0 (bk_may nm ks gs ru bg la) (sa_wt wt sk (bk_may nm ks gs ru bg la) nm) : Int32).toInt64) u1) (fr_q (fr_cd ((sa_sh wt sk p0 (bk_may nm ks gs ru bg la) (sa_wt wt sk (bk_may nm ks gs ru bg la) nm) : Int32).toInt64) ((sa_all (bk_may nm ks gs ru bg la) (sa_wt wt sk (bk_may nm ks gs ru bg la) nm) : Int32).toInt64)) ((sa_all (bk_may nm ks gs ru bg la) (sa_wt wt sk (bk_may nm ks gs ru bg la) nm) : Int32).toInt64) l1) u2 l2 wy fi fl nu ik pr) := vz_same hD rfl
  replace hS := hS9
  clear hS9 hPc hDc hFc hB hk1 hz1
  refine lv_aload_n hx hb dX6_chanceNow_32 rfl (lv_at hl 2 rfl) ?_
  refine va_get (D := D) (ci := 6) (v := .ref (h 28)) (C := RX6) (T := TX6) (N := 10) hx hb hts iX6 hown hK hP 0 rfl rfl 5 (by decide) k40 (fun _ h9 => h9) rfl dX6_chanceNow_33 ?_
  have en_u1 : sa_cu nm ks gs wt sk ru bg la p0 u1 = fr_q (fr_cd ((sa_sh wt sk p0 (bk_may nm ks gs ru bg la) (sa_wt wt sk (bk_may nm ks gs ru bg la) nm) : Int32).toInt64) ((sa_all (bk_may nm ks gs ru bg la) (sa_wt wt sk (bk_may nm ks gs ru bg la) nm) : Int32).toInt64)) ((sa_sh wt sk p0 (bk_may nm ks gs ru bg la) (sa_wt wt sk (bk_may nm ks gs ru bg la) nm) : Int32).toInt64) u1 := by first | rfl | (simp only [sa_cu, sa_cl, sa_cx, sa_cy, sa_at, sa_am]; done) | (simp only [sa_cu, sa_cl, sa_cx, sa_cy, sa_at, sa_am]; rfl) | (simp only [sa_cu, sa_cl, sa_cx, sa_cy, sa_at, sa_am, ↓reduceIte, Bool.false_eq_true, if_true, if_false, reduceCtorEq, not_true_eq_false, not_false_eq_true, eq_self]; done) | (simp only [sa_cu, sa_cl, sa_cx, sa_cy, sa_at, sa_am, ↓reduceIte, Bool.false_eq_true, if_true, if_false, reduceCtorEq, not_true_eq_false, not_false_eq_true, eq_self]; rfl) | (simp [sa_cu, sa_cl, sa_cx, sa_cy, sa_at, sa_am]; done)
  have en_l1 : sa_cl nm ks gs wt sk ru bg la p0 l1 = fr_q (fr_cd ((sa_sh wt sk p0 (bk_may nm ks gs ru bg la) (sa_wt wt sk (bk_may nm ks gs ru bg la) nm) : Int32).toInt64) ((sa_all (bk_may nm ks gs ru bg la) (sa_wt wt sk (bk_may nm ks gs ru bg la) nm) : Int32).toInt64)) ((sa_all (bk_may nm ks gs ru bg la) (sa_wt wt sk (bk_may nm ks gs ru bg la) nm) : Int32).toInt64) l1 := by first | rfl | (simp only [sa_cu, sa_cl, sa_cx, sa_cy, sa_at, sa_am]; done) | (simp only [sa_cu, sa_cl, sa_cx, sa_cy, sa_at, sa_am]; rfl) | (simp only [sa_cu, sa_cl, sa_cx, sa_cy, sa_at, sa_am, ↓reduceIte, Bool.false_eq_true, if_true, if_false, reduceCtorEq, not_true_eq_false, not_false_eq_true, eq_self]; done) | (simp only [sa_cu, sa_cl, sa_cx, sa_cy, sa_at, sa_am, ↓reduceIte, Bool.false_eq_true, if_true, if_false, reduceCtorEq, not_true_eq_false, not_false_eq_true, eq_self]; rfl) | (simp [sa_cu, sa_cl, sa_cx, sa_cy, sa_at, sa_am]; done)
  exact W.aret hx hb hr (Or.inl ⟨_, rfl⟩) (Or.inr ⟨_, rfl⟩) (fun t ht hW => ⟨⟨(), _, rfl, trivial, rfl, (by show va_P D vwCl (zSA cI h len cd nm ks gs wt mi pl sk he nh ru bg la sd pl2 sk2 he2 nh2 ru2 bg2 la2 sd2 u0 l0 (sa_cu nm ks gs wt sk ru bg la p0 u1) (sa_cl nm ks gs wt sk ru bg la p0 l1) u2 l2 wy fi fl nu ik pr) t.heap; rw [ht, en_u1, en_l1]; exact hP)⟩, hS.F ht⟩) hS.2.2 dX6_chanceNow_36

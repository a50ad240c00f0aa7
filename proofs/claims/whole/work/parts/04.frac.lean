/-! what the methods of Fraction, Page, Past, Book, Orders answer, as functions -/
def fr_gcd : Nat → Int64 → Int64 → Int64
  | 0, x, _ => x
  | d + 1, x, y => if y = 0 then x else fr_gcd d y (x - x / y * y)
def fr_cd (a b : Int64) : Int64 := fr_gcd 128 a b
def fr_q (g a old : Int64) : Int64 := if g ≤ 0 then old else a / g
def fr_mu (up lo a b : Int64) : Int64 := fr_q (fr_cd (up * a) (lo * b)) (up * a) up
def fr_ml (up lo a b : Int64) : Int64 := fr_q (fr_cd (up * a) (lo * b)) (lo * b) lo
def fr_au (up lo a b : Int64) : Int64 := if fr_cd lo b ≤ 0 then up else fr_q (fr_cd (up * (b / fr_cd lo b) + a * (lo / fr_cd lo b)) (lo * (b / fr_cd lo b))) (up * (b / fr_cd lo b) + a * (lo / fr_cd lo b)) up
def fr_al (up lo a b : Int64) : Int64 := if fr_cd lo b ≤ 0 then lo else fr_q (fr_cd (up * (b / fr_cd lo b) + a * (lo / fr_cd lo b)) (lo * (b / fr_cd lo b))) (lo * (b / fr_cd lo b)) lo
def fr_more (up lo up2 lo2 : Int64) : Bool := if up * lo2 ≤ up2 * lo then false else true
def pg_dig (c b : Int32) : Bool := if c < 48 then false else if 48 + b ≤ c then false else true
def pg_ends (c k : Int32) : Bool := if c = 44 then (if 6 ≤ k then false else true) else if c = 59 then (if k < 2 then false else true) else false
def pg_songs (len : Nat) : Int32 := if (nI len - 1) / 3 < 6 then (nI len - 1) / 3 else 6
def sa_holds (b p : Int32) : Bool := if p < 0 then false else if 6 ≤ p then false else if (b >>> (p &&& 31)) &&& 1 = 1 then true else false
def bk_has (nm : Nat) (p : Int32) : Bool := if p < 0 then false else if nI nm ≤ p then false else true
def bk_all (nm : Nat) : Int32 := (1 <<< (nI nm &&& 31)) - 1
def bk_is (ks : Nat → Int32) (s k : Int32) : Bool := if k = rw_at 6 ks s then true else if k = 0 then true else if k = 2 then (if rw_at 6 ks s = 4 then true else false) else false
def bk_wof (k : Int32) : Int32 := if k = 2 then 2 else if k = 4 then 3 else 1
def bk_wt (wt : Nat → Int32) (b : Int32) : Nat → Int32
  | 0 => 0
  | j + 1 => bk_wt wt b j + (if sa_holds b (nI j) then rw_at 6 wt (nI j) else 0)
def bk_mf (ks gs : Nat → Int32) (l : Int32) : Nat → Int32
  | 0 => 0
  | j + 1 => if rw_at 6 gs (nI j) = rw_at 6 gs l then (if rw_at 6 ks (nI j) = 3 then bk_mf ks gs l j ||| (1 <<< (nI j &&& 31)) else bk_mf ks gs l j) else bk_mf ks gs l j ||| (1 <<< (nI j &&& 31))
def bk_fb (r : Int32) : Bool := if r = 2 then true else if r = 3 then true else false
def bk_ns (r : Int32) : Bool := if r = 1 then true else if r = 3 then true else false
def bk_pool (nm : Nat) (r b : Int32) : Int32 := if bk_fb r then b else bk_all nm
def bk_may (nm : Nat) (ks gs : Nat → Int32) (r b l : Int32) : Int32 := if bk_ns r then (if l = -1 then bk_pool nm r b else if bk_pool nm r b &&& bk_mf ks gs l nm = 0 then bk_pool nm r b else bk_pool nm r b &&& bk_mf ks gs l nm) else bk_pool nm r b
def bk_bag (nm : Nat) (b s : Int32) : Int32 := if b &&& ((1 <<< (s &&& 31)) ^^^ (-1)) = 0 then bk_all nm else b &&& ((1 <<< (s &&& 31)) ^^^ (-1))
def od_un (gs : Nat → Int32) (s o : Int32) : Bool := if rw_at 6 gs s = rw_at 6 gs o then false else true
def od_tf (wy fi : Nat → Int32) (nu : Int32) : Nat → Int32 := if nu = 0 then rw_cp wy fi 6 else fi
def od_tl (fl nu len : Int32) : Int32 := if nu = 0 then len else fl
def od_fact (fi : Nat → Int32) (fl nu w : Int32) : Int32 := if w = 0 then nu else if w - 10 < 0 then -1 else if fl ≤ w - 10 then -1 else rw_at 6 fi (w - 10)
theorem vz_look2 {x : Int32} {d : Int} {a b : Int} {o1 o2 : Int} (h1 : ¬ x.toInt = a) (h2 : ¬ x.toInt = b) : Op.lookupswitch.offset (#[(a, o1), (b, o2)] : Array (Int × Int)).toList d x.toInt = d := by
  simp [Op.lookupswitch.offset, Ne.symm h1, Ne.symm h2, fun h : a = x.toInt => h1 h.symm, fun h : b = x.toInt => h2 h.symm]
theorem vz_neI {x y : Int32} {k : Int} (h : ¬ x = y) (hk : y.toInt = k) : ¬ x.toInt = k := fun z => h (Int32.toInt_inj.mp (z.trans hk.symm))

abbrev zFr (cI : ClassId) (a : Nat) (up : Int64) (lo : Int64) : va_W := [(a, .inr (1, [.long up, .long lo]))]
abbrev zFrFr (cI : ClassId) (a : Nat) (up : Int64) (lo : Int64) (a2 : Nat) (up2 : Int64) (lo2 : Int64) : va_W := [(a, .inr (1, [.long up, .long lo])), (a2, .inr (1, [.long up2, .long lo2]))]
set_option maxHeartbeats 4000000 in
set_option maxRecDepth 100000 in
theorem c_X1_commonDivisor (l : Launch) (p0 : Int64) (p1 : Int64) : Met l yX1_commonDivisor wsX1_commonDivisor ({ frames := 0, cells := 0, slots := 0, locals := 0 } : Room) (vz_st [.long p0, .long p1]) (vp_Sl (fun r => r = fr_cd p0 p1)) 0 0 (fun _ => False) := by
  refine Met.ofW (cc := cX1_commonDivisor) (maxL := 11) (ret := (some .long)) (by decide) rfl ?_
  intro p e s m args below meth c s₁ B hml hv
  obtain ⟨rfl, -⟩ := hv
  have hx := B.exec
  have hb := B.bytes
  have hr := B.returns
  have hts := atoms_spec (ws := wsX1_commonDivisor) B.pre
  have hown : s.vm.findClass RX1 = some m.cls := findClass_of_methodNamed B.named
  have hlocks := B.notSynchronized
  have hl := lv_entry ([.long p0, .long p1]) (n := 11) (Nat.le_of_ble_eq_true rfl)
  rw [lg_entry_eq]
  generalize (lg_sl ([.long p0, .long p1]) ++ List.replicate (11 - (lg_sl ([.long p0, .long p1])).length) Slot.unset).toArray = ls at hl ⊢
  have hl : lv_has ls 11 [(0, .long p0), (2, .long p1)] := hl
  refine lv_lload_n hx hb dX1_commonDivisor_0 rfl (lv_at hl 0 rfl) ?_
  refine lv_lstore (lv' := [(4, .long p0), (0, .long p0), (2, .long p1)]) hx hb dX1_commonDivisor_1 hl (by decide) rfl (fun ls hl => ?_)
  refine lv_lload_n hx hb dX1_commonDivisor_3 rfl (lv_at hl 2 rfl) ?_
  refine lv_lstore (lv' := [(6, .long p1), (4, .long p0), (0, .long p0), (2, .long p1)]) hx hb dX1_commonDivisor_4 hl (by decide) rfl (fun ls hl => ?_)
  refine lv_iconst (v := 0) hx hb dX1_commonDivisor_6 (by decide) ?_
  refine lv_istore (lv' := [(8, .int 0), (6, .long p1), (4, .long p0), (0, .long p0), (2, .long p1)]) hx hb dX1_commonDivisor_7 hl (by decide) rfl (fun ls hl => ?_)
  have L_9 : ∀ (d_9 : Nat) (j : Nat) (x : Int64) (y : Int64), 128 - j < d_9 → (j ≤ 128) → (fr_cd p0 p1 = fr_gcd (128 - j) x y) → ∀ (ls : Array Slot), lv_has ls 11 [(8, .int (nI j)), (6, .long y), (4, .long x), (0, .long p0), (2, .long p1)] → W p l e ({ frames := 0, cells := 0, slots := 0, locals := 0 } : Room) s m ([.long p0, .long p1] : List Value).toArray below meth c s.heap [] 0 0 (MQ below (vp_Sl (fun r => r = fr_cd p0 p1)) ([.long p0, .long p1] : List Value).toArray s 0 0 (fun _ => False)) (F0 m 9 ls []) := by
    intro d_9
    induction d_9 with
    | zero => intro j x y hd; exact absurd hd (Nat.not_lt_zero _)
    | succ d_9 ih_9 =>
      intro j x y hd_9 hj hres ls hl
      refine lv_iload hx hb dX1_commonDivisor_9 (lv_at hl 0 rfl) ?_
      refine lv_sipush (v := 128) hx hb dX1_commonDivisor_11 (by decide) ?_
      refine lv_icmp_ge (tgt := 45) hx hb dX1_commonDivisor_14 (by decide) (fun c_14 => ?_) (fun c_14 => ?_)
      · skip
        have hje : j = 128 := Nat.le_antisymm hj (vz_ge (n := 128) c_14 (by omega) (by omega))
        refine lv_lload hx hb dX1_commonDivisor_45 (lv_at hl 2 rfl) ?_
        exact W.lret hx hb hr (fun t ht hW => ⟨_, rfl, (by first | (rw [hres, show 128 - j = 0 by omega] ; rfl) | (rw [hres, show 128 - j = (128 - (j + 1)) + 1 by omega, fr_gcd, if_pos c_21])), ht⟩) (fun q h => absurd h List.not_mem_nil) dX1_commonDivisor_47
      · skip
        have hlt : j < 128 := vz_lt (n := 128) c_14 (by omega)
        refine lv_lload hx hb dX1_commonDivisor_17 (lv_at hl 1 rfl) ?_
        refine lv_lconst (v := 0) hx hb dX1_commonDivisor_19 (by decide) ?_
        refine W.lcmp hx hb dX1_commonDivisor_20 ?_
        refine lv_if_eq (tgt := 45) hx hb dX1_commonDivisor_21 (by decide) (fun c_21 => ?_) (fun c_21 => ?_)
        · skip
          replace c_21 := (lg_cmp_eq _ _).mp c_21
          refine lv_lload hx hb dX1_commonDivisor_45 (lv_at hl 2 rfl) ?_
          exact W.lret hx hb hr (fun t ht hW => ⟨_, rfl, (by first | (rw [hres, show 128 - j = 0 by omega] ; rfl) | (rw [hres, show 128 - j = (128 - (j + 1)) + 1 by omega, fr_gcd, if_pos c_21])), ht⟩) (fun q h => absurd h List.not_mem_nil) dX1_commonDivisor_47
        · skip
          replace c_21 := mt (lg_cmp_eq _ _).mpr c_21
          refine lv_lload hx hb dX1_commonDivisor_24 (lv_at hl 2 rfl) ?_
          refine lv_lload hx hb dX1_commonDivisor_26 (lv_at hl 1 rfl) ?_
          refine lv_lrem hx hb dX1_commonDivisor_28 (c_21) ?_
          refine lv_lstore (lv' := [(9, .long (x - x / y * y)), (8, .int (nI j)), (6, .long y), (4, .long x), (0, .long p0), (2, .long p1)]) hx hb dX1_commonDivisor_29 hl (by decide) rfl (fun ls hl => ?_)
          refine lv_lload hx hb dX1_commonDivisor_31 (lv_at hl 2 rfl) ?_
          refine lv_lstore (lv' := [(4, .long y), (9, .long (x - x / y * y)), (8, .int (nI j)), (6, .long y), (0, .long p0), (2, .long p1)]) hx hb dX1_commonDivisor_33 hl (by decide) rfl (fun ls hl => ?_)
          refine lv_lload hx hb dX1_commonDivisor_35 (lv_at hl 1 rfl) ?_
          refine lv_lstore (lv' := [(6, .long (x - x / y * y)), (4, .long y), (9, .long (x - x / y * y)), (8, .int (nI j)), (0, .long p0), (2, .long p1)]) hx hb dX1_commonDivisor_37 hl (by decide) rfl (fun ls hl => ?_)
          refine lv_iinc (v := nI (j + 1)) (lv' := [(8, .int (nI (j + 1))), (6, .long (x - x / y * y)), (4, .long y), (9, .long (x - x / y * y)), (0, .long p0), (2, .long p1)]) hx hb dX1_commonDivisor_39 hl (k := 3) rfl (vz_inc _) (by decide) rfl (fun ls hl => ?_)
          refine lv_goto (tgt := 9) hx hb dX1_commonDivisor_42 (by decide) ?_
          exact ih_9 (j + 1) y (x - x / y * y) (by omega) (by omega) (by rw [hres, show 128 - j = (128 - (j + 1)) + 1 by omega, fr_gcd, if_neg c_21]) ls (lv_sub hl [0, 1, 2, 4, 5] rfl)
  exact L_9 _ 0 p0 p1 (Nat.lt_succ_self _) (Nat.zero_le _) rfl ls (lv_sub hl [0, 1, 2, 3, 4] rfl)
set_option maxHeartbeats 4000000 in
set_option maxRecDepth 100000 in
theorem c_X1_become (l : Launch) (D : va_G) (cI : ClassId) (a : Nat) (up : Int64) (lo : Int64) (sz : Nat) (p0 : Int64) (p1 : Int64) : Met l yX1_become wsX1_become ({ frames := 1, cells := 0, slots := 0, locals := 30 } : Room) (vz_rw D cI (zFr cI a up lo) sz [.ref a, .long p0, .long p1]) (va_Qv (fun (_ : Unit) => True) (fun (u : Unit) (t : State) => va_P D vwCl (zFr cI a (fr_q (fr_cd p0 p1) p0 up) (fr_q (fr_cd p0 p1) p1 lo)) t.heap) (va_A (zFr cI a up lo) sz)) 0 0 (va_A (zFr cI a up lo) sz) := by
  refine Met.ofW (cc := cX1_become) (maxL := 7) (ret := none) (by decide) rfl ?_
  intro p e s m args below meth c s₁ B hml hv
  obtain ⟨rfl, hsz, hP, hZ, hD0⟩ := hv
  obtain ⟨hK, hN⟩ := id hZ
  have hx := B.exec
  have hb := B.bytes
  have hr := B.returns
  have hts := atoms_spec (ws := wsX1_become) B.pre
  have hown : s.vm.findClass RX1 = some m.cls := findClass_of_methodNamed B.named
  have hlocks := B.notSynchronized
  subst hsz
  have hD := hD0.self (sz := s.heap.size)
  generalize hAe : va_A (zFr cI a up lo) s.heap.size = A at hD ⊢
  have hA : ∀ q : Nat, s.heap.size ≤ q → A q := fun q h => by rw [← hAe]; exact Or.inr h
  have hS : va_S A s.heap s.heap [] := va_S.rf
  have k7 := hts (.fieldLink RX1 7 "SongsAgain$Fraction" "above" "J") (List.mem_of_getElem? (i := 1) rfl)
  have k13 := hts (.fieldLink RX1 13 "SongsAgain$Fraction" "below" "J") (List.mem_of_getElem? (i := 2) rfl)
  have iX1 : ∀ w ∈ u_ws RX1 TX1 2, w ∈ wsX1_become := vz_in (i := 7) (n := 2) rfl
  have hl := lv_entry ([.ref a, .long p0, .long p1]) (n := 7) (Nat.le_of_ble_eq_true rfl)
  rw [lg_entry_eq]
  generalize (lg_sl ([.ref a, .long p0, .long p1]) ++ List.replicate (7 - (lg_sl ([.ref a, .long p0, .long p1])).length) Slot.unset).toArray = ls at hl ⊢
  have hl : lv_has ls 7 [(0, .ref a), (1, .long p0), (3, .long p1)] := hl
  have hP : va_P D vwCl (zFr cI a up lo) s.heap := hP
  refine lv_lload_n hx hb dX1_become_0 rfl (lv_at hl 1 rfl) ?_
  refine lv_lload_n hx hb dX1_become_1 rfl (lv_at hl 2 rfl) ?_
  refine vp_callSl (W.runS (As := [.long p0, .long p1]) (rest := []) ⟨hx, hb, hml, hown, hts⟩ (c_X1_commonDivisor l p0 p1) (va_cwS 2 hts gX1_become_X1_commonDivisor rfl rfl rfl (by decide +kernel) ⟨Nat.le_of_ble_eq_true rfl, Nat.le_of_ble_eq_true rfl⟩) (vz_psS) rfl rfl hl.1 rfl (lv_room (Nat.le_of_ble_eq_true rfl)) dX1_become_2 ⟨Nat.zero_le _, Nat.zero_le _⟩) (fun r_2 hr_2 => ?_)
  subst hr_2
  refine lv_lstore (lv' := [(5, .long (fr_cd p0 p1)), (0, .ref a), (1, .long p0), (3, .long p1)]) hx hb dX1_become_5 hl (by decide) rfl (fun ls hl => ?_)
  refine lv_lload hx hb dX1_become_7 (lv_at hl 0 rfl) ?_
  refine lv_lconst (v := 0) hx hb dX1_become_9 (by decide) ?_
  refine W.lcmp hx hb dX1_become_10 ?_
  refine lv_if_le (tgt := 30) hx hb dX1_become_11 (by decide) (fun c_11 => ?_) (fun c_11 => ?_)
  · skip
    replace c_11 := (lg_cmp_le _ _).mp c_11
    have en_up : fr_q (fr_cd p0 p1) p0 up = up := by first | rfl | (simp only [fr_q, if_pos c_11]; done) | (simp only [fr_q, if_pos c_11]; rfl) | (simp only [fr_q, c_11, ↓reduceIte, Bool.false_eq_true, if_true, if_false, reduceCtorEq, not_true_eq_false, not_false_eq_true, eq_self]; done) | (simp only [fr_q, c_11, ↓reduceIte, Bool.false_eq_true, if_true, if_false, reduceCtorEq, not_true_eq_false, not_false_eq_true, eq_self]; rfl) | (simp [fr_q, c_11]; done)
    have en_lo : fr_q (fr_cd p0 p1) p1 lo = lo := by first | rfl | (simp only [fr_q, if_pos c_11]; done) | (simp only [fr_q, if_pos c_11]; rfl) | (simp only [fr_q, c_11, ↓reduceIte, Bool.false_eq_true, if_true, if_false, reduceCtorEq, not_true_eq_false, not_false_eq_true, eq_self]; done) | (simp only [fr_q, c_11, ↓reduceIte, Bool.false_eq_true, if_true, if_false, reduceCtorEq, not_true_eq_false, not_false_eq_true, eq_self]; rfl) | (simp [fr_q, c_11]; done)
    exact W.vret hx hb hr (fun t ht hW => ⟨⟨(), rfl, trivial, (by show va_P D vwCl (zFr cI a (fr_q (fr_cd p0 p1) p0 up) (fr_q (fr_cd p0 p1) p1 lo)) t.heap; rw [ht, en_up, en_lo]; exact hP)⟩, hS.F ht⟩) hS.2.2 dX1_become_30
  · skip
    replace c_11 := mt (lg_cmp_le _ _).mpr c_11
    refine lv_aload_n hx hb dX1_become_14 rfl (lv_at hl 1 rfl) ?_
    refine lv_lload_n hx hb dX1_become_15 rfl (lv_at hl 2 rfl) ?_
    refine lv_lload hx hb dX1_become_16 (lv_at hl 0 rfl) ?_
    refine lv_ldiv hx hb dX1_become_18 (fun h => c_11 (by rw [h]; decide)) ?_
    refine va_put (D := D) (ci := 1) (v := .long (p0 / (fr_cd p0 p1))) (ty := .long) (C := RX1) (T := TX1) (N := 2) hx hb hts iX1 tyX1 tyX1_ok nmX1 hown hK hP hD hS 0 rfl rfl 0 (by decide) k7 (fun _ h9 => h9) rfl (by decide +kernel) rfl rfl (Nat.le_of_ble_eq_true rfl) dX1_become_19 (fun H_19 locs_19 hP9 hD9 hS9 => ?_)
    replace hP : va_P D vwCl (zFr cI a (p0 / (fr_cd p0 p1)) lo) H_19 := hP9
    replace hD : va_D A (zFr cI a (p0 / (fr_cd p0 p1)) lo) := hD9
    replace hS := hS9
    clear hP9 hD9 hS9
    refine lv_aload_n hx hb dX1_become_22 rfl (lv_at hl 1 rfl) ?_
    refine lv_lload_n hx hb dX1_become_23 rfl (lv_at hl 3 rfl) ?_
    refine lv_lload hx hb dX1_become_24 (lv_at hl 0 rfl) ?_
    refine lv_ldiv hx hb dX1_become_26 (fun h => c_11 (by rw [h]; decide)) ?_
    refine va_put (D := D) (ci := 1) (v := .long (p1 / (fr_cd p0 p1))) (ty := .long) (C := RX1) (T := TX1) (N := 2) hx hb hts iX1 tyX1 tyX1_ok nmX1 hown hK hP hD hS 0 rfl rfl 1 (by decide) k13 (fun _ h9 => h9) rfl (by decide +kernel) rfl rfl (Nat.le_of_ble_eq_true rfl) dX1_become_27 (fun H_27 locs_27 hP9 hD9 hS9 => ?_)
    replace hP : va_P D vwCl (zFr cI a (p0 / (fr_cd p0 p1)) (p1 / (fr_cd p0 p1))) H_27 := hP9
    replace hD : va_D A (zFr cI a (p0 / (fr_cd p0 p1)) (p1 / (fr_cd p0 p1))) := hD9
    replace hS := hS9
    clear hP9 hD9 hS9
    have en_up : fr_q (fr_cd p0 p1) p0 up = p0 / (fr_cd p0 p1) := by first | rfl | (simp only [fr_q, if_neg c_11]; done) | (simp only [fr_q, if_neg c_11]; rfl) | (simp only [fr_q, c_11, ↓reduceIte, Bool.false_eq_true, if_true, if_false, reduceCtorEq, not_true_eq_false, not_false_eq_true, eq_self]; done) | (simp only [fr_q, c_11, ↓reduceIte, Bool.false_eq_true, if_true, if_false, reduceCtorEq, not_true_eq_false, not_false_eq_true, eq_self]; rfl) | (simp [fr_q, c_11]; done)
    have en_lo : fr_q (fr_cd p0 p1) p1 lo = p1 / (fr_cd p0 p1) := by first | rfl | (simp only [fr_q, if_neg c_11]; done) | (simp only [fr_q, if_neg c_11]; rfl) | (simp only [fr_q, c_11, ↓reduceIte, Bool.false_eq_true, if_true, if_false, reduceCtorEq, not_true_eq_false, not_false_eq_true, eq_self]; done) | (simp only [fr_q, c_11, ↓reduceIte, Bool.false_eq_true, if_true, if_false, reduceCtorEq, not_true_eq_false, not_false_eq_true, eq_self]; rfl) | (simp [fr_q, c_11]; done)
    exact W.vret hx hb hr (fun t ht hW => ⟨⟨(), rfl, trivial, (by show va_P D vwCl (zFr cI a (fr_q (fr_cd p0 p1) p0 up) (fr_q (fr_cd p0 p1) p1 lo)) t.heap; rw [ht, en_up, en_lo]; exact hP)⟩, hS.F ht⟩) hS.2.2 dX1_become_30
set_option maxHeartbeats 4000000 in
set_option maxRecDepth 100000 in
theorem c_X1_multiply (l : Launch) (D : va_G) (cI : ClassId) (a : Nat) (up : Int64) (lo : Int64) (sz : Nat) (p0 : Int64) (p1 : Int64) : Met l yX1_multiply wsX1_multiply ({ frames := 2, cells := 0, slots := 0, locals := 56 } : Room) (vz_rw D cI (zFr cI a up lo) sz [.ref a, .long p0, .long p1]) (va_Qv (fun (_ : Unit) => True) (fun (u : Unit) (t : State) => va_P D vwCl (zFr cI a (fr_mu up lo p0 p1) (fr_ml up lo p0 p1)) t.heap) (va_A (zFr cI a up lo) sz)) 0 0 (va_A (zFr cI a up lo) sz) := by
  refine Met.ofW (cc := cX1_multiply) (maxL := 5) (ret := none) (by decide) rfl ?_
  intro p e s m args below meth c s₁ B hml hv
  obtain ⟨rfl, hsz, hP, hZ, hD0⟩ := hv
  obtain ⟨hK, hN⟩ := id hZ
  have hx := B.exec
  have hb := B.bytes
  have hr := B.returns
  have hts := atoms_spec (ws := wsX1_multiply) B.pre
  have hown : s.vm.findClass RX1 = some m.cls := findClass_of_methodNamed B.named
  have hlocks := B.notSynchronized
  subst hsz
  have hD := hD0.self (sz := s.heap.size)
  generalize hAe : va_A (zFr cI a up lo) s.heap.size = A at hD ⊢
  have hA : ∀ q : Nat, s.heap.size ≤ q → A q := fun q h => by rw [← hAe]; exact Or.inr h
  have hS : va_S A s.heap s.heap [] := va_S.rf
  have k7 := hts (.fieldLink RX1 7 "SongsAgain$Fraction" "above" "J") (List.mem_of_getElem? (i := 1) rfl)
  have k13 := hts (.fieldLink RX1 13 "SongsAgain$Fraction" "below" "J") (List.mem_of_getElem? (i := 2) rfl)
  have iX1 : ∀ w ∈ u_ws RX1 TX1 2, w ∈ wsX1_multiply := vz_in (i := 11) (n := 2) rfl
  have hl := lv_entry ([.ref a, .long p0, .long p1]) (n := 5) (Nat.le_of_ble_eq_true rfl)
  rw [lg_entry_eq]
  generalize (lg_sl ([.ref a, .long p0, .long p1]) ++ List.replicate (5 - (lg_sl ([.ref a, .long p0, .long p1])).length) Slot.unset).toArray = ls at hl ⊢
  have hl : lv_has ls 5 [(0, .ref a), (1, .long p0), (3, .long p1)] := hl
  have hP : va_P D vwCl (zFr cI a up lo) s.heap := hP
  refine lv_aload_n hx hb dX1_multiply_0 rfl (lv_at hl 0 rfl) ?_
  refine lv_aload_n hx hb dX1_multiply_1 rfl (lv_at hl 0 rfl) ?_
  refine va_get (D := D) (ci := 1) (v := .long up) (C := RX1) (T := TX1) (N := 2) hx hb hts iX1 hown hK hP 0 rfl rfl 0 (by decide) k7 (fun _ h9 => h9) rfl dX1_multiply_2 ?_
  refine lv_lload_n hx hb dX1_multiply_5 rfl (lv_at hl 1 rfl) ?_
  refine lv_lmul hx hb dX1_multiply_6 ?_
  refine lv_aload_n hx hb dX1_multiply_7 rfl (lv_at hl 0 rfl) ?_
  refine va_get (D := D) (ci := 1) (v := .long lo) (C := RX1) (T := TX1) (N := 2) hx hb hts iX1 hown hK hP 0 rfl rfl 1 (by decide) k13 (fun _ h9 => h9) rfl dX1_multiply_8 ?_
  refine lv_lload_n hx hb dX1_multiply_11 rfl (lv_at hl 2 rfl) ?_
  refine lv_lmul hx hb dX1_multiply_12 ?_
  have hPc := hP
  have hDc := hD
  have hFc : ∀ q, va_A (zFr cI a up lo) s.heap.size q → A q := vz_freeAll hD hS hA
  refine va_callv (va_runV (As := [.long (up * p0), .long (lo * p1)]) (rest := []) ⟨hx, hb, hml, hown, hts⟩ (c_X1_become l D cI a up lo s.heap.size (up * p0) (lo * p1)) (cwV 2 hts gX1_multiply_X1_become rfl rfl rfl (by decide +kernel) ⟨Nat.le_of_ble_eq_true rfl, Nat.le_of_ble_eq_true rfl⟩) (vz_pvW (va_recv hK hP (ci := 1) (q0 := 0) rfl rfl) hZ hPc hDc) rfl rfl hl.1 rfl (lv_room (Nat.le_of_ble_eq_true rfl)) dX1_multiply_13 ⟨Nat.zero_le _, Nat.zero_le _⟩) hS (fun q _ h => hFc q h) hFc (fun u_13 t H_13 locs_13 ht hvm hw hB hz1 hk1 hS9 => ?_)
  rw [ht] at hB
  replace hP : va_P D vwCl (zFr cI a (fr_q (fr_cd (up * p0) (lo * p1)) (up * p0) up) (fr_q (fr_cd (up * p0) (lo * p1)) (lo * p1) lo)) H_13 := hB
  replace hD : va_D A (zFr cI a (fr_q (fr_cd (up * p0) (lo * p1)) (up * p0) up) (fr_q (fr_cd (up * p0) (lo * p1)) (lo * p1) lo)) := vz_same hD rfl
  replace hS := hS9
  clear hS9 hPc hDc hFc hB hk1 hz1
  have en_up : fr_mu up lo p0 p1 = fr_q (fr_cd (up * p0) (lo * p1)) (up * p0) up := by first | rfl | (simp only [fr_mu, fr_ml]; done) | (simp only [fr_mu, fr_ml]; rfl) | (simp only [fr_mu, fr_ml, ↓reduceIte, Bool.false_eq_true, if_true, if_false, reduceCtorEq, not_true_eq_false, not_false_eq_true, eq_self]; done) | (simp only [fr_mu, fr_ml, ↓reduceIte, Bool.false_eq_true, if_true, if_false, reduceCtorEq, not_true_eq_false, not_false_eq_true, eq_self]; rfl) | (simp [fr_mu, fr_ml]; done)
  have en_lo : fr_ml up lo p0 p1 = fr_q (fr_cd (up * p0) (lo * p1)) (lo * p1) lo := by first | rfl | (simp only [fr_mu, fr_ml]; done) | (simp only [fr_mu, fr_ml]; rfl) | (simp only [fr_mu, fr_ml, ↓reduceIte, Bool.false_eq_true, if_true, if_false, reduceCtorEq, not_true_eq_false, not_false_eq_true, eq_self]; done) | (simp only [fr_mu, fr_ml, ↓reduceIte, Bool.false_eq_true, if_true, if_false, reduceCtorEq, not_true_eq_false, not_false_eq_true, eq_self]; rfl) | (simp [fr_mu, fr_ml]; done)
  exact W.vret hx hb hr (fun t ht hW => ⟨⟨(), rfl, trivial, (by show va_P D vwCl (zFr cI a (fr_mu up lo p0 p1) (fr_ml up lo p0 p1)) t.heap; rw [ht, en_up, en_lo]; exact hP)⟩, hS.F ht⟩) hS.2.2 dX1_multiply_16
set_option maxHeartbeats 4000000 in
set_option maxRecDepth 100000 in
theorem c_X1_add (l : Launch) (D : va_G) (cI : ClassId) (a : Nat) (up : Int64) (lo : Int64) (sz : Nat) (p0 : Int64) (p1 : Int64) : Met l yX1_add wsX1_add ({ frames := 2, cells := 0, slots := 0, locals := 56 } : Room) (vz_rw D cI (zFr cI a up lo) sz [.ref a, .long p0, .long p1]) (va_Qv (fun (_ : Unit) => True) (fun (u : Unit) (t : State) => va_P D vwCl (zFr cI a (fr_au up lo p0 p1) (fr_al up lo p0 p1)) t.heap) (va_A (zFr cI a up lo) sz)) 0 0 (va_A (zFr cI a up lo) sz) := by
  refine Met.ofW (cc := cX1_add) (maxL := 9) (ret := none) (by decide) rfl ?_
  intro p e s m args below meth c s₁ B hml hv
  obtain ⟨rfl, hsz, hP, hZ, hD0⟩ := hv
  obtain ⟨hK, hN⟩ := id hZ
  have hx := B.exec
  have hb := B.bytes
  have hr := B.returns
  have hts := atoms_spec (ws := wsX1_add) B.pre
  have hown : s.vm.findClass RX1 = some m.cls := findClass_of_methodNamed B.named
  have hlocks := B.notSynchronized
  subst hsz
  have hD := hD0.self (sz := s.heap.size)
  generalize hAe : va_A (zFr cI a up lo) s.heap.size = A at hD ⊢
  have hA : ∀ q : Nat, s.heap.size ≤ q → A q := fun q h => by rw [← hAe]; exact Or.inr h
  have hS : va_S A s.heap s.heap [] := va_S.rf
  have k7 := hts (.fieldLink RX1 7 "SongsAgain$Fraction" "above" "J") (List.mem_of_getElem? (i := 2) rfl)
  have k13 := hts (.fieldLink RX1 13 "SongsAgain$Fraction" "below" "J") (List.mem_of_getElem? (i := 1) rfl)
  have iX1 : ∀ w ∈ u_ws RX1 TX1 2, w ∈ wsX1_add := vz_in (i := 11) (n := 2) rfl
  have hl := lv_entry ([.ref a, .long p0, .long p1]) (n := 9) (Nat.le_of_ble_eq_true rfl)
  rw [lg_entry_eq]
  generalize (lg_sl ([.ref a, .long p0, .long p1]) ++ List.replicate (9 - (lg_sl ([.ref a, .long p0, .long p1])).length) Slot.unset).toArray = ls at hl ⊢
  have hl : lv_has ls 9 [(0, .ref a), (1, .long p0), (3, .long p1)] := hl
  have hP : va_P D vwCl (zFr cI a up lo) s.heap := hP
  refine lv_aload_n hx hb dX1_add_0 rfl (lv_at hl 0 rfl) ?_
  refine va_get (D := D) (ci := 1) (v := .long lo) (C := RX1) (T := TX1) (N := 2) hx hb hts iX1 hown hK hP 0 rfl rfl 1 (by decide) k13 (fun _ h9 => h9) rfl dX1_add_1 ?_
  refine lv_lload_n hx hb dX1_add_4 rfl (lv_at hl 2 rfl) ?_
  refine vp_callSl (W.runS (As := [.long lo, .long p1]) (rest := []) ⟨hx, hb, hml, hown, hts⟩ (c_X1_commonDivisor l lo p1) (va_cwS 2 hts gX1_add_X1_commonDivisor rfl rfl rfl (by decide +kernel) ⟨Nat.le_of_ble_eq_true rfl, Nat.le_of_ble_eq_true rfl⟩) (vz_psS) rfl rfl hl.1 rfl (lv_room (Nat.le_of_ble_eq_true rfl)) dX1_add_5 ⟨Nat.zero_le _, Nat.zero_le _⟩) (fun r_5 hr_5 => ?_)
  subst hr_5
  refine lv_lstore (lv' := [(5, .long (fr_cd lo p1)), (0, .ref a), (1, .long p0), (3, .long p1)]) hx hb dX1_add_8 hl (by decide) rfl (fun ls hl => ?_)
  refine lv_lload hx hb dX1_add_10 (lv_at hl 0 rfl) ?_
  refine lv_lconst (v := 0) hx hb dX1_add_12 (by decide) ?_
  refine W.lcmp hx hb dX1_add_13 ?_
  refine lv_if_le (tgt := 51) hx hb dX1_add_14 (by decide) (fun c_14 => ?_) (fun c_14 => ?_)
  · skip
    replace c_14 := (lg_cmp_le _ _).mp c_14
    have en_up : fr_au up lo p0 p1 = up := by first | rfl | (simp only [fr_au, fr_al, if_pos c_14]; done) | (simp only [fr_au, fr_al, if_pos c_14]; rfl) | (simp only [fr_au, fr_al, c_14, ↓reduceIte, Bool.false_eq_true, if_true, if_false, reduceCtorEq, not_true_eq_false, not_false_eq_true, eq_self]; done) | (simp only [fr_au, fr_al, c_14, ↓reduceIte, Bool.false_eq_true, if_true, if_false, reduceCtorEq, not_true_eq_false, not_false_eq_true, eq_self]; rfl) | (simp [fr_au, fr_al, c_14]; done)
    have en_lo : fr_al up lo p0 p1 = lo := by first | rfl | (simp only [fr_au, fr_al, if_pos c_14]; done) | (simp only [fr_au, fr_al, if_pos c_14]; rfl) | (simp only [fr_au, fr_al, c_14, ↓reduceIte, Bool.false_eq_true, if_true, if_false, reduceCtorEq, not_true_eq_false, not_false_eq_true, eq_self]; done) | (simp only [fr_au, fr_al, c_14, ↓reduceIte, Bool.false_eq_true, if_true, if_false, reduceCtorEq, not_true_eq_false, not_false_eq_true, eq_self]; rfl) | (simp [fr_au, fr_al, c_14]; done)
    exact W.vret hx hb hr (fun t ht hW => ⟨⟨(), rfl, trivial, (by show va_P D vwCl (zFr cI a (fr_au up lo p0 p1) (fr_al up lo p0 p1)) t.heap; rw [ht, en_up, en_lo]; exact hP)⟩, hS.F ht⟩) hS.2.2 dX1_add_51
  · skip
    replace c_14 := mt (lg_cmp_le _ _).mpr c_14
    refine lv_lload_n hx hb dX1_add_17 rfl (lv_at hl 3 rfl) ?_
    refine lv_lload hx hb dX1_add_18 (lv_at hl 0 rfl) ?_
    refine lv_ldiv hx hb dX1_add_20 (fun h => c_14 (by rw [h]; decide)) ?_
    refine lv_lstore (lv' := [(7, .long (p1 / (fr_cd lo p1))), (5, .long (fr_cd lo p1)), (0, .ref a), (1, .long p0), (3, .long p1)]) hx hb dX1_add_21 hl (by decide) rfl (fun ls hl => ?_)
    refine lv_aload_n hx hb dX1_add_23 rfl (lv_at hl 2 rfl) ?_
    refine lv_aload_n hx hb dX1_add_24 rfl (lv_at hl 2 rfl) ?_
    refine va_get (D := D) (ci := 1) (v := .long up) (C := RX1) (T := TX1) (N := 2) hx hb hts iX1 hown hK hP 0 rfl rfl 0 (by decide) k7 (fun _ h9 => h9) rfl dX1_add_25 ?_
    refine lv_lload hx hb dX1_add_28 (lv_at hl 0 rfl) ?_
    refine lv_lmul hx hb dX1_add_30 ?_
    refine lv_lload_n hx hb dX1_add_31 rfl (lv_at hl 3 rfl) ?_
    refine lv_aload_n hx hb dX1_add_32 rfl (lv_at hl 2 rfl) ?_
    refine va_get (D := D) (ci := 1) (v := .long lo) (C := RX1) (T := TX1) (N := 2) hx hb hts iX1 hown hK hP 0 rfl rfl 1 (by decide) k13 (fun _ h9 => h9) rfl dX1_add_33 ?_
    refine lv_lload hx hb dX1_add_36 (lv_at hl 1 rfl) ?_
    refine lv_ldiv hx hb dX1_add_38 (fun h => c_14 (by rw [h]; decide)) ?_
    refine lv_lmul hx hb dX1_add_39 ?_
    refine lv_ladd hx hb dX1_add_40 ?_
    refine lv_aload_n hx hb dX1_add_41 rfl (lv_at hl 2 rfl) ?_
    refine va_get (D := D) (ci := 1) (v := .long lo) (C := RX1) (T := TX1) (N := 2) hx hb hts iX1 hown hK hP 0 rfl rfl 1 (by decide) k13 (fun _ h9 => h9) rfl dX1_add_42 ?_
    refine lv_lload hx hb dX1_add_45 (lv_at hl 0 rfl) ?_
    refine lv_lmul hx hb dX1_add_47 ?_
    have hPc := hP
    have hDc := hD
    have hFc : ∀ q, va_A (zFr cI a up lo) s.heap.size q → A q := vz_freeAll hD hS hA
    refine va_callv (va_runV (As := [.long ((up * (p1 / (fr_cd lo p1))) + (p0 * (lo / (fr_cd lo p1)))), .long (lo * (p1 / (fr_cd lo p1)))]) (rest := []) ⟨hx, hb, hml, hown, hts⟩ (c_X1_become l D cI a up lo s.heap.size ((up * (p1 / (fr_cd lo p1))) + (p0 * (lo / (fr_cd lo p1)))) (lo * (p1 / (fr_cd lo p1)))) (cwV 2 hts gX1_add_X1_become rfl rfl rfl (by decide +kernel) ⟨Nat.le_of_ble_eq_true rfl, Nat.le_of_ble_eq_true rfl⟩) (vz_pvW (va_recv hK hP (ci := 1) (q0 := 0) rfl rfl) hZ hPc hDc) rfl rfl hl.1 rfl (lv_room (Nat.le_of_ble_eq_true rfl)) dX1_add_48 ⟨Nat.zero_le _, Nat.zero_le _⟩) hS (fun q _ h => hFc q h) hFc (fun u_48 t H_48 locs_48 ht hvm hw hB hz1 hk1 hS9 => ?_)
    rw [ht] at hB
    replace hP : va_P D vwCl (zFr cI a (fr_q (fr_cd ((up * (p1 / (fr_cd lo p1))) + (p0 * (lo / (fr_cd lo p1)))) (lo * (p1 / (fr_cd lo p1)))) ((up * (p1 / (fr_cd lo p1))) + (p0 * (lo / (fr_cd lo p1)))) up) (fr_q (fr_cd ((up * (p1 / (fr_cd lo p1))) + (p0 * (lo / (fr_cd lo p1)))) (lo * (p1 / (fr_cd lo p1)))) (lo * (p1 / (fr_cd lo p1))) lo)) H_48 := hB
    replace hD : va_D A (zFr cI a (fr_q (fr_cd ((up * (p1 / (fr_cd lo p1))) + (p0 * (lo / (fr_cd lo p1)))) (lo * (p1 / (fr_cd lo p1)))) ((up * (p1 / (fr_cd lo p1))) + (p0 * (lo / (fr_cd lo p1)))) up) (fr_q (fr_cd ((up * (p1 / (fr_cd lo p1))) + (p0 * (lo / (fr_cd lo p1)))) (lo * (p1 / (fr_cd lo p1)))) (lo * (p1 / (fr_cd lo p1))) lo)) := vz_same hD rfl
    replace hS := hS9
    clear hS9 hPc hDc hFc hB hk1 hz1
    have en_up : fr_au up lo p0 p1 = fr_q (fr_cd ((up * (p1 / (fr_cd lo p1))) + (p0 * (lo / (fr_cd lo p1)))) (lo * (p1 / (fr_cd lo p1)))) ((up * (p1 / (fr_cd lo p1))) + (p0 * (lo / (fr_cd lo p1)))) up := by first | rfl | (simp only [fr_au, fr_al, if_neg c_14]; done) | (simp only [fr_au, fr_al, if_neg c_14]; rfl) | (simp only [fr_au, fr_al, c_14, ↓reduceIte, Bool.false_eq_true, if_true, if_false, reduceCtorEq, not_true_eq_false, not_false_eq_true, eq_self]; done) | (simp only [fr_au, fr_al, c_14, ↓reduceIte, Bool.false_eq_true, if_true, if_false, reduceCtorEq, not_true_eq_false, not_false_eq_true, eq_self]; rfl) | (simp [fr_au, fr_al, c_14]; done)
    have en_lo : fr_al up lo p0 p1 = fr_q (fr_cd ((up * (p1 / (fr_cd lo p1))) + (p0 * (lo / (fr_cd lo p1)))) (lo * (p1 / (fr_cd lo p1)))) (lo * (p1 / (fr_cd lo p1))) lo := by first | rfl | (simp only [fr_au, fr_al, if_neg c_14]; done) | (simp only [fr_au, fr_al, if_neg c_14]; rfl) | (simp only [fr_au, fr_al, c_14, ↓reduceIte, Bool.false_eq_true, if_true, if_false, reduceCtorEq, not_true_eq_false, not_false_eq_true, eq_self]; done) | (simp only [fr_au, fr_al, c_14, ↓reduceIte, Bool.false_eq_true, if_true, if_false, reduceCtorEq, not_true_eq_false, not_false_eq_true, eq_self]; rfl) | (simp [fr_au, fr_al, c_14]; done)
    exact W.vret hx hb hr (fun t ht hW => ⟨⟨(), rfl, trivial, (by show va_P D vwCl (zFr cI a (fr_au up lo p0 p1) (fr_al up lo p0 p1)) t.heap; rw [ht, en_up, en_lo]; exact hP)⟩, hS.F ht⟩) hS.2.2 dX1_add_51
set_option maxHeartbeats 4000000 in
set_option maxRecDepth 100000 in
theorem c_X1_isMoreThan (l : Launch) (D : va_G) (cI : ClassId) (a : Nat) (up : Int64) (lo : Int64) (a2 : Nat) (up2 : Int64) (lo2 : Int64) : Met l yX1_isMoreThan wsX1_isMoreThan ({ frames := 0, cells := 0, slots := 0, locals := 0 } : Room) (vz_ro D cI (zFrFr cI a up lo a2 up2 lo2) [.ref a, .ref a2]) (vp_Si (fun r => r = vz_b (fr_more up lo up2 lo2))) 0 0 (fun _ => False) := by
  refine Met.ofW (cc := cX1_isMoreThan) (maxL := 2) (ret := (some .boolean)) (by decide) rfl ?_
  intro p e s m args below meth c s₁ B hml hv
  obtain ⟨rfl, hP, hZ⟩ := hv
  obtain ⟨hK, hN⟩ := id hZ
  have hx := B.exec
  have hb := B.bytes
  have hr := B.returns
  have hts := atoms_spec (ws := wsX1_isMoreThan) B.pre
  have hown : s.vm.findClass RX1 = some m.cls := findClass_of_methodNamed B.named
  have hlocks := B.notSynchronized
  have k7 := hts (.fieldLink RX1 7 "SongsAgain$Fraction" "above" "J") (List.mem_of_getElem? (i := 1) rfl)
  have k13 := hts (.fieldLink RX1 13 "SongsAgain$Fraction" "below" "J") (List.mem_of_getElem? (i := 2) rfl)
  have iX1 : ∀ w ∈ u_ws RX1 TX1 2, w ∈ wsX1_isMoreThan := vz_in (i := 3) (n := 2) rfl
  have hl := lv_entry ([.ref a, .ref a2]) (n := 2) (Nat.le_of_ble_eq_true rfl)
  rw [lg_entry_eq]
  generalize (lg_sl ([.ref a, .ref a2]) ++ List.replicate (2 - (lg_sl ([.ref a, .ref a2])).length) Slot.unset).toArray = ls at hl ⊢
  have hl : lv_has ls 2 [(0, .ref a), (1, .ref a2)] := hl
  refine lv_aload_n hx hb dX1_isMoreThan_0 rfl (lv_at hl 0 rfl) ?_
  refine va_get (D := D) (ci := 1) (v := .long up) (C := RX1) (T := TX1) (N := 2) hx hb hts iX1 hown hK hP 0 rfl rfl 0 (by decide) k7 (fun _ h9 => h9) rfl dX1_isMoreThan_1 ?_
  refine lv_aload_n hx hb dX1_isMoreThan_4 rfl (lv_at hl 1 rfl) ?_
  refine va_get (D := D) (ci := 1) (v := .long lo2) (C := RX1) (T := TX1) (N := 2) hx hb hts iX1 hown hK hP 1 rfl rfl 1 (by decide) k13 (fun _ h9 => h9) rfl dX1_isMoreThan_5 ?_
  refine lv_lmul hx hb dX1_isMoreThan_8 ?_
  refine lv_aload_n hx hb dX1_isMoreThan_9 rfl (lv_at hl 1 rfl) ?_
  refine va_get (D := D) (ci := 1) (v := .long up2) (C := RX1) (T := TX1) (N := 2) hx hb hts iX1 hown hK hP 1 rfl rfl 0 (by decide) k7 (fun _ h9 => h9) rfl dX1_isMoreThan_10 ?_
  refine lv_aload_n hx hb dX1_isMoreThan_13 rfl (lv_at hl 0 rfl) ?_
  refine va_get (D := D) (ci := 1) (v := .long lo) (C := RX1) (T := TX1) (N := 2) hx hb hts iX1 hown hK hP 0 rfl rfl 1 (by decide) k13 (fun _ h9 => h9) rfl dX1_isMoreThan_14 ?_
  refine lv_lmul hx hb dX1_isMoreThan_17 ?_
  refine W.lcmp hx hb dX1_isMoreThan_18 ?_
  refine lv_if_le (tgt := 26) hx hb dX1_isMoreThan_19 (by decide) (fun c_19 => ?_) (fun c_19 => ?_)
  · skip
    replace c_19 := (lg_cmp_le _ _).mp c_19
    refine lv_iconst (v := 0) hx hb dX1_isMoreThan_26 (by decide) ?_
    exact W.zret hx hb hr narrow_b0 (fun t ht hW => ⟨_, rfl, (by first | rfl | (simp only [fr_more, vz_b, if_pos c_19]; done) | (simp only [fr_more, vz_b, if_pos c_19]; rfl) | (simp only [fr_more, vz_b, c_19, ↓reduceIte, Bool.false_eq_true, if_true, if_false, reduceCtorEq, not_true_eq_false, not_false_eq_true, eq_self]; done) | (simp only [fr_more, vz_b, c_19, ↓reduceIte, Bool.false_eq_true, if_true, if_false, reduceCtorEq, not_true_eq_false, not_false_eq_true, eq_self]; rfl) | (simp [fr_more, vz_b, c_19]; done)), ht⟩) (fun q h => absurd h List.not_mem_nil) dX1_isMoreThan_27
  · skip
    replace c_19 := mt (lg_cmp_le _ _).mpr c_19
    refine lv_iconst (v := 1) hx hb dX1_isMoreThan_22 (by decide) ?_
    refine lv_goto (tgt := 27) hx hb dX1_isMoreThan_23 (by decide) ?_
    exact W.zret hx hb hr narrow_b1 (fun t ht hW => ⟨_, rfl, (by first | rfl | (simp only [fr_more, vz_b, if_neg c_19]; done) | (simp only [fr_more, vz_b, if_neg c_19]; rfl) | (simp only [fr_more, vz_b, c_19, ↓reduceIte, Bool.false_eq_true, if_true, if_false, reduceCtorEq, not_true_eq_false, not_false_eq_true, eq_self]; done) | (simp only [fr_more, vz_b, c_19, ↓reduceIte, Bool.false_eq_true, if_true, if_false, reduceCtorEq, not_true_eq_false, not_false_eq_true, eq_self]; rfl) | (simp [fr_more, vz_b, c_19]; done)), ht⟩) (fun q h => absurd h List.not_mem_nil) dX1_isMoreThan_27

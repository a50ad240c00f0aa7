/-! the calls of SongsAgain: what they answer and leave -/
def pl_n {α : Type} (b : Bool) (x y : α) : α := if b then x else y
def le_r (len : Nat) (c : Int32) : Int32 := if c < 1 then -102 else if c ≤ 126 then (if nI len < 22 then nI (len + 1) else -104) else -102
def le_c (len : Nat) (cd : Nat → Int32) (c : Int32) : Nat → Int32 := if c < 1 then cd else if c ≤ 126 then (if nI len < 22 then rw_put 22 cd (nI len) c else cd) else cd
def le_l (len : Nat) (c : Int32) : Nat := if c < 1 then len else if c ≤ 126 then (if nI len < 22 then len + 1 else len) else len
def ru_r (nm : Nat) (ru p : Int32) : Int32 := if p < 0 then -102 else if p < 4 then (if sa_np nm then -103 else ru) else -102
def ru_n (nm : Nat) (ru p : Int32) : Int32 := if p < 0 then ru else if p < 4 then (if sa_np nm then ru else p) else ru
def pl_ok (nm : Nat) (ks gs : Nat → Int32) (ru bg la p : Int32) : Bool := if bk_has nm p then (if sa_holds (bk_may nm ks gs ru bg la) p then true else false) else false
def pl_r (nm : Nat) (ks gs : Nat → Int32) (ru bg la p : Int32) : Int32 := if bk_has nm p then (if sa_holds (bk_may nm ks gs ru bg la) p then j_bc (bk_bag nm bg p) else -103) else -101
def sk_ok (la : Int32) (sd : Bool) : Bool := if la = -1 then false else if sd then false else true
def sk_r (wt sk : Nat → Int32) (la : Int32) (sd : Bool) : Int32 := if la = -1 then -103 else if sd then -103 else wg wt (rw_inc 6 sk la) la
def he_ok (nm nh : Nat) (p : Int32) : Bool := if bk_has nm p then (if nI nh < 8 then true else false) else false
def he_r (nm nh : Nat) (p : Int32) : Int32 := if bk_has nm p then (if nI nh < 8 then nI (nh + 1) else -104) else -101
def so_r (nm : Nat) (ks gs wt sk mi pl : Nat → Int32) (ru bg la s w : Int32) : Int32 := if bk_has nm s then (if w < 0 then -102 else if w < 10 then sa_fact nm ks gs wt sk mi pl ru bg la s w else -102) else -101
def as_r (nm : Nat) (ks : Nat → Int32) (s k : Int32) : Int32 := if bk_has nm s then (if k < 0 then -102 else if k < 5 then (if bk_is ks s k then s else -1) else -102) else -101
def ti_k (p : Int32) : Nat := if p = 2 then 2 else 3
theorem ti_3 (p : Int32) : ti_k p ≤ 3 := by unfold ti_k; split <;> omega
theorem ti_e {p : Int32} (h1 : ¬ p < 2) (h2 : ¬ 3 < p) : nI (ti_k p) = p := by
  rw [Int32.lt_iff_toInt_lt] at h1 h2
  have e2 : (2 : Int32).toInt = 2 := by decide
  have e3 : (3 : Int32).toInt = 3 := by decide
  rcases (show p.toInt = 2 ∨ p.toInt = 3 by omega) with h | h
  · have : p = 2 := vz_toI h e2
    subst this; rfl
  · have : p = 3 := vz_toI h e3
    subst this; rfl
def ti_r (nm : Nat) (ks gs wt sk : Nat → Int32) (ru bg la p w : Int32) : Int64 := if p < 2 then -102 else if 3 < p then -102 else if w < 0 then -102 else if w ≤ 1 then (if sa_np nm then -103 else if w = 0 then (tw nm ks gs wt sk ru (ti_k p) bg la 0 1 1 (0, 1)).1 else (tw nm ks gs wt sk ru (ti_k p) bg la 0 1 1 (0, 1)).2) else -102
def pa_w (w : Int32) : Bool := if w = 0 then true else if w < 10 then false else if w < 16 then true else false
def pa_r (nm : Nat) (gs wy fi : Nat → Int32) (b w : Int32) : Int32 := if b < 0 then -102 else if b ≤ bk_all nm then (if w = 0 then (if sa_np nm then -103 else od_fact (od nm gs 7 0 b (wy, fi, 0, 0)).2.1 (od nm gs 7 0 b (wy, fi, 0, 0)).2.2.1 (od nm gs 7 0 b (wy, fi, 0, 0)).2.2.2 w) else if w < 10 then -102 else if w < 16 then (if sa_np nm then -103 else od_fact (od nm gs 7 0 b (wy, fi, 0, 0)).2.1 (od nm gs 7 0 b (wy, fi, 0, 0)).2.2.1 (od nm gs 7 0 b (wy, fi, 0, 0)).2.2.2 w) else -102) else -102
def en_r (nm : Nat) (ks gs wt sk mi : Nat → Int32) (ru bg la n seed w : Int32) : Int32 := if n < 1 then -102 else if 60 < n then -102 else if seed < 0 then -102 else if w < 0 then -102 else if w ≤ 2 then (if sa_np nm then -103 else ev_fact (ev nm ks gs wt sk mi ru bg la seed n.toNatClampNeg) w) else -102
theorem en_n {n : Int32} (h1 : ¬ n < 1) (h2 : ¬ 60 < n) : n.toNatClampNeg ≤ 60 ∧ nI n.toNatClampNeg = n := by
  rw [Int32.lt_iff_toInt_lt] at h1 h2
  have e1 : (1 : Int32).toInt = 1 := by decide
  have e2 : (60 : Int32).toInt = 60 := by decide
  have h0 : ¬ n < 0 := by rw [Int32.lt_iff_toInt_lt, show (0 : Int32).toInt = 0 by decide]; omega
  obtain ⟨j, hj, rfl⟩ := nI_of h0
  rw [nI_toInt hj] at h1 h2
  rw [nI_clamp hj]
  exact ⟨by omega, rfl⟩

set_option maxHeartbeats 4000000 in
set_option maxRecDepth 100000 in
theorem c_X6_letter (l : Launch) (D : va_G) (cI : ClassId) (h : Nat → Nat) (len : Nat) (cd : Nat → Int32) (nm : Nat) (ks : Nat → Int32) (gs : Nat → Int32) (wt : Nat → Int32) (mi : Nat → Int32) (pl : Nat → Int32) (sk : Nat → Int32) (he : Nat → Int32) (nh : Nat) (ru : Int32) (bg : Int32) (la : Int32) (sd : Bool) (pl2 : Nat → Int32) (sk2 : Nat → Int32) (he2 : Nat → Int32) (nh2 : Nat) (ru2 : Int32) (bg2 : Int32) (la2 : Int32) (sd2 : Bool) (u0 : Int64) (l0 : Int64) (u1 : Int64) (l1 : Int64) (u2 : Int64) (l2 : Int64) (wy : Nat → Int32) (fi : Nat → Int32) (fl : Int32) (nu : Int32) (ik : Bool) (pr : Nat) (sz : Nat) (p0 : Int32) (hlen : len ≤ 22) : Met l yX6_letter wsX6_letter ({ frames := 2, cells := 0, slots := 0, locals := 43 } : Room) (vz_rw D cI (zSA cI h len cd nm ks gs wt mi pl sk he nh ru bg la sd pl2 sk2 he2 nh2 ru2 bg2 la2 sd2 u0 l0 u1 l1 u2 l2 wy fi fl nu ik pr) sz [.ref (h 0), .int p0]) (va_Qi (fun r (_ : Unit) => r = le_r len p0) (fun (u : Unit) (t : State) => va_P D vwCl (zSA cI h (le_l len p0) (le_c len cd p0) nm ks gs wt mi pl sk he nh ru bg la sd pl2 sk2 he2 nh2 ru2 bg2 la2 sd2 u0 l0 u1 l1 u2 l2 wy fi fl nu ik pr) t.heap) (va_A (zSA cI h len cd nm ks gs wt mi pl sk he nh ru bg la sd pl2 sk2 he2 nh2 ru2 bg2 la2 sd2 u0 l0 u1 l1 u2 l2 wy fi fl nu ik pr) sz)) 0 0 (va_A (zSA cI h len cd nm ks gs wt mi pl sk he nh ru bg la sd pl2 sk2 he2 nh2 ru2 bg2 la2 sd2 u0 l0 u1 l1 u2 l2 wy fi fl nu ik pr) sz) := by
  refine Met.ofW (cc := cX6_letter) (maxL := 2) (ret := (some .int)) (by decide) rfl ?_
  intro p e s m args below meth c s₁ B hml hv
  obtain ⟨rfl, hsz, hP, hZ, hD0⟩ := hv
  obtain ⟨hK, hN⟩ := id hZ
  have hx := B.exec
  have hb := B.bytes
  have hr := B.returns
  have hts := atoms_spec (ws := wsX6_letter) B.pre
  have hown : s.vm.findClass RX6 = some m.cls := findClass_of_methodNamed B.named
  have hlocks := B.notSynchronized
  subst hsz
  have hD := hD0.self (sz := s.heap.size)
  generalize hAe : va_A (zSA cI h len cd nm ks gs wt mi pl sk he nh ru bg la sd pl2 sk2 he2 nh2 ru2 bg2 la2 sd2 u0 l0 u1 l1 u2 l2 wy fi fl nu ik pr) s.heap.size = A at hD ⊢
  have hA : ∀ q : Nat, s.heap.size ≤ q → A q := fun q h => by rw [← hAe]; exact Or.inr h
  have hS : va_S A s.heap s.heap [] := va_S.rf
  have k10 := hts (.fieldLink RX6 10 "SongsAgain" "page" "LSongsAgain$Page;") (List.mem_of_getElem? (i := 1) rfl)
  have k61 : (Cond.fieldLinkNest "SongsAgain" 61 "SongsAgain$Page" "length" "I" "SongsAgain").before _ s = true := va_Nw.use (A := ([.ref (h 0), .int p0] : List Value).toArray) rfl (hN.1 ("SongsAgain", 61, "SongsAgain$Page", "length", "I") (List.mem_of_getElem? (i := 1) rfl))
  have iX3 : ∀ w ∈ u_ws RX3 TX3 2, w ∈ wsX6_letter := vz_in (i := 25) (n := 2) rfl
  have iX6 : ∀ w ∈ u_ws RX6 TX6 10, w ∈ wsX6_letter := vz_in (i := 15) (n := 10) rfl
  have hl := lv_entry ([.ref (h 0), .int p0]) (n := 2) (Nat.le_of_ble_eq_true rfl)
  rw [lg_entry_eq]
  generalize (lg_sl ([.ref (h 0), .int p0]) ++ List.replicate (2 - (lg_sl ([.ref (h 0), .int p0])).length) Slot.unset).toArray = ls at hl ⊢
  have hl : lv_has ls 2 [(0, .ref (h 0)), (1, .int p0)] := hl
  have hP : va_P D vwCl (zSA cI h len cd nm ks gs wt mi pl sk he nh ru bg la sd pl2 sk2 he2 nh2 ru2 bg2 la2 sd2 u0 l0 u1 l1 u2 l2 wy fi fl nu ik pr) s.heap := hP
  refine lv_iload_n hx hb dX6_letter_0 rfl (lv_at hl 1 rfl) ?_
  refine lv_iconst (v := 1) hx hb dX6_letter_1 (by decide) ?_
  refine lv_icmp_lt (tgt := 11) hx hb dX6_letter_2 (by decide) (fun c_2 => ?_) (fun c_2 => ?_)
  · skip
    refine lv_bipush (v := (-102)) hx hb dX6_letter_11 (by decide) ?_
    have en_len : le_l len p0 = len := by first | rfl | (simp only [le_r, le_c, le_l, if_pos c_2]; done) | (simp only [le_r, le_c, le_l, if_pos c_2]; rfl) | (simp only [le_r, le_c, le_l, c_2, ↓reduceIte, Bool.false_eq_true, if_true, if_false, reduceCtorEq, not_true_eq_false, not_false_eq_true, eq_self]; done) | (simp only [le_r, le_c, le_l, c_2, ↓reduceIte, Bool.false_eq_true, if_true, if_false, reduceCtorEq, not_true_eq_false, not_false_eq_true, eq_self]; rfl) | (simp [le_r, le_c, le_l, c_2]; done)
    have en_cd : le_c len cd p0 = cd := by first | rfl | (simp only [le_r, le_c, le_l, if_pos c_2]; done) | (simp only [le_r, le_c, le_l, if_pos c_2]; rfl) | (simp only [le_r, le_c, le_l, c_2, ↓reduceIte, Bool.false_eq_true, if_true, if_false, reduceCtorEq, not_true_eq_false, not_false_eq_true, eq_self]; done) | (simp only [le_r, le_c, le_l, c_2, ↓reduceIte, Bool.false_eq_true, if_true, if_false, reduceCtorEq, not_true_eq_false, not_false_eq_true, eq_self]; rfl) | (simp [le_r, le_c, le_l, c_2]; done)
    exact W.iret hx hb hr (fun t ht hW => ⟨⟨_, (), rfl, (by first | rfl | (simp only [le_r, le_c, le_l, if_pos c_2]; done) | (simp only [le_r, le_c, le_l, if_pos c_2]; rfl) | (simp only [le_r, le_c, le_l, c_2, ↓reduceIte, Bool.false_eq_true, if_true, if_false, reduceCtorEq, not_true_eq_false, not_false_eq_true, eq_self]; done) | (simp only [le_r, le_c, le_l, c_2, ↓reduceIte, Bool.false_eq_true, if_true, if_false, reduceCtorEq, not_true_eq_false, not_false_eq_true, eq_self]; rfl) | (simp [le_r, le_c, le_l, c_2]; done)), (by show va_P D vwCl (zSA cI h (le_l len p0) (le_c len cd p0) nm ks gs wt mi pl sk he nh ru bg la sd pl2 sk2 he2 nh2 ru2 bg2 la2 sd2 u0 l0 u1 l1 u2 l2 wy fi fl nu ik pr) t.heap; rw [ht, en_len, en_cd]; exact hP)⟩, hS.F ht⟩) hS.2.2 dX6_letter_13
  · skip
    refine lv_iload_n hx hb dX6_letter_5 rfl (lv_at hl 1 rfl) ?_
    refine lv_bipush (v := 126) hx hb dX6_letter_6 (by decide) ?_
    refine lv_icmp_le (tgt := 14) hx hb dX6_letter_8 (by decide) (fun c_8 => ?_) (fun c_8 => ?_)
    · skip
      refine lv_aload_n hx hb dX6_letter_14 rfl (lv_at hl 0 rfl) ?_
      refine va_get (D := D) (ci := 6) (v := .ref (h 1)) (C := RX6) (T := TX6) (N := 10) hx hb hts iX6 hown hK hP 0 rfl rfl 0 (by decide) k10 (fun _ h9 => h9) rfl dX6_letter_15 ?_
      refine va_getN (D := D) (ci := 3) (v := .int (nI len)) (C := RX3) (T := TX3) (N := 2) hx hb hts iX3 hown hK hP 1 rfl rfl 1 (by decide) k61 (fun _ h9 => h9) rfl dX6_letter_18 ?_
      refine lv_bipush (v := 22) hx hb dX6_letter_21 (by decide) ?_
      refine lv_icmp_lt (tgt := 29) hx hb dX6_letter_23 (by decide) (fun c_23 => ?_) (fun c_23 => ?_)
      · skip
        refine lv_aload_n hx hb dX6_letter_29 rfl (lv_at hl 0 rfl) ?_
        refine va_get (D := D) (ci := 6) (v := .ref (h 1)) (C := RX6) (T := TX6) (N := 10) hx hb hts iX6 hown hK hP 0 rfl rfl 0 (by decide) k10 (fun _ h9 => h9) rfl dX6_letter_30 ?_
        refine lv_iload_n hx hb dX6_letter_33 rfl (lv_at hl 1 rfl) ?_
        have hPc := (hP.sub (ws' := (zPage cI (h 1) (h 2) (h 3) len cd)) [1, 2, 3] rfl)
        have hDc := hD.sub (ws' := (zPage cI (h 1) (h 2) (h 3) len cd)) [1, 2, 3] rfl rfl
        have hFc := va_free (wc := (zPage cI (h 1) (h 2) (h 3) len cd)) hD hS hA [1, 2, 3] rfl
        refine va_callv (va_runV (As := [.int p0]) (rest := []) ⟨hx, hb, hml, hown, hts⟩ (c_X3_append l D cI (h 1) (h 2) (h 3) len cd s.heap.size p0) (cwV 1 hts gX6_letter_X3_append rfl rfl rfl (by decide +kernel) ⟨Nat.le_of_ble_eq_true rfl, Nat.le_of_ble_eq_true rfl⟩) (vz_pvW (va_recv hK hP (ci := 3) (q0 := 1) rfl rfl) hZ hPc hDc) rfl rfl hl.1 rfl (lv_room (Nat.le_of_ble_eq_true rfl)) dX6_letter_34 ⟨Nat.zero_le _, Nat.zero_le _⟩) hS (fun q _ h => hFc q h) hFc (fun u_34 t H_34 locs_34 ht hvm hw hB hz1 hk1 hS9 => ?_)
        rw [ht] at hB
        replace hP : va_P D vwCl (zSA cI h (len + 1) (rw_put 22 cd (nI len) p0) nm ks gs wt mi pl sk he nh ru bg la sd pl2 sk2 he2 nh2 ru2 bg2 la2 sd2 u0 l0 u1 l1 u2 l2 wy fi fl nu ik pr) H_34 := vz_join (w1 := (zPage cI (h 1) (h 2) (h 3) (len + 1) (rw_put 22 cd (nI len) p0))) hP hD [1, 2, 3] rfl rfl hk1 hB
        replace hD : va_D A (zSA cI h (len + 1) (rw_put 22 cd (nI len) p0) nm ks gs wt mi pl sk he nh ru bg la sd pl2 sk2 he2 nh2 ru2 bg2 la2 sd2 u0 l0 u1 l1 u2 l2 wy fi fl nu ik pr) := vz_same hD rfl
        replace hS := hS9
        clear hS9 hPc hDc hFc hB hk1 hz1
        refine lv_aload_n hx hb dX6_letter_37 rfl (lv_at hl 0 rfl) ?_
        refine va_get (D := D) (ci := 6) (v := .ref (h 1)) (C := RX6) (T := TX6) (N := 10) hx hb hts iX6 hown hK hP 0 rfl rfl 0 (by decide) k10 (fun _ h9 => h9) rfl dX6_letter_38 ?_
        refine va_getN (D := D) (ci := 3) (v := .int (nI (len + 1))) (C := RX3) (T := TX3) (N := 2) hx hb hts iX3 hown hK hP 1 rfl rfl 1 (by decide) k61 (fun _ h9 => h9) rfl dX6_letter_41 ?_
        have en_len : le_l len p0 = len + 1 := by first | rfl | (simp only [le_r, le_c, le_l, if_neg c_2, if_pos c_8, if_pos c_23]; done) | (simp only [le_r, le_c, le_l, if_neg c_2, if_pos c_8, if_pos c_23]; rfl) | (simp only [le_r, le_c, le_l, c_2, c_8, c_23, ↓reduceIte, Bool.false_eq_true, if_true, if_false, reduceCtorEq, not_true_eq_false, not_false_eq_true, eq_self]; done) | (simp only [le_r, le_c, le_l, c_2, c_8, c_23, ↓reduceIte, Bool.false_eq_true, if_true, if_false, reduceCtorEq, not_true_eq_false, not_false_eq_true, eq_self]; rfl) | (simp [le_r, le_c, le_l, c_2, c_8, c_23]; done)
        have en_cd : le_c len cd p0 = rw_put 22 cd (nI len) p0 := by first | rfl | (simp only [le_r, le_c, le_l, if_neg c_2, if_pos c_8, if_pos c_23]; done) | (simp only [le_r, le_c, le_l, if_neg c_2, if_pos c_8, if_pos c_23]; rfl) | (simp only [le_r, le_c, le_l, c_2, c_8, c_23, ↓reduceIte, Bool.false_eq_true, if_true, if_false, reduceCtorEq, not_true_eq_false, not_false_eq_true, eq_self]; done) | (simp only [le_r, le_c, le_l, c_2, c_8, c_23, ↓reduceIte, Bool.false_eq_true, if_true, if_false, reduceCtorEq, not_true_eq_false, not_false_eq_true, eq_self]; rfl) | (simp [le_r, le_c, le_l, c_2, c_8, c_23]; done)
        exact W.iret hx hb hr (fun t ht hW => ⟨⟨_, (), rfl, (by first | rfl | (simp only [le_r, le_c, le_l, if_neg c_2, if_pos c_8, if_pos c_23]; done) | (simp only [le_r, le_c, le_l, if_neg c_2, if_pos c_8, if_pos c_23]; rfl) | (simp only [le_r, le_c, le_l, c_2, c_8, c_23, ↓reduceIte, Bool.false_eq_true, if_true, if_false, reduceCtorEq, not_true_eq_false, not_false_eq_true, eq_self]; done) | (simp only [le_r, le_c, le_l, c_2, c_8, c_23, ↓reduceIte, Bool.false_eq_true, if_true, if_false, reduceCtorEq, not_true_eq_false, not_false_eq_true, eq_self]; rfl) | (simp [le_r, le_c, le_l, c_2, c_8, c_23]; done)), (by show va_P D vwCl (zSA cI h (le_l len p0) (le_c len cd p0) nm ks gs wt mi pl sk he nh ru bg la sd pl2 sk2 he2 nh2 ru2 bg2 la2 sd2 u0 l0 u1 l1 u2 l2 wy fi fl nu ik pr) t.heap; rw [ht, en_len, en_cd]; exact hP)⟩, hS.F ht⟩) hS.2.2 dX6_letter_44
      · skip
        refine lv_bipush (v := (-104)) hx hb dX6_letter_26 (by decide) ?_
        have en_len : le_l len p0 = len := by first | rfl | (simp only [le_r, le_c, le_l, if_neg c_2, if_pos c_8, if_neg c_23]; done) | (simp only [le_r, le_c, le_l, if_neg c_2, if_pos c_8, if_neg c_23]; rfl) | (simp only [le_r, le_c, le_l, c_2, c_8, c_23, ↓reduceIte, Bool.false_eq_true, if_true, if_false, reduceCtorEq, not_true_eq_false, not_false_eq_true, eq_self]; done) | (simp only [le_r, le_c, le_l, c_2, c_8, c_23, ↓reduceIte, Bool.false_eq_true, if_true, if_false, reduceCtorEq, not_true_eq_false, not_false_eq_true, eq_self]; rfl) | (simp [le_r, le_c, le_l, c_2, c_8, c_23]; done)
        have en_cd : le_c len cd p0 = cd := by first | rfl | (simp only [le_r, le_c, le_l, if_neg c_2, if_pos c_8, if_neg c_23]; done) | (simp only [le_r, le_c, le_l, if_neg c_2, if_pos c_8, if_neg c_23]; rfl) | (simp only [le_r, le_c, le_l, c_2, c_8, c_23, ↓reduceIte, Bool.false_eq_true, if_true, if_false, reduceCtorEq, not_true_eq_false, not_false_eq_true, eq_self]; done) | (simp only [le_r, le_c, le_l, c_2, c_8, c_23, ↓reduceIte, Bool.false_eq_true, if_true, if_false, reduceCtorEq, not_true_eq_false, not_false_eq_true, eq_self]; rfl) | (simp [le_r, le_c, le_l, c_2, c_8, c_23]; done)
        exact W.iret hx hb hr (fun t ht hW => ⟨⟨_, (), rfl, (by first | rfl | (simp only [le_r, le_c, le_l, if_neg c_2, if_pos c_8, if_neg c_23]; done) | (simp only [le_r, le_c, le_l, if_neg c_2, if_pos c_8, if_neg c_23]; rfl) | (simp only [le_r, le_c, le_l, c_2, c_8, c_23, ↓reduceIte, Bool.false_eq_true, if_true, if_false, reduceCtorEq, not_true_eq_false, not_false_eq_true, eq_self]; done) | (simp only [le_r, le_c, le_l, c_2, c_8, c_23, ↓reduceIte, Bool.false_eq_true, if_true, if_false, reduceCtorEq, not_true_eq_false, not_false_eq_true, eq_self]; rfl) | (simp [le_r, le_c, le_l, c_2, c_8, c_23]; done)), (by show va_P D vwCl (zSA cI h (le_l len p0) (le_c len cd p0) nm ks gs wt mi pl sk he nh ru bg la sd pl2 sk2 he2 nh2 ru2 bg2 la2 sd2 u0 l0 u1 l1 u2 l2 wy fi fl nu ik pr) t.heap; rw [ht, en_len, en_cd]; exact hP)⟩, hS.F ht⟩) hS.2.2 dX6_letter_28
    · skip
      refine lv_bipush (v := (-102)) hx hb dX6_letter_11 (by decide) ?_
      have en_len : le_l len p0 = len := by first | rfl | (simp only [le_r, le_c, le_l, if_neg c_2, if_neg c_8]; done) | (simp only [le_r, le_c, le_l, if_neg c_2, if_neg c_8]; rfl) | (simp only [le_r, le_c, le_l, c_2, c_8, ↓reduceIte, Bool.false_eq_true, if_true, if_false, reduceCtorEq, not_true_eq_false, not_false_eq_true, eq_self]; done) | (simp only [le_r, le_c, le_l, c_2, c_8, ↓reduceIte, Bool.false_eq_true, if_true, if_false, reduceCtorEq, not_true_eq_false, not_false_eq_true, eq_self]; rfl) | (simp [le_r, le_c, le_l, c_2, c_8]; done)
      have en_cd : le_c len cd p0 = cd := by first | rfl | (simp only [le_r, le_c, le_l, if_neg c_2, if_neg c_8]; done) | (simp only [le_r, le_c, le_l, if_neg c_2, if_neg c_8]; rfl) | (simp only [le_r, le_c, le_l, c_2, c_8, ↓reduceIte, Bool.false_eq_true, if_true, if_false, reduceCtorEq, not_true_eq_false, not_false_eq_true, eq_self]; done) | (simp only [le_r, le_c, le_l, c_2, c_8, ↓reduceIte, Bool.false_eq_true, if_true, if_false, reduceCtorEq, not_true_eq_false, not_false_eq_true, eq_self]; rfl) | (simp [le_r, le_c, le_l, c_2, c_8]; done)
      exact W.iret hx hb hr (fun t ht hW => ⟨⟨_, (), rfl, (by first | rfl | (simp only [le_r, le_c, le_l, if_neg c_2, if_neg c_8]; done) | (simp only [le_r, le_c, le_l, if_neg c_2, if_neg c_8]; rfl) | (simp only [le_r, le_c, le_l, c_2, c_8, ↓reduceIte, Bool.false_eq_true, if_true, if_false, reduceCtorEq, not_true_eq_false, not_false_eq_true, eq_self]; done) | (simp only [le_r, le_c, le_l, c_2, c_8, ↓reduceIte, Bool.false_eq_true, if_true, if_false, reduceCtorEq, not_true_eq_false, not_false_eq_true, eq_self]; rfl) | (simp [le_r, le_c, le_l, c_2, c_8]; done)), (by show va_P D vwCl (zSA cI h (le_l len p0) (le_c len cd p0) nm ks gs wt mi pl sk he nh ru bg la sd pl2 sk2 he2 nh2 ru2 bg2 la2 sd2 u0 l0 u1 l1 u2 l2 wy fi fl nu ik pr) t.heap; rw [ht, en_len, en_cd]; exact hP)⟩, hS.F ht⟩) hS.2.2 dX6_letter_13
set_option maxHeartbeats 4000000 in
set_option maxRecDepth 100000 in
theorem c_X6_blank (l : Launch) (D : va_G) (cI : ClassId) (h : Nat → Nat) (len : Nat) (cd : Nat → Int32) (nm : Nat) (ks : Nat → Int32) (gs : Nat → Int32) (wt : Nat → Int32) (mi : Nat → Int32) (pl : Nat → Int32) (sk : Nat → Int32) (he : Nat → Int32) (nh : Nat) (ru : Int32) (bg : Int32) (la : Int32) (sd : Bool) (pl2 : Nat → Int32) (sk2 : Nat → Int32) (he2 : Nat → Int32) (nh2 : Nat) (ru2 : Int32) (bg2 : Int32) (la2 : Int32) (sd2 : Bool) (u0 : Int64) (l0 : Int64) (u1 : Int64) (l1 : Int64) (u2 : Int64) (l2 : Int64) (wy : Nat → Int32) (fi : Nat → Int32) (fl : Int32) (nu : Int32) (ik : Bool) (pr : Nat) (sz : Nat) : Met l yX6_blank wsX6_blank ({ frames := 1, cells := 0, slots := 0, locals := 20 } : Room) (vz_rw D cI (zSA cI h len cd nm ks gs wt mi pl sk he nh ru bg la sd pl2 sk2 he2 nh2 ru2 bg2 la2 sd2 u0 l0 u1 l1 u2 l2 wy fi fl nu ik pr) sz [.ref (h 0)]) (va_Qi (fun r (_ : Unit) => r = nI len) (fun (u : Unit) (t : State) => va_P D vwCl (zSA cI h 0 cd nm ks gs wt mi pl sk he nh ru bg la sd pl2 sk2 he2 nh2 ru2 bg2 la2 sd2 u0 l0 u1 l1 u2 l2 wy fi fl nu ik pr) t.heap) (va_A (zSA cI h len cd nm ks gs wt mi pl sk he nh ru bg la sd pl2 sk2 he2 nh2 ru2 bg2 la2 sd2 u0 l0 u1 l1 u2 l2 wy fi fl nu ik pr) sz)) 0 0 (va_A (zSA cI h len cd nm ks gs wt mi pl sk he nh ru bg la sd pl2 sk2 he2 nh2 ru2 bg2 la2 sd2 u0 l0 u1 l1 u2 l2 wy fi fl nu ik pr) sz) := by
  refine Met.ofW (cc := cX6_blank) (maxL := 2) (ret := (some .int)) (by decide) rfl ?_
  intro p e s m args below meth c s₁ B hml hv
  obtain ⟨rfl, hsz, hP, hZ, hD0⟩ := hv
  obtain ⟨hK, hN⟩ := id hZ
  have hx := B.exec
  have hb := B.bytes
  have hr := B.returns
  have hts := atoms_spec (ws := wsX6_blank) B.pre
  have hown : s.vm.findClass RX6 = some m.cls := findClass_of_methodNamed B.named
  have hlocks := B.notSynchronized
  subst hsz
  have hD := hD0.self (sz := s.heap.size)
  generalize hAe : va_A (zSA cI h len cd nm ks gs wt mi pl sk he nh ru bg la sd pl2 sk2 he2 nh2 ru2 bg2 la2 sd2 u0 l0 u1 l1 u2 l2 wy fi fl nu ik pr) s.heap.size = A at hD ⊢
  have hA : ∀ q : Nat, s.heap.size ≤ q → A q := fun q h => by rw [← hAe]; exact Or.inr h
  have hS : va_S A s.heap s.heap [] := va_S.rf
  have k10 := hts (.fieldLink RX6 10 "SongsAgain" "page" "LSongsAgain$Page;") (List.mem_of_getElem? (i := 1) rfl)
  have k61 : (Cond.fieldLinkNest "SongsAgain" 61 "SongsAgain$Page" "length" "I" "SongsAgain").before _ s = true := va_Nw.use (A := ([.ref (h 0)] : List Value).toArray) rfl (hN.1 ("SongsAgain", 61, "SongsAgain$Page", "length", "I") (List.mem_of_getElem? (i := 1) rfl))
  have iX3 : ∀ w ∈ u_ws RX3 TX3 2, w ∈ wsX6_blank := vz_in (i := 18) (n := 2) rfl
  have iX6 : ∀ w ∈ u_ws RX6 TX6 10, w ∈ wsX6_blank := vz_in (i := 8) (n := 10) rfl
  have hl := lv_entry ([.ref (h 0)]) (n := 2) (Nat.le_of_ble_eq_true rfl)
  rw [lg_entry_eq]
  generalize (lg_sl ([.ref (h 0)]) ++ List.replicate (2 - (lg_sl ([.ref (h 0)])).length) Slot.unset).toArray = ls at hl ⊢
  have hl : lv_has ls 2 [(0, .ref (h 0))] := hl
  have hP : va_P D vwCl (zSA cI h len cd nm ks gs wt mi pl sk he nh ru bg la sd pl2 sk2 he2 nh2 ru2 bg2 la2 sd2 u0 l0 u1 l1 u2 l2 wy fi fl nu ik pr) s.heap := hP
  refine lv_aload_n hx hb dX6_blank_0 rfl (lv_at hl 0 rfl) ?_
  refine va_get (D := D) (ci := 6) (v := .ref (h 1)) (C := RX6) (T := TX6) (N := 10) hx hb hts iX6 hown hK hP 0 rfl rfl 0 (by decide) k10 (fun _ h9 => h9) rfl dX6_blank_1 ?_
  refine va_getN (D := D) (ci := 3) (v := .int (nI len)) (C := RX3) (T := TX3) (N := 2) hx hb hts iX3 hown hK hP 1 rfl rfl 1 (by decide) k61 (fun _ h9 => h9) rfl dX6_blank_4 ?_
  refine lv_istore_n (lv' := [(1, .int (nI len)), (0, .ref (h 0))]) hx hb dX6_blank_7 rfl hl (by decide) rfl (fun ls hl => ?_)
  refine lv_aload_n hx hb dX6_blank_8 rfl (lv_at hl 1 rfl) ?_
  refine va_get (D := D) (ci := 6) (v := .ref (h 1)) (C := RX6) (T := TX6) (N := 10) hx hb hts iX6 hown hK hP 0 rfl rfl 0 (by decide) k10 (fun _ h9 => h9) rfl dX6_blank_9 ?_
  have hPc := (hP.sub (ws' := (zPage cI (h 1) (h 2) (h 3) len cd)) [1, 2, 3] rfl)
  have hDc := hD.sub (ws' := (zPage cI (h 1) (h 2) (h 3) len cd)) [1, 2, 3] rfl rfl
  have hFc := va_free (wc := (zPage cI (h 1) (h 2) (h 3) len cd)) hD hS hA [1, 2, 3] rfl
  refine va_callv (va_runV (As := []) (rest := []) ⟨hx, hb, hml, hown, hts⟩ (c_X3_clear l D cI (h 1) (h 2) (h 3) len cd s.heap.size) (cwV 0 hts gX6_blank_X3_clear rfl rfl rfl (by decide +kernel) ⟨Nat.le_of_ble_eq_true rfl, Nat.le_of_ble_eq_true rfl⟩) (vz_pvW (va_recv hK hP (ci := 3) (q0 := 1) rfl rfl) hZ hPc hDc) rfl rfl hl.1 rfl (lv_room (Nat.le_of_ble_eq_true rfl)) dX6_blank_12 ⟨Nat.zero_le _, Nat.zero_le _⟩) hS (fun q _ h => hFc q h) hFc (fun u_12 t H_12 locs_12 ht hvm hw hB hz1 hk1 hS9 => ?_)
  rw [ht] at hB
  replace hP : va_P D vwCl (zSA cI h 0 cd nm ks gs wt mi pl sk he nh ru bg la sd pl2 sk2 he2 nh2 ru2 bg2 la2 sd2 u0 l0 u1 l1 u2 l2 wy fi fl nu ik pr) H_12 := vz_join (w1 := (zPage cI (h 1) (h 2) (h 3) 0 cd)) hP hD [1, 2, 3] rfl rfl hk1 hB
  replace hD : va_D A (zSA cI h 0 cd nm ks gs wt mi pl sk he nh ru bg la sd pl2 sk2 he2 nh2 ru2 bg2 la2 sd2 u0 l0 u1 l1 u2 l2 wy fi fl nu ik pr) := vz_same hD rfl
  replace hS := hS9
  clear hS9 hPc hDc hFc hB hk1 hz1
  refine lv_iload_n hx hb dX6_blank_15 rfl (lv_at hl 0 rfl) ?_
  exact W.iret hx hb hr (fun t ht hW => ⟨⟨_, (), rfl, (by first | rfl | (rfl; done) | (rfl; rfl) | (rfl; done) | (rfl; rfl) | (simp; done)), (by show va_P D vwCl (zSA cI h 0 cd nm ks gs wt mi pl sk he nh ru bg la sd pl2 sk2 he2 nh2 ru2 bg2 la2 sd2 u0 l0 u1 l1 u2 l2 wy fi fl nu ik pr) t.heap; rw [ht]; exact hP)⟩, hS.F ht⟩) hS.2.2 dX6_blank_16
set_option maxHeartbeats 4000000 in
set_option maxRecDepth 100000 in
theorem c_X6_rule (l : Launch) (D : va_G) (cI : ClassId) (h : Nat → Nat) (len : Nat) (cd : Nat → Int32) (nm : Nat) (ks : Nat → Int32) (gs : Nat → Int32) (wt : Nat → Int32) (mi : Nat → Int32) (pl : Nat → Int32) (sk : Nat → Int32) (he : Nat → Int32) (nh : Nat) (ru : Int32) (bg : Int32) (la : Int32) (sd : Bool) (pl2 : Nat → Int32) (sk2 : Nat → Int32) (he2 : Nat → Int32) (nh2 : Nat) (ru2 : Int32) (bg2 : Int32) (la2 : Int32) (sd2 : Bool) (u0 : Int64) (l0 : Int64) (u1 : Int64) (l1 : Int64) (u2 : Int64) (l2 : Int64) (wy : Nat → Int32) (fi : Nat → Int32) (fl : Int32) (nu : Int32) (ik : Bool) (pr : Nat) (sz : Nat) (p0 : Int32) (hnm : nm ≤ 6) : Met l yX6_rule wsX6_rule ({ frames := 1, cells := 0, slots := 0, locals := 20 } : Room) (vz_rw D cI (zSA cI h len cd nm ks gs wt mi pl sk he nh ru bg la sd pl2 sk2 he2 nh2 ru2 bg2 la2 sd2 u0 l0 u1 l1 u2 l2 wy fi fl nu ik pr) sz [.ref (h 0), .int p0]) (va_Qi (fun r (_ : Unit) => r = ru_r nm ru p0) (fun (u : Unit) (t : State) => va_P D vwCl (zSA cI h len cd nm ks gs wt mi pl sk he nh (ru_n nm ru p0) bg la sd pl2 sk2 he2 nh2 ru2 bg2 la2 sd2 u0 l0 u1 l1 u2 l2 wy fi fl nu ik pr) t.heap) (va_A (zSA cI h len cd nm ks gs wt mi pl sk he nh ru bg la sd pl2 sk2 he2 nh2 ru2 bg2 la2 sd2 u0 l0 u1 l1 u2 l2 wy fi fl nu ik pr) sz)) 0 0 (va_A (zSA cI h len cd nm ks gs wt mi pl sk he nh ru bg la sd pl2 sk2 he2 nh2 ru2 bg2 la2 sd2 u0 l0 u1 l1 u2 l2 wy fi fl nu ik pr) sz) := by
  refine Met.ofW (cc := cX6_rule) (maxL := 3) (ret := (some .int)) (by decide) rfl ?_
  intro p e s m args below meth c s₁ B hml hv
  obtain ⟨rfl, hsz, hP, hZ, hD0⟩ := hv
  obtain ⟨hK, hN⟩ := id hZ
  have hx := B.exec
  have hb := B.bytes
  have hr := B.returns
  have hts := atoms_spec (ws := wsX6_rule) B.pre
  have hown : s.vm.findClass RX6 = some m.cls := findClass_of_methodNamed B.named
  have hlocks := B.notSynchronized
  subst hsz
  have hD := hD0.self (sz := s.heap.size)
  generalize hAe : va_A (zSA cI h len cd nm ks gs wt mi pl sk he nh ru bg la sd pl2 sk2 he2 nh2 ru2 bg2 la2 sd2 u0 l0 u1 l1 u2 l2 wy fi fl nu ik pr) s.heap.size = A at hD ⊢
  have hA : ∀ q : Nat, s.heap.size ≤ q → A q := fun q h => by rw [← hAe]; exact Or.inr h
  have hS : va_S A s.heap s.heap [] := va_S.rf
  have k26 := hts (.fieldLink RX6 26 "SongsAgain" "now" "LSongsAgain$Past;") (List.mem_of_getElem? (i := 1) rfl)
  have k111 : (Cond.fieldLinkNest "SongsAgain" 111 "SongsAgain$Past" "rule" "I" "SongsAgain").before _ s = true := va_Nw.use (A := ([.ref (h 0), .int p0] : List Value).toArray) rfl (hN.1 ("SongsAgain", 111, "SongsAgain$Past", "rule", "I") (List.mem_of_getElem? (i := 13) rfl))
  have iX4 : ∀ w ∈ u_ws RX4 TX4 8, w ∈ wsX6_rule := vz_in (i := 18) (n := 8) rfl
  have iX6 : ∀ w ∈ u_ws RX6 TX6 10, w ∈ wsX6_rule := vz_in (i := 8) (n := 10) rfl
  have hl := lv_entry ([.ref (h 0), .int p0]) (n := 3) (Nat.le_of_ble_eq_true rfl)
  rw [lg_entry_eq]
  generalize (lg_sl ([.ref (h 0), .int p0]) ++ List.replicate (3 - (lg_sl ([.ref (h 0), .int p0])).length) Slot.unset).toArray = ls at hl ⊢
  have hl : lv_has ls 3 [(0, .ref (h 0)), (1, .int p0)] := hl
  have hP : va_P D vwCl (zSA cI h len cd nm ks gs wt mi pl sk he nh ru bg la sd pl2 sk2 he2 nh2 ru2 bg2 la2 sd2 u0 l0 u1 l1 u2 l2 wy fi fl nu ik pr) s.heap := hP
  refine lv_iload_n hx hb dX6_rule_0 rfl (lv_at hl 1 rfl) ?_
  refine lv_if_lt (tgt := 9) hx hb dX6_rule_1 (by decide) (fun c_1 => ?_) (fun c_1 => ?_)
  · skip
    refine lv_bipush (v := (-102)) hx hb dX6_rule_9 (by decide) ?_
    have en_ru : ru_n nm ru p0 = ru := by first | rfl | (simp only [ru_r, ru_n, if_pos c_1]; done) | (simp only [ru_r, ru_n, if_pos c_1]; rfl) | (simp only [ru_r, ru_n, c_1, ↓reduceIte, Bool.false_eq_true, if_true, if_false, reduceCtorEq, not_true_eq_false, not_false_eq_true, eq_self]; done) | (simp only [ru_r, ru_n, c_1, ↓reduceIte, Bool.false_eq_true, if_true, if_false, reduceCtorEq, not_true_eq_false, not_false_eq_true, eq_self]; rfl) | (simp [ru_r, ru_n, c_1]; done)
    exact W.iret hx hb hr (fun t ht hW => ⟨⟨_, (), rfl, (by first | rfl | (simp only [ru_r, ru_n, if_pos c_1]; done) | (simp only [ru_r, ru_n, if_pos c_1]; rfl) | (simp only [ru_r, ru_n, c_1, ↓reduceIte, Bool.false_eq_true, if_true, if_false, reduceCtorEq, not_true_eq_false, not_false_eq_true, eq_self]; done) | (simp only [ru_r, ru_n, c_1, ↓reduceIte, Bool.false_eq_true, if_true, if_false, reduceCtorEq, not_true_eq_false, not_false_eq_true, eq_self]; rfl) | (simp [ru_r, ru_n, c_1]; done)), (by show va_P D vwCl (zSA cI h len cd nm ks gs wt mi pl sk he nh (ru_n nm ru p0) bg la sd pl2 sk2 he2 nh2 ru2 bg2 la2 sd2 u0 l0 u1 l1 u2 l2 wy fi fl nu ik pr) t.heap; rw [ht, en_ru]; exact hP)⟩, hS.F ht⟩) hS.2.2 dX6_rule_11
  · skip
    refine lv_iload_n hx hb dX6_rule_4 rfl (lv_at hl 1 rfl) ?_
    refine lv_iconst (v := 4) hx hb dX6_rule_5 (by decide) ?_
    refine lv_icmp_lt (tgt := 12) hx hb dX6_rule_6 (by decide) (fun c_6 => ?_) (fun c_6 => ?_)
    · skip
      refine lv_aload_n hx hb dX6_rule_12 rfl (lv_at hl 0 rfl) ?_
      refine vp_callSi (W.runV (As := []) (rest := []) ⟨hx, hb, hml, hown, hts⟩ (c_X6_noPlayer l D cI h len cd nm ks gs wt mi pl sk he nh ru bg la sd pl2 sk2 he2 nh2 ru2 bg2 la2 sd2 u0 l0 u1 l1 u2 l2 wy fi fl nu ik pr (by first | assumption | omega)) (cwV 0 hts gX6_rule_X6_noPlayer rfl rfl rfl (by decide +kernel) ⟨Nat.le_of_ble_eq_true rfl, Nat.le_of_ble_eq_true rfl⟩) (vz_pvR (va_recv hK hP (ci := 6) (q0 := 0) rfl rfl) hZ hP) rfl rfl hl.1 rfl (lv_room (Nat.le_of_ble_eq_true rfl)) dX6_rule_13 ⟨Nat.zero_le _, Nat.zero_le _⟩) (fun r_13 hr_13 => ?_)
      subst hr_13
      refine lv_if_eq (tgt := 22) hx hb dX6_rule_16 (by decide) (fun c_16 => ?_) (fun c_16 => ?_)
      · skip
        replace c_16 := vz_b0 c_16
        refine lv_aload_n hx hb dX6_rule_22 rfl (lv_at hl 0 rfl) ?_
        refine va_get (D := D) (ci := 6) (v := .ref (h 13)) (C := RX6) (T := TX6) (N := 10) hx hb hts iX6 hown hK hP 0 rfl rfl 2 (by decide) k26 (fun _ h9 => h9) rfl dX6_rule_23 ?_
        refine va_getN (D := D) (ci := 4) (v := .int ru) (C := RX4) (T := TX4) (N := 8) hx hb hts iX4 hown hK hP 13 rfl rfl 4 (by decide) k111 (fun _ h9 => h9) rfl dX6_rule_26 ?_
        refine lv_istore_n (lv' := [(2, .int ru), (0, .ref (h 0)), (1, .int p0)]) hx hb dX6_rule_29 rfl hl (by decide) rfl (fun ls hl => ?_)
        refine lv_aload_n hx hb dX6_rule_30 rfl (lv_at hl 1 rfl) ?_
        refine va_get (D := D) (ci := 6) (v := .ref (h 13)) (C := RX6) (T := TX6) (N := 10) hx hb hts iX6 hown hK hP 0 rfl rfl 2 (by decide) k26 (fun _ h9 => h9) rfl dX6_rule_31 ?_
        refine lv_iload_n hx hb dX6_rule_34 rfl (lv_at hl 2 rfl) ?_
        refine va_putN (D := D) (ci := 4) (v := .int p0) (ty := .int) (C := RX4) (T := TX4) (N := 8) hx hb hts iX4 tyX4 tyX4_ok nmX4 hown hK hP hD hS 13 rfl rfl 4 (by decide) k111 (fun _ h9 => h9) rfl (by decide +kernel) rfl rfl (Nat.le_of_ble_eq_true rfl) dX6_rule_35 (fun H_35 locs_35 hP9 hD9 hS9 => ?_)
        replace hP : va_P D vwCl (zSA cI h len cd nm ks gs wt mi pl sk he nh p0 bg la sd pl2 sk2 he2 nh2 ru2 bg2 la2 sd2 u0 l0 u1 l1 u2 l2 wy fi fl nu ik pr) H_35 := hP9
        replace hD : va_D A (zSA cI h len cd nm ks gs wt mi pl sk he nh p0 bg la sd pl2 sk2 he2 nh2 ru2 bg2 la2 sd2 u0 l0 u1 l1 u2 l2 wy fi fl nu ik pr) := hD9
        replace hS := hS9
        clear hP9 hD9 hS9
        refine lv_iload_n hx hb dX6_rule_38 rfl (lv_at hl 0 rfl) ?_
        have en_ru : ru_n nm ru p0 = p0 := by first | rfl | (simp only [ru_r, ru_n, if_neg c_1, if_pos c_6]; done) | (simp only [ru_r, ru_n, if_neg c_1, if_pos c_6]; rfl) | (simp only [ru_r, ru_n, c_1, c_6, c_16, ↓reduceIte, Bool.false_eq_true, if_true, if_false, reduceCtorEq, not_true_eq_false, not_false_eq_true, eq_self]; done) | (simp only [ru_r, ru_n, c_1, c_6, c_16, ↓reduceIte, Bool.false_eq_true, if_true, if_false, reduceCtorEq, not_true_eq_false, not_false_eq_true, eq_self]; rfl) | (simp [ru_r, ru_n, c_1, c_6, c_16]; done) | (simp only [ru_r, ru_n, if_neg c_1, if_pos c_6, c_16, ↓reduceIte, Bool.false_eq_true])
        exact W.iret hx hb hr (fun t ht hW => ⟨⟨_, (), rfl, (by first | rfl | (simp only [ru_r, ru_n, if_neg c_1, if_pos c_6]; done) | (simp only [ru_r, ru_n, if_neg c_1, if_pos c_6]; rfl) | (simp only [ru_r, ru_n, c_1, c_6, c_16, ↓reduceIte, Bool.false_eq_true, if_true, if_false, reduceCtorEq, not_true_eq_false, not_false_eq_true, eq_self]; done) | (simp only [ru_r, ru_n, c_1, c_6, c_16, ↓reduceIte, Bool.false_eq_true, if_true, if_false, reduceCtorEq, not_true_eq_false, not_false_eq_true, eq_self]; rfl) | (simp [ru_r, ru_n, c_1, c_6, c_16]; done) | (simp only [ru_r, ru_n, if_neg c_1, if_pos c_6, c_16, ↓reduceIte, Bool.false_eq_true])), (by show va_P D vwCl (zSA cI h len cd nm ks gs wt mi pl sk he nh (ru_n nm ru p0) bg la sd pl2 sk2 he2 nh2 ru2 bg2 la2 sd2 u0 l0 u1 l1 u2 l2 wy fi fl nu ik pr) t.heap; rw [ht, en_ru]; exact hP)⟩, hS.F ht⟩) hS.2.2 dX6_rule_39
      · skip
        replace c_16 := vz_b1 c_16
        refine lv_bipush (v := (-103)) hx hb dX6_rule_19 (by decide) ?_
        have en_ru : ru_n nm ru p0 = ru := by first | rfl | (simp only [ru_r, ru_n, if_neg c_1, if_pos c_6]; done) | (simp only [ru_r, ru_n, if_neg c_1, if_pos c_6]; rfl) | (simp only [ru_r, ru_n, c_1, c_6, c_16, ↓reduceIte, Bool.false_eq_true, if_true, if_false, reduceCtorEq, not_true_eq_false, not_false_eq_true, eq_self]; done) | (simp only [ru_r, ru_n, c_1, c_6, c_16, ↓reduceIte, Bool.false_eq_true, if_true, if_false, reduceCtorEq, not_true_eq_false, not_false_eq_true, eq_self]; rfl) | (simp [ru_r, ru_n, c_1, c_6, c_16]; done) | (simp only [ru_r, ru_n, if_neg c_1, if_pos c_6, c_16, ↓reduceIte, Bool.false_eq_true])
        exact W.iret hx hb hr (fun t ht hW => ⟨⟨_, (), rfl, (by first | rfl | (simp only [ru_r, ru_n, if_neg c_1, if_pos c_6]; done) | (simp only [ru_r, ru_n, if_neg c_1, if_pos c_6]; rfl) | (simp only [ru_r, ru_n, c_1, c_6, c_16, ↓reduceIte, Bool.false_eq_true, if_true, if_false, reduceCtorEq, not_true_eq_false, not_false_eq_true, eq_self]; done) | (simp only [ru_r, ru_n, c_1, c_6, c_16, ↓reduceIte, Bool.false_eq_true, if_true, if_false, reduceCtorEq, not_true_eq_false, not_false_eq_true, eq_self]; rfl) | (simp [ru_r, ru_n, c_1, c_6, c_16]; done) | (simp only [ru_r, ru_n, if_neg c_1, if_pos c_6, c_16, ↓reduceIte, Bool.false_eq_true])), (by show va_P D vwCl (zSA cI h len cd nm ks gs wt mi pl sk he nh (ru_n nm ru p0) bg la sd pl2 sk2 he2 nh2 ru2 bg2 la2 sd2 u0 l0 u1 l1 u2 l2 wy fi fl nu ik pr) t.heap; rw [ht, en_ru]; exact hP)⟩, hS.F ht⟩) hS.2.2 dX6_rule_21
    · skip
      refine lv_bipush (v := (-102)) hx hb dX6_rule_9 (by decide) ?_
      have en_ru : ru_n nm ru p0 = ru := by first | rfl | (simp only [ru_r, ru_n, if_neg c_1, if_neg c_6]; done) | (simp only [ru_r, ru_n, if_neg c_1, if_neg c_6]; rfl) | (simp only [ru_r, ru_n, c_1, c_6, ↓reduceIte, Bool.false_eq_true, if_true, if_false, reduceCtorEq, not_true_eq_false, not_false_eq_true, eq_self]; done) | (simp only [ru_r, ru_n, c_1, c_6, ↓reduceIte, Bool.false_eq_true, if_true, if_false, reduceCtorEq, not_true_eq_false, not_false_eq_true, eq_self]; rfl) | (simp [ru_r, ru_n, c_1, c_6]; done)
      exact W.iret hx hb hr (fun t ht hW => ⟨⟨_, (), rfl, (by first | rfl | (simp only [ru_r, ru_n, if_neg c_1, if_neg c_6]; done) | (simp only [ru_r, ru_n, if_neg c_1, if_neg c_6]; rfl) | (simp only [ru_r, ru_n, c_1, c_6, ↓reduceIte, Bool.false_eq_true, if_true, if_false, reduceCtorEq, not_true_eq_false, not_false_eq_true, eq_self]; done) | (simp only [ru_r, ru_n, c_1, c_6, ↓reduceIte, Bool.false_eq_true, if_true, if_false, reduceCtorEq, not_true_eq_false, not_false_eq_true, eq_self]; rfl) | (simp [ru_r, ru_n, c_1, c_6]; done)), (by show va_P D vwCl (zSA cI h len cd nm ks gs wt mi pl sk he nh (ru_n nm ru p0) bg la sd pl2 sk2 he2 nh2 ru2 bg2 la2 sd2 u0 l0 u1 l1 u2 l2 wy fi fl nu ik pr) t.heap; rw [ht, en_ru]; exact hP)⟩, hS.F ht⟩) hS.2.2 dX6_rule_11
set_option maxHeartbeats 4000000 in
set_option maxRecDepth 100000 in
theorem c_X6_play (l : Launch) (D : va_G) (cI : ClassId) (h : Nat → Nat) (len : Nat) (cd : Nat → Int32) (nm : Nat) (ks : Nat → Int32) (gs : Nat → Int32) (wt : Nat → Int32) (mi : Nat → Int32) (pl : Nat → Int32) (sk : Nat → Int32) (he : Nat → Int32) (nh : Nat) (ru : Int32) (bg : Int32) (la : Int32) (sd : Bool) (pl2 : Nat → Int32) (sk2 : Nat → Int32) (he2 : Nat → Int32) (nh2 : Nat) (ru2 : Int32) (bg2 : Int32) (la2 : Int32) (sd2 : Bool) (u0 : Int64) (l0 : Int64) (u1 : Int64) (l1 : Int64) (u2 : Int64) (l2 : Int64) (wy : Nat → Int32) (fi : Nat → Int32) (fl : Int32) (nu : Int32) (ik : Bool) (pr : Nat) (sz : Nat) (p0 : Int32) (hnm : nm ≤ 6) : Met l yX6_play wsX6_play ({ frames := 4, cells := 0, slots := 0, locals := 91 } : Room) (vz_rw D cI (zSA cI h len cd nm ks gs wt mi pl sk he nh ru bg la sd pl2 sk2 he2 nh2 ru2 bg2 la2 sd2 u0 l0 u1 l1 u2 l2 wy fi fl nu ik pr) sz [.ref (h 0), .int p0]) (va_Qi (fun r (_ : Unit) => r = pl_r nm ks gs ru bg la p0) (fun (u : Unit) (t : State) => va_P D vwCl (zSA cI h len cd nm ks gs wt mi (pl_n (pl_ok nm ks gs ru bg la p0) (rw_inc 6 pl p0) pl) sk he nh ru (pl_n (pl_ok nm ks gs ru bg la p0) (bk_bag nm bg p0) bg) (pl_n (pl_ok nm ks gs ru bg la p0) p0 la) (pl_n (pl_ok nm ks gs ru bg la p0) false sd) pl2 sk2 he2 nh2 ru2 bg2 la2 sd2 u0 l0 u1 l1 u2 l2 wy fi fl nu ik pr) t.heap) (va_A (zSA cI h len cd nm ks gs wt mi pl sk he nh ru bg la sd pl2 sk2 he2 nh2 ru2 bg2 la2 sd2 u0 l0 u1 l1 u2 l2 wy fi fl nu ik pr) sz)) 0 0 (va_A (zSA cI h len cd nm ks gs wt mi pl sk he nh ru bg la sd pl2 sk2 he2 nh2 ru2 bg2 la2 sd2 u0 l0 u1 l1 u2 l2 wy fi fl nu ik pr) sz) := by
  refine Met.ofW (cc := cX6_play) (maxL := 2) (ret := (some .int)) (by decide) rfl ?_
  intro p e s m args below meth c s₁ B hml hv
  obtain ⟨rfl, hsz, hP, hZ, hD0⟩ := hv
  obtain ⟨hK, hN⟩ := id hZ
  have hx := B.exec
  have hb := B.bytes
  have hr := B.returns
  have hts := atoms_spec (ws := wsX6_play) B.pre
  have hown : s.vm.findClass RX6 = some m.cls := findClass_of_methodNamed B.named
  have hlocks := B.notSynchronized
  subst hsz
  have hD := hD0.self (sz := s.heap.size)
  generalize hAe : va_A (zSA cI h len cd nm ks gs wt mi pl sk he nh ru bg la sd pl2 sk2 he2 nh2 ru2 bg2 la2 sd2 u0 l0 u1 l1 u2 l2 wy fi fl nu ik pr) s.heap.size = A at hD ⊢
  have hA : ∀ q : Nat, s.heap.size ≤ q → A q := fun q h => by rw [← hAe]; exact Or.inr h
  have hS : va_S A s.heap s.heap [] := va_S.rf
  have k19 := hts (.fieldLink RX6 19 "SongsAgain" "book" "LSongsAgain$Book;") (List.mem_of_getElem? (i := 1) rfl)
  have k26 := hts (.fieldLink RX6 26 "SongsAgain" "now" "LSongsAgain$Past;") (List.mem_of_getElem? (i := 2) rfl)
  have k120 : (Cond.fieldLinkNest "SongsAgain" 120 "SongsAgain$Past" "bag" "I" "SongsAgain").before _ s = true := va_Nw.use (A := ([.ref (h 0), .int p0] : List Value).toArray) rfl (hN.1 ("SongsAgain", 120, "SongsAgain$Past", "bag", "I") (List.mem_of_getElem? (i := 14) rfl))
  have k126 : (Cond.fieldLinkNest "SongsAgain" 126 "SongsAgain$Past" "last" "I" "SongsAgain").before _ s = true := va_Nw.use (A := ([.ref (h 0), .int p0] : List Value).toArray) rfl (hN.1 ("SongsAgain", 126, "SongsAgain$Past", "last", "I") (List.mem_of_getElem? (i := 15) rfl))
  have k129 : (Cond.fieldLinkNest "SongsAgain" 129 "SongsAgain$Past" "lastIsSkipped" "Z" "SongsAgain").before _ s = true := va_Nw.use (A := ([.ref (h 0), .int p0] : List Value).toArray) rfl (hN.1 ("SongsAgain", 129, "SongsAgain$Past", "lastIsSkipped", "Z") (List.mem_of_getElem? (i := 16) rfl))
  have k132 : (Cond.fieldLinkNest "SongsAgain" 132 "SongsAgain$Past" "played" "LSongsAgain$Row;" "SongsAgain").before _ s = true := va_Nw.use (A := ([.ref (h 0), .int p0] : List Value).toArray) rfl (hN.1 ("SongsAgain", 132, "SongsAgain$Past", "played", "LSongsAgain$Row;") (List.mem_of_getElem? (i := 9) rfl))
  have iX4 : ∀ w ∈ u_ws RX4 TX4 8, w ∈ wsX6_play := vz_in (i := 67) (n := 8) rfl
  have iX6 : ∀ w ∈ u_ws RX6 TX6 10, w ∈ wsX6_play := vz_in (i := 57) (n := 10) rfl
  have hl := lv_entry ([.ref (h 0), .int p0]) (n := 2) (Nat.le_of_ble_eq_true rfl)
  rw [lg_entry_eq]
  generalize (lg_sl ([.ref (h 0), .int p0]) ++ List.replicate (2 - (lg_sl ([.ref (h 0), .int p0])).length) Slot.unset).toArray = ls at hl ⊢
  have hl : lv_has ls 2 [(0, .ref (h 0)), (1, .int p0)] := hl
  have hP : va_P D vwCl (zSA cI h len cd nm ks gs wt mi pl sk he nh ru bg la sd pl2 sk2 he2 nh2 ru2 bg2 la2 sd2 u0 l0 u1 l1 u2 l2 wy fi fl nu ik pr) s.heap := hP
  refine lv_aload_n hx hb dX6_play_0 rfl (lv_at hl 0 rfl) ?_
  refine va_get (D := D) (ci := 6) (v := .ref (h 4)) (C := RX6) (T := TX6) (N := 10) hx hb hts iX6 hown hK hP 0 rfl rfl 1 (by decide) k19 (fun _ h9 => h9) rfl dX6_play_1 ?_
  refine lv_iload_n hx hb dX6_play_4 rfl (lv_at hl 1 rfl) ?_
  refine vp_callSi (W.runV (As := [.int p0]) (rest := []) ⟨hx, hb, hml, hown, hts⟩ (c_X0_has l D cI (fun i => h (4 + i)) nm ks gs wt mi p0) (cwV 1 hts gX6_play_X0_has rfl rfl rfl (by decide +kernel) ⟨Nat.le_of_ble_eq_true rfl, Nat.le_of_ble_eq_true rfl⟩) (vz_pvR (va_recv hK hP (ci := 0) (q0 := 4) rfl rfl) hZ (hP.sub (ws' := (zBook cI (fun i => h (4 + i)) nm ks gs wt mi)) [4, 5, 6, 7, 8, 9, 10, 11, 12] rfl)) rfl rfl hl.1 rfl (lv_room (Nat.le_of_ble_eq_true rfl)) dX6_play_5 ⟨Nat.zero_le _, Nat.zero_le _⟩) (fun r_5 hr_5 => ?_)
  subst hr_5
  refine lv_if_ne (tgt := 14) hx hb dX6_play_8 (by decide) (fun c_8 => ?_) (fun c_8 => ?_)
  · skip
    replace c_8 := vz_b1 c_8
    refine lv_aload_n hx hb dX6_play_14 rfl (lv_at hl 0 rfl) ?_
    refine vp_callSi (W.runV (As := []) (rest := []) ⟨hx, hb, hml, hown, hts⟩ (c_X6_mayNow l D cI h len cd nm ks gs wt mi pl sk he nh ru bg la sd pl2 sk2 he2 nh2 ru2 bg2 la2 sd2 u0 l0 u1 l1 u2 l2 wy fi fl nu ik pr (by first | assumption | omega)) (cwV 0 hts gX6_play_X6_mayNow rfl rfl rfl (by decide +kernel) ⟨Nat.le_of_ble_eq_true rfl, Nat.le_of_ble_eq_true rfl⟩) (vz_pvR (va_recv hK hP (ci := 6) (q0 := 0) rfl rfl) hZ hP) rfl rfl hl.1 rfl (lv_room (Nat.le_of_ble_eq_true rfl)) dX6_play_15 ⟨Nat.zero_le _, Nat.zero_le _⟩) (fun r_15 hr_15 => ?_)
    subst hr_15
    refine lv_iload_n hx hb dX6_play_18 rfl (lv_at hl 1 rfl) ?_
    refine vp_callSi (W.runS (As := [.int (bk_may nm ks gs ru bg la), .int p0]) (rest := []) ⟨hx, hb, hml, hown, hts⟩ (c_X6_holds l (bk_may nm ks gs ru bg la) p0) (va_cwS 2 hts gX6_play_X6_holds rfl rfl rfl (by decide +kernel) ⟨Nat.le_of_ble_eq_true rfl, Nat.le_of_ble_eq_true rfl⟩) (vz_psS) rfl rfl hl.1 rfl (lv_room (Nat.le_of_ble_eq_true rfl)) dX6_play_19 ⟨Nat.zero_le _, Nat.zero_le _⟩) (fun r_19 hr_19 => ?_)
    subst hr_19
    refine lv_if_ne (tgt := 28) hx hb dX6_play_22 (by decide) (fun c_22 => ?_) (fun c_22 => ?_)
    · skip
      replace c_22 := vz_b1 c_22
      refine lv_aload_n hx hb dX6_play_28 rfl (lv_at hl 0 rfl) ?_
      refine va_get (D := D) (ci := 6) (v := .ref (h 13)) (C := RX6) (T := TX6) (N := 10) hx hb hts iX6 hown hK hP 0 rfl rfl 2 (by decide) k26 (fun _ h9 => h9) rfl dX6_play_29 ?_
      refine lv_aload_n hx hb dX6_play_32 rfl (lv_at hl 0 rfl) ?_
      refine va_get (D := D) (ci := 6) (v := .ref (h 4)) (C := RX6) (T := TX6) (N := 10) hx hb hts iX6 hown hK hP 0 rfl rfl 1 (by decide) k19 (fun _ h9 => h9) rfl dX6_play_33 ?_
      refine lv_aload_n hx hb dX6_play_36 rfl (lv_at hl 0 rfl) ?_
      refine va_get (D := D) (ci := 6) (v := .ref (h 13)) (C := RX6) (T := TX6) (N := 10) hx hb hts iX6 hown hK hP 0 rfl rfl 2 (by decide) k26 (fun _ h9 => h9) rfl dX6_play_37 ?_
      refine va_getN (D := D) (ci := 4) (v := .int bg) (C := RX4) (T := TX4) (N := 8) hx hb hts iX4 hown hK hP 13 rfl rfl 5 (by decide) k120 (fun _ h9 => h9) rfl dX6_play_40 ?_
      refine lv_iload_n hx hb dX6_play_43 rfl (lv_at hl 1 rfl) ?_
      refine vp_callSi (W.runV (As := [.int bg, .int p0]) (rest := [.ref (h 13)]) ⟨hx, hb, hml, hown, hts⟩ (c_X0_bagAfter l D cI (fun i => h (4 + i)) nm ks gs wt mi bg p0) (cwV 2 hts gX6_play_X0_bagAfter rfl rfl rfl (by decide +kernel) ⟨Nat.le_of_ble_eq_true rfl, Nat.le_of_ble_eq_true rfl⟩) (vz_pvR (va_recv hK hP (ci := 0) (q0 := 4) rfl rfl) hZ (hP.sub (ws' := (zBook cI (fun i => h (4 + i)) nm ks gs wt mi)) [4, 5, 6, 7, 8, 9, 10, 11, 12] rfl)) rfl rfl hl.1 rfl (lv_room (Nat.le_of_ble_eq_true rfl)) dX6_play_44 ⟨Nat.zero_le _, Nat.zero_le _⟩) (fun r_44 hr_44 => ?_)
      subst hr_44
      refine va_putN (D := D) (ci := 4) (v := .int (bk_bag nm bg p0)) (ty := .int) (C := RX4) (T := TX4) (N := 8) hx hb hts iX4 tyX4 tyX4_ok nmX4 hown hK hP hD hS 13 rfl rfl 5 (by decide) k120 (fun _ h9 => h9) rfl (by decide +kernel) rfl rfl (Nat.le_of_ble_eq_true rfl) dX6_play_47 (fun H_47 locs_47 hP9 hD9 hS9 => ?_)
      replace hP : va_P D vwCl (zSA cI h len cd nm ks gs wt mi pl sk he nh ru (bk_bag nm bg p0) la sd pl2 sk2 he2 nh2 ru2 bg2 la2 sd2 u0 l0 u1 l1 u2 l2 wy fi fl nu ik pr) H_47 := hP9
      replace hD : va_D A (zSA cI h len cd nm ks gs wt mi pl sk he nh ru (bk_bag nm bg p0) la sd pl2 sk2 he2 nh2 ru2 bg2 la2 sd2 u0 l0 u1 l1 u2 l2 wy fi fl nu ik pr) := hD9
      replace hS := hS9
      clear hP9 hD9 hS9
      refine lv_aload_n hx hb dX6_play_50 rfl (lv_at hl 0 rfl) ?_
      refine va_get (D := D) (ci := 6) (v := .ref (h 13)) (C := RX6) (T := TX6) (N := 10) hx hb hts iX6 hown hK hP 0 rfl rfl 2 (by decide) k26 (fun _ h9 => h9) rfl dX6_play_51 ?_
      refine lv_iload_n hx hb dX6_play_54 rfl (lv_at hl 1 rfl) ?_
      refine va_putN (D := D) (ci := 4) (v := .int p0) (ty := .int) (C := RX4) (T := TX4) (N := 8) hx hb hts iX4 tyX4 tyX4_ok nmX4 hown hK hP hD hS 13 rfl rfl 6 (by decide) k126 (fun _ h9 => h9) rfl (by decide +kernel) rfl rfl (Nat.le_of_ble_eq_true rfl) dX6_play_55 (fun H_55 locs_55 hP9 hD9 hS9 => ?_)
      replace hP : va_P D vwCl (zSA cI h len cd nm ks gs wt mi pl sk he nh ru (bk_bag nm bg p0) p0 sd pl2 sk2 he2 nh2 ru2 bg2 la2 sd2 u0 l0 u1 l1 u2 l2 wy fi fl nu ik pr) H_55 := hP9
      replace hD : va_D A (zSA cI h len cd nm ks gs wt mi pl sk he nh ru (bk_bag nm bg p0) p0 sd pl2 sk2 he2 nh2 ru2 bg2 la2 sd2 u0 l0 u1 l1 u2 l2 wy fi fl nu ik pr) := hD9
      replace hS := hS9
      clear hP9 hD9 hS9
      refine lv_aload_n hx hb dX6_play_58 rfl (lv_at hl 0 rfl) ?_
      refine va_get (D := D) (ci := 6) (v := .ref (h 13)) (C := RX6) (T := TX6) (N := 10) hx hb hts iX6 hown hK hP 0 rfl rfl 2 (by decide) k26 (fun _ h9 => h9) rfl dX6_play_59 ?_
      refine lv_iconst (v := 0) hx hb dX6_play_62 (by decide) ?_
      refine va_putN (D := D) (ci := 4) (v := .int 0) (ty := .boolean) (C := RX4) (T := TX4) (N := 8) hx hb hts iX4 tyX4 tyX4_ok nmX4 hown hK hP hD hS 13 rfl rfl 7 (by decide) k129 (fun _ h9 => h9) rfl (by decide +kernel) narrow_b0 rfl (Nat.le_of_ble_eq_true rfl) dX6_play_63 (fun H_63 locs_63 hP9 hD9 hS9 => ?_)
      replace hP : va_P D vwCl (zSA cI h len cd nm ks gs wt mi pl sk he nh ru (bk_bag nm bg p0) p0 false pl2 sk2 he2 nh2 ru2 bg2 la2 sd2 u0 l0 u1 l1 u2 l2 wy fi fl nu ik pr) H_63 := hP9
      replace hD : va_D A (zSA cI h len cd nm ks gs wt mi pl sk he nh ru (bk_bag nm bg p0) p0 false pl2 sk2 he2 nh2 ru2 bg2 la2 sd2 u0 l0 u1 l1 u2 l2 wy fi fl nu ik pr) := hD9
      replace hS := hS9
      clear hP9 hD9 hS9
      refine lv_aload_n hx hb dX6_play_66 rfl (lv_at hl 0 rfl) ?_
      refine va_get (D := D) (ci := 6) (v := .ref (h 13)) (C := RX6) (T := TX6) (N := 10) hx hb hts iX6 hown hK hP 0 rfl rfl 2 (by decide) k26 (fun _ h9 => h9) rfl dX6_play_67 ?_
      refine va_getN (D := D) (ci := 4) (v := .ref (h 14)) (C := RX4) (T := TX4) (N := 8) hx hb hts iX4 hown hK hP 13 rfl rfl 0 (by decide) k132 (fun _ h9 => h9) rfl dX6_play_70 ?_
      refine lv_iload_n hx hb dX6_play_73 rfl (lv_at hl 1 rfl) ?_
      have hPc := (hP.sub (ws' := (zRow cI (h 14) (h 15) 6 pl)) [14, 15] rfl)
      have hDc := hD.sub (ws' := (zRow cI (h 14) (h 15) 6 pl)) [14, 15] rfl rfl
      have hFc := va_free (wc := (zRow cI (h 14) (h 15) 6 pl)) hD hS hA [14, 15] rfl
      refine va_callv (va_runV (As := [.int p0]) (rest := []) ⟨hx, hb, hml, hown, hts⟩ (c_X5_increase l D cI (h 14) (h 15) 6 pl H_63.size p0 (by decide)) (cwV 1 hts gX6_play_X5_increase rfl rfl rfl (by decide +kernel) ⟨Nat.le_of_ble_eq_true rfl, Nat.le_of_ble_eq_true rfl⟩) (vz_pvW (va_recv hK hP (ci := 5) (q0 := 14) rfl rfl) hZ hPc hDc) rfl rfl hl.1 rfl (lv_room (Nat.le_of_ble_eq_true rfl)) dX6_play_74 ⟨Nat.zero_le _, Nat.zero_le _⟩) hS (fun q _ h => hFc q h) hFc (fun u_74 t H_74 locs_74 ht hvm hw hB hz1 hk1 hS9 => ?_)
      rw [ht] at hB
      replace hP : va_P D vwCl (zSA cI h len cd nm ks gs wt mi (rw_inc 6 pl p0) sk he nh ru (bk_bag nm bg p0) p0 false pl2 sk2 he2 nh2 ru2 bg2 la2 sd2 u0 l0 u1 l1 u2 l2 wy fi fl nu ik pr) H_74 := vz_join (w1 := (zRow cI (h 14) (h 15) 6 (rw_inc 6 pl p0))) hP hD [14, 15] rfl rfl hk1 hB
      replace hD : va_D A (zSA cI h len cd nm ks gs wt mi (rw_inc 6 pl p0) sk he nh ru (bk_bag nm bg p0) p0 false pl2 sk2 he2 nh2 ru2 bg2 la2 sd2 u0 l0 u1 l1 u2 l2 wy fi fl nu ik pr) := vz_same hD rfl
      replace hS := hS9
      clear hS9 hPc hDc hFc hB hk1 hz1
      refine lv_aload_n hx hb dX6_play_77 rfl (lv_at hl 0 rfl) ?_
      refine va_get (D := D) (ci := 6) (v := .ref (h 13)) (C := RX6) (T := TX6) (N := 10) hx hb hts iX6 hown hK hP 0 rfl rfl 2 (by decide) k26 (fun _ h9 => h9) rfl dX6_play_78 ?_
      refine va_getN (D := D) (ci := 4) (v := .int (bk_bag nm bg p0)) (C := RX4) (T := TX4) (N := 8) hx hb hts iX4 hown hK hP 13 rfl rfl 5 (by decide) k120 (fun _ h9 => h9) rfl dX6_play_81 ?_
      refine vp_callSi (W.runS (As := [.int (bk_bag nm bg p0)]) (rest := []) ⟨hx, hb, hml, hown, hts⟩ (c_J6_bitCount_0f7a4 l (bk_bag nm bg p0)) (va_cwS 1 hts gX6_play_J6_bitCount_0f7a4 rfl rfl rfl (by decide +kernel) ⟨Nat.le_of_ble_eq_true rfl, Nat.le_of_ble_eq_true rfl⟩) (vz_psS) rfl rfl hl.1 rfl (lv_room (Nat.le_of_ble_eq_true rfl)) dX6_play_84 ⟨Nat.zero_le _, Nat.zero_le _⟩) (fun r_84 hr_84 => ?_)
      subst hr_84
      have en_pl : pl_n (pl_ok nm ks gs ru bg la p0) (rw_inc 6 pl p0) pl = rw_inc 6 pl p0 := by first | rfl | (simp only [pl_r, pl_n, pl_ok]; done) | (simp only [pl_r, pl_n, pl_ok]; rfl) | (simp only [pl_r, pl_n, pl_ok, c_8, c_22, ↓reduceIte, Bool.false_eq_true, if_true, if_false, reduceCtorEq, not_true_eq_false, not_false_eq_true, eq_self]; done) | (simp only [pl_r, pl_n, pl_ok, c_8, c_22, ↓reduceIte, Bool.false_eq_true, if_true, if_false, reduceCtorEq, not_true_eq_false, not_false_eq_true, eq_self]; rfl) | (simp [pl_r, pl_n, pl_ok, c_8, c_22]; done)
      have en_bg : pl_n (pl_ok nm ks gs ru bg la p0) (bk_bag nm bg p0) bg = bk_bag nm bg p0 := by first | rfl | (simp only [pl_r, pl_n, pl_ok]; done) | (simp only [pl_r, pl_n, pl_ok]; rfl) | (simp only [pl_r, pl_n, pl_ok, c_8, c_22, ↓reduceIte, Bool.false_eq_true, if_true, if_false, reduceCtorEq, not_true_eq_false, not_false_eq_true, eq_self]; done) | (simp only [pl_r, pl_n, pl_ok, c_8, c_22, ↓reduceIte, Bool.false_eq_true, if_true, if_false, reduceCtorEq, not_true_eq_false, not_false_eq_true, eq_self]; rfl) | (simp [pl_r, pl_n, pl_ok, c_8, c_22]; done)
      have en_la : pl_n (pl_ok nm ks gs ru bg la p0) p0 la = p0 := by first | rfl | (simp only [pl_r, pl_n, pl_ok]; done) | (simp only [pl_r, pl_n, pl_ok]; rfl) | (simp only [pl_r, pl_n, pl_ok, c_8, c_22, ↓reduceIte, Bool.false_eq_true, if_true, if_false, reduceCtorEq, not_true_eq_false, not_false_eq_true, eq_self]; done) | (simp only [pl_r, pl_n, pl_ok, c_8, c_22, ↓reduceIte, Bool.false_eq_true, if_true, if_false, reduceCtorEq, not_true_eq_false, not_false_eq_true, eq_self]; rfl) | (simp [pl_r, pl_n, pl_ok, c_8, c_22]; done)
      have en_sd : pl_n (pl_ok nm ks gs ru bg la p0) false sd = false := by first | rfl | (simp only [pl_r, pl_n, pl_ok]; done) | (simp only [pl_r, pl_n, pl_ok]; rfl) | (simp only [pl_r, pl_n, pl_ok, c_8, c_22, ↓reduceIte, Bool.false_eq_true, if_true, if_false, reduceCtorEq, not_true_eq_false, not_false_eq_true, eq_self]; done) | (simp only [pl_r, pl_n, pl_ok, c_8, c_22, ↓reduceIte, Bool.false_eq_true, if_true, if_false, reduceCtorEq, not_true_eq_false, not_false_eq_true, eq_self]; rfl) | (simp [pl_r, pl_n, pl_ok, c_8, c_22]; done)
      exact W.iret hx hb hr (fun t ht hW => ⟨⟨_, (), rfl, (by first | rfl | (simp only [pl_r, pl_n, pl_ok]; done) | (simp only [pl_r, pl_n, pl_ok]; rfl) | (simp only [pl_r, pl_n, pl_ok, c_8, c_22, ↓reduceIte, Bool.false_eq_true, if_true, if_false, reduceCtorEq, not_true_eq_false, not_false_eq_true, eq_self]; done) | (simp only [pl_r, pl_n, pl_ok, c_8, c_22, ↓reduceIte, Bool.false_eq_true, if_true, if_false, reduceCtorEq, not_true_eq_false, not_false_eq_true, eq_self]; rfl) | (simp [pl_r, pl_n, pl_ok, c_8, c_22]; done)), (by show va_P D vwCl (zSA cI h len cd nm ks gs wt mi (pl_n (pl_ok nm ks gs ru bg la p0) (rw_inc 6 pl p0) pl) sk he nh ru (pl_n (pl_ok nm ks gs ru bg la p0) (bk_bag nm bg p0) bg) (pl_n (pl_ok nm ks gs ru bg la p0) p0 la) (pl_n (pl_ok nm ks gs ru bg la p0) false sd) pl2 sk2 he2 nh2 ru2 bg2 la2 sd2 u0 l0 u1 l1 u2 l2 wy fi fl nu ik pr) t.heap; rw [ht, en_pl, en_bg, en_la, en_sd]; exact hP)⟩, hS.F ht⟩) hS.2.2 dX6_play_87
    · skip
      replace c_22 := vz_b0 c_22
      refine lv_bipush (v := (-103)) hx hb dX6_play_25 (by decide) ?_
      have en_pl : pl_n (pl_ok nm ks gs ru bg la p0) (rw_inc 6 pl p0) pl = pl := by first | rfl | (simp only [pl_r, pl_n, pl_ok]; done) | (simp only [pl_r, pl_n, pl_ok]; rfl) | (simp only [pl_r, pl_n, pl_ok, c_8, c_22, ↓reduceIte, Bool.false_eq_true, if_true, if_false, reduceCtorEq, not_true_eq_false, not_false_eq_true, eq_self]; done) | (simp only [pl_r, pl_n, pl_ok, c_8, c_22, ↓reduceIte, Bool.false_eq_true, if_true, if_false, reduceCtorEq, not_true_eq_false, not_false_eq_true, eq_self]; rfl) | (simp [pl_r, pl_n, pl_ok, c_8, c_22]; done)
      have en_bg : pl_n (pl_ok nm ks gs ru bg la p0) (bk_bag nm bg p0) bg = bg := by first | rfl | (simp only [pl_r, pl_n, pl_ok]; done) | (simp only [pl_r, pl_n, pl_ok]; rfl) | (simp only [pl_r, pl_n, pl_ok, c_8, c_22, ↓reduceIte, Bool.false_eq_true, if_true, if_false, reduceCtorEq, not_true_eq_false, not_false_eq_true, eq_self]; done) | (simp only [pl_r, pl_n, pl_ok, c_8, c_22, ↓reduceIte, Bool.false_eq_true, if_true, if_false, reduceCtorEq, not_true_eq_false, not_false_eq_true, eq_self]; rfl) | (simp [pl_r, pl_n, pl_ok, c_8, c_22]; done)
      have en_la : pl_n (pl_ok nm ks gs ru bg la p0) p0 la = la := by first | rfl | (simp only [pl_r, pl_n, pl_ok]; done) | (simp only [pl_r, pl_n, pl_ok]; rfl) | (simp only [pl_r, pl_n, pl_ok, c_8, c_22, ↓reduceIte, Bool.false_eq_true, if_true, if_false, reduceCtorEq, not_true_eq_false, not_false_eq_true, eq_self]; done) | (simp only [pl_r, pl_n, pl_ok, c_8, c_22, ↓reduceIte, Bool.false_eq_true, if_true, if_false, reduceCtorEq, not_true_eq_false, not_false_eq_true, eq_self]; rfl) | (simp [pl_r, pl_n, pl_ok, c_8, c_22]; done)
      have en_sd : pl_n (pl_ok nm ks gs ru bg la p0) false sd = sd := by first | rfl | (simp only [pl_r, pl_n, pl_ok]; done) | (simp only [pl_r, pl_n, pl_ok]; rfl) | (simp only [pl_r, pl_n, pl_ok, c_8, c_22, ↓reduceIte, Bool.false_eq_true, if_true, if_false, reduceCtorEq, not_true_eq_false, not_false_eq_true, eq_self]; done) | (simp only [pl_r, pl_n, pl_ok, c_8, c_22, ↓reduceIte, Bool.false_eq_true, if_true, if_false, reduceCtorEq, not_true_eq_false, not_false_eq_true, eq_self]; rfl) | (simp [pl_r, pl_n, pl_ok, c_8, c_22]; done)
      exact W.iret hx hb hr (fun t ht hW => ⟨⟨_, (), rfl, (by first | rfl | (simp only [pl_r, pl_n, pl_ok]; done) | (simp only [pl_r, pl_n, pl_ok]; rfl) | (simp only [pl_r, pl_n, pl_ok, c_8, c_22, ↓reduceIte, Bool.false_eq_true, if_true, if_false, reduceCtorEq, not_true_eq_false, not_false_eq_true, eq_self]; done) | (simp only [pl_r, pl_n, pl_ok, c_8, c_22, ↓reduceIte, Bool.false_eq_true, if_true, if_false, reduceCtorEq, not_true_eq_false, not_false_eq_true, eq_self]; rfl) | (simp [pl_r, pl_n, pl_ok, c_8, c_22]; done)), (by show va_P D vwCl (zSA cI h len cd nm ks gs wt mi (pl_n (pl_ok nm ks gs ru bg la p0) (rw_inc 6 pl p0) pl) sk he nh ru (pl_n (pl_ok nm ks gs ru bg la p0) (bk_bag nm bg p0) bg) (pl_n (pl_ok nm ks gs ru bg la p0) p0 la) (pl_n (pl_ok nm ks gs ru bg la p0) false sd) pl2 sk2 he2 nh2 ru2 bg2 la2 sd2 u0 l0 u1 l1 u2 l2 wy fi fl nu ik pr) t.heap; rw [ht, en_pl, en_bg, en_la, en_sd]; exact hP)⟩, hS.F ht⟩) hS.2.2 dX6_play_27
  · skip
    replace c_8 := vz_b0 c_8
    refine lv_bipush (v := (-101)) hx hb dX6_play_11 (by decide) ?_
    have en_pl : pl_n (pl_ok nm ks gs ru bg la p0) (rw_inc 6 pl p0) pl = pl := by first | rfl | (simp only [pl_r, pl_n, pl_ok]; done) | (simp only [pl_r, pl_n, pl_ok]; rfl) | (simp only [pl_r, pl_n, pl_ok, c_8, ↓reduceIte, Bool.false_eq_true, if_true, if_false, reduceCtorEq, not_true_eq_false, not_false_eq_true, eq_self]; done) | (simp only [pl_r, pl_n, pl_ok, c_8, ↓reduceIte, Bool.false_eq_true, if_true, if_false, reduceCtorEq, not_true_eq_false, not_false_eq_true, eq_self]; rfl) | (simp [pl_r, pl_n, pl_ok, c_8]; done)
    have en_bg : pl_n (pl_ok nm ks gs ru bg la p0) (bk_bag nm bg p0) bg = bg := by first | rfl | (simp only [pl_r, pl_n, pl_ok]; done) | (simp only [pl_r, pl_n, pl_ok]; rfl) | (simp only [pl_r, pl_n, pl_ok, c_8, ↓reduceIte, Bool.false_eq_true, if_true, if_false, reduceCtorEq, not_true_eq_false, not_false_eq_true, eq_self]; done) | (simp only [pl_r, pl_n, pl_ok, c_8, ↓reduceIte, Bool.false_eq_true, if_true, if_false, reduceCtorEq, not_true_eq_false, not_false_eq_true, eq_self]; rfl) | (simp [pl_r, pl_n, pl_ok, c_8]; done)
    have en_la : pl_n (pl_ok nm ks gs ru bg la p0) p0 la = la := by first | rfl | (simp only [pl_r, pl_n, pl_ok]; done) | (simp only [pl_r, pl_n, pl_ok]; rfl) | (simp only [pl_r, pl_n, pl_ok, c_8, ↓reduceIte, Bool.false_eq_true, if_true, if_false, reduceCtorEq, not_true_eq_false, not_false_eq_true, eq_self]; done) | (simp only [pl_r, pl_n, pl_ok, c_8, ↓reduceIte, Bool.false_eq_true, if_true, if_false, reduceCtorEq, not_true_eq_false, not_false_eq_true, eq_self]; rfl) | (simp [pl_r, pl_n, pl_ok, c_8]; done)
    have en_sd : pl_n (pl_ok nm ks gs ru bg la p0) false sd = sd := by first | rfl | (simp only [pl_r, pl_n, pl_ok]; done) | (simp only [pl_r, pl_n, pl_ok]; rfl) | (simp only [pl_r, pl_n, pl_ok, c_8, ↓reduceIte, Bool.false_eq_true, if_true, if_false, reduceCtorEq, not_true_eq_false, not_false_eq_true, eq_self]; done) | (simp only [pl_r, pl_n, pl_ok, c_8, ↓reduceIte, Bool.false_eq_true, if_true, if_false, reduceCtorEq, not_true_eq_false, not_false_eq_true, eq_self]; rfl) | (simp [pl_r, pl_n, pl_ok, c_8]; done)
    exact W.iret hx hb hr (fun t ht hW => ⟨⟨_, (), rfl, (by first | rfl | (simp only [pl_r, pl_n, pl_ok]; done) | (simp only [pl_r, pl_n, pl_ok]; rfl) | (simp only [pl_r, pl_n, pl_ok, c_8, ↓reduceIte, Bool.false_eq_true, if_true, if_false, reduceCtorEq, not_true_eq_false, not_false_eq_true, eq_self]; done) | (simp only [pl_r, pl_n, pl_ok, c_8, ↓reduceIte, Bool.false_eq_true, if_true, if_false, reduceCtorEq, not_true_eq_false, not_false_eq_true, eq_self]; rfl) | (simp [pl_r, pl_n, pl_ok, c_8]; done)), (by show va_P D vwCl (zSA cI h len cd nm ks gs wt mi (pl_n (pl_ok nm ks gs ru bg la p0) (rw_inc 6 pl p0) pl) sk he nh ru (pl_n (pl_ok nm ks gs ru bg la p0) (bk_bag nm bg p0) bg) (pl_n (pl_ok nm ks gs ru bg la p0) p0 la) (pl_n (pl_ok nm ks gs ru bg la p0) false sd) pl2 sk2 he2 nh2 ru2 bg2 la2 sd2 u0 l0 u1 l1 u2 l2 wy fi fl nu ik pr) t.heap; rw [ht, en_pl, en_bg, en_la, en_sd]; exact hP)⟩, hS.F ht⟩) hS.2.2 dX6_play_13
set_option maxHeartbeats 4000000 in
set_option maxRecDepth 100000 in
theorem c_X6_skip (l : Launch) (D : va_G) (cI : ClassId) (h : Nat → Nat) (len : Nat) (cd : Nat → Int32) (nm : Nat) (ks : Nat → Int32) (gs : Nat → Int32) (wt : Nat → Int32) (mi : Nat → Int32) (pl : Nat → Int32) (sk : Nat → Int32) (he : Nat → Int32) (nh : Nat) (ru : Int32) (bg : Int32) (la : Int32) (sd : Bool) (pl2 : Nat → Int32) (sk2 : Nat → Int32) (he2 : Nat → Int32) (nh2 : Nat) (ru2 : Int32) (bg2 : Int32) (la2 : Int32) (sd2 : Bool) (u0 : Int64) (l0 : Int64) (u1 : Int64) (l1 : Int64) (u2 : Int64) (l2 : Int64) (wy : Nat → Int32) (fi : Nat → Int32) (fl : Int32) (nu : Int32) (ik : Bool) (pr : Nat) (sz : Nat) : Met l yX6_skip wsX6_skip ({ frames := 2, cells := 0, slots := 0, locals := 61 } : Room) (vz_rw D cI (zSA cI h len cd nm ks gs wt mi pl sk he nh ru bg la sd pl2 sk2 he2 nh2 ru2 bg2 la2 sd2 u0 l0 u1 l1 u2 l2 wy fi fl nu ik pr) sz [.ref (h 0)]) (va_Qi (fun r (_ : Unit) => r = sk_r wt sk la sd) (fun (u : Unit) (t : State) => va_P D vwCl (zSA cI h len cd nm ks gs wt mi pl (pl_n (sk_ok la sd) (rw_inc 6 sk la) sk) he nh ru bg la (pl_n (sk_ok la sd) true sd) pl2 sk2 he2 nh2 ru2 bg2 la2 sd2 u0 l0 u1 l1 u2 l2 wy fi fl nu ik pr) t.heap) (va_A (zSA cI h len cd nm ks gs wt mi pl sk he nh ru bg la sd pl2 sk2 he2 nh2 ru2 bg2 la2 sd2 u0 l0 u1 l1 u2 l2 wy fi fl nu ik pr) sz)) 0 0 (va_A (zSA cI h len cd nm ks gs wt mi pl sk he nh ru bg la sd pl2 sk2 he2 nh2 ru2 bg2 la2 sd2 u0 l0 u1 l1 u2 l2 wy fi fl nu ik pr) sz) := by
  refine Met.ofW (cc := cX6_skip) (maxL := 1) (ret := (some .int)) (by decide) rfl ?_
  intro p e s m args below meth c s₁ B hml hv
  obtain ⟨rfl, hsz, hP, hZ, hD0⟩ := hv
  obtain ⟨hK, hN⟩ := id hZ
  have hx := B.exec
  have hb := B.bytes
  have hr := B.returns
  have hts := atoms_spec (ws := wsX6_skip) B.pre
  have hown : s.vm.findClass RX6 = some m.cls := findClass_of_methodNamed B.named
  have hlocks := B.notSynchronized
  subst hsz
  have hD := hD0.self (sz := s.heap.size)
  generalize hAe : va_A (zSA cI h len cd nm ks gs wt mi pl sk he nh ru bg la sd pl2 sk2 he2 nh2 ru2 bg2 la2 sd2 u0 l0 u1 l1 u2 l2 wy fi fl nu ik pr) s.heap.size = A at hD ⊢
  have hA : ∀ q : Nat, s.heap.size ≤ q → A q := fun q h => by rw [← hAe]; exact Or.inr h
  have hS : va_S A s.heap s.heap [] := va_S.rf
  have k26 := hts (.fieldLink RX6 26 "SongsAgain" "now" "LSongsAgain$Past;") (List.mem_of_getElem? (i := 1) rfl)
  have k126 : (Cond.fieldLinkNest "SongsAgain" 126 "SongsAgain$Past" "last" "I" "SongsAgain").before _ s = true := va_Nw.use (A := ([.ref (h 0)] : List Value).toArray) rfl (hN.1 ("SongsAgain", 126, "SongsAgain$Past", "last", "I") (List.mem_of_getElem? (i := 15) rfl))
  have k129 : (Cond.fieldLinkNest "SongsAgain" 129 "SongsAgain$Past" "lastIsSkipped" "Z" "SongsAgain").before _ s = true := va_Nw.use (A := ([.ref (h 0)] : List Value).toArray) rfl (hN.1 ("SongsAgain", 129, "SongsAgain$Past", "lastIsSkipped", "Z") (List.mem_of_getElem? (i := 16) rfl))
  have k147 : (Cond.fieldLinkNest "SongsAgain" 147 "SongsAgain$Past" "skipped" "LSongsAgain$Row;" "SongsAgain").before _ s = true := va_Nw.use (A := ([.ref (h 0)] : List Value).toArray) rfl (hN.1 ("SongsAgain", 147, "SongsAgain$Past", "skipped", "LSongsAgain$Row;") (List.mem_of_getElem? (i := 10) rfl))
  have iX4 : ∀ w ∈ u_ws RX4 TX4 8, w ∈ wsX6_skip := vz_in (i := 37) (n := 8) rfl
  have iX6 : ∀ w ∈ u_ws RX6 TX6 10, w ∈ wsX6_skip := vz_in (i := 27) (n := 10) rfl
  have hl := lv_entry ([.ref (h 0)]) (n := 1) (Nat.le_of_ble_eq_true rfl)
  rw [lg_entry_eq]
  generalize (lg_sl ([.ref (h 0)]) ++ List.replicate (1 - (lg_sl ([.ref (h 0)])).length) Slot.unset).toArray = ls at hl ⊢
  have hl : lv_has ls 1 [(0, .ref (h 0))] := hl
  have hP : va_P D vwCl (zSA cI h len cd nm ks gs wt mi pl sk he nh ru bg la sd pl2 sk2 he2 nh2 ru2 bg2 la2 sd2 u0 l0 u1 l1 u2 l2 wy fi fl nu ik pr) s.heap := hP
  refine lv_aload_n hx hb dX6_skip_0 rfl (lv_at hl 0 rfl) ?_
  refine va_get (D := D) (ci := 6) (v := .ref (h 13)) (C := RX6) (T := TX6) (N := 10) hx hb hts iX6 hown hK hP 0 rfl rfl 2 (by decide) k26 (fun _ h9 => h9) rfl dX6_skip_1 ?_
  refine va_getN (D := D) (ci := 4) (v := .int la) (C := RX4) (T := TX4) (N := 8) hx hb hts iX4 hown hK hP 13 rfl rfl 6 (by decide) k126 (fun _ h9 => h9) rfl dX6_skip_4 ?_
  refine lv_iconst (v := (-1)) hx hb dX6_skip_7 (by decide) ?_
  refine lv_icmp_eq (tgt := 21) hx hb dX6_skip_8 (by decide) (fun c_8 => ?_) (fun c_8 => ?_)
  · skip
    refine lv_bipush (v := (-103)) hx hb dX6_skip_21 (by decide) ?_
    have en_sk : pl_n (sk_ok la sd) (rw_inc 6 sk la) sk = sk := by first | rfl | (simp only [sk_r, sk_ok, pl_n, if_pos c_8]; done) | (simp only [sk_r, sk_ok, pl_n, if_pos c_8]; rfl) | (simp only [sk_r, sk_ok, pl_n, c_8, ↓reduceIte, Bool.false_eq_true, if_true, if_false, reduceCtorEq, not_true_eq_false, not_false_eq_true, eq_self]; done) | (simp only [sk_r, sk_ok, pl_n, c_8, ↓reduceIte, Bool.false_eq_true, if_true, if_false, reduceCtorEq, not_true_eq_false, not_false_eq_true, eq_self]; rfl) | (simp [sk_r, sk_ok, pl_n, c_8]; done)
    have en_sd : pl_n (sk_ok la sd) true sd = sd := by first | rfl | (simp only [sk_r, sk_ok, pl_n, if_pos c_8]; done) | (simp only [sk_r, sk_ok, pl_n, if_pos c_8]; rfl) | (simp only [sk_r, sk_ok, pl_n, c_8, ↓reduceIte, Bool.false_eq_true, if_true, if_false, reduceCtorEq, not_true_eq_false, not_false_eq_true, eq_self]; done) | (simp only [sk_r, sk_ok, pl_n, c_8, ↓reduceIte, Bool.false_eq_true, if_true, if_false, reduceCtorEq, not_true_eq_false, not_false_eq_true, eq_self]; rfl) | (simp [sk_r, sk_ok, pl_n, c_8]; done)
    exact W.iret hx hb hr (fun t ht hW => ⟨⟨_, (), rfl, (by first | rfl | (simp only [sk_r, sk_ok, pl_n, if_pos c_8]; done) | (simp only [sk_r, sk_ok, pl_n, if_pos c_8]; rfl) | (simp only [sk_r, sk_ok, pl_n, c_8, ↓reduceIte, Bool.false_eq_true, if_true, if_false, reduceCtorEq, not_true_eq_false, not_false_eq_true, eq_self]; done) | (simp only [sk_r, sk_ok, pl_n, c_8, ↓reduceIte, Bool.false_eq_true, if_true, if_false, reduceCtorEq, not_true_eq_false, not_false_eq_true, eq_self]; rfl) | (simp [sk_r, sk_ok, pl_n, c_8]; done)), (by show va_P D vwCl (zSA cI h len cd nm ks gs wt mi pl (pl_n (sk_ok la sd) (rw_inc 6 sk la) sk) he nh ru bg la (pl_n (sk_ok la sd) true sd) pl2 sk2 he2 nh2 ru2 bg2 la2 sd2 u0 l0 u1 l1 u2 l2 wy fi fl nu ik pr) t.heap; rw [ht, en_sk, en_sd]; exact hP)⟩, hS.F ht⟩) hS.2.2 dX6_skip_23
  · skip
    refine lv_aload_n hx hb dX6_skip_11 rfl (lv_at hl 0 rfl) ?_
    refine va_get (D := D) (ci := 6) (v := .ref (h 13)) (C := RX6) (T := TX6) (N := 10) hx hb hts iX6 hown hK hP 0 rfl rfl 2 (by decide) k26 (fun _ h9 => h9) rfl dX6_skip_12 ?_
    refine va_getN (D := D) (ci := 4) (v := .int (vz_b sd)) (C := RX4) (T := TX4) (N := 8) hx hb hts iX4 hown hK hP 13 rfl rfl 7 (by decide) k129 (fun _ h9 => h9) rfl dX6_skip_15 ?_
    refine lv_if_eq (tgt := 24) hx hb dX6_skip_18 (by decide) (fun c_18 => ?_) (fun c_18 => ?_)
    · skip
      replace c_18 := vz_b0 c_18
      refine lv_aload_n hx hb dX6_skip_24 rfl (lv_at hl 0 rfl) ?_
      refine va_get (D := D) (ci := 6) (v := .ref (h 13)) (C := RX6) (T := TX6) (N := 10) hx hb hts iX6 hown hK hP 0 rfl rfl 2 (by decide) k26 (fun _ h9 => h9) rfl dX6_skip_25 ?_
      refine lv_iconst (v := 1) hx hb dX6_skip_28 (by decide) ?_
      refine va_putN (D := D) (ci := 4) (v := .int 1) (ty := .boolean) (C := RX4) (T := TX4) (N := 8) hx hb hts iX4 tyX4 tyX4_ok nmX4 hown hK hP hD hS 13 rfl rfl 7 (by decide) k129 (fun _ h9 => h9) rfl (by decide +kernel) narrow_b1 rfl (Nat.le_of_ble_eq_true rfl) dX6_skip_29 (fun H_29 locs_29 hP9 hD9 hS9 => ?_)
      replace hP : va_P D vwCl (zSA cI h len cd nm ks gs wt mi pl sk he nh ru bg la true pl2 sk2 he2 nh2 ru2 bg2 la2 sd2 u0 l0 u1 l1 u2 l2 wy fi fl nu ik pr) H_29 := hP9
      replace hD : va_D A (zSA cI h len cd nm ks gs wt mi pl sk he nh ru bg la true pl2 sk2 he2 nh2 ru2 bg2 la2 sd2 u0 l0 u1 l1 u2 l2 wy fi fl nu ik pr) := hD9
      replace hS := hS9
      clear hP9 hD9 hS9
      refine lv_aload_n hx hb dX6_skip_32 rfl (lv_at hl 0 rfl) ?_
      refine va_get (D := D) (ci := 6) (v := .ref (h 13)) (C := RX6) (T := TX6) (N := 10) hx hb hts iX6 hown hK hP 0 rfl rfl 2 (by decide) k26 (fun _ h9 => h9) rfl dX6_skip_33 ?_
      refine va_getN (D := D) (ci := 4) (v := .ref (h 16)) (C := RX4) (T := TX4) (N := 8) hx hb hts iX4 hown hK hP 13 rfl rfl 1 (by decide) k147 (fun _ h9 => h9) rfl dX6_skip_36 ?_
      refine lv_aload_n hx hb dX6_skip_39 rfl (lv_at hl 0 rfl) ?_
      refine va_get (D := D) (ci := 6) (v := .ref (h 13)) (C := RX6) (T := TX6) (N := 10) hx hb hts iX6 hown hK hP 0 rfl rfl 2 (by decide) k26 (fun _ h9 => h9) rfl dX6_skip_40 ?_
      refine va_getN (D := D) (ci := 4) (v := .int la) (C := RX4) (T := TX4) (N := 8) hx hb hts iX4 hown hK hP 13 rfl rfl 6 (by decide) k126 (fun _ h9 => h9) rfl dX6_skip_43 ?_
      have hPc := (hP.sub (ws' := (zRow cI (h 16) (h 17) 6 sk)) [16, 17] rfl)
      have hDc := hD.sub (ws' := (zRow cI (h 16) (h 17) 6 sk)) [16, 17] rfl rfl
      have hFc := va_free (wc := (zRow cI (h 16) (h 17) 6 sk)) hD hS hA [16, 17] rfl
      refine va_callv (va_runV (As := [.int la]) (rest := []) ⟨hx, hb, hml, hown, hts⟩ (c_X5_increase l D cI (h 16) (h 17) 6 sk H_29.size la (by decide)) (cwV 1 hts gX6_skip_X5_increase rfl rfl rfl (by decide +kernel) ⟨Nat.le_of_ble_eq_true rfl, Nat.le_of_ble_eq_true rfl⟩) (vz_pvW (va_recv hK hP (ci := 5) (q0 := 16) rfl rfl) hZ hPc hDc) rfl rfl hl.1 rfl (lv_room (Nat.le_of_ble_eq_true rfl)) dX6_skip_46 ⟨Nat.zero_le _, Nat.zero_le _⟩) hS (fun q _ h => hFc q h) hFc (fun u_46 t H_46 locs_46 ht hvm hw hB hz1 hk1 hS9 => ?_)
      rw [ht] at hB
      replace hP : va_P D vwCl (zSA cI h len cd nm ks gs wt mi pl (rw_inc 6 sk la) he nh ru bg la true pl2 sk2 he2 nh2 ru2 bg2 la2 sd2 u0 l0 u1 l1 u2 l2 wy fi fl nu ik pr) H_46 := vz_join (w1 := (zRow cI (h 16) (h 17) 6 (rw_inc 6 sk la))) hP hD [16, 17] rfl rfl hk1 hB
      replace hD : va_D A (zSA cI h len cd nm ks gs wt mi pl (rw_inc 6 sk la) he nh ru bg la true pl2 sk2 he2 nh2 ru2 bg2 la2 sd2 u0 l0 u1 l1 u2 l2 wy fi fl nu ik pr) := vz_same hD rfl
      replace hS := hS9
      clear hS9 hPc hDc hFc hB hk1 hz1
      refine lv_aload_n hx hb dX6_skip_49 rfl (lv_at hl 0 rfl) ?_
      refine lv_aload_n hx hb dX6_skip_50 rfl (lv_at hl 0 rfl) ?_
      refine va_get (D := D) (ci := 6) (v := .ref (h 13)) (C := RX6) (T := TX6) (N := 10) hx hb hts iX6 hown hK hP 0 rfl rfl 2 (by decide) k26 (fun _ h9 => h9) rfl dX6_skip_51 ?_
      refine va_getN (D := D) (ci := 4) (v := .int la) (C := RX4) (T := TX4) (N := 8) hx hb hts iX4 hown hK hP 13 rfl rfl 6 (by decide) k126 (fun _ h9 => h9) rfl dX6_skip_54 ?_
      refine vp_callSi (W.runV (As := [.int la]) (rest := []) ⟨hx, hb, hml, hown, hts⟩ (c_X6_weight l D cI h len cd nm ks gs wt mi pl (rw_inc 6 sk la) he nh ru bg la true pl2 sk2 he2 nh2 ru2 bg2 la2 sd2 u0 l0 u1 l1 u2 l2 wy fi fl nu ik pr la) (cwV 1 hts gX6_skip_X6_weight rfl rfl rfl (by decide +kernel) ⟨Nat.le_of_ble_eq_true rfl, Nat.le_of_ble_eq_true rfl⟩) (vz_pvR (va_recv hK hP (ci := 6) (q0 := 0) rfl rfl) hZ hP) rfl rfl hl.1 rfl (lv_room (Nat.le_of_ble_eq_true rfl)) dX6_skip_57 ⟨Nat.zero_le _, Nat.zero_le _⟩) (fun r_57 hr_57 => ?_)
      subst hr_57
      have en_sk : pl_n (sk_ok la sd) (rw_inc 6 sk la) sk = rw_inc 6 sk la := by first | rfl | (simp only [sk_r, sk_ok, pl_n, if_neg c_8]; done) | (simp only [sk_r, sk_ok, pl_n, if_neg c_8]; rfl) | (simp only [sk_r, sk_ok, pl_n, c_8, c_18, ↓reduceIte, Bool.false_eq_true, if_true, if_false, reduceCtorEq, not_true_eq_false, not_false_eq_true, eq_self]; done) | (simp only [sk_r, sk_ok, pl_n, c_8, c_18, ↓reduceIte, Bool.false_eq_true, if_true, if_false, reduceCtorEq, not_true_eq_false, not_false_eq_true, eq_self]; rfl) | (simp [sk_r, sk_ok, pl_n, c_8, c_18]; done) | (simp only [sk_r, sk_ok, pl_n, if_neg c_8, c_18, ↓reduceIte, Bool.false_eq_true])
      have en_sd : pl_n (sk_ok la sd) true sd = true := by first | rfl | (simp only [sk_r, sk_ok, pl_n, if_neg c_8]; done) | (simp only [sk_r, sk_ok, pl_n, if_neg c_8]; rfl) | (simp only [sk_r, sk_ok, pl_n, c_8, c_18, ↓reduceIte, Bool.false_eq_true, if_true, if_false, reduceCtorEq, not_true_eq_false, not_false_eq_true, eq_self]; done) | (simp only [sk_r, sk_ok, pl_n, c_8, c_18, ↓reduceIte, Bool.false_eq_true, if_true, if_false, reduceCtorEq, not_true_eq_false, not_false_eq_true, eq_self]; rfl) | (simp [sk_r, sk_ok, pl_n, c_8, c_18]; done) | (simp only [sk_r, sk_ok, pl_n, if_neg c_8, c_18, ↓reduceIte, Bool.false_eq_true])
      exact W.iret hx hb hr (fun t ht hW => ⟨⟨_, (), rfl, (by first | rfl | (simp only [sk_r, sk_ok, pl_n, if_neg c_8]; done) | (simp only [sk_r, sk_ok, pl_n, if_neg c_8]; rfl) | (simp only [sk_r, sk_ok, pl_n, c_8, c_18, ↓reduceIte, Bool.false_eq_true, if_true, if_false, reduceCtorEq, not_true_eq_false, not_false_eq_true, eq_self]; done) | (simp only [sk_r, sk_ok, pl_n, c_8, c_18, ↓reduceIte, Bool.false_eq_true, if_true, if_false, reduceCtorEq, not_true_eq_false, not_false_eq_true, eq_self]; rfl) | (simp [sk_r, sk_ok, pl_n, c_8, c_18]; done) | (simp only [sk_r, sk_ok, pl_n, if_neg c_8, c_18, ↓reduceIte, Bool.false_eq_true])), (by show va_P D vwCl (zSA cI h len cd nm ks gs wt mi pl (pl_n (sk_ok la sd) (rw_inc 6 sk la) sk) he nh ru bg la (pl_n (sk_ok la sd) true sd) pl2 sk2 he2 nh2 ru2 bg2 la2 sd2 u0 l0 u1 l1 u2 l2 wy fi fl nu ik pr) t.heap; rw [ht, en_sk, en_sd]; exact hP)⟩, hS.F ht⟩) hS.2.2 dX6_skip_60
    · skip
      replace c_18 := vz_b1 c_18
      refine lv_bipush (v := (-103)) hx hb dX6_skip_21 (by decide) ?_
      have en_sk : pl_n (sk_ok la sd) (rw_inc 6 sk la) sk = sk := by first | rfl | (simp only [sk_r, sk_ok, pl_n, if_neg c_8]; done) | (simp only [sk_r, sk_ok, pl_n, if_neg c_8]; rfl) | (simp only [sk_r, sk_ok, pl_n, c_8, c_18, ↓reduceIte, Bool.false_eq_true, if_true, if_false, reduceCtorEq, not_true_eq_false, not_false_eq_true, eq_self]; done) | (simp only [sk_r, sk_ok, pl_n, c_8, c_18, ↓reduceIte, Bool.false_eq_true, if_true, if_false, reduceCtorEq, not_true_eq_false, not_false_eq_true, eq_self]; rfl) | (simp [sk_r, sk_ok, pl_n, c_8, c_18]; done) | (simp only [sk_r, sk_ok, pl_n, if_neg c_8, c_18, ↓reduceIte, Bool.false_eq_true])
      have en_sd : pl_n (sk_ok la sd) true sd = sd := by first | rfl | (simp only [sk_r, sk_ok, pl_n, if_neg c_8]; done) | (simp only [sk_r, sk_ok, pl_n, if_neg c_8]; rfl) | (simp only [sk_r, sk_ok, pl_n, c_8, c_18, ↓reduceIte, Bool.false_eq_true, if_true, if_false, reduceCtorEq, not_true_eq_false, not_false_eq_true, eq_self]; done) | (simp only [sk_r, sk_ok, pl_n, c_8, c_18, ↓reduceIte, Bool.false_eq_true, if_true, if_false, reduceCtorEq, not_true_eq_false, not_false_eq_true, eq_self]; rfl) | (simp [sk_r, sk_ok, pl_n, c_8, c_18]; done) | (simp only [sk_r, sk_ok, pl_n, if_neg c_8, c_18, ↓reduceIte, Bool.false_eq_true])
      exact W.iret hx hb hr (fun t ht hW => ⟨⟨_, (), rfl, (by first | rfl | (simp only [sk_r, sk_ok, pl_n, if_neg c_8]; done) | (simp only [sk_r, sk_ok, pl_n, if_neg c_8]; rfl) | (simp only [sk_r, sk_ok, pl_n, c_8, c_18, ↓reduceIte, Bool.false_eq_true, if_true, if_false, reduceCtorEq, not_true_eq_false, not_false_eq_true, eq_self]; done) | (simp only [sk_r, sk_ok, pl_n, c_8, c_18, ↓reduceIte, Bool.false_eq_true, if_true, if_false, reduceCtorEq, not_true_eq_false, not_false_eq_true, eq_self]; rfl) | (simp [sk_r, sk_ok, pl_n, c_8, c_18]; done) | (simp only [sk_r, sk_ok, pl_n, if_neg c_8, c_18, ↓reduceIte, Bool.false_eq_true])), (by show va_P D vwCl (zSA cI h len cd nm ks gs wt mi pl (pl_n (sk_ok la sd) (rw_inc 6 sk la) sk) he nh ru bg la (pl_n (sk_ok la sd) true sd) pl2 sk2 he2 nh2 ru2 bg2 la2 sd2 u0 l0 u1 l1 u2 l2 wy fi fl nu ik pr) t.heap; rw [ht, en_sk, en_sd]; exact hP)⟩, hS.F ht⟩) hS.2.2 dX6_skip_23
set_option maxHeartbeats 4000000 in
set_option maxRecDepth 100000 in
theorem c_X6_hear (l : Launch) (D : va_G) (cI : ClassId) (h : Nat → Nat) (len : Nat) (cd : Nat → Int32) (nm : Nat) (ks : Nat → Int32) (gs : Nat → Int32) (wt : Nat → Int32) (mi : Nat → Int32) (pl : Nat → Int32) (sk : Nat → Int32) (he : Nat → Int32) (nh : Nat) (ru : Int32) (bg : Int32) (la : Int32) (sd : Bool) (pl2 : Nat → Int32) (sk2 : Nat → Int32) (he2 : Nat → Int32) (nh2 : Nat) (ru2 : Int32) (bg2 : Int32) (la2 : Int32) (sd2 : Bool) (u0 : Int64) (l0 : Int64) (u1 : Int64) (l1 : Int64) (u2 : Int64) (l2 : Int64) (wy : Nat → Int32) (fi : Nat → Int32) (fl : Int32) (nu : Int32) (ik : Bool) (pr : Nat) (sz : Nat) (p0 : Int32) (hnm : nm ≤ 6) (hnh : nh ≤ 8) : Met l yX6_hear wsX6_hear ({ frames := 1, cells := 0, slots := 0, locals := 22 } : Room) (vz_rw D cI (zSA cI h len cd nm ks gs wt mi pl sk he nh ru bg la sd pl2 sk2 he2 nh2 ru2 bg2 la2 sd2 u0 l0 u1 l1 u2 l2 wy fi fl nu ik pr) sz [.ref (h 0), .int p0]) (va_Qi (fun r (_ : Unit) => r = he_r nm nh p0) (fun (u : Unit) (t : State) => va_P D vwCl (zSA cI h len cd nm ks gs wt mi pl sk (pl_n (he_ok nm nh p0) (rw_put 8 he (nI nh) p0) he) (pl_n (he_ok nm nh p0) (nh + 1) nh) ru bg la sd pl2 sk2 he2 nh2 ru2 bg2 la2 sd2 u0 l0 u1 l1 u2 l2 wy fi fl nu ik pr) t.heap) (va_A (zSA cI h len cd nm ks gs wt mi pl sk he nh ru bg la sd pl2 sk2 he2 nh2 ru2 bg2 la2 sd2 u0 l0 u1 l1 u2 l2 wy fi fl nu ik pr) sz)) 0 0 (va_A (zSA cI h len cd nm ks gs wt mi pl sk he nh ru bg la sd pl2 sk2 he2 nh2 ru2 bg2 la2 sd2 u0 l0 u1 l1 u2 l2 wy fi fl nu ik pr) sz) := by
  refine Met.ofW (cc := cX6_hear) (maxL := 2) (ret := (some .int)) (by decide) rfl ?_
  intro p e s m args below meth c s₁ B hml hv
  obtain ⟨rfl, hsz, hP, hZ, hD0⟩ := hv
  obtain ⟨hK, hN⟩ := id hZ
  have hx := B.exec
  have hb := B.bytes
  have hr := B.returns
  have hts := atoms_spec (ws := wsX6_hear) B.pre
  have hown : s.vm.findClass RX6 = some m.cls := findClass_of_methodNamed B.named
  have hlocks := B.notSynchronized
  subst hsz
  have hD := hD0.self (sz := s.heap.size)
  generalize hAe : va_A (zSA cI h len cd nm ks gs wt mi pl sk he nh ru bg la sd pl2 sk2 he2 nh2 ru2 bg2 la2 sd2 u0 l0 u1 l1 u2 l2 wy fi fl nu ik pr) s.heap.size = A at hD ⊢
  have hA : ∀ q : Nat, s.heap.size ≤ q → A q := fun q h => by rw [← hAe]; exact Or.inr h
  have hS : va_S A s.heap s.heap [] := va_S.rf
  have k19 := hts (.fieldLink RX6 19 "SongsAgain" "book" "LSongsAgain$Book;") (List.mem_of_getElem? (i := 1) rfl)
  have k26 := hts (.fieldLink RX6 26 "SongsAgain" "now" "LSongsAgain$Past;") (List.mem_of_getElem? (i := 2) rfl)
  have k174 : (Cond.fieldLinkNest "SongsAgain" 174 "SongsAgain$Past" "heardLength" "I" "SongsAgain").before _ s = true := va_Nw.use (A := ([.ref (h 0), .int p0] : List Value).toArray) rfl (hN.1 ("SongsAgain", 174, "SongsAgain$Past", "heardLength", "I") (List.mem_of_getElem? (i := 12) rfl))
  have k177 : (Cond.fieldLinkNest "SongsAgain" 177 "SongsAgain$Past" "heard" "LSongsAgain$Row;" "SongsAgain").before _ s = true := va_Nw.use (A := ([.ref (h 0), .int p0] : List Value).toArray) rfl (hN.1 ("SongsAgain", 177, "SongsAgain$Past", "heard", "LSongsAgain$Row;") (List.mem_of_getElem? (i := 11) rfl))
  have iX4 : ∀ w ∈ u_ws RX4 TX4 8, w ∈ wsX6_hear := vz_in (i := 25) (n := 8) rfl
  have iX6 : ∀ w ∈ u_ws RX6 TX6 10, w ∈ wsX6_hear := vz_in (i := 15) (n := 10) rfl
  have hl := lv_entry ([.ref (h 0), .int p0]) (n := 2) (Nat.le_of_ble_eq_true rfl)
  rw [lg_entry_eq]
  generalize (lg_sl ([.ref (h 0), .int p0]) ++ List.replicate (2 - (lg_sl ([.ref (h 0), .int p0])).length) Slot.unset).toArray = ls at hl ⊢
  have hl : lv_has ls 2 [(0, .ref (h 0)), (1, .int p0)] := hl
  have hP : va_P D vwCl (zSA cI h len cd nm ks gs wt mi pl sk he nh ru bg la sd pl2 sk2 he2 nh2 ru2 bg2 la2 sd2 u0 l0 u1 l1 u2 l2 wy fi fl nu ik pr) s.heap := hP
  refine lv_aload_n hx hb dX6_hear_0 rfl (lv_at hl 0 rfl) ?_
  refine va_get (D := D) (ci := 6) (v := .ref (h 4)) (C := RX6) (T := TX6) (N := 10) hx hb hts iX6 hown hK hP 0 rfl rfl 1 (by decide) k19 (fun _ h9 => h9) rfl dX6_hear_1 ?_
  refine lv_iload_n hx hb dX6_hear_4 rfl (lv_at hl 1 rfl) ?_
  refine vp_callSi (W.runV (As := [.int p0]) (rest := []) ⟨hx, hb, hml, hown, hts⟩ (c_X0_has l D cI (fun i => h (4 + i)) nm ks gs wt mi p0) (cwV 1 hts gX6_hear_X0_has rfl rfl rfl (by decide +kernel) ⟨Nat.le_of_ble_eq_true rfl, Nat.le_of_ble_eq_true rfl⟩) (vz_pvR (va_recv hK hP (ci := 0) (q0 := 4) rfl rfl) hZ (hP.sub (ws' := (zBook cI (fun i => h (4 + i)) nm ks gs wt mi)) [4, 5, 6, 7, 8, 9, 10, 11, 12] rfl)) rfl rfl hl.1 rfl (lv_room (Nat.le_of_ble_eq_true rfl)) dX6_hear_5 ⟨Nat.zero_le _, Nat.zero_le _⟩) (fun r_5 hr_5 => ?_)
  subst hr_5
  refine lv_if_ne (tgt := 14) hx hb dX6_hear_8 (by decide) (fun c_8 => ?_) (fun c_8 => ?_)
  · skip
    replace c_8 := vz_b1 c_8
    refine lv_aload_n hx hb dX6_hear_14 rfl (lv_at hl 0 rfl) ?_
    refine va_get (D := D) (ci := 6) (v := .ref (h 13)) (C := RX6) (T := TX6) (N := 10) hx hb hts iX6 hown hK hP 0 rfl rfl 2 (by decide) k26 (fun _ h9 => h9) rfl dX6_hear_15 ?_
    refine va_getN (D := D) (ci := 4) (v := .int (nI nh)) (C := RX4) (T := TX4) (N := 8) hx hb hts iX4 hown hK hP 13 rfl rfl 3 (by decide) k174 (fun _ h9 => h9) rfl dX6_hear_18 ?_
    refine lv_bipush (v := 8) hx hb dX6_hear_21 (by decide) ?_
    refine lv_icmp_lt (tgt := 29) hx hb dX6_hear_23 (by decide) (fun c_23 => ?_) (fun c_23 => ?_)
    · skip
      refine lv_aload_n hx hb dX6_hear_29 rfl (lv_at hl 0 rfl) ?_
      refine va_get (D := D) (ci := 6) (v := .ref (h 13)) (C := RX6) (T := TX6) (N := 10) hx hb hts iX6 hown hK hP 0 rfl rfl 2 (by decide) k26 (fun _ h9 => h9) rfl dX6_hear_30 ?_
      refine va_getN (D := D) (ci := 4) (v := .ref (h 18)) (C := RX4) (T := TX4) (N := 8) hx hb hts iX4 hown hK hP 13 rfl rfl 2 (by decide) k177 (fun _ h9 => h9) rfl dX6_hear_33 ?_
      refine lv_aload_n hx hb dX6_hear_36 rfl (lv_at hl 0 rfl) ?_
      refine va_get (D := D) (ci := 6) (v := .ref (h 13)) (C := RX6) (T := TX6) (N := 10) hx hb hts iX6 hown hK hP 0 rfl rfl 2 (by decide) k26 (fun _ h9 => h9) rfl dX6_hear_37 ?_
      refine va_getN (D := D) (ci := 4) (v := .int (nI nh)) (C := RX4) (T := TX4) (N := 8) hx hb hts iX4 hown hK hP 13 rfl rfl 3 (by decide) k174 (fun _ h9 => h9) rfl dX6_hear_40 ?_
      refine lv_iload_n hx hb dX6_hear_43 rfl (lv_at hl 1 rfl) ?_
      have hPc := (hP.sub (ws' := (zRow cI (h 18) (h 19) 8 he)) [18, 19] rfl)
      have hDc := hD.sub (ws' := (zRow cI (h 18) (h 19) 8 he)) [18, 19] rfl rfl
      have hFc := va_free (wc := (zRow cI (h 18) (h 19) 8 he)) hD hS hA [18, 19] rfl
      refine va_callv (va_runV (As := [.int (nI nh), .int p0]) (rest := []) ⟨hx, hb, hml, hown, hts⟩ (c_X5_put l D cI (h 18) (h 19) 8 he s.heap.size (nI nh) p0 (by decide)) (cwV 2 hts gX6_hear_X5_put rfl rfl rfl (by decide +kernel) ⟨Nat.le_of_ble_eq_true rfl, Nat.le_of_ble_eq_true rfl⟩) (vz_pvW (va_recv hK hP (ci := 5) (q0 := 18) rfl rfl) hZ hPc hDc) rfl rfl hl.1 rfl (lv_room (Nat.le_of_ble_eq_true rfl)) dX6_hear_44 ⟨Nat.zero_le _, Nat.zero_le _⟩) hS (fun q _ h => hFc q h) hFc (fun u_44 t H_44 locs_44 ht hvm hw hB hz1 hk1 hS9 => ?_)
      rw [ht] at hB
      replace hP : va_P D vwCl (zSA cI h len cd nm ks gs wt mi pl sk (rw_put 8 he (nI nh) p0) nh ru bg la sd pl2 sk2 he2 nh2 ru2 bg2 la2 sd2 u0 l0 u1 l1 u2 l2 wy fi fl nu ik pr) H_44 := vz_join (w1 := (zRow cI (h 18) (h 19) 8 (rw_put 8 he (nI nh) p0))) hP hD [18, 19] rfl rfl hk1 hB
      replace hD : va_D A (zSA cI h len cd nm ks gs wt mi pl sk (rw_put 8 he (nI nh) p0) nh ru bg la sd pl2 sk2 he2 nh2 ru2 bg2 la2 sd2 u0 l0 u1 l1 u2 l2 wy fi fl nu ik pr) := vz_same hD rfl
      replace hS := hS9
      clear hS9 hPc hDc hFc hB hk1 hz1
      refine lv_aload_n hx hb dX6_hear_47 rfl (lv_at hl 0 rfl) ?_
      refine va_get (D := D) (ci := 6) (v := .ref (h 13)) (C := RX6) (T := TX6) (N := 10) hx hb hts iX6 hown hK hP 0 rfl rfl 2 (by decide) k26 (fun _ h9 => h9) rfl dX6_hear_48 ?_
      refine lv_dup hx hb dX6_hear_51 rfl ?_
      refine va_getN (D := D) (ci := 4) (v := .int (nI nh)) (C := RX4) (T := TX4) (N := 8) hx hb hts iX4 hown hK hP 13 rfl rfl 3 (by decide) k174 (fun _ h9 => h9) rfl dX6_hear_52 ?_
      refine lv_iconst (v := 1) hx hb dX6_hear_55 (by decide) ?_
      refine lv_iadd hx hb dX6_hear_56 ?_
      refine W.eq (congrArg (fun z => F0 m 57 ls (.int z :: [.ref (h 13)])) (nI_add nh 1 : (nI nh) + 1 = nI (nh + 1))) ?_
      refine va_putN (D := D) (ci := 4) (v := .int (nI (nh + 1))) (ty := .int) (C := RX4) (T := TX4) (N := 8) hx hb hts iX4 tyX4 tyX4_ok nmX4 hown hK hP hD hS 13 rfl rfl 3 (by decide) k174 (fun _ h9 => h9) rfl (by decide +kernel) rfl rfl (Nat.le_of_ble_eq_true rfl) dX6_hear_57 (fun H_57 locs_57 hP9 hD9 hS9 => ?_)
      replace hP : va_P D vwCl (zSA cI h len cd nm ks gs wt mi pl sk (rw_put 8 he (nI nh) p0) (nh + 1) ru bg la sd pl2 sk2 he2 nh2 ru2 bg2 la2 sd2 u0 l0 u1 l1 u2 l2 wy fi fl nu ik pr) H_57 := hP9
      replace hD : va_D A (zSA cI h len cd nm ks gs wt mi pl sk (rw_put 8 he (nI nh) p0) (nh + 1) ru bg la sd pl2 sk2 he2 nh2 ru2 bg2 la2 sd2 u0 l0 u1 l1 u2 l2 wy fi fl nu ik pr) := hD9
      replace hS := hS9
      clear hP9 hD9 hS9
      refine lv_aload_n hx hb dX6_hear_60 rfl (lv_at hl 0 rfl) ?_
      refine va_get (D := D) (ci := 6) (v := .ref (h 13)) (C := RX6) (T := TX6) (N := 10) hx hb hts iX6 hown hK hP 0 rfl rfl 2 (by decide) k26 (fun _ h9 => h9) rfl dX6_hear_61 ?_
      refine va_getN (D := D) (ci := 4) (v := .int (nI (nh + 1))) (C := RX4) (T := TX4) (N := 8) hx hb hts iX4 hown hK hP 13 rfl rfl 3 (by decide) k174 (fun _ h9 => h9) rfl dX6_hear_64 ?_
      have en_he : pl_n (he_ok nm nh p0) (rw_put 8 he (nI nh) p0) he = rw_put 8 he (nI nh) p0 := by first | rfl | (simp only [he_r, he_ok, pl_n, if_pos c_23]; done) | (simp only [he_r, he_ok, pl_n, if_pos c_23]; rfl) | (simp only [he_r, he_ok, pl_n, c_8, c_23, ↓reduceIte, Bool.false_eq_true, if_true, if_false, reduceCtorEq, not_true_eq_false, not_false_eq_true, eq_self]; done) | (simp only [he_r, he_ok, pl_n, c_8, c_23, ↓reduceIte, Bool.false_eq_true, if_true, if_false, reduceCtorEq, not_true_eq_false, not_false_eq_true, eq_self]; rfl) | (simp [he_r, he_ok, pl_n, c_8, c_23]; done) | (simp only [he_r, he_ok, pl_n, if_pos c_23, c_8, ↓reduceIte, Bool.false_eq_true])
      have en_nh : pl_n (he_ok nm nh p0) (nh + 1) nh = nh + 1 := by first | rfl | (simp only [he_r, he_ok, pl_n, if_pos c_23]; done) | (simp only [he_r, he_ok, pl_n, if_pos c_23]; rfl) | (simp only [he_r, he_ok, pl_n, c_8, c_23, ↓reduceIte, Bool.false_eq_true, if_true, if_false, reduceCtorEq, not_true_eq_false, not_false_eq_true, eq_self]; done) | (simp only [he_r, he_ok, pl_n, c_8, c_23, ↓reduceIte, Bool.false_eq_true, if_true, if_false, reduceCtorEq, not_true_eq_false, not_false_eq_true, eq_self]; rfl) | (simp [he_r, he_ok, pl_n, c_8, c_23]; done) | (simp only [he_r, he_ok, pl_n, if_pos c_23, c_8, ↓reduceIte, Bool.false_eq_true])
      exact W.iret hx hb hr (fun t ht hW => ⟨⟨_, (), rfl, (by first | rfl | (simp only [he_r, he_ok, pl_n, if_pos c_23]; done) | (simp only [he_r, he_ok, pl_n, if_pos c_23]; rfl) | (simp only [he_r, he_ok, pl_n, c_8, c_23, ↓reduceIte, Bool.false_eq_true, if_true, if_false, reduceCtorEq, not_true_eq_false, not_false_eq_true, eq_self]; done) | (simp only [he_r, he_ok, pl_n, c_8, c_23, ↓reduceIte, Bool.false_eq_true, if_true, if_false, reduceCtorEq, not_true_eq_false, not_false_eq_true, eq_self]; rfl) | (simp [he_r, he_ok, pl_n, c_8, c_23]; done) | (simp only [he_r, he_ok, pl_n, if_pos c_23, c_8, ↓reduceIte, Bool.false_eq_true])), (by show va_P D vwCl (zSA cI h len cd nm ks gs wt mi pl sk (pl_n (he_ok nm nh p0) (rw_put 8 he (nI nh) p0) he) (pl_n (he_ok nm nh p0) (nh + 1) nh) ru bg la sd pl2 sk2 he2 nh2 ru2 bg2 la2 sd2 u0 l0 u1 l1 u2 l2 wy fi fl nu ik pr) t.heap; rw [ht, en_he, en_nh]; exact hP)⟩, hS.F ht⟩) hS.2.2 dX6_hear_67
    · skip
      refine lv_bipush (v := (-104)) hx hb dX6_hear_26 (by decide) ?_
      have en_he : pl_n (he_ok nm nh p0) (rw_put 8 he (nI nh) p0) he = he := by first | rfl | (simp only [he_r, he_ok, pl_n, if_neg c_23]; done) | (simp only [he_r, he_ok, pl_n, if_neg c_23]; rfl) | (simp only [he_r, he_ok, pl_n, c_8, c_23, ↓reduceIte, Bool.false_eq_true, if_true, if_false, reduceCtorEq, not_true_eq_false, not_false_eq_true, eq_self]; done) | (simp only [he_r, he_ok, pl_n, c_8, c_23, ↓reduceIte, Bool.false_eq_true, if_true, if_false, reduceCtorEq, not_true_eq_false, not_false_eq_true, eq_self]; rfl) | (simp [he_r, he_ok, pl_n, c_8, c_23]; done) | (simp only [he_r, he_ok, pl_n, if_neg c_23, c_8, ↓reduceIte, Bool.false_eq_true])
      have en_nh : pl_n (he_ok nm nh p0) (nh + 1) nh = nh := by first | rfl | (simp only [he_r, he_ok, pl_n, if_neg c_23]; done) | (simp only [he_r, he_ok, pl_n, if_neg c_23]; rfl) | (simp only [he_r, he_ok, pl_n, c_8, c_23, ↓reduceIte, Bool.false_eq_true, if_true, if_false, reduceCtorEq, not_true_eq_false, not_false_eq_true, eq_self]; done) | (simp only [he_r, he_ok, pl_n, c_8, c_23, ↓reduceIte, Bool.false_eq_true, if_true, if_false, reduceCtorEq, not_true_eq_false, not_false_eq_true, eq_self]; rfl) | (simp [he_r, he_ok, pl_n, c_8, c_23]; done) | (simp only [he_r, he_ok, pl_n, if_neg c_23, c_8, ↓reduceIte, Bool.false_eq_true])
      exact W.iret hx hb hr (fun t ht hW => ⟨⟨_, (), rfl, (by first | rfl | (simp only [he_r, he_ok, pl_n, if_neg c_23]; done) | (simp only [he_r, he_ok, pl_n, if_neg c_23]; rfl) | (simp only [he_r, he_ok, pl_n, c_8, c_23, ↓reduceIte, Bool.false_eq_true, if_true, if_false, reduceCtorEq, not_true_eq_false, not_false_eq_true, eq_self]; done) | (simp only [he_r, he_ok, pl_n, c_8, c_23, ↓reduceIte, Bool.false_eq_true, if_true, if_false, reduceCtorEq, not_true_eq_false, not_false_eq_true, eq_self]; rfl) | (simp [he_r, he_ok, pl_n, c_8, c_23]; done) | (simp only [he_r, he_ok, pl_n, if_neg c_23, c_8, ↓reduceIte, Bool.false_eq_true])), (by show va_P D vwCl (zSA cI h len cd nm ks gs wt mi pl sk (pl_n (he_ok nm nh p0) (rw_put 8 he (nI nh) p0) he) (pl_n (he_ok nm nh p0) (nh + 1) nh) ru bg la sd pl2 sk2 he2 nh2 ru2 bg2 la2 sd2 u0 l0 u1 l1 u2 l2 wy fi fl nu ik pr) t.heap; rw [ht, en_he, en_nh]; exact hP)⟩, hS.F ht⟩) hS.2.2 dX6_hear_28
  · skip
    replace c_8 := vz_b0 c_8
    refine lv_bipush (v := (-101)) hx hb dX6_hear_11 (by decide) ?_
    have en_he : pl_n (he_ok nm nh p0) (rw_put 8 he (nI nh) p0) he = he := by first | rfl | (simp only [he_r, he_ok, pl_n]; done) | (simp only [he_r, he_ok, pl_n]; rfl) | (simp only [he_r, he_ok, pl_n, c_8, ↓reduceIte, Bool.false_eq_true, if_true, if_false, reduceCtorEq, not_true_eq_false, not_false_eq_true, eq_self]; done) | (simp only [he_r, he_ok, pl_n, c_8, ↓reduceIte, Bool.false_eq_true, if_true, if_false, reduceCtorEq, not_true_eq_false, not_false_eq_true, eq_self]; rfl) | (simp [he_r, he_ok, pl_n, c_8]; done)
    have en_nh : pl_n (he_ok nm nh p0) (nh + 1) nh = nh := by first | rfl | (simp only [he_r, he_ok, pl_n]; done) | (simp only [he_r, he_ok, pl_n]; rfl) | (simp only [he_r, he_ok, pl_n, c_8, ↓reduceIte, Bool.false_eq_true, if_true, if_false, reduceCtorEq, not_true_eq_false, not_false_eq_true, eq_self]; done) | (simp only [he_r, he_ok, pl_n, c_8, ↓reduceIte, Bool.false_eq_true, if_true, if_false, reduceCtorEq, not_true_eq_false, not_false_eq_true, eq_self]; rfl) | (simp [he_r, he_ok, pl_n, c_8]; done)
    exact W.iret hx hb hr (fun t ht hW => ⟨⟨_, (), rfl, (by first | rfl | (simp only [he_r, he_ok, pl_n]; done) | (simp only [he_r, he_ok, pl_n]; rfl) | (simp only [he_r, he_ok, pl_n, c_8, ↓reduceIte, Bool.false_eq_true, if_true, if_false, reduceCtorEq, not_true_eq_false, not_false_eq_true, eq_self]; done) | (simp only [he_r, he_ok, pl_n, c_8, ↓reduceIte, Bool.false_eq_true, if_true, if_false, reduceCtorEq, not_true_eq_false, not_false_eq_true, eq_self]; rfl) | (simp [he_r, he_ok, pl_n, c_8]; done)), (by show va_P D vwCl (zSA cI h len cd nm ks gs wt mi pl sk (pl_n (he_ok nm nh p0) (rw_put 8 he (nI nh) p0) he) (pl_n (he_ok nm nh p0) (nh + 1) nh) ru bg la sd pl2 sk2 he2 nh2 ru2 bg2 la2 sd2 u0 l0 u1 l1 u2 l2 wy fi fl nu ik pr) t.heap; rw [ht, en_he, en_nh]; exact hP)⟩, hS.F ht⟩) hS.2.2 dX6_hear_13
set_option maxHeartbeats 4000000 in
set_option maxRecDepth 100000 in
theorem c_X6_forget (l : Launch) (D : va_G) (cI : ClassId) (h : Nat → Nat) (len : Nat) (cd : Nat → Int32) (nm : Nat) (ks : Nat → Int32) (gs : Nat → Int32) (wt : Nat → Int32) (mi : Nat → Int32) (pl : Nat → Int32) (sk : Nat → Int32) (he : Nat → Int32) (nh : Nat) (ru : Int32) (bg : Int32) (la : Int32) (sd : Bool) (pl2 : Nat → Int32) (sk2 : Nat → Int32) (he2 : Nat → Int32) (nh2 : Nat) (ru2 : Int32) (bg2 : Int32) (la2 : Int32) (sd2 : Bool) (u0 : Int64) (l0 : Int64) (u1 : Int64) (l1 : Int64) (u2 : Int64) (l2 : Int64) (wy : Nat → Int32) (fi : Nat → Int32) (fl : Int32) (nu : Int32) (ik : Bool) (pr : Nat) (sz : Nat) : Met l yX6_forget wsX6_forget ({ frames := 0, cells := 0, slots := 0, locals := 0 } : Room) (vz_rw D cI (zSA cI h len cd nm ks gs wt mi pl sk he nh ru bg la sd pl2 sk2 he2 nh2 ru2 bg2 la2 sd2 u0 l0 u1 l1 u2 l2 wy fi fl nu ik pr) sz [.ref (h 0)]) (va_Qi (fun r (_ : Unit) => r = nI nh) (fun (u : Unit) (t : State) => va_P D vwCl (zSA cI h len cd nm ks gs wt mi pl sk he 0 ru bg la sd pl2 sk2 he2 nh2 ru2 bg2 la2 sd2 u0 l0 u1 l1 u2 l2 wy fi fl nu ik pr) t.heap) (va_A (zSA cI h len cd nm ks gs wt mi pl sk he nh ru bg la sd pl2 sk2 he2 nh2 ru2 bg2 la2 sd2 u0 l0 u1 l1 u2 l2 wy fi fl nu ik pr) sz)) 0 0 (va_A (zSA cI h len cd nm ks gs wt mi pl sk he nh ru bg la sd pl2 sk2 he2 nh2 ru2 bg2 la2 sd2 u0 l0 u1 l1 u2 l2 wy fi fl nu ik pr) sz) := by
  refine Met.ofW (cc := cX6_forget) (maxL := 2) (ret := (some .int)) (by decide) rfl ?_
  intro p e s m args below meth c s₁ B hml hv
  obtain ⟨rfl, hsz, hP, hZ, hD0⟩ := hv
  obtain ⟨hK, hN⟩ := id hZ
  have hx := B.exec
  have hb := B.bytes
  have hr := B.returns
  have hts := atoms_spec (ws := wsX6_forget) B.pre
  have hown : s.vm.findClass RX6 = some m.cls := findClass_of_methodNamed B.named
  have hlocks := B.notSynchronized
  subst hsz
  have hD := hD0.self (sz := s.heap.size)
  generalize hAe : va_A (zSA cI h len cd nm ks gs wt mi pl sk he nh ru bg la sd pl2 sk2 he2 nh2 ru2 bg2 la2 sd2 u0 l0 u1 l1 u2 l2 wy fi fl nu ik pr) s.heap.size = A at hD ⊢
  have hA : ∀ q : Nat, s.heap.size ≤ q → A q := fun q h => by rw [← hAe]; exact Or.inr h
  have hS : va_S A s.heap s.heap [] := va_S.rf
  have k26 := hts (.fieldLink RX6 26 "SongsAgain" "now" "LSongsAgain$Past;") (List.mem_of_getElem? (i := 1) rfl)
  have k174 : (Cond.fieldLinkNest "SongsAgain" 174 "SongsAgain$Past" "heardLength" "I" "SongsAgain").before _ s = true := va_Nw.use (A := ([.ref (h 0)] : List Value).toArray) rfl (hN.1 ("SongsAgain", 174, "SongsAgain$Past", "heardLength", "I") (List.mem_of_getElem? (i := 12) rfl))
  have iX4 : ∀ w ∈ u_ws RX4 TX4 8, w ∈ wsX6_forget := vz_in (i := 12) (n := 8) rfl
  have iX6 : ∀ w ∈ u_ws RX6 TX6 10, w ∈ wsX6_forget := vz_in (i := 2) (n := 10) rfl
  have hl := lv_entry ([.ref (h 0)]) (n := 2) (Nat.le_of_ble_eq_true rfl)
  rw [lg_entry_eq]
  generalize (lg_sl ([.ref (h 0)]) ++ List.replicate (2 - (lg_sl ([.ref (h 0)])).length) Slot.unset).toArray = ls at hl ⊢
  have hl : lv_has ls 2 [(0, .ref (h 0))] := hl
  have hP : va_P D vwCl (zSA cI h len cd nm ks gs wt mi pl sk he nh ru bg la sd pl2 sk2 he2 nh2 ru2 bg2 la2 sd2 u0 l0 u1 l1 u2 l2 wy fi fl nu ik pr) s.heap := hP
  refine lv_aload_n hx hb dX6_forget_0 rfl (lv_at hl 0 rfl) ?_
  refine va_get (D := D) (ci := 6) (v := .ref (h 13)) (C := RX6) (T := TX6) (N := 10) hx hb hts iX6 hown hK hP 0 rfl rfl 2 (by decide) k26 (fun _ h9 => h9) rfl dX6_forget_1 ?_
  refine va_getN (D := D) (ci := 4) (v := .int (nI nh)) (C := RX4) (T := TX4) (N := 8) hx hb hts iX4 hown hK hP 13 rfl rfl 3 (by decide) k174 (fun _ h9 => h9) rfl dX6_forget_4 ?_
  refine lv_istore_n (lv' := [(1, .int (nI nh)), (0, .ref (h 0))]) hx hb dX6_forget_7 rfl hl (by decide) rfl (fun ls hl => ?_)
  refine lv_aload_n hx hb dX6_forget_8 rfl (lv_at hl 1 rfl) ?_
  refine va_get (D := D) (ci := 6) (v := .ref (h 13)) (C := RX6) (T := TX6) (N := 10) hx hb hts iX6 hown hK hP 0 rfl rfl 2 (by decide) k26 (fun _ h9 => h9) rfl dX6_forget_9 ?_
  refine lv_iconst (v := 0) hx hb dX6_forget_12 (by decide) ?_
  refine va_putN (D := D) (ci := 4) (v := .int 0) (ty := .int) (C := RX4) (T := TX4) (N := 8) hx hb hts iX4 tyX4 tyX4_ok nmX4 hown hK hP hD hS 13 rfl rfl 3 (by decide) k174 (fun _ h9 => h9) rfl (by decide +kernel) rfl rfl (Nat.le_of_ble_eq_true rfl) dX6_forget_13 (fun H_13 locs_13 hP9 hD9 hS9 => ?_)
  replace hP : va_P D vwCl (zSA cI h len cd nm ks gs wt mi pl sk he 0 ru bg la sd pl2 sk2 he2 nh2 ru2 bg2 la2 sd2 u0 l0 u1 l1 u2 l2 wy fi fl nu ik pr) H_13 := hP9
  replace hD : va_D A (zSA cI h len cd nm ks gs wt mi pl sk he 0 ru bg la sd pl2 sk2 he2 nh2 ru2 bg2 la2 sd2 u0 l0 u1 l1 u2 l2 wy fi fl nu ik pr) := hD9
  replace hS := hS9
  clear hP9 hD9 hS9
  refine lv_iload_n hx hb dX6_forget_16 rfl (lv_at hl 0 rfl) ?_
  exact W.iret hx hb hr (fun t ht hW => ⟨⟨_, (), rfl, (by first | rfl | (rfl; done) | (rfl; rfl) | (rfl; done) | (rfl; rfl) | (simp; done)), (by show va_P D vwCl (zSA cI h len cd nm ks gs wt mi pl sk he 0 ru bg la sd pl2 sk2 he2 nh2 ru2 bg2 la2 sd2 u0 l0 u1 l1 u2 l2 wy fi fl nu ik pr) t.heap; rw [ht]; exact hP)⟩, hS.F ht⟩) hS.2.2 dX6_forget_17
set_option maxHeartbeats 4000000 in
set_option maxRecDepth 100000 in
theorem c_X6_rules (l : Launch) (D : va_G) (cI : ClassId) (h : Nat → Nat) (len : Nat) (cd : Nat → Int32) (nm : Nat) (ks : Nat → Int32) (gs : Nat → Int32) (wt : Nat → Int32) (mi : Nat → Int32) (pl : Nat → Int32) (sk : Nat → Int32) (he : Nat → Int32) (nh : Nat) (ru : Int32) (bg : Int32) (la : Int32) (sd : Bool) (pl2 : Nat → Int32) (sk2 : Nat → Int32) (he2 : Nat → Int32) (nh2 : Nat) (ru2 : Int32) (bg2 : Int32) (la2 : Int32) (sd2 : Bool) (u0 : Int64) (l0 : Int64) (u1 : Int64) (l1 : Int64) (u2 : Int64) (l2 : Int64) (wy : Nat → Int32) (fi : Nat → Int32) (fl : Int32) (nu : Int32) (ik : Bool) (pr : Nat) (sz : Nat) (hnm : nm ≤ 6) (hnh : nh ≤ 8) : Met l yX6_rules wsX6_rules ({ frames := 5, cells := 0, slots := 0, locals := 128 } : Room) (vz_rw D cI (zSA cI h len cd nm ks gs wt mi pl sk he nh ru bg la sd pl2 sk2 he2 nh2 ru2 bg2 la2 sd2 u0 l0 u1 l1 u2 l2 wy fi fl nu ik pr) sz [.ref (h 0)]) (va_Qi (fun r (_ : Int64 × Int64) => r = if sa_np nm then -103 else pr_acc nm ks gs wt he nh 4) (fun (u : Int64 × Int64) (t : State) => va_P D vwCl (zSA cI h len cd nm ks gs wt mi pl sk he nh ru bg la sd pl2 sk2 he2 nh2 ru2 bg2 la2 sd2 u0 l0 u.1 u.2 u2 l2 wy fi fl nu ik pr) t.heap) (va_A (zSA cI h len cd nm ks gs wt mi pl sk he nh ru bg la sd pl2 sk2 he2 nh2 ru2 bg2 la2 sd2 u0 l0 u1 l1 u2 l2 wy fi fl nu ik pr) sz)) 0 0 (va_A (zSA cI h len cd nm ks gs wt mi pl sk he nh ru bg la sd pl2 sk2 he2 nh2 ru2 bg2 la2 sd2 u0 l0 u1 l1 u2 l2 wy fi fl nu ik pr) sz) := by
  refine Met.ofW (cc := cX6_rules) (maxL := 1) (ret := (some .int)) (by decide) rfl ?_
  intro p e s m args below meth c s₁ B hml hv
  obtain ⟨rfl, hsz, hP, hZ, hD0⟩ := hv
  obtain ⟨hK, hN⟩ := id hZ
  have hx := B.exec
  have hb := B.bytes
  have hr := B.returns
  have hts := atoms_spec (ws := wsX6_rules) B.pre
  have hown : s.vm.findClass RX6 = some m.cls := findClass_of_methodNamed B.named
  have hlocks := B.notSynchronized
  subst hsz
  have hD := hD0.self (sz := s.heap.size)
  generalize hAe : va_A (zSA cI h len cd nm ks gs wt mi pl sk he nh ru bg la sd pl2 sk2 he2 nh2 ru2 bg2 la2 sd2 u0 l0 u1 l1 u2 l2 wy fi fl nu ik pr) s.heap.size = A at hD ⊢
  have hA : ∀ q : Nat, s.heap.size ≤ q → A q := fun q h => by rw [← hAe]; exact Or.inr h
  have hS : va_S A s.heap s.heap [] := va_S.rf
  have hl := lv_entry ([.ref (h 0)]) (n := 1) (Nat.le_of_ble_eq_true rfl)
  rw [lg_entry_eq]
  generalize (lg_sl ([.ref (h 0)]) ++ List.replicate (1 - (lg_sl ([.ref (h 0)])).length) Slot.unset).toArray = ls at hl ⊢
  have hl : lv_has ls 1 [(0, .ref (h 0))] := hl
  have hP : va_P D vwCl (zSA cI h len cd nm ks gs wt mi pl sk he nh ru bg la sd pl2 sk2 he2 nh2 ru2 bg2 la2 sd2 u0 l0 u1 l1 u2 l2 wy fi fl nu ik pr) s.heap := hP
  refine lv_aload_n hx hb dX6_rules_0 rfl (lv_at hl 0 rfl) ?_
  refine vp_callSi (W.runV (As := []) (rest := []) ⟨hx, hb, hml, hown, hts⟩ (c_X6_noPlayer l D cI h len cd nm ks gs wt mi pl sk he nh ru bg la sd pl2 sk2 he2 nh2 ru2 bg2 la2 sd2 u0 l0 u1 l1 u2 l2 wy fi fl nu ik pr (by first | assumption | omega)) (cwV 0 hts gX6_rules_X6_noPlayer rfl rfl rfl (by decide +kernel) ⟨Nat.le_of_ble_eq_true rfl, Nat.le_of_ble_eq_true rfl⟩) (vz_pvR (va_recv hK hP (ci := 6) (q0 := 0) rfl rfl) hZ hP) rfl rfl hl.1 rfl (lv_room (Nat.le_of_ble_eq_true rfl)) dX6_rules_1 ⟨Nat.zero_le _, Nat.zero_le _⟩) (fun r_1 hr_1 => ?_)
  subst hr_1
  refine lv_if_eq (tgt := 12) hx hb dX6_rules_4 (by decide) (fun c_4 => ?_) (fun c_4 => ?_)
  · skip
    replace c_4 := vz_b0 c_4
    refine lv_aload_n hx hb dX6_rules_12 rfl (lv_at hl 0 rfl) ?_
    have hPc := hP
    have hDc := hD
    have hFc : ∀ q, va_A (zSA cI h len cd nm ks gs wt mi pl sk he nh ru bg la sd pl2 sk2 he2 nh2 ru2 bg2 la2 sd2 u0 l0 u1 l1 u2 l2 wy fi fl nu ik pr) s.heap.size q → A q := vz_freeAll hD hS hA
    refine va_calli (va_runV (As := []) (rest := []) ⟨hx, hb, hml, hown, hts⟩ (c_X6_possibleRules l D cI h len cd nm ks gs wt mi pl sk he nh ru bg la sd pl2 sk2 he2 nh2 ru2 bg2 la2 sd2 u0 l0 u1 l1 u2 l2 wy fi fl nu ik pr s.heap.size (by first | assumption | omega) (by first | assumption | omega)) (cwV 0 hts gX6_rules_X6_possibleRules rfl rfl rfl (by decide +kernel) ⟨Nat.le_of_ble_eq_true rfl, Nat.le_of_ble_eq_true rfl⟩) (vz_pvW (va_recv hK hP (ci := 6) (q0 := 0) rfl rfl) hZ hPc hDc) rfl rfl hl.1 rfl (lv_room (Nat.le_of_ble_eq_true rfl)) dX6_rules_13 ⟨Nat.zero_le _, Nat.zero_le _⟩) hS (fun q _ h => hFc q h) hFc (fun r_13 u_13 t H_13 locs_13 ht hvm hw hB hz1 hk1 hS9 => ?_)
    rw [ht] at hB
    replace hP : va_P D vwCl (zSA cI h len cd nm ks gs wt mi pl sk he nh ru bg la sd pl2 sk2 he2 nh2 ru2 bg2 la2 sd2 u0 l0 u_13.1 u_13.2 u2 l2 wy fi fl nu ik pr) H_13 := hB
    replace hD : va_D A (zSA cI h len cd nm ks gs wt mi pl sk he nh ru bg la sd pl2 sk2 he2 nh2 ru2 bg2 la2 sd2 u0 l0 u_13.1 u_13.2 u2 l2 wy fi fl nu ik pr) := vz_same hD rfl
    replace hS := hS9
    clear hS9 hPc hDc hFc hB hk1 hz1
    subst hw
    exact W.iret hx hb hr (fun t ht hW => ⟨⟨_, (u_13.1, u_13.2), rfl, (by first | rfl | (rfl; done) | (rfl; rfl) | (simp only [c_4, ↓reduceIte, Bool.false_eq_true, if_true, if_false, reduceCtorEq, not_true_eq_false, not_false_eq_true, eq_self]; done) | (simp only [c_4, ↓reduceIte, Bool.false_eq_true, if_true, if_false, reduceCtorEq, not_true_eq_false, not_false_eq_true, eq_self]; rfl) | (simp [c_4]; done)), (by show va_P D vwCl (zSA cI h len cd nm ks gs wt mi pl sk he nh ru bg la sd pl2 sk2 he2 nh2 ru2 bg2 la2 sd2 u0 l0 u_13.1 u_13.2 u2 l2 wy fi fl nu ik pr) t.heap; rw [ht]; exact hP)⟩, hS.F ht⟩) hS.2.2 dX6_rules_16
  · skip
    replace c_4 := vz_b1 c_4
    refine lv_bipush (v := (-103)) hx hb dX6_rules_7 (by decide) ?_
    refine lv_goto (tgt := 16) hx hb dX6_rules_9 (by decide) ?_
    exact W.iret hx hb hr (fun t ht hW => ⟨⟨_, (u1, l1), rfl, (by first | rfl | (rfl; done) | (rfl; rfl) | (simp only [c_4, ↓reduceIte, Bool.false_eq_true, if_true, if_false, reduceCtorEq, not_true_eq_false, not_false_eq_true, eq_self]; done) | (simp only [c_4, ↓reduceIte, Bool.false_eq_true, if_true, if_false, reduceCtorEq, not_true_eq_false, not_false_eq_true, eq_self]; rfl) | (simp [c_4]; done)), (by show va_P D vwCl (zSA cI h len cd nm ks gs wt mi pl sk he nh ru bg la sd pl2 sk2 he2 nh2 ru2 bg2 la2 sd2 u0 l0 u1 l1 u2 l2 wy fi fl nu ik pr) t.heap; rw [ht]; exact hP)⟩, hS.F ht⟩) hS.2.2 dX6_rules_16
set_option maxHeartbeats 4000000 in
set_option maxRecDepth 100000 in
theorem c_X6_likely (l : Launch) (D : va_G) (cI : ClassId) (h : Nat → Nat) (len : Nat) (cd : Nat → Int32) (nm : Nat) (ks : Nat → Int32) (gs : Nat → Int32) (wt : Nat → Int32) (mi : Nat → Int32) (pl : Nat → Int32) (sk : Nat → Int32) (he : Nat → Int32) (nh : Nat) (ru : Int32) (bg : Int32) (la : Int32) (sd : Bool) (pl2 : Nat → Int32) (sk2 : Nat → Int32) (he2 : Nat → Int32) (nh2 : Nat) (ru2 : Int32) (bg2 : Int32) (la2 : Int32) (sd2 : Bool) (u0 : Int64) (l0 : Int64) (u1 : Int64) (l1 : Int64) (u2 : Int64) (l2 : Int64) (wy : Nat → Int32) (fi : Nat → Int32) (fl : Int32) (nu : Int32) (ik : Bool) (pr : Nat) (sz : Nat) (hnm : nm ≤ 6) (hnh : nh ≤ 8) : Met l yX6_likely wsX6_likely ({ frames := 5, cells := 0, slots := 0, locals := 128 } : Room) (vz_rw D cI (zSA cI h len cd nm ks gs wt mi pl sk he nh ru bg la sd pl2 sk2 he2 nh2 ru2 bg2 la2 sd2 u0 l0 u1 l1 u2 l2 wy fi fl nu ik pr) sz [.ref (h 0)]) (va_Qi (fun r (_ : Int64 × Int64 × Int64 × Int64) => r = if sa_np nm then -103 else (lk nm ks gs wt he nh 4).1) (fun (u : Int64 × Int64 × Int64 × Int64) (t : State) => va_P D vwCl (zSA cI h len cd nm ks gs wt mi pl sk he nh ru bg la sd pl2 sk2 he2 nh2 ru2 bg2 la2 sd2 u0 l0 u.1 u.2.1 u.2.2.1 u.2.2.2 wy fi fl nu ik pr) t.heap) (va_A (zSA cI h len cd nm ks gs wt mi pl sk he nh ru bg la sd pl2 sk2 he2 nh2 ru2 bg2 la2 sd2 u0 l0 u1 l1 u2 l2 wy fi fl nu ik pr) sz)) 0 0 (va_A (zSA cI h len cd nm ks gs wt mi pl sk he nh ru bg la sd pl2 sk2 he2 nh2 ru2 bg2 la2 sd2 u0 l0 u1 l1 u2 l2 wy fi fl nu ik pr) sz) := by
  refine Met.ofW (cc := cX6_likely) (maxL := 1) (ret := (some .int)) (by decide) rfl ?_
  intro p e s m args below meth c s₁ B hml hv
  obtain ⟨rfl, hsz, hP, hZ, hD0⟩ := hv
  obtain ⟨hK, hN⟩ := id hZ
  have hx := B.exec
  have hb := B.bytes
  have hr := B.returns
  have hts := atoms_spec (ws := wsX6_likely) B.pre
  have hown : s.vm.findClass RX6 = some m.cls := findClass_of_methodNamed B.named
  have hlocks := B.notSynchronized
  subst hsz
  have hD := hD0.self (sz := s.heap.size)
  generalize hAe : va_A (zSA cI h len cd nm ks gs wt mi pl sk he nh ru bg la sd pl2 sk2 he2 nh2 ru2 bg2 la2 sd2 u0 l0 u1 l1 u2 l2 wy fi fl nu ik pr) s.heap.size = A at hD ⊢
  have hA : ∀ q : Nat, s.heap.size ≤ q → A q := fun q h => by rw [← hAe]; exact Or.inr h
  have hS : va_S A s.heap s.heap [] := va_S.rf
  have hl := lv_entry ([.ref (h 0)]) (n := 1) (Nat.le_of_ble_eq_true rfl)
  rw [lg_entry_eq]
  generalize (lg_sl ([.ref (h 0)]) ++ List.replicate (1 - (lg_sl ([.ref (h 0)])).length) Slot.unset).toArray = ls at hl ⊢
  have hl : lv_has ls 1 [(0, .ref (h 0))] := hl
  have hP : va_P D vwCl (zSA cI h len cd nm ks gs wt mi pl sk he nh ru bg la sd pl2 sk2 he2 nh2 ru2 bg2 la2 sd2 u0 l0 u1 l1 u2 l2 wy fi fl nu ik pr) s.heap := hP
  refine lv_aload_n hx hb dX6_likely_0 rfl (lv_at hl 0 rfl) ?_
  refine vp_callSi (W.runV (As := []) (rest := []) ⟨hx, hb, hml, hown, hts⟩ (c_X6_noPlayer l D cI h len cd nm ks gs wt mi pl sk he nh ru bg la sd pl2 sk2 he2 nh2 ru2 bg2 la2 sd2 u0 l0 u1 l1 u2 l2 wy fi fl nu ik pr (by first | assumption | omega)) (cwV 0 hts gX6_likely_X6_noPlayer rfl rfl rfl (by decide +kernel) ⟨Nat.le_of_ble_eq_true rfl, Nat.le_of_ble_eq_true rfl⟩) (vz_pvR (va_recv hK hP (ci := 6) (q0 := 0) rfl rfl) hZ hP) rfl rfl hl.1 rfl (lv_room (Nat.le_of_ble_eq_true rfl)) dX6_likely_1 ⟨Nat.zero_le _, Nat.zero_le _⟩) (fun r_1 hr_1 => ?_)
  subst hr_1
  refine lv_if_eq (tgt := 12) hx hb dX6_likely_4 (by decide) (fun c_4 => ?_) (fun c_4 => ?_)
  · skip
    replace c_4 := vz_b0 c_4
    refine lv_aload_n hx hb dX6_likely_12 rfl (lv_at hl 0 rfl) ?_
    have hPc := hP
    have hDc := hD
    have hFc : ∀ q, va_A (zSA cI h len cd nm ks gs wt mi pl sk he nh ru bg la sd pl2 sk2 he2 nh2 ru2 bg2 la2 sd2 u0 l0 u1 l1 u2 l2 wy fi fl nu ik pr) s.heap.size q → A q := vz_freeAll hD hS hA
    refine va_calli (va_runV (As := []) (rest := []) ⟨hx, hb, hml, hown, hts⟩ (c_X6_likeliestRule l D cI h len cd nm ks gs wt mi pl sk he nh ru bg la sd pl2 sk2 he2 nh2 ru2 bg2 la2 sd2 u0 l0 u1 l1 u2 l2 wy fi fl nu ik pr s.heap.size (by first | assumption | omega) (by first | assumption | omega)) (cwV 0 hts gX6_likely_X6_likeliestRule rfl rfl rfl (by decide +kernel) ⟨Nat.le_of_ble_eq_true rfl, Nat.le_of_ble_eq_true rfl⟩) (vz_pvW (va_recv hK hP (ci := 6) (q0 := 0) rfl rfl) hZ hPc hDc) rfl rfl hl.1 rfl (lv_room (Nat.le_of_ble_eq_true rfl)) dX6_likely_13 ⟨Nat.zero_le _, Nat.zero_le _⟩) hS (fun q _ h => hFc q h) hFc (fun r_13 u_13 t H_13 locs_13 ht hvm hw hB hz1 hk1 hS9 => ?_)
    rw [ht] at hB
    replace hP : va_P D vwCl (zSA cI h len cd nm ks gs wt mi pl sk he nh ru bg la sd pl2 sk2 he2 nh2 ru2 bg2 la2 sd2 u0 l0 u_13.1 u_13.2.1 u_13.2.2.1 u_13.2.2.2 wy fi fl nu ik pr) H_13 := hB
    replace hD : va_D A (zSA cI h len cd nm ks gs wt mi pl sk he nh ru bg la sd pl2 sk2 he2 nh2 ru2 bg2 la2 sd2 u0 l0 u_13.1 u_13.2.1 u_13.2.2.1 u_13.2.2.2 wy fi fl nu ik pr) := vz_same hD rfl
    replace hS := hS9
    clear hS9 hPc hDc hFc hB hk1 hz1
    subst hw
    exact W.iret hx hb hr (fun t ht hW => ⟨⟨_, (u_13.1, u_13.2.1, u_13.2.2.1, u_13.2.2.2), rfl, (by first | rfl | (rfl; done) | (rfl; rfl) | (simp only [c_4, ↓reduceIte, Bool.false_eq_true, if_true, if_false, reduceCtorEq, not_true_eq_false, not_false_eq_true, eq_self]; done) | (simp only [c_4, ↓reduceIte, Bool.false_eq_true, if_true, if_false, reduceCtorEq, not_true_eq_false, not_false_eq_true, eq_self]; rfl) | (simp [c_4]; done)), (by show va_P D vwCl (zSA cI h len cd nm ks gs wt mi pl sk he nh ru bg la sd pl2 sk2 he2 nh2 ru2 bg2 la2 sd2 u0 l0 u_13.1 u_13.2.1 u_13.2.2.1 u_13.2.2.2 wy fi fl nu ik pr) t.heap; rw [ht]; exact hP)⟩, hS.F ht⟩) hS.2.2 dX6_likely_16
  · skip
    replace c_4 := vz_b1 c_4
    refine lv_bipush (v := (-103)) hx hb dX6_likely_7 (by decide) ?_
    refine lv_goto (tgt := 16) hx hb dX6_likely_9 (by decide) ?_
    exact W.iret hx hb hr (fun t ht hW => ⟨⟨_, (u1, l1, u2, l2), rfl, (by first | rfl | (rfl; done) | (rfl; rfl) | (simp only [c_4, ↓reduceIte, Bool.false_eq_true, if_true, if_false, reduceCtorEq, not_true_eq_false, not_false_eq_true, eq_self]; done) | (simp only [c_4, ↓reduceIte, Bool.false_eq_true, if_true, if_false, reduceCtorEq, not_true_eq_false, not_false_eq_true, eq_self]; rfl) | (simp [c_4]; done)), (by show va_P D vwCl (zSA cI h len cd nm ks gs wt mi pl sk he nh ru bg la sd pl2 sk2 he2 nh2 ru2 bg2 la2 sd2 u0 l0 u1 l1 u2 l2 wy fi fl nu ik pr) t.heap; rw [ht]; exact hP)⟩, hS.F ht⟩) hS.2.2 dX6_likely_16
set_option maxHeartbeats 4000000 in
set_option maxRecDepth 100000 in
theorem c_X6_image (l : Launch) (D : va_G) (cI : ClassId) (h : Nat → Nat) (len : Nat) (cd : Nat → Int32) (nm : Nat) (ks : Nat → Int32) (gs : Nat → Int32) (wt : Nat → Int32) (mi : Nat → Int32) (pl : Nat → Int32) (sk : Nat → Int32) (he : Nat → Int32) (nh : Nat) (ru : Int32) (bg : Int32) (la : Int32) (sd : Bool) (pl2 : Nat → Int32) (sk2 : Nat → Int32) (he2 : Nat → Int32) (nh2 : Nat) (ru2 : Int32) (bg2 : Int32) (la2 : Int32) (sd2 : Bool) (u0 : Int64) (l0 : Int64) (u1 : Int64) (l1 : Int64) (u2 : Int64) (l2 : Int64) (wy : Nat → Int32) (fi : Nat → Int32) (fl : Int32) (nu : Int32) (ik : Bool) (pr : Nat) (sz : Nat) (hnm : nm ≤ 6) : Met l yX6_image wsX6_image ({ frames := 3, cells := 0, slots := 0, locals := 64 } : Room) (vz_rw D cI (zSA cI h len cd nm ks gs wt mi pl sk he nh ru bg la sd pl2 sk2 he2 nh2 ru2 bg2 la2 sd2 u0 l0 u1 l1 u2 l2 wy fi fl nu ik pr) sz [.ref (h 0)]) (va_Qi (fun r (_ : Unit) => r = if sa_np nm then -103 else rw_sum pl 6) (fun (u : Unit) (t : State) => va_P D vwCl (zSA cI h len cd nm ks gs wt mi pl sk he nh ru bg la sd (pl_n (sa_np nm) pl2 (rw_cp pl pl2 6)) (pl_n (sa_np nm) sk2 (rw_cp sk sk2 6)) (pl_n (sa_np nm) he2 (rw_cp he he2 8)) (pl_n (sa_np nm) nh2 (nh)) (pl_n (sa_np nm) ru2 (ru)) (pl_n (sa_np nm) bg2 (bg)) (pl_n (sa_np nm) la2 (la)) (pl_n (sa_np nm) sd2 (sd)) u0 l0 u1 l1 u2 l2 wy fi fl nu (pl_n (sa_np nm) ik true) pr) t.heap) (va_A (zSA cI h len cd nm ks gs wt mi pl sk he nh ru bg la sd pl2 sk2 he2 nh2 ru2 bg2 la2 sd2 u0 l0 u1 l1 u2 l2 wy fi fl nu ik pr) sz)) 0 0 (va_A (zSA cI h len cd nm ks gs wt mi pl sk he nh ru bg la sd pl2 sk2 he2 nh2 ru2 bg2 la2 sd2 u0 l0 u1 l1 u2 l2 wy fi fl nu ik pr) sz) := by
  refine Met.ofW (cc := cX6_image) (maxL := 1) (ret := (some .int)) (by decide) rfl ?_
  intro p e s m args below meth c s₁ B hml hv
  obtain ⟨rfl, hsz, hP, hZ, hD0⟩ := hv
  obtain ⟨hK, hN⟩ := id hZ
  have hx := B.exec
  have hb := B.bytes
  have hr := B.returns
  have hts := atoms_spec (ws := wsX6_image) B.pre
  have hown : s.vm.findClass RX6 = some m.cls := findClass_of_methodNamed B.named
  have hlocks := B.notSynchronized
  subst hsz
  have hD := hD0.self (sz := s.heap.size)
  generalize hAe : va_A (zSA cI h len cd nm ks gs wt mi pl sk he nh ru bg la sd pl2 sk2 he2 nh2 ru2 bg2 la2 sd2 u0 l0 u1 l1 u2 l2 wy fi fl nu ik pr) s.heap.size = A at hD ⊢
  have hA : ∀ q : Nat, s.heap.size ≤ q → A q := fun q h => by rw [← hAe]; exact Or.inr h
  have hS : va_S A s.heap s.heap [] := va_S.rf
  have k26 := hts (.fieldLink RX6 26 "SongsAgain" "now" "LSongsAgain$Past;") (List.mem_of_getElem? (i := 2) rfl)
  have k30 := hts (.fieldLink RX6 30 "SongsAgain" "kept" "LSongsAgain$Past;") (List.mem_of_getElem? (i := 1) rfl)
  have k53 := hts (.fieldLink RX6 53 "SongsAgain" "isKept" "Z") (List.mem_of_getElem? (i := 3) rfl)
  have k132 : (Cond.fieldLinkNest "SongsAgain" 132 "SongsAgain$Past" "played" "LSongsAgain$Row;" "SongsAgain").before _ s = true := va_Nw.use (A := ([.ref (h 0)] : List Value).toArray) rfl (hN.1 ("SongsAgain", 132, "SongsAgain$Past", "played", "LSongsAgain$Row;") (List.mem_of_getElem? (i := 9) rfl))
  have iX4 : ∀ w ∈ u_ws RX4 TX4 8, w ∈ wsX6_image := vz_in (i := 47) (n := 8) rfl
  have iX6 : ∀ w ∈ u_ws RX6 TX6 10, w ∈ wsX6_image := vz_in (i := 37) (n := 10) rfl
  have hl := lv_entry ([.ref (h 0)]) (n := 1) (Nat.le_of_ble_eq_true rfl)
  rw [lg_entry_eq]
  generalize (lg_sl ([.ref (h 0)]) ++ List.replicate (1 - (lg_sl ([.ref (h 0)])).length) Slot.unset).toArray = ls at hl ⊢
  have hl : lv_has ls 1 [(0, .ref (h 0))] := hl
  have hP : va_P D vwCl (zSA cI h len cd nm ks gs wt mi pl sk he nh ru bg la sd pl2 sk2 he2 nh2 ru2 bg2 la2 sd2 u0 l0 u1 l1 u2 l2 wy fi fl nu ik pr) s.heap := hP
  refine lv_aload_n hx hb dX6_image_0 rfl (lv_at hl 0 rfl) ?_
  refine vp_callSi (W.runV (As := []) (rest := []) ⟨hx, hb, hml, hown, hts⟩ (c_X6_noPlayer l D cI h len cd nm ks gs wt mi pl sk he nh ru bg la sd pl2 sk2 he2 nh2 ru2 bg2 la2 sd2 u0 l0 u1 l1 u2 l2 wy fi fl nu ik pr (by first | assumption | omega)) (cwV 0 hts gX6_image_X6_noPlayer rfl rfl rfl (by decide +kernel) ⟨Nat.le_of_ble_eq_true rfl, Nat.le_of_ble_eq_true rfl⟩) (vz_pvR (va_recv hK hP (ci := 6) (q0 := 0) rfl rfl) hZ hP) rfl rfl hl.1 rfl (lv_room (Nat.le_of_ble_eq_true rfl)) dX6_image_1 ⟨Nat.zero_le _, Nat.zero_le _⟩) (fun r_1 hr_1 => ?_)
  subst hr_1
  refine lv_if_eq (tgt := 10) hx hb dX6_image_4 (by decide) (fun c_4 => ?_) (fun c_4 => ?_)
  · skip
    replace c_4 := vz_b0 c_4
    refine lv_aload_n hx hb dX6_image_10 rfl (lv_at hl 0 rfl) ?_
    refine va_get (D := D) (ci := 6) (v := .ref (h 20)) (C := RX6) (T := TX6) (N := 10) hx hb hts iX6 hown hK hP 0 rfl rfl 3 (by decide) k30 (fun _ h9 => h9) rfl dX6_image_11 ?_
    refine lv_aload_n hx hb dX6_image_14 rfl (lv_at hl 0 rfl) ?_
    refine va_get (D := D) (ci := 6) (v := .ref (h 13)) (C := RX6) (T := TX6) (N := 10) hx hb hts iX6 hown hK hP 0 rfl rfl 2 (by decide) k26 (fun _ h9 => h9) rfl dX6_image_15 ?_
    have hPc := (hP.sub (ws' := (zPastPast cI (fun i => h (20 + i)) (fun i => h (13 + i)) pl2 sk2 he2 nh2 ru2 bg2 la2 sd2 pl sk he nh ru bg la sd)) [20, 21, 22, 23, 24, 25, 26, 13, 14, 15, 16, 17, 18, 19] rfl)
    have hDc := hD.sub (ws' := (zPastPast cI (fun i => h (20 + i)) (fun i => h (13 + i)) pl2 sk2 he2 nh2 ru2 bg2 la2 sd2 pl sk he nh ru bg la sd)) [20, 21, 22, 23, 24, 25, 26, 13, 14, 15, 16, 17, 18, 19] rfl rfl
    have hFc := va_free (wc := (zPastPast cI (fun i => h (20 + i)) (fun i => h (13 + i)) pl2 sk2 he2 nh2 ru2 bg2 la2 sd2 pl sk he nh ru bg la sd)) hD hS hA [20, 21, 22, 23, 24, 25, 26, 13, 14, 15, 16, 17, 18, 19] rfl
    refine va_callv (va_runV (As := [.ref (h 13)]) (rest := []) ⟨hx, hb, hml, hown, hts⟩ (c_X4_become l D cI (fun i => h (20 + i)) (fun i => h (13 + i)) pl2 sk2 he2 nh2 ru2 bg2 la2 sd2 pl sk he nh ru bg la sd s.heap.size) (cwV 1 hts gX6_image_X4_become rfl rfl rfl (by decide +kernel) ⟨Nat.le_of_ble_eq_true rfl, Nat.le_of_ble_eq_true rfl⟩) (vz_pvW (va_recv hK hP (ci := 4) (q0 := 20) rfl rfl) hZ hPc hDc) rfl rfl hl.1 rfl (lv_room (Nat.le_of_ble_eq_true rfl)) dX6_image_18 ⟨Nat.zero_le _, Nat.zero_le _⟩) hS (fun q _ h => hFc q h) hFc (fun u_18 t H_18 locs_18 ht hvm hw hB hz1 hk1 hS9 => ?_)
    rw [ht] at hB
    replace hP : va_P D vwCl (zSA cI h len cd nm ks gs wt mi pl sk he nh ru bg la sd (rw_cp pl pl2 6) (rw_cp sk sk2 6) (rw_cp he he2 8) nh ru bg la sd u0 l0 u1 l1 u2 l2 wy fi fl nu ik pr) H_18 := vz_join (w1 := (zPastPast cI (fun i => h (20 + i)) (fun i => h (13 + i)) (rw_cp pl pl2 6) (rw_cp sk sk2 6) (rw_cp he he2 8) nh ru bg la sd pl sk he nh ru bg la sd)) hP hD [20, 21, 22, 23, 24, 25, 26, 13, 14, 15, 16, 17, 18, 19] rfl rfl hk1 hB
    replace hD : va_D A (zSA cI h len cd nm ks gs wt mi pl sk he nh ru bg la sd (rw_cp pl pl2 6) (rw_cp sk sk2 6) (rw_cp he he2 8) nh ru bg la sd u0 l0 u1 l1 u2 l2 wy fi fl nu ik pr) := vz_same hD rfl
    replace hS := hS9
    clear hS9 hPc hDc hFc hB hk1 hz1
    refine lv_aload_n hx hb dX6_image_21 rfl (lv_at hl 0 rfl) ?_
    refine lv_iconst (v := 1) hx hb dX6_image_22 (by decide) ?_
    refine va_put (D := D) (ci := 6) (v := .int 1) (ty := .boolean) (C := RX6) (T := TX6) (N := 10) hx hb hts iX6 tyX6 tyX6_ok nmX6 hown hK hP hD hS 0 rfl rfl 8 (by decide) k53 (fun _ h9 => h9) rfl (by decide +kernel) narrow_b1 rfl (Nat.le_of_ble_eq_true rfl) dX6_image_23 (fun H_23 locs_23 hP9 hD9 hS9 => ?_)
    replace hP : va_P D vwCl (zSA cI h len cd nm ks gs wt mi pl sk he nh ru bg la sd (rw_cp pl pl2 6) (rw_cp sk sk2 6) (rw_cp he he2 8) nh ru bg la sd u0 l0 u1 l1 u2 l2 wy fi fl nu true pr) H_23 := hP9
    replace hD : va_D A (zSA cI h len cd nm ks gs wt mi pl sk he nh ru bg la sd (rw_cp pl pl2 6) (rw_cp sk sk2 6) (rw_cp he he2 8) nh ru bg la sd u0 l0 u1 l1 u2 l2 wy fi fl nu true pr) := hD9
    replace hS := hS9
    clear hP9 hD9 hS9
    refine lv_aload_n hx hb dX6_image_26 rfl (lv_at hl 0 rfl) ?_
    refine va_get (D := D) (ci := 6) (v := .ref (h 13)) (C := RX6) (T := TX6) (N := 10) hx hb hts iX6 hown hK hP 0 rfl rfl 2 (by decide) k26 (fun _ h9 => h9) rfl dX6_image_27 ?_
    refine va_getN (D := D) (ci := 4) (v := .ref (h 14)) (C := RX4) (T := TX4) (N := 8) hx hb hts iX4 hown hK hP 13 rfl rfl 0 (by decide) k132 (fun _ h9 => h9) rfl dX6_image_30 ?_
    refine vp_callSi (W.runV (As := []) (rest := []) ⟨hx, hb, hml, hown, hts⟩ (c_X5_sum l D cI (h 14) (h 15) 6 pl (by decide)) (cwV 0 hts gX6_image_X5_sum rfl rfl rfl (by decide +kernel) ⟨Nat.le_of_ble_eq_true rfl, Nat.le_of_ble_eq_true rfl⟩) (vz_pvR (va_recv hK hP (ci := 5) (q0 := 14) rfl rfl) hZ (hP.sub (ws' := (zRow cI (h 14) (h 15) 6 pl)) [14, 15] rfl)) rfl rfl hl.1 rfl (lv_room (Nat.le_of_ble_eq_true rfl)) dX6_image_33 ⟨Nat.zero_le _, Nat.zero_le _⟩) (fun r_33 hr_33 => ?_)
    subst hr_33
    have en_pl2 : pl_n (sa_np nm) pl2 (rw_cp pl pl2 6) = rw_cp pl pl2 6 := by first | rfl | (simp only [pl_n]; done) | (simp only [pl_n]; rfl) | (simp only [pl_n, c_4, ↓reduceIte, Bool.false_eq_true, if_true, if_false, reduceCtorEq, not_true_eq_false, not_false_eq_true, eq_self]; done) | (simp only [pl_n, c_4, ↓reduceIte, Bool.false_eq_true, if_true, if_false, reduceCtorEq, not_true_eq_false, not_false_eq_true, eq_self]; rfl) | (simp [pl_n, c_4]; done)
    have en_sk2 : pl_n (sa_np nm) sk2 (rw_cp sk sk2 6) = rw_cp sk sk2 6 := by first | rfl | (simp only [pl_n]; done) | (simp only [pl_n]; rfl) | (simp only [pl_n, c_4, ↓reduceIte, Bool.false_eq_true, if_true, if_false, reduceCtorEq, not_true_eq_false, not_false_eq_true, eq_self]; done) | (simp only [pl_n, c_4, ↓reduceIte, Bool.false_eq_true, if_true, if_false, reduceCtorEq, not_true_eq_false, not_false_eq_true, eq_self]; rfl) | (simp [pl_n, c_4]; done)
    have en_he2 : pl_n (sa_np nm) he2 (rw_cp he he2 8) = rw_cp he he2 8 := by first | rfl | (simp only [pl_n]; done) | (simp only [pl_n]; rfl) | (simp only [pl_n, c_4, ↓reduceIte, Bool.false_eq_true, if_true, if_false, reduceCtorEq, not_true_eq_false, not_false_eq_true, eq_self]; done) | (simp only [pl_n, c_4, ↓reduceIte, Bool.false_eq_true, if_true, if_false, reduceCtorEq, not_true_eq_false, not_false_eq_true, eq_self]; rfl) | (simp [pl_n, c_4]; done)
    have en_nh2 : pl_n (sa_np nm) nh2 (nh) = nh := by first | rfl | (simp only [pl_n]; done) | (simp only [pl_n]; rfl) | (simp only [pl_n, c_4, ↓reduceIte, Bool.false_eq_true, if_true, if_false, reduceCtorEq, not_true_eq_false, not_false_eq_true, eq_self]; done) | (simp only [pl_n, c_4, ↓reduceIte, Bool.false_eq_true, if_true, if_false, reduceCtorEq, not_true_eq_false, not_false_eq_true, eq_self]; rfl) | (simp [pl_n, c_4]; done)
    have en_ru2 : pl_n (sa_np nm) ru2 (ru) = ru := by first | rfl | (simp only [pl_n]; done) | (simp only [pl_n]; rfl) | (simp only [pl_n, c_4, ↓reduceIte, Bool.false_eq_true, if_true, if_false, reduceCtorEq, not_true_eq_false, not_false_eq_true, eq_self]; done) | (simp only [pl_n, c_4, ↓reduceIte, Bool.false_eq_true, if_true, if_false, reduceCtorEq, not_true_eq_false, not_false_eq_true, eq_self]; rfl) | (simp [pl_n, c_4]; done)
    have en_bg2 : pl_n (sa_np nm) bg2 (bg) = bg := by first | rfl | (simp only [pl_n]; done) | (simp only [pl_n]; rfl) | (simp only [pl_n, c_4, ↓reduceIte, Bool.false_eq_true, if_true, if_false, reduceCtorEq, not_true_eq_false, not_false_eq_true, eq_self]; done) | (simp only [pl_n, c_4, ↓reduceIte, Bool.false_eq_true, if_true, if_false, reduceCtorEq, not_true_eq_false, not_false_eq_true, eq_self]; rfl) | (simp [pl_n, c_4]; done)
    have en_la2 : pl_n (sa_np nm) la2 (la) = la := by first | rfl | (simp only [pl_n]; done) | (simp only [pl_n]; rfl) | (simp only [pl_n, c_4, ↓reduceIte, Bool.false_eq_true, if_true, if_false, reduceCtorEq, not_true_eq_false, not_false_eq_true, eq_self]; done) | (simp only [pl_n, c_4, ↓reduceIte, Bool.false_eq_true, if_true, if_false, reduceCtorEq, not_true_eq_false, not_false_eq_true, eq_self]; rfl) | (simp [pl_n, c_4]; done)
    have en_sd2 : pl_n (sa_np nm) sd2 (sd) = sd := by first | rfl | (simp only [pl_n]; done) | (simp only [pl_n]; rfl) | (simp only [pl_n, c_4, ↓reduceIte, Bool.false_eq_true, if_true, if_false, reduceCtorEq, not_true_eq_false, not_false_eq_true, eq_self]; done) | (simp only [pl_n, c_4, ↓reduceIte, Bool.false_eq_true, if_true, if_false, reduceCtorEq, not_true_eq_false, not_false_eq_true, eq_self]; rfl) | (simp [pl_n, c_4]; done)
    have en_ik : pl_n (sa_np nm) ik true = true := by first | rfl | (simp only [pl_n]; done) | (simp only [pl_n]; rfl) | (simp only [pl_n, c_4, ↓reduceIte, Bool.false_eq_true, if_true, if_false, reduceCtorEq, not_true_eq_false, not_false_eq_true, eq_self]; done) | (simp only [pl_n, c_4, ↓reduceIte, Bool.false_eq_true, if_true, if_false, reduceCtorEq, not_true_eq_false, not_false_eq_true, eq_self]; rfl) | (simp [pl_n, c_4]; done)
    exact W.iret hx hb hr (fun t ht hW => ⟨⟨_, (), rfl, (by first | rfl | (simp only [pl_n]; done) | (simp only [pl_n]; rfl) | (simp only [pl_n, c_4, ↓reduceIte, Bool.false_eq_true, if_true, if_false, reduceCtorEq, not_true_eq_false, not_false_eq_true, eq_self]; done) | (simp only [pl_n, c_4, ↓reduceIte, Bool.false_eq_true, if_true, if_false, reduceCtorEq, not_true_eq_false, not_false_eq_true, eq_self]; rfl) | (simp [pl_n, c_4]; done)), (by show va_P D vwCl (zSA cI h len cd nm ks gs wt mi pl sk he nh ru bg la sd (pl_n (sa_np nm) pl2 (rw_cp pl pl2 6)) (pl_n (sa_np nm) sk2 (rw_cp sk sk2 6)) (pl_n (sa_np nm) he2 (rw_cp he he2 8)) (pl_n (sa_np nm) nh2 (nh)) (pl_n (sa_np nm) ru2 (ru)) (pl_n (sa_np nm) bg2 (bg)) (pl_n (sa_np nm) la2 (la)) (pl_n (sa_np nm) sd2 (sd)) u0 l0 u1 l1 u2 l2 wy fi fl nu (pl_n (sa_np nm) ik true) pr) t.heap; rw [ht, en_pl2, en_sk2, en_he2, en_nh2, en_ru2, en_bg2, en_la2, en_sd2, en_ik]; exact hP)⟩, hS.F ht⟩) hS.2.2 dX6_image_36
  · skip
    replace c_4 := vz_b1 c_4
    refine lv_bipush (v := (-103)) hx hb dX6_image_7 (by decide) ?_
    have en_pl2 : pl_n (sa_np nm) pl2 (rw_cp pl pl2 6) = pl2 := by first | rfl | (simp only [pl_n]; done) | (simp only [pl_n]; rfl) | (simp only [pl_n, c_4, ↓reduceIte, Bool.false_eq_true, if_true, if_false, reduceCtorEq, not_true_eq_false, not_false_eq_true, eq_self]; done) | (simp only [pl_n, c_4, ↓reduceIte, Bool.false_eq_true, if_true, if_false, reduceCtorEq, not_true_eq_false, not_false_eq_true, eq_self]; rfl) | (simp [pl_n, c_4]; done)
    have en_sk2 : pl_n (sa_np nm) sk2 (rw_cp sk sk2 6) = sk2 := by first | rfl | (simp only [pl_n]; done) | (simp only [pl_n]; rfl) | (simp only [pl_n, c_4, ↓reduceIte, Bool.false_eq_true, if_true, if_false, reduceCtorEq, not_true_eq_false, not_false_eq_true, eq_self]; done) | (simp only [pl_n, c_4, ↓reduceIte, Bool.false_eq_true, if_true, if_false, reduceCtorEq, not_true_eq_false, not_false_eq_true, eq_self]; rfl) | (simp [pl_n, c_4]; done)
    have en_he2 : pl_n (sa_np nm) he2 (rw_cp he he2 8) = he2 := by first | rfl | (simp only [pl_n]; done) | (simp only [pl_n]; rfl) | (simp only [pl_n, c_4, ↓reduceIte, Bool.false_eq_true, if_true, if_false, reduceCtorEq, not_true_eq_false, not_false_eq_true, eq_self]; done) | (simp only [pl_n, c_4, ↓reduceIte, Bool.false_eq_true, if_true, if_false, reduceCtorEq, not_true_eq_false, not_false_eq_true, eq_self]; rfl) | (simp [pl_n, c_4]; done)
    have en_nh2 : pl_n (sa_np nm) nh2 (nh) = nh2 := by first | rfl | (simp only [pl_n]; done) | (simp only [pl_n]; rfl) | (simp only [pl_n, c_4, ↓reduceIte, Bool.false_eq_true, if_true, if_false, reduceCtorEq, not_true_eq_false, not_false_eq_true, eq_self]; done) | (simp only [pl_n, c_4, ↓reduceIte, Bool.false_eq_true, if_true, if_false, reduceCtorEq, not_true_eq_false, not_false_eq_true, eq_self]; rfl) | (simp [pl_n, c_4]; done)
    have en_ru2 : pl_n (sa_np nm) ru2 (ru) = ru2 := by first | rfl | (simp only [pl_n]; done) | (simp only [pl_n]; rfl) | (simp only [pl_n, c_4, ↓reduceIte, Bool.false_eq_true, if_true, if_false, reduceCtorEq, not_true_eq_false, not_false_eq_true, eq_self]; done) | (simp only [pl_n, c_4, ↓reduceIte, Bool.false_eq_true, if_true, if_false, reduceCtorEq, not_true_eq_false, not_false_eq_true, eq_self]; rfl) | (simp [pl_n, c_4]; done)
    have en_bg2 : pl_n (sa_np nm) bg2 (bg) = bg2 := by first | rfl | (simp only [pl_n]; done) | (simp only [pl_n]; rfl) | (simp only [pl_n, c_4, ↓reduceIte, Bool.false_eq_true, if_true, if_false, reduceCtorEq, not_true_eq_false, not_false_eq_true, eq_self]; done) | (simp only [pl_n, c_4, ↓reduceIte, Bool.false_eq_true, if_true, if_false, reduceCtorEq, not_true_eq_false, not_false_eq_true, eq_self]; rfl) | (simp [pl_n, c_4]; done)
    have en_la2 : pl_n (sa_np nm) la2 (la) = la2 := by first | rfl | (simp only [pl_n]; done) | (simp only [pl_n]; rfl) | (simp only [pl_n, c_4, ↓reduceIte, Bool.false_eq_true, if_true, if_false, reduceCtorEq, not_true_eq_false, not_false_eq_true, eq_self]; done) | (simp only [pl_n, c_4, ↓reduceIte, Bool.false_eq_true, if_true, if_false, reduceCtorEq, not_true_eq_false, not_false_eq_true, eq_self]; rfl) | (simp [pl_n, c_4]; done)
    have en_sd2 : pl_n (sa_np nm) sd2 (sd) = sd2 := by first | rfl | (simp only [pl_n]; done) | (simp only [pl_n]; rfl) | (simp only [pl_n, c_4, ↓reduceIte, Bool.false_eq_true, if_true, if_false, reduceCtorEq, not_true_eq_false, not_false_eq_true, eq_self]; done) | (simp only [pl_n, c_4, ↓reduceIte, Bool.false_eq_true, if_true, if_false, reduceCtorEq, not_true_eq_false, not_false_eq_true, eq_self]; rfl) | (simp [pl_n, c_4]; done)
    have en_ik : pl_n (sa_np nm) ik true = ik := by first | rfl | (simp only [pl_n]; done) | (simp only [pl_n]; rfl) | (simp only [pl_n, c_4, ↓reduceIte, Bool.false_eq_true, if_true, if_false, reduceCtorEq, not_true_eq_false, not_false_eq_true, eq_self]; done) | (simp only [pl_n, c_4, ↓reduceIte, Bool.false_eq_true, if_true, if_false, reduceCtorEq, not_true_eq_false, not_false_eq_true, eq_self]; rfl) | (simp [pl_n, c_4]; done)
    exact W.iret hx hb hr (fun t ht hW => ⟨⟨_, (), rfl, (by first | rfl | (simp only [pl_n]; done) | (simp only [pl_n]; rfl) | (simp only [pl_n, c_4, ↓reduceIte, Bool.false_eq_true, if_true, if_false, reduceCtorEq, not_true_eq_false, not_false_eq_true, eq_self]; done) | (simp only [pl_n, c_4, ↓reduceIte, Bool.false_eq_true, if_true, if_false, reduceCtorEq, not_true_eq_false, not_false_eq_true, eq_self]; rfl) | (simp [pl_n, c_4]; done)), (by show va_P D vwCl (zSA cI h len cd nm ks gs wt mi pl sk he nh ru bg la sd (pl_n (sa_np nm) pl2 (rw_cp pl pl2 6)) (pl_n (sa_np nm) sk2 (rw_cp sk sk2 6)) (pl_n (sa_np nm) he2 (rw_cp he he2 8)) (pl_n (sa_np nm) nh2 (nh)) (pl_n (sa_np nm) ru2 (ru)) (pl_n (sa_np nm) bg2 (bg)) (pl_n (sa_np nm) la2 (la)) (pl_n (sa_np nm) sd2 (sd)) u0 l0 u1 l1 u2 l2 wy fi fl nu (pl_n (sa_np nm) ik true) pr) t.heap; rw [ht, en_pl2, en_sk2, en_he2, en_nh2, en_ru2, en_bg2, en_la2, en_sd2, en_ik]; exact hP)⟩, hS.F ht⟩) hS.2.2 dX6_image_9
set_option maxHeartbeats 4000000 in
set_option maxRecDepth 100000 in
theorem c_X6_restore (l : Launch) (D : va_G) (cI : ClassId) (h : Nat → Nat) (len : Nat) (cd : Nat → Int32) (nm : Nat) (ks : Nat → Int32) (gs : Nat → Int32) (wt : Nat → Int32) (mi : Nat → Int32) (pl : Nat → Int32) (sk : Nat → Int32) (he : Nat → Int32) (nh : Nat) (ru : Int32) (bg : Int32) (la : Int32) (sd : Bool) (pl2 : Nat → Int32) (sk2 : Nat → Int32) (he2 : Nat → Int32) (nh2 : Nat) (ru2 : Int32) (bg2 : Int32) (la2 : Int32) (sd2 : Bool) (u0 : Int64) (l0 : Int64) (u1 : Int64) (l1 : Int64) (u2 : Int64) (l2 : Int64) (wy : Nat → Int32) (fi : Nat → Int32) (fl : Int32) (nu : Int32) (ik : Bool) (pr : Nat) (sz : Nat) : Met l yX6_restore wsX6_restore ({ frames := 3, cells := 0, slots := 0, locals := 64 } : Room) (vz_rw D cI (zSA cI h len cd nm ks gs wt mi pl sk he nh ru bg la sd pl2 sk2 he2 nh2 ru2 bg2 la2 sd2 u0 l0 u1 l1 u2 l2 wy fi fl nu ik pr) sz [.ref (h 0)]) (va_Qi (fun r (_ : Unit) => r = if ik then rw_sum (rw_cp pl2 pl 6) 6 else -103) (fun (u : Unit) (t : State) => va_P D vwCl (zSA cI h len cd nm ks gs wt mi (pl_n ik (rw_cp pl2 pl 6) pl) (pl_n ik (rw_cp sk2 sk 6) sk) (pl_n ik (rw_cp he2 he 8) he) (pl_n ik (nh2) nh) (pl_n ik (ru2) ru) (pl_n ik (bg2) bg) (pl_n ik (la2) la) (pl_n ik (sd2) sd) pl2 sk2 he2 nh2 ru2 bg2 la2 sd2 u0 l0 u1 l1 u2 l2 wy fi fl nu ik pr) t.heap) (va_A (zSA cI h len cd nm ks gs wt mi pl sk he nh ru bg la sd pl2 sk2 he2 nh2 ru2 bg2 la2 sd2 u0 l0 u1 l1 u2 l2 wy fi fl nu ik pr) sz)) 0 0 (va_A (zSA cI h len cd nm ks gs wt mi pl sk he nh ru bg la sd pl2 sk2 he2 nh2 ru2 bg2 la2 sd2 u0 l0 u1 l1 u2 l2 wy fi fl nu ik pr) sz) := by
  refine Met.ofW (cc := cX6_restore) (maxL := 1) (ret := (some .int)) (by decide) rfl ?_
  intro p e s m args below meth c s₁ B hml hv
  obtain ⟨rfl, hsz, hP, hZ, hD0⟩ := hv
  obtain ⟨hK, hN⟩ := id hZ
  have hx := B.exec
  have hb := B.bytes
  have hr := B.returns
  have hts := atoms_spec (ws := wsX6_restore) B.pre
  have hown : s.vm.findClass RX6 = some m.cls := findClass_of_methodNamed B.named
  have hlocks := B.notSynchronized
  subst hsz
  have hD := hD0.self (sz := s.heap.size)
  generalize hAe : va_A (zSA cI h len cd nm ks gs wt mi pl sk he nh ru bg la sd pl2 sk2 he2 nh2 ru2 bg2 la2 sd2 u0 l0 u1 l1 u2 l2 wy fi fl nu ik pr) s.heap.size = A at hD ⊢
  have hA : ∀ q : Nat, s.heap.size ≤ q → A q := fun q h => by rw [← hAe]; exact Or.inr h
  have hS : va_S A s.heap s.heap [] := va_S.rf
  have k26 := hts (.fieldLink RX6 26 "SongsAgain" "now" "LSongsAgain$Past;") (List.mem_of_getElem? (i := 2) rfl)
  have k30 := hts (.fieldLink RX6 30 "SongsAgain" "kept" "LSongsAgain$Past;") (List.mem_of_getElem? (i := 3) rfl)
  have k53 := hts (.fieldLink RX6 53 "SongsAgain" "isKept" "Z") (List.mem_of_getElem? (i := 1) rfl)
  have k132 : (Cond.fieldLinkNest "SongsAgain" 132 "SongsAgain$Past" "played" "LSongsAgain$Row;" "SongsAgain").before _ s = true := va_Nw.use (A := ([.ref (h 0)] : List Value).toArray) rfl (hN.1 ("SongsAgain", 132, "SongsAgain$Past", "played", "LSongsAgain$Row;") (List.mem_of_getElem? (i := 9) rfl))
  have iX4 : ∀ w ∈ u_ws RX4 TX4 8, w ∈ wsX6_restore := vz_in (i := 41) (n := 8) rfl
  have iX6 : ∀ w ∈ u_ws RX6 TX6 10, w ∈ wsX6_restore := vz_in (i := 31) (n := 10) rfl
  have hl := lv_entry ([.ref (h 0)]) (n := 1) (Nat.le_of_ble_eq_true rfl)
  rw [lg_entry_eq]
  generalize (lg_sl ([.ref (h 0)]) ++ List.replicate (1 - (lg_sl ([.ref (h 0)])).length) Slot.unset).toArray = ls at hl ⊢
  have hl : lv_has ls 1 [(0, .ref (h 0))] := hl
  have hP : va_P D vwCl (zSA cI h len cd nm ks gs wt mi pl sk he nh ru bg la sd pl2 sk2 he2 nh2 ru2 bg2 la2 sd2 u0 l0 u1 l1 u2 l2 wy fi fl nu ik pr) s.heap := hP
  refine lv_aload_n hx hb dX6_restore_0 rfl (lv_at hl 0 rfl) ?_
  refine va_get (D := D) (ci := 6) (v := .int (vz_b ik)) (C := RX6) (T := TX6) (N := 10) hx hb hts iX6 hown hK hP 0 rfl rfl 8 (by decide) k53 (fun _ h9 => h9) rfl dX6_restore_1 ?_
  refine lv_if_ne (tgt := 10) hx hb dX6_restore_4 (by decide) (fun c_4 => ?_) (fun c_4 => ?_)
  · skip
    replace c_4 := vz_b1 c_4
    refine lv_aload_n hx hb dX6_restore_10 rfl (lv_at hl 0 rfl) ?_
    refine va_get (D := D) (ci := 6) (v := .ref (h 13)) (C := RX6) (T := TX6) (N := 10) hx hb hts iX6 hown hK hP 0 rfl rfl 2 (by decide) k26 (fun _ h9 => h9) rfl dX6_restore_11 ?_
    refine lv_aload_n hx hb dX6_restore_14 rfl (lv_at hl 0 rfl) ?_
    refine va_get (D := D) (ci := 6) (v := .ref (h 20)) (C := RX6) (T := TX6) (N := 10) hx hb hts iX6 hown hK hP 0 rfl rfl 3 (by decide) k30 (fun _ h9 => h9) rfl dX6_restore_15 ?_
    have hPc := (hP.sub (ws' := (zPastPast cI (fun i => h (13 + i)) (fun i => h (20 + i)) pl sk he nh ru bg la sd pl2 sk2 he2 nh2 ru2 bg2 la2 sd2)) [13, 14, 15, 16, 17, 18, 19, 20, 21, 22, 23, 24, 25, 26] rfl)
    have hDc := hD.sub (ws' := (zPastPast cI (fun i => h (13 + i)) (fun i => h (20 + i)) pl sk he nh ru bg la sd pl2 sk2 he2 nh2 ru2 bg2 la2 sd2)) [13, 14, 15, 16, 17, 18, 19, 20, 21, 22, 23, 24, 25, 26] rfl rfl
    have hFc := va_free (wc := (zPastPast cI (fun i => h (13 + i)) (fun i => h (20 + i)) pl sk he nh ru bg la sd pl2 sk2 he2 nh2 ru2 bg2 la2 sd2)) hD hS hA [13, 14, 15, 16, 17, 18, 19, 20, 21, 22, 23, 24, 25, 26] rfl
    refine va_callv (va_runV (As := [.ref (h 20)]) (rest := []) ⟨hx, hb, hml, hown, hts⟩ (c_X4_become l D cI (fun i => h (13 + i)) (fun i => h (20 + i)) pl sk he nh ru bg la sd pl2 sk2 he2 nh2 ru2 bg2 la2 sd2 s.heap.size) (cwV 1 hts gX6_restore_X4_become rfl rfl rfl (by decide +kernel) ⟨Nat.le_of_ble_eq_true rfl, Nat.le_of_ble_eq_true rfl⟩) (vz_pvW (va_recv hK hP (ci := 4) (q0 := 13) rfl rfl) hZ hPc hDc) rfl rfl hl.1 rfl (lv_room (Nat.le_of_ble_eq_true rfl)) dX6_restore_18 ⟨Nat.zero_le _, Nat.zero_le _⟩) hS (fun q _ h => hFc q h) hFc (fun u_18 t H_18 locs_18 ht hvm hw hB hz1 hk1 hS9 => ?_)
    rw [ht] at hB
    replace hP : va_P D vwCl (zSA cI h len cd nm ks gs wt mi (rw_cp pl2 pl 6) (rw_cp sk2 sk 6) (rw_cp he2 he 8) nh2 ru2 bg2 la2 sd2 pl2 sk2 he2 nh2 ru2 bg2 la2 sd2 u0 l0 u1 l1 u2 l2 wy fi fl nu ik pr) H_18 := vz_join (w1 := (zPastPast cI (fun i => h (13 + i)) (fun i => h (20 + i)) (rw_cp pl2 pl 6) (rw_cp sk2 sk 6) (rw_cp he2 he 8) nh2 ru2 bg2 la2 sd2 pl2 sk2 he2 nh2 ru2 bg2 la2 sd2)) hP hD [13, 14, 15, 16, 17, 18, 19, 20, 21, 22, 23, 24, 25, 26] rfl rfl hk1 hB
    replace hD : va_D A (zSA cI h len cd nm ks gs wt mi (rw_cp pl2 pl 6) (rw_cp sk2 sk 6) (rw_cp he2 he 8) nh2 ru2 bg2 la2 sd2 pl2 sk2 he2 nh2 ru2 bg2 la2 sd2 u0 l0 u1 l1 u2 l2 wy fi fl nu ik pr) := vz_same hD rfl
    replace hS := hS9
    clear hS9 hPc hDc hFc hB hk1 hz1
    refine lv_aload_n hx hb dX6_restore_21 rfl (lv_at hl 0 rfl) ?_
    refine va_get (D := D) (ci := 6) (v := .ref (h 13)) (C := RX6) (T := TX6) (N := 10) hx hb hts iX6 hown hK hP 0 rfl rfl 2 (by decide) k26 (fun _ h9 => h9) rfl dX6_restore_22 ?_
    refine va_getN (D := D) (ci := 4) (v := .ref (h 14)) (C := RX4) (T := TX4) (N := 8) hx hb hts iX4 hown hK hP 13 rfl rfl 0 (by decide) k132 (fun _ h9 => h9) rfl dX6_restore_25 ?_
    refine vp_callSi (W.runV (As := []) (rest := []) ⟨hx, hb, hml, hown, hts⟩ (c_X5_sum l D cI (h 14) (h 15) 6 (rw_cp pl2 pl 6) (by decide)) (cwV 0 hts gX6_restore_X5_sum rfl rfl rfl (by decide +kernel) ⟨Nat.le_of_ble_eq_true rfl, Nat.le_of_ble_eq_true rfl⟩) (vz_pvR (va_recv hK hP (ci := 5) (q0 := 14) rfl rfl) hZ (hP.sub (ws' := (zRow cI (h 14) (h 15) 6 (rw_cp pl2 pl 6))) [14, 15] rfl)) rfl rfl hl.1 rfl (lv_room (Nat.le_of_ble_eq_true rfl)) dX6_restore_28 ⟨Nat.zero_le _, Nat.zero_le _⟩) (fun r_28 hr_28 => ?_)
    subst hr_28
    have en_pl : pl_n ik (rw_cp pl2 pl 6) pl = rw_cp pl2 pl 6 := by first | rfl | (simp only [pl_n]; done) | (simp only [pl_n]; rfl) | (simp only [pl_n, c_4, ↓reduceIte, Bool.false_eq_true, if_true, if_false, reduceCtorEq, not_true_eq_false, not_false_eq_true, eq_self]; done) | (simp only [pl_n, c_4, ↓reduceIte, Bool.false_eq_true, if_true, if_false, reduceCtorEq, not_true_eq_false, not_false_eq_true, eq_self]; rfl) | (simp [pl_n, c_4]; done)
    have en_sk : pl_n ik (rw_cp sk2 sk 6) sk = rw_cp sk2 sk 6 := by first | rfl | (simp only [pl_n]; done) | (simp only [pl_n]; rfl) | (simp only [pl_n, c_4, ↓reduceIte, Bool.false_eq_true, if_true, if_false, reduceCtorEq, not_true_eq_false, not_false_eq_true, eq_self]; done) | (simp only [pl_n, c_4, ↓reduceIte, Bool.false_eq_true, if_true, if_false, reduceCtorEq, not_true_eq_false, not_false_eq_true, eq_self]; rfl) | (simp [pl_n, c_4]; done)
    have en_he : pl_n ik (rw_cp he2 he 8) he = rw_cp he2 he 8 := by first | rfl | (simp only [pl_n]; done) | (simp only [pl_n]; rfl) | (simp only [pl_n, c_4, ↓reduceIte, Bool.false_eq_true, if_true, if_false, reduceCtorEq, not_true_eq_false, not_false_eq_true, eq_self]; done) | (simp only [pl_n, c_4, ↓reduceIte, Bool.false_eq_true, if_true, if_false, reduceCtorEq, not_true_eq_false, not_false_eq_true, eq_self]; rfl) | (simp [pl_n, c_4]; done)
    have en_nh : pl_n ik (nh2) nh = nh2 := by first | rfl | (simp only [pl_n]; done) | (simp only [pl_n]; rfl) | (simp only [pl_n, c_4, ↓reduceIte, Bool.false_eq_true, if_true, if_false, reduceCtorEq, not_true_eq_false, not_false_eq_true, eq_self]; done) | (simp only [pl_n, c_4, ↓reduceIte, Bool.false_eq_true, if_true, if_false, reduceCtorEq, not_true_eq_false, not_false_eq_true, eq_self]; rfl) | (simp [pl_n, c_4]; done)
    have en_ru : pl_n ik (ru2) ru = ru2 := by first | rfl | (simp only [pl_n]; done) | (simp only [pl_n]; rfl) | (simp only [pl_n, c_4, ↓reduceIte, Bool.false_eq_true, if_true, if_false, reduceCtorEq, not_true_eq_false, not_false_eq_true, eq_self]; done) | (simp only [pl_n, c_4, ↓reduceIte, Bool.false_eq_true, if_true, if_false, reduceCtorEq, not_true_eq_false, not_false_eq_true, eq_self]; rfl) | (simp [pl_n, c_4]; done)
    have en_bg : pl_n ik (bg2) bg = bg2 := by first | rfl | (simp only [pl_n]; done) | (simp only [pl_n]; rfl) | (simp only [pl_n, c_4, ↓reduceIte, Bool.false_eq_true, if_true, if_false, reduceCtorEq, not_true_eq_false, not_false_eq_true, eq_self]; done) | (simp only [pl_n, c_4, ↓reduceIte, Bool.false_eq_true, if_true, if_false, reduceCtorEq, not_true_eq_false, not_false_eq_true, eq_self]; rfl) | (simp [pl_n, c_4]; done)
    have en_la : pl_n ik (la2) la = la2 := by first | rfl | (simp only [pl_n]; done) | (simp only [pl_n]; rfl) | (simp only [pl_n, c_4, ↓reduceIte, Bool.false_eq_true, if_true, if_false, reduceCtorEq, not_true_eq_false, not_false_eq_true, eq_self]; done) | (simp only [pl_n, c_4, ↓reduceIte, Bool.false_eq_true, if_true, if_false, reduceCtorEq, not_true_eq_false, not_false_eq_true, eq_self]; rfl) | (simp [pl_n, c_4]; done)
    have en_sd : pl_n ik (sd2) sd = sd2 := by first | rfl | (simp only [pl_n]; done) | (simp only [pl_n]; rfl) | (simp only [pl_n, c_4, ↓reduceIte, Bool.false_eq_true, if_true, if_false, reduceCtorEq, not_true_eq_false, not_false_eq_true, eq_self]; done) | (simp only [pl_n, c_4, ↓reduceIte, Bool.false_eq_true, if_true, if_false, reduceCtorEq, not_true_eq_false, not_false_eq_true, eq_self]; rfl) | (simp [pl_n, c_4]; done)
    exact W.iret hx hb hr (fun t ht hW => ⟨⟨_, (), rfl, (by first | rfl | (simp only [pl_n]; done) | (simp only [pl_n]; rfl) | (simp only [pl_n, c_4, ↓reduceIte, Bool.false_eq_true, if_true, if_false, reduceCtorEq, not_true_eq_false, not_false_eq_true, eq_self]; done) | (simp only [pl_n, c_4, ↓reduceIte, Bool.false_eq_true, if_true, if_false, reduceCtorEq, not_true_eq_false, not_false_eq_true, eq_self]; rfl) | (simp [pl_n, c_4]; done)), (by show va_P D vwCl (zSA cI h len cd nm ks gs wt mi (pl_n ik (rw_cp pl2 pl 6) pl) (pl_n ik (rw_cp sk2 sk 6) sk) (pl_n ik (rw_cp he2 he 8) he) (pl_n ik (nh2) nh) (pl_n ik (ru2) ru) (pl_n ik (bg2) bg) (pl_n ik (la2) la) (pl_n ik (sd2) sd) pl2 sk2 he2 nh2 ru2 bg2 la2 sd2 u0 l0 u1 l1 u2 l2 wy fi fl nu ik pr) t.heap; rw [ht, en_pl, en_sk, en_he, en_nh, en_ru, en_bg, en_la, en_sd]; exact hP)⟩, hS.F ht⟩) hS.2.2 dX6_restore_31
  · skip
    replace c_4 := vz_b0 c_4
    refine lv_bipush (v := (-103)) hx hb dX6_restore_7 (by decide) ?_
    have en_pl : pl_n ik (rw_cp pl2 pl 6) pl = pl := by first | rfl | (simp only [pl_n]; done) | (simp only [pl_n]; rfl) | (simp only [pl_n, c_4, ↓reduceIte, Bool.false_eq_true, if_true, if_false, reduceCtorEq, not_true_eq_false, not_false_eq_true, eq_self]; done) | (simp only [pl_n, c_4, ↓reduceIte, Bool.false_eq_true, if_true, if_false, reduceCtorEq, not_true_eq_false, not_false_eq_true, eq_self]; rfl) | (simp [pl_n, c_4]; done)
    have en_sk : pl_n ik (rw_cp sk2 sk 6) sk = sk := by first | rfl | (simp only [pl_n]; done) | (simp only [pl_n]; rfl) | (simp only [pl_n, c_4, ↓reduceIte, Bool.false_eq_true, if_true, if_false, reduceCtorEq, not_true_eq_false, not_false_eq_true, eq_self]; done) | (simp only [pl_n, c_4, ↓reduceIte, Bool.false_eq_true, if_true, if_false, reduceCtorEq, not_true_eq_false, not_false_eq_true, eq_self]; rfl) | (simp [pl_n, c_4]; done)
    have en_he : pl_n ik (rw_cp he2 he 8) he = he := by first | rfl | (simp only [pl_n]; done) | (simp only [pl_n]; rfl) | (simp only [pl_n, c_4, ↓reduceIte, Bool.false_eq_true, if_true, if_false, reduceCtorEq, not_true_eq_false, not_false_eq_true, eq_self]; done) | (simp only [pl_n, c_4, ↓reduceIte, Bool.false_eq_true, if_true, if_false, reduceCtorEq, not_true_eq_false, not_false_eq_true, eq_self]; rfl) | (simp [pl_n, c_4]; done)
    have en_nh : pl_n ik (nh2) nh = nh := by first | rfl | (simp only [pl_n]; done) | (simp only [pl_n]; rfl) | (simp only [pl_n, c_4, ↓reduceIte, Bool.false_eq_true, if_true, if_false, reduceCtorEq, not_true_eq_false, not_false_eq_true, eq_self]; done) | (simp only [pl_n, c_4, ↓reduceIte, Bool.false_eq_true, if_true, if_false, reduceCtorEq, not_true_eq_false, not_false_eq_true, eq_self]; rfl) | (simp [pl_n, c_4]; done)
    have en_ru : pl_n ik (ru2) ru = ru := by first | rfl | (simp only [pl_n]; done) | (simp only [pl_n]; rfl) | (simp only [pl_n, c_4, ↓reduceIte, Bool.false_eq_true, if_true, if_false, reduceCtorEq, not_true_eq_false, not_false_eq_true, eq_self]; done) | (simp only [pl_n, c_4, ↓reduceIte, Bool.false_eq_true, if_true, if_false, reduceCtorEq, not_true_eq_false, not_false_eq_true, eq_self]; rfl) | (simp [pl_n, c_4]; done)
    have en_bg : pl_n ik (bg2) bg = bg := by first | rfl | (simp only [pl_n]; done) | (simp only [pl_n]; rfl) | (simp only [pl_n, c_4, ↓reduceIte, Bool.false_eq_true, if_true, if_false, reduceCtorEq, not_true_eq_false, not_false_eq_true, eq_self]; done) | (simp only [pl_n, c_4, ↓reduceIte, Bool.false_eq_true, if_true, if_false, reduceCtorEq, not_true_eq_false, not_false_eq_true, eq_self]; rfl) | (simp [pl_n, c_4]; done)
    have en_la : pl_n ik (la2) la = la := by first | rfl | (simp only [pl_n]; done) | (simp only [pl_n]; rfl) | (simp only [pl_n, c_4, ↓reduceIte, Bool.false_eq_true, if_true, if_false, reduceCtorEq, not_true_eq_false, not_false_eq_true, eq_self]; done) | (simp only [pl_n, c_4, ↓reduceIte, Bool.false_eq_true, if_true, if_false, reduceCtorEq, not_true_eq_false, not_false_eq_true, eq_self]; rfl) | (simp [pl_n, c_4]; done)
    have en_sd : pl_n ik (sd2) sd = sd := by first | rfl | (simp only [pl_n]; done) | (simp only [pl_n]; rfl) | (simp only [pl_n, c_4, ↓reduceIte, Bool.false_eq_true, if_true, if_false, reduceCtorEq, not_true_eq_false, not_false_eq_true, eq_self]; done) | (simp only [pl_n, c_4, ↓reduceIte, Bool.false_eq_true, if_true, if_false, reduceCtorEq, not_true_eq_false, not_false_eq_true, eq_self]; rfl) | (simp [pl_n, c_4]; done)
    exact W.iret hx hb hr (fun t ht hW => ⟨⟨_, (), rfl, (by first | rfl | (simp only [pl_n]; done) | (simp only [pl_n]; rfl) | (simp only [pl_n, c_4, ↓reduceIte, Bool.false_eq_true, if_true, if_false, reduceCtorEq, not_true_eq_false, not_false_eq_true, eq_self]; done) | (simp only [pl_n, c_4, ↓reduceIte, Bool.false_eq_true, if_true, if_false, reduceCtorEq, not_true_eq_false, not_false_eq_true, eq_self]; rfl) | (simp [pl_n, c_4]; done)), (by show va_P D vwCl (zSA cI h len cd nm ks gs wt mi (pl_n ik (rw_cp pl2 pl 6) pl) (pl_n ik (rw_cp sk2 sk 6) sk) (pl_n ik (rw_cp he2 he 8) he) (pl_n ik (nh2) nh) (pl_n ik (ru2) ru) (pl_n ik (bg2) bg) (pl_n ik (la2) la) (pl_n ik (sd2) sd) pl2 sk2 he2 nh2 ru2 bg2 la2 sd2 u0 l0 u1 l1 u2 l2 wy fi fl nu ik pr) t.heap; rw [ht, en_pl, en_sk, en_he, en_nh, en_ru, en_bg, en_la, en_sd]; exact hP)⟩, hS.F ht⟩) hS.2.2 dX6_restore_9
set_option maxHeartbeats 4000000 in
set_option maxRecDepth 100000 in
theorem c_X6_song (l : Launch) (D : va_G) (cI : ClassId) (h : Nat → Nat) (len : Nat) (cd : Nat → Int32) (nm : Nat) (ks : Nat → Int32) (gs : Nat → Int32) (wt : Nat → Int32) (mi : Nat → Int32) (pl : Nat → Int32) (sk : Nat → Int32) (he : Nat → Int32) (nh : Nat) (ru : Int32) (bg : Int32) (la : Int32) (sd : Bool) (pl2 : Nat → Int32) (sk2 : Nat → Int32) (he2 : Nat → Int32) (nh2 : Nat) (ru2 : Int32) (bg2 : Int32) (la2 : Int32) (sd2 : Bool) (u0 : Int64) (l0 : Int64) (u1 : Int64) (l1 : Int64) (u2 : Int64) (l2 : Int64) (wy : Nat → Int32) (fi : Nat → Int32) (fl : Int32) (nu : Int32) (ik : Bool) (pr : Nat) (sz : Nat) (p0 : Int32) (p1 : Int32) (hnm : nm ≤ 6) (hch : ∀ s : Int32, bk_has nm s = true → ¬ fr_cd (sa_cx nm ks gs wt sk ru bg la s) (sa_cy nm ks gs wt sk ru bg la) ≤ 0) : Met l yX6_song wsX6_song ({ frames := 6, cells := 0, slots := 0, locals := 136 } : Room) (vz_rw D cI (zSA cI h len cd nm ks gs wt mi pl sk he nh ru bg la sd pl2 sk2 he2 nh2 ru2 bg2 la2 sd2 u0 l0 u1 l1 u2 l2 wy fi fl nu ik pr) sz [.ref (h 0), .int p0, .int p1]) (va_Qi (fun r (_ : Int64 × Int64) => r = so_r nm ks gs wt sk mi pl ru bg la p0 p1) (fun (u : Int64 × Int64) (t : State) => va_P D vwCl (zSA cI h len cd nm ks gs wt mi pl sk he nh ru bg la sd pl2 sk2 he2 nh2 ru2 bg2 la2 sd2 u0 l0 u.1 u.2 u2 l2 wy fi fl nu ik pr) t.heap) (va_A (zSA cI h len cd nm ks gs wt mi pl sk he nh ru bg la sd pl2 sk2 he2 nh2 ru2 bg2 la2 sd2 u0 l0 u1 l1 u2 l2 wy fi fl nu ik pr) sz)) 0 0 (va_A (zSA cI h len cd nm ks gs wt mi pl sk he nh ru bg la sd pl2 sk2 he2 nh2 ru2 bg2 la2 sd2 u0 l0 u1 l1 u2 l2 wy fi fl nu ik pr) sz) := by
  refine Met.ofW (cc := cX6_song) (maxL := 3) (ret := (some .int)) (by decide) rfl ?_
  intro p e s m args below meth c s₁ B hml hv
  obtain ⟨rfl, hsz, hP, hZ, hD0⟩ := hv
  obtain ⟨hK, hN⟩ := id hZ
  have hx := B.exec
  have hb := B.bytes
  have hr := B.returns
  have hts := atoms_spec (ws := wsX6_song) B.pre
  have hown : s.vm.findClass RX6 = some m.cls := findClass_of_methodNamed B.named
  have hlocks := B.notSynchronized
  subst hsz
  have hD := hD0.self (sz := s.heap.size)
  generalize hAe : va_A (zSA cI h len cd nm ks gs wt mi pl sk he nh ru bg la sd pl2 sk2 he2 nh2 ru2 bg2 la2 sd2 u0 l0 u1 l1 u2 l2 wy fi fl nu ik pr) s.heap.size = A at hD ⊢
  have hA : ∀ q : Nat, s.heap.size ≤ q → A q := fun q h => by rw [← hAe]; exact Or.inr h
  have hS : va_S A s.heap s.heap [] := va_S.rf
  have k19 := hts (.fieldLink RX6 19 "SongsAgain" "book" "LSongsAgain$Book;") (List.mem_of_getElem? (i := 1) rfl)
  have iX6 : ∀ w ∈ u_ws RX6 TX6 10, w ∈ wsX6_song := vz_in (i := 83) (n := 10) rfl
  have hl := lv_entry ([.ref (h 0), .int p0, .int p1]) (n := 3) (Nat.le_of_ble_eq_true rfl)
  rw [lg_entry_eq]
  generalize (lg_sl ([.ref (h 0), .int p0, .int p1]) ++ List.replicate (3 - (lg_sl ([.ref (h 0), .int p0, .int p1])).length) Slot.unset).toArray = ls at hl ⊢
  have hl : lv_has ls 3 [(0, .ref (h 0)), (1, .int p0), (2, .int p1)] := hl
  have hP : va_P D vwCl (zSA cI h len cd nm ks gs wt mi pl sk he nh ru bg la sd pl2 sk2 he2 nh2 ru2 bg2 la2 sd2 u0 l0 u1 l1 u2 l2 wy fi fl nu ik pr) s.heap := hP
  refine lv_aload_n hx hb dX6_song_0 rfl (lv_at hl 0 rfl) ?_
  refine va_get (D := D) (ci := 6) (v := .ref (h 4)) (C := RX6) (T := TX6) (N := 10) hx hb hts iX6 hown hK hP 0 rfl rfl 1 (by decide) k19 (fun _ h9 => h9) rfl dX6_song_1 ?_
  refine lv_iload_n hx hb dX6_song_4 rfl (lv_at hl 1 rfl) ?_
  refine vp_callSi (W.runV (As := [.int p0]) (rest := []) ⟨hx, hb, hml, hown, hts⟩ (c_X0_has l D cI (fun i => h (4 + i)) nm ks gs wt mi p0) (cwV 1 hts gX6_song_X0_has rfl rfl rfl (by decide +kernel) ⟨Nat.le_of_ble_eq_true rfl, Nat.le_of_ble_eq_true rfl⟩) (vz_pvR (va_recv hK hP (ci := 0) (q0 := 4) rfl rfl) hZ (hP.sub (ws' := (zBook cI (fun i => h (4 + i)) nm ks gs wt mi)) [4, 5, 6, 7, 8, 9, 10, 11, 12] rfl)) rfl rfl hl.1 rfl (lv_room (Nat.le_of_ble_eq_true rfl)) dX6_song_5 ⟨Nat.zero_le _, Nat.zero_le _⟩) (fun r_5 hr_5 => ?_)
  subst hr_5
  refine lv_if_ne (tgt := 14) hx hb dX6_song_8 (by decide) (fun c_8 => ?_) (fun c_8 => ?_)
  · skip
    replace c_8 := vz_b1 c_8
    refine lv_iload_n hx hb dX6_song_14 rfl (lv_at hl 2 rfl) ?_
    refine lv_if_lt (tgt := 24) hx hb dX6_song_15 (by decide) (fun c_15 => ?_) (fun c_15 => ?_)
    · skip
      refine lv_bipush (v := (-102)) hx hb dX6_song_24 (by decide) ?_
      exact W.iret hx hb hr (fun t ht hW => ⟨⟨_, (u1, l1), rfl, (by first | rfl | (simp only [so_r, if_pos c_15]; done) | (simp only [so_r, if_pos c_15]; rfl) | (simp only [so_r, c_8, c_15, ↓reduceIte, Bool.false_eq_true, if_true, if_false, reduceCtorEq, not_true_eq_false, not_false_eq_true, eq_self]; done) | (simp only [so_r, c_8, c_15, ↓reduceIte, Bool.false_eq_true, if_true, if_false, reduceCtorEq, not_true_eq_false, not_false_eq_true, eq_self]; rfl) | (simp [so_r, c_8, c_15]; done) | (simp only [so_r, if_pos c_15, c_8, ↓reduceIte, Bool.false_eq_true])), (by show va_P D vwCl (zSA cI h len cd nm ks gs wt mi pl sk he nh ru bg la sd pl2 sk2 he2 nh2 ru2 bg2 la2 sd2 u0 l0 u1 l1 u2 l2 wy fi fl nu ik pr) t.heap; rw [ht]; exact hP)⟩, hS.F ht⟩) hS.2.2 dX6_song_26
    · skip
      refine lv_iload_n hx hb dX6_song_18 rfl (lv_at hl 2 rfl) ?_
      refine lv_bipush (v := 10) hx hb dX6_song_19 (by decide) ?_
      refine lv_icmp_lt (tgt := 27) hx hb dX6_song_21 (by decide) (fun c_21 => ?_) (fun c_21 => ?_)
      · skip
        refine lv_aload_n hx hb dX6_song_27 rfl (lv_at hl 0 rfl) ?_
        refine lv_iload_n hx hb dX6_song_28 rfl (lv_at hl 1 rfl) ?_
        refine lv_iload_n hx hb dX6_song_29 rfl (lv_at hl 2 rfl) ?_
        have hPc := hP
        have hDc := hD
        have hFc : ∀ q, va_A (zSA cI h len cd nm ks gs wt mi pl sk he nh ru bg la sd pl2 sk2 he2 nh2 ru2 bg2 la2 sd2 u0 l0 u1 l1 u2 l2 wy fi fl nu ik pr) s.heap.size q → A q := vz_freeAll hD hS hA
        refine va_calli (va_runV (As := [.int p0, .int p1]) (rest := []) ⟨hx, hb, hml, hown, hts⟩ (c_X6_songFact l D cI h len cd nm ks gs wt mi pl sk he nh ru bg la sd pl2 sk2 he2 nh2 ru2 bg2 la2 sd2 u0 l0 u1 l1 u2 l2 wy fi fl nu ik pr s.heap.size p0 p1 (by first | assumption | omega) (hch _ c_8)) (cwV 2 hts gX6_song_X6_songFact rfl rfl rfl (by decide +kernel) ⟨Nat.le_of_ble_eq_true rfl, Nat.le_of_ble_eq_true rfl⟩) (vz_pvW (va_recv hK hP (ci := 6) (q0 := 0) rfl rfl) hZ hPc hDc) rfl rfl hl.1 rfl (lv_room (Nat.le_of_ble_eq_true rfl)) dX6_song_30 ⟨Nat.zero_le _, Nat.zero_le _⟩) hS (fun q _ h => hFc q h) hFc (fun r_30 u_30 t H_30 locs_30 ht hvm hw hB hz1 hk1 hS9 => ?_)
        rw [ht] at hB
        replace hP : va_P D vwCl (zSA cI h len cd nm ks gs wt mi pl sk he nh ru bg la sd pl2 sk2 he2 nh2 ru2 bg2 la2 sd2 u0 l0 u_30.1 u_30.2 u2 l2 wy fi fl nu ik pr) H_30 := hB
        replace hD : va_D A (zSA cI h len cd nm ks gs wt mi pl sk he nh ru bg la sd pl2 sk2 he2 nh2 ru2 bg2 la2 sd2 u0 l0 u_30.1 u_30.2 u2 l2 wy fi fl nu ik pr) := vz_same hD rfl
        replace hS := hS9
        clear hS9 hPc hDc hFc hB hk1 hz1
        subst hw
        exact W.iret hx hb hr (fun t ht hW => ⟨⟨_, (u_30.1, u_30.2), rfl, (by first | rfl | (simp only [so_r, if_neg c_15, if_pos c_21]; done) | (simp only [so_r, if_neg c_15, if_pos c_21]; rfl) | (simp only [so_r, c_8, c_15, c_21, ↓reduceIte, Bool.false_eq_true, if_true, if_false, reduceCtorEq, not_true_eq_false, not_false_eq_true, eq_self]; done) | (simp only [so_r, c_8, c_15, c_21, ↓reduceIte, Bool.false_eq_true, if_true, if_false, reduceCtorEq, not_true_eq_false, not_false_eq_true, eq_self]; rfl) | (simp [so_r, c_8, c_15, c_21]; done) | (simp only [so_r, if_neg c_15, if_pos c_21, c_8, ↓reduceIte, Bool.false_eq_true])), (by show va_P D vwCl (zSA cI h len cd nm ks gs wt mi pl sk he nh ru bg la sd pl2 sk2 he2 nh2 ru2 bg2 la2 sd2 u0 l0 u_30.1 u_30.2 u2 l2 wy fi fl nu ik pr) t.heap; rw [ht]; exact hP)⟩, hS.F ht⟩) hS.2.2 dX6_song_33
      · skip
        refine lv_bipush (v := (-102)) hx hb dX6_song_24 (by decide) ?_
        exact W.iret hx hb hr (fun t ht hW => ⟨⟨_, (u1, l1), rfl, (by first | rfl | (simp only [so_r, if_neg c_15, if_neg c_21]; done) | (simp only [so_r, if_neg c_15, if_neg c_21]; rfl) | (simp only [so_r, c_8, c_15, c_21, ↓reduceIte, Bool.false_eq_true, if_true, if_false, reduceCtorEq, not_true_eq_false, not_false_eq_true, eq_self]; done) | (simp only [so_r, c_8, c_15, c_21, ↓reduceIte, Bool.false_eq_true, if_true, if_false, reduceCtorEq, not_true_eq_false, not_false_eq_true, eq_self]; rfl) | (simp [so_r, c_8, c_15, c_21]; done) | (simp only [so_r, if_neg c_15, if_neg c_21, c_8, ↓reduceIte, Bool.false_eq_true])), (by show va_P D vwCl (zSA cI h len cd nm ks gs wt mi pl sk he nh ru bg la sd pl2 sk2 he2 nh2 ru2 bg2 la2 sd2 u0 l0 u1 l1 u2 l2 wy fi fl nu ik pr) t.heap; rw [ht]; exact hP)⟩, hS.F ht⟩) hS.2.2 dX6_song_26
  · skip
    replace c_8 := vz_b0 c_8
    refine lv_bipush (v := (-101)) hx hb dX6_song_11 (by decide) ?_
    exact W.iret hx hb hr (fun t ht hW => ⟨⟨_, (u1, l1), rfl, (by first | rfl | (simp only [so_r]; done) | (simp only [so_r]; rfl) | (simp only [so_r, c_8, ↓reduceIte, Bool.false_eq_true, if_true, if_false, reduceCtorEq, not_true_eq_false, not_false_eq_true, eq_self]; done) | (simp only [so_r, c_8, ↓reduceIte, Bool.false_eq_true, if_true, if_false, reduceCtorEq, not_true_eq_false, not_false_eq_true, eq_self]; rfl) | (simp [so_r, c_8]; done)), (by show va_P D vwCl (zSA cI h len cd nm ks gs wt mi pl sk he nh ru bg la sd pl2 sk2 he2 nh2 ru2 bg2 la2 sd2 u0 l0 u1 l1 u2 l2 wy fi fl nu ik pr) t.heap; rw [ht]; exact hP)⟩, hS.F ht⟩) hS.2.2 dX6_song_13
set_option maxHeartbeats 4000000 in
set_option maxRecDepth 100000 in
theorem c_X6_as (l : Launch) (D : va_G) (cI : ClassId) (h : Nat → Nat) (len : Nat) (cd : Nat → Int32) (nm : Nat) (ks : Nat → Int32) (gs : Nat → Int32) (wt : Nat → Int32) (mi : Nat → Int32) (pl : Nat → Int32) (sk : Nat → Int32) (he : Nat → Int32) (nh : Nat) (ru : Int32) (bg : Int32) (la : Int32) (sd : Bool) (pl2 : Nat → Int32) (sk2 : Nat → Int32) (he2 : Nat → Int32) (nh2 : Nat) (ru2 : Int32) (bg2 : Int32) (la2 : Int32) (sd2 : Bool) (u0 : Int64) (l0 : Int64) (u1 : Int64) (l1 : Int64) (u2 : Int64) (l2 : Int64) (wy : Nat → Int32) (fi : Nat → Int32) (fl : Int32) (nu : Int32) (ik : Bool) (pr : Nat) (p0 : Int32) (p1 : Int32) : Met l yX6_as wsX6_as ({ frames := 2, cells := 0, slots := 0, locals := 44 } : Room) (vz_ro D cI (zSA cI h len cd nm ks gs wt mi pl sk he nh ru bg la sd pl2 sk2 he2 nh2 ru2 bg2 la2 sd2 u0 l0 u1 l1 u2 l2 wy fi fl nu ik pr) [.ref (h 0), .int p0, .int p1]) (vp_Si (fun r => r = as_r nm ks p0 p1)) 0 0 (fun _ => False) := by
  refine Met.ofW (cc := cX6_as) (maxL := 3) (ret := (some .int)) (by decide) rfl ?_
  intro p e s m args below meth c s₁ B hml hv
  obtain ⟨rfl, hP, hZ⟩ := hv
  obtain ⟨hK, hN⟩ := id hZ
  have hx := B.exec
  have hb := B.bytes
  have hr := B.returns
  have hts := atoms_spec (ws := wsX6_as) B.pre
  have hown : s.vm.findClass RX6 = some m.cls := findClass_of_methodNamed B.named
  have hlocks := B.notSynchronized
  have k19 := hts (.fieldLink RX6 19 "SongsAgain" "book" "LSongsAgain$Book;") (List.mem_of_getElem? (i := 1) rfl)
  have iX6 : ∀ w ∈ u_ws RX6 TX6 10, w ∈ wsX6_as := vz_in (i := 19) (n := 10) rfl
  have hl := lv_entry ([.ref (h 0), .int p0, .int p1]) (n := 3) (Nat.le_of_ble_eq_true rfl)
  rw [lg_entry_eq]
  generalize (lg_sl ([.ref (h 0), .int p0, .int p1]) ++ List.replicate (3 - (lg_sl ([.ref (h 0), .int p0, .int p1])).length) Slot.unset).toArray = ls at hl ⊢
  have hl : lv_has ls 3 [(0, .ref (h 0)), (1, .int p0), (2, .int p1)] := hl
  refine lv_aload_n hx hb dX6_as_0 rfl (lv_at hl 0 rfl) ?_
  refine va_get (D := D) (ci := 6) (v := .ref (h 4)) (C := RX6) (T := TX6) (N := 10) hx hb hts iX6 hown hK hP 0 rfl rfl 1 (by decide) k19 (fun _ h9 => h9) rfl dX6_as_1 ?_
  refine lv_iload_n hx hb dX6_as_4 rfl (lv_at hl 1 rfl) ?_
  refine vp_callSi (W.runV (As := [.int p0]) (rest := []) ⟨hx, hb, hml, hown, hts⟩ (c_X0_has l D cI (fun i => h (4 + i)) nm ks gs wt mi p0) (cwV 1 hts gX6_as_X0_has rfl rfl rfl (by decide +kernel) ⟨Nat.le_of_ble_eq_true rfl, Nat.le_of_ble_eq_true rfl⟩) (vz_pvR (va_recv hK hP (ci := 0) (q0 := 4) rfl rfl) hZ (hP.sub (ws' := (zBook cI (fun i => h (4 + i)) nm ks gs wt mi)) [4, 5, 6, 7, 8, 9, 10, 11, 12] rfl)) rfl rfl hl.1 rfl (lv_room (Nat.le_of_ble_eq_true rfl)) dX6_as_5 ⟨Nat.zero_le _, Nat.zero_le _⟩) (fun r_5 hr_5 => ?_)
  subst hr_5
  refine lv_if_ne (tgt := 14) hx hb dX6_as_8 (by decide) (fun c_8 => ?_) (fun c_8 => ?_)
  · skip
    replace c_8 := vz_b1 c_8
    refine lv_iload_n hx hb dX6_as_14 rfl (lv_at hl 2 rfl) ?_
    refine lv_if_lt (tgt := 23) hx hb dX6_as_15 (by decide) (fun c_15 => ?_) (fun c_15 => ?_)
    · skip
      refine lv_bipush (v := (-102)) hx hb dX6_as_23 (by decide) ?_
      exact W.iret hx hb hr (fun t ht hW => ⟨_, rfl, (by first | rfl | (simp only [as_r, if_pos c_15]; done) | (simp only [as_r, if_pos c_15]; rfl) | (simp only [as_r, c_8, c_15, ↓reduceIte, Bool.false_eq_true, if_true, if_false, reduceCtorEq, not_true_eq_false, not_false_eq_true, eq_self]; done) | (simp only [as_r, c_8, c_15, ↓reduceIte, Bool.false_eq_true, if_true, if_false, reduceCtorEq, not_true_eq_false, not_false_eq_true, eq_self]; rfl) | (simp [as_r, c_8, c_15]; done) | (simp only [as_r, if_pos c_15, c_8, ↓reduceIte, Bool.false_eq_true])), ht⟩) (fun q h => absurd h List.not_mem_nil) dX6_as_25
    · skip
      refine lv_iload_n hx hb dX6_as_18 rfl (lv_at hl 2 rfl) ?_
      refine lv_iconst (v := 5) hx hb dX6_as_19 (by decide) ?_
      refine lv_icmp_lt (tgt := 26) hx hb dX6_as_20 (by decide) (fun c_20 => ?_) (fun c_20 => ?_)
      · skip
        refine lv_aload_n hx hb dX6_as_26 rfl (lv_at hl 0 rfl) ?_
        refine va_get (D := D) (ci := 6) (v := .ref (h 4)) (C := RX6) (T := TX6) (N := 10) hx hb hts iX6 hown hK hP 0 rfl rfl 1 (by decide) k19 (fun _ h9 => h9) rfl dX6_as_27 ?_
        refine lv_iload_n hx hb dX6_as_30 rfl (lv_at hl 1 rfl) ?_
        refine lv_iload_n hx hb dX6_as_31 rfl (lv_at hl 2 rfl) ?_
        refine vp_callSi (W.runV (As := [.int p0, .int p1]) (rest := []) ⟨hx, hb, hml, hown, hts⟩ (c_X0_isOfKind l D cI (fun i => h (4 + i)) nm ks gs wt mi p0 p1) (cwV 2 hts gX6_as_X0_isOfKind rfl rfl rfl (by decide +kernel) ⟨Nat.le_of_ble_eq_true rfl, Nat.le_of_ble_eq_true rfl⟩) (vz_pvR (va_recv hK hP (ci := 0) (q0 := 4) rfl rfl) hZ (hP.sub (ws' := (zBook cI (fun i => h (4 + i)) nm ks gs wt mi)) [4, 5, 6, 7, 8, 9, 10, 11, 12] rfl)) rfl rfl hl.1 rfl (lv_room (Nat.le_of_ble_eq_true rfl)) dX6_as_32 ⟨Nat.zero_le _, Nat.zero_le _⟩) (fun r_32 hr_32 => ?_)
        subst hr_32
        refine lv_if_eq (tgt := 42) hx hb dX6_as_35 (by decide) (fun c_35 => ?_) (fun c_35 => ?_)
        · skip
          replace c_35 := vz_b0 c_35
          refine lv_iconst (v := (-1)) hx hb dX6_as_42 (by decide) ?_
          exact W.iret hx hb hr (fun t ht hW => ⟨_, rfl, (by first | rfl | (simp only [as_r, if_neg c_15, if_pos c_20]; done) | (simp only [as_r, if_neg c_15, if_pos c_20]; rfl) | (simp only [as_r, c_8, c_15, c_20, c_35, ↓reduceIte, Bool.false_eq_true, if_true, if_false, reduceCtorEq, not_true_eq_false, not_false_eq_true, eq_self]; done) | (simp only [as_r, c_8, c_15, c_20, c_35, ↓reduceIte, Bool.false_eq_true, if_true, if_false, reduceCtorEq, not_true_eq_false, not_false_eq_true, eq_self]; rfl) | (simp [as_r, c_8, c_15, c_20, c_35]; done) | (simp only [as_r, if_neg c_15, if_pos c_20, c_8, c_35, ↓reduceIte, Bool.false_eq_true])), ht⟩) (fun q h => absurd h List.not_mem_nil) dX6_as_43
        · skip
          replace c_35 := vz_b1 c_35
          refine lv_iload_n hx hb dX6_as_38 rfl (lv_at hl 1 rfl) ?_
          refine lv_goto (tgt := 43) hx hb dX6_as_39 (by decide) ?_
          exact W.iret hx hb hr (fun t ht hW => ⟨_, rfl, (by first | rfl | (simp only [as_r, if_neg c_15, if_pos c_20]; done) | (simp only [as_r, if_neg c_15, if_pos c_20]; rfl) | (simp only [as_r, c_8, c_15, c_20, c_35, ↓reduceIte, Bool.false_eq_true, if_true, if_false, reduceCtorEq, not_true_eq_false, not_false_eq_true, eq_self]; done) | (simp only [as_r, c_8, c_15, c_20, c_35, ↓reduceIte, Bool.false_eq_true, if_true, if_false, reduceCtorEq, not_true_eq_false, not_false_eq_true, eq_self]; rfl) | (simp [as_r, c_8, c_15, c_20, c_35]; done) | (simp only [as_r, if_neg c_15, if_pos c_20, c_8, c_35, ↓reduceIte, Bool.false_eq_true])), ht⟩) (fun q h => absurd h List.not_mem_nil) dX6_as_43
      · skip
        refine lv_bipush (v := (-102)) hx hb dX6_as_23 (by decide) ?_
        exact W.iret hx hb hr (fun t ht hW => ⟨_, rfl, (by first | rfl | (simp only [as_r, if_neg c_15, if_neg c_20]; done) | (simp only [as_r, if_neg c_15, if_neg c_20]; rfl) | (simp only [as_r, c_8, c_15, c_20, ↓reduceIte, Bool.false_eq_true, if_true, if_false, reduceCtorEq, not_true_eq_false, not_false_eq_true, eq_self]; done) | (simp only [as_r, c_8, c_15, c_20, ↓reduceIte, Bool.false_eq_true, if_true, if_false, reduceCtorEq, not_true_eq_false, not_false_eq_true, eq_self]; rfl) | (simp [as_r, c_8, c_15, c_20]; done) | (simp only [as_r, if_neg c_15, if_neg c_20, c_8, ↓reduceIte, Bool.false_eq_true])), ht⟩) (fun q h => absurd h List.not_mem_nil) dX6_as_25
  · skip
    replace c_8 := vz_b0 c_8
    refine lv_bipush (v := (-101)) hx hb dX6_as_11 (by decide) ?_
    exact W.iret hx hb hr (fun t ht hW => ⟨_, rfl, (by first | rfl | (simp only [as_r]; done) | (simp only [as_r]; rfl) | (simp only [as_r, c_8, ↓reduceIte, Bool.false_eq_true, if_true, if_false, reduceCtorEq, not_true_eq_false, not_false_eq_true, eq_self]; done) | (simp only [as_r, c_8, ↓reduceIte, Bool.false_eq_true, if_true, if_false, reduceCtorEq, not_true_eq_false, not_false_eq_true, eq_self]; rfl) | (simp [as_r, c_8]; done)), ht⟩) (fun q h => absurd h List.not_mem_nil) dX6_as_13
set_option maxHeartbeats 4000000 in
set_option maxRecDepth 100000 in
theorem c_X6_twice (l : Launch) (D : va_G) (cI : ClassId) (h : Nat → Nat) (len : Nat) (cd : Nat → Int32) (nm : Nat) (ks : Nat → Int32) (gs : Nat → Int32) (wt : Nat → Int32) (mi : Nat → Int32) (pl : Nat → Int32) (sk : Nat → Int32) (he : Nat → Int32) (nh : Nat) (ru : Int32) (bg : Int32) (la : Int32) (sd : Bool) (pl2 : Nat → Int32) (sk2 : Nat → Int32) (he2 : Nat → Int32) (nh2 : Nat) (ru2 : Int32) (bg2 : Int32) (la2 : Int32) (sd2 : Bool) (u0 : Int64) (l0 : Int64) (u1 : Int64) (l1 : Int64) (u2 : Int64) (l2 : Int64) (wy : Nat → Int32) (fi : Nat → Int32) (fl : Int32) (nu : Int32) (ik : Bool) (pr : Nat) (sz : Nat) (p0 : Int32) (p1 : Int32) (hnm : nm ≤ 6) : Met l yX6_twice wsX6_twice ({ frames := 9, cells := 0, slots := 0, locals := 285 } : Room) (vz_rw D cI (zSA cI h len cd nm ks gs wt mi pl sk he nh ru bg la sd pl2 sk2 he2 nh2 ru2 bg2 la2 sd2 u0 l0 u1 l1 u2 l2 wy fi fl nu ik pr) sz [.ref (h 0), .int p0, .int p1]) (va_Ql (fun r (_ : Int64 × Int64) => r = ti_r nm ks gs wt sk ru bg la p0 p1) (fun (u : Int64 × Int64) (t : State) => va_P D vwCl (zSA cI h len cd nm ks gs wt mi pl sk he nh ru bg la sd pl2 sk2 he2 nh2 ru2 bg2 la2 sd2 u.1 u.2 u1 l1 u2 l2 wy fi fl nu ik pr) t.heap) (va_A (zSA cI h len cd nm ks gs wt mi pl sk he nh ru bg la sd pl2 sk2 he2 nh2 ru2 bg2 la2 sd2 u0 l0 u1 l1 u2 l2 wy fi fl nu ik pr) sz)) 0 0 (va_A (zSA cI h len cd nm ks gs wt mi pl sk he nh ru bg la sd pl2 sk2 he2 nh2 ru2 bg2 la2 sd2 u0 l0 u1 l1 u2 l2 wy fi fl nu ik pr) sz) := by
  refine Met.ofW (cc := cX6_twice) (maxL := 3) (ret := (some .long)) (by decide) rfl ?_
  intro p e s m args below meth c s₁ B hml hv
  obtain ⟨rfl, hsz, hP, hZ, hD0⟩ := hv
  obtain ⟨hK, hN⟩ := id hZ
  have hx := B.exec
  have hb := B.bytes
  have hr := B.returns
  have hts := atoms_spec (ws := wsX6_twice) B.pre
  have hown : s.vm.findClass RX6 = some m.cls := findClass_of_methodNamed B.named
  have hlocks := B.notSynchronized
  subst hsz
  have hD := hD0.self (sz := s.heap.size)
  generalize hAe : va_A (zSA cI h len cd nm ks gs wt mi pl sk he nh ru bg la sd pl2 sk2 he2 nh2 ru2 bg2 la2 sd2 u0 l0 u1 l1 u2 l2 wy fi fl nu ik pr) s.heap.size = A at hD ⊢
  have hA : ∀ q : Nat, s.heap.size ≤ q → A q := fun q h => by rw [← hAe]; exact Or.inr h
  have hS : va_S A s.heap s.heap [] := va_S.rf
  have k36 := hts (.fieldLink RX6 36 "SongsAgain" "sum" "LSongsAgain$Fraction;") (List.mem_of_getElem? (i := 3) rfl)
  have k160 : (Cond.fieldLinkNest "SongsAgain" 160 "SongsAgain$Fraction" "above" "J" "SongsAgain").before _ s = true := va_Nw.use (A := ([.ref (h 0), .int p0, .int p1] : List Value).toArray) rfl (hN.1 ("SongsAgain", 160, "SongsAgain$Fraction", "above", "J") (List.mem_of_getElem? (i := 17) rfl))
  have k164 : (Cond.fieldLinkNest "SongsAgain" 164 "SongsAgain$Fraction" "below" "J" "SongsAgain").before _ s = true := va_Nw.use (A := ([.ref (h 0), .int p0, .int p1] : List Value).toArray) rfl (hN.1 ("SongsAgain", 164, "SongsAgain$Fraction", "below", "J") (List.mem_of_getElem? (i := 18) rfl))
  have iX1 : ∀ w ∈ u_ws RX1 TX1 2, w ∈ wsX6_twice := vz_in (i := 99) (n := 2) rfl
  have iX6 : ∀ w ∈ u_ws RX6 TX6 10, w ∈ wsX6_twice := vz_in (i := 89) (n := 10) rfl
  have hl := lv_entry ([.ref (h 0), .int p0, .int p1]) (n := 3) (Nat.le_of_ble_eq_true rfl)
  rw [lg_entry_eq]
  generalize (lg_sl ([.ref (h 0), .int p0, .int p1]) ++ List.replicate (3 - (lg_sl ([.ref (h 0), .int p0, .int p1])).length) Slot.unset).toArray = ls at hl ⊢
  have hl : lv_has ls 3 [(0, .ref (h 0)), (1, .int p0), (2, .int p1)] := hl
  have hP : va_P D vwCl (zSA cI h len cd nm ks gs wt mi pl sk he nh ru bg la sd pl2 sk2 he2 nh2 ru2 bg2 la2 sd2 u0 l0 u1 l1 u2 l2 wy fi fl nu ik pr) s.heap := hP
  refine lv_iload_n hx hb dX6_twice_0 rfl (lv_at hl 1 rfl) ?_
  refine lv_iconst (v := 2) hx hb dX6_twice_1 (by decide) ?_
  refine lv_icmp_lt (tgt := 19) hx hb dX6_twice_2 (by decide) (fun c_2 => ?_) (fun c_2 => ?_)
  · skip
    refine lv_ldc2 (v := (-102)) hx hb hown (hts (.constantLong RX6 153 (-102)) (List.mem_of_getElem? (i := 1) rfl)) dX6_twice_19 ?_
    exact W.lret hx hb hr (fun t ht hW => ⟨⟨_, (u0, l0), rfl, (by first | rfl | (simp only [ti_r, if_pos c_2]; done) | (simp only [ti_r, if_pos c_2]; rfl) | (simp only [ti_r, c_2, ↓reduceIte, Bool.false_eq_true, if_true, if_false, reduceCtorEq, not_true_eq_false, not_false_eq_true, eq_self]; done) | (simp only [ti_r, c_2, ↓reduceIte, Bool.false_eq_true, if_true, if_false, reduceCtorEq, not_true_eq_false, not_false_eq_true, eq_self]; rfl) | (simp [ti_r, c_2]; done)), (by show va_P D vwCl (zSA cI h len cd nm ks gs wt mi pl sk he nh ru bg la sd pl2 sk2 he2 nh2 ru2 bg2 la2 sd2 u0 l0 u1 l1 u2 l2 wy fi fl nu ik pr) t.heap; rw [ht]; exact hP)⟩, hS.F ht⟩) hS.2.2 dX6_twice_22
  · skip
    refine lv_iload_n hx hb dX6_twice_5 rfl (lv_at hl 1 rfl) ?_
    refine lv_iconst (v := 3) hx hb dX6_twice_6 (by decide) ?_
    refine lv_icmp_gt (tgt := 19) hx hb dX6_twice_7 (by decide) (fun c_7 => ?_) (fun c_7 => ?_)
    · skip
      refine lv_ldc2 (v := (-102)) hx hb hown (hts (.constantLong RX6 153 (-102)) (List.mem_of_getElem? (i := 1) rfl)) dX6_twice_19 ?_
      exact W.lret hx hb hr (fun t ht hW => ⟨⟨_, (u0, l0), rfl, (by first | rfl | (simp only [ti_r, if_neg c_2, if_pos c_7]; done) | (simp only [ti_r, if_neg c_2, if_pos c_7]; rfl) | (simp only [ti_r, c_2, c_7, ↓reduceIte, Bool.false_eq_true, if_true, if_false, reduceCtorEq, not_true_eq_false, not_false_eq_true, eq_self]; done) | (simp only [ti_r, c_2, c_7, ↓reduceIte, Bool.false_eq_true, if_true, if_false, reduceCtorEq, not_true_eq_false, not_false_eq_true, eq_self]; rfl) | (simp [ti_r, c_2, c_7]; done)), (by show va_P D vwCl (zSA cI h len cd nm ks gs wt mi pl sk he nh ru bg la sd pl2 sk2 he2 nh2 ru2 bg2 la2 sd2 u0 l0 u1 l1 u2 l2 wy fi fl nu ik pr) t.heap; rw [ht]; exact hP)⟩, hS.F ht⟩) hS.2.2 dX6_twice_22
    · skip
      refine lv_iload_n hx hb dX6_twice_10 rfl (lv_at hl 2 rfl) ?_
      refine lv_if_lt (tgt := 19) hx hb dX6_twice_11 (by decide) (fun c_11 => ?_) (fun c_11 => ?_)
      · skip
        refine lv_ldc2 (v := (-102)) hx hb hown (hts (.constantLong RX6 153 (-102)) (List.mem_of_getElem? (i := 1) rfl)) dX6_twice_19 ?_
        exact W.lret hx hb hr (fun t ht hW => ⟨⟨_, (u0, l0), rfl, (by first | rfl | (simp only [ti_r, if_neg c_2, if_neg c_7, if_pos c_11]; done) | (simp only [ti_r, if_neg c_2, if_neg c_7, if_pos c_11]; rfl) | (simp only [ti_r, c_2, c_7, c_11, ↓reduceIte, Bool.false_eq_true, if_true, if_false, reduceCtorEq, not_true_eq_false, not_false_eq_true, eq_self]; done) | (simp only [ti_r, c_2, c_7, c_11, ↓reduceIte, Bool.false_eq_true, if_true, if_false, reduceCtorEq, not_true_eq_false, not_false_eq_true, eq_self]; rfl) | (simp [ti_r, c_2, c_7, c_11]; done)), (by show va_P D vwCl (zSA cI h len cd nm ks gs wt mi pl sk he nh ru bg la sd pl2 sk2 he2 nh2 ru2 bg2 la2 sd2 u0 l0 u1 l1 u2 l2 wy fi fl nu ik pr) t.heap; rw [ht]; exact hP)⟩, hS.F ht⟩) hS.2.2 dX6_twice_22
      · skip
        refine lv_iload_n hx hb dX6_twice_14 rfl (lv_at hl 2 rfl) ?_
        refine lv_iconst (v := 1) hx hb dX6_twice_15 (by decide) ?_
        refine lv_icmp_le (tgt := 23) hx hb dX6_twice_16 (by decide) (fun c_16 => ?_) (fun c_16 => ?_)
        · skip
          refine lv_aload_n hx hb dX6_twice_23 rfl (lv_at hl 0 rfl) ?_
          refine vp_callSi (W.runV (As := []) (rest := []) ⟨hx, hb, hml, hown, hts⟩ (c_X6_noPlayer l D cI h len cd nm ks gs wt mi pl sk he nh ru bg la sd pl2 sk2 he2 nh2 ru2 bg2 la2 sd2 u0 l0 u1 l1 u2 l2 wy fi fl nu ik pr (by first | assumption | omega)) (cwV 0 hts gX6_twice_X6_noPlayer rfl rfl rfl (by decide +kernel) ⟨Nat.le_of_ble_eq_true rfl, Nat.le_of_ble_eq_true rfl⟩) (vz_pvR (va_recv hK hP (ci := 6) (q0 := 0) rfl rfl) hZ hP) rfl rfl hl.1 rfl (lv_room (Nat.le_of_ble_eq_true rfl)) dX6_twice_24 ⟨Nat.zero_le _, Nat.zero_le _⟩) (fun r_24 hr_24 => ?_)
          subst hr_24
          refine lv_if_eq (tgt := 34) hx hb dX6_twice_27 (by decide) (fun c_27 => ?_) (fun c_27 => ?_)
          · skip
            replace c_27 := vz_b0 c_27
            refine lv_aload_n hx hb dX6_twice_34 rfl (lv_at hl 0 rfl) ?_
            refine lv_iload_n hx hb dX6_twice_35 rfl (lv_at hl 1 rfl) ?_
            refine W.eq (congrArg (fun z => F0 m 36 ls (.int z :: [.ref (h 0)])) ((ti_e c_2 c_7).symm)) ?_
            have hPc := hP
            have hDc := hD
            have hFc : ∀ q, va_A (zSA cI h len cd nm ks gs wt mi pl sk he nh ru bg la sd pl2 sk2 he2 nh2 ru2 bg2 la2 sd2 u0 l0 u1 l1 u2 l2 wy fi fl nu ik pr) s.heap.size q → A q := vz_freeAll hD hS hA
            refine va_callv (va_runV (As := [.int (nI (ti_k p0))]) (rest := []) ⟨hx, hb, hml, hown, hts⟩ (c_X6_reckonTwice l D cI h len cd nm ks gs wt mi pl sk he nh ru bg la sd pl2 sk2 he2 nh2 ru2 bg2 la2 sd2 u0 l0 u1 l1 u2 l2 wy fi fl nu ik pr s.heap.size (ti_k p0) (by first | assumption | omega) (ti_3 _)) (cwV 1 hts gX6_twice_X6_reckonTwice rfl rfl rfl (by decide +kernel) ⟨Nat.le_of_ble_eq_true rfl, Nat.le_of_ble_eq_true rfl⟩) (vz_pvW (va_recv hK hP (ci := 6) (q0 := 0) rfl rfl) hZ hPc hDc) rfl rfl hl.1 rfl (lv_room (Nat.le_of_ble_eq_true rfl)) dX6_twice_36 ⟨Nat.zero_le _, Nat.zero_le _⟩) hS (fun q _ h => hFc q h) hFc (fun u_36 t H_36 locs_36 ht hvm hw hB hz1 hk1 hS9 => ?_)
            rw [ht] at hB
            replace hP : va_P D vwCl (zSA cI h len cd nm ks gs wt mi pl sk he nh ru bg la sd pl2 sk2 he2 nh2 ru2 bg2 la2 sd2 ((tw nm ks gs wt sk ru (ti_k p0) bg la 0 1 1 (0, 1)).1) ((tw nm ks gs wt sk ru (ti_k p0) bg la 0 1 1 (0, 1)).2) u1 l1 u2 l2 wy fi fl nu ik pr) H_36 := hB
            replace hD : va_D A (zSA cI h len cd nm ks gs wt mi pl sk he nh ru bg la sd pl2 sk2 he2 nh2 ru2 bg2 la2 sd2 ((tw nm ks gs wt sk ru (ti_k p0) bg la 0 1 1 (0, 1)).1) ((tw nm ks gs wt sk ru (ti_k p0) bg la 0 1 1 (0, 1)).2) u1 l1 u2 l2 wy fi fl nu ik pr) := vz_same hD rfl
            replace hS := hS9
            clear hS9 hPc hDc hFc hB hk1 hz1
            refine lv_iload_n hx hb dX6_twice_39 rfl (lv_at hl 2 rfl) ?_
            refine lv_if_ne (tgt := 53) hx hb dX6_twice_40 (by decide) (fun c_40 => ?_) (fun c_40 => ?_)
            · skip
              refine lv_aload_n hx hb dX6_twice_53 rfl (lv_at hl 0 rfl) ?_
              refine va_get (D := D) (ci := 6) (v := .ref (h 27)) (C := RX6) (T := TX6) (N := 10) hx hb hts iX6 hown hK hP 0 rfl rfl 4 (by decide) k36 (fun _ h9 => h9) rfl dX6_twice_54 ?_
              refine va_getN (D := D) (ci := 1) (v := .long ((tw nm ks gs wt sk ru (ti_k p0) bg la 0 1 1 (0, 1)).2)) (C := RX1) (T := TX1) (N := 2) hx hb hts iX1 hown hK hP 27 rfl rfl 1 (by decide) k164 (fun _ h9 => h9) rfl dX6_twice_57 ?_
              exact W.lret hx hb hr (fun t ht hW => ⟨⟨_, ((tw nm ks gs wt sk ru (ti_k p0) bg la 0 1 1 (0, 1)).1, (tw nm ks gs wt sk ru (ti_k p0) bg la 0 1 1 (0, 1)).2), rfl, (by first | rfl | (simp only [ti_r, if_neg c_2, if_neg c_7, if_neg c_11, if_pos c_16, if_neg c_40]; done) | (simp only [ti_r, if_neg c_2, if_neg c_7, if_neg c_11, if_pos c_16, if_neg c_40]; rfl) | (simp only [ti_r, c_2, c_7, c_11, c_16, c_27, c_40, ↓reduceIte, Bool.false_eq_true, if_true, if_false, reduceCtorEq, not_true_eq_false, not_false_eq_true, eq_self]; done) | (simp only [ti_r, c_2, c_7, c_11, c_16, c_27, c_40, ↓reduceIte, Bool.false_eq_true, if_true, if_false, reduceCtorEq, not_true_eq_false, not_false_eq_true, eq_self]; rfl) | (simp [ti_r, c_2, c_7, c_11, c_16, c_27, c_40]; done) | (simp only [ti_r, if_neg c_2, if_neg c_7, if_neg c_11, if_pos c_16, if_neg c_40, c_27, ↓reduceIte, Bool.false_eq_true])), (by show va_P D vwCl (zSA cI h len cd nm ks gs wt mi pl sk he nh ru bg la sd pl2 sk2 he2 nh2 ru2 bg2 la2 sd2 ((tw nm ks gs wt sk ru (ti_k p0) bg la 0 1 1 (0, 1)).1) ((tw nm ks gs wt sk ru (ti_k p0) bg la 0 1 1 (0, 1)).2) u1 l1 u2 l2 wy fi fl nu ik pr) t.heap; rw [ht]; exact hP)⟩, hS.F ht⟩) hS.2.2 dX6_twice_60
            · skip
              refine lv_aload_n hx hb dX6_twice_43 rfl (lv_at hl 0 rfl) ?_
              refine va_get (D := D) (ci := 6) (v := .ref (h 27)) (C := RX6) (T := TX6) (N := 10) hx hb hts iX6 hown hK hP 0 rfl rfl 4 (by decide) k36 (fun _ h9 => h9) rfl dX6_twice_44 ?_
              refine va_getN (D := D) (ci := 1) (v := .long ((tw nm ks gs wt sk ru (ti_k p0) bg la 0 1 1 (0, 1)).1)) (C := RX1) (T := TX1) (N := 2) hx hb hts iX1 hown hK hP 27 rfl rfl 0 (by decide) k160 (fun _ h9 => h9) rfl dX6_twice_47 ?_
              refine lv_goto (tgt := 60) hx hb dX6_twice_50 (by decide) ?_
              exact W.lret hx hb hr (fun t ht hW => ⟨⟨_, ((tw nm ks gs wt sk ru (ti_k p0) bg la 0 1 1 (0, 1)).1, (tw nm ks gs wt sk ru (ti_k p0) bg la 0 1 1 (0, 1)).2), rfl, (by first | rfl | (simp only [ti_r, if_neg c_2, if_neg c_7, if_neg c_11, if_pos c_16, if_pos c_40]; done) | (simp only [ti_r, if_neg c_2, if_neg c_7, if_neg c_11, if_pos c_16, if_pos c_40]; rfl) | (simp only [ti_r, c_2, c_7, c_11, c_16, c_27, c_40, ↓reduceIte, Bool.false_eq_true, if_true, if_false, reduceCtorEq, not_true_eq_false, not_false_eq_true, eq_self]; done) | (simp only [ti_r, c_2, c_7, c_11, c_16, c_27, c_40, ↓reduceIte, Bool.false_eq_true, if_true, if_false, reduceCtorEq, not_true_eq_false, not_false_eq_true, eq_self]; rfl) | (simp [ti_r, c_2, c_7, c_11, c_16, c_27, c_40]; done) | (simp only [ti_r, if_neg c_2, if_neg c_7, if_neg c_11, if_pos c_16, if_pos c_40, c_27, ↓reduceIte, Bool.false_eq_true])), (by show va_P D vwCl (zSA cI h len cd nm ks gs wt mi pl sk he nh ru bg la sd pl2 sk2 he2 nh2 ru2 bg2 la2 sd2 ((tw nm ks gs wt sk ru (ti_k p0) bg la 0 1 1 (0, 1)).1) ((tw nm ks gs wt sk ru (ti_k p0) bg la 0 1 1 (0, 1)).2) u1 l1 u2 l2 wy fi fl nu ik pr) t.heap; rw [ht]; exact hP)⟩, hS.F ht⟩) hS.2.2 dX6_twice_60
          · skip
            replace c_27 := vz_b1 c_27
            refine lv_ldc2 (v := (-103)) hx hb hown (hts (.constantLong RX6 155 (-103)) (List.mem_of_getElem? (i := 2) rfl)) dX6_twice_30 ?_
            exact W.lret hx hb hr (fun t ht hW => ⟨⟨_, (u0, l0), rfl, (by first | rfl | (simp only [ti_r, if_neg c_2, if_neg c_7, if_neg c_11, if_pos c_16]; done) | (simp only [ti_r, if_neg c_2, if_neg c_7, if_neg c_11, if_pos c_16]; rfl) | (simp only [ti_r, c_2, c_7, c_11, c_16, c_27, ↓reduceIte, Bool.false_eq_true, if_true, if_false, reduceCtorEq, not_true_eq_false, not_false_eq_true, eq_self]; done) | (simp only [ti_r, c_2, c_7, c_11, c_16, c_27, ↓reduceIte, Bool.false_eq_true, if_true, if_false, reduceCtorEq, not_true_eq_false, not_false_eq_true, eq_self]; rfl) | (simp [ti_r, c_2, c_7, c_11, c_16, c_27]; done) | (simp only [ti_r, if_neg c_2, if_neg c_7, if_neg c_11, if_pos c_16, c_27, ↓reduceIte, Bool.false_eq_true])), (by show va_P D vwCl (zSA cI h len cd nm ks gs wt mi pl sk he nh ru bg la sd pl2 sk2 he2 nh2 ru2 bg2 la2 sd2 u0 l0 u1 l1 u2 l2 wy fi fl nu ik pr) t.heap; rw [ht]; exact hP)⟩, hS.F ht⟩) hS.2.2 dX6_twice_33
        · skip
          refine lv_ldc2 (v := (-102)) hx hb hown (hts (.constantLong RX6 153 (-102)) (List.mem_of_getElem? (i := 1) rfl)) dX6_twice_19 ?_
          exact W.lret hx hb hr (fun t ht hW => ⟨⟨_, (u0, l0), rfl, (by first | rfl | (simp only [ti_r, if_neg c_2, if_neg c_7, if_neg c_11, if_neg c_16]; done) | (simp only [ti_r, if_neg c_2, if_neg c_7, if_neg c_11, if_neg c_16]; rfl) | (simp only [ti_r, c_2, c_7, c_11, c_16, ↓reduceIte, Bool.false_eq_true, if_true, if_false, reduceCtorEq, not_true_eq_false, not_false_eq_true, eq_self]; done) | (simp only [ti_r, c_2, c_7, c_11, c_16, ↓reduceIte, Bool.false_eq_true, if_true, if_false, reduceCtorEq, not_true_eq_false, not_false_eq_true, eq_self]; rfl) | (simp [ti_r, c_2, c_7, c_11, c_16]; done)), (by show va_P D vwCl (zSA cI h len cd nm ks gs wt mi pl sk he nh ru bg la sd pl2 sk2 he2 nh2 ru2 bg2 la2 sd2 u0 l0 u1 l1 u2 l2 wy fi fl nu ik pr) t.heap; rw [ht]; exact hP)⟩, hS.F ht⟩) hS.2.2 dX6_twice_22
set_option maxHeartbeats 4000000 in
set_option maxRecDepth 100000 in
theorem c_X6_party (l : Launch) (D : va_G) (cI : ClassId) (h : Nat → Nat) (len : Nat) (cd : Nat → Int32) (nm : Nat) (ks : Nat → Int32) (gs : Nat → Int32) (wt : Nat → Int32) (mi : Nat → Int32) (pl : Nat → Int32) (sk : Nat → Int32) (he : Nat → Int32) (nh : Nat) (ru : Int32) (bg : Int32) (la : Int32) (sd : Bool) (pl2 : Nat → Int32) (sk2 : Nat → Int32) (he2 : Nat → Int32) (nh2 : Nat) (ru2 : Int32) (bg2 : Int32) (la2 : Int32) (sd2 : Bool) (u0 : Int64) (l0 : Int64) (u1 : Int64) (l1 : Int64) (u2 : Int64) (l2 : Int64) (wy : Nat → Int32) (fi : Nat → Int32) (fl : Int32) (nu : Int32) (ik : Bool) (pr : Nat) (sz : Nat) (p0 : Int32) (p1 : Int32) (hnm : nm ≤ 6) : Met l yX6_party wsX6_party ({ frames := 13, cells := 0, slots := 0, locals := 302 } : Room) (vz_rw D cI (zSA cI h len cd nm ks gs wt mi pl sk he nh ru bg la sd pl2 sk2 he2 nh2 ru2 bg2 la2 sd2 u0 l0 u1 l1 u2 l2 wy fi fl nu ik pr) sz [.ref (h 0), .int p0, .int p1]) (va_Qi (fun r (_ : (Nat → Int32) × (Nat → Int32) × Int32 × Int32) => r = pa_r nm gs wy fi p0 p1) (fun (u : (Nat → Int32) × (Nat → Int32) × Int32 × Int32) (t : State) => va_P D vwCl (zSA cI h len cd nm ks gs wt mi pl sk he nh ru bg la sd pl2 sk2 he2 nh2 ru2 bg2 la2 sd2 u0 l0 u1 l1 u2 l2 u.1 u.2.1 u.2.2.1 u.2.2.2 ik pr) t.heap) (va_A (zSA cI h len cd nm ks gs wt mi pl sk he nh ru bg la sd pl2 sk2 he2 nh2 ru2 bg2 la2 sd2 u0 l0 u1 l1 u2 l2 wy fi fl nu ik pr) sz)) 0 0 (va_A (zSA cI h len cd nm ks gs wt mi pl sk he nh ru bg la sd pl2 sk2 he2 nh2 ru2 bg2 la2 sd2 u0 l0 u1 l1 u2 l2 wy fi fl nu ik pr) sz) := by
  refine Met.ofW (cc := cX6_party) (maxL := 3) (ret := (some .int)) (by decide) rfl ?_
  intro p e s m args below meth c s₁ B hml hv
  obtain ⟨rfl, hsz, hP, hZ, hD0⟩ := hv
  obtain ⟨hK, hN⟩ := id hZ
  have hx := B.exec
  have hb := B.bytes
  have hr := B.returns
  have hts := atoms_spec (ws := wsX6_party) B.pre
  have hown : s.vm.findClass RX6 = some m.cls := findClass_of_methodNamed B.named
  have hlocks := B.notSynchronized
  subst hsz
  have hD := hD0.self (sz := s.heap.size)
  generalize hAe : va_A (zSA cI h len cd nm ks gs wt mi pl sk he nh ru bg la sd pl2 sk2 he2 nh2 ru2 bg2 la2 sd2 u0 l0 u1 l1 u2 l2 wy fi fl nu ik pr) s.heap.size = A at hD ⊢
  have hA : ∀ q : Nat, s.heap.size ≤ q → A q := fun q h => by rw [← hAe]; exact Or.inr h
  have hS : va_S A s.heap s.heap [] := va_S.rf
  have k19 := hts (.fieldLink RX6 19 "SongsAgain" "book" "LSongsAgain$Book;") (List.mem_of_getElem? (i := 1) rfl)
  have k49 := hts (.fieldLink RX6 49 "SongsAgain" "orders" "LSongsAgain$Orders;") (List.mem_of_getElem? (i := 2) rfl)
  have iX6 : ∀ w ∈ u_ws RX6 TX6 10, w ∈ wsX6_party := vz_in (i := 54) (n := 10) rfl
  have hl := lv_entry ([.ref (h 0), .int p0, .int p1]) (n := 3) (Nat.le_of_ble_eq_true rfl)
  rw [lg_entry_eq]
  generalize (lg_sl ([.ref (h 0), .int p0, .int p1]) ++ List.replicate (3 - (lg_sl ([.ref (h 0), .int p0, .int p1])).length) Slot.unset).toArray = ls at hl ⊢
  have hl : lv_has ls 3 [(0, .ref (h 0)), (1, .int p0), (2, .int p1)] := hl
  have hP : va_P D vwCl (zSA cI h len cd nm ks gs wt mi pl sk he nh ru bg la sd pl2 sk2 he2 nh2 ru2 bg2 la2 sd2 u0 l0 u1 l1 u2 l2 wy fi fl nu ik pr) s.heap := hP
  refine lv_iload_n hx hb dX6_party_0 rfl (lv_at hl 1 rfl) ?_
  refine lv_if_lt (tgt := 15) hx hb dX6_party_1 (by decide) (fun c_1 => ?_) (fun c_1 => ?_)
  · skip
    refine lv_bipush (v := (-102)) hx hb dX6_party_15 (by decide) ?_
    exact W.iret hx hb hr (fun t ht hW => ⟨⟨_, (wy, fi, fl, nu), rfl, (by first | rfl | (simp only [pa_r, if_pos c_1]; done) | (simp only [pa_r, if_pos c_1]; rfl) | (simp only [pa_r, c_1, ↓reduceIte, Bool.false_eq_true, if_true, if_false, reduceCtorEq, not_true_eq_false, not_false_eq_true, eq_self]; done) | (simp only [pa_r, c_1, ↓reduceIte, Bool.false_eq_true, if_true, if_false, reduceCtorEq, not_true_eq_false, not_false_eq_true, eq_self]; rfl) | (simp [pa_r, c_1]; done)), (by show va_P D vwCl (zSA cI h len cd nm ks gs wt mi pl sk he nh ru bg la sd pl2 sk2 he2 nh2 ru2 bg2 la2 sd2 u0 l0 u1 l1 u2 l2 wy fi fl nu ik pr) t.heap; rw [ht]; exact hP)⟩, hS.F ht⟩) hS.2.2 dX6_party_17
  · skip
    refine lv_iload_n hx hb dX6_party_4 rfl (lv_at hl 1 rfl) ?_
    refine lv_aload_n hx hb dX6_party_5 rfl (lv_at hl 0 rfl) ?_
    refine va_get (D := D) (ci := 6) (v := .ref (h 4)) (C := RX6) (T := TX6) (N := 10) hx hb hts iX6 hown hK hP 0 rfl rfl 1 (by decide) k19 (fun _ h9 => h9) rfl dX6_party_6 ?_
    refine vp_callSi (W.runV (As := []) (rest := [.int p0]) ⟨hx, hb, hml, hown, hts⟩ (c_X0_all l D cI (fun i => h (4 + i)) nm ks gs wt mi) (cwV 0 hts gX6_party_X0_all rfl rfl rfl (by decide +kernel) ⟨Nat.le_of_ble_eq_true rfl, Nat.le_of_ble_eq_true rfl⟩) (vz_pvR (va_recv hK hP (ci := 0) (q0 := 4) rfl rfl) hZ (hP.sub (ws' := (zBook cI (fun i => h (4 + i)) nm ks gs wt mi)) [4, 5, 6, 7, 8, 9, 10, 11, 12] rfl)) rfl rfl hl.1 rfl (lv_room (Nat.le_of_ble_eq_true rfl)) dX6_party_9 ⟨Nat.zero_le _, Nat.zero_le _⟩) (fun r_9 hr_9 => ?_)
    subst hr_9
    refine lv_icmp_le (tgt := 18) hx hb dX6_party_12 (by decide) (fun c_12 => ?_) (fun c_12 => ?_)
    · skip
      refine lv_iload_n hx hb dX6_party_18 rfl (lv_at hl 2 rfl) ?_
      refine lv_if_eq (tgt := 37) hx hb dX6_party_19 (by decide) (fun c_19 => ?_) (fun c_19 => ?_)
      · skip
        refine lv_aload_n hx hb dX6_party_37 rfl (lv_at hl 0 rfl) ?_
        refine vp_callSi (W.runV (As := []) (rest := []) ⟨hx, hb, hml, hown, hts⟩ (c_X6_noPlayer l D cI h len cd nm ks gs wt mi pl sk he nh ru bg la sd pl2 sk2 he2 nh2 ru2 bg2 la2 sd2 u0 l0 u1 l1 u2 l2 wy fi fl nu ik pr (by first | assumption | omega)) (cwV 0 hts gX6_party_X6_noPlayer rfl rfl rfl (by decide +kernel) ⟨Nat.le_of_ble_eq_true rfl, Nat.le_of_ble_eq_true rfl⟩) (vz_pvR (va_recv hK hP (ci := 6) (q0 := 0) rfl rfl) hZ hP) rfl rfl hl.1 rfl (lv_room (Nat.le_of_ble_eq_true rfl)) dX6_party_38 ⟨Nat.zero_le _, Nat.zero_le _⟩) (fun r_38 hr_38 => ?_)
        subst hr_38
        refine lv_if_eq (tgt := 47) hx hb dX6_party_41 (by decide) (fun c_41 => ?_) (fun c_41 => ?_)
        · skip
          replace c_41 := vz_b0 c_41
          refine lv_aload_n hx hb dX6_party_47 rfl (lv_at hl 0 rfl) ?_
          refine va_get (D := D) (ci := 6) (v := .ref (h 30)) (C := RX6) (T := TX6) (N := 10) hx hb hts iX6 hown hK hP 0 rfl rfl 7 (by decide) k49 (fun _ h9 => h9) rfl dX6_party_48 ?_
          refine lv_aload_n hx hb dX6_party_51 rfl (lv_at hl 0 rfl) ?_
          refine va_get (D := D) (ci := 6) (v := .ref (h 4)) (C := RX6) (T := TX6) (N := 10) hx hb hts iX6 hown hK hP 0 rfl rfl 1 (by decide) k19 (fun _ h9 => h9) rfl dX6_party_52 ?_
          refine lv_iload_n hx hb dX6_party_55 rfl (lv_at hl 1 rfl) ?_
          have hPc := (hP.sub (ws' := (zOrdBook cI (fun i => h (30 + i)) (fun i => h (4 + i)) wy fi fl nu nm ks gs wt mi)) [30, 31, 32, 33, 34, 4, 5, 6, 7, 8, 9, 10, 11, 12] rfl)
          have hDc := hD.sub (ws' := (zOrdBook cI (fun i => h (30 + i)) (fun i => h (4 + i)) wy fi fl nu nm ks gs wt mi)) [30, 31, 32, 33, 34, 4, 5, 6, 7, 8, 9, 10, 11, 12] rfl rfl
          have hFc := va_free (wc := (zOrdBook cI (fun i => h (30 + i)) (fun i => h (4 + i)) wy fi fl nu nm ks gs wt mi)) hD hS hA [30, 31, 32, 33, 34, 4, 5, 6, 7, 8, 9, 10, 11, 12] rfl
          refine va_callv (va_runV (As := [.ref (h 4), .int p0]) (rest := []) ⟨hx, hb, hml, hown, hts⟩ (c_X2_findAll l D cI (fun i => h (30 + i)) (fun i => h (4 + i)) wy fi fl nu nm ks gs wt mi s.heap.size p0 (by first | assumption | omega)) (cwV 2 hts gX6_party_X2_findAll rfl rfl rfl (by decide +kernel) ⟨Nat.le_of_ble_eq_true rfl, Nat.le_of_ble_eq_true rfl⟩) (vz_pvW (va_recv hK hP (ci := 2) (q0 := 30) rfl rfl) hZ hPc hDc) rfl rfl hl.1 rfl (lv_room (Nat.le_of_ble_eq_true rfl)) dX6_party_56 ⟨Nat.zero_le _, Nat.zero_le _⟩) hS (fun q _ h => hFc q h) hFc (fun u_56 t H_56 locs_56 ht hvm hw hB hz1 hk1 hS9 => ?_)
          rw [ht] at hB
          replace hP : va_P D vwCl (zSA cI h len cd nm ks gs wt mi pl sk he nh ru bg la sd pl2 sk2 he2 nh2 ru2 bg2 la2 sd2 u0 l0 u1 l1 u2 l2 ((od nm gs 7 0 p0 (wy, fi, 0, 0)).1) ((od nm gs 7 0 p0 (wy, fi, 0, 0)).2.1) ((od nm gs 7 0 p0 (wy, fi, 0, 0)).2.2.1) ((od nm gs 7 0 p0 (wy, fi, 0, 0)).2.2.2) ik pr) H_56 := vz_join (w1 := (zOrdBook cI (fun i => h (30 + i)) (fun i => h (4 + i)) ((od nm gs 7 0 p0 (wy, fi, 0, 0)).1) ((od nm gs 7 0 p0 (wy, fi, 0, 0)).2.1) ((od nm gs 7 0 p0 (wy, fi, 0, 0)).2.2.1) ((od nm gs 7 0 p0 (wy, fi, 0, 0)).2.2.2) nm ks gs wt mi)) hP hD [30, 31, 32, 33, 34, 4, 5, 6, 7, 8, 9, 10, 11, 12] rfl rfl hk1 hB
          replace hD : va_D A (zSA cI h len cd nm ks gs wt mi pl sk he nh ru bg la sd pl2 sk2 he2 nh2 ru2 bg2 la2 sd2 u0 l0 u1 l1 u2 l2 ((od nm gs 7 0 p0 (wy, fi, 0, 0)).1) ((od nm gs 7 0 p0 (wy, fi, 0, 0)).2.1) ((od nm gs 7 0 p0 (wy, fi, 0, 0)).2.2.1) ((od nm gs 7 0 p0 (wy, fi, 0, 0)).2.2.2) ik pr) := vz_same hD rfl
          replace hS := hS9
          clear hS9 hPc hDc hFc hB hk1 hz1
          refine lv_aload_n hx hb dX6_party_59 rfl (lv_at hl 0 rfl) ?_
          refine va_get (D := D) (ci := 6) (v := .ref (h 30)) (C := RX6) (T := TX6) (N := 10) hx hb hts iX6 hown hK hP 0 rfl rfl 7 (by decide) k49 (fun _ h9 => h9) rfl dX6_party_60 ?_
          refine lv_iload_n hx hb dX6_party_63 rfl (lv_at hl 2 rfl) ?_
          refine vp_callSi (W.runV (As := [.int p1]) (rest := []) ⟨hx, hb, hml, hown, hts⟩ (c_X2_fact l D cI (fun i => h (30 + i)) ((od nm gs 7 0 p0 (wy, fi, 0, 0)).1) ((od nm gs 7 0 p0 (wy, fi, 0, 0)).2.1) ((od nm gs 7 0 p0 (wy, fi, 0, 0)).2.2.1) ((od nm gs 7 0 p0 (wy, fi, 0, 0)).2.2.2) p1) (cwV 1 hts gX6_party_X2_fact rfl rfl rfl (by decide +kernel) ⟨Nat.le_of_ble_eq_true rfl, Nat.le_of_ble_eq_true rfl⟩) (vz_pvR (va_recv hK hP (ci := 2) (q0 := 30) rfl rfl) hZ (hP.sub (ws' := (zOrd cI (fun i => h (30 + i)) ((od nm gs 7 0 p0 (wy, fi, 0, 0)).1) ((od nm gs 7 0 p0 (wy, fi, 0, 0)).2.1) ((od nm gs 7 0 p0 (wy, fi, 0, 0)).2.2.1) ((od nm gs 7 0 p0 (wy, fi, 0, 0)).2.2.2))) [30, 31, 32, 33, 34] rfl)) rfl rfl hl.1 rfl (lv_room (Nat.le_of_ble_eq_true rfl)) dX6_party_64 ⟨Nat.zero_le _, Nat.zero_le _⟩) (fun r_64 hr_64 => ?_)
          subst hr_64
          exact W.iret hx hb hr (fun t ht hW => ⟨⟨_, ((od nm gs 7 0 p0 (wy, fi, 0, 0)).1, (od nm gs 7 0 p0 (wy, fi, 0, 0)).2.1, (od nm gs 7 0 p0 (wy, fi, 0, 0)).2.2.1, (od nm gs 7 0 p0 (wy, fi, 0, 0)).2.2.2), rfl, (by first | rfl | (simp only [pa_r, if_neg c_1, if_pos c_12, if_pos c_19]; done) | (simp only [pa_r, if_neg c_1, if_pos c_12, if_pos c_19]; rfl) | (simp only [pa_r, c_1, c_12, c_19, c_41, ↓reduceIte, Bool.false_eq_true, if_true, if_false, reduceCtorEq, not_true_eq_false, not_false_eq_true, eq_self]; done) | (simp only [pa_r, c_1, c_12, c_19, c_41, ↓reduceIte, Bool.false_eq_true, if_true, if_false, reduceCtorEq, not_true_eq_false, not_false_eq_true, eq_self]; rfl) | (simp [pa_r, c_1, c_12, c_19, c_41]; done) | (simp only [pa_r, if_neg c_1, if_pos c_12, if_pos c_19, c_41, ↓reduceIte, Bool.false_eq_true])), (by show va_P D vwCl (zSA cI h len cd nm ks gs wt mi pl sk he nh ru bg la sd pl2 sk2 he2 nh2 ru2 bg2 la2 sd2 u0 l0 u1 l1 u2 l2 ((od nm gs 7 0 p0 (wy, fi, 0, 0)).1) ((od nm gs 7 0 p0 (wy, fi, 0, 0)).2.1) ((od nm gs 7 0 p0 (wy, fi, 0, 0)).2.2.1) ((od nm gs 7 0 p0 (wy, fi, 0, 0)).2.2.2) ik pr) t.heap; rw [ht]; exact hP)⟩, hS.F ht⟩) hS.2.2 dX6_party_67
        · skip
          replace c_41 := vz_b1 c_41
          refine lv_bipush (v := (-103)) hx hb dX6_party_44 (by decide) ?_
          exact W.iret hx hb hr (fun t ht hW => ⟨⟨_, (wy, fi, fl, nu), rfl, (by first | rfl | (simp only [pa_r, if_neg c_1, if_pos c_12, if_pos c_19]; done) | (simp only [pa_r, if_neg c_1, if_pos c_12, if_pos c_19]; rfl) | (simp only [pa_r, c_1, c_12, c_19, c_41, ↓reduceIte, Bool.false_eq_true, if_true, if_false, reduceCtorEq, not_true_eq_false, not_false_eq_true, eq_self]; done) | (simp only [pa_r, c_1, c_12, c_19, c_41, ↓reduceIte, Bool.false_eq_true, if_true, if_false, reduceCtorEq, not_true_eq_false, not_false_eq_true, eq_self]; rfl) | (simp [pa_r, c_1, c_12, c_19, c_41]; done) | (simp only [pa_r, if_neg c_1, if_pos c_12, if_pos c_19, c_41, ↓reduceIte, Bool.false_eq_true])), (by show va_P D vwCl (zSA cI h len cd nm ks gs wt mi pl sk he nh ru bg la sd pl2 sk2 he2 nh2 ru2 bg2 la2 sd2 u0 l0 u1 l1 u2 l2 wy fi fl nu ik pr) t.heap; rw [ht]; exact hP)⟩, hS.F ht⟩) hS.2.2 dX6_party_46
      · skip
        refine lv_iload_n hx hb dX6_party_22 rfl (lv_at hl 2 rfl) ?_
        refine lv_bipush (v := 10) hx hb dX6_party_23 (by decide) ?_
        refine lv_icmp_lt (tgt := 34) hx hb dX6_party_25 (by decide) (fun c_25 => ?_) (fun c_25 => ?_)
        · skip
          refine lv_bipush (v := (-102)) hx hb dX6_party_34 (by decide) ?_
          exact W.iret hx hb hr (fun t ht hW => ⟨⟨_, (wy, fi, fl, nu), rfl, (by first | rfl | (simp only [pa_r, if_neg c_1, if_pos c_12, if_neg c_19, if_pos c_25]; done) | (simp only [pa_r, if_neg c_1, if_pos c_12, if_neg c_19, if_pos c_25]; rfl) | (simp only [pa_r, c_1, c_12, c_19, c_25, ↓reduceIte, Bool.false_eq_true, if_true, if_false, reduceCtorEq, not_true_eq_false, not_false_eq_true, eq_self]; done) | (simp only [pa_r, c_1, c_12, c_19, c_25, ↓reduceIte, Bool.false_eq_true, if_true, if_false, reduceCtorEq, not_true_eq_false, not_false_eq_true, eq_self]; rfl) | (simp [pa_r, c_1, c_12, c_19, c_25]; done)), (by show va_P D vwCl (zSA cI h len cd nm ks gs wt mi pl sk he nh ru bg la sd pl2 sk2 he2 nh2 ru2 bg2 la2 sd2 u0 l0 u1 l1 u2 l2 wy fi fl nu ik pr) t.heap; rw [ht]; exact hP)⟩, hS.F ht⟩) hS.2.2 dX6_party_36
        · skip
          refine lv_iload_n hx hb dX6_party_28 rfl (lv_at hl 2 rfl) ?_
          refine lv_bipush (v := 16) hx hb dX6_party_29 (by decide) ?_
          refine lv_icmp_lt (tgt := 37) hx hb dX6_party_31 (by decide) (fun c_31 => ?_) (fun c_31 => ?_)
          · skip
            refine lv_aload_n hx hb dX6_party_37 rfl (lv_at hl 0 rfl) ?_
            refine vp_callSi (W.runV (As := []) (rest := []) ⟨hx, hb, hml, hown, hts⟩ (c_X6_noPlayer l D cI h len cd nm ks gs wt mi pl sk he nh ru bg la sd pl2 sk2 he2 nh2 ru2 bg2 la2 sd2 u0 l0 u1 l1 u2 l2 wy fi fl nu ik pr (by first | assumption | omega)) (cwV 0 hts gX6_party_X6_noPlayer rfl rfl rfl (by decide +kernel) ⟨Nat.le_of_ble_eq_true rfl, Nat.le_of_ble_eq_true rfl⟩) (vz_pvR (va_recv hK hP (ci := 6) (q0 := 0) rfl rfl) hZ hP) rfl rfl hl.1 rfl (lv_room (Nat.le_of_ble_eq_true rfl)) dX6_party_38 ⟨Nat.zero_le _, Nat.zero_le _⟩) (fun r_38 hr_38 => ?_)
            subst hr_38
            refine lv_if_eq (tgt := 47) hx hb dX6_party_41 (by decide) (fun c_41 => ?_) (fun c_41 => ?_)
            · skip
              replace c_41 := vz_b0 c_41
              refine lv_aload_n hx hb dX6_party_47 rfl (lv_at hl 0 rfl) ?_
              refine va_get (D := D) (ci := 6) (v := .ref (h 30)) (C := RX6) (T := TX6) (N := 10) hx hb hts iX6 hown hK hP 0 rfl rfl 7 (by decide) k49 (fun _ h9 => h9) rfl dX6_party_48 ?_
              refine lv_aload_n hx hb dX6_party_51 rfl (lv_at hl 0 rfl) ?_
              refine va_get (D := D) (ci := 6) (v := .ref (h 4)) (C := RX6) (T := TX6) (N := 10) hx hb hts iX6 hown hK hP 0 rfl rfl 1 (by decide) k19 (fun _ h9 => h9) rfl dX6_party_52 ?_
              refine lv_iload_n hx hb dX6_party_55 rfl (lv_at hl 1 rfl) ?_
              have hPc := (hP.sub (ws' := (zOrdBook cI (fun i => h (30 + i)) (fun i => h (4 + i)) wy fi fl nu nm ks gs wt mi)) [30, 31, 32, 33, 34, 4, 5, 6, 7, 8, 9, 10, 11, 12] rfl)
              have hDc := hD.sub (ws' := (zOrdBook cI (fun i => h (30 + i)) (fun i => h (4 + i)) wy fi fl nu nm ks gs wt mi)) [30, 31, 32, 33, 34, 4, 5, 6, 7, 8, 9, 10, 11, 12] rfl rfl
              have hFc := va_free (wc := (zOrdBook cI (fun i => h (30 + i)) (fun i => h (4 + i)) wy fi fl nu nm ks gs wt mi)) hD hS hA [30, 31, 32, 33, 34, 4, 5, 6, 7, 8, 9, 10, 11, 12] rfl
              refine va_callv (va_runV (As := [.ref (h 4), .int p0]) (rest := []) ⟨hx, hb, hml, hown, hts⟩ (c_X2_findAll l D cI (fun i => h (30 + i)) (fun i => h (4 + i)) wy fi fl nu nm ks gs wt mi s.heap.size p0 (by first | assumption | omega)) (cwV 2 hts gX6_party_X2_findAll rfl rfl rfl (by decide +kernel) ⟨Nat.le_of_ble_eq_true rfl, Nat.le_of_ble_eq_true rfl⟩) (vz_pvW (va_recv hK hP (ci := 2) (q0 := 30) rfl rfl) hZ hPc hDc) rfl rfl hl.1 rfl (lv_room (Nat.le_of_ble_eq_true rfl)) dX6_party_56 ⟨Nat.zero_le _, Nat.zero_le _⟩) hS (fun q _ h => hFc q h) hFc (fun u_56 t H_56 locs_56 ht hvm hw hB hz1 hk1 hS9 => ?_)
              rw [ht] at hB
              replace hP : va_P D vwCl (zSA cI h len cd nm ks gs wt mi pl sk he nh ru bg la sd pl2 sk2 he2 nh2 ru2 bg2 la2 sd2 u0 l0 u1 l1 u2 l2 ((od nm gs 7 0 p0 (wy, fi, 0, 0)).1) ((od nm gs 7 0 p0 (wy, fi, 0, 0)).2.1) ((od nm gs 7 0 p0 (wy, fi, 0, 0)).2.2.1) ((od nm gs 7 0 p0 (wy, fi, 0, 0)).2.2.2) ik pr) H_56 := vz_join (w1 := (zOrdBook cI (fun i => h (30 + i)) (fun i => h (4 + i)) ((od nm gs 7 0 p0 (wy, fi, 0, 0)).1) ((od nm gs 7 0 p0 (wy, fi, 0, 0)).2.1) ((od nm gs 7 0 p0 (wy, fi, 0, 0)).2.2.1) ((od nm gs 7 0 p0 (wy, fi, 0, 0)).2.2.2) nm ks gs wt mi)) hP hD [30, 31, 32, 33, 34, 4, 5, 6, 7, 8, 9, 10, 11, 12] rfl rfl hk1 hB
              replace hD : va_D A (zSA cI h len cd nm ks gs wt mi pl sk he nh ru bg la sd pl2 sk2 he2 nh2 ru2 bg2 la2 sd2 u0 l0 u1 l1 u2 l2 ((od nm gs 7 0 p0 (wy, fi, 0, 0)).1) ((od nm gs 7 0 p0 (wy, fi, 0, 0)).2.1) ((od nm gs 7 0 p0 (wy, fi, 0, 0)).2.2.1) ((od nm gs 7 0 p0 (wy, fi, 0, 0)).2.2.2) ik pr) := vz_same hD rfl
              replace hS := hS9
              clear hS9 hPc hDc hFc hB hk1 hz1
              refine lv_aload_n hx hb dX6_party_59 rfl (lv_at hl 0 rfl) ?_
              refine va_get (D := D) (ci := 6) (v := .ref (h 30)) (C := RX6) (T := TX6) (N := 10) hx hb hts iX6 hown hK hP 0 rfl rfl 7 (by decide) k49 (fun _ h9 => h9) rfl dX6_party_60 ?_
              refine lv_iload_n hx hb dX6_party_63 rfl (lv_at hl 2 rfl) ?_
              refine vp_callSi (W.runV (As := [.int p1]) (rest := []) ⟨hx, hb, hml, hown, hts⟩ (c_X2_fact l D cI (fun i => h (30 + i)) ((od nm gs 7 0 p0 (wy, fi, 0, 0)).1) ((od nm gs 7 0 p0 (wy, fi, 0, 0)).2.1) ((od nm gs 7 0 p0 (wy, fi, 0, 0)).2.2.1) ((od nm gs 7 0 p0 (wy, fi, 0, 0)).2.2.2) p1) (cwV 1 hts gX6_party_X2_fact rfl rfl rfl (by decide +kernel) ⟨Nat.le_of_ble_eq_true rfl, Nat.le_of_ble_eq_true rfl⟩) (vz_pvR (va_recv hK hP (ci := 2) (q0 := 30) rfl rfl) hZ (hP.sub (ws' := (zOrd cI (fun i => h (30 + i)) ((od nm gs 7 0 p0 (wy, fi, 0, 0)).1) ((od nm gs 7 0 p0 (wy, fi, 0, 0)).2.1) ((od nm gs 7 0 p0 (wy, fi, 0, 0)).2.2.1) ((od nm gs 7 0 p0 (wy, fi, 0, 0)).2.2.2))) [30, 31, 32, 33, 34] rfl)) rfl rfl hl.1 rfl (lv_room (Nat.le_of_ble_eq_true rfl)) dX6_party_64 ⟨Nat.zero_le _, Nat.zero_le _⟩) (fun r_64 hr_64 => ?_)
              subst hr_64
              exact W.iret hx hb hr (fun t ht hW => ⟨⟨_, ((od nm gs 7 0 p0 (wy, fi, 0, 0)).1, (od nm gs 7 0 p0 (wy, fi, 0, 0)).2.1, (od nm gs 7 0 p0 (wy, fi, 0, 0)).2.2.1, (od nm gs 7 0 p0 (wy, fi, 0, 0)).2.2.2), rfl, (by first | rfl | (simp only [pa_r, if_neg c_1, if_pos c_12, if_neg c_19, if_neg c_25, if_pos c_31]; done) | (simp only [pa_r, if_neg c_1, if_pos c_12, if_neg c_19, if_neg c_25, if_pos c_31]; rfl) | (simp only [pa_r, c_1, c_12, c_19, c_25, c_31, c_41, ↓reduceIte, Bool.false_eq_true, if_true, if_false, reduceCtorEq, not_true_eq_false, not_false_eq_true, eq_self]; done) | (simp only [pa_r, c_1, c_12, c_19, c_25, c_31, c_41, ↓reduceIte, Bool.false_eq_true, if_true, if_false, reduceCtorEq, not_true_eq_false, not_false_eq_true, eq_self]; rfl) | (simp [pa_r, c_1, c_12, c_19, c_25, c_31, c_41]; done) | (simp only [pa_r, if_neg c_1, if_pos c_12, if_neg c_19, if_neg c_25, if_pos c_31, c_41, ↓reduceIte, Bool.false_eq_true])), (by show va_P D vwCl (zSA cI h len cd nm ks gs wt mi pl sk he nh ru bg la sd pl2 sk2 he2 nh2 ru2 bg2 la2 sd2 u0 l0 u1 l1 u2 l2 ((od nm gs 7 0 p0 (wy, fi, 0, 0)).1) ((od nm gs 7 0 p0 (wy, fi, 0, 0)).2.1) ((od nm gs 7 0 p0 (wy, fi, 0, 0)).2.2.1) ((od nm gs 7 0 p0 (wy, fi, 0, 0)).2.2.2) ik pr) t.heap; rw [ht]; exact hP)⟩, hS.F ht⟩) hS.2.2 dX6_party_67
            · skip
              replace c_41 := vz_b1 c_41
              refine lv_bipush (v := (-103)) hx hb dX6_party_44 (by decide) ?_
              exact W.iret hx hb hr (fun t ht hW => ⟨⟨_, (wy, fi, fl, nu), rfl, (by first | rfl | (simp only [pa_r, if_neg c_1, if_pos c_12, if_neg c_19, if_neg c_25, if_pos c_31]; done) | (simp only [pa_r, if_neg c_1, if_pos c_12, if_neg c_19, if_neg c_25, if_pos c_31]; rfl) | (simp only [pa_r, c_1, c_12, c_19, c_25, c_31, c_41, ↓reduceIte, Bool.false_eq_true, if_true, if_false, reduceCtorEq, not_true_eq_false, not_false_eq_true, eq_self]; done) | (simp only [pa_r, c_1, c_12, c_19, c_25, c_31, c_41, ↓reduceIte, Bool.false_eq_true, if_true, if_false, reduceCtorEq, not_true_eq_false, not_false_eq_true, eq_self]; rfl) | (simp [pa_r, c_1, c_12, c_19, c_25, c_31, c_41]; done) | (simp only [pa_r, if_neg c_1, if_pos c_12, if_neg c_19, if_neg c_25, if_pos c_31, c_41, ↓reduceIte, Bool.false_eq_true])), (by show va_P D vwCl (zSA cI h len cd nm ks gs wt mi pl sk he nh ru bg la sd pl2 sk2 he2 nh2 ru2 bg2 la2 sd2 u0 l0 u1 l1 u2 l2 wy fi fl nu ik pr) t.heap; rw [ht]; exact hP)⟩, hS.F ht⟩) hS.2.2 dX6_party_46
          · skip
            refine lv_bipush (v := (-102)) hx hb dX6_party_34 (by decide) ?_
            exact W.iret hx hb hr (fun t ht hW => ⟨⟨_, (wy, fi, fl, nu), rfl, (by first | rfl | (simp only [pa_r, if_neg c_1, if_pos c_12, if_neg c_19, if_neg c_25, if_neg c_31]; done) | (simp only [pa_r, if_neg c_1, if_pos c_12, if_neg c_19, if_neg c_25, if_neg c_31]; rfl) | (simp only [pa_r, c_1, c_12, c_19, c_25, c_31, ↓reduceIte, Bool.false_eq_true, if_true, if_false, reduceCtorEq, not_true_eq_false, not_false_eq_true, eq_self]; done) | (simp only [pa_r, c_1, c_12, c_19, c_25, c_31, ↓reduceIte, Bool.false_eq_true, if_true, if_false, reduceCtorEq, not_true_eq_false, not_false_eq_true, eq_self]; rfl) | (simp [pa_r, c_1, c_12, c_19, c_25, c_31]; done)), (by show va_P D vwCl (zSA cI h len cd nm ks gs wt mi pl sk he nh ru bg la sd pl2 sk2 he2 nh2 ru2 bg2 la2 sd2 u0 l0 u1 l1 u2 l2 wy fi fl nu ik pr) t.heap; rw [ht]; exact hP)⟩, hS.F ht⟩) hS.2.2 dX6_party_36
    · skip
      refine lv_bipush (v := (-102)) hx hb dX6_party_15 (by decide) ?_
      exact W.iret hx hb hr (fun t ht hW => ⟨⟨_, (wy, fi, fl, nu), rfl, (by first | rfl | (simp only [pa_r, if_neg c_1, if_neg c_12]; done) | (simp only [pa_r, if_neg c_1, if_neg c_12]; rfl) | (simp only [pa_r, c_1, c_12, ↓reduceIte, Bool.false_eq_true, if_true, if_false, reduceCtorEq, not_true_eq_false, not_false_eq_true, eq_self]; done) | (simp only [pa_r, c_1, c_12, ↓reduceIte, Bool.false_eq_true, if_true, if_false, reduceCtorEq, not_true_eq_false, not_false_eq_true, eq_self]; rfl) | (simp [pa_r, c_1, c_12]; done)), (by show va_P D vwCl (zSA cI h len cd nm ks gs wt mi pl sk he nh ru bg la sd pl2 sk2 he2 nh2 ru2 bg2 la2 sd2 u0 l0 u1 l1 u2 l2 wy fi fl nu ik pr) t.heap; rw [ht]; exact hP)⟩, hS.F ht⟩) hS.2.2 dX6_party_17
set_option maxHeartbeats 4000000 in
set_option maxRecDepth 100000 in
theorem c_X6_evenings (l : Launch) (D : va_G) (cI : ClassId) (h : Nat → Nat) (len : Nat) (cd : Nat → Int32) (nm : Nat) (ks : Nat → Int32) (gs : Nat → Int32) (wt : Nat → Int32) (mi : Nat → Int32) (pl : Nat → Int32) (sk : Nat → Int32) (he : Nat → Int32) (nh : Nat) (ru : Int32) (bg : Int32) (la : Int32) (sd : Bool) (pl2 : Nat → Int32) (sk2 : Nat → Int32) (he2 : Nat → Int32) (nh2 : Nat) (ru2 : Int32) (bg2 : Int32) (la2 : Int32) (sd2 : Bool) (u0 : Int64) (l0 : Int64) (u1 : Int64) (l1 : Int64) (u2 : Int64) (l2 : Int64) (wy : Nat → Int32) (fi : Nat → Int32) (fl : Int32) (nu : Int32) (ik : Bool) (pr : Nat) (p0 : Int32) (p1 : Int32) (p2 : Int32) (hnm : nm ≤ 6) : Met l yX6_evenings wsX6_evenings ({ frames := 5, cells := 0, slots := 0, locals := 143 } : Room) (vz_ro D cI (zSA cI h len cd nm ks gs wt mi pl sk he nh ru bg la sd pl2 sk2 he2 nh2 ru2 bg2 la2 sd2 u0 l0 u1 l1 u2 l2 wy fi fl nu ik pr) [.ref (h 0), .int p0, .int p1, .int p2]) (vp_Si (fun r => r = en_r nm ks gs wt sk mi ru bg la p0 p1 p2)) 0 0 (fun _ => False) := by
  refine Met.ofW (cc := cX6_evenings) (maxL := 4) (ret := (some .int)) (by decide) rfl ?_
  intro p e s m args below meth c s₁ B hml hv
  obtain ⟨rfl, hP, hZ⟩ := hv
  obtain ⟨hK, hN⟩ := id hZ
  have hx := B.exec
  have hb := B.bytes
  have hr := B.returns
  have hts := atoms_spec (ws := wsX6_evenings) B.pre
  have hown : s.vm.findClass RX6 = some m.cls := findClass_of_methodNamed B.named
  have hlocks := B.notSynchronized
  have hl := lv_entry ([.ref (h 0), .int p0, .int p1, .int p2]) (n := 4) (Nat.le_of_ble_eq_true rfl)
  rw [lg_entry_eq]
  generalize (lg_sl ([.ref (h 0), .int p0, .int p1, .int p2]) ++ List.replicate (4 - (lg_sl ([.ref (h 0), .int p0, .int p1, .int p2])).length) Slot.unset).toArray = ls at hl ⊢
  have hl : lv_has ls 4 [(0, .ref (h 0)), (1, .int p0), (2, .int p1), (3, .int p2)] := hl
  refine lv_iload_n hx hb dX6_evenings_0 rfl (lv_at hl 1 rfl) ?_
  refine lv_iconst (v := 1) hx hb dX6_evenings_1 (by decide) ?_
  refine lv_icmp_lt (tgt := 24) hx hb dX6_evenings_2 (by decide) (fun c_2 => ?_) (fun c_2 => ?_)
  · skip
    refine lv_bipush (v := (-102)) hx hb dX6_evenings_24 (by decide) ?_
    exact W.iret hx hb hr (fun t ht hW => ⟨_, rfl, (by first | rfl | (simp only [en_r, if_pos c_2]; done) | (simp only [en_r, if_pos c_2]; rfl) | (simp only [en_r, c_2, ↓reduceIte, Bool.false_eq_true, if_true, if_false, reduceCtorEq, not_true_eq_false, not_false_eq_true, eq_self]; done) | (simp only [en_r, c_2, ↓reduceIte, Bool.false_eq_true, if_true, if_false, reduceCtorEq, not_true_eq_false, not_false_eq_true, eq_self]; rfl) | (simp [en_r, c_2]; done)), ht⟩) (fun q h => absurd h List.not_mem_nil) dX6_evenings_26
  · skip
    refine lv_iload_n hx hb dX6_evenings_5 rfl (lv_at hl 1 rfl) ?_
    refine lv_bipush (v := 60) hx hb dX6_evenings_6 (by decide) ?_
    refine lv_icmp_gt (tgt := 24) hx hb dX6_evenings_8 (by decide) (fun c_8 => ?_) (fun c_8 => ?_)
    · skip
      refine lv_bipush (v := (-102)) hx hb dX6_evenings_24 (by decide) ?_
      exact W.iret hx hb hr (fun t ht hW => ⟨_, rfl, (by first | rfl | (simp only [en_r, if_neg c_2, if_pos c_8]; done) | (simp only [en_r, if_neg c_2, if_pos c_8]; rfl) | (simp only [en_r, c_2, c_8, ↓reduceIte, Bool.false_eq_true, if_true, if_false, reduceCtorEq, not_true_eq_false, not_false_eq_true, eq_self]; done) | (simp only [en_r, c_2, c_8, ↓reduceIte, Bool.false_eq_true, if_true, if_false, reduceCtorEq, not_true_eq_false, not_false_eq_true, eq_self]; rfl) | (simp [en_r, c_2, c_8]; done)), ht⟩) (fun q h => absurd h List.not_mem_nil) dX6_evenings_26
    · skip
      obtain ⟨hn60, hn1⟩ := en_n c_2 c_8
      refine lv_iload_n hx hb dX6_evenings_11 rfl (lv_at hl 2 rfl) ?_
      refine lv_if_lt (tgt := 24) hx hb dX6_evenings_12 (by decide) (fun c_12 => ?_) (fun c_12 => ?_)
      · skip
        refine lv_bipush (v := (-102)) hx hb dX6_evenings_24 (by decide) ?_
        exact W.iret hx hb hr (fun t ht hW => ⟨_, rfl, (by first | rfl | (simp only [en_r, if_neg c_2, if_neg c_8, if_pos c_12]; done) | (simp only [en_r, if_neg c_2, if_neg c_8, if_pos c_12]; rfl) | (simp only [en_r, c_2, c_8, c_12, ↓reduceIte, Bool.false_eq_true, if_true, if_false, reduceCtorEq, not_true_eq_false, not_false_eq_true, eq_self]; done) | (simp only [en_r, c_2, c_8, c_12, ↓reduceIte, Bool.false_eq_true, if_true, if_false, reduceCtorEq, not_true_eq_false, not_false_eq_true, eq_self]; rfl) | (simp [en_r, c_2, c_8, c_12]; done)), ht⟩) (fun q h => absurd h List.not_mem_nil) dX6_evenings_26
      · skip
        refine lv_iload_n hx hb dX6_evenings_15 rfl (lv_at hl 3 rfl) ?_
        refine lv_if_lt (tgt := 24) hx hb dX6_evenings_16 (by decide) (fun c_16 => ?_) (fun c_16 => ?_)
        · skip
          refine lv_bipush (v := (-102)) hx hb dX6_evenings_24 (by decide) ?_
          exact W.iret hx hb hr (fun t ht hW => ⟨_, rfl, (by first | rfl | (simp only [en_r, if_neg c_2, if_neg c_8, if_neg c_12, if_pos c_16]; done) | (simp only [en_r, if_neg c_2, if_neg c_8, if_neg c_12, if_pos c_16]; rfl) | (simp only [en_r, c_2, c_8, c_12, c_16, ↓reduceIte, Bool.false_eq_true, if_true, if_false, reduceCtorEq, not_true_eq_false, not_false_eq_true, eq_self]; done) | (simp only [en_r, c_2, c_8, c_12, c_16, ↓reduceIte, Bool.false_eq_true, if_true, if_false, reduceCtorEq, not_true_eq_false, not_false_eq_true, eq_self]; rfl) | (simp [en_r, c_2, c_8, c_12, c_16]; done)), ht⟩) (fun q h => absurd h List.not_mem_nil) dX6_evenings_26
        · skip
          refine lv_iload_n hx hb dX6_evenings_19 rfl (lv_at hl 3 rfl) ?_
          refine lv_iconst (v := 2) hx hb dX6_evenings_20 (by decide) ?_
          refine lv_icmp_le (tgt := 27) hx hb dX6_evenings_21 (by decide) (fun c_21 => ?_) (fun c_21 => ?_)
          · skip
            refine lv_aload_n hx hb dX6_evenings_27 rfl (lv_at hl 0 rfl) ?_
            refine vp_callSi (W.runV (As := []) (rest := []) ⟨hx, hb, hml, hown, hts⟩ (c_X6_noPlayer l D cI h len cd nm ks gs wt mi pl sk he nh ru bg la sd pl2 sk2 he2 nh2 ru2 bg2 la2 sd2 u0 l0 u1 l1 u2 l2 wy fi fl nu ik pr (by first | assumption | omega)) (cwV 0 hts gX6_evenings_X6_noPlayer rfl rfl rfl (by decide +kernel) ⟨Nat.le_of_ble_eq_true rfl, Nat.le_of_ble_eq_true rfl⟩) (vz_pvR (va_recv hK hP (ci := 6) (q0 := 0) rfl rfl) hZ hP) rfl rfl hl.1 rfl (lv_room (Nat.le_of_ble_eq_true rfl)) dX6_evenings_28 ⟨Nat.zero_le _, Nat.zero_le _⟩) (fun r_28 hr_28 => ?_)
            subst hr_28
            refine lv_if_eq (tgt := 37) hx hb dX6_evenings_31 (by decide) (fun c_31 => ?_) (fun c_31 => ?_)
            · skip
              replace c_31 := vz_b0 c_31
              refine lv_aload_n hx hb dX6_evenings_37 rfl (lv_at hl 0 rfl) ?_
              refine lv_iload_n hx hb dX6_evenings_38 rfl (lv_at hl 1 rfl) ?_
              refine W.eq (congrArg (fun z => F0 m 39 ls (.int z :: [.ref (h 0)])) (hn1.symm)) ?_
              refine lv_iload_n hx hb dX6_evenings_39 rfl (lv_at hl 2 rfl) ?_
              refine lv_iload_n hx hb dX6_evenings_40 rfl (lv_at hl 3 rfl) ?_
              refine vp_callSi (W.runV (As := [.int (nI (p0.toNatClampNeg)), .int p1, .int p2]) (rest := []) ⟨hx, hb, hml, hown, hts⟩ (c_X6_eveningFact l D cI h len cd nm ks gs wt mi pl sk he nh ru bg la sd pl2 sk2 he2 nh2 ru2 bg2 la2 sd2 u0 l0 u1 l1 u2 l2 wy fi fl nu ik pr p0.toNatClampNeg p1 p2 (by first | assumption | omega) (by first | assumption | omega)) (cwV 3 hts gX6_evenings_X6_eveningFact rfl rfl rfl (by decide +kernel) ⟨Nat.le_of_ble_eq_true rfl, Nat.le_of_ble_eq_true rfl⟩) (vz_pvR (va_recv hK hP (ci := 6) (q0 := 0) rfl rfl) hZ hP) rfl rfl hl.1 rfl (lv_room (Nat.le_of_ble_eq_true rfl)) dX6_evenings_41 ⟨Nat.zero_le _, Nat.zero_le _⟩) (fun r_41 hr_41 => ?_)
              subst hr_41
              exact W.iret hx hb hr (fun t ht hW => ⟨_, rfl, (by first | rfl | (simp only [en_r, if_neg c_2, if_neg c_8, if_neg c_12, if_neg c_16, if_pos c_21]; done) | (simp only [en_r, if_neg c_2, if_neg c_8, if_neg c_12, if_neg c_16, if_pos c_21]; rfl) | (simp only [en_r, c_2, c_8, c_12, c_16, c_21, c_31, ↓reduceIte, Bool.false_eq_true, if_true, if_false, reduceCtorEq, not_true_eq_false, not_false_eq_true, eq_self]; done) | (simp only [en_r, c_2, c_8, c_12, c_16, c_21, c_31, ↓reduceIte, Bool.false_eq_true, if_true, if_false, reduceCtorEq, not_true_eq_false, not_false_eq_true, eq_self]; rfl) | (simp [en_r, c_2, c_8, c_12, c_16, c_21, c_31]; done) | (simp only [en_r, if_neg c_2, if_neg c_8, if_neg c_12, if_neg c_16, if_pos c_21, c_31, ↓reduceIte, Bool.false_eq_true])), ht⟩) (fun q h => absurd h List.not_mem_nil) dX6_evenings_44
            · skip
              replace c_31 := vz_b1 c_31
              refine lv_bipush (v := (-103)) hx hb dX6_evenings_34 (by decide) ?_
              exact W.iret hx hb hr (fun t ht hW => ⟨_, rfl, (by first | rfl | (simp only [en_r, if_neg c_2, if_neg c_8, if_neg c_12, if_neg c_16, if_pos c_21]; done) | (simp only [en_r, if_neg c_2, if_neg c_8, if_neg c_12, if_neg c_16, if_pos c_21]; rfl) | (simp only [en_r, c_2, c_8, c_12, c_16, c_21, c_31, ↓reduceIte, Bool.false_eq_true, if_true, if_false, reduceCtorEq, not_true_eq_false, not_false_eq_true, eq_self]; done) | (simp only [en_r, c_2, c_8, c_12, c_16, c_21, c_31, ↓reduceIte, Bool.false_eq_true, if_true, if_false, reduceCtorEq, not_true_eq_false, not_false_eq_true, eq_self]; rfl) | (simp [en_r, c_2, c_8, c_12, c_16, c_21, c_31]; done) | (simp only [en_r, if_neg c_2, if_neg c_8, if_neg c_12, if_neg c_16, if_pos c_21, c_31, ↓reduceIte, Bool.false_eq_true])), ht⟩) (fun q h => absurd h List.not_mem_nil) dX6_evenings_36
          · skip
            refine lv_bipush (v := (-102)) hx hb dX6_evenings_24 (by decide) ?_
            exact W.iret hx hb hr (fun t ht hW => ⟨_, rfl, (by first | rfl | (simp only [en_r, if_neg c_2, if_neg c_8, if_neg c_12, if_neg c_16, if_neg c_21]; done) | (simp only [en_r, if_neg c_2, if_neg c_8, if_neg c_12, if_neg c_16, if_neg c_21]; rfl) | (simp only [en_r, c_2, c_8, c_12, c_16, c_21, ↓reduceIte, Bool.false_eq_true, if_true, if_false, reduceCtorEq, not_true_eq_false, not_false_eq_true, eq_self]; done) | (simp only [en_r, c_2, c_8, c_12, c_16, c_21, ↓reduceIte, Bool.false_eq_true, if_true, if_false, reduceCtorEq, not_true_eq_false, not_false_eq_true, eq_self]; rfl) | (simp [en_r, c_2, c_8, c_12, c_16, c_21]; done)), ht⟩) (fun q h => absurd h List.not_mem_nil) dX6_evenings_26

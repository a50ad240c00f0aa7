/-! what the methods of SongsAgainModel answer, as functions -/
def mo_in (v a b : Int64) : Bool := if v < a then false else if b < v then false else true
def mo_ones (b : Int32) : Nat → Int32
  | 0 => 0
  | j + 1 => mo_ones b j + ((b >>> (nI j &&& 31)) &&& 1)
def mo_kind (c : Int32) : Int32 := if c = 115 then 0 else if c = 108 then 1 else if c = 104 then 2 else if c = 110 then 3 else if c = 97 then 4 else -1
def mo_base (rw : Nat → Int32) (s : Nat) : Int32 := if rw (4 * s) = 2 then 2 else if rw (4 * s) = 4 then 3 else 1
def mo_w (rw : Nat → Int32) (s : Nat) : Int32 := if 0 ≤ mo_base rw s - rw (4 * s + 3) then mo_base rw s - rw (4 * s + 3) else 0
def mo_mins (rw : Nat → Int32) (s : Nat) : Int32 := if rw (4 * s) = 1 then 7 else 3
def mo_pool (sg : Nat) (r b : Int32) : Int32 := if r ≤ 1 then bk_all sg else b
def mo_is (rw : Nat → Int32) (bf s : Nat) : Bool := if rw (4 * s) = 3 then true else if rw (4 * s + 1) = rw (4 * bf + 1) then false else true
def mo_some (rw : Nat → Int32) (pool : Int32) (bf : Nat) : Nat → Int32
  | 0 => 0
  | j + 1 => mo_some rw pool bf j ||| (if mo_is rw bf j then pool &&& (1 <<< (nI j &&& 31)) else 0)
def mo_may (sg : Nat) (rw : Nat → Int32) (r b p : Int32) : Int32 := if r - r / 2 * 2 = 0 then mo_pool sg r b else if p = -1 then mo_pool sg r b else if mo_some rw (mo_pool sg r b) p.toNatClampNeg sg = 0 then mo_pool sg r b else mo_some rw (mo_pool sg r b) p.toNatClampNeg sg
def mo_sum (rw : Nat → Int32) (b : Int32) (fr : Bool) : Nat → Int32
  | 0 => 0
  | j + 1 => mo_sum rw b fr j + ((b >>> (nI j &&& 31)) &&& 1) * (if fr then mo_base rw j else mo_w rw j)
def mo_sh (sg : Nat) (rw : Nat → Int32) (s : Nat) (b : Int32) : Int32 := if (b >>> (nI s &&& 31)) &&& 1 = 0 then 0 else if mo_sum rw b false sg = 0 then 1 else mo_w rw s
def mo_shs (sg : Nat) (rw : Nat → Int32) (b : Int32) : Int32 := if mo_sum rw b false sg = 0 then mo_ones b 6 else mo_sum rw b false sg
theorem vz_bf {p : Int32} {sg : Nat} (h : p = -1 ∨ ∃ b : Nat, b < sg ∧ p = nI b) (hn : ¬ p = -1) (hsg : sg ≤ 6 := by assumption) : p.toNatClampNeg < sg ∧ 4 * p + 1 = nI (4 * p.toNatClampNeg + 1) := by
  rcases h with h | ⟨b, hb, rfl⟩
  · exact absurd h hn
  · rw [nI_clamp (by omega)]
    refine ⟨hb, ?_⟩
    rw [show (4 : Int32) * nI b = nI (4 * b) from pk_mul 4 b]
    exact nI_1 _

abbrev zM (cI : ClassId) (g : Nat → Nat) (pm : Nat) (rm : Nat) (rr : Int32) (st : Nat) (sg : Nat) (rn : Int32) (bg : Int32) (la : Int32) (ws : Bool) (pr : Nat) (ry : Nat) (hm : Nat) (xu : Int64) (xl : Int64) (sn : Int32) (kp : Int32) (kr : Int32) (kb : Int32) (kl : Int32) (kw : Bool) (kh : Nat) (hc : Int64) (pg : Nat → Int32) (rd : Nat → Int32) (rw : Nat → Int32) (ro : Nat → Int32) (be : Nat → Int32) (he : Nat → Int32) (kro : Nat → Int32) (khe : Nat → Int32) : va_W := [((g 0), .inr (7, [.ref (g 1), .int (nI pm), .ref (g 2), .int (nI rm), .int rr, .int (nI st), .int (nI sg), .int rn, .int bg, .int la, .int (vz_b ws), .int (nI pr), .ref (g 3), .ref (g 4), .ref (g 5), .int (nI ry), .int (nI hm), .ref (g 6), .long xu, .long xl, .int sn, .int kp, .int kr, .int kb, .int kl, .int (vz_b kw), .int (nI kh), .ref (g 7), .ref (g 8), .long hc])), ((g 1), .inl (cI, 22, .inl pg)), ((g 2), .inl (cI, 12, .inl rd)), ((g 3), .inl (cI, 24, .inl rw)), ((g 4), .inl (cI, 6, .inl ro)), ((g 5), .inl (cI, 6, .inl be)), ((g 6), .inl (cI, 8, .inl he)), ((g 7), .inl (cI, 24, .inl kro)), ((g 8), .inl (cI, 8, .inl khe))]
abbrev zArrArr (cI : ClassId) (a : Nat) (b : Nat) (n : Nat) (f : Nat → Int32) (k : Nat → Int32) : va_W := [(a, .inl (cI, n, .inl f)), (b, .inl (cI, n, .inl k))]
set_option maxHeartbeats 4000000 in
set_option maxRecDepth 100000 in
theorem c_X7_in (l : Launch) (p0 : Int64) (p1 : Int64) (p2 : Int64) : Met l yX7_in wsX7_in ({ frames := 0, cells := 0, slots := 0, locals := 0 } : Room) (vz_st [.long p0, .long p1, .long p2]) (vp_Si (fun r => r = vz_b (mo_in p0 p1 p2))) 0 0 (fun _ => False) := by
  refine Met.ofW (cc := cX7_in) (maxL := 6) (ret := (some .boolean)) (by decide) rfl ?_
  intro p e s m args below meth c s₁ B hml hv
  obtain ⟨rfl, -⟩ := hv
  have hx := B.exec
  have hb := B.bytes
  have hr := B.returns
  have hts := atoms_spec (ws := wsX7_in) B.pre
  have hown : s.vm.findClass RX7 = some m.cls := findClass_of_methodNamed B.named
  have hlocks := B.notSynchronized
  have hl := lv_entry ([.long p0, .long p1, .long p2]) (n := 6) (Nat.le_of_ble_eq_true rfl)
  rw [lg_entry_eq]
  generalize (lg_sl ([.long p0, .long p1, .long p2]) ++ List.replicate (6 - (lg_sl ([.long p0, .long p1, .long p2])).length) Slot.unset).toArray = ls at hl ⊢
  have hl : lv_has ls 6 [(0, .long p0), (2, .long p1), (4, .long p2)] := hl
  refine lv_lload_n hx hb dX7_in_0 rfl (lv_at hl 0 rfl) ?_
  refine lv_lload_n hx hb dX7_in_1 rfl (lv_at hl 1 rfl) ?_
  refine W.lcmp hx hb dX7_in_2 ?_
  refine lv_if_lt (tgt := 17) hx hb dX7_in_3 (by decide) (fun c_3 => ?_) (fun c_3 => ?_)
  · skip
    replace c_3 := (lg_cmp_lt _ _).mp c_3
    refine lv_iconst (v := 0) hx hb dX7_in_17 (by decide) ?_
    exact W.zret hx hb hr narrow_b0 (fun t ht hW => ⟨_, rfl, (by first | rfl | (simp only [mo_in, vz_b, if_pos c_3]; done) | (simp only [mo_in, vz_b, if_pos c_3]; rfl) | (simp only [mo_in, vz_b, c_3, ↓reduceIte, Bool.false_eq_true, if_true, if_false, reduceCtorEq, not_true_eq_false, not_false_eq_true, eq_self]; done) | (simp only [mo_in, vz_b, c_3, ↓reduceIte, Bool.false_eq_true, if_true, if_false, reduceCtorEq, not_true_eq_false, not_false_eq_true, eq_self]; rfl) | (simp [mo_in, vz_b, c_3]; done)), ht⟩) (fun q h => absurd h List.not_mem_nil) dX7_in_18
  · skip
    replace c_3 := mt (lg_cmp_lt _ _).mpr c_3
    refine lv_lload_n hx hb dX7_in_6 rfl (lv_at hl 0 rfl) ?_
    refine lv_lload hx hb dX7_in_7 (lv_at hl 2 rfl) ?_
    refine W.lcmp hx hb dX7_in_9 ?_
    refine lv_if_gt (tgt := 17) hx hb dX7_in_10 (by decide) (fun c_10 => ?_) (fun c_10 => ?_)
    · skip
      replace c_10 := (lg_cmp_gt _ _).mp c_10
      refine lv_iconst (v := 0) hx hb dX7_in_17 (by decide) ?_
      exact W.zret hx hb hr narrow_b0 (fun t ht hW => ⟨_, rfl, (by first | rfl | (simp only [mo_in, vz_b, if_neg c_3, if_pos c_10]; done) | (simp only [mo_in, vz_b, if_neg c_3, if_pos c_10]; rfl) | (simp only [mo_in, vz_b, c_3, c_10, ↓reduceIte, Bool.false_eq_true, if_true, if_false, reduceCtorEq, not_true_eq_false, not_false_eq_true, eq_self]; done) | (simp only [mo_in, vz_b, c_3, c_10, ↓reduceIte, Bool.false_eq_true, if_true, if_false, reduceCtorEq, not_true_eq_false, not_false_eq_true, eq_self]; rfl) | (simp [mo_in, vz_b, c_3, c_10]; done)), ht⟩) (fun q h => absurd h List.not_mem_nil) dX7_in_18
    · skip
      replace c_10 := mt (lg_cmp_gt _ _).mpr c_10
      refine lv_iconst (v := 1) hx hb dX7_in_13 (by decide) ?_
      refine lv_goto (tgt := 18) hx hb dX7_in_14 (by decide) ?_
      exact W.zret hx hb hr narrow_b1 (fun t ht hW => ⟨_, rfl, (by first | rfl | (simp only [mo_in, vz_b, if_neg c_3, if_neg c_10]; done) | (simp only [mo_in, vz_b, if_neg c_3, if_neg c_10]; rfl) | (simp only [mo_in, vz_b, c_3, c_10, ↓reduceIte, Bool.false_eq_true, if_true, if_false, reduceCtorEq, not_true_eq_false, not_false_eq_true, eq_self]; done) | (simp only [mo_in, vz_b, c_3, c_10, ↓reduceIte, Bool.false_eq_true, if_true, if_false, reduceCtorEq, not_true_eq_false, not_false_eq_true, eq_self]; rfl) | (simp [mo_in, vz_b, c_3, c_10]; done)), ht⟩) (fun q h => absurd h List.not_mem_nil) dX7_in_18
set_option maxHeartbeats 4000000 in
set_option maxRecDepth 100000 in
theorem c_X7_copy (l : Launch) (D : va_G) (cI : ClassId) (a : Nat) (b : Nat) (n : Nat) (f : Nat → Int32) (k : Nat → Int32) (sz : Nat) (hn : n < 2 ^ 31) : Met l yX7_copy wsX7_copy ({ frames := 0, cells := 0, slots := 0, locals := 0 } : Room) (vz_rw D cI (zArrArr cI a b n f k) sz [.ref a, .ref b]) (va_Qv (fun (_ : Unit) => True) (fun (u : Unit) (t : State) => va_P D vwCl (zArrArr cI a b n f (rw_cp f k n)) t.heap) (va_A (zArrArr cI a b n f k) sz)) 0 0 (va_A (zArrArr cI a b n f k) sz) := by
  refine Met.ofW (cc := cX7_copy) (maxL := 3) (ret := none) (by decide) rfl ?_
  intro p e s m args below meth c s₁ B hml hv
  obtain ⟨rfl, hsz, hP, hZ, hD0⟩ := hv
  obtain ⟨hK, hN⟩ := id hZ
  have hx := B.exec
  have hb := B.bytes
  have hr := B.returns
  have hts := atoms_spec (ws := wsX7_copy) B.pre
  have hown : s.vm.findClass RX7 = some m.cls := findClass_of_methodNamed B.named
  have hlocks := B.notSynchronized
  subst hsz
  have hD := hD0.self (sz := s.heap.size)
  generalize hAe : va_A (zArrArr cI a b n f k) s.heap.size = A at hD ⊢
  have hA : ∀ q : Nat, s.heap.size ≤ q → A q := fun q h => by rw [← hAe]; exact Or.inr h
  have hS : va_S A s.heap s.heap [] := va_S.rf
  have hl := lv_entry ([.ref a, .ref b]) (n := 3) (Nat.le_of_ble_eq_true rfl)
  rw [lg_entry_eq]
  generalize (lg_sl ([.ref a, .ref b]) ++ List.replicate (3 - (lg_sl ([.ref a, .ref b])).length) Slot.unset).toArray = ls at hl ⊢
  have hl : lv_has ls 3 [(0, .ref a), (1, .ref b)] := hl
  have hP : va_P D vwCl (zArrArr cI a b n f k) s.heap := hP
  refine lv_iconst (v := 0) hx hb dX7_copy_0 (by decide) ?_
  refine lv_istore_n (lv' := [(2, .int 0), (0, .ref a), (1, .ref b)]) hx hb dX7_copy_1 rfl hl (by decide) rfl (fun ls hl => ?_)
  have L_2 : ∀ (d_2 : Nat) (j : Nat) (H_2 : Heap) (locs_2 : List Loc), n - j < d_2 → (j ≤ n) → va_P D vwCl (zArrArr cI a b n f (rw_cp f k j)) H_2 → va_D A (zArrArr cI a b n f (rw_cp f k j)) → va_S A s.heap H_2 locs_2 → ∀ (ls : Array Slot), lv_has ls 3 [(2, .int (nI j)), (0, .ref a), (1, .ref b)] → W p l e ({ frames := 0, cells := 0, slots := 0, locals := 0 } : Room) s m ([.ref a, .ref b] : List Value).toArray below meth c H_2 locs_2 0 0 (MQ below (va_Qv (fun (_ : Unit) => True) (fun (u : Unit) (t : State) => va_P D vwCl (zArrArr cI a b n f (rw_cp f k n)) t.heap) A) ([.ref a, .ref b] : List Value).toArray s 0 0 A) (F0 m 2 ls []) := by
    intro d_2
    induction d_2 with
    | zero => intro j H_2 locs_2 hd; exact absurd hd (Nat.not_lt_zero _)
    | succ d_2 ih_2 =>
      intro j H_2 locs_2 hd_2 hj hP hD hS ls hl
      refine lv_iload_n hx hb dX7_copy_2 rfl (lv_at hl 0 rfl) ?_
      refine lv_aload_n hx hb dX7_copy_3 rfl (lv_at hl 1 rfl) ?_
      refine va_alen (v := nI n) hx hb hK hP 0 0 rfl (ty := .int) rfl rfl dX7_copy_4 ?_
      refine lv_icmp_ge (tgt := 20) hx hb dX7_copy_5 (by decide) (fun c_5 => ?_) (fun c_5 => ?_)
      · skip
        have hje : j = n := Nat.le_antisymm hj (vz_ge c_5 (by omega) (by omega))
        have en_k : rw_cp f k n = rw_cp f k j := by rw [hje]
        exact W.vret hx hb hr (fun t ht hW => ⟨⟨(), rfl, trivial, (by show va_P D vwCl (zArrArr cI a b n f (rw_cp f k n)) t.heap; rw [ht, en_k]; exact hP)⟩, hS.F ht⟩) hS.2.2 dX7_copy_20
      · skip
        have hlt : j < n := vz_lt c_5 (by omega)
        refine lv_aload_n hx hb dX7_copy_8 rfl (lv_at hl 2 rfl) ?_
        refine lv_iload_n hx hb dX7_copy_9 rfl (lv_at hl 0 rfl) ?_
        refine lv_aload_n hx hb dX7_copy_10 rfl (lv_at hl 1 rfl) ?_
        refine lv_iload_n hx hb dX7_copy_11 rfl (lv_at hl 0 rfl) ?_
        refine va_iald hx hb hK hP 0 0 rfl rfl (i := nI j) (vp_in_nI (by first | assumption | omega) (by first | assumption | omega)) dX7_copy_12 ?_
        refine W.eq (congrArg (fun z => F0 m 13 ls (.int z :: [.int (nI j), .ref b])) (vz_ix f (by first | assumption | omega))) ?_
        refine va_iast hx hb hK hP hD hS 1 0 rfl rfl (i := nI j) (x := f j) (vp_in_nI (by first | assumption | omega) (by first | assumption | omega)) dX7_copy_13 (fun H_13 locs_13 hP9 hD9 hS9 => ?_)
        rw [show (nI j : Int32).toNatClampNeg = j from nI_clamp (by first | assumption | omega)] at hP9 hD9
        replace hP : va_P D vwCl (zArrArr cI a b n f (upd (rw_cp f k j) j (f j))) H_13 := hP9
        replace hD : va_D A (zArrArr cI a b n f (upd (rw_cp f k j) j (f j))) := hD9
        replace hS := hS9
        clear hP9 hD9 hS9
        refine lv_iinc (v := nI (j + 1)) (lv' := [(2, .int (nI (j + 1))), (0, .ref a), (1, .ref b)]) hx hb dX7_copy_14 hl (k := 0) rfl (vz_inc _) (by decide) rfl (fun ls hl => ?_)
        refine lv_goto (tgt := 2) hx hb dX7_copy_17 (by decide) ?_
        have ew_k : rw_cp f k (j + 1) = upd (rw_cp f k j) j (f j) := by exact (rw_cp_s f k j).symm
        replace hP : va_P D vwCl (zArrArr cI a b n f (rw_cp f k (j + 1))) H_13 := by rw [ew_k]; exact hP
        replace hD : va_D A (zArrArr cI a b n f (rw_cp f k (j + 1))) := vz_same hD rfl
        exact ih_2 (j + 1) _ _ (by omega) (by omega) hP hD hS ls (lv_sub hl [0, 1, 2] rfl)
  have ew_k : rw_cp f k 0 = k := by exact rw_cp_0 f k
  replace hP : va_P D vwCl (zArrArr cI a b n f (rw_cp f k 0)) s.heap := by rw [ew_k]; exact hP
  replace hD : va_D A (zArrArr cI a b n f (rw_cp f k 0)) := vz_same hD rfl
  exact L_2 _ 0 _ _ (Nat.lt_succ_self _) (Nat.zero_le _) hP hD hS ls (lv_sub hl [0, 1, 2] rfl)
set_option maxHeartbeats 4000000 in
set_option maxRecDepth 100000 in
theorem c_X7_ones (l : Launch) (p0 : Int32) : Met l yX7_ones wsX7_ones ({ frames := 0, cells := 0, slots := 0, locals := 0 } : Room) (vz_st [.int p0]) (vp_Si (fun r => r = mo_ones p0 6)) 0 0 (fun _ => False) := by
  refine Met.ofW (cc := cX7_ones) (maxL := 3) (ret := (some .int)) (by decide) rfl ?_
  intro p e s m args below meth c s₁ B hml hv
  obtain ⟨rfl, -⟩ := hv
  have hx := B.exec
  have hb := B.bytes
  have hr := B.returns
  have hts := atoms_spec (ws := wsX7_ones) B.pre
  have hown : s.vm.findClass RX7 = some m.cls := findClass_of_methodNamed B.named
  have hlocks := B.notSynchronized
  have hl := lv_entry ([.int p0]) (n := 3) (Nat.le_of_ble_eq_true rfl)
  rw [lg_entry_eq]
  generalize (lg_sl ([.int p0]) ++ List.replicate (3 - (lg_sl ([.int p0])).length) Slot.unset).toArray = ls at hl ⊢
  have hl : lv_has ls 3 [(0, .int p0)] := hl
  refine lv_iconst (v := 0) hx hb dX7_ones_0 (by decide) ?_
  refine lv_istore_n (lv' := [(1, .int 0), (0, .int p0)]) hx hb dX7_ones_1 rfl hl (by decide) rfl (fun ls hl => ?_)
  refine lv_iconst (v := 0) hx hb dX7_ones_2 (by decide) ?_
  refine lv_istore_n (lv' := [(2, .int 0), (1, .int 0), (0, .int p0)]) hx hb dX7_ones_3 rfl hl (by decide) rfl (fun ls hl => ?_)
  have L_4 : ∀ (d_4 : Nat) (j : Nat) (acc : Int32), 6 - j < d_4 → (j ≤ 6) → (acc = mo_ones p0 j) → ∀ (ls : Array Slot), lv_has ls 3 [(2, .int (nI j)), (1, .int acc), (0, .int p0)] → W p l e ({ frames := 0, cells := 0, slots := 0, locals := 0 } : Room) s m ([.int p0] : List Value).toArray below meth c s.heap [] 0 0 (MQ below (vp_Si (fun r => r = mo_ones p0 6)) ([.int p0] : List Value).toArray s 0 0 (fun _ => False)) (F0 m 4 ls []) := by
    intro d_4
    induction d_4 with
    | zero => intro j acc hd; exact absurd hd (Nat.not_lt_zero _)
    | succ d_4 ih_4 =>
      intro j acc hd_4 hj hacc ls hl
      refine lv_iload_n hx hb dX7_ones_4 rfl (lv_at hl 0 rfl) ?_
      refine lv_bipush (v := 6) hx hb dX7_ones_5 (by decide) ?_
      refine lv_icmp_ge (tgt := 24) hx hb dX7_ones_7 (by decide) (fun c_7 => ?_) (fun c_7 => ?_)
      · skip
        have hje : j = 6 := Nat.le_antisymm hj (vz_ge (n := 6) c_7 (by omega) (by omega))
        refine lv_iload_n hx hb dX7_ones_24 rfl (lv_at hl 1 rfl) ?_
        exact W.iret hx hb hr (fun t ht hW => ⟨_, rfl, (by rw [hacc, hje]), ht⟩) (fun q h => absurd h List.not_mem_nil) dX7_ones_25
      · skip
        have hlt : j < 6 := vz_lt (n := 6) c_7 (by omega)
        refine lv_iload_n hx hb dX7_ones_10 rfl (lv_at hl 1 rfl) ?_
        refine lv_iload_n hx hb dX7_ones_11 rfl (lv_at hl 2 rfl) ?_
        refine lv_iload_n hx hb dX7_ones_12 rfl (lv_at hl 0 rfl) ?_
        refine lv_ishr hx hb dX7_ones_13 ?_
        refine lv_iconst (v := 1) hx hb dX7_ones_14 (by decide) ?_
        refine lv_iand hx hb dX7_ones_15 ?_
        refine lv_iadd hx hb dX7_ones_16 ?_
        refine lv_istore_n (lv' := [(1, .int (acc + ((p0 >>> ((nI j) &&& 31)) &&& 1))), (2, .int (nI j)), (0, .int p0)]) hx hb dX7_ones_17 rfl hl (by decide) rfl (fun ls hl => ?_)
        refine lv_iinc (v := nI (j + 1)) (lv' := [(2, .int (nI (j + 1))), (1, .int (acc + ((p0 >>> ((nI j) &&& 31)) &&& 1))), (0, .int p0)]) hx hb dX7_ones_18 hl (k := 1) rfl (vz_inc _) (by decide) rfl (fun ls hl => ?_)
        refine lv_goto (tgt := 4) hx hb dX7_ones_21 (by decide) ?_
        exact ih_4 (j + 1) (acc + ((p0 >>> ((nI j) &&& 31)) &&& 1)) (by omega) (by omega) (by rw [mo_ones, hacc]) ls (lv_sub hl [0, 1, 2] rfl)
  exact L_4 _ 0 0 (Nat.lt_succ_self _) (Nat.zero_le _) rfl ls (lv_sub hl [0, 1, 2] rfl)
set_option maxHeartbeats 4000000 in
set_option maxRecDepth 100000 in
theorem c_X7_kindBy (l : Launch) (p0 : Int32) : Met l yX7_kindBy wsX7_kindBy ({ frames := 0, cells := 0, slots := 0, locals := 0 } : Room) (vz_st [.int p0]) (vp_Si (fun r => r = mo_kind p0)) 0 0 (fun _ => False) := by
  refine Met.ofW (cc := cX7_kindBy) (maxL := 1) (ret := (some .int)) (by decide) rfl ?_
  intro p e s m args below meth c s₁ B hml hv
  obtain ⟨rfl, -⟩ := hv
  have hx := B.exec
  have hb := B.bytes
  have hr := B.returns
  have hts := atoms_spec (ws := wsX7_kindBy) B.pre
  have hown : s.vm.findClass RX7 = some m.cls := findClass_of_methodNamed B.named
  have hlocks := B.notSynchronized
  have hl := lv_entry ([.int p0]) (n := 1) (Nat.le_of_ble_eq_true rfl)
  rw [lg_entry_eq]
  generalize (lg_sl ([.int p0]) ++ List.replicate (1 - (lg_sl ([.int p0])).length) Slot.unset).toArray = ls at hl ⊢
  have hl : lv_has ls 1 [(0, .int p0)] := hl
  refine lv_iload_n hx hb dX7_kindBy_0 rfl (lv_at hl 0 rfl) ?_
  refine lv_bipush (v := 115) hx hb dX7_kindBy_1 (by decide) ?_
  refine lv_icmp_ne (tgt := 10) hx hb dX7_kindBy_3 (by decide) (fun c_3 => ?_) (fun c_3 => ?_)
  · skip
    refine lv_iload_n hx hb dX7_kindBy_10 rfl (lv_at hl 0 rfl) ?_
    refine lv_bipush (v := 108) hx hb dX7_kindBy_11 (by decide) ?_
    refine lv_icmp_ne (tgt := 20) hx hb dX7_kindBy_13 (by decide) (fun c_13 => ?_) (fun c_13 => ?_)
    · skip
      refine lv_iload_n hx hb dX7_kindBy_20 rfl (lv_at hl 0 rfl) ?_
      refine lv_bipush (v := 104) hx hb dX7_kindBy_21 (by decide) ?_
      refine lv_icmp_ne (tgt := 30) hx hb dX7_kindBy_23 (by decide) (fun c_23 => ?_) (fun c_23 => ?_)
      · skip
        refine lv_iload_n hx hb dX7_kindBy_30 rfl (lv_at hl 0 rfl) ?_
        refine lv_bipush (v := 110) hx hb dX7_kindBy_31 (by decide) ?_
        refine lv_icmp_ne (tgt := 40) hx hb dX7_kindBy_33 (by decide) (fun c_33 => ?_) (fun c_33 => ?_)
        · skip
          refine lv_iload_n hx hb dX7_kindBy_40 rfl (lv_at hl 0 rfl) ?_
          refine lv_bipush (v := 97) hx hb dX7_kindBy_41 (by decide) ?_
          refine lv_icmp_ne (tgt := 50) hx hb dX7_kindBy_43 (by decide) (fun c_43 => ?_) (fun c_43 => ?_)
          · skip
            refine lv_iconst (v := (-1)) hx hb dX7_kindBy_50 (by decide) ?_
            exact W.iret hx hb hr (fun t ht hW => ⟨_, rfl, (by first | rfl | (simp only [mo_kind, if_neg c_3, if_neg c_13, if_neg c_23, if_neg c_33, if_neg c_43]; done) | (simp only [mo_kind, if_neg c_3, if_neg c_13, if_neg c_23, if_neg c_33, if_neg c_43]; rfl) | (simp only [mo_kind, c_3, c_13, c_23, c_33, c_43, ↓reduceIte, Bool.false_eq_true, if_true, if_false, reduceCtorEq, not_true_eq_false, not_false_eq_true, eq_self]; done) | (simp only [mo_kind, c_3, c_13, c_23, c_33, c_43, ↓reduceIte, Bool.false_eq_true, if_true, if_false, reduceCtorEq, not_true_eq_false, not_false_eq_true, eq_self]; rfl) | (simp [mo_kind, c_3, c_13, c_23, c_33, c_43]; done)), ht⟩) (fun q h => absurd h List.not_mem_nil) dX7_kindBy_51
          · skip
            refine lv_iconst (v := 4) hx hb dX7_kindBy_46 (by decide) ?_
            refine lv_goto (tgt := 51) hx hb dX7_kindBy_47 (by decide) ?_
            exact W.iret hx hb hr (fun t ht hW => ⟨_, rfl, (by first | rfl | (simp only [mo_kind, if_neg c_3, if_neg c_13, if_neg c_23, if_neg c_33, if_pos c_43]; done) | (simp only [mo_kind, if_neg c_3, if_neg c_13, if_neg c_23, if_neg c_33, if_pos c_43]; rfl) | (simp only [mo_kind, c_3, c_13, c_23, c_33, c_43, ↓reduceIte, Bool.false_eq_true, if_true, if_false, reduceCtorEq, not_true_eq_false, not_false_eq_true, eq_self]; done) | (simp only [mo_kind, c_3, c_13, c_23, c_33, c_43, ↓reduceIte, Bool.false_eq_true, if_true, if_false, reduceCtorEq, not_true_eq_false, not_false_eq_true, eq_self]; rfl) | (simp [mo_kind, c_3, c_13, c_23, c_33, c_43]; done)), ht⟩) (fun q h => absurd h List.not_mem_nil) dX7_kindBy_51
        · skip
          refine lv_iconst (v := 3) hx hb dX7_kindBy_36 (by decide) ?_
          refine lv_goto (tgt := 51) hx hb dX7_kindBy_37 (by decide) ?_
          exact W.iret hx hb hr (fun t ht hW => ⟨_, rfl, (by first | rfl | (simp only [mo_kind, if_neg c_3, if_neg c_13, if_neg c_23, if_pos c_33]; done) | (simp only [mo_kind, if_neg c_3, if_neg c_13, if_neg c_23, if_pos c_33]; rfl) | (simp only [mo_kind, c_3, c_13, c_23, c_33, ↓reduceIte, Bool.false_eq_true, if_true, if_false, reduceCtorEq, not_true_eq_false, not_false_eq_true, eq_self]; done) | (simp only [mo_kind, c_3, c_13, c_23, c_33, ↓reduceIte, Bool.false_eq_true, if_true, if_false, reduceCtorEq, not_true_eq_false, not_false_eq_true, eq_self]; rfl) | (simp [mo_kind, c_3, c_13, c_23, c_33]; done)), ht⟩) (fun q h => absurd h List.not_mem_nil) dX7_kindBy_51
      · skip
        refine lv_iconst (v := 2) hx hb dX7_kindBy_26 (by decide) ?_
        refine lv_goto (tgt := 51) hx hb dX7_kindBy_27 (by decide) ?_
        exact W.iret hx hb hr (fun t ht hW => ⟨_, rfl, (by first | rfl | (simp only [mo_kind, if_neg c_3, if_neg c_13, if_pos c_23]; done) | (simp only [mo_kind, if_neg c_3, if_neg c_13, if_pos c_23]; rfl) | (simp only [mo_kind, c_3, c_13, c_23, ↓reduceIte, Bool.false_eq_true, if_true, if_false, reduceCtorEq, not_true_eq_false, not_false_eq_true, eq_self]; done) | (simp only [mo_kind, c_3, c_13, c_23, ↓reduceIte, Bool.false_eq_true, if_true, if_false, reduceCtorEq, not_true_eq_false, not_false_eq_true, eq_self]; rfl) | (simp [mo_kind, c_3, c_13, c_23]; done)), ht⟩) (fun q h => absurd h List.not_mem_nil) dX7_kindBy_51
    · skip
      refine lv_iconst (v := 1) hx hb dX7_kindBy_16 (by decide) ?_
      refine lv_goto (tgt := 51) hx hb dX7_kindBy_17 (by decide) ?_
      exact W.iret hx hb hr (fun t ht hW => ⟨_, rfl, (by first | rfl | (simp only [mo_kind, if_neg c_3, if_pos c_13]; done) | (simp only [mo_kind, if_neg c_3, if_pos c_13]; rfl) | (simp only [mo_kind, c_3, c_13, ↓reduceIte, Bool.false_eq_true, if_true, if_false, reduceCtorEq, not_true_eq_false, not_false_eq_true, eq_self]; done) | (simp only [mo_kind, c_3, c_13, ↓reduceIte, Bool.false_eq_true, if_true, if_false, reduceCtorEq, not_true_eq_false, not_false_eq_true, eq_self]; rfl) | (simp [mo_kind, c_3, c_13]; done)), ht⟩) (fun q h => absurd h List.not_mem_nil) dX7_kindBy_51
  · skip
    refine lv_iconst (v := 0) hx hb dX7_kindBy_6 (by decide) ?_
    refine lv_goto (tgt := 51) hx hb dX7_kindBy_7 (by decide) ?_
    exact W.iret hx hb hr (fun t ht hW => ⟨_, rfl, (by first | rfl | (simp only [mo_kind, if_pos c_3]; done) | (simp only [mo_kind, if_pos c_3]; rfl) | (simp only [mo_kind, c_3, ↓reduceIte, Bool.false_eq_true, if_true, if_false, reduceCtorEq, not_true_eq_false, not_false_eq_true, eq_self]; done) | (simp only [mo_kind, c_3, ↓reduceIte, Bool.false_eq_true, if_true, if_false, reduceCtorEq, not_true_eq_false, not_false_eq_true, eq_self]; rfl) | (simp [mo_kind, c_3]; done)), ht⟩) (fun q h => absurd h List.not_mem_nil) dX7_kindBy_51
set_option maxHeartbeats 4000000 in
set_option maxRecDepth 100000 in
theorem c_X7_all (l : Launch) (D : va_G) (cI : ClassId) (g : Nat → Nat) (pm : Nat) (rm : Nat) (rr : Int32) (st : Nat) (sg : Nat) (rn : Int32) (bg : Int32) (la : Int32) (ws : Bool) (pr : Nat) (ry : Nat) (hm : Nat) (xu : Int64) (xl : Int64) (sn : Int32) (kp : Int32) (kr : Int32) (kb : Int32) (kl : Int32) (kw : Bool) (kh : Nat) (hc : Int64) (pg : Nat → Int32) (rd : Nat → Int32) (rw : Nat → Int32) (ro : Nat → Int32) (be : Nat → Int32) (he : Nat → Int32) (kro : Nat → Int32) (khe : Nat → Int32) : Met l yX7_all wsX7_all ({ frames := 0, cells := 0, slots := 0, locals := 0 } : Room) (vz_ro D cI (zM cI g pm rm rr st sg rn bg la ws pr ry hm xu xl sn kp kr kb kl kw kh hc pg rd rw ro be he kro khe) [.ref (g 0)]) (vp_Si (fun r => r = bk_all sg)) 0 0 (fun _ => False) := by
  refine Met.ofW (cc := cX7_all) (maxL := 1) (ret := (some .int)) (by decide) rfl ?_
  intro p e s m args below meth c s₁ B hml hv
  obtain ⟨rfl, hP, hZ⟩ := hv
  obtain ⟨hK, hN⟩ := id hZ
  have hx := B.exec
  have hb := B.bytes
  have hr := B.returns
  have hts := atoms_spec (ws := wsX7_all) B.pre
  have hown : s.vm.findClass RX7 = some m.cls := findClass_of_methodNamed B.named
  have hlocks := B.notSynchronized
  have k73 := hts (.fieldLink RX7 73 "SongsAgainModel" "songs" "I") (List.mem_of_getElem? (i := 1) rfl)
  have iX7 : ∀ w ∈ u_ws RX7 TX7 30, w ∈ wsX7_all := vz_in (i := 2) (n := 30) rfl
  have hl := lv_entry ([.ref (g 0)]) (n := 1) (Nat.le_of_ble_eq_true rfl)
  rw [lg_entry_eq]
  generalize (lg_sl ([.ref (g 0)]) ++ List.replicate (1 - (lg_sl ([.ref (g 0)])).length) Slot.unset).toArray = ls at hl ⊢
  have hl : lv_has ls 1 [(0, .ref (g 0))] := hl
  refine lv_iconst (v := 1) hx hb dX7_all_0 (by decide) ?_
  refine lv_aload_n hx hb dX7_all_1 rfl (lv_at hl 0 rfl) ?_
  refine va_get (D := D) (ci := 7) (v := .int (nI sg)) (C := RX7) (T := TX7) (N := 30) hx hb hts iX7 hown hK hP 0 rfl rfl 6 (by decide) k73 (fun _ h9 => h9) rfl dX7_all_2 ?_
  refine lv_ishl hx hb dX7_all_5 ?_
  refine lv_iconst (v := 1) hx hb dX7_all_6 (by decide) ?_
  refine lv_isub hx hb dX7_all_7 ?_
  exact W.iret hx hb hr (fun t ht hW => ⟨_, rfl, (by first | rfl | (simp only [bk_all]; done) | (simp only [bk_all]; rfl) | (simp only [bk_all, ↓reduceIte, Bool.false_eq_true, if_true, if_false, reduceCtorEq, not_true_eq_false, not_false_eq_true, eq_self]; done) | (simp only [bk_all, ↓reduceIte, Bool.false_eq_true, if_true, if_false, reduceCtorEq, not_true_eq_false, not_false_eq_true, eq_self]; rfl) | (simp [bk_all]; done)), ht⟩) (fun q h => absurd h List.not_mem_nil) dX7_all_8
set_option maxHeartbeats 4000000 in
set_option maxRecDepth 100000 in
theorem c_X7_lacks (l : Launch) (D : va_G) (cI : ClassId) (g : Nat → Nat) (pm : Nat) (rm : Nat) (rr : Int32) (st : Nat) (sg : Nat) (rn : Int32) (bg : Int32) (la : Int32) (ws : Bool) (pr : Nat) (ry : Nat) (hm : Nat) (xu : Int64) (xl : Int64) (sn : Int32) (kp : Int32) (kr : Int32) (kb : Int32) (kl : Int32) (kw : Bool) (kh : Nat) (hc : Int64) (pg : Nat → Int32) (rd : Nat → Int32) (rw : Nat → Int32) (ro : Nat → Int32) (be : Nat → Int32) (he : Nat → Int32) (kro : Nat → Int32) (khe : Nat → Int32) (hsg : sg ≤ 6) : Met l yX7_lacks wsX7_lacks ({ frames := 0, cells := 0, slots := 0, locals := 0 } : Room) (vz_ro D cI (zM cI g pm rm rr st sg rn bg la ws pr ry hm xu xl sn kp kr kb kl kw kh hc pg rd rw ro be he kro khe) [.ref (g 0)]) (vp_Si (fun r => r = vz_b (sa_np sg))) 0 0 (fun _ => False) := by
  refine Met.ofW (cc := cX7_lacks) (maxL := 1) (ret := (some .boolean)) (by decide) rfl ?_
  intro p e s m args below meth c s₁ B hml hv
  obtain ⟨rfl, hP, hZ⟩ := hv
  obtain ⟨hK, hN⟩ := id hZ
  have hx := B.exec
  have hb := B.bytes
  have hr := B.returns
  have hts := atoms_spec (ws := wsX7_lacks) B.pre
  have hown : s.vm.findClass RX7 = some m.cls := findClass_of_methodNamed B.named
  have hlocks := B.notSynchronized
  have k73 := hts (.fieldLink RX7 73 "SongsAgainModel" "songs" "I") (List.mem_of_getElem? (i := 1) rfl)
  have iX7 : ∀ w ∈ u_ws RX7 TX7 30, w ∈ wsX7_lacks := vz_in (i := 2) (n := 30) rfl
  have hl := lv_entry ([.ref (g 0)]) (n := 1) (Nat.le_of_ble_eq_true rfl)
  rw [lg_entry_eq]
  generalize (lg_sl ([.ref (g 0)]) ++ List.replicate (1 - (lg_sl ([.ref (g 0)])).length) Slot.unset).toArray = ls at hl ⊢
  have hl : lv_has ls 1 [(0, .ref (g 0))] := hl
  refine lv_aload_n hx hb dX7_lacks_0 rfl (lv_at hl 0 rfl) ?_
  refine va_get (D := D) (ci := 7) (v := .int (nI sg)) (C := RX7) (T := TX7) (N := 30) hx hb hts iX7 hown hK hP 0 rfl rfl 6 (by decide) k73 (fun _ h9 => h9) rfl dX7_lacks_1 ?_
  refine lv_if_ne (tgt := 11) hx hb dX7_lacks_4 (by decide) (fun c_4 => ?_) (fun c_4 => ?_)
  · skip
    replace c_4 : ¬ sg = 0 := fun q => c_4 (by rw [q] ; rfl)
    refine lv_iconst (v := 0) hx hb dX7_lacks_11 (by decide) ?_
    exact W.zret hx hb hr narrow_b0 (fun t ht hW => ⟨_, rfl, (by first | rfl | (simp only [sa_np, vz_b, if_neg c_4]; done) | (simp only [sa_np, vz_b, if_neg c_4]; rfl) | (simp only [sa_np, vz_b, c_4, ↓reduceIte, Bool.false_eq_true, if_true, if_false, reduceCtorEq, not_true_eq_false, not_false_eq_true, eq_self]; done) | (simp only [sa_np, vz_b, c_4, ↓reduceIte, Bool.false_eq_true, if_true, if_false, reduceCtorEq, not_true_eq_false, not_false_eq_true, eq_self]; rfl) | (simp [sa_np, vz_b, c_4]; done)), ht⟩) (fun q h => absurd h List.not_mem_nil) dX7_lacks_12
  · skip
    replace c_4 : sg = 0 := (nI_eq (by omega) (by omega)).mp c_4
    refine lv_iconst (v := 1) hx hb dX7_lacks_7 (by decide) ?_
    refine lv_goto (tgt := 12) hx hb dX7_lacks_8 (by decide) ?_
    exact W.zret hx hb hr narrow_b1 (fun t ht hW => ⟨_, rfl, (by first | rfl | (simp only [sa_np, vz_b, if_pos c_4]; done) | (simp only [sa_np, vz_b, if_pos c_4]; rfl) | (simp only [sa_np, vz_b, c_4, ↓reduceIte, Bool.false_eq_true, if_true, if_false, reduceCtorEq, not_true_eq_false, not_false_eq_true, eq_self]; done) | (simp only [sa_np, vz_b, c_4, ↓reduceIte, Bool.false_eq_true, if_true, if_false, reduceCtorEq, not_true_eq_false, not_false_eq_true, eq_self]; rfl) | (simp [sa_np, vz_b, c_4]; done)), ht⟩) (fun q h => absurd h List.not_mem_nil) dX7_lacks_12
set_option maxHeartbeats 4000000 in
set_option maxRecDepth 100000 in
theorem c_X7_isSong (l : Launch) (D : va_G) (cI : ClassId) (g : Nat → Nat) (pm : Nat) (rm : Nat) (rr : Int32) (st : Nat) (sg : Nat) (rn : Int32) (bg : Int32) (la : Int32) (ws : Bool) (pr : Nat) (ry : Nat) (hm : Nat) (xu : Int64) (xl : Int64) (sn : Int32) (kp : Int32) (kr : Int32) (kb : Int32) (kl : Int32) (kw : Bool) (kh : Nat) (hc : Int64) (pg : Nat → Int32) (rd : Nat → Int32) (rw : Nat → Int32) (ro : Nat → Int32) (be : Nat → Int32) (he : Nat → Int32) (kro : Nat → Int32) (khe : Nat → Int32) (p0 : Int32) : Met l yX7_isSong wsX7_isSong ({ frames := 1, cells := 0, slots := 0, locals := 25 } : Room) (vz_ro D cI (zM cI g pm rm rr st sg rn bg la ws pr ry hm xu xl sn kp kr kb kl kw kh hc pg rd rw ro be he kro khe) [.ref (g 0), .int p0]) (vp_Si (fun r => r = vz_b (mo_in (p0).toInt64 0 (nI sg - 1).toInt64))) 0 0 (fun _ => False) := by
  refine Met.ofW (cc := cX7_isSong) (maxL := 2) (ret := (some .boolean)) (by decide) rfl ?_
  intro p e s m args below meth c s₁ B hml hv
  obtain ⟨rfl, hP, hZ⟩ := hv
  obtain ⟨hK, hN⟩ := id hZ
  have hx := B.exec
  have hb := B.bytes
  have hr := B.returns
  have hts := atoms_spec (ws := wsX7_isSong) B.pre
  have hown : s.vm.findClass RX7 = some m.cls := findClass_of_methodNamed B.named
  have hlocks := B.notSynchronized
  have k73 := hts (.fieldLink RX7 73 "SongsAgainModel" "songs" "I") (List.mem_of_getElem? (i := 1) rfl)
  have iX7 : ∀ w ∈ u_ws RX7 TX7 30, w ∈ wsX7_isSong := vz_in (i := 6) (n := 30) rfl
  have hl := lv_entry ([.ref (g 0), .int p0]) (n := 2) (Nat.le_of_ble_eq_true rfl)
  rw [lg_entry_eq]
  generalize (lg_sl ([.ref (g 0), .int p0]) ++ List.replicate (2 - (lg_sl ([.ref (g 0), .int p0])).length) Slot.unset).toArray = ls at hl ⊢
  have hl : lv_has ls 2 [(0, .ref (g 0)), (1, .int p0)] := hl
  refine lv_iload_n hx hb dX7_isSong_0 rfl (lv_at hl 1 rfl) ?_
  refine lv_i2l (v := (p0 : Int32).toInt64) hx hb dX7_isSong_1 rfl ?_
  refine lv_lconst (v := 0) hx hb dX7_isSong_2 (by decide) ?_
  refine lv_aload_n hx hb dX7_isSong_3 rfl (lv_at hl 0 rfl) ?_
  refine va_get (D := D) (ci := 7) (v := .int (nI sg)) (C := RX7) (T := TX7) (N := 30) hx hb hts iX7 hown hK hP 0 rfl rfl 6 (by decide) k73 (fun _ h9 => h9) rfl dX7_isSong_4 ?_
  refine lv_iconst (v := 1) hx hb dX7_isSong_7 (by decide) ?_
  refine lv_isub hx hb dX7_isSong_8 ?_
  refine lv_i2l (v := ((nI sg) - 1 : Int32).toInt64) hx hb dX7_isSong_9 rfl ?_
  refine vp_callSi (W.runS (As := [.long ((p0 : Int32).toInt64), .long 0, .long (((nI sg) - 1 : Int32).toInt64)]) (rest := []) ⟨hx, hb, hml, hown, hts⟩ (c_X7_in l ((p0 : Int32).toInt64) 0 (((nI sg) - 1 : Int32).toInt64)) (va_cwS 3 hts gX7_isSong_X7_in rfl rfl rfl (by decide +kernel) ⟨Nat.le_of_ble_eq_true rfl, Nat.le_of_ble_eq_true rfl⟩) (vz_psS) rfl rfl hl.1 rfl (lv_room (Nat.le_of_ble_eq_true rfl)) dX7_isSong_10 ⟨Nat.zero_le _, Nat.zero_le _⟩) (fun r_10 hr_10 => ?_)
  subst hr_10
  exact W.zret hx hb hr (vz_nb _) (fun t ht hW => ⟨_, rfl, (by first | rfl | (rfl; done) | (rfl; rfl) | (rfl; done) | (rfl; rfl) | (simp; done)), ht⟩) (fun q h => absurd h List.not_mem_nil) dX7_isSong_13
set_option maxHeartbeats 4000000 in
set_option maxRecDepth 100000 in
theorem c_X7_baseOf (l : Launch) (D : va_G) (cI : ClassId) (g : Nat → Nat) (pm : Nat) (rm : Nat) (rr : Int32) (st : Nat) (sg : Nat) (rn : Int32) (bg : Int32) (la : Int32) (ws : Bool) (pr : Nat) (ry : Nat) (hm : Nat) (xu : Int64) (xl : Int64) (sn : Int32) (kp : Int32) (kr : Int32) (kb : Int32) (kl : Int32) (kw : Bool) (kh : Nat) (hc : Int64) (pg : Nat → Int32) (rd : Nat → Int32) (rw : Nat → Int32) (ro : Nat → Int32) (be : Nat → Int32) (he : Nat → Int32) (kro : Nat → Int32) (khe : Nat → Int32) (p0 : Nat) (hsg : sg ≤ 6) (hs : p0 < sg) : Met l yX7_baseOf wsX7_baseOf ({ frames := 0, cells := 0, slots := 0, locals := 0 } : Room) (vz_ro D cI (zM cI g pm rm rr st sg rn bg la ws pr ry hm xu xl sn kp kr kb kl kw kh hc pg rd rw ro be he kro khe) [.ref (g 0), .int (nI p0)]) (vp_Si (fun r => r = mo_base rw p0)) 0 0 (fun _ => False) := by
  refine Met.ofW (cc := cX7_baseOf) (maxL := 2) (ret := (some .int)) (by decide) rfl ?_
  intro p e s m args below meth c s₁ B hml hv
  obtain ⟨rfl, hP, hZ⟩ := hv
  obtain ⟨hK, hN⟩ := id hZ
  have hx := B.exec
  have hb := B.bytes
  have hr := B.returns
  have hts := atoms_spec (ws := wsX7_baseOf) B.pre
  have hown : s.vm.findClass RX7 = some m.cls := findClass_of_methodNamed B.named
  have hlocks := B.notSynchronized
  have k16 := hts (.fieldLink RX7 16 "SongsAgainModel" "rows" "[I") (List.mem_of_getElem? (i := 1) rfl)
  have iX7 : ∀ w ∈ u_ws RX7 TX7 30, w ∈ wsX7_baseOf := vz_in (i := 2) (n := 30) rfl
  have hl := lv_entry ([.ref (g 0), .int (nI p0)]) (n := 2) (Nat.le_of_ble_eq_true rfl)
  rw [lg_entry_eq]
  generalize (lg_sl ([.ref (g 0), .int (nI p0)]) ++ List.replicate (2 - (lg_sl ([.ref (g 0), .int (nI p0)])).length) Slot.unset).toArray = ls at hl ⊢
  have hl : lv_has ls 2 [(0, .ref (g 0)), (1, .int (nI p0))] := hl
  refine lv_aload_n hx hb dX7_baseOf_0 rfl (lv_at hl 0 rfl) ?_
  refine va_get (D := D) (ci := 7) (v := .ref (g 3)) (C := RX7) (T := TX7) (N := 30) hx hb hts iX7 hown hK hP 0 rfl rfl 12 (by decide) k16 (fun _ h9 => h9) rfl dX7_baseOf_1 ?_
  refine lv_iconst (v := 4) hx hb dX7_baseOf_4 (by decide) ?_
  refine lv_iload_n hx hb dX7_baseOf_5 rfl (lv_at hl 1 rfl) ?_
  refine lv_imul hx hb dX7_baseOf_6 ?_
  refine W.eq (congrArg (fun z => F0 m 7 ls (.int z :: [.ref (g 3)])) (pk_mul 4 p0 : 4 * (nI p0) = nI (4 * p0))) ?_
  refine va_iald hx hb hK hP 3 0 rfl rfl (i := nI (4 * p0)) (vp_in_nI (by first | assumption | omega) (by first | assumption | omega)) dX7_baseOf_7 ?_
  refine W.eq (congrArg (fun z => F0 m 8 ls (.int z :: [])) (vz_ix rw (by first | assumption | omega))) ?_
  refine lv_iconst (v := 2) hx hb dX7_baseOf_8 (by decide) ?_
  refine lv_icmp_ne (tgt := 16) hx hb dX7_baseOf_9 (by decide) (fun c_9 => ?_) (fun c_9 => ?_)
  · skip
    refine lv_aload_n hx hb dX7_baseOf_16 rfl (lv_at hl 0 rfl) ?_
    refine va_get (D := D) (ci := 7) (v := .ref (g 3)) (C := RX7) (T := TX7) (N := 30) hx hb hts iX7 hown hK hP 0 rfl rfl 12 (by decide) k16 (fun _ h9 => h9) rfl dX7_baseOf_17 ?_
    refine lv_iconst (v := 4) hx hb dX7_baseOf_20 (by decide) ?_
    refine lv_iload_n hx hb dX7_baseOf_21 rfl (lv_at hl 1 rfl) ?_
    refine lv_imul hx hb dX7_baseOf_22 ?_
    refine W.eq (congrArg (fun z => F0 m 23 ls (.int z :: [.ref (g 3)])) (pk_mul 4 p0 : 4 * (nI p0) = nI (4 * p0))) ?_
    refine va_iald hx hb hK hP 3 0 rfl rfl (i := nI (4 * p0)) (vp_in_nI (by first | assumption | omega) (by first | assumption | omega)) dX7_baseOf_23 ?_
    refine W.eq (congrArg (fun z => F0 m 24 ls (.int z :: [])) (vz_ix rw (by first | assumption | omega))) ?_
    refine lv_iconst (v := 4) hx hb dX7_baseOf_24 (by decide) ?_
    refine lv_icmp_ne (tgt := 32) hx hb dX7_baseOf_25 (by decide) (fun c_25 => ?_) (fun c_25 => ?_)
    · skip
      refine lv_iconst (v := 1) hx hb dX7_baseOf_32 (by decide) ?_
      exact W.iret hx hb hr (fun t ht hW => ⟨_, rfl, (by first | rfl | (simp only [mo_base, if_neg c_9, if_neg c_25]; done) | (simp only [mo_base, if_neg c_9, if_neg c_25]; rfl) | (simp only [mo_base, c_9, c_25, ↓reduceIte, Bool.false_eq_true, if_true, if_false, reduceCtorEq, not_true_eq_false, not_false_eq_true, eq_self]; done) | (simp only [mo_base, c_9, c_25, ↓reduceIte, Bool.false_eq_true, if_true, if_false, reduceCtorEq, not_true_eq_false, not_false_eq_true, eq_self]; rfl) | (simp [mo_base, c_9, c_25]; done)), ht⟩) (fun q h => absurd h List.not_mem_nil) dX7_baseOf_33
    · skip
      refine lv_iconst (v := 3) hx hb dX7_baseOf_28 (by decide) ?_
      refine lv_goto (tgt := 33) hx hb dX7_baseOf_29 (by decide) ?_
      exact W.iret hx hb hr (fun t ht hW => ⟨_, rfl, (by first | rfl | (simp only [mo_base, if_neg c_9, if_pos c_25]; done) | (simp only [mo_base, if_neg c_9, if_pos c_25]; rfl) | (simp only [mo_base, c_9, c_25, ↓reduceIte, Bool.false_eq_true, if_true, if_false, reduceCtorEq, not_true_eq_false, not_false_eq_true, eq_self]; done) | (simp only [mo_base, c_9, c_25, ↓reduceIte, Bool.false_eq_true, if_true, if_false, reduceCtorEq, not_true_eq_false, not_false_eq_true, eq_self]; rfl) | (simp [mo_base, c_9, c_25]; done)), ht⟩) (fun q h => absurd h List.not_mem_nil) dX7_baseOf_33
  · skip
    refine lv_iconst (v := 2) hx hb dX7_baseOf_12 (by decide) ?_
    refine lv_goto (tgt := 33) hx hb dX7_baseOf_13 (by decide) ?_
    exact W.iret hx hb hr (fun t ht hW => ⟨_, rfl, (by first | rfl | (simp only [mo_base, if_pos c_9]; done) | (simp only [mo_base, if_pos c_9]; rfl) | (simp only [mo_base, c_9, ↓reduceIte, Bool.false_eq_true, if_true, if_false, reduceCtorEq, not_true_eq_false, not_false_eq_true, eq_self]; done) | (simp only [mo_base, c_9, ↓reduceIte, Bool.false_eq_true, if_true, if_false, reduceCtorEq, not_true_eq_false, not_false_eq_true, eq_self]; rfl) | (simp [mo_base, c_9]; done)), ht⟩) (fun q h => absurd h List.not_mem_nil) dX7_baseOf_33
set_option maxHeartbeats 4000000 in
set_option maxRecDepth 100000 in
theorem c_X7_weightOf (l : Launch) (D : va_G) (cI : ClassId) (g : Nat → Nat) (pm : Nat) (rm : Nat) (rr : Int32) (st : Nat) (sg : Nat) (rn : Int32) (bg : Int32) (la : Int32) (ws : Bool) (pr : Nat) (ry : Nat) (hm : Nat) (xu : Int64) (xl : Int64) (sn : Int32) (kp : Int32) (kr : Int32) (kb : Int32) (kl : Int32) (kw : Bool) (kh : Nat) (hc : Int64) (pg : Nat → Int32) (rd : Nat → Int32) (rw : Nat → Int32) (ro : Nat → Int32) (be : Nat → Int32) (he : Nat → Int32) (kro : Nat → Int32) (khe : Nat → Int32) (p0 : Nat) (hsg : sg ≤ 6) (hs : p0 < sg) : Met l yX7_weightOf wsX7_weightOf ({ frames := 1, cells := 0, slots := 0, locals := 21 } : Room) (vz_ro D cI (zM cI g pm rm rr st sg rn bg la ws pr ry hm xu xl sn kp kr kb kl kw kh hc pg rd rw ro be he kro khe) [.ref (g 0), .int (nI p0)]) (vp_Si (fun r => r = mo_w rw p0)) 0 0 (fun _ => False) := by
  refine Met.ofW (cc := cX7_weightOf) (maxL := 3) (ret := (some .int)) (by decide) rfl ?_
  intro p e s m args below meth c s₁ B hml hv
  obtain ⟨rfl, hP, hZ⟩ := hv
  obtain ⟨hK, hN⟩ := id hZ
  have hx := B.exec
  have hb := B.bytes
  have hr := B.returns
  have hts := atoms_spec (ws := wsX7_weightOf) B.pre
  have hown : s.vm.findClass RX7 = some m.cls := findClass_of_methodNamed B.named
  have hlocks := B.notSynchronized
  have k16 := hts (.fieldLink RX7 16 "SongsAgainModel" "rows" "[I") (List.mem_of_getElem? (i := 1) rfl)
  have iX7 : ∀ w ∈ u_ws RX7 TX7 30, w ∈ wsX7_weightOf := vz_in (i := 7) (n := 30) rfl
  have hl := lv_entry ([.ref (g 0), .int (nI p0)]) (n := 3) (Nat.le_of_ble_eq_true rfl)
  rw [lg_entry_eq]
  generalize (lg_sl ([.ref (g 0), .int (nI p0)]) ++ List.replicate (3 - (lg_sl ([.ref (g 0), .int (nI p0)])).length) Slot.unset).toArray = ls at hl ⊢
  have hl : lv_has ls 3 [(0, .ref (g 0)), (1, .int (nI p0))] := hl
  refine lv_aload_n hx hb dX7_weightOf_0 rfl (lv_at hl 0 rfl) ?_
  refine lv_iload_n hx hb dX7_weightOf_1 rfl (lv_at hl 1 rfl) ?_
  refine vp_callSi (W.runV (As := [.int (nI p0)]) (rest := []) ⟨hx, hb, hml, hown, hts⟩ (c_X7_baseOf l D cI g pm rm rr st sg rn bg la ws pr ry hm xu xl sn kp kr kb kl kw kh hc pg rd rw ro be he kro khe p0 (by first | assumption | omega) (by first | assumption | omega)) (cwV 1 hts gX7_weightOf_X7_baseOf rfl rfl rfl (by decide +kernel) ⟨Nat.le_of_ble_eq_true rfl, Nat.le_of_ble_eq_true rfl⟩) (vz_pvR (va_recv hK hP (ci := 7) (q0 := 0) rfl rfl) hZ hP) rfl rfl hl.1 rfl (lv_room (Nat.le_of_ble_eq_true rfl)) dX7_weightOf_2 ⟨Nat.zero_le _, Nat.zero_le _⟩) (fun r_2 hr_2 => ?_)
  subst hr_2
  refine lv_aload_n hx hb dX7_weightOf_5 rfl (lv_at hl 0 rfl) ?_
  refine va_get (D := D) (ci := 7) (v := .ref (g 3)) (C := RX7) (T := TX7) (N := 30) hx hb hts iX7 hown hK hP 0 rfl rfl 12 (by decide) k16 (fun _ h9 => h9) rfl dX7_weightOf_6 ?_
  refine lv_iconst (v := 4) hx hb dX7_weightOf_9 (by decide) ?_
  refine lv_iload_n hx hb dX7_weightOf_10 rfl (lv_at hl 1 rfl) ?_
  refine lv_imul hx hb dX7_weightOf_11 ?_
  refine W.eq (congrArg (fun z => F0 m 12 ls (.int z :: [.ref (g 3), .int (mo_base rw p0)])) (pk_mul 4 p0 : 4 * (nI p0) = nI (4 * p0))) ?_
  refine lv_iconst (v := 3) hx hb dX7_weightOf_12 (by decide) ?_
  refine lv_iadd hx hb dX7_weightOf_13 ?_
  refine W.eq (congrArg (fun z => F0 m 14 ls (.int z :: [.ref (g 3), .int (mo_base rw p0)])) (nI_add (4 * p0) 3 : (nI (4 * p0)) + 3 = nI ((4 * p0) + 3))) ?_
  refine va_iald hx hb hK hP 3 0 rfl rfl (i := nI ((4 * p0) + 3)) (vp_in_nI (by first | assumption | omega) (by first | assumption | omega)) dX7_weightOf_14 ?_
  refine W.eq (congrArg (fun z => F0 m 15 ls (.int z :: [.int (mo_base rw p0)])) (vz_ix rw (by first | assumption | omega))) ?_
  refine lv_isub hx hb dX7_weightOf_15 ?_
  refine lv_istore_n (lv' := [(2, .int ((mo_base rw p0) - (rw ((4 * p0) + 3)))), (0, .ref (g 0)), (1, .int (nI p0))]) hx hb dX7_weightOf_16 rfl hl (by decide) rfl (fun ls hl => ?_)
  refine lv_iload_n hx hb dX7_weightOf_17 rfl (lv_at hl 0 rfl) ?_
  refine lv_if_ge (tgt := 25) hx hb dX7_weightOf_18 (by decide) (fun c_18 => ?_) (fun c_18 => ?_)
  · skip
    refine lv_iload_n hx hb dX7_weightOf_25 rfl (lv_at hl 0 rfl) ?_
    exact W.iret hx hb hr (fun t ht hW => ⟨_, rfl, (by first | rfl | (simp only [mo_w, if_pos c_18]; done) | (simp only [mo_w, if_pos c_18]; rfl) | (simp only [mo_w, c_18, ↓reduceIte, Bool.false_eq_true, if_true, if_false, reduceCtorEq, not_true_eq_false, not_false_eq_true, eq_self]; done) | (simp only [mo_w, c_18, ↓reduceIte, Bool.false_eq_true, if_true, if_false, reduceCtorEq, not_true_eq_false, not_false_eq_true, eq_self]; rfl) | (simp [mo_w, c_18]; done)), ht⟩) (fun q h => absurd h List.not_mem_nil) dX7_weightOf_26
  · skip
    refine lv_iconst (v := 0) hx hb dX7_weightOf_21 (by decide) ?_
    refine lv_goto (tgt := 26) hx hb dX7_weightOf_22 (by decide) ?_
    exact W.iret hx hb hr (fun t ht hW => ⟨_, rfl, (by first | rfl | (simp only [mo_w, if_neg c_18]; done) | (simp only [mo_w, if_neg c_18]; rfl) | (simp only [mo_w, c_18, ↓reduceIte, Bool.false_eq_true, if_true, if_false, reduceCtorEq, not_true_eq_false, not_false_eq_true, eq_self]; done) | (simp only [mo_w, c_18, ↓reduceIte, Bool.false_eq_true, if_true, if_false, reduceCtorEq, not_true_eq_false, not_false_eq_true, eq_self]; rfl) | (simp [mo_w, c_18]; done)), ht⟩) (fun q h => absurd h List.not_mem_nil) dX7_weightOf_26
set_option maxHeartbeats 4000000 in
set_option maxRecDepth 100000 in
theorem c_X7_minutesOf (l : Launch) (D : va_G) (cI : ClassId) (g : Nat → Nat) (pm : Nat) (rm : Nat) (rr : Int32) (st : Nat) (sg : Nat) (rn : Int32) (bg : Int32) (la : Int32) (ws : Bool) (pr : Nat) (ry : Nat) (hm : Nat) (xu : Int64) (xl : Int64) (sn : Int32) (kp : Int32) (kr : Int32) (kb : Int32) (kl : Int32) (kw : Bool) (kh : Nat) (hc : Int64) (pg : Nat → Int32) (rd : Nat → Int32) (rw : Nat → Int32) (ro : Nat → Int32) (be : Nat → Int32) (he : Nat → Int32) (kro : Nat → Int32) (khe : Nat → Int32) (p0 : Nat) (hsg : sg ≤ 6) (hs : p0 < sg) : Met l yX7_minutesOf wsX7_minutesOf ({ frames := 0, cells := 0, slots := 0, locals := 0 } : Room) (vz_ro D cI (zM cI g pm rm rr st sg rn bg la ws pr ry hm xu xl sn kp kr kb kl kw kh hc pg rd rw ro be he kro khe) [.ref (g 0), .int (nI p0)]) (vp_Si (fun r => r = mo_mins rw p0)) 0 0 (fun _ => False) := by
  refine Met.ofW (cc := cX7_minutesOf) (maxL := 2) (ret := (some .int)) (by decide) rfl ?_
  intro p e s m args below meth c s₁ B hml hv
  obtain ⟨rfl, hP, hZ⟩ := hv
  obtain ⟨hK, hN⟩ := id hZ
  have hx := B.exec
  have hb := B.bytes
  have hr := B.returns
  have hts := atoms_spec (ws := wsX7_minutesOf) B.pre
  have hown : s.vm.findClass RX7 = some m.cls := findClass_of_methodNamed B.named
  have hlocks := B.notSynchronized
  have k16 := hts (.fieldLink RX7 16 "SongsAgainModel" "rows" "[I") (List.mem_of_getElem? (i := 1) rfl)
  have iX7 : ∀ w ∈ u_ws RX7 TX7 30, w ∈ wsX7_minutesOf := vz_in (i := 2) (n := 30) rfl
  have hl := lv_entry ([.ref (g 0), .int (nI p0)]) (n := 2) (Nat.le_of_ble_eq_true rfl)
  rw [lg_entry_eq]
  generalize (lg_sl ([.ref (g 0), .int (nI p0)]) ++ List.replicate (2 - (lg_sl ([.ref (g 0), .int (nI p0)])).length) Slot.unset).toArray = ls at hl ⊢
  have hl : lv_has ls 2 [(0, .ref (g 0)), (1, .int (nI p0))] := hl
  refine lv_aload_n hx hb dX7_minutesOf_0 rfl (lv_at hl 0 rfl) ?_
  refine va_get (D := D) (ci := 7) (v := .ref (g 3)) (C := RX7) (T := TX7) (N := 30) hx hb hts iX7 hown hK hP 0 rfl rfl 12 (by decide) k16 (fun _ h9 => h9) rfl dX7_minutesOf_1 ?_
  refine lv_iconst (v := 4) hx hb dX7_minutesOf_4 (by decide) ?_
  refine lv_iload_n hx hb dX7_minutesOf_5 rfl (lv_at hl 1 rfl) ?_
  refine lv_imul hx hb dX7_minutesOf_6 ?_
  refine W.eq (congrArg (fun z => F0 m 7 ls (.int z :: [.ref (g 3)])) (pk_mul 4 p0 : 4 * (nI p0) = nI (4 * p0))) ?_
  refine va_iald hx hb hK hP 3 0 rfl rfl (i := nI (4 * p0)) (vp_in_nI (by first | assumption | omega) (by first | assumption | omega)) dX7_minutesOf_7 ?_
  refine W.eq (congrArg (fun z => F0 m 8 ls (.int z :: [])) (vz_ix rw (by first | assumption | omega))) ?_
  refine lv_iconst (v := 1) hx hb dX7_minutesOf_8 (by decide) ?_
  refine lv_icmp_ne (tgt := 17) hx hb dX7_minutesOf_9 (by decide) (fun c_9 => ?_) (fun c_9 => ?_)
  · skip
    refine lv_iconst (v := 3) hx hb dX7_minutesOf_17 (by decide) ?_
    exact W.iret hx hb hr (fun t ht hW => ⟨_, rfl, (by first | rfl | (simp only [mo_mins, if_neg c_9]; done) | (simp only [mo_mins, if_neg c_9]; rfl) | (simp only [mo_mins, c_9, ↓reduceIte, Bool.false_eq_true, if_true, if_false, reduceCtorEq, not_true_eq_false, not_false_eq_true, eq_self]; done) | (simp only [mo_mins, c_9, ↓reduceIte, Bool.false_eq_true, if_true, if_false, reduceCtorEq, not_true_eq_false, not_false_eq_true, eq_self]; rfl) | (simp [mo_mins, c_9]; done)), ht⟩) (fun q h => absurd h List.not_mem_nil) dX7_minutesOf_18
  · skip
    refine lv_bipush (v := 7) hx hb dX7_minutesOf_12 (by decide) ?_
    refine lv_goto (tgt := 18) hx hb dX7_minutesOf_14 (by decide) ?_
    exact W.iret hx hb hr (fun t ht hW => ⟨_, rfl, (by first | rfl | (simp only [mo_mins, if_pos c_9]; done) | (simp only [mo_mins, if_pos c_9]; rfl) | (simp only [mo_mins, c_9, ↓reduceIte, Bool.false_eq_true, if_true, if_false, reduceCtorEq, not_true_eq_false, not_false_eq_true, eq_self]; done) | (simp only [mo_mins, c_9, ↓reduceIte, Bool.false_eq_true, if_true, if_false, reduceCtorEq, not_true_eq_false, not_false_eq_true, eq_self]; rfl) | (simp [mo_mins, c_9]; done)), ht⟩) (fun q h => absurd h List.not_mem_nil) dX7_minutesOf_18
set_option maxHeartbeats 4000000 in
set_option maxRecDepth 100000 in
theorem c_X7_mayBy (l : Launch) (D : va_G) (cI : ClassId) (g : Nat → Nat) (pm : Nat) (rm : Nat) (rr : Int32) (st : Nat) (sg : Nat) (rn : Int32) (bg : Int32) (la : Int32) (ws : Bool) (pr : Nat) (ry : Nat) (hm : Nat) (xu : Int64) (xl : Int64) (sn : Int32) (kp : Int32) (kr : Int32) (kb : Int32) (kl : Int32) (kw : Bool) (kh : Nat) (hc : Int64) (pg : Nat → Int32) (rd : Nat → Int32) (rw : Nat → Int32) (ro : Nat → Int32) (be : Nat → Int32) (he : Nat → Int32) (kro : Nat → Int32) (khe : Nat → Int32) (p0 : Int32) (p1 : Int32) (p2 : Int32) (hsg : sg ≤ 6) (hbf : p2 = -1 ∨ ∃ b : Nat, b < sg ∧ p2 = nI b) : Met l yX7_mayBy wsX7_mayBy ({ frames := 1, cells := 0, slots := 0, locals := 20 } : Room) (vz_ro D cI (zM cI g pm rm rr st sg rn bg la ws pr ry hm xu xl sn kp kr kb kl kw kh hc pg rd rw ro be he kro khe) [.ref (g 0), .int p0, .int p1, .int p2]) (vp_Si (fun r => r = mo_may sg rw p0 p1 p2)) 0 0 (fun _ => False) := by
  refine Met.ofW (cc := cX7_mayBy) (maxL := 8) (ret := (some .int)) (by decide) rfl ?_
  intro p e s m args below meth c s₁ B hml hv
  obtain ⟨rfl, hP, hZ⟩ := hv
  obtain ⟨hK, hN⟩ := id hZ
  have hx := B.exec
  have hb := B.bytes
  have hr := B.returns
  have hts := atoms_spec (ws := wsX7_mayBy) B.pre
  have hown : s.vm.findClass RX7 = some m.cls := findClass_of_methodNamed B.named
  have hlocks := B.notSynchronized
  have k16 := hts (.fieldLink RX7 16 "SongsAgainModel" "rows" "[I") (List.mem_of_getElem? (i := 2) rfl)
  have k73 := hts (.fieldLink RX7 73 "SongsAgainModel" "songs" "I") (List.mem_of_getElem? (i := 1) rfl)
  have iX7 : ∀ w ∈ u_ws RX7 TX7 30, w ∈ wsX7_mayBy := vz_in (i := 8) (n := 30) rfl
  have hl := lv_entry ([.ref (g 0), .int p0, .int p1, .int p2]) (n := 8) (Nat.le_of_ble_eq_true rfl)
  rw [lg_entry_eq]
  generalize (lg_sl ([.ref (g 0), .int p0, .int p1, .int p2]) ++ List.replicate (8 - (lg_sl ([.ref (g 0), .int p0, .int p1, .int p2])).length) Slot.unset).toArray = ls at hl ⊢
  have hl : lv_has ls 8 [(0, .ref (g 0)), (1, .int p0), (2, .int p1), (3, .int p2)] := hl
  refine lv_iload_n hx hb dX7_mayBy_0 rfl (lv_at hl 1 rfl) ?_
  refine lv_iconst (v := 1) hx hb dX7_mayBy_1 (by decide) ?_
  have J_13 : ∀ (z4 : Int32), z4 = mo_pool sg p0 p1 → W p l e ({ frames := 1, cells := 0, slots := 0, locals := 20 } : Room) s m ([.ref (g 0), .int p0, .int p1, .int p2] : List Value).toArray below meth c s.heap [] 0 0 (MQ below (vp_Si (fun r => r = mo_may sg rw p0 p1 p2)) ([.ref (g 0), .int p0, .int p1, .int p2] : List Value).toArray s 0 0 (fun _ => False)) (F0 m 13 ls [.int z4]) := by
    intro z4 hz4
    subst hz4
    refine lv_istore (lv' := [(4, .int (mo_pool sg p0 p1)), (0, .ref (g 0)), (1, .int p0), (2, .int p1), (3, .int p2)]) hx hb dX7_mayBy_13 hl (by decide) rfl (fun ls hl => ?_)
    refine lv_iload_n hx hb dX7_mayBy_15 rfl (lv_at hl 2 rfl) ?_
    refine lv_iconst (v := 2) hx hb dX7_mayBy_16 (by decide) ?_
    refine lv_irem hx hb dX7_mayBy_17 (by decide) ?_
    refine lv_if_eq (tgt := 26) hx hb dX7_mayBy_18 (by decide) (fun c_18 => ?_) (fun c_18 => ?_)
    · skip
      refine lv_iload hx hb dX7_mayBy_26 (lv_at hl 0 rfl) ?_
      exact W.iret hx hb hr (fun t ht hW => ⟨_, rfl, (by first | rfl | (simp only [mo_may, if_pos c_18]; done) | (simp only [mo_may, if_pos c_18]; rfl) | (simp only [mo_may, c_18, ↓reduceIte, Bool.false_eq_true, if_true, if_false, reduceCtorEq, not_true_eq_false, not_false_eq_true, eq_self]; done) | (simp only [mo_may, c_18, ↓reduceIte, Bool.false_eq_true, if_true, if_false, reduceCtorEq, not_true_eq_false, not_false_eq_true, eq_self]; rfl) | (simp [mo_may, c_18]; done)), ht⟩) (fun q h => absurd h List.not_mem_nil) dX7_mayBy_28
    · skip
      refine lv_iload_n hx hb dX7_mayBy_21 rfl (lv_at hl 4 rfl) ?_
      refine lv_iconst (v := (-1)) hx hb dX7_mayBy_22 (by decide) ?_
      refine lv_icmp_ne (tgt := 29) hx hb dX7_mayBy_23 (by decide) (fun c_23 => ?_) (fun c_23 => ?_)
      · skip
        obtain ⟨hbl, hb4⟩ := vz_bf hbf c_23
        refine lv_iconst (v := 0) hx hb dX7_mayBy_29 (by decide) ?_
        refine lv_istore (lv' := [(5, .int 0), (4, .int (mo_pool sg p0 p1)), (0, .ref (g 0)), (1, .int p0), (2, .int p1), (3, .int p2)]) hx hb dX7_mayBy_30 hl (by decide) rfl (fun ls hl => ?_)
        refine lv_iconst (v := 0) hx hb dX7_mayBy_32 (by decide) ?_
        refine lv_istore (lv' := [(6, .int 0), (5, .int 0), (4, .int (mo_pool sg p0 p1)), (0, .ref (g 0)), (1, .int p0), (2, .int p1), (3, .int p2)]) hx hb dX7_mayBy_33 hl (by decide) rfl (fun ls hl => ?_)
        have L_35 : ∀ (d_35 : Nat) (j : Nat) (acc : Int32), sg - j < d_35 → (j ≤ sg) → (acc = mo_some rw (mo_pool sg p0 p1) p2.toNatClampNeg j) → ∀ (ls : Array Slot), lv_has ls 8 [(6, .int (nI j)), (5, .int acc), (4, .int (mo_pool sg p0 p1)), (0, .ref (g 0)), (1, .int p0), (2, .int p1), (3, .int p2)] → W p l e ({ frames := 1, cells := 0, slots := 0, locals := 20 } : Room) s m ([.ref (g 0), .int p0, .int p1, .int p2] : List Value).toArray below meth c s.heap [] 0 0 (MQ below (vp_Si (fun r => r = mo_may sg rw p0 p1 p2)) ([.ref (g 0), .int p0, .int p1, .int p2] : List Value).toArray s 0 0 (fun _ => False)) (F0 m 35 ls []) := by
          intro d_35
          induction d_35 with
          | zero => intro j acc hd; exact absurd hd (Nat.not_lt_zero _)
          | succ d_35 ih_35 =>
            intro j acc hd_35 hj hacc ls hl
            refine lv_iload hx hb dX7_mayBy_35 (lv_at hl 0 rfl) ?_
            refine lv_aload_n hx hb dX7_mayBy_37 rfl (lv_at hl 3 rfl) ?_
            refine va_get (D := D) (ci := 7) (v := .int (nI sg)) (C := RX7) (T := TX7) (N := 30) hx hb hts iX7 hown hK hP 0 rfl rfl 6 (by decide) k73 (fun _ h9 => h9) rfl dX7_mayBy_38 ?_
            refine lv_icmp_ge (tgt := 115) hx hb dX7_mayBy_41 (by decide) (fun c_41 => ?_) (fun c_41 => ?_)
            · skip
              have hje : j = sg := Nat.le_antisymm hj (vz_ge c_41 (by omega) (by omega))
              refine lv_iload hx hb dX7_mayBy_115 (lv_at hl 1 rfl) ?_
              refine lv_if_ne (tgt := 125) hx hb dX7_mayBy_117 (by decide) (fun c_117 => ?_) (fun c_117 => ?_)
              · skip
                refine lv_iload hx hb dX7_mayBy_125 (lv_at hl 1 rfl) ?_
                rw [hje] at hacc
                subst hacc
                exact W.iret hx hb hr (fun t ht hW => ⟨_, rfl, (by first | rfl | (simp only [mo_may, if_neg c_18, if_neg c_23, if_pos c_41, if_neg c_117]; done) | (simp only [mo_may, if_neg c_18, if_neg c_23, if_pos c_41, if_neg c_117]; rfl) | (simp only [mo_may, c_18, c_23, c_41, c_117, ↓reduceIte, Bool.false_eq_true, if_true, if_false, reduceCtorEq, not_true_eq_false, not_false_eq_true, eq_self]; done) | (simp only [mo_may, c_18, c_23, c_41, c_117, ↓reduceIte, Bool.false_eq_true, if_true, if_false, reduceCtorEq, not_true_eq_false, not_false_eq_true, eq_self]; rfl) | (simp [mo_may, c_18, c_23, c_41, c_117]; done)), ht⟩) (fun q h => absurd h List.not_mem_nil) dX7_mayBy_127
              · skip
                refine lv_iload hx hb dX7_mayBy_120 (lv_at hl 2 rfl) ?_
                refine lv_goto (tgt := 127) hx hb dX7_mayBy_122 (by decide) ?_
                rw [hje] at hacc
                subst hacc
                exact W.iret hx hb hr (fun t ht hW => ⟨_, rfl, (by first | rfl | (simp only [mo_may, if_neg c_18, if_neg c_23, if_pos c_41, if_pos c_117]; done) | (simp only [mo_may, if_neg c_18, if_neg c_23, if_pos c_41, if_pos c_117]; rfl) | (simp only [mo_may, c_18, c_23, c_41, c_117, ↓reduceIte, Bool.false_eq_true, if_true, if_false, reduceCtorEq, not_true_eq_false, not_false_eq_true, eq_self]; done) | (simp only [mo_may, c_18, c_23, c_41, c_117, ↓reduceIte, Bool.false_eq_true, if_true, if_false, reduceCtorEq, not_true_eq_false, not_false_eq_true, eq_self]; rfl) | (simp [mo_may, c_18, c_23, c_41, c_117]; done)), ht⟩) (fun q h => absurd h List.not_mem_nil) dX7_mayBy_127
            · skip
              have hlt : j < sg := vz_lt c_41 (by omega)
              refine lv_aload_n hx hb dX7_mayBy_44 rfl (lv_at hl 3 rfl) ?_
              refine va_get (D := D) (ci := 7) (v := .ref (g 3)) (C := RX7) (T := TX7) (N := 30) hx hb hts iX7 hown hK hP 0 rfl rfl 12 (by decide) k16 (fun _ h9 => h9) rfl dX7_mayBy_45 ?_
              refine lv_iconst (v := 4) hx hb dX7_mayBy_48 (by decide) ?_
              refine lv_iload hx hb dX7_mayBy_49 (lv_at hl 0 rfl) ?_
              refine lv_imul hx hb dX7_mayBy_51 ?_
              refine W.eq (congrArg (fun z => F0 m 52 ls (.int z :: [.ref (g 3)])) (pk_mul 4 j : 4 * (nI j) = nI (4 * j))) ?_
              refine va_iald hx hb hK hP 3 0 rfl rfl (i := nI (4 * j)) (vp_in_nI (by first | assumption | omega) (by first | assumption | omega)) dX7_mayBy_52 ?_
              refine W.eq (congrArg (fun z => F0 m 53 ls (.int z :: [])) (vz_ix rw (by first | assumption | omega))) ?_
              refine lv_iconst (v := 3) hx hb dX7_mayBy_53 (by decide) ?_
              have J_86 : ∀ (z7 : Int32), z7 = vz_b (mo_is rw p2.toNatClampNeg j) → W p l e ({ frames := 1, cells := 0, slots := 0, locals := 20 } : Room) s m ([.ref (g 0), .int p0, .int p1, .int p2] : List Value).toArray below meth c s.heap [] 0 0 (MQ below (vp_Si (fun r => r = mo_may sg rw p0 p1 p2)) ([.ref (g 0), .int p0, .int p1, .int p2] : List Value).toArray s 0 0 (fun _ => False)) (F0 m 86 ls [.int z7]) := by
                intro z7 hz7
                subst hz7
                refine lv_istore (lv' := [(7, .int (vz_b (mo_is rw p2.toNatClampNeg j))), (6, .int (nI j)), (5, .int acc), (4, .int (mo_pool sg p0 p1)), (0, .ref (g 0)), (1, .int p0), (2, .int p1), (3, .int p2)]) hx hb dX7_mayBy_86 hl (by decide) rfl (fun ls hl => ?_)
                refine lv_iload hx hb dX7_mayBy_88 (lv_at hl 2 rfl) ?_
                refine lv_iload hx hb dX7_mayBy_90 (lv_at hl 0 rfl) ?_
                refine lv_if_eq (tgt := 105) hx hb dX7_mayBy_92 (by decide) (fun c_92 => ?_) (fun c_92 => ?_)
                · skip
                  replace c_92 := vz_b0 c_92
                  refine lv_iconst (v := 0) hx hb dX7_mayBy_105 (by decide) ?_
                  refine lv_ior hx hb dX7_mayBy_106 ?_
                  refine lv_istore (lv' := [(5, .int (acc ||| 0)), (7, .int (vz_b (mo_is rw p2.toNatClampNeg j))), (6, .int (nI j)), (4, .int (mo_pool sg p0 p1)), (0, .ref (g 0)), (1, .int p0), (2, .int p1), (3, .int p2)]) hx hb dX7_mayBy_107 hl (by decide) rfl (fun ls hl => ?_)
                  refine lv_iinc (v := nI (j + 1)) (lv' := [(6, .int (nI (j + 1))), (5, .int (acc ||| 0)), (7, .int (vz_b (mo_is rw p2.toNatClampNeg j))), (4, .int (mo_pool sg p0 p1)), (0, .ref (g 0)), (1, .int p0), (2, .int p1), (3, .int p2)]) hx hb dX7_mayBy_109 hl (k := 2) rfl (vz_inc _) (by decide) rfl (fun ls hl => ?_)
                  refine lv_goto (tgt := 35) hx hb dX7_mayBy_112 (by decide) ?_
                  exact ih_35 (j + 1) (acc ||| 0) (by omega) (by omega) (by rw [mo_some, hacc] ; simp only [c_18, c_23, c_41, c_92, ↓reduceIte, Bool.false_eq_true]) ls (lv_sub hl [0, 1, 3, 4, 5, 6, 7] rfl)
                · skip
                  replace c_92 := vz_b1 c_92
                  refine lv_iload hx hb dX7_mayBy_95 (lv_at hl 3 rfl) ?_
                  refine lv_iconst (v := 1) hx hb dX7_mayBy_97 (by decide) ?_
                  refine lv_iload hx hb dX7_mayBy_98 (lv_at hl 1 rfl) ?_
                  refine lv_ishl hx hb dX7_mayBy_100 ?_
                  refine lv_iand hx hb dX7_mayBy_101 ?_
                  refine lv_goto (tgt := 106) hx hb dX7_mayBy_102 (by decide) ?_
                  refine lv_ior hx hb dX7_mayBy_106 ?_
                  refine lv_istore (lv' := [(5, .int (acc ||| ((mo_pool sg p0 p1) &&& (1 <<< ((nI j) &&& 31))))), (7, .int (vz_b (mo_is rw p2.toNatClampNeg j))), (6, .int (nI j)), (4, .int (mo_pool sg p0 p1)), (0, .ref (g 0)), (1, .int p0), (2, .int p1), (3, .int p2)]) hx hb dX7_mayBy_107 hl (by decide) rfl (fun ls hl => ?_)
                  refine lv_iinc (v := nI (j + 1)) (lv' := [(6, .int (nI (j + 1))), (5, .int (acc ||| ((mo_pool sg p0 p1) &&& (1 <<< ((nI j) &&& 31))))), (7, .int (vz_b (mo_is rw p2.toNatClampNeg j))), (4, .int (mo_pool sg p0 p1)), (0, .ref (g 0)), (1, .int p0), (2, .int p1), (3, .int p2)]) hx hb dX7_mayBy_109 hl (k := 2) rfl (vz_inc _) (by decide) rfl (fun ls hl => ?_)
                  refine lv_goto (tgt := 35) hx hb dX7_mayBy_112 (by decide) ?_
                  exact ih_35 (j + 1) (acc ||| ((mo_pool sg p0 p1) &&& (1 <<< ((nI j) &&& 31)))) (by omega) (by omega) (by rw [mo_some, hacc] ; simp only [c_18, c_23, c_41, c_92, ↓reduceIte, Bool.false_eq_true]) ls (lv_sub hl [0, 1, 3, 4, 5, 6, 7] rfl)
              refine lv_icmp_eq (tgt := 81) hx hb dX7_mayBy_54 (by decide) (fun c_54 => ?_) (fun c_54 => ?_)
              · skip
                refine lv_iconst (v := 1) hx hb dX7_mayBy_81 (by decide) ?_
                refine lv_goto (tgt := 86) hx hb dX7_mayBy_82 (by decide) ?_
                exact J_86 _ (by first | rfl | (simp only [mo_is, vz_b, if_pos c_54]; done) | (simp only [mo_is, vz_b, if_pos c_54]; rfl) | (simp only [mo_is, vz_b, c_54, ↓reduceIte, Bool.false_eq_true, if_true, if_false, reduceCtorEq, not_true_eq_false, not_false_eq_true, eq_self]; done) | (simp [mo_is, vz_b, c_54]; done))
              · skip
                refine lv_aload_n hx hb dX7_mayBy_57 rfl (lv_at hl 3 rfl) ?_
                refine va_get (D := D) (ci := 7) (v := .ref (g 3)) (C := RX7) (T := TX7) (N := 30) hx hb hts iX7 hown hK hP 0 rfl rfl 12 (by decide) k16 (fun _ h9 => h9) rfl dX7_mayBy_58 ?_
                refine lv_iconst (v := 4) hx hb dX7_mayBy_61 (by decide) ?_
                refine lv_iload hx hb dX7_mayBy_62 (lv_at hl 0 rfl) ?_
                refine lv_imul hx hb dX7_mayBy_64 ?_
                refine W.eq (congrArg (fun z => F0 m 65 ls (.int z :: [.ref (g 3)])) (pk_mul 4 j : 4 * (nI j) = nI (4 * j))) ?_
                refine lv_iconst (v := 1) hx hb dX7_mayBy_65 (by decide) ?_
                refine lv_iadd hx hb dX7_mayBy_66 ?_
                refine W.eq (congrArg (fun z => F0 m 67 ls (.int z :: [.ref (g 3)])) (nI_add (4 * j) 1 : (nI (4 * j)) + 1 = nI ((4 * j) + 1))) ?_
                refine va_iald hx hb hK hP 3 0 rfl rfl (i := nI ((4 * j) + 1)) (vp_in_nI (by first | assumption | omega) (by first | assumption | omega)) dX7_mayBy_67 ?_
                refine W.eq (congrArg (fun z => F0 m 68 ls (.int z :: [])) (vz_ix rw (by first | assumption | omega))) ?_
                refine lv_aload_n hx hb dX7_mayBy_68 rfl (lv_at hl 3 rfl) ?_
                refine va_get (D := D) (ci := 7) (v := .ref (g 3)) (C := RX7) (T := TX7) (N := 30) hx hb hts iX7 hown hK hP 0 rfl rfl 12 (by decide) k16 (fun _ h9 => h9) rfl dX7_mayBy_69 ?_
                refine lv_iconst (v := 4) hx hb dX7_mayBy_72 (by decide) ?_
                refine lv_iload_n hx hb dX7_mayBy_73 rfl (lv_at hl 6 rfl) ?_
                refine lv_imul hx hb dX7_mayBy_74 ?_
                refine lv_iconst (v := 1) hx hb dX7_mayBy_75 (by decide) ?_
                refine lv_iadd hx hb dX7_mayBy_76 ?_
                refine W.eq (congrArg (fun z => F0 m 77 ls (.int z :: [.ref (g 3), .int (rw ((4 * j) + 1))])) (hb4)) ?_
                refine va_iald hx hb hK hP 3 0 rfl rfl (i := nI (4 * (p2).toNatClampNeg + 1)) (vp_in_nI (by first | assumption | omega) (by first | assumption | omega)) dX7_mayBy_77 ?_
                refine W.eq (congrArg (fun z => F0 m 78 ls (.int z :: [.int (rw ((4 * j) + 1))])) (vz_ix rw (by first | assumption | omega))) ?_
                refine lv_icmp_eq (tgt := 85) hx hb dX7_mayBy_78 (by decide) (fun c_78 => ?_) (fun c_78 => ?_)
                · skip
                  refine lv_iconst (v := 0) hx hb dX7_mayBy_85 (by decide) ?_
                  exact J_86 _ (by first | rfl | (simp only [mo_is, vz_b, if_neg c_54, if_pos c_78]; done) | (simp only [mo_is, vz_b, if_neg c_54, if_pos c_78]; rfl) | (simp only [mo_is, vz_b, c_54, c_78, ↓reduceIte, Bool.false_eq_true, if_true, if_false, reduceCtorEq, not_true_eq_false, not_false_eq_true, eq_self]; done) | (simp [mo_is, vz_b, c_54, c_78]; done))
                · skip
                  refine lv_iconst (v := 1) hx hb dX7_mayBy_81 (by decide) ?_
                  refine lv_goto (tgt := 86) hx hb dX7_mayBy_82 (by decide) ?_
                  exact J_86 _ (by first | rfl | (simp only [mo_is, vz_b, if_neg c_54, if_neg c_78]; done) | (simp only [mo_is, vz_b, if_neg c_54, if_neg c_78]; rfl) | (simp only [mo_is, vz_b, c_54, c_78, ↓reduceIte, Bool.false_eq_true, if_true, if_false, reduceCtorEq, not_true_eq_false, not_false_eq_true, eq_self]; done) | (simp [mo_is, vz_b, c_54, c_78]; done))
        exact L_35 _ 0 0 (Nat.lt_succ_self _) (Nat.zero_le _) rfl ls (lv_sub hl [0, 1, 2, 3, 4, 5, 6] rfl)
      · skip
        refine lv_iload hx hb dX7_mayBy_26 (lv_at hl 0 rfl) ?_
        exact W.iret hx hb hr (fun t ht hW => ⟨_, rfl, (by first | rfl | (simp only [mo_may, if_neg c_18, if_pos c_23]; done) | (simp only [mo_may, if_neg c_18, if_pos c_23]; rfl) | (simp only [mo_may, c_18, c_23, ↓reduceIte, Bool.false_eq_true, if_true, if_false, reduceCtorEq, not_true_eq_false, not_false_eq_true, eq_self]; done) | (simp only [mo_may, c_18, c_23, ↓reduceIte, Bool.false_eq_true, if_true, if_false, reduceCtorEq, not_true_eq_false, not_false_eq_true, eq_self]; rfl) | (simp [mo_may, c_18, c_23]; done)), ht⟩) (fun q h => absurd h List.not_mem_nil) dX7_mayBy_28
  refine lv_icmp_le (tgt := 9) hx hb dX7_mayBy_2 (by decide) (fun c_2 => ?_) (fun c_2 => ?_)
  · skip
    refine lv_aload_n hx hb dX7_mayBy_9 rfl (lv_at hl 0 rfl) ?_
    refine vp_callSi (W.runV (As := []) (rest := []) ⟨hx, hb, hml, hown, hts⟩ (c_X7_all l D cI g pm rm rr st sg rn bg la ws pr ry hm xu xl sn kp kr kb kl kw kh hc pg rd rw ro be he kro khe) (cwV 0 hts gX7_mayBy_X7_all rfl rfl rfl (by decide +kernel) ⟨Nat.le_of_ble_eq_true rfl, Nat.le_of_ble_eq_true rfl⟩) (vz_pvR (va_recv hK hP (ci := 7) (q0 := 0) rfl rfl) hZ hP) rfl rfl hl.1 rfl (lv_room (Nat.le_of_ble_eq_true rfl)) dX7_mayBy_10 ⟨Nat.zero_le _, Nat.zero_le _⟩) (fun r_10 hr_10 => ?_)
    subst hr_10
    exact J_13 _ (by first | rfl | (simp only [mo_pool, if_pos c_2]; done) | (simp only [mo_pool, if_pos c_2]; rfl) | (simp only [mo_pool, c_2, ↓reduceIte, Bool.false_eq_true, if_true, if_false, reduceCtorEq, not_true_eq_false, not_false_eq_true, eq_self]; done) | (simp [mo_pool, c_2]; done))
  · skip
    refine lv_iload_n hx hb dX7_mayBy_5 rfl (lv_at hl 2 rfl) ?_
    refine lv_goto (tgt := 13) hx hb dX7_mayBy_6 (by decide) ?_
    exact J_13 _ (by first | rfl | (simp only [mo_pool, if_neg c_2]; done) | (simp only [mo_pool, if_neg c_2]; rfl) | (simp only [mo_pool, c_2, ↓reduceIte, Bool.false_eq_true, if_true, if_false, reduceCtorEq, not_true_eq_false, not_false_eq_true, eq_self]; done) | (simp [mo_pool, c_2]; done))
set_option maxHeartbeats 4000000 in
set_option maxRecDepth 100000 in
theorem c_X7_bagBehind (l : Launch) (D : va_G) (cI : ClassId) (g : Nat → Nat) (pm : Nat) (rm : Nat) (rr : Int32) (st : Nat) (sg : Nat) (rn : Int32) (bg : Int32) (la : Int32) (ws : Bool) (pr : Nat) (ry : Nat) (hm : Nat) (xu : Int64) (xl : Int64) (sn : Int32) (kp : Int32) (kr : Int32) (kb : Int32) (kl : Int32) (kw : Bool) (kh : Nat) (hc : Int64) (pg : Nat → Int32) (rd : Nat → Int32) (rw : Nat → Int32) (ro : Nat → Int32) (be : Nat → Int32) (he : Nat → Int32) (kro : Nat → Int32) (khe : Nat → Int32) (p0 : Int32) (p1 : Int32) : Met l yX7_bagBehind wsX7_bagBehind ({ frames := 1, cells := 0, slots := 0, locals := 20 } : Room) (vz_ro D cI (zM cI g pm rm rr st sg rn bg la ws pr ry hm xu xl sn kp kr kb kl kw kh hc pg rd rw ro be he kro khe) [.ref (g 0), .int p0, .int p1]) (vp_Si (fun r => r = bk_bag sg p0 p1)) 0 0 (fun _ => False) := by
  refine Met.ofW (cc := cX7_bagBehind) (maxL := 4) (ret := (some .int)) (by decide) rfl ?_
  intro p e s m args below meth c s₁ B hml hv
  obtain ⟨rfl, hP, hZ⟩ := hv
  obtain ⟨hK, hN⟩ := id hZ
  have hx := B.exec
  have hb := B.bytes
  have hr := B.returns
  have hts := atoms_spec (ws := wsX7_bagBehind) B.pre
  have hown : s.vm.findClass RX7 = some m.cls := findClass_of_methodNamed B.named
  have hlocks := B.notSynchronized
  have hl := lv_entry ([.ref (g 0), .int p0, .int p1]) (n := 4) (Nat.le_of_ble_eq_true rfl)
  rw [lg_entry_eq]
  generalize (lg_sl ([.ref (g 0), .int p0, .int p1]) ++ List.replicate (4 - (lg_sl ([.ref (g 0), .int p0, .int p1])).length) Slot.unset).toArray = ls at hl ⊢
  have hl : lv_has ls 4 [(0, .ref (g 0)), (1, .int p0), (2, .int p1)] := hl
  refine lv_iload_n hx hb dX7_bagBehind_0 rfl (lv_at hl 1 rfl) ?_
  refine lv_iconst (v := 1) hx hb dX7_bagBehind_1 (by decide) ?_
  refine lv_iload_n hx hb dX7_bagBehind_2 rfl (lv_at hl 2 rfl) ?_
  refine lv_ishl hx hb dX7_bagBehind_3 ?_
  refine lv_iconst (v := (-1)) hx hb dX7_bagBehind_4 (by decide) ?_
  refine lv_ixor hx hb dX7_bagBehind_5 ?_
  refine lv_iand hx hb dX7_bagBehind_6 ?_
  refine lv_istore_n (lv' := [(3, .int (p0 &&& ((1 <<< (p1 &&& 31)) ^^^ (-1)))), (0, .ref (g 0)), (1, .int p0), (2, .int p1)]) hx hb dX7_bagBehind_7 rfl hl (by decide) rfl (fun ls hl => ?_)
  refine lv_iload_n hx hb dX7_bagBehind_8 rfl (lv_at hl 0 rfl) ?_
  refine lv_if_ne (tgt := 19) hx hb dX7_bagBehind_9 (by decide) (fun c_9 => ?_) (fun c_9 => ?_)
  · skip
    refine lv_iload_n hx hb dX7_bagBehind_19 rfl (lv_at hl 0 rfl) ?_
    exact W.iret hx hb hr (fun t ht hW => ⟨_, rfl, (by first | rfl | (simp only [bk_bag, if_neg c_9]; done) | (simp only [bk_bag, if_neg c_9]; rfl) | (simp only [bk_bag, c_9, ↓reduceIte, Bool.false_eq_true, if_true, if_false, reduceCtorEq, not_true_eq_false, not_false_eq_true, eq_self]; done) | (simp only [bk_bag, c_9, ↓reduceIte, Bool.false_eq_true, if_true, if_false, reduceCtorEq, not_true_eq_false, not_false_eq_true, eq_self]; rfl) | (simp [bk_bag, c_9]; done)), ht⟩) (fun q h => absurd h List.not_mem_nil) dX7_bagBehind_20
  · skip
    refine lv_aload_n hx hb dX7_bagBehind_12 rfl (lv_at hl 1 rfl) ?_
    refine vp_callSi (W.runV (As := []) (rest := []) ⟨hx, hb, hml, hown, hts⟩ (c_X7_all l D cI g pm rm rr st sg rn bg la ws pr ry hm xu xl sn kp kr kb kl kw kh hc pg rd rw ro be he kro khe) (cwV 0 hts gX7_bagBehind_X7_all rfl rfl rfl (by decide +kernel) ⟨Nat.le_of_ble_eq_true rfl, Nat.le_of_ble_eq_true rfl⟩) (vz_pvR (va_recv hK hP (ci := 7) (q0 := 0) rfl rfl) hZ hP) rfl rfl hl.1 rfl (lv_room (Nat.le_of_ble_eq_true rfl)) dX7_bagBehind_13 ⟨Nat.zero_le _, Nat.zero_le _⟩) (fun r_13 hr_13 => ?_)
    subst hr_13
    refine lv_goto (tgt := 20) hx hb dX7_bagBehind_16 (by decide) ?_
    exact W.iret hx hb hr (fun t ht hW => ⟨_, rfl, (by first | rfl | (simp only [bk_bag, if_pos c_9]; done) | (simp only [bk_bag, if_pos c_9]; rfl) | (simp only [bk_bag, c_9, ↓reduceIte, Bool.false_eq_true, if_true, if_false, reduceCtorEq, not_true_eq_false, not_false_eq_true, eq_self]; done) | (simp only [bk_bag, c_9, ↓reduceIte, Bool.false_eq_true, if_true, if_false, reduceCtorEq, not_true_eq_false, not_false_eq_true, eq_self]; rfl) | (simp [bk_bag, c_9]; done)), ht⟩) (fun q h => absurd h List.not_mem_nil) dX7_bagBehind_20
set_option maxHeartbeats 4000000 in
set_option maxRecDepth 100000 in
theorem c_X7_mayNow (l : Launch) (D : va_G) (cI : ClassId) (g : Nat → Nat) (pm : Nat) (rm : Nat) (rr : Int32) (st : Nat) (sg : Nat) (rn : Int32) (bg : Int32) (la : Int32) (ws : Bool) (pr : Nat) (ry : Nat) (hm : Nat) (xu : Int64) (xl : Int64) (sn : Int32) (kp : Int32) (kr : Int32) (kb : Int32) (kl : Int32) (kw : Bool) (kh : Nat) (hc : Int64) (pg : Nat → Int32) (rd : Nat → Int32) (rw : Nat → Int32) (ro : Nat → Int32) (be : Nat → Int32) (he : Nat → Int32) (kro : Nat → Int32) (khe : Nat → Int32) (hsg : sg ≤ 6) (hbf : la = -1 ∨ ∃ b : Nat, b < sg ∧ la = nI b) : Met l yX7_mayNow wsX7_mayNow ({ frames := 2, cells := 0, slots := 0, locals := 47 } : Room) (vz_ro D cI (zM cI g pm rm rr st sg rn bg la ws pr ry hm xu xl sn kp kr kb kl kw kh hc pg rd rw ro be he kro khe) [.ref (g 0)]) (vp_Si (fun r => r = mo_may sg rw rn bg la)) 0 0 (fun _ => False) := by
  refine Met.ofW (cc := cX7_mayNow) (maxL := 1) (ret := (some .int)) (by decide) rfl ?_
  intro p e s m args below meth c s₁ B hml hv
  obtain ⟨rfl, hP, hZ⟩ := hv
  obtain ⟨hK, hN⟩ := id hZ
  have hx := B.exec
  have hb := B.bytes
  have hr := B.returns
  have hts := atoms_spec (ws := wsX7_mayNow) B.pre
  have hown : s.vm.findClass RX7 = some m.cls := findClass_of_methodNamed B.named
  have hlocks := B.notSynchronized
  have k38 := hts (.fieldLink RX7 38 "SongsAgainModel" "last" "I") (List.mem_of_getElem? (i := 3) rfl)
  have k76 := hts (.fieldLink RX7 76 "SongsAgainModel" "ruleNow" "I") (List.mem_of_getElem? (i := 1) rfl)
  have k82 := hts (.fieldLink RX7 82 "SongsAgainModel" "bag" "I") (List.mem_of_getElem? (i := 2) rfl)
  have iX7 : ∀ w ∈ u_ws RX7 TX7 30, w ∈ wsX7_mayNow := vz_in (i := 15) (n := 30) rfl
  have hl := lv_entry ([.ref (g 0)]) (n := 1) (Nat.le_of_ble_eq_true rfl)
  rw [lg_entry_eq]
  generalize (lg_sl ([.ref (g 0)]) ++ List.replicate (1 - (lg_sl ([.ref (g 0)])).length) Slot.unset).toArray = ls at hl ⊢
  have hl : lv_has ls 1 [(0, .ref (g 0))] := hl
  refine lv_aload_n hx hb dX7_mayNow_0 rfl (lv_at hl 0 rfl) ?_
  refine lv_aload_n hx hb dX7_mayNow_1 rfl (lv_at hl 0 rfl) ?_
  refine va_get (D := D) (ci := 7) (v := .int rn) (C := RX7) (T := TX7) (N := 30) hx hb hts iX7 hown hK hP 0 rfl rfl 7 (by decide) k76 (fun _ h9 => h9) rfl dX7_mayNow_2 ?_
  refine lv_aload_n hx hb dX7_mayNow_5 rfl (lv_at hl 0 rfl) ?_
  refine va_get (D := D) (ci := 7) (v := .int bg) (C := RX7) (T := TX7) (N := 30) hx hb hts iX7 hown hK hP 0 rfl rfl 8 (by decide) k82 (fun _ h9 => h9) rfl dX7_mayNow_6 ?_
  refine lv_aload_n hx hb dX7_mayNow_9 rfl (lv_at hl 0 rfl) ?_
  refine va_get (D := D) (ci := 7) (v := .int la) (C := RX7) (T := TX7) (N := 30) hx hb hts iX7 hown hK hP 0 rfl rfl 9 (by decide) k38 (fun _ h9 => h9) rfl dX7_mayNow_10 ?_
  refine vp_callSi (W.runV (As := [.int rn, .int bg, .int la]) (rest := []) ⟨hx, hb, hml, hown, hts⟩ (c_X7_mayBy l D cI g pm rm rr st sg rn bg la ws pr ry hm xu xl sn kp kr kb kl kw kh hc pg rd rw ro be he kro khe rn bg la (by first | assumption | omega) (by first | assumption | omega)) (cwV 3 hts gX7_mayNow_X7_mayBy rfl rfl rfl (by decide +kernel) ⟨Nat.le_of_ble_eq_true rfl, Nat.le_of_ble_eq_true rfl⟩) (vz_pvR (va_recv hK hP (ci := 7) (q0 := 0) rfl rfl) hZ hP) rfl rfl hl.1 rfl (lv_room (Nat.le_of_ble_eq_true rfl)) dX7_mayNow_13 ⟨Nat.zero_le _, Nat.zero_le _⟩) (fun r_13 hr_13 => ?_)
  subst hr_13
  exact W.iret hx hb hr (fun t ht hW => ⟨_, rfl, (by first | rfl | (rfl; done) | (rfl; rfl) | (rfl; done) | (rfl; rfl) | (simp; done)), ht⟩) (fun q h => absurd h List.not_mem_nil) dX7_mayNow_16
set_option maxHeartbeats 4000000 in
set_option maxRecDepth 100000 in
theorem c_X7_sumOf (l : Launch) (D : va_G) (cI : ClassId) (g : Nat → Nat) (pm : Nat) (rm : Nat) (rr : Int32) (st : Nat) (sg : Nat) (rn : Int32) (bg : Int32) (la : Int32) (ws : Bool) (pr : Nat) (ry : Nat) (hm : Nat) (xu : Int64) (xl : Int64) (sn : Int32) (kp : Int32) (kr : Int32) (kb : Int32) (kl : Int32) (kw : Bool) (kh : Nat) (hc : Int64) (pg : Nat → Int32) (rd : Nat → Int32) (rw : Nat → Int32) (ro : Nat → Int32) (be : Nat → Int32) (he : Nat → Int32) (kro : Nat → Int32) (khe : Nat → Int32) (p0 : Int32) (p1 : Bool) (hsg : sg ≤ 6) : Met l yX7_sumOf wsX7_sumOf ({ frames := 2, cells := 0, slots := 0, locals := 43 } : Room) (vz_ro D cI (zM cI g pm rm rr st sg rn bg la ws pr ry hm xu xl sn kp kr kb kl kw kh hc pg rd rw ro be he kro khe) [.ref (g 0), .int p0, .int (vz_b p1)]) (vp_Si (fun r => r = mo_sum rw p0 p1 sg)) 0 0 (fun _ => False) := by
  refine Met.ofW (cc := cX7_sumOf) (maxL := 5) (ret := (some .int)) (by decide) rfl ?_
  intro p e s m args below meth c s₁ B hml hv
  obtain ⟨rfl, hP, hZ⟩ := hv
  obtain ⟨hK, hN⟩ := id hZ
  have hx := B.exec
  have hb := B.bytes
  have hr := B.returns
  have hts := atoms_spec (ws := wsX7_sumOf) B.pre
  have hown : s.vm.findClass RX7 = some m.cls := findClass_of_methodNamed B.named
  have hlocks := B.notSynchronized
  have k73 := hts (.fieldLink RX7 73 "SongsAgainModel" "songs" "I") (List.mem_of_getElem? (i := 1) rfl)
  have iX7 : ∀ w ∈ u_ws RX7 TX7 30, w ∈ wsX7_sumOf := vz_in (i := 12) (n := 30) rfl
  have hl := lv_entry ([.ref (g 0), .int p0, .int (vz_b p1)]) (n := 5) (Nat.le_of_ble_eq_true rfl)
  rw [lg_entry_eq]
  generalize (lg_sl ([.ref (g 0), .int p0, .int (vz_b p1)]) ++ List.replicate (5 - (lg_sl ([.ref (g 0), .int p0, .int (vz_b p1)])).length) Slot.unset).toArray = ls at hl ⊢
  have hl : lv_has ls 5 [(0, .ref (g 0)), (1, .int p0), (2, .int (vz_b p1))] := hl
  refine lv_iconst (v := 0) hx hb dX7_sumOf_0 (by decide) ?_
  refine lv_istore_n (lv' := [(3, .int 0), (0, .ref (g 0)), (1, .int p0), (2, .int (vz_b p1))]) hx hb dX7_sumOf_1 rfl hl (by decide) rfl (fun ls hl => ?_)
  refine lv_iconst (v := 0) hx hb dX7_sumOf_2 (by decide) ?_
  refine lv_istore (lv' := [(4, .int 0), (3, .int 0), (0, .ref (g 0)), (1, .int p0), (2, .int (vz_b p1))]) hx hb dX7_sumOf_3 hl (by decide) rfl (fun ls hl => ?_)
  have L_5 : ∀ (d_5 : Nat) (j : Nat) (acc : Int32), sg - j < d_5 → (j ≤ sg) → (acc = mo_sum rw p0 p1 j) → ∀ (ls : Array Slot), lv_has ls 5 [(4, .int (nI j)), (3, .int acc), (0, .ref (g 0)), (1, .int p0), (2, .int (vz_b p1))] → W p l e ({ frames := 2, cells := 0, slots := 0, locals := 43 } : Room) s m ([.ref (g 0), .int p0, .int (vz_b p1)] : List Value).toArray below meth c s.heap [] 0 0 (MQ below (vp_Si (fun r => r = mo_sum rw p0 p1 sg)) ([.ref (g 0), .int p0, .int (vz_b p1)] : List Value).toArray s 0 0 (fun _ => False)) (F0 m 5 ls []) := by
    intro d_5
    induction d_5 with
    | zero => intro j acc hd; exact absurd hd (Nat.not_lt_zero _)
    | succ d_5 ih_5 =>
      intro j acc hd_5 hj hacc ls hl
      refine lv_iload hx hb dX7_sumOf_5 (lv_at hl 0 rfl) ?_
      refine lv_aload_n hx hb dX7_sumOf_7 rfl (lv_at hl 2 rfl) ?_
      refine va_get (D := D) (ci := 7) (v := .int (nI sg)) (C := RX7) (T := TX7) (N := 30) hx hb hts iX7 hown hK hP 0 rfl rfl 6 (by decide) k73 (fun _ h9 => h9) rfl dX7_sumOf_8 ?_
      refine lv_icmp_ge (tgt := 49) hx hb dX7_sumOf_11 (by decide) (fun c_11 => ?_) (fun c_11 => ?_)
      · skip
        have hje : j = sg := Nat.le_antisymm hj (vz_ge c_11 (by omega) (by omega))
        refine lv_iload_n hx hb dX7_sumOf_49 rfl (lv_at hl 1 rfl) ?_
        exact W.iret hx hb hr (fun t ht hW => ⟨_, rfl, (by rw [hacc, hje]), ht⟩) (fun q h => absurd h List.not_mem_nil) dX7_sumOf_50
      · skip
        have hlt : j < sg := vz_lt c_11 (by omega)
        refine lv_iload_n hx hb dX7_sumOf_14 rfl (lv_at hl 1 rfl) ?_
        refine lv_iload_n hx hb dX7_sumOf_15 rfl (lv_at hl 3 rfl) ?_
        refine lv_iload hx hb dX7_sumOf_16 (lv_at hl 0 rfl) ?_
        refine lv_ishr hx hb dX7_sumOf_18 ?_
        refine lv_iconst (v := 1) hx hb dX7_sumOf_19 (by decide) ?_
        refine lv_iand hx hb dX7_sumOf_20 ?_
        refine lv_iload_n hx hb dX7_sumOf_21 rfl (lv_at hl 4 rfl) ?_
        have J_40 : ∀ (z9 : Int32), z9 = (if p1 then mo_base rw j else mo_w rw j) → W p l e ({ frames := 2, cells := 0, slots := 0, locals := 43 } : Room) s m ([.ref (g 0), .int p0, .int (vz_b p1)] : List Value).toArray below meth c s.heap [] 0 0 (MQ below (vp_Si (fun r => r = mo_sum rw p0 p1 sg)) ([.ref (g 0), .int p0, .int (vz_b p1)] : List Value).toArray s 0 0 (fun _ => False)) (F0 m 40 ls [.int z9, .int ((p0 >>> ((nI j) &&& 31)) &&& 1), .int acc]) := by
          intro z9 hz9
          subst hz9
          refine lv_imul hx hb dX7_sumOf_40 ?_
          refine lv_iadd hx hb dX7_sumOf_41 ?_
          refine lv_istore_n (lv' := [(3, .int (acc + (((p0 >>> ((nI j) &&& 31)) &&& 1) * (if p1 then mo_base rw j else mo_w rw j)))), (4, .int (nI j)), (0, .ref (g 0)), (1, .int p0), (2, .int (vz_b p1))]) hx hb dX7_sumOf_42 rfl hl (by decide) rfl (fun ls hl => ?_)
          refine lv_iinc (v := nI (j + 1)) (lv' := [(4, .int (nI (j + 1))), (3, .int (acc + (((p0 >>> ((nI j) &&& 31)) &&& 1) * (if p1 then mo_base rw j else mo_w rw j)))), (0, .ref (g 0)), (1, .int p0), (2, .int (vz_b p1))]) hx hb dX7_sumOf_43 hl (k := 1) rfl (vz_inc _) (by decide) rfl (fun ls hl => ?_)
          refine lv_goto (tgt := 5) hx hb dX7_sumOf_46 (by decide) ?_
          exact ih_5 (j + 1) (acc + (((p0 >>> ((nI j) &&& 31)) &&& 1) * (if p1 then mo_base rw j else mo_w rw j))) (by omega) (by omega) (by rw [mo_sum, hacc]) ls (lv_sub hl [0, 1, 2, 3, 4] rfl)
        refine lv_if_eq (tgt := 34) hx hb dX7_sumOf_22 (by decide) (fun c_22 => ?_) (fun c_22 => ?_)
        · skip
          replace c_22 := vz_b0 c_22
          refine lv_aload_n hx hb dX7_sumOf_34 rfl (lv_at hl 2 rfl) ?_
          refine lv_iload hx hb dX7_sumOf_35 (lv_at hl 0 rfl) ?_
          refine vp_callSi (W.runV (As := [.int (nI j)]) (rest := [.int ((p0 >>> ((nI j) &&& 31)) &&& 1), .int acc]) ⟨hx, hb, hml, hown, hts⟩ (c_X7_weightOf l D cI g pm rm rr st sg rn bg la ws pr ry hm xu xl sn kp kr kb kl kw kh hc pg rd rw ro be he kro khe j (by first | assumption | omega) (by first | assumption | omega)) (cwV 1 hts gX7_sumOf_X7_weightOf rfl rfl rfl (by decide +kernel) ⟨Nat.le_of_ble_eq_true rfl, Nat.le_of_ble_eq_true rfl⟩) (vz_pvR (va_recv hK hP (ci := 7) (q0 := 0) rfl rfl) hZ hP) rfl rfl hl.1 rfl (lv_room (Nat.le_of_ble_eq_true rfl)) dX7_sumOf_37 ⟨Nat.zero_le _, Nat.zero_le _⟩) (fun r_37 hr_37 => ?_)
          subst hr_37
          exact J_40 _ (by simp only [c_22, ↓reduceIte, Bool.false_eq_true])
        · skip
          replace c_22 := vz_b1 c_22
          refine lv_aload_n hx hb dX7_sumOf_25 rfl (lv_at hl 2 rfl) ?_
          refine lv_iload hx hb dX7_sumOf_26 (lv_at hl 0 rfl) ?_
          refine vp_callSi (W.runV (As := [.int (nI j)]) (rest := [.int ((p0 >>> ((nI j) &&& 31)) &&& 1), .int acc]) ⟨hx, hb, hml, hown, hts⟩ (c_X7_baseOf l D cI g pm rm rr st sg rn bg la ws pr ry hm xu xl sn kp kr kb kl kw kh hc pg rd rw ro be he kro khe j (by first | assumption | omega) (by first | assumption | omega)) (cwV 1 hts gX7_sumOf_X7_baseOf rfl rfl rfl (by decide +kernel) ⟨Nat.le_of_ble_eq_true rfl, Nat.le_of_ble_eq_true rfl⟩) (vz_pvR (va_recv hK hP (ci := 7) (q0 := 0) rfl rfl) hZ hP) rfl rfl hl.1 rfl (lv_room (Nat.le_of_ble_eq_true rfl)) dX7_sumOf_28 ⟨Nat.zero_le _, Nat.zero_le _⟩) (fun r_28 hr_28 => ?_)
          subst hr_28
          refine lv_goto (tgt := 40) hx hb dX7_sumOf_31 (by decide) ?_
          exact J_40 _ (by simp only [c_22, ↓reduceIte, Bool.false_eq_true])
  exact L_5 _ 0 0 (Nat.lt_succ_self _) (Nat.zero_le _) rfl ls (lv_sub hl [0, 1, 2, 3, 4] rfl)
set_option maxHeartbeats 4000000 in
set_option maxRecDepth 100000 in
theorem c_X7_shareOf (l : Launch) (D : va_G) (cI : ClassId) (g : Nat → Nat) (pm : Nat) (rm : Nat) (rr : Int32) (st : Nat) (sg : Nat) (rn : Int32) (bg : Int32) (la : Int32) (ws : Bool) (pr : Nat) (ry : Nat) (hm : Nat) (xu : Int64) (xl : Int64) (sn : Int32) (kp : Int32) (kr : Int32) (kb : Int32) (kl : Int32) (kw : Bool) (kh : Nat) (hc : Int64) (pg : Nat → Int32) (rd : Nat → Int32) (rw : Nat → Int32) (ro : Nat → Int32) (be : Nat → Int32) (he : Nat → Int32) (kro : Nat → Int32) (khe : Nat → Int32) (p0 : Nat) (p1 : Int32) (hsg : sg ≤ 6) (hs : p0 < sg) : Met l yX7_shareOf wsX7_shareOf ({ frames := 3, cells := 0, slots := 0, locals := 67 } : Room) (vz_ro D cI (zM cI g pm rm rr st sg rn bg la ws pr ry hm xu xl sn kp kr kb kl kw kh hc pg rd rw ro be he kro khe) [.ref (g 0), .int (nI p0), .int p1]) (vp_Si (fun r => r = mo_sh sg rw p0 p1)) 0 0 (fun _ => False) := by
  refine Met.ofW (cc := cX7_shareOf) (maxL := 3) (ret := (some .int)) (by decide) rfl ?_
  intro p e s m args below meth c s₁ B hml hv
  obtain ⟨rfl, hP, hZ⟩ := hv
  obtain ⟨hK, hN⟩ := id hZ
  have hx := B.exec
  have hb := B.bytes
  have hr := B.returns
  have hts := atoms_spec (ws := wsX7_shareOf) B.pre
  have hown : s.vm.findClass RX7 = some m.cls := findClass_of_methodNamed B.named
  have hlocks := B.notSynchronized
  have hl := lv_entry ([.ref (g 0), .int (nI p0), .int p1]) (n := 3) (Nat.le_of_ble_eq_true rfl)
  rw [lg_entry_eq]
  generalize (lg_sl ([.ref (g 0), .int (nI p0), .int p1]) ++ List.replicate (3 - (lg_sl ([.ref (g 0), .int (nI p0), .int p1])).length) Slot.unset).toArray = ls at hl ⊢
  have hl : lv_has ls 3 [(0, .ref (g 0)), (1, .int (nI p0)), (2, .int p1)] := hl
  refine lv_iload_n hx hb dX7_shareOf_0 rfl (lv_at hl 2 rfl) ?_
  refine lv_iload_n hx hb dX7_shareOf_1 rfl (lv_at hl 1 rfl) ?_
  refine lv_ishr hx hb dX7_shareOf_2 ?_
  refine lv_iconst (v := 1) hx hb dX7_shareOf_3 (by decide) ?_
  refine lv_iand hx hb dX7_shareOf_4 ?_
  refine lv_if_ne (tgt := 10) hx hb dX7_shareOf_5 (by decide) (fun c_5 => ?_) (fun c_5 => ?_)
  · skip
    refine lv_aload_n hx hb dX7_shareOf_10 rfl (lv_at hl 0 rfl) ?_
    refine lv_iload_n hx hb dX7_shareOf_11 rfl (lv_at hl 2 rfl) ?_
    refine lv_iconst (v := 0) hx hb dX7_shareOf_12 (by decide) ?_
    refine vp_callSi (W.runV (As := [.int p1, .int 0]) (rest := []) ⟨hx, hb, hml, hown, hts⟩ (c_X7_sumOf l D cI g pm rm rr st sg rn bg la ws pr ry hm xu xl sn kp kr kb kl kw kh hc pg rd rw ro be he kro khe p1 false (by first | assumption | omega)) (cwV 2 hts gX7_shareOf_X7_sumOf rfl rfl rfl (by decide +kernel) ⟨Nat.le_of_ble_eq_true rfl, Nat.le_of_ble_eq_true rfl⟩) (vz_pvR (va_recv hK hP (ci := 7) (q0 := 0) rfl rfl) hZ hP) rfl rfl hl.1 rfl (lv_room (Nat.le_of_ble_eq_true rfl)) dX7_shareOf_13 ⟨Nat.zero_le _, Nat.zero_le _⟩) (fun r_13 hr_13 => ?_)
    subst hr_13
    refine lv_if_ne (tgt := 23) hx hb dX7_shareOf_16 (by decide) (fun c_16 => ?_) (fun c_16 => ?_)
    · skip
      refine lv_aload_n hx hb dX7_shareOf_23 rfl (lv_at hl 0 rfl) ?_
      refine lv_iload_n hx hb dX7_shareOf_24 rfl (lv_at hl 1 rfl) ?_
      refine vp_callSi (W.runV (As := [.int (nI p0)]) (rest := []) ⟨hx, hb, hml, hown, hts⟩ (c_X7_weightOf l D cI g pm rm rr st sg rn bg la ws pr ry hm xu xl sn kp kr kb kl kw kh hc pg rd rw ro be he kro khe p0 (by first | assumption | omega) (by first | assumption | omega)) (cwV 1 hts gX7_shareOf_X7_weightOf rfl rfl rfl (by decide +kernel) ⟨Nat.le_of_ble_eq_true rfl, Nat.le_of_ble_eq_true rfl⟩) (vz_pvR (va_recv hK hP (ci := 7) (q0 := 0) rfl rfl) hZ hP) rfl rfl hl.1 rfl (lv_room (Nat.le_of_ble_eq_true rfl)) dX7_shareOf_25 ⟨Nat.zero_le _, Nat.zero_le _⟩) (fun r_25 hr_25 => ?_)
      subst hr_25
      exact W.iret hx hb hr (fun t ht hW => ⟨_, rfl, (by first | rfl | (simp only [mo_sh, if_neg c_5, if_neg c_16]; done) | (simp only [mo_sh, if_neg c_5, if_neg c_16]; rfl) | (simp only [mo_sh, c_5, c_16, ↓reduceIte, Bool.false_eq_true, if_true, if_false, reduceCtorEq, not_true_eq_false, not_false_eq_true, eq_self]; done) | (simp only [mo_sh, c_5, c_16, ↓reduceIte, Bool.false_eq_true, if_true, if_false, reduceCtorEq, not_true_eq_false, not_false_eq_true, eq_self]; rfl) | (simp [mo_sh, c_5, c_16]; done)), ht⟩) (fun q h => absurd h List.not_mem_nil) dX7_shareOf_28
    · skip
      refine lv_iconst (v := 1) hx hb dX7_shareOf_19 (by decide) ?_
      refine lv_goto (tgt := 28) hx hb dX7_shareOf_20 (by decide) ?_
      exact W.iret hx hb hr (fun t ht hW => ⟨_, rfl, (by first | rfl | (simp only [mo_sh, if_neg c_5, if_pos c_16]; done) | (simp only [mo_sh, if_neg c_5, if_pos c_16]; rfl) | (simp only [mo_sh, c_5, c_16, ↓reduceIte, Bool.false_eq_true, if_true, if_false, reduceCtorEq, not_true_eq_false, not_false_eq_true, eq_self]; done) | (simp only [mo_sh, c_5, c_16, ↓reduceIte, Bool.false_eq_true, if_true, if_false, reduceCtorEq, not_true_eq_false, not_false_eq_true, eq_self]; rfl) | (simp [mo_sh, c_5, c_16]; done)), ht⟩) (fun q h => absurd h List.not_mem_nil) dX7_shareOf_28
  · skip
    refine lv_iconst (v := 0) hx hb dX7_shareOf_8 (by decide) ?_
    exact W.iret hx hb hr (fun t ht hW => ⟨_, rfl, (by first | rfl | (simp only [mo_sh, if_pos c_5]; done) | (simp only [mo_sh, if_pos c_5]; rfl) | (simp only [mo_sh, c_5, ↓reduceIte, Bool.false_eq_true, if_true, if_false, reduceCtorEq, not_true_eq_false, not_false_eq_true, eq_self]; done) | (simp only [mo_sh, c_5, ↓reduceIte, Bool.false_eq_true, if_true, if_false, reduceCtorEq, not_true_eq_false, not_false_eq_true, eq_self]; rfl) | (simp [mo_sh, c_5]; done)), ht⟩) (fun q h => absurd h List.not_mem_nil) dX7_shareOf_9
set_option maxHeartbeats 4000000 in
set_option maxRecDepth 100000 in
theorem c_X7_sharesOf (l : Launch) (D : va_G) (cI : ClassId) (g : Nat → Nat) (pm : Nat) (rm : Nat) (rr : Int32) (st : Nat) (sg : Nat) (rn : Int32) (bg : Int32) (la : Int32) (ws : Bool) (pr : Nat) (ry : Nat) (hm : Nat) (xu : Int64) (xl : Int64) (sn : Int32) (kp : Int32) (kr : Int32) (kb : Int32) (kl : Int32) (kw : Bool) (kh : Nat) (hc : Int64) (pg : Nat → Int32) (rd : Nat → Int32) (rw : Nat → Int32) (ro : Nat → Int32) (be : Nat → Int32) (he : Nat → Int32) (kro : Nat → Int32) (khe : Nat → Int32) (p0 : Int32) (hsg : sg ≤ 6) : Met l yX7_sharesOf wsX7_sharesOf ({ frames := 3, cells := 0, slots := 0, locals := 67 } : Room) (vz_ro D cI (zM cI g pm rm rr st sg rn bg la ws pr ry hm xu xl sn kp kr kb kl kw kh hc pg rd rw ro be he kro khe) [.ref (g 0), .int p0]) (vp_Si (fun r => r = mo_shs sg rw p0)) 0 0 (fun _ => False) := by
  refine Met.ofW (cc := cX7_sharesOf) (maxL := 3) (ret := (some .int)) (by decide) rfl ?_
  intro p e s m args below meth c s₁ B hml hv
  obtain ⟨rfl, hP, hZ⟩ := hv
  obtain ⟨hK, hN⟩ := id hZ
  have hx := B.exec
  have hb := B.bytes
  have hr := B.returns
  have hts := atoms_spec (ws := wsX7_sharesOf) B.pre
  have hown : s.vm.findClass RX7 = some m.cls := findClass_of_methodNamed B.named
  have hlocks := B.notSynchronized
  have hl := lv_entry ([.ref (g 0), .int p0]) (n := 3) (Nat.le_of_ble_eq_true rfl)
  rw [lg_entry_eq]
  generalize (lg_sl ([.ref (g 0), .int p0]) ++ List.replicate (3 - (lg_sl ([.ref (g 0), .int p0])).length) Slot.unset).toArray = ls at hl ⊢
  have hl : lv_has ls 3 [(0, .ref (g 0)), (1, .int p0)] := hl
  refine lv_aload_n hx hb dX7_sharesOf_0 rfl (lv_at hl 0 rfl) ?_
  refine lv_iload_n hx hb dX7_sharesOf_1 rfl (lv_at hl 1 rfl) ?_
  refine lv_iconst (v := 0) hx hb dX7_sharesOf_2 (by decide) ?_
  refine vp_callSi (W.runV (As := [.int p0, .int 0]) (rest := []) ⟨hx, hb, hml, hown, hts⟩ (c_X7_sumOf l D cI g pm rm rr st sg rn bg la ws pr ry hm xu xl sn kp kr kb kl kw kh hc pg rd rw ro be he kro khe p0 false (by first | assumption | omega)) (cwV 2 hts gX7_sharesOf_X7_sumOf rfl rfl rfl (by decide +kernel) ⟨Nat.le_of_ble_eq_true rfl, Nat.le_of_ble_eq_true rfl⟩) (vz_pvR (va_recv hK hP (ci := 7) (q0 := 0) rfl rfl) hZ hP) rfl rfl hl.1 rfl (lv_room (Nat.le_of_ble_eq_true rfl)) dX7_sharesOf_3 ⟨Nat.zero_le _, Nat.zero_le _⟩) (fun r_3 hr_3 => ?_)
  subst hr_3
  refine lv_istore_n (lv' := [(2, .int (mo_sum rw p0 false sg)), (0, .ref (g 0)), (1, .int p0)]) hx hb dX7_sharesOf_6 rfl hl (by decide) rfl (fun ls hl => ?_)
  refine lv_iload_n hx hb dX7_sharesOf_7 rfl (lv_at hl 0 rfl) ?_
  refine lv_if_ne (tgt := 18) hx hb dX7_sharesOf_8 (by decide) (fun c_8 => ?_) (fun c_8 => ?_)
  · skip
    refine lv_iload_n hx hb dX7_sharesOf_18 rfl (lv_at hl 0 rfl) ?_
    exact W.iret hx hb hr (fun t ht hW => ⟨_, rfl, (by first | rfl | (simp only [mo_shs, if_neg c_8]; done) | (simp only [mo_shs, if_neg c_8]; rfl) | (simp only [mo_shs, c_8, ↓reduceIte, Bool.false_eq_true, if_true, if_false, reduceCtorEq, not_true_eq_false, not_false_eq_true, eq_self]; done) | (simp only [mo_shs, c_8, ↓reduceIte, Bool.false_eq_true, if_true, if_false, reduceCtorEq, not_true_eq_false, not_false_eq_true, eq_self]; rfl) | (simp [mo_shs, c_8]; done)), ht⟩) (fun q h => absurd h List.not_mem_nil) dX7_sharesOf_19
  · skip
    refine lv_iload_n hx hb dX7_sharesOf_11 rfl (lv_at hl 2 rfl) ?_
    refine vp_callSi (W.runS (As := [.int p0]) (rest := []) ⟨hx, hb, hml, hown, hts⟩ (c_X7_ones l p0) (va_cwS 1 hts gX7_sharesOf_X7_ones rfl rfl rfl (by decide +kernel) ⟨Nat.le_of_ble_eq_true rfl, Nat.le_of_ble_eq_true rfl⟩) (vz_psS) rfl rfl hl.1 rfl (lv_room (Nat.le_of_ble_eq_true rfl)) dX7_sharesOf_12 ⟨Nat.zero_le _, Nat.zero_le _⟩) (fun r_12 hr_12 => ?_)
    subst hr_12
    refine lv_goto (tgt := 19) hx hb dX7_sharesOf_15 (by decide) ?_
    exact W.iret hx hb hr (fun t ht hW => ⟨_, rfl, (by first | rfl | (simp only [mo_shs, if_pos c_8]; done) | (simp only [mo_shs, if_pos c_8]; rfl) | (simp only [mo_shs, c_8, ↓reduceIte, Bool.false_eq_true, if_true, if_false, reduceCtorEq, not_true_eq_false, not_false_eq_true, eq_self]; done) | (simp only [mo_shs, c_8, ↓reduceIte, Bool.false_eq_true, if_true, if_false, reduceCtorEq, not_true_eq_false, not_false_eq_true, eq_self]; rfl) | (simp [mo_shs, c_8]; done)), ht⟩) (fun q h => absurd h List.not_mem_nil) dX7_sharesOf_19

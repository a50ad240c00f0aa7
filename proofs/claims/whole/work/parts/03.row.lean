/-! SongsAgain$Row: numbers in a row; what its methods answer, as functions -/
def rw_at (n : Nat) (f : Nat → Int32) (p : Int32) : Int32 := if p < 0 then 0 else if nI n ≤ p then 0 else f p.toNatClampNeg
def rw_put (n : Nat) (f : Nat → Int32) (p v : Int32) : Nat → Int32 := if p < 0 then f else if nI n ≤ p then f else upd f p.toNatClampNeg v
def rw_inc (n : Nat) (f : Nat → Int32) (p : Int32) : Nat → Int32 := rw_put n f p (rw_at n f p + 1)
def rw_clr (f : Nat → Int32) (n : Nat) : Nat → Int32 := fun k => if k < n then 0 else f k
def rw_cp (g f : Nat → Int32) (n : Nat) : Nat → Int32 := fun k => if k < n then g k else f k
def rw_sum (f : Nat → Int32) : Nat → Int32
  | 0 => 0
  | j + 1 => rw_sum f j + f j
def rw_abn (f : Nat → Int32) : Nat → Int32
  | 0 => 0
  | j + 1 => rw_abn f j + (if f j ≤ 0 then 0 else 1)
theorem vz_pin {p : Int32} {n : Nat} (h1 : ¬ p < 0) (h2 : ¬ nI n ≤ p) (hn : n < 2 ^ 31) : vp_in p n := by
  rcases pk_ix p hn with h | h | ⟨j, h, rfl⟩
  · exact absurd h h1
  · exact absurd h h2
  · exact vp_in_nI h hn
theorem rw_clr_0 (f : Nat → Int32) : rw_clr f 0 = f := by funext k; simp [rw_clr]
theorem rw_clr_s (f : Nat → Int32) (j : Nat) : upd (rw_clr f j) j 0 = rw_clr f (j + 1) := by
  funext k
  simp only [upd, rw_clr]
  by_cases h : k = j
  · subst h; simp
  · by_cases h2 : k < j
    · rw [if_neg h, if_pos h2, if_pos (by omega)]
    · rw [if_neg h, if_neg h2, if_neg (by omega)]
theorem rw_cp_0 (g f : Nat → Int32) : rw_cp g f 0 = f := by funext k; simp [rw_cp]
theorem rw_cp_s (g f : Nat → Int32) (j : Nat) : upd (rw_cp g f j) j (g j) = rw_cp g f (j + 1) := by
  funext k
  simp only [upd, rw_cp]
  by_cases h : k = j
  · subst h; simp
  · by_cases h2 : k < j
    · rw [if_neg h, if_pos h2, if_pos (by omega)]
    · rw [if_neg h, if_neg h2, if_neg (by omega)]
theorem rw_at_in {n j : Nat} (f : Nat → Int32) (h : j < n) (hn : n < 2 ^ 31) : rw_at n f (nI j) = f j := by
  rw [rw_at, if_neg (nI_pos (by omega)), if_neg (nI_ge h hn), nI_clamp (by omega)]
abbrev zRow (cI : ClassId) (a : Nat) (b : Nat) (n : Nat) (f : Nat → Int32) : va_W := [(a, .inr (5, [.ref b])), (b, .inl (cI, n, .inl f))]
abbrev zRowRow (cI : ClassId) (a : Nat) (b : Nat) (a2 : Nat) (b2 : Nat) (n : Nat) (f : Nat → Int32) (g : Nat → Int32) : va_W := [(a, .inr (5, [.ref b])), (b, .inl (cI, n, .inl f)), (a2, .inr (5, [.ref b2])), (b2, .inl (cI, n, .inl g))]
set_option maxHeartbeats 4000000 in
set_option maxRecDepth 100000 in
theorem c_X5_at (l : Launch) (D : va_G) (cI : ClassId) (a : Nat) (b : Nat) (n : Nat) (f : Nat → Int32) (p0 : Int32) (hn : n < 2 ^ 31) : Met l yX5_at wsX5_at ({ frames := 0, cells := 0, slots := 0, locals := 0 } : Room) (vz_ro D cI (zRow cI a b n f) [.ref a, .int p0]) (vp_Si (fun r => r = rw_at n f p0)) 0 0 (fun _ => False) := by
  refine Met.ofW (cc := cX5_at) (maxL := 2) (ret := (some .int)) (by decide) rfl ?_
  intro p e s m args below meth c s₁ B hml hv
  obtain ⟨rfl, hP, hZ⟩ := hv
  obtain ⟨hK, hN⟩ := id hZ
  have hx := B.exec
  have hb := B.bytes
  have hr := B.returns
  have hts := atoms_spec (ws := wsX5_at) B.pre
  have hown : s.vm.findClass RX5 = some m.cls := findClass_of_methodNamed B.named
  have hlocks := B.notSynchronized
  have k13 := hts (.fieldLink RX5 13 "SongsAgain$Row" "cells" "[I") (List.mem_of_getElem? (i := 1) rfl)
  have iX5 : ∀ w ∈ u_ws RX5 TX5 1, w ∈ wsX5_at := vz_in (i := 2) (n := 1) rfl
  have hl := lv_entry ([.ref a, .int p0]) (n := 2) (Nat.le_of_ble_eq_true rfl)
  rw [lg_entry_eq]
  generalize (lg_sl ([.ref a, .int p0]) ++ List.replicate (2 - (lg_sl ([.ref a, .int p0])).length) Slot.unset).toArray = ls at hl ⊢
  have hl : lv_has ls 2 [(0, .ref a), (1, .int p0)] := hl
  refine lv_iload_n hx hb dX5_at_0 rfl (lv_at hl 1 rfl) ?_
  refine lv_if_lt (tgt := 22) hx hb dX5_at_1 (by decide) (fun c_1 => ?_) (fun c_1 => ?_)
  · skip
    refine lv_iconst (v := 0) hx hb dX5_at_22 (by decide) ?_
    exact W.iret hx hb hr (fun t ht hW => ⟨_, rfl, (by first | rfl | (simp only [rw_at, if_pos c_1]; done) | (simp only [rw_at, if_pos c_1]; rfl) | (simp only [rw_at, c_1, ↓reduceIte, Bool.false_eq_true, if_true, if_false, reduceCtorEq, not_true_eq_false, not_false_eq_true, eq_self]; done) | (simp only [rw_at, c_1, ↓reduceIte, Bool.false_eq_true, if_true, if_false, reduceCtorEq, not_true_eq_false, not_false_eq_true, eq_self]; rfl) | (simp [rw_at, c_1]; done)), ht⟩) (fun q h => absurd h List.not_mem_nil) dX5_at_23
  · skip
    refine lv_iload_n hx hb dX5_at_4 rfl (lv_at hl 1 rfl) ?_
    refine lv_aload_n hx hb dX5_at_5 rfl (lv_at hl 0 rfl) ?_
    refine va_get (D := D) (ci := 5) (v := .ref b) (C := RX5) (T := TX5) (N := 1) hx hb hts iX5 hown hK hP 0 rfl rfl 0 (by decide) k13 (fun _ h9 => h9) rfl dX5_at_6 ?_
    refine va_alen (v := nI n) hx hb hK hP 1 0 rfl (ty := .int) rfl rfl dX5_at_9 ?_
    refine lv_icmp_ge (tgt := 22) hx hb dX5_at_10 (by decide) (fun c_10 => ?_) (fun c_10 => ?_)
    · skip
      refine lv_iconst (v := 0) hx hb dX5_at_22 (by decide) ?_
      exact W.iret hx hb hr (fun t ht hW => ⟨_, rfl, (by first | rfl | (simp only [rw_at, if_neg c_1, if_pos c_10]; done) | (simp only [rw_at, if_neg c_1, if_pos c_10]; rfl) | (simp only [rw_at, c_1, c_10, ↓reduceIte, Bool.false_eq_true, if_true, if_false, reduceCtorEq, not_true_eq_false, not_false_eq_true, eq_self]; done) | (simp only [rw_at, c_1, c_10, ↓reduceIte, Bool.false_eq_true, if_true, if_false, reduceCtorEq, not_true_eq_false, not_false_eq_true, eq_self]; rfl) | (simp [rw_at, c_1, c_10]; done)), ht⟩) (fun q h => absurd h List.not_mem_nil) dX5_at_23
    · skip
      refine lv_aload_n hx hb dX5_at_13 rfl (lv_at hl 0 rfl) ?_
      refine va_get (D := D) (ci := 5) (v := .ref b) (C := RX5) (T := TX5) (N := 1) hx hb hts iX5 hown hK hP 0 rfl rfl 0 (by decide) k13 (fun _ h9 => h9) rfl dX5_at_14 ?_
      refine lv_iload_n hx hb dX5_at_17 rfl (lv_at hl 1 rfl) ?_
      refine va_iald hx hb hK hP 1 0 rfl rfl (i := p0) (vz_pin c_1 c_10 hn) dX5_at_18 ?_
      refine lv_goto (tgt := 23) hx hb dX5_at_19 (by decide) ?_
      exact W.iret hx hb hr (fun t ht hW => ⟨_, rfl, (by first | rfl | (simp only [rw_at, if_neg c_1, if_neg c_10]; done) | (simp only [rw_at, if_neg c_1, if_neg c_10]; rfl) | (simp only [rw_at, c_1, c_10, ↓reduceIte, Bool.false_eq_true, if_true, if_false, reduceCtorEq, not_true_eq_false, not_false_eq_true, eq_self]; done) | (simp only [rw_at, c_1, c_10, ↓reduceIte, Bool.false_eq_true, if_true, if_false, reduceCtorEq, not_true_eq_false, not_false_eq_true, eq_self]; rfl) | (simp [rw_at, c_1, c_10]; done)), ht⟩) (fun q h => absurd h List.not_mem_nil) dX5_at_23
set_option maxHeartbeats 4000000 in
set_option maxRecDepth 100000 in
theorem c_X5_put (l : Launch) (D : va_G) (cI : ClassId) (a : Nat) (b : Nat) (n : Nat) (f : Nat → Int32) (sz : Nat) (p0 : Int32) (p1 : Int32) (hn : n < 2 ^ 31) : Met l yX5_put wsX5_put ({ frames := 0, cells := 0, slots := 0, locals := 0 } : Room) (vz_rw D cI (zRow cI a b n f) sz [.ref a, .int p0, .int p1]) (va_Qv (fun (_ : Unit) => True) (fun (u : Unit) (t : State) => va_P D vwCl (zRow cI a b n (rw_put n f p0 p1)) t.heap) (va_A (zRow cI a b n f) sz)) 0 0 (va_A (zRow cI a b n f) sz) := by
  refine Met.ofW (cc := cX5_put) (maxL := 3) (ret := none) (by decide) rfl ?_
  intro p e s m args below meth c s₁ B hml hv
  obtain ⟨rfl, hsz, hP, hZ, hD0⟩ := hv
  obtain ⟨hK, hN⟩ := id hZ
  have hx := B.exec
  have hb := B.bytes
  have hr := B.returns
  have hts := atoms_spec (ws := wsX5_put) B.pre
  have hown : s.vm.findClass RX5 = some m.cls := findClass_of_methodNamed B.named
  have hlocks := B.notSynchronized
  subst hsz
  have hD := hD0.self (sz := s.heap.size)
  generalize hAe : va_A (zRow cI a b n f) s.heap.size = A at hD ⊢
  have hA : ∀ q : Nat, s.heap.size ≤ q → A q := fun q h => by rw [← hAe]; exact Or.inr h
  have hS : va_S A s.heap s.heap [] := va_S.rf
  have k13 := hts (.fieldLink RX5 13 "SongsAgain$Row" "cells" "[I") (List.mem_of_getElem? (i := 1) rfl)
  have iX5 : ∀ w ∈ u_ws RX5 TX5 1, w ∈ wsX5_put := vz_in (i := 2) (n := 1) rfl
  have hl := lv_entry ([.ref a, .int p0, .int p1]) (n := 3) (Nat.le_of_ble_eq_true rfl)
  rw [lg_entry_eq]
  generalize (lg_sl ([.ref a, .int p0, .int p1]) ++ List.replicate (3 - (lg_sl ([.ref a, .int p0, .int p1])).length) Slot.unset).toArray = ls at hl ⊢
  have hl : lv_has ls 3 [(0, .ref a), (1, .int p0), (2, .int p1)] := hl
  have hP : va_P D vwCl (zRow cI a b n f) s.heap := hP
  refine lv_iload_n hx hb dX5_put_0 rfl (lv_at hl 1 rfl) ?_
  refine lv_if_lt (tgt := 20) hx hb dX5_put_1 (by decide) (fun c_1 => ?_) (fun c_1 => ?_)
  · skip
    have en_f : rw_put n f p0 p1 = f := by first | rfl | (simp only [rw_put, if_pos c_1]; done) | (simp only [rw_put, if_pos c_1]; rfl) | (simp only [rw_put, c_1, ↓reduceIte, Bool.false_eq_true, if_true, if_false, reduceCtorEq, not_true_eq_false, not_false_eq_true, eq_self]; done) | (simp only [rw_put, c_1, ↓reduceIte, Bool.false_eq_true, if_true, if_false, reduceCtorEq, not_true_eq_false, not_false_eq_true, eq_self]; rfl) | (simp [rw_put, c_1]; done)
    exact W.vret hx hb hr (fun t ht hW => ⟨⟨(), rfl, trivial, (by show va_P D vwCl (zRow cI a b n (rw_put n f p0 p1)) t.heap; rw [ht, en_f]; exact hP)⟩, hS.F ht⟩) hS.2.2 dX5_put_20
  · skip
    refine lv_iload_n hx hb dX5_put_4 rfl (lv_at hl 1 rfl) ?_
    refine lv_aload_n hx hb dX5_put_5 rfl (lv_at hl 0 rfl) ?_
    refine va_get (D := D) (ci := 5) (v := .ref b) (C := RX5) (T := TX5) (N := 1) hx hb hts iX5 hown hK hP 0 rfl rfl 0 (by decide) k13 (fun _ h9 => h9) rfl dX5_put_6 ?_
    refine va_alen (v := nI n) hx hb hK hP 1 0 rfl (ty := .int) rfl rfl dX5_put_9 ?_
    refine lv_icmp_ge (tgt := 20) hx hb dX5_put_10 (by decide) (fun c_10 => ?_) (fun c_10 => ?_)
    · skip
      have en_f : rw_put n f p0 p1 = f := by first | rfl | (simp only [rw_put, if_neg c_1, if_pos c_10]; done) | (simp only [rw_put, if_neg c_1, if_pos c_10]; rfl) | (simp only [rw_put, c_1, c_10, ↓reduceIte, Bool.false_eq_true, if_true, if_false, reduceCtorEq, not_true_eq_false, not_false_eq_true, eq_self]; done) | (simp only [rw_put, c_1, c_10, ↓reduceIte, Bool.false_eq_true, if_true, if_false, reduceCtorEq, not_true_eq_false, not_false_eq_true, eq_self]; rfl) | (simp [rw_put, c_1, c_10]; done)
      exact W.vret hx hb hr (fun t ht hW => ⟨⟨(), rfl, trivial, (by show va_P D vwCl (zRow cI a b n (rw_put n f p0 p1)) t.heap; rw [ht, en_f]; exact hP)⟩, hS.F ht⟩) hS.2.2 dX5_put_20
    · skip
      refine lv_aload_n hx hb dX5_put_13 rfl (lv_at hl 0 rfl) ?_
      refine va_get (D := D) (ci := 5) (v := .ref b) (C := RX5) (T := TX5) (N := 1) hx hb hts iX5 hown hK hP 0 rfl rfl 0 (by decide) k13 (fun _ h9 => h9) rfl dX5_put_14 ?_
      refine lv_iload_n hx hb dX5_put_17 rfl (lv_at hl 1 rfl) ?_
      refine lv_iload_n hx hb dX5_put_18 rfl (lv_at hl 2 rfl) ?_
      refine va_iast hx hb hK hP hD hS 1 0 rfl rfl (i := p0) (x := p1) (vz_pin c_1 c_10 hn) dX5_put_19 (fun H_19 locs_19 hP9 hD9 hS9 => ?_)
      replace hP : va_P D vwCl (zRow cI a b n (upd f ((p0 : Int32).toNatClampNeg) p1)) H_19 := hP9
      replace hD : va_D A (zRow cI a b n (upd f ((p0 : Int32).toNatClampNeg) p1)) := hD9
      replace hS := hS9
      clear hP9 hD9 hS9
      have en_f : rw_put n f p0 p1 = upd f ((p0 : Int32).toNatClampNeg) p1 := by first | rfl | (simp only [rw_put, if_neg c_1, if_neg c_10]; done) | (simp only [rw_put, if_neg c_1, if_neg c_10]; rfl) | (simp only [rw_put, c_1, c_10, ↓reduceIte, Bool.false_eq_true, if_true, if_false, reduceCtorEq, not_true_eq_false, not_false_eq_true, eq_self]; done) | (simp only [rw_put, c_1, c_10, ↓reduceIte, Bool.false_eq_true, if_true, if_false, reduceCtorEq, not_true_eq_false, not_false_eq_true, eq_self]; rfl) | (simp [rw_put, c_1, c_10]; done)
      exact W.vret hx hb hr (fun t ht hW => ⟨⟨(), rfl, trivial, (by show va_P D vwCl (zRow cI a b n (rw_put n f p0 p1)) t.heap; rw [ht, en_f]; exact hP)⟩, hS.F ht⟩) hS.2.2 dX5_put_20
set_option maxHeartbeats 4000000 in
set_option maxRecDepth 100000 in
theorem c_X5_increase (l : Launch) (D : va_G) (cI : ClassId) (a : Nat) (b : Nat) (n : Nat) (f : Nat → Int32) (sz : Nat) (p0 : Int32) (hn : n < 2 ^ 31) : Met l yX5_increase wsX5_increase ({ frames := 1, cells := 0, slots := 0, locals := 22 } : Room) (vz_rw D cI (zRow cI a b n f) sz [.ref a, .int p0]) (va_Qv (fun (_ : Unit) => True) (fun (u : Unit) (t : State) => va_P D vwCl (zRow cI a b n (rw_inc n f p0)) t.heap) (va_A (zRow cI a b n f) sz)) 0 0 (va_A (zRow cI a b n f) sz) := by
  refine Met.ofW (cc := cX5_increase) (maxL := 2) (ret := none) (by decide) rfl ?_
  intro p e s m args below meth c s₁ B hml hv
  obtain ⟨rfl, hsz, hP, hZ, hD0⟩ := hv
  obtain ⟨hK, hN⟩ := id hZ
  have hx := B.exec
  have hb := B.bytes
  have hr := B.returns
  have hts := atoms_spec (ws := wsX5_increase) B.pre
  have hown : s.vm.findClass RX5 = some m.cls := findClass_of_methodNamed B.named
  have hlocks := B.notSynchronized
  subst hsz
  have hD := hD0.self (sz := s.heap.size)
  generalize hAe : va_A (zRow cI a b n f) s.heap.size = A at hD ⊢
  have hA : ∀ q : Nat, s.heap.size ≤ q → A q := fun q h => by rw [← hAe]; exact Or.inr h
  have hS : va_S A s.heap s.heap [] := va_S.rf
  have hl := lv_entry ([.ref a, .int p0]) (n := 2) (Nat.le_of_ble_eq_true rfl)
  rw [lg_entry_eq]
  generalize (lg_sl ([.ref a, .int p0]) ++ List.replicate (2 - (lg_sl ([.ref a, .int p0])).length) Slot.unset).toArray = ls at hl ⊢
  have hl : lv_has ls 2 [(0, .ref a), (1, .int p0)] := hl
  have hP : va_P D vwCl (zRow cI a b n f) s.heap := hP
  refine lv_aload_n hx hb dX5_increase_0 rfl (lv_at hl 0 rfl) ?_
  refine lv_iload_n hx hb dX5_increase_1 rfl (lv_at hl 1 rfl) ?_
  refine lv_aload_n hx hb dX5_increase_2 rfl (lv_at hl 0 rfl) ?_
  refine lv_iload_n hx hb dX5_increase_3 rfl (lv_at hl 1 rfl) ?_
  refine vp_callSi (W.runV (As := [.int p0]) (rest := [.int p0, .ref a]) ⟨hx, hb, hml, hown, hts⟩ (c_X5_at l D cI a b n f p0 (by first | assumption | omega)) (cwV 1 hts gX5_increase_X5_at rfl rfl rfl (by decide +kernel) ⟨Nat.le_of_ble_eq_true rfl, Nat.le_of_ble_eq_true rfl⟩) (vz_pvR (va_recv hK hP (ci := 5) (q0 := 0) rfl rfl) hZ hP) rfl rfl hl.1 rfl (lv_room (Nat.le_of_ble_eq_true rfl)) dX5_increase_4 ⟨Nat.zero_le _, Nat.zero_le _⟩) (fun r_4 hr_4 => ?_)
  subst hr_4
  refine lv_iconst (v := 1) hx hb dX5_increase_7 (by decide) ?_
  refine lv_iadd hx hb dX5_increase_8 ?_
  have hPc := hP
  have hDc := hD
  have hFc : ∀ q, va_A (zRow cI a b n f) s.heap.size q → A q := vz_freeAll hD hS hA
  refine va_callv (va_runV (As := [.int p0, .int ((rw_at n f p0) + 1)]) (rest := []) ⟨hx, hb, hml, hown, hts⟩ (c_X5_put l D cI a b n f s.heap.size p0 ((rw_at n f p0) + 1) (by first | assumption | omega)) (cwV 2 hts gX5_increase_X5_put rfl rfl rfl (by decide +kernel) ⟨Nat.le_of_ble_eq_true rfl, Nat.le_of_ble_eq_true rfl⟩) (vz_pvW (va_recv hK hP (ci := 5) (q0 := 0) rfl rfl) hZ hPc hDc) rfl rfl hl.1 rfl (lv_room (Nat.le_of_ble_eq_true rfl)) dX5_increase_9 ⟨Nat.zero_le _, Nat.zero_le _⟩) hS (fun q _ h => hFc q h) hFc (fun u_9 t H_9 locs_9 ht hvm hw hB hz1 hk1 hS9 => ?_)
  rw [ht] at hB
  replace hP : va_P D vwCl (zRow cI a b n (rw_put n f p0 ((rw_at n f p0) + 1))) H_9 := hB
  replace hD : va_D A (zRow cI a b n (rw_put n f p0 ((rw_at n f p0) + 1))) := vz_same hD rfl
  replace hS := hS9
  clear hS9 hPc hDc hFc hB hk1 hz1
  have en_f : rw_inc n f p0 = rw_put n f p0 ((rw_at n f p0) + 1) := by first | rfl | (simp only [rw_inc]; done) | (simp only [rw_inc]; rfl) | (simp only [rw_inc, ↓reduceIte, Bool.false_eq_true, if_true, if_false, reduceCtorEq, not_true_eq_false, not_false_eq_true, eq_self]; done) | (simp only [rw_inc, ↓reduceIte, Bool.false_eq_true, if_true, if_false, reduceCtorEq, not_true_eq_false, not_false_eq_true, eq_self]; rfl) | (simp [rw_inc]; done)
  exact W.vret hx hb hr (fun t ht hW => ⟨⟨(), rfl, trivial, (by show va_P D vwCl (zRow cI a b n (rw_inc n f p0)) t.heap; rw [ht, en_f]; exact hP)⟩, hS.F ht⟩) hS.2.2 dX5_increase_12
set_option maxHeartbeats 4000000 in
set_option maxRecDepth 100000 in
theorem c_X5_clear (l : Launch) (D : va_G) (cI : ClassId) (a : Nat) (b : Nat) (n : Nat) (f : Nat → Int32) (sz : Nat) (hn : n < 2 ^ 31) : Met l yX5_clear wsX5_clear ({ frames := 0, cells := 0, slots := 0, locals := 0 } : Room) (vz_rw D cI (zRow cI a b n f) sz [.ref a]) (va_Qv (fun (_ : Unit) => True) (fun (u : Unit) (t : State) => va_P D vwCl (zRow cI a b n (rw_clr f n)) t.heap) (va_A (zRow cI a b n f) sz)) 0 0 (va_A (zRow cI a b n f) sz) := by
  refine Met.ofW (cc := cX5_clear) (maxL := 2) (ret := none) (by decide) rfl ?_
  intro p e s m args below meth c s₁ B hml hv
  obtain ⟨rfl, hsz, hP, hZ, hD0⟩ := hv
  obtain ⟨hK, hN⟩ := id hZ
  have hx := B.exec
  have hb := B.bytes
  have hr := B.returns
  have hts := atoms_spec (ws := wsX5_clear) B.pre
  have hown : s.vm.findClass RX5 = some m.cls := findClass_of_methodNamed B.named
  have hlocks := B.notSynchronized
  subst hsz
  have hD := hD0.self (sz := s.heap.size)
  generalize hAe : va_A (zRow cI a b n f) s.heap.size = A at hD ⊢
  have hA : ∀ q : Nat, s.heap.size ≤ q → A q := fun q h => by rw [← hAe]; exact Or.inr h
  have hS : va_S A s.heap s.heap [] := va_S.rf
  have k13 := hts (.fieldLink RX5 13 "SongsAgain$Row" "cells" "[I") (List.mem_of_getElem? (i := 1) rfl)
  have iX5 : ∀ w ∈ u_ws RX5 TX5 1, w ∈ wsX5_clear := vz_in (i := 2) (n := 1) rfl
  have hl := lv_entry ([.ref a]) (n := 2) (Nat.le_of_ble_eq_true rfl)
  rw [lg_entry_eq]
  generalize (lg_sl ([.ref a]) ++ List.replicate (2 - (lg_sl ([.ref a])).length) Slot.unset).toArray = ls at hl ⊢
  have hl : lv_has ls 2 [(0, .ref a)] := hl
  have hP : va_P D vwCl (zRow cI a b n f) s.heap := hP
  refine lv_iconst (v := 0) hx hb dX5_clear_0 (by decide) ?_
  refine lv_istore_n (lv' := [(1, .int 0), (0, .ref a)]) hx hb dX5_clear_1 rfl hl (by decide) rfl (fun ls hl => ?_)
  have L_2 : ∀ (d_2 : Nat) (j : Nat) (H_2 : Heap) (locs_2 : List Loc), n - j < d_2 → (j ≤ n) → va_P D vwCl (zRow cI a b n (rw_clr f j)) H_2 → va_D A (zRow cI a b n (rw_clr f j)) → va_S A s.heap H_2 locs_2 → ∀ (ls : Array Slot), lv_has ls 2 [(1, .int (nI j)), (0, .ref a)] → W p l e ({ frames := 0, cells := 0, slots := 0, locals := 0 } : Room) s m ([.ref a] : List Value).toArray below meth c H_2 locs_2 0 0 (MQ below (va_Qv (fun (_ : Unit) => True) (fun (u : Unit) (t : State) => va_P D vwCl (zRow cI a b n (rw_clr f n)) t.heap) A) ([.ref a] : List Value).toArray s 0 0 A) (F0 m 2 ls []) := by
    intro d_2
    induction d_2 with
    | zero => intro j H_2 locs_2 hd; exact absurd hd (Nat.not_lt_zero _)
    | succ d_2 ih_2 =>
      intro j H_2 locs_2 hd_2 hj hP hD hS ls hl
      refine lv_iload_n hx hb dX5_clear_2 rfl (lv_at hl 0 rfl) ?_
      refine lv_aload_n hx hb dX5_clear_3 rfl (lv_at hl 1 rfl) ?_
      refine va_get (D := D) (ci := 5) (v := .ref b) (C := RX5) (T := TX5) (N := 1) hx hb hts iX5 hown hK hP 0 rfl rfl 0 (by decide) k13 (fun _ h9 => h9) rfl dX5_clear_4 ?_
      refine va_alen (v := nI n) hx hb hK hP 1 0 rfl (ty := .int) rfl rfl dX5_clear_7 ?_
      refine lv_icmp_ge (tgt := 24) hx hb dX5_clear_8 (by decide) (fun c_8 => ?_) (fun c_8 => ?_)
      · skip
        have hje : j = n := Nat.le_antisymm hj (vz_ge c_8 (by omega) (by omega))
        have en_f : rw_clr f n = rw_clr f j := by rw [hje]
        exact W.vret hx hb hr (fun t ht hW => ⟨⟨(), rfl, trivial, (by show va_P D vwCl (zRow cI a b n (rw_clr f n)) t.heap; rw [ht, en_f]; exact hP)⟩, hS.F ht⟩) hS.2.2 dX5_clear_24
      · skip
        have hlt : j < n := vz_lt c_8 (by omega)
        refine lv_aload_n hx hb dX5_clear_11 rfl (lv_at hl 1 rfl) ?_
        refine va_get (D := D) (ci := 5) (v := .ref b) (C := RX5) (T := TX5) (N := 1) hx hb hts iX5 hown hK hP 0 rfl rfl 0 (by decide) k13 (fun _ h9 => h9) rfl dX5_clear_12 ?_
        refine lv_iload_n hx hb dX5_clear_15 rfl (lv_at hl 0 rfl) ?_
        refine lv_iconst (v := 0) hx hb dX5_clear_16 (by decide) ?_
        refine va_iast hx hb hK hP hD hS 1 0 rfl rfl (i := nI j) (x := 0) (vp_in_nI (by first | assumption | omega) (by first | assumption | omega)) dX5_clear_17 (fun H_17 locs_17 hP9 hD9 hS9 => ?_)
        rw [show (nI j : Int32).toNatClampNeg = j from nI_clamp (by first | assumption | omega)] at hP9 hD9
        replace hP : va_P D vwCl (zRow cI a b n (upd (rw_clr f j) j 0)) H_17 := hP9
        replace hD : va_D A (zRow cI a b n (upd (rw_clr f j) j 0)) := hD9
        replace hS := hS9
        clear hP9 hD9 hS9
        refine lv_iinc (v := nI (j + 1)) (lv' := [(1, .int (nI (j + 1))), (0, .ref a)]) hx hb dX5_clear_18 hl (k := 0) rfl (vz_inc _) (by decide) rfl (fun ls hl => ?_)
        refine lv_goto (tgt := 2) hx hb dX5_clear_21 (by decide) ?_
        have ew_f : rw_clr f (j + 1) = upd (rw_clr f j) j 0 := by exact (rw_clr_s f j).symm
        replace hP : va_P D vwCl (zRow cI a b n (rw_clr f (j + 1))) H_17 := by rw [ew_f]; exact hP
        replace hD : va_D A (zRow cI a b n (rw_clr f (j + 1))) := vz_same hD rfl
        exact ih_2 (j + 1) _ _ (by omega) (by omega) hP hD hS ls (lv_sub hl [0, 1] rfl)
  have ew_f : rw_clr f 0 = f := by exact rw_clr_0 f
  replace hP : va_P D vwCl (zRow cI a b n (rw_clr f 0)) s.heap := by rw [ew_f]; exact hP
  replace hD : va_D A (zRow cI a b n (rw_clr f 0)) := vz_same hD rfl
  exact L_2 _ 0 _ _ (Nat.lt_succ_self _) (Nat.zero_le _) hP hD hS ls (lv_sub hl [0, 1] rfl)
set_option maxHeartbeats 4000000 in
set_option maxRecDepth 100000 in
theorem c_X5_become (l : Launch) (D : va_G) (cI : ClassId) (a : Nat) (b : Nat) (a2 : Nat) (b2 : Nat) (n : Nat) (f : Nat → Int32) (g : Nat → Int32) (sz : Nat) (hn : n < 2 ^ 31) : Met l yX5_become wsX5_become ({ frames := 1, cells := 0, slots := 0, locals := 21 } : Room) (vz_rw D cI (zRowRow cI a b a2 b2 n f g) sz [.ref a, .ref a2]) (va_Qv (fun (_ : Unit) => True) (fun (u : Unit) (t : State) => va_P D vwCl (zRowRow cI a b a2 b2 n (rw_cp g f n) g) t.heap) (va_A (zRowRow cI a b a2 b2 n f g) sz)) 0 0 (va_A (zRowRow cI a b a2 b2 n f g) sz) := by
  refine Met.ofW (cc := cX5_become) (maxL := 3) (ret := none) (by decide) rfl ?_
  intro p e s m args below meth c s₁ B hml hv
  obtain ⟨rfl, hsz, hP, hZ, hD0⟩ := hv
  obtain ⟨hK, hN⟩ := id hZ
  have hx := B.exec
  have hb := B.bytes
  have hr := B.returns
  have hts := atoms_spec (ws := wsX5_become) B.pre
  have hown : s.vm.findClass RX5 = some m.cls := findClass_of_methodNamed B.named
  have hlocks := B.notSynchronized
  subst hsz
  have hD := hD0.self (sz := s.heap.size)
  generalize hAe : va_A (zRowRow cI a b a2 b2 n f g) s.heap.size = A at hD ⊢
  have hA : ∀ q : Nat, s.heap.size ≤ q → A q := fun q h => by rw [← hAe]; exact Or.inr h
  have hS : va_S A s.heap s.heap [] := va_S.rf
  have k13 := hts (.fieldLink RX5 13 "SongsAgain$Row" "cells" "[I") (List.mem_of_getElem? (i := 1) rfl)
  have iX5 : ∀ w ∈ u_ws RX5 TX5 1, w ∈ wsX5_become := vz_in (i := 7) (n := 1) rfl
  have hl := lv_entry ([.ref a, .ref a2]) (n := 3) (Nat.le_of_ble_eq_true rfl)
  rw [lg_entry_eq]
  generalize (lg_sl ([.ref a, .ref a2]) ++ List.replicate (3 - (lg_sl ([.ref a, .ref a2])).length) Slot.unset).toArray = ls at hl ⊢
  have hl : lv_has ls 3 [(0, .ref a), (1, .ref a2)] := hl
  have hP : va_P D vwCl (zRowRow cI a b a2 b2 n f g) s.heap := hP
  refine lv_iconst (v := 0) hx hb dX5_become_0 (by decide) ?_
  refine lv_istore_n (lv' := [(2, .int 0), (0, .ref a), (1, .ref a2)]) hx hb dX5_become_1 rfl hl (by decide) rfl (fun ls hl => ?_)
  have L_2 : ∀ (d_2 : Nat) (j : Nat) (H_2 : Heap) (locs_2 : List Loc), n - j < d_2 → (j ≤ n) → va_P D vwCl (zRowRow cI a b a2 b2 n (rw_cp g f j) g) H_2 → va_D A (zRowRow cI a b a2 b2 n (rw_cp g f j) g) → va_S A s.heap H_2 locs_2 → ∀ (ls : Array Slot), lv_has ls 3 [(2, .int (nI j)), (0, .ref a), (1, .ref a2)] → W p l e ({ frames := 1, cells := 0, slots := 0, locals := 21 } : Room) s m ([.ref a, .ref a2] : List Value).toArray below meth c H_2 locs_2 0 0 (MQ below (va_Qv (fun (_ : Unit) => True) (fun (u : Unit) (t : State) => va_P D vwCl (zRowRow cI a b a2 b2 n (rw_cp g f n) g) t.heap) A) ([.ref a, .ref a2] : List Value).toArray s 0 0 A) (F0 m 2 ls []) := by
    intro d_2
    induction d_2 with
    | zero => intro j H_2 locs_2 hd; exact absurd hd (Nat.not_lt_zero _)
    | succ d_2 ih_2 =>
      intro j H_2 locs_2 hd_2 hj hP hD hS ls hl
      refine lv_iload_n hx hb dX5_become_2 rfl (lv_at hl 0 rfl) ?_
      refine lv_aload_n hx hb dX5_become_3 rfl (lv_at hl 1 rfl) ?_
      refine va_get (D := D) (ci := 5) (v := .ref b) (C := RX5) (T := TX5) (N := 1) hx hb hts iX5 hown hK hP 0 rfl rfl 0 (by decide) k13 (fun _ h9 => h9) rfl dX5_become_4 ?_
      refine va_alen (v := nI n) hx hb hK hP 1 0 rfl (ty := .int) rfl rfl dX5_become_7 ?_
      refine lv_icmp_ge (tgt := 28) hx hb dX5_become_8 (by decide) (fun c_8 => ?_) (fun c_8 => ?_)
      · skip
        have hje : j = n := Nat.le_antisymm hj (vz_ge c_8 (by omega) (by omega))
        have en_f : rw_cp g f n = rw_cp g f j := by rw [hje]
        exact W.vret hx hb hr (fun t ht hW => ⟨⟨(), rfl, trivial, (by show va_P D vwCl (zRowRow cI a b a2 b2 n (rw_cp g f n) g) t.heap; rw [ht, en_f]; exact hP)⟩, hS.F ht⟩) hS.2.2 dX5_become_28
      · skip
        have hlt : j < n := vz_lt c_8 (by omega)
        refine lv_aload_n hx hb dX5_become_11 rfl (lv_at hl 1 rfl) ?_
        refine va_get (D := D) (ci := 5) (v := .ref b) (C := RX5) (T := TX5) (N := 1) hx hb hts iX5 hown hK hP 0 rfl rfl 0 (by decide) k13 (fun _ h9 => h9) rfl dX5_become_12 ?_
        refine lv_iload_n hx hb dX5_become_15 rfl (lv_at hl 0 rfl) ?_
        refine lv_aload_n hx hb dX5_become_16 rfl (lv_at hl 2 rfl) ?_
        refine lv_iload_n hx hb dX5_become_17 rfl (lv_at hl 0 rfl) ?_
        refine vp_callSi (W.runV (As := [.int (nI j)]) (rest := [.int (nI j), .ref b]) ⟨hx, hb, hml, hown, hts⟩ (c_X5_at l D cI a2 b2 n g (nI j) (by first | assumption | omega)) (cwV 1 hts gX5_become_X5_at rfl rfl rfl (by decide +kernel) ⟨Nat.le_of_ble_eq_true rfl, Nat.le_of_ble_eq_true rfl⟩) (vz_pvR (va_recv hK hP (ci := 5) (q0 := 2) rfl rfl) hZ (hP.sub (ws' := (zRow cI a2 b2 n g)) [2, 3] rfl)) rfl rfl hl.1 rfl (lv_room (Nat.le_of_ble_eq_true rfl)) dX5_become_18 ⟨Nat.zero_le _, Nat.zero_le _⟩) (fun r_18 hr_18 => ?_)
        subst hr_18
        refine va_iast hx hb hK hP hD hS 1 0 rfl rfl (i := nI j) (x := rw_at n g (nI j)) (vp_in_nI (by first | assumption | omega) (by first | assumption | omega)) dX5_become_21 (fun H_21 locs_21 hP9 hD9 hS9 => ?_)
        rw [show (nI j : Int32).toNatClampNeg = j from nI_clamp (by first | assumption | omega)] at hP9 hD9
        replace hP : va_P D vwCl (zRowRow cI a b a2 b2 n (upd (rw_cp g f j) j (rw_at n g (nI j))) g) H_21 := hP9
        replace hD : va_D A (zRowRow cI a b a2 b2 n (upd (rw_cp g f j) j (rw_at n g (nI j))) g) := hD9
        replace hS := hS9
        clear hP9 hD9 hS9
        refine lv_iinc (v := nI (j + 1)) (lv' := [(2, .int (nI (j + 1))), (0, .ref a), (1, .ref a2)]) hx hb dX5_become_22 hl (k := 0) rfl (vz_inc _) (by decide) rfl (fun ls hl => ?_)
        refine lv_goto (tgt := 2) hx hb dX5_become_25 (by decide) ?_
        have ew_f : rw_cp g f (j + 1) = upd (rw_cp g f j) j (rw_at n g (nI j)) := by rw [rw_at_in g hlt hn]; exact (rw_cp_s g f j).symm
        replace hP : va_P D vwCl (zRowRow cI a b a2 b2 n (rw_cp g f (j + 1)) g) H_21 := by rw [ew_f]; exact hP
        replace hD : va_D A (zRowRow cI a b a2 b2 n (rw_cp g f (j + 1)) g) := vz_same hD rfl
        exact ih_2 (j + 1) _ _ (by omega) (by omega) hP hD hS ls (lv_sub hl [0, 1, 2] rfl)
  have ew_f : rw_cp g f 0 = f := by exact rw_cp_0 g f
  replace hP : va_P D vwCl (zRowRow cI a b a2 b2 n (rw_cp g f 0) g) s.heap := by rw [ew_f]; exact hP
  replace hD : va_D A (zRowRow cI a b a2 b2 n (rw_cp g f 0) g) := vz_same hD rfl
  exact L_2 _ 0 _ _ (Nat.lt_succ_self _) (Nat.zero_le _) hP hD hS ls (lv_sub hl [0, 1, 2] rfl)
set_option maxHeartbeats 4000000 in
set_option maxRecDepth 100000 in
theorem c_X5_sum (l : Launch) (D : va_G) (cI : ClassId) (a : Nat) (b : Nat) (n : Nat) (f : Nat → Int32) (hn : n < 2 ^ 31) : Met l yX5_sum wsX5_sum ({ frames := 0, cells := 0, slots := 0, locals := 0 } : Room) (vz_ro D cI (zRow cI a b n f) [.ref a]) (vp_Si (fun r => r = rw_sum f n)) 0 0 (fun _ => False) := by
  refine Met.ofW (cc := cX5_sum) (maxL := 3) (ret := (some .int)) (by decide) rfl ?_
  intro p e s m args below meth c s₁ B hml hv
  obtain ⟨rfl, hP, hZ⟩ := hv
  obtain ⟨hK, hN⟩ := id hZ
  have hx := B.exec
  have hb := B.bytes
  have hr := B.returns
  have hts := atoms_spec (ws := wsX5_sum) B.pre
  have hown : s.vm.findClass RX5 = some m.cls := findClass_of_methodNamed B.named
  have hlocks := B.notSynchronized
  have k13 := hts (.fieldLink RX5 13 "SongsAgain$Row" "cells" "[I") (List.mem_of_getElem? (i := 1) rfl)
  have iX5 : ∀ w ∈ u_ws RX5 TX5 1, w ∈ wsX5_sum := vz_in (i := 2) (n := 1) rfl
  have hl := lv_entry ([.ref a]) (n := 3) (Nat.le_of_ble_eq_true rfl)
  rw [lg_entry_eq]
  generalize (lg_sl ([.ref a]) ++ List.replicate (3 - (lg_sl ([.ref a])).length) Slot.unset).toArray = ls at hl ⊢
  have hl : lv_has ls 3 [(0, .ref a)] := hl
  refine lv_iconst (v := 0) hx hb dX5_sum_0 (by decide) ?_
  refine lv_istore_n (lv' := [(1, .int 0), (0, .ref a)]) hx hb dX5_sum_1 rfl hl (by decide) rfl (fun ls hl => ?_)
  refine lv_iconst (v := 0) hx hb dX5_sum_2 (by decide) ?_
  refine lv_istore_n (lv' := [(2, .int 0), (1, .int 0), (0, .ref a)]) hx hb dX5_sum_3 rfl hl (by decide) rfl (fun ls hl => ?_)
  have L_4 : ∀ (d_4 : Nat) (j : Nat) (acc : Int32), n - j < d_4 → (j ≤ n) → (acc = rw_sum f j) → ∀ (ls : Array Slot), lv_has ls 3 [(2, .int (nI j)), (1, .int acc), (0, .ref a)] → W p l e ({ frames := 0, cells := 0, slots := 0, locals := 0 } : Room) s m ([.ref a] : List Value).toArray below meth c s.heap [] 0 0 (MQ below (vp_Si (fun r => r = rw_sum f n)) ([.ref a] : List Value).toArray s 0 0 (fun _ => False)) (F0 m 4 ls []) := by
    intro d_4
    induction d_4 with
    | zero => intro j acc hd; exact absurd hd (Nat.not_lt_zero _)
    | succ d_4 ih_4 =>
      intro j acc hd_4 hj hacc ls hl
      refine lv_iload_n hx hb dX5_sum_4 rfl (lv_at hl 0 rfl) ?_
      refine lv_aload_n hx hb dX5_sum_5 rfl (lv_at hl 2 rfl) ?_
      refine va_get (D := D) (ci := 5) (v := .ref b) (C := RX5) (T := TX5) (N := 1) hx hb hts iX5 hown hK hP 0 rfl rfl 0 (by decide) k13 (fun _ h9 => h9) rfl dX5_sum_6 ?_
      refine va_alen (v := nI n) hx hb hK hP 1 0 rfl (ty := .int) rfl rfl dX5_sum_9 ?_
      refine lv_icmp_ge (tgt := 28) hx hb dX5_sum_10 (by decide) (fun c_10 => ?_) (fun c_10 => ?_)
      · skip
        have hje : j = n := Nat.le_antisymm hj (vz_ge c_10 (by omega) (by omega))
        refine lv_iload_n hx hb dX5_sum_28 rfl (lv_at hl 1 rfl) ?_
        exact W.iret hx hb hr (fun t ht hW => ⟨_, rfl, (by rw [hacc, hje]), ht⟩) (fun q h => absurd h List.not_mem_nil) dX5_sum_29
      · skip
        have hlt : j < n := vz_lt c_10 (by omega)
        refine lv_iload_n hx hb dX5_sum_13 rfl (lv_at hl 1 rfl) ?_
        refine lv_aload_n hx hb dX5_sum_14 rfl (lv_at hl 2 rfl) ?_
        refine va_get (D := D) (ci := 5) (v := .ref b) (C := RX5) (T := TX5) (N := 1) hx hb hts iX5 hown hK hP 0 rfl rfl 0 (by decide) k13 (fun _ h9 => h9) rfl dX5_sum_15 ?_
        refine lv_iload_n hx hb dX5_sum_18 rfl (lv_at hl 0 rfl) ?_
        refine va_iald hx hb hK hP 1 0 rfl rfl (i := nI j) (vp_in_nI (by first | assumption | omega) (by first | assumption | omega)) dX5_sum_19 ?_
        refine W.eq (congrArg (fun z => F0 m 20 ls (.int z :: [.int acc])) (vz_ix f (by first | assumption | omega))) ?_
        refine lv_iadd hx hb dX5_sum_20 ?_
        refine lv_istore_n (lv' := [(1, .int (acc + (f j))), (2, .int (nI j)), (0, .ref a)]) hx hb dX5_sum_21 rfl hl (by decide) rfl (fun ls hl => ?_)
        refine lv_iinc (v := nI (j + 1)) (lv' := [(2, .int (nI (j + 1))), (1, .int (acc + (f j))), (0, .ref a)]) hx hb dX5_sum_22 hl (k := 1) rfl (vz_inc _) (by decide) rfl (fun ls hl => ?_)
        refine lv_goto (tgt := 4) hx hb dX5_sum_25 (by decide) ?_
        exact ih_4 (j + 1) (acc + (f j)) (by omega) (by omega) (by rw [rw_sum, hacc]) ls (lv_sub hl [0, 1, 2] rfl)
  exact L_4 _ 0 0 (Nat.lt_succ_self _) (Nat.zero_le _) rfl ls (lv_sub hl [0, 1, 2] rfl)
set_option maxHeartbeats 4000000 in
set_option maxRecDepth 100000 in
theorem c_X5_aboveNothing (l : Launch) (D : va_G) (cI : ClassId) (a : Nat) (b : Nat) (n : Nat) (f : Nat → Int32) (hn : n < 2 ^ 31) : Met l yX5_aboveNothing wsX5_aboveNothing ({ frames := 0, cells := 0, slots := 0, locals := 0 } : Room) (vz_ro D cI (zRow cI a b n f) [.ref a]) (vp_Si (fun r => r = rw_abn f n)) 0 0 (fun _ => False) := by
  refine Met.ofW (cc := cX5_aboveNothing) (maxL := 3) (ret := (some .int)) (by decide) rfl ?_
  intro p e s m args below meth c s₁ B hml hv
  obtain ⟨rfl, hP, hZ⟩ := hv
  obtain ⟨hK, hN⟩ := id hZ
  have hx := B.exec
  have hb := B.bytes
  have hr := B.returns
  have hts := atoms_spec (ws := wsX5_aboveNothing) B.pre
  have hown : s.vm.findClass RX5 = some m.cls := findClass_of_methodNamed B.named
  have hlocks := B.notSynchronized
  have k13 := hts (.fieldLink RX5 13 "SongsAgain$Row" "cells" "[I") (List.mem_of_getElem? (i := 1) rfl)
  have iX5 : ∀ w ∈ u_ws RX5 TX5 1, w ∈ wsX5_aboveNothing := vz_in (i := 2) (n := 1) rfl
  have hl := lv_entry ([.ref a]) (n := 3) (Nat.le_of_ble_eq_true rfl)
  rw [lg_entry_eq]
  generalize (lg_sl ([.ref a]) ++ List.replicate (3 - (lg_sl ([.ref a])).length) Slot.unset).toArray = ls at hl ⊢
  have hl : lv_has ls 3 [(0, .ref a)] := hl
  refine lv_iconst (v := 0) hx hb dX5_aboveNothing_0 (by decide) ?_
  refine lv_istore_n (lv' := [(1, .int 0), (0, .ref a)]) hx hb dX5_aboveNothing_1 rfl hl (by decide) rfl (fun ls hl => ?_)
  refine lv_iconst (v := 0) hx hb dX5_aboveNothing_2 (by decide) ?_
  refine lv_istore_n (lv' := [(2, .int 0), (1, .int 0), (0, .ref a)]) hx hb dX5_aboveNothing_3 rfl hl (by decide) rfl (fun ls hl => ?_)
  have L_4 : ∀ (d_4 : Nat) (j : Nat) (acc : Int32), n - j < d_4 → (j ≤ n) → (acc = rw_abn f j) → ∀ (ls : Array Slot), lv_has ls 3 [(2, .int (nI j)), (1, .int acc), (0, .ref a)] → W p l e ({ frames := 0, cells := 0, slots := 0, locals := 0 } : Room) s m ([.ref a] : List Value).toArray below meth c s.heap [] 0 0 (MQ below (vp_Si (fun r => r = rw_abn f n)) ([.ref a] : List Value).toArray s 0 0 (fun _ => False)) (F0 m 4 ls []) := by
    intro d_4
    induction d_4 with
    | zero => intro j acc hd; exact absurd hd (Nat.not_lt_zero _)
    | succ d_4 ih_4 =>
      intro j acc hd_4 hj hacc ls hl
      refine lv_iload_n hx hb dX5_aboveNothing_4 rfl (lv_at hl 0 rfl) ?_
      refine lv_aload_n hx hb dX5_aboveNothing_5 rfl (lv_at hl 2 rfl) ?_
      refine va_get (D := D) (ci := 5) (v := .ref b) (C := RX5) (T := TX5) (N := 1) hx hb hts iX5 hown hK hP 0 rfl rfl 0 (by decide) k13 (fun _ h9 => h9) rfl dX5_aboveNothing_6 ?_
      refine va_alen (v := nI n) hx hb hK hP 1 0 rfl (ty := .int) rfl rfl dX5_aboveNothing_9 ?_
      refine lv_icmp_ge (tgt := 36) hx hb dX5_aboveNothing_10 (by decide) (fun c_10 => ?_) (fun c_10 => ?_)
      · skip
        have hje : j = n := Nat.le_antisymm hj (vz_ge c_10 (by omega) (by omega))
        refine lv_iload_n hx hb dX5_aboveNothing_36 rfl (lv_at hl 1 rfl) ?_
        exact W.iret hx hb hr (fun t ht hW => ⟨_, rfl, (by rw [hacc, hje]), ht⟩) (fun q h => absurd h List.not_mem_nil) dX5_aboveNothing_37
      · skip
        have hlt : j < n := vz_lt c_10 (by omega)
        refine lv_iload_n hx hb dX5_aboveNothing_13 rfl (lv_at hl 1 rfl) ?_
        refine lv_aload_n hx hb dX5_aboveNothing_14 rfl (lv_at hl 2 rfl) ?_
        refine va_get (D := D) (ci := 5) (v := .ref b) (C := RX5) (T := TX5) (N := 1) hx hb hts iX5 hown hK hP 0 rfl rfl 0 (by decide) k13 (fun _ h9 => h9) rfl dX5_aboveNothing_15 ?_
        refine lv_iload_n hx hb dX5_aboveNothing_18 rfl (lv_at hl 0 rfl) ?_
        refine va_iald hx hb hK hP 1 0 rfl rfl (i := nI j) (vp_in_nI (by first | assumption | omega) (by first | assumption | omega)) dX5_aboveNothing_19 ?_
        refine W.eq (congrArg (fun z => F0 m 20 ls (.int z :: [.int acc])) (vz_ix f (by first | assumption | omega))) ?_
        refine lv_if_le (tgt := 27) hx hb dX5_aboveNothing_20 (by decide) (fun c_20 => ?_) (fun c_20 => ?_)
        · skip
          refine lv_iconst (v := 0) hx hb dX5_aboveNothing_27 (by decide) ?_
          refine lv_iadd hx hb dX5_aboveNothing_28 ?_
          refine lv_istore_n (lv' := [(1, .int (acc + 0)), (2, .int (nI j)), (0, .ref a)]) hx hb dX5_aboveNothing_29 rfl hl (by decide) rfl (fun ls hl => ?_)
          refine lv_iinc (v := nI (j + 1)) (lv' := [(2, .int (nI (j + 1))), (1, .int (acc + 0)), (0, .ref a)]) hx hb dX5_aboveNothing_30 hl (k := 1) rfl (vz_inc _) (by decide) rfl (fun ls hl => ?_)
          refine lv_goto (tgt := 4) hx hb dX5_aboveNothing_33 (by decide) ?_
          exact ih_4 (j + 1) (acc + 0) (by omega) (by omega) (by rw [rw_abn, hacc] ; simp only [if_neg c_10, if_pos c_20]) ls (lv_sub hl [0, 1, 2] rfl)
        · skip
          refine lv_iconst (v := 1) hx hb dX5_aboveNothing_23 (by decide) ?_
          refine lv_goto (tgt := 28) hx hb dX5_aboveNothing_24 (by decide) ?_
          refine lv_iadd hx hb dX5_aboveNothing_28 ?_
          refine lv_istore_n (lv' := [(1, .int (acc + 1)), (2, .int (nI j)), (0, .ref a)]) hx hb dX5_aboveNothing_29 rfl hl (by decide) rfl (fun ls hl => ?_)
          refine lv_iinc (v := nI (j + 1)) (lv' := [(2, .int (nI (j + 1))), (1, .int (acc + 1)), (0, .ref a)]) hx hb dX5_aboveNothing_30 hl (k := 1) rfl (vz_inc _) (by decide) rfl (fun ls hl => ?_)
          refine lv_goto (tgt := 4) hx hb dX5_aboveNothing_33 (by decide) ?_
          exact ih_4 (j + 1) (acc + 1) (by omega) (by omega) (by rw [rw_abn, hacc] ; simp only [if_neg c_10, if_neg c_20]) ls (lv_sub hl [0, 1, 2] rfl)
  exact L_4 _ 0 0 (Nat.lt_succ_self _) (Nat.zero_le _) rfl ls (lv_sub hl [0, 1, 2] rfl)

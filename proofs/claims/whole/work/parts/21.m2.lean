/-! the reference: reading, songs, what would be: as functions -/
theorem vz_nlt {k n : Nat} (h : ¬ nI k = nI n) (hk : k ≤ n) (hn : n < 2 ^ 31) : k < n := Nat.lt_of_le_of_ne hk (fun q => h (by rw [q]))
theorem vz_l0 {y : Nat} (h : lN y ≤ 0) (hy : y < 2 ^ 63) : y = 0 := by
  have := (pk_lLE (b := 0) hy (by decide)).mp h
  omega
theorem vz_lp {y : Nat} (h : ¬ lN y ≤ 0) : 0 < y := Nat.pos_of_ne_zero (fun q => h (by rw [q] ; decide))
def ml_ok (pm : Nat) (c : Int32) : Bool := if mo_in c.toInt64 1 126 then (if nI pm = 22 then false else true) else false
def go_st (st : Nat) (c : Int32) : Nat := if st = 2 then (if c = 44 then 0 else 3) else st + 1
def go_rm (st rm : Nat) : Nat := if st = 1 then rm + 1 else rm
def go_rr (st : Nat) (rr c : Int32) : Int32 := if st = 3 then c - 48 else rr
def go_rd (st rm : Nat) (rd : Nat → Int32) (c : Int32) : Nat → Int32 := if st = 0 then upd rd (2 * rm) (mo_kind c) else if st = 1 then upd rd (2 * rm + 1) (c - 48) else rd
def go_r (st rm : Nat) (c : Int32) : Bool := if st = 0 then (if mo_kind c = -1 then false else true) else if st = 1 then mo_in (c - 48).toInt64 0 3 else if st = 2 then (if c = 44 then (if 6 ≤ nI rm then false else true) else if c = 59 then (if nI rm ≤ 1 then false else true) else false) else if st = 3 then mo_in (c - 48).toInt64 0 3 else false
theorem go_r6 {st rm : Nat} (h6 : rm ≤ 6) (h2 : st ≤ 1 → rm ≤ 5) : go_rm st rm ≤ 6 := by
  unfold go_rm
  split
  · have := h2 (by omega)
    omega
  · exact h6
theorem go_inv {st rm : Nat} {c : Int32} (h1 : st ≤ 4) (h6 : rm ≤ 6) (h2 : st ≤ 1 → rm ≤ 5) (h : go_r st rm c = true) : go_st st c ≤ 4 ∧ go_rm st rm ≤ 6 ∧ (go_st st c ≤ 1 → go_rm st rm ≤ 5) := by
  refine ⟨?_, go_r6 h6 h2, ?_⟩
  · rcases (show st = 0 ∨ st = 1 ∨ st = 2 ∨ st = 3 ∨ st = 4 by omega) with e | e | e | e | e <;> subst e
    · simp [go_st]
    · simp [go_st]
    · by_cases hc : c = 44 <;> simp [go_st, hc]
    · simp [go_st]
    · simp [go_r] at h
  · rcases (show st = 0 ∨ st = 1 ∨ st = 2 ∨ st = 3 ∨ st = 4 by omega) with e | e | e | e | e <;> subst e
    · intro _; simpa [go_rm] using h2 (by omega)
    · intro q; simp [go_st] at q
    · intro q
      by_cases hc : c = 44
      · subst hc
        simp only [go_r] at h
        simp only [go_rm]
        by_cases h5 : (6 : Int32) ≤ nI rm
        · simp [h5] at h
        · have : rm < 6 := vz_lt (n := 6) h5 (by omega)
          simp
          omega
      · simp [go_st, hc] at q
    · intro q; simp [go_st] at q
    · simp [go_r] at h
def fo (pg : Nat → Int32) : Nat → Nat → (Nat → Int32) → Nat → Int32 → Nat → Nat × (Nat → Int32) × Nat × Int32 × Nat
  | 0, k, rd, rm, rr, st => (k, rd, rm, rr, st)
  | d + 1, k, rd, rm, rr, st => if go_r st rm (pg k) then fo pg d (k + 1) (go_rd st rm rd (pg k)) (go_rm st rm) (go_rr st rr (pg k)) (go_st st (pg k)) else (k, go_rd st rm rd (pg k), go_rm st rm, go_rr st rr (pg k), go_st st (pg k))
theorem fo_rm6 (pg : Nat → Int32) : ∀ (d k : Nat) (rd : Nat → Int32) (rm : Nat) (rr : Int32) (st : Nat), st ≤ 4 → rm ≤ 6 → (st ≤ 1 → rm ≤ 5) → (fo pg d k rd rm rr st).2.2.1 ≤ 6
  | 0, _, _, _, _, _, _, h, _ => h
  | d + 1, k, rd, rm, rr, st, h1, h6, h2 => by
    unfold fo
    by_cases h : go_r st rm (pg k) = true
    · rw [if_pos h]
      exact fo_rm6 pg d _ _ _ _ _ (go_inv h1 h6 h2 h).1 (go_inv h1 h6 h2 h).2.1 (go_inv h1 h6 h2 h).2.2
    · rw [if_neg h]
      exact go_r6 h6 h2
def mp_ok (pm : Nat) (F : Nat × (Nat → Int32) × Nat × Int32 × Nat) : Bool := if nI F.1 < nI pm then false else if nI F.2.2.2.2 = 4 then true else false
def mp_rows (rd rw : Nat → Int32) : Nat → Nat → Int32
  | 0 => rw
  | j + 1 => upd (upd (upd (upd (mp_rows rd rw j) (4 * j) (rd (2 * j))) (4 * j + 1) (rd (2 * j + 1))) (4 * j + 2) 0) (4 * j + 3) 0
def n32 (x : Int32) : Nat := x.toNatClampNeg
def n64 (x : Int64) : Nat := x.toInt.toNat
def mSh (sg : Nat) (rw : Nat → Int32) (may : Int32) : Prop := (∃ X : Nat, 0 < X ∧ X < 2 ^ 31 ∧ mo_shs sg rw may = nI X) ∧ ∀ s : Nat, s < sg → ∃ Y : Nat, Y < 2 ^ 31 ∧ mo_sh sg rw s may = nI Y
theorem mSh_1 {sg : Nat} {rw : Nat → Int32} {may : Int32} (h : mSh sg rw may) : (mo_shs sg rw may).toInt64 = lN (n32 (mo_shs sg rw may)) := by
  obtain ⟨⟨X, h0, h1, h2⟩, -⟩ := h
  rw [h2, n32, nI_clamp h1, nI_l h1]
theorem mSh_2 {sg : Nat} {rw : Nat → Int32} {may : Int32} {s : Nat} (h : mSh sg rw may) (hs : s < sg) : (mo_sh sg rw s may).toInt64 = lN (n32 (mo_sh sg rw s may)) := by
  obtain ⟨Y, h1, h2⟩ := h.2 s hs
  rw [h2, n32, nI_clamp h1, nI_l h1]
theorem mSh_3 {sg : Nat} {rw : Nat → Int32} {may : Int32} (h : mSh sg rw may) : n32 (mo_shs sg rw may) < 2 ^ 63 := by
  obtain ⟨⟨X, h0, h1, h2⟩, -⟩ := h
  rw [h2, n32, nI_clamp h1]; omega
theorem mSh_4 {sg : Nat} {rw : Nat → Int32} {may : Int32} {s : Nat} (h : mSh sg rw may) (hs : s < sg) : n32 (mo_sh sg rw s may) < 2 ^ 63 := by
  obtain ⟨Y, h1, h2⟩ := h.2 s hs
  rw [h2, n32, nI_clamp h1]; omega
theorem mSh_5 {sg : Nat} {rw : Nat → Int32} {may : Int32} {s : Nat} (h : mSh sg rw may) (hs : s < sg) : ¬ nI (Nat.gcd (n32 (mo_shs sg rw may)) (n32 (mo_sh sg rw s may))) = 0 := by
  obtain ⟨⟨X, h0, h1, h2⟩, -⟩ := h
  rw [h2, n32, nI_clamp h1]
  have hg := Nat.gcd_pos_of_pos_left (n32 (mo_sh sg rw s may)) h0
  have hl := Nat.gcd_le_left (n32 (mo_sh sg rw s may)) h0
  exact nI_ne0 hg (by omega)
def mc_r (a b : Int32) (g : Nat) (w : Int32) : Int32 := if w = 0 then a / nI g else b / nI g
def mtl (sg : Nat) (rw : Nat → Int32) (rn bg la : Int32) (s : Nat) (w : Int32) : Int32 :=
  if w = 0 then rw (4 * s) else if w = 1 then rw (4 * s + 1) else if w = 2 then mo_w rw s else if w = 3 then mo_mins rw s else if w = 4 then rw (4 * s + 2) else if w = 5 then rw (4 * s + 3) else if w = 6 then (bg >>> (nI s &&& 31)) &&& 1 else if w = 7 then (mo_may sg rw rn bg la >>> (nI s &&& 31)) &&& 1
  else if w = 8 then mc_r (mo_sh sg rw s (mo_may sg rw rn bg la)) (mo_shs sg rw (mo_may sg rw rn bg la)) (Nat.gcd (n32 (mo_shs sg rw (mo_may sg rw rn bg la))) (n32 (mo_sh sg rw s (mo_may sg rw rn bg la)))) 0 else if w = 9 then mc_r (mo_sh sg rw s (mo_may sg rw rn bg la)) (mo_shs sg rw (mo_may sg rw rn bg la)) (Nat.gcd (n32 (mo_shs sg rw (mo_may sg rw rn bg la))) (n32 (mo_sh sg rw s (mo_may sg rw rn bg la)))) 1 else -102
theorem mo_song {p : Int32} {sg : Nat} (h : mo_in p.toInt64 0 (nI sg - 1).toInt64 = true) (hsg : sg ≤ 6) : p.toNatClampNeg < sg ∧ p = nI p.toNatClampNeg := by
  unfold mo_in at h
  by_cases h1 : p.toInt64 < 0
  · rw [if_pos h1] at h; cases h
  · rw [if_neg h1] at h
    by_cases h2 : (nI sg - 1).toInt64 < p.toInt64
    · rw [if_pos h2] at h; cases h
    · have e0 : (0 : Int64).toInt = 0 := by decide
      rw [Int64.lt_iff_toInt_lt, Int32.toInt_toInt64, e0] at h1
      rw [Int64.lt_iff_toInt_lt, Int32.toInt_toInt64, Int32.toInt_toInt64, show nI sg - 1 = nI sg - nI 1 from rfl, pk_sub_toInt (by omega) (by decide)] at h2
      have h0 : ¬ p < 0 := by rw [Int32.lt_iff_toInt_lt, show (0 : Int32).toInt = 0 by decide]; omega
      obtain ⟨j, hj, rfl⟩ := nI_of h0
      rw [nI_toInt hj] at h2
      rw [nI_clamp hj]
      exact ⟨by omega, rfl⟩
theorem vz_la {p : Int32} {sg : Nat} (h : p = -1 ∨ ∃ b : Nat, b < sg ∧ p = nI b) (hn : ¬ p = -1) (hsg : sg ≤ 6) : p.toNatClampNeg < sg ∧ p = nI p.toNatClampNeg := by
  rcases h with h | ⟨b, hb, rfl⟩
  · exact absurd h hn
  · rw [nI_clamp (by omega)]
    exact ⟨hb, rfl⟩
def ms_r (sg : Nat) (rw : Nat → Int32) (rn bg la p w : Int32) : Int32 := if mo_in p.toInt64 0 (nI sg - 1).toInt64 then mtl sg rw rn bg la p.toNatClampNeg w else -101
def mru (sg : Nat) (p : Int32) : Bool := if mo_in p.toInt64 0 3 then (if sa_np sg then false else true) else false
def ma_is (o k : Int32) : Bool := if k = 0 then true else if k = o then true else if k = 2 then (if o = 4 then true else false) else false
def ma_r (sg : Nat) (rw : Nat → Int32) (p k : Int32) : Int32 := if mo_in p.toInt64 0 (nI sg - 1).toInt64 then (if mo_in k.toInt64 0 4 then (if ma_is (rw (4 * p.toNatClampNeg)) k then p else -1) else -102) else -101
def mpl (sg : Nat) (rw : Nat → Int32) (rn bg la p : Int32) : Bool := if mo_in p.toInt64 0 (nI sg - 1).toInt64 then (if (mo_may sg rw rn bg la >>> (p &&& 31)) &&& 1 = 0 then false else true) else false
def mo_pt (sg : Nat) (rw : Nat → Int32) (set may : Int32) : Nat → Int64
  | 0 => 0
  | j + 1 => mo_pt sg rw set may j + (((set >>> (nI j &&& 31)) &&& 1) * mo_sh sg rw j may).toInt64
def mo_pts (sg : Nat) (rw : Nat → Int32) (set may : Int32) : Int64 := mo_pt sg rw set may sg * (12252240 / (mo_shs sg rw may).toInt64)
def bo (sg : Nat) (rw : Nat → Int32) (rn bg : Int32) (i : Nat) : Nat → Int64
  | 0 => 0
  | j + 1 => if nI j = nI i then bo sg rw rn bg i j + (mo_sh sg rw j (mo_may sg rw rn (bk_bag sg bg (nI i)) (nI i))).toInt64 * 12252240 else bo sg rw rn bg i j + (mo_sh sg rw j (mo_may sg rw rn (bk_bag sg bg (nI i)) (nI i))).toInt64 * mo_pts sg rw ((1 <<< (nI i &&& 31)) ||| (1 <<< (nI j &&& 31))) (mo_may sg rw rn (bk_bag sg (bk_bag sg bg (nI i)) (nI j)) (nI j))
def bo_r (sg : Nat) (rw : Nat → Int32) (rn bg : Int32) (i : Nat) (more : Int32) : Int64 := if more = 1 then mo_pts sg rw (1 <<< (nI i &&& 31)) (mo_may sg rw rn (bk_bag sg bg (nI i)) (nI i)) else bo sg rw rn bg i sg * (12252240 / (mo_shs sg rw (mo_may sg rw rn (bk_bag sg bg (nI i)) (nI i))).toInt64)
def to_up (sg : Nat) (rw : Nat → Int32) (rn bg may many : Int32) : Nat → Int64
  | 0 => 0
  | j + 1 => to_up sg rw rn bg may many j + (mo_sh sg rw j may).toInt64 * bo_r sg rw rn bg j (many - 1)
def to_k (many : Int32) : Int64 := if many = 3 then 12252240 else 1
def to_low (sg : Nat) (rw : Nat → Int32) (may many : Int32) : Int64 := (mo_shs sg rw may).toInt64 * 12252240 * to_k many
def mTw (low up : Int64) : Prop := ∃ A B : Nat, 0 < A ∧ A < 2 ^ 63 ∧ B < 2 ^ 63 ∧ low = lN A ∧ up = lN B
theorem n64_lN {A : Nat} (h : A < 2 ^ 63) : n64 (lN A) = A := by rw [n64, pk_lT h]; rfl
theorem mTw_1 {x y : Int64} (h : mTw x y) : n64 x < 2 ^ 63 := by obtain ⟨A, B, h0, h1, h2, rfl, rfl⟩ := h; rw [n64_lN h1]; exact h1
theorem mTw_2 {x y : Int64} (h : mTw x y) : n64 y < 2 ^ 63 := by obtain ⟨A, B, h0, h1, h2, rfl, rfl⟩ := h; rw [n64_lN h2]; exact h2
theorem mTw_3 {x y : Int64} (h : mTw x y) : x = lN (n64 x) := by obtain ⟨A, B, h0, h1, h2, rfl, rfl⟩ := h; rw [n64_lN h1]
theorem mTw_4 {x y : Int64} (h : mTw x y) : y = lN (n64 y) := by obtain ⟨A, B, h0, h1, h2, rfl, rfl⟩ := h; rw [n64_lN h2]
theorem mTw_5 {x y : Int64} (h : mTw x y) : ¬ lN (Nat.gcd (n64 x) (n64 y)) = 0 := by
  obtain ⟨A, B, h0, h1, h2, rfl, rfl⟩ := h
  rw [n64_lN h1, n64_lN h2]
  have hg := Nat.gcd_pos_of_pos_left B h0
  have hl := Nat.gcd_le_left B h0
  intro q
  have := (pk_lEQ (b := 0) (Nat.lt_of_le_of_lt hl h1) (by decide)).mp q
  omega
def to_r (sg : Nat) (rw : Nat → Int32) (rn bg la many w : Int32) : Int64 := if w = 0 then to_up sg rw rn bg (mo_may sg rw rn bg la) many sg / lN (Nat.gcd (n64 (to_low sg rw (mo_may sg rw rn bg la) many)) (n64 (to_up sg rw rn bg (mo_may sg rw rn bg la) many sg))) else to_low sg rw (mo_may sg rw rn bg la) many / lN (Nat.gcd (n64 (to_low sg rw (mo_may sg rw rn bg la) many)) (n64 (to_up sg rw rn bg (mo_may sg rw rn bg la) many sg)))

set_option maxHeartbeats 4000000 in
set_option maxRecDepth 100000 in
theorem c_X7_letter (l : Launch) (D : va_G) (cI : ClassId) (g : Nat → Nat) (pm : Nat) (rm : Nat) (rr : Int32) (st : Nat) (sg : Nat) (rn : Int32) (bg : Int32) (la : Int32) (ws : Bool) (pr : Nat) (ry : Nat) (hm : Nat) (xu : Int64) (xl : Int64) (sn : Int32) (kp : Int32) (kr : Int32) (kb : Int32) (kl : Int32) (kw : Bool) (kh : Nat) (hc : Int64) (pg : Nat → Int32) (rd : Nat → Int32) (rw : Nat → Int32) (ro : Nat → Int32) (be : Nat → Int32) (he : Nat → Int32) (kro : Nat → Int32) (khe : Nat → Int32) (sz : Nat) (p0 : Int32) (hpm : pm ≤ 22) : Met l yX7_letter wsX7_letter ({ frames := 1, cells := 0, slots := 0, locals := 25 } : Room) (vz_rw D cI (zM cI g pm rm rr st sg rn bg la ws pr ry hm xu xl sn kp kr kb kl kw kh hc pg rd rw ro be he kro khe) sz [.ref (g 0), .int p0]) (va_Qi (fun r (_ : Unit) => r = if mo_in (p0 : Int32).toInt64 1 126 then (if nI pm = 22 then -104 else nI (pm + 1)) else -102) (fun (u : Unit) (t : State) => va_P D vwCl (zM cI g (pl_n (ml_ok pm p0) (pm + 1) pm) rm rr st sg rn bg la ws pr ry hm xu xl sn kp kr kb kl kw kh hc (pl_n (ml_ok pm p0) (upd pg pm p0) pg) rd rw ro be he kro khe) t.heap) (va_A (zM cI g pm rm rr st sg rn bg la ws pr ry hm xu xl sn kp kr kb kl kw kh hc pg rd rw ro be he kro khe) sz)) 0 0 (va_A (zM cI g pm rm rr st sg rn bg la ws pr ry hm xu xl sn kp kr kb kl kw kh hc pg rd rw ro be he kro khe) sz) := by
  refine Met.ofW (cc := cX7_letter) (maxL := 2) (ret := (some .int)) (by decide) rfl ?_
  intro p e s m args below meth c s₁ B hml hv
  obtain ⟨rfl, hsz, hP, hZ, hD0⟩ := hv
  obtain ⟨hK, hN⟩ := id hZ
  have hx := B.exec
  have hb := B.bytes
  have hr := B.returns
  have hts := atoms_spec (ws := wsX7_letter) B.pre
  have hown : s.vm.findClass RX7 = some m.cls := findClass_of_methodNamed B.named
  have hlocks := B.notSynchronized
  subst hsz
  have hD := hD0.self (sz := s.heap.size)
  generalize hAe : va_A (zM cI g pm rm rr st sg rn bg la ws pr ry hm xu xl sn kp kr kb kl kw kh hc pg rd rw ro be he kro khe) s.heap.size = A at hD ⊢
  have hA : ∀ q : Nat, s.heap.size ≤ q → A q := fun q h => by rw [← hAe]; exact Or.inr h
  have hS : va_S A s.heap s.heap [] := va_S.rf
  have k7 := hts (.fieldLink RX7 7 "SongsAgainModel" "page" "[I") (List.mem_of_getElem? (i := 3) rfl)
  have k47 := hts (.fieldLink RX7 47 "SongsAgainModel" "pageMany" "I") (List.mem_of_getElem? (i := 2) rfl)
  have iX7 : ∀ w ∈ u_ws RX7 TX7 30, w ∈ wsX7_letter := vz_in (i := 8) (n := 30) rfl
  have hl := lv_entry ([.ref (g 0), .int p0]) (n := 2) (Nat.le_of_ble_eq_true rfl)
  rw [lg_entry_eq]
  generalize (lg_sl ([.ref (g 0), .int p0]) ++ List.replicate (2 - (lg_sl ([.ref (g 0), .int p0])).length) Slot.unset).toArray = ls at hl ⊢
  have hl : lv_has ls 2 [(0, .ref (g 0)), (1, .int p0)] := hl
  have hP : va_P D vwCl (zM cI g pm rm rr st sg rn bg la ws pr ry hm xu xl sn kp kr kb kl kw kh hc pg rd rw ro be he kro khe) s.heap := hP
  refine lv_iload_n hx hb dX7_letter_0 rfl (lv_at hl 1 rfl) ?_
  refine lv_i2l (v := (p0 : Int32).toInt64) hx hb dX7_letter_1 rfl ?_
  refine lv_lconst (v := 1) hx hb dX7_letter_2 (by decide) ?_
  refine lv_ldc2 (v := 126) hx hb hown (hts (.constantLong RX7 41 (126)) (List.mem_of_getElem? (i := 1) rfl)) dX7_letter_3 ?_
  refine vp_callSi (W.runS (As := [.long ((p0 : Int32).toInt64), .long 1, .long 126]) (rest := []) ⟨hx, hb, hml, hown, hts⟩ (c_X7_in l ((p0 : Int32).toInt64) 1 126) (va_cwS 3 hts gX7_letter_X7_in rfl rfl rfl (by decide +kernel) ⟨Nat.le_of_ble_eq_true rfl, Nat.le_of_ble_eq_true rfl⟩) (vz_psS) rfl rfl hl.1 rfl (lv_room (Nat.le_of_ble_eq_true rfl)) dX7_letter_6 ⟨Nat.zero_le _, Nat.zero_le _⟩) (fun r_6 hr_6 => ?_)
  subst hr_6
  refine lv_if_ne (tgt := 15) hx hb dX7_letter_9 (by decide) (fun c_9 => ?_) (fun c_9 => ?_)
  · skip
    replace c_9 := vz_b1 c_9
    refine lv_aload_n hx hb dX7_letter_15 rfl (lv_at hl 0 rfl) ?_
    refine va_get (D := D) (ci := 7) (v := .int (nI pm)) (C := RX7) (T := TX7) (N := 30) hx hb hts iX7 hown hK hP 0 rfl rfl 1 (by decide) k47 (fun _ h9 => h9) rfl dX7_letter_16 ?_
    refine lv_bipush (v := 22) hx hb dX7_letter_19 (by decide) ?_
    refine lv_icmp_ne (tgt := 27) hx hb dX7_letter_21 (by decide) (fun c_21 => ?_) (fun c_21 => ?_)
    · skip
      have hl_21 : pm < 22 := vz_nlt (n := 22) c_21 hpm (by omega)
      refine lv_aload_n hx hb dX7_letter_27 rfl (lv_at hl 0 rfl) ?_
      refine va_get (D := D) (ci := 7) (v := .ref (g 1)) (C := RX7) (T := TX7) (N := 30) hx hb hts iX7 hown hK hP 0 rfl rfl 0 (by decide) k7 (fun _ h9 => h9) rfl dX7_letter_28 ?_
      refine lv_aload_n hx hb dX7_letter_31 rfl (lv_at hl 0 rfl) ?_
      refine va_get (D := D) (ci := 7) (v := .int (nI pm)) (C := RX7) (T := TX7) (N := 30) hx hb hts iX7 hown hK hP 0 rfl rfl 1 (by decide) k47 (fun _ h9 => h9) rfl dX7_letter_32 ?_
      refine lv_iload_n hx hb dX7_letter_35 rfl (lv_at hl 1 rfl) ?_
      refine va_iast hx hb hK hP hD hS 1 0 rfl rfl (i := nI pm) (x := p0) (vp_in_nI (by first | assumption | omega) (by first | assumption | omega)) dX7_letter_36 (fun H_36 locs_36 hP9 hD9 hS9 => ?_)
      rw [show (nI pm : Int32).toNatClampNeg = pm from nI_clamp (by first | assumption | omega)] at hP9 hD9
      replace hP : va_P D vwCl (zM cI g pm rm rr st sg rn bg la ws pr ry hm xu xl sn kp kr kb kl kw kh hc (upd pg pm p0) rd rw ro be he kro khe) H_36 := hP9
      replace hD : va_D A (zM cI g pm rm rr st sg rn bg la ws pr ry hm xu xl sn kp kr kb kl kw kh hc (upd pg pm p0) rd rw ro be he kro khe) := hD9
      replace hS := hS9
      clear hP9 hD9 hS9
      refine lv_aload_n hx hb dX7_letter_37 rfl (lv_at hl 0 rfl) ?_
      refine lv_dup hx hb dX7_letter_38 rfl ?_
      refine va_get (D := D) (ci := 7) (v := .int (nI pm)) (C := RX7) (T := TX7) (N := 30) hx hb hts iX7 hown hK hP 0 rfl rfl 1 (by decide) k47 (fun _ h9 => h9) rfl dX7_letter_39 ?_
      refine lv_iconst (v := 1) hx hb dX7_letter_42 (by decide) ?_
      refine lv_iadd hx hb dX7_letter_43 ?_
      refine W.eq (congrArg (fun z => F0 m 44 ls (.int z :: [.ref (g 0)])) (nI_add pm 1 : (nI pm) + 1 = nI (pm + 1))) ?_
      refine va_put (D := D) (ci := 7) (v := .int (nI (pm + 1))) (ty := .int) (C := RX7) (T := TX7) (N := 30) hx hb hts iX7 tyX7 tyX7_ok nmX7 hown hK hP hD hS 0 rfl rfl 1 (by decide) k47 (fun _ h9 => h9) rfl (by decide +kernel) rfl rfl (Nat.le_of_ble_eq_true rfl) dX7_letter_44 (fun H_44 locs_44 hP9 hD9 hS9 => ?_)
      replace hP : va_P D vwCl (zM cI g (pm + 1) rm rr st sg rn bg la ws pr ry hm xu xl sn kp kr kb kl kw kh hc (upd pg pm p0) rd rw ro be he kro khe) H_44 := hP9
      replace hD : va_D A (zM cI g (pm + 1) rm rr st sg rn bg la ws pr ry hm xu xl sn kp kr kb kl kw kh hc (upd pg pm p0) rd rw ro be he kro khe) := hD9
      replace hS := hS9
      clear hP9 hD9 hS9
      refine lv_aload_n hx hb dX7_letter_47 rfl (lv_at hl 0 rfl) ?_
      refine va_get (D := D) (ci := 7) (v := .int (nI (pm + 1))) (C := RX7) (T := TX7) (N := 30) hx hb hts iX7 hown hK hP 0 rfl rfl 1 (by decide) k47 (fun _ h9 => h9) rfl dX7_letter_48 ?_
      have en_pm : pl_n (ml_ok pm p0) (pm + 1) pm = pm + 1 := by first | rfl | (simp only [pl_n, ml_ok, if_neg c_21]; done) | (simp only [pl_n, ml_ok, if_neg c_21]; rfl) | (simp only [pl_n, ml_ok, c_9, c_21, ↓reduceIte, Bool.false_eq_true, if_true, if_false, reduceCtorEq, not_true_eq_false, not_false_eq_true, eq_self]; done) | (simp only [pl_n, ml_ok, c_9, c_21, ↓reduceIte, Bool.false_eq_true, if_true, if_false, reduceCtorEq, not_true_eq_false, not_false_eq_true, eq_self]; rfl) | (simp [pl_n, ml_ok, c_9, c_21]; done) | (simp only [pl_n, ml_ok, if_neg c_21, c_9, ↓reduceIte, Bool.false_eq_true])
      have en_pg : pl_n (ml_ok pm p0) (upd pg pm p0) pg = upd pg pm p0 := by first | rfl | (simp only [pl_n, ml_ok, if_neg c_21]; done) | (simp only [pl_n, ml_ok, if_neg c_21]; rfl) | (simp only [pl_n, ml_ok, c_9, c_21, ↓reduceIte, Bool.false_eq_true, if_true, if_false, reduceCtorEq, not_true_eq_false, not_false_eq_true, eq_self]; done) | (simp only [pl_n, ml_ok, c_9, c_21, ↓reduceIte, Bool.false_eq_true, if_true, if_false, reduceCtorEq, not_true_eq_false, not_false_eq_true, eq_self]; rfl) | (simp [pl_n, ml_ok, c_9, c_21]; done) | (simp only [pl_n, ml_ok, if_neg c_21, c_9, ↓reduceIte, Bool.false_eq_true])
      exact W.iret hx hb hr (fun t ht hW => ⟨⟨_, (), rfl, (by first | rfl | (simp only [pl_n, ml_ok, if_neg c_21]; done) | (simp only [pl_n, ml_ok, if_neg c_21]; rfl) | (simp only [pl_n, ml_ok, c_9, c_21, ↓reduceIte, Bool.false_eq_true, if_true, if_false, reduceCtorEq, not_true_eq_false, not_false_eq_true, eq_self]; done) | (simp only [pl_n, ml_ok, c_9, c_21, ↓reduceIte, Bool.false_eq_true, if_true, if_false, reduceCtorEq, not_true_eq_false, not_false_eq_true, eq_self]; rfl) | (simp [pl_n, ml_ok, c_9, c_21]; done) | (simp only [pl_n, ml_ok, if_neg c_21, c_9, ↓reduceIte, Bool.false_eq_true])), (by show va_P D vwCl (zM cI g (pl_n (ml_ok pm p0) (pm + 1) pm) rm rr st sg rn bg la ws pr ry hm xu xl sn kp kr kb kl kw kh hc (pl_n (ml_ok pm p0) (upd pg pm p0) pg) rd rw ro be he kro khe) t.heap; rw [ht, en_pm, en_pg]; exact hP)⟩, hS.F ht⟩) hS.2.2 dX7_letter_51
    · skip
      refine lv_bipush (v := (-104)) hx hb dX7_letter_24 (by decide) ?_
      have en_pm : pl_n (ml_ok pm p0) (pm + 1) pm = pm := by first | rfl | (simp only [pl_n, ml_ok, if_pos c_21]; done) | (simp only [pl_n, ml_ok, if_pos c_21]; rfl) | (simp only [pl_n, ml_ok, c_9, c_21, ↓reduceIte, Bool.false_eq_true, if_true, if_false, reduceCtorEq, not_true_eq_false, not_false_eq_true, eq_self]; done) | (simp only [pl_n, ml_ok, c_9, c_21, ↓reduceIte, Bool.false_eq_true, if_true, if_false, reduceCtorEq, not_true_eq_false, not_false_eq_true, eq_self]; rfl) | (simp [pl_n, ml_ok, c_9, c_21]; done) | (simp only [pl_n, ml_ok, if_pos c_21, c_9, ↓reduceIte, Bool.false_eq_true])
      have en_pg : pl_n (ml_ok pm p0) (upd pg pm p0) pg = pg := by first | rfl | (simp only [pl_n, ml_ok, if_pos c_21]; done) | (simp only [pl_n, ml_ok, if_pos c_21]; rfl) | (simp only [pl_n, ml_ok, c_9, c_21, ↓reduceIte, Bool.false_eq_true, if_true, if_false, reduceCtorEq, not_true_eq_false, not_false_eq_true, eq_self]; done) | (simp only [pl_n, ml_ok, c_9, c_21, ↓reduceIte, Bool.false_eq_true, if_true, if_false, reduceCtorEq, not_true_eq_false, not_false_eq_true, eq_self]; rfl) | (simp [pl_n, ml_ok, c_9, c_21]; done) | (simp only [pl_n, ml_ok, if_pos c_21, c_9, ↓reduceIte, Bool.false_eq_true])
      exact W.iret hx hb hr (fun t ht hW => ⟨⟨_, (), rfl, (by first | rfl | (simp only [pl_n, ml_ok, if_pos c_21]; done) | (simp only [pl_n, ml_ok, if_pos c_21]; rfl) | (simp only [pl_n, ml_ok, c_9, c_21, ↓reduceIte, Bool.false_eq_true, if_true, if_false, reduceCtorEq, not_true_eq_false, not_false_eq_true, eq_self]; done) | (simp only [pl_n, ml_ok, c_9, c_21, ↓reduceIte, Bool.false_eq_true, if_true, if_false, reduceCtorEq, not_true_eq_false, not_false_eq_true, eq_self]; rfl) | (simp [pl_n, ml_ok, c_9, c_21]; done) | (simp only [pl_n, ml_ok, if_pos c_21, c_9, ↓reduceIte, Bool.false_eq_true])), (by show va_P D vwCl (zM cI g (pl_n (ml_ok pm p0) (pm + 1) pm) rm rr st sg rn bg la ws pr ry hm xu xl sn kp kr kb kl kw kh hc (pl_n (ml_ok pm p0) (upd pg pm p0) pg) rd rw ro be he kro khe) t.heap; rw [ht, en_pm, en_pg]; exact hP)⟩, hS.F ht⟩) hS.2.2 dX7_letter_26
  · skip
    replace c_9 := vz_b0 c_9
    refine lv_bipush (v := (-102)) hx hb dX7_letter_12 (by decide) ?_
    have en_pm : pl_n (ml_ok pm p0) (pm + 1) pm = pm := by first | rfl | (simp only [pl_n, ml_ok]; done) | (simp only [pl_n, ml_ok]; rfl) | (simp only [pl_n, ml_ok, c_9, ↓reduceIte, Bool.false_eq_true, if_true, if_false, reduceCtorEq, not_true_eq_false, not_false_eq_true, eq_self]; done) | (simp only [pl_n, ml_ok, c_9, ↓reduceIte, Bool.false_eq_true, if_true, if_false, reduceCtorEq, not_true_eq_false, not_false_eq_true, eq_self]; rfl) | (simp [pl_n, ml_ok, c_9]; done)
    have en_pg : pl_n (ml_ok pm p0) (upd pg pm p0) pg = pg := by first | rfl | (simp only [pl_n, ml_ok]; done) | (simp only [pl_n, ml_ok]; rfl) | (simp only [pl_n, ml_ok, c_9, ↓reduceIte, Bool.false_eq_true, if_true, if_false, reduceCtorEq, not_true_eq_false, not_false_eq_true, eq_self]; done) | (simp only [pl_n, ml_ok, c_9, ↓reduceIte, Bool.false_eq_true, if_true, if_false, reduceCtorEq, not_true_eq_false, not_false_eq_true, eq_self]; rfl) | (simp [pl_n, ml_ok, c_9]; done)
    exact W.iret hx hb hr (fun t ht hW => ⟨⟨_, (), rfl, (by first | rfl | (simp only [pl_n, ml_ok]; done) | (simp only [pl_n, ml_ok]; rfl) | (simp only [pl_n, ml_ok, c_9, ↓reduceIte, Bool.false_eq_true, if_true, if_false, reduceCtorEq, not_true_eq_false, not_false_eq_true, eq_self]; done) | (simp only [pl_n, ml_ok, c_9, ↓reduceIte, Bool.false_eq_true, if_true, if_false, reduceCtorEq, not_true_eq_false, not_false_eq_true, eq_self]; rfl) | (simp [pl_n, ml_ok, c_9]; done)), (by show va_P D vwCl (zM cI g (pl_n (ml_ok pm p0) (pm + 1) pm) rm rr st sg rn bg la ws pr ry hm xu xl sn kp kr kb kl kw kh hc (pl_n (ml_ok pm p0) (upd pg pm p0) pg) rd rw ro be he kro khe) t.heap; rw [ht, en_pm, en_pg]; exact hP)⟩, hS.F ht⟩) hS.2.2 dX7_letter_14
set_option maxHeartbeats 4000000 in
set_option maxRecDepth 100000 in
theorem c_X7_blank (l : Launch) (D : va_G) (cI : ClassId) (g : Nat → Nat) (pm : Nat) (rm : Nat) (rr : Int32) (st : Nat) (sg : Nat) (rn : Int32) (bg : Int32) (la : Int32) (ws : Bool) (pr : Nat) (ry : Nat) (hm : Nat) (xu : Int64) (xl : Int64) (sn : Int32) (kp : Int32) (kr : Int32) (kb : Int32) (kl : Int32) (kw : Bool) (kh : Nat) (hc : Int64) (pg : Nat → Int32) (rd : Nat → Int32) (rw : Nat → Int32) (ro : Nat → Int32) (be : Nat → Int32) (he : Nat → Int32) (kro : Nat → Int32) (khe : Nat → Int32) (sz : Nat) : Met l yX7_blank wsX7_blank ({ frames := 0, cells := 0, slots := 0, locals := 0 } : Room) (vz_rw D cI (zM cI g pm rm rr st sg rn bg la ws pr ry hm xu xl sn kp kr kb kl kw kh hc pg rd rw ro be he kro khe) sz [.ref (g 0)]) (va_Qi (fun r (_ : Unit) => r = nI pm) (fun (u : Unit) (t : State) => va_P D vwCl (zM cI g 0 rm rr st sg rn bg la ws pr ry hm xu xl sn kp kr kb kl kw kh hc pg rd rw ro be he kro khe) t.heap) (va_A (zM cI g pm rm rr st sg rn bg la ws pr ry hm xu xl sn kp kr kb kl kw kh hc pg rd rw ro be he kro khe) sz)) 0 0 (va_A (zM cI g pm rm rr st sg rn bg la ws pr ry hm xu xl sn kp kr kb kl kw kh hc pg rd rw ro be he kro khe) sz) := by
  refine Met.ofW (cc := cX7_blank) (maxL := 2) (ret := (some .int)) (by decide) rfl ?_
  intro p e s m args below meth c s₁ B hml hv
  obtain ⟨rfl, hsz, hP, hZ, hD0⟩ := hv
  obtain ⟨hK, hN⟩ := id hZ
  have hx := B.exec
  have hb := B.bytes
  have hr := B.returns
  have hts := atoms_spec (ws := wsX7_blank) B.pre
  have hown : s.vm.findClass RX7 = some m.cls := findClass_of_methodNamed B.named
  have hlocks := B.notSynchronized
  subst hsz
  have hD := hD0.self (sz := s.heap.size)
  generalize hAe : va_A (zM cI g pm rm rr st sg rn bg la ws pr ry hm xu xl sn kp kr kb kl kw kh hc pg rd rw ro be he kro khe) s.heap.size = A at hD ⊢
  have hA : ∀ q : Nat, s.heap.size ≤ q → A q := fun q h => by rw [← hAe]; exact Or.inr h
  have hS : va_S A s.heap s.heap [] := va_S.rf
  have k47 := hts (.fieldLink RX7 47 "SongsAgainModel" "pageMany" "I") (List.mem_of_getElem? (i := 1) rfl)
  have iX7 : ∀ w ∈ u_ws RX7 TX7 30, w ∈ wsX7_blank := vz_in (i := 2) (n := 30) rfl
  have hl := lv_entry ([.ref (g 0)]) (n := 2) (Nat.le_of_ble_eq_true rfl)
  rw [lg_entry_eq]
  generalize (lg_sl ([.ref (g 0)]) ++ List.replicate (2 - (lg_sl ([.ref (g 0)])).length) Slot.unset).toArray = ls at hl ⊢
  have hl : lv_has ls 2 [(0, .ref (g 0))] := hl
  have hP : va_P D vwCl (zM cI g pm rm rr st sg rn bg la ws pr ry hm xu xl sn kp kr kb kl kw kh hc pg rd rw ro be he kro khe) s.heap := hP
  refine lv_aload_n hx hb dX7_blank_0 rfl (lv_at hl 0 rfl) ?_
  refine va_get (D := D) (ci := 7) (v := .int (nI pm)) (C := RX7) (T := TX7) (N := 30) hx hb hts iX7 hown hK hP 0 rfl rfl 1 (by decide) k47 (fun _ h9 => h9) rfl dX7_blank_1 ?_
  refine lv_istore_n (lv' := [(1, .int (nI pm)), (0, .ref (g 0))]) hx hb dX7_blank_4 rfl hl (by decide) rfl (fun ls hl => ?_)
  refine lv_aload_n hx hb dX7_blank_5 rfl (lv_at hl 1 rfl) ?_
  refine lv_iconst (v := 0) hx hb dX7_blank_6 (by decide) ?_
  refine va_put (D := D) (ci := 7) (v := .int 0) (ty := .int) (C := RX7) (T := TX7) (N := 30) hx hb hts iX7 tyX7 tyX7_ok nmX7 hown hK hP hD hS 0 rfl rfl 1 (by decide) k47 (fun _ h9 => h9) rfl (by decide +kernel) rfl rfl (Nat.le_of_ble_eq_true rfl) dX7_blank_7 (fun H_7 locs_7 hP9 hD9 hS9 => ?_)
  replace hP : va_P D vwCl (zM cI g 0 rm rr st sg rn bg la ws pr ry hm xu xl sn kp kr kb kl kw kh hc pg rd rw ro be he kro khe) H_7 := hP9
  replace hD : va_D A (zM cI g 0 rm rr st sg rn bg la ws pr ry hm xu xl sn kp kr kb kl kw kh hc pg rd rw ro be he kro khe) := hD9
  replace hS := hS9
  clear hP9 hD9 hS9
  refine lv_iload_n hx hb dX7_blank_10 rfl (lv_at hl 0 rfl) ?_
  exact W.iret hx hb hr (fun t ht hW => ⟨⟨_, (), rfl, (by first | rfl | (rfl; done) | (rfl; rfl) | (rfl; done) | (rfl; rfl) | (simp; done)), (by show va_P D vwCl (zM cI g 0 rm rr st sg rn bg la ws pr ry hm xu xl sn kp kr kb kl kw kh hc pg rd rw ro be he kro khe) t.heap; rw [ht]; exact hP)⟩, hS.F ht⟩) hS.2.2 dX7_blank_11
set_option maxHeartbeats 4000000 in
set_option maxRecDepth 100000 in
theorem c_X7_go (l : Launch) (D : va_G) (cI : ClassId) (g : Nat → Nat) (pm : Nat) (rm : Nat) (rr : Int32) (st : Nat) (sg : Nat) (rn : Int32) (bg : Int32) (la : Int32) (ws : Bool) (pr : Nat) (ry : Nat) (hm : Nat) (xu : Int64) (xl : Int64) (sn : Int32) (kp : Int32) (kr : Int32) (kb : Int32) (kl : Int32) (kw : Bool) (kh : Nat) (hc : Int64) (pg : Nat → Int32) (rd : Nat → Int32) (rw : Nat → Int32) (ro : Nat → Int32) (be : Nat → Int32) (he : Nat → Int32) (kro : Nat → Int32) (khe : Nat → Int32) (sz : Nat) (p0 : Int32) (hst : st ≤ 4) (hr6 : rm ≤ 6) (hrm : st ≤ 1 → rm ≤ 5) : Met l yX7_go wsX7_go ({ frames := 1, cells := 0, slots := 0, locals := 25 } : Room) (vz_rw D cI (zM cI g pm rm rr st sg rn bg la ws pr ry hm xu xl sn kp kr kb kl kw kh hc pg rd rw ro be he kro khe) sz [.ref (g 0), .int p0]) (va_Qi (fun r (_ : Unit) => r = vz_b (go_r st rm p0)) (fun (u : Unit) (t : State) => va_P D vwCl (zM cI g pm (go_rm st rm) (go_rr st rr p0) (go_st st p0) sg rn bg la ws pr ry hm xu xl sn kp kr kb kl kw kh hc pg (go_rd st rm rd p0) rw ro be he kro khe) t.heap) (va_A (zM cI g pm rm rr st sg rn bg la ws pr ry hm xu xl sn kp kr kb kl kw kh hc pg rd rw ro be he kro khe) sz)) 0 0 (va_A (zM cI g pm rm rr st sg rn bg la ws pr ry hm xu xl sn kp kr kb kl kw kh hc pg rd rw ro be he kro khe) sz) := by
  refine Met.ofW (cc := cX7_go) (maxL := 4) (ret := (some .boolean)) (by decide) rfl ?_
  intro p e s m args below meth c s₁ B hml hv
  obtain ⟨rfl, hsz, hP, hZ, hD0⟩ := hv
  obtain ⟨hK, hN⟩ := id hZ
  have hx := B.exec
  have hb := B.bytes
  have hr := B.returns
  have hts := atoms_spec (ws := wsX7_go) B.pre
  have hown : s.vm.findClass RX7 = some m.cls := findClass_of_methodNamed B.named
  have hlocks := B.notSynchronized
  subst hsz
  have hD := hD0.self (sz := s.heap.size)
  generalize hAe : va_A (zM cI g pm rm rr st sg rn bg la ws pr ry hm xu xl sn kp kr kb kl kw kh hc pg rd rw ro be he kro khe) s.heap.size = A at hD ⊢
  have hA : ∀ q : Nat, s.heap.size ≤ q → A q := fun q h => by rw [← hAe]; exact Or.inr h
  have hS : va_S A s.heap s.heap [] := va_S.rf
  have k13 := hts (.fieldLink RX7 13 "SongsAgainModel" "read" "[I") (List.mem_of_getElem? (i := 2) rfl)
  have k50 := hts (.fieldLink RX7 50 "SongsAgainModel" "state" "I") (List.mem_of_getElem? (i := 1) rfl)
  have k53 := hts (.fieldLink RX7 53 "SongsAgainModel" "readMany" "I") (List.mem_of_getElem? (i := 3) rfl)
  have k62 := hts (.fieldLink RX7 62 "SongsAgainModel" "readRule" "I") (List.mem_of_getElem? (i := 5) rfl)
  have iX7 : ∀ w ∈ u_ws RX7 TX7 30, w ∈ wsX7_go := vz_in (i := 13) (n := 30) rfl
  have hl := lv_entry ([.ref (g 0), .int p0]) (n := 4) (Nat.le_of_ble_eq_true rfl)
  rw [lg_entry_eq]
  generalize (lg_sl ([.ref (g 0), .int p0]) ++ List.replicate (4 - (lg_sl ([.ref (g 0), .int p0])).length) Slot.unset).toArray = ls at hl ⊢
  have hl : lv_has ls 4 [(0, .ref (g 0)), (1, .int p0)] := hl
  have hP : va_P D vwCl (zM cI g pm rm rr st sg rn bg la ws pr ry hm xu xl sn kp kr kb kl kw kh hc pg rd rw ro be he kro khe) s.heap := hP
  refine lv_iload_n hx hb dX7_go_0 rfl (lv_at hl 1 rfl) ?_
  refine lv_bipush (v := 48) hx hb dX7_go_1 (by decide) ?_
  refine lv_isub hx hb dX7_go_3 ?_
  refine lv_topi (fun v_4 ev_4 => ?_)
  refine lv_istore_n (lv' := [(2, .int v_4), (0, .ref (g 0)), (1, .int p0)]) hx hb dX7_go_4 rfl hl (by decide) rfl (fun ls hl => ?_)
  refine lv_aload_n hx hb dX7_go_5 rfl (lv_at hl 1 rfl) ?_
  refine va_get (D := D) (ci := 7) (v := .int (nI st)) (C := RX7) (T := TX7) (N := 30) hx hb hts iX7 hown hK hP 0 rfl rfl 5 (by decide) k50 (fun _ h9 => h9) rfl dX7_go_6 ?_
  refine lv_istore_n (lv' := [(3, .int (nI st)), (2, .int v_4), (0, .ref (g 0)), (1, .int p0)]) hx hb dX7_go_9 rfl hl (by decide) rfl (fun ls hl => ?_)
  refine lv_aload_n hx hb dX7_go_10 rfl (lv_at hl 2 rfl) ?_
  refine lv_dup hx hb dX7_go_11 rfl ?_
  refine va_get (D := D) (ci := 7) (v := .int (nI st)) (C := RX7) (T := TX7) (N := 30) hx hb hts iX7 hown hK hP 0 rfl rfl 5 (by decide) k50 (fun _ h9 => h9) rfl dX7_go_12 ?_
  refine lv_iconst (v := 1) hx hb dX7_go_15 (by decide) ?_
  refine lv_iadd hx hb dX7_go_16 ?_
  refine W.eq (congrArg (fun z => F0 m 17 ls (.int z :: [.ref (g 0)])) (nI_add st 1 : (nI st) + 1 = nI (st + 1))) ?_
  refine va_put (D := D) (ci := 7) (v := .int (nI (st + 1))) (ty := .int) (C := RX7) (T := TX7) (N := 30) hx hb hts iX7 tyX7 tyX7_ok nmX7 hown hK hP hD hS 0 rfl rfl 5 (by decide) k50 (fun _ h9 => h9) rfl (by decide +kernel) rfl rfl (Nat.le_of_ble_eq_true rfl) dX7_go_17 (fun H_17 locs_17 hP9 hD9 hS9 => ?_)
  replace hP : va_P D vwCl (zM cI g pm rm rr (st + 1) sg rn bg la ws pr ry hm xu xl sn kp kr kb kl kw kh hc pg rd rw ro be he kro khe) H_17 := hP9
  replace hD : va_D A (zM cI g pm rm rr (st + 1) sg rn bg la ws pr ry hm xu xl sn kp kr kb kl kw kh hc pg rd rw ro be he kro khe) := hD9
  replace hS := hS9
  clear hP9 hD9 hS9
  refine lv_iload_n hx hb dX7_go_20 rfl (lv_at hl 0 rfl) ?_
  rcases vz_tab (nI st) (0) (3) with c_21 | c_21
  · skip
    refine lv_tableOut (tgt := 188) hx hb dX7_go_21 c_21 (by decide) ?_
    have hk : st = 4 := by rw [nI_toInt (by omega)] at c_21 ; omega
    refine lv_iconst (v := 0) hx hb dX7_go_188 (by decide) ?_
    have en_rm : go_rm st rm = rm := by try subst ev_4 ; subst hk ; first | rfl | (simp [go_r, go_st, go_rm, go_rr, go_rd, vz_b, c_21] ; done) | (simp only [go_r, go_st, go_rm, go_rr, go_rd, vz_b, c_21, ↓reduceIte, reduceCtorEq] ; rfl)
    have en_rr : go_rr st rr p0 = rr := by try subst ev_4 ; subst hk ; first | rfl | (simp [go_r, go_st, go_rm, go_rr, go_rd, vz_b, c_21] ; done) | (simp only [go_r, go_st, go_rm, go_rr, go_rd, vz_b, c_21, ↓reduceIte, reduceCtorEq] ; rfl)
    have en_st : go_st st p0 = st + 1 := by try subst ev_4 ; subst hk ; first | rfl | (simp [go_r, go_st, go_rm, go_rr, go_rd, vz_b, c_21] ; done) | (simp only [go_r, go_st, go_rm, go_rr, go_rd, vz_b, c_21, ↓reduceIte, reduceCtorEq] ; rfl)
    have en_rd : go_rd st rm rd p0 = rd := by try subst ev_4 ; subst hk ; first | rfl | (simp [go_r, go_st, go_rm, go_rr, go_rd, vz_b, c_21] ; done) | (simp only [go_r, go_st, go_rm, go_rr, go_rd, vz_b, c_21, ↓reduceIte, reduceCtorEq] ; rfl)
    exact W.zret hx hb hr narrow_b0 (fun t ht hW => ⟨⟨_, (), rfl, (by try subst ev_4 ; subst hk ; first | rfl | (simp [go_r, go_st, go_rm, go_rr, go_rd, vz_b, c_21] ; done) | (simp only [go_r, go_st, go_rm, go_rr, go_rd, vz_b, c_21, ↓reduceIte, reduceCtorEq] ; rfl)), (by show va_P D vwCl (zM cI g pm (go_rm st rm) (go_rr st rr p0) (go_st st p0) sg rn bg la ws pr ry hm xu xl sn kp kr kb kl kw kh hc pg (go_rd st rm rd p0) rw ro be he kro khe) t.heap; rw [ht, en_rm, en_rr, en_st, en_rd]; exact hP)⟩, hS.F ht⟩) hS.2.2 dX7_go_189
  · skip
    obtain ⟨h1_21, h2_21⟩ := c_21
    rcases (show (nI st : Int32).toInt = 0 ∨ (nI st : Int32).toInt = 1 ∨ (nI st : Int32).toInt = 2 ∨ (nI st : Int32).toInt = 3 by omega) with c_21 | c_21 | c_21 | c_21
    · skip
      refine lv_tableIn (tgt := 52) (off := 31) hx hb dX7_go_21 h1_21 h2_21 (by rw [c_21]; rfl) (by decide) ?_
      replace c_21 : (nI st) = 0 := vz_toI c_21 (by decide)
      have hk : st = 0 := (nI_eq (b := 0) (by omega) (by omega)).mp c_21
      have hr5 := hrm (by omega)
      refine lv_aload_n hx hb dX7_go_52 rfl (lv_at hl 2 rfl) ?_
      refine va_get (D := D) (ci := 7) (v := .ref (g 2)) (C := RX7) (T := TX7) (N := 30) hx hb hts iX7 hown hK hP 0 rfl rfl 2 (by decide) k13 (fun _ h9 => h9) rfl dX7_go_53 ?_
      refine lv_iconst (v := 2) hx hb dX7_go_56 (by decide) ?_
      refine lv_aload_n hx hb dX7_go_57 rfl (lv_at hl 2 rfl) ?_
      refine va_get (D := D) (ci := 7) (v := .int (nI rm)) (C := RX7) (T := TX7) (N := 30) hx hb hts iX7 hown hK hP 0 rfl rfl 3 (by decide) k53 (fun _ h9 => h9) rfl dX7_go_58 ?_
      refine lv_imul hx hb dX7_go_61 ?_
      refine W.eq (congrArg (fun z => F0 m 62 ls (.int z :: [.ref (g 2)])) (pk_mul 2 rm : 2 * (nI rm) = nI (2 * rm))) ?_
      refine lv_iload_n hx hb dX7_go_62 rfl (lv_at hl 3 rfl) ?_
      refine vp_callSi (W.runS (As := [.int p0]) (rest := [.int (nI (2 * rm)), .ref (g 2)]) ⟨hx, hb, hml, hown, hts⟩ (c_X7_kindBy l p0) (va_cwS 1 hts gX7_go_X7_kindBy rfl rfl rfl (by decide +kernel) ⟨Nat.le_of_ble_eq_true rfl, Nat.le_of_ble_eq_true rfl⟩) (vz_psS) rfl rfl hl.1 rfl (lv_room (Nat.le_of_ble_eq_true rfl)) dX7_go_63 ⟨Nat.zero_le _, Nat.zero_le _⟩) (fun r_63 hr_63 => ?_)
      subst hr_63
      refine va_iast hx hb hK hP hD hS 2 0 rfl rfl (i := nI (2 * rm)) (x := mo_kind p0) (vp_in_nI (by first | assumption | omega) (by first | assumption | omega)) dX7_go_66 (fun H_66 locs_66 hP9 hD9 hS9 => ?_)
      rw [show (nI (2 * rm) : Int32).toNatClampNeg = 2 * rm from nI_clamp (by first | assumption | omega)] at hP9 hD9
      replace hP : va_P D vwCl (zM cI g pm rm rr (st + 1) sg rn bg la ws pr ry hm xu xl sn kp kr kb kl kw kh hc pg (upd rd (2 * rm) (mo_kind p0)) rw ro be he kro khe) H_66 := hP9
      replace hD : va_D A (zM cI g pm rm rr (st + 1) sg rn bg la ws pr ry hm xu xl sn kp kr kb kl kw kh hc pg (upd rd (2 * rm) (mo_kind p0)) rw ro be he kro khe) := hD9
      replace hS := hS9
      clear hP9 hD9 hS9
      refine lv_iload_n hx hb dX7_go_67 rfl (lv_at hl 3 rfl) ?_
      refine vp_callSi (W.runS (As := [.int p0]) (rest := []) ⟨hx, hb, hml, hown, hts⟩ (c_X7_kindBy l p0) (va_cwS 1 hts gX7_go_X7_kindBy rfl rfl rfl (by decide +kernel) ⟨Nat.le_of_ble_eq_true rfl, Nat.le_of_ble_eq_true rfl⟩) (vz_psS) rfl rfl hl.1 rfl (lv_room (Nat.le_of_ble_eq_true rfl)) dX7_go_68 ⟨Nat.zero_le _, Nat.zero_le _⟩) (fun r_68 hr_68 => ?_)
      subst hr_68
      refine lv_iconst (v := (-1)) hx hb dX7_go_71 (by decide) ?_
      refine lv_icmp_eq (tgt := 79) hx hb dX7_go_72 (by decide) (fun c_72 => ?_) (fun c_72 => ?_)
      · skip
        refine lv_iconst (v := 0) hx hb dX7_go_79 (by decide) ?_
        have en_rm : go_rm st rm = rm := by try subst ev_4 ; subst hk ; first | rfl | (simp [go_r, go_st, go_rm, go_rr, go_rd, vz_b, c_21, c_72] ; done) | (simp only [go_r, go_st, go_rm, go_rr, go_rd, vz_b, c_21, c_72, ↓reduceIte, reduceCtorEq] ; rfl)
        have en_rr : go_rr st rr p0 = rr := by try subst ev_4 ; subst hk ; first | rfl | (simp [go_r, go_st, go_rm, go_rr, go_rd, vz_b, c_21, c_72] ; done) | (simp only [go_r, go_st, go_rm, go_rr, go_rd, vz_b, c_21, c_72, ↓reduceIte, reduceCtorEq] ; rfl)
        have en_st : go_st st p0 = st + 1 := by try subst ev_4 ; subst hk ; first | rfl | (simp [go_r, go_st, go_rm, go_rr, go_rd, vz_b, c_21, c_72] ; done) | (simp only [go_r, go_st, go_rm, go_rr, go_rd, vz_b, c_21, c_72, ↓reduceIte, reduceCtorEq] ; rfl)
        have en_rd : go_rd st rm rd p0 = upd rd (2 * rm) (mo_kind p0) := by try subst ev_4 ; subst hk ; first | rfl | (simp [go_r, go_st, go_rm, go_rr, go_rd, vz_b, c_21, c_72] ; done) | (simp only [go_r, go_st, go_rm, go_rr, go_rd, vz_b, c_21, c_72, ↓reduceIte, reduceCtorEq] ; rfl)
        exact W.zret hx hb hr narrow_b0 (fun t ht hW => ⟨⟨_, (), rfl, (by try subst ev_4 ; subst hk ; first | rfl | (simp [go_r, go_st, go_rm, go_rr, go_rd, vz_b, c_21, c_72] ; done) | (simp only [go_r, go_st, go_rm, go_rr, go_rd, vz_b, c_21, c_72, ↓reduceIte, reduceCtorEq] ; rfl)), (by show va_P D vwCl (zM cI g pm (go_rm st rm) (go_rr st rr p0) (go_st st p0) sg rn bg la ws pr ry hm xu xl sn kp kr kb kl kw kh hc pg (go_rd st rm rd p0) rw ro be he kro khe) t.heap; rw [ht, en_rm, en_rr, en_st, en_rd]; exact hP)⟩, hS.F ht⟩) hS.2.2 dX7_go_80
      · skip
        refine lv_iconst (v := 1) hx hb dX7_go_75 (by decide) ?_
        refine lv_goto (tgt := 80) hx hb dX7_go_76 (by decide) ?_
        have en_rm : go_rm st rm = rm := by try subst ev_4 ; subst hk ; first | rfl | (simp [go_r, go_st, go_rm, go_rr, go_rd, vz_b, c_21, c_72] ; done) | (simp only [go_r, go_st, go_rm, go_rr, go_rd, vz_b, c_21, c_72, ↓reduceIte, reduceCtorEq] ; rfl)
        have en_rr : go_rr st rr p0 = rr := by try subst ev_4 ; subst hk ; first | rfl | (simp [go_r, go_st, go_rm, go_rr, go_rd, vz_b, c_21, c_72] ; done) | (simp only [go_r, go_st, go_rm, go_rr, go_rd, vz_b, c_21, c_72, ↓reduceIte, reduceCtorEq] ; rfl)
        have en_st : go_st st p0 = st + 1 := by try subst ev_4 ; subst hk ; first | rfl | (simp [go_r, go_st, go_rm, go_rr, go_rd, vz_b, c_21, c_72] ; done) | (simp only [go_r, go_st, go_rm, go_rr, go_rd, vz_b, c_21, c_72, ↓reduceIte, reduceCtorEq] ; rfl)
        have en_rd : go_rd st rm rd p0 = upd rd (2 * rm) (mo_kind p0) := by try subst ev_4 ; subst hk ; first | rfl | (simp [go_r, go_st, go_rm, go_rr, go_rd, vz_b, c_21, c_72] ; done) | (simp only [go_r, go_st, go_rm, go_rr, go_rd, vz_b, c_21, c_72, ↓reduceIte, reduceCtorEq] ; rfl)
        exact W.zret hx hb hr narrow_b1 (fun t ht hW => ⟨⟨_, (), rfl, (by try subst ev_4 ; subst hk ; first | rfl | (simp [go_r, go_st, go_rm, go_rr, go_rd, vz_b, c_21, c_72] ; done) | (simp only [go_r, go_st, go_rm, go_rr, go_rd, vz_b, c_21, c_72, ↓reduceIte, reduceCtorEq] ; rfl)), (by show va_P D vwCl (zM cI g pm (go_rm st rm) (go_rr st rr p0) (go_st st p0) sg rn bg la ws pr ry hm xu xl sn kp kr kb kl kw kh hc pg (go_rd st rm rd p0) rw ro be he kro khe) t.heap; rw [ht, en_rm, en_rr, en_st, en_rd]; exact hP)⟩, hS.F ht⟩) hS.2.2 dX7_go_80
    · skip
      refine lv_tableIn (tgt := 81) (off := 60) hx hb dX7_go_21 h1_21 h2_21 (by rw [c_21]; rfl) (by decide) ?_
      replace c_21 : (nI st) = 1 := vz_toI c_21 (by decide)
      have hk : st = 1 := (nI_eq (b := 1) (by omega) (by omega)).mp c_21
      have hr5 := hrm (by omega)
      refine lv_aload_n hx hb dX7_go_81 rfl (lv_at hl 2 rfl) ?_
      refine va_get (D := D) (ci := 7) (v := .ref (g 2)) (C := RX7) (T := TX7) (N := 30) hx hb hts iX7 hown hK hP 0 rfl rfl 2 (by decide) k13 (fun _ h9 => h9) rfl dX7_go_82 ?_
      refine lv_iconst (v := 2) hx hb dX7_go_85 (by decide) ?_
      refine lv_aload_n hx hb dX7_go_86 rfl (lv_at hl 2 rfl) ?_
      refine va_get (D := D) (ci := 7) (v := .int (nI rm)) (C := RX7) (T := TX7) (N := 30) hx hb hts iX7 hown hK hP 0 rfl rfl 3 (by decide) k53 (fun _ h9 => h9) rfl dX7_go_87 ?_
      refine lv_imul hx hb dX7_go_90 ?_
      refine W.eq (congrArg (fun z => F0 m 91 ls (.int z :: [.ref (g 2)])) (pk_mul 2 rm : 2 * (nI rm) = nI (2 * rm))) ?_
      refine lv_iconst (v := 1) hx hb dX7_go_91 (by decide) ?_
      refine lv_iadd hx hb dX7_go_92 ?_
      refine W.eq (congrArg (fun z => F0 m 93 ls (.int z :: [.ref (g 2)])) (nI_add (2 * rm) 1 : (nI (2 * rm)) + 1 = nI ((2 * rm) + 1))) ?_
      refine lv_iload_n hx hb dX7_go_93 rfl (lv_at hl 1 rfl) ?_
      refine va_iast hx hb hK hP hD hS 2 0 rfl rfl (i := nI ((2 * rm) + 1)) (x := v_4) (vp_in_nI (by first | assumption | omega) (by first | assumption | omega)) dX7_go_94 (fun H_94 locs_94 hP9 hD9 hS9 => ?_)
      rw [show (nI ((2 * rm) + 1) : Int32).toNatClampNeg = (2 * rm) + 1 from nI_clamp (by first | assumption | omega)] at hP9 hD9
      replace hP : va_P D vwCl (zM cI g pm rm rr (st + 1) sg rn bg la ws pr ry hm xu xl sn kp kr kb kl kw kh hc pg (upd rd ((2 * rm) + 1) v_4) rw ro be he kro khe) H_94 := hP9
      replace hD : va_D A (zM cI g pm rm rr (st + 1) sg rn bg la ws pr ry hm xu xl sn kp kr kb kl kw kh hc pg (upd rd ((2 * rm) + 1) v_4) rw ro be he kro khe) := hD9
      replace hS := hS9
      clear hP9 hD9 hS9
      refine lv_aload_n hx hb dX7_go_95 rfl (lv_at hl 2 rfl) ?_
      refine lv_dup hx hb dX7_go_96 rfl ?_
      refine va_get (D := D) (ci := 7) (v := .int (nI rm)) (C := RX7) (T := TX7) (N := 30) hx hb hts iX7 hown hK hP 0 rfl rfl 3 (by decide) k53 (fun _ h9 => h9) rfl dX7_go_97 ?_
      refine lv_iconst (v := 1) hx hb dX7_go_100 (by decide) ?_
      refine lv_iadd hx hb dX7_go_101 ?_
      refine W.eq (congrArg (fun z => F0 m 102 ls (.int z :: [.ref (g 0)])) (nI_add rm 1 : (nI rm) + 1 = nI (rm + 1))) ?_
      refine va_put (D := D) (ci := 7) (v := .int (nI (rm + 1))) (ty := .int) (C := RX7) (T := TX7) (N := 30) hx hb hts iX7 tyX7 tyX7_ok nmX7 hown hK hP hD hS 0 rfl rfl 3 (by decide) k53 (fun _ h9 => h9) rfl (by decide +kernel) rfl rfl (Nat.le_of_ble_eq_true rfl) dX7_go_102 (fun H_102 locs_102 hP9 hD9 hS9 => ?_)
      replace hP : va_P D vwCl (zM cI g pm (rm + 1) rr (st + 1) sg rn bg la ws pr ry hm xu xl sn kp kr kb kl kw kh hc pg (upd rd ((2 * rm) + 1) v_4) rw ro be he kro khe) H_102 := hP9
      replace hD : va_D A (zM cI g pm (rm + 1) rr (st + 1) sg rn bg la ws pr ry hm xu xl sn kp kr kb kl kw kh hc pg (upd rd ((2 * rm) + 1) v_4) rw ro be he kro khe) := hD9
      replace hS := hS9
      clear hP9 hD9 hS9
      refine lv_iload_n hx hb dX7_go_105 rfl (lv_at hl 1 rfl) ?_
      refine lv_i2l (v := (v_4 : Int32).toInt64) hx hb dX7_go_106 rfl ?_
      refine lv_lconst (v := 0) hx hb dX7_go_107 (by decide) ?_
      refine lv_ldc2 (v := 3) hx hb hown (hts (.constantLong RX7 60 (3)) (List.mem_of_getElem? (i := 4) rfl)) dX7_go_108 ?_
      refine vp_callSi (W.runS (As := [.long ((v_4 : Int32).toInt64), .long 0, .long 3]) (rest := []) ⟨hx, hb, hml, hown, hts⟩ (c_X7_in l ((v_4 : Int32).toInt64) 0 3) (va_cwS 3 hts gX7_go_X7_in rfl rfl rfl (by decide +kernel) ⟨Nat.le_of_ble_eq_true rfl, Nat.le_of_ble_eq_true rfl⟩) (vz_psS) rfl rfl hl.1 rfl (lv_room (Nat.le_of_ble_eq_true rfl)) dX7_go_111 ⟨Nat.zero_le _, Nat.zero_le _⟩) (fun r_111 hr_111 => ?_)
      subst hr_111
      have en_rm : go_rm st rm = rm + 1 := by try subst ev_4 ; subst hk ; first | rfl | (simp [go_r, go_st, go_rm, go_rr, go_rd, vz_b, c_21] ; done) | (simp only [go_r, go_st, go_rm, go_rr, go_rd, vz_b, c_21, ↓reduceIte, reduceCtorEq] ; rfl)
      have en_rr : go_rr st rr p0 = rr := by try subst ev_4 ; subst hk ; first | rfl | (simp [go_r, go_st, go_rm, go_rr, go_rd, vz_b, c_21] ; done) | (simp only [go_r, go_st, go_rm, go_rr, go_rd, vz_b, c_21, ↓reduceIte, reduceCtorEq] ; rfl)
      have en_st : go_st st p0 = st + 1 := by try subst ev_4 ; subst hk ; first | rfl | (simp [go_r, go_st, go_rm, go_rr, go_rd, vz_b, c_21] ; done) | (simp only [go_r, go_st, go_rm, go_rr, go_rd, vz_b, c_21, ↓reduceIte, reduceCtorEq] ; rfl)
      have en_rd : go_rd st rm rd p0 = upd rd ((2 * rm) + 1) v_4 := by try subst ev_4 ; subst hk ; first | rfl | (simp [go_r, go_st, go_rm, go_rr, go_rd, vz_b, c_21] ; done) | (simp only [go_r, go_st, go_rm, go_rr, go_rd, vz_b, c_21, ↓reduceIte, reduceCtorEq] ; rfl)
      exact W.zret hx hb hr (vz_nb _) (fun t ht hW => ⟨⟨_, (), rfl, (by try subst ev_4 ; subst hk ; first | rfl | (simp [go_r, go_st, go_rm, go_rr, go_rd, vz_b, c_21] ; done) | (simp only [go_r, go_st, go_rm, go_rr, go_rd, vz_b, c_21, ↓reduceIte, reduceCtorEq] ; rfl)), (by show va_P D vwCl (zM cI g pm (go_rm st rm) (go_rr st rr p0) (go_st st p0) sg rn bg la ws pr ry hm xu xl sn kp kr kb kl kw kh hc pg (go_rd st rm rd p0) rw ro be he kro khe) t.heap; rw [ht, en_rm, en_rr, en_st, en_rd]; exact hP)⟩, hS.F ht⟩) hS.2.2 dX7_go_114
    · skip
      refine lv_tableIn (tgt := 115) (off := 94) hx hb dX7_go_21 h1_21 h2_21 (by rw [c_21]; rfl) (by decide) ?_
      replace c_21 : (nI st) = 2 := vz_toI c_21 (by decide)
      have hk : st = 2 := (nI_eq (b := 2) (by omega) (by omega)).mp c_21
      refine lv_aload_n hx hb dX7_go_115 rfl (lv_at hl 2 rfl) ?_
      refine lv_iload_n hx hb dX7_go_116 rfl (lv_at hl 3 rfl) ?_
      refine lv_bipush (v := 44) hx hb dX7_go_117 (by decide) ?_
      refine lv_icmp_ne (tgt := 126) hx hb dX7_go_119 (by decide) (fun c_119 => ?_) (fun c_119 => ?_)
      · skip
        refine lv_iconst (v := 3) hx hb dX7_go_126 (by decide) ?_
        refine va_put (D := D) (ci := 7) (v := .int 3) (ty := .int) (C := RX7) (T := TX7) (N := 30) hx hb hts iX7 tyX7 tyX7_ok nmX7 hown hK hP hD hS 0 rfl rfl 5 (by decide) k50 (fun _ h9 => h9) rfl (by decide +kernel) rfl rfl (Nat.le_of_ble_eq_true rfl) dX7_go_127 (fun H_127 locs_127 hP9 hD9 hS9 => ?_)
        replace hP : va_P D vwCl (zM cI g pm rm rr 3 sg rn bg la ws pr ry hm xu xl sn kp kr kb kl kw kh hc pg rd rw ro be he kro khe) H_127 := hP9
        replace hD : va_D A (zM cI g pm rm rr 3 sg rn bg la ws pr ry hm xu xl sn kp kr kb kl kw kh hc pg rd rw ro be he kro khe) := hD9
        replace hS := hS9
        clear hP9 hD9 hS9
        refine lv_iload_n hx hb dX7_go_130 rfl (lv_at hl 3 rfl) ?_
        refine lv_bipush (v := 44) hx hb dX7_go_131 (by decide) ?_
        refine lv_icmp_ne (tgt := 153) hx hb dX7_go_133 (by decide) (fun c_133 => ?_) (fun c_133 => ?_)
        · skip
          refine lv_iload_n hx hb dX7_go_153 rfl (lv_at hl 3 rfl) ?_
          refine lv_bipush (v := 59) hx hb dX7_go_154 (by decide) ?_
          refine lv_icmp_ne (tgt := 171) hx hb dX7_go_156 (by decide) (fun c_156 => ?_) (fun c_156 => ?_)
          · skip
            refine lv_iconst (v := 0) hx hb dX7_go_171 (by decide) ?_
            have en_rm : go_rm st rm = rm := by try subst ev_4 ; subst hk ; first | rfl | (simp [go_r, go_st, go_rm, go_rr, go_rd, vz_b, c_21, c_119, c_133, c_156] ; done) | (simp only [go_r, go_st, go_rm, go_rr, go_rd, vz_b, c_21, c_119, c_133, c_156, ↓reduceIte, reduceCtorEq] ; rfl)
            have en_rr : go_rr st rr p0 = rr := by try subst ev_4 ; subst hk ; first | rfl | (simp [go_r, go_st, go_rm, go_rr, go_rd, vz_b, c_21, c_119, c_133, c_156] ; done) | (simp only [go_r, go_st, go_rm, go_rr, go_rd, vz_b, c_21, c_119, c_133, c_156, ↓reduceIte, reduceCtorEq] ; rfl)
            have en_st : go_st st p0 = 3 := by try subst ev_4 ; subst hk ; first | rfl | (simp [go_r, go_st, go_rm, go_rr, go_rd, vz_b, c_21, c_119, c_133, c_156] ; done) | (simp only [go_r, go_st, go_rm, go_rr, go_rd, vz_b, c_21, c_119, c_133, c_156, ↓reduceIte, reduceCtorEq] ; rfl)
            have en_rd : go_rd st rm rd p0 = rd := by try subst ev_4 ; subst hk ; first | rfl | (simp [go_r, go_st, go_rm, go_rr, go_rd, vz_b, c_21, c_119, c_133, c_156] ; done) | (simp only [go_r, go_st, go_rm, go_rr, go_rd, vz_b, c_21, c_119, c_133, c_156, ↓reduceIte, reduceCtorEq] ; rfl)
            exact W.zret hx hb hr narrow_b0 (fun t ht hW => ⟨⟨_, (), rfl, (by try subst ev_4 ; subst hk ; first | rfl | (simp [go_r, go_st, go_rm, go_rr, go_rd, vz_b, c_21, c_119, c_133, c_156] ; done) | (simp only [go_r, go_st, go_rm, go_rr, go_rd, vz_b, c_21, c_119, c_133, c_156, ↓reduceIte, reduceCtorEq] ; rfl)), (by show va_P D vwCl (zM cI g pm (go_rm st rm) (go_rr st rr p0) (go_st st p0) sg rn bg la ws pr ry hm xu xl sn kp kr kb kl kw kh hc pg (go_rd st rm rd p0) rw ro be he kro khe) t.heap; rw [ht, en_rm, en_rr, en_st, en_rd]; exact hP)⟩, hS.F ht⟩) hS.2.2 dX7_go_172
          · skip
            refine lv_aload_n hx hb dX7_go_159 rfl (lv_at hl 2 rfl) ?_
            refine va_get (D := D) (ci := 7) (v := .int (nI rm)) (C := RX7) (T := TX7) (N := 30) hx hb hts iX7 hown hK hP 0 rfl rfl 3 (by decide) k53 (fun _ h9 => h9) rfl dX7_go_160 ?_
            refine lv_iconst (v := 1) hx hb dX7_go_163 (by decide) ?_
            refine lv_icmp_le (tgt := 171) hx hb dX7_go_164 (by decide) (fun c_164 => ?_) (fun c_164 => ?_)
            · skip
              refine lv_iconst (v := 0) hx hb dX7_go_171 (by decide) ?_
              have en_rm : go_rm st rm = rm := by try subst ev_4 ; subst hk ; first | rfl | (simp [go_r, go_st, go_rm, go_rr, go_rd, vz_b, c_21, c_119, c_133, c_156, c_164] ; done) | (simp only [go_r, go_st, go_rm, go_rr, go_rd, vz_b, c_21, c_119, c_133, c_156, c_164, ↓reduceIte, reduceCtorEq] ; rfl)
              have en_rr : go_rr st rr p0 = rr := by try subst ev_4 ; subst hk ; first | rfl | (simp [go_r, go_st, go_rm, go_rr, go_rd, vz_b, c_21, c_119, c_133, c_156, c_164] ; done) | (simp only [go_r, go_st, go_rm, go_rr, go_rd, vz_b, c_21, c_119, c_133, c_156, c_164, ↓reduceIte, reduceCtorEq] ; rfl)
              have en_st : go_st st p0 = 3 := by try subst ev_4 ; subst hk ; first | rfl | (simp [go_r, go_st, go_rm, go_rr, go_rd, vz_b, c_21, c_119, c_133, c_156, c_164] ; done) | (simp only [go_r, go_st, go_rm, go_rr, go_rd, vz_b, c_21, c_119, c_133, c_156, c_164, ↓reduceIte, reduceCtorEq] ; rfl)
              have en_rd : go_rd st rm rd p0 = rd := by try subst ev_4 ; subst hk ; first | rfl | (simp [go_r, go_st, go_rm, go_rr, go_rd, vz_b, c_21, c_119, c_133, c_156, c_164] ; done) | (simp only [go_r, go_st, go_rm, go_rr, go_rd, vz_b, c_21, c_119, c_133, c_156, c_164, ↓reduceIte, reduceCtorEq] ; rfl)
              exact W.zret hx hb hr narrow_b0 (fun t ht hW => ⟨⟨_, (), rfl, (by try subst ev_4 ; subst hk ; first | rfl | (simp [go_r, go_st, go_rm, go_rr, go_rd, vz_b, c_21, c_119, c_133, c_156, c_164] ; done) | (simp only [go_r, go_st, go_rm, go_rr, go_rd, vz_b, c_21, c_119, c_133, c_156, c_164, ↓reduceIte, reduceCtorEq] ; rfl)), (by show va_P D vwCl (zM cI g pm (go_rm st rm) (go_rr st rr p0) (go_st st p0) sg rn bg la ws pr ry hm xu xl sn kp kr kb kl kw kh hc pg (go_rd st rm rd p0) rw ro be he kro khe) t.heap; rw [ht, en_rm, en_rr, en_st, en_rd]; exact hP)⟩, hS.F ht⟩) hS.2.2 dX7_go_172
            · skip
              refine lv_iconst (v := 1) hx hb dX7_go_167 (by decide) ?_
              refine lv_goto (tgt := 172) hx hb dX7_go_168 (by decide) ?_
              have en_rm : go_rm st rm = rm := by try subst ev_4 ; subst hk ; first | rfl | (simp [go_r, go_st, go_rm, go_rr, go_rd, vz_b, c_21, c_119, c_133, c_156, c_164] ; done) | (simp only [go_r, go_st, go_rm, go_rr, go_rd, vz_b, c_21, c_119, c_133, c_156, c_164, ↓reduceIte, reduceCtorEq] ; rfl)
              have en_rr : go_rr st rr p0 = rr := by try subst ev_4 ; subst hk ; first | rfl | (simp [go_r, go_st, go_rm, go_rr, go_rd, vz_b, c_21, c_119, c_133, c_156, c_164] ; done) | (simp only [go_r, go_st, go_rm, go_rr, go_rd, vz_b, c_21, c_119, c_133, c_156, c_164, ↓reduceIte, reduceCtorEq] ; rfl)
              have en_st : go_st st p0 = 3 := by try subst ev_4 ; subst hk ; first | rfl | (simp [go_r, go_st, go_rm, go_rr, go_rd, vz_b, c_21, c_119, c_133, c_156, c_164] ; done) | (simp only [go_r, go_st, go_rm, go_rr, go_rd, vz_b, c_21, c_119, c_133, c_156, c_164, ↓reduceIte, reduceCtorEq] ; rfl)
              have en_rd : go_rd st rm rd p0 = rd := by try subst ev_4 ; subst hk ; first | rfl | (simp [go_r, go_st, go_rm, go_rr, go_rd, vz_b, c_21, c_119, c_133, c_156, c_164] ; done) | (simp only [go_r, go_st, go_rm, go_rr, go_rd, vz_b, c_21, c_119, c_133, c_156, c_164, ↓reduceIte, reduceCtorEq] ; rfl)
              exact W.zret hx hb hr narrow_b1 (fun t ht hW => ⟨⟨_, (), rfl, (by try subst ev_4 ; subst hk ; first | rfl | (simp [go_r, go_st, go_rm, go_rr, go_rd, vz_b, c_21, c_119, c_133, c_156, c_164] ; done) | (simp only [go_r, go_st, go_rm, go_rr, go_rd, vz_b, c_21, c_119, c_133, c_156, c_164, ↓reduceIte, reduceCtorEq] ; rfl)), (by show va_P D vwCl (zM cI g pm (go_rm st rm) (go_rr st rr p0) (go_st st p0) sg rn bg la ws pr ry hm xu xl sn kp kr kb kl kw kh hc pg (go_rd st rm rd p0) rw ro be he kro khe) t.heap; rw [ht, en_rm, en_rr, en_st, en_rd]; exact hP)⟩, hS.F ht⟩) hS.2.2 dX7_go_172
        · skip
          exact absurd c_133 c_119
      · skip
        refine lv_iconst (v := 0) hx hb dX7_go_122 (by decide) ?_
        refine lv_goto (tgt := 127) hx hb dX7_go_123 (by decide) ?_
        refine va_put (D := D) (ci := 7) (v := .int 0) (ty := .int) (C := RX7) (T := TX7) (N := 30) hx hb hts iX7 tyX7 tyX7_ok nmX7 hown hK hP hD hS 0 rfl rfl 5 (by decide) k50 (fun _ h9 => h9) rfl (by decide +kernel) rfl rfl (Nat.le_of_ble_eq_true rfl) dX7_go_127 (fun H_127 locs_127 hP9 hD9 hS9 => ?_)
        replace hP : va_P D vwCl (zM cI g pm rm rr 0 sg rn bg la ws pr ry hm xu xl sn kp kr kb kl kw kh hc pg rd rw ro be he kro khe) H_127 := hP9
        replace hD : va_D A (zM cI g pm rm rr 0 sg rn bg la ws pr ry hm xu xl sn kp kr kb kl kw kh hc pg rd rw ro be he kro khe) := hD9
        replace hS := hS9
        clear hP9 hD9 hS9
        refine lv_iload_n hx hb dX7_go_130 rfl (lv_at hl 3 rfl) ?_
        refine lv_bipush (v := 44) hx hb dX7_go_131 (by decide) ?_
        refine lv_icmp_ne (tgt := 153) hx hb dX7_go_133 (by decide) (fun c_133 => ?_) (fun c_133 => ?_)
        · skip
          exact absurd c_119 c_133
        · skip
          refine lv_aload_n hx hb dX7_go_136 rfl (lv_at hl 2 rfl) ?_
          refine va_get (D := D) (ci := 7) (v := .int (nI rm)) (C := RX7) (T := TX7) (N := 30) hx hb hts iX7 hown hK hP 0 rfl rfl 3 (by decide) k53 (fun _ h9 => h9) rfl dX7_go_137 ?_
          refine lv_bipush (v := 6) hx hb dX7_go_140 (by decide) ?_
          refine lv_icmp_ge (tgt := 149) hx hb dX7_go_142 (by decide) (fun c_142 => ?_) (fun c_142 => ?_)
          · skip
            refine lv_iconst (v := 0) hx hb dX7_go_149 (by decide) ?_
            refine lv_goto (tgt := 172) hx hb dX7_go_150 (by decide) ?_
            have en_rm : go_rm st rm = rm := by try subst ev_4 ; subst hk ; first | rfl | (simp [go_r, go_st, go_rm, go_rr, go_rd, vz_b, c_21, c_119, c_133, c_142] ; done) | (simp only [go_r, go_st, go_rm, go_rr, go_rd, vz_b, c_21, c_119, c_133, c_142, ↓reduceIte, reduceCtorEq] ; rfl)
            have en_rr : go_rr st rr p0 = rr := by try subst ev_4 ; subst hk ; first | rfl | (simp [go_r, go_st, go_rm, go_rr, go_rd, vz_b, c_21, c_119, c_133, c_142] ; done) | (simp only [go_r, go_st, go_rm, go_rr, go_rd, vz_b, c_21, c_119, c_133, c_142, ↓reduceIte, reduceCtorEq] ; rfl)
            have en_st : go_st st p0 = 0 := by try subst ev_4 ; subst hk ; first | rfl | (simp [go_r, go_st, go_rm, go_rr, go_rd, vz_b, c_21, c_119, c_133, c_142] ; done) | (simp only [go_r, go_st, go_rm, go_rr, go_rd, vz_b, c_21, c_119, c_133, c_142, ↓reduceIte, reduceCtorEq] ; rfl)
            have en_rd : go_rd st rm rd p0 = rd := by try subst ev_4 ; subst hk ; first | rfl | (simp [go_r, go_st, go_rm, go_rr, go_rd, vz_b, c_21, c_119, c_133, c_142] ; done) | (simp only [go_r, go_st, go_rm, go_rr, go_rd, vz_b, c_21, c_119, c_133, c_142, ↓reduceIte, reduceCtorEq] ; rfl)
            exact W.zret hx hb hr narrow_b0 (fun t ht hW => ⟨⟨_, (), rfl, (by try subst ev_4 ; subst hk ; first | rfl | (simp [go_r, go_st, go_rm, go_rr, go_rd, vz_b, c_21, c_119, c_133, c_142] ; done) | (simp only [go_r, go_st, go_rm, go_rr, go_rd, vz_b, c_21, c_119, c_133, c_142, ↓reduceIte, reduceCtorEq] ; rfl)), (by show va_P D vwCl (zM cI g pm (go_rm st rm) (go_rr st rr p0) (go_st st p0) sg rn bg la ws pr ry hm xu xl sn kp kr kb kl kw kh hc pg (go_rd st rm rd p0) rw ro be he kro khe) t.heap; rw [ht, en_rm, en_rr, en_st, en_rd]; exact hP)⟩, hS.F ht⟩) hS.2.2 dX7_go_172
          · skip
            refine lv_iconst (v := 1) hx hb dX7_go_145 (by decide) ?_
            refine lv_goto (tgt := 172) hx hb dX7_go_146 (by decide) ?_
            have en_rm : go_rm st rm = rm := by try subst ev_4 ; subst hk ; first | rfl | (simp [go_r, go_st, go_rm, go_rr, go_rd, vz_b, c_21, c_119, c_133, c_142] ; done) | (simp only [go_r, go_st, go_rm, go_rr, go_rd, vz_b, c_21, c_119, c_133, c_142, ↓reduceIte, reduceCtorEq] ; rfl)
            have en_rr : go_rr st rr p0 = rr := by try subst ev_4 ; subst hk ; first | rfl | (simp [go_r, go_st, go_rm, go_rr, go_rd, vz_b, c_21, c_119, c_133, c_142] ; done) | (simp only [go_r, go_st, go_rm, go_rr, go_rd, vz_b, c_21, c_119, c_133, c_142, ↓reduceIte, reduceCtorEq] ; rfl)
            have en_st : go_st st p0 = 0 := by try subst ev_4 ; subst hk ; first | rfl | (simp [go_r, go_st, go_rm, go_rr, go_rd, vz_b, c_21, c_119, c_133, c_142] ; done) | (simp only [go_r, go_st, go_rm, go_rr, go_rd, vz_b, c_21, c_119, c_133, c_142, ↓reduceIte, reduceCtorEq] ; rfl)
            have en_rd : go_rd st rm rd p0 = rd := by try subst ev_4 ; subst hk ; first | rfl | (simp [go_r, go_st, go_rm, go_rr, go_rd, vz_b, c_21, c_119, c_133, c_142] ; done) | (simp only [go_r, go_st, go_rm, go_rr, go_rd, vz_b, c_21, c_119, c_133, c_142, ↓reduceIte, reduceCtorEq] ; rfl)
            exact W.zret hx hb hr narrow_b1 (fun t ht hW => ⟨⟨_, (), rfl, (by try subst ev_4 ; subst hk ; first | rfl | (simp [go_r, go_st, go_rm, go_rr, go_rd, vz_b, c_21, c_119, c_133, c_142] ; done) | (simp only [go_r, go_st, go_rm, go_rr, go_rd, vz_b, c_21, c_119, c_133, c_142, ↓reduceIte, reduceCtorEq] ; rfl)), (by show va_P D vwCl (zM cI g pm (go_rm st rm) (go_rr st rr p0) (go_st st p0) sg rn bg la ws pr ry hm xu xl sn kp kr kb kl kw kh hc pg (go_rd st rm rd p0) rw ro be he kro khe) t.heap; rw [ht, en_rm, en_rr, en_st, en_rd]; exact hP)⟩, hS.F ht⟩) hS.2.2 dX7_go_172
    · skip
      refine lv_tableIn (tgt := 173) (off := 152) hx hb dX7_go_21 h1_21 h2_21 (by rw [c_21]; rfl) (by decide) ?_
      replace c_21 : (nI st) = 3 := vz_toI c_21 (by decide)
      have hk : st = 3 := (nI_eq (b := 3) (by omega) (by omega)).mp c_21
      refine lv_aload_n hx hb dX7_go_173 rfl (lv_at hl 2 rfl) ?_
      refine lv_iload_n hx hb dX7_go_174 rfl (lv_at hl 1 rfl) ?_
      refine va_put (D := D) (ci := 7) (v := .int v_4) (ty := .int) (C := RX7) (T := TX7) (N := 30) hx hb hts iX7 tyX7 tyX7_ok nmX7 hown hK hP hD hS 0 rfl rfl 4 (by decide) k62 (fun _ h9 => h9) rfl (by decide +kernel) rfl rfl (Nat.le_of_ble_eq_true rfl) dX7_go_175 (fun H_175 locs_175 hP9 hD9 hS9 => ?_)
      replace hP : va_P D vwCl (zM cI g pm rm v_4 (st + 1) sg rn bg la ws pr ry hm xu xl sn kp kr kb kl kw kh hc pg rd rw ro be he kro khe) H_175 := hP9
      replace hD : va_D A (zM cI g pm rm v_4 (st + 1) sg rn bg la ws pr ry hm xu xl sn kp kr kb kl kw kh hc pg rd rw ro be he kro khe) := hD9
      replace hS := hS9
      clear hP9 hD9 hS9
      refine lv_iload_n hx hb dX7_go_178 rfl (lv_at hl 1 rfl) ?_
      refine lv_i2l (v := (v_4 : Int32).toInt64) hx hb dX7_go_179 rfl ?_
      refine lv_lconst (v := 0) hx hb dX7_go_180 (by decide) ?_
      refine lv_ldc2 (v := 3) hx hb hown (hts (.constantLong RX7 60 (3)) (List.mem_of_getElem? (i := 4) rfl)) dX7_go_181 ?_
      refine vp_callSi (W.runS (As := [.long ((v_4 : Int32).toInt64), .long 0, .long 3]) (rest := []) ⟨hx, hb, hml, hown, hts⟩ (c_X7_in l ((v_4 : Int32).toInt64) 0 3) (va_cwS 3 hts gX7_go_X7_in rfl rfl rfl (by decide +kernel) ⟨Nat.le_of_ble_eq_true rfl, Nat.le_of_ble_eq_true rfl⟩) (vz_psS) rfl rfl hl.1 rfl (lv_room (Nat.le_of_ble_eq_true rfl)) dX7_go_184 ⟨Nat.zero_le _, Nat.zero_le _⟩) (fun r_184 hr_184 => ?_)
      subst hr_184
      have en_rm : go_rm st rm = rm := by try subst ev_4 ; subst hk ; first | rfl | (simp [go_r, go_st, go_rm, go_rr, go_rd, vz_b, c_21] ; done) | (simp only [go_r, go_st, go_rm, go_rr, go_rd, vz_b, c_21, ↓reduceIte, reduceCtorEq] ; rfl)
      have en_rr : go_rr st rr p0 = v_4 := by try subst ev_4 ; subst hk ; first | rfl | (simp [go_r, go_st, go_rm, go_rr, go_rd, vz_b, c_21] ; done) | (simp only [go_r, go_st, go_rm, go_rr, go_rd, vz_b, c_21, ↓reduceIte, reduceCtorEq] ; rfl)
      have en_st : go_st st p0 = st + 1 := by try subst ev_4 ; subst hk ; first | rfl | (simp [go_r, go_st, go_rm, go_rr, go_rd, vz_b, c_21] ; done) | (simp only [go_r, go_st, go_rm, go_rr, go_rd, vz_b, c_21, ↓reduceIte, reduceCtorEq] ; rfl)
      have en_rd : go_rd st rm rd p0 = rd := by try subst ev_4 ; subst hk ; first | rfl | (simp [go_r, go_st, go_rm, go_rr, go_rd, vz_b, c_21] ; done) | (simp only [go_r, go_st, go_rm, go_rr, go_rd, vz_b, c_21, ↓reduceIte, reduceCtorEq] ; rfl)
      exact W.zret hx hb hr (vz_nb _) (fun t ht hW => ⟨⟨_, (), rfl, (by try subst ev_4 ; subst hk ; first | rfl | (simp [go_r, go_st, go_rm, go_rr, go_rd, vz_b, c_21] ; done) | (simp only [go_r, go_st, go_rm, go_rr, go_rd, vz_b, c_21, ↓reduceIte, reduceCtorEq] ; rfl)), (by show va_P D vwCl (zM cI g pm (go_rm st rm) (go_rr st rr p0) (go_st st p0) sg rn bg la ws pr ry hm xu xl sn kp kr kb kl kw kh hc pg (go_rd st rm rd p0) rw ro be he kro khe) t.heap; rw [ht, en_rm, en_rr, en_st, en_rd]; exact hP)⟩, hS.F ht⟩) hS.2.2 dX7_go_187
set_option maxHeartbeats 4000000 in
set_option maxRecDepth 100000 in
theorem c_X7_faultOf (l : Launch) (D : va_G) (cI : ClassId) (g : Nat → Nat) (pm : Nat) (rm : Nat) (rr : Int32) (st : Nat) (sg : Nat) (rn : Int32) (bg : Int32) (la : Int32) (ws : Bool) (pr : Nat) (ry : Nat) (hm : Nat) (xu : Int64) (xl : Int64) (sn : Int32) (kp : Int32) (kr : Int32) (kb : Int32) (kl : Int32) (kw : Bool) (kh : Nat) (hc : Int64) (pg : Nat → Int32) (rd : Nat → Int32) (rw : Nat → Int32) (ro : Nat → Int32) (be : Nat → Int32) (he : Nat → Int32) (kro : Nat → Int32) (khe : Nat → Int32) (sz : Nat) (hpm : pm ≤ 22) : Met l yX7_faultOf wsX7_faultOf ({ frames := 2, cells := 0, slots := 0, locals := 48 } : Room) (vz_rw D cI (zM cI g pm rm rr st sg rn bg la ws pr ry hm xu xl sn kp kr kb kl kw kh hc pg rd rw ro be he kro khe) sz [.ref (g 0)]) (va_Qi (fun r (_ : Unit) => r = nI (fo pg pm 0 rd 0 rr 0).1) (fun (u : Unit) (t : State) => va_P D vwCl (zM cI g pm ((fo pg pm 0 rd 0 rr 0).2.2.1) ((fo pg pm 0 rd 0 rr 0).2.2.2.1) ((fo pg pm 0 rd 0 rr 0).2.2.2.2) sg rn bg la ws pr ry hm xu xl sn kp kr kb kl kw kh hc pg ((fo pg pm 0 rd 0 rr 0).2.1) rw ro be he kro khe) t.heap) (va_A (zM cI g pm rm rr st sg rn bg la ws pr ry hm xu xl sn kp kr kb kl kw kh hc pg rd rw ro be he kro khe) sz)) 0 0 (va_A (zM cI g pm rm rr st sg rn bg la ws pr ry hm xu xl sn kp kr kb kl kw kh hc pg rd rw ro be he kro khe) sz) := by
  refine Met.ofW (cc := cX7_faultOf) (maxL := 2) (ret := (some .int)) (by decide) rfl ?_
  intro p e s m args below meth c s₁ B hml hv
  obtain ⟨rfl, hsz, hP, hZ, hD0⟩ := hv
  obtain ⟨hK, hN⟩ := id hZ
  have hx := B.exec
  have hb := B.bytes
  have hr := B.returns
  have hts := atoms_spec (ws := wsX7_faultOf) B.pre
  have hown : s.vm.findClass RX7 = some m.cls := findClass_of_methodNamed B.named
  have hlocks := B.notSynchronized
  subst hsz
  have hD := hD0.self (sz := s.heap.size)
  generalize hAe : va_A (zM cI g pm rm rr st sg rn bg la ws pr ry hm xu xl sn kp kr kb kl kw kh hc pg rd rw ro be he kro khe) s.heap.size = A at hD ⊢
  have hA : ∀ q : Nat, s.heap.size ≤ q → A q := fun q h => by rw [← hAe]; exact Or.inr h
  have hS : va_S A s.heap s.heap [] := va_S.rf
  have k7 := hts (.fieldLink RX7 7 "SongsAgainModel" "page" "[I") (List.mem_of_getElem? (i := 4) rfl)
  have k47 := hts (.fieldLink RX7 47 "SongsAgainModel" "pageMany" "I") (List.mem_of_getElem? (i := 3) rfl)
  have k50 := hts (.fieldLink RX7 50 "SongsAgainModel" "state" "I") (List.mem_of_getElem? (i := 2) rfl)
  have k53 := hts (.fieldLink RX7 53 "SongsAgainModel" "readMany" "I") (List.mem_of_getElem? (i := 1) rfl)
  have iX7 : ∀ w ∈ u_ws RX7 TX7 30, w ∈ wsX7_faultOf := vz_in (i := 19) (n := 30) rfl
  have hl := lv_entry ([.ref (g 0)]) (n := 2) (Nat.le_of_ble_eq_true rfl)
  rw [lg_entry_eq]
  generalize (lg_sl ([.ref (g 0)]) ++ List.replicate (2 - (lg_sl ([.ref (g 0)])).length) Slot.unset).toArray = ls at hl ⊢
  have hl : lv_has ls 2 [(0, .ref (g 0))] := hl
  have hP : va_P D vwCl (zM cI g pm rm rr st sg rn bg la ws pr ry hm xu xl sn kp kr kb kl kw kh hc pg rd rw ro be he kro khe) s.heap := hP
  refine lv_aload_n hx hb dX7_faultOf_0 rfl (lv_at hl 0 rfl) ?_
  refine lv_iconst (v := 0) hx hb dX7_faultOf_1 (by decide) ?_
  refine va_put (D := D) (ci := 7) (v := .int 0) (ty := .int) (C := RX7) (T := TX7) (N := 30) hx hb hts iX7 tyX7 tyX7_ok nmX7 hown hK hP hD hS 0 rfl rfl 3 (by decide) k53 (fun _ h9 => h9) rfl (by decide +kernel) rfl rfl (Nat.le_of_ble_eq_true rfl) dX7_faultOf_2 (fun H_2 locs_2 hP9 hD9 hS9 => ?_)
  replace hP : va_P D vwCl (zM cI g pm 0 rr st sg rn bg la ws pr ry hm xu xl sn kp kr kb kl kw kh hc pg rd rw ro be he kro khe) H_2 := hP9
  replace hD : va_D A (zM cI g pm 0 rr st sg rn bg la ws pr ry hm xu xl sn kp kr kb kl kw kh hc pg rd rw ro be he kro khe) := hD9
  replace hS := hS9
  clear hP9 hD9 hS9
  refine lv_aload_n hx hb dX7_faultOf_5 rfl (lv_at hl 0 rfl) ?_
  refine lv_iconst (v := 0) hx hb dX7_faultOf_6 (by decide) ?_
  refine va_put (D := D) (ci := 7) (v := .int 0) (ty := .int) (C := RX7) (T := TX7) (N := 30) hx hb hts iX7 tyX7 tyX7_ok nmX7 hown hK hP hD hS 0 rfl rfl 5 (by decide) k50 (fun _ h9 => h9) rfl (by decide +kernel) rfl rfl (Nat.le_of_ble_eq_true rfl) dX7_faultOf_7 (fun H_7 locs_7 hP9 hD9 hS9 => ?_)
  replace hP : va_P D vwCl (zM cI g pm 0 rr 0 sg rn bg la ws pr ry hm xu xl sn kp kr kb kl kw kh hc pg rd rw ro be he kro khe) H_7 := hP9
  replace hD : va_D A (zM cI g pm 0 rr 0 sg rn bg la ws pr ry hm xu xl sn kp kr kb kl kw kh hc pg rd rw ro be he kro khe) := hD9
  replace hS := hS9
  clear hP9 hD9 hS9
  refine lv_iconst (v := 0) hx hb dX7_faultOf_10 (by decide) ?_
  refine lv_istore_n (lv' := [(1, .int 0), (0, .ref (g 0))]) hx hb dX7_faultOf_11 rfl hl (by decide) rfl (fun ls hl => ?_)
  have L_12 : ∀ (d_12 : Nat) (k : Nat) (yd : Nat → Int32) (ym : Nat) (yr : Int32) (ys : Nat) (H_12 : Heap) (locs_12 : List Loc), pm - k < d_12 → (k ≤ pm) → (ys ≤ 4) → (ym ≤ 6) → (ys ≤ 1 → ym ≤ 5) → (fo pg pm 0 rd 0 rr 0 = fo pg (pm - k) k yd ym yr ys) → va_P D vwCl (zM cI g pm ym yr ys sg rn bg la ws pr ry hm xu xl sn kp kr kb kl kw kh hc pg yd rw ro be he kro khe) H_12 → va_D A (zM cI g pm ym yr ys sg rn bg la ws pr ry hm xu xl sn kp kr kb kl kw kh hc pg yd rw ro be he kro khe) → va_S A s.heap H_12 locs_12 → ∀ (ls : Array Slot), lv_has ls 2 [(1, .int (nI k)), (0, .ref (g 0))] → W p l e ({ frames := 2, cells := 0, slots := 0, locals := 48 } : Room) s m ([.ref (g 0)] : List Value).toArray below meth c H_12 locs_12 0 0 (MQ below (va_Qi (fun r (_ : Unit) => r = nI (fo pg pm 0 rd 0 rr 0).1) (fun (u : Unit) (t : State) => va_P D vwCl (zM cI g pm ((fo pg pm 0 rd 0 rr 0).2.2.1) ((fo pg pm 0 rd 0 rr 0).2.2.2.1) ((fo pg pm 0 rd 0 rr 0).2.2.2.2) sg rn bg la ws pr ry hm xu xl sn kp kr kb kl kw kh hc pg ((fo pg pm 0 rd 0 rr 0).2.1) rw ro be he kro khe) t.heap) A) ([.ref (g 0)] : List Value).toArray s 0 0 A) (F0 m 12 ls []) := by
    intro d_12
    induction d_12 with
    | zero => intro k yd ym yr ys H_12 locs_12 hd; exact absurd hd (Nat.not_lt_zero _)
    | succ d_12 ih_12 =>
      intro k yd ym yr ys H_12 locs_12 hd_12 hk hst hr6 hrm hres hP hD hS ls hl
      refine lv_iload_n hx hb dX7_faultOf_12 rfl (lv_at hl 0 rfl) ?_
      refine lv_aload_n hx hb dX7_faultOf_13 rfl (lv_at hl 1 rfl) ?_
      refine va_get (D := D) (ci := 7) (v := .int (nI pm)) (C := RX7) (T := TX7) (N := 30) hx hb hts iX7 hown hK hP 0 rfl rfl 1 (by decide) k47 (fun _ h9 => h9) rfl dX7_faultOf_14 ?_
      refine lv_icmp_ge (tgt := 39) hx hb dX7_faultOf_17 (by decide) (fun c_17 => ?_) (fun c_17 => ?_)
      · skip
        have hke : k = pm := Nat.le_antisymm hk (vz_ge c_17 (by omega) (by omega))
        refine lv_iload_n hx hb dX7_faultOf_39 rfl (lv_at hl 0 rfl) ?_
        have en_rm : (fo pg pm 0 rd 0 rr 0).2.2.1 = ym := by first | (rw [hres, show pm - k = (pm - (k + 1)) + 1 by omega] ; simp only [fo, c_30, ↓reduceIte, Bool.false_eq_true] ; done) | (rw [hres, show pm - k = 0 by omega] ; rfl)
        have en_rr : (fo pg pm 0 rd 0 rr 0).2.2.2.1 = yr := by first | (rw [hres, show pm - k = (pm - (k + 1)) + 1 by omega] ; simp only [fo, c_30, ↓reduceIte, Bool.false_eq_true] ; done) | (rw [hres, show pm - k = 0 by omega] ; rfl)
        have en_st : (fo pg pm 0 rd 0 rr 0).2.2.2.2 = ys := by first | (rw [hres, show pm - k = (pm - (k + 1)) + 1 by omega] ; simp only [fo, c_30, ↓reduceIte, Bool.false_eq_true] ; done) | (rw [hres, show pm - k = 0 by omega] ; rfl)
        have en_rd : (fo pg pm 0 rd 0 rr 0).2.1 = yd := by first | (rw [hres, show pm - k = (pm - (k + 1)) + 1 by omega] ; simp only [fo, c_30, ↓reduceIte, Bool.false_eq_true] ; done) | (rw [hres, show pm - k = 0 by omega] ; rfl)
        exact W.iret hx hb hr (fun t ht hW => ⟨⟨_, (), rfl, (by first | (rw [hres, show pm - k = (pm - (k + 1)) + 1 by omega] ; simp only [fo, c_30, ↓reduceIte, Bool.false_eq_true] ; done) | (rw [hres, show pm - k = 0 by omega] ; rfl)), (by show va_P D vwCl (zM cI g pm ((fo pg pm 0 rd 0 rr 0).2.2.1) ((fo pg pm 0 rd 0 rr 0).2.2.2.1) ((fo pg pm 0 rd 0 rr 0).2.2.2.2) sg rn bg la ws pr ry hm xu xl sn kp kr kb kl kw kh hc pg ((fo pg pm 0 rd 0 rr 0).2.1) rw ro be he kro khe) t.heap; rw [ht, en_rm, en_rr, en_st, en_rd]; exact hP)⟩, hS.F ht⟩) hS.2.2 dX7_faultOf_40
      · skip
        have hlt : k < pm := vz_lt c_17 (by omega)
        refine lv_aload_n hx hb dX7_faultOf_20 rfl (lv_at hl 1 rfl) ?_
        refine lv_aload_n hx hb dX7_faultOf_21 rfl (lv_at hl 1 rfl) ?_
        refine va_get (D := D) (ci := 7) (v := .ref (g 1)) (C := RX7) (T := TX7) (N := 30) hx hb hts iX7 hown hK hP 0 rfl rfl 0 (by decide) k7 (fun _ h9 => h9) rfl dX7_faultOf_22 ?_
        refine lv_iload_n hx hb dX7_faultOf_25 rfl (lv_at hl 0 rfl) ?_
        refine va_iald hx hb hK hP 1 0 rfl rfl (i := nI k) (vp_in_nI (by first | assumption | omega) (by first | assumption | omega)) dX7_faultOf_26 ?_
        refine W.eq (congrArg (fun z => F0 m 27 ls (.int z :: [.ref (g 0)])) (vz_ix pg (by first | assumption | omega))) ?_
        have hPc := hP
        have hDc := hD
        have hFc : ∀ q, va_A (zM cI g pm ym yr ys sg rn bg la ws pr ry hm xu xl sn kp kr kb kl kw kh hc pg yd rw ro be he kro khe) H_12.size q → A q := vz_freeAll hD hS hA
        refine va_calli (va_runV (As := [.int (pg k)]) (rest := []) ⟨hx, hb, hml, hown, hts⟩ (c_X7_go l D cI g pm ym yr ys sg rn bg la ws pr ry hm xu xl sn kp kr kb kl kw kh hc pg yd rw ro be he kro khe H_12.size (pg k) (by first | assumption | omega) (by first | assumption | omega) (by first | assumption | omega)) (cwV 1 hts gX7_faultOf_X7_go rfl rfl rfl (by decide +kernel) ⟨Nat.le_of_ble_eq_true rfl, Nat.le_of_ble_eq_true rfl⟩) (vz_pvW (va_recv hK hP (ci := 7) (q0 := 0) rfl rfl) hZ hPc hDc) rfl rfl hl.1 rfl (lv_room (Nat.le_of_ble_eq_true rfl)) dX7_faultOf_27 ⟨Nat.zero_le _, Nat.zero_le _⟩) hS (fun q _ h => hFc q h) hFc (fun r_27 u_27 t H_27 locs_27 ht hvm hw hB hz1 hk1 hS9 => ?_)
        rw [ht] at hB
        replace hP : va_P D vwCl (zM cI g pm (go_rm ys ym) (go_rr ys yr (pg k)) (go_st ys (pg k)) sg rn bg la ws pr ry hm xu xl sn kp kr kb kl kw kh hc pg (go_rd ys ym yd (pg k)) rw ro be he kro khe) H_27 := hB
        replace hD : va_D A (zM cI g pm (go_rm ys ym) (go_rr ys yr (pg k)) (go_st ys (pg k)) sg rn bg la ws pr ry hm xu xl sn kp kr kb kl kw kh hc pg (go_rd ys ym yd (pg k)) rw ro be he kro khe) := vz_same hD rfl
        replace hS := hS9
        clear hS9 hPc hDc hFc hB hk1 hz1
        subst hw
        refine lv_if_eq (tgt := 39) hx hb dX7_faultOf_30 (by decide) (fun c_30 => ?_) (fun c_30 => ?_)
        · skip
          replace c_30 := vz_b0 c_30
          refine lv_iload_n hx hb dX7_faultOf_39 rfl (lv_at hl 0 rfl) ?_
          have en_rm : (fo pg pm 0 rd 0 rr 0).2.2.1 = go_rm ys ym := by first | (rw [hres, show pm - k = (pm - (k + 1)) + 1 by omega] ; simp only [fo, c_30, ↓reduceIte, Bool.false_eq_true] ; done) | (rw [hres, show pm - k = 0 by omega] ; rfl)
          have en_rr : (fo pg pm 0 rd 0 rr 0).2.2.2.1 = go_rr ys yr (pg k) := by first | (rw [hres, show pm - k = (pm - (k + 1)) + 1 by omega] ; simp only [fo, c_30, ↓reduceIte, Bool.false_eq_true] ; done) | (rw [hres, show pm - k = 0 by omega] ; rfl)
          have en_st : (fo pg pm 0 rd 0 rr 0).2.2.2.2 = go_st ys (pg k) := by first | (rw [hres, show pm - k = (pm - (k + 1)) + 1 by omega] ; simp only [fo, c_30, ↓reduceIte, Bool.false_eq_true] ; done) | (rw [hres, show pm - k = 0 by omega] ; rfl)
          have en_rd : (fo pg pm 0 rd 0 rr 0).2.1 = go_rd ys ym yd (pg k) := by first | (rw [hres, show pm - k = (pm - (k + 1)) + 1 by omega] ; simp only [fo, c_30, ↓reduceIte, Bool.false_eq_true] ; done) | (rw [hres, show pm - k = 0 by omega] ; rfl)
          exact W.iret hx hb hr (fun t ht hW => ⟨⟨_, (), rfl, (by first | (rw [hres, show pm - k = (pm - (k + 1)) + 1 by omega] ; simp only [fo, c_30, ↓reduceIte, Bool.false_eq_true] ; done) | (rw [hres, show pm - k = 0 by omega] ; rfl)), (by show va_P D vwCl (zM cI g pm ((fo pg pm 0 rd 0 rr 0).2.2.1) ((fo pg pm 0 rd 0 rr 0).2.2.2.1) ((fo pg pm 0 rd 0 rr 0).2.2.2.2) sg rn bg la ws pr ry hm xu xl sn kp kr kb kl kw kh hc pg ((fo pg pm 0 rd 0 rr 0).2.1) rw ro be he kro khe) t.heap; rw [ht, en_rm, en_rr, en_st, en_rd]; exact hP)⟩, hS.F ht⟩) hS.2.2 dX7_faultOf_40
        · skip
          replace c_30 := vz_b1 c_30
          refine lv_iinc (v := nI (k + 1)) (lv' := [(1, .int (nI (k + 1))), (0, .ref (g 0))]) hx hb dX7_faultOf_33 hl (k := 0) rfl (vz_inc _) (by decide) rfl (fun ls hl => ?_)
          refine lv_goto (tgt := 12) hx hb dX7_faultOf_36 (by decide) ?_
          have ew_rm : (go_rm ys ym) = go_rm ys ym := by rfl
          have ew_rr : (go_rr ys yr (pg k)) = go_rr ys yr (pg k) := by rfl
          have ew_st : (go_st ys (pg k)) = go_st ys (pg k) := by rfl
          have ew_rd : (go_rd ys ym yd (pg k)) = go_rd ys ym yd (pg k) := by rfl
          replace hP : va_P D vwCl (zM cI g pm (go_rm ys ym) (go_rr ys yr (pg k)) (go_st ys (pg k)) sg rn bg la ws pr ry hm xu xl sn kp kr kb kl kw kh hc pg (go_rd ys ym yd (pg k)) rw ro be he kro khe) H_27 := by rw [ew_rm, ew_rr, ew_st, ew_rd]; exact hP
          replace hD : va_D A (zM cI g pm (go_rm ys ym) (go_rr ys yr (pg k)) (go_st ys (pg k)) sg rn bg la ws pr ry hm xu xl sn kp kr kb kl kw kh hc pg (go_rd ys ym yd (pg k)) rw ro be he kro khe) := vz_same hD rfl
          exact ih_12 (k + 1) (go_rd ys ym yd (pg k)) (go_rm ys ym) (go_rr ys yr (pg k)) (go_st ys (pg k)) _ _ (by omega) (by omega) ((go_inv hst hr6 hrm c_30).1) ((go_inv hst hr6 hrm c_30).2.1) ((go_inv hst hr6 hrm c_30).2.2) (by rw [hres, show pm - k = (pm - (k + 1)) + 1 by omega] ; simp only [fo, c_30, ↓reduceIte]) hP hD hS ls (lv_sub hl [0, 1] rfl)
  exact L_12 _ 0 rd 0 rr 0 _ _ (Nat.lt_succ_self _) (Nat.zero_le _) (by omega) (by omega) (fun _ => by omega) rfl hP hD hS ls (lv_sub hl [0, 1] rfl)
set_option maxHeartbeats 4000000 in
set_option maxRecDepth 100000 in
theorem c_X7_fault (l : Launch) (D : va_G) (cI : ClassId) (g : Nat → Nat) (pm : Nat) (rm : Nat) (rr : Int32) (st : Nat) (sg : Nat) (rn : Int32) (bg : Int32) (la : Int32) (ws : Bool) (pr : Nat) (ry : Nat) (hm : Nat) (xu : Int64) (xl : Int64) (sn : Int32) (kp : Int32) (kr : Int32) (kb : Int32) (kl : Int32) (kw : Bool) (kh : Nat) (hc : Int64) (pg : Nat → Int32) (rd : Nat → Int32) (rw : Nat → Int32) (ro : Nat → Int32) (be : Nat → Int32) (he : Nat → Int32) (kro : Nat → Int32) (khe : Nat → Int32) (sz : Nat) (hpm : pm ≤ 22) : Met l yX7_fault wsX7_fault ({ frames := 3, cells := 0, slots := 0, locals := 69 } : Room) (vz_rw D cI (zM cI g pm rm rr st sg rn bg la ws pr ry hm xu xl sn kp kr kb kl kw kh hc pg rd rw ro be he kro khe) sz [.ref (g 0)]) (va_Qi (fun r (_ : (Nat → Int32) × Nat × Int32 × Nat) => r = nI (fo pg pm 0 rd 0 rr 0).1) (fun (u : (Nat → Int32) × Nat × Int32 × Nat) (t : State) => va_P D vwCl (zM cI g pm u.2.1 u.2.2.1 u.2.2.2 sg rn bg la ws pr ry hm xu xl sn kp kr kb kl kw kh hc pg u.1 rw ro be he kro khe) t.heap) (va_A (zM cI g pm rm rr st sg rn bg la ws pr ry hm xu xl sn kp kr kb kl kw kh hc pg rd rw ro be he kro khe) sz)) 0 0 (va_A (zM cI g pm rm rr st sg rn bg la ws pr ry hm xu xl sn kp kr kb kl kw kh hc pg rd rw ro be he kro khe) sz) := by
  refine Met.ofW (cc := cX7_fault) (maxL := 1) (ret := (some .int)) (by decide) rfl ?_
  intro p e s m args below meth c s₁ B hml hv
  obtain ⟨rfl, hsz, hP, hZ, hD0⟩ := hv
  obtain ⟨hK, hN⟩ := id hZ
  have hx := B.exec
  have hb := B.bytes
  have hr := B.returns
  have hts := atoms_spec (ws := wsX7_fault) B.pre
  have hown : s.vm.findClass RX7 = some m.cls := findClass_of_methodNamed B.named
  have hlocks := B.notSynchronized
  subst hsz
  have hD := hD0.self (sz := s.heap.size)
  generalize hAe : va_A (zM cI g pm rm rr st sg rn bg la ws pr ry hm xu xl sn kp kr kb kl kw kh hc pg rd rw ro be he kro khe) s.heap.size = A at hD ⊢
  have hA : ∀ q : Nat, s.heap.size ≤ q → A q := fun q h => by rw [← hAe]; exact Or.inr h
  have hS : va_S A s.heap s.heap [] := va_S.rf
  have hl := lv_entry ([.ref (g 0)]) (n := 1) (Nat.le_of_ble_eq_true rfl)
  rw [lg_entry_eq]
  generalize (lg_sl ([.ref (g 0)]) ++ List.replicate (1 - (lg_sl ([.ref (g 0)])).length) Slot.unset).toArray = ls at hl ⊢
  have hl : lv_has ls 1 [(0, .ref (g 0))] := hl
  have hP : va_P D vwCl (zM cI g pm rm rr st sg rn bg la ws pr ry hm xu xl sn kp kr kb kl kw kh hc pg rd rw ro be he kro khe) s.heap := hP
  refine lv_aload_n hx hb dX7_fault_0 rfl (lv_at hl 0 rfl) ?_
  have hPc := hP
  have hDc := hD
  have hFc : ∀ q, va_A (zM cI g pm rm rr st sg rn bg la ws pr ry hm xu xl sn kp kr kb kl kw kh hc pg rd rw ro be he kro khe) s.heap.size q → A q := vz_freeAll hD hS hA
  refine va_calli (va_runV (As := []) (rest := []) ⟨hx, hb, hml, hown, hts⟩ (c_X7_faultOf l D cI g pm rm rr st sg rn bg la ws pr ry hm xu xl sn kp kr kb kl kw kh hc pg rd rw ro be he kro khe s.heap.size (by first | assumption | omega)) (cwV 0 hts gX7_fault_X7_faultOf rfl rfl rfl (by decide +kernel) ⟨Nat.le_of_ble_eq_true rfl, Nat.le_of_ble_eq_true rfl⟩) (vz_pvW (va_recv hK hP (ci := 7) (q0 := 0) rfl rfl) hZ hPc hDc) rfl rfl hl.1 rfl (lv_room (Nat.le_of_ble_eq_true rfl)) dX7_fault_1 ⟨Nat.zero_le _, Nat.zero_le _⟩) hS (fun q _ h => hFc q h) hFc (fun r_1 u_1 t H_1 locs_1 ht hvm hw hB hz1 hk1 hS9 => ?_)
  rw [ht] at hB
  replace hP : va_P D vwCl (zM cI g pm ((fo pg pm 0 rd 0 rr 0).2.2.1) ((fo pg pm 0 rd 0 rr 0).2.2.2.1) ((fo pg pm 0 rd 0 rr 0).2.2.2.2) sg rn bg la ws pr ry hm xu xl sn kp kr kb kl kw kh hc pg ((fo pg pm 0 rd 0 rr 0).2.1) rw ro be he kro khe) H_1 := hB
  replace hD : va_D A (zM cI g pm ((fo pg pm 0 rd 0 rr 0).2.2.1) ((fo pg pm 0 rd 0 rr 0).2.2.2.1) ((fo pg pm 0 rd 0 rr 0).2.2.2.2) sg rn bg la ws pr ry hm xu xl sn kp kr kb kl kw kh hc pg ((fo pg pm 0 rd 0 rr 0).2.1) rw ro be he kro khe) := vz_same hD rfl
  replace hS := hS9
  clear hS9 hPc hDc hFc hB hk1 hz1
  subst hw
  exact W.iret hx hb hr (fun t ht hW => ⟨⟨_, ((fo pg pm 0 rd 0 rr 0).2.1, (fo pg pm 0 rd 0 rr 0).2.2.1, (fo pg pm 0 rd 0 rr 0).2.2.2.1, (fo pg pm 0 rd 0 rr 0).2.2.2.2), rfl, (by first | rfl | (rfl; done) | (rfl; rfl) | (rfl; done) | (rfl; rfl) | (simp; done)), (by show va_P D vwCl (zM cI g pm ((fo pg pm 0 rd 0 rr 0).2.2.1) ((fo pg pm 0 rd 0 rr 0).2.2.2.1) ((fo pg pm 0 rd 0 rr 0).2.2.2.2) sg rn bg la ws pr ry hm xu xl sn kp kr kb kl kw kh hc pg ((fo pg pm 0 rd 0 rr 0).2.1) rw ro be he kro khe) t.heap; rw [ht]; exact hP)⟩, hS.F ht⟩) hS.2.2 dX7_fault_4
set_option maxHeartbeats 4000000 in
set_option maxRecDepth 100000 in
theorem c_X7_player (l : Launch) (D : va_G) (cI : ClassId) (g : Nat → Nat) (pm : Nat) (rm : Nat) (rr : Int32) (st : Nat) (sg : Nat) (rn : Int32) (bg : Int32) (la : Int32) (ws : Bool) (pr : Nat) (ry : Nat) (hm : Nat) (xu : Int64) (xl : Int64) (sn : Int32) (kp : Int32) (kr : Int32) (kb : Int32) (kl : Int32) (kw : Bool) (kh : Nat) (hc : Int64) (pg : Nat → Int32) (rd : Nat → Int32) (rw : Nat → Int32) (ro : Nat → Int32) (be : Nat → Int32) (he : Nat → Int32) (kro : Nat → Int32) (khe : Nat → Int32) (sz : Nat) (hpm : pm ≤ 22) : Met l yX7_player wsX7_player ({ frames := 3, cells := 0, slots := 0, locals := 69 } : Room) (vz_rw D cI (zM cI g pm rm rr st sg rn bg la ws pr ry hm xu xl sn kp kr kb kl kw kh hc pg rd rw ro be he kro khe) sz [.ref (g 0)]) (va_Qi (fun r (_ : (Nat → Int32) × Nat × Int32 × Nat) => r = if (mp_ok pm (fo pg pm 0 rd 0 rr 0)) then nI (fo pg pm 0 rd 0 rr 0).2.2.1 else -103) (fun (u : (Nat → Int32) × Nat × Int32 × Nat) (t : State) => va_P D vwCl (zM cI g (pl_n (mp_ok pm (fo pg pm 0 rd 0 rr 0)) (0) pm) u.2.1 u.2.2.1 u.2.2.2 (pl_n (mp_ok pm (fo pg pm 0 rd 0 rr 0)) ((fo pg pm 0 rd 0 rr 0).2.2.1) sg) (pl_n (mp_ok pm (fo pg pm 0 rd 0 rr 0)) ((fo pg pm 0 rd 0 rr 0).2.2.2.1) rn) (pl_n (mp_ok pm (fo pg pm 0 rd 0 rr 0)) (bk_all (fo pg pm 0 rd 0 rr 0).2.2.1) bg) (pl_n (mp_ok pm (fo pg pm 0 rd 0 rr 0)) ((-1)) la) (pl_n (mp_ok pm (fo pg pm 0 rd 0 rr 0)) (false) ws) (pl_n (mp_ok pm (fo pg pm 0 rd 0 rr 0)) (pr + 1) pr) ry (pl_n (mp_ok pm (fo pg pm 0 rd 0 rr 0)) (0) hm) xu xl sn kp kr kb kl kw kh hc pg u.1 (pl_n (mp_ok pm (fo pg pm 0 rd 0 rr 0)) (mp_rows (fo pg pm 0 rd 0 rr 0).2.1 rw (fo pg pm 0 rd 0 rr 0).2.2.1) rw) ro be he kro khe) t.heap) (va_A (zM cI g pm rm rr st sg rn bg la ws pr ry hm xu xl sn kp kr kb kl kw kh hc pg rd rw ro be he kro khe) sz)) 0 0 (va_A (zM cI g pm rm rr st sg rn bg la ws pr ry hm xu xl sn kp kr kb kl kw kh hc pg rd rw ro be he kro khe) sz) := by
  refine Met.ofW (cc := cX7_player) (maxL := 2) (ret := (some .int)) (by decide) rfl ?_
  intro p e s m args below meth c s₁ B hml hv
  obtain ⟨rfl, hsz, hP, hZ, hD0⟩ := hv
  obtain ⟨hK, hN⟩ := id hZ
  have hx := B.exec
  have hb := B.bytes
  have hr := B.returns
  have hts := atoms_spec (ws := wsX7_player) B.pre
  have hown : s.vm.findClass RX7 = some m.cls := findClass_of_methodNamed B.named
  have hlocks := B.notSynchronized
  subst hsz
  have hD := hD0.self (sz := s.heap.size)
  generalize hAe : va_A (zM cI g pm rm rr st sg rn bg la ws pr ry hm xu xl sn kp kr kb kl kw kh hc pg rd rw ro be he kro khe) s.heap.size = A at hD ⊢
  have hA : ∀ q : Nat, s.heap.size ≤ q → A q := fun q h => by rw [← hAe]; exact Or.inr h
  have hS : va_S A s.heap s.heap [] := va_S.rf
  have k13 := hts (.fieldLink RX7 13 "SongsAgainModel" "read" "[I") (List.mem_of_getElem? (i := 6) rfl)
  have k16 := hts (.fieldLink RX7 16 "SongsAgainModel" "rows" "[I") (List.mem_of_getElem? (i := 5) rfl)
  have k38 := hts (.fieldLink RX7 38 "SongsAgainModel" "last" "I") (List.mem_of_getElem? (i := 10) rfl)
  have k47 := hts (.fieldLink RX7 47 "SongsAgainModel" "pageMany" "I") (List.mem_of_getElem? (i := 1) rfl)
  have k50 := hts (.fieldLink RX7 50 "SongsAgainModel" "state" "I") (List.mem_of_getElem? (i := 2) rfl)
  have k53 := hts (.fieldLink RX7 53 "SongsAgainModel" "readMany" "I") (List.mem_of_getElem? (i := 3) rfl)
  have k62 := hts (.fieldLink RX7 62 "SongsAgainModel" "readRule" "I") (List.mem_of_getElem? (i := 7) rfl)
  have k73 := hts (.fieldLink RX7 73 "SongsAgainModel" "songs" "I") (List.mem_of_getElem? (i := 4) rfl)
  have k76 := hts (.fieldLink RX7 76 "SongsAgainModel" "ruleNow" "I") (List.mem_of_getElem? (i := 8) rfl)
  have k82 := hts (.fieldLink RX7 82 "SongsAgainModel" "bag" "I") (List.mem_of_getElem? (i := 9) rfl)
  have k85 := hts (.fieldLink RX7 85 "SongsAgainModel" "wasSkipped" "Z") (List.mem_of_getElem? (i := 11) rfl)
  have k89 := hts (.fieldLink RX7 89 "SongsAgainModel" "heardMany" "I") (List.mem_of_getElem? (i := 12) rfl)
  have k92 := hts (.fieldLink RX7 92 "SongsAgainModel" "playersRead" "I") (List.mem_of_getElem? (i := 13) rfl)
  have iX7 : ∀ w ∈ u_ws RX7 TX7 30, w ∈ wsX7_player := vz_in (i := 35) (n := 30) rfl
  have hl := lv_entry ([.ref (g 0)]) (n := 2) (Nat.le_of_ble_eq_true rfl)
  rw [lg_entry_eq]
  generalize (lg_sl ([.ref (g 0)]) ++ List.replicate (2 - (lg_sl ([.ref (g 0)])).length) Slot.unset).toArray = ls at hl ⊢
  have hl : lv_has ls 2 [(0, .ref (g 0))] := hl
  have hP : va_P D vwCl (zM cI g pm rm rr st sg rn bg la ws pr ry hm xu xl sn kp kr kb kl kw kh hc pg rd rw ro be he kro khe) s.heap := hP
  refine lv_aload_n hx hb dX7_player_0 rfl (lv_at hl 0 rfl) ?_
  have hPc := hP
  have hDc := hD
  have hFc : ∀ q, va_A (zM cI g pm rm rr st sg rn bg la ws pr ry hm xu xl sn kp kr kb kl kw kh hc pg rd rw ro be he kro khe) s.heap.size q → A q := vz_freeAll hD hS hA
  refine va_calli (va_runV (As := []) (rest := []) ⟨hx, hb, hml, hown, hts⟩ (c_X7_faultOf l D cI g pm rm rr st sg rn bg la ws pr ry hm xu xl sn kp kr kb kl kw kh hc pg rd rw ro be he kro khe s.heap.size (by first | assumption | omega)) (cwV 0 hts gX7_player_X7_faultOf rfl rfl rfl (by decide +kernel) ⟨Nat.le_of_ble_eq_true rfl, Nat.le_of_ble_eq_true rfl⟩) (vz_pvW (va_recv hK hP (ci := 7) (q0 := 0) rfl rfl) hZ hPc hDc) rfl rfl hl.1 rfl (lv_room (Nat.le_of_ble_eq_true rfl)) dX7_player_1 ⟨Nat.zero_le _, Nat.zero_le _⟩) hS (fun q _ h => hFc q h) hFc (fun r_1 u_1 t H_1 locs_1 ht hvm hw hB hz1 hk1 hS9 => ?_)
  rw [ht] at hB
  replace hP : va_P D vwCl (zM cI g pm ((fo pg pm 0 rd 0 rr 0).2.2.1) ((fo pg pm 0 rd 0 rr 0).2.2.2.1) ((fo pg pm 0 rd 0 rr 0).2.2.2.2) sg rn bg la ws pr ry hm xu xl sn kp kr kb kl kw kh hc pg ((fo pg pm 0 rd 0 rr 0).2.1) rw ro be he kro khe) H_1 := hB
  replace hD : va_D A (zM cI g pm ((fo pg pm 0 rd 0 rr 0).2.2.1) ((fo pg pm 0 rd 0 rr 0).2.2.2.1) ((fo pg pm 0 rd 0 rr 0).2.2.2.2) sg rn bg la ws pr ry hm xu xl sn kp kr kb kl kw kh hc pg ((fo pg pm 0 rd 0 rr 0).2.1) rw ro be he kro khe) := vz_same hD rfl
  replace hS := hS9
  clear hS9 hPc hDc hFc hB hk1 hz1
  obtain ⟨w_1_rd, ew_1_rd⟩ : ∃ z, z = (fo pg pm 0 rd 0 rr 0).2.1 := ⟨_, rfl⟩
  rw [← ew_1_rd] at hP hD
  obtain ⟨w_1_rm, ew_1_rm⟩ : ∃ z, z = (fo pg pm 0 rd 0 rr 0).2.2.1 := ⟨_, rfl⟩
  rw [← ew_1_rm] at hP hD
  obtain ⟨w_1_rr, ew_1_rr⟩ : ∃ z, z = (fo pg pm 0 rd 0 rr 0).2.2.2.1 := ⟨_, rfl⟩
  rw [← ew_1_rr] at hP hD
  obtain ⟨w_1_st, ew_1_st⟩ : ∃ z, z = (fo pg pm 0 rd 0 rr 0).2.2.2.2 := ⟨_, rfl⟩
  rw [← ew_1_st] at hP hD
  have hw_1 := hw
  have hm6 : w_1_rm ≤ 6 := by rw [ew_1_rm] ; exact fo_rm6 pg pm 0 rd 0 rr 0 (by omega) (by omega) (fun _ => by omega)
  refine lv_aload_n hx hb dX7_player_4 rfl (lv_at hl 0 rfl) ?_
  refine va_get (D := D) (ci := 7) (v := .int (nI pm)) (C := RX7) (T := TX7) (N := 30) hx hb hts iX7 hown hK hP 0 rfl rfl 1 (by decide) k47 (fun _ h9 => h9) rfl dX7_player_5 ?_
  refine lv_icmp_lt (tgt := 19) hx hb dX7_player_8 (by decide) (fun c_8 => ?_) (fun c_8 => ?_)
  · skip
    refine lv_bipush (v := (-103)) hx hb dX7_player_19 (by decide) ?_
    have en_pm : pl_n (mp_ok pm (fo pg pm 0 rd 0 rr 0)) (0) pm = pm := by try subst hw_1 ; try subst ew_1_st ; try subst ew_1_rr ; try subst ew_1_rm ; try subst ew_1_rd ; have hz : mp_ok pm (fo pg pm 0 rd 0 rr 0) = false := (by simp only [mp_ok, c_8, ↓reduceIte]) ; simp only [hz, pl_n, ↓reduceIte, Bool.false_eq_true]
    have en_sg : pl_n (mp_ok pm (fo pg pm 0 rd 0 rr 0)) ((fo pg pm 0 rd 0 rr 0).2.2.1) sg = sg := by try subst hw_1 ; try subst ew_1_st ; try subst ew_1_rr ; try subst ew_1_rm ; try subst ew_1_rd ; have hz : mp_ok pm (fo pg pm 0 rd 0 rr 0) = false := (by simp only [mp_ok, c_8, ↓reduceIte]) ; simp only [hz, pl_n, ↓reduceIte, Bool.false_eq_true]
    have en_rn : pl_n (mp_ok pm (fo pg pm 0 rd 0 rr 0)) ((fo pg pm 0 rd 0 rr 0).2.2.2.1) rn = rn := by try subst hw_1 ; try subst ew_1_st ; try subst ew_1_rr ; try subst ew_1_rm ; try subst ew_1_rd ; have hz : mp_ok pm (fo pg pm 0 rd 0 rr 0) = false := (by simp only [mp_ok, c_8, ↓reduceIte]) ; simp only [hz, pl_n, ↓reduceIte, Bool.false_eq_true]
    have en_bg : pl_n (mp_ok pm (fo pg pm 0 rd 0 rr 0)) (bk_all (fo pg pm 0 rd 0 rr 0).2.2.1) bg = bg := by try subst hw_1 ; try subst ew_1_st ; try subst ew_1_rr ; try subst ew_1_rm ; try subst ew_1_rd ; have hz : mp_ok pm (fo pg pm 0 rd 0 rr 0) = false := (by simp only [mp_ok, c_8, ↓reduceIte]) ; simp only [hz, pl_n, ↓reduceIte, Bool.false_eq_true]
    have en_la : pl_n (mp_ok pm (fo pg pm 0 rd 0 rr 0)) ((-1)) la = la := by try subst hw_1 ; try subst ew_1_st ; try subst ew_1_rr ; try subst ew_1_rm ; try subst ew_1_rd ; have hz : mp_ok pm (fo pg pm 0 rd 0 rr 0) = false := (by simp only [mp_ok, c_8, ↓reduceIte]) ; simp only [hz, pl_n, ↓reduceIte, Bool.false_eq_true]
    have en_ws : pl_n (mp_ok pm (fo pg pm 0 rd 0 rr 0)) (false) ws = ws := by try subst hw_1 ; try subst ew_1_st ; try subst ew_1_rr ; try subst ew_1_rm ; try subst ew_1_rd ; have hz : mp_ok pm (fo pg pm 0 rd 0 rr 0) = false := (by simp only [mp_ok, c_8, ↓reduceIte]) ; simp only [hz, pl_n, ↓reduceIte, Bool.false_eq_true]
    have en_pr : pl_n (mp_ok pm (fo pg pm 0 rd 0 rr 0)) (pr + 1) pr = pr := by try subst hw_1 ; try subst ew_1_st ; try subst ew_1_rr ; try subst ew_1_rm ; try subst ew_1_rd ; have hz : mp_ok pm (fo pg pm 0 rd 0 rr 0) = false := (by simp only [mp_ok, c_8, ↓reduceIte]) ; simp only [hz, pl_n, ↓reduceIte, Bool.false_eq_true]
    have en_hm : pl_n (mp_ok pm (fo pg pm 0 rd 0 rr 0)) (0) hm = hm := by try subst hw_1 ; try subst ew_1_st ; try subst ew_1_rr ; try subst ew_1_rm ; try subst ew_1_rd ; have hz : mp_ok pm (fo pg pm 0 rd 0 rr 0) = false := (by simp only [mp_ok, c_8, ↓reduceIte]) ; simp only [hz, pl_n, ↓reduceIte, Bool.false_eq_true]
    have en_rw : pl_n (mp_ok pm (fo pg pm 0 rd 0 rr 0)) (mp_rows (fo pg pm 0 rd 0 rr 0).2.1 rw (fo pg pm 0 rd 0 rr 0).2.2.1) rw = rw := by try subst hw_1 ; try subst ew_1_st ; try subst ew_1_rr ; try subst ew_1_rm ; try subst ew_1_rd ; have hz : mp_ok pm (fo pg pm 0 rd 0 rr 0) = false := (by simp only [mp_ok, c_8, ↓reduceIte]) ; simp only [hz, pl_n, ↓reduceIte, Bool.false_eq_true]
    exact W.iret hx hb hr (fun t ht hW => ⟨⟨_, (w_1_rd, w_1_rm, w_1_rr, w_1_st), rfl, (by try subst hw_1 ; try subst ew_1_st ; try subst ew_1_rr ; try subst ew_1_rm ; try subst ew_1_rd ; have hz : mp_ok pm (fo pg pm 0 rd 0 rr 0) = false := (by simp only [mp_ok, c_8, ↓reduceIte]) ; simp only [hz, pl_n, ↓reduceIte, Bool.false_eq_true]), (by show va_P D vwCl (zM cI g (pl_n (mp_ok pm (fo pg pm 0 rd 0 rr 0)) (0) pm) w_1_rm w_1_rr w_1_st (pl_n (mp_ok pm (fo pg pm 0 rd 0 rr 0)) ((fo pg pm 0 rd 0 rr 0).2.2.1) sg) (pl_n (mp_ok pm (fo pg pm 0 rd 0 rr 0)) ((fo pg pm 0 rd 0 rr 0).2.2.2.1) rn) (pl_n (mp_ok pm (fo pg pm 0 rd 0 rr 0)) (bk_all (fo pg pm 0 rd 0 rr 0).2.2.1) bg) (pl_n (mp_ok pm (fo pg pm 0 rd 0 rr 0)) ((-1)) la) (pl_n (mp_ok pm (fo pg pm 0 rd 0 rr 0)) (false) ws) (pl_n (mp_ok pm (fo pg pm 0 rd 0 rr 0)) (pr + 1) pr) ry (pl_n (mp_ok pm (fo pg pm 0 rd 0 rr 0)) (0) hm) xu xl sn kp kr kb kl kw kh hc pg w_1_rd (pl_n (mp_ok pm (fo pg pm 0 rd 0 rr 0)) (mp_rows (fo pg pm 0 rd 0 rr 0).2.1 rw (fo pg pm 0 rd 0 rr 0).2.2.1) rw) ro be he kro khe) t.heap; rw [ht, en_pm, en_sg, en_rn, en_bg, en_la, en_ws, en_pr, en_hm, en_rw]; exact hP)⟩, hS.F ht⟩) hS.2.2 dX7_player_21
  · skip
    refine lv_aload_n hx hb dX7_player_11 rfl (lv_at hl 0 rfl) ?_
    refine va_get (D := D) (ci := 7) (v := .int (nI w_1_st)) (C := RX7) (T := TX7) (N := 30) hx hb hts iX7 hown hK hP 0 rfl rfl 5 (by decide) k50 (fun _ h9 => h9) rfl dX7_player_12 ?_
    refine lv_iconst (v := 4) hx hb dX7_player_15 (by decide) ?_
    refine lv_icmp_eq (tgt := 22) hx hb dX7_player_16 (by decide) (fun c_16 => ?_) (fun c_16 => ?_)
    · skip
      refine lv_aload_n hx hb dX7_player_22 rfl (lv_at hl 0 rfl) ?_
      refine lv_aload_n hx hb dX7_player_23 rfl (lv_at hl 0 rfl) ?_
      refine va_get (D := D) (ci := 7) (v := .int (nI w_1_rm)) (C := RX7) (T := TX7) (N := 30) hx hb hts iX7 hown hK hP 0 rfl rfl 3 (by decide) k53 (fun _ h9 => h9) rfl dX7_player_24 ?_
      refine va_put (D := D) (ci := 7) (v := .int (nI w_1_rm)) (ty := .int) (C := RX7) (T := TX7) (N := 30) hx hb hts iX7 tyX7 tyX7_ok nmX7 hown hK hP hD hS 0 rfl rfl 6 (by decide) k73 (fun _ h9 => h9) rfl (by decide +kernel) rfl rfl (Nat.le_of_ble_eq_true rfl) dX7_player_27 (fun H_27 locs_27 hP9 hD9 hS9 => ?_)
      replace hP : va_P D vwCl (zM cI g pm w_1_rm w_1_rr w_1_st w_1_rm rn bg la ws pr ry hm xu xl sn kp kr kb kl kw kh hc pg w_1_rd rw ro be he kro khe) H_27 := hP9
      replace hD : va_D A (zM cI g pm w_1_rm w_1_rr w_1_st w_1_rm rn bg la ws pr ry hm xu xl sn kp kr kb kl kw kh hc pg w_1_rd rw ro be he kro khe) := hD9
      replace hS := hS9
      clear hP9 hD9 hS9
      refine lv_iconst (v := 0) hx hb dX7_player_30 (by decide) ?_
      refine lv_istore_n (lv' := [(1, .int 0), (0, .ref (g 0))]) hx hb dX7_player_31 rfl hl (by decide) rfl (fun ls hl => ?_)
      have L_32 : ∀ (d_32 : Nat) (j : Nat) (H_32 : Heap) (locs_32 : List Loc), w_1_rm - j < d_32 → (j ≤ w_1_rm) → va_P D vwCl (zM cI g pm w_1_rm w_1_rr w_1_st w_1_rm rn bg la ws pr ry hm xu xl sn kp kr kb kl kw kh hc pg w_1_rd (mp_rows w_1_rd rw j) ro be he kro khe) H_32 → va_D A (zM cI g pm w_1_rm w_1_rr w_1_st w_1_rm rn bg la ws pr ry hm xu xl sn kp kr kb kl kw kh hc pg w_1_rd (mp_rows w_1_rd rw j) ro be he kro khe) → va_S A s.heap H_32 locs_32 → ∀ (ls : Array Slot), lv_has ls 2 [(1, .int (nI j)), (0, .ref (g 0))] → W p l e ({ frames := 3, cells := 0, slots := 0, locals := 69 } : Room) s m ([.ref (g 0)] : List Value).toArray below meth c H_32 locs_32 0 0 (MQ below (va_Qi (fun r (_ : (Nat → Int32) × Nat × Int32 × Nat) => r = if (mp_ok pm (fo pg pm 0 rd 0 rr 0)) then nI (fo pg pm 0 rd 0 rr 0).2.2.1 else -103) (fun (u : (Nat → Int32) × Nat × Int32 × Nat) (t : State) => va_P D vwCl (zM cI g (pl_n (mp_ok pm (fo pg pm 0 rd 0 rr 0)) (0) pm) u.2.1 u.2.2.1 u.2.2.2 (pl_n (mp_ok pm (fo pg pm 0 rd 0 rr 0)) ((fo pg pm 0 rd 0 rr 0).2.2.1) sg) (pl_n (mp_ok pm (fo pg pm 0 rd 0 rr 0)) ((fo pg pm 0 rd 0 rr 0).2.2.2.1) rn) (pl_n (mp_ok pm (fo pg pm 0 rd 0 rr 0)) (bk_all (fo pg pm 0 rd 0 rr 0).2.2.1) bg) (pl_n (mp_ok pm (fo pg pm 0 rd 0 rr 0)) ((-1)) la) (pl_n (mp_ok pm (fo pg pm 0 rd 0 rr 0)) (false) ws) (pl_n (mp_ok pm (fo pg pm 0 rd 0 rr 0)) (pr + 1) pr) ry (pl_n (mp_ok pm (fo pg pm 0 rd 0 rr 0)) (0) hm) xu xl sn kp kr kb kl kw kh hc pg u.1 (pl_n (mp_ok pm (fo pg pm 0 rd 0 rr 0)) (mp_rows (fo pg pm 0 rd 0 rr 0).2.1 rw (fo pg pm 0 rd 0 rr 0).2.2.1) rw) ro be he kro khe) t.heap) A) ([.ref (g 0)] : List Value).toArray s 0 0 A) (F0 m 32 ls []) := by
        intro d_32
        induction d_32 with
        | zero => intro j H_32 locs_32 hd; exact absurd hd (Nat.not_lt_zero _)
        | succ d_32 ih_32 =>
          intro j H_32 locs_32 hd_32 hj hP hD hS ls hl
          refine lv_iload_n hx hb dX7_player_32 rfl (lv_at hl 0 rfl) ?_
          refine lv_aload_n hx hb dX7_player_33 rfl (lv_at hl 1 rfl) ?_
          refine va_get (D := D) (ci := 7) (v := .int (nI w_1_rm)) (C := RX7) (T := TX7) (N := 30) hx hb hts iX7 hown hK hP 0 rfl rfl 6 (by decide) k73 (fun _ h9 => h9) rfl dX7_player_34 ?_
          refine lv_icmp_ge (tgt := 104) hx hb dX7_player_37 (by decide) (fun c_37 => ?_) (fun c_37 => ?_)
          · skip
            have hje : j = w_1_rm := Nat.le_antisymm hj (vz_ge c_37 (by omega) (by omega))
            refine lv_aload_n hx hb dX7_player_104 rfl (lv_at hl 1 rfl) ?_
            refine lv_aload_n hx hb dX7_player_105 rfl (lv_at hl 1 rfl) ?_
            refine va_get (D := D) (ci := 7) (v := .int w_1_rr) (C := RX7) (T := TX7) (N := 30) hx hb hts iX7 hown hK hP 0 rfl rfl 4 (by decide) k62 (fun _ h9 => h9) rfl dX7_player_106 ?_
            refine va_put (D := D) (ci := 7) (v := .int w_1_rr) (ty := .int) (C := RX7) (T := TX7) (N := 30) hx hb hts iX7 tyX7 tyX7_ok nmX7 hown hK hP hD hS 0 rfl rfl 7 (by decide) k76 (fun _ h9 => h9) rfl (by decide +kernel) rfl rfl (Nat.le_of_ble_eq_true rfl) dX7_player_109 (fun H_109 locs_109 hP9 hD9 hS9 => ?_)
            replace hP : va_P D vwCl (zM cI g pm w_1_rm w_1_rr w_1_st w_1_rm w_1_rr bg la ws pr ry hm xu xl sn kp kr kb kl kw kh hc pg w_1_rd (mp_rows w_1_rd rw j) ro be he kro khe) H_109 := hP9
            replace hD : va_D A (zM cI g pm w_1_rm w_1_rr w_1_st w_1_rm w_1_rr bg la ws pr ry hm xu xl sn kp kr kb kl kw kh hc pg w_1_rd (mp_rows w_1_rd rw j) ro be he kro khe) := hD9
            replace hS := hS9
            clear hP9 hD9 hS9
            refine lv_aload_n hx hb dX7_player_112 rfl (lv_at hl 1 rfl) ?_
            refine lv_aload_n hx hb dX7_player_113 rfl (lv_at hl 1 rfl) ?_
            refine vp_callSi (W.runV (As := []) (rest := [.ref (g 0)]) ⟨hx, hb, hml, hown, hts⟩ (c_X7_all l D cI g pm w_1_rm w_1_rr w_1_st w_1_rm w_1_rr bg la ws pr ry hm xu xl sn kp kr kb kl kw kh hc pg w_1_rd (mp_rows w_1_rd rw j) ro be he kro khe) (cwV 0 hts gX7_player_X7_all rfl rfl rfl (by decide +kernel) ⟨Nat.le_of_ble_eq_true rfl, Nat.le_of_ble_eq_true rfl⟩) (vz_pvR (va_recv hK hP (ci := 7) (q0 := 0) rfl rfl) hZ hP) rfl rfl hl.1 rfl (lv_room (Nat.le_of_ble_eq_true rfl)) dX7_player_114 ⟨Nat.zero_le _, Nat.zero_le _⟩) (fun r_114 hr_114 => ?_)
            subst hr_114
            refine va_put (D := D) (ci := 7) (v := .int (bk_all w_1_rm)) (ty := .int) (C := RX7) (T := TX7) (N := 30) hx hb hts iX7 tyX7 tyX7_ok nmX7 hown hK hP hD hS 0 rfl rfl 8 (by decide) k82 (fun _ h9 => h9) rfl (by decide +kernel) rfl rfl (Nat.le_of_ble_eq_true rfl) dX7_player_117 (fun H_117 locs_117 hP9 hD9 hS9 => ?_)
            replace hP : va_P D vwCl (zM cI g pm w_1_rm w_1_rr w_1_st w_1_rm w_1_rr (bk_all w_1_rm) la ws pr ry hm xu xl sn kp kr kb kl kw kh hc pg w_1_rd (mp_rows w_1_rd rw j) ro be he kro khe) H_117 := hP9
            replace hD : va_D A (zM cI g pm w_1_rm w_1_rr w_1_st w_1_rm w_1_rr (bk_all w_1_rm) la ws pr ry hm xu xl sn kp kr kb kl kw kh hc pg w_1_rd (mp_rows w_1_rd rw j) ro be he kro khe) := hD9
            replace hS := hS9
            clear hP9 hD9 hS9
            refine lv_aload_n hx hb dX7_player_120 rfl (lv_at hl 1 rfl) ?_
            refine lv_iconst (v := (-1)) hx hb dX7_player_121 (by decide) ?_
            refine va_put (D := D) (ci := 7) (v := .int (-1)) (ty := .int) (C := RX7) (T := TX7) (N := 30) hx hb hts iX7 tyX7 tyX7_ok nmX7 hown hK hP hD hS 0 rfl rfl 9 (by decide) k38 (fun _ h9 => h9) rfl (by decide +kernel) rfl rfl (Nat.le_of_ble_eq_true rfl) dX7_player_122 (fun H_122 locs_122 hP9 hD9 hS9 => ?_)
            replace hP : va_P D vwCl (zM cI g pm w_1_rm w_1_rr w_1_st w_1_rm w_1_rr (bk_all w_1_rm) (-1) ws pr ry hm xu xl sn kp kr kb kl kw kh hc pg w_1_rd (mp_rows w_1_rd rw j) ro be he kro khe) H_122 := hP9
            replace hD : va_D A (zM cI g pm w_1_rm w_1_rr w_1_st w_1_rm w_1_rr (bk_all w_1_rm) (-1) ws pr ry hm xu xl sn kp kr kb kl kw kh hc pg w_1_rd (mp_rows w_1_rd rw j) ro be he kro khe) := hD9
            replace hS := hS9
            clear hP9 hD9 hS9
            refine lv_aload_n hx hb dX7_player_125 rfl (lv_at hl 1 rfl) ?_
            refine lv_iconst (v := 0) hx hb dX7_player_126 (by decide) ?_
            refine va_put (D := D) (ci := 7) (v := .int 0) (ty := .boolean) (C := RX7) (T := TX7) (N := 30) hx hb hts iX7 tyX7 tyX7_ok nmX7 hown hK hP hD hS 0 rfl rfl 10 (by decide) k85 (fun _ h9 => h9) rfl (by decide +kernel) narrow_b0 rfl (Nat.le_of_ble_eq_true rfl) dX7_player_127 (fun H_127 locs_127 hP9 hD9 hS9 => ?_)
            replace hP : va_P D vwCl (zM cI g pm w_1_rm w_1_rr w_1_st w_1_rm w_1_rr (bk_all w_1_rm) (-1) false pr ry hm xu xl sn kp kr kb kl kw kh hc pg w_1_rd (mp_rows w_1_rd rw j) ro be he kro khe) H_127 := hP9
            replace hD : va_D A (zM cI g pm w_1_rm w_1_rr w_1_st w_1_rm w_1_rr (bk_all w_1_rm) (-1) false pr ry hm xu xl sn kp kr kb kl kw kh hc pg w_1_rd (mp_rows w_1_rd rw j) ro be he kro khe) := hD9
            replace hS := hS9
            clear hP9 hD9 hS9
            refine lv_aload_n hx hb dX7_player_130 rfl (lv_at hl 1 rfl) ?_
            refine lv_iconst (v := 0) hx hb dX7_player_131 (by decide) ?_
            refine va_put (D := D) (ci := 7) (v := .int 0) (ty := .int) (C := RX7) (T := TX7) (N := 30) hx hb hts iX7 tyX7 tyX7_ok nmX7 hown hK hP hD hS 0 rfl rfl 16 (by decide) k89 (fun _ h9 => h9) rfl (by decide +kernel) rfl rfl (Nat.le_of_ble_eq_true rfl) dX7_player_132 (fun H_132 locs_132 hP9 hD9 hS9 => ?_)
            replace hP : va_P D vwCl (zM cI g pm w_1_rm w_1_rr w_1_st w_1_rm w_1_rr (bk_all w_1_rm) (-1) false pr ry 0 xu xl sn kp kr kb kl kw kh hc pg w_1_rd (mp_rows w_1_rd rw j) ro be he kro khe) H_132 := hP9
            replace hD : va_D A (zM cI g pm w_1_rm w_1_rr w_1_st w_1_rm w_1_rr (bk_all w_1_rm) (-1) false pr ry 0 xu xl sn kp kr kb kl kw kh hc pg w_1_rd (mp_rows w_1_rd rw j) ro be he kro khe) := hD9
            replace hS := hS9
            clear hP9 hD9 hS9
            refine lv_aload_n hx hb dX7_player_135 rfl (lv_at hl 1 rfl) ?_
            refine lv_dup hx hb dX7_player_136 rfl ?_
            refine va_get (D := D) (ci := 7) (v := .int (nI pr)) (C := RX7) (T := TX7) (N := 30) hx hb hts iX7 hown hK hP 0 rfl rfl 11 (by decide) k92 (fun _ h9 => h9) rfl dX7_player_137 ?_
            refine lv_iconst (v := 1) hx hb dX7_player_140 (by decide) ?_
            refine lv_iadd hx hb dX7_player_141 ?_
            refine W.eq (congrArg (fun z => F0 m 142 ls (.int z :: [.ref (g 0)])) (nI_add pr 1 : (nI pr) + 1 = nI (pr + 1))) ?_
            refine va_put (D := D) (ci := 7) (v := .int (nI (pr + 1))) (ty := .int) (C := RX7) (T := TX7) (N := 30) hx hb hts iX7 tyX7 tyX7_ok nmX7 hown hK hP hD hS 0 rfl rfl 11 (by decide) k92 (fun _ h9 => h9) rfl (by decide +kernel) rfl rfl (Nat.le_of_ble_eq_true rfl) dX7_player_142 (fun H_142 locs_142 hP9 hD9 hS9 => ?_)
            replace hP : va_P D vwCl (zM cI g pm w_1_rm w_1_rr w_1_st w_1_rm w_1_rr (bk_all w_1_rm) (-1) false (pr + 1) ry 0 xu xl sn kp kr kb kl kw kh hc pg w_1_rd (mp_rows w_1_rd rw j) ro be he kro khe) H_142 := hP9
            replace hD : va_D A (zM cI g pm w_1_rm w_1_rr w_1_st w_1_rm w_1_rr (bk_all w_1_rm) (-1) false (pr + 1) ry 0 xu xl sn kp kr kb kl kw kh hc pg w_1_rd (mp_rows w_1_rd rw j) ro be he kro khe) := hD9
            replace hS := hS9
            clear hP9 hD9 hS9
            refine lv_aload_n hx hb dX7_player_145 rfl (lv_at hl 1 rfl) ?_
            refine lv_iconst (v := 0) hx hb dX7_player_146 (by decide) ?_
            refine va_put (D := D) (ci := 7) (v := .int 0) (ty := .int) (C := RX7) (T := TX7) (N := 30) hx hb hts iX7 tyX7 tyX7_ok nmX7 hown hK hP hD hS 0 rfl rfl 1 (by decide) k47 (fun _ h9 => h9) rfl (by decide +kernel) rfl rfl (Nat.le_of_ble_eq_true rfl) dX7_player_147 (fun H_147 locs_147 hP9 hD9 hS9 => ?_)
            replace hP : va_P D vwCl (zM cI g 0 w_1_rm w_1_rr w_1_st w_1_rm w_1_rr (bk_all w_1_rm) (-1) false (pr + 1) ry 0 xu xl sn kp kr kb kl kw kh hc pg w_1_rd (mp_rows w_1_rd rw j) ro be he kro khe) H_147 := hP9
            replace hD : va_D A (zM cI g 0 w_1_rm w_1_rr w_1_st w_1_rm w_1_rr (bk_all w_1_rm) (-1) false (pr + 1) ry 0 xu xl sn kp kr kb kl kw kh hc pg w_1_rd (mp_rows w_1_rd rw j) ro be he kro khe) := hD9
            replace hS := hS9
            clear hP9 hD9 hS9
            refine lv_aload_n hx hb dX7_player_150 rfl (lv_at hl 1 rfl) ?_
            refine va_get (D := D) (ci := 7) (v := .int (nI w_1_rm)) (C := RX7) (T := TX7) (N := 30) hx hb hts iX7 hown hK hP 0 rfl rfl 6 (by decide) k73 (fun _ h9 => h9) rfl dX7_player_151 ?_
            have en_pm : pl_n (mp_ok pm (fo pg pm 0 rd 0 rr 0)) (0) pm = 0 := by try subst hw_1 ; try subst ew_1_st ; try subst ew_1_rr ; try subst ew_1_rm ; try subst ew_1_rd ; have hz : mp_ok pm (fo pg pm 0 rd 0 rr 0) = true := (by simp only [mp_ok, c_8, c_16, ↓reduceIte]) ; simp only [hz, pl_n, ↓reduceIte] ; try rw [hje]
            have en_sg : pl_n (mp_ok pm (fo pg pm 0 rd 0 rr 0)) ((fo pg pm 0 rd 0 rr 0).2.2.1) sg = w_1_rm := by try subst hw_1 ; try subst ew_1_st ; try subst ew_1_rr ; try subst ew_1_rm ; try subst ew_1_rd ; have hz : mp_ok pm (fo pg pm 0 rd 0 rr 0) = true := (by simp only [mp_ok, c_8, c_16, ↓reduceIte]) ; simp only [hz, pl_n, ↓reduceIte] ; try rw [hje]
            have en_rn : pl_n (mp_ok pm (fo pg pm 0 rd 0 rr 0)) ((fo pg pm 0 rd 0 rr 0).2.2.2.1) rn = w_1_rr := by try subst hw_1 ; try subst ew_1_st ; try subst ew_1_rr ; try subst ew_1_rm ; try subst ew_1_rd ; have hz : mp_ok pm (fo pg pm 0 rd 0 rr 0) = true := (by simp only [mp_ok, c_8, c_16, ↓reduceIte]) ; simp only [hz, pl_n, ↓reduceIte] ; try rw [hje]
            have en_bg : pl_n (mp_ok pm (fo pg pm 0 rd 0 rr 0)) (bk_all (fo pg pm 0 rd 0 rr 0).2.2.1) bg = bk_all w_1_rm := by try subst hw_1 ; try subst ew_1_st ; try subst ew_1_rr ; try subst ew_1_rm ; try subst ew_1_rd ; have hz : mp_ok pm (fo pg pm 0 rd 0 rr 0) = true := (by simp only [mp_ok, c_8, c_16, ↓reduceIte]) ; simp only [hz, pl_n, ↓reduceIte] ; try rw [hje]
            have en_la : pl_n (mp_ok pm (fo pg pm 0 rd 0 rr 0)) ((-1)) la = (-1) := by try subst hw_1 ; try subst ew_1_st ; try subst ew_1_rr ; try subst ew_1_rm ; try subst ew_1_rd ; have hz : mp_ok pm (fo pg pm 0 rd 0 rr 0) = true := (by simp only [mp_ok, c_8, c_16, ↓reduceIte]) ; simp only [hz, pl_n, ↓reduceIte] ; try rw [hje]
            have en_ws : pl_n (mp_ok pm (fo pg pm 0 rd 0 rr 0)) (false) ws = false := by try subst hw_1 ; try subst ew_1_st ; try subst ew_1_rr ; try subst ew_1_rm ; try subst ew_1_rd ; have hz : mp_ok pm (fo pg pm 0 rd 0 rr 0) = true := (by simp only [mp_ok, c_8, c_16, ↓reduceIte]) ; simp only [hz, pl_n, ↓reduceIte] ; try rw [hje]
            have en_pr : pl_n (mp_ok pm (fo pg pm 0 rd 0 rr 0)) (pr + 1) pr = pr + 1 := by try subst hw_1 ; try subst ew_1_st ; try subst ew_1_rr ; try subst ew_1_rm ; try subst ew_1_rd ; have hz : mp_ok pm (fo pg pm 0 rd 0 rr 0) = true := (by simp only [mp_ok, c_8, c_16, ↓reduceIte]) ; simp only [hz, pl_n, ↓reduceIte] ; try rw [hje]
            have en_hm : pl_n (mp_ok pm (fo pg pm 0 rd 0 rr 0)) (0) hm = 0 := by try subst hw_1 ; try subst ew_1_st ; try subst ew_1_rr ; try subst ew_1_rm ; try subst ew_1_rd ; have hz : mp_ok pm (fo pg pm 0 rd 0 rr 0) = true := (by simp only [mp_ok, c_8, c_16, ↓reduceIte]) ; simp only [hz, pl_n, ↓reduceIte] ; try rw [hje]
            have en_rw : pl_n (mp_ok pm (fo pg pm 0 rd 0 rr 0)) (mp_rows (fo pg pm 0 rd 0 rr 0).2.1 rw (fo pg pm 0 rd 0 rr 0).2.2.1) rw = mp_rows w_1_rd rw j := by try subst hw_1 ; try subst ew_1_st ; try subst ew_1_rr ; try subst ew_1_rm ; try subst ew_1_rd ; have hz : mp_ok pm (fo pg pm 0 rd 0 rr 0) = true := (by simp only [mp_ok, c_8, c_16, ↓reduceIte]) ; simp only [hz, pl_n, ↓reduceIte] ; try rw [hje]
            exact W.iret hx hb hr (fun t ht hW => ⟨⟨_, (w_1_rd, w_1_rm, w_1_rr, w_1_st), rfl, (by try subst hw_1 ; try subst ew_1_st ; try subst ew_1_rr ; try subst ew_1_rm ; try subst ew_1_rd ; have hz : mp_ok pm (fo pg pm 0 rd 0 rr 0) = true := (by simp only [mp_ok, c_8, c_16, ↓reduceIte]) ; simp only [hz, pl_n, ↓reduceIte] ; try rw [hje]), (by show va_P D vwCl (zM cI g (pl_n (mp_ok pm (fo pg pm 0 rd 0 rr 0)) (0) pm) w_1_rm w_1_rr w_1_st (pl_n (mp_ok pm (fo pg pm 0 rd 0 rr 0)) ((fo pg pm 0 rd 0 rr 0).2.2.1) sg) (pl_n (mp_ok pm (fo pg pm 0 rd 0 rr 0)) ((fo pg pm 0 rd 0 rr 0).2.2.2.1) rn) (pl_n (mp_ok pm (fo pg pm 0 rd 0 rr 0)) (bk_all (fo pg pm 0 rd 0 rr 0).2.2.1) bg) (pl_n (mp_ok pm (fo pg pm 0 rd 0 rr 0)) ((-1)) la) (pl_n (mp_ok pm (fo pg pm 0 rd 0 rr 0)) (false) ws) (pl_n (mp_ok pm (fo pg pm 0 rd 0 rr 0)) (pr + 1) pr) ry (pl_n (mp_ok pm (fo pg pm 0 rd 0 rr 0)) (0) hm) xu xl sn kp kr kb kl kw kh hc pg w_1_rd (pl_n (mp_ok pm (fo pg pm 0 rd 0 rr 0)) (mp_rows (fo pg pm 0 rd 0 rr 0).2.1 rw (fo pg pm 0 rd 0 rr 0).2.2.1) rw) ro be he kro khe) t.heap; rw [ht, en_pm, en_sg, en_rn, en_bg, en_la, en_ws, en_pr, en_hm, en_rw]; exact hP)⟩, hS.F ht⟩) hS.2.2 dX7_player_154
          · skip
            have hlt : j < w_1_rm := vz_lt c_37 (by omega)
            refine lv_aload_n hx hb dX7_player_40 rfl (lv_at hl 1 rfl) ?_
            refine va_get (D := D) (ci := 7) (v := .ref (g 3)) (C := RX7) (T := TX7) (N := 30) hx hb hts iX7 hown hK hP 0 rfl rfl 12 (by decide) k16 (fun _ h9 => h9) rfl dX7_player_41 ?_
            refine lv_iconst (v := 4) hx hb dX7_player_44 (by decide) ?_
            refine lv_iload_n hx hb dX7_player_45 rfl (lv_at hl 0 rfl) ?_
            refine lv_imul hx hb dX7_player_46 ?_
            refine W.eq (congrArg (fun z => F0 m 47 ls (.int z :: [.ref (g 3)])) (pk_mul 4 j : 4 * (nI j) = nI (4 * j))) ?_
            refine lv_aload_n hx hb dX7_player_47 rfl (lv_at hl 1 rfl) ?_
            refine va_get (D := D) (ci := 7) (v := .ref (g 2)) (C := RX7) (T := TX7) (N := 30) hx hb hts iX7 hown hK hP 0 rfl rfl 2 (by decide) k13 (fun _ h9 => h9) rfl dX7_player_48 ?_
            refine lv_iconst (v := 2) hx hb dX7_player_51 (by decide) ?_
            refine lv_iload_n hx hb dX7_player_52 rfl (lv_at hl 0 rfl) ?_
            refine lv_imul hx hb dX7_player_53 ?_
            refine W.eq (congrArg (fun z => F0 m 54 ls (.int z :: [.ref (g 2), .int (nI (4 * j)), .ref (g 3)])) (pk_mul 2 j : 2 * (nI j) = nI (2 * j))) ?_
            refine va_iald hx hb hK hP 2 0 rfl rfl (i := nI (2 * j)) (vp_in_nI (by first | assumption | omega) (by first | assumption | omega)) dX7_player_54 ?_
            refine W.eq (congrArg (fun z => F0 m 55 ls (.int z :: [.int (nI (4 * j)), .ref (g 3)])) (vz_ix w_1_rd (by first | assumption | omega))) ?_
            refine va_iast hx hb hK hP hD hS 3 0 rfl rfl (i := nI (4 * j)) (x := w_1_rd (2 * j)) (vp_in_nI (by first | assumption | omega) (by first | assumption | omega)) dX7_player_55 (fun H_55 locs_55 hP9 hD9 hS9 => ?_)
            rw [show (nI (4 * j) : Int32).toNatClampNeg = 4 * j from nI_clamp (by first | assumption | omega)] at hP9 hD9
            replace hP : va_P D vwCl (zM cI g pm w_1_rm w_1_rr w_1_st w_1_rm rn bg la ws pr ry hm xu xl sn kp kr kb kl kw kh hc pg w_1_rd (upd (mp_rows w_1_rd rw j) (4 * j) (w_1_rd (2 * j))) ro be he kro khe) H_55 := hP9
            replace hD : va_D A (zM cI g pm w_1_rm w_1_rr w_1_st w_1_rm rn bg la ws pr ry hm xu xl sn kp kr kb kl kw kh hc pg w_1_rd (upd (mp_rows w_1_rd rw j) (4 * j) (w_1_rd (2 * j))) ro be he kro khe) := hD9
            replace hS := hS9
            clear hP9 hD9 hS9
            refine lv_aload_n hx hb dX7_player_56 rfl (lv_at hl 1 rfl) ?_
            refine va_get (D := D) (ci := 7) (v := .ref (g 3)) (C := RX7) (T := TX7) (N := 30) hx hb hts iX7 hown hK hP 0 rfl rfl 12 (by decide) k16 (fun _ h9 => h9) rfl dX7_player_57 ?_
            refine lv_iconst (v := 4) hx hb dX7_player_60 (by decide) ?_
            refine lv_iload_n hx hb dX7_player_61 rfl (lv_at hl 0 rfl) ?_
            refine lv_imul hx hb dX7_player_62 ?_
            refine W.eq (congrArg (fun z => F0 m 63 ls (.int z :: [.ref (g 3)])) (pk_mul 4 j : 4 * (nI j) = nI (4 * j))) ?_
            refine lv_iconst (v := 1) hx hb dX7_player_63 (by decide) ?_
            refine lv_iadd hx hb dX7_player_64 ?_
            refine W.eq (congrArg (fun z => F0 m 65 ls (.int z :: [.ref (g 3)])) (nI_add (4 * j) 1 : (nI (4 * j)) + 1 = nI ((4 * j) + 1))) ?_
            refine lv_aload_n hx hb dX7_player_65 rfl (lv_at hl 1 rfl) ?_
            refine va_get (D := D) (ci := 7) (v := .ref (g 2)) (C := RX7) (T := TX7) (N := 30) hx hb hts iX7 hown hK hP 0 rfl rfl 2 (by decide) k13 (fun _ h9 => h9) rfl dX7_player_66 ?_
            refine lv_iconst (v := 2) hx hb dX7_player_69 (by decide) ?_
            refine lv_iload_n hx hb dX7_player_70 rfl (lv_at hl 0 rfl) ?_
            refine lv_imul hx hb dX7_player_71 ?_
            refine W.eq (congrArg (fun z => F0 m 72 ls (.int z :: [.ref (g 2), .int (nI ((4 * j) + 1)), .ref (g 3)])) (pk_mul 2 j : 2 * (nI j) = nI (2 * j))) ?_
            refine lv_iconst (v := 1) hx hb dX7_player_72 (by decide) ?_
            refine lv_iadd hx hb dX7_player_73 ?_
            refine W.eq (congrArg (fun z => F0 m 74 ls (.int z :: [.ref (g 2), .int (nI ((4 * j) + 1)), .ref (g 3)])) (nI_add (2 * j) 1 : (nI (2 * j)) + 1 = nI ((2 * j) + 1))) ?_
            refine va_iald hx hb hK hP 2 0 rfl rfl (i := nI ((2 * j) + 1)) (vp_in_nI (by first | assumption | omega) (by first | assumption | omega)) dX7_player_74 ?_
            refine W.eq (congrArg (fun z => F0 m 75 ls (.int z :: [.int (nI ((4 * j) + 1)), .ref (g 3)])) (vz_ix w_1_rd (by first | assumption | omega))) ?_
            refine va_iast hx hb hK hP hD hS 3 0 rfl rfl (i := nI ((4 * j) + 1)) (x := w_1_rd ((2 * j) + 1)) (vp_in_nI (by first | assumption | omega) (by first | assumption | omega)) dX7_player_75 (fun H_75 locs_75 hP9 hD9 hS9 => ?_)
            rw [show (nI ((4 * j) + 1) : Int32).toNatClampNeg = (4 * j) + 1 from nI_clamp (by first | assumption | omega)] at hP9 hD9
            replace hP : va_P D vwCl (zM cI g pm w_1_rm w_1_rr w_1_st w_1_rm rn bg la ws pr ry hm xu xl sn kp kr kb kl kw kh hc pg w_1_rd (upd (upd (mp_rows w_1_rd rw j) (4 * j) (w_1_rd (2 * j))) ((4 * j) + 1) (w_1_rd ((2 * j) + 1))) ro be he kro khe) H_75 := hP9
            replace hD : va_D A (zM cI g pm w_1_rm w_1_rr w_1_st w_1_rm rn bg la ws pr ry hm xu xl sn kp kr kb kl kw kh hc pg w_1_rd (upd (upd (mp_rows w_1_rd rw j) (4 * j) (w_1_rd (2 * j))) ((4 * j) + 1) (w_1_rd ((2 * j) + 1))) ro be he kro khe) := hD9
            replace hS := hS9
            clear hP9 hD9 hS9
            refine lv_aload_n hx hb dX7_player_76 rfl (lv_at hl 1 rfl) ?_
            refine va_get (D := D) (ci := 7) (v := .ref (g 3)) (C := RX7) (T := TX7) (N := 30) hx hb hts iX7 hown hK hP 0 rfl rfl 12 (by decide) k16 (fun _ h9 => h9) rfl dX7_player_77 ?_
            refine lv_iconst (v := 4) hx hb dX7_player_80 (by decide) ?_
            refine lv_iload_n hx hb dX7_player_81 rfl (lv_at hl 0 rfl) ?_
            refine lv_imul hx hb dX7_player_82 ?_
            refine W.eq (congrArg (fun z => F0 m 83 ls (.int z :: [.ref (g 3)])) (pk_mul 4 j : 4 * (nI j) = nI (4 * j))) ?_
            refine lv_iconst (v := 2) hx hb dX7_player_83 (by decide) ?_
            refine lv_iadd hx hb dX7_player_84 ?_
            refine W.eq (congrArg (fun z => F0 m 85 ls (.int z :: [.ref (g 3)])) (nI_add (4 * j) 2 : (nI (4 * j)) + 2 = nI ((4 * j) + 2))) ?_
            refine lv_iconst (v := 0) hx hb dX7_player_85 (by decide) ?_
            refine va_iast hx hb hK hP hD hS 3 0 rfl rfl (i := nI ((4 * j) + 2)) (x := 0) (vp_in_nI (by first | assumption | omega) (by first | assumption | omega)) dX7_player_86 (fun H_86 locs_86 hP9 hD9 hS9 => ?_)
            rw [show (nI ((4 * j) + 2) : Int32).toNatClampNeg = (4 * j) + 2 from nI_clamp (by first | assumption | omega)] at hP9 hD9
            replace hP : va_P D vwCl (zM cI g pm w_1_rm w_1_rr w_1_st w_1_rm rn bg la ws pr ry hm xu xl sn kp kr kb kl kw kh hc pg w_1_rd (upd (upd (upd (mp_rows w_1_rd rw j) (4 * j) (w_1_rd (2 * j))) ((4 * j) + 1) (w_1_rd ((2 * j) + 1))) ((4 * j) + 2) 0) ro be he kro khe) H_86 := hP9
            replace hD : va_D A (zM cI g pm w_1_rm w_1_rr w_1_st w_1_rm rn bg la ws pr ry hm xu xl sn kp kr kb kl kw kh hc pg w_1_rd (upd (upd (upd (mp_rows w_1_rd rw j) (4 * j) (w_1_rd (2 * j))) ((4 * j) + 1) (w_1_rd ((2 * j) + 1))) ((4 * j) + 2) 0) ro be he kro khe) := hD9
            replace hS := hS9
            clear hP9 hD9 hS9
            refine lv_aload_n hx hb dX7_player_87 rfl (lv_at hl 1 rfl) ?_
            refine va_get (D := D) (ci := 7) (v := .ref (g 3)) (C := RX7) (T := TX7) (N := 30) hx hb hts iX7 hown hK hP 0 rfl rfl 12 (by decide) k16 (fun _ h9 => h9) rfl dX7_player_88 ?_
            refine lv_iconst (v := 4) hx hb dX7_player_91 (by decide) ?_
            refine lv_iload_n hx hb dX7_player_92 rfl (lv_at hl 0 rfl) ?_
            refine lv_imul hx hb dX7_player_93 ?_
            refine W.eq (congrArg (fun z => F0 m 94 ls (.int z :: [.ref (g 3)])) (pk_mul 4 j : 4 * (nI j) = nI (4 * j))) ?_
            refine lv_iconst (v := 3) hx hb dX7_player_94 (by decide) ?_
            refine lv_iadd hx hb dX7_player_95 ?_
            refine W.eq (congrArg (fun z => F0 m 96 ls (.int z :: [.ref (g 3)])) (nI_add (4 * j) 3 : (nI (4 * j)) + 3 = nI ((4 * j) + 3))) ?_
            refine lv_iconst (v := 0) hx hb dX7_player_96 (by decide) ?_
            refine va_iast hx hb hK hP hD hS 3 0 rfl rfl (i := nI ((4 * j) + 3)) (x := 0) (vp_in_nI (by first | assumption | omega) (by first | assumption | omega)) dX7_player_97 (fun H_97 locs_97 hP9 hD9 hS9 => ?_)
            rw [show (nI ((4 * j) + 3) : Int32).toNatClampNeg = (4 * j) + 3 from nI_clamp (by first | assumption | omega)] at hP9 hD9
            replace hP : va_P D vwCl (zM cI g pm w_1_rm w_1_rr w_1_st w_1_rm rn bg la ws pr ry hm xu xl sn kp kr kb kl kw kh hc pg w_1_rd (upd (upd (upd (upd (mp_rows w_1_rd rw j) (4 * j) (w_1_rd (2 * j))) ((4 * j) + 1) (w_1_rd ((2 * j) + 1))) ((4 * j) + 2) 0) ((4 * j) + 3) 0) ro be he kro khe) H_97 := hP9
            replace hD : va_D A (zM cI g pm w_1_rm w_1_rr w_1_st w_1_rm rn bg la ws pr ry hm xu xl sn kp kr kb kl kw kh hc pg w_1_rd (upd (upd (upd (upd (mp_rows w_1_rd rw j) (4 * j) (w_1_rd (2 * j))) ((4 * j) + 1) (w_1_rd ((2 * j) + 1))) ((4 * j) + 2) 0) ((4 * j) + 3) 0) ro be he kro khe) := hD9
            replace hS := hS9
            clear hP9 hD9 hS9
            refine lv_iinc (v := nI (j + 1)) (lv' := [(1, .int (nI (j + 1))), (0, .ref (g 0))]) hx hb dX7_player_98 hl (k := 0) rfl (vz_inc _) (by decide) rfl (fun ls hl => ?_)
            refine lv_goto (tgt := 32) hx hb dX7_player_101 (by decide) ?_
            have ew_rw : mp_rows w_1_rd rw (j + 1) = upd (upd (upd (upd (mp_rows w_1_rd rw j) (4 * j) (w_1_rd (2 * j))) ((4 * j) + 1) (w_1_rd ((2 * j) + 1))) ((4 * j) + 2) 0) ((4 * j) + 3) 0 := by rfl
            replace hP : va_P D vwCl (zM cI g pm w_1_rm w_1_rr w_1_st w_1_rm rn bg la ws pr ry hm xu xl sn kp kr kb kl kw kh hc pg w_1_rd (mp_rows w_1_rd rw (j + 1)) ro be he kro khe) H_97 := by rw [ew_rw]; exact hP
            replace hD : va_D A (zM cI g pm w_1_rm w_1_rr w_1_st w_1_rm rn bg la ws pr ry hm xu xl sn kp kr kb kl kw kh hc pg w_1_rd (mp_rows w_1_rd rw (j + 1)) ro be he kro khe) := vz_same hD rfl
            exact ih_32 (j + 1) _ _ (by omega) (by omega) hP hD hS ls (lv_sub hl [0, 1] rfl)
      have ew_rw : mp_rows w_1_rd rw 0 = rw := by rfl
      replace hP : va_P D vwCl (zM cI g pm w_1_rm w_1_rr w_1_st w_1_rm rn bg la ws pr ry hm xu xl sn kp kr kb kl kw kh hc pg w_1_rd (mp_rows w_1_rd rw 0) ro be he kro khe) H_27 := by rw [ew_rw]; exact hP
      replace hD : va_D A (zM cI g pm w_1_rm w_1_rr w_1_st w_1_rm rn bg la ws pr ry hm xu xl sn kp kr kb kl kw kh hc pg w_1_rd (mp_rows w_1_rd rw 0) ro be he kro khe) := vz_same hD rfl
      exact L_32 _ 0 _ _ (Nat.lt_succ_self _) (Nat.zero_le _) hP hD hS ls (lv_sub hl [0, 1] rfl)
    · skip
      refine lv_bipush (v := (-103)) hx hb dX7_player_19 (by decide) ?_
      have en_pm : pl_n (mp_ok pm (fo pg pm 0 rd 0 rr 0)) (0) pm = pm := by try subst hw_1 ; try subst ew_1_st ; try subst ew_1_rr ; try subst ew_1_rm ; try subst ew_1_rd ; have hz : mp_ok pm (fo pg pm 0 rd 0 rr 0) = false := (by simp only [mp_ok, c_8, c_16, ↓reduceIte]) ; simp only [hz, pl_n, ↓reduceIte, Bool.false_eq_true]
      have en_sg : pl_n (mp_ok pm (fo pg pm 0 rd 0 rr 0)) ((fo pg pm 0 rd 0 rr 0).2.2.1) sg = sg := by try subst hw_1 ; try subst ew_1_st ; try subst ew_1_rr ; try subst ew_1_rm ; try subst ew_1_rd ; have hz : mp_ok pm (fo pg pm 0 rd 0 rr 0) = false := (by simp only [mp_ok, c_8, c_16, ↓reduceIte]) ; simp only [hz, pl_n, ↓reduceIte, Bool.false_eq_true]
      have en_rn : pl_n (mp_ok pm (fo pg pm 0 rd 0 rr 0)) ((fo pg pm 0 rd 0 rr 0).2.2.2.1) rn = rn := by try subst hw_1 ; try subst ew_1_st ; try subst ew_1_rr ; try subst ew_1_rm ; try subst ew_1_rd ; have hz : mp_ok pm (fo pg pm 0 rd 0 rr 0) = false := (by simp only [mp_ok, c_8, c_16, ↓reduceIte]) ; simp only [hz, pl_n, ↓reduceIte, Bool.false_eq_true]
      have en_bg : pl_n (mp_ok pm (fo pg pm 0 rd 0 rr 0)) (bk_all (fo pg pm 0 rd 0 rr 0).2.2.1) bg = bg := by try subst hw_1 ; try subst ew_1_st ; try subst ew_1_rr ; try subst ew_1_rm ; try subst ew_1_rd ; have hz : mp_ok pm (fo pg pm 0 rd 0 rr 0) = false := (by simp only [mp_ok, c_8, c_16, ↓reduceIte]) ; simp only [hz, pl_n, ↓reduceIte, Bool.false_eq_true]
      have en_la : pl_n (mp_ok pm (fo pg pm 0 rd 0 rr 0)) ((-1)) la = la := by try subst hw_1 ; try subst ew_1_st ; try subst ew_1_rr ; try subst ew_1_rm ; try subst ew_1_rd ; have hz : mp_ok pm (fo pg pm 0 rd 0 rr 0) = false := (by simp only [mp_ok, c_8, c_16, ↓reduceIte]) ; simp only [hz, pl_n, ↓reduceIte, Bool.false_eq_true]
      have en_ws : pl_n (mp_ok pm (fo pg pm 0 rd 0 rr 0)) (false) ws = ws := by try subst hw_1 ; try subst ew_1_st ; try subst ew_1_rr ; try subst ew_1_rm ; try subst ew_1_rd ; have hz : mp_ok pm (fo pg pm 0 rd 0 rr 0) = false := (by simp only [mp_ok, c_8, c_16, ↓reduceIte]) ; simp only [hz, pl_n, ↓reduceIte, Bool.false_eq_true]
      have en_pr : pl_n (mp_ok pm (fo pg pm 0 rd 0 rr 0)) (pr + 1) pr = pr := by try subst hw_1 ; try subst ew_1_st ; try subst ew_1_rr ; try subst ew_1_rm ; try subst ew_1_rd ; have hz : mp_ok pm (fo pg pm 0 rd 0 rr 0) = false := (by simp only [mp_ok, c_8, c_16, ↓reduceIte]) ; simp only [hz, pl_n, ↓reduceIte, Bool.false_eq_true]
      have en_hm : pl_n (mp_ok pm (fo pg pm 0 rd 0 rr 0)) (0) hm = hm := by try subst hw_1 ; try subst ew_1_st ; try subst ew_1_rr ; try subst ew_1_rm ; try subst ew_1_rd ; have hz : mp_ok pm (fo pg pm 0 rd 0 rr 0) = false := (by simp only [mp_ok, c_8, c_16, ↓reduceIte]) ; simp only [hz, pl_n, ↓reduceIte, Bool.false_eq_true]
      have en_rw : pl_n (mp_ok pm (fo pg pm 0 rd 0 rr 0)) (mp_rows (fo pg pm 0 rd 0 rr 0).2.1 rw (fo pg pm 0 rd 0 rr 0).2.2.1) rw = rw := by try subst hw_1 ; try subst ew_1_st ; try subst ew_1_rr ; try subst ew_1_rm ; try subst ew_1_rd ; have hz : mp_ok pm (fo pg pm 0 rd 0 rr 0) = false := (by simp only [mp_ok, c_8, c_16, ↓reduceIte]) ; simp only [hz, pl_n, ↓reduceIte, Bool.false_eq_true]
      exact W.iret hx hb hr (fun t ht hW => ⟨⟨_, (w_1_rd, w_1_rm, w_1_rr, w_1_st), rfl, (by try subst hw_1 ; try subst ew_1_st ; try subst ew_1_rr ; try subst ew_1_rm ; try subst ew_1_rd ; have hz : mp_ok pm (fo pg pm 0 rd 0 rr 0) = false := (by simp only [mp_ok, c_8, c_16, ↓reduceIte]) ; simp only [hz, pl_n, ↓reduceIte, Bool.false_eq_true]), (by show va_P D vwCl (zM cI g (pl_n (mp_ok pm (fo pg pm 0 rd 0 rr 0)) (0) pm) w_1_rm w_1_rr w_1_st (pl_n (mp_ok pm (fo pg pm 0 rd 0 rr 0)) ((fo pg pm 0 rd 0 rr 0).2.2.1) sg) (pl_n (mp_ok pm (fo pg pm 0 rd 0 rr 0)) ((fo pg pm 0 rd 0 rr 0).2.2.2.1) rn) (pl_n (mp_ok pm (fo pg pm 0 rd 0 rr 0)) (bk_all (fo pg pm 0 rd 0 rr 0).2.2.1) bg) (pl_n (mp_ok pm (fo pg pm 0 rd 0 rr 0)) ((-1)) la) (pl_n (mp_ok pm (fo pg pm 0 rd 0 rr 0)) (false) ws) (pl_n (mp_ok pm (fo pg pm 0 rd 0 rr 0)) (pr + 1) pr) ry (pl_n (mp_ok pm (fo pg pm 0 rd 0 rr 0)) (0) hm) xu xl sn kp kr kb kl kw kh hc pg w_1_rd (pl_n (mp_ok pm (fo pg pm 0 rd 0 rr 0)) (mp_rows (fo pg pm 0 rd 0 rr 0).2.1 rw (fo pg pm 0 rd 0 rr 0).2.2.1) rw) ro be he kro khe) t.heap; rw [ht, en_pm, en_sg, en_rn, en_bg, en_la, en_ws, en_pr, en_hm, en_rw]; exact hP)⟩, hS.F ht⟩) hS.2.2 dX7_player_21

/-! sets of songs as small numbers -/
theorem zx_and (a b : Nat) : nI a &&& nI b = nI (a &&& b) := by
  apply Int32.toBitVec_inj.1
  show BitVec.ofNat 32 a &&& BitVec.ofNat 32 b = BitVec.ofNat 32 (a &&& b)
  apply BitVec.eq_of_getLsbD_eq
  intro i hi
  simp [hi]
theorem zx_or (a b : Nat) : nI a ||| nI b = nI (a ||| b) := by
  apply Int32.toBitVec_inj.1
  show BitVec.ofNat 32 a ||| BitVec.ofNat 32 b = BitVec.ofNat 32 (a ||| b)
  apply BitVec.eq_of_getLsbD_eq
  intro i hi
  simp [hi]
theorem zm_holds : ∀ b : Nat, b < 64 → ∀ s : Nat, s < 6 → sa_holds (nI b) (nI s) = b.testBit s := by decide +kernel
theorem zm_bit : ∀ b : Nat, b < 64 → ∀ s : Nat, s < 6 → (nI b >>> (nI s &&& 31)) &&& 1 = if b.testBit s then 1 else 0 := by decide +kernel
theorem zm_bc : ∀ b : Nat, b < 64 → j_bc (nI b) = mo_ones (nI b) 6 := by decide +kernel
theorem zm_one : ∀ s : Nat, s < 6 → (1 : Int32) <<< (nI s &&& 31) = nI (2 ^ s) := by decide +kernel
theorem zm_all : ∀ n : Nat, n ≤ 6 → bk_all n = nI (2 ^ n - 1) := bk_all_6
def zbag (n b s : Nat) : Nat := if b &&& (63 ^^^ 2 ^ s) = 0 then 2 ^ n - 1 else b &&& (63 ^^^ 2 ^ s)
theorem zm_bag0 : ∀ n : Nat, n < 7 → ∀ b : Nat, b < 64 → ∀ s : Nat, s < 6 → bk_bag n (nI b) (nI s) = nI (zbag n b s) := by decide +kernel
theorem zm_bag1 : ∀ n : Nat, n < 7 → ∀ b : Nat, b < 2 ^ n → ∀ s : Nat, s < n → 0 < zbag n b s ∧ zbag n b s < 2 ^ n := by decide +kernel
theorem zm_p6 {n : Nat} (h : n ≤ 6) : 2 ^ n ≤ 64 := Nat.le_trans (Nat.pow_le_pow_right (by omega) h) (by decide)
/-- the mask of the songs below j that P names -/
def zfl (P : Nat → Bool) : Nat → Nat
  | 0 => 0
  | j + 1 => zfl P j + (if P j then 2 ^ j else 0)
theorem zfl_lt (P : Nat → Bool) : ∀ j : Nat, zfl P j < 2 ^ j
  | 0 => Nat.one_pos
  | j + 1 => by
    have h := zfl_lt P j
    rw [Nat.pow_succ]
    simp only [zfl]
    split <;> omega
theorem zm_or : ∀ j : Nat, j < 6 → ∀ a : Nat, a < 2 ^ j → nI a ||| nI (2 ^ j) = nI (a + 2 ^ j) := by decide +kernel
theorem zm_pand : ∀ j : Nat, j < 6 → ∀ a : Nat, a < 2 ^ j → ∀ p : Nat, p < 64 → (p &&& a) ||| (p &&& 2 ^ j) = p &&& (a + 2 ^ j) := by decide +kernel
theorem zfl_bit (P : Nat → Bool) : ∀ (n s : Nat), s < n → (zfl P n).testBit s = P s
  | 0, s, h => absurd h (Nat.not_lt_zero _)
  | n + 1, s, h => by
    have hl := zfl_lt P n
    simp only [zfl]
    by_cases e : s = n
    · subst e
      cases P s
      · simp only [Bool.false_eq_true, if_false, Nat.add_zero]
        exact Nat.testBit_lt_two_pow hl
      · simp only [if_true]
        rw [Nat.add_comm, Nat.testBit_two_pow_add_eq, Nat.testBit_lt_two_pow hl]; rfl
    · have hs : s < n := by omega
      rw [← zfl_bit P n s hs]
      cases P n
      · simp
      · simp only [if_true]
        rw [Nat.add_comm, Nat.testBit_two_pow_add_gt hs]
/-- what the class holds of a player beside what the reference holds -/
def zPl (i n : Nat) (ks gs wt mi pl sk rw : Nat → Int32) : Prop := n ≤ 6 ∧ (∀ s : Nat, s < n → (ks s = rw (4 * s) ∧ gs s = rw (4 * s + 1) ∧ wt s = mo_base rw s ∧ mi s = mo_mins rw s ∧ pl s = rw (4 * s + 2) ∧ sk s = rw (4 * s + 3)) ∧ (∃ y : Nat, y ≤ 4 ∧ rw (4 * s) = nI y) ∧ (∃ y : Nat, y ≤ 3 ∧ rw (4 * s + 1) = nI y) ∧ (∃ y : Nat, y ≤ i ∧ rw (4 * s + 2) = nI y) ∧ ∃ y : Nat, y ≤ i ∧ rw (4 * s + 3) = nI y) ∧ ∀ s : Nat, n ≤ s → s < 6 → pl s = 0 ∧ sk s = 0
section
variable {i n : Nat} {ks gs wt mi pl sk rw : Nat → Int32}
theorem zPl.n6 (X : zPl i n ks gs wt mi pl sk rw) : n ≤ 6 := X.1
theorem zPl.k (X : zPl i n ks gs wt mi pl sk rw) (s : Nat) (h : s < n) : ks s = rw (4 * s) := (X.2.1 s h).1.1
theorem zPl.g (X : zPl i n ks gs wt mi pl sk rw) (s : Nat) (h : s < n) : gs s = rw (4 * s + 1) := (X.2.1 s h).1.2.1
theorem zPl.w (X : zPl i n ks gs wt mi pl sk rw) (s : Nat) (h : s < n) : wt s = mo_base rw s := (X.2.1 s h).1.2.2.1
theorem zPl.m (X : zPl i n ks gs wt mi pl sk rw) (s : Nat) (h : s < n) : mi s = mo_mins rw s := (X.2.1 s h).1.2.2.2.1
theorem zPl.p (X : zPl i n ks gs wt mi pl sk rw) (s : Nat) (h : s < n) : pl s = rw (4 * s + 2) := (X.2.1 s h).1.2.2.2.2.1
theorem zPl.q (X : zPl i n ks gs wt mi pl sk rw) (s : Nat) (h : s < n) : sk s = rw (4 * s + 3) := (X.2.1 s h).1.2.2.2.2.2
theorem zPl.kk (X : zPl i n ks gs wt mi pl sk rw) (s : Nat) (h : s < n) : ∃ y : Nat, y ≤ 4 ∧ rw (4 * s) = nI y := (X.2.1 s h).2.1
theorem zPl.gg (X : zPl i n ks gs wt mi pl sk rw) (s : Nat) (h : s < n) : ∃ y : Nat, y ≤ 3 ∧ rw (4 * s + 1) = nI y := (X.2.1 s h).2.2.1
theorem zPl.pp (X : zPl i n ks gs wt mi pl sk rw) (s : Nat) (h : s < n) : ∃ y : Nat, y ≤ i ∧ rw (4 * s + 2) = nI y := (X.2.1 s h).2.2.2.1
theorem zPl.qq (X : zPl i n ks gs wt mi pl sk rw) (s : Nat) (h : s < n) : ∃ y : Nat, y ≤ i ∧ rw (4 * s + 3) = nI y := (X.2.1 s h).2.2.2.2
theorem zPl.po (X : zPl i n ks gs wt mi pl sk rw) (s : Nat) (h : n ≤ s) (h6 : s < 6) : pl s = 0 := (X.2.2 s h h6).1
theorem zPl.qo (X : zPl i n ks gs wt mi pl sk rw) (s : Nat) (h : n ≤ s) (h6 : s < 6) : sk s = 0 := (X.2.2 s h h6).2
theorem zat {f : Nat → Int32} {s : Nat} (h : s < 6) : rw_at 6 f (nI s) = f s := rw_at_in f h (by decide)
theorem zPl.s6 (X : zPl i n ks gs wt mi pl sk rw) {s : Nat} (h : s < n) : s < 6 := Nat.lt_of_lt_of_le h X.n6
theorem zPl.wgt (X : zPl i n ks gs wt mi pl sk rw) {s : Nat} (h : s < n) : wg wt sk (nI s) = mo_w rw s := by
  unfold wg mo_w
  rw [zat (X.s6 h), zat (X.s6 h), X.w s h, X.q s h]
  generalize mo_base rw s - rw (4 * s + 3) = z
  by_cases h1 : 0 < z
  · rw [if_pos h1, if_pos (Int32.le_of_lt h1)]
  · rw [if_neg h1]
    by_cases h2 : 0 ≤ z
    · rw [if_pos h2]; exact Int32.le_antisymm h2 (Int32.not_lt.mp h1)
    · rw [if_neg h2]
/-- who may follow -/
def zP (rw : Nat → Int32) (l j : Nat) : Bool := mo_is rw l j
theorem zPl.mf (X : zPl i n ks gs wt mi pl sk rw) {l : Nat} (hl : l < n) : ∀ j : Nat, j ≤ n → bk_mf ks gs (nI l) j = nI (zfl (mo_is rw l) j)
  | 0, _ => rfl
  | j + 1, hj => by
    have hjn : j < n := by omega
    have h6 := X.s6 hjn
    have ih := zPl.mf X hl j (by omega)
    have hlt := zfl_lt (mo_is rw l) j
    simp only [bk_mf, zfl]
    rw [ih, zat h6, zat h6, zat (X.s6 hl), X.g j hjn, X.g l hl, X.k j hjn, zm_one j h6, zm_or j h6 _ hlt]
    unfold mo_is
    by_cases h1 : rw (4 * j) = 3
    · rw [if_pos h1, if_pos h1]; simp
    · rw [if_neg h1, if_neg h1]
      by_cases h2 : rw (4 * j + 1) = rw (4 * l + 1)
      · rw [if_pos h2, if_pos h2]; simp
      · rw [if_neg h2, if_neg h2]; simp
theorem zsome {p l : Nat} (hp : p < 64) : ∀ j : Nat, j ≤ 6 → mo_some rw (nI p) l j = nI (p &&& zfl (mo_is rw l) j)
  | 0, _ => by simp [mo_some, zfl]; rfl
  | j + 1, hj => by
    have hlt := zfl_lt (mo_is rw l) j
    simp only [mo_some, zfl]
    rw [zsome hp j (by omega), zm_one j (by omega)]
    by_cases h : mo_is rw l j = true
    · rw [if_pos h, if_pos h, zx_and, zx_or, zm_pand j (by omega) _ hlt p hp]
    · rw [if_neg h, if_neg h, Nat.add_zero]
      show nI _ ||| nI 0 = _
      rw [zx_or, Nat.or_zero]
theorem zPl.mf0 (X : zPl i n ks gs wt mi pl sk rw) {p l : Nat} (hp : p < 64) (hl : l < n) : nI p &&& bk_mf ks gs (nI l) n = mo_some rw (nI p) l n := by
  rw [X.mf hl n (Nat.le_refl _), zx_and, zsome hp n X.n6]
/-- the songs that may come -/
theorem zPl.may (X : zPl i n ks gs wt mi pl sk rw) {r b : Nat} (hr : r ≤ 3) (h0 : 0 < b) (hb : b < 2 ^ n) {la : Int32} (hla : la = -1 ∨ ∃ l : Nat, l < n ∧ la = nI l) :
    ∃ m : Nat, 0 < m ∧ m < 2 ^ n ∧ bk_may n ks gs (nI r) (nI b) la = nI m ∧ mo_may n rw (nI r) (nI b) la = nI m := by
  have hn := X.n6
  have h64 := zm_p6 hn
  have hp : ∃ p : Nat, 0 < p ∧ p < 2 ^ n ∧ bk_pool n (nI r) (nI b) = nI p ∧ mo_pool n (nI r) (nI b) = nI p := by
    have h1 : 1 ≤ 2 ^ n := Nat.one_le_two_pow
    have hall := zm_all n hn
    have hn0 : 0 < n := Nat.pos_of_ne_zero (fun q => by subst q; simp at hb; omega)
    have h2 : 2 ^ 1 ≤ 2 ^ n := Nat.pow_le_pow_right (by omega) hn0
    rcases (show r = 0 ∨ r = 1 ∨ r = 2 ∨ r = 3 by omega) with q | q | q | q <;> subst q
    · exact ⟨2 ^ n - 1, by omega, by omega, hall, hall⟩
    · exact ⟨2 ^ n - 1, by omega, by omega, hall, hall⟩
    · exact ⟨b, h0, hb, rfl, rfl⟩
    · exact ⟨b, h0, hb, rfl, rfl⟩
  obtain ⟨p, hp0, hpn, e1, e2⟩ := hp
  unfold bk_may mo_may
  rw [e1, e2]
  have hpar : (bk_ns (nI r) = true ∧ ¬ nI r - nI r / 2 * 2 = 0) ∨ (bk_ns (nI r) = false ∧ nI r - nI r / 2 * 2 = 0) := by
    rcases (show r = 0 ∨ r = 1 ∨ r = 2 ∨ r = 3 by omega) with q | q | q | q <;> subst q <;> decide
  rcases hpar with ⟨a1, a2⟩ | ⟨a1, a2⟩
  · rw [if_pos a1, if_neg a2]
    rcases hla with q | ⟨l, hl, q⟩
    · rw [if_pos q, if_pos q]; exact ⟨p, hp0, hpn, rfl, rfl⟩
    · have hl1 : ¬ la = -1 := by rw [q]; have := X.s6 hl; rcases (show l = 0 ∨ l = 1 ∨ l = 2 ∨ l = 3 ∨ l = 4 ∨ l = 5 by omega) with q | q | q | q | q | q <;> subst q <;> decide
      rw [if_neg hl1, if_neg hl1, q, nI_clamp (by have := X.s6 hl; omega), X.mf0 (by omega) hl, zsome (by omega) n hn]
      have hlt : p &&& zfl (mo_is rw l) n < 2 ^ n := Nat.lt_of_le_of_lt Nat.and_le_left hpn
      by_cases hz : nI (p &&& zfl (mo_is rw l) n) = 0
      · rw [if_pos hz]; exact ⟨p, hp0, hpn, rfl, rfl⟩
      · rw [if_neg hz]
        exact ⟨_, Nat.pos_of_ne_zero (fun q => hz (by rw [q]; rfl)), hlt, rfl, rfl⟩
  · rw [if_neg (by rw [a1]; decide), if_pos a2]; exact ⟨p, hp0, hpn, rfl, rfl⟩
end

/-! shares and sums as numbers -/
def zW (rw : Nat → Int32) (s : Nat) : Nat := (mo_w rw s).toNatClampNeg
def zB (rw : Nat → Int32) (s : Nat) : Nat := (mo_base rw s).toNatClampNeg
def zsum (f : Nat → Nat) (b : Nat) : Nat → Nat
  | 0 => 0
  | j + 1 => zsum f b j + (if b.testBit j then f j else 0)
def zpop (b : Nat) : Nat := zsum (fun _ => 1) b 6
def zT (rw : Nat → Int32) (n b : Nat) : Nat := if zsum (zW rw) b n = 0 then zpop b else zsum (zW rw) b n
def zX (rw : Nat → Int32) (n b s : Nat) : Nat := if b.testBit s then (if zsum (zW rw) b n = 0 then 1 else zW rw s) else 0
theorem zw_fin : ∀ B : Nat, B < 4 → ∀ y : Nat, y < 65 → (if 0 ≤ nI B - nI y then nI B - nI y else 0) = nI (B - y) := by decide +kernel
theorem zpop_1 : ∀ b : Nat, b < 64 → mo_ones (nI b) 6 = nI (zpop b) ∧ zpop b ≤ 6 ∧ (0 < b → 0 < zpop b) := by decide +kernel
theorem zpop_n : ∀ n : Nat, n < 7 → ∀ b : Nat, b < 2 ^ n → zsum (fun _ => 1) b n = zpop b := by decide +kernel
theorem zbase (rw : Nat → Int32) (s : Nat) : mo_base rw s = nI (zB rw s) ∧ 0 < zB rw s ∧ zB rw s ≤ 3 := by
  unfold zB mo_base
  split
  · decide
  · split <;> decide
theorem zsum_le {f : Nat → Nat} (b c : Nat) : ∀ j : Nat, (∀ s : Nat, s < j → f s ≤ c) → zsum f b j ≤ c * j
  | 0, _ => Nat.zero_le _
  | j + 1, h => by
    have := zsum_le (f := f) b c j (fun s hs => h s (by omega))
    have := h j (by omega)
    simp only [zsum, Nat.mul_succ]
    split <;> omega
theorem zsum_pos {f : Nat → Nat} (b : Nat) : ∀ (j s : Nat), s < j → b.testBit s = true → f s ≤ zsum f b j
  | 0, s, h, _ => absurd h (Nat.not_lt_zero _)
  | j + 1, s, h, hb => by
    simp only [zsum]
    by_cases e : s = j
    · subst e; rw [if_pos hb]; omega
    · have := zsum_pos (f := f) b j s (by omega) hb; omega
section
variable {i n : Nat} {ks gs wt mi pl sk rw : Nat → Int32}
theorem zPl.ww (X : zPl i n ks gs wt mi pl sk rw) (hi : i ≤ 64) {s : Nat} (h : s < n) : mo_w rw s = nI (zW rw s) ∧ zW rw s ≤ 3 := by
  have key : ∃ x : Nat, x ≤ 3 ∧ mo_w rw s = nI x := by
    obtain ⟨y, hy, e⟩ := X.qq s h
    obtain ⟨e2, h1, h2⟩ := zbase rw s
    refine ⟨zB rw s - y, by omega, ?_⟩
    unfold mo_w
    rw [e, e2]
    exact zw_fin _ (by omega) y (by omega)
  obtain ⟨x, hx, e⟩ := key
  unfold zW
  rw [e, nI_clamp (by omega)]
  exact ⟨rfl, hx⟩
theorem zPl.msum (X : zPl i n ks gs wt mi pl sk rw) (hi : i ≤ 64) {b : Nat} (hb : b < 64) : ∀ j : Nat, j ≤ n → mo_sum rw (nI b) false j = nI (zsum (zW rw) b j)
  | 0, _ => rfl
  | j + 1, hj => by
    have h6 := X.s6 (show j < n by omega)
    simp only [mo_sum, zsum]
    rw [X.msum hi hb j (by omega), zm_bit b hb j h6, (X.ww hi (show j < n by omega)).1]
    split
    · rw [if_neg (by decide), Int32.one_mul, nI_add]
    · rw [if_neg (by decide), Int32.zero_mul, Int32.add_zero, Nat.add_zero]
theorem zPl.mbase (X : zPl i n ks gs wt mi pl sk rw) {b : Nat} (hb : b < 64) : ∀ j : Nat, j ≤ n → mo_sum rw (nI b) true j = nI (zsum (zB rw) b j)
  | 0, _ => rfl
  | j + 1, hj => by
    have h6 := X.s6 (show j < n by omega)
    simp only [mo_sum, zsum]
    rw [X.mbase hb j (by omega), zm_bit b hb j h6, (zbase rw j).1]
    split
    · rw [if_pos trivial, Int32.one_mul, nI_add]
    · rw [if_pos trivial, Int32.zero_mul, Int32.add_zero, Nat.add_zero]
theorem zPl.cbase (X : zPl i n ks gs wt mi pl sk rw) {b : Nat} (hb : b < 64) : ∀ j : Nat, j ≤ n → bk_wt wt (nI b) j = nI (zsum (zB rw) b j)
  | 0, _ => rfl
  | j + 1, hj => by
    have h6 := X.s6 (show j < n by omega)
    simp only [bk_wt, zsum]
    rw [X.cbase hb j (by omega), zm_holds b hb j h6, zat h6, X.w j (by omega), (zbase rw j).1]
    split
    · rw [nI_add]
    · rw [Int32.add_zero, Nat.add_zero]
theorem zPl.csum (X : zPl i n ks gs wt mi pl sk rw) (hi : i ≤ 64) {b : Nat} (hb : b < 64) : ∀ j : Nat, j ≤ n → sa_wt wt sk (nI b) j = nI (zsum (zW rw) b j)
  | 0, _ => rfl
  | j + 1, hj => by
    have h6 := X.s6 (show j < n by omega)
    simp only [sa_wt, zsum]
    rw [X.csum hi hb j (by omega), zm_holds b hb j h6, X.wgt (show j < n by omega), (X.ww hi (show j < n by omega)).1]
    split
    · rw [nI_add]
    · rw [Int32.add_zero, Nat.add_zero]
theorem zPl.wle (X : zPl i n ks gs wt mi pl sk rw) (hi : i ≤ 64) (b : Nat) : zsum (zW rw) b n ≤ 18 := by
  have := zsum_le (f := zW rw) b 3 n (fun s hs => (X.ww hi hs).2)
  have := X.n6
  omega
theorem zPl.mshs (X : zPl i n ks gs wt mi pl sk rw) (hi : i ≤ 64) {b : Nat} (h0 : 0 < b) (hb : b < 2 ^ n) : mo_shs n rw (nI b) = nI (zT rw n b) ∧ 0 < zT rw n b ∧ zT rw n b ≤ 18 := by
  have h64 : b < 64 := Nat.lt_of_lt_of_le hb (zm_p6 X.n6)
  have hw := X.wle hi b
  obtain ⟨p1, p2, p3⟩ := zpop_1 b h64
  unfold mo_shs zT
  rw [X.msum hi h64 n (Nat.le_refl _)]
  by_cases h : zsum (zW rw) b n = 0
  · rw [if_pos (by rw [h]; rfl), if_pos h]
    exact ⟨p1, p3 h0, by omega⟩
  · rw [if_neg (nI_ne0 (by omega) (by omega)), if_neg h]
    exact ⟨rfl, by omega, hw⟩
theorem zPl.msh (X : zPl i n ks gs wt mi pl sk rw) (hi : i ≤ 64) {b s : Nat} (hb : b < 2 ^ n) (hs : s < n) : mo_sh n rw s (nI b) = nI (zX rw n b s) ∧ zX rw n b s ≤ 3 := by
  have h64 : b < 64 := Nat.lt_of_lt_of_le hb (zm_p6 X.n6)
  have hw := X.wle hi b
  unfold mo_sh zX
  rw [X.msum hi h64 n (Nat.le_refl _), zm_bit b h64 s (X.s6 hs)]
  by_cases h1 : b.testBit s = true
  · rw [if_pos h1, if_pos h1, if_neg (by decide)]
    by_cases h : zsum (zW rw) b n = 0
    · rw [if_pos (by rw [h]; rfl), if_pos h]; exact ⟨rfl, by omega⟩
    · rw [if_neg (nI_ne0 (by omega) (by omega)), if_neg h]; exact X.ww hi hs
  · rw [if_neg h1, if_neg h1, if_pos rfl]; exact ⟨rfl, by omega⟩
theorem zPl.csh (X : zPl i n ks gs wt mi pl sk rw) (hi : i ≤ 64) {b s : Nat} (hb : b < 2 ^ n) (hs : s < n) : sa_sh wt sk (nI s) (nI b) (sa_wt wt sk (nI b) n) = nI (zX rw n b s) := by
  have h64 : b < 64 := Nat.lt_of_lt_of_le hb (zm_p6 X.n6)
  have hw := X.wle hi b
  unfold sa_sh zX
  rw [X.csum hi h64 n (Nat.le_refl _), zm_holds b h64 s (X.s6 hs), X.wgt hs, (X.ww hi hs).1]
  by_cases h1 : b.testBit s = true
  · rw [if_pos h1, if_pos h1]
    by_cases h : zsum (zW rw) b n = 0
    · rw [if_pos (by rw [h]; rfl), if_pos h]; rfl
    · rw [if_neg (nI_ne0 (by omega) (by omega)), if_neg h]
  · rw [if_neg h1, if_neg h1]; rfl
theorem zPl.call (X : zPl i n ks gs wt mi pl sk rw) (hi : i ≤ 64) {b : Nat} (hb : b < 2 ^ n) : sa_all (nI b) (sa_wt wt sk (nI b) n) = nI (zT rw n b) := by
  have h64 : b < 64 := Nat.lt_of_lt_of_le hb (zm_p6 X.n6)
  have hw := X.wle hi b
  unfold sa_all zT
  rw [X.csum hi h64 n (Nat.le_refl _)]
  by_cases h : zsum (zW rw) b n = 0
  · rw [if_pos (by rw [h]; rfl), if_pos h, zm_bc b h64, (zpop_1 b h64).1]
  · rw [if_neg (nI_ne0 (by omega) (by omega)), if_neg h]
/-- the shares together -/
def zXs (rw : Nat → Int32) (n b : Nat) : Nat → Nat
  | 0 => 0
  | j + 1 => zXs rw n b j + zX rw n b j
theorem zXs_T {b : Nat} (hn : n ≤ 6) (hb : b < 2 ^ n) : zXs rw n b n = zT rw n b := by
  have key : ∀ j : Nat, zXs rw n b j = if zsum (zW rw) b n = 0 then zsum (fun _ => 1) b j else zsum (zW rw) b j := by
    intro j
    induction j with
    | zero => simp [zXs, zsum]
    | succ j ih =>
      simp only [zXs, zsum, zX]
      rw [ih]
      by_cases h : zsum (zW rw) b n = 0
      · simp only [if_pos h]
      · simp only [if_neg h]
  rw [key n]
  unfold zT
  by_cases h : zsum (zW rw) b n = 0
  · rw [if_pos h, if_pos h]; exact zpop_n n (by omega) b hb
  · rw [if_neg h, if_neg h]
theorem zX_le {b s : Nat} (hn : n ≤ 6) (hb : b < 2 ^ n) (hs : s < n) : zX rw n b s ≤ zT rw n b := by
  have key : ∀ j : Nat, s < j → zX rw n b s ≤ zXs rw n b j := by
    intro j
    induction j with
    | zero => intro h; omega
    | succ j ih =>
      intro h
      simp only [zXs]
      by_cases e : s = j
      · subst e; omega
      · have := ih (by omega); omega
  rw [← zXs_T hn hb]
  exact key n hs
theorem zg_fin : ∀ x : Nat, x < 4 → ∀ y : Nat, y < 19 → 0 < y → fr_cd (lN x) (lN y) = lN (Nat.gcd x y) ∧ 0 < Nat.gcd x y ∧ Nat.gcd x y ≤ 18 := by decide +kernel
end

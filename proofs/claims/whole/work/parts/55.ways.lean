/-! the ways of a party: the reference's codes, digit by digit -/
def zok (rw : Nat → Int32) (a b : Nat) : Bool := if rw (4 * a + 1) = rw (4 * b + 1) then false else true
def zokp (rw : Nat → Int32) (pv : Option Nat) (d : Nat) : Bool := match pv with
  | none => true
  | some a => zok rw a d
/-- the set of the lowest j digits -/
def zset (n : Nat) : Nat → Nat → Nat
  | 0, _ => 0
  | j + 1, c => 2 ^ (c % n) ||| zset n j (c / n)
/-- place t of j digits, the highest first -/
def zdig (n j c t : Nat) : Nat := c / n ^ (j - 1 - t) % n
theorem zw_or : ∀ s : Nat, s < 64 → ∀ d : Nat, d < 6 → zpop (2 ^ d ||| s) ≤ zpop s + 1 ∧ (s.testBit d = true → 2 ^ d ||| s = s) ∧ (s.testBit d = false → (2 ^ d ||| s) &&& (63 ^^^ 2 ^ d) = s) ∧ (2 ^ d ||| s).testBit d = true := by decide +kernel
theorem zw_an : ∀ l : Nat, l < 64 → ∀ d : Nat, d < 6 → l.testBit d = true → 2 ^ d ||| (l &&& (63 ^^^ 2 ^ d)) = l ∧ zpop (l &&& (63 ^^^ 2 ^ d)) + 1 = zpop l ∧ l &&& (63 ^^^ 2 ^ d) < 64 := by decide +kernel
theorem zset_lt {n : Nat} (hn : n ≤ 6) (h0 : 0 < n) : ∀ j c : Nat, zset n j c < 64 ∧ zpop (zset n j c) ≤ j
  | 0, _ => (by decide : (0 : Nat) < 64 ∧ zpop 0 ≤ 0)
  | j + 1, c => by
    have hc := Nat.mod_lt c h0
    obtain ⟨h1, h2⟩ := zset_lt hn h0 j (c / n)
    simp only [zset]
    have h3 := (zw_or _ h1 (c % n) (by omega)).1
    exact ⟨Nat.or_lt_two_pow (n := 6) (Nat.pow_lt_pow_right (by decide) (by omega)) h1, by omega⟩
theorem zset_top {n : Nat} (h0 : 0 < n) : ∀ (j d c : Nat), d < n → c < n ^ j → zset n (j + 1) (d * n ^ j + c) = 2 ^ d ||| zset n j c
  | 0, d, c, hd, hc => by
    have e : c = 0 := by rw [Nat.pow_zero] at hc; omega
    subst e
    simp only [zset]
    rw [Nat.pow_zero, Nat.mul_one, Nat.add_zero, Nat.mod_eq_of_lt hd]
  | j + 1, d, c, hd, hc => by
    have e1 : (d * n ^ (j + 1) + c) % n = c % n := by
      rw [Nat.pow_succ, ← Nat.mul_assoc, Nat.add_comm, Nat.add_mul_mod_self_right]
    have e2 : (d * n ^ (j + 1) + c) / n = d * n ^ j + c / n := by
      rw [Nat.pow_succ, ← Nat.mul_assoc, Nat.add_comm, Nat.add_mul_div_right _ _ h0, Nat.add_comm]
    have hc2 : c / n < n ^ j := by
      rw [Nat.div_lt_iff_lt_mul h0, ← Nat.pow_succ]; exact hc
    rw [show zset n (j + 1 + 1) (d * n ^ (j + 1) + c) = 2 ^ ((d * n ^ (j + 1) + c) % n) ||| zset n (j + 1) ((d * n ^ (j + 1) + c) / n) from rfl, e1, e2, zset_top h0 j d (c / n) hd hc2]
    show _ = 2 ^ d ||| (2 ^ (c % n) ||| zset n j (c / n))
    rw [← Nat.or_assoc, Nat.or_comm (2 ^ (c % n)), Nat.or_assoc]

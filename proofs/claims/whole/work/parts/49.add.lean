/-! a sum of fractions kept in lowest terms -/
def zQ (st : Int64 × Int64) (N D : Nat) : Prop := ∃ p q : Nat, st.1 = lN p ∧ st.2 = lN q ∧ 0 < q ∧ q ∣ D ∧ p * D = N * q ∧ Nat.gcd p q = 1
theorem zQ0 (D : Nat) : zQ (0, 1) 0 D := ⟨0, 1, rfl, rfl, by decide, Nat.one_dvd D, by rw [Nat.zero_mul, Nat.zero_mul], rfl⟩
theorem zgcd1 {x y : Nat} (h : 0 < Nat.gcd x y) : Nat.gcd (x / Nat.gcd x y) (y / Nat.gcd x y) = 1 := by
  refine Nat.eq_of_mul_eq_mul_right h ?_
  rw [← Nat.gcd_mul_right, Nat.div_mul_cancel (Nat.gcd_dvd_left x y), Nat.div_mul_cancel (Nat.gcd_dvd_right x y), Nat.one_mul]
theorem zQ.add {st : Int64 × Int64} {N D A B : Nat} (h : zQ st N D) (hD0 : 0 < D) (hD : D < 2 ^ 63) (hB : B ∣ D) (hN : N + A * (D / B) ≤ D) : zQ (fr_au st.1 st.2 (lN A) (lN B), fr_al st.1 st.2 (lN A) (lN B)) (N + A * (D / B)) D := by
  obtain ⟨p, q, e1, e2, hq, hqD, e, hc⟩ := h
  have hB0 : 0 < B := Nat.pos_of_ne_zero (fun z => by subst z; rw [Nat.zero_dvd] at hB; omega)
  have hBD := Nat.le_of_dvd hD0 hB
  have hqDl := Nat.le_of_dvd hD0 hqD
  have hg0 : 0 < Nat.gcd q B := Nat.gcd_pos_of_pos_right q hB0
  have hgB : Nat.gcd q B ≤ B := Nat.le_of_dvd hB0 (Nat.gcd_dvd_right q B)
  have k1 := Nat.div_mul_cancel (Nat.gcd_dvd_left q B)
  have k2 := Nat.div_mul_cancel (Nat.gcd_dvd_right q B)
  have k3 := Nat.div_mul_cancel hB
  have hyl : q * (B / Nat.gcd q B) = Nat.lcm q B := by
    rw [Nat.lcm_eq_mul_div, Nat.mul_div_assoc _ (Nat.gcd_dvd_right q B)]
  have hyD : q * (B / Nat.gcd q B) ∣ D := by rw [hyl]; exact Nat.lcm_dvd hqD hB
  have hy2 : q * (B / Nat.gcd q B) = q / Nat.gcd q B * B := by
    refine Nat.eq_of_mul_eq_mul_right hg0 ?_
    rw [Nat.mul_assoc, k2, Nat.mul_right_comm, k1]
  have hy0 : 0 < q * (B / Nat.gcd q B) := Nat.mul_pos hq (Nat.div_pos hgB hg0)
  have hyl2 := Nat.le_of_dvd hD0 hyD
  have ex : (p * (B / Nat.gcd q B) + A * (q / Nat.gcd q B)) * D = (N + A * (D / B)) * (q * (B / Nat.gcd q B)) := by
    rw [Nat.add_mul, Nat.add_mul]
    congr 1
    · rw [Nat.mul_right_comm, e, Nat.mul_assoc]
    · rw [hy2]
      calc A * (q / Nat.gcd q B) * D = A * (q / Nat.gcd q B) * (D / B * B) := by rw [k3]
        _ = A * (D / B) * (q / Nat.gcd q B * B) := by rw [Nat.mul_mul_mul_comm]
  have hxy : p * (B / Nat.gcd q B) + A * (q / Nat.gcd q B) ≤ q * (B / Nat.gcd q B) := by
    refine Nat.le_of_mul_le_mul_right ?_ hD0
    rw [ex, Nat.mul_comm (q * (B / Nat.gcd q B)) D]
    exact Nat.mul_le_mul_right _ hN
  have hcd : fr_cd (lN q) (lN B) = lN (Nat.gcd q B) := zcd (by omega) (by omega)
  have hng : ¬ lN (Nat.gcd q B) ≤ 0 := fun z => by
    have := (pk_lLE (b := 0) (by omega) (by decide)).mp z
    omega
  unfold fr_au fr_al
  rw [e1, e2, hcd, if_neg hng, if_neg hng, pk_lDiv (by omega) hg0 (by omega), pk_lDiv (by omega) hg0 (by omega), lN_mul, lN_mul, lN_mul, lN_add]
  generalize hx : p * (B / Nat.gcd q B) + A * (q / Nat.gcd q B) = x at ex hxy ⊢
  generalize hy : q * (B / Nat.gcd q B) = y at ex hxy hyD hy0 hyl2 ⊢
  have hG0 : 0 < Nat.gcd x y := Nat.gcd_pos_of_pos_right x hy0
  have hGy : Nat.gcd x y ≤ y := Nat.le_of_dvd hy0 (Nat.gcd_dvd_right x y)
  rw [zcd (by omega) (by omega), zfq hG0 (by omega) (by omega), zfq hG0 (by omega) (by omega)]
  have m1 := Nat.div_mul_cancel (Nat.gcd_dvd_left x y)
  have m2 := Nat.div_mul_cancel (Nat.gcd_dvd_right x y)
  refine ⟨x / Nat.gcd x y, y / Nat.gcd x y, rfl, rfl, Nat.div_pos hGy hG0, Nat.dvd_trans ⟨Nat.gcd x y, m2.symm⟩ hyD, ?_, zgcd1 hG0⟩
  refine Nat.eq_of_mul_eq_mul_right hG0 ?_
  rw [Nat.mul_right_comm, m1, Nat.mul_assoc, m2, ex]
/-- what stands there at the end -/
theorem zQ.fin {st : Int64 × Int64} {N D : Nat} (h : zQ st N D) (hD0 : 0 < D) : st.1 = lN (N / Nat.gcd D N) ∧ st.2 = lN (D / Nat.gcd D N) := by
  obtain ⟨p, q, e1, e2, hq, ⟨c, hc⟩, e, h1⟩ := h
  have hc0 : 0 < c := Nat.pos_of_ne_zero (fun z => by subst z; omega)
  have eN : N = p * c := by
    refine Nat.eq_of_mul_eq_mul_right hq ?_
    rw [← e, hc, Nat.mul_assoc, Nat.mul_comm q c]
  have eg : Nat.gcd D N = c := by
    rw [hc, eN, Nat.gcd_mul_right, Nat.gcd_comm, h1, Nat.one_mul]
  rw [eg, e1, e2, eN, hc, Nat.mul_div_cancel _ hc0, Nat.mul_div_cancel _ hc0]
  exact ⟨rfl, rfl⟩

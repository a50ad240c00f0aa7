/-! twice: the answers -/
section
variable {i n : Nat} {ks gs wt mi pl sk rw : Nat → Int32} {ru bg la : Int32}
theorem zn64 {a : Nat} (h : a < 2 ^ 63) : n64 (lN a) = a := by
  unfold n64
  rw [pk_lT h]; rfl
theorem zPl.twk (X : zPl i n ks gs wt mi pl sk rw) (hi : i ≤ 64) (Y : zDy n ru bg la) (hp : 0 < n) {p : Int32} (h : p = 2 ∨ p = 3) : ∃ N D : Nat, 0 < D ∧ D < 2 ^ 63 ∧ N ≤ D ∧ to_low n rw (mo_may n rw ru bg la) p = lN D ∧ to_up n rw ru bg (mo_may n rw ru bg la) p n = lN N ∧ (tw n ks gs wt sk ru (ti_k p) bg la 0 1 1 (0, 1)).1 = lN (N / Nat.gcd D N) ∧ (tw n ks gs wt sk ru (ti_k p) bg la 0 1 1 (0, 1)).2 = lN (D / Nat.gcd D N) := by
  obtain ⟨m0, mm, e1, e2, t1, t2⟩ := X.mm hi Y hp
  obtain ⟨es, -, -⟩ := X.mshs hi m0 mm
  have hP0 : 0 < zPA := by decide
  have hPe : zPA = 12252240 := rfl
  rcases h with q | q
  · subst q
    have hD0 : 0 < zT rw n (zmm n rw ru bg la) * zPA := Nat.mul_pos t1 hP0
    have hD : zT rw n (zmm n rw ru bg la) * zPA < 2 ^ 63 := by
      have := Nat.mul_le_mul_right zPA t2
      omega
    have hle := zCo_le X hi hp (D := zT rw n (zmm n rw ru bg la) * zPA) 2 bg la 0 1 1 Y (by decide) (fun _ => by rw [Nat.one_mul, Nat.pow_one]; exact Nat.dvd_refl _)
    rw [Nat.mul_one, Nat.one_mul] at hle
    have hz := ztw X hi hp hD0 hD 2 bg la 0 1 1 (0, 1) 0 Y (by decide) (by decide) (fun _ => by rw [Nat.one_mul, Nat.pow_one]; exact Nat.dvd_refl _) (zQ0 _) (by rw [Nat.zero_add]; exact hle)
    rw [Nat.zero_add] at hz
    obtain ⟨f1, f2⟩ := hz.fin hD0
    refine ⟨_, _, hD0, hD, hle, ?_, X.up2 hi Y hp, f1, f2⟩
    unfold to_low to_k
    rw [e2, es, nI_l (by omega), if_neg (by decide), show (12252240 : Int64) = lN zPA from rfl, lN_mul, Int64.mul_one]
  · subst q
    have hD0 : 0 < zT rw n (zmm n rw ru bg la) * zPA * zPA := Nat.mul_pos (Nat.mul_pos t1 hP0) hP0
    have hD : zT rw n (zmm n rw ru bg la) * zPA * zPA < 2 ^ 63 := by
      have := Nat.mul_le_mul_right zPA (Nat.mul_le_mul_right zPA t2)
      rw [hPe] at this ⊢
      omega
    have hdv : 1 * zT rw n (zmm n rw ru bg la) * zPA ^ (3 - 1) ∣ zT rw n (zmm n rw ru bg la) * zPA * zPA := by
      rw [Nat.one_mul, show zPA ^ (3 - 1) = zPA * zPA from rfl, Nat.mul_assoc]
      exact Nat.dvd_refl _
    have hle := zCo_le X hi hp (D := zT rw n (zmm n rw ru bg la) * zPA * zPA) 3 bg la 0 1 1 Y (by decide) (fun _ => hdv)
    rw [Nat.mul_one, Nat.one_mul] at hle
    have hz := ztw X hi hp hD0 hD 3 bg la 0 1 1 (0, 1) 0 Y (by decide) (by decide) (fun _ => hdv) (zQ0 _) (by rw [Nat.zero_add]; exact hle)
    rw [Nat.zero_add] at hz
    obtain ⟨f1, f2⟩ := hz.fin hD0
    refine ⟨_, _, hD0, hD, hle, ?_, X.up3 hi Y hp, f1, f2⟩
    unfold to_low to_k
    rw [e2, es, nI_l (by omega), if_pos rfl, show (12252240 : Int64) = lN zPA from rfl, lN_mul, lN_mul]
theorem zPl.hT (X : zPl i n ks gs wt mi pl sk rw) (hi : i ≤ 64) (Y : zDy n ru bg la) (hp : 0 < n) {p : Int32} (h : p = 2 ∨ p = 3) : mTw (to_low n rw (mo_may n rw ru bg la) p) (to_up n rw ru bg (mo_may n rw ru bg la) p n) := by
  obtain ⟨N, D, h1, h2, h3, e1, e2, -⟩ := X.twk hi Y hp h
  exact ⟨D, N, h1, h2, by omega, e1, e2⟩
theorem zPl.to (X : zPl i n ks gs wt mi pl sk rw) (hi : i ≤ 64) (Y : zDy n ru bg la) (hp : 0 < n) {p : Int32} (h : p = 2 ∨ p = 3) : to_r n rw ru bg la p 0 = (tw n ks gs wt sk ru (ti_k p) bg la 0 1 1 (0, 1)).1 ∧ to_r n rw ru bg la p 1 = (tw n ks gs wt sk ru (ti_k p) bg la 0 1 1 (0, 1)).2 := by
  obtain ⟨N, D, h1, h2, h3, e1, e2, f1, f2⟩ := X.twk hi Y hp h
  have hg : 0 < Nat.gcd D N := Nat.gcd_pos_of_pos_left N h1
  have hg2 := Nat.le_of_dvd h1 (Nat.gcd_dvd_left D N)
  unfold to_r
  rw [e1, e2, zn64 h2, zn64 (by omega), f1, f2, if_pos rfl, if_neg (by decide), pk_lDiv (by omega) hg (by omega), pk_lDiv h2 hg (by omega)]
  exact ⟨rfl, rfl⟩
theorem zPl.nz (X : zPl i n ks gs wt mi pl sk rw) (hi : i ≤ 64) (Y : zDy n ru bg la) (hp : 0 < n) : ¬ (mo_shs n rw (mo_may n rw ru bg la)).toInt64 = 0 := by
  obtain ⟨m0, mm, e1, e2, t1, t2⟩ := X.mm hi Y hp
  obtain ⟨es, -, -⟩ := X.mshs hi m0 mm
  rw [e2, es, nI_l (by omega)]
  exact zl0 t1 (by omega)
end

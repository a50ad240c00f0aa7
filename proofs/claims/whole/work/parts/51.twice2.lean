/-! twice: the contributions together, and the reference's sums -/
theorem zSu_mul (f : Nat → Nat) (a : Nat) : ∀ j : Nat, zSu f j * a = zSu (fun s => f s * a) j
  | 0 => Nat.zero_mul a
  | j + 1 => by simp only [zSu]; rw [Nat.add_mul, zSu_mul f a j]
theorem zSu_mull (f : Nat → Nat) (a : Nat) : ∀ j : Nat, a * zSu f j = zSu (fun s => a * f s) j
  | 0 => Nat.mul_zero a
  | j + 1 => by simp only [zSu]; rw [Nat.mul_add, zSu_mull f a j]
/-- the shares of some of the songs -/
def zpt (n : Nat) (rw : Nat → Int32) (M c : Nat) : Nat := zSu (fun k => if c.testBit k then zX rw n M k else 0) n
section
variable {i n : Nat} {ks gs wt mi pl sk rw : Nat → Int32} {ru bg la : Int32}
theorem zCo_le (X : zPl i n ks gs wt mi pl sk rw) (hi : i ≤ 64) (hp : 0 < n) {D : Nat} : ∀ (k : Nat) (bg la : Int32) (c A B : Nat), zDy n ru bg la → 0 < B → (0 < k → B * zT rw n (zmm n rw ru bg la) * zPA ^ (k - 1) ∣ D) → zCo n rw ru D k bg la c A B * B ≤ A * D
  | 0, _, _, _, A, B, _, _, _ => by simp only [zCo]; rw [Nat.zero_mul]; exact Nat.zero_le _
  | k + 1, bg, la, c, A, B, Y, hB0, hB => by
    obtain ⟨m0, mm, e1, e2, t1, t2⟩ := X.mm hi Y hp
    have hdv := hB (by omega)
    rw [Nat.add_sub_cancel] at hdv
    have hXT := zXs_T (rw := rw) X.n6 mm
    simp only [zCo]
    generalize zmm n rw ru bg la = M at m0 mm e1 e2 t1 t2 hdv hXT ⊢
    generalize zT rw n M = T at t1 t2 hdv hXT ⊢
    have hBT : B * T ∣ D := Nat.dvd_trans ⟨zPA ^ k, rfl⟩ hdv
    have key : ∀ j : Nat, j ≤ n → zSu (fun j => if c.testBit j then A * zX rw n M j * (D / (B * T)) else zCo n rw ru D k (bk_bag n bg (nI j)) (nI j) (c ||| 2 ^ j) (A * zX rw n M j) (B * T)) j * (B * T) ≤ A * zXs rw n M j * D := by
      intro j
      induction j with
      | zero => intro _; simp only [zSu]; rw [Nat.zero_mul]; exact Nat.zero_le _
      | succ j ih =>
        intro hj
        simp only [zSu, zXs]
        rw [Nat.add_mul, Nat.mul_add, Nat.add_mul]
        refine Nat.add_le_add (ih (by omega)) ?_
        by_cases q : c.testBit j = true
        · rw [if_pos q, Nat.mul_assoc, Nat.div_mul_cancel hBT]
          exact Nat.le_refl _
        · rw [if_neg q]
          have Y2 := Y.bag X.n6 (show j < n by omega)
          refine zCo_le X hi hp k _ _ _ _ _ Y2 (Nat.mul_pos hB0 t1) (fun hk => ?_)
          obtain ⟨-, -, -, -, u1, u2⟩ := X.mm hi Y2 hp
          refine Nat.dvd_trans ?_ hdv
          have hpk : zPA ^ k = zPA * zPA ^ (k - 1) := by
            have h1 : zPA ^ (k - 1 + 1) = zPA ^ (k - 1) * zPA := Nat.pow_succ ..
            rw [show k - 1 + 1 = k by omega] at h1
            rw [h1, Nat.mul_comm]
          rw [hpk, Nat.mul_assoc]
          exact Nat.mul_dvd_mul_left _ (Nat.mul_dvd_mul_right (zPA_dvd _ (by omega) u1) _)
    have h := key n (Nat.le_refl _)
    rw [hXT] at h
    refine Nat.le_of_mul_le_mul_right ?_ t1
    rw [Nat.mul_assoc, Nat.mul_right_comm A D T]
    exact h
theorem zPl.pt (X : zPl i n ks gs wt mi pl sk rw) (hi : i ≤ 64) {M c : Nat} (hM : M < 2 ^ n) (hc : c < 64) : ∀ j : Nat, j ≤ n → mo_pt n rw (nI c) (nI M) j = lN (zSu (fun k => if c.testBit k then zX rw n M k else 0) j)
  | 0, _ => rfl
  | j + 1, hj => by
    have h6 := X.s6 (show j < n by omega)
    obtain ⟨e, hx⟩ := X.msh hi hM (show j < n by omega)
    simp only [mo_pt, zSu]
    rw [X.pt hi hM hc j (by omega), zm_bit c hc j h6, e]
    by_cases q : c.testBit j = true
    · rw [if_pos q, if_pos q, Int32.one_mul, nI_l (by omega), lN_add]
    · rw [if_neg q, if_neg q, Int32.zero_mul]
      show _ + lN 0 = _
      rw [lN_add]
theorem zPl.dT (X : zPl i n ks gs wt mi pl sk rw) (hi : i ≤ 64) {M : Nat} (h0 : 0 < M) (hM : M < 2 ^ n) : 12252240 / (mo_shs n rw (nI M)).toInt64 = lN (zPA / zT rw n M) := by
  obtain ⟨e, t1, t2⟩ := X.mshs hi h0 hM
  rw [e, nI_l (by omega), show (12252240 : Int64) = lN zPA from rfl, pk_lDiv (by decide) t1 (by omega)]
theorem zPl.pts (X : zPl i n ks gs wt mi pl sk rw) (hi : i ≤ 64) {M c : Nat} (h0 : 0 < M) (hM : M < 2 ^ n) (hc : c < 64) : mo_pts n rw (nI c) (nI M) = lN (zpt n rw M c * (zPA / zT rw n M)) := by
  unfold mo_pts zpt
  rw [X.pt hi hM hc n (Nat.le_refl _), X.dT hi h0 hM, lN_mul]
/-- the last level -/
theorem zCo_1 (D : Nat) (bg la : Int32) (c A B : Nat) : zCo n rw ru D 1 bg la c A B = A * zpt n rw (zmm n rw ru bg la) c * (D / (B * zT rw n (zmm n rw ru bg la))) := by
  unfold zpt
  simp only [zCo]
  rw [zSu_mull, zSu_mul]
  refine zSu_congr n (fun s _ => ?_)
  by_cases q : c.testBit s = true
  · rw [if_pos q, if_pos q]
  · rw [if_neg q, if_neg q, Nat.mul_zero, Nat.zero_mul]
theorem zPl.up2 (X : zPl i n ks gs wt mi pl sk rw) (hi : i ≤ 64) (Y : zDy n ru bg la) (hp : 0 < n) : to_up n rw ru bg (mo_may n rw ru bg la) 2 n = lN (zCo n rw ru (zT rw n (zmm n rw ru bg la) * zPA) 2 bg la 0 1 1) := by
  obtain ⟨m0, mm, e1, e2, t1, t2⟩ := X.mm hi Y hp
  have key : ∀ j : Nat, j ≤ n → to_up n rw ru bg (mo_may n rw ru bg la) 2 j = lN (zSu (fun s => if (0 : Nat).testBit s then 1 * zX rw n (zmm n rw ru bg la) s * (zT rw n (zmm n rw ru bg la) * zPA / (1 * zT rw n (zmm n rw ru bg la))) else zCo n rw ru (zT rw n (zmm n rw ru bg la) * zPA) 1 (bk_bag n bg (nI s)) (nI s) (0 ||| 2 ^ s) (1 * zX rw n (zmm n rw ru bg la) s) (1 * zT rw n (zmm n rw ru bg la))) j) := by
    intro j
    induction j with
    | zero => intro _; rfl
    | succ j ih =>
      intro hj
      have hjn : j < n := by omega
      have h6 := X.s6 hjn
      have hS : 2 ^ j < 64 := Nat.pow_lt_pow_right (by decide) h6
      have Y2 := Y.bag X.n6 hjn
      obtain ⟨m0', mm', -, e2', t1', t2'⟩ := X.mm hi Y2 hp
      obtain ⟨ex, hx⟩ := X.msh hi mm hjn
      simp only [to_up, zSu]
      rw [ih (by omega), if_neg (by rw [Nat.zero_testBit]; decide), zCo_1, Nat.one_mul, Nat.one_mul, Nat.zero_or, Nat.mul_div_mul_left _ _ t1]
      rw [e2, ex, nI_l (by omega)]
      unfold bo_r
      rw [if_pos (by decide), e2', zm_one j h6, X.pts hi m0' mm' hS, lN_mul, lN_add, Nat.mul_assoc]
  exact key n (Nat.le_refl _)
end

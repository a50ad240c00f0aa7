/-! twice: the class's sum of fractions is the sum of the contributions -/
def zPA : Nat := 12252240
theorem zPA_dvd : ∀ t : Nat, t < 19 → 0 < t → t ∣ zPA := by decide +kernel
def zmm (n : Nat) (rw : Nat → Int32) (ru bg la : Int32) : Nat := (mo_may n rw ru bg la).toNatClampNeg
def zSu (f : Nat → Nat) : Nat → Nat
  | 0 => 0
  | j + 1 => zSu f j + f j
theorem zSu_zero (f : Nat → Nat) : ∀ j : Nat, (∀ s : Nat, s < j → f s = 0) → zSu f j = 0
  | 0, _ => rfl
  | j + 1, h => by
    simp only [zSu]
    rw [zSu_zero f j (fun s hs => h s (by omega)), h j (by omega)]
theorem zSu_congr {f g : Nat → Nat} : ∀ j : Nat, (∀ s : Nat, s < j → f s = g s) → zSu f j = zSu g j
  | 0, _ => rfl
  | j + 1, h => by
    simp only [zSu]
    rw [zSu_congr j (fun s hs => h s (by omega)), h j (by omega)]
def zCo (n : Nat) (rw : Nat → Int32) (ru : Int32) (D : Nat) : Nat → Int32 → Int32 → Nat → Nat → Nat → Nat
  | 0, _, _, _, _, _ => 0
  | k + 1, bg, la, c, A, B => zSu (fun j => if c.testBit j then A * zX rw n (zmm n rw ru bg la) j * (D / (B * zT rw n (zmm n rw ru bg la))) else zCo n rw ru D k (bk_bag n bg (nI j)) (nI j) (c ||| 2 ^ j) (A * zX rw n (zmm n rw ru bg la) j) (B * zT rw n (zmm n rw ru bg la))) n
theorem zCo_0 (n : Nat) (rw : Nat → Int32) (ru : Int32) (D : Nat) : ∀ (k : Nat) (bg la : Int32) (c B : Nat), zCo n rw ru D k bg la c 0 B = 0
  | 0, _, _, _, _ => rfl
  | k + 1, bg, la, c, B => by
    simp only [zCo]
    refine zSu_zero _ n (fun s _ => ?_)
    rw [Nat.zero_mul, Nat.zero_mul]
    split
    · rfl
    · exact zCo_0 n rw ru D k _ _ _ _
section
variable {i n : Nat} {ks gs wt mi pl sk rw : Nat → Int32} {ru bg la : Int32}
theorem zPl.mm (X : zPl i n ks gs wt mi pl sk rw) (hi : i ≤ 64) (Y : zDy n ru bg la) (hp : 0 < n) : 0 < zmm n rw ru bg la ∧ zmm n rw ru bg la < 2 ^ n ∧ bk_may n ks gs ru bg la = nI (zmm n rw ru bg la) ∧ mo_may n rw ru bg la = nI (zmm n rw ru bg la) ∧ 0 < zT rw n (zmm n rw ru bg la) ∧ zT rw n (zmm n rw ru bg la) ≤ 18 := by
  have h64 := zm_p6 X.n6
  obtain ⟨m, m0, mm, e1, e2⟩ := X.mayD Y hp
  have e : zmm n rw ru bg la = m := by unfold zmm; rw [e2, nI_clamp (by omega)]
  obtain ⟨-, t1, t2⟩ := X.mshs hi m0 mm
  rw [e]
  exact ⟨m0, mm, e1, e2, t1, t2⟩
theorem ztw (X : zPl i n ks gs wt mi pl sk rw) (hi : i ≤ 64) (hp : 0 < n) {D : Nat} (hD0 : 0 < D) (hD : D < 2 ^ 63) : ∀ (k : Nat) (bg la : Int32) (c A B : Nat) (st : Int64 × Int64) (N : Nat), zDy n ru bg la → c < 64 → A * 3 ^ k ≤ 27 → (0 < k → B * zT rw n (zmm n rw ru bg la) * zPA ^ (k - 1) ∣ D) → zQ st N D → N + zCo n rw ru D k bg la c A B ≤ D → zQ (tw n ks gs wt sk ru k bg la (nI c) (lN A) (lN B) st) (N + zCo n rw ru D k bg la c A B) D
  | 0, bg, la, c, A, B, st, N, _, _, _, _, h, _ => h
  | k + 1, bg, la, c, A, B, st, N, Y, hc, hA, hB, h, hN => by
    obtain ⟨m0, mm, e1, e2, t1, t2⟩ := X.mm hi Y hp
    have hdv := hB (by omega)
    rw [Nat.add_sub_cancel] at hdv
    simp only [tw, zCo] at hN ⊢
    rw [e1, X.call hi mm, nI_l (by omega), lN_mul]
    generalize zmm n rw ru bg la = M at m0 mm e1 e2 t1 t2 hdv hN ⊢
    generalize zT rw n M = T at t1 t2 hdv hN ⊢
    have hBT : B * T ∣ D := Nat.dvd_trans ⟨zPA ^ k, rfl⟩ hdv
    have key : ∀ j : Nat, j ≤ n → N + zSu (fun j => if c.testBit j then A * zX rw n M j * (D / (B * T)) else zCo n rw ru D k (bk_bag n bg (nI j)) (nI j) (c ||| 2 ^ j) (A * zX rw n M j) (B * T)) j ≤ D → zQ (tw_lp (tw n ks gs wt sk ru k) n wt sk bg (nI M) (sa_wt wt sk (nI M) n) (nI c) (lN A) (lN (B * T)) j st) (N + zSu (fun j => if c.testBit j then A * zX rw n M j * (D / (B * T)) else zCo n rw ru D k (bk_bag n bg (nI j)) (nI j) (c ||| 2 ^ j) (A * zX rw n M j) (B * T)) j) D := by
      intro j
      induction j with
      | zero => intro _ _; exact h
      | succ j ih =>
        intro hj hle
        have h6 := X.s6 (show j < n by omega)
        have hx := (X.msh hi mm (show j < n by omega)).2
        simp only [zSu] at hle ⊢
        have ih2 := ih (by omega) (by omega)
        simp only [tw_lp]
        rw [X.csh hi mm (show j < n by omega), nI_l (by omega), lN_mul, zm_holds c hc j h6]
        have hAx : A * zX rw n M j * 3 ^ k ≤ 27 := by
          refine Nat.le_trans ?_ hA
          rw [Nat.pow_succ, Nat.mul_assoc, Nat.mul_comm (3 ^ k) 3]
          exact Nat.mul_le_mul_left A (Nat.mul_le_mul_right _ hx)
        have hAs : A * zX rw n M j ≤ 27 := Nat.le_trans (Nat.le_mul_of_pos_right _ (Nat.pow_pos (by decide))) hAx
        generalize A * zX rw n M j = a at hAx hAs hle ⊢
        by_cases z : a = 0
        · subst z
          rw [if_pos (show lN 0 ≤ 0 from Int64.le_refl _)]
          have e0 : (if c.testBit j then 0 * (D / (B * T)) else zCo n rw ru D k (bk_bag n bg (nI j)) (nI j) (c ||| 2 ^ j) 0 (B * T)) = 0 := by
            split
            · exact Nat.zero_mul _
            · exact zCo_0 n rw ru D k _ _ _ _
          rw [e0, Nat.add_zero]; exact ih2
        · have hz : ¬ lN a ≤ 0 := fun q => by
            have := (pk_lLE (b := 0) (by omega) (by decide)).mp q
            omega
          rw [if_neg hz]
          by_cases q : c.testBit j = true
          · rw [if_pos q] at hle
            rw [if_pos q, if_pos q, ← Nat.add_assoc]
            exact ih2.add hD0 hD hBT (by omega)
          · rw [if_neg q] at hle
            rw [if_neg q, if_neg q, zm_one j h6, zx_or, ← Nat.add_assoc]
            have hS : 2 ^ j < 64 := Nat.pow_lt_pow_right (by decide) h6
            have Y2 := Y.bag X.n6 (show j < n by omega)
            refine ztw X hi hp hD0 hD k _ _ (c ||| 2 ^ j) a (B * T) _ _ Y2 (Nat.or_lt_two_pow (n := 6) hc hS) hAx (fun hk => ?_) ih2 (by omega)
            obtain ⟨-, -, -, -, u1, u2⟩ := X.mm hi Y2 hp
            refine Nat.dvd_trans ?_ hdv
            have hpk : zPA ^ k = zPA * zPA ^ (k - 1) := by
              have h1 : zPA ^ (k - 1 + 1) = zPA ^ (k - 1) * zPA := Nat.pow_succ ..
              rw [show k - 1 + 1 = k by omega] at h1
              rw [h1, Nat.mul_comm]
            rw [hpk, Nat.mul_assoc]
            exact Nat.mul_dvd_mul_left _ (Nat.mul_dvd_mul_right (zPA_dvd _ (by omega) u1) _)
    exact key n (Nat.le_refl _) hN
end

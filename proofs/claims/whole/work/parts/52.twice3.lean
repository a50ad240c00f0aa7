/-! twice over three songs, and the answers -/
theorem zt2 : ∀ i : Nat, i < 6 → ∀ j : Nat, j < 6 → ((2 ^ i).testBit j = true ↔ nI j = nI i) := by decide +kernel
theorem zdd {T a b : Nat} (hT : 0 < T) (ha : a ∣ zPA) (hb : b ∣ zPA) (ha0 : 0 < a) (hb0 : 0 < b) : T * zPA * zPA / (T * a * b) = zPA / b * (zPA / a) := by
  rw [Nat.mul_assoc T zPA, Nat.mul_assoc T a b, Nat.mul_div_mul_left _ _ hT]
  have e1 := Nat.div_mul_cancel ha
  have e2 := Nat.div_mul_cancel hb
  have e : zPA * zPA = zPA / b * (zPA / a) * (a * b) := by
    calc zPA * zPA = zPA / b * b * (zPA / a * a) := by rw [e1, e2]
      _ = zPA / b * (zPA / a) * (b * a) := by rw [Nat.mul_mul_mul_comm]
      _ = zPA / b * (zPA / a) * (a * b) := by rw [Nat.mul_comm b a]
  rw [e, Nat.mul_div_cancel _ (Nat.mul_pos ha0 hb0)]
section
variable {i n : Nat} {ks gs wt mi pl sk rw : Nat → Int32} {ru bg la : Int32}
def zbo (n : Nat) (rw : Nat → Int32) (ru bg : Int32) (a s : Nat) : Nat := if (2 ^ a).testBit s then zX rw n (zmm n rw ru (bk_bag n bg (nI a)) (nI a)) s * zPA else zX rw n (zmm n rw ru (bk_bag n bg (nI a)) (nI a)) s * (zpt n rw (zmm n rw ru (bk_bag n (bk_bag n bg (nI a)) (nI s)) (nI s)) (2 ^ a ||| 2 ^ s) * (zPA / zT rw n (zmm n rw ru (bk_bag n (bk_bag n bg (nI a)) (nI s)) (nI s))))
theorem zPl.bos (X : zPl i n ks gs wt mi pl sk rw) (hi : i ≤ 64) (Y : zDy n ru bg la) (hp : 0 < n) {a : Nat} (ha : a < n) : ∀ j : Nat, j ≤ n → bo n rw ru bg a j = lN (zSu (zbo n rw ru bg a) j)
  | 0, _ => rfl
  | j + 1, hj => by
    have hjn : j < n := by omega
    have h6 := X.s6 hjn
    have ha6 := X.s6 ha
    have Y1 := Y.bag X.n6 ha
    have Y2 := Y1.bag X.n6 hjn
    obtain ⟨m0, mm, -, e2, t1, t2⟩ := X.mm hi Y1 hp
    obtain ⟨m0', mm', -, e2', t1', t2'⟩ := X.mm hi Y2 hp
    obtain ⟨ex, hx⟩ := X.msh hi mm hjn
    have hS : 2 ^ j < 2 ^ 6 := Nat.pow_lt_pow_right (by decide) h6
    have hA : 2 ^ a < 2 ^ 6 := Nat.pow_lt_pow_right (by decide) ha6
    have k := zt2 a ha6 j h6
    simp only [bo, zSu]
    rw [X.bos hi Y hp ha j (by omega), e2, ex, nI_l (by omega)]
    unfold zbo
    by_cases q : nI j = nI a
    · rw [if_pos q, if_pos (k.mpr q), show (12252240 : Int64) = lN zPA from rfl, lN_mul, lN_add]
    · rw [if_neg q, if_neg (fun w => q (k.mp w)), e2', zm_one a ha6, zm_one j h6, zx_or, X.pts hi m0' mm' (Nat.or_lt_two_pow hA hS), lN_mul, lN_add]
theorem zCo_2 (X : zPl i n ks gs wt mi pl sk rw) (hi : i ≤ 64) (Y : zDy n ru bg la) (hp : 0 < n) {a : Nat} (ha : a < n) {T x : Nat} (hT : 0 < T) : zCo n rw ru (T * zPA * zPA) 2 (bk_bag n bg (nI a)) (nI a) (2 ^ a) x T = x * (zSu (zbo n rw ru bg a) n * (zPA / zT rw n (zmm n rw ru (bk_bag n bg (nI a)) (nI a)))) := by
  have Y1 := Y.bag X.n6 ha
  obtain ⟨m0, mm, -, e2, t1, t2⟩ := X.mm hi Y1 hp
  have d1 := zPA_dvd _ (by omega) t1
  rw [zSu_mul, zSu_mull]
  show zSu _ n = _
  refine zSu_congr n (fun s hs => ?_)
  have Y2 := Y1.bag X.n6 hs
  obtain ⟨m0', mm', -, e2', t1', t2'⟩ := X.mm hi Y2 hp
  have d2 := zPA_dvd _ (by omega) t1'
  unfold zbo
  by_cases q : (2 ^ a).testBit s = true
  · rw [if_pos q, if_pos q, Nat.mul_assoc T, Nat.mul_div_mul_left _ _ hT, Nat.mul_div_assoc _ d1]
    simp only [Nat.mul_assoc]
  · rw [if_neg q, if_neg q, zCo_1, zdd hT d1 d2 t1 t1']
    simp only [Nat.mul_assoc]
theorem zPl.up3 (X : zPl i n ks gs wt mi pl sk rw) (hi : i ≤ 64) (Y : zDy n ru bg la) (hp : 0 < n) : to_up n rw ru bg (mo_may n rw ru bg la) 3 n = lN (zCo n rw ru (zT rw n (zmm n rw ru bg la) * zPA * zPA) 3 bg la 0 1 1) := by
  obtain ⟨m0, mm, e1, e2, t1, t2⟩ := X.mm hi Y hp
  have key : ∀ j : Nat, j ≤ n → to_up n rw ru bg (mo_may n rw ru bg la) 3 j = lN (zSu (fun s => if (0 : Nat).testBit s then 1 * zX rw n (zmm n rw ru bg la) s * (zT rw n (zmm n rw ru bg la) * zPA * zPA / (1 * zT rw n (zmm n rw ru bg la))) else zCo n rw ru (zT rw n (zmm n rw ru bg la) * zPA * zPA) 2 (bk_bag n bg (nI s)) (nI s) (0 ||| 2 ^ s) (1 * zX rw n (zmm n rw ru bg la) s) (1 * zT rw n (zmm n rw ru bg la))) j) := by
    intro j
    induction j with
    | zero => intro _; rfl
    | succ j ih =>
      intro hj
      have hjn : j < n := by omega
      have Y2 := Y.bag X.n6 hjn
      obtain ⟨m0', mm', -, e2', t1', t2'⟩ := X.mm hi Y2 hp
      obtain ⟨ex, hx⟩ := X.msh hi mm hjn
      simp only [to_up, zSu]
      rw [ih (by omega), if_neg (by rw [Nat.zero_testBit]; decide), Nat.one_mul, Nat.one_mul, Nat.zero_or, zCo_2 X hi Y hp hjn t1]
      rw [e2, ex, nI_l (by omega)]
      unfold bo_r
      rw [if_neg (by decide), X.bos hi Y hp hjn n (Nat.le_refl _), e2', X.dT hi m0' mm', lN_mul, lN_mul, lN_add]
  exact key n (Nat.le_refl _)
end

/-! evenings: class and reference draw alike -/
theorem zx_andL (x : Int64) {m : Int64} (k : Nat) (hm : m.toBitVec.toNat = 2 ^ k - 1) : x &&& m = lN (x.toBitVec.toNat % 2 ^ k) := by
  apply Int64.toBitVec_inj.mp
  apply BitVec.eq_of_toNat_eq
  rw [Int64.toBitVec_and, BitVec.toNat_and, hm, Nat.and_two_pow_sub_one_eq_mod]
  show _ = (BitVec.ofNat 64 _).toNat
  rw [BitVec.toNat_ofNat]
  exact (Nat.mod_eq_of_lt (Nat.lt_of_le_of_lt (Nat.mod_le _ _) x.toBitVec.isLt)).symm
theorem zsd_m : (2147483647 : Int64).toBitVec.toNat = 2 ^ 31 - 1 := by decide +kernel
theorem zsd (x : Int64) : ∃ z : Nat, z < 2 ^ 31 ∧ x &&& 2147483647 = lN z :=
  ⟨x.toBitVec.toNat % 2 ^ 31, Nat.mod_lt _ (Nat.two_pow_pos 31), zx_andL x 31 zsd_m⟩
section
variable {i n : Nat} {ks gs wt mi pl sk rw : Nat → Int32} {ru bg la : Int32}
theorem zPl.draw (X : zPl i n ks gs wt mi pl sk rw) (hi : i ≤ 64) {m : Nat} (hm : m < 2 ^ n) : ∀ (d j v : Nat), j + d = n → v + zXs rw n m j < zXs rw n m n → ∃ S : Nat, S < n ∧ dm n rw (nI m) d j (nI v) = some S ∧ dr_lp wt sk (nI m) (sa_wt wt sk (nI m) n) d j (lN v) = nI S
  | 0, j, v, hd, hv => by
    have e : j = n := by omega
    subst e; omega
  | d + 1, j, v, hd, hv => by
    have hj : j < n := by omega
    obtain ⟨e1, hx⟩ := X.msh hi hm hj
    have hT : zXs rw n m n ≤ 18 := by
      have h64 := zm_p6 X.n6
      rw [zXs_T X.n6 hm]
      unfold zT
      have := X.wle hi m
      have := (zpop_1 m (by omega)).2.1
      split <;> omega
    simp only [dm, dr_lp]
    rw [e1, X.csh hi hm hj, nI_l (by omega)]
    by_cases h : v < zX rw n m j
    · rw [if_pos (nI_lt h (by omega))]
      have h2 : ¬ 0 ≤ lN v - lN (zX rw n m j) := by
        have h3 : ∀ v : Nat, v < 4 → ∀ x : Nat, x < 4 → v < x → ¬ 0 ≤ lN v - lN x := by decide +kernel
        exact h3 v (by omega) _ (by omega) h
      rw [if_neg h2]
      exact ⟨j, hj, rfl, rfl⟩
    · rw [if_neg (nI_nlt (by omega) (by omega)), pk_sub (by omega), lN_sub (by omega)]
      have h2 : 0 ≤ lN (v - zX rw n m j) := (pk_lLE (a := 0) (by decide) (by omega)).mpr (Nat.zero_le _)
      rw [if_pos h2]
      refine X.draw hi hm d (j + 1) _ (by omega) ?_
      show v - zX rw n m j + (zXs rw n m j + zX rw n m j) < _
      omega
/-- one evening -/
theorem zPl.night (X : zPl i n ks gs wt mi pl sk rw) (hi : i ≤ 64) {m z : Nat} (h0 : 0 < m) (hm : m < 2 ^ n) (hz : z < 2 ^ 31) : ∃ S : Nat, S < n ∧ dm n rw (nI m) n 0 (md_v (nI z) (mo_shs n rw (nI m))) = some S ∧ dr n wt sk (lN z) (nI m) = nI S := by
  obtain ⟨e1, h1, h2⟩ := X.mshs hi h0 hm
  have e2 : dr_am n wt sk (nI m) = nI (zT rw n m) := X.call hi hm
  have ev : md_v (nI z) (mo_shs n rw (nI m)) = nI (z / 65536 % zT rw n m) := by
    unfold md_v
    rw [e1, show (65536 : Int32) = nI 65536 from rfl, pk_div hz (by decide) (by decide), pk_rem (by omega) h1 (by omega)]
  have ey : lN z / 65536 - lN z / 65536 / (dr_am n wt sk (nI m)).toInt64 * (dr_am n wt sk (nI m)).toInt64 = lN (z / 65536 % zT rw n m) := by
    rw [e2, nI_l (by omega), show (65536 : Int64) = lN 65536 from rfl, pk_lDiv (by omega) (by decide) (by decide), pk_lRem (by omega) h1 (by omega)]
  have hlt := Nat.mod_lt (z / 65536) h1
  obtain ⟨S, s1, s2, s3⟩ := X.draw hi hm n 0 (z / 65536 % zT rw n m) (by omega) (by rw [zXs_T X.n6 hm]; exact hlt)
  refine ⟨S, s1, by rw [ev]; exact s2, ?_⟩
  unfold dr
  rw [ey, if_pos (by rw [e2]; exact nI_lt (a := 0) h1 (by omega))]
  exact s3
theorem zPl.hGG (X : zPl i n ks gs wt mi pl sk rw) (hi : i ≤ 64) (Y : zDy n ru bg la) : sa_np n = false → zDy n ru bg la ∧ ∀ b p : Int32, zDy n ru b p → (p = -1 ∨ ∃ s : Nat, s < n ∧ p = nI s) ∧ ¬ mo_shs n rw (mo_may n rw ru b p) = 0 ∧ ∀ x : Int32, ∃ S : Nat, S < n ∧ dm n rw (mo_may n rw ru b p) n 0 (md_v (md_s x) (mo_shs n rw (mo_may n rw ru b p))) = some S ∧ zDy n ru (bk_bag n b (nI S)) (nI S) := by
  intro hn0
  have hp := sa_np0 hn0
  refine ⟨Y, fun b p Y2 => ⟨Y2.2.2, ?_, fun x => ?_⟩⟩
  · obtain ⟨m, h0, hm, -, e⟩ := X.mayD Y2 hp
    obtain ⟨e1, h1, h2⟩ := X.mshs hi h0 hm
    rw [e, e1]; exact nI_ne0 h1 (by omega)
  · obtain ⟨m, h0, hm, -, e⟩ := X.mayD Y2 hp
    obtain ⟨z, hz, ez⟩ := zsd (1103515245 * x.toInt64 + 12345)
    have es : md_s x = nI z := by
      unfold md_s sa_seed
      rw [ez, lN_i]
    obtain ⟨S, s1, s2, -⟩ := X.night hi h0 hm hz
    rw [e, es]
    exact ⟨S, s1, s2, Y2.bag X.n6 s1⟩
theorem zPl.evs (X : zPl i n ks gs wt mi pl sk rw) (hi : i ≤ 64) (Y : zDy n ru bg la) (hp : 0 < n) {z0 : Nat} (hz0 : z0 < 2 ^ 31) : ∀ j : Nat, ∃ (z : Nat) (b t : Int32) (c : Nat) (q : Int32), z < 2 ^ 31 ∧ c < 64 ∧ zDy n ru b t ∧ ev n ks gs wt sk mi ru bg la (nI z0) j = (lN z, b, t, nI c, q) ∧ mv n rw ru bg la (nI z0) j = (nI z, b, t, nI c, q)
  | 0 => ⟨z0, bg, la, 0, 0, hz0, by decide, Y, by simp only [ev]; rw [nI_l hz0]; rfl, rfl⟩
  | j + 1 => by
    obtain ⟨z, b, t, c, q, hz, hc, Y2, e1, e2⟩ := X.evs hi Y hp hz0 j
    obtain ⟨m, h0, hm, f1, f2⟩ := X.mayD Y2 hp
    obtain ⟨z1, hz1, ez⟩ := zsd (1103515245 * lN z + 12345)
    have es : sa_seed (lN z) = lN z1 := ez
    have em : md_s (nI z) = nI z1 := by
      unfold md_s
      rw [nI_l hz, es, lN_i]
    obtain ⟨S, s1, s2, s3⟩ := X.night hi h0 hm hz1
    have h6 := X.s6 s1
    have hS : 2 ^ S < 64 := Nat.pow_lt_pow_right (by decide) h6
    refine ⟨z1, bk_bag n b (nI S), nI S, c ||| 2 ^ S, q + mo_mins rw S, hz1, Nat.or_lt_two_pow (n := 6) hc hS, Y2.bag X.n6 s1, ?_, ?_⟩
    · simp only [ev, e1]
      rw [es, f1, s3, zm_one S h6, zx_or, zat h6, X.m S s1]
    · simp only [mv, e2]
      rw [em, f2, s2]
      simp only [Option.getD_some]
      rw [zm_one S h6, zx_or]
theorem zPl.even (X : zPl i n ks gs wt mi pl sk rw) (hi : i ≤ 64) (Y : zDy n ru bg la) (k seed w : Int32) : en_r n ks gs wt sk mi ru bg la k seed w = me_r n rw ru bg la k seed w := by
  unfold en_r me_r
  rw [show mo_in k.toInt64 1 60 = _ from zin k 1 60, show mo_in w.toInt64 0 2 = _ from zin w 0 2]
  by_cases h1 : k < 1
  · rw [if_pos h1, if_pos h1]; rfl
  rw [if_neg h1, if_neg h1]
  by_cases h2 : 60 < k
  · rw [if_pos h2, if_pos h2]; rfl
  rw [if_neg h2, if_neg h2, if_pos (rfl : true = true)]
  by_cases h3 : seed < 0
  · rw [if_pos h3, if_pos h3]
  rw [if_neg h3, if_neg h3]
  by_cases h4 : w < 0
  · rw [if_pos h4, if_pos h4]; rfl
  rw [if_neg h4, if_neg h4]
  by_cases h5 : 2 < w
  · rw [if_pos h5, if_neg (Int32.not_le.mpr h5)]; rfl
  rw [if_neg h5, if_pos (Int32.not_lt.mp h5), if_pos (rfl : true = true)]
  cases hn : sa_np n with
  | true => rfl
  | false =>
    obtain ⟨z0, hz0, e0⟩ := nI_of h3
    obtain ⟨z, b, t, c, q, hz, hc, Y2, e1, e2⟩ := X.evs hi Y (sa_np0 hn) hz0 k.toNatClampNeg
    rw [e0, e1, e2]
    simp only [ev_fact, Bool.false_eq_true, if_false]
    rw [zm_bc c hc, lN_i]
end

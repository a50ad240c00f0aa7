/-! digest, both sides -/
theorem zdgc {len : Nat} {cd pg : Nat → Int32} (P : zPg len cd pg) : ∀ j : Nat, j ≤ len → ∀ h : Int64, dgc cd j h = mgc pg j h
  | 0, _, _ => rfl
  | j + 1, hj, h => by
    simp only [dgc, mgc]
    rw [zdgc P j (by omega), zat22 P (by omega)]
theorem zdgn {f g : Int32 → Int32} (e : ∀ w : Int32, f w = g w) : ∀ (j : Nat) (h : Int64), dgn f j h = mgn g j h
  | 0, _ => rfl
  | j + 1, h => by
    simp only [dgn, mgn]
    rw [zdgn e j, e]
theorem zdgi {f : Int32 → Int32 → Int32} {g : Nat → Int32 → Int32} {s : Nat} (e : ∀ k : Nat, k < 10 → f (nI s) (nI k) = g s (nI k)) : ∀ j : Nat, j ≤ 10 → ∀ h : Int64, dgi f s j h = mgi g s j h
  | 0, _, _ => rfl
  | j + 1, hj, h => by
    simp only [dgi, mgi]
    rw [zdgi e j (by omega), e j (by omega)]
theorem zdgo {n : Nat} {f : Int32 → Int32 → Int32} {g : Nat → Int32 → Int32} (e : ∀ s : Nat, s < n → ∀ k : Nat, k < 10 → f (nI s) (nI k) = g s (nI k)) : ∀ s : Nat, s ≤ n → ∀ h : Int64, dgo f s h = mgo g s h
  | 0, _, _ => rfl
  | s + 1, hs, h => by
    simp only [dgo, mgo]
    rw [zdgo e s (by omega), zdgi (e s (by omega)) 10 (Nat.le_refl _)]
theorem zdp6 {n : Nat} {rw : Nat → Int32} {O : zO} {K : Nat} {p : Int32} (e : ∀ k : Nat, k < 6 → od_fact O.2.1 O.2.2.1 O.2.2.2 (nI (10 + k)) = py n rw K p (nI (10 + k))) (e2 : p = bk_all n) (e3 : K = (mo_ones (bk_all n) 6).toNatClampNeg) : ∀ j : Nat, j ≤ 6 → ∀ h : Int64, dp6 O j h = ms6 n rw j h
  | 0, _, _ => rfl
  | j + 1, hj, h => by
    simp only [dp6, ms6]
    rw [zdp6 e e2 e3 j (by omega), e j (by omega), e2, e3]
section
variable {i n nh : Nat} {ks gs wt mi pl sk rw he hm : Nat → Int32} {ru bg la : Int32}
theorem zPl.dps (X : zPl i n ks gs wt mi pl sk rw) (hi : i ≤ 64) (Y : zDy n ru bg la) (H : zHe n nh he hm) (hp : 0 < n) (wy fi : Nat → Int32) (h : Int64) : dp n ks gs wt sk he wy fi nh ru bg la h = msp n rw hm ru bg la nh h := by
  have hn := X.n6
  have h64 := zm_p6 hn
  have h1 : 1 ≤ 2 ^ n := Nat.one_le_two_pow
  obtain ⟨t1, t2⟩ := X.to hi Y hp (p := 2) (Or.inl rfl)
  have hk : ti_k 2 = 2 := rfl
  rw [hk] at t1 t2
  have hG : ∀ s : Nat, s < n → gs s = rw (4 * s + 1) := fun s hs => X.g s hs
  have ew : ∀ w : Int32, (w = 0 ∨ ∃ x : Nat, x < 6 ∧ w = nI (10 + x)) → od_fact (od n gs 7 0 (bk_all n) (wy, fi, 0, 0)).2.1 (od n gs 7 0 (bk_all n) (wy, fi, 0, 0)).2.2.1 (od n gs 7 0 (bk_all n) (wy, fi, 0, 0)).2.2.2 w = py n rw (mo_ones (bk_all n) 6).toNatClampNeg (bk_all n) w := by
    rw [zm_all n hn]
    exact fun w hw => zodf hn hp hG (by omega) wy fi hw
  obtain ⟨a, U, L, l1, -, -, -, l2, -⟩ := X.lks hp H 4 (Nat.le_refl _)
  unfold dp msp
  rw [X.rules hp H 4 (Nat.le_refl _), l1, l2, zdp6 (fun k hk6 => ew (nI (10 + k)) (Or.inr ⟨k, hk6, rfl⟩)) rfl rfl 6 (Nat.le_refl _)]
  unfold dp3 ms3
  rw [t1, t2, ew 0 (Or.inl rfl)]
theorem zPl.dgs (X : zPl i n ks gs wt mi pl sk rw) (hi : i ≤ 64) (Y : zDy n ru bg la) (H : zHe n nh he hm) {len : Nat} {cd pg : Nat → Int32} (P : zPg len cd pg) (wy fi : Nat → Int32) (pr : Nat) : dg n ks gs wt sk mi pl he cd wy fi nh ru bg la len pr = mdg n rw hm pg ru bg la nh len pr := by
  have e1 : ∀ h : Int64, dgo (sa_fact n ks gs wt sk mi pl ru bg la) n h = mgo (mtl n rw ru bg la) n h := zdgo (fun s hs k hk => X.fact hi Y hs k hk) n (Nat.le_refl _)
  unfold dg mdg
  rw [zdgn (X.count Y nh len pr) 12, zdgc P len (Nat.le_refl _), e1]
  cases hs : sa_np n with
  | true => rw [if_pos rfl, if_pos rfl]
  | false => rw [if_neg (by decide), if_neg (by decide), X.dps hi Y H (sa_np0 hs)]
end

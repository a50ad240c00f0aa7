/-! what is heard: rules and likely, class and reference -/
theorem zsum_ge {f : Nat → Nat} (b : Nat) : ∀ j : Nat, (∀ s : Nat, s < j → 1 ≤ f s) → zsum (fun _ => 1) b j ≤ zsum f b j
  | 0, _ => Nat.le_refl _
  | j + 1, h => by
    have h1 := zsum_ge (f := f) b j (fun s hs => h s (by omega))
    have h2 := h j (by omega)
    simp only [zsum]
    split <;> omega
/-- the list of what was heard -/
def zHe (n nh : Nat) (he hm : Nat → Int32) : Prop := nh ≤ 8 ∧ ∀ k : Nat, k < nh → he k = hm k ∧ ∃ x : Nat, x < n ∧ hm k = nI x
section
variable {i n nh : Nat} {ks gs wt mi pl sk rw he hm : Nat → Int32}
theorem zPl.bsum (X : zPl i n ks gs wt mi pl sk rw) {m : Nat} (h0 : 0 < m) (hm : m < 2 ^ n) : 0 < zsum (zB rw) m n ∧ zsum (zB rw) m n ≤ 18 := by
  have hn := X.n6
  have h64 := zm_p6 hn
  have h1 := zsum_ge (f := zB rw) m n (fun s _ => (zbase rw s).2.1)
  have h2 := zsum_le (f := zB rw) m 3 n (fun s _ => (zbase rw s).2.2)
  rw [zpop_n n (by omega) m hm] at h1
  have h3 := (zpop_1 m (by omega)).2.2 h0
  omega
theorem zhd (X : zPl i n ks gs wt mi pl sk rw) (hp : 0 < n) (H : zHe n nh he hm) {r : Nat} : ∀ (d j : Nat), j + d = nh → ∀ (U L : Nat) (b t : Int32), lh n rw hm (nI r) j = (lN U, lN L, b, t) → U ≤ 3 ^ j → 0 < L → L ≤ 18 ^ j → zDy n (nI r) b t →
    ∃ U' L' : Nat, (lh n rw hm (nI r) nh).1 = lN U' ∧ (lh n rw hm (nI r) nh).2.1 = lN L' ∧ U' ≤ 3 ^ nh ∧ 0 < L' ∧ L' ≤ 18 ^ nh ∧ (U = 0 → U' = 0) ∧ ∀ st : Int64 × Int64, zR st.1 st.2 U L → zR (hd_lp n ks gs wt he (nI r) d j b t st).1 (hd_lp n ks gs wt he (nI r) d j b t st).2 U' L'
  | 0, j, hj, U, L, b, t, e, h1, h2, h3, Y => by
    have ej : j = nh := by omega
    subst ej
    rw [e]
    exact ⟨U, L, rfl, rfl, h1, h2, h3, fun q => q, fun st hs => hs⟩
  | d + 1, j, hj, U, L, b, t, e, h1, h2, h3, Y => by
    obtain ⟨g1, x, hx, g2⟩ := H.2 j (by omega)
    have hn8 := H.1
    have h64 := zm_p6 X.n6
    have h6 := X.s6 hx
    obtain ⟨m, m0, mm, e1, e2⟩ := X.mayD Y hp
    obtain ⟨w1, w2⟩ := X.bsum m0 mm
    obtain ⟨b1, b2, b3⟩ := zbase rw x
    have hat : rw_at 8 he (nI j) = nI x := by rw [rw_at_in he (by omega) (by decide), g1, g2]
    have hcl : (hm j).toNatClampNeg = x := by rw [g2, nI_clamp (by omega)]
    have p3 : 3 ^ (j + 1) ≤ 3 ^ 8 := Nat.pow_le_pow_right (by decide) (by omega)
    have p18 : 18 ^ (j + 1) ≤ 18 ^ 8 := Nat.pow_le_pow_right (by decide) (by omega)
    have q3 : (3 : Nat) ^ 8 < 2 ^ 63 := by decide
    have q18 : (18 : Nat) ^ 8 < 2 ^ 63 := by decide
    have eL : lh n rw hm (nI r) (j + 1) = (lN (U * (if m.testBit x then zB rw x else 0)), lN (L * zsum (zB rw) m n), bk_bag n b (nI x), nI x) := by
      simp only [lh, e]
      rw [hcl, e2, zm_bit m (by omega) x h6, X.mbase (by omega) n (Nat.le_refl _), b1, nI_l (by omega), lN_mul]
      by_cases q : m.testBit x = true
      · rw [if_pos q, if_pos q, Int32.one_mul, nI_l (by omega), lN_mul]
      · rw [if_neg q, if_neg q, Int32.zero_mul]
        show (lN U * lN 0, _, _, _) = _
        rw [lN_mul]
    have u1 : U * (if m.testBit x then zB rw x else 0) ≤ 3 ^ (j + 1) := by
      rw [Nat.pow_succ]
      refine Nat.mul_le_mul h1 ?_
      split <;> omega
    have l1 : L * zsum (zB rw) m n ≤ 18 ^ (j + 1) := by
      rw [Nat.pow_succ]
      exact Nat.mul_le_mul h3 w2
    obtain ⟨U', L', a1, a2, a3, a4, a5, a6, a7⟩ := zhd X hp H d (j + 1) (by omega) _ _ _ _ eL u1 (Nat.mul_pos h2 w1) l1 (Y.bag X.n6 hx)
    refine ⟨U', L', a1, a2, a3, a4, a5, fun q => a6 (by rw [q, Nat.zero_mul]), fun st hs => ?_⟩
    simp only [hd_lp]
    rw [hat, e1, zm_holds m (by omega) x h6]
    by_cases q : m.testBit x = true
    · rw [if_pos q]
      refine a7 _ ?_
      rw [if_pos q] at u1
      rw [if_pos q, zat h6, X.w x hx, b1, nI_l (by omega), X.cbase (by omega) n (Nat.le_refl _), nI_l (by omega)]
      exact hs.mul w1 (by omega) (by omega)
    · rw [if_neg q]
      have z : U' = 0 := a6 (by rw [if_neg q, Nat.mul_zero])
      rw [z]
      exact ⟨0, 1, rfl, rfl, by decide, Nat.le_refl _, a4, by rw [Nat.zero_mul, Nat.zero_mul]⟩
theorem zhdR (X : zPl i n ks gs wt mi pl sk rw) (hp : 0 < n) (H : zHe n nh he hm) {r : Nat} (hr : r ≤ 3) : ∃ U L : Nat, (lh n rw hm (nI r) nh).1 = lN U ∧ (lh n rw hm (nI r) nh).2.1 = lN L ∧ U ≤ 3 ^ 8 ∧ 0 < L ∧ L ≤ 18 ^ 8 ∧ zR (hd n ks gs wt he nh (nI r)).1 (hd n ks gs wt he nh (nI r)).2 U L := by
  have h1 : 2 ^ 1 ≤ 2 ^ n := Nat.pow_le_pow_right (by omega) hp
  have Y : zDy n (nI r) (bk_all n) (-1) := ⟨⟨r, hr, rfl, fun q => by omega⟩, ⟨2 ^ n - 1, by omega, zm_all n X.n6, fun _ => by omega⟩, Or.inl rfl⟩
  obtain ⟨U', L', a1, a2, a3, a4, a5, -, a7⟩ := zhd X hp H (r := r) nh 0 (by omega) 1 1 (bk_all n) (-1) rfl (by decide) (by decide) (by decide) Y
  have p3 : 3 ^ nh ≤ 3 ^ 8 := Nat.pow_le_pow_right (by decide) H.1
  have p18 : 18 ^ nh ≤ 18 ^ 8 := Nat.pow_le_pow_right (by decide) H.1
  exact ⟨U', L', a1, a2, by omega, a4, by omega, a7 (1, 1) ⟨1, 1, rfl, rfl, by decide, by decide, by decide, rfl⟩⟩
theorem zPl.rules (X : zPl i n ks gs wt mi pl sk rw) (hp : 0 < n) (H : zHe n nh he hm) : ∀ j : Nat, j ≤ 4 → pr_acc n ks gs wt he nh j = mr_acc n rw hm nh j
  | 0, _ => rfl
  | j + 1, hj => by
    obtain ⟨U, L, e1, e2, h1, h2, h3, R⟩ := zhdR X hp H (show j ≤ 3 by omega)
    have q3 : (3 : Nat) ^ 8 < 2 ^ 63 := by decide
    have k := R.le0 (by omega) h2
    simp only [pr_acc, mr_acc]
    rw [X.rules hp H j (by omega), e1]
    by_cases z : (hd n ks gs wt he nh (nI j)).1 ≤ 0
    · rw [if_pos z, if_pos (k.mp z)]
    · rw [if_neg z, if_neg (fun w => z (k.mpr w))]
theorem zPl.lks (X : zPl i n ks gs wt mi pl sk rw) (hp : 0 < n) (H : zHe n nh he hm) : ∀ j : Nat, j ≤ 4 → ∃ (a : Int32) (U L : Nat), mk n rw hm nh j = (a, lN U, lN L) ∧ U ≤ 3 ^ 8 ∧ 0 < L ∧ L ≤ 18 ^ 8 ∧ (lk n ks gs wt he nh j).1 = a ∧ zR (lk n ks gs wt he nh j).2.1 (lk n ks gs wt he nh j).2.2 U L
  | 0, _ => ⟨-1, 0, 1, rfl, by decide, by decide, by decide, rfl, 0, 1, rfl, rfl, by decide, by decide, by decide, rfl⟩
  | j + 1, hj => by
    obtain ⟨U, L, e1, e2, h1, h2, h3, R⟩ := zhdR X hp H (show j ≤ 3 by omega)
    obtain ⟨a, U2, L2, f1, k1, k2, k3, f2, R2⟩ := X.lks hp H j (by omega)
    have q3 : (3 : Nat) ^ 8 * 18 ^ 8 < 2 ^ 63 := by decide
    have q4 : (3 : Nat) ^ 8 < 2 ^ 63 := by decide
    have q5 : (18 : Nat) ^ 8 < 2 ^ 63 := by decide
    have c1 : U * L2 ≤ 3 ^ 8 * 18 ^ 8 := Nat.mul_le_mul h1 k3
    have c2 : U2 * L ≤ 3 ^ 8 * 18 ^ 8 := Nat.mul_le_mul k1 h3
    have hm2 := R.more R2 (by omega) (by omega)
    simp only [mk, f1, lk]
    rw [e1, e2, lN_mul, lN_mul, hm2]
    by_cases z : lN (U * L2) ≤ lN (U2 * L)
    · rw [if_pos z, if_pos z, if_neg (by decide)]
      exact ⟨a, U2, L2, rfl, k1, k2, k3, f2, R2⟩
    · rw [if_neg z, if_neg z, if_pos rfl]
      exact ⟨nI j, U, L, rfl, h1, h2, h3, rfl, R.red (by omega) (by omega) _ _⟩
end

/-! a song's facts: class and reference -/
theorem zin (p a b : Int32) : mo_in p.toInt64 a.toInt64 b.toInt64 = if p < a then false else if b < p then false else true := by
  unfold mo_in
  simp only [Int32.toInt64_lt]
theorem zhas {n : Nat} (hn : n ≤ 6) (p : Int32) : (mo_in p.toInt64 0 (nI n - 1).toInt64 = true ∧ bk_has n p = true ∧ ∃ s : Nat, s < n ∧ p = nI s) ∨ (mo_in p.toInt64 0 (nI n - 1).toInt64 = false ∧ bk_has n p = false) := by
  rw [show mo_in p.toInt64 0 (nI n - 1).toInt64 = _ from zin p 0 (nI n - 1)]
  unfold bk_has
  by_cases h0 : p < 0
  · right; rw [if_pos h0, if_pos h0]; exact ⟨rfl, rfl⟩
  · obtain ⟨j, hj, e⟩ := nI_of h0
    rw [if_neg h0, if_neg h0]
    by_cases h1 : j < n
    · left
      have h2 : ¬ nI n - 1 < p := by
        rw [e, show n = (n - 1) + 1 by omega, nI_pred]; exact nI_nlt (by omega) (by omega)
      have h3 : ¬ nI n ≤ p := by rw [e]; exact nI_ge h1 (by omega)
      rw [if_neg h2, if_neg h3]; exact ⟨rfl, rfl, j, h1, e⟩
    · right
      have h2 : nI n - 1 < p := by
        rcases Nat.eq_zero_or_pos n with q | q
        · subst q
          rw [e, Int32.lt_iff_toInt_lt, nI_toInt hj]
          have : (nI 0 - 1 : Int32).toInt = -1 := by decide
          omega
        · rw [e, show n = (n - 1) + 1 by omega, nI_pred]; exact nI_lt (by omega) (by omega)
      have h3 : nI n ≤ p := by rw [e]; exact nI_le (by omega) (by omega)
      rw [if_pos h2, if_pos h3]; exact ⟨rfl, rfl⟩
/-- rule, bag and last song as they may be -/
def zDy (n : Nat) (ru bg la : Int32) : Prop := (∃ r : Nat, r ≤ 3 ∧ ru = nI r ∧ (n = 0 → r = 0)) ∧ (∃ b : Nat, b < 2 ^ n ∧ bg = nI b ∧ (0 < n → 0 < b)) ∧ (la = -1 ∨ ∃ l : Nat, l < n ∧ la = nI l)
section
variable {i n : Nat} {ks gs wt mi pl sk rw : Nat → Int32} {ru bg la : Int32}
theorem zPl.mayD (X : zPl i n ks gs wt mi pl sk rw) (Y : zDy n ru bg la) (h : 0 < n) : ∃ m : Nat, 0 < m ∧ m < 2 ^ n ∧ bk_may n ks gs ru bg la = nI m ∧ mo_may n rw ru bg la = nI m := by
  obtain ⟨⟨r, hr, e1, -⟩, ⟨b, hb, e2, h0⟩, hla⟩ := Y
  rw [e1, e2]
  exact X.may hr (h0 h) hb hla
theorem zPl.msH (X : zPl i n ks gs wt mi pl sk rw) (hi : i ≤ 64) {m : Nat} (h0 : 0 < m) (hm : m < 2 ^ n) : mSh n rw (nI m) := by
  obtain ⟨e, h1, h2⟩ := X.mshs hi h0 hm
  exact ⟨⟨_, h1, by omega, e⟩, fun s hs => ⟨_, by have := (X.msh hi hm hs).2; omega, (X.msh hi hm hs).1⟩⟩
theorem zPl.cx (X : zPl i n ks gs wt mi pl sk rw) (hi : i ≤ 64) {m s : Nat} (hm : m < 2 ^ n) (e : bk_may n ks gs ru bg la = nI m) (hs : s < n) : sa_cx n ks gs wt sk ru bg la (nI s) = lN (zX rw n m s) := by
  unfold sa_cx sa_at sa_am
  rw [e, X.csh hi hm hs, nI_l (by have := (X.msh hi hm hs).2; omega)]
theorem zPl.cy (X : zPl i n ks gs wt mi pl sk rw) (hi : i ≤ 64) {m : Nat} (h0 : 0 < m) (hm : m < 2 ^ n) (e : bk_may n ks gs ru bg la = nI m) : sa_cy n ks gs wt sk ru bg la = lN (zT rw n m) := by
  unfold sa_cy sa_at sa_am
  rw [e, X.call hi hm, nI_l (by have := (X.mshs hi h0 hm).2; omega)]
theorem zPl.hch (X : zPl i n ks gs wt mi pl sk rw) (hi : i ≤ 64) (Y : zDy n ru bg la) : ∀ s : Int32, bk_has n s = true → ¬ fr_cd (sa_cx n ks gs wt sk ru bg la s) (sa_cy n ks gs wt sk ru bg la) ≤ 0 := by
  intro p hp
  rcases zhas X.n6 p with ⟨-, -, s, hs, e⟩ | ⟨-, q⟩
  · obtain ⟨m, h0, hm, e1, -⟩ := X.mayD Y (by omega)
    have a1 := (X.msh hi hm hs).2
    have a2 := (X.mshs hi h0 hm).2
    obtain ⟨g1, g2, g3⟩ := zg_fin (zX rw n m s) (by omega) (zT rw n m) (by omega) a2.1
    rw [e, X.cx hi hm e1 hs, X.cy hi h0 hm e1, g1]
    show ¬ lN _ ≤ lN 0
    rw [lN_le (by omega) (by omega)]
    omega
  · rw [q] at hp; cases hp
theorem zPl.hM (X : zPl i n ks gs wt mi pl sk rw) (hi : i ≤ 64) (Y : zDy n ru bg la) : sa_np n = false → mSh n rw (mo_may n rw ru bg la) := fun h => by
  obtain ⟨m, h0, hm, -, e⟩ := X.mayD Y (sa_np0 h)
  show mSh n rw (mo_may n rw ru bg la)
  rw [e]; exact X.msH hi h0 hm

theorem zPl.fact (X : zPl i n ks gs wt mi pl sk rw) (hi : i ≤ 64) (Y : zDy n ru bg la) {s : Nat} (hs : s < n) : ∀ k : Nat, k < 10 → sa_fact n ks gs wt sk mi pl ru bg la (nI s) (nI k) = mtl n rw ru bg la s (nI k) := by
  have h6 := X.s6 hs
  have h64 := zm_p6 X.n6
  obtain ⟨m, h0, hm, e1, e2⟩ := X.mayD Y (by omega)
  have a1 := (X.msh hi hm hs).2
  have a2 := (X.mshs hi h0 hm).2
  obtain ⟨b, hb, eb, -⟩ := Y.2.1
  obtain ⟨g1, g2, g3⟩ := zg_fin (zX rw n m s) (by omega) (zT rw n m) (by omega) a2.1
  have hc : n32 (nI (zT rw n m)) = zT rw n m := nI_clamp (by omega)
  have hx : n32 (nI (zX rw n m s)) = zX rw n m s := nI_clamp (by omega)
  intro k hk
  rcases (show k = 0 ∨ k = 1 ∨ k = 2 ∨ k = 3 ∨ k = 4 ∨ k = 5 ∨ k = 6 ∨ k = 7 ∨ k = 8 ∨ k = 9 by omega) with q | q | q | q | q | q | q | q | q | q <;> subst q
  · show rw_at 6 ks (nI s) = rw (4 * s); rw [zat h6, X.k s hs]
  · show rw_at 6 gs (nI s) = rw (4 * s + 1); rw [zat h6, X.g s hs]
  · show wg wt sk (nI s) = mo_w rw s; exact X.wgt hs
  · show rw_at 6 mi (nI s) = mo_mins rw s; rw [zat h6, X.m s hs]
  · show rw_at 6 pl (nI s) = rw (4 * s + 2); rw [zat h6, X.p s hs]
  · show rw_at 6 sk (nI s) = rw (4 * s + 3); rw [zat h6, X.q s hs]
  · show vz_b (sa_holds bg (nI s)) = (bg >>> (nI s &&& 31)) &&& 1
    rw [eb, zm_holds b (by omega) s h6, zm_bit b (by omega) s h6]; rfl
  · show vz_b (sa_holds (bk_may n ks gs ru bg la) (nI s)) = (mo_may n rw ru bg la >>> (nI s &&& 31)) &&& 1
    rw [e1, e2, zm_holds m (by omega) s h6, zm_bit m (by omega) s h6]; rfl
  · show (sa_cx n ks gs wt sk ru bg la (nI s) / fr_cd (sa_cx n ks gs wt sk ru bg la (nI s)) (sa_cy n ks gs wt sk ru bg la)).toInt32 = mo_sh n rw s (mo_may n rw ru bg la) / nI (Nat.gcd (n32 (mo_shs n rw (mo_may n rw ru bg la))) (n32 (mo_sh n rw s (mo_may n rw ru bg la))))
    rw [X.cx hi hm e1 hs, X.cy hi h0 hm e1, g1, e2, (X.msh hi hm hs).1, (X.mshs hi h0 hm).1, hc, hx, Nat.gcd_comm (zT rw n m), pk_lDiv (by omega) g2 (by omega), lN_i, pk_div (by omega) g2 (by omega)]
  · show (sa_cy n ks gs wt sk ru bg la / fr_cd (sa_cx n ks gs wt sk ru bg la (nI s)) (sa_cy n ks gs wt sk ru bg la)).toInt32 = mo_shs n rw (mo_may n rw ru bg la) / nI (Nat.gcd (n32 (mo_shs n rw (mo_may n rw ru bg la))) (n32 (mo_sh n rw s (mo_may n rw ru bg la))))
    rw [X.cx hi hm e1 hs, X.cy hi h0 hm e1, g1, e2, (X.msh hi hm hs).1, (X.mshs hi h0 hm).1, hc, hx, Nat.gcd_comm (zT rw n m), pk_lDiv (by omega) g2 (by omega), lN_i, pk_div (by omega) g2 (by omega)]
theorem zw_cases (w : Int32) {N : Nat} (hN : N < 2 ^ 31) : w < 0 ∨ (¬ w < 0 ∧ nI N ≤ w) ∨ ∃ k : Nat, k < N ∧ w = nI k := by
  by_cases h : w < 0
  · exact Or.inl h
  · rcases pk_ix w hN with q | q | q
    · exact absurd q h
    · exact Or.inr (Or.inl ⟨h, q⟩)
    · exact Or.inr (Or.inr q)
theorem zw_ne {w : Int32} {N : Nat} (hN : N < 2 ^ 31) (h : w < 0 ∨ (¬ w < 0 ∧ nI N ≤ w)) : ∀ k : Nat, k < N → ¬ w = nI k := by
  intro k hk e
  rcases h with q | ⟨-, q⟩
  · rw [e] at q; exact nI_pos (by omega) q
  · rw [e] at q; exact nI_ge hk hN q
theorem mtl_no {w : Int32} {s : Nat} (hne : ∀ k : Nat, k < 10 → ¬ w = nI k) : mtl n rw ru bg la s w = -102 := by
  rw [mtl, if_neg (show ¬ w = 0 from hne 0 (by decide)), if_neg (show ¬ w = 1 from hne 1 (by decide)), if_neg (show ¬ w = 2 from hne 2 (by decide)), if_neg (show ¬ w = 3 from hne 3 (by decide)), if_neg (show ¬ w = 4 from hne 4 (by decide)), if_neg (show ¬ w = 5 from hne 5 (by decide)), if_neg (show ¬ w = 6 from hne 6 (by decide)), if_neg (show ¬ w = 7 from hne 7 (by decide)), if_neg (show ¬ w = 8 from hne 8 (by decide)), if_neg (show ¬ w = 9 from hne 9 (by decide))]
theorem zPl.song (X : zPl i n ks gs wt mi pl sk rw) (hi : i ≤ 64) (Y : zDy n ru bg la) (p w : Int32) : so_r n ks gs wt sk mi pl ru bg la p w = ms_r n rw ru bg la p w := by
  unfold so_r ms_r
  rcases zhas X.n6 p with ⟨h1, h2, s, hs, e⟩ | ⟨h1, h2⟩
  · rw [if_pos h1, if_pos h2, e, nI_clamp (by have := X.s6 hs; omega)]
    rcases zw_cases w (N := 10) (by decide) with q | q | ⟨k, hk, q⟩
    · have hne := zw_ne (N := 10) (by decide) (Or.inl q)
      rw [if_pos q, mtl_no hne]
    · have hne := zw_ne (N := 10) (by decide) (Or.inr q)
      rw [if_neg q.1, if_neg (show ¬ w < 10 from Int32.not_lt.mpr q.2), mtl_no hne]
    · rw [q, if_neg (nI_pos (by omega)), if_pos (show nI k < 10 from nI_lt (b := 10) hk (by decide))]
      exact X.fact hi Y hs k hk
  · rw [if_neg (by rw [h2]; decide), if_neg (by rw [h1]; decide)]
end

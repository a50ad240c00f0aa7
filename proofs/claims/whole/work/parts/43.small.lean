/-! as, count, play, skip: class and reference -/
section
variable {i n : Nat} {ks gs wt mi pl sk rw : Nat → Int32} {ru bg la : Int32}
theorem zput {N s : Nat} (f : Nat → Int32) (v : Int32) (h : s < N) (hN : N < 2 ^ 31) : rw_put N f (nI s) v = upd f s v := by
  unfold rw_put
  rw [if_neg (nI_pos (by omega)), if_neg (nI_ge h hN), nI_clamp (by omega)]
theorem zinc {s : Nat} (f : Nat → Int32) (h : s < 6) : rw_inc 6 f (nI s) = upd f s (f s + 1) := by
  unfold rw_inc
  rw [zput f _ h (by decide), zat h]
theorem upd_at (f : Nat → Int32) (k : Nat) (x : Int32) : upd f k x k = x := if_pos rfl
theorem upd_ne (f : Nat → Int32) {k j : Nat} (x : Int32) (h : j ≠ k) : upd f k x j = f j := if_neg h
theorem zPl.as (X : zPl i n ks gs wt mi pl sk rw) (p k : Int32) : as_r n ks p k = ma_r n rw p k := by
  unfold as_r ma_r
  rcases zhas X.n6 p with ⟨h1, h2, s, hs, e⟩ | ⟨h1, h2⟩
  · rw [if_pos h1, if_pos h2]
    rw [show mo_in k.toInt64 0 4 = _ from zin k 0 4]
    by_cases h3 : k < 0
    · rw [if_pos h3, if_pos h3]; rfl
    · rw [if_neg h3, if_neg h3]
      obtain ⟨j, hj, ek⟩ := nI_of h3
      by_cases h4 : j < 5
      · have h5 : k < 5 := by rw [ek]; exact nI_lt (b := 5) h4 (by decide)
        have h6 : ¬ 4 < k := by rw [ek]; exact nI_nlt (a := 4) (by omega) (by decide)
        rw [if_pos h5, if_neg h6, if_pos rfl]
        have hq : bk_is ks p k = ma_is (rw (4 * p.toNatClampNeg)) k := by
          unfold bk_is ma_is
          rw [e, zat (X.s6 hs), X.k s hs, nI_clamp (by have := X.s6 hs; omega)]
          by_cases a : k = rw (4 * s)
          · rw [if_pos a, if_pos a]; simp
          · rw [if_neg a, if_neg a]
        rw [hq]
      · have h5 : ¬ k < 5 := by rw [ek]; exact nI_nlt (b := 5) (by omega) (by omega)
        have h6 : 4 < k := by rw [ek]; exact nI_lt (a := 4) (by omega) (by omega)
        rw [if_neg h5, if_pos h6]; rfl
  · rw [if_neg (by rw [h2]; decide), if_neg (by rw [h1]; decide)]
theorem zsum6 {f : Nat → Int32} (h : ∀ s : Nat, n ≤ s → s < 6 → f s = 0) (hn : n ≤ 6) : rw_sum f 6 = rw_sum f n := by
  have key : ∀ d : Nat, n + d ≤ 6 → rw_sum f (n + d) = rw_sum f n := by
    intro d
    induction d with
    | zero => intro _; rfl
    | succ d ih =>
      intro hd
      show rw_sum f (n + d) + f (n + d) = _
      rw [ih (by omega), h (n + d) (by omega) (by omega), Int32.add_zero]
  have := key (6 - n) (by omega)
  rwa [show n + (6 - n) = 6 by omega] at this
theorem zabn6 {f : Nat → Int32} (h : ∀ s : Nat, n ≤ s → s < 6 → f s = 0) (hn : n ≤ 6) : rw_abn f 6 = rw_abn f n := by
  have key : ∀ d : Nat, n + d ≤ 6 → rw_abn f (n + d) = rw_abn f n := by
    intro d
    induction d with
    | zero => intro _; rfl
    | succ d ih =>
      intro hd
      show rw_abn f (n + d) + (if f (n + d) ≤ 0 then 0 else 1) = _
      rw [ih (by omega), h (n + d) (by omega) (by omega), if_pos (by decide), Int32.add_zero]
  have := key (6 - n) (by omega)
  rwa [show n + (6 - n) = 6 by omega] at this
theorem zPl.sumP (X : zPl i n ks gs wt mi pl sk rw) : rw_sum pl 6 = mo_at rw 2 n := by
  rw [zsum6 X.po X.n6]
  have key : ∀ j : Nat, j ≤ n → rw_sum pl j = mo_at rw 2 j := by
    intro j
    induction j with
    | zero => intro _; rfl
    | succ j ih => intro h; simp only [rw_sum, mo_at]; rw [ih (by omega), X.p j (by omega)]
  exact key n (Nat.le_refl _)
theorem zPl.sumS (X : zPl i n ks gs wt mi pl sk rw) : rw_sum sk 6 = mo_at rw 3 n := by
  rw [zsum6 X.qo X.n6]
  have key : ∀ j : Nat, j ≤ n → rw_sum sk j = mo_at rw 3 j := by
    intro j
    induction j with
    | zero => intro _; rfl
    | succ j ih => intro h; simp only [rw_sum, mo_at]; rw [ih (by omega), X.q j (by omega)]
  exact key n (Nat.le_refl _)
theorem zPl.mins (X : zPl i n ks gs wt mi pl sk rw) : sa_min pl mi n = mo_ma rw n := by
  have key : ∀ j : Nat, j ≤ n → sa_min pl mi j = mo_ma rw j := by
    intro j
    induction j with
    | zero => intro _; rfl
    | succ j ih => intro h; have h6 := X.s6 (show j < n by omega); simp only [sa_min, mo_ma]; rw [ih (by omega), zat h6, zat h6, X.p j (by omega), X.m j (by omega)]
  exact key n (Nat.le_refl _)
theorem zPl.unl (X : zPl i n ks gs wt mi pl sk rw) : rw_abn pl 6 = mo_un rw n := by
  rw [zabn6 X.po X.n6]
  have key : ∀ j : Nat, j ≤ n → rw_abn pl j = mo_un rw j := by
    intro j
    induction j with
    | zero => intro _; rfl
    | succ j ih => intro h; simp only [rw_abn, mo_un]; rw [ih (by omega), X.p j (by omega)]
  exact key n (Nat.le_refl _)
/-- the songs that may come, with or without a player -/
theorem zPl.may0 (X : zPl i n ks gs wt mi pl sk rw) (Y : zDy n ru bg la) : ∃ m : Nat, m < 2 ^ n ∧ bk_may n ks gs ru bg la = nI m ∧ mo_may n rw ru bg la = nI m := by
  rcases Nat.eq_zero_or_pos n with q | q
  · obtain ⟨⟨r, -, e, h0⟩, -⟩ := Y
    rw [e, h0 q, q]
    exact ⟨0, by decide, rfl, rfl⟩
  · obtain ⟨m, -, h⟩ := X.mayD Y q
    exact ⟨m, h⟩
theorem zPl.count (X : zPl i n ks gs wt mi pl sk rw) (Y : zDy n ru bg la) (hm len pr : Nat) (w : Int32) : sa_count n ks gs mi pl sk hm ru bg la len pr w = mct n rw ru bg la hm len pr w := by
  have h64 := zm_p6 X.n6
  obtain ⟨m, hm1, e1, e2⟩ := X.may0 Y
  obtain ⟨b, hb, eb, -⟩ := Y.2.1
  unfold sa_count mct
  rw [X.sumP, X.sumS, X.mins, X.unl, e1, e2, eb, zm_bc m (by omega), zm_bc b (by omega)]
theorem zPl.mono (X : zPl i n ks gs wt mi pl sk rw) {j : Nat} (h : i ≤ j) : zPl j n ks gs wt mi pl sk rw := by
  refine ⟨X.1, fun s hs => ?_, X.2.2⟩
  obtain ⟨a, b, c, ⟨y, d1, d2⟩, ⟨z, e1, e2⟩⟩ := X.2.1 s hs
  exact ⟨a, b, c, ⟨y, by omega, d2⟩, ⟨z, by omega, e2⟩⟩
theorem zbase_upd {k : Nat} {x : Int32} {s : Nat} (h : 4 * s ≠ k) : mo_base (upd rw k x) s = mo_base rw s := by unfold mo_base; rw [upd_ne rw x h]
theorem zmins_upd {k : Nat} {x : Int32} {s : Nat} (h : 4 * s ≠ k) : mo_mins (upd rw k x) s = mo_mins rw s := by unfold mo_mins; rw [upd_ne rw x h]
theorem zPl.incP (X : zPl i n ks gs wt mi pl sk rw) {s : Nat} (hs : s < n) : zPl (i + 1) n ks gs wt mi (rw_inc 6 pl (nI s)) sk (upd rw (4 * s + 2) (rw (4 * s + 2) + 1)) := by
  have hn := X.n6
  rw [zinc pl (X.s6 hs)]
  refine ⟨hn, fun t ht => ?_, fun t h1 h2 => ?_⟩
  · obtain ⟨⟨a1, a2, a3, a4, a5, a6⟩, b, c, ⟨y, d1, d2⟩, ⟨z, e1, e2⟩⟩ := X.2.1 t ht
    rw [upd_ne rw _ (show 4 * t ≠ 4 * s + 2 by omega), upd_ne rw _ (show 4 * t + 1 ≠ 4 * s + 2 by omega), upd_ne rw _ (show 4 * t + 3 ≠ 4 * s + 2 by omega), zbase_upd (by omega), zmins_upd (by omega)]
    by_cases e : t = s
    · subst e
      rw [upd_at, upd_at]
      exact ⟨⟨a1, a2, a3, a4, by rw [a5], a6⟩, b, c, ⟨y + 1, by omega, by rw [d2, nI_1]⟩, ⟨z, by omega, e2⟩⟩
    · rw [upd_ne pl _ e, upd_ne rw _ (show 4 * t + 2 ≠ 4 * s + 2 by omega)]
      exact ⟨⟨a1, a2, a3, a4, a5, a6⟩, b, c, ⟨y, by omega, d2⟩, ⟨z, by omega, e2⟩⟩
  · rw [upd_ne pl _ (show t ≠ s by omega)]; exact X.2.2 t h1 h2
theorem zPl.incS (X : zPl i n ks gs wt mi pl sk rw) {s : Nat} (hs : s < n) : zPl (i + 1) n ks gs wt mi pl (rw_inc 6 sk (nI s)) (upd rw (4 * s + 3) (rw (4 * s + 3) + 1)) := by
  have hn := X.n6
  rw [zinc sk (X.s6 hs)]
  refine ⟨hn, fun t ht => ?_, fun t h1 h2 => ?_⟩
  · obtain ⟨⟨a1, a2, a3, a4, a5, a6⟩, b, c, ⟨y, d1, d2⟩, ⟨z, e1, e2⟩⟩ := X.2.1 t ht
    rw [upd_ne rw _ (show 4 * t ≠ 4 * s + 3 by omega), upd_ne rw _ (show 4 * t + 1 ≠ 4 * s + 3 by omega), upd_ne rw _ (show 4 * t + 2 ≠ 4 * s + 3 by omega), zbase_upd (by omega), zmins_upd (by omega)]
    by_cases e : t = s
    · subst e
      rw [upd_at, upd_at]
      exact ⟨⟨a1, a2, a3, a4, a5, by rw [a6]⟩, b, c, ⟨y, by omega, d2⟩, ⟨z + 1, by omega, by rw [e2, nI_1]⟩⟩
    · rw [upd_ne sk _ e, upd_ne rw _ (show 4 * t + 3 ≠ 4 * s + 3 by omega)]
      exact ⟨⟨a1, a2, a3, a4, a5, a6⟩, b, c, ⟨y, by omega, d2⟩, ⟨z, by omega, e2⟩⟩
  · rw [upd_ne sk _ (show t ≠ s by omega)]; exact X.2.2 t h1 h2
theorem zDy.bag (Y : zDy n ru bg la) (hn : n ≤ 6) {s : Nat} (hs : s < n) : zDy n ru (bk_bag n bg (nI s)) (nI s) := by
  have h64 := zm_p6 hn
  obtain ⟨h1, ⟨b, hb, eb, -⟩, -⟩ := Y
  rw [eb, zm_bag0 n (by omega) b (by omega) s (by omega)]
  obtain ⟨g1, g2⟩ := zm_bag1 n (by omega) b hb s hs
  exact ⟨h1, ⟨_, g2, rfl, fun _ => g1⟩, Or.inr ⟨s, hs, rfl⟩⟩
theorem zDy.bc (Y : zDy n ru bg la) (hn : n ≤ 6) : j_bc bg = mo_ones bg 6 := by
  have h64 := zm_p6 hn
  obtain ⟨h1, ⟨b, hb, eb, -⟩, -⟩ := Y
  rw [eb]; exact zm_bc b (by omega)
/-- play: what it answers -/
theorem zPl.play (X : zPl i n ks gs wt mi pl sk rw) (Y : zDy n ru bg la) (p : Int32) :
    (pl_ok n ks gs ru bg la p = mpl n rw ru bg la p) ∧ (pl_r n ks gs ru bg la p = if mo_in (p : Int32).toInt64 0 (nI n - 1).toInt64 then (if ((mo_may n rw ru bg la) >>> (p &&& 31)) &&& 1 = 0 then -103 else mo_ones (bk_bag n bg p) 6) else -101) ∧ (mpl n rw ru bg la p = true → ∃ s : Nat, s < n ∧ p = nI s) := by
  have h64 := zm_p6 X.n6
  rcases zhas X.n6 p with ⟨h1, h2, s, hs, e⟩ | ⟨h1, h2⟩
  · obtain ⟨m, h0, hm, e1, e2⟩ := X.mayD Y (by omega)
    have h6 := X.s6 hs
    unfold pl_ok mpl pl_r
    rw [if_pos h1, if_pos h2, if_pos h1, if_pos h2, e, e1, e2, zm_holds m (by omega) s h6, zm_bit m (by omega) s h6, (Y.bag X.n6 hs).bc X.n6]
    refine ⟨?_, ?_, fun _ => ⟨s, hs, rfl⟩⟩
    · cases m.testBit s <;> rfl
    · cases m.testBit s <;> rfl
  · unfold pl_ok mpl pl_r
    rw [if_neg (by rw [h2]; decide), if_neg (by rw [h1]; decide), if_neg (by rw [h2]; decide), if_neg (by rw [h1]; decide)]
    exact ⟨rfl, rfl, fun h => by cases h⟩
end

/-! what class and reference hold beside each other, between two calls -/
def zKp (i n : Nat) (ks gs wt mi pl2 sk2 he2 : Nat → Int32) (nh2 : Nat) (ru2 bg2 la2 : Int32) (sd2 : Bool) (pr : Nat) (kro khe : Nat → Int32) (kp kr kb kl : Int32) (kw : Bool) (kh : Nat) : Prop := kp = nI pr ∧ 0 < n ∧ (kr = ru2 ∧ kb = bg2 ∧ kl = la2 ∧ kw = sd2 ∧ kh = nh2) ∧ zPl i n ks gs wt mi pl2 sk2 kro ∧ zDy n ru2 bg2 la2 ∧ zHe n nh2 he2 khe
def zI (i n len : Nat) (cd ks gs wt mi pl sk he : Nat → Int32) (nh : Nat) (ru bg la : Int32) (sd : Bool) (pl2 sk2 he2 : Nat → Int32) (nh2 : Nat) (ru2 bg2 la2 : Int32) (sd2 ik : Bool) (pr : Nat) (pg rw hm kro khe : Nat → Int32) (kp kr kb kl : Int32) (kw : Bool) (kh : Nat) : Prop := zPg len cd pg ∧ zPl i n ks gs wt mi pl sk rw ∧ zDy n ru bg la ∧ zHe n nh he hm ∧ pr ≤ i ∧ (ik = true → zKp i n ks gs wt mi pl2 sk2 he2 nh2 ru2 bg2 la2 sd2 pr kro khe kp kr kb kl kw kh) ∧ (ik = false → kp = -1 ∨ ∃ k : Nat, k < pr ∧ kp = nI k)
theorem zPl.like {i n : Nat} {ks gs wt mi pl sk rw pl' sk' rw' : Nat → Int32} (X : zPl i n ks gs wt mi pl sk rw) (h1 : ∀ s : Nat, s < 6 → pl' s = pl s) (h2 : ∀ s : Nat, s < 6 → sk' s = sk s) (h3 : ∀ k : Nat, k < 24 → rw' k = rw k) : zPl i n ks gs wt mi pl' sk' rw' := by
  have hn := X.n6
  refine ⟨hn, fun s hs => ?_, fun s h4 h6 => ?_⟩
  · have hb : mo_base rw' s = mo_base rw s := by unfold mo_base; rw [h3 _ (show 4 * s < 24 by omega)]
    have hm : mo_mins rw' s = mo_mins rw s := by unfold mo_mins; rw [h3 _ (show 4 * s < 24 by omega)]
    rw [h1 s (by omega), h2 s (by omega), h3 _ (show 4 * s < 24 by omega), h3 _ (show 4 * s + 1 < 24 by omega), h3 _ (show 4 * s + 2 < 24 by omega), h3 _ (show 4 * s + 3 < 24 by omega), hb, hm]
    exact X.2.1 s hs
  · rw [h1 s h6, h2 s h6]; exact X.2.2 s h4 h6
theorem zHe.like {n nh : Nat} {he hm he' hm' : Nat → Int32} (H : zHe n nh he hm) (h1 : ∀ k : Nat, k < 8 → he' k = he k) (h2 : ∀ k : Nat, k < 8 → hm' k = hm k) : zHe n nh he' hm' := by
  have h8 := H.1
  refine ⟨h8, fun k hk => ?_⟩
  rw [h1 k (by omega), h2 k (by omega)]
  exact H.2 k hk
theorem zPg.letter {len : Nat} {cd pg : Nat → Int32} (P : zPg len cd pg) (p : Int32) : (le_r len p = if mo_in (p : Int32).toInt64 1 126 then (if nI len = 22 then -104 else nI (len + 1)) else -102) ∧ le_l len p = pl_n (ml_ok len p) (len + 1) len ∧ zPg (le_l len p) (le_c len cd p) (pl_n (ml_ok len p) (upd pg len p) pg) := by
  have hl := P.1
  have zi : mo_in p.toInt64 1 126 = if p < 1 then false else if 126 < p then false else true := zin p 1 126
  unfold le_r le_l le_c ml_ok
  rw [zi]
  by_cases h1 : p < 1
  · rw [if_pos h1, if_pos h1, if_pos h1, if_pos h1]
    exact ⟨rfl, rfl, P⟩
  · rw [if_neg h1, if_neg h1, if_neg h1, if_neg h1]
    by_cases h2 : p ≤ 126
    · rw [if_pos h2, if_pos h2, if_pos h2, if_neg (Int32.not_lt.mpr h2), if_pos rfl]
      by_cases h3 : len = 22
      · have a : ¬ nI len < 22 := by rw [h3]; decide
        have b : nI len = 22 := by rw [h3]; rfl
        rw [if_neg a, if_neg a, if_neg a, if_pos b]
        refine ⟨rfl, ?_, ?_⟩
        · rw [if_pos rfl, if_pos b]; rfl
        · rw [if_pos rfl, if_pos b]; exact P
      · have a : nI len < 22 := nI_lt (b := 22) (by omega) (by decide)
        have b : ¬ nI len = 22 := fun q => h3 ((nI_eq (b := 22) (by omega) (by decide)).mp q)
        rw [if_pos a, if_pos a, if_pos a, if_neg b]
        refine ⟨rfl, ?_, ?_⟩
        · rw [if_pos rfl, if_neg b]; rfl
        · rw [if_pos rfl, if_neg b, zput cd p (show len < 22 by omega) (by decide)]
          show zPg (len + 1) (upd cd len p) (upd pg len p)
          refine ⟨by omega, fun j hj => ?_⟩
          by_cases e : j = len
          · subst e
            rw [upd_at, upd_at]
            have h0 : ¬ p < 0 := fun q => h1 (Int32.lt_trans q (by decide))
            obtain ⟨y, hy, rfl⟩ := nI_of h0
            have y1 : ¬ y < 1 := fun q => h1 (nI_lt (b := 1) q (by decide))
            have y2 : y ≤ 126 := (nI_leI (b := 126) hy (by decide)).mp h2
            exact ⟨rfl, y, by omega, by omega, rfl⟩
          · rw [upd_ne cd p e, upd_ne pg p e]
            exact P.2 j (by omega)
    · rw [if_neg h2, if_neg h2, if_neg h2, if_pos (Int32.not_le.mp h2)]
      refine ⟨rfl, ?_, ?_⟩
      · rfl
      · exact P
theorem zHe.hear {n nh : Nat} {he hm : Nat → Int32} (H : zHe n nh he hm) (hn : n ≤ 6) (p : Int32) : (he_r n nh p = if mo_in (p : Int32).toInt64 0 (nI n - 1).toInt64 then (if nI nh = 8 then -104 else nI (nh + 1)) else -101) ∧ he_ok n nh p = mhe n nh p ∧ zHe n (pl_n (he_ok n nh p) (nh + 1) nh) (pl_n (he_ok n nh p) (rw_put 8 he (nI nh) p) he) (pl_n (mhe n nh p) (upd hm nh p) hm) := by
  have h8 := H.1
  unfold he_r he_ok mhe
  rcases zhas hn p with ⟨h1, h2, s, hs, e⟩ | ⟨h1, h2⟩
  · rw [if_pos h2, if_pos h2, if_pos h1, if_pos h1]
    by_cases h3 : nh = 8
    · have a : ¬ nI nh < 8 := by rw [h3]; decide
      have b : nI nh = 8 := by rw [h3]; rfl
      rw [if_neg a, if_neg a, if_pos b, if_pos b]
      exact ⟨rfl, rfl, H⟩
    · have a : nI nh < 8 := nI_lt (b := 8) (by omega) (by decide)
      have b : ¬ nI nh = 8 := fun q => h3 ((nI_eq (b := 8) (by omega) (by decide)).mp q)
      rw [if_pos a, if_pos a, if_neg b, if_neg b]
      refine ⟨rfl, rfl, ?_⟩
      show zHe n (nh + 1) (rw_put 8 he (nI nh) p) (upd hm nh p)
      rw [zput he p (show nh < 8 by omega) (by decide)]
      refine ⟨by omega, fun k hk => ?_⟩
      by_cases q : k = nh
      · subst q
        rw [upd_at, upd_at]
        exact ⟨rfl, s, hs, e⟩
      · rw [upd_ne he p q, upd_ne hm p q]
        exact H.2 k (by omega)
  · have a : ¬ bk_has n p = true := by rw [h2]; decide
    have b : ¬ mo_in p.toInt64 0 (nI n - 1).toInt64 = true := by rw [h1]; decide
    rw [if_neg a, if_neg a, if_neg b, if_neg b]
    exact ⟨rfl, rfl, H⟩
theorem zDy.rule {n : Nat} {ru bg la : Int32} (Y : zDy n ru bg la) (p : Int32) : (ru_r n ru p = if mo_in (p : Int32).toInt64 0 3 then (if sa_np n then -103 else ru) else -102) ∧ ru_n n ru p = pl_n (mru n p) p ru ∧ zDy n (ru_n n ru p) bg la := by
  have zi : mo_in p.toInt64 0 3 = if p < 0 then false else if 3 < p then false else true := zin p 0 3
  unfold ru_r ru_n mru
  rw [zi]
  by_cases h1 : p < 0
  · rw [if_pos h1, if_pos h1, if_pos h1]
    exact ⟨rfl, rfl, Y⟩
  · rw [if_neg h1, if_neg h1, if_neg h1]
    obtain ⟨y, hy, rfl⟩ := nI_of h1
    by_cases h2 : y < 4
    · have a : nI y < 4 := nI_lt (b := 4) h2 (by decide)
      have b : ¬ 3 < nI y := nI_nlt (a := 3) (by omega) (by decide)
      rw [if_pos a, if_pos a, if_neg b, if_pos rfl, if_pos rfl]
      cases hs : sa_np n with
      | true => exact ⟨rfl, rfl, Y⟩
      | false =>
        refine ⟨rfl, rfl, ?_⟩
        show zDy n (nI y) bg la
        exact ⟨⟨y, by omega, rfl, fun q => by have := sa_np0 hs; omega⟩, Y.2.1, Y.2.2⟩
    · have a : ¬ nI y < 4 := nI_nlt (b := 4) (by omega) (by omega)
      have b : 3 < nI y := nI_lt (a := 3) (by omega) (by omega)
      rw [if_neg a, if_neg a, if_pos b]
      exact ⟨rfl, rfl, Y⟩
section
variable {i n len : Nat} {cd ks gs wt mi pl sk he : Nat → Int32} {nh : Nat} {ru bg la : Int32} {sd : Bool} {pl2 sk2 he2 : Nat → Int32} {nh2 : Nat} {ru2 bg2 la2 : Int32} {sd2 ik : Bool} {pr : Nat} {pg rw hm kro khe : Nat → Int32} {kp kr kb kl : Int32} {kw : Bool} {kh : Nat}
theorem zI.more (X : zI i n len cd ks gs wt mi pl sk he nh ru bg la sd pl2 sk2 he2 nh2 ru2 bg2 la2 sd2 ik pr pg rw hm kro khe kp kr kb kl kw kh) : zI (i + 1) n len cd ks gs wt mi pl sk he nh ru bg la sd pl2 sk2 he2 nh2 ru2 bg2 la2 sd2 ik pr pg rw hm kro khe kp kr kb kl kw kh := by
  obtain ⟨x1, x2, x3, x4, x5, x6, x7⟩ := X
  refine ⟨x1, x2.mono (Nat.le_succ i), x3, x4, by omega, fun h => ?_, x7⟩
  obtain ⟨a, b, c, d, e, f⟩ := x6 h
  exact ⟨a, b, c, d.mono (Nat.le_succ i), e, f⟩
theorem zI.key (X : zI i n len cd ks gs wt mi pl sk he nh ru bg la sd pl2 sk2 he2 nh2 ru2 bg2 la2 sd2 ik pr pg rw hm kro khe kp kr kb kl kw kh) (hi : i ≤ 64) : mre kp pr = ik := by
  obtain ⟨-, -, -, -, x5, x6, x7⟩ := X
  unfold mre
  cases ik with
  | true => rw [if_pos (x6 rfl).1]
  | false =>
    rw [if_neg]
    rcases x7 rfl with h | ⟨k, hk, h⟩
    · rw [h]
      intro q
      have hn : ¬ nI pr < 0 := nI_pos (by omega)
      rw [← q] at hn
      exact hn (by decide)
    · rw [h]
      intro q
      have := (nI_eq (by omega) (by omega)).mp q
      omega
theorem zI.letter (X : zI i n len cd ks gs wt mi pl sk he nh ru bg la sd pl2 sk2 he2 nh2 ru2 bg2 la2 sd2 ik pr pg rw hm kro khe kp kr kb kl kw kh) (p : Int32) : zI (i + 1) n (le_l len p) (le_c len cd p) ks gs wt mi pl sk he nh ru bg la sd pl2 sk2 he2 nh2 ru2 bg2 la2 sd2 ik pr (pl_n (ml_ok len p) (upd pg len p) pg) rw hm kro khe kp kr kb kl kw kh := by
  obtain ⟨x1, x2⟩ := X.more
  exact ⟨(x1.letter p).2.2, x2⟩
theorem zI.blank (X : zI i n len cd ks gs wt mi pl sk he nh ru bg la sd pl2 sk2 he2 nh2 ru2 bg2 la2 sd2 ik pr pg rw hm kro khe kp kr kb kl kw kh) : zI (i + 1) n 0 cd ks gs wt mi pl sk he nh ru bg la sd pl2 sk2 he2 nh2 ru2 bg2 la2 sd2 ik pr pg rw hm kro khe kp kr kb kl kw kh := by
  obtain ⟨x1, x2⟩ := X.more
  exact ⟨⟨Nat.zero_le _, fun j hj => absurd hj (Nat.not_lt_zero _)⟩, x2⟩
theorem zI.player (X : zI i n len cd ks gs wt mi pl sk he nh ru bg la sd pl2 sk2 he2 nh2 ru2 bg2 la2 sd2 ik pr pg rw hm kro khe kp kr kb kl kw kh) (rd : Nat → Int32) (rr : Int32) : ∃ N : Nat, N ≤ 6 ∧ (pg_whole cd len = true → pg_songs len = nI N ∧ (fo pg len 0 rd 0 rr 0).2.2.1 = N ∧ rw_at 22 cd (nI len - 1) - 48 = (fo pg len 0 rd 0 rr 0).2.2.2.1) ∧ mp_ok len (fo pg len 0 rd 0 rr 0) = pg_whole cd len ∧ zI (i + 1) (pl_n (pg_whole cd len) (N) n) (pl_n (pg_whole cd len) (0) len) cd (pl_n (pg_whole cd len) (rd_f (rd_k cd) ks N) ks) (pl_n (pg_whole cd len) (rd_f (rd_g cd) gs N) gs) (pl_n (pg_whole cd len) (rd_f (rd_w cd) wt N) wt) (pl_n (pg_whole cd len) (rd_f (rd_m cd) mi N) mi) (pl_n (pg_whole cd len) (rw_clr pl 6) pl) (pl_n (pg_whole cd len) (rw_clr sk 6) sk) he (pl_n (pg_whole cd len) (0) nh) (pl_n (pg_whole cd len) (rw_at 22 cd (nI len - 1) - 48) ru) (pl_n (pg_whole cd len) (bk_all N) bg) (pl_n (pg_whole cd len) (-1) la) (pl_n (pg_whole cd len) (false) sd) pl2 sk2 he2 nh2 ru2 bg2 la2 sd2 (pl_n (pg_whole cd len) (false) ik) (pl_n (pg_whole cd len) (pr + 1) pr) pg (pl_n (pg_whole cd len) (mp_rows (fo pg len 0 rd 0 rr 0).2.1 rw N) rw) hm kro khe kp kr kb kl kw kh := by
  obtain ⟨x1, x2, x3, x4, x5, x6, x7⟩ := X.more
  rcases zwhole x1 rd rr with ⟨h1, h2⟩ | ⟨h1, h2, -⟩
  · refine ⟨0, Nat.zero_le _, fun q => (by rw [h1] at q; cases q), by rw [h1, h2], ?_⟩
    rw [h1]
    exact ⟨x1, x2, x3, x4, x5, x6, x7⟩
  · obtain ⟨N, n2, n6, e1, e2, X0, e3, Y0⟩ := zplayer x1 rd rw rr ks gs wt mi pl sk h1
    refine ⟨N, n6, fun _ => ⟨e2, e1, e3⟩, by rw [h1, h2], ?_⟩
    rw [h1]
    refine ⟨⟨Nat.zero_le _, fun j hj => absurd hj (Nat.not_lt_zero _)⟩, X0.mono (Nat.zero_le _), ?_, ⟨Nat.zero_le _, fun k hk => absurd hk (Nat.not_lt_zero _)⟩, ?_, fun q => (by cases q), fun _ => ?_⟩
    · show zDy N (rw_at 22 cd (nI len - 1) - 48) (bk_all N) (-1)
      rw [e3]; exact Y0
    · show pr + 1 ≤ i + 1
      obtain ⟨-, -, -, -, y5, -⟩ := X
      omega
    · show kp = -1 ∨ ∃ k : Nat, k < pr + 1 ∧ kp = nI k
      cases ik with
      | true => exact Or.inr ⟨pr, by omega, (x6 rfl).1⟩
      | false =>
        rcases x7 rfl with q | ⟨k, hk, q⟩
        · exact Or.inl q
        · exact Or.inr ⟨k, by omega, q⟩
theorem zI.rule (X : zI i n len cd ks gs wt mi pl sk he nh ru bg la sd pl2 sk2 he2 nh2 ru2 bg2 la2 sd2 ik pr pg rw hm kro khe kp kr kb kl kw kh) (p : Int32) : zI (i + 1) n len cd ks gs wt mi pl sk he nh (ru_n n ru p) bg la sd pl2 sk2 he2 nh2 ru2 bg2 la2 sd2 ik pr pg rw hm kro khe kp kr kb kl kw kh := by
  obtain ⟨x1, x2, x3, x4⟩ := X.more
  exact ⟨x1, x2, (x3.rule p).2.2, x4⟩
theorem zI.play (X : zI i n len cd ks gs wt mi pl sk he nh ru bg la sd pl2 sk2 he2 nh2 ru2 bg2 la2 sd2 ik pr pg rw hm kro khe kp kr kb kl kw kh) (p : Int32) : zI (i + 1) n len cd ks gs wt mi (pl_n (pl_ok n ks gs ru bg la p) (rw_inc 6 pl p) pl) sk he nh ru (pl_n (pl_ok n ks gs ru bg la p) (bk_bag n bg p) bg) (pl_n (pl_ok n ks gs ru bg la p) p la) (pl_n (pl_ok n ks gs ru bg la p) false sd) pl2 sk2 he2 nh2 ru2 bg2 la2 sd2 ik pr pg (pl_n (pl_ok n ks gs ru bg la p) (upd rw (4 * p.toNatClampNeg + 2) (rw (4 * p.toNatClampNeg + 2) + 1)) rw) hm kro khe kp kr kb kl kw kh := by
  obtain ⟨e1, -, e3⟩ := X.2.1.play X.2.2.1 p
  cases h : pl_ok n ks gs ru bg la p with
  | false => exact X.more
  | true =>
    obtain ⟨s, hs, rfl⟩ := e3 (e1.symm.trans h)
    obtain ⟨x1, x2, x3, x4, x5, x6, x7⟩ := X.more
    have h6 := X.2.1.s6 hs
    have X2 := X.2.1.incP hs
    refine ⟨x1, ?_, x3.bag x2.n6 hs, x4, x5, x6, x7⟩
    show zPl (i + 1) n ks gs wt mi (rw_inc 6 pl (nI s)) sk (upd rw (4 * (nI s).toNatClampNeg + 2) (rw (4 * (nI s).toNatClampNeg + 2) + 1))
    rw [nI_clamp (by omega)]
    exact X2
theorem zI.skip (X : zI i n len cd ks gs wt mi pl sk he nh ru bg la sd pl2 sk2 he2 nh2 ru2 bg2 la2 sd2 ik pr pg rw hm kro khe kp kr kb kl kw kh) : zI (i + 1) n len cd ks gs wt mi pl (pl_n (sk_ok la sd) (rw_inc 6 sk la) sk) he nh ru bg la (pl_n (sk_ok la sd) true sd) pl2 sk2 he2 nh2 ru2 bg2 la2 sd2 ik pr pg (pl_n (sk_ok la sd) (upd rw (4 * la.toNatClampNeg + 3) (rw (4 * la.toNatClampNeg + 3) + 1)) rw) hm kro khe kp kr kb kl kw kh := by
  cases h : sk_ok la sd with
  | false => exact X.more
  | true =>
    have hla : ¬ la = -1 := fun q => by
      unfold sk_ok at h
      rw [if_pos q] at h; cases h
    obtain ⟨s, hs, rfl⟩ := X.2.2.1.2.2.resolve_left hla
    obtain ⟨x1, x2, x3, x4, x5, x6, x7⟩ := X.more
    have h6 := X.2.1.s6 hs
    have X2 := X.2.1.incS hs
    refine ⟨x1, ?_, x3, x4, x5, x6, x7⟩
    show zPl (i + 1) n ks gs wt mi pl (rw_inc 6 sk (nI s)) (upd rw (4 * (nI s).toNatClampNeg + 3) (rw (4 * (nI s).toNatClampNeg + 3) + 1))
    rw [nI_clamp (by omega)]
    exact X2
theorem zI.skr (X : zI i n len cd ks gs wt mi pl sk he nh ru bg la sd pl2 sk2 he2 nh2 ru2 bg2 la2 sd2 ik pr pg rw hm kro khe kp kr kb kl kw kh) : sk_r wt sk la sd = if la = -1 then -103 else if sd then -103 else mo_w (upd rw (4 * la.toNatClampNeg + 3) (rw (4 * la.toNatClampNeg + 3) + 1)) la.toNatClampNeg := by
  unfold sk_r
  by_cases hla : la = -1
  · rw [if_pos hla, if_pos hla]
  · rw [if_neg hla, if_neg hla]
    cases sd with
    | true => rw [if_pos rfl, if_pos rfl]
    | false =>
      rw [if_neg (by decide), if_neg (by decide)]
      obtain ⟨s, hs, rfl⟩ := X.2.2.1.2.2.resolve_left hla
      have h6 := X.2.1.s6 hs
      rw [nI_clamp (by omega)]
      exact (X.2.1.incS hs).wgt hs
theorem zI.hear (X : zI i n len cd ks gs wt mi pl sk he nh ru bg la sd pl2 sk2 he2 nh2 ru2 bg2 la2 sd2 ik pr pg rw hm kro khe kp kr kb kl kw kh) (p : Int32) : zI (i + 1) n len cd ks gs wt mi pl sk (pl_n (he_ok n nh p) (rw_put 8 he (nI nh) p) he) (pl_n (he_ok n nh p) (nh + 1) nh) ru bg la sd pl2 sk2 he2 nh2 ru2 bg2 la2 sd2 ik pr pg rw (pl_n (mhe n nh p) (upd hm nh p) hm) kro khe kp kr kb kl kw kh := by
  obtain ⟨x1, x2, x3, x4, x5⟩ := X.more
  exact ⟨x1, x2, x3, (x4.hear x2.n6 p).2.2, x5⟩
theorem zI.forget (X : zI i n len cd ks gs wt mi pl sk he nh ru bg la sd pl2 sk2 he2 nh2 ru2 bg2 la2 sd2 ik pr pg rw hm kro khe kp kr kb kl kw kh) : zI (i + 1) n len cd ks gs wt mi pl sk he 0 ru bg la sd pl2 sk2 he2 nh2 ru2 bg2 la2 sd2 ik pr pg rw hm kro khe kp kr kb kl kw kh := by
  obtain ⟨x1, x2, x3, x4, x5⟩ := X.more
  exact ⟨x1, x2, x3, ⟨Nat.zero_le _, fun k hk => absurd hk (Nat.not_lt_zero _)⟩, x5⟩
theorem zI.image (X : zI i n len cd ks gs wt mi pl sk he nh ru bg la sd pl2 sk2 he2 nh2 ru2 bg2 la2 sd2 ik pr pg rw hm kro khe kp kr kb kl kw kh) : zI (i + 1) n len cd ks gs wt mi pl sk he nh ru bg la sd (pl_n (sa_np n) pl2 (rw_cp pl pl2 6)) (pl_n (sa_np n) sk2 (rw_cp sk sk2 6)) (pl_n (sa_np n) he2 (rw_cp he he2 8)) (pl_n (sa_np n) nh2 (nh)) (pl_n (sa_np n) ru2 (ru)) (pl_n (sa_np n) bg2 (bg)) (pl_n (sa_np n) la2 (la)) (pl_n (sa_np n) sd2 (sd)) (pl_n (sa_np n) ik (true)) pr pg rw hm (pl_n (sa_np n) kro (rw_cp rw kro 24)) (pl_n (sa_np n) khe (rw_cp hm khe 8)) (pl_n (sa_np n) kp (nI pr)) (pl_n (sa_np n) kr (ru)) (pl_n (sa_np n) kb (bg)) (pl_n (sa_np n) kl (la)) (pl_n (sa_np n) kw (sd)) (pl_n (sa_np n) kh (nh)) := by
  cases h : sa_np n with
  | true => exact X.more
  | false =>
    obtain ⟨x1, x2, x3, x4, x5, x6, x7⟩ := X.more
    refine ⟨x1, x2, x3, x4, x5, fun _ => ?_, fun q => (by cases q)⟩
    exact ⟨rfl, sa_np0 h, ⟨rfl, rfl, rfl, rfl, rfl⟩, x2.like (fun s hs => if_pos hs) (fun s hs => if_pos hs) (fun k hk => if_pos hk), x3, x4.like (fun k hk => if_pos hk) (fun k hk => if_pos hk)⟩
theorem zI.restore (X : zI i n len cd ks gs wt mi pl sk he nh ru bg la sd pl2 sk2 he2 nh2 ru2 bg2 la2 sd2 ik pr pg rw hm kro khe kp kr kb kl kw kh) : zI (i + 1) n len cd ks gs wt mi (pl_n ik (rw_cp pl2 pl 6) pl) (pl_n ik (rw_cp sk2 sk 6) sk) (pl_n ik (rw_cp he2 he 8) he) (pl_n ik (nh2) nh) (pl_n ik (ru2) ru) (pl_n ik (bg2) bg) (pl_n ik (la2) la) (pl_n ik (sd2) sd) pl2 sk2 he2 nh2 ru2 bg2 la2 sd2 ik pr pg (pl_n ik (rw_cp kro rw 24) rw) (pl_n ik (rw_cp khe hm 8) hm) kro khe kp kr kb kl kw kh ∧ (ik = true → rw_sum (rw_cp pl2 pl 6) 6 = mo_at (rw_cp kro rw 24) 2 n ∧ kr = ru2 ∧ kb = bg2 ∧ kl = la2 ∧ kw = sd2 ∧ kh = nh2) := by
  cases ik with
  | false => exact ⟨X.more, fun q => (by cases q)⟩
  | true =>
    obtain ⟨x1, x2, x3, x4, x5, x6, x7⟩ := X.more
    obtain ⟨a, b, c, d, e, f⟩ := x6 rfl
    have X2 : zPl (i + 1) n ks gs wt mi (rw_cp pl2 pl 6) (rw_cp sk2 sk 6) (rw_cp kro rw 24) := d.like (fun s hs => if_pos hs) (fun s hs => if_pos hs) (fun k hk => if_pos hk)
    exact ⟨⟨x1, X2, e, f.like (fun k hk => if_pos hk) (fun k hk => if_pos hk), x5, x6, x7⟩, fun _ => ⟨X2.sumP, c⟩⟩
theorem zI.dd (X : zI i n len cd ks gs wt mi pl sk he nh ru bg la sd pl2 sk2 he2 nh2 ru2 bg2 la2 sd2 ik pr pg rw hm kro khe kp kr kb kl kw kh) (hi : i ≤ 64) : sa_np n = false → mSh n rw (mo_may n rw ru bg la) ∧ (∀ i : Nat, i < n → ¬ (mo_shs n rw (mo_may n rw ru (bk_bag n bg (nI i)) (nI i))).toInt64 = 0) ∧ (∀ i j : Nat, i < n → j < n → ¬ (mo_shs n rw (mo_may n rw ru (bk_bag n (bk_bag n bg (nI i)) (nI j)) (nI j))).toInt64 = 0) ∧ mTw (to_low n rw (mo_may n rw ru bg la) 2) (to_up n rw ru bg (mo_may n rw ru bg la) 2 n) := by
  intro h
  obtain ⟨-, x2, x3, -⟩ := X
  have hp := sa_np0 h
  have hn := x2.n6
  exact ⟨x2.hM hi x3 h, fun a ha => x2.nz hi (x3.bag hn ha) hp, fun a b ha hb => x2.nz hi ((x3.bag hn ha).bag hn hb) hp, x2.hT hi x3 hp (Or.inl rfl)⟩
theorem zI.start : zI 0 0 0 (fun _ => 0) (fun _ => 0) (fun _ => 0) (fun _ => 0) (fun _ => 0) (fun _ => 0) (fun _ => 0) (fun _ => 0) 0 0 0 (-1) false (fun _ => 0) (fun _ => 0) (fun _ => 0) 0 0 0 (-1) false false 0 (fun _ => 0) (fun _ => 0) (fun _ => 0) (fun _ => 0) (fun _ => 0) (-1) 0 0 0 false 0 := by
  refine ⟨⟨Nat.zero_le _, fun j hj => absurd hj (Nat.not_lt_zero _)⟩, ⟨Nat.zero_le _, fun s hs => absurd hs (Nat.not_lt_zero _), fun s _ _ => ⟨rfl, rfl⟩⟩, ⟨⟨0, Nat.zero_le _, rfl, fun _ => rfl⟩, ⟨0, by decide, rfl, fun h => absurd h (Nat.lt_irrefl _)⟩, Or.inl rfl⟩, ⟨Nat.zero_le _, fun k hk => absurd hk (Nat.not_lt_zero _)⟩, Nat.le_refl _, fun q => (by cases q), fun _ => Or.inl rfl⟩
end

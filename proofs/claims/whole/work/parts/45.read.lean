/-! the page read whole: the player that comes of it -/
section
variable {len : Nat} {cd pg : Nat → Int32}
theorem zVa0 (pg rd : Nat → Int32) : zVa pg 0 (-1) rd 0 0 := ⟨rfl, rfl, rfl, by decide, fun j h => absurd h (Nat.not_lt_zero _), fun t h => absurd h (Nat.not_lt_zero _), fun t h => absurd h (Nat.not_lt_zero _)⟩
theorem zfault (P : zPg len cd pg) (rd : Nat → Int32) (rr : Int32) : pg_first cd len = nI (fo pg len 0 rd 0 rr 0).1 :=
  (zff P len 0 (-1) rd 0 rr 0 (by omega) (Or.inl (zVa0 pg rd))).1
theorem zat22 (P : zPg len cd pg) {j : Nat} (h : j < len) : rw_at 22 cd (nI j) = pg j := by
  have := P.1
  rw [rw_at_in cd (by omega) (by decide)]; exact (P.2 j h).1
theorem zlen2 : rw_at 22 cd (nI 0 - 2) = 0 ∧ rw_at 22 cd (nI 1 - 2) = 0 := ⟨if_pos (by decide), if_pos (by decide)⟩
theorem zwhole (P : zPg len cd pg) (rd : Nat → Int32) (rr : Int32) : (pg_whole cd len = false ∧ mp_ok len (fo pg len 0 rd 0 rr 0) = false) ∨ (pg_whole cd len = true ∧ mp_ok len (fo pg len 0 rd 0 rr 0) = true ∧ ∃ t : Nat, 1 ≤ t ∧ t ≤ 5 ∧ len = 3 * t + 4 ∧ (fo pg len 0 rd 0 rr 0).2.2.1 = t + 1 ∧ zRd pg (fo pg len 0 rd 0 rr 0).2.1 (3 * t + 2) ∧ (fo pg len 0 rd 0 rr 0).2.2.2.1 = pg (3 * t + 3) - 48 ∧ ∃ y : Nat, y ≤ 3 ∧ pg (3 * t + 3) - 48 = nI y) := by
  obtain ⟨e1, h⟩ := zff P len 0 (-1) rd 0 rr 0 (by omega) (Or.inl (zVa0 pg rd))
  have hl := P.1
  have e1' : pg_first cd len = nI (fo pg len 0 rd 0 rr 0).1 := e1
  generalize fo pg len 0 rd 0 rr 0 = F at e1' h ⊢
  unfold pg_whole mp_ok
  rw [e1']
  rcases h with h | ⟨h, s', ⟨q1, q2, q3, q4, q5, q6⟩ | ⟨t, t1, t5, q1, q2, q3, q4, q5, q6⟩⟩
  · left
    rw [if_neg (fun q => by rw [nI_eq (by omega) (by omega)] at q; omega), if_pos (nI_lt h (by omega))]
    exact ⟨rfl, rfl⟩
  · left
    have h4 : ¬ nI F.2.2.2.2 = 4 := by
      intro q
      rw [show (4 : Int32) = nI 4 from rfl, nI_eq (by omega) (by decide)] at q; omega
    rw [h, if_pos rfl, if_neg (nI_nlt (Nat.le_refl _) (by omega)), if_neg h4]
    refine ⟨if_neg (fun q => ?_), rfl⟩
    by_cases hl2 : 2 ≤ len
    · rw [show nI len - 2 = nI (len - 2) from pk_sub (b := 2) hl2, zat22 P (by omega)] at q
      exact q5 _ (by omega) q
    · rcases (show len = 0 ∨ len = 1 by omega) with z | z
      · rw [z, zlen2.1] at q; exact absurd q (by decide)
      · rw [z, zlen2.2] at q; exact absurd q (by decide)
  · rcases q6 with ⟨u1, u2⟩ | ⟨u1, u2, u3, u4⟩
    · left
      have h4 : ¬ nI F.2.2.2.2 = 4 := by rw [u2]; decide
      rw [h, if_pos rfl, if_neg (nI_nlt (Nat.le_refl _) (by omega)), if_neg h4]
      refine ⟨if_neg (fun q => ?_), rfl⟩
      rw [show nI len - 2 = nI (len - 2) from pk_sub (b := 2) (by omega), zat22 P (by omega)] at q
      exact q4 _ (by omega) (by omega) q
    · right
      have h59 : rw_at 22 cd (nI len - 2) = 59 := by
        rw [show nI len - 2 = nI (len - 2) from pk_sub (b := 2) (by omega), zat22 P (by omega), show len - 2 = 3 * t + 2 by omega]; exact q2
      rw [h, if_pos rfl, if_neg (nI_nlt (Nat.le_refl _) (by omega)), if_pos h59, if_pos (show nI F.2.2.2.2 = 4 by rw [u2]; rfl)]
      exact ⟨rfl, rfl, t, t1, t5, by omega, q3, q5, u3, u4⟩
theorem zrd_f (g old : Nat → Int32) : ∀ (N s : Nat), N ≤ 6 → s < N → rd_f g old N s = g s
  | 0, s, _, h => absurd h (Nat.not_lt_zero _)
  | N + 1, s, hN, h => by
    simp only [rd_f]
    rw [zput _ _ (show N < 6 by omega) (by decide)]
    by_cases e : s = N
    · subst e; rw [upd_at]
    · rw [upd_ne _ _ e]; exact zrd_f g old N s (by omega) (by omega)
theorem zrows (rd rw : Nat → Int32) : ∀ (N s : Nat), s < N → mp_rows rd rw N (4 * s) = rd (2 * s) ∧ mp_rows rd rw N (4 * s + 1) = rd (2 * s + 1) ∧ mp_rows rd rw N (4 * s + 2) = 0 ∧ mp_rows rd rw N (4 * s + 3) = 0
  | 0, s, h => absurd h (Nat.not_lt_zero _)
  | N + 1, s, h => by
    simp only [mp_rows]
    by_cases e : s = N
    · subst e
      rw [upd_at, upd_ne _ _ (show 4 * s ≠ 4 * s + 3 by omega), upd_ne _ _ (show 4 * s ≠ 4 * s + 2 by omega), upd_ne _ _ (show 4 * s ≠ 4 * s + 1 by omega), upd_at, upd_ne _ _ (show 4 * s + 1 ≠ 4 * s + 3 by omega), upd_ne _ _ (show 4 * s + 1 ≠ 4 * s + 2 by omega), upd_at, upd_ne _ _ (show 4 * s + 2 ≠ 4 * s + 3 by omega), upd_at]
      exact ⟨rfl, rfl, rfl, rfl⟩
    · have hk : ∀ (k : Nat), k < 4 → upd (upd (upd (upd (mp_rows rd rw N) (4 * N) (rd (2 * N))) (4 * N + 1) (rd (2 * N + 1))) (4 * N + 2) 0) (4 * N + 3) 0 (4 * s + k) = mp_rows rd rw N (4 * s + k) := by
        intro k hk
        rw [upd_ne _ _ (show 4 * s + k ≠ 4 * N + 3 by omega), upd_ne _ _ (show 4 * s + k ≠ 4 * N + 2 by omega), upd_ne _ _ (show 4 * s + k ≠ 4 * N + 1 by omega), upd_ne _ _ (show 4 * s + k ≠ 4 * N by omega)]
      rw [show upd (upd (upd (upd (mp_rows rd rw N) (4 * N) (rd (2 * N))) (4 * N + 1) (rd (2 * N + 1))) (4 * N + 2) 0) (4 * N + 3) 0 (4 * s) = _ from hk 0 (by decide), hk 1 (by decide), hk 2 (by decide), hk 3 (by decide)]
      exact zrows rd rw N s (by omega)
theorem zclr {f : Nat → Int32} {s : Nat} (h : s < 6) : rw_clr f 6 s = 0 := if_pos h
theorem zplayer (P : zPg len cd pg) (rd rw : Nat → Int32) (rr : Int32) (ks gs wt mi pl sk : Nat → Int32) (hw : pg_whole cd len = true) :
    ∃ N : Nat, 2 ≤ N ∧ N ≤ 6 ∧ (fo pg len 0 rd 0 rr 0).2.2.1 = N ∧ pg_songs len = nI N ∧ zPl 0 N (rd_f (rd_k cd) ks N) (rd_f (rd_g cd) gs N) (rd_f (rd_w cd) wt N) (rd_f (rd_m cd) mi N) (rw_clr pl 6) (rw_clr sk 6) (mp_rows (fo pg len 0 rd 0 rr 0).2.1 rw N) ∧ rw_at 22 cd (nI len - 1) - 48 = (fo pg len 0 rd 0 rr 0).2.2.2.1 ∧ zDy N (fo pg len 0 rd 0 rr 0).2.2.2.1 (bk_all N) (-1) := by
  have hl := P.1
  rcases zwhole P rd rr with ⟨h, -⟩ | ⟨-, -, t, t1, t5, el, e1, e2, e3, e4⟩
  · rw [h] at hw; cases hw
  generalize fo pg len 0 rd 0 rr 0 = F at e1 e2 e3 ⊢
  refine ⟨t + 1, by omega, by omega, e1, ?_, ⟨by omega, fun s hs => ?_, fun s h1 h2 => ⟨zclr h2, zclr h2⟩⟩, ?_, ?_⟩
  · have e5 : (nI len - 1) / 3 = nI (t + 1) := by
      rw [show nI len - 1 = nI (len - 1) from pk_sub (b := 1) (by omega)]
      show nI (len - 1) / nI 3 = _
      rw [pk_div (by omega) (by decide) (by decide)]
      congr 1
      omega
    unfold pg_songs
    rw [e5]
    by_cases h : nI (t + 1) < 6
    · rw [if_pos h]
    · rw [if_neg h]
      have : t = 5 := by
        rcases (show t < 5 ∨ t = 5 by omega) with q | q
        · exact absurd (nI_lt (b := 6) (show t + 1 < 6 by omega) (by decide)) h
        · exact q
      subst this; rfl
  · have r1 := (e2.1 s (by omega))
    have r2 := (e2.2 s (by omega))
    obtain ⟨m1, m2, m3, m4⟩ := zrows F.2.1 rw (t + 1) s hs
    obtain ⟨c0, c, hc0, hc, ec⟩ := P.2 (3 * s) (by omega)
    have hk : rd_k cd s = mo_kind (pg (3 * s)) := by
      unfold rd_k
      rw [show (3 : Int32) * nI s = nI (3 * s) from pk_mul 3 s, zat22 P (by omega), ec]; exact (zf_kind c hc).1
    have hg : rd_g cd s = pg (3 * s + 1) - 48 := by
      unfold rd_g
      rw [show (3 : Int32) * nI s = nI (3 * s) from pk_mul 3 s, nI_1, zat22 P (by omega)]
    have hW : rd_w cd s = bk_wof (rd_k cd s) := rfl
    have hM : rd_m cd s = if rd_k cd s = 1 then 7 else 3 := rfl
    rw [zrd_f _ _ _ _ (by omega) hs, zrd_f _ _ _ _ (by omega) hs, zrd_f _ _ _ _ (by omega) hs, zrd_f _ _ _ _ (by omega) hs, zclr (by omega), zclr (by omega)]
    unfold mo_base mo_mins
    rw [m1, m2, m3, m4, hW, hM, hk, hg, r1.1, r2.1]
    exact ⟨⟨rfl, rfl, rfl, rfl, rfl, rfl⟩, r1.2, r2.2, ⟨0, Nat.le_refl _, rfl⟩, ⟨0, Nat.le_refl _, rfl⟩⟩
  · rw [show nI len - 1 = nI (len - 1) from pk_sub (b := 1) (by omega), zat22 P (by omega), e3, show len - 1 = 3 * t + 3 by omega]
  · obtain ⟨y, hy, ey⟩ := e4
    have h1 : 2 ^ 1 ≤ 2 ^ (t + 1) := Nat.pow_le_pow_right (by omega) (by omega)
    exact ⟨⟨y, hy, by rw [e3, ey], fun q => by omega⟩, ⟨2 ^ (t + 1) - 1, by omega, zm_all _ (by omega), fun _ => by omega⟩, Or.inl rfl⟩
end

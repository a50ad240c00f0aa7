/-! the reference's row, digit by digit -/
theorem zrow_len (n : Nat) : ∀ j c : Nat, (zrow n j c).length = j
  | 0, _ => rfl
  | j + 1, c => by simp only [zrow, List.length_cons]; rw [zrow_len n j]
theorem zrow_low {n : Nat} : ∀ j c : Nat, zrow n (j + 1) c = zrow n j (c / n) ++ [c % n]
  | 0, c => by
    show (c / n ^ 0 % n) :: [] = _
    rw [Nat.pow_zero, Nat.div_one]; rfl
  | j + 1, c => by
    show (c / n ^ (j + 1) % n) :: zrow n (j + 1) (c % n ^ (j + 1)) = ((c / n) / n ^ j % n) :: zrow n j ((c / n) % n ^ j) ++ [c % n]
    rw [zrow_low j, Nat.div_div_eq_div_mul, Nat.pow_succ, Nat.mul_comm (n ^ j) n, Nat.mod_mul_right_div_self, Nat.mod_mod_of_dvd _ ⟨n ^ j, rfl⟩]
    rfl
theorem zrow_lt {n : Nat} (h0 : 0 < n) : ∀ (j c : Nat) (x : Nat), x ∈ zrow n j c → x < n
  | 0, _, x, h => by simp only [zrow] at h; exact absurd h List.not_mem_nil
  | j + 1, c, x, h => by
    simp only [zrow] at h
    rcases List.mem_cons.mp h with q | q
    · rw [q]; exact Nat.mod_lt _ h0
    · exact zrow_lt h0 j _ x q
theorem zadj_snoc (rw : Nat → Int32) (y x : Nat) : ∀ (L : List Nat) (pv : Option Nat), zadj rw pv (L ++ [y] ++ [x]) = (zadj rw pv (L ++ [y]) && zok rw y x)
  | [], pv => by
    show (zokp rw pv y && (zokp rw (some y) x && true)) = ((zokp rw pv y && true) && zok rw y x)
    rw [Bool.and_true, Bool.and_true]; rfl
  | a :: L, pv => by
    show (zokp rw pv a && zadj rw (some a) (L ++ [y] ++ [x])) = ((zokp rw pv a && zadj rw (some a) (L ++ [y])) && zok rw y x)
    rw [zadj_snoc rw y x L (some a), Bool.and_assoc]
theorem zly1 {n : Nat} (h0 : 0 < n) : ∀ (j : Nat) (f : Nat → Int32) (c : Nat) (s : Int32) (t : Nat), (ly n j f c s).1 t = if t < j then nI (((zrow n j c)[t]?).getD 0) else f t
  | 0, f, c, s, t => by rw [if_neg (Nat.not_lt_zero _)]; rfl
  | j + 1, f, c, s, t => by
    simp only [ly]
    rw [zly1 h0 j, zrow_low]
    have hl := zrow_len n j (c / n)
    rcases Nat.lt_trichotomy t j with q | q | q
    · rw [if_pos q, if_pos (by omega), List.getElem?_append_left (by omega)]
    · subst q
      rw [if_neg (Nat.lt_irrefl _), if_pos (Nat.lt_succ_self _), upd_at]
      have e := List.getElem?_concat_length (l := zrow n t (c / n)) (a := c % n)
      rw [hl] at e
      rw [e]; rfl
    · rw [if_neg (by omega), if_neg (by omega), upd_ne f _ (by omega)]
theorem zly2 {n : Nat} (hn : n ≤ 6) (h0 : 0 < n) : ∀ (j : Nat) (f : Nat → Int32) (c s : Nat), s < 64 → (ly n j f c (nI s)).2 = nI (s ||| zset n j c)
  | 0, f, c, s, hs => by simp only [ly, zset]; rw [Nat.or_zero]
  | j + 1, f, c, s, hs => by
    have hc := Nat.mod_lt c h0
    simp only [ly, zset]
    rw [zm_one _ (by omega), zx_or, zly2 hn h0 j _ _ _ (Nat.or_lt_two_pow (n := 6) hs (Nat.pow_lt_pow_right (by decide) (by omega))), Nat.or_assoc]
theorem zly_adj {n : Nat} (rw : Nat → Int32) (hn : n ≤ 6) (h0 : 0 < n) (b : Bool) : ∀ (j c : Nat) (f : Nat → Int32), (∀ t : Nat, t < j + 1 → f t = nI (((zrow n (j + 1) c)[t]?).getD 0)) → lyb rw f b j = (b && zadj rw none (zrow n (j + 1) c))
  | 0, c, f, _ => by
    show b = (b && (true && true))
    cases b <;> rfl
  | j + 1, c, f, hf => by
    have hl := zrow_len n (j + 1) (c / n)
    have hl2 := zrow_len n j (c / n / n)
    have ex : ((zrow n (j + 1 + 1) c)[j + 1]?).getD 0 = c % n := by
      rw [zrow_low (j + 1)]
      have e := List.getElem?_concat_length (l := zrow n (j + 1) (c / n)) (a := c % n)
      rw [hl] at e
      rw [e]; rfl
    have ey : ((zrow n (j + 1 + 1) c)[j]?).getD 0 = c / n % n := by
      rw [zrow_low (j + 1), List.getElem?_append_left (by omega), zrow_low j]
      have e := List.getElem?_concat_length (l := zrow n j (c / n / n)) (a := c / n % n)
      rw [hl2] at e
      rw [e]; rfl
    have h1 := hf (j + 1) (by omega)
    have h2 := hf j (by omega)
    rw [ex] at h1
    rw [ey] at h2
    have ih := zly_adj rw hn h0 b j (c / n) f (fun t ht => by
      rw [hf t (by omega), zrow_low (j + 1), List.getElem?_append_left (by omega)])
    have hx := Nat.mod_lt c h0
    have hy := Nat.mod_lt (c / n) h0
    simp only [lyb]
    rw [ih, zrow_low (j + 1), zrow_low j, zadj_snoc, h1, h2, ← Bool.and_assoc]
    generalize (b && zadj rw none (zrow n j (c / n / n) ++ [c / n % n])) = B
    unfold ly_is zok
    rw [nI_clamp (by omega), nI_clamp (by omega)]
    by_cases q : rw (4 * (c % n) + 1) = rw (4 * (c / n % n) + 1)
    · rw [if_pos q, if_pos q.symm]; cases B <;> rfl
    · rw [if_neg q, if_neg (show ¬ rw (4 * (c / n % n) + 1) = rw (4 * (c % n) + 1) from fun w => q w.symm)]; cases B <;> rfl
/-- the test of a code -/
theorem zly_val {n : Nat} (rw : Nat → Int32) (hn : n ≤ 6) (h0 : 0 < n) (K left c : Nat) (r : Nat → Int32) (hl : left < 64) : lyb rw (ly n K r c 0).1 (mo_eq (ly n K r c 0).2 (nI left)) (K - 1) = zval n rw K left none c := by
  have e2 := zly2 hn h0 K r c 0 (by decide)
  rw [Nat.zero_or] at e2
  have e3 : (ly n K r c 0).2 = nI (zset n K c) := e2
  have hs := (zset_lt hn h0 K c).1
  have eb : mo_eq (ly n K r c 0).2 (nI left) = (zset n K c == left) := by
    rw [e3]
    unfold mo_eq
    by_cases q : zset n K c = left
    · rw [if_pos (by rw [q]), q]; exact (beq_self_eq_true left).symm
    · rw [if_neg (fun w => q ((nI_eq (by omega) (by omega)).mp w))]
      exact (beq_eq_false_iff_ne.mpr q).symm
  rw [eb]
  unfold zval
  cases K with
  | zero => show _ = (_ && true); rw [Bool.and_true]; rfl
  | succ j =>
    exact zly_adj rw hn h0 _ j c _ (fun t ht => by rw [zly1 h0, if_pos ht])

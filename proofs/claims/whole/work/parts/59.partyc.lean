/-! a party on the class's side -/
def zRes (k K m : Nat) (ws : List (List Nat)) (st st' : zO) : Prop := (∀ t : Nat, t < k → st'.1 t = st.1 t) ∧ st'.2.2.2 = nI (m + ws.length) ∧ (m ≠ 0 ∨ ws = [] → st'.2.1 = st.2.1 ∧ st'.2.2.1 = st.2.2.1) ∧ (∀ (v : List Nat) (vs : List (List Nat)), m = 0 → ws = v :: vs → st'.2.2.1 = nI (k + K) ∧ (∀ t : Nat, t < k → st'.2.1 t = st.1 t) ∧ ∀ t : Nat, t < K → st'.2.1 (k + t) = nI ((v[t]?).getD 0))
theorem zRes.more {k K m : Nat} {ws ws2 : List (List Nat)} {st st1 st2 : zO} (h1 : zRes k K m ws st st1) (h2 : zRes k K (m + ws.length) ws2 st1 st2) : zRes k K m (ws ++ ws2) st st2 := by
  obtain ⟨a1, a2, a3, a4⟩ := h1
  obtain ⟨b1, b2, b3, b4⟩ := h2
  refine ⟨fun t ht => by rw [b1 t ht, a1 t ht], by rw [b2, List.length_append, Nat.add_assoc], fun h => ?_, fun v vs hm hv => ?_⟩
  · have ha : m ≠ 0 ∨ ws = [] := h.imp id (fun q => (List.append_eq_nil_iff.mp q).1)
    have hb : m + ws.length ≠ 0 ∨ ws2 = [] := h.imp (fun q => by omega) (fun q => (List.append_eq_nil_iff.mp q).2)
    exact ⟨(b3 hb).1.trans (a3 ha).1, (b3 hb).2.trans (a3 ha).2⟩
  · cases ws with
    | nil =>
      obtain ⟨c1, c2, c3⟩ := b4 v vs (by rw [hm]; rfl) hv
      exact ⟨c1, fun t ht => by rw [c2 t ht, a1 t ht], c3⟩
    | cons x xs =>
      have e : x = v := (List.cons.inj hv).1
      obtain ⟨c1, c2, c3⟩ := a4 x xs hm rfl
      have hb : m + (x :: xs).length ≠ 0 ∨ ws2 = [] := Or.inl (by rw [List.length_cons]; omega)
      rw [(b3 hb).1, (b3 hb).2, ← e]
      exact ⟨c1, c2, c3⟩
theorem zRes.deep {k K m d : Nat} {ws : List (List Nat)} {wy fi : Nat → Int32} {fl nu : Int32} {st' : zO} (h : zRes (k + 1) K m ws (upd wy k (nI d), fi, fl, nu) st') : zRes k (K + 1) m (ws.map (fun w => d :: w)) (wy, fi, fl, nu) st' := by
  obtain ⟨a1, a2, a3, a4⟩ := h
  refine ⟨fun t ht => by rw [a1 t (by omega)]; exact upd_ne wy (nI d) (by omega), by rw [a2, List.length_map], fun h => a3 (h.imp id (fun q => List.map_eq_nil_iff.mp q)), fun v vs hm hv => ?_⟩
  cases ws with
  | nil => cases hv
  | cons x xs =>
    have e : d :: x = v := (List.cons.inj hv).1
    obtain ⟨c1, c2, c3⟩ := a4 x xs hm rfl
    rw [← e]
    refine ⟨by rw [c1, show k + 1 + K = k + (K + 1) by omega], fun t ht => by rw [c2 t (by omega)]; exact upd_ne wy (nI d) (by omega), fun t ht => ?_⟩
    cases t with
    | zero =>
      rw [Nat.add_zero, c2 k (by omega)]
      exact upd_at wy k (nI d)
    | succ t =>
      have := c3 t (by omega)
      rw [show k + (t + 1) = k + 1 + t by omega, this]
      rfl
theorem zRes.self (k K m : Nat) {st : zO} (h : st.2.2.2 = nI m) : zRes k K m [] st st := ⟨fun _ _ => rfl, h, fun _ => ⟨rfl, rfl⟩, fun _ _ _ q => by cases q⟩
theorem zm_rm : ∀ l : Nat, l < 64 → ∀ d : Nat, d < 6 → nI l &&& (((1 : Int32) <<< (nI d &&& 31)) ^^^ (-1)) = nI (zrm l d) := by decide +kernel
theorem zod {n : Nat} {gs rw : Nat → Int32} (hn : n ≤ 6) (hg : ∀ s : Nat, s < n → gs s = rw (4 * s + 1)) : ∀ (K k left : Nat) (pv : Option Nat) (st : zO) (m : Nat), left < 64 → zpop left = K → k + K ≤ 6 → (k = 0 → pv = none) → (0 < k → ∃ a : Nat, a < n ∧ pv = some a ∧ st.1 (k - 1) = nI a) → st.2.2.2 = nI m → m + (zway n rw K left pv).length < 2 ^ 31 → zRes k K m (zway n rw K left pv) st (od n gs (7 - k) k (nI left) st)
  | 0, k, left, pv, st, m, hl, hp, hk, hp0, hp1, hm, hb => by
    have z : ∀ l : Nat, l < 64 → zpop l = 0 → l = 0 := by decide +kernel
    have e := z left hl hp
    subst e
    rw [od_end (by omega) (show nI 0 = 0 from rfl)]
    show zRes k 0 m (if (0 : Nat) = 0 then [[]] else []) st _
    rw [if_pos rfl]
    have hm2 : m < 2 ^ 31 := by omega
    have hz : st.2.2.2 = 0 ↔ m = 0 := by rw [hm]; exact nI_eq (b := 0) hm2 (by decide)
    refine ⟨fun t _ => rfl, by show st.2.2.2 + 1 = nI (m + 1); rw [hm, nI_succ], fun h => ?_, fun v vs h0 hv => ?_⟩
    · rcases h with h | h
      · have hne : ¬ st.2.2.2 = 0 := fun q => h (hz.mp q)
        exact ⟨by show od_tf _ _ _ = _; unfold od_tf; rw [if_neg hne], by show od_tl _ _ _ = _; unfold od_tl; rw [if_neg hne]⟩
      · cases h
    · have he : st.2.2.2 = 0 := hz.mpr h0
      refine ⟨by show od_tl _ _ _ = _; unfold od_tl; rw [if_pos he]; rfl, fun t ht => ?_, fun t ht => absurd ht (Nat.not_lt_zero _)⟩
      show od_tf _ _ _ t = _
      unfold od_tf rw_cp
      rw [if_pos he, if_pos (by omega)]
  | K + 1, k, left, pv, st, m, hl, hp, hk, hp0, hp1, hm, hb => by
    have hl0 : ¬ nI left = 0 := fun q => by
      have := (nI_eq (b := 0) (by omega) (by decide)).mp q
      rw [this] at hp
      exact absurd hp (by rw [show zpop 0 = 0 from rfl]; omega)
    rw [od_pos (by omega) hl0 (by omega)]
    have hloop : ∀ j : Nat, j ≤ n → m + (zfm (fun d => if left.testBit d && zokp rw pv d then (zway n rw K (zrm left d) (some d)).map (fun w => d :: w) else []) j).length < 2 ^ 31 → zRes k (K + 1) m (zfm (fun d => if left.testBit d && zokp rw pv d then (zway n rw K (zrm left d) (some d)).map (fun w => d :: w) else []) j) st (od_lp (od n gs (7 - (k + 1)) (k + 1)) gs (nI left) k j st) := by
      intro j
      induction j with
      | zero => intro _ _; exact zRes.self k (K + 1) m hm
      | succ j ih =>
        intro hj hbj
        simp only [zfm] at hbj ⊢
        rw [List.length_append] at hbj
        have A := ih (by omega) (by omega)
        refine A.more ?_
        have hj6 : j < 6 := by omega
        simp only [od_lp]
        rw [zm_holds left hl j hj6, zm_rm left hl j hj6]
        generalize od_lp (od n gs (7 - (k + 1)) (k + 1)) gs (nI left) k j st = sj at A ⊢
        generalize (zfm (fun d => if left.testBit d && zokp rw pv d then (zway n rw K (zrm left d) (some d)).map (fun w => d :: w) else []) j) = W at A hbj ⊢
        have hput : rw_put 6 sj.1 (nI k) (nI j) = upd sj.1 k (nI j) := zput _ _ (by omega) (by decide)
        rw [hput]
        by_cases hb1 : left.testBit j = true
        · have hall : (if nI k = 0 then od n gs (7 - (k + 1)) (k + 1) (nI (zrm left j)) (upd sj.1 k (nI j), sj.2.1, sj.2.2.1, sj.2.2.2) else if od_un gs (nI j) (rw_at 6 sj.1 (nI k - 1)) = true then od n gs (7 - (k + 1)) (k + 1) (nI (zrm left j)) (upd sj.1 k (nI j), sj.2.1, sj.2.2.1, sj.2.2.2) else sj) = if zokp rw pv j = true then od n gs (7 - (k + 1)) (k + 1) (nI (zrm left j)) (upd sj.1 k (nI j), sj.2.1, sj.2.2.1, sj.2.2.2) else sj := by
            by_cases hk0 : k = 0
            · rw [if_pos (show nI k = 0 by rw [hk0]; rfl), hp0 hk0]
              rw [if_pos (show zokp rw none j = true from rfl)]
            · rw [if_neg (show ¬ nI k = 0 from fun q => hk0 ((nI_eq (b := 0) (by omega) (by decide)).mp q))]
              obtain ⟨a, ha, hpv, hw⟩ := hp1 (by omega)
              have e1 : nI k - 1 = nI (k - 1) := by
                obtain ⟨q, rfl⟩ : ∃ q, k = q + 1 := ⟨k - 1, by omega⟩
                rw [nI_succ, Int32.add_sub_cancel]; rfl
              rw [e1, zat (show k - 1 < 6 by omega), A.1 (k - 1) (by omega), hw, hpv]
              have e2 : od_un gs (nI j) (nI a) = zok rw a j := by
                unfold od_un zok
                rw [zat hj6, zat (show a < 6 by omega), hg j (by omega), hg a ha]
                by_cases q : rw (4 * j + 1) = rw (4 * a + 1)
                · rw [if_pos q, if_pos q.symm]
                · rw [if_neg q, if_neg (fun z => q z.symm)]
              rw [e2]; rfl
          rw [if_pos hb1, hall]
          rw [hb1] at hbj ⊢
          simp only [Bool.true_and] at hbj ⊢
          by_cases hz : zokp rw pv j = true
          · rw [if_pos hz, if_pos hz]
            rw [if_pos hz, List.length_map] at hbj
            obtain ⟨-, u2, u3⟩ := zw_an left hl j hj6 hb1
            refine zRes.deep (fi := sj.2.1) (fl := sj.2.2.1) (nu := sj.2.2.2) ?_
            exact zod hn hg K (k + 1) (zrm left j) (some j) (upd sj.1 k (nI j), sj.2.1, sj.2.2.1, sj.2.2.2) (m + W.length) u3 (by unfold zrm; omega) (by omega) (fun q => by omega) (fun _ => ⟨j, by omega, rfl, upd_at sj.1 k (nI j)⟩) A.2.1 (by omega)
          · rw [if_neg hz, if_neg hz]
            exact zRes.self k (K + 1) _ A.2.1
        · rw [if_neg hb1]
          have hf : (left.testBit j && zokp rw pv j) = false := by
            cases q : left.testBit j with
            | true => exact absurd q hb1
            | false => rfl
          rw [hf]
          exact zRes.self k (K + 1) _ A.2.1
    exact hloop n (Nat.le_refl n) hb
theorem zway_len {n : Nat} (rw : Nat → Int32) (hn : n ≤ 6) (h0 : 0 < n) {left : Nat} (hl : left < 64) (pv : Option Nat) : (zway n rw (zpop left) left pv).length ≤ 46656 := by
  rw [← zway_cs rw hn h0 (zpop left) left pv hl rfl, List.length_map]
  refine Nat.le_trans (zcs_len _ _) ?_
  obtain ⟨-, o2, -⟩ := zpop_1 left hl
  have h1 : n ^ zpop left ≤ 6 ^ zpop left := Nat.pow_le_pow_left hn _
  have h2 : 6 ^ zpop left ≤ 6 ^ 6 := Nat.pow_le_pow_right (by decide) o2
  have h3 : (6 : Nat) ^ 6 = 46656 := by decide
  omega
theorem z10 (x : Nat) : nI (10 + x) - 10 = nI x := by
  rw [← nI_add]
  show 10 + nI x - 10 = nI x
  rw [Int32.add_comm]; exact Int32.add_sub_cancel _ _
/-- a party, both sides -/
theorem zodf {n : Nat} {gs rw : Nat → Int32} (hn : n ≤ 6) (h0 : 0 < n) (hg : ∀ s : Nat, s < n → gs s = rw (4 * s + 1)) {left : Nat} (hl : left < 64) (wy fi : Nat → Int32) {w : Int32} (hw : w = 0 ∨ ∃ x : Nat, x < 6 ∧ w = nI (10 + x)) : od_fact (od n gs 7 0 (nI left) (wy, fi, 0, 0)).2.1 (od n gs 7 0 (nI left) (wy, fi, 0, 0)).2.2.1 (od n gs 7 0 (nI left) (wy, fi, 0, 0)).2.2.2 w = py n rw (mo_ones (nI left) 6).toNatClampNeg (nI left) w := by
  rw [zpy rw hn h0 left hl w hw]
  have hlen := zway_len rw hn h0 hl none
  obtain ⟨-, o2, -⟩ := zpop_1 left hl
  have A := zod hn hg (zpop left) 0 left none (wy, fi, 0, 0) 0 hl rfl (by omega) (fun _ => rfl) (fun q => absurd q (Nat.lt_irrefl _)) rfl (by omega)
  replace A : zRes 0 (zpop left) 0 (zway n rw (zpop left) left none) (wy, fi, 0, 0) (od n gs 7 0 (nI left) (wy, fi, 0, 0)) := A
  generalize zway n rw (zpop left) left none = ws at A hlen ⊢
  generalize od n gs 7 0 (nI left) (wy, fi, 0, 0) = O at A ⊢
  generalize zpop left = K at A o2 ⊢
  obtain ⟨-, a2, a3, a4⟩ := A
  unfold od_fact zpw
  by_cases hw0 : w = 0
  · rw [if_pos hw0, if_pos hw0, a2, Nat.zero_add]
  · rw [if_neg hw0, if_neg hw0]
    obtain ⟨x, hx, rfl⟩ := hw.resolve_left hw0
    rw [z10, if_neg (show ¬ nI x < 0 from nI_n0 (by omega)), nI_clamp (by omega)]
    cases ws with
    | nil =>
      have e : O.2.2.1 = 0 := (a3 (Or.inr rfl)).2
      rw [e, if_pos (show (0 : Int32) ≤ nI x from (nI_leI (a := 0) (by decide) (by omega)).mpr (Nat.zero_le _))]
    | cons v vs =>
      obtain ⟨c1, -, c3⟩ := a4 v vs rfl rfl
      rw [c1, Nat.zero_add, zat hx]
      show _ = if nI x < nI K then nI ((v[x]?).getD 0) else -1
      by_cases q : x < K
      · rw [if_pos ((nI_ltI (by omega) (by omega)).mpr q), if_neg (fun z => by have := (nI_leI (by omega) (by omega)).mp z; omega)]
        have := c3 x q
        rwa [Nat.zero_add] at this
      · rw [if_neg (fun z => q ((nI_ltI (by omega) (by omega)).mp z)), if_pos ((nI_leI (by omega) (by omega)).mpr (by omega))]
theorem zpart {n : Nat} {gs rw : Nat → Int32} (hn : n ≤ 6) (hg : ∀ s : Nat, s < n → gs s = rw (4 * s + 1)) (wy fi : Nat → Int32) (b w : Int32) : pa_r n gs wy fi b w = mp_r n rw b w := by
  unfold pa_r mp_r
  rw [show mo_in b.toInt64 0 (bk_all n).toInt64 = _ from zin b 0 (bk_all n), show mo_in w.toInt64 10 15 = _ from zin w 10 15]
  by_cases hb : b < 0
  · rw [if_pos hb, if_pos hb]; rfl
  · rw [if_neg hb, if_neg hb]
    by_cases hb2 : b ≤ bk_all n
    · rw [if_pos hb2, if_neg (Int32.not_lt.mpr hb2), if_pos rfl]
      have key : ∀ w : Int32, (w = 0 ∨ ∃ x : Nat, x < 6 ∧ w = nI (10 + x)) → (if sa_np n = true then (-103 : Int32) else od_fact (od n gs 7 0 b (wy, fi, 0, 0)).2.1 (od n gs 7 0 b (wy, fi, 0, 0)).2.2.1 (od n gs 7 0 b (wy, fi, 0, 0)).2.2.2 w) = if sa_np n = true then -103 else py n rw (mo_ones b 6).toNatClampNeg b w := by
        intro w hw
        cases hs : sa_np n with
        | true => rw [if_pos rfl, if_pos rfl]
        | false =>
          rw [if_neg (by decide), if_neg (by decide)]
          have hn0 := sa_np0 hs
          obtain ⟨j, hj, rfl⟩ := nI_of hb
          rw [zm_all n hn] at hb2
          have h64 := zm_p6 hn
          have h1 : 1 ≤ 2 ^ n := Nat.one_le_two_pow
          have := (nI_leI hj (by omega)).mp hb2
          exact zodf hn hn0 hg (by omega) wy fi hw
      by_cases hw0 : w = 0
      · rw [if_pos hw0, if_pos hw0]; exact key w (Or.inl hw0)
      · rw [if_neg hw0, if_neg hw0]
        by_cases h10 : w < 10
        · rw [if_pos h10, if_pos h10]; rfl
        · rw [if_neg h10, if_neg h10]
          have hw1 : ¬ w < 0 := fun q => h10 (Int32.lt_trans q (by decide))
          obtain ⟨y, hy, e⟩ := nI_of hw1
          have hy10 : ¬ y < 10 := fun q => h10 (by rw [e]; exact nI_lt (b := 10) q (by decide))
          by_cases h16 : w < 16
          · have hy16 : y < 16 := by
              rw [e] at h16
              exact (nI_ltI (b := 16) hy (by decide)).mp h16
            have h15 : ¬ 15 < w := by rw [e]; exact nI_nlt (a := 15) (by omega) (by decide)
            rw [if_pos h16, if_neg h15, if_pos rfl]
            exact key w (Or.inr ⟨y - 10, by omega, by rw [e]; congr 1; omega⟩)
          · have h15 : 15 < w := by
              rw [e] at h16 ⊢
              have : ¬ y < 16 := fun q => h16 (nI_lt (b := 16) q (by decide))
              exact nI_lt (a := 15) (by omega) (by omega)
            rw [if_neg h16, if_pos h15]; rfl
    · rw [if_neg hb2, if_pos (Int32.not_le.mp hb2)]; rfl

/-! the reference: parties, what is heard, evenings, what is told of all: as functions -/
theorem vz_lo1 {j : Nat} (h : nI j - 1 < 0) (hj : j < 2 ^ 31) : j = 0 := by
  rcases Nat.eq_zero_or_pos j with q | q
  · exact q
  · rw [vz_dec q] at h
    exact absurd h (nI_pos (by omega))
theorem vz_lo2 {j : Nat} (h : ¬ nI j - 1 < 0) : 0 < j := Nat.pos_of_ne_zero (fun q => h (by subst q; decide))
theorem vz_lo3 {j : Nat} (h : 0 < j) : nI j - 1 + (-1) = nI (j - 1) - 1 := by
  rw [vz_dec h]
  rw [Int32.sub_eq_add_neg]
theorem vz_el {sg : Nat} {v : Int32} (h : ∃ x : Nat, x < sg ∧ v = nI x) (hsg : sg ≤ 6 := by assumption) : v.toNatClampNeg < sg ∧ v = nI v.toNatClampNeg := by
  obtain ⟨x, hx, rfl⟩ := h
  rw [nI_clamp (by omega)]
  exact ⟨hx, rfl⟩
theorem sa_np0 {sg : Nat} (h : sa_np sg = false) : 0 < sg := Nat.pos_of_ne_zero (fun q => by subst q; cases h)
theorem sa_npl {j sg : Nat} (h : j < sg) : sa_np sg = false := if_neg (by omega)
def mo_eq (x y : Int32) : Bool := if x = y then true else false
def ly_is (b : Bool) (rw : Nat → Int32) (x y : Int32) : Bool := if b then (if rw (4 * x.toNatClampNeg + 1) = rw (4 * y.toNatClampNeg + 1) then false else true) else false
def lyb (rw f : Nat → Int32) (b : Bool) : Nat → Bool
  | 0 => b
  | j + 1 => ly_is (lyb rw f b j) rw (f (j + 1)) (f j)
def ly (sg : Nat) : Nat → (Nat → Int32) → Nat → Int32 → (Nat → Int32) × Int32
  | 0, f, _, s => (f, s)
  | j + 1, f, c, s => ly sg j (upd f j (nI (c % sg))) (c / sg) (s ||| (1 <<< (nI (c % sg) &&& 31)))
theorem ly_s {sg j c : Nat} {f : Nat → Int32} {s : Int32} (h : 0 < j) : ly sg j f c s = ly sg (j - 1) (upd f (j - 1) (nI (c % sg))) (c / sg) (s ||| (1 <<< (nI (c % sg) &&& 31))) := by
  obtain ⟨k, rfl⟩ : ∃ k, j = k + 1 := ⟨j - 1, by omega⟩
  rfl
theorem ly_in {sg ry j x : Nat} {f : Nat → Int32} (h : ∀ k : Nat, j ≤ k → k < ry → ∃ x : Nat, x < sg ∧ f k = nI x) (hj : 0 < j) (hx : x < sg) : ∀ k : Nat, j - 1 ≤ k → k < ry → ∃ y : Nat, y < sg ∧ upd f (j - 1) (nI x) k = nI y := by
  intro k h1 h2
  by_cases e : k = j - 1
  · exact ⟨x, hx, by simp [upd, e]⟩
  · obtain ⟨y, a, b⟩ := h k (by omega) h2
    exact ⟨y, a, by simp [upd, e, b]⟩
def pa (sg : Nat) (rw : Nat → Int32) (K : Nat) (p : Int32) (be ro : Nat → Int32) : Nat → Nat × (Nat → Int32) × (Nat → Int32)
  | 0 => (0, be, ro)
  | C + 1 => match pa sg rw K p be ro C with
    | (n, b, r) => if lyb rw (ly sg K r C 0).1 (mo_eq (ly sg K r C 0).2 p) (K - 1) then (n + 1, if nI (n + 1) = 1 then rw_cp (ly sg K r C 0).1 b 6 else b, (ly sg K r C 0).1) else (n, b, (ly sg K r C 0).1)
theorem pw_b {sg K : Nat} (h : sg ≤ 6) (hK : K ≤ 6) : sg ^ K < 2 ^ 31 := by
  have h1 : sg ^ K ≤ 6 ^ K := Nat.pow_le_pow_left h K
  have h2 : 6 ^ K ≤ 6 ^ 6 := Nat.pow_le_pow_right (by decide) hK
  have h3 : (6 : Nat) ^ 6 < 2 ^ 31 := by decide
  omega
theorem pw_x {p : Int32} (h : p = 0 ∨ ∃ x : Nat, x < 6 ∧ p = nI (10 + x)) (hn : ¬ p = 0) : (p - 10).toNatClampNeg < 6 ∧ p - 10 = nI (p - 10).toNatClampNeg := by
  rcases h with h | ⟨x, hx, rfl⟩
  · exact absurd h hn
  · have e : nI (10 + x) - 10 = nI x := by
      rw [show (10 : Int32) = nI 10 from rfl, pk_sub (by omega), show 10 + x - 10 = x by omega]
    rw [e, nI_clamp (by omega)]
    exact ⟨hx, rfl⟩
theorem pw_in {p : Int32} (h : mo_in p.toInt64 10 15 = true) : p = 0 ∨ ∃ x : Nat, x < 6 ∧ p = nI (10 + x) := by
  unfold mo_in at h
  by_cases h1 : p.toInt64 < 10
  · rw [if_pos h1] at h; cases h
  · rw [if_neg h1] at h
    by_cases h2 : (15 : Int64) < p.toInt64
    · rw [if_pos h2] at h; cases h
    · have e0 : (10 : Int64).toInt = 10 := by decide
      have e1 : (15 : Int64).toInt = 15 := by decide
      rw [Int64.lt_iff_toInt_lt, Int32.toInt_toInt64, e0] at h1
      rw [Int64.lt_iff_toInt_lt, Int32.toInt_toInt64, e1] at h2
      have h0 : ¬ p < 0 := by rw [Int32.lt_iff_toInt_lt, show (0 : Int32).toInt = 0 by decide]; omega
      obtain ⟨j, hj, rfl⟩ := nI_of h0
      rw [nI_toInt hj] at h1 h2
      exact Or.inr ⟨j - 10, by omega, by rw [show 10 + (j - 10) = j by omega]⟩
theorem ones_64 : ∀ b : Nat, b < 64 → (mo_ones (nI b) 6).toNatClampNeg ≤ 6 ∧ mo_ones (nI b) 6 = nI (mo_ones (nI b) 6).toNatClampNeg := by decide +kernel
theorem bk_all_6 : ∀ n : Nat, n ≤ 6 → bk_all n = nI (2 ^ n - 1) := by
  intro n hn
  rcases (show n = 0 ∨ n = 1 ∨ n = 2 ∨ n = 3 ∨ n = 4 ∨ n = 5 ∨ n = 6 by omega) with e | e | e | e | e | e | e <;> subst e <;> decide +kernel
theorem pw64 {n : Nat} (h : n ≤ 6) : 2 ^ n ≤ 64 := by
  have := Nat.pow_le_pow_right (n := 2) (by decide) h
  simpa using this
theorem ones_all {sg : Nat} (h : sg ≤ 6) : (mo_ones (bk_all sg) 6).toNatClampNeg ≤ 6 ∧ mo_ones (bk_all sg) 6 = nI (mo_ones (bk_all sg) 6).toNatClampNeg := by
  rw [bk_all_6 sg h]
  have h1 := pw64 h
  have h2 : 0 < 2 ^ sg := Nat.pow_pos (by decide)
  exact ones_64 _ (by omega)
theorem in_all {p : Int32} {sg : Nat} (h : mo_in p.toInt64 0 (bk_all sg).toInt64 = true) (hsg : sg ≤ 6) : ∃ b : Nat, b < 2 ^ sg ∧ p = nI b := by
  rw [bk_all_6 sg hsg] at h
  have h3 := pw64 hsg
  have h4 : 0 < 2 ^ sg := Nat.pow_pos (by decide)
  unfold mo_in at h
  by_cases h1 : p.toInt64 < 0
  · rw [if_pos h1] at h; cases h
  · rw [if_neg h1] at h
    by_cases h2 : (nI (2 ^ sg - 1)).toInt64 < p.toInt64
    · rw [if_pos h2] at h; cases h
    · have e0 : (0 : Int64).toInt = 0 := by decide
      rw [Int64.lt_iff_toInt_lt, Int32.toInt_toInt64, e0] at h1
      rw [Int64.lt_iff_toInt_lt, Int32.toInt_toInt64, Int32.toInt_toInt64, nI_toInt (by omega)] at h2
      have h0 : ¬ p < 0 := by rw [Int32.lt_iff_toInt_lt, show (0 : Int32).toInt = 0 by decide]; omega
      obtain ⟨j, hj, rfl⟩ := nI_of h0
      rw [nI_toInt hj] at h2
      exact ⟨j, by omega, rfl⟩
theorem ones_ok {p : Int32} {sg : Nat} (h : mo_in p.toInt64 0 (bk_all sg).toInt64 = true) (hsg : sg ≤ 6) : (mo_ones p 6).toNatClampNeg ≤ 6 ∧ mo_ones p 6 = nI (mo_ones p 6).toNatClampNeg := by
  obtain ⟨b, hb, rfl⟩ := in_all h hsg
  have h3 := pw64 hsg
  exact ones_64 b (by omega)
/-- a party's answer, with nothing left over from before -/
def pz : Nat → Int32 := fun _ => 0
def py (sg : Nat) (rw : Nat → Int32) (K : Nat) (p w : Int32) : Int32 := if w = 0 then nI (pa sg rw K p pz pz (sg ^ K)).1 else if nI (pa sg rw K p pz pz (sg ^ K)).1 = 0 then -1 else if w - 10 < nI K then (pa sg rw K p pz pz (sg ^ K)).2.1 (w - 10).toNatClampNeg else -1
theorem ly_ind (sg : Nat) : ∀ (j : Nat) (f g : Nat → Int32) (c : Nat) (s : Int32) (K : Nat), (∀ k, j ≤ k → k < K → f k = g k) → (∀ k, k < K → (ly sg j f c s).1 k = (ly sg j g c s).1 k) ∧ (ly sg j f c s).2 = (ly sg j g c s).2
  | 0, f, g, c, s, K, h => ⟨fun k hk => h k (Nat.zero_le _) hk, rfl⟩
  | j + 1, f, g, c, s, K, h => ly_ind sg j _ _ _ _ K (fun k h1 h2 => by
      simp only [upd]
      by_cases e : k = j
      · rw [if_pos e, if_pos e]
      · rw [if_neg e, if_neg e]; exact h k (by omega) h2)
theorem lyb_ind (rw : Nat → Int32) {f g : Nat → Int32} {b : Bool} : ∀ (j : Nat), (∀ k, k ≤ j → f k = g k) → lyb rw f b j = lyb rw g b j
  | 0, _ => rfl
  | j + 1, h => by
    simp only [lyb]
    rw [lyb_ind rw j (fun k hk => h k (by omega)), h (j + 1) (Nat.le_refl _), h j (by omega)]
theorem lyb_K (rw : Nat → Int32) {f g : Nat → Int32} {b : Bool} {K : Nat} (h : ∀ k, k < K → f k = g k) : lyb rw f b (K - 1) = lyb rw g b (K - 1) := by
  rcases Nat.eq_zero_or_pos K with q | q
  · subst q; rfl
  · exact lyb_ind rw (K - 1) (fun k hk => h k (by omega))
theorem pa_ind (sg : Nat) (rw : Nat → Int32) (K : Nat) (p : Int32) (be ro be2 ro2 : Nat → Int32) (hK : K ≤ 6) : ∀ (C : Nat), C < 2 ^ 31 → (pa sg rw K p be ro C).1 = (pa sg rw K p be2 ro2 C).1 ∧ (pa sg rw K p be ro C).1 ≤ C ∧ (0 < (pa sg rw K p be ro C).1 → ∀ k, k < K → (pa sg rw K p be ro C).2.1 k = (pa sg rw K p be2 ro2 C).2.1 k)
  | 0, _ => ⟨rfl, Nat.le_refl _, fun h => absurd h (Nat.lt_irrefl 0)⟩
  | C + 1, hC => by
    obtain ⟨h1, h2, h3⟩ := pa_ind sg rw K p be ro be2 ro2 hK C (by omega)
    simp only [pa]
    generalize pa sg rw K p be ro C = q at h1 h2 h3 ⊢
    generalize pa sg rw K p be2 ro2 C = q2 at h1 h3 ⊢
    obtain ⟨n, b, r⟩ := q
    obtain ⟨n2, b2, r2⟩ := q2
    dsimp only at h1 h2 h3 ⊢
    subst h1
    obtain ⟨e1, e2⟩ := ly_ind sg K r r2 C 0 K (fun k h4 h5 => absurd h5 (by omega))
    rw [lyb_K rw e1, e2]
    by_cases hb : lyb rw (ly sg K r2 C 0).1 (mo_eq (ly sg K r2 C 0).2 p) (K - 1) = true
    · rw [if_pos hb, if_pos hb]
      refine ⟨rfl, by show n + 1 ≤ C + 1; omega, fun _ k hk => ?_⟩
      by_cases e : nI (n + 1) = 1
      · simp only [if_pos e, rw_cp]
        rw [if_pos (by omega), if_pos (by omega)]
        exact e1 k hk
      · simp only [if_neg e]
        exact h3 (Nat.pos_of_ne_zero (fun z => e (by rw [z]; rfl))) k hk
    · rw [if_neg hb, if_neg hb]
      exact ⟨rfl, by show n ≤ C + 1; omega, h3⟩
section PY
variable {sg : Nat} {rw : Nat → Int32} {K j C nn : Nat} {p w : Int32} {be ro yb yr : Nat → Int32}
theorem py_n (hpa : pa sg rw K p be ro C = (nn, yb, yr)) (hC : C = sg ^ j) (hj : j = K) (hK : K ≤ 6) (hsg : sg ≤ 6) : nn = (pa sg rw K p pz pz (sg ^ K)).1 ∧ (0 < nn → ∀ k, k < K → yb k = (pa sg rw K p pz pz (sg ^ K)).2.1 k) := by
  subst hj; subst hC
  obtain ⟨h1, -, h3⟩ := pa_ind sg rw j p be ro pz pz hK (sg ^ j) (pw_b hsg hK)
  rw [hpa] at h1 h3
  exact ⟨h1, h3⟩
theorem py_0 (hw : w = 0) (hpa : pa sg rw K p be ro C = (nn, yb, yr)) (hC : C = sg ^ j) (hj : j = K) (hK : K ≤ 6 := by assumption) (hsg : sg ≤ 6 := by assumption) : nI nn = py sg rw K p w := by
  rw [py, if_pos hw, (py_n hpa hC hj hK hsg).1]
theorem py_1 (hw : ¬ w = 0) (hn : nI nn = 0) (hpa : pa sg rw K p be ro C = (nn, yb, yr)) (hC : C = sg ^ j) (hj : j = K) (hK : K ≤ 6 := by assumption) (hsg : sg ≤ 6 := by assumption) : (-1 : Int32) = py sg rw K p w := by
  rw [py, if_neg hw, ← (py_n hpa hC hj hK hsg).1, if_pos hn]
theorem py_2 (hw : ¬ w = 0) (hn : ¬ nI nn = 0) (hl : ¬ w - 10 < nI K) : (-1 : Int32) = py sg rw K p w := by
  rw [py, if_neg hw, if_neg hl]; split <;> rfl
theorem py_3 (hw : ¬ w = 0) (hn : ¬ nI nn = 0) (hl : w - 10 < nI K) (hpa : pa sg rw K p be ro C = (nn, yb, yr)) (hC : C = sg ^ j) (hj : j = K) (h6 : (w - 10).toNatClampNeg < 6) (he : w - 10 = nI (w - 10).toNatClampNeg) (hK : K ≤ 6) (hs0 : 0 < sg) (hsg : sg ≤ 6 := by assumption) : yb (w - 10).toNatClampNeg = py sg rw K p w := by
  obtain ⟨h1, h2⟩ := py_n hpa hC hj hK hsg
  rw [py, if_neg hw, ← h1, if_neg hn, if_pos hl]
  refine h2 (Nat.pos_of_ne_zero (fun z => hn (by rw [z]; rfl))) _ ?_
  rw [he] at hl
  exact (nI_ltI (by omega) (by omega)).mp hl
end PY
def mp_r (sg : Nat) (rw : Nat → Int32) (p w : Int32) : Int32 := if mo_in p.toInt64 0 (bk_all sg).toInt64 then (if w = 0 then (if sa_np sg then -103 else py sg rw (mo_ones p 6).toNatClampNeg p w) else if mo_in w.toInt64 10 15 then (if sa_np sg then -103 else py sg rw (mo_ones p 6).toNatClampNeg p w) else -102) else -102
def mhe (sg hm : Nat) (p : Int32) : Bool := if mo_in p.toInt64 0 (nI sg - 1).toInt64 then (if nI hm = 8 then false else true) else false
def lh (sg : Nat) (rw he : Nat → Int32) (rule : Int32) : Nat → Int64 × Int64 × Int32 × Int32
  | 0 => (1, 1, bk_all sg, -1)
  | j + 1 => match lh sg rw he rule j with
    | (u, l, b, t) => (u * (((mo_may sg rw rule b t >>> (nI (he j).toNatClampNeg &&& 31)) &&& 1) * mo_base rw (he j).toNatClampNeg).toInt64, l * (mo_sum rw (mo_may sg rw rule b t) true sg).toInt64, bk_bag sg b (nI (he j).toNatClampNeg), nI (he j).toNatClampNeg)
def mr_acc (sg : Nat) (rw he : Nat → Int32) (hm : Nat) : Nat → Int32
  | 0 => 0
  | j + 1 => mr_acc sg rw he hm j ||| (if (lh sg rw he (nI j) hm).1 ≤ 0 then 0 else (1 : Int32) <<< (nI j &&& 31))
def mk (sg : Nat) (rw he : Nat → Int32) (hm : Nat) : Nat → Int32 × Int64 × Int64
  | 0 => (-1, 0, 1)
  | j + 1 => match mk sg rw he hm j with
    | (a, u, l) => if (lh sg rw he (nI j) hm).1 * l ≤ u * (lh sg rw he (nI j) hm).2.1 then (a, u, l) else (nI j, (lh sg rw he (nI j) hm).1, (lh sg rw he (nI j) hm).2.1)
def md_s (sn : Int32) : Int32 := (sa_seed sn.toInt64).toInt32
def md_v (s d : Int32) : Int32 := s / 65536 - s / 65536 / d * d
def dm (sg : Nat) (rw : Nat → Int32) (may : Int32) : Nat → Nat → Int32 → Option Nat
  | 0, _, _ => none
  | d + 1, j, v => if v < mo_sh sg rw j may then some j else dm sg rw may d (j + 1) (v - mo_sh sg rw j may)
theorem dm_lt {sg : Nat} {rw : Nat → Int32} {may : Int32} {j S : Nat} {v : Int32} (h : dm sg rw may (sg - j) j v = some S) : j < sg := by
  rcases Nat.lt_or_ge j sg with q | q
  · exact q
  · rw [show sg - j = 0 by omega] at h; cases h
theorem dm_s {sg : Nat} {rw : Nat → Int32} {may : Int32} {j : Nat} {v : Int32} (h : j < sg) : dm sg rw may (sg - j) j v = if v < mo_sh sg rw j may then some j else dm sg rw may (sg - (j + 1)) (j + 1) (v - mo_sh sg rw j may) := by
  rw [show sg - j = (sg - (j + 1)) + 1 by omega]; rfl
theorem me_n {n : Int32} (h : mo_in n.toInt64 1 60 = true) : n.toNatClampNeg ≤ 60 ∧ n = nI n.toNatClampNeg := by
  unfold mo_in at h
  by_cases h1 : n.toInt64 < 1
  · rw [if_pos h1] at h; cases h
  · rw [if_neg h1] at h
    by_cases h2 : (60 : Int64) < n.toInt64
    · rw [if_pos h2] at h; cases h
    · have e0 : (1 : Int64).toInt = 1 := by decide
      have e1 : (60 : Int64).toInt = 60 := by decide
      rw [Int64.lt_iff_toInt_lt, Int32.toInt_toInt64, e0] at h1
      rw [Int64.lt_iff_toInt_lt, Int32.toInt_toInt64, e1] at h2
      have h0 : ¬ n < 0 := by rw [Int32.lt_iff_toInt_lt, show (0 : Int32).toInt = 0 by decide]; omega
      obtain ⟨j, hj, rfl⟩ := nI_of h0
      rw [nI_toInt hj] at h2
      rw [nI_clamp hj]
      exact ⟨by omega, rfl⟩
def mv (sg : Nat) (rw : Nat → Int32) (rn bg la seed : Int32) : Nat → Int32 × Int32 × Int32 × Int32 × Int32
  | 0 => (seed, bg, la, 0, 0)
  | j + 1 => match mv sg rw rn bg la seed j with
    | (s, b, t, c, q) => (md_s s, bk_bag sg b (nI ((dm sg rw (mo_may sg rw rn b t) sg 0 (md_v (md_s s) (mo_shs sg rw (mo_may sg rw rn b t)))).getD 0)), nI ((dm sg rw (mo_may sg rw rn b t) sg 0 (md_v (md_s s) (mo_shs sg rw (mo_may sg rw rn b t)))).getD 0), c ||| (1 <<< (nI ((dm sg rw (mo_may sg rw rn b t) sg 0 (md_v (md_s s) (mo_shs sg rw (mo_may sg rw rn b t)))).getD 0) &&& 31)), q + mo_mins rw ((dm sg rw (mo_may sg rw rn b t) sg 0 (md_v (md_s s) (mo_shs sg rw (mo_may sg rw rn b t)))).getD 0))
def me_r (sg : Nat) (rw : Nat → Int32) (rn bg la n seed w : Int32) : Int32 := if mo_in n.toInt64 1 60 then (if seed < 0 then -102 else if mo_in w.toInt64 0 2 then (if sa_np sg then -103 else if w = 0 then mo_ones (mv sg rw rn bg la seed n.toNatClampNeg).2.2.2.1 6 else if w = 1 then (mv sg rw rn bg la seed n.toNatClampNeg).2.2.2.2 else (mv sg rw rn bg la seed n.toNatClampNeg).1) else -102) else -102
def mo_at (rw : Nat → Int32) (k : Nat) : Nat → Int32
  | 0 => 0
  | j + 1 => mo_at rw k j + rw (4 * j + k)
def mo_ma (rw : Nat → Int32) : Nat → Int32
  | 0 => 0
  | j + 1 => mo_ma rw j + rw (4 * j + 2) * mo_mins rw j
def mo_un (rw : Nat → Int32) : Nat → Int32
  | 0 => 0
  | j + 1 => mo_un rw j + (if rw (4 * j + 2) ≤ 0 then 0 else 1)
def mre (kp : Int32) (pr : Nat) : Bool := if kp = nI pr then true else false
def mct (sg : Nat) (rw : Nat → Int32) (rn bg la : Int32) (hm pm pr : Nat) (w : Int32) : Int32 :=
  if w = 0 then nI sg else if w = 1 then rn else if w = 2 then mo_at rw 2 sg else if w = 3 then mo_at rw 3 sg else if w = 4 then mo_ma rw sg else if w = 5 then mo_un rw sg else if w = 6 then mo_ones bg 6 else if w = 7 then mo_ones (mo_may sg rw rn bg la) 6 else if w = 8 then la else if w = 9 then nI hm else if w = 10 then nI pm else if w = 11 then nI pr else -102
def ms3 (sg : Nat) (rw : Nat → Int32) (rn bg la : Int32) (h : Int64) : Int64 := 31 * (31 * (31 * h + to_r sg rw rn bg la 2 0) + to_r sg rw rn bg la 2 1) + (py sg rw (mo_ones (bk_all sg) 6).toNatClampNeg (bk_all sg) 0).toInt64
def ms6 (sg : Nat) (rw : Nat → Int32) : Nat → Int64 → Int64
  | 0, h => h
  | j + 1, h => 31 * ms6 sg rw j h + (py sg rw (mo_ones (bk_all sg) 6).toNatClampNeg (bk_all sg) (nI (10 + j))).toInt64
def msp (sg : Nat) (rw he : Nat → Int32) (rn bg la : Int32) (hm : Nat) (h : Int64) : Int64 := 31 * (31 * ms6 sg rw 6 (ms3 sg rw rn bg la h) + (mr_acc sg rw he hm 4).toInt64) + ((mk sg rw he hm 4).1).toInt64
def mgi (f : Nat → Int32 → Int32) (s : Nat) : Nat → Int64 → Int64
  | 0, h => h
  | j + 1, h => 31 * mgi f s j h + (f s (nI j)).toInt64
def mgo (f : Nat → Int32 → Int32) : Nat → Int64 → Int64
  | 0, h => h
  | s + 1, h => mgi f s 10 (mgo f s h)
def mgc (pg : Nat → Int32) : Nat → Int64 → Int64
  | 0, h => h
  | j + 1, h => 31 * mgc pg j h + (pg j).toInt64
def mgn (f : Int32 → Int32) : Nat → Int64 → Int64
  | 0, h => h
  | j + 1, h => 31 * mgn f j h + (f (nI j)).toInt64
def mdg (sg : Nat) (rw he pg : Nat → Int32) (rn bg la : Int32) (hm pm pr : Nat) : Int64 := mgn (mct sg rw rn bg la hm pm pr) 12 (mgc pg pm (if sa_np sg then mgo (mtl sg rw rn bg la) sg 997 else msp sg rw he rn bg la hm (mgo (mtl sg rw rn bg la) sg 997)))

set_option maxHeartbeats 4000000 in
set_option maxRecDepth 100000 in
theorem c_X7_twice (l : Launch) (D : va_G) (cI : ClassId) (g : Nat → Nat) (pm : Nat) (rm : Nat) (rr : Int32) (st : Nat) (sg : Nat) (rn : Int32) (bg : Int32) (la : Int32) (ws : Bool) (pr : Nat) (ry : Nat) (hm : Nat) (xu : Int64) (xl : Int64) (sn : Int32) (kp : Int32) (kr : Int32) (kb : Int32) (kl : Int32) (kw : Bool) (kh : Nat) (hc : Int64) (pg : Nat → Int32) (rd : Nat → Int32) (rw : Nat → Int32) (ro : Nat → Int32) (be : Nat → Int32) (he : Nat → Int32) (kro : Nat → Int32) (khe : Nat → Int32) (p0 : Int32) (p1 : Int32) (hsg : sg ≤ 6) (hbf : la = -1 ∨ ∃ b : Nat, b < sg ∧ la = nI b) (hN1 : ∀ i : Nat, i < sg → ¬ (mo_shs sg rw (mo_may sg rw rn (bk_bag sg bg (nI i)) (nI i))).toInt64 = 0) (hN2 : ∀ i j : Nat, i < sg → j < sg → ¬ (mo_shs sg rw (mo_may sg rw rn (bk_bag sg (bk_bag sg bg (nI i)) (nI j)) (nI j))).toInt64 = 0) (hT : mo_in (p0 : Int32).toInt64 2 3 = true → sa_np sg = false → mTw (to_low sg rw (mo_may sg rw rn bg la) p0) (to_up sg rw rn bg (mo_may sg rw rn bg la) p0 sg)) : Met l yX7_twice wsX7_twice ({ frames := 7, cells := 0, slots := 0, locals := 173 } : Room) (vz_ro D cI (zM cI g pm rm rr st sg rn bg la ws pr ry hm xu xl sn kp kr kb kl kw kh hc pg rd rw ro be he kro khe) [.ref (g 0), .int p0, .int p1]) (vp_Sl (fun r => r = if mo_in (p0 : Int32).toInt64 2 3 then (if mo_in (p1 : Int32).toInt64 0 1 then (if sa_np sg then -103 else to_r sg rw rn bg la p0 p1) else -102) else -102)) 0 0 (fun _ => False) := by
  refine Met.ofW (cc := cX7_twice) (maxL := 3) (ret := (some .long)) (by decide) rfl ?_
  intro p e s m args below meth c s₁ B hml hv
  obtain ⟨rfl, hP, hZ⟩ := hv
  obtain ⟨hK, hN⟩ := id hZ
  have hx := B.exec
  have hb := B.bytes
  have hr := B.returns
  have hts := atoms_spec (ws := wsX7_twice) B.pre
  have hown : s.vm.findClass RX7 = some m.cls := findClass_of_methodNamed B.named
  have hlocks := B.notSynchronized
  have hl := lv_entry ([.ref (g 0), .int p0, .int p1]) (n := 3) (Nat.le_of_ble_eq_true rfl)
  rw [lg_entry_eq]
  generalize (lg_sl ([.ref (g 0), .int p0, .int p1]) ++ List.replicate (3 - (lg_sl ([.ref (g 0), .int p0, .int p1])).length) Slot.unset).toArray = ls at hl ⊢
  have hl : lv_has ls 3 [(0, .ref (g 0)), (1, .int p0), (2, .int p1)] := hl
  refine lv_iload_n hx hb dX7_twice_0 rfl (lv_at hl 1 rfl) ?_
  refine lv_i2l (v := (p0 : Int32).toInt64) hx hb dX7_twice_1 rfl ?_
  refine lv_ldc2 (v := 2) hx hb hown (hts (.constantLong RX7 156 (2)) (List.mem_of_getElem? (i := 1) rfl)) dX7_twice_2 ?_
  refine lv_ldc2 (v := 3) hx hb hown (hts (.constantLong RX7 60 (3)) (List.mem_of_getElem? (i := 2) rfl)) dX7_twice_5 ?_
  refine vp_callSi (W.runS (As := [.long ((p0 : Int32).toInt64), .long 2, .long 3]) (rest := []) ⟨hx, hb, hml, hown, hts⟩ (c_X7_in l ((p0 : Int32).toInt64) 2 3) (va_cwS 3 hts gX7_twice_X7_in rfl rfl rfl (by decide +kernel) ⟨Nat.le_of_ble_eq_true rfl, Nat.le_of_ble_eq_true rfl⟩) (vz_psS) rfl rfl hl.1 rfl (lv_room (Nat.le_of_ble_eq_true rfl)) dX7_twice_8 ⟨Nat.zero_le _, Nat.zero_le _⟩) (fun r_8 hr_8 => ?_)
  subst hr_8
  refine lv_if_eq (tgt := 24) hx hb dX7_twice_11 (by decide) (fun c_11 => ?_) (fun c_11 => ?_)
  · skip
    replace c_11 := vz_b0 c_11
    refine lv_ldc2 (v := (-102)) hx hb hown (hts (.constantLong RX7 158 (-102)) (List.mem_of_getElem? (i := 3) rfl)) dX7_twice_24 ?_
    exact W.lret hx hb hr (fun t ht hW => ⟨_, rfl, (by first | rfl | (rfl; done) | (rfl; rfl) | (simp only [c_11, ↓reduceIte, Bool.false_eq_true, if_true, if_false, reduceCtorEq, not_true_eq_false, not_false_eq_true, eq_self]; done) | (simp only [c_11, ↓reduceIte, Bool.false_eq_true, if_true, if_false, reduceCtorEq, not_true_eq_false, not_false_eq_true, eq_self]; rfl) | (simp [c_11]; done)), ht⟩) (fun q h => absurd h List.not_mem_nil) dX7_twice_27
  · skip
    replace c_11 := vz_b1 c_11
    refine lv_iload_n hx hb dX7_twice_14 rfl (lv_at hl 2 rfl) ?_
    refine lv_i2l (v := (p1 : Int32).toInt64) hx hb dX7_twice_15 rfl ?_
    refine lv_lconst (v := 0) hx hb dX7_twice_16 (by decide) ?_
    refine lv_lconst (v := 1) hx hb dX7_twice_17 (by decide) ?_
    refine vp_callSi (W.runS (As := [.long ((p1 : Int32).toInt64), .long 0, .long 1]) (rest := []) ⟨hx, hb, hml, hown, hts⟩ (c_X7_in l ((p1 : Int32).toInt64) 0 1) (va_cwS 3 hts gX7_twice_X7_in rfl rfl rfl (by decide +kernel) ⟨Nat.le_of_ble_eq_true rfl, Nat.le_of_ble_eq_true rfl⟩) (vz_psS) rfl rfl hl.1 rfl (lv_room (Nat.le_of_ble_eq_true rfl)) dX7_twice_18 ⟨Nat.zero_le _, Nat.zero_le _⟩) (fun r_18 hr_18 => ?_)
    subst hr_18
    refine lv_if_ne (tgt := 28) hx hb dX7_twice_21 (by decide) (fun c_21 => ?_) (fun c_21 => ?_)
    · skip
      replace c_21 := vz_b1 c_21
      refine lv_aload_n hx hb dX7_twice_28 rfl (lv_at hl 0 rfl) ?_
      refine vp_callSi (W.runV (As := []) (rest := []) ⟨hx, hb, hml, hown, hts⟩ (c_X7_lacks l D cI g pm rm rr st sg rn bg la ws pr ry hm xu xl sn kp kr kb kl kw kh hc pg rd rw ro be he kro khe (by first | assumption | omega)) (cwV 0 hts gX7_twice_X7_lacks rfl rfl rfl (by decide +kernel) ⟨Nat.le_of_ble_eq_true rfl, Nat.le_of_ble_eq_true rfl⟩) (vz_pvR (va_recv hK hP (ci := 7) (q0 := 0) rfl rfl) hZ hP) rfl rfl hl.1 rfl (lv_room (Nat.le_of_ble_eq_true rfl)) dX7_twice_29 ⟨Nat.zero_le _, Nat.zero_le _⟩) (fun r_29 hr_29 => ?_)
      subst hr_29
      refine lv_if_eq (tgt := 41) hx hb dX7_twice_32 (by decide) (fun c_32 => ?_) (fun c_32 => ?_)
      · skip
        replace c_32 := vz_b0 c_32
        refine lv_aload_n hx hb dX7_twice_41 rfl (lv_at hl 0 rfl) ?_
        refine lv_iload_n hx hb dX7_twice_42 rfl (lv_at hl 1 rfl) ?_
        refine lv_iload_n hx hb dX7_twice_43 rfl (lv_at hl 2 rfl) ?_
        refine vp_callSl (W.runV (As := [.int p0, .int p1]) (rest := []) ⟨hx, hb, hml, hown, hts⟩ (c_X7_twiceOf l D cI g pm rm rr st sg rn bg la ws pr ry hm xu xl sn kp kr kb kl kw kh hc pg rd rw ro be he kro khe p0 p1 (by first | assumption | omega) (by first | assumption | omega) hN1 hN2 (hT c_11 c_32)) (cwV 2 hts gX7_twice_X7_twiceOf rfl rfl rfl (by decide +kernel) ⟨Nat.le_of_ble_eq_true rfl, Nat.le_of_ble_eq_true rfl⟩) (vz_pvR (va_recv hK hP (ci := 7) (q0 := 0) rfl rfl) hZ hP) rfl rfl hl.1 rfl (lv_room (Nat.le_of_ble_eq_true rfl)) dX7_twice_44 ⟨Nat.zero_le _, Nat.zero_le _⟩) (fun r_44 hr_44 => ?_)
        subst hr_44
        exact W.lret hx hb hr (fun t ht hW => ⟨_, rfl, (by first | rfl | (rfl; done) | (rfl; rfl) | (simp only [c_11, c_21, c_32, ↓reduceIte, Bool.false_eq_true, if_true, if_false, reduceCtorEq, not_true_eq_false, not_false_eq_true, eq_self]; done) | (simp only [c_11, c_21, c_32, ↓reduceIte, Bool.false_eq_true, if_true, if_false, reduceCtorEq, not_true_eq_false, not_false_eq_true, eq_self]; rfl) | (simp [c_11, c_21, c_32]; done)), ht⟩) (fun q h => absurd h List.not_mem_nil) dX7_twice_47
      · skip
        replace c_32 := vz_b1 c_32
        refine lv_ldc2 (v := (-103)) hx hb hown (hts (.constantLong RX7 160 (-103)) (List.mem_of_getElem? (i := 4) rfl)) dX7_twice_35 ?_
        refine lv_goto (tgt := 47) hx hb dX7_twice_38 (by decide) ?_
        exact W.lret hx hb hr (fun t ht hW => ⟨_, rfl, (by first | rfl | (rfl; done) | (rfl; rfl) | (simp only [c_11, c_21, c_32, ↓reduceIte, Bool.false_eq_true, if_true, if_false, reduceCtorEq, not_true_eq_false, not_false_eq_true, eq_self]; done) | (simp only [c_11, c_21, c_32, ↓reduceIte, Bool.false_eq_true, if_true, if_false, reduceCtorEq, not_true_eq_false, not_false_eq_true, eq_self]; rfl) | (simp [c_11, c_21, c_32]; done)), ht⟩) (fun q h => absurd h List.not_mem_nil) dX7_twice_47
    · skip
      replace c_21 := vz_b0 c_21
      refine lv_ldc2 (v := (-102)) hx hb hown (hts (.constantLong RX7 158 (-102)) (List.mem_of_getElem? (i := 3) rfl)) dX7_twice_24 ?_
      exact W.lret hx hb hr (fun t ht hW => ⟨_, rfl, (by first | rfl | (rfl; done) | (rfl; rfl) | (simp only [c_11, c_21, ↓reduceIte, Bool.false_eq_true, if_true, if_false, reduceCtorEq, not_true_eq_false, not_false_eq_true, eq_self]; done) | (simp only [c_11, c_21, ↓reduceIte, Bool.false_eq_true, if_true, if_false, reduceCtorEq, not_true_eq_false, not_false_eq_true, eq_self]; rfl) | (simp [c_11, c_21]; done)), ht⟩) (fun q h => absurd h List.not_mem_nil) dX7_twice_27
set_option maxHeartbeats 4000000 in
set_option maxRecDepth 100000 in
theorem c_X7_layRow (l : Launch) (D : va_G) (cI : ClassId) (g : Nat → Nat) (pm : Nat) (rm : Nat) (rr : Int32) (st : Nat) (sg : Nat) (rn : Int32) (bg : Int32) (la : Int32) (ws : Bool) (pr : Nat) (ry : Nat) (hm : Nat) (xu : Int64) (xl : Int64) (sn : Int32) (kp : Int32) (kr : Int32) (kb : Int32) (kl : Int32) (kw : Bool) (kh : Nat) (hc : Int64) (pg : Nat → Int32) (rd : Nat → Int32) (rw : Nat → Int32) (ro : Nat → Int32) (be : Nat → Int32) (he : Nat → Int32) (kro : Nat → Int32) (khe : Nat → Int32) (sz : Nat) (p0 : Int32) (pC : Nat) (hsg : sg ≤ 6) (hs0 : 0 < sg) (hry : ry ≤ 6) (hC : pC < 2 ^ 31) : Met l yX7_layRow wsX7_layRow ({ frames := 0, cells := 0, slots := 0, locals := 0 } : Room) (vz_rw D cI (zM cI g pm rm rr st sg rn bg la ws pr ry hm xu xl sn kp kr kb kl kw kh hc pg rd rw ro be he kro khe) sz [.ref (g 0), .int p0, .int (nI pC)]) (va_Qi (fun r (_ : Unit) => r = vz_b (lyb rw (ly sg ry ro pC 0).1 (mo_eq (ly sg ry ro pC 0).2 p0) (ry - 1))) (fun (u : Unit) (t : State) => va_P D vwCl (zM cI g pm rm rr st sg rn bg la ws pr ry hm xu xl sn kp kr kb kl kw kh hc pg rd rw ((ly sg ry ro pC 0).1) be he kro khe) t.heap) (va_A (zM cI g pm rm rr st sg rn bg la ws pr ry hm xu xl sn kp kr kb kl kw kh hc pg rd rw ro be he kro khe) sz)) 0 0 (va_A (zM cI g pm rm rr st sg rn bg la ws pr ry hm xu xl sn kp kr kb kl kw kh hc pg rd rw ro be he kro khe) sz) := by
  refine Met.ofW (cc := cX7_layRow) (maxL := 7) (ret := (some .boolean)) (by decide) rfl ?_
  intro p e s m args below meth c s₁ B hml hv
  obtain ⟨rfl, hsz, hP, hZ, hD0⟩ := hv
  obtain ⟨hK, hN⟩ := id hZ
  have hx := B.exec
  have hb := B.bytes
  have hr := B.returns
  have hts := atoms_spec (ws := wsX7_layRow) B.pre
  have hown : s.vm.findClass RX7 = some m.cls := findClass_of_methodNamed B.named
  have hlocks := B.notSynchronized
  subst hsz
  have hD := hD0.self (sz := s.heap.size)
  generalize hAe : va_A (zM cI g pm rm rr st sg rn bg la ws pr ry hm xu xl sn kp kr kb kl kw kh hc pg rd rw ro be he kro khe) s.heap.size = A at hD ⊢
  have hA : ∀ q : Nat, s.heap.size ≤ q → A q := fun q h => by rw [← hAe]; exact Or.inr h
  have hS : va_S A s.heap s.heap [] := va_S.rf
  have k16 := hts (.fieldLink RX7 16 "SongsAgainModel" "rows" "[I") (List.mem_of_getElem? (i := 4) rfl)
  have k19 := hts (.fieldLink RX7 19 "SongsAgainModel" "row" "[I") (List.mem_of_getElem? (i := 2) rfl)
  have k73 := hts (.fieldLink RX7 73 "SongsAgainModel" "songs" "I") (List.mem_of_getElem? (i := 3) rfl)
  have k165 := hts (.fieldLink RX7 165 "SongsAgainModel" "rowMany" "I") (List.mem_of_getElem? (i := 1) rfl)
  have iX7 : ∀ w ∈ u_ws RX7 TX7 30, w ∈ wsX7_layRow := vz_in (i := 5) (n := 30) rfl
  have hl := lv_entry ([.ref (g 0), .int p0, .int (nI pC)]) (n := 7) (Nat.le_of_ble_eq_true rfl)
  rw [lg_entry_eq]
  generalize (lg_sl ([.ref (g 0), .int p0, .int (nI pC)]) ++ List.replicate (7 - (lg_sl ([.ref (g 0), .int p0, .int (nI pC)])).length) Slot.unset).toArray = ls at hl ⊢
  have hl : lv_has ls 7 [(0, .ref (g 0)), (1, .int p0), (2, .int (nI pC))] := hl
  have hP : va_P D vwCl (zM cI g pm rm rr st sg rn bg la ws pr ry hm xu xl sn kp kr kb kl kw kh hc pg rd rw ro be he kro khe) s.heap := hP
  refine lv_iload_n hx hb dX7_layRow_0 rfl (lv_at hl 2 rfl) ?_
  refine lv_istore_n (lv' := [(3, .int (nI pC)), (0, .ref (g 0)), (1, .int p0), (2, .int (nI pC))]) hx hb dX7_layRow_1 rfl hl (by decide) rfl (fun ls hl => ?_)
  refine lv_iconst (v := 0) hx hb dX7_layRow_2 (by decide) ?_
  refine lv_istore (lv' := [(4, .int 0), (3, .int (nI pC)), (0, .ref (g 0)), (1, .int p0), (2, .int (nI pC))]) hx hb dX7_layRow_3 hl (by decide) rfl (fun ls hl => ?_)
  refine lv_aload_n hx hb dX7_layRow_5 rfl (lv_at hl 2 rfl) ?_
  refine va_get (D := D) (ci := 7) (v := .int (nI ry)) (C := RX7) (T := TX7) (N := 30) hx hb hts iX7 hown hK hP 0 rfl rfl 15 (by decide) k165 (fun _ h9 => h9) rfl dX7_layRow_6 ?_
  refine lv_iconst (v := 1) hx hb dX7_layRow_9 (by decide) ?_
  refine lv_isub hx hb dX7_layRow_10 ?_
  refine lv_istore (lv' := [(5, .int ((nI ry) - 1)), (4, .int 0), (3, .int (nI pC)), (0, .ref (g 0)), (1, .int p0), (2, .int (nI pC))]) hx hb dX7_layRow_11 hl (by decide) rfl (fun ls hl => ?_)
  have L_13 : ∀ (d_13 : Nat) (j : Nat) (z5 : Int32) (c9 : Nat) (z4 : Int32) (yr : Nat → Int32) (H_13 : Heap) (locs_13 : List Loc), j < d_13 → (j ≤ ry) → (z5 = nI j - 1) → (c9 < 2 ^ 31) → (∀ k : Nat, j ≤ k → k < ry → ∃ x : Nat, x < sg ∧ yr k = nI x) → (ly sg ry ro pC 0 = ly sg j yr c9 z4) → va_P D vwCl (zM cI g pm rm rr st sg rn bg la ws pr ry hm xu xl sn kp kr kb kl kw kh hc pg rd rw yr be he kro khe) H_13 → va_D A (zM cI g pm rm rr st sg rn bg la ws pr ry hm xu xl sn kp kr kb kl kw kh hc pg rd rw yr be he kro khe) → va_S A s.heap H_13 locs_13 → ∀ (ls : Array Slot), lv_has ls 7 [(5, .int z5), (4, .int z4), (3, .int (nI c9)), (0, .ref (g 0)), (1, .int p0), (2, .int (nI pC))] → W p l e ({ frames := 0, cells := 0, slots := 0, locals := 0 } : Room) s m ([.ref (g 0), .int p0, .int (nI pC)] : List Value).toArray below meth c H_13 locs_13 0 0 (MQ below (va_Qi (fun r (_ : Unit) => r = vz_b (lyb rw (ly sg ry ro pC 0).1 (mo_eq (ly sg ry ro pC 0).2 p0) (ry - 1))) (fun (u : Unit) (t : State) => va_P D vwCl (zM cI g pm rm rr st sg rn bg la ws pr ry hm xu xl sn kp kr kb kl kw kh hc pg rd rw ((ly sg ry ro pC 0).1) be he kro khe) t.heap) A) ([.ref (g 0), .int p0, .int (nI pC)] : List Value).toArray s 0 0 A) (F0 m 13 ls []) := by
    intro d_13
    induction d_13 with
    | zero => intro j z5 c9 z4 yr H_13 locs_13 hd; exact absurd hd (Nat.not_lt_zero _)
    | succ d_13 ih_13 =>
      intro j z5 c9 z4 yr H_13 locs_13 hd_13 hj hz5 hc9 hro hres hP hD hS ls hl
      refine lv_iload hx hb dX7_layRow_13 (lv_at hl 0 rfl) ?_
      refine lv_if_lt (tgt := 58) hx hb dX7_layRow_15 (by decide) (fun c_15 => ?_) (fun c_15 => ?_)
      · skip
        have hj0 : j = 0 := vz_lo1 (hz5 ▸ c_15) (by omega)
        have hres0 := hres
        have hro0 := hro
        rw [hj0] at hres0 hro0
        have hres1 : ly sg ry ro pC 0 = (yr, z4) := hres0
        refine lv_iload hx hb dX7_layRow_58 (lv_at hl 1 rfl) ?_
        refine lv_iload_n hx hb dX7_layRow_60 rfl (lv_at hl 4 rfl) ?_
        have J_69 : ∀ (q9 : Int32), q9 = vz_b (mo_eq z4 p0) → W p l e ({ frames := 0, cells := 0, slots := 0, locals := 0 } : Room) s m ([.ref (g 0), .int p0, .int (nI pC)] : List Value).toArray below meth c H_13 locs_13 0 0 (MQ below (va_Qi (fun r (_ : Unit) => r = vz_b (lyb rw (ly sg ry ro pC 0).1 (mo_eq (ly sg ry ro pC 0).2 p0) (ry - 1))) (fun (u : Unit) (t : State) => va_P D vwCl (zM cI g pm rm rr st sg rn bg la ws pr ry hm xu xl sn kp kr kb kl kw kh hc pg rd rw ((ly sg ry ro pC 0).1) be he kro khe) t.heap) A) ([.ref (g 0), .int p0, .int (nI pC)] : List Value).toArray s 0 0 A) (F0 m 69 ls [.int q9]) := by
          intro q9 hq9
          subst hq9
          refine lv_istore (lv' := [(5, .int (vz_b (mo_eq z4 p0))), (4, .int z4), (3, .int (nI c9)), (0, .ref (g 0)), (1, .int p0), (2, .int (nI pC))]) hx hb dX7_layRow_69 hl (by decide) rfl (fun ls hl => ?_)
          refine lv_iconst (v := 1) hx hb dX7_layRow_71 (by decide) ?_
          refine lv_istore (lv' := [(6, .int 1), (5, .int (vz_b (mo_eq z4 p0))), (4, .int z4), (3, .int (nI c9)), (0, .ref (g 0)), (1, .int p0), (2, .int (nI pC))]) hx hb dX7_layRow_72 hl (by decide) rfl (fun ls hl => ?_)
          have L_74 : ∀ (d_74 : Nat) (j2 : Nat) (b9 : Bool) (H_74 : Heap) (locs_74 : List Loc), ry - 1 - j2 < d_74 → (j2 ≤ ry - 1) → (b9 = lyb rw yr (mo_eq z4 p0) j2) → va_P D vwCl (zM cI g pm rm rr st sg rn bg la ws pr ry hm xu xl sn kp kr kb kl kw kh hc pg rd rw yr be he kro khe) H_74 → va_D A (zM cI g pm rm rr st sg rn bg la ws pr ry hm xu xl sn kp kr kb kl kw kh hc pg rd rw yr be he kro khe) → va_S A s.heap H_74 locs_74 → ∀ (ls : Array Slot), lv_has ls 7 [(6, .int (nI (j2 + 1))), (5, .int (vz_b b9)), (4, .int z4), (3, .int (nI c9)), (0, .ref (g 0)), (1, .int p0), (2, .int (nI pC))] → W p l e ({ frames := 0, cells := 0, slots := 0, locals := 0 } : Room) s m ([.ref (g 0), .int p0, .int (nI pC)] : List Value).toArray below meth c H_74 locs_74 0 0 (MQ below (va_Qi (fun r (_ : Unit) => r = vz_b (lyb rw (ly sg ry ro pC 0).1 (mo_eq (ly sg ry ro pC 0).2 p0) (ry - 1))) (fun (u : Unit) (t : State) => va_P D vwCl (zM cI g pm rm rr st sg rn bg la ws pr ry hm xu xl sn kp kr kb kl kw kh hc pg rd rw ((ly sg ry ro pC 0).1) be he kro khe) t.heap) A) ([.ref (g 0), .int p0, .int (nI pC)] : List Value).toArray s 0 0 A) (F0 m 74 ls []) := by
            intro d_74
            induction d_74 with
            | zero => intro j2 b9 H_74 locs_74 hd; exact absurd hd (Nat.not_lt_zero _)
            | succ d_74 ih_74 =>
              intro j2 b9 H_74 locs_74 hd_74 hj2 hb9 hP hD hS ls hl
              refine lv_iload hx hb dX7_layRow_74 (lv_at hl 0 rfl) ?_
              refine lv_aload_n hx hb dX7_layRow_76 rfl (lv_at hl 4 rfl) ?_
              refine va_get (D := D) (ci := 7) (v := .int (nI ry)) (C := RX7) (T := TX7) (N := 30) hx hb hts iX7 hown hK hP 0 rfl rfl 15 (by decide) k165 (fun _ h9 => h9) rfl dX7_layRow_77 ?_
              refine lv_icmp_ge (tgt := 138) hx hb dX7_layRow_80 (by decide) (fun c_80 => ?_) (fun c_80 => ?_)
              · skip
                have hje : j2 = ry - 1 := by have := vz_ge c_80 (by omega) (by omega) ; omega
                refine lv_iload hx hb dX7_layRow_138 (lv_at hl 1 rfl) ?_
                have en_ro : (ly sg ry ro pC 0).1 = yr := by first | (rw [hres1, hb9, hje] ; done) | rw [hres1]
                exact W.zret hx hb hr (vz_nb _) (fun t ht hW => ⟨⟨_, (), rfl, (by first | (rw [hres1, hb9, hje] ; done) | rw [hres1]), (by show va_P D vwCl (zM cI g pm rm rr st sg rn bg la ws pr ry hm xu xl sn kp kr kb kl kw kh hc pg rd rw ((ly sg ry ro pC 0).1) be he kro khe) t.heap; rw [ht, en_ro]; exact hP)⟩, hS.F ht⟩) hS.2.2 dX7_layRow_140
              · skip
                have hlt : j2 + 1 < ry := vz_lt c_80 (by omega)
                obtain ⟨hr1l, hr1⟩ := vz_el (hro0 (j2 + 1) (by omega) hlt)
                obtain ⟨hr2l, hr2⟩ := vz_el (hro0 j2 (by omega) (by omega))
                refine lv_iload hx hb dX7_layRow_83 (lv_at hl 1 rfl) ?_
                have J_130 : ∀ (q8 : Int32), q8 = vz_b (ly_is b9 rw (yr (j2 + 1)) (yr j2)) → W p l e ({ frames := 0, cells := 0, slots := 0, locals := 0 } : Room) s m ([.ref (g 0), .int p0, .int (nI pC)] : List Value).toArray below meth c H_74 locs_74 0 0 (MQ below (va_Qi (fun r (_ : Unit) => r = vz_b (lyb rw (ly sg ry ro pC 0).1 (mo_eq (ly sg ry ro pC 0).2 p0) (ry - 1))) (fun (u : Unit) (t : State) => va_P D vwCl (zM cI g pm rm rr st sg rn bg la ws pr ry hm xu xl sn kp kr kb kl kw kh hc pg rd rw ((ly sg ry ro pC 0).1) be he kro khe) t.heap) A) ([.ref (g 0), .int p0, .int (nI pC)] : List Value).toArray s 0 0 A) (F0 m 130 ls [.int q8]) := by
                  intro q8 hq8
                  subst hq8
                  refine lv_istore (lv' := [(5, .int (vz_b (ly_is b9 rw (yr (j2 + 1)) (yr j2)))), (6, .int (nI (j2 + 1))), (4, .int z4), (3, .int (nI c9)), (0, .ref (g 0)), (1, .int p0), (2, .int (nI pC))]) hx hb dX7_layRow_130 hl (by decide) rfl (fun ls hl => ?_)
                  refine lv_iinc (v := nI (j2 + 1 + 1)) (lv' := [(6, .int (nI (j2 + 1 + 1))), (5, .int (vz_b (ly_is b9 rw (yr (j2 + 1)) (yr j2)))), (4, .int z4), (3, .int (nI c9)), (0, .ref (g 0)), (1, .int p0), (2, .int (nI pC))]) hx hb dX7_layRow_132 hl (k := 1) rfl (vz_inc _) (by decide) rfl (fun ls hl => ?_)
                  refine lv_goto (tgt := 74) hx hb dX7_layRow_135 (by decide) ?_
                  exact ih_74 (j2 + 1) (ly_is b9 rw (yr (j2 + 1)) (yr j2)) _ _ (by omega) (by omega) (by rw [hb9] ; rfl) hP hD hS ls (lv_sub hl [0, 1, 2, 3, 4, 5, 6] rfl)
                refine lv_if_eq (tgt := 129) hx hb dX7_layRow_85 (by decide) (fun c_85 => ?_) (fun c_85 => ?_)
                · skip
                  replace c_85 := vz_b0 c_85
                  refine lv_iconst (v := 0) hx hb dX7_layRow_129 (by decide) ?_
                  exact J_130 _ (by first | rfl | (simp only [ly_is, vz_b]; done) | (simp only [ly_is, vz_b]; rfl) | (simp only [ly_is, vz_b, c_85, ↓reduceIte, Bool.false_eq_true, if_true, if_false, reduceCtorEq, not_true_eq_false, not_false_eq_true, eq_self]; done) | (simp [ly_is, vz_b, c_85]; done))
                · skip
                  replace c_85 := vz_b1 c_85
                  refine lv_aload_n hx hb dX7_layRow_88 rfl (lv_at hl 4 rfl) ?_
                  refine va_get (D := D) (ci := 7) (v := .ref (g 3)) (C := RX7) (T := TX7) (N := 30) hx hb hts iX7 hown hK hP 0 rfl rfl 12 (by decide) k16 (fun _ h9 => h9) rfl dX7_layRow_89 ?_
                  refine lv_iconst (v := 4) hx hb dX7_layRow_92 (by decide) ?_
                  refine lv_aload_n hx hb dX7_layRow_93 rfl (lv_at hl 4 rfl) ?_
                  refine va_get (D := D) (ci := 7) (v := .ref (g 4)) (C := RX7) (T := TX7) (N := 30) hx hb hts iX7 hown hK hP 0 rfl rfl 13 (by decide) k19 (fun _ h9 => h9) rfl dX7_layRow_94 ?_
                  refine lv_iload hx hb dX7_layRow_97 (lv_at hl 0 rfl) ?_
                  refine va_iald hx hb hK hP 4 0 rfl rfl (i := nI (j2 + 1)) (vp_in_nI (by first | assumption | omega) (by first | assumption | omega)) dX7_layRow_99 ?_
                  refine W.eq (congrArg (fun z => F0 m 100 ls (.int z :: [.int 4, .ref (g 3)])) (vz_ix yr (by first | assumption | omega))) ?_
                  refine W.eq (congrArg (fun z => F0 m 100 ls (.int z :: [.int 4, .ref (g 3)])) (hr1)) ?_
                  refine lv_imul hx hb dX7_layRow_100 ?_
                  refine W.eq (congrArg (fun z => F0 m 101 ls (.int z :: [.ref (g 3)])) (pk_mul 4 ((yr (j2 + 1)).toNatClampNeg) : 4 * (nI ((yr (j2 + 1)).toNatClampNeg)) = nI (4 * ((yr (j2 + 1)).toNatClampNeg)))) ?_
                  refine lv_iconst (v := 1) hx hb dX7_layRow_101 (by decide) ?_
                  refine lv_iadd hx hb dX7_layRow_102 ?_
                  refine W.eq (congrArg (fun z => F0 m 103 ls (.int z :: [.ref (g 3)])) (nI_add (4 * ((yr (j2 + 1)).toNatClampNeg)) 1 : (nI (4 * ((yr (j2 + 1)).toNatClampNeg))) + 1 = nI ((4 * ((yr (j2 + 1)).toNatClampNeg)) + 1))) ?_
                  refine va_iald hx hb hK hP 3 0 rfl rfl (i := nI ((4 * ((yr (j2 + 1)).toNatClampNeg)) + 1)) (vp_in_nI (by first | assumption | omega) (by first | assumption | omega)) dX7_layRow_103 ?_
                  refine W.eq (congrArg (fun z => F0 m 104 ls (.int z :: [])) (vz_ix rw (by first | assumption | omega))) ?_
                  refine lv_aload_n hx hb dX7_layRow_104 rfl (lv_at hl 4 rfl) ?_
                  refine va_get (D := D) (ci := 7) (v := .ref (g 3)) (C := RX7) (T := TX7) (N := 30) hx hb hts iX7 hown hK hP 0 rfl rfl 12 (by decide) k16 (fun _ h9 => h9) rfl dX7_layRow_105 ?_
                  refine lv_iconst (v := 4) hx hb dX7_layRow_108 (by decide) ?_
                  refine lv_aload_n hx hb dX7_layRow_109 rfl (lv_at hl 4 rfl) ?_
                  refine va_get (D := D) (ci := 7) (v := .ref (g 4)) (C := RX7) (T := TX7) (N := 30) hx hb hts iX7 hown hK hP 0 rfl rfl 13 (by decide) k19 (fun _ h9 => h9) rfl dX7_layRow_110 ?_
                  refine lv_iload hx hb dX7_layRow_113 (lv_at hl 0 rfl) ?_
                  refine lv_iconst (v := 1) hx hb dX7_layRow_115 (by decide) ?_
                  refine lv_isub hx hb dX7_layRow_116 ?_
                  refine W.eq (congrArg (fun z => F0 m 117 ls (.int z :: [.ref (g 4), .int 4, .ref (g 3), .int (rw ((4 * ((yr (j2 + 1)).toNatClampNeg)) + 1))])) (nI_pred j2)) ?_
                  refine va_iald hx hb hK hP 4 0 rfl rfl (i := nI j2) (vp_in_nI (by first | assumption | omega) (by first | assumption | omega)) dX7_layRow_117 ?_
                  refine W.eq (congrArg (fun z => F0 m 118 ls (.int z :: [.int 4, .ref (g 3), .int (rw ((4 * ((yr (j2 + 1)).toNatClampNeg)) + 1))])) (vz_ix yr (by first | assumption | omega))) ?_
                  refine W.eq (congrArg (fun z => F0 m 118 ls (.int z :: [.int 4, .ref (g 3), .int (rw ((4 * ((yr (j2 + 1)).toNatClampNeg)) + 1))])) (hr2)) ?_
                  refine lv_imul hx hb dX7_layRow_118 ?_
                  refine W.eq (congrArg (fun z => F0 m 119 ls (.int z :: [.ref (g 3), .int (rw ((4 * ((yr (j2 + 1)).toNatClampNeg)) + 1))])) (pk_mul 4 ((yr j2).toNatClampNeg) : 4 * (nI ((yr j2).toNatClampNeg)) = nI (4 * ((yr j2).toNatClampNeg)))) ?_
                  refine lv_iconst (v := 1) hx hb dX7_layRow_119 (by decide) ?_
                  refine lv_iadd hx hb dX7_layRow_120 ?_
                  refine W.eq (congrArg (fun z => F0 m 121 ls (.int z :: [.ref (g 3), .int (rw ((4 * ((yr (j2 + 1)).toNatClampNeg)) + 1))])) (nI_add (4 * ((yr j2).toNatClampNeg)) 1 : (nI (4 * ((yr j2).toNatClampNeg))) + 1 = nI ((4 * ((yr j2).toNatClampNeg)) + 1))) ?_
                  refine va_iald hx hb hK hP 3 0 rfl rfl (i := nI ((4 * ((yr j2).toNatClampNeg)) + 1)) (vp_in_nI (by first | assumption | omega) (by first | assumption | omega)) dX7_layRow_121 ?_
                  refine W.eq (congrArg (fun z => F0 m 122 ls (.int z :: [.int (rw ((4 * ((yr (j2 + 1)).toNatClampNeg)) + 1))])) (vz_ix rw (by first | assumption | omega))) ?_
                  refine lv_icmp_eq (tgt := 129) hx hb dX7_layRow_122 (by decide) (fun c_122 => ?_) (fun c_122 => ?_)
                  · skip
                    refine lv_iconst (v := 0) hx hb dX7_layRow_129 (by decide) ?_
                    exact J_130 _ (by first | rfl | (simp only [ly_is, vz_b, if_pos c_122]; done) | (simp only [ly_is, vz_b, if_pos c_122]; rfl) | (simp only [ly_is, vz_b, c_85, c_122, ↓reduceIte, Bool.false_eq_true, if_true, if_false, reduceCtorEq, not_true_eq_false, not_false_eq_true, eq_self]; done) | (simp [ly_is, vz_b, c_85, c_122]; done))
                  · skip
                    refine lv_iconst (v := 1) hx hb dX7_layRow_125 (by decide) ?_
                    refine lv_goto (tgt := 130) hx hb dX7_layRow_126 (by decide) ?_
                    exact J_130 _ (by first | rfl | (simp only [ly_is, vz_b, if_neg c_122]; done) | (simp only [ly_is, vz_b, if_neg c_122]; rfl) | (simp only [ly_is, vz_b, c_85, c_122, ↓reduceIte, Bool.false_eq_true, if_true, if_false, reduceCtorEq, not_true_eq_false, not_false_eq_true, eq_self]; done) | (simp [ly_is, vz_b, c_85, c_122]; done))
          exact L_74 _ 0 (mo_eq z4 p0) _ _ (Nat.lt_succ_self _) (Nat.zero_le _) rfl hP hD hS ls (lv_sub hl [0, 1, 2, 3, 4, 5, 6] rfl)
        refine lv_icmp_ne (tgt := 68) hx hb dX7_layRow_61 (by decide) (fun c_61 => ?_) (fun c_61 => ?_)
        · skip
          refine lv_iconst (v := 0) hx hb dX7_layRow_68 (by decide) ?_
          exact J_69 _ (by first | rfl | (simp only [mo_eq, vz_b, if_neg c_61]; done) | (simp only [mo_eq, vz_b, if_neg c_61]; rfl) | (simp only [mo_eq, vz_b, c_61, ↓reduceIte, Bool.false_eq_true, if_true, if_false, reduceCtorEq, not_true_eq_false, not_false_eq_true, eq_self]; done) | (simp [mo_eq, vz_b, c_61]; done))
        · skip
          refine lv_iconst (v := 1) hx hb dX7_layRow_64 (by decide) ?_
          refine lv_goto (tgt := 69) hx hb dX7_layRow_65 (by decide) ?_
          exact J_69 _ (by first | rfl | (simp only [mo_eq, vz_b, if_pos c_61]; done) | (simp only [mo_eq, vz_b, if_pos c_61]; rfl) | (simp only [mo_eq, vz_b, c_61, ↓reduceIte, Bool.false_eq_true, if_true, if_false, reduceCtorEq, not_true_eq_false, not_false_eq_true, eq_self]; done) | (simp [mo_eq, vz_b, c_61]; done))
      · skip
        have hj0 : 0 < j := vz_lo2 (hz5 ▸ c_15)
        refine lv_aload_n hx hb dX7_layRow_18 rfl (lv_at hl 3 rfl) ?_
        refine va_get (D := D) (ci := 7) (v := .ref (g 4)) (C := RX7) (T := TX7) (N := 30) hx hb hts iX7 hown hK hP 0 rfl rfl 13 (by decide) k19 (fun _ h9 => h9) rfl dX7_layRow_19 ?_
        refine lv_iload hx hb dX7_layRow_22 (lv_at hl 0 rfl) ?_
        refine W.eq (congrArg (fun z => F0 m 24 ls (.int z :: [.ref (g 4)])) (hz5.trans (vz_dec hj0))) ?_
        refine lv_iload_n hx hb dX7_layRow_24 rfl (lv_at hl 2 rfl) ?_
        refine lv_aload_n hx hb dX7_layRow_25 rfl (lv_at hl 3 rfl) ?_
        refine va_get (D := D) (ci := 7) (v := .int (nI sg)) (C := RX7) (T := TX7) (N := 30) hx hb hts iX7 hown hK hP 0 rfl rfl 6 (by decide) k73 (fun _ h9 => h9) rfl dX7_layRow_26 ?_
        refine lv_irem hx hb dX7_layRow_29 (nI_ne0 hs0 (by omega)) ?_
        refine W.eq (congrArg (fun z => F0 m 30 ls (.int z :: [.int (nI (j - 1)), .ref (g 4)])) (pk_rem hc9 hs0 (by omega))) ?_
        refine va_iast hx hb hK hP hD hS 4 0 rfl rfl (i := nI (j - 1)) (x := nI (c9 % sg)) (vp_in_nI (by first | assumption | omega) (by first | assumption | omega)) dX7_layRow_30 (fun H_30 locs_30 hP9 hD9 hS9 => ?_)
        rw [show (nI (j - 1) : Int32).toNatClampNeg = j - 1 from nI_clamp (by first | assumption | omega)] at hP9 hD9
        replace hP : va_P D vwCl (zM cI g pm rm rr st sg rn bg la ws pr ry hm xu xl sn kp kr kb kl kw kh hc pg rd rw (upd yr (j - 1) (nI (c9 % sg))) be he kro khe) H_30 := hP9
        replace hD : va_D A (zM cI g pm rm rr st sg rn bg la ws pr ry hm xu xl sn kp kr kb kl kw kh hc pg rd rw (upd yr (j - 1) (nI (c9 % sg))) be he kro khe) := hD9
        replace hS := hS9
        clear hP9 hD9 hS9
        refine lv_iload hx hb dX7_layRow_31 (lv_at hl 1 rfl) ?_
        refine lv_iconst (v := 1) hx hb dX7_layRow_33 (by decide) ?_
        refine lv_aload_n hx hb dX7_layRow_34 rfl (lv_at hl 3 rfl) ?_
        refine va_get (D := D) (ci := 7) (v := .ref (g 4)) (C := RX7) (T := TX7) (N := 30) hx hb hts iX7 hown hK hP 0 rfl rfl 13 (by decide) k19 (fun _ h9 => h9) rfl dX7_layRow_35 ?_
        refine lv_iload hx hb dX7_layRow_38 (lv_at hl 0 rfl) ?_
        refine W.eq (congrArg (fun z => F0 m 40 ls (.int z :: [.ref (g 4), .int 1, .int z4])) (hz5.trans (vz_dec hj0))) ?_
        refine va_iald hx hb hK hP 4 0 rfl rfl (i := nI (j - 1)) (vp_in_nI (by first | assumption | omega) (by first | assumption | omega)) dX7_layRow_40 ?_
        refine W.eq (congrArg (fun z => F0 m 41 ls (.int z :: [.int 1, .int z4])) (vz_ix (upd yr (j - 1) (nI (c9 % sg))) (by first | assumption | omega))) ?_
        refine W.eq (congrArg (fun z => F0 m 41 ls (.int z :: [.int 1, .int z4])) (pk_us)) ?_
        refine lv_ishl hx hb dX7_layRow_41 ?_
        refine lv_ior hx hb dX7_layRow_42 ?_
        refine lv_istore (lv' := [(4, .int (z4 ||| (1 <<< ((nI (c9 % sg)) &&& 31)))), (5, .int z5), (3, .int (nI c9)), (0, .ref (g 0)), (1, .int p0), (2, .int (nI pC))]) hx hb dX7_layRow_43 hl (by decide) rfl (fun ls hl => ?_)
        refine lv_iload_n hx hb dX7_layRow_45 rfl (lv_at hl 2 rfl) ?_
        refine lv_aload_n hx hb dX7_layRow_46 rfl (lv_at hl 3 rfl) ?_
        refine va_get (D := D) (ci := 7) (v := .int (nI sg)) (C := RX7) (T := TX7) (N := 30) hx hb hts iX7 hown hK hP 0 rfl rfl 6 (by decide) k73 (fun _ h9 => h9) rfl dX7_layRow_47 ?_
        refine lv_idiv hx hb dX7_layRow_50 (nI_ne0 hs0 (by omega)) ?_
        refine W.eq (congrArg (fun z => F0 m 51 ls (.int z :: [])) (pk_div hc9 hs0 (by omega))) ?_
        refine lv_istore_n (lv' := [(3, .int (nI (c9 / sg))), (4, .int (z4 ||| (1 <<< ((nI (c9 % sg)) &&& 31)))), (5, .int z5), (0, .ref (g 0)), (1, .int p0), (2, .int (nI pC))]) hx hb dX7_layRow_51 rfl hl (by decide) rfl (fun ls hl => ?_)
        refine lv_iinc (v := z5 + (-1)) (lv' := [(5, .int (z5 + (-1))), (3, .int (nI (c9 / sg))), (4, .int (z4 ||| (1 <<< ((nI (c9 % sg)) &&& 31)))), (0, .ref (g 0)), (1, .int p0), (2, .int (nI pC))]) hx hb dX7_layRow_52 hl (k := 2) rfl rfl (by decide) rfl (fun ls hl => ?_)
        refine lv_goto (tgt := 13) hx hb dX7_layRow_55 (by decide) ?_
        have ew_ro : (upd yr (j - 1) (nI (c9 % sg))) = upd yr (j - 1) (nI (c9 % sg)) := by rfl
        replace hP : va_P D vwCl (zM cI g pm rm rr st sg rn bg la ws pr ry hm xu xl sn kp kr kb kl kw kh hc pg rd rw (upd yr (j - 1) (nI (c9 % sg))) be he kro khe) H_30 := by rw [ew_ro]; exact hP
        replace hD : va_D A (zM cI g pm rm rr st sg rn bg la ws pr ry hm xu xl sn kp kr kb kl kw kh hc pg rd rw (upd yr (j - 1) (nI (c9 % sg))) be he kro khe) := vz_same hD rfl
        exact ih_13 (j - 1) (z5 + (-1)) (c9 / sg) (z4 ||| (1 <<< ((nI (c9 % sg)) &&& 31))) (upd yr (j - 1) (nI (c9 % sg))) _ _ (by omega) (by omega) (by rw [hz5] ; exact vz_lo3 hj0) (by have := Nat.div_le_self c9 sg ; omega) (ly_in hro hj0 (Nat.mod_lt _ hs0)) (by rw [hres, ly_s hj0]) hP hD hS ls (lv_sub hl [0, 2, 1, 3, 4, 5] rfl)
  exact L_13 _ ry ((nI ry) - 1) pC 0 ro _ _ (Nat.lt_succ_self _) (Nat.le_refl _) rfl hC (fun k h1 h2 => absurd h2 (by omega)) rfl hP hD hS ls (lv_sub hl [0, 1, 2, 3, 4, 5] rfl)
set_option maxHeartbeats 4000000 in
set_option maxRecDepth 100000 in
theorem c_X7_partyOf (l : Launch) (D : va_G) (cI : ClassId) (g : Nat → Nat) (pm : Nat) (rm : Nat) (rr : Int32) (st : Nat) (sg : Nat) (rn : Int32) (bg : Int32) (la : Int32) (ws : Bool) (pr : Nat) (ry : Nat) (hm : Nat) (xu : Int64) (xl : Int64) (sn : Int32) (kp : Int32) (kr : Int32) (kb : Int32) (kl : Int32) (kw : Bool) (kh : Nat) (hc : Int64) (pg : Nat → Int32) (rd : Nat → Int32) (rw : Nat → Int32) (ro : Nat → Int32) (be : Nat → Int32) (he : Nat → Int32) (kro : Nat → Int32) (khe : Nat → Int32) (sz : Nat) (p0 : Int32) (p1 : Int32) (K : Nat) (hsg : sg ≤ 6) (hs0 : 0 < sg) (hKe : mo_ones p0 6 = nI K) (hK6 : K ≤ 6) (hw1 : p1 = 0 ∨ ∃ x : Nat, x < 6 ∧ p1 = nI (10 + x)) : Met l yX7_partyOf wsX7_partyOf ({ frames := 1, cells := 0, slots := 0, locals := 26 } : Room) (vz_rw D cI (zM cI g pm rm rr st sg rn bg la ws pr ry hm xu xl sn kp kr kb kl kw kh hc pg rd rw ro be he kro khe) sz [.ref (g 0), .int p0, .int p1]) (va_Qi (fun r (_ : (Nat → Int32) × (Nat → Int32) × Nat) => r = py sg rw K p0 p1) (fun (u : (Nat → Int32) × (Nat → Int32) × Nat) (t : State) => va_P D vwCl (zM cI g pm rm rr st sg rn bg la ws pr u.2.2 hm xu xl sn kp kr kb kl kw kh hc pg rd rw u.1 u.2.1 he kro khe) t.heap) (va_A (zM cI g pm rm rr st sg rn bg la ws pr ry hm xu xl sn kp kr kb kl kw kh hc pg rd rw ro be he kro khe) sz)) 0 0 (va_A (zM cI g pm rm rr st sg rn bg la ws pr ry hm xu xl sn kp kr kb kl kw kh hc pg rd rw ro be he kro khe) sz) := by
  refine Met.ofW (cc := cX7_partyOf) (maxL := 6) (ret := (some .int)) (by decide) rfl ?_
  intro p e s m args below meth c s₁ B hml hv
  obtain ⟨rfl, hsz, hP, hZ, hD0⟩ := hv
  obtain ⟨hK, hN⟩ := id hZ
  have hx := B.exec
  have hb := B.bytes
  have hr := B.returns
  have hts := atoms_spec (ws := wsX7_partyOf) B.pre
  have hown : s.vm.findClass RX7 = some m.cls := findClass_of_methodNamed B.named
  have hlocks := B.notSynchronized
  subst hsz
  have hD := hD0.self (sz := s.heap.size)
  generalize hAe : va_A (zM cI g pm rm rr st sg rn bg la ws pr ry hm xu xl sn kp kr kb kl kw kh hc pg rd rw ro be he kro khe) s.heap.size = A at hD ⊢
  have hA : ∀ q : Nat, s.heap.size ≤ q → A q := fun q h => by rw [← hAe]; exact Or.inr h
  have hS : va_S A s.heap s.heap [] := va_S.rf
  have k19 := hts (.fieldLink RX7 19 "SongsAgainModel" "row" "[I") (List.mem_of_getElem? (i := 3) rfl)
  have k22 := hts (.fieldLink RX7 22 "SongsAgainModel" "bestRow" "[I") (List.mem_of_getElem? (i := 4) rfl)
  have k73 := hts (.fieldLink RX7 73 "SongsAgainModel" "songs" "I") (List.mem_of_getElem? (i := 2) rfl)
  have k165 := hts (.fieldLink RX7 165 "SongsAgainModel" "rowMany" "I") (List.mem_of_getElem? (i := 1) rfl)
  have iX7 : ∀ w ∈ u_ws RX7 TX7 30, w ∈ wsX7_partyOf := vz_in (i := 17) (n := 30) rfl
  have hl := lv_entry ([.ref (g 0), .int p0, .int p1]) (n := 6) (Nat.le_of_ble_eq_true rfl)
  rw [lg_entry_eq]
  generalize (lg_sl ([.ref (g 0), .int p0, .int p1]) ++ List.replicate (6 - (lg_sl ([.ref (g 0), .int p0, .int p1])).length) Slot.unset).toArray = ls at hl ⊢
  have hl : lv_has ls 6 [(0, .ref (g 0)), (1, .int p0), (2, .int p1)] := hl
  have hP : va_P D vwCl (zM cI g pm rm rr st sg rn bg la ws pr ry hm xu xl sn kp kr kb kl kw kh hc pg rd rw ro be he kro khe) s.heap := hP
  refine lv_aload_n hx hb dX7_partyOf_0 rfl (lv_at hl 0 rfl) ?_
  refine lv_iload_n hx hb dX7_partyOf_1 rfl (lv_at hl 1 rfl) ?_
  refine vp_callSi (W.runS (As := [.int p0]) (rest := [.ref (g 0)]) ⟨hx, hb, hml, hown, hts⟩ (c_X7_ones l p0) (va_cwS 1 hts gX7_partyOf_X7_ones rfl rfl rfl (by decide +kernel) ⟨Nat.le_of_ble_eq_true rfl, Nat.le_of_ble_eq_true rfl⟩) (vz_psS) rfl rfl hl.1 rfl (lv_room (Nat.le_of_ble_eq_true rfl)) dX7_partyOf_2 ⟨Nat.zero_le _, Nat.zero_le _⟩) (fun r_2 hr_2 => ?_)
  subst hr_2
  refine W.eq (congrArg (fun z => F0 m 5 ls (.int z :: [.ref (g 0)])) (hKe)) ?_
  refine va_put (D := D) (ci := 7) (v := .int (nI K)) (ty := .int) (C := RX7) (T := TX7) (N := 30) hx hb hts iX7 tyX7 tyX7_ok nmX7 hown hK hP hD hS 0 rfl rfl 15 (by decide) k165 (fun _ h9 => h9) rfl (by decide +kernel) rfl rfl (Nat.le_of_ble_eq_true rfl) dX7_partyOf_5 (fun H_5 locs_5 hP9 hD9 hS9 => ?_)
  replace hP : va_P D vwCl (zM cI g pm rm rr st sg rn bg la ws pr K hm xu xl sn kp kr kb kl kw kh hc pg rd rw ro be he kro khe) H_5 := hP9
  replace hD : va_D A (zM cI g pm rm rr st sg rn bg la ws pr K hm xu xl sn kp kr kb kl kw kh hc pg rd rw ro be he kro khe) := hD9
  replace hS := hS9
  clear hP9 hD9 hS9
  refine lv_iconst (v := 1) hx hb dX7_partyOf_8 (by decide) ?_
  refine lv_istore_n (lv' := [(3, .int 1), (0, .ref (g 0)), (1, .int p0), (2, .int p1)]) hx hb dX7_partyOf_9 rfl hl (by decide) rfl (fun ls hl => ?_)
  refine lv_iconst (v := 0) hx hb dX7_partyOf_10 (by decide) ?_
  refine lv_istore (lv' := [(4, .int 0), (3, .int 1), (0, .ref (g 0)), (1, .int p0), (2, .int p1)]) hx hb dX7_partyOf_11 hl (by decide) rfl (fun ls hl => ?_)
  have L_13 : ∀ (d_13 : Nat) (j : Nat) (H_13 : Heap) (locs_13 : List Loc), K - j < d_13 → (j ≤ K) → va_P D vwCl (zM cI g pm rm rr st sg rn bg la ws pr K hm xu xl sn kp kr kb kl kw kh hc pg rd rw ro be he kro khe) H_13 → va_D A (zM cI g pm rm rr st sg rn bg la ws pr K hm xu xl sn kp kr kb kl kw kh hc pg rd rw ro be he kro khe) → va_S A s.heap H_13 locs_13 → ∀ (ls : Array Slot), lv_has ls 6 [(4, .int (nI j)), (3, .int (nI (sg ^ j))), (0, .ref (g 0)), (1, .int p0), (2, .int p1)] → W p l e ({ frames := 1, cells := 0, slots := 0, locals := 26 } : Room) s m ([.ref (g 0), .int p0, .int p1] : List Value).toArray below meth c H_13 locs_13 0 0 (MQ below (va_Qi (fun r (_ : (Nat → Int32) × (Nat → Int32) × Nat) => r = py sg rw K p0 p1) (fun (u : (Nat → Int32) × (Nat → Int32) × Nat) (t : State) => va_P D vwCl (zM cI g pm rm rr st sg rn bg la ws pr u.2.2 hm xu xl sn kp kr kb kl kw kh hc pg rd rw u.1 u.2.1 he kro khe) t.heap) A) ([.ref (g 0), .int p0, .int p1] : List Value).toArray s 0 0 A) (F0 m 13 ls []) := by
    intro d_13
    induction d_13 with
    | zero => intro j H_13 locs_13 hd; exact absurd hd (Nat.not_lt_zero _)
    | succ d_13 ih_13 =>
      intro j H_13 locs_13 hd_13 hj hP hD hS ls hl
      refine lv_iload hx hb dX7_partyOf_13 (lv_at hl 0 rfl) ?_
      refine lv_aload_n hx hb dX7_partyOf_15 rfl (lv_at hl 2 rfl) ?_
      refine va_get (D := D) (ci := 7) (v := .int (nI K)) (C := RX7) (T := TX7) (N := 30) hx hb hts iX7 hown hK hP 0 rfl rfl 15 (by decide) k165 (fun _ h9 => h9) rfl dX7_partyOf_16 ?_
      refine lv_icmp_ge (tgt := 35) hx hb dX7_partyOf_19 (by decide) (fun c_19 => ?_) (fun c_19 => ?_)
      · skip
        have hje : j = K := Nat.le_antisymm hj (vz_ge c_19 (by omega) (by omega))
        have hbig : sg ^ j < 2 ^ 31 := pw_b hsg (by omega)
        refine lv_iconst (v := 0) hx hb dX7_partyOf_35 (by decide) ?_
        refine lv_istore (lv' := [(4, .int 0), (3, .int (nI (sg ^ j))), (0, .ref (g 0)), (1, .int p0), (2, .int p1)]) hx hb dX7_partyOf_36 hl (by decide) rfl (fun ls hl => ?_)
        refine lv_iconst (v := 0) hx hb dX7_partyOf_38 (by decide) ?_
        refine lv_istore (lv' := [(5, .int 0), (4, .int 0), (3, .int (nI (sg ^ j))), (0, .ref (g 0)), (1, .int p0), (2, .int p1)]) hx hb dX7_partyOf_39 hl (by decide) rfl (fun ls hl => ?_)
        have L_41 : ∀ (d_41 : Nat) (C : Nat) (nn : Nat) (yb : Nat → Int32) (yr : Nat → Int32) (H_41 : Heap) (locs_41 : List Loc), sg ^ j - C < d_41 → (C ≤ sg ^ j) → (pa sg rw K p0 be ro C = (nn, yb, yr)) → va_P D vwCl (zM cI g pm rm rr st sg rn bg la ws pr K hm xu xl sn kp kr kb kl kw kh hc pg rd rw yr yb he kro khe) H_41 → va_D A (zM cI g pm rm rr st sg rn bg la ws pr K hm xu xl sn kp kr kb kl kw kh hc pg rd rw yr yb he kro khe) → va_S A s.heap H_41 locs_41 → ∀ (ls : Array Slot), lv_has ls 6 [(5, .int (nI C)), (4, .int (nI nn)), (3, .int (nI (sg ^ j))), (0, .ref (g 0)), (1, .int p0), (2, .int p1)] → W p l e ({ frames := 1, cells := 0, slots := 0, locals := 26 } : Room) s m ([.ref (g 0), .int p0, .int p1] : List Value).toArray below meth c H_41 locs_41 0 0 (MQ below (va_Qi (fun r (_ : (Nat → Int32) × (Nat → Int32) × Nat) => r = py sg rw K p0 p1) (fun (u : (Nat → Int32) × (Nat → Int32) × Nat) (t : State) => va_P D vwCl (zM cI g pm rm rr st sg rn bg la ws pr u.2.2 hm xu xl sn kp kr kb kl kw kh hc pg rd rw u.1 u.2.1 he kro khe) t.heap) A) ([.ref (g 0), .int p0, .int p1] : List Value).toArray s 0 0 A) (F0 m 41 ls []) := by
          intro d_41
          induction d_41 with
          | zero => intro C nn yb yr H_41 locs_41 hd; exact absurd hd (Nat.not_lt_zero _)
          | succ d_41 ih_41 =>
            intro C nn yb yr H_41 locs_41 hd_41 hC hpa hP hD hS ls hl
            refine lv_iload hx hb dX7_partyOf_41 (lv_at hl 0 rfl) ?_
            refine lv_iload_n hx hb dX7_partyOf_43 rfl (lv_at hl 2 rfl) ?_
            refine lv_icmp_ge (tgt := 83) hx hb dX7_partyOf_44 (by decide) (fun c_44 => ?_) (fun c_44 => ?_)
            · skip
              have hCe : C = sg ^ j := Nat.le_antisymm hC (vz_ge c_44 (by omega) (by omega))
              refine lv_iload_n hx hb dX7_partyOf_83 rfl (lv_at hl 5 rfl) ?_
              refine lv_if_ne (tgt := 90) hx hb dX7_partyOf_84 (by decide) (fun c_84 => ?_) (fun c_84 => ?_)
              · skip
                obtain ⟨hw2, hw3⟩ := pw_x hw1 c_84
                refine lv_iload hx hb dX7_partyOf_90 (lv_at hl 1 rfl) ?_
                refine lv_if_eq (tgt := 106) hx hb dX7_partyOf_92 (by decide) (fun c_92 => ?_) (fun c_92 => ?_)
                · skip
                  refine lv_iconst (v := (-1)) hx hb dX7_partyOf_106 (by decide) ?_
                  refine lv_goto (tgt := 119) hx hb dX7_partyOf_107 (by decide) ?_
                  exact W.iret hx hb hr (fun t ht hW => ⟨⟨_, (yr, yb, K), rfl, (by first | exact py_1 c_84 c_92 hpa hCe hje | exact py_2 c_84 c_92 c_103 | exact py_3 c_84 c_92 c_103 hpa hCe hje hw2 hw3 hK6 hs0), (by show va_P D vwCl (zM cI g pm rm rr st sg rn bg la ws pr K hm xu xl sn kp kr kb kl kw kh hc pg rd rw yr yb he kro khe) t.heap; rw [ht]; exact hP)⟩, hS.F ht⟩) hS.2.2 dX7_partyOf_119
                · skip
                  refine lv_iload_n hx hb dX7_partyOf_95 rfl (lv_at hl 5 rfl) ?_
                  refine lv_bipush (v := 10) hx hb dX7_partyOf_96 (by decide) ?_
                  refine lv_isub hx hb dX7_partyOf_98 ?_
                  refine lv_aload_n hx hb dX7_partyOf_99 rfl (lv_at hl 3 rfl) ?_
                  refine va_get (D := D) (ci := 7) (v := .int (nI K)) (C := RX7) (T := TX7) (N := 30) hx hb hts iX7 hown hK hP 0 rfl rfl 15 (by decide) k165 (fun _ h9 => h9) rfl dX7_partyOf_100 ?_
                  refine lv_icmp_lt (tgt := 110) hx hb dX7_partyOf_103 (by decide) (fun c_103 => ?_) (fun c_103 => ?_)
                  · skip
                    refine lv_aload_n hx hb dX7_partyOf_110 rfl (lv_at hl 3 rfl) ?_
                    refine va_get (D := D) (ci := 7) (v := .ref (g 5)) (C := RX7) (T := TX7) (N := 30) hx hb hts iX7 hown hK hP 0 rfl rfl 14 (by decide) k22 (fun _ h9 => h9) rfl dX7_partyOf_111 ?_
                    refine lv_iload_n hx hb dX7_partyOf_114 rfl (lv_at hl 5 rfl) ?_
                    refine lv_bipush (v := 10) hx hb dX7_partyOf_115 (by decide) ?_
                    refine lv_isub hx hb dX7_partyOf_117 ?_
                    refine W.eq (congrArg (fun z => F0 m 118 ls (.int z :: [.ref (g 5)])) (hw3)) ?_
                    refine va_iald hx hb hK hP 5 0 rfl rfl (i := nI ((p1 - 10).toNatClampNeg)) (vp_in_nI (by first | assumption | omega) (by first | assumption | omega)) dX7_partyOf_118 ?_
                    refine W.eq (congrArg (fun z => F0 m 119 ls (.int z :: [])) (vz_ix yb (by first | assumption | omega))) ?_
                    exact W.iret hx hb hr (fun t ht hW => ⟨⟨_, (yr, yb, K), rfl, (by first | exact py_1 c_84 c_92 hpa hCe hje | exact py_2 c_84 c_92 c_103 | exact py_3 c_84 c_92 c_103 hpa hCe hje hw2 hw3 hK6 hs0), (by show va_P D vwCl (zM cI g pm rm rr st sg rn bg la ws pr K hm xu xl sn kp kr kb kl kw kh hc pg rd rw yr yb he kro khe) t.heap; rw [ht]; exact hP)⟩, hS.F ht⟩) hS.2.2 dX7_partyOf_119
                  · skip
                    refine lv_iconst (v := (-1)) hx hb dX7_partyOf_106 (by decide) ?_
                    refine lv_goto (tgt := 119) hx hb dX7_partyOf_107 (by decide) ?_
                    exact W.iret hx hb hr (fun t ht hW => ⟨⟨_, (yr, yb, K), rfl, (by first | exact py_1 c_84 c_92 hpa hCe hje | exact py_2 c_84 c_92 c_103 | exact py_3 c_84 c_92 c_103 hpa hCe hje hw2 hw3 hK6 hs0), (by show va_P D vwCl (zM cI g pm rm rr st sg rn bg la ws pr K hm xu xl sn kp kr kb kl kw kh hc pg rd rw yr yb he kro khe) t.heap; rw [ht]; exact hP)⟩, hS.F ht⟩) hS.2.2 dX7_partyOf_119
              · skip
                refine lv_iload hx hb dX7_partyOf_87 (lv_at hl 1 rfl) ?_
                exact W.iret hx hb hr (fun t ht hW => ⟨⟨_, (yr, yb, K), rfl, (by exact py_0 c_84 hpa hCe hje), (by show va_P D vwCl (zM cI g pm rm rr st sg rn bg la ws pr K hm xu xl sn kp kr kb kl kw kh hc pg rd rw yr yb he kro khe) t.heap; rw [ht]; exact hP)⟩, hS.F ht⟩) hS.2.2 dX7_partyOf_89
            · skip
              have hlt : C < sg ^ j := vz_lt c_44 (by omega)
              refine lv_aload_n hx hb dX7_partyOf_47 rfl (lv_at hl 3 rfl) ?_
              refine lv_iload_n hx hb dX7_partyOf_48 rfl (lv_at hl 4 rfl) ?_
              refine lv_iload hx hb dX7_partyOf_49 (lv_at hl 0 rfl) ?_
              have hPc := hP
              have hDc := hD
              have hFc : ∀ q, va_A (zM cI g pm rm rr st sg rn bg la ws pr K hm xu xl sn kp kr kb kl kw kh hc pg rd rw yr yb he kro khe) H_41.size q → A q := vz_freeAll hD hS hA
              refine va_calli (va_runV (As := [.int p0, .int (nI C)]) (rest := []) ⟨hx, hb, hml, hown, hts⟩ (c_X7_layRow l D cI g pm rm rr st sg rn bg la ws pr K hm xu xl sn kp kr kb kl kw kh hc pg rd rw yr yb he kro khe H_41.size p0 C (by first | assumption | omega) (by first | assumption | omega) (by first | assumption | omega) (by omega)) (cwV 2 hts gX7_partyOf_X7_layRow rfl rfl rfl (by decide +kernel) ⟨Nat.le_of_ble_eq_true rfl, Nat.le_of_ble_eq_true rfl⟩) (vz_pvW (va_recv hK hP (ci := 7) (q0 := 0) rfl rfl) hZ hPc hDc) rfl rfl hl.1 rfl (lv_room (Nat.le_of_ble_eq_true rfl)) dX7_partyOf_51 ⟨Nat.zero_le _, Nat.zero_le _⟩) hS (fun q _ h => hFc q h) hFc (fun r_51 u_51 t H_51 locs_51 ht hvm hw hB hz1 hk1 hS9 => ?_)
              rw [ht] at hB
              replace hP : va_P D vwCl (zM cI g pm rm rr st sg rn bg la ws pr K hm xu xl sn kp kr kb kl kw kh hc pg rd rw ((ly sg K yr C 0).1) yb he kro khe) H_51 := hB
              replace hD : va_D A (zM cI g pm rm rr st sg rn bg la ws pr K hm xu xl sn kp kr kb kl kw kh hc pg rd rw ((ly sg K yr C 0).1) yb he kro khe) := vz_same hD rfl
              replace hS := hS9
              clear hS9 hPc hDc hFc hB hk1 hz1
              subst hw
              refine lv_if_eq (tgt := 77) hx hb dX7_partyOf_54 (by decide) (fun c_54 => ?_) (fun c_54 => ?_)
              · skip
                replace c_54 := vz_b0 c_54
                refine lv_iinc (v := nI (C + 1)) (lv' := [(5, .int (nI (C + 1))), (4, .int (nI nn)), (3, .int (nI (sg ^ j))), (0, .ref (g 0)), (1, .int p0), (2, .int p1)]) hx hb dX7_partyOf_77 hl (k := 0) rfl (vz_inc _) (by decide) rfl (fun ls hl => ?_)
                refine lv_goto (tgt := 41) hx hb dX7_partyOf_80 (by decide) ?_
                have ew_ro : ((ly sg K yr C 0).1) = (ly sg K yr C 0).1 := by rfl
                replace hP : va_P D vwCl (zM cI g pm rm rr st sg rn bg la ws pr K hm xu xl sn kp kr kb kl kw kh hc pg rd rw ((ly sg K yr C 0).1) yb he kro khe) H_51 := by rw [ew_ro]; exact hP
                replace hD : va_D A (zM cI g pm rm rr st sg rn bg la ws pr K hm xu xl sn kp kr kb kl kw kh hc pg rd rw ((ly sg K yr C 0).1) yb he kro khe) := vz_same hD rfl
                exact ih_41 (C + 1) nn yb ((ly sg K yr C 0).1) _ _ (by omega) (by omega) (by simp only [pa, hpa, c_19, c_44, c_54, ↓reduceIte, Bool.false_eq_true]) hP hD hS ls (lv_sub hl [0, 1, 2, 3, 4, 5] rfl)
              · skip
                replace c_54 := vz_b1 c_54
                refine lv_iinc (v := nI (nn + 1)) (lv' := [(4, .int (nI (nn + 1))), (5, .int (nI C)), (3, .int (nI (sg ^ j))), (0, .ref (g 0)), (1, .int p0), (2, .int p1)]) hx hb dX7_partyOf_57 hl (k := 1) rfl (vz_inc _) (by decide) rfl (fun ls hl => ?_)
                refine lv_iload hx hb dX7_partyOf_60 (lv_at hl 0 rfl) ?_
                refine lv_iconst (v := 1) hx hb dX7_partyOf_62 (by decide) ?_
                refine lv_icmp_ne (tgt := 77) hx hb dX7_partyOf_63 (by decide) (fun c_63 => ?_) (fun c_63 => ?_)
                · skip
                  refine lv_iinc (v := nI (C + 1)) (lv' := [(5, .int (nI (C + 1))), (4, .int (nI (nn + 1))), (3, .int (nI (sg ^ j))), (0, .ref (g 0)), (1, .int p0), (2, .int p1)]) hx hb dX7_partyOf_77 hl (k := 1) rfl (vz_inc _) (by decide) rfl (fun ls hl => ?_)
                  refine lv_goto (tgt := 41) hx hb dX7_partyOf_80 (by decide) ?_
                  have ew_ro : ((ly sg K yr C 0).1) = (ly sg K yr C 0).1 := by rfl
                  replace hP : va_P D vwCl (zM cI g pm rm rr st sg rn bg la ws pr K hm xu xl sn kp kr kb kl kw kh hc pg rd rw ((ly sg K yr C 0).1) yb he kro khe) H_51 := by rw [ew_ro]; exact hP
                  replace hD : va_D A (zM cI g pm rm rr st sg rn bg la ws pr K hm xu xl sn kp kr kb kl kw kh hc pg rd rw ((ly sg K yr C 0).1) yb he kro khe) := vz_same hD rfl
                  exact ih_41 (C + 1) (nn + 1) yb ((ly sg K yr C 0).1) _ _ (by omega) (by omega) (by simp only [pa, hpa, c_19, c_44, c_54, c_63, ↓reduceIte, Bool.false_eq_true]) hP hD hS ls (lv_sub hl [0, 1, 2, 3, 4, 5] rfl)
                · skip
                  refine lv_aload_n hx hb dX7_partyOf_66 rfl (lv_at hl 3 rfl) ?_
                  refine va_get (D := D) (ci := 7) (v := .ref (g 4)) (C := RX7) (T := TX7) (N := 30) hx hb hts iX7 hown hK hP 0 rfl rfl 13 (by decide) k19 (fun _ h9 => h9) rfl dX7_partyOf_67 ?_
                  refine lv_aload_n hx hb dX7_partyOf_70 rfl (lv_at hl 3 rfl) ?_
                  refine va_get (D := D) (ci := 7) (v := .ref (g 5)) (C := RX7) (T := TX7) (N := 30) hx hb hts iX7 hown hK hP 0 rfl rfl 14 (by decide) k22 (fun _ h9 => h9) rfl dX7_partyOf_71 ?_
                  have hPc := (hP.sub (ws' := (zArrArr cI (g 4) (g 5) 6 ((ly sg K yr C 0).1) yb)) [4, 5] rfl)
                  have hDc := hD.sub (ws' := (zArrArr cI (g 4) (g 5) 6 ((ly sg K yr C 0).1) yb)) [4, 5] rfl rfl
                  have hFc := va_free (wc := (zArrArr cI (g 4) (g 5) 6 ((ly sg K yr C 0).1) yb)) hD hS hA [4, 5] rfl
                  refine va_callv (va_runS (As := [.ref (g 4), .ref (g 5)]) (rest := []) ⟨hx, hb, hml, hown, hts⟩ (c_X7_copy l D cI (g 4) (g 5) 6 ((ly sg K yr C 0).1) yb H_51.size (by decide)) (va_cwS 2 hts gX7_partyOf_X7_copy rfl rfl rfl (by decide +kernel) ⟨Nat.le_of_ble_eq_true rfl, Nat.le_of_ble_eq_true rfl⟩) (vz_psW hZ hPc hDc) rfl rfl hl.1 rfl (lv_room (Nat.le_of_ble_eq_true rfl)) dX7_partyOf_74 ⟨Nat.zero_le _, Nat.zero_le _⟩) hS (fun q _ h => hFc q h) hFc (fun u_74 t H_74 locs_74 ht hvm hw hB hz1 hk1 hS9 => ?_)
                  rw [ht] at hB
                  replace hP : va_P D vwCl (zM cI g pm rm rr st sg rn bg la ws pr K hm xu xl sn kp kr kb kl kw kh hc pg rd rw ((ly sg K yr C 0).1) (rw_cp ((ly sg K yr C 0).1) yb 6) he kro khe) H_74 := vz_join (w1 := (zArrArr cI (g 4) (g 5) 6 ((ly sg K yr C 0).1) (rw_cp ((ly sg K yr C 0).1) yb 6))) hP hD [4, 5] rfl rfl hk1 hB
                  replace hD : va_D A (zM cI g pm rm rr st sg rn bg la ws pr K hm xu xl sn kp kr kb kl kw kh hc pg rd rw ((ly sg K yr C 0).1) (rw_cp ((ly sg K yr C 0).1) yb 6) he kro khe) := vz_same hD rfl
                  replace hS := hS9
                  clear hS9 hPc hDc hFc hB hk1 hz1
                  refine lv_iinc (v := nI (C + 1)) (lv' := [(5, .int (nI (C + 1))), (4, .int (nI (nn + 1))), (3, .int (nI (sg ^ j))), (0, .ref (g 0)), (1, .int p0), (2, .int p1)]) hx hb dX7_partyOf_77 hl (k := 1) rfl (vz_inc _) (by decide) rfl (fun ls hl => ?_)
                  refine lv_goto (tgt := 41) hx hb dX7_partyOf_80 (by decide) ?_
                  have ew_ro : ((ly sg K yr C 0).1) = (ly sg K yr C 0).1 := by rfl
                  have ew_be : (rw_cp ((ly sg K yr C 0).1) yb 6) = rw_cp ((ly sg K yr C 0).1) yb 6 := by rfl
                  replace hP : va_P D vwCl (zM cI g pm rm rr st sg rn bg la ws pr K hm xu xl sn kp kr kb kl kw kh hc pg rd rw ((ly sg K yr C 0).1) (rw_cp ((ly sg K yr C 0).1) yb 6) he kro khe) H_74 := by rw [ew_ro, ew_be]; exact hP
                  replace hD : va_D A (zM cI g pm rm rr st sg rn bg la ws pr K hm xu xl sn kp kr kb kl kw kh hc pg rd rw ((ly sg K yr C 0).1) (rw_cp ((ly sg K yr C 0).1) yb 6) he kro khe) := vz_same hD rfl
                  exact ih_41 (C + 1) (nn + 1) (rw_cp ((ly sg K yr C 0).1) yb 6) ((ly sg K yr C 0).1) _ _ (by omega) (by omega) (by simp only [pa, hpa, c_19, c_44, c_54, c_63, ↓reduceIte, Bool.false_eq_true]) hP hD hS ls (lv_sub hl [0, 1, 2, 3, 4, 5] rfl)
        exact L_41 _ 0 0 be ro _ _ (Nat.lt_succ_self _) (Nat.zero_le _) rfl hP hD hS ls (lv_sub hl [0, 1, 2, 3, 4, 5] rfl)
      · skip
        have hlt : j < K := vz_lt c_19 (by omega)
        refine lv_iload_n hx hb dX7_partyOf_22 rfl (lv_at hl 1 rfl) ?_
        refine lv_aload_n hx hb dX7_partyOf_23 rfl (lv_at hl 2 rfl) ?_
        refine va_get (D := D) (ci := 7) (v := .int (nI sg)) (C := RX7) (T := TX7) (N := 30) hx hb hts iX7 hown hK hP 0 rfl rfl 6 (by decide) k73 (fun _ h9 => h9) rfl dX7_partyOf_24 ?_
        refine lv_imul hx hb dX7_partyOf_27 ?_
        refine W.eq (congrArg (fun z => F0 m 28 ls (.int z :: [])) (pk_mul (sg ^ j) sg : (nI (sg ^ j)) * (nI sg) = nI ((sg ^ j) * sg))) ?_
        refine lv_istore_n (lv' := [(3, .int (nI ((sg ^ j) * sg))), (4, .int (nI j)), (0, .ref (g 0)), (1, .int p0), (2, .int p1)]) hx hb dX7_partyOf_28 rfl hl (by decide) rfl (fun ls hl => ?_)
        refine lv_iinc (v := nI (j + 1)) (lv' := [(4, .int (nI (j + 1))), (3, .int (nI ((sg ^ j) * sg))), (0, .ref (g 0)), (1, .int p0), (2, .int p1)]) hx hb dX7_partyOf_29 hl (k := 1) rfl (vz_inc _) (by decide) rfl (fun ls hl => ?_)
        refine lv_goto (tgt := 13) hx hb dX7_partyOf_32 (by decide) ?_
        exact ih_13 (j + 1) _ _ (by omega) (by omega) hP hD hS ls (lv_sub hl [0, 1, 2, 3, 4] rfl)
  exact L_13 _ 0 _ _ (Nat.lt_succ_self _) (Nat.zero_le _) hP hD hS ls (lv_sub hl [0, 1, 2, 3, 4] rfl)
set_option maxHeartbeats 4000000 in
set_option maxRecDepth 100000 in
theorem c_X7_party (l : Launch) (D : va_G) (cI : ClassId) (g : Nat → Nat) (pm : Nat) (rm : Nat) (rr : Int32) (st : Nat) (sg : Nat) (rn : Int32) (bg : Int32) (la : Int32) (ws : Bool) (pr : Nat) (ry : Nat) (hm : Nat) (xu : Int64) (xl : Int64) (sn : Int32) (kp : Int32) (kr : Int32) (kb : Int32) (kl : Int32) (kw : Bool) (kh : Nat) (hc : Int64) (pg : Nat → Int32) (rd : Nat → Int32) (rw : Nat → Int32) (ro : Nat → Int32) (be : Nat → Int32) (he : Nat → Int32) (kro : Nat → Int32) (khe : Nat → Int32) (sz : Nat) (p0 : Int32) (p1 : Int32) (hsg : sg ≤ 6) : Met l yX7_party wsX7_party ({ frames := 2, cells := 0, slots := 0, locals := 51 } : Room) (vz_rw D cI (zM cI g pm rm rr st sg rn bg la ws pr ry hm xu xl sn kp kr kb kl kw kh hc pg rd rw ro be he kro khe) sz [.ref (g 0), .int p0, .int p1]) (va_Qi (fun r (_ : (Nat → Int32) × (Nat → Int32) × Nat) => r = mp_r sg rw p0 p1) (fun (u : (Nat → Int32) × (Nat → Int32) × Nat) (t : State) => va_P D vwCl (zM cI g pm rm rr st sg rn bg la ws pr u.2.2 hm xu xl sn kp kr kb kl kw kh hc pg rd rw u.1 u.2.1 he kro khe) t.heap) (va_A (zM cI g pm rm rr st sg rn bg la ws pr ry hm xu xl sn kp kr kb kl kw kh hc pg rd rw ro be he kro khe) sz)) 0 0 (va_A (zM cI g pm rm rr st sg rn bg la ws pr ry hm xu xl sn kp kr kb kl kw kh hc pg rd rw ro be he kro khe) sz) := by
  refine Met.ofW (cc := cX7_party) (maxL := 3) (ret := (some .int)) (by decide) rfl ?_
  intro p e s m args below meth c s₁ B hml hv
  obtain ⟨rfl, hsz, hP, hZ, hD0⟩ := hv
  obtain ⟨hK, hN⟩ := id hZ
  have hx := B.exec
  have hb := B.bytes
  have hr := B.returns
  have hts := atoms_spec (ws := wsX7_party) B.pre
  have hown : s.vm.findClass RX7 = some m.cls := findClass_of_methodNamed B.named
  have hlocks := B.notSynchronized
  subst hsz
  have hD := hD0.self (sz := s.heap.size)
  generalize hAe : va_A (zM cI g pm rm rr st sg rn bg la ws pr ry hm xu xl sn kp kr kb kl kw kh hc pg rd rw ro be he kro khe) s.heap.size = A at hD ⊢
  have hA : ∀ q : Nat, s.heap.size ≤ q → A q := fun q h => by rw [← hAe]; exact Or.inr h
  have hS : va_S A s.heap s.heap [] := va_S.rf
  have hl := lv_entry ([.ref (g 0), .int p0, .int p1]) (n := 3) (Nat.le_of_ble_eq_true rfl)
  rw [lg_entry_eq]
  generalize (lg_sl ([.ref (g 0), .int p0, .int p1]) ++ List.replicate (3 - (lg_sl ([.ref (g 0), .int p0, .int p1])).length) Slot.unset).toArray = ls at hl ⊢
  have hl : lv_has ls 3 [(0, .ref (g 0)), (1, .int p0), (2, .int p1)] := hl
  have hP : va_P D vwCl (zM cI g pm rm rr st sg rn bg la ws pr ry hm xu xl sn kp kr kb kl kw kh hc pg rd rw ro be he kro khe) s.heap := hP
  refine lv_iload_n hx hb dX7_party_0 rfl (lv_at hl 1 rfl) ?_
  refine lv_i2l (v := (p0 : Int32).toInt64) hx hb dX7_party_1 rfl ?_
  refine lv_lconst (v := 0) hx hb dX7_party_2 (by decide) ?_
  refine lv_aload_n hx hb dX7_party_3 rfl (lv_at hl 0 rfl) ?_
  refine vp_callSi (W.runV (As := []) (rest := [.long 0, .long ((p0 : Int32).toInt64)]) ⟨hx, hb, hml, hown, hts⟩ (c_X7_all l D cI g pm rm rr st sg rn bg la ws pr ry hm xu xl sn kp kr kb kl kw kh hc pg rd rw ro be he kro khe) (cwV 0 hts gX7_party_X7_all rfl rfl rfl (by decide +kernel) ⟨Nat.le_of_ble_eq_true rfl, Nat.le_of_ble_eq_true rfl⟩) (vz_pvR (va_recv hK hP (ci := 7) (q0 := 0) rfl rfl) hZ hP) rfl rfl hl.1 rfl (lv_room (Nat.le_of_ble_eq_true rfl)) dX7_party_4 ⟨Nat.zero_le _, Nat.zero_le _⟩) (fun r_4 hr_4 => ?_)
  subst hr_4
  refine lv_i2l (v := (bk_all sg : Int32).toInt64) hx hb dX7_party_7 rfl ?_
  refine vp_callSi (W.runS (As := [.long ((p0 : Int32).toInt64), .long 0, .long ((bk_all sg : Int32).toInt64)]) (rest := []) ⟨hx, hb, hml, hown, hts⟩ (c_X7_in l ((p0 : Int32).toInt64) 0 ((bk_all sg : Int32).toInt64)) (va_cwS 3 hts gX7_party_X7_in rfl rfl rfl (by decide +kernel) ⟨Nat.le_of_ble_eq_true rfl, Nat.le_of_ble_eq_true rfl⟩) (vz_psS) rfl rfl hl.1 rfl (lv_room (Nat.le_of_ble_eq_true rfl)) dX7_party_8 ⟨Nat.zero_le _, Nat.zero_le _⟩) (fun r_8 hr_8 => ?_)
  subst hr_8
  refine lv_if_eq (tgt := 32) hx hb dX7_party_11 (by decide) (fun c_11 => ?_) (fun c_11 => ?_)
  · skip
    replace c_11 := vz_b0 c_11
    refine lv_bipush (v := (-102)) hx hb dX7_party_32 (by decide) ?_
    exact W.iret hx hb hr (fun t ht hW => ⟨⟨_, (ro, be, ry), rfl, (by first | rfl | (simp only [mp_r]; done) | (simp only [mp_r]; rfl) | (simp only [mp_r, c_11, ↓reduceIte, Bool.false_eq_true, if_true, if_false, reduceCtorEq, not_true_eq_false, not_false_eq_true, eq_self]; done) | (simp only [mp_r, c_11, ↓reduceIte, Bool.false_eq_true, if_true, if_false, reduceCtorEq, not_true_eq_false, not_false_eq_true, eq_self]; rfl) | (simp [mp_r, c_11]; done)), (by show va_P D vwCl (zM cI g pm rm rr st sg rn bg la ws pr ry hm xu xl sn kp kr kb kl kw kh hc pg rd rw ro be he kro khe) t.heap; rw [ht]; exact hP)⟩, hS.F ht⟩) hS.2.2 dX7_party_34
  · skip
    replace c_11 := vz_b1 c_11
    obtain ⟨hK6, hKe⟩ := ones_ok c_11 hsg
    refine lv_iload_n hx hb dX7_party_14 rfl (lv_at hl 2 rfl) ?_
    refine lv_if_eq (tgt := 35) hx hb dX7_party_15 (by decide) (fun c_15 => ?_) (fun c_15 => ?_)
    · skip
      refine lv_aload_n hx hb dX7_party_35 rfl (lv_at hl 0 rfl) ?_
      refine vp_callSi (W.runV (As := []) (rest := []) ⟨hx, hb, hml, hown, hts⟩ (c_X7_lacks l D cI g pm rm rr st sg rn bg la ws pr ry hm xu xl sn kp kr kb kl kw kh hc pg rd rw ro be he kro khe (by first | assumption | omega)) (cwV 0 hts gX7_party_X7_lacks rfl rfl rfl (by decide +kernel) ⟨Nat.le_of_ble_eq_true rfl, Nat.le_of_ble_eq_true rfl⟩) (vz_pvR (va_recv hK hP (ci := 7) (q0 := 0) rfl rfl) hZ hP) rfl rfl hl.1 rfl (lv_room (Nat.le_of_ble_eq_true rfl)) dX7_party_36 ⟨Nat.zero_le _, Nat.zero_le _⟩) (fun r_36 hr_36 => ?_)
      subst hr_36
      refine lv_if_eq (tgt := 47) hx hb dX7_party_39 (by decide) (fun c_39 => ?_) (fun c_39 => ?_)
      · skip
        replace c_39 := vz_b0 c_39
        refine lv_aload_n hx hb dX7_party_47 rfl (lv_at hl 0 rfl) ?_
        refine lv_iload_n hx hb dX7_party_48 rfl (lv_at hl 1 rfl) ?_
        refine lv_iload_n hx hb dX7_party_49 rfl (lv_at hl 2 rfl) ?_
        have hPc := hP
        have hDc := hD
        have hFc : ∀ q, va_A (zM cI g pm rm rr st sg rn bg la ws pr ry hm xu xl sn kp kr kb kl kw kh hc pg rd rw ro be he kro khe) s.heap.size q → A q := vz_freeAll hD hS hA
        refine va_calli (va_runV (As := [.int p0, .int p1]) (rest := []) ⟨hx, hb, hml, hown, hts⟩ (c_X7_partyOf l D cI g pm rm rr st sg rn bg la ws pr ry hm xu xl sn kp kr kb kl kw kh hc pg rd rw ro be he kro khe s.heap.size p0 p1 ((mo_ones p0 6).toNatClampNeg) (by first | assumption | omega) (sa_np0 c_39) hKe hK6 (by first | exact Or.inl c_15 | exact pw_in c_29)) (cwV 2 hts gX7_party_X7_partyOf rfl rfl rfl (by decide +kernel) ⟨Nat.le_of_ble_eq_true rfl, Nat.le_of_ble_eq_true rfl⟩) (vz_pvW (va_recv hK hP (ci := 7) (q0 := 0) rfl rfl) hZ hPc hDc) rfl rfl hl.1 rfl (lv_room (Nat.le_of_ble_eq_true rfl)) dX7_party_50 ⟨Nat.zero_le _, Nat.zero_le _⟩) hS (fun q _ h => hFc q h) hFc (fun r_50 u_50 t H_50 locs_50 ht hvm hw hB hz1 hk1 hS9 => ?_)
        rw [ht] at hB
        replace hP : va_P D vwCl (zM cI g pm rm rr st sg rn bg la ws pr u_50.2.2 hm xu xl sn kp kr kb kl kw kh hc pg rd rw u_50.1 u_50.2.1 he kro khe) H_50 := hB
        replace hD : va_D A (zM cI g pm rm rr st sg rn bg la ws pr u_50.2.2 hm xu xl sn kp kr kb kl kw kh hc pg rd rw u_50.1 u_50.2.1 he kro khe) := vz_same hD rfl
        replace hS := hS9
        clear hS9 hPc hDc hFc hB hk1 hz1
        subst hw
        exact W.iret hx hb hr (fun t ht hW => ⟨⟨_, (u_50.1, u_50.2.1, u_50.2.2), rfl, (by first | rfl | (simp only [mp_r, if_pos c_15]; done) | (simp only [mp_r, if_pos c_15]; rfl) | (simp only [mp_r, c_11, c_15, c_39, ↓reduceIte, Bool.false_eq_true, if_true, if_false, reduceCtorEq, not_true_eq_false, not_false_eq_true, eq_self]; done) | (simp only [mp_r, c_11, c_15, c_39, ↓reduceIte, Bool.false_eq_true, if_true, if_false, reduceCtorEq, not_true_eq_false, not_false_eq_true, eq_self]; rfl) | (simp [mp_r, c_11, c_15, c_39]; done) | (simp only [mp_r, if_pos c_15, c_11, c_39, ↓reduceIte, Bool.false_eq_true])), (by show va_P D vwCl (zM cI g pm rm rr st sg rn bg la ws pr u_50.2.2 hm xu xl sn kp kr kb kl kw kh hc pg rd rw u_50.1 u_50.2.1 he kro khe) t.heap; rw [ht]; exact hP)⟩, hS.F ht⟩) hS.2.2 dX7_party_53
      · skip
        replace c_39 := vz_b1 c_39
        refine lv_bipush (v := (-103)) hx hb dX7_party_42 (by decide) ?_
        refine lv_goto (tgt := 53) hx hb dX7_party_44 (by decide) ?_
        exact W.iret hx hb hr (fun t ht hW => ⟨⟨_, (ro, be, ry), rfl, (by first | rfl | (simp only [mp_r, if_pos c_15]; done) | (simp only [mp_r, if_pos c_15]; rfl) | (simp only [mp_r, c_11, c_15, c_39, ↓reduceIte, Bool.false_eq_true, if_true, if_false, reduceCtorEq, not_true_eq_false, not_false_eq_true, eq_self]; done) | (simp only [mp_r, c_11, c_15, c_39, ↓reduceIte, Bool.false_eq_true, if_true, if_false, reduceCtorEq, not_true_eq_false, not_false_eq_true, eq_self]; rfl) | (simp [mp_r, c_11, c_15, c_39]; done) | (simp only [mp_r, if_pos c_15, c_11, c_39, ↓reduceIte, Bool.false_eq_true])), (by show va_P D vwCl (zM cI g pm rm rr st sg rn bg la ws pr ry hm xu xl sn kp kr kb kl kw kh hc pg rd rw ro be he kro khe) t.heap; rw [ht]; exact hP)⟩, hS.F ht⟩) hS.2.2 dX7_party_53
    · skip
      refine lv_iload_n hx hb dX7_party_18 rfl (lv_at hl 2 rfl) ?_
      refine lv_i2l (v := (p1 : Int32).toInt64) hx hb dX7_party_19 rfl ?_
      refine lv_ldc2 (v := 10) hx hb hown (hts (.constantLong RX7 176 (10)) (List.mem_of_getElem? (i := 1) rfl)) dX7_party_20 ?_
      refine lv_ldc2 (v := 15) hx hb hown (hts (.constantLong RX7 178 (15)) (List.mem_of_getElem? (i := 2) rfl)) dX7_party_23 ?_
      refine vp_callSi (W.runS (As := [.long ((p1 : Int32).toInt64), .long 10, .long 15]) (rest := []) ⟨hx, hb, hml, hown, hts⟩ (c_X7_in l ((p1 : Int32).toInt64) 10 15) (va_cwS 3 hts gX7_party_X7_in rfl rfl rfl (by decide +kernel) ⟨Nat.le_of_ble_eq_true rfl, Nat.le_of_ble_eq_true rfl⟩) (vz_psS) rfl rfl hl.1 rfl (lv_room (Nat.le_of_ble_eq_true rfl)) dX7_party_26 ⟨Nat.zero_le _, Nat.zero_le _⟩) (fun r_26 hr_26 => ?_)
      subst hr_26
      refine lv_if_ne (tgt := 35) hx hb dX7_party_29 (by decide) (fun c_29 => ?_) (fun c_29 => ?_)
      · skip
        replace c_29 := vz_b1 c_29
        refine lv_aload_n hx hb dX7_party_35 rfl (lv_at hl 0 rfl) ?_
        refine vp_callSi (W.runV (As := []) (rest := []) ⟨hx, hb, hml, hown, hts⟩ (c_X7_lacks l D cI g pm rm rr st sg rn bg la ws pr ry hm xu xl sn kp kr kb kl kw kh hc pg rd rw ro be he kro khe (by first | assumption | omega)) (cwV 0 hts gX7_party_X7_lacks rfl rfl rfl (by decide +kernel) ⟨Nat.le_of_ble_eq_true rfl, Nat.le_of_ble_eq_true rfl⟩) (vz_pvR (va_recv hK hP (ci := 7) (q0 := 0) rfl rfl) hZ hP) rfl rfl hl.1 rfl (lv_room (Nat.le_of_ble_eq_true rfl)) dX7_party_36 ⟨Nat.zero_le _, Nat.zero_le _⟩) (fun r_36 hr_36 => ?_)
        subst hr_36
        refine lv_if_eq (tgt := 47) hx hb dX7_party_39 (by decide) (fun c_39 => ?_) (fun c_39 => ?_)
        · skip
          replace c_39 := vz_b0 c_39
          refine lv_aload_n hx hb dX7_party_47 rfl (lv_at hl 0 rfl) ?_
          refine lv_iload_n hx hb dX7_party_48 rfl (lv_at hl 1 rfl) ?_
          refine lv_iload_n hx hb dX7_party_49 rfl (lv_at hl 2 rfl) ?_
          have hPc := hP
          have hDc := hD
          have hFc : ∀ q, va_A (zM cI g pm rm rr st sg rn bg la ws pr ry hm xu xl sn kp kr kb kl kw kh hc pg rd rw ro be he kro khe) s.heap.size q → A q := vz_freeAll hD hS hA
          refine va_calli (va_runV (As := [.int p0, .int p1]) (rest := []) ⟨hx, hb, hml, hown, hts⟩ (c_X7_partyOf l D cI g pm rm rr st sg rn bg la ws pr ry hm xu xl sn kp kr kb kl kw kh hc pg rd rw ro be he kro khe s.heap.size p0 p1 ((mo_ones p0 6).toNatClampNeg) (by first | assumption | omega) (sa_np0 c_39) hKe hK6 (by first | exact Or.inl c_15 | exact pw_in c_29)) (cwV 2 hts gX7_party_X7_partyOf rfl rfl rfl (by decide +kernel) ⟨Nat.le_of_ble_eq_true rfl, Nat.le_of_ble_eq_true rfl⟩) (vz_pvW (va_recv hK hP (ci := 7) (q0 := 0) rfl rfl) hZ hPc hDc) rfl rfl hl.1 rfl (lv_room (Nat.le_of_ble_eq_true rfl)) dX7_party_50 ⟨Nat.zero_le _, Nat.zero_le _⟩) hS (fun q _ h => hFc q h) hFc (fun r_50 u_50 t H_50 locs_50 ht hvm hw hB hz1 hk1 hS9 => ?_)
          rw [ht] at hB
          replace hP : va_P D vwCl (zM cI g pm rm rr st sg rn bg la ws pr u_50.2.2 hm xu xl sn kp kr kb kl kw kh hc pg rd rw u_50.1 u_50.2.1 he kro khe) H_50 := hB
          replace hD : va_D A (zM cI g pm rm rr st sg rn bg la ws pr u_50.2.2 hm xu xl sn kp kr kb kl kw kh hc pg rd rw u_50.1 u_50.2.1 he kro khe) := vz_same hD rfl
          replace hS := hS9
          clear hS9 hPc hDc hFc hB hk1 hz1
          subst hw
          exact W.iret hx hb hr (fun t ht hW => ⟨⟨_, (u_50.1, u_50.2.1, u_50.2.2), rfl, (by first | rfl | (simp only [mp_r, if_neg c_15]; done) | (simp only [mp_r, if_neg c_15]; rfl) | (simp only [mp_r, c_11, c_15, c_29, c_39, ↓reduceIte, Bool.false_eq_true, if_true, if_false, reduceCtorEq, not_true_eq_false, not_false_eq_true, eq_self]; done) | (simp only [mp_r, c_11, c_15, c_29, c_39, ↓reduceIte, Bool.false_eq_true, if_true, if_false, reduceCtorEq, not_true_eq_false, not_false_eq_true, eq_self]; rfl) | (simp [mp_r, c_11, c_15, c_29, c_39]; done) | (simp only [mp_r, if_neg c_15, c_11, c_29, c_39, ↓reduceIte, Bool.false_eq_true])), (by show va_P D vwCl (zM cI g pm rm rr st sg rn bg la ws pr u_50.2.2 hm xu xl sn kp kr kb kl kw kh hc pg rd rw u_50.1 u_50.2.1 he kro khe) t.heap; rw [ht]; exact hP)⟩, hS.F ht⟩) hS.2.2 dX7_party_53
        · skip
          replace c_39 := vz_b1 c_39
          refine lv_bipush (v := (-103)) hx hb dX7_party_42 (by decide) ?_
          refine lv_goto (tgt := 53) hx hb dX7_party_44 (by decide) ?_
          exact W.iret hx hb hr (fun t ht hW => ⟨⟨_, (ro, be, ry), rfl, (by first | rfl | (simp only [mp_r, if_neg c_15]; done) | (simp only [mp_r, if_neg c_15]; rfl) | (simp only [mp_r, c_11, c_15, c_29, c_39, ↓reduceIte, Bool.false_eq_true, if_true, if_false, reduceCtorEq, not_true_eq_false, not_false_eq_true, eq_self]; done) | (simp only [mp_r, c_11, c_15, c_29, c_39, ↓reduceIte, Bool.false_eq_true, if_true, if_false, reduceCtorEq, not_true_eq_false, not_false_eq_true, eq_self]; rfl) | (simp [mp_r, c_11, c_15, c_29, c_39]; done) | (simp only [mp_r, if_neg c_15, c_11, c_29, c_39, ↓reduceIte, Bool.false_eq_true])), (by show va_P D vwCl (zM cI g pm rm rr st sg rn bg la ws pr ry hm xu xl sn kp kr kb kl kw kh hc pg rd rw ro be he kro khe) t.heap; rw [ht]; exact hP)⟩, hS.F ht⟩) hS.2.2 dX7_party_53
      · skip
        replace c_29 := vz_b0 c_29
        refine lv_bipush (v := (-102)) hx hb dX7_party_32 (by decide) ?_
        exact W.iret hx hb hr (fun t ht hW => ⟨⟨_, (ro, be, ry), rfl, (by first | rfl | (simp only [mp_r, if_neg c_15]; done) | (simp only [mp_r, if_neg c_15]; rfl) | (simp only [mp_r, c_11, c_15, c_29, ↓reduceIte, Bool.false_eq_true, if_true, if_false, reduceCtorEq, not_true_eq_false, not_false_eq_true, eq_self]; done) | (simp only [mp_r, c_11, c_15, c_29, ↓reduceIte, Bool.false_eq_true, if_true, if_false, reduceCtorEq, not_true_eq_false, not_false_eq_true, eq_self]; rfl) | (simp [mp_r, c_11, c_15, c_29]; done) | (simp only [mp_r, if_neg c_15, c_11, c_29, ↓reduceIte, Bool.false_eq_true])), (by show va_P D vwCl (zM cI g pm rm rr st sg rn bg la ws pr ry hm xu xl sn kp kr kb kl kw kh hc pg rd rw ro be he kro khe) t.heap; rw [ht]; exact hP)⟩, hS.F ht⟩) hS.2.2 dX7_party_34

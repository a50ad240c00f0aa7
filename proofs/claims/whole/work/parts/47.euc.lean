/-! fractions: Euclid, and what the class keeps in lowest terms -/
theorem zeuc0 (e a : Nat) : fr_gcd (e + 1) (lN a) (lN 0) = lN a := if_pos rfl
theorem zl0 {b : Nat} (hb : 0 < b) (h : b < 2 ^ 63) : ¬ lN b = 0 := fun q => by
  have := (pk_lEQ (b := 0) h (by decide)).mp q
  omega
theorem zeuc1 (e : Nat) {a b : Nat} (hb : 0 < b) (hb63 : b < 2 ^ 63) (ha63 : a < 2 ^ 63) : fr_gcd (e + 1) (lN a) (lN b) = fr_gcd e (lN b) (lN (a % b)) := by
  show (if lN b = 0 then lN a else fr_gcd e (lN b) (lN a - lN a / lN b * lN b)) = _
  rw [if_neg (zl0 hb hb63), pk_lRem ha63 hb hb63]
theorem zeuc : ∀ (k d a b : Nat), b < 2 ^ k → 2 * k + 1 ≤ d → a < 2 ^ 63 → b < 2 ^ 63 → fr_gcd d (lN a) (lN b) = lN (Nat.gcd a b)
  | 0, d, a, b, h, hd, ha, hb => by
    have e : b = 0 := by rw [Nat.pow_zero] at h; omega
    subst e
    obtain ⟨e, rfl⟩ : ∃ e, d = e + 1 := ⟨d - 1, by omega⟩
    rw [zeuc0, Nat.gcd_zero_right]
  | k + 1, d, a, b, h, hd, ha, hb => by
    obtain ⟨e, rfl⟩ : ∃ e, d = e + 1 + 1 + 1 := ⟨d - 3, by omega⟩
    rcases Nat.eq_zero_or_pos b with q | q
    · subst q; rw [zeuc0, Nat.gcd_zero_right]
    · have hr := Nat.mod_lt a q
      rw [zeuc1 _ q hb ha, Nat.gcd_comm a b, Nat.gcd_rec b a, Nat.gcd_comm (a % b) b]
      generalize a % b = r at hr ⊢
      rcases Nat.eq_zero_or_pos r with z | z
      · subst z; rw [zeuc0, Nat.gcd_zero_right]
      · rw [zeuc1 _ z (by omega) hb, Nat.gcd_comm b r, Nat.gcd_rec r b, Nat.gcd_comm (b % r) r]
        have h1 := Nat.mod_lt b z
        have h2 := Nat.div_add_mod b r
        have h3 : r ≤ r * (b / r) := Nat.le_mul_of_pos_right r (Nat.div_pos (Nat.le_of_lt hr) z)
        have h4 : 2 ^ (k + 1) = 2 ^ k * 2 := Nat.pow_succ ..
        exact zeuc k (e + 1) r (b % r) (by omega) (by omega) (by omega) (by omega)
theorem zcd {a b : Nat} (ha : a < 2 ^ 63) (hb : b < 2 ^ 63) : fr_cd (lN a) (lN b) = lN (Nat.gcd a b) := zeuc 63 128 a b hb (by decide) ha hb
theorem zfq {g a : Nat} (hg : 0 < g) (hg63 : g < 2 ^ 63) (ha : a < 2 ^ 63) (old : Int64) : fr_q (lN g) (lN a) old = lN (a / g) := by
  unfold fr_q
  have h : ¬ lN g ≤ 0 := fun q => by
    have := (pk_lLE (b := 0) hg63 (by decide)).mp q
    omega
  rw [if_neg h, pk_lDiv ha hg hg63]
/-- a fraction kept, beside the fraction that it is -/
def zR (up lo : Int64) (U L : Nat) : Prop := ∃ p q : Nat, up = lN p ∧ lo = lN q ∧ 0 < q ∧ p ≤ U ∧ q ≤ L ∧ p * L = U * q
theorem zR.red0 {x y U L : Nat} (hy : 0 < y) (hx63 : x < 2 ^ 63) (hy63 : y < 2 ^ 63) (hx : x ≤ U) (hyL : y ≤ L) (h : x * L = U * y) (o1 o2 : Int64) : zR (fr_q (fr_cd (lN x) (lN y)) (lN x) o1) (fr_q (fr_cd (lN x) (lN y)) (lN y) o2) U L := by
  have hg : 0 < Nat.gcd x y := Nat.gcd_pos_of_pos_right x hy
  have hgy : Nat.gcd x y ≤ y := Nat.le_of_dvd hy (Nat.gcd_dvd_right x y)
  rw [zcd hx63 hy63, zfq hg (by omega) hx63, zfq hg (by omega) hy63]
  have e1 := Nat.div_mul_cancel (Nat.gcd_dvd_left x y)
  have e2 := Nat.div_mul_cancel (Nat.gcd_dvd_right x y)
  refine ⟨x / Nat.gcd x y, y / Nat.gcd x y, rfl, rfl, Nat.div_pos hgy hg, Nat.le_trans (Nat.div_le_self _ _) hx, Nat.le_trans (Nat.div_le_self _ _) hyL, ?_⟩
  refine Nat.eq_of_mul_eq_mul_right hg ?_
  rw [Nat.mul_right_comm, e1, Nat.mul_assoc, e2, h]
theorem zR.mul {up lo : Int64} {U L a b : Nat} (h : zR up lo U L) (hb : 0 < b) (h1 : U * a < 2 ^ 63) (h2 : L * b < 2 ^ 63) : zR (fr_mu up lo (lN a) (lN b)) (fr_ml up lo (lN a) (lN b)) (U * a) (L * b) := by
  obtain ⟨p, q, e1, e2, hq, hp, hqL, e⟩ := h
  subst e1 e2
  unfold fr_mu fr_ml
  rw [lN_mul, lN_mul]
  have g1 : p * a ≤ U * a := Nat.mul_le_mul_right a hp
  have g2 : q * b ≤ L * b := Nat.mul_le_mul_right b hqL
  refine zR.red0 (Nat.mul_pos hq hb) (by omega) (by omega) g1 g2 ?_ _ _
  calc p * a * (L * b) = p * L * (a * b) := by rw [Nat.mul_mul_mul_comm]
    _ = U * q * (a * b) := by rw [e]
    _ = U * a * (q * b) := by rw [Nat.mul_mul_mul_comm]
theorem zR.red {up lo : Int64} {U L : Nat} (h : zR up lo U L) (h1 : U < 2 ^ 63) (h2 : L < 2 ^ 63) (o1 o2 : Int64) : zR (fr_q (fr_cd up lo) up o1) (fr_q (fr_cd up lo) lo o2) U L := by
  obtain ⟨p, q, e1, e2, hq, hp, hqL, e⟩ := h
  subst e1 e2
  exact zR.red0 hq (by omega) (by omega) hp hqL e o1 o2
theorem zR.le0 {up lo : Int64} {U L : Nat} (h : zR up lo U L) (h1 : U < 2 ^ 63) (hL : 0 < L) : up ≤ 0 ↔ lN U ≤ 0 := by
  obtain ⟨p, q, e1, e2, hq, hp, hqL, e⟩ := h
  subst e1
  rw [show (0 : Int64) = lN 0 from rfl, pk_lLE (by omega) (by decide), pk_lLE h1 (by decide)]
  constructor
  · intro z
    have z0 : p = 0 := by omega
    subst z0
    rw [Nat.zero_mul] at e
    rcases Nat.mul_eq_zero.mp e.symm with w | w <;> omega
  · intro z; omega
theorem zR.more {up lo up2 lo2 : Int64} {U L U2 L2 : Nat} (h : zR up lo U L) (h2 : zR up2 lo2 U2 L2) (b1 : U * L2 < 2 ^ 63) (b2 : U2 * L < 2 ^ 63) : fr_more up lo up2 lo2 = if lN (U * L2) ≤ lN (U2 * L) then false else true := by
  obtain ⟨p, q, e1, e2, hq, hp, hqL, e⟩ := h
  obtain ⟨p2, q2, f1, f2, hq2, hp2, hqL2, f⟩ := h2
  subst e1 e2 f1 f2
  unfold fr_more
  have c1 : p * q2 ≤ U * L2 := Nat.mul_le_mul hp hqL2
  have c2 : p2 * q ≤ U2 * L := Nat.mul_le_mul hp2 hqL
  have hL : 0 < L * L2 := Nat.mul_pos (by omega) (by omega)
  have hqq : 0 < q * q2 := Nat.mul_pos hq hq2
  have key : p * q2 ≤ p2 * q ↔ U * L2 ≤ U2 * L := by
    have k1 : p * q2 * (L * L2) = U * L2 * (q * q2) := by
      calc p * q2 * (L * L2) = p * L * (q2 * L2) := by rw [Nat.mul_mul_mul_comm]
        _ = U * q * (L2 * q2) := by rw [e, Nat.mul_comm q2]
        _ = U * L2 * (q * q2) := by rw [Nat.mul_mul_mul_comm]
    have k2 : p2 * q * (L * L2) = U2 * L * (q * q2) := by
      calc p2 * q * (L * L2) = p2 * q * (L2 * L) := by rw [Nat.mul_comm L]
        _ = p2 * L2 * (q * L) := by rw [Nat.mul_mul_mul_comm]
        _ = U2 * q2 * (L * q) := by rw [f, Nat.mul_comm q]
        _ = U2 * L * (q2 * q) := by rw [Nat.mul_mul_mul_comm]
        _ = U2 * L * (q * q2) := by rw [Nat.mul_comm q2]
    constructor
    · intro z
      have := Nat.mul_le_mul_right (L * L2) z
      rw [k1, k2] at this
      exact Nat.le_of_mul_le_mul_right this hqq
    · intro z
      have := Nat.mul_le_mul_right (q * q2) z
      rw [← k1, ← k2] at this
      exact Nat.le_of_mul_le_mul_right this hL
  rw [lN_mul, lN_mul]
  by_cases z : p * q2 ≤ p2 * q
  · rw [if_pos ((pk_lLE (by omega) (by omega)).mpr z), if_pos ((pk_lLE (by omega) (by omega)).mpr (key.mp z))]
  · rw [if_neg (fun w => z ((pk_lLE (by omega) (by omega)).mp w)), if_neg (fun w => z (key.mpr ((pk_lLE (by omega) (by omega)).mp w)))]

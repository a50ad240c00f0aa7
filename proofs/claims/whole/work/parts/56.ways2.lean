/-! ways as lists -/
def zrow (n : Nat) : Nat → Nat → List Nat
  | 0, _ => []
  | K + 1, c => (c / n ^ K % n) :: zrow n K (c % n ^ K)
def zadj (rw : Nat → Int32) : Option Nat → List Nat → Bool
  | _, [] => true
  | pv, d :: ds => zokp rw pv d && zadj rw (some d) ds
def zval (n : Nat) (rw : Nat → Int32) (K left : Nat) (pv : Option Nat) (c : Nat) : Bool := (zset n K c == left) && zadj rw pv (zrow n K c)
/-- the codes below C that f takes -/
def zcs (f : Nat → Bool) : Nat → List Nat
  | 0 => []
  | C + 1 => zcs f C ++ (if f C then [C] else [])
def zfm (g : Nat → List (List Nat)) : Nat → List (List Nat)
  | 0 => []
  | d + 1 => zfm g d ++ g d
def zrm (l d : Nat) : Nat := l &&& (63 ^^^ 2 ^ d)
def zway (n : Nat) (rw : Nat → Int32) : Nat → Nat → Option Nat → List (List Nat)
  | 0, left, _ => if left = 0 then [[]] else []
  | K + 1, left, pv => zfm (fun d => if left.testBit d && zokp rw pv d then (zway n rw K (zrm left d) (some d)).map (fun w => d :: w) else []) n
theorem zcs_congr {f g : Nat → Bool} : ∀ C : Nat, (∀ c : Nat, c < C → f c = g c) → zcs f C = zcs g C
  | 0, _ => rfl
  | C + 1, h => by
    simp only [zcs]
    rw [zcs_congr C (fun c hc => h c (by omega)), h C (by omega)]
theorem zcs_none : ∀ C : Nat, zcs (fun _ => false) C = []
  | 0 => rfl
  | C + 1 => by simp only [zcs]; rw [zcs_none C]; rfl
theorem zcs_lt {f : Nat → Bool} : ∀ (C c : Nat), c ∈ zcs f C → c < C
  | 0, c, h => by simp only [zcs] at h; exact absurd h List.not_mem_nil
  | C + 1, c, h => by
    simp only [zcs] at h
    rcases List.mem_append.mp h with q | q
    · have := zcs_lt C c q; omega
    · by_cases z : f C = true
      · rw [if_pos z] at q; have := List.mem_singleton.mp q; omega
      · rw [if_neg z] at q; exact absurd q List.not_mem_nil
theorem zcs_add (f : Nat → Bool) (a : Nat) : ∀ m : Nat, zcs f (a + m) = zcs f a ++ (zcs (fun c => f (a + c)) m).map (fun c => a + c)
  | 0 => by simp only [zcs, Nat.add_zero, List.map_nil, List.append_nil]
  | m + 1 => by
    show zcs f (a + m + 1) = _
    simp only [zcs]
    rw [zcs_add f a m, List.map_append, List.append_assoc]
    congr 2
    by_cases z : f (a + m) = true
    · rw [if_pos z, if_pos z]; rfl
    · rw [if_neg z, if_neg z]; rfl
theorem zfm_congr {f g : Nat → List (List Nat)} : ∀ d : Nat, (∀ s : Nat, s < d → f s = g s) → zfm f d = zfm g d
  | 0, _ => rfl
  | d + 1, h => by
    simp only [zfm]
    rw [zfm_congr d (fun s hs => h s (by omega)), h d (by omega)]
theorem zcs_blocks (f : Nat → Bool) (F : Nat → List Nat) (m : Nat) : ∀ d : Nat, (zcs f (d * m)).map F = zfm (fun s => (zcs (fun c => f (s * m + c)) m).map (fun c => F (s * m + c))) d
  | 0 => by rw [Nat.zero_mul]; rfl
  | d + 1 => by
    simp only [zfm]
    rw [Nat.add_mul, Nat.one_mul, zcs_add, List.map_append, zcs_blocks f F m d, List.map_map]
    rfl
theorem zrow_top {n j d c : Nat} (h0 : 0 < n) (hd : d < n) (hc : c < n ^ j) : zrow n (j + 1) (d * n ^ j + c) = d :: zrow n j c := by
  have hp : 0 < n ^ j := Nat.pow_pos h0
  show ((d * n ^ j + c) / n ^ j % n) :: zrow n j ((d * n ^ j + c) % n ^ j) = _
  rw [Nat.add_comm, Nat.add_mul_div_right _ _ hp, Nat.add_mul_mod_self_right, Nat.mod_eq_of_lt hc, Nat.div_eq_of_lt hc, Nat.zero_add, Nat.mod_eq_of_lt hd]
theorem zval_top {n : Nat} (rw : Nat → Int32) (hn : n ≤ 6) (h0 : 0 < n) {K left d c : Nat} (pv : Option Nat) (hl : left < 64) (hp : zpop left = K + 1) (hd : d < n) (hc : c < n ^ K) : zval n rw (K + 1) left pv (d * n ^ K + c) = ((left.testBit d && zokp rw pv d) && zval n rw K (zrm left d) (some d) c) := by
  obtain ⟨s1, s2⟩ := zset_lt hn h0 K c
  obtain ⟨o1, o2, o3, o4⟩ := zw_or (zset n K c) s1 d (by omega)
  unfold zval
  rw [zset_top h0 K d c hd hc, zrow_top h0 hd hc]
  simp only [zadj]
  generalize zset n K c = s at s1 s2 o1 o2 o3 o4 ⊢
  have key : ((2 ^ d ||| s) == left) = (left.testBit d && (s == zrm left d)) := by
    rw [Bool.eq_iff_iff]
    simp only [Bool.and_eq_true, beq_iff_eq]
    constructor
    · intro e
      rw [← e]
      refine ⟨o4, ?_⟩
      cases q : s.testBit d with
      | true => rw [o2 q] at e; rw [e, hp] at s2; omega
      | false => exact (o3 q).symm
    · rintro ⟨a, b⟩
      rw [b]; exact (zw_an left hl d (by omega) a).1
  rw [key]
  cases left.testBit d <;> cases zokp rw pv d <;> cases (s == zrm left d) <;> rfl
theorem zway_cs {n : Nat} (rw : Nat → Int32) (hn : n ≤ 6) (h0 : 0 < n) : ∀ (K left : Nat) (pv : Option Nat), left < 64 → zpop left = K → (zcs (zval n rw K left pv) (n ^ K)).map (zrow n K) = zway n rw K left pv
  | 0, left, pv, hl, hp => by
    have z : ∀ l : Nat, l < 64 → zpop l = 0 → l = 0 := by decide +kernel
    have e := z left hl hp
    subst e
    rw [Nat.pow_zero]; rfl
  | K + 1, left, pv, hl, hp => by
    rw [Nat.pow_succ, Nat.mul_comm, zcs_blocks]
    simp only [zway]
    refine zfm_congr n (fun d hd => ?_)
    rw [zcs_congr (n ^ K) (fun c hc => zval_top rw hn h0 pv hl hp hd hc)]
    by_cases q : (left.testBit d && zokp rw pv d) = true
    · rw [if_pos q, q]
      simp only [Bool.true_and]
      have a : left.testBit d = true := by
        cases w : left.testBit d with
        | true => rfl
        | false => rw [w] at q; cases q
      obtain ⟨-, u2, u3⟩ := zw_an left hl d (by omega) a
      rw [← zway_cs rw hn h0 K (zrm left d) (some d) u3 (by unfold zrm; omega), List.map_map]
      refine List.map_congr_left (fun c hc => ?_)
      exact zrow_top h0 hd (zcs_lt _ _ hc)
    · rw [if_neg q]
      have e : ∀ c : Nat, c < n ^ K → ((left.testBit d && zokp rw pv d) && zval n rw K (zrm left d) (some d) c) = (fun _ => false) c := by
        intro c _
        cases w : (left.testBit d && zokp rw pv d) with
        | true => exact absurd w q
        | false => rfl
      rw [zcs_congr _ e, zcs_none]
      rfl

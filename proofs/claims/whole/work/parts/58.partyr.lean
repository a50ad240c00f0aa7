/-! a party on the reference's side -/
theorem zcs_len (f : Nat → Bool) : ∀ C : Nat, (zcs f C).length ≤ C
  | 0 => Nat.le_refl _
  | C + 1 => by
    have h := zcs_len f C
    simp only [zcs]
    rw [List.length_append]
    split
    · rw [List.length_singleton]; omega
    · rw [List.length_nil]; omega
theorem zpa {n : Nat} (rw : Nat → Int32) (hn : n ≤ 6) (h0 : 0 < n) (K left : Nat) (hl : left < 64) (be ro : Nat → Int32) : ∀ C : Nat, C < 2 ^ 31 - 1 → (pa n rw K (nI left) be ro C).1 = (zcs (zval n rw K left none) C).length ∧ (∀ (c : Nat) (cs : List Nat), zcs (zval n rw K left none) C = c :: cs → ∀ t : Nat, t < K → t < 6 → (pa n rw K (nI left) be ro C).2.1 t = nI (((zrow n K c)[t]?).getD 0))
  | 0, _ => ⟨rfl, fun c cs h => by cases h⟩
  | C + 1, hC => by
    obtain ⟨i1, i2⟩ := zpa rw hn h0 K left hl be ro C (by omega)
    have hlen := zcs_len (zval n rw K left none) C
    simp only [pa, zcs]
    generalize pa n rw K (nI left) be ro C = P at i1 i2 ⊢
    obtain ⟨m, b, r⟩ := P
    simp only at i1 i2 ⊢
    rw [zly_val rw hn h0 K left C r hl]
    by_cases v : zval n rw K left none C = true
    · rw [if_pos v, if_pos v]
      refine ⟨by rw [List.length_append, ← i1]; rfl, fun c cs h t ht h6 => ?_⟩
      cases hz : zcs (zval n rw K left none) C with
      | nil =>
        rw [hz] at i1 h
        have hm : m = 0 := i1
        have hc : C = c := (List.cons.inj h).1
        subst hm
        subst hc
        show (if nI (0 + 1) = 1 then rw_cp (ly n K r C 0).1 b 6 else b) t = _
        rw [if_pos (show nI (0 + 1) = 1 from rfl)]
        unfold rw_cp
        rw [if_pos h6, zly1 h0, if_pos ht]
      | cons c' cs' =>
        rw [hz] at i1 h hlen
        have hm : m = cs'.length + 1 := i1
        have hc : c' = c := (List.cons.inj h).1
        subst hc
        show (if nI (m + 1) = 1 then rw_cp (ly n K r C 0).1 b 6 else b) t = _
        have hle : cs'.length + 1 ≤ C := hlen
        rw [if_neg (show ¬ nI (m + 1) = 1 from fun q => by have := (nI_eq (a := m + 1) (b := 1) (by omega) (by omega)).mp q; omega)]
        exact i2 c' cs' hz t ht h6
    · rw [if_neg v, if_neg v, List.append_nil]
      exact ⟨i1, i2⟩
/-- what a party answers, from its ways -/
def zpw (K : Nat) (ws : List (List Nat)) (w : Int32) : Int32 := if w = 0 then nI ws.length else match ws with
  | [] => -1
  | v :: _ => if w - 10 < nI K then nI ((v[(w - 10).toNatClampNeg]?).getD 0) else -1
theorem zpy {n : Nat} (rw : Nat → Int32) (hn : n ≤ 6) (h0 : 0 < n) (left : Nat) (hl : left < 64) (w : Int32) (hw : w = 0 ∨ ∃ x : Nat, x < 6 ∧ w = nI (10 + x)) : py n rw (mo_ones (nI left) 6).toNatClampNeg (nI left) w = zpw (zpop left) (zway n rw (zpop left) left none) w := by
  obtain ⟨o1, o2, -⟩ := zpop_1 left hl
  rw [o1, nI_clamp (by omega), ← zway_cs rw hn h0 (zpop left) left none hl rfl]
  generalize zpop left = K at o2 ⊢
  have h31 : n ^ K < 2 ^ 31 - 1 := by
    have h1 : n ^ K ≤ 6 ^ K := Nat.pow_le_pow_left hn K
    have h2 : 6 ^ K ≤ 6 ^ 6 := Nat.pow_le_pow_right (by decide) o2
    have h3 : (6 : Nat) ^ 6 < 2 ^ 31 - 1 := by decide
    omega
  obtain ⟨i1, i2⟩ := zpa rw hn h0 K left hl pz pz (n ^ K) h31
  have hlen := zcs_len (zval n rw K left none) (n ^ K)
  unfold py zpw
  rw [List.length_map]
  by_cases hw0 : w = 0
  · rw [if_pos hw0, if_pos hw0, i1]
  · rw [if_neg hw0, if_neg hw0]
    cases hz : zcs (zval n rw K left none) (n ^ K) with
    | nil =>
      rw [hz] at i1
      rw [if_pos (show nI (pa n rw K (nI left) pz pz (n ^ K)).1 = 0 by rw [i1]; rfl)]
      rfl
    | cons c cs =>
      rw [hz] at i1 hlen
      have hle : cs.length + 1 ≤ n ^ K := hlen
      have e : (pa n rw K (nI left) pz pz (n ^ K)).1 = cs.length + 1 := i1
      rw [if_neg (show ¬ nI (pa n rw K (nI left) pz pz (n ^ K)).1 = 0 from fun q => by rw [e] at q; have := (nI_eq (a := cs.length + 1) (b := 0) (by omega) (by omega)).mp q; omega)]
      rw [List.map_cons]
      show _ = if w - 10 < nI K then nI (((zrow n K c)[(w - 10).toNatClampNeg]?).getD 0) else -1
      by_cases hk : w - 10 < nI K
      · rw [if_pos hk, if_pos hk]
        obtain ⟨x, hx, rfl⟩ := hw.resolve_left hw0
        have e10 : nI (10 + x) - 10 = nI x := by rw [← nI_add]; show 10 + nI x - 10 = nI x; rw [Int32.add_comm]; exact Int32.add_sub_cancel _ _
        rw [e10] at hk ⊢
        rw [nI_clamp (by omega)]
        exact i2 c cs hz x ((nI_ltI (by omega) (by omega)).mp hk) hx
      · rw [if_neg hk, if_neg hk]

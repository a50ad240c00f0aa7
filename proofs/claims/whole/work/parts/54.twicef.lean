/-! twice, called: class and reference -/
section
variable {i n : Nat} {ks gs wt mi pl sk rw : Nat → Int32} {ru bg la : Int32}
theorem zp23 {p : Int32} (h1 : ¬ p < 2) (h2 : ¬ 3 < p) : p = 2 ∨ p = 3 := by
  have a := Int32.not_lt.mp h1
  have b := Int32.not_lt.mp h2
  obtain ⟨j, hj, e⟩ := nI_of (x := p) (fun q => by
    have := Int32.lt_of_le_of_lt a q
    exact absurd this (by decide))
  rw [e] at a b
  have a2 := (nI_leI (a := 2) (by decide) hj).mp a
  have b2 := (nI_leI (b := 3) hj (by decide)).mp b
  rcases (show j = 2 ∨ j = 3 by omega) with q | q
  · left; rw [e, q]; rfl
  · right; rw [e, q]; rfl
theorem zw01 {p : Int32} (h1 : ¬ p < 0) (h2 : ¬ 1 < p) : p = 0 ∨ p = 1 := by
  have b := Int32.not_lt.mp h2
  obtain ⟨j, hj, e⟩ := nI_of h1
  rw [e] at b
  have b2 := (nI_leI (b := 1) hj (by decide)).mp b
  rcases (show j = 0 ∨ j = 1 by omega) with q | q
  · left; rw [e, q]; rfl
  · right; rw [e, q]; rfl
theorem ztl (np : Bool) (p w : Int32) (a b r : Int64) (h : np = false → (p = 2 ∨ p = 3) → (w = 0 → r = a) ∧ (w = 1 → r = b)) : (if p < 2 then -102 else if 3 < p then -102 else if w < 0 then -102 else if w ≤ 1 then (if np then -103 else if w = 0 then a else b) else -102) = if (if p < 2 then false else if 3 < p then false else true) = true then (if (if w < 0 then false else if 1 < w then false else true) = true then (if np then -103 else r) else -102) else (-102 : Int64) := by
  by_cases h1 : p < 2
  · simp only [if_pos h1, Bool.false_eq_true, if_false]
  by_cases h2 : 3 < p
  · simp only [if_neg h1, if_pos h2, Bool.false_eq_true, if_false]
  by_cases h4 : w < 0
  · simp only [if_neg h1, if_neg h2, if_pos h4, Bool.false_eq_true, if_false, if_true]
  by_cases h5 : 1 < w
  · simp only [if_neg h1, if_neg h2, if_neg h4, if_pos h5, if_neg (Int32.not_le.mpr h5), Bool.false_eq_true, if_false, if_true]
  simp only [if_neg h1, if_neg h2, if_neg h4, if_neg h5, if_pos (Int32.not_lt.mp h5), if_true]
  cases np with
  | true => simp only [if_true]
  | false =>
    obtain ⟨k1, k2⟩ := h rfl (zp23 h1 h2)
    simp only [Bool.false_eq_true, if_false]
    rcases zw01 h4 h5 with q | q
    · rw [if_pos q, k1 q]
    · rw [if_neg (by rw [q]; decide), k2 q]
theorem zPl.twice (X : zPl i n ks gs wt mi pl sk rw) (hi : i ≤ 64) (Y : zDy n ru bg la) (p w : Int32) : ti_r n ks gs wt sk ru bg la p w = if mo_in p.toInt64 2 3 then (if mo_in w.toInt64 0 1 then (if sa_np n then -103 else to_r n rw ru bg la p w) else -102) else -102 := by
  unfold ti_r
  rw [show mo_in p.toInt64 2 3 = _ from zin p 2 3, show mo_in w.toInt64 0 1 = _ from zin w 0 1]
  refine ztl (sa_np n) p w _ _ _ (fun hn h => ?_)
  obtain ⟨f1, f2⟩ := X.to hi Y (sa_np0 hn) h
  exact ⟨fun q => by rw [q, f1], fun q => by rw [q, f2]⟩
end

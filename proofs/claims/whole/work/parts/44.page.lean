/-! the page: class and reference read it alike -/
theorem zf_kind : ∀ c : Nat, c < 127 → zIdx (zch (nI c)) = mo_kind (nI c) ∧ ((zIdx (zch (nI c)) < 0) ↔ mo_kind (nI c) = -1) := by decide +kernel
theorem zf_kr : ∀ c : Nat, c < 127 → mo_kind (nI c) = -1 ∨ mo_kind (nI c) = nI (mo_kind (nI c)).toNatClampNeg ∧ (mo_kind (nI c)).toNatClampNeg ≤ 4 := by decide +kernel
theorem zf_dig : ∀ c : Nat, c < 127 → pg_dig (nI c) 4 = mo_in (nI c - 48).toInt64 0 3 := by decide +kernel
theorem zf_dr : ∀ c : Nat, c < 127 → pg_dig (nI c) 4 = false ∨ nI c - 48 = nI (c - 48) ∧ c - 48 ≤ 3 ∧ c ≠ 59 := by decide +kernel
theorem zf_59 : mo_kind 59 = -1 := by decide
theorem zf_m3 {k : Nat} (h : k < 23) : nI k - nI k / 3 * 3 = nI (k % 3) := pk_rem (d := 3) (by omega) (by decide) (by decide)
theorem zf_d3 {k : Nat} (h : k < 23) : nI k / 3 + 1 = nI (k / 3 + 1) := by
  show nI k / nI 3 + 1 = _
  rw [pk_div (by omega) (by decide) (by decide), nI_1]
section
variable {len : Nat} {cd pg : Nat → Int32}
/-- the codes on the page -/
def zPg (len : Nat) (cd pg : Nat → Int32) : Prop := len ≤ 22 ∧ ∀ j : Nat, j < len → cd j = pg j ∧ ∃ c : Nat, 0 < c ∧ c < 127 ∧ pg j = nI c
/-- kinds and singers read so far -/
def zRd (pg rd : Nat → Int32) (k : Nat) : Prop := (∀ t : Nat, 3 * t < k → rd (2 * t) = mo_kind (pg (3 * t)) ∧ ∃ y : Nat, y ≤ 4 ∧ mo_kind (pg (3 * t)) = nI y) ∧ ∀ t : Nat, 3 * t + 1 < k → rd (2 * t + 1) = pg (3 * t + 1) - 48 ∧ ∃ y : Nat, y ≤ 3 ∧ pg (3 * t + 1) - 48 = nI y
def zVa (pg : Nat → Int32) (k : Nat) (s : Int32) (rd : Nat → Int32) (rm : Nat) (st : Nat) : Prop := s = -1 ∧ st = k % 3 ∧ rm = (k + 1) / 3 ∧ k ≤ 17 ∧ (∀ j : Nat, j < k → ¬ pg j = 59) ∧ zRd pg rd k
def zVb (pg : Nat → Int32) (k : Nat) (s : Int32) (rd : Nat → Int32) (rm : Nat) (rr : Int32) (st : Nat) : Prop := ∃ t : Nat, 1 ≤ t ∧ t ≤ 5 ∧ s = nI (3 * t + 2) ∧ pg (3 * t + 2) = 59 ∧ rm = t + 1 ∧ (∀ j : Nat, j < k → j ≠ 3 * t + 2 → ¬ pg j = 59) ∧ zRd pg rd (3 * t + 2) ∧ (k = 3 * t + 3 ∧ st = 3 ∨ k = 3 * t + 4 ∧ st = 4 ∧ rr = pg (3 * t + 3) - 48 ∧ ∃ y : Nat, y ≤ 3 ∧ pg (3 * t + 3) - 48 = nI y)
theorem zRd.up0 {rd : Nat → Int32} {k : Nat} (h : zRd pg rd k) {t : Nat} (e : k = 3 * t) {x : Int32} (hx : x = mo_kind (pg (3 * t))) (hy : ∃ y : Nat, y ≤ 4 ∧ x = nI y) : zRd pg (upd rd (2 * t) x) (k + 1) := by
  refine ⟨fun u hu => ?_, fun u hu => ?_⟩
  · by_cases q : u = t
    · subst q; rw [upd_at, ← hx]; exact ⟨rfl, hy⟩
    · rw [upd_ne rd _ (show 2 * u ≠ 2 * t by omega)]; exact h.1 u (by omega)
  · rw [upd_ne rd _ (show 2 * u + 1 ≠ 2 * t by omega)]; exact h.2 u (by omega)
theorem zRd.up1 {rd : Nat → Int32} {k : Nat} (h : zRd pg rd k) {t : Nat} (e : k = 3 * t + 1) {x : Int32} (hx : x = pg (3 * t + 1) - 48) (hy : ∃ y : Nat, y ≤ 3 ∧ x = nI y) : zRd pg (upd rd (2 * t + 1) x) (k + 1) := by
  refine ⟨fun u hu => ?_, fun u hu => ?_⟩
  · rw [upd_ne rd _ (show 2 * u ≠ 2 * t + 1 by omega)]; exact h.1 u (by omega)
  · by_cases q : u = t
    · subst q; rw [upd_at, ← hx]; exact ⟨rfl, hy⟩
    · rw [upd_ne rd _ (show 2 * u + 1 ≠ 2 * t + 1 by omega)]; exact h.2 u (by omega)
theorem zRd.up2 {rd : Nat → Int32} {k : Nat} (h : zRd pg rd k) {t : Nat} (e : k = 3 * t + 2) : zRd pg rd (k + 1) :=
  ⟨fun u hu => h.1 u (by omega), fun u hu => h.2 u (by omega)⟩
theorem zff (P : zPg len cd pg) : ∀ (d k : Nat) (s : Int32) (rd : Nat → Int32) (rm : Nat) (rr : Int32) (st : Nat), k + d = len → (zVa pg k s rd rm st ∨ zVb pg k s rd rm rr st) →
    pg_ff cd len d k s = nI (fo pg d k rd rm rr st).1 ∧ ((fo pg d k rd rm rr st).1 < len ∨ ((fo pg d k rd rm rr st).1 = len ∧ ∃ s' : Int32, zVa pg len s' (fo pg d k rd rm rr st).2.1 (fo pg d k rd rm rr st).2.2.1 (fo pg d k rd rm rr st).2.2.2.2 ∨ zVb pg len s' (fo pg d k rd rm rr st).2.1 (fo pg d k rd rm rr st).2.2.1 (fo pg d k rd rm rr st).2.2.2.1 (fo pg d k rd rm rr st).2.2.2.2))
  | 0, k, s, rd, rm, rr, st, hk, hV => by
    have e : k = len := by omega
    subst e
    exact ⟨rfl, Or.inr ⟨rfl, s, hV⟩⟩
  | d + 1, k, s, rd, rm, rr, st, hk, hV => by
    have hl := P.1
    obtain ⟨e1, c, hc0, hc, e2⟩ := P.2 k (by omega)
    have hat : rw_at 22 cd (nI k) = nI c := by rw [rw_at_in cd (by omega) (by decide), e1, e2]
    obtain ⟨f1, f2⟩ := zf_kind c hc
    -- what a step gives
    have go : ∀ (s2 : Int32), pg_fits cd (nI k) s = true → go_r st rm (pg k) = true → (if rw_at 22 cd (nI k) = 59 then nI k else s) = s2 → (zVa pg (k + 1) s2 (go_rd st rm rd (pg k)) (go_rm st rm) (go_st st (pg k)) ∨ zVb pg (k + 1) s2 (go_rd st rm rd (pg k)) (go_rm st rm) (go_rr st rr (pg k)) (go_st st (pg k))) →
        pg_ff cd len (d + 1) k s = nI (fo pg (d + 1) k rd rm rr st).1 ∧ ((fo pg (d + 1) k rd rm rr st).1 < len ∨ ((fo pg (d + 1) k rd rm rr st).1 = len ∧ ∃ s' : Int32, zVa pg len s' (fo pg (d + 1) k rd rm rr st).2.1 (fo pg (d + 1) k rd rm rr st).2.2.1 (fo pg (d + 1) k rd rm rr st).2.2.2.2 ∨ zVb pg len s' (fo pg (d + 1) k rd rm rr st).2.1 (fo pg (d + 1) k rd rm rr st).2.2.1 (fo pg (d + 1) k rd rm rr st).2.2.2.1 (fo pg (d + 1) k rd rm rr st).2.2.2.2)) := by
      intro s2 a b cc h
      have ih := zff P d (k + 1) s2 (go_rd st rm rd (pg k)) (go_rm st rm) (go_rr st rr (pg k)) (go_st st (pg k)) (by omega) h
      have e4 : pg_ff cd len (d + 1) k s = pg_ff cd len d (k + 1) s2 := by
        simp only [pg_ff]
        rw [if_pos a, ← cc]
        by_cases q : rw_at 22 cd (nI k) = 59
        · rw [if_pos q, if_pos q]
        · rw [if_neg q, if_neg q]
      have e5 : fo pg (d + 1) k rd rm rr st = fo pg d (k + 1) (go_rd st rm rd (pg k)) (go_rm st rm) (go_rr st rr (pg k)) (go_st st (pg k)) := by
        simp only [fo]; rw [if_pos b]
      rw [e4, e5]; exact ih
    have no : pg_fits cd (nI k) s = false → go_r st rm (pg k) = false →
        pg_ff cd len (d + 1) k s = nI (fo pg (d + 1) k rd rm rr st).1 ∧ ((fo pg (d + 1) k rd rm rr st).1 < len ∨ ((fo pg (d + 1) k rd rm rr st).1 = len ∧ ∃ s' : Int32, zVa pg len s' (fo pg (d + 1) k rd rm rr st).2.1 (fo pg (d + 1) k rd rm rr st).2.2.1 (fo pg (d + 1) k rd rm rr st).2.2.2.2 ∨ zVb pg len s' (fo pg (d + 1) k rd rm rr st).2.1 (fo pg (d + 1) k rd rm rr st).2.2.1 (fo pg (d + 1) k rd rm rr st).2.2.2.1 (fo pg (d + 1) k rd rm rr st).2.2.2.2)) := by
      intro a b
      have e4 : pg_ff cd len (d + 1) k s = nI k := by simp only [pg_ff]; rw [if_neg (by rw [a]; decide)]
      have e5 : (fo pg (d + 1) k rd rm rr st).1 = k := by simp only [fo]; rw [if_neg (by rw [b]; decide)]
      rw [e4, e5]
      exact ⟨rfl, Or.inl (by omega)⟩
    rcases hV with ⟨q1, q2, q3, q4, q5, q6⟩ | ⟨t, t1, t5, q1, q2, q3, q4, q5, q6⟩
    · have hfit : ∀ x : Bool, (if nI k - nI k / 3 * 3 = 0 then (if zIdx (zch (rw_at 22 cd (nI k))) < 0 then false else true) else if nI k - nI k / 3 * 3 = 1 then pg_dig (rw_at 22 cd (nI k)) 4 else pg_ends (rw_at 22 cd (nI k)) (nI k / 3 + 1)) = x → pg_fits cd (nI k) s = x := by
        intro x hx
        unfold pg_fits
        rw [if_pos q1]; exact hx
      rw [zf_m3 (by omega), zf_d3 (by omega), hat] at hfit
      rcases (show k % 3 = 0 ∨ k % 3 = 1 ∨ k % 3 = 2 by omega) with z | z | z
      · obtain ⟨t, et⟩ : ∃ t, k = 3 * t := ⟨k / 3, by omega⟩
        rw [z, if_pos (by decide)] at hfit
        have hr : go_r st rm (pg k) = if mo_kind (nI c) = -1 then false else true := by unfold go_r; rw [if_pos (by omega), e2]
        by_cases w : mo_kind (nI c) = -1
        · rw [if_pos w] at hr
          exact no (hfit _ (if_pos (f2.mpr w))) hr
        · rw [if_neg w] at hr
          have h59 : ¬ nI c = 59 := fun q => w (by rw [q]; exact zf_59)
          refine go (-1) (hfit _ (if_neg (fun q => w (f2.mp q)))) hr (by rw [hat, if_neg h59, q1]) (Or.inl ⟨rfl, ?_, ?_, by omega, ?_, ?_⟩)
          · unfold go_st; rw [if_neg (by omega)]; omega
          · unfold go_rm; rw [if_neg (by omega)]; omega
          · intro j hj
            by_cases q : j = k
            · rw [q, e2]; exact h59
            · exact q5 j (by omega)
          · unfold go_rd
            rw [if_pos (by omega), show 2 * rm = 2 * t by omega, e2]
            refine q6.up0 et (by rw [← et, e2]) ?_
            rcases zf_kr c hc with u | ⟨u, u2⟩
            · exact absurd u w
            · exact ⟨_, u2, u⟩
      · obtain ⟨t, et⟩ : ∃ t, k = 3 * t + 1 := ⟨k / 3, by omega⟩
        rw [z, if_neg (by decide), if_pos (by decide)] at hfit
        have hr : go_r st rm (pg k) = pg_dig (nI c) 4 := by unfold go_r; rw [if_neg (by omega), if_pos (by omega), e2, zf_dig c hc]
        rcases zf_dr c hc with w | ⟨w1, w2, w3⟩
        · exact no (hfit _ w) (hr.trans w)
        · cases w : pg_dig (nI c) 4 with
          | false => exact no (hfit _ w) (hr.trans w)
          | true =>
            have h59 : ¬ nI c = 59 := fun q => w3 ((nI_eq (b := 59) (by omega) (by decide)).mp q)
            refine go (-1) (hfit _ w) (hr.trans w) (by rw [hat, if_neg h59, q1]) (Or.inl ⟨rfl, ?_, ?_, by omega, ?_, ?_⟩)
            · unfold go_st; rw [if_neg (by omega)]; omega
            · unfold go_rm; rw [if_pos (by omega)]; omega
            · intro j hj
              by_cases q : j = k
              · rw [q, e2]; exact h59
              · exact q5 j (by omega)
            · unfold go_rd
              rw [if_neg (by omega), if_pos (by omega), show 2 * rm + 1 = 2 * t + 1 by omega, e2]
              exact q6.up1 et (by rw [← et, e2]) ⟨_, w2, w1⟩
      · obtain ⟨t, et⟩ : ∃ t, k = 3 * t + 2 := ⟨k / 3, by omega⟩
        rw [z, if_neg (by decide), if_neg (by decide), show k / 3 + 1 = t + 1 by omega] at hfit
        have hrm : rm = t + 1 := by omega
        have hst : st = 2 := by omega
        have hr : go_r st rm (pg k) = if nI c = 44 then (if 6 ≤ nI rm then false else true) else if nI c = 59 then (if nI rm ≤ 1 then false else true) else false := by unfold go_r; rw [if_neg (by omega), if_neg (by omega), if_pos hst, e2]
        have hrd : go_rd st rm rd (pg k) = rd := by unfold go_rd; rw [if_neg (by omega), if_neg (by omega)]
        have hgm : go_rm st rm = t + 1 := by unfold go_rm; rw [if_neg (by omega)]; exact hrm
        unfold pg_ends at hfit
        by_cases w : nI c = 44
        · rw [if_pos w] at hr hfit
          by_cases v : 6 ≤ t + 1
          · refine no (hfit _ (if_pos (nI_le (a := 6) v (by omega)))) (by rw [hr, hrm, if_pos (show 6 ≤ nI (t + 1) from nI_le (a := 6) v (by omega))])
          · have v2 : ¬ 6 ≤ nI (t + 1) := nI_ge (b := 6) (by omega) (by decide)
            have h59 : ¬ nI c = 59 := by rw [w]; decide
            refine go (-1) (hfit _ (if_neg v2)) (by rw [hr, hrm, if_neg v2]) (by rw [hat, if_neg h59, q1]) (Or.inl ⟨rfl, ?_, ?_, by omega, ?_, ?_⟩)
            · unfold go_st; rw [if_pos hst, e2, if_pos w]; omega
            · rw [hgm]; omega
            · intro j hj
              by_cases q : j = k
              · rw [q, e2]; exact h59
              · exact q5 j (by omega)
            · rw [hrd]; exact q6.up2 et
        · rw [if_neg w] at hr hfit
          by_cases w9 : nI c = 59
          · rw [if_pos w9] at hr hfit
            by_cases v : t + 1 < 2
            · refine no (hfit _ (if_pos (nI_lt (b := 2) v (by decide)))) (by rw [hr, hrm, if_pos (show nI (t + 1) ≤ 1 from nI_le (b := 1) (by omega) (by decide))])
            · have v2 : ¬ nI (t + 1) < 2 := nI_nlt (b := 2) (by omega) (by omega)
              have v3 : ¬ nI (t + 1) ≤ 1 := nI_ge (a := 1) (by omega) (by omega)
              refine go (nI k) (hfit _ (if_neg v2)) (by rw [hr, hrm, if_neg v3]) (by rw [hat, if_pos w9]) (Or.inr ⟨t, by omega, by omega, by rw [et], by rw [← et, e2]; exact w9, by rw [hgm], ?_, by rw [hrd, ← et]; exact q6, Or.inl ⟨by omega, ?_⟩⟩)
              · intro j hj hne
                exact q5 j (by omega)
              · unfold go_st; rw [if_pos hst, e2, if_neg w]
          · rw [if_neg w9] at hr hfit
            exact no (hfit _ rfl) hr
    · have hs1 : ¬ s = -1 := by
        rw [q1]
        rcases (show t = 1 ∨ t = 2 ∨ t = 3 ∨ t = 4 ∨ t = 5 by omega) with u | u | u | u | u <;> subst u <;> decide
      have hfit : ∀ x : Bool, (if nI k = nI (3 * t + 2) + 1 then (if pg_dig (nI c) 4 then true else false) else false) = x → pg_fits cd (nI k) s = x := by
        intro x hx
        unfold pg_fits
        rw [if_neg hs1, hat, q1]; exact hx
      rcases q6 with ⟨u1, u2⟩ | ⟨u1, u2, u3, u4⟩
      · rw [nI_1, if_pos (by rw [u1])] at hfit
        have hr : go_r st rm (pg k) = pg_dig (nI c) 4 := by unfold go_r; rw [if_neg (by omega), if_neg (by omega), if_neg (by omega), if_pos u2, e2, zf_dig c hc]
        rcases zf_dr c hc with w | ⟨w1, w2, w3⟩
        · exact no (hfit _ (if_neg (by rw [w]; decide))) (hr.trans w)
        · cases w : pg_dig (nI c) 4 with
          | false => exact no (hfit _ (if_neg (by rw [w]; decide))) (hr.trans w)
          | true =>
            have h59 : ¬ nI c = 59 := fun q => w3 ((nI_eq (b := 59) (by omega) (by decide)).mp q)
            refine go s (hfit _ (if_pos w)) (hr.trans w) (by rw [hat, if_neg h59]) (Or.inr ⟨t, t1, t5, q1, q2, ?_, ?_, ?_, Or.inr ⟨by omega, ?_, ?_, ?_⟩⟩)
            · unfold go_rm; rw [if_neg (by omega)]; exact q3
            · intro j hj hne
              by_cases q : j = k
              · rw [q, e2]; exact h59
              · exact q4 j (by omega) hne
            · unfold go_rd; rw [if_neg (by omega), if_neg (by omega)]; exact q5
            · unfold go_st; rw [if_neg (by omega)]; omega
            · unfold go_rr; rw [if_pos u2, u1]
            · rw [← u1, e2]; exact ⟨_, w2, w1⟩
      · have hk2 : ¬ nI k = nI (3 * t + 2) + 1 := by
          rw [nI_1, u1, nI_eq (by omega) (by omega)]; omega
        rw [if_neg hk2] at hfit
        refine no (hfit _ rfl) ?_
        unfold go_r
        rw [if_neg (by omega), if_neg (by omega), if_neg (by omega), if_neg (by omega)]
end

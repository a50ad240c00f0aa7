/-! the two worlds side by side -/
theorem zDl {A : Nat → Prop} {X Y : va_W} (hD : va_D A (X ++ Y)) : va_D A X := by
  refine ⟨fun i j p q hp hq e => ?_, fun k q hq => ?_⟩
  · have h1 := (List.getElem?_eq_some_iff.mp hp).1
    have h2 := (List.getElem?_eq_some_iff.mp hq).1
    exact hD.1 i j p q (by rw [List.getElem?_append_left h1]; exact hp) (by rw [List.getElem?_append_left h2]; exact hq) e
  · have h1 := (List.getElem?_eq_some_iff.mp hq).1
    exact hD.2 k q (by rw [List.getElem?_append_left h1]; exact hq)
theorem zDr {A : Nat → Prop} {X Y : va_W} (hD : va_D A (X ++ Y)) : va_D A Y := by
  have key : ∀ (k : Nat) (q : Nat × va_E), Y[k]? = some q → (X ++ Y)[X.length + k]? = some q := fun k q hq => by
    rw [List.getElem?_append_right (Nat.le_add_right _ _), Nat.add_sub_cancel_left]; exact hq
  refine ⟨fun i j p q hp hq e => ?_, fun k q hq => hD.2 _ q (key k q hq)⟩
  have := hD.1 _ _ p q (key i p hp) (key j q hq) e
  omega
theorem zkeepR {A : Nat → Prop} {D : va_G} {X Y : va_W} {H H1 : Heap} (hD : va_D A (X ++ Y)) (hY : va_P D vwCl Y H) (hk : ∀ q : Nat, q < H.size → ¬ va_A X H.size q → H1[q]? = H[q]?) : va_P D vwCl Y H1 := by
  intro k q hq
  have hlt := (hY k q hq).lt
  refine (hY k q hq).kept (hk q.1 hlt (fun h => ?_))
  rcases h with ⟨j, e, h⟩ | h
  · have hj : j < X.length := (List.getElem?_eq_some_iff.mp h).1
    have h1 : (X ++ Y)[j]? = some (q.1, e) := by rw [List.getElem?_append_left hj]; exact h
    have h2 : (X ++ Y)[X.length + k]? = some q := by rw [List.getElem?_append_right (Nat.le_add_right _ _), Nat.add_sub_cancel_left]; exact hq
    have := hD.1 j (X.length + k) (q.1, e) q h1 h2 rfl
    omega
  · omega
theorem zkeepL {A : Nat → Prop} {D : va_G} {X Y : va_W} {H H1 : Heap} (hD : va_D A (X ++ Y)) (hX : va_P D vwCl X H) (hk : ∀ q : Nat, q < H.size → ¬ va_A Y H.size q → H1[q]? = H[q]?) : va_P D vwCl X H1 := by
  intro k q hq
  have hlt := (hX k q hq).lt
  refine (hX k q hq).kept (hk q.1 hlt (fun h => ?_))
  rcases h with ⟨j, e, h⟩ | h
  · have hj : k < X.length := (List.getElem?_eq_some_iff.mp hq).1
    have h1 : (X ++ Y)[k]? = some q := by rw [List.getElem?_append_left hj]; exact hq
    have h2 : (X ++ Y)[X.length + j]? = some (q.1, e) := by rw [List.getElem?_append_right (Nat.le_add_right _ _), Nat.add_sub_cancel_left]; exact h
    have := hD.1 k (X.length + j) q (q.1, e) h1 h2 rfl
    omega
  · omega
theorem lw_pl {D : va_G} {X Y : va_W} {H : Heap} (h : va_P D vwCl (X ++ Y) H) : va_P D vwCl X H := fun k q hq => h k q (by rw [List.getElem?_append_left (List.getElem?_eq_some_iff.mp hq).1]; exact hq)
theorem lw_pr {D : va_G} {X Y : va_W} {H : Heap} (h : va_P D vwCl (X ++ Y) H) : va_P D vwCl Y H := fun k q hq => h (X.length + k) q (by rw [List.getElem?_append_right (Nat.le_add_right _ _), Nat.add_sub_cancel_left]; exact hq)
theorem lw_in0 {i L : Nat} (h : 4 * i + 4 ≤ L) (hL : L ≤ 256) : vp_in (nI (4 * i)) L := vp_in_nI (by omega) (by omega)
theorem lw_in1 {i L : Nat} (h : 4 * i + 4 ≤ L) (hL : L ≤ 256) : vp_in (nI (4 * i) + 1) L := by
  rw [show nI (4 * i) + 1 = nI (4 * i + 1) from nI_add (4 * i) 1]; exact vp_in_nI (by omega) (by omega)
theorem lw_in2 {i L : Nat} (h : 4 * i + 4 ≤ L) (hL : L ≤ 256) : vp_in (nI (4 * i) + 2) L := by
  rw [show nI (4 * i) + 2 = nI (4 * i + 2) from nI_add (4 * i) 2]; exact vp_in_nI (by omega) (by omega)
theorem lw_in3 {i L : Nat} (h : 4 * i + 4 ≤ L) (hL : L ≤ 256) : vp_in (nI (4 * i) + 3) L := by
  rw [show nI (4 * i) + 3 = nI (4 * i + 3) from nI_add (4 * i) 3]; exact vp_in_nI (by omega) (by omega)
theorem pl_t {α : Type} (x y : α) : pl_n true x y = x := rfl
theorem pl_f {α : Type} (x y : α) : pl_n false x y = y := rfl
theorem zp_23 {p : Int32} (h : mo_in p.toInt64 2 3 = true) : p = 2 ∨ p = 3 := by
  rw [show mo_in p.toInt64 2 3 = _ from zin p 2 3] at h
  by_cases h1 : p < 2
  · rw [if_pos h1] at h; cases h
  · rw [if_neg h1] at h
    by_cases h2 : 3 < p
    · rw [if_pos h2] at h; cases h
    · have e := ti_e h1 h2
      rw [← e]
      unfold ti_k
      split
      · exact Or.inl rfl
      · exact Or.inr rfl
def zWd (D : va_G) (cI : ClassId) (h g : Nat → Nat) (A : Nat → Prop) (i : Nat) (H : Heap) : Prop := ∃ (len : Nat) (cd : Nat → Int32) (n : Nat) (ks : Nat → Int32) (gs : Nat → Int32) (wt : Nat → Int32) (mi : Nat → Int32) (pl : Nat → Int32) (sk : Nat → Int32) (he : Nat → Int32) (nh : Nat) (ru : Int32) (bg : Int32) (la : Int32) (sd : Bool) (pl2 : Nat → Int32) (sk2 : Nat → Int32) (he2 : Nat → Int32) (nh2 : Nat) (ru2 : Int32) (bg2 : Int32) (la2 : Int32) (sd2 : Bool) (u0 : Int64) (l0 : Int64) (u1 : Int64) (l1 : Int64) (u2 : Int64) (l2 : Int64) (wy : Nat → Int32) (fi : Nat → Int32) (fl : Int32) (nu : Int32) (ik : Bool) (pr : Nat) (rm : Nat) (rr : Int32) (st : Nat) (ry : Nat) (xu : Int64) (xl : Int64) (sn : Int32) (kp : Int32) (kr : Int32) (kb : Int32) (kl : Int32) (kw : Bool) (kh : Nat) (hc : Int64) (pg : Nat → Int32) (rd : Nat → Int32) (rw : Nat → Int32) (ro : Nat → Int32) (be : Nat → Int32) (hm : Nat → Int32) (kro : Nat → Int32) (khe : Nat → Int32), zI i n len cd ks gs wt mi pl sk he nh ru bg la sd pl2 sk2 he2 nh2 ru2 bg2 la2 sd2 ik pr pg rw hm kro khe kp kr kb kl kw kh ∧ va_P D vwCl (zSA cI h len cd n ks gs wt mi pl sk he nh ru bg la sd pl2 sk2 he2 nh2 ru2 bg2 la2 sd2 u0 l0 u1 l1 u2 l2 wy fi fl nu ik pr) H ∧ va_P D vwCl (zM cI g len rm rr st n ru bg la sd pr ry nh xu xl sn kp kr kb kl kw kh hc pg rd rw ro be hm kro khe) H ∧ va_D A (zSA cI h len cd n ks gs wt mi pl sk he nh ru bg la sd pl2 sk2 he2 nh2 ru2 bg2 la2 sd2 u0 l0 u1 l1 u2 l2 wy fi fl nu ik pr ++ zM cI g len rm rr st n ru bg la sd pr ry nh xu xl sn kp kr kb kl kw kh hc pg rd rw ro be hm kro khe)

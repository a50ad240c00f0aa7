/-! what holds at the law's entry -/
theorem zDapp {A : Nat → Prop} {D : va_G} {X Y Z : va_W} {H : Heap} (hD : va_D A (X ++ Z)) (hX : va_P D vwCl X H) (hY : va_D (va_A Z H.size) Y) (hF : ∀ q, va_A Z H.size q → A q) : va_D A (X ++ Y) := by
  have cross : ∀ (i j : Nat) (p q : Nat × va_E), X[i]? = some p → Y[j]? = some q → p.1 = q.1 → False := by
    intro i j p q hp hq e
    have hi : i < X.length := (List.getElem?_eq_some_iff.mp hp).1
    rcases hY.2 j q hq with ⟨k, e2, h⟩ | h
    · have h1 : (X ++ Z)[i]? = some p := by rw [List.getElem?_append_left hi]; exact hp
      have h2 : (X ++ Z)[X.length + k]? = some (q.1, e2) := by rw [List.getElem?_append_right (Nat.le_add_right _ _), Nat.add_sub_cancel_left]; exact h
      have := hD.1 i (X.length + k) p (q.1, e2) h1 h2 e
      omega
    · have := (hX i p hp).lt
      omega
  refine ⟨fun i j p q hp hq e => ?_, fun k q hq => ?_⟩
  · rcases Nat.lt_or_ge i X.length with hi | hi
    · rw [List.getElem?_append_left hi] at hp
      rcases Nat.lt_or_ge j X.length with hj | hj
      · rw [List.getElem?_append_left hj] at hq
        exact (zDl hD).1 i j p q hp hq e
      · rw [List.getElem?_append_right hj] at hq
        exact (cross _ _ p q hp hq e).elim
    · rw [List.getElem?_append_right hi] at hp
      rcases Nat.lt_or_ge j X.length with hj | hj
      · rw [List.getElem?_append_left hj] at hq
        exact (cross _ _ q p hq hp e.symm).elim
      · rw [List.getElem?_append_right hj] at hq
        have := hY.1 _ _ p q hp hq e
        omega
  · rcases Nat.lt_or_ge k X.length with hk | hk
    · rw [List.getElem?_append_left hk] at hq
      exact (zDl hD).2 k q hq
    · rw [List.getElem?_append_right hk] at hq
      exact hF _ (hY.2 _ q hq)
set_option maxRecDepth 20000 in
theorem zst_F : ∀ w ∈ zNF.map (fun q => Cond.fieldLinkNest q.1 q.2.1 q.2.2.1 q.2.2.2.1 q.2.2.2.2 "SongsAgain"), w ∈ lw_tbl := zin_r _ [95, 97, 112, 114, 115, 117, 119, 121, 122, 143, 145, 147, 149, 151, 153, 155, 157, 182, 184] (by decide +kernel)
set_option maxRecDepth 20000 in
theorem zst_M : ∀ w ∈ zNM.map (fun q => Cond.methodLinkNest q.1 q.2.1 q.2.2 "SongsAgain"), w ∈ lw_tbl := zin_r _ [76, 105, 136, 177, 192, 550, 585] (by decide +kernel)
theorem zst_N {s : State} {b : Nat} (hts : ∀ w ∈ lw_tbl, w.before #[Value.ref b] s = true) : zN s := by
  refine ⟨fun q hq => ?_, fun q hq => ?_⟩
  · exact va_Nw.of (A := #[Value.ref b]) rfl (hts _ (zst_F _ (List.mem_map.mpr ⟨q, hq, rfl⟩)))
  · exact va_Nw.of (A := #[Value.ref b]) rfl (hts _ (zst_M _ (List.mem_map.mpr ⟨q, hq, rfl⟩)))
set_option maxHeartbeats 4000000 in
set_option maxRecDepth 100000 in
theorem zst_K {s : State} {b : Nat} (hts : ∀ w ∈ lw_tbl, w.before #[Value.ref b] s = true) : ∃ (D : va_G) (cI : ClassId), zK D cI s := by
  obtain ⟨c0, i0, k0⟩ := u_known (C := RX0) (T := TX0) (N := 5) (n := 5) hts zw_X0 (hts (.instantiable RX0 5) (List.mem_of_getElem? (i := 104) (by decide +kernel)))
  obtain ⟨c1, i1, k1⟩ := u_known (C := RX1) (T := TX1) (N := 2) (n := 2) hts zw_X1 (hts (.instantiable RX1 2) (List.mem_of_getElem? (i := 176) (by decide +kernel)))
  obtain ⟨c2, i2, k2⟩ := u_known (C := RX2) (T := TX2) (N := 4) (n := 4) hts zw_X2 (hts (.instantiable RX2 4) (List.mem_of_getElem? (i := 191) (by decide +kernel)))
  obtain ⟨c3, i3, k3⟩ := u_known (C := RX3) (T := TX3) (N := 2) (n := 2) hts zw_X3 (hts (.instantiable RX3 2) (List.mem_of_getElem? (i := 75) (by decide +kernel)))
  obtain ⟨c4, i4, k4⟩ := u_known (C := RX4) (T := TX4) (N := 8) (n := 8) hts zw_X4 (hts (.instantiable RX4 8) (List.mem_of_getElem? (i := 135) (by decide +kernel)))
  obtain ⟨c5, i5, k5⟩ := u_known (C := RX5) (T := TX5) (N := 1) (n := 1) hts zw_X5 (hts (.instantiable RX5 1) (List.mem_of_getElem? (i := 81) (by decide +kernel)))
  obtain ⟨c6, i6, k6⟩ := u_known (C := RX6) (T := TX6) (N := 10) (n := 10) hts zw_X6 (hts (.instantiable RX6 10) (List.mem_of_getElem? (i := 67) (by decide +kernel)))
  obtain ⟨c7, i7, k7⟩ := u_known (C := RX7) (T := TX7) (N := 30) (n := 30) hts zw_X7 (hts (.instantiable RX7 30) (List.mem_of_getElem? (i := 662) (by decide +kernel)))
  obtain ⟨cA, kA, comp, hc, hk, hkind⟩ := Cond.arrayClass_spec (hts (.arrayClass .int) (List.mem_of_getElem? (i := 93) (by decide +kernel)))
  refine ⟨(fun k => if k = 0 then c0 else if k = 1 then c1 else if k = 2 then c2 else if k = 3 then c3 else if k = 4 then c4 else if k = 5 then c5 else if k = 6 then c6 else c7, fun k => if k = 0 then i0 else if k = 1 then i1 else if k = 2 then i2 else if k = 3 then i3 else if k = 4 then i4 else if k = 5 then i5 else if k = 6 then i6 else i7), cA, ⟨fun k q hq => ?_, fun k q hq => ?_⟩, zst_N hts⟩
  · match k, hq with
    | 0, hq => cases hq; exact k0
    | 1, hq => cases hq; exact k1
    | 2, hq => cases hq; exact k2
    | 3, hq => cases hq; exact k3
    | 4, hq => cases hq; exact k4
    | 5, hq => cases hq; exact k5
    | 6, hq => cases hq; exact k6
    | 7, hq => cases hq; exact k7
    | k + 8, hq => simp [vwCl] at hq
  · match k, hq with
    | 0, hq => cases hq; exact ⟨fun n z => ⟨fun k h => (by cases h), kA, hk, comp, hkind⟩, hc⟩
    | k + 1, hq => simp [vzI] at hq
set_option maxHeartbeats 4000000 in
set_option maxRecDepth 100000 in
theorem zst_S {s : State} {b : Nat} (hts : ∀ w ∈ lw_tbl, w.before #[Value.ref b] s = true) (hgv : (Jvm.Cond.and given_1 narrow_1).before #[Value.ref b] s = true) : ∃ sa va : Nat, zS sa va (fun q : Nat => s.heap.size ≤ q) s s.heap := by
  have hs := flat_of_before _ hgv
  have hA : ∀ a : Nat, a < s.heap.size → ¬ (fun q : Nat => s.heap.size ≤ q) a := fun a h => Nat.not_le.mpr h
  have hex : (Cond.exactly (Term.string "SongsAgain$Page" 39) "java/lang/String").before #[Value.ref b] s = true := hs _ (by decide +kernel)
  have hco : (Cond.eq (.field (Term.string "SongsAgain$Page" 39) "java/lang/String" "coder" "B") (.int 0)).before #[Value.ref b] s = true := hs _ (by decide +kernel)
  have har : (Cond.arrayOf (Term.field (Term.string "SongsAgain$Page" 39) "java/lang/String" "value" "[B") .byte).before #[Value.ref b] s = true := hs _ (by decide +kernel)
  have hle : (Cond.eq (.length (Term.field (Term.string "SongsAgain$Page" 39) "java/lang/String" "value" "[B")) (.int 5)).before #[Value.ref b] s = true := hs _ (by decide +kernel)
  have he0 : (Cond.eq (.elem (Term.field (Term.string "SongsAgain$Page" 39) "java/lang/String" "value" "[B") (.int 0)) (.int 115)).before #[Value.ref b] s = true := hs _ (by decide +kernel)
  have he1 : (Cond.eq (.elem (Term.field (Term.string "SongsAgain$Page" 39) "java/lang/String" "value" "[B") (.int 1)) (.int 108)).before #[Value.ref b] s = true := hs _ (by decide +kernel)
  have he2 : (Cond.eq (.elem (Term.field (Term.string "SongsAgain$Page" 39) "java/lang/String" "value" "[B") (.int 2)) (.int 104)).before #[Value.ref b] s = true := hs _ (by decide +kernel)
  have he3 : (Cond.eq (.elem (Term.field (Term.string "SongsAgain$Page" 39) "java/lang/String" "value" "[B") (.int 3)) (.int 110)).before #[Value.ref b] s = true := hs _ (by decide +kernel)
  have he4 : (Cond.eq (.elem (Term.field (Term.string "SongsAgain$Page" 39) "java/lang/String" "value" "[B") (.int 4)) (.int 97)).before #[Value.ref b] s = true := hs _ (by decide +kernel)
  have hcs : (Cond.eq (.static "java/lang/String" "COMPACT_STRINGS" "Z") (.int 1)).before #[Value.ref b] s = true := hs _ (by decide +kernel)
  obtain ⟨a, cc, cA, kA, q1, -⟩ := Cond.exactly_spec (args := #[Value.ref b]) (first := s) (o := none) (s := s) (idx := []) (t := (Term.string "SongsAgain$Page" 39)) (cls := "java/lang/String") hex
  have hel : ∀ j : Nat, j < 5 → (Term.elem (Term.field (Term.string "SongsAgain$Page" 39) "java/lang/String" "value" "[B") (.int (Int32.ofNat j))).eval #[Value.ref b] s none [] s = some (.int (zBy j)) := by
    intro j hj
    match j, hj with
    | 0, _ => exact va_eqt he0
    | 1, _ => exact va_eqt he1
    | 2, _ => exact va_eqt he2
    | 3, _ => exact va_eqt he3
    | 4, _ => exact va_eqt he4
    | j + 5, hj => exact absurd hj (by omega)
  obtain ⟨t, ht, hT⟩ := va_Tof (ty := .byte) (N := 5) (f := fun j => .int (zBy j)) (A := (fun q : Nat => s.heap.size ≤ q)) (by decide) har (va_eqt hle) hel hA
  exact ⟨a, t, va_Zof (hts (.laysStatic "java/lang/String" "COMPACT_STRINGS" "Z") (List.mem_of_getElem? (i := 295) (by decide +kernel))) (hts (.initialized "java/lang/String") (List.mem_of_getElem? (i := 60) (by decide +kernel))) (va_eqt hcs) hA, vk_R.of (A := #[Value.ref b]) (hts (.stringRef "SongsAgain$Page" 39 "slhna") (List.mem_of_getElem? (i := 281) (by decide +kernel))) q1, va_Oof hex q1 hA, vk_OFof q1 (va_eqt hco) hA, vk_OFof q1 ht hA, hT⟩

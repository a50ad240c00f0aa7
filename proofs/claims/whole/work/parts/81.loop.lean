/-! the loop of the law -/
theorem lw_sub4 : ∀ L : Nat, L < 257 → (nI L - 4 : Int32).toInt = (L : Int) - 4 := by decide +kernel
theorem zWd.more {D : va_G} {cI : ClassId} {h g : Nat → Nat} {A : Nat → Prop} {i : Nat} {H : Heap} (Wd : zWd D cI h g A i H) : zWd D cI h g A (i + 1) H := by
  obtain ⟨len, cd, n, ks, gs, wt, mi, pl, sk, he, nh, ru, bg, la, sd, pl2, sk2, he2, nh2, ru2, bg2, la2, sd2, u0, l0, u1, l1, u2, l2, wy, fi, fl, nu, ik, pr, rm, rr, st, ry, xu, xl, sn, kp, kr, kb, kl, kw, kh, hc, pg, rd, rw, ro, be, hm, kro, khe, X, hPA, hPB, hD⟩ := Wd
  exact ⟨len, cd, n, ks, gs, wt, mi, pl, sk, he, nh, ru, bg, la, sd, pl2, sk2, he2, nh2, ru2, bg2, la2, sd2, u0, l0, u1, l1, u2, l2, wy, fi, fl, nu, ik, pr, rm, rr, st, ry, xu, xl, sn, kp, kr, kb, kl, kw, kh, hc, pg, rd, rw, ro, be, hm, kro, khe, X.more, hPA, hPB, hD⟩
set_option maxHeartbeats 4000000 in
set_option maxRecDepth 100000 in
theorem lw_head {p : Program} {l : Launch} {e : Env} {s : State} {m : MethodId} {below : List Frame} {meth : Method} {c : Code} {b L : Nat} {xs : Nat → Int32} {D : va_G} {cI : ClassId} {sa va : Nat} {h g : Nat → Nat} (C0 : lw_At p s m meth c b L xs) (hZ : zK D cI s) (hT : zS sa va (fun q : Nat => s.heap.size ≤ q) s s.heap) {i : Nat} (hL : L ≤ 256) (hi : i ≤ 64) {H : Heap} {locs : List Loc} (Wd : zWd D cI h g (fun q : Nat => s.heap.size ≤ q) i H) (hS : va_S (fun q : Nat => s.heap.size ≤ q) s.heap H locs) {ls : Array Slot} (hl : lv_has ls 4 [(3, .int (nI (4 * i))), (2, .ref (g 0)), (1, .ref (h 0)), (0, .ref b)]) (K : 4 * i + 4 ≤ L → ∀ (H1 : Heap) (locs1 : List Loc), zWd D cI h g (fun q : Nat => s.heap.size ≤ q) (i + 1) H1 → va_S (fun q : Nat => s.heap.size ≤ q) s.heap H1 locs1 → W p l e room_1 s m #[Value.ref b] below meth c H1 locs1 44 294 (lw_Z below #[Value.ref b] s) (F0 m 550 ls [])) : W p l e room_1 s m #[Value.ref b] below meth c H locs 44 294 (lw_Z below #[Value.ref b] s) (F0 m 18 ls []) := by
  obtain ⟨hx, hb, hr, hml, hown, hts0, hX, hbl, hlocks, hgv⟩ := id C0
  have hA : ∀ q : Nat, s.heap.size ≤ q → (fun q : Nat => s.heap.size ≤ q) q := fun _ h => h
  have hbA : ¬ (fun q : Nat => s.heap.size ≤ q) b := Nat.not_le.mpr hbl
  refine lv_iload_n hx hb dL_law_18 rfl (lv_at hl 0 rfl) ?_
  refine lv_aload_n hx hb dL_law_19 rfl (lv_at hl 3 rfl) ?_
  refine va_slen hx hb hX hbl hbA hS dL_law_20 ?_
  refine lv_iconst (v := 4) hx hb dL_law_21 (by decide) ?_
  refine lv_isub hx hb dL_law_22 ?_
  refine lv_icmp_gt (tgt := 556) hx hb dL_law_23 (by decide) (fun c1 => ?_) (fun c1 => ?_)
  · refine lv_iconst (v := 1) hx hb dL_law_556 (by decide) ?_
    refine va_forget (fun q hq => hS.2.2 q hq) ?_
    refine W.widen (k := 645966) (n := 7164351) (Nat.le_of_ble_eq_true rfl) (Nat.le_of_ble_eq_true rfl) ?_
    exact lw_ret hx hb hr hlocks dL_law_557
  · have hi4 : 4 * i + 4 ≤ L := by
      rw [Int32.lt_iff_toInt_lt, show (Int32.ofNat L - 4 : Int32).toInt = (L : Int) - 4 from lw_sub4 L (by omega), nI_toInt (by omega)] at c1
      omega
    refine lv_aload_n hx hb dL_law_26 rfl (lv_at hl 3 rfl) ?_
    refine lv_iload_n hx hb dL_law_27 rfl (lv_at hl 0 rfl) ?_
    refine va_sld hx hb hX hbl hbA hS (lw_in0 hi4 hL) dL_law_28 ?_
    refine lv_bipush (v := 31) hx hb dL_law_29 (by decide) ?_
    refine lv_iand hx hb dL_law_31 ?_
    generalize (xs (nI (4 * i)).toNatClampNeg &&& 31) = w
    rcases vz_tab w 0 19 with c2 | c2
    · refine lv_tableOut (tgt := 550) hx hb dL_law_32 c2 (by decide) ?_
      exact K hi4 _ _ Wd.more hS
    · obtain ⟨h1, h2⟩ := c2
      rcases (show (w : Int32).toInt = 0 ∨ (w : Int32).toInt = 1 ∨ (w : Int32).toInt = 2 ∨ (w : Int32).toInt = 3 ∨ (w : Int32).toInt = 4 ∨ (w : Int32).toInt = 5 ∨ (w : Int32).toInt = 6 ∨ (w : Int32).toInt = 7 ∨ (w : Int32).toInt = 8 ∨ (w : Int32).toInt = 9 ∨ (w : Int32).toInt = 10 ∨ (w : Int32).toInt = 11 ∨ (w : Int32).toInt = 12 ∨ (w : Int32).toInt = 13 ∨ (w : Int32).toInt = 14 ∨ (w : Int32).toInt = 15 ∨ (w : Int32).toInt = 16 ∨ (w : Int32).toInt = 17 ∨ (w : Int32).toInt = 18 ∨ (w : Int32).toInt = 19 by omega) with c2 | c2 | c2 | c2 | c2 | c2 | c2 | c2 | c2 | c2 | c2 | c2 | c2 | c2 | c2 | c2 | c2 | c2 | c2 | c2
      · refine lv_tableIn (tgt := 128) (off := 96) hx hb dL_law_32 h1 h2 (by rw [c2]; rfl) (by decide) ?_
        exact lw_letter C0 hZ hT hL hi4 Wd hS hl (K hi4)
      · refine lv_tableIn (tgt := 151) (off := 119) hx hb dL_law_32 h1 h2 (by rw [c2]; rfl) (by decide) ?_
        exact lw_blank C0 hZ hT hL hi4 Wd hS hl (K hi4)
      · refine lv_tableIn (tgt := 164) (off := 132) hx hb dL_law_32 h1 h2 (by rw [c2]; rfl) (by decide) ?_
        exact lw_fault C0 hZ hT hL hi4 Wd hS hl (K hi4)
      · refine lv_tableIn (tgt := 177) (off := 145) hx hb dL_law_32 h1 h2 (by rw [c2]; rfl) (by decide) ?_
        exact lw_player C0 hZ hT hL hi4 Wd hS hl (K hi4)
      · refine lv_tableIn (tgt := 190) (off := 158) hx hb dL_law_32 h1 h2 (by rw [c2]; rfl) (by decide) ?_
        exact lw_song C0 hZ hT hL hi4 Wd hS hl (K hi4)
      · refine lv_tableIn (tgt := 223) (off := 191) hx hb dL_law_32 h1 h2 (by rw [c2]; rfl) (by decide) ?_
        exact lw_as C0 hZ hT hL hi4 Wd hS hl (K hi4)
      · refine lv_tableIn (tgt := 256) (off := 224) hx hb dL_law_32 h1 h2 (by rw [c2]; rfl) (by decide) ?_
        exact lw_rule C0 hZ hT hL hi4 Wd hS hl (K hi4)
      · refine lv_tableIn (tgt := 279) (off := 247) hx hb dL_law_32 h1 h2 (by rw [c2]; rfl) (by decide) ?_
        exact lw_play C0 hZ hT hL hi4 Wd hS hl (K hi4)
      · refine lv_tableIn (tgt := 302) (off := 270) hx hb dL_law_32 h1 h2 (by rw [c2]; rfl) (by decide) ?_
        exact lw_skip C0 hZ hT hL hi4 Wd hS hl (K hi4)
      · refine lv_tableIn (tgt := 315) (off := 283) hx hb dL_law_32 h1 h2 (by rw [c2]; rfl) (by decide) ?_
        exact lw_twice C0 hZ hT hL hi4 Wd hS hl (K hi4)
      · refine lv_tableIn (tgt := 349) (off := 317) hx hb dL_law_32 h1 h2 (by rw [c2]; rfl) (by decide) ?_
        exact lw_party C0 hZ hT hL hi4 Wd hS hl (K hi4)
      · refine lv_tableIn (tgt := 382) (off := 350) hx hb dL_law_32 h1 h2 (by rw [c2]; rfl) (by decide) ?_
        exact lw_hear C0 hZ hT hL hi4 Wd hS hl (K hi4)
      · refine lv_tableIn (tgt := 405) (off := 373) hx hb dL_law_32 h1 h2 (by rw [c2]; rfl) (by decide) ?_
        exact lw_forget C0 hZ hT hL hi4 Wd hS hl (K hi4)
      · refine lv_tableIn (tgt := 418) (off := 386) hx hb dL_law_32 h1 h2 (by rw [c2]; rfl) (by decide) ?_
        exact lw_rules C0 hZ hT hL hi4 Wd hS hl (K hi4)
      · refine lv_tableIn (tgt := 431) (off := 399) hx hb dL_law_32 h1 h2 (by rw [c2]; rfl) (by decide) ?_
        exact lw_likely C0 hZ hT hL hi4 Wd hS hl (K hi4)
      · refine lv_tableIn (tgt := 444) (off := 412) hx hb dL_law_32 h1 h2 (by rw [c2]; rfl) (by decide) ?_
        exact lw_evenings C0 hZ hT hL hi4 Wd hS hl (K hi4)
      · refine lv_tableIn (tgt := 487) (off := 455) hx hb dL_law_32 h1 h2 (by rw [c2]; rfl) (by decide) ?_
        exact lw_image C0 hZ hT hL hi4 Wd hS hl (K hi4)
      · refine lv_tableIn (tgt := 500) (off := 468) hx hb dL_law_32 h1 h2 (by rw [c2]; rfl) (by decide) ?_
        exact lw_restore C0 hZ hT hL hi4 Wd hS hl (K hi4)
      · refine lv_tableIn (tgt := 513) (off := 481) hx hb dL_law_32 h1 h2 (by rw [c2]; rfl) (by decide) ?_
        exact lw_count C0 hZ hT hL hi4 Wd hS hl (K hi4)
      · refine lv_tableIn (tgt := 536) (off := 504) hx hb dL_law_32 h1 h2 (by rw [c2]; rfl) (by decide) ?_
        exact lw_digest C0 hZ hT hL hi4 Wd hS hl (K hi4)
set_option maxHeartbeats 4000000 in
set_option maxRecDepth 100000 in
theorem lw_loop {p : Program} {l : Launch} {e : Env} {s : State} {m : MethodId} {below : List Frame} {meth : Method} {c : Code} {b L : Nat} {xs : Nat → Int32} {D : va_G} {cI : ClassId} {sa va : Nat} {h g : Nat → Nat} (C0 : lw_At p s m meth c b L xs) (hZ : zK D cI s) (hT : zS sa va (fun q : Nat => s.heap.size ≤ q) s s.heap) (hL : L ≤ 256) : ∀ (n i : Nat), i + n = 64 → ∀ (H : Heap) (locs : List Loc), zWd D cI h g (fun q : Nat => s.heap.size ≤ q) i H → va_S (fun q : Nat => s.heap.size ≤ q) s.heap H locs → ∀ ls : Array Slot, lv_has ls 4 [(3, .int (nI (4 * i))), (2, .ref (g 0)), (1, .ref (h 0)), (0, .ref b)] → W p l e room_1 s m #[Value.ref b] below meth c H locs 44 294 (lw_Z below #[Value.ref b] s) (F0 m 18 ls []) := by
  intro n
  induction n with
  | zero =>
    intro i hin H locs Wd hS ls hl
    exact lw_head C0 hZ hT hL (by omega) Wd hS hl (fun q => absurd q (by omega))
  | succ n ih =>
    intro i hin H locs Wd hS ls hl
    refine lw_head C0 hZ hT hL (by omega) Wd hS hl (fun _ H1 locs1 Wd1 hS1 => ?_)
    obtain ⟨hx, hb, hr, hml, hown, hts0, hX, hbl, hlocks, hgv⟩ := id C0
    refine lv_iinc (v := nI (4 * (i + 1))) (lv' := [(3, .int (nI (4 * (i + 1)))), (2, .ref (g 0)), (1, .ref (h 0)), (0, .ref b)]) hx hb dL_law_550 hl (k := 0) rfl (vz_inc4 (4 * i)) (by decide) rfl (fun ls hl => ?_)
    refine lv_goto (tgt := 18) hx hb dL_law_553 (by decide) ?_
    exact ih (i + 1) (by omega) H1 locs1 Wd1 hS1 ls hl

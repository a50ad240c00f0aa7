/-! the one text, "slhna": what is known of it, and the calls that read it -/
def zBy (j : Nat) : Int32 := [115, 108, 104, 110, 97].getD j 0
def zS (sa va : Nat) (A : Nat → Prop) (U : State) (H : Heap) : Prop := va_Z "java/lang/String" "COMPACT_STRINGS" "Z" (.int 1) A U H ∧ vk_R "SongsAgain$Page" 39 "slhna" sa U ∧ va_O "java/lang/String" sa A U H ∧ va_OF "java/lang/String" "coder" "B" (.int 0) sa A U H ∧ va_OF "java/lang/String" "value" "[B" (.ref va) sa A U H ∧ va_T .byte va 5 (fun j => .int (zBy j)) A U H
theorem zS.warm {sa va : Nat} {A : Nat → Prop} {s U : State} {H : Heap} (hW : s.WarmedH U.vm) (hH : U.heap = H) (h : zS sa va A s H) : zS sa va A U U.heap := by
  obtain ⟨h1, h2, h3, h4, h5, h6⟩ := h
  rw [hH]
  exact ⟨h1.moved hW.alike, h2.warm hW, h3.moved hW.alike, h4.moved hW.alike, h5.moved hW.alike, h6.moved hW.alike⟩
theorem zS.call {sa va : Nat} {A : Nat → Prop} {U : State} {g : JFrame} {mk : MethodId} {a : Array Value} (h : zS sa va A U U.heap) : zS sa va A (U.calling g mk a) (U.calling g mk a).heap := by
  obtain ⟨h1, h2, h3, h4, h5, h6⟩ := h
  have e : U.vm.Alike (U.calling g mk a).vm := Vm.Alike.refl U.vm
  exact ⟨va_Z.moved e h1, vk_R.same (u := U) rfl h2, va_O.moved e h3, va_OF.moved e h4, va_OF.moved e h5, va_T.moved e h6⟩
theorem zS.narrow {sa va : Nat} {A B : Nat → Prop} {U : State} {H : Heap} (hAB : ∀ q, B q → A q) (h : zS sa va A U H) : zS sa va B U H := by
  obtain ⟨h1, h2, h3, h4, h5, h6⟩ := h
  exact ⟨h1.narrow hAB, h2, h3.narrow hAB, h4.narrow hAB, h5.narrow hAB, h6.narrow hAB⟩
theorem zS.kept {sa va : Nat} {A : Nat → Prop} {U : State} {H H1 : Heap} (hq : ∀ a : Nat, a < H.size → ¬ A a → H1[a]? = H[a]?) (h : zS sa va A U H) : zS sa va A U H1 := by
  obtain ⟨h1, h2, h3, h4, h5, h6⟩ := h
  exact ⟨h1.kept hq, h2, h3.kept hq, h4.kept hq, h5.kept hq, h6.kept hq⟩
def vz_sts (sa va : Nat) (av : List Value) : Array Value → State → Prop := va_Pc av (fun U => zS sa va (fun _ => False) U U.heap)
def vz_ros (D : va_G) (cI : ClassId) (ws : va_W) (sa va : Nat) (av : List Value) : Array Value → State → Prop := va_Pc av (fun U => va_P D vwCl ws U.heap ∧ zK D cI U ∧ zS sa va (fun _ => False) U U.heap)
def vz_rws (D : va_G) (cI : ClassId) (ws : va_W) (sz sa va : Nat) (av : List Value) : Array Value → State → Prop := va_Pc av (fun U => U.heap.size = sz ∧ va_P D vwCl ws U.heap ∧ zK D cI U ∧ va_D (fun _ => True) ws ∧ zS sa va (va_A ws sz) U U.heap)
theorem zS_recv {sa va : Nat} {A : Nat → Prop} {s : State} {H : Heap} (h : zS sa va A s H) : ∃ cellB : Cell, H[sa]? = some cellB ∧ cellB.vm.isStatics = false ∧ s.vm.findClass RJ0 = some cellB.cls := by
  obtain ⟨c, h1, h2, h3, -⟩ := h.2.2.1
  exact ⟨c, h1, h2, h3⟩
theorem vz_sk {sa va : Nat} {A : Nat → Prop} {s : State} {H : Heap} {locs : List Loc} (h : zS sa va A s s.heap) (hS : va_S A s.heap H locs) : zS sa va (fun _ => False) s H := (h.kept (fun a h1 h2 => hS.2.1 a h1 h2)).narrow (fun _ h => h.elim)
theorem vz_pvSs {sa va : Nat} {s : State} {H : Heap} {C : String} {b : Addr} {As : List Value} (hr : ∃ cellB : Cell, H[b]? = some cellB ∧ cellB.vm.isStatics = false ∧ s.vm.findClass C = some cellB.cls) (hT : zS sa va (fun _ => False) s H) : PreV s H C b (vz_sts sa va (.ref b :: As)) As :=
  ⟨fun a U g mk q => ⟨q.1, q.2.call⟩, hr, fun U hU hW => ⟨rfl, hT.warm hW hU⟩⟩
theorem vz_psSs {sa va : Nat} {s : State} {H : Heap} {As : List Value} (hT : zS sa va (fun _ => False) s H) : PreS s H (vz_sts sa va As) As :=
  ⟨fun a U g mk q => ⟨q.1, q.2.call⟩, fun U hU hW => ⟨rfl, hT.warm hW hU⟩⟩
theorem vz_pvRs {sa va : Nat} {D : va_G} {cI : ClassId} {ws : va_W} {s : State} {H : Heap} {C : String} {b : Addr} {As : List Value} (hr : ∃ cellB : Cell, H[b]? = some cellB ∧ cellB.vm.isStatics = false ∧ s.vm.findClass C = some cellB.cls) (hK : zK D cI s) (hP : va_P D vwCl ws H) (hT : zS sa va (fun _ => False) s H) : PreV s H C b (vz_ros D cI ws sa va (.ref b :: As)) As :=
  ⟨fun a U g mk q => ⟨q.1, q.2.1, q.2.2.1.call, q.2.2.2.call⟩, hr, fun U hU hW => ⟨rfl, by rw [hU]; exact hP, hK.warm hW, hT.warm hW hU⟩⟩
theorem vz_pvWs {sa va : Nat} {D : va_G} {cI : ClassId} {ws : va_W} {s : State} {H : Heap} {C : String} {b : Addr} {As : List Value} {A : Nat → Prop} {locs : List Loc} (hr : ∃ cellB : Cell, H[b]? = some cellB ∧ cellB.vm.isStatics = false ∧ s.vm.findClass C = some cellB.cls) (hK : zK D cI s) (hP : va_P D vwCl ws H) (hD : va_D A ws) (hT : zS sa va A s s.heap) (hS : va_S A s.heap H locs) (hF : ∀ q, va_A ws H.size q → A q) : PreV s H C b (vz_rws D cI ws H.size sa va (.ref b :: As)) As :=
  ⟨fun a U g mk q => ⟨q.1, q.2.1, q.2.2.1, q.2.2.2.1.call, q.2.2.2.2.1, q.2.2.2.2.2.call⟩, hr, fun U hU hW => ⟨rfl, by rw [hU], by rw [hU]; exact hP, hK.warm hW, hD.weaken (fun _ _ _ _ => trivial), ((hT.kept (fun a h1 h2 => hS.2.1 a h1 h2)).narrow hF).warm hW hU⟩⟩
def zCan (p : Int32) : Bool := if p < 0 then false else if 255 < p then false else true
def zi (c : Int32) : Nat → Nat → Int32
  | 0, _ => -1
  | d + 1, j => if zBy j = c then nI j else zi c d (j + 1)
def zIdx (p : Int32) : Int32 := if zCan p then zi (p.toInt8.toInt32) 5 0 else -1
def zch (c : Int32) : Int32 := (c.toUInt32 % 65536).toInt32
def pg_fits (f : Nat → Int32) (p s : Int32) : Bool := if s = -1 then (if p - p / 3 * 3 = 0 then (if zIdx (zch (rw_at 22 f p)) < 0 then false else true) else if p - p / 3 * 3 = 1 then pg_dig (rw_at 22 f p) 4 else pg_ends (rw_at 22 f p) (p / 3 + 1)) else if p = s + 1 then (if pg_dig (rw_at 22 f p) 4 then true else false) else false
def pg_ff (f : Nat → Int32) (len : Nat) : Nat → Nat → Int32 → Int32
  | 0, _, _ => nI len
  | d + 1, j, s => if pg_fits f (nI j) s then (if rw_at 22 f (nI j) = 59 then pg_ff f len d (j + 1) (nI j) else pg_ff f len d (j + 1) s) else nI j
def pg_first (f : Nat → Int32) (len : Nat) : Int32 := pg_ff f len len 0 (-1)
def pg_whole (f : Nat → Int32) (len : Nat) : Bool := if pg_first f len = nI len then (if rw_at 22 f (nI len - 2) = 59 then true else false) else false
def rd_f (g : Nat → Int32) (old : Nat → Int32) : Nat → Nat → Int32
  | 0 => old
  | j + 1 => rw_put 6 (rd_f g old j) (nI j) (g j)
def rd_k (f : Nat → Int32) (j : Nat) : Int32 := zIdx (zch (rw_at 22 f (3 * nI j)))
def rd_g (f : Nat → Int32) (j : Nat) : Int32 := rw_at 22 f (3 * nI j + 1) - 48
def rd_w (f : Nat → Int32) (j : Nat) : Int32 := bk_wof (zIdx (zch (rw_at 22 f (3 * nI j))))
def rd_m (f : Nat → Int32) (j : Nat) : Int32 := if zIdx (zch (rw_at 22 f (3 * nI j))) = 1 then 7 else 3

set_option maxHeartbeats 4000000 in
set_option maxRecDepth 100000 in
theorem c_J0_isLatin1_aae02 (l : Launch) (sa va : Nat) : Met l yJ0_isLatin1_aae02 wsJ0_isLatin1_aae02 ({ frames := 0, cells := 0, slots := 0, locals := 0 } : Room) (vz_sts sa va [.ref sa]) (vp_Si (fun r => r = 1)) 0 0 (fun _ => False) := by
  refine Met.ofW (cc := cJ0_isLatin1_aae02) (maxL := 1) (ret := (some .boolean)) (by decide) rfl ?_
  intro p e s m args below meth c s₁ B hml hv
  obtain ⟨rfl, hT⟩ := hv
  obtain ⟨hTc, hTr, hTo, hTk, hTv, hTb⟩ := id hT
  have hx := B.exec
  have hb := B.bytes
  have hr := B.returns
  have hts := atoms_spec (ws := wsJ0_isLatin1_aae02) B.pre
  have hown : s.vm.findClass RJ0 = some m.cls := findClass_of_methodNamed B.named
  have hlocks := B.notSynchronized
  have k15 := hts (.fieldLink RJ0 15 "java/lang/String" "coder" "B") (List.mem_of_getElem? (i := 2) rfl)
  have k38 := hts (.fieldLink RJ0 38 "java/lang/String" "COMPACT_STRINGS" "Z") (List.mem_of_getElem? (i := 1) rfl)
  have hl := lv_entry ([.ref sa]) (n := 1) (Nat.le_of_ble_eq_true rfl)
  rw [lg_entry_eq]
  generalize (lg_sl ([.ref sa]) ++ List.replicate (1 - (lg_sl ([.ref sa])).length) Slot.unset).toArray = ls at hl ⊢
  have hl : lv_has ls 1 [(0, .ref sa)] := hl
  refine va_gets hx hb hTc va_S.rf hown k38 (fun _ h9 => h9) dJ0_isLatin1_aae02_0 ?_
  refine lv_if_eq (tgt := 17) hx hb dJ0_isLatin1_aae02_3 (by decide) (fun c_3 => ?_) (fun c_3 => ?_)
  · skip
    exact absurd c_3 (by decide)
  · skip
    refine lv_aload_n hx hb dJ0_isLatin1_aae02_6 rfl (lv_at hl 0 rfl) ?_
    refine vk_getf hx hb hTk va_S.rf hown k15 (fun _ h9 => h9) dJ0_isLatin1_aae02_7 ?_
    refine lv_if_ne (tgt := 17) hx hb dJ0_isLatin1_aae02_10 (by decide) (fun c_10 => ?_) (fun c_10 => ?_)
    · skip
      exact absurd (by decide) c_10
    · skip
      refine lv_iconst (v := 1) hx hb dJ0_isLatin1_aae02_13 (by decide) ?_
      refine lv_goto (tgt := 18) hx hb dJ0_isLatin1_aae02_14 (by decide) ?_
      exact W.zret hx hb hr narrow_b1 (fun t ht hW => ⟨_, rfl, (by first | rfl | (rfl; done) | (rfl; rfl) | (rfl; done) | (rfl; rfl) | (simp; done)), ht⟩) (fun q h => absurd h List.not_mem_nil) dJ0_isLatin1_aae02_18
set_option maxHeartbeats 4000000 in
set_option maxRecDepth 100000 in
theorem c_J0_coder_7d493 (l : Launch) (sa va : Nat) : Met l yJ0_coder_7d493 wsJ0_coder_7d493 ({ frames := 0, cells := 0, slots := 0, locals := 0 } : Room) (vz_sts sa va [.ref sa]) (vp_Si (fun r => r = 0)) 0 0 (fun _ => False) := by
  refine Met.ofW (cc := cJ0_coder_7d493) (maxL := 1) (ret := (some .byte)) (by decide) rfl ?_
  intro p e s m args below meth c s₁ B hml hv
  obtain ⟨rfl, hT⟩ := hv
  obtain ⟨hTc, hTr, hTo, hTk, hTv, hTb⟩ := id hT
  have hx := B.exec
  have hb := B.bytes
  have hr := B.returns
  have hts := atoms_spec (ws := wsJ0_coder_7d493) B.pre
  have hown : s.vm.findClass RJ0 = some m.cls := findClass_of_methodNamed B.named
  have hlocks := B.notSynchronized
  have k15 := hts (.fieldLink RJ0 15 "java/lang/String" "coder" "B") (List.mem_of_getElem? (i := 2) rfl)
  have k38 := hts (.fieldLink RJ0 38 "java/lang/String" "COMPACT_STRINGS" "Z") (List.mem_of_getElem? (i := 1) rfl)
  have hl := lv_entry ([.ref sa]) (n := 1) (Nat.le_of_ble_eq_true rfl)
  rw [lg_entry_eq]
  generalize (lg_sl ([.ref sa]) ++ List.replicate (1 - (lg_sl ([.ref sa])).length) Slot.unset).toArray = ls at hl ⊢
  have hl : lv_has ls 1 [(0, .ref sa)] := hl
  refine va_gets hx hb hTc va_S.rf hown k38 (fun _ h9 => h9) dJ0_coder_7d493_0 ?_
  refine lv_if_eq (tgt := 13) hx hb dJ0_coder_7d493_3 (by decide) (fun c_3 => ?_) (fun c_3 => ?_)
  · skip
    exact absurd c_3 (by decide)
  · skip
    refine lv_aload_n hx hb dJ0_coder_7d493_6 rfl (lv_at hl 0 rfl) ?_
    refine vk_getf hx hb hTk va_S.rf hown k15 (fun _ h9 => h9) dJ0_coder_7d493_7 ?_
    refine lv_goto (tgt := 14) hx hb dJ0_coder_7d493_10 (by decide) ?_
    exact W.zret hx hb hr rfl (fun t ht hW => ⟨_, rfl, (by first | rfl | (rfl; done) | (rfl; rfl) | (rfl; done) | (rfl; rfl) | (simp; done)), ht⟩) (fun q h => absurd h List.not_mem_nil) dJ0_coder_7d493_14
set_option maxHeartbeats 4000000 in
set_option maxRecDepth 100000 in
theorem c_J0_length_8abf5 (l : Launch) (sa va : Nat) : Met l yJ0_length_8abf5 wsJ0_length_8abf5 ({ frames := 1, cells := 0, slots := 0, locals := 20 } : Room) (vz_sts sa va [.ref sa]) (vp_Si (fun r => r = 5)) 0 0 (fun _ => False) := by
  refine Met.ofW (cc := cJ0_length_8abf5) (maxL := 1) (ret := (some .int)) (by decide) rfl ?_
  intro p e s m args below meth c s₁ B hml hv
  obtain ⟨rfl, hT⟩ := hv
  obtain ⟨hTc, hTr, hTo, hTk, hTv, hTb⟩ := id hT
  have hx := B.exec
  have hb := B.bytes
  have hr := B.returns
  have hts := atoms_spec (ws := wsJ0_length_8abf5) B.pre
  have hown : s.vm.findClass RJ0 = some m.cls := findClass_of_methodNamed B.named
  have hlocks := B.notSynchronized
  have k9 := hts (.fieldLink RJ0 9 "java/lang/String" "value" "[B") (List.mem_of_getElem? (i := 1) rfl)
  have hl := lv_entry ([.ref sa]) (n := 1) (Nat.le_of_ble_eq_true rfl)
  rw [lg_entry_eq]
  generalize (lg_sl ([.ref sa]) ++ List.replicate (1 - (lg_sl ([.ref sa])).length) Slot.unset).toArray = ls at hl ⊢
  have hl : lv_has ls 1 [(0, .ref sa)] := hl
  refine lv_aload_n hx hb dJ0_length_8abf5_0 rfl (lv_at hl 0 rfl) ?_
  refine vk_getf hx hb hTv va_S.rf hown k9 (fun _ h9 => h9) dJ0_length_8abf5_1 ?_
  refine va_tlen (v := 5) hx hb hTb va_S.rf rfl dJ0_length_8abf5_4 ?_
  refine lv_aload_n hx hb dJ0_length_8abf5_5 rfl (lv_at hl 0 rfl) ?_
  refine vp_callSi (W.runV (As := []) (rest := [.int 5]) ⟨hx, hb, hml, hown, hts⟩ (c_J0_coder_7d493 l sa va) (cwV 0 hts gJ0_length_8abf5_J0_coder_7d493 rfl rfl rfl (by decide +kernel) ⟨Nat.le_of_ble_eq_true rfl, Nat.le_of_ble_eq_true rfl⟩) (vz_pvSs (zS_recv hT) hT) rfl rfl hl.1 rfl (lv_room (Nat.le_of_ble_eq_true rfl)) dJ0_length_8abf5_6 ⟨Nat.zero_le _, Nat.zero_le _⟩) (fun r_6 hr_6 => ?_)
  subst hr_6
  refine lv_ishr hx hb dJ0_length_8abf5_9 ?_
  exact W.iret hx hb hr (fun t ht hW => ⟨_, rfl, (by first | rfl | (rfl; done) | (rfl; rfl) | (rfl; done) | (rfl; rfl) | (simp; done) | (decide)), ht⟩) (fun q h => absurd h List.not_mem_nil) dJ0_length_8abf5_10
set_option maxHeartbeats 4000000 in
set_option maxRecDepth 100000 in
theorem c_J1_canEncode_9a6ad (l : Launch) (p0 : Int32) : Met l yJ1_canEncode_9a6ad wsJ1_canEncode_9a6ad ({ frames := 0, cells := 0, slots := 0, locals := 0 } : Room) (vz_st [.int p0]) (vp_Si (fun r => r = vz_b (zCan p0))) 0 0 (fun _ => False) := by
  refine Met.ofW (cc := cJ1_canEncode_9a6ad) (maxL := 1) (ret := (some .boolean)) (by decide) rfl ?_
  intro p e s m args below meth c s₁ B hml hv
  obtain ⟨rfl, -⟩ := hv
  have hx := B.exec
  have hb := B.bytes
  have hr := B.returns
  have hts := atoms_spec (ws := wsJ1_canEncode_9a6ad) B.pre
  have hown : s.vm.findClass RJ1 = some m.cls := findClass_of_methodNamed B.named
  have hlocks := B.notSynchronized
  have hl := lv_entry ([.int p0]) (n := 1) (Nat.le_of_ble_eq_true rfl)
  rw [lg_entry_eq]
  generalize (lg_sl ([.int p0]) ++ List.replicate (1 - (lg_sl ([.int p0])).length) Slot.unset).toArray = ls at hl ⊢
  have hl : lv_has ls 1 [(0, .int p0)] := hl
  refine lv_iload_n hx hb dJ1_canEncode_9a6ad_0 rfl (lv_at hl 0 rfl) ?_
  refine lv_if_lt (tgt := 15) hx hb dJ1_canEncode_9a6ad_1 (by decide) (fun c_1 => ?_) (fun c_1 => ?_)
  · skip
    refine lv_iconst (v := 0) hx hb dJ1_canEncode_9a6ad_15 (by decide) ?_
    exact W.zret hx hb hr narrow_b0 (fun t ht hW => ⟨_, rfl, (by first | rfl | (simp only [zCan, vz_b, if_pos c_1]; done) | (simp only [zCan, vz_b, if_pos c_1]; rfl) | (simp only [zCan, vz_b, c_1, ↓reduceIte, Bool.false_eq_true, if_true, if_false, reduceCtorEq, not_true_eq_false, not_false_eq_true, eq_self]; done) | (simp only [zCan, vz_b, c_1, ↓reduceIte, Bool.false_eq_true, if_true, if_false, reduceCtorEq, not_true_eq_false, not_false_eq_true, eq_self]; rfl) | (simp [zCan, vz_b, c_1]; done)), ht⟩) (fun q h => absurd h List.not_mem_nil) dJ1_canEncode_9a6ad_16
  · skip
    refine lv_iload_n hx hb dJ1_canEncode_9a6ad_4 rfl (lv_at hl 0 rfl) ?_
    refine lv_sipush (v := 255) hx hb dJ1_canEncode_9a6ad_5 (by decide) ?_
    refine lv_icmp_gt (tgt := 15) hx hb dJ1_canEncode_9a6ad_8 (by decide) (fun c_8 => ?_) (fun c_8 => ?_)
    · skip
      refine lv_iconst (v := 0) hx hb dJ1_canEncode_9a6ad_15 (by decide) ?_
      exact W.zret hx hb hr narrow_b0 (fun t ht hW => ⟨_, rfl, (by first | rfl | (simp only [zCan, vz_b, if_neg c_1, if_pos c_8]; done) | (simp only [zCan, vz_b, if_neg c_1, if_pos c_8]; rfl) | (simp only [zCan, vz_b, c_1, c_8, ↓reduceIte, Bool.false_eq_true, if_true, if_false, reduceCtorEq, not_true_eq_false, not_false_eq_true, eq_self]; done) | (simp only [zCan, vz_b, c_1, c_8, ↓reduceIte, Bool.false_eq_true, if_true, if_false, reduceCtorEq, not_true_eq_false, not_false_eq_true, eq_self]; rfl) | (simp [zCan, vz_b, c_1, c_8]; done)), ht⟩) (fun q h => absurd h List.not_mem_nil) dJ1_canEncode_9a6ad_16
    · skip
      refine lv_iconst (v := 1) hx hb dJ1_canEncode_9a6ad_11 (by decide) ?_
      refine lv_goto (tgt := 16) hx hb dJ1_canEncode_9a6ad_12 (by decide) ?_
      exact W.zret hx hb hr narrow_b1 (fun t ht hW => ⟨_, rfl, (by first | rfl | (simp only [zCan, vz_b, if_neg c_1, if_neg c_8]; done) | (simp only [zCan, vz_b, if_neg c_1, if_neg c_8]; rfl) | (simp only [zCan, vz_b, c_1, c_8, ↓reduceIte, Bool.false_eq_true, if_true, if_false, reduceCtorEq, not_true_eq_false, not_false_eq_true, eq_self]; done) | (simp only [zCan, vz_b, c_1, c_8, ↓reduceIte, Bool.false_eq_true, if_true, if_false, reduceCtorEq, not_true_eq_false, not_false_eq_true, eq_self]; rfl) | (simp [zCan, vz_b, c_1, c_8]; done)), ht⟩) (fun q h => absurd h List.not_mem_nil) dJ1_canEncode_9a6ad_16
set_option maxHeartbeats 4000000 in
set_option maxRecDepth 100000 in
theorem c_J1_indexOfChar_4cfef (l : Launch) (sa va : Nat) (p1 : Int32) : Met l yJ1_indexOfChar_4cfef wsJ1_indexOfChar_4cfef ({ frames := 0, cells := 0, slots := 0, locals := 0 } : Room) (vz_sts sa va [.ref va, .int p1, .int 0, .int 5]) (vp_Si (fun r => r = zi ((p1 : Int32).toInt8.toInt32) 5 0)) 0 0 (fun _ => False) := by
  refine Met.ofW (cc := cJ1_indexOfChar_4cfef) (maxL := 6) (ret := (some .int)) (by decide) rfl ?_
  intro p e s m args below meth c s₁ B hml hv
  obtain ⟨rfl, hT⟩ := hv
  obtain ⟨hTc, hTr, hTo, hTk, hTv, hTb⟩ := id hT
  have hx := B.exec
  have hb := B.bytes
  have hr := B.returns
  have hts := atoms_spec (ws := wsJ1_indexOfChar_4cfef) B.pre
  have hown : s.vm.findClass RJ1 = some m.cls := findClass_of_methodNamed B.named
  have hlocks := B.notSynchronized
  have hl := lv_entry ([.ref va, .int p1, .int 0, .int 5]) (n := 6) (Nat.le_of_ble_eq_true rfl)
  rw [lg_entry_eq]
  generalize (lg_sl ([.ref va, .int p1, .int 0, .int 5]) ++ List.replicate (6 - (lg_sl ([.ref va, .int p1, .int 0, .int 5])).length) Slot.unset).toArray = ls at hl ⊢
  have hl : lv_has ls 6 [(0, .ref va), (1, .int p1), (2, .int 0), (3, .int 5)] := hl
  refine lv_iload_n hx hb dJ1_indexOfChar_4cfef_0 rfl (lv_at hl 1 rfl) ?_
  refine lv_i2b (v := (p1 : Int32).toInt8.toInt32) hx hb dJ1_indexOfChar_4cfef_1 rfl ?_
  refine lv_istore (lv' := [(4, .int ((p1 : Int32).toInt8.toInt32)), (0, .ref va), (1, .int p1), (2, .int 0), (3, .int 5)]) hx hb dJ1_indexOfChar_4cfef_2 hl (by decide) rfl (fun ls hl => ?_)
  refine lv_iload_n hx hb dJ1_indexOfChar_4cfef_4 rfl (lv_at hl 3 rfl) ?_
  refine lv_istore (lv' := [(5, .int 0), (4, .int ((p1 : Int32).toInt8.toInt32)), (0, .ref va), (1, .int p1), (2, .int 0), (3, .int 5)]) hx hb dJ1_indexOfChar_4cfef_5 hl (by decide) rfl (fun ls hl => ?_)
  have L_7 : ∀ (d_7 : Nat) (j : Nat), 5 - j < d_7 → (j ≤ 5) → (zi ((p1 : Int32).toInt8.toInt32) 5 0 = zi ((p1 : Int32).toInt8.toInt32) (5 - j) j) → ∀ (ls : Array Slot), lv_has ls 6 [(5, .int (nI j)), (4, .int ((p1 : Int32).toInt8.toInt32)), (0, .ref va), (1, .int p1), (2, .int 0), (3, .int 5)] → W p l e ({ frames := 0, cells := 0, slots := 0, locals := 0 } : Room) s m ([.ref va, .int p1, .int 0, .int 5] : List Value).toArray below meth c s.heap [] 0 0 (MQ below (vp_Si (fun r => r = zi ((p1 : Int32).toInt8.toInt32) 5 0)) ([.ref va, .int p1, .int 0, .int 5] : List Value).toArray s 0 0 (fun _ => False)) (F0 m 7 ls []) := by
    intro d_7
    induction d_7 with
    | zero => intro j hd; exact absurd hd (Nat.not_lt_zero _)
    | succ d_7 ih_7 =>
      intro j hd_7 hj hres ls hl
      refine lv_iload hx hb dJ1_indexOfChar_4cfef_7 (lv_at hl 0 rfl) ?_
      refine lv_iload_n hx hb dJ1_indexOfChar_4cfef_9 rfl (lv_at hl 5 rfl) ?_
      refine lv_icmp_ge (tgt := 31) hx hb dJ1_indexOfChar_4cfef_10 (by decide) (fun c_10 => ?_) (fun c_10 => ?_)
      · skip
        have hje : j = 5 := Nat.le_antisymm hj (vz_ge (n := 5) c_10 (by omega) (by omega))
        refine lv_iconst (v := (-1)) hx hb dJ1_indexOfChar_4cfef_31 (by decide) ?_
        exact W.iret hx hb hr (fun t ht hW => ⟨_, rfl, (by rw [hres, show 5 - j = 0 by omega] ; rfl), ht⟩) (fun q h => absurd h List.not_mem_nil) dJ1_indexOfChar_4cfef_32
      · skip
        have hlt : j < 5 := vz_lt (n := 5) c_10 (by omega)
        refine lv_aload_n hx hb dJ1_indexOfChar_4cfef_13 rfl (lv_at hl 2 rfl) ?_
        refine lv_iload hx hb dJ1_indexOfChar_4cfef_14 (lv_at hl 0 rfl) ?_
        refine va_tb hx hb hTb va_S.rf (i := nI j) (v := .int (zBy j)) (vp_in_nI (by omega) (by omega)) (by rw [nI_clamp (by omega)]) dJ1_indexOfChar_4cfef_16 ?_
        refine lv_iload hx hb dJ1_indexOfChar_4cfef_17 (lv_at hl 1 rfl) ?_
        refine lv_icmp_ne (tgt := 25) hx hb dJ1_indexOfChar_4cfef_19 (by decide) (fun c_19 => ?_) (fun c_19 => ?_)
        · skip
          refine lv_iinc (v := nI (j + 1)) (lv' := [(5, .int (nI (j + 1))), (4, .int ((p1 : Int32).toInt8.toInt32)), (0, .ref va), (1, .int p1), (2, .int 0), (3, .int 5)]) hx hb dJ1_indexOfChar_4cfef_25 hl (k := 0) rfl (vz_inc _) (by decide) rfl (fun ls hl => ?_)
          refine lv_goto (tgt := 7) hx hb dJ1_indexOfChar_4cfef_28 (by decide) ?_
          exact ih_7 (j + 1) (by omega) (by omega) (by rw [hres, show 5 - j = (5 - (j + 1)) + 1 by omega] ; simp only [zi, c_10, c_19, ↓reduceIte]) ls (lv_sub hl [0, 1, 2, 3, 4, 5] rfl)
        · skip
          refine lv_iload hx hb dJ1_indexOfChar_4cfef_22 (lv_at hl 0 rfl) ?_
          exact W.iret hx hb hr (fun t ht hW => ⟨_, rfl, (by rw [hres, show 5 - j = (5 - (j + 1)) + 1 by omega] ; simp only [zi, c_19, ↓reduceIte]), ht⟩) (fun q h => absurd h List.not_mem_nil) dJ1_indexOfChar_4cfef_24
  exact L_7 _ 0 (Nat.lt_succ_self _) (Nat.zero_le _) rfl ls (lv_sub hl [0, 1, 2, 3, 4, 5] rfl)
set_option maxHeartbeats 4000000 in
set_option maxRecDepth 100000 in
theorem c_J1_indexOf_4cfef (l : Launch) (sa va : Nat) (p1 : Int32) : Met l yJ1_indexOf_4cfef wsJ1_indexOf_4cfef ({ frames := 1, cells := 0, slots := 0, locals := 40 } : Room) (vz_sts sa va [.ref va, .int p1, .int 0, .int 5]) (vp_Si (fun r => r = zIdx p1)) 0 0 (fun _ => False) := by
  refine Met.ofW (cc := cJ1_indexOf_4cfef) (maxL := 4) (ret := (some .int)) (by decide) rfl ?_
  intro p e s m args below meth c s₁ B hml hv
  obtain ⟨rfl, hT⟩ := hv
  obtain ⟨hTc, hTr, hTo, hTk, hTv, hTb⟩ := id hT
  have hx := B.exec
  have hb := B.bytes
  have hr := B.returns
  have hts := atoms_spec (ws := wsJ1_indexOf_4cfef) B.pre
  have hown : s.vm.findClass RJ1 = some m.cls := findClass_of_methodNamed B.named
  have hlocks := B.notSynchronized
  have hl := lv_entry ([.ref va, .int p1, .int 0, .int 5]) (n := 4) (Nat.le_of_ble_eq_true rfl)
  rw [lg_entry_eq]
  generalize (lg_sl ([.ref va, .int p1, .int 0, .int 5]) ++ List.replicate (4 - (lg_sl ([.ref va, .int p1, .int 0, .int 5])).length) Slot.unset).toArray = ls at hl ⊢
  have hl : lv_has ls 4 [(0, .ref va), (1, .int p1), (2, .int 0), (3, .int 5)] := hl
  refine lv_iload_n hx hb dJ1_indexOf_4cfef_0 rfl (lv_at hl 1 rfl) ?_
  refine vp_callSi (W.runS (As := [.int p1]) (rest := []) ⟨hx, hb, hml, hown, hts⟩ (c_J1_canEncode_9a6ad l p1) (va_cwS 1 hts gJ1_indexOf_4cfef_J1_canEncode_9a6ad rfl rfl rfl (by decide +kernel) ⟨Nat.le_of_ble_eq_true rfl, Nat.le_of_ble_eq_true rfl⟩) (vz_psS) rfl rfl hl.1 rfl (lv_room (Nat.le_of_ble_eq_true rfl)) dJ1_indexOf_4cfef_1 ⟨Nat.zero_le _, Nat.zero_le _⟩) (fun r_1 hr_1 => ?_)
  subst hr_1
  refine lv_if_ne (tgt := 9) hx hb dJ1_indexOf_4cfef_4 (by decide) (fun c_4 => ?_) (fun c_4 => ?_)
  · skip
    replace c_4 := vz_b1 c_4
    refine lv_iload_n hx hb dJ1_indexOf_4cfef_9 rfl (lv_at hl 2 rfl) ?_
    refine lv_iconst (v := 0) hx hb dJ1_indexOf_4cfef_10 (by decide) ?_
    refine va_mmax hx hb (by rw [hml]; exact hl.1.symm) hown (hts (.methodLink RJ1 92 Lib.Math.max.name) (List.mem_of_getElem? (i := 1) rfl)) (hts (.static Lib.Math.max.name) (List.mem_of_getElem? (i := 2) rfl)) (hts (.initialized "java/lang/Math") (List.mem_of_getElem? (i := 3) rfl)) (hts (.code Lib.Math.max.name Lib.Math.max.code 2 (some .int)) (List.mem_of_getElem? (i := 4) rfl)) (Nat.le_of_ble_eq_true rfl) (Nat.le_of_ble_eq_true rfl) (Nat.zero_le _) (Nat.zero_le _) dJ1_indexOf_4cfef_11 ?_
    refine W.eq (congrArg (fun z => F0 m 14 ls (.int z :: [])) ((by decide : ((if 0 < 0 then 0 else 0) : Int32) = 0))) ?_
    refine lv_istore_n (lv' := [(2, .int 0), (0, .ref va), (1, .int p1), (3, .int 5)]) hx hb dJ1_indexOf_4cfef_14 rfl hl (by decide) rfl (fun ls hl => ?_)
    refine lv_iload_n hx hb dJ1_indexOf_4cfef_15 rfl (lv_at hl 3 rfl) ?_
    refine lv_aload_n hx hb dJ1_indexOf_4cfef_16 rfl (lv_at hl 1 rfl) ?_
    refine va_tlen (v := 5) hx hb hTb va_S.rf rfl dJ1_indexOf_4cfef_17 ?_
    refine va_mmin hx hb (by rw [hml]; exact hl.1.symm) hown (hts (.methodLink RJ1 38 Lib.Math.min.name) (List.mem_of_getElem? (i := 5) rfl)) (hts (.static Lib.Math.min.name) (List.mem_of_getElem? (i := 6) rfl)) (hts (.initialized "java/lang/Math") (List.mem_of_getElem? (i := 3) rfl)) (hts (.code Lib.Math.min.name Lib.Math.min.code 2 (some .int)) (List.mem_of_getElem? (i := 7) rfl)) (Nat.le_of_ble_eq_true rfl) (Nat.le_of_ble_eq_true rfl) (Nat.zero_le _) (Nat.zero_le _) dJ1_indexOf_4cfef_18 ?_
    refine W.eq (congrArg (fun z => F0 m 21 ls (.int z :: [])) ((by decide : ((if 5 < 5 then 5 else 5) : Int32) = 5))) ?_
    refine lv_istore_n (lv' := [(3, .int 5), (2, .int 0), (0, .ref va), (1, .int p1)]) hx hb dJ1_indexOf_4cfef_21 rfl hl (by decide) rfl (fun ls hl => ?_)
    refine lv_iload_n hx hb dJ1_indexOf_4cfef_22 rfl (lv_at hl 1 rfl) ?_
    refine lv_iload_n hx hb dJ1_indexOf_4cfef_23 rfl (lv_at hl 0 rfl) ?_
    refine lv_icmp_lt (tgt := 29) hx hb dJ1_indexOf_4cfef_24 (by decide) (fun c_24 => ?_) (fun c_24 => ?_)
    · skip
      refine lv_aload_n hx hb dJ1_indexOf_4cfef_29 rfl (lv_at hl 2 rfl) ?_
      refine lv_iload_n hx hb dJ1_indexOf_4cfef_30 rfl (lv_at hl 3 rfl) ?_
      refine lv_iload_n hx hb dJ1_indexOf_4cfef_31 rfl (lv_at hl 1 rfl) ?_
      refine lv_iload_n hx hb dJ1_indexOf_4cfef_32 rfl (lv_at hl 0 rfl) ?_
      refine vp_callSi (W.runS (As := [.ref va, .int p1, .int 0, .int 5]) (rest := []) ⟨hx, hb, hml, hown, hts⟩ (c_J1_indexOfChar_4cfef l sa va p1) (va_cwS 4 hts gJ1_indexOf_4cfef_J1_indexOfChar_4cfef rfl rfl rfl (by decide +kernel) ⟨Nat.le_of_ble_eq_true rfl, Nat.le_of_ble_eq_true rfl⟩) (vz_psSs hT) rfl rfl hl.1 rfl (lv_room (Nat.le_of_ble_eq_true rfl)) dJ1_indexOf_4cfef_33 ⟨Nat.zero_le _, Nat.zero_le _⟩) (fun r_33 hr_33 => ?_)
      subst hr_33
      exact W.iret hx hb hr (fun t ht hW => ⟨_, rfl, (by first | rfl | (simp only [zIdx]; done) | (simp only [zIdx]; rfl) | (simp only [zIdx, c_4, ↓reduceIte, Bool.false_eq_true, if_true, if_false, reduceCtorEq, not_true_eq_false, not_false_eq_true, eq_self]; done) | (simp only [zIdx, c_4, ↓reduceIte, Bool.false_eq_true, if_true, if_false, reduceCtorEq, not_true_eq_false, not_false_eq_true, eq_self]; rfl) | (simp [zIdx, c_4]; done)), ht⟩) (fun q h => absurd h List.not_mem_nil) dJ1_indexOf_4cfef_36
    · skip
      exact absurd (by decide) c_24
  · skip
    replace c_4 := vz_b0 c_4
    refine lv_iconst (v := (-1)) hx hb dJ1_indexOf_4cfef_7 (by decide) ?_
    exact W.iret hx hb hr (fun t ht hW => ⟨_, rfl, (by first | rfl | (simp only [zIdx]; done) | (simp only [zIdx]; rfl) | (simp only [zIdx, c_4, ↓reduceIte, Bool.false_eq_true, if_true, if_false, reduceCtorEq, not_true_eq_false, not_false_eq_true, eq_self]; done) | (simp only [zIdx, c_4, ↓reduceIte, Bool.false_eq_true, if_true, if_false, reduceCtorEq, not_true_eq_false, not_false_eq_true, eq_self]; rfl) | (simp [zIdx, c_4]; done)), ht⟩) (fun q h => absurd h List.not_mem_nil) dJ1_indexOf_4cfef_8
set_option maxHeartbeats 4000000 in
set_option maxRecDepth 100000 in
theorem c_J0_indexOf_7cf53 (l : Launch) (sa va : Nat) (p1 : Int32) : Met l yJ0_indexOf_7cf53 wsJ0_indexOf_7cf53 ({ frames := 2, cells := 0, slots := 0, locals := 63 } : Room) (vz_sts sa va [.ref sa, .int p1, .int 0]) (vp_Si (fun r => r = zIdx p1)) 0 0 (fun _ => False) := by
  refine Met.ofW (cc := cJ0_indexOf_7cf53) (maxL := 3) (ret := (some .int)) (by decide) rfl ?_
  intro p e s m args below meth c s₁ B hml hv
  obtain ⟨rfl, hT⟩ := hv
  obtain ⟨hTc, hTr, hTo, hTk, hTv, hTb⟩ := id hT
  have hx := B.exec
  have hb := B.bytes
  have hr := B.returns
  have hts := atoms_spec (ws := wsJ0_indexOf_7cf53) B.pre
  have hown : s.vm.findClass RJ0 = some m.cls := findClass_of_methodNamed B.named
  have hlocks := B.notSynchronized
  have k9 := hts (.fieldLink RJ0 9 "java/lang/String" "value" "[B") (List.mem_of_getElem? (i := 1) rfl)
  have hl := lv_entry ([.ref sa, .int p1, .int 0]) (n := 3) (Nat.le_of_ble_eq_true rfl)
  rw [lg_entry_eq]
  generalize (lg_sl ([.ref sa, .int p1, .int 0]) ++ List.replicate (3 - (lg_sl ([.ref sa, .int p1, .int 0])).length) Slot.unset).toArray = ls at hl ⊢
  have hl : lv_has ls 3 [(0, .ref sa), (1, .int p1), (2, .int 0)] := hl
  refine lv_aload_n hx hb dJ0_indexOf_7cf53_0 rfl (lv_at hl 0 rfl) ?_
  refine vp_callSi (W.runV (As := []) (rest := []) ⟨hx, hb, hml, hown, hts⟩ (c_J0_isLatin1_aae02 l sa va) (cwV 0 hts gJ0_indexOf_7cf53_J0_isLatin1_aae02 rfl rfl rfl (by decide +kernel) ⟨Nat.le_of_ble_eq_true rfl, Nat.le_of_ble_eq_true rfl⟩) (vz_pvSs (zS_recv hT) hT) rfl rfl hl.1 rfl (lv_room (Nat.le_of_ble_eq_true rfl)) dJ0_indexOf_7cf53_1 ⟨Nat.zero_le _, Nat.zero_le _⟩) (fun r_1 hr_1 => ?_)
  subst hr_1
  refine lv_if_eq (tgt := 23) hx hb dJ0_indexOf_7cf53_4 (by decide) (fun c_4 => ?_) (fun c_4 => ?_)
  · skip
    exact absurd c_4 (by decide)
  · skip
    refine lv_aload_n hx hb dJ0_indexOf_7cf53_7 rfl (lv_at hl 0 rfl) ?_
    refine vk_getf hx hb hTv va_S.rf hown k9 (fun _ h9 => h9) dJ0_indexOf_7cf53_8 ?_
    refine lv_iload_n hx hb dJ0_indexOf_7cf53_11 rfl (lv_at hl 1 rfl) ?_
    refine lv_iload_n hx hb dJ0_indexOf_7cf53_12 rfl (lv_at hl 2 rfl) ?_
    refine lv_aload_n hx hb dJ0_indexOf_7cf53_13 rfl (lv_at hl 0 rfl) ?_
    refine vp_callSi (W.runV (As := []) (rest := [.int 0, .int p1, .ref va]) ⟨hx, hb, hml, hown, hts⟩ (c_J0_length_8abf5 l sa va) (cwV 0 hts gJ0_indexOf_7cf53_J0_length_8abf5 rfl rfl rfl (by decide +kernel) ⟨Nat.le_of_ble_eq_true rfl, Nat.le_of_ble_eq_true rfl⟩) (vz_pvSs (zS_recv hT) hT) rfl rfl hl.1 rfl (lv_room (Nat.le_of_ble_eq_true rfl)) dJ0_indexOf_7cf53_14 ⟨Nat.zero_le _, Nat.zero_le _⟩) (fun r_14 hr_14 => ?_)
    subst hr_14
    refine vp_callSi (W.runS (As := [.ref va, .int p1, .int 0, .int 5]) (rest := []) ⟨hx, hb, hml, hown, hts⟩ (c_J1_indexOf_4cfef l sa va p1) (va_cwS 4 hts gJ0_indexOf_7cf53_J1_indexOf_4cfef rfl rfl rfl (by decide +kernel) ⟨Nat.le_of_ble_eq_true rfl, Nat.le_of_ble_eq_true rfl⟩) (vz_psSs hT) rfl rfl hl.1 rfl (lv_room (Nat.le_of_ble_eq_true rfl)) dJ0_indexOf_7cf53_17 ⟨Nat.zero_le _, Nat.zero_le _⟩) (fun r_17 hr_17 => ?_)
    subst hr_17
    refine lv_goto (tgt := 36) hx hb dJ0_indexOf_7cf53_20 (by decide) ?_
    exact W.iret hx hb hr (fun t ht hW => ⟨_, rfl, (by first | rfl | (rfl; done) | (rfl; rfl) | (rfl; done) | (rfl; rfl) | (simp; done)), ht⟩) (fun q h => absurd h List.not_mem_nil) dJ0_indexOf_7cf53_36
set_option maxHeartbeats 4000000 in
set_option maxRecDepth 100000 in
theorem c_J0_indexOf_0f7a4 (l : Launch) (sa va : Nat) (p1 : Int32) : Met l yJ0_indexOf_0f7a4 wsJ0_indexOf_0f7a4 ({ frames := 3, cells := 0, slots := 0, locals := 85 } : Room) (vz_sts sa va [.ref sa, .int p1]) (vp_Si (fun r => r = zIdx p1)) 0 0 (fun _ => False) := by
  refine Met.ofW (cc := cJ0_indexOf_0f7a4) (maxL := 2) (ret := (some .int)) (by decide) rfl ?_
  intro p e s m args below meth c s₁ B hml hv
  obtain ⟨rfl, hT⟩ := hv
  obtain ⟨hTc, hTr, hTo, hTk, hTv, hTb⟩ := id hT
  have hx := B.exec
  have hb := B.bytes
  have hr := B.returns
  have hts := atoms_spec (ws := wsJ0_indexOf_0f7a4) B.pre
  have hown : s.vm.findClass RJ0 = some m.cls := findClass_of_methodNamed B.named
  have hlocks := B.notSynchronized
  have hl := lv_entry ([.ref sa, .int p1]) (n := 2) (Nat.le_of_ble_eq_true rfl)
  rw [lg_entry_eq]
  generalize (lg_sl ([.ref sa, .int p1]) ++ List.replicate (2 - (lg_sl ([.ref sa, .int p1])).length) Slot.unset).toArray = ls at hl ⊢
  have hl : lv_has ls 2 [(0, .ref sa), (1, .int p1)] := hl
  refine lv_aload_n hx hb dJ0_indexOf_0f7a4_0 rfl (lv_at hl 0 rfl) ?_
  refine lv_iload_n hx hb dJ0_indexOf_0f7a4_1 rfl (lv_at hl 1 rfl) ?_
  refine lv_iconst (v := 0) hx hb dJ0_indexOf_0f7a4_2 (by decide) ?_
  refine vp_callSi (W.runV (As := [.int p1, .int 0]) (rest := []) ⟨hx, hb, hml, hown, hts⟩ (c_J0_indexOf_7cf53 l sa va p1) (cwV 2 hts gJ0_indexOf_0f7a4_J0_indexOf_7cf53 rfl rfl rfl (by decide +kernel) ⟨Nat.le_of_ble_eq_true rfl, Nat.le_of_ble_eq_true rfl⟩) (vz_pvSs (zS_recv hT) hT) rfl rfl hl.1 rfl (lv_room (Nat.le_of_ble_eq_true rfl)) dJ0_indexOf_0f7a4_3 ⟨Nat.zero_le _, Nat.zero_le _⟩) (fun r_3 hr_3 => ?_)
  subst hr_3
  exact W.iret hx hb hr (fun t ht hW => ⟨_, rfl, (by first | rfl | (rfl; done) | (rfl; rfl) | (rfl; done) | (rfl; rfl) | (simp; done)), ht⟩) (fun q h => absurd h List.not_mem_nil) dJ0_indexOf_0f7a4_6
set_option maxHeartbeats 4000000 in
set_option maxRecDepth 100000 in
theorem c_X3_fits (l : Launch) (D : va_G) (cI : ClassId) (a : Nat) (b : Nat) (q3 : Nat) (len : Nat) (f : Nat → Int32) (sa va : Nat) (p0 : Int32) (p1 : Int32) : Met l yX3_fits wsX3_fits ({ frames := 4, cells := 0, slots := 0, locals := 106 } : Room) (vz_ros D cI (zPage cI a b q3 len f) sa va [.ref a, .int p0, .int p1]) (vp_Si (fun r => r = vz_b (pg_fits f p0 p1))) 0 0 (fun _ => False) := by
  refine Met.ofW (cc := cX3_fits) (maxL := 4) (ret := (some .boolean)) (by decide) rfl ?_
  intro p e s m args below meth c s₁ B hml hv
  obtain ⟨rfl, hP, hZ, hT⟩ := hv
  obtain ⟨hK, hN⟩ := id hZ
  obtain ⟨hTc, hTr, hTo, hTk, hTv, hTb⟩ := id hT
  have hx := B.exec
  have hb := B.bytes
  have hr := B.returns
  have hts := atoms_spec (ws := wsX3_fits) B.pre
  have hown : s.vm.findClass RX3 = some m.cls := findClass_of_methodNamed B.named
  have hlocks := B.notSynchronized
  have k14 := hts (.fieldLink RX3 14 "SongsAgain$Page" "codes" "LSongsAgain$Row;") (List.mem_of_getElem? (i := 1) rfl)
  have iX3 : ∀ w ∈ u_ws RX3 TX3 2, w ∈ wsX3_fits := vz_in (i := 104) (n := 2) rfl
  have hl := lv_entry ([.ref a, .int p0, .int p1]) (n := 4) (Nat.le_of_ble_eq_true rfl)
  rw [lg_entry_eq]
  generalize (lg_sl ([.ref a, .int p0, .int p1]) ++ List.replicate (4 - (lg_sl ([.ref a, .int p0, .int p1])).length) Slot.unset).toArray = ls at hl ⊢
  have hl : lv_has ls 4 [(0, .ref a), (1, .int p0), (2, .int p1)] := hl
  refine lv_aload_n hx hb dX3_fits_0 rfl (lv_at hl 0 rfl) ?_
  refine va_get (D := D) (ci := 3) (v := .ref b) (C := RX3) (T := TX3) (N := 2) hx hb hts iX3 hown hK hP 0 rfl rfl 0 (by decide) k14 (fun _ h9 => h9) rfl dX3_fits_1 ?_
  refine lv_iload_n hx hb dX3_fits_4 rfl (lv_at hl 1 rfl) ?_
  refine vp_callSi (W.runV (As := [.int p0]) (rest := []) ⟨hx, hb, hml, hown, hts⟩ (c_X5_at l D cI b q3 22 f p0 (by decide)) (cwV 1 hts gX3_fits_X5_at rfl rfl rfl (by decide +kernel) ⟨Nat.le_of_ble_eq_true rfl, Nat.le_of_ble_eq_true rfl⟩) (vz_pvR (va_recv hK hP (ci := 5) (q0 := 1) rfl rfl) hZ (hP.sub (ws' := (zRow cI b q3 22 f)) [1, 2] rfl)) rfl rfl hl.1 rfl (lv_room (Nat.le_of_ble_eq_true rfl)) dX3_fits_5 ⟨Nat.zero_le _, Nat.zero_le _⟩) (fun r_5 hr_5 => ?_)
  subst hr_5
  refine lv_istore_n (lv' := [(3, .int (rw_at 22 f p0)), (0, .ref a), (1, .int p0), (2, .int p1)]) hx hb dX3_fits_8 rfl hl (by decide) rfl (fun ls hl => ?_)
  refine lv_iload_n hx hb dX3_fits_9 rfl (lv_at hl 3 rfl) ?_
  refine lv_iconst (v := (-1)) hx hb dX3_fits_10 (by decide) ?_
  refine lv_icmp_eq (tgt := 35) hx hb dX3_fits_11 (by decide) (fun c_11 => ?_) (fun c_11 => ?_)
  · skip
    refine lv_iload_n hx hb dX3_fits_35 rfl (lv_at hl 2 rfl) ?_
    refine lv_iconst (v := 3) hx hb dX3_fits_36 (by decide) ?_
    refine lv_irem hx hb dX3_fits_37 (by decide) ?_
    by_cases c_38_0 : (p0 - p0 / 3 * 3) = 0
    · skip
      refine lv_lookup (tgt := 64) (off := 26) hx hb dX3_fits_38 (by decide) (by rw [c_38_0]; decide) (by decide) ?_
      refine va_ldcS hx hb hown hTr dX3_fits_64 ?_
      refine lv_iload_n hx hb dX3_fits_66 rfl (lv_at hl 0 rfl) ?_
      refine lv_i2c (v := ((rw_at 22 f p0 : Int32).toUInt32 % 65536).toInt32) hx hb dX3_fits_67 rfl ?_
      refine vp_callSi (W.runV (As := [.int (((rw_at 22 f p0 : Int32).toUInt32 % 65536).toInt32)]) (rest := []) ⟨hx, hb, hml, hown, hts⟩ (c_J0_indexOf_0f7a4 l sa va (((rw_at 22 f p0 : Int32).toUInt32 % 65536).toInt32)) (cwV 1 hts gX3_fits_J0_indexOf_0f7a4 rfl rfl rfl (by decide +kernel) ⟨Nat.le_of_ble_eq_true rfl, Nat.le_of_ble_eq_true rfl⟩) (vz_pvSs (zS_recv hT) hT) rfl rfl hl.1 rfl (lv_room (Nat.le_of_ble_eq_true rfl)) dX3_fits_68 ⟨Nat.zero_le _, Nat.zero_le _⟩) (fun r_68 hr_68 => ?_)
      subst hr_68
      refine lv_if_lt (tgt := 78) hx hb dX3_fits_71 (by decide) (fun c_71 => ?_) (fun c_71 => ?_)
      · skip
        refine lv_iconst (v := 0) hx hb dX3_fits_78 (by decide) ?_
        exact W.zret hx hb hr narrow_b0 (fun t ht hW => ⟨_, rfl, (by first | rfl | (simp only [pg_fits, zch, vz_b, if_pos c_11, if_pos c_38_0, if_pos c_71]; done) | (simp only [pg_fits, zch, vz_b, if_pos c_11, if_pos c_38_0, if_pos c_71]; rfl) | (simp only [pg_fits, zch, vz_b, c_11, c_38_0, c_71, ↓reduceIte, Bool.false_eq_true, if_true, if_false, reduceCtorEq, not_true_eq_false, not_false_eq_true, eq_self]; done) | (simp only [pg_fits, zch, vz_b, c_11, c_38_0, c_71, ↓reduceIte, Bool.false_eq_true, if_true, if_false, reduceCtorEq, not_true_eq_false, not_false_eq_true, eq_self]; rfl) | (simp [pg_fits, zch, vz_b, c_11, c_38_0, c_71]; done)), ht⟩) (fun q h => absurd h List.not_mem_nil) dX3_fits_79
      · skip
        refine lv_iconst (v := 1) hx hb dX3_fits_74 (by decide) ?_
        refine lv_goto (tgt := 79) hx hb dX3_fits_75 (by decide) ?_
        exact W.zret hx hb hr narrow_b1 (fun t ht hW => ⟨_, rfl, (by first | rfl | (simp only [pg_fits, zch, vz_b, if_pos c_11, if_pos c_38_0, if_neg c_71]; done) | (simp only [pg_fits, zch, vz_b, if_pos c_11, if_pos c_38_0, if_neg c_71]; rfl) | (simp only [pg_fits, zch, vz_b, c_11, c_38_0, c_71, ↓reduceIte, Bool.false_eq_true, if_true, if_false, reduceCtorEq, not_true_eq_false, not_false_eq_true, eq_self]; done) | (simp only [pg_fits, zch, vz_b, c_11, c_38_0, c_71, ↓reduceIte, Bool.false_eq_true, if_true, if_false, reduceCtorEq, not_true_eq_false, not_false_eq_true, eq_self]; rfl) | (simp [pg_fits, zch, vz_b, c_11, c_38_0, c_71]; done)), ht⟩) (fun q h => absurd h List.not_mem_nil) dX3_fits_79
    · skip
      by_cases c_38_1 : (p0 - p0 / 3 * 3) = 1
      · skip
        refine lv_lookup (tgt := 80) (off := 42) hx hb dX3_fits_38 (by decide) (by rw [c_38_1]; decide) (by decide) ?_
        refine lv_iload_n hx hb dX3_fits_80 rfl (lv_at hl 0 rfl) ?_
        refine lv_iconst (v := 4) hx hb dX3_fits_81 (by decide) ?_
        refine vp_callSi (W.runS (As := [.int (rw_at 22 f p0), .int 4]) (rest := []) ⟨hx, hb, hml, hown, hts⟩ (c_X3_isDigitBelow l (rw_at 22 f p0) 4) (va_cwS 2 hts gX3_fits_X3_isDigitBelow rfl rfl rfl (by decide +kernel) ⟨Nat.le_of_ble_eq_true rfl, Nat.le_of_ble_eq_true rfl⟩) (vz_psS) rfl rfl hl.1 rfl (lv_room (Nat.le_of_ble_eq_true rfl)) dX3_fits_82 ⟨Nat.zero_le _, Nat.zero_le _⟩) (fun r_82 hr_82 => ?_)
        subst hr_82
        exact W.zret hx hb hr (vz_nb _) (fun t ht hW => ⟨_, rfl, (by first | rfl | (simp only [pg_fits, zch, vz_b, if_pos c_11, if_neg c_38_0, if_pos c_38_1]; done) | (simp only [pg_fits, zch, vz_b, if_pos c_11, if_neg c_38_0, if_pos c_38_1]; rfl) | (simp only [pg_fits, zch, vz_b, c_11, c_38_0, c_38_1, ↓reduceIte, Bool.false_eq_true, if_true, if_false, reduceCtorEq, not_true_eq_false, not_false_eq_true, eq_self]; done) | (simp only [pg_fits, zch, vz_b, c_11, c_38_0, c_38_1, ↓reduceIte, Bool.false_eq_true, if_true, if_false, reduceCtorEq, not_true_eq_false, not_false_eq_true, eq_self]; rfl) | (simp [pg_fits, zch, vz_b, c_11, c_38_0, c_38_1]; done)), ht⟩) (fun q h => absurd h List.not_mem_nil) dX3_fits_85
      · skip
        refine lv_lookup (tgt := 86) (off := 48) hx hb dX3_fits_38 (by decide) (vz_look2 (vz_neI c_38_0 (by decide)) (vz_neI c_38_1 (by decide))) (by decide) ?_
        refine lv_iload_n hx hb dX3_fits_86 rfl (lv_at hl 0 rfl) ?_
        refine lv_iload_n hx hb dX3_fits_87 rfl (lv_at hl 2 rfl) ?_
        refine lv_iconst (v := 3) hx hb dX3_fits_88 (by decide) ?_
        refine lv_idiv hx hb dX3_fits_89 (by decide) ?_
        refine lv_iconst (v := 1) hx hb dX3_fits_90 (by decide) ?_
        refine lv_iadd hx hb dX3_fits_91 ?_
        refine vp_callSi (W.runS (As := [.int (rw_at 22 f p0), .int ((p0 / 3) + 1)]) (rest := []) ⟨hx, hb, hml, hown, hts⟩ (c_X3_endsSong l (rw_at 22 f p0) ((p0 / 3) + 1)) (va_cwS 2 hts gX3_fits_X3_endsSong rfl rfl rfl (by decide +kernel) ⟨Nat.le_of_ble_eq_true rfl, Nat.le_of_ble_eq_true rfl⟩) (vz_psS) rfl rfl hl.1 rfl (lv_room (Nat.le_of_ble_eq_true rfl)) dX3_fits_92 ⟨Nat.zero_le _, Nat.zero_le _⟩) (fun r_92 hr_92 => ?_)
        subst hr_92
        exact W.zret hx hb hr (vz_nb _) (fun t ht hW => ⟨_, rfl, (by first | rfl | (simp only [pg_fits, zch, vz_b, if_pos c_11, if_neg c_38_0, if_neg c_38_1]; done) | (simp only [pg_fits, zch, vz_b, if_pos c_11, if_neg c_38_0, if_neg c_38_1]; rfl) | (simp only [pg_fits, zch, vz_b, c_11, c_38_0, c_38_1, ↓reduceIte, Bool.false_eq_true, if_true, if_false, reduceCtorEq, not_true_eq_false, not_false_eq_true, eq_self]; done) | (simp only [pg_fits, zch, vz_b, c_11, c_38_0, c_38_1, ↓reduceIte, Bool.false_eq_true, if_true, if_false, reduceCtorEq, not_true_eq_false, not_false_eq_true, eq_self]; rfl) | (simp [pg_fits, zch, vz_b, c_11, c_38_0, c_38_1]; done)), ht⟩) (fun q h => absurd h List.not_mem_nil) dX3_fits_95
  · skip
    refine lv_iload_n hx hb dX3_fits_14 rfl (lv_at hl 2 rfl) ?_
    refine lv_iload_n hx hb dX3_fits_15 rfl (lv_at hl 3 rfl) ?_
    refine lv_iconst (v := 1) hx hb dX3_fits_16 (by decide) ?_
    refine lv_iadd hx hb dX3_fits_17 ?_
    refine lv_icmp_ne (tgt := 33) hx hb dX3_fits_18 (by decide) (fun c_18 => ?_) (fun c_18 => ?_)
    · skip
      refine lv_iconst (v := 0) hx hb dX3_fits_33 (by decide) ?_
      exact W.zret hx hb hr narrow_b0 (fun t ht hW => ⟨_, rfl, (by first | rfl | (simp only [pg_fits, zch, vz_b, if_neg c_11, if_neg c_18]; done) | (simp only [pg_fits, zch, vz_b, if_neg c_11, if_neg c_18]; rfl) | (simp only [pg_fits, zch, vz_b, c_11, c_18, ↓reduceIte, Bool.false_eq_true, if_true, if_false, reduceCtorEq, not_true_eq_false, not_false_eq_true, eq_self]; done) | (simp only [pg_fits, zch, vz_b, c_11, c_18, ↓reduceIte, Bool.false_eq_true, if_true, if_false, reduceCtorEq, not_true_eq_false, not_false_eq_true, eq_self]; rfl) | (simp [pg_fits, zch, vz_b, c_11, c_18]; done)), ht⟩) (fun q h => absurd h List.not_mem_nil) dX3_fits_34
    · skip
      refine lv_iload_n hx hb dX3_fits_21 rfl (lv_at hl 0 rfl) ?_
      refine lv_iconst (v := 4) hx hb dX3_fits_22 (by decide) ?_
      refine vp_callSi (W.runS (As := [.int (rw_at 22 f p0), .int 4]) (rest := []) ⟨hx, hb, hml, hown, hts⟩ (c_X3_isDigitBelow l (rw_at 22 f p0) 4) (va_cwS 2 hts gX3_fits_X3_isDigitBelow rfl rfl rfl (by decide +kernel) ⟨Nat.le_of_ble_eq_true rfl, Nat.le_of_ble_eq_true rfl⟩) (vz_psS) rfl rfl hl.1 rfl (lv_room (Nat.le_of_ble_eq_true rfl)) dX3_fits_23 ⟨Nat.zero_le _, Nat.zero_le _⟩) (fun r_23 hr_23 => ?_)
      subst hr_23
      refine lv_if_eq (tgt := 33) hx hb dX3_fits_26 (by decide) (fun c_26 => ?_) (fun c_26 => ?_)
      · skip
        replace c_26 := vz_b0 c_26
        refine lv_iconst (v := 0) hx hb dX3_fits_33 (by decide) ?_
        exact W.zret hx hb hr narrow_b0 (fun t ht hW => ⟨_, rfl, (by first | rfl | (simp only [pg_fits, zch, vz_b, if_neg c_11, if_pos c_18]; done) | (simp only [pg_fits, zch, vz_b, if_neg c_11, if_pos c_18]; rfl) | (simp only [pg_fits, zch, vz_b, c_11, c_18, c_26, ↓reduceIte, Bool.false_eq_true, if_true, if_false, reduceCtorEq, not_true_eq_false, not_false_eq_true, eq_self]; done) | (simp only [pg_fits, zch, vz_b, c_11, c_18, c_26, ↓reduceIte, Bool.false_eq_true, if_true, if_false, reduceCtorEq, not_true_eq_false, not_false_eq_true, eq_self]; rfl) | (simp [pg_fits, zch, vz_b, c_11, c_18, c_26]; done) | (simp only [pg_fits, zch, vz_b, if_neg c_11, if_pos c_18, c_26, ↓reduceIte, Bool.false_eq_true])), ht⟩) (fun q h => absurd h List.not_mem_nil) dX3_fits_34
      · skip
        replace c_26 := vz_b1 c_26
        refine lv_iconst (v := 1) hx hb dX3_fits_29 (by decide) ?_
        refine lv_goto (tgt := 34) hx hb dX3_fits_30 (by decide) ?_
        exact W.zret hx hb hr narrow_b1 (fun t ht hW => ⟨_, rfl, (by first | rfl | (simp only [pg_fits, zch, vz_b, if_neg c_11, if_pos c_18]; done) | (simp only [pg_fits, zch, vz_b, if_neg c_11, if_pos c_18]; rfl) | (simp only [pg_fits, zch, vz_b, c_11, c_18, c_26, ↓reduceIte, Bool.false_eq_true, if_true, if_false, reduceCtorEq, not_true_eq_false, not_false_eq_true, eq_self]; done) | (simp only [pg_fits, zch, vz_b, c_11, c_18, c_26, ↓reduceIte, Bool.false_eq_true, if_true, if_false, reduceCtorEq, not_true_eq_false, not_false_eq_true, eq_self]; rfl) | (simp [pg_fits, zch, vz_b, c_11, c_18, c_26]; done) | (simp only [pg_fits, zch, vz_b, if_neg c_11, if_pos c_18, c_26, ↓reduceIte, Bool.false_eq_true])), ht⟩) (fun q h => absurd h List.not_mem_nil) dX3_fits_34
set_option maxHeartbeats 4000000 in
set_option maxRecDepth 100000 in
theorem c_X3_firstFault (l : Launch) (D : va_G) (cI : ClassId) (a : Nat) (b : Nat) (q3 : Nat) (len : Nat) (f : Nat → Int32) (sa va : Nat) (hlen : len ≤ 22) : Met l yX3_firstFault wsX3_firstFault ({ frames := 5, cells := 0, slots := 0, locals := 129 } : Room) (vz_ros D cI (zPage cI a b q3 len f) sa va [.ref a]) (vp_Si (fun r => r = pg_first f len)) 0 0 (fun _ => False) := by
  refine Met.ofW (cc := cX3_firstFault) (maxL := 3) (ret := (some .int)) (by decide) rfl ?_
  intro p e s m args below meth c s₁ B hml hv
  obtain ⟨rfl, hP, hZ, hT⟩ := hv
  obtain ⟨hK, hN⟩ := id hZ
  obtain ⟨hTc, hTr, hTo, hTk, hTv, hTb⟩ := id hT
  have hx := B.exec
  have hb := B.bytes
  have hr := B.returns
  have hts := atoms_spec (ws := wsX3_firstFault) B.pre
  have hown : s.vm.findClass RX3 = some m.cls := findClass_of_methodNamed B.named
  have hlocks := B.notSynchronized
  have k14 := hts (.fieldLink RX3 14 "SongsAgain$Page" "codes" "LSongsAgain$Row;") (List.mem_of_getElem? (i := 2) rfl)
  have k20 := hts (.fieldLink RX3 20 "SongsAgain$Page" "length" "I") (List.mem_of_getElem? (i := 1) rfl)
  have iX3 : ∀ w ∈ u_ws RX3 TX3 2, w ∈ wsX3_firstFault := vz_in (i := 109) (n := 2) rfl
  have hl := lv_entry ([.ref a]) (n := 3) (Nat.le_of_ble_eq_true rfl)
  rw [lg_entry_eq]
  generalize (lg_sl ([.ref a]) ++ List.replicate (3 - (lg_sl ([.ref a])).length) Slot.unset).toArray = ls at hl ⊢
  have hl : lv_has ls 3 [(0, .ref a)] := hl
  refine lv_iconst (v := (-1)) hx hb dX3_firstFault_0 (by decide) ?_
  refine lv_istore_n (lv' := [(1, .int (-1)), (0, .ref a)]) hx hb dX3_firstFault_1 rfl hl (by decide) rfl (fun ls hl => ?_)
  refine lv_iconst (v := 0) hx hb dX3_firstFault_2 (by decide) ?_
  refine lv_istore_n (lv' := [(2, .int 0), (1, .int (-1)), (0, .ref a)]) hx hb dX3_firstFault_3 rfl hl (by decide) rfl (fun ls hl => ?_)
  have L_4 : ∀ (d_4 : Nat) (j : Nat) (sm : Int32), len - j < d_4 → (j ≤ len) → (pg_first f len = pg_ff f len (len - j) j sm) → ∀ (ls : Array Slot), lv_has ls 3 [(2, .int (nI j)), (1, .int sm), (0, .ref a)] → W p l e ({ frames := 5, cells := 0, slots := 0, locals := 129 } : Room) s m ([.ref a] : List Value).toArray below meth c s.heap [] 0 0 (MQ below (vp_Si (fun r => r = pg_first f len)) ([.ref a] : List Value).toArray s 0 0 (fun _ => False)) (F0 m 4 ls []) := by
    intro d_4
    induction d_4 with
    | zero => intro j sm hd; exact absurd hd (Nat.not_lt_zero _)
    | succ d_4 ih_4 =>
      intro j sm hd_4 hj hres ls hl
      refine lv_iload_n hx hb dX3_firstFault_4 rfl (lv_at hl 0 rfl) ?_
      refine lv_aload_n hx hb dX3_firstFault_5 rfl (lv_at hl 2 rfl) ?_
      refine va_get (D := D) (ci := 3) (v := .int (nI len)) (C := RX3) (T := TX3) (N := 2) hx hb hts iX3 hown hK hP 0 rfl rfl 1 (by decide) k20 (fun _ h9 => h9) rfl dX3_firstFault_6 ?_
      refine lv_icmp_ge (tgt := 44) hx hb dX3_firstFault_9 (by decide) (fun c_9 => ?_) (fun c_9 => ?_)
      · skip
        have hje : j = len := Nat.le_antisymm hj (vz_ge c_9 (by omega) (by omega))
        refine lv_aload_n hx hb dX3_firstFault_44 rfl (lv_at hl 2 rfl) ?_
        refine va_get (D := D) (ci := 3) (v := .int (nI len)) (C := RX3) (T := TX3) (N := 2) hx hb hts iX3 hown hK hP 0 rfl rfl 1 (by decide) k20 (fun _ h9 => h9) rfl dX3_firstFault_45 ?_
        exact W.iret hx hb hr (fun t ht hW => ⟨_, rfl, (by rw [hres, show len - j = 0 by omega] ; rfl), ht⟩) (fun q h => absurd h List.not_mem_nil) dX3_firstFault_48
      · skip
        have hlt : j < len := vz_lt c_9 (by omega)
        refine lv_aload_n hx hb dX3_firstFault_12 rfl (lv_at hl 2 rfl) ?_
        refine lv_iload_n hx hb dX3_firstFault_13 rfl (lv_at hl 0 rfl) ?_
        refine lv_iload_n hx hb dX3_firstFault_14 rfl (lv_at hl 1 rfl) ?_
        refine vp_callSi (W.runV (As := [.int (nI j), .int sm]) (rest := []) ⟨hx, hb, hml, hown, hts⟩ (c_X3_fits l D cI a b q3 len f sa va (nI j) sm) (cwV 2 hts gX3_firstFault_X3_fits rfl rfl rfl (by decide +kernel) ⟨Nat.le_of_ble_eq_true rfl, Nat.le_of_ble_eq_true rfl⟩) (vz_pvRs (va_recv hK hP (ci := 3) (q0 := 0) rfl rfl) hZ hP hT) rfl rfl hl.1 rfl (lv_room (Nat.le_of_ble_eq_true rfl)) dX3_firstFault_15 ⟨Nat.zero_le _, Nat.zero_le _⟩) (fun r_15 hr_15 => ?_)
        subst hr_15
        refine lv_if_ne (tgt := 23) hx hb dX3_firstFault_18 (by decide) (fun c_18 => ?_) (fun c_18 => ?_)
        · skip
          replace c_18 := vz_b1 c_18
          refine lv_aload_n hx hb dX3_firstFault_23 rfl (lv_at hl 2 rfl) ?_
          refine va_get (D := D) (ci := 3) (v := .ref b) (C := RX3) (T := TX3) (N := 2) hx hb hts iX3 hown hK hP 0 rfl rfl 0 (by decide) k14 (fun _ h9 => h9) rfl dX3_firstFault_24 ?_
          refine lv_iload_n hx hb dX3_firstFault_27 rfl (lv_at hl 0 rfl) ?_
          refine vp_callSi (W.runV (As := [.int (nI j)]) (rest := []) ⟨hx, hb, hml, hown, hts⟩ (c_X5_at l D cI b q3 22 f (nI j) (by decide)) (cwV 1 hts gX3_firstFault_X5_at rfl rfl rfl (by decide +kernel) ⟨Nat.le_of_ble_eq_true rfl, Nat.le_of_ble_eq_true rfl⟩) (vz_pvR (va_recv hK hP (ci := 5) (q0 := 1) rfl rfl) hZ (hP.sub (ws' := (zRow cI b q3 22 f)) [1, 2] rfl)) rfl rfl hl.1 rfl (lv_room (Nat.le_of_ble_eq_true rfl)) dX3_firstFault_28 ⟨Nat.zero_le _, Nat.zero_le _⟩) (fun r_28 hr_28 => ?_)
          subst hr_28
          refine lv_bipush (v := 59) hx hb dX3_firstFault_31 (by decide) ?_
          refine lv_icmp_ne (tgt := 38) hx hb dX3_firstFault_33 (by decide) (fun c_33 => ?_) (fun c_33 => ?_)
          · skip
            refine lv_iinc (v := nI (j + 1)) (lv' := [(2, .int (nI (j + 1))), (1, .int sm), (0, .ref a)]) hx hb dX3_firstFault_38 hl (k := 0) rfl (vz_inc _) (by decide) rfl (fun ls hl => ?_)
            refine lv_goto (tgt := 4) hx hb dX3_firstFault_41 (by decide) ?_
            exact ih_4 (j + 1) sm (by omega) (by omega) (by rw [hres, show len - j = (len - (j + 1)) + 1 by omega] ; simp only [pg_ff, c_9, c_18, c_33, ↓reduceIte]) ls (lv_sub hl [0, 1, 2] rfl)
          · skip
            refine lv_iload_n hx hb dX3_firstFault_36 rfl (lv_at hl 0 rfl) ?_
            refine lv_istore_n (lv' := [(1, .int (nI j)), (2, .int (nI j)), (0, .ref a)]) hx hb dX3_firstFault_37 rfl hl (by decide) rfl (fun ls hl => ?_)
            refine lv_iinc (v := nI (j + 1)) (lv' := [(2, .int (nI (j + 1))), (1, .int (nI j)), (0, .ref a)]) hx hb dX3_firstFault_38 hl (k := 1) rfl (vz_inc _) (by decide) rfl (fun ls hl => ?_)
            refine lv_goto (tgt := 4) hx hb dX3_firstFault_41 (by decide) ?_
            exact ih_4 (j + 1) (nI j) (by omega) (by omega) (by rw [hres, show len - j = (len - (j + 1)) + 1 by omega] ; simp only [pg_ff, c_9, c_18, c_33, ↓reduceIte]) ls (lv_sub hl [0, 1, 2] rfl)
        · skip
          replace c_18 := vz_b0 c_18
          refine lv_iload_n hx hb dX3_firstFault_21 rfl (lv_at hl 0 rfl) ?_
          exact W.iret hx hb hr (fun t ht hW => ⟨_, rfl, (by rw [hres, show len - j = (len - (j + 1)) + 1 by omega] ; simp only [pg_ff, c_18, ↓reduceIte, Bool.false_eq_true]), ht⟩) (fun q h => absurd h List.not_mem_nil) dX3_firstFault_22
  exact L_4 _ 0 (-1) (Nat.lt_succ_self _) (Nat.zero_le _) rfl ls (lv_sub hl [0, 1, 2] rfl)
set_option maxHeartbeats 4000000 in
set_option maxRecDepth 100000 in
theorem c_X3_isWhole (l : Launch) (D : va_G) (cI : ClassId) (a : Nat) (b : Nat) (q3 : Nat) (len : Nat) (f : Nat → Int32) (sa va : Nat) (hlen : len ≤ 22) : Met l yX3_isWhole wsX3_isWhole ({ frames := 6, cells := 0, slots := 0, locals := 151 } : Room) (vz_ros D cI (zPage cI a b q3 len f) sa va [.ref a]) (vp_Si (fun r => r = vz_b (pg_whole f len))) 0 0 (fun _ => False) := by
  refine Met.ofW (cc := cX3_isWhole) (maxL := 1) (ret := (some .boolean)) (by decide) rfl ?_
  intro p e s m args below meth c s₁ B hml hv
  obtain ⟨rfl, hP, hZ, hT⟩ := hv
  obtain ⟨hK, hN⟩ := id hZ
  obtain ⟨hTc, hTr, hTo, hTk, hTv, hTb⟩ := id hT
  have hx := B.exec
  have hb := B.bytes
  have hr := B.returns
  have hts := atoms_spec (ws := wsX3_isWhole) B.pre
  have hown : s.vm.findClass RX3 = some m.cls := findClass_of_methodNamed B.named
  have hlocks := B.notSynchronized
  have k14 := hts (.fieldLink RX3 14 "SongsAgain$Page" "codes" "LSongsAgain$Row;") (List.mem_of_getElem? (i := 2) rfl)
  have k20 := hts (.fieldLink RX3 20 "SongsAgain$Page" "length" "I") (List.mem_of_getElem? (i := 1) rfl)
  have iX3 : ∀ w ∈ u_ws RX3 TX3 2, w ∈ wsX3_isWhole := vz_in (i := 113) (n := 2) rfl
  have hl := lv_entry ([.ref a]) (n := 1) (Nat.le_of_ble_eq_true rfl)
  rw [lg_entry_eq]
  generalize (lg_sl ([.ref a]) ++ List.replicate (1 - (lg_sl ([.ref a])).length) Slot.unset).toArray = ls at hl ⊢
  have hl : lv_has ls 1 [(0, .ref a)] := hl
  refine lv_aload_n hx hb dX3_isWhole_0 rfl (lv_at hl 0 rfl) ?_
  refine vp_callSi (W.runV (As := []) (rest := []) ⟨hx, hb, hml, hown, hts⟩ (c_X3_firstFault l D cI a b q3 len f sa va (by first | assumption | omega)) (cwV 0 hts gX3_isWhole_X3_firstFault rfl rfl rfl (by decide +kernel) ⟨Nat.le_of_ble_eq_true rfl, Nat.le_of_ble_eq_true rfl⟩) (vz_pvRs (va_recv hK hP (ci := 3) (q0 := 0) rfl rfl) hZ hP hT) rfl rfl hl.1 rfl (lv_room (Nat.le_of_ble_eq_true rfl)) dX3_isWhole_1 ⟨Nat.zero_le _, Nat.zero_le _⟩) (fun r_1 hr_1 => ?_)
  subst hr_1
  refine lv_aload_n hx hb dX3_isWhole_4 rfl (lv_at hl 0 rfl) ?_
  refine va_get (D := D) (ci := 3) (v := .int (nI len)) (C := RX3) (T := TX3) (N := 2) hx hb hts iX3 hown hK hP 0 rfl rfl 1 (by decide) k20 (fun _ h9 => h9) rfl dX3_isWhole_5 ?_
  refine lv_icmp_ne (tgt := 33) hx hb dX3_isWhole_8 (by decide) (fun c_8 => ?_) (fun c_8 => ?_)
  · skip
    refine lv_iconst (v := 0) hx hb dX3_isWhole_33 (by decide) ?_
    exact W.zret hx hb hr narrow_b0 (fun t ht hW => ⟨_, rfl, (by first | rfl | (simp only [pg_whole, vz_b, if_neg c_8]; done) | (simp only [pg_whole, vz_b, if_neg c_8]; rfl) | (simp only [pg_whole, vz_b, c_8, ↓reduceIte, Bool.false_eq_true, if_true, if_false, reduceCtorEq, not_true_eq_false, not_false_eq_true, eq_self]; done) | (simp only [pg_whole, vz_b, c_8, ↓reduceIte, Bool.false_eq_true, if_true, if_false, reduceCtorEq, not_true_eq_false, not_false_eq_true, eq_self]; rfl) | (simp [pg_whole, vz_b, c_8]; done)), ht⟩) (fun q h => absurd h List.not_mem_nil) dX3_isWhole_34
  · skip
    refine lv_aload_n hx hb dX3_isWhole_11 rfl (lv_at hl 0 rfl) ?_
    refine va_get (D := D) (ci := 3) (v := .ref b) (C := RX3) (T := TX3) (N := 2) hx hb hts iX3 hown hK hP 0 rfl rfl 0 (by decide) k14 (fun _ h9 => h9) rfl dX3_isWhole_12 ?_
    refine lv_aload_n hx hb dX3_isWhole_15 rfl (lv_at hl 0 rfl) ?_
    refine va_get (D := D) (ci := 3) (v := .int (nI len)) (C := RX3) (T := TX3) (N := 2) hx hb hts iX3 hown hK hP 0 rfl rfl 1 (by decide) k20 (fun _ h9 => h9) rfl dX3_isWhole_16 ?_
    refine lv_iconst (v := 2) hx hb dX3_isWhole_19 (by decide) ?_
    refine lv_isub hx hb dX3_isWhole_20 ?_
    refine vp_callSi (W.runV (As := [.int ((nI len) - 2)]) (rest := []) ⟨hx, hb, hml, hown, hts⟩ (c_X5_at l D cI b q3 22 f ((nI len) - 2) (by decide)) (cwV 1 hts gX3_isWhole_X5_at rfl rfl rfl (by decide +kernel) ⟨Nat.le_of_ble_eq_true rfl, Nat.le_of_ble_eq_true rfl⟩) (vz_pvR (va_recv hK hP (ci := 5) (q0 := 1) rfl rfl) hZ (hP.sub (ws' := (zRow cI b q3 22 f)) [1, 2] rfl)) rfl rfl hl.1 rfl (lv_room (Nat.le_of_ble_eq_true rfl)) dX3_isWhole_21 ⟨Nat.zero_le _, Nat.zero_le _⟩) (fun r_21 hr_21 => ?_)
    subst hr_21
    refine lv_bipush (v := 59) hx hb dX3_isWhole_24 (by decide) ?_
    refine lv_icmp_ne (tgt := 33) hx hb dX3_isWhole_26 (by decide) (fun c_26 => ?_) (fun c_26 => ?_)
    · skip
      refine lv_iconst (v := 0) hx hb dX3_isWhole_33 (by decide) ?_
      exact W.zret hx hb hr narrow_b0 (fun t ht hW => ⟨_, rfl, (by first | rfl | (simp only [pg_whole, vz_b, if_pos c_8, if_neg c_26]; done) | (simp only [pg_whole, vz_b, if_pos c_8, if_neg c_26]; rfl) | (simp only [pg_whole, vz_b, c_8, c_26, ↓reduceIte, Bool.false_eq_true, if_true, if_false, reduceCtorEq, not_true_eq_false, not_false_eq_true, eq_self]; done) | (simp only [pg_whole, vz_b, c_8, c_26, ↓reduceIte, Bool.false_eq_true, if_true, if_false, reduceCtorEq, not_true_eq_false, not_false_eq_true, eq_self]; rfl) | (simp [pg_whole, vz_b, c_8, c_26]; done)), ht⟩) (fun q h => absurd h List.not_mem_nil) dX3_isWhole_34
    · skip
      refine lv_iconst (v := 1) hx hb dX3_isWhole_29 (by decide) ?_
      refine lv_goto (tgt := 34) hx hb dX3_isWhole_30 (by decide) ?_
      exact W.zret hx hb hr narrow_b1 (fun t ht hW => ⟨_, rfl, (by first | rfl | (simp only [pg_whole, vz_b, if_pos c_8, if_pos c_26]; done) | (simp only [pg_whole, vz_b, if_pos c_8, if_pos c_26]; rfl) | (simp only [pg_whole, vz_b, c_8, c_26, ↓reduceIte, Bool.false_eq_true, if_true, if_false, reduceCtorEq, not_true_eq_false, not_false_eq_true, eq_self]; done) | (simp only [pg_whole, vz_b, c_8, c_26, ↓reduceIte, Bool.false_eq_true, if_true, if_false, reduceCtorEq, not_true_eq_false, not_false_eq_true, eq_self]; rfl) | (simp [pg_whole, vz_b, c_8, c_26]; done)), ht⟩) (fun q h => absurd h List.not_mem_nil) dX3_isWhole_34
set_option maxHeartbeats 4000000 in
set_option maxRecDepth 100000 in
theorem c_X3_kindRead (l : Launch) (D : va_G) (cI : ClassId) (a : Nat) (b : Nat) (q3 : Nat) (len : Nat) (f : Nat → Int32) (sa va : Nat) (p0 : Int32) : Met l yX3_kindRead wsX3_kindRead ({ frames := 4, cells := 0, slots := 0, locals := 106 } : Room) (vz_ros D cI (zPage cI a b q3 len f) sa va [.ref a, .int p0]) (vp_Si (fun r => r = zIdx (zch (rw_at 22 f (3 * p0))))) 0 0 (fun _ => False) := by
  refine Met.ofW (cc := cX3_kindRead) (maxL := 2) (ret := (some .int)) (by decide) rfl ?_
  intro p e s m args below meth c s₁ B hml hv
  obtain ⟨rfl, hP, hZ, hT⟩ := hv
  obtain ⟨hK, hN⟩ := id hZ
  obtain ⟨hTc, hTr, hTo, hTk, hTv, hTb⟩ := id hT
  have hx := B.exec
  have hb := B.bytes
  have hr := B.returns
  have hts := atoms_spec (ws := wsX3_kindRead) B.pre
  have hown : s.vm.findClass RX3 = some m.cls := findClass_of_methodNamed B.named
  have hlocks := B.notSynchronized
  have k14 := hts (.fieldLink RX3 14 "SongsAgain$Page" "codes" "LSongsAgain$Row;") (List.mem_of_getElem? (i := 1) rfl)
  have iX3 : ∀ w ∈ u_ws RX3 TX3 2, w ∈ wsX3_kindRead := vz_in (i := 97) (n := 2) rfl
  have hl := lv_entry ([.ref a, .int p0]) (n := 2) (Nat.le_of_ble_eq_true rfl)
  rw [lg_entry_eq]
  generalize (lg_sl ([.ref a, .int p0]) ++ List.replicate (2 - (lg_sl ([.ref a, .int p0])).length) Slot.unset).toArray = ls at hl ⊢
  have hl : lv_has ls 2 [(0, .ref a), (1, .int p0)] := hl
  refine va_ldcS hx hb hown hTr dX3_kindRead_0 ?_
  refine lv_aload_n hx hb dX3_kindRead_2 rfl (lv_at hl 0 rfl) ?_
  refine va_get (D := D) (ci := 3) (v := .ref b) (C := RX3) (T := TX3) (N := 2) hx hb hts iX3 hown hK hP 0 rfl rfl 0 (by decide) k14 (fun _ h9 => h9) rfl dX3_kindRead_3 ?_
  refine lv_iconst (v := 3) hx hb dX3_kindRead_6 (by decide) ?_
  refine lv_iload_n hx hb dX3_kindRead_7 rfl (lv_at hl 1 rfl) ?_
  refine lv_imul hx hb dX3_kindRead_8 ?_
  refine vp_callSi (W.runV (As := [.int (3 * p0)]) (rest := [.ref sa]) ⟨hx, hb, hml, hown, hts⟩ (c_X5_at l D cI b q3 22 f (3 * p0) (by decide)) (cwV 1 hts gX3_kindRead_X5_at rfl rfl rfl (by decide +kernel) ⟨Nat.le_of_ble_eq_true rfl, Nat.le_of_ble_eq_true rfl⟩) (vz_pvR (va_recv hK hP (ci := 5) (q0 := 1) rfl rfl) hZ (hP.sub (ws' := (zRow cI b q3 22 f)) [1, 2] rfl)) rfl rfl hl.1 rfl (lv_room (Nat.le_of_ble_eq_true rfl)) dX3_kindRead_9 ⟨Nat.zero_le _, Nat.zero_le _⟩) (fun r_9 hr_9 => ?_)
  subst hr_9
  refine lv_i2c (v := ((rw_at 22 f (3 * p0) : Int32).toUInt32 % 65536).toInt32) hx hb dX3_kindRead_12 rfl ?_
  refine vp_callSi (W.runV (As := [.int (((rw_at 22 f (3 * p0) : Int32).toUInt32 % 65536).toInt32)]) (rest := []) ⟨hx, hb, hml, hown, hts⟩ (c_J0_indexOf_0f7a4 l sa va (((rw_at 22 f (3 * p0) : Int32).toUInt32 % 65536).toInt32)) (cwV 1 hts gX3_kindRead_J0_indexOf_0f7a4 rfl rfl rfl (by decide +kernel) ⟨Nat.le_of_ble_eq_true rfl, Nat.le_of_ble_eq_true rfl⟩) (vz_pvSs (zS_recv hT) hT) rfl rfl hl.1 rfl (lv_room (Nat.le_of_ble_eq_true rfl)) dX3_kindRead_13 ⟨Nat.zero_le _, Nat.zero_le _⟩) (fun r_13 hr_13 => ?_)
  subst hr_13
  exact W.iret hx hb hr (fun t ht hW => ⟨_, rfl, (by first | rfl | (simp only [zch]; done) | (simp only [zch]; rfl) | (simp only [zch, ↓reduceIte, Bool.false_eq_true, if_true, if_false, reduceCtorEq, not_true_eq_false, not_false_eq_true, eq_self]; done) | (simp only [zch, ↓reduceIte, Bool.false_eq_true, if_true, if_false, reduceCtorEq, not_true_eq_false, not_false_eq_true, eq_self]; rfl) | (simp [zch]; done)), ht⟩) (fun q h => absurd h List.not_mem_nil) dX3_kindRead_16
set_option maxHeartbeats 4000000 in
set_option maxRecDepth 100000 in
theorem c_X6_fault (l : Launch) (D : va_G) (cI : ClassId) (h : Nat → Nat) (len : Nat) (cd : Nat → Int32) (nm : Nat) (ks : Nat → Int32) (gs : Nat → Int32) (wt : Nat → Int32) (mi : Nat → Int32) (pl : Nat → Int32) (sk : Nat → Int32) (he : Nat → Int32) (nh : Nat) (ru : Int32) (bg : Int32) (la : Int32) (sd : Bool) (pl2 : Nat → Int32) (sk2 : Nat → Int32) (he2 : Nat → Int32) (nh2 : Nat) (ru2 : Int32) (bg2 : Int32) (la2 : Int32) (sd2 : Bool) (u0 : Int64) (l0 : Int64) (u1 : Int64) (l1 : Int64) (u2 : Int64) (l2 : Int64) (wy : Nat → Int32) (fi : Nat → Int32) (fl : Int32) (nu : Int32) (ik : Bool) (pr : Nat) (sa va : Nat) (hlen : len ≤ 22) : Met l yX6_fault wsX6_fault ({ frames := 6, cells := 0, slots := 0, locals := 151 } : Room) (vz_ros D cI (zSA cI h len cd nm ks gs wt mi pl sk he nh ru bg la sd pl2 sk2 he2 nh2 ru2 bg2 la2 sd2 u0 l0 u1 l1 u2 l2 wy fi fl nu ik pr) sa va [.ref (h 0)]) (vp_Si (fun r => r = pg_first cd len)) 0 0 (fun _ => False) := by
  refine Met.ofW (cc := cX6_fault) (maxL := 1) (ret := (some .int)) (by decide) rfl ?_
  intro p e s m args below meth c s₁ B hml hv
  obtain ⟨rfl, hP, hZ, hT⟩ := hv
  obtain ⟨hK, hN⟩ := id hZ
  obtain ⟨hTc, hTr, hTo, hTk, hTv, hTb⟩ := id hT
  have hx := B.exec
  have hb := B.bytes
  have hr := B.returns
  have hts := atoms_spec (ws := wsX6_fault) B.pre
  have hown : s.vm.findClass RX6 = some m.cls := findClass_of_methodNamed B.named
  have hlocks := B.notSynchronized
  have k10 := hts (.fieldLink RX6 10 "SongsAgain" "page" "LSongsAgain$Page;") (List.mem_of_getElem? (i := 1) rfl)
  have iX6 : ∀ w ∈ u_ws RX6 TX6 10, w ∈ wsX6_fault := vz_in (i := 114) (n := 10) rfl
  have hl := lv_entry ([.ref (h 0)]) (n := 1) (Nat.le_of_ble_eq_true rfl)
  rw [lg_entry_eq]
  generalize (lg_sl ([.ref (h 0)]) ++ List.replicate (1 - (lg_sl ([.ref (h 0)])).length) Slot.unset).toArray = ls at hl ⊢
  have hl : lv_has ls 1 [(0, .ref (h 0))] := hl
  refine lv_aload_n hx hb dX6_fault_0 rfl (lv_at hl 0 rfl) ?_
  refine va_get (D := D) (ci := 6) (v := .ref (h 1)) (C := RX6) (T := TX6) (N := 10) hx hb hts iX6 hown hK hP 0 rfl rfl 0 (by decide) k10 (fun _ h9 => h9) rfl dX6_fault_1 ?_
  refine vp_callSi (W.runV (As := []) (rest := []) ⟨hx, hb, hml, hown, hts⟩ (c_X3_firstFault l D cI (h 1) (h 2) (h 3) len cd sa va (by first | assumption | omega)) (cwV 0 hts gX6_fault_X3_firstFault rfl rfl rfl (by decide +kernel) ⟨Nat.le_of_ble_eq_true rfl, Nat.le_of_ble_eq_true rfl⟩) (vz_pvRs (va_recv hK hP (ci := 3) (q0 := 1) rfl rfl) hZ (hP.sub (ws' := (zPage cI (h 1) (h 2) (h 3) len cd)) [1, 2, 3] rfl) hT) rfl rfl hl.1 rfl (lv_room (Nat.le_of_ble_eq_true rfl)) dX6_fault_4 ⟨Nat.zero_le _, Nat.zero_le _⟩) (fun r_4 hr_4 => ?_)
  subst hr_4
  exact W.iret hx hb hr (fun t ht hW => ⟨_, rfl, (by first | rfl | (rfl; done) | (rfl; rfl) | (rfl; done) | (rfl; rfl) | (simp; done)), ht⟩) (fun q h => absurd h List.not_mem_nil) dX6_fault_7

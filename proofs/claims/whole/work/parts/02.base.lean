/-! the words of this proof: what a method starts from, how a call goes on, how a world comes back -/
abbrev vzI (cI : ClassId) : List (ClassId × FieldType) := [(cI, .int)]
/-- the links to private members of nest mates -/
def zNF : List (String × Nat × String × String × String) := [("SongsAgain", 213, "SongsAgain$Page", "codes", "LSongsAgain$Row;"), ("SongsAgain", 61, "SongsAgain$Page", "length", "I"), ("SongsAgain", 225, "SongsAgain$Book", "kinds", "LSongsAgain$Row;"), ("SongsAgain$Orders", 56, "SongsAgain$Book", "singers", "LSongsAgain$Row;"), ("SongsAgain", 228, "SongsAgain$Book", "singers", "LSongsAgain$Row;"), ("SongsAgain", 250, "SongsAgain$Book", "weights", "LSongsAgain$Row;"), ("SongsAgain", 231, "SongsAgain$Book", "minutes", "LSongsAgain$Row;"), ("SongsAgain$Orders", 37, "SongsAgain$Book", "number", "I"), ("SongsAgain", 93, "SongsAgain$Book", "number", "I"), ("SongsAgain", 132, "SongsAgain$Past", "played", "LSongsAgain$Row;"), ("SongsAgain", 147, "SongsAgain$Past", "skipped", "LSongsAgain$Row;"), ("SongsAgain", 177, "SongsAgain$Past", "heard", "LSongsAgain$Row;"), ("SongsAgain", 174, "SongsAgain$Past", "heardLength", "I"), ("SongsAgain", 111, "SongsAgain$Past", "rule", "I"), ("SongsAgain", 120, "SongsAgain$Past", "bag", "I"), ("SongsAgain", 126, "SongsAgain$Past", "last", "I"), ("SongsAgain", 129, "SongsAgain$Past", "lastIsSkipped", "Z"), ("SongsAgain", 160, "SongsAgain$Fraction", "above", "J"), ("SongsAgain", 164, "SongsAgain$Fraction", "below", "J")]
def zNM : List (String × Nat × MethodName) := [("SongsAgain", 9, ⟨"SongsAgain$Page", "<init>", "()V"⟩), ("SongsAgain", 18, ⟨"SongsAgain$Book", "<init>", "()V"⟩), ("SongsAgain", 25, ⟨"SongsAgain$Past", "<init>", "()V"⟩), ("SongsAgain", 35, ⟨"SongsAgain$Fraction", "<init>", "()V"⟩), ("SongsAgain", 48, ⟨"SongsAgain$Orders", "<init>", "()V"⟩), ("SongsAgain$Orders", 40, ⟨"SongsAgain", "holds", "(II)Z"⟩), ("SongsAgain$Book", 56, ⟨"SongsAgain", "holds", "(II)Z"⟩)]
def zN (U : State) : Prop := (∀ q ∈ zNF, va_Nw (.fieldLinkNest q.1 q.2.1 q.2.2.1 q.2.2.2.1 q.2.2.2.2 "SongsAgain") U) ∧ ∀ q ∈ zNM, va_Nw (.methodLinkNest q.1 q.2.1 q.2.2 "SongsAgain") U
theorem zN.warm {s U : State} (hW : s.WarmedH U.vm) (h : zN s) : zN U := ⟨fun q hq => va_Nw.warmF hW (h.1 q hq), fun q hq => va_Nw.warmM hW (h.2 q hq)⟩
theorem zN.same {s U : State} (hv : s.vm = U.vm) (h : zN s) : zN U := ⟨fun q hq => va_Nw.same rfl hv (h.1 q hq), fun q hq => va_Nw.same rfl hv (h.2 q hq)⟩
def zK (D : va_G) (cI : ClassId) (U : State) : Prop := va_K D vwCl (vzI cI) U ∧ zN U
theorem zK.warm {D : va_G} {cI : ClassId} {s U : State} (hW : s.WarmedH U.vm) (h : zK D cI s) : zK D cI U := ⟨va_K.moved hW.alike h.1, h.2.warm hW⟩
theorem zK.call {D : va_G} {cI : ClassId} {U : State} {g : JFrame} {mk : MethodId} {a : Array Value} (h : zK D cI U) : zK D cI (U.calling g mk a) := ⟨va_K.moved (u := U) (U := U.calling g mk a) (Vm.Alike.refl U.vm) h.1, h.2.same rfl⟩
/-- a call that wrote nothing -/
theorem vz_cr {p : Program} {l : Launch} {e : Env} {R : Room} {s : State} {m : MethodId} {args : Array Value} {below : List Frame} {meth : Method} {c : Code} {H : Heap} {locs : List Loc} {cells slots mc ms : Nat} {g : JFrame} {rest : List Value} {Qa : State → Outcome → State → Prop} {free : Addr → Prop} (h : va_Run p l e R s m args below meth c H locs cells slots mc ms g rest Qa free) : CallRun p l e R s m args below meth c H locs cells slots mc ms g rest Qa free := by
  intro T hT X
  obtain ⟨v, st₀, t, T', L, h0, X', hL, e1, e2, hq, st⟩ := h T hT X
  exact ⟨v, st₀, t, T', L, h0, X', hL, e1, hq, st⟩
def vz_ro (D : va_G) (cI : ClassId) (ws : va_W) (av : List Value) : Array Value → State → Prop := va_Pc av (fun U => va_P D vwCl ws U.heap ∧ zK D cI U)
def vz_rw (D : va_G) (cI : ClassId) (ws : va_W) (sz : Nat) (av : List Value) : Array Value → State → Prop := va_Pc av (fun U => U.heap.size = sz ∧ va_P D vwCl ws U.heap ∧ zK D cI U ∧ va_D (fun _ => True) ws)
def vz_st (av : List Value) : Array Value → State → Prop := va_Pc av (fun _ => True)
theorem vz_blR {D : va_G} {cI : ClassId} {ws : va_W} {av : List Value} : FrameBlind (vz_ro D cI ws av) := fun a U g mk q => ⟨q.1, q.2.1, q.2.2.call⟩
theorem vz_blW {D : va_G} {cI : ClassId} {ws : va_W} {sz : Nat} {av : List Value} : FrameBlind (vz_rw D cI ws sz av) := fun a U g mk q => ⟨q.1, q.2.1, q.2.2.1, q.2.2.2.1.call, q.2.2.2.2⟩
theorem vz_blS {av : List Value} : FrameBlind (vz_st av) := fun a U g mk q => q
theorem vz_pvR {D : va_G} {cI : ClassId} {ws : va_W} {s : State} {H : Heap} {C : String} {b : Addr} {As : List Value} (hr : ∃ cellB : Cell, H[b]? = some cellB ∧ cellB.vm.isStatics = false ∧ s.vm.findClass C = some cellB.cls) (hK : zK D cI s) (hP : va_P D vwCl ws H) : PreV s H C b (vz_ro D cI ws (.ref b :: As)) As :=
  ⟨vz_blR, hr, fun U hU hW => ⟨rfl, by rw [hU]; exact hP, hK.warm hW⟩⟩
theorem vz_pvS {s : State} {H : Heap} {C : String} {b : Addr} {As : List Value} (hr : ∃ cellB : Cell, H[b]? = some cellB ∧ cellB.vm.isStatics = false ∧ s.vm.findClass C = some cellB.cls) : PreV s H C b (vz_st (.ref b :: As)) As :=
  ⟨vz_blS, hr, fun U hU hW => ⟨rfl, trivial⟩⟩
theorem vz_pvW {D : va_G} {cI : ClassId} {ws : va_W} {s : State} {H : Heap} {C : String} {b : Addr} {As : List Value} {A : Nat → Prop} (hr : ∃ cellB : Cell, H[b]? = some cellB ∧ cellB.vm.isStatics = false ∧ s.vm.findClass C = some cellB.cls) (hK : zK D cI s) (hP : va_P D vwCl ws H) (hD : va_D A ws) : PreV s H C b (vz_rw D cI ws H.size (.ref b :: As)) As :=
  ⟨vz_blW, hr, fun U hU hW => ⟨rfl, by rw [hU], by rw [hU]; exact hP, hK.warm hW, hD.weaken (fun _ _ _ _ => trivial)⟩⟩
theorem vz_psR {D : va_G} {cI : ClassId} {ws : va_W} {s : State} {H : Heap} {As : List Value} (hK : zK D cI s) (hP : va_P D vwCl ws H) : PreS s H (vz_ro D cI ws As) As :=
  ⟨vz_blR, fun U hU hW => ⟨rfl, by rw [hU]; exact hP, hK.warm hW⟩⟩
theorem vz_psS {s : State} {H : Heap} {As : List Value} : PreS s H (vz_st As) As := ⟨vz_blS, fun U hU hW => ⟨rfl, trivial⟩⟩
theorem vz_psW {D : va_G} {cI : ClassId} {ws : va_W} {s : State} {H : Heap} {As : List Value} {A : Nat → Prop} (hK : zK D cI s) (hP : va_P D vwCl ws H) (hD : va_D A ws) : PreS s H (vz_rw D cI ws H.size As) As :=
  ⟨vz_blW, fun U hU hW => ⟨rfl, by rw [hU], by rw [hU]; exact hP, hK.warm hW, hD.weaken (fun _ _ _ _ => trivial)⟩⟩
/-- some cells of a list put in their places -/
def vz_patch : va_W → List Nat → va_W → va_W
  | ws, i :: is, q :: qs => vz_patch (ws.set i q) is qs
  | ws, _, _ => ws
theorem vz_patch_at {D : va_G} {cl : List vw_C} {H1 : Heap} : ∀ (is : List Nat) (ws w1 : va_W), is.length = w1.length → (∀ (k : Nat) (q : Nat × va_E), ws[k]? = some q → k ∉ is → va_at D cl q H1) → (∀ (j : Nat) (q : Nat × va_E), w1[j]? = some q → va_at D cl q H1) → va_P D cl (vz_patch ws is w1) H1
  | [], ws, w1, _, h, _ => by
    intro k q hk
    cases w1 <;> exact h k q hk (List.not_mem_nil)
  | i :: is, ws, [], hl, _, _ => by cases hl
  | i :: is, ws, x :: w1, hl, h, h1 => by
    refine vz_patch_at is (ws.set i x) w1 (Nat.succ.inj hl) (fun k q hk hn => ?_) (fun j q hj => h1 (j + 1) q (by rw [List.getElem?_cons_succ]; exact hj))
    by_cases e : i = k
    · subst e
      rw [List.getElem?_set] at hk
      by_cases hlt : i < ws.length
      · simp [hlt] at hk
        exact h1 0 q (by rw [← hk]; rfl)
      · simp [hlt] at hk
    · rw [List.getElem?_set_ne e] at hk
      exact h k q hk (fun z => by rcases List.mem_cons.mp z with z | z; exact e z.symm; exact hn z)
/-- behind a call that made no cells: the caller's world with the callee's part put back -/
theorem vz_join {A0 : Nat → Prop} {D : va_G} {cl : List vw_C} {ws wc w1 ws' : va_W} {H H1 : Heap} (hP : va_P D cl ws H) (hD : va_D A0 ws) (isC : List Nat) (hC : isC.map (fun i => ws[i]?) = wc.map some) (hw : vz_patch ws isC w1 = ws')
    (hk : ∀ q : Nat, q < H.size → ¬ va_A wc H.size q → H1[q]? = H[q]?) (hP1 : va_P D cl w1 H1) (hl : isC.length = w1.length := by rfl) : va_P D cl ws' H1 := by
  subst hw
  refine vz_patch_at isC ws w1 hl (fun k q hq hn => ?_) hP1
  have hlt := (hP k q hq).lt
  refine (hP k q hq).kept (hk q.1 hlt (fun h => ?_))
  rcases h with ⟨k2, e, h⟩ | h
  · have h1 : (isC.map (fun i => ws[i]?))[k2]? = some (some (q.1, e)) := by rw [hC, List.getElem?_map, h]; rfl
    rw [List.getElem?_map] at h1
    cases hi : isC[k2]? with
    | none => rw [hi] at h1; cases h1
    | some i =>
      rw [hi] at h1
      have h2 : ws[i]? = some (q.1, e) := Option.some.inj h1
      have e3 := hD.1 k i q (q.1, e) hq h2 rfl
      subst e3
      exact hn (List.mem_of_getElem? hi)
  · omega
/-- the addresses alone say that cells are apart -/
theorem vz_same {A : Nat → Prop} {ws ws' : va_W} (hD : va_D A ws) (h : ws'.map Prod.fst = ws.map Prod.fst) : va_D A ws' := by
  have key : ∀ (k : Nat) (q : Nat × va_E), ws'[k]? = some q → ∃ q0, ws[k]? = some q0 ∧ q0.1 = q.1 := by
    intro k q hk
    have h1 : (ws'.map Prod.fst)[k]? = some q.1 := by rw [List.getElem?_map, hk]; rfl
    rw [h, List.getElem?_map] at h1
    cases hi : ws[k]? with
    | none => rw [hi] at h1; cases h1
    | some q0 => rw [hi] at h1; exact ⟨q0, rfl, Option.some.inj h1⟩
  refine ⟨fun i j x y hi hj hxy => ?_, fun k q hk => ?_⟩
  · obtain ⟨x0, h1, h2⟩ := key i x hi
    obtain ⟨y0, h3, h4⟩ := key j y hj
    exact hD.1 i j x0 y0 h1 h3 (h2.trans (hxy.trans h4.symm))
  · obtain ⟨q0, h1, h2⟩ := key k q hk
    rw [← h2]
    exact hD.2 k q0 h1
theorem vz_freeAll {A0 : Nat → Prop} {ws : va_W} {H0 H : Heap} {locs : List Loc} (hD : va_D A0 ws) (hS : va_S A0 H0 H locs) (hA : ∀ q, H0.size ≤ q → A0 q) : ∀ q, va_A ws H.size q → A0 q := by
  intro q h
  rcases h with ⟨k, e, h⟩ | h
  · exact hD.2 k (q, e) h
  · exact hA q (Nat.le_trans hS.1 h)
theorem vz_in {ws big : List Cond} {i n : Nat} (h : (big.drop i).take n = ws) : ∀ w ∈ ws, w ∈ big := fun w hw => List.mem_of_mem_drop (List.mem_of_mem_take (by rw [h]; exact hw))
theorem vz_inc (a : Nat) : nI a + Int32.ofInt 1 = nI (a + 1) := nI_1 a
theorem vz_inc4 (a : Nat) : nI a + Int32.ofInt 4 = nI (a + 4) := nI_add a 4
/-- a truth as a number -/
def vz_b (b : Bool) : Int32 := if b then 1 else 0
theorem vz_nb (b : Bool) : narrow .boolean (.int (vz_b b)) = .int (vz_b b) := by cases b <;> rfl
theorem vz_fb (b : Bool) : fits .boolean (.int (vz_b b)) = true := by cases b <;> rfl
theorem vz_b1 {b : Bool} (h : ¬ vz_b b = 0) : b = true := by cases b; exact absurd rfl h; rfl
theorem vz_b0 {b : Bool} (h : vz_b b = 0) : b = false := by cases b; rfl; exact absurd h (by decide)
theorem vz_b01 (b : Bool) : vz_b b = 0 ∨ vz_b b = 1 := by cases b; exact Or.inl rfl; exact Or.inr rfl
theorem vz_ix (f : Nat → Int32) {j : Nat} (h : j < 2 ^ 31) : f (nI j).toNatClampNeg = f j := by rw [nI_clamp h]
theorem vz_toI {x y : Int32} {k : Int} (h : x.toInt = k) (hk : y.toInt = k) : x = y := Int32.toInt_inj.mp (h.trans hk.symm)
theorem vz_tab (x : Int32) (lo hi : Int) : (x.toInt < lo ∨ hi < x.toInt) ∨ (¬ x.toInt < lo ∧ ¬ hi < x.toInt) := by omega
theorem vz_lt {j n : Nat} (h : ¬ nI n ≤ nI j) (hj : j < 2 ^ 31) : j < n := Nat.lt_of_not_le (fun q => h (nI_le q hj))
theorem vz_ge {j n : Nat} (h : nI n ≤ nI j) (hn : n < 2 ^ 31) (hj : j < 2 ^ 31) : n ≤ j := (nI_leI hn hj).mp h

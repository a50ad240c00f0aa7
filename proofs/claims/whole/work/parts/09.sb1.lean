/-! what would be, what is heard, evenings, facts: as functions -/
theorem vz_pos {k : Nat} (h : (0 : Int32) < nI k) : 0 < k := Nat.pos_of_ne_zero (fun q => by subst q; exact absurd h (by decide))
theorem vz_npos {k : Nat} (h : ¬ (0 : Int32) < nI k) (hk : k < 2 ^ 31) : k = 0 := by
  rcases Nat.eq_zero_or_pos k with q | q
  · exact q
  · exact absurd (nI_lt (a := 0) q hk) h
theorem vz_dec {k : Nat} (h : 0 < k) : nI k - 1 = nI (k - 1) := by
  obtain ⟨j, rfl⟩ : ∃ j, k = j + 1 := ⟨k - 1, by omega⟩
  exact nI_pred j
theorem vz_nz {x : Int32} (h : (0 : Int32) < x) : ¬ x.toInt64 = 0 := by
  intro q
  have h1 : x.toInt64.toInt = (0 : Int64).toInt := by rw [q]
  rw [Int32.toInt_toInt64] at h1
  rw [Int32.lt_iff_toInt_lt] at h
  have h2 : (0 : Int32).toInt = 0 := by decide
  have h3 : (0 : Int64).toInt = 0 := by decide
  omega
theorem fr_cd01 : fr_cd 0 1 = 1 := by decide +kernel
theorem fr_cd11 : fr_cd 1 1 = 1 := by decide +kernel
theorem fr_01u (x : Int64) : (0 : Int64) = fr_q (fr_cd 0 1) 0 x := by rw [fr_cd01, fr_q, if_neg (by decide)]; decide +kernel
theorem fr_01l (x : Int64) : (1 : Int64) = fr_q (fr_cd 0 1) 1 x := by rw [fr_cd01, fr_q, if_neg (by decide)]; decide +kernel
theorem fr_11u (x : Int64) : (1 : Int64) = fr_q (fr_cd 1 1) 1 x := by rw [fr_cd11, fr_q, if_neg (by decide)]; decide +kernel
theorem fr_11l (x : Int64) : (1 : Int64) = fr_q (fr_cd 1 1) 1 x := by rw [fr_cd11, fr_q, if_neg (by decide)]; decide +kernel
def tw_lp (rec : Int32 → Int32 → Int32 → Int64 → Int64 → Int64 × Int64 → Int64 × Int64) (nm : Nat) (wt sk : Nat → Int32) (bag may tog came : Int32) (above wb : Int64) : Nat → Int64 × Int64 → Int64 × Int64
  | 0, st => st
  | j + 1, st => if above * (sa_sh wt sk (nI j) may tog).toInt64 ≤ 0 then tw_lp rec nm wt sk bag may tog came above wb j st else if sa_holds came (nI j) then (fr_au (tw_lp rec nm wt sk bag may tog came above wb j st).1 (tw_lp rec nm wt sk bag may tog came above wb j st).2 (above * (sa_sh wt sk (nI j) may tog).toInt64) wb, fr_al (tw_lp rec nm wt sk bag may tog came above wb j st).1 (tw_lp rec nm wt sk bag may tog came above wb j st).2 (above * (sa_sh wt sk (nI j) may tog).toInt64) wb) else rec (bk_bag nm bag (nI j)) (nI j) (came ||| (1 <<< (nI j &&& 31))) (above * (sa_sh wt sk (nI j) may tog).toInt64) wb (tw_lp rec nm wt sk bag may tog came above wb j st)
def tw (nm : Nat) (ks gs wt sk : Nat → Int32) (ru : Int32) : Nat → Int32 → Int32 → Int32 → Int64 → Int64 → Int64 × Int64 → Int64 × Int64
  | 0, _, _, _, _, _, st => st
  | k + 1, bag, last, came, above, below, st => tw_lp (tw nm ks gs wt sk ru k) nm wt sk bag (bk_may nm ks gs ru bag last) (sa_wt wt sk (bk_may nm ks gs ru bag last) nm) came above (below * (sa_all (bk_may nm ks gs ru bag last) (sa_wt wt sk (bk_may nm ks gs ru bag last) nm)).toInt64) nm st
theorem tw_pos {nm : Nat} {ks gs wt sk : Nat → Int32} {ru : Int32} {k : Nat} {bag last came : Int32} {above below : Int64} {st : Int64 × Int64} (h : 0 < k) : tw nm ks gs wt sk ru k bag last came above below st = tw_lp (tw nm ks gs wt sk ru (k - 1)) nm wt sk bag (bk_may nm ks gs ru bag last) (sa_wt wt sk (bk_may nm ks gs ru bag last) nm) came above (below * (sa_all (bk_may nm ks gs ru bag last) (sa_wt wt sk (bk_may nm ks gs ru bag last) nm)).toInt64) nm st := by
  obtain ⟨j, rfl⟩ : ∃ j, k = j + 1 := ⟨k - 1, by omega⟩
  rfl
def hd_lp (nm : Nat) (ks gs wt he : Nat → Int32) (rule : Int32) : Nat → Nat → Int32 → Int32 → Int64 × Int64 → Int64 × Int64
  | 0, _, _, _, st => st
  | d + 1, j, bag, last, st => if sa_holds (bk_may nm ks gs rule bag last) (rw_at 8 he (nI j)) then hd_lp nm ks gs wt he rule d (j + 1) (bk_bag nm bag (rw_at 8 he (nI j))) (rw_at 8 he (nI j)) (fr_mu st.1 st.2 (rw_at 6 wt (rw_at 8 he (nI j))).toInt64 (bk_wt wt (bk_may nm ks gs rule bag last) nm).toInt64, fr_ml st.1 st.2 (rw_at 6 wt (rw_at 8 he (nI j))).toInt64 (bk_wt wt (bk_may nm ks gs rule bag last) nm).toInt64) else (0, 1)
def hd (nm : Nat) (ks gs wt he : Nat → Int32) (nh : Nat) (rule : Int32) : Int64 × Int64 := hd_lp nm ks gs wt he rule nh 0 (bk_all nm) (-1) (1, 1)
def pr_acc (nm : Nat) (ks gs wt he : Nat → Int32) (nh : Nat) : Nat → Int32
  | 0 => 0
  | j + 1 => pr_acc nm ks gs wt he nh j ||| (if (hd nm ks gs wt he nh (nI j)).1 ≤ 0 then 0 else (1 : Int32) <<< (nI j &&& 31))
def lk (nm : Nat) (ks gs wt he : Nat → Int32) (nh : Nat) : Nat → Int32 × (Int64 × Int64)
  | 0 => (-1, (0, 1))
  | j + 1 => if fr_more (hd nm ks gs wt he nh (nI j)).1 (hd nm ks gs wt he nh (nI j)).2 (lk nm ks gs wt he nh j).2.1 (lk nm ks gs wt he nh j).2.2 then (nI j, (fr_q (fr_cd (hd nm ks gs wt he nh (nI j)).1 (hd nm ks gs wt he nh (nI j)).2) (hd nm ks gs wt he nh (nI j)).1 (lk nm ks gs wt he nh j).2.1, fr_q (fr_cd (hd nm ks gs wt he nh (nI j)).1 (hd nm ks gs wt he nh (nI j)).2) (hd nm ks gs wt he nh (nI j)).2 (lk nm ks gs wt he nh j).2.2)) else lk nm ks gs wt he nh j
def dr_am (nm : Nat) (wt sk : Nat → Int32) (may : Int32) : Int32 := sa_all may (sa_wt wt sk may nm)
def dr_lp (wt sk : Nat → Int32) (may tog : Int32) : Nat → Nat → Int64 → Int32
  | 0, _, _ => 0
  | d + 1, j, y => if 0 ≤ y - (sa_sh wt sk (nI j) may tog).toInt64 then dr_lp wt sk may tog d (j + 1) (y - (sa_sh wt sk (nI j) may tog).toInt64) else nI j
def dr (nm : Nat) (wt sk : Nat → Int32) (seed : Int64) (may : Int32) : Int32 := if 0 < dr_am nm wt sk may then dr_lp wt sk may (sa_wt wt sk may nm) nm 0 (seed / 65536 - seed / 65536 / (dr_am nm wt sk may).toInt64 * (dr_am nm wt sk may).toInt64) else 0
def ev (nm : Nat) (ks gs wt sk mi : Nat → Int32) (ru bg la seed : Int32) : Nat → Int64 × Int32 × Int32 × Int32 × Int32
  | 0 => (seed.toInt64, bg, la, 0, 0)
  | j + 1 => match ev nm ks gs wt sk mi ru bg la seed j with
    | (nx, b, t, c, q) => (sa_seed nx, bk_bag nm b (dr nm wt sk (sa_seed nx) (bk_may nm ks gs ru b t)), dr nm wt sk (sa_seed nx) (bk_may nm ks gs ru b t), c ||| (1 <<< (dr nm wt sk (sa_seed nx) (bk_may nm ks gs ru b t) &&& 31)), q + rw_at 6 mi (dr nm wt sk (sa_seed nx) (bk_may nm ks gs ru b t)))
def ev_fact (q : Int64 × Int32 × Int32 × Int32 × Int32) (w : Int32) : Int32 := if w = 0 then j_bc q.2.2.2.1 else if w = 1 then q.2.2.2.2 else q.1.toInt32
def sa_ft (up lo : Int64) (t : Bool) : Int32 := if t then (up / fr_cd up lo).toInt32 else (lo / fr_cd up lo).toInt32
def sa_fact (nm : Nat) (ks gs wt sk mi pl : Nat → Int32) (ru bg la s w : Int32) : Int32 :=
  if w = 0 then rw_at 6 ks s else if w = 1 then rw_at 6 gs s else if w = 2 then wg wt sk s else if w = 3 then rw_at 6 mi s else if w = 4 then rw_at 6 pl s else if w = 5 then rw_at 6 sk s else if w = 6 then vz_b (sa_holds bg s) else if w = 7 then vz_b (sa_holds (bk_may nm ks gs ru bg la) s) else if w = 8 then sa_ft (sa_cx nm ks gs wt sk ru bg la s) (sa_cy nm ks gs wt sk ru bg la) true else sa_ft (sa_cx nm ks gs wt sk ru bg la s) (sa_cy nm ks gs wt sk ru bg la) false
def sa_count (nm : Nat) (ks gs mi pl sk : Nat → Int32) (nh : Nat) (ru bg la : Int32) (len pr : Nat) (w : Int32) : Int32 :=
  if w = 0 then nI nm else if w = 1 then ru else if w = 2 then rw_sum pl 6 else if w = 3 then rw_sum sk 6 else if w = 4 then sa_min pl mi nm else if w = 5 then rw_abn pl 6 else if w = 6 then j_bc bg else if w = 7 then j_bc (bk_may nm ks gs ru bg la) else if w = 8 then la else if w = 9 then nI nh else if w = 10 then nI len else if w = 11 then nI pr else -102
abbrev zO : Type := (Nat → Int32) × (Nat → Int32) × Int32 × Int32
def od_lp (rec : Int32 → zO → zO) (gs : Nat → Int32) (left : Int32) (k : Nat) : Nat → zO → zO
  | 0, st => st
  | j + 1, st => if sa_holds left (nI j) then (if nI k = 0 then rec (left &&& ((1 <<< (nI j &&& 31)) ^^^ (-1))) (rw_put 6 (od_lp rec gs left k j st).1 (nI k) (nI j), (od_lp rec gs left k j st).2.1, (od_lp rec gs left k j st).2.2.1, (od_lp rec gs left k j st).2.2.2) else if od_un gs (nI j) (rw_at 6 (od_lp rec gs left k j st).1 (nI k - 1)) then rec (left &&& ((1 <<< (nI j &&& 31)) ^^^ (-1))) (rw_put 6 (od_lp rec gs left k j st).1 (nI k) (nI j), (od_lp rec gs left k j st).2.1, (od_lp rec gs left k j st).2.2.1, (od_lp rec gs left k j st).2.2.2) else od_lp rec gs left k j st) else od_lp rec gs left k j st
def od (nm : Nat) (gs : Nat → Int32) : Nat → Nat → Int32 → zO → zO
  | 0, _, _, st => st
  | d + 1, k, left, st => if left = 0 then (st.1, od_tf st.1 st.2.1 st.2.2.2, od_tl st.2.2.1 st.2.2.2 (nI k), st.2.2.2 + 1) else if k < 6 then od_lp (od nm gs d (k + 1)) gs left k nm st else st
theorem od_end {nm : Nat} {gs : Nat → Int32} {k : Nat} {left : Int32} {st : zO} (hk : k ≤ 6) (h : left = 0) : od nm gs (7 - k) k left st = (st.1, od_tf st.1 st.2.1 st.2.2.2, od_tl st.2.2.1 st.2.2.2 (nI k), st.2.2.2 + 1) := by
  rw [show 7 - k = (7 - (k + 1)) + 1 by omega, od, if_pos h]
theorem od_six {nm : Nat} {gs : Nat → Int32} {k : Nat} {left : Int32} {st : zO} (hk : k ≤ 6) (h : ¬ left = 0) (h5 : ¬ k < 6) : od nm gs (7 - k) k left st = st := by
  rw [show 7 - k = (7 - (k + 1)) + 1 by omega, od, if_neg h, if_neg h5]
theorem od_pos {nm : Nat} {gs : Nat → Int32} {k : Nat} {left : Int32} {st : zO} (hk : k ≤ 6) (h : ¬ left = 0) (h5 : k < 6) : od nm gs (7 - k) k left st = od_lp (od nm gs (7 - (k + 1)) (k + 1)) gs left k nm st := by
  rw [show 7 - k = (7 - (k + 1)) + 1 by omega, od, if_neg h, if_pos h5]
def dp6 (O : zO) : Nat → Int64 → Int64
  | 0, h => h
  | j + 1, h => 31 * dp6 O j h + (od_fact O.2.1 O.2.2.1 O.2.2.2 (nI (10 + j))).toInt64
def dp3 (nm : Nat) (ks gs wt sk wy fi : Nat → Int32) (ru bg la : Int32) (h : Int64) : Int64 := 31 * (31 * (31 * h + (tw nm ks gs wt sk ru 2 bg la 0 1 1 (0, 1)).1) + (tw nm ks gs wt sk ru 2 bg la 0 1 1 (0, 1)).2) + (od_fact (od nm gs 7 0 (bk_all nm) (wy, fi, 0, 0)).2.1 (od nm gs 7 0 (bk_all nm) (wy, fi, 0, 0)).2.2.1 (od nm gs 7 0 (bk_all nm) (wy, fi, 0, 0)).2.2.2 0).toInt64
def dp (nm : Nat) (ks gs wt sk he wy fi : Nat → Int32) (nh : Nat) (ru bg la : Int32) (h : Int64) : Int64 := 31 * (31 * dp6 (od nm gs 7 0 (bk_all nm) (wy, fi, 0, 0)) 6 (dp3 nm ks gs wt sk wy fi ru bg la h) + (pr_acc nm ks gs wt he nh 4).toInt64) + ((lk nm ks gs wt he nh 4).1).toInt64
def dgi (f : Int32 → Int32 → Int32) (s : Nat) : Nat → Int64 → Int64
  | 0, h => h
  | j + 1, h => 31 * dgi f s j h + (f (nI s) (nI j)).toInt64
def dgo (f : Int32 → Int32 → Int32) : Nat → Int64 → Int64
  | 0, h => h
  | s + 1, h => dgi f s 10 (dgo f s h)
def dgc (cd : Nat → Int32) : Nat → Int64 → Int64
  | 0, h => h
  | j + 1, h => 31 * dgc cd j h + (rw_at 22 cd (nI j)).toInt64
def dgn (f : Int32 → Int32) : Nat → Int64 → Int64
  | 0, h => h
  | j + 1, h => 31 * dgn f j h + (f (nI j)).toInt64
def dg (nm : Nat) (ks gs wt sk mi pl he cd wy fi : Nat → Int32) (nh : Nat) (ru bg la : Int32) (len pr : Nat) : Int64 := dgn (sa_count nm ks gs mi pl sk nh ru bg la len pr) 12 (dgc cd len (if sa_np nm then dgo (sa_fact nm ks gs wt sk mi pl ru bg la) nm 997 else dp nm ks gs wt sk he wy fi nh ru bg la (dgo (sa_fact nm ks gs wt sk mi pl ru bg la) nm 997)))

set_option maxHeartbeats 4000000 in
set_option maxRecDepth 100000 in
theorem c_X6_sumTwice (l : Launch) : ∀ (d : Nat) (D : va_G) (cI : ClassId) (h : Nat → Nat) (len : Nat) (cd : Nat → Int32) (nm : Nat) (ks : Nat → Int32) (gs : Nat → Int32) (wt : Nat → Int32) (mi : Nat → Int32) (pl : Nat → Int32) (sk : Nat → Int32) (he : Nat → Int32) (nh : Nat) (ru : Int32) (bg : Int32) (la : Int32) (sd : Bool) (pl2 : Nat → Int32) (sk2 : Nat → Int32) (he2 : Nat → Int32) (nh2 : Nat) (ru2 : Int32) (bg2 : Int32) (la2 : Int32) (sd2 : Bool) (u0 : Int64) (l0 : Int64) (u1 : Int64) (l1 : Int64) (u2 : Int64) (l2 : Int64) (wy : Nat → Int32) (fi : Nat → Int32) (fl : Int32) (nu : Int32) (ik : Bool) (pr : Nat) (sz : Nat) (k : Nat) (p2 : Int32) (p3 : Int32) (p4 : Int32) (p5 : Int64) (p6 : Int64) (hnm : nm ≤ 6) (hk : k < d) (hk3 : k ≤ 3), Met l yX6_sumTwice wsX6_sumTwice ({ frames := 3 + d, cells := 0, slots := 0, locals := 84 + d * 36 } : Room) (vz_rw D cI (zSA cI h len cd nm ks gs wt mi pl sk he nh ru bg la sd pl2 sk2 he2 nh2 ru2 bg2 la2 sd2 u0 l0 u1 l1 u2 l2 wy fi fl nu ik pr) sz [.ref (h 0), .int (nI k), .int p2, .int p3, .int p4, .long p5, .long p6]) (va_Qv (fun (_ : Unit) => True) (fun (u : Unit) (t : State) => va_P D vwCl (zSA cI h len cd nm ks gs wt mi pl sk he nh ru bg la sd pl2 sk2 he2 nh2 ru2 bg2 la2 sd2 ((tw nm ks gs wt sk ru k p2 p3 p4 p5 p6 (u0, l0)).1) ((tw nm ks gs wt sk ru k p2 p3 p4 p5 p6 (u0, l0)).2) u1 l1 u2 l2 wy fi fl nu ik pr) t.heap) (va_A (zSA cI h len cd nm ks gs wt mi pl sk he nh ru bg la sd pl2 sk2 he2 nh2 ru2 bg2 la2 sd2 u0 l0 u1 l1 u2 l2 wy fi fl nu ik pr) sz)) 0 0 (va_A (zSA cI h len cd nm ks gs wt mi pl sk he nh ru bg la sd pl2 sk2 he2 nh2 ru2 bg2 la2 sd2 u0 l0 u1 l1 u2 l2 wy fi fl nu ik pr) sz) := by
  intro d
  induction d with
  | zero => intro D cI h len cd nm ks gs wt mi pl sk he nh ru bg la sd pl2 sk2 he2 nh2 ru2 bg2 la2 sd2 u0 l0 u1 l1 u2 l2 wy fi fl nu ik pr sz k p2 p3 p4 p5 p6 hnm hk hk3; exact absurd hk (Nat.not_lt_zero _)
  | succ d ih_rec =>
    intro D cI h len cd nm ks gs wt mi pl sk he nh ru bg la sd pl2 sk2 he2 nh2 ru2 bg2 la2 sd2 u0 l0 u1 l1 u2 l2 wy fi fl nu ik pr sz k p2 p3 p4 p5 p6 hnm hk hk3
    refine Met.ofW (cc := cX6_sumTwice) (maxL := 17) (ret := none) (by decide) rfl ?_
    intro p e s m args below meth c s₁ B hml hv
    obtain ⟨rfl, hsz, hP, hZ, hD0⟩ := hv
    obtain ⟨hK, hN⟩ := id hZ
    have hx := B.exec
    have hb := B.bytes
    have hr := B.returns
    have hts := atoms_spec (ws := wsX6_sumTwice) B.pre
    have hown : s.vm.findClass RX6 = some m.cls := findClass_of_methodNamed B.named
    have hlocks := B.notSynchronized
    subst hsz
    have hD := hD0.self (sz := s.heap.size)
    generalize hAe : va_A (zSA cI h len cd nm ks gs wt mi pl sk he nh ru bg la sd pl2 sk2 he2 nh2 ru2 bg2 la2 sd2 u0 l0 u1 l1 u2 l2 wy fi fl nu ik pr) s.heap.size = A at hD ⊢
    have hA : ∀ q : Nat, s.heap.size ≤ q → A q := fun q h => by rw [← hAe]; exact Or.inr h
    have hS : va_S A s.heap s.heap [] := va_S.rf
    have k19 := hts (.fieldLink RX6 19 "SongsAgain" "book" "LSongsAgain$Book;") (List.mem_of_getElem? (i := 1) rfl)
    have k26 := hts (.fieldLink RX6 26 "SongsAgain" "now" "LSongsAgain$Past;") (List.mem_of_getElem? (i := 2) rfl)
    have k36 := hts (.fieldLink RX6 36 "SongsAgain" "sum" "LSongsAgain$Fraction;") (List.mem_of_getElem? (i := 3) rfl)
    have k93 : (Cond.fieldLinkNest "SongsAgain" 93 "SongsAgain$Book" "number" "I" "SongsAgain").before _ s = true := va_Nw.use (A := ([.ref (h 0), .int (nI k), .int p2, .int p3, .int p4, .long p5, .long p6] : List Value).toArray) rfl (hN.1 ("SongsAgain", 93, "SongsAgain$Book", "number", "I") (List.mem_of_getElem? (i := 8) rfl))
    have k111 : (Cond.fieldLinkNest "SongsAgain" 111 "SongsAgain$Past" "rule" "I" "SongsAgain").before _ s = true := va_Nw.use (A := ([.ref (h 0), .int (nI k), .int p2, .int p3, .int p4, .long p5, .long p6] : List Value).toArray) rfl (hN.1 ("SongsAgain", 111, "SongsAgain$Past", "rule", "I") (List.mem_of_getElem? (i := 13) rfl))
    have iX0 : ∀ w ∈ u_ws RX0 TX0 5, w ∈ wsX6_sumTwice := vz_in (i := 95) (n := 5) rfl
    have iX4 : ∀ w ∈ u_ws RX4 TX4 8, w ∈ wsX6_sumTwice := vz_in (i := 87) (n := 8) rfl
    have iX6 : ∀ w ∈ u_ws RX6 TX6 10, w ∈ wsX6_sumTwice := vz_in (i := 77) (n := 10) rfl
    have hl := lv_entry ([.ref (h 0), .int (nI k), .int p2, .int p3, .int p4, .long p5, .long p6]) (n := 17) (Nat.le_of_ble_eq_true rfl)
    rw [lg_entry_eq]
    generalize (lg_sl ([.ref (h 0), .int (nI k), .int p2, .int p3, .int p4, .long p5, .long p6]) ++ List.replicate (17 - (lg_sl ([.ref (h 0), .int (nI k), .int p2, .int p3, .int p4, .long p5, .long p6])).length) Slot.unset).toArray = ls at hl ⊢
    have hl : lv_has ls 17 [(0, .ref (h 0)), (1, .int (nI k)), (2, .int p2), (3, .int p3), (4, .int p4), (5, .long p5), (7, .long p6)] := hl
    have hP : va_P D vwCl (zSA cI h len cd nm ks gs wt mi pl sk he nh ru bg la sd pl2 sk2 he2 nh2 ru2 bg2 la2 sd2 u0 l0 u1 l1 u2 l2 wy fi fl nu ik pr) s.heap := hP
    refine lv_iload_n hx hb dX6_sumTwice_0 rfl (lv_at hl 1 rfl) ?_
    refine lv_if_gt (tgt := 5) hx hb dX6_sumTwice_1 (by decide) (fun c_1 => ?_) (fun c_1 => ?_)
    · skip
      have hkp : 0 < k := vz_pos c_1
      refine lv_aload_n hx hb dX6_sumTwice_5 rfl (lv_at hl 0 rfl) ?_
      refine va_get (D := D) (ci := 6) (v := .ref (h 4)) (C := RX6) (T := TX6) (N := 10) hx hb hts iX6 hown hK hP 0 rfl rfl 1 (by decide) k19 (fun _ h9 => h9) rfl dX6_sumTwice_6 ?_
      refine lv_aload_n hx hb dX6_sumTwice_9 rfl (lv_at hl 0 rfl) ?_
      refine va_get (D := D) (ci := 6) (v := .ref (h 13)) (C := RX6) (T := TX6) (N := 10) hx hb hts iX6 hown hK hP 0 rfl rfl 2 (by decide) k26 (fun _ h9 => h9) rfl dX6_sumTwice_10 ?_
      refine va_getN (D := D) (ci := 4) (v := .int ru) (C := RX4) (T := TX4) (N := 8) hx hb hts iX4 hown hK hP 13 rfl rfl 4 (by decide) k111 (fun _ h9 => h9) rfl dX6_sumTwice_13 ?_
      refine lv_iload_n hx hb dX6_sumTwice_16 rfl (lv_at hl 2 rfl) ?_
      refine lv_iload_n hx hb dX6_sumTwice_17 rfl (lv_at hl 3 rfl) ?_
      refine vp_callSi (W.runV (As := [.int ru, .int p2, .int p3]) (rest := []) ⟨hx, hb, hml, hown, hts⟩ (c_X0_mayCome l D cI (fun i => h (4 + i)) nm ks gs wt mi ru p2 p3 (by first | assumption | omega)) (cwV 3 hts gX6_sumTwice_X0_mayCome rfl rfl rfl (by decide +kernel) ⟨by show 2 + 1 ≤ 3 + (d + 1); omega, by show 8 + (8 + 11) + 44 ≤ 84 + (d + 1) * 36; omega⟩) (vz_pvR (va_recv hK hP (ci := 0) (q0 := 4) rfl rfl) hZ (hP.sub (ws' := (zBook cI (fun i => h (4 + i)) nm ks gs wt mi)) [4, 5, 6, 7, 8, 9, 10, 11, 12] rfl)) rfl rfl hl.1 rfl (lv_room (Nat.le_of_ble_eq_true rfl)) dX6_sumTwice_18 ⟨Nat.zero_le _, Nat.zero_le _⟩) (fun r_18 hr_18 => ?_)
      subst hr_18
      refine lv_topi (fun v_21 ev_21 => ?_)
      refine lv_istore (lv' := [(9, .int v_21), (0, .ref (h 0)), (1, .int (nI k)), (2, .int p2), (3, .int p3), (4, .int p4), (5, .long p5), (7, .long p6)]) hx hb dX6_sumTwice_21 hl (by decide) rfl (fun ls hl => ?_)
      refine lv_aload_n hx hb dX6_sumTwice_23 rfl (lv_at hl 1 rfl) ?_
      refine lv_iload hx hb dX6_sumTwice_24 (lv_at hl 0 rfl) ?_
      refine vp_callSi (W.runV (As := [.int v_21]) (rest := []) ⟨hx, hb, hml, hown, hts⟩ (c_X6_weightTogether l D cI h len cd nm ks gs wt mi pl sk he nh ru bg la sd pl2 sk2 he2 nh2 ru2 bg2 la2 sd2 u0 l0 u1 l1 u2 l2 wy fi fl nu ik pr v_21 (by first | assumption | omega)) (cwV 1 hts gX6_sumTwice_X6_weightTogether rfl rfl rfl (by decide +kernel) ⟨by show 2 + 1 ≤ 3 + (d + 1); omega, by show 8 + (4 + 11) + 61 ≤ 84 + (d + 1) * 36; omega⟩) (vz_pvR (va_recv hK hP (ci := 6) (q0 := 0) rfl rfl) hZ hP) rfl rfl hl.1 rfl (lv_room (Nat.le_of_ble_eq_true rfl)) dX6_sumTwice_26 ⟨Nat.zero_le _, Nat.zero_le _⟩) (fun r_26 hr_26 => ?_)
      subst hr_26
      refine lv_topi (fun v_29 ev_29 => ?_)
      refine lv_istore (lv' := [(10, .int v_29), (9, .int v_21), (0, .ref (h 0)), (1, .int (nI k)), (2, .int p2), (3, .int p3), (4, .int p4), (5, .long p5), (7, .long p6)]) hx hb dX6_sumTwice_29 hl (by decide) rfl (fun ls hl => ?_)
      refine lv_lload hx hb dX6_sumTwice_31 (lv_at hl 8 rfl) ?_
      refine lv_iload hx hb dX6_sumTwice_33 (lv_at hl 1 rfl) ?_
      refine lv_iload hx hb dX6_sumTwice_35 (lv_at hl 0 rfl) ?_
      refine vp_callSi (W.runS (As := [.int v_21, .int v_29]) (rest := [.long p6]) ⟨hx, hb, hml, hown, hts⟩ (c_X6_allShares l v_21 v_29) (va_cwS 2 hts gX6_sumTwice_X6_allShares rfl rfl rfl (by decide +kernel) ⟨by show 1 + 1 ≤ 3 + (d + 1); omega, by show 8 + (2 + 11) + 20 ≤ 84 + (d + 1) * 36; omega⟩) (vz_psS) rfl rfl hl.1 rfl (lv_room (Nat.le_of_ble_eq_true rfl)) dX6_sumTwice_37 ⟨Nat.zero_le _, Nat.zero_le _⟩) (fun r_37 hr_37 => ?_)
      subst hr_37
      refine lv_i2l (v := (sa_all v_21 v_29 : Int32).toInt64) hx hb dX6_sumTwice_40 rfl ?_
      refine lv_lmul hx hb dX6_sumTwice_41 ?_
      refine lv_topl (fun v_42 ev_42 => ?_)
      refine lv_lstore (lv' := [(11, .long v_42), (10, .int v_29), (9, .int v_21), (0, .ref (h 0)), (1, .int (nI k)), (2, .int p2), (3, .int p3), (4, .int p4), (5, .long p5), (7, .long p6)]) hx hb dX6_sumTwice_42 hl (by decide) rfl (fun ls hl => ?_)
      refine lv_iconst (v := 0) hx hb dX6_sumTwice_44 (by decide) ?_
      refine lv_istore (lv' := [(13, .int 0), (11, .long v_42), (10, .int v_29), (9, .int v_21), (0, .ref (h 0)), (1, .int (nI k)), (2, .int p2), (3, .int p3), (4, .int p4), (5, .long p5), (7, .long p6)]) hx hb dX6_sumTwice_45 hl (by decide) rfl (fun ls hl => ?_)
      have L_47 : ∀ (d_47 : Nat) (j : Nat) (H_47 : Heap) (locs_47 : List Loc), nm - j < d_47 → (j ≤ nm) → va_P D vwCl (zSA cI h len cd nm ks gs wt mi pl sk he nh ru bg la sd pl2 sk2 he2 nh2 ru2 bg2 la2 sd2 ((tw_lp (tw nm ks gs wt sk ru (k - 1)) nm wt sk p2 v_21 v_29 p4 p5 v_42 j (u0, l0)).1) ((tw_lp (tw nm ks gs wt sk ru (k - 1)) nm wt sk p2 v_21 v_29 p4 p5 v_42 j (u0, l0)).2) u1 l1 u2 l2 wy fi fl nu ik pr) H_47 → va_D A (zSA cI h len cd nm ks gs wt mi pl sk he nh ru bg la sd pl2 sk2 he2 nh2 ru2 bg2 la2 sd2 ((tw_lp (tw nm ks gs wt sk ru (k - 1)) nm wt sk p2 v_21 v_29 p4 p5 v_42 j (u0, l0)).1) ((tw_lp (tw nm ks gs wt sk ru (k - 1)) nm wt sk p2 v_21 v_29 p4 p5 v_42 j (u0, l0)).2) u1 l1 u2 l2 wy fi fl nu ik pr) → va_S A s.heap H_47 locs_47 → ∀ (ls : Array Slot), lv_has ls 17 [(13, .int (nI j)), (11, .long v_42), (10, .int v_29), (9, .int v_21), (0, .ref (h 0)), (1, .int (nI k)), (2, .int p2), (3, .int p3), (4, .int p4), (5, .long p5), (7, .long p6)] → W p l e ({ frames := 3 + (d + 1), cells := 0, slots := 0, locals := 84 + (d + 1) * 36 } : Room) s m ([.ref (h 0), .int (nI k), .int p2, .int p3, .int p4, .long p5, .long p6] : List Value).toArray below meth c H_47 locs_47 0 0 (MQ below (va_Qv (fun (_ : Unit) => True) (fun (u : Unit) (t : State) => va_P D vwCl (zSA cI h len cd nm ks gs wt mi pl sk he nh ru bg la sd pl2 sk2 he2 nh2 ru2 bg2 la2 sd2 ((tw nm ks gs wt sk ru k p2 p3 p4 p5 p6 (u0, l0)).1) ((tw nm ks gs wt sk ru k p2 p3 p4 p5 p6 (u0, l0)).2) u1 l1 u2 l2 wy fi fl nu ik pr) t.heap) A) ([.ref (h 0), .int (nI k), .int p2, .int p3, .int p4, .long p5, .long p6] : List Value).toArray s 0 0 A) (F0 m 47 ls []) := by
        intro d_47
        induction d_47 with
        | zero => intro j H_47 locs_47 hd; exact absurd hd (Nat.not_lt_zero _)
        | succ d_47 ih_47 =>
          intro j H_47 locs_47 hd_47 hj hP hD hS ls hl
          refine lv_iload hx hb dX6_sumTwice_47 (lv_at hl 0 rfl) ?_
          refine lv_aload_n hx hb dX6_sumTwice_49 rfl (lv_at hl 4 rfl) ?_
          refine va_get (D := D) (ci := 6) (v := .ref (h 4)) (C := RX6) (T := TX6) (N := 10) hx hb hts iX6 hown hK hP 0 rfl rfl 1 (by decide) k19 (fun _ h9 => h9) rfl dX6_sumTwice_50 ?_
          refine va_getN (D := D) (ci := 0) (v := .int (nI nm)) (C := RX0) (T := TX0) (N := 5) hx hb hts iX0 hown hK hP 4 rfl rfl 4 (by decide) k93 (fun _ h9 => h9) rfl dX6_sumTwice_53 ?_
          refine lv_icmp_ge (tgt := 153) hx hb dX6_sumTwice_56 (by decide) (fun c_56 => ?_) (fun c_56 => ?_)
          · skip
            have hje : j = nm := Nat.le_antisymm hj (vz_ge c_56 (by omega) (by omega))
            have en_u0 : (tw nm ks gs wt sk ru k p2 p3 p4 p5 p6 (u0, l0)).1 = (tw_lp (tw nm ks gs wt sk ru (k - 1)) nm wt sk p2 v_21 v_29 p4 p5 v_42 j (u0, l0)).1 := by try subst ev_42 ; try subst ev_29 ; try subst ev_21 ; rw [tw_pos hkp, hje]
            have en_l0 : (tw nm ks gs wt sk ru k p2 p3 p4 p5 p6 (u0, l0)).2 = (tw_lp (tw nm ks gs wt sk ru (k - 1)) nm wt sk p2 v_21 v_29 p4 p5 v_42 j (u0, l0)).2 := by try subst ev_42 ; try subst ev_29 ; try subst ev_21 ; rw [tw_pos hkp, hje]
            exact W.vret hx hb hr (fun t ht hW => ⟨⟨(), rfl, trivial, (by show va_P D vwCl (zSA cI h len cd nm ks gs wt mi pl sk he nh ru bg la sd pl2 sk2 he2 nh2 ru2 bg2 la2 sd2 ((tw nm ks gs wt sk ru k p2 p3 p4 p5 p6 (u0, l0)).1) ((tw nm ks gs wt sk ru k p2 p3 p4 p5 p6 (u0, l0)).2) u1 l1 u2 l2 wy fi fl nu ik pr) t.heap; rw [ht, en_u0, en_l0]; exact hP)⟩, hS.F ht⟩) hS.2.2 dX6_sumTwice_153
          · skip
            have hlt : j < nm := vz_lt c_56 (by omega)
            refine lv_lload hx hb dX6_sumTwice_59 (lv_at hl 9 rfl) ?_
            refine lv_aload_n hx hb dX6_sumTwice_61 rfl (lv_at hl 4 rfl) ?_
            refine lv_iload hx hb dX6_sumTwice_62 (lv_at hl 0 rfl) ?_
            refine lv_iload hx hb dX6_sumTwice_64 (lv_at hl 3 rfl) ?_
            refine lv_iload hx hb dX6_sumTwice_66 (lv_at hl 2 rfl) ?_
            refine vp_callSi (W.runV (As := [.int (nI j), .int v_21, .int v_29]) (rest := [.long p5]) ⟨hx, hb, hml, hown, hts⟩ (c_X6_share l D cI h len cd nm ks gs wt mi pl sk he nh ru bg la sd pl2 sk2 he2 nh2 ru2 bg2 la2 sd2 ((tw_lp (tw nm ks gs wt sk ru (k - 1)) nm wt sk p2 v_21 v_29 p4 p5 v_42 j (u0, l0)).1) ((tw_lp (tw nm ks gs wt sk ru (k - 1)) nm wt sk p2 v_21 v_29 p4 p5 v_42 j (u0, l0)).2) u1 l1 u2 l2 wy fi fl nu ik pr (nI j) v_21 v_29) (cwV 3 hts gX6_sumTwice_X6_share rfl rfl rfl (by decide +kernel) ⟨by show 2 + 1 ≤ 3 + (d + 1); omega, by show 8 + (4 + 11) + 61 ≤ 84 + (d + 1) * 36; omega⟩) (vz_pvR (va_recv hK hP (ci := 6) (q0 := 0) rfl rfl) hZ hP) rfl rfl hl.1 rfl (lv_room (Nat.le_of_ble_eq_true rfl)) dX6_sumTwice_68 ⟨Nat.zero_le _, Nat.zero_le _⟩) (fun r_68 hr_68 => ?_)
            subst hr_68
            refine lv_i2l (v := (sa_sh wt sk (nI j) v_21 v_29 : Int32).toInt64) hx hb dX6_sumTwice_71 rfl ?_
            refine lv_lmul hx hb dX6_sumTwice_72 ?_
            refine lv_lstore (lv' := [(14, .long (p5 * ((sa_sh wt sk (nI j) v_21 v_29 : Int32).toInt64))), (13, .int (nI j)), (11, .long v_42), (10, .int v_29), (9, .int v_21), (0, .ref (h 0)), (1, .int (nI k)), (2, .int p2), (3, .int p3), (4, .int p4), (5, .long p5), (7, .long p6)]) hx hb dX6_sumTwice_73 hl (by decide) rfl (fun ls hl => ?_)
            refine lv_lload hx hb dX6_sumTwice_75 (lv_at hl 0 rfl) ?_
            refine lv_lconst (v := 0) hx hb dX6_sumTwice_77 (by decide) ?_
            refine W.lcmp hx hb dX6_sumTwice_78 ?_
            refine lv_if_le (tgt := 106) hx hb dX6_sumTwice_79 (by decide) (fun c_79 => ?_) (fun c_79 => ?_)
            · skip
              replace c_79 := (lg_cmp_le _ _).mp c_79
              refine lv_lload hx hb dX6_sumTwice_106 (lv_at hl 0 rfl) ?_
              refine lv_lconst (v := 0) hx hb dX6_sumTwice_108 (by decide) ?_
              refine W.lcmp hx hb dX6_sumTwice_109 ?_
              refine lv_if_le (tgt := 147) hx hb dX6_sumTwice_110 (by decide) (fun c_110 => ?_) (fun c_110 => ?_)
              · skip
                replace c_110 := (lg_cmp_le _ _).mp c_110
                refine lv_iinc (v := nI (j + 1)) (lv' := [(13, .int (nI (j + 1))), (14, .long (p5 * ((sa_sh wt sk (nI j) v_21 v_29 : Int32).toInt64))), (11, .long v_42), (10, .int v_29), (9, .int v_21), (0, .ref (h 0)), (1, .int (nI k)), (2, .int p2), (3, .int p3), (4, .int p4), (5, .long p5), (7, .long p6)]) hx hb dX6_sumTwice_147 hl (k := 1) rfl (vz_inc _) (by decide) rfl (fun ls hl => ?_)
                refine lv_goto (tgt := 47) hx hb dX6_sumTwice_150 (by decide) ?_
                have ew_u0 : (tw_lp (tw nm ks gs wt sk ru (k - 1)) nm wt sk p2 v_21 v_29 p4 p5 v_42 (j + 1) (u0, l0)).1 = (tw_lp (tw nm ks gs wt sk ru (k - 1)) nm wt sk p2 v_21 v_29 p4 p5 v_42 j (u0, l0)).1 := by simp only [tw_lp, c_1, c_56, c_79, c_110, ↓reduceIte, Bool.false_eq_true]
                have ew_l0 : (tw_lp (tw nm ks gs wt sk ru (k - 1)) nm wt sk p2 v_21 v_29 p4 p5 v_42 (j + 1) (u0, l0)).2 = (tw_lp (tw nm ks gs wt sk ru (k - 1)) nm wt sk p2 v_21 v_29 p4 p5 v_42 j (u0, l0)).2 := by simp only [tw_lp, c_1, c_56, c_79, c_110, ↓reduceIte, Bool.false_eq_true]
                replace hP : va_P D vwCl (zSA cI h len cd nm ks gs wt mi pl sk he nh ru bg la sd pl2 sk2 he2 nh2 ru2 bg2 la2 sd2 ((tw_lp (tw nm ks gs wt sk ru (k - 1)) nm wt sk p2 v_21 v_29 p4 p5 v_42 (j + 1) (u0, l0)).1) ((tw_lp (tw nm ks gs wt sk ru (k - 1)) nm wt sk p2 v_21 v_29 p4 p5 v_42 (j + 1) (u0, l0)).2) u1 l1 u2 l2 wy fi fl nu ik pr) H_47 := by rw [ew_u0, ew_l0]; exact hP
                replace hD : va_D A (zSA cI h len cd nm ks gs wt mi pl sk he nh ru bg la sd pl2 sk2 he2 nh2 ru2 bg2 la2 sd2 ((tw_lp (tw nm ks gs wt sk ru (k - 1)) nm wt sk p2 v_21 v_29 p4 p5 v_42 (j + 1) (u0, l0)).1) ((tw_lp (tw nm ks gs wt sk ru (k - 1)) nm wt sk p2 v_21 v_29 p4 p5 v_42 (j + 1) (u0, l0)).2) u1 l1 u2 l2 wy fi fl nu ik pr) := vz_same hD rfl
                exact ih_47 (j + 1) _ _ (by omega) (by omega) hP hD hS ls (lv_sub hl [0, 2, 3, 4, 5, 6, 7, 8, 9, 10, 11] rfl)
              · skip
                replace c_110 := mt (lg_cmp_le _ _).mpr c_110
                exact absurd c_79 c_110
            · skip
              replace c_79 := mt (lg_cmp_le _ _).mpr c_79
              refine lv_iload hx hb dX6_sumTwice_82 (lv_at hl 9 rfl) ?_
              refine lv_iload hx hb dX6_sumTwice_84 (lv_at hl 1 rfl) ?_
              refine vp_callSi (W.runS (As := [.int p4, .int (nI j)]) (rest := []) ⟨hx, hb, hml, hown, hts⟩ (c_X6_holds l p4 (nI j)) (va_cwS 2 hts gX6_sumTwice_X6_holds rfl rfl rfl (by decide +kernel) ⟨by show 0 + 1 ≤ 3 + (d + 1); omega, by show 8 + (2 + 11) + 0 ≤ 84 + (d + 1) * 36; omega⟩) (vz_psS) rfl rfl hl.1 rfl (lv_room (Nat.le_of_ble_eq_true rfl)) dX6_sumTwice_86 ⟨Nat.zero_le _, Nat.zero_le _⟩) (fun r_86 hr_86 => ?_)
              subst hr_86
              refine lv_if_eq (tgt := 106) hx hb dX6_sumTwice_89 (by decide) (fun c_89 => ?_) (fun c_89 => ?_)
              · skip
                replace c_89 := vz_b0 c_89
                refine lv_lload hx hb dX6_sumTwice_106 (lv_at hl 0 rfl) ?_
                refine lv_lconst (v := 0) hx hb dX6_sumTwice_108 (by decide) ?_
                refine W.lcmp hx hb dX6_sumTwice_109 ?_
                refine lv_if_le (tgt := 147) hx hb dX6_sumTwice_110 (by decide) (fun c_110 => ?_) (fun c_110 => ?_)
                · skip
                  replace c_110 := (lg_cmp_le _ _).mp c_110
                  exact absurd c_110 c_79
                · skip
                  replace c_110 := mt (lg_cmp_le _ _).mpr c_110
                  refine lv_aload_n hx hb dX6_sumTwice_113 rfl (lv_at hl 5 rfl) ?_
                  refine va_get (D := D) (ci := 6) (v := .ref (h 4)) (C := RX6) (T := TX6) (N := 10) hx hb hts iX6 hown hK hP 0 rfl rfl 1 (by decide) k19 (fun _ h9 => h9) rfl dX6_sumTwice_114 ?_
                  refine lv_iload_n hx hb dX6_sumTwice_117 rfl (lv_at hl 7 rfl) ?_
                  refine lv_iload hx hb dX6_sumTwice_118 (lv_at hl 1 rfl) ?_
                  refine vp_callSi (W.runV (As := [.int p2, .int (nI j)]) (rest := []) ⟨hx, hb, hml, hown, hts⟩ (c_X0_bagAfter l D cI (fun i => h (4 + i)) nm ks gs wt mi p2 (nI j)) (cwV 2 hts gX6_sumTwice_X0_bagAfter rfl rfl rfl (by decide +kernel) ⟨by show 1 + 1 ≤ 3 + (d + 1); omega, by show 8 + (4 + 11) + 20 ≤ 84 + (d + 1) * 36; omega⟩) (vz_pvR (va_recv hK hP (ci := 0) (q0 := 4) rfl rfl) hZ (hP.sub (ws' := (zBook cI (fun i => h (4 + i)) nm ks gs wt mi)) [4, 5, 6, 7, 8, 9, 10, 11, 12] rfl)) rfl rfl hl.1 rfl (lv_room (Nat.le_of_ble_eq_true rfl)) dX6_sumTwice_120 ⟨Nat.zero_le _, Nat.zero_le _⟩) (fun r_120 hr_120 => ?_)
                  subst hr_120
                  refine lv_istore (lv' := [(16, .int (bk_bag nm p2 (nI j))), (14, .long (p5 * ((sa_sh wt sk (nI j) v_21 v_29 : Int32).toInt64))), (13, .int (nI j)), (11, .long v_42), (10, .int v_29), (9, .int v_21), (0, .ref (h 0)), (1, .int (nI k)), (2, .int p2), (3, .int p3), (4, .int p4), (5, .long p5), (7, .long p6)]) hx hb dX6_sumTwice_123 hl (by decide) rfl (fun ls hl => ?_)
                  refine lv_aload_n hx hb dX6_sumTwice_125 rfl (lv_at hl 6 rfl) ?_
                  refine lv_iload_n hx hb dX6_sumTwice_126 rfl (lv_at hl 7 rfl) ?_
                  refine lv_iconst (v := 1) hx hb dX6_sumTwice_127 (by decide) ?_
                  refine lv_isub hx hb dX6_sumTwice_128 ?_
                  refine W.eq (congrArg (fun z => F0 m 129 ls (.int z :: [.ref (h 0)])) (vz_dec hkp)) ?_
                  refine lv_iload hx hb dX6_sumTwice_129 (lv_at hl 0 rfl) ?_
                  refine lv_iload hx hb dX6_sumTwice_131 (lv_at hl 2 rfl) ?_
                  refine lv_iload hx hb dX6_sumTwice_133 (lv_at hl 10 rfl) ?_
                  refine lv_iconst (v := 1) hx hb dX6_sumTwice_135 (by decide) ?_
                  refine lv_iload hx hb dX6_sumTwice_136 (lv_at hl 2 rfl) ?_
                  refine lv_ishl hx hb dX6_sumTwice_138 ?_
                  refine lv_ior hx hb dX6_sumTwice_139 ?_
                  refine lv_lload hx hb dX6_sumTwice_140 (lv_at hl 1 rfl) ?_
                  refine lv_lload hx hb dX6_sumTwice_142 (lv_at hl 3 rfl) ?_
                  have hPc := hP
                  have hDc := hD
                  have hFc : ∀ q, va_A (zSA cI h len cd nm ks gs wt mi pl sk he nh ru bg la sd pl2 sk2 he2 nh2 ru2 bg2 la2 sd2 ((tw_lp (tw nm ks gs wt sk ru (k - 1)) nm wt sk p2 v_21 v_29 p4 p5 v_42 j (u0, l0)).1) ((tw_lp (tw nm ks gs wt sk ru (k - 1)) nm wt sk p2 v_21 v_29 p4 p5 v_42 j (u0, l0)).2) u1 l1 u2 l2 wy fi fl nu ik pr) H_47.size q → A q := vz_freeAll hD hS hA
                  refine va_callv (va_runS (As := [.ref (h 0), .int (nI (k - 1)), .int (bk_bag nm p2 (nI j)), .int (nI j), .int (p4 ||| (1 <<< ((nI j) &&& 31))), .long (p5 * ((sa_sh wt sk (nI j) v_21 v_29 : Int32).toInt64)), .long v_42]) (rest := []) ⟨hx, hb, hml, hown, hts⟩ (ih_rec D cI h len cd nm ks gs wt mi pl sk he nh ru bg la sd pl2 sk2 he2 nh2 ru2 bg2 la2 sd2 ((tw_lp (tw nm ks gs wt sk ru (k - 1)) nm wt sk p2 v_21 v_29 p4 p5 v_42 j (u0, l0)).1) ((tw_lp (tw nm ks gs wt sk ru (k - 1)) nm wt sk p2 v_21 v_29 p4 p5 v_42 j (u0, l0)).2) u1 l1 u2 l2 wy fi fl nu ik pr H_47.size (k - 1) (bk_bag nm p2 (nI j)) (nI j) (p4 ||| (1 <<< ((nI j) &&& 31))) (p5 * ((sa_sh wt sk (nI j) v_21 v_29 : Int32).toInt64)) v_42 (by first | assumption | omega) (by omega) (by omega)) (va_cwS 7 hts gX6_sumTwice_X6_sumTwice rfl rfl rfl (by decide +kernel) ⟨by show 3 + d + 1 ≤ 3 + (d + 1); omega, by show 8 + (17 + 11) + (84 + d * 36) ≤ 84 + (d + 1) * 36; omega⟩) (vz_psW hZ hPc hDc) rfl rfl hl.1 rfl (lv_room (Nat.le_of_ble_eq_true rfl)) dX6_sumTwice_144 ⟨Nat.zero_le _, Nat.zero_le _⟩) hS (fun q _ h => hFc q h) hFc (fun u_144 t H_144 locs_144 ht hvm hw hB hz1 hk1 hS9 => ?_)
                  rw [ht] at hB
                  replace hP : va_P D vwCl (zSA cI h len cd nm ks gs wt mi pl sk he nh ru bg la sd pl2 sk2 he2 nh2 ru2 bg2 la2 sd2 ((tw nm ks gs wt sk ru (k - 1) (bk_bag nm p2 (nI j)) (nI j) (p4 ||| (1 <<< ((nI j) &&& 31))) (p5 * ((sa_sh wt sk (nI j) v_21 v_29 : Int32).toInt64)) v_42 (((tw_lp (tw nm ks gs wt sk ru (k - 1)) nm wt sk p2 v_21 v_29 p4 p5 v_42 j (u0, l0)).1), ((tw_lp (tw nm ks gs wt sk ru (k - 1)) nm wt sk p2 v_21 v_29 p4 p5 v_42 j (u0, l0)).2))).1) ((tw nm ks gs wt sk ru (k - 1) (bk_bag nm p2 (nI j)) (nI j) (p4 ||| (1 <<< ((nI j) &&& 31))) (p5 * ((sa_sh wt sk (nI j) v_21 v_29 : Int32).toInt64)) v_42 (((tw_lp (tw nm ks gs wt sk ru (k - 1)) nm wt sk p2 v_21 v_29 p4 p5 v_42 j (u0, l0)).1), ((tw_lp (tw nm ks gs wt sk ru (k - 1)) nm wt sk p2 v_21 v_29 p4 p5 v_42 j (u0, l0)).2))).2) u1 l1 u2 l2 wy fi fl nu ik pr) H_144 := hB
                  replace hD : va_D A (zSA cI h len cd nm ks gs wt mi pl sk he nh ru bg la sd pl2 sk2 he2 nh2 ru2 bg2 la2 sd2 ((tw nm ks gs wt sk ru (k - 1) (bk_bag nm p2 (nI j)) (nI j) (p4 ||| (1 <<< ((nI j) &&& 31))) (p5 * ((sa_sh wt sk (nI j) v_21 v_29 : Int32).toInt64)) v_42 (((tw_lp (tw nm ks gs wt sk ru (k - 1)) nm wt sk p2 v_21 v_29 p4 p5 v_42 j (u0, l0)).1), ((tw_lp (tw nm ks gs wt sk ru (k - 1)) nm wt sk p2 v_21 v_29 p4 p5 v_42 j (u0, l0)).2))).1) ((tw nm ks gs wt sk ru (k - 1) (bk_bag nm p2 (nI j)) (nI j) (p4 ||| (1 <<< ((nI j) &&& 31))) (p5 * ((sa_sh wt sk (nI j) v_21 v_29 : Int32).toInt64)) v_42 (((tw_lp (tw nm ks gs wt sk ru (k - 1)) nm wt sk p2 v_21 v_29 p4 p5 v_42 j (u0, l0)).1), ((tw_lp (tw nm ks gs wt sk ru (k - 1)) nm wt sk p2 v_21 v_29 p4 p5 v_42 j (u0, l0)).2))).2) u1 l1 u2 l2 wy fi fl nu ik pr) := vz_same hD rfl
                  replace hS := hS9
                  clear hS9 hPc hDc hFc hB hk1 hz1
                  refine lv_iinc (v := nI (j + 1)) (lv' := [(13, .int (nI (j + 1))), (16, .int (bk_bag nm p2 (nI j))), (14, .long (p5 * ((sa_sh wt sk (nI j) v_21 v_29 : Int32).toInt64))), (11, .long v_42), (10, .int v_29), (9, .int v_21), (0, .ref (h 0)), (1, .int (nI k)), (2, .int p2), (3, .int p3), (4, .int p4), (5, .long p5), (7, .long p6)]) hx hb dX6_sumTwice_147 hl (k := 2) rfl (vz_inc _) (by decide) rfl (fun ls hl => ?_)
                  refine lv_goto (tgt := 47) hx hb dX6_sumTwice_150 (by decide) ?_
                  have ew_u0 : (tw_lp (tw nm ks gs wt sk ru (k - 1)) nm wt sk p2 v_21 v_29 p4 p5 v_42 (j + 1) (u0, l0)).1 = (tw nm ks gs wt sk ru (k - 1) (bk_bag nm p2 (nI j)) (nI j) (p4 ||| (1 <<< ((nI j) &&& 31))) (p5 * ((sa_sh wt sk (nI j) v_21 v_29 : Int32).toInt64)) v_42 (((tw_lp (tw nm ks gs wt sk ru (k - 1)) nm wt sk p2 v_21 v_29 p4 p5 v_42 j (u0, l0)).1), ((tw_lp (tw nm ks gs wt sk ru (k - 1)) nm wt sk p2 v_21 v_29 p4 p5 v_42 j (u0, l0)).2))).1 := by simp only [tw_lp, c_1, c_56, c_79, c_89, c_110, ↓reduceIte, Bool.false_eq_true]
                  have ew_l0 : (tw_lp (tw nm ks gs wt sk ru (k - 1)) nm wt sk p2 v_21 v_29 p4 p5 v_42 (j + 1) (u0, l0)).2 = (tw nm ks gs wt sk ru (k - 1) (bk_bag nm p2 (nI j)) (nI j) (p4 ||| (1 <<< ((nI j) &&& 31))) (p5 * ((sa_sh wt sk (nI j) v_21 v_29 : Int32).toInt64)) v_42 (((tw_lp (tw nm ks gs wt sk ru (k - 1)) nm wt sk p2 v_21 v_29 p4 p5 v_42 j (u0, l0)).1), ((tw_lp (tw nm ks gs wt sk ru (k - 1)) nm wt sk p2 v_21 v_29 p4 p5 v_42 j (u0, l0)).2))).2 := by simp only [tw_lp, c_1, c_56, c_79, c_89, c_110, ↓reduceIte, Bool.false_eq_true]
                  replace hP : va_P D vwCl (zSA cI h len cd nm ks gs wt mi pl sk he nh ru bg la sd pl2 sk2 he2 nh2 ru2 bg2 la2 sd2 ((tw_lp (tw nm ks gs wt sk ru (k - 1)) nm wt sk p2 v_21 v_29 p4 p5 v_42 (j + 1) (u0, l0)).1) ((tw_lp (tw nm ks gs wt sk ru (k - 1)) nm wt sk p2 v_21 v_29 p4 p5 v_42 (j + 1) (u0, l0)).2) u1 l1 u2 l2 wy fi fl nu ik pr) H_144 := by rw [ew_u0, ew_l0]; exact hP
                  replace hD : va_D A (zSA cI h len cd nm ks gs wt mi pl sk he nh ru bg la sd pl2 sk2 he2 nh2 ru2 bg2 la2 sd2 ((tw_lp (tw nm ks gs wt sk ru (k - 1)) nm wt sk p2 v_21 v_29 p4 p5 v_42 (j + 1) (u0, l0)).1) ((tw_lp (tw nm ks gs wt sk ru (k - 1)) nm wt sk p2 v_21 v_29 p4 p5 v_42 (j + 1) (u0, l0)).2) u1 l1 u2 l2 wy fi fl nu ik pr) := vz_same hD rfl
                  exact ih_47 (j + 1) _ _ (by omega) (by omega) hP hD hS ls (lv_sub hl [0, 3, 4, 5, 6, 7, 8, 9, 10, 11, 12] rfl)
              · skip
                replace c_89 := vz_b1 c_89
                refine lv_aload_n hx hb dX6_sumTwice_92 rfl (lv_at hl 5 rfl) ?_
                refine va_get (D := D) (ci := 6) (v := .ref (h 27)) (C := RX6) (T := TX6) (N := 10) hx hb hts iX6 hown hK hP 0 rfl rfl 4 (by decide) k36 (fun _ h9 => h9) rfl dX6_sumTwice_93 ?_
                refine lv_lload hx hb dX6_sumTwice_96 (lv_at hl 0 rfl) ?_
                refine lv_lload hx hb dX6_sumTwice_98 (lv_at hl 2 rfl) ?_
                have hPc := (hP.sub (ws' := (zFr cI (h 27) ((tw_lp (tw nm ks gs wt sk ru (k - 1)) nm wt sk p2 v_21 v_29 p4 p5 v_42 j (u0, l0)).1) ((tw_lp (tw nm ks gs wt sk ru (k - 1)) nm wt sk p2 v_21 v_29 p4 p5 v_42 j (u0, l0)).2))) [27] rfl)
                have hDc := hD.sub (ws' := (zFr cI (h 27) ((tw_lp (tw nm ks gs wt sk ru (k - 1)) nm wt sk p2 v_21 v_29 p4 p5 v_42 j (u0, l0)).1) ((tw_lp (tw nm ks gs wt sk ru (k - 1)) nm wt sk p2 v_21 v_29 p4 p5 v_42 j (u0, l0)).2))) [27] rfl rfl
                have hFc := va_free (wc := (zFr cI (h 27) ((tw_lp (tw nm ks gs wt sk ru (k - 1)) nm wt sk p2 v_21 v_29 p4 p5 v_42 j (u0, l0)).1) ((tw_lp (tw nm ks gs wt sk ru (k - 1)) nm wt sk p2 v_21 v_29 p4 p5 v_42 j (u0, l0)).2))) hD hS hA [27] rfl
                refine va_callv (va_runV (As := [.long (p5 * ((sa_sh wt sk (nI j) v_21 v_29 : Int32).toInt64)), .long v_42]) (rest := []) ⟨hx, hb, hml, hown, hts⟩ (c_X1_add l D cI (h 27) ((tw_lp (tw nm ks gs wt sk ru (k - 1)) nm wt sk p2 v_21 v_29 p4 p5 v_42 j (u0, l0)).1) ((tw_lp (tw nm ks gs wt sk ru (k - 1)) nm wt sk p2 v_21 v_29 p4 p5 v_42 j (u0, l0)).2) H_47.size (p5 * ((sa_sh wt sk (nI j) v_21 v_29 : Int32).toInt64)) v_42) (cwV 2 hts gX6_sumTwice_X1_add rfl rfl rfl (by decide +kernel) ⟨by show 2 + 1 ≤ 3 + (d + 1); omega, by show 8 + (9 + 11) + 56 ≤ 84 + (d + 1) * 36; omega⟩) (vz_pvW (va_recv hK hP (ci := 1) (q0 := 27) rfl rfl) hZ hPc hDc) rfl rfl hl.1 rfl (lv_room (Nat.le_of_ble_eq_true rfl)) dX6_sumTwice_100 ⟨Nat.zero_le _, Nat.zero_le _⟩) hS (fun q _ h => hFc q h) hFc (fun u_100 t H_100 locs_100 ht hvm hw hB hz1 hk1 hS9 => ?_)
                rw [ht] at hB
                replace hP : va_P D vwCl (zSA cI h len cd nm ks gs wt mi pl sk he nh ru bg la sd pl2 sk2 he2 nh2 ru2 bg2 la2 sd2 (fr_au ((tw_lp (tw nm ks gs wt sk ru (k - 1)) nm wt sk p2 v_21 v_29 p4 p5 v_42 j (u0, l0)).1) ((tw_lp (tw nm ks gs wt sk ru (k - 1)) nm wt sk p2 v_21 v_29 p4 p5 v_42 j (u0, l0)).2) (p5 * ((sa_sh wt sk (nI j) v_21 v_29 : Int32).toInt64)) v_42) (fr_al ((tw_lp (tw nm ks gs wt sk ru (k - 1)) nm wt sk p2 v_21 v_29 p4 p5 v_42 j (u0, l0)).1) ((tw_lp (tw nm ks gs wt sk ru (k - 1)) nm wt sk p2 v_21 v_29 p4 p5 v_42 j (u0, l0)).2) (p5 * ((sa_sh wt sk (nI j) v_21 v_29 : Int32).toInt64)) v_42) u1 l1 u2 l2 wy fi fl nu ik pr) H_100 := vz_join (w1 := (zFr cI (h 27) (fr_au ((tw_lp (tw nm ks gs wt sk ru (k - 1)) nm wt sk p2 v_21 v_29 p4 p5 v_42 j (u0, l0)).1) ((tw_lp (tw nm ks gs wt sk ru (k - 1)) nm wt sk p2 v_21 v_29 p4 p5 v_42 j (u0, l0)).2) (p5 * ((sa_sh wt sk (nI j) v_21 v_29 : Int32).toInt64)) v_42) (fr_al ((tw_lp (tw nm ks gs wt sk ru (k - 1)) nm wt sk p2 v_21 v_29 p4 p5 v_42 j (u0, l0)).1) ((tw_lp (tw nm ks gs wt sk ru (k - 1)) nm wt sk p2 v_21 v_29 p4 p5 v_42 j (u0, l0)).2) (p5 * ((sa_sh wt sk (nI j) v_21 v_29 : Int32).toInt64)) v_42))) hP hD [27] rfl rfl hk1 hB
                replace hD : va_D A (zSA cI h len cd nm ks gs wt mi pl sk he nh ru bg la sd pl2 sk2 he2 nh2 ru2 bg2 la2 sd2 (fr_au ((tw_lp (tw nm ks gs wt sk ru (k - 1)) nm wt sk p2 v_21 v_29 p4 p5 v_42 j (u0, l0)).1) ((tw_lp (tw nm ks gs wt sk ru (k - 1)) nm wt sk p2 v_21 v_29 p4 p5 v_42 j (u0, l0)).2) (p5 * ((sa_sh wt sk (nI j) v_21 v_29 : Int32).toInt64)) v_42) (fr_al ((tw_lp (tw nm ks gs wt sk ru (k - 1)) nm wt sk p2 v_21 v_29 p4 p5 v_42 j (u0, l0)).1) ((tw_lp (tw nm ks gs wt sk ru (k - 1)) nm wt sk p2 v_21 v_29 p4 p5 v_42 j (u0, l0)).2) (p5 * ((sa_sh wt sk (nI j) v_21 v_29 : Int32).toInt64)) v_42) u1 l1 u2 l2 wy fi fl nu ik pr) := vz_same hD rfl
                replace hS := hS9
                clear hS9 hPc hDc hFc hB hk1 hz1
                refine lv_goto (tgt := 147) hx hb dX6_sumTwice_103 (by decide) ?_
                refine lv_iinc (v := nI (j + 1)) (lv' := [(13, .int (nI (j + 1))), (14, .long (p5 * ((sa_sh wt sk (nI j) v_21 v_29 : Int32).toInt64))), (11, .long v_42), (10, .int v_29), (9, .int v_21), (0, .ref (h 0)), (1, .int (nI k)), (2, .int p2), (3, .int p3), (4, .int p4), (5, .long p5), (7, .long p6)]) hx hb dX6_sumTwice_147 hl (k := 1) rfl (vz_inc _) (by decide) rfl (fun ls hl => ?_)
                refine lv_goto (tgt := 47) hx hb dX6_sumTwice_150 (by decide) ?_
                have ew_u0 : (tw_lp (tw nm ks gs wt sk ru (k - 1)) nm wt sk p2 v_21 v_29 p4 p5 v_42 (j + 1) (u0, l0)).1 = fr_au ((tw_lp (tw nm ks gs wt sk ru (k - 1)) nm wt sk p2 v_21 v_29 p4 p5 v_42 j (u0, l0)).1) ((tw_lp (tw nm ks gs wt sk ru (k - 1)) nm wt sk p2 v_21 v_29 p4 p5 v_42 j (u0, l0)).2) (p5 * ((sa_sh wt sk (nI j) v_21 v_29 : Int32).toInt64)) v_42 := by simp only [tw_lp, c_1, c_56, c_79, c_89, ↓reduceIte, Bool.false_eq_true]
                have ew_l0 : (tw_lp (tw nm ks gs wt sk ru (k - 1)) nm wt sk p2 v_21 v_29 p4 p5 v_42 (j + 1) (u0, l0)).2 = fr_al ((tw_lp (tw nm ks gs wt sk ru (k - 1)) nm wt sk p2 v_21 v_29 p4 p5 v_42 j (u0, l0)).1) ((tw_lp (tw nm ks gs wt sk ru (k - 1)) nm wt sk p2 v_21 v_29 p4 p5 v_42 j (u0, l0)).2) (p5 * ((sa_sh wt sk (nI j) v_21 v_29 : Int32).toInt64)) v_42 := by simp only [tw_lp, c_1, c_56, c_79, c_89, ↓reduceIte, Bool.false_eq_true]
                replace hP : va_P D vwCl (zSA cI h len cd nm ks gs wt mi pl sk he nh ru bg la sd pl2 sk2 he2 nh2 ru2 bg2 la2 sd2 ((tw_lp (tw nm ks gs wt sk ru (k - 1)) nm wt sk p2 v_21 v_29 p4 p5 v_42 (j + 1) (u0, l0)).1) ((tw_lp (tw nm ks gs wt sk ru (k - 1)) nm wt sk p2 v_21 v_29 p4 p5 v_42 (j + 1) (u0, l0)).2) u1 l1 u2 l2 wy fi fl nu ik pr) H_100 := by rw [ew_u0, ew_l0]; exact hP
                replace hD : va_D A (zSA cI h len cd nm ks gs wt mi pl sk he nh ru bg la sd pl2 sk2 he2 nh2 ru2 bg2 la2 sd2 ((tw_lp (tw nm ks gs wt sk ru (k - 1)) nm wt sk p2 v_21 v_29 p4 p5 v_42 (j + 1) (u0, l0)).1) ((tw_lp (tw nm ks gs wt sk ru (k - 1)) nm wt sk p2 v_21 v_29 p4 p5 v_42 (j + 1) (u0, l0)).2) u1 l1 u2 l2 wy fi fl nu ik pr) := vz_same hD rfl
                exact ih_47 (j + 1) _ _ (by omega) (by omega) hP hD hS ls (lv_sub hl [0, 2, 3, 4, 5, 6, 7, 8, 9, 10, 11] rfl)
      have ew_u0 : (tw_lp (tw nm ks gs wt sk ru (k - 1)) nm wt sk p2 v_21 v_29 p4 p5 v_42 0 (u0, l0)).1 = u0 := by rfl
      have ew_l0 : (tw_lp (tw nm ks gs wt sk ru (k - 1)) nm wt sk p2 v_21 v_29 p4 p5 v_42 0 (u0, l0)).2 = l0 := by rfl
      replace hP : va_P D vwCl (zSA cI h len cd nm ks gs wt mi pl sk he nh ru bg la sd pl2 sk2 he2 nh2 ru2 bg2 la2 sd2 ((tw_lp (tw nm ks gs wt sk ru (k - 1)) nm wt sk p2 v_21 v_29 p4 p5 v_42 0 (u0, l0)).1) ((tw_lp (tw nm ks gs wt sk ru (k - 1)) nm wt sk p2 v_21 v_29 p4 p5 v_42 0 (u0, l0)).2) u1 l1 u2 l2 wy fi fl nu ik pr) s.heap := by rw [ew_u0, ew_l0]; exact hP
      replace hD : va_D A (zSA cI h len cd nm ks gs wt mi pl sk he nh ru bg la sd pl2 sk2 he2 nh2 ru2 bg2 la2 sd2 ((tw_lp (tw nm ks gs wt sk ru (k - 1)) nm wt sk p2 v_21 v_29 p4 p5 v_42 0 (u0, l0)).1) ((tw_lp (tw nm ks gs wt sk ru (k - 1)) nm wt sk p2 v_21 v_29 p4 p5 v_42 0 (u0, l0)).2) u1 l1 u2 l2 wy fi fl nu ik pr) := vz_same hD rfl
      exact L_47 _ 0 _ _ (Nat.lt_succ_self _) (Nat.zero_le _) hP hD hS ls (lv_sub hl [0, 1, 2, 3, 4, 5, 6, 7, 8, 9, 10] rfl)
    · skip
      have hk0 : k = 0 := vz_npos c_1 (by omega)
      have en_u0 : (tw nm ks gs wt sk ru k p2 p3 p4 p5 p6 (u0, l0)).1 = u0 := by rw [hk0] ; rfl
      have en_l0 : (tw nm ks gs wt sk ru k p2 p3 p4 p5 p6 (u0, l0)).2 = l0 := by rw [hk0] ; rfl
      exact W.vret hx hb hr (fun t ht hW => ⟨⟨(), rfl, trivial, (by show va_P D vwCl (zSA cI h len cd nm ks gs wt mi pl sk he nh ru bg la sd pl2 sk2 he2 nh2 ru2 bg2 la2 sd2 ((tw nm ks gs wt sk ru k p2 p3 p4 p5 p6 (u0, l0)).1) ((tw nm ks gs wt sk ru k p2 p3 p4 p5 p6 (u0, l0)).2) u1 l1 u2 l2 wy fi fl nu ik pr) t.heap; rw [ht, en_u0, en_l0]; exact hP)⟩, hS.F ht⟩) hS.2.2 dX6_sumTwice_4
set_option maxHeartbeats 4000000 in
set_option maxRecDepth 100000 in
theorem c_X6_reckonTwice (l : Launch) (D : va_G) (cI : ClassId) (h : Nat → Nat) (len : Nat) (cd : Nat → Int32) (nm : Nat) (ks : Nat → Int32) (gs : Nat → Int32) (wt : Nat → Int32) (mi : Nat → Int32) (pl : Nat → Int32) (sk : Nat → Int32) (he : Nat → Int32) (nh : Nat) (ru : Int32) (bg : Int32) (la : Int32) (sd : Bool) (pl2 : Nat → Int32) (sk2 : Nat → Int32) (he2 : Nat → Int32) (nh2 : Nat) (ru2 : Int32) (bg2 : Int32) (la2 : Int32) (sd2 : Bool) (u0 : Int64) (l0 : Int64) (u1 : Int64) (l1 : Int64) (u2 : Int64) (l2 : Int64) (wy : Nat → Int32) (fi : Nat → Int32) (fl : Int32) (nu : Int32) (ik : Bool) (pr : Nat) (sz : Nat) (k : Nat) (hnm : nm ≤ 6) (hk3 : k ≤ 3) : Met l yX6_reckonTwice wsX6_reckonTwice ({ frames := 8, cells := 0, slots := 0, locals := 264 } : Room) (vz_rw D cI (zSA cI h len cd nm ks gs wt mi pl sk he nh ru bg la sd pl2 sk2 he2 nh2 ru2 bg2 la2 sd2 u0 l0 u1 l1 u2 l2 wy fi fl nu ik pr) sz [.ref (h 0), .int (nI k)]) (va_Qv (fun (_ : Unit) => True) (fun (u : Unit) (t : State) => va_P D vwCl (zSA cI h len cd nm ks gs wt mi pl sk he nh ru bg la sd pl2 sk2 he2 nh2 ru2 bg2 la2 sd2 ((tw nm ks gs wt sk ru k bg la 0 1 1 (0, 1)).1) ((tw nm ks gs wt sk ru k bg la 0 1 1 (0, 1)).2) u1 l1 u2 l2 wy fi fl nu ik pr) t.heap) (va_A (zSA cI h len cd nm ks gs wt mi pl sk he nh ru bg la sd pl2 sk2 he2 nh2 ru2 bg2 la2 sd2 u0 l0 u1 l1 u2 l2 wy fi fl nu ik pr) sz)) 0 0 (va_A (zSA cI h len cd nm ks gs wt mi pl sk he nh ru bg la sd pl2 sk2 he2 nh2 ru2 bg2 la2 sd2 u0 l0 u1 l1 u2 l2 wy fi fl nu ik pr) sz) := by
  refine Met.ofW (cc := cX6_reckonTwice) (maxL := 2) (ret := none) (by decide) rfl ?_
  intro p e s m args below meth c s₁ B hml hv
  obtain ⟨rfl, hsz, hP, hZ, hD0⟩ := hv
  obtain ⟨hK, hN⟩ := id hZ
  have hx := B.exec
  have hb := B.bytes
  have hr := B.returns
  have hts := atoms_spec (ws := wsX6_reckonTwice) B.pre
  have hown : s.vm.findClass RX6 = some m.cls := findClass_of_methodNamed B.named
  have hlocks := B.notSynchronized
  subst hsz
  have hD := hD0.self (sz := s.heap.size)
  generalize hAe : va_A (zSA cI h len cd nm ks gs wt mi pl sk he nh ru bg la sd pl2 sk2 he2 nh2 ru2 bg2 la2 sd2 u0 l0 u1 l1 u2 l2 wy fi fl nu ik pr) s.heap.size = A at hD ⊢
  have hA : ∀ q : Nat, s.heap.size ≤ q → A q := fun q h => by rw [← hAe]; exact Or.inr h
  have hS : va_S A s.heap s.heap [] := va_S.rf
  have k26 := hts (.fieldLink RX6 26 "SongsAgain" "now" "LSongsAgain$Past;") (List.mem_of_getElem? (i := 2) rfl)
  have k36 := hts (.fieldLink RX6 36 "SongsAgain" "sum" "LSongsAgain$Fraction;") (List.mem_of_getElem? (i := 1) rfl)
  have k120 : (Cond.fieldLinkNest "SongsAgain" 120 "SongsAgain$Past" "bag" "I" "SongsAgain").before _ s = true := va_Nw.use (A := ([.ref (h 0), .int (nI k)] : List Value).toArray) rfl (hN.1 ("SongsAgain", 120, "SongsAgain$Past", "bag", "I") (List.mem_of_getElem? (i := 14) rfl))
  have k126 : (Cond.fieldLinkNest "SongsAgain" 126 "SongsAgain$Past" "last" "I" "SongsAgain").before _ s = true := va_Nw.use (A := ([.ref (h 0), .int (nI k)] : List Value).toArray) rfl (hN.1 ("SongsAgain", 126, "SongsAgain$Past", "last", "I") (List.mem_of_getElem? (i := 15) rfl))
  have iX4 : ∀ w ∈ u_ws RX4 TX4 8, w ∈ wsX6_reckonTwice := vz_in (i := 89) (n := 8) rfl
  have iX6 : ∀ w ∈ u_ws RX6 TX6 10, w ∈ wsX6_reckonTwice := vz_in (i := 79) (n := 10) rfl
  have hl := lv_entry ([.ref (h 0), .int (nI k)]) (n := 2) (Nat.le_of_ble_eq_true rfl)
  rw [lg_entry_eq]
  generalize (lg_sl ([.ref (h 0), .int (nI k)]) ++ List.replicate (2 - (lg_sl ([.ref (h 0), .int (nI k)])).length) Slot.unset).toArray = ls at hl ⊢
  have hl : lv_has ls 2 [(0, .ref (h 0)), (1, .int (nI k))] := hl
  have hP : va_P D vwCl (zSA cI h len cd nm ks gs wt mi pl sk he nh ru bg la sd pl2 sk2 he2 nh2 ru2 bg2 la2 sd2 u0 l0 u1 l1 u2 l2 wy fi fl nu ik pr) s.heap := hP
  refine lv_aload_n hx hb dX6_reckonTwice_0 rfl (lv_at hl 0 rfl) ?_
  refine va_get (D := D) (ci := 6) (v := .ref (h 27)) (C := RX6) (T := TX6) (N := 10) hx hb hts iX6 hown hK hP 0 rfl rfl 4 (by decide) k36 (fun _ h9 => h9) rfl dX6_reckonTwice_1 ?_
  refine lv_lconst (v := 0) hx hb dX6_reckonTwice_4 (by decide) ?_
  refine lv_lconst (v := 1) hx hb dX6_reckonTwice_5 (by decide) ?_
  have hPc := (hP.sub (ws' := (zFr cI (h 27) u0 l0)) [27] rfl)
  have hDc := hD.sub (ws' := (zFr cI (h 27) u0 l0)) [27] rfl rfl
  have hFc := va_free (wc := (zFr cI (h 27) u0 l0)) hD hS hA [27] rfl
  refine va_callv (va_runV (As := [.long 0, .long 1]) (rest := []) ⟨hx, hb, hml, hown, hts⟩ (c_X1_become l D cI (h 27) u0 l0 s.heap.size 0 1) (cwV 2 hts gX6_reckonTwice_X1_become rfl rfl rfl (by decide +kernel) ⟨Nat.le_of_ble_eq_true rfl, Nat.le_of_ble_eq_true rfl⟩) (vz_pvW (va_recv hK hP (ci := 1) (q0 := 27) rfl rfl) hZ hPc hDc) rfl rfl hl.1 rfl (lv_room (Nat.le_of_ble_eq_true rfl)) dX6_reckonTwice_6 ⟨Nat.zero_le _, Nat.zero_le _⟩) hS (fun q _ h => hFc q h) hFc (fun u_6 t H_6 locs_6 ht hvm hw hB hz1 hk1 hS9 => ?_)
  rw [ht] at hB
  replace hP : va_P D vwCl (zSA cI h len cd nm ks gs wt mi pl sk he nh ru bg la sd pl2 sk2 he2 nh2 ru2 bg2 la2 sd2 (fr_q (fr_cd 0 1) 0 u0) (fr_q (fr_cd 0 1) 1 l0) u1 l1 u2 l2 wy fi fl nu ik pr) H_6 := vz_join (w1 := (zFr cI (h 27) (fr_q (fr_cd 0 1) 0 u0) (fr_q (fr_cd 0 1) 1 l0))) hP hD [27] rfl rfl hk1 hB
  replace hD : va_D A (zSA cI h len cd nm ks gs wt mi pl sk he nh ru bg la sd pl2 sk2 he2 nh2 ru2 bg2 la2 sd2 (fr_q (fr_cd 0 1) 0 u0) (fr_q (fr_cd 0 1) 1 l0) u1 l1 u2 l2 wy fi fl nu ik pr) := vz_same hD rfl
  replace hS := hS9
  clear hS9 hPc hDc hFc hB hk1 hz1
  have ew_u0 : 0 = fr_q (fr_cd 0 1) 0 u0 := by exact fr_01u u0
  replace hP : va_P D vwCl (zSA cI h len cd nm ks gs wt mi pl sk he nh ru bg la sd pl2 sk2 he2 nh2 ru2 bg2 la2 sd2 0 (fr_q (fr_cd 0 1) 1 l0) u1 l1 u2 l2 wy fi fl nu ik pr) H_6 := by rw [ew_u0]; exact hP
  replace hD : va_D A (zSA cI h len cd nm ks gs wt mi pl sk he nh ru bg la sd pl2 sk2 he2 nh2 ru2 bg2 la2 sd2 0 (fr_q (fr_cd 0 1) 1 l0) u1 l1 u2 l2 wy fi fl nu ik pr) := vz_same hD rfl
  have ew_l0 : 1 = fr_q (fr_cd 0 1) 1 l0 := by exact fr_01l l0
  replace hP : va_P D vwCl (zSA cI h len cd nm ks gs wt mi pl sk he nh ru bg la sd pl2 sk2 he2 nh2 ru2 bg2 la2 sd2 0 1 u1 l1 u2 l2 wy fi fl nu ik pr) H_6 := by rw [ew_l0]; exact hP
  replace hD : va_D A (zSA cI h len cd nm ks gs wt mi pl sk he nh ru bg la sd pl2 sk2 he2 nh2 ru2 bg2 la2 sd2 0 1 u1 l1 u2 l2 wy fi fl nu ik pr) := vz_same hD rfl
  refine lv_aload_n hx hb dX6_reckonTwice_9 rfl (lv_at hl 0 rfl) ?_
  refine lv_iload_n hx hb dX6_reckonTwice_10 rfl (lv_at hl 1 rfl) ?_
  refine lv_aload_n hx hb dX6_reckonTwice_11 rfl (lv_at hl 0 rfl) ?_
  refine va_get (D := D) (ci := 6) (v := .ref (h 13)) (C := RX6) (T := TX6) (N := 10) hx hb hts iX6 hown hK hP 0 rfl rfl 2 (by decide) k26 (fun _ h9 => h9) rfl dX6_reckonTwice_12 ?_
  refine va_getN (D := D) (ci := 4) (v := .int bg) (C := RX4) (T := TX4) (N := 8) hx hb hts iX4 hown hK hP 13 rfl rfl 5 (by decide) k120 (fun _ h9 => h9) rfl dX6_reckonTwice_15 ?_
  refine lv_aload_n hx hb dX6_reckonTwice_18 rfl (lv_at hl 0 rfl) ?_
  refine va_get (D := D) (ci := 6) (v := .ref (h 13)) (C := RX6) (T := TX6) (N := 10) hx hb hts iX6 hown hK hP 0 rfl rfl 2 (by decide) k26 (fun _ h9 => h9) rfl dX6_reckonTwice_19 ?_
  refine va_getN (D := D) (ci := 4) (v := .int la) (C := RX4) (T := TX4) (N := 8) hx hb hts iX4 hown hK hP 13 rfl rfl 6 (by decide) k126 (fun _ h9 => h9) rfl dX6_reckonTwice_22 ?_
  refine lv_iconst (v := 0) hx hb dX6_reckonTwice_25 (by decide) ?_
  refine lv_lconst (v := 1) hx hb dX6_reckonTwice_26 (by decide) ?_
  refine lv_lconst (v := 1) hx hb dX6_reckonTwice_27 (by decide) ?_
  have hPc := hP
  have hDc := hD
  have hFc : ∀ q, va_A (zSA cI h len cd nm ks gs wt mi pl sk he nh ru bg la sd pl2 sk2 he2 nh2 ru2 bg2 la2 sd2 0 1 u1 l1 u2 l2 wy fi fl nu ik pr) H_6.size q → A q := vz_freeAll hD hS hA
  refine va_callv (va_runS (As := [.ref (h 0), .int (nI k), .int bg, .int la, .int 0, .long 1, .long 1]) (rest := []) ⟨hx, hb, hml, hown, hts⟩ (c_X6_sumTwice l 4 D cI h len cd nm ks gs wt mi pl sk he nh ru bg la sd pl2 sk2 he2 nh2 ru2 bg2 la2 sd2 0 1 u1 l1 u2 l2 wy fi fl nu ik pr H_6.size k bg la 0 1 1 (by first | assumption | omega) (by omega) (by first | assumption | omega)) (va_cwS 7 hts gX6_reckonTwice_X6_sumTwice rfl rfl rfl (by decide +kernel) ⟨Nat.le_of_ble_eq_true rfl, Nat.le_of_ble_eq_true rfl⟩) (vz_psW hZ hPc hDc) rfl rfl hl.1 rfl (lv_room (Nat.le_of_ble_eq_true rfl)) dX6_reckonTwice_28 ⟨Nat.zero_le _, Nat.zero_le _⟩) hS (fun q _ h => hFc q h) hFc (fun u_28 t H_28 locs_28 ht hvm hw hB hz1 hk1 hS9 => ?_)
  rw [ht] at hB
  replace hP : va_P D vwCl (zSA cI h len cd nm ks gs wt mi pl sk he nh ru bg la sd pl2 sk2 he2 nh2 ru2 bg2 la2 sd2 ((tw nm ks gs wt sk ru k bg la 0 1 1 (0, 1)).1) ((tw nm ks gs wt sk ru k bg la 0 1 1 (0, 1)).2) u1 l1 u2 l2 wy fi fl nu ik pr) H_28 := hB
  replace hD : va_D A (zSA cI h len cd nm ks gs wt mi pl sk he nh ru bg la sd pl2 sk2 he2 nh2 ru2 bg2 la2 sd2 ((tw nm ks gs wt sk ru k bg la 0 1 1 (0, 1)).1) ((tw nm ks gs wt sk ru k bg la 0 1 1 (0, 1)).2) u1 l1 u2 l2 wy fi fl nu ik pr) := vz_same hD rfl
  replace hS := hS9
  clear hS9 hPc hDc hFc hB hk1 hz1
  exact W.vret hx hb hr (fun t ht hW => ⟨⟨(), rfl, trivial, (by show va_P D vwCl (zSA cI h len cd nm ks gs wt mi pl sk he nh ru bg la sd pl2 sk2 he2 nh2 ru2 bg2 la2 sd2 ((tw nm ks gs wt sk ru k bg la 0 1 1 (0, 1)).1) ((tw nm ks gs wt sk ru k bg la 0 1 1 (0, 1)).2) u1 l1 u2 l2 wy fi fl nu ik pr) t.heap; rw [ht]; exact hP)⟩, hS.F ht⟩) hS.2.2 dX6_reckonTwice_31

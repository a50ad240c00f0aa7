section
-- ===== PART A: goes FIRST, ahead of the names: the tables' words, and 'selects' of the private methods out of them =====
/-- a private method of a class that the tables say can be made, by its rows of tables_1 -/
def lw_okq (q : MethodName × Nat) : Prop := (q.1.cls ≠ "java/lang/invoke/MethodHandle" ∧ q.1.cls ≠ "java/lang/invoke/VarHandle") ∧ Cond.instantiable q.1.cls q.2 ∈ tables_1 ∧ Cond.privateMethod q.1 ∈ tables_1 ∧ Cond.instanceMethod q.1 ∈ tables_1
theorem lw_p0 : lw_okq (⟨"SongsAgain$Page", "fits", "(II)Z"⟩, 2) := ⟨⟨by decide +kernel, by decide +kernel⟩, List.mem_of_getElem? (i := 25) (by decide +kernel), List.mem_of_getElem? (i := 221) (by decide +kernel), List.mem_of_getElem? (i := 222) (by decide +kernel)⟩
theorem lw_p1 : lw_okq (⟨"SongsAgain", "songFact", "(II)I"⟩, 10) := ⟨⟨by decide +kernel, by decide +kernel⟩, List.mem_of_getElem? (i := 17) (by decide +kernel), List.mem_of_getElem? (i := 375) (by decide +kernel), List.mem_of_getElem? (i := 376) (by decide +kernel)⟩
theorem lw_p2 : lw_okq (⟨"SongsAgain", "weight", "(I)I"⟩, 10) := ⟨⟨by decide +kernel, by decide +kernel⟩, List.mem_of_getElem? (i := 17) (by decide +kernel), List.mem_of_getElem? (i := 380) (by decide +kernel), List.mem_of_getElem? (i := 381) (by decide +kernel)⟩
theorem lw_p3 : lw_okq (⟨"SongsAgain", "mayNow", "()I"⟩, 10) := ⟨⟨by decide +kernel, by decide +kernel⟩, List.mem_of_getElem? (i := 17) (by decide +kernel), List.mem_of_getElem? (i := 388) (by decide +kernel), List.mem_of_getElem? (i := 389) (by decide +kernel)⟩
theorem lw_p4 : lw_okq (⟨"SongsAgain$Book", "mayFollow", "(I)I"⟩, 5) := ⟨⟨by decide +kernel, by decide +kernel⟩, List.mem_of_getElem? (i := 54) (by decide +kernel), List.mem_of_getElem? (i := 397) (by decide +kernel), List.mem_of_getElem? (i := 398) (by decide +kernel)⟩
theorem lw_p5 : lw_okq (⟨"SongsAgain", "chanceNow", "(I)LSongsAgain$Fraction;"⟩, 10) := ⟨⟨by decide +kernel, by decide +kernel⟩, List.mem_of_getElem? (i := 17) (by decide +kernel), List.mem_of_getElem? (i := 402) (by decide +kernel), List.mem_of_getElem? (i := 403) (by decide +kernel)⟩
theorem lw_p6 : lw_okq (⟨"SongsAgain", "weightTogether", "(I)I"⟩, 10) := ⟨⟨by decide +kernel, by decide +kernel⟩, List.mem_of_getElem? (i := 17) (by decide +kernel), List.mem_of_getElem? (i := 406) (by decide +kernel), List.mem_of_getElem? (i := 407) (by decide +kernel)⟩
theorem lw_p7 : lw_okq (⟨"SongsAgain", "share", "(III)I"⟩, 10) := ⟨⟨by decide +kernel, by decide +kernel⟩, List.mem_of_getElem? (i := 17) (by decide +kernel), List.mem_of_getElem? (i := 410) (by decide +kernel), List.mem_of_getElem? (i := 411) (by decide +kernel)⟩
theorem lw_p8 : lw_okq (⟨"SongsAgain", "noPlayer", "()Z"⟩, 10) := ⟨⟨by decide +kernel, by decide +kernel⟩, List.mem_of_getElem? (i := 17) (by decide +kernel), List.mem_of_getElem? (i := 442) (by decide +kernel), List.mem_of_getElem? (i := 443) (by decide +kernel)⟩
theorem lw_p9 : lw_okq (⟨"SongsAgain", "reckonTwice", "(I)V"⟩, 10) := ⟨⟨by decide +kernel, by decide +kernel⟩, List.mem_of_getElem? (i := 17) (by decide +kernel), List.mem_of_getElem? (i := 470) (by decide +kernel), List.mem_of_getElem? (i := 471) (by decide +kernel)⟩
theorem lw_p10 : lw_okq (⟨"SongsAgain$Orders", "take", "(I)V"⟩, 4) := ⟨⟨by decide +kernel, by decide +kernel⟩, List.mem_of_getElem? (i := 141) (by decide +kernel), List.mem_of_getElem? (i := 493) (by decide +kernel), List.mem_of_getElem? (i := 494) (by decide +kernel)⟩
theorem lw_p11 : lw_okq (⟨"SongsAgain", "possibleRules", "()I"⟩, 10) := ⟨⟨by decide +kernel, by decide +kernel⟩, List.mem_of_getElem? (i := 17) (by decide +kernel), List.mem_of_getElem? (i := 524) (by decide +kernel), List.mem_of_getElem? (i := 525) (by decide +kernel)⟩
theorem lw_p12 : lw_okq (⟨"SongsAgain", "reckonHeard", "(I)V"⟩, 10) := ⟨⟨by decide +kernel, by decide +kernel⟩, List.mem_of_getElem? (i := 17) (by decide +kernel), List.mem_of_getElem? (i := 528) (by decide +kernel), List.mem_of_getElem? (i := 529) (by decide +kernel)⟩
theorem lw_p13 : lw_okq (⟨"SongsAgain", "likeliestRule", "()I"⟩, 10) := ⟨⟨by decide +kernel, by decide +kernel⟩, List.mem_of_getElem? (i := 17) (by decide +kernel), List.mem_of_getElem? (i := 545) (by decide +kernel), List.mem_of_getElem? (i := 546) (by decide +kernel)⟩
theorem lw_p14 : lw_okq (⟨"SongsAgain", "eveningFact", "(III)I"⟩, 10) := ⟨⟨by decide +kernel, by decide +kernel⟩, List.mem_of_getElem? (i := 17) (by decide +kernel), List.mem_of_getElem? (i := 557) (by decide +kernel), List.mem_of_getElem? (i := 558) (by decide +kernel)⟩
theorem lw_p15 : lw_okq (⟨"SongsAgain", "drawn", "(JI)I"⟩, 10) := ⟨⟨by decide +kernel, by decide +kernel⟩, List.mem_of_getElem? (i := 17) (by decide +kernel), List.mem_of_getElem? (i := 567) (by decide +kernel), List.mem_of_getElem? (i := 568) (by decide +kernel)⟩
def lw_privs_1 : List (MethodName × Nat) := [(⟨"SongsAgain$Page", "fits", "(II)Z"⟩, 2), (⟨"SongsAgain", "songFact", "(II)I"⟩, 10), (⟨"SongsAgain", "weight", "(I)I"⟩, 10), (⟨"SongsAgain", "mayNow", "()I"⟩, 10), (⟨"SongsAgain$Book", "mayFollow", "(I)I"⟩, 5), (⟨"SongsAgain", "chanceNow", "(I)LSongsAgain$Fraction;"⟩, 10), (⟨"SongsAgain", "weightTogether", "(I)I"⟩, 10), (⟨"SongsAgain", "share", "(III)I"⟩, 10), (⟨"SongsAgain", "noPlayer", "()Z"⟩, 10), (⟨"SongsAgain", "reckonTwice", "(I)V"⟩, 10), (⟨"SongsAgain$Orders", "take", "(I)V"⟩, 4), (⟨"SongsAgain", "possibleRules", "()I"⟩, 10), (⟨"SongsAgain", "reckonHeard", "(I)V"⟩, 10), (⟨"SongsAgain", "likeliestRule", "()I"⟩, 10), (⟨"SongsAgain", "eveningFact", "(III)I"⟩, 10), (⟨"SongsAgain", "drawn", "(JI)I"⟩, 10)]
theorem lw_r1 : ∀ q ∈ lw_privs_1, lw_okq q := List.forall_mem_cons.mpr ⟨lw_p0, List.forall_mem_cons.mpr ⟨lw_p1, List.forall_mem_cons.mpr ⟨lw_p2, List.forall_mem_cons.mpr ⟨lw_p3, List.forall_mem_cons.mpr ⟨lw_p4, List.forall_mem_cons.mpr ⟨lw_p5, List.forall_mem_cons.mpr ⟨lw_p6, List.forall_mem_cons.mpr ⟨lw_p7, List.forall_mem_cons.mpr ⟨lw_p8, List.forall_mem_cons.mpr ⟨lw_p9, List.forall_mem_cons.mpr ⟨lw_p10, List.forall_mem_cons.mpr ⟨lw_p11, List.forall_mem_cons.mpr ⟨lw_p12, List.forall_mem_cons.mpr ⟨lw_p13, List.forall_mem_cons.mpr ⟨lw_p14, List.forall_mem_cons.mpr ⟨lw_p15, fun _ h => absurd h List.not_mem_nil⟩⟩⟩⟩⟩⟩⟩⟩⟩⟩⟩⟩⟩⟩⟩⟩
theorem lw_p16 : lw_okq (⟨"SongsAgain", "minutesPlayed", "()I"⟩, 10) := ⟨⟨by decide +kernel, by decide +kernel⟩, List.mem_of_getElem? (i := 17) (by decide +kernel), List.mem_of_getElem? (i := 593) (by decide +kernel), List.mem_of_getElem? (i := 594) (by decide +kernel)⟩
theorem lw_p17 : lw_okq (⟨"SongsAgain", "digestOfPlayer", "(J)J"⟩, 10) := ⟨⟨by decide +kernel, by decide +kernel⟩, List.mem_of_getElem? (i := 17) (by decide +kernel), List.mem_of_getElem? (i := 607) (by decide +kernel), List.mem_of_getElem? (i := 608) (by decide +kernel)⟩
theorem lw_p18 : lw_okq (⟨"SongsAgainModel", "faultOf", "()I"⟩, 30) := ⟨⟨by decide +kernel, by decide +kernel⟩, List.mem_of_getElem? (i := 612) (by decide +kernel), List.mem_of_getElem? (i := 725) (by decide +kernel), List.mem_of_getElem? (i := 726) (by decide +kernel)⟩
theorem lw_p19 : lw_okq (⟨"SongsAgainModel", "go", "(I)Z"⟩, 30) := ⟨⟨by decide +kernel, by decide +kernel⟩, List.mem_of_getElem? (i := 612) (by decide +kernel), List.mem_of_getElem? (i := 729) (by decide +kernel), List.mem_of_getElem? (i := 730) (by decide +kernel)⟩
theorem lw_p20 : lw_okq (⟨"SongsAgainModel", "all", "()I"⟩, 30) := ⟨⟨by decide +kernel, by decide +kernel⟩, List.mem_of_getElem? (i := 612) (by decide +kernel), List.mem_of_getElem? (i := 741) (by decide +kernel), List.mem_of_getElem? (i := 742) (by decide +kernel)⟩
theorem lw_p21 : lw_okq (⟨"SongsAgainModel", "isSong", "(I)Z"⟩, 30) := ⟨⟨by decide +kernel, by decide +kernel⟩, List.mem_of_getElem? (i := 612) (by decide +kernel), List.mem_of_getElem? (i := 749) (by decide +kernel), List.mem_of_getElem? (i := 750) (by decide +kernel)⟩
theorem lw_p22 : lw_okq (⟨"SongsAgainModel", "tell", "(II)I"⟩, 30) := ⟨⟨by decide +kernel, by decide +kernel⟩, List.mem_of_getElem? (i := 612) (by decide +kernel), List.mem_of_getElem? (i := 753) (by decide +kernel), List.mem_of_getElem? (i := 754) (by decide +kernel)⟩
theorem lw_p23 : lw_okq (⟨"SongsAgainModel", "weightOf", "(I)I"⟩, 30) := ⟨⟨by decide +kernel, by decide +kernel⟩, List.mem_of_getElem? (i := 612) (by decide +kernel), List.mem_of_getElem? (i := 757) (by decide +kernel), List.mem_of_getElem? (i := 758) (by decide +kernel)⟩
theorem lw_p24 : lw_okq (⟨"SongsAgainModel", "baseOf", "(I)I"⟩, 30) := ⟨⟨by decide +kernel, by decide +kernel⟩, List.mem_of_getElem? (i := 612) (by decide +kernel), List.mem_of_getElem? (i := 761) (by decide +kernel), List.mem_of_getElem? (i := 762) (by decide +kernel)⟩
theorem lw_p25 : lw_okq (⟨"SongsAgainModel", "minutesOf", "(I)I"⟩, 30) := ⟨⟨by decide +kernel, by decide +kernel⟩, List.mem_of_getElem? (i := 612) (by decide +kernel), List.mem_of_getElem? (i := 765) (by decide +kernel), List.mem_of_getElem? (i := 766) (by decide +kernel)⟩
theorem lw_p26 : lw_okq (⟨"SongsAgainModel", "mayNow", "()I"⟩, 30) := ⟨⟨by decide +kernel, by decide +kernel⟩, List.mem_of_getElem? (i := 612) (by decide +kernel), List.mem_of_getElem? (i := 769) (by decide +kernel), List.mem_of_getElem? (i := 770) (by decide +kernel)⟩
theorem lw_p27 : lw_okq (⟨"SongsAgainModel", "mayBy", "(III)I"⟩, 30) := ⟨⟨by decide +kernel, by decide +kernel⟩, List.mem_of_getElem? (i := 612) (by decide +kernel), List.mem_of_getElem? (i := 773) (by decide +kernel), List.mem_of_getElem? (i := 774) (by decide +kernel)⟩
theorem lw_p28 : lw_okq (⟨"SongsAgainModel", "chanceOf", "(II)I"⟩, 30) := ⟨⟨by decide +kernel, by decide +kernel⟩, List.mem_of_getElem? (i := 612) (by decide +kernel), List.mem_of_getElem? (i := 777) (by decide +kernel), List.mem_of_getElem? (i := 778) (by decide +kernel)⟩
theorem lw_p29 : lw_okq (⟨"SongsAgainModel", "sharesOf", "(I)I"⟩, 30) := ⟨⟨by decide +kernel, by decide +kernel⟩, List.mem_of_getElem? (i := 612) (by decide +kernel), List.mem_of_getElem? (i := 781) (by decide +kernel), List.mem_of_getElem? (i := 782) (by decide +kernel)⟩
theorem lw_p30 : lw_okq (⟨"SongsAgainModel", "sumOf", "(IZ)I"⟩, 30) := ⟨⟨by decide +kernel, by decide +kernel⟩, List.mem_of_getElem? (i := 612) (by decide +kernel), List.mem_of_getElem? (i := 785) (by decide +kernel), List.mem_of_getElem? (i := 786) (by decide +kernel)⟩
theorem lw_p31 : lw_okq (⟨"SongsAgainModel", "shareOf", "(II)I"⟩, 30) := ⟨⟨by decide +kernel, by decide +kernel⟩, List.mem_of_getElem? (i := 612) (by decide +kernel), List.mem_of_getElem? (i := 792) (by decide +kernel), List.mem_of_getElem? (i := 793) (by decide +kernel)⟩
def lw_privs_2 : List (MethodName × Nat) := [(⟨"SongsAgain", "minutesPlayed", "()I"⟩, 10), (⟨"SongsAgain", "digestOfPlayer", "(J)J"⟩, 10), (⟨"SongsAgainModel", "faultOf", "()I"⟩, 30), (⟨"SongsAgainModel", "go", "(I)Z"⟩, 30), (⟨"SongsAgainModel", "all", "()I"⟩, 30), (⟨"SongsAgainModel", "isSong", "(I)Z"⟩, 30), (⟨"SongsAgainModel", "tell", "(II)I"⟩, 30), (⟨"SongsAgainModel", "weightOf", "(I)I"⟩, 30), (⟨"SongsAgainModel", "baseOf", "(I)I"⟩, 30), (⟨"SongsAgainModel", "minutesOf", "(I)I"⟩, 30), (⟨"SongsAgainModel", "mayNow", "()I"⟩, 30), (⟨"SongsAgainModel", "mayBy", "(III)I"⟩, 30), (⟨"SongsAgainModel", "chanceOf", "(II)I"⟩, 30), (⟨"SongsAgainModel", "sharesOf", "(I)I"⟩, 30), (⟨"SongsAgainModel", "sumOf", "(IZ)I"⟩, 30), (⟨"SongsAgainModel", "shareOf", "(II)I"⟩, 30)]
theorem lw_r2 : ∀ q ∈ lw_privs_2, lw_okq q := List.forall_mem_cons.mpr ⟨lw_p16, List.forall_mem_cons.mpr ⟨lw_p17, List.forall_mem_cons.mpr ⟨lw_p18, List.forall_mem_cons.mpr ⟨lw_p19, List.forall_mem_cons.mpr ⟨lw_p20, List.forall_mem_cons.mpr ⟨lw_p21, List.forall_mem_cons.mpr ⟨lw_p22, List.forall_mem_cons.mpr ⟨lw_p23, List.forall_mem_cons.mpr ⟨lw_p24, List.forall_mem_cons.mpr ⟨lw_p25, List.forall_mem_cons.mpr ⟨lw_p26, List.forall_mem_cons.mpr ⟨lw_p27, List.forall_mem_cons.mpr ⟨lw_p28, List.forall_mem_cons.mpr ⟨lw_p29, List.forall_mem_cons.mpr ⟨lw_p30, List.forall_mem_cons.mpr ⟨lw_p31, fun _ h => absurd h List.not_mem_nil⟩⟩⟩⟩⟩⟩⟩⟩⟩⟩⟩⟩⟩⟩⟩⟩
theorem lw_p32 : lw_okq (⟨"SongsAgainModel", "lacks", "()Z"⟩, 30) := ⟨⟨by decide +kernel, by decide +kernel⟩, List.mem_of_getElem? (i := 612) (by decide +kernel), List.mem_of_getElem? (i := 808) (by decide +kernel), List.mem_of_getElem? (i := 809) (by decide +kernel)⟩
theorem lw_p33 : lw_okq (⟨"SongsAgainModel", "bagBehind", "(II)I"⟩, 30) := ⟨⟨by decide +kernel, by decide +kernel⟩, List.mem_of_getElem? (i := 612) (by decide +kernel), List.mem_of_getElem? (i := 816) (by decide +kernel), List.mem_of_getElem? (i := 817) (by decide +kernel)⟩
theorem lw_p34 : lw_okq (⟨"SongsAgainModel", "twiceOf", "(II)J"⟩, 30) := ⟨⟨by decide +kernel, by decide +kernel⟩, List.mem_of_getElem? (i := 612) (by decide +kernel), List.mem_of_getElem? (i := 831) (by decide +kernel), List.mem_of_getElem? (i := 832) (by decide +kernel)⟩
theorem lw_p35 : lw_okq (⟨"SongsAgainModel", "behindOne", "(II)J"⟩, 30) := ⟨⟨by decide +kernel, by decide +kernel⟩, List.mem_of_getElem? (i := 612) (by decide +kernel), List.mem_of_getElem? (i := 835) (by decide +kernel), List.mem_of_getElem? (i := 836) (by decide +kernel)⟩
theorem lw_p36 : lw_okq (⟨"SongsAgainModel", "partsOf", "(II)J"⟩, 30) := ⟨⟨by decide +kernel, by decide +kernel⟩, List.mem_of_getElem? (i := 612) (by decide +kernel), List.mem_of_getElem? (i := 839) (by decide +kernel), List.mem_of_getElem? (i := 840) (by decide +kernel)⟩
theorem lw_p37 : lw_okq (⟨"SongsAgainModel", "partyOf", "(II)I"⟩, 30) := ⟨⟨by decide +kernel, by decide +kernel⟩, List.mem_of_getElem? (i := 612) (by decide +kernel), List.mem_of_getElem? (i := 850) (by decide +kernel), List.mem_of_getElem? (i := 851) (by decide +kernel)⟩
theorem lw_p38 : lw_okq (⟨"SongsAgainModel", "layRow", "(II)Z"⟩, 30) := ⟨⟨by decide +kernel, by decide +kernel⟩, List.mem_of_getElem? (i := 612) (by decide +kernel), List.mem_of_getElem? (i := 854) (by decide +kernel), List.mem_of_getElem? (i := 855) (by decide +kernel)⟩
theorem lw_p39 : lw_okq (⟨"SongsAgainModel", "rulesOf", "()I"⟩, 30) := ⟨⟨by decide +kernel, by decide +kernel⟩, List.mem_of_getElem? (i := 612) (by decide +kernel), List.mem_of_getElem? (i := 873) (by decide +kernel), List.mem_of_getElem? (i := 874) (by decide +kernel)⟩
theorem lw_p40 : lw_okq (⟨"SongsAgainModel", "layHeard", "(I)V"⟩, 30) := ⟨⟨by decide +kernel, by decide +kernel⟩, List.mem_of_getElem? (i := 612) (by decide +kernel), List.mem_of_getElem? (i := 877) (by decide +kernel), List.mem_of_getElem? (i := 878) (by decide +kernel)⟩
theorem lw_p41 : lw_okq (⟨"SongsAgainModel", "likelyOf", "()I"⟩, 30) := ⟨⟨by decide +kernel, by decide +kernel⟩, List.mem_of_getElem? (i := 612) (by decide +kernel), List.mem_of_getElem? (i := 885) (by decide +kernel), List.mem_of_getElem? (i := 886) (by decide +kernel)⟩
theorem lw_p42 : lw_okq (⟨"SongsAgainModel", "drawn", "(I)I"⟩, 30) := ⟨⟨by decide +kernel, by decide +kernel⟩, List.mem_of_getElem? (i := 612) (by decide +kernel), List.mem_of_getElem? (i := 894) (by decide +kernel), List.mem_of_getElem? (i := 895) (by decide +kernel)⟩
theorem lw_p43 : lw_okq (⟨"SongsAgainModel", "draw", "(I)I"⟩, 30) := ⟨⟨by decide +kernel, by decide +kernel⟩, List.mem_of_getElem? (i := 612) (by decide +kernel), List.mem_of_getElem? (i := 898) (by decide +kernel), List.mem_of_getElem? (i := 899) (by decide +kernel)⟩
theorem lw_p44 : lw_okq (⟨"SongsAgainModel", "sumAt", "(I)I"⟩, 30) := ⟨⟨by decide +kernel, by decide +kernel⟩, List.mem_of_getElem? (i := 612) (by decide +kernel), List.mem_of_getElem? (i := 910) (by decide +kernel), List.mem_of_getElem? (i := 911) (by decide +kernel)⟩
theorem lw_p45 : lw_okq (⟨"SongsAgainModel", "countOf", "(I)I"⟩, 30) := ⟨⟨by decide +kernel, by decide +kernel⟩, List.mem_of_getElem? (i := 612) (by decide +kernel), List.mem_of_getElem? (i := 922) (by decide +kernel), List.mem_of_getElem? (i := 923) (by decide +kernel)⟩
theorem lw_p46 : lw_okq (⟨"SongsAgainModel", "minutesAll", "()I"⟩, 30) := ⟨⟨by decide +kernel, by decide +kernel⟩, List.mem_of_getElem? (i := 612) (by decide +kernel), List.mem_of_getElem? (i := 926) (by decide +kernel), List.mem_of_getElem? (i := 927) (by decide +kernel)⟩
theorem lw_p47 : lw_okq (⟨"SongsAgainModel", "unlike", "()I"⟩, 30) := ⟨⟨by decide +kernel, by decide +kernel⟩, List.mem_of_getElem? (i := 612) (by decide +kernel), List.mem_of_getElem? (i := 930) (by decide +kernel), List.mem_of_getElem? (i := 931) (by decide +kernel)⟩
def lw_privs_3 : List (MethodName × Nat) := [(⟨"SongsAgainModel", "lacks", "()Z"⟩, 30), (⟨"SongsAgainModel", "bagBehind", "(II)I"⟩, 30), (⟨"SongsAgainModel", "twiceOf", "(II)J"⟩, 30), (⟨"SongsAgainModel", "behindOne", "(II)J"⟩, 30), (⟨"SongsAgainModel", "partsOf", "(II)J"⟩, 30), (⟨"SongsAgainModel", "partyOf", "(II)I"⟩, 30), (⟨"SongsAgainModel", "layRow", "(II)Z"⟩, 30), (⟨"SongsAgainModel", "rulesOf", "()I"⟩, 30), (⟨"SongsAgainModel", "layHeard", "(I)V"⟩, 30), (⟨"SongsAgainModel", "likelyOf", "()I"⟩, 30), (⟨"SongsAgainModel", "drawn", "(I)I"⟩, 30), (⟨"SongsAgainModel", "draw", "(I)I"⟩, 30), (⟨"SongsAgainModel", "sumAt", "(I)I"⟩, 30), (⟨"SongsAgainModel", "countOf", "(I)I"⟩, 30), (⟨"SongsAgainModel", "minutesAll", "()I"⟩, 30), (⟨"SongsAgainModel", "unlike", "()I"⟩, 30)]
theorem lw_r3 : ∀ q ∈ lw_privs_3, lw_okq q := List.forall_mem_cons.mpr ⟨lw_p32, List.forall_mem_cons.mpr ⟨lw_p33, List.forall_mem_cons.mpr ⟨lw_p34, List.forall_mem_cons.mpr ⟨lw_p35, List.forall_mem_cons.mpr ⟨lw_p36, List.forall_mem_cons.mpr ⟨lw_p37, List.forall_mem_cons.mpr ⟨lw_p38, List.forall_mem_cons.mpr ⟨lw_p39, List.forall_mem_cons.mpr ⟨lw_p40, List.forall_mem_cons.mpr ⟨lw_p41, List.forall_mem_cons.mpr ⟨lw_p42, List.forall_mem_cons.mpr ⟨lw_p43, List.forall_mem_cons.mpr ⟨lw_p44, List.forall_mem_cons.mpr ⟨lw_p45, List.forall_mem_cons.mpr ⟨lw_p46, List.forall_mem_cons.mpr ⟨lw_p47, fun _ h => absurd h List.not_mem_nil⟩⟩⟩⟩⟩⟩⟩⟩⟩⟩⟩⟩⟩⟩⟩⟩
theorem lw_p48 : lw_okq (⟨"SongsAgainModel", "say", "(J)V"⟩, 30) := ⟨⟨by decide +kernel, by decide +kernel⟩, List.mem_of_getElem? (i := 612) (by decide +kernel), List.mem_of_getElem? (i := 939) (by decide +kernel), List.mem_of_getElem? (i := 940) (by decide +kernel)⟩
theorem lw_p49 : lw_okq (⟨"SongsAgainModel", "sayPlayer", "()V"⟩, 30) := ⟨⟨by decide +kernel, by decide +kernel⟩, List.mem_of_getElem? (i := 612) (by decide +kernel), List.mem_of_getElem? (i := 944) (by decide +kernel), List.mem_of_getElem? (i := 945) (by decide +kernel)⟩
def lw_privs_4 : List (MethodName × Nat) := [(⟨"SongsAgainModel", "say", "(J)V"⟩, 30), (⟨"SongsAgainModel", "sayPlayer", "()V"⟩, 30)]
theorem lw_r4 : ∀ q ∈ lw_privs_4, lw_okq q := List.forall_mem_cons.mpr ⟨lw_p48, List.forall_mem_cons.mpr ⟨lw_p49, fun _ h => absurd h List.not_mem_nil⟩⟩
def lw_privs : List (MethodName × Nat) := lw_privs_1 ++ (lw_privs_2 ++ (lw_privs_3 ++ (lw_privs_4)))
def lw_tbl : List Cond := k2_sels lw_privs ++ tables_1
theorem lw_privs_ok : ∀ q ∈ lw_privs, lw_okq q := by
  show ∀ q ∈ lw_privs_1 ++ (lw_privs_2 ++ (lw_privs_3 ++ (lw_privs_4))), lw_okq q
  exact List.forall_mem_append.mpr ⟨lw_r1, List.forall_mem_append.mpr ⟨lw_r2, List.forall_mem_append.mpr ⟨lw_r3, lw_r4⟩⟩⟩
-- ===== end of PART A; then your names; then what follows =====
end
section
/-! ===== BEGIN words of one list among another's, by their places ===== -/
theorem goodIn_r {big : List Cond} (ws : List Cond) (ps : List Nat) (hp : ws = ps.filterMap (fun i => big[i]?)) (h : ws.all goodWord = true) : GoodIn big ws := by
  intro w hw
  have h1 := List.all_eq_true.mp h w hw
  rw [hp] at hw
  obtain ⟨i, -, hi⟩ := List.mem_filterMap.mp hw
  have hm : w ∈ big := by first | exact List.mem_of_getElem? hi | exact List.getElem?_mem hi
  exact ⟨hm, good_of_word h1⟩
theorem goodIn_app {big a b : List Cond} (ha : GoodIn big a) (hb : GoodIn big b) : GoodIn big (a ++ b) := fun w h => (List.mem_append.mp h).elim (ha w) (hb w)
theorem goodIn_ca {big a b : List Cond} {c : Cond} (ha : GoodIn big (c :: a)) (hb : GoodIn big b) : GoodIn big (c :: (a ++ b)) := fun w h => (List.mem_cons.mp h).elim (fun e => ha w (List.mem_cons.mpr (Or.inl e))) (fun h => (List.mem_append.mp h).elim (fun h => ha w (List.mem_cons.mpr (Or.inr h))) (hb w))
theorem goodIn_sub {big ws : List Cond} (hm : ∀ w ∈ ws, w ∈ big) (h : ws.all goodWord = true) : GoodIn big ws := fun w hw => ⟨hm w hw, good_of_word (List.all_eq_true.mp h w hw)⟩
/-! ===== END ===== -/

/-! ===== BEGIN printed: names, fields, word lists, decode rows ===== -/
def RX0 : String := "SongsAgain$Book"
def TX0 : u_T := fun k => match k with
  | 0 => ("SongsAgain$Book", "kinds", "LSongsAgain$Row;", true)
  | 1 => ("SongsAgain$Book", "singers", "LSongsAgain$Row;", true)
  | 2 => ("SongsAgain$Book", "weights", "LSongsAgain$Row;", true)
  | 3 => ("SongsAgain$Book", "minutes", "LSongsAgain$Row;", true)
  | _ => ("SongsAgain$Book", "number", "I", false)
def tyX0 : Nat → FieldType := fun k => match k with
  | 0 => .object "SongsAgain$Row"
  | 1 => .object "SongsAgain$Row"
  | 2 => .object "SongsAgain$Row"
  | 3 => .object "SongsAgain$Row"
  | _ => .int
abbrev wsX00 : List Cond := u_ws RX0 TX0 5
theorem nmX0 : ∀ a, a < 5 → ∀ b, b < 5 → a ≠ b → (TX0 a).2.1 ≠ (TX0 b).2.1 := by decide +kernel
theorem tyX0_ok : ∀ k, k < 5 → parseFieldDescriptor (TX0 k).2.2.1 = some (tyX0 k) := by decide +kernel
abbrev cX0_init : ByteArray := prog_2_method_1_code
def yX0_init : MethodName := ⟨RX0, "<init>", "()V"⟩
abbrev cX0_read : ByteArray := prog_2_method_2_code
def yX0_read : MethodName := ⟨RX0, "read", "(LSongsAgain$Page;)V"⟩
abbrev cX0_has : ByteArray := prog_2_method_3_code
def yX0_has : MethodName := ⟨RX0, "has", "(I)Z"⟩
abbrev cX0_all : ByteArray := prog_2_method_4_code
def yX0_all : MethodName := ⟨RX0, "all", "()I"⟩
abbrev cX0_isOfKind : ByteArray := prog_2_method_5_code
def yX0_isOfKind : MethodName := ⟨RX0, "isOfKind", "(II)Z"⟩
abbrev cX0_weightOf : ByteArray := prog_2_method_6_code
def yX0_weightOf : MethodName := ⟨RX0, "weightOf", "(I)I"⟩
abbrev cX0_weightTogether : ByteArray := prog_2_method_7_code
def yX0_weightTogether : MethodName := ⟨RX0, "weightTogether", "(I)I"⟩
abbrev cX0_mayCome : ByteArray := prog_2_method_8_code
def yX0_mayCome : MethodName := ⟨RX0, "mayCome", "(III)I"⟩
abbrev cX0_mayFollow : ByteArray := prog_2_method_9_code
def yX0_mayFollow : MethodName := ⟨RX0, "mayFollow", "(I)I"⟩
abbrev cX0_bagAfter : ByteArray := prog_2_method_10_code
def yX0_bagAfter : MethodName := ⟨RX0, "bagAfter", "(II)I"⟩
def RX1 : String := "SongsAgain$Fraction"
def TX1 : u_T := fun k => match k with
  | 0 => ("SongsAgain$Fraction", "above", "J", false)
  | _ => ("SongsAgain$Fraction", "below", "J", false)
def tyX1 : Nat → FieldType := fun k => match k with
  | 0 => .long
  | _ => .long
abbrev wsX10 : List Cond := u_ws RX1 TX1 2
theorem nmX1 : ∀ a, a < 2 → ∀ b, b < 2 → a ≠ b → (TX1 a).2.1 ≠ (TX1 b).2.1 := by decide +kernel
theorem tyX1_ok : ∀ k, k < 2 → parseFieldDescriptor (TX1 k).2.2.1 = some (tyX1 k) := by decide +kernel
abbrev cX1_init : ByteArray := prog_3_method_1_code
def yX1_init : MethodName := ⟨RX1, "<init>", "()V"⟩
abbrev cX1_become : ByteArray := prog_3_method_2_code
def yX1_become : MethodName := ⟨RX1, "become", "(JJ)V"⟩
abbrev cX1_multiply : ByteArray := prog_3_method_3_code
def yX1_multiply : MethodName := ⟨RX1, "multiply", "(JJ)V"⟩
abbrev cX1_add : ByteArray := prog_3_method_4_code
def yX1_add : MethodName := ⟨RX1, "add", "(JJ)V"⟩
abbrev cX1_isMoreThan : ByteArray := prog_3_method_5_code
def yX1_isMoreThan : MethodName := ⟨RX1, "isMoreThan", "(LSongsAgain$Fraction;)Z"⟩
abbrev cX1_commonDivisor : ByteArray := prog_3_method_6_code
def yX1_commonDivisor : MethodName := ⟨RX1, "commonDivisor", "(JJ)J"⟩
def RX2 : String := "SongsAgain$Orders"
def TX2 : u_T := fun k => match k with
  | 0 => ("SongsAgain$Orders", "way", "LSongsAgain$Row;", true)
  | 1 => ("SongsAgain$Orders", "first", "LSongsAgain$Row;", true)
  | 2 => ("SongsAgain$Orders", "firstLength", "I", false)
  | _ => ("SongsAgain$Orders", "number", "I", false)
def tyX2 : Nat → FieldType := fun k => match k with
  | 0 => .object "SongsAgain$Row"
  | 1 => .object "SongsAgain$Row"
  | 2 => .int
  | _ => .int
abbrev wsX20 : List Cond := u_ws RX2 TX2 4
theorem nmX2 : ∀ a, a < 4 → ∀ b, b < 4 → a ≠ b → (TX2 a).2.1 ≠ (TX2 b).2.1 := by decide +kernel
theorem tyX2_ok : ∀ k, k < 4 → parseFieldDescriptor (TX2 k).2.2.1 = some (tyX2 k) := by decide +kernel
abbrev cX2_init : ByteArray := prog_4_method_1_code
def yX2_init : MethodName := ⟨RX2, "<init>", "()V"⟩
abbrev cX2_findAll : ByteArray := prog_4_method_2_code
def yX2_findAll : MethodName := ⟨RX2, "findAll", "(LSongsAgain$Book;I)V"⟩
abbrev cX2_goOn : ByteArray := prog_4_method_3_code
def yX2_goOn : MethodName := ⟨RX2, "goOn", "(LSongsAgain$Orders;LSongsAgain$Book;II)V"⟩
abbrev cX2_unlikeSingers : ByteArray := prog_4_method_4_code
def yX2_unlikeSingers : MethodName := ⟨RX2, "unlikeSingers", "(LSongsAgain$Book;II)Z"⟩
abbrev cX2_take : ByteArray := prog_4_method_5_code
def yX2_take : MethodName := ⟨RX2, "take", "(I)V"⟩
abbrev cX2_fact : ByteArray := prog_4_method_6_code
def yX2_fact : MethodName := ⟨RX2, "fact", "(I)I"⟩
def RX3 : String := "SongsAgain$Page"
def TX3 : u_T := fun k => match k with
  | 0 => ("SongsAgain$Page", "codes", "LSongsAgain$Row;", true)
  | _ => ("SongsAgain$Page", "length", "I", false)
def tyX3 : Nat → FieldType := fun k => match k with
  | 0 => .object "SongsAgain$Row"
  | _ => .int
abbrev wsX30 : List Cond := u_ws RX3 TX3 2
theorem nmX3 : ∀ a, a < 2 → ∀ b, b < 2 → a ≠ b → (TX3 a).2.1 ≠ (TX3 b).2.1 := by decide +kernel
theorem tyX3_ok : ∀ k, k < 2 → parseFieldDescriptor (TX3 k).2.2.1 = some (tyX3 k) := by decide +kernel
abbrev cX3_init : ByteArray := prog_5_method_1_code
def yX3_init : MethodName := ⟨RX3, "<init>", "()V"⟩
abbrev cX3_append : ByteArray := prog_5_method_2_code
def yX3_append : MethodName := ⟨RX3, "append", "(I)V"⟩
abbrev cX3_clear : ByteArray := prog_5_method_3_code
def yX3_clear : MethodName := ⟨RX3, "clear", "()V"⟩
abbrev cX3_firstFault : ByteArray := prog_5_method_4_code
def yX3_firstFault : MethodName := ⟨RX3, "firstFault", "()I"⟩
abbrev cX3_fits : ByteArray := prog_5_method_5_code
def yX3_fits : MethodName := ⟨RX3, "fits", "(II)Z"⟩
abbrev cX3_isDigitBelow : ByteArray := prog_5_method_6_code
def yX3_isDigitBelow : MethodName := ⟨RX3, "isDigitBelow", "(II)Z"⟩
abbrev cX3_endsSong : ByteArray := prog_5_method_7_code
def yX3_endsSong : MethodName := ⟨RX3, "endsSong", "(II)Z"⟩
abbrev cX3_isWhole : ByteArray := prog_5_method_8_code
def yX3_isWhole : MethodName := ⟨RX3, "isWhole", "()Z"⟩
abbrev cX3_songsRead : ByteArray := prog_5_method_9_code
def yX3_songsRead : MethodName := ⟨RX3, "songsRead", "()I"⟩
abbrev cX3_kindRead : ByteArray := prog_5_method_10_code
def yX3_kindRead : MethodName := ⟨RX3, "kindRead", "(I)I"⟩
abbrev cX3_singerRead : ByteArray := prog_5_method_11_code
def yX3_singerRead : MethodName := ⟨RX3, "singerRead", "(I)I"⟩
abbrev cX3_ruleRead : ByteArray := prog_5_method_12_code
def yX3_ruleRead : MethodName := ⟨RX3, "ruleRead", "()I"⟩
def RX4 : String := "SongsAgain$Past"
def TX4 : u_T := fun k => match k with
  | 0 => ("SongsAgain$Past", "played", "LSongsAgain$Row;", true)
  | 1 => ("SongsAgain$Past", "skipped", "LSongsAgain$Row;", true)
  | 2 => ("SongsAgain$Past", "heard", "LSongsAgain$Row;", true)
  | 3 => ("SongsAgain$Past", "heardLength", "I", false)
  | 4 => ("SongsAgain$Past", "rule", "I", false)
  | 5 => ("SongsAgain$Past", "bag", "I", false)
  | 6 => ("SongsAgain$Past", "last", "I", false)
  | _ => ("SongsAgain$Past", "lastIsSkipped", "Z", false)
def tyX4 : Nat → FieldType := fun k => match k with
  | 0 => .object "SongsAgain$Row"
  | 1 => .object "SongsAgain$Row"
  | 2 => .object "SongsAgain$Row"
  | 3 => .int
  | 4 => .int
  | 5 => .int
  | 6 => .int
  | _ => .boolean
abbrev wsX40 : List Cond := u_ws RX4 TX4 8
theorem nmX4 : ∀ a, a < 8 → ∀ b, b < 8 → a ≠ b → (TX4 a).2.1 ≠ (TX4 b).2.1 := by decide +kernel
theorem tyX4_ok : ∀ k, k < 8 → parseFieldDescriptor (TX4 k).2.2.1 = some (tyX4 k) := by decide +kernel
abbrev cX4_init : ByteArray := prog_6_method_1_code
def yX4_init : MethodName := ⟨RX4, "<init>", "()V"⟩
abbrev cX4_begin : ByteArray := prog_6_method_2_code
def yX4_begin : MethodName := ⟨RX4, "begin", "(II)V"⟩
abbrev cX4_become : ByteArray := prog_6_method_3_code
def yX4_become : MethodName := ⟨RX4, "become", "(LSongsAgain$Past;)V"⟩
def RX5 : String := "SongsAgain$Row"
def TX5 : u_T := fun k => match k with
  | _ => ("SongsAgain$Row", "cells", "[I", true)
def tyX5 : Nat → FieldType := fun k => match k with
  | _ => .array .int
abbrev wsX50 : List Cond := u_ws RX5 TX5 1
theorem nmX5 : ∀ a, a < 1 → ∀ b, b < 1 → a ≠ b → (TX5 a).2.1 ≠ (TX5 b).2.1 := by decide +kernel
theorem tyX5_ok : ∀ k, k < 1 → parseFieldDescriptor (TX5 k).2.2.1 = some (tyX5 k) := by decide +kernel
abbrev cX5_init : ByteArray := prog_7_method_1_code
def yX5_init : MethodName := ⟨RX5, "<init>", "(I)V"⟩
abbrev cX5_at : ByteArray := prog_7_method_2_code
def yX5_at : MethodName := ⟨RX5, "at", "(I)I"⟩
abbrev cX5_put : ByteArray := prog_7_method_3_code
def yX5_put : MethodName := ⟨RX5, "put", "(II)V"⟩
abbrev cX5_increase : ByteArray := prog_7_method_4_code
def yX5_increase : MethodName := ⟨RX5, "increase", "(I)V"⟩
abbrev cX5_clear : ByteArray := prog_7_method_5_code
def yX5_clear : MethodName := ⟨RX5, "clear", "()V"⟩
abbrev cX5_become : ByteArray := prog_7_method_6_code
def yX5_become : MethodName := ⟨RX5, "become", "(LSongsAgain$Row;)V"⟩
abbrev cX5_sum : ByteArray := prog_7_method_7_code
def yX5_sum : MethodName := ⟨RX5, "sum", "()I"⟩
abbrev cX5_aboveNothing : ByteArray := prog_7_method_8_code
def yX5_aboveNothing : MethodName := ⟨RX5, "aboveNothing", "()I"⟩
def RX6 : String := "SongsAgain"
def TX6 : u_T := fun k => match k with
  | 0 => ("SongsAgain", "page", "LSongsAgain$Page;", true)
  | 1 => ("SongsAgain", "book", "LSongsAgain$Book;", true)
  | 2 => ("SongsAgain", "now", "LSongsAgain$Past;", true)
  | 3 => ("SongsAgain", "kept", "LSongsAgain$Past;", true)
  | 4 => ("SongsAgain", "sum", "LSongsAgain$Fraction;", true)
  | 5 => ("SongsAgain", "chance", "LSongsAgain$Fraction;", true)
  | 6 => ("SongsAgain", "best", "LSongsAgain$Fraction;", true)
  | 7 => ("SongsAgain", "orders", "LSongsAgain$Orders;", true)
  | 8 => ("SongsAgain", "isKept", "Z", false)
  | _ => ("SongsAgain", "playersRead", "I", false)
def tyX6 : Nat → FieldType := fun k => match k with
  | 0 => .object "SongsAgain$Page"
  | 1 => .object "SongsAgain$Book"
  | 2 => .object "SongsAgain$Past"
  | 3 => .object "SongsAgain$Past"
  | 4 => .object "SongsAgain$Fraction"
  | 5 => .object "SongsAgain$Fraction"
  | 6 => .object "SongsAgain$Fraction"
  | 7 => .object "SongsAgain$Orders"
  | 8 => .boolean
  | _ => .int
abbrev wsX60 : List Cond := u_ws RX6 TX6 10
theorem nmX6 : ∀ a, a < 10 → ∀ b, b < 10 → a ≠ b → (TX6 a).2.1 ≠ (TX6 b).2.1 := by decide +kernel
theorem tyX6_ok : ∀ k, k < 10 → parseFieldDescriptor (TX6 k).2.2.1 = some (tyX6 k) := by decide +kernel
abbrev cX6_init : ByteArray := prog_1_method_1_code
def yX6_init : MethodName := ⟨RX6, "<init>", "()V"⟩
abbrev cX6_letter : ByteArray := prog_1_method_2_code
def yX6_letter : MethodName := ⟨RX6, "letter", "(I)I"⟩
abbrev cX6_blank : ByteArray := prog_1_method_3_code
def yX6_blank : MethodName := ⟨RX6, "blank", "()I"⟩
abbrev cX6_fault : ByteArray := prog_1_method_4_code
def yX6_fault : MethodName := ⟨RX6, "fault", "()I"⟩
abbrev cX6_player : ByteArray := prog_1_method_5_code
def yX6_player : MethodName := ⟨RX6, "player", "()I"⟩
abbrev cX6_song : ByteArray := prog_1_method_6_code
def yX6_song : MethodName := ⟨RX6, "song", "(II)I"⟩
abbrev cX6_as : ByteArray := prog_1_method_7_code
def yX6_as : MethodName := ⟨RX6, "as", "(II)I"⟩
abbrev cX6_rule : ByteArray := prog_1_method_8_code
def yX6_rule : MethodName := ⟨RX6, "rule", "(I)I"⟩
abbrev cX6_play : ByteArray := prog_1_method_9_code
def yX6_play : MethodName := ⟨RX6, "play", "(I)I"⟩
abbrev cX6_skip : ByteArray := prog_1_method_10_code
def yX6_skip : MethodName := ⟨RX6, "skip", "()I"⟩
abbrev cX6_twice : ByteArray := prog_1_method_11_code
def yX6_twice : MethodName := ⟨RX6, "twice", "(II)J"⟩
abbrev cX6_party : ByteArray := prog_1_method_12_code
def yX6_party : MethodName := ⟨RX6, "party", "(II)I"⟩
abbrev cX6_hear : ByteArray := prog_1_method_13_code
def yX6_hear : MethodName := ⟨RX6, "hear", "(I)I"⟩
abbrev cX6_forget : ByteArray := prog_1_method_14_code
def yX6_forget : MethodName := ⟨RX6, "forget", "()I"⟩
abbrev cX6_rules : ByteArray := prog_1_method_15_code
def yX6_rules : MethodName := ⟨RX6, "rules", "()I"⟩
abbrev cX6_likely : ByteArray := prog_1_method_16_code
def yX6_likely : MethodName := ⟨RX6, "likely", "()I"⟩
abbrev cX6_evenings : ByteArray := prog_1_method_17_code
def yX6_evenings : MethodName := ⟨RX6, "evenings", "(III)I"⟩
abbrev cX6_image : ByteArray := prog_1_method_18_code
def yX6_image : MethodName := ⟨RX6, "image", "()I"⟩
abbrev cX6_restore : ByteArray := prog_1_method_19_code
def yX6_restore : MethodName := ⟨RX6, "restore", "()I"⟩
abbrev cX6_count : ByteArray := prog_1_method_20_code
def yX6_count : MethodName := ⟨RX6, "count", "(I)I"⟩
abbrev cX6_digest : ByteArray := prog_1_method_21_code
def yX6_digest : MethodName := ⟨RX6, "digest", "()J"⟩
abbrev cX6_digestOfPlayer : ByteArray := prog_1_method_22_code
def yX6_digestOfPlayer : MethodName := ⟨RX6, "digestOfPlayer", "(J)J"⟩
abbrev cX6_noPlayer : ByteArray := prog_1_method_23_code
def yX6_noPlayer : MethodName := ⟨RX6, "noPlayer", "()Z"⟩
abbrev cX6_mayNow : ByteArray := prog_1_method_24_code
def yX6_mayNow : MethodName := ⟨RX6, "mayNow", "()I"⟩
abbrev cX6_songFact : ByteArray := prog_1_method_25_code
def yX6_songFact : MethodName := ⟨RX6, "songFact", "(II)I"⟩
abbrev cX6_chanceNow : ByteArray := prog_1_method_26_code
def yX6_chanceNow : MethodName := ⟨RX6, "chanceNow", "(I)LSongsAgain$Fraction;"⟩
abbrev cX6_minutesPlayed : ByteArray := prog_1_method_27_code
def yX6_minutesPlayed : MethodName := ⟨RX6, "minutesPlayed", "()I"⟩
abbrev cX6_weight : ByteArray := prog_1_method_28_code
def yX6_weight : MethodName := ⟨RX6, "weight", "(I)I"⟩
abbrev cX6_weightTogether : ByteArray := prog_1_method_29_code
def yX6_weightTogether : MethodName := ⟨RX6, "weightTogether", "(I)I"⟩
abbrev cX6_share : ByteArray := prog_1_method_30_code
def yX6_share : MethodName := ⟨RX6, "share", "(III)I"⟩
abbrev cX6_allShares : ByteArray := prog_1_method_31_code
def yX6_allShares : MethodName := ⟨RX6, "allShares", "(II)I"⟩
abbrev cX6_reckonTwice : ByteArray := prog_1_method_32_code
def yX6_reckonTwice : MethodName := ⟨RX6, "reckonTwice", "(I)V"⟩
abbrev cX6_sumTwice : ByteArray := prog_1_method_33_code
def yX6_sumTwice : MethodName := ⟨RX6, "sumTwice", "(LSongsAgain;IIIIJJ)V"⟩
abbrev cX6_possibleRules : ByteArray := prog_1_method_34_code
def yX6_possibleRules : MethodName := ⟨RX6, "possibleRules", "()I"⟩
abbrev cX6_likeliestRule : ByteArray := prog_1_method_35_code
def yX6_likeliestRule : MethodName := ⟨RX6, "likeliestRule", "()I"⟩
abbrev cX6_reckonHeard : ByteArray := prog_1_method_36_code
def yX6_reckonHeard : MethodName := ⟨RX6, "reckonHeard", "(I)V"⟩
abbrev cX6_eveningFact : ByteArray := prog_1_method_37_code
def yX6_eveningFact : MethodName := ⟨RX6, "eveningFact", "(III)I"⟩
abbrev cX6_seedAfter : ByteArray := prog_1_method_38_code
def yX6_seedAfter : MethodName := ⟨RX6, "seedAfter", "(J)J"⟩
abbrev cX6_drawn : ByteArray := prog_1_method_39_code
def yX6_drawn : MethodName := ⟨RX6, "drawn", "(JI)I"⟩
abbrev cX6_holds : ByteArray := prog_1_method_40_code
def yX6_holds : MethodName := ⟨RX6, "holds", "(II)Z"⟩
def RX7 : String := "SongsAgainModel"
def TX7 : u_T := fun k => match k with
  | 0 => ("SongsAgainModel", "page", "[I", true)
  | 1 => ("SongsAgainModel", "pageMany", "I", false)
  | 2 => ("SongsAgainModel", "read", "[I", true)
  | 3 => ("SongsAgainModel", "readMany", "I", false)
  | 4 => ("SongsAgainModel", "readRule", "I", false)
  | 5 => ("SongsAgainModel", "state", "I", false)
  | 6 => ("SongsAgainModel", "songs", "I", false)
  | 7 => ("SongsAgainModel", "ruleNow", "I", false)
  | 8 => ("SongsAgainModel", "bag", "I", false)
  | 9 => ("SongsAgainModel", "last", "I", false)
  | 10 => ("SongsAgainModel", "wasSkipped", "Z", false)
  | 11 => ("SongsAgainModel", "playersRead", "I", false)
  | 12 => ("SongsAgainModel", "rows", "[I", true)
  | 13 => ("SongsAgainModel", "row", "[I", true)
  | 14 => ("SongsAgainModel", "bestRow", "[I", true)
  | 15 => ("SongsAgainModel", "rowMany", "I", false)
  | 16 => ("SongsAgainModel", "heardMany", "I", false)
  | 17 => ("SongsAgainModel", "heards", "[I", true)
  | 18 => ("SongsAgainModel", "heardUp", "J", false)
  | 19 => ("SongsAgainModel", "heardLow", "J", false)
  | 20 => ("SongsAgainModel", "seedNow", "I", false)
  | 21 => ("SongsAgainModel", "keptPlayer", "I", false)
  | 22 => ("SongsAgainModel", "keptRule", "I", false)
  | 23 => ("SongsAgainModel", "keptBag", "I", false)
  | 24 => ("SongsAgainModel", "keptLast", "I", false)
  | 25 => ("SongsAgainModel", "keptSkipped", "Z", false)
  | 26 => ("SongsAgainModel", "keptHeard", "I", false)
  | 27 => ("SongsAgainModel", "keptRows", "[I", true)
  | 28 => ("SongsAgainModel", "keptHeards", "[I", true)
  | _ => ("SongsAgainModel", "hash", "J", false)
def tyX7 : Nat → FieldType := fun k => match k with
  | 0 => .array .int
  | 1 => .int
  | 2 => .array .int
  | 3 => .int
  | 4 => .int
  | 5 => .int
  | 6 => .int
  | 7 => .int
  | 8 => .int
  | 9 => .int
  | 10 => .boolean
  | 11 => .int
  | 12 => .array .int
  | 13 => .array .int
  | 14 => .array .int
  | 15 => .int
  | 16 => .int
  | 17 => .array .int
  | 18 => .long
  | 19 => .long
  | 20 => .int
  | 21 => .int
  | 22 => .int
  | 23 => .int
  | 24 => .int
  | 25 => .boolean
  | 26 => .int
  | 27 => .array .int
  | 28 => .array .int
  | _ => .long
abbrev wsX70 : List Cond := u_ws RX7 TX7 30
theorem nmX7 : ∀ a, a < 30 → ∀ b, b < 30 → a ≠ b → (TX7 a).2.1 ≠ (TX7 b).2.1 := by decide +kernel
theorem tyX7_ok : ∀ k, k < 30 → parseFieldDescriptor (TX7 k).2.2.1 = some (tyX7 k) := by decide +kernel
abbrev cX7_init : ByteArray := prog_9_method_1_code
def yX7_init : MethodName := ⟨RX7, "<init>", "()V"⟩
abbrev cX7_in : ByteArray := prog_9_method_2_code
def yX7_in : MethodName := ⟨RX7, "in", "(JJJ)Z"⟩
abbrev cX7_copy : ByteArray := prog_9_method_3_code
def yX7_copy : MethodName := ⟨RX7, "copy", "([I[I)V"⟩
abbrev cX7_common : ByteArray := prog_9_method_4_code
def yX7_common : MethodName := ⟨RX7, "common", "(JJ)J"⟩
abbrev cX7_ones : ByteArray := prog_9_method_5_code
def yX7_ones : MethodName := ⟨RX7, "ones", "(I)I"⟩
abbrev cX7_letter : ByteArray := prog_9_method_6_code
def yX7_letter : MethodName := ⟨RX7, "letter", "(I)I"⟩
abbrev cX7_blank : ByteArray := prog_9_method_7_code
def yX7_blank : MethodName := ⟨RX7, "blank", "()I"⟩
abbrev cX7_kindBy : ByteArray := prog_9_method_8_code
def yX7_kindBy : MethodName := ⟨RX7, "kindBy", "(I)I"⟩
abbrev cX7_go : ByteArray := prog_9_method_9_code
def yX7_go : MethodName := ⟨RX7, "go", "(I)Z"⟩
abbrev cX7_faultOf : ByteArray := prog_9_method_10_code
def yX7_faultOf : MethodName := ⟨RX7, "faultOf", "()I"⟩
abbrev cX7_fault : ByteArray := prog_9_method_11_code
def yX7_fault : MethodName := ⟨RX7, "fault", "()I"⟩
abbrev cX7_player : ByteArray := prog_9_method_12_code
def yX7_player : MethodName := ⟨RX7, "player", "()I"⟩
abbrev cX7_all : ByteArray := prog_9_method_13_code
def yX7_all : MethodName := ⟨RX7, "all", "()I"⟩
abbrev cX7_lacks : ByteArray := prog_9_method_14_code
def yX7_lacks : MethodName := ⟨RX7, "lacks", "()Z"⟩
abbrev cX7_isSong : ByteArray := prog_9_method_15_code
def yX7_isSong : MethodName := ⟨RX7, "isSong", "(I)Z"⟩
abbrev cX7_baseOf : ByteArray := prog_9_method_16_code
def yX7_baseOf : MethodName := ⟨RX7, "baseOf", "(I)I"⟩
abbrev cX7_weightOf : ByteArray := prog_9_method_17_code
def yX7_weightOf : MethodName := ⟨RX7, "weightOf", "(I)I"⟩
abbrev cX7_minutesOf : ByteArray := prog_9_method_18_code
def yX7_minutesOf : MethodName := ⟨RX7, "minutesOf", "(I)I"⟩
abbrev cX7_mayBy : ByteArray := prog_9_method_19_code
def yX7_mayBy : MethodName := ⟨RX7, "mayBy", "(III)I"⟩
abbrev cX7_bagBehind : ByteArray := prog_9_method_20_code
def yX7_bagBehind : MethodName := ⟨RX7, "bagBehind", "(II)I"⟩
abbrev cX7_mayNow : ByteArray := prog_9_method_21_code
def yX7_mayNow : MethodName := ⟨RX7, "mayNow", "()I"⟩
abbrev cX7_sumOf : ByteArray := prog_9_method_22_code
def yX7_sumOf : MethodName := ⟨RX7, "sumOf", "(IZ)I"⟩
abbrev cX7_shareOf : ByteArray := prog_9_method_23_code
def yX7_shareOf : MethodName := ⟨RX7, "shareOf", "(II)I"⟩
abbrev cX7_sharesOf : ByteArray := prog_9_method_24_code
def yX7_sharesOf : MethodName := ⟨RX7, "sharesOf", "(I)I"⟩
abbrev cX7_chanceOf : ByteArray := prog_9_method_25_code
def yX7_chanceOf : MethodName := ⟨RX7, "chanceOf", "(II)I"⟩
abbrev cX7_tell : ByteArray := prog_9_method_26_code
def yX7_tell : MethodName := ⟨RX7, "tell", "(II)I"⟩
abbrev cX7_song : ByteArray := prog_9_method_27_code
def yX7_song : MethodName := ⟨RX7, "song", "(II)I"⟩
abbrev cX7_as : ByteArray := prog_9_method_28_code
def yX7_as : MethodName := ⟨RX7, "as", "(II)I"⟩
abbrev cX7_rule : ByteArray := prog_9_method_29_code
def yX7_rule : MethodName := ⟨RX7, "rule", "(I)I"⟩
abbrev cX7_play : ByteArray := prog_9_method_30_code
def yX7_play : MethodName := ⟨RX7, "play", "(I)I"⟩
abbrev cX7_skip : ByteArray := prog_9_method_31_code
def yX7_skip : MethodName := ⟨RX7, "skip", "()I"⟩
abbrev cX7_partsOf : ByteArray := prog_9_method_32_code
def yX7_partsOf : MethodName := ⟨RX7, "partsOf", "(II)J"⟩
abbrev cX7_behindOne : ByteArray := prog_9_method_33_code
def yX7_behindOne : MethodName := ⟨RX7, "behindOne", "(II)J"⟩
abbrev cX7_twiceOf : ByteArray := prog_9_method_34_code
def yX7_twiceOf : MethodName := ⟨RX7, "twiceOf", "(II)J"⟩
abbrev cX7_twice : ByteArray := prog_9_method_35_code
def yX7_twice : MethodName := ⟨RX7, "twice", "(II)J"⟩
abbrev cX7_layRow : ByteArray := prog_9_method_36_code
def yX7_layRow : MethodName := ⟨RX7, "layRow", "(II)Z"⟩
abbrev cX7_partyOf : ByteArray := prog_9_method_37_code
def yX7_partyOf : MethodName := ⟨RX7, "partyOf", "(II)I"⟩
abbrev cX7_party : ByteArray := prog_9_method_38_code
def yX7_party : MethodName := ⟨RX7, "party", "(II)I"⟩
abbrev cX7_hear : ByteArray := prog_9_method_39_code
def yX7_hear : MethodName := ⟨RX7, "hear", "(I)I"⟩
abbrev cX7_forget : ByteArray := prog_9_method_40_code
def yX7_forget : MethodName := ⟨RX7, "forget", "()I"⟩
abbrev cX7_layHeard : ByteArray := prog_9_method_41_code
def yX7_layHeard : MethodName := ⟨RX7, "layHeard", "(I)V"⟩
abbrev cX7_rulesOf : ByteArray := prog_9_method_42_code
def yX7_rulesOf : MethodName := ⟨RX7, "rulesOf", "()I"⟩
abbrev cX7_rules : ByteArray := prog_9_method_43_code
def yX7_rules : MethodName := ⟨RX7, "rules", "()I"⟩
abbrev cX7_likelyOf : ByteArray := prog_9_method_44_code
def yX7_likelyOf : MethodName := ⟨RX7, "likelyOf", "()I"⟩
abbrev cX7_likely : ByteArray := prog_9_method_45_code
def yX7_likely : MethodName := ⟨RX7, "likely", "()I"⟩
abbrev cX7_draw : ByteArray := prog_9_method_46_code
def yX7_draw : MethodName := ⟨RX7, "draw", "(I)I"⟩
abbrev cX7_drawn : ByteArray := prog_9_method_47_code
def yX7_drawn : MethodName := ⟨RX7, "drawn", "(I)I"⟩
abbrev cX7_evenings : ByteArray := prog_9_method_48_code
def yX7_evenings : MethodName := ⟨RX7, "evenings", "(III)I"⟩
abbrev cX7_sumAt : ByteArray := prog_9_method_49_code
def yX7_sumAt : MethodName := ⟨RX7, "sumAt", "(I)I"⟩
abbrev cX7_image : ByteArray := prog_9_method_50_code
def yX7_image : MethodName := ⟨RX7, "image", "()I"⟩
abbrev cX7_restore : ByteArray := prog_9_method_51_code
def yX7_restore : MethodName := ⟨RX7, "restore", "()I"⟩
abbrev cX7_minutesAll : ByteArray := prog_9_method_52_code
def yX7_minutesAll : MethodName := ⟨RX7, "minutesAll", "()I"⟩
abbrev cX7_unlike : ByteArray := prog_9_method_53_code
def yX7_unlike : MethodName := ⟨RX7, "unlike", "()I"⟩
abbrev cX7_countOf : ByteArray := prog_9_method_54_code
def yX7_countOf : MethodName := ⟨RX7, "countOf", "(I)I"⟩
abbrev cX7_count : ByteArray := prog_9_method_55_code
def yX7_count : MethodName := ⟨RX7, "count", "(I)I"⟩
abbrev cX7_say : ByteArray := prog_9_method_56_code
def yX7_say : MethodName := ⟨RX7, "say", "(J)V"⟩
abbrev cX7_sayPlayer : ByteArray := prog_9_method_57_code
def yX7_sayPlayer : MethodName := ⟨RX7, "sayPlayer", "()V"⟩
abbrev cX7_digest : ByteArray := prog_9_method_58_code
def yX7_digest : MethodName := ⟨RX7, "digest", "()J"⟩
def RJ11 : String := "java/lang/Character"
def TJ11 : u_T := fun k => match k with
  | _ => ("", "", "", false)
def tyJ11 : Nat → FieldType := fun k => match k with
  | _ => .int
abbrev wsJ110 : List Cond := u_ws RJ11 TJ11 0
theorem nmJ11 : ∀ a, a < 0 → ∀ b, b < 0 → a ≠ b → (TJ11 a).2.1 ≠ (TJ11 b).2.1 := by decide +kernel
theorem tyJ11_ok : ∀ k, k < 0 → parseFieldDescriptor (TJ11 k).2.2.1 = some (tyJ11 k) := by decide +kernel
abbrev cJ11_isValidCodePoint_9a6ad : ByteArray := prog_10_method_11_code
def yJ11_isValidCodePoint_9a6ad : MethodName := ⟨RJ11, "isValidCodePoint", "(I)Z"⟩
abbrev cJ11_highSurrogate_5068e : ByteArray := prog_10_method_28_code
def yJ11_highSurrogate_5068e : MethodName := ⟨RJ11, "highSurrogate", "(I)C"⟩
abbrev cJ11_lowSurrogate_5068e : ByteArray := prog_10_method_29_code
def yJ11_lowSurrogate_5068e : MethodName := ⟨RJ11, "lowSurrogate", "(I)C"⟩
def RJ6 : String := "java/lang/Integer"
def TJ6 : u_T := fun k => match k with
  | _ => ("", "", "", false)
def tyJ6 : Nat → FieldType := fun k => match k with
  | _ => .int
abbrev wsJ60 : List Cond := u_ws RJ6 TJ6 0
theorem nmJ6 : ∀ a, a < 0 → ∀ b, b < 0 → a ≠ b → (TJ6 a).2.1 ≠ (TJ6 b).2.1 := by decide +kernel
theorem tyJ6_ok : ∀ k, k < 0 → parseFieldDescriptor (TJ6 k).2.2.1 = some (tyJ6 k) := by decide +kernel
abbrev cJ6_bitCount_0f7a4 : ByteArray := prog_11_method_49_code
def yJ6_bitCount_0f7a4 : MethodName := ⟨RJ6, "bitCount", "(I)I"⟩
def RJ9 : String := "java/lang/Math"
def TJ9 : u_T := fun k => match k with
  | _ => ("", "", "", false)
def tyJ9 : Nat → FieldType := fun k => match k with
  | _ => .int
abbrev wsJ90 : List Cond := u_ws RJ9 TJ9 0
theorem nmJ9 : ∀ a, a < 0 → ∀ b, b < 0 → a ≠ b → (TJ9 a).2.1 ≠ (TJ9 b).2.1 := by decide +kernel
theorem tyJ9_ok : ∀ k, k < 0 → parseFieldDescriptor (TJ9 k).2.2.1 = some (tyJ9 k) := by decide +kernel
abbrev cJ9_max_7cf53 : ByteArray := prog_12_method_65_code
def yJ9_max_7cf53 : MethodName := ⟨RJ9, "max", "(II)I"⟩
abbrev cJ9_min_7cf53 : ByteArray := prog_12_method_69_code
def yJ9_min_7cf53 : MethodName := ⟨RJ9, "min", "(II)I"⟩
def RJ0 : String := "java/lang/String"
def TJ0 : u_T := fun k => match k with
  | _ => ("", "", "", false)
def tyJ0 : Nat → FieldType := fun k => match k with
  | _ => .int
abbrev wsJ00 : List Cond := u_ws RJ0 TJ0 0
theorem nmJ0 : ∀ a, a < 0 → ∀ b, b < 0 → a ≠ b → (TJ0 a).2.1 ≠ (TJ0 b).2.1 := by decide +kernel
theorem tyJ0_ok : ∀ k, k < 0 → parseFieldDescriptor (TJ0 k).2.2.1 = some (tyJ0 k) := by decide +kernel
abbrev cJ0_length_8abf5 : ByteArray := prog_13_method_54_code
def yJ0_length_8abf5 : MethodName := ⟨RJ0, "length", "()I"⟩
abbrev cJ0_indexOf_0f7a4 : ByteArray := prog_13_method_79_code
def yJ0_indexOf_0f7a4 : MethodName := ⟨RJ0, "indexOf", "(I)I"⟩
abbrev cJ0_indexOf_7cf53 : ByteArray := prog_13_method_80_code
def yJ0_indexOf_7cf53 : MethodName := ⟨RJ0, "indexOf", "(II)I"⟩
abbrev cJ0_coder_7d493 : ByteArray := prog_13_method_152_code
def yJ0_coder_7d493 : MethodName := ⟨RJ0, "coder", "()B"⟩
abbrev cJ0_isLatin1_aae02 : ByteArray := prog_13_method_154_code
def yJ0_isLatin1_aae02 : MethodName := ⟨RJ0, "isLatin1", "()Z"⟩
abbrev cJ0_checkBoundsBeginEnd_23922 : ByteArray := prog_13_method_158_code
def yJ0_checkBoundsBeginEnd_23922 : MethodName := ⟨RJ0, "checkBoundsBeginEnd", "(III)V"⟩
def RJ1 : String := "java/lang/StringLatin1"
def TJ1 : u_T := fun k => match k with
  | _ => ("", "", "", false)
def tyJ1 : Nat → FieldType := fun k => match k with
  | _ => .int
abbrev wsJ10 : List Cond := u_ws RJ1 TJ1 0
theorem nmJ1 : ∀ a, a < 0 → ∀ b, b < 0 → a ≠ b → (TJ1 a).2.1 ≠ (TJ1 b).2.1 := by decide +kernel
theorem tyJ1_ok : ∀ k, k < 0 → parseFieldDescriptor (TJ1 k).2.2.1 = some (tyJ1 k) := by decide +kernel
abbrev cJ1_canEncode_9a6ad : ByteArray := prog_14_method_4_code
def yJ1_canEncode_9a6ad : MethodName := ⟨RJ1, "canEncode", "(I)Z"⟩
abbrev cJ1_indexOf_4cfef : ByteArray := prog_14_method_22_code
def yJ1_indexOf_4cfef : MethodName := ⟨RJ1, "indexOf", "([BIII)I"⟩
abbrev cJ1_indexOfChar_4cfef : ByteArray := prog_14_method_23_code
def yJ1_indexOfChar_4cfef : MethodName := ⟨RJ1, "indexOfChar", "([BIII)I"⟩
def RJ2 : String := "java/lang/StringUTF16"
def TJ2 : u_T := fun k => match k with
  | _ => ("", "", "", false)
def tyJ2 : Nat → FieldType := fun k => match k with
  | _ => .int
abbrev wsJ20 : List Cond := u_ws RJ2 TJ2 0
theorem nmJ2 : ∀ a, a < 0 → ∀ b, b < 0 → a ≠ b → (TJ2 a).2.1 ≠ (TJ2 b).2.1 := by decide +kernel
theorem tyJ2_ok : ∀ k, k < 0 → parseFieldDescriptor (TJ2 k).2.2.1 = some (tyJ2 k) := by decide +kernel
abbrev cJ2_getChar_3b067 : ByteArray := prog_15_method_5_code
def yJ2_getChar_3b067 : MethodName := ⟨RJ2, "getChar", "([BI)C"⟩
abbrev cJ2_length_9d52b : ByteArray := prog_15_method_6_code
def yJ2_length_9d52b : MethodName := ⟨RJ2, "length", "([B)I"⟩
abbrev cJ2_indexOf_4cfef : ByteArray := prog_15_method_40_code
def yJ2_indexOf_4cfef : MethodName := ⟨RJ2, "indexOf", "([BIII)I"⟩
abbrev cJ2_indexOfChar_4cfef : ByteArray := prog_15_method_47_code
def yJ2_indexOfChar_4cfef : MethodName := ⟨RJ2, "indexOfChar", "([BIII)I"⟩
abbrev cJ2_indexOfCharUnsafe_4cfef : ByteArray := prog_15_method_48_code
def yJ2_indexOfCharUnsafe_4cfef : MethodName := ⟨RJ2, "indexOfCharUnsafe", "([BIII)I"⟩
abbrev cJ2_indexOfSupplementary_4cfef : ByteArray := prog_15_method_49_code
def yJ2_indexOfSupplementary_4cfef : MethodName := ⟨RJ2, "indexOfSupplementary", "([BIII)I"⟩
abbrev cJ2_checkBoundsBeginEnd_d044e : ByteArray := prog_15_method_93_code
def yJ2_checkBoundsBeginEnd_d044e : MethodName := ⟨RJ2, "checkBoundsBeginEnd", "(II[B)V"⟩
def RJ3 : String := "jdk/internal/util/Preconditions"
def TJ3 : u_T := fun k => match k with
  | _ => ("", "", "", false)
def tyJ3 : Nat → FieldType := fun k => match k with
  | _ => .int
abbrev wsJ30 : List Cond := u_ws RJ3 TJ3 0
theorem nmJ3 : ∀ a, a < 0 → ∀ b, b < 0 → a ≠ b → (TJ3 a).2.1 ≠ (TJ3 b).2.1 := by decide +kernel
theorem tyJ3_ok : ∀ k, k < 0 → parseFieldDescriptor (TJ3 k).2.2.1 = some (tyJ3 k) := by decide +kernel
abbrev cJ3_checkFromToIndex_8c36e : ByteArray := prog_16_method_12_code
def yJ3_checkFromToIndex_8c36e : MethodName := ⟨RJ3, "checkFromToIndex", "(IIILjava/util/function/BiFunction;)I"⟩
def RL : String := "SongsAgainLaw"
abbrev cL_law : ByteArray := code
def yL_law : MethodName := ⟨RL, "law", "([I)Z"⟩
def wsX5_init : List Cond := .code yX5_init cX5_init 2 none :: ([.methodLink RX5 1 objectInit, .instanceMethod objectInit, .code objectInit ⟨#[0xb1]⟩ 1 none, .methodLink RX5 7 Lib.Math.max.name, .static Lib.Math.max.name, .initialized "java/lang/Math", .code Lib.Math.max.name Lib.Math.max.code 2 (some .int), .arrayClass .int, .fieldLink RX5 13 "SongsAgain$Row" "cells" "[I"] ++ wsX50)
def wsX0_init : List Cond := .code yX0_init cX0_init 1 none :: ([.methodLink RX0 3 objectInit, .instanceMethod objectInit, .code objectInit ⟨#[0xb1]⟩ 1 none, .classLink RX0 9 RX5, .instantiable RX5 1, .initialized RX5, .fieldLink RX0 14 "SongsAgain$Book" "kinds" "LSongsAgain$Row;", .fieldLink RX0 20 "SongsAgain$Book" "singers" "LSongsAgain$Row;", .fieldLink RX0 23 "SongsAgain$Book" "weights" "LSongsAgain$Row;", .fieldLink RX0 26 "SongsAgain$Book" "minutes" "LSongsAgain$Row;", .fieldLink RX0 29 "SongsAgain$Book" "number" "I", .methodLink RX0 11 yX5_init, .instanceMethod yX5_init, .code yX5_init cX5_init 2 none, .methodLink RX5 1 objectInit, .methodLink RX5 7 Lib.Math.max.name, .static Lib.Math.max.name, .initialized "java/lang/Math", .code Lib.Math.max.name Lib.Math.max.code 2 (some .int), .arrayClass .int, .fieldLink RX5 13 "SongsAgain$Row" "cells" "[I"] ++ wsX50 ++ wsX00)
def wsX3_songsRead : List Cond := .code yX3_songsRead cX3_songsRead 1 (some .int) :: ([.fieldLink RX3 20 "SongsAgain$Page" "length" "I", .methodLink RX3 53 Lib.Math.min.name, .static Lib.Math.min.name, .initialized "java/lang/Math", .code Lib.Math.min.name Lib.Math.min.code 2 (some .int)] ++ wsX30)
def wsX5_at : List Cond := .code yX5_at cX5_at 2 (some .int) :: ([.fieldLink RX5 13 "SongsAgain$Row" "cells" "[I"] ++ wsX50)
def wsJ0_isLatin1_aae02 : List Cond := .code yJ0_isLatin1_aae02 cJ0_isLatin1_aae02 1 (some .boolean) :: ([.fieldLink RJ0 38 "java/lang/String" "COMPACT_STRINGS" "Z", .fieldLink RJ0 15 "java/lang/String" "coder" "B"])
def wsJ0_coder_7d493 : List Cond := .code yJ0_coder_7d493 cJ0_coder_7d493 1 (some .byte) :: ([.fieldLink RJ0 38 "java/lang/String" "COMPACT_STRINGS" "Z", .fieldLink RJ0 15 "java/lang/String" "coder" "B"])
def wsJ0_length_8abf5 : List Cond := .code yJ0_length_8abf5 cJ0_length_8abf5 1 (some .int) :: ([.fieldLink RJ0 9 "java/lang/String" "value" "[B", .methodLink RJ0 335 yJ0_coder_7d493, .instanceMethod yJ0_coder_7d493, .selects RJ0 yJ0_coder_7d493 yJ0_coder_7d493, .initialized RJ0, .code yJ0_coder_7d493 cJ0_coder_7d493 1 (some .byte), .fieldLink RJ0 38 "java/lang/String" "COMPACT_STRINGS" "Z", .fieldLink RJ0 15 "java/lang/String" "coder" "B"])
def wsJ1_canEncode_9a6ad : List Cond := .code yJ1_canEncode_9a6ad cJ1_canEncode_9a6ad 1 (some .boolean) :: ([])
def wsJ1_indexOfChar_4cfef : List Cond := .code yJ1_indexOfChar_4cfef cJ1_indexOfChar_4cfef 6 (some .int) :: ([])
def wsJ1_indexOf_4cfef : List Cond := .code yJ1_indexOf_4cfef cJ1_indexOf_4cfef 4 (some .int) :: ([.methodLink RJ1 92 Lib.Math.max.name, .static Lib.Math.max.name, .initialized "java/lang/Math", .code Lib.Math.max.name Lib.Math.max.code 2 (some .int), .methodLink RJ1 38 Lib.Math.min.name, .static Lib.Math.min.name, .code Lib.Math.min.name Lib.Math.min.code 2 (some .int), .methodLink RJ1 88 yJ1_canEncode_9a6ad, .static yJ1_canEncode_9a6ad, .initialized RJ1, .code yJ1_canEncode_9a6ad cJ1_canEncode_9a6ad 1 (some .boolean), .methodLink RJ1 95 yJ1_indexOfChar_4cfef, .static yJ1_indexOfChar_4cfef, .code yJ1_indexOfChar_4cfef cJ1_indexOfChar_4cfef 6 (some .int)])
def wsJ2_length_9d52b : List Cond := .code yJ2_length_9d52b cJ2_length_9d52b 1 (some .int) :: ([])
def wsJ3_checkFromToIndex_8c36e : List Cond := .code yJ3_checkFromToIndex_8c36e cJ3_checkFromToIndex_8c36e 4 (some .int) :: ([])
def wsJ0_checkBoundsBeginEnd_23922 : List Cond := .code yJ0_checkBoundsBeginEnd_23922 cJ0_checkBoundsBeginEnd_23922 3 none :: ([.fieldLink RJ0 1053 "jdk/internal/util/Preconditions" "SIOOBE_FORMATTER" "Ljava/util/function/BiFunction;", .methodLink RJ0 1062 yJ3_checkFromToIndex_8c36e, .static yJ3_checkFromToIndex_8c36e, .initialized RJ3, .code yJ3_checkFromToIndex_8c36e cJ3_checkFromToIndex_8c36e 4 (some .int)])
def wsJ2_checkBoundsBeginEnd_d044e : List Cond := .code yJ2_checkBoundsBeginEnd_d044e cJ2_checkBoundsBeginEnd_d044e 3 none :: ([.methodLink RJ2 48 yJ2_length_9d52b, .static yJ2_length_9d52b, .initialized RJ2, .code yJ2_length_9d52b cJ2_length_9d52b 1 (some .int), .methodLink RJ2 241 yJ0_checkBoundsBeginEnd_23922, .static yJ0_checkBoundsBeginEnd_23922, .initialized RJ0, .code yJ0_checkBoundsBeginEnd_23922 cJ0_checkBoundsBeginEnd_23922 3 none, .fieldLink RJ0 1053 "jdk/internal/util/Preconditions" "SIOOBE_FORMATTER" "Ljava/util/function/BiFunction;", .methodLink RJ0 1062 yJ3_checkFromToIndex_8c36e, .static yJ3_checkFromToIndex_8c36e, .initialized RJ3, .code yJ3_checkFromToIndex_8c36e cJ3_checkFromToIndex_8c36e 4 (some .int)])
def wsJ2_getChar_3b067 : List Cond := .code yJ2_getChar_3b067 cJ2_getChar_3b067 2 (some .char) :: ([.fieldLink RJ2 44 "java/lang/StringUTF16" "$assertionsDisabled" "Z", .fieldLink RJ2 59 "java/lang/StringUTF16" "HI_BYTE_SHIFT" "I", .fieldLink RJ2 63 "java/lang/StringUTF16" "LO_BYTE_SHIFT" "I", .methodLink RJ2 48 yJ2_length_9d52b, .static yJ2_length_9d52b, .initialized RJ2, .code yJ2_length_9d52b cJ2_length_9d52b 1 (some .int)])
def wsJ2_indexOfCharUnsafe_4cfef : List Cond := .code yJ2_indexOfCharUnsafe_4cfef cJ2_indexOfCharUnsafe_4cfef 5 (some .int) :: ([.methodLink RJ2 71 yJ2_getChar_3b067, .static yJ2_getChar_3b067, .initialized RJ2, .code yJ2_getChar_3b067 cJ2_getChar_3b067 2 (some .char), .fieldLink RJ2 44 "java/lang/StringUTF16" "$assertionsDisabled" "Z", .fieldLink RJ2 59 "java/lang/StringUTF16" "HI_BYTE_SHIFT" "I", .fieldLink RJ2 63 "java/lang/StringUTF16" "LO_BYTE_SHIFT" "I", .methodLink RJ2 48 yJ2_length_9d52b, .static yJ2_length_9d52b, .code yJ2_length_9d52b cJ2_length_9d52b 1 (some .int)])
def wsJ2_indexOfChar_4cfef_r1 : List Cond := [Cond.methodLink RJ2 96 yJ2_checkBoundsBeginEnd_d044e, Cond.static yJ2_checkBoundsBeginEnd_d044e, Cond.initialized RJ2, Cond.code yJ2_checkBoundsBeginEnd_d044e cJ2_checkBoundsBeginEnd_d044e 3 none, Cond.methodLink RJ2 48 yJ2_length_9d52b, Cond.static yJ2_length_9d52b, Cond.code yJ2_length_9d52b cJ2_length_9d52b 1 (some .int), Cond.methodLink RJ2 241 yJ0_checkBoundsBeginEnd_23922, Cond.static yJ0_checkBoundsBeginEnd_23922, Cond.initialized RJ0, Cond.code yJ0_checkBoundsBeginEnd_23922 cJ0_checkBoundsBeginEnd_23922 3 none, Cond.fieldLink RJ0 1053 "jdk/internal/util/Preconditions" "SIOOBE_FORMATTER" "Ljava/util/function/BiFunction;", Cond.methodLink RJ0 1062 yJ3_checkFromToIndex_8c36e, Cond.static yJ3_checkFromToIndex_8c36e, Cond.initialized RJ3, Cond.code yJ3_checkFromToIndex_8c36e cJ3_checkFromToIndex_8c36e 4 (some .int), Cond.methodLink RJ2 244 yJ2_indexOfCharUnsafe_4cfef, Cond.static yJ2_indexOfCharUnsafe_4cfef, Cond.code yJ2_indexOfCharUnsafe_4cfef cJ2_indexOfCharUnsafe_4cfef 5 (some .int), Cond.methodLink RJ2 71 yJ2_getChar_3b067, Cond.static yJ2_getChar_3b067, Cond.code yJ2_getChar_3b067 cJ2_getChar_3b067 2 (some .char), Cond.fieldLink RJ2 44 "java/lang/StringUTF16" "$assertionsDisabled" "Z", Cond.fieldLink RJ2 59 "java/lang/StringUTF16" "HI_BYTE_SHIFT" "I"]
def wsJ2_indexOfChar_4cfef_r2 : List Cond := [Cond.fieldLink RJ2 63 "java/lang/StringUTF16" "LO_BYTE_SHIFT" "I"]
def wsJ2_indexOfChar_4cfef : List Cond := .code yJ2_indexOfChar_4cfef cJ2_indexOfChar_4cfef 4 (some .int) :: ((wsJ2_indexOfChar_4cfef_r1 ++ wsJ2_indexOfChar_4cfef_r2))
def wsJ11_isValidCodePoint_9a6ad : List Cond := .code yJ11_isValidCodePoint_9a6ad cJ11_isValidCodePoint_9a6ad 2 (some .boolean) :: ([])
def wsJ11_highSurrogate_5068e : List Cond := .code yJ11_highSurrogate_5068e cJ11_highSurrogate_5068e 1 (some .char) :: ([.constant RJ11 110 (55232)])
def wsJ11_lowSurrogate_5068e : List Cond := .code yJ11_lowSurrogate_5068e cJ11_lowSurrogate_5068e 1 (some .char) :: ([.constant RJ11 76 (56320)])
def wsJ2_indexOfSupplementary_4cfef_r1 : List Cond := [Cond.methodLink RJ2 164 yJ11_isValidCodePoint_9a6ad, Cond.static yJ11_isValidCodePoint_9a6ad, Cond.initialized RJ11, Cond.code yJ11_isValidCodePoint_9a6ad cJ11_isValidCodePoint_9a6ad 2 (some .boolean), Cond.methodLink RJ2 157 yJ11_highSurrogate_5068e, Cond.static yJ11_highSurrogate_5068e, Cond.code yJ11_highSurrogate_5068e cJ11_highSurrogate_5068e 1 (some .char), Cond.constant RJ11 110 (55232), Cond.methodLink RJ2 161 yJ11_lowSurrogate_5068e, Cond.static yJ11_lowSurrogate_5068e, Cond.code yJ11_lowSurrogate_5068e cJ11_lowSurrogate_5068e 1 (some .char), Cond.constant RJ11 76 (56320), Cond.methodLink RJ2 96 yJ2_checkBoundsBeginEnd_d044e, Cond.static yJ2_checkBoundsBeginEnd_d044e, Cond.initialized RJ2, Cond.code yJ2_checkBoundsBeginEnd_d044e cJ2_checkBoundsBeginEnd_d044e 3 none, Cond.methodLink RJ2 48 yJ2_length_9d52b, Cond.static yJ2_length_9d52b, Cond.code yJ2_length_9d52b cJ2_length_9d52b 1 (some .int), Cond.methodLink RJ2 241 yJ0_checkBoundsBeginEnd_23922, Cond.static yJ0_checkBoundsBeginEnd_23922, Cond.initialized RJ0, Cond.code yJ0_checkBoundsBeginEnd_23922 cJ0_checkBoundsBeginEnd_23922 3 none, Cond.fieldLink RJ0 1053 "jdk/internal/util/Preconditions" "SIOOBE_FORMATTER" "Ljava/util/function/BiFunction;"]
def wsJ2_indexOfSupplementary_4cfef_r2 : List Cond := [Cond.methodLink RJ0 1062 yJ3_checkFromToIndex_8c36e, Cond.static yJ3_checkFromToIndex_8c36e, Cond.initialized RJ3, Cond.code yJ3_checkFromToIndex_8c36e cJ3_checkFromToIndex_8c36e 4 (some .int), Cond.methodLink RJ2 71 yJ2_getChar_3b067, Cond.static yJ2_getChar_3b067, Cond.code yJ2_getChar_3b067 cJ2_getChar_3b067 2 (some .char), Cond.fieldLink RJ2 44 "java/lang/StringUTF16" "$assertionsDisabled" "Z", Cond.fieldLink RJ2 59 "java/lang/StringUTF16" "HI_BYTE_SHIFT" "I", Cond.fieldLink RJ2 63 "java/lang/StringUTF16" "LO_BYTE_SHIFT" "I"]
def wsJ2_indexOfSupplementary_4cfef : List Cond := .code yJ2_indexOfSupplementary_4cfef cJ2_indexOfSupplementary_4cfef 7 (some .int) :: ((wsJ2_indexOfSupplementary_4cfef_r1 ++ wsJ2_indexOfSupplementary_4cfef_r2))
def wsJ2_indexOf_4cfef_r1 : List Cond := [Cond.methodLink RJ2 224 Lib.Math.max.name, Cond.static Lib.Math.max.name, Cond.initialized "java/lang/Math", Cond.code Lib.Math.max.name Lib.Math.max.code 2 (some .int), Cond.methodLink RJ2 183 Lib.Math.min.name, Cond.static Lib.Math.min.name, Cond.code Lib.Math.min.name Lib.Math.min.code 2 (some .int), Cond.constant RJ2 227 (65536), Cond.methodLink RJ2 228 yJ2_indexOfChar_4cfef, Cond.static yJ2_indexOfChar_4cfef, Cond.initialized RJ2, Cond.code yJ2_indexOfChar_4cfef cJ2_indexOfChar_4cfef 4 (some .int), Cond.methodLink RJ2 96 yJ2_checkBoundsBeginEnd_d044e, Cond.static yJ2_checkBoundsBeginEnd_d044e, Cond.code yJ2_checkBoundsBeginEnd_d044e cJ2_checkBoundsBeginEnd_d044e 3 none, Cond.methodLink RJ2 48 yJ2_length_9d52b, Cond.static yJ2_length_9d52b, Cond.code yJ2_length_9d52b cJ2_length_9d52b 1 (some .int), Cond.methodLink RJ2 241 yJ0_checkBoundsBeginEnd_23922, Cond.static yJ0_checkBoundsBeginEnd_23922, Cond.initialized RJ0, Cond.code yJ0_checkBoundsBeginEnd_23922 cJ0_checkBoundsBeginEnd_23922 3 none, Cond.fieldLink RJ0 1053 "jdk/internal/util/Preconditions" "SIOOBE_FORMATTER" "Ljava/util/function/BiFunction;", Cond.methodLink RJ0 1062 yJ3_checkFromToIndex_8c36e]
def wsJ2_indexOf_4cfef_r2 : List Cond := [Cond.static yJ3_checkFromToIndex_8c36e, Cond.initialized RJ3, Cond.code yJ3_checkFromToIndex_8c36e cJ3_checkFromToIndex_8c36e 4 (some .int), Cond.methodLink RJ2 244 yJ2_indexOfCharUnsafe_4cfef, Cond.static yJ2_indexOfCharUnsafe_4cfef, Cond.code yJ2_indexOfCharUnsafe_4cfef cJ2_indexOfCharUnsafe_4cfef 5 (some .int), Cond.methodLink RJ2 71 yJ2_getChar_3b067, Cond.static yJ2_getChar_3b067, Cond.code yJ2_getChar_3b067 cJ2_getChar_3b067 2 (some .char), Cond.fieldLink RJ2 44 "java/lang/StringUTF16" "$assertionsDisabled" "Z", Cond.fieldLink RJ2 59 "java/lang/StringUTF16" "HI_BYTE_SHIFT" "I", Cond.fieldLink RJ2 63 "java/lang/StringUTF16" "LO_BYTE_SHIFT" "I", Cond.methodLink RJ2 232 yJ2_indexOfSupplementary_4cfef, Cond.static yJ2_indexOfSupplementary_4cfef, Cond.code yJ2_indexOfSupplementary_4cfef cJ2_indexOfSupplementary_4cfef 7 (some .int), Cond.methodLink RJ2 164 yJ11_isValidCodePoint_9a6ad, Cond.static yJ11_isValidCodePoint_9a6ad, Cond.initialized RJ11, Cond.code yJ11_isValidCodePoint_9a6ad cJ11_isValidCodePoint_9a6ad 2 (some .boolean), Cond.methodLink RJ2 157 yJ11_highSurrogate_5068e, Cond.static yJ11_highSurrogate_5068e, Cond.code yJ11_highSurrogate_5068e cJ11_highSurrogate_5068e 1 (some .char), Cond.constant RJ11 110 (55232), Cond.methodLink RJ2 161 yJ11_lowSurrogate_5068e]
def wsJ2_indexOf_4cfef_r3 : List Cond := [Cond.static yJ11_lowSurrogate_5068e, Cond.code yJ11_lowSurrogate_5068e cJ11_lowSurrogate_5068e 1 (some .char), Cond.constant RJ11 76 (56320)]
def wsJ2_indexOf_4cfef : List Cond := .code yJ2_indexOf_4cfef cJ2_indexOf_4cfef 4 (some .int) :: ((wsJ2_indexOf_4cfef_r1 ++ (wsJ2_indexOf_4cfef_r2 ++ wsJ2_indexOf_4cfef_r3)))
def wsJ0_indexOf_7cf53_r1 : List Cond := [Cond.fieldLink RJ0 9 "java/lang/String" "value" "[B", Cond.methodLink RJ0 492 yJ0_isLatin1_aae02, Cond.instanceMethod yJ0_isLatin1_aae02, Cond.selects RJ0 yJ0_isLatin1_aae02 yJ0_isLatin1_aae02, Cond.initialized RJ0, Cond.code yJ0_isLatin1_aae02 cJ0_isLatin1_aae02 1 (some .boolean), Cond.fieldLink RJ0 38 "java/lang/String" "COMPACT_STRINGS" "Z", Cond.fieldLink RJ0 15 "java/lang/String" "coder" "B", Cond.methodLink RJ0 505 yJ0_length_8abf5, Cond.instanceMethod yJ0_length_8abf5, Cond.selects RJ0 yJ0_length_8abf5 yJ0_length_8abf5, Cond.code yJ0_length_8abf5 cJ0_length_8abf5 1 (some .int), Cond.methodLink RJ0 335 yJ0_coder_7d493, Cond.instanceMethod yJ0_coder_7d493, Cond.selects RJ0 yJ0_coder_7d493 yJ0_coder_7d493, Cond.code yJ0_coder_7d493 cJ0_coder_7d493 1 (some .byte), Cond.methodLink RJ0 637 yJ1_indexOf_4cfef, Cond.static yJ1_indexOf_4cfef, Cond.initialized RJ1, Cond.code yJ1_indexOf_4cfef cJ1_indexOf_4cfef 4 (some .int), Cond.methodLink RJ1 92 Lib.Math.max.name, Cond.static Lib.Math.max.name, Cond.initialized "java/lang/Math", Cond.code Lib.Math.max.name Lib.Math.max.code 2 (some .int)]
def wsJ0_indexOf_7cf53_r2 : List Cond := [Cond.methodLink RJ1 38 Lib.Math.min.name, Cond.static Lib.Math.min.name, Cond.code Lib.Math.min.name Lib.Math.min.code 2 (some .int), Cond.methodLink RJ1 88 yJ1_canEncode_9a6ad, Cond.static yJ1_canEncode_9a6ad, Cond.code yJ1_canEncode_9a6ad cJ1_canEncode_9a6ad 1 (some .boolean), Cond.methodLink RJ1 95 yJ1_indexOfChar_4cfef, Cond.static yJ1_indexOfChar_4cfef, Cond.code yJ1_indexOfChar_4cfef cJ1_indexOfChar_4cfef 6 (some .int), Cond.methodLink RJ0 640 yJ2_indexOf_4cfef, Cond.static yJ2_indexOf_4cfef, Cond.initialized RJ2, Cond.code yJ2_indexOf_4cfef cJ2_indexOf_4cfef 4 (some .int), Cond.methodLink RJ2 224 Lib.Math.max.name, Cond.methodLink RJ2 183 Lib.Math.min.name, Cond.constant RJ2 227 (65536), Cond.methodLink RJ2 228 yJ2_indexOfChar_4cfef, Cond.static yJ2_indexOfChar_4cfef, Cond.code yJ2_indexOfChar_4cfef cJ2_indexOfChar_4cfef 4 (some .int), Cond.methodLink RJ2 96 yJ2_checkBoundsBeginEnd_d044e, Cond.static yJ2_checkBoundsBeginEnd_d044e, Cond.code yJ2_checkBoundsBeginEnd_d044e cJ2_checkBoundsBeginEnd_d044e 3 none, Cond.methodLink RJ2 48 yJ2_length_9d52b, Cond.static yJ2_length_9d52b]
def wsJ0_indexOf_7cf53_r3 : List Cond := [Cond.code yJ2_length_9d52b cJ2_length_9d52b 1 (some .int), Cond.methodLink RJ2 241 yJ0_checkBoundsBeginEnd_23922, Cond.static yJ0_checkBoundsBeginEnd_23922, Cond.code yJ0_checkBoundsBeginEnd_23922 cJ0_checkBoundsBeginEnd_23922 3 none, Cond.fieldLink RJ0 1053 "jdk/internal/util/Preconditions" "SIOOBE_FORMATTER" "Ljava/util/function/BiFunction;", Cond.methodLink RJ0 1062 yJ3_checkFromToIndex_8c36e, Cond.static yJ3_checkFromToIndex_8c36e, Cond.initialized RJ3, Cond.code yJ3_checkFromToIndex_8c36e cJ3_checkFromToIndex_8c36e 4 (some .int), Cond.methodLink RJ2 244 yJ2_indexOfCharUnsafe_4cfef, Cond.static yJ2_indexOfCharUnsafe_4cfef, Cond.code yJ2_indexOfCharUnsafe_4cfef cJ2_indexOfCharUnsafe_4cfef 5 (some .int), Cond.methodLink RJ2 71 yJ2_getChar_3b067, Cond.static yJ2_getChar_3b067, Cond.code yJ2_getChar_3b067 cJ2_getChar_3b067 2 (some .char), Cond.fieldLink RJ2 44 "java/lang/StringUTF16" "$assertionsDisabled" "Z", Cond.fieldLink RJ2 59 "java/lang/StringUTF16" "HI_BYTE_SHIFT" "I", Cond.fieldLink RJ2 63 "java/lang/StringUTF16" "LO_BYTE_SHIFT" "I", Cond.methodLink RJ2 232 yJ2_indexOfSupplementary_4cfef, Cond.static yJ2_indexOfSupplementary_4cfef, Cond.code yJ2_indexOfSupplementary_4cfef cJ2_indexOfSupplementary_4cfef 7 (some .int), Cond.methodLink RJ2 164 yJ11_isValidCodePoint_9a6ad, Cond.static yJ11_isValidCodePoint_9a6ad, Cond.initialized RJ11]
def wsJ0_indexOf_7cf53_r4 : List Cond := [Cond.code yJ11_isValidCodePoint_9a6ad cJ11_isValidCodePoint_9a6ad 2 (some .boolean), Cond.methodLink RJ2 157 yJ11_highSurrogate_5068e, Cond.static yJ11_highSurrogate_5068e, Cond.code yJ11_highSurrogate_5068e cJ11_highSurrogate_5068e 1 (some .char), Cond.constant RJ11 110 (55232), Cond.methodLink RJ2 161 yJ11_lowSurrogate_5068e, Cond.static yJ11_lowSurrogate_5068e, Cond.code yJ11_lowSurrogate_5068e cJ11_lowSurrogate_5068e 1 (some .char), Cond.constant RJ11 76 (56320)]
def wsJ0_indexOf_7cf53 : List Cond := .code yJ0_indexOf_7cf53 cJ0_indexOf_7cf53 3 (some .int) :: ((wsJ0_indexOf_7cf53_r1 ++ (wsJ0_indexOf_7cf53_r2 ++ (wsJ0_indexOf_7cf53_r3 ++ wsJ0_indexOf_7cf53_r4))))
def wsJ0_indexOf_0f7a4_r1 : List Cond := [Cond.methodLink RJ0 633 yJ0_indexOf_7cf53, Cond.instanceMethod yJ0_indexOf_7cf53, Cond.selects RJ0 yJ0_indexOf_7cf53 yJ0_indexOf_7cf53, Cond.initialized RJ0, Cond.code yJ0_indexOf_7cf53 cJ0_indexOf_7cf53 3 (some .int), Cond.fieldLink RJ0 9 "java/lang/String" "value" "[B", Cond.methodLink RJ0 492 yJ0_isLatin1_aae02, Cond.instanceMethod yJ0_isLatin1_aae02, Cond.selects RJ0 yJ0_isLatin1_aae02 yJ0_isLatin1_aae02, Cond.code yJ0_isLatin1_aae02 cJ0_isLatin1_aae02 1 (some .boolean), Cond.fieldLink RJ0 38 "java/lang/String" "COMPACT_STRINGS" "Z", Cond.fieldLink RJ0 15 "java/lang/String" "coder" "B", Cond.methodLink RJ0 505 yJ0_length_8abf5, Cond.instanceMethod yJ0_length_8abf5, Cond.selects RJ0 yJ0_length_8abf5 yJ0_length_8abf5, Cond.code yJ0_length_8abf5 cJ0_length_8abf5 1 (some .int), Cond.methodLink RJ0 335 yJ0_coder_7d493, Cond.instanceMethod yJ0_coder_7d493, Cond.selects RJ0 yJ0_coder_7d493 yJ0_coder_7d493, Cond.code yJ0_coder_7d493 cJ0_coder_7d493 1 (some .byte), Cond.methodLink RJ0 637 yJ1_indexOf_4cfef, Cond.static yJ1_indexOf_4cfef, Cond.initialized RJ1, Cond.code yJ1_indexOf_4cfef cJ1_indexOf_4cfef 4 (some .int)]
def wsJ0_indexOf_0f7a4_r2 : List Cond := [Cond.methodLink RJ1 92 Lib.Math.max.name, Cond.static Lib.Math.max.name, Cond.initialized "java/lang/Math", Cond.code Lib.Math.max.name Lib.Math.max.code 2 (some .int), Cond.methodLink RJ1 38 Lib.Math.min.name, Cond.static Lib.Math.min.name, Cond.code Lib.Math.min.name Lib.Math.min.code 2 (some .int), Cond.methodLink RJ1 88 yJ1_canEncode_9a6ad, Cond.static yJ1_canEncode_9a6ad, Cond.code yJ1_canEncode_9a6ad cJ1_canEncode_9a6ad 1 (some .boolean), Cond.methodLink RJ1 95 yJ1_indexOfChar_4cfef, Cond.static yJ1_indexOfChar_4cfef, Cond.code yJ1_indexOfChar_4cfef cJ1_indexOfChar_4cfef 6 (some .int), Cond.methodLink RJ0 640 yJ2_indexOf_4cfef, Cond.static yJ2_indexOf_4cfef, Cond.initialized RJ2, Cond.code yJ2_indexOf_4cfef cJ2_indexOf_4cfef 4 (some .int), Cond.methodLink RJ2 224 Lib.Math.max.name, Cond.methodLink RJ2 183 Lib.Math.min.name, Cond.constant RJ2 227 (65536), Cond.methodLink RJ2 228 yJ2_indexOfChar_4cfef, Cond.static yJ2_indexOfChar_4cfef, Cond.code yJ2_indexOfChar_4cfef cJ2_indexOfChar_4cfef 4 (some .int), Cond.methodLink RJ2 96 yJ2_checkBoundsBeginEnd_d044e]
def wsJ0_indexOf_0f7a4_r3 : List Cond := [Cond.static yJ2_checkBoundsBeginEnd_d044e, Cond.code yJ2_checkBoundsBeginEnd_d044e cJ2_checkBoundsBeginEnd_d044e 3 none, Cond.methodLink RJ2 48 yJ2_length_9d52b, Cond.static yJ2_length_9d52b, Cond.code yJ2_length_9d52b cJ2_length_9d52b 1 (some .int), Cond.methodLink RJ2 241 yJ0_checkBoundsBeginEnd_23922, Cond.static yJ0_checkBoundsBeginEnd_23922, Cond.code yJ0_checkBoundsBeginEnd_23922 cJ0_checkBoundsBeginEnd_23922 3 none, Cond.fieldLink RJ0 1053 "jdk/internal/util/Preconditions" "SIOOBE_FORMATTER" "Ljava/util/function/BiFunction;", Cond.methodLink RJ0 1062 yJ3_checkFromToIndex_8c36e, Cond.static yJ3_checkFromToIndex_8c36e, Cond.initialized RJ3, Cond.code yJ3_checkFromToIndex_8c36e cJ3_checkFromToIndex_8c36e 4 (some .int), Cond.methodLink RJ2 244 yJ2_indexOfCharUnsafe_4cfef, Cond.static yJ2_indexOfCharUnsafe_4cfef, Cond.code yJ2_indexOfCharUnsafe_4cfef cJ2_indexOfCharUnsafe_4cfef 5 (some .int), Cond.methodLink RJ2 71 yJ2_getChar_3b067, Cond.static yJ2_getChar_3b067, Cond.code yJ2_getChar_3b067 cJ2_getChar_3b067 2 (some .char), Cond.fieldLink RJ2 44 "java/lang/StringUTF16" "$assertionsDisabled" "Z", Cond.fieldLink RJ2 59 "java/lang/StringUTF16" "HI_BYTE_SHIFT" "I", Cond.fieldLink RJ2 63 "java/lang/StringUTF16" "LO_BYTE_SHIFT" "I", Cond.methodLink RJ2 232 yJ2_indexOfSupplementary_4cfef, Cond.static yJ2_indexOfSupplementary_4cfef]
def wsJ0_indexOf_0f7a4_r4 : List Cond := [Cond.code yJ2_indexOfSupplementary_4cfef cJ2_indexOfSupplementary_4cfef 7 (some .int), Cond.methodLink RJ2 164 yJ11_isValidCodePoint_9a6ad, Cond.static yJ11_isValidCodePoint_9a6ad, Cond.initialized RJ11, Cond.code yJ11_isValidCodePoint_9a6ad cJ11_isValidCodePoint_9a6ad 2 (some .boolean), Cond.methodLink RJ2 157 yJ11_highSurrogate_5068e, Cond.static yJ11_highSurrogate_5068e, Cond.code yJ11_highSurrogate_5068e cJ11_highSurrogate_5068e 1 (some .char), Cond.constant RJ11 110 (55232), Cond.methodLink RJ2 161 yJ11_lowSurrogate_5068e, Cond.static yJ11_lowSurrogate_5068e, Cond.code yJ11_lowSurrogate_5068e cJ11_lowSurrogate_5068e 1 (some .char), Cond.constant RJ11 76 (56320)]
def wsJ0_indexOf_0f7a4 : List Cond := .code yJ0_indexOf_0f7a4 cJ0_indexOf_0f7a4 2 (some .int) :: ((wsJ0_indexOf_0f7a4_r1 ++ (wsJ0_indexOf_0f7a4_r2 ++ (wsJ0_indexOf_0f7a4_r3 ++ wsJ0_indexOf_0f7a4_r4))))
def wsX3_kindRead_r1 : List Cond := [Cond.fieldLink RX3 14 "SongsAgain$Page" "codes" "LSongsAgain$Row;", Cond.methodLink RX3 32 yX5_at, Cond.instanceMethod yX5_at, Cond.selects RX5 yX5_at yX5_at, Cond.initialized RX5, Cond.code yX5_at cX5_at 2 (some .int), Cond.fieldLink RX5 13 "SongsAgain$Row" "cells" "[I", Cond.methodLink RX3 41 yJ0_indexOf_0f7a4, Cond.instanceMethod yJ0_indexOf_0f7a4, Cond.selects RJ0 yJ0_indexOf_0f7a4 yJ0_indexOf_0f7a4, Cond.initialized RJ0, Cond.code yJ0_indexOf_0f7a4 cJ0_indexOf_0f7a4 2 (some .int), Cond.methodLink RJ0 633 yJ0_indexOf_7cf53, Cond.instanceMethod yJ0_indexOf_7cf53, Cond.selects RJ0 yJ0_indexOf_7cf53 yJ0_indexOf_7cf53, Cond.code yJ0_indexOf_7cf53 cJ0_indexOf_7cf53 3 (some .int), Cond.fieldLink RJ0 9 "java/lang/String" "value" "[B", Cond.methodLink RJ0 492 yJ0_isLatin1_aae02, Cond.instanceMethod yJ0_isLatin1_aae02, Cond.selects RJ0 yJ0_isLatin1_aae02 yJ0_isLatin1_aae02, Cond.code yJ0_isLatin1_aae02 cJ0_isLatin1_aae02 1 (some .boolean), Cond.fieldLink RJ0 38 "java/lang/String" "COMPACT_STRINGS" "Z", Cond.fieldLink RJ0 15 "java/lang/String" "coder" "B", Cond.methodLink RJ0 505 yJ0_length_8abf5]
def wsX3_kindRead_r2 : List Cond := [Cond.instanceMethod yJ0_length_8abf5, Cond.selects RJ0 yJ0_length_8abf5 yJ0_length_8abf5, Cond.code yJ0_length_8abf5 cJ0_length_8abf5 1 (some .int), Cond.methodLink RJ0 335 yJ0_coder_7d493, Cond.instanceMethod yJ0_coder_7d493, Cond.selects RJ0 yJ0_coder_7d493 yJ0_coder_7d493, Cond.code yJ0_coder_7d493 cJ0_coder_7d493 1 (some .byte), Cond.methodLink RJ0 637 yJ1_indexOf_4cfef, Cond.static yJ1_indexOf_4cfef, Cond.initialized RJ1, Cond.code yJ1_indexOf_4cfef cJ1_indexOf_4cfef 4 (some .int), Cond.methodLink RJ1 92 Lib.Math.max.name, Cond.static Lib.Math.max.name, Cond.initialized "java/lang/Math", Cond.code Lib.Math.max.name Lib.Math.max.code 2 (some .int), Cond.methodLink RJ1 38 Lib.Math.min.name, Cond.static Lib.Math.min.name, Cond.code Lib.Math.min.name Lib.Math.min.code 2 (some .int), Cond.methodLink RJ1 88 yJ1_canEncode_9a6ad, Cond.static yJ1_canEncode_9a6ad, Cond.code yJ1_canEncode_9a6ad cJ1_canEncode_9a6ad 1 (some .boolean), Cond.methodLink RJ1 95 yJ1_indexOfChar_4cfef, Cond.static yJ1_indexOfChar_4cfef, Cond.code yJ1_indexOfChar_4cfef cJ1_indexOfChar_4cfef 6 (some .int)]
def wsX3_kindRead_r3 : List Cond := [Cond.methodLink RJ0 640 yJ2_indexOf_4cfef, Cond.static yJ2_indexOf_4cfef, Cond.initialized RJ2, Cond.code yJ2_indexOf_4cfef cJ2_indexOf_4cfef 4 (some .int), Cond.methodLink RJ2 224 Lib.Math.max.name, Cond.methodLink RJ2 183 Lib.Math.min.name, Cond.constant RJ2 227 (65536), Cond.methodLink RJ2 228 yJ2_indexOfChar_4cfef, Cond.static yJ2_indexOfChar_4cfef, Cond.code yJ2_indexOfChar_4cfef cJ2_indexOfChar_4cfef 4 (some .int), Cond.methodLink RJ2 96 yJ2_checkBoundsBeginEnd_d044e, Cond.static yJ2_checkBoundsBeginEnd_d044e, Cond.code yJ2_checkBoundsBeginEnd_d044e cJ2_checkBoundsBeginEnd_d044e 3 none, Cond.methodLink RJ2 48 yJ2_length_9d52b, Cond.static yJ2_length_9d52b, Cond.code yJ2_length_9d52b cJ2_length_9d52b 1 (some .int), Cond.methodLink RJ2 241 yJ0_checkBoundsBeginEnd_23922, Cond.static yJ0_checkBoundsBeginEnd_23922, Cond.code yJ0_checkBoundsBeginEnd_23922 cJ0_checkBoundsBeginEnd_23922 3 none, Cond.fieldLink RJ0 1053 "jdk/internal/util/Preconditions" "SIOOBE_FORMATTER" "Ljava/util/function/BiFunction;", Cond.methodLink RJ0 1062 yJ3_checkFromToIndex_8c36e, Cond.static yJ3_checkFromToIndex_8c36e, Cond.initialized RJ3, Cond.code yJ3_checkFromToIndex_8c36e cJ3_checkFromToIndex_8c36e 4 (some .int)]
def wsX3_kindRead_r4 : List Cond := [Cond.methodLink RJ2 244 yJ2_indexOfCharUnsafe_4cfef, Cond.static yJ2_indexOfCharUnsafe_4cfef, Cond.code yJ2_indexOfCharUnsafe_4cfef cJ2_indexOfCharUnsafe_4cfef 5 (some .int), Cond.methodLink RJ2 71 yJ2_getChar_3b067, Cond.static yJ2_getChar_3b067, Cond.code yJ2_getChar_3b067 cJ2_getChar_3b067 2 (some .char), Cond.fieldLink RJ2 44 "java/lang/StringUTF16" "$assertionsDisabled" "Z", Cond.fieldLink RJ2 59 "java/lang/StringUTF16" "HI_BYTE_SHIFT" "I", Cond.fieldLink RJ2 63 "java/lang/StringUTF16" "LO_BYTE_SHIFT" "I", Cond.methodLink RJ2 232 yJ2_indexOfSupplementary_4cfef, Cond.static yJ2_indexOfSupplementary_4cfef, Cond.code yJ2_indexOfSupplementary_4cfef cJ2_indexOfSupplementary_4cfef 7 (some .int), Cond.methodLink RJ2 164 yJ11_isValidCodePoint_9a6ad, Cond.static yJ11_isValidCodePoint_9a6ad, Cond.initialized RJ11, Cond.code yJ11_isValidCodePoint_9a6ad cJ11_isValidCodePoint_9a6ad 2 (some .boolean), Cond.methodLink RJ2 157 yJ11_highSurrogate_5068e, Cond.static yJ11_highSurrogate_5068e, Cond.code yJ11_highSurrogate_5068e cJ11_highSurrogate_5068e 1 (some .char), Cond.constant RJ11 110 (55232), Cond.methodLink RJ2 161 yJ11_lowSurrogate_5068e, Cond.static yJ11_lowSurrogate_5068e, Cond.code yJ11_lowSurrogate_5068e cJ11_lowSurrogate_5068e 1 (some .char), Cond.constant RJ11 76 (56320)]
def wsX3_kindRead : List Cond := .code yX3_kindRead cX3_kindRead 2 (some .int) :: ((wsX3_kindRead_r1 ++ (wsX3_kindRead_r2 ++ (wsX3_kindRead_r3 ++ wsX3_kindRead_r4))) ++ wsX30 ++ wsX50)
def wsX5_put : List Cond := .code yX5_put cX5_put 3 none :: ([.fieldLink RX5 13 "SongsAgain$Row" "cells" "[I"] ++ wsX50)
def wsX3_singerRead : List Cond := .code yX3_singerRead cX3_singerRead 2 (some .int) :: ([.fieldLink RX3 14 "SongsAgain$Page" "codes" "LSongsAgain$Row;", .methodLink RX3 32 yX5_at, .instanceMethod yX5_at, .selects RX5 yX5_at yX5_at, .initialized RX5, .code yX5_at cX5_at 2 (some .int), .fieldLink RX5 13 "SongsAgain$Row" "cells" "[I"] ++ wsX30 ++ wsX50)
def wsX0_weightOf : List Cond := .code yX0_weightOf cX0_weightOf 1 (some .int) :: ([])
def wsX0_read_r1 : List Cond := [Cond.fieldLink RX0 29 "SongsAgain$Book" "number" "I", Cond.fieldLink RX0 14 "SongsAgain$Book" "kinds" "LSongsAgain$Row;", Cond.fieldLink RX0 20 "SongsAgain$Book" "singers" "LSongsAgain$Row;", Cond.fieldLink RX0 23 "SongsAgain$Book" "weights" "LSongsAgain$Row;", Cond.fieldLink RX0 26 "SongsAgain$Book" "minutes" "LSongsAgain$Row;", Cond.methodLink RX0 33 yX3_songsRead, Cond.instanceMethod yX3_songsRead, Cond.selects RX3 yX3_songsRead yX3_songsRead, Cond.initialized RX3, Cond.code yX3_songsRead cX3_songsRead 1 (some .int), Cond.fieldLink RX3 20 "SongsAgain$Page" "length" "I", Cond.methodLink RX3 53 Lib.Math.min.name, Cond.static Lib.Math.min.name, Cond.initialized "java/lang/Math", Cond.code Lib.Math.min.name Lib.Math.min.code 2 (some .int), Cond.methodLink RX0 39 yX3_kindRead, Cond.instanceMethod yX3_kindRead, Cond.selects RX3 yX3_kindRead yX3_kindRead, Cond.code yX3_kindRead cX3_kindRead 2 (some .int), Cond.fieldLink RX3 14 "SongsAgain$Page" "codes" "LSongsAgain$Row;", Cond.methodLink RX3 32 yX5_at, Cond.instanceMethod yX5_at, Cond.selects RX5 yX5_at yX5_at, Cond.initialized RX5]
def wsX0_read_r2 : List Cond := [Cond.code yX5_at cX5_at 2 (some .int), Cond.fieldLink RX5 13 "SongsAgain$Row" "cells" "[I", Cond.methodLink RX3 41 yJ0_indexOf_0f7a4, Cond.instanceMethod yJ0_indexOf_0f7a4, Cond.selects RJ0 yJ0_indexOf_0f7a4 yJ0_indexOf_0f7a4, Cond.initialized RJ0, Cond.code yJ0_indexOf_0f7a4 cJ0_indexOf_0f7a4 2 (some .int), Cond.methodLink RJ0 633 yJ0_indexOf_7cf53, Cond.instanceMethod yJ0_indexOf_7cf53, Cond.selects RJ0 yJ0_indexOf_7cf53 yJ0_indexOf_7cf53, Cond.code yJ0_indexOf_7cf53 cJ0_indexOf_7cf53 3 (some .int), Cond.fieldLink RJ0 9 "java/lang/String" "value" "[B", Cond.methodLink RJ0 492 yJ0_isLatin1_aae02, Cond.instanceMethod yJ0_isLatin1_aae02, Cond.selects RJ0 yJ0_isLatin1_aae02 yJ0_isLatin1_aae02, Cond.code yJ0_isLatin1_aae02 cJ0_isLatin1_aae02 1 (some .boolean), Cond.fieldLink RJ0 38 "java/lang/String" "COMPACT_STRINGS" "Z", Cond.fieldLink RJ0 15 "java/lang/String" "coder" "B", Cond.methodLink RJ0 505 yJ0_length_8abf5, Cond.instanceMethod yJ0_length_8abf5, Cond.selects RJ0 yJ0_length_8abf5 yJ0_length_8abf5, Cond.code yJ0_length_8abf5 cJ0_length_8abf5 1 (some .int), Cond.methodLink RJ0 335 yJ0_coder_7d493, Cond.instanceMethod yJ0_coder_7d493]
def wsX0_read_r3 : List Cond := [Cond.selects RJ0 yJ0_coder_7d493 yJ0_coder_7d493, Cond.code yJ0_coder_7d493 cJ0_coder_7d493 1 (some .byte), Cond.methodLink RJ0 637 yJ1_indexOf_4cfef, Cond.static yJ1_indexOf_4cfef, Cond.initialized RJ1, Cond.code yJ1_indexOf_4cfef cJ1_indexOf_4cfef 4 (some .int), Cond.methodLink RJ1 92 Lib.Math.max.name, Cond.static Lib.Math.max.name, Cond.code Lib.Math.max.name Lib.Math.max.code 2 (some .int), Cond.methodLink RJ1 38 Lib.Math.min.name, Cond.methodLink RJ1 88 yJ1_canEncode_9a6ad, Cond.static yJ1_canEncode_9a6ad, Cond.code yJ1_canEncode_9a6ad cJ1_canEncode_9a6ad 1 (some .boolean), Cond.methodLink RJ1 95 yJ1_indexOfChar_4cfef, Cond.static yJ1_indexOfChar_4cfef, Cond.code yJ1_indexOfChar_4cfef cJ1_indexOfChar_4cfef 6 (some .int), Cond.methodLink RJ0 640 yJ2_indexOf_4cfef, Cond.static yJ2_indexOf_4cfef, Cond.initialized RJ2, Cond.code yJ2_indexOf_4cfef cJ2_indexOf_4cfef 4 (some .int), Cond.methodLink RJ2 224 Lib.Math.max.name, Cond.methodLink RJ2 183 Lib.Math.min.name, Cond.constant RJ2 227 (65536), Cond.methodLink RJ2 228 yJ2_indexOfChar_4cfef]
def wsX0_read_r4 : List Cond := [Cond.static yJ2_indexOfChar_4cfef, Cond.code yJ2_indexOfChar_4cfef cJ2_indexOfChar_4cfef 4 (some .int), Cond.methodLink RJ2 96 yJ2_checkBoundsBeginEnd_d044e, Cond.static yJ2_checkBoundsBeginEnd_d044e, Cond.code yJ2_checkBoundsBeginEnd_d044e cJ2_checkBoundsBeginEnd_d044e 3 none, Cond.methodLink RJ2 48 yJ2_length_9d52b, Cond.static yJ2_length_9d52b, Cond.code yJ2_length_9d52b cJ2_length_9d52b 1 (some .int), Cond.methodLink RJ2 241 yJ0_checkBoundsBeginEnd_23922, Cond.static yJ0_checkBoundsBeginEnd_23922, Cond.code yJ0_checkBoundsBeginEnd_23922 cJ0_checkBoundsBeginEnd_23922 3 none, Cond.fieldLink RJ0 1053 "jdk/internal/util/Preconditions" "SIOOBE_FORMATTER" "Ljava/util/function/BiFunction;", Cond.methodLink RJ0 1062 yJ3_checkFromToIndex_8c36e, Cond.static yJ3_checkFromToIndex_8c36e, Cond.initialized RJ3, Cond.code yJ3_checkFromToIndex_8c36e cJ3_checkFromToIndex_8c36e 4 (some .int), Cond.methodLink RJ2 244 yJ2_indexOfCharUnsafe_4cfef, Cond.static yJ2_indexOfCharUnsafe_4cfef, Cond.code yJ2_indexOfCharUnsafe_4cfef cJ2_indexOfCharUnsafe_4cfef 5 (some .int), Cond.methodLink RJ2 71 yJ2_getChar_3b067, Cond.static yJ2_getChar_3b067, Cond.code yJ2_getChar_3b067 cJ2_getChar_3b067 2 (some .char), Cond.fieldLink RJ2 44 "java/lang/StringUTF16" "$assertionsDisabled" "Z", Cond.fieldLink RJ2 59 "java/lang/StringUTF16" "HI_BYTE_SHIFT" "I"]
def wsX0_read_r5 : List Cond := [Cond.fieldLink RJ2 63 "java/lang/StringUTF16" "LO_BYTE_SHIFT" "I", Cond.methodLink RJ2 232 yJ2_indexOfSupplementary_4cfef, Cond.static yJ2_indexOfSupplementary_4cfef, Cond.code yJ2_indexOfSupplementary_4cfef cJ2_indexOfSupplementary_4cfef 7 (some .int), Cond.methodLink RJ2 164 yJ11_isValidCodePoint_9a6ad, Cond.static yJ11_isValidCodePoint_9a6ad, Cond.initialized RJ11, Cond.code yJ11_isValidCodePoint_9a6ad cJ11_isValidCodePoint_9a6ad 2 (some .boolean), Cond.methodLink RJ2 157 yJ11_highSurrogate_5068e, Cond.static yJ11_highSurrogate_5068e, Cond.code yJ11_highSurrogate_5068e cJ11_highSurrogate_5068e 1 (some .char), Cond.constant RJ11 110 (55232), Cond.methodLink RJ2 161 yJ11_lowSurrogate_5068e, Cond.static yJ11_lowSurrogate_5068e, Cond.code yJ11_lowSurrogate_5068e cJ11_lowSurrogate_5068e 1 (some .char), Cond.constant RJ11 76 (56320), Cond.methodLink RX0 43 yX5_put, Cond.instanceMethod yX5_put, Cond.selects RX5 yX5_put yX5_put, Cond.code yX5_put cX5_put 3 none, Cond.methodLink RX0 47 yX3_singerRead, Cond.instanceMethod yX3_singerRead, Cond.selects RX3 yX3_singerRead yX3_singerRead, Cond.code yX3_singerRead cX3_singerRead 2 (some .int)]
def wsX0_read_r6 : List Cond := [Cond.methodLink RX0 50 yX0_weightOf, Cond.static yX0_weightOf, Cond.initialized RX0, Cond.code yX0_weightOf cX0_weightOf 1 (some .int)]
def wsX0_read : List Cond := .code yX0_read cX0_read 4 none :: ((wsX0_read_r1 ++ (wsX0_read_r2 ++ (wsX0_read_r3 ++ (wsX0_read_r4 ++ (wsX0_read_r5 ++ wsX0_read_r6))))) ++ wsX00 ++ wsX30 ++ wsX50)
def wsX0_has : List Cond := .code yX0_has cX0_has 2 (some .boolean) :: ([.fieldLink RX0 29 "SongsAgain$Book" "number" "I"] ++ wsX00)
def wsX0_all : List Cond := .code yX0_all cX0_all 1 (some .int) :: ([.fieldLink RX0 29 "SongsAgain$Book" "number" "I"] ++ wsX00)
def wsX0_isOfKind : List Cond := .code yX0_isOfKind cX0_isOfKind 4 (some .boolean) :: ([.fieldLink RX0 14 "SongsAgain$Book" "kinds" "LSongsAgain$Row;", .methodLink RX0 53 yX5_at, .instanceMethod yX5_at, .selects RX5 yX5_at yX5_at, .initialized RX5, .code yX5_at cX5_at 2 (some .int), .fieldLink RX5 13 "SongsAgain$Row" "cells" "[I"] ++ wsX00 ++ wsX50)
def wsX6_holds : List Cond := .code yX6_holds cX6_holds 2 (some .boolean) :: ([])
def wsX0_weightTogether : List Cond := .code yX0_weightTogether cX0_weightTogether 4 (some .int) :: ([.fieldLink RX0 29 "SongsAgain$Book" "number" "I", .fieldLink RX0 23 "SongsAgain$Book" "weights" "LSongsAgain$Row;", .static yX6_holds, .initialized RX6, .code yX6_holds cX6_holds 2 (some .boolean), .methodLink RX0 53 yX5_at, .instanceMethod yX5_at, .selects RX5 yX5_at yX5_at, .initialized RX5, .code yX5_at cX5_at 2 (some .int), .fieldLink RX5 13 "SongsAgain$Row" "cells" "[I"] ++ wsX00 ++ wsX50)
def wsX0_mayFollow : List Cond := .code yX0_mayFollow cX0_mayFollow 4 (some .int) :: ([.fieldLink RX0 29 "SongsAgain$Book" "number" "I", .fieldLink RX0 20 "SongsAgain$Book" "singers" "LSongsAgain$Row;", .fieldLink RX0 14 "SongsAgain$Book" "kinds" "LSongsAgain$Row;", .methodLink RX0 53 yX5_at, .instanceMethod yX5_at, .selects RX5 yX5_at yX5_at, .initialized RX5, .code yX5_at cX5_at 2 (some .int), .fieldLink RX5 13 "SongsAgain$Row" "cells" "[I"] ++ wsX00 ++ wsX50)
def wsX0_mayCome : List Cond := .code yX0_mayCome cX0_mayCome 8 (some .int) :: ([.methodLink RX0 60 yX0_all, .instanceMethod yX0_all, .selects RX0 yX0_all yX0_all, .initialized RX0, .code yX0_all cX0_all 1 (some .int), .fieldLink RX0 29 "SongsAgain$Book" "number" "I", .methodLink RX0 63 yX0_mayFollow, .instanceMethod yX0_mayFollow, .selects RX0 yX0_mayFollow yX0_mayFollow, .code yX0_mayFollow cX0_mayFollow 4 (some .int), .fieldLink RX0 20 "SongsAgain$Book" "singers" "LSongsAgain$Row;", .fieldLink RX0 14 "SongsAgain$Book" "kinds" "LSongsAgain$Row;", .methodLink RX0 53 yX5_at, .instanceMethod yX5_at, .selects RX5 yX5_at yX5_at, .initialized RX5, .code yX5_at cX5_at 2 (some .int), .fieldLink RX5 13 "SongsAgain$Row" "cells" "[I"] ++ wsX00 ++ wsX50)
def wsX0_bagAfter : List Cond := .code yX0_bagAfter cX0_bagAfter 4 (some .int) :: ([.methodLink RX0 60 yX0_all, .instanceMethod yX0_all, .selects RX0 yX0_all yX0_all, .initialized RX0, .code yX0_all cX0_all 1 (some .int), .fieldLink RX0 29 "SongsAgain$Book" "number" "I"] ++ wsX00)
def wsX1_init : List Cond := .code yX1_init cX1_init 1 none :: ([.methodLink RX1 1 objectInit, .instanceMethod objectInit, .code objectInit ⟨#[0xb1]⟩ 1 none, .fieldLink RX1 7 "SongsAgain$Fraction" "above" "J", .fieldLink RX1 13 "SongsAgain$Fraction" "below" "J"] ++ wsX10)
def wsX1_commonDivisor : List Cond := .code yX1_commonDivisor cX1_commonDivisor 11 (some .long) :: ([])
def wsX1_become : List Cond := .code yX1_become cX1_become 7 none :: ([.fieldLink RX1 7 "SongsAgain$Fraction" "above" "J", .fieldLink RX1 13 "SongsAgain$Fraction" "below" "J", .methodLink RX1 16 yX1_commonDivisor, .static yX1_commonDivisor, .initialized RX1, .code yX1_commonDivisor cX1_commonDivisor 11 (some .long)] ++ wsX10)
def wsX1_multiply : List Cond := .code yX1_multiply cX1_multiply 5 none :: ([.fieldLink RX1 7 "SongsAgain$Fraction" "above" "J", .fieldLink RX1 13 "SongsAgain$Fraction" "below" "J", .methodLink RX1 20 yX1_become, .instanceMethod yX1_become, .selects RX1 yX1_become yX1_become, .initialized RX1, .code yX1_become cX1_become 7 none, .methodLink RX1 16 yX1_commonDivisor, .static yX1_commonDivisor, .code yX1_commonDivisor cX1_commonDivisor 11 (some .long)] ++ wsX10)
def wsX1_add : List Cond := .code yX1_add cX1_add 9 none :: ([.fieldLink RX1 13 "SongsAgain$Fraction" "below" "J", .fieldLink RX1 7 "SongsAgain$Fraction" "above" "J", .methodLink RX1 16 yX1_commonDivisor, .static yX1_commonDivisor, .initialized RX1, .code yX1_commonDivisor cX1_commonDivisor 11 (some .long), .methodLink RX1 20 yX1_become, .instanceMethod yX1_become, .selects RX1 yX1_become yX1_become, .code yX1_become cX1_become 7 none] ++ wsX10)
def wsX1_isMoreThan : List Cond := .code yX1_isMoreThan cX1_isMoreThan 2 (some .boolean) :: ([.fieldLink RX1 7 "SongsAgain$Fraction" "above" "J", .fieldLink RX1 13 "SongsAgain$Fraction" "below" "J"] ++ wsX10)
def wsX2_init : List Cond := .code yX2_init cX2_init 1 none :: ([.methodLink RX2 3 objectInit, .instanceMethod objectInit, .code objectInit ⟨#[0xb1]⟩ 1 none, .classLink RX2 9 RX5, .instantiable RX5 1, .initialized RX5, .fieldLink RX2 14 "SongsAgain$Orders" "way" "LSongsAgain$Row;", .fieldLink RX2 20 "SongsAgain$Orders" "first" "LSongsAgain$Row;", .fieldLink RX2 23 "SongsAgain$Orders" "firstLength" "I", .fieldLink RX2 27 "SongsAgain$Orders" "number" "I", .methodLink RX2 11 yX5_init, .instanceMethod yX5_init, .code yX5_init cX5_init 2 none, .methodLink RX5 1 objectInit, .methodLink RX5 7 Lib.Math.max.name, .static Lib.Math.max.name, .initialized "java/lang/Math", .code Lib.Math.max.name Lib.Math.max.code 2 (some .int), .arrayClass .int, .fieldLink RX5 13 "SongsAgain$Row" "cells" "[I"] ++ wsX50 ++ wsX20)
def wsX5_become : List Cond := .code yX5_become cX5_become 3 none :: ([.fieldLink RX5 13 "SongsAgain$Row" "cells" "[I", .methodLink RX5 19 yX5_at, .instanceMethod yX5_at, .selects RX5 yX5_at yX5_at, .initialized RX5, .code yX5_at cX5_at 2 (some .int)] ++ wsX50)
def wsX2_take : List Cond := .code yX2_take cX2_take 2 none :: ([.fieldLink RX2 27 "SongsAgain$Orders" "number" "I", .fieldLink RX2 20 "SongsAgain$Orders" "first" "LSongsAgain$Row;", .fieldLink RX2 14 "SongsAgain$Orders" "way" "LSongsAgain$Row;", .fieldLink RX2 23 "SongsAgain$Orders" "firstLength" "I", .methodLink RX2 59 yX5_become, .instanceMethod yX5_become, .selects RX5 yX5_become yX5_become, .initialized RX5, .code yX5_become cX5_become 3 none, .fieldLink RX5 13 "SongsAgain$Row" "cells" "[I", .methodLink RX5 19 yX5_at, .instanceMethod yX5_at, .selects RX5 yX5_at yX5_at, .code yX5_at cX5_at 2 (some .int)] ++ wsX20 ++ wsX50)
def wsX2_unlikeSingers : List Cond := .code yX2_unlikeSingers cX2_unlikeSingers 3 (some .boolean) :: ([.methodLink RX2 44 yX5_at, .instanceMethod yX5_at, .selects RX5 yX5_at yX5_at, .initialized RX5, .code yX5_at cX5_at 2 (some .int), .fieldLink RX5 13 "SongsAgain$Row" "cells" "[I"] ++ wsX00 ++ wsX50)
def wsX2_goOn_r1 : List Cond := [Cond.fieldLink RX2 14 "SongsAgain$Orders" "way" "LSongsAgain$Row;", Cond.methodLink RX2 34 yX2_take, Cond.instanceMethod yX2_take, Cond.selects RX2 yX2_take yX2_take, Cond.initialized RX2, Cond.code yX2_take cX2_take 2 none, Cond.fieldLink RX2 27 "SongsAgain$Orders" "number" "I", Cond.fieldLink RX2 20 "SongsAgain$Orders" "first" "LSongsAgain$Row;", Cond.fieldLink RX2 23 "SongsAgain$Orders" "firstLength" "I", Cond.methodLink RX2 59 yX5_become, Cond.instanceMethod yX5_become, Cond.selects RX5 yX5_become yX5_become, Cond.initialized RX5, Cond.code yX5_become cX5_become 3 none, Cond.fieldLink RX5 13 "SongsAgain$Row" "cells" "[I", Cond.methodLink RX5 19 yX5_at, Cond.instanceMethod yX5_at, Cond.selects RX5 yX5_at yX5_at, Cond.code yX5_at cX5_at 2 (some .int), Cond.static yX6_holds, Cond.initialized RX6, Cond.code yX6_holds cX6_holds 2 (some .boolean), Cond.methodLink RX2 44 yX5_at, Cond.methodLink RX2 48 yX2_unlikeSingers]
def wsX2_goOn_r2 : List Cond := [Cond.static yX2_unlikeSingers, Cond.code yX2_unlikeSingers cX2_unlikeSingers 3 (some .boolean), Cond.methodLink RX2 52 yX5_put, Cond.instanceMethod yX5_put, Cond.selects RX5 yX5_put yX5_put, Cond.code yX5_put cX5_put 3 none, Cond.methodLink RX2 30 yX2_goOn, Cond.static yX2_goOn]
def wsX2_goOn : List Cond := .code yX2_goOn cX2_goOn 5 none :: ((wsX2_goOn_r1 ++ wsX2_goOn_r2) ++ wsX00 ++ wsX20 ++ wsX50)
def wsX2_findAll_r1 : List Cond := [Cond.fieldLink RX2 27 "SongsAgain$Orders" "number" "I", Cond.fieldLink RX2 23 "SongsAgain$Orders" "firstLength" "I", Cond.methodLink RX2 30 yX2_goOn, Cond.static yX2_goOn, Cond.initialized RX2, Cond.code yX2_goOn cX2_goOn 5 none, Cond.fieldLink RX2 14 "SongsAgain$Orders" "way" "LSongsAgain$Row;", Cond.methodLink RX2 34 yX2_take, Cond.instanceMethod yX2_take, Cond.selects RX2 yX2_take yX2_take, Cond.code yX2_take cX2_take 2 none, Cond.fieldLink RX2 20 "SongsAgain$Orders" "first" "LSongsAgain$Row;", Cond.methodLink RX2 59 yX5_become, Cond.instanceMethod yX5_become, Cond.selects RX5 yX5_become yX5_become, Cond.initialized RX5, Cond.code yX5_become cX5_become 3 none, Cond.fieldLink RX5 13 "SongsAgain$Row" "cells" "[I", Cond.methodLink RX5 19 yX5_at, Cond.instanceMethod yX5_at, Cond.selects RX5 yX5_at yX5_at, Cond.code yX5_at cX5_at 2 (some .int), Cond.static yX6_holds, Cond.initialized RX6]
def wsX2_findAll_r2 : List Cond := [Cond.code yX6_holds cX6_holds 2 (some .boolean), Cond.methodLink RX2 44 yX5_at, Cond.methodLink RX2 48 yX2_unlikeSingers, Cond.static yX2_unlikeSingers, Cond.code yX2_unlikeSingers cX2_unlikeSingers 3 (some .boolean), Cond.methodLink RX2 52 yX5_put, Cond.instanceMethod yX5_put, Cond.selects RX5 yX5_put yX5_put, Cond.code yX5_put cX5_put 3 none]
def wsX2_findAll : List Cond := .code yX2_findAll cX2_findAll 3 none :: ((wsX2_findAll_r1 ++ wsX2_findAll_r2) ++ wsX20 ++ wsX00 ++ wsX50)
def wsX2_fact : List Cond := .code yX2_fact cX2_fact 3 (some .int) :: ([.fieldLink RX2 27 "SongsAgain$Orders" "number" "I", .fieldLink RX2 23 "SongsAgain$Orders" "firstLength" "I", .fieldLink RX2 20 "SongsAgain$Orders" "first" "LSongsAgain$Row;", .methodLink RX2 44 yX5_at, .instanceMethod yX5_at, .selects RX5 yX5_at yX5_at, .initialized RX5, .code yX5_at cX5_at 2 (some .int), .fieldLink RX5 13 "SongsAgain$Row" "cells" "[I"] ++ wsX20 ++ wsX50)
def wsX3_init : List Cond := .code yX3_init cX3_init 1 none :: ([.methodLink RX3 3 objectInit, .instanceMethod objectInit, .code objectInit ⟨#[0xb1]⟩ 1 none, .classLink RX3 9 RX5, .instantiable RX5 1, .initialized RX5, .fieldLink RX3 14 "SongsAgain$Page" "codes" "LSongsAgain$Row;", .fieldLink RX3 20 "SongsAgain$Page" "length" "I", .methodLink RX3 11 yX5_init, .instanceMethod yX5_init, .code yX5_init cX5_init 2 none, .methodLink RX5 1 objectInit, .methodLink RX5 7 Lib.Math.max.name, .static Lib.Math.max.name, .initialized "java/lang/Math", .code Lib.Math.max.name Lib.Math.max.code 2 (some .int), .arrayClass .int, .fieldLink RX5 13 "SongsAgain$Row" "cells" "[I"] ++ wsX50 ++ wsX30)
def wsX3_append : List Cond := .code yX3_append cX3_append 2 none :: ([.fieldLink RX3 14 "SongsAgain$Page" "codes" "LSongsAgain$Row;", .fieldLink RX3 20 "SongsAgain$Page" "length" "I", .methodLink RX3 24 yX5_put, .instanceMethod yX5_put, .selects RX5 yX5_put yX5_put, .initialized RX5, .code yX5_put cX5_put 3 none, .fieldLink RX5 13 "SongsAgain$Row" "cells" "[I"] ++ wsX30 ++ wsX50)
def wsX3_clear : List Cond := .code yX3_clear cX3_clear 1 none :: ([.fieldLink RX3 20 "SongsAgain$Page" "length" "I"] ++ wsX30)
def wsX3_isDigitBelow : List Cond := .code yX3_isDigitBelow cX3_isDigitBelow 2 (some .boolean) :: ([])
def wsX3_endsSong : List Cond := .code yX3_endsSong cX3_endsSong 2 (some .boolean) :: ([])
def wsX3_fits_r1 : List Cond := [Cond.fieldLink RX3 14 "SongsAgain$Page" "codes" "LSongsAgain$Row;", Cond.methodLink RX3 32 yX5_at, Cond.instanceMethod yX5_at, Cond.selects RX5 yX5_at yX5_at, Cond.initialized RX5, Cond.code yX5_at cX5_at 2 (some .int), Cond.fieldLink RX5 13 "SongsAgain$Row" "cells" "[I", Cond.methodLink RX3 36 yX3_isDigitBelow, Cond.static yX3_isDigitBelow, Cond.initialized RX3, Cond.code yX3_isDigitBelow cX3_isDigitBelow 2 (some .boolean), Cond.methodLink RX3 41 yJ0_indexOf_0f7a4, Cond.instanceMethod yJ0_indexOf_0f7a4, Cond.selects RJ0 yJ0_indexOf_0f7a4 yJ0_indexOf_0f7a4, Cond.initialized RJ0, Cond.code yJ0_indexOf_0f7a4 cJ0_indexOf_0f7a4 2 (some .int), Cond.methodLink RJ0 633 yJ0_indexOf_7cf53, Cond.instanceMethod yJ0_indexOf_7cf53, Cond.selects RJ0 yJ0_indexOf_7cf53 yJ0_indexOf_7cf53, Cond.code yJ0_indexOf_7cf53 cJ0_indexOf_7cf53 3 (some .int), Cond.fieldLink RJ0 9 "java/lang/String" "value" "[B", Cond.methodLink RJ0 492 yJ0_isLatin1_aae02, Cond.instanceMethod yJ0_isLatin1_aae02, Cond.selects RJ0 yJ0_isLatin1_aae02 yJ0_isLatin1_aae02]
def wsX3_fits_r2 : List Cond := [Cond.code yJ0_isLatin1_aae02 cJ0_isLatin1_aae02 1 (some .boolean), Cond.fieldLink RJ0 38 "java/lang/String" "COMPACT_STRINGS" "Z", Cond.fieldLink RJ0 15 "java/lang/String" "coder" "B", Cond.methodLink RJ0 505 yJ0_length_8abf5, Cond.instanceMethod yJ0_length_8abf5, Cond.selects RJ0 yJ0_length_8abf5 yJ0_length_8abf5, Cond.code yJ0_length_8abf5 cJ0_length_8abf5 1 (some .int), Cond.methodLink RJ0 335 yJ0_coder_7d493, Cond.instanceMethod yJ0_coder_7d493, Cond.selects RJ0 yJ0_coder_7d493 yJ0_coder_7d493, Cond.code yJ0_coder_7d493 cJ0_coder_7d493 1 (some .byte), Cond.methodLink RJ0 637 yJ1_indexOf_4cfef, Cond.static yJ1_indexOf_4cfef, Cond.initialized RJ1, Cond.code yJ1_indexOf_4cfef cJ1_indexOf_4cfef 4 (some .int), Cond.methodLink RJ1 92 Lib.Math.max.name, Cond.static Lib.Math.max.name, Cond.initialized "java/lang/Math", Cond.code Lib.Math.max.name Lib.Math.max.code 2 (some .int), Cond.methodLink RJ1 38 Lib.Math.min.name, Cond.static Lib.Math.min.name, Cond.code Lib.Math.min.name Lib.Math.min.code 2 (some .int), Cond.methodLink RJ1 88 yJ1_canEncode_9a6ad, Cond.static yJ1_canEncode_9a6ad]
def wsX3_fits_r3 : List Cond := [Cond.code yJ1_canEncode_9a6ad cJ1_canEncode_9a6ad 1 (some .boolean), Cond.methodLink RJ1 95 yJ1_indexOfChar_4cfef, Cond.static yJ1_indexOfChar_4cfef, Cond.code yJ1_indexOfChar_4cfef cJ1_indexOfChar_4cfef 6 (some .int), Cond.methodLink RJ0 640 yJ2_indexOf_4cfef, Cond.static yJ2_indexOf_4cfef, Cond.initialized RJ2, Cond.code yJ2_indexOf_4cfef cJ2_indexOf_4cfef 4 (some .int), Cond.methodLink RJ2 224 Lib.Math.max.name, Cond.methodLink RJ2 183 Lib.Math.min.name, Cond.constant RJ2 227 (65536), Cond.methodLink RJ2 228 yJ2_indexOfChar_4cfef, Cond.static yJ2_indexOfChar_4cfef, Cond.code yJ2_indexOfChar_4cfef cJ2_indexOfChar_4cfef 4 (some .int), Cond.methodLink RJ2 96 yJ2_checkBoundsBeginEnd_d044e, Cond.static yJ2_checkBoundsBeginEnd_d044e, Cond.code yJ2_checkBoundsBeginEnd_d044e cJ2_checkBoundsBeginEnd_d044e 3 none, Cond.methodLink RJ2 48 yJ2_length_9d52b, Cond.static yJ2_length_9d52b, Cond.code yJ2_length_9d52b cJ2_length_9d52b 1 (some .int), Cond.methodLink RJ2 241 yJ0_checkBoundsBeginEnd_23922, Cond.static yJ0_checkBoundsBeginEnd_23922, Cond.code yJ0_checkBoundsBeginEnd_23922 cJ0_checkBoundsBeginEnd_23922 3 none, Cond.fieldLink RJ0 1053 "jdk/internal/util/Preconditions" "SIOOBE_FORMATTER" "Ljava/util/function/BiFunction;"]
def wsX3_fits_r4 : List Cond := [Cond.methodLink RJ0 1062 yJ3_checkFromToIndex_8c36e, Cond.static yJ3_checkFromToIndex_8c36e, Cond.initialized RJ3, Cond.code yJ3_checkFromToIndex_8c36e cJ3_checkFromToIndex_8c36e 4 (some .int), Cond.methodLink RJ2 244 yJ2_indexOfCharUnsafe_4cfef, Cond.static yJ2_indexOfCharUnsafe_4cfef, Cond.code yJ2_indexOfCharUnsafe_4cfef cJ2_indexOfCharUnsafe_4cfef 5 (some .int), Cond.methodLink RJ2 71 yJ2_getChar_3b067, Cond.static yJ2_getChar_3b067, Cond.code yJ2_getChar_3b067 cJ2_getChar_3b067 2 (some .char), Cond.fieldLink RJ2 44 "java/lang/StringUTF16" "$assertionsDisabled" "Z", Cond.fieldLink RJ2 59 "java/lang/StringUTF16" "HI_BYTE_SHIFT" "I", Cond.fieldLink RJ2 63 "java/lang/StringUTF16" "LO_BYTE_SHIFT" "I", Cond.methodLink RJ2 232 yJ2_indexOfSupplementary_4cfef, Cond.static yJ2_indexOfSupplementary_4cfef, Cond.code yJ2_indexOfSupplementary_4cfef cJ2_indexOfSupplementary_4cfef 7 (some .int), Cond.methodLink RJ2 164 yJ11_isValidCodePoint_9a6ad, Cond.static yJ11_isValidCodePoint_9a6ad, Cond.initialized RJ11, Cond.code yJ11_isValidCodePoint_9a6ad cJ11_isValidCodePoint_9a6ad 2 (some .boolean), Cond.methodLink RJ2 157 yJ11_highSurrogate_5068e, Cond.static yJ11_highSurrogate_5068e, Cond.code yJ11_highSurrogate_5068e cJ11_highSurrogate_5068e 1 (some .char), Cond.constant RJ11 110 (55232)]
def wsX3_fits_r5 : List Cond := [Cond.methodLink RJ2 161 yJ11_lowSurrogate_5068e, Cond.static yJ11_lowSurrogate_5068e, Cond.code yJ11_lowSurrogate_5068e cJ11_lowSurrogate_5068e 1 (some .char), Cond.constant RJ11 76 (56320), Cond.methodLink RX3 46 yX3_endsSong, Cond.static yX3_endsSong, Cond.code yX3_endsSong cX3_endsSong 2 (some .boolean)]
def wsX3_fits : List Cond := .code yX3_fits cX3_fits 4 (some .boolean) :: ((wsX3_fits_r1 ++ (wsX3_fits_r2 ++ (wsX3_fits_r3 ++ (wsX3_fits_r4 ++ wsX3_fits_r5)))) ++ wsX30 ++ wsX50)
def wsX3_firstFault_r1 : List Cond := [Cond.fieldLink RX3 20 "SongsAgain$Page" "length" "I", Cond.fieldLink RX3 14 "SongsAgain$Page" "codes" "LSongsAgain$Row;", Cond.methodLink RX3 28 yX3_fits, Cond.instanceMethod yX3_fits, Cond.selects RX3 yX3_fits yX3_fits, Cond.initialized RX3, Cond.code yX3_fits cX3_fits 4 (some .boolean), Cond.methodLink RX3 32 yX5_at, Cond.instanceMethod yX5_at, Cond.selects RX5 yX5_at yX5_at, Cond.initialized RX5, Cond.code yX5_at cX5_at 2 (some .int), Cond.fieldLink RX5 13 "SongsAgain$Row" "cells" "[I", Cond.methodLink RX3 36 yX3_isDigitBelow, Cond.static yX3_isDigitBelow, Cond.code yX3_isDigitBelow cX3_isDigitBelow 2 (some .boolean), Cond.methodLink RX3 41 yJ0_indexOf_0f7a4, Cond.instanceMethod yJ0_indexOf_0f7a4, Cond.selects RJ0 yJ0_indexOf_0f7a4 yJ0_indexOf_0f7a4, Cond.initialized RJ0, Cond.code yJ0_indexOf_0f7a4 cJ0_indexOf_0f7a4 2 (some .int), Cond.methodLink RJ0 633 yJ0_indexOf_7cf53, Cond.instanceMethod yJ0_indexOf_7cf53, Cond.selects RJ0 yJ0_indexOf_7cf53 yJ0_indexOf_7cf53]
def wsX3_firstFault_r2 : List Cond := [Cond.code yJ0_indexOf_7cf53 cJ0_indexOf_7cf53 3 (some .int), Cond.fieldLink RJ0 9 "java/lang/String" "value" "[B", Cond.methodLink RJ0 492 yJ0_isLatin1_aae02, Cond.instanceMethod yJ0_isLatin1_aae02, Cond.selects RJ0 yJ0_isLatin1_aae02 yJ0_isLatin1_aae02, Cond.code yJ0_isLatin1_aae02 cJ0_isLatin1_aae02 1 (some .boolean), Cond.fieldLink RJ0 38 "java/lang/String" "COMPACT_STRINGS" "Z", Cond.fieldLink RJ0 15 "java/lang/String" "coder" "B", Cond.methodLink RJ0 505 yJ0_length_8abf5, Cond.instanceMethod yJ0_length_8abf5, Cond.selects RJ0 yJ0_length_8abf5 yJ0_length_8abf5, Cond.code yJ0_length_8abf5 cJ0_length_8abf5 1 (some .int), Cond.methodLink RJ0 335 yJ0_coder_7d493, Cond.instanceMethod yJ0_coder_7d493, Cond.selects RJ0 yJ0_coder_7d493 yJ0_coder_7d493, Cond.code yJ0_coder_7d493 cJ0_coder_7d493 1 (some .byte), Cond.methodLink RJ0 637 yJ1_indexOf_4cfef, Cond.static yJ1_indexOf_4cfef, Cond.initialized RJ1, Cond.code yJ1_indexOf_4cfef cJ1_indexOf_4cfef 4 (some .int), Cond.methodLink RJ1 92 Lib.Math.max.name, Cond.static Lib.Math.max.name, Cond.initialized "java/lang/Math", Cond.code Lib.Math.max.name Lib.Math.max.code 2 (some .int)]
def wsX3_firstFault_r3 : List Cond := [Cond.methodLink RJ1 38 Lib.Math.min.name, Cond.static Lib.Math.min.name, Cond.code Lib.Math.min.name Lib.Math.min.code 2 (some .int), Cond.methodLink RJ1 88 yJ1_canEncode_9a6ad, Cond.static yJ1_canEncode_9a6ad, Cond.code yJ1_canEncode_9a6ad cJ1_canEncode_9a6ad 1 (some .boolean), Cond.methodLink RJ1 95 yJ1_indexOfChar_4cfef, Cond.static yJ1_indexOfChar_4cfef, Cond.code yJ1_indexOfChar_4cfef cJ1_indexOfChar_4cfef 6 (some .int), Cond.methodLink RJ0 640 yJ2_indexOf_4cfef, Cond.static yJ2_indexOf_4cfef, Cond.initialized RJ2, Cond.code yJ2_indexOf_4cfef cJ2_indexOf_4cfef 4 (some .int), Cond.methodLink RJ2 224 Lib.Math.max.name, Cond.methodLink RJ2 183 Lib.Math.min.name, Cond.constant RJ2 227 (65536), Cond.methodLink RJ2 228 yJ2_indexOfChar_4cfef, Cond.static yJ2_indexOfChar_4cfef, Cond.code yJ2_indexOfChar_4cfef cJ2_indexOfChar_4cfef 4 (some .int), Cond.methodLink RJ2 96 yJ2_checkBoundsBeginEnd_d044e, Cond.static yJ2_checkBoundsBeginEnd_d044e, Cond.code yJ2_checkBoundsBeginEnd_d044e cJ2_checkBoundsBeginEnd_d044e 3 none, Cond.methodLink RJ2 48 yJ2_length_9d52b, Cond.static yJ2_length_9d52b]
def wsX3_firstFault_r4 : List Cond := [Cond.code yJ2_length_9d52b cJ2_length_9d52b 1 (some .int), Cond.methodLink RJ2 241 yJ0_checkBoundsBeginEnd_23922, Cond.static yJ0_checkBoundsBeginEnd_23922, Cond.code yJ0_checkBoundsBeginEnd_23922 cJ0_checkBoundsBeginEnd_23922 3 none, Cond.fieldLink RJ0 1053 "jdk/internal/util/Preconditions" "SIOOBE_FORMATTER" "Ljava/util/function/BiFunction;", Cond.methodLink RJ0 1062 yJ3_checkFromToIndex_8c36e, Cond.static yJ3_checkFromToIndex_8c36e, Cond.initialized RJ3, Cond.code yJ3_checkFromToIndex_8c36e cJ3_checkFromToIndex_8c36e 4 (some .int), Cond.methodLink RJ2 244 yJ2_indexOfCharUnsafe_4cfef, Cond.static yJ2_indexOfCharUnsafe_4cfef, Cond.code yJ2_indexOfCharUnsafe_4cfef cJ2_indexOfCharUnsafe_4cfef 5 (some .int), Cond.methodLink RJ2 71 yJ2_getChar_3b067, Cond.static yJ2_getChar_3b067, Cond.code yJ2_getChar_3b067 cJ2_getChar_3b067 2 (some .char), Cond.fieldLink RJ2 44 "java/lang/StringUTF16" "$assertionsDisabled" "Z", Cond.fieldLink RJ2 59 "java/lang/StringUTF16" "HI_BYTE_SHIFT" "I", Cond.fieldLink RJ2 63 "java/lang/StringUTF16" "LO_BYTE_SHIFT" "I", Cond.methodLink RJ2 232 yJ2_indexOfSupplementary_4cfef, Cond.static yJ2_indexOfSupplementary_4cfef, Cond.code yJ2_indexOfSupplementary_4cfef cJ2_indexOfSupplementary_4cfef 7 (some .int), Cond.methodLink RJ2 164 yJ11_isValidCodePoint_9a6ad, Cond.static yJ11_isValidCodePoint_9a6ad, Cond.initialized RJ11]
def wsX3_firstFault_r5 : List Cond := [Cond.code yJ11_isValidCodePoint_9a6ad cJ11_isValidCodePoint_9a6ad 2 (some .boolean), Cond.methodLink RJ2 157 yJ11_highSurrogate_5068e, Cond.static yJ11_highSurrogate_5068e, Cond.code yJ11_highSurrogate_5068e cJ11_highSurrogate_5068e 1 (some .char), Cond.constant RJ11 110 (55232), Cond.methodLink RJ2 161 yJ11_lowSurrogate_5068e, Cond.static yJ11_lowSurrogate_5068e, Cond.code yJ11_lowSurrogate_5068e cJ11_lowSurrogate_5068e 1 (some .char), Cond.constant RJ11 76 (56320), Cond.methodLink RX3 46 yX3_endsSong, Cond.static yX3_endsSong, Cond.code yX3_endsSong cX3_endsSong 2 (some .boolean)]
def wsX3_firstFault : List Cond := .code yX3_firstFault cX3_firstFault 3 (some .int) :: ((wsX3_firstFault_r1 ++ (wsX3_firstFault_r2 ++ (wsX3_firstFault_r3 ++ (wsX3_firstFault_r4 ++ wsX3_firstFault_r5)))) ++ wsX30 ++ wsX50)
def wsX3_isWhole_r1 : List Cond := [Cond.fieldLink RX3 20 "SongsAgain$Page" "length" "I", Cond.fieldLink RX3 14 "SongsAgain$Page" "codes" "LSongsAgain$Row;", Cond.methodLink RX3 49 yX3_firstFault, Cond.instanceMethod yX3_firstFault, Cond.selects RX3 yX3_firstFault yX3_firstFault, Cond.initialized RX3, Cond.code yX3_firstFault cX3_firstFault 3 (some .int), Cond.methodLink RX3 28 yX3_fits, Cond.instanceMethod yX3_fits, Cond.selects RX3 yX3_fits yX3_fits, Cond.code yX3_fits cX3_fits 4 (some .boolean), Cond.methodLink RX3 32 yX5_at, Cond.instanceMethod yX5_at, Cond.selects RX5 yX5_at yX5_at, Cond.initialized RX5, Cond.code yX5_at cX5_at 2 (some .int), Cond.fieldLink RX5 13 "SongsAgain$Row" "cells" "[I", Cond.methodLink RX3 36 yX3_isDigitBelow, Cond.static yX3_isDigitBelow, Cond.code yX3_isDigitBelow cX3_isDigitBelow 2 (some .boolean), Cond.methodLink RX3 41 yJ0_indexOf_0f7a4, Cond.instanceMethod yJ0_indexOf_0f7a4, Cond.selects RJ0 yJ0_indexOf_0f7a4 yJ0_indexOf_0f7a4, Cond.initialized RJ0]
def wsX3_isWhole_r2 : List Cond := [Cond.code yJ0_indexOf_0f7a4 cJ0_indexOf_0f7a4 2 (some .int), Cond.methodLink RJ0 633 yJ0_indexOf_7cf53, Cond.instanceMethod yJ0_indexOf_7cf53, Cond.selects RJ0 yJ0_indexOf_7cf53 yJ0_indexOf_7cf53, Cond.code yJ0_indexOf_7cf53 cJ0_indexOf_7cf53 3 (some .int), Cond.fieldLink RJ0 9 "java/lang/String" "value" "[B", Cond.methodLink RJ0 492 yJ0_isLatin1_aae02, Cond.instanceMethod yJ0_isLatin1_aae02, Cond.selects RJ0 yJ0_isLatin1_aae02 yJ0_isLatin1_aae02, Cond.code yJ0_isLatin1_aae02 cJ0_isLatin1_aae02 1 (some .boolean), Cond.fieldLink RJ0 38 "java/lang/String" "COMPACT_STRINGS" "Z", Cond.fieldLink RJ0 15 "java/lang/String" "coder" "B", Cond.methodLink RJ0 505 yJ0_length_8abf5, Cond.instanceMethod yJ0_length_8abf5, Cond.selects RJ0 yJ0_length_8abf5 yJ0_length_8abf5, Cond.code yJ0_length_8abf5 cJ0_length_8abf5 1 (some .int), Cond.methodLink RJ0 335 yJ0_coder_7d493, Cond.instanceMethod yJ0_coder_7d493, Cond.selects RJ0 yJ0_coder_7d493 yJ0_coder_7d493, Cond.code yJ0_coder_7d493 cJ0_coder_7d493 1 (some .byte), Cond.methodLink RJ0 637 yJ1_indexOf_4cfef, Cond.static yJ1_indexOf_4cfef, Cond.initialized RJ1, Cond.code yJ1_indexOf_4cfef cJ1_indexOf_4cfef 4 (some .int)]
def wsX3_isWhole_r3 : List Cond := [Cond.methodLink RJ1 92 Lib.Math.max.name, Cond.static Lib.Math.max.name, Cond.initialized "java/lang/Math", Cond.code Lib.Math.max.name Lib.Math.max.code 2 (some .int), Cond.methodLink RJ1 38 Lib.Math.min.name, Cond.static Lib.Math.min.name, Cond.code Lib.Math.min.name Lib.Math.min.code 2 (some .int), Cond.methodLink RJ1 88 yJ1_canEncode_9a6ad, Cond.static yJ1_canEncode_9a6ad, Cond.code yJ1_canEncode_9a6ad cJ1_canEncode_9a6ad 1 (some .boolean), Cond.methodLink RJ1 95 yJ1_indexOfChar_4cfef, Cond.static yJ1_indexOfChar_4cfef, Cond.code yJ1_indexOfChar_4cfef cJ1_indexOfChar_4cfef 6 (some .int), Cond.methodLink RJ0 640 yJ2_indexOf_4cfef, Cond.static yJ2_indexOf_4cfef, Cond.initialized RJ2, Cond.code yJ2_indexOf_4cfef cJ2_indexOf_4cfef 4 (some .int), Cond.methodLink RJ2 224 Lib.Math.max.name, Cond.methodLink RJ2 183 Lib.Math.min.name, Cond.constant RJ2 227 (65536), Cond.methodLink RJ2 228 yJ2_indexOfChar_4cfef, Cond.static yJ2_indexOfChar_4cfef, Cond.code yJ2_indexOfChar_4cfef cJ2_indexOfChar_4cfef 4 (some .int), Cond.methodLink RJ2 96 yJ2_checkBoundsBeginEnd_d044e]
def wsX3_isWhole_r4 : List Cond := [Cond.static yJ2_checkBoundsBeginEnd_d044e, Cond.code yJ2_checkBoundsBeginEnd_d044e cJ2_checkBoundsBeginEnd_d044e 3 none, Cond.methodLink RJ2 48 yJ2_length_9d52b, Cond.static yJ2_length_9d52b, Cond.code yJ2_length_9d52b cJ2_length_9d52b 1 (some .int), Cond.methodLink RJ2 241 yJ0_checkBoundsBeginEnd_23922, Cond.static yJ0_checkBoundsBeginEnd_23922, Cond.code yJ0_checkBoundsBeginEnd_23922 cJ0_checkBoundsBeginEnd_23922 3 none, Cond.fieldLink RJ0 1053 "jdk/internal/util/Preconditions" "SIOOBE_FORMATTER" "Ljava/util/function/BiFunction;", Cond.methodLink RJ0 1062 yJ3_checkFromToIndex_8c36e, Cond.static yJ3_checkFromToIndex_8c36e, Cond.initialized RJ3, Cond.code yJ3_checkFromToIndex_8c36e cJ3_checkFromToIndex_8c36e 4 (some .int), Cond.methodLink RJ2 244 yJ2_indexOfCharUnsafe_4cfef, Cond.static yJ2_indexOfCharUnsafe_4cfef, Cond.code yJ2_indexOfCharUnsafe_4cfef cJ2_indexOfCharUnsafe_4cfef 5 (some .int), Cond.methodLink RJ2 71 yJ2_getChar_3b067, Cond.static yJ2_getChar_3b067, Cond.code yJ2_getChar_3b067 cJ2_getChar_3b067 2 (some .char), Cond.fieldLink RJ2 44 "java/lang/StringUTF16" "$assertionsDisabled" "Z", Cond.fieldLink RJ2 59 "java/lang/StringUTF16" "HI_BYTE_SHIFT" "I", Cond.fieldLink RJ2 63 "java/lang/StringUTF16" "LO_BYTE_SHIFT" "I", Cond.methodLink RJ2 232 yJ2_indexOfSupplementary_4cfef, Cond.static yJ2_indexOfSupplementary_4cfef]
def wsX3_isWhole_r5 : List Cond := [Cond.code yJ2_indexOfSupplementary_4cfef cJ2_indexOfSupplementary_4cfef 7 (some .int), Cond.methodLink RJ2 164 yJ11_isValidCodePoint_9a6ad, Cond.static yJ11_isValidCodePoint_9a6ad, Cond.initialized RJ11, Cond.code yJ11_isValidCodePoint_9a6ad cJ11_isValidCodePoint_9a6ad 2 (some .boolean), Cond.methodLink RJ2 157 yJ11_highSurrogate_5068e, Cond.static yJ11_highSurrogate_5068e, Cond.code yJ11_highSurrogate_5068e cJ11_highSurrogate_5068e 1 (some .char), Cond.constant RJ11 110 (55232), Cond.methodLink RJ2 161 yJ11_lowSurrogate_5068e, Cond.static yJ11_lowSurrogate_5068e, Cond.code yJ11_lowSurrogate_5068e cJ11_lowSurrogate_5068e 1 (some .char), Cond.constant RJ11 76 (56320), Cond.methodLink RX3 46 yX3_endsSong, Cond.static yX3_endsSong, Cond.code yX3_endsSong cX3_endsSong 2 (some .boolean)]
def wsX3_isWhole : List Cond := .code yX3_isWhole cX3_isWhole 1 (some .boolean) :: ((wsX3_isWhole_r1 ++ (wsX3_isWhole_r2 ++ (wsX3_isWhole_r3 ++ (wsX3_isWhole_r4 ++ wsX3_isWhole_r5)))) ++ wsX30 ++ wsX50)
def wsX3_ruleRead : List Cond := .code yX3_ruleRead cX3_ruleRead 1 (some .int) :: ([.fieldLink RX3 14 "SongsAgain$Page" "codes" "LSongsAgain$Row;", .fieldLink RX3 20 "SongsAgain$Page" "length" "I", .methodLink RX3 32 yX5_at, .instanceMethod yX5_at, .selects RX5 yX5_at yX5_at, .initialized RX5, .code yX5_at cX5_at 2 (some .int), .fieldLink RX5 13 "SongsAgain$Row" "cells" "[I"] ++ wsX30 ++ wsX50)
def wsX4_init : List Cond := .code yX4_init cX4_init 1 none :: ([.methodLink RX4 3 objectInit, .instanceMethod objectInit, .code objectInit ⟨#[0xb1]⟩ 1 none, .classLink RX4 9 RX5, .instantiable RX5 1, .initialized RX5, .fieldLink RX4 14 "SongsAgain$Past" "played" "LSongsAgain$Row;", .fieldLink RX4 20 "SongsAgain$Past" "skipped" "LSongsAgain$Row;", .fieldLink RX4 23 "SongsAgain$Past" "heard" "LSongsAgain$Row;", .fieldLink RX4 26 "SongsAgain$Past" "heardLength" "I", .fieldLink RX4 30 "SongsAgain$Past" "rule" "I", .fieldLink RX4 33 "SongsAgain$Past" "bag" "I", .fieldLink RX4 36 "SongsAgain$Past" "last" "I", .fieldLink RX4 39 "SongsAgain$Past" "lastIsSkipped" "Z", .methodLink RX4 11 yX5_init, .instanceMethod yX5_init, .code yX5_init cX5_init 2 none, .methodLink RX5 1 objectInit, .methodLink RX5 7 Lib.Math.max.name, .static Lib.Math.max.name, .initialized "java/lang/Math", .code Lib.Math.max.name Lib.Math.max.code 2 (some .int), .arrayClass .int, .fieldLink RX5 13 "SongsAgain$Row" "cells" "[I"] ++ wsX50 ++ wsX40)
def wsX5_clear : List Cond := .code yX5_clear cX5_clear 2 none :: ([.fieldLink RX5 13 "SongsAgain$Row" "cells" "[I"] ++ wsX50)
def wsX4_begin : List Cond := .code yX4_begin cX4_begin 3 none :: ([.fieldLink RX4 14 "SongsAgain$Past" "played" "LSongsAgain$Row;", .fieldLink RX4 20 "SongsAgain$Past" "skipped" "LSongsAgain$Row;", .fieldLink RX4 26 "SongsAgain$Past" "heardLength" "I", .fieldLink RX4 30 "SongsAgain$Past" "rule" "I", .fieldLink RX4 33 "SongsAgain$Past" "bag" "I", .fieldLink RX4 36 "SongsAgain$Past" "last" "I", .fieldLink RX4 39 "SongsAgain$Past" "lastIsSkipped" "Z", .methodLink RX4 43 yX5_clear, .instanceMethod yX5_clear, .selects RX5 yX5_clear yX5_clear, .initialized RX5, .code yX5_clear cX5_clear 2 none, .fieldLink RX5 13 "SongsAgain$Row" "cells" "[I"] ++ wsX40 ++ wsX50)
def wsX4_become : List Cond := .code yX4_become cX4_become 2 none :: ([.fieldLink RX4 14 "SongsAgain$Past" "played" "LSongsAgain$Row;", .fieldLink RX4 20 "SongsAgain$Past" "skipped" "LSongsAgain$Row;", .fieldLink RX4 23 "SongsAgain$Past" "heard" "LSongsAgain$Row;", .fieldLink RX4 26 "SongsAgain$Past" "heardLength" "I", .fieldLink RX4 30 "SongsAgain$Past" "rule" "I", .fieldLink RX4 33 "SongsAgain$Past" "bag" "I", .fieldLink RX4 36 "SongsAgain$Past" "last" "I", .fieldLink RX4 39 "SongsAgain$Past" "lastIsSkipped" "Z", .methodLink RX4 46 yX5_become, .instanceMethod yX5_become, .selects RX5 yX5_become yX5_become, .initialized RX5, .code yX5_become cX5_become 3 none, .fieldLink RX5 13 "SongsAgain$Row" "cells" "[I", .methodLink RX5 19 yX5_at, .instanceMethod yX5_at, .selects RX5 yX5_at yX5_at, .code yX5_at cX5_at 2 (some .int)] ++ wsX40 ++ wsX50)
def wsX5_increase : List Cond := .code yX5_increase cX5_increase 2 none :: ([.methodLink RX5 19 yX5_at, .instanceMethod yX5_at, .selects RX5 yX5_at yX5_at, .initialized RX5, .code yX5_at cX5_at 2 (some .int), .fieldLink RX5 13 "SongsAgain$Row" "cells" "[I", .methodLink RX5 23 yX5_put, .instanceMethod yX5_put, .selects RX5 yX5_put yX5_put, .code yX5_put cX5_put 3 none] ++ wsX50)
def wsX5_sum : List Cond := .code yX5_sum cX5_sum 3 (some .int) :: ([.fieldLink RX5 13 "SongsAgain$Row" "cells" "[I"] ++ wsX50)
def wsX5_aboveNothing : List Cond := .code yX5_aboveNothing cX5_aboveNothing 3 (some .int) :: ([.fieldLink RX5 13 "SongsAgain$Row" "cells" "[I"] ++ wsX50)
def wsX6_init_r1 : List Cond := [Cond.methodLink RX6 1 objectInit, Cond.instanceMethod objectInit, Cond.code objectInit ⟨#[0xb1]⟩ 1 none, Cond.classLink RX6 7 RX3, Cond.instantiable RX3 2, Cond.initialized RX3, Cond.fieldLink RX6 10 "SongsAgain" "page" "LSongsAgain$Page;", Cond.classLink RX6 16 RX0, Cond.instantiable RX0 5, Cond.initialized RX0, Cond.fieldLink RX6 19 "SongsAgain" "book" "LSongsAgain$Book;", Cond.classLink RX6 23 RX4, Cond.instantiable RX4 8, Cond.initialized RX4, Cond.fieldLink RX6 26 "SongsAgain" "now" "LSongsAgain$Past;", Cond.fieldLink RX6 30 "SongsAgain" "kept" "LSongsAgain$Past;", Cond.classLink RX6 33 RX1, Cond.instantiable RX1 2, Cond.initialized RX1, Cond.fieldLink RX6 36 "SongsAgain" "sum" "LSongsAgain$Fraction;", Cond.fieldLink RX6 40 "SongsAgain" "chance" "LSongsAgain$Fraction;", Cond.fieldLink RX6 43 "SongsAgain" "best" "LSongsAgain$Fraction;", Cond.classLink RX6 46 RX2, Cond.instantiable RX2 4]
def wsX6_init_r2 : List Cond := [Cond.initialized RX2, Cond.fieldLink RX6 49 "SongsAgain" "orders" "LSongsAgain$Orders;", Cond.fieldLink RX6 53 "SongsAgain" "isKept" "Z", Cond.fieldLink RX6 57 "SongsAgain" "playersRead" "I", Cond.instanceMethod yX3_init, Cond.code yX3_init cX3_init 1 none, Cond.methodLink RX3 3 objectInit, Cond.classLink RX3 9 RX5, Cond.instantiable RX5 1, Cond.initialized RX5, Cond.fieldLink RX3 14 "SongsAgain$Page" "codes" "LSongsAgain$Row;", Cond.fieldLink RX3 20 "SongsAgain$Page" "length" "I", Cond.methodLink RX3 11 yX5_init, Cond.instanceMethod yX5_init, Cond.code yX5_init cX5_init 2 none, Cond.methodLink RX5 1 objectInit, Cond.methodLink RX5 7 Lib.Math.max.name, Cond.static Lib.Math.max.name, Cond.initialized "java/lang/Math", Cond.code Lib.Math.max.name Lib.Math.max.code 2 (some .int), Cond.arrayClass .int, Cond.fieldLink RX5 13 "SongsAgain$Row" "cells" "[I", Cond.instanceMethod yX0_init, Cond.code yX0_init cX0_init 1 none]
def wsX6_init_r3 : List Cond := [Cond.methodLink RX0 3 objectInit, Cond.classLink RX0 9 RX5, Cond.fieldLink RX0 14 "SongsAgain$Book" "kinds" "LSongsAgain$Row;", Cond.fieldLink RX0 20 "SongsAgain$Book" "singers" "LSongsAgain$Row;", Cond.fieldLink RX0 23 "SongsAgain$Book" "weights" "LSongsAgain$Row;", Cond.fieldLink RX0 26 "SongsAgain$Book" "minutes" "LSongsAgain$Row;", Cond.fieldLink RX0 29 "SongsAgain$Book" "number" "I", Cond.methodLink RX0 11 yX5_init, Cond.instanceMethod yX4_init, Cond.code yX4_init cX4_init 1 none, Cond.methodLink RX4 3 objectInit, Cond.classLink RX4 9 RX5, Cond.fieldLink RX4 14 "SongsAgain$Past" "played" "LSongsAgain$Row;", Cond.fieldLink RX4 20 "SongsAgain$Past" "skipped" "LSongsAgain$Row;", Cond.fieldLink RX4 23 "SongsAgain$Past" "heard" "LSongsAgain$Row;", Cond.fieldLink RX4 26 "SongsAgain$Past" "heardLength" "I", Cond.fieldLink RX4 30 "SongsAgain$Past" "rule" "I", Cond.fieldLink RX4 33 "SongsAgain$Past" "bag" "I", Cond.fieldLink RX4 36 "SongsAgain$Past" "last" "I", Cond.fieldLink RX4 39 "SongsAgain$Past" "lastIsSkipped" "Z", Cond.methodLink RX4 11 yX5_init, Cond.instanceMethod yX1_init, Cond.code yX1_init cX1_init 1 none, Cond.methodLink RX1 1 objectInit]
def wsX6_init_r4 : List Cond := [Cond.fieldLink RX1 7 "SongsAgain$Fraction" "above" "J", Cond.fieldLink RX1 13 "SongsAgain$Fraction" "below" "J", Cond.instanceMethod yX2_init, Cond.code yX2_init cX2_init 1 none, Cond.methodLink RX2 3 objectInit, Cond.classLink RX2 9 RX5, Cond.fieldLink RX2 14 "SongsAgain$Orders" "way" "LSongsAgain$Row;", Cond.fieldLink RX2 20 "SongsAgain$Orders" "first" "LSongsAgain$Row;", Cond.fieldLink RX2 23 "SongsAgain$Orders" "firstLength" "I", Cond.fieldLink RX2 27 "SongsAgain$Orders" "number" "I", Cond.methodLink RX2 11 yX5_init]
def wsX6_init : List Cond := .code yX6_init cX6_init 1 none :: ((wsX6_init_r1 ++ (wsX6_init_r2 ++ (wsX6_init_r3 ++ wsX6_init_r4))) ++ wsX30 ++ wsX60 ++ wsX00 ++ wsX40 ++ wsX10 ++ wsX20 ++ wsX50)
def wsX6_letter : List Cond := .code yX6_letter cX6_letter 2 (some .int) :: ([.fieldLink RX6 10 "SongsAgain" "page" "LSongsAgain$Page;", .methodLink RX6 64 yX3_append, .instanceMethod yX3_append, .selects RX3 yX3_append yX3_append, .initialized RX3, .code yX3_append cX3_append 2 none, .fieldLink RX3 14 "SongsAgain$Page" "codes" "LSongsAgain$Row;", .fieldLink RX3 20 "SongsAgain$Page" "length" "I", .methodLink RX3 24 yX5_put, .instanceMethod yX5_put, .selects RX5 yX5_put yX5_put, .initialized RX5, .code yX5_put cX5_put 3 none, .fieldLink RX5 13 "SongsAgain$Row" "cells" "[I"] ++ wsX60 ++ wsX30 ++ wsX50)
def wsX6_blank : List Cond := .code yX6_blank cX6_blank 2 (some .int) :: ([.fieldLink RX6 10 "SongsAgain" "page" "LSongsAgain$Page;", .methodLink RX6 68 yX3_clear, .instanceMethod yX3_clear, .selects RX3 yX3_clear yX3_clear, .initialized RX3, .code yX3_clear cX3_clear 1 none, .fieldLink RX3 20 "SongsAgain$Page" "length" "I"] ++ wsX60 ++ wsX30)
def wsX6_fault_r1 : List Cond := [Cond.fieldLink RX6 10 "SongsAgain" "page" "LSongsAgain$Page;", Cond.methodLink RX6 71 yX3_firstFault, Cond.instanceMethod yX3_firstFault, Cond.selects RX3 yX3_firstFault yX3_firstFault, Cond.initialized RX3, Cond.code yX3_firstFault cX3_firstFault 3 (some .int), Cond.fieldLink RX3 20 "SongsAgain$Page" "length" "I", Cond.fieldLink RX3 14 "SongsAgain$Page" "codes" "LSongsAgain$Row;", Cond.methodLink RX3 28 yX3_fits, Cond.instanceMethod yX3_fits, Cond.selects RX3 yX3_fits yX3_fits, Cond.code yX3_fits cX3_fits 4 (some .boolean), Cond.methodLink RX3 32 yX5_at, Cond.instanceMethod yX5_at, Cond.selects RX5 yX5_at yX5_at, Cond.initialized RX5, Cond.code yX5_at cX5_at 2 (some .int), Cond.fieldLink RX5 13 "SongsAgain$Row" "cells" "[I", Cond.methodLink RX3 36 yX3_isDigitBelow, Cond.static yX3_isDigitBelow, Cond.code yX3_isDigitBelow cX3_isDigitBelow 2 (some .boolean), Cond.methodLink RX3 41 yJ0_indexOf_0f7a4, Cond.instanceMethod yJ0_indexOf_0f7a4, Cond.selects RJ0 yJ0_indexOf_0f7a4 yJ0_indexOf_0f7a4]
def wsX6_fault_r2 : List Cond := [Cond.initialized RJ0, Cond.code yJ0_indexOf_0f7a4 cJ0_indexOf_0f7a4 2 (some .int), Cond.methodLink RJ0 633 yJ0_indexOf_7cf53, Cond.instanceMethod yJ0_indexOf_7cf53, Cond.selects RJ0 yJ0_indexOf_7cf53 yJ0_indexOf_7cf53, Cond.code yJ0_indexOf_7cf53 cJ0_indexOf_7cf53 3 (some .int), Cond.fieldLink RJ0 9 "java/lang/String" "value" "[B", Cond.methodLink RJ0 492 yJ0_isLatin1_aae02, Cond.instanceMethod yJ0_isLatin1_aae02, Cond.selects RJ0 yJ0_isLatin1_aae02 yJ0_isLatin1_aae02, Cond.code yJ0_isLatin1_aae02 cJ0_isLatin1_aae02 1 (some .boolean), Cond.fieldLink RJ0 38 "java/lang/String" "COMPACT_STRINGS" "Z", Cond.fieldLink RJ0 15 "java/lang/String" "coder" "B", Cond.methodLink RJ0 505 yJ0_length_8abf5, Cond.instanceMethod yJ0_length_8abf5, Cond.selects RJ0 yJ0_length_8abf5 yJ0_length_8abf5, Cond.code yJ0_length_8abf5 cJ0_length_8abf5 1 (some .int), Cond.methodLink RJ0 335 yJ0_coder_7d493, Cond.instanceMethod yJ0_coder_7d493, Cond.selects RJ0 yJ0_coder_7d493 yJ0_coder_7d493, Cond.code yJ0_coder_7d493 cJ0_coder_7d493 1 (some .byte), Cond.methodLink RJ0 637 yJ1_indexOf_4cfef, Cond.static yJ1_indexOf_4cfef, Cond.initialized RJ1]
def wsX6_fault_r3 : List Cond := [Cond.code yJ1_indexOf_4cfef cJ1_indexOf_4cfef 4 (some .int), Cond.methodLink RJ1 92 Lib.Math.max.name, Cond.static Lib.Math.max.name, Cond.initialized "java/lang/Math", Cond.code Lib.Math.max.name Lib.Math.max.code 2 (some .int), Cond.methodLink RJ1 38 Lib.Math.min.name, Cond.static Lib.Math.min.name, Cond.code Lib.Math.min.name Lib.Math.min.code 2 (some .int), Cond.methodLink RJ1 88 yJ1_canEncode_9a6ad, Cond.static yJ1_canEncode_9a6ad, Cond.code yJ1_canEncode_9a6ad cJ1_canEncode_9a6ad 1 (some .boolean), Cond.methodLink RJ1 95 yJ1_indexOfChar_4cfef, Cond.static yJ1_indexOfChar_4cfef, Cond.code yJ1_indexOfChar_4cfef cJ1_indexOfChar_4cfef 6 (some .int), Cond.methodLink RJ0 640 yJ2_indexOf_4cfef, Cond.static yJ2_indexOf_4cfef, Cond.initialized RJ2, Cond.code yJ2_indexOf_4cfef cJ2_indexOf_4cfef 4 (some .int), Cond.methodLink RJ2 224 Lib.Math.max.name, Cond.methodLink RJ2 183 Lib.Math.min.name, Cond.constant RJ2 227 (65536), Cond.methodLink RJ2 228 yJ2_indexOfChar_4cfef, Cond.static yJ2_indexOfChar_4cfef, Cond.code yJ2_indexOfChar_4cfef cJ2_indexOfChar_4cfef 4 (some .int)]
def wsX6_fault_r4 : List Cond := [Cond.methodLink RJ2 96 yJ2_checkBoundsBeginEnd_d044e, Cond.static yJ2_checkBoundsBeginEnd_d044e, Cond.code yJ2_checkBoundsBeginEnd_d044e cJ2_checkBoundsBeginEnd_d044e 3 none, Cond.methodLink RJ2 48 yJ2_length_9d52b, Cond.static yJ2_length_9d52b, Cond.code yJ2_length_9d52b cJ2_length_9d52b 1 (some .int), Cond.methodLink RJ2 241 yJ0_checkBoundsBeginEnd_23922, Cond.static yJ0_checkBoundsBeginEnd_23922, Cond.code yJ0_checkBoundsBeginEnd_23922 cJ0_checkBoundsBeginEnd_23922 3 none, Cond.fieldLink RJ0 1053 "jdk/internal/util/Preconditions" "SIOOBE_FORMATTER" "Ljava/util/function/BiFunction;", Cond.methodLink RJ0 1062 yJ3_checkFromToIndex_8c36e, Cond.static yJ3_checkFromToIndex_8c36e, Cond.initialized RJ3, Cond.code yJ3_checkFromToIndex_8c36e cJ3_checkFromToIndex_8c36e 4 (some .int), Cond.methodLink RJ2 244 yJ2_indexOfCharUnsafe_4cfef, Cond.static yJ2_indexOfCharUnsafe_4cfef, Cond.code yJ2_indexOfCharUnsafe_4cfef cJ2_indexOfCharUnsafe_4cfef 5 (some .int), Cond.methodLink RJ2 71 yJ2_getChar_3b067, Cond.static yJ2_getChar_3b067, Cond.code yJ2_getChar_3b067 cJ2_getChar_3b067 2 (some .char), Cond.fieldLink RJ2 44 "java/lang/StringUTF16" "$assertionsDisabled" "Z", Cond.fieldLink RJ2 59 "java/lang/StringUTF16" "HI_BYTE_SHIFT" "I", Cond.fieldLink RJ2 63 "java/lang/StringUTF16" "LO_BYTE_SHIFT" "I", Cond.methodLink RJ2 232 yJ2_indexOfSupplementary_4cfef]
def wsX6_fault_r5 : List Cond := [Cond.static yJ2_indexOfSupplementary_4cfef, Cond.code yJ2_indexOfSupplementary_4cfef cJ2_indexOfSupplementary_4cfef 7 (some .int), Cond.methodLink RJ2 164 yJ11_isValidCodePoint_9a6ad, Cond.static yJ11_isValidCodePoint_9a6ad, Cond.initialized RJ11, Cond.code yJ11_isValidCodePoint_9a6ad cJ11_isValidCodePoint_9a6ad 2 (some .boolean), Cond.methodLink RJ2 157 yJ11_highSurrogate_5068e, Cond.static yJ11_highSurrogate_5068e, Cond.code yJ11_highSurrogate_5068e cJ11_highSurrogate_5068e 1 (some .char), Cond.constant RJ11 110 (55232), Cond.methodLink RJ2 161 yJ11_lowSurrogate_5068e, Cond.static yJ11_lowSurrogate_5068e, Cond.code yJ11_lowSurrogate_5068e cJ11_lowSurrogate_5068e 1 (some .char), Cond.constant RJ11 76 (56320), Cond.methodLink RX3 46 yX3_endsSong, Cond.static yX3_endsSong, Cond.code yX3_endsSong cX3_endsSong 2 (some .boolean)]
def wsX6_fault : List Cond := .code yX6_fault cX6_fault 1 (some .int) :: ((wsX6_fault_r1 ++ (wsX6_fault_r2 ++ (wsX6_fault_r3 ++ (wsX6_fault_r4 ++ wsX6_fault_r5)))) ++ wsX60 ++ wsX30 ++ wsX50)
def wsX6_player_r1 : List Cond := [Cond.fieldLink RX6 10 "SongsAgain" "page" "LSongsAgain$Page;", Cond.fieldLink RX6 19 "SongsAgain" "book" "LSongsAgain$Book;", Cond.fieldLink RX6 26 "SongsAgain" "now" "LSongsAgain$Past;", Cond.fieldLink RX6 53 "SongsAgain" "isKept" "Z", Cond.fieldLink RX6 57 "SongsAgain" "playersRead" "I", Cond.methodLink RX6 75 yX3_isWhole, Cond.instanceMethod yX3_isWhole, Cond.selects RX3 yX3_isWhole yX3_isWhole, Cond.initialized RX3, Cond.code yX3_isWhole cX3_isWhole 1 (some .boolean), Cond.fieldLink RX3 20 "SongsAgain$Page" "length" "I", Cond.fieldLink RX3 14 "SongsAgain$Page" "codes" "LSongsAgain$Row;", Cond.methodLink RX3 49 yX3_firstFault, Cond.instanceMethod yX3_firstFault, Cond.selects RX3 yX3_firstFault yX3_firstFault, Cond.code yX3_firstFault cX3_firstFault 3 (some .int), Cond.methodLink RX3 28 yX3_fits, Cond.instanceMethod yX3_fits, Cond.selects RX3 yX3_fits yX3_fits, Cond.code yX3_fits cX3_fits 4 (some .boolean), Cond.methodLink RX3 32 yX5_at, Cond.instanceMethod yX5_at, Cond.selects RX5 yX5_at yX5_at, Cond.initialized RX5]
def wsX6_player_r2 : List Cond := [Cond.code yX5_at cX5_at 2 (some .int), Cond.fieldLink RX5 13 "SongsAgain$Row" "cells" "[I", Cond.methodLink RX3 36 yX3_isDigitBelow, Cond.static yX3_isDigitBelow, Cond.code yX3_isDigitBelow cX3_isDigitBelow 2 (some .boolean), Cond.methodLink RX3 41 yJ0_indexOf_0f7a4, Cond.instanceMethod yJ0_indexOf_0f7a4, Cond.selects RJ0 yJ0_indexOf_0f7a4 yJ0_indexOf_0f7a4, Cond.initialized RJ0, Cond.code yJ0_indexOf_0f7a4 cJ0_indexOf_0f7a4 2 (some .int), Cond.methodLink RJ0 633 yJ0_indexOf_7cf53, Cond.instanceMethod yJ0_indexOf_7cf53, Cond.selects RJ0 yJ0_indexOf_7cf53 yJ0_indexOf_7cf53, Cond.code yJ0_indexOf_7cf53 cJ0_indexOf_7cf53 3 (some .int), Cond.fieldLink RJ0 9 "java/lang/String" "value" "[B", Cond.methodLink RJ0 492 yJ0_isLatin1_aae02, Cond.instanceMethod yJ0_isLatin1_aae02, Cond.selects RJ0 yJ0_isLatin1_aae02 yJ0_isLatin1_aae02, Cond.code yJ0_isLatin1_aae02 cJ0_isLatin1_aae02 1 (some .boolean), Cond.fieldLink RJ0 38 "java/lang/String" "COMPACT_STRINGS" "Z", Cond.fieldLink RJ0 15 "java/lang/String" "coder" "B", Cond.methodLink RJ0 505 yJ0_length_8abf5, Cond.instanceMethod yJ0_length_8abf5, Cond.selects RJ0 yJ0_length_8abf5 yJ0_length_8abf5]
def wsX6_player_r3 : List Cond := [Cond.code yJ0_length_8abf5 cJ0_length_8abf5 1 (some .int), Cond.methodLink RJ0 335 yJ0_coder_7d493, Cond.instanceMethod yJ0_coder_7d493, Cond.selects RJ0 yJ0_coder_7d493 yJ0_coder_7d493, Cond.code yJ0_coder_7d493 cJ0_coder_7d493 1 (some .byte), Cond.methodLink RJ0 637 yJ1_indexOf_4cfef, Cond.static yJ1_indexOf_4cfef, Cond.initialized RJ1, Cond.code yJ1_indexOf_4cfef cJ1_indexOf_4cfef 4 (some .int), Cond.methodLink RJ1 92 Lib.Math.max.name, Cond.static Lib.Math.max.name, Cond.initialized "java/lang/Math", Cond.code Lib.Math.max.name Lib.Math.max.code 2 (some .int), Cond.methodLink RJ1 38 Lib.Math.min.name, Cond.static Lib.Math.min.name, Cond.code Lib.Math.min.name Lib.Math.min.code 2 (some .int), Cond.methodLink RJ1 88 yJ1_canEncode_9a6ad, Cond.static yJ1_canEncode_9a6ad, Cond.code yJ1_canEncode_9a6ad cJ1_canEncode_9a6ad 1 (some .boolean), Cond.methodLink RJ1 95 yJ1_indexOfChar_4cfef, Cond.static yJ1_indexOfChar_4cfef, Cond.code yJ1_indexOfChar_4cfef cJ1_indexOfChar_4cfef 6 (some .int), Cond.methodLink RJ0 640 yJ2_indexOf_4cfef, Cond.static yJ2_indexOf_4cfef]
def wsX6_player_r4 : List Cond := [Cond.initialized RJ2, Cond.code yJ2_indexOf_4cfef cJ2_indexOf_4cfef 4 (some .int), Cond.methodLink RJ2 224 Lib.Math.max.name, Cond.methodLink RJ2 183 Lib.Math.min.name, Cond.constant RJ2 227 (65536), Cond.methodLink RJ2 228 yJ2_indexOfChar_4cfef, Cond.static yJ2_indexOfChar_4cfef, Cond.code yJ2_indexOfChar_4cfef cJ2_indexOfChar_4cfef 4 (some .int), Cond.methodLink RJ2 96 yJ2_checkBoundsBeginEnd_d044e, Cond.static yJ2_checkBoundsBeginEnd_d044e, Cond.code yJ2_checkBoundsBeginEnd_d044e cJ2_checkBoundsBeginEnd_d044e 3 none, Cond.methodLink RJ2 48 yJ2_length_9d52b, Cond.static yJ2_length_9d52b, Cond.code yJ2_length_9d52b cJ2_length_9d52b 1 (some .int), Cond.methodLink RJ2 241 yJ0_checkBoundsBeginEnd_23922, Cond.static yJ0_checkBoundsBeginEnd_23922, Cond.code yJ0_checkBoundsBeginEnd_23922 cJ0_checkBoundsBeginEnd_23922 3 none, Cond.fieldLink RJ0 1053 "jdk/internal/util/Preconditions" "SIOOBE_FORMATTER" "Ljava/util/function/BiFunction;", Cond.methodLink RJ0 1062 yJ3_checkFromToIndex_8c36e, Cond.static yJ3_checkFromToIndex_8c36e, Cond.initialized RJ3, Cond.code yJ3_checkFromToIndex_8c36e cJ3_checkFromToIndex_8c36e 4 (some .int), Cond.methodLink RJ2 244 yJ2_indexOfCharUnsafe_4cfef, Cond.static yJ2_indexOfCharUnsafe_4cfef]
def wsX6_player_r5 : List Cond := [Cond.code yJ2_indexOfCharUnsafe_4cfef cJ2_indexOfCharUnsafe_4cfef 5 (some .int), Cond.methodLink RJ2 71 yJ2_getChar_3b067, Cond.static yJ2_getChar_3b067, Cond.code yJ2_getChar_3b067 cJ2_getChar_3b067 2 (some .char), Cond.fieldLink RJ2 44 "java/lang/StringUTF16" "$assertionsDisabled" "Z", Cond.fieldLink RJ2 59 "java/lang/StringUTF16" "HI_BYTE_SHIFT" "I", Cond.fieldLink RJ2 63 "java/lang/StringUTF16" "LO_BYTE_SHIFT" "I", Cond.methodLink RJ2 232 yJ2_indexOfSupplementary_4cfef, Cond.static yJ2_indexOfSupplementary_4cfef, Cond.code yJ2_indexOfSupplementary_4cfef cJ2_indexOfSupplementary_4cfef 7 (some .int), Cond.methodLink RJ2 164 yJ11_isValidCodePoint_9a6ad, Cond.static yJ11_isValidCodePoint_9a6ad, Cond.initialized RJ11, Cond.code yJ11_isValidCodePoint_9a6ad cJ11_isValidCodePoint_9a6ad 2 (some .boolean), Cond.methodLink RJ2 157 yJ11_highSurrogate_5068e, Cond.static yJ11_highSurrogate_5068e, Cond.code yJ11_highSurrogate_5068e cJ11_highSurrogate_5068e 1 (some .char), Cond.constant RJ11 110 (55232), Cond.methodLink RJ2 161 yJ11_lowSurrogate_5068e, Cond.static yJ11_lowSurrogate_5068e, Cond.code yJ11_lowSurrogate_5068e cJ11_lowSurrogate_5068e 1 (some .char), Cond.constant RJ11 76 (56320), Cond.methodLink RX3 46 yX3_endsSong, Cond.static yX3_endsSong]
def wsX6_player_r6 : List Cond := [Cond.code yX3_endsSong cX3_endsSong 2 (some .boolean), Cond.methodLink RX6 79 yX0_read, Cond.instanceMethod yX0_read, Cond.selects RX0 yX0_read yX0_read, Cond.initialized RX0, Cond.code yX0_read cX0_read 4 none, Cond.fieldLink RX0 29 "SongsAgain$Book" "number" "I", Cond.fieldLink RX0 14 "SongsAgain$Book" "kinds" "LSongsAgain$Row;", Cond.fieldLink RX0 20 "SongsAgain$Book" "singers" "LSongsAgain$Row;", Cond.fieldLink RX0 23 "SongsAgain$Book" "weights" "LSongsAgain$Row;", Cond.fieldLink RX0 26 "SongsAgain$Book" "minutes" "LSongsAgain$Row;", Cond.methodLink RX0 33 yX3_songsRead, Cond.instanceMethod yX3_songsRead, Cond.selects RX3 yX3_songsRead yX3_songsRead, Cond.code yX3_songsRead cX3_songsRead 1 (some .int), Cond.methodLink RX3 53 Lib.Math.min.name, Cond.methodLink RX0 39 yX3_kindRead, Cond.instanceMethod yX3_kindRead, Cond.selects RX3 yX3_kindRead yX3_kindRead, Cond.code yX3_kindRead cX3_kindRead 2 (some .int), Cond.methodLink RX0 43 yX5_put, Cond.instanceMethod yX5_put, Cond.selects RX5 yX5_put yX5_put, Cond.code yX5_put cX5_put 3 none]
def wsX6_player_r7 : List Cond := [Cond.methodLink RX0 47 yX3_singerRead, Cond.instanceMethod yX3_singerRead, Cond.selects RX3 yX3_singerRead yX3_singerRead, Cond.code yX3_singerRead cX3_singerRead 2 (some .int), Cond.methodLink RX0 50 yX0_weightOf, Cond.static yX0_weightOf, Cond.code yX0_weightOf cX0_weightOf 1 (some .int), Cond.methodLink RX6 83 yX3_ruleRead, Cond.instanceMethod yX3_ruleRead, Cond.selects RX3 yX3_ruleRead yX3_ruleRead, Cond.code yX3_ruleRead cX3_ruleRead 1 (some .int), Cond.methodLink RX6 86 yX0_all, Cond.instanceMethod yX0_all, Cond.selects RX0 yX0_all yX0_all, Cond.code yX0_all cX0_all 1 (some .int), Cond.methodLink RX6 89 yX4_begin, Cond.instanceMethod yX4_begin, Cond.selects RX4 yX4_begin yX4_begin, Cond.initialized RX4, Cond.code yX4_begin cX4_begin 3 none, Cond.fieldLink RX4 14 "SongsAgain$Past" "played" "LSongsAgain$Row;", Cond.fieldLink RX4 20 "SongsAgain$Past" "skipped" "LSongsAgain$Row;", Cond.fieldLink RX4 26 "SongsAgain$Past" "heardLength" "I", Cond.fieldLink RX4 30 "SongsAgain$Past" "rule" "I"]
def wsX6_player_r8 : List Cond := [Cond.fieldLink RX4 33 "SongsAgain$Past" "bag" "I", Cond.fieldLink RX4 36 "SongsAgain$Past" "last" "I", Cond.fieldLink RX4 39 "SongsAgain$Past" "lastIsSkipped" "Z", Cond.methodLink RX4 43 yX5_clear, Cond.instanceMethod yX5_clear, Cond.selects RX5 yX5_clear yX5_clear, Cond.code yX5_clear cX5_clear 2 none, Cond.methodLink RX6 68 yX3_clear, Cond.instanceMethod yX3_clear, Cond.selects RX3 yX3_clear yX3_clear, Cond.code yX3_clear cX3_clear 1 none]
def wsX6_player : List Cond := .code yX6_player cX6_player 1 (some .int) :: ((wsX6_player_r1 ++ (wsX6_player_r2 ++ (wsX6_player_r3 ++ (wsX6_player_r4 ++ (wsX6_player_r5 ++ (wsX6_player_r6 ++ (wsX6_player_r7 ++ wsX6_player_r8))))))) ++ wsX60 ++ wsX00 ++ wsX30 ++ wsX50 ++ wsX40)
def wsX6_weight : List Cond := .code yX6_weight cX6_weight 2 (some .int) :: ([.fieldLink RX6 19 "SongsAgain" "book" "LSongsAgain$Book;", .fieldLink RX6 26 "SongsAgain" "now" "LSongsAgain$Past;", .methodLink RX6 253 Lib.Math.max.name, .static Lib.Math.max.name, .initialized "java/lang/Math", .code Lib.Math.max.name Lib.Math.max.code 2 (some .int), .methodLink RX6 216 yX5_at, .instanceMethod yX5_at, .selects RX5 yX5_at yX5_at, .initialized RX5, .code yX5_at cX5_at 2 (some .int), .fieldLink RX5 13 "SongsAgain$Row" "cells" "[I"] ++ wsX60 ++ wsX00 ++ wsX40 ++ wsX50)
def wsX6_mayNow : List Cond := .code yX6_mayNow cX6_mayNow 1 (some .int) :: ([.fieldLink RX6 19 "SongsAgain" "book" "LSongsAgain$Book;", .fieldLink RX6 26 "SongsAgain" "now" "LSongsAgain$Past;", .methodLink RX6 222 yX0_mayCome, .instanceMethod yX0_mayCome, .selects RX0 yX0_mayCome yX0_mayCome, .initialized RX0, .code yX0_mayCome cX0_mayCome 8 (some .int), .methodLink RX0 60 yX0_all, .instanceMethod yX0_all, .selects RX0 yX0_all yX0_all, .code yX0_all cX0_all 1 (some .int), .fieldLink RX0 29 "SongsAgain$Book" "number" "I", .methodLink RX0 63 yX0_mayFollow, .instanceMethod yX0_mayFollow, .selects RX0 yX0_mayFollow yX0_mayFollow, .code yX0_mayFollow cX0_mayFollow 4 (some .int), .fieldLink RX0 20 "SongsAgain$Book" "singers" "LSongsAgain$Row;", .fieldLink RX0 14 "SongsAgain$Book" "kinds" "LSongsAgain$Row;", .methodLink RX0 53 yX5_at, .instanceMethod yX5_at, .selects RX5 yX5_at yX5_at, .initialized RX5, .code yX5_at cX5_at 2 (some .int), .fieldLink RX5 13 "SongsAgain$Row" "cells" "[I"] ++ wsX60 ++ wsX40 ++ wsX00 ++ wsX50)
def wsX6_weightTogether : List Cond := .code yX6_weightTogether cX6_weightTogether 4 (some .int) :: ([.fieldLink RX6 19 "SongsAgain" "book" "LSongsAgain$Book;", .methodLink RX6 117 yX6_holds, .static yX6_holds, .initialized RX6, .code yX6_holds cX6_holds 2 (some .boolean), .methodLink RX6 150 yX6_weight, .instanceMethod yX6_weight, .selects RX6 yX6_weight yX6_weight, .code yX6_weight cX6_weight 2 (some .int), .fieldLink RX6 26 "SongsAgain" "now" "LSongsAgain$Past;", .methodLink RX6 253 Lib.Math.max.name, .static Lib.Math.max.name, .initialized "java/lang/Math", .code Lib.Math.max.name Lib.Math.max.code 2 (some .int), .methodLink RX6 216 yX5_at, .instanceMethod yX5_at, .selects RX5 yX5_at yX5_at, .initialized RX5, .code yX5_at cX5_at 2 (some .int), .fieldLink RX5 13 "SongsAgain$Row" "cells" "[I"] ++ wsX60 ++ wsX00 ++ wsX40 ++ wsX50)
def wsX6_share : List Cond := .code yX6_share cX6_share 4 (some .int) :: ([.methodLink RX6 117 yX6_holds, .static yX6_holds, .initialized RX6, .code yX6_holds cX6_holds 2 (some .boolean), .methodLink RX6 150 yX6_weight, .instanceMethod yX6_weight, .selects RX6 yX6_weight yX6_weight, .code yX6_weight cX6_weight 2 (some .int), .fieldLink RX6 19 "SongsAgain" "book" "LSongsAgain$Book;", .fieldLink RX6 26 "SongsAgain" "now" "LSongsAgain$Past;", .methodLink RX6 253 Lib.Math.max.name, .static Lib.Math.max.name, .initialized "java/lang/Math", .code Lib.Math.max.name Lib.Math.max.code 2 (some .int), .methodLink RX6 216 yX5_at, .instanceMethod yX5_at, .selects RX5 yX5_at yX5_at, .initialized RX5, .code yX5_at cX5_at 2 (some .int), .fieldLink RX5 13 "SongsAgain$Row" "cells" "[I"] ++ wsX60 ++ wsX00 ++ wsX40 ++ wsX50)
def wsJ6_bitCount_0f7a4 : List Cond := .code yJ6_bitCount_0f7a4 cJ6_bitCount_0f7a4 1 (some .int) :: ([.constant RJ6 265 (1431655765), .constant RJ6 266 (858993459), .constant RJ6 267 (252645135)])
def wsX6_allShares : List Cond := .code yX6_allShares cX6_allShares 2 (some .int) :: ([.methodLink RX6 141 yJ6_bitCount_0f7a4, .static yJ6_bitCount_0f7a4, .initialized RJ6, .code yJ6_bitCount_0f7a4 cJ6_bitCount_0f7a4 1 (some .int), .constant RJ6 265 (1431655765), .constant RJ6 266 (858993459), .constant RJ6 267 (252645135)])
def wsX6_chanceNow_r1 : List Cond := [Cond.fieldLink RX6 40 "SongsAgain" "chance" "LSongsAgain$Fraction;", Cond.methodLink RX6 114 yX6_mayNow, Cond.instanceMethod yX6_mayNow, Cond.selects RX6 yX6_mayNow yX6_mayNow, Cond.initialized RX6, Cond.code yX6_mayNow cX6_mayNow 1 (some .int), Cond.fieldLink RX6 19 "SongsAgain" "book" "LSongsAgain$Book;", Cond.fieldLink RX6 26 "SongsAgain" "now" "LSongsAgain$Past;", Cond.methodLink RX6 222 yX0_mayCome, Cond.instanceMethod yX0_mayCome, Cond.selects RX0 yX0_mayCome yX0_mayCome, Cond.initialized RX0, Cond.code yX0_mayCome cX0_mayCome 8 (some .int), Cond.methodLink RX0 60 yX0_all, Cond.instanceMethod yX0_all, Cond.selects RX0 yX0_all yX0_all, Cond.code yX0_all cX0_all 1 (some .int), Cond.fieldLink RX0 29 "SongsAgain$Book" "number" "I", Cond.methodLink RX0 63 yX0_mayFollow, Cond.instanceMethod yX0_mayFollow, Cond.selects RX0 yX0_mayFollow yX0_mayFollow, Cond.code yX0_mayFollow cX0_mayFollow 4 (some .int), Cond.fieldLink RX0 20 "SongsAgain$Book" "singers" "LSongsAgain$Row;", Cond.fieldLink RX0 14 "SongsAgain$Book" "kinds" "LSongsAgain$Row;"]
def wsX6_chanceNow_r2 : List Cond := [Cond.methodLink RX0 53 yX5_at, Cond.instanceMethod yX5_at, Cond.selects RX5 yX5_at yX5_at, Cond.initialized RX5, Cond.code yX5_at cX5_at 2 (some .int), Cond.fieldLink RX5 13 "SongsAgain$Row" "cells" "[I", Cond.methodLink RX6 238 yX6_weightTogether, Cond.instanceMethod yX6_weightTogether, Cond.selects RX6 yX6_weightTogether yX6_weightTogether, Cond.code yX6_weightTogether cX6_weightTogether 4 (some .int), Cond.methodLink RX6 117 yX6_holds, Cond.static yX6_holds, Cond.code yX6_holds cX6_holds 2 (some .boolean), Cond.methodLink RX6 150 yX6_weight, Cond.instanceMethod yX6_weight, Cond.selects RX6 yX6_weight yX6_weight, Cond.code yX6_weight cX6_weight 2 (some .int), Cond.methodLink RX6 253 Lib.Math.max.name, Cond.static Lib.Math.max.name, Cond.initialized "java/lang/Math", Cond.code Lib.Math.max.name Lib.Math.max.code 2 (some .int), Cond.methodLink RX6 216 yX5_at, Cond.methodLink RX6 241 yX6_share, Cond.instanceMethod yX6_share]
def wsX6_chanceNow_r3 : List Cond := [Cond.selects RX6 yX6_share yX6_share, Cond.code yX6_share cX6_share 4 (some .int), Cond.methodLink RX6 244 yX6_allShares, Cond.static yX6_allShares, Cond.code yX6_allShares cX6_allShares 2 (some .int), Cond.methodLink RX6 141 yJ6_bitCount_0f7a4, Cond.static yJ6_bitCount_0f7a4, Cond.initialized RJ6, Cond.code yJ6_bitCount_0f7a4 cJ6_bitCount_0f7a4 1 (some .int), Cond.constant RJ6 265 (1431655765), Cond.constant RJ6 266 (858993459), Cond.constant RJ6 267 (252645135), Cond.methodLink RX6 247 yX1_become, Cond.instanceMethod yX1_become, Cond.selects RX1 yX1_become yX1_become, Cond.initialized RX1, Cond.code yX1_become cX1_become 7 none, Cond.fieldLink RX1 7 "SongsAgain$Fraction" "above" "J", Cond.fieldLink RX1 13 "SongsAgain$Fraction" "below" "J", Cond.methodLink RX1 16 yX1_commonDivisor, Cond.static yX1_commonDivisor, Cond.code yX1_commonDivisor cX1_commonDivisor 11 (some .long)]
def wsX6_chanceNow : List Cond := .code yX6_chanceNow cX6_chanceNow 4 (some (.object "SongsAgain$Fraction")) :: ((wsX6_chanceNow_r1 ++ (wsX6_chanceNow_r2 ++ wsX6_chanceNow_r3)) ++ wsX60 ++ wsX40 ++ wsX00 ++ wsX50 ++ wsX10)
def wsX6_songFact_r1 : List Cond := [Cond.fieldLink RX6 19 "SongsAgain" "book" "LSongsAgain$Book;", Cond.fieldLink RX6 26 "SongsAgain" "now" "LSongsAgain$Past;", Cond.methodLink RX6 216 yX5_at, Cond.instanceMethod yX5_at, Cond.selects RX5 yX5_at yX5_at, Cond.initialized RX5, Cond.code yX5_at cX5_at 2 (some .int), Cond.fieldLink RX5 13 "SongsAgain$Row" "cells" "[I", Cond.methodLink RX6 150 yX6_weight, Cond.instanceMethod yX6_weight, Cond.selects RX6 yX6_weight yX6_weight, Cond.initialized RX6, Cond.code yX6_weight cX6_weight 2 (some .int), Cond.methodLink RX6 253 Lib.Math.max.name, Cond.static Lib.Math.max.name, Cond.initialized "java/lang/Math", Cond.code Lib.Math.max.name Lib.Math.max.code 2 (some .int), Cond.methodLink RX6 117 yX6_holds, Cond.static yX6_holds, Cond.code yX6_holds cX6_holds 2 (some .boolean), Cond.methodLink RX6 114 yX6_mayNow, Cond.instanceMethod yX6_mayNow, Cond.selects RX6 yX6_mayNow yX6_mayNow, Cond.code yX6_mayNow cX6_mayNow 1 (some .int)]
def wsX6_songFact_r2 : List Cond := [Cond.methodLink RX6 222 yX0_mayCome, Cond.instanceMethod yX0_mayCome, Cond.selects RX0 yX0_mayCome yX0_mayCome, Cond.initialized RX0, Cond.code yX0_mayCome cX0_mayCome 8 (some .int), Cond.methodLink RX0 60 yX0_all, Cond.instanceMethod yX0_all, Cond.selects RX0 yX0_all yX0_all, Cond.code yX0_all cX0_all 1 (some .int), Cond.fieldLink RX0 29 "SongsAgain$Book" "number" "I", Cond.methodLink RX0 63 yX0_mayFollow, Cond.instanceMethod yX0_mayFollow, Cond.selects RX0 yX0_mayFollow yX0_mayFollow, Cond.code yX0_mayFollow cX0_mayFollow 4 (some .int), Cond.fieldLink RX0 20 "SongsAgain$Book" "singers" "LSongsAgain$Row;", Cond.fieldLink RX0 14 "SongsAgain$Book" "kinds" "LSongsAgain$Row;", Cond.methodLink RX0 53 yX5_at, Cond.methodLink RX6 234 yX6_chanceNow, Cond.instanceMethod yX6_chanceNow, Cond.selects RX6 yX6_chanceNow yX6_chanceNow, Cond.code yX6_chanceNow cX6_chanceNow 4 (some (.object "SongsAgain$Fraction")), Cond.fieldLink RX6 40 "SongsAgain" "chance" "LSongsAgain$Fraction;", Cond.methodLink RX6 238 yX6_weightTogether, Cond.instanceMethod yX6_weightTogether]
def wsX6_songFact_r3 : List Cond := [Cond.selects RX6 yX6_weightTogether yX6_weightTogether, Cond.code yX6_weightTogether cX6_weightTogether 4 (some .int), Cond.methodLink RX6 241 yX6_share, Cond.instanceMethod yX6_share, Cond.selects RX6 yX6_share yX6_share, Cond.code yX6_share cX6_share 4 (some .int), Cond.methodLink RX6 244 yX6_allShares, Cond.static yX6_allShares, Cond.code yX6_allShares cX6_allShares 2 (some .int), Cond.methodLink RX6 141 yJ6_bitCount_0f7a4, Cond.static yJ6_bitCount_0f7a4, Cond.initialized RJ6, Cond.code yJ6_bitCount_0f7a4 cJ6_bitCount_0f7a4 1 (some .int), Cond.constant RJ6 265 (1431655765), Cond.constant RJ6 266 (858993459), Cond.constant RJ6 267 (252645135), Cond.methodLink RX6 247 yX1_become, Cond.instanceMethod yX1_become, Cond.selects RX1 yX1_become yX1_become, Cond.initialized RX1, Cond.code yX1_become cX1_become 7 none, Cond.fieldLink RX1 7 "SongsAgain$Fraction" "above" "J", Cond.fieldLink RX1 13 "SongsAgain$Fraction" "below" "J", Cond.methodLink RX1 16 yX1_commonDivisor]
def wsX6_songFact_r4 : List Cond := [Cond.static yX1_commonDivisor, Cond.code yX1_commonDivisor cX1_commonDivisor 11 (some .long)]
def wsX6_songFact : List Cond := .code yX6_songFact cX6_songFact 3 (some .int) :: ((wsX6_songFact_r1 ++ (wsX6_songFact_r2 ++ (wsX6_songFact_r3 ++ wsX6_songFact_r4))) ++ wsX60 ++ wsX00 ++ wsX40 ++ wsX10 ++ wsX50)
def wsX6_song_r1 : List Cond := [Cond.fieldLink RX6 19 "SongsAgain" "book" "LSongsAgain$Book;", Cond.methodLink RX6 96 yX0_has, Cond.instanceMethod yX0_has, Cond.selects RX0 yX0_has yX0_has, Cond.initialized RX0, Cond.code yX0_has cX0_has 2 (some .boolean), Cond.fieldLink RX0 29 "SongsAgain$Book" "number" "I", Cond.methodLink RX6 100 yX6_songFact, Cond.instanceMethod yX6_songFact, Cond.selects RX6 yX6_songFact yX6_songFact, Cond.initialized RX6, Cond.code yX6_songFact cX6_songFact 3 (some .int), Cond.fieldLink RX6 26 "SongsAgain" "now" "LSongsAgain$Past;", Cond.methodLink RX6 216 yX5_at, Cond.instanceMethod yX5_at, Cond.selects RX5 yX5_at yX5_at, Cond.initialized RX5, Cond.code yX5_at cX5_at 2 (some .int), Cond.fieldLink RX5 13 "SongsAgain$Row" "cells" "[I", Cond.methodLink RX6 150 yX6_weight, Cond.instanceMethod yX6_weight, Cond.selects RX6 yX6_weight yX6_weight, Cond.code yX6_weight cX6_weight 2 (some .int), Cond.methodLink RX6 253 Lib.Math.max.name]
def wsX6_song_r2 : List Cond := [Cond.static Lib.Math.max.name, Cond.initialized "java/lang/Math", Cond.code Lib.Math.max.name Lib.Math.max.code 2 (some .int), Cond.methodLink RX6 117 yX6_holds, Cond.static yX6_holds, Cond.code yX6_holds cX6_holds 2 (some .boolean), Cond.methodLink RX6 114 yX6_mayNow, Cond.instanceMethod yX6_mayNow, Cond.selects RX6 yX6_mayNow yX6_mayNow, Cond.code yX6_mayNow cX6_mayNow 1 (some .int), Cond.methodLink RX6 222 yX0_mayCome, Cond.instanceMethod yX0_mayCome, Cond.selects RX0 yX0_mayCome yX0_mayCome, Cond.code yX0_mayCome cX0_mayCome 8 (some .int), Cond.methodLink RX0 60 yX0_all, Cond.instanceMethod yX0_all, Cond.selects RX0 yX0_all yX0_all, Cond.code yX0_all cX0_all 1 (some .int), Cond.methodLink RX0 63 yX0_mayFollow, Cond.instanceMethod yX0_mayFollow, Cond.selects RX0 yX0_mayFollow yX0_mayFollow, Cond.code yX0_mayFollow cX0_mayFollow 4 (some .int), Cond.fieldLink RX0 20 "SongsAgain$Book" "singers" "LSongsAgain$Row;", Cond.fieldLink RX0 14 "SongsAgain$Book" "kinds" "LSongsAgain$Row;"]
def wsX6_song_r3 : List Cond := [Cond.methodLink RX0 53 yX5_at, Cond.methodLink RX6 234 yX6_chanceNow, Cond.instanceMethod yX6_chanceNow, Cond.selects RX6 yX6_chanceNow yX6_chanceNow, Cond.code yX6_chanceNow cX6_chanceNow 4 (some (.object "SongsAgain$Fraction")), Cond.fieldLink RX6 40 "SongsAgain" "chance" "LSongsAgain$Fraction;", Cond.methodLink RX6 238 yX6_weightTogether, Cond.instanceMethod yX6_weightTogether, Cond.selects RX6 yX6_weightTogether yX6_weightTogether, Cond.code yX6_weightTogether cX6_weightTogether 4 (some .int), Cond.methodLink RX6 241 yX6_share, Cond.instanceMethod yX6_share, Cond.selects RX6 yX6_share yX6_share, Cond.code yX6_share cX6_share 4 (some .int), Cond.methodLink RX6 244 yX6_allShares, Cond.static yX6_allShares, Cond.code yX6_allShares cX6_allShares 2 (some .int), Cond.methodLink RX6 141 yJ6_bitCount_0f7a4, Cond.static yJ6_bitCount_0f7a4, Cond.initialized RJ6, Cond.code yJ6_bitCount_0f7a4 cJ6_bitCount_0f7a4 1 (some .int), Cond.constant RJ6 265 (1431655765), Cond.constant RJ6 266 (858993459), Cond.constant RJ6 267 (252645135)]
def wsX6_song_r4 : List Cond := [Cond.methodLink RX6 247 yX1_become, Cond.instanceMethod yX1_become, Cond.selects RX1 yX1_become yX1_become, Cond.initialized RX1, Cond.code yX1_become cX1_become 7 none, Cond.fieldLink RX1 7 "SongsAgain$Fraction" "above" "J", Cond.fieldLink RX1 13 "SongsAgain$Fraction" "below" "J", Cond.methodLink RX1 16 yX1_commonDivisor, Cond.static yX1_commonDivisor, Cond.code yX1_commonDivisor cX1_commonDivisor 11 (some .long)]
def wsX6_song : List Cond := .code yX6_song cX6_song 3 (some .int) :: ((wsX6_song_r1 ++ (wsX6_song_r2 ++ (wsX6_song_r3 ++ wsX6_song_r4))) ++ wsX60 ++ wsX00 ++ wsX40 ++ wsX10 ++ wsX50)
def wsX6_as : List Cond := .code yX6_as cX6_as 3 (some .int) :: ([.fieldLink RX6 19 "SongsAgain" "book" "LSongsAgain$Book;", .methodLink RX6 96 yX0_has, .instanceMethod yX0_has, .selects RX0 yX0_has yX0_has, .initialized RX0, .code yX0_has cX0_has 2 (some .boolean), .fieldLink RX0 29 "SongsAgain$Book" "number" "I", .methodLink RX6 104 yX0_isOfKind, .instanceMethod yX0_isOfKind, .selects RX0 yX0_isOfKind yX0_isOfKind, .code yX0_isOfKind cX0_isOfKind 4 (some .boolean), .fieldLink RX0 14 "SongsAgain$Book" "kinds" "LSongsAgain$Row;", .methodLink RX0 53 yX5_at, .instanceMethod yX5_at, .selects RX5 yX5_at yX5_at, .initialized RX5, .code yX5_at cX5_at 2 (some .int), .fieldLink RX5 13 "SongsAgain$Row" "cells" "[I"] ++ wsX60 ++ wsX00 ++ wsX50)
def wsX6_noPlayer : List Cond := .code yX6_noPlayer cX6_noPlayer 1 (some .boolean) :: ([.fieldLink RX6 19 "SongsAgain" "book" "LSongsAgain$Book;"] ++ wsX60 ++ wsX00)
def wsX6_rule : List Cond := .code yX6_rule cX6_rule 3 (some .int) :: ([.fieldLink RX6 26 "SongsAgain" "now" "LSongsAgain$Past;", .methodLink RX6 108 yX6_noPlayer, .instanceMethod yX6_noPlayer, .selects RX6 yX6_noPlayer yX6_noPlayer, .initialized RX6, .code yX6_noPlayer cX6_noPlayer 1 (some .boolean), .fieldLink RX6 19 "SongsAgain" "book" "LSongsAgain$Book;"] ++ wsX60 ++ wsX40 ++ wsX00)
def wsX6_play_r1 : List Cond := [Cond.fieldLink RX6 19 "SongsAgain" "book" "LSongsAgain$Book;", Cond.fieldLink RX6 26 "SongsAgain" "now" "LSongsAgain$Past;", Cond.methodLink RX6 96 yX0_has, Cond.instanceMethod yX0_has, Cond.selects RX0 yX0_has yX0_has, Cond.initialized RX0, Cond.code yX0_has cX0_has 2 (some .boolean), Cond.fieldLink RX0 29 "SongsAgain$Book" "number" "I", Cond.methodLink RX6 114 yX6_mayNow, Cond.instanceMethod yX6_mayNow, Cond.selects RX6 yX6_mayNow yX6_mayNow, Cond.initialized RX6, Cond.code yX6_mayNow cX6_mayNow 1 (some .int), Cond.methodLink RX6 222 yX0_mayCome, Cond.instanceMethod yX0_mayCome, Cond.selects RX0 yX0_mayCome yX0_mayCome, Cond.code yX0_mayCome cX0_mayCome 8 (some .int), Cond.methodLink RX0 60 yX0_all, Cond.instanceMethod yX0_all, Cond.selects RX0 yX0_all yX0_all, Cond.code yX0_all cX0_all 1 (some .int), Cond.methodLink RX0 63 yX0_mayFollow, Cond.instanceMethod yX0_mayFollow, Cond.selects RX0 yX0_mayFollow yX0_mayFollow]
def wsX6_play_r2 : List Cond := [Cond.code yX0_mayFollow cX0_mayFollow 4 (some .int), Cond.fieldLink RX0 20 "SongsAgain$Book" "singers" "LSongsAgain$Row;", Cond.fieldLink RX0 14 "SongsAgain$Book" "kinds" "LSongsAgain$Row;", Cond.methodLink RX0 53 yX5_at, Cond.instanceMethod yX5_at, Cond.selects RX5 yX5_at yX5_at, Cond.initialized RX5, Cond.code yX5_at cX5_at 2 (some .int), Cond.fieldLink RX5 13 "SongsAgain$Row" "cells" "[I", Cond.methodLink RX6 117 yX6_holds, Cond.static yX6_holds, Cond.code yX6_holds cX6_holds 2 (some .boolean), Cond.methodLink RX6 123 yX0_bagAfter, Cond.instanceMethod yX0_bagAfter, Cond.selects RX0 yX0_bagAfter yX0_bagAfter, Cond.code yX0_bagAfter cX0_bagAfter 4 (some .int), Cond.methodLink RX6 136 yX5_increase, Cond.instanceMethod yX5_increase, Cond.selects RX5 yX5_increase yX5_increase, Cond.code yX5_increase cX5_increase 2 none, Cond.methodLink RX5 19 yX5_at, Cond.methodLink RX5 23 yX5_put, Cond.instanceMethod yX5_put, Cond.selects RX5 yX5_put yX5_put]
def wsX6_play_r3 : List Cond := [Cond.code yX5_put cX5_put 3 none, Cond.methodLink RX6 141 yJ6_bitCount_0f7a4, Cond.static yJ6_bitCount_0f7a4, Cond.initialized RJ6, Cond.code yJ6_bitCount_0f7a4 cJ6_bitCount_0f7a4 1 (some .int), Cond.constant RJ6 265 (1431655765), Cond.constant RJ6 266 (858993459), Cond.constant RJ6 267 (252645135)]
def wsX6_play : List Cond := .code yX6_play cX6_play 2 (some .int) :: ((wsX6_play_r1 ++ (wsX6_play_r2 ++ wsX6_play_r3)) ++ wsX60 ++ wsX40 ++ wsX00 ++ wsX50)
def wsX6_skip_r1 : List Cond := [Cond.fieldLink RX6 26 "SongsAgain" "now" "LSongsAgain$Past;", Cond.methodLink RX6 136 yX5_increase, Cond.instanceMethod yX5_increase, Cond.selects RX5 yX5_increase yX5_increase, Cond.initialized RX5, Cond.code yX5_increase cX5_increase 2 none, Cond.methodLink RX5 19 yX5_at, Cond.instanceMethod yX5_at, Cond.selects RX5 yX5_at yX5_at, Cond.code yX5_at cX5_at 2 (some .int), Cond.fieldLink RX5 13 "SongsAgain$Row" "cells" "[I", Cond.methodLink RX5 23 yX5_put, Cond.instanceMethod yX5_put, Cond.selects RX5 yX5_put yX5_put, Cond.code yX5_put cX5_put 3 none, Cond.methodLink RX6 150 yX6_weight, Cond.instanceMethod yX6_weight, Cond.selects RX6 yX6_weight yX6_weight, Cond.initialized RX6, Cond.code yX6_weight cX6_weight 2 (some .int), Cond.fieldLink RX6 19 "SongsAgain" "book" "LSongsAgain$Book;", Cond.methodLink RX6 253 Lib.Math.max.name, Cond.static Lib.Math.max.name, Cond.initialized "java/lang/Math"]
def wsX6_skip_r2 : List Cond := [Cond.code Lib.Math.max.name Lib.Math.max.code 2 (some .int), Cond.methodLink RX6 216 yX5_at]
def wsX6_skip : List Cond := .code yX6_skip cX6_skip 1 (some .int) :: ((wsX6_skip_r1 ++ wsX6_skip_r2) ++ wsX60 ++ wsX40 ++ wsX50 ++ wsX00)
def wsX6_sumTwice_r1 : List Cond := [Cond.fieldLink RX6 19 "SongsAgain" "book" "LSongsAgain$Book;", Cond.fieldLink RX6 26 "SongsAgain" "now" "LSongsAgain$Past;", Cond.fieldLink RX6 36 "SongsAgain" "sum" "LSongsAgain$Fraction;", Cond.methodLink RX6 222 yX0_mayCome, Cond.instanceMethod yX0_mayCome, Cond.selects RX0 yX0_mayCome yX0_mayCome, Cond.initialized RX0, Cond.code yX0_mayCome cX0_mayCome 8 (some .int), Cond.methodLink RX0 60 yX0_all, Cond.instanceMethod yX0_all, Cond.selects RX0 yX0_all yX0_all, Cond.code yX0_all cX0_all 1 (some .int), Cond.fieldLink RX0 29 "SongsAgain$Book" "number" "I", Cond.methodLink RX0 63 yX0_mayFollow, Cond.instanceMethod yX0_mayFollow, Cond.selects RX0 yX0_mayFollow yX0_mayFollow, Cond.code yX0_mayFollow cX0_mayFollow 4 (some .int), Cond.fieldLink RX0 20 "SongsAgain$Book" "singers" "LSongsAgain$Row;", Cond.fieldLink RX0 14 "SongsAgain$Book" "kinds" "LSongsAgain$Row;", Cond.methodLink RX0 53 yX5_at, Cond.instanceMethod yX5_at, Cond.selects RX5 yX5_at yX5_at, Cond.initialized RX5, Cond.code yX5_at cX5_at 2 (some .int)]
def wsX6_sumTwice_r2 : List Cond := [Cond.fieldLink RX5 13 "SongsAgain$Row" "cells" "[I", Cond.methodLink RX6 238 yX6_weightTogether, Cond.instanceMethod yX6_weightTogether, Cond.selects RX6 yX6_weightTogether yX6_weightTogether, Cond.initialized RX6, Cond.code yX6_weightTogether cX6_weightTogether 4 (some .int), Cond.methodLink RX6 117 yX6_holds, Cond.static yX6_holds, Cond.code yX6_holds cX6_holds 2 (some .boolean), Cond.methodLink RX6 150 yX6_weight, Cond.instanceMethod yX6_weight, Cond.selects RX6 yX6_weight yX6_weight, Cond.code yX6_weight cX6_weight 2 (some .int), Cond.methodLink RX6 253 Lib.Math.max.name, Cond.static Lib.Math.max.name, Cond.initialized "java/lang/Math", Cond.code Lib.Math.max.name Lib.Math.max.code 2 (some .int), Cond.methodLink RX6 216 yX5_at, Cond.methodLink RX6 244 yX6_allShares, Cond.static yX6_allShares, Cond.code yX6_allShares cX6_allShares 2 (some .int), Cond.methodLink RX6 141 yJ6_bitCount_0f7a4, Cond.static yJ6_bitCount_0f7a4, Cond.initialized RJ6]
def wsX6_sumTwice_r3 : List Cond := [Cond.code yJ6_bitCount_0f7a4 cJ6_bitCount_0f7a4 1 (some .int), Cond.constant RJ6 265 (1431655765), Cond.constant RJ6 266 (858993459), Cond.constant RJ6 267 (252645135), Cond.methodLink RX6 241 yX6_share, Cond.instanceMethod yX6_share, Cond.selects RX6 yX6_share yX6_share, Cond.code yX6_share cX6_share 4 (some .int), Cond.methodLink RX6 262 yX1_add, Cond.instanceMethod yX1_add, Cond.selects RX1 yX1_add yX1_add, Cond.initialized RX1, Cond.code yX1_add cX1_add 9 none, Cond.fieldLink RX1 13 "SongsAgain$Fraction" "below" "J", Cond.fieldLink RX1 7 "SongsAgain$Fraction" "above" "J", Cond.methodLink RX1 16 yX1_commonDivisor, Cond.static yX1_commonDivisor, Cond.code yX1_commonDivisor cX1_commonDivisor 11 (some .long), Cond.methodLink RX1 20 yX1_become, Cond.instanceMethod yX1_become, Cond.selects RX1 yX1_become yX1_become, Cond.code yX1_become cX1_become 7 none, Cond.methodLink RX6 123 yX0_bagAfter, Cond.instanceMethod yX0_bagAfter]
def wsX6_sumTwice_r4 : List Cond := [Cond.selects RX0 yX0_bagAfter yX0_bagAfter, Cond.code yX0_bagAfter cX0_bagAfter 4 (some .int), Cond.methodLink RX6 258 yX6_sumTwice, Cond.static yX6_sumTwice]
def wsX6_sumTwice : List Cond := .code yX6_sumTwice cX6_sumTwice 17 none :: ((wsX6_sumTwice_r1 ++ (wsX6_sumTwice_r2 ++ (wsX6_sumTwice_r3 ++ wsX6_sumTwice_r4))) ++ wsX60 ++ wsX40 ++ wsX00 ++ wsX50 ++ wsX10)
def wsX6_reckonTwice_r1 : List Cond := [Cond.fieldLink RX6 36 "SongsAgain" "sum" "LSongsAgain$Fraction;", Cond.fieldLink RX6 26 "SongsAgain" "now" "LSongsAgain$Past;", Cond.methodLink RX6 247 yX1_become, Cond.instanceMethod yX1_become, Cond.selects RX1 yX1_become yX1_become, Cond.initialized RX1, Cond.code yX1_become cX1_become 7 none, Cond.fieldLink RX1 7 "SongsAgain$Fraction" "above" "J", Cond.fieldLink RX1 13 "SongsAgain$Fraction" "below" "J", Cond.methodLink RX1 16 yX1_commonDivisor, Cond.static yX1_commonDivisor, Cond.code yX1_commonDivisor cX1_commonDivisor 11 (some .long), Cond.methodLink RX6 258 yX6_sumTwice, Cond.static yX6_sumTwice, Cond.initialized RX6, Cond.code yX6_sumTwice cX6_sumTwice 17 none, Cond.fieldLink RX6 19 "SongsAgain" "book" "LSongsAgain$Book;", Cond.methodLink RX6 222 yX0_mayCome, Cond.instanceMethod yX0_mayCome, Cond.selects RX0 yX0_mayCome yX0_mayCome, Cond.initialized RX0, Cond.code yX0_mayCome cX0_mayCome 8 (some .int), Cond.methodLink RX0 60 yX0_all, Cond.instanceMethod yX0_all]
def wsX6_reckonTwice_r2 : List Cond := [Cond.selects RX0 yX0_all yX0_all, Cond.code yX0_all cX0_all 1 (some .int), Cond.fieldLink RX0 29 "SongsAgain$Book" "number" "I", Cond.methodLink RX0 63 yX0_mayFollow, Cond.instanceMethod yX0_mayFollow, Cond.selects RX0 yX0_mayFollow yX0_mayFollow, Cond.code yX0_mayFollow cX0_mayFollow 4 (some .int), Cond.fieldLink RX0 20 "SongsAgain$Book" "singers" "LSongsAgain$Row;", Cond.fieldLink RX0 14 "SongsAgain$Book" "kinds" "LSongsAgain$Row;", Cond.methodLink RX0 53 yX5_at, Cond.instanceMethod yX5_at, Cond.selects RX5 yX5_at yX5_at, Cond.initialized RX5, Cond.code yX5_at cX5_at 2 (some .int), Cond.fieldLink RX5 13 "SongsAgain$Row" "cells" "[I", Cond.methodLink RX6 238 yX6_weightTogether, Cond.instanceMethod yX6_weightTogether, Cond.selects RX6 yX6_weightTogether yX6_weightTogether, Cond.code yX6_weightTogether cX6_weightTogether 4 (some .int), Cond.methodLink RX6 117 yX6_holds, Cond.static yX6_holds, Cond.code yX6_holds cX6_holds 2 (some .boolean), Cond.methodLink RX6 150 yX6_weight, Cond.instanceMethod yX6_weight]
def wsX6_reckonTwice_r3 : List Cond := [Cond.selects RX6 yX6_weight yX6_weight, Cond.code yX6_weight cX6_weight 2 (some .int), Cond.methodLink RX6 253 Lib.Math.max.name, Cond.static Lib.Math.max.name, Cond.initialized "java/lang/Math", Cond.code Lib.Math.max.name Lib.Math.max.code 2 (some .int), Cond.methodLink RX6 216 yX5_at, Cond.methodLink RX6 244 yX6_allShares, Cond.static yX6_allShares, Cond.code yX6_allShares cX6_allShares 2 (some .int), Cond.methodLink RX6 141 yJ6_bitCount_0f7a4, Cond.static yJ6_bitCount_0f7a4, Cond.initialized RJ6, Cond.code yJ6_bitCount_0f7a4 cJ6_bitCount_0f7a4 1 (some .int), Cond.constant RJ6 265 (1431655765), Cond.constant RJ6 266 (858993459), Cond.constant RJ6 267 (252645135), Cond.methodLink RX6 241 yX6_share, Cond.instanceMethod yX6_share, Cond.selects RX6 yX6_share yX6_share, Cond.code yX6_share cX6_share 4 (some .int), Cond.methodLink RX6 262 yX1_add, Cond.instanceMethod yX1_add, Cond.selects RX1 yX1_add yX1_add]
def wsX6_reckonTwice_r4 : List Cond := [Cond.code yX1_add cX1_add 9 none, Cond.methodLink RX1 20 yX1_become, Cond.methodLink RX6 123 yX0_bagAfter, Cond.instanceMethod yX0_bagAfter, Cond.selects RX0 yX0_bagAfter yX0_bagAfter, Cond.code yX0_bagAfter cX0_bagAfter 4 (some .int)]
def wsX6_reckonTwice : List Cond := .code yX6_reckonTwice cX6_reckonTwice 2 none :: ((wsX6_reckonTwice_r1 ++ (wsX6_reckonTwice_r2 ++ (wsX6_reckonTwice_r3 ++ wsX6_reckonTwice_r4))) ++ wsX60 ++ wsX40 ++ wsX10 ++ wsX00 ++ wsX50)
def wsX6_twice_r1 : List Cond := [Cond.constantLong RX6 153 (-102), Cond.constantLong RX6 155 (-103), Cond.fieldLink RX6 36 "SongsAgain" "sum" "LSongsAgain$Fraction;", Cond.methodLink RX6 108 yX6_noPlayer, Cond.instanceMethod yX6_noPlayer, Cond.selects RX6 yX6_noPlayer yX6_noPlayer, Cond.initialized RX6, Cond.code yX6_noPlayer cX6_noPlayer 1 (some .boolean), Cond.fieldLink RX6 19 "SongsAgain" "book" "LSongsAgain$Book;", Cond.methodLink RX6 157 yX6_reckonTwice, Cond.instanceMethod yX6_reckonTwice, Cond.selects RX6 yX6_reckonTwice yX6_reckonTwice, Cond.code yX6_reckonTwice cX6_reckonTwice 2 none, Cond.fieldLink RX6 26 "SongsAgain" "now" "LSongsAgain$Past;", Cond.methodLink RX6 247 yX1_become, Cond.instanceMethod yX1_become, Cond.selects RX1 yX1_become yX1_become, Cond.initialized RX1, Cond.code yX1_become cX1_become 7 none, Cond.fieldLink RX1 7 "SongsAgain$Fraction" "above" "J", Cond.fieldLink RX1 13 "SongsAgain$Fraction" "below" "J", Cond.methodLink RX1 16 yX1_commonDivisor, Cond.static yX1_commonDivisor, Cond.code yX1_commonDivisor cX1_commonDivisor 11 (some .long)]
def wsX6_twice_r2 : List Cond := [Cond.methodLink RX6 258 yX6_sumTwice, Cond.static yX6_sumTwice, Cond.code yX6_sumTwice cX6_sumTwice 17 none, Cond.methodLink RX6 222 yX0_mayCome, Cond.instanceMethod yX0_mayCome, Cond.selects RX0 yX0_mayCome yX0_mayCome, Cond.initialized RX0, Cond.code yX0_mayCome cX0_mayCome 8 (some .int), Cond.methodLink RX0 60 yX0_all, Cond.instanceMethod yX0_all, Cond.selects RX0 yX0_all yX0_all, Cond.code yX0_all cX0_all 1 (some .int), Cond.fieldLink RX0 29 "SongsAgain$Book" "number" "I", Cond.methodLink RX0 63 yX0_mayFollow, Cond.instanceMethod yX0_mayFollow, Cond.selects RX0 yX0_mayFollow yX0_mayFollow, Cond.code yX0_mayFollow cX0_mayFollow 4 (some .int), Cond.fieldLink RX0 20 "SongsAgain$Book" "singers" "LSongsAgain$Row;", Cond.fieldLink RX0 14 "SongsAgain$Book" "kinds" "LSongsAgain$Row;", Cond.methodLink RX0 53 yX5_at, Cond.instanceMethod yX5_at, Cond.selects RX5 yX5_at yX5_at, Cond.initialized RX5, Cond.code yX5_at cX5_at 2 (some .int)]
def wsX6_twice_r3 : List Cond := [Cond.fieldLink RX5 13 "SongsAgain$Row" "cells" "[I", Cond.methodLink RX6 238 yX6_weightTogether, Cond.instanceMethod yX6_weightTogether, Cond.selects RX6 yX6_weightTogether yX6_weightTogether, Cond.code yX6_weightTogether cX6_weightTogether 4 (some .int), Cond.methodLink RX6 117 yX6_holds, Cond.static yX6_holds, Cond.code yX6_holds cX6_holds 2 (some .boolean), Cond.methodLink RX6 150 yX6_weight, Cond.instanceMethod yX6_weight, Cond.selects RX6 yX6_weight yX6_weight, Cond.code yX6_weight cX6_weight 2 (some .int), Cond.methodLink RX6 253 Lib.Math.max.name, Cond.static Lib.Math.max.name, Cond.initialized "java/lang/Math", Cond.code Lib.Math.max.name Lib.Math.max.code 2 (some .int), Cond.methodLink RX6 216 yX5_at, Cond.methodLink RX6 244 yX6_allShares, Cond.static yX6_allShares, Cond.code yX6_allShares cX6_allShares 2 (some .int), Cond.methodLink RX6 141 yJ6_bitCount_0f7a4, Cond.static yJ6_bitCount_0f7a4, Cond.initialized RJ6, Cond.code yJ6_bitCount_0f7a4 cJ6_bitCount_0f7a4 1 (some .int)]
def wsX6_twice_r4 : List Cond := [Cond.constant RJ6 265 (1431655765), Cond.constant RJ6 266 (858993459), Cond.constant RJ6 267 (252645135), Cond.methodLink RX6 241 yX6_share, Cond.instanceMethod yX6_share, Cond.selects RX6 yX6_share yX6_share, Cond.code yX6_share cX6_share 4 (some .int), Cond.methodLink RX6 262 yX1_add, Cond.instanceMethod yX1_add, Cond.selects RX1 yX1_add yX1_add, Cond.code yX1_add cX1_add 9 none, Cond.methodLink RX1 20 yX1_become, Cond.methodLink RX6 123 yX0_bagAfter, Cond.instanceMethod yX0_bagAfter, Cond.selects RX0 yX0_bagAfter yX0_bagAfter, Cond.code yX0_bagAfter cX0_bagAfter 4 (some .int)]
def wsX6_twice : List Cond := .code yX6_twice cX6_twice 3 (some .long) :: ((wsX6_twice_r1 ++ (wsX6_twice_r2 ++ (wsX6_twice_r3 ++ wsX6_twice_r4))) ++ wsX60 ++ wsX10 ++ wsX00 ++ wsX40 ++ wsX50)
def wsX6_party_r1 : List Cond := [Cond.fieldLink RX6 19 "SongsAgain" "book" "LSongsAgain$Book;", Cond.fieldLink RX6 49 "SongsAgain" "orders" "LSongsAgain$Orders;", Cond.methodLink RX6 86 yX0_all, Cond.instanceMethod yX0_all, Cond.selects RX0 yX0_all yX0_all, Cond.initialized RX0, Cond.code yX0_all cX0_all 1 (some .int), Cond.fieldLink RX0 29 "SongsAgain$Book" "number" "I", Cond.methodLink RX6 108 yX6_noPlayer, Cond.instanceMethod yX6_noPlayer, Cond.selects RX6 yX6_noPlayer yX6_noPlayer, Cond.initialized RX6, Cond.code yX6_noPlayer cX6_noPlayer 1 (some .boolean), Cond.methodLink RX6 167 yX2_findAll, Cond.instanceMethod yX2_findAll, Cond.selects RX2 yX2_findAll yX2_findAll, Cond.initialized RX2, Cond.code yX2_findAll cX2_findAll 3 none, Cond.fieldLink RX2 27 "SongsAgain$Orders" "number" "I", Cond.fieldLink RX2 23 "SongsAgain$Orders" "firstLength" "I", Cond.methodLink RX2 30 yX2_goOn, Cond.static yX2_goOn, Cond.code yX2_goOn cX2_goOn 5 none, Cond.fieldLink RX2 14 "SongsAgain$Orders" "way" "LSongsAgain$Row;"]
def wsX6_party_r2 : List Cond := [Cond.methodLink RX2 34 yX2_take, Cond.instanceMethod yX2_take, Cond.selects RX2 yX2_take yX2_take, Cond.code yX2_take cX2_take 2 none, Cond.fieldLink RX2 20 "SongsAgain$Orders" "first" "LSongsAgain$Row;", Cond.methodLink RX2 59 yX5_become, Cond.instanceMethod yX5_become, Cond.selects RX5 yX5_become yX5_become, Cond.initialized RX5, Cond.code yX5_become cX5_become 3 none, Cond.fieldLink RX5 13 "SongsAgain$Row" "cells" "[I", Cond.methodLink RX5 19 yX5_at, Cond.instanceMethod yX5_at, Cond.selects RX5 yX5_at yX5_at, Cond.code yX5_at cX5_at 2 (some .int), Cond.static yX6_holds, Cond.code yX6_holds cX6_holds 2 (some .boolean), Cond.methodLink RX2 44 yX5_at, Cond.methodLink RX2 48 yX2_unlikeSingers, Cond.static yX2_unlikeSingers, Cond.code yX2_unlikeSingers cX2_unlikeSingers 3 (some .boolean), Cond.methodLink RX2 52 yX5_put, Cond.instanceMethod yX5_put, Cond.selects RX5 yX5_put yX5_put]
def wsX6_party_r3 : List Cond := [Cond.code yX5_put cX5_put 3 none, Cond.methodLink RX6 171 yX2_fact, Cond.instanceMethod yX2_fact, Cond.selects RX2 yX2_fact yX2_fact, Cond.code yX2_fact cX2_fact 3 (some .int)]
def wsX6_party : List Cond := .code yX6_party cX6_party 3 (some .int) :: ((wsX6_party_r1 ++ (wsX6_party_r2 ++ wsX6_party_r3)) ++ wsX60 ++ wsX00 ++ wsX20 ++ wsX50)
def wsX6_hear : List Cond := .code yX6_hear cX6_hear 2 (some .int) :: ([.fieldLink RX6 19 "SongsAgain" "book" "LSongsAgain$Book;", .fieldLink RX6 26 "SongsAgain" "now" "LSongsAgain$Past;", .methodLink RX6 96 yX0_has, .instanceMethod yX0_has, .selects RX0 yX0_has yX0_has, .initialized RX0, .code yX0_has cX0_has 2 (some .boolean), .fieldLink RX0 29 "SongsAgain$Book" "number" "I", .methodLink RX6 180 yX5_put, .instanceMethod yX5_put, .selects RX5 yX5_put yX5_put, .initialized RX5, .code yX5_put cX5_put 3 none, .fieldLink RX5 13 "SongsAgain$Row" "cells" "[I"] ++ wsX60 ++ wsX40 ++ wsX00 ++ wsX50)
def wsX6_forget : List Cond := .code yX6_forget cX6_forget 2 (some .int) :: ([.fieldLink RX6 26 "SongsAgain" "now" "LSongsAgain$Past;"] ++ wsX60 ++ wsX40)
def wsX6_reckonHeard_r1 : List Cond := [Cond.fieldLink RX6 19 "SongsAgain" "book" "LSongsAgain$Book;", Cond.fieldLink RX6 40 "SongsAgain" "chance" "LSongsAgain$Fraction;", Cond.fieldLink RX6 26 "SongsAgain" "now" "LSongsAgain$Past;", Cond.methodLink RX6 86 yX0_all, Cond.instanceMethod yX0_all, Cond.selects RX0 yX0_all yX0_all, Cond.initialized RX0, Cond.code yX0_all cX0_all 1 (some .int), Cond.fieldLink RX0 29 "SongsAgain$Book" "number" "I", Cond.methodLink RX6 247 yX1_become, Cond.instanceMethod yX1_become, Cond.selects RX1 yX1_become yX1_become, Cond.initialized RX1, Cond.code yX1_become cX1_become 7 none, Cond.fieldLink RX1 7 "SongsAgain$Fraction" "above" "J", Cond.fieldLink RX1 13 "SongsAgain$Fraction" "below" "J", Cond.methodLink RX1 16 yX1_commonDivisor, Cond.static yX1_commonDivisor, Cond.code yX1_commonDivisor cX1_commonDivisor 11 (some .long), Cond.methodLink RX6 216 yX5_at, Cond.instanceMethod yX5_at, Cond.selects RX5 yX5_at yX5_at, Cond.initialized RX5, Cond.code yX5_at cX5_at 2 (some .int)]
def wsX6_reckonHeard_r2 : List Cond := [Cond.fieldLink RX5 13 "SongsAgain$Row" "cells" "[I", Cond.methodLink RX6 222 yX0_mayCome, Cond.instanceMethod yX0_mayCome, Cond.selects RX0 yX0_mayCome yX0_mayCome, Cond.code yX0_mayCome cX0_mayCome 8 (some .int), Cond.methodLink RX0 60 yX0_all, Cond.methodLink RX0 63 yX0_mayFollow, Cond.instanceMethod yX0_mayFollow, Cond.selects RX0 yX0_mayFollow yX0_mayFollow, Cond.code yX0_mayFollow cX0_mayFollow 4 (some .int), Cond.fieldLink RX0 20 "SongsAgain$Book" "singers" "LSongsAgain$Row;", Cond.fieldLink RX0 14 "SongsAgain$Book" "kinds" "LSongsAgain$Row;", Cond.methodLink RX0 53 yX5_at, Cond.methodLink RX6 117 yX6_holds, Cond.static yX6_holds, Cond.initialized RX6, Cond.code yX6_holds cX6_holds 2 (some .boolean), Cond.methodLink RX6 272 yX0_weightTogether, Cond.instanceMethod yX0_weightTogether, Cond.selects RX0 yX0_weightTogether yX0_weightTogether, Cond.code yX0_weightTogether cX0_weightTogether 4 (some .int), Cond.fieldLink RX0 23 "SongsAgain$Book" "weights" "LSongsAgain$Row;", Cond.methodLink RX6 273 yX1_multiply, Cond.instanceMethod yX1_multiply]
def wsX6_reckonHeard_r3 : List Cond := [Cond.selects RX1 yX1_multiply yX1_multiply, Cond.code yX1_multiply cX1_multiply 5 none, Cond.methodLink RX1 20 yX1_become, Cond.methodLink RX6 123 yX0_bagAfter, Cond.instanceMethod yX0_bagAfter, Cond.selects RX0 yX0_bagAfter yX0_bagAfter, Cond.code yX0_bagAfter cX0_bagAfter 4 (some .int)]
def wsX6_reckonHeard : List Cond := .code yX6_reckonHeard cX6_reckonHeard 7 none :: ((wsX6_reckonHeard_r1 ++ (wsX6_reckonHeard_r2 ++ wsX6_reckonHeard_r3)) ++ wsX60 ++ wsX40 ++ wsX00 ++ wsX10 ++ wsX50)
def wsX6_possibleRules_r1 : List Cond := [Cond.fieldLink RX6 40 "SongsAgain" "chance" "LSongsAgain$Fraction;", Cond.methodLink RX6 265 yX6_reckonHeard, Cond.instanceMethod yX6_reckonHeard, Cond.selects RX6 yX6_reckonHeard yX6_reckonHeard, Cond.initialized RX6, Cond.code yX6_reckonHeard cX6_reckonHeard 7 none, Cond.fieldLink RX6 19 "SongsAgain" "book" "LSongsAgain$Book;", Cond.fieldLink RX6 26 "SongsAgain" "now" "LSongsAgain$Past;", Cond.methodLink RX6 86 yX0_all, Cond.instanceMethod yX0_all, Cond.selects RX0 yX0_all yX0_all, Cond.initialized RX0, Cond.code yX0_all cX0_all 1 (some .int), Cond.fieldLink RX0 29 "SongsAgain$Book" "number" "I", Cond.methodLink RX6 247 yX1_become, Cond.instanceMethod yX1_become, Cond.selects RX1 yX1_become yX1_become, Cond.initialized RX1, Cond.code yX1_become cX1_become 7 none, Cond.fieldLink RX1 7 "SongsAgain$Fraction" "above" "J", Cond.fieldLink RX1 13 "SongsAgain$Fraction" "below" "J", Cond.methodLink RX1 16 yX1_commonDivisor, Cond.static yX1_commonDivisor, Cond.code yX1_commonDivisor cX1_commonDivisor 11 (some .long)]
def wsX6_possibleRules_r2 : List Cond := [Cond.methodLink RX6 216 yX5_at, Cond.instanceMethod yX5_at, Cond.selects RX5 yX5_at yX5_at, Cond.initialized RX5, Cond.code yX5_at cX5_at 2 (some .int), Cond.fieldLink RX5 13 "SongsAgain$Row" "cells" "[I", Cond.methodLink RX6 222 yX0_mayCome, Cond.instanceMethod yX0_mayCome, Cond.selects RX0 yX0_mayCome yX0_mayCome, Cond.code yX0_mayCome cX0_mayCome 8 (some .int), Cond.methodLink RX0 60 yX0_all, Cond.methodLink RX0 63 yX0_mayFollow, Cond.instanceMethod yX0_mayFollow, Cond.selects RX0 yX0_mayFollow yX0_mayFollow, Cond.code yX0_mayFollow cX0_mayFollow 4 (some .int), Cond.fieldLink RX0 20 "SongsAgain$Book" "singers" "LSongsAgain$Row;", Cond.fieldLink RX0 14 "SongsAgain$Book" "kinds" "LSongsAgain$Row;", Cond.methodLink RX0 53 yX5_at, Cond.methodLink RX6 117 yX6_holds, Cond.static yX6_holds, Cond.code yX6_holds cX6_holds 2 (some .boolean), Cond.methodLink RX6 272 yX0_weightTogether, Cond.instanceMethod yX0_weightTogether, Cond.selects RX0 yX0_weightTogether yX0_weightTogether]
def wsX6_possibleRules_r3 : List Cond := [Cond.code yX0_weightTogether cX0_weightTogether 4 (some .int), Cond.fieldLink RX0 23 "SongsAgain$Book" "weights" "LSongsAgain$Row;", Cond.methodLink RX6 273 yX1_multiply, Cond.instanceMethod yX1_multiply, Cond.selects RX1 yX1_multiply yX1_multiply, Cond.code yX1_multiply cX1_multiply 5 none, Cond.methodLink RX1 20 yX1_become, Cond.methodLink RX6 123 yX0_bagAfter, Cond.instanceMethod yX0_bagAfter, Cond.selects RX0 yX0_bagAfter yX0_bagAfter, Cond.code yX0_bagAfter cX0_bagAfter 4 (some .int)]
def wsX6_possibleRules : List Cond := .code yX6_possibleRules cX6_possibleRules 3 (some .int) :: ((wsX6_possibleRules_r1 ++ (wsX6_possibleRules_r2 ++ wsX6_possibleRules_r3)) ++ wsX60 ++ wsX10 ++ wsX40 ++ wsX00 ++ wsX50)
def wsX6_rules_r1 : List Cond := [Cond.methodLink RX6 108 yX6_noPlayer, Cond.instanceMethod yX6_noPlayer, Cond.selects RX6 yX6_noPlayer yX6_noPlayer, Cond.initialized RX6, Cond.code yX6_noPlayer cX6_noPlayer 1 (some .boolean), Cond.fieldLink RX6 19 "SongsAgain" "book" "LSongsAgain$Book;", Cond.methodLink RX6 183 yX6_possibleRules, Cond.instanceMethod yX6_possibleRules, Cond.selects RX6 yX6_possibleRules yX6_possibleRules, Cond.code yX6_possibleRules cX6_possibleRules 3 (some .int), Cond.fieldLink RX6 40 "SongsAgain" "chance" "LSongsAgain$Fraction;", Cond.methodLink RX6 265 yX6_reckonHeard, Cond.instanceMethod yX6_reckonHeard, Cond.selects RX6 yX6_reckonHeard yX6_reckonHeard, Cond.code yX6_reckonHeard cX6_reckonHeard 7 none, Cond.fieldLink RX6 26 "SongsAgain" "now" "LSongsAgain$Past;", Cond.methodLink RX6 86 yX0_all, Cond.instanceMethod yX0_all, Cond.selects RX0 yX0_all yX0_all, Cond.initialized RX0, Cond.code yX0_all cX0_all 1 (some .int), Cond.fieldLink RX0 29 "SongsAgain$Book" "number" "I", Cond.methodLink RX6 247 yX1_become, Cond.instanceMethod yX1_become]
def wsX6_rules_r2 : List Cond := [Cond.selects RX1 yX1_become yX1_become, Cond.initialized RX1, Cond.code yX1_become cX1_become 7 none, Cond.fieldLink RX1 7 "SongsAgain$Fraction" "above" "J", Cond.fieldLink RX1 13 "SongsAgain$Fraction" "below" "J", Cond.methodLink RX1 16 yX1_commonDivisor, Cond.static yX1_commonDivisor, Cond.code yX1_commonDivisor cX1_commonDivisor 11 (some .long), Cond.methodLink RX6 216 yX5_at, Cond.instanceMethod yX5_at, Cond.selects RX5 yX5_at yX5_at, Cond.initialized RX5, Cond.code yX5_at cX5_at 2 (some .int), Cond.fieldLink RX5 13 "SongsAgain$Row" "cells" "[I", Cond.methodLink RX6 222 yX0_mayCome, Cond.instanceMethod yX0_mayCome, Cond.selects RX0 yX0_mayCome yX0_mayCome, Cond.code yX0_mayCome cX0_mayCome 8 (some .int), Cond.methodLink RX0 60 yX0_all, Cond.methodLink RX0 63 yX0_mayFollow, Cond.instanceMethod yX0_mayFollow, Cond.selects RX0 yX0_mayFollow yX0_mayFollow, Cond.code yX0_mayFollow cX0_mayFollow 4 (some .int), Cond.fieldLink RX0 20 "SongsAgain$Book" "singers" "LSongsAgain$Row;"]
def wsX6_rules_r3 : List Cond := [Cond.fieldLink RX0 14 "SongsAgain$Book" "kinds" "LSongsAgain$Row;", Cond.methodLink RX0 53 yX5_at, Cond.methodLink RX6 117 yX6_holds, Cond.static yX6_holds, Cond.code yX6_holds cX6_holds 2 (some .boolean), Cond.methodLink RX6 272 yX0_weightTogether, Cond.instanceMethod yX0_weightTogether, Cond.selects RX0 yX0_weightTogether yX0_weightTogether, Cond.code yX0_weightTogether cX0_weightTogether 4 (some .int), Cond.fieldLink RX0 23 "SongsAgain$Book" "weights" "LSongsAgain$Row;", Cond.methodLink RX6 273 yX1_multiply, Cond.instanceMethod yX1_multiply, Cond.selects RX1 yX1_multiply yX1_multiply, Cond.code yX1_multiply cX1_multiply 5 none, Cond.methodLink RX1 20 yX1_become, Cond.methodLink RX6 123 yX0_bagAfter, Cond.instanceMethod yX0_bagAfter, Cond.selects RX0 yX0_bagAfter yX0_bagAfter, Cond.code yX0_bagAfter cX0_bagAfter 4 (some .int)]
def wsX6_rules : List Cond := .code yX6_rules cX6_rules 1 (some .int) :: ((wsX6_rules_r1 ++ (wsX6_rules_r2 ++ wsX6_rules_r3)) ++ wsX60 ++ wsX00 ++ wsX10 ++ wsX40 ++ wsX50)
def wsX6_likeliestRule_r1 : List Cond := [Cond.fieldLink RX6 43 "SongsAgain" "best" "LSongsAgain$Fraction;", Cond.fieldLink RX6 40 "SongsAgain" "chance" "LSongsAgain$Fraction;", Cond.methodLink RX6 247 yX1_become, Cond.instanceMethod yX1_become, Cond.selects RX1 yX1_become yX1_become, Cond.initialized RX1, Cond.code yX1_become cX1_become 7 none, Cond.fieldLink RX1 7 "SongsAgain$Fraction" "above" "J", Cond.fieldLink RX1 13 "SongsAgain$Fraction" "below" "J", Cond.methodLink RX1 16 yX1_commonDivisor, Cond.static yX1_commonDivisor, Cond.code yX1_commonDivisor cX1_commonDivisor 11 (some .long), Cond.methodLink RX6 265 yX6_reckonHeard, Cond.instanceMethod yX6_reckonHeard, Cond.selects RX6 yX6_reckonHeard yX6_reckonHeard, Cond.initialized RX6, Cond.code yX6_reckonHeard cX6_reckonHeard 7 none, Cond.fieldLink RX6 19 "SongsAgain" "book" "LSongsAgain$Book;", Cond.fieldLink RX6 26 "SongsAgain" "now" "LSongsAgain$Past;", Cond.methodLink RX6 86 yX0_all, Cond.instanceMethod yX0_all, Cond.selects RX0 yX0_all yX0_all, Cond.initialized RX0, Cond.code yX0_all cX0_all 1 (some .int)]
def wsX6_likeliestRule_r2 : List Cond := [Cond.fieldLink RX0 29 "SongsAgain$Book" "number" "I", Cond.methodLink RX6 216 yX5_at, Cond.instanceMethod yX5_at, Cond.selects RX5 yX5_at yX5_at, Cond.initialized RX5, Cond.code yX5_at cX5_at 2 (some .int), Cond.fieldLink RX5 13 "SongsAgain$Row" "cells" "[I", Cond.methodLink RX6 222 yX0_mayCome, Cond.instanceMethod yX0_mayCome, Cond.selects RX0 yX0_mayCome yX0_mayCome, Cond.code yX0_mayCome cX0_mayCome 8 (some .int), Cond.methodLink RX0 60 yX0_all, Cond.methodLink RX0 63 yX0_mayFollow, Cond.instanceMethod yX0_mayFollow, Cond.selects RX0 yX0_mayFollow yX0_mayFollow, Cond.code yX0_mayFollow cX0_mayFollow 4 (some .int), Cond.fieldLink RX0 20 "SongsAgain$Book" "singers" "LSongsAgain$Row;", Cond.fieldLink RX0 14 "SongsAgain$Book" "kinds" "LSongsAgain$Row;", Cond.methodLink RX0 53 yX5_at, Cond.methodLink RX6 117 yX6_holds, Cond.static yX6_holds, Cond.code yX6_holds cX6_holds 2 (some .boolean), Cond.methodLink RX6 272 yX0_weightTogether, Cond.instanceMethod yX0_weightTogether]
def wsX6_likeliestRule_r3 : List Cond := [Cond.selects RX0 yX0_weightTogether yX0_weightTogether, Cond.code yX0_weightTogether cX0_weightTogether 4 (some .int), Cond.fieldLink RX0 23 "SongsAgain$Book" "weights" "LSongsAgain$Row;", Cond.methodLink RX6 273 yX1_multiply, Cond.instanceMethod yX1_multiply, Cond.selects RX1 yX1_multiply yX1_multiply, Cond.code yX1_multiply cX1_multiply 5 none, Cond.methodLink RX1 20 yX1_become, Cond.methodLink RX6 123 yX0_bagAfter, Cond.instanceMethod yX0_bagAfter, Cond.selects RX0 yX0_bagAfter yX0_bagAfter, Cond.code yX0_bagAfter cX0_bagAfter 4 (some .int), Cond.methodLink RX6 268 yX1_isMoreThan, Cond.instanceMethod yX1_isMoreThan, Cond.selects RX1 yX1_isMoreThan yX1_isMoreThan, Cond.code yX1_isMoreThan cX1_isMoreThan 2 (some .boolean)]
def wsX6_likeliestRule : List Cond := .code yX6_likeliestRule cX6_likeliestRule 3 (some .int) :: ((wsX6_likeliestRule_r1 ++ (wsX6_likeliestRule_r2 ++ wsX6_likeliestRule_r3)) ++ wsX60 ++ wsX10 ++ wsX40 ++ wsX00 ++ wsX50)
def wsX6_likely_r1 : List Cond := [Cond.methodLink RX6 108 yX6_noPlayer, Cond.instanceMethod yX6_noPlayer, Cond.selects RX6 yX6_noPlayer yX6_noPlayer, Cond.initialized RX6, Cond.code yX6_noPlayer cX6_noPlayer 1 (some .boolean), Cond.fieldLink RX6 19 "SongsAgain" "book" "LSongsAgain$Book;", Cond.methodLink RX6 186 yX6_likeliestRule, Cond.instanceMethod yX6_likeliestRule, Cond.selects RX6 yX6_likeliestRule yX6_likeliestRule, Cond.code yX6_likeliestRule cX6_likeliestRule 3 (some .int), Cond.fieldLink RX6 43 "SongsAgain" "best" "LSongsAgain$Fraction;", Cond.fieldLink RX6 40 "SongsAgain" "chance" "LSongsAgain$Fraction;", Cond.methodLink RX6 247 yX1_become, Cond.instanceMethod yX1_become, Cond.selects RX1 yX1_become yX1_become, Cond.initialized RX1, Cond.code yX1_become cX1_become 7 none, Cond.fieldLink RX1 7 "SongsAgain$Fraction" "above" "J", Cond.fieldLink RX1 13 "SongsAgain$Fraction" "below" "J", Cond.methodLink RX1 16 yX1_commonDivisor, Cond.static yX1_commonDivisor, Cond.code yX1_commonDivisor cX1_commonDivisor 11 (some .long), Cond.methodLink RX6 265 yX6_reckonHeard, Cond.instanceMethod yX6_reckonHeard]
def wsX6_likely_r2 : List Cond := [Cond.selects RX6 yX6_reckonHeard yX6_reckonHeard, Cond.code yX6_reckonHeard cX6_reckonHeard 7 none, Cond.fieldLink RX6 26 "SongsAgain" "now" "LSongsAgain$Past;", Cond.methodLink RX6 86 yX0_all, Cond.instanceMethod yX0_all, Cond.selects RX0 yX0_all yX0_all, Cond.initialized RX0, Cond.code yX0_all cX0_all 1 (some .int), Cond.fieldLink RX0 29 "SongsAgain$Book" "number" "I", Cond.methodLink RX6 216 yX5_at, Cond.instanceMethod yX5_at, Cond.selects RX5 yX5_at yX5_at, Cond.initialized RX5, Cond.code yX5_at cX5_at 2 (some .int), Cond.fieldLink RX5 13 "SongsAgain$Row" "cells" "[I", Cond.methodLink RX6 222 yX0_mayCome, Cond.instanceMethod yX0_mayCome, Cond.selects RX0 yX0_mayCome yX0_mayCome, Cond.code yX0_mayCome cX0_mayCome 8 (some .int), Cond.methodLink RX0 60 yX0_all, Cond.methodLink RX0 63 yX0_mayFollow, Cond.instanceMethod yX0_mayFollow, Cond.selects RX0 yX0_mayFollow yX0_mayFollow, Cond.code yX0_mayFollow cX0_mayFollow 4 (some .int)]
def wsX6_likely_r3 : List Cond := [Cond.fieldLink RX0 20 "SongsAgain$Book" "singers" "LSongsAgain$Row;", Cond.fieldLink RX0 14 "SongsAgain$Book" "kinds" "LSongsAgain$Row;", Cond.methodLink RX0 53 yX5_at, Cond.methodLink RX6 117 yX6_holds, Cond.static yX6_holds, Cond.code yX6_holds cX6_holds 2 (some .boolean), Cond.methodLink RX6 272 yX0_weightTogether, Cond.instanceMethod yX0_weightTogether, Cond.selects RX0 yX0_weightTogether yX0_weightTogether, Cond.code yX0_weightTogether cX0_weightTogether 4 (some .int), Cond.fieldLink RX0 23 "SongsAgain$Book" "weights" "LSongsAgain$Row;", Cond.methodLink RX6 273 yX1_multiply, Cond.instanceMethod yX1_multiply, Cond.selects RX1 yX1_multiply yX1_multiply, Cond.code yX1_multiply cX1_multiply 5 none, Cond.methodLink RX1 20 yX1_become, Cond.methodLink RX6 123 yX0_bagAfter, Cond.instanceMethod yX0_bagAfter, Cond.selects RX0 yX0_bagAfter yX0_bagAfter, Cond.code yX0_bagAfter cX0_bagAfter 4 (some .int), Cond.methodLink RX6 268 yX1_isMoreThan, Cond.instanceMethod yX1_isMoreThan, Cond.selects RX1 yX1_isMoreThan yX1_isMoreThan, Cond.code yX1_isMoreThan cX1_isMoreThan 2 (some .boolean)]
def wsX6_likely : List Cond := .code yX6_likely cX6_likely 1 (some .int) :: ((wsX6_likely_r1 ++ (wsX6_likely_r2 ++ wsX6_likely_r3)) ++ wsX60 ++ wsX00 ++ wsX10 ++ wsX40 ++ wsX50)
def wsX6_seedAfter : List Cond := .code yX6_seedAfter cX6_seedAfter 2 (some .long) :: ([.constantLong RX6 283 (1103515245), .constantLong RX6 285 (12345), .constantLong RX6 287 (2147483647)])
def wsX6_drawn_r1 : List Cond := [Cond.constantLong RX6 289 (65536), Cond.fieldLink RX6 19 "SongsAgain" "book" "LSongsAgain$Book;", Cond.methodLink RX6 238 yX6_weightTogether, Cond.instanceMethod yX6_weightTogether, Cond.selects RX6 yX6_weightTogether yX6_weightTogether, Cond.initialized RX6, Cond.code yX6_weightTogether cX6_weightTogether 4 (some .int), Cond.methodLink RX6 117 yX6_holds, Cond.static yX6_holds, Cond.code yX6_holds cX6_holds 2 (some .boolean), Cond.methodLink RX6 150 yX6_weight, Cond.instanceMethod yX6_weight, Cond.selects RX6 yX6_weight yX6_weight, Cond.code yX6_weight cX6_weight 2 (some .int), Cond.fieldLink RX6 26 "SongsAgain" "now" "LSongsAgain$Past;", Cond.methodLink RX6 253 Lib.Math.max.name, Cond.static Lib.Math.max.name, Cond.initialized "java/lang/Math", Cond.code Lib.Math.max.name Lib.Math.max.code 2 (some .int), Cond.methodLink RX6 216 yX5_at, Cond.instanceMethod yX5_at, Cond.selects RX5 yX5_at yX5_at, Cond.initialized RX5, Cond.code yX5_at cX5_at 2 (some .int)]
def wsX6_drawn_r2 : List Cond := [Cond.fieldLink RX5 13 "SongsAgain$Row" "cells" "[I", Cond.methodLink RX6 244 yX6_allShares, Cond.static yX6_allShares, Cond.code yX6_allShares cX6_allShares 2 (some .int), Cond.methodLink RX6 141 yJ6_bitCount_0f7a4, Cond.static yJ6_bitCount_0f7a4, Cond.initialized RJ6, Cond.code yJ6_bitCount_0f7a4 cJ6_bitCount_0f7a4 1 (some .int), Cond.constant RJ6 265 (1431655765), Cond.constant RJ6 266 (858993459), Cond.constant RJ6 267 (252645135), Cond.methodLink RX6 241 yX6_share, Cond.instanceMethod yX6_share, Cond.selects RX6 yX6_share yX6_share, Cond.code yX6_share cX6_share 4 (some .int)]
def wsX6_drawn : List Cond := .code yX6_drawn cX6_drawn 9 (some .int) :: ((wsX6_drawn_r1 ++ wsX6_drawn_r2) ++ wsX60 ++ wsX00 ++ wsX40 ++ wsX50)
def wsX6_eveningFact_r1 : List Cond := [Cond.fieldLink RX6 26 "SongsAgain" "now" "LSongsAgain$Past;", Cond.fieldLink RX6 19 "SongsAgain" "book" "LSongsAgain$Book;", Cond.methodLink RX6 276 yX6_seedAfter, Cond.static yX6_seedAfter, Cond.initialized RX6, Cond.code yX6_seedAfter cX6_seedAfter 2 (some .long), Cond.constantLong RX6 283 (1103515245), Cond.constantLong RX6 285 (12345), Cond.constantLong RX6 287 (2147483647), Cond.methodLink RX6 222 yX0_mayCome, Cond.instanceMethod yX0_mayCome, Cond.selects RX0 yX0_mayCome yX0_mayCome, Cond.initialized RX0, Cond.code yX0_mayCome cX0_mayCome 8 (some .int), Cond.methodLink RX0 60 yX0_all, Cond.instanceMethod yX0_all, Cond.selects RX0 yX0_all yX0_all, Cond.code yX0_all cX0_all 1 (some .int), Cond.fieldLink RX0 29 "SongsAgain$Book" "number" "I", Cond.methodLink RX0 63 yX0_mayFollow, Cond.instanceMethod yX0_mayFollow, Cond.selects RX0 yX0_mayFollow yX0_mayFollow, Cond.code yX0_mayFollow cX0_mayFollow 4 (some .int), Cond.fieldLink RX0 20 "SongsAgain$Book" "singers" "LSongsAgain$Row;"]
def wsX6_eveningFact_r2 : List Cond := [Cond.fieldLink RX0 14 "SongsAgain$Book" "kinds" "LSongsAgain$Row;", Cond.methodLink RX0 53 yX5_at, Cond.instanceMethod yX5_at, Cond.selects RX5 yX5_at yX5_at, Cond.initialized RX5, Cond.code yX5_at cX5_at 2 (some .int), Cond.fieldLink RX5 13 "SongsAgain$Row" "cells" "[I", Cond.methodLink RX6 279 yX6_drawn, Cond.instanceMethod yX6_drawn, Cond.selects RX6 yX6_drawn yX6_drawn, Cond.code yX6_drawn cX6_drawn 9 (some .int), Cond.constantLong RX6 289 (65536), Cond.methodLink RX6 238 yX6_weightTogether, Cond.instanceMethod yX6_weightTogether, Cond.selects RX6 yX6_weightTogether yX6_weightTogether, Cond.code yX6_weightTogether cX6_weightTogether 4 (some .int), Cond.methodLink RX6 117 yX6_holds, Cond.static yX6_holds, Cond.code yX6_holds cX6_holds 2 (some .boolean), Cond.methodLink RX6 150 yX6_weight, Cond.instanceMethod yX6_weight, Cond.selects RX6 yX6_weight yX6_weight, Cond.code yX6_weight cX6_weight 2 (some .int), Cond.methodLink RX6 253 Lib.Math.max.name]
def wsX6_eveningFact_r3 : List Cond := [Cond.static Lib.Math.max.name, Cond.initialized "java/lang/Math", Cond.code Lib.Math.max.name Lib.Math.max.code 2 (some .int), Cond.methodLink RX6 216 yX5_at, Cond.methodLink RX6 244 yX6_allShares, Cond.static yX6_allShares, Cond.code yX6_allShares cX6_allShares 2 (some .int), Cond.methodLink RX6 141 yJ6_bitCount_0f7a4, Cond.static yJ6_bitCount_0f7a4, Cond.initialized RJ6, Cond.code yJ6_bitCount_0f7a4 cJ6_bitCount_0f7a4 1 (some .int), Cond.constant RJ6 265 (1431655765), Cond.constant RJ6 266 (858993459), Cond.constant RJ6 267 (252645135), Cond.methodLink RX6 241 yX6_share, Cond.instanceMethod yX6_share, Cond.selects RX6 yX6_share yX6_share, Cond.code yX6_share cX6_share 4 (some .int), Cond.methodLink RX6 123 yX0_bagAfter, Cond.instanceMethod yX0_bagAfter, Cond.selects RX0 yX0_bagAfter yX0_bagAfter, Cond.code yX0_bagAfter cX0_bagAfter 4 (some .int)]
def wsX6_eveningFact : List Cond := .code yX6_eveningFact cX6_eveningFact 12 (some .int) :: ((wsX6_eveningFact_r1 ++ (wsX6_eveningFact_r2 ++ wsX6_eveningFact_r3)) ++ wsX60 ++ wsX40 ++ wsX00 ++ wsX50)
def wsX6_evenings_r1 : List Cond := [Cond.methodLink RX6 108 yX6_noPlayer, Cond.instanceMethod yX6_noPlayer, Cond.selects RX6 yX6_noPlayer yX6_noPlayer, Cond.initialized RX6, Cond.code yX6_noPlayer cX6_noPlayer 1 (some .boolean), Cond.fieldLink RX6 19 "SongsAgain" "book" "LSongsAgain$Book;", Cond.methodLink RX6 189 yX6_eveningFact, Cond.instanceMethod yX6_eveningFact, Cond.selects RX6 yX6_eveningFact yX6_eveningFact, Cond.code yX6_eveningFact cX6_eveningFact 12 (some .int), Cond.fieldLink RX6 26 "SongsAgain" "now" "LSongsAgain$Past;", Cond.methodLink RX6 276 yX6_seedAfter, Cond.static yX6_seedAfter, Cond.code yX6_seedAfter cX6_seedAfter 2 (some .long), Cond.constantLong RX6 283 (1103515245), Cond.constantLong RX6 285 (12345), Cond.constantLong RX6 287 (2147483647), Cond.methodLink RX6 222 yX0_mayCome, Cond.instanceMethod yX0_mayCome, Cond.selects RX0 yX0_mayCome yX0_mayCome, Cond.initialized RX0, Cond.code yX0_mayCome cX0_mayCome 8 (some .int), Cond.methodLink RX0 60 yX0_all, Cond.instanceMethod yX0_all]
def wsX6_evenings_r2 : List Cond := [Cond.selects RX0 yX0_all yX0_all, Cond.code yX0_all cX0_all 1 (some .int), Cond.fieldLink RX0 29 "SongsAgain$Book" "number" "I", Cond.methodLink RX0 63 yX0_mayFollow, Cond.instanceMethod yX0_mayFollow, Cond.selects RX0 yX0_mayFollow yX0_mayFollow, Cond.code yX0_mayFollow cX0_mayFollow 4 (some .int), Cond.fieldLink RX0 20 "SongsAgain$Book" "singers" "LSongsAgain$Row;", Cond.fieldLink RX0 14 "SongsAgain$Book" "kinds" "LSongsAgain$Row;", Cond.methodLink RX0 53 yX5_at, Cond.instanceMethod yX5_at, Cond.selects RX5 yX5_at yX5_at, Cond.initialized RX5, Cond.code yX5_at cX5_at 2 (some .int), Cond.fieldLink RX5 13 "SongsAgain$Row" "cells" "[I", Cond.methodLink RX6 279 yX6_drawn, Cond.instanceMethod yX6_drawn, Cond.selects RX6 yX6_drawn yX6_drawn, Cond.code yX6_drawn cX6_drawn 9 (some .int), Cond.constantLong RX6 289 (65536), Cond.methodLink RX6 238 yX6_weightTogether, Cond.instanceMethod yX6_weightTogether, Cond.selects RX6 yX6_weightTogether yX6_weightTogether, Cond.code yX6_weightTogether cX6_weightTogether 4 (some .int)]
def wsX6_evenings_r3 : List Cond := [Cond.methodLink RX6 117 yX6_holds, Cond.static yX6_holds, Cond.code yX6_holds cX6_holds 2 (some .boolean), Cond.methodLink RX6 150 yX6_weight, Cond.instanceMethod yX6_weight, Cond.selects RX6 yX6_weight yX6_weight, Cond.code yX6_weight cX6_weight 2 (some .int), Cond.methodLink RX6 253 Lib.Math.max.name, Cond.static Lib.Math.max.name, Cond.initialized "java/lang/Math", Cond.code Lib.Math.max.name Lib.Math.max.code 2 (some .int), Cond.methodLink RX6 216 yX5_at, Cond.methodLink RX6 244 yX6_allShares, Cond.static yX6_allShares, Cond.code yX6_allShares cX6_allShares 2 (some .int), Cond.methodLink RX6 141 yJ6_bitCount_0f7a4, Cond.static yJ6_bitCount_0f7a4, Cond.initialized RJ6, Cond.code yJ6_bitCount_0f7a4 cJ6_bitCount_0f7a4 1 (some .int), Cond.constant RJ6 265 (1431655765), Cond.constant RJ6 266 (858993459), Cond.constant RJ6 267 (252645135), Cond.methodLink RX6 241 yX6_share, Cond.instanceMethod yX6_share]
def wsX6_evenings_r4 : List Cond := [Cond.selects RX6 yX6_share yX6_share, Cond.code yX6_share cX6_share 4 (some .int), Cond.methodLink RX6 123 yX0_bagAfter, Cond.instanceMethod yX0_bagAfter, Cond.selects RX0 yX0_bagAfter yX0_bagAfter, Cond.code yX0_bagAfter cX0_bagAfter 4 (some .int)]
def wsX6_evenings : List Cond := .code yX6_evenings cX6_evenings 4 (some .int) :: ((wsX6_evenings_r1 ++ (wsX6_evenings_r2 ++ (wsX6_evenings_r3 ++ wsX6_evenings_r4))) ++ wsX60 ++ wsX00 ++ wsX40 ++ wsX50)
def wsX6_image_r1 : List Cond := [Cond.fieldLink RX6 30 "SongsAgain" "kept" "LSongsAgain$Past;", Cond.fieldLink RX6 26 "SongsAgain" "now" "LSongsAgain$Past;", Cond.fieldLink RX6 53 "SongsAgain" "isKept" "Z", Cond.methodLink RX6 108 yX6_noPlayer, Cond.instanceMethod yX6_noPlayer, Cond.selects RX6 yX6_noPlayer yX6_noPlayer, Cond.initialized RX6, Cond.code yX6_noPlayer cX6_noPlayer 1 (some .boolean), Cond.fieldLink RX6 19 "SongsAgain" "book" "LSongsAgain$Book;", Cond.methodLink RX6 193 yX4_become, Cond.instanceMethod yX4_become, Cond.selects RX4 yX4_become yX4_become, Cond.initialized RX4, Cond.code yX4_become cX4_become 2 none, Cond.fieldLink RX4 14 "SongsAgain$Past" "played" "LSongsAgain$Row;", Cond.fieldLink RX4 20 "SongsAgain$Past" "skipped" "LSongsAgain$Row;", Cond.fieldLink RX4 23 "SongsAgain$Past" "heard" "LSongsAgain$Row;", Cond.fieldLink RX4 26 "SongsAgain$Past" "heardLength" "I", Cond.fieldLink RX4 30 "SongsAgain$Past" "rule" "I", Cond.fieldLink RX4 33 "SongsAgain$Past" "bag" "I", Cond.fieldLink RX4 36 "SongsAgain$Past" "last" "I", Cond.fieldLink RX4 39 "SongsAgain$Past" "lastIsSkipped" "Z", Cond.methodLink RX4 46 yX5_become, Cond.instanceMethod yX5_become]
def wsX6_image_r2 : List Cond := [Cond.selects RX5 yX5_become yX5_become, Cond.initialized RX5, Cond.code yX5_become cX5_become 3 none, Cond.fieldLink RX5 13 "SongsAgain$Row" "cells" "[I", Cond.methodLink RX5 19 yX5_at, Cond.instanceMethod yX5_at, Cond.selects RX5 yX5_at yX5_at, Cond.code yX5_at cX5_at 2 (some .int), Cond.methodLink RX6 197 yX5_sum, Cond.instanceMethod yX5_sum, Cond.selects RX5 yX5_sum yX5_sum, Cond.code yX5_sum cX5_sum 3 (some .int)]
def wsX6_image : List Cond := .code yX6_image cX6_image 1 (some .int) :: ((wsX6_image_r1 ++ wsX6_image_r2) ++ wsX60 ++ wsX40 ++ wsX00 ++ wsX50)
def wsX6_restore_r1 : List Cond := [Cond.fieldLink RX6 53 "SongsAgain" "isKept" "Z", Cond.fieldLink RX6 26 "SongsAgain" "now" "LSongsAgain$Past;", Cond.fieldLink RX6 30 "SongsAgain" "kept" "LSongsAgain$Past;", Cond.methodLink RX6 193 yX4_become, Cond.instanceMethod yX4_become, Cond.selects RX4 yX4_become yX4_become, Cond.initialized RX4, Cond.code yX4_become cX4_become 2 none, Cond.fieldLink RX4 14 "SongsAgain$Past" "played" "LSongsAgain$Row;", Cond.fieldLink RX4 20 "SongsAgain$Past" "skipped" "LSongsAgain$Row;", Cond.fieldLink RX4 23 "SongsAgain$Past" "heard" "LSongsAgain$Row;", Cond.fieldLink RX4 26 "SongsAgain$Past" "heardLength" "I", Cond.fieldLink RX4 30 "SongsAgain$Past" "rule" "I", Cond.fieldLink RX4 33 "SongsAgain$Past" "bag" "I", Cond.fieldLink RX4 36 "SongsAgain$Past" "last" "I", Cond.fieldLink RX4 39 "SongsAgain$Past" "lastIsSkipped" "Z", Cond.methodLink RX4 46 yX5_become, Cond.instanceMethod yX5_become, Cond.selects RX5 yX5_become yX5_become, Cond.initialized RX5, Cond.code yX5_become cX5_become 3 none, Cond.fieldLink RX5 13 "SongsAgain$Row" "cells" "[I", Cond.methodLink RX5 19 yX5_at, Cond.instanceMethod yX5_at]
def wsX6_restore_r2 : List Cond := [Cond.selects RX5 yX5_at yX5_at, Cond.code yX5_at cX5_at 2 (some .int), Cond.methodLink RX6 197 yX5_sum, Cond.instanceMethod yX5_sum, Cond.selects RX5 yX5_sum yX5_sum, Cond.code yX5_sum cX5_sum 3 (some .int)]
def wsX6_restore : List Cond := .code yX6_restore cX6_restore 1 (some .int) :: ((wsX6_restore_r1 ++ wsX6_restore_r2) ++ wsX60 ++ wsX40 ++ wsX50)
def wsX6_minutesPlayed : List Cond := .code yX6_minutesPlayed cX6_minutesPlayed 3 (some .int) :: ([.fieldLink RX6 19 "SongsAgain" "book" "LSongsAgain$Book;", .fieldLink RX6 26 "SongsAgain" "now" "LSongsAgain$Past;", .methodLink RX6 216 yX5_at, .instanceMethod yX5_at, .selects RX5 yX5_at yX5_at, .initialized RX5, .code yX5_at cX5_at 2 (some .int), .fieldLink RX5 13 "SongsAgain$Row" "cells" "[I"] ++ wsX60 ++ wsX00 ++ wsX40 ++ wsX50)
def wsX6_count_r1 : List Cond := [Cond.fieldLink RX6 19 "SongsAgain" "book" "LSongsAgain$Book;", Cond.fieldLink RX6 26 "SongsAgain" "now" "LSongsAgain$Past;", Cond.fieldLink RX6 10 "SongsAgain" "page" "LSongsAgain$Page;", Cond.fieldLink RX6 57 "SongsAgain" "playersRead" "I", Cond.methodLink RX6 197 yX5_sum, Cond.instanceMethod yX5_sum, Cond.selects RX5 yX5_sum yX5_sum, Cond.initialized RX5, Cond.code yX5_sum cX5_sum 3 (some .int), Cond.fieldLink RX5 13 "SongsAgain$Row" "cells" "[I", Cond.methodLink RX6 199 yX6_minutesPlayed, Cond.instanceMethod yX6_minutesPlayed, Cond.selects RX6 yX6_minutesPlayed yX6_minutesPlayed, Cond.initialized RX6, Cond.code yX6_minutesPlayed cX6_minutesPlayed 3 (some .int), Cond.methodLink RX6 216 yX5_at, Cond.instanceMethod yX5_at, Cond.selects RX5 yX5_at yX5_at, Cond.code yX5_at cX5_at 2 (some .int), Cond.methodLink RX6 202 yX5_aboveNothing, Cond.instanceMethod yX5_aboveNothing, Cond.selects RX5 yX5_aboveNothing yX5_aboveNothing, Cond.code yX5_aboveNothing cX5_aboveNothing 3 (some .int), Cond.methodLink RX6 141 yJ6_bitCount_0f7a4]
def wsX6_count_r2 : List Cond := [Cond.static yJ6_bitCount_0f7a4, Cond.initialized RJ6, Cond.code yJ6_bitCount_0f7a4 cJ6_bitCount_0f7a4 1 (some .int), Cond.constant RJ6 265 (1431655765), Cond.constant RJ6 266 (858993459), Cond.constant RJ6 267 (252645135), Cond.methodLink RX6 114 yX6_mayNow, Cond.instanceMethod yX6_mayNow, Cond.selects RX6 yX6_mayNow yX6_mayNow, Cond.code yX6_mayNow cX6_mayNow 1 (some .int), Cond.methodLink RX6 222 yX0_mayCome, Cond.instanceMethod yX0_mayCome, Cond.selects RX0 yX0_mayCome yX0_mayCome, Cond.initialized RX0, Cond.code yX0_mayCome cX0_mayCome 8 (some .int), Cond.methodLink RX0 60 yX0_all, Cond.instanceMethod yX0_all, Cond.selects RX0 yX0_all yX0_all, Cond.code yX0_all cX0_all 1 (some .int), Cond.fieldLink RX0 29 "SongsAgain$Book" "number" "I", Cond.methodLink RX0 63 yX0_mayFollow, Cond.instanceMethod yX0_mayFollow, Cond.selects RX0 yX0_mayFollow yX0_mayFollow, Cond.code yX0_mayFollow cX0_mayFollow 4 (some .int)]
def wsX6_count_r3 : List Cond := [Cond.fieldLink RX0 20 "SongsAgain$Book" "singers" "LSongsAgain$Row;", Cond.fieldLink RX0 14 "SongsAgain$Book" "kinds" "LSongsAgain$Row;", Cond.methodLink RX0 53 yX5_at]
def wsX6_count : List Cond := .code yX6_count cX6_count 2 (some .int) :: ((wsX6_count_r1 ++ (wsX6_count_r2 ++ wsX6_count_r3)) ++ wsX60 ++ wsX00 ++ wsX40 ++ wsX30 ++ wsX50)
def wsX6_digestOfPlayer_r1 : List Cond := [Cond.constantLong RX6 207 (31), Cond.fieldLink RX6 36 "SongsAgain" "sum" "LSongsAgain$Fraction;", Cond.fieldLink RX6 49 "SongsAgain" "orders" "LSongsAgain$Orders;", Cond.fieldLink RX6 19 "SongsAgain" "book" "LSongsAgain$Book;", Cond.methodLink RX6 157 yX6_reckonTwice, Cond.instanceMethod yX6_reckonTwice, Cond.selects RX6 yX6_reckonTwice yX6_reckonTwice, Cond.initialized RX6, Cond.code yX6_reckonTwice cX6_reckonTwice 2 none, Cond.fieldLink RX6 26 "SongsAgain" "now" "LSongsAgain$Past;", Cond.methodLink RX6 247 yX1_become, Cond.instanceMethod yX1_become, Cond.selects RX1 yX1_become yX1_become, Cond.initialized RX1, Cond.code yX1_become cX1_become 7 none, Cond.fieldLink RX1 7 "SongsAgain$Fraction" "above" "J", Cond.fieldLink RX1 13 "SongsAgain$Fraction" "below" "J", Cond.methodLink RX1 16 yX1_commonDivisor, Cond.static yX1_commonDivisor, Cond.code yX1_commonDivisor cX1_commonDivisor 11 (some .long), Cond.methodLink RX6 258 yX6_sumTwice, Cond.static yX6_sumTwice, Cond.code yX6_sumTwice cX6_sumTwice 17 none, Cond.methodLink RX6 222 yX0_mayCome]
def wsX6_digestOfPlayer_r2 : List Cond := [Cond.instanceMethod yX0_mayCome, Cond.selects RX0 yX0_mayCome yX0_mayCome, Cond.initialized RX0, Cond.code yX0_mayCome cX0_mayCome 8 (some .int), Cond.methodLink RX0 60 yX0_all, Cond.instanceMethod yX0_all, Cond.selects RX0 yX0_all yX0_all, Cond.code yX0_all cX0_all 1 (some .int), Cond.fieldLink RX0 29 "SongsAgain$Book" "number" "I", Cond.methodLink RX0 63 yX0_mayFollow, Cond.instanceMethod yX0_mayFollow, Cond.selects RX0 yX0_mayFollow yX0_mayFollow, Cond.code yX0_mayFollow cX0_mayFollow 4 (some .int), Cond.fieldLink RX0 20 "SongsAgain$Book" "singers" "LSongsAgain$Row;", Cond.fieldLink RX0 14 "SongsAgain$Book" "kinds" "LSongsAgain$Row;", Cond.methodLink RX0 53 yX5_at, Cond.instanceMethod yX5_at, Cond.selects RX5 yX5_at yX5_at, Cond.initialized RX5, Cond.code yX5_at cX5_at 2 (some .int), Cond.fieldLink RX5 13 "SongsAgain$Row" "cells" "[I", Cond.methodLink RX6 238 yX6_weightTogether, Cond.instanceMethod yX6_weightTogether, Cond.selects RX6 yX6_weightTogether yX6_weightTogether]
def wsX6_digestOfPlayer_r3 : List Cond := [Cond.code yX6_weightTogether cX6_weightTogether 4 (some .int), Cond.methodLink RX6 117 yX6_holds, Cond.static yX6_holds, Cond.code yX6_holds cX6_holds 2 (some .boolean), Cond.methodLink RX6 150 yX6_weight, Cond.instanceMethod yX6_weight, Cond.selects RX6 yX6_weight yX6_weight, Cond.code yX6_weight cX6_weight 2 (some .int), Cond.methodLink RX6 253 Lib.Math.max.name, Cond.static Lib.Math.max.name, Cond.initialized "java/lang/Math", Cond.code Lib.Math.max.name Lib.Math.max.code 2 (some .int), Cond.methodLink RX6 216 yX5_at, Cond.methodLink RX6 244 yX6_allShares, Cond.static yX6_allShares, Cond.code yX6_allShares cX6_allShares 2 (some .int), Cond.methodLink RX6 141 yJ6_bitCount_0f7a4, Cond.static yJ6_bitCount_0f7a4, Cond.initialized RJ6, Cond.code yJ6_bitCount_0f7a4 cJ6_bitCount_0f7a4 1 (some .int), Cond.constant RJ6 265 (1431655765), Cond.constant RJ6 266 (858993459), Cond.constant RJ6 267 (252645135), Cond.methodLink RX6 241 yX6_share]
def wsX6_digestOfPlayer_r4 : List Cond := [Cond.instanceMethod yX6_share, Cond.selects RX6 yX6_share yX6_share, Cond.code yX6_share cX6_share 4 (some .int), Cond.methodLink RX6 262 yX1_add, Cond.instanceMethod yX1_add, Cond.selects RX1 yX1_add yX1_add, Cond.code yX1_add cX1_add 9 none, Cond.methodLink RX1 20 yX1_become, Cond.methodLink RX6 123 yX0_bagAfter, Cond.instanceMethod yX0_bagAfter, Cond.selects RX0 yX0_bagAfter yX0_bagAfter, Cond.code yX0_bagAfter cX0_bagAfter 4 (some .int), Cond.methodLink RX6 86 yX0_all, Cond.methodLink RX6 167 yX2_findAll, Cond.instanceMethod yX2_findAll, Cond.selects RX2 yX2_findAll yX2_findAll, Cond.initialized RX2, Cond.code yX2_findAll cX2_findAll 3 none, Cond.fieldLink RX2 27 "SongsAgain$Orders" "number" "I", Cond.fieldLink RX2 23 "SongsAgain$Orders" "firstLength" "I", Cond.methodLink RX2 30 yX2_goOn, Cond.static yX2_goOn, Cond.code yX2_goOn cX2_goOn 5 none, Cond.fieldLink RX2 14 "SongsAgain$Orders" "way" "LSongsAgain$Row;"]
def wsX6_digestOfPlayer_r5 : List Cond := [Cond.methodLink RX2 34 yX2_take, Cond.instanceMethod yX2_take, Cond.selects RX2 yX2_take yX2_take, Cond.code yX2_take cX2_take 2 none, Cond.fieldLink RX2 20 "SongsAgain$Orders" "first" "LSongsAgain$Row;", Cond.methodLink RX2 59 yX5_become, Cond.instanceMethod yX5_become, Cond.selects RX5 yX5_become yX5_become, Cond.code yX5_become cX5_become 3 none, Cond.methodLink RX5 19 yX5_at, Cond.methodLink RX2 44 yX5_at, Cond.methodLink RX2 48 yX2_unlikeSingers, Cond.static yX2_unlikeSingers, Cond.code yX2_unlikeSingers cX2_unlikeSingers 3 (some .boolean), Cond.methodLink RX2 52 yX5_put, Cond.instanceMethod yX5_put, Cond.selects RX5 yX5_put yX5_put, Cond.code yX5_put cX5_put 3 none, Cond.methodLink RX6 171 yX2_fact, Cond.instanceMethod yX2_fact, Cond.selects RX2 yX2_fact yX2_fact, Cond.code yX2_fact cX2_fact 3 (some .int), Cond.methodLink RX6 183 yX6_possibleRules, Cond.instanceMethod yX6_possibleRules]
def wsX6_digestOfPlayer_r6 : List Cond := [Cond.selects RX6 yX6_possibleRules yX6_possibleRules, Cond.code yX6_possibleRules cX6_possibleRules 3 (some .int), Cond.fieldLink RX6 40 "SongsAgain" "chance" "LSongsAgain$Fraction;", Cond.methodLink RX6 265 yX6_reckonHeard, Cond.instanceMethod yX6_reckonHeard, Cond.selects RX6 yX6_reckonHeard yX6_reckonHeard, Cond.code yX6_reckonHeard cX6_reckonHeard 7 none, Cond.methodLink RX6 272 yX0_weightTogether, Cond.instanceMethod yX0_weightTogether, Cond.selects RX0 yX0_weightTogether yX0_weightTogether, Cond.code yX0_weightTogether cX0_weightTogether 4 (some .int), Cond.fieldLink RX0 23 "SongsAgain$Book" "weights" "LSongsAgain$Row;", Cond.methodLink RX6 273 yX1_multiply, Cond.instanceMethod yX1_multiply, Cond.selects RX1 yX1_multiply yX1_multiply, Cond.code yX1_multiply cX1_multiply 5 none, Cond.methodLink RX6 186 yX6_likeliestRule, Cond.instanceMethod yX6_likeliestRule, Cond.selects RX6 yX6_likeliestRule yX6_likeliestRule, Cond.code yX6_likeliestRule cX6_likeliestRule 3 (some .int), Cond.fieldLink RX6 43 "SongsAgain" "best" "LSongsAgain$Fraction;", Cond.methodLink RX6 268 yX1_isMoreThan, Cond.instanceMethod yX1_isMoreThan, Cond.selects RX1 yX1_isMoreThan yX1_isMoreThan]
def wsX6_digestOfPlayer_r7 : List Cond := [Cond.code yX1_isMoreThan cX1_isMoreThan 2 (some .boolean)]
def wsX6_digestOfPlayer : List Cond := .code yX6_digestOfPlayer cX6_digestOfPlayer 6 (some .long) :: ((wsX6_digestOfPlayer_r1 ++ (wsX6_digestOfPlayer_r2 ++ (wsX6_digestOfPlayer_r3 ++ (wsX6_digestOfPlayer_r4 ++ (wsX6_digestOfPlayer_r5 ++ (wsX6_digestOfPlayer_r6 ++ wsX6_digestOfPlayer_r7)))))) ++ wsX60 ++ wsX10 ++ wsX40 ++ wsX00 ++ wsX50 ++ wsX20)
def wsX6_digest_r1 : List Cond := [Cond.constantLong RX6 205 (997), Cond.fieldLink RX6 19 "SongsAgain" "book" "LSongsAgain$Book;", Cond.constantLong RX6 207 (31), Cond.fieldLink RX6 10 "SongsAgain" "page" "LSongsAgain$Page;", Cond.methodLink RX6 100 yX6_songFact, Cond.instanceMethod yX6_songFact, Cond.selects RX6 yX6_songFact yX6_songFact, Cond.initialized RX6, Cond.code yX6_songFact cX6_songFact 3 (some .int), Cond.fieldLink RX6 26 "SongsAgain" "now" "LSongsAgain$Past;", Cond.methodLink RX6 216 yX5_at, Cond.instanceMethod yX5_at, Cond.selects RX5 yX5_at yX5_at, Cond.initialized RX5, Cond.code yX5_at cX5_at 2 (some .int), Cond.fieldLink RX5 13 "SongsAgain$Row" "cells" "[I", Cond.methodLink RX6 150 yX6_weight, Cond.instanceMethod yX6_weight, Cond.selects RX6 yX6_weight yX6_weight, Cond.code yX6_weight cX6_weight 2 (some .int), Cond.methodLink RX6 253 Lib.Math.max.name, Cond.static Lib.Math.max.name, Cond.initialized "java/lang/Math", Cond.code Lib.Math.max.name Lib.Math.max.code 2 (some .int)]
def wsX6_digest_r2 : List Cond := [Cond.methodLink RX6 117 yX6_holds, Cond.static yX6_holds, Cond.code yX6_holds cX6_holds 2 (some .boolean), Cond.methodLink RX6 114 yX6_mayNow, Cond.instanceMethod yX6_mayNow, Cond.selects RX6 yX6_mayNow yX6_mayNow, Cond.code yX6_mayNow cX6_mayNow 1 (some .int), Cond.methodLink RX6 222 yX0_mayCome, Cond.instanceMethod yX0_mayCome, Cond.selects RX0 yX0_mayCome yX0_mayCome, Cond.initialized RX0, Cond.code yX0_mayCome cX0_mayCome 8 (some .int), Cond.methodLink RX0 60 yX0_all, Cond.instanceMethod yX0_all, Cond.selects RX0 yX0_all yX0_all, Cond.code yX0_all cX0_all 1 (some .int), Cond.fieldLink RX0 29 "SongsAgain$Book" "number" "I", Cond.methodLink RX0 63 yX0_mayFollow, Cond.instanceMethod yX0_mayFollow, Cond.selects RX0 yX0_mayFollow yX0_mayFollow, Cond.code yX0_mayFollow cX0_mayFollow 4 (some .int), Cond.fieldLink RX0 20 "SongsAgain$Book" "singers" "LSongsAgain$Row;", Cond.fieldLink RX0 14 "SongsAgain$Book" "kinds" "LSongsAgain$Row;", Cond.methodLink RX0 53 yX5_at]
def wsX6_digest_r3 : List Cond := [Cond.methodLink RX6 234 yX6_chanceNow, Cond.instanceMethod yX6_chanceNow, Cond.selects RX6 yX6_chanceNow yX6_chanceNow, Cond.code yX6_chanceNow cX6_chanceNow 4 (some (.object "SongsAgain$Fraction")), Cond.fieldLink RX6 40 "SongsAgain" "chance" "LSongsAgain$Fraction;", Cond.methodLink RX6 238 yX6_weightTogether, Cond.instanceMethod yX6_weightTogether, Cond.selects RX6 yX6_weightTogether yX6_weightTogether, Cond.code yX6_weightTogether cX6_weightTogether 4 (some .int), Cond.methodLink RX6 241 yX6_share, Cond.instanceMethod yX6_share, Cond.selects RX6 yX6_share yX6_share, Cond.code yX6_share cX6_share 4 (some .int), Cond.methodLink RX6 244 yX6_allShares, Cond.static yX6_allShares, Cond.code yX6_allShares cX6_allShares 2 (some .int), Cond.methodLink RX6 141 yJ6_bitCount_0f7a4, Cond.static yJ6_bitCount_0f7a4, Cond.initialized RJ6, Cond.code yJ6_bitCount_0f7a4 cJ6_bitCount_0f7a4 1 (some .int), Cond.constant RJ6 265 (1431655765), Cond.constant RJ6 266 (858993459), Cond.constant RJ6 267 (252645135), Cond.methodLink RX6 247 yX1_become]
def wsX6_digest_r4 : List Cond := [Cond.instanceMethod yX1_become, Cond.selects RX1 yX1_become yX1_become, Cond.initialized RX1, Cond.code yX1_become cX1_become 7 none, Cond.fieldLink RX1 7 "SongsAgain$Fraction" "above" "J", Cond.fieldLink RX1 13 "SongsAgain$Fraction" "below" "J", Cond.methodLink RX1 16 yX1_commonDivisor, Cond.static yX1_commonDivisor, Cond.code yX1_commonDivisor cX1_commonDivisor 11 (some .long), Cond.methodLink RX6 108 yX6_noPlayer, Cond.instanceMethod yX6_noPlayer, Cond.selects RX6 yX6_noPlayer yX6_noPlayer, Cond.code yX6_noPlayer cX6_noPlayer 1 (some .boolean), Cond.methodLink RX6 209 yX6_digestOfPlayer, Cond.instanceMethod yX6_digestOfPlayer, Cond.selects RX6 yX6_digestOfPlayer yX6_digestOfPlayer, Cond.code yX6_digestOfPlayer cX6_digestOfPlayer 6 (some .long), Cond.fieldLink RX6 36 "SongsAgain" "sum" "LSongsAgain$Fraction;", Cond.fieldLink RX6 49 "SongsAgain" "orders" "LSongsAgain$Orders;", Cond.methodLink RX6 157 yX6_reckonTwice, Cond.instanceMethod yX6_reckonTwice, Cond.selects RX6 yX6_reckonTwice yX6_reckonTwice, Cond.code yX6_reckonTwice cX6_reckonTwice 2 none, Cond.methodLink RX6 258 yX6_sumTwice]
def wsX6_digest_r5 : List Cond := [Cond.static yX6_sumTwice, Cond.code yX6_sumTwice cX6_sumTwice 17 none, Cond.methodLink RX6 262 yX1_add, Cond.instanceMethod yX1_add, Cond.selects RX1 yX1_add yX1_add, Cond.code yX1_add cX1_add 9 none, Cond.methodLink RX1 20 yX1_become, Cond.methodLink RX6 123 yX0_bagAfter, Cond.instanceMethod yX0_bagAfter, Cond.selects RX0 yX0_bagAfter yX0_bagAfter, Cond.code yX0_bagAfter cX0_bagAfter 4 (some .int), Cond.methodLink RX6 86 yX0_all, Cond.methodLink RX6 167 yX2_findAll, Cond.instanceMethod yX2_findAll, Cond.selects RX2 yX2_findAll yX2_findAll, Cond.initialized RX2, Cond.code yX2_findAll cX2_findAll 3 none, Cond.fieldLink RX2 27 "SongsAgain$Orders" "number" "I", Cond.fieldLink RX2 23 "SongsAgain$Orders" "firstLength" "I", Cond.methodLink RX2 30 yX2_goOn, Cond.static yX2_goOn, Cond.code yX2_goOn cX2_goOn 5 none, Cond.fieldLink RX2 14 "SongsAgain$Orders" "way" "LSongsAgain$Row;", Cond.methodLink RX2 34 yX2_take]
def wsX6_digest_r6 : List Cond := [Cond.instanceMethod yX2_take, Cond.selects RX2 yX2_take yX2_take, Cond.code yX2_take cX2_take 2 none, Cond.fieldLink RX2 20 "SongsAgain$Orders" "first" "LSongsAgain$Row;", Cond.methodLink RX2 59 yX5_become, Cond.instanceMethod yX5_become, Cond.selects RX5 yX5_become yX5_become, Cond.code yX5_become cX5_become 3 none, Cond.methodLink RX5 19 yX5_at, Cond.methodLink RX2 44 yX5_at, Cond.methodLink RX2 48 yX2_unlikeSingers, Cond.static yX2_unlikeSingers, Cond.code yX2_unlikeSingers cX2_unlikeSingers 3 (some .boolean), Cond.methodLink RX2 52 yX5_put, Cond.instanceMethod yX5_put, Cond.selects RX5 yX5_put yX5_put, Cond.code yX5_put cX5_put 3 none, Cond.methodLink RX6 171 yX2_fact, Cond.instanceMethod yX2_fact, Cond.selects RX2 yX2_fact yX2_fact, Cond.code yX2_fact cX2_fact 3 (some .int), Cond.methodLink RX6 183 yX6_possibleRules, Cond.instanceMethod yX6_possibleRules, Cond.selects RX6 yX6_possibleRules yX6_possibleRules]
def wsX6_digest_r7 : List Cond := [Cond.code yX6_possibleRules cX6_possibleRules 3 (some .int), Cond.methodLink RX6 265 yX6_reckonHeard, Cond.instanceMethod yX6_reckonHeard, Cond.selects RX6 yX6_reckonHeard yX6_reckonHeard, Cond.code yX6_reckonHeard cX6_reckonHeard 7 none, Cond.methodLink RX6 272 yX0_weightTogether, Cond.instanceMethod yX0_weightTogether, Cond.selects RX0 yX0_weightTogether yX0_weightTogether, Cond.code yX0_weightTogether cX0_weightTogether 4 (some .int), Cond.fieldLink RX0 23 "SongsAgain$Book" "weights" "LSongsAgain$Row;", Cond.methodLink RX6 273 yX1_multiply, Cond.instanceMethod yX1_multiply, Cond.selects RX1 yX1_multiply yX1_multiply, Cond.code yX1_multiply cX1_multiply 5 none, Cond.methodLink RX6 186 yX6_likeliestRule, Cond.instanceMethod yX6_likeliestRule, Cond.selects RX6 yX6_likeliestRule yX6_likeliestRule, Cond.code yX6_likeliestRule cX6_likeliestRule 3 (some .int), Cond.fieldLink RX6 43 "SongsAgain" "best" "LSongsAgain$Fraction;", Cond.methodLink RX6 268 yX1_isMoreThan, Cond.instanceMethod yX1_isMoreThan, Cond.selects RX1 yX1_isMoreThan yX1_isMoreThan, Cond.code yX1_isMoreThan cX1_isMoreThan 2 (some .boolean), Cond.methodLink RX6 219 yX6_count]
def wsX6_digest_r8 : List Cond := [Cond.instanceMethod yX6_count, Cond.selects RX6 yX6_count yX6_count, Cond.code yX6_count cX6_count 2 (some .int), Cond.fieldLink RX6 57 "SongsAgain" "playersRead" "I", Cond.methodLink RX6 197 yX5_sum, Cond.instanceMethod yX5_sum, Cond.selects RX5 yX5_sum yX5_sum, Cond.code yX5_sum cX5_sum 3 (some .int), Cond.methodLink RX6 199 yX6_minutesPlayed, Cond.instanceMethod yX6_minutesPlayed, Cond.selects RX6 yX6_minutesPlayed yX6_minutesPlayed, Cond.code yX6_minutesPlayed cX6_minutesPlayed 3 (some .int), Cond.methodLink RX6 202 yX5_aboveNothing, Cond.instanceMethod yX5_aboveNothing, Cond.selects RX5 yX5_aboveNothing yX5_aboveNothing, Cond.code yX5_aboveNothing cX5_aboveNothing 3 (some .int)]
def wsX6_digest : List Cond := .code yX6_digest cX6_digest 5 (some .long) :: ((wsX6_digest_r1 ++ (wsX6_digest_r2 ++ (wsX6_digest_r3 ++ (wsX6_digest_r4 ++ (wsX6_digest_r5 ++ (wsX6_digest_r6 ++ (wsX6_digest_r7 ++ wsX6_digest_r8))))))) ++ wsX60 ++ wsX00 ++ wsX30 ++ wsX40 ++ wsX10 ++ wsX50 ++ wsX20)
def wsX7_init : List Cond := .code yX7_init cX7_init 1 none :: ([.methodLink RX7 1 objectInit, .instanceMethod objectInit, .code objectInit ⟨#[0xb1]⟩ 1 none, .arrayClass .int, .fieldLink RX7 7 "SongsAgainModel" "page" "[I", .fieldLink RX7 13 "SongsAgainModel" "read" "[I", .fieldLink RX7 16 "SongsAgainModel" "rows" "[I", .fieldLink RX7 19 "SongsAgainModel" "row" "[I", .fieldLink RX7 22 "SongsAgainModel" "bestRow" "[I", .fieldLink RX7 25 "SongsAgainModel" "heards" "[I", .fieldLink RX7 28 "SongsAgainModel" "keptRows" "[I", .fieldLink RX7 31 "SongsAgainModel" "keptHeards" "[I", .fieldLink RX7 34 "SongsAgainModel" "keptPlayer" "I", .fieldLink RX7 38 "SongsAgainModel" "last" "I"] ++ wsX70)
def wsX7_in : List Cond := .code yX7_in cX7_in 6 (some .boolean) :: ([])
def wsX7_copy : List Cond := .code yX7_copy cX7_copy 3 none :: ([])
def wsX7_common : List Cond := .code yX7_common cX7_common 10 (some .long) :: ([])
def wsX7_ones : List Cond := .code yX7_ones cX7_ones 3 (some .int) :: ([])
def wsX7_letter : List Cond := .code yX7_letter cX7_letter 2 (some .int) :: ([.constantLong RX7 41 (126), .fieldLink RX7 47 "SongsAgainModel" "pageMany" "I", .fieldLink RX7 7 "SongsAgainModel" "page" "[I", .methodLink RX7 43 yX7_in, .static yX7_in, .initialized RX7, .code yX7_in cX7_in 6 (some .boolean)] ++ wsX70)
def wsX7_blank : List Cond := .code yX7_blank cX7_blank 2 (some .int) :: ([.fieldLink RX7 47 "SongsAgainModel" "pageMany" "I"] ++ wsX70)
def wsX7_kindBy : List Cond := .code yX7_kindBy cX7_kindBy 1 (some .int) :: ([])
def wsX7_go : List Cond := .code yX7_go cX7_go 4 (some .boolean) :: ([.fieldLink RX7 50 "SongsAgainModel" "state" "I", .fieldLink RX7 13 "SongsAgainModel" "read" "[I", .fieldLink RX7 53 "SongsAgainModel" "readMany" "I", .constantLong RX7 60 (3), .fieldLink RX7 62 "SongsAgainModel" "readRule" "I", .methodLink RX7 56 yX7_kindBy, .static yX7_kindBy, .initialized RX7, .code yX7_kindBy cX7_kindBy 1 (some .int), .methodLink RX7 43 yX7_in, .static yX7_in, .code yX7_in cX7_in 6 (some .boolean)] ++ wsX70)
def wsX7_faultOf : List Cond := .code yX7_faultOf cX7_faultOf 2 (some .int) :: ([.fieldLink RX7 53 "SongsAgainModel" "readMany" "I", .fieldLink RX7 50 "SongsAgainModel" "state" "I", .fieldLink RX7 47 "SongsAgainModel" "pageMany" "I", .fieldLink RX7 7 "SongsAgainModel" "page" "[I", .methodLink RX7 65 yX7_go, .instanceMethod yX7_go, .selects RX7 yX7_go yX7_go, .initialized RX7, .code yX7_go cX7_go 4 (some .boolean), .fieldLink RX7 13 "SongsAgainModel" "read" "[I", .constantLong RX7 60 (3), .fieldLink RX7 62 "SongsAgainModel" "readRule" "I", .methodLink RX7 56 yX7_kindBy, .static yX7_kindBy, .code yX7_kindBy cX7_kindBy 1 (some .int), .methodLink RX7 43 yX7_in, .static yX7_in, .code yX7_in cX7_in 6 (some .boolean)] ++ wsX70)
def wsX7_fault : List Cond := .code yX7_fault cX7_fault 1 (some .int) :: ([.methodLink RX7 69 yX7_faultOf, .instanceMethod yX7_faultOf, .selects RX7 yX7_faultOf yX7_faultOf, .initialized RX7, .code yX7_faultOf cX7_faultOf 2 (some .int), .fieldLink RX7 53 "SongsAgainModel" "readMany" "I", .fieldLink RX7 50 "SongsAgainModel" "state" "I", .fieldLink RX7 47 "SongsAgainModel" "pageMany" "I", .fieldLink RX7 7 "SongsAgainModel" "page" "[I", .methodLink RX7 65 yX7_go, .instanceMethod yX7_go, .selects RX7 yX7_go yX7_go, .code yX7_go cX7_go 4 (some .boolean), .fieldLink RX7 13 "SongsAgainModel" "read" "[I", .constantLong RX7 60 (3), .fieldLink RX7 62 "SongsAgainModel" "readRule" "I", .methodLink RX7 56 yX7_kindBy, .static yX7_kindBy, .code yX7_kindBy cX7_kindBy 1 (some .int), .methodLink RX7 43 yX7_in, .static yX7_in, .code yX7_in cX7_in 6 (some .boolean)] ++ wsX70)
def wsX7_all : List Cond := .code yX7_all cX7_all 1 (some .int) :: ([.fieldLink RX7 73 "SongsAgainModel" "songs" "I"] ++ wsX70)
def wsX7_player_r1 : List Cond := [Cond.fieldLink RX7 47 "SongsAgainModel" "pageMany" "I", Cond.fieldLink RX7 50 "SongsAgainModel" "state" "I", Cond.fieldLink RX7 53 "SongsAgainModel" "readMany" "I", Cond.fieldLink RX7 73 "SongsAgainModel" "songs" "I", Cond.fieldLink RX7 16 "SongsAgainModel" "rows" "[I", Cond.fieldLink RX7 13 "SongsAgainModel" "read" "[I", Cond.fieldLink RX7 62 "SongsAgainModel" "readRule" "I", Cond.fieldLink RX7 76 "SongsAgainModel" "ruleNow" "I", Cond.fieldLink RX7 82 "SongsAgainModel" "bag" "I", Cond.fieldLink RX7 38 "SongsAgainModel" "last" "I", Cond.fieldLink RX7 85 "SongsAgainModel" "wasSkipped" "Z", Cond.fieldLink RX7 89 "SongsAgainModel" "heardMany" "I", Cond.fieldLink RX7 92 "SongsAgainModel" "playersRead" "I", Cond.methodLink RX7 69 yX7_faultOf, Cond.instanceMethod yX7_faultOf, Cond.selects RX7 yX7_faultOf yX7_faultOf, Cond.initialized RX7, Cond.code yX7_faultOf cX7_faultOf 2 (some .int), Cond.fieldLink RX7 7 "SongsAgainModel" "page" "[I", Cond.methodLink RX7 65 yX7_go, Cond.instanceMethod yX7_go, Cond.selects RX7 yX7_go yX7_go, Cond.code yX7_go cX7_go 4 (some .boolean), Cond.constantLong RX7 60 (3)]
def wsX7_player_r2 : List Cond := [Cond.methodLink RX7 56 yX7_kindBy, Cond.static yX7_kindBy, Cond.code yX7_kindBy cX7_kindBy 1 (some .int), Cond.methodLink RX7 43 yX7_in, Cond.static yX7_in, Cond.code yX7_in cX7_in 6 (some .boolean), Cond.methodLink RX7 79 yX7_all, Cond.instanceMethod yX7_all, Cond.selects RX7 yX7_all yX7_all, Cond.code yX7_all cX7_all 1 (some .int)]
def wsX7_player : List Cond := .code yX7_player cX7_player 2 (some .int) :: ((wsX7_player_r1 ++ wsX7_player_r2) ++ wsX70)
def wsX7_lacks : List Cond := .code yX7_lacks cX7_lacks 1 (some .boolean) :: ([.fieldLink RX7 73 "SongsAgainModel" "songs" "I"] ++ wsX70)
def wsX7_isSong : List Cond := .code yX7_isSong cX7_isSong 2 (some .boolean) :: ([.fieldLink RX7 73 "SongsAgainModel" "songs" "I", .methodLink RX7 43 yX7_in, .static yX7_in, .initialized RX7, .code yX7_in cX7_in 6 (some .boolean)] ++ wsX70)
def wsX7_baseOf : List Cond := .code yX7_baseOf cX7_baseOf 2 (some .int) :: ([.fieldLink RX7 16 "SongsAgainModel" "rows" "[I"] ++ wsX70)
def wsX7_weightOf : List Cond := .code yX7_weightOf cX7_weightOf 3 (some .int) :: ([.fieldLink RX7 16 "SongsAgainModel" "rows" "[I", .methodLink RX7 95 yX7_baseOf, .instanceMethod yX7_baseOf, .selects RX7 yX7_baseOf yX7_baseOf, .initialized RX7, .code yX7_baseOf cX7_baseOf 2 (some .int)] ++ wsX70)
def wsX7_minutesOf : List Cond := .code yX7_minutesOf cX7_minutesOf 2 (some .int) :: ([.fieldLink RX7 16 "SongsAgainModel" "rows" "[I"] ++ wsX70)
def wsX7_mayBy : List Cond := .code yX7_mayBy cX7_mayBy 8 (some .int) :: ([.fieldLink RX7 73 "SongsAgainModel" "songs" "I", .fieldLink RX7 16 "SongsAgainModel" "rows" "[I", .methodLink RX7 79 yX7_all, .instanceMethod yX7_all, .selects RX7 yX7_all yX7_all, .initialized RX7, .code yX7_all cX7_all 1 (some .int)] ++ wsX70)
def wsX7_bagBehind : List Cond := .code yX7_bagBehind cX7_bagBehind 4 (some .int) :: ([.methodLink RX7 79 yX7_all, .instanceMethod yX7_all, .selects RX7 yX7_all yX7_all, .initialized RX7, .code yX7_all cX7_all 1 (some .int), .fieldLink RX7 73 "SongsAgainModel" "songs" "I"] ++ wsX70)
def wsX7_mayNow : List Cond := .code yX7_mayNow cX7_mayNow 1 (some .int) :: ([.fieldLink RX7 76 "SongsAgainModel" "ruleNow" "I", .fieldLink RX7 82 "SongsAgainModel" "bag" "I", .fieldLink RX7 38 "SongsAgainModel" "last" "I", .methodLink RX7 98 yX7_mayBy, .instanceMethod yX7_mayBy, .selects RX7 yX7_mayBy yX7_mayBy, .initialized RX7, .code yX7_mayBy cX7_mayBy 8 (some .int), .fieldLink RX7 73 "SongsAgainModel" "songs" "I", .fieldLink RX7 16 "SongsAgainModel" "rows" "[I", .methodLink RX7 79 yX7_all, .instanceMethod yX7_all, .selects RX7 yX7_all yX7_all, .code yX7_all cX7_all 1 (some .int)] ++ wsX70)
def wsX7_sumOf : List Cond := .code yX7_sumOf cX7_sumOf 5 (some .int) :: ([.fieldLink RX7 73 "SongsAgainModel" "songs" "I", .methodLink RX7 95 yX7_baseOf, .instanceMethod yX7_baseOf, .selects RX7 yX7_baseOf yX7_baseOf, .initialized RX7, .code yX7_baseOf cX7_baseOf 2 (some .int), .fieldLink RX7 16 "SongsAgainModel" "rows" "[I", .methodLink RX7 102 yX7_weightOf, .instanceMethod yX7_weightOf, .selects RX7 yX7_weightOf yX7_weightOf, .code yX7_weightOf cX7_weightOf 3 (some .int)] ++ wsX70)
def wsX7_shareOf : List Cond := .code yX7_shareOf cX7_shareOf 3 (some .int) :: ([.methodLink RX7 105 yX7_sumOf, .instanceMethod yX7_sumOf, .selects RX7 yX7_sumOf yX7_sumOf, .initialized RX7, .code yX7_sumOf cX7_sumOf 5 (some .int), .fieldLink RX7 73 "SongsAgainModel" "songs" "I", .methodLink RX7 95 yX7_baseOf, .instanceMethod yX7_baseOf, .selects RX7 yX7_baseOf yX7_baseOf, .code yX7_baseOf cX7_baseOf 2 (some .int), .fieldLink RX7 16 "SongsAgainModel" "rows" "[I", .methodLink RX7 102 yX7_weightOf, .instanceMethod yX7_weightOf, .selects RX7 yX7_weightOf yX7_weightOf, .code yX7_weightOf cX7_weightOf 3 (some .int)] ++ wsX70)
def wsX7_sharesOf : List Cond := .code yX7_sharesOf cX7_sharesOf 3 (some .int) :: ([.methodLink RX7 105 yX7_sumOf, .instanceMethod yX7_sumOf, .selects RX7 yX7_sumOf yX7_sumOf, .initialized RX7, .code yX7_sumOf cX7_sumOf 5 (some .int), .fieldLink RX7 73 "SongsAgainModel" "songs" "I", .methodLink RX7 95 yX7_baseOf, .instanceMethod yX7_baseOf, .selects RX7 yX7_baseOf yX7_baseOf, .code yX7_baseOf cX7_baseOf 2 (some .int), .fieldLink RX7 16 "SongsAgainModel" "rows" "[I", .methodLink RX7 102 yX7_weightOf, .instanceMethod yX7_weightOf, .selects RX7 yX7_weightOf yX7_weightOf, .code yX7_weightOf cX7_weightOf 3 (some .int), .methodLink RX7 109 yX7_ones, .static yX7_ones, .code yX7_ones cX7_ones 3 (some .int)] ++ wsX70)
def wsX7_chanceOf_r1 : List Cond := [Cond.methodLink RX7 112 yX7_mayNow, Cond.instanceMethod yX7_mayNow, Cond.selects RX7 yX7_mayNow yX7_mayNow, Cond.initialized RX7, Cond.code yX7_mayNow cX7_mayNow 1 (some .int), Cond.fieldLink RX7 76 "SongsAgainModel" "ruleNow" "I", Cond.fieldLink RX7 82 "SongsAgainModel" "bag" "I", Cond.fieldLink RX7 38 "SongsAgainModel" "last" "I", Cond.methodLink RX7 98 yX7_mayBy, Cond.instanceMethod yX7_mayBy, Cond.selects RX7 yX7_mayBy yX7_mayBy, Cond.code yX7_mayBy cX7_mayBy 8 (some .int), Cond.fieldLink RX7 73 "SongsAgainModel" "songs" "I", Cond.fieldLink RX7 16 "SongsAgainModel" "rows" "[I", Cond.methodLink RX7 79 yX7_all, Cond.instanceMethod yX7_all, Cond.selects RX7 yX7_all yX7_all, Cond.code yX7_all cX7_all 1 (some .int), Cond.methodLink RX7 115 yX7_sharesOf, Cond.instanceMethod yX7_sharesOf, Cond.selects RX7 yX7_sharesOf yX7_sharesOf, Cond.code yX7_sharesOf cX7_sharesOf 3 (some .int), Cond.methodLink RX7 105 yX7_sumOf, Cond.instanceMethod yX7_sumOf]
def wsX7_chanceOf_r2 : List Cond := [Cond.selects RX7 yX7_sumOf yX7_sumOf, Cond.code yX7_sumOf cX7_sumOf 5 (some .int), Cond.methodLink RX7 95 yX7_baseOf, Cond.instanceMethod yX7_baseOf, Cond.selects RX7 yX7_baseOf yX7_baseOf, Cond.code yX7_baseOf cX7_baseOf 2 (some .int), Cond.methodLink RX7 102 yX7_weightOf, Cond.instanceMethod yX7_weightOf, Cond.selects RX7 yX7_weightOf yX7_weightOf, Cond.code yX7_weightOf cX7_weightOf 3 (some .int), Cond.methodLink RX7 109 yX7_ones, Cond.static yX7_ones, Cond.code yX7_ones cX7_ones 3 (some .int), Cond.methodLink RX7 118 yX7_shareOf, Cond.instanceMethod yX7_shareOf, Cond.selects RX7 yX7_shareOf yX7_shareOf, Cond.code yX7_shareOf cX7_shareOf 3 (some .int), Cond.methodLink RX7 122 yX7_common, Cond.static yX7_common, Cond.code yX7_common cX7_common 10 (some .long)]
def wsX7_chanceOf : List Cond := .code yX7_chanceOf cX7_chanceOf 5 (some .int) :: ((wsX7_chanceOf_r1 ++ wsX7_chanceOf_r2) ++ wsX70)
def wsX7_tell_r1 : List Cond := [Cond.fieldLink RX7 16 "SongsAgainModel" "rows" "[I", Cond.fieldLink RX7 82 "SongsAgainModel" "bag" "I", Cond.methodLink RX7 102 yX7_weightOf, Cond.instanceMethod yX7_weightOf, Cond.selects RX7 yX7_weightOf yX7_weightOf, Cond.initialized RX7, Cond.code yX7_weightOf cX7_weightOf 3 (some .int), Cond.methodLink RX7 95 yX7_baseOf, Cond.instanceMethod yX7_baseOf, Cond.selects RX7 yX7_baseOf yX7_baseOf, Cond.code yX7_baseOf cX7_baseOf 2 (some .int), Cond.methodLink RX7 126 yX7_minutesOf, Cond.instanceMethod yX7_minutesOf, Cond.selects RX7 yX7_minutesOf yX7_minutesOf, Cond.code yX7_minutesOf cX7_minutesOf 2 (some .int), Cond.methodLink RX7 112 yX7_mayNow, Cond.instanceMethod yX7_mayNow, Cond.selects RX7 yX7_mayNow yX7_mayNow, Cond.code yX7_mayNow cX7_mayNow 1 (some .int), Cond.fieldLink RX7 76 "SongsAgainModel" "ruleNow" "I", Cond.fieldLink RX7 38 "SongsAgainModel" "last" "I", Cond.methodLink RX7 98 yX7_mayBy, Cond.instanceMethod yX7_mayBy, Cond.selects RX7 yX7_mayBy yX7_mayBy]
def wsX7_tell_r2 : List Cond := [Cond.code yX7_mayBy cX7_mayBy 8 (some .int), Cond.fieldLink RX7 73 "SongsAgainModel" "songs" "I", Cond.methodLink RX7 79 yX7_all, Cond.instanceMethod yX7_all, Cond.selects RX7 yX7_all yX7_all, Cond.code yX7_all cX7_all 1 (some .int), Cond.methodLink RX7 129 yX7_chanceOf, Cond.instanceMethod yX7_chanceOf, Cond.selects RX7 yX7_chanceOf yX7_chanceOf, Cond.code yX7_chanceOf cX7_chanceOf 5 (some .int), Cond.methodLink RX7 115 yX7_sharesOf, Cond.instanceMethod yX7_sharesOf, Cond.selects RX7 yX7_sharesOf yX7_sharesOf, Cond.code yX7_sharesOf cX7_sharesOf 3 (some .int), Cond.methodLink RX7 105 yX7_sumOf, Cond.instanceMethod yX7_sumOf, Cond.selects RX7 yX7_sumOf yX7_sumOf, Cond.code yX7_sumOf cX7_sumOf 5 (some .int), Cond.methodLink RX7 109 yX7_ones, Cond.static yX7_ones, Cond.code yX7_ones cX7_ones 3 (some .int), Cond.methodLink RX7 118 yX7_shareOf, Cond.instanceMethod yX7_shareOf, Cond.selects RX7 yX7_shareOf yX7_shareOf]
def wsX7_tell_r3 : List Cond := [Cond.code yX7_shareOf cX7_shareOf 3 (some .int), Cond.methodLink RX7 122 yX7_common, Cond.static yX7_common, Cond.code yX7_common cX7_common 10 (some .long)]
def wsX7_tell : List Cond := .code yX7_tell cX7_tell 3 (some .int) :: ((wsX7_tell_r1 ++ (wsX7_tell_r2 ++ wsX7_tell_r3)) ++ wsX70)
def wsX7_song_r1 : List Cond := [Cond.methodLink RX7 132 yX7_isSong, Cond.instanceMethod yX7_isSong, Cond.selects RX7 yX7_isSong yX7_isSong, Cond.initialized RX7, Cond.code yX7_isSong cX7_isSong 2 (some .boolean), Cond.fieldLink RX7 73 "SongsAgainModel" "songs" "I", Cond.methodLink RX7 43 yX7_in, Cond.static yX7_in, Cond.code yX7_in cX7_in 6 (some .boolean), Cond.methodLink RX7 135 yX7_tell, Cond.instanceMethod yX7_tell, Cond.selects RX7 yX7_tell yX7_tell, Cond.code yX7_tell cX7_tell 3 (some .int), Cond.fieldLink RX7 16 "SongsAgainModel" "rows" "[I", Cond.fieldLink RX7 82 "SongsAgainModel" "bag" "I", Cond.methodLink RX7 102 yX7_weightOf, Cond.instanceMethod yX7_weightOf, Cond.selects RX7 yX7_weightOf yX7_weightOf, Cond.code yX7_weightOf cX7_weightOf 3 (some .int), Cond.methodLink RX7 95 yX7_baseOf, Cond.instanceMethod yX7_baseOf, Cond.selects RX7 yX7_baseOf yX7_baseOf, Cond.code yX7_baseOf cX7_baseOf 2 (some .int), Cond.methodLink RX7 126 yX7_minutesOf]
def wsX7_song_r2 : List Cond := [Cond.instanceMethod yX7_minutesOf, Cond.selects RX7 yX7_minutesOf yX7_minutesOf, Cond.code yX7_minutesOf cX7_minutesOf 2 (some .int), Cond.methodLink RX7 112 yX7_mayNow, Cond.instanceMethod yX7_mayNow, Cond.selects RX7 yX7_mayNow yX7_mayNow, Cond.code yX7_mayNow cX7_mayNow 1 (some .int), Cond.fieldLink RX7 76 "SongsAgainModel" "ruleNow" "I", Cond.fieldLink RX7 38 "SongsAgainModel" "last" "I", Cond.methodLink RX7 98 yX7_mayBy, Cond.instanceMethod yX7_mayBy, Cond.selects RX7 yX7_mayBy yX7_mayBy, Cond.code yX7_mayBy cX7_mayBy 8 (some .int), Cond.methodLink RX7 79 yX7_all, Cond.instanceMethod yX7_all, Cond.selects RX7 yX7_all yX7_all, Cond.code yX7_all cX7_all 1 (some .int), Cond.methodLink RX7 129 yX7_chanceOf, Cond.instanceMethod yX7_chanceOf, Cond.selects RX7 yX7_chanceOf yX7_chanceOf, Cond.code yX7_chanceOf cX7_chanceOf 5 (some .int), Cond.methodLink RX7 115 yX7_sharesOf, Cond.instanceMethod yX7_sharesOf, Cond.selects RX7 yX7_sharesOf yX7_sharesOf]
def wsX7_song_r3 : List Cond := [Cond.code yX7_sharesOf cX7_sharesOf 3 (some .int), Cond.methodLink RX7 105 yX7_sumOf, Cond.instanceMethod yX7_sumOf, Cond.selects RX7 yX7_sumOf yX7_sumOf, Cond.code yX7_sumOf cX7_sumOf 5 (some .int), Cond.methodLink RX7 109 yX7_ones, Cond.static yX7_ones, Cond.code yX7_ones cX7_ones 3 (some .int), Cond.methodLink RX7 118 yX7_shareOf, Cond.instanceMethod yX7_shareOf, Cond.selects RX7 yX7_shareOf yX7_shareOf, Cond.code yX7_shareOf cX7_shareOf 3 (some .int), Cond.methodLink RX7 122 yX7_common, Cond.static yX7_common, Cond.code yX7_common cX7_common 10 (some .long)]
def wsX7_song : List Cond := .code yX7_song cX7_song 3 (some .int) :: ((wsX7_song_r1 ++ (wsX7_song_r2 ++ wsX7_song_r3)) ++ wsX70)
def wsX7_as : List Cond := .code yX7_as cX7_as 5 (some .int) :: ([.constantLong RX7 138 (4), .fieldLink RX7 16 "SongsAgainModel" "rows" "[I", .methodLink RX7 132 yX7_isSong, .instanceMethod yX7_isSong, .selects RX7 yX7_isSong yX7_isSong, .initialized RX7, .code yX7_isSong cX7_isSong 2 (some .boolean), .fieldLink RX7 73 "SongsAgainModel" "songs" "I", .methodLink RX7 43 yX7_in, .static yX7_in, .code yX7_in cX7_in 6 (some .boolean)] ++ wsX70)
def wsX7_rule : List Cond := .code yX7_rule cX7_rule 3 (some .int) :: ([.constantLong RX7 60 (3), .fieldLink RX7 76 "SongsAgainModel" "ruleNow" "I", .methodLink RX7 43 yX7_in, .static yX7_in, .initialized RX7, .code yX7_in cX7_in 6 (some .boolean), .methodLink RX7 140 yX7_lacks, .instanceMethod yX7_lacks, .selects RX7 yX7_lacks yX7_lacks, .code yX7_lacks cX7_lacks 1 (some .boolean), .fieldLink RX7 73 "SongsAgainModel" "songs" "I"] ++ wsX70)
def wsX7_play_r1 : List Cond := [Cond.fieldLink RX7 82 "SongsAgainModel" "bag" "I", Cond.fieldLink RX7 38 "SongsAgainModel" "last" "I", Cond.fieldLink RX7 85 "SongsAgainModel" "wasSkipped" "Z", Cond.fieldLink RX7 16 "SongsAgainModel" "rows" "[I", Cond.methodLink RX7 132 yX7_isSong, Cond.instanceMethod yX7_isSong, Cond.selects RX7 yX7_isSong yX7_isSong, Cond.initialized RX7, Cond.code yX7_isSong cX7_isSong 2 (some .boolean), Cond.fieldLink RX7 73 "SongsAgainModel" "songs" "I", Cond.methodLink RX7 43 yX7_in, Cond.static yX7_in, Cond.code yX7_in cX7_in 6 (some .boolean), Cond.methodLink RX7 112 yX7_mayNow, Cond.instanceMethod yX7_mayNow, Cond.selects RX7 yX7_mayNow yX7_mayNow, Cond.code yX7_mayNow cX7_mayNow 1 (some .int), Cond.fieldLink RX7 76 "SongsAgainModel" "ruleNow" "I", Cond.methodLink RX7 98 yX7_mayBy, Cond.instanceMethod yX7_mayBy, Cond.selects RX7 yX7_mayBy yX7_mayBy, Cond.code yX7_mayBy cX7_mayBy 8 (some .int), Cond.methodLink RX7 79 yX7_all, Cond.instanceMethod yX7_all]
def wsX7_play_r2 : List Cond := [Cond.selects RX7 yX7_all yX7_all, Cond.code yX7_all cX7_all 1 (some .int), Cond.methodLink RX7 144 yX7_bagBehind, Cond.instanceMethod yX7_bagBehind, Cond.selects RX7 yX7_bagBehind yX7_bagBehind, Cond.code yX7_bagBehind cX7_bagBehind 4 (some .int), Cond.methodLink RX7 109 yX7_ones, Cond.static yX7_ones, Cond.code yX7_ones cX7_ones 3 (some .int)]
def wsX7_play : List Cond := .code yX7_play cX7_play 2 (some .int) :: ((wsX7_play_r1 ++ wsX7_play_r2) ++ wsX70)
def wsX7_skip : List Cond := .code yX7_skip cX7_skip 1 (some .int) :: ([.fieldLink RX7 38 "SongsAgainModel" "last" "I", .fieldLink RX7 85 "SongsAgainModel" "wasSkipped" "Z", .fieldLink RX7 16 "SongsAgainModel" "rows" "[I", .methodLink RX7 102 yX7_weightOf, .instanceMethod yX7_weightOf, .selects RX7 yX7_weightOf yX7_weightOf, .initialized RX7, .code yX7_weightOf cX7_weightOf 3 (some .int), .methodLink RX7 95 yX7_baseOf, .instanceMethod yX7_baseOf, .selects RX7 yX7_baseOf yX7_baseOf, .code yX7_baseOf cX7_baseOf 2 (some .int)] ++ wsX70)
def wsX7_partsOf_r1 : List Cond := [Cond.fieldLink RX7 73 "SongsAgainModel" "songs" "I", Cond.constantLong RX7 147 (12252240), Cond.methodLink RX7 118 yX7_shareOf, Cond.instanceMethod yX7_shareOf, Cond.selects RX7 yX7_shareOf yX7_shareOf, Cond.initialized RX7, Cond.code yX7_shareOf cX7_shareOf 3 (some .int), Cond.methodLink RX7 105 yX7_sumOf, Cond.instanceMethod yX7_sumOf, Cond.selects RX7 yX7_sumOf yX7_sumOf, Cond.code yX7_sumOf cX7_sumOf 5 (some .int), Cond.methodLink RX7 95 yX7_baseOf, Cond.instanceMethod yX7_baseOf, Cond.selects RX7 yX7_baseOf yX7_baseOf, Cond.code yX7_baseOf cX7_baseOf 2 (some .int), Cond.fieldLink RX7 16 "SongsAgainModel" "rows" "[I", Cond.methodLink RX7 102 yX7_weightOf, Cond.instanceMethod yX7_weightOf, Cond.selects RX7 yX7_weightOf yX7_weightOf, Cond.code yX7_weightOf cX7_weightOf 3 (some .int), Cond.methodLink RX7 115 yX7_sharesOf, Cond.instanceMethod yX7_sharesOf, Cond.selects RX7 yX7_sharesOf yX7_sharesOf, Cond.code yX7_sharesOf cX7_sharesOf 3 (some .int)]
def wsX7_partsOf_r2 : List Cond := [Cond.methodLink RX7 109 yX7_ones, Cond.static yX7_ones, Cond.code yX7_ones cX7_ones 3 (some .int)]
def wsX7_partsOf : List Cond := .code yX7_partsOf cX7_partsOf 6 (some .long) :: ((wsX7_partsOf_r1 ++ wsX7_partsOf_r2) ++ wsX70)
def wsX7_behindOne_r1 : List Cond := [Cond.fieldLink RX7 82 "SongsAgainModel" "bag" "I", Cond.fieldLink RX7 76 "SongsAgainModel" "ruleNow" "I", Cond.fieldLink RX7 73 "SongsAgainModel" "songs" "I", Cond.constantLong RX7 147 (12252240), Cond.methodLink RX7 144 yX7_bagBehind, Cond.instanceMethod yX7_bagBehind, Cond.selects RX7 yX7_bagBehind yX7_bagBehind, Cond.initialized RX7, Cond.code yX7_bagBehind cX7_bagBehind 4 (some .int), Cond.methodLink RX7 79 yX7_all, Cond.instanceMethod yX7_all, Cond.selects RX7 yX7_all yX7_all, Cond.code yX7_all cX7_all 1 (some .int), Cond.methodLink RX7 98 yX7_mayBy, Cond.instanceMethod yX7_mayBy, Cond.selects RX7 yX7_mayBy yX7_mayBy, Cond.code yX7_mayBy cX7_mayBy 8 (some .int), Cond.fieldLink RX7 16 "SongsAgainModel" "rows" "[I", Cond.methodLink RX7 149 yX7_partsOf, Cond.instanceMethod yX7_partsOf, Cond.selects RX7 yX7_partsOf yX7_partsOf, Cond.code yX7_partsOf cX7_partsOf 6 (some .long), Cond.methodLink RX7 118 yX7_shareOf, Cond.instanceMethod yX7_shareOf]
def wsX7_behindOne_r2 : List Cond := [Cond.selects RX7 yX7_shareOf yX7_shareOf, Cond.code yX7_shareOf cX7_shareOf 3 (some .int), Cond.methodLink RX7 105 yX7_sumOf, Cond.instanceMethod yX7_sumOf, Cond.selects RX7 yX7_sumOf yX7_sumOf, Cond.code yX7_sumOf cX7_sumOf 5 (some .int), Cond.methodLink RX7 95 yX7_baseOf, Cond.instanceMethod yX7_baseOf, Cond.selects RX7 yX7_baseOf yX7_baseOf, Cond.code yX7_baseOf cX7_baseOf 2 (some .int), Cond.methodLink RX7 102 yX7_weightOf, Cond.instanceMethod yX7_weightOf, Cond.selects RX7 yX7_weightOf yX7_weightOf, Cond.code yX7_weightOf cX7_weightOf 3 (some .int), Cond.methodLink RX7 115 yX7_sharesOf, Cond.instanceMethod yX7_sharesOf, Cond.selects RX7 yX7_sharesOf yX7_sharesOf, Cond.code yX7_sharesOf cX7_sharesOf 3 (some .int), Cond.methodLink RX7 109 yX7_ones, Cond.static yX7_ones, Cond.code yX7_ones cX7_ones 3 (some .int)]
def wsX7_behindOne : List Cond := .code yX7_behindOne cX7_behindOne 11 (some .long) :: ((wsX7_behindOne_r1 ++ wsX7_behindOne_r2) ++ wsX70)
def wsX7_twiceOf_r1 : List Cond := [Cond.fieldLink RX7 73 "SongsAgainModel" "songs" "I", Cond.constantLong RX7 147 (12252240), Cond.methodLink RX7 112 yX7_mayNow, Cond.instanceMethod yX7_mayNow, Cond.selects RX7 yX7_mayNow yX7_mayNow, Cond.initialized RX7, Cond.code yX7_mayNow cX7_mayNow 1 (some .int), Cond.fieldLink RX7 76 "SongsAgainModel" "ruleNow" "I", Cond.fieldLink RX7 82 "SongsAgainModel" "bag" "I", Cond.fieldLink RX7 38 "SongsAgainModel" "last" "I", Cond.methodLink RX7 98 yX7_mayBy, Cond.instanceMethod yX7_mayBy, Cond.selects RX7 yX7_mayBy yX7_mayBy, Cond.code yX7_mayBy cX7_mayBy 8 (some .int), Cond.fieldLink RX7 16 "SongsAgainModel" "rows" "[I", Cond.methodLink RX7 79 yX7_all, Cond.instanceMethod yX7_all, Cond.selects RX7 yX7_all yX7_all, Cond.code yX7_all cX7_all 1 (some .int), Cond.methodLink RX7 118 yX7_shareOf, Cond.instanceMethod yX7_shareOf, Cond.selects RX7 yX7_shareOf yX7_shareOf, Cond.code yX7_shareOf cX7_shareOf 3 (some .int), Cond.methodLink RX7 105 yX7_sumOf]
def wsX7_twiceOf_r2 : List Cond := [Cond.instanceMethod yX7_sumOf, Cond.selects RX7 yX7_sumOf yX7_sumOf, Cond.code yX7_sumOf cX7_sumOf 5 (some .int), Cond.methodLink RX7 95 yX7_baseOf, Cond.instanceMethod yX7_baseOf, Cond.selects RX7 yX7_baseOf yX7_baseOf, Cond.code yX7_baseOf cX7_baseOf 2 (some .int), Cond.methodLink RX7 102 yX7_weightOf, Cond.instanceMethod yX7_weightOf, Cond.selects RX7 yX7_weightOf yX7_weightOf, Cond.code yX7_weightOf cX7_weightOf 3 (some .int), Cond.methodLink RX7 153 yX7_behindOne, Cond.instanceMethod yX7_behindOne, Cond.selects RX7 yX7_behindOne yX7_behindOne, Cond.code yX7_behindOne cX7_behindOne 11 (some .long), Cond.methodLink RX7 144 yX7_bagBehind, Cond.instanceMethod yX7_bagBehind, Cond.selects RX7 yX7_bagBehind yX7_bagBehind, Cond.code yX7_bagBehind cX7_bagBehind 4 (some .int), Cond.methodLink RX7 149 yX7_partsOf, Cond.instanceMethod yX7_partsOf, Cond.selects RX7 yX7_partsOf yX7_partsOf, Cond.code yX7_partsOf cX7_partsOf 6 (some .long), Cond.methodLink RX7 115 yX7_sharesOf]
def wsX7_twiceOf_r3 : List Cond := [Cond.instanceMethod yX7_sharesOf, Cond.selects RX7 yX7_sharesOf yX7_sharesOf, Cond.code yX7_sharesOf cX7_sharesOf 3 (some .int), Cond.methodLink RX7 109 yX7_ones, Cond.static yX7_ones, Cond.code yX7_ones cX7_ones 3 (some .int), Cond.methodLink RX7 122 yX7_common, Cond.static yX7_common, Cond.code yX7_common cX7_common 10 (some .long)]
def wsX7_twiceOf : List Cond := .code yX7_twiceOf cX7_twiceOf 10 (some .long) :: ((wsX7_twiceOf_r1 ++ (wsX7_twiceOf_r2 ++ wsX7_twiceOf_r3)) ++ wsX70)
def wsX7_twice_r1 : List Cond := [Cond.constantLong RX7 156 (2), Cond.constantLong RX7 60 (3), Cond.constantLong RX7 158 (-102), Cond.constantLong RX7 160 (-103), Cond.methodLink RX7 43 yX7_in, Cond.static yX7_in, Cond.initialized RX7, Cond.code yX7_in cX7_in 6 (some .boolean), Cond.methodLink RX7 140 yX7_lacks, Cond.instanceMethod yX7_lacks, Cond.selects RX7 yX7_lacks yX7_lacks, Cond.code yX7_lacks cX7_lacks 1 (some .boolean), Cond.fieldLink RX7 73 "SongsAgainModel" "songs" "I", Cond.methodLink RX7 162 yX7_twiceOf, Cond.instanceMethod yX7_twiceOf, Cond.selects RX7 yX7_twiceOf yX7_twiceOf, Cond.code yX7_twiceOf cX7_twiceOf 10 (some .long), Cond.constantLong RX7 147 (12252240), Cond.methodLink RX7 112 yX7_mayNow, Cond.instanceMethod yX7_mayNow, Cond.selects RX7 yX7_mayNow yX7_mayNow, Cond.code yX7_mayNow cX7_mayNow 1 (some .int), Cond.fieldLink RX7 76 "SongsAgainModel" "ruleNow" "I", Cond.fieldLink RX7 82 "SongsAgainModel" "bag" "I"]
def wsX7_twice_r2 : List Cond := [Cond.fieldLink RX7 38 "SongsAgainModel" "last" "I", Cond.methodLink RX7 98 yX7_mayBy, Cond.instanceMethod yX7_mayBy, Cond.selects RX7 yX7_mayBy yX7_mayBy, Cond.code yX7_mayBy cX7_mayBy 8 (some .int), Cond.fieldLink RX7 16 "SongsAgainModel" "rows" "[I", Cond.methodLink RX7 79 yX7_all, Cond.instanceMethod yX7_all, Cond.selects RX7 yX7_all yX7_all, Cond.code yX7_all cX7_all 1 (some .int), Cond.methodLink RX7 118 yX7_shareOf, Cond.instanceMethod yX7_shareOf, Cond.selects RX7 yX7_shareOf yX7_shareOf, Cond.code yX7_shareOf cX7_shareOf 3 (some .int), Cond.methodLink RX7 105 yX7_sumOf, Cond.instanceMethod yX7_sumOf, Cond.selects RX7 yX7_sumOf yX7_sumOf, Cond.code yX7_sumOf cX7_sumOf 5 (some .int), Cond.methodLink RX7 95 yX7_baseOf, Cond.instanceMethod yX7_baseOf, Cond.selects RX7 yX7_baseOf yX7_baseOf, Cond.code yX7_baseOf cX7_baseOf 2 (some .int), Cond.methodLink RX7 102 yX7_weightOf, Cond.instanceMethod yX7_weightOf]
def wsX7_twice_r3 : List Cond := [Cond.selects RX7 yX7_weightOf yX7_weightOf, Cond.code yX7_weightOf cX7_weightOf 3 (some .int), Cond.methodLink RX7 153 yX7_behindOne, Cond.instanceMethod yX7_behindOne, Cond.selects RX7 yX7_behindOne yX7_behindOne, Cond.code yX7_behindOne cX7_behindOne 11 (some .long), Cond.methodLink RX7 144 yX7_bagBehind, Cond.instanceMethod yX7_bagBehind, Cond.selects RX7 yX7_bagBehind yX7_bagBehind, Cond.code yX7_bagBehind cX7_bagBehind 4 (some .int), Cond.methodLink RX7 149 yX7_partsOf, Cond.instanceMethod yX7_partsOf, Cond.selects RX7 yX7_partsOf yX7_partsOf, Cond.code yX7_partsOf cX7_partsOf 6 (some .long), Cond.methodLink RX7 115 yX7_sharesOf, Cond.instanceMethod yX7_sharesOf, Cond.selects RX7 yX7_sharesOf yX7_sharesOf, Cond.code yX7_sharesOf cX7_sharesOf 3 (some .int), Cond.methodLink RX7 109 yX7_ones, Cond.static yX7_ones, Cond.code yX7_ones cX7_ones 3 (some .int), Cond.methodLink RX7 122 yX7_common, Cond.static yX7_common, Cond.code yX7_common cX7_common 10 (some .long)]
def wsX7_twice : List Cond := .code yX7_twice cX7_twice 3 (some .long) :: ((wsX7_twice_r1 ++ (wsX7_twice_r2 ++ wsX7_twice_r3)) ++ wsX70)
def wsX7_layRow : List Cond := .code yX7_layRow cX7_layRow 7 (some .boolean) :: ([.fieldLink RX7 165 "SongsAgainModel" "rowMany" "I", .fieldLink RX7 19 "SongsAgainModel" "row" "[I", .fieldLink RX7 73 "SongsAgainModel" "songs" "I", .fieldLink RX7 16 "SongsAgainModel" "rows" "[I"] ++ wsX70)
def wsX7_partyOf : List Cond := .code yX7_partyOf cX7_partyOf 6 (some .int) :: ([.fieldLink RX7 165 "SongsAgainModel" "rowMany" "I", .fieldLink RX7 73 "SongsAgainModel" "songs" "I", .fieldLink RX7 19 "SongsAgainModel" "row" "[I", .fieldLink RX7 22 "SongsAgainModel" "bestRow" "[I", .methodLink RX7 109 yX7_ones, .static yX7_ones, .initialized RX7, .code yX7_ones cX7_ones 3 (some .int), .methodLink RX7 168 yX7_layRow, .instanceMethod yX7_layRow, .selects RX7 yX7_layRow yX7_layRow, .code yX7_layRow cX7_layRow 7 (some .boolean), .fieldLink RX7 16 "SongsAgainModel" "rows" "[I", .methodLink RX7 172 yX7_copy, .static yX7_copy, .code yX7_copy cX7_copy 3 none] ++ wsX70)
def wsX7_party_r1 : List Cond := [Cond.constantLong RX7 176 (10), Cond.constantLong RX7 178 (15), Cond.methodLink RX7 79 yX7_all, Cond.instanceMethod yX7_all, Cond.selects RX7 yX7_all yX7_all, Cond.initialized RX7, Cond.code yX7_all cX7_all 1 (some .int), Cond.fieldLink RX7 73 "SongsAgainModel" "songs" "I", Cond.methodLink RX7 43 yX7_in, Cond.static yX7_in, Cond.code yX7_in cX7_in 6 (some .boolean), Cond.methodLink RX7 140 yX7_lacks, Cond.instanceMethod yX7_lacks, Cond.selects RX7 yX7_lacks yX7_lacks, Cond.code yX7_lacks cX7_lacks 1 (some .boolean), Cond.methodLink RX7 180 yX7_partyOf, Cond.instanceMethod yX7_partyOf, Cond.selects RX7 yX7_partyOf yX7_partyOf, Cond.code yX7_partyOf cX7_partyOf 6 (some .int), Cond.fieldLink RX7 165 "SongsAgainModel" "rowMany" "I", Cond.fieldLink RX7 19 "SongsAgainModel" "row" "[I", Cond.fieldLink RX7 22 "SongsAgainModel" "bestRow" "[I", Cond.methodLink RX7 109 yX7_ones, Cond.static yX7_ones]
def wsX7_party_r2 : List Cond := [Cond.code yX7_ones cX7_ones 3 (some .int), Cond.methodLink RX7 168 yX7_layRow, Cond.instanceMethod yX7_layRow, Cond.selects RX7 yX7_layRow yX7_layRow, Cond.code yX7_layRow cX7_layRow 7 (some .boolean), Cond.fieldLink RX7 16 "SongsAgainModel" "rows" "[I", Cond.methodLink RX7 172 yX7_copy, Cond.static yX7_copy, Cond.code yX7_copy cX7_copy 3 none]
def wsX7_party : List Cond := .code yX7_party cX7_party 3 (some .int) :: ((wsX7_party_r1 ++ wsX7_party_r2) ++ wsX70)
def wsX7_hear : List Cond := .code yX7_hear cX7_hear 2 (some .int) :: ([.fieldLink RX7 89 "SongsAgainModel" "heardMany" "I", .fieldLink RX7 25 "SongsAgainModel" "heards" "[I", .methodLink RX7 132 yX7_isSong, .instanceMethod yX7_isSong, .selects RX7 yX7_isSong yX7_isSong, .initialized RX7, .code yX7_isSong cX7_isSong 2 (some .boolean), .fieldLink RX7 73 "SongsAgainModel" "songs" "I", .methodLink RX7 43 yX7_in, .static yX7_in, .code yX7_in cX7_in 6 (some .boolean)] ++ wsX70)
def wsX7_forget : List Cond := .code yX7_forget cX7_forget 2 (some .int) :: ([.fieldLink RX7 89 "SongsAgainModel" "heardMany" "I"] ++ wsX70)
def wsX7_layHeard_r1 : List Cond := [Cond.fieldLink RX7 183 "SongsAgainModel" "heardUp" "J", Cond.fieldLink RX7 187 "SongsAgainModel" "heardLow" "J", Cond.fieldLink RX7 89 "SongsAgainModel" "heardMany" "I", Cond.fieldLink RX7 25 "SongsAgainModel" "heards" "[I", Cond.methodLink RX7 79 yX7_all, Cond.instanceMethod yX7_all, Cond.selects RX7 yX7_all yX7_all, Cond.initialized RX7, Cond.code yX7_all cX7_all 1 (some .int), Cond.fieldLink RX7 73 "SongsAgainModel" "songs" "I", Cond.methodLink RX7 98 yX7_mayBy, Cond.instanceMethod yX7_mayBy, Cond.selects RX7 yX7_mayBy yX7_mayBy, Cond.code yX7_mayBy cX7_mayBy 8 (some .int), Cond.fieldLink RX7 16 "SongsAgainModel" "rows" "[I", Cond.methodLink RX7 95 yX7_baseOf, Cond.instanceMethod yX7_baseOf, Cond.selects RX7 yX7_baseOf yX7_baseOf, Cond.code yX7_baseOf cX7_baseOf 2 (some .int), Cond.methodLink RX7 105 yX7_sumOf, Cond.instanceMethod yX7_sumOf, Cond.selects RX7 yX7_sumOf yX7_sumOf, Cond.code yX7_sumOf cX7_sumOf 5 (some .int), Cond.methodLink RX7 102 yX7_weightOf]
def wsX7_layHeard_r2 : List Cond := [Cond.instanceMethod yX7_weightOf, Cond.selects RX7 yX7_weightOf yX7_weightOf, Cond.code yX7_weightOf cX7_weightOf 3 (some .int), Cond.methodLink RX7 144 yX7_bagBehind, Cond.instanceMethod yX7_bagBehind, Cond.selects RX7 yX7_bagBehind yX7_bagBehind, Cond.code yX7_bagBehind cX7_bagBehind 4 (some .int)]
def wsX7_layHeard : List Cond := .code yX7_layHeard cX7_layHeard 7 none :: ((wsX7_layHeard_r1 ++ wsX7_layHeard_r2) ++ wsX70)
def wsX7_rulesOf_r1 : List Cond := [Cond.fieldLink RX7 183 "SongsAgainModel" "heardUp" "J", Cond.methodLink RX7 190 yX7_layHeard, Cond.instanceMethod yX7_layHeard, Cond.selects RX7 yX7_layHeard yX7_layHeard, Cond.initialized RX7, Cond.code yX7_layHeard cX7_layHeard 7 none, Cond.fieldLink RX7 187 "SongsAgainModel" "heardLow" "J", Cond.fieldLink RX7 89 "SongsAgainModel" "heardMany" "I", Cond.fieldLink RX7 25 "SongsAgainModel" "heards" "[I", Cond.methodLink RX7 79 yX7_all, Cond.instanceMethod yX7_all, Cond.selects RX7 yX7_all yX7_all, Cond.code yX7_all cX7_all 1 (some .int), Cond.fieldLink RX7 73 "SongsAgainModel" "songs" "I", Cond.methodLink RX7 98 yX7_mayBy, Cond.instanceMethod yX7_mayBy, Cond.selects RX7 yX7_mayBy yX7_mayBy, Cond.code yX7_mayBy cX7_mayBy 8 (some .int), Cond.fieldLink RX7 16 "SongsAgainModel" "rows" "[I", Cond.methodLink RX7 95 yX7_baseOf, Cond.instanceMethod yX7_baseOf, Cond.selects RX7 yX7_baseOf yX7_baseOf, Cond.code yX7_baseOf cX7_baseOf 2 (some .int), Cond.methodLink RX7 105 yX7_sumOf]
def wsX7_rulesOf_r2 : List Cond := [Cond.instanceMethod yX7_sumOf, Cond.selects RX7 yX7_sumOf yX7_sumOf, Cond.code yX7_sumOf cX7_sumOf 5 (some .int), Cond.methodLink RX7 102 yX7_weightOf, Cond.instanceMethod yX7_weightOf, Cond.selects RX7 yX7_weightOf yX7_weightOf, Cond.code yX7_weightOf cX7_weightOf 3 (some .int), Cond.methodLink RX7 144 yX7_bagBehind, Cond.instanceMethod yX7_bagBehind, Cond.selects RX7 yX7_bagBehind yX7_bagBehind, Cond.code yX7_bagBehind cX7_bagBehind 4 (some .int)]
def wsX7_rulesOf : List Cond := .code yX7_rulesOf cX7_rulesOf 3 (some .int) :: ((wsX7_rulesOf_r1 ++ wsX7_rulesOf_r2) ++ wsX70)
def wsX7_rules_r1 : List Cond := [Cond.methodLink RX7 140 yX7_lacks, Cond.instanceMethod yX7_lacks, Cond.selects RX7 yX7_lacks yX7_lacks, Cond.initialized RX7, Cond.code yX7_lacks cX7_lacks 1 (some .boolean), Cond.fieldLink RX7 73 "SongsAgainModel" "songs" "I", Cond.methodLink RX7 194 yX7_rulesOf, Cond.instanceMethod yX7_rulesOf, Cond.selects RX7 yX7_rulesOf yX7_rulesOf, Cond.code yX7_rulesOf cX7_rulesOf 3 (some .int), Cond.fieldLink RX7 183 "SongsAgainModel" "heardUp" "J", Cond.methodLink RX7 190 yX7_layHeard, Cond.instanceMethod yX7_layHeard, Cond.selects RX7 yX7_layHeard yX7_layHeard, Cond.code yX7_layHeard cX7_layHeard 7 none, Cond.fieldLink RX7 187 "SongsAgainModel" "heardLow" "J", Cond.fieldLink RX7 89 "SongsAgainModel" "heardMany" "I", Cond.fieldLink RX7 25 "SongsAgainModel" "heards" "[I", Cond.methodLink RX7 79 yX7_all, Cond.instanceMethod yX7_all, Cond.selects RX7 yX7_all yX7_all, Cond.code yX7_all cX7_all 1 (some .int), Cond.methodLink RX7 98 yX7_mayBy, Cond.instanceMethod yX7_mayBy]
def wsX7_rules_r2 : List Cond := [Cond.selects RX7 yX7_mayBy yX7_mayBy, Cond.code yX7_mayBy cX7_mayBy 8 (some .int), Cond.fieldLink RX7 16 "SongsAgainModel" "rows" "[I", Cond.methodLink RX7 95 yX7_baseOf, Cond.instanceMethod yX7_baseOf, Cond.selects RX7 yX7_baseOf yX7_baseOf, Cond.code yX7_baseOf cX7_baseOf 2 (some .int), Cond.methodLink RX7 105 yX7_sumOf, Cond.instanceMethod yX7_sumOf, Cond.selects RX7 yX7_sumOf yX7_sumOf, Cond.code yX7_sumOf cX7_sumOf 5 (some .int), Cond.methodLink RX7 102 yX7_weightOf, Cond.instanceMethod yX7_weightOf, Cond.selects RX7 yX7_weightOf yX7_weightOf, Cond.code yX7_weightOf cX7_weightOf 3 (some .int), Cond.methodLink RX7 144 yX7_bagBehind, Cond.instanceMethod yX7_bagBehind, Cond.selects RX7 yX7_bagBehind yX7_bagBehind, Cond.code yX7_bagBehind cX7_bagBehind 4 (some .int)]
def wsX7_rules : List Cond := .code yX7_rules cX7_rules 1 (some .int) :: ((wsX7_rules_r1 ++ wsX7_rules_r2) ++ wsX70)
def wsX7_likelyOf_r1 : List Cond := [Cond.fieldLink RX7 183 "SongsAgainModel" "heardUp" "J", Cond.fieldLink RX7 187 "SongsAgainModel" "heardLow" "J", Cond.methodLink RX7 190 yX7_layHeard, Cond.instanceMethod yX7_layHeard, Cond.selects RX7 yX7_layHeard yX7_layHeard, Cond.initialized RX7, Cond.code yX7_layHeard cX7_layHeard 7 none, Cond.fieldLink RX7 89 "SongsAgainModel" "heardMany" "I", Cond.fieldLink RX7 25 "SongsAgainModel" "heards" "[I", Cond.methodLink RX7 79 yX7_all, Cond.instanceMethod yX7_all, Cond.selects RX7 yX7_all yX7_all, Cond.code yX7_all cX7_all 1 (some .int), Cond.fieldLink RX7 73 "SongsAgainModel" "songs" "I", Cond.methodLink RX7 98 yX7_mayBy, Cond.instanceMethod yX7_mayBy, Cond.selects RX7 yX7_mayBy yX7_mayBy, Cond.code yX7_mayBy cX7_mayBy 8 (some .int), Cond.fieldLink RX7 16 "SongsAgainModel" "rows" "[I", Cond.methodLink RX7 95 yX7_baseOf, Cond.instanceMethod yX7_baseOf, Cond.selects RX7 yX7_baseOf yX7_baseOf, Cond.code yX7_baseOf cX7_baseOf 2 (some .int), Cond.methodLink RX7 105 yX7_sumOf]
def wsX7_likelyOf_r2 : List Cond := [Cond.instanceMethod yX7_sumOf, Cond.selects RX7 yX7_sumOf yX7_sumOf, Cond.code yX7_sumOf cX7_sumOf 5 (some .int), Cond.methodLink RX7 102 yX7_weightOf, Cond.instanceMethod yX7_weightOf, Cond.selects RX7 yX7_weightOf yX7_weightOf, Cond.code yX7_weightOf cX7_weightOf 3 (some .int), Cond.methodLink RX7 144 yX7_bagBehind, Cond.instanceMethod yX7_bagBehind, Cond.selects RX7 yX7_bagBehind yX7_bagBehind, Cond.code yX7_bagBehind cX7_bagBehind 4 (some .int)]
def wsX7_likelyOf : List Cond := .code yX7_likelyOf cX7_likelyOf 7 (some .int) :: ((wsX7_likelyOf_r1 ++ wsX7_likelyOf_r2) ++ wsX70)
def wsX7_likely_r1 : List Cond := [Cond.methodLink RX7 140 yX7_lacks, Cond.instanceMethod yX7_lacks, Cond.selects RX7 yX7_lacks yX7_lacks, Cond.initialized RX7, Cond.code yX7_lacks cX7_lacks 1 (some .boolean), Cond.fieldLink RX7 73 "SongsAgainModel" "songs" "I", Cond.methodLink RX7 197 yX7_likelyOf, Cond.instanceMethod yX7_likelyOf, Cond.selects RX7 yX7_likelyOf yX7_likelyOf, Cond.code yX7_likelyOf cX7_likelyOf 7 (some .int), Cond.fieldLink RX7 183 "SongsAgainModel" "heardUp" "J", Cond.fieldLink RX7 187 "SongsAgainModel" "heardLow" "J", Cond.methodLink RX7 190 yX7_layHeard, Cond.instanceMethod yX7_layHeard, Cond.selects RX7 yX7_layHeard yX7_layHeard, Cond.code yX7_layHeard cX7_layHeard 7 none, Cond.fieldLink RX7 89 "SongsAgainModel" "heardMany" "I", Cond.fieldLink RX7 25 "SongsAgainModel" "heards" "[I", Cond.methodLink RX7 79 yX7_all, Cond.instanceMethod yX7_all, Cond.selects RX7 yX7_all yX7_all, Cond.code yX7_all cX7_all 1 (some .int), Cond.methodLink RX7 98 yX7_mayBy, Cond.instanceMethod yX7_mayBy]
def wsX7_likely_r2 : List Cond := [Cond.selects RX7 yX7_mayBy yX7_mayBy, Cond.code yX7_mayBy cX7_mayBy 8 (some .int), Cond.fieldLink RX7 16 "SongsAgainModel" "rows" "[I", Cond.methodLink RX7 95 yX7_baseOf, Cond.instanceMethod yX7_baseOf, Cond.selects RX7 yX7_baseOf yX7_baseOf, Cond.code yX7_baseOf cX7_baseOf 2 (some .int), Cond.methodLink RX7 105 yX7_sumOf, Cond.instanceMethod yX7_sumOf, Cond.selects RX7 yX7_sumOf yX7_sumOf, Cond.code yX7_sumOf cX7_sumOf 5 (some .int), Cond.methodLink RX7 102 yX7_weightOf, Cond.instanceMethod yX7_weightOf, Cond.selects RX7 yX7_weightOf yX7_weightOf, Cond.code yX7_weightOf cX7_weightOf 3 (some .int), Cond.methodLink RX7 144 yX7_bagBehind, Cond.instanceMethod yX7_bagBehind, Cond.selects RX7 yX7_bagBehind yX7_bagBehind, Cond.code yX7_bagBehind cX7_bagBehind 4 (some .int)]
def wsX7_likely : List Cond := .code yX7_likely cX7_likely 1 (some .int) :: ((wsX7_likely_r1 ++ wsX7_likely_r2) ++ wsX70)
def wsX7_draw : List Cond := .code yX7_draw cX7_draw 2 (some .int) :: ([.constantLong RX7 200 (1103515245), .fieldLink RX7 202 "SongsAgainModel" "seedNow" "I", .constantLong RX7 205 (12345), .constantLong RX7 207 (2147483647), .constant RX7 209 (65536)] ++ wsX70)
def wsX7_drawn_r1 : List Cond := [Cond.methodLink RX7 115 yX7_sharesOf, Cond.instanceMethod yX7_sharesOf, Cond.selects RX7 yX7_sharesOf yX7_sharesOf, Cond.initialized RX7, Cond.code yX7_sharesOf cX7_sharesOf 3 (some .int), Cond.methodLink RX7 105 yX7_sumOf, Cond.instanceMethod yX7_sumOf, Cond.selects RX7 yX7_sumOf yX7_sumOf, Cond.code yX7_sumOf cX7_sumOf 5 (some .int), Cond.fieldLink RX7 73 "SongsAgainModel" "songs" "I", Cond.methodLink RX7 95 yX7_baseOf, Cond.instanceMethod yX7_baseOf, Cond.selects RX7 yX7_baseOf yX7_baseOf, Cond.code yX7_baseOf cX7_baseOf 2 (some .int), Cond.fieldLink RX7 16 "SongsAgainModel" "rows" "[I", Cond.methodLink RX7 102 yX7_weightOf, Cond.instanceMethod yX7_weightOf, Cond.selects RX7 yX7_weightOf yX7_weightOf, Cond.code yX7_weightOf cX7_weightOf 3 (some .int), Cond.methodLink RX7 109 yX7_ones, Cond.static yX7_ones, Cond.code yX7_ones cX7_ones 3 (some .int), Cond.methodLink RX7 210 yX7_draw, Cond.instanceMethod yX7_draw]
def wsX7_drawn_r2 : List Cond := [Cond.selects RX7 yX7_draw yX7_draw, Cond.code yX7_draw cX7_draw 2 (some .int), Cond.constantLong RX7 200 (1103515245), Cond.fieldLink RX7 202 "SongsAgainModel" "seedNow" "I", Cond.constantLong RX7 205 (12345), Cond.constantLong RX7 207 (2147483647), Cond.constant RX7 209 (65536), Cond.methodLink RX7 118 yX7_shareOf, Cond.instanceMethod yX7_shareOf, Cond.selects RX7 yX7_shareOf yX7_shareOf, Cond.code yX7_shareOf cX7_shareOf 3 (some .int)]
def wsX7_drawn : List Cond := .code yX7_drawn cX7_drawn 4 (some .int) :: ((wsX7_drawn_r1 ++ wsX7_drawn_r2) ++ wsX70)
def wsX7_evenings_r1 : List Cond := [Cond.constantLong RX7 213 (60), Cond.constantLong RX7 156 (2), Cond.fieldLink RX7 202 "SongsAgainModel" "seedNow" "I", Cond.fieldLink RX7 82 "SongsAgainModel" "bag" "I", Cond.fieldLink RX7 38 "SongsAgainModel" "last" "I", Cond.fieldLink RX7 76 "SongsAgainModel" "ruleNow" "I", Cond.methodLink RX7 43 yX7_in, Cond.static yX7_in, Cond.initialized RX7, Cond.code yX7_in cX7_in 6 (some .boolean), Cond.methodLink RX7 140 yX7_lacks, Cond.instanceMethod yX7_lacks, Cond.selects RX7 yX7_lacks yX7_lacks, Cond.code yX7_lacks cX7_lacks 1 (some .boolean), Cond.fieldLink RX7 73 "SongsAgainModel" "songs" "I", Cond.methodLink RX7 98 yX7_mayBy, Cond.instanceMethod yX7_mayBy, Cond.selects RX7 yX7_mayBy yX7_mayBy, Cond.code yX7_mayBy cX7_mayBy 8 (some .int), Cond.fieldLink RX7 16 "SongsAgainModel" "rows" "[I", Cond.methodLink RX7 79 yX7_all, Cond.instanceMethod yX7_all, Cond.selects RX7 yX7_all yX7_all, Cond.code yX7_all cX7_all 1 (some .int)]
def wsX7_evenings_r2 : List Cond := [Cond.methodLink RX7 215 yX7_drawn, Cond.instanceMethod yX7_drawn, Cond.selects RX7 yX7_drawn yX7_drawn, Cond.code yX7_drawn cX7_drawn 4 (some .int), Cond.methodLink RX7 115 yX7_sharesOf, Cond.instanceMethod yX7_sharesOf, Cond.selects RX7 yX7_sharesOf yX7_sharesOf, Cond.code yX7_sharesOf cX7_sharesOf 3 (some .int), Cond.methodLink RX7 105 yX7_sumOf, Cond.instanceMethod yX7_sumOf, Cond.selects RX7 yX7_sumOf yX7_sumOf, Cond.code yX7_sumOf cX7_sumOf 5 (some .int), Cond.methodLink RX7 95 yX7_baseOf, Cond.instanceMethod yX7_baseOf, Cond.selects RX7 yX7_baseOf yX7_baseOf, Cond.code yX7_baseOf cX7_baseOf 2 (some .int), Cond.methodLink RX7 102 yX7_weightOf, Cond.instanceMethod yX7_weightOf, Cond.selects RX7 yX7_weightOf yX7_weightOf, Cond.code yX7_weightOf cX7_weightOf 3 (some .int), Cond.methodLink RX7 109 yX7_ones, Cond.static yX7_ones, Cond.code yX7_ones cX7_ones 3 (some .int), Cond.methodLink RX7 210 yX7_draw]
def wsX7_evenings_r3 : List Cond := [Cond.instanceMethod yX7_draw, Cond.selects RX7 yX7_draw yX7_draw, Cond.code yX7_draw cX7_draw 2 (some .int), Cond.constantLong RX7 200 (1103515245), Cond.constantLong RX7 205 (12345), Cond.constantLong RX7 207 (2147483647), Cond.constant RX7 209 (65536), Cond.methodLink RX7 118 yX7_shareOf, Cond.instanceMethod yX7_shareOf, Cond.selects RX7 yX7_shareOf yX7_shareOf, Cond.code yX7_shareOf cX7_shareOf 3 (some .int), Cond.methodLink RX7 144 yX7_bagBehind, Cond.instanceMethod yX7_bagBehind, Cond.selects RX7 yX7_bagBehind yX7_bagBehind, Cond.code yX7_bagBehind cX7_bagBehind 4 (some .int), Cond.methodLink RX7 126 yX7_minutesOf, Cond.instanceMethod yX7_minutesOf, Cond.selects RX7 yX7_minutesOf yX7_minutesOf, Cond.code yX7_minutesOf cX7_minutesOf 2 (some .int)]
def wsX7_evenings : List Cond := .code yX7_evenings cX7_evenings 9 (some .int) :: ((wsX7_evenings_r1 ++ (wsX7_evenings_r2 ++ wsX7_evenings_r3)) ++ wsX70)
def wsX7_sumAt : List Cond := .code yX7_sumAt cX7_sumAt 4 (some .int) :: ([.fieldLink RX7 73 "SongsAgainModel" "songs" "I", .fieldLink RX7 16 "SongsAgainModel" "rows" "[I"] ++ wsX70)
def wsX7_image_r1 : List Cond := [Cond.fieldLink RX7 16 "SongsAgainModel" "rows" "[I", Cond.fieldLink RX7 28 "SongsAgainModel" "keptRows" "[I", Cond.fieldLink RX7 25 "SongsAgainModel" "heards" "[I", Cond.fieldLink RX7 31 "SongsAgainModel" "keptHeards" "[I", Cond.fieldLink RX7 76 "SongsAgainModel" "ruleNow" "I", Cond.fieldLink RX7 218 "SongsAgainModel" "keptRule" "I", Cond.fieldLink RX7 82 "SongsAgainModel" "bag" "I", Cond.fieldLink RX7 221 "SongsAgainModel" "keptBag" "I", Cond.fieldLink RX7 38 "SongsAgainModel" "last" "I", Cond.fieldLink RX7 224 "SongsAgainModel" "keptLast" "I", Cond.fieldLink RX7 85 "SongsAgainModel" "wasSkipped" "Z", Cond.fieldLink RX7 227 "SongsAgainModel" "keptSkipped" "Z", Cond.fieldLink RX7 89 "SongsAgainModel" "heardMany" "I", Cond.fieldLink RX7 230 "SongsAgainModel" "keptHeard" "I", Cond.fieldLink RX7 92 "SongsAgainModel" "playersRead" "I", Cond.fieldLink RX7 34 "SongsAgainModel" "keptPlayer" "I", Cond.methodLink RX7 140 yX7_lacks, Cond.instanceMethod yX7_lacks, Cond.selects RX7 yX7_lacks yX7_lacks, Cond.initialized RX7, Cond.code yX7_lacks cX7_lacks 1 (some .boolean), Cond.fieldLink RX7 73 "SongsAgainModel" "songs" "I", Cond.methodLink RX7 172 yX7_copy, Cond.static yX7_copy]
def wsX7_image_r2 : List Cond := [Cond.code yX7_copy cX7_copy 3 none, Cond.methodLink RX7 233 yX7_sumAt, Cond.instanceMethod yX7_sumAt, Cond.selects RX7 yX7_sumAt yX7_sumAt, Cond.code yX7_sumAt cX7_sumAt 4 (some .int)]
def wsX7_image : List Cond := .code yX7_image cX7_image 1 (some .int) :: ((wsX7_image_r1 ++ wsX7_image_r2) ++ wsX70)
def wsX7_restore_r1 : List Cond := [Cond.fieldLink RX7 34 "SongsAgainModel" "keptPlayer" "I", Cond.fieldLink RX7 92 "SongsAgainModel" "playersRead" "I", Cond.fieldLink RX7 28 "SongsAgainModel" "keptRows" "[I", Cond.fieldLink RX7 16 "SongsAgainModel" "rows" "[I", Cond.fieldLink RX7 31 "SongsAgainModel" "keptHeards" "[I", Cond.fieldLink RX7 25 "SongsAgainModel" "heards" "[I", Cond.fieldLink RX7 218 "SongsAgainModel" "keptRule" "I", Cond.fieldLink RX7 76 "SongsAgainModel" "ruleNow" "I", Cond.fieldLink RX7 221 "SongsAgainModel" "keptBag" "I", Cond.fieldLink RX7 82 "SongsAgainModel" "bag" "I", Cond.fieldLink RX7 224 "SongsAgainModel" "keptLast" "I", Cond.fieldLink RX7 38 "SongsAgainModel" "last" "I", Cond.fieldLink RX7 227 "SongsAgainModel" "keptSkipped" "Z", Cond.fieldLink RX7 85 "SongsAgainModel" "wasSkipped" "Z", Cond.fieldLink RX7 230 "SongsAgainModel" "keptHeard" "I", Cond.fieldLink RX7 89 "SongsAgainModel" "heardMany" "I", Cond.methodLink RX7 172 yX7_copy, Cond.static yX7_copy, Cond.initialized RX7, Cond.code yX7_copy cX7_copy 3 none, Cond.methodLink RX7 233 yX7_sumAt, Cond.instanceMethod yX7_sumAt, Cond.selects RX7 yX7_sumAt yX7_sumAt, Cond.code yX7_sumAt cX7_sumAt 4 (some .int)]
def wsX7_restore_r2 : List Cond := [Cond.fieldLink RX7 73 "SongsAgainModel" "songs" "I"]
def wsX7_restore : List Cond := .code yX7_restore cX7_restore 1 (some .int) :: ((wsX7_restore_r1 ++ wsX7_restore_r2) ++ wsX70)
def wsX7_minutesAll : List Cond := .code yX7_minutesAll cX7_minutesAll 3 (some .int) :: ([.fieldLink RX7 73 "SongsAgainModel" "songs" "I", .fieldLink RX7 16 "SongsAgainModel" "rows" "[I", .methodLink RX7 126 yX7_minutesOf, .instanceMethod yX7_minutesOf, .selects RX7 yX7_minutesOf yX7_minutesOf, .initialized RX7, .code yX7_minutesOf cX7_minutesOf 2 (some .int)] ++ wsX70)
def wsX7_unlike : List Cond := .code yX7_unlike cX7_unlike 3 (some .int) :: ([.fieldLink RX7 73 "SongsAgainModel" "songs" "I", .fieldLink RX7 16 "SongsAgainModel" "rows" "[I"] ++ wsX70)
def wsX7_countOf_r1 : List Cond := [Cond.fieldLink RX7 73 "SongsAgainModel" "songs" "I", Cond.fieldLink RX7 76 "SongsAgainModel" "ruleNow" "I", Cond.fieldLink RX7 82 "SongsAgainModel" "bag" "I", Cond.fieldLink RX7 38 "SongsAgainModel" "last" "I", Cond.fieldLink RX7 89 "SongsAgainModel" "heardMany" "I", Cond.fieldLink RX7 47 "SongsAgainModel" "pageMany" "I", Cond.fieldLink RX7 92 "SongsAgainModel" "playersRead" "I", Cond.methodLink RX7 233 yX7_sumAt, Cond.instanceMethod yX7_sumAt, Cond.selects RX7 yX7_sumAt yX7_sumAt, Cond.initialized RX7, Cond.code yX7_sumAt cX7_sumAt 4 (some .int), Cond.fieldLink RX7 16 "SongsAgainModel" "rows" "[I", Cond.methodLink RX7 236 yX7_minutesAll, Cond.instanceMethod yX7_minutesAll, Cond.selects RX7 yX7_minutesAll yX7_minutesAll, Cond.code yX7_minutesAll cX7_minutesAll 3 (some .int), Cond.methodLink RX7 126 yX7_minutesOf, Cond.instanceMethod yX7_minutesOf, Cond.selects RX7 yX7_minutesOf yX7_minutesOf, Cond.code yX7_minutesOf cX7_minutesOf 2 (some .int), Cond.methodLink RX7 239 yX7_unlike, Cond.instanceMethod yX7_unlike, Cond.selects RX7 yX7_unlike yX7_unlike]
def wsX7_countOf_r2 : List Cond := [Cond.code yX7_unlike cX7_unlike 3 (some .int), Cond.methodLink RX7 109 yX7_ones, Cond.static yX7_ones, Cond.code yX7_ones cX7_ones 3 (some .int), Cond.methodLink RX7 112 yX7_mayNow, Cond.instanceMethod yX7_mayNow, Cond.selects RX7 yX7_mayNow yX7_mayNow, Cond.code yX7_mayNow cX7_mayNow 1 (some .int), Cond.methodLink RX7 98 yX7_mayBy, Cond.instanceMethod yX7_mayBy, Cond.selects RX7 yX7_mayBy yX7_mayBy, Cond.code yX7_mayBy cX7_mayBy 8 (some .int), Cond.methodLink RX7 79 yX7_all, Cond.instanceMethod yX7_all, Cond.selects RX7 yX7_all yX7_all, Cond.code yX7_all cX7_all 1 (some .int)]
def wsX7_countOf : List Cond := .code yX7_countOf cX7_countOf 2 (some .int) :: ((wsX7_countOf_r1 ++ wsX7_countOf_r2) ++ wsX70)
def wsX7_count_r1 : List Cond := [Cond.methodLink RX7 242 yX7_countOf, Cond.instanceMethod yX7_countOf, Cond.selects RX7 yX7_countOf yX7_countOf, Cond.initialized RX7, Cond.code yX7_countOf cX7_countOf 2 (some .int), Cond.fieldLink RX7 73 "SongsAgainModel" "songs" "I", Cond.fieldLink RX7 76 "SongsAgainModel" "ruleNow" "I", Cond.fieldLink RX7 82 "SongsAgainModel" "bag" "I", Cond.fieldLink RX7 38 "SongsAgainModel" "last" "I", Cond.fieldLink RX7 89 "SongsAgainModel" "heardMany" "I", Cond.fieldLink RX7 47 "SongsAgainModel" "pageMany" "I", Cond.fieldLink RX7 92 "SongsAgainModel" "playersRead" "I", Cond.methodLink RX7 233 yX7_sumAt, Cond.instanceMethod yX7_sumAt, Cond.selects RX7 yX7_sumAt yX7_sumAt, Cond.code yX7_sumAt cX7_sumAt 4 (some .int), Cond.fieldLink RX7 16 "SongsAgainModel" "rows" "[I", Cond.methodLink RX7 236 yX7_minutesAll, Cond.instanceMethod yX7_minutesAll, Cond.selects RX7 yX7_minutesAll yX7_minutesAll, Cond.code yX7_minutesAll cX7_minutesAll 3 (some .int), Cond.methodLink RX7 126 yX7_minutesOf, Cond.instanceMethod yX7_minutesOf, Cond.selects RX7 yX7_minutesOf yX7_minutesOf]
def wsX7_count_r2 : List Cond := [Cond.code yX7_minutesOf cX7_minutesOf 2 (some .int), Cond.methodLink RX7 239 yX7_unlike, Cond.instanceMethod yX7_unlike, Cond.selects RX7 yX7_unlike yX7_unlike, Cond.code yX7_unlike cX7_unlike 3 (some .int), Cond.methodLink RX7 109 yX7_ones, Cond.static yX7_ones, Cond.code yX7_ones cX7_ones 3 (some .int), Cond.methodLink RX7 112 yX7_mayNow, Cond.instanceMethod yX7_mayNow, Cond.selects RX7 yX7_mayNow yX7_mayNow, Cond.code yX7_mayNow cX7_mayNow 1 (some .int), Cond.methodLink RX7 98 yX7_mayBy, Cond.instanceMethod yX7_mayBy, Cond.selects RX7 yX7_mayBy yX7_mayBy, Cond.code yX7_mayBy cX7_mayBy 8 (some .int), Cond.methodLink RX7 79 yX7_all, Cond.instanceMethod yX7_all, Cond.selects RX7 yX7_all yX7_all, Cond.code yX7_all cX7_all 1 (some .int)]
def wsX7_count : List Cond := .code yX7_count cX7_count 2 (some .int) :: ((wsX7_count_r1 ++ wsX7_count_r2) ++ wsX70)
def wsX7_say : List Cond := .code yX7_say cX7_say 3 none :: ([.constantLong RX7 245 (31), .fieldLink RX7 247 "SongsAgainModel" "hash" "J"] ++ wsX70)
def wsX7_sayPlayer_r1 : List Cond := [Cond.methodLink RX7 162 yX7_twiceOf, Cond.instanceMethod yX7_twiceOf, Cond.selects RX7 yX7_twiceOf yX7_twiceOf, Cond.initialized RX7, Cond.code yX7_twiceOf cX7_twiceOf 10 (some .long), Cond.fieldLink RX7 73 "SongsAgainModel" "songs" "I", Cond.constantLong RX7 147 (12252240), Cond.methodLink RX7 112 yX7_mayNow, Cond.instanceMethod yX7_mayNow, Cond.selects RX7 yX7_mayNow yX7_mayNow, Cond.code yX7_mayNow cX7_mayNow 1 (some .int), Cond.fieldLink RX7 76 "SongsAgainModel" "ruleNow" "I", Cond.fieldLink RX7 82 "SongsAgainModel" "bag" "I", Cond.fieldLink RX7 38 "SongsAgainModel" "last" "I", Cond.methodLink RX7 98 yX7_mayBy, Cond.instanceMethod yX7_mayBy, Cond.selects RX7 yX7_mayBy yX7_mayBy, Cond.code yX7_mayBy cX7_mayBy 8 (some .int), Cond.fieldLink RX7 16 "SongsAgainModel" "rows" "[I", Cond.methodLink RX7 79 yX7_all, Cond.instanceMethod yX7_all, Cond.selects RX7 yX7_all yX7_all, Cond.code yX7_all cX7_all 1 (some .int), Cond.methodLink RX7 118 yX7_shareOf]
def wsX7_sayPlayer_r2 : List Cond := [Cond.instanceMethod yX7_shareOf, Cond.selects RX7 yX7_shareOf yX7_shareOf, Cond.code yX7_shareOf cX7_shareOf 3 (some .int), Cond.methodLink RX7 105 yX7_sumOf, Cond.instanceMethod yX7_sumOf, Cond.selects RX7 yX7_sumOf yX7_sumOf, Cond.code yX7_sumOf cX7_sumOf 5 (some .int), Cond.methodLink RX7 95 yX7_baseOf, Cond.instanceMethod yX7_baseOf, Cond.selects RX7 yX7_baseOf yX7_baseOf, Cond.code yX7_baseOf cX7_baseOf 2 (some .int), Cond.methodLink RX7 102 yX7_weightOf, Cond.instanceMethod yX7_weightOf, Cond.selects RX7 yX7_weightOf yX7_weightOf, Cond.code yX7_weightOf cX7_weightOf 3 (some .int), Cond.methodLink RX7 153 yX7_behindOne, Cond.instanceMethod yX7_behindOne, Cond.selects RX7 yX7_behindOne yX7_behindOne, Cond.code yX7_behindOne cX7_behindOne 11 (some .long), Cond.methodLink RX7 144 yX7_bagBehind, Cond.instanceMethod yX7_bagBehind, Cond.selects RX7 yX7_bagBehind yX7_bagBehind, Cond.code yX7_bagBehind cX7_bagBehind 4 (some .int), Cond.methodLink RX7 149 yX7_partsOf]
def wsX7_sayPlayer_r3 : List Cond := [Cond.instanceMethod yX7_partsOf, Cond.selects RX7 yX7_partsOf yX7_partsOf, Cond.code yX7_partsOf cX7_partsOf 6 (some .long), Cond.methodLink RX7 115 yX7_sharesOf, Cond.instanceMethod yX7_sharesOf, Cond.selects RX7 yX7_sharesOf yX7_sharesOf, Cond.code yX7_sharesOf cX7_sharesOf 3 (some .int), Cond.methodLink RX7 109 yX7_ones, Cond.static yX7_ones, Cond.code yX7_ones cX7_ones 3 (some .int), Cond.methodLink RX7 122 yX7_common, Cond.static yX7_common, Cond.code yX7_common cX7_common 10 (some .long), Cond.methodLink RX7 250 yX7_say, Cond.instanceMethod yX7_say, Cond.selects RX7 yX7_say yX7_say, Cond.code yX7_say cX7_say 3 none, Cond.constantLong RX7 245 (31), Cond.fieldLink RX7 247 "SongsAgainModel" "hash" "J", Cond.methodLink RX7 180 yX7_partyOf, Cond.instanceMethod yX7_partyOf, Cond.selects RX7 yX7_partyOf yX7_partyOf, Cond.code yX7_partyOf cX7_partyOf 6 (some .int), Cond.fieldLink RX7 165 "SongsAgainModel" "rowMany" "I"]
def wsX7_sayPlayer_r4 : List Cond := [Cond.fieldLink RX7 19 "SongsAgainModel" "row" "[I", Cond.fieldLink RX7 22 "SongsAgainModel" "bestRow" "[I", Cond.methodLink RX7 168 yX7_layRow, Cond.instanceMethod yX7_layRow, Cond.selects RX7 yX7_layRow yX7_layRow, Cond.code yX7_layRow cX7_layRow 7 (some .boolean), Cond.methodLink RX7 172 yX7_copy, Cond.static yX7_copy, Cond.code yX7_copy cX7_copy 3 none, Cond.methodLink RX7 194 yX7_rulesOf, Cond.instanceMethod yX7_rulesOf, Cond.selects RX7 yX7_rulesOf yX7_rulesOf, Cond.code yX7_rulesOf cX7_rulesOf 3 (some .int), Cond.fieldLink RX7 183 "SongsAgainModel" "heardUp" "J", Cond.methodLink RX7 190 yX7_layHeard, Cond.instanceMethod yX7_layHeard, Cond.selects RX7 yX7_layHeard yX7_layHeard, Cond.code yX7_layHeard cX7_layHeard 7 none, Cond.fieldLink RX7 187 "SongsAgainModel" "heardLow" "J", Cond.fieldLink RX7 89 "SongsAgainModel" "heardMany" "I", Cond.fieldLink RX7 25 "SongsAgainModel" "heards" "[I", Cond.methodLink RX7 197 yX7_likelyOf, Cond.instanceMethod yX7_likelyOf, Cond.selects RX7 yX7_likelyOf yX7_likelyOf]
def wsX7_sayPlayer_r5 : List Cond := [Cond.code yX7_likelyOf cX7_likelyOf 7 (some .int)]
def wsX7_sayPlayer : List Cond := .code yX7_sayPlayer cX7_sayPlayer 2 none :: ((wsX7_sayPlayer_r1 ++ (wsX7_sayPlayer_r2 ++ (wsX7_sayPlayer_r3 ++ (wsX7_sayPlayer_r4 ++ wsX7_sayPlayer_r5)))) ++ wsX70)
def wsX7_digest_r1 : List Cond := [Cond.constantLong RX7 254 (997), Cond.fieldLink RX7 247 "SongsAgainModel" "hash" "J", Cond.fieldLink RX7 73 "SongsAgainModel" "songs" "I", Cond.fieldLink RX7 47 "SongsAgainModel" "pageMany" "I", Cond.fieldLink RX7 7 "SongsAgainModel" "page" "[I", Cond.methodLink RX7 135 yX7_tell, Cond.instanceMethod yX7_tell, Cond.selects RX7 yX7_tell yX7_tell, Cond.initialized RX7, Cond.code yX7_tell cX7_tell 3 (some .int), Cond.fieldLink RX7 16 "SongsAgainModel" "rows" "[I", Cond.fieldLink RX7 82 "SongsAgainModel" "bag" "I", Cond.methodLink RX7 102 yX7_weightOf, Cond.instanceMethod yX7_weightOf, Cond.selects RX7 yX7_weightOf yX7_weightOf, Cond.code yX7_weightOf cX7_weightOf 3 (some .int), Cond.methodLink RX7 95 yX7_baseOf, Cond.instanceMethod yX7_baseOf, Cond.selects RX7 yX7_baseOf yX7_baseOf, Cond.code yX7_baseOf cX7_baseOf 2 (some .int), Cond.methodLink RX7 126 yX7_minutesOf, Cond.instanceMethod yX7_minutesOf, Cond.selects RX7 yX7_minutesOf yX7_minutesOf, Cond.code yX7_minutesOf cX7_minutesOf 2 (some .int)]
def wsX7_digest_r2 : List Cond := [Cond.methodLink RX7 112 yX7_mayNow, Cond.instanceMethod yX7_mayNow, Cond.selects RX7 yX7_mayNow yX7_mayNow, Cond.code yX7_mayNow cX7_mayNow 1 (some .int), Cond.fieldLink RX7 76 "SongsAgainModel" "ruleNow" "I", Cond.fieldLink RX7 38 "SongsAgainModel" "last" "I", Cond.methodLink RX7 98 yX7_mayBy, Cond.instanceMethod yX7_mayBy, Cond.selects RX7 yX7_mayBy yX7_mayBy, Cond.code yX7_mayBy cX7_mayBy 8 (some .int), Cond.methodLink RX7 79 yX7_all, Cond.instanceMethod yX7_all, Cond.selects RX7 yX7_all yX7_all, Cond.code yX7_all cX7_all 1 (some .int), Cond.methodLink RX7 129 yX7_chanceOf, Cond.instanceMethod yX7_chanceOf, Cond.selects RX7 yX7_chanceOf yX7_chanceOf, Cond.code yX7_chanceOf cX7_chanceOf 5 (some .int), Cond.methodLink RX7 115 yX7_sharesOf, Cond.instanceMethod yX7_sharesOf, Cond.selects RX7 yX7_sharesOf yX7_sharesOf, Cond.code yX7_sharesOf cX7_sharesOf 3 (some .int), Cond.methodLink RX7 105 yX7_sumOf, Cond.instanceMethod yX7_sumOf]
def wsX7_digest_r3 : List Cond := [Cond.selects RX7 yX7_sumOf yX7_sumOf, Cond.code yX7_sumOf cX7_sumOf 5 (some .int), Cond.methodLink RX7 109 yX7_ones, Cond.static yX7_ones, Cond.code yX7_ones cX7_ones 3 (some .int), Cond.methodLink RX7 118 yX7_shareOf, Cond.instanceMethod yX7_shareOf, Cond.selects RX7 yX7_shareOf yX7_shareOf, Cond.code yX7_shareOf cX7_shareOf 3 (some .int), Cond.methodLink RX7 122 yX7_common, Cond.static yX7_common, Cond.code yX7_common cX7_common 10 (some .long), Cond.methodLink RX7 250 yX7_say, Cond.instanceMethod yX7_say, Cond.selects RX7 yX7_say yX7_say, Cond.code yX7_say cX7_say 3 none, Cond.constantLong RX7 245 (31), Cond.methodLink RX7 140 yX7_lacks, Cond.instanceMethod yX7_lacks, Cond.selects RX7 yX7_lacks yX7_lacks, Cond.code yX7_lacks cX7_lacks 1 (some .boolean), Cond.methodLink RX7 256 yX7_sayPlayer, Cond.instanceMethod yX7_sayPlayer, Cond.selects RX7 yX7_sayPlayer yX7_sayPlayer]
def wsX7_digest_r4 : List Cond := [Cond.code yX7_sayPlayer cX7_sayPlayer 2 none, Cond.methodLink RX7 162 yX7_twiceOf, Cond.instanceMethod yX7_twiceOf, Cond.selects RX7 yX7_twiceOf yX7_twiceOf, Cond.code yX7_twiceOf cX7_twiceOf 10 (some .long), Cond.constantLong RX7 147 (12252240), Cond.methodLink RX7 153 yX7_behindOne, Cond.instanceMethod yX7_behindOne, Cond.selects RX7 yX7_behindOne yX7_behindOne, Cond.code yX7_behindOne cX7_behindOne 11 (some .long), Cond.methodLink RX7 144 yX7_bagBehind, Cond.instanceMethod yX7_bagBehind, Cond.selects RX7 yX7_bagBehind yX7_bagBehind, Cond.code yX7_bagBehind cX7_bagBehind 4 (some .int), Cond.methodLink RX7 149 yX7_partsOf, Cond.instanceMethod yX7_partsOf, Cond.selects RX7 yX7_partsOf yX7_partsOf, Cond.code yX7_partsOf cX7_partsOf 6 (some .long), Cond.methodLink RX7 180 yX7_partyOf, Cond.instanceMethod yX7_partyOf, Cond.selects RX7 yX7_partyOf yX7_partyOf, Cond.code yX7_partyOf cX7_partyOf 6 (some .int), Cond.fieldLink RX7 165 "SongsAgainModel" "rowMany" "I", Cond.fieldLink RX7 19 "SongsAgainModel" "row" "[I"]
def wsX7_digest_r5 : List Cond := [Cond.fieldLink RX7 22 "SongsAgainModel" "bestRow" "[I", Cond.methodLink RX7 168 yX7_layRow, Cond.instanceMethod yX7_layRow, Cond.selects RX7 yX7_layRow yX7_layRow, Cond.code yX7_layRow cX7_layRow 7 (some .boolean), Cond.methodLink RX7 172 yX7_copy, Cond.static yX7_copy, Cond.code yX7_copy cX7_copy 3 none, Cond.methodLink RX7 194 yX7_rulesOf, Cond.instanceMethod yX7_rulesOf, Cond.selects RX7 yX7_rulesOf yX7_rulesOf, Cond.code yX7_rulesOf cX7_rulesOf 3 (some .int), Cond.fieldLink RX7 183 "SongsAgainModel" "heardUp" "J", Cond.methodLink RX7 190 yX7_layHeard, Cond.instanceMethod yX7_layHeard, Cond.selects RX7 yX7_layHeard yX7_layHeard, Cond.code yX7_layHeard cX7_layHeard 7 none, Cond.fieldLink RX7 187 "SongsAgainModel" "heardLow" "J", Cond.fieldLink RX7 89 "SongsAgainModel" "heardMany" "I", Cond.fieldLink RX7 25 "SongsAgainModel" "heards" "[I", Cond.methodLink RX7 197 yX7_likelyOf, Cond.instanceMethod yX7_likelyOf, Cond.selects RX7 yX7_likelyOf yX7_likelyOf, Cond.code yX7_likelyOf cX7_likelyOf 7 (some .int)]
def wsX7_digest_r6 : List Cond := [Cond.methodLink RX7 242 yX7_countOf, Cond.instanceMethod yX7_countOf, Cond.selects RX7 yX7_countOf yX7_countOf, Cond.code yX7_countOf cX7_countOf 2 (some .int), Cond.fieldLink RX7 92 "SongsAgainModel" "playersRead" "I", Cond.methodLink RX7 233 yX7_sumAt, Cond.instanceMethod yX7_sumAt, Cond.selects RX7 yX7_sumAt yX7_sumAt, Cond.code yX7_sumAt cX7_sumAt 4 (some .int), Cond.methodLink RX7 236 yX7_minutesAll, Cond.instanceMethod yX7_minutesAll, Cond.selects RX7 yX7_minutesAll yX7_minutesAll, Cond.code yX7_minutesAll cX7_minutesAll 3 (some .int), Cond.methodLink RX7 239 yX7_unlike, Cond.instanceMethod yX7_unlike, Cond.selects RX7 yX7_unlike yX7_unlike, Cond.code yX7_unlike cX7_unlike 3 (some .int)]
def wsX7_digest : List Cond := .code yX7_digest cX7_digest 3 (some .long) :: ((wsX7_digest_r1 ++ (wsX7_digest_r2 ++ (wsX7_digest_r3 ++ (wsX7_digest_r4 ++ (wsX7_digest_r5 ++ wsX7_digest_r6))))) ++ wsX70)
def wsJ9_max_7cf53 : List Cond := .code yJ9_max_7cf53 cJ9_max_7cf53 2 (some .int) :: ([])
def wsJ9_min_7cf53 : List Cond := .code yJ9_min_7cf53 cJ9_min_7cf53 2 (some .int) :: ([])
def wsL_law_r1 : List Cond := [Cond.classLink RL 7 RX6, Cond.instantiable RX6 10, Cond.initialized RX6, Cond.classLink RL 10 RX7, Cond.instantiable RX7 30, Cond.initialized RX7, Cond.methodLink RL 9 yX6_init, Cond.instanceMethod yX6_init, Cond.code yX6_init cX6_init 1 none, Cond.methodLink RX6 1 objectInit, Cond.instanceMethod objectInit, Cond.code objectInit ⟨#[0xb1]⟩ 1 none, Cond.classLink RX6 7 RX3, Cond.instantiable RX3 2, Cond.initialized RX3, Cond.fieldLink RX6 10 "SongsAgain" "page" "LSongsAgain$Page;", Cond.classLink RX6 16 RX0, Cond.instantiable RX0 5, Cond.initialized RX0, Cond.fieldLink RX6 19 "SongsAgain" "book" "LSongsAgain$Book;", Cond.classLink RX6 23 RX4, Cond.instantiable RX4 8, Cond.initialized RX4, Cond.fieldLink RX6 26 "SongsAgain" "now" "LSongsAgain$Past;"]
def wsL_law_r2 : List Cond := [Cond.fieldLink RX6 30 "SongsAgain" "kept" "LSongsAgain$Past;", Cond.classLink RX6 33 RX1, Cond.instantiable RX1 2, Cond.initialized RX1, Cond.fieldLink RX6 36 "SongsAgain" "sum" "LSongsAgain$Fraction;", Cond.fieldLink RX6 40 "SongsAgain" "chance" "LSongsAgain$Fraction;", Cond.fieldLink RX6 43 "SongsAgain" "best" "LSongsAgain$Fraction;", Cond.classLink RX6 46 RX2, Cond.instantiable RX2 4, Cond.initialized RX2, Cond.fieldLink RX6 49 "SongsAgain" "orders" "LSongsAgain$Orders;", Cond.fieldLink RX6 53 "SongsAgain" "isKept" "Z", Cond.fieldLink RX6 57 "SongsAgain" "playersRead" "I", Cond.instanceMethod yX3_init, Cond.code yX3_init cX3_init 1 none, Cond.methodLink RX3 3 objectInit, Cond.classLink RX3 9 RX5, Cond.instantiable RX5 1, Cond.initialized RX5, Cond.fieldLink RX3 14 "SongsAgain$Page" "codes" "LSongsAgain$Row;", Cond.fieldLink RX3 20 "SongsAgain$Page" "length" "I", Cond.methodLink RX3 11 yX5_init, Cond.instanceMethod yX5_init, Cond.code yX5_init cX5_init 2 none]
def wsL_law_r3 : List Cond := [Cond.methodLink RX5 1 objectInit, Cond.methodLink RX5 7 Lib.Math.max.name, Cond.static Lib.Math.max.name, Cond.initialized "java/lang/Math", Cond.code Lib.Math.max.name Lib.Math.max.code 2 (some .int), Cond.arrayClass .int, Cond.fieldLink RX5 13 "SongsAgain$Row" "cells" "[I", Cond.instanceMethod yX0_init, Cond.code yX0_init cX0_init 1 none, Cond.methodLink RX0 3 objectInit, Cond.classLink RX0 9 RX5, Cond.fieldLink RX0 14 "SongsAgain$Book" "kinds" "LSongsAgain$Row;", Cond.fieldLink RX0 20 "SongsAgain$Book" "singers" "LSongsAgain$Row;", Cond.fieldLink RX0 23 "SongsAgain$Book" "weights" "LSongsAgain$Row;", Cond.fieldLink RX0 26 "SongsAgain$Book" "minutes" "LSongsAgain$Row;", Cond.fieldLink RX0 29 "SongsAgain$Book" "number" "I", Cond.methodLink RX0 11 yX5_init, Cond.instanceMethod yX4_init, Cond.code yX4_init cX4_init 1 none, Cond.methodLink RX4 3 objectInit, Cond.classLink RX4 9 RX5, Cond.fieldLink RX4 14 "SongsAgain$Past" "played" "LSongsAgain$Row;", Cond.fieldLink RX4 20 "SongsAgain$Past" "skipped" "LSongsAgain$Row;", Cond.fieldLink RX4 23 "SongsAgain$Past" "heard" "LSongsAgain$Row;"]
def wsL_law_r4 : List Cond := [Cond.fieldLink RX4 26 "SongsAgain$Past" "heardLength" "I", Cond.fieldLink RX4 30 "SongsAgain$Past" "rule" "I", Cond.fieldLink RX4 33 "SongsAgain$Past" "bag" "I", Cond.fieldLink RX4 36 "SongsAgain$Past" "last" "I", Cond.fieldLink RX4 39 "SongsAgain$Past" "lastIsSkipped" "Z", Cond.methodLink RX4 11 yX5_init, Cond.instanceMethod yX1_init, Cond.code yX1_init cX1_init 1 none, Cond.methodLink RX1 1 objectInit, Cond.fieldLink RX1 7 "SongsAgain$Fraction" "above" "J", Cond.fieldLink RX1 13 "SongsAgain$Fraction" "below" "J", Cond.instanceMethod yX2_init, Cond.code yX2_init cX2_init 1 none, Cond.methodLink RX2 3 objectInit, Cond.classLink RX2 9 RX5, Cond.fieldLink RX2 14 "SongsAgain$Orders" "way" "LSongsAgain$Row;", Cond.fieldLink RX2 20 "SongsAgain$Orders" "first" "LSongsAgain$Row;", Cond.fieldLink RX2 23 "SongsAgain$Orders" "firstLength" "I", Cond.fieldLink RX2 27 "SongsAgain$Orders" "number" "I", Cond.methodLink RX2 11 yX5_init, Cond.methodLink RL 12 yX7_init, Cond.instanceMethod yX7_init, Cond.code yX7_init cX7_init 1 none, Cond.methodLink RX7 1 objectInit]
def wsL_law_r5 : List Cond := [Cond.fieldLink RX7 7 "SongsAgainModel" "page" "[I", Cond.fieldLink RX7 13 "SongsAgainModel" "read" "[I", Cond.fieldLink RX7 16 "SongsAgainModel" "rows" "[I", Cond.fieldLink RX7 19 "SongsAgainModel" "row" "[I", Cond.fieldLink RX7 22 "SongsAgainModel" "bestRow" "[I", Cond.fieldLink RX7 25 "SongsAgainModel" "heards" "[I", Cond.fieldLink RX7 28 "SongsAgainModel" "keptRows" "[I", Cond.fieldLink RX7 31 "SongsAgainModel" "keptHeards" "[I", Cond.fieldLink RX7 34 "SongsAgainModel" "keptPlayer" "I", Cond.fieldLink RX7 38 "SongsAgainModel" "last" "I", Cond.methodLink RL 13 yX6_letter, Cond.instanceMethod yX6_letter, Cond.selects RX6 yX6_letter yX6_letter, Cond.code yX6_letter cX6_letter 2 (some .int), Cond.methodLink RX6 64 yX3_append, Cond.instanceMethod yX3_append, Cond.selects RX3 yX3_append yX3_append, Cond.code yX3_append cX3_append 2 none, Cond.methodLink RX3 24 yX5_put, Cond.instanceMethod yX5_put, Cond.selects RX5 yX5_put yX5_put, Cond.code yX5_put cX5_put 3 none, Cond.methodLink RL 17 yX7_letter, Cond.instanceMethod yX7_letter]
def wsL_law_r6 : List Cond := [Cond.selects RX7 yX7_letter yX7_letter, Cond.code yX7_letter cX7_letter 2 (some .int), Cond.constantLong RX7 41 (126), Cond.fieldLink RX7 47 "SongsAgainModel" "pageMany" "I", Cond.methodLink RX7 43 yX7_in, Cond.static yX7_in, Cond.code yX7_in cX7_in 6 (some .boolean), Cond.methodLink RL 18 yX6_blank, Cond.instanceMethod yX6_blank, Cond.selects RX6 yX6_blank yX6_blank, Cond.code yX6_blank cX6_blank 2 (some .int), Cond.methodLink RX6 68 yX3_clear, Cond.instanceMethod yX3_clear, Cond.selects RX3 yX3_clear yX3_clear, Cond.code yX3_clear cX3_clear 1 none, Cond.methodLink RL 22 yX7_blank, Cond.instanceMethod yX7_blank, Cond.selects RX7 yX7_blank yX7_blank, Cond.code yX7_blank cX7_blank 2 (some .int), Cond.methodLink RL 23 yX6_fault, Cond.instanceMethod yX6_fault, Cond.selects RX6 yX6_fault yX6_fault, Cond.code yX6_fault cX6_fault 1 (some .int), Cond.methodLink RX6 71 yX3_firstFault]
def wsL_law_r7 : List Cond := [Cond.instanceMethod yX3_firstFault, Cond.selects RX3 yX3_firstFault yX3_firstFault, Cond.code yX3_firstFault cX3_firstFault 3 (some .int), Cond.methodLink RX3 28 yX3_fits, Cond.instanceMethod yX3_fits, Cond.selects RX3 yX3_fits yX3_fits, Cond.code yX3_fits cX3_fits 4 (some .boolean), Cond.methodLink RX3 32 yX5_at, Cond.instanceMethod yX5_at, Cond.selects RX5 yX5_at yX5_at, Cond.code yX5_at cX5_at 2 (some .int), Cond.methodLink RX3 36 yX3_isDigitBelow, Cond.static yX3_isDigitBelow, Cond.code yX3_isDigitBelow cX3_isDigitBelow 2 (some .boolean), Cond.methodLink RX3 41 yJ0_indexOf_0f7a4, Cond.instanceMethod yJ0_indexOf_0f7a4, Cond.selects RJ0 yJ0_indexOf_0f7a4 yJ0_indexOf_0f7a4, Cond.initialized RJ0, Cond.code yJ0_indexOf_0f7a4 cJ0_indexOf_0f7a4 2 (some .int), Cond.methodLink RJ0 633 yJ0_indexOf_7cf53, Cond.instanceMethod yJ0_indexOf_7cf53, Cond.selects RJ0 yJ0_indexOf_7cf53 yJ0_indexOf_7cf53, Cond.code yJ0_indexOf_7cf53 cJ0_indexOf_7cf53 3 (some .int), Cond.fieldLink RJ0 9 "java/lang/String" "value" "[B"]
def wsL_law_r8 : List Cond := [Cond.methodLink RJ0 492 yJ0_isLatin1_aae02, Cond.instanceMethod yJ0_isLatin1_aae02, Cond.selects RJ0 yJ0_isLatin1_aae02 yJ0_isLatin1_aae02, Cond.code yJ0_isLatin1_aae02 cJ0_isLatin1_aae02 1 (some .boolean), Cond.fieldLink RJ0 38 "java/lang/String" "COMPACT_STRINGS" "Z", Cond.fieldLink RJ0 15 "java/lang/String" "coder" "B", Cond.methodLink RJ0 505 yJ0_length_8abf5, Cond.instanceMethod yJ0_length_8abf5, Cond.selects RJ0 yJ0_length_8abf5 yJ0_length_8abf5, Cond.code yJ0_length_8abf5 cJ0_length_8abf5 1 (some .int), Cond.methodLink RJ0 335 yJ0_coder_7d493, Cond.instanceMethod yJ0_coder_7d493, Cond.selects RJ0 yJ0_coder_7d493 yJ0_coder_7d493, Cond.code yJ0_coder_7d493 cJ0_coder_7d493 1 (some .byte), Cond.methodLink RJ0 637 yJ1_indexOf_4cfef, Cond.static yJ1_indexOf_4cfef, Cond.initialized RJ1, Cond.code yJ1_indexOf_4cfef cJ1_indexOf_4cfef 4 (some .int), Cond.methodLink RJ1 92 Lib.Math.max.name, Cond.methodLink RJ1 38 Lib.Math.min.name, Cond.static Lib.Math.min.name, Cond.code Lib.Math.min.name Lib.Math.min.code 2 (some .int), Cond.methodLink RJ1 88 yJ1_canEncode_9a6ad, Cond.static yJ1_canEncode_9a6ad]
def wsL_law_r9 : List Cond := [Cond.code yJ1_canEncode_9a6ad cJ1_canEncode_9a6ad 1 (some .boolean), Cond.methodLink RJ1 95 yJ1_indexOfChar_4cfef, Cond.static yJ1_indexOfChar_4cfef, Cond.code yJ1_indexOfChar_4cfef cJ1_indexOfChar_4cfef 6 (some .int), Cond.methodLink RJ0 640 yJ2_indexOf_4cfef, Cond.static yJ2_indexOf_4cfef, Cond.initialized RJ2, Cond.code yJ2_indexOf_4cfef cJ2_indexOf_4cfef 4 (some .int), Cond.methodLink RJ2 224 Lib.Math.max.name, Cond.methodLink RJ2 183 Lib.Math.min.name, Cond.constant RJ2 227 (65536), Cond.methodLink RJ2 228 yJ2_indexOfChar_4cfef, Cond.static yJ2_indexOfChar_4cfef, Cond.code yJ2_indexOfChar_4cfef cJ2_indexOfChar_4cfef 4 (some .int), Cond.methodLink RJ2 96 yJ2_checkBoundsBeginEnd_d044e, Cond.static yJ2_checkBoundsBeginEnd_d044e, Cond.code yJ2_checkBoundsBeginEnd_d044e cJ2_checkBoundsBeginEnd_d044e 3 none, Cond.methodLink RJ2 48 yJ2_length_9d52b, Cond.static yJ2_length_9d52b, Cond.code yJ2_length_9d52b cJ2_length_9d52b 1 (some .int), Cond.methodLink RJ2 241 yJ0_checkBoundsBeginEnd_23922, Cond.static yJ0_checkBoundsBeginEnd_23922, Cond.code yJ0_checkBoundsBeginEnd_23922 cJ0_checkBoundsBeginEnd_23922 3 none, Cond.fieldLink RJ0 1053 "jdk/internal/util/Preconditions" "SIOOBE_FORMATTER" "Ljava/util/function/BiFunction;"]
def wsL_law_r10 : List Cond := [Cond.methodLink RJ0 1062 yJ3_checkFromToIndex_8c36e, Cond.static yJ3_checkFromToIndex_8c36e, Cond.initialized RJ3, Cond.code yJ3_checkFromToIndex_8c36e cJ3_checkFromToIndex_8c36e 4 (some .int), Cond.methodLink RJ2 244 yJ2_indexOfCharUnsafe_4cfef, Cond.static yJ2_indexOfCharUnsafe_4cfef, Cond.code yJ2_indexOfCharUnsafe_4cfef cJ2_indexOfCharUnsafe_4cfef 5 (some .int), Cond.methodLink RJ2 71 yJ2_getChar_3b067, Cond.static yJ2_getChar_3b067, Cond.code yJ2_getChar_3b067 cJ2_getChar_3b067 2 (some .char), Cond.fieldLink RJ2 44 "java/lang/StringUTF16" "$assertionsDisabled" "Z", Cond.fieldLink RJ2 59 "java/lang/StringUTF16" "HI_BYTE_SHIFT" "I", Cond.fieldLink RJ2 63 "java/lang/StringUTF16" "LO_BYTE_SHIFT" "I", Cond.methodLink RJ2 232 yJ2_indexOfSupplementary_4cfef, Cond.static yJ2_indexOfSupplementary_4cfef, Cond.code yJ2_indexOfSupplementary_4cfef cJ2_indexOfSupplementary_4cfef 7 (some .int), Cond.methodLink RJ2 164 yJ11_isValidCodePoint_9a6ad, Cond.static yJ11_isValidCodePoint_9a6ad, Cond.initialized RJ11, Cond.code yJ11_isValidCodePoint_9a6ad cJ11_isValidCodePoint_9a6ad 2 (some .boolean), Cond.methodLink RJ2 157 yJ11_highSurrogate_5068e, Cond.static yJ11_highSurrogate_5068e, Cond.code yJ11_highSurrogate_5068e cJ11_highSurrogate_5068e 1 (some .char), Cond.constant RJ11 110 (55232)]
def wsL_law_r11 : List Cond := [Cond.methodLink RJ2 161 yJ11_lowSurrogate_5068e, Cond.static yJ11_lowSurrogate_5068e, Cond.code yJ11_lowSurrogate_5068e cJ11_lowSurrogate_5068e 1 (some .char), Cond.constant RJ11 76 (56320), Cond.methodLink RX3 46 yX3_endsSong, Cond.static yX3_endsSong, Cond.code yX3_endsSong cX3_endsSong 2 (some .boolean), Cond.methodLink RL 26 yX7_fault, Cond.instanceMethod yX7_fault, Cond.selects RX7 yX7_fault yX7_fault, Cond.code yX7_fault cX7_fault 1 (some .int), Cond.methodLink RX7 69 yX7_faultOf, Cond.instanceMethod yX7_faultOf, Cond.selects RX7 yX7_faultOf yX7_faultOf, Cond.code yX7_faultOf cX7_faultOf 2 (some .int), Cond.fieldLink RX7 53 "SongsAgainModel" "readMany" "I", Cond.fieldLink RX7 50 "SongsAgainModel" "state" "I", Cond.methodLink RX7 65 yX7_go, Cond.instanceMethod yX7_go, Cond.selects RX7 yX7_go yX7_go, Cond.code yX7_go cX7_go 4 (some .boolean), Cond.constantLong RX7 60 (3), Cond.fieldLink RX7 62 "SongsAgainModel" "readRule" "I", Cond.methodLink RX7 56 yX7_kindBy]
def wsL_law_r12 : List Cond := [Cond.static yX7_kindBy, Cond.code yX7_kindBy cX7_kindBy 1 (some .int), Cond.methodLink RL 27 yX6_player, Cond.instanceMethod yX6_player, Cond.selects RX6 yX6_player yX6_player, Cond.code yX6_player cX6_player 1 (some .int), Cond.methodLink RX6 75 yX3_isWhole, Cond.instanceMethod yX3_isWhole, Cond.selects RX3 yX3_isWhole yX3_isWhole, Cond.code yX3_isWhole cX3_isWhole 1 (some .boolean), Cond.methodLink RX3 49 yX3_firstFault, Cond.methodLink RX6 79 yX0_read, Cond.instanceMethod yX0_read, Cond.selects RX0 yX0_read yX0_read, Cond.code yX0_read cX0_read 4 none, Cond.methodLink RX0 33 yX3_songsRead, Cond.instanceMethod yX3_songsRead, Cond.selects RX3 yX3_songsRead yX3_songsRead, Cond.code yX3_songsRead cX3_songsRead 1 (some .int), Cond.methodLink RX3 53 Lib.Math.min.name, Cond.methodLink RX0 39 yX3_kindRead, Cond.instanceMethod yX3_kindRead, Cond.selects RX3 yX3_kindRead yX3_kindRead, Cond.code yX3_kindRead cX3_kindRead 2 (some .int)]
def wsL_law_r13 : List Cond := [Cond.methodLink RX0 43 yX5_put, Cond.methodLink RX0 47 yX3_singerRead, Cond.instanceMethod yX3_singerRead, Cond.selects RX3 yX3_singerRead yX3_singerRead, Cond.code yX3_singerRead cX3_singerRead 2 (some .int), Cond.methodLink RX0 50 yX0_weightOf, Cond.static yX0_weightOf, Cond.code yX0_weightOf cX0_weightOf 1 (some .int), Cond.methodLink RX6 83 yX3_ruleRead, Cond.instanceMethod yX3_ruleRead, Cond.selects RX3 yX3_ruleRead yX3_ruleRead, Cond.code yX3_ruleRead cX3_ruleRead 1 (some .int), Cond.methodLink RX6 86 yX0_all, Cond.instanceMethod yX0_all, Cond.selects RX0 yX0_all yX0_all, Cond.code yX0_all cX0_all 1 (some .int), Cond.methodLink RX6 89 yX4_begin, Cond.instanceMethod yX4_begin, Cond.selects RX4 yX4_begin yX4_begin, Cond.code yX4_begin cX4_begin 3 none, Cond.methodLink RX4 43 yX5_clear, Cond.instanceMethod yX5_clear, Cond.selects RX5 yX5_clear yX5_clear, Cond.code yX5_clear cX5_clear 2 none]
def wsL_law_r14 : List Cond := [Cond.methodLink RL 30 yX7_player, Cond.instanceMethod yX7_player, Cond.selects RX7 yX7_player yX7_player, Cond.code yX7_player cX7_player 2 (some .int), Cond.fieldLink RX7 73 "SongsAgainModel" "songs" "I", Cond.fieldLink RX7 76 "SongsAgainModel" "ruleNow" "I", Cond.fieldLink RX7 82 "SongsAgainModel" "bag" "I", Cond.fieldLink RX7 85 "SongsAgainModel" "wasSkipped" "Z", Cond.fieldLink RX7 89 "SongsAgainModel" "heardMany" "I", Cond.fieldLink RX7 92 "SongsAgainModel" "playersRead" "I", Cond.methodLink RX7 79 yX7_all, Cond.instanceMethod yX7_all, Cond.selects RX7 yX7_all yX7_all, Cond.code yX7_all cX7_all 1 (some .int), Cond.methodLink RL 31 yX6_song, Cond.instanceMethod yX6_song, Cond.selects RX6 yX6_song yX6_song, Cond.code yX6_song cX6_song 3 (some .int), Cond.methodLink RX6 96 yX0_has, Cond.instanceMethod yX0_has, Cond.selects RX0 yX0_has yX0_has, Cond.code yX0_has cX0_has 2 (some .boolean), Cond.methodLink RX6 100 yX6_songFact, Cond.instanceMethod yX6_songFact]
def wsL_law_r15 : List Cond := [Cond.selects RX6 yX6_songFact yX6_songFact, Cond.code yX6_songFact cX6_songFact 3 (some .int), Cond.methodLink RX6 216 yX5_at, Cond.methodLink RX6 150 yX6_weight, Cond.instanceMethod yX6_weight, Cond.selects RX6 yX6_weight yX6_weight, Cond.code yX6_weight cX6_weight 2 (some .int), Cond.methodLink RX6 253 Lib.Math.max.name, Cond.methodLink RX6 117 yX6_holds, Cond.static yX6_holds, Cond.code yX6_holds cX6_holds 2 (some .boolean), Cond.methodLink RX6 114 yX6_mayNow, Cond.instanceMethod yX6_mayNow, Cond.selects RX6 yX6_mayNow yX6_mayNow, Cond.code yX6_mayNow cX6_mayNow 1 (some .int), Cond.methodLink RX6 222 yX0_mayCome, Cond.instanceMethod yX0_mayCome, Cond.selects RX0 yX0_mayCome yX0_mayCome, Cond.code yX0_mayCome cX0_mayCome 8 (some .int), Cond.methodLink RX0 60 yX0_all, Cond.methodLink RX0 63 yX0_mayFollow, Cond.instanceMethod yX0_mayFollow, Cond.selects RX0 yX0_mayFollow yX0_mayFollow, Cond.code yX0_mayFollow cX0_mayFollow 4 (some .int)]
def wsL_law_r16 : List Cond := [Cond.methodLink RX0 53 yX5_at, Cond.methodLink RX6 234 yX6_chanceNow, Cond.instanceMethod yX6_chanceNow, Cond.selects RX6 yX6_chanceNow yX6_chanceNow, Cond.code yX6_chanceNow cX6_chanceNow 4 (some (.object "SongsAgain$Fraction")), Cond.methodLink RX6 238 yX6_weightTogether, Cond.instanceMethod yX6_weightTogether, Cond.selects RX6 yX6_weightTogether yX6_weightTogether, Cond.code yX6_weightTogether cX6_weightTogether 4 (some .int), Cond.methodLink RX6 241 yX6_share, Cond.instanceMethod yX6_share, Cond.selects RX6 yX6_share yX6_share, Cond.code yX6_share cX6_share 4 (some .int), Cond.methodLink RX6 244 yX6_allShares, Cond.static yX6_allShares, Cond.code yX6_allShares cX6_allShares 2 (some .int), Cond.methodLink RX6 141 yJ6_bitCount_0f7a4, Cond.static yJ6_bitCount_0f7a4, Cond.initialized RJ6, Cond.code yJ6_bitCount_0f7a4 cJ6_bitCount_0f7a4 1 (some .int), Cond.constant RJ6 265 (1431655765), Cond.constant RJ6 266 (858993459), Cond.constant RJ6 267 (252645135), Cond.methodLink RX6 247 yX1_become]
def wsL_law_r17 : List Cond := [Cond.instanceMethod yX1_become, Cond.selects RX1 yX1_become yX1_become, Cond.code yX1_become cX1_become 7 none, Cond.methodLink RX1 16 yX1_commonDivisor, Cond.static yX1_commonDivisor, Cond.code yX1_commonDivisor cX1_commonDivisor 11 (some .long), Cond.methodLink RL 35 yX7_song, Cond.instanceMethod yX7_song, Cond.selects RX7 yX7_song yX7_song, Cond.code yX7_song cX7_song 3 (some .int), Cond.methodLink RX7 132 yX7_isSong, Cond.instanceMethod yX7_isSong, Cond.selects RX7 yX7_isSong yX7_isSong, Cond.code yX7_isSong cX7_isSong 2 (some .boolean), Cond.methodLink RX7 135 yX7_tell, Cond.instanceMethod yX7_tell, Cond.selects RX7 yX7_tell yX7_tell, Cond.code yX7_tell cX7_tell 3 (some .int), Cond.methodLink RX7 102 yX7_weightOf, Cond.instanceMethod yX7_weightOf, Cond.selects RX7 yX7_weightOf yX7_weightOf, Cond.code yX7_weightOf cX7_weightOf 3 (some .int), Cond.methodLink RX7 95 yX7_baseOf, Cond.instanceMethod yX7_baseOf]
def wsL_law_r18 : List Cond := [Cond.selects RX7 yX7_baseOf yX7_baseOf, Cond.code yX7_baseOf cX7_baseOf 2 (some .int), Cond.methodLink RX7 126 yX7_minutesOf, Cond.instanceMethod yX7_minutesOf, Cond.selects RX7 yX7_minutesOf yX7_minutesOf, Cond.code yX7_minutesOf cX7_minutesOf 2 (some .int), Cond.methodLink RX7 112 yX7_mayNow, Cond.instanceMethod yX7_mayNow, Cond.selects RX7 yX7_mayNow yX7_mayNow, Cond.code yX7_mayNow cX7_mayNow 1 (some .int), Cond.methodLink RX7 98 yX7_mayBy, Cond.instanceMethod yX7_mayBy, Cond.selects RX7 yX7_mayBy yX7_mayBy, Cond.code yX7_mayBy cX7_mayBy 8 (some .int), Cond.methodLink RX7 129 yX7_chanceOf, Cond.instanceMethod yX7_chanceOf, Cond.selects RX7 yX7_chanceOf yX7_chanceOf, Cond.code yX7_chanceOf cX7_chanceOf 5 (some .int), Cond.methodLink RX7 115 yX7_sharesOf, Cond.instanceMethod yX7_sharesOf, Cond.selects RX7 yX7_sharesOf yX7_sharesOf, Cond.code yX7_sharesOf cX7_sharesOf 3 (some .int), Cond.methodLink RX7 105 yX7_sumOf, Cond.instanceMethod yX7_sumOf]
def wsL_law_r19 : List Cond := [Cond.selects RX7 yX7_sumOf yX7_sumOf, Cond.code yX7_sumOf cX7_sumOf 5 (some .int), Cond.methodLink RX7 109 yX7_ones, Cond.static yX7_ones, Cond.code yX7_ones cX7_ones 3 (some .int), Cond.methodLink RX7 118 yX7_shareOf, Cond.instanceMethod yX7_shareOf, Cond.selects RX7 yX7_shareOf yX7_shareOf, Cond.code yX7_shareOf cX7_shareOf 3 (some .int), Cond.methodLink RX7 122 yX7_common, Cond.static yX7_common, Cond.code yX7_common cX7_common 10 (some .long), Cond.methodLink RL 36 yX6_as, Cond.instanceMethod yX6_as, Cond.selects RX6 yX6_as yX6_as, Cond.code yX6_as cX6_as 3 (some .int), Cond.methodLink RX6 104 yX0_isOfKind, Cond.instanceMethod yX0_isOfKind, Cond.selects RX0 yX0_isOfKind yX0_isOfKind, Cond.code yX0_isOfKind cX0_isOfKind 4 (some .boolean), Cond.methodLink RL 39 yX7_as, Cond.instanceMethod yX7_as, Cond.selects RX7 yX7_as yX7_as, Cond.code yX7_as cX7_as 5 (some .int)]
def wsL_law_r20 : List Cond := [Cond.constantLong RX7 138 (4), Cond.methodLink RL 40 yX6_rule, Cond.instanceMethod yX6_rule, Cond.selects RX6 yX6_rule yX6_rule, Cond.code yX6_rule cX6_rule 3 (some .int), Cond.methodLink RX6 108 yX6_noPlayer, Cond.instanceMethod yX6_noPlayer, Cond.selects RX6 yX6_noPlayer yX6_noPlayer, Cond.code yX6_noPlayer cX6_noPlayer 1 (some .boolean), Cond.methodLink RL 43 yX7_rule, Cond.instanceMethod yX7_rule, Cond.selects RX7 yX7_rule yX7_rule, Cond.code yX7_rule cX7_rule 3 (some .int), Cond.methodLink RX7 140 yX7_lacks, Cond.instanceMethod yX7_lacks, Cond.selects RX7 yX7_lacks yX7_lacks, Cond.code yX7_lacks cX7_lacks 1 (some .boolean), Cond.methodLink RL 44 yX6_play, Cond.instanceMethod yX6_play, Cond.selects RX6 yX6_play yX6_play, Cond.code yX6_play cX6_play 2 (some .int), Cond.methodLink RX6 123 yX0_bagAfter, Cond.instanceMethod yX0_bagAfter, Cond.selects RX0 yX0_bagAfter yX0_bagAfter]
def wsL_law_r21 : List Cond := [Cond.code yX0_bagAfter cX0_bagAfter 4 (some .int), Cond.methodLink RX6 136 yX5_increase, Cond.instanceMethod yX5_increase, Cond.selects RX5 yX5_increase yX5_increase, Cond.code yX5_increase cX5_increase 2 none, Cond.methodLink RX5 19 yX5_at, Cond.methodLink RX5 23 yX5_put, Cond.methodLink RL 47 yX7_play, Cond.instanceMethod yX7_play, Cond.selects RX7 yX7_play yX7_play, Cond.code yX7_play cX7_play 2 (some .int), Cond.methodLink RX7 144 yX7_bagBehind, Cond.instanceMethod yX7_bagBehind, Cond.selects RX7 yX7_bagBehind yX7_bagBehind, Cond.code yX7_bagBehind cX7_bagBehind 4 (some .int), Cond.methodLink RL 48 yX6_skip, Cond.instanceMethod yX6_skip, Cond.selects RX6 yX6_skip yX6_skip, Cond.code yX6_skip cX6_skip 1 (some .int), Cond.methodLink RL 51 yX7_skip, Cond.instanceMethod yX7_skip, Cond.selects RX7 yX7_skip yX7_skip, Cond.code yX7_skip cX7_skip 1 (some .int), Cond.methodLink RL 52 yX6_twice]
def wsL_law_r22 : List Cond := [Cond.instanceMethod yX6_twice, Cond.selects RX6 yX6_twice yX6_twice, Cond.code yX6_twice cX6_twice 3 (some .long), Cond.constantLong RX6 153 (-102), Cond.constantLong RX6 155 (-103), Cond.methodLink RX6 157 yX6_reckonTwice, Cond.instanceMethod yX6_reckonTwice, Cond.selects RX6 yX6_reckonTwice yX6_reckonTwice, Cond.code yX6_reckonTwice cX6_reckonTwice 2 none, Cond.methodLink RX6 258 yX6_sumTwice, Cond.static yX6_sumTwice, Cond.code yX6_sumTwice cX6_sumTwice 17 none, Cond.methodLink RX6 262 yX1_add, Cond.instanceMethod yX1_add, Cond.selects RX1 yX1_add yX1_add, Cond.code yX1_add cX1_add 9 none, Cond.methodLink RX1 20 yX1_become, Cond.methodLink RL 56 yX7_twice, Cond.instanceMethod yX7_twice, Cond.selects RX7 yX7_twice yX7_twice, Cond.code yX7_twice cX7_twice 3 (some .long), Cond.constantLong RX7 156 (2), Cond.constantLong RX7 158 (-102), Cond.constantLong RX7 160 (-103)]
def wsL_law_r23 : List Cond := [Cond.methodLink RX7 162 yX7_twiceOf, Cond.instanceMethod yX7_twiceOf, Cond.selects RX7 yX7_twiceOf yX7_twiceOf, Cond.code yX7_twiceOf cX7_twiceOf 10 (some .long), Cond.constantLong RX7 147 (12252240), Cond.methodLink RX7 153 yX7_behindOne, Cond.instanceMethod yX7_behindOne, Cond.selects RX7 yX7_behindOne yX7_behindOne, Cond.code yX7_behindOne cX7_behindOne 11 (some .long), Cond.methodLink RX7 149 yX7_partsOf, Cond.instanceMethod yX7_partsOf, Cond.selects RX7 yX7_partsOf yX7_partsOf, Cond.code yX7_partsOf cX7_partsOf 6 (some .long), Cond.methodLink RL 57 yX6_party, Cond.instanceMethod yX6_party, Cond.selects RX6 yX6_party yX6_party, Cond.code yX6_party cX6_party 3 (some .int), Cond.methodLink RX6 167 yX2_findAll, Cond.instanceMethod yX2_findAll, Cond.selects RX2 yX2_findAll yX2_findAll, Cond.code yX2_findAll cX2_findAll 3 none, Cond.methodLink RX2 30 yX2_goOn, Cond.static yX2_goOn, Cond.code yX2_goOn cX2_goOn 5 none]
def wsL_law_r24 : List Cond := [Cond.methodLink RX2 34 yX2_take, Cond.instanceMethod yX2_take, Cond.selects RX2 yX2_take yX2_take, Cond.code yX2_take cX2_take 2 none, Cond.methodLink RX2 59 yX5_become, Cond.instanceMethod yX5_become, Cond.selects RX5 yX5_become yX5_become, Cond.code yX5_become cX5_become 3 none, Cond.methodLink RX2 44 yX5_at, Cond.methodLink RX2 48 yX2_unlikeSingers, Cond.static yX2_unlikeSingers, Cond.code yX2_unlikeSingers cX2_unlikeSingers 3 (some .boolean), Cond.methodLink RX2 52 yX5_put, Cond.methodLink RX6 171 yX2_fact, Cond.instanceMethod yX2_fact, Cond.selects RX2 yX2_fact yX2_fact, Cond.code yX2_fact cX2_fact 3 (some .int), Cond.methodLink RL 60 yX7_party, Cond.instanceMethod yX7_party, Cond.selects RX7 yX7_party yX7_party, Cond.code yX7_party cX7_party 3 (some .int), Cond.constantLong RX7 176 (10), Cond.constantLong RX7 178 (15), Cond.methodLink RX7 180 yX7_partyOf]
def wsL_law_r25 : List Cond := [Cond.instanceMethod yX7_partyOf, Cond.selects RX7 yX7_partyOf yX7_partyOf, Cond.code yX7_partyOf cX7_partyOf 6 (some .int), Cond.fieldLink RX7 165 "SongsAgainModel" "rowMany" "I", Cond.methodLink RX7 168 yX7_layRow, Cond.instanceMethod yX7_layRow, Cond.selects RX7 yX7_layRow yX7_layRow, Cond.code yX7_layRow cX7_layRow 7 (some .boolean), Cond.methodLink RX7 172 yX7_copy, Cond.static yX7_copy, Cond.code yX7_copy cX7_copy 3 none, Cond.methodLink RL 61 yX6_hear, Cond.instanceMethod yX6_hear, Cond.selects RX6 yX6_hear yX6_hear, Cond.code yX6_hear cX6_hear 2 (some .int), Cond.methodLink RX6 180 yX5_put, Cond.methodLink RL 64 yX7_hear, Cond.instanceMethod yX7_hear, Cond.selects RX7 yX7_hear yX7_hear, Cond.code yX7_hear cX7_hear 2 (some .int), Cond.methodLink RL 65 yX6_forget, Cond.instanceMethod yX6_forget, Cond.selects RX6 yX6_forget yX6_forget, Cond.code yX6_forget cX6_forget 2 (some .int)]
def wsL_law_r26 : List Cond := [Cond.methodLink RL 68 yX7_forget, Cond.instanceMethod yX7_forget, Cond.selects RX7 yX7_forget yX7_forget, Cond.code yX7_forget cX7_forget 2 (some .int), Cond.methodLink RL 69 yX6_rules, Cond.instanceMethod yX6_rules, Cond.selects RX6 yX6_rules yX6_rules, Cond.code yX6_rules cX6_rules 1 (some .int), Cond.methodLink RX6 183 yX6_possibleRules, Cond.instanceMethod yX6_possibleRules, Cond.selects RX6 yX6_possibleRules yX6_possibleRules, Cond.code yX6_possibleRules cX6_possibleRules 3 (some .int), Cond.methodLink RX6 265 yX6_reckonHeard, Cond.instanceMethod yX6_reckonHeard, Cond.selects RX6 yX6_reckonHeard yX6_reckonHeard, Cond.code yX6_reckonHeard cX6_reckonHeard 7 none, Cond.methodLink RX6 272 yX0_weightTogether, Cond.instanceMethod yX0_weightTogether, Cond.selects RX0 yX0_weightTogether yX0_weightTogether, Cond.code yX0_weightTogether cX0_weightTogether 4 (some .int), Cond.methodLink RX6 273 yX1_multiply, Cond.instanceMethod yX1_multiply, Cond.selects RX1 yX1_multiply yX1_multiply, Cond.code yX1_multiply cX1_multiply 5 none]
def wsL_law_r27 : List Cond := [Cond.methodLink RL 72 yX7_rules, Cond.instanceMethod yX7_rules, Cond.selects RX7 yX7_rules yX7_rules, Cond.code yX7_rules cX7_rules 1 (some .int), Cond.methodLink RX7 194 yX7_rulesOf, Cond.instanceMethod yX7_rulesOf, Cond.selects RX7 yX7_rulesOf yX7_rulesOf, Cond.code yX7_rulesOf cX7_rulesOf 3 (some .int), Cond.fieldLink RX7 183 "SongsAgainModel" "heardUp" "J", Cond.methodLink RX7 190 yX7_layHeard, Cond.instanceMethod yX7_layHeard, Cond.selects RX7 yX7_layHeard yX7_layHeard, Cond.code yX7_layHeard cX7_layHeard 7 none, Cond.fieldLink RX7 187 "SongsAgainModel" "heardLow" "J", Cond.methodLink RL 73 yX6_likely, Cond.instanceMethod yX6_likely, Cond.selects RX6 yX6_likely yX6_likely, Cond.code yX6_likely cX6_likely 1 (some .int), Cond.methodLink RX6 186 yX6_likeliestRule, Cond.instanceMethod yX6_likeliestRule, Cond.selects RX6 yX6_likeliestRule yX6_likeliestRule, Cond.code yX6_likeliestRule cX6_likeliestRule 3 (some .int), Cond.methodLink RX6 268 yX1_isMoreThan, Cond.instanceMethod yX1_isMoreThan]
def wsL_law_r28 : List Cond := [Cond.selects RX1 yX1_isMoreThan yX1_isMoreThan, Cond.code yX1_isMoreThan cX1_isMoreThan 2 (some .boolean), Cond.methodLink RL 76 yX7_likely, Cond.instanceMethod yX7_likely, Cond.selects RX7 yX7_likely yX7_likely, Cond.code yX7_likely cX7_likely 1 (some .int), Cond.methodLink RX7 197 yX7_likelyOf, Cond.instanceMethod yX7_likelyOf, Cond.selects RX7 yX7_likelyOf yX7_likelyOf, Cond.code yX7_likelyOf cX7_likelyOf 7 (some .int), Cond.methodLink RL 77 yX6_evenings, Cond.instanceMethod yX6_evenings, Cond.selects RX6 yX6_evenings yX6_evenings, Cond.code yX6_evenings cX6_evenings 4 (some .int), Cond.methodLink RX6 189 yX6_eveningFact, Cond.instanceMethod yX6_eveningFact, Cond.selects RX6 yX6_eveningFact yX6_eveningFact, Cond.code yX6_eveningFact cX6_eveningFact 12 (some .int), Cond.methodLink RX6 276 yX6_seedAfter, Cond.static yX6_seedAfter, Cond.code yX6_seedAfter cX6_seedAfter 2 (some .long), Cond.constantLong RX6 283 (1103515245), Cond.constantLong RX6 285 (12345), Cond.constantLong RX6 287 (2147483647)]
def wsL_law_r29 : List Cond := [Cond.methodLink RX6 279 yX6_drawn, Cond.instanceMethod yX6_drawn, Cond.selects RX6 yX6_drawn yX6_drawn, Cond.code yX6_drawn cX6_drawn 9 (some .int), Cond.constantLong RX6 289 (65536), Cond.methodLink RL 81 yX7_evenings, Cond.instanceMethod yX7_evenings, Cond.selects RX7 yX7_evenings yX7_evenings, Cond.code yX7_evenings cX7_evenings 9 (some .int), Cond.constantLong RX7 213 (60), Cond.fieldLink RX7 202 "SongsAgainModel" "seedNow" "I", Cond.methodLink RX7 215 yX7_drawn, Cond.instanceMethod yX7_drawn, Cond.selects RX7 yX7_drawn yX7_drawn, Cond.code yX7_drawn cX7_drawn 4 (some .int), Cond.methodLink RX7 210 yX7_draw, Cond.instanceMethod yX7_draw, Cond.selects RX7 yX7_draw yX7_draw, Cond.code yX7_draw cX7_draw 2 (some .int), Cond.constantLong RX7 200 (1103515245), Cond.constantLong RX7 205 (12345), Cond.constantLong RX7 207 (2147483647), Cond.constant RX7 209 (65536), Cond.methodLink RL 82 yX6_image]
def wsL_law_r30 : List Cond := [Cond.instanceMethod yX6_image, Cond.selects RX6 yX6_image yX6_image, Cond.code yX6_image cX6_image 1 (some .int), Cond.methodLink RX6 193 yX4_become, Cond.instanceMethod yX4_become, Cond.selects RX4 yX4_become yX4_become, Cond.code yX4_become cX4_become 2 none, Cond.methodLink RX4 46 yX5_become, Cond.methodLink RX6 197 yX5_sum, Cond.instanceMethod yX5_sum, Cond.selects RX5 yX5_sum yX5_sum, Cond.code yX5_sum cX5_sum 3 (some .int), Cond.methodLink RL 85 yX7_image, Cond.instanceMethod yX7_image, Cond.selects RX7 yX7_image yX7_image, Cond.code yX7_image cX7_image 1 (some .int), Cond.fieldLink RX7 218 "SongsAgainModel" "keptRule" "I", Cond.fieldLink RX7 221 "SongsAgainModel" "keptBag" "I", Cond.fieldLink RX7 224 "SongsAgainModel" "keptLast" "I", Cond.fieldLink RX7 227 "SongsAgainModel" "keptSkipped" "Z", Cond.fieldLink RX7 230 "SongsAgainModel" "keptHeard" "I", Cond.methodLink RX7 233 yX7_sumAt, Cond.instanceMethod yX7_sumAt, Cond.selects RX7 yX7_sumAt yX7_sumAt]
def wsL_law_r31 : List Cond := [Cond.code yX7_sumAt cX7_sumAt 4 (some .int), Cond.methodLink RL 86 yX6_restore, Cond.instanceMethod yX6_restore, Cond.selects RX6 yX6_restore yX6_restore, Cond.code yX6_restore cX6_restore 1 (some .int), Cond.methodLink RL 89 yX7_restore, Cond.instanceMethod yX7_restore, Cond.selects RX7 yX7_restore yX7_restore, Cond.code yX7_restore cX7_restore 1 (some .int), Cond.methodLink RL 90 yX6_count, Cond.instanceMethod yX6_count, Cond.selects RX6 yX6_count yX6_count, Cond.code yX6_count cX6_count 2 (some .int), Cond.methodLink RX6 199 yX6_minutesPlayed, Cond.instanceMethod yX6_minutesPlayed, Cond.selects RX6 yX6_minutesPlayed yX6_minutesPlayed, Cond.code yX6_minutesPlayed cX6_minutesPlayed 3 (some .int), Cond.methodLink RX6 202 yX5_aboveNothing, Cond.instanceMethod yX5_aboveNothing, Cond.selects RX5 yX5_aboveNothing yX5_aboveNothing, Cond.code yX5_aboveNothing cX5_aboveNothing 3 (some .int), Cond.methodLink RL 93 yX7_count, Cond.instanceMethod yX7_count, Cond.selects RX7 yX7_count yX7_count]
def wsL_law_r32 : List Cond := [Cond.code yX7_count cX7_count 2 (some .int), Cond.methodLink RX7 242 yX7_countOf, Cond.instanceMethod yX7_countOf, Cond.selects RX7 yX7_countOf yX7_countOf, Cond.code yX7_countOf cX7_countOf 2 (some .int), Cond.methodLink RX7 236 yX7_minutesAll, Cond.instanceMethod yX7_minutesAll, Cond.selects RX7 yX7_minutesAll yX7_minutesAll, Cond.code yX7_minutesAll cX7_minutesAll 3 (some .int), Cond.methodLink RX7 239 yX7_unlike, Cond.instanceMethod yX7_unlike, Cond.selects RX7 yX7_unlike yX7_unlike, Cond.code yX7_unlike cX7_unlike 3 (some .int), Cond.methodLink RL 94 yX6_digest, Cond.instanceMethod yX6_digest, Cond.selects RX6 yX6_digest yX6_digest, Cond.code yX6_digest cX6_digest 5 (some .long), Cond.constantLong RX6 205 (997), Cond.constantLong RX6 207 (31), Cond.methodLink RX6 209 yX6_digestOfPlayer, Cond.instanceMethod yX6_digestOfPlayer, Cond.selects RX6 yX6_digestOfPlayer yX6_digestOfPlayer, Cond.code yX6_digestOfPlayer cX6_digestOfPlayer 6 (some .long), Cond.methodLink RX6 219 yX6_count]
def wsL_law_r33 : List Cond := [Cond.methodLink RL 98 yX7_digest, Cond.instanceMethod yX7_digest, Cond.selects RX7 yX7_digest yX7_digest, Cond.code yX7_digest cX7_digest 3 (some .long), Cond.constantLong RX7 254 (997), Cond.fieldLink RX7 247 "SongsAgainModel" "hash" "J", Cond.methodLink RX7 250 yX7_say, Cond.instanceMethod yX7_say, Cond.selects RX7 yX7_say yX7_say, Cond.code yX7_say cX7_say 3 none, Cond.constantLong RX7 245 (31), Cond.methodLink RX7 256 yX7_sayPlayer, Cond.instanceMethod yX7_sayPlayer, Cond.selects RX7 yX7_sayPlayer yX7_sayPlayer, Cond.code yX7_sayPlayer cX7_sayPlayer 2 none]
def wsL_law : List Cond := (wsL_law_r1 ++ (wsL_law_r2 ++ (wsL_law_r3 ++ (wsL_law_r4 ++ (wsL_law_r5 ++ (wsL_law_r6 ++ (wsL_law_r7 ++ (wsL_law_r8 ++ (wsL_law_r9 ++ (wsL_law_r10 ++ (wsL_law_r11 ++ (wsL_law_r12 ++ (wsL_law_r13 ++ (wsL_law_r14 ++ (wsL_law_r15 ++ (wsL_law_r16 ++ (wsL_law_r17 ++ (wsL_law_r18 ++ (wsL_law_r19 ++ (wsL_law_r20 ++ (wsL_law_r21 ++ (wsL_law_r22 ++ (wsL_law_r23 ++ (wsL_law_r24 ++ (wsL_law_r25 ++ (wsL_law_r26 ++ (wsL_law_r27 ++ (wsL_law_r28 ++ (wsL_law_r29 ++ (wsL_law_r30 ++ (wsL_law_r31 ++ (wsL_law_r32 ++ wsL_law_r33)))))))))))))))))))))))))))))))) ++ wsX60 ++ wsX70 ++ wsX30 ++ wsX00 ++ wsX40 ++ wsX10 ++ wsX20 ++ wsX50 ++ ([] : List Cond)
set_option maxRecDepth 20000 in
abbrev vwCl : List vw_C := [(RX0, TX0, 5), (RX1, TX1, 2), (RX2, TX2, 4), (RX3, TX3, 2), (RX4, TX4, 8), (RX5, TX5, 1), (RX6, TX6, 10), (RX7, TX7, 30)]
end
section
set_option maxRecDepth 20000 in
theorem ggX0_init_X5_init : GoodIn wsX0_init wsX5_init := goodIn_r _ [14, 15, 2, 3, 16, 17, 18, 19, 20, 21, 22] (by decide +kernel) (by decide +kernel)
set_option maxRecDepth 20000 in
theorem gX0_init_X5_init : GoodIn wsX0_init (wsX5_init) := ggX0_init_X5_init
theorem dX0_init_0 : decode cX0_init 0 = .ok (.aload_n 0, 1) := by decide +kernel
theorem dX0_init_1 : decode cX0_init 1 = .ok (.invokespecial 3, 3) := by decide +kernel
theorem dX0_init_4 : decode cX0_init 4 = .ok (.aload_n 0, 1) := by decide +kernel
theorem dX0_init_5 : decode cX0_init 5 = .ok (.new 9, 3) := by decide +kernel
theorem dX0_init_8 : decode cX0_init 8 = .ok (.dup, 1) := by decide +kernel
theorem dX0_init_9 : decode cX0_init 9 = .ok (.bipush 6, 2) := by decide +kernel
theorem dX0_init_11 : decode cX0_init 11 = .ok (.invokespecial 11, 3) := by decide +kernel
theorem dX0_init_14 : decode cX0_init 14 = .ok (.putfield 14, 3) := by decide +kernel
theorem dX0_init_17 : decode cX0_init 17 = .ok (.aload_n 0, 1) := by decide +kernel
theorem dX0_init_18 : decode cX0_init 18 = .ok (.new 9, 3) := by decide +kernel
theorem dX0_init_21 : decode cX0_init 21 = .ok (.dup, 1) := by decide +kernel
theorem dX0_init_22 : decode cX0_init 22 = .ok (.bipush 6, 2) := by decide +kernel
theorem dX0_init_24 : decode cX0_init 24 = .ok (.invokespecial 11, 3) := by decide +kernel
theorem dX0_init_27 : decode cX0_init 27 = .ok (.putfield 20, 3) := by decide +kernel
theorem dX0_init_30 : decode cX0_init 30 = .ok (.aload_n 0, 1) := by decide +kernel
theorem dX0_init_31 : decode cX0_init 31 = .ok (.new 9, 3) := by decide +kernel
theorem dX0_init_34 : decode cX0_init 34 = .ok (.dup, 1) := by decide +kernel
theorem dX0_init_35 : decode cX0_init 35 = .ok (.bipush 6, 2) := by decide +kernel
theorem dX0_init_37 : decode cX0_init 37 = .ok (.invokespecial 11, 3) := by decide +kernel
theorem dX0_init_40 : decode cX0_init 40 = .ok (.putfield 23, 3) := by decide +kernel
theorem dX0_init_43 : decode cX0_init 43 = .ok (.aload_n 0, 1) := by decide +kernel
theorem dX0_init_44 : decode cX0_init 44 = .ok (.new 9, 3) := by decide +kernel
theorem dX0_init_47 : decode cX0_init 47 = .ok (.dup, 1) := by decide +kernel
theorem dX0_init_48 : decode cX0_init 48 = .ok (.bipush 6, 2) := by decide +kernel
theorem dX0_init_50 : decode cX0_init 50 = .ok (.invokespecial 11, 3) := by decide +kernel
theorem dX0_init_53 : decode cX0_init 53 = .ok (.putfield 26, 3) := by decide +kernel
theorem dX0_init_56 : decode cX0_init 56 = .ok (.aload_n 0, 1) := by decide +kernel
theorem dX0_init_57 : decode cX0_init 57 = .ok (.iconst 0, 1) := by decide +kernel
theorem dX0_init_58 : decode cX0_init 58 = .ok (.putfield 29, 3) := by decide +kernel
theorem dX0_init_61 : decode cX0_init 61 = .ok (.return_, 1) := by decide +kernel
set_option maxRecDepth 20000 in
theorem ggX0_read_X3_songsRead : GoodIn wsX0_read wsX3_songsRead := goodIn_r _ [10, 11, 12, 13, 14, 15, 130, 131] (by decide +kernel) (by decide +kernel)
set_option maxRecDepth 20000 in
theorem gX0_read_X3_songsRead : GoodIn wsX0_read (wsV RX0 33 RX3 yX3_songsRead wsX3_songsRead) := goodIn_app (goodIn_of _ (by decide +kernel)) ggX0_read_X3_songsRead
set_option maxRecDepth 20000 in
theorem ggX0_read_X3_kindRead : GoodIn wsX0_read wsX3_kindRead := goodIn_r _ [19, 20, 21, 22, 23, 24, 25, 26, 27, 28, 29, 30, 31, 32, 33, 34, 35, 36, 37, 38, 39, 40, 41, 42, 43, 44, 45, 46, 47, 48, 49, 50, 51, 52, 53, 54, 55, 56, 14, 57, 58, 13, 15, 59, 60, 61, 62, 63, 64, 65, 66, 67, 68, 69, 70, 71, 72, 73, 74, 75, 76, 77, 78, 79, 80, 81, 82, 83, 84, 85, 86, 87, 88, 89, 90, 91, 92, 93, 94, 95, 96, 97, 98, 99, 100, 101, 102, 103, 104, 105, 106, 107, 108, 109, 110, 111, 112, 130, 131, 132] (by decide +kernel) (by decide +kernel)
set_option maxRecDepth 20000 in
theorem gX0_read_X3_kindRead : GoodIn wsX0_read (wsV RX0 39 RX3 yX3_kindRead wsX3_kindRead) := goodIn_app (goodIn_of _ (by decide +kernel)) ggX0_read_X3_kindRead
set_option maxRecDepth 20000 in
theorem ggX0_read_X5_put : GoodIn wsX0_read wsX5_put := goodIn_r _ [116, 26, 132] (by decide +kernel) (by decide +kernel)
set_option maxRecDepth 20000 in
theorem gX0_read_X5_put : GoodIn wsX0_read (wsV RX0 43 RX5 yX5_put wsX5_put) := goodIn_app (goodIn_of _ (by decide +kernel)) ggX0_read_X5_put
set_option maxRecDepth 20000 in
theorem ggX0_read_X3_singerRead : GoodIn wsX0_read wsX3_singerRead := goodIn_r _ [120, 20, 21, 22, 23, 24, 25, 26, 130, 131, 132] (by decide +kernel) (by decide +kernel)
set_option maxRecDepth 20000 in
theorem gX0_read_X3_singerRead : GoodIn wsX0_read (wsV RX0 47 RX3 yX3_singerRead wsX3_singerRead) := goodIn_app (goodIn_of _ (by decide +kernel)) ggX0_read_X3_singerRead
set_option maxRecDepth 20000 in
theorem ggX0_read_X0_weightOf : GoodIn wsX0_read wsX0_weightOf := goodIn_r _ [124] (by decide +kernel) (by decide +kernel)
set_option maxRecDepth 20000 in
theorem gX0_read_X0_weightOf : GoodIn wsX0_read (va_wsS RX0 50 yX0_weightOf wsX0_weightOf) := goodIn_app (goodIn_of _ (by decide +kernel)) ggX0_read_X0_weightOf
theorem dX0_read_0 : decode cX0_read 0 = .ok (.aload_n 0, 1) := by decide +kernel
theorem dX0_read_1 : decode cX0_read 1 = .ok (.aload_n 1, 1) := by decide +kernel
theorem dX0_read_2 : decode cX0_read 2 = .ok (.invokevirtual 33, 3) := by decide +kernel
theorem dX0_read_5 : decode cX0_read 5 = .ok (.putfield 29, 3) := by decide +kernel
theorem dX0_read_8 : decode cX0_read 8 = .ok (.iconst 0, 1) := by decide +kernel
theorem dX0_read_9 : decode cX0_read 9 = .ok (.istore_n 2, 1) := by decide +kernel
theorem dX0_read_10 : decode cX0_read 10 = .ok (.iload_n 2, 1) := by decide +kernel
theorem dX0_read_11 : decode cX0_read 11 = .ok (.aload_n 0, 1) := by decide +kernel
theorem dX0_read_12 : decode cX0_read 12 = .ok (.getfield 29, 3) := by decide +kernel
theorem dX0_read_15 : decode cX0_read 15 = .ok (.if_icmp .ge 68, 3) := by decide +kernel
theorem dX0_read_18 : decode cX0_read 18 = .ok (.aload_n 1, 1) := by decide +kernel
theorem dX0_read_19 : decode cX0_read 19 = .ok (.iload_n 2, 1) := by decide +kernel
theorem dX0_read_20 : decode cX0_read 20 = .ok (.invokevirtual 39, 3) := by decide +kernel
theorem dX0_read_23 : decode cX0_read 23 = .ok (.istore_n 3, 1) := by decide +kernel
theorem dX0_read_24 : decode cX0_read 24 = .ok (.aload_n 0, 1) := by decide +kernel
theorem dX0_read_25 : decode cX0_read 25 = .ok (.getfield 14, 3) := by decide +kernel
theorem dX0_read_28 : decode cX0_read 28 = .ok (.iload_n 2, 1) := by decide +kernel
theorem dX0_read_29 : decode cX0_read 29 = .ok (.iload_n 3, 1) := by decide +kernel
theorem dX0_read_30 : decode cX0_read 30 = .ok (.invokevirtual 43, 3) := by decide +kernel
theorem dX0_read_33 : decode cX0_read 33 = .ok (.aload_n 0, 1) := by decide +kernel
theorem dX0_read_34 : decode cX0_read 34 = .ok (.getfield 20, 3) := by decide +kernel
theorem dX0_read_37 : decode cX0_read 37 = .ok (.iload_n 2, 1) := by decide +kernel
theorem dX0_read_38 : decode cX0_read 38 = .ok (.aload_n 1, 1) := by decide +kernel
theorem dX0_read_39 : decode cX0_read 39 = .ok (.iload_n 2, 1) := by decide +kernel
theorem dX0_read_40 : decode cX0_read 40 = .ok (.invokevirtual 47, 3) := by decide +kernel
theorem dX0_read_43 : decode cX0_read 43 = .ok (.invokevirtual 43, 3) := by decide +kernel
theorem dX0_read_46 : decode cX0_read 46 = .ok (.aload_n 0, 1) := by decide +kernel
theorem dX0_read_47 : decode cX0_read 47 = .ok (.getfield 23, 3) := by decide +kernel
theorem dX0_read_50 : decode cX0_read 50 = .ok (.iload_n 2, 1) := by decide +kernel
theorem dX0_read_51 : decode cX0_read 51 = .ok (.iload_n 3, 1) := by decide +kernel
theorem dX0_read_52 : decode cX0_read 52 = .ok (.invokestatic 50, 3) := by decide +kernel
theorem dX0_read_55 : decode cX0_read 55 = .ok (.invokevirtual 43, 3) := by decide +kernel
theorem dX0_read_58 : decode cX0_read 58 = .ok (.aload_n 0, 1) := by decide +kernel
theorem dX0_read_59 : decode cX0_read 59 = .ok (.getfield 26, 3) := by decide +kernel
theorem dX0_read_62 : decode cX0_read 62 = .ok (.iload_n 2, 1) := by decide +kernel
theorem dX0_read_63 : decode cX0_read 63 = .ok (.iload_n 3, 1) := by decide +kernel
theorem dX0_read_64 : decode cX0_read 64 = .ok (.iconst 1, 1) := by decide +kernel
theorem dX0_read_65 : decode cX0_read 65 = .ok (.if_icmp .ne 8, 3) := by decide +kernel
theorem dX0_read_68 : decode cX0_read 68 = .ok (.bipush 7, 2) := by decide +kernel
theorem dX0_read_70 : decode cX0_read 70 = .ok (.goto 4, 3) := by decide +kernel
theorem dX0_read_73 : decode cX0_read 73 = .ok (.iconst 3, 1) := by decide +kernel
theorem dX0_read_74 : decode cX0_read 74 = .ok (.invokevirtual 43, 3) := by decide +kernel
theorem dX0_read_77 : decode cX0_read 77 = .ok (.iinc 2 1, 3) := by decide +kernel
theorem dX0_read_80 : decode cX0_read 80 = .ok (.goto (-70), 3) := by decide +kernel
theorem dX0_read_83 : decode cX0_read 83 = .ok (.return_, 1) := by decide +kernel
theorem dX0_has_0 : decode cX0_has 0 = .ok (.iload_n 1, 1) := by decide +kernel
theorem dX0_has_1 : decode cX0_has 1 = .ok (.ifCond .lt 15, 3) := by decide +kernel
theorem dX0_has_4 : decode cX0_has 4 = .ok (.iload_n 1, 1) := by decide +kernel
theorem dX0_has_5 : decode cX0_has 5 = .ok (.aload_n 0, 1) := by decide +kernel
theorem dX0_has_6 : decode cX0_has 6 = .ok (.getfield 29, 3) := by decide +kernel
theorem dX0_has_9 : decode cX0_has 9 = .ok (.if_icmp .ge 7, 3) := by decide +kernel
theorem dX0_has_12 : decode cX0_has 12 = .ok (.iconst 1, 1) := by decide +kernel
theorem dX0_has_13 : decode cX0_has 13 = .ok (.goto 4, 3) := by decide +kernel
theorem dX0_has_16 : decode cX0_has 16 = .ok (.iconst 0, 1) := by decide +kernel
theorem dX0_has_17 : decode cX0_has 17 = .ok (.ireturn, 1) := by decide +kernel
theorem dX0_all_0 : decode cX0_all 0 = .ok (.iconst 1, 1) := by decide +kernel
theorem dX0_all_1 : decode cX0_all 1 = .ok (.aload_n 0, 1) := by decide +kernel
theorem dX0_all_2 : decode cX0_all 2 = .ok (.getfield 29, 3) := by decide +kernel
theorem dX0_all_5 : decode cX0_all 5 = .ok (.ishl, 1) := by decide +kernel
theorem dX0_all_6 : decode cX0_all 6 = .ok (.iconst 1, 1) := by decide +kernel
theorem dX0_all_7 : decode cX0_all 7 = .ok (.isub, 1) := by decide +kernel
theorem dX0_all_8 : decode cX0_all 8 = .ok (.ireturn, 1) := by decide +kernel
set_option maxRecDepth 20000 in
theorem ggX0_isOfKind_X5_at : GoodIn wsX0_isOfKind wsX5_at := goodIn_r _ [6, 7, 13] (by decide +kernel) (by decide +kernel)
set_option maxRecDepth 20000 in
theorem gX0_isOfKind_X5_at : GoodIn wsX0_isOfKind (wsV RX0 53 RX5 yX5_at wsX5_at) := goodIn_app (goodIn_of _ (by decide +kernel)) ggX0_isOfKind_X5_at
theorem dX0_isOfKind_0 : decode cX0_isOfKind 0 = .ok (.aload_n 0, 1) := by decide +kernel
theorem dX0_isOfKind_1 : decode cX0_isOfKind 1 = .ok (.getfield 14, 3) := by decide +kernel
theorem dX0_isOfKind_4 : decode cX0_isOfKind 4 = .ok (.iload_n 1, 1) := by decide +kernel
theorem dX0_isOfKind_5 : decode cX0_isOfKind 5 = .ok (.invokevirtual 53, 3) := by decide +kernel
theorem dX0_isOfKind_8 : decode cX0_isOfKind 8 = .ok (.istore_n 3, 1) := by decide +kernel
theorem dX0_isOfKind_9 : decode cX0_isOfKind 9 = .ok (.iload_n 2, 1) := by decide +kernel
theorem dX0_isOfKind_10 : decode cX0_isOfKind 10 = .ok (.iload_n 3, 1) := by decide +kernel
theorem dX0_isOfKind_11 : decode cX0_isOfKind 11 = .ok (.if_icmp .eq 17, 3) := by decide +kernel
theorem dX0_isOfKind_14 : decode cX0_isOfKind 14 = .ok (.iload_n 2, 1) := by decide +kernel
theorem dX0_isOfKind_15 : decode cX0_isOfKind 15 = .ok (.ifCond .eq 13, 3) := by decide +kernel
theorem dX0_isOfKind_18 : decode cX0_isOfKind 18 = .ok (.iload_n 2, 1) := by decide +kernel
theorem dX0_isOfKind_19 : decode cX0_isOfKind 19 = .ok (.iconst 2, 1) := by decide +kernel
theorem dX0_isOfKind_20 : decode cX0_isOfKind 20 = .ok (.if_icmp .ne 12, 3) := by decide +kernel
theorem dX0_isOfKind_23 : decode cX0_isOfKind 23 = .ok (.iload_n 3, 1) := by decide +kernel
theorem dX0_isOfKind_24 : decode cX0_isOfKind 24 = .ok (.iconst 4, 1) := by decide +kernel
theorem dX0_isOfKind_25 : decode cX0_isOfKind 25 = .ok (.if_icmp .ne 7, 3) := by decide +kernel
theorem dX0_isOfKind_28 : decode cX0_isOfKind 28 = .ok (.iconst 1, 1) := by decide +kernel
theorem dX0_isOfKind_29 : decode cX0_isOfKind 29 = .ok (.goto 4, 3) := by decide +kernel
theorem dX0_isOfKind_32 : decode cX0_isOfKind 32 = .ok (.iconst 0, 1) := by decide +kernel
theorem dX0_isOfKind_33 : decode cX0_isOfKind 33 = .ok (.ireturn, 1) := by decide +kernel
theorem dX0_weightOf_0 : decode cX0_weightOf 0 = .ok (.iload_n 0, 1) := by decide +kernel
theorem dX0_weightOf_1 : decode cX0_weightOf 1 = .ok (.lookupswitch 31 #[(2, 27), (4, 29)], 27) := by decide +kernel
theorem dX0_weightOf_28 : decode cX0_weightOf 28 = .ok (.iconst 2, 1) := by decide +kernel
theorem dX0_weightOf_29 : decode cX0_weightOf 29 = .ok (.ireturn, 1) := by decide +kernel
theorem dX0_weightOf_30 : decode cX0_weightOf 30 = .ok (.iconst 3, 1) := by decide +kernel
theorem dX0_weightOf_31 : decode cX0_weightOf 31 = .ok (.ireturn, 1) := by decide +kernel
theorem dX0_weightOf_32 : decode cX0_weightOf 32 = .ok (.iconst 1, 1) := by decide +kernel
theorem dX0_weightOf_33 : decode cX0_weightOf 33 = .ok (.ireturn, 1) := by decide +kernel
set_option maxRecDepth 20000 in
theorem ggX0_weightTogether_X6_holds : GoodIn wsX0_weightTogether wsX6_holds := goodIn_r _ [5] (by decide +kernel) (by decide +kernel)
set_option maxRecDepth 20000 in
theorem gX0_weightTogether_X6_holds_n56 : GoodIn wsX0_weightTogether (wsX6_holds) := ggX0_weightTogether_X6_holds
set_option maxRecDepth 20000 in
theorem ggX0_weightTogether_X5_at : GoodIn wsX0_weightTogether wsX5_at := goodIn_r _ [10, 11, 17] (by decide +kernel) (by decide +kernel)
set_option maxRecDepth 20000 in
theorem gX0_weightTogether_X5_at : GoodIn wsX0_weightTogether (wsV RX0 53 RX5 yX5_at wsX5_at) := goodIn_app (goodIn_of _ (by decide +kernel)) ggX0_weightTogether_X5_at
theorem dX0_weightTogether_0 : decode cX0_weightTogether 0 = .ok (.iconst 0, 1) := by decide +kernel
theorem dX0_weightTogether_1 : decode cX0_weightTogether 1 = .ok (.istore_n 2, 1) := by decide +kernel
theorem dX0_weightTogether_2 : decode cX0_weightTogether 2 = .ok (.iconst 0, 1) := by decide +kernel
theorem dX0_weightTogether_3 : decode cX0_weightTogether 3 = .ok (.istore_n 3, 1) := by decide +kernel
theorem dX0_weightTogether_4 : decode cX0_weightTogether 4 = .ok (.iload_n 3, 1) := by decide +kernel
theorem dX0_weightTogether_5 : decode cX0_weightTogether 5 = .ok (.aload_n 0, 1) := by decide +kernel
theorem dX0_weightTogether_6 : decode cX0_weightTogether 6 = .ok (.getfield 29, 3) := by decide +kernel
theorem dX0_weightTogether_9 : decode cX0_weightTogether 9 = .ok (.if_icmp .ge 32, 3) := by decide +kernel
theorem dX0_weightTogether_12 : decode cX0_weightTogether 12 = .ok (.iload_n 2, 1) := by decide +kernel
theorem dX0_weightTogether_13 : decode cX0_weightTogether 13 = .ok (.iload_n 1, 1) := by decide +kernel
theorem dX0_weightTogether_14 : decode cX0_weightTogether 14 = .ok (.iload_n 3, 1) := by decide +kernel
theorem dX0_weightTogether_15 : decode cX0_weightTogether 15 = .ok (.invokestatic 56, 3) := by decide +kernel
theorem dX0_weightTogether_18 : decode cX0_weightTogether 18 = .ok (.ifCond .eq 14, 3) := by decide +kernel
theorem dX0_weightTogether_21 : decode cX0_weightTogether 21 = .ok (.aload_n 0, 1) := by decide +kernel
theorem dX0_weightTogether_22 : decode cX0_weightTogether 22 = .ok (.getfield 23, 3) := by decide +kernel
theorem dX0_weightTogether_25 : decode cX0_weightTogether 25 = .ok (.iload_n 3, 1) := by decide +kernel
theorem dX0_weightTogether_26 : decode cX0_weightTogether 26 = .ok (.invokevirtual 53, 3) := by decide +kernel
theorem dX0_weightTogether_29 : decode cX0_weightTogether 29 = .ok (.goto 4, 3) := by decide +kernel
theorem dX0_weightTogether_32 : decode cX0_weightTogether 32 = .ok (.iconst 0, 1) := by decide +kernel
theorem dX0_weightTogether_33 : decode cX0_weightTogether 33 = .ok (.iadd, 1) := by decide +kernel
theorem dX0_weightTogether_34 : decode cX0_weightTogether 34 = .ok (.istore_n 2, 1) := by decide +kernel
theorem dX0_weightTogether_35 : decode cX0_weightTogether 35 = .ok (.iinc 3 1, 3) := by decide +kernel
theorem dX0_weightTogether_38 : decode cX0_weightTogether 38 = .ok (.goto (-34), 3) := by decide +kernel
theorem dX0_weightTogether_41 : decode cX0_weightTogether 41 = .ok (.iload_n 2, 1) := by decide +kernel
theorem dX0_weightTogether_42 : decode cX0_weightTogether 42 = .ok (.ireturn, 1) := by decide +kernel
set_option maxRecDepth 20000 in
theorem ggX0_mayCome_X0_all : GoodIn wsX0_mayCome wsX0_all := goodIn_r _ [5, 6, 19, 20, 21, 22, 23] (by decide +kernel) (by decide +kernel)
set_option maxRecDepth 20000 in
theorem gX0_mayCome_X0_all : GoodIn wsX0_mayCome (wsV RX0 60 RX0 yX0_all wsX0_all) := goodIn_app (goodIn_of _ (by decide +kernel)) ggX0_mayCome_X0_all
set_option maxRecDepth 20000 in
theorem ggX0_mayCome_X0_mayFollow : GoodIn wsX0_mayCome wsX0_mayFollow := goodIn_r _ [10, 6, 11, 12, 13, 14, 15, 16, 17, 18, 19, 20, 21, 22, 23, 24] (by decide +kernel) (by decide +kernel)
set_option maxRecDepth 20000 in
theorem gX0_mayCome_X0_mayFollow : GoodIn wsX0_mayCome (wsV RX0 63 RX0 yX0_mayFollow wsX0_mayFollow) := goodIn_app (goodIn_of _ (by decide +kernel)) ggX0_mayCome_X0_mayFollow
theorem dX0_mayCome_0 : decode cX0_mayCome 0 = .ok (.iload_n 1, 1) := by decide +kernel
theorem dX0_mayCome_1 : decode cX0_mayCome 1 = .ok (.iconst 2, 1) := by decide +kernel
theorem dX0_mayCome_2 : decode cX0_mayCome 2 = .ok (.if_icmp .eq 8, 3) := by decide +kernel
theorem dX0_mayCome_5 : decode cX0_mayCome 5 = .ok (.iload_n 1, 1) := by decide +kernel
theorem dX0_mayCome_6 : decode cX0_mayCome 6 = .ok (.iconst 3, 1) := by decide +kernel
theorem dX0_mayCome_7 : decode cX0_mayCome 7 = .ok (.if_icmp .ne 7, 3) := by decide +kernel
theorem dX0_mayCome_10 : decode cX0_mayCome 10 = .ok (.iconst 1, 1) := by decide +kernel
theorem dX0_mayCome_11 : decode cX0_mayCome 11 = .ok (.goto 4, 3) := by decide +kernel
theorem dX0_mayCome_14 : decode cX0_mayCome 14 = .ok (.iconst 0, 1) := by decide +kernel
theorem dX0_mayCome_15 : decode cX0_mayCome 15 = .ok (.istore 4, 2) := by decide +kernel
theorem dX0_mayCome_17 : decode cX0_mayCome 17 = .ok (.iload_n 1, 1) := by decide +kernel
theorem dX0_mayCome_18 : decode cX0_mayCome 18 = .ok (.iconst 1, 1) := by decide +kernel
theorem dX0_mayCome_19 : decode cX0_mayCome 19 = .ok (.if_icmp .eq 8, 3) := by decide +kernel
theorem dX0_mayCome_22 : decode cX0_mayCome 22 = .ok (.iload_n 1, 1) := by decide +kernel
theorem dX0_mayCome_23 : decode cX0_mayCome 23 = .ok (.iconst 3, 1) := by decide +kernel
theorem dX0_mayCome_24 : decode cX0_mayCome 24 = .ok (.if_icmp .ne 7, 3) := by decide +kernel
theorem dX0_mayCome_27 : decode cX0_mayCome 27 = .ok (.iconst 1, 1) := by decide +kernel
theorem dX0_mayCome_28 : decode cX0_mayCome 28 = .ok (.goto 4, 3) := by decide +kernel
theorem dX0_mayCome_31 : decode cX0_mayCome 31 = .ok (.iconst 0, 1) := by decide +kernel
theorem dX0_mayCome_32 : decode cX0_mayCome 32 = .ok (.istore 5, 2) := by decide +kernel
theorem dX0_mayCome_34 : decode cX0_mayCome 34 = .ok (.iload 4, 2) := by decide +kernel
theorem dX0_mayCome_36 : decode cX0_mayCome 36 = .ok (.ifCond .eq 7, 3) := by decide +kernel
theorem dX0_mayCome_39 : decode cX0_mayCome 39 = .ok (.iload_n 2, 1) := by decide +kernel
theorem dX0_mayCome_40 : decode cX0_mayCome 40 = .ok (.goto 7, 3) := by decide +kernel
theorem dX0_mayCome_43 : decode cX0_mayCome 43 = .ok (.aload_n 0, 1) := by decide +kernel
theorem dX0_mayCome_44 : decode cX0_mayCome 44 = .ok (.invokevirtual 60, 3) := by decide +kernel
theorem dX0_mayCome_47 : decode cX0_mayCome 47 = .ok (.istore 6, 2) := by decide +kernel
theorem dX0_mayCome_49 : decode cX0_mayCome 49 = .ok (.iload 5, 2) := by decide +kernel
theorem dX0_mayCome_51 : decode cX0_mayCome 51 = .ok (.ifCond .eq 8, 3) := by decide +kernel
theorem dX0_mayCome_54 : decode cX0_mayCome 54 = .ok (.iload_n 3, 1) := by decide +kernel
theorem dX0_mayCome_55 : decode cX0_mayCome 55 = .ok (.iconst (-1), 1) := by decide +kernel
theorem dX0_mayCome_56 : decode cX0_mayCome 56 = .ok (.if_icmp .ne 6, 3) := by decide +kernel
theorem dX0_mayCome_59 : decode cX0_mayCome 59 = .ok (.iload 6, 2) := by decide +kernel
theorem dX0_mayCome_61 : decode cX0_mayCome 61 = .ok (.ireturn, 1) := by decide +kernel
theorem dX0_mayCome_62 : decode cX0_mayCome 62 = .ok (.iload 6, 2) := by decide +kernel
theorem dX0_mayCome_64 : decode cX0_mayCome 64 = .ok (.aload_n 0, 1) := by decide +kernel
theorem dX0_mayCome_65 : decode cX0_mayCome 65 = .ok (.iload_n 3, 1) := by decide +kernel
theorem dX0_mayCome_66 : decode cX0_mayCome 66 = .ok (.invokevirtual 63, 3) := by decide +kernel
theorem dX0_mayCome_69 : decode cX0_mayCome 69 = .ok (.iand, 1) := by decide +kernel
theorem dX0_mayCome_70 : decode cX0_mayCome 70 = .ok (.istore 7, 2) := by decide +kernel
theorem dX0_mayCome_72 : decode cX0_mayCome 72 = .ok (.iload 7, 2) := by decide +kernel
theorem dX0_mayCome_74 : decode cX0_mayCome 74 = .ok (.ifCond .ne 8, 3) := by decide +kernel
theorem dX0_mayCome_77 : decode cX0_mayCome 77 = .ok (.iload 6, 2) := by decide +kernel
theorem dX0_mayCome_79 : decode cX0_mayCome 79 = .ok (.goto 5, 3) := by decide +kernel
theorem dX0_mayCome_82 : decode cX0_mayCome 82 = .ok (.iload 7, 2) := by decide +kernel
theorem dX0_mayCome_84 : decode cX0_mayCome 84 = .ok (.ireturn, 1) := by decide +kernel
set_option maxRecDepth 20000 in
theorem ggX0_mayFollow_X5_at : GoodIn wsX0_mayFollow wsX5_at := goodIn_r _ [8, 9, 15] (by decide +kernel) (by decide +kernel)
set_option maxRecDepth 20000 in
theorem gX0_mayFollow_X5_at : GoodIn wsX0_mayFollow (wsV RX0 53 RX5 yX5_at wsX5_at) := goodIn_app (goodIn_of _ (by decide +kernel)) ggX0_mayFollow_X5_at
theorem dX0_mayFollow_0 : decode cX0_mayFollow 0 = .ok (.iconst 0, 1) := by decide +kernel
theorem dX0_mayFollow_1 : decode cX0_mayFollow 1 = .ok (.istore_n 2, 1) := by decide +kernel
theorem dX0_mayFollow_2 : decode cX0_mayFollow 2 = .ok (.iconst 0, 1) := by decide +kernel
theorem dX0_mayFollow_3 : decode cX0_mayFollow 3 = .ok (.istore_n 3, 1) := by decide +kernel
theorem dX0_mayFollow_4 : decode cX0_mayFollow 4 = .ok (.iload_n 3, 1) := by decide +kernel
theorem dX0_mayFollow_5 : decode cX0_mayFollow 5 = .ok (.aload_n 0, 1) := by decide +kernel
theorem dX0_mayFollow_6 : decode cX0_mayFollow 6 = .ok (.getfield 29, 3) := by decide +kernel
theorem dX0_mayFollow_9 : decode cX0_mayFollow 9 = .ok (.if_icmp .ge 46, 3) := by decide +kernel
theorem dX0_mayFollow_12 : decode cX0_mayFollow 12 = .ok (.aload_n 0, 1) := by decide +kernel
theorem dX0_mayFollow_13 : decode cX0_mayFollow 13 = .ok (.getfield 20, 3) := by decide +kernel
theorem dX0_mayFollow_16 : decode cX0_mayFollow 16 = .ok (.iload_n 3, 1) := by decide +kernel
theorem dX0_mayFollow_17 : decode cX0_mayFollow 17 = .ok (.invokevirtual 53, 3) := by decide +kernel
theorem dX0_mayFollow_20 : decode cX0_mayFollow 20 = .ok (.aload_n 0, 1) := by decide +kernel
theorem dX0_mayFollow_21 : decode cX0_mayFollow 21 = .ok (.getfield 20, 3) := by decide +kernel
theorem dX0_mayFollow_24 : decode cX0_mayFollow 24 = .ok (.iload_n 1, 1) := by decide +kernel
theorem dX0_mayFollow_25 : decode cX0_mayFollow 25 = .ok (.invokevirtual 53, 3) := by decide +kernel
theorem dX0_mayFollow_28 : decode cX0_mayFollow 28 = .ok (.if_icmp .ne 15, 3) := by decide +kernel
theorem dX0_mayFollow_31 : decode cX0_mayFollow 31 = .ok (.aload_n 0, 1) := by decide +kernel
theorem dX0_mayFollow_32 : decode cX0_mayFollow 32 = .ok (.getfield 14, 3) := by decide +kernel
theorem dX0_mayFollow_35 : decode cX0_mayFollow 35 = .ok (.iload_n 3, 1) := by decide +kernel
theorem dX0_mayFollow_36 : decode cX0_mayFollow 36 = .ok (.invokevirtual 53, 3) := by decide +kernel
theorem dX0_mayFollow_39 : decode cX0_mayFollow 39 = .ok (.iconst 3, 1) := by decide +kernel
theorem dX0_mayFollow_40 : decode cX0_mayFollow 40 = .ok (.if_icmp .ne 9, 3) := by decide +kernel
theorem dX0_mayFollow_43 : decode cX0_mayFollow 43 = .ok (.iload_n 2, 1) := by decide +kernel
theorem dX0_mayFollow_44 : decode cX0_mayFollow 44 = .ok (.iconst 1, 1) := by decide +kernel
theorem dX0_mayFollow_45 : decode cX0_mayFollow 45 = .ok (.iload_n 3, 1) := by decide +kernel
theorem dX0_mayFollow_46 : decode cX0_mayFollow 46 = .ok (.ishl, 1) := by decide +kernel
theorem dX0_mayFollow_47 : decode cX0_mayFollow 47 = .ok (.ior, 1) := by decide +kernel
theorem dX0_mayFollow_48 : decode cX0_mayFollow 48 = .ok (.istore_n 2, 1) := by decide +kernel
theorem dX0_mayFollow_49 : decode cX0_mayFollow 49 = .ok (.iinc 3 1, 3) := by decide +kernel
theorem dX0_mayFollow_52 : decode cX0_mayFollow 52 = .ok (.goto (-48), 3) := by decide +kernel
theorem dX0_mayFollow_55 : decode cX0_mayFollow 55 = .ok (.iload_n 2, 1) := by decide +kernel
theorem dX0_mayFollow_56 : decode cX0_mayFollow 56 = .ok (.ireturn, 1) := by decide +kernel
set_option maxRecDepth 20000 in
theorem ggX0_bagAfter_X0_all : GoodIn wsX0_bagAfter wsX0_all := goodIn_r _ [5, 6, 7, 8, 9, 10, 11] (by decide +kernel) (by decide +kernel)
set_option maxRecDepth 20000 in
theorem gX0_bagAfter_X0_all : GoodIn wsX0_bagAfter (wsV RX0 60 RX0 yX0_all wsX0_all) := goodIn_app (goodIn_of _ (by decide +kernel)) ggX0_bagAfter_X0_all
theorem dX0_bagAfter_0 : decode cX0_bagAfter 0 = .ok (.iload_n 1, 1) := by decide +kernel
theorem dX0_bagAfter_1 : decode cX0_bagAfter 1 = .ok (.iconst 1, 1) := by decide +kernel
theorem dX0_bagAfter_2 : decode cX0_bagAfter 2 = .ok (.iload_n 2, 1) := by decide +kernel
theorem dX0_bagAfter_3 : decode cX0_bagAfter 3 = .ok (.ishl, 1) := by decide +kernel
theorem dX0_bagAfter_4 : decode cX0_bagAfter 4 = .ok (.iconst (-1), 1) := by decide +kernel
theorem dX0_bagAfter_5 : decode cX0_bagAfter 5 = .ok (.ixor, 1) := by decide +kernel
theorem dX0_bagAfter_6 : decode cX0_bagAfter 6 = .ok (.iand, 1) := by decide +kernel
theorem dX0_bagAfter_7 : decode cX0_bagAfter 7 = .ok (.istore_n 3, 1) := by decide +kernel
theorem dX0_bagAfter_8 : decode cX0_bagAfter 8 = .ok (.iload_n 3, 1) := by decide +kernel
theorem dX0_bagAfter_9 : decode cX0_bagAfter 9 = .ok (.ifCond .ne 10, 3) := by decide +kernel
theorem dX0_bagAfter_12 : decode cX0_bagAfter 12 = .ok (.aload_n 0, 1) := by decide +kernel
theorem dX0_bagAfter_13 : decode cX0_bagAfter 13 = .ok (.invokevirtual 60, 3) := by decide +kernel
theorem dX0_bagAfter_16 : decode cX0_bagAfter 16 = .ok (.goto 4, 3) := by decide +kernel
theorem dX0_bagAfter_19 : decode cX0_bagAfter 19 = .ok (.iload_n 3, 1) := by decide +kernel
theorem dX0_bagAfter_20 : decode cX0_bagAfter 20 = .ok (.ireturn, 1) := by decide +kernel
theorem dX1_init_0 : decode cX1_init 0 = .ok (.aload_n 0, 1) := by decide +kernel
theorem dX1_init_1 : decode cX1_init 1 = .ok (.invokespecial 1, 3) := by decide +kernel
theorem dX1_init_4 : decode cX1_init 4 = .ok (.aload_n 0, 1) := by decide +kernel
theorem dX1_init_5 : decode cX1_init 5 = .ok (.lconst 0, 1) := by decide +kernel
theorem dX1_init_6 : decode cX1_init 6 = .ok (.putfield 7, 3) := by decide +kernel
theorem dX1_init_9 : decode cX1_init 9 = .ok (.aload_n 0, 1) := by decide +kernel
theorem dX1_init_10 : decode cX1_init 10 = .ok (.lconst 1, 1) := by decide +kernel
theorem dX1_init_11 : decode cX1_init 11 = .ok (.putfield 13, 3) := by decide +kernel
theorem dX1_init_14 : decode cX1_init 14 = .ok (.return_, 1) := by decide +kernel
set_option maxRecDepth 20000 in
theorem ggX1_become_X1_commonDivisor : GoodIn wsX1_become wsX1_commonDivisor := goodIn_r _ [6] (by decide +kernel) (by decide +kernel)
set_option maxRecDepth 20000 in
theorem gX1_become_X1_commonDivisor : GoodIn wsX1_become (va_wsS RX1 16 yX1_commonDivisor wsX1_commonDivisor) := goodIn_app (goodIn_of _ (by decide +kernel)) ggX1_become_X1_commonDivisor
theorem dX1_become_0 : decode cX1_become 0 = .ok (.lload_n 1, 1) := by decide +kernel
theorem dX1_become_1 : decode cX1_become 1 = .ok (.lload_n 3, 1) := by decide +kernel
theorem dX1_become_2 : decode cX1_become 2 = .ok (.invokestatic 16, 3) := by decide +kernel
theorem dX1_become_5 : decode cX1_become 5 = .ok (.lstore 5, 2) := by decide +kernel
theorem dX1_become_7 : decode cX1_become 7 = .ok (.lload 5, 2) := by decide +kernel
theorem dX1_become_9 : decode cX1_become 9 = .ok (.lconst 0, 1) := by decide +kernel
theorem dX1_become_10 : decode cX1_become 10 = .ok (.lcmp, 1) := by decide +kernel
theorem dX1_become_11 : decode cX1_become 11 = .ok (.ifCond .le 19, 3) := by decide +kernel
theorem dX1_become_14 : decode cX1_become 14 = .ok (.aload_n 0, 1) := by decide +kernel
theorem dX1_become_15 : decode cX1_become 15 = .ok (.lload_n 1, 1) := by decide +kernel
theorem dX1_become_16 : decode cX1_become 16 = .ok (.lload 5, 2) := by decide +kernel
theorem dX1_become_18 : decode cX1_become 18 = .ok (.ldiv, 1) := by decide +kernel
theorem dX1_become_19 : decode cX1_become 19 = .ok (.putfield 7, 3) := by decide +kernel
theorem dX1_become_22 : decode cX1_become 22 = .ok (.aload_n 0, 1) := by decide +kernel
theorem dX1_become_23 : decode cX1_become 23 = .ok (.lload_n 3, 1) := by decide +kernel
theorem dX1_become_24 : decode cX1_become 24 = .ok (.lload 5, 2) := by decide +kernel
theorem dX1_become_26 : decode cX1_become 26 = .ok (.ldiv, 1) := by decide +kernel
theorem dX1_become_27 : decode cX1_become 27 = .ok (.putfield 13, 3) := by decide +kernel
theorem dX1_become_30 : decode cX1_become 30 = .ok (.return_, 1) := by decide +kernel
set_option maxRecDepth 20000 in
theorem ggX1_multiply_X1_become : GoodIn wsX1_multiply wsX1_become := goodIn_r _ [7, 1, 2, 8, 9, 6, 10, 11, 12] (by decide +kernel) (by decide +kernel)
set_option maxRecDepth 20000 in
theorem gX1_multiply_X1_become : GoodIn wsX1_multiply (wsV RX1 20 RX1 yX1_become wsX1_become) := goodIn_app (goodIn_of _ (by decide +kernel)) ggX1_multiply_X1_become
theorem dX1_multiply_0 : decode cX1_multiply 0 = .ok (.aload_n 0, 1) := by decide +kernel
theorem dX1_multiply_1 : decode cX1_multiply 1 = .ok (.aload_n 0, 1) := by decide +kernel
theorem dX1_multiply_2 : decode cX1_multiply 2 = .ok (.getfield 7, 3) := by decide +kernel
theorem dX1_multiply_5 : decode cX1_multiply 5 = .ok (.lload_n 1, 1) := by decide +kernel
theorem dX1_multiply_6 : decode cX1_multiply 6 = .ok (.lmul, 1) := by decide +kernel
theorem dX1_multiply_7 : decode cX1_multiply 7 = .ok (.aload_n 0, 1) := by decide +kernel
theorem dX1_multiply_8 : decode cX1_multiply 8 = .ok (.getfield 13, 3) := by decide +kernel
theorem dX1_multiply_11 : decode cX1_multiply 11 = .ok (.lload_n 3, 1) := by decide +kernel
theorem dX1_multiply_12 : decode cX1_multiply 12 = .ok (.lmul, 1) := by decide +kernel
theorem dX1_multiply_13 : decode cX1_multiply 13 = .ok (.invokevirtual 20, 3) := by decide +kernel
theorem dX1_multiply_16 : decode cX1_multiply 16 = .ok (.return_, 1) := by decide +kernel
set_option maxRecDepth 20000 in
theorem ggX1_add_X1_commonDivisor : GoodIn wsX1_add wsX1_commonDivisor := goodIn_r _ [6] (by decide +kernel) (by decide +kernel)
set_option maxRecDepth 20000 in
theorem gX1_add_X1_commonDivisor : GoodIn wsX1_add (va_wsS RX1 16 yX1_commonDivisor wsX1_commonDivisor) := goodIn_app (goodIn_of _ (by decide +kernel)) ggX1_add_X1_commonDivisor
set_option maxRecDepth 20000 in
theorem ggX1_add_X1_become : GoodIn wsX1_add wsX1_become := goodIn_r _ [10, 2, 1, 3, 4, 5, 6, 11, 12] (by decide +kernel) (by decide +kernel)
set_option maxRecDepth 20000 in
theorem gX1_add_X1_become : GoodIn wsX1_add (wsV RX1 20 RX1 yX1_become wsX1_become) := goodIn_app (goodIn_of _ (by decide +kernel)) ggX1_add_X1_become
theorem dX1_add_0 : decode cX1_add 0 = .ok (.aload_n 0, 1) := by decide +kernel
theorem dX1_add_1 : decode cX1_add 1 = .ok (.getfield 13, 3) := by decide +kernel
theorem dX1_add_4 : decode cX1_add 4 = .ok (.lload_n 3, 1) := by decide +kernel
theorem dX1_add_5 : decode cX1_add 5 = .ok (.invokestatic 16, 3) := by decide +kernel
theorem dX1_add_8 : decode cX1_add 8 = .ok (.lstore 5, 2) := by decide +kernel
theorem dX1_add_10 : decode cX1_add 10 = .ok (.lload 5, 2) := by decide +kernel
theorem dX1_add_12 : decode cX1_add 12 = .ok (.lconst 0, 1) := by decide +kernel
theorem dX1_add_13 : decode cX1_add 13 = .ok (.lcmp, 1) := by decide +kernel
theorem dX1_add_14 : decode cX1_add 14 = .ok (.ifCond .le 37, 3) := by decide +kernel
theorem dX1_add_17 : decode cX1_add 17 = .ok (.lload_n 3, 1) := by decide +kernel
theorem dX1_add_18 : decode cX1_add 18 = .ok (.lload 5, 2) := by decide +kernel
theorem dX1_add_20 : decode cX1_add 20 = .ok (.ldiv, 1) := by decide +kernel
theorem dX1_add_21 : decode cX1_add 21 = .ok (.lstore 7, 2) := by decide +kernel
theorem dX1_add_23 : decode cX1_add 23 = .ok (.aload_n 0, 1) := by decide +kernel
theorem dX1_add_24 : decode cX1_add 24 = .ok (.aload_n 0, 1) := by decide +kernel
theorem dX1_add_25 : decode cX1_add 25 = .ok (.getfield 7, 3) := by decide +kernel
theorem dX1_add_28 : decode cX1_add 28 = .ok (.lload 7, 2) := by decide +kernel
theorem dX1_add_30 : decode cX1_add 30 = .ok (.lmul, 1) := by decide +kernel
theorem dX1_add_31 : decode cX1_add 31 = .ok (.lload_n 1, 1) := by decide +kernel
theorem dX1_add_32 : decode cX1_add 32 = .ok (.aload_n 0, 1) := by decide +kernel
theorem dX1_add_33 : decode cX1_add 33 = .ok (.getfield 13, 3) := by decide +kernel
theorem dX1_add_36 : decode cX1_add 36 = .ok (.lload 5, 2) := by decide +kernel
theorem dX1_add_38 : decode cX1_add 38 = .ok (.ldiv, 1) := by decide +kernel
theorem dX1_add_39 : decode cX1_add 39 = .ok (.lmul, 1) := by decide +kernel
theorem dX1_add_40 : decode cX1_add 40 = .ok (.ladd, 1) := by decide +kernel
theorem dX1_add_41 : decode cX1_add 41 = .ok (.aload_n 0, 1) := by decide +kernel
theorem dX1_add_42 : decode cX1_add 42 = .ok (.getfield 13, 3) := by decide +kernel
theorem dX1_add_45 : decode cX1_add 45 = .ok (.lload 7, 2) := by decide +kernel
theorem dX1_add_47 : decode cX1_add 47 = .ok (.lmul, 1) := by decide +kernel
theorem dX1_add_48 : decode cX1_add 48 = .ok (.invokevirtual 20, 3) := by decide +kernel
theorem dX1_add_51 : decode cX1_add 51 = .ok (.return_, 1) := by decide +kernel
theorem dX1_isMoreThan_0 : decode cX1_isMoreThan 0 = .ok (.aload_n 0, 1) := by decide +kernel
theorem dX1_isMoreThan_1 : decode cX1_isMoreThan 1 = .ok (.getfield 7, 3) := by decide +kernel
theorem dX1_isMoreThan_4 : decode cX1_isMoreThan 4 = .ok (.aload_n 1, 1) := by decide +kernel
theorem dX1_isMoreThan_5 : decode cX1_isMoreThan 5 = .ok (.getfield 13, 3) := by decide +kernel
theorem dX1_isMoreThan_8 : decode cX1_isMoreThan 8 = .ok (.lmul, 1) := by decide +kernel
theorem dX1_isMoreThan_9 : decode cX1_isMoreThan 9 = .ok (.aload_n 1, 1) := by decide +kernel
theorem dX1_isMoreThan_10 : decode cX1_isMoreThan 10 = .ok (.getfield 7, 3) := by decide +kernel
theorem dX1_isMoreThan_13 : decode cX1_isMoreThan 13 = .ok (.aload_n 0, 1) := by decide +kernel
theorem dX1_isMoreThan_14 : decode cX1_isMoreThan 14 = .ok (.getfield 13, 3) := by decide +kernel
theorem dX1_isMoreThan_17 : decode cX1_isMoreThan 17 = .ok (.lmul, 1) := by decide +kernel
theorem dX1_isMoreThan_18 : decode cX1_isMoreThan 18 = .ok (.lcmp, 1) := by decide +kernel
theorem dX1_isMoreThan_19 : decode cX1_isMoreThan 19 = .ok (.ifCond .le 7, 3) := by decide +kernel
theorem dX1_isMoreThan_22 : decode cX1_isMoreThan 22 = .ok (.iconst 1, 1) := by decide +kernel
theorem dX1_isMoreThan_23 : decode cX1_isMoreThan 23 = .ok (.goto 4, 3) := by decide +kernel
theorem dX1_isMoreThan_26 : decode cX1_isMoreThan 26 = .ok (.iconst 0, 1) := by decide +kernel
theorem dX1_isMoreThan_27 : decode cX1_isMoreThan 27 = .ok (.ireturn, 1) := by decide +kernel
theorem dX1_commonDivisor_0 : decode cX1_commonDivisor 0 = .ok (.lload_n 0, 1) := by decide +kernel
theorem dX1_commonDivisor_1 : decode cX1_commonDivisor 1 = .ok (.lstore 4, 2) := by decide +kernel
theorem dX1_commonDivisor_3 : decode cX1_commonDivisor 3 = .ok (.lload_n 2, 1) := by decide +kernel
theorem dX1_commonDivisor_4 : decode cX1_commonDivisor 4 = .ok (.lstore 6, 2) := by decide +kernel
theorem dX1_commonDivisor_6 : decode cX1_commonDivisor 6 = .ok (.iconst 0, 1) := by decide +kernel
theorem dX1_commonDivisor_7 : decode cX1_commonDivisor 7 = .ok (.istore 8, 2) := by decide +kernel
theorem dX1_commonDivisor_9 : decode cX1_commonDivisor 9 = .ok (.iload 8, 2) := by decide +kernel
theorem dX1_commonDivisor_11 : decode cX1_commonDivisor 11 = .ok (.sipush 128, 3) := by decide +kernel
theorem dX1_commonDivisor_14 : decode cX1_commonDivisor 14 = .ok (.if_icmp .ge 31, 3) := by decide +kernel
theorem dX1_commonDivisor_17 : decode cX1_commonDivisor 17 = .ok (.lload 6, 2) := by decide +kernel
theorem dX1_commonDivisor_19 : decode cX1_commonDivisor 19 = .ok (.lconst 0, 1) := by decide +kernel
theorem dX1_commonDivisor_20 : decode cX1_commonDivisor 20 = .ok (.lcmp, 1) := by decide +kernel
theorem dX1_commonDivisor_21 : decode cX1_commonDivisor 21 = .ok (.ifCond .eq 24, 3) := by decide +kernel
theorem dX1_commonDivisor_24 : decode cX1_commonDivisor 24 = .ok (.lload 4, 2) := by decide +kernel
theorem dX1_commonDivisor_26 : decode cX1_commonDivisor 26 = .ok (.lload 6, 2) := by decide +kernel
theorem dX1_commonDivisor_28 : decode cX1_commonDivisor 28 = .ok (.lrem, 1) := by decide +kernel
theorem dX1_commonDivisor_29 : decode cX1_commonDivisor 29 = .ok (.lstore 9, 2) := by decide +kernel
theorem dX1_commonDivisor_31 : decode cX1_commonDivisor 31 = .ok (.lload 6, 2) := by decide +kernel
theorem dX1_commonDivisor_33 : decode cX1_commonDivisor 33 = .ok (.lstore 4, 2) := by decide +kernel
theorem dX1_commonDivisor_35 : decode cX1_commonDivisor 35 = .ok (.lload 9, 2) := by decide +kernel
theorem dX1_commonDivisor_37 : decode cX1_commonDivisor 37 = .ok (.lstore 6, 2) := by decide +kernel
theorem dX1_commonDivisor_39 : decode cX1_commonDivisor 39 = .ok (.iinc 8 1, 3) := by decide +kernel
theorem dX1_commonDivisor_42 : decode cX1_commonDivisor 42 = .ok (.goto (-33), 3) := by decide +kernel
theorem dX1_commonDivisor_45 : decode cX1_commonDivisor 45 = .ok (.lload 4, 2) := by decide +kernel
theorem dX1_commonDivisor_47 : decode cX1_commonDivisor 47 = .ok (.lreturn, 1) := by decide +kernel
set_option maxRecDepth 20000 in
theorem ggX2_init_X5_init : GoodIn wsX2_init wsX5_init := goodIn_r _ [13, 14, 2, 3, 15, 16, 17, 18, 19, 20, 21] (by decide +kernel) (by decide +kernel)
set_option maxRecDepth 20000 in
theorem gX2_init_X5_init : GoodIn wsX2_init (wsX5_init) := ggX2_init_X5_init
theorem dX2_init_0 : decode cX2_init 0 = .ok (.aload_n 0, 1) := by decide +kernel
theorem dX2_init_1 : decode cX2_init 1 = .ok (.invokespecial 3, 3) := by decide +kernel
theorem dX2_init_4 : decode cX2_init 4 = .ok (.aload_n 0, 1) := by decide +kernel
theorem dX2_init_5 : decode cX2_init 5 = .ok (.new 9, 3) := by decide +kernel
theorem dX2_init_8 : decode cX2_init 8 = .ok (.dup, 1) := by decide +kernel
theorem dX2_init_9 : decode cX2_init 9 = .ok (.bipush 6, 2) := by decide +kernel
theorem dX2_init_11 : decode cX2_init 11 = .ok (.invokespecial 11, 3) := by decide +kernel
theorem dX2_init_14 : decode cX2_init 14 = .ok (.putfield 14, 3) := by decide +kernel
theorem dX2_init_17 : decode cX2_init 17 = .ok (.aload_n 0, 1) := by decide +kernel
theorem dX2_init_18 : decode cX2_init 18 = .ok (.new 9, 3) := by decide +kernel
theorem dX2_init_21 : decode cX2_init 21 = .ok (.dup, 1) := by decide +kernel
theorem dX2_init_22 : decode cX2_init 22 = .ok (.bipush 6, 2) := by decide +kernel
theorem dX2_init_24 : decode cX2_init 24 = .ok (.invokespecial 11, 3) := by decide +kernel
theorem dX2_init_27 : decode cX2_init 27 = .ok (.putfield 20, 3) := by decide +kernel
theorem dX2_init_30 : decode cX2_init 30 = .ok (.aload_n 0, 1) := by decide +kernel
theorem dX2_init_31 : decode cX2_init 31 = .ok (.iconst 0, 1) := by decide +kernel
theorem dX2_init_32 : decode cX2_init 32 = .ok (.putfield 23, 3) := by decide +kernel
theorem dX2_init_35 : decode cX2_init 35 = .ok (.aload_n 0, 1) := by decide +kernel
theorem dX2_init_36 : decode cX2_init 36 = .ok (.iconst 0, 1) := by decide +kernel
theorem dX2_init_37 : decode cX2_init 37 = .ok (.putfield 27, 3) := by decide +kernel
theorem dX2_init_40 : decode cX2_init 40 = .ok (.return_, 1) := by decide +kernel
set_option maxRecDepth 20000 in
theorem ggX2_findAll_X2_goOn : GoodIn wsX2_findAll wsX2_goOn := goodIn_r _ [6, 7, 8, 9, 10, 5, 11, 1, 12, 2, 13, 14, 15, 16, 17, 18, 19, 20, 21, 22, 23, 24, 25, 26, 27, 28, 29, 30, 31, 32, 33, 3, 4, 38, 39, 40, 41, 42, 34, 35, 36, 37, 43] (by decide +kernel) (by decide +kernel)
set_option maxRecDepth 20000 in
theorem gX2_findAll_X2_goOn : GoodIn wsX2_findAll (va_wsS RX2 30 yX2_goOn wsX2_goOn) := goodIn_app (goodIn_of _ (by decide +kernel)) ggX2_findAll_X2_goOn
theorem dX2_findAll_0 : decode cX2_findAll 0 = .ok (.aload_n 0, 1) := by decide +kernel
theorem dX2_findAll_1 : decode cX2_findAll 1 = .ok (.iconst 0, 1) := by decide +kernel
theorem dX2_findAll_2 : decode cX2_findAll 2 = .ok (.putfield 27, 3) := by decide +kernel
theorem dX2_findAll_5 : decode cX2_findAll 5 = .ok (.aload_n 0, 1) := by decide +kernel
theorem dX2_findAll_6 : decode cX2_findAll 6 = .ok (.iconst 0, 1) := by decide +kernel
theorem dX2_findAll_7 : decode cX2_findAll 7 = .ok (.putfield 23, 3) := by decide +kernel
theorem dX2_findAll_10 : decode cX2_findAll 10 = .ok (.aload_n 0, 1) := by decide +kernel
theorem dX2_findAll_11 : decode cX2_findAll 11 = .ok (.aload_n 1, 1) := by decide +kernel
theorem dX2_findAll_12 : decode cX2_findAll 12 = .ok (.iload_n 2, 1) := by decide +kernel
theorem dX2_findAll_13 : decode cX2_findAll 13 = .ok (.iconst 0, 1) := by decide +kernel
theorem dX2_findAll_14 : decode cX2_findAll 14 = .ok (.invokestatic 30, 3) := by decide +kernel
theorem dX2_findAll_17 : decode cX2_findAll 17 = .ok (.return_, 1) := by decide +kernel
set_option maxRecDepth 20000 in
theorem ggX2_goOn_X2_take : GoodIn wsX2_goOn wsX2_take := goodIn_r _ [6, 7, 8, 1, 9, 10, 11, 12, 13, 14, 15, 16, 17, 18, 19, 38, 39, 40, 41, 42] (by decide +kernel) (by decide +kernel)
set_option maxRecDepth 20000 in
theorem gX2_goOn_X2_take : GoodIn wsX2_goOn (wsV RX2 34 RX2 yX2_take wsX2_take) := goodIn_app (goodIn_of _ (by decide +kernel)) ggX2_goOn_X2_take
set_option maxRecDepth 20000 in
theorem ggX2_goOn_X6_holds : GoodIn wsX2_goOn wsX6_holds := goodIn_r _ [22] (by decide +kernel) (by decide +kernel)
set_option maxRecDepth 20000 in
theorem gX2_goOn_X6_holds_n40 : GoodIn wsX2_goOn (wsX6_holds) := ggX2_goOn_X6_holds
set_option maxRecDepth 20000 in
theorem ggX2_goOn_X5_at : GoodIn wsX2_goOn wsX5_at := goodIn_r _ [19, 15, 42] (by decide +kernel) (by decide +kernel)
set_option maxRecDepth 20000 in
theorem gX2_goOn_X5_at : GoodIn wsX2_goOn (wsV RX2 44 RX5 yX5_at wsX5_at) := goodIn_app (goodIn_of _ (by decide +kernel)) ggX2_goOn_X5_at
set_option maxRecDepth 20000 in
theorem ggX2_goOn_X2_unlikeSingers : GoodIn wsX2_goOn wsX2_unlikeSingers := goodIn_r _ [26, 23, 17, 18, 13, 19, 15, 33, 34, 35, 36, 37, 42] (by decide +kernel) (by decide +kernel)
set_option maxRecDepth 20000 in
theorem gX2_goOn_X2_unlikeSingers : GoodIn wsX2_goOn (va_wsS RX2 48 yX2_unlikeSingers wsX2_unlikeSingers) := goodIn_app (goodIn_of _ (by decide +kernel)) ggX2_goOn_X2_unlikeSingers
set_option maxRecDepth 20000 in
theorem ggX2_goOn_X5_put : GoodIn wsX2_goOn wsX5_put := goodIn_r _ [30, 15, 42] (by decide +kernel) (by decide +kernel)
set_option maxRecDepth 20000 in
theorem gX2_goOn_X5_put : GoodIn wsX2_goOn (wsV RX2 52 RX5 yX5_put wsX5_put) := goodIn_app (goodIn_of _ (by decide +kernel)) ggX2_goOn_X5_put
set_option maxRecDepth 20000 in
theorem ggX2_goOn_X2_goOn : GoodIn wsX2_goOn wsX2_goOn := goodIn_r _ [0, 1, 2, 3, 4, 5, 6, 7, 8, 9, 10, 11, 12, 13, 14, 15, 16, 17, 18, 19, 20, 21, 22, 23, 24, 25, 26, 27, 28, 29, 30, 31, 32, 33, 34, 35, 36, 37, 38, 39, 40, 41, 42] (by decide +kernel) (by decide +kernel)
set_option maxRecDepth 20000 in
theorem gX2_goOn_X2_goOn : GoodIn wsX2_goOn (va_wsS RX2 30 yX2_goOn wsX2_goOn) := goodIn_app (goodIn_of _ (by decide +kernel)) ggX2_goOn_X2_goOn
theorem dX2_goOn_0 : decode cX2_goOn 0 = .ok (.iload_n 2, 1) := by decide +kernel
theorem dX2_goOn_1 : decode cX2_goOn 1 = .ok (.ifCond .ne 9, 3) := by decide +kernel
theorem dX2_goOn_4 : decode cX2_goOn 4 = .ok (.aload_n 0, 1) := by decide +kernel
theorem dX2_goOn_5 : decode cX2_goOn 5 = .ok (.iload_n 3, 1) := by decide +kernel
theorem dX2_goOn_6 : decode cX2_goOn 6 = .ok (.invokevirtual 34, 3) := by decide +kernel
theorem dX2_goOn_9 : decode cX2_goOn 9 = .ok (.return_, 1) := by decide +kernel
theorem dX2_goOn_10 : decode cX2_goOn 10 = .ok (.iload_n 3, 1) := by decide +kernel
theorem dX2_goOn_11 : decode cX2_goOn 11 = .ok (.bipush 6, 2) := by decide +kernel
theorem dX2_goOn_13 : decode cX2_goOn 13 = .ok (.if_icmp .lt 4, 3) := by decide +kernel
theorem dX2_goOn_16 : decode cX2_goOn 16 = .ok (.return_, 1) := by decide +kernel
theorem dX2_goOn_17 : decode cX2_goOn 17 = .ok (.iconst 0, 1) := by decide +kernel
theorem dX2_goOn_18 : decode cX2_goOn 18 = .ok (.istore 4, 2) := by decide +kernel
theorem dX2_goOn_20 : decode cX2_goOn 20 = .ok (.iload 4, 2) := by decide +kernel
theorem dX2_goOn_22 : decode cX2_goOn 22 = .ok (.aload_n 1, 1) := by decide +kernel
theorem dX2_goOn_23 : decode cX2_goOn 23 = .ok (.getfield 37, 3) := by decide +kernel
theorem dX2_goOn_26 : decode cX2_goOn 26 = .ok (.if_icmp .ge 67, 3) := by decide +kernel
theorem dX2_goOn_29 : decode cX2_goOn 29 = .ok (.iload_n 2, 1) := by decide +kernel
theorem dX2_goOn_30 : decode cX2_goOn 30 = .ok (.iload 4, 2) := by decide +kernel
theorem dX2_goOn_32 : decode cX2_goOn 32 = .ok (.invokestatic 40, 3) := by decide +kernel
theorem dX2_goOn_35 : decode cX2_goOn 35 = .ok (.ifCond .eq 52, 3) := by decide +kernel
theorem dX2_goOn_38 : decode cX2_goOn 38 = .ok (.iload_n 3, 1) := by decide +kernel
theorem dX2_goOn_39 : decode cX2_goOn 39 = .ok (.ifCond .eq 22, 3) := by decide +kernel
theorem dX2_goOn_42 : decode cX2_goOn 42 = .ok (.aload_n 1, 1) := by decide +kernel
theorem dX2_goOn_43 : decode cX2_goOn 43 = .ok (.iload 4, 2) := by decide +kernel
theorem dX2_goOn_45 : decode cX2_goOn 45 = .ok (.aload_n 0, 1) := by decide +kernel
theorem dX2_goOn_46 : decode cX2_goOn 46 = .ok (.getfield 14, 3) := by decide +kernel
theorem dX2_goOn_49 : decode cX2_goOn 49 = .ok (.iload_n 3, 1) := by decide +kernel
theorem dX2_goOn_50 : decode cX2_goOn 50 = .ok (.iconst 1, 1) := by decide +kernel
theorem dX2_goOn_51 : decode cX2_goOn 51 = .ok (.isub, 1) := by decide +kernel
theorem dX2_goOn_52 : decode cX2_goOn 52 = .ok (.invokevirtual 44, 3) := by decide +kernel
theorem dX2_goOn_55 : decode cX2_goOn 55 = .ok (.invokestatic 48, 3) := by decide +kernel
theorem dX2_goOn_58 : decode cX2_goOn 58 = .ok (.ifCond .eq 29, 3) := by decide +kernel
theorem dX2_goOn_61 : decode cX2_goOn 61 = .ok (.aload_n 0, 1) := by decide +kernel
theorem dX2_goOn_62 : decode cX2_goOn 62 = .ok (.getfield 14, 3) := by decide +kernel
theorem dX2_goOn_65 : decode cX2_goOn 65 = .ok (.iload_n 3, 1) := by decide +kernel
theorem dX2_goOn_66 : decode cX2_goOn 66 = .ok (.iload 4, 2) := by decide +kernel
theorem dX2_goOn_68 : decode cX2_goOn 68 = .ok (.invokevirtual 52, 3) := by decide +kernel
theorem dX2_goOn_71 : decode cX2_goOn 71 = .ok (.aload_n 0, 1) := by decide +kernel
theorem dX2_goOn_72 : decode cX2_goOn 72 = .ok (.aload_n 1, 1) := by decide +kernel
theorem dX2_goOn_73 : decode cX2_goOn 73 = .ok (.iload_n 2, 1) := by decide +kernel
theorem dX2_goOn_74 : decode cX2_goOn 74 = .ok (.iconst 1, 1) := by decide +kernel
theorem dX2_goOn_75 : decode cX2_goOn 75 = .ok (.iload 4, 2) := by decide +kernel
theorem dX2_goOn_77 : decode cX2_goOn 77 = .ok (.ishl, 1) := by decide +kernel
theorem dX2_goOn_78 : decode cX2_goOn 78 = .ok (.iconst (-1), 1) := by decide +kernel
theorem dX2_goOn_79 : decode cX2_goOn 79 = .ok (.ixor, 1) := by decide +kernel
theorem dX2_goOn_80 : decode cX2_goOn 80 = .ok (.iand, 1) := by decide +kernel
theorem dX2_goOn_81 : decode cX2_goOn 81 = .ok (.iload_n 3, 1) := by decide +kernel
theorem dX2_goOn_82 : decode cX2_goOn 82 = .ok (.iconst 1, 1) := by decide +kernel
theorem dX2_goOn_83 : decode cX2_goOn 83 = .ok (.iadd, 1) := by decide +kernel
theorem dX2_goOn_84 : decode cX2_goOn 84 = .ok (.invokestatic 30, 3) := by decide +kernel
theorem dX2_goOn_87 : decode cX2_goOn 87 = .ok (.iinc 4 1, 3) := by decide +kernel
theorem dX2_goOn_90 : decode cX2_goOn 90 = .ok (.goto (-70), 3) := by decide +kernel
theorem dX2_goOn_93 : decode cX2_goOn 93 = .ok (.return_, 1) := by decide +kernel
set_option maxRecDepth 20000 in
theorem ggX2_unlikeSingers_X5_at : GoodIn wsX2_unlikeSingers wsX5_at := goodIn_r _ [5, 6, 12] (by decide +kernel) (by decide +kernel)
set_option maxRecDepth 20000 in
theorem gX2_unlikeSingers_X5_at : GoodIn wsX2_unlikeSingers (wsV RX2 44 RX5 yX5_at wsX5_at) := goodIn_app (goodIn_of _ (by decide +kernel)) ggX2_unlikeSingers_X5_at
theorem dX2_unlikeSingers_0 : decode cX2_unlikeSingers 0 = .ok (.aload_n 0, 1) := by decide +kernel
theorem dX2_unlikeSingers_1 : decode cX2_unlikeSingers 1 = .ok (.getfield 56, 3) := by decide +kernel
theorem dX2_unlikeSingers_4 : decode cX2_unlikeSingers 4 = .ok (.iload_n 1, 1) := by decide +kernel
theorem dX2_unlikeSingers_5 : decode cX2_unlikeSingers 5 = .ok (.invokevirtual 44, 3) := by decide +kernel
theorem dX2_unlikeSingers_8 : decode cX2_unlikeSingers 8 = .ok (.aload_n 0, 1) := by decide +kernel
theorem dX2_unlikeSingers_9 : decode cX2_unlikeSingers 9 = .ok (.getfield 56, 3) := by decide +kernel
theorem dX2_unlikeSingers_12 : decode cX2_unlikeSingers 12 = .ok (.iload_n 2, 1) := by decide +kernel
theorem dX2_unlikeSingers_13 : decode cX2_unlikeSingers 13 = .ok (.invokevirtual 44, 3) := by decide +kernel
theorem dX2_unlikeSingers_16 : decode cX2_unlikeSingers 16 = .ok (.if_icmp .eq 7, 3) := by decide +kernel
theorem dX2_unlikeSingers_19 : decode cX2_unlikeSingers 19 = .ok (.iconst 1, 1) := by decide +kernel
theorem dX2_unlikeSingers_20 : decode cX2_unlikeSingers 20 = .ok (.goto 4, 3) := by decide +kernel
theorem dX2_unlikeSingers_23 : decode cX2_unlikeSingers 23 = .ok (.iconst 0, 1) := by decide +kernel
theorem dX2_unlikeSingers_24 : decode cX2_unlikeSingers 24 = .ok (.ireturn, 1) := by decide +kernel
set_option maxRecDepth 20000 in
theorem ggX2_take_X5_become : GoodIn wsX2_take wsX5_become := goodIn_r _ [9, 10, 11, 12, 13, 8, 14, 19] (by decide +kernel) (by decide +kernel)
set_option maxRecDepth 20000 in
theorem gX2_take_X5_become : GoodIn wsX2_take (wsV RX2 59 RX5 yX5_become wsX5_become) := goodIn_app (goodIn_of _ (by decide +kernel)) ggX2_take_X5_become
theorem dX2_take_0 : decode cX2_take 0 = .ok (.aload_n 0, 1) := by decide +kernel
theorem dX2_take_1 : decode cX2_take 1 = .ok (.getfield 27, 3) := by decide +kernel
theorem dX2_take_4 : decode cX2_take 4 = .ok (.ifCond .ne 19, 3) := by decide +kernel
theorem dX2_take_7 : decode cX2_take 7 = .ok (.aload_n 0, 1) := by decide +kernel
theorem dX2_take_8 : decode cX2_take 8 = .ok (.getfield 20, 3) := by decide +kernel
theorem dX2_take_11 : decode cX2_take 11 = .ok (.aload_n 0, 1) := by decide +kernel
theorem dX2_take_12 : decode cX2_take 12 = .ok (.getfield 14, 3) := by decide +kernel
theorem dX2_take_15 : decode cX2_take 15 = .ok (.invokevirtual 59, 3) := by decide +kernel
theorem dX2_take_18 : decode cX2_take 18 = .ok (.aload_n 0, 1) := by decide +kernel
theorem dX2_take_19 : decode cX2_take 19 = .ok (.iload_n 1, 1) := by decide +kernel
theorem dX2_take_20 : decode cX2_take 20 = .ok (.putfield 23, 3) := by decide +kernel
theorem dX2_take_23 : decode cX2_take 23 = .ok (.aload_n 0, 1) := by decide +kernel
theorem dX2_take_24 : decode cX2_take 24 = .ok (.dup, 1) := by decide +kernel
theorem dX2_take_25 : decode cX2_take 25 = .ok (.getfield 27, 3) := by decide +kernel
theorem dX2_take_28 : decode cX2_take 28 = .ok (.iconst 1, 1) := by decide +kernel
theorem dX2_take_29 : decode cX2_take 29 = .ok (.iadd, 1) := by decide +kernel
theorem dX2_take_30 : decode cX2_take 30 = .ok (.putfield 27, 3) := by decide +kernel
theorem dX2_take_33 : decode cX2_take 33 = .ok (.return_, 1) := by decide +kernel
set_option maxRecDepth 20000 in
theorem ggX2_fact_X5_at : GoodIn wsX2_fact wsX5_at := goodIn_r _ [8, 9, 14] (by decide +kernel) (by decide +kernel)
set_option maxRecDepth 20000 in
theorem gX2_fact_X5_at : GoodIn wsX2_fact (wsV RX2 44 RX5 yX5_at wsX5_at) := goodIn_app (goodIn_of _ (by decide +kernel)) ggX2_fact_X5_at
theorem dX2_fact_0 : decode cX2_fact 0 = .ok (.iload_n 1, 1) := by decide +kernel
theorem dX2_fact_1 : decode cX2_fact 1 = .ok (.ifCond .ne 8, 3) := by decide +kernel
theorem dX2_fact_4 : decode cX2_fact 4 = .ok (.aload_n 0, 1) := by decide +kernel
theorem dX2_fact_5 : decode cX2_fact 5 = .ok (.getfield 27, 3) := by decide +kernel
theorem dX2_fact_8 : decode cX2_fact 8 = .ok (.ireturn, 1) := by decide +kernel
theorem dX2_fact_9 : decode cX2_fact 9 = .ok (.iload_n 1, 1) := by decide +kernel
theorem dX2_fact_10 : decode cX2_fact 10 = .ok (.bipush 10, 2) := by decide +kernel
theorem dX2_fact_12 : decode cX2_fact 12 = .ok (.isub, 1) := by decide +kernel
theorem dX2_fact_13 : decode cX2_fact 13 = .ok (.istore_n 2, 1) := by decide +kernel
theorem dX2_fact_14 : decode cX2_fact 14 = .ok (.iload_n 2, 1) := by decide +kernel
theorem dX2_fact_15 : decode cX2_fact 15 = .ok (.ifCond .lt 22, 3) := by decide +kernel
theorem dX2_fact_18 : decode cX2_fact 18 = .ok (.iload_n 2, 1) := by decide +kernel
theorem dX2_fact_19 : decode cX2_fact 19 = .ok (.aload_n 0, 1) := by decide +kernel
theorem dX2_fact_20 : decode cX2_fact 20 = .ok (.getfield 23, 3) := by decide +kernel
theorem dX2_fact_23 : decode cX2_fact 23 = .ok (.if_icmp .ge 14, 3) := by decide +kernel
theorem dX2_fact_26 : decode cX2_fact 26 = .ok (.aload_n 0, 1) := by decide +kernel
theorem dX2_fact_27 : decode cX2_fact 27 = .ok (.getfield 20, 3) := by decide +kernel
theorem dX2_fact_30 : decode cX2_fact 30 = .ok (.iload_n 2, 1) := by decide +kernel
theorem dX2_fact_31 : decode cX2_fact 31 = .ok (.invokevirtual 44, 3) := by decide +kernel
theorem dX2_fact_34 : decode cX2_fact 34 = .ok (.goto 4, 3) := by decide +kernel
theorem dX2_fact_37 : decode cX2_fact 37 = .ok (.iconst (-1), 1) := by decide +kernel
theorem dX2_fact_38 : decode cX2_fact 38 = .ok (.ireturn, 1) := by decide +kernel
set_option maxRecDepth 20000 in
theorem ggX3_init_X5_init : GoodIn wsX3_init wsX5_init := goodIn_r _ [11, 12, 2, 3, 13, 14, 15, 16, 17, 18, 19] (by decide +kernel) (by decide +kernel)
set_option maxRecDepth 20000 in
theorem gX3_init_X5_init : GoodIn wsX3_init (wsX5_init) := ggX3_init_X5_init
theorem dX3_init_0 : decode cX3_init 0 = .ok (.aload_n 0, 1) := by decide +kernel
theorem dX3_init_1 : decode cX3_init 1 = .ok (.invokespecial 3, 3) := by decide +kernel
theorem dX3_init_4 : decode cX3_init 4 = .ok (.aload_n 0, 1) := by decide +kernel
theorem dX3_init_5 : decode cX3_init 5 = .ok (.new 9, 3) := by decide +kernel
theorem dX3_init_8 : decode cX3_init 8 = .ok (.dup, 1) := by decide +kernel
theorem dX3_init_9 : decode cX3_init 9 = .ok (.bipush 22, 2) := by decide +kernel
theorem dX3_init_11 : decode cX3_init 11 = .ok (.invokespecial 11, 3) := by decide +kernel
theorem dX3_init_14 : decode cX3_init 14 = .ok (.putfield 14, 3) := by decide +kernel
theorem dX3_init_17 : decode cX3_init 17 = .ok (.aload_n 0, 1) := by decide +kernel
theorem dX3_init_18 : decode cX3_init 18 = .ok (.iconst 0, 1) := by decide +kernel
theorem dX3_init_19 : decode cX3_init 19 = .ok (.putfield 20, 3) := by decide +kernel
theorem dX3_init_22 : decode cX3_init 22 = .ok (.return_, 1) := by decide +kernel
set_option maxRecDepth 20000 in
theorem ggX3_append_X5_put : GoodIn wsX3_append wsX5_put := goodIn_r _ [7, 8, 11] (by decide +kernel) (by decide +kernel)
set_option maxRecDepth 20000 in
theorem gX3_append_X5_put : GoodIn wsX3_append (wsV RX3 24 RX5 yX5_put wsX5_put) := goodIn_app (goodIn_of _ (by decide +kernel)) ggX3_append_X5_put
theorem dX3_append_0 : decode cX3_append 0 = .ok (.aload_n 0, 1) := by decide +kernel
theorem dX3_append_1 : decode cX3_append 1 = .ok (.getfield 14, 3) := by decide +kernel
theorem dX3_append_4 : decode cX3_append 4 = .ok (.aload_n 0, 1) := by decide +kernel
theorem dX3_append_5 : decode cX3_append 5 = .ok (.getfield 20, 3) := by decide +kernel
theorem dX3_append_8 : decode cX3_append 8 = .ok (.iload_n 1, 1) := by decide +kernel
theorem dX3_append_9 : decode cX3_append 9 = .ok (.invokevirtual 24, 3) := by decide +kernel
theorem dX3_append_12 : decode cX3_append 12 = .ok (.aload_n 0, 1) := by decide +kernel
theorem dX3_append_13 : decode cX3_append 13 = .ok (.dup, 1) := by decide +kernel
theorem dX3_append_14 : decode cX3_append 14 = .ok (.getfield 20, 3) := by decide +kernel
theorem dX3_append_17 : decode cX3_append 17 = .ok (.iconst 1, 1) := by decide +kernel
theorem dX3_append_18 : decode cX3_append 18 = .ok (.iadd, 1) := by decide +kernel
theorem dX3_append_19 : decode cX3_append 19 = .ok (.putfield 20, 3) := by decide +kernel
theorem dX3_append_22 : decode cX3_append 22 = .ok (.return_, 1) := by decide +kernel
theorem dX3_clear_0 : decode cX3_clear 0 = .ok (.aload_n 0, 1) := by decide +kernel
theorem dX3_clear_1 : decode cX3_clear 1 = .ok (.iconst 0, 1) := by decide +kernel
theorem dX3_clear_2 : decode cX3_clear 2 = .ok (.putfield 20, 3) := by decide +kernel
theorem dX3_clear_5 : decode cX3_clear 5 = .ok (.return_, 1) := by decide +kernel
set_option maxRecDepth 20000 in
theorem ggX3_firstFault_X3_fits : GoodIn wsX3_firstFault wsX3_fits := goodIn_r _ [7, 2, 8, 9, 10, 11, 12, 13, 14, 15, 6, 16, 17, 18, 19, 20, 21, 22, 23, 24, 25, 26, 27, 28, 29, 30, 31, 32, 33, 34, 35, 36, 37, 38, 39, 40, 41, 42, 43, 44, 45, 46, 47, 48, 49, 50, 51, 52, 53, 54, 55, 56, 57, 58, 59, 60, 61, 62, 63, 64, 65, 66, 67, 68, 69, 70, 71, 72, 73, 74, 75, 76, 77, 78, 79, 80, 81, 82, 83, 84, 85, 86, 87, 88, 89, 90, 91, 92, 93, 94, 95, 96, 97, 98, 99, 100, 101, 102, 103, 104, 105, 106, 107, 108, 109, 110, 111] (by decide +kernel) (by decide +kernel)
set_option maxRecDepth 20000 in
theorem gX3_firstFault_X3_fits : GoodIn wsX3_firstFault (wsV RX3 28 RX3 yX3_fits wsX3_fits) := goodIn_app (goodIn_of _ (by decide +kernel)) ggX3_firstFault_X3_fits
set_option maxRecDepth 20000 in
theorem ggX3_firstFault_X5_at : GoodIn wsX3_firstFault wsX5_at := goodIn_r _ [12, 13, 111] (by decide +kernel) (by decide +kernel)
set_option maxRecDepth 20000 in
theorem gX3_firstFault_X5_at : GoodIn wsX3_firstFault (wsV RX3 32 RX5 yX5_at wsX5_at) := goodIn_app (goodIn_of _ (by decide +kernel)) ggX3_firstFault_X5_at
theorem dX3_firstFault_0 : decode cX3_firstFault 0 = .ok (.iconst (-1), 1) := by decide +kernel
theorem dX3_firstFault_1 : decode cX3_firstFault 1 = .ok (.istore_n 1, 1) := by decide +kernel
theorem dX3_firstFault_2 : decode cX3_firstFault 2 = .ok (.iconst 0, 1) := by decide +kernel
theorem dX3_firstFault_3 : decode cX3_firstFault 3 = .ok (.istore_n 2, 1) := by decide +kernel
theorem dX3_firstFault_4 : decode cX3_firstFault 4 = .ok (.iload_n 2, 1) := by decide +kernel
theorem dX3_firstFault_5 : decode cX3_firstFault 5 = .ok (.aload_n 0, 1) := by decide +kernel
theorem dX3_firstFault_6 : decode cX3_firstFault 6 = .ok (.getfield 20, 3) := by decide +kernel
theorem dX3_firstFault_9 : decode cX3_firstFault 9 = .ok (.if_icmp .ge 35, 3) := by decide +kernel
theorem dX3_firstFault_12 : decode cX3_firstFault 12 = .ok (.aload_n 0, 1) := by decide +kernel
theorem dX3_firstFault_13 : decode cX3_firstFault 13 = .ok (.iload_n 2, 1) := by decide +kernel
theorem dX3_firstFault_14 : decode cX3_firstFault 14 = .ok (.iload_n 1, 1) := by decide +kernel
theorem dX3_firstFault_15 : decode cX3_firstFault 15 = .ok (.invokevirtual 28, 3) := by decide +kernel
theorem dX3_firstFault_18 : decode cX3_firstFault 18 = .ok (.ifCond .ne 5, 3) := by decide +kernel
theorem dX3_firstFault_21 : decode cX3_firstFault 21 = .ok (.iload_n 2, 1) := by decide +kernel
theorem dX3_firstFault_22 : decode cX3_firstFault 22 = .ok (.ireturn, 1) := by decide +kernel
theorem dX3_firstFault_23 : decode cX3_firstFault 23 = .ok (.aload_n 0, 1) := by decide +kernel
theorem dX3_firstFault_24 : decode cX3_firstFault 24 = .ok (.getfield 14, 3) := by decide +kernel
theorem dX3_firstFault_27 : decode cX3_firstFault 27 = .ok (.iload_n 2, 1) := by decide +kernel
theorem dX3_firstFault_28 : decode cX3_firstFault 28 = .ok (.invokevirtual 32, 3) := by decide +kernel
theorem dX3_firstFault_31 : decode cX3_firstFault 31 = .ok (.bipush 59, 2) := by decide +kernel
theorem dX3_firstFault_33 : decode cX3_firstFault 33 = .ok (.if_icmp .ne 5, 3) := by decide +kernel
theorem dX3_firstFault_36 : decode cX3_firstFault 36 = .ok (.iload_n 2, 1) := by decide +kernel
theorem dX3_firstFault_37 : decode cX3_firstFault 37 = .ok (.istore_n 1, 1) := by decide +kernel
theorem dX3_firstFault_38 : decode cX3_firstFault 38 = .ok (.iinc 2 1, 3) := by decide +kernel
theorem dX3_firstFault_41 : decode cX3_firstFault 41 = .ok (.goto (-37), 3) := by decide +kernel
theorem dX3_firstFault_44 : decode cX3_firstFault 44 = .ok (.aload_n 0, 1) := by decide +kernel
theorem dX3_firstFault_45 : decode cX3_firstFault 45 = .ok (.getfield 20, 3) := by decide +kernel
theorem dX3_firstFault_48 : decode cX3_firstFault 48 = .ok (.ireturn, 1) := by decide +kernel
set_option maxRecDepth 20000 in
theorem ggX3_fits_X5_at : GoodIn wsX3_fits wsX5_at := goodIn_r _ [6, 7, 106] (by decide +kernel) (by decide +kernel)
set_option maxRecDepth 20000 in
theorem gX3_fits_X5_at : GoodIn wsX3_fits (wsV RX3 32 RX5 yX5_at wsX5_at) := goodIn_app (goodIn_of _ (by decide +kernel)) ggX3_fits_X5_at
set_option maxRecDepth 20000 in
theorem ggX3_fits_X3_isDigitBelow : GoodIn wsX3_fits wsX3_isDigitBelow := goodIn_r _ [11] (by decide +kernel) (by decide +kernel)
set_option maxRecDepth 20000 in
theorem gX3_fits_X3_isDigitBelow : GoodIn wsX3_fits (va_wsS RX3 36 yX3_isDigitBelow wsX3_isDigitBelow) := goodIn_app (goodIn_of _ (by decide +kernel)) ggX3_fits_X3_isDigitBelow
set_option maxRecDepth 20000 in
theorem ggX3_fits_J0_indexOf_0f7a4 : GoodIn wsX3_fits wsJ0_indexOf_0f7a4 := goodIn_r _ [16, 17, 18, 19, 15, 20, 21, 22, 23, 24, 25, 26, 27, 28, 29, 30, 31, 32, 33, 34, 35, 36, 37, 38, 39, 40, 41, 42, 43, 44, 45, 46, 47, 48, 49, 50, 51, 52, 53, 54, 55, 56, 57, 58, 59, 60, 61, 62, 63, 64, 65, 66, 67, 68, 69, 70, 71, 72, 73, 74, 75, 76, 77, 78, 79, 80, 81, 82, 83, 84, 85, 86, 87, 88, 89, 90, 91, 92, 93, 94, 95, 96, 97, 98, 99, 100] (by decide +kernel) (by decide +kernel)
set_option maxRecDepth 20000 in
theorem gX3_fits_J0_indexOf_0f7a4 : GoodIn wsX3_fits (wsV RX3 41 RJ0 yJ0_indexOf_0f7a4 wsJ0_indexOf_0f7a4) := goodIn_app (goodIn_of _ (by decide +kernel)) ggX3_fits_J0_indexOf_0f7a4
set_option maxRecDepth 20000 in
theorem ggX3_fits_X3_endsSong : GoodIn wsX3_fits wsX3_endsSong := goodIn_r _ [103] (by decide +kernel) (by decide +kernel)
set_option maxRecDepth 20000 in
theorem gX3_fits_X3_endsSong : GoodIn wsX3_fits (va_wsS RX3 46 yX3_endsSong wsX3_endsSong) := goodIn_app (goodIn_of _ (by decide +kernel)) ggX3_fits_X3_endsSong
theorem dX3_fits_0 : decode cX3_fits 0 = .ok (.aload_n 0, 1) := by decide +kernel
theorem dX3_fits_1 : decode cX3_fits 1 = .ok (.getfield 14, 3) := by decide +kernel
theorem dX3_fits_4 : decode cX3_fits 4 = .ok (.iload_n 1, 1) := by decide +kernel
theorem dX3_fits_5 : decode cX3_fits 5 = .ok (.invokevirtual 32, 3) := by decide +kernel
theorem dX3_fits_8 : decode cX3_fits 8 = .ok (.istore_n 3, 1) := by decide +kernel
theorem dX3_fits_9 : decode cX3_fits 9 = .ok (.iload_n 2, 1) := by decide +kernel
theorem dX3_fits_10 : decode cX3_fits 10 = .ok (.iconst (-1), 1) := by decide +kernel
theorem dX3_fits_11 : decode cX3_fits 11 = .ok (.if_icmp .eq 24, 3) := by decide +kernel
theorem dX3_fits_14 : decode cX3_fits 14 = .ok (.iload_n 1, 1) := by decide +kernel
theorem dX3_fits_15 : decode cX3_fits 15 = .ok (.iload_n 2, 1) := by decide +kernel
theorem dX3_fits_16 : decode cX3_fits 16 = .ok (.iconst 1, 1) := by decide +kernel
theorem dX3_fits_17 : decode cX3_fits 17 = .ok (.iadd, 1) := by decide +kernel
theorem dX3_fits_18 : decode cX3_fits 18 = .ok (.if_icmp .ne 15, 3) := by decide +kernel
theorem dX3_fits_21 : decode cX3_fits 21 = .ok (.iload_n 3, 1) := by decide +kernel
theorem dX3_fits_22 : decode cX3_fits 22 = .ok (.iconst 4, 1) := by decide +kernel
theorem dX3_fits_23 : decode cX3_fits 23 = .ok (.invokestatic 36, 3) := by decide +kernel
theorem dX3_fits_26 : decode cX3_fits 26 = .ok (.ifCond .eq 7, 3) := by decide +kernel
theorem dX3_fits_29 : decode cX3_fits 29 = .ok (.iconst 1, 1) := by decide +kernel
theorem dX3_fits_30 : decode cX3_fits 30 = .ok (.goto 4, 3) := by decide +kernel
theorem dX3_fits_33 : decode cX3_fits 33 = .ok (.iconst 0, 1) := by decide +kernel
theorem dX3_fits_34 : decode cX3_fits 34 = .ok (.ireturn, 1) := by decide +kernel
theorem dX3_fits_35 : decode cX3_fits 35 = .ok (.iload_n 1, 1) := by decide +kernel
theorem dX3_fits_36 : decode cX3_fits 36 = .ok (.iconst 3, 1) := by decide +kernel
theorem dX3_fits_37 : decode cX3_fits 37 = .ok (.irem, 1) := by decide +kernel
theorem dX3_fits_38 : decode cX3_fits 38 = .ok (.lookupswitch 48 #[(0, 26), (1, 42)], 26) := by decide +kernel
theorem dX3_fits_64 : decode cX3_fits 64 = .ok (.ldc 39, 2) := by decide +kernel
theorem dX3_fits_66 : decode cX3_fits 66 = .ok (.iload_n 3, 1) := by decide +kernel
theorem dX3_fits_67 : decode cX3_fits 67 = .ok (.i2c, 1) := by decide +kernel
theorem dX3_fits_68 : decode cX3_fits 68 = .ok (.invokevirtual 41, 3) := by decide +kernel
theorem dX3_fits_71 : decode cX3_fits 71 = .ok (.ifCond .lt 7, 3) := by decide +kernel
theorem dX3_fits_74 : decode cX3_fits 74 = .ok (.iconst 1, 1) := by decide +kernel
theorem dX3_fits_75 : decode cX3_fits 75 = .ok (.goto 4, 3) := by decide +kernel
theorem dX3_fits_78 : decode cX3_fits 78 = .ok (.iconst 0, 1) := by decide +kernel
theorem dX3_fits_79 : decode cX3_fits 79 = .ok (.ireturn, 1) := by decide +kernel
theorem dX3_fits_80 : decode cX3_fits 80 = .ok (.iload_n 3, 1) := by decide +kernel
theorem dX3_fits_81 : decode cX3_fits 81 = .ok (.iconst 4, 1) := by decide +kernel
theorem dX3_fits_82 : decode cX3_fits 82 = .ok (.invokestatic 36, 3) := by decide +kernel
theorem dX3_fits_85 : decode cX3_fits 85 = .ok (.ireturn, 1) := by decide +kernel
theorem dX3_fits_86 : decode cX3_fits 86 = .ok (.iload_n 3, 1) := by decide +kernel
theorem dX3_fits_87 : decode cX3_fits 87 = .ok (.iload_n 1, 1) := by decide +kernel
theorem dX3_fits_88 : decode cX3_fits 88 = .ok (.iconst 3, 1) := by decide +kernel
theorem dX3_fits_89 : decode cX3_fits 89 = .ok (.idiv, 1) := by decide +kernel
theorem dX3_fits_90 : decode cX3_fits 90 = .ok (.iconst 1, 1) := by decide +kernel
theorem dX3_fits_91 : decode cX3_fits 91 = .ok (.iadd, 1) := by decide +kernel
theorem dX3_fits_92 : decode cX3_fits 92 = .ok (.invokestatic 46, 3) := by decide +kernel
theorem dX3_fits_95 : decode cX3_fits 95 = .ok (.ireturn, 1) := by decide +kernel
theorem dX3_isDigitBelow_0 : decode cX3_isDigitBelow 0 = .ok (.iload_n 0, 1) := by decide +kernel
theorem dX3_isDigitBelow_1 : decode cX3_isDigitBelow 1 = .ok (.bipush 48, 2) := by decide +kernel
theorem dX3_isDigitBelow_3 : decode cX3_isDigitBelow 3 = .ok (.if_icmp .lt 15, 3) := by decide +kernel
theorem dX3_isDigitBelow_6 : decode cX3_isDigitBelow 6 = .ok (.iload_n 0, 1) := by decide +kernel
theorem dX3_isDigitBelow_7 : decode cX3_isDigitBelow 7 = .ok (.bipush 48, 2) := by decide +kernel
theorem dX3_isDigitBelow_9 : decode cX3_isDigitBelow 9 = .ok (.iload_n 1, 1) := by decide +kernel
theorem dX3_isDigitBelow_10 : decode cX3_isDigitBelow 10 = .ok (.iadd, 1) := by decide +kernel
theorem dX3_isDigitBelow_11 : decode cX3_isDigitBelow 11 = .ok (.if_icmp .ge 7, 3) := by decide +kernel
theorem dX3_isDigitBelow_14 : decode cX3_isDigitBelow 14 = .ok (.iconst 1, 1) := by decide +kernel
theorem dX3_isDigitBelow_15 : decode cX3_isDigitBelow 15 = .ok (.goto 4, 3) := by decide +kernel
theorem dX3_isDigitBelow_18 : decode cX3_isDigitBelow 18 = .ok (.iconst 0, 1) := by decide +kernel
theorem dX3_isDigitBelow_19 : decode cX3_isDigitBelow 19 = .ok (.ireturn, 1) := by decide +kernel
theorem dX3_endsSong_0 : decode cX3_endsSong 0 = .ok (.iload_n 0, 1) := by decide +kernel
theorem dX3_endsSong_1 : decode cX3_endsSong 1 = .ok (.bipush 44, 2) := by decide +kernel
theorem dX3_endsSong_3 : decode cX3_endsSong 3 = .ok (.if_icmp .ne 15, 3) := by decide +kernel
theorem dX3_endsSong_6 : decode cX3_endsSong 6 = .ok (.iload_n 1, 1) := by decide +kernel
theorem dX3_endsSong_7 : decode cX3_endsSong 7 = .ok (.bipush 6, 2) := by decide +kernel
theorem dX3_endsSong_9 : decode cX3_endsSong 9 = .ok (.if_icmp .ge 7, 3) := by decide +kernel
theorem dX3_endsSong_12 : decode cX3_endsSong 12 = .ok (.iconst 1, 1) := by decide +kernel
theorem dX3_endsSong_13 : decode cX3_endsSong 13 = .ok (.goto 4, 3) := by decide +kernel
theorem dX3_endsSong_16 : decode cX3_endsSong 16 = .ok (.iconst 0, 1) := by decide +kernel
theorem dX3_endsSong_17 : decode cX3_endsSong 17 = .ok (.ireturn, 1) := by decide +kernel
theorem dX3_endsSong_18 : decode cX3_endsSong 18 = .ok (.iload_n 0, 1) := by decide +kernel
theorem dX3_endsSong_19 : decode cX3_endsSong 19 = .ok (.bipush 59, 2) := by decide +kernel
theorem dX3_endsSong_21 : decode cX3_endsSong 21 = .ok (.if_icmp .ne 12, 3) := by decide +kernel
theorem dX3_endsSong_24 : decode cX3_endsSong 24 = .ok (.iload_n 1, 1) := by decide +kernel
theorem dX3_endsSong_25 : decode cX3_endsSong 25 = .ok (.iconst 2, 1) := by decide +kernel
theorem dX3_endsSong_26 : decode cX3_endsSong 26 = .ok (.if_icmp .lt 7, 3) := by decide +kernel
theorem dX3_endsSong_29 : decode cX3_endsSong 29 = .ok (.iconst 1, 1) := by decide +kernel
theorem dX3_endsSong_30 : decode cX3_endsSong 30 = .ok (.goto 4, 3) := by decide +kernel
theorem dX3_endsSong_33 : decode cX3_endsSong 33 = .ok (.iconst 0, 1) := by decide +kernel
theorem dX3_endsSong_34 : decode cX3_endsSong 34 = .ok (.ireturn, 1) := by decide +kernel
set_option maxRecDepth 20000 in
theorem ggX3_isWhole_X3_firstFault : GoodIn wsX3_isWhole wsX3_firstFault := goodIn_r _ [7, 1, 2, 8, 9, 10, 6, 11, 12, 13, 14, 15, 16, 17, 18, 19, 20, 21, 22, 23, 24, 25, 26, 27, 28, 29, 30, 31, 32, 33, 34, 35, 36, 37, 38, 39, 40, 41, 42, 43, 44, 45, 46, 47, 48, 49, 50, 51, 52, 53, 54, 55, 56, 57, 58, 59, 60, 61, 62, 63, 64, 65, 66, 67, 68, 69, 70, 71, 72, 73, 74, 75, 76, 77, 78, 79, 80, 81, 82, 83, 84, 85, 86, 87, 88, 89, 90, 91, 92, 93, 94, 95, 96, 97, 98, 99, 100, 101, 102, 103, 104, 105, 106, 107, 108, 109, 110, 111, 112, 113, 114, 115] (by decide +kernel) (by decide +kernel)
set_option maxRecDepth 20000 in
theorem gX3_isWhole_X3_firstFault : GoodIn wsX3_isWhole (wsV RX3 49 RX3 yX3_firstFault wsX3_firstFault) := goodIn_app (goodIn_of _ (by decide +kernel)) ggX3_isWhole_X3_firstFault
set_option maxRecDepth 20000 in
theorem ggX3_isWhole_X5_at : GoodIn wsX3_isWhole wsX5_at := goodIn_r _ [16, 17, 115] (by decide +kernel) (by decide +kernel)
set_option maxRecDepth 20000 in
theorem gX3_isWhole_X5_at : GoodIn wsX3_isWhole (wsV RX3 32 RX5 yX5_at wsX5_at) := goodIn_app (goodIn_of _ (by decide +kernel)) ggX3_isWhole_X5_at
theorem dX3_isWhole_0 : decode cX3_isWhole 0 = .ok (.aload_n 0, 1) := by decide +kernel
theorem dX3_isWhole_1 : decode cX3_isWhole 1 = .ok (.invokevirtual 49, 3) := by decide +kernel
theorem dX3_isWhole_4 : decode cX3_isWhole 4 = .ok (.aload_n 0, 1) := by decide +kernel
theorem dX3_isWhole_5 : decode cX3_isWhole 5 = .ok (.getfield 20, 3) := by decide +kernel
theorem dX3_isWhole_8 : decode cX3_isWhole 8 = .ok (.if_icmp .ne 25, 3) := by decide +kernel
theorem dX3_isWhole_11 : decode cX3_isWhole 11 = .ok (.aload_n 0, 1) := by decide +kernel
theorem dX3_isWhole_12 : decode cX3_isWhole 12 = .ok (.getfield 14, 3) := by decide +kernel
theorem dX3_isWhole_15 : decode cX3_isWhole 15 = .ok (.aload_n 0, 1) := by decide +kernel
theorem dX3_isWhole_16 : decode cX3_isWhole 16 = .ok (.getfield 20, 3) := by decide +kernel
theorem dX3_isWhole_19 : decode cX3_isWhole 19 = .ok (.iconst 2, 1) := by decide +kernel
theorem dX3_isWhole_20 : decode cX3_isWhole 20 = .ok (.isub, 1) := by decide +kernel
theorem dX3_isWhole_21 : decode cX3_isWhole 21 = .ok (.invokevirtual 32, 3) := by decide +kernel
theorem dX3_isWhole_24 : decode cX3_isWhole 24 = .ok (.bipush 59, 2) := by decide +kernel
theorem dX3_isWhole_26 : decode cX3_isWhole 26 = .ok (.if_icmp .ne 7, 3) := by decide +kernel
theorem dX3_isWhole_29 : decode cX3_isWhole 29 = .ok (.iconst 1, 1) := by decide +kernel
theorem dX3_isWhole_30 : decode cX3_isWhole 30 = .ok (.goto 4, 3) := by decide +kernel
theorem dX3_isWhole_33 : decode cX3_isWhole 33 = .ok (.iconst 0, 1) := by decide +kernel
theorem dX3_isWhole_34 : decode cX3_isWhole 34 = .ok (.ireturn, 1) := by decide +kernel
theorem dX3_songsRead_0 : decode cX3_songsRead 0 = .ok (.bipush 6, 2) := by decide +kernel
theorem dX3_songsRead_2 : decode cX3_songsRead 2 = .ok (.aload_n 0, 1) := by decide +kernel
theorem dX3_songsRead_3 : decode cX3_songsRead 3 = .ok (.getfield 20, 3) := by decide +kernel
theorem dX3_songsRead_6 : decode cX3_songsRead 6 = .ok (.iconst 1, 1) := by decide +kernel
theorem dX3_songsRead_7 : decode cX3_songsRead 7 = .ok (.isub, 1) := by decide +kernel
theorem dX3_songsRead_8 : decode cX3_songsRead 8 = .ok (.iconst 3, 1) := by decide +kernel
theorem dX3_songsRead_9 : decode cX3_songsRead 9 = .ok (.idiv, 1) := by decide +kernel
theorem dX3_songsRead_10 : decode cX3_songsRead 10 = .ok (.invokestatic 53, 3) := by decide +kernel
theorem dX3_songsRead_13 : decode cX3_songsRead 13 = .ok (.ireturn, 1) := by decide +kernel
set_option maxRecDepth 20000 in
theorem ggX3_kindRead_X5_at : GoodIn wsX3_kindRead wsX5_at := goodIn_r _ [6, 7, 99] (by decide +kernel) (by decide +kernel)
set_option maxRecDepth 20000 in
theorem gX3_kindRead_X5_at : GoodIn wsX3_kindRead (wsV RX3 32 RX5 yX5_at wsX5_at) := goodIn_app (goodIn_of _ (by decide +kernel)) ggX3_kindRead_X5_at
set_option maxRecDepth 20000 in
theorem ggX3_kindRead_J0_indexOf_0f7a4 : GoodIn wsX3_kindRead wsJ0_indexOf_0f7a4 := goodIn_r _ [12, 13, 14, 15, 11, 16, 17, 18, 19, 20, 21, 22, 23, 24, 25, 26, 27, 28, 29, 30, 31, 32, 33, 34, 35, 36, 37, 38, 39, 40, 41, 42, 43, 44, 45, 46, 47, 48, 49, 50, 51, 52, 53, 54, 55, 56, 57, 58, 59, 60, 61, 62, 63, 64, 65, 66, 67, 68, 69, 70, 71, 72, 73, 74, 75, 76, 77, 78, 79, 80, 81, 82, 83, 84, 85, 86, 87, 88, 89, 90, 91, 92, 93, 94, 95, 96] (by decide +kernel) (by decide +kernel)
set_option maxRecDepth 20000 in
theorem gX3_kindRead_J0_indexOf_0f7a4 : GoodIn wsX3_kindRead (wsV RX3 41 RJ0 yJ0_indexOf_0f7a4 wsJ0_indexOf_0f7a4) := goodIn_app (goodIn_of _ (by decide +kernel)) ggX3_kindRead_J0_indexOf_0f7a4
theorem dX3_kindRead_0 : decode cX3_kindRead 0 = .ok (.ldc 39, 2) := by decide +kernel
theorem dX3_kindRead_2 : decode cX3_kindRead 2 = .ok (.aload_n 0, 1) := by decide +kernel
theorem dX3_kindRead_3 : decode cX3_kindRead 3 = .ok (.getfield 14, 3) := by decide +kernel
theorem dX3_kindRead_6 : decode cX3_kindRead 6 = .ok (.iconst 3, 1) := by decide +kernel
theorem dX3_kindRead_7 : decode cX3_kindRead 7 = .ok (.iload_n 1, 1) := by decide +kernel
theorem dX3_kindRead_8 : decode cX3_kindRead 8 = .ok (.imul, 1) := by decide +kernel
theorem dX3_kindRead_9 : decode cX3_kindRead 9 = .ok (.invokevirtual 32, 3) := by decide +kernel
theorem dX3_kindRead_12 : decode cX3_kindRead 12 = .ok (.i2c, 1) := by decide +kernel
theorem dX3_kindRead_13 : decode cX3_kindRead 13 = .ok (.invokevirtual 41, 3) := by decide +kernel
theorem dX3_kindRead_16 : decode cX3_kindRead 16 = .ok (.ireturn, 1) := by decide +kernel
set_option maxRecDepth 20000 in
theorem ggX3_singerRead_X5_at : GoodIn wsX3_singerRead wsX5_at := goodIn_r _ [6, 7, 10] (by decide +kernel) (by decide +kernel)
set_option maxRecDepth 20000 in
theorem gX3_singerRead_X5_at : GoodIn wsX3_singerRead (wsV RX3 32 RX5 yX5_at wsX5_at) := goodIn_app (goodIn_of _ (by decide +kernel)) ggX3_singerRead_X5_at
theorem dX3_singerRead_0 : decode cX3_singerRead 0 = .ok (.aload_n 0, 1) := by decide +kernel
theorem dX3_singerRead_1 : decode cX3_singerRead 1 = .ok (.getfield 14, 3) := by decide +kernel
theorem dX3_singerRead_4 : decode cX3_singerRead 4 = .ok (.iconst 3, 1) := by decide +kernel
theorem dX3_singerRead_5 : decode cX3_singerRead 5 = .ok (.iload_n 1, 1) := by decide +kernel
theorem dX3_singerRead_6 : decode cX3_singerRead 6 = .ok (.imul, 1) := by decide +kernel
theorem dX3_singerRead_7 : decode cX3_singerRead 7 = .ok (.iconst 1, 1) := by decide +kernel
theorem dX3_singerRead_8 : decode cX3_singerRead 8 = .ok (.iadd, 1) := by decide +kernel
theorem dX3_singerRead_9 : decode cX3_singerRead 9 = .ok (.invokevirtual 32, 3) := by decide +kernel
theorem dX3_singerRead_12 : decode cX3_singerRead 12 = .ok (.bipush 48, 2) := by decide +kernel
theorem dX3_singerRead_14 : decode cX3_singerRead 14 = .ok (.isub, 1) := by decide +kernel
theorem dX3_singerRead_15 : decode cX3_singerRead 15 = .ok (.ireturn, 1) := by decide +kernel
set_option maxRecDepth 20000 in
theorem ggX3_ruleRead_X5_at : GoodIn wsX3_ruleRead wsX5_at := goodIn_r _ [7, 8, 11] (by decide +kernel) (by decide +kernel)
set_option maxRecDepth 20000 in
theorem gX3_ruleRead_X5_at : GoodIn wsX3_ruleRead (wsV RX3 32 RX5 yX5_at wsX5_at) := goodIn_app (goodIn_of _ (by decide +kernel)) ggX3_ruleRead_X5_at
theorem dX3_ruleRead_0 : decode cX3_ruleRead 0 = .ok (.aload_n 0, 1) := by decide +kernel
theorem dX3_ruleRead_1 : decode cX3_ruleRead 1 = .ok (.getfield 14, 3) := by decide +kernel
theorem dX3_ruleRead_4 : decode cX3_ruleRead 4 = .ok (.aload_n 0, 1) := by decide +kernel
theorem dX3_ruleRead_5 : decode cX3_ruleRead 5 = .ok (.getfield 20, 3) := by decide +kernel
theorem dX3_ruleRead_8 : decode cX3_ruleRead 8 = .ok (.iconst 1, 1) := by decide +kernel
theorem dX3_ruleRead_9 : decode cX3_ruleRead 9 = .ok (.isub, 1) := by decide +kernel
theorem dX3_ruleRead_10 : decode cX3_ruleRead 10 = .ok (.invokevirtual 32, 3) := by decide +kernel
theorem dX3_ruleRead_13 : decode cX3_ruleRead 13 = .ok (.bipush 48, 2) := by decide +kernel
theorem dX3_ruleRead_15 : decode cX3_ruleRead 15 = .ok (.isub, 1) := by decide +kernel
theorem dX3_ruleRead_16 : decode cX3_ruleRead 16 = .ok (.ireturn, 1) := by decide +kernel
set_option maxRecDepth 20000 in
theorem ggX4_init_X5_init : GoodIn wsX4_init wsX5_init := goodIn_r _ [17, 18, 2, 3, 19, 20, 21, 22, 23, 24, 25] (by decide +kernel) (by decide +kernel)
set_option maxRecDepth 20000 in
theorem gX4_init_X5_init : GoodIn wsX4_init (wsX5_init) := ggX4_init_X5_init
theorem dX4_init_0 : decode cX4_init 0 = .ok (.aload_n 0, 1) := by decide +kernel
theorem dX4_init_1 : decode cX4_init 1 = .ok (.invokespecial 3, 3) := by decide +kernel
theorem dX4_init_4 : decode cX4_init 4 = .ok (.aload_n 0, 1) := by decide +kernel
theorem dX4_init_5 : decode cX4_init 5 = .ok (.new 9, 3) := by decide +kernel
theorem dX4_init_8 : decode cX4_init 8 = .ok (.dup, 1) := by decide +kernel
theorem dX4_init_9 : decode cX4_init 9 = .ok (.bipush 6, 2) := by decide +kernel
theorem dX4_init_11 : decode cX4_init 11 = .ok (.invokespecial 11, 3) := by decide +kernel
theorem dX4_init_14 : decode cX4_init 14 = .ok (.putfield 14, 3) := by decide +kernel
theorem dX4_init_17 : decode cX4_init 17 = .ok (.aload_n 0, 1) := by decide +kernel
theorem dX4_init_18 : decode cX4_init 18 = .ok (.new 9, 3) := by decide +kernel
theorem dX4_init_21 : decode cX4_init 21 = .ok (.dup, 1) := by decide +kernel
theorem dX4_init_22 : decode cX4_init 22 = .ok (.bipush 6, 2) := by decide +kernel
theorem dX4_init_24 : decode cX4_init 24 = .ok (.invokespecial 11, 3) := by decide +kernel
theorem dX4_init_27 : decode cX4_init 27 = .ok (.putfield 20, 3) := by decide +kernel
theorem dX4_init_30 : decode cX4_init 30 = .ok (.aload_n 0, 1) := by decide +kernel
theorem dX4_init_31 : decode cX4_init 31 = .ok (.new 9, 3) := by decide +kernel
theorem dX4_init_34 : decode cX4_init 34 = .ok (.dup, 1) := by decide +kernel
theorem dX4_init_35 : decode cX4_init 35 = .ok (.bipush 8, 2) := by decide +kernel
theorem dX4_init_37 : decode cX4_init 37 = .ok (.invokespecial 11, 3) := by decide +kernel
theorem dX4_init_40 : decode cX4_init 40 = .ok (.putfield 23, 3) := by decide +kernel
theorem dX4_init_43 : decode cX4_init 43 = .ok (.aload_n 0, 1) := by decide +kernel
theorem dX4_init_44 : decode cX4_init 44 = .ok (.iconst 0, 1) := by decide +kernel
theorem dX4_init_45 : decode cX4_init 45 = .ok (.putfield 26, 3) := by decide +kernel
theorem dX4_init_48 : decode cX4_init 48 = .ok (.aload_n 0, 1) := by decide +kernel
theorem dX4_init_49 : decode cX4_init 49 = .ok (.iconst 0, 1) := by decide +kernel
theorem dX4_init_50 : decode cX4_init 50 = .ok (.putfield 30, 3) := by decide +kernel
theorem dX4_init_53 : decode cX4_init 53 = .ok (.aload_n 0, 1) := by decide +kernel
theorem dX4_init_54 : decode cX4_init 54 = .ok (.iconst 0, 1) := by decide +kernel
theorem dX4_init_55 : decode cX4_init 55 = .ok (.putfield 33, 3) := by decide +kernel
theorem dX4_init_58 : decode cX4_init 58 = .ok (.aload_n 0, 1) := by decide +kernel
theorem dX4_init_59 : decode cX4_init 59 = .ok (.iconst (-1), 1) := by decide +kernel
theorem dX4_init_60 : decode cX4_init 60 = .ok (.putfield 36, 3) := by decide +kernel
theorem dX4_init_63 : decode cX4_init 63 = .ok (.aload_n 0, 1) := by decide +kernel
theorem dX4_init_64 : decode cX4_init 64 = .ok (.iconst 0, 1) := by decide +kernel
theorem dX4_init_65 : decode cX4_init 65 = .ok (.putfield 39, 3) := by decide +kernel
theorem dX4_init_68 : decode cX4_init 68 = .ok (.return_, 1) := by decide +kernel
set_option maxRecDepth 20000 in
theorem ggX4_begin_X5_clear : GoodIn wsX4_begin wsX5_clear := goodIn_r _ [12, 13, 22] (by decide +kernel) (by decide +kernel)
set_option maxRecDepth 20000 in
theorem gX4_begin_X5_clear : GoodIn wsX4_begin (wsV RX4 43 RX5 yX5_clear wsX5_clear) := goodIn_app (goodIn_of _ (by decide +kernel)) ggX4_begin_X5_clear
theorem dX4_begin_0 : decode cX4_begin 0 = .ok (.aload_n 0, 1) := by decide +kernel
theorem dX4_begin_1 : decode cX4_begin 1 = .ok (.getfield 14, 3) := by decide +kernel
theorem dX4_begin_4 : decode cX4_begin 4 = .ok (.invokevirtual 43, 3) := by decide +kernel
theorem dX4_begin_7 : decode cX4_begin 7 = .ok (.aload_n 0, 1) := by decide +kernel
theorem dX4_begin_8 : decode cX4_begin 8 = .ok (.getfield 20, 3) := by decide +kernel
theorem dX4_begin_11 : decode cX4_begin 11 = .ok (.invokevirtual 43, 3) := by decide +kernel
theorem dX4_begin_14 : decode cX4_begin 14 = .ok (.aload_n 0, 1) := by decide +kernel
theorem dX4_begin_15 : decode cX4_begin 15 = .ok (.iconst 0, 1) := by decide +kernel
theorem dX4_begin_16 : decode cX4_begin 16 = .ok (.putfield 26, 3) := by decide +kernel
theorem dX4_begin_19 : decode cX4_begin 19 = .ok (.aload_n 0, 1) := by decide +kernel
theorem dX4_begin_20 : decode cX4_begin 20 = .ok (.iload_n 1, 1) := by decide +kernel
theorem dX4_begin_21 : decode cX4_begin 21 = .ok (.putfield 30, 3) := by decide +kernel
theorem dX4_begin_24 : decode cX4_begin 24 = .ok (.aload_n 0, 1) := by decide +kernel
theorem dX4_begin_25 : decode cX4_begin 25 = .ok (.iload_n 2, 1) := by decide +kernel
theorem dX4_begin_26 : decode cX4_begin 26 = .ok (.putfield 33, 3) := by decide +kernel
theorem dX4_begin_29 : decode cX4_begin 29 = .ok (.aload_n 0, 1) := by decide +kernel
theorem dX4_begin_30 : decode cX4_begin 30 = .ok (.iconst (-1), 1) := by decide +kernel
theorem dX4_begin_31 : decode cX4_begin 31 = .ok (.putfield 36, 3) := by decide +kernel
theorem dX4_begin_34 : decode cX4_begin 34 = .ok (.aload_n 0, 1) := by decide +kernel
theorem dX4_begin_35 : decode cX4_begin 35 = .ok (.iconst 0, 1) := by decide +kernel
theorem dX4_begin_36 : decode cX4_begin 36 = .ok (.putfield 39, 3) := by decide +kernel
theorem dX4_begin_39 : decode cX4_begin 39 = .ok (.return_, 1) := by decide +kernel
set_option maxRecDepth 20000 in
theorem ggX4_become_X5_become : GoodIn wsX4_become wsX5_become := goodIn_r _ [13, 14, 15, 16, 17, 12, 18, 27] (by decide +kernel) (by decide +kernel)
set_option maxRecDepth 20000 in
theorem gX4_become_X5_become : GoodIn wsX4_become (wsV RX4 46 RX5 yX5_become wsX5_become) := goodIn_app (goodIn_of _ (by decide +kernel)) ggX4_become_X5_become
theorem dX4_become_0 : decode cX4_become 0 = .ok (.aload_n 0, 1) := by decide +kernel
theorem dX4_become_1 : decode cX4_become 1 = .ok (.getfield 14, 3) := by decide +kernel
theorem dX4_become_4 : decode cX4_become 4 = .ok (.aload_n 1, 1) := by decide +kernel
theorem dX4_become_5 : decode cX4_become 5 = .ok (.getfield 14, 3) := by decide +kernel
theorem dX4_become_8 : decode cX4_become 8 = .ok (.invokevirtual 46, 3) := by decide +kernel
theorem dX4_become_11 : decode cX4_become 11 = .ok (.aload_n 0, 1) := by decide +kernel
theorem dX4_become_12 : decode cX4_become 12 = .ok (.getfield 20, 3) := by decide +kernel
theorem dX4_become_15 : decode cX4_become 15 = .ok (.aload_n 1, 1) := by decide +kernel
theorem dX4_become_16 : decode cX4_become 16 = .ok (.getfield 20, 3) := by decide +kernel
theorem dX4_become_19 : decode cX4_become 19 = .ok (.invokevirtual 46, 3) := by decide +kernel
theorem dX4_become_22 : decode cX4_become 22 = .ok (.aload_n 0, 1) := by decide +kernel
theorem dX4_become_23 : decode cX4_become 23 = .ok (.getfield 23, 3) := by decide +kernel
theorem dX4_become_26 : decode cX4_become 26 = .ok (.aload_n 1, 1) := by decide +kernel
theorem dX4_become_27 : decode cX4_become 27 = .ok (.getfield 23, 3) := by decide +kernel
theorem dX4_become_30 : decode cX4_become 30 = .ok (.invokevirtual 46, 3) := by decide +kernel
theorem dX4_become_33 : decode cX4_become 33 = .ok (.aload_n 0, 1) := by decide +kernel
theorem dX4_become_34 : decode cX4_become 34 = .ok (.aload_n 1, 1) := by decide +kernel
theorem dX4_become_35 : decode cX4_become 35 = .ok (.getfield 26, 3) := by decide +kernel
theorem dX4_become_38 : decode cX4_become 38 = .ok (.putfield 26, 3) := by decide +kernel
theorem dX4_become_41 : decode cX4_become 41 = .ok (.aload_n 0, 1) := by decide +kernel
theorem dX4_become_42 : decode cX4_become 42 = .ok (.aload_n 1, 1) := by decide +kernel
theorem dX4_become_43 : decode cX4_become 43 = .ok (.getfield 30, 3) := by decide +kernel
theorem dX4_become_46 : decode cX4_become 46 = .ok (.putfield 30, 3) := by decide +kernel
theorem dX4_become_49 : decode cX4_become 49 = .ok (.aload_n 0, 1) := by decide +kernel
theorem dX4_become_50 : decode cX4_become 50 = .ok (.aload_n 1, 1) := by decide +kernel
theorem dX4_become_51 : decode cX4_become 51 = .ok (.getfield 33, 3) := by decide +kernel
theorem dX4_become_54 : decode cX4_become 54 = .ok (.putfield 33, 3) := by decide +kernel
theorem dX4_become_57 : decode cX4_become 57 = .ok (.aload_n 0, 1) := by decide +kernel
theorem dX4_become_58 : decode cX4_become 58 = .ok (.aload_n 1, 1) := by decide +kernel
theorem dX4_become_59 : decode cX4_become 59 = .ok (.getfield 36, 3) := by decide +kernel
theorem dX4_become_62 : decode cX4_become 62 = .ok (.putfield 36, 3) := by decide +kernel
theorem dX4_become_65 : decode cX4_become 65 = .ok (.aload_n 0, 1) := by decide +kernel
theorem dX4_become_66 : decode cX4_become 66 = .ok (.aload_n 1, 1) := by decide +kernel
theorem dX4_become_67 : decode cX4_become 67 = .ok (.getfield 39, 3) := by decide +kernel
theorem dX4_become_70 : decode cX4_become 70 = .ok (.putfield 39, 3) := by decide +kernel
theorem dX4_become_73 : decode cX4_become 73 = .ok (.return_, 1) := by decide +kernel
theorem dX5_init_0 : decode cX5_init 0 = .ok (.aload_n 0, 1) := by decide +kernel
theorem dX5_init_1 : decode cX5_init 1 = .ok (.invokespecial 1, 3) := by decide +kernel
theorem dX5_init_4 : decode cX5_init 4 = .ok (.aload_n 0, 1) := by decide +kernel
theorem dX5_init_5 : decode cX5_init 5 = .ok (.iconst 0, 1) := by decide +kernel
theorem dX5_init_6 : decode cX5_init 6 = .ok (.iload_n 1, 1) := by decide +kernel
theorem dX5_init_7 : decode cX5_init 7 = .ok (.invokestatic 7, 3) := by decide +kernel
theorem dX5_init_10 : decode cX5_init 10 = .ok (.newarray .int, 2) := by decide +kernel
theorem dX5_init_12 : decode cX5_init 12 = .ok (.putfield 13, 3) := by decide +kernel
theorem dX5_init_15 : decode cX5_init 15 = .ok (.return_, 1) := by decide +kernel
theorem dX5_at_0 : decode cX5_at 0 = .ok (.iload_n 1, 1) := by decide +kernel
theorem dX5_at_1 : decode cX5_at 1 = .ok (.ifCond .lt 21, 3) := by decide +kernel
theorem dX5_at_4 : decode cX5_at 4 = .ok (.iload_n 1, 1) := by decide +kernel
theorem dX5_at_5 : decode cX5_at 5 = .ok (.aload_n 0, 1) := by decide +kernel
theorem dX5_at_6 : decode cX5_at 6 = .ok (.getfield 13, 3) := by decide +kernel
theorem dX5_at_9 : decode cX5_at 9 = .ok (.arraylength, 1) := by decide +kernel
theorem dX5_at_10 : decode cX5_at 10 = .ok (.if_icmp .ge 12, 3) := by decide +kernel
theorem dX5_at_13 : decode cX5_at 13 = .ok (.aload_n 0, 1) := by decide +kernel
theorem dX5_at_14 : decode cX5_at 14 = .ok (.getfield 13, 3) := by decide +kernel
theorem dX5_at_17 : decode cX5_at 17 = .ok (.iload_n 1, 1) := by decide +kernel
theorem dX5_at_18 : decode cX5_at 18 = .ok (.iaload, 1) := by decide +kernel
theorem dX5_at_19 : decode cX5_at 19 = .ok (.goto 4, 3) := by decide +kernel
theorem dX5_at_22 : decode cX5_at 22 = .ok (.iconst 0, 1) := by decide +kernel
theorem dX5_at_23 : decode cX5_at 23 = .ok (.ireturn, 1) := by decide +kernel
theorem dX5_put_0 : decode cX5_put 0 = .ok (.iload_n 1, 1) := by decide +kernel
theorem dX5_put_1 : decode cX5_put 1 = .ok (.ifCond .lt 19, 3) := by decide +kernel
theorem dX5_put_4 : decode cX5_put 4 = .ok (.iload_n 1, 1) := by decide +kernel
theorem dX5_put_5 : decode cX5_put 5 = .ok (.aload_n 0, 1) := by decide +kernel
theorem dX5_put_6 : decode cX5_put 6 = .ok (.getfield 13, 3) := by decide +kernel
theorem dX5_put_9 : decode cX5_put 9 = .ok (.arraylength, 1) := by decide +kernel
theorem dX5_put_10 : decode cX5_put 10 = .ok (.if_icmp .ge 10, 3) := by decide +kernel
theorem dX5_put_13 : decode cX5_put 13 = .ok (.aload_n 0, 1) := by decide +kernel
theorem dX5_put_14 : decode cX5_put 14 = .ok (.getfield 13, 3) := by decide +kernel
theorem dX5_put_17 : decode cX5_put 17 = .ok (.iload_n 1, 1) := by decide +kernel
theorem dX5_put_18 : decode cX5_put 18 = .ok (.iload_n 2, 1) := by decide +kernel
theorem dX5_put_19 : decode cX5_put 19 = .ok (.iastore, 1) := by decide +kernel
theorem dX5_put_20 : decode cX5_put 20 = .ok (.return_, 1) := by decide +kernel
set_option maxRecDepth 20000 in
theorem ggX5_increase_X5_at : GoodIn wsX5_increase wsX5_at := goodIn_r _ [5, 6, 11] (by decide +kernel) (by decide +kernel)
set_option maxRecDepth 20000 in
theorem gX5_increase_X5_at : GoodIn wsX5_increase (wsV RX5 19 RX5 yX5_at wsX5_at) := goodIn_app (goodIn_of _ (by decide +kernel)) ggX5_increase_X5_at
set_option maxRecDepth 20000 in
theorem ggX5_increase_X5_put : GoodIn wsX5_increase wsX5_put := goodIn_r _ [10, 6, 11] (by decide +kernel) (by decide +kernel)
set_option maxRecDepth 20000 in
theorem gX5_increase_X5_put : GoodIn wsX5_increase (wsV RX5 23 RX5 yX5_put wsX5_put) := goodIn_app (goodIn_of _ (by decide +kernel)) ggX5_increase_X5_put
theorem dX5_increase_0 : decode cX5_increase 0 = .ok (.aload_n 0, 1) := by decide +kernel
theorem dX5_increase_1 : decode cX5_increase 1 = .ok (.iload_n 1, 1) := by decide +kernel
theorem dX5_increase_2 : decode cX5_increase 2 = .ok (.aload_n 0, 1) := by decide +kernel
theorem dX5_increase_3 : decode cX5_increase 3 = .ok (.iload_n 1, 1) := by decide +kernel
theorem dX5_increase_4 : decode cX5_increase 4 = .ok (.invokevirtual 19, 3) := by decide +kernel
theorem dX5_increase_7 : decode cX5_increase 7 = .ok (.iconst 1, 1) := by decide +kernel
theorem dX5_increase_8 : decode cX5_increase 8 = .ok (.iadd, 1) := by decide +kernel
theorem dX5_increase_9 : decode cX5_increase 9 = .ok (.invokevirtual 23, 3) := by decide +kernel
theorem dX5_increase_12 : decode cX5_increase 12 = .ok (.return_, 1) := by decide +kernel
theorem dX5_clear_0 : decode cX5_clear 0 = .ok (.iconst 0, 1) := by decide +kernel
theorem dX5_clear_1 : decode cX5_clear 1 = .ok (.istore_n 1, 1) := by decide +kernel
theorem dX5_clear_2 : decode cX5_clear 2 = .ok (.iload_n 1, 1) := by decide +kernel
theorem dX5_clear_3 : decode cX5_clear 3 = .ok (.aload_n 0, 1) := by decide +kernel
theorem dX5_clear_4 : decode cX5_clear 4 = .ok (.getfield 13, 3) := by decide +kernel
theorem dX5_clear_7 : decode cX5_clear 7 = .ok (.arraylength, 1) := by decide +kernel
theorem dX5_clear_8 : decode cX5_clear 8 = .ok (.if_icmp .ge 16, 3) := by decide +kernel
theorem dX5_clear_11 : decode cX5_clear 11 = .ok (.aload_n 0, 1) := by decide +kernel
theorem dX5_clear_12 : decode cX5_clear 12 = .ok (.getfield 13, 3) := by decide +kernel
theorem dX5_clear_15 : decode cX5_clear 15 = .ok (.iload_n 1, 1) := by decide +kernel
theorem dX5_clear_16 : decode cX5_clear 16 = .ok (.iconst 0, 1) := by decide +kernel
theorem dX5_clear_17 : decode cX5_clear 17 = .ok (.iastore, 1) := by decide +kernel
theorem dX5_clear_18 : decode cX5_clear 18 = .ok (.iinc 1 1, 3) := by decide +kernel
theorem dX5_clear_21 : decode cX5_clear 21 = .ok (.goto (-19), 3) := by decide +kernel
theorem dX5_clear_24 : decode cX5_clear 24 = .ok (.return_, 1) := by decide +kernel
set_option maxRecDepth 20000 in
theorem ggX5_become_X5_at : GoodIn wsX5_become wsX5_at := goodIn_r _ [6, 1, 7] (by decide +kernel) (by decide +kernel)
set_option maxRecDepth 20000 in
theorem gX5_become_X5_at : GoodIn wsX5_become (wsV RX5 19 RX5 yX5_at wsX5_at) := goodIn_app (goodIn_of _ (by decide +kernel)) ggX5_become_X5_at
theorem dX5_become_0 : decode cX5_become 0 = .ok (.iconst 0, 1) := by decide +kernel
theorem dX5_become_1 : decode cX5_become 1 = .ok (.istore_n 2, 1) := by decide +kernel
theorem dX5_become_2 : decode cX5_become 2 = .ok (.iload_n 2, 1) := by decide +kernel
theorem dX5_become_3 : decode cX5_become 3 = .ok (.aload_n 0, 1) := by decide +kernel
theorem dX5_become_4 : decode cX5_become 4 = .ok (.getfield 13, 3) := by decide +kernel
theorem dX5_become_7 : decode cX5_become 7 = .ok (.arraylength, 1) := by decide +kernel
theorem dX5_become_8 : decode cX5_become 8 = .ok (.if_icmp .ge 20, 3) := by decide +kernel
theorem dX5_become_11 : decode cX5_become 11 = .ok (.aload_n 0, 1) := by decide +kernel
theorem dX5_become_12 : decode cX5_become 12 = .ok (.getfield 13, 3) := by decide +kernel
theorem dX5_become_15 : decode cX5_become 15 = .ok (.iload_n 2, 1) := by decide +kernel
theorem dX5_become_16 : decode cX5_become 16 = .ok (.aload_n 1, 1) := by decide +kernel
theorem dX5_become_17 : decode cX5_become 17 = .ok (.iload_n 2, 1) := by decide +kernel
theorem dX5_become_18 : decode cX5_become 18 = .ok (.invokevirtual 19, 3) := by decide +kernel
theorem dX5_become_21 : decode cX5_become 21 = .ok (.iastore, 1) := by decide +kernel
theorem dX5_become_22 : decode cX5_become 22 = .ok (.iinc 2 1, 3) := by decide +kernel
theorem dX5_become_25 : decode cX5_become 25 = .ok (.goto (-23), 3) := by decide +kernel
theorem dX5_become_28 : decode cX5_become 28 = .ok (.return_, 1) := by decide +kernel
theorem dX5_sum_0 : decode cX5_sum 0 = .ok (.iconst 0, 1) := by decide +kernel
theorem dX5_sum_1 : decode cX5_sum 1 = .ok (.istore_n 1, 1) := by decide +kernel
theorem dX5_sum_2 : decode cX5_sum 2 = .ok (.iconst 0, 1) := by decide +kernel
theorem dX5_sum_3 : decode cX5_sum 3 = .ok (.istore_n 2, 1) := by decide +kernel
theorem dX5_sum_4 : decode cX5_sum 4 = .ok (.iload_n 2, 1) := by decide +kernel
theorem dX5_sum_5 : decode cX5_sum 5 = .ok (.aload_n 0, 1) := by decide +kernel
theorem dX5_sum_6 : decode cX5_sum 6 = .ok (.getfield 13, 3) := by decide +kernel
theorem dX5_sum_9 : decode cX5_sum 9 = .ok (.arraylength, 1) := by decide +kernel
theorem dX5_sum_10 : decode cX5_sum 10 = .ok (.if_icmp .ge 18, 3) := by decide +kernel
theorem dX5_sum_13 : decode cX5_sum 13 = .ok (.iload_n 1, 1) := by decide +kernel
theorem dX5_sum_14 : decode cX5_sum 14 = .ok (.aload_n 0, 1) := by decide +kernel
theorem dX5_sum_15 : decode cX5_sum 15 = .ok (.getfield 13, 3) := by decide +kernel
theorem dX5_sum_18 : decode cX5_sum 18 = .ok (.iload_n 2, 1) := by decide +kernel
theorem dX5_sum_19 : decode cX5_sum 19 = .ok (.iaload, 1) := by decide +kernel
theorem dX5_sum_20 : decode cX5_sum 20 = .ok (.iadd, 1) := by decide +kernel
theorem dX5_sum_21 : decode cX5_sum 21 = .ok (.istore_n 1, 1) := by decide +kernel
theorem dX5_sum_22 : decode cX5_sum 22 = .ok (.iinc 2 1, 3) := by decide +kernel
theorem dX5_sum_25 : decode cX5_sum 25 = .ok (.goto (-21), 3) := by decide +kernel
theorem dX5_sum_28 : decode cX5_sum 28 = .ok (.iload_n 1, 1) := by decide +kernel
theorem dX5_sum_29 : decode cX5_sum 29 = .ok (.ireturn, 1) := by decide +kernel
theorem dX5_aboveNothing_0 : decode cX5_aboveNothing 0 = .ok (.iconst 0, 1) := by decide +kernel
theorem dX5_aboveNothing_1 : decode cX5_aboveNothing 1 = .ok (.istore_n 1, 1) := by decide +kernel
theorem dX5_aboveNothing_2 : decode cX5_aboveNothing 2 = .ok (.iconst 0, 1) := by decide +kernel
theorem dX5_aboveNothing_3 : decode cX5_aboveNothing 3 = .ok (.istore_n 2, 1) := by decide +kernel
theorem dX5_aboveNothing_4 : decode cX5_aboveNothing 4 = .ok (.iload_n 2, 1) := by decide +kernel
theorem dX5_aboveNothing_5 : decode cX5_aboveNothing 5 = .ok (.aload_n 0, 1) := by decide +kernel
theorem dX5_aboveNothing_6 : decode cX5_aboveNothing 6 = .ok (.getfield 13, 3) := by decide +kernel
theorem dX5_aboveNothing_9 : decode cX5_aboveNothing 9 = .ok (.arraylength, 1) := by decide +kernel
theorem dX5_aboveNothing_10 : decode cX5_aboveNothing 10 = .ok (.if_icmp .ge 26, 3) := by decide +kernel
theorem dX5_aboveNothing_13 : decode cX5_aboveNothing 13 = .ok (.iload_n 1, 1) := by decide +kernel
theorem dX5_aboveNothing_14 : decode cX5_aboveNothing 14 = .ok (.aload_n 0, 1) := by decide +kernel
theorem dX5_aboveNothing_15 : decode cX5_aboveNothing 15 = .ok (.getfield 13, 3) := by decide +kernel
theorem dX5_aboveNothing_18 : decode cX5_aboveNothing 18 = .ok (.iload_n 2, 1) := by decide +kernel
theorem dX5_aboveNothing_19 : decode cX5_aboveNothing 19 = .ok (.iaload, 1) := by decide +kernel
theorem dX5_aboveNothing_20 : decode cX5_aboveNothing 20 = .ok (.ifCond .le 7, 3) := by decide +kernel
theorem dX5_aboveNothing_23 : decode cX5_aboveNothing 23 = .ok (.iconst 1, 1) := by decide +kernel
theorem dX5_aboveNothing_24 : decode cX5_aboveNothing 24 = .ok (.goto 4, 3) := by decide +kernel
theorem dX5_aboveNothing_27 : decode cX5_aboveNothing 27 = .ok (.iconst 0, 1) := by decide +kernel
theorem dX5_aboveNothing_28 : decode cX5_aboveNothing 28 = .ok (.iadd, 1) := by decide +kernel
theorem dX5_aboveNothing_29 : decode cX5_aboveNothing 29 = .ok (.istore_n 1, 1) := by decide +kernel
theorem dX5_aboveNothing_30 : decode cX5_aboveNothing 30 = .ok (.iinc 2 1, 3) := by decide +kernel
theorem dX5_aboveNothing_33 : decode cX5_aboveNothing 33 = .ok (.goto (-29), 3) := by decide +kernel
theorem dX5_aboveNothing_36 : decode cX5_aboveNothing 36 = .ok (.iload_n 1, 1) := by decide +kernel
theorem dX5_aboveNothing_37 : decode cX5_aboveNothing 37 = .ok (.ireturn, 1) := by decide +kernel
end
section
set_option maxRecDepth 20000 in
theorem ggX6_init_X3_init : GoodIn wsX6_init wsX3_init := goodIn_r _ [30, 31, 2, 3, 32, 33, 34, 35, 36, 37, 38, 39, 40, 41, 42, 43, 44, 45, 46, 115, 84, 85] (by decide +kernel) (by decide +kernel)
set_option maxRecDepth 20000 in
theorem gX6_init_X3_init_n9 : GoodIn wsX6_init (wsX3_init) := ggX6_init_X3_init
set_option maxRecDepth 20000 in
theorem ggX6_init_X0_init : GoodIn wsX6_init wsX0_init := goodIn_r _ [48, 49, 2, 3, 50, 33, 34, 51, 52, 53, 54, 55, 56, 38, 39, 40, 41, 42, 43, 44, 45, 46, 115, 96, 97, 98, 99, 100] (by decide +kernel) (by decide +kernel)
set_option maxRecDepth 20000 in
theorem gX6_init_X0_init_n18 : GoodIn wsX6_init (wsX0_init) := ggX6_init_X0_init
set_option maxRecDepth 20000 in
theorem ggX6_init_X4_init : GoodIn wsX6_init wsX4_init := goodIn_r _ [58, 59, 2, 3, 60, 33, 34, 61, 62, 63, 64, 65, 66, 67, 68, 69, 38, 39, 40, 41, 42, 43, 44, 45, 46, 115, 101, 102, 103, 104, 105, 106, 107, 108] (by decide +kernel) (by decide +kernel)
set_option maxRecDepth 20000 in
theorem gX6_init_X4_init_n25 : GoodIn wsX6_init (wsX4_init) := ggX6_init_X4_init
set_option maxRecDepth 20000 in
theorem ggX6_init_X1_init : GoodIn wsX6_init wsX1_init := goodIn_r _ [71, 72, 2, 3, 73, 74, 109, 110] (by decide +kernel) (by decide +kernel)
set_option maxRecDepth 20000 in
theorem gX6_init_X1_init_n35 : GoodIn wsX6_init (wsX1_init) := ggX6_init_X1_init
set_option maxRecDepth 20000 in
theorem ggX6_init_X2_init : GoodIn wsX6_init wsX2_init := goodIn_r _ [76, 77, 2, 3, 78, 33, 34, 79, 80, 81, 82, 83, 38, 39, 40, 41, 42, 43, 44, 45, 46, 115, 111, 112, 113, 114] (by decide +kernel) (by decide +kernel)
set_option maxRecDepth 20000 in
theorem gX6_init_X2_init_n48 : GoodIn wsX6_init (wsX2_init) := ggX6_init_X2_init
theorem dX6_init_0 : decode cX6_init 0 = .ok (.aload_n 0, 1) := by decide +kernel
theorem dX6_init_1 : decode cX6_init 1 = .ok (.invokespecial 1, 3) := by decide +kernel
theorem dX6_init_4 : decode cX6_init 4 = .ok (.aload_n 0, 1) := by decide +kernel
theorem dX6_init_5 : decode cX6_init 5 = .ok (.new 7, 3) := by decide +kernel
theorem dX6_init_8 : decode cX6_init 8 = .ok (.dup, 1) := by decide +kernel
theorem dX6_init_9 : decode cX6_init 9 = .ok (.invokespecial 9, 3) := by decide +kernel
theorem dX6_init_12 : decode cX6_init 12 = .ok (.putfield 10, 3) := by decide +kernel
theorem dX6_init_15 : decode cX6_init 15 = .ok (.aload_n 0, 1) := by decide +kernel
theorem dX6_init_16 : decode cX6_init 16 = .ok (.new 16, 3) := by decide +kernel
theorem dX6_init_19 : decode cX6_init 19 = .ok (.dup, 1) := by decide +kernel
theorem dX6_init_20 : decode cX6_init 20 = .ok (.invokespecial 18, 3) := by decide +kernel
theorem dX6_init_23 : decode cX6_init 23 = .ok (.putfield 19, 3) := by decide +kernel
theorem dX6_init_26 : decode cX6_init 26 = .ok (.aload_n 0, 1) := by decide +kernel
theorem dX6_init_27 : decode cX6_init 27 = .ok (.new 23, 3) := by decide +kernel
theorem dX6_init_30 : decode cX6_init 30 = .ok (.dup, 1) := by decide +kernel
theorem dX6_init_31 : decode cX6_init 31 = .ok (.invokespecial 25, 3) := by decide +kernel
theorem dX6_init_34 : decode cX6_init 34 = .ok (.putfield 26, 3) := by decide +kernel
theorem dX6_init_37 : decode cX6_init 37 = .ok (.aload_n 0, 1) := by decide +kernel
theorem dX6_init_38 : decode cX6_init 38 = .ok (.new 23, 3) := by decide +kernel
theorem dX6_init_41 : decode cX6_init 41 = .ok (.dup, 1) := by decide +kernel
theorem dX6_init_42 : decode cX6_init 42 = .ok (.invokespecial 25, 3) := by decide +kernel
theorem dX6_init_45 : decode cX6_init 45 = .ok (.putfield 30, 3) := by decide +kernel
theorem dX6_init_48 : decode cX6_init 48 = .ok (.aload_n 0, 1) := by decide +kernel
theorem dX6_init_49 : decode cX6_init 49 = .ok (.new 33, 3) := by decide +kernel
theorem dX6_init_52 : decode cX6_init 52 = .ok (.dup, 1) := by decide +kernel
theorem dX6_init_53 : decode cX6_init 53 = .ok (.invokespecial 35, 3) := by decide +kernel
theorem dX6_init_56 : decode cX6_init 56 = .ok (.putfield 36, 3) := by decide +kernel
theorem dX6_init_59 : decode cX6_init 59 = .ok (.aload_n 0, 1) := by decide +kernel
theorem dX6_init_60 : decode cX6_init 60 = .ok (.new 33, 3) := by decide +kernel
theorem dX6_init_63 : decode cX6_init 63 = .ok (.dup, 1) := by decide +kernel
theorem dX6_init_64 : decode cX6_init 64 = .ok (.invokespecial 35, 3) := by decide +kernel
theorem dX6_init_67 : decode cX6_init 67 = .ok (.putfield 40, 3) := by decide +kernel
theorem dX6_init_70 : decode cX6_init 70 = .ok (.aload_n 0, 1) := by decide +kernel
theorem dX6_init_71 : decode cX6_init 71 = .ok (.new 33, 3) := by decide +kernel
theorem dX6_init_74 : decode cX6_init 74 = .ok (.dup, 1) := by decide +kernel
theorem dX6_init_75 : decode cX6_init 75 = .ok (.invokespecial 35, 3) := by decide +kernel
theorem dX6_init_78 : decode cX6_init 78 = .ok (.putfield 43, 3) := by decide +kernel
theorem dX6_init_81 : decode cX6_init 81 = .ok (.aload_n 0, 1) := by decide +kernel
theorem dX6_init_82 : decode cX6_init 82 = .ok (.new 46, 3) := by decide +kernel
theorem dX6_init_85 : decode cX6_init 85 = .ok (.dup, 1) := by decide +kernel
theorem dX6_init_86 : decode cX6_init 86 = .ok (.invokespecial 48, 3) := by decide +kernel
theorem dX6_init_89 : decode cX6_init 89 = .ok (.putfield 49, 3) := by decide +kernel
theorem dX6_init_92 : decode cX6_init 92 = .ok (.aload_n 0, 1) := by decide +kernel
theorem dX6_init_93 : decode cX6_init 93 = .ok (.iconst 0, 1) := by decide +kernel
theorem dX6_init_94 : decode cX6_init 94 = .ok (.putfield 53, 3) := by decide +kernel
theorem dX6_init_97 : decode cX6_init 97 = .ok (.aload_n 0, 1) := by decide +kernel
theorem dX6_init_98 : decode cX6_init 98 = .ok (.iconst 0, 1) := by decide +kernel
theorem dX6_init_99 : decode cX6_init 99 = .ok (.putfield 57, 3) := by decide +kernel
theorem dX6_init_102 : decode cX6_init 102 = .ok (.return_, 1) := by decide +kernel
set_option maxRecDepth 20000 in
theorem ggX6_letter_X3_append : GoodIn wsX6_letter wsX3_append := goodIn_r _ [6, 7, 8, 9, 10, 11, 12, 13, 14, 25, 26, 27] (by decide +kernel) (by decide +kernel)
set_option maxRecDepth 20000 in
theorem gX6_letter_X3_append : GoodIn wsX6_letter (wsV RX6 64 RX3 yX3_append wsX3_append) := goodIn_app (goodIn_of _ (by decide +kernel)) ggX6_letter_X3_append
theorem dX6_letter_0 : decode cX6_letter 0 = .ok (.iload_n 1, 1) := by decide +kernel
theorem dX6_letter_1 : decode cX6_letter 1 = .ok (.iconst 1, 1) := by decide +kernel
theorem dX6_letter_2 : decode cX6_letter 2 = .ok (.if_icmp .lt 9, 3) := by decide +kernel
theorem dX6_letter_5 : decode cX6_letter 5 = .ok (.iload_n 1, 1) := by decide +kernel
theorem dX6_letter_6 : decode cX6_letter 6 = .ok (.bipush 126, 2) := by decide +kernel
theorem dX6_letter_8 : decode cX6_letter 8 = .ok (.if_icmp .le 6, 3) := by decide +kernel
theorem dX6_letter_11 : decode cX6_letter 11 = .ok (.bipush (-102), 2) := by decide +kernel
theorem dX6_letter_13 : decode cX6_letter 13 = .ok (.ireturn, 1) := by decide +kernel
theorem dX6_letter_14 : decode cX6_letter 14 = .ok (.aload_n 0, 1) := by decide +kernel
theorem dX6_letter_15 : decode cX6_letter 15 = .ok (.getfield 10, 3) := by decide +kernel
theorem dX6_letter_18 : decode cX6_letter 18 = .ok (.getfield 61, 3) := by decide +kernel
theorem dX6_letter_21 : decode cX6_letter 21 = .ok (.bipush 22, 2) := by decide +kernel
theorem dX6_letter_23 : decode cX6_letter 23 = .ok (.if_icmp .lt 6, 3) := by decide +kernel
theorem dX6_letter_26 : decode cX6_letter 26 = .ok (.bipush (-104), 2) := by decide +kernel
theorem dX6_letter_28 : decode cX6_letter 28 = .ok (.ireturn, 1) := by decide +kernel
theorem dX6_letter_29 : decode cX6_letter 29 = .ok (.aload_n 0, 1) := by decide +kernel
theorem dX6_letter_30 : decode cX6_letter 30 = .ok (.getfield 10, 3) := by decide +kernel
theorem dX6_letter_33 : decode cX6_letter 33 = .ok (.iload_n 1, 1) := by decide +kernel
theorem dX6_letter_34 : decode cX6_letter 34 = .ok (.invokevirtual 64, 3) := by decide +kernel
theorem dX6_letter_37 : decode cX6_letter 37 = .ok (.aload_n 0, 1) := by decide +kernel
theorem dX6_letter_38 : decode cX6_letter 38 = .ok (.getfield 10, 3) := by decide +kernel
theorem dX6_letter_41 : decode cX6_letter 41 = .ok (.getfield 61, 3) := by decide +kernel
theorem dX6_letter_44 : decode cX6_letter 44 = .ok (.ireturn, 1) := by decide +kernel
set_option maxRecDepth 20000 in
theorem ggX6_blank_X3_clear : GoodIn wsX6_blank wsX3_clear := goodIn_r _ [6, 7, 18, 19] (by decide +kernel) (by decide +kernel)
set_option maxRecDepth 20000 in
theorem gX6_blank_X3_clear : GoodIn wsX6_blank (wsV RX6 68 RX3 yX3_clear wsX3_clear) := goodIn_app (goodIn_of _ (by decide +kernel)) ggX6_blank_X3_clear
theorem dX6_blank_0 : decode cX6_blank 0 = .ok (.aload_n 0, 1) := by decide +kernel
theorem dX6_blank_1 : decode cX6_blank 1 = .ok (.getfield 10, 3) := by decide +kernel
theorem dX6_blank_4 : decode cX6_blank 4 = .ok (.getfield 61, 3) := by decide +kernel
theorem dX6_blank_7 : decode cX6_blank 7 = .ok (.istore_n 1, 1) := by decide +kernel
theorem dX6_blank_8 : decode cX6_blank 8 = .ok (.aload_n 0, 1) := by decide +kernel
theorem dX6_blank_9 : decode cX6_blank 9 = .ok (.getfield 10, 3) := by decide +kernel
theorem dX6_blank_12 : decode cX6_blank 12 = .ok (.invokevirtual 68, 3) := by decide +kernel
theorem dX6_blank_15 : decode cX6_blank 15 = .ok (.iload_n 1, 1) := by decide +kernel
theorem dX6_blank_16 : decode cX6_blank 16 = .ok (.ireturn, 1) := by decide +kernel
set_option maxRecDepth 20000 in
theorem ggX6_fault_X3_firstFault : GoodIn wsX6_fault wsX3_firstFault := goodIn_r _ [6, 7, 8, 9, 10, 11, 5, 12, 13, 14, 15, 16, 17, 18, 19, 20, 21, 22, 23, 24, 25, 26, 27, 28, 29, 30, 31, 32, 33, 34, 35, 36, 37, 38, 39, 40, 41, 42, 43, 44, 45, 46, 47, 48, 49, 50, 51, 52, 53, 54, 55, 56, 57, 58, 59, 60, 61, 62, 63, 64, 65, 66, 67, 68, 69, 70, 71, 72, 73, 74, 75, 76, 77, 78, 79, 80, 81, 82, 83, 84, 85, 86, 87, 88, 89, 90, 91, 92, 93, 94, 95, 96, 97, 98, 99, 100, 101, 102, 103, 104, 105, 106, 107, 108, 109, 110, 111, 112, 113, 124, 125, 126] (by decide +kernel) (by decide +kernel)
set_option maxRecDepth 20000 in
theorem gX6_fault_X3_firstFault : GoodIn wsX6_fault (wsV RX6 71 RX3 yX3_firstFault wsX3_firstFault) := goodIn_app (goodIn_of _ (by decide +kernel)) ggX6_fault_X3_firstFault
theorem dX6_fault_0 : decode cX6_fault 0 = .ok (.aload_n 0, 1) := by decide +kernel
theorem dX6_fault_1 : decode cX6_fault 1 = .ok (.getfield 10, 3) := by decide +kernel
theorem dX6_fault_4 : decode cX6_fault 4 = .ok (.invokevirtual 71, 3) := by decide +kernel
theorem dX6_fault_7 : decode cX6_fault 7 = .ok (.ireturn, 1) := by decide +kernel
set_option maxRecDepth 20000 in
theorem ggX6_player_X3_isWhole : GoodIn wsX6_player wsX3_isWhole := goodIn_r _ [10, 11, 12, 13, 14, 15, 9, 16, 17, 18, 19, 20, 21, 22, 23, 24, 25, 26, 27, 28, 29, 30, 31, 32, 33, 34, 35, 36, 37, 38, 39, 40, 41, 42, 43, 44, 45, 46, 47, 48, 49, 50, 51, 52, 53, 54, 55, 56, 57, 58, 59, 60, 61, 62, 63, 64, 65, 66, 67, 68, 69, 70, 71, 72, 73, 74, 75, 76, 77, 78, 79, 80, 81, 82, 83, 84, 85, 86, 87, 88, 89, 90, 91, 92, 93, 94, 95, 96, 97, 98, 99, 100, 101, 102, 103, 104, 105, 106, 107, 108, 109, 110, 111, 112, 113, 114, 115, 116, 117, 118, 119, 120, 121, 195, 196, 197] (by decide +kernel) (by decide +kernel)
set_option maxRecDepth 20000 in
theorem gX6_player_X3_isWhole : GoodIn wsX6_player (wsV RX6 75 RX3 yX3_isWhole wsX3_isWhole) := goodIn_app (goodIn_of _ (by decide +kernel)) ggX6_player_X3_isWhole
set_option maxRecDepth 20000 in
theorem ggX6_player_X0_read : GoodIn wsX6_player wsX0_read := goodIn_r _ [126, 127, 128, 129, 130, 131, 132, 133, 134, 9, 135, 11, 136, 63, 60, 64, 137, 138, 139, 140, 12, 21, 22, 23, 24, 25, 26, 30, 31, 32, 33, 34, 35, 36, 37, 38, 39, 40, 41, 42, 43, 44, 45, 46, 47, 48, 49, 50, 51, 52, 53, 54, 55, 56, 57, 58, 59, 61, 62, 65, 66, 67, 68, 69, 70, 71, 72, 73, 74, 75, 76, 77, 78, 79, 80, 81, 82, 83, 84, 85, 86, 87, 88, 89, 90, 91, 92, 93, 94, 95, 96, 97, 98, 99, 100, 101, 102, 103, 104, 105, 106, 107, 108, 109, 110, 111, 112, 113, 114, 115, 116, 117, 118, 141, 142, 143, 144, 145, 146, 147, 148, 149, 150, 125, 151, 190, 191, 192, 193, 194, 195, 196, 197] (by decide +kernel) (by decide +kernel)
set_option maxRecDepth 20000 in
theorem gX6_player_X0_read : GoodIn wsX6_player (wsV RX6 79 RX0 yX0_read wsX0_read) := goodIn_app (goodIn_of _ (by decide +kernel)) ggX6_player_X0_read
set_option maxRecDepth 20000 in
theorem ggX6_player_X3_ruleRead : GoodIn wsX6_player wsX3_ruleRead := goodIn_r _ [155, 12, 11, 21, 22, 23, 24, 25, 26, 195, 196, 197] (by decide +kernel) (by decide +kernel)
set_option maxRecDepth 20000 in
theorem gX6_player_X3_ruleRead : GoodIn wsX6_player (wsV RX6 83 RX3 yX3_ruleRead wsX3_ruleRead) := goodIn_app (goodIn_of _ (by decide +kernel)) ggX6_player_X3_ruleRead
set_option maxRecDepth 20000 in
theorem ggX6_player_X0_all : GoodIn wsX6_player wsX0_all := goodIn_r _ [159, 127, 190, 191, 192, 193, 194] (by decide +kernel) (by decide +kernel)
set_option maxRecDepth 20000 in
theorem gX6_player_X0_all : GoodIn wsX6_player (wsV RX6 86 RX0 yX0_all wsX0_all) := goodIn_app (goodIn_of _ (by decide +kernel)) ggX6_player_X0_all
set_option maxRecDepth 20000 in
theorem ggX6_player_X4_begin : GoodIn wsX6_player wsX4_begin := goodIn_r _ [164, 165, 166, 167, 168, 169, 170, 171, 172, 173, 174, 24, 175, 26, 198, 199, 200, 201, 202, 203, 204, 205, 197] (by decide +kernel) (by decide +kernel)
set_option maxRecDepth 20000 in
theorem gX6_player_X4_begin : GoodIn wsX6_player (wsV RX6 89 RX4 yX4_begin wsX4_begin) := goodIn_app (goodIn_of _ (by decide +kernel)) ggX6_player_X4_begin
set_option maxRecDepth 20000 in
theorem ggX6_player_X3_clear : GoodIn wsX6_player wsX3_clear := goodIn_r _ [179, 11, 195, 196] (by decide +kernel) (by decide +kernel)
set_option maxRecDepth 20000 in
theorem gX6_player_X3_clear : GoodIn wsX6_player (wsV RX6 68 RX3 yX3_clear wsX3_clear) := goodIn_app (goodIn_of _ (by decide +kernel)) ggX6_player_X3_clear
theorem dX6_player_0 : decode cX6_player 0 = .ok (.aload_n 0, 1) := by decide +kernel
theorem dX6_player_1 : decode cX6_player 1 = .ok (.getfield 10, 3) := by decide +kernel
theorem dX6_player_4 : decode cX6_player 4 = .ok (.invokevirtual 75, 3) := by decide +kernel
theorem dX6_player_7 : decode cX6_player 7 = .ok (.ifCond .ne 6, 3) := by decide +kernel
theorem dX6_player_10 : decode cX6_player 10 = .ok (.bipush (-103), 2) := by decide +kernel
theorem dX6_player_12 : decode cX6_player 12 = .ok (.ireturn, 1) := by decide +kernel
theorem dX6_player_13 : decode cX6_player 13 = .ok (.aload_n 0, 1) := by decide +kernel
theorem dX6_player_14 : decode cX6_player 14 = .ok (.getfield 19, 3) := by decide +kernel
theorem dX6_player_17 : decode cX6_player 17 = .ok (.aload_n 0, 1) := by decide +kernel
theorem dX6_player_18 : decode cX6_player 18 = .ok (.getfield 10, 3) := by decide +kernel
theorem dX6_player_21 : decode cX6_player 21 = .ok (.invokevirtual 79, 3) := by decide +kernel
theorem dX6_player_24 : decode cX6_player 24 = .ok (.aload_n 0, 1) := by decide +kernel
theorem dX6_player_25 : decode cX6_player 25 = .ok (.getfield 26, 3) := by decide +kernel
theorem dX6_player_28 : decode cX6_player 28 = .ok (.aload_n 0, 1) := by decide +kernel
theorem dX6_player_29 : decode cX6_player 29 = .ok (.getfield 10, 3) := by decide +kernel
theorem dX6_player_32 : decode cX6_player 32 = .ok (.invokevirtual 83, 3) := by decide +kernel
theorem dX6_player_35 : decode cX6_player 35 = .ok (.aload_n 0, 1) := by decide +kernel
theorem dX6_player_36 : decode cX6_player 36 = .ok (.getfield 19, 3) := by decide +kernel
theorem dX6_player_39 : decode cX6_player 39 = .ok (.invokevirtual 86, 3) := by decide +kernel
theorem dX6_player_42 : decode cX6_player 42 = .ok (.invokevirtual 89, 3) := by decide +kernel
theorem dX6_player_45 : decode cX6_player 45 = .ok (.aload_n 0, 1) := by decide +kernel
theorem dX6_player_46 : decode cX6_player 46 = .ok (.iconst 0, 1) := by decide +kernel
theorem dX6_player_47 : decode cX6_player 47 = .ok (.putfield 53, 3) := by decide +kernel
theorem dX6_player_50 : decode cX6_player 50 = .ok (.aload_n 0, 1) := by decide +kernel
theorem dX6_player_51 : decode cX6_player 51 = .ok (.dup, 1) := by decide +kernel
theorem dX6_player_52 : decode cX6_player 52 = .ok (.getfield 57, 3) := by decide +kernel
theorem dX6_player_55 : decode cX6_player 55 = .ok (.iconst 1, 1) := by decide +kernel
theorem dX6_player_56 : decode cX6_player 56 = .ok (.iadd, 1) := by decide +kernel
theorem dX6_player_57 : decode cX6_player 57 = .ok (.putfield 57, 3) := by decide +kernel
theorem dX6_player_60 : decode cX6_player 60 = .ok (.aload_n 0, 1) := by decide +kernel
theorem dX6_player_61 : decode cX6_player 61 = .ok (.getfield 10, 3) := by decide +kernel
theorem dX6_player_64 : decode cX6_player 64 = .ok (.invokevirtual 68, 3) := by decide +kernel
theorem dX6_player_67 : decode cX6_player 67 = .ok (.aload_n 0, 1) := by decide +kernel
theorem dX6_player_68 : decode cX6_player 68 = .ok (.getfield 19, 3) := by decide +kernel
theorem dX6_player_71 : decode cX6_player 71 = .ok (.getfield 93, 3) := by decide +kernel
theorem dX6_player_74 : decode cX6_player 74 = .ok (.ireturn, 1) := by decide +kernel
set_option maxRecDepth 20000 in
theorem ggX6_song_X0_has : GoodIn wsX6_song wsX0_has := goodIn_r _ [6, 7, 93, 94, 95, 96, 97] (by decide +kernel) (by decide +kernel)
set_option maxRecDepth 20000 in
theorem gX6_song_X0_has : GoodIn wsX6_song (wsV RX6 96 RX0 yX0_has wsX0_has) := goodIn_app (goodIn_of _ (by decide +kernel)) ggX6_song_X0_has
set_option maxRecDepth 20000 in
theorem ggX6_song_X6_songFact : GoodIn wsX6_song wsX6_songFact := goodIn_r _ [12, 1, 13, 14, 15, 16, 17, 18, 19, 20, 21, 22, 11, 23, 24, 25, 26, 27, 28, 29, 30, 31, 32, 33, 34, 35, 36, 37, 5, 38, 39, 40, 41, 42, 7, 43, 44, 45, 46, 47, 48, 49, 50, 51, 52, 53, 54, 55, 56, 57, 58, 59, 60, 61, 62, 63, 64, 65, 66, 67, 68, 69, 70, 71, 72, 73, 74, 75, 76, 77, 78, 79, 80, 81, 82, 83, 84, 85, 86, 87, 88, 89, 90, 91, 92, 93, 94, 95, 96, 97, 98, 99, 100, 101, 102, 103, 104, 105, 106, 107, 108] (by decide +kernel) (by decide +kernel)
set_option maxRecDepth 20000 in
theorem gX6_song_X6_songFact : GoodIn wsX6_song (wsV RX6 100 RX6 yX6_songFact wsX6_songFact) := goodIn_app (goodIn_of _ (by decide +kernel)) ggX6_song_X6_songFact
theorem dX6_song_0 : decode cX6_song 0 = .ok (.aload_n 0, 1) := by decide +kernel
theorem dX6_song_1 : decode cX6_song 1 = .ok (.getfield 19, 3) := by decide +kernel
theorem dX6_song_4 : decode cX6_song 4 = .ok (.iload_n 1, 1) := by decide +kernel
theorem dX6_song_5 : decode cX6_song 5 = .ok (.invokevirtual 96, 3) := by decide +kernel
theorem dX6_song_8 : decode cX6_song 8 = .ok (.ifCond .ne 6, 3) := by decide +kernel
theorem dX6_song_11 : decode cX6_song 11 = .ok (.bipush (-101), 2) := by decide +kernel
theorem dX6_song_13 : decode cX6_song 13 = .ok (.ireturn, 1) := by decide +kernel
theorem dX6_song_14 : decode cX6_song 14 = .ok (.iload_n 2, 1) := by decide +kernel
theorem dX6_song_15 : decode cX6_song 15 = .ok (.ifCond .lt 9, 3) := by decide +kernel
theorem dX6_song_18 : decode cX6_song 18 = .ok (.iload_n 2, 1) := by decide +kernel
theorem dX6_song_19 : decode cX6_song 19 = .ok (.bipush 10, 2) := by decide +kernel
theorem dX6_song_21 : decode cX6_song 21 = .ok (.if_icmp .lt 6, 3) := by decide +kernel
theorem dX6_song_24 : decode cX6_song 24 = .ok (.bipush (-102), 2) := by decide +kernel
theorem dX6_song_26 : decode cX6_song 26 = .ok (.ireturn, 1) := by decide +kernel
theorem dX6_song_27 : decode cX6_song 27 = .ok (.aload_n 0, 1) := by decide +kernel
theorem dX6_song_28 : decode cX6_song 28 = .ok (.iload_n 1, 1) := by decide +kernel
theorem dX6_song_29 : decode cX6_song 29 = .ok (.iload_n 2, 1) := by decide +kernel
theorem dX6_song_30 : decode cX6_song 30 = .ok (.invokevirtual 100, 3) := by decide +kernel
theorem dX6_song_33 : decode cX6_song 33 = .ok (.ireturn, 1) := by decide +kernel
set_option maxRecDepth 20000 in
theorem ggX6_as_X0_has : GoodIn wsX6_as wsX0_has := goodIn_r _ [6, 7, 29, 30, 31, 32, 33] (by decide +kernel) (by decide +kernel)
set_option maxRecDepth 20000 in
theorem gX6_as_X0_has : GoodIn wsX6_as (wsV RX6 96 RX0 yX0_has wsX0_has) := goodIn_app (goodIn_of _ (by decide +kernel)) ggX6_as_X0_has
set_option maxRecDepth 20000 in
theorem ggX6_as_X0_isOfKind : GoodIn wsX6_as wsX0_isOfKind := goodIn_r _ [11, 12, 13, 14, 15, 16, 17, 18, 29, 30, 31, 32, 33, 34] (by decide +kernel) (by decide +kernel)
set_option maxRecDepth 20000 in
theorem gX6_as_X0_isOfKind : GoodIn wsX6_as (wsV RX6 104 RX0 yX0_isOfKind wsX0_isOfKind) := goodIn_app (goodIn_of _ (by decide +kernel)) ggX6_as_X0_isOfKind
theorem dX6_as_0 : decode cX6_as 0 = .ok (.aload_n 0, 1) := by decide +kernel
theorem dX6_as_1 : decode cX6_as 1 = .ok (.getfield 19, 3) := by decide +kernel
theorem dX6_as_4 : decode cX6_as 4 = .ok (.iload_n 1, 1) := by decide +kernel
theorem dX6_as_5 : decode cX6_as 5 = .ok (.invokevirtual 96, 3) := by decide +kernel
theorem dX6_as_8 : decode cX6_as 8 = .ok (.ifCond .ne 6, 3) := by decide +kernel
theorem dX6_as_11 : decode cX6_as 11 = .ok (.bipush (-101), 2) := by decide +kernel
theorem dX6_as_13 : decode cX6_as 13 = .ok (.ireturn, 1) := by decide +kernel
theorem dX6_as_14 : decode cX6_as 14 = .ok (.iload_n 2, 1) := by decide +kernel
theorem dX6_as_15 : decode cX6_as 15 = .ok (.ifCond .lt 8, 3) := by decide +kernel
theorem dX6_as_18 : decode cX6_as 18 = .ok (.iload_n 2, 1) := by decide +kernel
theorem dX6_as_19 : decode cX6_as 19 = .ok (.iconst 5, 1) := by decide +kernel
theorem dX6_as_20 : decode cX6_as 20 = .ok (.if_icmp .lt 6, 3) := by decide +kernel
theorem dX6_as_23 : decode cX6_as 23 = .ok (.bipush (-102), 2) := by decide +kernel
theorem dX6_as_25 : decode cX6_as 25 = .ok (.ireturn, 1) := by decide +kernel
theorem dX6_as_26 : decode cX6_as 26 = .ok (.aload_n 0, 1) := by decide +kernel
theorem dX6_as_27 : decode cX6_as 27 = .ok (.getfield 19, 3) := by decide +kernel
theorem dX6_as_30 : decode cX6_as 30 = .ok (.iload_n 1, 1) := by decide +kernel
theorem dX6_as_31 : decode cX6_as 31 = .ok (.iload_n 2, 1) := by decide +kernel
theorem dX6_as_32 : decode cX6_as 32 = .ok (.invokevirtual 104, 3) := by decide +kernel
theorem dX6_as_35 : decode cX6_as 35 = .ok (.ifCond .eq 7, 3) := by decide +kernel
theorem dX6_as_38 : decode cX6_as 38 = .ok (.iload_n 1, 1) := by decide +kernel
theorem dX6_as_39 : decode cX6_as 39 = .ok (.goto 4, 3) := by decide +kernel
theorem dX6_as_42 : decode cX6_as 42 = .ok (.iconst (-1), 1) := by decide +kernel
theorem dX6_as_43 : decode cX6_as 43 = .ok (.ireturn, 1) := by decide +kernel
set_option maxRecDepth 20000 in
theorem ggX6_rule_X6_noPlayer : GoodIn wsX6_rule wsX6_noPlayer := goodIn_r _ [6, 7, 8, 9, 10, 11, 12, 13, 14, 15, 16, 17, 26, 27, 28, 29, 30] (by decide +kernel) (by decide +kernel)
set_option maxRecDepth 20000 in
theorem gX6_rule_X6_noPlayer : GoodIn wsX6_rule (wsV RX6 108 RX6 yX6_noPlayer wsX6_noPlayer) := goodIn_app (goodIn_of _ (by decide +kernel)) ggX6_rule_X6_noPlayer
theorem dX6_rule_0 : decode cX6_rule 0 = .ok (.iload_n 1, 1) := by decide +kernel
theorem dX6_rule_1 : decode cX6_rule 1 = .ok (.ifCond .lt 8, 3) := by decide +kernel
theorem dX6_rule_4 : decode cX6_rule 4 = .ok (.iload_n 1, 1) := by decide +kernel
theorem dX6_rule_5 : decode cX6_rule 5 = .ok (.iconst 4, 1) := by decide +kernel
theorem dX6_rule_6 : decode cX6_rule 6 = .ok (.if_icmp .lt 6, 3) := by decide +kernel
theorem dX6_rule_9 : decode cX6_rule 9 = .ok (.bipush (-102), 2) := by decide +kernel
theorem dX6_rule_11 : decode cX6_rule 11 = .ok (.ireturn, 1) := by decide +kernel
theorem dX6_rule_12 : decode cX6_rule 12 = .ok (.aload_n 0, 1) := by decide +kernel
theorem dX6_rule_13 : decode cX6_rule 13 = .ok (.invokevirtual 108, 3) := by decide +kernel
theorem dX6_rule_16 : decode cX6_rule 16 = .ok (.ifCond .eq 6, 3) := by decide +kernel
theorem dX6_rule_19 : decode cX6_rule 19 = .ok (.bipush (-103), 2) := by decide +kernel
theorem dX6_rule_21 : decode cX6_rule 21 = .ok (.ireturn, 1) := by decide +kernel
theorem dX6_rule_22 : decode cX6_rule 22 = .ok (.aload_n 0, 1) := by decide +kernel
theorem dX6_rule_23 : decode cX6_rule 23 = .ok (.getfield 26, 3) := by decide +kernel
theorem dX6_rule_26 : decode cX6_rule 26 = .ok (.getfield 111, 3) := by decide +kernel
theorem dX6_rule_29 : decode cX6_rule 29 = .ok (.istore_n 2, 1) := by decide +kernel
theorem dX6_rule_30 : decode cX6_rule 30 = .ok (.aload_n 0, 1) := by decide +kernel
theorem dX6_rule_31 : decode cX6_rule 31 = .ok (.getfield 26, 3) := by decide +kernel
theorem dX6_rule_34 : decode cX6_rule 34 = .ok (.iload_n 1, 1) := by decide +kernel
theorem dX6_rule_35 : decode cX6_rule 35 = .ok (.putfield 111, 3) := by decide +kernel
theorem dX6_rule_38 : decode cX6_rule 38 = .ok (.iload_n 2, 1) := by decide +kernel
theorem dX6_rule_39 : decode cX6_rule 39 = .ok (.ireturn, 1) := by decide +kernel
set_option maxRecDepth 20000 in
theorem ggX6_play_X0_has : GoodIn wsX6_play wsX0_has := goodIn_r _ [7, 8, 75, 76, 77, 78, 79] (by decide +kernel) (by decide +kernel)
set_option maxRecDepth 20000 in
theorem gX6_play_X0_has : GoodIn wsX6_play (wsV RX6 96 RX0 yX0_has wsX0_has) := goodIn_app (goodIn_of _ (by decide +kernel)) ggX6_play_X0_has
set_option maxRecDepth 20000 in
theorem ggX6_play_X6_mayNow : GoodIn wsX6_play wsX6_mayNow := goodIn_r _ [13, 1, 2, 14, 15, 16, 6, 17, 18, 19, 20, 21, 8, 22, 23, 24, 25, 26, 27, 28, 29, 30, 31, 32, 33, 57, 58, 59, 60, 61, 62, 63, 64, 65, 66, 67, 68, 69, 70, 71, 72, 73, 74, 75, 76, 77, 78, 79, 80] (by decide +kernel) (by decide +kernel)
set_option maxRecDepth 20000 in
theorem gX6_play_X6_mayNow : GoodIn wsX6_play (wsV RX6 114 RX6 yX6_mayNow wsX6_mayNow) := goodIn_app (goodIn_of _ (by decide +kernel)) ggX6_play_X6_mayNow
set_option maxRecDepth 20000 in
theorem ggX6_play_X6_holds : GoodIn wsX6_play wsX6_holds := goodIn_r _ [36] (by decide +kernel) (by decide +kernel)
set_option maxRecDepth 20000 in
theorem gX6_play_X6_holds : GoodIn wsX6_play (va_wsS RX6 117 yX6_holds wsX6_holds) := goodIn_app (goodIn_of _ (by decide +kernel)) ggX6_play_X6_holds
set_option maxRecDepth 20000 in
theorem ggX6_play_X0_bagAfter : GoodIn wsX6_play wsX0_bagAfter := goodIn_r _ [40, 18, 19, 20, 6, 21, 8, 75, 76, 77, 78, 79] (by decide +kernel) (by decide +kernel)
set_option maxRecDepth 20000 in
theorem gX6_play_X0_bagAfter : GoodIn wsX6_play (wsV RX6 123 RX0 yX0_bagAfter wsX0_bagAfter) := goodIn_app (goodIn_of _ (by decide +kernel)) ggX6_play_X0_bagAfter
set_option maxRecDepth 20000 in
theorem ggX6_play_X5_increase : GoodIn wsX6_play wsX5_increase := goodIn_r _ [44, 45, 29, 30, 31, 32, 33, 46, 47, 48, 49, 80] (by decide +kernel) (by decide +kernel)
set_option maxRecDepth 20000 in
theorem gX6_play_X5_increase : GoodIn wsX6_play (wsV RX6 136 RX5 yX5_increase wsX5_increase) := goodIn_app (goodIn_of _ (by decide +kernel)) ggX6_play_X5_increase
set_option maxRecDepth 20000 in
theorem ggX6_play_J6_bitCount_0f7a4 : GoodIn wsX6_play wsJ6_bitCount_0f7a4 := goodIn_r _ [53, 54, 55, 56] (by decide +kernel) (by decide +kernel)
set_option maxRecDepth 20000 in
theorem gX6_play_J6_bitCount_0f7a4 : GoodIn wsX6_play (va_wsS RX6 141 yJ6_bitCount_0f7a4 wsJ6_bitCount_0f7a4) := goodIn_app (goodIn_of _ (by decide +kernel)) ggX6_play_J6_bitCount_0f7a4
theorem dX6_play_0 : decode cX6_play 0 = .ok (.aload_n 0, 1) := by decide +kernel
theorem dX6_play_1 : decode cX6_play 1 = .ok (.getfield 19, 3) := by decide +kernel
theorem dX6_play_4 : decode cX6_play 4 = .ok (.iload_n 1, 1) := by decide +kernel
theorem dX6_play_5 : decode cX6_play 5 = .ok (.invokevirtual 96, 3) := by decide +kernel
theorem dX6_play_8 : decode cX6_play 8 = .ok (.ifCond .ne 6, 3) := by decide +kernel
theorem dX6_play_11 : decode cX6_play 11 = .ok (.bipush (-101), 2) := by decide +kernel
theorem dX6_play_13 : decode cX6_play 13 = .ok (.ireturn, 1) := by decide +kernel
theorem dX6_play_14 : decode cX6_play 14 = .ok (.aload_n 0, 1) := by decide +kernel
theorem dX6_play_15 : decode cX6_play 15 = .ok (.invokevirtual 114, 3) := by decide +kernel
theorem dX6_play_18 : decode cX6_play 18 = .ok (.iload_n 1, 1) := by decide +kernel
theorem dX6_play_19 : decode cX6_play 19 = .ok (.invokestatic 117, 3) := by decide +kernel
theorem dX6_play_22 : decode cX6_play 22 = .ok (.ifCond .ne 6, 3) := by decide +kernel
theorem dX6_play_25 : decode cX6_play 25 = .ok (.bipush (-103), 2) := by decide +kernel
theorem dX6_play_27 : decode cX6_play 27 = .ok (.ireturn, 1) := by decide +kernel
theorem dX6_play_28 : decode cX6_play 28 = .ok (.aload_n 0, 1) := by decide +kernel
theorem dX6_play_29 : decode cX6_play 29 = .ok (.getfield 26, 3) := by decide +kernel
theorem dX6_play_32 : decode cX6_play 32 = .ok (.aload_n 0, 1) := by decide +kernel
theorem dX6_play_33 : decode cX6_play 33 = .ok (.getfield 19, 3) := by decide +kernel
theorem dX6_play_36 : decode cX6_play 36 = .ok (.aload_n 0, 1) := by decide +kernel
theorem dX6_play_37 : decode cX6_play 37 = .ok (.getfield 26, 3) := by decide +kernel
theorem dX6_play_40 : decode cX6_play 40 = .ok (.getfield 120, 3) := by decide +kernel
theorem dX6_play_43 : decode cX6_play 43 = .ok (.iload_n 1, 1) := by decide +kernel
theorem dX6_play_44 : decode cX6_play 44 = .ok (.invokevirtual 123, 3) := by decide +kernel
theorem dX6_play_47 : decode cX6_play 47 = .ok (.putfield 120, 3) := by decide +kernel
theorem dX6_play_50 : decode cX6_play 50 = .ok (.aload_n 0, 1) := by decide +kernel
theorem dX6_play_51 : decode cX6_play 51 = .ok (.getfield 26, 3) := by decide +kernel
theorem dX6_play_54 : decode cX6_play 54 = .ok (.iload_n 1, 1) := by decide +kernel
theorem dX6_play_55 : decode cX6_play 55 = .ok (.putfield 126, 3) := by decide +kernel
theorem dX6_play_58 : decode cX6_play 58 = .ok (.aload_n 0, 1) := by decide +kernel
theorem dX6_play_59 : decode cX6_play 59 = .ok (.getfield 26, 3) := by decide +kernel
theorem dX6_play_62 : decode cX6_play 62 = .ok (.iconst 0, 1) := by decide +kernel
theorem dX6_play_63 : decode cX6_play 63 = .ok (.putfield 129, 3) := by decide +kernel
theorem dX6_play_66 : decode cX6_play 66 = .ok (.aload_n 0, 1) := by decide +kernel
theorem dX6_play_67 : decode cX6_play 67 = .ok (.getfield 26, 3) := by decide +kernel
theorem dX6_play_70 : decode cX6_play 70 = .ok (.getfield 132, 3) := by decide +kernel
theorem dX6_play_73 : decode cX6_play 73 = .ok (.iload_n 1, 1) := by decide +kernel
theorem dX6_play_74 : decode cX6_play 74 = .ok (.invokevirtual 136, 3) := by decide +kernel
theorem dX6_play_77 : decode cX6_play 77 = .ok (.aload_n 0, 1) := by decide +kernel
theorem dX6_play_78 : decode cX6_play 78 = .ok (.getfield 26, 3) := by decide +kernel
theorem dX6_play_81 : decode cX6_play 81 = .ok (.getfield 120, 3) := by decide +kernel
theorem dX6_play_84 : decode cX6_play 84 = .ok (.invokestatic 141, 3) := by decide +kernel
theorem dX6_play_87 : decode cX6_play 87 = .ok (.ireturn, 1) := by decide +kernel
set_option maxRecDepth 20000 in
theorem ggX6_skip_X5_increase : GoodIn wsX6_skip wsX5_increase := goodIn_r _ [6, 7, 8, 9, 5, 10, 11, 12, 13, 14, 15, 45] (by decide +kernel) (by decide +kernel)
set_option maxRecDepth 20000 in
theorem gX6_skip_X5_increase : GoodIn wsX6_skip (wsV RX6 136 RX5 yX5_increase wsX5_increase) := goodIn_app (goodIn_of _ (by decide +kernel)) ggX6_skip_X5_increase
set_option maxRecDepth 20000 in
theorem ggX6_skip_X6_weight : GoodIn wsX6_skip wsX6_weight := goodIn_r _ [20, 21, 1, 22, 23, 24, 25, 26, 8, 9, 5, 10, 11, 27, 28, 29, 30, 31, 32, 33, 34, 35, 36, 46, 47, 48, 49, 50, 37, 38, 39, 40, 41, 42, 43, 44, 45] (by decide +kernel) (by decide +kernel)
set_option maxRecDepth 20000 in
theorem gX6_skip_X6_weight : GoodIn wsX6_skip (wsV RX6 150 RX6 yX6_weight wsX6_weight) := goodIn_app (goodIn_of _ (by decide +kernel)) ggX6_skip_X6_weight
theorem dX6_skip_0 : decode cX6_skip 0 = .ok (.aload_n 0, 1) := by decide +kernel
theorem dX6_skip_1 : decode cX6_skip 1 = .ok (.getfield 26, 3) := by decide +kernel
theorem dX6_skip_4 : decode cX6_skip 4 = .ok (.getfield 126, 3) := by decide +kernel
theorem dX6_skip_7 : decode cX6_skip 7 = .ok (.iconst (-1), 1) := by decide +kernel
theorem dX6_skip_8 : decode cX6_skip 8 = .ok (.if_icmp .eq 13, 3) := by decide +kernel
theorem dX6_skip_11 : decode cX6_skip 11 = .ok (.aload_n 0, 1) := by decide +kernel
theorem dX6_skip_12 : decode cX6_skip 12 = .ok (.getfield 26, 3) := by decide +kernel
theorem dX6_skip_15 : decode cX6_skip 15 = .ok (.getfield 129, 3) := by decide +kernel
theorem dX6_skip_18 : decode cX6_skip 18 = .ok (.ifCond .eq 6, 3) := by decide +kernel
theorem dX6_skip_21 : decode cX6_skip 21 = .ok (.bipush (-103), 2) := by decide +kernel
theorem dX6_skip_23 : decode cX6_skip 23 = .ok (.ireturn, 1) := by decide +kernel
theorem dX6_skip_24 : decode cX6_skip 24 = .ok (.aload_n 0, 1) := by decide +kernel
theorem dX6_skip_25 : decode cX6_skip 25 = .ok (.getfield 26, 3) := by decide +kernel
theorem dX6_skip_28 : decode cX6_skip 28 = .ok (.iconst 1, 1) := by decide +kernel
theorem dX6_skip_29 : decode cX6_skip 29 = .ok (.putfield 129, 3) := by decide +kernel
theorem dX6_skip_32 : decode cX6_skip 32 = .ok (.aload_n 0, 1) := by decide +kernel
theorem dX6_skip_33 : decode cX6_skip 33 = .ok (.getfield 26, 3) := by decide +kernel
theorem dX6_skip_36 : decode cX6_skip 36 = .ok (.getfield 147, 3) := by decide +kernel
theorem dX6_skip_39 : decode cX6_skip 39 = .ok (.aload_n 0, 1) := by decide +kernel
theorem dX6_skip_40 : decode cX6_skip 40 = .ok (.getfield 26, 3) := by decide +kernel
theorem dX6_skip_43 : decode cX6_skip 43 = .ok (.getfield 126, 3) := by decide +kernel
theorem dX6_skip_46 : decode cX6_skip 46 = .ok (.invokevirtual 136, 3) := by decide +kernel
theorem dX6_skip_49 : decode cX6_skip 49 = .ok (.aload_n 0, 1) := by decide +kernel
theorem dX6_skip_50 : decode cX6_skip 50 = .ok (.aload_n 0, 1) := by decide +kernel
theorem dX6_skip_51 : decode cX6_skip 51 = .ok (.getfield 26, 3) := by decide +kernel
theorem dX6_skip_54 : decode cX6_skip 54 = .ok (.getfield 126, 3) := by decide +kernel
theorem dX6_skip_57 : decode cX6_skip 57 = .ok (.invokevirtual 150, 3) := by decide +kernel
theorem dX6_skip_60 : decode cX6_skip 60 = .ok (.ireturn, 1) := by decide +kernel
set_option maxRecDepth 20000 in
theorem ggX6_twice_X6_noPlayer : GoodIn wsX6_twice wsX6_noPlayer := goodIn_r _ [8, 9, 89, 90, 91, 92, 93, 94, 95, 96, 97, 98, 101, 102, 103, 104, 105] (by decide +kernel) (by decide +kernel)
set_option maxRecDepth 20000 in
theorem gX6_twice_X6_noPlayer : GoodIn wsX6_twice (wsV RX6 108 RX6 yX6_noPlayer wsX6_noPlayer) := goodIn_app (goodIn_of _ (by decide +kernel)) ggX6_twice_X6_noPlayer
set_option maxRecDepth 20000 in
theorem ggX6_twice_X6_reckonTwice : GoodIn wsX6_twice wsX6_reckonTwice := goodIn_r _ [13, 3, 14, 15, 16, 17, 18, 19, 20, 21, 22, 23, 24, 25, 26, 7, 27, 9, 28, 29, 30, 31, 32, 33, 34, 35, 36, 37, 38, 39, 40, 41, 42, 43, 44, 45, 46, 47, 48, 49, 50, 51, 52, 53, 54, 55, 56, 57, 58, 59, 60, 61, 62, 63, 64, 65, 66, 67, 68, 69, 70, 71, 72, 73, 74, 75, 76, 77, 78, 79, 80, 81, 82, 83, 84, 85, 86, 87, 88, 89, 90, 91, 92, 93, 94, 95, 96, 97, 98, 106, 107, 108, 109, 110, 111, 112, 113, 99, 100, 101, 102, 103, 104, 105, 114] (by decide +kernel) (by decide +kernel)
set_option maxRecDepth 20000 in
theorem gX6_twice_X6_reckonTwice : GoodIn wsX6_twice (wsV RX6 157 RX6 yX6_reckonTwice wsX6_reckonTwice) := goodIn_app (goodIn_of _ (by decide +kernel)) ggX6_twice_X6_reckonTwice
theorem dX6_twice_0 : decode cX6_twice 0 = .ok (.iload_n 1, 1) := by decide +kernel
theorem dX6_twice_1 : decode cX6_twice 1 = .ok (.iconst 2, 1) := by decide +kernel
theorem dX6_twice_2 : decode cX6_twice 2 = .ok (.if_icmp .lt 17, 3) := by decide +kernel
theorem dX6_twice_5 : decode cX6_twice 5 = .ok (.iload_n 1, 1) := by decide +kernel
theorem dX6_twice_6 : decode cX6_twice 6 = .ok (.iconst 3, 1) := by decide +kernel
theorem dX6_twice_7 : decode cX6_twice 7 = .ok (.if_icmp .gt 12, 3) := by decide +kernel
theorem dX6_twice_10 : decode cX6_twice 10 = .ok (.iload_n 2, 1) := by decide +kernel
theorem dX6_twice_11 : decode cX6_twice 11 = .ok (.ifCond .lt 8, 3) := by decide +kernel
theorem dX6_twice_14 : decode cX6_twice 14 = .ok (.iload_n 2, 1) := by decide +kernel
theorem dX6_twice_15 : decode cX6_twice 15 = .ok (.iconst 1, 1) := by decide +kernel
theorem dX6_twice_16 : decode cX6_twice 16 = .ok (.if_icmp .le 7, 3) := by decide +kernel
theorem dX6_twice_19 : decode cX6_twice 19 = .ok (.ldc2_w 153, 3) := by decide +kernel
theorem dX6_twice_22 : decode cX6_twice 22 = .ok (.lreturn, 1) := by decide +kernel
theorem dX6_twice_23 : decode cX6_twice 23 = .ok (.aload_n 0, 1) := by decide +kernel
theorem dX6_twice_24 : decode cX6_twice 24 = .ok (.invokevirtual 108, 3) := by decide +kernel
theorem dX6_twice_27 : decode cX6_twice 27 = .ok (.ifCond .eq 7, 3) := by decide +kernel
theorem dX6_twice_30 : decode cX6_twice 30 = .ok (.ldc2_w 155, 3) := by decide +kernel
theorem dX6_twice_33 : decode cX6_twice 33 = .ok (.lreturn, 1) := by decide +kernel
theorem dX6_twice_34 : decode cX6_twice 34 = .ok (.aload_n 0, 1) := by decide +kernel
theorem dX6_twice_35 : decode cX6_twice 35 = .ok (.iload_n 1, 1) := by decide +kernel
theorem dX6_twice_36 : decode cX6_twice 36 = .ok (.invokevirtual 157, 3) := by decide +kernel
theorem dX6_twice_39 : decode cX6_twice 39 = .ok (.iload_n 2, 1) := by decide +kernel
theorem dX6_twice_40 : decode cX6_twice 40 = .ok (.ifCond .ne 13, 3) := by decide +kernel
theorem dX6_twice_43 : decode cX6_twice 43 = .ok (.aload_n 0, 1) := by decide +kernel
theorem dX6_twice_44 : decode cX6_twice 44 = .ok (.getfield 36, 3) := by decide +kernel
theorem dX6_twice_47 : decode cX6_twice 47 = .ok (.getfield 160, 3) := by decide +kernel
theorem dX6_twice_50 : decode cX6_twice 50 = .ok (.goto 10, 3) := by decide +kernel
theorem dX6_twice_53 : decode cX6_twice 53 = .ok (.aload_n 0, 1) := by decide +kernel
theorem dX6_twice_54 : decode cX6_twice 54 = .ok (.getfield 36, 3) := by decide +kernel
theorem dX6_twice_57 : decode cX6_twice 57 = .ok (.getfield 164, 3) := by decide +kernel
theorem dX6_twice_60 : decode cX6_twice 60 = .ok (.lreturn, 1) := by decide +kernel
set_option maxRecDepth 20000 in
theorem ggX6_party_X0_all : GoodIn wsX6_party wsX0_all := goodIn_r _ [7, 8, 64, 65, 66, 67, 68] (by decide +kernel) (by decide +kernel)
set_option maxRecDepth 20000 in
theorem gX6_party_X0_all : GoodIn wsX6_party (wsV RX6 86 RX0 yX0_all wsX0_all) := goodIn_app (goodIn_of _ (by decide +kernel)) ggX6_party_X0_all
set_option maxRecDepth 20000 in
theorem ggX6_party_X6_noPlayer : GoodIn wsX6_party wsX6_noPlayer := goodIn_r _ [13, 1, 54, 55, 56, 57, 58, 59, 60, 61, 62, 63, 64, 65, 66, 67, 68] (by decide +kernel) (by decide +kernel)
set_option maxRecDepth 20000 in
theorem gX6_party_X6_noPlayer : GoodIn wsX6_party (wsV RX6 108 RX6 yX6_noPlayer wsX6_noPlayer) := goodIn_app (goodIn_of _ (by decide +kernel)) ggX6_party_X6_noPlayer
set_option maxRecDepth 20000 in
theorem ggX6_party_X2_findAll : GoodIn wsX6_party wsX2_findAll := goodIn_r _ [18, 19, 20, 21, 22, 17, 23, 24, 25, 26, 27, 28, 29, 30, 31, 32, 33, 34, 35, 36, 37, 38, 39, 40, 12, 41, 42, 43, 44, 45, 46, 47, 48, 49, 69, 70, 71, 72, 64, 65, 66, 67, 68, 73] (by decide +kernel) (by decide +kernel)
set_option maxRecDepth 20000 in
theorem gX6_party_X2_findAll : GoodIn wsX6_party (wsV RX6 167 RX2 yX2_findAll wsX2_findAll) := goodIn_app (goodIn_of _ (by decide +kernel)) ggX6_party_X2_findAll
set_option maxRecDepth 20000 in
theorem ggX6_party_X2_fact : GoodIn wsX6_party wsX2_fact := goodIn_r _ [53, 19, 20, 29, 42, 37, 38, 33, 39, 35, 69, 70, 71, 72, 73] (by decide +kernel) (by decide +kernel)
set_option maxRecDepth 20000 in
theorem gX6_party_X2_fact : GoodIn wsX6_party (wsV RX6 171 RX2 yX2_fact wsX2_fact) := goodIn_app (goodIn_of _ (by decide +kernel)) ggX6_party_X2_fact
theorem dX6_party_0 : decode cX6_party 0 = .ok (.iload_n 1, 1) := by decide +kernel
theorem dX6_party_1 : decode cX6_party 1 = .ok (.ifCond .lt 14, 3) := by decide +kernel
theorem dX6_party_4 : decode cX6_party 4 = .ok (.iload_n 1, 1) := by decide +kernel
theorem dX6_party_5 : decode cX6_party 5 = .ok (.aload_n 0, 1) := by decide +kernel
theorem dX6_party_6 : decode cX6_party 6 = .ok (.getfield 19, 3) := by decide +kernel
theorem dX6_party_9 : decode cX6_party 9 = .ok (.invokevirtual 86, 3) := by decide +kernel
theorem dX6_party_12 : decode cX6_party 12 = .ok (.if_icmp .le 6, 3) := by decide +kernel
theorem dX6_party_15 : decode cX6_party 15 = .ok (.bipush (-102), 2) := by decide +kernel
theorem dX6_party_17 : decode cX6_party 17 = .ok (.ireturn, 1) := by decide +kernel
theorem dX6_party_18 : decode cX6_party 18 = .ok (.iload_n 2, 1) := by decide +kernel
theorem dX6_party_19 : decode cX6_party 19 = .ok (.ifCond .eq 18, 3) := by decide +kernel
theorem dX6_party_22 : decode cX6_party 22 = .ok (.iload_n 2, 1) := by decide +kernel
theorem dX6_party_23 : decode cX6_party 23 = .ok (.bipush 10, 2) := by decide +kernel
theorem dX6_party_25 : decode cX6_party 25 = .ok (.if_icmp .lt 9, 3) := by decide +kernel
theorem dX6_party_28 : decode cX6_party 28 = .ok (.iload_n 2, 1) := by decide +kernel
theorem dX6_party_29 : decode cX6_party 29 = .ok (.bipush 16, 2) := by decide +kernel
theorem dX6_party_31 : decode cX6_party 31 = .ok (.if_icmp .lt 6, 3) := by decide +kernel
theorem dX6_party_34 : decode cX6_party 34 = .ok (.bipush (-102), 2) := by decide +kernel
theorem dX6_party_36 : decode cX6_party 36 = .ok (.ireturn, 1) := by decide +kernel
theorem dX6_party_37 : decode cX6_party 37 = .ok (.aload_n 0, 1) := by decide +kernel
theorem dX6_party_38 : decode cX6_party 38 = .ok (.invokevirtual 108, 3) := by decide +kernel
theorem dX6_party_41 : decode cX6_party 41 = .ok (.ifCond .eq 6, 3) := by decide +kernel
theorem dX6_party_44 : decode cX6_party 44 = .ok (.bipush (-103), 2) := by decide +kernel
theorem dX6_party_46 : decode cX6_party 46 = .ok (.ireturn, 1) := by decide +kernel
theorem dX6_party_47 : decode cX6_party 47 = .ok (.aload_n 0, 1) := by decide +kernel
theorem dX6_party_48 : decode cX6_party 48 = .ok (.getfield 49, 3) := by decide +kernel
theorem dX6_party_51 : decode cX6_party 51 = .ok (.aload_n 0, 1) := by decide +kernel
theorem dX6_party_52 : decode cX6_party 52 = .ok (.getfield 19, 3) := by decide +kernel
theorem dX6_party_55 : decode cX6_party 55 = .ok (.iload_n 1, 1) := by decide +kernel
theorem dX6_party_56 : decode cX6_party 56 = .ok (.invokevirtual 167, 3) := by decide +kernel
theorem dX6_party_59 : decode cX6_party 59 = .ok (.aload_n 0, 1) := by decide +kernel
theorem dX6_party_60 : decode cX6_party 60 = .ok (.getfield 49, 3) := by decide +kernel
theorem dX6_party_63 : decode cX6_party 63 = .ok (.iload_n 2, 1) := by decide +kernel
theorem dX6_party_64 : decode cX6_party 64 = .ok (.invokevirtual 171, 3) := by decide +kernel
theorem dX6_party_67 : decode cX6_party 67 = .ok (.ireturn, 1) := by decide +kernel
set_option maxRecDepth 20000 in
theorem ggX6_hear_X0_has : GoodIn wsX6_hear wsX0_has := goodIn_r _ [7, 8, 33, 34, 35, 36, 37] (by decide +kernel) (by decide +kernel)
set_option maxRecDepth 20000 in
theorem gX6_hear_X0_has : GoodIn wsX6_hear (wsV RX6 96 RX0 yX0_has wsX0_has) := goodIn_app (goodIn_of _ (by decide +kernel)) ggX6_hear_X0_has
set_option maxRecDepth 20000 in
theorem ggX6_hear_X5_put : GoodIn wsX6_hear wsX5_put := goodIn_r _ [13, 14, 38] (by decide +kernel) (by decide +kernel)
set_option maxRecDepth 20000 in
theorem gX6_hear_X5_put : GoodIn wsX6_hear (wsV RX6 180 RX5 yX5_put wsX5_put) := goodIn_app (goodIn_of _ (by decide +kernel)) ggX6_hear_X5_put
theorem dX6_hear_0 : decode cX6_hear 0 = .ok (.aload_n 0, 1) := by decide +kernel
theorem dX6_hear_1 : decode cX6_hear 1 = .ok (.getfield 19, 3) := by decide +kernel
theorem dX6_hear_4 : decode cX6_hear 4 = .ok (.iload_n 1, 1) := by decide +kernel
theorem dX6_hear_5 : decode cX6_hear 5 = .ok (.invokevirtual 96, 3) := by decide +kernel
theorem dX6_hear_8 : decode cX6_hear 8 = .ok (.ifCond .ne 6, 3) := by decide +kernel
theorem dX6_hear_11 : decode cX6_hear 11 = .ok (.bipush (-101), 2) := by decide +kernel
theorem dX6_hear_13 : decode cX6_hear 13 = .ok (.ireturn, 1) := by decide +kernel
theorem dX6_hear_14 : decode cX6_hear 14 = .ok (.aload_n 0, 1) := by decide +kernel
theorem dX6_hear_15 : decode cX6_hear 15 = .ok (.getfield 26, 3) := by decide +kernel
theorem dX6_hear_18 : decode cX6_hear 18 = .ok (.getfield 174, 3) := by decide +kernel
theorem dX6_hear_21 : decode cX6_hear 21 = .ok (.bipush 8, 2) := by decide +kernel
theorem dX6_hear_23 : decode cX6_hear 23 = .ok (.if_icmp .lt 6, 3) := by decide +kernel
theorem dX6_hear_26 : decode cX6_hear 26 = .ok (.bipush (-104), 2) := by decide +kernel
theorem dX6_hear_28 : decode cX6_hear 28 = .ok (.ireturn, 1) := by decide +kernel
theorem dX6_hear_29 : decode cX6_hear 29 = .ok (.aload_n 0, 1) := by decide +kernel
theorem dX6_hear_30 : decode cX6_hear 30 = .ok (.getfield 26, 3) := by decide +kernel
theorem dX6_hear_33 : decode cX6_hear 33 = .ok (.getfield 177, 3) := by decide +kernel
theorem dX6_hear_36 : decode cX6_hear 36 = .ok (.aload_n 0, 1) := by decide +kernel
theorem dX6_hear_37 : decode cX6_hear 37 = .ok (.getfield 26, 3) := by decide +kernel
theorem dX6_hear_40 : decode cX6_hear 40 = .ok (.getfield 174, 3) := by decide +kernel
theorem dX6_hear_43 : decode cX6_hear 43 = .ok (.iload_n 1, 1) := by decide +kernel
theorem dX6_hear_44 : decode cX6_hear 44 = .ok (.invokevirtual 180, 3) := by decide +kernel
theorem dX6_hear_47 : decode cX6_hear 47 = .ok (.aload_n 0, 1) := by decide +kernel
theorem dX6_hear_48 : decode cX6_hear 48 = .ok (.getfield 26, 3) := by decide +kernel
theorem dX6_hear_51 : decode cX6_hear 51 = .ok (.dup, 1) := by decide +kernel
theorem dX6_hear_52 : decode cX6_hear 52 = .ok (.getfield 174, 3) := by decide +kernel
theorem dX6_hear_55 : decode cX6_hear 55 = .ok (.iconst 1, 1) := by decide +kernel
theorem dX6_hear_56 : decode cX6_hear 56 = .ok (.iadd, 1) := by decide +kernel
theorem dX6_hear_57 : decode cX6_hear 57 = .ok (.putfield 174, 3) := by decide +kernel
theorem dX6_hear_60 : decode cX6_hear 60 = .ok (.aload_n 0, 1) := by decide +kernel
theorem dX6_hear_61 : decode cX6_hear 61 = .ok (.getfield 26, 3) := by decide +kernel
theorem dX6_hear_64 : decode cX6_hear 64 = .ok (.getfield 174, 3) := by decide +kernel
theorem dX6_hear_67 : decode cX6_hear 67 = .ok (.ireturn, 1) := by decide +kernel
theorem dX6_forget_0 : decode cX6_forget 0 = .ok (.aload_n 0, 1) := by decide +kernel
theorem dX6_forget_1 : decode cX6_forget 1 = .ok (.getfield 26, 3) := by decide +kernel
theorem dX6_forget_4 : decode cX6_forget 4 = .ok (.getfield 174, 3) := by decide +kernel
theorem dX6_forget_7 : decode cX6_forget 7 = .ok (.istore_n 1, 1) := by decide +kernel
theorem dX6_forget_8 : decode cX6_forget 8 = .ok (.aload_n 0, 1) := by decide +kernel
theorem dX6_forget_9 : decode cX6_forget 9 = .ok (.getfield 26, 3) := by decide +kernel
theorem dX6_forget_12 : decode cX6_forget 12 = .ok (.iconst 0, 1) := by decide +kernel
theorem dX6_forget_13 : decode cX6_forget 13 = .ok (.putfield 174, 3) := by decide +kernel
theorem dX6_forget_16 : decode cX6_forget 16 = .ok (.iload_n 1, 1) := by decide +kernel
theorem dX6_forget_17 : decode cX6_forget 17 = .ok (.ireturn, 1) := by decide +kernel
set_option maxRecDepth 20000 in
theorem ggX6_rules_X6_noPlayer : GoodIn wsX6_rules wsX6_noPlayer := goodIn_r _ [5, 6, 68, 69, 70, 71, 72, 73, 74, 75, 76, 77, 78, 79, 80, 81, 82] (by decide +kernel) (by decide +kernel)
set_option maxRecDepth 20000 in
theorem gX6_rules_X6_noPlayer : GoodIn wsX6_rules (wsV RX6 108 RX6 yX6_noPlayer wsX6_noPlayer) := goodIn_app (goodIn_of _ (by decide +kernel)) ggX6_rules_X6_noPlayer
set_option maxRecDepth 20000 in
theorem ggX6_rules_X6_possibleRules : GoodIn wsX6_rules wsX6_possibleRules := goodIn_r _ [10, 11, 12, 13, 14, 4, 15, 6, 16, 17, 18, 19, 20, 21, 22, 23, 24, 25, 26, 27, 28, 29, 30, 31, 32, 33, 34, 35, 36, 37, 38, 39, 40, 41, 42, 43, 44, 45, 46, 47, 48, 49, 50, 51, 52, 53, 54, 55, 56, 57, 58, 59, 60, 61, 62, 63, 64, 65, 66, 67, 68, 69, 70, 71, 72, 73, 74, 75, 76, 77, 83, 84, 85, 86, 87, 88, 89, 90, 91, 92, 78, 79, 80, 81, 82, 93] (by decide +kernel) (by decide +kernel)
set_option maxRecDepth 20000 in
theorem gX6_rules_X6_possibleRules : GoodIn wsX6_rules (wsV RX6 183 RX6 yX6_possibleRules wsX6_possibleRules) := goodIn_app (goodIn_of _ (by decide +kernel)) ggX6_rules_X6_possibleRules
theorem dX6_rules_0 : decode cX6_rules 0 = .ok (.aload_n 0, 1) := by decide +kernel
theorem dX6_rules_1 : decode cX6_rules 1 = .ok (.invokevirtual 108, 3) := by decide +kernel
theorem dX6_rules_4 : decode cX6_rules 4 = .ok (.ifCond .eq 8, 3) := by decide +kernel
theorem dX6_rules_7 : decode cX6_rules 7 = .ok (.bipush (-103), 2) := by decide +kernel
theorem dX6_rules_9 : decode cX6_rules 9 = .ok (.goto 7, 3) := by decide +kernel
theorem dX6_rules_12 : decode cX6_rules 12 = .ok (.aload_n 0, 1) := by decide +kernel
theorem dX6_rules_13 : decode cX6_rules 13 = .ok (.invokevirtual 183, 3) := by decide +kernel
theorem dX6_rules_16 : decode cX6_rules 16 = .ok (.ireturn, 1) := by decide +kernel
set_option maxRecDepth 20000 in
theorem ggX6_likely_X6_noPlayer : GoodIn wsX6_likely wsX6_noPlayer := goodIn_r _ [5, 6, 73, 74, 75, 76, 77, 78, 79, 80, 81, 82, 83, 84, 85, 86, 87] (by decide +kernel) (by decide +kernel)
set_option maxRecDepth 20000 in
theorem gX6_likely_X6_noPlayer : GoodIn wsX6_likely (wsV RX6 108 RX6 yX6_noPlayer wsX6_noPlayer) := goodIn_app (goodIn_of _ (by decide +kernel)) ggX6_likely_X6_noPlayer
set_option maxRecDepth 20000 in
theorem ggX6_likely_X6_likeliestRule : GoodIn wsX6_likely wsX6_likeliestRule := goodIn_r _ [10, 11, 12, 13, 14, 15, 16, 17, 18, 19, 20, 21, 22, 23, 24, 25, 4, 26, 6, 27, 28, 29, 30, 31, 32, 33, 34, 35, 36, 37, 38, 39, 40, 41, 42, 43, 44, 45, 46, 47, 48, 49, 50, 51, 52, 53, 54, 55, 56, 57, 58, 59, 60, 61, 62, 63, 64, 65, 66, 67, 68, 69, 70, 71, 72, 73, 74, 75, 76, 77, 78, 79, 80, 81, 82, 88, 89, 90, 91, 92, 93, 94, 95, 96, 97, 83, 84, 85, 86, 87, 98] (by decide +kernel) (by decide +kernel)
set_option maxRecDepth 20000 in
theorem gX6_likely_X6_likeliestRule : GoodIn wsX6_likely (wsV RX6 186 RX6 yX6_likeliestRule wsX6_likeliestRule) := goodIn_app (goodIn_of _ (by decide +kernel)) ggX6_likely_X6_likeliestRule
theorem dX6_likely_0 : decode cX6_likely 0 = .ok (.aload_n 0, 1) := by decide +kernel
theorem dX6_likely_1 : decode cX6_likely 1 = .ok (.invokevirtual 108, 3) := by decide +kernel
theorem dX6_likely_4 : decode cX6_likely 4 = .ok (.ifCond .eq 8, 3) := by decide +kernel
theorem dX6_likely_7 : decode cX6_likely 7 = .ok (.bipush (-103), 2) := by decide +kernel
theorem dX6_likely_9 : decode cX6_likely 9 = .ok (.goto 7, 3) := by decide +kernel
theorem dX6_likely_12 : decode cX6_likely 12 = .ok (.aload_n 0, 1) := by decide +kernel
theorem dX6_likely_13 : decode cX6_likely 13 = .ok (.invokevirtual 186, 3) := by decide +kernel
theorem dX6_likely_16 : decode cX6_likely 16 = .ok (.ireturn, 1) := by decide +kernel
set_option maxRecDepth 20000 in
theorem ggX6_evenings_X6_noPlayer : GoodIn wsX6_evenings wsX6_noPlayer := goodIn_r _ [5, 6, 79, 80, 81, 82, 83, 84, 85, 86, 87, 88, 89, 90, 91, 92, 93] (by decide +kernel) (by decide +kernel)
set_option maxRecDepth 20000 in
theorem gX6_evenings_X6_noPlayer : GoodIn wsX6_evenings (wsV RX6 108 RX6 yX6_noPlayer wsX6_noPlayer) := goodIn_app (goodIn_of _ (by decide +kernel)) ggX6_evenings_X6_noPlayer
set_option maxRecDepth 20000 in
theorem ggX6_evenings_X6_eveningFact : GoodIn wsX6_evenings wsX6_eveningFact := goodIn_r _ [10, 11, 6, 12, 13, 4, 14, 15, 16, 17, 18, 19, 20, 21, 22, 23, 24, 25, 26, 27, 28, 29, 30, 31, 32, 33, 34, 35, 36, 37, 38, 39, 40, 41, 42, 43, 44, 45, 46, 47, 48, 49, 50, 51, 52, 53, 54, 55, 56, 57, 58, 59, 60, 61, 62, 63, 64, 65, 66, 67, 68, 69, 70, 71, 72, 73, 74, 75, 76, 77, 78, 79, 80, 81, 82, 83, 84, 85, 86, 87, 88, 94, 95, 96, 97, 98, 99, 100, 101, 89, 90, 91, 92, 93, 102] (by decide +kernel) (by decide +kernel)
set_option maxRecDepth 20000 in
theorem gX6_evenings_X6_eveningFact : GoodIn wsX6_evenings (wsV RX6 189 RX6 yX6_eveningFact wsX6_eveningFact) := goodIn_app (goodIn_of _ (by decide +kernel)) ggX6_evenings_X6_eveningFact
theorem dX6_evenings_0 : decode cX6_evenings 0 = .ok (.iload_n 1, 1) := by decide +kernel
theorem dX6_evenings_1 : decode cX6_evenings 1 = .ok (.iconst 1, 1) := by decide +kernel
theorem dX6_evenings_2 : decode cX6_evenings 2 = .ok (.if_icmp .lt 22, 3) := by decide +kernel
theorem dX6_evenings_5 : decode cX6_evenings 5 = .ok (.iload_n 1, 1) := by decide +kernel
theorem dX6_evenings_6 : decode cX6_evenings 6 = .ok (.bipush 60, 2) := by decide +kernel
theorem dX6_evenings_8 : decode cX6_evenings 8 = .ok (.if_icmp .gt 16, 3) := by decide +kernel
theorem dX6_evenings_11 : decode cX6_evenings 11 = .ok (.iload_n 2, 1) := by decide +kernel
theorem dX6_evenings_12 : decode cX6_evenings 12 = .ok (.ifCond .lt 12, 3) := by decide +kernel
theorem dX6_evenings_15 : decode cX6_evenings 15 = .ok (.iload_n 3, 1) := by decide +kernel
theorem dX6_evenings_16 : decode cX6_evenings 16 = .ok (.ifCond .lt 8, 3) := by decide +kernel
theorem dX6_evenings_19 : decode cX6_evenings 19 = .ok (.iload_n 3, 1) := by decide +kernel
theorem dX6_evenings_20 : decode cX6_evenings 20 = .ok (.iconst 2, 1) := by decide +kernel
theorem dX6_evenings_21 : decode cX6_evenings 21 = .ok (.if_icmp .le 6, 3) := by decide +kernel
theorem dX6_evenings_24 : decode cX6_evenings 24 = .ok (.bipush (-102), 2) := by decide +kernel
theorem dX6_evenings_26 : decode cX6_evenings 26 = .ok (.ireturn, 1) := by decide +kernel
theorem dX6_evenings_27 : decode cX6_evenings 27 = .ok (.aload_n 0, 1) := by decide +kernel
theorem dX6_evenings_28 : decode cX6_evenings 28 = .ok (.invokevirtual 108, 3) := by decide +kernel
theorem dX6_evenings_31 : decode cX6_evenings 31 = .ok (.ifCond .eq 6, 3) := by decide +kernel
theorem dX6_evenings_34 : decode cX6_evenings 34 = .ok (.bipush (-103), 2) := by decide +kernel
theorem dX6_evenings_36 : decode cX6_evenings 36 = .ok (.ireturn, 1) := by decide +kernel
theorem dX6_evenings_37 : decode cX6_evenings 37 = .ok (.aload_n 0, 1) := by decide +kernel
theorem dX6_evenings_38 : decode cX6_evenings 38 = .ok (.iload_n 1, 1) := by decide +kernel
theorem dX6_evenings_39 : decode cX6_evenings 39 = .ok (.iload_n 2, 1) := by decide +kernel
theorem dX6_evenings_40 : decode cX6_evenings 40 = .ok (.iload_n 3, 1) := by decide +kernel
theorem dX6_evenings_41 : decode cX6_evenings 41 = .ok (.invokevirtual 189, 3) := by decide +kernel
theorem dX6_evenings_44 : decode cX6_evenings 44 = .ok (.ireturn, 1) := by decide +kernel
set_option maxRecDepth 20000 in
theorem ggX6_image_X6_noPlayer : GoodIn wsX6_image wsX6_noPlayer := goodIn_r _ [8, 9, 37, 38, 39, 40, 41, 42, 43, 44, 45, 46, 55, 56, 57, 58, 59] (by decide +kernel) (by decide +kernel)
set_option maxRecDepth 20000 in
theorem gX6_image_X6_noPlayer : GoodIn wsX6_image (wsV RX6 108 RX6 yX6_noPlayer wsX6_noPlayer) := goodIn_app (goodIn_of _ (by decide +kernel)) ggX6_image_X6_noPlayer
set_option maxRecDepth 20000 in
theorem ggX6_image_X4_become : GoodIn wsX6_image wsX4_become := goodIn_r _ [14, 15, 16, 17, 18, 19, 20, 21, 22, 23, 24, 25, 26, 27, 28, 29, 30, 31, 32, 47, 48, 49, 50, 51, 52, 53, 54, 60] (by decide +kernel) (by decide +kernel)
set_option maxRecDepth 20000 in
theorem gX6_image_X4_become : GoodIn wsX6_image (wsV RX6 193 RX4 yX4_become wsX4_become) := goodIn_app (goodIn_of _ (by decide +kernel)) ggX6_image_X4_become
set_option maxRecDepth 20000 in
theorem ggX6_image_X5_sum : GoodIn wsX6_image wsX5_sum := goodIn_r _ [36, 28, 60] (by decide +kernel) (by decide +kernel)
set_option maxRecDepth 20000 in
theorem gX6_image_X5_sum : GoodIn wsX6_image (wsV RX6 197 RX5 yX5_sum wsX5_sum) := goodIn_app (goodIn_of _ (by decide +kernel)) ggX6_image_X5_sum
theorem dX6_image_0 : decode cX6_image 0 = .ok (.aload_n 0, 1) := by decide +kernel
theorem dX6_image_1 : decode cX6_image 1 = .ok (.invokevirtual 108, 3) := by decide +kernel
theorem dX6_image_4 : decode cX6_image 4 = .ok (.ifCond .eq 6, 3) := by decide +kernel
theorem dX6_image_7 : decode cX6_image 7 = .ok (.bipush (-103), 2) := by decide +kernel
theorem dX6_image_9 : decode cX6_image 9 = .ok (.ireturn, 1) := by decide +kernel
theorem dX6_image_10 : decode cX6_image 10 = .ok (.aload_n 0, 1) := by decide +kernel
theorem dX6_image_11 : decode cX6_image 11 = .ok (.getfield 30, 3) := by decide +kernel
theorem dX6_image_14 : decode cX6_image 14 = .ok (.aload_n 0, 1) := by decide +kernel
theorem dX6_image_15 : decode cX6_image 15 = .ok (.getfield 26, 3) := by decide +kernel
theorem dX6_image_18 : decode cX6_image 18 = .ok (.invokevirtual 193, 3) := by decide +kernel
theorem dX6_image_21 : decode cX6_image 21 = .ok (.aload_n 0, 1) := by decide +kernel
theorem dX6_image_22 : decode cX6_image 22 = .ok (.iconst 1, 1) := by decide +kernel
theorem dX6_image_23 : decode cX6_image 23 = .ok (.putfield 53, 3) := by decide +kernel
theorem dX6_image_26 : decode cX6_image 26 = .ok (.aload_n 0, 1) := by decide +kernel
theorem dX6_image_27 : decode cX6_image 27 = .ok (.getfield 26, 3) := by decide +kernel
theorem dX6_image_30 : decode cX6_image 30 = .ok (.getfield 132, 3) := by decide +kernel
theorem dX6_image_33 : decode cX6_image 33 = .ok (.invokevirtual 197, 3) := by decide +kernel
theorem dX6_image_36 : decode cX6_image 36 = .ok (.ireturn, 1) := by decide +kernel
set_option maxRecDepth 20000 in
theorem ggX6_restore_X4_become : GoodIn wsX6_restore wsX4_become := goodIn_r _ [8, 9, 10, 11, 12, 13, 14, 15, 16, 17, 18, 19, 20, 21, 22, 23, 24, 25, 26, 41, 42, 43, 44, 45, 46, 47, 48, 49] (by decide +kernel) (by decide +kernel)
set_option maxRecDepth 20000 in
theorem gX6_restore_X4_become : GoodIn wsX6_restore (wsV RX6 193 RX4 yX4_become wsX4_become) := goodIn_app (goodIn_of _ (by decide +kernel)) ggX6_restore_X4_become
set_option maxRecDepth 20000 in
theorem ggX6_restore_X5_sum : GoodIn wsX6_restore wsX5_sum := goodIn_r _ [30, 22, 49] (by decide +kernel) (by decide +kernel)
set_option maxRecDepth 20000 in
theorem gX6_restore_X5_sum : GoodIn wsX6_restore (wsV RX6 197 RX5 yX5_sum wsX5_sum) := goodIn_app (goodIn_of _ (by decide +kernel)) ggX6_restore_X5_sum
theorem dX6_restore_0 : decode cX6_restore 0 = .ok (.aload_n 0, 1) := by decide +kernel
theorem dX6_restore_1 : decode cX6_restore 1 = .ok (.getfield 53, 3) := by decide +kernel
theorem dX6_restore_4 : decode cX6_restore 4 = .ok (.ifCond .ne 6, 3) := by decide +kernel
theorem dX6_restore_7 : decode cX6_restore 7 = .ok (.bipush (-103), 2) := by decide +kernel
theorem dX6_restore_9 : decode cX6_restore 9 = .ok (.ireturn, 1) := by decide +kernel
theorem dX6_restore_10 : decode cX6_restore 10 = .ok (.aload_n 0, 1) := by decide +kernel
theorem dX6_restore_11 : decode cX6_restore 11 = .ok (.getfield 26, 3) := by decide +kernel
theorem dX6_restore_14 : decode cX6_restore 14 = .ok (.aload_n 0, 1) := by decide +kernel
theorem dX6_restore_15 : decode cX6_restore 15 = .ok (.getfield 30, 3) := by decide +kernel
theorem dX6_restore_18 : decode cX6_restore 18 = .ok (.invokevirtual 193, 3) := by decide +kernel
theorem dX6_restore_21 : decode cX6_restore 21 = .ok (.aload_n 0, 1) := by decide +kernel
theorem dX6_restore_22 : decode cX6_restore 22 = .ok (.getfield 26, 3) := by decide +kernel
theorem dX6_restore_25 : decode cX6_restore 25 = .ok (.getfield 132, 3) := by decide +kernel
theorem dX6_restore_28 : decode cX6_restore 28 = .ok (.invokevirtual 197, 3) := by decide +kernel
theorem dX6_restore_31 : decode cX6_restore 31 = .ok (.ireturn, 1) := by decide +kernel
set_option maxRecDepth 20000 in
theorem ggX6_count_X5_sum : GoodIn wsX6_count wsX5_sum := goodIn_r _ [9, 10, 77] (by decide +kernel) (by decide +kernel)
set_option maxRecDepth 20000 in
theorem gX6_count_X5_sum : GoodIn wsX6_count (wsV RX6 197 RX5 yX5_sum wsX5_sum) := goodIn_app (goodIn_of _ (by decide +kernel)) ggX6_count_X5_sum
set_option maxRecDepth 20000 in
theorem ggX6_count_X6_minutesPlayed : GoodIn wsX6_count wsX6_minutesPlayed := goodIn_r _ [15, 1, 2, 16, 17, 18, 8, 19, 10, 52, 53, 54, 55, 56, 57, 58, 59, 60, 61, 62, 63, 64, 65, 66, 67, 68, 69, 70, 71, 72, 73, 74, 77] (by decide +kernel) (by decide +kernel)
set_option maxRecDepth 20000 in
theorem gX6_count_X6_minutesPlayed : GoodIn wsX6_count (wsV RX6 199 RX6 yX6_minutesPlayed wsX6_minutesPlayed) := goodIn_app (goodIn_of _ (by decide +kernel)) ggX6_count_X6_minutesPlayed
set_option maxRecDepth 20000 in
theorem ggX6_count_X5_aboveNothing : GoodIn wsX6_count wsX5_aboveNothing := goodIn_r _ [23, 10, 77] (by decide +kernel) (by decide +kernel)
set_option maxRecDepth 20000 in
theorem gX6_count_X5_aboveNothing : GoodIn wsX6_count (wsV RX6 202 RX5 yX5_aboveNothing wsX5_aboveNothing) := goodIn_app (goodIn_of _ (by decide +kernel)) ggX6_count_X5_aboveNothing
set_option maxRecDepth 20000 in
theorem ggX6_count_J6_bitCount_0f7a4 : GoodIn wsX6_count wsJ6_bitCount_0f7a4 := goodIn_r _ [27, 28, 29, 30] (by decide +kernel) (by decide +kernel)
set_option maxRecDepth 20000 in
theorem gX6_count_J6_bitCount_0f7a4 : GoodIn wsX6_count (va_wsS RX6 141 yJ6_bitCount_0f7a4 wsJ6_bitCount_0f7a4) := goodIn_app (goodIn_of _ (by decide +kernel)) ggX6_count_J6_bitCount_0f7a4
set_option maxRecDepth 20000 in
theorem ggX6_count_X6_mayNow : GoodIn wsX6_count wsX6_mayNow := goodIn_r _ [34, 1, 2, 35, 36, 37, 38, 39, 40, 41, 42, 43, 44, 45, 46, 47, 48, 49, 50, 51, 17, 18, 8, 19, 10, 52, 53, 54, 55, 56, 57, 58, 59, 60, 61, 67, 68, 69, 70, 71, 72, 73, 74, 62, 63, 64, 65, 66, 77] (by decide +kernel) (by decide +kernel)
set_option maxRecDepth 20000 in
theorem gX6_count_X6_mayNow : GoodIn wsX6_count (wsV RX6 114 RX6 yX6_mayNow wsX6_mayNow) := goodIn_app (goodIn_of _ (by decide +kernel)) ggX6_count_X6_mayNow
theorem dX6_count_0 : decode cX6_count 0 = .ok (.iload_n 1, 1) := by decide +kernel
theorem dX6_count_1 : decode cX6_count 1 = .ok (.tableswitch 165 0 11 #[63, 71, 79, 90, 101, 106, 117, 128, 136, 144, 152, 160], 63) := by decide +kernel
theorem dX6_count_64 : decode cX6_count 64 = .ok (.aload_n 0, 1) := by decide +kernel
theorem dX6_count_65 : decode cX6_count 65 = .ok (.getfield 19, 3) := by decide +kernel
theorem dX6_count_68 : decode cX6_count 68 = .ok (.getfield 93, 3) := by decide +kernel
theorem dX6_count_71 : decode cX6_count 71 = .ok (.ireturn, 1) := by decide +kernel
theorem dX6_count_72 : decode cX6_count 72 = .ok (.aload_n 0, 1) := by decide +kernel
theorem dX6_count_73 : decode cX6_count 73 = .ok (.getfield 26, 3) := by decide +kernel
theorem dX6_count_76 : decode cX6_count 76 = .ok (.getfield 111, 3) := by decide +kernel
theorem dX6_count_79 : decode cX6_count 79 = .ok (.ireturn, 1) := by decide +kernel
theorem dX6_count_80 : decode cX6_count 80 = .ok (.aload_n 0, 1) := by decide +kernel
theorem dX6_count_81 : decode cX6_count 81 = .ok (.getfield 26, 3) := by decide +kernel
theorem dX6_count_84 : decode cX6_count 84 = .ok (.getfield 132, 3) := by decide +kernel
theorem dX6_count_87 : decode cX6_count 87 = .ok (.invokevirtual 197, 3) := by decide +kernel
theorem dX6_count_90 : decode cX6_count 90 = .ok (.ireturn, 1) := by decide +kernel
theorem dX6_count_91 : decode cX6_count 91 = .ok (.aload_n 0, 1) := by decide +kernel
theorem dX6_count_92 : decode cX6_count 92 = .ok (.getfield 26, 3) := by decide +kernel
theorem dX6_count_95 : decode cX6_count 95 = .ok (.getfield 147, 3) := by decide +kernel
theorem dX6_count_98 : decode cX6_count 98 = .ok (.invokevirtual 197, 3) := by decide +kernel
theorem dX6_count_101 : decode cX6_count 101 = .ok (.ireturn, 1) := by decide +kernel
theorem dX6_count_102 : decode cX6_count 102 = .ok (.aload_n 0, 1) := by decide +kernel
theorem dX6_count_103 : decode cX6_count 103 = .ok (.invokevirtual 199, 3) := by decide +kernel
theorem dX6_count_106 : decode cX6_count 106 = .ok (.ireturn, 1) := by decide +kernel
theorem dX6_count_107 : decode cX6_count 107 = .ok (.aload_n 0, 1) := by decide +kernel
theorem dX6_count_108 : decode cX6_count 108 = .ok (.getfield 26, 3) := by decide +kernel
theorem dX6_count_111 : decode cX6_count 111 = .ok (.getfield 132, 3) := by decide +kernel
theorem dX6_count_114 : decode cX6_count 114 = .ok (.invokevirtual 202, 3) := by decide +kernel
theorem dX6_count_117 : decode cX6_count 117 = .ok (.ireturn, 1) := by decide +kernel
theorem dX6_count_118 : decode cX6_count 118 = .ok (.aload_n 0, 1) := by decide +kernel
theorem dX6_count_119 : decode cX6_count 119 = .ok (.getfield 26, 3) := by decide +kernel
theorem dX6_count_122 : decode cX6_count 122 = .ok (.getfield 120, 3) := by decide +kernel
theorem dX6_count_125 : decode cX6_count 125 = .ok (.invokestatic 141, 3) := by decide +kernel
theorem dX6_count_128 : decode cX6_count 128 = .ok (.ireturn, 1) := by decide +kernel
theorem dX6_count_129 : decode cX6_count 129 = .ok (.aload_n 0, 1) := by decide +kernel
theorem dX6_count_130 : decode cX6_count 130 = .ok (.invokevirtual 114, 3) := by decide +kernel
theorem dX6_count_133 : decode cX6_count 133 = .ok (.invokestatic 141, 3) := by decide +kernel
theorem dX6_count_136 : decode cX6_count 136 = .ok (.ireturn, 1) := by decide +kernel
theorem dX6_count_137 : decode cX6_count 137 = .ok (.aload_n 0, 1) := by decide +kernel
theorem dX6_count_138 : decode cX6_count 138 = .ok (.getfield 26, 3) := by decide +kernel
theorem dX6_count_141 : decode cX6_count 141 = .ok (.getfield 126, 3) := by decide +kernel
theorem dX6_count_144 : decode cX6_count 144 = .ok (.ireturn, 1) := by decide +kernel
theorem dX6_count_145 : decode cX6_count 145 = .ok (.aload_n 0, 1) := by decide +kernel
theorem dX6_count_146 : decode cX6_count 146 = .ok (.getfield 26, 3) := by decide +kernel
theorem dX6_count_149 : decode cX6_count 149 = .ok (.getfield 174, 3) := by decide +kernel
theorem dX6_count_152 : decode cX6_count 152 = .ok (.ireturn, 1) := by decide +kernel
theorem dX6_count_153 : decode cX6_count 153 = .ok (.aload_n 0, 1) := by decide +kernel
theorem dX6_count_154 : decode cX6_count 154 = .ok (.getfield 10, 3) := by decide +kernel
theorem dX6_count_157 : decode cX6_count 157 = .ok (.getfield 61, 3) := by decide +kernel
theorem dX6_count_160 : decode cX6_count 160 = .ok (.ireturn, 1) := by decide +kernel
theorem dX6_count_161 : decode cX6_count 161 = .ok (.aload_n 0, 1) := by decide +kernel
theorem dX6_count_162 : decode cX6_count 162 = .ok (.getfield 57, 3) := by decide +kernel
theorem dX6_count_165 : decode cX6_count 165 = .ok (.ireturn, 1) := by decide +kernel
theorem dX6_count_166 : decode cX6_count 166 = .ok (.bipush (-102), 2) := by decide +kernel
theorem dX6_count_168 : decode cX6_count 168 = .ok (.ireturn, 1) := by decide +kernel
set_option maxRecDepth 20000 in
theorem ggX6_digest_X6_songFact : GoodIn wsX6_digest wsX6_songFact := goodIn_r _ [9, 2, 10, 11, 12, 13, 14, 15, 16, 17, 18, 19, 8, 20, 21, 22, 23, 24, 25, 26, 27, 28, 29, 30, 31, 32, 33, 34, 35, 36, 37, 38, 39, 40, 41, 42, 43, 44, 45, 46, 47, 48, 49, 50, 51, 52, 53, 54, 55, 56, 57, 58, 59, 60, 61, 62, 63, 64, 65, 66, 67, 68, 69, 70, 71, 72, 73, 74, 75, 76, 77, 78, 79, 80, 81, 185, 186, 187, 188, 189, 190, 191, 192, 193, 194, 195, 196, 197, 198, 199, 202, 203, 204, 205, 206, 207, 208, 209, 210, 211, 212] (by decide +kernel) (by decide +kernel)
set_option maxRecDepth 20000 in
theorem gX6_digest_X6_songFact : GoodIn wsX6_digest (wsV RX6 100 RX6 yX6_songFact wsX6_songFact) := goodIn_app (goodIn_of _ (by decide +kernel)) ggX6_digest_X6_songFact
set_option maxRecDepth 20000 in
theorem ggX6_digest_X6_noPlayer : GoodIn wsX6_digest wsX6_noPlayer := goodIn_r _ [85, 2, 185, 186, 187, 188, 189, 190, 191, 192, 193, 194, 195, 196, 197, 198, 199] (by decide +kernel) (by decide +kernel)
set_option maxRecDepth 20000 in
theorem gX6_digest_X6_noPlayer : GoodIn wsX6_digest (wsV RX6 108 RX6 yX6_noPlayer wsX6_noPlayer) := goodIn_app (goodIn_of _ (by decide +kernel)) ggX6_digest_X6_noPlayer
set_option maxRecDepth 20000 in
theorem ggX6_digest_X6_digestOfPlayer : GoodIn wsX6_digest wsX6_digestOfPlayer := goodIn_r _ [89, 3, 90, 91, 2, 92, 93, 94, 8, 95, 10, 72, 73, 74, 75, 76, 77, 78, 79, 80, 81, 96, 97, 98, 32, 33, 34, 35, 36, 37, 38, 39, 40, 41, 42, 43, 44, 45, 46, 47, 48, 12, 13, 14, 15, 16, 54, 55, 56, 57, 25, 26, 27, 17, 18, 19, 20, 21, 22, 23, 24, 11, 62, 63, 64, 65, 66, 67, 68, 69, 70, 71, 58, 59, 60, 61, 99, 100, 101, 102, 103, 104, 105, 106, 107, 108, 109, 110, 111, 112, 113, 114, 115, 116, 117, 118, 119, 120, 121, 122, 123, 124, 125, 126, 127, 128, 129, 130, 131, 132, 133, 134, 135, 136, 137, 138, 139, 140, 141, 142, 143, 144, 145, 53, 146, 147, 148, 149, 150, 151, 152, 153, 154, 155, 156, 157, 158, 159, 160, 161, 162, 163, 164, 165, 166, 167, 185, 186, 187, 188, 189, 190, 191, 192, 193, 194, 210, 211, 202, 203, 204, 205, 206, 207, 208, 209, 195, 196, 197, 198, 199, 212, 213, 214, 215, 216] (by decide +kernel) (by decide +kernel)
set_option maxRecDepth 20000 in
theorem gX6_digest_X6_digestOfPlayer : GoodIn wsX6_digest (wsV RX6 209 RX6 yX6_digestOfPlayer wsX6_digestOfPlayer) := goodIn_app (goodIn_of _ (by decide +kernel)) ggX6_digest_X6_digestOfPlayer
set_option maxRecDepth 20000 in
theorem ggX6_digest_X5_at : GoodIn wsX6_digest wsX5_at := goodIn_r _ [15, 16, 212] (by decide +kernel) (by decide +kernel)
set_option maxRecDepth 20000 in
theorem gX6_digest_X5_at : GoodIn wsX6_digest (wsV RX6 216 RX5 yX5_at wsX5_at) := goodIn_app (goodIn_of _ (by decide +kernel)) ggX6_digest_X5_at
set_option maxRecDepth 20000 in
theorem ggX6_digest_X6_count : GoodIn wsX6_digest wsX6_count := goodIn_r _ [171, 2, 10, 4, 172, 173, 174, 175, 14, 176, 16, 177, 178, 179, 8, 180, 11, 12, 13, 15, 181, 182, 183, 184, 65, 66, 67, 68, 69, 70, 71, 28, 29, 30, 31, 32, 33, 34, 35, 36, 37, 38, 39, 40, 41, 42, 43, 44, 45, 46, 47, 48, 185, 186, 187, 188, 189, 190, 191, 192, 193, 194, 195, 196, 197, 198, 199, 202, 203, 204, 205, 206, 207, 208, 209, 200, 201, 212] (by decide +kernel) (by decide +kernel)
set_option maxRecDepth 20000 in
theorem gX6_digest_X6_count : GoodIn wsX6_digest (wsV RX6 219 RX6 yX6_count wsX6_count) := goodIn_app (goodIn_of _ (by decide +kernel)) ggX6_digest_X6_count
theorem dX6_digest_0 : decode cX6_digest 0 = .ok (.ldc2_w 205, 3) := by decide +kernel
theorem dX6_digest_3 : decode cX6_digest 3 = .ok (.lstore_n 1, 1) := by decide +kernel
theorem dX6_digest_4 : decode cX6_digest 4 = .ok (.iconst 0, 1) := by decide +kernel
theorem dX6_digest_5 : decode cX6_digest 5 = .ok (.istore_n 3, 1) := by decide +kernel
theorem dX6_digest_6 : decode cX6_digest 6 = .ok (.iload_n 3, 1) := by decide +kernel
theorem dX6_digest_7 : decode cX6_digest 7 = .ok (.aload_n 0, 1) := by decide +kernel
theorem dX6_digest_8 : decode cX6_digest 8 = .ok (.getfield 19, 3) := by decide +kernel
theorem dX6_digest_11 : decode cX6_digest 11 = .ok (.getfield 93, 3) := by decide +kernel
theorem dX6_digest_14 : decode cX6_digest 14 = .ok (.if_icmp .ge 40, 3) := by decide +kernel
theorem dX6_digest_17 : decode cX6_digest 17 = .ok (.iconst 0, 1) := by decide +kernel
theorem dX6_digest_18 : decode cX6_digest 18 = .ok (.istore 4, 2) := by decide +kernel
theorem dX6_digest_20 : decode cX6_digest 20 = .ok (.iload 4, 2) := by decide +kernel
theorem dX6_digest_22 : decode cX6_digest 22 = .ok (.bipush 10, 2) := by decide +kernel
theorem dX6_digest_24 : decode cX6_digest 24 = .ok (.if_icmp .ge 24, 3) := by decide +kernel
theorem dX6_digest_27 : decode cX6_digest 27 = .ok (.ldc2_w 207, 3) := by decide +kernel
theorem dX6_digest_30 : decode cX6_digest 30 = .ok (.lload_n 1, 1) := by decide +kernel
theorem dX6_digest_31 : decode cX6_digest 31 = .ok (.lmul, 1) := by decide +kernel
theorem dX6_digest_32 : decode cX6_digest 32 = .ok (.aload_n 0, 1) := by decide +kernel
theorem dX6_digest_33 : decode cX6_digest 33 = .ok (.iload_n 3, 1) := by decide +kernel
theorem dX6_digest_34 : decode cX6_digest 34 = .ok (.iload 4, 2) := by decide +kernel
theorem dX6_digest_36 : decode cX6_digest 36 = .ok (.invokevirtual 100, 3) := by decide +kernel
theorem dX6_digest_39 : decode cX6_digest 39 = .ok (.i2l, 1) := by decide +kernel
theorem dX6_digest_40 : decode cX6_digest 40 = .ok (.ladd, 1) := by decide +kernel
theorem dX6_digest_41 : decode cX6_digest 41 = .ok (.lstore_n 1, 1) := by decide +kernel
theorem dX6_digest_42 : decode cX6_digest 42 = .ok (.iinc 4 1, 3) := by decide +kernel
theorem dX6_digest_45 : decode cX6_digest 45 = .ok (.goto (-25), 3) := by decide +kernel
theorem dX6_digest_48 : decode cX6_digest 48 = .ok (.iinc 3 1, 3) := by decide +kernel
theorem dX6_digest_51 : decode cX6_digest 51 = .ok (.goto (-45), 3) := by decide +kernel
theorem dX6_digest_54 : decode cX6_digest 54 = .ok (.aload_n 0, 1) := by decide +kernel
theorem dX6_digest_55 : decode cX6_digest 55 = .ok (.invokevirtual 108, 3) := by decide +kernel
theorem dX6_digest_58 : decode cX6_digest 58 = .ok (.ifCond .ne 9, 3) := by decide +kernel
theorem dX6_digest_61 : decode cX6_digest 61 = .ok (.aload_n 0, 1) := by decide +kernel
theorem dX6_digest_62 : decode cX6_digest 62 = .ok (.lload_n 1, 1) := by decide +kernel
theorem dX6_digest_63 : decode cX6_digest 63 = .ok (.invokevirtual 209, 3) := by decide +kernel
theorem dX6_digest_66 : decode cX6_digest 66 = .ok (.lstore_n 1, 1) := by decide +kernel
theorem dX6_digest_67 : decode cX6_digest 67 = .ok (.iconst 0, 1) := by decide +kernel
theorem dX6_digest_68 : decode cX6_digest 68 = .ok (.istore_n 3, 1) := by decide +kernel
theorem dX6_digest_69 : decode cX6_digest 69 = .ok (.iload_n 3, 1) := by decide +kernel
theorem dX6_digest_70 : decode cX6_digest 70 = .ok (.aload_n 0, 1) := by decide +kernel
theorem dX6_digest_71 : decode cX6_digest 71 = .ok (.getfield 10, 3) := by decide +kernel
theorem dX6_digest_74 : decode cX6_digest 74 = .ok (.getfield 61, 3) := by decide +kernel
theorem dX6_digest_77 : decode cX6_digest 77 = .ok (.if_icmp .ge 28, 3) := by decide +kernel
theorem dX6_digest_80 : decode cX6_digest 80 = .ok (.ldc2_w 207, 3) := by decide +kernel
theorem dX6_digest_83 : decode cX6_digest 83 = .ok (.lload_n 1, 1) := by decide +kernel
theorem dX6_digest_84 : decode cX6_digest 84 = .ok (.lmul, 1) := by decide +kernel
theorem dX6_digest_85 : decode cX6_digest 85 = .ok (.aload_n 0, 1) := by decide +kernel
theorem dX6_digest_86 : decode cX6_digest 86 = .ok (.getfield 10, 3) := by decide +kernel
theorem dX6_digest_89 : decode cX6_digest 89 = .ok (.getfield 213, 3) := by decide +kernel
theorem dX6_digest_92 : decode cX6_digest 92 = .ok (.iload_n 3, 1) := by decide +kernel
theorem dX6_digest_93 : decode cX6_digest 93 = .ok (.invokevirtual 216, 3) := by decide +kernel
theorem dX6_digest_96 : decode cX6_digest 96 = .ok (.i2l, 1) := by decide +kernel
theorem dX6_digest_97 : decode cX6_digest 97 = .ok (.ladd, 1) := by decide +kernel
theorem dX6_digest_98 : decode cX6_digest 98 = .ok (.lstore_n 1, 1) := by decide +kernel
theorem dX6_digest_99 : decode cX6_digest 99 = .ok (.iinc 3 1, 3) := by decide +kernel
theorem dX6_digest_102 : decode cX6_digest 102 = .ok (.goto (-33), 3) := by decide +kernel
theorem dX6_digest_105 : decode cX6_digest 105 = .ok (.iconst 0, 1) := by decide +kernel
theorem dX6_digest_106 : decode cX6_digest 106 = .ok (.istore_n 3, 1) := by decide +kernel
theorem dX6_digest_107 : decode cX6_digest 107 = .ok (.iload_n 3, 1) := by decide +kernel
theorem dX6_digest_108 : decode cX6_digest 108 = .ok (.bipush 12, 2) := by decide +kernel
theorem dX6_digest_110 : decode cX6_digest 110 = .ok (.if_icmp .ge 22, 3) := by decide +kernel
theorem dX6_digest_113 : decode cX6_digest 113 = .ok (.ldc2_w 207, 3) := by decide +kernel
theorem dX6_digest_116 : decode cX6_digest 116 = .ok (.lload_n 1, 1) := by decide +kernel
theorem dX6_digest_117 : decode cX6_digest 117 = .ok (.lmul, 1) := by decide +kernel
theorem dX6_digest_118 : decode cX6_digest 118 = .ok (.aload_n 0, 1) := by decide +kernel
theorem dX6_digest_119 : decode cX6_digest 119 = .ok (.iload_n 3, 1) := by decide +kernel
theorem dX6_digest_120 : decode cX6_digest 120 = .ok (.invokevirtual 219, 3) := by decide +kernel
theorem dX6_digest_123 : decode cX6_digest 123 = .ok (.i2l, 1) := by decide +kernel
theorem dX6_digest_124 : decode cX6_digest 124 = .ok (.ladd, 1) := by decide +kernel
theorem dX6_digest_125 : decode cX6_digest 125 = .ok (.lstore_n 1, 1) := by decide +kernel
theorem dX6_digest_126 : decode cX6_digest 126 = .ok (.iinc 3 1, 3) := by decide +kernel
theorem dX6_digest_129 : decode cX6_digest 129 = .ok (.goto (-22), 3) := by decide +kernel
theorem dX6_digest_132 : decode cX6_digest 132 = .ok (.lload_n 1, 1) := by decide +kernel
theorem dX6_digest_133 : decode cX6_digest 133 = .ok (.lreturn, 1) := by decide +kernel
set_option maxRecDepth 20000 in
theorem ggX6_digestOfPlayer_X6_reckonTwice : GoodIn wsX6_digestOfPlayer wsX6_reckonTwice := goodIn_r _ [9, 2, 10, 11, 12, 13, 14, 15, 16, 17, 18, 19, 20, 21, 22, 8, 23, 4, 24, 25, 26, 27, 28, 29, 30, 31, 32, 33, 34, 35, 36, 37, 38, 39, 40, 41, 42, 43, 44, 45, 46, 47, 48, 49, 50, 51, 52, 53, 54, 55, 56, 57, 58, 59, 60, 61, 62, 63, 64, 65, 66, 67, 68, 69, 70, 71, 72, 73, 74, 75, 76, 77, 78, 79, 80, 81, 82, 83, 84, 146, 147, 148, 149, 150, 151, 152, 153, 154, 155, 158, 159, 160, 161, 162, 163, 164, 165, 156, 157, 166, 167, 168, 169, 170, 171] (by decide +kernel) (by decide +kernel)
set_option maxRecDepth 20000 in
theorem gX6_digestOfPlayer_X6_reckonTwice : GoodIn wsX6_digestOfPlayer (wsV RX6 157 RX6 yX6_reckonTwice wsX6_reckonTwice) := goodIn_app (goodIn_of _ (by decide +kernel)) ggX6_digestOfPlayer_X6_reckonTwice
set_option maxRecDepth 20000 in
theorem ggX6_digestOfPlayer_X0_all : GoodIn wsX6_digestOfPlayer wsX0_all := goodIn_r _ [32, 33, 166, 167, 168, 169, 170] (by decide +kernel) (by decide +kernel)
set_option maxRecDepth 20000 in
theorem gX6_digestOfPlayer_X0_all : GoodIn wsX6_digestOfPlayer (wsV RX6 86 RX0 yX0_all wsX0_all) := goodIn_app (goodIn_of _ (by decide +kernel)) ggX6_digestOfPlayer_X0_all
set_option maxRecDepth 20000 in
theorem ggX6_digestOfPlayer_X2_findAll : GoodIn wsX6_digestOfPlayer wsX2_findAll := goodIn_r _ [90, 91, 92, 93, 94, 89, 95, 96, 97, 98, 99, 100, 101, 102, 103, 104, 43, 105, 45, 106, 41, 42, 44, 51, 8, 52, 107, 108, 109, 110, 111, 112, 113, 114, 172, 173, 174, 175, 166, 167, 168, 169, 170, 171] (by decide +kernel) (by decide +kernel)
set_option maxRecDepth 20000 in
theorem gX6_digestOfPlayer_X2_findAll : GoodIn wsX6_digestOfPlayer (wsV RX6 167 RX2 yX2_findAll wsX2_findAll) := goodIn_app (goodIn_of _ (by decide +kernel)) ggX6_digestOfPlayer_X2_findAll
set_option maxRecDepth 20000 in
theorem ggX6_digestOfPlayer_X2_fact : GoodIn wsX6_digestOfPlayer wsX2_fact := goodIn_r _ [118, 91, 92, 101, 107, 41, 42, 43, 44, 45, 172, 173, 174, 175, 171] (by decide +kernel) (by decide +kernel)
set_option maxRecDepth 20000 in
theorem gX6_digestOfPlayer_X2_fact : GoodIn wsX6_digestOfPlayer (wsV RX6 171 RX2 yX2_fact wsX2_fact) := goodIn_app (goodIn_of _ (by decide +kernel)) ggX6_digestOfPlayer_X2_fact
set_option maxRecDepth 20000 in
theorem ggX6_digestOfPlayer_X6_possibleRules : GoodIn wsX6_digestOfPlayer wsX6_possibleRules := goodIn_r _ [122, 123, 124, 125, 126, 8, 127, 4, 10, 85, 30, 31, 27, 32, 33, 11, 12, 13, 14, 15, 16, 17, 18, 19, 20, 61, 41, 42, 43, 44, 45, 24, 25, 26, 28, 29, 34, 35, 36, 37, 38, 39, 40, 50, 51, 52, 128, 129, 130, 131, 132, 133, 134, 135, 136, 80, 81, 82, 83, 84, 146, 147, 148, 149, 150, 151, 152, 153, 154, 155, 156, 157, 158, 159, 160, 161, 162, 163, 164, 165, 166, 167, 168, 169, 170, 171] (by decide +kernel) (by decide +kernel)
set_option maxRecDepth 20000 in
theorem gX6_digestOfPlayer_X6_possibleRules : GoodIn wsX6_digestOfPlayer (wsV RX6 183 RX6 yX6_possibleRules wsX6_possibleRules) := goodIn_app (goodIn_of _ (by decide +kernel)) ggX6_digestOfPlayer_X6_possibleRules
set_option maxRecDepth 20000 in
theorem ggX6_digestOfPlayer_X6_likeliestRule : GoodIn wsX6_digestOfPlayer wsX6_likeliestRule := goodIn_r _ [140, 141, 123, 11, 12, 13, 14, 15, 16, 17, 18, 19, 20, 124, 125, 126, 8, 127, 4, 10, 85, 30, 31, 27, 32, 33, 61, 41, 42, 43, 44, 45, 24, 25, 26, 28, 29, 34, 35, 36, 37, 38, 39, 40, 50, 51, 52, 128, 129, 130, 131, 132, 133, 134, 135, 136, 80, 81, 82, 83, 84, 142, 143, 144, 145, 146, 147, 148, 149, 150, 151, 152, 153, 154, 155, 156, 157, 158, 159, 160, 161, 162, 163, 164, 165, 166, 167, 168, 169, 170, 171] (by decide +kernel) (by decide +kernel)
set_option maxRecDepth 20000 in
theorem gX6_digestOfPlayer_X6_likeliestRule : GoodIn wsX6_digestOfPlayer (wsV RX6 186 RX6 yX6_likeliestRule wsX6_likeliestRule) := goodIn_app (goodIn_of _ (by decide +kernel)) ggX6_digestOfPlayer_X6_likeliestRule
theorem dX6_digestOfPlayer_0 : decode cX6_digestOfPlayer 0 = .ok (.lload_n 1, 1) := by decide +kernel
theorem dX6_digestOfPlayer_1 : decode cX6_digestOfPlayer 1 = .ok (.lstore_n 3, 1) := by decide +kernel
theorem dX6_digestOfPlayer_2 : decode cX6_digestOfPlayer 2 = .ok (.aload_n 0, 1) := by decide +kernel
theorem dX6_digestOfPlayer_3 : decode cX6_digestOfPlayer 3 = .ok (.iconst 2, 1) := by decide +kernel
theorem dX6_digestOfPlayer_4 : decode cX6_digestOfPlayer 4 = .ok (.invokevirtual 157, 3) := by decide +kernel
theorem dX6_digestOfPlayer_7 : decode cX6_digestOfPlayer 7 = .ok (.ldc2_w 207, 3) := by decide +kernel
theorem dX6_digestOfPlayer_10 : decode cX6_digestOfPlayer 10 = .ok (.lload_n 3, 1) := by decide +kernel
theorem dX6_digestOfPlayer_11 : decode cX6_digestOfPlayer 11 = .ok (.lmul, 1) := by decide +kernel
theorem dX6_digestOfPlayer_12 : decode cX6_digestOfPlayer 12 = .ok (.aload_n 0, 1) := by decide +kernel
theorem dX6_digestOfPlayer_13 : decode cX6_digestOfPlayer 13 = .ok (.getfield 36, 3) := by decide +kernel
theorem dX6_digestOfPlayer_16 : decode cX6_digestOfPlayer 16 = .ok (.getfield 160, 3) := by decide +kernel
theorem dX6_digestOfPlayer_19 : decode cX6_digestOfPlayer 19 = .ok (.ladd, 1) := by decide +kernel
theorem dX6_digestOfPlayer_20 : decode cX6_digestOfPlayer 20 = .ok (.lstore_n 3, 1) := by decide +kernel
theorem dX6_digestOfPlayer_21 : decode cX6_digestOfPlayer 21 = .ok (.ldc2_w 207, 3) := by decide +kernel
theorem dX6_digestOfPlayer_24 : decode cX6_digestOfPlayer 24 = .ok (.lload_n 3, 1) := by decide +kernel
theorem dX6_digestOfPlayer_25 : decode cX6_digestOfPlayer 25 = .ok (.lmul, 1) := by decide +kernel
theorem dX6_digestOfPlayer_26 : decode cX6_digestOfPlayer 26 = .ok (.aload_n 0, 1) := by decide +kernel
theorem dX6_digestOfPlayer_27 : decode cX6_digestOfPlayer 27 = .ok (.getfield 36, 3) := by decide +kernel
theorem dX6_digestOfPlayer_30 : decode cX6_digestOfPlayer 30 = .ok (.getfield 164, 3) := by decide +kernel
theorem dX6_digestOfPlayer_33 : decode cX6_digestOfPlayer 33 = .ok (.ladd, 1) := by decide +kernel
theorem dX6_digestOfPlayer_34 : decode cX6_digestOfPlayer 34 = .ok (.lstore_n 3, 1) := by decide +kernel
theorem dX6_digestOfPlayer_35 : decode cX6_digestOfPlayer 35 = .ok (.aload_n 0, 1) := by decide +kernel
theorem dX6_digestOfPlayer_36 : decode cX6_digestOfPlayer 36 = .ok (.getfield 49, 3) := by decide +kernel
theorem dX6_digestOfPlayer_39 : decode cX6_digestOfPlayer 39 = .ok (.aload_n 0, 1) := by decide +kernel
theorem dX6_digestOfPlayer_40 : decode cX6_digestOfPlayer 40 = .ok (.getfield 19, 3) := by decide +kernel
theorem dX6_digestOfPlayer_43 : decode cX6_digestOfPlayer 43 = .ok (.aload_n 0, 1) := by decide +kernel
theorem dX6_digestOfPlayer_44 : decode cX6_digestOfPlayer 44 = .ok (.getfield 19, 3) := by decide +kernel
theorem dX6_digestOfPlayer_47 : decode cX6_digestOfPlayer 47 = .ok (.invokevirtual 86, 3) := by decide +kernel
theorem dX6_digestOfPlayer_50 : decode cX6_digestOfPlayer 50 = .ok (.invokevirtual 167, 3) := by decide +kernel
theorem dX6_digestOfPlayer_53 : decode cX6_digestOfPlayer 53 = .ok (.ldc2_w 207, 3) := by decide +kernel
theorem dX6_digestOfPlayer_56 : decode cX6_digestOfPlayer 56 = .ok (.lload_n 3, 1) := by decide +kernel
theorem dX6_digestOfPlayer_57 : decode cX6_digestOfPlayer 57 = .ok (.lmul, 1) := by decide +kernel
theorem dX6_digestOfPlayer_58 : decode cX6_digestOfPlayer 58 = .ok (.aload_n 0, 1) := by decide +kernel
theorem dX6_digestOfPlayer_59 : decode cX6_digestOfPlayer 59 = .ok (.getfield 49, 3) := by decide +kernel
theorem dX6_digestOfPlayer_62 : decode cX6_digestOfPlayer 62 = .ok (.iconst 0, 1) := by decide +kernel
theorem dX6_digestOfPlayer_63 : decode cX6_digestOfPlayer 63 = .ok (.invokevirtual 171, 3) := by decide +kernel
theorem dX6_digestOfPlayer_66 : decode cX6_digestOfPlayer 66 = .ok (.i2l, 1) := by decide +kernel
theorem dX6_digestOfPlayer_67 : decode cX6_digestOfPlayer 67 = .ok (.ladd, 1) := by decide +kernel
theorem dX6_digestOfPlayer_68 : decode cX6_digestOfPlayer 68 = .ok (.lstore_n 3, 1) := by decide +kernel
theorem dX6_digestOfPlayer_69 : decode cX6_digestOfPlayer 69 = .ok (.iconst 0, 1) := by decide +kernel
theorem dX6_digestOfPlayer_70 : decode cX6_digestOfPlayer 70 = .ok (.istore 5, 2) := by decide +kernel
theorem dX6_digestOfPlayer_72 : decode cX6_digestOfPlayer 72 = .ok (.iload 5, 2) := by decide +kernel
theorem dX6_digestOfPlayer_74 : decode cX6_digestOfPlayer 74 = .ok (.bipush 6, 2) := by decide +kernel
theorem dX6_digestOfPlayer_76 : decode cX6_digestOfPlayer 76 = .ok (.if_icmp .ge 29, 3) := by decide +kernel
theorem dX6_digestOfPlayer_79 : decode cX6_digestOfPlayer 79 = .ok (.ldc2_w 207, 3) := by decide +kernel
theorem dX6_digestOfPlayer_82 : decode cX6_digestOfPlayer 82 = .ok (.lload_n 3, 1) := by decide +kernel
theorem dX6_digestOfPlayer_83 : decode cX6_digestOfPlayer 83 = .ok (.lmul, 1) := by decide +kernel
theorem dX6_digestOfPlayer_84 : decode cX6_digestOfPlayer 84 = .ok (.aload_n 0, 1) := by decide +kernel
theorem dX6_digestOfPlayer_85 : decode cX6_digestOfPlayer 85 = .ok (.getfield 49, 3) := by decide +kernel
theorem dX6_digestOfPlayer_88 : decode cX6_digestOfPlayer 88 = .ok (.bipush 10, 2) := by decide +kernel
theorem dX6_digestOfPlayer_90 : decode cX6_digestOfPlayer 90 = .ok (.iload 5, 2) := by decide +kernel
theorem dX6_digestOfPlayer_92 : decode cX6_digestOfPlayer 92 = .ok (.iadd, 1) := by decide +kernel
theorem dX6_digestOfPlayer_93 : decode cX6_digestOfPlayer 93 = .ok (.invokevirtual 171, 3) := by decide +kernel
theorem dX6_digestOfPlayer_96 : decode cX6_digestOfPlayer 96 = .ok (.i2l, 1) := by decide +kernel
theorem dX6_digestOfPlayer_97 : decode cX6_digestOfPlayer 97 = .ok (.ladd, 1) := by decide +kernel
theorem dX6_digestOfPlayer_98 : decode cX6_digestOfPlayer 98 = .ok (.lstore_n 3, 1) := by decide +kernel
theorem dX6_digestOfPlayer_99 : decode cX6_digestOfPlayer 99 = .ok (.iinc 5 1, 3) := by decide +kernel
theorem dX6_digestOfPlayer_102 : decode cX6_digestOfPlayer 102 = .ok (.goto (-30), 3) := by decide +kernel
theorem dX6_digestOfPlayer_105 : decode cX6_digestOfPlayer 105 = .ok (.ldc2_w 207, 3) := by decide +kernel
theorem dX6_digestOfPlayer_108 : decode cX6_digestOfPlayer 108 = .ok (.lload_n 3, 1) := by decide +kernel
theorem dX6_digestOfPlayer_109 : decode cX6_digestOfPlayer 109 = .ok (.lmul, 1) := by decide +kernel
theorem dX6_digestOfPlayer_110 : decode cX6_digestOfPlayer 110 = .ok (.aload_n 0, 1) := by decide +kernel
theorem dX6_digestOfPlayer_111 : decode cX6_digestOfPlayer 111 = .ok (.invokevirtual 183, 3) := by decide +kernel
theorem dX6_digestOfPlayer_114 : decode cX6_digestOfPlayer 114 = .ok (.i2l, 1) := by decide +kernel
theorem dX6_digestOfPlayer_115 : decode cX6_digestOfPlayer 115 = .ok (.ladd, 1) := by decide +kernel
theorem dX6_digestOfPlayer_116 : decode cX6_digestOfPlayer 116 = .ok (.lstore_n 3, 1) := by decide +kernel
theorem dX6_digestOfPlayer_117 : decode cX6_digestOfPlayer 117 = .ok (.ldc2_w 207, 3) := by decide +kernel
theorem dX6_digestOfPlayer_120 : decode cX6_digestOfPlayer 120 = .ok (.lload_n 3, 1) := by decide +kernel
theorem dX6_digestOfPlayer_121 : decode cX6_digestOfPlayer 121 = .ok (.lmul, 1) := by decide +kernel
theorem dX6_digestOfPlayer_122 : decode cX6_digestOfPlayer 122 = .ok (.aload_n 0, 1) := by decide +kernel
theorem dX6_digestOfPlayer_123 : decode cX6_digestOfPlayer 123 = .ok (.invokevirtual 186, 3) := by decide +kernel
theorem dX6_digestOfPlayer_126 : decode cX6_digestOfPlayer 126 = .ok (.i2l, 1) := by decide +kernel
theorem dX6_digestOfPlayer_127 : decode cX6_digestOfPlayer 127 = .ok (.ladd, 1) := by decide +kernel
theorem dX6_digestOfPlayer_128 : decode cX6_digestOfPlayer 128 = .ok (.lreturn, 1) := by decide +kernel
end
section
theorem dX6_noPlayer_0 : decode cX6_noPlayer 0 = .ok (.aload_n 0, 1) := by decide +kernel
theorem dX6_noPlayer_1 : decode cX6_noPlayer 1 = .ok (.getfield 19, 3) := by decide +kernel
theorem dX6_noPlayer_4 : decode cX6_noPlayer 4 = .ok (.getfield 93, 3) := by decide +kernel
theorem dX6_noPlayer_7 : decode cX6_noPlayer 7 = .ok (.ifCond .ne 7, 3) := by decide +kernel
theorem dX6_noPlayer_10 : decode cX6_noPlayer 10 = .ok (.iconst 1, 1) := by decide +kernel
theorem dX6_noPlayer_11 : decode cX6_noPlayer 11 = .ok (.goto 4, 3) := by decide +kernel
theorem dX6_noPlayer_14 : decode cX6_noPlayer 14 = .ok (.iconst 0, 1) := by decide +kernel
theorem dX6_noPlayer_15 : decode cX6_noPlayer 15 = .ok (.ireturn, 1) := by decide +kernel
set_option maxRecDepth 20000 in
theorem ggX6_mayNow_X0_mayCome : GoodIn wsX6_mayNow wsX0_mayCome := goodIn_r _ [7, 8, 9, 10, 6, 11, 12, 13, 14, 15, 16, 17, 18, 19, 20, 21, 22, 23, 24, 43, 44, 45, 46, 47, 48] (by decide +kernel) (by decide +kernel)
set_option maxRecDepth 20000 in
theorem gX6_mayNow_X0_mayCome : GoodIn wsX6_mayNow (wsV RX6 222 RX0 yX0_mayCome wsX0_mayCome) := goodIn_app (goodIn_of _ (by decide +kernel)) ggX6_mayNow_X0_mayCome
theorem dX6_mayNow_0 : decode cX6_mayNow 0 = .ok (.aload_n 0, 1) := by decide +kernel
theorem dX6_mayNow_1 : decode cX6_mayNow 1 = .ok (.getfield 19, 3) := by decide +kernel
theorem dX6_mayNow_4 : decode cX6_mayNow 4 = .ok (.aload_n 0, 1) := by decide +kernel
theorem dX6_mayNow_5 : decode cX6_mayNow 5 = .ok (.getfield 26, 3) := by decide +kernel
theorem dX6_mayNow_8 : decode cX6_mayNow 8 = .ok (.getfield 111, 3) := by decide +kernel
theorem dX6_mayNow_11 : decode cX6_mayNow 11 = .ok (.aload_n 0, 1) := by decide +kernel
theorem dX6_mayNow_12 : decode cX6_mayNow 12 = .ok (.getfield 26, 3) := by decide +kernel
theorem dX6_mayNow_15 : decode cX6_mayNow 15 = .ok (.getfield 120, 3) := by decide +kernel
theorem dX6_mayNow_18 : decode cX6_mayNow 18 = .ok (.aload_n 0, 1) := by decide +kernel
theorem dX6_mayNow_19 : decode cX6_mayNow 19 = .ok (.getfield 26, 3) := by decide +kernel
theorem dX6_mayNow_22 : decode cX6_mayNow 22 = .ok (.getfield 126, 3) := by decide +kernel
theorem dX6_mayNow_25 : decode cX6_mayNow 25 = .ok (.invokevirtual 222, 3) := by decide +kernel
theorem dX6_mayNow_28 : decode cX6_mayNow 28 = .ok (.ireturn, 1) := by decide +kernel
set_option maxRecDepth 20000 in
theorem ggX6_songFact_X5_at : GoodIn wsX6_songFact wsX5_at := goodIn_r _ [7, 8, 100] (by decide +kernel) (by decide +kernel)
set_option maxRecDepth 20000 in
theorem gX6_songFact_X5_at : GoodIn wsX6_songFact (wsV RX6 216 RX5 yX5_at wsX5_at) := goodIn_app (goodIn_of _ (by decide +kernel)) ggX6_songFact_X5_at
set_option maxRecDepth 20000 in
theorem ggX6_songFact_X6_weight : GoodIn wsX6_songFact wsX6_weight := goodIn_r _ [13, 1, 2, 14, 15, 16, 17, 3, 4, 5, 6, 7, 8, 75, 76, 77, 78, 79, 80, 81, 82, 83, 84, 85, 86, 87, 88, 89, 90, 91, 92, 93, 94, 95, 96, 97, 100] (by decide +kernel) (by decide +kernel)
set_option maxRecDepth 20000 in
theorem gX6_songFact_X6_weight : GoodIn wsX6_songFact (wsV RX6 150 RX6 yX6_weight wsX6_weight) := goodIn_app (goodIn_of _ (by decide +kernel)) ggX6_songFact_X6_weight
set_option maxRecDepth 20000 in
theorem ggX6_songFact_X6_holds : GoodIn wsX6_songFact wsX6_holds := goodIn_r _ [20] (by decide +kernel) (by decide +kernel)
set_option maxRecDepth 20000 in
theorem gX6_songFact_X6_holds : GoodIn wsX6_songFact (va_wsS RX6 117 yX6_holds wsX6_holds) := goodIn_app (goodIn_of _ (by decide +kernel)) ggX6_songFact_X6_holds
set_option maxRecDepth 20000 in
theorem ggX6_songFact_X6_mayNow : GoodIn wsX6_songFact wsX6_mayNow := goodIn_r _ [24, 1, 2, 25, 26, 27, 28, 29, 30, 31, 32, 33, 34, 35, 36, 37, 38, 39, 40, 41, 4, 5, 6, 7, 8, 75, 76, 77, 78, 79, 80, 81, 82, 83, 84, 90, 91, 92, 93, 94, 95, 96, 97, 85, 86, 87, 88, 89, 100] (by decide +kernel) (by decide +kernel)
set_option maxRecDepth 20000 in
theorem gX6_songFact_X6_mayNow : GoodIn wsX6_songFact (wsV RX6 114 RX6 yX6_mayNow wsX6_mayNow) := goodIn_app (goodIn_of _ (by decide +kernel)) ggX6_songFact_X6_mayNow
set_option maxRecDepth 20000 in
theorem ggX6_songFact_X6_chanceNow : GoodIn wsX6_songFact wsX6_chanceNow := goodIn_r _ [45, 46, 21, 22, 23, 12, 24, 1, 2, 25, 26, 27, 28, 29, 30, 31, 32, 33, 34, 35, 36, 37, 38, 39, 40, 41, 4, 5, 6, 7, 8, 47, 48, 49, 50, 18, 19, 20, 9, 10, 11, 13, 14, 15, 16, 17, 3, 51, 52, 53, 54, 55, 56, 57, 58, 59, 60, 61, 62, 63, 64, 65, 66, 67, 68, 69, 70, 71, 72, 73, 74, 75, 76, 77, 78, 79, 80, 81, 82, 83, 84, 90, 91, 92, 93, 94, 95, 96, 97, 85, 86, 87, 88, 89, 100, 98, 99] (by decide +kernel) (by decide +kernel)
set_option maxRecDepth 20000 in
theorem gX6_songFact_X6_chanceNow : GoodIn wsX6_songFact (wsV RX6 234 RX6 yX6_chanceNow wsX6_chanceNow) := goodIn_app (goodIn_of _ (by decide +kernel)) ggX6_songFact_X6_chanceNow
theorem dX6_songFact_0 : decode cX6_songFact 0 = .ok (.iload_n 2, 1) := by decide +kernel
theorem dX6_songFact_1 : decode cX6_songFact 1 = .ok (.tableswitch 164 0 8 #[51, 63, 75, 81, 93, 105, 117, 137, 154], 51) := by decide +kernel
theorem dX6_songFact_52 : decode cX6_songFact 52 = .ok (.aload_n 0, 1) := by decide +kernel
theorem dX6_songFact_53 : decode cX6_songFact 53 = .ok (.getfield 19, 3) := by decide +kernel
theorem dX6_songFact_56 : decode cX6_songFact 56 = .ok (.getfield 225, 3) := by decide +kernel
theorem dX6_songFact_59 : decode cX6_songFact 59 = .ok (.iload_n 1, 1) := by decide +kernel
theorem dX6_songFact_60 : decode cX6_songFact 60 = .ok (.invokevirtual 216, 3) := by decide +kernel
theorem dX6_songFact_63 : decode cX6_songFact 63 = .ok (.ireturn, 1) := by decide +kernel
theorem dX6_songFact_64 : decode cX6_songFact 64 = .ok (.aload_n 0, 1) := by decide +kernel
theorem dX6_songFact_65 : decode cX6_songFact 65 = .ok (.getfield 19, 3) := by decide +kernel
theorem dX6_songFact_68 : decode cX6_songFact 68 = .ok (.getfield 228, 3) := by decide +kernel
theorem dX6_songFact_71 : decode cX6_songFact 71 = .ok (.iload_n 1, 1) := by decide +kernel
theorem dX6_songFact_72 : decode cX6_songFact 72 = .ok (.invokevirtual 216, 3) := by decide +kernel
theorem dX6_songFact_75 : decode cX6_songFact 75 = .ok (.ireturn, 1) := by decide +kernel
theorem dX6_songFact_76 : decode cX6_songFact 76 = .ok (.aload_n 0, 1) := by decide +kernel
theorem dX6_songFact_77 : decode cX6_songFact 77 = .ok (.iload_n 1, 1) := by decide +kernel
theorem dX6_songFact_78 : decode cX6_songFact 78 = .ok (.invokevirtual 150, 3) := by decide +kernel
theorem dX6_songFact_81 : decode cX6_songFact 81 = .ok (.ireturn, 1) := by decide +kernel
theorem dX6_songFact_82 : decode cX6_songFact 82 = .ok (.aload_n 0, 1) := by decide +kernel
theorem dX6_songFact_83 : decode cX6_songFact 83 = .ok (.getfield 19, 3) := by decide +kernel
theorem dX6_songFact_86 : decode cX6_songFact 86 = .ok (.getfield 231, 3) := by decide +kernel
theorem dX6_songFact_89 : decode cX6_songFact 89 = .ok (.iload_n 1, 1) := by decide +kernel
theorem dX6_songFact_90 : decode cX6_songFact 90 = .ok (.invokevirtual 216, 3) := by decide +kernel
theorem dX6_songFact_93 : decode cX6_songFact 93 = .ok (.ireturn, 1) := by decide +kernel
theorem dX6_songFact_94 : decode cX6_songFact 94 = .ok (.aload_n 0, 1) := by decide +kernel
theorem dX6_songFact_95 : decode cX6_songFact 95 = .ok (.getfield 26, 3) := by decide +kernel
theorem dX6_songFact_98 : decode cX6_songFact 98 = .ok (.getfield 132, 3) := by decide +kernel
theorem dX6_songFact_101 : decode cX6_songFact 101 = .ok (.iload_n 1, 1) := by decide +kernel
theorem dX6_songFact_102 : decode cX6_songFact 102 = .ok (.invokevirtual 216, 3) := by decide +kernel
theorem dX6_songFact_105 : decode cX6_songFact 105 = .ok (.ireturn, 1) := by decide +kernel
theorem dX6_songFact_106 : decode cX6_songFact 106 = .ok (.aload_n 0, 1) := by decide +kernel
theorem dX6_songFact_107 : decode cX6_songFact 107 = .ok (.getfield 26, 3) := by decide +kernel
theorem dX6_songFact_110 : decode cX6_songFact 110 = .ok (.getfield 147, 3) := by decide +kernel
theorem dX6_songFact_113 : decode cX6_songFact 113 = .ok (.iload_n 1, 1) := by decide +kernel
theorem dX6_songFact_114 : decode cX6_songFact 114 = .ok (.invokevirtual 216, 3) := by decide +kernel
theorem dX6_songFact_117 : decode cX6_songFact 117 = .ok (.ireturn, 1) := by decide +kernel
theorem dX6_songFact_118 : decode cX6_songFact 118 = .ok (.aload_n 0, 1) := by decide +kernel
theorem dX6_songFact_119 : decode cX6_songFact 119 = .ok (.getfield 26, 3) := by decide +kernel
theorem dX6_songFact_122 : decode cX6_songFact 122 = .ok (.getfield 120, 3) := by decide +kernel
theorem dX6_songFact_125 : decode cX6_songFact 125 = .ok (.iload_n 1, 1) := by decide +kernel
theorem dX6_songFact_126 : decode cX6_songFact 126 = .ok (.invokestatic 117, 3) := by decide +kernel
theorem dX6_songFact_129 : decode cX6_songFact 129 = .ok (.ifCond .eq 7, 3) := by decide +kernel
theorem dX6_songFact_132 : decode cX6_songFact 132 = .ok (.iconst 1, 1) := by decide +kernel
theorem dX6_songFact_133 : decode cX6_songFact 133 = .ok (.goto 4, 3) := by decide +kernel
theorem dX6_songFact_136 : decode cX6_songFact 136 = .ok (.iconst 0, 1) := by decide +kernel
theorem dX6_songFact_137 : decode cX6_songFact 137 = .ok (.ireturn, 1) := by decide +kernel
theorem dX6_songFact_138 : decode cX6_songFact 138 = .ok (.aload_n 0, 1) := by decide +kernel
theorem dX6_songFact_139 : decode cX6_songFact 139 = .ok (.invokevirtual 114, 3) := by decide +kernel
theorem dX6_songFact_142 : decode cX6_songFact 142 = .ok (.iload_n 1, 1) := by decide +kernel
theorem dX6_songFact_143 : decode cX6_songFact 143 = .ok (.invokestatic 117, 3) := by decide +kernel
theorem dX6_songFact_146 : decode cX6_songFact 146 = .ok (.ifCond .eq 7, 3) := by decide +kernel
theorem dX6_songFact_149 : decode cX6_songFact 149 = .ok (.iconst 1, 1) := by decide +kernel
theorem dX6_songFact_150 : decode cX6_songFact 150 = .ok (.goto 4, 3) := by decide +kernel
theorem dX6_songFact_153 : decode cX6_songFact 153 = .ok (.iconst 0, 1) := by decide +kernel
theorem dX6_songFact_154 : decode cX6_songFact 154 = .ok (.ireturn, 1) := by decide +kernel
theorem dX6_songFact_155 : decode cX6_songFact 155 = .ok (.aload_n 0, 1) := by decide +kernel
theorem dX6_songFact_156 : decode cX6_songFact 156 = .ok (.iload_n 1, 1) := by decide +kernel
theorem dX6_songFact_157 : decode cX6_songFact 157 = .ok (.invokevirtual 234, 3) := by decide +kernel
theorem dX6_songFact_160 : decode cX6_songFact 160 = .ok (.getfield 160, 3) := by decide +kernel
theorem dX6_songFact_163 : decode cX6_songFact 163 = .ok (.l2i, 1) := by decide +kernel
theorem dX6_songFact_164 : decode cX6_songFact 164 = .ok (.ireturn, 1) := by decide +kernel
theorem dX6_songFact_165 : decode cX6_songFact 165 = .ok (.aload_n 0, 1) := by decide +kernel
theorem dX6_songFact_166 : decode cX6_songFact 166 = .ok (.iload_n 1, 1) := by decide +kernel
theorem dX6_songFact_167 : decode cX6_songFact 167 = .ok (.invokevirtual 234, 3) := by decide +kernel
theorem dX6_songFact_170 : decode cX6_songFact 170 = .ok (.getfield 164, 3) := by decide +kernel
theorem dX6_songFact_173 : decode cX6_songFact 173 = .ok (.l2i, 1) := by decide +kernel
theorem dX6_songFact_174 : decode cX6_songFact 174 = .ok (.ireturn, 1) := by decide +kernel
set_option maxRecDepth 20000 in
theorem ggX6_chanceNow_X6_mayNow : GoodIn wsX6_chanceNow wsX6_mayNow := goodIn_r _ [6, 7, 8, 9, 10, 11, 12, 13, 14, 15, 16, 17, 18, 19, 20, 21, 22, 23, 24, 25, 26, 27, 28, 29, 30, 71, 72, 73, 74, 75, 76, 77, 78, 79, 80, 81, 82, 83, 84, 85, 86, 87, 88, 89, 90, 91, 92, 93, 94] (by decide +kernel) (by decide +kernel)
set_option maxRecDepth 20000 in
theorem gX6_chanceNow_X6_mayNow : GoodIn wsX6_chanceNow (wsV RX6 114 RX6 yX6_mayNow wsX6_mayNow) := goodIn_app (goodIn_of _ (by decide +kernel)) ggX6_chanceNow_X6_mayNow
set_option maxRecDepth 20000 in
theorem ggX6_chanceNow_X6_weightTogether : GoodIn wsX6_chanceNow wsX6_weightTogether := goodIn_r _ [34, 7, 35, 36, 5, 37, 38, 39, 40, 41, 8, 42, 43, 44, 45, 46, 26, 27, 28, 29, 30, 71, 72, 73, 74, 75, 76, 77, 78, 79, 80, 89, 90, 91, 92, 93, 81, 82, 83, 84, 85, 86, 87, 88, 94] (by decide +kernel) (by decide +kernel)
set_option maxRecDepth 20000 in
theorem gX6_chanceNow_X6_weightTogether : GoodIn wsX6_chanceNow (wsV RX6 238 RX6 yX6_weightTogether wsX6_weightTogether) := goodIn_app (goodIn_of _ (by decide +kernel)) ggX6_chanceNow_X6_weightTogether
set_option maxRecDepth 20000 in
theorem ggX6_chanceNow_X6_share : GoodIn wsX6_chanceNow wsX6_share := goodIn_r _ [50, 35, 36, 5, 37, 38, 39, 40, 41, 7, 8, 42, 43, 44, 45, 46, 26, 27, 28, 29, 30, 71, 72, 73, 74, 75, 76, 77, 78, 79, 80, 89, 90, 91, 92, 93, 81, 82, 83, 84, 85, 86, 87, 88, 94] (by decide +kernel) (by decide +kernel)
set_option maxRecDepth 20000 in
theorem gX6_chanceNow_X6_share : GoodIn wsX6_chanceNow (wsV RX6 241 RX6 yX6_share wsX6_share) := goodIn_app (goodIn_of _ (by decide +kernel)) ggX6_chanceNow_X6_share
set_option maxRecDepth 20000 in
theorem ggX6_chanceNow_X6_allShares : GoodIn wsX6_chanceNow wsX6_allShares := goodIn_r _ [53, 54, 55, 56, 57, 58, 59, 60] (by decide +kernel) (by decide +kernel)
set_option maxRecDepth 20000 in
theorem gX6_chanceNow_X6_allShares : GoodIn wsX6_chanceNow (va_wsS RX6 244 yX6_allShares wsX6_allShares) := goodIn_app (goodIn_of _ (by decide +kernel)) ggX6_chanceNow_X6_allShares
set_option maxRecDepth 20000 in
theorem ggX6_chanceNow_X1_become : GoodIn wsX6_chanceNow wsX1_become := goodIn_r _ [65, 66, 67, 68, 69, 64, 70, 95, 96] (by decide +kernel) (by decide +kernel)
set_option maxRecDepth 20000 in
theorem gX6_chanceNow_X1_become : GoodIn wsX6_chanceNow (wsV RX6 247 RX1 yX1_become wsX1_become) := goodIn_app (goodIn_of _ (by decide +kernel)) ggX6_chanceNow_X1_become
theorem dX6_chanceNow_0 : decode cX6_chanceNow 0 = .ok (.aload_n 0, 1) := by decide +kernel
theorem dX6_chanceNow_1 : decode cX6_chanceNow 1 = .ok (.invokevirtual 114, 3) := by decide +kernel
theorem dX6_chanceNow_4 : decode cX6_chanceNow 4 = .ok (.istore_n 2, 1) := by decide +kernel
theorem dX6_chanceNow_5 : decode cX6_chanceNow 5 = .ok (.aload_n 0, 1) := by decide +kernel
theorem dX6_chanceNow_6 : decode cX6_chanceNow 6 = .ok (.iload_n 2, 1) := by decide +kernel
theorem dX6_chanceNow_7 : decode cX6_chanceNow 7 = .ok (.invokevirtual 238, 3) := by decide +kernel
theorem dX6_chanceNow_10 : decode cX6_chanceNow 10 = .ok (.istore_n 3, 1) := by decide +kernel
theorem dX6_chanceNow_11 : decode cX6_chanceNow 11 = .ok (.aload_n 0, 1) := by decide +kernel
theorem dX6_chanceNow_12 : decode cX6_chanceNow 12 = .ok (.getfield 40, 3) := by decide +kernel
theorem dX6_chanceNow_15 : decode cX6_chanceNow 15 = .ok (.aload_n 0, 1) := by decide +kernel
theorem dX6_chanceNow_16 : decode cX6_chanceNow 16 = .ok (.iload_n 1, 1) := by decide +kernel
theorem dX6_chanceNow_17 : decode cX6_chanceNow 17 = .ok (.iload_n 2, 1) := by decide +kernel
theorem dX6_chanceNow_18 : decode cX6_chanceNow 18 = .ok (.iload_n 3, 1) := by decide +kernel
theorem dX6_chanceNow_19 : decode cX6_chanceNow 19 = .ok (.invokevirtual 241, 3) := by decide +kernel
theorem dX6_chanceNow_22 : decode cX6_chanceNow 22 = .ok (.i2l, 1) := by decide +kernel
theorem dX6_chanceNow_23 : decode cX6_chanceNow 23 = .ok (.iload_n 2, 1) := by decide +kernel
theorem dX6_chanceNow_24 : decode cX6_chanceNow 24 = .ok (.iload_n 3, 1) := by decide +kernel
theorem dX6_chanceNow_25 : decode cX6_chanceNow 25 = .ok (.invokestatic 244, 3) := by decide +kernel
theorem dX6_chanceNow_28 : decode cX6_chanceNow 28 = .ok (.i2l, 1) := by decide +kernel
theorem dX6_chanceNow_29 : decode cX6_chanceNow 29 = .ok (.invokevirtual 247, 3) := by decide +kernel
theorem dX6_chanceNow_32 : decode cX6_chanceNow 32 = .ok (.aload_n 0, 1) := by decide +kernel
theorem dX6_chanceNow_33 : decode cX6_chanceNow 33 = .ok (.getfield 40, 3) := by decide +kernel
theorem dX6_chanceNow_36 : decode cX6_chanceNow 36 = .ok (.areturn, 1) := by decide +kernel
set_option maxRecDepth 20000 in
theorem ggX6_minutesPlayed_X5_at : GoodIn wsX6_minutesPlayed wsX5_at := goodIn_r _ [7, 8, 32] (by decide +kernel) (by decide +kernel)
set_option maxRecDepth 20000 in
theorem gX6_minutesPlayed_X5_at : GoodIn wsX6_minutesPlayed (wsV RX6 216 RX5 yX5_at wsX5_at) := goodIn_app (goodIn_of _ (by decide +kernel)) ggX6_minutesPlayed_X5_at
theorem dX6_minutesPlayed_0 : decode cX6_minutesPlayed 0 = .ok (.iconst 0, 1) := by decide +kernel
theorem dX6_minutesPlayed_1 : decode cX6_minutesPlayed 1 = .ok (.istore_n 1, 1) := by decide +kernel
theorem dX6_minutesPlayed_2 : decode cX6_minutesPlayed 2 = .ok (.iconst 0, 1) := by decide +kernel
theorem dX6_minutesPlayed_3 : decode cX6_minutesPlayed 3 = .ok (.istore_n 2, 1) := by decide +kernel
theorem dX6_minutesPlayed_4 : decode cX6_minutesPlayed 4 = .ok (.iload_n 2, 1) := by decide +kernel
theorem dX6_minutesPlayed_5 : decode cX6_minutesPlayed 5 = .ok (.aload_n 0, 1) := by decide +kernel
theorem dX6_minutesPlayed_6 : decode cX6_minutesPlayed 6 = .ok (.getfield 19, 3) := by decide +kernel
theorem dX6_minutesPlayed_9 : decode cX6_minutesPlayed 9 = .ok (.getfield 93, 3) := by decide +kernel
theorem dX6_minutesPlayed_12 : decode cX6_minutesPlayed 12 = .ok (.if_icmp .ge 35, 3) := by decide +kernel
theorem dX6_minutesPlayed_15 : decode cX6_minutesPlayed 15 = .ok (.iload_n 1, 1) := by decide +kernel
theorem dX6_minutesPlayed_16 : decode cX6_minutesPlayed 16 = .ok (.aload_n 0, 1) := by decide +kernel
theorem dX6_minutesPlayed_17 : decode cX6_minutesPlayed 17 = .ok (.getfield 26, 3) := by decide +kernel
theorem dX6_minutesPlayed_20 : decode cX6_minutesPlayed 20 = .ok (.getfield 132, 3) := by decide +kernel
theorem dX6_minutesPlayed_23 : decode cX6_minutesPlayed 23 = .ok (.iload_n 2, 1) := by decide +kernel
theorem dX6_minutesPlayed_24 : decode cX6_minutesPlayed 24 = .ok (.invokevirtual 216, 3) := by decide +kernel
theorem dX6_minutesPlayed_27 : decode cX6_minutesPlayed 27 = .ok (.aload_n 0, 1) := by decide +kernel
theorem dX6_minutesPlayed_28 : decode cX6_minutesPlayed 28 = .ok (.getfield 19, 3) := by decide +kernel
theorem dX6_minutesPlayed_31 : decode cX6_minutesPlayed 31 = .ok (.getfield 231, 3) := by decide +kernel
theorem dX6_minutesPlayed_34 : decode cX6_minutesPlayed 34 = .ok (.iload_n 2, 1) := by decide +kernel
theorem dX6_minutesPlayed_35 : decode cX6_minutesPlayed 35 = .ok (.invokevirtual 216, 3) := by decide +kernel
theorem dX6_minutesPlayed_38 : decode cX6_minutesPlayed 38 = .ok (.imul, 1) := by decide +kernel
theorem dX6_minutesPlayed_39 : decode cX6_minutesPlayed 39 = .ok (.iadd, 1) := by decide +kernel
theorem dX6_minutesPlayed_40 : decode cX6_minutesPlayed 40 = .ok (.istore_n 1, 1) := by decide +kernel
theorem dX6_minutesPlayed_41 : decode cX6_minutesPlayed 41 = .ok (.iinc 2 1, 3) := by decide +kernel
theorem dX6_minutesPlayed_44 : decode cX6_minutesPlayed 44 = .ok (.goto (-40), 3) := by decide +kernel
theorem dX6_minutesPlayed_47 : decode cX6_minutesPlayed 47 = .ok (.iload_n 1, 1) := by decide +kernel
theorem dX6_minutesPlayed_48 : decode cX6_minutesPlayed 48 = .ok (.ireturn, 1) := by decide +kernel
set_option maxRecDepth 20000 in
theorem ggX6_weight_X5_at : GoodIn wsX6_weight wsX5_at := goodIn_r _ [11, 12, 36] (by decide +kernel) (by decide +kernel)
set_option maxRecDepth 20000 in
theorem gX6_weight_X5_at : GoodIn wsX6_weight (wsV RX6 216 RX5 yX5_at wsX5_at) := goodIn_app (goodIn_of _ (by decide +kernel)) ggX6_weight_X5_at
theorem dX6_weight_0 : decode cX6_weight 0 = .ok (.iconst 0, 1) := by decide +kernel
theorem dX6_weight_1 : decode cX6_weight 1 = .ok (.aload_n 0, 1) := by decide +kernel
theorem dX6_weight_2 : decode cX6_weight 2 = .ok (.getfield 19, 3) := by decide +kernel
theorem dX6_weight_5 : decode cX6_weight 5 = .ok (.getfield 250, 3) := by decide +kernel
theorem dX6_weight_8 : decode cX6_weight 8 = .ok (.iload_n 1, 1) := by decide +kernel
theorem dX6_weight_9 : decode cX6_weight 9 = .ok (.invokevirtual 216, 3) := by decide +kernel
theorem dX6_weight_12 : decode cX6_weight 12 = .ok (.aload_n 0, 1) := by decide +kernel
theorem dX6_weight_13 : decode cX6_weight 13 = .ok (.getfield 26, 3) := by decide +kernel
theorem dX6_weight_16 : decode cX6_weight 16 = .ok (.getfield 147, 3) := by decide +kernel
theorem dX6_weight_19 : decode cX6_weight 19 = .ok (.iload_n 1, 1) := by decide +kernel
theorem dX6_weight_20 : decode cX6_weight 20 = .ok (.invokevirtual 216, 3) := by decide +kernel
theorem dX6_weight_23 : decode cX6_weight 23 = .ok (.isub, 1) := by decide +kernel
theorem dX6_weight_24 : decode cX6_weight 24 = .ok (.invokestatic 253, 3) := by decide +kernel
theorem dX6_weight_27 : decode cX6_weight 27 = .ok (.ireturn, 1) := by decide +kernel
set_option maxRecDepth 20000 in
theorem ggX6_weightTogether_X6_holds : GoodIn wsX6_weightTogether wsX6_holds := goodIn_r _ [5] (by decide +kernel) (by decide +kernel)
set_option maxRecDepth 20000 in
theorem gX6_weightTogether_X6_holds : GoodIn wsX6_weightTogether (va_wsS RX6 117 yX6_holds wsX6_holds) := goodIn_app (goodIn_of _ (by decide +kernel)) ggX6_weightTogether_X6_holds
set_option maxRecDepth 20000 in
theorem ggX6_weightTogether_X6_weight : GoodIn wsX6_weightTogether wsX6_weight := goodIn_r _ [9, 1, 10, 11, 12, 13, 14, 15, 16, 17, 18, 19, 20, 21, 22, 23, 24, 25, 26, 27, 28, 29, 30, 31, 32, 33, 34, 35, 36, 37, 38, 39, 40, 41, 42, 43, 44] (by decide +kernel) (by decide +kernel)
set_option maxRecDepth 20000 in
theorem gX6_weightTogether_X6_weight : GoodIn wsX6_weightTogether (wsV RX6 150 RX6 yX6_weight wsX6_weight) := goodIn_app (goodIn_of _ (by decide +kernel)) ggX6_weightTogether_X6_weight
theorem dX6_weightTogether_0 : decode cX6_weightTogether 0 = .ok (.iconst 0, 1) := by decide +kernel
theorem dX6_weightTogether_1 : decode cX6_weightTogether 1 = .ok (.istore_n 2, 1) := by decide +kernel
theorem dX6_weightTogether_2 : decode cX6_weightTogether 2 = .ok (.iconst 0, 1) := by decide +kernel
theorem dX6_weightTogether_3 : decode cX6_weightTogether 3 = .ok (.istore_n 3, 1) := by decide +kernel
theorem dX6_weightTogether_4 : decode cX6_weightTogether 4 = .ok (.iload_n 3, 1) := by decide +kernel
theorem dX6_weightTogether_5 : decode cX6_weightTogether 5 = .ok (.aload_n 0, 1) := by decide +kernel
theorem dX6_weightTogether_6 : decode cX6_weightTogether 6 = .ok (.getfield 19, 3) := by decide +kernel
theorem dX6_weightTogether_9 : decode cX6_weightTogether 9 = .ok (.getfield 93, 3) := by decide +kernel
theorem dX6_weightTogether_12 : decode cX6_weightTogether 12 = .ok (.if_icmp .ge 29, 3) := by decide +kernel
theorem dX6_weightTogether_15 : decode cX6_weightTogether 15 = .ok (.iload_n 2, 1) := by decide +kernel
theorem dX6_weightTogether_16 : decode cX6_weightTogether 16 = .ok (.iload_n 1, 1) := by decide +kernel
theorem dX6_weightTogether_17 : decode cX6_weightTogether 17 = .ok (.iload_n 3, 1) := by decide +kernel
theorem dX6_weightTogether_18 : decode cX6_weightTogether 18 = .ok (.invokestatic 117, 3) := by decide +kernel
theorem dX6_weightTogether_21 : decode cX6_weightTogether 21 = .ok (.ifCond .eq 11, 3) := by decide +kernel
theorem dX6_weightTogether_24 : decode cX6_weightTogether 24 = .ok (.aload_n 0, 1) := by decide +kernel
theorem dX6_weightTogether_25 : decode cX6_weightTogether 25 = .ok (.iload_n 3, 1) := by decide +kernel
theorem dX6_weightTogether_26 : decode cX6_weightTogether 26 = .ok (.invokevirtual 150, 3) := by decide +kernel
theorem dX6_weightTogether_29 : decode cX6_weightTogether 29 = .ok (.goto 4, 3) := by decide +kernel
theorem dX6_weightTogether_32 : decode cX6_weightTogether 32 = .ok (.iconst 0, 1) := by decide +kernel
theorem dX6_weightTogether_33 : decode cX6_weightTogether 33 = .ok (.iadd, 1) := by decide +kernel
theorem dX6_weightTogether_34 : decode cX6_weightTogether 34 = .ok (.istore_n 2, 1) := by decide +kernel
theorem dX6_weightTogether_35 : decode cX6_weightTogether 35 = .ok (.iinc 3 1, 3) := by decide +kernel
theorem dX6_weightTogether_38 : decode cX6_weightTogether 38 = .ok (.goto (-34), 3) := by decide +kernel
theorem dX6_weightTogether_41 : decode cX6_weightTogether 41 = .ok (.iload_n 2, 1) := by decide +kernel
theorem dX6_weightTogether_42 : decode cX6_weightTogether 42 = .ok (.ireturn, 1) := by decide +kernel
set_option maxRecDepth 20000 in
theorem ggX6_share_X6_holds : GoodIn wsX6_share wsX6_holds := goodIn_r _ [4] (by decide +kernel) (by decide +kernel)
set_option maxRecDepth 20000 in
theorem gX6_share_X6_holds : GoodIn wsX6_share (va_wsS RX6 117 yX6_holds wsX6_holds) := goodIn_app (goodIn_of _ (by decide +kernel)) ggX6_share_X6_holds
set_option maxRecDepth 20000 in
theorem ggX6_share_X6_weight : GoodIn wsX6_share wsX6_weight := goodIn_r _ [8, 9, 10, 11, 12, 13, 14, 15, 16, 17, 18, 19, 20, 21, 22, 23, 24, 25, 26, 27, 28, 29, 30, 31, 32, 33, 34, 35, 36, 37, 38, 39, 40, 41, 42, 43, 44] (by decide +kernel) (by decide +kernel)
set_option maxRecDepth 20000 in
theorem gX6_share_X6_weight : GoodIn wsX6_share (wsV RX6 150 RX6 yX6_weight wsX6_weight) := goodIn_app (goodIn_of _ (by decide +kernel)) ggX6_share_X6_weight
theorem dX6_share_0 : decode cX6_share 0 = .ok (.iload_n 2, 1) := by decide +kernel
theorem dX6_share_1 : decode cX6_share 1 = .ok (.iload_n 1, 1) := by decide +kernel
theorem dX6_share_2 : decode cX6_share 2 = .ok (.invokestatic 117, 3) := by decide +kernel
theorem dX6_share_5 : decode cX6_share 5 = .ok (.ifCond .ne 5, 3) := by decide +kernel
theorem dX6_share_8 : decode cX6_share 8 = .ok (.iconst 0, 1) := by decide +kernel
theorem dX6_share_9 : decode cX6_share 9 = .ok (.ireturn, 1) := by decide +kernel
theorem dX6_share_10 : decode cX6_share 10 = .ok (.iload_n 3, 1) := by decide +kernel
theorem dX6_share_11 : decode cX6_share 11 = .ok (.ifCond .ne 7, 3) := by decide +kernel
theorem dX6_share_14 : decode cX6_share 14 = .ok (.iconst 1, 1) := by decide +kernel
theorem dX6_share_15 : decode cX6_share 15 = .ok (.goto 8, 3) := by decide +kernel
theorem dX6_share_18 : decode cX6_share 18 = .ok (.aload_n 0, 1) := by decide +kernel
theorem dX6_share_19 : decode cX6_share 19 = .ok (.iload_n 1, 1) := by decide +kernel
theorem dX6_share_20 : decode cX6_share 20 = .ok (.invokevirtual 150, 3) := by decide +kernel
theorem dX6_share_23 : decode cX6_share 23 = .ok (.ireturn, 1) := by decide +kernel
set_option maxRecDepth 20000 in
theorem ggX6_allShares_J6_bitCount_0f7a4 : GoodIn wsX6_allShares wsJ6_bitCount_0f7a4 := goodIn_r _ [4, 5, 6, 7] (by decide +kernel) (by decide +kernel)
set_option maxRecDepth 20000 in
theorem gX6_allShares_J6_bitCount_0f7a4 : GoodIn wsX6_allShares (va_wsS RX6 141 yJ6_bitCount_0f7a4 wsJ6_bitCount_0f7a4) := goodIn_app (goodIn_of _ (by decide +kernel)) ggX6_allShares_J6_bitCount_0f7a4
theorem dX6_allShares_0 : decode cX6_allShares 0 = .ok (.iload_n 1, 1) := by decide +kernel
theorem dX6_allShares_1 : decode cX6_allShares 1 = .ok (.ifCond .ne 10, 3) := by decide +kernel
theorem dX6_allShares_4 : decode cX6_allShares 4 = .ok (.iload_n 0, 1) := by decide +kernel
theorem dX6_allShares_5 : decode cX6_allShares 5 = .ok (.invokestatic 141, 3) := by decide +kernel
theorem dX6_allShares_8 : decode cX6_allShares 8 = .ok (.goto 4, 3) := by decide +kernel
theorem dX6_allShares_11 : decode cX6_allShares 11 = .ok (.iload_n 1, 1) := by decide +kernel
theorem dX6_allShares_12 : decode cX6_allShares 12 = .ok (.ireturn, 1) := by decide +kernel
set_option maxRecDepth 20000 in
theorem ggX6_reckonTwice_X1_become : GoodIn wsX6_reckonTwice wsX1_become := goodIn_r _ [7, 8, 9, 10, 11, 6, 12, 97, 98] (by decide +kernel) (by decide +kernel)
set_option maxRecDepth 20000 in
theorem gX6_reckonTwice_X1_become : GoodIn wsX6_reckonTwice (wsV RX6 247 RX1 yX1_become wsX1_become) := goodIn_app (goodIn_of _ (by decide +kernel)) ggX6_reckonTwice_X1_become
set_option maxRecDepth 20000 in
theorem ggX6_reckonTwice_X6_sumTwice : GoodIn wsX6_reckonTwice wsX6_sumTwice := goodIn_r _ [16, 17, 2, 1, 18, 19, 20, 21, 22, 23, 24, 25, 26, 27, 28, 29, 30, 31, 32, 33, 34, 35, 36, 37, 38, 39, 40, 41, 42, 15, 43, 44, 45, 46, 47, 48, 49, 50, 51, 52, 53, 54, 55, 56, 57, 58, 59, 60, 61, 62, 63, 64, 65, 66, 67, 68, 69, 70, 71, 72, 6, 73, 9, 8, 10, 11, 12, 74, 4, 5, 7, 75, 76, 77, 78, 13, 14, 79, 80, 81, 82, 83, 84, 85, 86, 87, 88, 89, 90, 91, 92, 93, 94, 95, 96, 99, 100, 101, 102, 103, 104, 97, 98] (by decide +kernel) (by decide +kernel)
set_option maxRecDepth 20000 in
theorem gX6_reckonTwice_X6_sumTwice : GoodIn wsX6_reckonTwice (va_wsS RX6 258 yX6_sumTwice wsX6_sumTwice) := goodIn_app (goodIn_of _ (by decide +kernel)) ggX6_reckonTwice_X6_sumTwice
theorem dX6_reckonTwice_0 : decode cX6_reckonTwice 0 = .ok (.aload_n 0, 1) := by decide +kernel
theorem dX6_reckonTwice_1 : decode cX6_reckonTwice 1 = .ok (.getfield 36, 3) := by decide +kernel
theorem dX6_reckonTwice_4 : decode cX6_reckonTwice 4 = .ok (.lconst 0, 1) := by decide +kernel
theorem dX6_reckonTwice_5 : decode cX6_reckonTwice 5 = .ok (.lconst 1, 1) := by decide +kernel
theorem dX6_reckonTwice_6 : decode cX6_reckonTwice 6 = .ok (.invokevirtual 247, 3) := by decide +kernel
theorem dX6_reckonTwice_9 : decode cX6_reckonTwice 9 = .ok (.aload_n 0, 1) := by decide +kernel
theorem dX6_reckonTwice_10 : decode cX6_reckonTwice 10 = .ok (.iload_n 1, 1) := by decide +kernel
theorem dX6_reckonTwice_11 : decode cX6_reckonTwice 11 = .ok (.aload_n 0, 1) := by decide +kernel
theorem dX6_reckonTwice_12 : decode cX6_reckonTwice 12 = .ok (.getfield 26, 3) := by decide +kernel
theorem dX6_reckonTwice_15 : decode cX6_reckonTwice 15 = .ok (.getfield 120, 3) := by decide +kernel
theorem dX6_reckonTwice_18 : decode cX6_reckonTwice 18 = .ok (.aload_n 0, 1) := by decide +kernel
theorem dX6_reckonTwice_19 : decode cX6_reckonTwice 19 = .ok (.getfield 26, 3) := by decide +kernel
theorem dX6_reckonTwice_22 : decode cX6_reckonTwice 22 = .ok (.getfield 126, 3) := by decide +kernel
theorem dX6_reckonTwice_25 : decode cX6_reckonTwice 25 = .ok (.iconst 0, 1) := by decide +kernel
theorem dX6_reckonTwice_26 : decode cX6_reckonTwice 26 = .ok (.lconst 1, 1) := by decide +kernel
theorem dX6_reckonTwice_27 : decode cX6_reckonTwice 27 = .ok (.lconst 1, 1) := by decide +kernel
theorem dX6_reckonTwice_28 : decode cX6_reckonTwice 28 = .ok (.invokestatic 258, 3) := by decide +kernel
theorem dX6_reckonTwice_31 : decode cX6_reckonTwice 31 = .ok (.return_, 1) := by decide +kernel
set_option maxRecDepth 20000 in
theorem ggX6_sumTwice_X0_mayCome : GoodIn wsX6_sumTwice wsX0_mayCome := goodIn_r _ [8, 9, 10, 11, 7, 12, 13, 14, 15, 16, 17, 18, 19, 20, 21, 22, 23, 24, 25, 95, 96, 97, 98, 99, 100] (by decide +kernel) (by decide +kernel)
set_option maxRecDepth 20000 in
theorem gX6_sumTwice_X0_mayCome : GoodIn wsX6_sumTwice (wsV RX6 222 RX0 yX0_mayCome wsX0_mayCome) := goodIn_app (goodIn_of _ (by decide +kernel)) ggX6_sumTwice_X0_mayCome
set_option maxRecDepth 20000 in
theorem ggX6_sumTwice_X6_weightTogether : GoodIn wsX6_sumTwice wsX6_weightTogether := goodIn_r _ [30, 1, 31, 32, 29, 33, 34, 35, 36, 37, 2, 38, 39, 40, 41, 42, 21, 22, 23, 24, 25, 77, 78, 79, 80, 81, 82, 83, 84, 85, 86, 95, 96, 97, 98, 99, 87, 88, 89, 90, 91, 92, 93, 94, 100] (by decide +kernel) (by decide +kernel)
set_option maxRecDepth 20000 in
theorem gX6_sumTwice_X6_weightTogether : GoodIn wsX6_sumTwice (wsV RX6 238 RX6 yX6_weightTogether wsX6_weightTogether) := goodIn_app (goodIn_of _ (by decide +kernel)) ggX6_sumTwice_X6_weightTogether
set_option maxRecDepth 20000 in
theorem ggX6_sumTwice_X6_allShares : GoodIn wsX6_sumTwice wsX6_allShares := goodIn_r _ [45, 46, 47, 48, 49, 50, 51, 52] (by decide +kernel) (by decide +kernel)
set_option maxRecDepth 20000 in
theorem gX6_sumTwice_X6_allShares : GoodIn wsX6_sumTwice (va_wsS RX6 244 yX6_allShares wsX6_allShares) := goodIn_app (goodIn_of _ (by decide +kernel)) ggX6_sumTwice_X6_allShares
set_option maxRecDepth 20000 in
theorem ggX6_sumTwice_X6_share : GoodIn wsX6_sumTwice wsX6_share := goodIn_r _ [56, 31, 32, 29, 33, 34, 35, 36, 37, 1, 2, 38, 39, 40, 41, 42, 21, 22, 23, 24, 25, 77, 78, 79, 80, 81, 82, 83, 84, 85, 86, 95, 96, 97, 98, 99, 87, 88, 89, 90, 91, 92, 93, 94, 100] (by decide +kernel) (by decide +kernel)
set_option maxRecDepth 20000 in
theorem gX6_sumTwice_X6_share : GoodIn wsX6_sumTwice (wsV RX6 241 RX6 yX6_share wsX6_share) := goodIn_app (goodIn_of _ (by decide +kernel)) ggX6_sumTwice_X6_share
set_option maxRecDepth 20000 in
theorem ggX6_sumTwice_X6_holds : GoodIn wsX6_sumTwice wsX6_holds := goodIn_r _ [33] (by decide +kernel) (by decide +kernel)
set_option maxRecDepth 20000 in
theorem gX6_sumTwice_X6_holds : GoodIn wsX6_sumTwice (va_wsS RX6 117 yX6_holds wsX6_holds) := goodIn_app (goodIn_of _ (by decide +kernel)) ggX6_sumTwice_X6_holds
set_option maxRecDepth 20000 in
theorem ggX6_sumTwice_X1_add : GoodIn wsX6_sumTwice wsX1_add := goodIn_r _ [61, 62, 63, 64, 65, 60, 66, 67, 68, 69, 70, 101, 102] (by decide +kernel) (by decide +kernel)
set_option maxRecDepth 20000 in
theorem gX6_sumTwice_X1_add : GoodIn wsX6_sumTwice (wsV RX6 262 RX1 yX1_add wsX1_add) := goodIn_app (goodIn_of _ (by decide +kernel)) ggX6_sumTwice_X1_add
set_option maxRecDepth 20000 in
theorem ggX6_sumTwice_X0_bagAfter : GoodIn wsX6_sumTwice wsX0_bagAfter := goodIn_r _ [74, 9, 10, 11, 7, 12, 13, 95, 96, 97, 98, 99] (by decide +kernel) (by decide +kernel)
set_option maxRecDepth 20000 in
theorem gX6_sumTwice_X0_bagAfter : GoodIn wsX6_sumTwice (wsV RX6 123 RX0 yX0_bagAfter wsX0_bagAfter) := goodIn_app (goodIn_of _ (by decide +kernel)) ggX6_sumTwice_X0_bagAfter
set_option maxRecDepth 20000 in
theorem ggX6_sumTwice_X6_sumTwice : GoodIn wsX6_sumTwice wsX6_sumTwice := goodIn_r _ [0, 1, 2, 3, 4, 5, 6, 7, 8, 9, 10, 11, 12, 13, 14, 15, 16, 17, 18, 19, 20, 21, 22, 23, 24, 25, 26, 27, 28, 29, 30, 31, 32, 33, 34, 35, 36, 37, 38, 39, 40, 41, 42, 43, 44, 45, 46, 47, 48, 49, 50, 51, 52, 53, 54, 55, 56, 57, 58, 59, 60, 61, 62, 63, 64, 65, 66, 67, 68, 69, 70, 71, 72, 73, 74, 75, 76, 77, 78, 79, 80, 81, 82, 83, 84, 85, 86, 87, 88, 89, 90, 91, 92, 93, 94, 95, 96, 97, 98, 99, 100, 101, 102] (by decide +kernel) (by decide +kernel)
set_option maxRecDepth 20000 in
theorem gX6_sumTwice_X6_sumTwice : GoodIn wsX6_sumTwice (va_wsS RX6 258 yX6_sumTwice wsX6_sumTwice) := goodIn_app (goodIn_of _ (by decide +kernel)) ggX6_sumTwice_X6_sumTwice
theorem dX6_sumTwice_0 : decode cX6_sumTwice 0 = .ok (.iload_n 1, 1) := by decide +kernel
theorem dX6_sumTwice_1 : decode cX6_sumTwice 1 = .ok (.ifCond .gt 4, 3) := by decide +kernel
theorem dX6_sumTwice_4 : decode cX6_sumTwice 4 = .ok (.return_, 1) := by decide +kernel
theorem dX6_sumTwice_5 : decode cX6_sumTwice 5 = .ok (.aload_n 0, 1) := by decide +kernel
theorem dX6_sumTwice_6 : decode cX6_sumTwice 6 = .ok (.getfield 19, 3) := by decide +kernel
theorem dX6_sumTwice_9 : decode cX6_sumTwice 9 = .ok (.aload_n 0, 1) := by decide +kernel
theorem dX6_sumTwice_10 : decode cX6_sumTwice 10 = .ok (.getfield 26, 3) := by decide +kernel
theorem dX6_sumTwice_13 : decode cX6_sumTwice 13 = .ok (.getfield 111, 3) := by decide +kernel
theorem dX6_sumTwice_16 : decode cX6_sumTwice 16 = .ok (.iload_n 2, 1) := by decide +kernel
theorem dX6_sumTwice_17 : decode cX6_sumTwice 17 = .ok (.iload_n 3, 1) := by decide +kernel
theorem dX6_sumTwice_18 : decode cX6_sumTwice 18 = .ok (.invokevirtual 222, 3) := by decide +kernel
theorem dX6_sumTwice_21 : decode cX6_sumTwice 21 = .ok (.istore 9, 2) := by decide +kernel
theorem dX6_sumTwice_23 : decode cX6_sumTwice 23 = .ok (.aload_n 0, 1) := by decide +kernel
theorem dX6_sumTwice_24 : decode cX6_sumTwice 24 = .ok (.iload 9, 2) := by decide +kernel
theorem dX6_sumTwice_26 : decode cX6_sumTwice 26 = .ok (.invokevirtual 238, 3) := by decide +kernel
theorem dX6_sumTwice_29 : decode cX6_sumTwice 29 = .ok (.istore 10, 2) := by decide +kernel
theorem dX6_sumTwice_31 : decode cX6_sumTwice 31 = .ok (.lload 7, 2) := by decide +kernel
theorem dX6_sumTwice_33 : decode cX6_sumTwice 33 = .ok (.iload 9, 2) := by decide +kernel
theorem dX6_sumTwice_35 : decode cX6_sumTwice 35 = .ok (.iload 10, 2) := by decide +kernel
theorem dX6_sumTwice_37 : decode cX6_sumTwice 37 = .ok (.invokestatic 244, 3) := by decide +kernel
theorem dX6_sumTwice_40 : decode cX6_sumTwice 40 = .ok (.i2l, 1) := by decide +kernel
theorem dX6_sumTwice_41 : decode cX6_sumTwice 41 = .ok (.lmul, 1) := by decide +kernel
theorem dX6_sumTwice_42 : decode cX6_sumTwice 42 = .ok (.lstore 11, 2) := by decide +kernel
theorem dX6_sumTwice_44 : decode cX6_sumTwice 44 = .ok (.iconst 0, 1) := by decide +kernel
theorem dX6_sumTwice_45 : decode cX6_sumTwice 45 = .ok (.istore 13, 2) := by decide +kernel
theorem dX6_sumTwice_47 : decode cX6_sumTwice 47 = .ok (.iload 13, 2) := by decide +kernel
theorem dX6_sumTwice_49 : decode cX6_sumTwice 49 = .ok (.aload_n 0, 1) := by decide +kernel
theorem dX6_sumTwice_50 : decode cX6_sumTwice 50 = .ok (.getfield 19, 3) := by decide +kernel
theorem dX6_sumTwice_53 : decode cX6_sumTwice 53 = .ok (.getfield 93, 3) := by decide +kernel
theorem dX6_sumTwice_56 : decode cX6_sumTwice 56 = .ok (.if_icmp .ge 97, 3) := by decide +kernel
theorem dX6_sumTwice_59 : decode cX6_sumTwice 59 = .ok (.lload 5, 2) := by decide +kernel
theorem dX6_sumTwice_61 : decode cX6_sumTwice 61 = .ok (.aload_n 0, 1) := by decide +kernel
theorem dX6_sumTwice_62 : decode cX6_sumTwice 62 = .ok (.iload 13, 2) := by decide +kernel
theorem dX6_sumTwice_64 : decode cX6_sumTwice 64 = .ok (.iload 9, 2) := by decide +kernel
theorem dX6_sumTwice_66 : decode cX6_sumTwice 66 = .ok (.iload 10, 2) := by decide +kernel
theorem dX6_sumTwice_68 : decode cX6_sumTwice 68 = .ok (.invokevirtual 241, 3) := by decide +kernel
theorem dX6_sumTwice_71 : decode cX6_sumTwice 71 = .ok (.i2l, 1) := by decide +kernel
theorem dX6_sumTwice_72 : decode cX6_sumTwice 72 = .ok (.lmul, 1) := by decide +kernel
theorem dX6_sumTwice_73 : decode cX6_sumTwice 73 = .ok (.lstore 14, 2) := by decide +kernel
theorem dX6_sumTwice_75 : decode cX6_sumTwice 75 = .ok (.lload 14, 2) := by decide +kernel
theorem dX6_sumTwice_77 : decode cX6_sumTwice 77 = .ok (.lconst 0, 1) := by decide +kernel
theorem dX6_sumTwice_78 : decode cX6_sumTwice 78 = .ok (.lcmp, 1) := by decide +kernel
theorem dX6_sumTwice_79 : decode cX6_sumTwice 79 = .ok (.ifCond .le 27, 3) := by decide +kernel
theorem dX6_sumTwice_82 : decode cX6_sumTwice 82 = .ok (.iload 4, 2) := by decide +kernel
theorem dX6_sumTwice_84 : decode cX6_sumTwice 84 = .ok (.iload 13, 2) := by decide +kernel
theorem dX6_sumTwice_86 : decode cX6_sumTwice 86 = .ok (.invokestatic 117, 3) := by decide +kernel
theorem dX6_sumTwice_89 : decode cX6_sumTwice 89 = .ok (.ifCond .eq 17, 3) := by decide +kernel
theorem dX6_sumTwice_92 : decode cX6_sumTwice 92 = .ok (.aload_n 0, 1) := by decide +kernel
theorem dX6_sumTwice_93 : decode cX6_sumTwice 93 = .ok (.getfield 36, 3) := by decide +kernel
theorem dX6_sumTwice_96 : decode cX6_sumTwice 96 = .ok (.lload 14, 2) := by decide +kernel
theorem dX6_sumTwice_98 : decode cX6_sumTwice 98 = .ok (.lload 11, 2) := by decide +kernel
theorem dX6_sumTwice_100 : decode cX6_sumTwice 100 = .ok (.invokevirtual 262, 3) := by decide +kernel
theorem dX6_sumTwice_103 : decode cX6_sumTwice 103 = .ok (.goto 44, 3) := by decide +kernel
theorem dX6_sumTwice_106 : decode cX6_sumTwice 106 = .ok (.lload 14, 2) := by decide +kernel
theorem dX6_sumTwice_108 : decode cX6_sumTwice 108 = .ok (.lconst 0, 1) := by decide +kernel
theorem dX6_sumTwice_109 : decode cX6_sumTwice 109 = .ok (.lcmp, 1) := by decide +kernel
theorem dX6_sumTwice_110 : decode cX6_sumTwice 110 = .ok (.ifCond .le 37, 3) := by decide +kernel
theorem dX6_sumTwice_113 : decode cX6_sumTwice 113 = .ok (.aload_n 0, 1) := by decide +kernel
theorem dX6_sumTwice_114 : decode cX6_sumTwice 114 = .ok (.getfield 19, 3) := by decide +kernel
theorem dX6_sumTwice_117 : decode cX6_sumTwice 117 = .ok (.iload_n 2, 1) := by decide +kernel
theorem dX6_sumTwice_118 : decode cX6_sumTwice 118 = .ok (.iload 13, 2) := by decide +kernel
theorem dX6_sumTwice_120 : decode cX6_sumTwice 120 = .ok (.invokevirtual 123, 3) := by decide +kernel
theorem dX6_sumTwice_123 : decode cX6_sumTwice 123 = .ok (.istore 16, 2) := by decide +kernel
theorem dX6_sumTwice_125 : decode cX6_sumTwice 125 = .ok (.aload_n 0, 1) := by decide +kernel
theorem dX6_sumTwice_126 : decode cX6_sumTwice 126 = .ok (.iload_n 1, 1) := by decide +kernel
theorem dX6_sumTwice_127 : decode cX6_sumTwice 127 = .ok (.iconst 1, 1) := by decide +kernel
theorem dX6_sumTwice_128 : decode cX6_sumTwice 128 = .ok (.isub, 1) := by decide +kernel
theorem dX6_sumTwice_129 : decode cX6_sumTwice 129 = .ok (.iload 16, 2) := by decide +kernel
theorem dX6_sumTwice_131 : decode cX6_sumTwice 131 = .ok (.iload 13, 2) := by decide +kernel
theorem dX6_sumTwice_133 : decode cX6_sumTwice 133 = .ok (.iload 4, 2) := by decide +kernel
theorem dX6_sumTwice_135 : decode cX6_sumTwice 135 = .ok (.iconst 1, 1) := by decide +kernel
theorem dX6_sumTwice_136 : decode cX6_sumTwice 136 = .ok (.iload 13, 2) := by decide +kernel
theorem dX6_sumTwice_138 : decode cX6_sumTwice 138 = .ok (.ishl, 1) := by decide +kernel
theorem dX6_sumTwice_139 : decode cX6_sumTwice 139 = .ok (.ior, 1) := by decide +kernel
theorem dX6_sumTwice_140 : decode cX6_sumTwice 140 = .ok (.lload 14, 2) := by decide +kernel
theorem dX6_sumTwice_142 : decode cX6_sumTwice 142 = .ok (.lload 11, 2) := by decide +kernel
theorem dX6_sumTwice_144 : decode cX6_sumTwice 144 = .ok (.invokestatic 258, 3) := by decide +kernel
theorem dX6_sumTwice_147 : decode cX6_sumTwice 147 = .ok (.iinc 13 1, 3) := by decide +kernel
theorem dX6_sumTwice_150 : decode cX6_sumTwice 150 = .ok (.goto (-103), 3) := by decide +kernel
theorem dX6_sumTwice_153 : decode cX6_sumTwice 153 = .ok (.return_, 1) := by decide +kernel
set_option maxRecDepth 20000 in
theorem ggX6_possibleRules_X6_reckonHeard : GoodIn wsX6_possibleRules wsX6_reckonHeard := goodIn_r _ [6, 7, 1, 8, 9, 10, 11, 12, 13, 14, 15, 16, 17, 18, 19, 20, 21, 22, 23, 24, 25, 26, 27, 28, 29, 30, 31, 32, 33, 34, 35, 36, 37, 38, 39, 40, 41, 42, 43, 44, 5, 45, 46, 47, 48, 49, 50, 51, 52, 53, 54, 55, 56, 57, 58, 59, 60, 61, 62, 63, 64, 65, 66, 67, 68, 69, 72, 73, 74, 75, 76, 77, 78, 79, 80, 81, 82, 83, 84, 70, 71, 85] (by decide +kernel) (by decide +kernel)
set_option maxRecDepth 20000 in
theorem gX6_possibleRules_X6_reckonHeard : GoodIn wsX6_possibleRules (wsV RX6 265 RX6 yX6_reckonHeard wsX6_reckonHeard) := goodIn_app (goodIn_of _ (by decide +kernel)) ggX6_possibleRules_X6_reckonHeard
theorem dX6_possibleRules_0 : decode cX6_possibleRules 0 = .ok (.iconst 0, 1) := by decide +kernel
theorem dX6_possibleRules_1 : decode cX6_possibleRules 1 = .ok (.istore_n 1, 1) := by decide +kernel
theorem dX6_possibleRules_2 : decode cX6_possibleRules 2 = .ok (.iconst 0, 1) := by decide +kernel
theorem dX6_possibleRules_3 : decode cX6_possibleRules 3 = .ok (.istore_n 2, 1) := by decide +kernel
theorem dX6_possibleRules_4 : decode cX6_possibleRules 4 = .ok (.iload_n 2, 1) := by decide +kernel
theorem dX6_possibleRules_5 : decode cX6_possibleRules 5 = .ok (.iconst 4, 1) := by decide +kernel
theorem dX6_possibleRules_6 : decode cX6_possibleRules 6 = .ok (.if_icmp .ge 36, 3) := by decide +kernel
theorem dX6_possibleRules_9 : decode cX6_possibleRules 9 = .ok (.aload_n 0, 1) := by decide +kernel
theorem dX6_possibleRules_10 : decode cX6_possibleRules 10 = .ok (.iload_n 2, 1) := by decide +kernel
theorem dX6_possibleRules_11 : decode cX6_possibleRules 11 = .ok (.invokevirtual 265, 3) := by decide +kernel
theorem dX6_possibleRules_14 : decode cX6_possibleRules 14 = .ok (.iload_n 1, 1) := by decide +kernel
theorem dX6_possibleRules_15 : decode cX6_possibleRules 15 = .ok (.aload_n 0, 1) := by decide +kernel
theorem dX6_possibleRules_16 : decode cX6_possibleRules 16 = .ok (.getfield 40, 3) := by decide +kernel
theorem dX6_possibleRules_19 : decode cX6_possibleRules 19 = .ok (.getfield 160, 3) := by decide +kernel
theorem dX6_possibleRules_22 : decode cX6_possibleRules 22 = .ok (.lconst 0, 1) := by decide +kernel
theorem dX6_possibleRules_23 : decode cX6_possibleRules 23 = .ok (.lcmp, 1) := by decide +kernel
theorem dX6_possibleRules_24 : decode cX6_possibleRules 24 = .ok (.ifCond .le 9, 3) := by decide +kernel
theorem dX6_possibleRules_27 : decode cX6_possibleRules 27 = .ok (.iconst 1, 1) := by decide +kernel
theorem dX6_possibleRules_28 : decode cX6_possibleRules 28 = .ok (.iload_n 2, 1) := by decide +kernel
theorem dX6_possibleRules_29 : decode cX6_possibleRules 29 = .ok (.ishl, 1) := by decide +kernel
theorem dX6_possibleRules_30 : decode cX6_possibleRules 30 = .ok (.goto 4, 3) := by decide +kernel
theorem dX6_possibleRules_33 : decode cX6_possibleRules 33 = .ok (.iconst 0, 1) := by decide +kernel
theorem dX6_possibleRules_34 : decode cX6_possibleRules 34 = .ok (.ior, 1) := by decide +kernel
theorem dX6_possibleRules_35 : decode cX6_possibleRules 35 = .ok (.istore_n 1, 1) := by decide +kernel
theorem dX6_possibleRules_36 : decode cX6_possibleRules 36 = .ok (.iinc 2 1, 3) := by decide +kernel
theorem dX6_possibleRules_39 : decode cX6_possibleRules 39 = .ok (.goto (-35), 3) := by decide +kernel
theorem dX6_possibleRules_42 : decode cX6_possibleRules 42 = .ok (.iload_n 1, 1) := by decide +kernel
theorem dX6_possibleRules_43 : decode cX6_possibleRules 43 = .ok (.ireturn, 1) := by decide +kernel
set_option maxRecDepth 20000 in
theorem ggX6_likeliestRule_X1_become : GoodIn wsX6_likeliestRule wsX1_become := goodIn_r _ [7, 8, 9, 10, 11, 6, 12, 75, 76] (by decide +kernel) (by decide +kernel)
set_option maxRecDepth 20000 in
theorem gX6_likeliestRule_X1_become : GoodIn wsX6_likeliestRule (wsV RX6 247 RX1 yX1_become wsX1_become) := goodIn_app (goodIn_of _ (by decide +kernel)) ggX6_likeliestRule_X1_become
set_option maxRecDepth 20000 in
theorem ggX6_likeliestRule_X6_reckonHeard : GoodIn wsX6_likeliestRule wsX6_reckonHeard := goodIn_r _ [17, 18, 2, 19, 20, 21, 22, 23, 24, 25, 3, 4, 5, 6, 7, 8, 9, 10, 11, 12, 26, 27, 28, 29, 30, 31, 32, 33, 34, 35, 36, 37, 38, 39, 40, 41, 42, 43, 44, 45, 16, 46, 47, 48, 49, 50, 51, 52, 53, 54, 55, 56, 57, 58, 59, 60, 65, 66, 67, 68, 69, 70, 71, 72, 73, 74, 77, 78, 79, 80, 81, 82, 83, 84, 85, 86, 87, 88, 89, 75, 76, 90] (by decide +kernel) (by decide +kernel)
set_option maxRecDepth 20000 in
theorem gX6_likeliestRule_X6_reckonHeard : GoodIn wsX6_likeliestRule (wsV RX6 265 RX6 yX6_reckonHeard wsX6_reckonHeard) := goodIn_app (goodIn_of _ (by decide +kernel)) ggX6_likeliestRule_X6_reckonHeard
set_option maxRecDepth 20000 in
theorem ggX6_likeliestRule_X1_isMoreThan : GoodIn wsX6_likeliestRule wsX1_isMoreThan := goodIn_r _ [64, 8, 9, 75, 76] (by decide +kernel) (by decide +kernel)
set_option maxRecDepth 20000 in
theorem gX6_likeliestRule_X1_isMoreThan : GoodIn wsX6_likeliestRule (wsV RX6 268 RX1 yX1_isMoreThan wsX1_isMoreThan) := goodIn_app (goodIn_of _ (by decide +kernel)) ggX6_likeliestRule_X1_isMoreThan
theorem dX6_likeliestRule_0 : decode cX6_likeliestRule 0 = .ok (.iconst (-1), 1) := by decide +kernel
theorem dX6_likeliestRule_1 : decode cX6_likeliestRule 1 = .ok (.istore_n 1, 1) := by decide +kernel
theorem dX6_likeliestRule_2 : decode cX6_likeliestRule 2 = .ok (.aload_n 0, 1) := by decide +kernel
theorem dX6_likeliestRule_3 : decode cX6_likeliestRule 3 = .ok (.getfield 43, 3) := by decide +kernel
theorem dX6_likeliestRule_6 : decode cX6_likeliestRule 6 = .ok (.lconst 0, 1) := by decide +kernel
theorem dX6_likeliestRule_7 : decode cX6_likeliestRule 7 = .ok (.lconst 1, 1) := by decide +kernel
theorem dX6_likeliestRule_8 : decode cX6_likeliestRule 8 = .ok (.invokevirtual 247, 3) := by decide +kernel
theorem dX6_likeliestRule_11 : decode cX6_likeliestRule 11 = .ok (.iconst 0, 1) := by decide +kernel
theorem dX6_likeliestRule_12 : decode cX6_likeliestRule 12 = .ok (.istore_n 2, 1) := by decide +kernel
theorem dX6_likeliestRule_13 : decode cX6_likeliestRule 13 = .ok (.iload_n 2, 1) := by decide +kernel
theorem dX6_likeliestRule_14 : decode cX6_likeliestRule 14 = .ok (.iconst 4, 1) := by decide +kernel
theorem dX6_likeliestRule_15 : decode cX6_likeliestRule 15 = .ok (.if_icmp .ge 51, 3) := by decide +kernel
theorem dX6_likeliestRule_18 : decode cX6_likeliestRule 18 = .ok (.aload_n 0, 1) := by decide +kernel
theorem dX6_likeliestRule_19 : decode cX6_likeliestRule 19 = .ok (.iload_n 2, 1) := by decide +kernel
theorem dX6_likeliestRule_20 : decode cX6_likeliestRule 20 = .ok (.invokevirtual 265, 3) := by decide +kernel
theorem dX6_likeliestRule_23 : decode cX6_likeliestRule 23 = .ok (.aload_n 0, 1) := by decide +kernel
theorem dX6_likeliestRule_24 : decode cX6_likeliestRule 24 = .ok (.getfield 40, 3) := by decide +kernel
theorem dX6_likeliestRule_27 : decode cX6_likeliestRule 27 = .ok (.aload_n 0, 1) := by decide +kernel
theorem dX6_likeliestRule_28 : decode cX6_likeliestRule 28 = .ok (.getfield 43, 3) := by decide +kernel
theorem dX6_likeliestRule_31 : decode cX6_likeliestRule 31 = .ok (.invokevirtual 268, 3) := by decide +kernel
theorem dX6_likeliestRule_34 : decode cX6_likeliestRule 34 = .ok (.ifCond .eq 26, 3) := by decide +kernel
theorem dX6_likeliestRule_37 : decode cX6_likeliestRule 37 = .ok (.aload_n 0, 1) := by decide +kernel
theorem dX6_likeliestRule_38 : decode cX6_likeliestRule 38 = .ok (.getfield 43, 3) := by decide +kernel
theorem dX6_likeliestRule_41 : decode cX6_likeliestRule 41 = .ok (.aload_n 0, 1) := by decide +kernel
theorem dX6_likeliestRule_42 : decode cX6_likeliestRule 42 = .ok (.getfield 40, 3) := by decide +kernel
theorem dX6_likeliestRule_45 : decode cX6_likeliestRule 45 = .ok (.getfield 160, 3) := by decide +kernel
theorem dX6_likeliestRule_48 : decode cX6_likeliestRule 48 = .ok (.aload_n 0, 1) := by decide +kernel
theorem dX6_likeliestRule_49 : decode cX6_likeliestRule 49 = .ok (.getfield 40, 3) := by decide +kernel
theorem dX6_likeliestRule_52 : decode cX6_likeliestRule 52 = .ok (.getfield 164, 3) := by decide +kernel
theorem dX6_likeliestRule_55 : decode cX6_likeliestRule 55 = .ok (.invokevirtual 247, 3) := by decide +kernel
theorem dX6_likeliestRule_58 : decode cX6_likeliestRule 58 = .ok (.iload_n 2, 1) := by decide +kernel
theorem dX6_likeliestRule_59 : decode cX6_likeliestRule 59 = .ok (.istore_n 1, 1) := by decide +kernel
theorem dX6_likeliestRule_60 : decode cX6_likeliestRule 60 = .ok (.iinc 2 1, 3) := by decide +kernel
theorem dX6_likeliestRule_63 : decode cX6_likeliestRule 63 = .ok (.goto (-50), 3) := by decide +kernel
theorem dX6_likeliestRule_66 : decode cX6_likeliestRule 66 = .ok (.iload_n 1, 1) := by decide +kernel
theorem dX6_likeliestRule_67 : decode cX6_likeliestRule 67 = .ok (.ireturn, 1) := by decide +kernel
set_option maxRecDepth 20000 in
theorem ggX6_reckonHeard_X0_all : GoodIn wsX6_reckonHeard wsX0_all := goodIn_r _ [8, 9, 74, 75, 76, 77, 78] (by decide +kernel) (by decide +kernel)
set_option maxRecDepth 20000 in
theorem gX6_reckonHeard_X0_all : GoodIn wsX6_reckonHeard (wsV RX6 86 RX0 yX0_all wsX0_all) := goodIn_app (goodIn_of _ (by decide +kernel)) ggX6_reckonHeard_X0_all
set_option maxRecDepth 20000 in
theorem ggX6_reckonHeard_X1_become : GoodIn wsX6_reckonHeard wsX1_become := goodIn_r _ [14, 15, 16, 17, 18, 13, 19, 79, 80] (by decide +kernel) (by decide +kernel)
set_option maxRecDepth 20000 in
theorem gX6_reckonHeard_X1_become : GoodIn wsX6_reckonHeard (wsV RX6 247 RX1 yX1_become wsX1_become) := goodIn_app (goodIn_of _ (by decide +kernel)) ggX6_reckonHeard_X1_become
set_option maxRecDepth 20000 in
theorem ggX6_reckonHeard_X5_at : GoodIn wsX6_reckonHeard wsX5_at := goodIn_r _ [24, 25, 81] (by decide +kernel) (by decide +kernel)
set_option maxRecDepth 20000 in
theorem gX6_reckonHeard_X5_at : GoodIn wsX6_reckonHeard (wsV RX6 216 RX5 yX5_at wsX5_at) := goodIn_app (goodIn_of _ (by decide +kernel)) ggX6_reckonHeard_X5_at
set_option maxRecDepth 20000 in
theorem ggX6_reckonHeard_X0_mayCome : GoodIn wsX6_reckonHeard wsX0_mayCome := goodIn_r _ [29, 30, 5, 6, 7, 8, 9, 31, 32, 33, 34, 35, 36, 37, 21, 22, 23, 24, 25, 74, 75, 76, 77, 78, 81] (by decide +kernel) (by decide +kernel)
set_option maxRecDepth 20000 in
theorem gX6_reckonHeard_X0_mayCome : GoodIn wsX6_reckonHeard (wsV RX6 222 RX0 yX0_mayCome wsX0_mayCome) := goodIn_app (goodIn_of _ (by decide +kernel)) ggX6_reckonHeard_X0_mayCome
set_option maxRecDepth 20000 in
theorem ggX6_reckonHeard_X6_holds : GoodIn wsX6_reckonHeard wsX6_holds := goodIn_r _ [41] (by decide +kernel) (by decide +kernel)
set_option maxRecDepth 20000 in
theorem gX6_reckonHeard_X6_holds : GoodIn wsX6_reckonHeard (va_wsS RX6 117 yX6_holds wsX6_holds) := goodIn_app (goodIn_of _ (by decide +kernel)) ggX6_reckonHeard_X6_holds
set_option maxRecDepth 20000 in
theorem ggX6_reckonHeard_X0_weightTogether : GoodIn wsX6_reckonHeard wsX0_weightTogether := goodIn_r _ [45, 9, 46, 39, 40, 41, 37, 21, 22, 23, 24, 25, 74, 75, 76, 77, 78, 81] (by decide +kernel) (by decide +kernel)
set_option maxRecDepth 20000 in
theorem gX6_reckonHeard_X0_weightTogether : GoodIn wsX6_reckonHeard (wsV RX6 272 RX0 yX0_weightTogether wsX0_weightTogether) := goodIn_app (goodIn_of _ (by decide +kernel)) ggX6_reckonHeard_X0_weightTogether
set_option maxRecDepth 20000 in
theorem ggX6_reckonHeard_X1_multiply : GoodIn wsX6_reckonHeard wsX1_multiply := goodIn_r _ [50, 15, 16, 51, 11, 12, 13, 14, 17, 18, 19, 79, 80] (by decide +kernel) (by decide +kernel)
set_option maxRecDepth 20000 in
theorem gX6_reckonHeard_X1_multiply : GoodIn wsX6_reckonHeard (wsV RX6 273 RX1 yX1_multiply wsX1_multiply) := goodIn_app (goodIn_of _ (by decide +kernel)) ggX6_reckonHeard_X1_multiply
set_option maxRecDepth 20000 in
theorem ggX6_reckonHeard_X0_bagAfter : GoodIn wsX6_reckonHeard wsX0_bagAfter := goodIn_r _ [55, 30, 5, 6, 7, 8, 9, 74, 75, 76, 77, 78] (by decide +kernel) (by decide +kernel)
set_option maxRecDepth 20000 in
theorem gX6_reckonHeard_X0_bagAfter : GoodIn wsX6_reckonHeard (wsV RX6 123 RX0 yX0_bagAfter wsX0_bagAfter) := goodIn_app (goodIn_of _ (by decide +kernel)) ggX6_reckonHeard_X0_bagAfter
theorem dX6_reckonHeard_0 : decode cX6_reckonHeard 0 = .ok (.aload_n 0, 1) := by decide +kernel
theorem dX6_reckonHeard_1 : decode cX6_reckonHeard 1 = .ok (.getfield 19, 3) := by decide +kernel
theorem dX6_reckonHeard_4 : decode cX6_reckonHeard 4 = .ok (.invokevirtual 86, 3) := by decide +kernel
theorem dX6_reckonHeard_7 : decode cX6_reckonHeard 7 = .ok (.istore_n 2, 1) := by decide +kernel
theorem dX6_reckonHeard_8 : decode cX6_reckonHeard 8 = .ok (.iconst (-1), 1) := by decide +kernel
theorem dX6_reckonHeard_9 : decode cX6_reckonHeard 9 = .ok (.istore_n 3, 1) := by decide +kernel
theorem dX6_reckonHeard_10 : decode cX6_reckonHeard 10 = .ok (.aload_n 0, 1) := by decide +kernel
theorem dX6_reckonHeard_11 : decode cX6_reckonHeard 11 = .ok (.getfield 40, 3) := by decide +kernel
theorem dX6_reckonHeard_14 : decode cX6_reckonHeard 14 = .ok (.lconst 1, 1) := by decide +kernel
theorem dX6_reckonHeard_15 : decode cX6_reckonHeard 15 = .ok (.lconst 1, 1) := by decide +kernel
theorem dX6_reckonHeard_16 : decode cX6_reckonHeard 16 = .ok (.invokevirtual 247, 3) := by decide +kernel
theorem dX6_reckonHeard_19 : decode cX6_reckonHeard 19 = .ok (.iconst 0, 1) := by decide +kernel
theorem dX6_reckonHeard_20 : decode cX6_reckonHeard 20 = .ok (.istore 4, 2) := by decide +kernel
theorem dX6_reckonHeard_22 : decode cX6_reckonHeard 22 = .ok (.iload 4, 2) := by decide +kernel
theorem dX6_reckonHeard_24 : decode cX6_reckonHeard 24 = .ok (.aload_n 0, 1) := by decide +kernel
theorem dX6_reckonHeard_25 : decode cX6_reckonHeard 25 = .ok (.getfield 26, 3) := by decide +kernel
theorem dX6_reckonHeard_28 : decode cX6_reckonHeard 28 = .ok (.getfield 174, 3) := by decide +kernel
theorem dX6_reckonHeard_31 : decode cX6_reckonHeard 31 = .ok (.if_icmp .ge 99, 3) := by decide +kernel
theorem dX6_reckonHeard_34 : decode cX6_reckonHeard 34 = .ok (.aload_n 0, 1) := by decide +kernel
theorem dX6_reckonHeard_35 : decode cX6_reckonHeard 35 = .ok (.getfield 26, 3) := by decide +kernel
theorem dX6_reckonHeard_38 : decode cX6_reckonHeard 38 = .ok (.getfield 177, 3) := by decide +kernel
theorem dX6_reckonHeard_41 : decode cX6_reckonHeard 41 = .ok (.iload 4, 2) := by decide +kernel
theorem dX6_reckonHeard_43 : decode cX6_reckonHeard 43 = .ok (.invokevirtual 216, 3) := by decide +kernel
theorem dX6_reckonHeard_46 : decode cX6_reckonHeard 46 = .ok (.istore 5, 2) := by decide +kernel
theorem dX6_reckonHeard_48 : decode cX6_reckonHeard 48 = .ok (.aload_n 0, 1) := by decide +kernel
theorem dX6_reckonHeard_49 : decode cX6_reckonHeard 49 = .ok (.getfield 19, 3) := by decide +kernel
theorem dX6_reckonHeard_52 : decode cX6_reckonHeard 52 = .ok (.iload_n 1, 1) := by decide +kernel
theorem dX6_reckonHeard_53 : decode cX6_reckonHeard 53 = .ok (.iload_n 2, 1) := by decide +kernel
theorem dX6_reckonHeard_54 : decode cX6_reckonHeard 54 = .ok (.iload_n 3, 1) := by decide +kernel
theorem dX6_reckonHeard_55 : decode cX6_reckonHeard 55 = .ok (.invokevirtual 222, 3) := by decide +kernel
theorem dX6_reckonHeard_58 : decode cX6_reckonHeard 58 = .ok (.istore 6, 2) := by decide +kernel
theorem dX6_reckonHeard_60 : decode cX6_reckonHeard 60 = .ok (.iload 6, 2) := by decide +kernel
theorem dX6_reckonHeard_62 : decode cX6_reckonHeard 62 = .ok (.iload 5, 2) := by decide +kernel
theorem dX6_reckonHeard_64 : decode cX6_reckonHeard 64 = .ok (.invokestatic 117, 3) := by decide +kernel
theorem dX6_reckonHeard_67 : decode cX6_reckonHeard 67 = .ok (.ifCond .ne 13, 3) := by decide +kernel
theorem dX6_reckonHeard_70 : decode cX6_reckonHeard 70 = .ok (.aload_n 0, 1) := by decide +kernel
theorem dX6_reckonHeard_71 : decode cX6_reckonHeard 71 = .ok (.getfield 40, 3) := by decide +kernel
theorem dX6_reckonHeard_74 : decode cX6_reckonHeard 74 = .ok (.lconst 0, 1) := by decide +kernel
theorem dX6_reckonHeard_75 : decode cX6_reckonHeard 75 = .ok (.lconst 1, 1) := by decide +kernel
theorem dX6_reckonHeard_76 : decode cX6_reckonHeard 76 = .ok (.invokevirtual 247, 3) := by decide +kernel
theorem dX6_reckonHeard_79 : decode cX6_reckonHeard 79 = .ok (.return_, 1) := by decide +kernel
theorem dX6_reckonHeard_80 : decode cX6_reckonHeard 80 = .ok (.aload_n 0, 1) := by decide +kernel
theorem dX6_reckonHeard_81 : decode cX6_reckonHeard 81 = .ok (.getfield 40, 3) := by decide +kernel
theorem dX6_reckonHeard_84 : decode cX6_reckonHeard 84 = .ok (.aload_n 0, 1) := by decide +kernel
theorem dX6_reckonHeard_85 : decode cX6_reckonHeard 85 = .ok (.getfield 19, 3) := by decide +kernel
theorem dX6_reckonHeard_88 : decode cX6_reckonHeard 88 = .ok (.getfield 250, 3) := by decide +kernel
theorem dX6_reckonHeard_91 : decode cX6_reckonHeard 91 = .ok (.iload 5, 2) := by decide +kernel
theorem dX6_reckonHeard_93 : decode cX6_reckonHeard 93 = .ok (.invokevirtual 216, 3) := by decide +kernel
theorem dX6_reckonHeard_96 : decode cX6_reckonHeard 96 = .ok (.i2l, 1) := by decide +kernel
theorem dX6_reckonHeard_97 : decode cX6_reckonHeard 97 = .ok (.aload_n 0, 1) := by decide +kernel
theorem dX6_reckonHeard_98 : decode cX6_reckonHeard 98 = .ok (.getfield 19, 3) := by decide +kernel
theorem dX6_reckonHeard_101 : decode cX6_reckonHeard 101 = .ok (.iload 6, 2) := by decide +kernel
theorem dX6_reckonHeard_103 : decode cX6_reckonHeard 103 = .ok (.invokevirtual 272, 3) := by decide +kernel
theorem dX6_reckonHeard_106 : decode cX6_reckonHeard 106 = .ok (.i2l, 1) := by decide +kernel
theorem dX6_reckonHeard_107 : decode cX6_reckonHeard 107 = .ok (.invokevirtual 273, 3) := by decide +kernel
theorem dX6_reckonHeard_110 : decode cX6_reckonHeard 110 = .ok (.aload_n 0, 1) := by decide +kernel
theorem dX6_reckonHeard_111 : decode cX6_reckonHeard 111 = .ok (.getfield 19, 3) := by decide +kernel
theorem dX6_reckonHeard_114 : decode cX6_reckonHeard 114 = .ok (.iload_n 2, 1) := by decide +kernel
theorem dX6_reckonHeard_115 : decode cX6_reckonHeard 115 = .ok (.iload 5, 2) := by decide +kernel
theorem dX6_reckonHeard_117 : decode cX6_reckonHeard 117 = .ok (.invokevirtual 123, 3) := by decide +kernel
theorem dX6_reckonHeard_120 : decode cX6_reckonHeard 120 = .ok (.istore_n 2, 1) := by decide +kernel
theorem dX6_reckonHeard_121 : decode cX6_reckonHeard 121 = .ok (.iload 5, 2) := by decide +kernel
theorem dX6_reckonHeard_123 : decode cX6_reckonHeard 123 = .ok (.istore_n 3, 1) := by decide +kernel
theorem dX6_reckonHeard_124 : decode cX6_reckonHeard 124 = .ok (.iinc 4 1, 3) := by decide +kernel
theorem dX6_reckonHeard_127 : decode cX6_reckonHeard 127 = .ok (.goto (-105), 3) := by decide +kernel
theorem dX6_reckonHeard_130 : decode cX6_reckonHeard 130 = .ok (.return_, 1) := by decide +kernel
set_option maxRecDepth 20000 in
theorem ggX6_eveningFact_X6_seedAfter : GoodIn wsX6_eveningFact wsX6_seedAfter := goodIn_r _ [6, 7, 8, 9] (by decide +kernel) (by decide +kernel)
set_option maxRecDepth 20000 in
theorem gX6_eveningFact_X6_seedAfter : GoodIn wsX6_eveningFact (va_wsS RX6 276 yX6_seedAfter wsX6_seedAfter) := goodIn_app (goodIn_of _ (by decide +kernel)) ggX6_eveningFact_X6_seedAfter
set_option maxRecDepth 20000 in
theorem ggX6_eveningFact_X0_mayCome : GoodIn wsX6_eveningFact wsX0_mayCome := goodIn_r _ [14, 15, 16, 17, 13, 18, 19, 20, 21, 22, 23, 24, 25, 26, 27, 28, 29, 30, 31, 89, 90, 91, 92, 93, 94] (by decide +kernel) (by decide +kernel)
set_option maxRecDepth 20000 in
theorem gX6_eveningFact_X0_mayCome : GoodIn wsX6_eveningFact (wsV RX6 222 RX0 yX0_mayCome wsX0_mayCome) := goodIn_app (goodIn_of _ (by decide +kernel)) ggX6_eveningFact_X0_mayCome
set_option maxRecDepth 20000 in
theorem ggX6_eveningFact_X6_drawn : GoodIn wsX6_eveningFact wsX6_drawn := goodIn_r _ [35, 36, 2, 37, 38, 39, 5, 40, 41, 42, 43, 44, 45, 46, 47, 1, 48, 49, 50, 51, 52, 27, 28, 29, 30, 31, 53, 54, 55, 56, 57, 58, 59, 60, 61, 62, 63, 64, 65, 66, 71, 72, 73, 74, 75, 76, 77, 78, 79, 80, 89, 90, 91, 92, 93, 81, 82, 83, 84, 85, 86, 87, 88, 94] (by decide +kernel) (by decide +kernel)
set_option maxRecDepth 20000 in
theorem gX6_eveningFact_X6_drawn : GoodIn wsX6_eveningFact (wsV RX6 279 RX6 yX6_drawn wsX6_drawn) := goodIn_app (goodIn_of _ (by decide +kernel)) ggX6_eveningFact_X6_drawn
set_option maxRecDepth 20000 in
theorem ggX6_eveningFact_X0_bagAfter : GoodIn wsX6_eveningFact wsX0_bagAfter := goodIn_r _ [70, 15, 16, 17, 13, 18, 19, 89, 90, 91, 92, 93] (by decide +kernel) (by decide +kernel)
set_option maxRecDepth 20000 in
theorem gX6_eveningFact_X0_bagAfter : GoodIn wsX6_eveningFact (wsV RX6 123 RX0 yX0_bagAfter wsX0_bagAfter) := goodIn_app (goodIn_of _ (by decide +kernel)) ggX6_eveningFact_X0_bagAfter
set_option maxRecDepth 20000 in
theorem ggX6_eveningFact_X5_at : GoodIn wsX6_eveningFact wsX5_at := goodIn_r _ [30, 31, 94] (by decide +kernel) (by decide +kernel)
set_option maxRecDepth 20000 in
theorem gX6_eveningFact_X5_at : GoodIn wsX6_eveningFact (wsV RX6 216 RX5 yX5_at wsX5_at) := goodIn_app (goodIn_of _ (by decide +kernel)) ggX6_eveningFact_X5_at
set_option maxRecDepth 20000 in
theorem ggX6_eveningFact_J6_bitCount_0f7a4 : GoodIn wsX6_eveningFact wsJ6_bitCount_0f7a4 := goodIn_r _ [59, 60, 61, 62] (by decide +kernel) (by decide +kernel)
set_option maxRecDepth 20000 in
theorem gX6_eveningFact_J6_bitCount_0f7a4 : GoodIn wsX6_eveningFact (va_wsS RX6 141 yJ6_bitCount_0f7a4 wsJ6_bitCount_0f7a4) := goodIn_app (goodIn_of _ (by decide +kernel)) ggX6_eveningFact_J6_bitCount_0f7a4
theorem dX6_eveningFact_0 : decode cX6_eveningFact 0 = .ok (.iload_n 2, 1) := by decide +kernel
theorem dX6_eveningFact_1 : decode cX6_eveningFact 1 = .ok (.i2l, 1) := by decide +kernel
theorem dX6_eveningFact_2 : decode cX6_eveningFact 2 = .ok (.lstore 4, 2) := by decide +kernel
theorem dX6_eveningFact_4 : decode cX6_eveningFact 4 = .ok (.aload_n 0, 1) := by decide +kernel
theorem dX6_eveningFact_5 : decode cX6_eveningFact 5 = .ok (.getfield 26, 3) := by decide +kernel
theorem dX6_eveningFact_8 : decode cX6_eveningFact 8 = .ok (.getfield 120, 3) := by decide +kernel
theorem dX6_eveningFact_11 : decode cX6_eveningFact 11 = .ok (.istore 6, 2) := by decide +kernel
theorem dX6_eveningFact_13 : decode cX6_eveningFact 13 = .ok (.aload_n 0, 1) := by decide +kernel
theorem dX6_eveningFact_14 : decode cX6_eveningFact 14 = .ok (.getfield 26, 3) := by decide +kernel
theorem dX6_eveningFact_17 : decode cX6_eveningFact 17 = .ok (.getfield 126, 3) := by decide +kernel
theorem dX6_eveningFact_20 : decode cX6_eveningFact 20 = .ok (.istore 7, 2) := by decide +kernel
theorem dX6_eveningFact_22 : decode cX6_eveningFact 22 = .ok (.iconst 0, 1) := by decide +kernel
theorem dX6_eveningFact_23 : decode cX6_eveningFact 23 = .ok (.istore 8, 2) := by decide +kernel
theorem dX6_eveningFact_25 : decode cX6_eveningFact 25 = .ok (.iconst 0, 1) := by decide +kernel
theorem dX6_eveningFact_26 : decode cX6_eveningFact 26 = .ok (.istore 9, 2) := by decide +kernel
theorem dX6_eveningFact_28 : decode cX6_eveningFact 28 = .ok (.iconst 0, 1) := by decide +kernel
theorem dX6_eveningFact_29 : decode cX6_eveningFact 29 = .ok (.istore 10, 2) := by decide +kernel
theorem dX6_eveningFact_31 : decode cX6_eveningFact 31 = .ok (.iload 10, 2) := by decide +kernel
theorem dX6_eveningFact_33 : decode cX6_eveningFact 33 = .ok (.iload_n 1, 1) := by decide +kernel
theorem dX6_eveningFact_34 : decode cX6_eveningFact 34 = .ok (.if_icmp .ge 85, 3) := by decide +kernel
theorem dX6_eveningFact_37 : decode cX6_eveningFact 37 = .ok (.lload 4, 2) := by decide +kernel
theorem dX6_eveningFact_39 : decode cX6_eveningFact 39 = .ok (.invokestatic 276, 3) := by decide +kernel
theorem dX6_eveningFact_42 : decode cX6_eveningFact 42 = .ok (.lstore 4, 2) := by decide +kernel
theorem dX6_eveningFact_44 : decode cX6_eveningFact 44 = .ok (.aload_n 0, 1) := by decide +kernel
theorem dX6_eveningFact_45 : decode cX6_eveningFact 45 = .ok (.lload 4, 2) := by decide +kernel
theorem dX6_eveningFact_47 : decode cX6_eveningFact 47 = .ok (.aload_n 0, 1) := by decide +kernel
theorem dX6_eveningFact_48 : decode cX6_eveningFact 48 = .ok (.getfield 19, 3) := by decide +kernel
theorem dX6_eveningFact_51 : decode cX6_eveningFact 51 = .ok (.aload_n 0, 1) := by decide +kernel
theorem dX6_eveningFact_52 : decode cX6_eveningFact 52 = .ok (.getfield 26, 3) := by decide +kernel
theorem dX6_eveningFact_55 : decode cX6_eveningFact 55 = .ok (.getfield 111, 3) := by decide +kernel
theorem dX6_eveningFact_58 : decode cX6_eveningFact 58 = .ok (.iload 6, 2) := by decide +kernel
theorem dX6_eveningFact_60 : decode cX6_eveningFact 60 = .ok (.iload 7, 2) := by decide +kernel
theorem dX6_eveningFact_62 : decode cX6_eveningFact 62 = .ok (.invokevirtual 222, 3) := by decide +kernel
theorem dX6_eveningFact_65 : decode cX6_eveningFact 65 = .ok (.invokevirtual 279, 3) := by decide +kernel
theorem dX6_eveningFact_68 : decode cX6_eveningFact 68 = .ok (.istore 11, 2) := by decide +kernel
theorem dX6_eveningFact_70 : decode cX6_eveningFact 70 = .ok (.aload_n 0, 1) := by decide +kernel
theorem dX6_eveningFact_71 : decode cX6_eveningFact 71 = .ok (.getfield 19, 3) := by decide +kernel
theorem dX6_eveningFact_74 : decode cX6_eveningFact 74 = .ok (.iload 6, 2) := by decide +kernel
theorem dX6_eveningFact_76 : decode cX6_eveningFact 76 = .ok (.iload 11, 2) := by decide +kernel
theorem dX6_eveningFact_78 : decode cX6_eveningFact 78 = .ok (.invokevirtual 123, 3) := by decide +kernel
theorem dX6_eveningFact_81 : decode cX6_eveningFact 81 = .ok (.istore 6, 2) := by decide +kernel
theorem dX6_eveningFact_83 : decode cX6_eveningFact 83 = .ok (.iload 11, 2) := by decide +kernel
theorem dX6_eveningFact_85 : decode cX6_eveningFact 85 = .ok (.istore 7, 2) := by decide +kernel
theorem dX6_eveningFact_87 : decode cX6_eveningFact 87 = .ok (.iload 8, 2) := by decide +kernel
theorem dX6_eveningFact_89 : decode cX6_eveningFact 89 = .ok (.iconst 1, 1) := by decide +kernel
theorem dX6_eveningFact_90 : decode cX6_eveningFact 90 = .ok (.iload 11, 2) := by decide +kernel
theorem dX6_eveningFact_92 : decode cX6_eveningFact 92 = .ok (.ishl, 1) := by decide +kernel
theorem dX6_eveningFact_93 : decode cX6_eveningFact 93 = .ok (.ior, 1) := by decide +kernel
theorem dX6_eveningFact_94 : decode cX6_eveningFact 94 = .ok (.istore 8, 2) := by decide +kernel
theorem dX6_eveningFact_96 : decode cX6_eveningFact 96 = .ok (.iload 9, 2) := by decide +kernel
theorem dX6_eveningFact_98 : decode cX6_eveningFact 98 = .ok (.aload_n 0, 1) := by decide +kernel
theorem dX6_eveningFact_99 : decode cX6_eveningFact 99 = .ok (.getfield 19, 3) := by decide +kernel
theorem dX6_eveningFact_102 : decode cX6_eveningFact 102 = .ok (.getfield 231, 3) := by decide +kernel
theorem dX6_eveningFact_105 : decode cX6_eveningFact 105 = .ok (.iload 11, 2) := by decide +kernel
theorem dX6_eveningFact_107 : decode cX6_eveningFact 107 = .ok (.invokevirtual 216, 3) := by decide +kernel
theorem dX6_eveningFact_110 : decode cX6_eveningFact 110 = .ok (.iadd, 1) := by decide +kernel
theorem dX6_eveningFact_111 : decode cX6_eveningFact 111 = .ok (.istore 9, 2) := by decide +kernel
theorem dX6_eveningFact_113 : decode cX6_eveningFact 113 = .ok (.iinc 10 1, 3) := by decide +kernel
theorem dX6_eveningFact_116 : decode cX6_eveningFact 116 = .ok (.goto (-85), 3) := by decide +kernel
theorem dX6_eveningFact_119 : decode cX6_eveningFact 119 = .ok (.iload_n 3, 1) := by decide +kernel
theorem dX6_eveningFact_120 : decode cX6_eveningFact 120 = .ok (.ifCond .ne 9, 3) := by decide +kernel
theorem dX6_eveningFact_123 : decode cX6_eveningFact 123 = .ok (.iload 8, 2) := by decide +kernel
theorem dX6_eveningFact_125 : decode cX6_eveningFact 125 = .ok (.invokestatic 141, 3) := by decide +kernel
theorem dX6_eveningFact_128 : decode cX6_eveningFact 128 = .ok (.ireturn, 1) := by decide +kernel
theorem dX6_eveningFact_129 : decode cX6_eveningFact 129 = .ok (.iload_n 3, 1) := by decide +kernel
theorem dX6_eveningFact_130 : decode cX6_eveningFact 130 = .ok (.iconst 1, 1) := by decide +kernel
theorem dX6_eveningFact_131 : decode cX6_eveningFact 131 = .ok (.if_icmp .ne 8, 3) := by decide +kernel
theorem dX6_eveningFact_134 : decode cX6_eveningFact 134 = .ok (.iload 9, 2) := by decide +kernel
theorem dX6_eveningFact_136 : decode cX6_eveningFact 136 = .ok (.goto 6, 3) := by decide +kernel
theorem dX6_eveningFact_139 : decode cX6_eveningFact 139 = .ok (.lload 4, 2) := by decide +kernel
theorem dX6_eveningFact_141 : decode cX6_eveningFact 141 = .ok (.l2i, 1) := by decide +kernel
theorem dX6_eveningFact_142 : decode cX6_eveningFact 142 = .ok (.ireturn, 1) := by decide +kernel
theorem dX6_seedAfter_0 : decode cX6_seedAfter 0 = .ok (.ldc2_w 283, 3) := by decide +kernel
theorem dX6_seedAfter_3 : decode cX6_seedAfter 3 = .ok (.lload_n 0, 1) := by decide +kernel
theorem dX6_seedAfter_4 : decode cX6_seedAfter 4 = .ok (.lmul, 1) := by decide +kernel
theorem dX6_seedAfter_5 : decode cX6_seedAfter 5 = .ok (.ldc2_w 285, 3) := by decide +kernel
theorem dX6_seedAfter_8 : decode cX6_seedAfter 8 = .ok (.ladd, 1) := by decide +kernel
theorem dX6_seedAfter_9 : decode cX6_seedAfter 9 = .ok (.ldc2_w 287, 3) := by decide +kernel
theorem dX6_seedAfter_12 : decode cX6_seedAfter 12 = .ok (.land, 1) := by decide +kernel
theorem dX6_seedAfter_13 : decode cX6_seedAfter 13 = .ok (.lreturn, 1) := by decide +kernel
set_option maxRecDepth 20000 in
theorem ggX6_drawn_X6_weightTogether : GoodIn wsX6_drawn wsX6_weightTogether := goodIn_r _ [7, 2, 8, 9, 6, 10, 11, 12, 13, 14, 15, 16, 17, 18, 19, 20, 21, 22, 23, 24, 25, 40, 41, 42, 43, 44, 45, 46, 47, 48, 49, 50, 51, 52, 53, 54, 55, 56, 57, 58, 59, 60, 61, 62, 63] (by decide +kernel) (by decide +kernel)
set_option maxRecDepth 20000 in
theorem gX6_drawn_X6_weightTogether : GoodIn wsX6_drawn (wsV RX6 238 RX6 yX6_weightTogether wsX6_weightTogether) := goodIn_app (goodIn_of _ (by decide +kernel)) ggX6_drawn_X6_weightTogether
set_option maxRecDepth 20000 in
theorem ggX6_drawn_X6_allShares : GoodIn wsX6_drawn wsX6_allShares := goodIn_r _ [28, 29, 30, 31, 32, 33, 34, 35] (by decide +kernel) (by decide +kernel)
set_option maxRecDepth 20000 in
theorem gX6_drawn_X6_allShares : GoodIn wsX6_drawn (va_wsS RX6 244 yX6_allShares wsX6_allShares) := goodIn_app (goodIn_of _ (by decide +kernel)) ggX6_drawn_X6_allShares
set_option maxRecDepth 20000 in
theorem ggX6_drawn_X6_share : GoodIn wsX6_drawn wsX6_share := goodIn_r _ [39, 8, 9, 6, 10, 11, 12, 13, 14, 2, 15, 16, 17, 18, 19, 20, 21, 22, 23, 24, 25, 40, 41, 42, 43, 44, 45, 46, 47, 48, 49, 50, 51, 52, 53, 54, 55, 56, 57, 58, 59, 60, 61, 62, 63] (by decide +kernel) (by decide +kernel)
set_option maxRecDepth 20000 in
theorem gX6_drawn_X6_share : GoodIn wsX6_drawn (wsV RX6 241 RX6 yX6_share wsX6_share) := goodIn_app (goodIn_of _ (by decide +kernel)) ggX6_drawn_X6_share
theorem dX6_drawn_0 : decode cX6_drawn 0 = .ok (.aload_n 0, 1) := by decide +kernel
theorem dX6_drawn_1 : decode cX6_drawn 1 = .ok (.iload_n 3, 1) := by decide +kernel
theorem dX6_drawn_2 : decode cX6_drawn 2 = .ok (.invokevirtual 238, 3) := by decide +kernel
theorem dX6_drawn_5 : decode cX6_drawn 5 = .ok (.istore 4, 2) := by decide +kernel
theorem dX6_drawn_7 : decode cX6_drawn 7 = .ok (.iload_n 3, 1) := by decide +kernel
theorem dX6_drawn_8 : decode cX6_drawn 8 = .ok (.iload 4, 2) := by decide +kernel
theorem dX6_drawn_10 : decode cX6_drawn 10 = .ok (.invokestatic 244, 3) := by decide +kernel
theorem dX6_drawn_13 : decode cX6_drawn 13 = .ok (.istore 5, 2) := by decide +kernel
theorem dX6_drawn_15 : decode cX6_drawn 15 = .ok (.iload 5, 2) := by decide +kernel
theorem dX6_drawn_17 : decode cX6_drawn 17 = .ok (.ifCond .gt 5, 3) := by decide +kernel
theorem dX6_drawn_20 : decode cX6_drawn 20 = .ok (.iconst 0, 1) := by decide +kernel
theorem dX6_drawn_21 : decode cX6_drawn 21 = .ok (.ireturn, 1) := by decide +kernel
theorem dX6_drawn_22 : decode cX6_drawn 22 = .ok (.lload_n 1, 1) := by decide +kernel
theorem dX6_drawn_23 : decode cX6_drawn 23 = .ok (.ldc2_w 289, 3) := by decide +kernel
theorem dX6_drawn_26 : decode cX6_drawn 26 = .ok (.ldiv, 1) := by decide +kernel
theorem dX6_drawn_27 : decode cX6_drawn 27 = .ok (.iload 5, 2) := by decide +kernel
theorem dX6_drawn_29 : decode cX6_drawn 29 = .ok (.i2l, 1) := by decide +kernel
theorem dX6_drawn_30 : decode cX6_drawn 30 = .ok (.lrem, 1) := by decide +kernel
theorem dX6_drawn_31 : decode cX6_drawn 31 = .ok (.lstore 6, 2) := by decide +kernel
theorem dX6_drawn_33 : decode cX6_drawn 33 = .ok (.iconst 0, 1) := by decide +kernel
theorem dX6_drawn_34 : decode cX6_drawn 34 = .ok (.istore 8, 2) := by decide +kernel
theorem dX6_drawn_36 : decode cX6_drawn 36 = .ok (.iload 8, 2) := by decide +kernel
theorem dX6_drawn_38 : decode cX6_drawn 38 = .ok (.aload_n 0, 1) := by decide +kernel
theorem dX6_drawn_39 : decode cX6_drawn 39 = .ok (.getfield 19, 3) := by decide +kernel
theorem dX6_drawn_42 : decode cX6_drawn 42 = .ok (.getfield 93, 3) := by decide +kernel
theorem dX6_drawn_45 : decode cX6_drawn 45 = .ok (.if_icmp .ge 34, 3) := by decide +kernel
theorem dX6_drawn_48 : decode cX6_drawn 48 = .ok (.lload 6, 2) := by decide +kernel
theorem dX6_drawn_50 : decode cX6_drawn 50 = .ok (.aload_n 0, 1) := by decide +kernel
theorem dX6_drawn_51 : decode cX6_drawn 51 = .ok (.iload 8, 2) := by decide +kernel
theorem dX6_drawn_53 : decode cX6_drawn 53 = .ok (.iload_n 3, 1) := by decide +kernel
theorem dX6_drawn_54 : decode cX6_drawn 54 = .ok (.iload 4, 2) := by decide +kernel
theorem dX6_drawn_56 : decode cX6_drawn 56 = .ok (.invokevirtual 241, 3) := by decide +kernel
theorem dX6_drawn_59 : decode cX6_drawn 59 = .ok (.i2l, 1) := by decide +kernel
theorem dX6_drawn_60 : decode cX6_drawn 60 = .ok (.lsub, 1) := by decide +kernel
theorem dX6_drawn_61 : decode cX6_drawn 61 = .ok (.lstore 6, 2) := by decide +kernel
theorem dX6_drawn_63 : decode cX6_drawn 63 = .ok (.lload 6, 2) := by decide +kernel
theorem dX6_drawn_65 : decode cX6_drawn 65 = .ok (.lconst 0, 1) := by decide +kernel
theorem dX6_drawn_66 : decode cX6_drawn 66 = .ok (.lcmp, 1) := by decide +kernel
theorem dX6_drawn_67 : decode cX6_drawn 67 = .ok (.ifCond .ge 6, 3) := by decide +kernel
theorem dX6_drawn_70 : decode cX6_drawn 70 = .ok (.iload 8, 2) := by decide +kernel
theorem dX6_drawn_72 : decode cX6_drawn 72 = .ok (.ireturn, 1) := by decide +kernel
theorem dX6_drawn_73 : decode cX6_drawn 73 = .ok (.iinc 8 1, 3) := by decide +kernel
theorem dX6_drawn_76 : decode cX6_drawn 76 = .ok (.goto (-40), 3) := by decide +kernel
theorem dX6_drawn_79 : decode cX6_drawn 79 = .ok (.iconst 0, 1) := by decide +kernel
theorem dX6_drawn_80 : decode cX6_drawn 80 = .ok (.ireturn, 1) := by decide +kernel
theorem dX6_holds_0 : decode cX6_holds 0 = .ok (.iload_n 1, 1) := by decide +kernel
theorem dX6_holds_1 : decode cX6_holds 1 = .ok (.ifCond .lt 22, 3) := by decide +kernel
theorem dX6_holds_4 : decode cX6_holds 4 = .ok (.iload_n 1, 1) := by decide +kernel
theorem dX6_holds_5 : decode cX6_holds 5 = .ok (.bipush 6, 2) := by decide +kernel
theorem dX6_holds_7 : decode cX6_holds 7 = .ok (.if_icmp .ge 16, 3) := by decide +kernel
theorem dX6_holds_10 : decode cX6_holds 10 = .ok (.iload_n 0, 1) := by decide +kernel
theorem dX6_holds_11 : decode cX6_holds 11 = .ok (.iload_n 1, 1) := by decide +kernel
theorem dX6_holds_12 : decode cX6_holds 12 = .ok (.ishr, 1) := by decide +kernel
theorem dX6_holds_13 : decode cX6_holds 13 = .ok (.iconst 1, 1) := by decide +kernel
theorem dX6_holds_14 : decode cX6_holds 14 = .ok (.iand, 1) := by decide +kernel
theorem dX6_holds_15 : decode cX6_holds 15 = .ok (.iconst 1, 1) := by decide +kernel
theorem dX6_holds_16 : decode cX6_holds 16 = .ok (.if_icmp .ne 7, 3) := by decide +kernel
theorem dX6_holds_19 : decode cX6_holds 19 = .ok (.iconst 1, 1) := by decide +kernel
theorem dX6_holds_20 : decode cX6_holds 20 = .ok (.goto 4, 3) := by decide +kernel
theorem dX6_holds_23 : decode cX6_holds 23 = .ok (.iconst 0, 1) := by decide +kernel
theorem dX6_holds_24 : decode cX6_holds 24 = .ok (.ireturn, 1) := by decide +kernel
end
section
theorem dX7_init_0 : decode cX7_init 0 = .ok (.aload_n 0, 1) := by decide +kernel
theorem dX7_init_1 : decode cX7_init 1 = .ok (.invokespecial 1, 3) := by decide +kernel
theorem dX7_init_4 : decode cX7_init 4 = .ok (.aload_n 0, 1) := by decide +kernel
theorem dX7_init_5 : decode cX7_init 5 = .ok (.bipush 22, 2) := by decide +kernel
theorem dX7_init_7 : decode cX7_init 7 = .ok (.newarray .int, 2) := by decide +kernel
theorem dX7_init_9 : decode cX7_init 9 = .ok (.putfield 7, 3) := by decide +kernel
theorem dX7_init_12 : decode cX7_init 12 = .ok (.aload_n 0, 1) := by decide +kernel
theorem dX7_init_13 : decode cX7_init 13 = .ok (.bipush 12, 2) := by decide +kernel
theorem dX7_init_15 : decode cX7_init 15 = .ok (.newarray .int, 2) := by decide +kernel
theorem dX7_init_17 : decode cX7_init 17 = .ok (.putfield 13, 3) := by decide +kernel
theorem dX7_init_20 : decode cX7_init 20 = .ok (.aload_n 0, 1) := by decide +kernel
theorem dX7_init_21 : decode cX7_init 21 = .ok (.bipush 24, 2) := by decide +kernel
theorem dX7_init_23 : decode cX7_init 23 = .ok (.newarray .int, 2) := by decide +kernel
theorem dX7_init_25 : decode cX7_init 25 = .ok (.putfield 16, 3) := by decide +kernel
theorem dX7_init_28 : decode cX7_init 28 = .ok (.aload_n 0, 1) := by decide +kernel
theorem dX7_init_29 : decode cX7_init 29 = .ok (.bipush 6, 2) := by decide +kernel
theorem dX7_init_31 : decode cX7_init 31 = .ok (.newarray .int, 2) := by decide +kernel
theorem dX7_init_33 : decode cX7_init 33 = .ok (.putfield 19, 3) := by decide +kernel
theorem dX7_init_36 : decode cX7_init 36 = .ok (.aload_n 0, 1) := by decide +kernel
theorem dX7_init_37 : decode cX7_init 37 = .ok (.bipush 6, 2) := by decide +kernel
theorem dX7_init_39 : decode cX7_init 39 = .ok (.newarray .int, 2) := by decide +kernel
theorem dX7_init_41 : decode cX7_init 41 = .ok (.putfield 22, 3) := by decide +kernel
theorem dX7_init_44 : decode cX7_init 44 = .ok (.aload_n 0, 1) := by decide +kernel
theorem dX7_init_45 : decode cX7_init 45 = .ok (.bipush 8, 2) := by decide +kernel
theorem dX7_init_47 : decode cX7_init 47 = .ok (.newarray .int, 2) := by decide +kernel
theorem dX7_init_49 : decode cX7_init 49 = .ok (.putfield 25, 3) := by decide +kernel
theorem dX7_init_52 : decode cX7_init 52 = .ok (.aload_n 0, 1) := by decide +kernel
theorem dX7_init_53 : decode cX7_init 53 = .ok (.bipush 24, 2) := by decide +kernel
theorem dX7_init_55 : decode cX7_init 55 = .ok (.newarray .int, 2) := by decide +kernel
theorem dX7_init_57 : decode cX7_init 57 = .ok (.putfield 28, 3) := by decide +kernel
theorem dX7_init_60 : decode cX7_init 60 = .ok (.aload_n 0, 1) := by decide +kernel
theorem dX7_init_61 : decode cX7_init 61 = .ok (.bipush 8, 2) := by decide +kernel
theorem dX7_init_63 : decode cX7_init 63 = .ok (.newarray .int, 2) := by decide +kernel
theorem dX7_init_65 : decode cX7_init 65 = .ok (.putfield 31, 3) := by decide +kernel
theorem dX7_init_68 : decode cX7_init 68 = .ok (.aload_n 0, 1) := by decide +kernel
theorem dX7_init_69 : decode cX7_init 69 = .ok (.iconst (-1), 1) := by decide +kernel
theorem dX7_init_70 : decode cX7_init 70 = .ok (.putfield 34, 3) := by decide +kernel
theorem dX7_init_73 : decode cX7_init 73 = .ok (.aload_n 0, 1) := by decide +kernel
theorem dX7_init_74 : decode cX7_init 74 = .ok (.iconst (-1), 1) := by decide +kernel
theorem dX7_init_75 : decode cX7_init 75 = .ok (.putfield 38, 3) := by decide +kernel
theorem dX7_init_78 : decode cX7_init 78 = .ok (.return_, 1) := by decide +kernel
theorem dX7_in_0 : decode cX7_in 0 = .ok (.lload_n 0, 1) := by decide +kernel
theorem dX7_in_1 : decode cX7_in 1 = .ok (.lload_n 2, 1) := by decide +kernel
theorem dX7_in_2 : decode cX7_in 2 = .ok (.lcmp, 1) := by decide +kernel
theorem dX7_in_3 : decode cX7_in 3 = .ok (.ifCond .lt 14, 3) := by decide +kernel
theorem dX7_in_6 : decode cX7_in 6 = .ok (.lload_n 0, 1) := by decide +kernel
theorem dX7_in_7 : decode cX7_in 7 = .ok (.lload 4, 2) := by decide +kernel
theorem dX7_in_9 : decode cX7_in 9 = .ok (.lcmp, 1) := by decide +kernel
theorem dX7_in_10 : decode cX7_in 10 = .ok (.ifCond .gt 7, 3) := by decide +kernel
theorem dX7_in_13 : decode cX7_in 13 = .ok (.iconst 1, 1) := by decide +kernel
theorem dX7_in_14 : decode cX7_in 14 = .ok (.goto 4, 3) := by decide +kernel
theorem dX7_in_17 : decode cX7_in 17 = .ok (.iconst 0, 1) := by decide +kernel
theorem dX7_in_18 : decode cX7_in 18 = .ok (.ireturn, 1) := by decide +kernel
theorem dX7_copy_0 : decode cX7_copy 0 = .ok (.iconst 0, 1) := by decide +kernel
theorem dX7_copy_1 : decode cX7_copy 1 = .ok (.istore_n 2, 1) := by decide +kernel
theorem dX7_copy_2 : decode cX7_copy 2 = .ok (.iload_n 2, 1) := by decide +kernel
theorem dX7_copy_3 : decode cX7_copy 3 = .ok (.aload_n 0, 1) := by decide +kernel
theorem dX7_copy_4 : decode cX7_copy 4 = .ok (.arraylength, 1) := by decide +kernel
theorem dX7_copy_5 : decode cX7_copy 5 = .ok (.if_icmp .ge 15, 3) := by decide +kernel
theorem dX7_copy_8 : decode cX7_copy 8 = .ok (.aload_n 1, 1) := by decide +kernel
theorem dX7_copy_9 : decode cX7_copy 9 = .ok (.iload_n 2, 1) := by decide +kernel
theorem dX7_copy_10 : decode cX7_copy 10 = .ok (.aload_n 0, 1) := by decide +kernel
theorem dX7_copy_11 : decode cX7_copy 11 = .ok (.iload_n 2, 1) := by decide +kernel
theorem dX7_copy_12 : decode cX7_copy 12 = .ok (.iaload, 1) := by decide +kernel
theorem dX7_copy_13 : decode cX7_copy 13 = .ok (.iastore, 1) := by decide +kernel
theorem dX7_copy_14 : decode cX7_copy 14 = .ok (.iinc 2 1, 3) := by decide +kernel
theorem dX7_copy_17 : decode cX7_copy 17 = .ok (.goto (-15), 3) := by decide +kernel
theorem dX7_copy_20 : decode cX7_copy 20 = .ok (.return_, 1) := by decide +kernel
theorem dX7_common_0 : decode cX7_common 0 = .ok (.lload_n 0, 1) := by decide +kernel
theorem dX7_common_1 : decode cX7_common 1 = .ok (.lstore 4, 2) := by decide +kernel
theorem dX7_common_3 : decode cX7_common 3 = .ok (.lload_n 2, 1) := by decide +kernel
theorem dX7_common_4 : decode cX7_common 4 = .ok (.lstore 6, 2) := by decide +kernel
theorem dX7_common_6 : decode cX7_common 6 = .ok (.lload 6, 2) := by decide +kernel
theorem dX7_common_8 : decode cX7_common 8 = .ok (.lconst 0, 1) := by decide +kernel
theorem dX7_common_9 : decode cX7_common 9 = .ok (.lcmp, 1) := by decide +kernel
theorem dX7_common_10 : decode cX7_common 10 = .ok (.ifCond .le 21, 3) := by decide +kernel
theorem dX7_common_13 : decode cX7_common 13 = .ok (.lload 4, 2) := by decide +kernel
theorem dX7_common_15 : decode cX7_common 15 = .ok (.lload 6, 2) := by decide +kernel
theorem dX7_common_17 : decode cX7_common 17 = .ok (.lrem, 1) := by decide +kernel
theorem dX7_common_18 : decode cX7_common 18 = .ok (.lstore 8, 2) := by decide +kernel
theorem dX7_common_20 : decode cX7_common 20 = .ok (.lload 6, 2) := by decide +kernel
theorem dX7_common_22 : decode cX7_common 22 = .ok (.lstore 4, 2) := by decide +kernel
theorem dX7_common_24 : decode cX7_common 24 = .ok (.lload 8, 2) := by decide +kernel
theorem dX7_common_26 : decode cX7_common 26 = .ok (.lstore 6, 2) := by decide +kernel
theorem dX7_common_28 : decode cX7_common 28 = .ok (.goto (-22), 3) := by decide +kernel
theorem dX7_common_31 : decode cX7_common 31 = .ok (.lload 4, 2) := by decide +kernel
theorem dX7_common_33 : decode cX7_common 33 = .ok (.lreturn, 1) := by decide +kernel
theorem dX7_ones_0 : decode cX7_ones 0 = .ok (.iconst 0, 1) := by decide +kernel
theorem dX7_ones_1 : decode cX7_ones 1 = .ok (.istore_n 1, 1) := by decide +kernel
theorem dX7_ones_2 : decode cX7_ones 2 = .ok (.iconst 0, 1) := by decide +kernel
theorem dX7_ones_3 : decode cX7_ones 3 = .ok (.istore_n 2, 1) := by decide +kernel
theorem dX7_ones_4 : decode cX7_ones 4 = .ok (.iload_n 2, 1) := by decide +kernel
theorem dX7_ones_5 : decode cX7_ones 5 = .ok (.bipush 6, 2) := by decide +kernel
theorem dX7_ones_7 : decode cX7_ones 7 = .ok (.if_icmp .ge 17, 3) := by decide +kernel
theorem dX7_ones_10 : decode cX7_ones 10 = .ok (.iload_n 1, 1) := by decide +kernel
theorem dX7_ones_11 : decode cX7_ones 11 = .ok (.iload_n 0, 1) := by decide +kernel
theorem dX7_ones_12 : decode cX7_ones 12 = .ok (.iload_n 2, 1) := by decide +kernel
theorem dX7_ones_13 : decode cX7_ones 13 = .ok (.ishr, 1) := by decide +kernel
theorem dX7_ones_14 : decode cX7_ones 14 = .ok (.iconst 1, 1) := by decide +kernel
theorem dX7_ones_15 : decode cX7_ones 15 = .ok (.iand, 1) := by decide +kernel
theorem dX7_ones_16 : decode cX7_ones 16 = .ok (.iadd, 1) := by decide +kernel
theorem dX7_ones_17 : decode cX7_ones 17 = .ok (.istore_n 1, 1) := by decide +kernel
theorem dX7_ones_18 : decode cX7_ones 18 = .ok (.iinc 2 1, 3) := by decide +kernel
theorem dX7_ones_21 : decode cX7_ones 21 = .ok (.goto (-17), 3) := by decide +kernel
theorem dX7_ones_24 : decode cX7_ones 24 = .ok (.iload_n 1, 1) := by decide +kernel
theorem dX7_ones_25 : decode cX7_ones 25 = .ok (.ireturn, 1) := by decide +kernel
set_option maxRecDepth 20000 in
theorem ggX7_letter_X7_in : GoodIn wsX7_letter wsX7_in := goodIn_r _ [7] (by decide +kernel) (by decide +kernel)
set_option maxRecDepth 20000 in
theorem gX7_letter_X7_in : GoodIn wsX7_letter (va_wsS RX7 43 yX7_in wsX7_in) := goodIn_app (goodIn_of _ (by decide +kernel)) ggX7_letter_X7_in
theorem dX7_letter_0 : decode cX7_letter 0 = .ok (.iload_n 1, 1) := by decide +kernel
theorem dX7_letter_1 : decode cX7_letter 1 = .ok (.i2l, 1) := by decide +kernel
theorem dX7_letter_2 : decode cX7_letter 2 = .ok (.lconst 1, 1) := by decide +kernel
theorem dX7_letter_3 : decode cX7_letter 3 = .ok (.ldc2_w 41, 3) := by decide +kernel
theorem dX7_letter_6 : decode cX7_letter 6 = .ok (.invokestatic 43, 3) := by decide +kernel
theorem dX7_letter_9 : decode cX7_letter 9 = .ok (.ifCond .ne 6, 3) := by decide +kernel
theorem dX7_letter_12 : decode cX7_letter 12 = .ok (.bipush (-102), 2) := by decide +kernel
theorem dX7_letter_14 : decode cX7_letter 14 = .ok (.ireturn, 1) := by decide +kernel
theorem dX7_letter_15 : decode cX7_letter 15 = .ok (.aload_n 0, 1) := by decide +kernel
theorem dX7_letter_16 : decode cX7_letter 16 = .ok (.getfield 47, 3) := by decide +kernel
theorem dX7_letter_19 : decode cX7_letter 19 = .ok (.bipush 22, 2) := by decide +kernel
theorem dX7_letter_21 : decode cX7_letter 21 = .ok (.if_icmp .ne 6, 3) := by decide +kernel
theorem dX7_letter_24 : decode cX7_letter 24 = .ok (.bipush (-104), 2) := by decide +kernel
theorem dX7_letter_26 : decode cX7_letter 26 = .ok (.ireturn, 1) := by decide +kernel
theorem dX7_letter_27 : decode cX7_letter 27 = .ok (.aload_n 0, 1) := by decide +kernel
theorem dX7_letter_28 : decode cX7_letter 28 = .ok (.getfield 7, 3) := by decide +kernel
theorem dX7_letter_31 : decode cX7_letter 31 = .ok (.aload_n 0, 1) := by decide +kernel
theorem dX7_letter_32 : decode cX7_letter 32 = .ok (.getfield 47, 3) := by decide +kernel
theorem dX7_letter_35 : decode cX7_letter 35 = .ok (.iload_n 1, 1) := by decide +kernel
theorem dX7_letter_36 : decode cX7_letter 36 = .ok (.iastore, 1) := by decide +kernel
theorem dX7_letter_37 : decode cX7_letter 37 = .ok (.aload_n 0, 1) := by decide +kernel
theorem dX7_letter_38 : decode cX7_letter 38 = .ok (.dup, 1) := by decide +kernel
theorem dX7_letter_39 : decode cX7_letter 39 = .ok (.getfield 47, 3) := by decide +kernel
theorem dX7_letter_42 : decode cX7_letter 42 = .ok (.iconst 1, 1) := by decide +kernel
theorem dX7_letter_43 : decode cX7_letter 43 = .ok (.iadd, 1) := by decide +kernel
theorem dX7_letter_44 : decode cX7_letter 44 = .ok (.putfield 47, 3) := by decide +kernel
theorem dX7_letter_47 : decode cX7_letter 47 = .ok (.aload_n 0, 1) := by decide +kernel
theorem dX7_letter_48 : decode cX7_letter 48 = .ok (.getfield 47, 3) := by decide +kernel
theorem dX7_letter_51 : decode cX7_letter 51 = .ok (.ireturn, 1) := by decide +kernel
theorem dX7_blank_0 : decode cX7_blank 0 = .ok (.aload_n 0, 1) := by decide +kernel
theorem dX7_blank_1 : decode cX7_blank 1 = .ok (.getfield 47, 3) := by decide +kernel
theorem dX7_blank_4 : decode cX7_blank 4 = .ok (.istore_n 1, 1) := by decide +kernel
theorem dX7_blank_5 : decode cX7_blank 5 = .ok (.aload_n 0, 1) := by decide +kernel
theorem dX7_blank_6 : decode cX7_blank 6 = .ok (.iconst 0, 1) := by decide +kernel
theorem dX7_blank_7 : decode cX7_blank 7 = .ok (.putfield 47, 3) := by decide +kernel
theorem dX7_blank_10 : decode cX7_blank 10 = .ok (.iload_n 1, 1) := by decide +kernel
theorem dX7_blank_11 : decode cX7_blank 11 = .ok (.ireturn, 1) := by decide +kernel
theorem dX7_kindBy_0 : decode cX7_kindBy 0 = .ok (.iload_n 0, 1) := by decide +kernel
theorem dX7_kindBy_1 : decode cX7_kindBy 1 = .ok (.bipush 115, 2) := by decide +kernel
theorem dX7_kindBy_3 : decode cX7_kindBy 3 = .ok (.if_icmp .ne 7, 3) := by decide +kernel
theorem dX7_kindBy_6 : decode cX7_kindBy 6 = .ok (.iconst 0, 1) := by decide +kernel
theorem dX7_kindBy_7 : decode cX7_kindBy 7 = .ok (.goto 44, 3) := by decide +kernel
theorem dX7_kindBy_10 : decode cX7_kindBy 10 = .ok (.iload_n 0, 1) := by decide +kernel
theorem dX7_kindBy_11 : decode cX7_kindBy 11 = .ok (.bipush 108, 2) := by decide +kernel
theorem dX7_kindBy_13 : decode cX7_kindBy 13 = .ok (.if_icmp .ne 7, 3) := by decide +kernel
theorem dX7_kindBy_16 : decode cX7_kindBy 16 = .ok (.iconst 1, 1) := by decide +kernel
theorem dX7_kindBy_17 : decode cX7_kindBy 17 = .ok (.goto 34, 3) := by decide +kernel
theorem dX7_kindBy_20 : decode cX7_kindBy 20 = .ok (.iload_n 0, 1) := by decide +kernel
theorem dX7_kindBy_21 : decode cX7_kindBy 21 = .ok (.bipush 104, 2) := by decide +kernel
theorem dX7_kindBy_23 : decode cX7_kindBy 23 = .ok (.if_icmp .ne 7, 3) := by decide +kernel
theorem dX7_kindBy_26 : decode cX7_kindBy 26 = .ok (.iconst 2, 1) := by decide +kernel
theorem dX7_kindBy_27 : decode cX7_kindBy 27 = .ok (.goto 24, 3) := by decide +kernel
theorem dX7_kindBy_30 : decode cX7_kindBy 30 = .ok (.iload_n 0, 1) := by decide +kernel
theorem dX7_kindBy_31 : decode cX7_kindBy 31 = .ok (.bipush 110, 2) := by decide +kernel
theorem dX7_kindBy_33 : decode cX7_kindBy 33 = .ok (.if_icmp .ne 7, 3) := by decide +kernel
theorem dX7_kindBy_36 : decode cX7_kindBy 36 = .ok (.iconst 3, 1) := by decide +kernel
theorem dX7_kindBy_37 : decode cX7_kindBy 37 = .ok (.goto 14, 3) := by decide +kernel
theorem dX7_kindBy_40 : decode cX7_kindBy 40 = .ok (.iload_n 0, 1) := by decide +kernel
theorem dX7_kindBy_41 : decode cX7_kindBy 41 = .ok (.bipush 97, 2) := by decide +kernel
theorem dX7_kindBy_43 : decode cX7_kindBy 43 = .ok (.if_icmp .ne 7, 3) := by decide +kernel
theorem dX7_kindBy_46 : decode cX7_kindBy 46 = .ok (.iconst 4, 1) := by decide +kernel
theorem dX7_kindBy_47 : decode cX7_kindBy 47 = .ok (.goto 4, 3) := by decide +kernel
theorem dX7_kindBy_50 : decode cX7_kindBy 50 = .ok (.iconst (-1), 1) := by decide +kernel
theorem dX7_kindBy_51 : decode cX7_kindBy 51 = .ok (.ireturn, 1) := by decide +kernel
set_option maxRecDepth 20000 in
theorem ggX7_go_X7_kindBy : GoodIn wsX7_go wsX7_kindBy := goodIn_r _ [9] (by decide +kernel) (by decide +kernel)
set_option maxRecDepth 20000 in
theorem gX7_go_X7_kindBy : GoodIn wsX7_go (va_wsS RX7 56 yX7_kindBy wsX7_kindBy) := goodIn_app (goodIn_of _ (by decide +kernel)) ggX7_go_X7_kindBy
set_option maxRecDepth 20000 in
theorem ggX7_go_X7_in : GoodIn wsX7_go wsX7_in := goodIn_r _ [12] (by decide +kernel) (by decide +kernel)
set_option maxRecDepth 20000 in
theorem gX7_go_X7_in : GoodIn wsX7_go (va_wsS RX7 43 yX7_in wsX7_in) := goodIn_app (goodIn_of _ (by decide +kernel)) ggX7_go_X7_in
theorem dX7_go_0 : decode cX7_go 0 = .ok (.iload_n 1, 1) := by decide +kernel
theorem dX7_go_1 : decode cX7_go 1 = .ok (.bipush 48, 2) := by decide +kernel
theorem dX7_go_3 : decode cX7_go 3 = .ok (.isub, 1) := by decide +kernel
theorem dX7_go_4 : decode cX7_go 4 = .ok (.istore_n 2, 1) := by decide +kernel
theorem dX7_go_5 : decode cX7_go 5 = .ok (.aload_n 0, 1) := by decide +kernel
theorem dX7_go_6 : decode cX7_go 6 = .ok (.getfield 50, 3) := by decide +kernel
theorem dX7_go_9 : decode cX7_go 9 = .ok (.istore_n 3, 1) := by decide +kernel
theorem dX7_go_10 : decode cX7_go 10 = .ok (.aload_n 0, 1) := by decide +kernel
theorem dX7_go_11 : decode cX7_go 11 = .ok (.dup, 1) := by decide +kernel
theorem dX7_go_12 : decode cX7_go 12 = .ok (.getfield 50, 3) := by decide +kernel
theorem dX7_go_15 : decode cX7_go 15 = .ok (.iconst 1, 1) := by decide +kernel
theorem dX7_go_16 : decode cX7_go 16 = .ok (.iadd, 1) := by decide +kernel
theorem dX7_go_17 : decode cX7_go 17 = .ok (.putfield 50, 3) := by decide +kernel
theorem dX7_go_20 : decode cX7_go 20 = .ok (.iload_n 3, 1) := by decide +kernel
theorem dX7_go_21 : decode cX7_go 21 = .ok (.tableswitch 167 0 3 #[31, 60, 94, 152], 31) := by decide +kernel
theorem dX7_go_52 : decode cX7_go 52 = .ok (.aload_n 0, 1) := by decide +kernel
theorem dX7_go_53 : decode cX7_go 53 = .ok (.getfield 13, 3) := by decide +kernel
theorem dX7_go_56 : decode cX7_go 56 = .ok (.iconst 2, 1) := by decide +kernel
theorem dX7_go_57 : decode cX7_go 57 = .ok (.aload_n 0, 1) := by decide +kernel
theorem dX7_go_58 : decode cX7_go 58 = .ok (.getfield 53, 3) := by decide +kernel
theorem dX7_go_61 : decode cX7_go 61 = .ok (.imul, 1) := by decide +kernel
theorem dX7_go_62 : decode cX7_go 62 = .ok (.iload_n 1, 1) := by decide +kernel
theorem dX7_go_63 : decode cX7_go 63 = .ok (.invokestatic 56, 3) := by decide +kernel
theorem dX7_go_66 : decode cX7_go 66 = .ok (.iastore, 1) := by decide +kernel
theorem dX7_go_67 : decode cX7_go 67 = .ok (.iload_n 1, 1) := by decide +kernel
theorem dX7_go_68 : decode cX7_go 68 = .ok (.invokestatic 56, 3) := by decide +kernel
theorem dX7_go_71 : decode cX7_go 71 = .ok (.iconst (-1), 1) := by decide +kernel
theorem dX7_go_72 : decode cX7_go 72 = .ok (.if_icmp .eq 7, 3) := by decide +kernel
theorem dX7_go_75 : decode cX7_go 75 = .ok (.iconst 1, 1) := by decide +kernel
theorem dX7_go_76 : decode cX7_go 76 = .ok (.goto 4, 3) := by decide +kernel
theorem dX7_go_79 : decode cX7_go 79 = .ok (.iconst 0, 1) := by decide +kernel
theorem dX7_go_80 : decode cX7_go 80 = .ok (.ireturn, 1) := by decide +kernel
theorem dX7_go_81 : decode cX7_go 81 = .ok (.aload_n 0, 1) := by decide +kernel
theorem dX7_go_82 : decode cX7_go 82 = .ok (.getfield 13, 3) := by decide +kernel
theorem dX7_go_85 : decode cX7_go 85 = .ok (.iconst 2, 1) := by decide +kernel
theorem dX7_go_86 : decode cX7_go 86 = .ok (.aload_n 0, 1) := by decide +kernel
theorem dX7_go_87 : decode cX7_go 87 = .ok (.getfield 53, 3) := by decide +kernel
theorem dX7_go_90 : decode cX7_go 90 = .ok (.imul, 1) := by decide +kernel
theorem dX7_go_91 : decode cX7_go 91 = .ok (.iconst 1, 1) := by decide +kernel
theorem dX7_go_92 : decode cX7_go 92 = .ok (.iadd, 1) := by decide +kernel
theorem dX7_go_93 : decode cX7_go 93 = .ok (.iload_n 2, 1) := by decide +kernel
theorem dX7_go_94 : decode cX7_go 94 = .ok (.iastore, 1) := by decide +kernel
theorem dX7_go_95 : decode cX7_go 95 = .ok (.aload_n 0, 1) := by decide +kernel
theorem dX7_go_96 : decode cX7_go 96 = .ok (.dup, 1) := by decide +kernel
theorem dX7_go_97 : decode cX7_go 97 = .ok (.getfield 53, 3) := by decide +kernel
theorem dX7_go_100 : decode cX7_go 100 = .ok (.iconst 1, 1) := by decide +kernel
theorem dX7_go_101 : decode cX7_go 101 = .ok (.iadd, 1) := by decide +kernel
theorem dX7_go_102 : decode cX7_go 102 = .ok (.putfield 53, 3) := by decide +kernel
theorem dX7_go_105 : decode cX7_go 105 = .ok (.iload_n 2, 1) := by decide +kernel
theorem dX7_go_106 : decode cX7_go 106 = .ok (.i2l, 1) := by decide +kernel
theorem dX7_go_107 : decode cX7_go 107 = .ok (.lconst 0, 1) := by decide +kernel
theorem dX7_go_108 : decode cX7_go 108 = .ok (.ldc2_w 60, 3) := by decide +kernel
theorem dX7_go_111 : decode cX7_go 111 = .ok (.invokestatic 43, 3) := by decide +kernel
theorem dX7_go_114 : decode cX7_go 114 = .ok (.ireturn, 1) := by decide +kernel
theorem dX7_go_115 : decode cX7_go 115 = .ok (.aload_n 0, 1) := by decide +kernel
theorem dX7_go_116 : decode cX7_go 116 = .ok (.iload_n 1, 1) := by decide +kernel
theorem dX7_go_117 : decode cX7_go 117 = .ok (.bipush 44, 2) := by decide +kernel
theorem dX7_go_119 : decode cX7_go 119 = .ok (.if_icmp .ne 7, 3) := by decide +kernel
theorem dX7_go_122 : decode cX7_go 122 = .ok (.iconst 0, 1) := by decide +kernel
theorem dX7_go_123 : decode cX7_go 123 = .ok (.goto 4, 3) := by decide +kernel
theorem dX7_go_126 : decode cX7_go 126 = .ok (.iconst 3, 1) := by decide +kernel
theorem dX7_go_127 : decode cX7_go 127 = .ok (.putfield 50, 3) := by decide +kernel
theorem dX7_go_130 : decode cX7_go 130 = .ok (.iload_n 1, 1) := by decide +kernel
theorem dX7_go_131 : decode cX7_go 131 = .ok (.bipush 44, 2) := by decide +kernel
theorem dX7_go_133 : decode cX7_go 133 = .ok (.if_icmp .ne 20, 3) := by decide +kernel
theorem dX7_go_136 : decode cX7_go 136 = .ok (.aload_n 0, 1) := by decide +kernel
theorem dX7_go_137 : decode cX7_go 137 = .ok (.getfield 53, 3) := by decide +kernel
theorem dX7_go_140 : decode cX7_go 140 = .ok (.bipush 6, 2) := by decide +kernel
theorem dX7_go_142 : decode cX7_go 142 = .ok (.if_icmp .ge 7, 3) := by decide +kernel
theorem dX7_go_145 : decode cX7_go 145 = .ok (.iconst 1, 1) := by decide +kernel
theorem dX7_go_146 : decode cX7_go 146 = .ok (.goto 26, 3) := by decide +kernel
theorem dX7_go_149 : decode cX7_go 149 = .ok (.iconst 0, 1) := by decide +kernel
theorem dX7_go_150 : decode cX7_go 150 = .ok (.goto 22, 3) := by decide +kernel
theorem dX7_go_153 : decode cX7_go 153 = .ok (.iload_n 1, 1) := by decide +kernel
theorem dX7_go_154 : decode cX7_go 154 = .ok (.bipush 59, 2) := by decide +kernel
theorem dX7_go_156 : decode cX7_go 156 = .ok (.if_icmp .ne 15, 3) := by decide +kernel
theorem dX7_go_159 : decode cX7_go 159 = .ok (.aload_n 0, 1) := by decide +kernel
theorem dX7_go_160 : decode cX7_go 160 = .ok (.getfield 53, 3) := by decide +kernel
theorem dX7_go_163 : decode cX7_go 163 = .ok (.iconst 1, 1) := by decide +kernel
theorem dX7_go_164 : decode cX7_go 164 = .ok (.if_icmp .le 7, 3) := by decide +kernel
theorem dX7_go_167 : decode cX7_go 167 = .ok (.iconst 1, 1) := by decide +kernel
theorem dX7_go_168 : decode cX7_go 168 = .ok (.goto 4, 3) := by decide +kernel
theorem dX7_go_171 : decode cX7_go 171 = .ok (.iconst 0, 1) := by decide +kernel
theorem dX7_go_172 : decode cX7_go 172 = .ok (.ireturn, 1) := by decide +kernel
theorem dX7_go_173 : decode cX7_go 173 = .ok (.aload_n 0, 1) := by decide +kernel
theorem dX7_go_174 : decode cX7_go 174 = .ok (.iload_n 2, 1) := by decide +kernel
theorem dX7_go_175 : decode cX7_go 175 = .ok (.putfield 62, 3) := by decide +kernel
theorem dX7_go_178 : decode cX7_go 178 = .ok (.iload_n 2, 1) := by decide +kernel
theorem dX7_go_179 : decode cX7_go 179 = .ok (.i2l, 1) := by decide +kernel
theorem dX7_go_180 : decode cX7_go 180 = .ok (.lconst 0, 1) := by decide +kernel
theorem dX7_go_181 : decode cX7_go 181 = .ok (.ldc2_w 60, 3) := by decide +kernel
theorem dX7_go_184 : decode cX7_go 184 = .ok (.invokestatic 43, 3) := by decide +kernel
theorem dX7_go_187 : decode cX7_go 187 = .ok (.ireturn, 1) := by decide +kernel
theorem dX7_go_188 : decode cX7_go 188 = .ok (.iconst 0, 1) := by decide +kernel
theorem dX7_go_189 : decode cX7_go 189 = .ok (.ireturn, 1) := by decide +kernel
set_option maxRecDepth 20000 in
theorem ggX7_faultOf_X7_go : GoodIn wsX7_faultOf wsX7_go := goodIn_r _ [9, 2, 10, 1, 11, 12, 13, 14, 8, 15, 16, 17, 18, 19, 20, 21, 22, 23, 24, 25, 26, 27, 28, 29, 30, 31, 32, 33, 34, 35, 36, 37, 38, 39, 40, 41, 42, 43, 44, 45, 46, 47, 48] (by decide +kernel) (by decide +kernel)
set_option maxRecDepth 20000 in
theorem gX7_faultOf_X7_go : GoodIn wsX7_faultOf (wsV RX7 65 RX7 yX7_go wsX7_go) := goodIn_app (goodIn_of _ (by decide +kernel)) ggX7_faultOf_X7_go
theorem dX7_faultOf_0 : decode cX7_faultOf 0 = .ok (.aload_n 0, 1) := by decide +kernel
theorem dX7_faultOf_1 : decode cX7_faultOf 1 = .ok (.iconst 0, 1) := by decide +kernel
theorem dX7_faultOf_2 : decode cX7_faultOf 2 = .ok (.putfield 53, 3) := by decide +kernel
theorem dX7_faultOf_5 : decode cX7_faultOf 5 = .ok (.aload_n 0, 1) := by decide +kernel
theorem dX7_faultOf_6 : decode cX7_faultOf 6 = .ok (.iconst 0, 1) := by decide +kernel
theorem dX7_faultOf_7 : decode cX7_faultOf 7 = .ok (.putfield 50, 3) := by decide +kernel
theorem dX7_faultOf_10 : decode cX7_faultOf 10 = .ok (.iconst 0, 1) := by decide +kernel
theorem dX7_faultOf_11 : decode cX7_faultOf 11 = .ok (.istore_n 1, 1) := by decide +kernel
theorem dX7_faultOf_12 : decode cX7_faultOf 12 = .ok (.iload_n 1, 1) := by decide +kernel
theorem dX7_faultOf_13 : decode cX7_faultOf 13 = .ok (.aload_n 0, 1) := by decide +kernel
theorem dX7_faultOf_14 : decode cX7_faultOf 14 = .ok (.getfield 47, 3) := by decide +kernel
theorem dX7_faultOf_17 : decode cX7_faultOf 17 = .ok (.if_icmp .ge 22, 3) := by decide +kernel
theorem dX7_faultOf_20 : decode cX7_faultOf 20 = .ok (.aload_n 0, 1) := by decide +kernel
theorem dX7_faultOf_21 : decode cX7_faultOf 21 = .ok (.aload_n 0, 1) := by decide +kernel
theorem dX7_faultOf_22 : decode cX7_faultOf 22 = .ok (.getfield 7, 3) := by decide +kernel
theorem dX7_faultOf_25 : decode cX7_faultOf 25 = .ok (.iload_n 1, 1) := by decide +kernel
theorem dX7_faultOf_26 : decode cX7_faultOf 26 = .ok (.iaload, 1) := by decide +kernel
theorem dX7_faultOf_27 : decode cX7_faultOf 27 = .ok (.invokevirtual 65, 3) := by decide +kernel
theorem dX7_faultOf_30 : decode cX7_faultOf 30 = .ok (.ifCond .eq 9, 3) := by decide +kernel
theorem dX7_faultOf_33 : decode cX7_faultOf 33 = .ok (.iinc 1 1, 3) := by decide +kernel
theorem dX7_faultOf_36 : decode cX7_faultOf 36 = .ok (.goto (-24), 3) := by decide +kernel
theorem dX7_faultOf_39 : decode cX7_faultOf 39 = .ok (.iload_n 1, 1) := by decide +kernel
theorem dX7_faultOf_40 : decode cX7_faultOf 40 = .ok (.ireturn, 1) := by decide +kernel
set_option maxRecDepth 20000 in
theorem ggX7_fault_X7_faultOf : GoodIn wsX7_fault wsX7_faultOf := goodIn_r _ [5, 6, 7, 8, 9, 10, 11, 12, 4, 13, 14, 15, 16, 17, 18, 19, 20, 21, 22, 23, 24, 25, 26, 27, 28, 29, 30, 31, 32, 33, 34, 35, 36, 37, 38, 39, 40, 41, 42, 43, 44, 45, 46, 47, 48, 49, 50, 51, 52] (by decide +kernel) (by decide +kernel)
set_option maxRecDepth 20000 in
theorem gX7_fault_X7_faultOf : GoodIn wsX7_fault (wsV RX7 69 RX7 yX7_faultOf wsX7_faultOf) := goodIn_app (goodIn_of _ (by decide +kernel)) ggX7_fault_X7_faultOf
theorem dX7_fault_0 : decode cX7_fault 0 = .ok (.aload_n 0, 1) := by decide +kernel
theorem dX7_fault_1 : decode cX7_fault 1 = .ok (.invokevirtual 69, 3) := by decide +kernel
theorem dX7_fault_4 : decode cX7_fault 4 = .ok (.ireturn, 1) := by decide +kernel
set_option maxRecDepth 20000 in
theorem ggX7_player_X7_faultOf : GoodIn wsX7_player wsX7_faultOf := goodIn_r _ [18, 3, 2, 1, 19, 20, 21, 22, 17, 23, 6, 24, 7, 25, 26, 27, 28, 29, 30, 35, 36, 37, 38, 39, 40, 41, 42, 43, 44, 45, 46, 47, 48, 49, 50, 51, 52, 53, 54, 55, 56, 57, 58, 59, 60, 61, 62, 63, 64] (by decide +kernel) (by decide +kernel)
set_option maxRecDepth 20000 in
theorem gX7_player_X7_faultOf : GoodIn wsX7_player (wsV RX7 69 RX7 yX7_faultOf wsX7_faultOf) := goodIn_app (goodIn_of _ (by decide +kernel)) ggX7_player_X7_faultOf
set_option maxRecDepth 20000 in
theorem ggX7_player_X7_all : GoodIn wsX7_player wsX7_all := goodIn_r _ [34, 4, 35, 36, 37, 38, 39, 40, 41, 42, 43, 44, 45, 46, 47, 48, 49, 50, 51, 52, 53, 54, 55, 56, 57, 58, 59, 60, 61, 62, 63, 64] (by decide +kernel) (by decide +kernel)
set_option maxRecDepth 20000 in
theorem gX7_player_X7_all : GoodIn wsX7_player (wsV RX7 79 RX7 yX7_all wsX7_all) := goodIn_app (goodIn_of _ (by decide +kernel)) ggX7_player_X7_all
theorem dX7_player_0 : decode cX7_player 0 = .ok (.aload_n 0, 1) := by decide +kernel
theorem dX7_player_1 : decode cX7_player 1 = .ok (.invokevirtual 69, 3) := by decide +kernel
theorem dX7_player_4 : decode cX7_player 4 = .ok (.aload_n 0, 1) := by decide +kernel
theorem dX7_player_5 : decode cX7_player 5 = .ok (.getfield 47, 3) := by decide +kernel
theorem dX7_player_8 : decode cX7_player 8 = .ok (.if_icmp .lt 11, 3) := by decide +kernel
theorem dX7_player_11 : decode cX7_player 11 = .ok (.aload_n 0, 1) := by decide +kernel
theorem dX7_player_12 : decode cX7_player 12 = .ok (.getfield 50, 3) := by decide +kernel
theorem dX7_player_15 : decode cX7_player 15 = .ok (.iconst 4, 1) := by decide +kernel
theorem dX7_player_16 : decode cX7_player 16 = .ok (.if_icmp .eq 6, 3) := by decide +kernel
theorem dX7_player_19 : decode cX7_player 19 = .ok (.bipush (-103), 2) := by decide +kernel
theorem dX7_player_21 : decode cX7_player 21 = .ok (.ireturn, 1) := by decide +kernel
theorem dX7_player_22 : decode cX7_player 22 = .ok (.aload_n 0, 1) := by decide +kernel
theorem dX7_player_23 : decode cX7_player 23 = .ok (.aload_n 0, 1) := by decide +kernel
theorem dX7_player_24 : decode cX7_player 24 = .ok (.getfield 53, 3) := by decide +kernel
theorem dX7_player_27 : decode cX7_player 27 = .ok (.putfield 73, 3) := by decide +kernel
theorem dX7_player_30 : decode cX7_player 30 = .ok (.iconst 0, 1) := by decide +kernel
theorem dX7_player_31 : decode cX7_player 31 = .ok (.istore_n 1, 1) := by decide +kernel
theorem dX7_player_32 : decode cX7_player 32 = .ok (.iload_n 1, 1) := by decide +kernel
theorem dX7_player_33 : decode cX7_player 33 = .ok (.aload_n 0, 1) := by decide +kernel
theorem dX7_player_34 : decode cX7_player 34 = .ok (.getfield 73, 3) := by decide +kernel
theorem dX7_player_37 : decode cX7_player 37 = .ok (.if_icmp .ge 67, 3) := by decide +kernel
theorem dX7_player_40 : decode cX7_player 40 = .ok (.aload_n 0, 1) := by decide +kernel
theorem dX7_player_41 : decode cX7_player 41 = .ok (.getfield 16, 3) := by decide +kernel
theorem dX7_player_44 : decode cX7_player 44 = .ok (.iconst 4, 1) := by decide +kernel
theorem dX7_player_45 : decode cX7_player 45 = .ok (.iload_n 1, 1) := by decide +kernel
theorem dX7_player_46 : decode cX7_player 46 = .ok (.imul, 1) := by decide +kernel
theorem dX7_player_47 : decode cX7_player 47 = .ok (.aload_n 0, 1) := by decide +kernel
theorem dX7_player_48 : decode cX7_player 48 = .ok (.getfield 13, 3) := by decide +kernel
theorem dX7_player_51 : decode cX7_player 51 = .ok (.iconst 2, 1) := by decide +kernel
theorem dX7_player_52 : decode cX7_player 52 = .ok (.iload_n 1, 1) := by decide +kernel
theorem dX7_player_53 : decode cX7_player 53 = .ok (.imul, 1) := by decide +kernel
theorem dX7_player_54 : decode cX7_player 54 = .ok (.iaload, 1) := by decide +kernel
theorem dX7_player_55 : decode cX7_player 55 = .ok (.iastore, 1) := by decide +kernel
theorem dX7_player_56 : decode cX7_player 56 = .ok (.aload_n 0, 1) := by decide +kernel
theorem dX7_player_57 : decode cX7_player 57 = .ok (.getfield 16, 3) := by decide +kernel
theorem dX7_player_60 : decode cX7_player 60 = .ok (.iconst 4, 1) := by decide +kernel
theorem dX7_player_61 : decode cX7_player 61 = .ok (.iload_n 1, 1) := by decide +kernel
theorem dX7_player_62 : decode cX7_player 62 = .ok (.imul, 1) := by decide +kernel
theorem dX7_player_63 : decode cX7_player 63 = .ok (.iconst 1, 1) := by decide +kernel
theorem dX7_player_64 : decode cX7_player 64 = .ok (.iadd, 1) := by decide +kernel
theorem dX7_player_65 : decode cX7_player 65 = .ok (.aload_n 0, 1) := by decide +kernel
theorem dX7_player_66 : decode cX7_player 66 = .ok (.getfield 13, 3) := by decide +kernel
theorem dX7_player_69 : decode cX7_player 69 = .ok (.iconst 2, 1) := by decide +kernel
theorem dX7_player_70 : decode cX7_player 70 = .ok (.iload_n 1, 1) := by decide +kernel
theorem dX7_player_71 : decode cX7_player 71 = .ok (.imul, 1) := by decide +kernel
theorem dX7_player_72 : decode cX7_player 72 = .ok (.iconst 1, 1) := by decide +kernel
theorem dX7_player_73 : decode cX7_player 73 = .ok (.iadd, 1) := by decide +kernel
theorem dX7_player_74 : decode cX7_player 74 = .ok (.iaload, 1) := by decide +kernel
theorem dX7_player_75 : decode cX7_player 75 = .ok (.iastore, 1) := by decide +kernel
theorem dX7_player_76 : decode cX7_player 76 = .ok (.aload_n 0, 1) := by decide +kernel
theorem dX7_player_77 : decode cX7_player 77 = .ok (.getfield 16, 3) := by decide +kernel
theorem dX7_player_80 : decode cX7_player 80 = .ok (.iconst 4, 1) := by decide +kernel
theorem dX7_player_81 : decode cX7_player 81 = .ok (.iload_n 1, 1) := by decide +kernel
theorem dX7_player_82 : decode cX7_player 82 = .ok (.imul, 1) := by decide +kernel
theorem dX7_player_83 : decode cX7_player 83 = .ok (.iconst 2, 1) := by decide +kernel
theorem dX7_player_84 : decode cX7_player 84 = .ok (.iadd, 1) := by decide +kernel
theorem dX7_player_85 : decode cX7_player 85 = .ok (.iconst 0, 1) := by decide +kernel
theorem dX7_player_86 : decode cX7_player 86 = .ok (.iastore, 1) := by decide +kernel
theorem dX7_player_87 : decode cX7_player 87 = .ok (.aload_n 0, 1) := by decide +kernel
theorem dX7_player_88 : decode cX7_player 88 = .ok (.getfield 16, 3) := by decide +kernel
theorem dX7_player_91 : decode cX7_player 91 = .ok (.iconst 4, 1) := by decide +kernel
theorem dX7_player_92 : decode cX7_player 92 = .ok (.iload_n 1, 1) := by decide +kernel
theorem dX7_player_93 : decode cX7_player 93 = .ok (.imul, 1) := by decide +kernel
theorem dX7_player_94 : decode cX7_player 94 = .ok (.iconst 3, 1) := by decide +kernel
theorem dX7_player_95 : decode cX7_player 95 = .ok (.iadd, 1) := by decide +kernel
theorem dX7_player_96 : decode cX7_player 96 = .ok (.iconst 0, 1) := by decide +kernel
theorem dX7_player_97 : decode cX7_player 97 = .ok (.iastore, 1) := by decide +kernel
theorem dX7_player_98 : decode cX7_player 98 = .ok (.iinc 1 1, 3) := by decide +kernel
theorem dX7_player_101 : decode cX7_player 101 = .ok (.goto (-69), 3) := by decide +kernel
theorem dX7_player_104 : decode cX7_player 104 = .ok (.aload_n 0, 1) := by decide +kernel
theorem dX7_player_105 : decode cX7_player 105 = .ok (.aload_n 0, 1) := by decide +kernel
theorem dX7_player_106 : decode cX7_player 106 = .ok (.getfield 62, 3) := by decide +kernel
theorem dX7_player_109 : decode cX7_player 109 = .ok (.putfield 76, 3) := by decide +kernel
theorem dX7_player_112 : decode cX7_player 112 = .ok (.aload_n 0, 1) := by decide +kernel
theorem dX7_player_113 : decode cX7_player 113 = .ok (.aload_n 0, 1) := by decide +kernel
theorem dX7_player_114 : decode cX7_player 114 = .ok (.invokevirtual 79, 3) := by decide +kernel
theorem dX7_player_117 : decode cX7_player 117 = .ok (.putfield 82, 3) := by decide +kernel
theorem dX7_player_120 : decode cX7_player 120 = .ok (.aload_n 0, 1) := by decide +kernel
theorem dX7_player_121 : decode cX7_player 121 = .ok (.iconst (-1), 1) := by decide +kernel
theorem dX7_player_122 : decode cX7_player 122 = .ok (.putfield 38, 3) := by decide +kernel
theorem dX7_player_125 : decode cX7_player 125 = .ok (.aload_n 0, 1) := by decide +kernel
theorem dX7_player_126 : decode cX7_player 126 = .ok (.iconst 0, 1) := by decide +kernel
theorem dX7_player_127 : decode cX7_player 127 = .ok (.putfield 85, 3) := by decide +kernel
theorem dX7_player_130 : decode cX7_player 130 = .ok (.aload_n 0, 1) := by decide +kernel
theorem dX7_player_131 : decode cX7_player 131 = .ok (.iconst 0, 1) := by decide +kernel
theorem dX7_player_132 : decode cX7_player 132 = .ok (.putfield 89, 3) := by decide +kernel
theorem dX7_player_135 : decode cX7_player 135 = .ok (.aload_n 0, 1) := by decide +kernel
theorem dX7_player_136 : decode cX7_player 136 = .ok (.dup, 1) := by decide +kernel
theorem dX7_player_137 : decode cX7_player 137 = .ok (.getfield 92, 3) := by decide +kernel
theorem dX7_player_140 : decode cX7_player 140 = .ok (.iconst 1, 1) := by decide +kernel
theorem dX7_player_141 : decode cX7_player 141 = .ok (.iadd, 1) := by decide +kernel
theorem dX7_player_142 : decode cX7_player 142 = .ok (.putfield 92, 3) := by decide +kernel
theorem dX7_player_145 : decode cX7_player 145 = .ok (.aload_n 0, 1) := by decide +kernel
theorem dX7_player_146 : decode cX7_player 146 = .ok (.iconst 0, 1) := by decide +kernel
theorem dX7_player_147 : decode cX7_player 147 = .ok (.putfield 47, 3) := by decide +kernel
theorem dX7_player_150 : decode cX7_player 150 = .ok (.aload_n 0, 1) := by decide +kernel
theorem dX7_player_151 : decode cX7_player 151 = .ok (.getfield 73, 3) := by decide +kernel
theorem dX7_player_154 : decode cX7_player 154 = .ok (.ireturn, 1) := by decide +kernel
theorem dX7_all_0 : decode cX7_all 0 = .ok (.iconst 1, 1) := by decide +kernel
theorem dX7_all_1 : decode cX7_all 1 = .ok (.aload_n 0, 1) := by decide +kernel
theorem dX7_all_2 : decode cX7_all 2 = .ok (.getfield 73, 3) := by decide +kernel
theorem dX7_all_5 : decode cX7_all 5 = .ok (.ishl, 1) := by decide +kernel
theorem dX7_all_6 : decode cX7_all 6 = .ok (.iconst 1, 1) := by decide +kernel
theorem dX7_all_7 : decode cX7_all 7 = .ok (.isub, 1) := by decide +kernel
theorem dX7_all_8 : decode cX7_all 8 = .ok (.ireturn, 1) := by decide +kernel
theorem dX7_lacks_0 : decode cX7_lacks 0 = .ok (.aload_n 0, 1) := by decide +kernel
theorem dX7_lacks_1 : decode cX7_lacks 1 = .ok (.getfield 73, 3) := by decide +kernel
theorem dX7_lacks_4 : decode cX7_lacks 4 = .ok (.ifCond .ne 7, 3) := by decide +kernel
theorem dX7_lacks_7 : decode cX7_lacks 7 = .ok (.iconst 1, 1) := by decide +kernel
theorem dX7_lacks_8 : decode cX7_lacks 8 = .ok (.goto 4, 3) := by decide +kernel
theorem dX7_lacks_11 : decode cX7_lacks 11 = .ok (.iconst 0, 1) := by decide +kernel
theorem dX7_lacks_12 : decode cX7_lacks 12 = .ok (.ireturn, 1) := by decide +kernel
set_option maxRecDepth 20000 in
theorem ggX7_isSong_X7_in : GoodIn wsX7_isSong wsX7_in := goodIn_r _ [5] (by decide +kernel) (by decide +kernel)
set_option maxRecDepth 20000 in
theorem gX7_isSong_X7_in : GoodIn wsX7_isSong (va_wsS RX7 43 yX7_in wsX7_in) := goodIn_app (goodIn_of _ (by decide +kernel)) ggX7_isSong_X7_in
theorem dX7_isSong_0 : decode cX7_isSong 0 = .ok (.iload_n 1, 1) := by decide +kernel
theorem dX7_isSong_1 : decode cX7_isSong 1 = .ok (.i2l, 1) := by decide +kernel
theorem dX7_isSong_2 : decode cX7_isSong 2 = .ok (.lconst 0, 1) := by decide +kernel
theorem dX7_isSong_3 : decode cX7_isSong 3 = .ok (.aload_n 0, 1) := by decide +kernel
theorem dX7_isSong_4 : decode cX7_isSong 4 = .ok (.getfield 73, 3) := by decide +kernel
theorem dX7_isSong_7 : decode cX7_isSong 7 = .ok (.iconst 1, 1) := by decide +kernel
theorem dX7_isSong_8 : decode cX7_isSong 8 = .ok (.isub, 1) := by decide +kernel
theorem dX7_isSong_9 : decode cX7_isSong 9 = .ok (.i2l, 1) := by decide +kernel
theorem dX7_isSong_10 : decode cX7_isSong 10 = .ok (.invokestatic 43, 3) := by decide +kernel
theorem dX7_isSong_13 : decode cX7_isSong 13 = .ok (.ireturn, 1) := by decide +kernel
theorem dX7_baseOf_0 : decode cX7_baseOf 0 = .ok (.aload_n 0, 1) := by decide +kernel
theorem dX7_baseOf_1 : decode cX7_baseOf 1 = .ok (.getfield 16, 3) := by decide +kernel
theorem dX7_baseOf_4 : decode cX7_baseOf 4 = .ok (.iconst 4, 1) := by decide +kernel
theorem dX7_baseOf_5 : decode cX7_baseOf 5 = .ok (.iload_n 1, 1) := by decide +kernel
theorem dX7_baseOf_6 : decode cX7_baseOf 6 = .ok (.imul, 1) := by decide +kernel
theorem dX7_baseOf_7 : decode cX7_baseOf 7 = .ok (.iaload, 1) := by decide +kernel
theorem dX7_baseOf_8 : decode cX7_baseOf 8 = .ok (.iconst 2, 1) := by decide +kernel
theorem dX7_baseOf_9 : decode cX7_baseOf 9 = .ok (.if_icmp .ne 7, 3) := by decide +kernel
theorem dX7_baseOf_12 : decode cX7_baseOf 12 = .ok (.iconst 2, 1) := by decide +kernel
theorem dX7_baseOf_13 : decode cX7_baseOf 13 = .ok (.goto 20, 3) := by decide +kernel
theorem dX7_baseOf_16 : decode cX7_baseOf 16 = .ok (.aload_n 0, 1) := by decide +kernel
theorem dX7_baseOf_17 : decode cX7_baseOf 17 = .ok (.getfield 16, 3) := by decide +kernel
theorem dX7_baseOf_20 : decode cX7_baseOf 20 = .ok (.iconst 4, 1) := by decide +kernel
theorem dX7_baseOf_21 : decode cX7_baseOf 21 = .ok (.iload_n 1, 1) := by decide +kernel
theorem dX7_baseOf_22 : decode cX7_baseOf 22 = .ok (.imul, 1) := by decide +kernel
theorem dX7_baseOf_23 : decode cX7_baseOf 23 = .ok (.iaload, 1) := by decide +kernel
theorem dX7_baseOf_24 : decode cX7_baseOf 24 = .ok (.iconst 4, 1) := by decide +kernel
theorem dX7_baseOf_25 : decode cX7_baseOf 25 = .ok (.if_icmp .ne 7, 3) := by decide +kernel
theorem dX7_baseOf_28 : decode cX7_baseOf 28 = .ok (.iconst 3, 1) := by decide +kernel
theorem dX7_baseOf_29 : decode cX7_baseOf 29 = .ok (.goto 4, 3) := by decide +kernel
theorem dX7_baseOf_32 : decode cX7_baseOf 32 = .ok (.iconst 1, 1) := by decide +kernel
theorem dX7_baseOf_33 : decode cX7_baseOf 33 = .ok (.ireturn, 1) := by decide +kernel
set_option maxRecDepth 20000 in
theorem ggX7_weightOf_X7_baseOf : GoodIn wsX7_weightOf wsX7_baseOf := goodIn_r _ [6, 1, 7, 8, 9, 10, 11, 12, 13, 14, 15, 16, 17, 18, 19, 20, 21, 22, 23, 24, 25, 26, 27, 28, 29, 30, 31, 32, 33, 34, 35, 36] (by decide +kernel) (by decide +kernel)
set_option maxRecDepth 20000 in
theorem gX7_weightOf_X7_baseOf : GoodIn wsX7_weightOf (wsV RX7 95 RX7 yX7_baseOf wsX7_baseOf) := goodIn_app (goodIn_of _ (by decide +kernel)) ggX7_weightOf_X7_baseOf
theorem dX7_weightOf_0 : decode cX7_weightOf 0 = .ok (.aload_n 0, 1) := by decide +kernel
theorem dX7_weightOf_1 : decode cX7_weightOf 1 = .ok (.iload_n 1, 1) := by decide +kernel
theorem dX7_weightOf_2 : decode cX7_weightOf 2 = .ok (.invokevirtual 95, 3) := by decide +kernel
theorem dX7_weightOf_5 : decode cX7_weightOf 5 = .ok (.aload_n 0, 1) := by decide +kernel
theorem dX7_weightOf_6 : decode cX7_weightOf 6 = .ok (.getfield 16, 3) := by decide +kernel
theorem dX7_weightOf_9 : decode cX7_weightOf 9 = .ok (.iconst 4, 1) := by decide +kernel
theorem dX7_weightOf_10 : decode cX7_weightOf 10 = .ok (.iload_n 1, 1) := by decide +kernel
theorem dX7_weightOf_11 : decode cX7_weightOf 11 = .ok (.imul, 1) := by decide +kernel
theorem dX7_weightOf_12 : decode cX7_weightOf 12 = .ok (.iconst 3, 1) := by decide +kernel
theorem dX7_weightOf_13 : decode cX7_weightOf 13 = .ok (.iadd, 1) := by decide +kernel
theorem dX7_weightOf_14 : decode cX7_weightOf 14 = .ok (.iaload, 1) := by decide +kernel
theorem dX7_weightOf_15 : decode cX7_weightOf 15 = .ok (.isub, 1) := by decide +kernel
theorem dX7_weightOf_16 : decode cX7_weightOf 16 = .ok (.istore_n 2, 1) := by decide +kernel
theorem dX7_weightOf_17 : decode cX7_weightOf 17 = .ok (.iload_n 2, 1) := by decide +kernel
theorem dX7_weightOf_18 : decode cX7_weightOf 18 = .ok (.ifCond .ge 7, 3) := by decide +kernel
theorem dX7_weightOf_21 : decode cX7_weightOf 21 = .ok (.iconst 0, 1) := by decide +kernel
theorem dX7_weightOf_22 : decode cX7_weightOf 22 = .ok (.goto 4, 3) := by decide +kernel
theorem dX7_weightOf_25 : decode cX7_weightOf 25 = .ok (.iload_n 2, 1) := by decide +kernel
theorem dX7_weightOf_26 : decode cX7_weightOf 26 = .ok (.ireturn, 1) := by decide +kernel
theorem dX7_minutesOf_0 : decode cX7_minutesOf 0 = .ok (.aload_n 0, 1) := by decide +kernel
theorem dX7_minutesOf_1 : decode cX7_minutesOf 1 = .ok (.getfield 16, 3) := by decide +kernel
theorem dX7_minutesOf_4 : decode cX7_minutesOf 4 = .ok (.iconst 4, 1) := by decide +kernel
theorem dX7_minutesOf_5 : decode cX7_minutesOf 5 = .ok (.iload_n 1, 1) := by decide +kernel
theorem dX7_minutesOf_6 : decode cX7_minutesOf 6 = .ok (.imul, 1) := by decide +kernel
theorem dX7_minutesOf_7 : decode cX7_minutesOf 7 = .ok (.iaload, 1) := by decide +kernel
theorem dX7_minutesOf_8 : decode cX7_minutesOf 8 = .ok (.iconst 1, 1) := by decide +kernel
theorem dX7_minutesOf_9 : decode cX7_minutesOf 9 = .ok (.if_icmp .ne 8, 3) := by decide +kernel
theorem dX7_minutesOf_12 : decode cX7_minutesOf 12 = .ok (.bipush 7, 2) := by decide +kernel
theorem dX7_minutesOf_14 : decode cX7_minutesOf 14 = .ok (.goto 4, 3) := by decide +kernel
theorem dX7_minutesOf_17 : decode cX7_minutesOf 17 = .ok (.iconst 3, 1) := by decide +kernel
theorem dX7_minutesOf_18 : decode cX7_minutesOf 18 = .ok (.ireturn, 1) := by decide +kernel
set_option maxRecDepth 20000 in
theorem ggX7_mayBy_X7_all : GoodIn wsX7_mayBy wsX7_all := goodIn_r _ [7, 1, 8, 9, 10, 11, 12, 13, 14, 15, 16, 17, 18, 19, 20, 21, 22, 23, 24, 25, 26, 27, 28, 29, 30, 31, 32, 33, 34, 35, 36, 37] (by decide +kernel) (by decide +kernel)
set_option maxRecDepth 20000 in
theorem gX7_mayBy_X7_all : GoodIn wsX7_mayBy (wsV RX7 79 RX7 yX7_all wsX7_all) := goodIn_app (goodIn_of _ (by decide +kernel)) ggX7_mayBy_X7_all
theorem dX7_mayBy_0 : decode cX7_mayBy 0 = .ok (.iload_n 1, 1) := by decide +kernel
theorem dX7_mayBy_1 : decode cX7_mayBy 1 = .ok (.iconst 1, 1) := by decide +kernel
theorem dX7_mayBy_2 : decode cX7_mayBy 2 = .ok (.if_icmp .le 7, 3) := by decide +kernel
theorem dX7_mayBy_5 : decode cX7_mayBy 5 = .ok (.iload_n 2, 1) := by decide +kernel
theorem dX7_mayBy_6 : decode cX7_mayBy 6 = .ok (.goto 7, 3) := by decide +kernel
theorem dX7_mayBy_9 : decode cX7_mayBy 9 = .ok (.aload_n 0, 1) := by decide +kernel
theorem dX7_mayBy_10 : decode cX7_mayBy 10 = .ok (.invokevirtual 79, 3) := by decide +kernel
theorem dX7_mayBy_13 : decode cX7_mayBy 13 = .ok (.istore 4, 2) := by decide +kernel
theorem dX7_mayBy_15 : decode cX7_mayBy 15 = .ok (.iload_n 1, 1) := by decide +kernel
theorem dX7_mayBy_16 : decode cX7_mayBy 16 = .ok (.iconst 2, 1) := by decide +kernel
theorem dX7_mayBy_17 : decode cX7_mayBy 17 = .ok (.irem, 1) := by decide +kernel
theorem dX7_mayBy_18 : decode cX7_mayBy 18 = .ok (.ifCond .eq 8, 3) := by decide +kernel
theorem dX7_mayBy_21 : decode cX7_mayBy 21 = .ok (.iload_n 3, 1) := by decide +kernel
theorem dX7_mayBy_22 : decode cX7_mayBy 22 = .ok (.iconst (-1), 1) := by decide +kernel
theorem dX7_mayBy_23 : decode cX7_mayBy 23 = .ok (.if_icmp .ne 6, 3) := by decide +kernel
theorem dX7_mayBy_26 : decode cX7_mayBy 26 = .ok (.iload 4, 2) := by decide +kernel
theorem dX7_mayBy_28 : decode cX7_mayBy 28 = .ok (.ireturn, 1) := by decide +kernel
theorem dX7_mayBy_29 : decode cX7_mayBy 29 = .ok (.iconst 0, 1) := by decide +kernel
theorem dX7_mayBy_30 : decode cX7_mayBy 30 = .ok (.istore 5, 2) := by decide +kernel
theorem dX7_mayBy_32 : decode cX7_mayBy 32 = .ok (.iconst 0, 1) := by decide +kernel
theorem dX7_mayBy_33 : decode cX7_mayBy 33 = .ok (.istore 6, 2) := by decide +kernel
theorem dX7_mayBy_35 : decode cX7_mayBy 35 = .ok (.iload 6, 2) := by decide +kernel
theorem dX7_mayBy_37 : decode cX7_mayBy 37 = .ok (.aload_n 0, 1) := by decide +kernel
theorem dX7_mayBy_38 : decode cX7_mayBy 38 = .ok (.getfield 73, 3) := by decide +kernel
theorem dX7_mayBy_41 : decode cX7_mayBy 41 = .ok (.if_icmp .ge 74, 3) := by decide +kernel
theorem dX7_mayBy_44 : decode cX7_mayBy 44 = .ok (.aload_n 0, 1) := by decide +kernel
theorem dX7_mayBy_45 : decode cX7_mayBy 45 = .ok (.getfield 16, 3) := by decide +kernel
theorem dX7_mayBy_48 : decode cX7_mayBy 48 = .ok (.iconst 4, 1) := by decide +kernel
theorem dX7_mayBy_49 : decode cX7_mayBy 49 = .ok (.iload 6, 2) := by decide +kernel
theorem dX7_mayBy_51 : decode cX7_mayBy 51 = .ok (.imul, 1) := by decide +kernel
theorem dX7_mayBy_52 : decode cX7_mayBy 52 = .ok (.iaload, 1) := by decide +kernel
theorem dX7_mayBy_53 : decode cX7_mayBy 53 = .ok (.iconst 3, 1) := by decide +kernel
theorem dX7_mayBy_54 : decode cX7_mayBy 54 = .ok (.if_icmp .eq 27, 3) := by decide +kernel
theorem dX7_mayBy_57 : decode cX7_mayBy 57 = .ok (.aload_n 0, 1) := by decide +kernel
theorem dX7_mayBy_58 : decode cX7_mayBy 58 = .ok (.getfield 16, 3) := by decide +kernel
theorem dX7_mayBy_61 : decode cX7_mayBy 61 = .ok (.iconst 4, 1) := by decide +kernel
theorem dX7_mayBy_62 : decode cX7_mayBy 62 = .ok (.iload 6, 2) := by decide +kernel
theorem dX7_mayBy_64 : decode cX7_mayBy 64 = .ok (.imul, 1) := by decide +kernel
theorem dX7_mayBy_65 : decode cX7_mayBy 65 = .ok (.iconst 1, 1) := by decide +kernel
theorem dX7_mayBy_66 : decode cX7_mayBy 66 = .ok (.iadd, 1) := by decide +kernel
theorem dX7_mayBy_67 : decode cX7_mayBy 67 = .ok (.iaload, 1) := by decide +kernel
theorem dX7_mayBy_68 : decode cX7_mayBy 68 = .ok (.aload_n 0, 1) := by decide +kernel
theorem dX7_mayBy_69 : decode cX7_mayBy 69 = .ok (.getfield 16, 3) := by decide +kernel
theorem dX7_mayBy_72 : decode cX7_mayBy 72 = .ok (.iconst 4, 1) := by decide +kernel
theorem dX7_mayBy_73 : decode cX7_mayBy 73 = .ok (.iload_n 3, 1) := by decide +kernel
theorem dX7_mayBy_74 : decode cX7_mayBy 74 = .ok (.imul, 1) := by decide +kernel
theorem dX7_mayBy_75 : decode cX7_mayBy 75 = .ok (.iconst 1, 1) := by decide +kernel
theorem dX7_mayBy_76 : decode cX7_mayBy 76 = .ok (.iadd, 1) := by decide +kernel
theorem dX7_mayBy_77 : decode cX7_mayBy 77 = .ok (.iaload, 1) := by decide +kernel
theorem dX7_mayBy_78 : decode cX7_mayBy 78 = .ok (.if_icmp .eq 7, 3) := by decide +kernel
theorem dX7_mayBy_81 : decode cX7_mayBy 81 = .ok (.iconst 1, 1) := by decide +kernel
theorem dX7_mayBy_82 : decode cX7_mayBy 82 = .ok (.goto 4, 3) := by decide +kernel
theorem dX7_mayBy_85 : decode cX7_mayBy 85 = .ok (.iconst 0, 1) := by decide +kernel
theorem dX7_mayBy_86 : decode cX7_mayBy 86 = .ok (.istore 7, 2) := by decide +kernel
theorem dX7_mayBy_88 : decode cX7_mayBy 88 = .ok (.iload 5, 2) := by decide +kernel
theorem dX7_mayBy_90 : decode cX7_mayBy 90 = .ok (.iload 7, 2) := by decide +kernel
theorem dX7_mayBy_92 : decode cX7_mayBy 92 = .ok (.ifCond .eq 13, 3) := by decide +kernel
theorem dX7_mayBy_95 : decode cX7_mayBy 95 = .ok (.iload 4, 2) := by decide +kernel
theorem dX7_mayBy_97 : decode cX7_mayBy 97 = .ok (.iconst 1, 1) := by decide +kernel
theorem dX7_mayBy_98 : decode cX7_mayBy 98 = .ok (.iload 6, 2) := by decide +kernel
theorem dX7_mayBy_100 : decode cX7_mayBy 100 = .ok (.ishl, 1) := by decide +kernel
theorem dX7_mayBy_101 : decode cX7_mayBy 101 = .ok (.iand, 1) := by decide +kernel
theorem dX7_mayBy_102 : decode cX7_mayBy 102 = .ok (.goto 4, 3) := by decide +kernel
theorem dX7_mayBy_105 : decode cX7_mayBy 105 = .ok (.iconst 0, 1) := by decide +kernel
theorem dX7_mayBy_106 : decode cX7_mayBy 106 = .ok (.ior, 1) := by decide +kernel
theorem dX7_mayBy_107 : decode cX7_mayBy 107 = .ok (.istore 5, 2) := by decide +kernel
theorem dX7_mayBy_109 : decode cX7_mayBy 109 = .ok (.iinc 6 1, 3) := by decide +kernel
theorem dX7_mayBy_112 : decode cX7_mayBy 112 = .ok (.goto (-77), 3) := by decide +kernel
theorem dX7_mayBy_115 : decode cX7_mayBy 115 = .ok (.iload 5, 2) := by decide +kernel
theorem dX7_mayBy_117 : decode cX7_mayBy 117 = .ok (.ifCond .ne 8, 3) := by decide +kernel
theorem dX7_mayBy_120 : decode cX7_mayBy 120 = .ok (.iload 4, 2) := by decide +kernel
theorem dX7_mayBy_122 : decode cX7_mayBy 122 = .ok (.goto 5, 3) := by decide +kernel
theorem dX7_mayBy_125 : decode cX7_mayBy 125 = .ok (.iload 5, 2) := by decide +kernel
theorem dX7_mayBy_127 : decode cX7_mayBy 127 = .ok (.ireturn, 1) := by decide +kernel
set_option maxRecDepth 20000 in
theorem ggX7_bagBehind_X7_all : GoodIn wsX7_bagBehind wsX7_all := goodIn_r _ [5, 6, 7, 8, 9, 10, 11, 12, 13, 14, 15, 16, 17, 18, 19, 20, 21, 22, 23, 24, 25, 26, 27, 28, 29, 30, 31, 32, 33, 34, 35, 36] (by decide +kernel) (by decide +kernel)
set_option maxRecDepth 20000 in
theorem gX7_bagBehind_X7_all : GoodIn wsX7_bagBehind (wsV RX7 79 RX7 yX7_all wsX7_all) := goodIn_app (goodIn_of _ (by decide +kernel)) ggX7_bagBehind_X7_all
theorem dX7_bagBehind_0 : decode cX7_bagBehind 0 = .ok (.iload_n 1, 1) := by decide +kernel
theorem dX7_bagBehind_1 : decode cX7_bagBehind 1 = .ok (.iconst 1, 1) := by decide +kernel
theorem dX7_bagBehind_2 : decode cX7_bagBehind 2 = .ok (.iload_n 2, 1) := by decide +kernel
theorem dX7_bagBehind_3 : decode cX7_bagBehind 3 = .ok (.ishl, 1) := by decide +kernel
theorem dX7_bagBehind_4 : decode cX7_bagBehind 4 = .ok (.iconst (-1), 1) := by decide +kernel
theorem dX7_bagBehind_5 : decode cX7_bagBehind 5 = .ok (.ixor, 1) := by decide +kernel
theorem dX7_bagBehind_6 : decode cX7_bagBehind 6 = .ok (.iand, 1) := by decide +kernel
theorem dX7_bagBehind_7 : decode cX7_bagBehind 7 = .ok (.istore_n 3, 1) := by decide +kernel
theorem dX7_bagBehind_8 : decode cX7_bagBehind 8 = .ok (.iload_n 3, 1) := by decide +kernel
theorem dX7_bagBehind_9 : decode cX7_bagBehind 9 = .ok (.ifCond .ne 10, 3) := by decide +kernel
theorem dX7_bagBehind_12 : decode cX7_bagBehind 12 = .ok (.aload_n 0, 1) := by decide +kernel
theorem dX7_bagBehind_13 : decode cX7_bagBehind 13 = .ok (.invokevirtual 79, 3) := by decide +kernel
theorem dX7_bagBehind_16 : decode cX7_bagBehind 16 = .ok (.goto 4, 3) := by decide +kernel
theorem dX7_bagBehind_19 : decode cX7_bagBehind 19 = .ok (.iload_n 3, 1) := by decide +kernel
theorem dX7_bagBehind_20 : decode cX7_bagBehind 20 = .ok (.ireturn, 1) := by decide +kernel
set_option maxRecDepth 20000 in
theorem ggX7_mayNow_X7_mayBy : GoodIn wsX7_mayNow wsX7_mayBy := goodIn_r _ [8, 9, 10, 11, 12, 13, 7, 14, 15, 16, 17, 18, 19, 20, 21, 22, 23, 24, 25, 26, 27, 28, 29, 30, 31, 32, 33, 34, 35, 36, 37, 38, 39, 40, 41, 42, 43, 44] (by decide +kernel) (by decide +kernel)
set_option maxRecDepth 20000 in
theorem gX7_mayNow_X7_mayBy : GoodIn wsX7_mayNow (wsV RX7 98 RX7 yX7_mayBy wsX7_mayBy) := goodIn_app (goodIn_of _ (by decide +kernel)) ggX7_mayNow_X7_mayBy
theorem dX7_mayNow_0 : decode cX7_mayNow 0 = .ok (.aload_n 0, 1) := by decide +kernel
theorem dX7_mayNow_1 : decode cX7_mayNow 1 = .ok (.aload_n 0, 1) := by decide +kernel
theorem dX7_mayNow_2 : decode cX7_mayNow 2 = .ok (.getfield 76, 3) := by decide +kernel
theorem dX7_mayNow_5 : decode cX7_mayNow 5 = .ok (.aload_n 0, 1) := by decide +kernel
theorem dX7_mayNow_6 : decode cX7_mayNow 6 = .ok (.getfield 82, 3) := by decide +kernel
theorem dX7_mayNow_9 : decode cX7_mayNow 9 = .ok (.aload_n 0, 1) := by decide +kernel
theorem dX7_mayNow_10 : decode cX7_mayNow 10 = .ok (.getfield 38, 3) := by decide +kernel
theorem dX7_mayNow_13 : decode cX7_mayNow 13 = .ok (.invokevirtual 98, 3) := by decide +kernel
theorem dX7_mayNow_16 : decode cX7_mayNow 16 = .ok (.ireturn, 1) := by decide +kernel
set_option maxRecDepth 20000 in
theorem ggX7_sumOf_X7_baseOf : GoodIn wsX7_sumOf wsX7_baseOf := goodIn_r _ [6, 7, 12, 13, 14, 15, 16, 17, 18, 19, 20, 21, 22, 23, 24, 25, 26, 27, 28, 29, 30, 31, 32, 33, 34, 35, 36, 37, 38, 39, 40, 41] (by decide +kernel) (by decide +kernel)
set_option maxRecDepth 20000 in
theorem gX7_sumOf_X7_baseOf : GoodIn wsX7_sumOf (wsV RX7 95 RX7 yX7_baseOf wsX7_baseOf) := goodIn_app (goodIn_of _ (by decide +kernel)) ggX7_sumOf_X7_baseOf
set_option maxRecDepth 20000 in
theorem ggX7_sumOf_X7_weightOf : GoodIn wsX7_sumOf wsX7_weightOf := goodIn_r _ [11, 7, 2, 3, 4, 5, 6, 12, 13, 14, 15, 16, 17, 18, 19, 20, 21, 22, 23, 24, 25, 26, 27, 28, 29, 30, 31, 32, 33, 34, 35, 36, 37, 38, 39, 40, 41] (by decide +kernel) (by decide +kernel)
set_option maxRecDepth 20000 in
theorem gX7_sumOf_X7_weightOf : GoodIn wsX7_sumOf (wsV RX7 102 RX7 yX7_weightOf wsX7_weightOf) := goodIn_app (goodIn_of _ (by decide +kernel)) ggX7_sumOf_X7_weightOf
theorem dX7_sumOf_0 : decode cX7_sumOf 0 = .ok (.iconst 0, 1) := by decide +kernel
theorem dX7_sumOf_1 : decode cX7_sumOf 1 = .ok (.istore_n 3, 1) := by decide +kernel
theorem dX7_sumOf_2 : decode cX7_sumOf 2 = .ok (.iconst 0, 1) := by decide +kernel
theorem dX7_sumOf_3 : decode cX7_sumOf 3 = .ok (.istore 4, 2) := by decide +kernel
theorem dX7_sumOf_5 : decode cX7_sumOf 5 = .ok (.iload 4, 2) := by decide +kernel
theorem dX7_sumOf_7 : decode cX7_sumOf 7 = .ok (.aload_n 0, 1) := by decide +kernel
theorem dX7_sumOf_8 : decode cX7_sumOf 8 = .ok (.getfield 73, 3) := by decide +kernel
theorem dX7_sumOf_11 : decode cX7_sumOf 11 = .ok (.if_icmp .ge 38, 3) := by decide +kernel
theorem dX7_sumOf_14 : decode cX7_sumOf 14 = .ok (.iload_n 3, 1) := by decide +kernel
theorem dX7_sumOf_15 : decode cX7_sumOf 15 = .ok (.iload_n 1, 1) := by decide +kernel
theorem dX7_sumOf_16 : decode cX7_sumOf 16 = .ok (.iload 4, 2) := by decide +kernel
theorem dX7_sumOf_18 : decode cX7_sumOf 18 = .ok (.ishr, 1) := by decide +kernel
theorem dX7_sumOf_19 : decode cX7_sumOf 19 = .ok (.iconst 1, 1) := by decide +kernel
theorem dX7_sumOf_20 : decode cX7_sumOf 20 = .ok (.iand, 1) := by decide +kernel
theorem dX7_sumOf_21 : decode cX7_sumOf 21 = .ok (.iload_n 2, 1) := by decide +kernel
theorem dX7_sumOf_22 : decode cX7_sumOf 22 = .ok (.ifCond .eq 12, 3) := by decide +kernel
theorem dX7_sumOf_25 : decode cX7_sumOf 25 = .ok (.aload_n 0, 1) := by decide +kernel
theorem dX7_sumOf_26 : decode cX7_sumOf 26 = .ok (.iload 4, 2) := by decide +kernel
theorem dX7_sumOf_28 : decode cX7_sumOf 28 = .ok (.invokevirtual 95, 3) := by decide +kernel
theorem dX7_sumOf_31 : decode cX7_sumOf 31 = .ok (.goto 9, 3) := by decide +kernel
theorem dX7_sumOf_34 : decode cX7_sumOf 34 = .ok (.aload_n 0, 1) := by decide +kernel
theorem dX7_sumOf_35 : decode cX7_sumOf 35 = .ok (.iload 4, 2) := by decide +kernel
theorem dX7_sumOf_37 : decode cX7_sumOf 37 = .ok (.invokevirtual 102, 3) := by decide +kernel
theorem dX7_sumOf_40 : decode cX7_sumOf 40 = .ok (.imul, 1) := by decide +kernel
theorem dX7_sumOf_41 : decode cX7_sumOf 41 = .ok (.iadd, 1) := by decide +kernel
theorem dX7_sumOf_42 : decode cX7_sumOf 42 = .ok (.istore_n 3, 1) := by decide +kernel
theorem dX7_sumOf_43 : decode cX7_sumOf 43 = .ok (.iinc 4 1, 3) := by decide +kernel
theorem dX7_sumOf_46 : decode cX7_sumOf 46 = .ok (.goto (-41), 3) := by decide +kernel
theorem dX7_sumOf_49 : decode cX7_sumOf 49 = .ok (.iload_n 3, 1) := by decide +kernel
theorem dX7_sumOf_50 : decode cX7_sumOf 50 = .ok (.ireturn, 1) := by decide +kernel
set_option maxRecDepth 20000 in
theorem ggX7_shareOf_X7_sumOf : GoodIn wsX7_shareOf wsX7_sumOf := goodIn_r _ [5, 6, 7, 8, 9, 4, 10, 11, 12, 13, 14, 15, 16, 17, 18, 19, 20, 21, 22, 23, 24, 25, 26, 27, 28, 29, 30, 31, 32, 33, 34, 35, 36, 37, 38, 39, 40, 41, 42, 43, 44, 45] (by decide +kernel) (by decide +kernel)
set_option maxRecDepth 20000 in
theorem gX7_shareOf_X7_sumOf : GoodIn wsX7_shareOf (wsV RX7 105 RX7 yX7_sumOf wsX7_sumOf) := goodIn_app (goodIn_of _ (by decide +kernel)) ggX7_shareOf_X7_sumOf
set_option maxRecDepth 20000 in
theorem ggX7_shareOf_X7_weightOf : GoodIn wsX7_shareOf wsX7_weightOf := goodIn_r _ [15, 11, 7, 8, 9, 4, 10, 16, 17, 18, 19, 20, 21, 22, 23, 24, 25, 26, 27, 28, 29, 30, 31, 32, 33, 34, 35, 36, 37, 38, 39, 40, 41, 42, 43, 44, 45] (by decide +kernel) (by decide +kernel)
set_option maxRecDepth 20000 in
theorem gX7_shareOf_X7_weightOf : GoodIn wsX7_shareOf (wsV RX7 102 RX7 yX7_weightOf wsX7_weightOf) := goodIn_app (goodIn_of _ (by decide +kernel)) ggX7_shareOf_X7_weightOf
theorem dX7_shareOf_0 : decode cX7_shareOf 0 = .ok (.iload_n 2, 1) := by decide +kernel
theorem dX7_shareOf_1 : decode cX7_shareOf 1 = .ok (.iload_n 1, 1) := by decide +kernel
theorem dX7_shareOf_2 : decode cX7_shareOf 2 = .ok (.ishr, 1) := by decide +kernel
theorem dX7_shareOf_3 : decode cX7_shareOf 3 = .ok (.iconst 1, 1) := by decide +kernel
theorem dX7_shareOf_4 : decode cX7_shareOf 4 = .ok (.iand, 1) := by decide +kernel
theorem dX7_shareOf_5 : decode cX7_shareOf 5 = .ok (.ifCond .ne 5, 3) := by decide +kernel
theorem dX7_shareOf_8 : decode cX7_shareOf 8 = .ok (.iconst 0, 1) := by decide +kernel
theorem dX7_shareOf_9 : decode cX7_shareOf 9 = .ok (.ireturn, 1) := by decide +kernel
theorem dX7_shareOf_10 : decode cX7_shareOf 10 = .ok (.aload_n 0, 1) := by decide +kernel
theorem dX7_shareOf_11 : decode cX7_shareOf 11 = .ok (.iload_n 2, 1) := by decide +kernel
theorem dX7_shareOf_12 : decode cX7_shareOf 12 = .ok (.iconst 0, 1) := by decide +kernel
theorem dX7_shareOf_13 : decode cX7_shareOf 13 = .ok (.invokevirtual 105, 3) := by decide +kernel
theorem dX7_shareOf_16 : decode cX7_shareOf 16 = .ok (.ifCond .ne 7, 3) := by decide +kernel
theorem dX7_shareOf_19 : decode cX7_shareOf 19 = .ok (.iconst 1, 1) := by decide +kernel
theorem dX7_shareOf_20 : decode cX7_shareOf 20 = .ok (.goto 8, 3) := by decide +kernel
theorem dX7_shareOf_23 : decode cX7_shareOf 23 = .ok (.aload_n 0, 1) := by decide +kernel
theorem dX7_shareOf_24 : decode cX7_shareOf 24 = .ok (.iload_n 1, 1) := by decide +kernel
theorem dX7_shareOf_25 : decode cX7_shareOf 25 = .ok (.invokevirtual 102, 3) := by decide +kernel
theorem dX7_shareOf_28 : decode cX7_shareOf 28 = .ok (.ireturn, 1) := by decide +kernel
set_option maxRecDepth 20000 in
theorem ggX7_sharesOf_X7_sumOf : GoodIn wsX7_sharesOf wsX7_sumOf := goodIn_r _ [5, 6, 7, 8, 9, 4, 10, 11, 12, 13, 14, 15, 19, 20, 21, 22, 23, 24, 25, 26, 27, 28, 29, 30, 31, 32, 33, 34, 35, 36, 37, 38, 39, 40, 41, 42, 43, 44, 45, 46, 47, 48] (by decide +kernel) (by decide +kernel)
set_option maxRecDepth 20000 in
theorem gX7_sharesOf_X7_sumOf : GoodIn wsX7_sharesOf (wsV RX7 105 RX7 yX7_sumOf wsX7_sumOf) := goodIn_app (goodIn_of _ (by decide +kernel)) ggX7_sharesOf_X7_sumOf
set_option maxRecDepth 20000 in
theorem ggX7_sharesOf_X7_ones : GoodIn wsX7_sharesOf wsX7_ones := goodIn_r _ [18] (by decide +kernel) (by decide +kernel)
set_option maxRecDepth 20000 in
theorem gX7_sharesOf_X7_ones : GoodIn wsX7_sharesOf (va_wsS RX7 109 yX7_ones wsX7_ones) := goodIn_app (goodIn_of _ (by decide +kernel)) ggX7_sharesOf_X7_ones
theorem dX7_sharesOf_0 : decode cX7_sharesOf 0 = .ok (.aload_n 0, 1) := by decide +kernel
theorem dX7_sharesOf_1 : decode cX7_sharesOf 1 = .ok (.iload_n 1, 1) := by decide +kernel
theorem dX7_sharesOf_2 : decode cX7_sharesOf 2 = .ok (.iconst 0, 1) := by decide +kernel
theorem dX7_sharesOf_3 : decode cX7_sharesOf 3 = .ok (.invokevirtual 105, 3) := by decide +kernel
theorem dX7_sharesOf_6 : decode cX7_sharesOf 6 = .ok (.istore_n 2, 1) := by decide +kernel
theorem dX7_sharesOf_7 : decode cX7_sharesOf 7 = .ok (.iload_n 2, 1) := by decide +kernel
theorem dX7_sharesOf_8 : decode cX7_sharesOf 8 = .ok (.ifCond .ne 10, 3) := by decide +kernel
theorem dX7_sharesOf_11 : decode cX7_sharesOf 11 = .ok (.iload_n 1, 1) := by decide +kernel
theorem dX7_sharesOf_12 : decode cX7_sharesOf 12 = .ok (.invokestatic 109, 3) := by decide +kernel
theorem dX7_sharesOf_15 : decode cX7_sharesOf 15 = .ok (.goto 4, 3) := by decide +kernel
theorem dX7_sharesOf_18 : decode cX7_sharesOf 18 = .ok (.iload_n 2, 1) := by decide +kernel
theorem dX7_sharesOf_19 : decode cX7_sharesOf 19 = .ok (.ireturn, 1) := by decide +kernel
set_option maxRecDepth 20000 in
theorem ggX7_chanceOf_X7_mayNow : GoodIn wsX7_chanceOf wsX7_mayNow := goodIn_r _ [5, 6, 7, 8, 9, 10, 11, 4, 12, 13, 14, 15, 16, 17, 18, 45, 46, 47, 48, 49, 50, 51, 52, 53, 54, 55, 56, 57, 58, 59, 60, 61, 62, 63, 64, 65, 66, 67, 68, 69, 70, 71, 72, 73, 74] (by decide +kernel) (by decide +kernel)
set_option maxRecDepth 20000 in
theorem gX7_chanceOf_X7_mayNow : GoodIn wsX7_chanceOf (wsV RX7 112 RX7 yX7_mayNow wsX7_mayNow) := goodIn_app (goodIn_of _ (by decide +kernel)) ggX7_chanceOf_X7_mayNow
set_option maxRecDepth 20000 in
theorem ggX7_chanceOf_X7_sharesOf : GoodIn wsX7_chanceOf wsX7_sharesOf := goodIn_r _ [22, 23, 24, 25, 4, 26, 13, 27, 28, 29, 30, 14, 31, 32, 33, 34, 35, 36, 37, 45, 46, 47, 48, 49, 50, 51, 52, 53, 54, 55, 56, 57, 58, 59, 60, 61, 62, 63, 64, 65, 66, 67, 68, 69, 70, 71, 72, 73, 74] (by decide +kernel) (by decide +kernel)
set_option maxRecDepth 20000 in
theorem gX7_chanceOf_X7_sharesOf : GoodIn wsX7_chanceOf (wsV RX7 115 RX7 yX7_sharesOf wsX7_sharesOf) := goodIn_app (goodIn_of _ (by decide +kernel)) ggX7_chanceOf_X7_sharesOf
set_option maxRecDepth 20000 in
theorem ggX7_chanceOf_X7_shareOf : GoodIn wsX7_chanceOf wsX7_shareOf := goodIn_r _ [41, 23, 24, 25, 4, 26, 13, 27, 28, 29, 30, 14, 31, 32, 33, 34, 45, 46, 47, 48, 49, 50, 51, 52, 53, 54, 55, 56, 57, 58, 59, 60, 61, 62, 63, 64, 65, 66, 67, 68, 69, 70, 71, 72, 73, 74] (by decide +kernel) (by decide +kernel)
set_option maxRecDepth 20000 in
theorem gX7_chanceOf_X7_shareOf : GoodIn wsX7_chanceOf (wsV RX7 118 RX7 yX7_shareOf wsX7_shareOf) := goodIn_app (goodIn_of _ (by decide +kernel)) ggX7_chanceOf_X7_shareOf
set_option maxRecDepth 20000 in
theorem ggX7_chanceOf_X7_common : GoodIn wsX7_chanceOf wsX7_common := goodIn_r _ [44] (by decide +kernel) (by decide +kernel)
set_option maxRecDepth 20000 in
theorem gX7_chanceOf_X7_common : GoodIn wsX7_chanceOf (va_wsS RX7 122 yX7_common wsX7_common) := goodIn_app (goodIn_of _ (by decide +kernel)) ggX7_chanceOf_X7_common
theorem dX7_chanceOf_0 : decode cX7_chanceOf 0 = .ok (.aload_n 0, 1) := by decide +kernel
theorem dX7_chanceOf_1 : decode cX7_chanceOf 1 = .ok (.invokevirtual 112, 3) := by decide +kernel
theorem dX7_chanceOf_4 : decode cX7_chanceOf 4 = .ok (.istore_n 3, 1) := by decide +kernel
theorem dX7_chanceOf_5 : decode cX7_chanceOf 5 = .ok (.aload_n 0, 1) := by decide +kernel
theorem dX7_chanceOf_6 : decode cX7_chanceOf 6 = .ok (.iload_n 3, 1) := by decide +kernel
theorem dX7_chanceOf_7 : decode cX7_chanceOf 7 = .ok (.invokevirtual 115, 3) := by decide +kernel
theorem dX7_chanceOf_10 : decode cX7_chanceOf 10 = .ok (.i2l, 1) := by decide +kernel
theorem dX7_chanceOf_11 : decode cX7_chanceOf 11 = .ok (.aload_n 0, 1) := by decide +kernel
theorem dX7_chanceOf_12 : decode cX7_chanceOf 12 = .ok (.iload_n 1, 1) := by decide +kernel
theorem dX7_chanceOf_13 : decode cX7_chanceOf 13 = .ok (.iload_n 3, 1) := by decide +kernel
theorem dX7_chanceOf_14 : decode cX7_chanceOf 14 = .ok (.invokevirtual 118, 3) := by decide +kernel
theorem dX7_chanceOf_17 : decode cX7_chanceOf 17 = .ok (.i2l, 1) := by decide +kernel
theorem dX7_chanceOf_18 : decode cX7_chanceOf 18 = .ok (.invokestatic 122, 3) := by decide +kernel
theorem dX7_chanceOf_21 : decode cX7_chanceOf 21 = .ok (.l2i, 1) := by decide +kernel
theorem dX7_chanceOf_22 : decode cX7_chanceOf 22 = .ok (.istore 4, 2) := by decide +kernel
theorem dX7_chanceOf_24 : decode cX7_chanceOf 24 = .ok (.iload_n 2, 1) := by decide +kernel
theorem dX7_chanceOf_25 : decode cX7_chanceOf 25 = .ok (.ifCond .ne 15, 3) := by decide +kernel
theorem dX7_chanceOf_28 : decode cX7_chanceOf 28 = .ok (.aload_n 0, 1) := by decide +kernel
theorem dX7_chanceOf_29 : decode cX7_chanceOf 29 = .ok (.iload_n 1, 1) := by decide +kernel
theorem dX7_chanceOf_30 : decode cX7_chanceOf 30 = .ok (.iload_n 3, 1) := by decide +kernel
theorem dX7_chanceOf_31 : decode cX7_chanceOf 31 = .ok (.invokevirtual 118, 3) := by decide +kernel
theorem dX7_chanceOf_34 : decode cX7_chanceOf 34 = .ok (.iload 4, 2) := by decide +kernel
theorem dX7_chanceOf_36 : decode cX7_chanceOf 36 = .ok (.idiv, 1) := by decide +kernel
theorem dX7_chanceOf_37 : decode cX7_chanceOf 37 = .ok (.goto 11, 3) := by decide +kernel
theorem dX7_chanceOf_40 : decode cX7_chanceOf 40 = .ok (.aload_n 0, 1) := by decide +kernel
theorem dX7_chanceOf_41 : decode cX7_chanceOf 41 = .ok (.iload_n 3, 1) := by decide +kernel
theorem dX7_chanceOf_42 : decode cX7_chanceOf 42 = .ok (.invokevirtual 115, 3) := by decide +kernel
theorem dX7_chanceOf_45 : decode cX7_chanceOf 45 = .ok (.iload 4, 2) := by decide +kernel
theorem dX7_chanceOf_47 : decode cX7_chanceOf 47 = .ok (.idiv, 1) := by decide +kernel
theorem dX7_chanceOf_48 : decode cX7_chanceOf 48 = .ok (.ireturn, 1) := by decide +kernel
set_option maxRecDepth 20000 in
theorem ggX7_tell_X7_weightOf : GoodIn wsX7_tell wsX7_weightOf := goodIn_r _ [7, 1, 8, 9, 10, 6, 11, 53, 54, 55, 56, 57, 58, 59, 60, 61, 62, 63, 64, 65, 66, 67, 68, 69, 70, 71, 72, 73, 74, 75, 76, 77, 78, 79, 80, 81, 82] (by decide +kernel) (by decide +kernel)
set_option maxRecDepth 20000 in
theorem gX7_tell_X7_weightOf : GoodIn wsX7_tell (wsV RX7 102 RX7 yX7_weightOf wsX7_weightOf) := goodIn_app (goodIn_of _ (by decide +kernel)) ggX7_tell_X7_weightOf
set_option maxRecDepth 20000 in
theorem ggX7_tell_X7_minutesOf : GoodIn wsX7_tell wsX7_minutesOf := goodIn_r _ [15, 1, 53, 54, 55, 56, 57, 58, 59, 60, 61, 62, 63, 64, 65, 66, 67, 68, 69, 70, 71, 72, 73, 74, 75, 76, 77, 78, 79, 80, 81, 82] (by decide +kernel) (by decide +kernel)
set_option maxRecDepth 20000 in
theorem gX7_tell_X7_minutesOf : GoodIn wsX7_tell (wsV RX7 126 RX7 yX7_minutesOf wsX7_minutesOf) := goodIn_app (goodIn_of _ (by decide +kernel)) ggX7_tell_X7_minutesOf
set_option maxRecDepth 20000 in
theorem ggX7_tell_X7_mayNow : GoodIn wsX7_tell wsX7_mayNow := goodIn_r _ [19, 20, 2, 21, 22, 23, 24, 6, 25, 26, 1, 27, 28, 29, 30, 53, 54, 55, 56, 57, 58, 59, 60, 61, 62, 63, 64, 65, 66, 67, 68, 69, 70, 71, 72, 73, 74, 75, 76, 77, 78, 79, 80, 81, 82] (by decide +kernel) (by decide +kernel)
set_option maxRecDepth 20000 in
theorem gX7_tell_X7_mayNow : GoodIn wsX7_tell (wsV RX7 112 RX7 yX7_mayNow wsX7_mayNow) := goodIn_app (goodIn_of _ (by decide +kernel)) ggX7_tell_X7_mayNow
set_option maxRecDepth 20000 in
theorem ggX7_tell_X7_chanceOf : GoodIn wsX7_tell wsX7_chanceOf := goodIn_r _ [34, 16, 17, 18, 6, 19, 20, 2, 21, 22, 23, 24, 25, 26, 1, 27, 28, 29, 30, 35, 36, 37, 38, 39, 40, 41, 42, 8, 9, 10, 11, 3, 4, 5, 7, 43, 44, 45, 46, 47, 48, 49, 50, 51, 52, 53, 54, 55, 56, 57, 58, 59, 60, 61, 62, 63, 64, 65, 66, 67, 68, 69, 70, 71, 72, 73, 74, 75, 76, 77, 78, 79, 80, 81, 82] (by decide +kernel) (by decide +kernel)
set_option maxRecDepth 20000 in
theorem gX7_tell_X7_chanceOf : GoodIn wsX7_tell (wsV RX7 129 RX7 yX7_chanceOf wsX7_chanceOf) := goodIn_app (goodIn_of _ (by decide +kernel)) ggX7_tell_X7_chanceOf
theorem dX7_tell_0 : decode cX7_tell 0 = .ok (.iload_n 2, 1) := by decide +kernel
theorem dX7_tell_1 : decode cX7_tell 1 = .ok (.tableswitch 119 0 9 #[55, 55, 66, 72, 78, 78, 91, 100, 109, 109], 55) := by decide +kernel
theorem dX7_tell_56 : decode cX7_tell 56 = .ok (.aload_n 0, 1) := by decide +kernel
theorem dX7_tell_57 : decode cX7_tell 57 = .ok (.getfield 16, 3) := by decide +kernel
theorem dX7_tell_60 : decode cX7_tell 60 = .ok (.iconst 4, 1) := by decide +kernel
theorem dX7_tell_61 : decode cX7_tell 61 = .ok (.iload_n 1, 1) := by decide +kernel
theorem dX7_tell_62 : decode cX7_tell 62 = .ok (.imul, 1) := by decide +kernel
theorem dX7_tell_63 : decode cX7_tell 63 = .ok (.iload_n 2, 1) := by decide +kernel
theorem dX7_tell_64 : decode cX7_tell 64 = .ok (.iadd, 1) := by decide +kernel
theorem dX7_tell_65 : decode cX7_tell 65 = .ok (.iaload, 1) := by decide +kernel
theorem dX7_tell_66 : decode cX7_tell 66 = .ok (.ireturn, 1) := by decide +kernel
theorem dX7_tell_67 : decode cX7_tell 67 = .ok (.aload_n 0, 1) := by decide +kernel
theorem dX7_tell_68 : decode cX7_tell 68 = .ok (.iload_n 1, 1) := by decide +kernel
theorem dX7_tell_69 : decode cX7_tell 69 = .ok (.invokevirtual 102, 3) := by decide +kernel
theorem dX7_tell_72 : decode cX7_tell 72 = .ok (.ireturn, 1) := by decide +kernel
theorem dX7_tell_73 : decode cX7_tell 73 = .ok (.aload_n 0, 1) := by decide +kernel
theorem dX7_tell_74 : decode cX7_tell 74 = .ok (.iload_n 1, 1) := by decide +kernel
theorem dX7_tell_75 : decode cX7_tell 75 = .ok (.invokevirtual 126, 3) := by decide +kernel
theorem dX7_tell_78 : decode cX7_tell 78 = .ok (.ireturn, 1) := by decide +kernel
theorem dX7_tell_79 : decode cX7_tell 79 = .ok (.aload_n 0, 1) := by decide +kernel
theorem dX7_tell_80 : decode cX7_tell 80 = .ok (.getfield 16, 3) := by decide +kernel
theorem dX7_tell_83 : decode cX7_tell 83 = .ok (.iconst 4, 1) := by decide +kernel
theorem dX7_tell_84 : decode cX7_tell 84 = .ok (.iload_n 1, 1) := by decide +kernel
theorem dX7_tell_85 : decode cX7_tell 85 = .ok (.imul, 1) := by decide +kernel
theorem dX7_tell_86 : decode cX7_tell 86 = .ok (.iload_n 2, 1) := by decide +kernel
theorem dX7_tell_87 : decode cX7_tell 87 = .ok (.iadd, 1) := by decide +kernel
theorem dX7_tell_88 : decode cX7_tell 88 = .ok (.iconst 2, 1) := by decide +kernel
theorem dX7_tell_89 : decode cX7_tell 89 = .ok (.isub, 1) := by decide +kernel
theorem dX7_tell_90 : decode cX7_tell 90 = .ok (.iaload, 1) := by decide +kernel
theorem dX7_tell_91 : decode cX7_tell 91 = .ok (.ireturn, 1) := by decide +kernel
theorem dX7_tell_92 : decode cX7_tell 92 = .ok (.aload_n 0, 1) := by decide +kernel
theorem dX7_tell_93 : decode cX7_tell 93 = .ok (.getfield 82, 3) := by decide +kernel
theorem dX7_tell_96 : decode cX7_tell 96 = .ok (.iload_n 1, 1) := by decide +kernel
theorem dX7_tell_97 : decode cX7_tell 97 = .ok (.ishr, 1) := by decide +kernel
theorem dX7_tell_98 : decode cX7_tell 98 = .ok (.iconst 1, 1) := by decide +kernel
theorem dX7_tell_99 : decode cX7_tell 99 = .ok (.iand, 1) := by decide +kernel
theorem dX7_tell_100 : decode cX7_tell 100 = .ok (.ireturn, 1) := by decide +kernel
theorem dX7_tell_101 : decode cX7_tell 101 = .ok (.aload_n 0, 1) := by decide +kernel
theorem dX7_tell_102 : decode cX7_tell 102 = .ok (.invokevirtual 112, 3) := by decide +kernel
theorem dX7_tell_105 : decode cX7_tell 105 = .ok (.iload_n 1, 1) := by decide +kernel
theorem dX7_tell_106 : decode cX7_tell 106 = .ok (.ishr, 1) := by decide +kernel
theorem dX7_tell_107 : decode cX7_tell 107 = .ok (.iconst 1, 1) := by decide +kernel
theorem dX7_tell_108 : decode cX7_tell 108 = .ok (.iand, 1) := by decide +kernel
theorem dX7_tell_109 : decode cX7_tell 109 = .ok (.ireturn, 1) := by decide +kernel
theorem dX7_tell_110 : decode cX7_tell 110 = .ok (.aload_n 0, 1) := by decide +kernel
theorem dX7_tell_111 : decode cX7_tell 111 = .ok (.iload_n 1, 1) := by decide +kernel
theorem dX7_tell_112 : decode cX7_tell 112 = .ok (.iload_n 2, 1) := by decide +kernel
theorem dX7_tell_113 : decode cX7_tell 113 = .ok (.bipush 8, 2) := by decide +kernel
theorem dX7_tell_115 : decode cX7_tell 115 = .ok (.isub, 1) := by decide +kernel
theorem dX7_tell_116 : decode cX7_tell 116 = .ok (.invokevirtual 129, 3) := by decide +kernel
theorem dX7_tell_119 : decode cX7_tell 119 = .ok (.ireturn, 1) := by decide +kernel
theorem dX7_tell_120 : decode cX7_tell 120 = .ok (.bipush (-102), 2) := by decide +kernel
theorem dX7_tell_122 : decode cX7_tell 122 = .ok (.ireturn, 1) := by decide +kernel
set_option maxRecDepth 20000 in
theorem ggX7_song_X7_isSong : GoodIn wsX7_song wsX7_isSong := goodIn_r _ [5, 6, 7, 8, 4, 9, 64, 65, 66, 67, 68, 69, 70, 71, 72, 73, 74, 75, 76, 77, 78, 79, 80, 81, 82, 83, 84, 85, 86, 87, 88, 89, 90, 91, 92, 93] (by decide +kernel) (by decide +kernel)
set_option maxRecDepth 20000 in
theorem gX7_song_X7_isSong : GoodIn wsX7_song (wsV RX7 132 RX7 yX7_isSong wsX7_isSong) := goodIn_app (goodIn_of _ (by decide +kernel)) ggX7_song_X7_isSong
set_option maxRecDepth 20000 in
theorem ggX7_song_X7_tell : GoodIn wsX7_song wsX7_tell := goodIn_r _ [13, 14, 15, 16, 17, 18, 4, 19, 20, 21, 22, 23, 24, 25, 26, 27, 28, 29, 30, 31, 32, 33, 34, 35, 36, 37, 6, 38, 39, 40, 41, 42, 43, 44, 45, 46, 47, 48, 49, 50, 51, 52, 53, 54, 55, 56, 57, 58, 59, 60, 61, 62, 63, 64, 65, 66, 67, 68, 69, 70, 71, 72, 73, 74, 75, 76, 77, 78, 79, 80, 81, 82, 83, 84, 85, 86, 87, 88, 89, 90, 91, 92, 93] (by decide +kernel) (by decide +kernel)
set_option maxRecDepth 20000 in
theorem gX7_song_X7_tell : GoodIn wsX7_song (wsV RX7 135 RX7 yX7_tell wsX7_tell) := goodIn_app (goodIn_of _ (by decide +kernel)) ggX7_song_X7_tell
theorem dX7_song_0 : decode cX7_song 0 = .ok (.aload_n 0, 1) := by decide +kernel
theorem dX7_song_1 : decode cX7_song 1 = .ok (.iload_n 1, 1) := by decide +kernel
theorem dX7_song_2 : decode cX7_song 2 = .ok (.invokevirtual 132, 3) := by decide +kernel
theorem dX7_song_5 : decode cX7_song 5 = .ok (.ifCond .eq 12, 3) := by decide +kernel
theorem dX7_song_8 : decode cX7_song 8 = .ok (.aload_n 0, 1) := by decide +kernel
theorem dX7_song_9 : decode cX7_song 9 = .ok (.iload_n 1, 1) := by decide +kernel
theorem dX7_song_10 : decode cX7_song 10 = .ok (.iload_n 2, 1) := by decide +kernel
theorem dX7_song_11 : decode cX7_song 11 = .ok (.invokevirtual 135, 3) := by decide +kernel
theorem dX7_song_14 : decode cX7_song 14 = .ok (.goto 5, 3) := by decide +kernel
theorem dX7_song_17 : decode cX7_song 17 = .ok (.bipush (-101), 2) := by decide +kernel
theorem dX7_song_19 : decode cX7_song 19 = .ok (.ireturn, 1) := by decide +kernel
set_option maxRecDepth 20000 in
theorem ggX7_as_X7_isSong : GoodIn wsX7_as wsX7_isSong := goodIn_r _ [7, 8, 9, 10, 6, 11, 12, 13, 14, 15, 16, 17, 18, 19, 20, 21, 22, 23, 24, 25, 26, 27, 28, 29, 30, 31, 32, 33, 34, 35, 36, 37, 38, 39, 40, 41] (by decide +kernel) (by decide +kernel)
set_option maxRecDepth 20000 in
theorem gX7_as_X7_isSong : GoodIn wsX7_as (wsV RX7 132 RX7 yX7_isSong wsX7_isSong) := goodIn_app (goodIn_of _ (by decide +kernel)) ggX7_as_X7_isSong
set_option maxRecDepth 20000 in
theorem ggX7_as_X7_in : GoodIn wsX7_as wsX7_in := goodIn_r _ [11] (by decide +kernel) (by decide +kernel)
set_option maxRecDepth 20000 in
theorem gX7_as_X7_in : GoodIn wsX7_as (va_wsS RX7 43 yX7_in wsX7_in) := goodIn_app (goodIn_of _ (by decide +kernel)) ggX7_as_X7_in
theorem dX7_as_0 : decode cX7_as 0 = .ok (.aload_n 0, 1) := by decide +kernel
theorem dX7_as_1 : decode cX7_as 1 = .ok (.iload_n 1, 1) := by decide +kernel
theorem dX7_as_2 : decode cX7_as 2 = .ok (.invokevirtual 132, 3) := by decide +kernel
theorem dX7_as_5 : decode cX7_as 5 = .ok (.ifCond .ne 6, 3) := by decide +kernel
theorem dX7_as_8 : decode cX7_as 8 = .ok (.bipush (-101), 2) := by decide +kernel
theorem dX7_as_10 : decode cX7_as 10 = .ok (.ireturn, 1) := by decide +kernel
theorem dX7_as_11 : decode cX7_as 11 = .ok (.iload_n 2, 1) := by decide +kernel
theorem dX7_as_12 : decode cX7_as 12 = .ok (.i2l, 1) := by decide +kernel
theorem dX7_as_13 : decode cX7_as 13 = .ok (.lconst 0, 1) := by decide +kernel
theorem dX7_as_14 : decode cX7_as 14 = .ok (.ldc2_w 138, 3) := by decide +kernel
theorem dX7_as_17 : decode cX7_as 17 = .ok (.invokestatic 43, 3) := by decide +kernel
theorem dX7_as_20 : decode cX7_as 20 = .ok (.ifCond .ne 6, 3) := by decide +kernel
theorem dX7_as_23 : decode cX7_as 23 = .ok (.bipush (-102), 2) := by decide +kernel
theorem dX7_as_25 : decode cX7_as 25 = .ok (.ireturn, 1) := by decide +kernel
theorem dX7_as_26 : decode cX7_as 26 = .ok (.aload_n 0, 1) := by decide +kernel
theorem dX7_as_27 : decode cX7_as 27 = .ok (.getfield 16, 3) := by decide +kernel
theorem dX7_as_30 : decode cX7_as 30 = .ok (.iconst 4, 1) := by decide +kernel
theorem dX7_as_31 : decode cX7_as 31 = .ok (.iload_n 1, 1) := by decide +kernel
theorem dX7_as_32 : decode cX7_as 32 = .ok (.imul, 1) := by decide +kernel
theorem dX7_as_33 : decode cX7_as 33 = .ok (.iaload, 1) := by decide +kernel
theorem dX7_as_34 : decode cX7_as 34 = .ok (.istore_n 3, 1) := by decide +kernel
theorem dX7_as_35 : decode cX7_as 35 = .ok (.iload_n 2, 1) := by decide +kernel
theorem dX7_as_36 : decode cX7_as 36 = .ok (.ifCond .eq 18, 3) := by decide +kernel
theorem dX7_as_39 : decode cX7_as 39 = .ok (.iload_n 2, 1) := by decide +kernel
theorem dX7_as_40 : decode cX7_as 40 = .ok (.iload_n 3, 1) := by decide +kernel
theorem dX7_as_41 : decode cX7_as 41 = .ok (.if_icmp .eq 13, 3) := by decide +kernel
theorem dX7_as_44 : decode cX7_as 44 = .ok (.iload_n 2, 1) := by decide +kernel
theorem dX7_as_45 : decode cX7_as 45 = .ok (.iconst 2, 1) := by decide +kernel
theorem dX7_as_46 : decode cX7_as 46 = .ok (.if_icmp .ne 12, 3) := by decide +kernel
theorem dX7_as_49 : decode cX7_as 49 = .ok (.iload_n 3, 1) := by decide +kernel
theorem dX7_as_50 : decode cX7_as 50 = .ok (.iconst 4, 1) := by decide +kernel
theorem dX7_as_51 : decode cX7_as 51 = .ok (.if_icmp .ne 7, 3) := by decide +kernel
theorem dX7_as_54 : decode cX7_as 54 = .ok (.iconst 1, 1) := by decide +kernel
theorem dX7_as_55 : decode cX7_as 55 = .ok (.goto 4, 3) := by decide +kernel
theorem dX7_as_58 : decode cX7_as 58 = .ok (.iconst 0, 1) := by decide +kernel
theorem dX7_as_59 : decode cX7_as 59 = .ok (.istore 4, 2) := by decide +kernel
theorem dX7_as_61 : decode cX7_as 61 = .ok (.iload 4, 2) := by decide +kernel
theorem dX7_as_63 : decode cX7_as 63 = .ok (.ifCond .eq 7, 3) := by decide +kernel
theorem dX7_as_66 : decode cX7_as 66 = .ok (.iload_n 1, 1) := by decide +kernel
theorem dX7_as_67 : decode cX7_as 67 = .ok (.goto 4, 3) := by decide +kernel
theorem dX7_as_70 : decode cX7_as 70 = .ok (.iconst (-1), 1) := by decide +kernel
theorem dX7_as_71 : decode cX7_as 71 = .ok (.ireturn, 1) := by decide +kernel
set_option maxRecDepth 20000 in
theorem ggX7_rule_X7_in : GoodIn wsX7_rule wsX7_in := goodIn_r _ [6] (by decide +kernel) (by decide +kernel)
set_option maxRecDepth 20000 in
theorem gX7_rule_X7_in : GoodIn wsX7_rule (va_wsS RX7 43 yX7_in wsX7_in) := goodIn_app (goodIn_of _ (by decide +kernel)) ggX7_rule_X7_in
set_option maxRecDepth 20000 in
theorem ggX7_rule_X7_lacks : GoodIn wsX7_rule wsX7_lacks := goodIn_r _ [10, 11, 12, 13, 14, 15, 16, 17, 18, 19, 20, 21, 22, 23, 24, 25, 26, 27, 28, 29, 30, 31, 32, 33, 34, 35, 36, 37, 38, 39, 40, 41] (by decide +kernel) (by decide +kernel)
set_option maxRecDepth 20000 in
theorem gX7_rule_X7_lacks : GoodIn wsX7_rule (wsV RX7 140 RX7 yX7_lacks wsX7_lacks) := goodIn_app (goodIn_of _ (by decide +kernel)) ggX7_rule_X7_lacks
theorem dX7_rule_0 : decode cX7_rule 0 = .ok (.iload_n 1, 1) := by decide +kernel
theorem dX7_rule_1 : decode cX7_rule 1 = .ok (.i2l, 1) := by decide +kernel
theorem dX7_rule_2 : decode cX7_rule 2 = .ok (.lconst 0, 1) := by decide +kernel
theorem dX7_rule_3 : decode cX7_rule 3 = .ok (.ldc2_w 60, 3) := by decide +kernel
theorem dX7_rule_6 : decode cX7_rule 6 = .ok (.invokestatic 43, 3) := by decide +kernel
theorem dX7_rule_9 : decode cX7_rule 9 = .ok (.ifCond .ne 6, 3) := by decide +kernel
theorem dX7_rule_12 : decode cX7_rule 12 = .ok (.bipush (-102), 2) := by decide +kernel
theorem dX7_rule_14 : decode cX7_rule 14 = .ok (.ireturn, 1) := by decide +kernel
theorem dX7_rule_15 : decode cX7_rule 15 = .ok (.aload_n 0, 1) := by decide +kernel
theorem dX7_rule_16 : decode cX7_rule 16 = .ok (.invokevirtual 140, 3) := by decide +kernel
theorem dX7_rule_19 : decode cX7_rule 19 = .ok (.ifCond .eq 6, 3) := by decide +kernel
theorem dX7_rule_22 : decode cX7_rule 22 = .ok (.bipush (-103), 2) := by decide +kernel
theorem dX7_rule_24 : decode cX7_rule 24 = .ok (.ireturn, 1) := by decide +kernel
theorem dX7_rule_25 : decode cX7_rule 25 = .ok (.aload_n 0, 1) := by decide +kernel
theorem dX7_rule_26 : decode cX7_rule 26 = .ok (.getfield 76, 3) := by decide +kernel
theorem dX7_rule_29 : decode cX7_rule 29 = .ok (.istore_n 2, 1) := by decide +kernel
theorem dX7_rule_30 : decode cX7_rule 30 = .ok (.aload_n 0, 1) := by decide +kernel
theorem dX7_rule_31 : decode cX7_rule 31 = .ok (.iload_n 1, 1) := by decide +kernel
theorem dX7_rule_32 : decode cX7_rule 32 = .ok (.putfield 76, 3) := by decide +kernel
theorem dX7_rule_35 : decode cX7_rule 35 = .ok (.iload_n 2, 1) := by decide +kernel
theorem dX7_rule_36 : decode cX7_rule 36 = .ok (.ireturn, 1) := by decide +kernel
set_option maxRecDepth 20000 in
theorem ggX7_play_X7_isSong : GoodIn wsX7_play wsX7_isSong := goodIn_r _ [9, 10, 11, 12, 8, 13, 34, 35, 36, 37, 38, 39, 40, 41, 42, 43, 44, 45, 46, 47, 48, 49, 50, 51, 52, 53, 54, 55, 56, 57, 58, 59, 60, 61, 62, 63] (by decide +kernel) (by decide +kernel)
set_option maxRecDepth 20000 in
theorem gX7_play_X7_isSong : GoodIn wsX7_play (wsV RX7 132 RX7 yX7_isSong wsX7_isSong) := goodIn_app (goodIn_of _ (by decide +kernel)) ggX7_play_X7_isSong
set_option maxRecDepth 20000 in
theorem ggX7_play_X7_mayNow : GoodIn wsX7_play wsX7_mayNow := goodIn_r _ [17, 18, 1, 2, 19, 20, 21, 8, 22, 10, 4, 23, 24, 25, 26, 34, 35, 36, 37, 38, 39, 40, 41, 42, 43, 44, 45, 46, 47, 48, 49, 50, 51, 52, 53, 54, 55, 56, 57, 58, 59, 60, 61, 62, 63] (by decide +kernel) (by decide +kernel)
set_option maxRecDepth 20000 in
theorem gX7_play_X7_mayNow : GoodIn wsX7_play (wsV RX7 112 RX7 yX7_mayNow wsX7_mayNow) := goodIn_app (goodIn_of _ (by decide +kernel)) ggX7_play_X7_mayNow
set_option maxRecDepth 20000 in
theorem ggX7_play_X7_bagBehind : GoodIn wsX7_play wsX7_bagBehind := goodIn_r _ [30, 23, 24, 25, 8, 26, 10, 34, 35, 36, 37, 38, 39, 40, 41, 42, 43, 44, 45, 46, 47, 48, 49, 50, 51, 52, 53, 54, 55, 56, 57, 58, 59, 60, 61, 62, 63] (by decide +kernel) (by decide +kernel)
set_option maxRecDepth 20000 in
theorem gX7_play_X7_bagBehind : GoodIn wsX7_play (wsV RX7 144 RX7 yX7_bagBehind wsX7_bagBehind) := goodIn_app (goodIn_of _ (by decide +kernel)) ggX7_play_X7_bagBehind
set_option maxRecDepth 20000 in
theorem ggX7_play_X7_ones : GoodIn wsX7_play wsX7_ones := goodIn_r _ [33] (by decide +kernel) (by decide +kernel)
set_option maxRecDepth 20000 in
theorem gX7_play_X7_ones : GoodIn wsX7_play (va_wsS RX7 109 yX7_ones wsX7_ones) := goodIn_app (goodIn_of _ (by decide +kernel)) ggX7_play_X7_ones
theorem dX7_play_0 : decode cX7_play 0 = .ok (.aload_n 0, 1) := by decide +kernel
theorem dX7_play_1 : decode cX7_play 1 = .ok (.iload_n 1, 1) := by decide +kernel
theorem dX7_play_2 : decode cX7_play 2 = .ok (.invokevirtual 132, 3) := by decide +kernel
theorem dX7_play_5 : decode cX7_play 5 = .ok (.ifCond .ne 6, 3) := by decide +kernel
theorem dX7_play_8 : decode cX7_play 8 = .ok (.bipush (-101), 2) := by decide +kernel
theorem dX7_play_10 : decode cX7_play 10 = .ok (.ireturn, 1) := by decide +kernel
theorem dX7_play_11 : decode cX7_play 11 = .ok (.aload_n 0, 1) := by decide +kernel
theorem dX7_play_12 : decode cX7_play 12 = .ok (.invokevirtual 112, 3) := by decide +kernel
theorem dX7_play_15 : decode cX7_play 15 = .ok (.iload_n 1, 1) := by decide +kernel
theorem dX7_play_16 : decode cX7_play 16 = .ok (.ishr, 1) := by decide +kernel
theorem dX7_play_17 : decode cX7_play 17 = .ok (.iconst 1, 1) := by decide +kernel
theorem dX7_play_18 : decode cX7_play 18 = .ok (.iand, 1) := by decide +kernel
theorem dX7_play_19 : decode cX7_play 19 = .ok (.ifCond .ne 6, 3) := by decide +kernel
theorem dX7_play_22 : decode cX7_play 22 = .ok (.bipush (-103), 2) := by decide +kernel
theorem dX7_play_24 : decode cX7_play 24 = .ok (.ireturn, 1) := by decide +kernel
theorem dX7_play_25 : decode cX7_play 25 = .ok (.aload_n 0, 1) := by decide +kernel
theorem dX7_play_26 : decode cX7_play 26 = .ok (.aload_n 0, 1) := by decide +kernel
theorem dX7_play_27 : decode cX7_play 27 = .ok (.aload_n 0, 1) := by decide +kernel
theorem dX7_play_28 : decode cX7_play 28 = .ok (.getfield 82, 3) := by decide +kernel
theorem dX7_play_31 : decode cX7_play 31 = .ok (.iload_n 1, 1) := by decide +kernel
theorem dX7_play_32 : decode cX7_play 32 = .ok (.invokevirtual 144, 3) := by decide +kernel
theorem dX7_play_35 : decode cX7_play 35 = .ok (.putfield 82, 3) := by decide +kernel
theorem dX7_play_38 : decode cX7_play 38 = .ok (.aload_n 0, 1) := by decide +kernel
theorem dX7_play_39 : decode cX7_play 39 = .ok (.iload_n 1, 1) := by decide +kernel
theorem dX7_play_40 : decode cX7_play 40 = .ok (.putfield 38, 3) := by decide +kernel
theorem dX7_play_43 : decode cX7_play 43 = .ok (.aload_n 0, 1) := by decide +kernel
theorem dX7_play_44 : decode cX7_play 44 = .ok (.iconst 0, 1) := by decide +kernel
theorem dX7_play_45 : decode cX7_play 45 = .ok (.putfield 85, 3) := by decide +kernel
theorem dX7_play_48 : decode cX7_play 48 = .ok (.aload_n 0, 1) := by decide +kernel
theorem dX7_play_49 : decode cX7_play 49 = .ok (.getfield 16, 3) := by decide +kernel
theorem dX7_play_52 : decode cX7_play 52 = .ok (.iconst 4, 1) := by decide +kernel
theorem dX7_play_53 : decode cX7_play 53 = .ok (.iload_n 1, 1) := by decide +kernel
theorem dX7_play_54 : decode cX7_play 54 = .ok (.imul, 1) := by decide +kernel
theorem dX7_play_55 : decode cX7_play 55 = .ok (.iconst 2, 1) := by decide +kernel
theorem dX7_play_56 : decode cX7_play 56 = .ok (.iadd, 1) := by decide +kernel
theorem dX7_play_57 : decode cX7_play 57 = .ok (.dup2, 1) := by decide +kernel
theorem dX7_play_58 : decode cX7_play 58 = .ok (.iaload, 1) := by decide +kernel
theorem dX7_play_59 : decode cX7_play 59 = .ok (.iconst 1, 1) := by decide +kernel
theorem dX7_play_60 : decode cX7_play 60 = .ok (.iadd, 1) := by decide +kernel
theorem dX7_play_61 : decode cX7_play 61 = .ok (.iastore, 1) := by decide +kernel
theorem dX7_play_62 : decode cX7_play 62 = .ok (.aload_n 0, 1) := by decide +kernel
theorem dX7_play_63 : decode cX7_play 63 = .ok (.getfield 82, 3) := by decide +kernel
theorem dX7_play_66 : decode cX7_play 66 = .ok (.invokestatic 109, 3) := by decide +kernel
theorem dX7_play_69 : decode cX7_play 69 = .ok (.ireturn, 1) := by decide +kernel
set_option maxRecDepth 20000 in
theorem ggX7_skip_X7_weightOf : GoodIn wsX7_skip wsX7_weightOf := goodIn_r _ [8, 3, 9, 10, 11, 7, 12, 13, 14, 15, 16, 17, 18, 19, 20, 21, 22, 23, 24, 25, 26, 27, 28, 29, 30, 31, 32, 33, 34, 35, 36, 37, 38, 39, 40, 41, 42] (by decide +kernel) (by decide +kernel)
set_option maxRecDepth 20000 in
theorem gX7_skip_X7_weightOf : GoodIn wsX7_skip (wsV RX7 102 RX7 yX7_weightOf wsX7_weightOf) := goodIn_app (goodIn_of _ (by decide +kernel)) ggX7_skip_X7_weightOf
theorem dX7_skip_0 : decode cX7_skip 0 = .ok (.aload_n 0, 1) := by decide +kernel
theorem dX7_skip_1 : decode cX7_skip 1 = .ok (.getfield 38, 3) := by decide +kernel
theorem dX7_skip_4 : decode cX7_skip 4 = .ok (.iconst (-1), 1) := by decide +kernel
theorem dX7_skip_5 : decode cX7_skip 5 = .ok (.if_icmp .eq 10, 3) := by decide +kernel
theorem dX7_skip_8 : decode cX7_skip 8 = .ok (.aload_n 0, 1) := by decide +kernel
theorem dX7_skip_9 : decode cX7_skip 9 = .ok (.getfield 85, 3) := by decide +kernel
theorem dX7_skip_12 : decode cX7_skip 12 = .ok (.ifCond .eq 6, 3) := by decide +kernel
theorem dX7_skip_15 : decode cX7_skip 15 = .ok (.bipush (-103), 2) := by decide +kernel
theorem dX7_skip_17 : decode cX7_skip 17 = .ok (.ireturn, 1) := by decide +kernel
theorem dX7_skip_18 : decode cX7_skip 18 = .ok (.aload_n 0, 1) := by decide +kernel
theorem dX7_skip_19 : decode cX7_skip 19 = .ok (.iconst 1, 1) := by decide +kernel
theorem dX7_skip_20 : decode cX7_skip 20 = .ok (.putfield 85, 3) := by decide +kernel
theorem dX7_skip_23 : decode cX7_skip 23 = .ok (.aload_n 0, 1) := by decide +kernel
theorem dX7_skip_24 : decode cX7_skip 24 = .ok (.getfield 16, 3) := by decide +kernel
theorem dX7_skip_27 : decode cX7_skip 27 = .ok (.iconst 4, 1) := by decide +kernel
theorem dX7_skip_28 : decode cX7_skip 28 = .ok (.aload_n 0, 1) := by decide +kernel
theorem dX7_skip_29 : decode cX7_skip 29 = .ok (.getfield 38, 3) := by decide +kernel
theorem dX7_skip_32 : decode cX7_skip 32 = .ok (.imul, 1) := by decide +kernel
theorem dX7_skip_33 : decode cX7_skip 33 = .ok (.iconst 3, 1) := by decide +kernel
theorem dX7_skip_34 : decode cX7_skip 34 = .ok (.iadd, 1) := by decide +kernel
theorem dX7_skip_35 : decode cX7_skip 35 = .ok (.dup2, 1) := by decide +kernel
theorem dX7_skip_36 : decode cX7_skip 36 = .ok (.iaload, 1) := by decide +kernel
theorem dX7_skip_37 : decode cX7_skip 37 = .ok (.iconst 1, 1) := by decide +kernel
theorem dX7_skip_38 : decode cX7_skip 38 = .ok (.iadd, 1) := by decide +kernel
theorem dX7_skip_39 : decode cX7_skip 39 = .ok (.iastore, 1) := by decide +kernel
theorem dX7_skip_40 : decode cX7_skip 40 = .ok (.aload_n 0, 1) := by decide +kernel
theorem dX7_skip_41 : decode cX7_skip 41 = .ok (.aload_n 0, 1) := by decide +kernel
theorem dX7_skip_42 : decode cX7_skip 42 = .ok (.getfield 38, 3) := by decide +kernel
theorem dX7_skip_45 : decode cX7_skip 45 = .ok (.invokevirtual 102, 3) := by decide +kernel
theorem dX7_skip_48 : decode cX7_skip 48 = .ok (.ireturn, 1) := by decide +kernel
end
section
set_option maxRecDepth 20000 in
theorem ggX7_partsOf_X7_shareOf : GoodIn wsX7_partsOf wsX7_shareOf := goodIn_r _ [7, 8, 9, 10, 6, 11, 1, 12, 13, 14, 15, 16, 17, 18, 19, 20, 28, 29, 30, 31, 32, 33, 34, 35, 36, 37, 38, 39, 40, 41, 42, 43, 44, 45, 46, 47, 48, 49, 50, 51, 52, 53, 54, 55, 56, 57] (by decide +kernel) (by decide +kernel)
set_option maxRecDepth 20000 in
theorem gX7_partsOf_X7_shareOf : GoodIn wsX7_partsOf (wsV RX7 118 RX7 yX7_shareOf wsX7_shareOf) := goodIn_app (goodIn_of _ (by decide +kernel)) ggX7_partsOf_X7_shareOf
set_option maxRecDepth 20000 in
theorem ggX7_partsOf_X7_sharesOf : GoodIn wsX7_partsOf wsX7_sharesOf := goodIn_r _ [24, 8, 9, 10, 6, 11, 1, 12, 13, 14, 15, 16, 17, 18, 19, 20, 25, 26, 27, 28, 29, 30, 31, 32, 33, 34, 35, 36, 37, 38, 39, 40, 41, 42, 43, 44, 45, 46, 47, 48, 49, 50, 51, 52, 53, 54, 55, 56, 57] (by decide +kernel) (by decide +kernel)
set_option maxRecDepth 20000 in
theorem gX7_partsOf_X7_sharesOf : GoodIn wsX7_partsOf (wsV RX7 115 RX7 yX7_sharesOf wsX7_sharesOf) := goodIn_app (goodIn_of _ (by decide +kernel)) ggX7_partsOf_X7_sharesOf
theorem dX7_partsOf_0 : decode cX7_partsOf 0 = .ok (.lconst 0, 1) := by decide +kernel
theorem dX7_partsOf_1 : decode cX7_partsOf 1 = .ok (.lstore_n 3, 1) := by decide +kernel
theorem dX7_partsOf_2 : decode cX7_partsOf 2 = .ok (.iconst 0, 1) := by decide +kernel
theorem dX7_partsOf_3 : decode cX7_partsOf 3 = .ok (.istore 5, 2) := by decide +kernel
theorem dX7_partsOf_5 : decode cX7_partsOf 5 = .ok (.iload 5, 2) := by decide +kernel
theorem dX7_partsOf_7 : decode cX7_partsOf 7 = .ok (.aload_n 0, 1) := by decide +kernel
theorem dX7_partsOf_8 : decode cX7_partsOf 8 = .ok (.getfield 73, 3) := by decide +kernel
theorem dX7_partsOf_11 : decode cX7_partsOf 11 = .ok (.if_icmp .ge 27, 3) := by decide +kernel
theorem dX7_partsOf_14 : decode cX7_partsOf 14 = .ok (.lload_n 3, 1) := by decide +kernel
theorem dX7_partsOf_15 : decode cX7_partsOf 15 = .ok (.iload_n 1, 1) := by decide +kernel
theorem dX7_partsOf_16 : decode cX7_partsOf 16 = .ok (.iload 5, 2) := by decide +kernel
theorem dX7_partsOf_18 : decode cX7_partsOf 18 = .ok (.ishr, 1) := by decide +kernel
theorem dX7_partsOf_19 : decode cX7_partsOf 19 = .ok (.iconst 1, 1) := by decide +kernel
theorem dX7_partsOf_20 : decode cX7_partsOf 20 = .ok (.iand, 1) := by decide +kernel
theorem dX7_partsOf_21 : decode cX7_partsOf 21 = .ok (.aload_n 0, 1) := by decide +kernel
theorem dX7_partsOf_22 : decode cX7_partsOf 22 = .ok (.iload 5, 2) := by decide +kernel
theorem dX7_partsOf_24 : decode cX7_partsOf 24 = .ok (.iload_n 2, 1) := by decide +kernel
theorem dX7_partsOf_25 : decode cX7_partsOf 25 = .ok (.invokevirtual 118, 3) := by decide +kernel
theorem dX7_partsOf_28 : decode cX7_partsOf 28 = .ok (.imul, 1) := by decide +kernel
theorem dX7_partsOf_29 : decode cX7_partsOf 29 = .ok (.i2l, 1) := by decide +kernel
theorem dX7_partsOf_30 : decode cX7_partsOf 30 = .ok (.ladd, 1) := by decide +kernel
theorem dX7_partsOf_31 : decode cX7_partsOf 31 = .ok (.lstore_n 3, 1) := by decide +kernel
theorem dX7_partsOf_32 : decode cX7_partsOf 32 = .ok (.iinc 5 1, 3) := by decide +kernel
theorem dX7_partsOf_35 : decode cX7_partsOf 35 = .ok (.goto (-30), 3) := by decide +kernel
theorem dX7_partsOf_38 : decode cX7_partsOf 38 = .ok (.lload_n 3, 1) := by decide +kernel
theorem dX7_partsOf_39 : decode cX7_partsOf 39 = .ok (.ldc2_w 147, 3) := by decide +kernel
theorem dX7_partsOf_42 : decode cX7_partsOf 42 = .ok (.aload_n 0, 1) := by decide +kernel
theorem dX7_partsOf_43 : decode cX7_partsOf 43 = .ok (.iload_n 2, 1) := by decide +kernel
theorem dX7_partsOf_44 : decode cX7_partsOf 44 = .ok (.invokevirtual 115, 3) := by decide +kernel
theorem dX7_partsOf_47 : decode cX7_partsOf 47 = .ok (.i2l, 1) := by decide +kernel
theorem dX7_partsOf_48 : decode cX7_partsOf 48 = .ok (.ldiv, 1) := by decide +kernel
theorem dX7_partsOf_49 : decode cX7_partsOf 49 = .ok (.lmul, 1) := by decide +kernel
theorem dX7_partsOf_50 : decode cX7_partsOf 50 = .ok (.lreturn, 1) := by decide +kernel
set_option maxRecDepth 20000 in
theorem ggX7_behindOne_X7_bagBehind : GoodIn wsX7_behindOne wsX7_bagBehind := goodIn_r _ [9, 10, 11, 12, 8, 13, 3, 46, 47, 48, 49, 50, 51, 52, 53, 54, 55, 56, 57, 58, 59, 60, 61, 62, 63, 64, 65, 66, 67, 68, 69, 70, 71, 72, 73, 74, 75] (by decide +kernel) (by decide +kernel)
set_option maxRecDepth 20000 in
theorem gX7_behindOne_X7_bagBehind : GoodIn wsX7_behindOne (wsV RX7 144 RX7 yX7_bagBehind wsX7_bagBehind) := goodIn_app (goodIn_of _ (by decide +kernel)) ggX7_behindOne_X7_bagBehind
set_option maxRecDepth 20000 in
theorem ggX7_behindOne_X7_mayBy : GoodIn wsX7_behindOne wsX7_mayBy := goodIn_r _ [17, 3, 18, 10, 11, 12, 8, 13, 46, 47, 48, 49, 50, 51, 52, 53, 54, 55, 56, 57, 58, 59, 60, 61, 62, 63, 64, 65, 66, 67, 68, 69, 70, 71, 72, 73, 74, 75] (by decide +kernel) (by decide +kernel)
set_option maxRecDepth 20000 in
theorem gX7_behindOne_X7_mayBy : GoodIn wsX7_behindOne (wsV RX7 98 RX7 yX7_mayBy wsX7_mayBy) := goodIn_app (goodIn_of _ (by decide +kernel)) ggX7_behindOne_X7_mayBy
set_option maxRecDepth 20000 in
theorem ggX7_behindOne_X7_partsOf : GoodIn wsX7_behindOne wsX7_partsOf := goodIn_r _ [22, 3, 4, 23, 24, 25, 8, 26, 27, 28, 29, 30, 31, 32, 33, 34, 18, 35, 36, 37, 38, 39, 40, 41, 42, 43, 44, 45, 46, 47, 48, 49, 50, 51, 52, 53, 54, 55, 56, 57, 58, 59, 60, 61, 62, 63, 64, 65, 66, 67, 68, 69, 70, 71, 72, 73, 74, 75] (by decide +kernel) (by decide +kernel)
set_option maxRecDepth 20000 in
theorem gX7_behindOne_X7_partsOf : GoodIn wsX7_behindOne (wsV RX7 149 RX7 yX7_partsOf wsX7_partsOf) := goodIn_app (goodIn_of _ (by decide +kernel)) ggX7_behindOne_X7_partsOf
set_option maxRecDepth 20000 in
theorem ggX7_behindOne_X7_shareOf : GoodIn wsX7_behindOne wsX7_shareOf := goodIn_r _ [26, 27, 28, 29, 8, 30, 3, 31, 32, 33, 34, 18, 35, 36, 37, 38, 46, 47, 48, 49, 50, 51, 52, 53, 54, 55, 56, 57, 58, 59, 60, 61, 62, 63, 64, 65, 66, 67, 68, 69, 70, 71, 72, 73, 74, 75] (by decide +kernel) (by decide +kernel)
set_option maxRecDepth 20000 in
theorem gX7_behindOne_X7_shareOf : GoodIn wsX7_behindOne (wsV RX7 118 RX7 yX7_shareOf wsX7_shareOf) := goodIn_app (goodIn_of _ (by decide +kernel)) ggX7_behindOne_X7_shareOf
set_option maxRecDepth 20000 in
theorem ggX7_behindOne_X7_sharesOf : GoodIn wsX7_behindOne wsX7_sharesOf := goodIn_r _ [42, 27, 28, 29, 8, 30, 3, 31, 32, 33, 34, 18, 35, 36, 37, 38, 43, 44, 45, 46, 47, 48, 49, 50, 51, 52, 53, 54, 55, 56, 57, 58, 59, 60, 61, 62, 63, 64, 65, 66, 67, 68, 69, 70, 71, 72, 73, 74, 75] (by decide +kernel) (by decide +kernel)
set_option maxRecDepth 20000 in
theorem gX7_behindOne_X7_sharesOf : GoodIn wsX7_behindOne (wsV RX7 115 RX7 yX7_sharesOf wsX7_sharesOf) := goodIn_app (goodIn_of _ (by decide +kernel)) ggX7_behindOne_X7_sharesOf
theorem dX7_behindOne_0 : decode cX7_behindOne 0 = .ok (.aload_n 0, 1) := by decide +kernel
theorem dX7_behindOne_1 : decode cX7_behindOne 1 = .ok (.aload_n 0, 1) := by decide +kernel
theorem dX7_behindOne_2 : decode cX7_behindOne 2 = .ok (.getfield 82, 3) := by decide +kernel
theorem dX7_behindOne_5 : decode cX7_behindOne 5 = .ok (.iload_n 1, 1) := by decide +kernel
theorem dX7_behindOne_6 : decode cX7_behindOne 6 = .ok (.invokevirtual 144, 3) := by decide +kernel
theorem dX7_behindOne_9 : decode cX7_behindOne 9 = .ok (.istore_n 3, 1) := by decide +kernel
theorem dX7_behindOne_10 : decode cX7_behindOne 10 = .ok (.aload_n 0, 1) := by decide +kernel
theorem dX7_behindOne_11 : decode cX7_behindOne 11 = .ok (.aload_n 0, 1) := by decide +kernel
theorem dX7_behindOne_12 : decode cX7_behindOne 12 = .ok (.getfield 76, 3) := by decide +kernel
theorem dX7_behindOne_15 : decode cX7_behindOne 15 = .ok (.iload_n 3, 1) := by decide +kernel
theorem dX7_behindOne_16 : decode cX7_behindOne 16 = .ok (.iload_n 1, 1) := by decide +kernel
theorem dX7_behindOne_17 : decode cX7_behindOne 17 = .ok (.invokevirtual 98, 3) := by decide +kernel
theorem dX7_behindOne_20 : decode cX7_behindOne 20 = .ok (.istore 4, 2) := by decide +kernel
theorem dX7_behindOne_22 : decode cX7_behindOne 22 = .ok (.iload_n 2, 1) := by decide +kernel
theorem dX7_behindOne_23 : decode cX7_behindOne 23 = .ok (.iconst 1, 1) := by decide +kernel
theorem dX7_behindOne_24 : decode cX7_behindOne 24 = .ok (.if_icmp .ne 13, 3) := by decide +kernel
theorem dX7_behindOne_27 : decode cX7_behindOne 27 = .ok (.aload_n 0, 1) := by decide +kernel
theorem dX7_behindOne_28 : decode cX7_behindOne 28 = .ok (.iconst 1, 1) := by decide +kernel
theorem dX7_behindOne_29 : decode cX7_behindOne 29 = .ok (.iload_n 1, 1) := by decide +kernel
theorem dX7_behindOne_30 : decode cX7_behindOne 30 = .ok (.ishl, 1) := by decide +kernel
theorem dX7_behindOne_31 : decode cX7_behindOne 31 = .ok (.iload 4, 2) := by decide +kernel
theorem dX7_behindOne_33 : decode cX7_behindOne 33 = .ok (.invokevirtual 149, 3) := by decide +kernel
theorem dX7_behindOne_36 : decode cX7_behindOne 36 = .ok (.lreturn, 1) := by decide +kernel
theorem dX7_behindOne_37 : decode cX7_behindOne 37 = .ok (.lconst 0, 1) := by decide +kernel
theorem dX7_behindOne_38 : decode cX7_behindOne 38 = .ok (.lstore 5, 2) := by decide +kernel
theorem dX7_behindOne_40 : decode cX7_behindOne 40 = .ok (.iconst 0, 1) := by decide +kernel
theorem dX7_behindOne_41 : decode cX7_behindOne 41 = .ok (.istore 7, 2) := by decide +kernel
theorem dX7_behindOne_43 : decode cX7_behindOne 43 = .ok (.iload 7, 2) := by decide +kernel
theorem dX7_behindOne_45 : decode cX7_behindOne 45 = .ok (.aload_n 0, 1) := by decide +kernel
theorem dX7_behindOne_46 : decode cX7_behindOne 46 = .ok (.getfield 73, 3) := by decide +kernel
theorem dX7_behindOne_49 : decode cX7_behindOne 49 = .ok (.if_icmp .ge 73, 3) := by decide +kernel
theorem dX7_behindOne_52 : decode cX7_behindOne 52 = .ok (.aload_n 0, 1) := by decide +kernel
theorem dX7_behindOne_53 : decode cX7_behindOne 53 = .ok (.aload_n 0, 1) := by decide +kernel
theorem dX7_behindOne_54 : decode cX7_behindOne 54 = .ok (.getfield 76, 3) := by decide +kernel
theorem dX7_behindOne_57 : decode cX7_behindOne 57 = .ok (.aload_n 0, 1) := by decide +kernel
theorem dX7_behindOne_58 : decode cX7_behindOne 58 = .ok (.iload_n 3, 1) := by decide +kernel
theorem dX7_behindOne_59 : decode cX7_behindOne 59 = .ok (.iload 7, 2) := by decide +kernel
theorem dX7_behindOne_61 : decode cX7_behindOne 61 = .ok (.invokevirtual 144, 3) := by decide +kernel
theorem dX7_behindOne_64 : decode cX7_behindOne 64 = .ok (.iload 7, 2) := by decide +kernel
theorem dX7_behindOne_66 : decode cX7_behindOne 66 = .ok (.invokevirtual 98, 3) := by decide +kernel
theorem dX7_behindOne_69 : decode cX7_behindOne 69 = .ok (.istore 8, 2) := by decide +kernel
theorem dX7_behindOne_71 : decode cX7_behindOne 71 = .ok (.iload 7, 2) := by decide +kernel
theorem dX7_behindOne_73 : decode cX7_behindOne 73 = .ok (.iload_n 1, 1) := by decide +kernel
theorem dX7_behindOne_74 : decode cX7_behindOne 74 = .ok (.if_icmp .ne 9, 3) := by decide +kernel
theorem dX7_behindOne_77 : decode cX7_behindOne 77 = .ok (.ldc2_w 147, 3) := by decide +kernel
theorem dX7_behindOne_80 : decode cX7_behindOne 80 = .ok (.goto 17, 3) := by decide +kernel
theorem dX7_behindOne_83 : decode cX7_behindOne 83 = .ok (.aload_n 0, 1) := by decide +kernel
theorem dX7_behindOne_84 : decode cX7_behindOne 84 = .ok (.iconst 1, 1) := by decide +kernel
theorem dX7_behindOne_85 : decode cX7_behindOne 85 = .ok (.iload_n 1, 1) := by decide +kernel
theorem dX7_behindOne_86 : decode cX7_behindOne 86 = .ok (.ishl, 1) := by decide +kernel
theorem dX7_behindOne_87 : decode cX7_behindOne 87 = .ok (.iconst 1, 1) := by decide +kernel
theorem dX7_behindOne_88 : decode cX7_behindOne 88 = .ok (.iload 7, 2) := by decide +kernel
theorem dX7_behindOne_90 : decode cX7_behindOne 90 = .ok (.ishl, 1) := by decide +kernel
theorem dX7_behindOne_91 : decode cX7_behindOne 91 = .ok (.ior, 1) := by decide +kernel
theorem dX7_behindOne_92 : decode cX7_behindOne 92 = .ok (.iload 8, 2) := by decide +kernel
theorem dX7_behindOne_94 : decode cX7_behindOne 94 = .ok (.invokevirtual 149, 3) := by decide +kernel
theorem dX7_behindOne_97 : decode cX7_behindOne 97 = .ok (.lstore 9, 2) := by decide +kernel
theorem dX7_behindOne_99 : decode cX7_behindOne 99 = .ok (.lload 5, 2) := by decide +kernel
theorem dX7_behindOne_101 : decode cX7_behindOne 101 = .ok (.aload_n 0, 1) := by decide +kernel
theorem dX7_behindOne_102 : decode cX7_behindOne 102 = .ok (.iload 7, 2) := by decide +kernel
theorem dX7_behindOne_104 : decode cX7_behindOne 104 = .ok (.iload 4, 2) := by decide +kernel
theorem dX7_behindOne_106 : decode cX7_behindOne 106 = .ok (.invokevirtual 118, 3) := by decide +kernel
theorem dX7_behindOne_109 : decode cX7_behindOne 109 = .ok (.i2l, 1) := by decide +kernel
theorem dX7_behindOne_110 : decode cX7_behindOne 110 = .ok (.lload 9, 2) := by decide +kernel
theorem dX7_behindOne_112 : decode cX7_behindOne 112 = .ok (.lmul, 1) := by decide +kernel
theorem dX7_behindOne_113 : decode cX7_behindOne 113 = .ok (.ladd, 1) := by decide +kernel
theorem dX7_behindOne_114 : decode cX7_behindOne 114 = .ok (.lstore 5, 2) := by decide +kernel
theorem dX7_behindOne_116 : decode cX7_behindOne 116 = .ok (.iinc 7 1, 3) := by decide +kernel
theorem dX7_behindOne_119 : decode cX7_behindOne 119 = .ok (.goto (-76), 3) := by decide +kernel
theorem dX7_behindOne_122 : decode cX7_behindOne 122 = .ok (.lload 5, 2) := by decide +kernel
theorem dX7_behindOne_124 : decode cX7_behindOne 124 = .ok (.ldc2_w 147, 3) := by decide +kernel
theorem dX7_behindOne_127 : decode cX7_behindOne 127 = .ok (.aload_n 0, 1) := by decide +kernel
theorem dX7_behindOne_128 : decode cX7_behindOne 128 = .ok (.iload 4, 2) := by decide +kernel
theorem dX7_behindOne_130 : decode cX7_behindOne 130 = .ok (.invokevirtual 115, 3) := by decide +kernel
theorem dX7_behindOne_133 : decode cX7_behindOne 133 = .ok (.i2l, 1) := by decide +kernel
theorem dX7_behindOne_134 : decode cX7_behindOne 134 = .ok (.ldiv, 1) := by decide +kernel
theorem dX7_behindOne_135 : decode cX7_behindOne 135 = .ok (.lmul, 1) := by decide +kernel
theorem dX7_behindOne_136 : decode cX7_behindOne 136 = .ok (.lreturn, 1) := by decide +kernel
set_option maxRecDepth 20000 in
theorem ggX7_twiceOf_X7_mayNow : GoodIn wsX7_twiceOf wsX7_mayNow := goodIn_r _ [7, 8, 9, 10, 11, 12, 13, 6, 14, 1, 15, 16, 17, 18, 19, 58, 59, 60, 61, 62, 63, 64, 65, 66, 67, 68, 69, 70, 71, 72, 73, 74, 75, 76, 77, 78, 79, 80, 81, 82, 83, 84, 85, 86, 87] (by decide +kernel) (by decide +kernel)
set_option maxRecDepth 20000 in
theorem gX7_twiceOf_X7_mayNow : GoodIn wsX7_twiceOf (wsV RX7 112 RX7 yX7_mayNow wsX7_mayNow) := goodIn_app (goodIn_of _ (by decide +kernel)) ggX7_twiceOf_X7_mayNow
set_option maxRecDepth 20000 in
theorem ggX7_twiceOf_X7_shareOf : GoodIn wsX7_twiceOf wsX7_shareOf := goodIn_r _ [23, 24, 25, 26, 6, 27, 1, 28, 29, 30, 31, 15, 32, 33, 34, 35, 58, 59, 60, 61, 62, 63, 64, 65, 66, 67, 68, 69, 70, 71, 72, 73, 74, 75, 76, 77, 78, 79, 80, 81, 82, 83, 84, 85, 86, 87] (by decide +kernel) (by decide +kernel)
set_option maxRecDepth 20000 in
theorem gX7_twiceOf_X7_shareOf : GoodIn wsX7_twiceOf (wsV RX7 118 RX7 yX7_shareOf wsX7_shareOf) := goodIn_app (goodIn_of _ (by decide +kernel)) ggX7_twiceOf_X7_shareOf
set_option maxRecDepth 20000 in
theorem ggX7_twiceOf_X7_behindOne : GoodIn wsX7_twiceOf wsX7_behindOne := goodIn_r _ [39, 9, 8, 1, 2, 40, 41, 42, 6, 43, 16, 17, 18, 19, 11, 12, 13, 14, 15, 44, 45, 46, 47, 20, 21, 22, 23, 24, 25, 26, 27, 28, 29, 30, 31, 32, 33, 34, 35, 48, 49, 50, 51, 52, 53, 54, 58, 59, 60, 61, 62, 63, 64, 65, 66, 67, 68, 69, 70, 71, 72, 73, 74, 75, 76, 77, 78, 79, 80, 81, 82, 83, 84, 85, 86, 87] (by decide +kernel) (by decide +kernel)
set_option maxRecDepth 20000 in
theorem gX7_twiceOf_X7_behindOne : GoodIn wsX7_twiceOf (wsV RX7 153 RX7 yX7_behindOne wsX7_behindOne) := goodIn_app (goodIn_of _ (by decide +kernel)) ggX7_twiceOf_X7_behindOne
set_option maxRecDepth 20000 in
theorem ggX7_twiceOf_X7_sharesOf : GoodIn wsX7_twiceOf wsX7_sharesOf := goodIn_r _ [51, 24, 25, 26, 6, 27, 1, 28, 29, 30, 31, 15, 32, 33, 34, 35, 52, 53, 54, 58, 59, 60, 61, 62, 63, 64, 65, 66, 67, 68, 69, 70, 71, 72, 73, 74, 75, 76, 77, 78, 79, 80, 81, 82, 83, 84, 85, 86, 87] (by decide +kernel) (by decide +kernel)
set_option maxRecDepth 20000 in
theorem gX7_twiceOf_X7_sharesOf : GoodIn wsX7_twiceOf (wsV RX7 115 RX7 yX7_sharesOf wsX7_sharesOf) := goodIn_app (goodIn_of _ (by decide +kernel)) ggX7_twiceOf_X7_sharesOf
set_option maxRecDepth 20000 in
theorem ggX7_twiceOf_X7_common : GoodIn wsX7_twiceOf wsX7_common := goodIn_r _ [57] (by decide +kernel) (by decide +kernel)
set_option maxRecDepth 20000 in
theorem gX7_twiceOf_X7_common : GoodIn wsX7_twiceOf (va_wsS RX7 122 yX7_common wsX7_common) := goodIn_app (goodIn_of _ (by decide +kernel)) ggX7_twiceOf_X7_common
theorem dX7_twiceOf_0 : decode cX7_twiceOf 0 = .ok (.aload_n 0, 1) := by decide +kernel
theorem dX7_twiceOf_1 : decode cX7_twiceOf 1 = .ok (.invokevirtual 112, 3) := by decide +kernel
theorem dX7_twiceOf_4 : decode cX7_twiceOf 4 = .ok (.istore_n 3, 1) := by decide +kernel
theorem dX7_twiceOf_5 : decode cX7_twiceOf 5 = .ok (.lconst 0, 1) := by decide +kernel
theorem dX7_twiceOf_6 : decode cX7_twiceOf 6 = .ok (.lstore 4, 2) := by decide +kernel
theorem dX7_twiceOf_8 : decode cX7_twiceOf 8 = .ok (.iconst 0, 1) := by decide +kernel
theorem dX7_twiceOf_9 : decode cX7_twiceOf 9 = .ok (.istore 6, 2) := by decide +kernel
theorem dX7_twiceOf_11 : decode cX7_twiceOf 11 = .ok (.iload 6, 2) := by decide +kernel
theorem dX7_twiceOf_13 : decode cX7_twiceOf 13 = .ok (.aload_n 0, 1) := by decide +kernel
theorem dX7_twiceOf_14 : decode cX7_twiceOf 14 = .ok (.getfield 73, 3) := by decide +kernel
theorem dX7_twiceOf_17 : decode cX7_twiceOf 17 = .ok (.if_icmp .ge 32, 3) := by decide +kernel
theorem dX7_twiceOf_20 : decode cX7_twiceOf 20 = .ok (.lload 4, 2) := by decide +kernel
theorem dX7_twiceOf_22 : decode cX7_twiceOf 22 = .ok (.aload_n 0, 1) := by decide +kernel
theorem dX7_twiceOf_23 : decode cX7_twiceOf 23 = .ok (.iload 6, 2) := by decide +kernel
theorem dX7_twiceOf_25 : decode cX7_twiceOf 25 = .ok (.iload_n 3, 1) := by decide +kernel
theorem dX7_twiceOf_26 : decode cX7_twiceOf 26 = .ok (.invokevirtual 118, 3) := by decide +kernel
theorem dX7_twiceOf_29 : decode cX7_twiceOf 29 = .ok (.i2l, 1) := by decide +kernel
theorem dX7_twiceOf_30 : decode cX7_twiceOf 30 = .ok (.aload_n 0, 1) := by decide +kernel
theorem dX7_twiceOf_31 : decode cX7_twiceOf 31 = .ok (.iload 6, 2) := by decide +kernel
theorem dX7_twiceOf_33 : decode cX7_twiceOf 33 = .ok (.iload_n 1, 1) := by decide +kernel
theorem dX7_twiceOf_34 : decode cX7_twiceOf 34 = .ok (.iconst 1, 1) := by decide +kernel
theorem dX7_twiceOf_35 : decode cX7_twiceOf 35 = .ok (.isub, 1) := by decide +kernel
theorem dX7_twiceOf_36 : decode cX7_twiceOf 36 = .ok (.invokevirtual 153, 3) := by decide +kernel
theorem dX7_twiceOf_39 : decode cX7_twiceOf 39 = .ok (.lmul, 1) := by decide +kernel
theorem dX7_twiceOf_40 : decode cX7_twiceOf 40 = .ok (.ladd, 1) := by decide +kernel
theorem dX7_twiceOf_41 : decode cX7_twiceOf 41 = .ok (.lstore 4, 2) := by decide +kernel
theorem dX7_twiceOf_43 : decode cX7_twiceOf 43 = .ok (.iinc 6 1, 3) := by decide +kernel
theorem dX7_twiceOf_46 : decode cX7_twiceOf 46 = .ok (.goto (-35), 3) := by decide +kernel
theorem dX7_twiceOf_49 : decode cX7_twiceOf 49 = .ok (.aload_n 0, 1) := by decide +kernel
theorem dX7_twiceOf_50 : decode cX7_twiceOf 50 = .ok (.iload_n 3, 1) := by decide +kernel
theorem dX7_twiceOf_51 : decode cX7_twiceOf 51 = .ok (.invokevirtual 115, 3) := by decide +kernel
theorem dX7_twiceOf_54 : decode cX7_twiceOf 54 = .ok (.i2l, 1) := by decide +kernel
theorem dX7_twiceOf_55 : decode cX7_twiceOf 55 = .ok (.ldc2_w 147, 3) := by decide +kernel
theorem dX7_twiceOf_58 : decode cX7_twiceOf 58 = .ok (.lmul, 1) := by decide +kernel
theorem dX7_twiceOf_59 : decode cX7_twiceOf 59 = .ok (.iload_n 1, 1) := by decide +kernel
theorem dX7_twiceOf_60 : decode cX7_twiceOf 60 = .ok (.iconst 3, 1) := by decide +kernel
theorem dX7_twiceOf_61 : decode cX7_twiceOf 61 = .ok (.if_icmp .ne 9, 3) := by decide +kernel
theorem dX7_twiceOf_64 : decode cX7_twiceOf 64 = .ok (.ldc2_w 147, 3) := by decide +kernel
theorem dX7_twiceOf_67 : decode cX7_twiceOf 67 = .ok (.goto 4, 3) := by decide +kernel
theorem dX7_twiceOf_70 : decode cX7_twiceOf 70 = .ok (.lconst 1, 1) := by decide +kernel
theorem dX7_twiceOf_71 : decode cX7_twiceOf 71 = .ok (.lmul, 1) := by decide +kernel
theorem dX7_twiceOf_72 : decode cX7_twiceOf 72 = .ok (.lstore 6, 2) := by decide +kernel
theorem dX7_twiceOf_74 : decode cX7_twiceOf 74 = .ok (.lload 6, 2) := by decide +kernel
theorem dX7_twiceOf_76 : decode cX7_twiceOf 76 = .ok (.lload 4, 2) := by decide +kernel
theorem dX7_twiceOf_78 : decode cX7_twiceOf 78 = .ok (.invokestatic 122, 3) := by decide +kernel
theorem dX7_twiceOf_81 : decode cX7_twiceOf 81 = .ok (.lstore 8, 2) := by decide +kernel
theorem dX7_twiceOf_83 : decode cX7_twiceOf 83 = .ok (.iload_n 2, 1) := by decide +kernel
theorem dX7_twiceOf_84 : decode cX7_twiceOf 84 = .ok (.ifCond .ne 11, 3) := by decide +kernel
theorem dX7_twiceOf_87 : decode cX7_twiceOf 87 = .ok (.lload 4, 2) := by decide +kernel
theorem dX7_twiceOf_89 : decode cX7_twiceOf 89 = .ok (.lload 8, 2) := by decide +kernel
theorem dX7_twiceOf_91 : decode cX7_twiceOf 91 = .ok (.ldiv, 1) := by decide +kernel
theorem dX7_twiceOf_92 : decode cX7_twiceOf 92 = .ok (.goto 8, 3) := by decide +kernel
theorem dX7_twiceOf_95 : decode cX7_twiceOf 95 = .ok (.lload 6, 2) := by decide +kernel
theorem dX7_twiceOf_97 : decode cX7_twiceOf 97 = .ok (.lload 8, 2) := by decide +kernel
theorem dX7_twiceOf_99 : decode cX7_twiceOf 99 = .ok (.ldiv, 1) := by decide +kernel
theorem dX7_twiceOf_100 : decode cX7_twiceOf 100 = .ok (.lreturn, 1) := by decide +kernel
set_option maxRecDepth 20000 in
theorem ggX7_twice_X7_in : GoodIn wsX7_twice wsX7_in := goodIn_r _ [8] (by decide +kernel) (by decide +kernel)
set_option maxRecDepth 20000 in
theorem gX7_twice_X7_in : GoodIn wsX7_twice (va_wsS RX7 43 yX7_in wsX7_in) := goodIn_app (goodIn_of _ (by decide +kernel)) ggX7_twice_X7_in
set_option maxRecDepth 20000 in
theorem ggX7_twice_X7_lacks : GoodIn wsX7_twice wsX7_lacks := goodIn_r _ [12, 13, 73, 74, 75, 76, 77, 78, 79, 80, 81, 82, 83, 84, 85, 86, 87, 88, 89, 90, 91, 92, 93, 94, 95, 96, 97, 98, 99, 100, 101, 102] (by decide +kernel) (by decide +kernel)
set_option maxRecDepth 20000 in
theorem gX7_twice_X7_lacks : GoodIn wsX7_twice (wsV RX7 140 RX7 yX7_lacks wsX7_lacks) := goodIn_app (goodIn_of _ (by decide +kernel)) ggX7_twice_X7_lacks
set_option maxRecDepth 20000 in
theorem ggX7_twice_X7_twiceOf : GoodIn wsX7_twice wsX7_twiceOf := goodIn_r _ [17, 13, 18, 19, 20, 21, 7, 22, 23, 24, 25, 26, 27, 28, 29, 30, 31, 32, 33, 34, 35, 36, 37, 38, 39, 40, 41, 42, 43, 44, 45, 46, 47, 48, 49, 50, 51, 52, 53, 54, 55, 56, 57, 58, 59, 60, 61, 62, 63, 64, 65, 66, 67, 68, 69, 70, 71, 72, 73, 74, 75, 76, 77, 78, 79, 80, 81, 82, 83, 84, 85, 86, 87, 88, 89, 90, 91, 92, 93, 94, 95, 96, 97, 98, 99, 100, 101, 102] (by decide +kernel) (by decide +kernel)
set_option maxRecDepth 20000 in
theorem gX7_twice_X7_twiceOf : GoodIn wsX7_twice (wsV RX7 162 RX7 yX7_twiceOf wsX7_twiceOf) := goodIn_app (goodIn_of _ (by decide +kernel)) ggX7_twice_X7_twiceOf
theorem dX7_twice_0 : decode cX7_twice 0 = .ok (.iload_n 1, 1) := by decide +kernel
theorem dX7_twice_1 : decode cX7_twice 1 = .ok (.i2l, 1) := by decide +kernel
theorem dX7_twice_2 : decode cX7_twice 2 = .ok (.ldc2_w 156, 3) := by decide +kernel
theorem dX7_twice_5 : decode cX7_twice 5 = .ok (.ldc2_w 60, 3) := by decide +kernel
theorem dX7_twice_8 : decode cX7_twice 8 = .ok (.invokestatic 43, 3) := by decide +kernel
theorem dX7_twice_11 : decode cX7_twice 11 = .ok (.ifCond .eq 13, 3) := by decide +kernel
theorem dX7_twice_14 : decode cX7_twice 14 = .ok (.iload_n 2, 1) := by decide +kernel
theorem dX7_twice_15 : decode cX7_twice 15 = .ok (.i2l, 1) := by decide +kernel
theorem dX7_twice_16 : decode cX7_twice 16 = .ok (.lconst 0, 1) := by decide +kernel
theorem dX7_twice_17 : decode cX7_twice 17 = .ok (.lconst 1, 1) := by decide +kernel
theorem dX7_twice_18 : decode cX7_twice 18 = .ok (.invokestatic 43, 3) := by decide +kernel
theorem dX7_twice_21 : decode cX7_twice 21 = .ok (.ifCond .ne 7, 3) := by decide +kernel
theorem dX7_twice_24 : decode cX7_twice 24 = .ok (.ldc2_w 158, 3) := by decide +kernel
theorem dX7_twice_27 : decode cX7_twice 27 = .ok (.lreturn, 1) := by decide +kernel
theorem dX7_twice_28 : decode cX7_twice 28 = .ok (.aload_n 0, 1) := by decide +kernel
theorem dX7_twice_29 : decode cX7_twice 29 = .ok (.invokevirtual 140, 3) := by decide +kernel
theorem dX7_twice_32 : decode cX7_twice 32 = .ok (.ifCond .eq 9, 3) := by decide +kernel
theorem dX7_twice_35 : decode cX7_twice 35 = .ok (.ldc2_w 160, 3) := by decide +kernel
theorem dX7_twice_38 : decode cX7_twice 38 = .ok (.goto 9, 3) := by decide +kernel
theorem dX7_twice_41 : decode cX7_twice 41 = .ok (.aload_n 0, 1) := by decide +kernel
theorem dX7_twice_42 : decode cX7_twice 42 = .ok (.iload_n 1, 1) := by decide +kernel
theorem dX7_twice_43 : decode cX7_twice 43 = .ok (.iload_n 2, 1) := by decide +kernel
theorem dX7_twice_44 : decode cX7_twice 44 = .ok (.invokevirtual 162, 3) := by decide +kernel
theorem dX7_twice_47 : decode cX7_twice 47 = .ok (.lreturn, 1) := by decide +kernel
theorem dX7_layRow_0 : decode cX7_layRow 0 = .ok (.iload_n 2, 1) := by decide +kernel
theorem dX7_layRow_1 : decode cX7_layRow 1 = .ok (.istore_n 3, 1) := by decide +kernel
theorem dX7_layRow_2 : decode cX7_layRow 2 = .ok (.iconst 0, 1) := by decide +kernel
theorem dX7_layRow_3 : decode cX7_layRow 3 = .ok (.istore 4, 2) := by decide +kernel
theorem dX7_layRow_5 : decode cX7_layRow 5 = .ok (.aload_n 0, 1) := by decide +kernel
theorem dX7_layRow_6 : decode cX7_layRow 6 = .ok (.getfield 165, 3) := by decide +kernel
theorem dX7_layRow_9 : decode cX7_layRow 9 = .ok (.iconst 1, 1) := by decide +kernel
theorem dX7_layRow_10 : decode cX7_layRow 10 = .ok (.isub, 1) := by decide +kernel
theorem dX7_layRow_11 : decode cX7_layRow 11 = .ok (.istore 5, 2) := by decide +kernel
theorem dX7_layRow_13 : decode cX7_layRow 13 = .ok (.iload 5, 2) := by decide +kernel
theorem dX7_layRow_15 : decode cX7_layRow 15 = .ok (.ifCond .lt 43, 3) := by decide +kernel
theorem dX7_layRow_18 : decode cX7_layRow 18 = .ok (.aload_n 0, 1) := by decide +kernel
theorem dX7_layRow_19 : decode cX7_layRow 19 = .ok (.getfield 19, 3) := by decide +kernel
theorem dX7_layRow_22 : decode cX7_layRow 22 = .ok (.iload 5, 2) := by decide +kernel
theorem dX7_layRow_24 : decode cX7_layRow 24 = .ok (.iload_n 3, 1) := by decide +kernel
theorem dX7_layRow_25 : decode cX7_layRow 25 = .ok (.aload_n 0, 1) := by decide +kernel
theorem dX7_layRow_26 : decode cX7_layRow 26 = .ok (.getfield 73, 3) := by decide +kernel
theorem dX7_layRow_29 : decode cX7_layRow 29 = .ok (.irem, 1) := by decide +kernel
theorem dX7_layRow_30 : decode cX7_layRow 30 = .ok (.iastore, 1) := by decide +kernel
theorem dX7_layRow_31 : decode cX7_layRow 31 = .ok (.iload 4, 2) := by decide +kernel
theorem dX7_layRow_33 : decode cX7_layRow 33 = .ok (.iconst 1, 1) := by decide +kernel
theorem dX7_layRow_34 : decode cX7_layRow 34 = .ok (.aload_n 0, 1) := by decide +kernel
theorem dX7_layRow_35 : decode cX7_layRow 35 = .ok (.getfield 19, 3) := by decide +kernel
theorem dX7_layRow_38 : decode cX7_layRow 38 = .ok (.iload 5, 2) := by decide +kernel
theorem dX7_layRow_40 : decode cX7_layRow 40 = .ok (.iaload, 1) := by decide +kernel
theorem dX7_layRow_41 : decode cX7_layRow 41 = .ok (.ishl, 1) := by decide +kernel
theorem dX7_layRow_42 : decode cX7_layRow 42 = .ok (.ior, 1) := by decide +kernel
theorem dX7_layRow_43 : decode cX7_layRow 43 = .ok (.istore 4, 2) := by decide +kernel
theorem dX7_layRow_45 : decode cX7_layRow 45 = .ok (.iload_n 3, 1) := by decide +kernel
theorem dX7_layRow_46 : decode cX7_layRow 46 = .ok (.aload_n 0, 1) := by decide +kernel
theorem dX7_layRow_47 : decode cX7_layRow 47 = .ok (.getfield 73, 3) := by decide +kernel
theorem dX7_layRow_50 : decode cX7_layRow 50 = .ok (.idiv, 1) := by decide +kernel
theorem dX7_layRow_51 : decode cX7_layRow 51 = .ok (.istore_n 3, 1) := by decide +kernel
theorem dX7_layRow_52 : decode cX7_layRow 52 = .ok (.iinc 5 (-1), 3) := by decide +kernel
theorem dX7_layRow_55 : decode cX7_layRow 55 = .ok (.goto (-42), 3) := by decide +kernel
theorem dX7_layRow_58 : decode cX7_layRow 58 = .ok (.iload 4, 2) := by decide +kernel
theorem dX7_layRow_60 : decode cX7_layRow 60 = .ok (.iload_n 1, 1) := by decide +kernel
theorem dX7_layRow_61 : decode cX7_layRow 61 = .ok (.if_icmp .ne 7, 3) := by decide +kernel
theorem dX7_layRow_64 : decode cX7_layRow 64 = .ok (.iconst 1, 1) := by decide +kernel
theorem dX7_layRow_65 : decode cX7_layRow 65 = .ok (.goto 4, 3) := by decide +kernel
theorem dX7_layRow_68 : decode cX7_layRow 68 = .ok (.iconst 0, 1) := by decide +kernel
theorem dX7_layRow_69 : decode cX7_layRow 69 = .ok (.istore 5, 2) := by decide +kernel
theorem dX7_layRow_71 : decode cX7_layRow 71 = .ok (.iconst 1, 1) := by decide +kernel
theorem dX7_layRow_72 : decode cX7_layRow 72 = .ok (.istore 6, 2) := by decide +kernel
theorem dX7_layRow_74 : decode cX7_layRow 74 = .ok (.iload 6, 2) := by decide +kernel
theorem dX7_layRow_76 : decode cX7_layRow 76 = .ok (.aload_n 0, 1) := by decide +kernel
theorem dX7_layRow_77 : decode cX7_layRow 77 = .ok (.getfield 165, 3) := by decide +kernel
theorem dX7_layRow_80 : decode cX7_layRow 80 = .ok (.if_icmp .ge 58, 3) := by decide +kernel
theorem dX7_layRow_83 : decode cX7_layRow 83 = .ok (.iload 5, 2) := by decide +kernel
theorem dX7_layRow_85 : decode cX7_layRow 85 = .ok (.ifCond .eq 44, 3) := by decide +kernel
theorem dX7_layRow_88 : decode cX7_layRow 88 = .ok (.aload_n 0, 1) := by decide +kernel
theorem dX7_layRow_89 : decode cX7_layRow 89 = .ok (.getfield 16, 3) := by decide +kernel
theorem dX7_layRow_92 : decode cX7_layRow 92 = .ok (.iconst 4, 1) := by decide +kernel
theorem dX7_layRow_93 : decode cX7_layRow 93 = .ok (.aload_n 0, 1) := by decide +kernel
theorem dX7_layRow_94 : decode cX7_layRow 94 = .ok (.getfield 19, 3) := by decide +kernel
theorem dX7_layRow_97 : decode cX7_layRow 97 = .ok (.iload 6, 2) := by decide +kernel
theorem dX7_layRow_99 : decode cX7_layRow 99 = .ok (.iaload, 1) := by decide +kernel
theorem dX7_layRow_100 : decode cX7_layRow 100 = .ok (.imul, 1) := by decide +kernel
theorem dX7_layRow_101 : decode cX7_layRow 101 = .ok (.iconst 1, 1) := by decide +kernel
theorem dX7_layRow_102 : decode cX7_layRow 102 = .ok (.iadd, 1) := by decide +kernel
theorem dX7_layRow_103 : decode cX7_layRow 103 = .ok (.iaload, 1) := by decide +kernel
theorem dX7_layRow_104 : decode cX7_layRow 104 = .ok (.aload_n 0, 1) := by decide +kernel
theorem dX7_layRow_105 : decode cX7_layRow 105 = .ok (.getfield 16, 3) := by decide +kernel
theorem dX7_layRow_108 : decode cX7_layRow 108 = .ok (.iconst 4, 1) := by decide +kernel
theorem dX7_layRow_109 : decode cX7_layRow 109 = .ok (.aload_n 0, 1) := by decide +kernel
theorem dX7_layRow_110 : decode cX7_layRow 110 = .ok (.getfield 19, 3) := by decide +kernel
theorem dX7_layRow_113 : decode cX7_layRow 113 = .ok (.iload 6, 2) := by decide +kernel
theorem dX7_layRow_115 : decode cX7_layRow 115 = .ok (.iconst 1, 1) := by decide +kernel
theorem dX7_layRow_116 : decode cX7_layRow 116 = .ok (.isub, 1) := by decide +kernel
theorem dX7_layRow_117 : decode cX7_layRow 117 = .ok (.iaload, 1) := by decide +kernel
theorem dX7_layRow_118 : decode cX7_layRow 118 = .ok (.imul, 1) := by decide +kernel
theorem dX7_layRow_119 : decode cX7_layRow 119 = .ok (.iconst 1, 1) := by decide +kernel
theorem dX7_layRow_120 : decode cX7_layRow 120 = .ok (.iadd, 1) := by decide +kernel
theorem dX7_layRow_121 : decode cX7_layRow 121 = .ok (.iaload, 1) := by decide +kernel
theorem dX7_layRow_122 : decode cX7_layRow 122 = .ok (.if_icmp .eq 7, 3) := by decide +kernel
theorem dX7_layRow_125 : decode cX7_layRow 125 = .ok (.iconst 1, 1) := by decide +kernel
theorem dX7_layRow_126 : decode cX7_layRow 126 = .ok (.goto 4, 3) := by decide +kernel
theorem dX7_layRow_129 : decode cX7_layRow 129 = .ok (.iconst 0, 1) := by decide +kernel
theorem dX7_layRow_130 : decode cX7_layRow 130 = .ok (.istore 5, 2) := by decide +kernel
theorem dX7_layRow_132 : decode cX7_layRow 132 = .ok (.iinc 6 1, 3) := by decide +kernel
theorem dX7_layRow_135 : decode cX7_layRow 135 = .ok (.goto (-61), 3) := by decide +kernel
theorem dX7_layRow_138 : decode cX7_layRow 138 = .ok (.iload 5, 2) := by decide +kernel
theorem dX7_layRow_140 : decode cX7_layRow 140 = .ok (.ireturn, 1) := by decide +kernel
set_option maxRecDepth 20000 in
theorem ggX7_partyOf_X7_ones : GoodIn wsX7_partyOf wsX7_ones := goodIn_r _ [8] (by decide +kernel) (by decide +kernel)
set_option maxRecDepth 20000 in
theorem gX7_partyOf_X7_ones : GoodIn wsX7_partyOf (va_wsS RX7 109 yX7_ones wsX7_ones) := goodIn_app (goodIn_of _ (by decide +kernel)) ggX7_partyOf_X7_ones
set_option maxRecDepth 20000 in
theorem ggX7_partyOf_X7_layRow : GoodIn wsX7_partyOf wsX7_layRow := goodIn_r _ [12, 1, 3, 2, 13, 17, 18, 19, 20, 21, 22, 23, 24, 25, 26, 27, 28, 29, 30, 31, 32, 33, 34, 35, 36, 37, 38, 39, 40, 41, 42, 43, 44, 45, 46] (by decide +kernel) (by decide +kernel)
set_option maxRecDepth 20000 in
theorem gX7_partyOf_X7_layRow : GoodIn wsX7_partyOf (wsV RX7 168 RX7 yX7_layRow wsX7_layRow) := goodIn_app (goodIn_of _ (by decide +kernel)) ggX7_partyOf_X7_layRow
set_option maxRecDepth 20000 in
theorem ggX7_partyOf_X7_copy : GoodIn wsX7_partyOf wsX7_copy := goodIn_r _ [16] (by decide +kernel) (by decide +kernel)
set_option maxRecDepth 20000 in
theorem gX7_partyOf_X7_copy : GoodIn wsX7_partyOf (va_wsS RX7 172 yX7_copy wsX7_copy) := goodIn_app (goodIn_of _ (by decide +kernel)) ggX7_partyOf_X7_copy
theorem dX7_partyOf_0 : decode cX7_partyOf 0 = .ok (.aload_n 0, 1) := by decide +kernel
theorem dX7_partyOf_1 : decode cX7_partyOf 1 = .ok (.iload_n 1, 1) := by decide +kernel
theorem dX7_partyOf_2 : decode cX7_partyOf 2 = .ok (.invokestatic 109, 3) := by decide +kernel
theorem dX7_partyOf_5 : decode cX7_partyOf 5 = .ok (.putfield 165, 3) := by decide +kernel
theorem dX7_partyOf_8 : decode cX7_partyOf 8 = .ok (.iconst 1, 1) := by decide +kernel
theorem dX7_partyOf_9 : decode cX7_partyOf 9 = .ok (.istore_n 3, 1) := by decide +kernel
theorem dX7_partyOf_10 : decode cX7_partyOf 10 = .ok (.iconst 0, 1) := by decide +kernel
theorem dX7_partyOf_11 : decode cX7_partyOf 11 = .ok (.istore 4, 2) := by decide +kernel
theorem dX7_partyOf_13 : decode cX7_partyOf 13 = .ok (.iload 4, 2) := by decide +kernel
theorem dX7_partyOf_15 : decode cX7_partyOf 15 = .ok (.aload_n 0, 1) := by decide +kernel
theorem dX7_partyOf_16 : decode cX7_partyOf 16 = .ok (.getfield 165, 3) := by decide +kernel
theorem dX7_partyOf_19 : decode cX7_partyOf 19 = .ok (.if_icmp .ge 16, 3) := by decide +kernel
theorem dX7_partyOf_22 : decode cX7_partyOf 22 = .ok (.iload_n 3, 1) := by decide +kernel
theorem dX7_partyOf_23 : decode cX7_partyOf 23 = .ok (.aload_n 0, 1) := by decide +kernel
theorem dX7_partyOf_24 : decode cX7_partyOf 24 = .ok (.getfield 73, 3) := by decide +kernel
theorem dX7_partyOf_27 : decode cX7_partyOf 27 = .ok (.imul, 1) := by decide +kernel
theorem dX7_partyOf_28 : decode cX7_partyOf 28 = .ok (.istore_n 3, 1) := by decide +kernel
theorem dX7_partyOf_29 : decode cX7_partyOf 29 = .ok (.iinc 4 1, 3) := by decide +kernel
theorem dX7_partyOf_32 : decode cX7_partyOf 32 = .ok (.goto (-19), 3) := by decide +kernel
theorem dX7_partyOf_35 : decode cX7_partyOf 35 = .ok (.iconst 0, 1) := by decide +kernel
theorem dX7_partyOf_36 : decode cX7_partyOf 36 = .ok (.istore 4, 2) := by decide +kernel
theorem dX7_partyOf_38 : decode cX7_partyOf 38 = .ok (.iconst 0, 1) := by decide +kernel
theorem dX7_partyOf_39 : decode cX7_partyOf 39 = .ok (.istore 5, 2) := by decide +kernel
theorem dX7_partyOf_41 : decode cX7_partyOf 41 = .ok (.iload 5, 2) := by decide +kernel
theorem dX7_partyOf_43 : decode cX7_partyOf 43 = .ok (.iload_n 3, 1) := by decide +kernel
theorem dX7_partyOf_44 : decode cX7_partyOf 44 = .ok (.if_icmp .ge 39, 3) := by decide +kernel
theorem dX7_partyOf_47 : decode cX7_partyOf 47 = .ok (.aload_n 0, 1) := by decide +kernel
theorem dX7_partyOf_48 : decode cX7_partyOf 48 = .ok (.iload_n 1, 1) := by decide +kernel
theorem dX7_partyOf_49 : decode cX7_partyOf 49 = .ok (.iload 5, 2) := by decide +kernel
theorem dX7_partyOf_51 : decode cX7_partyOf 51 = .ok (.invokevirtual 168, 3) := by decide +kernel
theorem dX7_partyOf_54 : decode cX7_partyOf 54 = .ok (.ifCond .eq 23, 3) := by decide +kernel
theorem dX7_partyOf_57 : decode cX7_partyOf 57 = .ok (.iinc 4 1, 3) := by decide +kernel
theorem dX7_partyOf_60 : decode cX7_partyOf 60 = .ok (.iload 4, 2) := by decide +kernel
theorem dX7_partyOf_62 : decode cX7_partyOf 62 = .ok (.iconst 1, 1) := by decide +kernel
theorem dX7_partyOf_63 : decode cX7_partyOf 63 = .ok (.if_icmp .ne 14, 3) := by decide +kernel
theorem dX7_partyOf_66 : decode cX7_partyOf 66 = .ok (.aload_n 0, 1) := by decide +kernel
theorem dX7_partyOf_67 : decode cX7_partyOf 67 = .ok (.getfield 19, 3) := by decide +kernel
theorem dX7_partyOf_70 : decode cX7_partyOf 70 = .ok (.aload_n 0, 1) := by decide +kernel
theorem dX7_partyOf_71 : decode cX7_partyOf 71 = .ok (.getfield 22, 3) := by decide +kernel
theorem dX7_partyOf_74 : decode cX7_partyOf 74 = .ok (.invokestatic 172, 3) := by decide +kernel
theorem dX7_partyOf_77 : decode cX7_partyOf 77 = .ok (.iinc 5 1, 3) := by decide +kernel
theorem dX7_partyOf_80 : decode cX7_partyOf 80 = .ok (.goto (-39), 3) := by decide +kernel
theorem dX7_partyOf_83 : decode cX7_partyOf 83 = .ok (.iload_n 2, 1) := by decide +kernel
theorem dX7_partyOf_84 : decode cX7_partyOf 84 = .ok (.ifCond .ne 6, 3) := by decide +kernel
theorem dX7_partyOf_87 : decode cX7_partyOf 87 = .ok (.iload 4, 2) := by decide +kernel
theorem dX7_partyOf_89 : decode cX7_partyOf 89 = .ok (.ireturn, 1) := by decide +kernel
theorem dX7_partyOf_90 : decode cX7_partyOf 90 = .ok (.iload 4, 2) := by decide +kernel
theorem dX7_partyOf_92 : decode cX7_partyOf 92 = .ok (.ifCond .eq 14, 3) := by decide +kernel
theorem dX7_partyOf_95 : decode cX7_partyOf 95 = .ok (.iload_n 2, 1) := by decide +kernel
theorem dX7_partyOf_96 : decode cX7_partyOf 96 = .ok (.bipush 10, 2) := by decide +kernel
theorem dX7_partyOf_98 : decode cX7_partyOf 98 = .ok (.isub, 1) := by decide +kernel
theorem dX7_partyOf_99 : decode cX7_partyOf 99 = .ok (.aload_n 0, 1) := by decide +kernel
theorem dX7_partyOf_100 : decode cX7_partyOf 100 = .ok (.getfield 165, 3) := by decide +kernel
theorem dX7_partyOf_103 : decode cX7_partyOf 103 = .ok (.if_icmp .lt 7, 3) := by decide +kernel
theorem dX7_partyOf_106 : decode cX7_partyOf 106 = .ok (.iconst (-1), 1) := by decide +kernel
theorem dX7_partyOf_107 : decode cX7_partyOf 107 = .ok (.goto 12, 3) := by decide +kernel
theorem dX7_partyOf_110 : decode cX7_partyOf 110 = .ok (.aload_n 0, 1) := by decide +kernel
theorem dX7_partyOf_111 : decode cX7_partyOf 111 = .ok (.getfield 22, 3) := by decide +kernel
theorem dX7_partyOf_114 : decode cX7_partyOf 114 = .ok (.iload_n 2, 1) := by decide +kernel
theorem dX7_partyOf_115 : decode cX7_partyOf 115 = .ok (.bipush 10, 2) := by decide +kernel
theorem dX7_partyOf_117 : decode cX7_partyOf 117 = .ok (.isub, 1) := by decide +kernel
theorem dX7_partyOf_118 : decode cX7_partyOf 118 = .ok (.iaload, 1) := by decide +kernel
theorem dX7_partyOf_119 : decode cX7_partyOf 119 = .ok (.ireturn, 1) := by decide +kernel
set_option maxRecDepth 20000 in
theorem ggX7_party_X7_all : GoodIn wsX7_party wsX7_all := goodIn_r _ [7, 8, 34, 35, 36, 37, 38, 39, 40, 41, 42, 43, 44, 45, 46, 47, 48, 49, 50, 51, 52, 53, 54, 55, 56, 57, 58, 59, 60, 61, 62, 63] (by decide +kernel) (by decide +kernel)
set_option maxRecDepth 20000 in
theorem gX7_party_X7_all : GoodIn wsX7_party (wsV RX7 79 RX7 yX7_all wsX7_all) := goodIn_app (goodIn_of _ (by decide +kernel)) ggX7_party_X7_all
set_option maxRecDepth 20000 in
theorem ggX7_party_X7_in : GoodIn wsX7_party wsX7_in := goodIn_r _ [11] (by decide +kernel) (by decide +kernel)
set_option maxRecDepth 20000 in
theorem gX7_party_X7_in : GoodIn wsX7_party (va_wsS RX7 43 yX7_in wsX7_in) := goodIn_app (goodIn_of _ (by decide +kernel)) ggX7_party_X7_in
set_option maxRecDepth 20000 in
theorem ggX7_party_X7_lacks : GoodIn wsX7_party wsX7_lacks := goodIn_r _ [15, 8, 34, 35, 36, 37, 38, 39, 40, 41, 42, 43, 44, 45, 46, 47, 48, 49, 50, 51, 52, 53, 54, 55, 56, 57, 58, 59, 60, 61, 62, 63] (by decide +kernel) (by decide +kernel)
set_option maxRecDepth 20000 in
theorem gX7_party_X7_lacks : GoodIn wsX7_party (wsV RX7 140 RX7 yX7_lacks wsX7_lacks) := goodIn_app (goodIn_of _ (by decide +kernel)) ggX7_party_X7_lacks
set_option maxRecDepth 20000 in
theorem ggX7_party_X7_partyOf : GoodIn wsX7_party wsX7_partyOf := goodIn_r _ [19, 20, 8, 21, 22, 23, 24, 6, 25, 26, 27, 28, 29, 30, 31, 32, 33, 34, 35, 36, 37, 38, 39, 40, 41, 42, 43, 44, 45, 46, 47, 48, 49, 50, 51, 52, 53, 54, 55, 56, 57, 58, 59, 60, 61, 62, 63] (by decide +kernel) (by decide +kernel)
set_option maxRecDepth 20000 in
theorem gX7_party_X7_partyOf : GoodIn wsX7_party (wsV RX7 180 RX7 yX7_partyOf wsX7_partyOf) := goodIn_app (goodIn_of _ (by decide +kernel)) ggX7_party_X7_partyOf
theorem dX7_party_0 : decode cX7_party 0 = .ok (.iload_n 1, 1) := by decide +kernel
theorem dX7_party_1 : decode cX7_party 1 = .ok (.i2l, 1) := by decide +kernel
theorem dX7_party_2 : decode cX7_party 2 = .ok (.lconst 0, 1) := by decide +kernel
theorem dX7_party_3 : decode cX7_party 3 = .ok (.aload_n 0, 1) := by decide +kernel
theorem dX7_party_4 : decode cX7_party 4 = .ok (.invokevirtual 79, 3) := by decide +kernel
theorem dX7_party_7 : decode cX7_party 7 = .ok (.i2l, 1) := by decide +kernel
theorem dX7_party_8 : decode cX7_party 8 = .ok (.invokestatic 43, 3) := by decide +kernel
theorem dX7_party_11 : decode cX7_party 11 = .ok (.ifCond .eq 21, 3) := by decide +kernel
theorem dX7_party_14 : decode cX7_party 14 = .ok (.iload_n 2, 1) := by decide +kernel
theorem dX7_party_15 : decode cX7_party 15 = .ok (.ifCond .eq 20, 3) := by decide +kernel
theorem dX7_party_18 : decode cX7_party 18 = .ok (.iload_n 2, 1) := by decide +kernel
theorem dX7_party_19 : decode cX7_party 19 = .ok (.i2l, 1) := by decide +kernel
theorem dX7_party_20 : decode cX7_party 20 = .ok (.ldc2_w 176, 3) := by decide +kernel
theorem dX7_party_23 : decode cX7_party 23 = .ok (.ldc2_w 178, 3) := by decide +kernel
theorem dX7_party_26 : decode cX7_party 26 = .ok (.invokestatic 43, 3) := by decide +kernel
theorem dX7_party_29 : decode cX7_party 29 = .ok (.ifCond .ne 6, 3) := by decide +kernel
theorem dX7_party_32 : decode cX7_party 32 = .ok (.bipush (-102), 2) := by decide +kernel
theorem dX7_party_34 : decode cX7_party 34 = .ok (.ireturn, 1) := by decide +kernel
theorem dX7_party_35 : decode cX7_party 35 = .ok (.aload_n 0, 1) := by decide +kernel
theorem dX7_party_36 : decode cX7_party 36 = .ok (.invokevirtual 140, 3) := by decide +kernel
theorem dX7_party_39 : decode cX7_party 39 = .ok (.ifCond .eq 8, 3) := by decide +kernel
theorem dX7_party_42 : decode cX7_party 42 = .ok (.bipush (-103), 2) := by decide +kernel
theorem dX7_party_44 : decode cX7_party 44 = .ok (.goto 9, 3) := by decide +kernel
theorem dX7_party_47 : decode cX7_party 47 = .ok (.aload_n 0, 1) := by decide +kernel
theorem dX7_party_48 : decode cX7_party 48 = .ok (.iload_n 1, 1) := by decide +kernel
theorem dX7_party_49 : decode cX7_party 49 = .ok (.iload_n 2, 1) := by decide +kernel
theorem dX7_party_50 : decode cX7_party 50 = .ok (.invokevirtual 180, 3) := by decide +kernel
theorem dX7_party_53 : decode cX7_party 53 = .ok (.ireturn, 1) := by decide +kernel
set_option maxRecDepth 20000 in
theorem ggX7_hear_X7_isSong : GoodIn wsX7_hear wsX7_isSong := goodIn_r _ [7, 8, 9, 10, 6, 11, 12, 13, 14, 15, 16, 17, 18, 19, 20, 21, 22, 23, 24, 25, 26, 27, 28, 29, 30, 31, 32, 33, 34, 35, 36, 37, 38, 39, 40, 41] (by decide +kernel) (by decide +kernel)
set_option maxRecDepth 20000 in
theorem gX7_hear_X7_isSong : GoodIn wsX7_hear (wsV RX7 132 RX7 yX7_isSong wsX7_isSong) := goodIn_app (goodIn_of _ (by decide +kernel)) ggX7_hear_X7_isSong
theorem dX7_hear_0 : decode cX7_hear 0 = .ok (.aload_n 0, 1) := by decide +kernel
theorem dX7_hear_1 : decode cX7_hear 1 = .ok (.iload_n 1, 1) := by decide +kernel
theorem dX7_hear_2 : decode cX7_hear 2 = .ok (.invokevirtual 132, 3) := by decide +kernel
theorem dX7_hear_5 : decode cX7_hear 5 = .ok (.ifCond .ne 6, 3) := by decide +kernel
theorem dX7_hear_8 : decode cX7_hear 8 = .ok (.bipush (-101), 2) := by decide +kernel
theorem dX7_hear_10 : decode cX7_hear 10 = .ok (.ireturn, 1) := by decide +kernel
theorem dX7_hear_11 : decode cX7_hear 11 = .ok (.aload_n 0, 1) := by decide +kernel
theorem dX7_hear_12 : decode cX7_hear 12 = .ok (.getfield 89, 3) := by decide +kernel
theorem dX7_hear_15 : decode cX7_hear 15 = .ok (.bipush 8, 2) := by decide +kernel
theorem dX7_hear_17 : decode cX7_hear 17 = .ok (.if_icmp .ne 6, 3) := by decide +kernel
theorem dX7_hear_20 : decode cX7_hear 20 = .ok (.bipush (-104), 2) := by decide +kernel
theorem dX7_hear_22 : decode cX7_hear 22 = .ok (.ireturn, 1) := by decide +kernel
theorem dX7_hear_23 : decode cX7_hear 23 = .ok (.aload_n 0, 1) := by decide +kernel
theorem dX7_hear_24 : decode cX7_hear 24 = .ok (.getfield 25, 3) := by decide +kernel
theorem dX7_hear_27 : decode cX7_hear 27 = .ok (.aload_n 0, 1) := by decide +kernel
theorem dX7_hear_28 : decode cX7_hear 28 = .ok (.getfield 89, 3) := by decide +kernel
theorem dX7_hear_31 : decode cX7_hear 31 = .ok (.iload_n 1, 1) := by decide +kernel
theorem dX7_hear_32 : decode cX7_hear 32 = .ok (.iastore, 1) := by decide +kernel
theorem dX7_hear_33 : decode cX7_hear 33 = .ok (.aload_n 0, 1) := by decide +kernel
theorem dX7_hear_34 : decode cX7_hear 34 = .ok (.dup, 1) := by decide +kernel
theorem dX7_hear_35 : decode cX7_hear 35 = .ok (.getfield 89, 3) := by decide +kernel
theorem dX7_hear_38 : decode cX7_hear 38 = .ok (.iconst 1, 1) := by decide +kernel
theorem dX7_hear_39 : decode cX7_hear 39 = .ok (.iadd, 1) := by decide +kernel
theorem dX7_hear_40 : decode cX7_hear 40 = .ok (.putfield 89, 3) := by decide +kernel
theorem dX7_hear_43 : decode cX7_hear 43 = .ok (.aload_n 0, 1) := by decide +kernel
theorem dX7_hear_44 : decode cX7_hear 44 = .ok (.getfield 89, 3) := by decide +kernel
theorem dX7_hear_47 : decode cX7_hear 47 = .ok (.ireturn, 1) := by decide +kernel
theorem dX7_forget_0 : decode cX7_forget 0 = .ok (.aload_n 0, 1) := by decide +kernel
theorem dX7_forget_1 : decode cX7_forget 1 = .ok (.getfield 89, 3) := by decide +kernel
theorem dX7_forget_4 : decode cX7_forget 4 = .ok (.istore_n 1, 1) := by decide +kernel
theorem dX7_forget_5 : decode cX7_forget 5 = .ok (.aload_n 0, 1) := by decide +kernel
theorem dX7_forget_6 : decode cX7_forget 6 = .ok (.iconst 0, 1) := by decide +kernel
theorem dX7_forget_7 : decode cX7_forget 7 = .ok (.putfield 89, 3) := by decide +kernel
theorem dX7_forget_10 : decode cX7_forget 10 = .ok (.iload_n 1, 1) := by decide +kernel
theorem dX7_forget_11 : decode cX7_forget 11 = .ok (.ireturn, 1) := by decide +kernel
set_option maxRecDepth 20000 in
theorem ggX7_layHeard_X7_all : GoodIn wsX7_layHeard wsX7_all := goodIn_r _ [9, 10, 32, 33, 34, 35, 36, 37, 38, 39, 40, 41, 42, 43, 44, 45, 46, 47, 48, 49, 50, 51, 52, 53, 54, 55, 56, 57, 58, 59, 60, 61] (by decide +kernel) (by decide +kernel)
set_option maxRecDepth 20000 in
theorem gX7_layHeard_X7_all : GoodIn wsX7_layHeard (wsV RX7 79 RX7 yX7_all wsX7_all) := goodIn_app (goodIn_of _ (by decide +kernel)) ggX7_layHeard_X7_all
set_option maxRecDepth 20000 in
theorem ggX7_layHeard_X7_mayBy : GoodIn wsX7_layHeard wsX7_mayBy := goodIn_r _ [14, 10, 15, 5, 6, 7, 8, 9, 32, 33, 34, 35, 36, 37, 38, 39, 40, 41, 42, 43, 44, 45, 46, 47, 48, 49, 50, 51, 52, 53, 54, 55, 56, 57, 58, 59, 60, 61] (by decide +kernel) (by decide +kernel)
set_option maxRecDepth 20000 in
theorem gX7_layHeard_X7_mayBy : GoodIn wsX7_layHeard (wsV RX7 98 RX7 yX7_mayBy wsX7_mayBy) := goodIn_app (goodIn_of _ (by decide +kernel)) ggX7_layHeard_X7_mayBy
set_option maxRecDepth 20000 in
theorem ggX7_layHeard_X7_baseOf : GoodIn wsX7_layHeard wsX7_baseOf := goodIn_r _ [19, 15, 32, 33, 34, 35, 36, 37, 38, 39, 40, 41, 42, 43, 44, 45, 46, 47, 48, 49, 50, 51, 52, 53, 54, 55, 56, 57, 58, 59, 60, 61] (by decide +kernel) (by decide +kernel)
set_option maxRecDepth 20000 in
theorem gX7_layHeard_X7_baseOf : GoodIn wsX7_layHeard (wsV RX7 95 RX7 yX7_baseOf wsX7_baseOf) := goodIn_app (goodIn_of _ (by decide +kernel)) ggX7_layHeard_X7_baseOf
set_option maxRecDepth 20000 in
theorem ggX7_layHeard_X7_sumOf : GoodIn wsX7_layHeard wsX7_sumOf := goodIn_r _ [23, 10, 16, 17, 18, 8, 19, 15, 24, 25, 26, 27, 32, 33, 34, 35, 36, 37, 38, 39, 40, 41, 42, 43, 44, 45, 46, 47, 48, 49, 50, 51, 52, 53, 54, 55, 56, 57, 58, 59, 60, 61] (by decide +kernel) (by decide +kernel)
set_option maxRecDepth 20000 in
theorem gX7_layHeard_X7_sumOf : GoodIn wsX7_layHeard (wsV RX7 105 RX7 yX7_sumOf wsX7_sumOf) := goodIn_app (goodIn_of _ (by decide +kernel)) ggX7_layHeard_X7_sumOf
set_option maxRecDepth 20000 in
theorem ggX7_layHeard_X7_bagBehind : GoodIn wsX7_layHeard wsX7_bagBehind := goodIn_r _ [31, 5, 6, 7, 8, 9, 10, 32, 33, 34, 35, 36, 37, 38, 39, 40, 41, 42, 43, 44, 45, 46, 47, 48, 49, 50, 51, 52, 53, 54, 55, 56, 57, 58, 59, 60, 61] (by decide +kernel) (by decide +kernel)
set_option maxRecDepth 20000 in
theorem gX7_layHeard_X7_bagBehind : GoodIn wsX7_layHeard (wsV RX7 144 RX7 yX7_bagBehind wsX7_bagBehind) := goodIn_app (goodIn_of _ (by decide +kernel)) ggX7_layHeard_X7_bagBehind
theorem dX7_layHeard_0 : decode cX7_layHeard 0 = .ok (.aload_n 0, 1) := by decide +kernel
theorem dX7_layHeard_1 : decode cX7_layHeard 1 = .ok (.lconst 1, 1) := by decide +kernel
theorem dX7_layHeard_2 : decode cX7_layHeard 2 = .ok (.putfield 183, 3) := by decide +kernel
theorem dX7_layHeard_5 : decode cX7_layHeard 5 = .ok (.aload_n 0, 1) := by decide +kernel
theorem dX7_layHeard_6 : decode cX7_layHeard 6 = .ok (.lconst 1, 1) := by decide +kernel
theorem dX7_layHeard_7 : decode cX7_layHeard 7 = .ok (.putfield 187, 3) := by decide +kernel
theorem dX7_layHeard_10 : decode cX7_layHeard 10 = .ok (.aload_n 0, 1) := by decide +kernel
theorem dX7_layHeard_11 : decode cX7_layHeard 11 = .ok (.invokevirtual 79, 3) := by decide +kernel
theorem dX7_layHeard_14 : decode cX7_layHeard 14 = .ok (.istore_n 2, 1) := by decide +kernel
theorem dX7_layHeard_15 : decode cX7_layHeard 15 = .ok (.iconst (-1), 1) := by decide +kernel
theorem dX7_layHeard_16 : decode cX7_layHeard 16 = .ok (.istore_n 3, 1) := by decide +kernel
theorem dX7_layHeard_17 : decode cX7_layHeard 17 = .ok (.iconst 0, 1) := by decide +kernel
theorem dX7_layHeard_18 : decode cX7_layHeard 18 = .ok (.istore 4, 2) := by decide +kernel
theorem dX7_layHeard_20 : decode cX7_layHeard 20 = .ok (.iload 4, 2) := by decide +kernel
theorem dX7_layHeard_22 : decode cX7_layHeard 22 = .ok (.aload_n 0, 1) := by decide +kernel
theorem dX7_layHeard_23 : decode cX7_layHeard 23 = .ok (.getfield 89, 3) := by decide +kernel
theorem dX7_layHeard_26 : decode cX7_layHeard 26 = .ok (.if_icmp .ge 79, 3) := by decide +kernel
theorem dX7_layHeard_29 : decode cX7_layHeard 29 = .ok (.aload_n 0, 1) := by decide +kernel
theorem dX7_layHeard_30 : decode cX7_layHeard 30 = .ok (.getfield 25, 3) := by decide +kernel
theorem dX7_layHeard_33 : decode cX7_layHeard 33 = .ok (.iload 4, 2) := by decide +kernel
theorem dX7_layHeard_35 : decode cX7_layHeard 35 = .ok (.iaload, 1) := by decide +kernel
theorem dX7_layHeard_36 : decode cX7_layHeard 36 = .ok (.istore 5, 2) := by decide +kernel
theorem dX7_layHeard_38 : decode cX7_layHeard 38 = .ok (.aload_n 0, 1) := by decide +kernel
theorem dX7_layHeard_39 : decode cX7_layHeard 39 = .ok (.iload_n 1, 1) := by decide +kernel
theorem dX7_layHeard_40 : decode cX7_layHeard 40 = .ok (.iload_n 2, 1) := by decide +kernel
theorem dX7_layHeard_41 : decode cX7_layHeard 41 = .ok (.iload_n 3, 1) := by decide +kernel
theorem dX7_layHeard_42 : decode cX7_layHeard 42 = .ok (.invokevirtual 98, 3) := by decide +kernel
theorem dX7_layHeard_45 : decode cX7_layHeard 45 = .ok (.istore 6, 2) := by decide +kernel
theorem dX7_layHeard_47 : decode cX7_layHeard 47 = .ok (.aload_n 0, 1) := by decide +kernel
theorem dX7_layHeard_48 : decode cX7_layHeard 48 = .ok (.dup, 1) := by decide +kernel
theorem dX7_layHeard_49 : decode cX7_layHeard 49 = .ok (.getfield 183, 3) := by decide +kernel
theorem dX7_layHeard_52 : decode cX7_layHeard 52 = .ok (.iload 6, 2) := by decide +kernel
theorem dX7_layHeard_54 : decode cX7_layHeard 54 = .ok (.iload 5, 2) := by decide +kernel
theorem dX7_layHeard_56 : decode cX7_layHeard 56 = .ok (.ishr, 1) := by decide +kernel
theorem dX7_layHeard_57 : decode cX7_layHeard 57 = .ok (.iconst 1, 1) := by decide +kernel
theorem dX7_layHeard_58 : decode cX7_layHeard 58 = .ok (.iand, 1) := by decide +kernel
theorem dX7_layHeard_59 : decode cX7_layHeard 59 = .ok (.aload_n 0, 1) := by decide +kernel
theorem dX7_layHeard_60 : decode cX7_layHeard 60 = .ok (.iload 5, 2) := by decide +kernel
theorem dX7_layHeard_62 : decode cX7_layHeard 62 = .ok (.invokevirtual 95, 3) := by decide +kernel
theorem dX7_layHeard_65 : decode cX7_layHeard 65 = .ok (.imul, 1) := by decide +kernel
theorem dX7_layHeard_66 : decode cX7_layHeard 66 = .ok (.i2l, 1) := by decide +kernel
theorem dX7_layHeard_67 : decode cX7_layHeard 67 = .ok (.lmul, 1) := by decide +kernel
theorem dX7_layHeard_68 : decode cX7_layHeard 68 = .ok (.putfield 183, 3) := by decide +kernel
theorem dX7_layHeard_71 : decode cX7_layHeard 71 = .ok (.aload_n 0, 1) := by decide +kernel
theorem dX7_layHeard_72 : decode cX7_layHeard 72 = .ok (.dup, 1) := by decide +kernel
theorem dX7_layHeard_73 : decode cX7_layHeard 73 = .ok (.getfield 187, 3) := by decide +kernel
theorem dX7_layHeard_76 : decode cX7_layHeard 76 = .ok (.aload_n 0, 1) := by decide +kernel
theorem dX7_layHeard_77 : decode cX7_layHeard 77 = .ok (.iload 6, 2) := by decide +kernel
theorem dX7_layHeard_79 : decode cX7_layHeard 79 = .ok (.iconst 1, 1) := by decide +kernel
theorem dX7_layHeard_80 : decode cX7_layHeard 80 = .ok (.invokevirtual 105, 3) := by decide +kernel
theorem dX7_layHeard_83 : decode cX7_layHeard 83 = .ok (.i2l, 1) := by decide +kernel
theorem dX7_layHeard_84 : decode cX7_layHeard 84 = .ok (.lmul, 1) := by decide +kernel
theorem dX7_layHeard_85 : decode cX7_layHeard 85 = .ok (.putfield 187, 3) := by decide +kernel
theorem dX7_layHeard_88 : decode cX7_layHeard 88 = .ok (.aload_n 0, 1) := by decide +kernel
theorem dX7_layHeard_89 : decode cX7_layHeard 89 = .ok (.iload_n 2, 1) := by decide +kernel
theorem dX7_layHeard_90 : decode cX7_layHeard 90 = .ok (.iload 5, 2) := by decide +kernel
theorem dX7_layHeard_92 : decode cX7_layHeard 92 = .ok (.invokevirtual 144, 3) := by decide +kernel
theorem dX7_layHeard_95 : decode cX7_layHeard 95 = .ok (.istore_n 2, 1) := by decide +kernel
theorem dX7_layHeard_96 : decode cX7_layHeard 96 = .ok (.iload 5, 2) := by decide +kernel
theorem dX7_layHeard_98 : decode cX7_layHeard 98 = .ok (.istore_n 3, 1) := by decide +kernel
theorem dX7_layHeard_99 : decode cX7_layHeard 99 = .ok (.iinc 4 1, 3) := by decide +kernel
theorem dX7_layHeard_102 : decode cX7_layHeard 102 = .ok (.goto (-82), 3) := by decide +kernel
theorem dX7_layHeard_105 : decode cX7_layHeard 105 = .ok (.return_, 1) := by decide +kernel
set_option maxRecDepth 20000 in
theorem ggX7_rulesOf_X7_layHeard : GoodIn wsX7_rulesOf wsX7_layHeard := goodIn_r _ [6, 1, 7, 8, 9, 10, 11, 12, 5, 13, 14, 15, 16, 17, 18, 19, 20, 21, 22, 23, 24, 25, 26, 27, 28, 29, 30, 31, 32, 33, 34, 35, 36, 37, 38, 39, 40, 41, 42, 43, 44, 45, 46, 47, 48, 49, 50, 51, 52, 53, 54, 55, 56, 57, 58, 59, 60, 61, 62, 63, 64, 65] (by decide +kernel) (by decide +kernel)
set_option maxRecDepth 20000 in
theorem gX7_rulesOf_X7_layHeard : GoodIn wsX7_rulesOf (wsV RX7 190 RX7 yX7_layHeard wsX7_layHeard) := goodIn_app (goodIn_of _ (by decide +kernel)) ggX7_rulesOf_X7_layHeard
theorem dX7_rulesOf_0 : decode cX7_rulesOf 0 = .ok (.iconst 0, 1) := by decide +kernel
theorem dX7_rulesOf_1 : decode cX7_rulesOf 1 = .ok (.istore_n 1, 1) := by decide +kernel
theorem dX7_rulesOf_2 : decode cX7_rulesOf 2 = .ok (.iconst 0, 1) := by decide +kernel
theorem dX7_rulesOf_3 : decode cX7_rulesOf 3 = .ok (.istore_n 2, 1) := by decide +kernel
theorem dX7_rulesOf_4 : decode cX7_rulesOf 4 = .ok (.iload_n 2, 1) := by decide +kernel
theorem dX7_rulesOf_5 : decode cX7_rulesOf 5 = .ok (.iconst 4, 1) := by decide +kernel
theorem dX7_rulesOf_6 : decode cX7_rulesOf 6 = .ok (.if_icmp .ge 33, 3) := by decide +kernel
theorem dX7_rulesOf_9 : decode cX7_rulesOf 9 = .ok (.aload_n 0, 1) := by decide +kernel
theorem dX7_rulesOf_10 : decode cX7_rulesOf 10 = .ok (.iload_n 2, 1) := by decide +kernel
theorem dX7_rulesOf_11 : decode cX7_rulesOf 11 = .ok (.invokevirtual 190, 3) := by decide +kernel
theorem dX7_rulesOf_14 : decode cX7_rulesOf 14 = .ok (.iload_n 1, 1) := by decide +kernel
theorem dX7_rulesOf_15 : decode cX7_rulesOf 15 = .ok (.aload_n 0, 1) := by decide +kernel
theorem dX7_rulesOf_16 : decode cX7_rulesOf 16 = .ok (.getfield 183, 3) := by decide +kernel
theorem dX7_rulesOf_19 : decode cX7_rulesOf 19 = .ok (.lconst 0, 1) := by decide +kernel
theorem dX7_rulesOf_20 : decode cX7_rulesOf 20 = .ok (.lcmp, 1) := by decide +kernel
theorem dX7_rulesOf_21 : decode cX7_rulesOf 21 = .ok (.ifCond .le 9, 3) := by decide +kernel
theorem dX7_rulesOf_24 : decode cX7_rulesOf 24 = .ok (.iconst 1, 1) := by decide +kernel
theorem dX7_rulesOf_25 : decode cX7_rulesOf 25 = .ok (.iload_n 2, 1) := by decide +kernel
theorem dX7_rulesOf_26 : decode cX7_rulesOf 26 = .ok (.ishl, 1) := by decide +kernel
theorem dX7_rulesOf_27 : decode cX7_rulesOf 27 = .ok (.goto 4, 3) := by decide +kernel
theorem dX7_rulesOf_30 : decode cX7_rulesOf 30 = .ok (.iconst 0, 1) := by decide +kernel
theorem dX7_rulesOf_31 : decode cX7_rulesOf 31 = .ok (.ior, 1) := by decide +kernel
theorem dX7_rulesOf_32 : decode cX7_rulesOf 32 = .ok (.istore_n 1, 1) := by decide +kernel
theorem dX7_rulesOf_33 : decode cX7_rulesOf 33 = .ok (.iinc 2 1, 3) := by decide +kernel
theorem dX7_rulesOf_36 : decode cX7_rulesOf 36 = .ok (.goto (-32), 3) := by decide +kernel
theorem dX7_rulesOf_39 : decode cX7_rulesOf 39 = .ok (.iload_n 1, 1) := by decide +kernel
theorem dX7_rulesOf_40 : decode cX7_rulesOf 40 = .ok (.ireturn, 1) := by decide +kernel
set_option maxRecDepth 20000 in
theorem ggX7_rules_X7_lacks : GoodIn wsX7_rules wsX7_lacks := goodIn_r _ [5, 6, 44, 45, 46, 47, 48, 49, 50, 51, 52, 53, 54, 55, 56, 57, 58, 59, 60, 61, 62, 63, 64, 65, 66, 67, 68, 69, 70, 71, 72, 73] (by decide +kernel) (by decide +kernel)
set_option maxRecDepth 20000 in
theorem gX7_rules_X7_lacks : GoodIn wsX7_rules (wsV RX7 140 RX7 yX7_lacks wsX7_lacks) := goodIn_app (goodIn_of _ (by decide +kernel)) ggX7_rules_X7_lacks
set_option maxRecDepth 20000 in
theorem ggX7_rules_X7_rulesOf : GoodIn wsX7_rules wsX7_rulesOf := goodIn_r _ [10, 11, 12, 13, 14, 4, 15, 16, 17, 18, 19, 20, 21, 22, 6, 23, 24, 25, 26, 27, 28, 29, 30, 31, 32, 33, 34, 35, 36, 37, 38, 39, 40, 41, 42, 43, 44, 45, 46, 47, 48, 49, 50, 51, 52, 53, 54, 55, 56, 57, 58, 59, 60, 61, 62, 63, 64, 65, 66, 67, 68, 69, 70, 71, 72, 73] (by decide +kernel) (by decide +kernel)
set_option maxRecDepth 20000 in
theorem gX7_rules_X7_rulesOf : GoodIn wsX7_rules (wsV RX7 194 RX7 yX7_rulesOf wsX7_rulesOf) := goodIn_app (goodIn_of _ (by decide +kernel)) ggX7_rules_X7_rulesOf
theorem dX7_rules_0 : decode cX7_rules 0 = .ok (.aload_n 0, 1) := by decide +kernel
theorem dX7_rules_1 : decode cX7_rules 1 = .ok (.invokevirtual 140, 3) := by decide +kernel
theorem dX7_rules_4 : decode cX7_rules 4 = .ok (.ifCond .eq 8, 3) := by decide +kernel
theorem dX7_rules_7 : decode cX7_rules 7 = .ok (.bipush (-103), 2) := by decide +kernel
theorem dX7_rules_9 : decode cX7_rules 9 = .ok (.goto 7, 3) := by decide +kernel
theorem dX7_rules_12 : decode cX7_rules 12 = .ok (.aload_n 0, 1) := by decide +kernel
theorem dX7_rules_13 : decode cX7_rules 13 = .ok (.invokevirtual 194, 3) := by decide +kernel
theorem dX7_rules_16 : decode cX7_rules 16 = .ok (.ireturn, 1) := by decide +kernel
set_option maxRecDepth 20000 in
theorem ggX7_likelyOf_X7_layHeard : GoodIn wsX7_likelyOf wsX7_layHeard := goodIn_r _ [7, 1, 2, 8, 9, 10, 11, 12, 6, 13, 14, 15, 16, 17, 18, 19, 20, 21, 22, 23, 24, 25, 26, 27, 28, 29, 30, 31, 32, 33, 34, 35, 36, 37, 38, 39, 40, 41, 42, 43, 44, 45, 46, 47, 48, 49, 50, 51, 52, 53, 54, 55, 56, 57, 58, 59, 60, 61, 62, 63, 64, 65] (by decide +kernel) (by decide +kernel)
set_option maxRecDepth 20000 in
theorem gX7_likelyOf_X7_layHeard : GoodIn wsX7_likelyOf (wsV RX7 190 RX7 yX7_layHeard wsX7_layHeard) := goodIn_app (goodIn_of _ (by decide +kernel)) ggX7_likelyOf_X7_layHeard
theorem dX7_likelyOf_0 : decode cX7_likelyOf 0 = .ok (.iconst (-1), 1) := by decide +kernel
theorem dX7_likelyOf_1 : decode cX7_likelyOf 1 = .ok (.istore_n 1, 1) := by decide +kernel
theorem dX7_likelyOf_2 : decode cX7_likelyOf 2 = .ok (.lconst 0, 1) := by decide +kernel
theorem dX7_likelyOf_3 : decode cX7_likelyOf 3 = .ok (.lstore_n 2, 1) := by decide +kernel
theorem dX7_likelyOf_4 : decode cX7_likelyOf 4 = .ok (.lconst 1, 1) := by decide +kernel
theorem dX7_likelyOf_5 : decode cX7_likelyOf 5 = .ok (.lstore 4, 2) := by decide +kernel
theorem dX7_likelyOf_7 : decode cX7_likelyOf 7 = .ok (.iconst 0, 1) := by decide +kernel
theorem dX7_likelyOf_8 : decode cX7_likelyOf 8 = .ok (.istore 6, 2) := by decide +kernel
theorem dX7_likelyOf_10 : decode cX7_likelyOf 10 = .ok (.iload 6, 2) := by decide +kernel
theorem dX7_likelyOf_12 : decode cX7_likelyOf 12 = .ok (.iconst 4, 1) := by decide +kernel
theorem dX7_likelyOf_13 : decode cX7_likelyOf 13 = .ok (.if_icmp .ge 46, 3) := by decide +kernel
theorem dX7_likelyOf_16 : decode cX7_likelyOf 16 = .ok (.aload_n 0, 1) := by decide +kernel
theorem dX7_likelyOf_17 : decode cX7_likelyOf 17 = .ok (.iload 6, 2) := by decide +kernel
theorem dX7_likelyOf_19 : decode cX7_likelyOf 19 = .ok (.invokevirtual 190, 3) := by decide +kernel
theorem dX7_likelyOf_22 : decode cX7_likelyOf 22 = .ok (.aload_n 0, 1) := by decide +kernel
theorem dX7_likelyOf_23 : decode cX7_likelyOf 23 = .ok (.getfield 183, 3) := by decide +kernel
theorem dX7_likelyOf_26 : decode cX7_likelyOf 26 = .ok (.lload 4, 2) := by decide +kernel
theorem dX7_likelyOf_28 : decode cX7_likelyOf 28 = .ok (.lmul, 1) := by decide +kernel
theorem dX7_likelyOf_29 : decode cX7_likelyOf 29 = .ok (.lload_n 2, 1) := by decide +kernel
theorem dX7_likelyOf_30 : decode cX7_likelyOf 30 = .ok (.aload_n 0, 1) := by decide +kernel
theorem dX7_likelyOf_31 : decode cX7_likelyOf 31 = .ok (.getfield 187, 3) := by decide +kernel
theorem dX7_likelyOf_34 : decode cX7_likelyOf 34 = .ok (.lmul, 1) := by decide +kernel
theorem dX7_likelyOf_35 : decode cX7_likelyOf 35 = .ok (.lcmp, 1) := by decide +kernel
theorem dX7_likelyOf_36 : decode cX7_likelyOf 36 = .ok (.ifCond .le 17, 3) := by decide +kernel
theorem dX7_likelyOf_39 : decode cX7_likelyOf 39 = .ok (.iload 6, 2) := by decide +kernel
theorem dX7_likelyOf_41 : decode cX7_likelyOf 41 = .ok (.istore_n 1, 1) := by decide +kernel
theorem dX7_likelyOf_42 : decode cX7_likelyOf 42 = .ok (.aload_n 0, 1) := by decide +kernel
theorem dX7_likelyOf_43 : decode cX7_likelyOf 43 = .ok (.getfield 183, 3) := by decide +kernel
theorem dX7_likelyOf_46 : decode cX7_likelyOf 46 = .ok (.lstore_n 2, 1) := by decide +kernel
theorem dX7_likelyOf_47 : decode cX7_likelyOf 47 = .ok (.aload_n 0, 1) := by decide +kernel
theorem dX7_likelyOf_48 : decode cX7_likelyOf 48 = .ok (.getfield 187, 3) := by decide +kernel
theorem dX7_likelyOf_51 : decode cX7_likelyOf 51 = .ok (.lstore 4, 2) := by decide +kernel
theorem dX7_likelyOf_53 : decode cX7_likelyOf 53 = .ok (.iinc 6 1, 3) := by decide +kernel
theorem dX7_likelyOf_56 : decode cX7_likelyOf 56 = .ok (.goto (-46), 3) := by decide +kernel
theorem dX7_likelyOf_59 : decode cX7_likelyOf 59 = .ok (.iload_n 1, 1) := by decide +kernel
theorem dX7_likelyOf_60 : decode cX7_likelyOf 60 = .ok (.ireturn, 1) := by decide +kernel
set_option maxRecDepth 20000 in
theorem ggX7_likely_X7_lacks : GoodIn wsX7_likely wsX7_lacks := goodIn_r _ [5, 6, 44, 45, 46, 47, 48, 49, 50, 51, 52, 53, 54, 55, 56, 57, 58, 59, 60, 61, 62, 63, 64, 65, 66, 67, 68, 69, 70, 71, 72, 73] (by decide +kernel) (by decide +kernel)
set_option maxRecDepth 20000 in
theorem gX7_likely_X7_lacks : GoodIn wsX7_likely (wsV RX7 140 RX7 yX7_lacks wsX7_lacks) := goodIn_app (goodIn_of _ (by decide +kernel)) ggX7_likely_X7_lacks
set_option maxRecDepth 20000 in
theorem ggX7_likely_X7_likelyOf : GoodIn wsX7_likely wsX7_likelyOf := goodIn_r _ [10, 11, 12, 13, 14, 15, 4, 16, 17, 18, 19, 20, 21, 22, 6, 23, 24, 25, 26, 27, 28, 29, 30, 31, 32, 33, 34, 35, 36, 37, 38, 39, 40, 41, 42, 43, 44, 45, 46, 47, 48, 49, 50, 51, 52, 53, 54, 55, 56, 57, 58, 59, 60, 61, 62, 63, 64, 65, 66, 67, 68, 69, 70, 71, 72, 73] (by decide +kernel) (by decide +kernel)
set_option maxRecDepth 20000 in
theorem gX7_likely_X7_likelyOf : GoodIn wsX7_likely (wsV RX7 197 RX7 yX7_likelyOf wsX7_likelyOf) := goodIn_app (goodIn_of _ (by decide +kernel)) ggX7_likely_X7_likelyOf
theorem dX7_likely_0 : decode cX7_likely 0 = .ok (.aload_n 0, 1) := by decide +kernel
theorem dX7_likely_1 : decode cX7_likely 1 = .ok (.invokevirtual 140, 3) := by decide +kernel
theorem dX7_likely_4 : decode cX7_likely 4 = .ok (.ifCond .eq 8, 3) := by decide +kernel
theorem dX7_likely_7 : decode cX7_likely 7 = .ok (.bipush (-103), 2) := by decide +kernel
theorem dX7_likely_9 : decode cX7_likely 9 = .ok (.goto 7, 3) := by decide +kernel
theorem dX7_likely_12 : decode cX7_likely 12 = .ok (.aload_n 0, 1) := by decide +kernel
theorem dX7_likely_13 : decode cX7_likely 13 = .ok (.invokevirtual 197, 3) := by decide +kernel
theorem dX7_likely_16 : decode cX7_likely 16 = .ok (.ireturn, 1) := by decide +kernel
end
section
theorem dX7_draw_0 : decode cX7_draw 0 = .ok (.aload_n 0, 1) := by decide +kernel
theorem dX7_draw_1 : decode cX7_draw 1 = .ok (.ldc2_w 200, 3) := by decide +kernel
theorem dX7_draw_4 : decode cX7_draw 4 = .ok (.aload_n 0, 1) := by decide +kernel
theorem dX7_draw_5 : decode cX7_draw 5 = .ok (.getfield 202, 3) := by decide +kernel
theorem dX7_draw_8 : decode cX7_draw 8 = .ok (.i2l, 1) := by decide +kernel
theorem dX7_draw_9 : decode cX7_draw 9 = .ok (.lmul, 1) := by decide +kernel
theorem dX7_draw_10 : decode cX7_draw 10 = .ok (.ldc2_w 205, 3) := by decide +kernel
theorem dX7_draw_13 : decode cX7_draw 13 = .ok (.ladd, 1) := by decide +kernel
theorem dX7_draw_14 : decode cX7_draw 14 = .ok (.ldc2_w 207, 3) := by decide +kernel
theorem dX7_draw_17 : decode cX7_draw 17 = .ok (.land, 1) := by decide +kernel
theorem dX7_draw_18 : decode cX7_draw 18 = .ok (.l2i, 1) := by decide +kernel
theorem dX7_draw_19 : decode cX7_draw 19 = .ok (.putfield 202, 3) := by decide +kernel
theorem dX7_draw_22 : decode cX7_draw 22 = .ok (.aload_n 0, 1) := by decide +kernel
theorem dX7_draw_23 : decode cX7_draw 23 = .ok (.getfield 202, 3) := by decide +kernel
theorem dX7_draw_26 : decode cX7_draw 26 = .ok (.ldc 209, 2) := by decide +kernel
theorem dX7_draw_28 : decode cX7_draw 28 = .ok (.idiv, 1) := by decide +kernel
theorem dX7_draw_29 : decode cX7_draw 29 = .ok (.iload_n 1, 1) := by decide +kernel
theorem dX7_draw_30 : decode cX7_draw 30 = .ok (.irem, 1) := by decide +kernel
theorem dX7_draw_31 : decode cX7_draw 31 = .ok (.ireturn, 1) := by decide +kernel
set_option maxRecDepth 20000 in
theorem ggX7_drawn_X7_sharesOf : GoodIn wsX7_drawn wsX7_sharesOf := goodIn_r _ [5, 6, 7, 8, 4, 9, 10, 11, 12, 13, 14, 15, 16, 17, 18, 19, 20, 21, 22, 36, 37, 38, 39, 40, 41, 42, 43, 44, 45, 46, 47, 48, 49, 50, 51, 52, 53, 54, 55, 56, 57, 58, 59, 60, 61, 62, 63, 64, 65] (by decide +kernel) (by decide +kernel)
set_option maxRecDepth 20000 in
theorem gX7_drawn_X7_sharesOf : GoodIn wsX7_drawn (wsV RX7 115 RX7 yX7_sharesOf wsX7_sharesOf) := goodIn_app (goodIn_of _ (by decide +kernel)) ggX7_drawn_X7_sharesOf
set_option maxRecDepth 20000 in
theorem ggX7_drawn_X7_draw : GoodIn wsX7_drawn wsX7_draw := goodIn_r _ [26, 27, 28, 29, 30, 31, 36, 37, 38, 39, 40, 41, 42, 43, 44, 45, 46, 47, 48, 49, 50, 51, 52, 53, 54, 55, 56, 57, 58, 59, 60, 61, 62, 63, 64, 65] (by decide +kernel) (by decide +kernel)
set_option maxRecDepth 20000 in
theorem gX7_drawn_X7_draw : GoodIn wsX7_drawn (wsV RX7 210 RX7 yX7_draw wsX7_draw) := goodIn_app (goodIn_of _ (by decide +kernel)) ggX7_drawn_X7_draw
set_option maxRecDepth 20000 in
theorem ggX7_drawn_X7_shareOf : GoodIn wsX7_drawn wsX7_shareOf := goodIn_r _ [35, 6, 7, 8, 4, 9, 10, 11, 12, 13, 14, 15, 16, 17, 18, 19, 36, 37, 38, 39, 40, 41, 42, 43, 44, 45, 46, 47, 48, 49, 50, 51, 52, 53, 54, 55, 56, 57, 58, 59, 60, 61, 62, 63, 64, 65] (by decide +kernel) (by decide +kernel)
set_option maxRecDepth 20000 in
theorem gX7_drawn_X7_shareOf : GoodIn wsX7_drawn (wsV RX7 118 RX7 yX7_shareOf wsX7_shareOf) := goodIn_app (goodIn_of _ (by decide +kernel)) ggX7_drawn_X7_shareOf
theorem dX7_drawn_0 : decode cX7_drawn 0 = .ok (.aload_n 0, 1) := by decide +kernel
theorem dX7_drawn_1 : decode cX7_drawn 1 = .ok (.aload_n 0, 1) := by decide +kernel
theorem dX7_drawn_2 : decode cX7_drawn 2 = .ok (.iload_n 1, 1) := by decide +kernel
theorem dX7_drawn_3 : decode cX7_drawn 3 = .ok (.invokevirtual 115, 3) := by decide +kernel
theorem dX7_drawn_6 : decode cX7_drawn 6 = .ok (.invokevirtual 210, 3) := by decide +kernel
theorem dX7_drawn_9 : decode cX7_drawn 9 = .ok (.istore_n 2, 1) := by decide +kernel
theorem dX7_drawn_10 : decode cX7_drawn 10 = .ok (.iconst 0, 1) := by decide +kernel
theorem dX7_drawn_11 : decode cX7_drawn 11 = .ok (.istore_n 3, 1) := by decide +kernel
theorem dX7_drawn_12 : decode cX7_drawn 12 = .ok (.iload_n 2, 1) := by decide +kernel
theorem dX7_drawn_13 : decode cX7_drawn 13 = .ok (.aload_n 0, 1) := by decide +kernel
theorem dX7_drawn_14 : decode cX7_drawn 14 = .ok (.iload_n 3, 1) := by decide +kernel
theorem dX7_drawn_15 : decode cX7_drawn 15 = .ok (.iload_n 1, 1) := by decide +kernel
theorem dX7_drawn_16 : decode cX7_drawn 16 = .ok (.invokevirtual 118, 3) := by decide +kernel
theorem dX7_drawn_19 : decode cX7_drawn 19 = .ok (.if_icmp .lt 18, 3) := by decide +kernel
theorem dX7_drawn_22 : decode cX7_drawn 22 = .ok (.iload_n 2, 1) := by decide +kernel
theorem dX7_drawn_23 : decode cX7_drawn 23 = .ok (.aload_n 0, 1) := by decide +kernel
theorem dX7_drawn_24 : decode cX7_drawn 24 = .ok (.iload_n 3, 1) := by decide +kernel
theorem dX7_drawn_25 : decode cX7_drawn 25 = .ok (.iload_n 1, 1) := by decide +kernel
theorem dX7_drawn_26 : decode cX7_drawn 26 = .ok (.invokevirtual 118, 3) := by decide +kernel
theorem dX7_drawn_29 : decode cX7_drawn 29 = .ok (.isub, 1) := by decide +kernel
theorem dX7_drawn_30 : decode cX7_drawn 30 = .ok (.istore_n 2, 1) := by decide +kernel
theorem dX7_drawn_31 : decode cX7_drawn 31 = .ok (.iinc 3 1, 3) := by decide +kernel
theorem dX7_drawn_34 : decode cX7_drawn 34 = .ok (.goto (-22), 3) := by decide +kernel
theorem dX7_drawn_37 : decode cX7_drawn 37 = .ok (.iload_n 3, 1) := by decide +kernel
theorem dX7_drawn_38 : decode cX7_drawn 38 = .ok (.ireturn, 1) := by decide +kernel
set_option maxRecDepth 20000 in
theorem ggX7_evenings_X7_in : GoodIn wsX7_evenings wsX7_in := goodIn_r _ [10] (by decide +kernel) (by decide +kernel)
set_option maxRecDepth 20000 in
theorem gX7_evenings_X7_in : GoodIn wsX7_evenings (va_wsS RX7 43 yX7_in wsX7_in) := goodIn_app (goodIn_of _ (by decide +kernel)) ggX7_evenings_X7_in
set_option maxRecDepth 20000 in
theorem ggX7_evenings_X7_lacks : GoodIn wsX7_evenings wsX7_lacks := goodIn_r _ [14, 15, 68, 69, 70, 71, 72, 73, 74, 75, 76, 77, 78, 79, 80, 81, 82, 83, 84, 85, 86, 87, 88, 89, 90, 91, 92, 93, 94, 95, 96, 97] (by decide +kernel) (by decide +kernel)
set_option maxRecDepth 20000 in
theorem gX7_evenings_X7_lacks : GoodIn wsX7_evenings (wsV RX7 140 RX7 yX7_lacks wsX7_lacks) := goodIn_app (goodIn_of _ (by decide +kernel)) ggX7_evenings_X7_lacks
set_option maxRecDepth 20000 in
theorem ggX7_evenings_X7_mayBy : GoodIn wsX7_evenings wsX7_mayBy := goodIn_r _ [19, 15, 20, 21, 22, 23, 9, 24, 68, 69, 70, 71, 72, 73, 74, 75, 76, 77, 78, 79, 80, 81, 82, 83, 84, 85, 86, 87, 88, 89, 90, 91, 92, 93, 94, 95, 96, 97] (by decide +kernel) (by decide +kernel)
set_option maxRecDepth 20000 in
theorem gX7_evenings_X7_mayBy : GoodIn wsX7_evenings (wsV RX7 98 RX7 yX7_mayBy wsX7_mayBy) := goodIn_app (goodIn_of _ (by decide +kernel)) ggX7_evenings_X7_mayBy
set_option maxRecDepth 20000 in
theorem ggX7_evenings_X7_drawn : GoodIn wsX7_evenings wsX7_drawn := goodIn_r _ [28, 29, 30, 31, 9, 32, 33, 34, 35, 36, 15, 37, 38, 39, 40, 20, 41, 42, 43, 44, 45, 46, 47, 48, 49, 50, 51, 52, 3, 53, 54, 55, 56, 57, 58, 59, 68, 69, 70, 71, 72, 73, 74, 75, 76, 77, 78, 79, 80, 81, 82, 83, 84, 85, 86, 87, 88, 89, 90, 91, 92, 93, 94, 95, 96, 97] (by decide +kernel) (by decide +kernel)
set_option maxRecDepth 20000 in
theorem gX7_evenings_X7_drawn : GoodIn wsX7_evenings (wsV RX7 215 RX7 yX7_drawn wsX7_drawn) := goodIn_app (goodIn_of _ (by decide +kernel)) ggX7_evenings_X7_drawn
set_option maxRecDepth 20000 in
theorem ggX7_evenings_X7_bagBehind : GoodIn wsX7_evenings wsX7_bagBehind := goodIn_r _ [63, 21, 22, 23, 9, 24, 15, 68, 69, 70, 71, 72, 73, 74, 75, 76, 77, 78, 79, 80, 81, 82, 83, 84, 85, 86, 87, 88, 89, 90, 91, 92, 93, 94, 95, 96, 97] (by decide +kernel) (by decide +kernel)
set_option maxRecDepth 20000 in
theorem gX7_evenings_X7_bagBehind : GoodIn wsX7_evenings (wsV RX7 144 RX7 yX7_bagBehind wsX7_bagBehind) := goodIn_app (goodIn_of _ (by decide +kernel)) ggX7_evenings_X7_bagBehind
set_option maxRecDepth 20000 in
theorem ggX7_evenings_X7_minutesOf : GoodIn wsX7_evenings wsX7_minutesOf := goodIn_r _ [67, 20, 68, 69, 70, 71, 72, 73, 74, 75, 76, 77, 78, 79, 80, 81, 82, 83, 84, 85, 86, 87, 88, 89, 90, 91, 92, 93, 94, 95, 96, 97] (by decide +kernel) (by decide +kernel)
set_option maxRecDepth 20000 in
theorem gX7_evenings_X7_minutesOf : GoodIn wsX7_evenings (wsV RX7 126 RX7 yX7_minutesOf wsX7_minutesOf) := goodIn_app (goodIn_of _ (by decide +kernel)) ggX7_evenings_X7_minutesOf
set_option maxRecDepth 20000 in
theorem ggX7_evenings_X7_ones : GoodIn wsX7_evenings wsX7_ones := goodIn_r _ [47] (by decide +kernel) (by decide +kernel)
set_option maxRecDepth 20000 in
theorem gX7_evenings_X7_ones : GoodIn wsX7_evenings (va_wsS RX7 109 yX7_ones wsX7_ones) := goodIn_app (goodIn_of _ (by decide +kernel)) ggX7_evenings_X7_ones
theorem dX7_evenings_0 : decode cX7_evenings 0 = .ok (.iload_n 1, 1) := by decide +kernel
theorem dX7_evenings_1 : decode cX7_evenings 1 = .ok (.i2l, 1) := by decide +kernel
theorem dX7_evenings_2 : decode cX7_evenings 2 = .ok (.lconst 1, 1) := by decide +kernel
theorem dX7_evenings_3 : decode cX7_evenings 3 = .ok (.ldc2_w 213, 3) := by decide +kernel
theorem dX7_evenings_6 : decode cX7_evenings 6 = .ok (.invokestatic 43, 3) := by decide +kernel
theorem dX7_evenings_9 : decode cX7_evenings 9 = .ok (.ifCond .eq 19, 3) := by decide +kernel
theorem dX7_evenings_12 : decode cX7_evenings 12 = .ok (.iload_n 2, 1) := by decide +kernel
theorem dX7_evenings_13 : decode cX7_evenings 13 = .ok (.ifCond .lt 15, 3) := by decide +kernel
theorem dX7_evenings_16 : decode cX7_evenings 16 = .ok (.iload_n 3, 1) := by decide +kernel
theorem dX7_evenings_17 : decode cX7_evenings 17 = .ok (.i2l, 1) := by decide +kernel
theorem dX7_evenings_18 : decode cX7_evenings 18 = .ok (.lconst 0, 1) := by decide +kernel
theorem dX7_evenings_19 : decode cX7_evenings 19 = .ok (.ldc2_w 156, 3) := by decide +kernel
theorem dX7_evenings_22 : decode cX7_evenings 22 = .ok (.invokestatic 43, 3) := by decide +kernel
theorem dX7_evenings_25 : decode cX7_evenings 25 = .ok (.ifCond .ne 6, 3) := by decide +kernel
theorem dX7_evenings_28 : decode cX7_evenings 28 = .ok (.bipush (-102), 2) := by decide +kernel
theorem dX7_evenings_30 : decode cX7_evenings 30 = .ok (.ireturn, 1) := by decide +kernel
theorem dX7_evenings_31 : decode cX7_evenings 31 = .ok (.aload_n 0, 1) := by decide +kernel
theorem dX7_evenings_32 : decode cX7_evenings 32 = .ok (.invokevirtual 140, 3) := by decide +kernel
theorem dX7_evenings_35 : decode cX7_evenings 35 = .ok (.ifCond .eq 6, 3) := by decide +kernel
theorem dX7_evenings_38 : decode cX7_evenings 38 = .ok (.bipush (-103), 2) := by decide +kernel
theorem dX7_evenings_40 : decode cX7_evenings 40 = .ok (.ireturn, 1) := by decide +kernel
theorem dX7_evenings_41 : decode cX7_evenings 41 = .ok (.aload_n 0, 1) := by decide +kernel
theorem dX7_evenings_42 : decode cX7_evenings 42 = .ok (.iload_n 2, 1) := by decide +kernel
theorem dX7_evenings_43 : decode cX7_evenings 43 = .ok (.putfield 202, 3) := by decide +kernel
theorem dX7_evenings_46 : decode cX7_evenings 46 = .ok (.aload_n 0, 1) := by decide +kernel
theorem dX7_evenings_47 : decode cX7_evenings 47 = .ok (.getfield 82, 3) := by decide +kernel
theorem dX7_evenings_50 : decode cX7_evenings 50 = .ok (.istore 4, 2) := by decide +kernel
theorem dX7_evenings_52 : decode cX7_evenings 52 = .ok (.aload_n 0, 1) := by decide +kernel
theorem dX7_evenings_53 : decode cX7_evenings 53 = .ok (.getfield 38, 3) := by decide +kernel
theorem dX7_evenings_56 : decode cX7_evenings 56 = .ok (.istore 5, 2) := by decide +kernel
theorem dX7_evenings_58 : decode cX7_evenings 58 = .ok (.iconst 0, 1) := by decide +kernel
theorem dX7_evenings_59 : decode cX7_evenings 59 = .ok (.istore 6, 2) := by decide +kernel
theorem dX7_evenings_61 : decode cX7_evenings 61 = .ok (.iconst 0, 1) := by decide +kernel
theorem dX7_evenings_62 : decode cX7_evenings 62 = .ok (.istore 7, 2) := by decide +kernel
theorem dX7_evenings_64 : decode cX7_evenings 64 = .ok (.iconst 0, 1) := by decide +kernel
theorem dX7_evenings_65 : decode cX7_evenings 65 = .ok (.istore 8, 2) := by decide +kernel
theorem dX7_evenings_67 : decode cX7_evenings 67 = .ok (.iload 8, 2) := by decide +kernel
theorem dX7_evenings_69 : decode cX7_evenings 69 = .ok (.iload_n 1, 1) := by decide +kernel
theorem dX7_evenings_70 : decode cX7_evenings 70 = .ok (.if_icmp .ge 57, 3) := by decide +kernel
theorem dX7_evenings_73 : decode cX7_evenings 73 = .ok (.aload_n 0, 1) := by decide +kernel
theorem dX7_evenings_74 : decode cX7_evenings 74 = .ok (.aload_n 0, 1) := by decide +kernel
theorem dX7_evenings_75 : decode cX7_evenings 75 = .ok (.aload_n 0, 1) := by decide +kernel
theorem dX7_evenings_76 : decode cX7_evenings 76 = .ok (.getfield 76, 3) := by decide +kernel
theorem dX7_evenings_79 : decode cX7_evenings 79 = .ok (.iload 4, 2) := by decide +kernel
theorem dX7_evenings_81 : decode cX7_evenings 81 = .ok (.iload 5, 2) := by decide +kernel
theorem dX7_evenings_83 : decode cX7_evenings 83 = .ok (.invokevirtual 98, 3) := by decide +kernel
theorem dX7_evenings_86 : decode cX7_evenings 86 = .ok (.invokevirtual 215, 3) := by decide +kernel
theorem dX7_evenings_89 : decode cX7_evenings 89 = .ok (.istore 5, 2) := by decide +kernel
theorem dX7_evenings_91 : decode cX7_evenings 91 = .ok (.aload_n 0, 1) := by decide +kernel
theorem dX7_evenings_92 : decode cX7_evenings 92 = .ok (.iload 4, 2) := by decide +kernel
theorem dX7_evenings_94 : decode cX7_evenings 94 = .ok (.iload 5, 2) := by decide +kernel
theorem dX7_evenings_96 : decode cX7_evenings 96 = .ok (.invokevirtual 144, 3) := by decide +kernel
theorem dX7_evenings_99 : decode cX7_evenings 99 = .ok (.istore 4, 2) := by decide +kernel
theorem dX7_evenings_101 : decode cX7_evenings 101 = .ok (.iload 6, 2) := by decide +kernel
theorem dX7_evenings_103 : decode cX7_evenings 103 = .ok (.iconst 1, 1) := by decide +kernel
theorem dX7_evenings_104 : decode cX7_evenings 104 = .ok (.iload 5, 2) := by decide +kernel
theorem dX7_evenings_106 : decode cX7_evenings 106 = .ok (.ishl, 1) := by decide +kernel
theorem dX7_evenings_107 : decode cX7_evenings 107 = .ok (.ior, 1) := by decide +kernel
theorem dX7_evenings_108 : decode cX7_evenings 108 = .ok (.istore 6, 2) := by decide +kernel
theorem dX7_evenings_110 : decode cX7_evenings 110 = .ok (.iload 7, 2) := by decide +kernel
theorem dX7_evenings_112 : decode cX7_evenings 112 = .ok (.aload_n 0, 1) := by decide +kernel
theorem dX7_evenings_113 : decode cX7_evenings 113 = .ok (.iload 5, 2) := by decide +kernel
theorem dX7_evenings_115 : decode cX7_evenings 115 = .ok (.invokevirtual 126, 3) := by decide +kernel
theorem dX7_evenings_118 : decode cX7_evenings 118 = .ok (.iadd, 1) := by decide +kernel
theorem dX7_evenings_119 : decode cX7_evenings 119 = .ok (.istore 7, 2) := by decide +kernel
theorem dX7_evenings_121 : decode cX7_evenings 121 = .ok (.iinc 8 1, 3) := by decide +kernel
theorem dX7_evenings_124 : decode cX7_evenings 124 = .ok (.goto (-57), 3) := by decide +kernel
theorem dX7_evenings_127 : decode cX7_evenings 127 = .ok (.iload_n 3, 1) := by decide +kernel
theorem dX7_evenings_128 : decode cX7_evenings 128 = .ok (.ifCond .ne 11, 3) := by decide +kernel
theorem dX7_evenings_131 : decode cX7_evenings 131 = .ok (.iload 6, 2) := by decide +kernel
theorem dX7_evenings_133 : decode cX7_evenings 133 = .ok (.invokestatic 109, 3) := by decide +kernel
theorem dX7_evenings_136 : decode cX7_evenings 136 = .ok (.goto 17, 3) := by decide +kernel
theorem dX7_evenings_139 : decode cX7_evenings 139 = .ok (.iload_n 3, 1) := by decide +kernel
theorem dX7_evenings_140 : decode cX7_evenings 140 = .ok (.iconst 1, 1) := by decide +kernel
theorem dX7_evenings_141 : decode cX7_evenings 141 = .ok (.if_icmp .ne 8, 3) := by decide +kernel
theorem dX7_evenings_144 : decode cX7_evenings 144 = .ok (.iload 7, 2) := by decide +kernel
theorem dX7_evenings_146 : decode cX7_evenings 146 = .ok (.goto 7, 3) := by decide +kernel
theorem dX7_evenings_149 : decode cX7_evenings 149 = .ok (.aload_n 0, 1) := by decide +kernel
theorem dX7_evenings_150 : decode cX7_evenings 150 = .ok (.getfield 202, 3) := by decide +kernel
theorem dX7_evenings_153 : decode cX7_evenings 153 = .ok (.ireturn, 1) := by decide +kernel
theorem dX7_sumAt_0 : decode cX7_sumAt 0 = .ok (.iconst 0, 1) := by decide +kernel
theorem dX7_sumAt_1 : decode cX7_sumAt 1 = .ok (.istore_n 2, 1) := by decide +kernel
theorem dX7_sumAt_2 : decode cX7_sumAt 2 = .ok (.iconst 0, 1) := by decide +kernel
theorem dX7_sumAt_3 : decode cX7_sumAt 3 = .ok (.istore_n 3, 1) := by decide +kernel
theorem dX7_sumAt_4 : decode cX7_sumAt 4 = .ok (.iload_n 3, 1) := by decide +kernel
theorem dX7_sumAt_5 : decode cX7_sumAt 5 = .ok (.aload_n 0, 1) := by decide +kernel
theorem dX7_sumAt_6 : decode cX7_sumAt 6 = .ok (.getfield 73, 3) := by decide +kernel
theorem dX7_sumAt_9 : decode cX7_sumAt 9 = .ok (.if_icmp .ge 22, 3) := by decide +kernel
theorem dX7_sumAt_12 : decode cX7_sumAt 12 = .ok (.iload_n 2, 1) := by decide +kernel
theorem dX7_sumAt_13 : decode cX7_sumAt 13 = .ok (.aload_n 0, 1) := by decide +kernel
theorem dX7_sumAt_14 : decode cX7_sumAt 14 = .ok (.getfield 16, 3) := by decide +kernel
theorem dX7_sumAt_17 : decode cX7_sumAt 17 = .ok (.iconst 4, 1) := by decide +kernel
theorem dX7_sumAt_18 : decode cX7_sumAt 18 = .ok (.iload_n 3, 1) := by decide +kernel
theorem dX7_sumAt_19 : decode cX7_sumAt 19 = .ok (.imul, 1) := by decide +kernel
theorem dX7_sumAt_20 : decode cX7_sumAt 20 = .ok (.iload_n 1, 1) := by decide +kernel
theorem dX7_sumAt_21 : decode cX7_sumAt 21 = .ok (.iadd, 1) := by decide +kernel
theorem dX7_sumAt_22 : decode cX7_sumAt 22 = .ok (.iaload, 1) := by decide +kernel
theorem dX7_sumAt_23 : decode cX7_sumAt 23 = .ok (.iadd, 1) := by decide +kernel
theorem dX7_sumAt_24 : decode cX7_sumAt 24 = .ok (.istore_n 2, 1) := by decide +kernel
theorem dX7_sumAt_25 : decode cX7_sumAt 25 = .ok (.iinc 3 1, 3) := by decide +kernel
theorem dX7_sumAt_28 : decode cX7_sumAt 28 = .ok (.goto (-24), 3) := by decide +kernel
theorem dX7_sumAt_31 : decode cX7_sumAt 31 = .ok (.iload_n 2, 1) := by decide +kernel
theorem dX7_sumAt_32 : decode cX7_sumAt 32 = .ok (.ireturn, 1) := by decide +kernel
set_option maxRecDepth 20000 in
theorem ggX7_image_X7_lacks : GoodIn wsX7_image wsX7_lacks := goodIn_r _ [21, 22, 30, 31, 32, 33, 34, 35, 36, 37, 38, 39, 40, 41, 42, 43, 44, 45, 46, 47, 48, 49, 50, 51, 52, 53, 54, 55, 56, 57, 58, 59] (by decide +kernel) (by decide +kernel)
set_option maxRecDepth 20000 in
theorem gX7_image_X7_lacks : GoodIn wsX7_image (wsV RX7 140 RX7 yX7_lacks wsX7_lacks) := goodIn_app (goodIn_of _ (by decide +kernel)) ggX7_image_X7_lacks
set_option maxRecDepth 20000 in
theorem ggX7_image_X7_copy : GoodIn wsX7_image wsX7_copy := goodIn_r _ [25] (by decide +kernel) (by decide +kernel)
set_option maxRecDepth 20000 in
theorem gX7_image_X7_copy : GoodIn wsX7_image (va_wsS RX7 172 yX7_copy wsX7_copy) := goodIn_app (goodIn_of _ (by decide +kernel)) ggX7_image_X7_copy
set_option maxRecDepth 20000 in
theorem ggX7_image_X7_sumAt : GoodIn wsX7_image wsX7_sumAt := goodIn_r _ [29, 22, 1, 30, 31, 32, 33, 34, 35, 36, 37, 38, 39, 40, 41, 42, 43, 44, 45, 46, 47, 48, 49, 50, 51, 52, 53, 54, 55, 56, 57, 58, 59] (by decide +kernel) (by decide +kernel)
set_option maxRecDepth 20000 in
theorem gX7_image_X7_sumAt : GoodIn wsX7_image (wsV RX7 233 RX7 yX7_sumAt wsX7_sumAt) := goodIn_app (goodIn_of _ (by decide +kernel)) ggX7_image_X7_sumAt
theorem dX7_image_0 : decode cX7_image 0 = .ok (.aload_n 0, 1) := by decide +kernel
theorem dX7_image_1 : decode cX7_image 1 = .ok (.invokevirtual 140, 3) := by decide +kernel
theorem dX7_image_4 : decode cX7_image 4 = .ok (.ifCond .eq 6, 3) := by decide +kernel
theorem dX7_image_7 : decode cX7_image 7 = .ok (.bipush (-103), 2) := by decide +kernel
theorem dX7_image_9 : decode cX7_image 9 = .ok (.ireturn, 1) := by decide +kernel
theorem dX7_image_10 : decode cX7_image 10 = .ok (.aload_n 0, 1) := by decide +kernel
theorem dX7_image_11 : decode cX7_image 11 = .ok (.getfield 16, 3) := by decide +kernel
theorem dX7_image_14 : decode cX7_image 14 = .ok (.aload_n 0, 1) := by decide +kernel
theorem dX7_image_15 : decode cX7_image 15 = .ok (.getfield 28, 3) := by decide +kernel
theorem dX7_image_18 : decode cX7_image 18 = .ok (.invokestatic 172, 3) := by decide +kernel
theorem dX7_image_21 : decode cX7_image 21 = .ok (.aload_n 0, 1) := by decide +kernel
theorem dX7_image_22 : decode cX7_image 22 = .ok (.getfield 25, 3) := by decide +kernel
theorem dX7_image_25 : decode cX7_image 25 = .ok (.aload_n 0, 1) := by decide +kernel
theorem dX7_image_26 : decode cX7_image 26 = .ok (.getfield 31, 3) := by decide +kernel
theorem dX7_image_29 : decode cX7_image 29 = .ok (.invokestatic 172, 3) := by decide +kernel
theorem dX7_image_32 : decode cX7_image 32 = .ok (.aload_n 0, 1) := by decide +kernel
theorem dX7_image_33 : decode cX7_image 33 = .ok (.aload_n 0, 1) := by decide +kernel
theorem dX7_image_34 : decode cX7_image 34 = .ok (.getfield 76, 3) := by decide +kernel
theorem dX7_image_37 : decode cX7_image 37 = .ok (.putfield 218, 3) := by decide +kernel
theorem dX7_image_40 : decode cX7_image 40 = .ok (.aload_n 0, 1) := by decide +kernel
theorem dX7_image_41 : decode cX7_image 41 = .ok (.aload_n 0, 1) := by decide +kernel
theorem dX7_image_42 : decode cX7_image 42 = .ok (.getfield 82, 3) := by decide +kernel
theorem dX7_image_45 : decode cX7_image 45 = .ok (.putfield 221, 3) := by decide +kernel
theorem dX7_image_48 : decode cX7_image 48 = .ok (.aload_n 0, 1) := by decide +kernel
theorem dX7_image_49 : decode cX7_image 49 = .ok (.aload_n 0, 1) := by decide +kernel
theorem dX7_image_50 : decode cX7_image 50 = .ok (.getfield 38, 3) := by decide +kernel
theorem dX7_image_53 : decode cX7_image 53 = .ok (.putfield 224, 3) := by decide +kernel
theorem dX7_image_56 : decode cX7_image 56 = .ok (.aload_n 0, 1) := by decide +kernel
theorem dX7_image_57 : decode cX7_image 57 = .ok (.aload_n 0, 1) := by decide +kernel
theorem dX7_image_58 : decode cX7_image 58 = .ok (.getfield 85, 3) := by decide +kernel
theorem dX7_image_61 : decode cX7_image 61 = .ok (.putfield 227, 3) := by decide +kernel
theorem dX7_image_64 : decode cX7_image 64 = .ok (.aload_n 0, 1) := by decide +kernel
theorem dX7_image_65 : decode cX7_image 65 = .ok (.aload_n 0, 1) := by decide +kernel
theorem dX7_image_66 : decode cX7_image 66 = .ok (.getfield 89, 3) := by decide +kernel
theorem dX7_image_69 : decode cX7_image 69 = .ok (.putfield 230, 3) := by decide +kernel
theorem dX7_image_72 : decode cX7_image 72 = .ok (.aload_n 0, 1) := by decide +kernel
theorem dX7_image_73 : decode cX7_image 73 = .ok (.aload_n 0, 1) := by decide +kernel
theorem dX7_image_74 : decode cX7_image 74 = .ok (.getfield 92, 3) := by decide +kernel
theorem dX7_image_77 : decode cX7_image 77 = .ok (.putfield 34, 3) := by decide +kernel
theorem dX7_image_80 : decode cX7_image 80 = .ok (.aload_n 0, 1) := by decide +kernel
theorem dX7_image_81 : decode cX7_image 81 = .ok (.iconst 2, 1) := by decide +kernel
theorem dX7_image_82 : decode cX7_image 82 = .ok (.invokevirtual 233, 3) := by decide +kernel
theorem dX7_image_85 : decode cX7_image 85 = .ok (.ireturn, 1) := by decide +kernel
set_option maxRecDepth 20000 in
theorem ggX7_restore_X7_copy : GoodIn wsX7_restore wsX7_copy := goodIn_r _ [20] (by decide +kernel) (by decide +kernel)
set_option maxRecDepth 20000 in
theorem gX7_restore_X7_copy : GoodIn wsX7_restore (va_wsS RX7 172 yX7_copy wsX7_copy) := goodIn_app (goodIn_of _ (by decide +kernel)) ggX7_restore_X7_copy
set_option maxRecDepth 20000 in
theorem ggX7_restore_X7_sumAt : GoodIn wsX7_restore wsX7_sumAt := goodIn_r _ [24, 25, 4, 26, 27, 28, 29, 30, 31, 32, 33, 34, 35, 36, 37, 38, 39, 40, 41, 42, 43, 44, 45, 46, 47, 48, 49, 50, 51, 52, 53, 54, 55] (by decide +kernel) (by decide +kernel)
set_option maxRecDepth 20000 in
theorem gX7_restore_X7_sumAt : GoodIn wsX7_restore (wsV RX7 233 RX7 yX7_sumAt wsX7_sumAt) := goodIn_app (goodIn_of _ (by decide +kernel)) ggX7_restore_X7_sumAt
theorem dX7_restore_0 : decode cX7_restore 0 = .ok (.aload_n 0, 1) := by decide +kernel
theorem dX7_restore_1 : decode cX7_restore 1 = .ok (.getfield 34, 3) := by decide +kernel
theorem dX7_restore_4 : decode cX7_restore 4 = .ok (.aload_n 0, 1) := by decide +kernel
theorem dX7_restore_5 : decode cX7_restore 5 = .ok (.getfield 92, 3) := by decide +kernel
theorem dX7_restore_8 : decode cX7_restore 8 = .ok (.if_icmp .eq 6, 3) := by decide +kernel
theorem dX7_restore_11 : decode cX7_restore 11 = .ok (.bipush (-103), 2) := by decide +kernel
theorem dX7_restore_13 : decode cX7_restore 13 = .ok (.ireturn, 1) := by decide +kernel
theorem dX7_restore_14 : decode cX7_restore 14 = .ok (.aload_n 0, 1) := by decide +kernel
theorem dX7_restore_15 : decode cX7_restore 15 = .ok (.getfield 28, 3) := by decide +kernel
theorem dX7_restore_18 : decode cX7_restore 18 = .ok (.aload_n 0, 1) := by decide +kernel
theorem dX7_restore_19 : decode cX7_restore 19 = .ok (.getfield 16, 3) := by decide +kernel
theorem dX7_restore_22 : decode cX7_restore 22 = .ok (.invokestatic 172, 3) := by decide +kernel
theorem dX7_restore_25 : decode cX7_restore 25 = .ok (.aload_n 0, 1) := by decide +kernel
theorem dX7_restore_26 : decode cX7_restore 26 = .ok (.getfield 31, 3) := by decide +kernel
theorem dX7_restore_29 : decode cX7_restore 29 = .ok (.aload_n 0, 1) := by decide +kernel
theorem dX7_restore_30 : decode cX7_restore 30 = .ok (.getfield 25, 3) := by decide +kernel
theorem dX7_restore_33 : decode cX7_restore 33 = .ok (.invokestatic 172, 3) := by decide +kernel
theorem dX7_restore_36 : decode cX7_restore 36 = .ok (.aload_n 0, 1) := by decide +kernel
theorem dX7_restore_37 : decode cX7_restore 37 = .ok (.aload_n 0, 1) := by decide +kernel
theorem dX7_restore_38 : decode cX7_restore 38 = .ok (.getfield 218, 3) := by decide +kernel
theorem dX7_restore_41 : decode cX7_restore 41 = .ok (.putfield 76, 3) := by decide +kernel
theorem dX7_restore_44 : decode cX7_restore 44 = .ok (.aload_n 0, 1) := by decide +kernel
theorem dX7_restore_45 : decode cX7_restore 45 = .ok (.aload_n 0, 1) := by decide +kernel
theorem dX7_restore_46 : decode cX7_restore 46 = .ok (.getfield 221, 3) := by decide +kernel
theorem dX7_restore_49 : decode cX7_restore 49 = .ok (.putfield 82, 3) := by decide +kernel
theorem dX7_restore_52 : decode cX7_restore 52 = .ok (.aload_n 0, 1) := by decide +kernel
theorem dX7_restore_53 : decode cX7_restore 53 = .ok (.aload_n 0, 1) := by decide +kernel
theorem dX7_restore_54 : decode cX7_restore 54 = .ok (.getfield 224, 3) := by decide +kernel
theorem dX7_restore_57 : decode cX7_restore 57 = .ok (.putfield 38, 3) := by decide +kernel
theorem dX7_restore_60 : decode cX7_restore 60 = .ok (.aload_n 0, 1) := by decide +kernel
theorem dX7_restore_61 : decode cX7_restore 61 = .ok (.aload_n 0, 1) := by decide +kernel
theorem dX7_restore_62 : decode cX7_restore 62 = .ok (.getfield 227, 3) := by decide +kernel
theorem dX7_restore_65 : decode cX7_restore 65 = .ok (.putfield 85, 3) := by decide +kernel
theorem dX7_restore_68 : decode cX7_restore 68 = .ok (.aload_n 0, 1) := by decide +kernel
theorem dX7_restore_69 : decode cX7_restore 69 = .ok (.aload_n 0, 1) := by decide +kernel
theorem dX7_restore_70 : decode cX7_restore 70 = .ok (.getfield 230, 3) := by decide +kernel
theorem dX7_restore_73 : decode cX7_restore 73 = .ok (.putfield 89, 3) := by decide +kernel
theorem dX7_restore_76 : decode cX7_restore 76 = .ok (.aload_n 0, 1) := by decide +kernel
theorem dX7_restore_77 : decode cX7_restore 77 = .ok (.iconst 2, 1) := by decide +kernel
theorem dX7_restore_78 : decode cX7_restore 78 = .ok (.invokevirtual 233, 3) := by decide +kernel
theorem dX7_restore_81 : decode cX7_restore 81 = .ok (.ireturn, 1) := by decide +kernel
set_option maxRecDepth 20000 in
theorem ggX7_minutesAll_X7_minutesOf : GoodIn wsX7_minutesAll wsX7_minutesOf := goodIn_r _ [7, 2, 8, 9, 10, 11, 12, 13, 14, 15, 16, 17, 18, 19, 20, 21, 22, 23, 24, 25, 26, 27, 28, 29, 30, 31, 32, 33, 34, 35, 36, 37] (by decide +kernel) (by decide +kernel)
set_option maxRecDepth 20000 in
theorem gX7_minutesAll_X7_minutesOf : GoodIn wsX7_minutesAll (wsV RX7 126 RX7 yX7_minutesOf wsX7_minutesOf) := goodIn_app (goodIn_of _ (by decide +kernel)) ggX7_minutesAll_X7_minutesOf
theorem dX7_minutesAll_0 : decode cX7_minutesAll 0 = .ok (.iconst 0, 1) := by decide +kernel
theorem dX7_minutesAll_1 : decode cX7_minutesAll 1 = .ok (.istore_n 1, 1) := by decide +kernel
theorem dX7_minutesAll_2 : decode cX7_minutesAll 2 = .ok (.iconst 0, 1) := by decide +kernel
theorem dX7_minutesAll_3 : decode cX7_minutesAll 3 = .ok (.istore_n 2, 1) := by decide +kernel
theorem dX7_minutesAll_4 : decode cX7_minutesAll 4 = .ok (.iload_n 2, 1) := by decide +kernel
theorem dX7_minutesAll_5 : decode cX7_minutesAll 5 = .ok (.aload_n 0, 1) := by decide +kernel
theorem dX7_minutesAll_6 : decode cX7_minutesAll 6 = .ok (.getfield 73, 3) := by decide +kernel
theorem dX7_minutesAll_9 : decode cX7_minutesAll 9 = .ok (.if_icmp .ge 28, 3) := by decide +kernel
theorem dX7_minutesAll_12 : decode cX7_minutesAll 12 = .ok (.iload_n 1, 1) := by decide +kernel
theorem dX7_minutesAll_13 : decode cX7_minutesAll 13 = .ok (.aload_n 0, 1) := by decide +kernel
theorem dX7_minutesAll_14 : decode cX7_minutesAll 14 = .ok (.getfield 16, 3) := by decide +kernel
theorem dX7_minutesAll_17 : decode cX7_minutesAll 17 = .ok (.iconst 4, 1) := by decide +kernel
theorem dX7_minutesAll_18 : decode cX7_minutesAll 18 = .ok (.iload_n 2, 1) := by decide +kernel
theorem dX7_minutesAll_19 : decode cX7_minutesAll 19 = .ok (.imul, 1) := by decide +kernel
theorem dX7_minutesAll_20 : decode cX7_minutesAll 20 = .ok (.iconst 2, 1) := by decide +kernel
theorem dX7_minutesAll_21 : decode cX7_minutesAll 21 = .ok (.iadd, 1) := by decide +kernel
theorem dX7_minutesAll_22 : decode cX7_minutesAll 22 = .ok (.iaload, 1) := by decide +kernel
theorem dX7_minutesAll_23 : decode cX7_minutesAll 23 = .ok (.aload_n 0, 1) := by decide +kernel
theorem dX7_minutesAll_24 : decode cX7_minutesAll 24 = .ok (.iload_n 2, 1) := by decide +kernel
theorem dX7_minutesAll_25 : decode cX7_minutesAll 25 = .ok (.invokevirtual 126, 3) := by decide +kernel
theorem dX7_minutesAll_28 : decode cX7_minutesAll 28 = .ok (.imul, 1) := by decide +kernel
theorem dX7_minutesAll_29 : decode cX7_minutesAll 29 = .ok (.iadd, 1) := by decide +kernel
theorem dX7_minutesAll_30 : decode cX7_minutesAll 30 = .ok (.istore_n 1, 1) := by decide +kernel
theorem dX7_minutesAll_31 : decode cX7_minutesAll 31 = .ok (.iinc 2 1, 3) := by decide +kernel
theorem dX7_minutesAll_34 : decode cX7_minutesAll 34 = .ok (.goto (-30), 3) := by decide +kernel
theorem dX7_minutesAll_37 : decode cX7_minutesAll 37 = .ok (.iload_n 1, 1) := by decide +kernel
theorem dX7_minutesAll_38 : decode cX7_minutesAll 38 = .ok (.ireturn, 1) := by decide +kernel
theorem dX7_unlike_0 : decode cX7_unlike 0 = .ok (.iconst 0, 1) := by decide +kernel
theorem dX7_unlike_1 : decode cX7_unlike 1 = .ok (.istore_n 1, 1) := by decide +kernel
theorem dX7_unlike_2 : decode cX7_unlike 2 = .ok (.iconst 0, 1) := by decide +kernel
theorem dX7_unlike_3 : decode cX7_unlike 3 = .ok (.istore_n 2, 1) := by decide +kernel
theorem dX7_unlike_4 : decode cX7_unlike 4 = .ok (.iload_n 2, 1) := by decide +kernel
theorem dX7_unlike_5 : decode cX7_unlike 5 = .ok (.aload_n 0, 1) := by decide +kernel
theorem dX7_unlike_6 : decode cX7_unlike 6 = .ok (.getfield 73, 3) := by decide +kernel
theorem dX7_unlike_9 : decode cX7_unlike 9 = .ok (.if_icmp .ge 30, 3) := by decide +kernel
theorem dX7_unlike_12 : decode cX7_unlike 12 = .ok (.iload_n 1, 1) := by decide +kernel
theorem dX7_unlike_13 : decode cX7_unlike 13 = .ok (.aload_n 0, 1) := by decide +kernel
theorem dX7_unlike_14 : decode cX7_unlike 14 = .ok (.getfield 16, 3) := by decide +kernel
theorem dX7_unlike_17 : decode cX7_unlike 17 = .ok (.iconst 4, 1) := by decide +kernel
theorem dX7_unlike_18 : decode cX7_unlike 18 = .ok (.iload_n 2, 1) := by decide +kernel
theorem dX7_unlike_19 : decode cX7_unlike 19 = .ok (.imul, 1) := by decide +kernel
theorem dX7_unlike_20 : decode cX7_unlike 20 = .ok (.iconst 2, 1) := by decide +kernel
theorem dX7_unlike_21 : decode cX7_unlike 21 = .ok (.iadd, 1) := by decide +kernel
theorem dX7_unlike_22 : decode cX7_unlike 22 = .ok (.iaload, 1) := by decide +kernel
theorem dX7_unlike_23 : decode cX7_unlike 23 = .ok (.ifCond .le 7, 3) := by decide +kernel
theorem dX7_unlike_26 : decode cX7_unlike 26 = .ok (.iconst 1, 1) := by decide +kernel
theorem dX7_unlike_27 : decode cX7_unlike 27 = .ok (.goto 4, 3) := by decide +kernel
theorem dX7_unlike_30 : decode cX7_unlike 30 = .ok (.iconst 0, 1) := by decide +kernel
theorem dX7_unlike_31 : decode cX7_unlike 31 = .ok (.iadd, 1) := by decide +kernel
theorem dX7_unlike_32 : decode cX7_unlike 32 = .ok (.istore_n 1, 1) := by decide +kernel
theorem dX7_unlike_33 : decode cX7_unlike 33 = .ok (.iinc 2 1, 3) := by decide +kernel
theorem dX7_unlike_36 : decode cX7_unlike 36 = .ok (.goto (-32), 3) := by decide +kernel
theorem dX7_unlike_39 : decode cX7_unlike 39 = .ok (.iload_n 1, 1) := by decide +kernel
theorem dX7_unlike_40 : decode cX7_unlike 40 = .ok (.ireturn, 1) := by decide +kernel
set_option maxRecDepth 20000 in
theorem ggX7_countOf_X7_sumAt : GoodIn wsX7_countOf wsX7_sumAt := goodIn_r _ [12, 1, 13, 41, 42, 43, 44, 45, 46, 47, 48, 49, 50, 51, 52, 53, 54, 55, 56, 57, 58, 59, 60, 61, 62, 63, 64, 65, 66, 67, 68, 69, 70] (by decide +kernel) (by decide +kernel)
set_option maxRecDepth 20000 in
theorem gX7_countOf_X7_sumAt : GoodIn wsX7_countOf (wsV RX7 233 RX7 yX7_sumAt wsX7_sumAt) := goodIn_app (goodIn_of _ (by decide +kernel)) ggX7_countOf_X7_sumAt
set_option maxRecDepth 20000 in
theorem ggX7_countOf_X7_minutesAll : GoodIn wsX7_countOf wsX7_minutesAll := goodIn_r _ [17, 1, 13, 18, 19, 20, 11, 21, 41, 42, 43, 44, 45, 46, 47, 48, 49, 50, 51, 52, 53, 54, 55, 56, 57, 58, 59, 60, 61, 62, 63, 64, 65, 66, 67, 68, 69, 70] (by decide +kernel) (by decide +kernel)
set_option maxRecDepth 20000 in
theorem gX7_countOf_X7_minutesAll : GoodIn wsX7_countOf (wsV RX7 236 RX7 yX7_minutesAll wsX7_minutesAll) := goodIn_app (goodIn_of _ (by decide +kernel)) ggX7_countOf_X7_minutesAll
set_option maxRecDepth 20000 in
theorem ggX7_countOf_X7_unlike : GoodIn wsX7_countOf wsX7_unlike := goodIn_r _ [25, 1, 13, 41, 42, 43, 44, 45, 46, 47, 48, 49, 50, 51, 52, 53, 54, 55, 56, 57, 58, 59, 60, 61, 62, 63, 64, 65, 66, 67, 68, 69, 70] (by decide +kernel) (by decide +kernel)
set_option maxRecDepth 20000 in
theorem gX7_countOf_X7_unlike : GoodIn wsX7_countOf (wsV RX7 239 RX7 yX7_unlike wsX7_unlike) := goodIn_app (goodIn_of _ (by decide +kernel)) ggX7_countOf_X7_unlike
set_option maxRecDepth 20000 in
theorem ggX7_countOf_X7_ones : GoodIn wsX7_countOf wsX7_ones := goodIn_r _ [28] (by decide +kernel) (by decide +kernel)
set_option maxRecDepth 20000 in
theorem gX7_countOf_X7_ones : GoodIn wsX7_countOf (va_wsS RX7 109 yX7_ones wsX7_ones) := goodIn_app (goodIn_of _ (by decide +kernel)) ggX7_countOf_X7_ones
set_option maxRecDepth 20000 in
theorem ggX7_countOf_X7_mayNow : GoodIn wsX7_countOf wsX7_mayNow := goodIn_r _ [32, 2, 3, 4, 33, 34, 35, 11, 36, 1, 13, 37, 38, 39, 40, 41, 42, 43, 44, 45, 46, 47, 48, 49, 50, 51, 52, 53, 54, 55, 56, 57, 58, 59, 60, 61, 62, 63, 64, 65, 66, 67, 68, 69, 70] (by decide +kernel) (by decide +kernel)
set_option maxRecDepth 20000 in
theorem gX7_countOf_X7_mayNow : GoodIn wsX7_countOf (wsV RX7 112 RX7 yX7_mayNow wsX7_mayNow) := goodIn_app (goodIn_of _ (by decide +kernel)) ggX7_countOf_X7_mayNow
theorem dX7_countOf_0 : decode cX7_countOf 0 = .ok (.iload_n 1, 1) := by decide +kernel
theorem dX7_countOf_1 : decode cX7_countOf 1 = .ok (.tableswitch 131 0 11 #[63, 68, 73, 79, 85, 90, 95, 103, 111, 116, 121, 126], 63) := by decide +kernel
theorem dX7_countOf_64 : decode cX7_countOf 64 = .ok (.aload_n 0, 1) := by decide +kernel
theorem dX7_countOf_65 : decode cX7_countOf 65 = .ok (.getfield 73, 3) := by decide +kernel
theorem dX7_countOf_68 : decode cX7_countOf 68 = .ok (.ireturn, 1) := by decide +kernel
theorem dX7_countOf_69 : decode cX7_countOf 69 = .ok (.aload_n 0, 1) := by decide +kernel
theorem dX7_countOf_70 : decode cX7_countOf 70 = .ok (.getfield 76, 3) := by decide +kernel
theorem dX7_countOf_73 : decode cX7_countOf 73 = .ok (.ireturn, 1) := by decide +kernel
theorem dX7_countOf_74 : decode cX7_countOf 74 = .ok (.aload_n 0, 1) := by decide +kernel
theorem dX7_countOf_75 : decode cX7_countOf 75 = .ok (.iconst 2, 1) := by decide +kernel
theorem dX7_countOf_76 : decode cX7_countOf 76 = .ok (.invokevirtual 233, 3) := by decide +kernel
theorem dX7_countOf_79 : decode cX7_countOf 79 = .ok (.ireturn, 1) := by decide +kernel
theorem dX7_countOf_80 : decode cX7_countOf 80 = .ok (.aload_n 0, 1) := by decide +kernel
theorem dX7_countOf_81 : decode cX7_countOf 81 = .ok (.iconst 3, 1) := by decide +kernel
theorem dX7_countOf_82 : decode cX7_countOf 82 = .ok (.invokevirtual 233, 3) := by decide +kernel
theorem dX7_countOf_85 : decode cX7_countOf 85 = .ok (.ireturn, 1) := by decide +kernel
theorem dX7_countOf_86 : decode cX7_countOf 86 = .ok (.aload_n 0, 1) := by decide +kernel
theorem dX7_countOf_87 : decode cX7_countOf 87 = .ok (.invokevirtual 236, 3) := by decide +kernel
theorem dX7_countOf_90 : decode cX7_countOf 90 = .ok (.ireturn, 1) := by decide +kernel
theorem dX7_countOf_91 : decode cX7_countOf 91 = .ok (.aload_n 0, 1) := by decide +kernel
theorem dX7_countOf_92 : decode cX7_countOf 92 = .ok (.invokevirtual 239, 3) := by decide +kernel
theorem dX7_countOf_95 : decode cX7_countOf 95 = .ok (.ireturn, 1) := by decide +kernel
theorem dX7_countOf_96 : decode cX7_countOf 96 = .ok (.aload_n 0, 1) := by decide +kernel
theorem dX7_countOf_97 : decode cX7_countOf 97 = .ok (.getfield 82, 3) := by decide +kernel
theorem dX7_countOf_100 : decode cX7_countOf 100 = .ok (.invokestatic 109, 3) := by decide +kernel
theorem dX7_countOf_103 : decode cX7_countOf 103 = .ok (.ireturn, 1) := by decide +kernel
theorem dX7_countOf_104 : decode cX7_countOf 104 = .ok (.aload_n 0, 1) := by decide +kernel
theorem dX7_countOf_105 : decode cX7_countOf 105 = .ok (.invokevirtual 112, 3) := by decide +kernel
theorem dX7_countOf_108 : decode cX7_countOf 108 = .ok (.invokestatic 109, 3) := by decide +kernel
theorem dX7_countOf_111 : decode cX7_countOf 111 = .ok (.ireturn, 1) := by decide +kernel
theorem dX7_countOf_112 : decode cX7_countOf 112 = .ok (.aload_n 0, 1) := by decide +kernel
theorem dX7_countOf_113 : decode cX7_countOf 113 = .ok (.getfield 38, 3) := by decide +kernel
theorem dX7_countOf_116 : decode cX7_countOf 116 = .ok (.ireturn, 1) := by decide +kernel
theorem dX7_countOf_117 : decode cX7_countOf 117 = .ok (.aload_n 0, 1) := by decide +kernel
theorem dX7_countOf_118 : decode cX7_countOf 118 = .ok (.getfield 89, 3) := by decide +kernel
theorem dX7_countOf_121 : decode cX7_countOf 121 = .ok (.ireturn, 1) := by decide +kernel
theorem dX7_countOf_122 : decode cX7_countOf 122 = .ok (.aload_n 0, 1) := by decide +kernel
theorem dX7_countOf_123 : decode cX7_countOf 123 = .ok (.getfield 47, 3) := by decide +kernel
theorem dX7_countOf_126 : decode cX7_countOf 126 = .ok (.ireturn, 1) := by decide +kernel
theorem dX7_countOf_127 : decode cX7_countOf 127 = .ok (.aload_n 0, 1) := by decide +kernel
theorem dX7_countOf_128 : decode cX7_countOf 128 = .ok (.getfield 92, 3) := by decide +kernel
theorem dX7_countOf_131 : decode cX7_countOf 131 = .ok (.ireturn, 1) := by decide +kernel
theorem dX7_countOf_132 : decode cX7_countOf 132 = .ok (.bipush (-102), 2) := by decide +kernel
theorem dX7_countOf_134 : decode cX7_countOf 134 = .ok (.ireturn, 1) := by decide +kernel
set_option maxRecDepth 20000 in
theorem ggX7_count_X7_countOf : GoodIn wsX7_count wsX7_countOf := goodIn_r _ [5, 6, 7, 8, 9, 10, 11, 12, 13, 14, 15, 4, 16, 17, 18, 19, 20, 21, 22, 23, 24, 25, 26, 27, 28, 29, 30, 31, 32, 33, 34, 35, 36, 37, 38, 39, 40, 41, 42, 43, 44, 45, 46, 47, 48, 49, 50, 51, 52, 53, 54, 55, 56, 57, 58, 59, 60, 61, 62, 63, 64, 65, 66, 67, 68, 69, 70, 71, 72, 73, 74] (by decide +kernel) (by decide +kernel)
set_option maxRecDepth 20000 in
theorem gX7_count_X7_countOf : GoodIn wsX7_count (wsV RX7 242 RX7 yX7_countOf wsX7_countOf) := goodIn_app (goodIn_of _ (by decide +kernel)) ggX7_count_X7_countOf
theorem dX7_count_0 : decode cX7_count 0 = .ok (.aload_n 0, 1) := by decide +kernel
theorem dX7_count_1 : decode cX7_count 1 = .ok (.iload_n 1, 1) := by decide +kernel
theorem dX7_count_2 : decode cX7_count 2 = .ok (.invokevirtual 242, 3) := by decide +kernel
theorem dX7_count_5 : decode cX7_count 5 = .ok (.ireturn, 1) := by decide +kernel
theorem dX7_say_0 : decode cX7_say 0 = .ok (.aload_n 0, 1) := by decide +kernel
theorem dX7_say_1 : decode cX7_say 1 = .ok (.ldc2_w 245, 3) := by decide +kernel
theorem dX7_say_4 : decode cX7_say 4 = .ok (.aload_n 0, 1) := by decide +kernel
theorem dX7_say_5 : decode cX7_say 5 = .ok (.getfield 247, 3) := by decide +kernel
theorem dX7_say_8 : decode cX7_say 8 = .ok (.lmul, 1) := by decide +kernel
theorem dX7_say_9 : decode cX7_say 9 = .ok (.lload_n 1, 1) := by decide +kernel
theorem dX7_say_10 : decode cX7_say 10 = .ok (.ladd, 1) := by decide +kernel
theorem dX7_say_11 : decode cX7_say 11 = .ok (.putfield 247, 3) := by decide +kernel
theorem dX7_say_14 : decode cX7_say 14 = .ok (.return_, 1) := by decide +kernel
set_option maxRecDepth 20000 in
theorem ggX7_sayPlayer_X7_twiceOf : GoodIn wsX7_sayPlayer wsX7_twiceOf := goodIn_r _ [5, 6, 7, 8, 9, 10, 4, 11, 12, 13, 14, 15, 16, 17, 18, 19, 20, 21, 22, 23, 24, 25, 26, 27, 28, 29, 30, 31, 32, 33, 34, 35, 36, 37, 38, 39, 40, 41, 42, 43, 44, 45, 46, 47, 48, 49, 50, 51, 52, 53, 54, 55, 56, 57, 58, 59, 60, 61, 98, 99, 100, 101, 102, 103, 104, 105, 106, 107, 108, 109, 110, 111, 112, 113, 114, 115, 116, 117, 118, 119, 120, 121, 122, 123, 124, 125, 126, 127] (by decide +kernel) (by decide +kernel)
set_option maxRecDepth 20000 in
theorem gX7_sayPlayer_X7_twiceOf : GoodIn wsX7_sayPlayer (wsV RX7 162 RX7 yX7_twiceOf wsX7_twiceOf) := goodIn_app (goodIn_of _ (by decide +kernel)) ggX7_sayPlayer_X7_twiceOf
set_option maxRecDepth 20000 in
theorem ggX7_sayPlayer_X7_say : GoodIn wsX7_sayPlayer wsX7_say := goodIn_r _ [65, 66, 67, 98, 99, 100, 101, 102, 103, 104, 105, 106, 107, 108, 109, 110, 111, 112, 113, 114, 115, 116, 117, 118, 119, 120, 121, 122, 123, 124, 125, 126, 127] (by decide +kernel) (by decide +kernel)
set_option maxRecDepth 20000 in
theorem gX7_sayPlayer_X7_say : GoodIn wsX7_sayPlayer (wsV RX7 250 RX7 yX7_say wsX7_say) := goodIn_app (goodIn_of _ (by decide +kernel)) ggX7_sayPlayer_X7_say
set_option maxRecDepth 20000 in
theorem ggX7_sayPlayer_X7_all : GoodIn wsX7_sayPlayer wsX7_all := goodIn_r _ [23, 6, 98, 99, 100, 101, 102, 103, 104, 105, 106, 107, 108, 109, 110, 111, 112, 113, 114, 115, 116, 117, 118, 119, 120, 121, 122, 123, 124, 125, 126, 127] (by decide +kernel) (by decide +kernel)
set_option maxRecDepth 20000 in
theorem gX7_sayPlayer_X7_all : GoodIn wsX7_sayPlayer (wsV RX7 79 RX7 yX7_all wsX7_all) := goodIn_app (goodIn_of _ (by decide +kernel)) ggX7_sayPlayer_X7_all
set_option maxRecDepth 20000 in
theorem ggX7_sayPlayer_X7_partyOf : GoodIn wsX7_sayPlayer wsX7_partyOf := goodIn_r _ [71, 72, 6, 73, 74, 56, 57, 4, 58, 75, 76, 77, 78, 19, 79, 80, 81, 98, 99, 100, 101, 102, 103, 104, 105, 106, 107, 108, 109, 110, 111, 112, 113, 114, 115, 116, 117, 118, 119, 120, 121, 122, 123, 124, 125, 126, 127] (by decide +kernel) (by decide +kernel)
set_option maxRecDepth 20000 in
theorem gX7_sayPlayer_X7_partyOf : GoodIn wsX7_sayPlayer (wsV RX7 180 RX7 yX7_partyOf wsX7_partyOf) := goodIn_app (goodIn_of _ (by decide +kernel)) ggX7_sayPlayer_X7_partyOf
set_option maxRecDepth 20000 in
theorem ggX7_sayPlayer_X7_rulesOf : GoodIn wsX7_sayPlayer wsX7_rulesOf := goodIn_r _ [85, 86, 87, 88, 89, 4, 90, 91, 92, 93, 20, 21, 22, 23, 6, 15, 16, 17, 18, 19, 32, 33, 34, 35, 28, 29, 30, 31, 36, 37, 38, 39, 44, 45, 46, 47, 98, 99, 100, 101, 102, 103, 104, 105, 106, 107, 108, 109, 110, 111, 112, 113, 114, 115, 116, 117, 118, 119, 120, 121, 122, 123, 124, 125, 126, 127] (by decide +kernel) (by decide +kernel)
set_option maxRecDepth 20000 in
theorem gX7_sayPlayer_X7_rulesOf : GoodIn wsX7_sayPlayer (wsV RX7 194 RX7 yX7_rulesOf wsX7_rulesOf) := goodIn_app (goodIn_of _ (by decide +kernel)) ggX7_sayPlayer_X7_rulesOf
set_option maxRecDepth 20000 in
theorem ggX7_sayPlayer_X7_likelyOf : GoodIn wsX7_sayPlayer wsX7_likelyOf := goodIn_r _ [97, 86, 91, 87, 88, 89, 4, 90, 92, 93, 20, 21, 22, 23, 6, 15, 16, 17, 18, 19, 32, 33, 34, 35, 28, 29, 30, 31, 36, 37, 38, 39, 44, 45, 46, 47, 98, 99, 100, 101, 102, 103, 104, 105, 106, 107, 108, 109, 110, 111, 112, 113, 114, 115, 116, 117, 118, 119, 120, 121, 122, 123, 124, 125, 126, 127] (by decide +kernel) (by decide +kernel)
set_option maxRecDepth 20000 in
theorem gX7_sayPlayer_X7_likelyOf : GoodIn wsX7_sayPlayer (wsV RX7 197 RX7 yX7_likelyOf wsX7_likelyOf) := goodIn_app (goodIn_of _ (by decide +kernel)) ggX7_sayPlayer_X7_likelyOf
theorem dX7_sayPlayer_0 : decode cX7_sayPlayer 0 = .ok (.aload_n 0, 1) := by decide +kernel
theorem dX7_sayPlayer_1 : decode cX7_sayPlayer 1 = .ok (.aload_n 0, 1) := by decide +kernel
theorem dX7_sayPlayer_2 : decode cX7_sayPlayer 2 = .ok (.iconst 2, 1) := by decide +kernel
theorem dX7_sayPlayer_3 : decode cX7_sayPlayer 3 = .ok (.iconst 0, 1) := by decide +kernel
theorem dX7_sayPlayer_4 : decode cX7_sayPlayer 4 = .ok (.invokevirtual 162, 3) := by decide +kernel
theorem dX7_sayPlayer_7 : decode cX7_sayPlayer 7 = .ok (.invokevirtual 250, 3) := by decide +kernel
theorem dX7_sayPlayer_10 : decode cX7_sayPlayer 10 = .ok (.aload_n 0, 1) := by decide +kernel
theorem dX7_sayPlayer_11 : decode cX7_sayPlayer 11 = .ok (.aload_n 0, 1) := by decide +kernel
theorem dX7_sayPlayer_12 : decode cX7_sayPlayer 12 = .ok (.iconst 2, 1) := by decide +kernel
theorem dX7_sayPlayer_13 : decode cX7_sayPlayer 13 = .ok (.iconst 1, 1) := by decide +kernel
theorem dX7_sayPlayer_14 : decode cX7_sayPlayer 14 = .ok (.invokevirtual 162, 3) := by decide +kernel
theorem dX7_sayPlayer_17 : decode cX7_sayPlayer 17 = .ok (.invokevirtual 250, 3) := by decide +kernel
theorem dX7_sayPlayer_20 : decode cX7_sayPlayer 20 = .ok (.aload_n 0, 1) := by decide +kernel
theorem dX7_sayPlayer_21 : decode cX7_sayPlayer 21 = .ok (.aload_n 0, 1) := by decide +kernel
theorem dX7_sayPlayer_22 : decode cX7_sayPlayer 22 = .ok (.aload_n 0, 1) := by decide +kernel
theorem dX7_sayPlayer_23 : decode cX7_sayPlayer 23 = .ok (.invokevirtual 79, 3) := by decide +kernel
theorem dX7_sayPlayer_26 : decode cX7_sayPlayer 26 = .ok (.iconst 0, 1) := by decide +kernel
theorem dX7_sayPlayer_27 : decode cX7_sayPlayer 27 = .ok (.invokevirtual 180, 3) := by decide +kernel
theorem dX7_sayPlayer_30 : decode cX7_sayPlayer 30 = .ok (.i2l, 1) := by decide +kernel
theorem dX7_sayPlayer_31 : decode cX7_sayPlayer 31 = .ok (.invokevirtual 250, 3) := by decide +kernel
theorem dX7_sayPlayer_34 : decode cX7_sayPlayer 34 = .ok (.bipush 10, 2) := by decide +kernel
theorem dX7_sayPlayer_36 : decode cX7_sayPlayer 36 = .ok (.istore_n 1, 1) := by decide +kernel
theorem dX7_sayPlayer_37 : decode cX7_sayPlayer 37 = .ok (.iload_n 1, 1) := by decide +kernel
theorem dX7_sayPlayer_38 : decode cX7_sayPlayer 38 = .ok (.bipush 16, 2) := by decide +kernel
theorem dX7_sayPlayer_40 : decode cX7_sayPlayer 40 = .ok (.if_icmp .ge 23, 3) := by decide +kernel
theorem dX7_sayPlayer_43 : decode cX7_sayPlayer 43 = .ok (.aload_n 0, 1) := by decide +kernel
theorem dX7_sayPlayer_44 : decode cX7_sayPlayer 44 = .ok (.aload_n 0, 1) := by decide +kernel
theorem dX7_sayPlayer_45 : decode cX7_sayPlayer 45 = .ok (.aload_n 0, 1) := by decide +kernel
theorem dX7_sayPlayer_46 : decode cX7_sayPlayer 46 = .ok (.invokevirtual 79, 3) := by decide +kernel
theorem dX7_sayPlayer_49 : decode cX7_sayPlayer 49 = .ok (.iload_n 1, 1) := by decide +kernel
theorem dX7_sayPlayer_50 : decode cX7_sayPlayer 50 = .ok (.invokevirtual 180, 3) := by decide +kernel
theorem dX7_sayPlayer_53 : decode cX7_sayPlayer 53 = .ok (.i2l, 1) := by decide +kernel
theorem dX7_sayPlayer_54 : decode cX7_sayPlayer 54 = .ok (.invokevirtual 250, 3) := by decide +kernel
theorem dX7_sayPlayer_57 : decode cX7_sayPlayer 57 = .ok (.iinc 1 1, 3) := by decide +kernel
theorem dX7_sayPlayer_60 : decode cX7_sayPlayer 60 = .ok (.goto (-23), 3) := by decide +kernel
theorem dX7_sayPlayer_63 : decode cX7_sayPlayer 63 = .ok (.aload_n 0, 1) := by decide +kernel
theorem dX7_sayPlayer_64 : decode cX7_sayPlayer 64 = .ok (.aload_n 0, 1) := by decide +kernel
theorem dX7_sayPlayer_65 : decode cX7_sayPlayer 65 = .ok (.invokevirtual 194, 3) := by decide +kernel
theorem dX7_sayPlayer_68 : decode cX7_sayPlayer 68 = .ok (.i2l, 1) := by decide +kernel
theorem dX7_sayPlayer_69 : decode cX7_sayPlayer 69 = .ok (.invokevirtual 250, 3) := by decide +kernel
theorem dX7_sayPlayer_72 : decode cX7_sayPlayer 72 = .ok (.aload_n 0, 1) := by decide +kernel
theorem dX7_sayPlayer_73 : decode cX7_sayPlayer 73 = .ok (.aload_n 0, 1) := by decide +kernel
theorem dX7_sayPlayer_74 : decode cX7_sayPlayer 74 = .ok (.invokevirtual 197, 3) := by decide +kernel
theorem dX7_sayPlayer_77 : decode cX7_sayPlayer 77 = .ok (.i2l, 1) := by decide +kernel
theorem dX7_sayPlayer_78 : decode cX7_sayPlayer 78 = .ok (.invokevirtual 250, 3) := by decide +kernel
theorem dX7_sayPlayer_81 : decode cX7_sayPlayer 81 = .ok (.return_, 1) := by decide +kernel
set_option maxRecDepth 20000 in
theorem ggX7_digest_X7_tell : GoodIn wsX7_digest wsX7_tell := goodIn_r _ [10, 11, 12, 13, 14, 15, 9, 16, 17, 18, 19, 20, 21, 22, 23, 24, 25, 26, 27, 28, 29, 30, 31, 32, 33, 34, 3, 35, 36, 37, 38, 39, 40, 41, 42, 43, 44, 45, 46, 47, 48, 49, 50, 51, 52, 53, 54, 55, 56, 57, 58, 59, 60, 138, 139, 140, 141, 142, 143, 144, 145, 146, 147, 148, 149, 150, 151, 152, 153, 154, 155, 156, 157, 158, 159, 160, 161, 162, 163, 164, 165, 166, 167] (by decide +kernel) (by decide +kernel)
set_option maxRecDepth 20000 in
theorem gX7_digest_X7_tell : GoodIn wsX7_digest (wsV RX7 135 RX7 yX7_tell wsX7_tell) := goodIn_app (goodIn_of _ (by decide +kernel)) ggX7_digest_X7_tell
set_option maxRecDepth 20000 in
theorem ggX7_digest_X7_say : GoodIn wsX7_digest wsX7_say := goodIn_r _ [64, 65, 2, 138, 139, 140, 141, 142, 143, 144, 145, 146, 147, 148, 149, 150, 151, 152, 153, 154, 155, 156, 157, 158, 159, 160, 161, 162, 163, 164, 165, 166, 167] (by decide +kernel) (by decide +kernel)
set_option maxRecDepth 20000 in
theorem gX7_digest_X7_say : GoodIn wsX7_digest (wsV RX7 250 RX7 yX7_say wsX7_say) := goodIn_app (goodIn_of _ (by decide +kernel)) ggX7_digest_X7_say
set_option maxRecDepth 20000 in
theorem ggX7_digest_X7_lacks : GoodIn wsX7_digest wsX7_lacks := goodIn_r _ [69, 3, 138, 139, 140, 141, 142, 143, 144, 145, 146, 147, 148, 149, 150, 151, 152, 153, 154, 155, 156, 157, 158, 159, 160, 161, 162, 163, 164, 165, 166, 167] (by decide +kernel) (by decide +kernel)
set_option maxRecDepth 20000 in
theorem gX7_digest_X7_lacks : GoodIn wsX7_digest (wsV RX7 140 RX7 yX7_lacks wsX7_lacks) := goodIn_app (goodIn_of _ (by decide +kernel)) ggX7_digest_X7_lacks
set_option maxRecDepth 20000 in
theorem ggX7_digest_X7_sayPlayer : GoodIn wsX7_digest wsX7_sayPlayer := goodIn_r _ [73, 74, 75, 76, 9, 77, 3, 78, 25, 26, 27, 28, 29, 12, 30, 31, 32, 33, 34, 11, 35, 36, 37, 38, 54, 55, 56, 57, 47, 48, 49, 50, 17, 18, 19, 20, 13, 14, 15, 16, 79, 80, 81, 82, 83, 84, 85, 86, 87, 88, 89, 90, 43, 44, 45, 46, 51, 52, 53, 58, 59, 60, 61, 62, 63, 64, 65, 2, 91, 92, 93, 94, 95, 96, 97, 98, 99, 100, 101, 102, 103, 104, 105, 106, 107, 108, 109, 110, 111, 112, 113, 114, 115, 116, 117, 118, 119, 120, 138, 139, 140, 141, 142, 143, 144, 145, 146, 147, 148, 149, 150, 151, 152, 153, 154, 155, 156, 157, 158, 159, 160, 161, 162, 163, 164, 165, 166, 167] (by decide +kernel) (by decide +kernel)
set_option maxRecDepth 20000 in
theorem gX7_digest_X7_sayPlayer : GoodIn wsX7_digest (wsV RX7 256 RX7 yX7_sayPlayer wsX7_sayPlayer) := goodIn_app (goodIn_of _ (by decide +kernel)) ggX7_digest_X7_sayPlayer
set_option maxRecDepth 20000 in
theorem ggX7_digest_X7_countOf : GoodIn wsX7_digest wsX7_countOf := goodIn_r _ [124, 3, 29, 12, 30, 115, 4, 125, 126, 127, 128, 9, 129, 11, 130, 131, 132, 133, 21, 22, 23, 24, 134, 135, 136, 137, 51, 52, 53, 25, 26, 27, 28, 31, 32, 33, 34, 35, 36, 37, 38, 138, 139, 140, 141, 142, 143, 144, 145, 146, 147, 148, 149, 150, 151, 152, 153, 154, 155, 156, 157, 158, 159, 160, 161, 162, 163, 164, 165, 166, 167] (by decide +kernel) (by decide +kernel)
set_option maxRecDepth 20000 in
theorem gX7_digest_X7_countOf : GoodIn wsX7_digest (wsV RX7 242 RX7 yX7_countOf wsX7_countOf) := goodIn_app (goodIn_of _ (by decide +kernel)) ggX7_digest_X7_countOf
theorem dX7_digest_0 : decode cX7_digest 0 = .ok (.aload_n 0, 1) := by decide +kernel
theorem dX7_digest_1 : decode cX7_digest 1 = .ok (.ldc2_w 254, 3) := by decide +kernel
theorem dX7_digest_4 : decode cX7_digest 4 = .ok (.putfield 247, 3) := by decide +kernel
theorem dX7_digest_7 : decode cX7_digest 7 = .ok (.iconst 0, 1) := by decide +kernel
theorem dX7_digest_8 : decode cX7_digest 8 = .ok (.istore_n 1, 1) := by decide +kernel
theorem dX7_digest_9 : decode cX7_digest 9 = .ok (.iload_n 1, 1) := by decide +kernel
theorem dX7_digest_10 : decode cX7_digest 10 = .ok (.aload_n 0, 1) := by decide +kernel
theorem dX7_digest_11 : decode cX7_digest 11 = .ok (.getfield 73, 3) := by decide +kernel
theorem dX7_digest_14 : decode cX7_digest 14 = .ok (.if_icmp .ge 34, 3) := by decide +kernel
theorem dX7_digest_17 : decode cX7_digest 17 = .ok (.iconst 0, 1) := by decide +kernel
theorem dX7_digest_18 : decode cX7_digest 18 = .ok (.istore_n 2, 1) := by decide +kernel
theorem dX7_digest_19 : decode cX7_digest 19 = .ok (.iload_n 2, 1) := by decide +kernel
theorem dX7_digest_20 : decode cX7_digest 20 = .ok (.bipush 10, 2) := by decide +kernel
theorem dX7_digest_22 : decode cX7_digest 22 = .ok (.if_icmp .ge 20, 3) := by decide +kernel
theorem dX7_digest_25 : decode cX7_digest 25 = .ok (.aload_n 0, 1) := by decide +kernel
theorem dX7_digest_26 : decode cX7_digest 26 = .ok (.aload_n 0, 1) := by decide +kernel
theorem dX7_digest_27 : decode cX7_digest 27 = .ok (.iload_n 1, 1) := by decide +kernel
theorem dX7_digest_28 : decode cX7_digest 28 = .ok (.iload_n 2, 1) := by decide +kernel
theorem dX7_digest_29 : decode cX7_digest 29 = .ok (.invokevirtual 135, 3) := by decide +kernel
theorem dX7_digest_32 : decode cX7_digest 32 = .ok (.i2l, 1) := by decide +kernel
theorem dX7_digest_33 : decode cX7_digest 33 = .ok (.invokevirtual 250, 3) := by decide +kernel
theorem dX7_digest_36 : decode cX7_digest 36 = .ok (.iinc 2 1, 3) := by decide +kernel
theorem dX7_digest_39 : decode cX7_digest 39 = .ok (.goto (-20), 3) := by decide +kernel
theorem dX7_digest_42 : decode cX7_digest 42 = .ok (.iinc 1 1, 3) := by decide +kernel
theorem dX7_digest_45 : decode cX7_digest 45 = .ok (.goto (-36), 3) := by decide +kernel
theorem dX7_digest_48 : decode cX7_digest 48 = .ok (.aload_n 0, 1) := by decide +kernel
theorem dX7_digest_49 : decode cX7_digest 49 = .ok (.invokevirtual 140, 3) := by decide +kernel
theorem dX7_digest_52 : decode cX7_digest 52 = .ok (.ifCond .ne 7, 3) := by decide +kernel
theorem dX7_digest_55 : decode cX7_digest 55 = .ok (.aload_n 0, 1) := by decide +kernel
theorem dX7_digest_56 : decode cX7_digest 56 = .ok (.invokevirtual 256, 3) := by decide +kernel
theorem dX7_digest_59 : decode cX7_digest 59 = .ok (.iconst 0, 1) := by decide +kernel
theorem dX7_digest_60 : decode cX7_digest 60 = .ok (.istore_n 1, 1) := by decide +kernel
theorem dX7_digest_61 : decode cX7_digest 61 = .ok (.iload_n 1, 1) := by decide +kernel
theorem dX7_digest_62 : decode cX7_digest 62 = .ok (.aload_n 0, 1) := by decide +kernel
theorem dX7_digest_63 : decode cX7_digest 63 = .ok (.getfield 47, 3) := by decide +kernel
theorem dX7_digest_66 : decode cX7_digest 66 = .ok (.if_icmp .ge 20, 3) := by decide +kernel
theorem dX7_digest_69 : decode cX7_digest 69 = .ok (.aload_n 0, 1) := by decide +kernel
theorem dX7_digest_70 : decode cX7_digest 70 = .ok (.aload_n 0, 1) := by decide +kernel
theorem dX7_digest_71 : decode cX7_digest 71 = .ok (.getfield 7, 3) := by decide +kernel
theorem dX7_digest_74 : decode cX7_digest 74 = .ok (.iload_n 1, 1) := by decide +kernel
theorem dX7_digest_75 : decode cX7_digest 75 = .ok (.iaload, 1) := by decide +kernel
theorem dX7_digest_76 : decode cX7_digest 76 = .ok (.i2l, 1) := by decide +kernel
theorem dX7_digest_77 : decode cX7_digest 77 = .ok (.invokevirtual 250, 3) := by decide +kernel
theorem dX7_digest_80 : decode cX7_digest 80 = .ok (.iinc 1 1, 3) := by decide +kernel
theorem dX7_digest_83 : decode cX7_digest 83 = .ok (.goto (-22), 3) := by decide +kernel
theorem dX7_digest_86 : decode cX7_digest 86 = .ok (.iconst 0, 1) := by decide +kernel
theorem dX7_digest_87 : decode cX7_digest 87 = .ok (.istore_n 1, 1) := by decide +kernel
theorem dX7_digest_88 : decode cX7_digest 88 = .ok (.iload_n 1, 1) := by decide +kernel
theorem dX7_digest_89 : decode cX7_digest 89 = .ok (.bipush 12, 2) := by decide +kernel
theorem dX7_digest_91 : decode cX7_digest 91 = .ok (.if_icmp .ge 19, 3) := by decide +kernel
theorem dX7_digest_94 : decode cX7_digest 94 = .ok (.aload_n 0, 1) := by decide +kernel
theorem dX7_digest_95 : decode cX7_digest 95 = .ok (.aload_n 0, 1) := by decide +kernel
theorem dX7_digest_96 : decode cX7_digest 96 = .ok (.iload_n 1, 1) := by decide +kernel
theorem dX7_digest_97 : decode cX7_digest 97 = .ok (.invokevirtual 242, 3) := by decide +kernel
theorem dX7_digest_100 : decode cX7_digest 100 = .ok (.i2l, 1) := by decide +kernel
theorem dX7_digest_101 : decode cX7_digest 101 = .ok (.invokevirtual 250, 3) := by decide +kernel
theorem dX7_digest_104 : decode cX7_digest 104 = .ok (.iinc 1 1, 3) := by decide +kernel
theorem dX7_digest_107 : decode cX7_digest 107 = .ok (.goto (-19), 3) := by decide +kernel
theorem dX7_digest_110 : decode cX7_digest 110 = .ok (.aload_n 0, 1) := by decide +kernel
theorem dX7_digest_111 : decode cX7_digest 111 = .ok (.getfield 247, 3) := by decide +kernel
theorem dX7_digest_114 : decode cX7_digest 114 = .ok (.lreturn, 1) := by decide +kernel
end
section
theorem dJ6_bitCount_0f7a4_0 : decode cJ6_bitCount_0f7a4 0 = .ok (.iload_n 0, 1) := by decide +kernel
theorem dJ6_bitCount_0f7a4_1 : decode cJ6_bitCount_0f7a4 1 = .ok (.iload_n 0, 1) := by decide +kernel
theorem dJ6_bitCount_0f7a4_2 : decode cJ6_bitCount_0f7a4 2 = .ok (.iconst 1, 1) := by decide +kernel
theorem dJ6_bitCount_0f7a4_3 : decode cJ6_bitCount_0f7a4 3 = .ok (.iushr, 1) := by decide +kernel
theorem dJ6_bitCount_0f7a4_4 : decode cJ6_bitCount_0f7a4 4 = .ok (.ldc_w 265, 3) := by decide +kernel
theorem dJ6_bitCount_0f7a4_7 : decode cJ6_bitCount_0f7a4 7 = .ok (.iand, 1) := by decide +kernel
theorem dJ6_bitCount_0f7a4_8 : decode cJ6_bitCount_0f7a4 8 = .ok (.isub, 1) := by decide +kernel
theorem dJ6_bitCount_0f7a4_9 : decode cJ6_bitCount_0f7a4 9 = .ok (.istore_n 0, 1) := by decide +kernel
theorem dJ6_bitCount_0f7a4_10 : decode cJ6_bitCount_0f7a4 10 = .ok (.iload_n 0, 1) := by decide +kernel
theorem dJ6_bitCount_0f7a4_11 : decode cJ6_bitCount_0f7a4 11 = .ok (.ldc_w 266, 3) := by decide +kernel
theorem dJ6_bitCount_0f7a4_14 : decode cJ6_bitCount_0f7a4 14 = .ok (.iand, 1) := by decide +kernel
theorem dJ6_bitCount_0f7a4_15 : decode cJ6_bitCount_0f7a4 15 = .ok (.iload_n 0, 1) := by decide +kernel
theorem dJ6_bitCount_0f7a4_16 : decode cJ6_bitCount_0f7a4 16 = .ok (.iconst 2, 1) := by decide +kernel
theorem dJ6_bitCount_0f7a4_17 : decode cJ6_bitCount_0f7a4 17 = .ok (.iushr, 1) := by decide +kernel
theorem dJ6_bitCount_0f7a4_18 : decode cJ6_bitCount_0f7a4 18 = .ok (.ldc_w 266, 3) := by decide +kernel
theorem dJ6_bitCount_0f7a4_21 : decode cJ6_bitCount_0f7a4 21 = .ok (.iand, 1) := by decide +kernel
theorem dJ6_bitCount_0f7a4_22 : decode cJ6_bitCount_0f7a4 22 = .ok (.iadd, 1) := by decide +kernel
theorem dJ6_bitCount_0f7a4_23 : decode cJ6_bitCount_0f7a4 23 = .ok (.istore_n 0, 1) := by decide +kernel
theorem dJ6_bitCount_0f7a4_24 : decode cJ6_bitCount_0f7a4 24 = .ok (.iload_n 0, 1) := by decide +kernel
theorem dJ6_bitCount_0f7a4_25 : decode cJ6_bitCount_0f7a4 25 = .ok (.iload_n 0, 1) := by decide +kernel
theorem dJ6_bitCount_0f7a4_26 : decode cJ6_bitCount_0f7a4 26 = .ok (.iconst 4, 1) := by decide +kernel
theorem dJ6_bitCount_0f7a4_27 : decode cJ6_bitCount_0f7a4 27 = .ok (.iushr, 1) := by decide +kernel
theorem dJ6_bitCount_0f7a4_28 : decode cJ6_bitCount_0f7a4 28 = .ok (.iadd, 1) := by decide +kernel
theorem dJ6_bitCount_0f7a4_29 : decode cJ6_bitCount_0f7a4 29 = .ok (.ldc_w 267, 3) := by decide +kernel
theorem dJ6_bitCount_0f7a4_32 : decode cJ6_bitCount_0f7a4 32 = .ok (.iand, 1) := by decide +kernel
theorem dJ6_bitCount_0f7a4_33 : decode cJ6_bitCount_0f7a4 33 = .ok (.istore_n 0, 1) := by decide +kernel
theorem dJ6_bitCount_0f7a4_34 : decode cJ6_bitCount_0f7a4 34 = .ok (.iload_n 0, 1) := by decide +kernel
theorem dJ6_bitCount_0f7a4_35 : decode cJ6_bitCount_0f7a4 35 = .ok (.iload_n 0, 1) := by decide +kernel
theorem dJ6_bitCount_0f7a4_36 : decode cJ6_bitCount_0f7a4 36 = .ok (.bipush 8, 2) := by decide +kernel
theorem dJ6_bitCount_0f7a4_38 : decode cJ6_bitCount_0f7a4 38 = .ok (.iushr, 1) := by decide +kernel
theorem dJ6_bitCount_0f7a4_39 : decode cJ6_bitCount_0f7a4 39 = .ok (.iadd, 1) := by decide +kernel
theorem dJ6_bitCount_0f7a4_40 : decode cJ6_bitCount_0f7a4 40 = .ok (.istore_n 0, 1) := by decide +kernel
theorem dJ6_bitCount_0f7a4_41 : decode cJ6_bitCount_0f7a4 41 = .ok (.iload_n 0, 1) := by decide +kernel
theorem dJ6_bitCount_0f7a4_42 : decode cJ6_bitCount_0f7a4 42 = .ok (.iload_n 0, 1) := by decide +kernel
theorem dJ6_bitCount_0f7a4_43 : decode cJ6_bitCount_0f7a4 43 = .ok (.bipush 16, 2) := by decide +kernel
theorem dJ6_bitCount_0f7a4_45 : decode cJ6_bitCount_0f7a4 45 = .ok (.iushr, 1) := by decide +kernel
theorem dJ6_bitCount_0f7a4_46 : decode cJ6_bitCount_0f7a4 46 = .ok (.iadd, 1) := by decide +kernel
theorem dJ6_bitCount_0f7a4_47 : decode cJ6_bitCount_0f7a4 47 = .ok (.istore_n 0, 1) := by decide +kernel
theorem dJ6_bitCount_0f7a4_48 : decode cJ6_bitCount_0f7a4 48 = .ok (.iload_n 0, 1) := by decide +kernel
theorem dJ6_bitCount_0f7a4_49 : decode cJ6_bitCount_0f7a4 49 = .ok (.bipush 63, 2) := by decide +kernel
theorem dJ6_bitCount_0f7a4_51 : decode cJ6_bitCount_0f7a4 51 = .ok (.iand, 1) := by decide +kernel
theorem dJ6_bitCount_0f7a4_52 : decode cJ6_bitCount_0f7a4 52 = .ok (.ireturn, 1) := by decide +kernel
theorem dJ9_max_7cf53_0 : decode cJ9_max_7cf53 0 = .ok (.iload_n 0, 1) := by decide +kernel
theorem dJ9_max_7cf53_1 : decode cJ9_max_7cf53 1 = .ok (.iload_n 1, 1) := by decide +kernel
theorem dJ9_max_7cf53_2 : decode cJ9_max_7cf53 2 = .ok (.if_icmp .lt 7, 3) := by decide +kernel
theorem dJ9_max_7cf53_5 : decode cJ9_max_7cf53 5 = .ok (.iload_n 0, 1) := by decide +kernel
theorem dJ9_max_7cf53_6 : decode cJ9_max_7cf53 6 = .ok (.goto 4, 3) := by decide +kernel
theorem dJ9_max_7cf53_9 : decode cJ9_max_7cf53 9 = .ok (.iload_n 1, 1) := by decide +kernel
theorem dJ9_max_7cf53_10 : decode cJ9_max_7cf53 10 = .ok (.ireturn, 1) := by decide +kernel
theorem dJ9_min_7cf53_0 : decode cJ9_min_7cf53 0 = .ok (.iload_n 0, 1) := by decide +kernel
theorem dJ9_min_7cf53_1 : decode cJ9_min_7cf53 1 = .ok (.iload_n 1, 1) := by decide +kernel
theorem dJ9_min_7cf53_2 : decode cJ9_min_7cf53 2 = .ok (.if_icmp .gt 7, 3) := by decide +kernel
theorem dJ9_min_7cf53_5 : decode cJ9_min_7cf53 5 = .ok (.iload_n 0, 1) := by decide +kernel
theorem dJ9_min_7cf53_6 : decode cJ9_min_7cf53 6 = .ok (.goto 4, 3) := by decide +kernel
theorem dJ9_min_7cf53_9 : decode cJ9_min_7cf53 9 = .ok (.iload_n 1, 1) := by decide +kernel
theorem dJ9_min_7cf53_10 : decode cJ9_min_7cf53 10 = .ok (.ireturn, 1) := by decide +kernel
set_option maxRecDepth 20000 in
theorem ggJ0_length_8abf5_J0_coder_7d493 : GoodIn wsJ0_length_8abf5 wsJ0_coder_7d493 := goodIn_r _ [6, 7, 8] (by decide +kernel) (by decide +kernel)
set_option maxRecDepth 20000 in
theorem gJ0_length_8abf5_J0_coder_7d493 : GoodIn wsJ0_length_8abf5 (wsV RJ0 335 RJ0 yJ0_coder_7d493 wsJ0_coder_7d493) := goodIn_app (goodIn_of _ (by decide +kernel)) ggJ0_length_8abf5_J0_coder_7d493
theorem dJ0_length_8abf5_0 : decode cJ0_length_8abf5 0 = .ok (.aload_n 0, 1) := by decide +kernel
theorem dJ0_length_8abf5_1 : decode cJ0_length_8abf5 1 = .ok (.getfield 9, 3) := by decide +kernel
theorem dJ0_length_8abf5_4 : decode cJ0_length_8abf5 4 = .ok (.arraylength, 1) := by decide +kernel
theorem dJ0_length_8abf5_5 : decode cJ0_length_8abf5 5 = .ok (.aload_n 0, 1) := by decide +kernel
theorem dJ0_length_8abf5_6 : decode cJ0_length_8abf5 6 = .ok (.invokevirtual 335, 3) := by decide +kernel
theorem dJ0_length_8abf5_9 : decode cJ0_length_8abf5 9 = .ok (.ishr, 1) := by decide +kernel
theorem dJ0_length_8abf5_10 : decode cJ0_length_8abf5 10 = .ok (.ireturn, 1) := by decide +kernel
set_option maxRecDepth 20000 in
theorem ggJ0_indexOf_0f7a4_J0_indexOf_7cf53 : GoodIn wsJ0_indexOf_0f7a4 wsJ0_indexOf_7cf53 := goodIn_r _ [5, 6, 7, 8, 9, 4, 10, 11, 12, 13, 14, 15, 16, 17, 18, 19, 20, 21, 22, 23, 24, 25, 26, 27, 28, 29, 30, 31, 32, 33, 34, 35, 36, 37, 38, 39, 40, 41, 42, 43, 44, 45, 46, 47, 48, 49, 50, 51, 52, 53, 54, 55, 56, 57, 58, 59, 60, 61, 62, 63, 64, 65, 66, 67, 68, 69, 70, 71, 72, 73, 74, 75, 76, 77, 78, 79, 80, 81, 82, 83, 84, 85] (by decide +kernel) (by decide +kernel)
set_option maxRecDepth 20000 in
theorem gJ0_indexOf_0f7a4_J0_indexOf_7cf53 : GoodIn wsJ0_indexOf_0f7a4 (wsV RJ0 633 RJ0 yJ0_indexOf_7cf53 wsJ0_indexOf_7cf53) := goodIn_app (goodIn_of _ (by decide +kernel)) ggJ0_indexOf_0f7a4_J0_indexOf_7cf53
theorem dJ0_indexOf_0f7a4_0 : decode cJ0_indexOf_0f7a4 0 = .ok (.aload_n 0, 1) := by decide +kernel
theorem dJ0_indexOf_0f7a4_1 : decode cJ0_indexOf_0f7a4 1 = .ok (.iload_n 1, 1) := by decide +kernel
theorem dJ0_indexOf_0f7a4_2 : decode cJ0_indexOf_0f7a4 2 = .ok (.iconst 0, 1) := by decide +kernel
theorem dJ0_indexOf_0f7a4_3 : decode cJ0_indexOf_0f7a4 3 = .ok (.invokevirtual 633, 3) := by decide +kernel
theorem dJ0_indexOf_0f7a4_6 : decode cJ0_indexOf_0f7a4 6 = .ok (.ireturn, 1) := by decide +kernel
set_option maxRecDepth 20000 in
theorem ggJ0_indexOf_7cf53_J0_isLatin1_aae02 : GoodIn wsJ0_indexOf_7cf53 wsJ0_isLatin1_aae02 := goodIn_r _ [6, 7, 8] (by decide +kernel) (by decide +kernel)
set_option maxRecDepth 20000 in
theorem gJ0_indexOf_7cf53_J0_isLatin1_aae02 : GoodIn wsJ0_indexOf_7cf53 (wsV RJ0 492 RJ0 yJ0_isLatin1_aae02 wsJ0_isLatin1_aae02) := goodIn_app (goodIn_of _ (by decide +kernel)) ggJ0_indexOf_7cf53_J0_isLatin1_aae02
set_option maxRecDepth 20000 in
theorem ggJ0_indexOf_7cf53_J0_length_8abf5 : GoodIn wsJ0_indexOf_7cf53 wsJ0_length_8abf5 := goodIn_r _ [12, 1, 13, 14, 15, 5, 16, 7, 8] (by decide +kernel) (by decide +kernel)
set_option maxRecDepth 20000 in
theorem gJ0_indexOf_7cf53_J0_length_8abf5 : GoodIn wsJ0_indexOf_7cf53 (wsV RJ0 505 RJ0 yJ0_length_8abf5 wsJ0_length_8abf5) := goodIn_app (goodIn_of _ (by decide +kernel)) ggJ0_indexOf_7cf53_J0_length_8abf5
set_option maxRecDepth 20000 in
theorem ggJ0_indexOf_7cf53_J1_indexOf_4cfef : GoodIn wsJ0_indexOf_7cf53 wsJ1_indexOf_4cfef := goodIn_r _ [20, 21, 22, 23, 24, 25, 26, 27, 28, 29, 19, 30, 31, 32, 33] (by decide +kernel) (by decide +kernel)
set_option maxRecDepth 20000 in
theorem gJ0_indexOf_7cf53_J1_indexOf_4cfef : GoodIn wsJ0_indexOf_7cf53 (va_wsS RJ0 637 yJ1_indexOf_4cfef wsJ1_indexOf_4cfef) := goodIn_app (goodIn_of _ (by decide +kernel)) ggJ0_indexOf_7cf53_J1_indexOf_4cfef
set_option maxRecDepth 20000 in
theorem ggJ0_indexOf_7cf53_J2_indexOf_4cfef : GoodIn wsJ0_indexOf_7cf53 wsJ2_indexOf_4cfef := goodIn_r _ [37, 38, 22, 23, 24, 39, 26, 27, 40, 41, 42, 36, 43, 44, 45, 46, 47, 48, 49, 50, 51, 5, 52, 53, 54, 55, 56, 57, 58, 59, 60, 61, 62, 63, 64, 65, 66, 67, 68, 69, 70, 71, 72, 73, 74, 75, 76, 77, 78, 79, 80, 81] (by decide +kernel) (by decide +kernel)
set_option maxRecDepth 20000 in
theorem gJ0_indexOf_7cf53_J2_indexOf_4cfef : GoodIn wsJ0_indexOf_7cf53 (va_wsS RJ0 640 yJ2_indexOf_4cfef wsJ2_indexOf_4cfef) := goodIn_app (goodIn_of _ (by decide +kernel)) ggJ0_indexOf_7cf53_J2_indexOf_4cfef
theorem dJ0_indexOf_7cf53_0 : decode cJ0_indexOf_7cf53 0 = .ok (.aload_n 0, 1) := by decide +kernel
theorem dJ0_indexOf_7cf53_1 : decode cJ0_indexOf_7cf53 1 = .ok (.invokevirtual 492, 3) := by decide +kernel
theorem dJ0_indexOf_7cf53_4 : decode cJ0_indexOf_7cf53 4 = .ok (.ifCond .eq 19, 3) := by decide +kernel
theorem dJ0_indexOf_7cf53_7 : decode cJ0_indexOf_7cf53 7 = .ok (.aload_n 0, 1) := by decide +kernel
theorem dJ0_indexOf_7cf53_8 : decode cJ0_indexOf_7cf53 8 = .ok (.getfield 9, 3) := by decide +kernel
theorem dJ0_indexOf_7cf53_11 : decode cJ0_indexOf_7cf53 11 = .ok (.iload_n 1, 1) := by decide +kernel
theorem dJ0_indexOf_7cf53_12 : decode cJ0_indexOf_7cf53 12 = .ok (.iload_n 2, 1) := by decide +kernel
theorem dJ0_indexOf_7cf53_13 : decode cJ0_indexOf_7cf53 13 = .ok (.aload_n 0, 1) := by decide +kernel
theorem dJ0_indexOf_7cf53_14 : decode cJ0_indexOf_7cf53 14 = .ok (.invokevirtual 505, 3) := by decide +kernel
theorem dJ0_indexOf_7cf53_17 : decode cJ0_indexOf_7cf53 17 = .ok (.invokestatic 637, 3) := by decide +kernel
theorem dJ0_indexOf_7cf53_20 : decode cJ0_indexOf_7cf53 20 = .ok (.goto 16, 3) := by decide +kernel
theorem dJ0_indexOf_7cf53_23 : decode cJ0_indexOf_7cf53 23 = .ok (.aload_n 0, 1) := by decide +kernel
theorem dJ0_indexOf_7cf53_24 : decode cJ0_indexOf_7cf53 24 = .ok (.getfield 9, 3) := by decide +kernel
theorem dJ0_indexOf_7cf53_27 : decode cJ0_indexOf_7cf53 27 = .ok (.iload_n 1, 1) := by decide +kernel
theorem dJ0_indexOf_7cf53_28 : decode cJ0_indexOf_7cf53 28 = .ok (.iload_n 2, 1) := by decide +kernel
theorem dJ0_indexOf_7cf53_29 : decode cJ0_indexOf_7cf53 29 = .ok (.aload_n 0, 1) := by decide +kernel
theorem dJ0_indexOf_7cf53_30 : decode cJ0_indexOf_7cf53 30 = .ok (.invokevirtual 505, 3) := by decide +kernel
theorem dJ0_indexOf_7cf53_33 : decode cJ0_indexOf_7cf53 33 = .ok (.invokestatic 640, 3) := by decide +kernel
theorem dJ0_indexOf_7cf53_36 : decode cJ0_indexOf_7cf53 36 = .ok (.ireturn, 1) := by decide +kernel
theorem dJ0_coder_7d493_0 : decode cJ0_coder_7d493 0 = .ok (.getstatic 38, 3) := by decide +kernel
theorem dJ0_coder_7d493_3 : decode cJ0_coder_7d493 3 = .ok (.ifCond .eq 10, 3) := by decide +kernel
theorem dJ0_coder_7d493_6 : decode cJ0_coder_7d493 6 = .ok (.aload_n 0, 1) := by decide +kernel
theorem dJ0_coder_7d493_7 : decode cJ0_coder_7d493 7 = .ok (.getfield 15, 3) := by decide +kernel
theorem dJ0_coder_7d493_10 : decode cJ0_coder_7d493 10 = .ok (.goto 4, 3) := by decide +kernel
theorem dJ0_coder_7d493_13 : decode cJ0_coder_7d493 13 = .ok (.iconst 1, 1) := by decide +kernel
theorem dJ0_coder_7d493_14 : decode cJ0_coder_7d493 14 = .ok (.ireturn, 1) := by decide +kernel
theorem dJ0_isLatin1_aae02_0 : decode cJ0_isLatin1_aae02 0 = .ok (.getstatic 38, 3) := by decide +kernel
theorem dJ0_isLatin1_aae02_3 : decode cJ0_isLatin1_aae02 3 = .ok (.ifCond .eq 14, 3) := by decide +kernel
theorem dJ0_isLatin1_aae02_6 : decode cJ0_isLatin1_aae02 6 = .ok (.aload_n 0, 1) := by decide +kernel
theorem dJ0_isLatin1_aae02_7 : decode cJ0_isLatin1_aae02 7 = .ok (.getfield 15, 3) := by decide +kernel
theorem dJ0_isLatin1_aae02_10 : decode cJ0_isLatin1_aae02 10 = .ok (.ifCond .ne 7, 3) := by decide +kernel
theorem dJ0_isLatin1_aae02_13 : decode cJ0_isLatin1_aae02 13 = .ok (.iconst 1, 1) := by decide +kernel
theorem dJ0_isLatin1_aae02_14 : decode cJ0_isLatin1_aae02 14 = .ok (.goto 4, 3) := by decide +kernel
theorem dJ0_isLatin1_aae02_17 : decode cJ0_isLatin1_aae02 17 = .ok (.iconst 0, 1) := by decide +kernel
theorem dJ0_isLatin1_aae02_18 : decode cJ0_isLatin1_aae02 18 = .ok (.ireturn, 1) := by decide +kernel
set_option maxRecDepth 20000 in
theorem dJ1_canEncode_9a6ad_0 : decode cJ1_canEncode_9a6ad 0 = .ok (.iload_n 0, 1) := by decide +kernel
theorem dJ1_canEncode_9a6ad_1 : decode cJ1_canEncode_9a6ad 1 = .ok (.ifCond .lt 14, 3) := by decide +kernel
theorem dJ1_canEncode_9a6ad_4 : decode cJ1_canEncode_9a6ad 4 = .ok (.iload_n 0, 1) := by decide +kernel
theorem dJ1_canEncode_9a6ad_5 : decode cJ1_canEncode_9a6ad 5 = .ok (.sipush 255, 3) := by decide +kernel
theorem dJ1_canEncode_9a6ad_8 : decode cJ1_canEncode_9a6ad 8 = .ok (.if_icmp .gt 7, 3) := by decide +kernel
theorem dJ1_canEncode_9a6ad_11 : decode cJ1_canEncode_9a6ad 11 = .ok (.iconst 1, 1) := by decide +kernel
theorem dJ1_canEncode_9a6ad_12 : decode cJ1_canEncode_9a6ad 12 = .ok (.goto 4, 3) := by decide +kernel
theorem dJ1_canEncode_9a6ad_15 : decode cJ1_canEncode_9a6ad 15 = .ok (.iconst 0, 1) := by decide +kernel
theorem dJ1_canEncode_9a6ad_16 : decode cJ1_canEncode_9a6ad 16 = .ok (.ireturn, 1) := by decide +kernel
set_option maxRecDepth 20000 in
theorem ggJ1_indexOf_4cfef_J1_canEncode_9a6ad : GoodIn wsJ1_indexOf_4cfef wsJ1_canEncode_9a6ad := goodIn_r _ [11] (by decide +kernel) (by decide +kernel)
set_option maxRecDepth 20000 in
theorem gJ1_indexOf_4cfef_J1_canEncode_9a6ad : GoodIn wsJ1_indexOf_4cfef (va_wsS RJ1 88 yJ1_canEncode_9a6ad wsJ1_canEncode_9a6ad) := goodIn_app (goodIn_of _ (by decide +kernel)) ggJ1_indexOf_4cfef_J1_canEncode_9a6ad
set_option maxRecDepth 20000 in
theorem ggJ1_indexOf_4cfef_J1_indexOfChar_4cfef : GoodIn wsJ1_indexOf_4cfef wsJ1_indexOfChar_4cfef := goodIn_r _ [14] (by decide +kernel) (by decide +kernel)
set_option maxRecDepth 20000 in
theorem gJ1_indexOf_4cfef_J1_indexOfChar_4cfef : GoodIn wsJ1_indexOf_4cfef (va_wsS RJ1 95 yJ1_indexOfChar_4cfef wsJ1_indexOfChar_4cfef) := goodIn_app (goodIn_of _ (by decide +kernel)) ggJ1_indexOf_4cfef_J1_indexOfChar_4cfef
theorem dJ1_indexOf_4cfef_0 : decode cJ1_indexOf_4cfef 0 = .ok (.iload_n 1, 1) := by decide +kernel
theorem dJ1_indexOf_4cfef_1 : decode cJ1_indexOf_4cfef 1 = .ok (.invokestatic 88, 3) := by decide +kernel
theorem dJ1_indexOf_4cfef_4 : decode cJ1_indexOf_4cfef 4 = .ok (.ifCond .ne 5, 3) := by decide +kernel
theorem dJ1_indexOf_4cfef_7 : decode cJ1_indexOf_4cfef 7 = .ok (.iconst (-1), 1) := by decide +kernel
theorem dJ1_indexOf_4cfef_8 : decode cJ1_indexOf_4cfef 8 = .ok (.ireturn, 1) := by decide +kernel
theorem dJ1_indexOf_4cfef_9 : decode cJ1_indexOf_4cfef 9 = .ok (.iload_n 2, 1) := by decide +kernel
theorem dJ1_indexOf_4cfef_10 : decode cJ1_indexOf_4cfef 10 = .ok (.iconst 0, 1) := by decide +kernel
theorem dJ1_indexOf_4cfef_11 : decode cJ1_indexOf_4cfef 11 = .ok (.invokestatic 92, 3) := by decide +kernel
theorem dJ1_indexOf_4cfef_14 : decode cJ1_indexOf_4cfef 14 = .ok (.istore_n 2, 1) := by decide +kernel
theorem dJ1_indexOf_4cfef_15 : decode cJ1_indexOf_4cfef 15 = .ok (.iload_n 3, 1) := by decide +kernel
theorem dJ1_indexOf_4cfef_16 : decode cJ1_indexOf_4cfef 16 = .ok (.aload_n 0, 1) := by decide +kernel
theorem dJ1_indexOf_4cfef_17 : decode cJ1_indexOf_4cfef 17 = .ok (.arraylength, 1) := by decide +kernel
theorem dJ1_indexOf_4cfef_18 : decode cJ1_indexOf_4cfef 18 = .ok (.invokestatic 38, 3) := by decide +kernel
theorem dJ1_indexOf_4cfef_21 : decode cJ1_indexOf_4cfef 21 = .ok (.istore_n 3, 1) := by decide +kernel
theorem dJ1_indexOf_4cfef_22 : decode cJ1_indexOf_4cfef 22 = .ok (.iload_n 2, 1) := by decide +kernel
theorem dJ1_indexOf_4cfef_23 : decode cJ1_indexOf_4cfef 23 = .ok (.iload_n 3, 1) := by decide +kernel
theorem dJ1_indexOf_4cfef_24 : decode cJ1_indexOf_4cfef 24 = .ok (.if_icmp .lt 5, 3) := by decide +kernel
theorem dJ1_indexOf_4cfef_27 : decode cJ1_indexOf_4cfef 27 = .ok (.iconst (-1), 1) := by decide +kernel
theorem dJ1_indexOf_4cfef_28 : decode cJ1_indexOf_4cfef 28 = .ok (.ireturn, 1) := by decide +kernel
theorem dJ1_indexOf_4cfef_29 : decode cJ1_indexOf_4cfef 29 = .ok (.aload_n 0, 1) := by decide +kernel
theorem dJ1_indexOf_4cfef_30 : decode cJ1_indexOf_4cfef 30 = .ok (.iload_n 1, 1) := by decide +kernel
theorem dJ1_indexOf_4cfef_31 : decode cJ1_indexOf_4cfef 31 = .ok (.iload_n 2, 1) := by decide +kernel
theorem dJ1_indexOf_4cfef_32 : decode cJ1_indexOf_4cfef 32 = .ok (.iload_n 3, 1) := by decide +kernel
theorem dJ1_indexOf_4cfef_33 : decode cJ1_indexOf_4cfef 33 = .ok (.invokestatic 95, 3) := by decide +kernel
theorem dJ1_indexOf_4cfef_36 : decode cJ1_indexOf_4cfef 36 = .ok (.ireturn, 1) := by decide +kernel
theorem dJ1_indexOfChar_4cfef_0 : decode cJ1_indexOfChar_4cfef 0 = .ok (.iload_n 1, 1) := by decide +kernel
theorem dJ1_indexOfChar_4cfef_1 : decode cJ1_indexOfChar_4cfef 1 = .ok (.i2b, 1) := by decide +kernel
theorem dJ1_indexOfChar_4cfef_2 : decode cJ1_indexOfChar_4cfef 2 = .ok (.istore 4, 2) := by decide +kernel
theorem dJ1_indexOfChar_4cfef_4 : decode cJ1_indexOfChar_4cfef 4 = .ok (.iload_n 2, 1) := by decide +kernel
theorem dJ1_indexOfChar_4cfef_5 : decode cJ1_indexOfChar_4cfef 5 = .ok (.istore 5, 2) := by decide +kernel
theorem dJ1_indexOfChar_4cfef_7 : decode cJ1_indexOfChar_4cfef 7 = .ok (.iload 5, 2) := by decide +kernel
theorem dJ1_indexOfChar_4cfef_9 : decode cJ1_indexOfChar_4cfef 9 = .ok (.iload_n 3, 1) := by decide +kernel
theorem dJ1_indexOfChar_4cfef_10 : decode cJ1_indexOfChar_4cfef 10 = .ok (.if_icmp .ge 21, 3) := by decide +kernel
theorem dJ1_indexOfChar_4cfef_13 : decode cJ1_indexOfChar_4cfef 13 = .ok (.aload_n 0, 1) := by decide +kernel
theorem dJ1_indexOfChar_4cfef_14 : decode cJ1_indexOfChar_4cfef 14 = .ok (.iload 5, 2) := by decide +kernel
theorem dJ1_indexOfChar_4cfef_16 : decode cJ1_indexOfChar_4cfef 16 = .ok (.baload, 1) := by decide +kernel
theorem dJ1_indexOfChar_4cfef_17 : decode cJ1_indexOfChar_4cfef 17 = .ok (.iload 4, 2) := by decide +kernel
theorem dJ1_indexOfChar_4cfef_19 : decode cJ1_indexOfChar_4cfef 19 = .ok (.if_icmp .ne 6, 3) := by decide +kernel
theorem dJ1_indexOfChar_4cfef_22 : decode cJ1_indexOfChar_4cfef 22 = .ok (.iload 5, 2) := by decide +kernel
theorem dJ1_indexOfChar_4cfef_24 : decode cJ1_indexOfChar_4cfef 24 = .ok (.ireturn, 1) := by decide +kernel
theorem dJ1_indexOfChar_4cfef_25 : decode cJ1_indexOfChar_4cfef 25 = .ok (.iinc 5 1, 3) := by decide +kernel
theorem dJ1_indexOfChar_4cfef_28 : decode cJ1_indexOfChar_4cfef 28 = .ok (.goto (-21), 3) := by decide +kernel
theorem dJ1_indexOfChar_4cfef_31 : decode cJ1_indexOfChar_4cfef 31 = .ok (.iconst (-1), 1) := by decide +kernel
theorem dJ1_indexOfChar_4cfef_32 : decode cJ1_indexOfChar_4cfef 32 = .ok (.ireturn, 1) := by decide +kernel
end
section
/-! the words of this proof: what a method starts from, how a call goes on, how a world comes back -/
abbrev vzI (cI : ClassId) : List (ClassId × FieldType) := [(cI, .int)]
/-- the links to private members of nest mates -/
def zNF : List (String × Nat × String × String × String) := [("SongsAgain", 213, "SongsAgain$Page", "codes", "LSongsAgain$Row;"), ("SongsAgain", 61, "SongsAgain$Page", "length", "I"), ("SongsAgain", 225, "SongsAgain$Book", "kinds", "LSongsAgain$Row;"), ("SongsAgain$Orders", 56, "SongsAgain$Book", "singers", "LSongsAgain$Row;"), ("SongsAgain", 228, "SongsAgain$Book", "singers", "LSongsAgain$Row;"), ("SongsAgain", 250, "SongsAgain$Book", "weights", "LSongsAgain$Row;"), ("SongsAgain", 231, "SongsAgain$Book", "minutes", "LSongsAgain$Row;"), ("SongsAgain$Orders", 37, "SongsAgain$Book", "number", "I"), ("SongsAgain", 93, "SongsAgain$Book", "number", "I"), ("SongsAgain", 132, "SongsAgain$Past", "played", "LSongsAgain$Row;"), ("SongsAgain", 147, "SongsAgain$Past", "skipped", "LSongsAgain$Row;"), ("SongsAgain", 177, "SongsAgain$Past", "heard", "LSongsAgain$Row;"), ("SongsAgain", 174, "SongsAgain$Past", "heardLength", "I"), ("SongsAgain", 111, "SongsAgain$Past", "rule", "I"), ("SongsAgain", 120, "SongsAgain$Past", "bag", "I"), ("SongsAgain", 126, "SongsAgain$Past", "last", "I"), ("SongsAgain", 129, "SongsAgain$Past", "lastIsSkipped", "Z"), ("SongsAgain", 160, "SongsAgain$Fraction", "above", "J"), ("SongsAgain", 164, "SongsAgain$Fraction", "below", "J")]
def zNM : List (String × Nat × MethodName) := [("SongsAgain", 9, ⟨"SongsAgain$Page", "<init>", "()V"⟩), ("SongsAgain", 18, ⟨"SongsAgain$Book", "<init>", "()V"⟩), ("SongsAgain", 25, ⟨"SongsAgain$Past", "<init>", "()V"⟩), ("SongsAgain", 35, ⟨"SongsAgain$Fraction", "<init>", "()V"⟩), ("SongsAgain", 48, ⟨"SongsAgain$Orders", "<init>", "()V"⟩), ("SongsAgain$Orders", 40, ⟨"SongsAgain", "holds", "(II)Z"⟩), ("SongsAgain$Book", 56, ⟨"SongsAgain", "holds", "(II)Z"⟩)]
def zN (U : State) : Prop := (∀ q ∈ zNF, va_Nw (.fieldLinkNest q.1 q.2.1 q.2.2.1 q.2.2.2.1 q.2.2.2.2 "SongsAgain") U) ∧ ∀ q ∈ zNM, va_Nw (.methodLinkNest q.1 q.2.1 q.2.2 "SongsAgain") U
theorem zN.warm {s U : State} (hW : s.WarmedH U.vm) (h : zN s) : zN U := ⟨fun q hq => va_Nw.warmF hW (h.1 q hq), fun q hq => va_Nw.warmM hW (h.2 q hq)⟩
theorem zN.same {s U : State} (hv : s.vm = U.vm) (h : zN s) : zN U := ⟨fun q hq => va_Nw.same rfl hv (h.1 q hq), fun q hq => va_Nw.same rfl hv (h.2 q hq)⟩
def zK (D : va_G) (cI : ClassId) (U : State) : Prop := va_K D vwCl (vzI cI) U ∧ zN U
theorem zK.warm {D : va_G} {cI : ClassId} {s U : State} (hW : s.WarmedH U.vm) (h : zK D cI s) : zK D cI U := ⟨va_K.moved hW.alike h.1, h.2.warm hW⟩
theorem zK.call {D : va_G} {cI : ClassId} {U : State} {g : JFrame} {mk : MethodId} {a : Array Value} (h : zK D cI U) : zK D cI (U.calling g mk a) := ⟨va_K.moved (u := U) (U := U.calling g mk a) (Vm.Alike.refl U.vm) h.1, h.2.same rfl⟩
/-- a call that wrote nothing -/
theorem vz_cr {p : Program} {l : Launch} {e : Env} {R : Room} {s : State} {m : MethodId} {args : Array Value} {below : List Frame} {meth : Method} {c : Code} {H : Heap} {locs : List Loc} {cells slots mc ms : Nat} {g : JFrame} {rest : List Value} {Qa : State → Outcome → State → Prop} {free : Addr → Prop} (h : va_Run p l e R s m args below meth c H locs cells slots mc ms g rest Qa free) : CallRun p l e R s m args below meth c H locs cells slots mc ms g rest Qa free := by
  intro T hT X
  obtain ⟨v, st₀, t, T', L, h0, X', hL, e1, e2, hq, st⟩ := h T hT X
  exact ⟨v, st₀, t, T', L, h0, X', hL, e1, hq, st⟩
def vz_ro (D : va_G) (cI : ClassId) (ws : va_W) (av : List Value) : Array Value → State → Prop := va_Pc av (fun U => va_P D vwCl ws U.heap ∧ zK D cI U)
def vz_rw (D : va_G) (cI : ClassId) (ws : va_W) (sz : Nat) (av : List Value) : Array Value → State → Prop := va_Pc av (fun U => U.heap.size = sz ∧ va_P D vwCl ws U.heap ∧ zK D cI U ∧ va_D (fun _ => True) ws)
def vz_st (av : List Value) : Array Value → State → Prop := va_Pc av (fun _ => True)
theorem vz_blR {D : va_G} {cI : ClassId} {ws : va_W} {av : List Value} : FrameBlind (vz_ro D cI ws av) := fun a U g mk q => ⟨q.1, q.2.1, q.2.2.call⟩
theorem vz_blW {D : va_G} {cI : ClassId} {ws : va_W} {sz : Nat} {av : List Value} : FrameBlind (vz_rw D cI ws sz av) := fun a U g mk q => ⟨q.1, q.2.1, q.2.2.1, q.2.2.2.1.call, q.2.2.2.2⟩
theorem vz_blS {av : List Value} : FrameBlind (vz_st av) := fun a U g mk q => q
theorem vz_pvR {D : va_G} {cI : ClassId} {ws : va_W} {s : State} {H : Heap} {C : String} {b : Addr} {As : List Value} (hr : ∃ cellB : Cell, H[b]? = some cellB ∧ cellB.vm.isStatics = false ∧ s.vm.findClass C = some cellB.cls) (hK : zK D cI s) (hP : va_P D vwCl ws H) : PreV s H C b (vz_ro D cI ws (.ref b :: As)) As :=
  ⟨vz_blR, hr, fun U hU hW => ⟨rfl, by rw [hU]; exact hP, hK.warm hW⟩⟩
theorem vz_pvS {s : State} {H : Heap} {C : String} {b : Addr} {As : List Value} (hr : ∃ cellB : Cell, H[b]? = some cellB ∧ cellB.vm.isStatics = false ∧ s.vm.findClass C = some cellB.cls) : PreV s H C b (vz_st (.ref b :: As)) As :=
  ⟨vz_blS, hr, fun U hU hW => ⟨rfl, trivial⟩⟩
theorem vz_pvW {D : va_G} {cI : ClassId} {ws : va_W} {s : State} {H : Heap} {C : String} {b : Addr} {As : List Value} {A : Nat → Prop} (hr : ∃ cellB : Cell, H[b]? = some cellB ∧ cellB.vm.isStatics = false ∧ s.vm.findClass C = some cellB.cls) (hK : zK D cI s) (hP : va_P D vwCl ws H) (hD : va_D A ws) : PreV s H C b (vz_rw D cI ws H.size (.ref b :: As)) As :=
  ⟨vz_blW, hr, fun U hU hW => ⟨rfl, by rw [hU], by rw [hU]; exact hP, hK.warm hW, hD.weaken (fun _ _ _ _ => trivial)⟩⟩
theorem vz_psR {D : va_G} {cI : ClassId} {ws : va_W} {s : State} {H : Heap} {As : List Value} (hK : zK D cI s) (hP : va_P D vwCl ws H) : PreS s H (vz_ro D cI ws As) As :=
  ⟨vz_blR, fun U hU hW => ⟨rfl, by rw [hU]; exact hP, hK.warm hW⟩⟩
theorem vz_psS {s : State} {H : Heap} {As : List Value} : PreS s H (vz_st As) As := ⟨vz_blS, fun U hU hW => ⟨rfl, trivial⟩⟩
theorem vz_psW {D : va_G} {cI : ClassId} {ws : va_W} {s : State} {H : Heap} {As : List Value} {A : Nat → Prop} (hK : zK D cI s) (hP : va_P D vwCl ws H) (hD : va_D A ws) : PreS s H (vz_rw D cI ws H.size As) As :=
  ⟨vz_blW, fun U hU hW => ⟨rfl, by rw [hU], by rw [hU]; exact hP, hK.warm hW, hD.weaken (fun _ _ _ _ => trivial)⟩⟩
/-- some cells of a list put in their places -/
def vz_patch : va_W → List Nat → va_W → va_W
  | ws, i :: is, q :: qs => vz_patch (ws.set i q) is qs
  | ws, _, _ => ws
theorem vz_patch_at {D : va_G} {cl : List vw_C} {H1 : Heap} : ∀ (is : List Nat) (ws w1 : va_W), is.length = w1.length → (∀ (k : Nat) (q : Nat × va_E), ws[k]? = some q → k ∉ is → va_at D cl q H1) → (∀ (j : Nat) (q : Nat × va_E), w1[j]? = some q → va_at D cl q H1) → va_P D cl (vz_patch ws is w1) H1
  | [], ws, w1, _, h, _ => by
    intro k q hk
    cases w1 <;> exact h k q hk (List.not_mem_nil)
  | i :: is, ws, [], hl, _, _ => by cases hl
  | i :: is, ws, x :: w1, hl, h, h1 => by
    refine vz_patch_at is (ws.set i x) w1 (Nat.succ.inj hl) (fun k q hk hn => ?_) (fun j q hj => h1 (j + 1) q (by rw [List.getElem?_cons_succ]; exact hj))
    by_cases e : i = k
    · subst e
      rw [List.getElem?_set] at hk
      by_cases hlt : i < ws.length
      · simp [hlt] at hk
        exact h1 0 q (by rw [← hk]; rfl)
      · simp [hlt] at hk
    · rw [List.getElem?_set_ne e] at hk
      exact h k q hk (fun z => by rcases List.mem_cons.mp z with z | z; exact e z.symm; exact hn z)
/-- behind a call that made no cells: the caller's world with the callee's part put back -/
theorem vz_join {A0 : Nat → Prop} {D : va_G} {cl : List vw_C} {ws wc w1 ws' : va_W} {H H1 : Heap} (hP : va_P D cl ws H) (hD : va_D A0 ws) (isC : List Nat) (hC : isC.map (fun i => ws[i]?) = wc.map some) (hw : vz_patch ws isC w1 = ws')
    (hk : ∀ q : Nat, q < H.size → ¬ va_A wc H.size q → H1[q]? = H[q]?) (hP1 : va_P D cl w1 H1) (hl : isC.length = w1.length := by rfl) : va_P D cl ws' H1 := by
  subst hw
  refine vz_patch_at isC ws w1 hl (fun k q hq hn => ?_) hP1
  have hlt := (hP k q hq).lt
  refine (hP k q hq).kept (hk q.1 hlt (fun h => ?_))
  rcases h with ⟨k2, e, h⟩ | h
  · have h1 : (isC.map (fun i => ws[i]?))[k2]? = some (some (q.1, e)) := by rw [hC, List.getElem?_map, h]; rfl
    rw [List.getElem?_map] at h1
    cases hi : isC[k2]? with
    | none => rw [hi] at h1; cases h1
    | some i =>
      rw [hi] at h1
      have h2 : ws[i]? = some (q.1, e) := Option.some.inj h1
      have e3 := hD.1 k i q (q.1, e) hq h2 rfl
      subst e3
      exact hn (List.mem_of_getElem? hi)
  · omega
/-- the addresses alone say that cells are apart -/
theorem vz_same {A : Nat → Prop} {ws ws' : va_W} (hD : va_D A ws) (h : ws'.map Prod.fst = ws.map Prod.fst) : va_D A ws' := by
  have key : ∀ (k : Nat) (q : Nat × va_E), ws'[k]? = some q → ∃ q0, ws[k]? = some q0 ∧ q0.1 = q.1 := by
    intro k q hk
    have h1 : (ws'.map Prod.fst)[k]? = some q.1 := by rw [List.getElem?_map, hk]; rfl
    rw [h, List.getElem?_map] at h1
    cases hi : ws[k]? with
    | none => rw [hi] at h1; cases h1
    | some q0 => rw [hi] at h1; exact ⟨q0, rfl, Option.some.inj h1⟩
  refine ⟨fun i j x y hi hj hxy => ?_, fun k q hk => ?_⟩
  · obtain ⟨x0, h1, h2⟩ := key i x hi
    obtain ⟨y0, h3, h4⟩ := key j y hj
    exact hD.1 i j x0 y0 h1 h3 (h2.trans (hxy.trans h4.symm))
  · obtain ⟨q0, h1, h2⟩ := key k q hk
    rw [← h2]
    exact hD.2 k q0 h1
theorem vz_freeAll {A0 : Nat → Prop} {ws : va_W} {H0 H : Heap} {locs : List Loc} (hD : va_D A0 ws) (hS : va_S A0 H0 H locs) (hA : ∀ q, H0.size ≤ q → A0 q) : ∀ q, va_A ws H.size q → A0 q := by
  intro q h
  rcases h with ⟨k, e, h⟩ | h
  · exact hD.2 k (q, e) h
  · exact hA q (Nat.le_trans hS.1 h)
theorem vz_in {ws big : List Cond} {i n : Nat} (h : (big.drop i).take n = ws) : ∀ w ∈ ws, w ∈ big := fun w hw => List.mem_of_mem_drop (List.mem_of_mem_take (by rw [h]; exact hw))
theorem vz_inc (a : Nat) : nI a + Int32.ofInt 1 = nI (a + 1) := nI_1 a
theorem vz_inc4 (a : Nat) : nI a + Int32.ofInt 4 = nI (a + 4) := nI_add a 4
/-- a truth as a number -/
def vz_b (b : Bool) : Int32 := if b then 1 else 0
theorem vz_nb (b : Bool) : narrow .boolean (.int (vz_b b)) = .int (vz_b b) := by cases b <;> rfl
theorem vz_b1 {b : Bool} (h : ¬ vz_b b = 0) : b = true := by cases b; exact absurd rfl h; rfl
theorem vz_b0 {b : Bool} (h : vz_b b = 0) : b = false := by cases b; rfl; exact absurd h (by decide)
theorem vz_b01 (b : Bool) : vz_b b = 0 ∨ vz_b b = 1 := by cases b; exact Or.inl rfl; exact Or.inr rfl
theorem vz_ix (f : Nat → Int32) {j : Nat} (h : j < 2 ^ 31) : f (nI j).toNatClampNeg = f j := by rw [nI_clamp h]
theorem vz_toI {x y : Int32} {k : Int} (h : x.toInt = k) (hk : y.toInt = k) : x = y := Int32.toInt_inj.mp (h.trans hk.symm)
theorem vz_tab (x : Int32) (lo hi : Int) : (x.toInt < lo ∨ hi < x.toInt) ∨ (¬ x.toInt < lo ∧ ¬ hi < x.toInt) := by omega
theorem vz_lt {j n : Nat} (h : ¬ nI n ≤ nI j) (hj : j < 2 ^ 31) : j < n := Nat.lt_of_not_le (fun q => h (nI_le q hj))
theorem vz_ge {j n : Nat} (h : nI n ≤ nI j) (hn : n < 2 ^ 31) (hj : j < 2 ^ 31) : n ≤ j := (nI_leI hn hj).mp h
end

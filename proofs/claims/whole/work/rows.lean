section
-- ===== PART A: goes FIRST, ahead of the names: the tables' words, and 'selects' of the private methods out of them =====
/-- a private method of a class that the tables say can be made, by its rows of tables_1 -/
def lw_okq (q : MethodName × Nat) : Prop := (q.1.cls ≠ "java/lang/invoke/MethodHandle" ∧ q.1.cls ≠ "java/lang/invoke/VarHandle") ∧ Cond.instantiable q.1.cls q.2 ∈ tables_1 ∧ Cond.privateMethod q.1 ∈ tables_1 ∧ Cond.instanceMethod q.1 ∈ tables_1
theorem lw_p0 : lw_okq (⟨"CupDraws$Bracket", "setOdds", "(IIJ)V"⟩, 4) := ⟨⟨by decide +kernel, by decide +kernel⟩, List.mem_of_getElem? (i := 44) (by decide +kernel), List.mem_of_getElem? (i := 201) (by decide +kernel), List.mem_of_getElem? (i := 202) (by decide +kernel)⟩
theorem lw_p1 : lw_okq (⟨"CupDraws$Bracket", "weighMatch", "(IIILCupDraws$Roster;)V"⟩, 4) := ⟨⟨by decide +kernel, by decide +kernel⟩, List.mem_of_getElem? (i := 44) (by decide +kernel), List.mem_of_getElem? (i := 209) (by decide +kernel), List.mem_of_getElem? (i := 210) (by decide +kernel)⟩
theorem lw_p2 : lw_okq (⟨"CupDraws$Bracket", "oddsAgainst", "(IIIILCupDraws$Roster;)J"⟩, 4) := ⟨⟨by decide +kernel, by decide +kernel⟩, List.mem_of_getElem? (i := 44) (by decide +kernel), List.mem_of_getElem? (i := 222) (by decide +kernel), List.mem_of_getElem? (i := 223) (by decide +kernel)⟩
theorem lw_p3 : lw_okq (⟨"CupDraws$Bracket", "firstMatch", "(I)I"⟩, 4) := ⟨⟨by decide +kernel, by decide +kernel⟩, List.mem_of_getElem? (i := 44) (by decide +kernel), List.mem_of_getElem? (i := 248) (by decide +kernel), List.mem_of_getElem? (i := 249) (by decide +kernel)⟩
theorem lw_p4 : lw_okq (⟨"CupDraws$Bracket", "firstPlace", "(II)I"⟩, 4) := ⟨⟨by decide +kernel, by decide +kernel⟩, List.mem_of_getElem? (i := 44) (by decide +kernel), List.mem_of_getElem? (i := 252) (by decide +kernel), List.mem_of_getElem? (i := 253) (by decide +kernel)⟩
theorem lw_p5 : lw_okq (⟨"CupDraws$Bracket", "isSettled", "(I)Z"⟩, 4) := ⟨⟨by decide +kernel, by decide +kernel⟩, List.mem_of_getElem? (i := 44) (by decide +kernel), List.mem_of_getElem? (i := 256) (by decide +kernel), List.mem_of_getElem? (i := 257) (by decide +kernel)⟩
theorem lw_p6 : lw_okq (⟨"CupDraws", "makeList", "()V"⟩, 6) := ⟨⟨by decide +kernel, by decide +kernel⟩, List.mem_of_getElem? (i := 10) (by decide +kernel), List.mem_of_getElem? (i := 330) (by decide +kernel), List.mem_of_getElem? (i := 331) (by decide +kernel)⟩
theorem lw_p7 : lw_okq (⟨"CupDraws$DrawList", "keepRow", "()V"⟩, 4) := ⟨⟨by decide +kernel, by decide +kernel⟩, List.mem_of_getElem? (i := 79) (by decide +kernel), List.mem_of_getElem? (i := 342) (by decide +kernel), List.mem_of_getElem? (i := 343) (by decide +kernel)⟩
theorem lw_p8 : lw_okq (⟨"CupDraws$DrawList", "keepsOrder", "(II)Z"⟩, 4) := ⟨⟨by decide +kernel, by decide +kernel⟩, List.mem_of_getElem? (i := 79) (by decide +kernel), List.mem_of_getElem? (i := 349) (by decide +kernel), List.mem_of_getElem? (i := 350) (by decide +kernel)⟩
theorem lw_p9 : lw_okq (⟨"CupDraws$DrawList", "keepsApart", "(LCupDraws$Roster;II)Z"⟩, 4) := ⟨⟨by decide +kernel, by decide +kernel⟩, List.mem_of_getElem? (i := 79) (by decide +kernel), List.mem_of_getElem? (i := 353) (by decide +kernel), List.mem_of_getElem? (i := 354) (by decide +kernel)⟩
theorem lw_p10 : lw_okq (⟨"CupDraws$DrawList", "orderRowOf", "(LCupDraws$Bracket;)V"⟩, 4) := ⟨⟨by decide +kernel, by decide +kernel⟩, List.mem_of_getElem? (i := 79) (by decide +kernel), List.mem_of_getElem? (i := 397) (by decide +kernel), List.mem_of_getElem? (i := 398) (by decide +kernel)⟩
theorem lw_p11 : lw_okq (⟨"CupDraws$DrawList", "exchange", "(II)V"⟩, 4) := ⟨⟨by decide +kernel, by decide +kernel⟩, List.mem_of_getElem? (i := 79) (by decide +kernel), List.mem_of_getElem? (i := 402) (by decide +kernel), List.mem_of_getElem? (i := 403) (by decide +kernel)⟩
theorem lw_p12 : lw_okq (⟨"CupDraws$DrawList", "isRow", "(I)Z"⟩, 4) := ⟨⟨by decide +kernel, by decide +kernel⟩, List.mem_of_getElem? (i := 79) (by decide +kernel), List.mem_of_getElem? (i := 406) (by decide +kernel), List.mem_of_getElem? (i := 407) (by decide +kernel)⟩
theorem lw_p13 : lw_okq (⟨"CupDraws", "weighList", "()V"⟩, 6) := ⟨⟨by decide +kernel, by decide +kernel⟩, List.mem_of_getElem? (i := 10) (by decide +kernel), List.mem_of_getElem? (i := 414) (by decide +kernel), List.mem_of_getElem? (i := 415) (by decide +kernel)⟩
theorem lw_p14 : lw_okq (⟨"CupDraws$DrawList", "setOdds", "(IIJ)V"⟩, 4) := ⟨⟨by decide +kernel, by decide +kernel⟩, List.mem_of_getElem? (i := 79) (by decide +kernel), List.mem_of_getElem? (i := 426) (by decide +kernel), List.mem_of_getElem? (i := 427) (by decide +kernel)⟩
theorem lw_p15 : lw_okq (⟨"CupDrawsModel", "begin", "()V"⟩, 19) := ⟨⟨by decide +kernel, by decide +kernel⟩, List.mem_of_getElem? (i := 460) (by decide +kernel), List.mem_of_getElem? (i := 466) (by decide +kernel), List.mem_of_getElem? (i := 467) (by decide +kernel)⟩
def lw_privs_1 : List (MethodName × Nat) := [(⟨"CupDraws$Bracket", "setOdds", "(IIJ)V"⟩, 4), (⟨"CupDraws$Bracket", "weighMatch", "(IIILCupDraws$Roster;)V"⟩, 4), (⟨"CupDraws$Bracket", "oddsAgainst", "(IIIILCupDraws$Roster;)J"⟩, 4), (⟨"CupDraws$Bracket", "firstMatch", "(I)I"⟩, 4), (⟨"CupDraws$Bracket", "firstPlace", "(II)I"⟩, 4), (⟨"CupDraws$Bracket", "isSettled", "(I)Z"⟩, 4), (⟨"CupDraws", "makeList", "()V"⟩, 6), (⟨"CupDraws$DrawList", "keepRow", "()V"⟩, 4), (⟨"CupDraws$DrawList", "keepsOrder", "(II)Z"⟩, 4), (⟨"CupDraws$DrawList", "keepsApart", "(LCupDraws$Roster;II)Z"⟩, 4), (⟨"CupDraws$DrawList", "orderRowOf", "(LCupDraws$Bracket;)V"⟩, 4), (⟨"CupDraws$DrawList", "exchange", "(II)V"⟩, 4), (⟨"CupDraws$DrawList", "isRow", "(I)Z"⟩, 4), (⟨"CupDraws", "weighList", "()V"⟩, 6), (⟨"CupDraws$DrawList", "setOdds", "(IIJ)V"⟩, 4), (⟨"CupDrawsModel", "begin", "()V"⟩, 19)]
theorem lw_r1 : ∀ q ∈ lw_privs_1, lw_okq q := List.forall_mem_cons.mpr ⟨lw_p0, List.forall_mem_cons.mpr ⟨lw_p1, List.forall_mem_cons.mpr ⟨lw_p2, List.forall_mem_cons.mpr ⟨lw_p3, List.forall_mem_cons.mpr ⟨lw_p4, List.forall_mem_cons.mpr ⟨lw_p5, List.forall_mem_cons.mpr ⟨lw_p6, List.forall_mem_cons.mpr ⟨lw_p7, List.forall_mem_cons.mpr ⟨lw_p8, List.forall_mem_cons.mpr ⟨lw_p9, List.forall_mem_cons.mpr ⟨lw_p10, List.forall_mem_cons.mpr ⟨lw_p11, List.forall_mem_cons.mpr ⟨lw_p12, List.forall_mem_cons.mpr ⟨lw_p13, List.forall_mem_cons.mpr ⟨lw_p14, List.forall_mem_cons.mpr ⟨lw_p15, fun _ h => absurd h List.not_mem_nil⟩⟩⟩⟩⟩⟩⟩⟩⟩⟩⟩⟩⟩⟩⟩⟩
theorem lw_p16 : lw_okq (⟨"CupDrawsModel", "sweep", "()V"⟩, 19) := ⟨⟨by decide +kernel, by decide +kernel⟩, List.mem_of_getElem? (i := 460) (by decide +kernel), List.mem_of_getElem? (i := 470) (by decide +kernel), List.mem_of_getElem? (i := 471) (by decide +kernel)⟩
theorem lw_p17 : lw_okq (⟨"CupDrawsModel", "undecide", "()V"⟩, 19) := ⟨⟨by decide +kernel, by decide +kernel⟩, List.mem_of_getElem? (i := 460) (by decide +kernel), List.mem_of_getElem? (i := 474) (by decide +kernel), List.mem_of_getElem? (i := 475) (by decide +kernel)⟩
theorem lw_p18 : lw_okq (⟨"CupDrawsModel", "isPlayer", "(I)Z"⟩, 19) := ⟨⟨by decide +kernel, by decide +kernel⟩, List.mem_of_getElem? (i := 460) (by decide +kernel), List.mem_of_getElem? (i := 549) (by decide +kernel), List.mem_of_getElem? (i := 550) (by decide +kernel)⟩
theorem lw_p19 : lw_okq (⟨"CupDrawsModel", "isPlace", "(I)Z"⟩, 19) := ⟨⟨by decide +kernel, by decide +kernel⟩, List.mem_of_getElem? (i := 460) (by decide +kernel), List.mem_of_getElem? (i := 567) (by decide +kernel), List.mem_of_getElem? (i := 568) (by decide +kernel)⟩
theorem lw_p20 : lw_okq (⟨"CupDrawsModel", "placeOf", "(I)I"⟩, 19) := ⟨⟨by decide +kernel, by decide +kernel⟩, List.mem_of_getElem? (i := 460) (by decide +kernel), List.mem_of_getElem? (i := 571) (by decide +kernel), List.mem_of_getElem? (i := 572) (by decide +kernel)⟩
theorem lw_p21 : lw_okq (⟨"CupDrawsModel", "isMatch", "(I)Z"⟩, 19) := ⟨⟨by decide +kernel, by decide +kernel⟩, List.mem_of_getElem? (i := 460) (by decide +kernel), List.mem_of_getElem? (i := 583) (by decide +kernel), List.mem_of_getElem? (i := 584) (by decide +kernel)⟩
theorem lw_p22 : lw_okq (⟨"CupDrawsModel", "spread", "()V"⟩, 19) := ⟨⟨by decide +kernel, by decide +kernel⟩, List.mem_of_getElem? (i := 460) (by decide +kernel), List.mem_of_getElem? (i := 587) (by decide +kernel), List.mem_of_getElem? (i := 588) (by decide +kernel)⟩
theorem lw_p23 : lw_okq (⟨"CupDrawsModel", "roundOf", "(I)I"⟩, 19) := ⟨⟨by decide +kernel, by decide +kernel⟩, List.mem_of_getElem? (i := 460) (by decide +kernel), List.mem_of_getElem? (i := 591) (by decide +kernel), List.mem_of_getElem? (i := 592) (by decide +kernel)⟩
theorem lw_p24 : lw_okq (⟨"CupDrawsModel", "rounds", "()I"⟩, 19) := ⟨⟨by decide +kernel, by decide +kernel⟩, List.mem_of_getElem? (i := 460) (by decide +kernel), List.mem_of_getElem? (i := 595) (by decide +kernel), List.mem_of_getElem? (i := 596) (by decide +kernel)⟩
theorem lw_p25 : lw_okq (⟨"CupDrawsModel", "startOf", "(I)I"⟩, 19) := ⟨⟨by decide +kernel, by decide +kernel⟩, List.mem_of_getElem? (i := 460) (by decide +kernel), List.mem_of_getElem? (i := 599) (by decide +kernel), List.mem_of_getElem? (i := 600) (by decide +kernel)⟩
theorem lw_p26 : lw_okq (⟨"CupDrawsModel", "bit", "(I)I"⟩, 19) := ⟨⟨by decide +kernel, by decide +kernel⟩, List.mem_of_getElem? (i := 460) (by decide +kernel), List.mem_of_getElem? (i := 603) (by decide +kernel), List.mem_of_getElem? (i := 604) (by decide +kernel)⟩
theorem lw_p27 : lw_okq (⟨"CupDrawsModel", "beaters", "(II)I"⟩, 19) := ⟨⟨by decide +kernel, by decide +kernel⟩, List.mem_of_getElem? (i := 460) (by decide +kernel), List.mem_of_getElem? (i := 607) (by decide +kernel), List.mem_of_getElem? (i := 608) (by decide +kernel)⟩
theorem lw_p28 : lw_okq (⟨"CupDrawsModel", "isSettled", "(I)Z"⟩, 19) := ⟨⟨by decide +kernel, by decide +kernel⟩, List.mem_of_getElem? (i := 460) (by decide +kernel), List.mem_of_getElem? (i := 611) (by decide +kernel), List.mem_of_getElem? (i := 612) (by decide +kernel)⟩
theorem lw_p29 : lw_okq (⟨"CupDrawsModel", "sort", "(I)I"⟩, 19) := ⟨⟨by decide +kernel, by decide +kernel⟩, List.mem_of_getElem? (i := 460) (by decide +kernel), List.mem_of_getElem? (i := 615) (by decide +kernel), List.mem_of_getElem? (i := 616) (by decide +kernel)⟩
theorem lw_p30 : lw_okq (⟨"CupDrawsModel", "decided", "()I"⟩, 19) := ⟨⟨by decide +kernel, by decide +kernel⟩, List.mem_of_getElem? (i := 460) (by decide +kernel), List.mem_of_getElem? (i := 622) (by decide +kernel), List.mem_of_getElem? (i := 623) (by decide +kernel)⟩
theorem lw_p31 : lw_okq (⟨"CupDrawsModel", "layPlaces", "()V"⟩, 19) := ⟨⟨by decide +kernel, by decide +kernel⟩, List.mem_of_getElem? (i := 460) (by decide +kernel), List.mem_of_getElem? (i := 643) (by decide +kernel), List.mem_of_getElem? (i := 644) (by decide +kernel)⟩
def lw_privs_2 : List (MethodName × Nat) := [(⟨"CupDrawsModel", "sweep", "()V"⟩, 19), (⟨"CupDrawsModel", "undecide", "()V"⟩, 19), (⟨"CupDrawsModel", "isPlayer", "(I)Z"⟩, 19), (⟨"CupDrawsModel", "isPlace", "(I)Z"⟩, 19), (⟨"CupDrawsModel", "placeOf", "(I)I"⟩, 19), (⟨"CupDrawsModel", "isMatch", "(I)Z"⟩, 19), (⟨"CupDrawsModel", "spread", "()V"⟩, 19), (⟨"CupDrawsModel", "roundOf", "(I)I"⟩, 19), (⟨"CupDrawsModel", "rounds", "()I"⟩, 19), (⟨"CupDrawsModel", "startOf", "(I)I"⟩, 19), (⟨"CupDrawsModel", "bit", "(I)I"⟩, 19), (⟨"CupDrawsModel", "beaters", "(II)I"⟩, 19), (⟨"CupDrawsModel", "isSettled", "(I)Z"⟩, 19), (⟨"CupDrawsModel", "sort", "(I)I"⟩, 19), (⟨"CupDrawsModel", "decided", "()I"⟩, 19), (⟨"CupDrawsModel", "layPlaces", "()V"⟩, 19)]
theorem lw_r2 : ∀ q ∈ lw_privs_2, lw_okq q := List.forall_mem_cons.mpr ⟨lw_p16, List.forall_mem_cons.mpr ⟨lw_p17, List.forall_mem_cons.mpr ⟨lw_p18, List.forall_mem_cons.mpr ⟨lw_p19, List.forall_mem_cons.mpr ⟨lw_p20, List.forall_mem_cons.mpr ⟨lw_p21, List.forall_mem_cons.mpr ⟨lw_p22, List.forall_mem_cons.mpr ⟨lw_p23, List.forall_mem_cons.mpr ⟨lw_p24, List.forall_mem_cons.mpr ⟨lw_p25, List.forall_mem_cons.mpr ⟨lw_p26, List.forall_mem_cons.mpr ⟨lw_p27, List.forall_mem_cons.mpr ⟨lw_p28, List.forall_mem_cons.mpr ⟨lw_p29, List.forall_mem_cons.mpr ⟨lw_p30, List.forall_mem_cons.mpr ⟨lw_p31, fun _ h => absurd h List.not_mem_nil⟩⟩⟩⟩⟩⟩⟩⟩⟩⟩⟩⟩⟩⟩⟩⟩
theorem lw_p32 : lw_okq (⟨"CupDrawsModel", "work", "(Z)V"⟩, 19) := ⟨⟨by decide +kernel, by decide +kernel⟩, List.mem_of_getElem? (i := 460) (by decide +kernel), List.mem_of_getElem? (i := 647) (by decide +kernel), List.mem_of_getElem? (i := 648) (by decide +kernel)⟩
theorem lw_p33 : lw_okq (⟨"CupDrawsModel", "sides", "(I)V"⟩, 19) := ⟨⟨by decide +kernel, by decide +kernel⟩, List.mem_of_getElem? (i := 460) (by decide +kernel), List.mem_of_getElem? (i := 651) (by decide +kernel), List.mem_of_getElem? (i := 652) (by decide +kernel)⟩
theorem lw_p34 : lw_okq (⟨"CupDrawsModel", "above", "(II)I"⟩, 19) := ⟨⟨by decide +kernel, by decide +kernel⟩, List.mem_of_getElem? (i := 460) (by decide +kernel), List.mem_of_getElem? (i := 658) (by decide +kernel), List.mem_of_getElem? (i := 659) (by decide +kernel)⟩
theorem lw_p35 : lw_okq (⟨"CupDrawsModel", "list", "()V"⟩, 19) := ⟨⟨by decide +kernel, by decide +kernel⟩, List.mem_of_getElem? (i := 460) (by decide +kernel), List.mem_of_getElem? (i := 678) (by decide +kernel), List.mem_of_getElem? (i := 679) (by decide +kernel)⟩
theorem lw_p36 : lw_okq (⟨"CupDrawsModel", "fits", "(I)Z"⟩, 19) := ⟨⟨by decide +kernel, by decide +kernel⟩, List.mem_of_getElem? (i := 460) (by decide +kernel), List.mem_of_getElem? (i := 682) (by decide +kernel), List.mem_of_getElem? (i := 683) (by decide +kernel)⟩
theorem lw_p37 : lw_okq (⟨"CupDrawsModel", "halvesFit", "(I)Z"⟩, 19) := ⟨⟨by decide +kernel, by decide +kernel⟩, List.mem_of_getElem? (i := 460) (by decide +kernel), List.mem_of_getElem? (i := 686) (by decide +kernel), List.mem_of_getElem? (i := 687) (by decide +kernel)⟩
theorem lw_p38 : lw_okq (⟨"CupDrawsModel", "isBehind", "(II)Z"⟩, 19) := ⟨⟨by decide +kernel, by decide +kernel⟩, List.mem_of_getElem? (i := 460) (by decide +kernel), List.mem_of_getElem? (i := 690) (by decide +kernel), List.mem_of_getElem? (i := 691) (by decide +kernel)⟩
theorem lw_p39 : lw_okq (⟨"CupDrawsModel", "keep", "()V"⟩, 19) := ⟨⟨by decide +kernel, by decide +kernel⟩, List.mem_of_getElem? (i := 460) (by decide +kernel), List.mem_of_getElem? (i := 694) (by decide +kernel), List.mem_of_getElem? (i := 695) (by decide +kernel)⟩
theorem lw_p40 : lw_okq (⟨"CupDrawsModel", "isDraw", "(I)Z"⟩, 19) := ⟨⟨by decide +kernel, by decide +kernel⟩, List.mem_of_getElem? (i := 460) (by decide +kernel), List.mem_of_getElem? (i := 702) (by decide +kernel), List.mem_of_getElem? (i := 703) (by decide +kernel)⟩
theorem lw_p41 : lw_okq (⟨"CupDrawsModel", "winsOf", "(II)J"⟩, 19) := ⟨⟨by decide +kernel, by decide +kernel⟩, List.mem_of_getElem? (i := 460) (by decide +kernel), List.mem_of_getElem? (i := 718) (by decide +kernel), List.mem_of_getElem? (i := 719) (by decide +kernel)⟩
def lw_privs_3 : List (MethodName × Nat) := [(⟨"CupDrawsModel", "work", "(Z)V"⟩, 19), (⟨"CupDrawsModel", "sides", "(I)V"⟩, 19), (⟨"CupDrawsModel", "above", "(II)I"⟩, 19), (⟨"CupDrawsModel", "list", "()V"⟩, 19), (⟨"CupDrawsModel", "fits", "(I)Z"⟩, 19), (⟨"CupDrawsModel", "halvesFit", "(I)Z"⟩, 19), (⟨"CupDrawsModel", "isBehind", "(II)Z"⟩, 19), (⟨"CupDrawsModel", "keep", "()V"⟩, 19), (⟨"CupDrawsModel", "isDraw", "(I)Z"⟩, 19), (⟨"CupDrawsModel", "winsOf", "(II)J"⟩, 19)]
theorem lw_r3 : ∀ q ∈ lw_privs_3, lw_okq q := List.forall_mem_cons.mpr ⟨lw_p32, List.forall_mem_cons.mpr ⟨lw_p33, List.forall_mem_cons.mpr ⟨lw_p34, List.forall_mem_cons.mpr ⟨lw_p35, List.forall_mem_cons.mpr ⟨lw_p36, List.forall_mem_cons.mpr ⟨lw_p37, List.forall_mem_cons.mpr ⟨lw_p38, List.forall_mem_cons.mpr ⟨lw_p39, List.forall_mem_cons.mpr ⟨lw_p40, List.forall_mem_cons.mpr ⟨lw_p41, fun _ h => absurd h List.not_mem_nil⟩⟩⟩⟩⟩⟩⟩⟩⟩⟩
def lw_privs : List (MethodName × Nat) := lw_privs_1 ++ (lw_privs_2 ++ (lw_privs_3))
def lw_tbl : List Cond := k2_sels lw_privs ++ tables_1
theorem lw_privs_ok : ∀ q ∈ lw_privs, lw_okq q := by
  show ∀ q ∈ lw_privs_1 ++ (lw_privs_2 ++ (lw_privs_3)), lw_okq q
  exact List.forall_mem_append.mpr ⟨lw_r1, List.forall_mem_append.mpr ⟨lw_r2, lw_r3⟩⟩
end
section
/-! names, and what the tables say of each link: written by wip/whole/gen.py -/
def RX0 : String := "CupDraws$Bracket"
def TX0 : u_T := fun k => match k with
  | 0 => ("CupDraws$Bracket", "size", "I", false)
  | 1 => ("CupDraws$Bracket", "places", "[I", true)
  | 2 => ("CupDraws$Bracket", "winners", "[I", true)
  | _ => ("CupDraws$Bracket", "odds", "[J", true)
def tyX0 : Nat → FieldType := fun k => match k with
  | 0 => .int
  | 1 => .array .int
  | 2 => .array .int
  | _ => .array .long
abbrev wsX00 : List Cond := u_ws RX0 TX0 4
theorem nmX0 : ∀ a, a < 4 → ∀ b, b < 4 → a ≠ b → (TX0 a).2.1 ≠ (TX0 b).2.1 := by decide +kernel
theorem tyX0_ok : ∀ k, k < 4 → parseFieldDescriptor (TX0 k).2.2.1 = some (tyX0 k) := by decide +kernel
abbrev cX0_init : ByteArray := prog_2_method_1_code
def yX0_init : MethodName := ⟨RX0, "<init>", "()V"⟩
abbrev cX0_resize : ByteArray := prog_2_method_2_code
def yX0_resize : MethodName := ⟨RX0, "resize", "(I)V"⟩
abbrev cX0_clear : ByteArray := prog_2_method_3_code
def yX0_clear : MethodName := ⟨RX0, "clear", "()V"⟩
abbrev cX0_openAll : ByteArray := prog_2_method_4_code
def yX0_openAll : MethodName := ⟨RX0, "openAll", "()V"⟩
abbrev cX0_openUpwards : ByteArray := prog_2_method_5_code
def yX0_openUpwards : MethodName := ⟨RX0, "openUpwards", "(I)V"⟩
abbrev cX0_hasPlace : ByteArray := prog_2_method_6_code
def yX0_hasPlace : MethodName := ⟨RX0, "hasPlace", "(I)Z"⟩
abbrev cX0_hasMatch : ByteArray := prog_2_method_7_code
def yX0_hasMatch : MethodName := ⟨RX0, "hasMatch", "(I)Z"⟩
abbrev cX0_lastRound : ByteArray := prog_2_method_8_code
def yX0_lastRound : MethodName := ⟨RX0, "lastRound", "()I"⟩
abbrev cX0_playerAt : ByteArray := prog_2_method_9_code
def yX0_playerAt : MethodName := ⟨RX0, "playerAt", "(I)I"⟩
abbrev cX0_setPlace : ByteArray := prog_2_method_10_code
def yX0_setPlace : MethodName := ⟨RX0, "setPlace", "(II)V"⟩
abbrev cX0_winnerOf : ByteArray := prog_2_method_11_code
def yX0_winnerOf : MethodName := ⟨RX0, "winnerOf", "(I)I"⟩
abbrev cX0_setWinner : ByteArray := prog_2_method_12_code
def yX0_setWinner : MethodName := ⟨RX0, "setWinner", "(II)V"⟩
abbrev cX0_placeOf : ByteArray := prog_2_method_13_code
def yX0_placeOf : MethodName := ⟨RX0, "placeOf", "(I)I"⟩
abbrev cX0_playersIn : ByteArray := prog_2_method_14_code
def yX0_playersIn : MethodName := ⟨RX0, "playersIn", "(II)I"⟩
abbrev cX0_decidedMatches : ByteArray := prog_2_method_15_code
def yX0_decidedMatches : MethodName := ⟨RX0, "decidedMatches", "()I"⟩
abbrev cX0_roundOf : ByteArray := prog_2_method_16_code
def yX0_roundOf : MethodName := ⟨RX0, "roundOf", "(I)I"⟩
abbrev cX0_kindOf : ByteArray := prog_2_method_17_code
def yX0_kindOf : MethodName := ⟨RX0, "kindOf", "(I)I"⟩
abbrev cX0_mayBeDecided : ByteArray := prog_2_method_18_code
def yX0_mayBeDecided : MethodName := ⟨RX0, "mayBeDecided", "(I)Z"⟩
abbrev cX0_canCome : ByteArray := prog_2_method_19_code
def yX0_canCome : MethodName := ⟨RX0, "canCome", "(II)Z"⟩
abbrev cX0_comers : ByteArray := prog_2_method_20_code
def yX0_comers : MethodName := ⟨RX0, "comers", "(I)I"⟩
abbrev cX0_possibleWinners : ByteArray := prog_2_method_21_code
def yX0_possibleWinners : MethodName := ⟨RX0, "possibleWinners", "()I"⟩
abbrev cX0_oddsOf : ByteArray := prog_2_method_22_code
def yX0_oddsOf : MethodName := ⟨RX0, "oddsOf", "(II)J"⟩
abbrev cX0_weigh : ByteArray := prog_2_method_23_code
def yX0_weigh : MethodName := ⟨RX0, "weigh", "(LCupDraws$Roster;)V"⟩
abbrev cX0_weighMatch : ByteArray := prog_2_method_24_code
def yX0_weighMatch : MethodName := ⟨RX0, "weighMatch", "(IIILCupDraws$Roster;)V"⟩
abbrev cX0_oddsAgainst : ByteArray := prog_2_method_25_code
def yX0_oddsAgainst : MethodName := ⟨RX0, "oddsAgainst", "(IIIILCupDraws$Roster;)J"⟩
abbrev cX0_setOdds : ByteArray := prog_2_method_26_code
def yX0_setOdds : MethodName := ⟨RX0, "setOdds", "(IIJ)V"⟩
abbrev cX0_isSettled : ByteArray := prog_2_method_27_code
def yX0_isSettled : MethodName := ⟨RX0, "isSettled", "(I)Z"⟩
abbrev cX0_firstMatch : ByteArray := prog_2_method_28_code
def yX0_firstMatch : MethodName := ⟨RX0, "firstMatch", "(I)I"⟩
abbrev cX0_firstPlace : ByteArray := prog_2_method_29_code
def yX0_firstPlace : MethodName := ⟨RX0, "firstPlace", "(II)I"⟩
def RX1 : String := "CupDraws$DrawList"
def TX1 : u_T := fun k => match k with
  | 0 => ("CupDraws$DrawList", "number", "I", false)
  | 1 => ("CupDraws$DrawList", "row", "[I", true)
  | 2 => ("CupDraws$DrawList", "rows", "[I", true)
  | _ => ("CupDraws$DrawList", "odds", "[J", true)
def tyX1 : Nat → FieldType := fun k => match k with
  | 0 => .int
  | 1 => .array .int
  | 2 => .array .int
  | _ => .array .long
abbrev wsX10 : List Cond := u_ws RX1 TX1 4
theorem nmX1 : ∀ a, a < 4 → ∀ b, b < 4 → a ≠ b → (TX1 a).2.1 ≠ (TX1 b).2.1 := by decide +kernel
theorem tyX1_ok : ∀ k, k < 4 → parseFieldDescriptor (TX1 k).2.2.1 = some (tyX1 k) := by decide +kernel
abbrev cX1_init : ByteArray := prog_3_method_1_code
def yX1_init : MethodName := ⟨RX1, "<init>", "()V"⟩
abbrev cX1_has : ByteArray := prog_3_method_2_code
def yX1_has : MethodName := ⟨RX1, "has", "(I)Z"⟩
abbrev cX1_playerAt : ByteArray := prog_3_method_3_code
def yX1_playerAt : MethodName := ⟨RX1, "playerAt", "(II)I"⟩
abbrev cX1_placeOf : ByteArray := prog_3_method_4_code
def yX1_placeOf : MethodName := ⟨RX1, "placeOf", "(II)I"⟩
abbrev cX1_oddsOf : ByteArray := prog_3_method_5_code
def yX1_oddsOf : MethodName := ⟨RX1, "oddsOf", "(II)J"⟩
abbrev cX1_make : ByteArray := prog_3_method_6_code
def yX1_make : MethodName := ⟨RX1, "make", "(LCupDraws$Roster;I)V"⟩
abbrev cX1_fill : ByteArray := prog_3_method_7_code
def yX1_fill : MethodName := ⟨RX1, "fill", "(LCupDraws$DrawList;LCupDraws$Roster;III)V"⟩
abbrev cX1_keepRow : ByteArray := prog_3_method_8_code
def yX1_keepRow : MethodName := ⟨RX1, "keepRow", "()V"⟩
abbrev cX1_keepsOrder : ByteArray := prog_3_method_9_code
def yX1_keepsOrder : MethodName := ⟨RX1, "keepsOrder", "(II)Z"⟩
abbrev cX1_keepsApart : ByteArray := prog_3_method_10_code
def yX1_keepsApart : MethodName := ⟨RX1, "keepsApart", "(LCupDraws$Roster;II)Z"⟩
abbrev cX1_layInto : ByteArray := prog_3_method_11_code
def yX1_layInto : MethodName := ⟨RX1, "layInto", "(LCupDraws$Bracket;I)V"⟩
abbrev cX1_weigh : ByteArray := prog_3_method_12_code
def yX1_weigh : MethodName := ⟨RX1, "weigh", "(LCupDraws$Bracket;LCupDraws$Roster;)V"⟩
abbrev cX1_setOdds : ByteArray := prog_3_method_13_code
def yX1_setOdds : MethodName := ⟨RX1, "setOdds", "(IIJ)V"⟩
abbrev cX1_numberOfLike : ByteArray := prog_3_method_14_code
def yX1_numberOfLike : MethodName := ⟨RX1, "numberOfLike", "(LCupDraws$Bracket;)I"⟩
abbrev cX1_orderRowOf : ByteArray := prog_3_method_15_code
def yX1_orderRowOf : MethodName := ⟨RX1, "orderRowOf", "(LCupDraws$Bracket;)V"⟩
abbrev cX1_exchange : ByteArray := prog_3_method_16_code
def yX1_exchange : MethodName := ⟨RX1, "exchange", "(II)V"⟩
abbrev cX1_isRow : ByteArray := prog_3_method_17_code
def yX1_isRow : MethodName := ⟨RX1, "isRow", "(I)Z"⟩
def RX2 : String := "CupDraws$Roster"
def TX2 : u_T := fun k => match k with
  | 0 => ("CupDraws$Roster", "number", "I", false)
  | 1 => ("CupDraws$Roster", "chances", "[I", true)
  | _ => ("CupDraws$Roster", "rounds", "[I", true)
def tyX2 : Nat → FieldType := fun k => match k with
  | 0 => .int
  | 1 => .array .int
  | _ => .array .int
abbrev wsX20 : List Cond := u_ws RX2 TX2 3
theorem nmX2 : ∀ a, a < 3 → ∀ b, b < 3 → a ≠ b → (TX2 a).2.1 ≠ (TX2 b).2.1 := by decide +kernel
theorem tyX2_ok : ∀ k, k < 3 → parseFieldDescriptor (TX2 k).2.2.1 = some (tyX2 k) := by decide +kernel
abbrev cX2_init : ByteArray := prog_4_method_1_code
def yX2_init : MethodName := ⟨RX2, "<init>", "()V"⟩
abbrev cX2_renew : ByteArray := prog_4_method_2_code
def yX2_renew : MethodName := ⟨RX2, "renew", "(I)V"⟩
abbrev cX2_has : ByteArray := prog_4_method_3_code
def yX2_has : MethodName := ⟨RX2, "has", "(I)Z"⟩
abbrev cX2_chanceOf : ByteArray := prog_4_method_4_code
def yX2_chanceOf : MethodName := ⟨RX2, "chanceOf", "(II)I"⟩
abbrev cX2_setChance : ByteArray := prog_4_method_5_code
def yX2_setChance : MethodName := ⟨RX2, "setChance", "(III)V"⟩
abbrev cX2_apartUntil : ByteArray := prog_4_method_6_code
def yX2_apartUntil : MethodName := ⟨RX2, "apartUntil", "(II)I"⟩
abbrev cX2_setApart : ByteArray := prog_4_method_7_code
def yX2_setApart : MethodName := ⟨RX2, "setApart", "(III)V"⟩
abbrev cX2_pairsApart : ByteArray := prog_4_method_8_code
def yX2_pairsApart : MethodName := ⟨RX2, "pairsApart", "()I"⟩
abbrev cX2_setCell : ByteArray := prog_4_method_9_code
def yX2_setCell : MethodName := ⟨RX2, "setCell", "([III)V"⟩
def RX3 : String := "CupDraws"
def TX3 : u_T := fun k => match k with
  | 0 => ("CupDraws", "roster", "LCupDraws$Roster;", true)
  | 1 => ("CupDraws", "bracket", "LCupDraws$Bracket;", true)
  | 2 => ("CupDraws", "trial", "LCupDraws$Bracket;", true)
  | 3 => ("CupDraws", "list", "LCupDraws$DrawList;", true)
  | 4 => ("CupDraws", "listed", "Z", false)
  | _ => ("CupDraws", "weighed", "Z", false)
def tyX3 : Nat → FieldType := fun k => match k with
  | 0 => .object "CupDraws$Roster"
  | 1 => .object "CupDraws$Bracket"
  | 2 => .object "CupDraws$Bracket"
  | 3 => .object "CupDraws$DrawList"
  | 4 => .boolean
  | _ => .boolean
abbrev wsX30 : List Cond := u_ws RX3 TX3 6
theorem nmX3 : ∀ a, a < 6 → ∀ b, b < 6 → a ≠ b → (TX3 a).2.1 ≠ (TX3 b).2.1 := by decide +kernel
theorem tyX3_ok : ∀ k, k < 6 → parseFieldDescriptor (TX3 k).2.2.1 = some (tyX3 k) := by decide +kernel
abbrev cX3_init : ByteArray := prog_1_method_1_code
def yX3_init : MethodName := ⟨RX3, "<init>", "()V"⟩
abbrev cX3_players : ByteArray := prog_1_method_2_code
def yX3_players : MethodName := ⟨RX3, "players", "(I)I"⟩
abbrev cX3_chance : ByteArray := prog_1_method_3_code
def yX3_chance : MethodName := ⟨RX3, "chance", "(III)I"⟩
abbrev cX3_apart : ByteArray := prog_1_method_4_code
def yX3_apart : MethodName := ⟨RX3, "apart", "(III)I"⟩
abbrev cX3_cup : ByteArray := prog_1_method_5_code
def yX3_cup : MethodName := ⟨RX3, "cup", "(I)I"⟩
abbrev cX3_put : ByteArray := prog_1_method_6_code
def yX3_put : MethodName := ⟨RX3, "put", "(II)I"⟩
abbrev cX3_at : ByteArray := prog_1_method_7_code
def yX3_at : MethodName := ⟨RX3, "at", "(I)I"⟩
abbrev cX3_won : ByteArray := prog_1_method_8_code
def yX3_won : MethodName := ⟨RX3, "won", "(II)I"⟩
abbrev cX3_open : ByteArray := prog_1_method_9_code
def yX3_open : MethodName := ⟨RX3, "open", "(I)I"⟩
abbrev cX3_match : ByteArray := prog_1_method_10_code
def yX3_match : MethodName := ⟨RX3, "match", "(II)I"⟩
abbrev cX3_reach : ByteArray := prog_1_method_11_code
def yX3_reach : MethodName := ⟨RX3, "reach", "(IIZ)J"⟩
abbrev cX3_meet : ByteArray := prog_1_method_12_code
def yX3_meet : MethodName := ⟨RX3, "meet", "(IIIZ)J"⟩
abbrev cX3_can : ByteArray := prog_1_method_13_code
def yX3_can : MethodName := ⟨RX3, "can", "(I)I"⟩
abbrev cX3_draws : ByteArray := prog_1_method_14_code
def yX3_draws : MethodName := ⟨RX3, "draws", "()I"⟩
abbrev cX3_draw : ByteArray := prog_1_method_15_code
def yX3_draw : MethodName := ⟨RX3, "draw", "(II)I"⟩
abbrev cX3_lay : ByteArray := prog_1_method_16_code
def yX3_lay : MethodName := ⟨RX3, "lay", "(I)I"⟩
abbrev cX3_like : ByteArray := prog_1_method_17_code
def yX3_like : MethodName := ⟨RX3, "like", "()I"⟩
abbrev cX3_best : ByteArray := prog_1_method_18_code
def yX3_best : MethodName := ⟨RX3, "best", "(IZ)I"⟩
abbrev cX3_wins : ByteArray := prog_1_method_19_code
def yX3_wins : MethodName := ⟨RX3, "wins", "(IIZ)J"⟩
abbrev cX3_mean : ByteArray := prog_1_method_20_code
def yX3_mean : MethodName := ⟨RX3, "mean", "(IZ)J"⟩
abbrev cX3_first : ByteArray := prog_1_method_21_code
def yX3_first : MethodName := ⟨RX3, "first", "(III)I"⟩
abbrev cX3_count : ByteArray := prog_1_method_22_code
def yX3_count : MethodName := ⟨RX3, "count", "(I)I"⟩
abbrev cX3_makeList : ByteArray := prog_1_method_23_code
def yX3_makeList : MethodName := ⟨RX3, "makeList", "()V"⟩
abbrev cX3_weighList : ByteArray := prog_1_method_24_code
def yX3_weighList : MethodName := ⟨RX3, "weighList", "()V"⟩
abbrev cX3_told : ByteArray := prog_1_method_25_code
def yX3_told : MethodName := ⟨RX3, "told", "(I)I"⟩
abbrev cX3_partsOf : ByteArray := prog_1_method_26_code
def yX3_partsOf : MethodName := ⟨RX3, "partsOf", "(I)J"⟩
abbrev cX3_meetingRound : ByteArray := prog_1_method_27_code
def yX3_meetingRound : MethodName := ⟨RX3, "meetingRound", "(II)I"⟩
abbrev cX3_fraction : ByteArray := prog_1_method_28_code
def yX3_fraction : MethodName := ⟨RX3, "fraction", "(JJZ)J"⟩
abbrev cX3_commonDivisor : ByteArray := prog_1_method_29_code
def yX3_commonDivisor : MethodName := ⟨RX3, "commonDivisor", "(JJ)J"⟩
def RX4 : String := "CupDrawsModel"
def TX4 : u_T := fun k => match k with
  | 0 => ("CupDrawsModel", "players", "I", false)
  | 1 => ("CupDrawsModel", "size", "I", false)
  | 2 => ("CupDrawsModel", "chance", "[I", true)
  | 3 => ("CupDrawsModel", "apart", "[I", true)
  | 4 => ("CupDrawsModel", "place", "[I", true)
  | 5 => ("CupDrawsModel", "winner", "[I", true)
  | 6 => ("CupDrawsModel", "left", "[I", true)
  | 7 => ("CupDrawsModel", "right", "[I", true)
  | 8 => ("CupDrawsModel", "wins", "[I", true)
  | 9 => ("CupDrawsModel", "row", "[I", true)
  | 10 => ("CupDrawsModel", "part", "[J", true)
  | 11 => ("CupDrawsModel", "whole", "[J", true)
  | 12 => ("CupDrawsModel", "one", "[J", true)
  | 13 => ("CupDrawsModel", "two", "[J", true)
  | 14 => ("CupDrawsModel", "wholeOne", "J", false)
  | 15 => ("CupDrawsModel", "wholeTwo", "J", false)
  | 16 => ("CupDrawsModel", "isListed", "Z", false)
  | 17 => ("CupDrawsModel", "draws", "I", false)
  | _ => ("CupDrawsModel", "drawn", "[I", true)
def tyX4 : Nat → FieldType := fun k => match k with
  | 0 => .int
  | 1 => .int
  | 2 => .array .int
  | 3 => .array .int
  | 4 => .array .int
  | 5 => .array .int
  | 6 => .array .int
  | 7 => .array .int
  | 8 => .array .int
  | 9 => .array .int
  | 10 => .array .long
  | 11 => .array .long
  | 12 => .array .long
  | 13 => .array .long
  | 14 => .long
  | 15 => .long
  | 16 => .boolean
  | 17 => .int
  | _ => .array .int
abbrev wsX40 : List Cond := u_ws RX4 TX4 19
theorem nmX4 : ∀ a, a < 19 → ∀ b, b < 19 → a ≠ b → (TX4 a).2.1 ≠ (TX4 b).2.1 := by decide +kernel
theorem tyX4_ok : ∀ k, k < 19 → parseFieldDescriptor (TX4 k).2.2.1 = some (tyX4 k) := by decide +kernel
abbrev cX4_init : ByteArray := prog_6_method_1_code
def yX4_init : MethodName := ⟨RX4, "<init>", "()V"⟩
abbrev cX4_in : ByteArray := prog_6_method_3_code
def yX4_in : MethodName := ⟨RX4, "in", "(JJJ)Z"⟩
abbrev cX4_isPlayer : ByteArray := prog_6_method_4_code
def yX4_isPlayer : MethodName := ⟨RX4, "isPlayer", "(I)Z"⟩
abbrev cX4_isPlace : ByteArray := prog_6_method_5_code
def yX4_isPlace : MethodName := ⟨RX4, "isPlace", "(I)Z"⟩
abbrev cX4_isMatch : ByteArray := prog_6_method_6_code
def yX4_isMatch : MethodName := ⟨RX4, "isMatch", "(I)Z"⟩
abbrev cX4_begin : ByteArray := prog_6_method_7_code
def yX4_begin : MethodName := ⟨RX4, "begin", "()V"⟩
abbrev cX4_sweep : ByteArray := prog_6_method_8_code
def yX4_sweep : MethodName := ⟨RX4, "sweep", "()V"⟩
abbrev cX4_undecide : ByteArray := prog_6_method_9_code
def yX4_undecide : MethodName := ⟨RX4, "undecide", "()V"⟩
abbrev cX4_players : ByteArray := prog_6_method_10_code
def yX4_players : MethodName := ⟨RX4, "players", "(I)I"⟩
abbrev cX4_chance : ByteArray := prog_6_method_11_code
def yX4_chance : MethodName := ⟨RX4, "chance", "(III)I"⟩
abbrev cX4_apart : ByteArray := prog_6_method_12_code
def yX4_apart : MethodName := ⟨RX4, "apart", "(III)I"⟩
abbrev cX4_rounds : ByteArray := prog_6_method_13_code
def yX4_rounds : MethodName := ⟨RX4, "rounds", "()I"⟩
abbrev cX4_startOf : ByteArray := prog_6_method_14_code
def yX4_startOf : MethodName := ⟨RX4, "startOf", "(I)I"⟩
abbrev cX4_roundOf : ByteArray := prog_6_method_15_code
def yX4_roundOf : MethodName := ⟨RX4, "roundOf", "(I)I"⟩
abbrev cX4_above : ByteArray := prog_6_method_16_code
def yX4_above : MethodName := ⟨RX4, "above", "(II)I"⟩
abbrev cX4_meetRound : ByteArray := prog_6_method_17_code
def yX4_meetRound : MethodName := ⟨RX4, "meetRound", "(II)I"⟩
abbrev cX4_cup : ByteArray := prog_6_method_18_code
def yX4_cup : MethodName := ⟨RX4, "cup", "(I)I"⟩
abbrev cX4_placeOf : ByteArray := prog_6_method_19_code
def yX4_placeOf : MethodName := ⟨RX4, "placeOf", "(I)I"⟩
abbrev cX4_put : ByteArray := prog_6_method_20_code
def yX4_put : MethodName := ⟨RX4, "put", "(II)I"⟩
abbrev cX4_at : ByteArray := prog_6_method_21_code
def yX4_at : MethodName := ⟨RX4, "at", "(I)I"⟩
abbrev cX4_bit : ByteArray := prog_6_method_22_code
def yX4_bit : MethodName := ⟨RX4, "bit", "(I)I"⟩
abbrev cX4_spread : ByteArray := prog_6_method_23_code
def yX4_spread : MethodName := ⟨RX4, "spread", "()V"⟩
abbrev cX4_beaters : ByteArray := prog_6_method_24_code
def yX4_beaters : MethodName := ⟨RX4, "beaters", "(II)I"⟩
abbrev cX4_many : ByteArray := prog_6_method_25_code
def yX4_many : MethodName := ⟨RX4, "many", "(I)I"⟩
abbrev cX4_sort : ByteArray := prog_6_method_26_code
def yX4_sort : MethodName := ⟨RX4, "sort", "(I)I"⟩
abbrev cX4_isSettled : ByteArray := prog_6_method_27_code
def yX4_isSettled : MethodName := ⟨RX4, "isSettled", "(I)Z"⟩
abbrev cX4_decided : ByteArray := prog_6_method_28_code
def yX4_decided : MethodName := ⟨RX4, "decided", "()I"⟩
abbrev cX4_won : ByteArray := prog_6_method_29_code
def yX4_won : MethodName := ⟨RX4, "won", "(II)I"⟩
abbrev cX4_open : ByteArray := prog_6_method_30_code
def yX4_open : MethodName := ⟨RX4, "open", "(I)I"⟩
abbrev cX4_match : ByteArray := prog_6_method_31_code
def yX4_match : MethodName := ⟨RX4, "match", "(II)I"⟩
abbrev cX4_sides : ByteArray := prog_6_method_32_code
def yX4_sides : MethodName := ⟨RX4, "sides", "(I)V"⟩
abbrev cX4_hasAny : ByteArray := prog_6_method_33_code
def yX4_hasAny : MethodName := ⟨RX4, "hasAny", "([J)Z"⟩
abbrev cX4_work : ByteArray := prog_6_method_34_code
def yX4_work : MethodName := ⟨RX4, "work", "(Z)V"⟩
abbrev cX4_told : ByteArray := prog_6_method_35_code
def yX4_told : MethodName := ⟨RX4, "told", "(JJZ)J"⟩
abbrev cX4_layPlaces : ByteArray := prog_6_method_36_code
def yX4_layPlaces : MethodName := ⟨RX4, "layPlaces", "()V"⟩
abbrev cX4_reach : ByteArray := prog_6_method_37_code
def yX4_reach : MethodName := ⟨RX4, "reach", "(IIZ)J"⟩
abbrev cX4_meet : ByteArray := prog_6_method_38_code
def yX4_meet : MethodName := ⟨RX4, "meet", "(IIIZ)J"⟩
abbrev cX4_can : ByteArray := prog_6_method_39_code
def yX4_can : MethodName := ⟨RX4, "can", "(I)I"⟩
abbrev cX4_isBehind : ByteArray := prog_6_method_40_code
def yX4_isBehind : MethodName := ⟨RX4, "isBehind", "(II)Z"⟩
abbrev cX4_halvesFit : ByteArray := prog_6_method_41_code
def yX4_halvesFit : MethodName := ⟨RX4, "halvesFit", "(I)Z"⟩
abbrev cX4_fits : ByteArray := prog_6_method_42_code
def yX4_fits : MethodName := ⟨RX4, "fits", "(I)Z"⟩
abbrev cX4_list : ByteArray := prog_6_method_43_code
def yX4_list : MethodName := ⟨RX4, "list", "()V"⟩
abbrev cX4_keep : ByteArray := prog_6_method_44_code
def yX4_keep : MethodName := ⟨RX4, "keep", "()V"⟩
abbrev cX4_draws : ByteArray := prog_6_method_45_code
def yX4_draws : MethodName := ⟨RX4, "draws", "()I"⟩
abbrev cX4_isDraw : ByteArray := prog_6_method_46_code
def yX4_isDraw : MethodName := ⟨RX4, "isDraw", "(I)Z"⟩
abbrev cX4_draw : ByteArray := prog_6_method_47_code
def yX4_draw : MethodName := ⟨RX4, "draw", "(II)I"⟩
abbrev cX4_lay : ByteArray := prog_6_method_48_code
def yX4_lay : MethodName := ⟨RX4, "lay", "(I)I"⟩
abbrev cX4_like : ByteArray := prog_6_method_49_code
def yX4_like : MethodName := ⟨RX4, "like", "()I"⟩
abbrev cX4_winsOf : ByteArray := prog_6_method_50_code
def yX4_winsOf : MethodName := ⟨RX4, "winsOf", "(II)J"⟩
abbrev cX4_best : ByteArray := prog_6_method_51_code
def yX4_best : MethodName := ⟨RX4, "best", "(IZ)I"⟩
abbrev cX4_wins : ByteArray := prog_6_method_52_code
def yX4_wins : MethodName := ⟨RX4, "wins", "(IIZ)J"⟩
abbrev cX4_mean : ByteArray := prog_6_method_53_code
def yX4_mean : MethodName := ⟨RX4, "mean", "(IZ)J"⟩
abbrev cX4_first : ByteArray := prog_6_method_54_code
def yX4_first : MethodName := ⟨RX4, "first", "(III)I"⟩
abbrev cX4_count : ByteArray := prog_6_method_55_code
def yX4_count : MethodName := ⟨RX4, "count", "(I)I"⟩
def RJ6 : String := "java/lang/Integer"
abbrev cJ6_bitCount_0f7a4 : ByteArray := prog_7_method_49_code
def yJ6_bitCount_0f7a4 : MethodName := ⟨RJ6, "bitCount", "(I)I"⟩
def RJ10 : String := "java/lang/System"
def RJ7 : String := "java/util/Arrays"
abbrev cJ7_fill_53178 : ByteArray := prog_9_method_103_code
def yJ7_fill_53178 : MethodName := ⟨RJ7, "fill", "([II)V"⟩
def RL : String := "CupDrawsLaw"
abbrev cL_law : ByteArray := code
def yL_law : MethodName := ⟨RL, "law", "([I)Z"⟩
abbrev vwCl : List vw_C := [(RX0, TX0, 4), (RX1, TX1, 4), (RX2, TX2, 3), (RX3, TX3, 6), (RX4, TX4, 19)]
def mN : Nat → String
  | 0 => RX0 | 1 => RX1 | 2 => RX2 | 3 => RX3 | 4 => RX4 | 5 => RL | 6 => RJ6 | _ => RJ7
/-- a method: its class' number, name, code, locals, what it answers, cells and slots that it may make -/
abbrev mM : Type := Nat × MethodName × ByteArray × Nat × Option FieldType × Nat × Nat
abbrev mOwn (M : mM) : Nat := M.1
abbrev mY (M : mM) : MethodName := M.2.1
abbrev mCode (M : mM) : ByteArray := M.2.2.1
abbrev mMax (M : mM) : Nat := M.2.2.2.1
abbrev mRet (M : mM) : Option FieldType := M.2.2.2.2.1
abbrev mCel (M : mM) : Nat := M.2.2.2.2.2.1
abbrev mSlo (M : mM) : Nat := M.2.2.2.2.2.2
def gT : List Cond := lw_tbl.filter goodWord
theorem mem_gT {w : Cond} (h : w ∈ lw_tbl) (hg : goodWord w = true) : w ∈ gT := List.mem_filter.mpr ⟨h, hg⟩
theorem gT_good : ∀ w ∈ gT, (w.onTables && w.keeps) = true ∨ ∃ ty, w = .arrayClass ty := fun w h => good_of_word (List.mem_filter.mp h).2
theorem mem_lw {w : Cond} (i : Nat) (h : lw_tbl[i]? = some w) : w ∈ lw_tbl := List.mem_of_getElem? h
theorem mem_g {w : Cond} (i : Nat) (h : lw_tbl[i]? = some w) (hg : goodWord w = true) : w ∈ gT := mem_gT (List.mem_of_getElem? h) hg
abbrev mX3_init : mM := (3, yX3_init, cX3_init, 1, none, 15, 5287)
abbrev mX2_init : mM := (2, yX2_init, cX2_init, 1, none, 2, 128)
abbrev mX2_renew : mM := (2, yX2_renew, cX2_renew, 2, none, 0, 0)
abbrev mJ7_fill_53178 : mM := (7, yJ7_fill_53178, cJ7_fill_53178, 4, none, 0, 0)
abbrev mX0_init : mM := (0, yX0_init, cX0_init, 1, none, 3, 48)
abbrev mX0_resize : mM := (0, yX0_resize, cX0_resize, 2, none, 0, 0)
abbrev mX0_clear : mM := (0, yX0_clear, cX0_clear, 1, none, 0, 0)
abbrev mX0_openAll : mM := (0, yX0_openAll, cX0_openAll, 1, none, 0, 0)
abbrev mX1_init : mM := (1, yX1_init, cX1_init, 1, none, 3, 5048)
abbrev mX3_players : mM := (3, yX3_players, cX3_players, 3, (some .int), 0, 0)
abbrev mX3_chance : mM := (3, yX3_chance, cX3_chance, 5, (some .int), 0, 0)
abbrev mX2_has : mM := (2, yX2_has, cX2_has, 2, (some .boolean), 0, 0)
abbrev mX2_chanceOf : mM := (2, yX2_chanceOf, cX2_chanceOf, 4, (some .int), 0, 0)
abbrev mX2_setChance : mM := (2, yX2_setChance, cX2_setChance, 4, none, 0, 0)
abbrev mX2_setCell : mM := (2, yX2_setCell, cX2_setCell, 3, none, 0, 0)
abbrev mX3_apart : mM := (3, yX3_apart, cX3_apart, 5, (some .int), 0, 0)
abbrev mX2_apartUntil : mM := (2, yX2_apartUntil, cX2_apartUntil, 4, (some .int), 0, 0)
abbrev mX2_setApart : mM := (2, yX2_setApart, cX2_setApart, 4, none, 0, 0)
abbrev mX3_cup : mM := (3, yX3_cup, cX3_cup, 3, (some .int), 0, 0)
abbrev mX3_put : mM := (3, yX3_put, cX3_put, 6, (some .int), 0, 0)
abbrev mX0_hasPlace : mM := (0, yX0_hasPlace, cX0_hasPlace, 2, (some .boolean), 0, 0)
abbrev mX0_placeOf : mM := (0, yX0_placeOf, cX0_placeOf, 3, (some .int), 0, 0)
abbrev mX0_playerAt : mM := (0, yX0_playerAt, cX0_playerAt, 2, (some .int), 0, 0)
abbrev mX0_setPlace : mM := (0, yX0_setPlace, cX0_setPlace, 3, none, 0, 0)
abbrev mX3_told : mM := (3, yX3_told, cX3_told, 1, (some .int), 0, 0)
abbrev mX3_at : mM := (3, yX3_at, cX3_at, 2, (some .int), 0, 0)
abbrev mX3_won : mM := (3, yX3_won, cX3_won, 3, (some .int), 0, 0)
abbrev mX0_hasMatch : mM := (0, yX0_hasMatch, cX0_hasMatch, 2, (some .boolean), 0, 0)
abbrev mX0_weigh : mM := (0, yX0_weigh, cX0_weigh, 6, none, 0, 0)
abbrev mX0_setOdds : mM := (0, yX0_setOdds, cX0_setOdds, 6, none, 0, 0)
abbrev mX0_lastRound : mM := (0, yX0_lastRound, cX0_lastRound, 1, (some .int), 0, 0)
abbrev mX0_weighMatch : mM := (0, yX0_weighMatch, cX0_weighMatch, 9, none, 0, 0)
abbrev mX0_winnerOf : mM := (0, yX0_winnerOf, cX0_winnerOf, 2, (some .int), 0, 0)
abbrev mX3_partsOf : mM := (3, yX3_partsOf, cX3_partsOf, 1, (some .long), 0, 0)
abbrev mX0_oddsAgainst : mM := (0, yX0_oddsAgainst, cX0_oddsAgainst, 11, (some .long), 0, 0)
abbrev mX0_oddsOf : mM := (0, yX0_oddsOf, cX0_oddsOf, 4, (some .long), 0, 0)
abbrev mX0_playersIn : mM := (0, yX0_playersIn, cX0_playersIn, 5, (some .int), 0, 0)
abbrev mX0_mayBeDecided : mM := (0, yX0_mayBeDecided, cX0_mayBeDecided, 2, (some .boolean), 0, 0)
abbrev mX0_kindOf : mM := (0, yX0_kindOf, cX0_kindOf, 7, (some .int), 0, 0)
abbrev mX0_roundOf : mM := (0, yX0_roundOf, cX0_roundOf, 3, (some .int), 0, 0)
abbrev mX0_firstMatch : mM := (0, yX0_firstMatch, cX0_firstMatch, 2, (some .int), 0, 0)
abbrev mX0_firstPlace : mM := (0, yX0_firstPlace, cX0_firstPlace, 3, (some .int), 0, 0)
abbrev mX0_isSettled : mM := (0, yX0_isSettled, cX0_isSettled, 3, (some .boolean), 0, 0)
abbrev mX0_comers : mM := (0, yX0_comers, cX0_comers, 4, (some .int), 0, 0)
abbrev mX0_canCome : mM := (0, yX0_canCome, cX0_canCome, 5, (some .boolean), 0, 0)
abbrev mX0_setWinner : mM := (0, yX0_setWinner, cX0_setWinner, 3, none, 0, 0)
abbrev mX0_decidedMatches : mM := (0, yX0_decidedMatches, cX0_decidedMatches, 3, (some .int), 0, 0)
abbrev mX3_open : mM := (3, yX3_open, cX3_open, 2, (some .int), 0, 0)
abbrev mX0_openUpwards : mM := (0, yX0_openUpwards, cX0_openUpwards, 4, none, 0, 0)
abbrev mX3_match : mM := (3, yX3_match, cX3_match, 3, (some .int), 0, 0)
abbrev mX3_reach : mM := (3, yX3_reach, cX3_reach, 4, (some .long), 0, 0)
abbrev mX3_fraction : mM := (3, yX3_fraction, cX3_fraction, 7, (some .long), 0, 0)
abbrev mX3_commonDivisor : mM := (3, yX3_commonDivisor, cX3_commonDivisor, 7, (some .long), 0, 0)
abbrev mX3_meet : mM := (3, yX3_meet, cX3_meet, 10, (some .long), 0, 0)
abbrev mX3_meetingRound : mM := (3, yX3_meetingRound, cX3_meetingRound, 3, (some .int), 0, 0)
abbrev mX3_can : mM := (3, yX3_can, cX3_can, 2, (some .int), 0, 0)
abbrev mX0_possibleWinners : mM := (0, yX0_possibleWinners, cX0_possibleWinners, 3, (some .int), 0, 0)
abbrev mX3_draws : mM := (3, yX3_draws, cX3_draws, 1, (some .int), 0, 0)
abbrev mX3_makeList : mM := (3, yX3_makeList, cX3_makeList, 1, none, 0, 0)
abbrev mX1_make : mM := (1, yX1_make, cX1_make, 3, none, 0, 0)
abbrev mX1_fill : mM := (1, yX1_fill, cX1_fill, 7, none, 0, 0)
abbrev mX1_keepRow : mM := (1, yX1_keepRow, cX1_keepRow, 1, none, 0, 0)
abbrev mX1_keepsOrder : mM := (1, yX1_keepsOrder, cX1_keepsOrder, 4, (some .boolean), 0, 0)
abbrev mX1_keepsApart : mM := (1, yX1_keepsApart, cX1_keepsApart, 5, (some .boolean), 0, 0)
abbrev mJ6_bitCount_0f7a4 : mM := (6, yJ6_bitCount_0f7a4, cJ6_bitCount_0f7a4, 1, (some .int), 0, 0)
abbrev mX3_draw : mM := (3, yX3_draw, cX3_draw, 3, (some .int), 0, 0)
abbrev mX1_has : mM := (1, yX1_has, cX1_has, 2, (some .boolean), 0, 0)
abbrev mX1_playerAt : mM := (1, yX1_playerAt, cX1_playerAt, 4, (some .int), 0, 0)
abbrev mX3_lay : mM := (3, yX3_lay, cX3_lay, 2, (some .int), 0, 0)
abbrev mX1_layInto : mM := (1, yX1_layInto, cX1_layInto, 4, none, 0, 0)
abbrev mX3_like : mM := (3, yX3_like, cX3_like, 2, (some .int), 0, 0)
abbrev mX1_numberOfLike : mM := (1, yX1_numberOfLike, cX1_numberOfLike, 3, (some .int), 0, 0)
abbrev mX1_orderRowOf : mM := (1, yX1_orderRowOf, cX1_orderRowOf, 4, none, 0, 0)
abbrev mX1_exchange : mM := (1, yX1_exchange, cX1_exchange, 5, none, 0, 0)
abbrev mX1_isRow : mM := (1, yX1_isRow, cX1_isRow, 3, (some .boolean), 0, 0)
abbrev mX3_best : mM := (3, yX3_best, cX3_best, 9, (some .int), 0, 0)
abbrev mX3_weighList : mM := (3, yX3_weighList, cX3_weighList, 1, none, 0, 0)
abbrev mX1_weigh : mM := (1, yX1_weigh, cX1_weigh, 6, none, 0, 0)
abbrev mX1_setOdds : mM := (1, yX1_setOdds, cX1_setOdds, 6, none, 0, 0)
abbrev mX1_oddsOf : mM := (1, yX1_oddsOf, cX1_oddsOf, 4, (some .long), 0, 0)
abbrev mX3_wins : mM := (3, yX3_wins, cX3_wins, 4, (some .long), 0, 0)
abbrev mX3_mean : mM := (3, yX3_mean, cX3_mean, 6, (some .long), 0, 0)
abbrev mX3_first : mM := (3, yX3_first, cX3_first, 6, (some .int), 0, 0)
abbrev mX1_placeOf : mM := (1, yX1_placeOf, cX1_placeOf, 4, (some .int), 0, 0)
abbrev mX3_count : mM := (3, yX3_count, cX3_count, 2, (some .int), 0, 0)
abbrev mX2_pairsApart : mM := (2, yX2_pairsApart, cX2_pairsApart, 4, (some .int), 0, 0)
abbrev mX4_init : mM := (4, yX4_init, cX4_init, 1, none, 13, 3451)
abbrev mX4_begin : mM := (4, yX4_begin, cX4_begin, 2, none, 0, 0)
abbrev mX4_sweep : mM := (4, yX4_sweep, cX4_sweep, 2, none, 0, 0)
abbrev mX4_undecide : mM := (4, yX4_undecide, cX4_undecide, 2, none, 0, 0)
abbrev mX4_players : mM := (4, yX4_players, cX4_players, 3, (some .int), 0, 0)
abbrev mX4_in : mM := (4, yX4_in, cX4_in, 6, (some .boolean), 0, 0)
abbrev mX4_chance : mM := (4, yX4_chance, cX4_chance, 5, (some .int), 0, 0)
abbrev mX4_isPlayer : mM := (4, yX4_isPlayer, cX4_isPlayer, 2, (some .boolean), 0, 0)
abbrev mX4_apart : mM := (4, yX4_apart, cX4_apart, 5, (some .int), 0, 0)
abbrev mX4_cup : mM := (4, yX4_cup, cX4_cup, 3, (some .int), 0, 0)
abbrev mX4_put : mM := (4, yX4_put, cX4_put, 4, (some .int), 0, 0)
abbrev mX4_isPlace : mM := (4, yX4_isPlace, cX4_isPlace, 2, (some .boolean), 0, 0)
abbrev mX4_placeOf : mM := (4, yX4_placeOf, cX4_placeOf, 3, (some .int), 0, 0)
abbrev mX4_at : mM := (4, yX4_at, cX4_at, 2, (some .int), 0, 0)
abbrev mX4_won : mM := (4, yX4_won, cX4_won, 6, (some .int), 0, 0)
abbrev mX4_isMatch : mM := (4, yX4_isMatch, cX4_isMatch, 2, (some .boolean), 0, 0)
abbrev mX4_spread : mM := (4, yX4_spread, cX4_spread, 4, none, 0, 0)
abbrev mX4_roundOf : mM := (4, yX4_roundOf, cX4_roundOf, 3, (some .int), 0, 0)
abbrev mX4_rounds : mM := (4, yX4_rounds, cX4_rounds, 1, (some .int), 0, 0)
abbrev mX4_startOf : mM := (4, yX4_startOf, cX4_startOf, 4, (some .int), 0, 0)
abbrev mX4_bit : mM := (4, yX4_bit, cX4_bit, 2, (some .int), 0, 0)
abbrev mX4_beaters : mM := (4, yX4_beaters, cX4_beaters, 7, (some .int), 0, 0)
abbrev mX4_isSettled : mM := (4, yX4_isSettled, cX4_isSettled, 3, (some .boolean), 0, 0)
abbrev mX4_sort : mM := (4, yX4_sort, cX4_sort, 2, (some .int), 0, 0)
abbrev mX4_many : mM := (4, yX4_many, cX4_many, 3, (some .int), 0, 0)
abbrev mX4_decided : mM := (4, yX4_decided, cX4_decided, 3, (some .int), 0, 0)
abbrev mX4_open : mM := (4, yX4_open, cX4_open, 4, (some .int), 0, 0)
abbrev mX4_match : mM := (4, yX4_match, cX4_match, 3, (some .int), 0, 0)
abbrev mX4_reach : mM := (4, yX4_reach, cX4_reach, 6, (some .long), 0, 0)
abbrev mX4_told : mM := (4, yX4_told, cX4_told, 11, (some .long), 0, 0)
abbrev mX4_layPlaces : mM := (4, yX4_layPlaces, cX4_layPlaces, 2, none, 0, 0)
abbrev mX4_work : mM := (4, yX4_work, cX4_work, 9, none, 0, 0)
abbrev mX4_sides : mM := (4, yX4_sides, cX4_sides, 5, none, 0, 0)
abbrev mX4_hasAny : mM := (4, yX4_hasAny, cX4_hasAny, 3, (some .boolean), 0, 0)
abbrev mX4_above : mM := (4, yX4_above, cX4_above, 3, (some .int), 0, 0)
abbrev mX4_meet : mM := (4, yX4_meet, cX4_meet, 8, (some .long), 0, 0)
abbrev mX4_meetRound : mM := (4, yX4_meetRound, cX4_meetRound, 3, (some .int), 0, 0)
abbrev mX4_can : mM := (4, yX4_can, cX4_can, 3, (some .int), 0, 0)
abbrev mX4_draws : mM := (4, yX4_draws, cX4_draws, 1, (some .int), 0, 0)
abbrev mX4_list : mM := (4, yX4_list, cX4_list, 2, none, 0, 0)
abbrev mX4_fits : mM := (4, yX4_fits, cX4_fits, 7, (some .boolean), 0, 0)
abbrev mX4_halvesFit : mM := (4, yX4_halvesFit, cX4_halvesFit, 4, (some .boolean), 0, 0)
abbrev mX4_isBehind : mM := (4, yX4_isBehind, cX4_isBehind, 4, (some .boolean), 0, 0)
abbrev mX4_keep : mM := (4, yX4_keep, cX4_keep, 2, none, 0, 0)
abbrev mX4_draw : mM := (4, yX4_draw, cX4_draw, 3, (some .int), 0, 0)
abbrev mX4_isDraw : mM := (4, yX4_isDraw, cX4_isDraw, 2, (some .boolean), 0, 0)
abbrev mX4_lay : mM := (4, yX4_lay, cX4_lay, 3, (some .int), 0, 0)
abbrev mX4_like : mM := (4, yX4_like, cX4_like, 7, (some .int), 0, 0)
abbrev mX4_best : mM := (4, yX4_best, cX4_best, 9, (some .int), 0, 0)
abbrev mX4_winsOf : mM := (4, yX4_winsOf, cX4_winsOf, 4, (some .long), 0, 0)
abbrev mX4_wins : mM := (4, yX4_wins, cX4_wins, 6, (some .long), 0, 0)
abbrev mX4_mean : mM := (4, yX4_mean, cX4_mean, 6, (some .long), 0, 0)
abbrev mX4_first : mM := (4, yX4_first, cX4_first, 9, (some .int), 0, 0)
abbrev mX4_count : mM := (4, yX4_count, cX4_count, 5, (some .int), 0, 0)
abbrev mL_law : mM := (5, yL_law, cL_law, 4, some .boolean, 30, 8763)
/-- what a callee needs, whoever calls -/
def mMok (M : mM) (n : Nat) : Prop := Cond.code (mY M) (mCode M) (mMax M) (mRet M) ∈ gT ∧ Cond.initialized (mY M).cls ∈ gT ∧ ((mY M).cls ≠ "java/lang/invoke/MethodHandle" ∧ (mY M).cls ≠ "java/lang/invoke/VarHandle" ∧ (parseMethodDescriptor (mY M).desc).map (fun d => d.parameters.length) = some n) ∧ plainName (mY M).cls = true ∧ mN (mOwn M) = (mY M).cls ∧ mMax M ≤ 16
/-- a call: kind 0 by the receiver's class, 1 static, 2 a constructor, 3 a nest mate's private static -/
def mTok (own idx kind n : Nat) (M : mM) : Prop := mMok M n ∧ match kind with
  | 0 => Cond.methodLink (mN own) idx (mY M) ∈ gT ∧ Cond.instanceMethod (mY M) ∈ gT ∧ Cond.selects (mY M).cls (mY M) (mY M) ∈ gT ∧ mOwn M < 5
  | 1 => Cond.methodLink (mN own) idx (mY M) ∈ gT ∧ Cond.static (mY M) ∈ gT
  | 2 => Cond.methodLink (mN own) idx (mY M) ∈ gT ∧ Cond.instanceMethod (mY M) ∈ gT ∧ (mY M).name = "<init>" ∧ mRet M = none
  | _ => Cond.methodLinkNest (mN own) idx (mY M) "CupDraws" ∈ lw_tbl ∧ Cond.static (mY M) ∈ gT
theorem kmX3_init : mMok mX3_init 0 := ⟨mem_g 55 (by decide +kernel) rfl, mem_g 43 (by decide +kernel) rfl, ⟨by decide +kernel, by decide +kernel, by decide +kernel⟩, by decide +kernel, by decide +kernel, by decide⟩
theorem kmX2_init : mMok mX2_init 0 := ⟨mem_g 63 (by decide +kernel) rfl, mem_g 44 (by decide +kernel) rfl, ⟨by decide +kernel, by decide +kernel, by decide +kernel⟩, by decide +kernel, by decide +kernel, by decide⟩
theorem kmX2_renew : mMok mX2_renew 1 := ⟨mem_g 68 (by decide +kernel) rfl, mem_g 44 (by decide +kernel) rfl, ⟨by decide +kernel, by decide +kernel, by decide +kernel⟩, by decide +kernel, by decide +kernel, by decide⟩
theorem kmJ7_fill_53178 : mMok mJ7_fill_53178 2 := ⟨mem_g 71 (by decide +kernel) rfl, mem_g 45 (by decide +kernel) rfl, ⟨by decide +kernel, by decide +kernel, by decide +kernel⟩, by decide +kernel, by decide +kernel, by decide⟩
theorem kmX0_init : mMok mX0_init 0 := ⟨mem_g 89 (by decide +kernel) rfl, mem_g 46 (by decide +kernel) rfl, ⟨by decide +kernel, by decide +kernel, by decide +kernel⟩, by decide +kernel, by decide +kernel, by decide⟩
theorem kmX0_resize : mMok mX0_resize 1 := ⟨mem_g 94 (by decide +kernel) rfl, mem_g 46 (by decide +kernel) rfl, ⟨by decide +kernel, by decide +kernel, by decide +kernel⟩, by decide +kernel, by decide +kernel, by decide⟩
theorem kmX0_clear : mMok mX0_clear 0 := ⟨mem_g 98 (by decide +kernel) rfl, mem_g 46 (by decide +kernel) rfl, ⟨by decide +kernel, by decide +kernel, by decide +kernel⟩, by decide +kernel, by decide +kernel, by decide⟩
theorem kmX0_openAll : mMok mX0_openAll 0 := ⟨mem_g 103 (by decide +kernel) rfl, mem_g 46 (by decide +kernel) rfl, ⟨by decide +kernel, by decide +kernel, by decide +kernel⟩, by decide +kernel, by decide +kernel, by decide⟩
theorem kmX1_init : mMok mX1_init 0 := ⟨mem_g 124 (by decide +kernel) rfl, mem_g 47 (by decide +kernel) rfl, ⟨by decide +kernel, by decide +kernel, by decide +kernel⟩, by decide +kernel, by decide +kernel, by decide⟩
theorem kmX3_players : mMok mX3_players 1 := ⟨mem_g 162 (by decide +kernel) rfl, mem_g 43 (by decide +kernel) rfl, ⟨by decide +kernel, by decide +kernel, by decide +kernel⟩, by decide +kernel, by decide +kernel, by decide⟩
theorem kmX3_chance : mMok mX3_chance 3 := ⟨mem_g 168 (by decide +kernel) rfl, mem_g 43 (by decide +kernel) rfl, ⟨by decide +kernel, by decide +kernel, by decide +kernel⟩, by decide +kernel, by decide +kernel, by decide⟩
theorem kmX2_has : mMok mX2_has 1 := ⟨mem_g 172 (by decide +kernel) rfl, mem_g 44 (by decide +kernel) rfl, ⟨by decide +kernel, by decide +kernel, by decide +kernel⟩, by decide +kernel, by decide +kernel, by decide⟩
theorem kmX2_chanceOf : mMok mX2_chanceOf 2 := ⟨mem_g 176 (by decide +kernel) rfl, mem_g 44 (by decide +kernel) rfl, ⟨by decide +kernel, by decide +kernel, by decide +kernel⟩, by decide +kernel, by decide +kernel, by decide⟩
theorem kmX2_setChance : mMok mX2_setChance 3 := ⟨mem_g 180 (by decide +kernel) rfl, mem_g 44 (by decide +kernel) rfl, ⟨by decide +kernel, by decide +kernel, by decide +kernel⟩, by decide +kernel, by decide +kernel, by decide⟩
theorem kmX2_setCell : mMok mX2_setCell 3 := ⟨mem_g 183 (by decide +kernel) rfl, mem_g 44 (by decide +kernel) rfl, ⟨by decide +kernel, by decide +kernel, by decide +kernel⟩, by decide +kernel, by decide +kernel, by decide⟩
theorem kmX3_apart : mMok mX3_apart 3 := ⟨mem_g 187 (by decide +kernel) rfl, mem_g 43 (by decide +kernel) rfl, ⟨by decide +kernel, by decide +kernel, by decide +kernel⟩, by decide +kernel, by decide +kernel, by decide⟩
theorem kmX2_apartUntil : mMok mX2_apartUntil 2 := ⟨mem_g 191 (by decide +kernel) rfl, mem_g 44 (by decide +kernel) rfl, ⟨by decide +kernel, by decide +kernel, by decide +kernel⟩, by decide +kernel, by decide +kernel, by decide⟩
theorem kmX2_setApart : mMok mX2_setApart 3 := ⟨mem_g 195 (by decide +kernel) rfl, mem_g 44 (by decide +kernel) rfl, ⟨by decide +kernel, by decide +kernel, by decide +kernel⟩, by decide +kernel, by decide +kernel, by decide⟩
theorem kmX3_cup : mMok mX3_cup 1 := ⟨mem_g 199 (by decide +kernel) rfl, mem_g 43 (by decide +kernel) rfl, ⟨by decide +kernel, by decide +kernel, by decide +kernel⟩, by decide +kernel, by decide +kernel, by decide⟩
theorem kmX3_put : mMok mX3_put 2 := ⟨mem_g 204 (by decide +kernel) rfl, mem_g 43 (by decide +kernel) rfl, ⟨by decide +kernel, by decide +kernel, by decide +kernel⟩, by decide +kernel, by decide +kernel, by decide⟩
theorem kmX0_hasPlace : mMok mX0_hasPlace 1 := ⟨mem_g 208 (by decide +kernel) rfl, mem_g 46 (by decide +kernel) rfl, ⟨by decide +kernel, by decide +kernel, by decide +kernel⟩, by decide +kernel, by decide +kernel, by decide⟩
theorem kmX0_placeOf : mMok mX0_placeOf 1 := ⟨mem_g 212 (by decide +kernel) rfl, mem_g 46 (by decide +kernel) rfl, ⟨by decide +kernel, by decide +kernel, by decide +kernel⟩, by decide +kernel, by decide +kernel, by decide⟩
theorem kmX0_playerAt : mMok mX0_playerAt 1 := ⟨mem_g 216 (by decide +kernel) rfl, mem_g 46 (by decide +kernel) rfl, ⟨by decide +kernel, by decide +kernel, by decide +kernel⟩, by decide +kernel, by decide +kernel, by decide⟩
theorem kmX0_setPlace : mMok mX0_setPlace 2 := ⟨mem_g 221 (by decide +kernel) rfl, mem_g 46 (by decide +kernel) rfl, ⟨by decide +kernel, by decide +kernel, by decide +kernel⟩, by decide +kernel, by decide +kernel, by decide⟩
theorem kmX3_told : mMok mX3_told 1 := ⟨mem_g 225 (by decide +kernel) rfl, mem_g 43 (by decide +kernel) rfl, ⟨by decide +kernel, by decide +kernel, by decide +kernel⟩, by decide +kernel, by decide +kernel, by decide⟩
theorem kmX3_at : mMok mX3_at 1 := ⟨mem_g 229 (by decide +kernel) rfl, mem_g 43 (by decide +kernel) rfl, ⟨by decide +kernel, by decide +kernel, by decide +kernel⟩, by decide +kernel, by decide +kernel, by decide⟩
theorem kmX3_won : mMok mX3_won 2 := ⟨mem_g 233 (by decide +kernel) rfl, mem_g 43 (by decide +kernel) rfl, ⟨by decide +kernel, by decide +kernel, by decide +kernel⟩, by decide +kernel, by decide +kernel, by decide⟩
theorem kmX0_hasMatch : mMok mX0_hasMatch 1 := ⟨mem_g 237 (by decide +kernel) rfl, mem_g 46 (by decide +kernel) rfl, ⟨by decide +kernel, by decide +kernel, by decide +kernel⟩, by decide +kernel, by decide +kernel, by decide⟩
theorem kmX0_weigh : mMok mX0_weigh 1 := ⟨mem_g 241 (by decide +kernel) rfl, mem_g 46 (by decide +kernel) rfl, ⟨by decide +kernel, by decide +kernel, by decide +kernel⟩, by decide +kernel, by decide +kernel, by decide⟩
theorem kmX0_setOdds : mMok mX0_setOdds 3 := ⟨mem_g 245 (by decide +kernel) rfl, mem_g 46 (by decide +kernel) rfl, ⟨by decide +kernel, by decide +kernel, by decide +kernel⟩, by decide +kernel, by decide +kernel, by decide⟩
theorem kmX0_lastRound : mMok mX0_lastRound 0 := ⟨mem_g 249 (by decide +kernel) rfl, mem_g 46 (by decide +kernel) rfl, ⟨by decide +kernel, by decide +kernel, by decide +kernel⟩, by decide +kernel, by decide +kernel, by decide⟩
theorem kmX0_weighMatch : mMok mX0_weighMatch 4 := ⟨mem_g 253 (by decide +kernel) rfl, mem_g 46 (by decide +kernel) rfl, ⟨by decide +kernel, by decide +kernel, by decide +kernel⟩, by decide +kernel, by decide +kernel, by decide⟩
theorem kmX0_winnerOf : mMok mX0_winnerOf 1 := ⟨mem_g 257 (by decide +kernel) rfl, mem_g 46 (by decide +kernel) rfl, ⟨by decide +kernel, by decide +kernel, by decide +kernel⟩, by decide +kernel, by decide +kernel, by decide⟩
theorem kmX3_partsOf : mMok mX3_partsOf 1 := ⟨mem_g 260 (by decide +kernel) rfl, mem_g 43 (by decide +kernel) rfl, ⟨by decide +kernel, by decide +kernel, by decide +kernel⟩, by decide +kernel, by decide +kernel, by decide⟩
theorem kmX0_oddsAgainst : mMok mX0_oddsAgainst 5 := ⟨mem_g 266 (by decide +kernel) rfl, mem_g 46 (by decide +kernel) rfl, ⟨by decide +kernel, by decide +kernel, by decide +kernel⟩, by decide +kernel, by decide +kernel, by decide⟩
theorem kmX0_oddsOf : mMok mX0_oddsOf 2 := ⟨mem_g 270 (by decide +kernel) rfl, mem_g 46 (by decide +kernel) rfl, ⟨by decide +kernel, by decide +kernel, by decide +kernel⟩, by decide +kernel, by decide +kernel, by decide⟩
theorem kmX0_playersIn : mMok mX0_playersIn 2 := ⟨mem_g 274 (by decide +kernel) rfl, mem_g 46 (by decide +kernel) rfl, ⟨by decide +kernel, by decide +kernel, by decide +kernel⟩, by decide +kernel, by decide +kernel, by decide⟩
theorem kmX0_mayBeDecided : mMok mX0_mayBeDecided 1 := ⟨mem_g 280 (by decide +kernel) rfl, mem_g 46 (by decide +kernel) rfl, ⟨by decide +kernel, by decide +kernel, by decide +kernel⟩, by decide +kernel, by decide +kernel, by decide⟩
theorem kmX0_kindOf : mMok mX0_kindOf 1 := ⟨mem_g 284 (by decide +kernel) rfl, mem_g 46 (by decide +kernel) rfl, ⟨by decide +kernel, by decide +kernel, by decide +kernel⟩, by decide +kernel, by decide +kernel, by decide⟩
theorem kmX0_roundOf : mMok mX0_roundOf 1 := ⟨mem_g 288 (by decide +kernel) rfl, mem_g 46 (by decide +kernel) rfl, ⟨by decide +kernel, by decide +kernel, by decide +kernel⟩, by decide +kernel, by decide +kernel, by decide⟩
theorem kmX0_firstMatch : mMok mX0_firstMatch 1 := ⟨mem_g 292 (by decide +kernel) rfl, mem_g 46 (by decide +kernel) rfl, ⟨by decide +kernel, by decide +kernel, by decide +kernel⟩, by decide +kernel, by decide +kernel, by decide⟩
theorem kmX0_firstPlace : mMok mX0_firstPlace 2 := ⟨mem_g 296 (by decide +kernel) rfl, mem_g 46 (by decide +kernel) rfl, ⟨by decide +kernel, by decide +kernel, by decide +kernel⟩, by decide +kernel, by decide +kernel, by decide⟩
theorem kmX0_isSettled : mMok mX0_isSettled 1 := ⟨mem_g 300 (by decide +kernel) rfl, mem_g 46 (by decide +kernel) rfl, ⟨by decide +kernel, by decide +kernel, by decide +kernel⟩, by decide +kernel, by decide +kernel, by decide⟩
theorem kmX0_comers : mMok mX0_comers 1 := ⟨mem_g 304 (by decide +kernel) rfl, mem_g 46 (by decide +kernel) rfl, ⟨by decide +kernel, by decide +kernel, by decide +kernel⟩, by decide +kernel, by decide +kernel, by decide⟩
theorem kmX0_canCome : mMok mX0_canCome 2 := ⟨mem_g 308 (by decide +kernel) rfl, mem_g 46 (by decide +kernel) rfl, ⟨by decide +kernel, by decide +kernel, by decide +kernel⟩, by decide +kernel, by decide +kernel, by decide⟩
theorem kmX0_setWinner : mMok mX0_setWinner 2 := ⟨mem_g 313 (by decide +kernel) rfl, mem_g 46 (by decide +kernel) rfl, ⟨by decide +kernel, by decide +kernel, by decide +kernel⟩, by decide +kernel, by decide +kernel, by decide⟩
theorem kmX0_decidedMatches : mMok mX0_decidedMatches 0 := ⟨mem_g 317 (by decide +kernel) rfl, mem_g 46 (by decide +kernel) rfl, ⟨by decide +kernel, by decide +kernel, by decide +kernel⟩, by decide +kernel, by decide +kernel, by decide⟩
theorem kmX3_open : mMok mX3_open 1 := ⟨mem_g 321 (by decide +kernel) rfl, mem_g 43 (by decide +kernel) rfl, ⟨by decide +kernel, by decide +kernel, by decide +kernel⟩, by decide +kernel, by decide +kernel, by decide⟩
theorem kmX0_openUpwards : mMok mX0_openUpwards 1 := ⟨mem_g 326 (by decide +kernel) rfl, mem_g 46 (by decide +kernel) rfl, ⟨by decide +kernel, by decide +kernel, by decide +kernel⟩, by decide +kernel, by decide +kernel, by decide⟩
theorem kmX3_match : mMok mX3_match 2 := ⟨mem_g 332 (by decide +kernel) rfl, mem_g 43 (by decide +kernel) rfl, ⟨by decide +kernel, by decide +kernel, by decide +kernel⟩, by decide +kernel, by decide +kernel, by decide⟩
theorem kmX3_reach : mMok mX3_reach 3 := ⟨mem_g 339 (by decide +kernel) rfl, mem_g 43 (by decide +kernel) rfl, ⟨by decide +kernel, by decide +kernel, by decide +kernel⟩, by decide +kernel, by decide +kernel, by decide⟩
theorem kmX3_fraction : mMok mX3_fraction 3 := ⟨mem_g 347 (by decide +kernel) rfl, mem_g 43 (by decide +kernel) rfl, ⟨by decide +kernel, by decide +kernel, by decide +kernel⟩, by decide +kernel, by decide +kernel, by decide⟩
theorem kmX3_commonDivisor : mMok mX3_commonDivisor 2 := ⟨mem_g 350 (by decide +kernel) rfl, mem_g 43 (by decide +kernel) rfl, ⟨by decide +kernel, by decide +kernel, by decide +kernel⟩, by decide +kernel, by decide +kernel, by decide⟩
theorem kmX3_meet : mMok mX3_meet 4 := ⟨mem_g 354 (by decide +kernel) rfl, mem_g 43 (by decide +kernel) rfl, ⟨by decide +kernel, by decide +kernel, by decide +kernel⟩, by decide +kernel, by decide +kernel, by decide⟩
theorem kmX3_meetingRound : mMok mX3_meetingRound 2 := ⟨mem_g 358 (by decide +kernel) rfl, mem_g 43 (by decide +kernel) rfl, ⟨by decide +kernel, by decide +kernel, by decide +kernel⟩, by decide +kernel, by decide +kernel, by decide⟩
theorem kmX3_can : mMok mX3_can 1 := ⟨mem_g 362 (by decide +kernel) rfl, mem_g 43 (by decide +kernel) rfl, ⟨by decide +kernel, by decide +kernel, by decide +kernel⟩, by decide +kernel, by decide +kernel, by decide⟩
theorem kmX0_possibleWinners : mMok mX0_possibleWinners 0 := ⟨mem_g 366 (by decide +kernel) rfl, mem_g 46 (by decide +kernel) rfl, ⟨by decide +kernel, by decide +kernel, by decide +kernel⟩, by decide +kernel, by decide +kernel, by decide⟩
theorem kmX3_draws : mMok mX3_draws 0 := ⟨mem_g 370 (by decide +kernel) rfl, mem_g 43 (by decide +kernel) rfl, ⟨by decide +kernel, by decide +kernel, by decide +kernel⟩, by decide +kernel, by decide +kernel, by decide⟩
theorem kmX3_makeList : mMok mX3_makeList 0 := ⟨mem_g 374 (by decide +kernel) rfl, mem_g 43 (by decide +kernel) rfl, ⟨by decide +kernel, by decide +kernel, by decide +kernel⟩, by decide +kernel, by decide +kernel, by decide⟩
theorem kmX1_make : mMok mX1_make 2 := ⟨mem_g 378 (by decide +kernel) rfl, mem_g 47 (by decide +kernel) rfl, ⟨by decide +kernel, by decide +kernel, by decide +kernel⟩, by decide +kernel, by decide +kernel, by decide⟩
theorem kmX1_fill : mMok mX1_fill 5 := ⟨mem_g 382 (by decide +kernel) rfl, mem_g 47 (by decide +kernel) rfl, ⟨by decide +kernel, by decide +kernel, by decide +kernel⟩, by decide +kernel, by decide +kernel, by decide⟩
theorem kmX1_keepRow : mMok mX1_keepRow 0 := ⟨mem_g 386 (by decide +kernel) rfl, mem_g 47 (by decide +kernel) rfl, ⟨by decide +kernel, by decide +kernel, by decide +kernel⟩, by decide +kernel, by decide +kernel, by decide⟩
theorem kmX1_keepsOrder : mMok mX1_keepsOrder 2 := ⟨mem_g 393 (by decide +kernel) rfl, mem_g 47 (by decide +kernel) rfl, ⟨by decide +kernel, by decide +kernel, by decide +kernel⟩, by decide +kernel, by decide +kernel, by decide⟩
theorem kmX1_keepsApart : mMok mX1_keepsApart 3 := ⟨mem_g 397 (by decide +kernel) rfl, mem_g 47 (by decide +kernel) rfl, ⟨by decide +kernel, by decide +kernel, by decide +kernel⟩, by decide +kernel, by decide +kernel, by decide⟩
theorem kmJ6_bitCount_0f7a4 : mMok mJ6_bitCount_0f7a4 1 := ⟨mem_g 402 (by decide +kernel) rfl, mem_g 50 (by decide +kernel) rfl, ⟨by decide +kernel, by decide +kernel, by decide +kernel⟩, by decide +kernel, by decide +kernel, by decide⟩
theorem kmX3_draw : mMok mX3_draw 2 := ⟨mem_g 409 (by decide +kernel) rfl, mem_g 43 (by decide +kernel) rfl, ⟨by decide +kernel, by decide +kernel, by decide +kernel⟩, by decide +kernel, by decide +kernel, by decide⟩
theorem kmX1_has : mMok mX1_has 1 := ⟨mem_g 413 (by decide +kernel) rfl, mem_g 47 (by decide +kernel) rfl, ⟨by decide +kernel, by decide +kernel, by decide +kernel⟩, by decide +kernel, by decide +kernel, by decide⟩
theorem kmX1_playerAt : mMok mX1_playerAt 2 := ⟨mem_g 417 (by decide +kernel) rfl, mem_g 47 (by decide +kernel) rfl, ⟨by decide +kernel, by decide +kernel, by decide +kernel⟩, by decide +kernel, by decide +kernel, by decide⟩
theorem kmX3_lay : mMok mX3_lay 1 := ⟨mem_g 422 (by decide +kernel) rfl, mem_g 43 (by decide +kernel) rfl, ⟨by decide +kernel, by decide +kernel, by decide +kernel⟩, by decide +kernel, by decide +kernel, by decide⟩
theorem kmX1_layInto : mMok mX1_layInto 2 := ⟨mem_g 426 (by decide +kernel) rfl, mem_g 47 (by decide +kernel) rfl, ⟨by decide +kernel, by decide +kernel, by decide +kernel⟩, by decide +kernel, by decide +kernel, by decide⟩
theorem kmX3_like : mMok mX3_like 0 := ⟨mem_g 433 (by decide +kernel) rfl, mem_g 43 (by decide +kernel) rfl, ⟨by decide +kernel, by decide +kernel, by decide +kernel⟩, by decide +kernel, by decide +kernel, by decide⟩
theorem kmX1_numberOfLike : mMok mX1_numberOfLike 1 := ⟨mem_g 437 (by decide +kernel) rfl, mem_g 47 (by decide +kernel) rfl, ⟨by decide +kernel, by decide +kernel, by decide +kernel⟩, by decide +kernel, by decide +kernel, by decide⟩
theorem kmX1_orderRowOf : mMok mX1_orderRowOf 1 := ⟨mem_g 441 (by decide +kernel) rfl, mem_g 47 (by decide +kernel) rfl, ⟨by decide +kernel, by decide +kernel, by decide +kernel⟩, by decide +kernel, by decide +kernel, by decide⟩
theorem kmX1_exchange : mMok mX1_exchange 2 := ⟨mem_g 446 (by decide +kernel) rfl, mem_g 47 (by decide +kernel) rfl, ⟨by decide +kernel, by decide +kernel, by decide +kernel⟩, by decide +kernel, by decide +kernel, by decide⟩
theorem kmX1_isRow : mMok mX1_isRow 1 := ⟨mem_g 450 (by decide +kernel) rfl, mem_g 47 (by decide +kernel) rfl, ⟨by decide +kernel, by decide +kernel, by decide +kernel⟩, by decide +kernel, by decide +kernel, by decide⟩
theorem kmX3_best : mMok mX3_best 2 := ⟨mem_g 454 (by decide +kernel) rfl, mem_g 43 (by decide +kernel) rfl, ⟨by decide +kernel, by decide +kernel, by decide +kernel⟩, by decide +kernel, by decide +kernel, by decide⟩
theorem kmX3_weighList : mMok mX3_weighList 0 := ⟨mem_g 458 (by decide +kernel) rfl, mem_g 43 (by decide +kernel) rfl, ⟨by decide +kernel, by decide +kernel, by decide +kernel⟩, by decide +kernel, by decide +kernel, by decide⟩
theorem kmX1_weigh : mMok mX1_weigh 2 := ⟨mem_g 462 (by decide +kernel) rfl, mem_g 47 (by decide +kernel) rfl, ⟨by decide +kernel, by decide +kernel, by decide +kernel⟩, by decide +kernel, by decide +kernel, by decide⟩
theorem kmX1_setOdds : mMok mX1_setOdds 3 := ⟨mem_g 470 (by decide +kernel) rfl, mem_g 47 (by decide +kernel) rfl, ⟨by decide +kernel, by decide +kernel, by decide +kernel⟩, by decide +kernel, by decide +kernel, by decide⟩
theorem kmX1_oddsOf : mMok mX1_oddsOf 2 := ⟨mem_g 474 (by decide +kernel) rfl, mem_g 47 (by decide +kernel) rfl, ⟨by decide +kernel, by decide +kernel, by decide +kernel⟩, by decide +kernel, by decide +kernel, by decide⟩
theorem kmX3_wins : mMok mX3_wins 3 := ⟨mem_g 478 (by decide +kernel) rfl, mem_g 43 (by decide +kernel) rfl, ⟨by decide +kernel, by decide +kernel, by decide +kernel⟩, by decide +kernel, by decide +kernel, by decide⟩
theorem kmX3_mean : mMok mX3_mean 2 := ⟨mem_g 482 (by decide +kernel) rfl, mem_g 43 (by decide +kernel) rfl, ⟨by decide +kernel, by decide +kernel, by decide +kernel⟩, by decide +kernel, by decide +kernel, by decide⟩
theorem kmX3_first : mMok mX3_first 3 := ⟨mem_g 486 (by decide +kernel) rfl, mem_g 43 (by decide +kernel) rfl, ⟨by decide +kernel, by decide +kernel, by decide +kernel⟩, by decide +kernel, by decide +kernel, by decide⟩
theorem kmX1_placeOf : mMok mX1_placeOf 2 := ⟨mem_g 490 (by decide +kernel) rfl, mem_g 47 (by decide +kernel) rfl, ⟨by decide +kernel, by decide +kernel, by decide +kernel⟩, by decide +kernel, by decide +kernel, by decide⟩
theorem kmX3_count : mMok mX3_count 1 := ⟨mem_g 494 (by decide +kernel) rfl, mem_g 43 (by decide +kernel) rfl, ⟨by decide +kernel, by decide +kernel, by decide +kernel⟩, by decide +kernel, by decide +kernel, by decide⟩
theorem kmX2_pairsApart : mMok mX2_pairsApart 0 := ⟨mem_g 499 (by decide +kernel) rfl, mem_g 44 (by decide +kernel) rfl, ⟨by decide +kernel, by decide +kernel, by decide +kernel⟩, by decide +kernel, by decide +kernel, by decide⟩
theorem kmX4_init : mMok mX4_init 0 := ⟨mem_g 505 (by decide +kernel) rfl, mem_g 48 (by decide +kernel) rfl, ⟨by decide +kernel, by decide +kernel, by decide +kernel⟩, by decide +kernel, by decide +kernel, by decide⟩
theorem kmX4_begin : mMok mX4_begin 0 := ⟨mem_g 510 (by decide +kernel) rfl, mem_g 48 (by decide +kernel) rfl, ⟨by decide +kernel, by decide +kernel, by decide +kernel⟩, by decide +kernel, by decide +kernel, by decide⟩
theorem kmX4_sweep : mMok mX4_sweep 0 := ⟨mem_g 514 (by decide +kernel) rfl, mem_g 48 (by decide +kernel) rfl, ⟨by decide +kernel, by decide +kernel, by decide +kernel⟩, by decide +kernel, by decide +kernel, by decide⟩
theorem kmX4_undecide : mMok mX4_undecide 0 := ⟨mem_g 518 (by decide +kernel) rfl, mem_g 48 (by decide +kernel) rfl, ⟨by decide +kernel, by decide +kernel, by decide +kernel⟩, by decide +kernel, by decide +kernel, by decide⟩
theorem kmX4_players : mMok mX4_players 1 := ⟨mem_g 580 (by decide +kernel) rfl, mem_g 48 (by decide +kernel) rfl, ⟨by decide +kernel, by decide +kernel, by decide +kernel⟩, by decide +kernel, by decide +kernel, by decide⟩
theorem kmX4_in : mMok mX4_in 3 := ⟨mem_g 585 (by decide +kernel) rfl, mem_g 48 (by decide +kernel) rfl, ⟨by decide +kernel, by decide +kernel, by decide +kernel⟩, by decide +kernel, by decide +kernel, by decide⟩
theorem kmX4_chance : mMok mX4_chance 3 := ⟨mem_g 589 (by decide +kernel) rfl, mem_g 48 (by decide +kernel) rfl, ⟨by decide +kernel, by decide +kernel, by decide +kernel⟩, by decide +kernel, by decide +kernel, by decide⟩
theorem kmX4_isPlayer : mMok mX4_isPlayer 1 := ⟨mem_g 593 (by decide +kernel) rfl, mem_g 48 (by decide +kernel) rfl, ⟨by decide +kernel, by decide +kernel, by decide +kernel⟩, by decide +kernel, by decide +kernel, by decide⟩
theorem kmX4_apart : mMok mX4_apart 3 := ⟨mem_g 598 (by decide +kernel) rfl, mem_g 48 (by decide +kernel) rfl, ⟨by decide +kernel, by decide +kernel, by decide +kernel⟩, by decide +kernel, by decide +kernel, by decide⟩
theorem kmX4_cup : mMok mX4_cup 1 := ⟨mem_g 603 (by decide +kernel) rfl, mem_g 48 (by decide +kernel) rfl, ⟨by decide +kernel, by decide +kernel, by decide +kernel⟩, by decide +kernel, by decide +kernel, by decide⟩
theorem kmX4_put : mMok mX4_put 2 := ⟨mem_g 607 (by decide +kernel) rfl, mem_g 48 (by decide +kernel) rfl, ⟨by decide +kernel, by decide +kernel, by decide +kernel⟩, by decide +kernel, by decide +kernel, by decide⟩
theorem kmX4_isPlace : mMok mX4_isPlace 1 := ⟨mem_g 611 (by decide +kernel) rfl, mem_g 48 (by decide +kernel) rfl, ⟨by decide +kernel, by decide +kernel, by decide +kernel⟩, by decide +kernel, by decide +kernel, by decide⟩
theorem kmX4_placeOf : mMok mX4_placeOf 1 := ⟨mem_g 615 (by decide +kernel) rfl, mem_g 48 (by decide +kernel) rfl, ⟨by decide +kernel, by decide +kernel, by decide +kernel⟩, by decide +kernel, by decide +kernel, by decide⟩
theorem kmX4_at : mMok mX4_at 1 := ⟨mem_g 619 (by decide +kernel) rfl, mem_g 48 (by decide +kernel) rfl, ⟨by decide +kernel, by decide +kernel, by decide +kernel⟩, by decide +kernel, by decide +kernel, by decide⟩
theorem kmX4_won : mMok mX4_won 2 := ⟨mem_g 623 (by decide +kernel) rfl, mem_g 48 (by decide +kernel) rfl, ⟨by decide +kernel, by decide +kernel, by decide +kernel⟩, by decide +kernel, by decide +kernel, by decide⟩
theorem kmX4_isMatch : mMok mX4_isMatch 1 := ⟨mem_g 627 (by decide +kernel) rfl, mem_g 48 (by decide +kernel) rfl, ⟨by decide +kernel, by decide +kernel, by decide +kernel⟩, by decide +kernel, by decide +kernel, by decide⟩
theorem kmX4_spread : mMok mX4_spread 0 := ⟨mem_g 631 (by decide +kernel) rfl, mem_g 48 (by decide +kernel) rfl, ⟨by decide +kernel, by decide +kernel, by decide +kernel⟩, by decide +kernel, by decide +kernel, by decide⟩
theorem kmX4_roundOf : mMok mX4_roundOf 1 := ⟨mem_g 635 (by decide +kernel) rfl, mem_g 48 (by decide +kernel) rfl, ⟨by decide +kernel, by decide +kernel, by decide +kernel⟩, by decide +kernel, by decide +kernel, by decide⟩
theorem kmX4_rounds : mMok mX4_rounds 0 := ⟨mem_g 639 (by decide +kernel) rfl, mem_g 48 (by decide +kernel) rfl, ⟨by decide +kernel, by decide +kernel, by decide +kernel⟩, by decide +kernel, by decide +kernel, by decide⟩
theorem kmX4_startOf : mMok mX4_startOf 1 := ⟨mem_g 643 (by decide +kernel) rfl, mem_g 48 (by decide +kernel) rfl, ⟨by decide +kernel, by decide +kernel, by decide +kernel⟩, by decide +kernel, by decide +kernel, by decide⟩
theorem kmX4_bit : mMok mX4_bit 1 := ⟨mem_g 647 (by decide +kernel) rfl, mem_g 48 (by decide +kernel) rfl, ⟨by decide +kernel, by decide +kernel, by decide +kernel⟩, by decide +kernel, by decide +kernel, by decide⟩
theorem kmX4_beaters : mMok mX4_beaters 2 := ⟨mem_g 651 (by decide +kernel) rfl, mem_g 48 (by decide +kernel) rfl, ⟨by decide +kernel, by decide +kernel, by decide +kernel⟩, by decide +kernel, by decide +kernel, by decide⟩
theorem kmX4_isSettled : mMok mX4_isSettled 1 := ⟨mem_g 655 (by decide +kernel) rfl, mem_g 48 (by decide +kernel) rfl, ⟨by decide +kernel, by decide +kernel, by decide +kernel⟩, by decide +kernel, by decide +kernel, by decide⟩
theorem kmX4_sort : mMok mX4_sort 1 := ⟨mem_g 659 (by decide +kernel) rfl, mem_g 48 (by decide +kernel) rfl, ⟨by decide +kernel, by decide +kernel, by decide +kernel⟩, by decide +kernel, by decide +kernel, by decide⟩
theorem kmX4_many : mMok mX4_many 1 := ⟨mem_g 662 (by decide +kernel) rfl, mem_g 48 (by decide +kernel) rfl, ⟨by decide +kernel, by decide +kernel, by decide +kernel⟩, by decide +kernel, by decide +kernel, by decide⟩
theorem kmX4_decided : mMok mX4_decided 0 := ⟨mem_g 666 (by decide +kernel) rfl, mem_g 48 (by decide +kernel) rfl, ⟨by decide +kernel, by decide +kernel, by decide +kernel⟩, by decide +kernel, by decide +kernel, by decide⟩
theorem kmX4_open : mMok mX4_open 1 := ⟨mem_g 670 (by decide +kernel) rfl, mem_g 48 (by decide +kernel) rfl, ⟨by decide +kernel, by decide +kernel, by decide +kernel⟩, by decide +kernel, by decide +kernel, by decide⟩
theorem kmX4_match : mMok mX4_match 2 := ⟨mem_g 674 (by decide +kernel) rfl, mem_g 48 (by decide +kernel) rfl, ⟨by decide +kernel, by decide +kernel, by decide +kernel⟩, by decide +kernel, by decide +kernel, by decide⟩
theorem kmX4_reach : mMok mX4_reach 3 := ⟨mem_g 678 (by decide +kernel) rfl, mem_g 48 (by decide +kernel) rfl, ⟨by decide +kernel, by decide +kernel, by decide +kernel⟩, by decide +kernel, by decide +kernel, by decide⟩
theorem kmX4_told : mMok mX4_told 3 := ⟨mem_g 683 (by decide +kernel) rfl, mem_g 48 (by decide +kernel) rfl, ⟨by decide +kernel, by decide +kernel, by decide +kernel⟩, by decide +kernel, by decide +kernel, by decide⟩
theorem kmX4_layPlaces : mMok mX4_layPlaces 0 := ⟨mem_g 687 (by decide +kernel) rfl, mem_g 48 (by decide +kernel) rfl, ⟨by decide +kernel, by decide +kernel, by decide +kernel⟩, by decide +kernel, by decide +kernel, by decide⟩
theorem kmX4_work : mMok mX4_work 1 := ⟨mem_g 691 (by decide +kernel) rfl, mem_g 48 (by decide +kernel) rfl, ⟨by decide +kernel, by decide +kernel, by decide +kernel⟩, by decide +kernel, by decide +kernel, by decide⟩
theorem kmX4_sides : mMok mX4_sides 1 := ⟨mem_g 695 (by decide +kernel) rfl, mem_g 48 (by decide +kernel) rfl, ⟨by decide +kernel, by decide +kernel, by decide +kernel⟩, by decide +kernel, by decide +kernel, by decide⟩
theorem kmX4_hasAny : mMok mX4_hasAny 1 := ⟨mem_g 698 (by decide +kernel) rfl, mem_g 48 (by decide +kernel) rfl, ⟨by decide +kernel, by decide +kernel, by decide +kernel⟩, by decide +kernel, by decide +kernel, by decide⟩
theorem kmX4_above : mMok mX4_above 2 := ⟨mem_g 702 (by decide +kernel) rfl, mem_g 48 (by decide +kernel) rfl, ⟨by decide +kernel, by decide +kernel, by decide +kernel⟩, by decide +kernel, by decide +kernel, by decide⟩
theorem kmX4_meet : mMok mX4_meet 4 := ⟨mem_g 706 (by decide +kernel) rfl, mem_g 48 (by decide +kernel) rfl, ⟨by decide +kernel, by decide +kernel, by decide +kernel⟩, by decide +kernel, by decide +kernel, by decide⟩
theorem kmX4_meetRound : mMok mX4_meetRound 2 := ⟨mem_g 710 (by decide +kernel) rfl, mem_g 48 (by decide +kernel) rfl, ⟨by decide +kernel, by decide +kernel, by decide +kernel⟩, by decide +kernel, by decide +kernel, by decide⟩
theorem kmX4_can : mMok mX4_can 1 := ⟨mem_g 714 (by decide +kernel) rfl, mem_g 48 (by decide +kernel) rfl, ⟨by decide +kernel, by decide +kernel, by decide +kernel⟩, by decide +kernel, by decide +kernel, by decide⟩
theorem kmX4_draws : mMok mX4_draws 0 := ⟨mem_g 718 (by decide +kernel) rfl, mem_g 48 (by decide +kernel) rfl, ⟨by decide +kernel, by decide +kernel, by decide +kernel⟩, by decide +kernel, by decide +kernel, by decide⟩
theorem kmX4_list : mMok mX4_list 0 := ⟨mem_g 722 (by decide +kernel) rfl, mem_g 48 (by decide +kernel) rfl, ⟨by decide +kernel, by decide +kernel, by decide +kernel⟩, by decide +kernel, by decide +kernel, by decide⟩
theorem kmX4_fits : mMok mX4_fits 1 := ⟨mem_g 726 (by decide +kernel) rfl, mem_g 48 (by decide +kernel) rfl, ⟨by decide +kernel, by decide +kernel, by decide +kernel⟩, by decide +kernel, by decide +kernel, by decide⟩
theorem kmX4_halvesFit : mMok mX4_halvesFit 1 := ⟨mem_g 730 (by decide +kernel) rfl, mem_g 48 (by decide +kernel) rfl, ⟨by decide +kernel, by decide +kernel, by decide +kernel⟩, by decide +kernel, by decide +kernel, by decide⟩
theorem kmX4_isBehind : mMok mX4_isBehind 2 := ⟨mem_g 734 (by decide +kernel) rfl, mem_g 48 (by decide +kernel) rfl, ⟨by decide +kernel, by decide +kernel, by decide +kernel⟩, by decide +kernel, by decide +kernel, by decide⟩
theorem kmX4_keep : mMok mX4_keep 0 := ⟨mem_g 738 (by decide +kernel) rfl, mem_g 48 (by decide +kernel) rfl, ⟨by decide +kernel, by decide +kernel, by decide +kernel⟩, by decide +kernel, by decide +kernel, by decide⟩
theorem kmX4_draw : mMok mX4_draw 2 := ⟨mem_g 742 (by decide +kernel) rfl, mem_g 48 (by decide +kernel) rfl, ⟨by decide +kernel, by decide +kernel, by decide +kernel⟩, by decide +kernel, by decide +kernel, by decide⟩
theorem kmX4_isDraw : mMok mX4_isDraw 1 := ⟨mem_g 746 (by decide +kernel) rfl, mem_g 48 (by decide +kernel) rfl, ⟨by decide +kernel, by decide +kernel, by decide +kernel⟩, by decide +kernel, by decide +kernel, by decide⟩
theorem kmX4_lay : mMok mX4_lay 1 := ⟨mem_g 750 (by decide +kernel) rfl, mem_g 48 (by decide +kernel) rfl, ⟨by decide +kernel, by decide +kernel, by decide +kernel⟩, by decide +kernel, by decide +kernel, by decide⟩
theorem kmX4_like : mMok mX4_like 0 := ⟨mem_g 754 (by decide +kernel) rfl, mem_g 48 (by decide +kernel) rfl, ⟨by decide +kernel, by decide +kernel, by decide +kernel⟩, by decide +kernel, by decide +kernel, by decide⟩
theorem kmX4_best : mMok mX4_best 2 := ⟨mem_g 758 (by decide +kernel) rfl, mem_g 48 (by decide +kernel) rfl, ⟨by decide +kernel, by decide +kernel, by decide +kernel⟩, by decide +kernel, by decide +kernel, by decide⟩
theorem kmX4_winsOf : mMok mX4_winsOf 2 := ⟨mem_g 762 (by decide +kernel) rfl, mem_g 48 (by decide +kernel) rfl, ⟨by decide +kernel, by decide +kernel, by decide +kernel⟩, by decide +kernel, by decide +kernel, by decide⟩
theorem kmX4_wins : mMok mX4_wins 3 := ⟨mem_g 766 (by decide +kernel) rfl, mem_g 48 (by decide +kernel) rfl, ⟨by decide +kernel, by decide +kernel, by decide +kernel⟩, by decide +kernel, by decide +kernel, by decide⟩
theorem kmX4_mean : mMok mX4_mean 2 := ⟨mem_g 770 (by decide +kernel) rfl, mem_g 48 (by decide +kernel) rfl, ⟨by decide +kernel, by decide +kernel, by decide +kernel⟩, by decide +kernel, by decide +kernel, by decide⟩
theorem kmX4_first : mMok mX4_first 3 := ⟨mem_g 774 (by decide +kernel) rfl, mem_g 48 (by decide +kernel) rfl, ⟨by decide +kernel, by decide +kernel, by decide +kernel⟩, by decide +kernel, by decide +kernel, by decide⟩
theorem kmX4_count : mMok mX4_count 1 := ⟨mem_g 778 (by decide +kernel) rfl, mem_g 48 (by decide +kernel) rfl, ⟨by decide +kernel, by decide +kernel, by decide +kernel⟩, by decide +kernel, by decide +kernel, by decide⟩
theorem q0 : mTok 5 9 2 0 mX3_init := ⟨kmX3_init, ⟨mem_g 53 (by decide +kernel) rfl, mem_g 54 (by decide +kernel) rfl, by decide +kernel, rfl⟩⟩
theorem q1 : mTok 3 9 2 0 mX2_init := ⟨kmX2_init, ⟨mem_g 61 (by decide +kernel) rfl, mem_g 62 (by decide +kernel) rfl, by decide +kernel, rfl⟩⟩
theorem q2 : mTok 2 18 0 1 mX2_renew := ⟨kmX2_renew, ⟨mem_g 65 (by decide +kernel) rfl, mem_g 66 (by decide +kernel) rfl, mem_g 67 (by decide +kernel) rfl, by decide⟩⟩
theorem q3 : mTok 2 26 1 2 mJ7_fill_53178 := ⟨kmJ7_fill_53178, ⟨mem_g 69 (by decide +kernel) rfl, mem_g 70 (by decide +kernel) rfl⟩⟩
theorem q4 : mTok 3 18 2 0 mX0_init := ⟨kmX0_init, ⟨mem_g 87 (by decide +kernel) rfl, mem_g 88 (by decide +kernel) rfl, by decide +kernel, rfl⟩⟩
theorem q5 : mTok 0 22 0 1 mX0_resize := ⟨kmX0_resize, ⟨mem_g 91 (by decide +kernel) rfl, mem_g 92 (by decide +kernel) rfl, mem_g 93 (by decide +kernel) rfl, by decide⟩⟩
theorem q6 : mTok 0 30 0 0 mX0_clear := ⟨kmX0_clear, ⟨mem_g 95 (by decide +kernel) rfl, mem_g 96 (by decide +kernel) rfl, mem_g 97 (by decide +kernel) rfl, by decide⟩⟩
theorem q7 : mTok 0 33 1 2 mJ7_fill_53178 := ⟨kmJ7_fill_53178, ⟨mem_g 99 (by decide +kernel) rfl, mem_g 70 (by decide +kernel) rfl⟩⟩
theorem q8 : mTok 0 39 0 0 mX0_openAll := ⟨kmX0_openAll, ⟨mem_g 100 (by decide +kernel) rfl, mem_g 101 (by decide +kernel) rfl, mem_g 102 (by decide +kernel) rfl, by decide⟩⟩
theorem q9 : mTok 3 28 2 0 mX1_init := ⟨kmX1_init, ⟨mem_g 122 (by decide +kernel) rfl, mem_g 123 (by decide +kernel) rfl, by decide +kernel, rfl⟩⟩
theorem q10 : mTok 5 13 0 1 mX3_players := ⟨kmX3_players, ⟨mem_g 159 (by decide +kernel) rfl, mem_g 160 (by decide +kernel) rfl, mem_g 161 (by decide +kernel) rfl, by decide⟩⟩
theorem q11 : mTok 3 44 0 1 mX2_renew := ⟨kmX2_renew, ⟨mem_g 163 (by decide +kernel) rfl, mem_g 66 (by decide +kernel) rfl, mem_g 67 (by decide +kernel) rfl, by decide⟩⟩
theorem q12 : mTok 3 48 0 0 mX0_clear := ⟨kmX0_clear, ⟨mem_g 164 (by decide +kernel) rfl, mem_g 96 (by decide +kernel) rfl, mem_g 97 (by decide +kernel) rfl, by decide⟩⟩
theorem q13 : mTok 5 18 0 3 mX3_chance := ⟨kmX3_chance, ⟨mem_g 165 (by decide +kernel) rfl, mem_g 166 (by decide +kernel) rfl, mem_g 167 (by decide +kernel) rfl, by decide⟩⟩
theorem q14 : mTok 3 51 0 1 mX2_has := ⟨kmX2_has, ⟨mem_g 169 (by decide +kernel) rfl, mem_g 170 (by decide +kernel) rfl, mem_g 171 (by decide +kernel) rfl, by decide⟩⟩
theorem q15 : mTok 3 55 0 2 mX2_chanceOf := ⟨kmX2_chanceOf, ⟨mem_g 173 (by decide +kernel) rfl, mem_g 174 (by decide +kernel) rfl, mem_g 175 (by decide +kernel) rfl, by decide⟩⟩
theorem q16 : mTok 3 59 0 3 mX2_setChance := ⟨kmX2_setChance, ⟨mem_g 177 (by decide +kernel) rfl, mem_g 178 (by decide +kernel) rfl, mem_g 179 (by decide +kernel) rfl, by decide⟩⟩
theorem q17 : mTok 2 32 1 3 mX2_setCell := ⟨kmX2_setCell, ⟨mem_g 181 (by decide +kernel) rfl, mem_g 182 (by decide +kernel) rfl⟩⟩
theorem q18 : mTok 5 23 0 3 mX3_apart := ⟨kmX3_apart, ⟨mem_g 184 (by decide +kernel) rfl, mem_g 185 (by decide +kernel) rfl, mem_g 186 (by decide +kernel) rfl, by decide⟩⟩
theorem q19 : mTok 3 63 0 2 mX2_apartUntil := ⟨kmX2_apartUntil, ⟨mem_g 188 (by decide +kernel) rfl, mem_g 189 (by decide +kernel) rfl, mem_g 190 (by decide +kernel) rfl, by decide⟩⟩
theorem q20 : mTok 3 66 0 3 mX2_setApart := ⟨kmX2_setApart, ⟨mem_g 192 (by decide +kernel) rfl, mem_g 193 (by decide +kernel) rfl, mem_g 194 (by decide +kernel) rfl, by decide⟩⟩
theorem q21 : mTok 5 27 0 1 mX3_cup := ⟨kmX3_cup, ⟨mem_g 196 (by decide +kernel) rfl, mem_g 197 (by decide +kernel) rfl, mem_g 198 (by decide +kernel) rfl, by decide⟩⟩
theorem q22 : mTok 3 72 0 1 mX0_resize := ⟨kmX0_resize, ⟨mem_g 200 (by decide +kernel) rfl, mem_g 92 (by decide +kernel) rfl, mem_g 93 (by decide +kernel) rfl, by decide⟩⟩
theorem q23 : mTok 5 31 0 2 mX3_put := ⟨kmX3_put, ⟨mem_g 201 (by decide +kernel) rfl, mem_g 202 (by decide +kernel) rfl, mem_g 203 (by decide +kernel) rfl, by decide⟩⟩
theorem q24 : mTok 3 75 0 1 mX0_hasPlace := ⟨kmX0_hasPlace, ⟨mem_g 205 (by decide +kernel) rfl, mem_g 206 (by decide +kernel) rfl, mem_g 207 (by decide +kernel) rfl, by decide⟩⟩
theorem q25 : mTok 3 78 0 1 mX0_placeOf := ⟨kmX0_placeOf, ⟨mem_g 209 (by decide +kernel) rfl, mem_g 210 (by decide +kernel) rfl, mem_g 211 (by decide +kernel) rfl, by decide⟩⟩
theorem q26 : mTok 0 50 0 1 mX0_playerAt := ⟨kmX0_playerAt, ⟨mem_g 213 (by decide +kernel) rfl, mem_g 214 (by decide +kernel) rfl, mem_g 215 (by decide +kernel) rfl, by decide⟩⟩
theorem q27 : mTok 3 82 0 1 mX0_playerAt := ⟨kmX0_playerAt, ⟨mem_g 217 (by decide +kernel) rfl, mem_g 214 (by decide +kernel) rfl, mem_g 215 (by decide +kernel) rfl, by decide⟩⟩
theorem q28 : mTok 3 85 0 2 mX0_setPlace := ⟨kmX0_setPlace, ⟨mem_g 218 (by decide +kernel) rfl, mem_g 219 (by decide +kernel) rfl, mem_g 220 (by decide +kernel) rfl, by decide⟩⟩
theorem q29 : mTok 3 89 0 0 mX0_openAll := ⟨kmX0_openAll, ⟨mem_g 222 (by decide +kernel) rfl, mem_g 101 (by decide +kernel) rfl, mem_g 102 (by decide +kernel) rfl, by decide⟩⟩
theorem q30 : mTok 3 92 1 1 mX3_told := ⟨kmX3_told, ⟨mem_g 223 (by decide +kernel) rfl, mem_g 224 (by decide +kernel) rfl⟩⟩
theorem q31 : mTok 5 36 0 1 mX3_at := ⟨kmX3_at, ⟨mem_g 226 (by decide +kernel) rfl, mem_g 227 (by decide +kernel) rfl, mem_g 228 (by decide +kernel) rfl, by decide⟩⟩
theorem q32 : mTok 5 40 0 2 mX3_won := ⟨kmX3_won, ⟨mem_g 230 (by decide +kernel) rfl, mem_g 231 (by decide +kernel) rfl, mem_g 232 (by decide +kernel) rfl, by decide⟩⟩
theorem q33 : mTok 3 95 0 1 mX0_hasMatch := ⟨kmX0_hasMatch, ⟨mem_g 234 (by decide +kernel) rfl, mem_g 235 (by decide +kernel) rfl, mem_g 236 (by decide +kernel) rfl, by decide⟩⟩
theorem q34 : mTok 3 98 0 1 mX0_weigh := ⟨kmX0_weigh, ⟨mem_g 238 (by decide +kernel) rfl, mem_g 239 (by decide +kernel) rfl, mem_g 240 (by decide +kernel) rfl, by decide⟩⟩
theorem q35 : mTok 0 88 0 3 mX0_setOdds := ⟨kmX0_setOdds, ⟨mem_g 242 (by decide +kernel) rfl, mem_g 244 (by decide +kernel) rfl, mem_g 0 (by decide +kernel) rfl, by decide⟩⟩
theorem q36 : mTok 0 84 0 0 mX0_lastRound := ⟨kmX0_lastRound, ⟨mem_g 246 (by decide +kernel) rfl, mem_g 247 (by decide +kernel) rfl, mem_g 248 (by decide +kernel) rfl, by decide⟩⟩
theorem q37 : mTok 0 92 0 4 mX0_weighMatch := ⟨kmX0_weighMatch, ⟨mem_g 250 (by decide +kernel) rfl, mem_g 252 (by decide +kernel) rfl, mem_g 1 (by decide +kernel) rfl, by decide⟩⟩
theorem q38 : mTok 0 54 0 1 mX0_winnerOf := ⟨kmX0_winnerOf, ⟨mem_g 254 (by decide +kernel) rfl, mem_g 255 (by decide +kernel) rfl, mem_g 256 (by decide +kernel) rfl, by decide⟩⟩
theorem q39 : mTok 0 96 3 1 mX3_partsOf := ⟨kmX3_partsOf, ⟨mem_lw 258 (by decide +kernel), mem_g 259 (by decide +kernel) rfl⟩⟩
theorem q40 : mTok 0 100 0 5 mX0_oddsAgainst := ⟨kmX0_oddsAgainst, ⟨mem_g 263 (by decide +kernel) rfl, mem_g 265 (by decide +kernel) rfl, mem_g 2 (by decide +kernel) rfl, by decide⟩⟩
theorem q41 : mTok 0 76 0 2 mX0_oddsOf := ⟨kmX0_oddsOf, ⟨mem_g 267 (by decide +kernel) rfl, mem_g 268 (by decide +kernel) rfl, mem_g 269 (by decide +kernel) rfl, by decide⟩⟩
theorem q42 : mTok 0 67 0 2 mX0_playersIn := ⟨kmX0_playersIn, ⟨mem_g 271 (by decide +kernel) rfl, mem_g 272 (by decide +kernel) rfl, mem_g 273 (by decide +kernel) rfl, by decide⟩⟩
theorem q43 : mTok 0 106 0 2 mX2_chanceOf := ⟨kmX2_chanceOf, ⟨mem_g 276 (by decide +kernel) rfl, mem_g 174 (by decide +kernel) rfl, mem_g 175 (by decide +kernel) rfl, by decide⟩⟩
theorem q44 : mTok 3 102 0 1 mX0_mayBeDecided := ⟨kmX0_mayBeDecided, ⟨mem_g 277 (by decide +kernel) rfl, mem_g 278 (by decide +kernel) rfl, mem_g 279 (by decide +kernel) rfl, by decide⟩⟩
theorem q45 : mTok 0 70 0 1 mX0_kindOf := ⟨kmX0_kindOf, ⟨mem_g 281 (by decide +kernel) rfl, mem_g 282 (by decide +kernel) rfl, mem_g 283 (by decide +kernel) rfl, by decide⟩⟩
theorem q46 : mTok 0 60 0 1 mX0_roundOf := ⟨kmX0_roundOf, ⟨mem_g 285 (by decide +kernel) rfl, mem_g 286 (by decide +kernel) rfl, mem_g 287 (by decide +kernel) rfl, by decide⟩⟩
theorem q47 : mTok 0 57 0 1 mX0_firstMatch := ⟨kmX0_firstMatch, ⟨mem_g 289 (by decide +kernel) rfl, mem_g 291 (by decide +kernel) rfl, mem_g 3 (by decide +kernel) rfl, by decide⟩⟩
theorem q48 : mTok 0 63 0 2 mX0_firstPlace := ⟨kmX0_firstPlace, ⟨mem_g 293 (by decide +kernel) rfl, mem_g 295 (by decide +kernel) rfl, mem_g 4 (by decide +kernel) rfl, by decide⟩⟩
theorem q49 : mTok 0 73 0 1 mX0_isSettled := ⟨kmX0_isSettled, ⟨mem_g 297 (by decide +kernel) rfl, mem_g 299 (by decide +kernel) rfl, mem_g 5 (by decide +kernel) rfl, by decide⟩⟩
theorem q50 : mTok 0 111 0 1 mX0_comers := ⟨kmX0_comers, ⟨mem_g 301 (by decide +kernel) rfl, mem_g 302 (by decide +kernel) rfl, mem_g 303 (by decide +kernel) rfl, by decide⟩⟩
theorem q51 : mTok 0 80 0 2 mX0_canCome := ⟨kmX0_canCome, ⟨mem_g 305 (by decide +kernel) rfl, mem_g 306 (by decide +kernel) rfl, mem_g 307 (by decide +kernel) rfl, by decide⟩⟩
theorem q52 : mTok 3 105 0 2 mX0_canCome := ⟨kmX0_canCome, ⟨mem_g 309 (by decide +kernel) rfl, mem_g 306 (by decide +kernel) rfl, mem_g 307 (by decide +kernel) rfl, by decide⟩⟩
theorem q53 : mTok 3 109 0 2 mX0_setWinner := ⟨kmX0_setWinner, ⟨mem_g 310 (by decide +kernel) rfl, mem_g 311 (by decide +kernel) rfl, mem_g 312 (by decide +kernel) rfl, by decide⟩⟩
theorem q54 : mTok 3 112 0 0 mX0_decidedMatches := ⟨kmX0_decidedMatches, ⟨mem_g 314 (by decide +kernel) rfl, mem_g 315 (by decide +kernel) rfl, mem_g 316 (by decide +kernel) rfl, by decide⟩⟩
theorem q55 : mTok 5 44 0 1 mX3_open := ⟨kmX3_open, ⟨mem_g 318 (by decide +kernel) rfl, mem_g 319 (by decide +kernel) rfl, mem_g 320 (by decide +kernel) rfl, by decide⟩⟩
theorem q56 : mTok 3 116 0 1 mX0_winnerOf := ⟨kmX0_winnerOf, ⟨mem_g 322 (by decide +kernel) rfl, mem_g 255 (by decide +kernel) rfl, mem_g 256 (by decide +kernel) rfl, by decide⟩⟩
theorem q57 : mTok 3 119 0 1 mX0_openUpwards := ⟨kmX0_openUpwards, ⟨mem_g 323 (by decide +kernel) rfl, mem_g 324 (by decide +kernel) rfl, mem_g 325 (by decide +kernel) rfl, by decide⟩⟩
theorem q58 : mTok 0 42 0 1 mX0_hasMatch := ⟨kmX0_hasMatch, ⟨mem_g 327 (by decide +kernel) rfl, mem_g 235 (by decide +kernel) rfl, mem_g 236 (by decide +kernel) rfl, by decide⟩⟩
theorem q59 : mTok 0 46 0 2 mX0_setWinner := ⟨kmX0_setWinner, ⟨mem_g 328 (by decide +kernel) rfl, mem_g 311 (by decide +kernel) rfl, mem_g 312 (by decide +kernel) rfl, by decide⟩⟩
theorem q60 : mTok 5 48 0 2 mX3_match := ⟨kmX3_match, ⟨mem_g 329 (by decide +kernel) rfl, mem_g 330 (by decide +kernel) rfl, mem_g 331 (by decide +kernel) rfl, by decide⟩⟩
theorem q61 : mTok 3 122 0 1 mX0_roundOf := ⟨kmX0_roundOf, ⟨mem_g 333 (by decide +kernel) rfl, mem_g 286 (by decide +kernel) rfl, mem_g 287 (by decide +kernel) rfl, by decide⟩⟩
theorem q62 : mTok 3 125 0 1 mX0_kindOf := ⟨kmX0_kindOf, ⟨mem_g 334 (by decide +kernel) rfl, mem_g 282 (by decide +kernel) rfl, mem_g 283 (by decide +kernel) rfl, by decide⟩⟩
theorem q63 : mTok 3 128 0 1 mX0_comers := ⟨kmX0_comers, ⟨mem_g 335 (by decide +kernel) rfl, mem_g 302 (by decide +kernel) rfl, mem_g 303 (by decide +kernel) rfl, by decide⟩⟩
theorem q64 : mTok 5 52 0 3 mX3_reach := ⟨kmX3_reach, ⟨mem_g 336 (by decide +kernel) rfl, mem_g 337 (by decide +kernel) rfl, mem_g 338 (by decide +kernel) rfl, by decide⟩⟩
theorem q65 : mTok 3 133 0 0 mX0_lastRound := ⟨kmX0_lastRound, ⟨mem_g 341 (by decide +kernel) rfl, mem_g 247 (by decide +kernel) rfl, mem_g 248 (by decide +kernel) rfl, by decide⟩⟩
theorem q66 : mTok 3 138 0 2 mX0_oddsOf := ⟨kmX0_oddsOf, ⟨mem_g 343 (by decide +kernel) rfl, mem_g 268 (by decide +kernel) rfl, mem_g 269 (by decide +kernel) rfl, by decide⟩⟩
theorem q67 : mTok 3 142 1 1 mX3_partsOf := ⟨kmX3_partsOf, ⟨mem_g 344 (by decide +kernel) rfl, mem_g 259 (by decide +kernel) rfl⟩⟩
theorem q68 : mTok 3 146 1 3 mX3_fraction := ⟨kmX3_fraction, ⟨mem_g 345 (by decide +kernel) rfl, mem_g 346 (by decide +kernel) rfl⟩⟩
theorem q69 : mTok 3 196 1 2 mX3_commonDivisor := ⟨kmX3_commonDivisor, ⟨mem_g 348 (by decide +kernel) rfl, mem_g 349 (by decide +kernel) rfl⟩⟩
theorem q70 : mTok 5 57 0 4 mX3_meet := ⟨kmX3_meet, ⟨mem_g 351 (by decide +kernel) rfl, mem_g 352 (by decide +kernel) rfl, mem_g 353 (by decide +kernel) rfl, by decide⟩⟩
theorem q71 : mTok 3 152 1 2 mX3_meetingRound := ⟨kmX3_meetingRound, ⟨mem_g 356 (by decide +kernel) rfl, mem_g 357 (by decide +kernel) rfl⟩⟩
theorem q72 : mTok 5 62 0 1 mX3_can := ⟨kmX3_can, ⟨mem_g 359 (by decide +kernel) rfl, mem_g 360 (by decide +kernel) rfl, mem_g 361 (by decide +kernel) rfl, by decide⟩⟩
theorem q73 : mTok 3 155 0 0 mX0_possibleWinners := ⟨kmX0_possibleWinners, ⟨mem_g 363 (by decide +kernel) rfl, mem_g 364 (by decide +kernel) rfl, mem_g 365 (by decide +kernel) rfl, by decide⟩⟩
theorem q74 : mTok 5 66 0 0 mX3_draws := ⟨kmX3_draws, ⟨mem_g 367 (by decide +kernel) rfl, mem_g 368 (by decide +kernel) rfl, mem_g 369 (by decide +kernel) rfl, by decide⟩⟩
theorem q75 : mTok 3 158 0 0 mX3_makeList := ⟨kmX3_makeList, ⟨mem_g 371 (by decide +kernel) rfl, mem_g 373 (by decide +kernel) rfl, mem_g 6 (by decide +kernel) rfl, by decide⟩⟩
theorem q76 : mTok 3 185 0 2 mX1_make := ⟨kmX1_make, ⟨mem_g 375 (by decide +kernel) rfl, mem_g 376 (by decide +kernel) rfl, mem_g 377 (by decide +kernel) rfl, by decide⟩⟩
theorem q77 : mTok 1 34 1 2 mJ7_fill_53178 := ⟨kmJ7_fill_53178, ⟨mem_g 379 (by decide +kernel) rfl, mem_g 70 (by decide +kernel) rfl⟩⟩
theorem q78 : mTok 1 43 1 5 mX1_fill := ⟨kmX1_fill, ⟨mem_g 380 (by decide +kernel) rfl, mem_g 381 (by decide +kernel) rfl⟩⟩
theorem q79 : mTok 1 46 0 0 mX1_keepRow := ⟨kmX1_keepRow, ⟨mem_g 383 (by decide +kernel) rfl, mem_g 385 (by decide +kernel) rfl, mem_g 7 (by decide +kernel) rfl, by decide⟩⟩
theorem q80 : mTok 1 49 0 2 mX1_keepsOrder := ⟨kmX1_keepsOrder, ⟨mem_g 390 (by decide +kernel) rfl, mem_g 392 (by decide +kernel) rfl, mem_g 8 (by decide +kernel) rfl, by decide⟩⟩
theorem q81 : mTok 1 53 0 3 mX1_keepsApart := ⟨kmX1_keepsApart, ⟨mem_g 394 (by decide +kernel) rfl, mem_g 396 (by decide +kernel) rfl, mem_g 9 (by decide +kernel) rfl, by decide⟩⟩
theorem q82 : mTok 1 69 3 2 mX3_meetingRound := ⟨kmX3_meetingRound, ⟨mem_lw 398 (by decide +kernel), mem_g 357 (by decide +kernel) rfl⟩⟩
theorem q83 : mTok 1 72 0 2 mX2_apartUntil := ⟨kmX2_apartUntil, ⟨mem_g 399 (by decide +kernel) rfl, mem_g 189 (by decide +kernel) rfl, mem_g 190 (by decide +kernel) rfl, by decide⟩⟩
theorem q84 : mTok 1 57 1 1 mJ6_bitCount_0f7a4 := ⟨kmJ6_bitCount_0f7a4, ⟨mem_g 400 (by decide +kernel) rfl, mem_g 401 (by decide +kernel) rfl⟩⟩
theorem q85 : mTok 5 71 0 2 mX3_draw := ⟨kmX3_draw, ⟨mem_g 406 (by decide +kernel) rfl, mem_g 407 (by decide +kernel) rfl, mem_g 408 (by decide +kernel) rfl, by decide⟩⟩
theorem q86 : mTok 3 162 0 1 mX1_has := ⟨kmX1_has, ⟨mem_g 410 (by decide +kernel) rfl, mem_g 411 (by decide +kernel) rfl, mem_g 412 (by decide +kernel) rfl, by decide⟩⟩
theorem q87 : mTok 3 163 0 2 mX1_playerAt := ⟨kmX1_playerAt, ⟨mem_g 414 (by decide +kernel) rfl, mem_g 415 (by decide +kernel) rfl, mem_g 416 (by decide +kernel) rfl, by decide⟩⟩
theorem q88 : mTok 1 26 0 1 mX1_has := ⟨kmX1_has, ⟨mem_g 418 (by decide +kernel) rfl, mem_g 411 (by decide +kernel) rfl, mem_g 412 (by decide +kernel) rfl, by decide⟩⟩
theorem q89 : mTok 5 75 0 1 mX3_lay := ⟨kmX3_lay, ⟨mem_g 419 (by decide +kernel) rfl, mem_g 420 (by decide +kernel) rfl, mem_g 421 (by decide +kernel) rfl, by decide⟩⟩
theorem q90 : mTok 3 165 0 2 mX1_layInto := ⟨kmX1_layInto, ⟨mem_g 423 (by decide +kernel) rfl, mem_g 424 (by decide +kernel) rfl, mem_g 425 (by decide +kernel) rfl, by decide⟩⟩
theorem q91 : mTok 1 30 0 2 mX1_playerAt := ⟨kmX1_playerAt, ⟨mem_g 427 (by decide +kernel) rfl, mem_g 415 (by decide +kernel) rfl, mem_g 416 (by decide +kernel) rfl, by decide⟩⟩
theorem q92 : mTok 1 80 0 2 mX0_setPlace := ⟨kmX0_setPlace, ⟨mem_g 428 (by decide +kernel) rfl, mem_g 219 (by decide +kernel) rfl, mem_g 220 (by decide +kernel) rfl, by decide⟩⟩
theorem q93 : mTok 1 84 0 0 mX0_openAll := ⟨kmX0_openAll, ⟨mem_g 429 (by decide +kernel) rfl, mem_g 101 (by decide +kernel) rfl, mem_g 102 (by decide +kernel) rfl, by decide⟩⟩
theorem q94 : mTok 5 79 0 0 mX3_like := ⟨kmX3_like, ⟨mem_g 430 (by decide +kernel) rfl, mem_g 431 (by decide +kernel) rfl, mem_g 432 (by decide +kernel) rfl, by decide⟩⟩
theorem q95 : mTok 3 169 0 1 mX1_numberOfLike := ⟨kmX1_numberOfLike, ⟨mem_g 434 (by decide +kernel) rfl, mem_g 435 (by decide +kernel) rfl, mem_g 436 (by decide +kernel) rfl, by decide⟩⟩
theorem q96 : mTok 1 109 0 1 mX1_orderRowOf := ⟨kmX1_orderRowOf, ⟨mem_g 438 (by decide +kernel) rfl, mem_g 440 (by decide +kernel) rfl, mem_g 10 (by decide +kernel) rfl, by decide⟩⟩
theorem q97 : mTok 1 99 0 1 mX0_playerAt := ⟨kmX0_playerAt, ⟨mem_g 442 (by decide +kernel) rfl, mem_g 214 (by decide +kernel) rfl, mem_g 215 (by decide +kernel) rfl, by decide⟩⟩
theorem q98 : mTok 1 116 0 2 mX1_exchange := ⟨kmX1_exchange, ⟨mem_g 443 (by decide +kernel) rfl, mem_g 445 (by decide +kernel) rfl, mem_g 11 (by decide +kernel) rfl, by decide⟩⟩
theorem q99 : mTok 1 113 0 1 mX1_isRow := ⟨kmX1_isRow, ⟨mem_g 447 (by decide +kernel) rfl, mem_g 449 (by decide +kernel) rfl, mem_g 12 (by decide +kernel) rfl, by decide⟩⟩
theorem q100 : mTok 5 83 0 2 mX3_best := ⟨kmX3_best, ⟨mem_g 451 (by decide +kernel) rfl, mem_g 452 (by decide +kernel) rfl, mem_g 453 (by decide +kernel) rfl, by decide⟩⟩
theorem q101 : mTok 3 173 0 0 mX3_weighList := ⟨kmX3_weighList, ⟨mem_g 455 (by decide +kernel) rfl, mem_g 457 (by decide +kernel) rfl, mem_g 13 (by decide +kernel) rfl, by decide⟩⟩
theorem q102 : mTok 3 189 0 2 mX1_weigh := ⟨kmX1_weigh, ⟨mem_g 459 (by decide +kernel) rfl, mem_g 460 (by decide +kernel) rfl, mem_g 461 (by decide +kernel) rfl, by decide⟩⟩
theorem q103 : mTok 1 87 0 0 mX0_lastRound := ⟨kmX0_lastRound, ⟨mem_g 463 (by decide +kernel) rfl, mem_g 247 (by decide +kernel) rfl, mem_g 248 (by decide +kernel) rfl, by decide⟩⟩
theorem q104 : mTok 1 91 0 2 mX1_layInto := ⟨kmX1_layInto, ⟨mem_g 464 (by decide +kernel) rfl, mem_g 424 (by decide +kernel) rfl, mem_g 425 (by decide +kernel) rfl, by decide⟩⟩
theorem q105 : mTok 1 95 0 1 mX0_weigh := ⟨kmX0_weigh, ⟨mem_g 465 (by decide +kernel) rfl, mem_g 239 (by decide +kernel) rfl, mem_g 240 (by decide +kernel) rfl, by decide⟩⟩
theorem q106 : mTok 1 101 0 2 mX0_oddsOf := ⟨kmX0_oddsOf, ⟨mem_g 466 (by decide +kernel) rfl, mem_g 268 (by decide +kernel) rfl, mem_g 269 (by decide +kernel) rfl, by decide⟩⟩
theorem q107 : mTok 1 105 0 3 mX1_setOdds := ⟨kmX1_setOdds, ⟨mem_g 467 (by decide +kernel) rfl, mem_g 469 (by decide +kernel) rfl, mem_g 14 (by decide +kernel) rfl, by decide⟩⟩
theorem q108 : mTok 3 176 0 2 mX1_oddsOf := ⟨kmX1_oddsOf, ⟨mem_g 471 (by decide +kernel) rfl, mem_g 472 (by decide +kernel) rfl, mem_g 473 (by decide +kernel) rfl, by decide⟩⟩
theorem q109 : mTok 5 88 0 3 mX3_wins := ⟨kmX3_wins, ⟨mem_g 475 (by decide +kernel) rfl, mem_g 476 (by decide +kernel) rfl, mem_g 477 (by decide +kernel) rfl, by decide⟩⟩
theorem q110 : mTok 5 92 0 2 mX3_mean := ⟨kmX3_mean, ⟨mem_g 479 (by decide +kernel) rfl, mem_g 480 (by decide +kernel) rfl, mem_g 481 (by decide +kernel) rfl, by decide⟩⟩
theorem q111 : mTok 5 97 0 3 mX3_first := ⟨kmX3_first, ⟨mem_g 483 (by decide +kernel) rfl, mem_g 484 (by decide +kernel) rfl, mem_g 485 (by decide +kernel) rfl, by decide⟩⟩
theorem q112 : mTok 3 177 0 2 mX1_placeOf := ⟨kmX1_placeOf, ⟨mem_g 487 (by decide +kernel) rfl, mem_g 488 (by decide +kernel) rfl, mem_g 489 (by decide +kernel) rfl, by decide⟩⟩
theorem q113 : mTok 5 101 0 1 mX3_count := ⟨kmX3_count, ⟨mem_g 491 (by decide +kernel) rfl, mem_g 492 (by decide +kernel) rfl, mem_g 493 (by decide +kernel) rfl, by decide⟩⟩
theorem q114 : mTok 3 179 0 2 mX0_playersIn := ⟨kmX0_playersIn, ⟨mem_g 495 (by decide +kernel) rfl, mem_g 272 (by decide +kernel) rfl, mem_g 273 (by decide +kernel) rfl, by decide⟩⟩
theorem q115 : mTok 3 182 0 0 mX2_pairsApart := ⟨kmX2_pairsApart, ⟨mem_g 496 (by decide +kernel) rfl, mem_g 497 (by decide +kernel) rfl, mem_g 498 (by decide +kernel) rfl, by decide⟩⟩
theorem q116 : mTok 2 36 0 2 mX2_apartUntil := ⟨kmX2_apartUntil, ⟨mem_g 500 (by decide +kernel) rfl, mem_g 189 (by decide +kernel) rfl, mem_g 190 (by decide +kernel) rfl, by decide⟩⟩
theorem q117 : mTok 5 12 2 0 mX4_init := ⟨kmX4_init, ⟨mem_g 503 (by decide +kernel) rfl, mem_g 504 (by decide +kernel) rfl, by decide +kernel, rfl⟩⟩
theorem q118 : mTok 4 57 0 0 mX4_begin := ⟨kmX4_begin, ⟨mem_g 507 (by decide +kernel) rfl, mem_g 509 (by decide +kernel) rfl, mem_g 15 (by decide +kernel) rfl, by decide⟩⟩
theorem q119 : mTok 4 64 0 0 mX4_sweep := ⟨kmX4_sweep, ⟨mem_g 511 (by decide +kernel) rfl, mem_g 513 (by decide +kernel) rfl, mem_g 16 (by decide +kernel) rfl, by decide⟩⟩
theorem q120 : mTok 4 71 0 0 mX4_undecide := ⟨kmX4_undecide, ⟨mem_g 515 (by decide +kernel) rfl, mem_g 517 (by decide +kernel) rfl, mem_g 17 (by decide +kernel) rfl, by decide⟩⟩
theorem q121 : mTok 5 17 0 1 mX4_players := ⟨kmX4_players, ⟨mem_g 577 (by decide +kernel) rfl, mem_g 578 (by decide +kernel) rfl, mem_g 579 (by decide +kernel) rfl, by decide⟩⟩
theorem q122 : mTok 4 60 1 3 mX4_in := ⟨kmX4_in, ⟨mem_g 583 (by decide +kernel) rfl, mem_g 584 (by decide +kernel) rfl⟩⟩
theorem q123 : mTok 5 22 0 3 mX4_chance := ⟨kmX4_chance, ⟨mem_g 586 (by decide +kernel) rfl, mem_g 587 (by decide +kernel) rfl, mem_g 588 (by decide +kernel) rfl, by decide⟩⟩
theorem q124 : mTok 4 78 0 1 mX4_isPlayer := ⟨kmX4_isPlayer, ⟨mem_g 590 (by decide +kernel) rfl, mem_g 592 (by decide +kernel) rfl, mem_g 18 (by decide +kernel) rfl, by decide⟩⟩
theorem q125 : mTok 5 26 0 3 mX4_apart := ⟨kmX4_apart, ⟨mem_g 595 (by decide +kernel) rfl, mem_g 596 (by decide +kernel) rfl, mem_g 597 (by decide +kernel) rfl, by decide⟩⟩
theorem q126 : mTok 5 30 0 1 mX4_cup := ⟨kmX4_cup, ⟨mem_g 600 (by decide +kernel) rfl, mem_g 601 (by decide +kernel) rfl, mem_g 602 (by decide +kernel) rfl, by decide⟩⟩
theorem q127 : mTok 5 35 0 2 mX4_put := ⟨kmX4_put, ⟨mem_g 604 (by decide +kernel) rfl, mem_g 605 (by decide +kernel) rfl, mem_g 606 (by decide +kernel) rfl, by decide⟩⟩
theorem q128 : mTok 4 94 0 1 mX4_isPlace := ⟨kmX4_isPlace, ⟨mem_g 608 (by decide +kernel) rfl, mem_g 610 (by decide +kernel) rfl, mem_g 19 (by decide +kernel) rfl, by decide⟩⟩
theorem q129 : mTok 4 97 0 1 mX4_placeOf := ⟨kmX4_placeOf, ⟨mem_g 612 (by decide +kernel) rfl, mem_g 614 (by decide +kernel) rfl, mem_g 20 (by decide +kernel) rfl, by decide⟩⟩
theorem q130 : mTok 5 39 0 1 mX4_at := ⟨kmX4_at, ⟨mem_g 616 (by decide +kernel) rfl, mem_g 617 (by decide +kernel) rfl, mem_g 618 (by decide +kernel) rfl, by decide⟩⟩
theorem q131 : mTok 5 43 0 2 mX4_won := ⟨kmX4_won, ⟨mem_g 620 (by decide +kernel) rfl, mem_g 621 (by decide +kernel) rfl, mem_g 622 (by decide +kernel) rfl, by decide⟩⟩
theorem q132 : mTok 4 116 0 1 mX4_isMatch := ⟨kmX4_isMatch, ⟨mem_g 624 (by decide +kernel) rfl, mem_g 626 (by decide +kernel) rfl, mem_g 21 (by decide +kernel) rfl, by decide⟩⟩
theorem q133 : mTok 4 119 0 0 mX4_spread := ⟨kmX4_spread, ⟨mem_g 628 (by decide +kernel) rfl, mem_g 630 (by decide +kernel) rfl, mem_g 22 (by decide +kernel) rfl, by decide⟩⟩
theorem q134 : mTok 4 100 0 1 mX4_roundOf := ⟨kmX4_roundOf, ⟨mem_g 632 (by decide +kernel) rfl, mem_g 634 (by decide +kernel) rfl, mem_g 23 (by decide +kernel) rfl, by decide⟩⟩
theorem q135 : mTok 4 86 0 0 mX4_rounds := ⟨kmX4_rounds, ⟨mem_g 636 (by decide +kernel) rfl, mem_g 638 (by decide +kernel) rfl, mem_g 24 (by decide +kernel) rfl, by decide⟩⟩
theorem q136 : mTok 4 90 0 1 mX4_startOf := ⟨kmX4_startOf, ⟨mem_g 640 (by decide +kernel) rfl, mem_g 642 (by decide +kernel) rfl, mem_g 25 (by decide +kernel) rfl, by decide⟩⟩
theorem q137 : mTok 4 103 0 1 mX4_bit := ⟨kmX4_bit, ⟨mem_g 644 (by decide +kernel) rfl, mem_g 646 (by decide +kernel) rfl, mem_g 26 (by decide +kernel) rfl, by decide⟩⟩
theorem q138 : mTok 4 106 0 2 mX4_beaters := ⟨kmX4_beaters, ⟨mem_g 648 (by decide +kernel) rfl, mem_g 650 (by decide +kernel) rfl, mem_g 27 (by decide +kernel) rfl, by decide⟩⟩
theorem q139 : mTok 4 122 0 1 mX4_isSettled := ⟨kmX4_isSettled, ⟨mem_g 652 (by decide +kernel) rfl, mem_g 654 (by decide +kernel) rfl, mem_g 28 (by decide +kernel) rfl, by decide⟩⟩
theorem q140 : mTok 4 110 0 1 mX4_sort := ⟨kmX4_sort, ⟨mem_g 656 (by decide +kernel) rfl, mem_g 658 (by decide +kernel) rfl, mem_g 29 (by decide +kernel) rfl, by decide⟩⟩
theorem q141 : mTok 4 113 1 1 mX4_many := ⟨kmX4_many, ⟨mem_g 660 (by decide +kernel) rfl, mem_g 661 (by decide +kernel) rfl⟩⟩
theorem q142 : mTok 4 125 0 0 mX4_decided := ⟨kmX4_decided, ⟨mem_g 663 (by decide +kernel) rfl, mem_g 665 (by decide +kernel) rfl, mem_g 30 (by decide +kernel) rfl, by decide⟩⟩
theorem q143 : mTok 5 47 0 1 mX4_open := ⟨kmX4_open, ⟨mem_g 667 (by decide +kernel) rfl, mem_g 668 (by decide +kernel) rfl, mem_g 669 (by decide +kernel) rfl, by decide⟩⟩
theorem q144 : mTok 5 51 0 2 mX4_match := ⟨kmX4_match, ⟨mem_g 671 (by decide +kernel) rfl, mem_g 672 (by decide +kernel) rfl, mem_g 673 (by decide +kernel) rfl, by decide⟩⟩
theorem q145 : mTok 5 56 0 3 mX4_reach := ⟨kmX4_reach, ⟨mem_g 675 (by decide +kernel) rfl, mem_g 676 (by decide +kernel) rfl, mem_g 677 (by decide +kernel) rfl, by decide⟩⟩
theorem q146 : mTok 4 147 1 3 mX4_told := ⟨kmX4_told, ⟨mem_g 681 (by decide +kernel) rfl, mem_g 682 (by decide +kernel) rfl⟩⟩
theorem q147 : mTok 4 151 0 0 mX4_layPlaces := ⟨kmX4_layPlaces, ⟨mem_g 684 (by decide +kernel) rfl, mem_g 686 (by decide +kernel) rfl, mem_g 31 (by decide +kernel) rfl, by decide⟩⟩
theorem q148 : mTok 4 154 0 1 mX4_work := ⟨kmX4_work, ⟨mem_g 688 (by decide +kernel) rfl, mem_g 690 (by decide +kernel) rfl, mem_g 32 (by decide +kernel) rfl, by decide⟩⟩
theorem q149 : mTok 4 135 0 1 mX4_sides := ⟨kmX4_sides, ⟨mem_g 692 (by decide +kernel) rfl, mem_g 694 (by decide +kernel) rfl, mem_g 33 (by decide +kernel) rfl, by decide⟩⟩
theorem q150 : mTok 4 139 1 1 mX4_hasAny := ⟨kmX4_hasAny, ⟨mem_g 696 (by decide +kernel) rfl, mem_g 697 (by decide +kernel) rfl⟩⟩
theorem q151 : mTok 4 158 0 2 mX4_above := ⟨kmX4_above, ⟨mem_g 699 (by decide +kernel) rfl, mem_g 701 (by decide +kernel) rfl, mem_g 34 (by decide +kernel) rfl, by decide⟩⟩
theorem q152 : mTok 5 61 0 4 mX4_meet := ⟨kmX4_meet, ⟨mem_g 703 (by decide +kernel) rfl, mem_g 704 (by decide +kernel) rfl, mem_g 705 (by decide +kernel) rfl, by decide⟩⟩
theorem q153 : mTok 4 163 1 2 mX4_meetRound := ⟨kmX4_meetRound, ⟨mem_g 708 (by decide +kernel) rfl, mem_g 709 (by decide +kernel) rfl⟩⟩
theorem q154 : mTok 5 65 0 1 mX4_can := ⟨kmX4_can, ⟨mem_g 711 (by decide +kernel) rfl, mem_g 712 (by decide +kernel) rfl, mem_g 713 (by decide +kernel) rfl, by decide⟩⟩
theorem q155 : mTok 5 70 0 0 mX4_draws := ⟨kmX4_draws, ⟨mem_g 715 (by decide +kernel) rfl, mem_g 716 (by decide +kernel) rfl, mem_g 717 (by decide +kernel) rfl, by decide⟩⟩
theorem q156 : mTok 4 182 0 0 mX4_list := ⟨kmX4_list, ⟨mem_g 719 (by decide +kernel) rfl, mem_g 721 (by decide +kernel) rfl, mem_g 35 (by decide +kernel) rfl, by decide⟩⟩
theorem q157 : mTok 4 176 0 1 mX4_fits := ⟨kmX4_fits, ⟨mem_g 723 (by decide +kernel) rfl, mem_g 725 (by decide +kernel) rfl, mem_g 36 (by decide +kernel) rfl, by decide⟩⟩
theorem q158 : mTok 4 170 0 1 mX4_halvesFit := ⟨kmX4_halvesFit, ⟨mem_g 727 (by decide +kernel) rfl, mem_g 729 (by decide +kernel) rfl, mem_g 37 (by decide +kernel) rfl, by decide⟩⟩
theorem q159 : mTok 4 166 0 2 mX4_isBehind := ⟨kmX4_isBehind, ⟨mem_g 731 (by decide +kernel) rfl, mem_g 733 (by decide +kernel) rfl, mem_g 38 (by decide +kernel) rfl, by decide⟩⟩
theorem q160 : mTok 4 179 0 0 mX4_keep := ⟨kmX4_keep, ⟨mem_g 735 (by decide +kernel) rfl, mem_g 737 (by decide +kernel) rfl, mem_g 39 (by decide +kernel) rfl, by decide⟩⟩
theorem q161 : mTok 5 74 0 2 mX4_draw := ⟨kmX4_draw, ⟨mem_g 739 (by decide +kernel) rfl, mem_g 740 (by decide +kernel) rfl, mem_g 741 (by decide +kernel) rfl, by decide⟩⟩
theorem q162 : mTok 4 185 0 1 mX4_isDraw := ⟨kmX4_isDraw, ⟨mem_g 743 (by decide +kernel) rfl, mem_g 745 (by decide +kernel) rfl, mem_g 40 (by decide +kernel) rfl, by decide⟩⟩
theorem q163 : mTok 5 78 0 1 mX4_lay := ⟨kmX4_lay, ⟨mem_g 747 (by decide +kernel) rfl, mem_g 748 (by decide +kernel) rfl, mem_g 749 (by decide +kernel) rfl, by decide⟩⟩
theorem q164 : mTok 5 82 0 0 mX4_like := ⟨kmX4_like, ⟨mem_g 751 (by decide +kernel) rfl, mem_g 752 (by decide +kernel) rfl, mem_g 753 (by decide +kernel) rfl, by decide⟩⟩
theorem q165 : mTok 5 87 0 2 mX4_best := ⟨kmX4_best, ⟨mem_g 755 (by decide +kernel) rfl, mem_g 756 (by decide +kernel) rfl, mem_g 757 (by decide +kernel) rfl, by decide⟩⟩
theorem q166 : mTok 4 188 0 2 mX4_winsOf := ⟨kmX4_winsOf, ⟨mem_g 759 (by decide +kernel) rfl, mem_g 761 (by decide +kernel) rfl, mem_g 41 (by decide +kernel) rfl, by decide⟩⟩
theorem q167 : mTok 5 91 0 3 mX4_wins := ⟨kmX4_wins, ⟨mem_g 763 (by decide +kernel) rfl, mem_g 764 (by decide +kernel) rfl, mem_g 765 (by decide +kernel) rfl, by decide⟩⟩
theorem q168 : mTok 5 96 0 2 mX4_mean := ⟨kmX4_mean, ⟨mem_g 767 (by decide +kernel) rfl, mem_g 768 (by decide +kernel) rfl, mem_g 769 (by decide +kernel) rfl, by decide⟩⟩
theorem q169 : mTok 5 100 0 3 mX4_first := ⟨kmX4_first, ⟨mem_g 771 (by decide +kernel) rfl, mem_g 772 (by decide +kernel) rfl, mem_g 773 (by decide +kernel) rfl, by decide⟩⟩
theorem q170 : mTok 5 104 0 1 mX4_count := ⟨kmX4_count, ⟨mem_g 775 (by decide +kernel) rfl, mem_g 776 (by decide +kernel) rfl, mem_g 777 (by decide +kernel) rfl, by decide⟩⟩
def mFok (own idx ci k : Nat) : Prop := ∃ r : vw_C, vwCl[ci]? = some r ∧ k < r.2.2 ∧ Cond.fieldLink (mN own) idx (r.2.1 k).1 (r.2.1 k).2.1 (r.2.1 k).2.2.1 ∈ gT
theorem f0 : mFok 2 22 2 0 := ⟨_, rfl, by decide, mem_g 72 (by decide +kernel) rfl⟩
theorem f1 : mFok 3 40 2 0 := ⟨_, rfl, by decide, mem_g 73 (by decide +kernel) rfl⟩
theorem f2 : mFok 1 40 2 0 := ⟨_, rfl, by decide, mem_g 74 (by decide +kernel) rfl⟩
theorem f3 : mFok 2 9 2 1 := ⟨_, rfl, by decide, mem_g 75 (by decide +kernel) rfl⟩
theorem f4 : mFok 2 15 2 2 := ⟨_, rfl, by decide, mem_g 76 (by decide +kernel) rfl⟩
theorem f5 : mFok 0 26 0 0 := ⟨_, rfl, by decide, mem_g 104 (by decide +kernel) rfl⟩
theorem f6 : mFok 3 69 0 0 := ⟨_, rfl, by decide, mem_g 105 (by decide +kernel) rfl⟩
theorem f7 : mFok 1 75 0 0 := ⟨_, rfl, by decide, mem_g 106 (by decide +kernel) rfl⟩
theorem f8 : mFok 0 9 0 1 := ⟨_, rfl, by decide, mem_g 107 (by decide +kernel) rfl⟩
theorem f9 : mFok 0 15 0 2 := ⟨_, rfl, by decide, mem_g 108 (by decide +kernel) rfl⟩
theorem f10 : mFok 0 18 0 3 := ⟨_, rfl, by decide, mem_g 109 (by decide +kernel) rfl⟩
theorem f11 : mFok 1 22 1 0 := ⟨_, rfl, by decide, mem_g 126 (by decide +kernel) rfl⟩
theorem f12 : mFok 3 161 1 0 := ⟨_, rfl, by decide, mem_g 127 (by decide +kernel) rfl⟩
theorem f13 : mFok 1 9 1 1 := ⟨_, rfl, by decide, mem_g 128 (by decide +kernel) rfl⟩
theorem f14 : mFok 1 15 1 2 := ⟨_, rfl, by decide, mem_g 129 (by decide +kernel) rfl⟩
theorem f15 : mFok 1 18 1 3 := ⟨_, rfl, by decide, mem_g 130 (by decide +kernel) rfl⟩
theorem f16 : mFok 3 10 3 0 := ⟨_, rfl, by decide, mem_g 140 (by decide +kernel) rfl⟩
theorem f17 : mFok 3 19 3 1 := ⟨_, rfl, by decide, mem_g 141 (by decide +kernel) rfl⟩
theorem f18 : mFok 3 23 3 2 := ⟨_, rfl, by decide, mem_g 142 (by decide +kernel) rfl⟩
theorem f19 : mFok 3 29 3 3 := ⟨_, rfl, by decide, mem_g 143 (by decide +kernel) rfl⟩
theorem f20 : mFok 3 33 3 4 := ⟨_, rfl, by decide, mem_g 144 (by decide +kernel) rfl⟩
theorem f21 : mFok 3 37 3 5 := ⟨_, rfl, by decide, mem_g 145 (by decide +kernel) rfl⟩
theorem f22 : mFok 4 7 4 0 := ⟨_, rfl, by decide, mem_g 519 (by decide +kernel) rfl⟩
theorem f23 : mFok 4 13 4 1 := ⟨_, rfl, by decide, mem_g 520 (by decide +kernel) rfl⟩
theorem f24 : mFok 4 16 4 2 := ⟨_, rfl, by decide, mem_g 521 (by decide +kernel) rfl⟩
theorem f25 : mFok 4 20 4 3 := ⟨_, rfl, by decide, mem_g 522 (by decide +kernel) rfl⟩
theorem f26 : mFok 4 23 4 4 := ⟨_, rfl, by decide, mem_g 523 (by decide +kernel) rfl⟩
theorem f27 : mFok 4 26 4 5 := ⟨_, rfl, by decide, mem_g 524 (by decide +kernel) rfl⟩
theorem f28 : mFok 4 29 4 6 := ⟨_, rfl, by decide, mem_g 525 (by decide +kernel) rfl⟩
theorem f29 : mFok 4 32 4 7 := ⟨_, rfl, by decide, mem_g 526 (by decide +kernel) rfl⟩
theorem f30 : mFok 4 35 4 8 := ⟨_, rfl, by decide, mem_g 527 (by decide +kernel) rfl⟩
theorem f31 : mFok 4 38 4 9 := ⟨_, rfl, by decide, mem_g 528 (by decide +kernel) rfl⟩
theorem f32 : mFok 4 41 4 10 := ⟨_, rfl, by decide, mem_g 529 (by decide +kernel) rfl⟩
theorem f33 : mFok 4 45 4 11 := ⟨_, rfl, by decide, mem_g 530 (by decide +kernel) rfl⟩
theorem f34 : mFok 4 48 4 12 := ⟨_, rfl, by decide, mem_g 531 (by decide +kernel) rfl⟩
theorem f35 : mFok 4 51 4 13 := ⟨_, rfl, by decide, mem_g 532 (by decide +kernel) rfl⟩
theorem f36 : mFok 4 128 4 14 := ⟨_, rfl, by decide, mem_g 533 (by decide +kernel) rfl⟩
theorem f37 : mFok 4 132 4 15 := ⟨_, rfl, by decide, mem_g 534 (by decide +kernel) rfl⟩
theorem f38 : mFok 4 67 4 16 := ⟨_, rfl, by decide, mem_g 535 (by decide +kernel) rfl⟩
theorem f39 : mFok 4 173 4 17 := ⟨_, rfl, by decide, mem_g 536 (by decide +kernel) rfl⟩
theorem f40 : mFok 4 54 4 18 := ⟨_, rfl, by decide, mem_g 537 (by decide +kernel) rfl⟩
theorem inX0 : ∀ w ∈ wsX00, w ∈ gT := by
  intro w hw
  simp only [wsX00, u_ws, List.mem_map, List.mem_range] at hw
  obtain ⟨k, hk, rfl⟩ := hw
  have h : ∀ k : Nat, k < 4 → u_lay RX0 TX0 k ∈ gT := by
    intro k hk
    match k, hk with
    | 0, _ => exact mem_g 110 (by decide +kernel) rfl
    | 1, _ => exact mem_g 112 (by decide +kernel) rfl
    | 2, _ => exact mem_g 114 (by decide +kernel) rfl
    | 3, _ => exact mem_g 116 (by decide +kernel) rfl
    | k + 4, hk => omega
  exact h k hk
theorem inX1 : ∀ w ∈ wsX10, w ∈ gT := by
  intro w hw
  simp only [wsX10, u_ws, List.mem_map, List.mem_range] at hw
  obtain ⟨k, hk, rfl⟩ := hw
  have h : ∀ k : Nat, k < 4 → u_lay RX1 TX1 k ∈ gT := by
    intro k hk
    match k, hk with
    | 0, _ => exact mem_g 131 (by decide +kernel) rfl
    | 1, _ => exact mem_g 133 (by decide +kernel) rfl
    | 2, _ => exact mem_g 135 (by decide +kernel) rfl
    | 3, _ => exact mem_g 137 (by decide +kernel) rfl
    | k + 4, hk => omega
  exact h k hk
theorem inX2 : ∀ w ∈ wsX20, w ∈ gT := by
  intro w hw
  simp only [wsX20, u_ws, List.mem_map, List.mem_range] at hw
  obtain ⟨k, hk, rfl⟩ := hw
  have h : ∀ k : Nat, k < 3 → u_lay RX2 TX2 k ∈ gT := by
    intro k hk
    match k, hk with
    | 0, _ => exact mem_g 77 (by decide +kernel) rfl
    | 1, _ => exact mem_g 79 (by decide +kernel) rfl
    | 2, _ => exact mem_g 81 (by decide +kernel) rfl
    | k + 3, hk => omega
  exact h k hk
theorem inX3 : ∀ w ∈ wsX30, w ∈ gT := by
  intro w hw
  simp only [wsX30, u_ws, List.mem_map, List.mem_range] at hw
  obtain ⟨k, hk, rfl⟩ := hw
  have h : ∀ k : Nat, k < 6 → u_lay RX3 TX3 k ∈ gT := by
    intro k hk
    match k, hk with
    | 0, _ => exact mem_g 146 (by decide +kernel) rfl
    | 1, _ => exact mem_g 148 (by decide +kernel) rfl
    | 2, _ => exact mem_g 150 (by decide +kernel) rfl
    | 3, _ => exact mem_g 152 (by decide +kernel) rfl
    | 4, _ => exact mem_g 154 (by decide +kernel) rfl
    | 5, _ => exact mem_g 156 (by decide +kernel) rfl
    | k + 6, hk => omega
  exact h k hk
theorem inX4 : ∀ w ∈ wsX40, w ∈ gT := by
  intro w hw
  simp only [wsX40, u_ws, List.mem_map, List.mem_range] at hw
  obtain ⟨k, hk, rfl⟩ := hw
  have h : ∀ k : Nat, k < 19 → u_lay RX4 TX4 k ∈ gT := by
    intro k hk
    match k, hk with
    | 0, _ => exact mem_g 538 (by decide +kernel) rfl
    | 1, _ => exact mem_g 540 (by decide +kernel) rfl
    | 2, _ => exact mem_g 542 (by decide +kernel) rfl
    | 3, _ => exact mem_g 544 (by decide +kernel) rfl
    | 4, _ => exact mem_g 546 (by decide +kernel) rfl
    | 5, _ => exact mem_g 548 (by decide +kernel) rfl
    | 6, _ => exact mem_g 550 (by decide +kernel) rfl
    | 7, _ => exact mem_g 552 (by decide +kernel) rfl
    | 8, _ => exact mem_g 554 (by decide +kernel) rfl
    | 9, _ => exact mem_g 556 (by decide +kernel) rfl
    | 10, _ => exact mem_g 558 (by decide +kernel) rfl
    | 11, _ => exact mem_g 560 (by decide +kernel) rfl
    | 12, _ => exact mem_g 562 (by decide +kernel) rfl
    | 13, _ => exact mem_g 564 (by decide +kernel) rfl
    | 14, _ => exact mem_g 566 (by decide +kernel) rfl
    | 15, _ => exact mem_g 568 (by decide +kernel) rfl
    | 16, _ => exact mem_g 570 (by decide +kernel) rfl
    | 17, _ => exact mem_g 572 (by decide +kernel) rfl
    | 18, _ => exact mem_g 574 (by decide +kernel) rfl
    | k + 19, hk => omega
  exact h k hk
def mNok (own idx ci : Nat) : Prop := ∃ r : vw_C, vwCl[ci]? = some r ∧ Cond.classLink (mN own) idx r.1 ∈ gT ∧ Cond.instantiable r.1 r.2.2 ∈ gT ∧ Cond.initialized r.1 ∈ gT
theorem n0 : mNok 5 7 3 := ⟨_, rfl, mem_g 51 (by decide +kernel) rfl, mem_g 52 (by decide +kernel) rfl, mem_g 43 (by decide +kernel) rfl⟩
theorem n1 : mNok 3 7 2 := ⟨_, rfl, mem_g 59 (by decide +kernel) rfl, mem_g 60 (by decide +kernel) rfl, mem_g 44 (by decide +kernel) rfl⟩
theorem n2 : mNok 3 16 0 := ⟨_, rfl, mem_g 85 (by decide +kernel) rfl, mem_g 86 (by decide +kernel) rfl, mem_g 46 (by decide +kernel) rfl⟩
theorem n3 : mNok 3 26 1 := ⟨_, rfl, mem_g 120 (by decide +kernel) rfl, mem_g 121 (by decide +kernel) rfl, mem_g 47 (by decide +kernel) rfl⟩
theorem n4 : mNok 5 10 4 := ⟨_, rfl, mem_g 501 (by decide +kernel) rfl, mem_g 502 (by decide +kernel) rfl, mem_g 48 (by decide +kernel) rfl⟩
theorem l0 : Cond.constantLong (mN 0) 104 (Int64.ofInt (12)) ∈ gT := mem_g 275 (by decide +kernel) rfl
theorem l1 : Cond.constantLong (mN 3) 131 (Int64.ofInt (-1)) ∈ gT := mem_g 340 (by decide +kernel) rfl
theorem l2 : Cond.constantLong (mN 3) 136 (Int64.ofInt (-2)) ∈ gT := mem_g 342 (by decide +kernel) rfl
theorem l3 : Cond.constantLong (mN 3) 150 (Int64.ofInt (-3)) ∈ gT := mem_g 355 (by decide +kernel) rfl
theorem l4 : Cond.constant (mN 6) 265 (Int32.ofInt (1431655765)) ∈ gT := mem_g 403 (by decide +kernel) rfl
theorem l5 : Cond.constant (mN 6) 266 (Int32.ofInt (858993459)) ∈ gT := mem_g 404 (by decide +kernel) rfl
theorem l6 : Cond.constant (mN 6) 267 (Int32.ofInt (252645135)) ∈ gT := mem_g 405 (by decide +kernel) rfl
theorem l7 : Cond.constantLong (mN 4) 74 (Int64.ofInt (2)) ∈ gT := mem_g 581 (by decide +kernel) rfl
theorem l8 : Cond.constantLong (mN 4) 76 (Int64.ofInt (8)) ∈ gT := mem_g 582 (by decide +kernel) rfl
theorem l9 : Cond.constantLong (mN 4) 82 (Int64.ofInt (12)) ∈ gT := mem_g 594 (by decide +kernel) rfl
theorem l10 : Cond.constantLong (mN 4) 84 (Int64.ofInt (3)) ∈ gT := mem_g 599 (by decide +kernel) rfl
theorem l11 : Cond.constantLong (mN 4) 143 (Int64.ofInt (-1)) ∈ gT := mem_g 679 (by decide +kernel) rfl
theorem l12 : Cond.constantLong (mN 4) 145 (Int64.ofInt (-2)) ∈ gT := mem_g 680 (by decide +kernel) rfl
theorem l13 : Cond.constantLong (mN 4) 161 (Int64.ofInt (-3)) ∈ gT := mem_g 707 (by decide +kernel) rfl
theorem oi0 : Cond.methodLink (mN 3) 1 objectInit ∈ gT := mem_g 56 (by decide +kernel) rfl
theorem oi1 : Cond.methodLink (mN 2) 3 objectInit ∈ gT := mem_g 64 (by decide +kernel) rfl
theorem oi2 : Cond.methodLink (mN 0) 3 objectInit ∈ gT := mem_g 90 (by decide +kernel) rfl
theorem oi3 : Cond.methodLink (mN 1) 3 objectInit ∈ gT := mem_g 125 (by decide +kernel) rfl
theorem oi4 : Cond.methodLink (mN 4) 1 objectInit ∈ gT := mem_g 506 (by decide +kernel) rfl
theorem oiA : Cond.instanceMethod objectInit ∈ gT := mem_g 57 (by decide +kernel) rfl
theorem oiB : Cond.code objectInit ⟨#[0xb1]⟩ 1 none ∈ gT := mem_g 58 (by decide +kernel) rfl
theorem acL : Cond.methodLink (mN 1) 63 arraycopyName ∈ gT := mem_g 387 (by decide +kernel) rfl
theorem acN : Cond.native arraycopyName ∈ gT := mem_g 389 (by decide +kernel) rfl
theorem acS : Cond.static arraycopyName ∈ gT := mem_g 388 (by decide +kernel) rfl
theorem acI : Cond.initialized "java/lang/System" ∈ gT := mem_g 49 (by decide +kernel) rfl
theorem aI : Cond.arrayClass .int ∈ gT := mem_g 84 (by decide +kernel) rfl
theorem aJ : Cond.arrayClass .long ∈ gT := mem_g 119 (by decide +kernel) rfl
theorem stL : Cond.fieldLink (mN 3) 192 "CupDraws" "PARTS" "[J" ∈ gT := mem_g 261 (by decide +kernel) rfl
theorem stS : Cond.laysStatic "CupDraws" "PARTS" "[J" ∈ lw_tbl := mem_lw 262 (by decide +kernel)
theorem stI : Cond.initialized "CupDraws" ∈ gT := mem_g 43 (by decide +kernel) rfl
end
section
/-! THE SMALL MACHINE: values are whole numbers (each result in its type's range) or places in a list of cells; Wp is the least predicate that its rules close -/
abbrev mV : Type := Int ⊕ (Int ⊕ Option Nat)
abbrev mI (x : Int) : mV := .inl x
abbrev mL (x : Int) : mV := .inr (.inl x)
abbrev mR (k : Nat) : mV := .inr (.inr (some k))
abbrev mU : mV := .inr (.inr none)
/-- an object (its kind, its fields), an int[], a long[] -/
abbrev mC : Type := (Nat × List mV) ⊕ (List Int ⊕ List Int)
abbrev mO (c : Nat) (fs : List mV) : mC := .inl (c, fs)
abbrev mA (l : List Int) : mC := .inr (.inl l)
abbrev mJ (l : List Int) : mC := .inr (.inr l)
def inI (x : Int) : Prop := -2147483648 ≤ x ∧ x ≤ 2147483647
def inJ (x : Int) : Prop := -9223372036854775808 ≤ x ∧ x ≤ 9223372036854775807
def mLong (v : mV) : Bool := match v with
  | .inr (.inl _) => true
  | _ => false
def mCat (v : mV) : Nat := match v with
  | .inr (.inl _) => 2
  | _ => 1
def mCats (S : List mV) : Nat := (S.map mCat).sum
def mCmp (c : ClassFile.Cond) (x y : Int) : Bool := match c with
  | .eq => decide (x = y) | .ne => decide (x ≠ y) | .lt => decide (x < y) | .ge => decide (y ≤ x) | .gt => decide (y < x) | .le => decide (x ≤ y)
def mAnd (x y : Int) : Int := (Int32.ofInt x &&& Int32.ofInt y).toInt
def mOr (x y : Int) : Int := (Int32.ofInt x ||| Int32.ofInt y).toInt
def mShl (x y : Int) : Int := (Int32.ofInt x <<< (Int32.ofInt y &&& 31)).toInt
def mShr (x y : Int) : Int := (Int32.ofInt x >>> (Int32.ofInt y &&& 31)).toInt
def mUshr (x y : Int) : Int := ((Int32.ofInt x).toUInt32 >>> ((Int32.ofInt y).toUInt32 &&& Int32.toUInt32 31)).toInt32.toInt
def mCpy (l0 l1 : List Int) (sp dp n : Nat) : List Int := (List.range l1.length).map (fun k => if dp ≤ k ∧ k < dp + n then l0.getD (sp + (k - dp)) 0 else l1.getD k 0)
def mTy (ci k : Nat) : FieldType := match ci with
  | 0 => tyX0 k | 1 => tyX1 k | 2 => tyX2 k | 3 => tyX3 k | _ => tyX4 k
def mFin (ci k : Nat) : Bool := match vwCl[ci]? with
  | some r => (r.2.1 k).2.2.2
  | none => true
def mFit (t : FieldType) (v : mV) : Prop := match t, v with
  | .int, .inl _ => True
  | .boolean, .inl x => x = 0 ∨ x = 1
  | .long, .inr (.inl _) => True
  | .array _, .inr (.inr (some _)) => True
  | .object _, .inr (.inr (some _)) => True
  | _, _ => False
def mDef (t : FieldType) : mV := match t with
  | .int => mI 0
  | .boolean => mI 0
  | .long => mL 0
  | _ => mU
def mNf (ci : Nat) : Nat := match vwCl[ci]? with
  | some r => r.2.2
  | none => 0
def mDefs (ci : Nat) : List mV := (List.range (mNf ci)).map (fun k => mDef (mTy ci k))
/-- a local is written: the one before it is no long -/
def mBefore (L : List mV) (i : Nat) : Prop := i = 0 ∨ mLong (L.getD (i - 1) mU) = false
abbrev mS : Type := Nat × List mV × List mV × List mC × (Nat × Nat)
/-- one instruction that is no call of ours and no return: from a state to a state -/
def mSS (d own : Nat) (ini : Prop) (i : Instr) (len pc : Nat) (L S : List mV) (h : List mC) (b : Nat × Nat) (o : mS) : Prop := match i with
  | .aload k => ∃ a, len = 2 ∧ L[k]? = some (mR a) ∧ o = (pc + 2, L, mR a :: S, h, b)
  | .aload_n k => ∃ a, len = 1 ∧ L[k.val]? = some (mR a) ∧ o = (pc + 1, L, mR a :: S, h, b)
  | .iload k => ∃ x, len = 2 ∧ L[k]? = some (mI x) ∧ o = (pc + 2, L, mI x :: S, h, b)
  | .iload_n k => ∃ x, len = 1 ∧ L[k.val]? = some (mI x) ∧ o = (pc + 1, L, mI x :: S, h, b)
  | .lload k => ∃ x, len = 2 ∧ L[k]? = some (mL x) ∧ o = (pc + 2, L, mL x :: S, h, b)
  | .lload_n k => ∃ x, len = 1 ∧ L[k.val]? = some (mL x) ∧ o = (pc + 1, L, mL x :: S, h, b)
  | .astore k => ∃ a S', len = 2 ∧ S = mR a :: S' ∧ k < L.length ∧ mBefore L k ∧ o = (pc + 2, L.set k (mR a), S', h, b)
  | .astore_n k => ∃ a S', len = 1 ∧ S = mR a :: S' ∧ k.val < L.length ∧ mBefore L k.val ∧ o = (pc + 1, L.set k.val (mR a), S', h, b)
  | .istore k => ∃ x S', len = 2 ∧ S = mI x :: S' ∧ k < L.length ∧ mBefore L k ∧ o = (pc + 2, L.set k (mI x), S', h, b)
  | .istore_n k => ∃ x S', len = 1 ∧ S = mI x :: S' ∧ k.val < L.length ∧ mBefore L k.val ∧ o = (pc + 1, L.set k.val (mI x), S', h, b)
  | .lstore k => ∃ x S', len = 2 ∧ S = mL x :: S' ∧ k + 1 < L.length ∧ mBefore L k ∧ o = (pc + 2, (L.set k (mL x)).set (k + 1) mU, S', h, b)
  | .lstore_n k => ∃ x S', len = 1 ∧ S = mL x :: S' ∧ k.val + 1 < L.length ∧ mBefore L k.val ∧ o = (pc + 1, (L.set k.val (mL x)).set (k.val + 1) mU, S', h, b)
  | .iinc k n => ∃ x, len = 3 ∧ L[k]? = some (mI x) ∧ mBefore L k ∧ inI (x + n) ∧ o = (pc + 3, L.set k (mI (x + n)), S, h, b)
  | .iconst n => len = 1 ∧ inI n ∧ o = (pc + 1, L, mI n :: S, h, b)
  | .bipush n => len = 2 ∧ -128 ≤ n ∧ n < 128 ∧ o = (pc + 2, L, mI n :: S, h, b)
  | .sipush n => len = 3 ∧ -32768 ≤ n ∧ n < 32768 ∧ o = (pc + 3, L, mI n :: S, h, b)
  | .lconst n => len = 1 ∧ o = (pc + 1, L, mL (n : Nat) :: S, h, b)
  | .ldc2_w idx => ∃ x, len = 3 ∧ inJ x ∧ Cond.constantLong (mN own) idx (Int64.ofInt x) ∈ gT ∧ o = (pc + 3, L, mL x :: S, h, b)
  | .ldc_w idx => ∃ x, len = 3 ∧ inI x ∧ Cond.constant (mN own) idx (Int32.ofInt x) ∈ gT ∧ o = (pc + 3, L, mI x :: S, h, b)
  | .iadd => ∃ x y S', len = 1 ∧ S = mI y :: mI x :: S' ∧ inI (x + y) ∧ o = (pc + 1, L, mI (x + y) :: S', h, b)
  | .isub => ∃ x y S', len = 1 ∧ S = mI y :: mI x :: S' ∧ inI (x - y) ∧ o = (pc + 1, L, mI (x - y) :: S', h, b)
  | .imul => ∃ x y S', len = 1 ∧ S = mI y :: mI x :: S' ∧ inI (x * y) ∧ o = (pc + 1, L, mI (x * y) :: S', h, b)
  | .idiv => ∃ x y S', len = 1 ∧ S = mI y :: mI x :: S' ∧ 0 ≤ x ∧ 0 < y ∧ o = (pc + 1, L, mI (x / y) :: S', h, b)
  | .irem => ∃ x y S', len = 1 ∧ S = mI y :: mI x :: S' ∧ 0 ≤ x ∧ 0 < y ∧ o = (pc + 1, L, mI (x % y) :: S', h, b)
  | .ineg => ∃ x S', len = 1 ∧ S = mI x :: S' ∧ inI (-x) ∧ o = (pc + 1, L, mI (-x) :: S', h, b)
  | .iand => ∃ x y S', len = 1 ∧ S = mI y :: mI x :: S' ∧ o = (pc + 1, L, mI (mAnd x y) :: S', h, b)
  | .ior => ∃ x y S', len = 1 ∧ S = mI y :: mI x :: S' ∧ o = (pc + 1, L, mI (mOr x y) :: S', h, b)
  | .ishl => ∃ x y S', len = 1 ∧ S = mI y :: mI x :: S' ∧ o = (pc + 1, L, mI (mShl x y) :: S', h, b)
  | .ishr => ∃ x y S', len = 1 ∧ S = mI y :: mI x :: S' ∧ o = (pc + 1, L, mI (mShr x y) :: S', h, b)
  | .iushr => ∃ x y S', len = 1 ∧ S = mI y :: mI x :: S' ∧ o = (pc + 1, L, mI (mUshr x y) :: S', h, b)
  | .ladd => ∃ x y S', len = 1 ∧ S = mL y :: mL x :: S' ∧ inJ (x + y) ∧ o = (pc + 1, L, mL (x + y) :: S', h, b)
  | .lsub => ∃ x y S', len = 1 ∧ S = mL y :: mL x :: S' ∧ inJ (x - y) ∧ o = (pc + 1, L, mL (x - y) :: S', h, b)
  | .lmul => ∃ x y S', len = 1 ∧ S = mL y :: mL x :: S' ∧ inJ (x * y) ∧ o = (pc + 1, L, mL (x * y) :: S', h, b)
  | .ldiv => ∃ x y S', len = 1 ∧ S = mL y :: mL x :: S' ∧ 0 ≤ x ∧ 0 < y ∧ o = (pc + 1, L, mL (x / y) :: S', h, b)
  | .lrem => ∃ x y S', len = 1 ∧ S = mL y :: mL x :: S' ∧ 0 ≤ x ∧ 0 < y ∧ o = (pc + 1, L, mL (x % y) :: S', h, b)
  | .lcmp => ∃ x y S', len = 1 ∧ S = mL y :: mL x :: S' ∧ o = (pc + 1, L, mI (if y < x then 1 else if x = y then 0 else -1) :: S', h, b)
  | .i2l => ∃ x S', len = 1 ∧ S = mI x :: S' ∧ o = (pc + 1, L, mL x :: S', h, b)
  | .dup => ∃ v S', len = 1 ∧ S = v :: S' ∧ mLong v = false ∧ o = (pc + 1, L, v :: v :: S', h, b)
  | .dup2 => ∃ v w S', len = 1 ∧ S = v :: w :: S' ∧ mLong v = false ∧ mLong w = false ∧ o = (pc + 1, L, v :: w :: v :: w :: S', h, b)
  | .goto off => ∃ t : Nat, len = 3 ∧ (pc : Int) + off = (t : Int) ∧ o = (t, L, S, h, b)
  | .if_icmp c off => ∃ (x y : Int) (S' : List mV) (t : Nat), len = 3 ∧ S = mI y :: mI x :: S' ∧ (pc : Int) + off = (t : Int) ∧ o = (if mCmp c x y = true then t else pc + 3, L, S', h, b)
  | .ifCond c off => ∃ (x : Int) (S' : List mV) (t : Nat), len = 3 ∧ S = mI x :: S' ∧ (pc : Int) + off = (t : Int) ∧ o = (if mCmp c x 0 = true then t else pc + 3, L, S', h, b)
  | .tableswitch df lo hi offs => ∃ (x : Int) (S' : List mV) (t : Nat), S = mI x :: S' ∧ (((x < lo ∨ hi < x) ∧ (pc : Int) + df = (t : Int)) ∨ (lo ≤ x ∧ x ≤ hi ∧ ∃ off : Int, offs[(x - lo).toNat]? = some off ∧ (pc : Int) + off = (t : Int))) ∧ o = (t, L, S', h, b)
  | .arraylength => ∃ a c n S', len = 1 ∧ S = mR a :: S' ∧ h[a]? = some c ∧ (c = mA n ∨ c = mJ n) ∧ n.length < 2147483648 ∧ o = (pc + 1, L, mI n.length :: S', h, b)
  | .iaload => ∃ x a l S', len = 1 ∧ S = mI x :: mR a :: S' ∧ h[a]? = some (mA l) ∧ 0 ≤ x ∧ x < l.length ∧ o = (pc + 1, L, mI (l.getD x.toNat 0) :: S', h, b)
  | .laload => ∃ x a l S', len = 1 ∧ S = mI x :: mR a :: S' ∧ h[a]? = some (mJ l) ∧ 0 ≤ x ∧ x < l.length ∧ o = (pc + 1, L, mL (l.getD x.toNat 0) :: S', h, b)
  | .iastore => ∃ v x a l S', len = 1 ∧ S = mI v :: mI x :: mR a :: S' ∧ 2 ≤ a ∧ h[a]? = some (mA l) ∧ 0 ≤ x ∧ x < l.length ∧ o = (pc + 1, L, S', h.set a (mA (l.set x.toNat v)), b)
  | .lastore => ∃ v x a l S', len = 1 ∧ S = mL v :: mI x :: mR a :: S' ∧ 2 ≤ a ∧ h[a]? = some (mJ l) ∧ 0 ≤ x ∧ x < l.length ∧ o = (pc + 1, L, S', h.set a (mJ (l.set x.toNat v)), b)
  | .getfield idx => ∃ a ci fs k v S', len = 3 ∧ S = mR a :: S' ∧ mFok own idx ci k ∧ 2 ≤ a ∧ h[a]? = some (mO ci fs) ∧ fs[k]? = some v ∧ v ≠ mU ∧ o = (pc + 3, L, v :: S', h, b)
  | .putfield idx => ∃ a ci fs k v S', len = 3 ∧ S = v :: mR a :: S' ∧ mFok own idx ci k ∧ 2 ≤ a ∧ h[a]? = some (mO ci fs) ∧ k < fs.length ∧ mFit (mTy ci k) v ∧ (mFin ci k = true → ini ∧ own = ci) ∧ o = (pc + 3, L, S', h.set a (mO ci (fs.set k v)), b)
  | .getstatic idx => len = 3 ∧ Cond.fieldLink (mN own) idx "CupDraws" "PARTS" "[J" ∈ gT ∧ o = (pc + 3, L, mR 0 :: S, h, b)
  | .new idx => ∃ ci, len = 3 ∧ mNok own idx ci ∧ 1 ≤ b.1 ∧ mNf ci ≤ b.2 ∧ o = (pc + 3, L, mR h.length :: S, h ++ [mO ci (mDefs ci)], (b.1 - 1, b.2 - mNf ci))
  | .newarray t => ∃ x S', len = 2 ∧ S = mI x :: S' ∧ 0 ≤ x ∧ x ≤ 10000 ∧ 1 ≤ b.1 ∧ x.toNat ≤ b.2 ∧ ((t = .int ∧ o = (pc + 2, L, mR h.length :: S', h ++ [mA (List.replicate x.toNat 0)], (b.1 - 1, b.2 - x.toNat))) ∨ (t = .long ∧ o = (pc + 2, L, mR h.length :: S', h ++ [mJ (List.replicate x.toNat 0)], (b.1 - 1, b.2 - x.toNat))))
  | .invokespecial idx => ∃ a S', len = 3 ∧ 1 ≤ d ∧ S = mR a :: S' ∧ mCats S' ≤ 8 ∧ Cond.methodLink (mN own) idx objectInit ∈ gT ∧ o = (pc + 3, L, S', h, b)
  | .invokestatic idx => ∃ n dp sp a1 a0 l0 l1 S', len = 3 ∧ 1 ≤ d ∧ S = mI n :: mI dp :: mR a1 :: mI sp :: mR a0 :: S' ∧ mCats S' ≤ 8 ∧ Cond.methodLink (mN own) idx arraycopyName ∈ gT ∧ 2 ≤ a1 ∧ 2 ≤ a0 ∧ h[a0]? = some (mA l0) ∧ h[a1]? = some (mA l1) ∧ 0 ≤ n ∧ 0 ≤ sp ∧ 0 ≤ dp ∧ sp + n ≤ l0.length ∧ dp + n ≤ l1.length ∧ o = (pc + 3, L, S', h.set a1 (mA (mCpy l0 l1 sp.toNat dp.toNat n.toNat)), b)
  | _ => False
/-- a return: what is answered -/
def mRR (ret : Option FieldType) (i : Instr) (len : Nat) (S : List mV) (r : Option mV) : Prop := match i with
  | .ireturn => ∃ x, len = 1 ∧ S = [mI x] ∧ (ret = some .int ∨ (ret = some .boolean ∧ (x = 0 ∨ x = 1))) ∧ r = some (mI x)
  | .lreturn => ∃ x, len = 1 ∧ S = [mL x] ∧ ret = some .long ∧ r = some (mL x)
  | .return_ => len = 1 ∧ S = [] ∧ ret = none ∧ r = none
  | _ => False
/-- which call instruction, by its kind -/
def mInv (kind : Nat) (i : Instr) (idx : Nat) : Prop := match kind with
  | 0 => i = .invokevirtual idx
  | 2 => i = .invokespecial idx
  | _ => i = .invokestatic idx
/-- the arguments as locals -/
def mArgs (n : Nat) (As : List mV) : List mV := (As.flatMap (fun v => if mLong v = true then [v, mU] else [v])) ++ List.replicate (n - (As.flatMap (fun v => if mLong v = true then [v, mU] else [v])).length) mU
abbrev mP : Type := Nat → mM → Nat → List mV → List mV → List mC → (Nat × Nat) → (Option mV → List mC → Prop) → Prop
/-- a call of ours -/
def mCC (P : mP) (d : Nat) (M : mM) (i : Instr) (len pc : Nat) (L S : List mV) (h : List mC) (b : Nat × Nat) (Q : Option mV → List mC → Prop) : Prop :=
  ∃ (d' idx kind n : Nat) (M' : mM) (As rest : List mV) (Q' : Option mV → List mC → Prop), d = d' + 1 ∧ len = 3 ∧ mInv kind i idx ∧ mTok (mOwn M) idx kind n M' ∧
    S = As.reverse ++ rest ∧ As.length = (if kind = 0 ∨ kind = 2 then n + 1 else n) ∧ mCats rest ≤ 8 ∧ (mArgs (mMax M') As).length = mMax M' ∧
    (kind = 0 ∨ kind = 2 → ∃ a fs, As[0]? = some (mR a) ∧ 2 ≤ a ∧ h[a]? = some (mO (mOwn M') fs)) ∧ mCel M' ≤ b.1 ∧ mSlo M' ≤ b.2 ∧
    P d' M' 0 (mArgs (mMax M') As) [] h (mCel M', mSlo M') Q' ∧ ∀ (r : Option mV) (h' : List mC), Q' r h' → P d M (pc + 3) L (r.toList ++ rest) h' (b.1 - mCel M', b.2 - mSlo M') Q
def mF (P : mP) : mP := fun d M pc L S h b Q => ∃ (i : Instr) (len : Nat), decode (mCode M) pc = .ok (i, len) ∧
  ((∃ o : mS, mSS d (mOwn M) ((mY M).name = "<init>") i len pc L S h b o ∧ P d M o.1 o.2.1 o.2.2.1 o.2.2.2.1 o.2.2.2.2 Q) ∨ (∃ r, mRR (mRet M) i len S r ∧ Q r h) ∨ mCC P d M i len pc L S h b Q)
def mLe (P P' : mP) : Prop := ∀ d M pc L S h b Q, P d M pc L S h b Q → P' d M pc L S h b Q
theorem mF_mono {P P' : mP} (hP : mLe P P') : mLe (mF P) (mF P') := by
  rintro d M pc L S h b Q ⟨i, len, hd, hc⟩
  refine ⟨i, len, hd, ?_⟩
  rcases hc with ⟨o, h1, h2⟩ | ⟨r, h1, h2⟩ | ⟨d', idx, kind, n, M', As, rest, Q', e1, e2, e3, e4, e5, e6, e7, e8, e9, e10, e11, e12, e13⟩
  · exact Or.inl ⟨o, h1, hP _ _ _ _ _ _ _ _ h2⟩
  · exact Or.inr (Or.inl ⟨r, h1, h2⟩)
  · exact Or.inr (Or.inr ⟨d', idx, kind, n, M', As, rest, Q', e1, e2, e3, e4, e5, e6, e7, e8, e9, e10, e11, hP _ _ _ _ _ _ _ _ e12, fun r h' hr => hP _ _ _ _ _ _ _ _ (e13 r h' hr)⟩)
/-- the least predicate that the rules close -/
def Wp : mP := fun d M pc L S h b Q => ∀ P : mP, mLe (mF P) P → P d M pc L S h b Q
theorem Wp_close : mLe (mF Wp) Wp := fun d M pc L S h b Q hF P hP => hP _ _ _ _ _ _ _ _ (mF_mono (fun _ _ _ _ _ _ _ _ hw => hw P hP) _ _ _ _ _ _ _ _ hF)
theorem Wp_ind {P : mP} (hP : mLe (mF P) P) : mLe Wp P := fun _ _ _ _ _ _ _ _ hw => hw P hP
theorem wp_ss {d : Nat} {M : mM} {pc : Nat} {L S : List mV} {h : List mC} {b : Nat × Nat} {Q : Option mV → List mC → Prop} {i : Instr} {len : Nat} (hd : decode (mCode M) pc = .ok (i, len)) (o : mS)
    (hs : mSS d (mOwn M) ((mY M).name = "<init>") i len pc L S h b o) (k : Wp d M o.1 o.2.1 o.2.2.1 o.2.2.2.1 o.2.2.2.2 Q) : Wp d M pc L S h b Q :=
  Wp_close _ _ _ _ _ _ _ _ ⟨i, len, hd, Or.inl ⟨o, hs, k⟩⟩
theorem wp_rr {d : Nat} {M : mM} {pc : Nat} {L S : List mV} {h : List mC} {b : Nat × Nat} {Q : Option mV → List mC → Prop} {i : Instr} {len : Nat} (hd : decode (mCode M) pc = .ok (i, len)) (r : Option mV)
    (hs : mRR (mRet M) i len S r) (k : Q r h) : Wp d M pc L S h b Q :=
  Wp_close _ _ _ _ _ _ _ _ ⟨i, len, hd, Or.inr (Or.inl ⟨r, hs, k⟩)⟩
theorem wp_cc {d : Nat} {M : mM} {pc : Nat} {L S : List mV} {h : List mC} {b : Nat × Nat} {Q : Option mV → List mC → Prop} {i : Instr} {len : Nat} (hd : decode (mCode M) pc = .ok (i, len))
    (hs : mCC Wp d M i len pc L S h b Q) : Wp d M pc L S h b Q :=
  Wp_close _ _ _ _ _ _ _ _ ⟨i, len, hd, Or.inr (Or.inr hs)⟩
/-- a weaker end -/
theorem wp_post {d : Nat} {M : mM} {pc : Nat} {L S : List mV} {h : List mC} {b : Nat × Nat} {Q Q2 : Option mV → List mC → Prop} (k : Wp d M pc L S h b Q) (hQ : ∀ r h', Q r h' → Q2 r h') : Wp d M pc L S h b Q2 := by
  have key : mLe Wp (fun d M pc L S h b Q => ∀ Q2 : Option mV → List mC → Prop, (∀ r h', Q r h' → Q2 r h') → Wp d M pc L S h b Q2) := by
    refine Wp_ind ?_
    rintro d M pc L S h b Q ⟨i, len, hd, hc⟩ Q2 hQ
    refine Wp_close _ _ _ _ _ _ _ _ ⟨i, len, hd, ?_⟩
    rcases hc with ⟨o, h1, h2⟩ | ⟨r, h1, h2⟩ | ⟨d', idx, kind, n, M', As, rest, Q', e1, e2, e3, e4, e5, e6, e7, e8, e9, e10, e11, e12, e13⟩
    · exact Or.inl ⟨o, h1, h2 Q2 hQ⟩
    · exact Or.inr (Or.inl ⟨r, h1, hQ _ _ h2⟩)
    · exact Or.inr (Or.inr ⟨d', idx, kind, n, M', As, rest, Q', e1, e2, e3, e4, e5, e6, e7, e8, e9, e10, e11, e12 Q' (fun _ _ q => q), fun r h' hr => e13 r h' hr Q2 hQ⟩)
  exact key _ _ _ _ _ _ _ _ k Q2 hQ
/-- a depth that is larger does no harm -/
theorem wp_deep {d : Nat} {M : mM} {pc : Nat} {L S : List mV} {h : List mC} {b : Nat × Nat} {Q : Option mV → List mC → Prop} (k : Wp d M pc L S h b Q) : ∀ j, Wp (d + j) M pc L S h b Q := by
  have key : mLe Wp (fun d M pc L S h b Q => ∀ j, Wp (d + j) M pc L S h b Q) := by
    refine Wp_ind ?_
    rintro d M pc L S h b Q ⟨i, len, hd, hc⟩ j
    refine Wp_close _ _ _ _ _ _ _ _ ⟨i, len, hd, ?_⟩
    rcases hc with ⟨o, h1, h2⟩ | ⟨r, h1, h2⟩ | ⟨d', idx, kind, n, M', As, rest, Q', e1, e2, e3, e4, e5, e6, e7, e8, e9, e10, e11, e12, e13⟩
    · refine Or.inl ⟨o, ?_, h2 j⟩
      cases i <;> simp only [mSS] at h1 ⊢ <;> try exact h1
      · obtain ⟨a, S', q1, q2, q3⟩ := h1
        exact ⟨a, S', q1, by omega, q3⟩
      · obtain ⟨a1, a2, a3, a4, a5, a6, a7, a8, q1, q2, q3⟩ := h1
        exact ⟨a1, a2, a3, a4, a5, a6, a7, a8, q1, by omega, q3⟩
    · exact Or.inr (Or.inl ⟨r, h1, h2⟩)
    · exact Or.inr (Or.inr ⟨d' + j, idx, kind, n, M', As, rest, Q', by omega, e2, e3, e4, e5, e6, e7, e8, e9, e10, e11, e12 j, fun r h' hr => e13 r h' hr j⟩)
  exact key _ _ _ _ _ _ _ _ k
end
section
/-! numbers of the small machine and of the machine -/
theorem cI_t {x : Int} (h : inI x) : (Int32.ofInt x).toInt = x := Int32.toInt_ofInt_of_le (by unfold inI at h; omega) (by unfold inI at h; omega)
theorem cJ_t {x : Int} (h : inJ x) : (Int64.ofInt x).toInt = x := Int64.toInt_ofInt_of_le (by unfold inJ at h; omega) (by unfold inJ at h; omega)
theorem cI_in (x : Int32) : inI x.toInt := by
  have h1 := x.minValue_le_toInt
  have h2 := x.toInt_le
  have e1 : Int32.minValue.toInt = -2147483648 := by decide
  have e2 : Int32.maxValue.toInt = 2147483647 := by decide
  exact ⟨by omega, by omega⟩
theorem cI_r (x : Int32) : Int32.ofInt x.toInt = x := Int32.ofInt_toInt x
theorem cI_lt {x y : Int} (hx : inI x) (hy : inI y) : Int32.ofInt x < Int32.ofInt y ↔ x < y := by rw [Int32.lt_iff_toInt_lt, cI_t hx, cI_t hy]
theorem cI_le {x y : Int} (hx : inI x) (hy : inI y) : Int32.ofInt x ≤ Int32.ofInt y ↔ x ≤ y := by rw [Int32.le_iff_toInt_le, cI_t hx, cI_t hy]
theorem cI_eq {x y : Int} (hx : inI x) (hy : inI y) : Int32.ofInt x = Int32.ofInt y ↔ x = y := by rw [← Int32.toInt_inj, cI_t hx, cI_t hy]
theorem cJ_lt {x y : Int} (hx : inJ x) (hy : inJ y) : Int64.ofInt x < Int64.ofInt y ↔ x < y := by rw [Int64.lt_iff_toInt_lt, cJ_t hx, cJ_t hy]
theorem cJ_eq {x y : Int} (hx : inJ x) (hy : inJ y) : Int64.ofInt x = Int64.ofInt y ↔ x = y := by rw [← Int64.toInt_inj, cJ_t hx, cJ_t hy]
theorem inI_0 : inI 0 := ⟨by decide, by decide⟩
theorem inJ_0 : inJ 0 := ⟨by decide, by decide⟩
theorem cI_div {x y : Int} (hx : inI x) (hy : inI y) (h0 : 0 ≤ x) (h1 : 0 < y) : Int32.ofInt x / Int32.ofInt y = Int32.ofInt (x / y) := by
  have hq : inI (x / y) := by
    have a := Int.ediv_nonneg h0 (Int.le_of_lt h1)
    have b := Int.ediv_le_self y h0
    unfold inI at *
    omega
  apply Int32.toInt_inj.mp
  rw [cI_t hq, Int32.toInt_div_of_ne_right, cI_t hx, cI_t hy, Int.tdiv_eq_ediv_of_nonneg h0]
  intro h
  have := congrArg Int32.toInt h
  rw [cI_t hy] at this
  have e : (-1 : Int32).toInt = -1 := by decide
  omega
theorem cJ_div {x y : Int} (hx : inJ x) (hy : inJ y) (h0 : 0 ≤ x) (h1 : 0 < y) : Int64.ofInt x / Int64.ofInt y = Int64.ofInt (x / y) := by
  have hq : inJ (x / y) := by
    have a := Int.ediv_nonneg h0 (Int.le_of_lt h1)
    have b := Int.ediv_le_self y h0
    unfold inJ at *
    omega
  apply Int64.toInt_inj.mp
  rw [cJ_t hq, Int64.toInt_div_of_ne_right, cJ_t hx, cJ_t hy, Int.tdiv_eq_ediv_of_nonneg h0]
  intro h
  have := congrArg Int64.toInt h
  rw [cJ_t hy] at this
  have e : (-1 : Int64).toInt = -1 := by decide
  omega
theorem cI_rem {x y : Int} (hx : inI x) (hy : inI y) (h0 : 0 ≤ x) (h1 : 0 < y) : Int32.ofInt x - Int32.ofInt x / Int32.ofInt y * Int32.ofInt y = Int32.ofInt (x % y) := by
  rw [cI_div hx hy h0 h1, ← Int32.ofInt_mul, ← Int32.ofInt_sub]
  congr 1
  have := Int.mul_ediv_add_emod x y
  have c := Int.mul_comm (x / y) y
  omega
theorem cJ_rem {x y : Int} (hx : inJ x) (hy : inJ y) (h0 : 0 ≤ x) (h1 : 0 < y) : Int64.ofInt x - Int64.ofInt x / Int64.ofInt y * Int64.ofInt y = Int64.ofInt (x % y) := by
  rw [cJ_div hx hy h0 h1, ← Int64.ofInt_mul, ← Int64.ofInt_sub]
  congr 1
  have := Int.mul_ediv_add_emod x y
  have c := Int.mul_comm (x / y) y
  omega
theorem cI_cmp {x y : Int} (hx : inJ x) (hy : inJ y) : lg_cmp (Int64.ofInt x) (Int64.ofInt y) = Int32.ofInt (if y < x then 1 else if x = y then 0 else -1) := by
  unfold lg_cmp
  simp only [gt_iff_lt, cJ_lt hy hx, cJ_eq hx hy]
  by_cases a : y < x
  · simp [a]
  · by_cases b : x = y
    · simp [b]
    · simp [a, b]
theorem cI_vp {x : Int} {n : Nat} (h0 : 0 ≤ x) (h1 : x < n) (hx : inI x) : vp_in (Int32.ofInt x) n := by
  rw [vp_in_iff, cI_t hx]
  exact ⟨h0, h1⟩
theorem cI_cl {x : Int} (hx : inI x) : (Int32.ofInt x).toNatClampNeg = x.toNat := Int32.toNatClampNeg_ofInt_of_le (by unfold inI at hx; omega) (by unfold inI at hx; omega)
theorem cI_and (x y : Int) : Int32.ofInt x &&& Int32.ofInt y = Int32.ofInt (mAnd x y) := (cI_r _).symm
theorem cI_or (x y : Int) : Int32.ofInt x ||| Int32.ofInt y = Int32.ofInt (mOr x y) := (cI_r _).symm
theorem cI_shl (x y : Int) : Int32.ofInt x <<< (Int32.ofInt y &&& 31) = Int32.ofInt (mShl x y) := (cI_r _).symm
theorem cI_shr (x y : Int) : Int32.ofInt x >>> (Int32.ofInt y &&& 31) = Int32.ofInt (mShr x y) := (cI_r _).symm
theorem cI_ushr (x y : Int) : ((Int32.ofInt x).toUInt32 >>> ((Int32.ofInt y).toUInt32 &&& Int32.toUInt32 31)).toInt32 = Int32.ofInt (mUshr x y) := (cI_r _).symm
theorem cI_b {n : Int} (h : -128 ≤ n) (h2 : n < 128) : (Int8.ofInt n).toInt32 = Int32.ofInt n := by
  apply Int32.toInt_inj.mp
  rw [Int8.toInt_toInt32, Int8.toInt_ofInt_of_le h h2, cI_t ⟨by omega, by omega⟩]
theorem cI_s {n : Int} (h : -32768 ≤ n) (h2 : n < 32768) : (Int16.ofInt n).toInt32 = Int32.ofInt n := by
  apply Int32.toInt_inj.mp
  rw [Int16.toInt_toInt32, Int16.toInt_ofInt_of_le h h2, cI_t ⟨by omega, by omega⟩]
theorem cI_l {x : Int} (h : inI x) : (Int32.ofInt x).toInt64 = Int64.ofInt x := by
  apply Int64.toInt_inj.mp
  rw [Int32.toInt_toInt64, cI_t h, cJ_t (by unfold inI at h; unfold inJ; omega)]
/-! worlds: the list of cells, at addresses -/
def mtau (ad : List Nat) (v : mV) : Value := match v with
  | .inl x => .int (Int32.ofInt x)
  | .inr (.inl x) => .long (Int64.ofInt x)
  | .inr (.inr (some k)) => .ref (ad.getD k 0)
  | .inr (.inr none) => .null
def menc (cI cJ : ClassId) (ad : List Nat) (c : mC) : va_E := match c with
  | .inl o => .inr (o.1, o.2.map (mtau ad))
  | .inr (.inl l) => .inl (cI, l.length, .inl (fun j => Int32.ofInt (l.getD j 0)))
  | .inr (.inr l) => .inl (cJ, l.length, .inr (.inl (fun j => Int64.ofInt (l.getD j 0))))
def mok (n : Nat) (v : mV) : Prop := match v with
  | .inl x => inI x
  | .inr (.inl x) => inJ x
  | .inr (.inr (some k)) => k < n
  | .inr (.inr none) => True
def mcok (n : Nat) (c : mC) : Prop := match c with
  | .inl o => ∀ v ∈ o.2, mok n v
  | .inr (.inl l) => ∀ x ∈ l, inI x
  | .inr (.inr l) => ∀ x ∈ l, inJ x
def mhok (h : List mC) : Prop := ∀ c ∈ h, mcok h.length c
def mwd (cI cJ : ClassId) (ad : List Nat) (h : List mC) : va_W := List.zipWith (fun a c => (a, menc cI cJ ad c)) (ad.drop 2) (h.drop 2)
theorem mok_le {n n' : Nat} {v : mV} (h : mok n v) (hn : n ≤ n') : mok n' v := by
  rcases v with x | x | _ | k <;> simp only [mok] at h ⊢ <;> first | exact h | omega
theorem mcok_le {n n' : Nat} {c : mC} (h : mcok n c) (hn : n ≤ n') : mcok n' c := by
  rcases c with o | l | l
  · exact fun v hv => mok_le (h v hv) hn
  · exact h
  · exact h
theorem mtau_app {ad : List Nat} {ex : List Nat} {v : mV} (h : mok ad.length v) : mtau (ad ++ ex) v = mtau ad v := by
  rcases v with x | x | _ | k
  · rfl
  · rfl
  · rfl
  · simp only [mok] at h
    simp only [mtau]
    congr 1
    simp only [List.getD_eq_getElem?_getD, List.getElem?_append_left h]
theorem menc_app {cI cJ : ClassId} {ad ex : List Nat} {c : mC} (h : mcok ad.length c) : menc cI cJ (ad ++ ex) c = menc cI cJ ad c := by
  rcases c with o | l | l
  · simp only [menc]
    congr 2
    exact List.map_congr_left fun v hv => mtau_app (h v hv)
  · rfl
  · rfl
theorem mwd_get {cI cJ : ClassId} {ad : List Nat} {h : List mC} {k : Nat} {c : mC} (hl : ad.length = h.length) (hk : 2 ≤ k) (hc : h[k]? = some c) : (mwd cI cJ ad h)[k - 2]? = some (ad.getD k 0, menc cI cJ ad c) := by
  have hlt : k < h.length := (List.getElem?_eq_some_iff.mp hc).1
  unfold mwd
  rw [List.getElem?_zipWith]
  have e : 2 + (k - 2) = k := by omega
  rw [List.getElem?_drop, List.getElem?_drop, e, hc, List.getElem?_eq_getElem (by omega : k < ad.length)]
  simp [List.getD_eq_getElem?_getD, List.getElem?_eq_getElem (by omega : k < ad.length)]
theorem mwd_set {cI cJ : ClassId} {ad : List Nat} {h : List mC} {k : Nat} {c : mC} (hl : ad.length = h.length) (hk : 2 ≤ k) (hlt : k < h.length) : mwd cI cJ ad (h.set k c) = (mwd cI cJ ad h).set (k - 2) (ad.getD k 0, menc cI cJ ad c) := by
  unfold mwd
  apply List.ext_getElem?
  intro j
  rw [List.getElem?_zipWith, List.getElem?_set]
  by_cases e : k - 2 = j
  · subst e
    have e : 2 + (k - 2) = k := by omega
    have hl2 : k - 2 < (List.zipWith (fun a c => (a, menc cI cJ ad c)) (List.drop 2 ad) (List.drop 2 h)).length := by
      simp only [List.length_zipWith, List.length_drop]; omega
    rw [if_pos rfl, if_pos hl2, List.getElem?_drop, List.getElem?_drop, e, List.getElem?_set_self hlt, List.getElem?_eq_getElem (by omega : k < ad.length)]
    simp [List.getD_eq_getElem?_getD, List.getElem?_eq_getElem (by omega : k < ad.length)]
  · rw [if_neg e, List.getElem?_zipWith, List.getElem?_drop, List.getElem?_drop, List.getElem?_drop, List.getElem?_set_ne (by omega)]
theorem mwd_push {cI cJ : ClassId} {ad : List Nat} {h : List mC} {q : Nat} {c : mC} (hl : ad.length = h.length) (h2 : 2 ≤ h.length) (hok : mhok h) : mwd cI cJ (ad ++ [q]) (h ++ [c]) = mwd cI cJ ad h ++ [(q, menc cI cJ (ad ++ [q]) c)] := by
  unfold mwd
  rw [List.drop_append_of_le_length (by omega), List.drop_append_of_le_length (by omega), List.zipWith_append (by simp only [List.length_drop]; omega)]
  congr 1
  apply List.ext_getElem?
  intro j
  rw [List.getElem?_zipWith, List.getElem?_zipWith]
  cases ha : (List.drop 2 ad)[j]? with
  | none => rfl
  | some a =>
    cases hc : (List.drop 2 h)[j]? with
    | none => rfl
    | some c =>
      have hm : c ∈ h := List.mem_of_mem_drop (List.mem_of_getElem? hc)
      simp only []
      rw [menc_app (by rw [hl]; exact hok c hm)]
theorem mhok_set {h : List mC} {k : Nat} {c : mC} (hok : mhok h) (hc : mcok h.length c) : mhok (h.set k c) := by
  intro c' hm
  rw [List.length_set]
  rcases List.mem_or_eq_of_mem_set hm with hm | rfl
  · exact hok c' hm
  · exact hc
theorem mhok_push {h : List mC} {c : mC} (hok : mhok h) (hc : mcok h.length c) : mhok (h ++ [c]) := by
  intro c' hm
  rw [List.length_append]
  rcases List.mem_append.mp hm with hm | hm
  · exact mcok_le (hok c' hm) (by simp)
  · rw [List.mem_singleton.mp hm]
    exact mcok_le hc (by simp)
theorem mhok_get {h : List mC} {k : Nat} {c : mC} (hok : mhok h) (hc : h[k]? = some c) : mcok h.length c := hok c (List.mem_of_getElem? hc)
/-! locals -/
def mnu (ad : List Nat) (i : Nat) (v : mV) : Option (Nat × Value) := match v with
  | .inr (.inr none) => none
  | w => some (i, mtau ad w)
def lvOf (ad : List Nat) (L : List mV) : List (Nat × Value) := (List.range L.length).filterMap (fun i => (L[i]?).bind (mnu ad i))
theorem mnu_some {ad : List Nat} {i : Nat} {v : mV} (h : v ≠ mU) : mnu ad i v = some (i, mtau ad v) := by
  rcases v with x | x | _ | k
  · rfl
  · rfl
  · exact absurd rfl h
  · rfl
theorem mnu_inv {ad : List Nat} {i : Nat} {v : mV} {q : Nat × Value} (h : mnu ad i v = some q) : v ≠ mU ∧ q = (i, mtau ad v) := by
  rcases v with x | x | _ | k
  · cases h; exact ⟨(fun e => nomatch e), rfl⟩
  · cases h; exact ⟨(fun e => nomatch e), rfl⟩
  · cases h
  · cases h; exact ⟨(fun e => nomatch e), rfl⟩
theorem mem_lvOf {ad : List Nat} {L : List mV} {q : Nat × Value} : q ∈ lvOf ad L ↔ ∃ i v, L[i]? = some v ∧ v ≠ mU ∧ q = (i, mtau ad v) := by
  unfold lvOf
  rw [List.mem_filterMap]
  constructor
  · rintro ⟨i, hi, h⟩
    obtain ⟨v, h1, h2⟩ := Option.bind_eq_some_iff.mp h
    obtain ⟨h3, h4⟩ := mnu_inv h2
    exact ⟨i, v, h1, h3, h4⟩
  · rintro ⟨i, v, h1, h2, rfl⟩
    exact ⟨i, List.mem_range.mpr (List.getElem?_eq_some_iff.mp h1).1, by rw [h1]; exact mnu_some h2⟩
theorem lv_has_of {ls : Array Slot} {n : Nat} {l l' : List (Nat × Value)} (h : lv_has ls n l) (hl : ∀ q ∈ l', q ∈ l) : lv_has ls n l' := ⟨h.1, h.2.1, fun q hq => h.2.2 q (hl q hq)⟩
theorem lvOf_at {ad : List Nat} {L : List mV} {ls : Array Slot} {n i : Nat} {v : mV} (h : lv_has ls n (lvOf ad L)) (hi : L[i]? = some v) (hv : v ≠ mU) : ls[i]? = some (.val (mtau ad v)) := h.2.2 (i, mtau ad v) (mem_lvOf.mpr ⟨i, v, hi, hv, rfl⟩)
theorem mtau_cat {ad : List Nat} {v : mV} : (mtau ad v).category = mCat v := by
  rcases v with x | x | _ | k <;> rfl
theorem mCat_long {v : mV} : mCat v = 2 ↔ mLong v = true := by
  rcases v with x | x | _ | k <;> simp [mCat, mLong]
/-- one slot written -/
theorem lvOf_set1 {ad : List Nat} {L : List mV} {i : Nat} {v : mV} (hi : i < L.length) (hb : mBefore L i) : ∀ q ∈ lvOf ad (L.set i v), q ∈ (i, mtau ad v) :: (lvOf ad L).filter (fun q => !(q.1 == i) && !(q.1 + 1 == i && q.2.category == 2)) := by
  intro q hq
  obtain ⟨j, w, h1, h2, rfl⟩ := mem_lvOf.mp hq
  rw [List.getElem?_set] at h1
  by_cases e : i = j
  · subst e
    rw [if_pos rfl, if_pos hi] at h1
    cases h1
    exact List.mem_cons_self
  · rw [if_neg e] at h1
    refine List.mem_cons_of_mem _ (List.mem_filter.mpr ⟨mem_lvOf.mpr ⟨j, w, h1, h2, rfl⟩, ?_⟩)
    simp only [Bool.and_eq_true, Bool.not_eq_true', beq_eq_false_iff_ne, ne_eq, Bool.and_eq_false_iff]
    refine ⟨fun x => e x.symm, ?_⟩
    by_cases e2 : j + 1 = i
    · right
      rcases hb with hb | hb
      · omega
      · rw [mtau_cat, mCat_long]
        have : L.getD (i - 1) mU = w := by
          rw [List.getD_eq_getElem?_getD, show i - 1 = j by omega, h1]
          rfl
        rw [this] at hb
        rw [hb]
        decide
    · exact Or.inl e2
/-- two slots written -/
theorem lvOf_set2 {ad : List Nat} {L : List mV} {i : Nat} {v : mV} (hi : i + 1 < L.length) (hb : mBefore L i) : ∀ q ∈ lvOf ad ((L.set i v).set (i + 1) mU), q ∈ (i, mtau ad v) :: (lvOf ad L).filter (fun q => !(q.1 == i) && (!(q.1 == i + 1) && !(q.1 + 1 == i && q.2.category == 2))) := by
  intro q hq
  obtain ⟨j, w, h1, h2, rfl⟩ := mem_lvOf.mp hq
  rw [List.getElem?_set] at h1
  by_cases e1 : i + 1 = j
  · subst e1
    rw [if_pos rfl, if_pos (by rw [List.length_set]; exact hi)] at h1
    cases h1
    exact absurd rfl h2
  · rw [if_neg e1, List.getElem?_set] at h1
    by_cases e : i = j
    · subst e
      rw [if_pos rfl, if_pos (by omega)] at h1
      cases h1
      exact List.mem_cons_self
    · rw [if_neg e] at h1
      refine List.mem_cons_of_mem _ (List.mem_filter.mpr ⟨mem_lvOf.mpr ⟨j, w, h1, h2, rfl⟩, ?_⟩)
      simp only [Bool.and_eq_true, Bool.not_eq_true', beq_eq_false_iff_ne, ne_eq, Bool.and_eq_false_iff]
      refine ⟨fun x => e x.symm, fun x => e1 x.symm, ?_⟩
      by_cases e2 : j + 1 = i
      · right
        rcases hb with hb | hb
        · omega
        · rw [mtau_cat, mCat_long]
          have : L.getD (i - 1) mU = w := by
            rw [List.getD_eq_getElem?_getD, show i - 1 = j by omega, h1]
            rfl
          rw [this] at hb
          rw [hb]
          decide
      · exact Or.inl e2
/-- the arguments of a call, as the callee's locals -/
theorem mArgs_in {ad : List Nat} : ∀ (As : List mV) (off : Nat) (i : Nat) (v : mV), (As.flatMap (fun v => if mLong v = true then [v, mU] else [v]))[i]? = some v → v ≠ mU → (off + i, mtau ad v) ∈ lv_args off (As.map (mtau ad))
  | [], _, i, v, h, _ => by simp at h
  | a :: As, off, i, v, h, hv => by
    rw [List.flatMap_cons] at h
    rw [List.map_cons]
    unfold lv_args
    by_cases hl : mLong a = true
    · rw [if_pos hl] at h
      rw [if_pos (by rw [mtau_cat]; exact mCat_long.mpr hl)]
      match i, h with
      | 0, h =>
        simp at h
        subst h
        exact List.mem_cons_self
      | 1, h =>
        simp at h
        exact absurd h.symm hv
      | i + 2, h =>
        have h' : (As.flatMap (fun v => if mLong v = true then [v, mU] else [v]))[i]? = some v := by simpa using h
        have := mArgs_in (ad := ad) As (off + 2) i v h' hv
        rw [show off + 2 + i = off + (i + 2) by omega] at this
        exact List.mem_cons_of_mem _ this
    · rw [if_neg hl] at h
      rw [if_neg (by rw [mtau_cat]; exact fun q => hl (mCat_long.mp q))]
      match i, h with
      | 0, h =>
        simp at h
        subst h
        exact List.mem_cons_self
      | i + 1, h =>
        have h' : (As.flatMap (fun v => if mLong v = true then [v, mU] else [v]))[i]? = some v := by simpa using h
        have := mArgs_in (ad := ad) As (off + 1) i v h' hv
        rw [show off + 1 + i = off + (i + 1) by omega] at this
        exact List.mem_cons_of_mem _ this
theorem mArgs_sl {ad : List Nat} : ∀ (As : List mV), (lg_sl (As.map (mtau ad))).length = (As.flatMap (fun v => if mLong v = true then [v, mU] else [v])).length
  | [] => rfl
  | a :: As => by
    have ih := mArgs_sl (ad := ad) As
    unfold lg_sl at ih ⊢
    rw [List.map_cons, List.flatMap_cons, List.flatMap_cons, List.length_append, List.length_append, ih]
    congr 1
    by_cases hl : mLong a = true
    · rw [if_pos hl, if_pos (by rw [mtau_cat]; exact mCat_long.mpr hl)]
      rfl
    · rw [if_neg hl, if_neg (by rw [mtau_cat]; exact fun q => hl (mCat_long.mp q))]
      rfl
theorem mArgs_has {ad : List Nat} {As : List mV} {n : Nat} (hn : (mArgs n As).length = n) : lv_has ((lg_sl (As.map (mtau ad)) ++ List.replicate (n - (lg_sl (As.map (mtau ad))).length) Slot.unset).toArray) n (lvOf ad (mArgs n As)) := by
  have hle : (lg_sl (As.map (mtau ad))).length ≤ n := by
    rw [mArgs_sl]
    unfold mArgs at hn
    rw [List.length_append] at hn
    omega
  refine lv_has_of (lv_entry (As.map (mtau ad)) hle) ?_
  intro q hq
  obtain ⟨i, v, h1, h2, rfl⟩ := mem_lvOf.mp hq
  unfold mArgs at h1
  by_cases hi : i < (As.flatMap (fun v => if mLong v = true then [v, mU] else [v])).length
  · rw [List.getElem?_append_left hi] at h1
    have := mArgs_in (ad := ad) As 0 i v h1 h2
    rwa [Nat.zero_add] at this
  · rw [List.getElem?_append_right (by omega), List.getElem?_replicate] at h1
    split at h1
    · cases h1
      exact absurd rfl h2
    · cases h1
theorem mArgs_ok {n k : Nat} {As : List mV} (h : ∀ v ∈ As, mok k v) : ∀ v ∈ mArgs n As, mok k v := by
  intro v hv
  unfold mArgs at hv
  rcases List.mem_append.mp hv with hv | hv
  · obtain ⟨a, ha, hv⟩ := List.mem_flatMap.mp hv
    by_cases hl : mLong a = true
    · rw [if_pos hl] at hv
      rcases List.mem_cons.mp hv with rfl | hv
      · exact h _ ha
      · rw [List.mem_singleton.mp hv]
        exact trivial
    · rw [if_neg hl] at hv
      rw [List.mem_singleton.mp hv]
      exact h _ ha
  · rw [(List.mem_replicate.mp hv).2]
    exact trivial
end
section
/-! ONE INSTRUCTION of the small machine is one of the machine -/
def mPT : List Int := [1, 12, 1728, 35831808]
/-- the links to nest mates -/
def mNs (U : State) : Prop := ∀ (own idx : Nat) (y : MethodName), Cond.methodLinkNest (mN own) idx y "CupDraws" ∈ lw_tbl → va_Nw (.methodLinkNest (mN own) idx y "CupDraws") U
/-- what lies outside: the table PARTS, the script; z0: from here on cells may be written -/
def mGl (z0 t0 b0 : Nat) (xs : List Int) (U : State) (H : Heap) : Prop :=
  va_Z "CupDraws" "PARTS" "[J" (.ref t0) (fun q => z0 ≤ q) U H ∧ va_T .long t0 4 (fun j => .long (Int64.ofInt (mPT.getD j 0))) (fun q => z0 ≤ q) U H ∧ va_X b0 xs.length (fun j => Int32.ofInt (xs.getD j 0)) U H ∧ b0 < z0 ∧ t0 < z0 ∧ z0 ≤ H.size
theorem mGl.moved {z0 t0 b0 : Nat} {xs : List Int} {u U : State} {H : Heap} (hvm : u.vm.Alike U.vm) (h : mGl z0 t0 b0 xs u H) : mGl z0 t0 b0 xs U H := ⟨va_Z.moved hvm h.1, va_T.moved hvm h.2.1, va_X.moved hvm h.2.2.1, h.2.2.2⟩
theorem mGl.kept {z0 t0 b0 : Nat} {xs : List Int} {U : State} {H H1 : Heap} (h : mGl z0 t0 b0 xs U H) (hz : H.size ≤ H1.size) (hq : ∀ a : Nat, a < H.size → ¬ z0 ≤ a → H1[a]? = H[a]?) : mGl z0 t0 b0 xs U H1 :=
  ⟨h.1.kept hq, h.2.1.kept hq, h.2.2.1.kept (hq b0 (by have := h.2.2.2.1; have := h.2.2.2.2.2; omega) (by have := h.2.2.2.1; omega)), h.2.2.2.1, h.2.2.2.2.1, Nat.le_trans h.2.2.2.2.2 hz⟩
/-- the two cells that are read alone -/
def mRo (t0 b0 : Nat) (xs : List Int) (ad : List Nat) (h : List mC) : Prop := ad[0]? = some t0 ∧ ad[1]? = some b0 ∧ h[0]? = some (mJ mPT) ∧ h[1]? = some (mA xs)
/-- a world: the cells at their addresses -/
def mWor (dC : Nat → ClassId) (dI : Nat → Nat → Nat) (cI cJ : ClassId) (t0 b0 : Nat) (xs : List Int) (A : Nat → Prop) (H0 H : Heap) (locs : List Loc) (ad : List Nat) (h : List mC) : Prop :=
  va_P (dC, dI) vwCl (mwd cI cJ ad h) H ∧ va_D A (mwd cI cJ ad h) ∧ va_S A H0 H locs ∧ mhok h ∧ ad.length = h.length ∧ mRo t0 b0 xs ad h
/-- locals and stack -/
def mLS (ad : List Nat) (nL : Nat) (n : Nat) (L S : List mV) (ls : Array Slot) : Prop := (∀ v ∈ S, mok n v) ∧ (∀ v ∈ L, mok n v) ∧ lv_has ls nL (lvOf ad L) ∧ L.length = nL
theorem mRo.two {t0 b0 : Nat} {xs : List Int} {ad : List Nat} {h : List mC} (hr : mRo t0 b0 xs ad h) : 2 ≤ h.length := by
  have := (List.getElem?_eq_some_iff.mp hr.2.2.2).1
  omega
theorem mRo.set {t0 b0 : Nat} {xs : List Int} {ad : List Nat} {h : List mC} {k : Nat} {c : mC} (hr : mRo t0 b0 xs ad h) (hk : 2 ≤ k) : mRo t0 b0 xs ad (h.set k c) :=
  ⟨hr.1, hr.2.1, by rw [List.getElem?_set_ne (by omega)]; exact hr.2.2.1, by rw [List.getElem?_set_ne (by omega)]; exact hr.2.2.2⟩
theorem mRo.push {t0 b0 : Nat} {xs : List Int} {ad : List Nat} {h : List mC} {q : Nat} {c : mC} (hr : mRo t0 b0 xs ad h) : mRo t0 b0 xs (ad ++ [q]) (h ++ [c]) := by
  have f : ∀ {α : Type} {l : List α} {k : Nat} {a x : α}, l[k]? = some a → (l ++ [x])[k]? = some a := by
    intro α l k a x hk
    rw [List.getElem?_append_left (List.getElem?_eq_some_iff.mp hk).1]
    exact hk
  exact ⟨f hr.1, f hr.2.1, f hr.2.2.1, f hr.2.2.2⟩
theorem mfits {t : FieldType} {v : mV} {ad : List Nat} (h : mFit t v) : narrow t (mtau ad v) = mtau ad v ∧ fits t (mtau ad v) = true := by
  rcases v with x | x | _ | k <;> cases t <;> simp only [mFit] at h <;> first | exact h.elim | exact ⟨rfl, rfl⟩ | (rcases h with rfl | rfl <;> exact ⟨rfl, rfl⟩)
/-- what the tables say of a class, by its number -/
theorem mcls {ci : Nat} {r : vw_C} (h : vwCl[ci]? = some r) : (∀ w ∈ u_ws r.1 r.2.1 r.2.2, w ∈ gT) ∧ (∀ k, k < r.2.2 → parseFieldDescriptor (r.2.1 k).2.2.1 = some (mTy ci k)) ∧ (∀ a, a < r.2.2 → ∀ b, b < r.2.2 → a ≠ b → (r.2.1 a).2.1 ≠ (r.2.1 b).2.1) ∧ mN ci = r.1 ∧ (∀ k, k < r.2.2 → (r.2.1 k).1 = r.1) ∧ (∀ k, k < r.2.2 → ∀ ad, defaultValue (mTy ci k) = mtau ad (mDef (mTy ci k))) ∧ mNf ci = r.2.2 ∧ ci < 5 := by
  have dv : ∀ t : FieldType, (t = .int ∨ t = .boolean ∨ t = .long ∨ t = .array .int ∨ t = .array .long ∨ (∃ n, t = .object n)) → ∀ ad, defaultValue t = mtau ad (mDef t) := by
    rintro t (rfl | rfl | rfl | rfl | rfl | ⟨n, rfl⟩) ad <;> rfl
  match ci, h with
  | 0, h =>
    cases h
    refine ⟨inX0, tyX0_ok, nmX0, rfl, by decide, fun k hk => dv _ ?_, rfl, by omega⟩
    revert k
    show ∀ k, k < 4 → _
    intro k hk
    match k, hk with
    | 0, _ => exact Or.inl rfl
    | 1, _ => simp [mTy, tyX0]
    | 2, _ => simp [mTy, tyX0]
    | 3, _ => simp [mTy, tyX0]
    | k + 4, hk => omega
  | 1, h =>
    cases h
    refine ⟨inX1, tyX1_ok, nmX1, rfl, by decide, fun k hk => dv _ ?_, rfl, by omega⟩
    revert k
    show ∀ k, k < 4 → _
    intro k hk
    match k, hk with
    | 0, _ => exact Or.inl rfl
    | 1, _ => simp [mTy, tyX1]
    | 2, _ => simp [mTy, tyX1]
    | 3, _ => simp [mTy, tyX1]
    | k + 4, hk => omega
  | 2, h =>
    cases h
    refine ⟨inX2, tyX2_ok, nmX2, rfl, by decide, fun k hk => dv _ ?_, rfl, by omega⟩
    revert k
    show ∀ k, k < 3 → _
    intro k hk
    match k, hk with
    | 0, _ => exact Or.inl rfl
    | 1, _ => simp [mTy, tyX2]
    | 2, _ => simp [mTy, tyX2]
    | k + 3, hk => omega
  | 3, h =>
    cases h
    refine ⟨inX3, tyX3_ok, nmX3, rfl, by decide, fun k hk => dv _ ?_, rfl, by omega⟩
    revert k
    show ∀ k, k < 6 → _
    intro k hk
    match k, hk with
    | 0, _ => simp [mTy, tyX3]
    | 1, _ => simp [mTy, tyX3]
    | 2, _ => simp [mTy, tyX3]
    | 3, _ => simp [mTy, tyX3]
    | 4, _ => simp [mTy, tyX3]
    | 5, _ => simp [mTy, tyX3]
    | k + 6, hk => omega
  | 4, h =>
    cases h
    refine ⟨inX4, tyX4_ok, nmX4, rfl, by decide, fun k hk => dv _ ?_, rfl, by omega⟩
    revert k
    show ∀ k, k < 19 → _
    intro k hk
    have : ∀ k, k < 19 → (tyX4 k = .int ∨ tyX4 k = .boolean ∨ tyX4 k = .long ∨ tyX4 k = .array .int ∨ tyX4 k = .array .long) := by decide
    rcases this k hk with h | h | h | h | h <;> simp [mTy, h]
  | ci + 5, h => simp [vwCl] at h
section MST
variable {p : Program} {l : Launch} {e : Env} {R : Room} {s : State} {m : MethodId} {args : Array Value} {below : List Frame} {meth : Method} {c : Code} {H : Heap} {locs : List Loc} {cells slots : Nat} {Qr : State → Prop}
variable {cc : ByteArray} {pc : Nat} {ls : Array Slot} {dC : Nat → ClassId} {dI : Nat → Nat → Nat} {cI cJ : ClassId} {z0 t0 b0 : Nat} {xs : List Int} {A : Nat → Prop} {ad : List Nat} {h : List mC} {L S : List mV} {nL : Nat}
theorem m_laload (hx : p.tables.exec = Jvm.exec) (hb : c.code = cc) (hK : va_K (dC, dI) vwCl [(cI, .int), (cJ, .long)] s) (hG : mGl z0 t0 b0 xs s s.heap) (hAz : ∀ q, A q → z0 ≤ q) (hW : mWor dC dI cI cJ t0 b0 xs A s.heap H locs ad h)
    {a : Nat} {x : Int} {li : List Int} {rest : List Value} (hc : h[a]? = some (mJ li)) (h0 : 0 ≤ x) (h1 : x < li.length) (hxr : inI x) (hd : decode cc pc = .ok (.laload, 1))
    (K : W p l e R s m args below meth c H locs cells slots Qr (F0 m (pc + 1) ls (mtau ad (mL (li.getD x.toNat 0)) :: rest))) : W p l e R s m args below meth c H locs cells slots Qr (F0 m pc ls (mtau ad (mI x) :: mtau ad (mR a) :: rest)) := by
  obtain ⟨hP, hD, hS, hok, hlen, hro⟩ := hW
  by_cases ha : 2 ≤ a
  · have hg := mwd_get (cI := cI) (cJ := cJ) (ad := ad) hlen ha hc
    refine va_lald (cA := cJ) hx hb hK hP (a - 2) 1 hg rfl (cI_vp h0 h1 hxr) hd ?_
    rw [cI_cl hxr]
    exact K
  · have ha2 : a = 0 ∨ a = 1 := by omega
    rcases ha2 with rfl | rfl
    · have e : li = mPT := by
        have := hc.symm.trans hro.2.2.1
        simpa using this
      subst e
      have e2 : ad.getD 0 0 = t0 := by rw [List.getD_eq_getElem?_getD, hro.1]; rfl
      show W p l e R s m args below meth c H locs cells slots Qr (F0 m pc ls (.int (Int32.ofInt x) :: .ref (ad.getD 0 0) :: rest))
      rw [e2]
      refine va_tl (t := t0) (N := 4) (v := mtau ad (mL (mPT.getD x.toNat 0))) hx hb (hG.2.1.narrow hAz) hS (cI_vp h0 h1 hxr) ?_ hd K
      rw [cI_cl hxr]
      rfl
    · have := hc.symm.trans hro.2.2.2
      simp at this
theorem m_iaload (hx : p.tables.exec = Jvm.exec) (hb : c.code = cc) (hK : va_K (dC, dI) vwCl [(cI, .int), (cJ, .long)] s) (hG : mGl z0 t0 b0 xs s s.heap) (hAz : ∀ q, A q → z0 ≤ q) (hW : mWor dC dI cI cJ t0 b0 xs A s.heap H locs ad h)
    {a : Nat} {x : Int} {li : List Int} {rest : List Value} (hc : h[a]? = some (mA li)) (h0 : 0 ≤ x) (h1 : x < li.length) (hxr : inI x) (hd : decode cc pc = .ok (.iaload, 1))
    (K : W p l e R s m args below meth c H locs cells slots Qr (F0 m (pc + 1) ls (mtau ad (mI (li.getD x.toNat 0)) :: rest))) : W p l e R s m args below meth c H locs cells slots Qr (F0 m pc ls (mtau ad (mI x) :: mtau ad (mR a) :: rest)) := by
  obtain ⟨hP, hD, hS, hok, hlen, hro⟩ := hW
  by_cases ha : 2 ≤ a
  · have hg := mwd_get (cI := cI) (cJ := cJ) (ad := ad) hlen ha hc
    refine va_iald (cA := cI) hx hb hK hP (a - 2) 0 hg rfl (cI_vp h0 h1 hxr) hd ?_
    rw [cI_cl hxr]
    exact K
  · have ha2 : a = 0 ∨ a = 1 := by omega
    rcases ha2 with rfl | rfl
    · have := hc.symm.trans hro.2.2.1
      simp at this
    · have e : li = xs := by
        have := hc.symm.trans hro.2.2.2
        simpa using this
      subst e
      have e2 : ad.getD 1 0 = b0 := by rw [List.getD_eq_getElem?_getD, hro.2.1]; rfl
      have hbA : ¬ A b0 := fun q => by have := hAz _ q; have := hG.2.2.2.1; omega
      show W p l e R s m args below meth c H locs cells slots Qr (F0 m pc ls (.int (Int32.ofInt x) :: .ref (ad.getD 1 0) :: rest))
      rw [e2]
      refine va_sld hx hb hG.2.2.1 (by have := hG.2.2.2; omega) hbA hS (cI_vp h0 h1 hxr) hd ?_
      rw [cI_cl hxr]
      exact K
theorem m_alen (hx : p.tables.exec = Jvm.exec) (hb : c.code = cc) (hK : va_K (dC, dI) vwCl [(cI, .int), (cJ, .long)] s) (hG : mGl z0 t0 b0 xs s s.heap) (hAz : ∀ q, A q → z0 ≤ q) (hW : mWor dC dI cI cJ t0 b0 xs A s.heap H locs ad h)
    {a : Nat} {ce : mC} {li : List Int} {rest : List Value} (hc : h[a]? = some ce) (hce : ce = mA li ∨ ce = mJ li) (hn : li.length < 2147483648) (hd : decode cc pc = .ok (.arraylength, 1))
    (K : W p l e R s m args below meth c H locs cells slots Qr (F0 m (pc + 1) ls (mtau ad (mI li.length) :: rest))) : W p l e R s m args below meth c H locs cells slots Qr (F0 m pc ls (mtau ad (mR a) :: rest)) := by
  obtain ⟨hP, hD, hS, hok, hlen, hro⟩ := hW
  by_cases ha : 2 ≤ a
  · have hg := mwd_get (cI := cI) (cJ := cJ) (ad := ad) hlen ha hc
    rcases hce with rfl | rfl
    · refine va_alen (cA := cI) (ty := .int) (v := Int32.ofInt li.length) hx hb hK hP (a - 2) 0 hg rfl ?_ hd K
      exact (Int32.ofInt_eq_ofNat).symm
    · refine va_alen (cA := cJ) (ty := .long) (v := Int32.ofInt li.length) hx hb hK hP (a - 2) 1 hg rfl ?_ hd K
      exact (Int32.ofInt_eq_ofNat).symm
  · have ha2 : a = 0 ∨ a = 1 := by omega
    rcases ha2 with rfl | rfl
    · have ee : ce = mJ mPT := Option.some.inj (hc.symm.trans hro.2.2.1)
      have e3 : li = mPT := by
        rcases hce with h1 | h1 <;> rw [ee] at h1 <;> simp at h1
        exact h1.symm
      subst e3
      have e2 : ad.getD 0 0 = t0 := by rw [List.getD_eq_getElem?_getD, hro.1]; rfl
      show W p l e R s m args below meth c H locs cells slots Qr (F0 m pc ls (.ref (ad.getD 0 0) :: rest))
      rw [e2]
      exact va_tlen (ty := .long) (N := 4) (v := Int32.ofInt (mPT.length : Nat)) hx hb (hG.2.1.narrow hAz) hS rfl hd K
    · have ee : ce = mA xs := Option.some.inj (hc.symm.trans hro.2.2.2)
      have e3 : li = xs := by
        rcases hce with h1 | h1 <;> rw [ee] at h1 <;> simp at h1
        exact h1.symm
      subst e3
      have e2 : ad.getD 1 0 = b0 := by rw [List.getD_eq_getElem?_getD, hro.2.1]; rfl
      have hbA : ¬ A b0 := fun q => by have := hAz _ q; have := hG.2.2.2.1; omega
      show W p l e R s m args below meth c H locs cells slots Qr (F0 m pc ls (.ref (ad.getD 1 0) :: rest))
      rw [e2]
      refine va_slen hx hb hG.2.2.1 (by have := hG.2.2.2; omega) hbA hS hd ?_
      rw [← Int32.ofInt_eq_ofNat]
      exact K
theorem enc_seti {l : List Int} {i : Nat} {v : Int} (hi : i < l.length) : (fun j => Int32.ofInt ((l.set i v).getD j 0)) = upd (fun j => Int32.ofInt (l.getD j 0)) i (Int32.ofInt v) := by
  funext j
  unfold upd
  simp only [List.getD_eq_getElem?_getD, List.getElem?_set]
  by_cases e : j = i
  · subst e
    simp [hi]
  · rw [if_neg (fun q => e q.symm), if_neg e]
theorem enc_setl {l : List Int} {i : Nat} {v : Int} (hi : i < l.length) : (fun j => Int64.ofInt ((l.set i v).getD j 0)) = vp_updL (fun j => Int64.ofInt (l.getD j 0)) i (Int64.ofInt v) := by
  funext j
  unfold vp_updL
  simp only [List.getD_eq_getElem?_getD, List.getElem?_set]
  by_cases e : j = i
  · subst e
    simp [hi]
  · rw [if_neg (fun q => e q.symm), if_neg e]
theorem mem_seti {l : List Int} {i : Nat} {v : Int} {P : Int → Prop} (h : ∀ x ∈ l, P x) (hv : P v) : ∀ x ∈ l.set i v, P x := by
  intro x hx
  rcases List.mem_or_eq_of_mem_set hx with hx | rfl
  · exact h x hx
  · exact hv
theorem m_iastore (hx : p.tables.exec = Jvm.exec) (hb : c.code = cc) (hK : va_K (dC, dI) vwCl [(cI, .int), (cJ, .long)] s) (hW : mWor dC dI cI cJ t0 b0 xs A s.heap H locs ad h)
    {a : Nat} {x v : Int} {li : List Int} {rest : List Value} (ha : 2 ≤ a) (hc : h[a]? = some (mA li)) (h0 : 0 ≤ x) (h1 : x < li.length) (hxr : inI x) (hvr : inI v) (hd : decode cc pc = .ok (.iastore, 1))
    (K : ∀ H' locs', mWor dC dI cI cJ t0 b0 xs A s.heap H' locs' ad (h.set a (mA (li.set x.toNat v))) → W p l e R s m args below meth c H' locs' cells slots Qr (F0 m (pc + 1) ls rest)) : W p l e R s m args below meth c H locs cells slots Qr (F0 m pc ls (mtau ad (mI v) :: mtau ad (mI x) :: mtau ad (mR a) :: rest)) := by
  obtain ⟨hP, hD, hS, hok, hlen, hro⟩ := hW
  have hg := mwd_get (cI := cI) (cJ := cJ) (ad := ad) hlen ha hc
  have hlt := (List.getElem?_eq_some_iff.mp hc).1
  refine va_iast (cA := cI) hx hb hK hP hD hS (a - 2) 0 hg rfl (cI_vp h0 h1 hxr) hd (fun H' locs' hP' hD' hS' => ?_)
  have e : (mwd cI cJ ad h).set (a - 2) (ad.getD a 0, .inl (cI, li.length, .inl (upd (fun j => Int32.ofInt (li.getD j 0)) (Int32.ofInt x).toNatClampNeg (Int32.ofInt v)))) = mwd cI cJ ad (h.set a (mA (li.set x.toNat v))) := by
    rw [mwd_set hlen ha hlt, cI_cl hxr, ← enc_seti (by omega)]
    simp only [menc, List.length_set]
  rw [e] at hP' hD'
  exact K H' locs' ⟨hP', hD', hS', mhok_set hok (mem_seti (mhok_get hok hc) hvr), by rw [List.length_set]; exact hlen, hro.set ha⟩
theorem m_lastore (hx : p.tables.exec = Jvm.exec) (hb : c.code = cc) (hK : va_K (dC, dI) vwCl [(cI, .int), (cJ, .long)] s) (hW : mWor dC dI cI cJ t0 b0 xs A s.heap H locs ad h)
    {a : Nat} {x v : Int} {li : List Int} {rest : List Value} (ha : 2 ≤ a) (hc : h[a]? = some (mJ li)) (h0 : 0 ≤ x) (h1 : x < li.length) (hxr : inI x) (hvr : inJ v) (hd : decode cc pc = .ok (.lastore, 1))
    (K : ∀ H' locs', mWor dC dI cI cJ t0 b0 xs A s.heap H' locs' ad (h.set a (mJ (li.set x.toNat v))) → W p l e R s m args below meth c H' locs' cells slots Qr (F0 m (pc + 1) ls rest)) : W p l e R s m args below meth c H locs cells slots Qr (F0 m pc ls (mtau ad (mL v) :: mtau ad (mI x) :: mtau ad (mR a) :: rest)) := by
  obtain ⟨hP, hD, hS, hok, hlen, hro⟩ := hW
  have hg := mwd_get (cI := cI) (cJ := cJ) (ad := ad) hlen ha hc
  have hlt := (List.getElem?_eq_some_iff.mp hc).1
  refine va_last (cA := cJ) hx hb hK hP hD hS (a - 2) 1 hg rfl (cI_vp h0 h1 hxr) hd (fun H' locs' hP' hD' hS' => ?_)
  have e : (mwd cI cJ ad h).set (a - 2) (ad.getD a 0, .inl (cJ, li.length, .inr (.inl (vp_updL (fun j => Int64.ofInt (li.getD j 0)) (Int32.ofInt x).toNatClampNeg (Int64.ofInt v))))) = mwd cI cJ ad (h.set a (mJ (li.set x.toNat v))) := by
    rw [mwd_set hlen ha hlt, cI_cl hxr, ← enc_setl (by omega)]
    simp only [menc, List.length_set]
  rw [e] at hP' hD'
  exact K H' locs' ⟨hP', hD', hS', mhok_set hok (mem_seti (mhok_get hok hc) hvr), by rw [List.length_set]; exact hlen, hro.set ha⟩
theorem m_getfield (hx : p.tables.exec = Jvm.exec) (hb : c.code = cc) (hts : ∀ w ∈ gT, w.before args s = true) {own : Nat} (hown : s.vm.findClass (mN own) = some m.cls) (hK : va_K (dC, dI) vwCl [(cI, .int), (cJ, .long)] s) (hW : mWor dC dI cI cJ t0 b0 xs A s.heap H locs ad h)
    {a ci k idx : Nat} {fs : List mV} {v : mV} {rest : List Value} (hf : mFok own idx ci k) (ha : 2 ≤ a) (hc : h[a]? = some (mO ci fs)) (hv : fs[k]? = some v) (hd : decode cc pc = .ok (.getfield idx, 3))
    (K : W p l e R s m args below meth c H locs cells slots Qr (F0 m (pc + 3) ls (mtau ad v :: rest))) : W p l e R s m args below meth c H locs cells slots Qr (F0 m pc ls (mtau ad (mR a) :: rest)) := by
  obtain ⟨hP, hD, hS, hok, hlen, hro⟩ := hW
  obtain ⟨⟨C, T, N⟩, hr, hk, hw⟩ := hf
  obtain ⟨h1, h2, h3, h4, h5, h6, h7, h8⟩ := mcls hr
  have hg := mwd_get (cI := cI) (cJ := cJ) (ad := ad) hlen ha hc
  exact va_get (ci := ci) (C := C) (T := T) (N := N) (v := mtau ad v) hx hb hts h1 hown hK hP (a - 2) hg hr k hk (hts _ hw) (fun _ q => q) (by rw [List.getElem?_map, hv]; rfl) hd K
theorem m_putfield (hx : p.tables.exec = Jvm.exec) (hb : c.code = cc) (hts : ∀ w ∈ gT, w.before args s = true) {own : Nat} {ini : Prop} (hown : s.vm.findClass (mN own) = some m.cls) (hini : ini → meth.name = "<init>") (hK : va_K (dC, dI) vwCl [(cI, .int), (cJ, .long)] s) (hW : mWor dC dI cI cJ t0 b0 xs A s.heap H locs ad h)
    {a ci k idx : Nat} {fs : List mV} {v : mV} {rest : List Value} (hf : mFok own idx ci k) (ha : 2 ≤ a) (hc : h[a]? = some (mO ci fs)) (hkl : k < fs.length) (hft : mFit (mTy ci k) v) (hfin : mFin ci k = true → ini ∧ own = ci) (hvr : mok h.length v) (hd : decode cc pc = .ok (.putfield idx, 3))
    (K : ∀ H' locs', mWor dC dI cI cJ t0 b0 xs A s.heap H' locs' ad (h.set a (mO ci (fs.set k v))) → W p l e R s m args below meth c H' locs' cells slots Qr (F0 m (pc + 3) ls rest)) : W p l e R s m args below meth c H locs cells slots Qr (F0 m pc ls (mtau ad v :: mtau ad (mR a) :: rest)) := by
  obtain ⟨hP, hD, hS, hok, hlen, hro⟩ := hW
  obtain ⟨⟨C, T, N⟩, hr, hk, hw⟩ := hf
  obtain ⟨h1, h2, h3, h4, h5, h6, h7, h8⟩ := mcls hr
  have hg := mwd_get (cI := cI) (cJ := cJ) (ad := ad) hlen ha hc
  have hlt := (List.getElem?_eq_some_iff.mp hc).1
  obtain ⟨hn, hfi⟩ := mfits (ad := ad) hft
  have fin : ∀ H' locs', va_P (dC, dI) vwCl ((mwd cI cJ ad h).set (a - 2) (ad.getD a 0, .inr (ci, (fs.map (mtau ad)).set k (mtau ad v)))) H' → va_D A ((mwd cI cJ ad h).set (a - 2) (ad.getD a 0, .inr (ci, (fs.map (mtau ad)).set k (mtau ad v)))) → va_S A s.heap H' locs' → W p l e R s m args below meth c H' locs' cells slots Qr (F0 m (pc + 3) ls rest) := by
    intro H' locs' hP' hD' hS'
    have e : (mwd cI cJ ad h).set (a - 2) (ad.getD a 0, .inr (ci, (fs.map (mtau ad)).set k (mtau ad v))) = mwd cI cJ ad (h.set a (mO ci (fs.set k v))) := by
      rw [mwd_set hlen ha hlt]
      simp only [menc, List.map_set]
    rw [e] at hP' hD'
    refine K H' locs' ⟨hP', hD', hS', mhok_set hok ?_, by rw [List.length_set]; exact hlen, hro.set ha⟩
    intro w hwm
    rcases List.mem_or_eq_of_mem_set hwm with q | rfl
    · exact (mhok_get hok hc) w q
    · exact hvr
  have hmf : mFin ci k = (T k).2.2.2 := by unfold mFin; rw [hr]
  by_cases hff : (T k).2.2.2 = true
  · obtain ⟨i1, i2⟩ := hfin (hmf.trans hff)
    exact va_putF (ci := ci) (C := C) (T := T) (N := N) (ty := mTy ci k) hx hb hts h1 (mTy ci) h2 h3 hown hK hP hD hS (a - 2) hg hr k hk (hts _ hw) (fun _ q => q) hff (hini i1) (by rw [i2, h4]; exact h5 k hk) (h2 k hk) hn hfi (by rw [List.length_map]; exact hkl) hd fin
  · exact va_put (ci := ci) (C := C) (T := T) (N := N) (ty := mTy ci k) hx hb hts h1 (mTy ci) h2 h3 hown hK hP hD hS (a - 2) hg hr k hk (hts _ hw) (fun _ q => q) (by simpa using hff) (h2 k hk) hn hfi (by rw [List.length_map]; exact hkl) hd fin
theorem m_getstatic (hx : p.tables.exec = Jvm.exec) (hb : c.code = cc) (hts : ∀ w ∈ gT, w.before args s = true) {own : Nat} (hown : s.vm.findClass (mN own) = some m.cls) (hG : mGl z0 t0 b0 xs s s.heap) (hAz : ∀ q, A q → z0 ≤ q) (hW : mWor dC dI cI cJ t0 b0 xs A s.heap H locs ad h)
    {idx : Nat} {rest : List Value} (hw : Cond.fieldLink (mN own) idx "CupDraws" "PARTS" "[J" ∈ gT) (hd : decode cc pc = .ok (.getstatic idx, 3))
    (K : W p l e R s m args below meth c H locs cells slots Qr (F0 m (pc + 3) ls (mtau ad (mR 0) :: rest))) : W p l e R s m args below meth c H locs cells slots Qr (F0 m pc ls rest) := by
  obtain ⟨hP, hD, hS, hok, hlen, hro⟩ := hW
  have e2 : ad.getD 0 0 = t0 := by rw [List.getD_eq_getElem?_getD, hro.1]; rfl
  refine va_gets (v := .ref t0) hx hb (hG.1.narrow hAz) hS hown (hts _ hw) (fun _ q => q) hd ?_
  rw [← e2]
  exact K
theorem m_new (hx : p.tables.exec = Jvm.exec) (hb : c.code = cc) (hts : ∀ w ∈ gT, w.before args s = true) {own : Nat} (hown : s.vm.findClass (mN own) = some m.cls) (hK : va_K (dC, dI) vwCl [(cI, .int), (cJ, .long)] s) (hA : ∀ q, s.heap.size ≤ q → A q) (hW : mWor dC dI cI cJ t0 b0 xs A s.heap H locs ad h)
    {ci idx : Nat} {rest : List Value} (hf : mNok own idx ci) (hcl : cells + 1 ≤ R.cells) (hsl : slots + mNf ci ≤ R.slots) (hd : decode cc pc = .ok (.new idx, 3))
    (K : ∀ H' q, mWor dC dI cI cJ t0 b0 xs A s.heap H' locs (ad ++ [q]) (h ++ [mO ci (mDefs ci)]) → W p l e R s m args below meth c H' locs (cells + 1) (slots + mNf ci) Qr (F0 m (pc + 3) ls (mtau (ad ++ [q]) (mR h.length) :: rest))) : W p l e R s m args below meth c H locs cells slots Qr (F0 m pc ls rest) := by
  obtain ⟨hP, hD, hS, hok, hlen, hro⟩ := hW
  obtain ⟨⟨C, T, N⟩, hr, hw1, hw2, hw3⟩ := hf
  obtain ⟨h1, h2, h3, h4, h5, h6, h7, h8⟩ := mcls hr
  rw [h7] at hsl
  rw [h7] at K
  refine va_new (ci := ci) (C := C) (T := T) (N := N) (fs := (mDefs ci).map (mtau [])) hx hb hts h1 (mTy ci) h2 hown (hts _ hw1) (hts _ hw2) (hts _ hw3) hK hP hD hS hA hr ?_ hcl hsl hd (fun q H' hP' hD' hS' => ?_)
  · intro j hj
    unfold vp_V mDefs
    rw [h7, List.map_map, List.getD_eq_getElem?_getD, List.getElem?_map, List.getElem?_range hj]
    exact h6 j hj []
  · have hdef : ∀ v ∈ mDefs ci, ∀ n, mok n v := by
      intro v hv n
      obtain ⟨k, -, rfl⟩ := List.mem_map.mp hv
      cases mTy ci k <;> simp only [mDef, mok] <;> first | exact inI_0 | exact inJ_0 | trivial
    have e3 : ∀ ad', (mDefs ci).map (mtau []) = (mDefs ci).map (mtau ad') := by
      intro ad'
      refine List.map_congr_left fun v hv => ?_
      obtain ⟨k, -, rfl⟩ := List.mem_map.mp hv
      cases mTy ci k <;> rfl
    have e : mwd cI cJ ad h ++ [(q, .inr (ci, (mDefs ci).map (mtau [])))] = mwd cI cJ (ad ++ [q]) (h ++ [mO ci (mDefs ci)]) := by
      rw [mwd_push hlen hro.two hok, e3 (ad ++ [q])]
      rfl
    rw [e] at hP' hD'
    have := K H' q ⟨hP', hD', hS', mhok_push hok (fun v hv => hdef v hv _), by simp [hlen], hro.push⟩
    have e4 : mtau (ad ++ [q]) (mR h.length) = .ref q := by
      simp only [mtau]
      congr 1
      rw [List.getD_eq_getElem?_getD, ← hlen, List.getElem?_append_right (Nat.le_refl _), Nat.sub_self]
      rfl
    rw [e4] at this
    exact this
theorem m_newi (hx : p.tables.exec = Jvm.exec) (hb : c.code = cc) (hts : ∀ w ∈ gT, w.before args s = true) (hK : va_K (dC, dI) vwCl [(cI, .int), (cJ, .long)] s) (hA : ∀ q, s.heap.size ≤ q → A q) (hW : mWor dC dI cI cJ t0 b0 xs A s.heap H locs ad h)
    {x : Int} {rest : List Value} (h0 : 0 ≤ x) (h1 : x ≤ 10000) (hcl : cells + 1 ≤ R.cells) (hsl : slots + x.toNat ≤ R.slots) (hd : decode cc pc = .ok (.newarray .int, 2))
    (K : ∀ H' q, mWor dC dI cI cJ t0 b0 xs A s.heap H' locs (ad ++ [q]) (h ++ [mA (List.replicate x.toNat 0)]) → W p l e R s m args below meth c H' locs (cells + 1) (slots + x.toNat) Qr (F0 m (pc + 2) ls (mtau (ad ++ [q]) (mR h.length) :: rest))) : W p l e R s m args below meth c H locs cells slots Qr (F0 m pc ls (mtau ad (mI x) :: rest)) := by
  obtain ⟨hP, hD, hS, hok, hlen, hro⟩ := hW
  have hxr : inI x := ⟨by omega, by omega⟩
  refine va_newa (atype := .int) (ty := .int) (N' := x.toNat) (a0 := (x.toNat, .inl fun _ => 0)) hx hb (hts _ aI) rfl hK hP hD hS hA (fun _ => rfl) ?_ (cI_cl hxr) ?_ hcl hsl hd (fun q cA H' hK' hP' hD' hS' => ?_)
  · rw [show (0 : Int32) = Int32.ofInt 0 from rfl, cI_lt hxr inI_0]
    omega
  · show x.toNat * 4 ≤ 536870912
    omega
  · have ec : cA = cI := by
      have r1 := (hK.2 0 _ rfl).2
      have r2 := (hK'.2 2 _ rfl).2
      exact Option.some.inj (r2.symm.trans r1)
    subst ec
    have e : mwd cA cJ ad h ++ [(q, .inl (cA, (x.toNat, .inl fun _ => 0)))] = mwd cA cJ (ad ++ [q]) (h ++ [mA (List.replicate x.toNat 0)]) := by
      rw [mwd_push hlen hro.two hok]
      congr 3
      simp only [menc, List.length_replicate]
      congr 3
      congr 1
      funext j
      rw [List.getD_eq_getElem?_getD, List.getElem?_replicate]
      split <;> rfl
    rw [e] at hP' hD'
    have := K H' q ⟨hP', hD', hS', mhok_push hok (fun v hv => by rw [(List.mem_replicate.mp hv).2]; exact inI_0), by simp [hlen], hro.push⟩
    have e4 : mtau (ad ++ [q]) (mR h.length) = .ref q := by
      simp only [mtau]
      congr 1
      rw [List.getD_eq_getElem?_getD, ← hlen, List.getElem?_append_right (Nat.le_refl _), Nat.sub_self]
      rfl
    rw [e4] at this
    exact this
theorem m_newl (hx : p.tables.exec = Jvm.exec) (hb : c.code = cc) (hts : ∀ w ∈ gT, w.before args s = true) (hK : va_K (dC, dI) vwCl [(cI, .int), (cJ, .long)] s) (hA : ∀ q, s.heap.size ≤ q → A q) (hW : mWor dC dI cI cJ t0 b0 xs A s.heap H locs ad h)
    {x : Int} {rest : List Value} (h0 : 0 ≤ x) (h1 : x ≤ 10000) (hcl : cells + 1 ≤ R.cells) (hsl : slots + x.toNat ≤ R.slots) (hd : decode cc pc = .ok (.newarray .long, 2))
    (K : ∀ H' q, mWor dC dI cI cJ t0 b0 xs A s.heap H' locs (ad ++ [q]) (h ++ [mJ (List.replicate x.toNat 0)]) → W p l e R s m args below meth c H' locs (cells + 1) (slots + x.toNat) Qr (F0 m (pc + 2) ls (mtau (ad ++ [q]) (mR h.length) :: rest))) : W p l e R s m args below meth c H locs cells slots Qr (F0 m pc ls (mtau ad (mI x) :: rest)) := by
  obtain ⟨hP, hD, hS, hok, hlen, hro⟩ := hW
  have hxr : inI x := ⟨by omega, by omega⟩
  refine va_newa (atype := .long) (ty := .long) (N' := x.toNat) (a0 := (x.toNat, .inr (.inl fun _ => 0))) hx hb (hts _ aJ) rfl hK hP hD hS hA (fun _ => rfl) ?_ (cI_cl hxr) ?_ hcl hsl hd (fun q cA H' hK' hP' hD' hS' => ?_)
  · rw [show (0 : Int32) = Int32.ofInt 0 from rfl, cI_lt hxr inI_0]
    omega
  · show x.toNat * 8 ≤ 536870912
    omega
  · have ec : cA = cJ := by
      have r1 := (hK.2 1 _ rfl).2
      have r2 := (hK'.2 2 _ rfl).2
      exact Option.some.inj (r2.symm.trans r1)
    subst ec
    have e : mwd cI cA ad h ++ [(q, .inl (cA, (x.toNat, .inr (.inl fun _ => 0))))] = mwd cI cA (ad ++ [q]) (h ++ [mJ (List.replicate x.toNat 0)]) := by
      rw [mwd_push hlen hro.two hok]
      congr 3
      simp only [menc, List.length_replicate]
      congr 5
      funext j
      rw [List.getD_eq_getElem?_getD, List.getElem?_replicate]
      split <;> rfl
    rw [e] at hP' hD'
    have := K H' q ⟨hP', hD', hS', mhok_push hok (fun v hv => by rw [(List.mem_replicate.mp hv).2]; exact inJ_0), by simp [hlen], hro.push⟩
    have e4 : mtau (ad ++ [q]) (mR h.length) = .ref q := by
      simp only [mtau]
      congr 1
      rw [List.getD_eq_getElem?_getD, ← hlen, List.getElem?_append_right (Nat.le_refl _), Nat.sub_self]
      rfl
    rw [e4] at this
    exact this
theorem mcats_tau {rest : List mV} : ((rest.map (mtau ad)).map fun v => v.category).sum = mCats rest := by
  unfold mCats
  rw [List.map_map]
  congr 1
  exact List.map_congr_left fun v _ => mtau_cat
theorem m_objInit (hx : p.tables.exec = Jvm.exec) (hb : c.code = cc) (hml : c.maxLocals = nL) (hts : ∀ w ∈ gT, w.before args s = true) {own : Nat} (hown : s.vm.findClass (mN own) = some m.cls) (hls : ls.size = nL) (hR : 1 ≤ R.frames ∧ 64 ≤ R.locals)
    {a idx : Nat} {rest : List mV} (hr8 : mCats rest ≤ 8) (hw : Cond.methodLink (mN own) idx objectInit ∈ gT) (hd : decode cc pc = .ok (.invokespecial idx, 3))
    (K : W p l e R s m args below meth c H locs cells slots Qr (F0 m (pc + 3) ls (rest.map (mtau ad)))) : W p l e R s m args below meth c H locs cells slots Qr (F0 m pc ls (mtau ad (mR a) :: rest.map (mtau ad))) := by
  refine W.objInit hx hb hown (hts _ hw) (hts _ oiA) (hts _ oiB) rfl (by rw [hml]; exact hls) rfl hd hR.1 ?_ (W.eq (g2 := F0 m (pc + 3) ls (rest.map (mtau ad))) rfl K)
  rw [mcats_tau]
  show 2 * 0 + _ + 12 ≤ _
  omega
theorem enc_cpy {l0 l1 : List Int} {sp dp n : Nat} (h1 : dp + n ≤ l1.length) : (fun j => Int32.ofInt ((mCpy l0 l1 sp dp n).getD j 0)) = va_cpy (fun j => Int32.ofInt (l0.getD j 0)) (fun j => Int32.ofInt (l1.getD j 0)) sp dp n := by
  funext j
  unfold va_cpy mCpy
  rw [List.getD_eq_getElem?_getD, List.getElem?_map]
  by_cases hj : j < l1.length
  · rw [List.getElem?_range hj]
    simp only [Option.map_some, Option.getD_some]
    split <;> rfl
  · rw [List.getElem?_eq_none (by rw [List.length_range]; omega)]
    simp only [Option.map_none, Option.getD_none]
    rw [if_neg (by omega), List.getD_eq_getElem?_getD, List.getElem?_eq_none (by omega)]
    rfl
theorem m_copy (hx : p.tables.exec = Jvm.exec) (hb : c.code = cc) (hml : c.maxLocals = nL) (hts : ∀ w ∈ gT, w.before args s = true) {own : Nat} (hown : s.vm.findClass (mN own) = some m.cls) (hls : ls.size = nL) (hR : 1 ≤ R.frames ∧ 64 ≤ R.locals) (hK : va_K (dC, dI) vwCl [(cI, .int), (cJ, .long)] s) (hW : mWor dC dI cI cJ t0 b0 xs A s.heap H locs ad h)
    {a0 a1 idx : Nat} {n dp sp : Int} {l0 l1 : List Int} {rest : List mV} (hr8 : mCats rest ≤ 8) (hw : Cond.methodLink (mN own) idx arraycopyName ∈ gT) (h1 : 2 ≤ a1) (h0 : 2 ≤ a0) (hc0 : h[a0]? = some (mA l0)) (hc1 : h[a1]? = some (mA l1)) (hn : 0 ≤ n) (hsp : 0 ≤ sp) (hdp : 0 ≤ dp) (g0 : sp + n ≤ l0.length) (g1 : dp + n ≤ l1.length) (rn : inI n) (rs : inI sp) (rd : inI dp) (hd : decode cc pc = .ok (.invokestatic idx, 3))
    (K : ∀ H' locs', mWor dC dI cI cJ t0 b0 xs A s.heap H' locs' ad (h.set a1 (mA (mCpy l0 l1 sp.toNat dp.toNat n.toNat))) → W p l e R s m args below meth c H' locs' cells slots Qr (F0 m (pc + 3) ls (rest.map (mtau ad)))) : W p l e R s m args below meth c H locs cells slots Qr (F0 m pc ls (mtau ad (mI n) :: mtau ad (mI dp) :: mtau ad (mR a1) :: mtau ad (mI sp) :: mtau ad (mR a0) :: rest.map (mtau ad))) := by
  obtain ⟨hP, hD, hS, hok, hlen, hro⟩ := hW
  have hg0 := mwd_get (cI := cI) (cJ := cJ) (ad := ad) hlen h0 hc0
  have hg1 := mwd_get (cI := cI) (cJ := cJ) (ad := ad) hlen h1 hc1
  have hlt := (List.getElem?_eq_some_iff.mp hc1).1
  have neg : ∀ z : Int, inI z → 0 ≤ z → ¬ Int32.ofInt z < 0 := by
    intro z hz h0
    rw [show (0 : Int32) = Int32.ofInt 0 from rfl, cI_lt hz inI_0]
    omega
  refine va_copyi (ty := .int) hx hb (by rw [hml]; exact hls.symm) hown (hts _ hw) (hts _ acN) (hts _ acS) (hts _ acI) hK hP hD hS (a0 - 2) (a1 - 2) 0 0 hg0 hg1 rfl rfl rfl (neg sp rs hsp) (neg dp rd hdp) (neg n rn hn) ?_ ?_ (fun _ _ => rfl) hR.1 ?_ hd (fun H' locs' hP' hD' hS' => ?_)
  · rw [cI_cl rs, cI_cl rn]; omega
  · rw [cI_cl rd, cI_cl rn]; omega
  · rw [mcats_tau]
    have : nativeFrameWords "java/lang/System" "arraycopy" 5 = 7 := by decide +kernel
    omega
  · have e : (mwd cI cJ ad h).set (a1 - 2) (ad.getD a1 0, .inl (cI, l1.length, .inl (va_cpy (fun j => Int32.ofInt (l0.getD j 0)) (fun j => Int32.ofInt (l1.getD j 0)) (Int32.ofInt sp).toNatClampNeg (Int32.ofInt dp).toNatClampNeg (Int32.ofInt n).toNatClampNeg))) = mwd cI cJ ad (h.set a1 (mA (mCpy l0 l1 sp.toNat dp.toNat n.toNat))) := by
      rw [mwd_set hlen h1 hlt, cI_cl rs, cI_cl rd, cI_cl rn, ← enc_cpy (by omega)]
      simp only [menc]
      congr 5
      simp [mCpy]
    rw [e] at hP' hD'
    refine K H' locs' ⟨hP', hD', hS', mhok_set hok ?_, by rw [List.length_set]; exact hlen, hro.set h1⟩
    intro v hv
    obtain ⟨j, -, rfl⟩ := List.mem_map.mp hv
    have get : ∀ (l : List Int) (i : Nat), (∀ x ∈ l, inI x) → inI (l.getD i 0) := by
      intro l i hl
      rw [List.getD_eq_getElem?_getD]
      cases hi : l[i]? with
      | none => exact inI_0
      | some y => exact hl y (List.mem_of_getElem? hi)
    split
    · exact get _ _ (mhok_get hok hc0)
    · exact get _ _ (mhok_get hok hc1)
end MST
end
section
/-! ANY instruction of the small machine that is no call and no return; then calls; then all -/
section MSS
variable {p : Program} {l : Launch} {e : Env} {R : Room} {s : State} {m : MethodId} {args : Array Value} {below : List Frame} {meth : Method} {c : Code} {H : Heap} {locs : List Loc} {cells slots cb sb : Nat} {Qr : State → Prop}
variable {cc : ByteArray} {pc : Nat} {ls : Array Slot} {dC : Nat → ClassId} {dI : Nat → Nat → Nat} {cI cJ : ClassId} {z0 t0 b0 : Nat} {xs : List Int} {A : Nat → Prop} {ad : List Nat} {h : List mC} {L S : List mV} {nL : Nat}
theorem mLS.st {n : Nat} {S' : List mV} (hl : mLS ad nL n L S ls) (hS : ∀ v ∈ S', mok n v) : mLS ad nL n L S' ls := ⟨hS, hl.2⟩
theorem mLS.hd {n : Nat} {v : mV} (hl : mLS ad nL n L (v :: S) ls) : mok n v := hl.1 v List.mem_cons_self
theorem mLS.tl {n : Nat} {v : mV} (hl : mLS ad nL n L (v :: S) ls) : mLS ad nL n L S ls := hl.st fun w hw => hl.1 w (List.mem_cons_of_mem _ hw)
theorem mLS.push {n : Nat} {v : mV} (hl : mLS ad nL n L S ls) (hv : mok n v) : mLS ad nL n L (v :: S) ls := hl.st fun w hw => by
  rcases List.mem_cons.mp hw with rfl | hw
  · exact hv
  · exact hl.1 w hw
theorem mLS.le {n n' : Nat} (hl : mLS ad nL n L S ls) (hn : n ≤ n') : mLS ad nL n' L S ls := ⟨fun v hv => mok_le (hl.1 v hv) hn, fun v hv => mok_le (hl.2.1 v hv) hn, hl.2.2⟩
theorem mLS.loc {n : Nat} {i : Nat} {v : mV} (hl : mLS ad nL n L S ls) (hi : L[i]? = some v) : mok n v := hl.2.1 v (List.mem_of_getElem? hi)
theorem fm_congr {α β : Type} {f g : α → Option β} : ∀ {l : List α}, (∀ a ∈ l, f a = g a) → l.filterMap f = l.filterMap g
  | [], _ => rfl
  | a :: l, h => by
    rw [List.filterMap_cons, List.filterMap_cons, h a List.mem_cons_self, fm_congr (fun b hb => h b (List.mem_cons_of_mem _ hb))]
theorem lvOf_app {ex : List Nat} (hL : ∀ v ∈ L, mok ad.length v) : lvOf (ad ++ ex) L = lvOf ad L := by
  unfold lvOf
  refine fm_congr ?_
  intro i _
  cases hi : L[i]? with
  | none => rfl
  | some v =>
    have hv := hL v (List.mem_of_getElem? hi)
    rcases v with x | x | _ | k
    · rfl
    · rfl
    · rfl
    · show some (i, mtau (ad ++ ex) (mR k)) = some (i, mtau ad (mR k))
      rw [mtau_app hv]
theorem mLS.ext {n n' : Nat} {ex : List Nat} (hl : mLS ad nL n L S ls) (hn : n = ad.length) (hn' : n ≤ n') : mLS (ad ++ ex) nL n' L S ls := by
  refine ⟨fun v hv => mok_le (hl.1 v hv) hn', fun v hv => mok_le (hl.2.1 v hv) hn', ?_, hl.2.2.2⟩
  rw [lvOf_app (fun v hv => hn ▸ hl.2.1 v hv)]
  exact hl.2.2.1
theorem mtaus_app {ex : List Nat} {S : List mV} (hS : ∀ v ∈ S, mok ad.length v) : S.map (mtau (ad ++ ex)) = S.map (mtau ad) := List.map_congr_left fun v hv => mtau_app (hS v hv)
theorem mLS.set1 {n i : Nat} {v : mV} {ls' : Array Slot} (hl : mLS ad nL n L (v :: S) ls) (hi : i < L.length) (hb : mBefore L i) (h' : lv_has ls' nL ((i, mtau ad v) :: (lvOf ad L).filter (fun q => !(q.1 == i) && !(q.1 + 1 == i && q.2.category == 2)))) : mLS ad nL n (L.set i v) S ls' := by
  refine ⟨hl.tl.1, fun w hw => ?_, lv_has_of h' (lvOf_set1 hi hb), by rw [List.length_set]; exact hl.2.2.2⟩
  rcases List.mem_or_eq_of_mem_set hw with hw | rfl
  · exact hl.2.1 w hw
  · exact hl.hd
theorem mLS.set2 {n i : Nat} {v : mV} {ls' : Array Slot} (hl : mLS ad nL n L (v :: S) ls) (hi : i + 1 < L.length) (hb : mBefore L i) (h' : lv_has ls' nL ((i, mtau ad v) :: (lvOf ad L).filter (fun q => !(q.1 == i) && (!(q.1 == i + 1) && !(q.1 + 1 == i && q.2.category == 2))))) : mLS ad nL n ((L.set i v).set (i + 1) mU) S ls' := by
  refine ⟨hl.tl.1, fun w hw => ?_, lv_has_of h' (lvOf_set2 hi hb), by rw [List.length_set, List.length_set]; exact hl.2.2.2⟩
  rcases List.mem_or_eq_of_mem_set hw with hw | rfl
  · rcases List.mem_or_eq_of_mem_set hw with hw | rfl
    · exact hl.2.1 w hw
    · exact hl.hd
  · exact trivial
theorem getD_ok {li : List Int} {P : Int → Prop} (h0 : P 0) (hl : ∀ x ∈ li, P x) (i : Nat) : P (li.getD i 0) := by
  rw [List.getD_eq_getElem?_getD]
  cases hi : li[i]? with
  | none => exact h0
  | some y => exact hl y (List.mem_of_getElem? hi)
set_option maxHeartbeats 4000000 in
theorem m_step (hx : p.tables.exec = Jvm.exec) (hb : c.code = cc) (hml : c.maxLocals = nL) (hts : ∀ w ∈ gT, w.before args s = true) {own d : Nat} {ini : Prop} (hown : s.vm.findClass (mN own) = some m.cls) (hini : ini → meth.name = "<init>") (hK : va_K (dC, dI) vwCl [(cI, .int), (cJ, .long)] s) (hG : mGl z0 t0 b0 xs s s.heap) (hA : ∀ q, s.heap.size ≤ q → A q) (hAz : ∀ q, A q → z0 ≤ q)
    (hcb : cb ≤ R.cells ∧ sb ≤ R.slots) (hR : d ≤ R.frames ∧ 64 * d ≤ R.locals) (hW : mWor dC dI cI cJ t0 b0 xs A s.heap H locs ad h) (hL : mLS ad nL h.length L S ls) {b : Nat × Nat} (hbud : cells + b.1 = cb ∧ slots + b.2 = sb)
    {i : Instr} {len : Nat} {o : mS} (hd : decode cc pc = .ok (i, len)) (hs : mSS d own ini i len pc L S h b o)
    (K : ∀ H' locs' cells' slots' ex ls', mWor dC dI cI cJ t0 b0 xs A s.heap H' locs' (ad ++ ex) o.2.2.2.1 → mLS (ad ++ ex) nL o.2.2.2.1.length o.2.1 o.2.2.1 ls' → cells' + o.2.2.2.2.1 = cb ∧ slots' + o.2.2.2.2.2 = sb →
      W p l e R s m args below meth c H' locs' cells' slots' Qr (F0 m o.1 ls' (o.2.2.1.map (mtau (ad ++ ex))))) : W p l e R s m args below meth c H locs cells slots Qr (F0 m pc ls (S.map (mtau ad))) := by
  have K0 : ∀ H' locs' ls', mWor dC dI cI cJ t0 b0 xs A s.heap H' locs' ad o.2.2.2.1 → mLS ad nL o.2.2.2.1.length o.2.1 o.2.2.1 ls' → b = o.2.2.2.2 → W p l e R s m args below meth c H' locs' cells slots Qr (F0 m o.1 ls' (o.2.2.1.map (mtau ad))) := by
    intro H' locs' ls' h1 h2 h3
    have := K H' locs' cells slots [] ls' (by rw [List.append_nil]; exact h1) (by rw [List.append_nil]; exact h2) (by rw [← h3]; exact hbud)
    rw [List.append_nil] at this
    exact this
  cases i with
  | aload k =>
    obtain ⟨x, rfl, hl, rfl⟩ := hs
    exact lv_aload hx hb hd (lvOf_at hL.2.2.1 hl (fun q => nomatch q)) (K0 H locs ls hW (hL.push (hL.loc hl)) rfl)
  | aload_n k =>
    obtain ⟨x, rfl, hl, rfl⟩ := hs
    exact lv_aload_n hx hb hd rfl (lvOf_at hL.2.2.1 hl (fun q => nomatch q)) (K0 H locs ls hW (hL.push (hL.loc hl)) rfl)
  | iload k =>
    obtain ⟨x, rfl, hl, rfl⟩ := hs
    exact lv_iload hx hb hd (lvOf_at hL.2.2.1 hl (fun q => nomatch q)) (K0 H locs ls hW (hL.push (hL.loc hl)) rfl)
  | iload_n k =>
    obtain ⟨x, rfl, hl, rfl⟩ := hs
    exact lv_iload_n hx hb hd rfl (lvOf_at hL.2.2.1 hl (fun q => nomatch q)) (K0 H locs ls hW (hL.push (hL.loc hl)) rfl)
  | lload k =>
    obtain ⟨x, rfl, hl, rfl⟩ := hs
    exact lv_lload hx hb hd (lvOf_at hL.2.2.1 hl (fun q => nomatch q)) (K0 H locs ls hW (hL.push (hL.loc hl)) rfl)
  | lload_n k =>
    obtain ⟨x, rfl, hl, rfl⟩ := hs
    exact lv_lload_n hx hb hd rfl (lvOf_at hL.2.2.1 hl (fun q => nomatch q)) (K0 H locs ls hW (hL.push (hL.loc hl)) rfl)
  | astore k =>
    obtain ⟨x, S', rfl, rfl, hi, hbf, rfl⟩ := hs
    exact lv_astore hx hb hd hL.2.2.1 (by rw [← hL.2.2.2]; exact hi) rfl (fun ls' h' => K0 H locs ls' hW (hL.set1 hi hbf h') rfl)
  | astore_n k =>
    obtain ⟨x, S', rfl, rfl, hi, hbf, rfl⟩ := hs
    exact lv_astore_n hx hb hd rfl hL.2.2.1 (by rw [← hL.2.2.2]; exact hi) rfl (fun ls' h' => K0 H locs ls' hW (hL.set1 hi hbf h') rfl)
  | istore k =>
    obtain ⟨x, S', rfl, rfl, hi, hbf, rfl⟩ := hs
    exact lv_istore hx hb hd hL.2.2.1 (by rw [← hL.2.2.2]; exact hi) rfl (fun ls' h' => K0 H locs ls' hW (hL.set1 hi hbf h') rfl)
  | istore_n k =>
    obtain ⟨x, S', rfl, rfl, hi, hbf, rfl⟩ := hs
    exact lv_istore_n hx hb hd rfl hL.2.2.1 (by rw [← hL.2.2.2]; exact hi) rfl (fun ls' h' => K0 H locs ls' hW (hL.set1 hi hbf h') rfl)
  | lstore k =>
    obtain ⟨x, S', rfl, rfl, hi, hbf, rfl⟩ := hs
    exact lv_lstore hx hb hd hL.2.2.1 (by rw [← hL.2.2.2]; exact hi) rfl (fun ls' h' => K0 H locs ls' hW (hL.set2 hi hbf h') rfl)
  | lstore_n k =>
    obtain ⟨x, S', rfl, rfl, hi, hbf, rfl⟩ := hs
    exact lv_lstore_n hx hb hd rfl hL.2.2.1 (by rw [← hL.2.2.2]; exact hi) rfl (fun ls' h' => K0 H locs ls' hW (hL.set2 hi hbf h') rfl)
  | iinc k n =>
    obtain ⟨x, rfl, hl, hbf, hr, rfl⟩ := hs
    have hi : k < L.length := (List.getElem?_eq_some_iff.mp hl).1
    obtain ⟨j, hj⟩ := List.getElem?_of_mem (mem_lvOf (ad := ad).mpr ⟨k, mI x, hl, (fun q => nomatch q), rfl⟩)
    refine lv_iinc (v := Int32.ofInt (x + n)) hx hb hd hL.2.2.1 hj (by rw [Int32.ofInt_add]) (by rw [← hL.2.2.2]; exact hi) rfl (fun ls' h' => K0 H locs ls' hW ?_ rfl)
    exact (hL.push (v := mI (x + n)) hr).set1 hi hbf h'
  | iconst n =>
    obtain ⟨rfl, hr, rfl⟩ := hs
    exact lv_iconst hx hb hd rfl (K0 H locs ls hW (hL.push hr) rfl)
  | bipush n =>
    obtain ⟨rfl, h1, h2, rfl⟩ := hs
    exact lv_bipush hx hb hd (cI_b h1 h2) (K0 H locs ls hW (hL.push (show inI n from ⟨by omega, by omega⟩)) rfl)
  | sipush n =>
    obtain ⟨rfl, h1, h2, rfl⟩ := hs
    exact lv_sipush hx hb hd (cI_s h1 h2) (K0 H locs ls hW (hL.push (show inI n from ⟨by omega, by omega⟩)) rfl)
  | lconst n =>
    obtain ⟨rfl, rfl⟩ := hs
    exact lv_lconst hx hb hd (Int64.ofInt_eq_ofNat).symm (K0 H locs ls hW (hL.push (show inJ ((n : Nat) : Int) from ⟨by have := n.isLt; omega, by have := n.isLt; omega⟩)) rfl)
  | ldc2_w idx =>
    obtain ⟨x, rfl, hr, hw, rfl⟩ := hs
    exact lv_ldc2 hx hb hown (hts _ hw) hd (K0 H locs ls hW (hL.push hr) rfl)
  | ldc_w idx =>
    obtain ⟨x, rfl, hr, hw, rfl⟩ := hs
    exact lv_ldcw hx hb hown (hts _ hw) hd (K0 H locs ls hW (hL.push hr) rfl)
  | iadd =>
    obtain ⟨x, y, S', rfl, rfl, hr, rfl⟩ := hs
    refine lv_iadd hx hb hd ?_
    rw [← Int32.ofInt_add]
    exact K0 H locs ls hW (hL.tl.tl.push hr) rfl
  | isub =>
    obtain ⟨x, y, S', rfl, rfl, hr, rfl⟩ := hs
    refine lv_isub hx hb hd ?_
    rw [← Int32.ofInt_sub]
    exact K0 H locs ls hW (hL.tl.tl.push hr) rfl
  | imul =>
    obtain ⟨x, y, S', rfl, rfl, hr, rfl⟩ := hs
    refine lv_imul hx hb hd ?_
    rw [← Int32.ofInt_mul]
    exact K0 H locs ls hW (hL.tl.tl.push hr) rfl
  | ladd =>
    obtain ⟨x, y, S', rfl, rfl, hr, rfl⟩ := hs
    refine lv_ladd hx hb hd ?_
    rw [← Int64.ofInt_add]
    exact K0 H locs ls hW (hL.tl.tl.push hr) rfl
  | lsub =>
    obtain ⟨x, y, S', rfl, rfl, hr, rfl⟩ := hs
    refine lv_lsub hx hb hd ?_
    rw [← Int64.ofInt_sub]
    exact K0 H locs ls hW (hL.tl.tl.push hr) rfl
  | lmul =>
    obtain ⟨x, y, S', rfl, rfl, hr, rfl⟩ := hs
    refine lv_lmul hx hb hd ?_
    rw [← Int64.ofInt_mul]
    exact K0 H locs ls hW (hL.tl.tl.push hr) rfl
  | iand =>
    obtain ⟨x, y, S', rfl, rfl, rfl⟩ := hs
    refine lv_iand hx hb hd ?_
    rw [cI_and]
    exact K0 H locs ls hW (hL.tl.tl.push (cI_in _)) rfl
  | ior =>
    obtain ⟨x, y, S', rfl, rfl, rfl⟩ := hs
    refine lv_ior hx hb hd ?_
    rw [cI_or]
    exact K0 H locs ls hW (hL.tl.tl.push (cI_in _)) rfl
  | ishl =>
    obtain ⟨x, y, S', rfl, rfl, rfl⟩ := hs
    refine lv_ishl hx hb hd ?_
    rw [cI_shl]
    exact K0 H locs ls hW (hL.tl.tl.push (cI_in _)) rfl
  | ishr =>
    obtain ⟨x, y, S', rfl, rfl, rfl⟩ := hs
    refine lv_ishr hx hb hd ?_
    rw [cI_shr]
    exact K0 H locs ls hW (hL.tl.tl.push (cI_in _)) rfl
  | iushr =>
    obtain ⟨x, y, S', rfl, rfl, rfl⟩ := hs
    exact lv_iushr hx hb hd (cI_ushr x y) (K0 H locs ls hW (hL.tl.tl.push (cI_in _)) rfl)
  | idiv =>
    obtain ⟨x, y, S', rfl, rfl, h0, h1, rfl⟩ := hs
    have hr := (show inI (x / y) from by
      have q1 := hL.tl.hd
      have q2 := hL.hd
      have a1 := Int.ediv_nonneg h0 (Int.le_of_lt h1)
      have a2 := Int.ediv_le_self y h0
      simp only [mok, inI] at q1 q2 ⊢
      omega)
    refine lv_idiv hx hb hd ?_ ?_
    · rw [show (0 : Int32) = Int32.ofInt 0 from rfl, cI_eq hL.hd inI_0]
      omega
    · rw [cI_div hL.tl.hd hL.hd h0 h1]
      exact K0 H locs ls hW (hL.tl.tl.push hr) rfl
  | irem =>
    obtain ⟨x, y, S', rfl, rfl, h0, h1, rfl⟩ := hs
    have hr := (show inI (x % y) from by
      have q1 := hL.tl.hd
      have q2 := hL.hd
      have a1 := Int.emod_nonneg x (show y ≠ 0 by omega)
      have a2 := Int.emod_lt_of_pos x h1
      simp only [mok, inI] at q1 q2 ⊢
      omega)
    refine lv_irem hx hb hd ?_ ?_
    · rw [show (0 : Int32) = Int32.ofInt 0 from rfl, cI_eq hL.hd inI_0]
      omega
    · rw [cI_rem hL.tl.hd hL.hd h0 h1]
      exact K0 H locs ls hW (hL.tl.tl.push hr) rfl
  | ldiv =>
    obtain ⟨x, y, S', rfl, rfl, h0, h1, rfl⟩ := hs
    have hr := (show inJ (x / y) from by
      have q1 := hL.tl.hd
      have q2 := hL.hd
      have a1 := Int.ediv_nonneg h0 (Int.le_of_lt h1)
      have a2 := Int.ediv_le_self y h0
      simp only [mok, inJ] at q1 q2 ⊢
      omega)
    refine lv_ldiv hx hb hd ?_ ?_
    · rw [show (0 : Int64) = Int64.ofInt 0 from rfl, cJ_eq hL.hd inJ_0]
      omega
    · rw [cJ_div hL.tl.hd hL.hd h0 h1]
      exact K0 H locs ls hW (hL.tl.tl.push hr) rfl
  | lrem =>
    obtain ⟨x, y, S', rfl, rfl, h0, h1, rfl⟩ := hs
    have hr := (show inJ (x % y) from by
      have q1 := hL.tl.hd
      have q2 := hL.hd
      have a1 := Int.emod_nonneg x (show y ≠ 0 by omega)
      have a2 := Int.emod_lt_of_pos x h1
      simp only [mok, inJ] at q1 q2 ⊢
      omega)
    refine lv_lrem hx hb hd ?_ ?_
    · rw [show (0 : Int64) = Int64.ofInt 0 from rfl, cJ_eq hL.hd inJ_0]
      omega
    · rw [cJ_rem hL.tl.hd hL.hd h0 h1]
      exact K0 H locs ls hW (hL.tl.tl.push hr) rfl
  | ineg =>
    obtain ⟨x, S', rfl, rfl, hr, rfl⟩ := hs
    refine lv_ineg hx hb hd ?_
    rw [← Int32.ofInt_neg]
    exact K0 H locs ls hW (hL.tl.push hr) rfl
  | lcmp =>
    obtain ⟨x, y, S', rfl, rfl, rfl⟩ := hs
    refine W.lcmp hx hb hd ?_
    rw [cI_cmp hL.tl.hd hL.hd]
    refine K0 H locs ls hW (hL.tl.tl.push ?_) rfl
    show inI (if y < x then 1 else if x = y then 0 else -1)
    split
    · exact ⟨by decide, by decide⟩
    · split <;> exact ⟨by decide, by decide⟩
  | i2l =>
    obtain ⟨x, S', rfl, rfl, rfl⟩ := hs
    have hr : inI x := hL.hd
    exact lv_i2l hx hb hd (cI_l hr) (K0 H locs ls hW (hL.tl.push (show inJ x by unfold inI at hr; unfold inJ; omega)) rfl)
  | dup =>
    obtain ⟨v, S', rfl, rfl, hv, rfl⟩ := hs
    refine lv_dup hx hb hd ?_ (K0 H locs ls hW (hL.push hL.hd) rfl)
    rw [mtau_cat]
    rcases v with x | x | _ | k <;> first | rfl | cases hv
  | dup2 =>
    obtain ⟨v, w, S', rfl, rfl, hv, hw, rfl⟩ := hs
    refine lv_dup2_11 hx hb hd ?_ ?_ (K0 H locs ls hW ((hL.push hL.tl.hd).push hL.hd) rfl)
    · rw [mtau_cat]
      rcases v with x | x | _ | k <;> first | rfl | cases hv
    · rw [mtau_cat]
      rcases w with x | x | _ | k <;> first | rfl | cases hw
  | goto off =>
    obtain ⟨t, rfl, ht, rfl⟩ := hs
    exact lv_goto hx hb hd ht (K0 H locs ls hW hL rfl)
  | if_icmp c9 off =>
    obtain ⟨x, y, S', t, rfl, rfl, ht, rfl⟩ := hs
    cases c9 with
    | eq =>
      refine lv_icmp_eq hx hb hd ht (fun q => ?_) (fun q => ?_)
      · have q' := (cI_eq hL.tl.hd hL.hd).mp q
        have e1 : mCmp .eq x y = true := by simp only [mCmp, decide_eq_true_eq]; exact q'
        rw [e1] at K0
        exact K0 H locs ls hW hL.tl.tl rfl
      · have q' := fun z => q ((cI_eq hL.tl.hd hL.hd).mpr z)
        have e1 : mCmp .eq x y = false := by simp only [mCmp, decide_eq_false_iff_not]; exact q'
        rw [e1] at K0
        exact K0 H locs ls hW hL.tl.tl rfl
    | ne =>
      refine lv_icmp_ne hx hb hd ht (fun q => ?_) (fun q => ?_)
      · have q' := (not_congr (cI_eq hL.tl.hd hL.hd)).mp q
        have e1 : mCmp .ne x y = true := by simp only [mCmp, decide_eq_true_eq]; exact q'
        rw [e1] at K0
        exact K0 H locs ls hW hL.tl.tl rfl
      · have q' := fun (z : x ≠ y) => z ((cI_eq hL.tl.hd hL.hd).mp q)
        have e1 : mCmp .ne x y = false := by simp only [mCmp, decide_eq_false_iff_not]; exact q'
        rw [e1] at K0
        exact K0 H locs ls hW hL.tl.tl rfl
    | lt =>
      refine lv_icmp_lt hx hb hd ht (fun q => ?_) (fun q => ?_)
      · have q' := (cI_lt hL.tl.hd hL.hd).mp q
        have e1 : mCmp .lt x y = true := by simp only [mCmp, decide_eq_true_eq]; exact q'
        rw [e1] at K0
        exact K0 H locs ls hW hL.tl.tl rfl
      · have q' := fun z => q ((cI_lt hL.tl.hd hL.hd).mpr z)
        have e1 : mCmp .lt x y = false := by simp only [mCmp, decide_eq_false_iff_not]; exact q'
        rw [e1] at K0
        exact K0 H locs ls hW hL.tl.tl rfl
    | ge =>
      refine lv_icmp_ge hx hb hd ht (fun q => ?_) (fun q => ?_)
      · have q' := (cI_le hL.hd hL.tl.hd).mp q
        have e1 : mCmp .ge x y = true := by simp only [mCmp, decide_eq_true_eq]; exact q'
        rw [e1] at K0
        exact K0 H locs ls hW hL.tl.tl rfl
      · have q' := fun z => q ((cI_le hL.hd hL.tl.hd).mpr z)
        have e1 : mCmp .ge x y = false := by simp only [mCmp, decide_eq_false_iff_not]; exact q'
        rw [e1] at K0
        exact K0 H locs ls hW hL.tl.tl rfl
    | gt =>
      refine lv_icmp_gt hx hb hd ht (fun q => ?_) (fun q => ?_)
      · have q' := (cI_lt hL.hd hL.tl.hd).mp q
        have e1 : mCmp .gt x y = true := by simp only [mCmp, decide_eq_true_eq]; exact q'
        rw [e1] at K0
        exact K0 H locs ls hW hL.tl.tl rfl
      · have q' := fun z => q ((cI_lt hL.hd hL.tl.hd).mpr z)
        have e1 : mCmp .gt x y = false := by simp only [mCmp, decide_eq_false_iff_not]; exact q'
        rw [e1] at K0
        exact K0 H locs ls hW hL.tl.tl rfl
    | le =>
      refine lv_icmp_le hx hb hd ht (fun q => ?_) (fun q => ?_)
      · have q' := (cI_le hL.tl.hd hL.hd).mp q
        have e1 : mCmp .le x y = true := by simp only [mCmp, decide_eq_true_eq]; exact q'
        rw [e1] at K0
        exact K0 H locs ls hW hL.tl.tl rfl
      · have q' := fun z => q ((cI_le hL.tl.hd hL.hd).mpr z)
        have e1 : mCmp .le x y = false := by simp only [mCmp, decide_eq_false_iff_not]; exact q'
        rw [e1] at K0
        exact K0 H locs ls hW hL.tl.tl rfl
  | ifCond c9 off =>
    obtain ⟨x, S', t, rfl, rfl, ht, rfl⟩ := hs
    cases c9 with
    | eq =>
      refine lv_if_eq hx hb hd ht (fun q => ?_) (fun q => ?_)
      · have q' := (cI_eq hL.hd inI_0).mp q
        have e1 : mCmp .eq x 0 = true := by simp only [mCmp, decide_eq_true_eq]; exact q'
        rw [e1] at K0
        exact K0 H locs ls hW hL.tl rfl
      · have q' := fun z => q ((cI_eq hL.hd inI_0).mpr z)
        have e1 : mCmp .eq x 0 = false := by simp only [mCmp, decide_eq_false_iff_not]; exact q'
        rw [e1] at K0
        exact K0 H locs ls hW hL.tl rfl
    | ne =>
      refine lv_if_ne hx hb hd ht (fun q => ?_) (fun q => ?_)
      · have q' := (not_congr (cI_eq hL.hd inI_0)).mp q
        have e1 : mCmp .ne x 0 = true := by simp only [mCmp, decide_eq_true_eq]; exact q'
        rw [e1] at K0
        exact K0 H locs ls hW hL.tl rfl
      · have q' := fun (z : x ≠ 0) => z ((cI_eq hL.hd inI_0).mp q)
        have e1 : mCmp .ne x 0 = false := by simp only [mCmp, decide_eq_false_iff_not]; exact q'
        rw [e1] at K0
        exact K0 H locs ls hW hL.tl rfl
    | lt =>
      refine lv_if_lt hx hb hd ht (fun q => ?_) (fun q => ?_)
      · have q' := (cI_lt hL.hd inI_0).mp q
        have e1 : mCmp .lt x 0 = true := by simp only [mCmp, decide_eq_true_eq]; exact q'
        rw [e1] at K0
        exact K0 H locs ls hW hL.tl rfl
      · have q' := fun z => q ((cI_lt hL.hd inI_0).mpr z)
        have e1 : mCmp .lt x 0 = false := by simp only [mCmp, decide_eq_false_iff_not]; exact q'
        rw [e1] at K0
        exact K0 H locs ls hW hL.tl rfl
    | ge =>
      refine lv_if_ge hx hb hd ht (fun q => ?_) (fun q => ?_)
      · have q' := (cI_le inI_0 hL.hd).mp q
        have e1 : mCmp .ge x 0 = true := by simp only [mCmp, decide_eq_true_eq]; exact q'
        rw [e1] at K0
        exact K0 H locs ls hW hL.tl rfl
      · have q' := fun z => q ((cI_le inI_0 hL.hd).mpr z)
        have e1 : mCmp .ge x 0 = false := by simp only [mCmp, decide_eq_false_iff_not]; exact q'
        rw [e1] at K0
        exact K0 H locs ls hW hL.tl rfl
    | gt =>
      refine lv_if_gt hx hb hd ht (fun q => ?_) (fun q => ?_)
      · have q' := (cI_lt inI_0 hL.hd).mp q
        have e1 : mCmp .gt x 0 = true := by simp only [mCmp, decide_eq_true_eq]; exact q'
        rw [e1] at K0
        exact K0 H locs ls hW hL.tl rfl
      · have q' := fun z => q ((cI_lt inI_0 hL.hd).mpr z)
        have e1 : mCmp .gt x 0 = false := by simp only [mCmp, decide_eq_false_iff_not]; exact q'
        rw [e1] at K0
        exact K0 H locs ls hW hL.tl rfl
    | le =>
      refine lv_if_le hx hb hd ht (fun q => ?_) (fun q => ?_)
      · have q' := (cI_le hL.hd inI_0).mp q
        have e1 : mCmp .le x 0 = true := by simp only [mCmp, decide_eq_true_eq]; exact q'
        rw [e1] at K0
        exact K0 H locs ls hW hL.tl rfl
      · have q' := fun z => q ((cI_le hL.hd inI_0).mpr z)
        have e1 : mCmp .le x 0 = false := by simp only [mCmp, decide_eq_false_iff_not]; exact q'
        rw [e1] at K0
        exact K0 H locs ls hW hL.tl rfl
  | tableswitch df lo hi offs =>
    obtain ⟨x, S', t, rfl, h1, rfl⟩ := hs
    have hr : inI x := hL.hd
    rcases h1 with ⟨h1, ht⟩ | ⟨h1, h2, off, ho, ht⟩
    · exact lv_tableOut hx hb hd (by rw [cI_t hr]; exact h1) ht (K0 H locs ls hW hL.tl rfl)
    · exact lv_tableIn hx hb hd (by rw [cI_t hr]; omega) (by rw [cI_t hr]; omega) (by rw [cI_t hr]; exact ho) ht (K0 H locs ls hW hL.tl rfl)
  | arraylength =>
    obtain ⟨a, ce, n, S', rfl, rfl, hc, hce, hn, rfl⟩ := hs
    exact m_alen hx hb hK hG hAz hW hc hce hn hd (K0 H locs ls hW (hL.tl.push (show inI ((n.length : Nat) : Int) from ⟨by omega, by omega⟩)) rfl)
  | iaload =>
    obtain ⟨x, a, li, S', rfl, rfl, hc, h0, h1, rfl⟩ := hs
    exact m_iaload hx hb hK hG hAz hW hc h0 h1 hL.hd hd (K0 H locs ls hW (hL.tl.tl.push (getD_ok inI_0 (mhok_get hW.2.2.2.1 hc) _)) rfl)
  | laload =>
    obtain ⟨x, a, li, S', rfl, rfl, hc, h0, h1, rfl⟩ := hs
    exact m_laload hx hb hK hG hAz hW hc h0 h1 hL.hd hd (K0 H locs ls hW (hL.tl.tl.push (getD_ok inJ_0 (mhok_get hW.2.2.2.1 hc) _)) rfl)
  | iastore =>
    obtain ⟨v, x, a, li, S', rfl, rfl, ha, hc, h0, h1, rfl⟩ := hs
    refine m_iastore hx hb hK hW ha hc h0 h1 hL.tl.hd hL.hd hd (fun H' locs' hW' => K0 H' locs' ls hW' ?_ rfl)
    rw [List.length_set]
    exact hL.tl.tl.tl
  | lastore =>
    obtain ⟨v, x, a, li, S', rfl, rfl, ha, hc, h0, h1, rfl⟩ := hs
    refine m_lastore hx hb hK hW ha hc h0 h1 hL.tl.hd hL.hd hd (fun H' locs' hW' => K0 H' locs' ls hW' ?_ rfl)
    rw [List.length_set]
    exact hL.tl.tl.tl
  | getfield idx =>
    obtain ⟨a, ci, fs, k, v, S', rfl, rfl, hf, ha, hc, hv, hvn, rfl⟩ := hs
    exact m_getfield hx hb hts hown hK hW hf ha hc hv hd (K0 H locs ls hW (hL.tl.push ((mhok_get hW.2.2.2.1 hc) v (List.mem_of_getElem? hv))) rfl)
  | putfield idx =>
    obtain ⟨a, ci, fs, k, v, S', rfl, rfl, hf, ha, hc, hkl, hft, hfin, rfl⟩ := hs
    refine m_putfield hx hb hts hown hini hK hW hf ha hc hkl hft hfin hL.hd hd (fun H' locs' hW' => K0 H' locs' ls hW' ?_ rfl)
    rw [List.length_set]
    exact hL.tl.tl
  | getstatic idx =>
    obtain ⟨rfl, hw, rfl⟩ := hs
    exact m_getstatic hx hb hts hown hG hAz hW hw hd (K0 H locs ls hW (hL.push (show 0 < h.length from by have := hW.2.2.2.2.2.two; omega)) rfl)
  | new idx =>
    obtain ⟨ci, rfl, hf, hb1, hb2, rfl⟩ := hs
    have e9 : ∀ q, (S.map (mtau (ad ++ [q]))) = S.map (mtau ad) := fun q => mtaus_app (fun v hv => by rw [hW.2.2.2.2.1]; exact hL.1 v hv)
    refine m_new hx hb hts hown hK hA hW hf (by omega) (by omega) hd (fun H' q hW' => ?_)
    have z := K H' locs (cells + 1) (slots + mNf ci) [q] ls hW' ((hL.ext hW.2.2.2.2.1.symm (by simp)).push (by simp [mok])) ⟨by show cells + 1 + (b.1 - 1) = cb; omega, by show slots + mNf ci + (b.2 - mNf ci) = sb; omega⟩
    rw [← e9 q]
    exact z
  | newarray t =>
    obtain ⟨x, S', rfl, rfl, h0, h1, hb1, hb2, ho⟩ := hs
    have e9 : ∀ q, (S'.map (mtau (ad ++ [q]))) = S'.map (mtau ad) := fun q => mtaus_app (fun v hv => by rw [hW.2.2.2.2.1]; exact hL.tl.1 v hv)
    rcases ho with ⟨rfl, rfl⟩ | ⟨rfl, rfl⟩
    · refine m_newi hx hb hts hK hA hW h0 h1 (by omega) (by omega) hd (fun H' q hW' => ?_)
      have z := K H' locs (cells + 1) (slots + x.toNat) [q] ls hW' ((hL.tl.ext hW.2.2.2.2.1.symm (by simp)).push (by simp [mok])) ⟨by show cells + 1 + (b.1 - 1) = cb; omega, by show slots + x.toNat + (b.2 - x.toNat) = sb; omega⟩
      rw [← e9 q]
      exact z
    · refine m_newl hx hb hts hK hA hW h0 h1 (by omega) (by omega) hd (fun H' q hW' => ?_)
      have z := K H' locs (cells + 1) (slots + x.toNat) [q] ls hW' ((hL.tl.ext hW.2.2.2.2.1.symm (by simp)).push (by simp [mok])) ⟨by show cells + 1 + (b.1 - 1) = cb; omega, by show slots + x.toNat + (b.2 - x.toNat) = sb; omega⟩
      rw [← e9 q]
      exact z
  | invokespecial idx =>
    obtain ⟨a, S', rfl, hd1, rfl, hr8, hw, rfl⟩ := hs
    exact m_objInit hx hb hml hts hown hL.2.2.1.1 ⟨by omega, by omega⟩ hr8 hw hd (K0 H locs ls hW hL.tl rfl)
  | invokestatic idx =>
    obtain ⟨n, dp, sp, a1, a0, l0, l1, S', rfl, hd1, rfl, hr8, hw, h1, h0, hc0, hc1, hn, hsp, hdp, g0, g1, rfl⟩ := hs
    refine m_copy hx hb hml hts hown hL.2.2.1.1 ⟨by omega, by omega⟩ hK hW hr8 hw h1 h0 hc0 hc1 hn hsp hdp g0 g1 hL.hd hL.tl.tl.tl.hd hL.tl.hd hd (fun H' locs' hW' => K0 H' locs' ls hW' ?_ rfl)
    rw [List.length_set]
    exact hL.tl.tl.tl.tl.tl
  | _ => exact (show False from hs).elim
end MSS
end
section
/-! calls, and the whole small machine -/
section MCA
variable {p : Program} {l : Launch} {e : Env} {R : Room} {s : State} {m : MethodId} {args : Array Value} {below : List Frame} {meth : Method} {c : Code} {H : Heap} {locs : List Loc} {cells slots cb sb : Nat} {Qr : State → Prop}
variable {cc : ByteArray} {pc : Nat} {ls : Array Slot} {dC : Nat → ClassId} {dI : Nat → Nat → Nat} {cI cJ : ClassId} {z0 t0 b0 : Nat} {xs : List Int} {A : Nat → Prop} {ad : List Nat} {h : List mC} {L S : List mV} {nL : Nat}
/-- what does not change in a method's run -/
def mFix (dC : Nat → ClassId) (dI : Nat → Nat → Nat) (cI cJ : ClassId) (z0 t0 b0 : Nat) (xs : List Int) (p : Program) (R : Room) (s : State) (m : MethodId) (args : Array Value) (meth : Method) (c : Code) (A : Nat → Prop) (cb sb d : Nat) (M : mM) : Prop :=
  p.tables.exec = Jvm.exec ∧ c.code = mCode M ∧ c.maxLocals = mMax M ∧ meth.sig.returnType = mRet M ∧ s.vm.findClass (mN (mOwn M)) = some m.cls ∧ (∀ w ∈ gT, w.before args s = true) ∧ meth.locks = false ∧ ((mY M).name = "<init>" → meth.name = "<init>") ∧
  va_K (dC, dI) vwCl [(cI, .int), (cJ, .long)] s ∧ mGl z0 t0 b0 xs s s.heap ∧ mNs s ∧ (∀ q, s.heap.size ≤ q → A q) ∧ (∀ q, A q → z0 ≤ q) ∧ (cb ≤ R.cells ∧ sb ≤ R.slots) ∧ (d ≤ R.frames ∧ 64 * d ≤ R.locals)
/-- the claim of a state of the small machine -/
def mSnd (l : Launch) (dC : Nat → ClassId) (dI : Nat → Nat → Nat) (cI cJ : ClassId) (z0 t0 b0 : Nat) (xs : List Int) : mP := fun d M pc L S h b Q =>
  ∀ (p : Program) (e : Env) (R : Room) (s : State) (m : MethodId) (args : Array Value) (below : List Frame) (meth : Method) (c : Code) (H : Heap) (locs : List Loc) (cells slots cb sb : Nat) (Qr : State → Prop) (ls : Array Slot) (ad : List Nat) (A : Nat → Prop),
    mFix dC dI cI cJ z0 t0 b0 xs p R s m args meth c A cb sb d M → mWor dC dI cI cJ t0 b0 xs A s.heap H locs ad h → mLS ad (mMax M) h.length L S ls → (cells + b.1 = cb ∧ slots + b.2 = sb) →
    (∀ (pc' : Nat) (i : Instr) (len : Nat) (r : Option mV) (S' : List mV) (h' : List mC) (ex : List Nat) (H' : Heap) (locs' : List Loc) (cells' slots' : Nat) (ls' : Array Slot), decode (mCode M) pc' = .ok (i, len) → mRR (mRet M) i len S' r → Q r h' → mWor dC dI cI cJ t0 b0 xs A s.heap H' locs' (ad ++ ex) h' → (∀ v ∈ S', mok h'.length v) → cells' ≤ cb → slots' ≤ sb →
      W p l e R s m args below meth c H' locs' cells' slots' Qr (F0 m pc' ls' (S'.map (mtau (ad ++ ex))))) →
    W p l e R s m args below meth c H locs cells slots Qr (F0 m pc ls (S.map (mtau ad)))
/-- a callee's words -/
def mWs (M : mM) : List Cond := Cond.code (mY M) (mCode M) (mMax M) (mRet M) :: gT
def mRm (d : Nat) (M : mM) : Room := { frames := d, cells := mCel M, slots := mSlo M, locals := 64 * d }
/-- a callee's start -/
def mPc (dC : Nat → ClassId) (dI : Nat → Nat → Nat) (cI cJ : ClassId) (z0 t0 b0 : Nat) (xs : List Int) (ad : List Nat) (h : List mC) (sz : Nat) (As : List mV) : Array Value → State → Prop :=
  va_Pc (As.map (mtau ad)) (fun U => U.heap.size = sz ∧ mGl z0 t0 b0 xs U U.heap ∧ mNs U ∧ va_P (dC, dI) vwCl (mwd cI cJ ad h) U.heap ∧ va_K (dC, dI) vwCl [(cI, .int), (cJ, .long)] U ∧ va_D (fun q => z0 ≤ q) (mwd cI cJ ad h))
/-- a callee's end -/
def mQc (dC : Nat → ClassId) (dI : Nat → Nat → Nat) (cI cJ : ClassId) (t0 b0 : Nat) (xs : List Int) (ad : List Nat) (h : List mC) (sz : Nat) (Q : Option mV → List mC → Prop) : Array Value → State → Outcome → State → Prop := fun _ st o t =>
  (∃ (r : Option mV) (h' : List mC) (ex : List Nat), o = .returned (r.map (mtau (ad ++ ex))) ∧ Q r h' ∧ mhok h' ∧ (ad ++ ex).length = h'.length ∧ mRo t0 b0 xs (ad ++ ex) h' ∧ (∀ v ∈ r, mok h'.length v) ∧ va_P (dC, dI) vwCl (mwd cI cJ (ad ++ ex) h') t.heap ∧ va_D (va_A (mwd cI cJ ad h) sz) (mwd cI cJ (ad ++ ex) h')) ∧ va_F (va_A (mwd cI cJ ad h) sz) st t
theorem mNs.warm {s U : State} (hW : s.WarmedH U.vm) (h : mNs s) : mNs U := fun own idx y hw => va_Nw.warmM hW (h own idx y hw)
theorem mPc_blind {sz : Nat} {As : List mV} : FrameBlind (mPc dC dI cI cJ z0 t0 b0 xs ad h sz As) := by
  rintro a U g mk ⟨h1, h2, h3, h4, h5, h6, h7⟩
  exact ⟨h1, h2, h3.moved (u := U) (U := U.calling g mk a) (Vm.Alike.refl U.vm), fun own idx y hw => va_Nw.same (U := U.calling g mk a) rfl rfl (h4 own idx y hw), h5, va_K.moved (u := U) (U := U.calling g mk a) (Vm.Alike.refl U.vm) h6, h7⟩
/-- the state in which a callee begins -/
theorem mPc_at {As : List mV} (hK : va_K (dC, dI) vwCl [(cI, .int), (cJ, .long)] s) (hG : mGl z0 t0 b0 xs s s.heap) (hN : mNs s) (hAz : ∀ q, A q → z0 ≤ q) (hW : mWor dC dI cI cJ t0 b0 xs A s.heap H locs ad h) (U : State) (hU : U.heap = H) (hWm : s.WarmedH U.vm) :
    mPc dC dI cI cJ z0 t0 b0 xs ad h H.size As (As.map (mtau ad)).toArray U := by
  obtain ⟨hP, hD, hS, hok, hlen, hro⟩ := hW
  refine ⟨rfl, by rw [hU], ?_, hN.warm hWm, by rw [hU]; exact hP, va_K.moved hWm.alike hK, hD.weaken (fun _ _ _ q => hAz _ q)⟩
  rw [hU]
  exact (hG.kept hS.1 (fun a ha hz => hS.2.1 a ha (fun q => hz (hAz a q)))).moved hWm.alike
set_option maxHeartbeats 4000000 in
/-- a contract out of the small machine's run of a method -/
theorem m_met {d n : Nat} {M : mM} {As : List mV} {Q : Option mV → List mC → Prop} {sz : Nat} (hP : mSnd l dC dI cI cJ z0 t0 b0 xs d M 0 (mArgs (mMax M) As) [] h (mCel M, mSlo M) Q) (hM : mMok M n)
    (hok : mhok h) (hlen : ad.length = h.length) (hro : mRo t0 b0 xs ad h) (hAs : ∀ v ∈ As, mok h.length v) (hma : (mArgs (mMax M) As).length = mMax M) :
    Met l (mY M) (mWs M) (mRm d M) (mPc dC dI cI cJ z0 t0 b0 xs ad h sz As) (mQc dC dI cI cJ t0 b0 xs ad h sz Q) (mCel M) (mSlo M) (va_A (mwd cI cJ ad h) sz) := by
  obtain ⟨hm1, hm2, hm3, hm4, hm5, hm6⟩ := hM
  refine Met.ofW (cc := mCode M) (maxL := mMax M) (ret := mRet M) hm4 rfl ?_
  rintro p e s m args below meth c s₁ B hml ⟨rfl, hsz, hG, hN, hPw, hK, hDz⟩
  have hts : ∀ w ∈ gT, w.before (As.map (mtau ad)).toArray s = true := fun w hw => atoms_spec (ws := mWs M) B.pre w (List.mem_cons_of_mem _ hw)
  have hown : s.vm.findClass (mN (mOwn M)) = some m.cls := by rw [hm5]; exact findClass_of_methodNamed B.named
  have hlocks := B.notSynchronized
  have hin : meth.name = (mY M).name := (name_of_methodNamed B.named B.method).1
  subst hsz
  rw [lg_entry_eq]
  have hA : ∀ q, s.heap.size ≤ q → va_A (mwd cI cJ ad h) s.heap.size q := fun q hq => Or.inr hq
  have hAz : ∀ q, va_A (mwd cI cJ ad h) s.heap.size q → z0 ≤ q := by
    rintro q (⟨k, e, hk⟩ | hq)
    · exact hDz.2 k _ hk
    · exact Nat.le_trans hG.2.2.2.2.2 hq
  refine hP p e (headSpec (mWs M) (mRm d M)).room s m _ below meth c s.heap [] 0 0 (mCel M) (mSlo M) _ _ ad (va_A (mwd cI cJ ad h) s.heap.size) ⟨B.exec, B.bytes, hml, B.returns, hown, hts, hlocks, fun q => hin.trans q, hK, hG, hN, hA, hAz, ⟨Nat.le_refl _, Nat.le_refl _⟩, ⟨Nat.le_refl _, Nat.le_refl _⟩⟩
    ⟨hPw, hDz.self, va_S.rf, hok, hlen, hro⟩ ⟨fun v hv => (by cases hv), mArgs_ok hAs, mArgs_has hma, hma⟩ ⟨Nat.zero_add _, Nat.zero_add _⟩ ?_
  intro pc' i len r S' h' ex H' locs' cells' slots' ls' hd hr hQ hW' hS' hc' hs'
  refine W.widen hc' hs' ?_
  obtain ⟨hP', hD', hSS, hok', hlen', hro'⟩ := hW'
  have post : ∀ (o : Outcome) (t : State), o = .returned (r.map (mtau (ad ++ ex))) → (∀ v ∈ r, mok h'.length v) → t.heap = H' → mQc dC dI cI cJ t0 b0 xs ad h s.heap.size Q (As.map (mtau ad)).toArray s o t := by
    intro o t ho hro2 ht
    exact ⟨⟨r, h', ex, ho, hQ, hok', hlen', hro', hro2, by rw [ht]; exact hP', hD'⟩, hSS.F ht⟩
  cases i <;> simp only [mRR] at hr
  · obtain ⟨x, rfl, rfl, hret, rfl⟩ := hr
    have hx1 : ∀ v ∈ (some (mI x) : Option mV), mok h'.length v := by
      intro v hv
      cases hv
      exact hS' _ List.mem_cons_self
    rcases hret with hret | ⟨hret, h01⟩
    · exact W.iret (v := Int32.ofInt x) B.exec B.bytes (B.returns.trans hret) (fun t ht _ => post _ t rfl hx1 ht) hSS.2.2 hd
    · refine W.zret (v := Int32.ofInt x) (ty := .boolean) B.exec B.bytes (B.returns.trans hret) ?_ (fun t ht _ => post _ t rfl hx1 ht) hSS.2.2 hd
      rcases h01 with rfl | rfl <;> rfl
  · obtain ⟨x, rfl, rfl, hret, rfl⟩ := hr
    have hx1 : ∀ v ∈ (some (mL x) : Option mV), mok h'.length v := by
      intro v hv
      cases hv
      exact hS' _ List.mem_cons_self
    exact W.lret (v := Int64.ofInt x) B.exec B.bytes (B.returns.trans hret) (fun t ht _ => post _ t rfl hx1 ht) hSS.2.2 hd
  · obtain ⟨rfl, rfl, hret, rfl⟩ := hr
    exact W.vret B.exec B.bytes (B.returns.trans hret) (fun t ht _ => post _ t rfl (fun v hv => by cases hv) ht) hSS.2.2 hd
theorem gIn {ws : List Cond} (h : ∀ w ∈ ws, w ∈ gT) : GoodIn gT ws := fun w hw => ⟨h w hw, gT_good w (h w hw)⟩
set_option maxHeartbeats 4000000 in
/-- a call -/
theorem m_run {d d' idx kind n : Nat} {M M' : mM} {As rest : List mV} {Q' : Option mV → List mC → Prop} {i : Instr} (hfix : mFix dC dI cI cJ z0 t0 b0 xs p R s m args meth c A cb sb d M) (hdd : d = d' + 1)
    (hW : mWor dC dI cI cJ t0 b0 xs A s.heap H locs ad h) (hL : mLS ad (mMax M) h.length L (As.reverse ++ rest) ls) (hd : decode (mCode M) pc = .ok (i, 3)) (hi : mInv kind i idx) (hT : mTok (mOwn M) idx kind n M')
    (hn : As.length = (if kind = 0 ∨ kind = 2 then n + 1 else n)) (hr8 : mCats rest ≤ 8) (hma : (mArgs (mMax M') As).length = mMax M') (hrec : kind = 0 ∨ kind = 2 → ∃ a fs, As[0]? = some (mR a) ∧ 2 ≤ a ∧ h[a]? = some (mO (mOwn M') fs)) (hbc : cells + mCel M' ≤ cb ∧ slots + mSlo M' ≤ sb)
    (hP : mSnd l dC dI cI cJ z0 t0 b0 xs d' M' 0 (mArgs (mMax M') As) [] h (mCel M', mSlo M') Q') :
    va_Run p l e R s m args below meth c H locs cells slots (mCel M') (mSlo M') (F0 m pc ls ((As.reverse ++ rest).map (mtau ad))) (rest.map (mtau ad)) (mQc dC dI cI cJ t0 b0 xs ad h H.size Q' (As.map (mtau ad)).toArray) (va_A (mwd cI cJ ad h) H.size) := by
  obtain ⟨hx, hb, hml, hret, hown, hts, hlocks, hini, hK, hG, hN, hA, hAz, hcb, hR⟩ := hfix
  obtain ⟨hMk, hkind⟩ := hT
  have hMk' := hMk
  obtain ⟨hm1, hm2, ⟨hm3a, hm3b, hm3c⟩, hm4, hm5, hm6⟩ := hMk'
  have hAs : ∀ v ∈ As, mok h.length v := fun v hv => hL.1 v (List.mem_append_left _ (List.mem_reverse.mpr hv))
  have hmet := m_met (sz := H.size) hP hMk hW.2.2.2.1 hW.2.2.2.2.1 hW.2.2.2.2.2 hAs hma
  have hwsg : ∀ w ∈ mWs M', w ∈ gT := fun w hw => by
    rcases List.mem_cons.mp hw with rfl | hw
    · exact hm1
    · exact hw
  have hroom : (mRm d' M').frames + 1 ≤ R.frames ∧ 8 + (mMax M' + 11) + (mRm d' M').locals ≤ R.locals := ⟨by show d' + 1 ≤ _; omega, by show 8 + (mMax M' + 11) + 64 * d' ≤ _; omega⟩
  have hPs : ∀ Bs : List mV, Bs = As → ∀ U : State, U.heap = H → s.WarmedH U.vm → mPc dC dI cI cJ z0 t0 b0 xs ad h H.size As (Bs.map (mtau ad)).toArray U := by
    rintro _ rfl U hU hWm
    exact mPc_at hK hG hN hAz hW U hU hWm
  have hcat : 2 * (F0 m pc ls ((As.reverse ++ rest).map (mtau ad))).monitorRoom + ((rest.map (mtau ad)).map fun v => v.category).sum ≤ 8 := by
    rw [mcats_tau]
    show 2 * 0 + _ ≤ 8
    omega
  have hfit : cells + mCel M' ≤ R.cells ∧ slots + mSlo M' ≤ R.slots := ⟨by omega, by omega⟩
  have hS : CallFix p m c (mCode M) (mMax M) s args gT (mN (mOwn M)) := ⟨hx, hb, hml, hown, hts⟩
  have hstk : (F0 m pc ls ((As.reverse ++ rest).map (mtau ad))).stack = (As.map (mtau ad)).reverse ++ rest.map (mtau ad) := by
    show (As.reverse ++ rest).map (mtau ad) = _
    rw [List.map_append, List.map_reverse]
  have hls : ls.size = mMax M := hL.2.2.1.1
  match kind, hi, hn, hrec, hkind with
  | 0, hi, hn, hrec, hkind =>
    obtain ⟨k1, k2, k3, k4⟩ := hkind
    obtain rfl : i = .invokevirtual idx := hi
    obtain ⟨a, fs, ha0, ha2, hca⟩ := hrec (Or.inl rfl)
    cases As with
    | nil => simp at ha0
    | cons a0 As' =>
      have : a0 = mR a := by simpa using ha0
      subst this
      have hg := mwd_get (cI := cI) (cJ := cJ) (ad := ad) hW.2.2.2.2.1 ha2 hca
      obtain ⟨r, hr⟩ : ∃ r, vwCl[mOwn M']? = some r := ⟨_, List.getElem?_eq_getElem (show mOwn M' < vwCl.length from k4)⟩
      have hnm := (mcls hr).2.2.2.1
      have hcl : (mY M').cls = r.1 := hm5.symm.trans hnm
      refine va_runV (C := (mY M').cls) (b := ad.getD a 0) (As := As'.map (mtau ad)) hS hmet (cwV n hts (gIn ?_) rfl rfl rfl ⟨rfl, hm3a, hm3b, hm3c⟩ hroom) ⟨mPc_blind, ?_, fun U hU hWm => hPs _ rfl U hU hWm⟩ rfl (by rw [List.length_map]; simp at hn; exact hn) hls ?_ hcat hd hfit
      · intro w hw
        rcases List.mem_append.mp hw with hw | hw
        · rcases List.mem_cons.mp hw with rfl | hw
          · exact k1
          · rcases List.mem_cons.mp hw with rfl | hw
            · exact k2
            · rcases List.mem_cons.mp hw with rfl | hw
              · exact k3
              · rw [List.mem_singleton.mp hw]
                exact hm2
        · exact hwsg w hw
      · rw [hcl]
        exact va_recv hK hW.1 hr hg
      · rw [hstk, List.map_cons, List.reverse_cons, List.append_assoc]
        rfl
  | 1, hi, hn, hrec, hkind =>
    obtain ⟨k1, k2⟩ := hkind
    obtain rfl : i = .invokestatic idx := hi
    exact va_runS (As := As.map (mtau ad)) hS hmet ⟨callB_of n hts (gIn hwsg) rfl rfl rfl (hts _ hm2) (hts _ k1) ⟨hm3a, hm3b, hm3c⟩ hroom, hts _ k2⟩ ⟨mPc_blind, fun U hU hWm => hPs _ rfl U hU hWm⟩ rfl (by rw [List.length_map]; simpa using hn) hls hstk hcat hd hfit
  | 2, hi, hn, hrec, hkind =>
    obtain ⟨k1, k2, k3, k4⟩ := hkind
    obtain rfl : i = .invokespecial idx := hi
    obtain ⟨a, fs, ha0, ha2, hca⟩ := hrec (Or.inr rfl)
    cases As with
    | nil => simp at ha0
    | cons a0 As' =>
      have : a0 = mR a := by simpa using ha0
      subst this
      refine va_runI (b := ad.getD a 0) (As := As'.map (mtau ad)) hS hmet (cwI n hts (gIn hwsg) (by rw [← k4]; rfl) rfl rfl (hts _ hm2) (hts _ k1) (hts _ k2) k3 ⟨hm3a, hm3b, hm3c⟩ hroom) ⟨mPc_blind, fun U hU hWm => hPs _ rfl U hU hWm⟩ rfl (by rw [List.length_map]; simp at hn; exact hn) hls ?_ hcat hd hfit
      rw [hstk, List.map_cons, List.reverse_cons, List.append_assoc]
      rfl
  | k + 3, hi, hn, hrec, hkind =>
    obtain ⟨k1, k2⟩ := hkind
    obtain rfl : i = .invokestatic idx := hi
    exact va_runSN (As := As.map (mtau ad)) hS hmet ⟨va_cnB n hts (gIn hwsg) rfl rfl rfl (hN _ _ _ k1) (hts _ hm2) ⟨hm3a, hm3b, hm3c⟩ hroom, hts _ k2, trivial⟩ ⟨mPc_blind, fun U hU hWm => hPs _ rfl U hU hWm⟩ rfl (by rw [List.length_map]; simpa using hn) hls hstk hcat hd hfit
set_option maxHeartbeats 4000000 in
/-- THE SMALL MACHINE IS SOUND -/
theorem m_sound : mLe Wp (mSnd l dC dI cI cJ z0 t0 b0 xs) := by
  refine Wp_ind ?_
  rintro d M pc L S h b Q ⟨i, len, hd, hc⟩ p e R s m args below meth c H locs cells slots cb sb Qr ls ad A hfix hW hL hbud hret
  have hfix' := hfix
  obtain ⟨hx, hb, hml, hrt, hown, hts, hlocks, hini, hK, hG, hN, hA, hAz, hcb, hR⟩ := hfix'
  rcases hc with ⟨o, h1, h2⟩ | ⟨r, h1, h2⟩ | ⟨d', idx, kind, n, M', As, rest, Q', e1, e2, e3, e4, e5, e6, e7, e8, e9, e10, e11, e12, e13⟩
  · refine m_step hx hb hml hts hown hini hK hG hA hAz hcb hR hW hL hbud hd h1 ?_
    intro H' locs' cells' slots' ex ls' hW' hL' hbud'
    refine h2 p e R s m args below meth c H' locs' cells' slots' cb sb Qr ls' (ad ++ ex) A hfix hW' hL' hbud' ?_
    intro pc' i' len' r S' h' ex' H2 locs2 cells2 slots2 ls2 g1 g2 g3 g4 g5 g6 g7
    have := hret pc' i' len' r S' h' (ex ++ ex') H2 locs2 cells2 slots2 ls2 g1 g2 g3 (by rw [← List.append_assoc]; exact g4) g5 g6 g7
    rw [← List.append_assoc] at this
    exact this
  · have := hret pc i len r S h [] H locs cells slots ls hd h1 h2 (by rw [List.append_nil]; exact hW) hL.1 (by omega) (by omega)
    rw [List.append_nil] at this
    exact this
  · subst e5
    subst e2
    have hrun := m_run (e := e) (below := below) (cells := cells) (slots := slots) (locs := locs) hfix e1 hW hL hd e3 e4 e6 e7 e8 e9 ⟨by omega, by omega⟩ e12
    intro T hT X
    obtain ⟨v, st₀, t, T', Lc, g0, X', hLc, g1, g2, ⟨⟨r, h', ex, hv, hq, hok', hlen', hro', hr', hP', hD'⟩, hz, hk⟩, st⟩ := hrun T hT X
    have hve : v = r.map (mtau (ad ++ ex)) := by injection hv
    rw [g0] at hz hk
    have hfree : ∀ q, va_A (mwd cI cJ ad h) H.size q → A q := by
      rintro q (⟨k, e', hk'⟩ | hq')
      · exact hW.2.1.2 k _ hk'
      · exact hA q (Nat.le_trans hW.2.2.1.1 hq')
    have hhl : h.length ≤ h'.length := by
      rw [← hlen', List.length_append, hW.2.2.2.2.1]
      omega
    have hW2 : mWor dC dI cI cJ t0 b0 xs A s.heap T'.heap (locs ++ Lc) (ad ++ ex) h' := by
      refine ⟨by rw [g1]; exact hP', hD'.weaken (fun k q _ hq' => hfree q.1 hq'), ⟨Nat.le_trans hW.2.2.1.1 (by rw [g1]; exact hz), fun q q1 q2 => ?_, fun q hq' => ?_⟩, hok', hlen', hro'⟩
      · rw [g1, hk q (Nat.lt_of_lt_of_le q1 hW.2.2.1.1) (fun z => q2 (hfree q z))]
        exact hW.2.2.1.2.1 q q1 q2
      · rcases List.mem_append.mp hq' with q | q
        · exact hW.2.2.1.2.2 _ q
        · exact hfree _ (hLc _ q)
    have hrest : ∀ v ∈ rest, mok h.length v := fun v hv => hL.1 v (List.mem_append_right _ hv)
    have hL2 : mLS (ad ++ ex) (mMax M) h'.length L (r.toList ++ rest) ls := by
      have q := hL.ext (ex := ex) hW.2.2.2.2.1.symm hhl
      refine q.st (fun w hw => ?_)
      rcases List.mem_append.mp hw with hw | hw
      · exact hr' w (by simpa using hw)
      · exact mok_le (hrest w hw) hhl
    have hcont := e13 r h' hq p e R s m args below meth c T'.heap (locs ++ Lc) (cells + mCel M') (slots + mSlo M') cb sb Qr ls (ad ++ ex) A hfix hW2 hL2 ⟨by show cells + mCel M' + (b.1 - mCel M') = cb; omega, by show slots + mSlo M' + (b.2 - mSlo M') = sb; omega⟩ ?_
    · obtain ⟨t2, a1, b1⟩ := hcont T' rfl X'
      refine ⟨t2, st t2 ?_, b1⟩
      have ee : (F0 m (pc + 3) ls ((r.toList ++ rest).map (mtau (ad ++ ex)))) = { (F0 m pc ls ((As.reverse ++ rest).map (mtau ad))) with pc := (F0 m pc ls ((As.reverse ++ rest).map (mtau ad))).pc + 3, stack := v.toList ++ rest.map (mtau ad) } := by
        rw [hve, List.map_append, mtaus_app (S := rest) (fun v hv => by rw [hW.2.2.2.2.1]; exact hrest v hv)]
        cases r <;> rfl
      rw [← ee]
      exact a1
    · intro pc' i' len' r' S' h2' ex' H2 locs2 cells2 slots2 ls2 g1 g2 g3 g4 g5 g6 g7
      have := hret pc' i' len' r' S' h2' (ex ++ ex') H2 locs2 cells2 slots2 ls2 g1 g2 g3 (by rw [← List.append_assoc]; exact g4) g5 g6 g7
      rw [← List.append_assoc] at this
      exact this
end MCA
end
section
-- ===== end of PART A; then your names; then what follows =====
/-! THE CLAIM OUT OF ONE WALK OF THE LAW'S BODY. Your part is whole_start (and what it stands on); all else here is the same for every law, but numbers. -/
def R_law : String := "CupDrawsLaw"
def lw_P (b : Addr) (xs : List Int32) (args : Array Value) (s : State) : Prop := args = #[.ref b] ∧ s.IntsAt b xs ∧ xs.length ≤ 2560 ∧ (Jvm.Cond.and given_1 narrow_1).before args s = true
def lw_Q (_ : Array Value) (s : State) (o : Outcome) (t : State) : Prop := o = .returned (some (.int 1)) ∧ Framed s o t [] 600000 7302250
def lw_Z (below : List Frame) (a : Array Value) (s : State) : State → Prop := fun t => ∃ o, t.status = .running ∧ Ended t below o ∧ lw_Q a s o t
/-- the law's own end, with 1 on the stack, nothing written that was there before, its room as the claim has it -/
theorem lw_ret {p : Program} {l : Launch} {e : Env} {s : State} {m : MethodId} {below : List Frame} {meth : Method} {c : Code} {b : Nat} (hx : p.tables.exec = Jvm.exec) (hb : c.code = code) (hr : meth.sig.returnType = ret) (hlocks : meth.locks = false) {pc : Nat} {H : Heap} {ls : Array Slot} (hdg : decode code pc = .ok (.ireturn, 1)) : W p l e room_1 s m #[Value.ref b] below meth c H [] 600000 7302250 (lw_Z below #[Value.ref b] s) (F0 m pc ls [.int 1]) := by
  intro T hT X
  obtain ⟨fs, hret, hrun, hended, hW, hframe⟩ := X.leave (v := some (.int 1)) (hlocks := hlocks) (fun h => by rw [hr] at h; cases h)
  have hmeth' : T.vm.method? m = some meth := X.method'
  refine ⟨T.setFrames fs, ?_, .returned (some (.int 1)), hrun, hended, rfl, ⟨_, rfl⟩, hW, hframe⟩
  jvm_step X.here [X.here.top, hx, hb, hdg, hmeth', hr, ret, narrow_b1]
  (try refine ⟨rfl, ?_⟩); (try refine ⟨rfl, ?_⟩)
  first | (intro acts; rw [hret _ acts rfl rfl rfl]) | rw [hret _ _ rfl rfl rfl]
  exact Steps.refl _
/-- what holds at the law's entry: the machine, the code, the tables' words (any of lw_tbl by 'hts w (by decide +kernel)'), the script of L ints xs at the cell b, what the Statement gives of the start (any of its parts by flat_of_before) -/
def lw_At (p : Program) (s : State) (m : MethodId) (meth : Method) (c : Code) (b L : Nat) (xs : Nat → Int32) : Prop :=
  p.tables.exec = Jvm.exec ∧ c.code = code ∧ meth.sig.returnType = ret ∧ c.maxLocals = 4 ∧ s.vm.findClass R_law = some m.cls ∧ (∀ w ∈ lw_tbl, w.before #[Value.ref b] s = true) ∧ va_X b L xs s s.heap ∧ b < s.heap.size ∧ meth.locks = false ∧ (Jvm.Cond.and given_1 narrow_1).before #[Value.ref b] s = true
end
section
/-! the claim's start, out of the small machine's run of the law -/
theorem arr_known {s : State} {args : Array Value} {ty : FieldType} (hty : ∀ n, ty ≠ .object n) (h : (Cond.arrayClass ty).before args s = true) : ∃ cA, ArrOfT s cA ty ∧ va_RA s cA ty := by
  obtain ⟨cA, kA, comp, h1, h2, h3⟩ := Cond.arrayClass_spec h
  refine ⟨cA, fun n z => ⟨fun k h => (by cases h), kA, h2, comp, h3⟩, ?_⟩
  cases ty with
  | object n => exact absurd rfl (hty n)
  | _ => exact h1
set_option maxHeartbeats 4000000 in
set_option maxRecDepth 100000 in
theorem start_of (hlaw : ∀ xl : List Int, xl.length ≤ 2560 → (∀ x ∈ xl, inI x) → Wp 40 mL_law 0 (mArgs 4 [mR 1]) [] [mJ mPT, mA xl] (30, 8763) (fun r _ => r = some (mI 1)))
    {p : Program} {e : Env} {s : State} {m : MethodId} {below : List Frame} {meth : Method} {c : Code} (l : Launch) {b L : Nat} {xs : Nat → Int32} (hL : L ≤ 2560) (C0 : lw_At p s m meth c b L xs) : W p l e room_1 s m #[Value.ref b] below meth c s.heap [] 0 0 (lw_Z below #[Value.ref b] s) (entryFrame m ([Value.ref b] : List Value).toArray 4) := by
  obtain ⟨hx, hb, hr, hml, hown, htsl, hX, hbl, hlocks, hgv⟩ := id C0
  have hts : ∀ w ∈ gT, w.before #[Value.ref b] s = true := fun w hw => htsl w (List.mem_filter.mp hw).1
  obtain ⟨c0, iS0, hKn0⟩ := u_known (C := RX0) (T := TX0) (N := 4) (n := 4) hts inX0 (by obtain ⟨r, h1, h2, h3, h4⟩ := n2; cases h1; exact hts _ h3)
  obtain ⟨c1, iS1, hKn1⟩ := u_known (C := RX1) (T := TX1) (N := 4) (n := 4) hts inX1 (by obtain ⟨r, h1, h2, h3, h4⟩ := n3; cases h1; exact hts _ h3)
  obtain ⟨c2, iS2, hKn2⟩ := u_known (C := RX2) (T := TX2) (N := 3) (n := 3) hts inX2 (by obtain ⟨r, h1, h2, h3, h4⟩ := n1; cases h1; exact hts _ h3)
  obtain ⟨c3, iS3, hKn3⟩ := u_known (C := RX3) (T := TX3) (N := 6) (n := 6) hts inX3 (by obtain ⟨r, h1, h2, h3, h4⟩ := n0; cases h1; exact hts _ h3)
  obtain ⟨c4, iS4, hKn4⟩ := u_known (C := RX4) (T := TX4) (N := 19) (n := 19) hts inX4 (by obtain ⟨r, h1, h2, h3, h4⟩ := n4; cases h1; exact hts _ h3)
  obtain ⟨cI, hcI⟩ := arr_known (fun n h => (by cases h)) (hts _ aI)
  obtain ⟨cJ, hcJ⟩ := arr_known (fun n h => (by cases h)) (hts _ aJ)
  obtain ⟨dC, dI, hKc⟩ : ∃ (dC : Nat → ClassId) (dI : Nat → Nat → Nat), ∀ (k : Nat) (q : vw_C), vwCl[k]? = some q → u_Kn s q.1 q.2.1 q.2.2 (dC k) (dI k) := by
    refine ⟨fun k => if k = 0 then c0 else if k = 1 then c1 else if k = 2 then c2 else if k = 3 then c3 else c4, fun k => if k = 0 then iS0 else if k = 1 then iS1 else if k = 2 then iS2 else if k = 3 then iS3 else iS4, ?_⟩
    intro k q hq
    match k, hq with
    | 0, hq => cases hq; exact hKn0
    | 1, hq => cases hq; exact hKn1
    | 2, hq => cases hq; exact hKn2
    | 3, hq => cases hq; exact hKn3
    | 4, hq => cases hq; exact hKn4
    | k + 5, hq => simp [vwCl] at hq
  have hK : va_K (dC, dI) vwCl [(cI, .int), (cJ, .long)] s := by
    refine ⟨hKc, fun k q hq => ?_⟩
    match k, hq with
    | 0, hq => cases hq; exact hcI
    | 1, hq => cases hq; exact hcJ
    | k + 2, hq => simp at hq
  have hg := flat_of_before _ hgv
  have hAn : ∀ a : Nat, a < s.heap.size → ¬ (fun q : Nat => s.heap.size ≤ q) a := fun a h q => Nat.not_le.mpr h q
  obtain ⟨t0, ht0, hTb⟩ := va_Tof (tm := .static "CupDraws" "PARTS" "[J") (ty := .long) (N := 4) (f := fun j => .long (Int64.ofInt (mPT.getD j 0))) (A := fun q : Nat => s.heap.size ≤ q) (by decide) (hg _ (by decide +kernel)) (va_eqt (hg _ (by decide +kernel)))
    (fun j hj => by
      match j, hj with
      | 0, _ => exact va_eqtl (z := 1) (hg _ (by decide +kernel))
      | 1, _ => exact va_eqtl (z := 12) (hg _ (by decide +kernel))
      | 2, _ => exact va_eqtl (z := 1728) (hg _ (by decide +kernel))
      | 3, _ => exact va_eqtl (z := 35831808) (hg _ (by decide +kernel))
      | j + 4, hj => omega) hAn
  have hZ : va_Z "CupDraws" "PARTS" "[J" (.ref t0) (fun q => s.heap.size ≤ q) s s.heap := va_Zof (htsl _ stS) (hts _ stI) ht0 hAn
  let xl : List Int := (List.range L).map (fun j => (xs j).toInt)
  have hxl : xl.length = L := by simp [xl]
  have hxi : ∀ x ∈ xl, inI x := by
    intro x hx
    obtain ⟨j, -, rfl⟩ := List.mem_map.mp hx
    exact cI_in _
  have hX2 : va_X b xl.length (fun j => Int32.ofInt (xl.getD j 0)) s s.heap := by
    obtain ⟨scr, h1, h2, h3, h4, h5⟩ := hX
    refine ⟨scr, h1, h2, h3, h4.trans hxl.symm, fun j hj => ?_⟩
    rw [hxl] at hj
    rw [h5 j hj]
    congr 2
    show xs j = Int32.ofInt (xl.getD j 0)
    rw [List.getD_eq_getElem?_getD]
    simp only [xl, List.getElem?_map, List.getElem?_range hj, Option.map_some, Option.getD_some, Int32.ofInt_toInt]
  have htl : t0 < s.heap.size := by
    obtain ⟨cell, h1, -⟩ := hTb
    exact (Array.getElem?_eq_some_iff.mp h1).1
  have hG : mGl s.heap.size t0 b xl s s.heap := ⟨hZ, hTb, hX2, hbl, htl, Nat.le_refl _⟩
  have hN : mNs s := fun own idx y hw => va_Nw.of rfl (htsl _ hw)
  have hma : (mArgs (mMax mL_law) [mR 1]).length = mMax mL_law := by decide
  have has := mArgs_has (ad := [t0, b]) (As := [mR 1]) (n := 4) hma
  rw [lg_entry_eq]
  refine m_sound (l := l) (dC := dC) (dI := dI) (cI := cI) (cJ := cJ) (z0 := s.heap.size) (t0 := t0) (b0 := b) (xs := xl) _ _ _ _ _ _ _ _ (hlaw xl (by omega) hxi) p e room_1 s m #[Value.ref b] below meth c s.heap [] 0 0 30 8763 (lw_Z below #[Value.ref b] s) _ [t0, b] (fun q => s.heap.size ≤ q)
    ⟨hx, hb, hml, hr, hown, hts, hlocks, fun h => absurd h (by decide), hK, hG, hN, fun _ q => q, fun _ q => q, ⟨by decide, by decide⟩, ⟨by decide, by decide⟩⟩ ?_ ⟨(fun v hv => by cases hv), ?_, has, hma⟩ ⟨rfl, rfl⟩ ?_
  · refine ⟨fun k q hq => ?_, ⟨fun i j p q hq => ?_, fun k q hq => ?_⟩, va_S.rf, ?_, rfl, rfl, rfl, rfl, rfl⟩
    · simp [mwd] at hq
    · simp [mwd] at hq
    · simp [mwd] at hq
    · intro ce hce
      rcases List.mem_cons.mp hce with rfl | hce
      · intro x hx
        have : ∀ x ∈ mPT, 0 ≤ x ∧ x ≤ 35831808 := by decide
        have := this x hx
        exact ⟨by omega, by omega⟩
      · rw [List.mem_singleton.mp hce]
        exact hxi
  · intro v hv
    have : v = mR 1 ∨ v = mU := by
      have h4 : mArgs 4 [mR 1] = [mR 1, mU, mU, mU] := by decide
      have hv : v ∈ mArgs 4 [mR 1] := hv
      rw [h4] at hv
      simp at hv
      exact hv
    rcases this with rfl | rfl
    · show 1 < 2
      decide
    · trivial
  · intro pc' i len r S' h' ex H' locs' cells' slots' ls' hd hrr hq hW' hS' hc' hs'
    subst hq
    cases i <;> simp only [mRR] at hrr
    · obtain ⟨x, rfl, rfl, -, he⟩ := hrr
      have : x = 1 := by injection he with he; injection he with he; exact he.symm
      subst this
      refine va_forget (fun q hq => hW'.2.2.1.2.2 q hq) ?_
      exact W.widen (k := 600000) (n := 7302250) (by omega) (by omega) (lw_ret hx hb hr hlocks hd)
    · obtain ⟨x, rfl, rfl, -, he⟩ := hrr
      cases he
    · obtain ⟨-, -, -, he⟩ := hrr
      cases he
end
section
/-! RULES: an instruction each, locals and stack as patterns (written by wip/whole/rules.py) -/
/-- a run of a method from its start: what it answers and the cells behind it -/
def Ct (d : Nat) (M : mM) (As : List mV) (h : List mC) (Q : Option mV → List mC → Prop) : Prop := Wp d M 0 (mArgs (mMax M) As) [] h (mCel M, mSlo M) Q
def Rt (d : Nat) (M : mM) (As : List mV) (h : List mC) (r : Option mV) (h2 : List mC) : Prop := Ct d M As h (fun r' h' => r' = r ∧ h' = h2)
def bI (p : Prop) [Decidable p] : Int := if p then 1 else 0
theorem bI_t {p : Prop} [Decidable p] (h : p) : bI p = 1 := if_pos h
theorem bI_f {p : Prop} [Decidable p] (h : ¬ p) : bI p = 0 := if_neg h
theorem bI_c {p q : Prop} [Decidable p] [Decidable q] (h : p ↔ q) : bI p = bI q := by
  by_cases hp : p
  · rw [bI_t hp, bI_t (h.mp hp)]
  · rw [bI_f hp, bI_f (fun x => hp (h.mpr x))]
theorem Ct.deep {d : Nat} {M : mM} {As : List mV} {h : List mC} {Q : Option mV → List mC → Prop} (k : Ct d M As h Q) (j : Nat) : Ct (d + j) M As h Q := wp_deep k j
theorem Rt.deep {d : Nat} {M : mM} {As : List mV} {h h2 : List mC} {r : Option mV} (k : Rt d M As h r h2) (j : Nat) : Rt (d + j) M As h r h2 := wp_deep k j
theorem Rt.to {d : Nat} {M : mM} {As : List mV} {h h2 h3 : List mC} {r r2 : Option mV} (k : Rt d M As h r h2) (e1 : r = r2) (e2 : h2 = h3) : Rt d M As h r2 h3 := by subst e1; subst e2; exact k
section WPR
variable {d : Nat} {M : mM} {pc q : Nat} {L S : List mV} {h : List mC} {b : Nat × Nat} {Q : Option mV → List mC → Prop}
theorem wp_il0 {x : Int} {l : List mV} (hd : decode (mCode M) pc = .ok (.iload_n 0, 1)) (hq : pc + 1 = q) (k : Wp d M q (mI x :: l) (mI x :: S) h b Q) : Wp d M pc (mI x :: l) S h b Q :=
  wp_ss hd (q, (mI x :: l), mI x :: S, h, b) ⟨x, rfl, rfl, by rw [← hq]⟩ k
theorem wp_ll0 {x : Int} {l : List mV} (hd : decode (mCode M) pc = .ok (.lload_n 0, 1)) (hq : pc + 1 = q) (k : Wp d M q (mL x :: l) (mL x :: S) h b Q) : Wp d M pc (mL x :: l) S h b Q :=
  wp_ss hd (q, (mL x :: l), mL x :: S, h, b) ⟨x, rfl, rfl, by rw [← hq]⟩ k
theorem wp_al0 {x : Nat} {l : List mV} (hd : decode (mCode M) pc = .ok (.aload_n 0, 1)) (hq : pc + 1 = q) (k : Wp d M q (mR x :: l) (mR x :: S) h b Q) : Wp d M pc (mR x :: l) S h b Q :=
  wp_ss hd (q, (mR x :: l), mR x :: S, h, b) ⟨x, rfl, rfl, by rw [← hq]⟩ k
theorem wp_is0 {c : mV} {x : Int} {l : List mV} (hd : decode (mCode M) pc = .ok (.istore_n 0, 1)) (hq : pc + 1 = q) (k : Wp d M q (mI x :: l) S h b Q) : Wp d M pc (c :: l) (mI x :: S) h b Q :=
  wp_ss hd (q, (mI x :: l), S, h, b) ⟨x, S, rfl, rfl, by show (0 : Nat) < _; simp only [List.length_cons]; omega, Or.inl rfl, by rw [← hq]; rfl⟩ k
theorem wp_as0 {c : mV} {x : Nat} {l : List mV} (hd : decode (mCode M) pc = .ok (.astore_n 0, 1)) (hq : pc + 1 = q) (k : Wp d M q (mR x :: l) S h b Q) : Wp d M pc (c :: l) (mR x :: S) h b Q :=
  wp_ss hd (q, (mR x :: l), S, h, b) ⟨x, S, rfl, rfl, by show (0 : Nat) < _; simp only [List.length_cons]; omega, Or.inl rfl, by rw [← hq]; rfl⟩ k
theorem wp_ls0 {c c2 : mV} {x : Int} {l : List mV} (hd : decode (mCode M) pc = .ok (.lstore_n 0, 1)) (hq : pc + 1 = q) (k : Wp d M q (mL x :: mU :: l) S h b Q) : Wp d M pc (c :: c2 :: l) (mL x :: S) h b Q :=
  wp_ss hd (q, (mL x :: mU :: l), S, h, b) ⟨x, S, rfl, rfl, by show (0 : Nat) + 1 < _; simp only [List.length_cons]; omega, Or.inl rfl, by rw [← hq]; rfl⟩ k
theorem wp_ii0 {n x : Int} {l : List mV} (hd : decode (mCode M) pc = .ok (.iinc 0 n, 3)) (hq : pc + 3 = q) (h1 : -2147483648 ≤ x + n) (h2 : x + n ≤ 2147483647) (k : Wp d M q (mI (x + n) :: l) S h b Q) : Wp d M pc (mI x :: l) S h b Q :=
  wp_ss hd (q, (mI (x + n) :: l), S, h, b) ⟨x, rfl, rfl, Or.inl rfl, ⟨h1, h2⟩, by rw [← hq]; rfl⟩ k
theorem wp_il1 {a0 : mV} {x : Int} {l : List mV} (hd : decode (mCode M) pc = .ok (.iload_n 1, 1)) (hq : pc + 1 = q) (k : Wp d M q (a0 :: mI x :: l) (mI x :: S) h b Q) : Wp d M pc (a0 :: mI x :: l) S h b Q :=
  wp_ss hd (q, (a0 :: mI x :: l), mI x :: S, h, b) ⟨x, rfl, rfl, by rw [← hq]⟩ k
theorem wp_ll1 {a0 : mV} {x : Int} {l : List mV} (hd : decode (mCode M) pc = .ok (.lload_n 1, 1)) (hq : pc + 1 = q) (k : Wp d M q (a0 :: mL x :: l) (mL x :: S) h b Q) : Wp d M pc (a0 :: mL x :: l) S h b Q :=
  wp_ss hd (q, (a0 :: mL x :: l), mL x :: S, h, b) ⟨x, rfl, rfl, by rw [← hq]⟩ k
theorem wp_al1 {a0 : mV} {x : Nat} {l : List mV} (hd : decode (mCode M) pc = .ok (.aload_n 1, 1)) (hq : pc + 1 = q) (k : Wp d M q (a0 :: mR x :: l) (mR x :: S) h b Q) : Wp d M pc (a0 :: mR x :: l) S h b Q :=
  wp_ss hd (q, (a0 :: mR x :: l), mR x :: S, h, b) ⟨x, rfl, rfl, by rw [← hq]⟩ k
theorem wp_is1 {a0 : mV} {c : mV} {x : Int} {l : List mV} (hd : decode (mCode M) pc = .ok (.istore_n 1, 1)) (hq : pc + 1 = q) (hb : mLong a0 = false) (k : Wp d M q (a0 :: mI x :: l) S h b Q) : Wp d M pc (a0 :: c :: l) (mI x :: S) h b Q :=
  wp_ss hd (q, (a0 :: mI x :: l), S, h, b) ⟨x, S, rfl, rfl, by show (1 : Nat) < _; simp only [List.length_cons]; omega, Or.inr hb, by rw [← hq]; rfl⟩ k
theorem wp_as1 {a0 : mV} {c : mV} {x : Nat} {l : List mV} (hd : decode (mCode M) pc = .ok (.astore_n 1, 1)) (hq : pc + 1 = q) (hb : mLong a0 = false) (k : Wp d M q (a0 :: mR x :: l) S h b Q) : Wp d M pc (a0 :: c :: l) (mR x :: S) h b Q :=
  wp_ss hd (q, (a0 :: mR x :: l), S, h, b) ⟨x, S, rfl, rfl, by show (1 : Nat) < _; simp only [List.length_cons]; omega, Or.inr hb, by rw [← hq]; rfl⟩ k
theorem wp_ls1 {a0 : mV} {c c2 : mV} {x : Int} {l : List mV} (hd : decode (mCode M) pc = .ok (.lstore_n 1, 1)) (hq : pc + 1 = q) (hb : mLong a0 = false) (k : Wp d M q (a0 :: mL x :: mU :: l) S h b Q) : Wp d M pc (a0 :: c :: c2 :: l) (mL x :: S) h b Q :=
  wp_ss hd (q, (a0 :: mL x :: mU :: l), S, h, b) ⟨x, S, rfl, rfl, by show (1 : Nat) + 1 < _; simp only [List.length_cons]; omega, Or.inr hb, by rw [← hq]; rfl⟩ k
theorem wp_ii1 {a0 : mV} {n x : Int} {l : List mV} (hd : decode (mCode M) pc = .ok (.iinc 1 n, 3)) (hq : pc + 3 = q) (hb : mLong a0 = false) (h1 : -2147483648 ≤ x + n) (h2 : x + n ≤ 2147483647) (k : Wp d M q (a0 :: mI (x + n) :: l) S h b Q) : Wp d M pc (a0 :: mI x :: l) S h b Q :=
  wp_ss hd (q, (a0 :: mI (x + n) :: l), S, h, b) ⟨x, rfl, rfl, Or.inr hb, ⟨h1, h2⟩, by rw [← hq]; rfl⟩ k
theorem wp_il2 {a0 a1 : mV} {x : Int} {l : List mV} (hd : decode (mCode M) pc = .ok (.iload_n 2, 1)) (hq : pc + 1 = q) (k : Wp d M q (a0 :: a1 :: mI x :: l) (mI x :: S) h b Q) : Wp d M pc (a0 :: a1 :: mI x :: l) S h b Q :=
  wp_ss hd (q, (a0 :: a1 :: mI x :: l), mI x :: S, h, b) ⟨x, rfl, rfl, by rw [← hq]⟩ k
theorem wp_ll2 {a0 a1 : mV} {x : Int} {l : List mV} (hd : decode (mCode M) pc = .ok (.lload_n 2, 1)) (hq : pc + 1 = q) (k : Wp d M q (a0 :: a1 :: mL x :: l) (mL x :: S) h b Q) : Wp d M pc (a0 :: a1 :: mL x :: l) S h b Q :=
  wp_ss hd (q, (a0 :: a1 :: mL x :: l), mL x :: S, h, b) ⟨x, rfl, rfl, by rw [← hq]⟩ k
theorem wp_al2 {a0 a1 : mV} {x : Nat} {l : List mV} (hd : decode (mCode M) pc = .ok (.aload_n 2, 1)) (hq : pc + 1 = q) (k : Wp d M q (a0 :: a1 :: mR x :: l) (mR x :: S) h b Q) : Wp d M pc (a0 :: a1 :: mR x :: l) S h b Q :=
  wp_ss hd (q, (a0 :: a1 :: mR x :: l), mR x :: S, h, b) ⟨x, rfl, rfl, by rw [← hq]⟩ k
theorem wp_is2 {a0 a1 : mV} {c : mV} {x : Int} {l : List mV} (hd : decode (mCode M) pc = .ok (.istore_n 2, 1)) (hq : pc + 1 = q) (hb : mLong a1 = false) (k : Wp d M q (a0 :: a1 :: mI x :: l) S h b Q) : Wp d M pc (a0 :: a1 :: c :: l) (mI x :: S) h b Q :=
  wp_ss hd (q, (a0 :: a1 :: mI x :: l), S, h, b) ⟨x, S, rfl, rfl, by show (2 : Nat) < _; simp only [List.length_cons]; omega, Or.inr hb, by rw [← hq]; rfl⟩ k
theorem wp_as2 {a0 a1 : mV} {c : mV} {x : Nat} {l : List mV} (hd : decode (mCode M) pc = .ok (.astore_n 2, 1)) (hq : pc + 1 = q) (hb : mLong a1 = false) (k : Wp d M q (a0 :: a1 :: mR x :: l) S h b Q) : Wp d M pc (a0 :: a1 :: c :: l) (mR x :: S) h b Q :=
  wp_ss hd (q, (a0 :: a1 :: mR x :: l), S, h, b) ⟨x, S, rfl, rfl, by show (2 : Nat) < _; simp only [List.length_cons]; omega, Or.inr hb, by rw [← hq]; rfl⟩ k
theorem wp_ls2 {a0 a1 : mV} {c c2 : mV} {x : Int} {l : List mV} (hd : decode (mCode M) pc = .ok (.lstore_n 2, 1)) (hq : pc + 1 = q) (hb : mLong a1 = false) (k : Wp d M q (a0 :: a1 :: mL x :: mU :: l) S h b Q) : Wp d M pc (a0 :: a1 :: c :: c2 :: l) (mL x :: S) h b Q :=
  wp_ss hd (q, (a0 :: a1 :: mL x :: mU :: l), S, h, b) ⟨x, S, rfl, rfl, by show (2 : Nat) + 1 < _; simp only [List.length_cons]; omega, Or.inr hb, by rw [← hq]; rfl⟩ k
theorem wp_ii2 {a0 a1 : mV} {n x : Int} {l : List mV} (hd : decode (mCode M) pc = .ok (.iinc 2 n, 3)) (hq : pc + 3 = q) (hb : mLong a1 = false) (h1 : -2147483648 ≤ x + n) (h2 : x + n ≤ 2147483647) (k : Wp d M q (a0 :: a1 :: mI (x + n) :: l) S h b Q) : Wp d M pc (a0 :: a1 :: mI x :: l) S h b Q :=
  wp_ss hd (q, (a0 :: a1 :: mI (x + n) :: l), S, h, b) ⟨x, rfl, rfl, Or.inr hb, ⟨h1, h2⟩, by rw [← hq]; rfl⟩ k
theorem wp_il3 {a0 a1 a2 : mV} {x : Int} {l : List mV} (hd : decode (mCode M) pc = .ok (.iload_n 3, 1)) (hq : pc + 1 = q) (k : Wp d M q (a0 :: a1 :: a2 :: mI x :: l) (mI x :: S) h b Q) : Wp d M pc (a0 :: a1 :: a2 :: mI x :: l) S h b Q :=
  wp_ss hd (q, (a0 :: a1 :: a2 :: mI x :: l), mI x :: S, h, b) ⟨x, rfl, rfl, by rw [← hq]⟩ k
theorem wp_ll3 {a0 a1 a2 : mV} {x : Int} {l : List mV} (hd : decode (mCode M) pc = .ok (.lload_n 3, 1)) (hq : pc + 1 = q) (k : Wp d M q (a0 :: a1 :: a2 :: mL x :: l) (mL x :: S) h b Q) : Wp d M pc (a0 :: a1 :: a2 :: mL x :: l) S h b Q :=
  wp_ss hd (q, (a0 :: a1 :: a2 :: mL x :: l), mL x :: S, h, b) ⟨x, rfl, rfl, by rw [← hq]⟩ k
theorem wp_al3 {a0 a1 a2 : mV} {x : Nat} {l : List mV} (hd : decode (mCode M) pc = .ok (.aload_n 3, 1)) (hq : pc + 1 = q) (k : Wp d M q (a0 :: a1 :: a2 :: mR x :: l) (mR x :: S) h b Q) : Wp d M pc (a0 :: a1 :: a2 :: mR x :: l) S h b Q :=
  wp_ss hd (q, (a0 :: a1 :: a2 :: mR x :: l), mR x :: S, h, b) ⟨x, rfl, rfl, by rw [← hq]⟩ k
theorem wp_is3 {a0 a1 a2 : mV} {c : mV} {x : Int} {l : List mV} (hd : decode (mCode M) pc = .ok (.istore_n 3, 1)) (hq : pc + 1 = q) (hb : mLong a2 = false) (k : Wp d M q (a0 :: a1 :: a2 :: mI x :: l) S h b Q) : Wp d M pc (a0 :: a1 :: a2 :: c :: l) (mI x :: S) h b Q :=
  wp_ss hd (q, (a0 :: a1 :: a2 :: mI x :: l), S, h, b) ⟨x, S, rfl, rfl, by show (3 : Nat) < _; simp only [List.length_cons]; omega, Or.inr hb, by rw [← hq]; rfl⟩ k
theorem wp_as3 {a0 a1 a2 : mV} {c : mV} {x : Nat} {l : List mV} (hd : decode (mCode M) pc = .ok (.astore_n 3, 1)) (hq : pc + 1 = q) (hb : mLong a2 = false) (k : Wp d M q (a0 :: a1 :: a2 :: mR x :: l) S h b Q) : Wp d M pc (a0 :: a1 :: a2 :: c :: l) (mR x :: S) h b Q :=
  wp_ss hd (q, (a0 :: a1 :: a2 :: mR x :: l), S, h, b) ⟨x, S, rfl, rfl, by show (3 : Nat) < _; simp only [List.length_cons]; omega, Or.inr hb, by rw [← hq]; rfl⟩ k
theorem wp_ls3 {a0 a1 a2 : mV} {c c2 : mV} {x : Int} {l : List mV} (hd : decode (mCode M) pc = .ok (.lstore_n 3, 1)) (hq : pc + 1 = q) (hb : mLong a2 = false) (k : Wp d M q (a0 :: a1 :: a2 :: mL x :: mU :: l) S h b Q) : Wp d M pc (a0 :: a1 :: a2 :: c :: c2 :: l) (mL x :: S) h b Q :=
  wp_ss hd (q, (a0 :: a1 :: a2 :: mL x :: mU :: l), S, h, b) ⟨x, S, rfl, rfl, by show (3 : Nat) + 1 < _; simp only [List.length_cons]; omega, Or.inr hb, by rw [← hq]; rfl⟩ k
theorem wp_ii3 {a0 a1 a2 : mV} {n x : Int} {l : List mV} (hd : decode (mCode M) pc = .ok (.iinc 3 n, 3)) (hq : pc + 3 = q) (hb : mLong a2 = false) (h1 : -2147483648 ≤ x + n) (h2 : x + n ≤ 2147483647) (k : Wp d M q (a0 :: a1 :: a2 :: mI (x + n) :: l) S h b Q) : Wp d M pc (a0 :: a1 :: a2 :: mI x :: l) S h b Q :=
  wp_ss hd (q, (a0 :: a1 :: a2 :: mI (x + n) :: l), S, h, b) ⟨x, rfl, rfl, Or.inr hb, ⟨h1, h2⟩, by rw [← hq]; rfl⟩ k
theorem wp_il4 {a0 a1 a2 a3 : mV} {x : Int} {l : List mV} (hd : decode (mCode M) pc = .ok (.iload 4, 2)) (hq : pc + 2 = q) (k : Wp d M q (a0 :: a1 :: a2 :: a3 :: mI x :: l) (mI x :: S) h b Q) : Wp d M pc (a0 :: a1 :: a2 :: a3 :: mI x :: l) S h b Q :=
  wp_ss hd (q, (a0 :: a1 :: a2 :: a3 :: mI x :: l), mI x :: S, h, b) ⟨x, rfl, rfl, by rw [← hq]⟩ k
theorem wp_ll4 {a0 a1 a2 a3 : mV} {x : Int} {l : List mV} (hd : decode (mCode M) pc = .ok (.lload 4, 2)) (hq : pc + 2 = q) (k : Wp d M q (a0 :: a1 :: a2 :: a3 :: mL x :: l) (mL x :: S) h b Q) : Wp d M pc (a0 :: a1 :: a2 :: a3 :: mL x :: l) S h b Q :=
  wp_ss hd (q, (a0 :: a1 :: a2 :: a3 :: mL x :: l), mL x :: S, h, b) ⟨x, rfl, rfl, by rw [← hq]⟩ k
theorem wp_al4 {a0 a1 a2 a3 : mV} {x : Nat} {l : List mV} (hd : decode (mCode M) pc = .ok (.aload 4, 2)) (hq : pc + 2 = q) (k : Wp d M q (a0 :: a1 :: a2 :: a3 :: mR x :: l) (mR x :: S) h b Q) : Wp d M pc (a0 :: a1 :: a2 :: a3 :: mR x :: l) S h b Q :=
  wp_ss hd (q, (a0 :: a1 :: a2 :: a3 :: mR x :: l), mR x :: S, h, b) ⟨x, rfl, rfl, by rw [← hq]⟩ k
theorem wp_is4 {a0 a1 a2 a3 : mV} {c : mV} {x : Int} {l : List mV} (hd : decode (mCode M) pc = .ok (.istore 4, 2)) (hq : pc + 2 = q) (hb : mLong a3 = false) (k : Wp d M q (a0 :: a1 :: a2 :: a3 :: mI x :: l) S h b Q) : Wp d M pc (a0 :: a1 :: a2 :: a3 :: c :: l) (mI x :: S) h b Q :=
  wp_ss hd (q, (a0 :: a1 :: a2 :: a3 :: mI x :: l), S, h, b) ⟨x, S, rfl, rfl, by show (4 : Nat) < _; simp only [List.length_cons]; omega, Or.inr hb, by rw [← hq]; rfl⟩ k
theorem wp_as4 {a0 a1 a2 a3 : mV} {c : mV} {x : Nat} {l : List mV} (hd : decode (mCode M) pc = .ok (.astore 4, 2)) (hq : pc + 2 = q) (hb : mLong a3 = false) (k : Wp d M q (a0 :: a1 :: a2 :: a3 :: mR x :: l) S h b Q) : Wp d M pc (a0 :: a1 :: a2 :: a3 :: c :: l) (mR x :: S) h b Q :=
  wp_ss hd (q, (a0 :: a1 :: a2 :: a3 :: mR x :: l), S, h, b) ⟨x, S, rfl, rfl, by show (4 : Nat) < _; simp only [List.length_cons]; omega, Or.inr hb, by rw [← hq]; rfl⟩ k
theorem wp_ls4 {a0 a1 a2 a3 : mV} {c c2 : mV} {x : Int} {l : List mV} (hd : decode (mCode M) pc = .ok (.lstore 4, 2)) (hq : pc + 2 = q) (hb : mLong a3 = false) (k : Wp d M q (a0 :: a1 :: a2 :: a3 :: mL x :: mU :: l) S h b Q) : Wp d M pc (a0 :: a1 :: a2 :: a3 :: c :: c2 :: l) (mL x :: S) h b Q :=
  wp_ss hd (q, (a0 :: a1 :: a2 :: a3 :: mL x :: mU :: l), S, h, b) ⟨x, S, rfl, rfl, by show (4 : Nat) + 1 < _; simp only [List.length_cons]; omega, Or.inr hb, by rw [← hq]; rfl⟩ k
theorem wp_ii4 {a0 a1 a2 a3 : mV} {n x : Int} {l : List mV} (hd : decode (mCode M) pc = .ok (.iinc 4 n, 3)) (hq : pc + 3 = q) (hb : mLong a3 = false) (h1 : -2147483648 ≤ x + n) (h2 : x + n ≤ 2147483647) (k : Wp d M q (a0 :: a1 :: a2 :: a3 :: mI (x + n) :: l) S h b Q) : Wp d M pc (a0 :: a1 :: a2 :: a3 :: mI x :: l) S h b Q :=
  wp_ss hd (q, (a0 :: a1 :: a2 :: a3 :: mI (x + n) :: l), S, h, b) ⟨x, rfl, rfl, Or.inr hb, ⟨h1, h2⟩, by rw [← hq]; rfl⟩ k
theorem wp_il5 {a0 a1 a2 a3 a4 : mV} {x : Int} {l : List mV} (hd : decode (mCode M) pc = .ok (.iload 5, 2)) (hq : pc + 2 = q) (k : Wp d M q (a0 :: a1 :: a2 :: a3 :: a4 :: mI x :: l) (mI x :: S) h b Q) : Wp d M pc (a0 :: a1 :: a2 :: a3 :: a4 :: mI x :: l) S h b Q :=
  wp_ss hd (q, (a0 :: a1 :: a2 :: a3 :: a4 :: mI x :: l), mI x :: S, h, b) ⟨x, rfl, rfl, by rw [← hq]⟩ k
theorem wp_ll5 {a0 a1 a2 a3 a4 : mV} {x : Int} {l : List mV} (hd : decode (mCode M) pc = .ok (.lload 5, 2)) (hq : pc + 2 = q) (k : Wp d M q (a0 :: a1 :: a2 :: a3 :: a4 :: mL x :: l) (mL x :: S) h b Q) : Wp d M pc (a0 :: a1 :: a2 :: a3 :: a4 :: mL x :: l) S h b Q :=
  wp_ss hd (q, (a0 :: a1 :: a2 :: a3 :: a4 :: mL x :: l), mL x :: S, h, b) ⟨x, rfl, rfl, by rw [← hq]⟩ k
theorem wp_al5 {a0 a1 a2 a3 a4 : mV} {x : Nat} {l : List mV} (hd : decode (mCode M) pc = .ok (.aload 5, 2)) (hq : pc + 2 = q) (k : Wp d M q (a0 :: a1 :: a2 :: a3 :: a4 :: mR x :: l) (mR x :: S) h b Q) : Wp d M pc (a0 :: a1 :: a2 :: a3 :: a4 :: mR x :: l) S h b Q :=
  wp_ss hd (q, (a0 :: a1 :: a2 :: a3 :: a4 :: mR x :: l), mR x :: S, h, b) ⟨x, rfl, rfl, by rw [← hq]⟩ k
theorem wp_is5 {a0 a1 a2 a3 a4 : mV} {c : mV} {x : Int} {l : List mV} (hd : decode (mCode M) pc = .ok (.istore 5, 2)) (hq : pc + 2 = q) (hb : mLong a4 = false) (k : Wp d M q (a0 :: a1 :: a2 :: a3 :: a4 :: mI x :: l) S h b Q) : Wp d M pc (a0 :: a1 :: a2 :: a3 :: a4 :: c :: l) (mI x :: S) h b Q :=
  wp_ss hd (q, (a0 :: a1 :: a2 :: a3 :: a4 :: mI x :: l), S, h, b) ⟨x, S, rfl, rfl, by show (5 : Nat) < _; simp only [List.length_cons]; omega, Or.inr hb, by rw [← hq]; rfl⟩ k
theorem wp_as5 {a0 a1 a2 a3 a4 : mV} {c : mV} {x : Nat} {l : List mV} (hd : decode (mCode M) pc = .ok (.astore 5, 2)) (hq : pc + 2 = q) (hb : mLong a4 = false) (k : Wp d M q (a0 :: a1 :: a2 :: a3 :: a4 :: mR x :: l) S h b Q) : Wp d M pc (a0 :: a1 :: a2 :: a3 :: a4 :: c :: l) (mR x :: S) h b Q :=
  wp_ss hd (q, (a0 :: a1 :: a2 :: a3 :: a4 :: mR x :: l), S, h, b) ⟨x, S, rfl, rfl, by show (5 : Nat) < _; simp only [List.length_cons]; omega, Or.inr hb, by rw [← hq]; rfl⟩ k
theorem wp_ls5 {a0 a1 a2 a3 a4 : mV} {c c2 : mV} {x : Int} {l : List mV} (hd : decode (mCode M) pc = .ok (.lstore 5, 2)) (hq : pc + 2 = q) (hb : mLong a4 = false) (k : Wp d M q (a0 :: a1 :: a2 :: a3 :: a4 :: mL x :: mU :: l) S h b Q) : Wp d M pc (a0 :: a1 :: a2 :: a3 :: a4 :: c :: c2 :: l) (mL x :: S) h b Q :=
  wp_ss hd (q, (a0 :: a1 :: a2 :: a3 :: a4 :: mL x :: mU :: l), S, h, b) ⟨x, S, rfl, rfl, by show (5 : Nat) + 1 < _; simp only [List.length_cons]; omega, Or.inr hb, by rw [← hq]; rfl⟩ k
theorem wp_ii5 {a0 a1 a2 a3 a4 : mV} {n x : Int} {l : List mV} (hd : decode (mCode M) pc = .ok (.iinc 5 n, 3)) (hq : pc + 3 = q) (hb : mLong a4 = false) (h1 : -2147483648 ≤ x + n) (h2 : x + n ≤ 2147483647) (k : Wp d M q (a0 :: a1 :: a2 :: a3 :: a4 :: mI (x + n) :: l) S h b Q) : Wp d M pc (a0 :: a1 :: a2 :: a3 :: a4 :: mI x :: l) S h b Q :=
  wp_ss hd (q, (a0 :: a1 :: a2 :: a3 :: a4 :: mI (x + n) :: l), S, h, b) ⟨x, rfl, rfl, Or.inr hb, ⟨h1, h2⟩, by rw [← hq]; rfl⟩ k
theorem wp_il6 {a0 a1 a2 a3 a4 a5 : mV} {x : Int} {l : List mV} (hd : decode (mCode M) pc = .ok (.iload 6, 2)) (hq : pc + 2 = q) (k : Wp d M q (a0 :: a1 :: a2 :: a3 :: a4 :: a5 :: mI x :: l) (mI x :: S) h b Q) : Wp d M pc (a0 :: a1 :: a2 :: a3 :: a4 :: a5 :: mI x :: l) S h b Q :=
  wp_ss hd (q, (a0 :: a1 :: a2 :: a3 :: a4 :: a5 :: mI x :: l), mI x :: S, h, b) ⟨x, rfl, rfl, by rw [← hq]⟩ k
theorem wp_ll6 {a0 a1 a2 a3 a4 a5 : mV} {x : Int} {l : List mV} (hd : decode (mCode M) pc = .ok (.lload 6, 2)) (hq : pc + 2 = q) (k : Wp d M q (a0 :: a1 :: a2 :: a3 :: a4 :: a5 :: mL x :: l) (mL x :: S) h b Q) : Wp d M pc (a0 :: a1 :: a2 :: a3 :: a4 :: a5 :: mL x :: l) S h b Q :=
  wp_ss hd (q, (a0 :: a1 :: a2 :: a3 :: a4 :: a5 :: mL x :: l), mL x :: S, h, b) ⟨x, rfl, rfl, by rw [← hq]⟩ k
theorem wp_al6 {a0 a1 a2 a3 a4 a5 : mV} {x : Nat} {l : List mV} (hd : decode (mCode M) pc = .ok (.aload 6, 2)) (hq : pc + 2 = q) (k : Wp d M q (a0 :: a1 :: a2 :: a3 :: a4 :: a5 :: mR x :: l) (mR x :: S) h b Q) : Wp d M pc (a0 :: a1 :: a2 :: a3 :: a4 :: a5 :: mR x :: l) S h b Q :=
  wp_ss hd (q, (a0 :: a1 :: a2 :: a3 :: a4 :: a5 :: mR x :: l), mR x :: S, h, b) ⟨x, rfl, rfl, by rw [← hq]⟩ k
theorem wp_is6 {a0 a1 a2 a3 a4 a5 : mV} {c : mV} {x : Int} {l : List mV} (hd : decode (mCode M) pc = .ok (.istore 6, 2)) (hq : pc + 2 = q) (hb : mLong a5 = false) (k : Wp d M q (a0 :: a1 :: a2 :: a3 :: a4 :: a5 :: mI x :: l) S h b Q) : Wp d M pc (a0 :: a1 :: a2 :: a3 :: a4 :: a5 :: c :: l) (mI x :: S) h b Q :=
  wp_ss hd (q, (a0 :: a1 :: a2 :: a3 :: a4 :: a5 :: mI x :: l), S, h, b) ⟨x, S, rfl, rfl, by show (6 : Nat) < _; simp only [List.length_cons]; omega, Or.inr hb, by rw [← hq]; rfl⟩ k
theorem wp_as6 {a0 a1 a2 a3 a4 a5 : mV} {c : mV} {x : Nat} {l : List mV} (hd : decode (mCode M) pc = .ok (.astore 6, 2)) (hq : pc + 2 = q) (hb : mLong a5 = false) (k : Wp d M q (a0 :: a1 :: a2 :: a3 :: a4 :: a5 :: mR x :: l) S h b Q) : Wp d M pc (a0 :: a1 :: a2 :: a3 :: a4 :: a5 :: c :: l) (mR x :: S) h b Q :=
  wp_ss hd (q, (a0 :: a1 :: a2 :: a3 :: a4 :: a5 :: mR x :: l), S, h, b) ⟨x, S, rfl, rfl, by show (6 : Nat) < _; simp only [List.length_cons]; omega, Or.inr hb, by rw [← hq]; rfl⟩ k
theorem wp_ls6 {a0 a1 a2 a3 a4 a5 : mV} {c c2 : mV} {x : Int} {l : List mV} (hd : decode (mCode M) pc = .ok (.lstore 6, 2)) (hq : pc + 2 = q) (hb : mLong a5 = false) (k : Wp d M q (a0 :: a1 :: a2 :: a3 :: a4 :: a5 :: mL x :: mU :: l) S h b Q) : Wp d M pc (a0 :: a1 :: a2 :: a3 :: a4 :: a5 :: c :: c2 :: l) (mL x :: S) h b Q :=
  wp_ss hd (q, (a0 :: a1 :: a2 :: a3 :: a4 :: a5 :: mL x :: mU :: l), S, h, b) ⟨x, S, rfl, rfl, by show (6 : Nat) + 1 < _; simp only [List.length_cons]; omega, Or.inr hb, by rw [← hq]; rfl⟩ k
theorem wp_ii6 {a0 a1 a2 a3 a4 a5 : mV} {n x : Int} {l : List mV} (hd : decode (mCode M) pc = .ok (.iinc 6 n, 3)) (hq : pc + 3 = q) (hb : mLong a5 = false) (h1 : -2147483648 ≤ x + n) (h2 : x + n ≤ 2147483647) (k : Wp d M q (a0 :: a1 :: a2 :: a3 :: a4 :: a5 :: mI (x + n) :: l) S h b Q) : Wp d M pc (a0 :: a1 :: a2 :: a3 :: a4 :: a5 :: mI x :: l) S h b Q :=
  wp_ss hd (q, (a0 :: a1 :: a2 :: a3 :: a4 :: a5 :: mI (x + n) :: l), S, h, b) ⟨x, rfl, rfl, Or.inr hb, ⟨h1, h2⟩, by rw [← hq]; rfl⟩ k
theorem wp_il7 {a0 a1 a2 a3 a4 a5 a6 : mV} {x : Int} {l : List mV} (hd : decode (mCode M) pc = .ok (.iload 7, 2)) (hq : pc + 2 = q) (k : Wp d M q (a0 :: a1 :: a2 :: a3 :: a4 :: a5 :: a6 :: mI x :: l) (mI x :: S) h b Q) : Wp d M pc (a0 :: a1 :: a2 :: a3 :: a4 :: a5 :: a6 :: mI x :: l) S h b Q :=
  wp_ss hd (q, (a0 :: a1 :: a2 :: a3 :: a4 :: a5 :: a6 :: mI x :: l), mI x :: S, h, b) ⟨x, rfl, rfl, by rw [← hq]⟩ k
theorem wp_ll7 {a0 a1 a2 a3 a4 a5 a6 : mV} {x : Int} {l : List mV} (hd : decode (mCode M) pc = .ok (.lload 7, 2)) (hq : pc + 2 = q) (k : Wp d M q (a0 :: a1 :: a2 :: a3 :: a4 :: a5 :: a6 :: mL x :: l) (mL x :: S) h b Q) : Wp d M pc (a0 :: a1 :: a2 :: a3 :: a4 :: a5 :: a6 :: mL x :: l) S h b Q :=
  wp_ss hd (q, (a0 :: a1 :: a2 :: a3 :: a4 :: a5 :: a6 :: mL x :: l), mL x :: S, h, b) ⟨x, rfl, rfl, by rw [← hq]⟩ k
theorem wp_al7 {a0 a1 a2 a3 a4 a5 a6 : mV} {x : Nat} {l : List mV} (hd : decode (mCode M) pc = .ok (.aload 7, 2)) (hq : pc + 2 = q) (k : Wp d M q (a0 :: a1 :: a2 :: a3 :: a4 :: a5 :: a6 :: mR x :: l) (mR x :: S) h b Q) : Wp d M pc (a0 :: a1 :: a2 :: a3 :: a4 :: a5 :: a6 :: mR x :: l) S h b Q :=
  wp_ss hd (q, (a0 :: a1 :: a2 :: a3 :: a4 :: a5 :: a6 :: mR x :: l), mR x :: S, h, b) ⟨x, rfl, rfl, by rw [← hq]⟩ k
theorem wp_is7 {a0 a1 a2 a3 a4 a5 a6 : mV} {c : mV} {x : Int} {l : List mV} (hd : decode (mCode M) pc = .ok (.istore 7, 2)) (hq : pc + 2 = q) (hb : mLong a6 = false) (k : Wp d M q (a0 :: a1 :: a2 :: a3 :: a4 :: a5 :: a6 :: mI x :: l) S h b Q) : Wp d M pc (a0 :: a1 :: a2 :: a3 :: a4 :: a5 :: a6 :: c :: l) (mI x :: S) h b Q :=
  wp_ss hd (q, (a0 :: a1 :: a2 :: a3 :: a4 :: a5 :: a6 :: mI x :: l), S, h, b) ⟨x, S, rfl, rfl, by show (7 : Nat) < _; simp only [List.length_cons]; omega, Or.inr hb, by rw [← hq]; rfl⟩ k
theorem wp_as7 {a0 a1 a2 a3 a4 a5 a6 : mV} {c : mV} {x : Nat} {l : List mV} (hd : decode (mCode M) pc = .ok (.astore 7, 2)) (hq : pc + 2 = q) (hb : mLong a6 = false) (k : Wp d M q (a0 :: a1 :: a2 :: a3 :: a4 :: a5 :: a6 :: mR x :: l) S h b Q) : Wp d M pc (a0 :: a1 :: a2 :: a3 :: a4 :: a5 :: a6 :: c :: l) (mR x :: S) h b Q :=
  wp_ss hd (q, (a0 :: a1 :: a2 :: a3 :: a4 :: a5 :: a6 :: mR x :: l), S, h, b) ⟨x, S, rfl, rfl, by show (7 : Nat) < _; simp only [List.length_cons]; omega, Or.inr hb, by rw [← hq]; rfl⟩ k
theorem wp_ls7 {a0 a1 a2 a3 a4 a5 a6 : mV} {c c2 : mV} {x : Int} {l : List mV} (hd : decode (mCode M) pc = .ok (.lstore 7, 2)) (hq : pc + 2 = q) (hb : mLong a6 = false) (k : Wp d M q (a0 :: a1 :: a2 :: a3 :: a4 :: a5 :: a6 :: mL x :: mU :: l) S h b Q) : Wp d M pc (a0 :: a1 :: a2 :: a3 :: a4 :: a5 :: a6 :: c :: c2 :: l) (mL x :: S) h b Q :=
  wp_ss hd (q, (a0 :: a1 :: a2 :: a3 :: a4 :: a5 :: a6 :: mL x :: mU :: l), S, h, b) ⟨x, S, rfl, rfl, by show (7 : Nat) + 1 < _; simp only [List.length_cons]; omega, Or.inr hb, by rw [← hq]; rfl⟩ k
theorem wp_ii7 {a0 a1 a2 a3 a4 a5 a6 : mV} {n x : Int} {l : List mV} (hd : decode (mCode M) pc = .ok (.iinc 7 n, 3)) (hq : pc + 3 = q) (hb : mLong a6 = false) (h1 : -2147483648 ≤ x + n) (h2 : x + n ≤ 2147483647) (k : Wp d M q (a0 :: a1 :: a2 :: a3 :: a4 :: a5 :: a6 :: mI (x + n) :: l) S h b Q) : Wp d M pc (a0 :: a1 :: a2 :: a3 :: a4 :: a5 :: a6 :: mI x :: l) S h b Q :=
  wp_ss hd (q, (a0 :: a1 :: a2 :: a3 :: a4 :: a5 :: a6 :: mI (x + n) :: l), S, h, b) ⟨x, rfl, rfl, Or.inr hb, ⟨h1, h2⟩, by rw [← hq]; rfl⟩ k
theorem wp_il8 {a0 a1 a2 a3 a4 a5 a6 a7 : mV} {x : Int} {l : List mV} (hd : decode (mCode M) pc = .ok (.iload 8, 2)) (hq : pc + 2 = q) (k : Wp d M q (a0 :: a1 :: a2 :: a3 :: a4 :: a5 :: a6 :: a7 :: mI x :: l) (mI x :: S) h b Q) : Wp d M pc (a0 :: a1 :: a2 :: a3 :: a4 :: a5 :: a6 :: a7 :: mI x :: l) S h b Q :=
  wp_ss hd (q, (a0 :: a1 :: a2 :: a3 :: a4 :: a5 :: a6 :: a7 :: mI x :: l), mI x :: S, h, b) ⟨x, rfl, rfl, by rw [← hq]⟩ k
theorem wp_ll8 {a0 a1 a2 a3 a4 a5 a6 a7 : mV} {x : Int} {l : List mV} (hd : decode (mCode M) pc = .ok (.lload 8, 2)) (hq : pc + 2 = q) (k : Wp d M q (a0 :: a1 :: a2 :: a3 :: a4 :: a5 :: a6 :: a7 :: mL x :: l) (mL x :: S) h b Q) : Wp d M pc (a0 :: a1 :: a2 :: a3 :: a4 :: a5 :: a6 :: a7 :: mL x :: l) S h b Q :=
  wp_ss hd (q, (a0 :: a1 :: a2 :: a3 :: a4 :: a5 :: a6 :: a7 :: mL x :: l), mL x :: S, h, b) ⟨x, rfl, rfl, by rw [← hq]⟩ k
theorem wp_al8 {a0 a1 a2 a3 a4 a5 a6 a7 : mV} {x : Nat} {l : List mV} (hd : decode (mCode M) pc = .ok (.aload 8, 2)) (hq : pc + 2 = q) (k : Wp d M q (a0 :: a1 :: a2 :: a3 :: a4 :: a5 :: a6 :: a7 :: mR x :: l) (mR x :: S) h b Q) : Wp d M pc (a0 :: a1 :: a2 :: a3 :: a4 :: a5 :: a6 :: a7 :: mR x :: l) S h b Q :=
  wp_ss hd (q, (a0 :: a1 :: a2 :: a3 :: a4 :: a5 :: a6 :: a7 :: mR x :: l), mR x :: S, h, b) ⟨x, rfl, rfl, by rw [← hq]⟩ k
theorem wp_is8 {a0 a1 a2 a3 a4 a5 a6 a7 : mV} {c : mV} {x : Int} {l : List mV} (hd : decode (mCode M) pc = .ok (.istore 8, 2)) (hq : pc + 2 = q) (hb : mLong a7 = false) (k : Wp d M q (a0 :: a1 :: a2 :: a3 :: a4 :: a5 :: a6 :: a7 :: mI x :: l) S h b Q) : Wp d M pc (a0 :: a1 :: a2 :: a3 :: a4 :: a5 :: a6 :: a7 :: c :: l) (mI x :: S) h b Q :=
  wp_ss hd (q, (a0 :: a1 :: a2 :: a3 :: a4 :: a5 :: a6 :: a7 :: mI x :: l), S, h, b) ⟨x, S, rfl, rfl, by show (8 : Nat) < _; simp only [List.length_cons]; omega, Or.inr hb, by rw [← hq]; rfl⟩ k
theorem wp_as8 {a0 a1 a2 a3 a4 a5 a6 a7 : mV} {c : mV} {x : Nat} {l : List mV} (hd : decode (mCode M) pc = .ok (.astore 8, 2)) (hq : pc + 2 = q) (hb : mLong a7 = false) (k : Wp d M q (a0 :: a1 :: a2 :: a3 :: a4 :: a5 :: a6 :: a7 :: mR x :: l) S h b Q) : Wp d M pc (a0 :: a1 :: a2 :: a3 :: a4 :: a5 :: a6 :: a7 :: c :: l) (mR x :: S) h b Q :=
  wp_ss hd (q, (a0 :: a1 :: a2 :: a3 :: a4 :: a5 :: a6 :: a7 :: mR x :: l), S, h, b) ⟨x, S, rfl, rfl, by show (8 : Nat) < _; simp only [List.length_cons]; omega, Or.inr hb, by rw [← hq]; rfl⟩ k
theorem wp_ls8 {a0 a1 a2 a3 a4 a5 a6 a7 : mV} {c c2 : mV} {x : Int} {l : List mV} (hd : decode (mCode M) pc = .ok (.lstore 8, 2)) (hq : pc + 2 = q) (hb : mLong a7 = false) (k : Wp d M q (a0 :: a1 :: a2 :: a3 :: a4 :: a5 :: a6 :: a7 :: mL x :: mU :: l) S h b Q) : Wp d M pc (a0 :: a1 :: a2 :: a3 :: a4 :: a5 :: a6 :: a7 :: c :: c2 :: l) (mL x :: S) h b Q :=
  wp_ss hd (q, (a0 :: a1 :: a2 :: a3 :: a4 :: a5 :: a6 :: a7 :: mL x :: mU :: l), S, h, b) ⟨x, S, rfl, rfl, by show (8 : Nat) + 1 < _; simp only [List.length_cons]; omega, Or.inr hb, by rw [← hq]; rfl⟩ k
theorem wp_ii8 {a0 a1 a2 a3 a4 a5 a6 a7 : mV} {n x : Int} {l : List mV} (hd : decode (mCode M) pc = .ok (.iinc 8 n, 3)) (hq : pc + 3 = q) (hb : mLong a7 = false) (h1 : -2147483648 ≤ x + n) (h2 : x + n ≤ 2147483647) (k : Wp d M q (a0 :: a1 :: a2 :: a3 :: a4 :: a5 :: a6 :: a7 :: mI (x + n) :: l) S h b Q) : Wp d M pc (a0 :: a1 :: a2 :: a3 :: a4 :: a5 :: a6 :: a7 :: mI x :: l) S h b Q :=
  wp_ss hd (q, (a0 :: a1 :: a2 :: a3 :: a4 :: a5 :: a6 :: a7 :: mI (x + n) :: l), S, h, b) ⟨x, rfl, rfl, Or.inr hb, ⟨h1, h2⟩, by rw [← hq]; rfl⟩ k
theorem wp_il9 {a0 a1 a2 a3 a4 a5 a6 a7 a8 : mV} {x : Int} {l : List mV} (hd : decode (mCode M) pc = .ok (.iload 9, 2)) (hq : pc + 2 = q) (k : Wp d M q (a0 :: a1 :: a2 :: a3 :: a4 :: a5 :: a6 :: a7 :: a8 :: mI x :: l) (mI x :: S) h b Q) : Wp d M pc (a0 :: a1 :: a2 :: a3 :: a4 :: a5 :: a6 :: a7 :: a8 :: mI x :: l) S h b Q :=
  wp_ss hd (q, (a0 :: a1 :: a2 :: a3 :: a4 :: a5 :: a6 :: a7 :: a8 :: mI x :: l), mI x :: S, h, b) ⟨x, rfl, rfl, by rw [← hq]⟩ k
theorem wp_ll9 {a0 a1 a2 a3 a4 a5 a6 a7 a8 : mV} {x : Int} {l : List mV} (hd : decode (mCode M) pc = .ok (.lload 9, 2)) (hq : pc + 2 = q) (k : Wp d M q (a0 :: a1 :: a2 :: a3 :: a4 :: a5 :: a6 :: a7 :: a8 :: mL x :: l) (mL x :: S) h b Q) : Wp d M pc (a0 :: a1 :: a2 :: a3 :: a4 :: a5 :: a6 :: a7 :: a8 :: mL x :: l) S h b Q :=
  wp_ss hd (q, (a0 :: a1 :: a2 :: a3 :: a4 :: a5 :: a6 :: a7 :: a8 :: mL x :: l), mL x :: S, h, b) ⟨x, rfl, rfl, by rw [← hq]⟩ k
theorem wp_al9 {a0 a1 a2 a3 a4 a5 a6 a7 a8 : mV} {x : Nat} {l : List mV} (hd : decode (mCode M) pc = .ok (.aload 9, 2)) (hq : pc + 2 = q) (k : Wp d M q (a0 :: a1 :: a2 :: a3 :: a4 :: a5 :: a6 :: a7 :: a8 :: mR x :: l) (mR x :: S) h b Q) : Wp d M pc (a0 :: a1 :: a2 :: a3 :: a4 :: a5 :: a6 :: a7 :: a8 :: mR x :: l) S h b Q :=
  wp_ss hd (q, (a0 :: a1 :: a2 :: a3 :: a4 :: a5 :: a6 :: a7 :: a8 :: mR x :: l), mR x :: S, h, b) ⟨x, rfl, rfl, by rw [← hq]⟩ k
theorem wp_is9 {a0 a1 a2 a3 a4 a5 a6 a7 a8 : mV} {c : mV} {x : Int} {l : List mV} (hd : decode (mCode M) pc = .ok (.istore 9, 2)) (hq : pc + 2 = q) (hb : mLong a8 = false) (k : Wp d M q (a0 :: a1 :: a2 :: a3 :: a4 :: a5 :: a6 :: a7 :: a8 :: mI x :: l) S h b Q) : Wp d M pc (a0 :: a1 :: a2 :: a3 :: a4 :: a5 :: a6 :: a7 :: a8 :: c :: l) (mI x :: S) h b Q :=
  wp_ss hd (q, (a0 :: a1 :: a2 :: a3 :: a4 :: a5 :: a6 :: a7 :: a8 :: mI x :: l), S, h, b) ⟨x, S, rfl, rfl, by show (9 : Nat) < _; simp only [List.length_cons]; omega, Or.inr hb, by rw [← hq]; rfl⟩ k
theorem wp_as9 {a0 a1 a2 a3 a4 a5 a6 a7 a8 : mV} {c : mV} {x : Nat} {l : List mV} (hd : decode (mCode M) pc = .ok (.astore 9, 2)) (hq : pc + 2 = q) (hb : mLong a8 = false) (k : Wp d M q (a0 :: a1 :: a2 :: a3 :: a4 :: a5 :: a6 :: a7 :: a8 :: mR x :: l) S h b Q) : Wp d M pc (a0 :: a1 :: a2 :: a3 :: a4 :: a5 :: a6 :: a7 :: a8 :: c :: l) (mR x :: S) h b Q :=
  wp_ss hd (q, (a0 :: a1 :: a2 :: a3 :: a4 :: a5 :: a6 :: a7 :: a8 :: mR x :: l), S, h, b) ⟨x, S, rfl, rfl, by show (9 : Nat) < _; simp only [List.length_cons]; omega, Or.inr hb, by rw [← hq]; rfl⟩ k
theorem wp_ls9 {a0 a1 a2 a3 a4 a5 a6 a7 a8 : mV} {c c2 : mV} {x : Int} {l : List mV} (hd : decode (mCode M) pc = .ok (.lstore 9, 2)) (hq : pc + 2 = q) (hb : mLong a8 = false) (k : Wp d M q (a0 :: a1 :: a2 :: a3 :: a4 :: a5 :: a6 :: a7 :: a8 :: mL x :: mU :: l) S h b Q) : Wp d M pc (a0 :: a1 :: a2 :: a3 :: a4 :: a5 :: a6 :: a7 :: a8 :: c :: c2 :: l) (mL x :: S) h b Q :=
  wp_ss hd (q, (a0 :: a1 :: a2 :: a3 :: a4 :: a5 :: a6 :: a7 :: a8 :: mL x :: mU :: l), S, h, b) ⟨x, S, rfl, rfl, by show (9 : Nat) + 1 < _; simp only [List.length_cons]; omega, Or.inr hb, by rw [← hq]; rfl⟩ k
theorem wp_ii9 {a0 a1 a2 a3 a4 a5 a6 a7 a8 : mV} {n x : Int} {l : List mV} (hd : decode (mCode M) pc = .ok (.iinc 9 n, 3)) (hq : pc + 3 = q) (hb : mLong a8 = false) (h1 : -2147483648 ≤ x + n) (h2 : x + n ≤ 2147483647) (k : Wp d M q (a0 :: a1 :: a2 :: a3 :: a4 :: a5 :: a6 :: a7 :: a8 :: mI (x + n) :: l) S h b Q) : Wp d M pc (a0 :: a1 :: a2 :: a3 :: a4 :: a5 :: a6 :: a7 :: a8 :: mI x :: l) S h b Q :=
  wp_ss hd (q, (a0 :: a1 :: a2 :: a3 :: a4 :: a5 :: a6 :: a7 :: a8 :: mI (x + n) :: l), S, h, b) ⟨x, rfl, rfl, Or.inr hb, ⟨h1, h2⟩, by rw [← hq]; rfl⟩ k
theorem wp_il10 {a0 a1 a2 a3 a4 a5 a6 a7 a8 a9 : mV} {x : Int} {l : List mV} (hd : decode (mCode M) pc = .ok (.iload 10, 2)) (hq : pc + 2 = q) (k : Wp d M q (a0 :: a1 :: a2 :: a3 :: a4 :: a5 :: a6 :: a7 :: a8 :: a9 :: mI x :: l) (mI x :: S) h b Q) : Wp d M pc (a0 :: a1 :: a2 :: a3 :: a4 :: a5 :: a6 :: a7 :: a8 :: a9 :: mI x :: l) S h b Q :=
  wp_ss hd (q, (a0 :: a1 :: a2 :: a3 :: a4 :: a5 :: a6 :: a7 :: a8 :: a9 :: mI x :: l), mI x :: S, h, b) ⟨x, rfl, rfl, by rw [← hq]⟩ k
theorem wp_ll10 {a0 a1 a2 a3 a4 a5 a6 a7 a8 a9 : mV} {x : Int} {l : List mV} (hd : decode (mCode M) pc = .ok (.lload 10, 2)) (hq : pc + 2 = q) (k : Wp d M q (a0 :: a1 :: a2 :: a3 :: a4 :: a5 :: a6 :: a7 :: a8 :: a9 :: mL x :: l) (mL x :: S) h b Q) : Wp d M pc (a0 :: a1 :: a2 :: a3 :: a4 :: a5 :: a6 :: a7 :: a8 :: a9 :: mL x :: l) S h b Q :=
  wp_ss hd (q, (a0 :: a1 :: a2 :: a3 :: a4 :: a5 :: a6 :: a7 :: a8 :: a9 :: mL x :: l), mL x :: S, h, b) ⟨x, rfl, rfl, by rw [← hq]⟩ k
theorem wp_al10 {a0 a1 a2 a3 a4 a5 a6 a7 a8 a9 : mV} {x : Nat} {l : List mV} (hd : decode (mCode M) pc = .ok (.aload 10, 2)) (hq : pc + 2 = q) (k : Wp d M q (a0 :: a1 :: a2 :: a3 :: a4 :: a5 :: a6 :: a7 :: a8 :: a9 :: mR x :: l) (mR x :: S) h b Q) : Wp d M pc (a0 :: a1 :: a2 :: a3 :: a4 :: a5 :: a6 :: a7 :: a8 :: a9 :: mR x :: l) S h b Q :=
  wp_ss hd (q, (a0 :: a1 :: a2 :: a3 :: a4 :: a5 :: a6 :: a7 :: a8 :: a9 :: mR x :: l), mR x :: S, h, b) ⟨x, rfl, rfl, by rw [← hq]⟩ k
theorem wp_is10 {a0 a1 a2 a3 a4 a5 a6 a7 a8 a9 : mV} {c : mV} {x : Int} {l : List mV} (hd : decode (mCode M) pc = .ok (.istore 10, 2)) (hq : pc + 2 = q) (hb : mLong a9 = false) (k : Wp d M q (a0 :: a1 :: a2 :: a3 :: a4 :: a5 :: a6 :: a7 :: a8 :: a9 :: mI x :: l) S h b Q) : Wp d M pc (a0 :: a1 :: a2 :: a3 :: a4 :: a5 :: a6 :: a7 :: a8 :: a9 :: c :: l) (mI x :: S) h b Q :=
  wp_ss hd (q, (a0 :: a1 :: a2 :: a3 :: a4 :: a5 :: a6 :: a7 :: a8 :: a9 :: mI x :: l), S, h, b) ⟨x, S, rfl, rfl, by show (10 : Nat) < _; simp only [List.length_cons]; omega, Or.inr hb, by rw [← hq]; rfl⟩ k
theorem wp_as10 {a0 a1 a2 a3 a4 a5 a6 a7 a8 a9 : mV} {c : mV} {x : Nat} {l : List mV} (hd : decode (mCode M) pc = .ok (.astore 10, 2)) (hq : pc + 2 = q) (hb : mLong a9 = false) (k : Wp d M q (a0 :: a1 :: a2 :: a3 :: a4 :: a5 :: a6 :: a7 :: a8 :: a9 :: mR x :: l) S h b Q) : Wp d M pc (a0 :: a1 :: a2 :: a3 :: a4 :: a5 :: a6 :: a7 :: a8 :: a9 :: c :: l) (mR x :: S) h b Q :=
  wp_ss hd (q, (a0 :: a1 :: a2 :: a3 :: a4 :: a5 :: a6 :: a7 :: a8 :: a9 :: mR x :: l), S, h, b) ⟨x, S, rfl, rfl, by show (10 : Nat) < _; simp only [List.length_cons]; omega, Or.inr hb, by rw [← hq]; rfl⟩ k
theorem wp_ls10 {a0 a1 a2 a3 a4 a5 a6 a7 a8 a9 : mV} {c c2 : mV} {x : Int} {l : List mV} (hd : decode (mCode M) pc = .ok (.lstore 10, 2)) (hq : pc + 2 = q) (hb : mLong a9 = false) (k : Wp d M q (a0 :: a1 :: a2 :: a3 :: a4 :: a5 :: a6 :: a7 :: a8 :: a9 :: mL x :: mU :: l) S h b Q) : Wp d M pc (a0 :: a1 :: a2 :: a3 :: a4 :: a5 :: a6 :: a7 :: a8 :: a9 :: c :: c2 :: l) (mL x :: S) h b Q :=
  wp_ss hd (q, (a0 :: a1 :: a2 :: a3 :: a4 :: a5 :: a6 :: a7 :: a8 :: a9 :: mL x :: mU :: l), S, h, b) ⟨x, S, rfl, rfl, by show (10 : Nat) + 1 < _; simp only [List.length_cons]; omega, Or.inr hb, by rw [← hq]; rfl⟩ k
theorem wp_ii10 {a0 a1 a2 a3 a4 a5 a6 a7 a8 a9 : mV} {n x : Int} {l : List mV} (hd : decode (mCode M) pc = .ok (.iinc 10 n, 3)) (hq : pc + 3 = q) (hb : mLong a9 = false) (h1 : -2147483648 ≤ x + n) (h2 : x + n ≤ 2147483647) (k : Wp d M q (a0 :: a1 :: a2 :: a3 :: a4 :: a5 :: a6 :: a7 :: a8 :: a9 :: mI (x + n) :: l) S h b Q) : Wp d M pc (a0 :: a1 :: a2 :: a3 :: a4 :: a5 :: a6 :: a7 :: a8 :: a9 :: mI x :: l) S h b Q :=
  wp_ss hd (q, (a0 :: a1 :: a2 :: a3 :: a4 :: a5 :: a6 :: a7 :: a8 :: a9 :: mI (x + n) :: l), S, h, b) ⟨x, rfl, rfl, Or.inr hb, ⟨h1, h2⟩, by rw [← hq]; rfl⟩ k
theorem wp_il11 {a0 a1 a2 a3 a4 a5 a6 a7 a8 a9 a10 : mV} {x : Int} {l : List mV} (hd : decode (mCode M) pc = .ok (.iload 11, 2)) (hq : pc + 2 = q) (k : Wp d M q (a0 :: a1 :: a2 :: a3 :: a4 :: a5 :: a6 :: a7 :: a8 :: a9 :: a10 :: mI x :: l) (mI x :: S) h b Q) : Wp d M pc (a0 :: a1 :: a2 :: a3 :: a4 :: a5 :: a6 :: a7 :: a8 :: a9 :: a10 :: mI x :: l) S h b Q :=
  wp_ss hd (q, (a0 :: a1 :: a2 :: a3 :: a4 :: a5 :: a6 :: a7 :: a8 :: a9 :: a10 :: mI x :: l), mI x :: S, h, b) ⟨x, rfl, rfl, by rw [← hq]⟩ k
theorem wp_ll11 {a0 a1 a2 a3 a4 a5 a6 a7 a8 a9 a10 : mV} {x : Int} {l : List mV} (hd : decode (mCode M) pc = .ok (.lload 11, 2)) (hq : pc + 2 = q) (k : Wp d M q (a0 :: a1 :: a2 :: a3 :: a4 :: a5 :: a6 :: a7 :: a8 :: a9 :: a10 :: mL x :: l) (mL x :: S) h b Q) : Wp d M pc (a0 :: a1 :: a2 :: a3 :: a4 :: a5 :: a6 :: a7 :: a8 :: a9 :: a10 :: mL x :: l) S h b Q :=
  wp_ss hd (q, (a0 :: a1 :: a2 :: a3 :: a4 :: a5 :: a6 :: a7 :: a8 :: a9 :: a10 :: mL x :: l), mL x :: S, h, b) ⟨x, rfl, rfl, by rw [← hq]⟩ k
theorem wp_al11 {a0 a1 a2 a3 a4 a5 a6 a7 a8 a9 a10 : mV} {x : Nat} {l : List mV} (hd : decode (mCode M) pc = .ok (.aload 11, 2)) (hq : pc + 2 = q) (k : Wp d M q (a0 :: a1 :: a2 :: a3 :: a4 :: a5 :: a6 :: a7 :: a8 :: a9 :: a10 :: mR x :: l) (mR x :: S) h b Q) : Wp d M pc (a0 :: a1 :: a2 :: a3 :: a4 :: a5 :: a6 :: a7 :: a8 :: a9 :: a10 :: mR x :: l) S h b Q :=
  wp_ss hd (q, (a0 :: a1 :: a2 :: a3 :: a4 :: a5 :: a6 :: a7 :: a8 :: a9 :: a10 :: mR x :: l), mR x :: S, h, b) ⟨x, rfl, rfl, by rw [← hq]⟩ k
theorem wp_is11 {a0 a1 a2 a3 a4 a5 a6 a7 a8 a9 a10 : mV} {c : mV} {x : Int} {l : List mV} (hd : decode (mCode M) pc = .ok (.istore 11, 2)) (hq : pc + 2 = q) (hb : mLong a10 = false) (k : Wp d M q (a0 :: a1 :: a2 :: a3 :: a4 :: a5 :: a6 :: a7 :: a8 :: a9 :: a10 :: mI x :: l) S h b Q) : Wp d M pc (a0 :: a1 :: a2 :: a3 :: a4 :: a5 :: a6 :: a7 :: a8 :: a9 :: a10 :: c :: l) (mI x :: S) h b Q :=
  wp_ss hd (q, (a0 :: a1 :: a2 :: a3 :: a4 :: a5 :: a6 :: a7 :: a8 :: a9 :: a10 :: mI x :: l), S, h, b) ⟨x, S, rfl, rfl, by show (11 : Nat) < _; simp only [List.length_cons]; omega, Or.inr hb, by rw [← hq]; rfl⟩ k
theorem wp_as11 {a0 a1 a2 a3 a4 a5 a6 a7 a8 a9 a10 : mV} {c : mV} {x : Nat} {l : List mV} (hd : decode (mCode M) pc = .ok (.astore 11, 2)) (hq : pc + 2 = q) (hb : mLong a10 = false) (k : Wp d M q (a0 :: a1 :: a2 :: a3 :: a4 :: a5 :: a6 :: a7 :: a8 :: a9 :: a10 :: mR x :: l) S h b Q) : Wp d M pc (a0 :: a1 :: a2 :: a3 :: a4 :: a5 :: a6 :: a7 :: a8 :: a9 :: a10 :: c :: l) (mR x :: S) h b Q :=
  wp_ss hd (q, (a0 :: a1 :: a2 :: a3 :: a4 :: a5 :: a6 :: a7 :: a8 :: a9 :: a10 :: mR x :: l), S, h, b) ⟨x, S, rfl, rfl, by show (11 : Nat) < _; simp only [List.length_cons]; omega, Or.inr hb, by rw [← hq]; rfl⟩ k
theorem wp_ls11 {a0 a1 a2 a3 a4 a5 a6 a7 a8 a9 a10 : mV} {c c2 : mV} {x : Int} {l : List mV} (hd : decode (mCode M) pc = .ok (.lstore 11, 2)) (hq : pc + 2 = q) (hb : mLong a10 = false) (k : Wp d M q (a0 :: a1 :: a2 :: a3 :: a4 :: a5 :: a6 :: a7 :: a8 :: a9 :: a10 :: mL x :: mU :: l) S h b Q) : Wp d M pc (a0 :: a1 :: a2 :: a3 :: a4 :: a5 :: a6 :: a7 :: a8 :: a9 :: a10 :: c :: c2 :: l) (mL x :: S) h b Q :=
  wp_ss hd (q, (a0 :: a1 :: a2 :: a3 :: a4 :: a5 :: a6 :: a7 :: a8 :: a9 :: a10 :: mL x :: mU :: l), S, h, b) ⟨x, S, rfl, rfl, by show (11 : Nat) + 1 < _; simp only [List.length_cons]; omega, Or.inr hb, by rw [← hq]; rfl⟩ k
theorem wp_ii11 {a0 a1 a2 a3 a4 a5 a6 a7 a8 a9 a10 : mV} {n x : Int} {l : List mV} (hd : decode (mCode M) pc = .ok (.iinc 11 n, 3)) (hq : pc + 3 = q) (hb : mLong a10 = false) (h1 : -2147483648 ≤ x + n) (h2 : x + n ≤ 2147483647) (k : Wp d M q (a0 :: a1 :: a2 :: a3 :: a4 :: a5 :: a6 :: a7 :: a8 :: a9 :: a10 :: mI (x + n) :: l) S h b Q) : Wp d M pc (a0 :: a1 :: a2 :: a3 :: a4 :: a5 :: a6 :: a7 :: a8 :: a9 :: a10 :: mI x :: l) S h b Q :=
  wp_ss hd (q, (a0 :: a1 :: a2 :: a3 :: a4 :: a5 :: a6 :: a7 :: a8 :: a9 :: a10 :: mI (x + n) :: l), S, h, b) ⟨x, rfl, rfl, Or.inr hb, ⟨h1, h2⟩, by rw [← hq]; rfl⟩ k
theorem wp_il12 {a0 a1 a2 a3 a4 a5 a6 a7 a8 a9 a10 a11 : mV} {x : Int} {l : List mV} (hd : decode (mCode M) pc = .ok (.iload 12, 2)) (hq : pc + 2 = q) (k : Wp d M q (a0 :: a1 :: a2 :: a3 :: a4 :: a5 :: a6 :: a7 :: a8 :: a9 :: a10 :: a11 :: mI x :: l) (mI x :: S) h b Q) : Wp d M pc (a0 :: a1 :: a2 :: a3 :: a4 :: a5 :: a6 :: a7 :: a8 :: a9 :: a10 :: a11 :: mI x :: l) S h b Q :=
  wp_ss hd (q, (a0 :: a1 :: a2 :: a3 :: a4 :: a5 :: a6 :: a7 :: a8 :: a9 :: a10 :: a11 :: mI x :: l), mI x :: S, h, b) ⟨x, rfl, rfl, by rw [← hq]⟩ k
theorem wp_ll12 {a0 a1 a2 a3 a4 a5 a6 a7 a8 a9 a10 a11 : mV} {x : Int} {l : List mV} (hd : decode (mCode M) pc = .ok (.lload 12, 2)) (hq : pc + 2 = q) (k : Wp d M q (a0 :: a1 :: a2 :: a3 :: a4 :: a5 :: a6 :: a7 :: a8 :: a9 :: a10 :: a11 :: mL x :: l) (mL x :: S) h b Q) : Wp d M pc (a0 :: a1 :: a2 :: a3 :: a4 :: a5 :: a6 :: a7 :: a8 :: a9 :: a10 :: a11 :: mL x :: l) S h b Q :=
  wp_ss hd (q, (a0 :: a1 :: a2 :: a3 :: a4 :: a5 :: a6 :: a7 :: a8 :: a9 :: a10 :: a11 :: mL x :: l), mL x :: S, h, b) ⟨x, rfl, rfl, by rw [← hq]⟩ k
theorem wp_al12 {a0 a1 a2 a3 a4 a5 a6 a7 a8 a9 a10 a11 : mV} {x : Nat} {l : List mV} (hd : decode (mCode M) pc = .ok (.aload 12, 2)) (hq : pc + 2 = q) (k : Wp d M q (a0 :: a1 :: a2 :: a3 :: a4 :: a5 :: a6 :: a7 :: a8 :: a9 :: a10 :: a11 :: mR x :: l) (mR x :: S) h b Q) : Wp d M pc (a0 :: a1 :: a2 :: a3 :: a4 :: a5 :: a6 :: a7 :: a8 :: a9 :: a10 :: a11 :: mR x :: l) S h b Q :=
  wp_ss hd (q, (a0 :: a1 :: a2 :: a3 :: a4 :: a5 :: a6 :: a7 :: a8 :: a9 :: a10 :: a11 :: mR x :: l), mR x :: S, h, b) ⟨x, rfl, rfl, by rw [← hq]⟩ k
theorem wp_is12 {a0 a1 a2 a3 a4 a5 a6 a7 a8 a9 a10 a11 : mV} {c : mV} {x : Int} {l : List mV} (hd : decode (mCode M) pc = .ok (.istore 12, 2)) (hq : pc + 2 = q) (hb : mLong a11 = false) (k : Wp d M q (a0 :: a1 :: a2 :: a3 :: a4 :: a5 :: a6 :: a7 :: a8 :: a9 :: a10 :: a11 :: mI x :: l) S h b Q) : Wp d M pc (a0 :: a1 :: a2 :: a3 :: a4 :: a5 :: a6 :: a7 :: a8 :: a9 :: a10 :: a11 :: c :: l) (mI x :: S) h b Q :=
  wp_ss hd (q, (a0 :: a1 :: a2 :: a3 :: a4 :: a5 :: a6 :: a7 :: a8 :: a9 :: a10 :: a11 :: mI x :: l), S, h, b) ⟨x, S, rfl, rfl, by show (12 : Nat) < _; simp only [List.length_cons]; omega, Or.inr hb, by rw [← hq]; rfl⟩ k
theorem wp_as12 {a0 a1 a2 a3 a4 a5 a6 a7 a8 a9 a10 a11 : mV} {c : mV} {x : Nat} {l : List mV} (hd : decode (mCode M) pc = .ok (.astore 12, 2)) (hq : pc + 2 = q) (hb : mLong a11 = false) (k : Wp d M q (a0 :: a1 :: a2 :: a3 :: a4 :: a5 :: a6 :: a7 :: a8 :: a9 :: a10 :: a11 :: mR x :: l) S h b Q) : Wp d M pc (a0 :: a1 :: a2 :: a3 :: a4 :: a5 :: a6 :: a7 :: a8 :: a9 :: a10 :: a11 :: c :: l) (mR x :: S) h b Q :=
  wp_ss hd (q, (a0 :: a1 :: a2 :: a3 :: a4 :: a5 :: a6 :: a7 :: a8 :: a9 :: a10 :: a11 :: mR x :: l), S, h, b) ⟨x, S, rfl, rfl, by show (12 : Nat) < _; simp only [List.length_cons]; omega, Or.inr hb, by rw [← hq]; rfl⟩ k
theorem wp_ls12 {a0 a1 a2 a3 a4 a5 a6 a7 a8 a9 a10 a11 : mV} {c c2 : mV} {x : Int} {l : List mV} (hd : decode (mCode M) pc = .ok (.lstore 12, 2)) (hq : pc + 2 = q) (hb : mLong a11 = false) (k : Wp d M q (a0 :: a1 :: a2 :: a3 :: a4 :: a5 :: a6 :: a7 :: a8 :: a9 :: a10 :: a11 :: mL x :: mU :: l) S h b Q) : Wp d M pc (a0 :: a1 :: a2 :: a3 :: a4 :: a5 :: a6 :: a7 :: a8 :: a9 :: a10 :: a11 :: c :: c2 :: l) (mL x :: S) h b Q :=
  wp_ss hd (q, (a0 :: a1 :: a2 :: a3 :: a4 :: a5 :: a6 :: a7 :: a8 :: a9 :: a10 :: a11 :: mL x :: mU :: l), S, h, b) ⟨x, S, rfl, rfl, by show (12 : Nat) + 1 < _; simp only [List.length_cons]; omega, Or.inr hb, by rw [← hq]; rfl⟩ k
theorem wp_ii12 {a0 a1 a2 a3 a4 a5 a6 a7 a8 a9 a10 a11 : mV} {n x : Int} {l : List mV} (hd : decode (mCode M) pc = .ok (.iinc 12 n, 3)) (hq : pc + 3 = q) (hb : mLong a11 = false) (h1 : -2147483648 ≤ x + n) (h2 : x + n ≤ 2147483647) (k : Wp d M q (a0 :: a1 :: a2 :: a3 :: a4 :: a5 :: a6 :: a7 :: a8 :: a9 :: a10 :: a11 :: mI (x + n) :: l) S h b Q) : Wp d M pc (a0 :: a1 :: a2 :: a3 :: a4 :: a5 :: a6 :: a7 :: a8 :: a9 :: a10 :: a11 :: mI x :: l) S h b Q :=
  wp_ss hd (q, (a0 :: a1 :: a2 :: a3 :: a4 :: a5 :: a6 :: a7 :: a8 :: a9 :: a10 :: a11 :: mI (x + n) :: l), S, h, b) ⟨x, rfl, rfl, Or.inr hb, ⟨h1, h2⟩, by rw [← hq]; rfl⟩ k
theorem wp_ic {n : Int} (hd : decode (mCode M) pc = .ok (.iconst n, 1)) (hq : pc + 1 = q) (h1 : -2147483648 ≤ n) (h2 : n ≤ 2147483647) (k : Wp d M q L (mI n :: S) h b Q) : Wp d M pc L S h b Q :=
  wp_ss hd (q, L, mI n :: S, h, b) ⟨rfl, ⟨h1, h2⟩, by rw [← hq]⟩ k
theorem wp_bi {n : Int} (hd : decode (mCode M) pc = .ok (.bipush n, 2)) (hq : pc + 2 = q) (h1 : -128 ≤ n) (h2 : n < 128) (k : Wp d M q L (mI n :: S) h b Q) : Wp d M pc L S h b Q :=
  wp_ss hd (q, L, mI n :: S, h, b) ⟨rfl, h1, h2, by rw [← hq]⟩ k
theorem wp_si {n : Int} (hd : decode (mCode M) pc = .ok (.sipush n, 3)) (hq : pc + 3 = q) (h1 : -32768 ≤ n) (h2 : n < 32768) (k : Wp d M q L (mI n :: S) h b Q) : Wp d M pc L S h b Q :=
  wp_ss hd (q, L, mI n :: S, h, b) ⟨rfl, h1, h2, by rw [← hq]⟩ k
theorem wp_lc0  (hd : decode (mCode M) pc = .ok (.lconst 0, 1)) (hq : pc + 1 = q) (k : Wp d M q L (mL 0 :: S) h b Q) : Wp d M pc L S h b Q :=
  wp_ss hd (q, L, mL 0 :: S, h, b) ⟨rfl, by rw [← hq]; rfl⟩ k
theorem wp_lc1  (hd : decode (mCode M) pc = .ok (.lconst 1, 1)) (hq : pc + 1 = q) (k : Wp d M q L (mL 1 :: S) h b Q) : Wp d M pc L S h b Q :=
  wp_ss hd (q, L, mL 1 :: S, h, b) ⟨rfl, by rw [← hq]; rfl⟩ k
theorem wp_ldl {idx : Nat} (x : Int) (hd : decode (mCode M) pc = .ok (.ldc2_w idx, 3)) (hq : pc + 3 = q) (hw : Cond.constantLong (mN (mOwn M)) idx (Int64.ofInt x) ∈ gT) (h1 : -9223372036854775808 ≤ x) (h2 : x ≤ 9223372036854775807) (k : Wp d M q L (mL x :: S) h b Q) : Wp d M pc L S h b Q :=
  wp_ss hd (q, L, mL x :: S, h, b) ⟨x, rfl, ⟨h1, h2⟩, hw, by rw [← hq]⟩ k
theorem wp_ldi {idx : Nat} (x : Int) (hd : decode (mCode M) pc = .ok (.ldc_w idx, 3)) (hq : pc + 3 = q) (hw : Cond.constant (mN (mOwn M)) idx (Int32.ofInt x) ∈ gT) (h1 : -2147483648 ≤ x) (h2 : x ≤ 2147483647) (k : Wp d M q L (mI x :: S) h b Q) : Wp d M pc L S h b Q :=
  wp_ss hd (q, L, mI x :: S, h, b) ⟨x, rfl, ⟨h1, h2⟩, hw, by rw [← hq]⟩ k
theorem wp_iadd {x y : Int} (hd : decode (mCode M) pc = .ok (.iadd, 1)) (hq : pc + 1 = q) (h1 : -2147483648 ≤ x + y) (h2 : x + y ≤ 2147483647) (k : Wp d M q L (mI (x + y) :: S) h b Q) : Wp d M pc L (mI y :: mI x :: S) h b Q :=
  wp_ss hd (q, L, mI (x + y) :: S, h, b) ⟨x, y, S, rfl, rfl, ⟨h1, h2⟩, by rw [← hq]⟩ k
theorem wp_isub {x y : Int} (hd : decode (mCode M) pc = .ok (.isub, 1)) (hq : pc + 1 = q) (h1 : -2147483648 ≤ x - y) (h2 : x - y ≤ 2147483647) (k : Wp d M q L (mI (x - y) :: S) h b Q) : Wp d M pc L (mI y :: mI x :: S) h b Q :=
  wp_ss hd (q, L, mI (x - y) :: S, h, b) ⟨x, y, S, rfl, rfl, ⟨h1, h2⟩, by rw [← hq]⟩ k
theorem wp_imul {x y : Int} (hd : decode (mCode M) pc = .ok (.imul, 1)) (hq : pc + 1 = q) (h1 : -2147483648 ≤ x * y) (h2 : x * y ≤ 2147483647) (k : Wp d M q L (mI (x * y) :: S) h b Q) : Wp d M pc L (mI y :: mI x :: S) h b Q :=
  wp_ss hd (q, L, mI (x * y) :: S, h, b) ⟨x, y, S, rfl, rfl, ⟨h1, h2⟩, by rw [← hq]⟩ k
theorem wp_ladd {x y : Int} (hd : decode (mCode M) pc = .ok (.ladd, 1)) (hq : pc + 1 = q) (h1 : -9223372036854775808 ≤ x + y) (h2 : x + y ≤ 9223372036854775807) (k : Wp d M q L (mL (x + y) :: S) h b Q) : Wp d M pc L (mL y :: mL x :: S) h b Q :=
  wp_ss hd (q, L, mL (x + y) :: S, h, b) ⟨x, y, S, rfl, rfl, ⟨h1, h2⟩, by rw [← hq]⟩ k
theorem wp_lsub {x y : Int} (hd : decode (mCode M) pc = .ok (.lsub, 1)) (hq : pc + 1 = q) (h1 : -9223372036854775808 ≤ x - y) (h2 : x - y ≤ 9223372036854775807) (k : Wp d M q L (mL (x - y) :: S) h b Q) : Wp d M pc L (mL y :: mL x :: S) h b Q :=
  wp_ss hd (q, L, mL (x - y) :: S, h, b) ⟨x, y, S, rfl, rfl, ⟨h1, h2⟩, by rw [← hq]⟩ k
theorem wp_lmul {x y : Int} (hd : decode (mCode M) pc = .ok (.lmul, 1)) (hq : pc + 1 = q) (h1 : -9223372036854775808 ≤ x * y) (h2 : x * y ≤ 9223372036854775807) (k : Wp d M q L (mL (x * y) :: S) h b Q) : Wp d M pc L (mL y :: mL x :: S) h b Q :=
  wp_ss hd (q, L, mL (x * y) :: S, h, b) ⟨x, y, S, rfl, rfl, ⟨h1, h2⟩, by rw [← hq]⟩ k
theorem wp_idiv {x y : Int} (hd : decode (mCode M) pc = .ok (.idiv, 1)) (hq : pc + 1 = q) (h1 : 0 ≤ x) (h2 : 0 < y) (k : Wp d M q L (mI (x / y) :: S) h b Q) : Wp d M pc L (mI y :: mI x :: S) h b Q :=
  wp_ss hd (q, L, mI (x / y) :: S, h, b) ⟨x, y, S, rfl, rfl, h1, h2, by rw [← hq]⟩ k
theorem wp_irem {x y : Int} (hd : decode (mCode M) pc = .ok (.irem, 1)) (hq : pc + 1 = q) (h1 : 0 ≤ x) (h2 : 0 < y) (k : Wp d M q L (mI (x % y) :: S) h b Q) : Wp d M pc L (mI y :: mI x :: S) h b Q :=
  wp_ss hd (q, L, mI (x % y) :: S, h, b) ⟨x, y, S, rfl, rfl, h1, h2, by rw [← hq]⟩ k
theorem wp_ldiv {x y : Int} (hd : decode (mCode M) pc = .ok (.ldiv, 1)) (hq : pc + 1 = q) (h1 : 0 ≤ x) (h2 : 0 < y) (k : Wp d M q L (mL (x / y) :: S) h b Q) : Wp d M pc L (mL y :: mL x :: S) h b Q :=
  wp_ss hd (q, L, mL (x / y) :: S, h, b) ⟨x, y, S, rfl, rfl, h1, h2, by rw [← hq]⟩ k
theorem wp_lrem {x y : Int} (hd : decode (mCode M) pc = .ok (.lrem, 1)) (hq : pc + 1 = q) (h1 : 0 ≤ x) (h2 : 0 < y) (k : Wp d M q L (mL (x % y) :: S) h b Q) : Wp d M pc L (mL y :: mL x :: S) h b Q :=
  wp_ss hd (q, L, mL (x % y) :: S, h, b) ⟨x, y, S, rfl, rfl, h1, h2, by rw [← hq]⟩ k
theorem wp_iand {x y : Int} (z : Int) (hd : decode (mCode M) pc = .ok (.iand, 1)) (hq : pc + 1 = q) (hz : mAnd x y = z) (k : Wp d M q L (mI z :: S) h b Q) : Wp d M pc L (mI y :: mI x :: S) h b Q :=
  wp_ss hd (q, L, mI z :: S, h, b) ⟨x, y, S, rfl, rfl, by rw [← hq, ← hz]⟩ k
theorem wp_ior {x y : Int} (z : Int) (hd : decode (mCode M) pc = .ok (.ior, 1)) (hq : pc + 1 = q) (hz : mOr x y = z) (k : Wp d M q L (mI z :: S) h b Q) : Wp d M pc L (mI y :: mI x :: S) h b Q :=
  wp_ss hd (q, L, mI z :: S, h, b) ⟨x, y, S, rfl, rfl, by rw [← hq, ← hz]⟩ k
theorem wp_ishl {x y : Int} (z : Int) (hd : decode (mCode M) pc = .ok (.ishl, 1)) (hq : pc + 1 = q) (hz : mShl x y = z) (k : Wp d M q L (mI z :: S) h b Q) : Wp d M pc L (mI y :: mI x :: S) h b Q :=
  wp_ss hd (q, L, mI z :: S, h, b) ⟨x, y, S, rfl, rfl, by rw [← hq, ← hz]⟩ k
theorem wp_ishr {x y : Int} (z : Int) (hd : decode (mCode M) pc = .ok (.ishr, 1)) (hq : pc + 1 = q) (hz : mShr x y = z) (k : Wp d M q L (mI z :: S) h b Q) : Wp d M pc L (mI y :: mI x :: S) h b Q :=
  wp_ss hd (q, L, mI z :: S, h, b) ⟨x, y, S, rfl, rfl, by rw [← hq, ← hz]⟩ k
theorem wp_iushr {x y : Int} (z : Int) (hd : decode (mCode M) pc = .ok (.iushr, 1)) (hq : pc + 1 = q) (hz : mUshr x y = z) (k : Wp d M q L (mI z :: S) h b Q) : Wp d M pc L (mI y :: mI x :: S) h b Q :=
  wp_ss hd (q, L, mI z :: S, h, b) ⟨x, y, S, rfl, rfl, by rw [← hq, ← hz]⟩ k
theorem wp_ineg {x : Int} (hd : decode (mCode M) pc = .ok (.ineg, 1)) (hq : pc + 1 = q) (h1 : -2147483648 ≤ -x) (h2 : -x ≤ 2147483647) (k : Wp d M q L (mI (-x) :: S) h b Q) : Wp d M pc L (mI x :: S) h b Q :=
  wp_ss hd (q, L, mI (-x) :: S, h, b) ⟨x, S, rfl, rfl, ⟨h1, h2⟩, by rw [← hq]⟩ k
theorem wp_i2l {x : Int} (hd : decode (mCode M) pc = .ok (.i2l, 1)) (hq : pc + 1 = q) (k : Wp d M q L (mL x :: S) h b Q) : Wp d M pc L (mI x :: S) h b Q :=
  wp_ss hd (q, L, mL x :: S, h, b) ⟨x, S, rfl, rfl, by rw [← hq]⟩ k
theorem wp_dupI {x : Int} (hd : decode (mCode M) pc = .ok (.dup, 1)) (hq : pc + 1 = q) (k : Wp d M q L (mI x :: mI x :: S) h b Q) : Wp d M pc L (mI x :: S) h b Q :=
  wp_ss hd (q, L, mI x :: mI x :: S, h, b) ⟨_, S, rfl, rfl, rfl, by rw [← hq]⟩ k
theorem wp_dupR {x : Nat} (hd : decode (mCode M) pc = .ok (.dup, 1)) (hq : pc + 1 = q) (k : Wp d M q L (mR x :: mR x :: S) h b Q) : Wp d M pc L (mR x :: S) h b Q :=
  wp_ss hd (q, L, mR x :: mR x :: S, h, b) ⟨_, S, rfl, rfl, rfl, by rw [← hq]⟩ k
theorem wp_dup2 {x : Int} {y : Nat} (hd : decode (mCode M) pc = .ok (.dup2, 1)) (hq : pc + 1 = q) (k : Wp d M q L (mI x :: mR y :: mI x :: mR y :: S) h b Q) : Wp d M pc L (mI x :: mR y :: S) h b Q :=
  wp_ss hd (q, L, mI x :: mR y :: mI x :: mR y :: S, h, b) ⟨_, _, S, rfl, rfl, rfl, rfl, by rw [← hq]⟩ k
theorem wp_goto {off : Int} (hd : decode (mCode M) pc = .ok (.goto off, 3)) (hq : (pc : Int) + off = (q : Int)) (k : Wp d M q L S h b Q) : Wp d M pc L S h b Q :=
  wp_ss hd (q, L, S, h, b) ⟨q, rfl, hq, rfl⟩ k
theorem wp_icmp_eq {x y : Int} {off : Int} {t : Nat} (hd : decode (mCode M) pc = .ok (.if_icmp .eq off, 3)) (ht : (pc : Int) + off = (t : Int)) (hq : pc + 3 = q) (kt : x = y → Wp d M t L S h b Q) (kf : x ≠ y → Wp d M q L S h b Q) : Wp d M pc L (mI y :: mI x :: S) h b Q := by
  by_cases hc : x = y
  · exact wp_ss hd (t, L, S, h, b) (by
      have e : mCmp .eq x y = true := by simp only [mCmp, decide_eq_true_eq]; exact hc
      have z : mSS d (mOwn M) ((mY M).name = "<init>") (.if_icmp .eq off) 3 pc L (mI y :: mI x :: S) h b (if mCmp .eq x y = true then t else pc + 3, L, S, h, b) := ⟨x, y, S, t, rfl, rfl, ht, rfl⟩
      rw [if_pos e] at z
      exact z) (kt hc)
  · exact wp_ss hd (q, L, S, h, b) (by
      have e : ¬ mCmp .eq x y = true := by simp only [mCmp, decide_eq_true_eq]; exact hc
      have z : mSS d (mOwn M) ((mY M).name = "<init>") (.if_icmp .eq off) 3 pc L (mI y :: mI x :: S) h b (if mCmp .eq x y = true then t else pc + 3, L, S, h, b) := ⟨x, y, S, t, rfl, rfl, ht, rfl⟩
      rw [if_neg e, hq] at z
      exact z) (kf (by omega))
theorem wp_if_eq {x : Int} {off : Int} {t : Nat} (hd : decode (mCode M) pc = .ok (.ifCond .eq off, 3)) (ht : (pc : Int) + off = (t : Int)) (hq : pc + 3 = q) (kt : x = 0 → Wp d M t L S h b Q) (kf : x ≠ 0 → Wp d M q L S h b Q) : Wp d M pc L (mI x :: S) h b Q := by
  by_cases hc : x = 0
  · exact wp_ss hd (t, L, S, h, b) (by
      have e : mCmp .eq x 0 = true := by simp only [mCmp, decide_eq_true_eq]; exact hc
      have z : mSS d (mOwn M) ((mY M).name = "<init>") (.ifCond .eq off) 3 pc L (mI x :: S) h b (if mCmp .eq x 0 = true then t else pc + 3, L, S, h, b) := ⟨x, S, t, rfl, rfl, ht, rfl⟩
      rw [if_pos e] at z
      exact z) (kt hc)
  · exact wp_ss hd (q, L, S, h, b) (by
      have e : ¬ mCmp .eq x 0 = true := by simp only [mCmp, decide_eq_true_eq]; exact hc
      have z : mSS d (mOwn M) ((mY M).name = "<init>") (.ifCond .eq off) 3 pc L (mI x :: S) h b (if mCmp .eq x 0 = true then t else pc + 3, L, S, h, b) := ⟨x, S, t, rfl, rfl, ht, rfl⟩
      rw [if_neg e, hq] at z
      exact z) (kf (by omega))
theorem wp_lcmp_eq {x y : Int} {off : Int} {t q1 : Nat} (hd : decode (mCode M) pc = .ok (.lcmp, 1)) (hq1 : pc + 1 = q1) (hd2 : decode (mCode M) q1 = .ok (.ifCond .eq off, 3)) (ht : (q1 : Int) + off = (t : Int)) (hq : q1 + 3 = q) (kt : x = y → Wp d M t L S h b Q) (kf : x ≠ y → Wp d M q L S h b Q) : Wp d M pc L (mL y :: mL x :: S) h b Q := by
  refine wp_ss hd (q1, L, mI (if y < x then 1 else if x = y then 0 else -1) :: S, h, b) ⟨x, y, S, rfl, rfl, by rw [← hq1]⟩ ?_
  refine wp_if_eq hd2 ht hq (fun z => kt ?_) (fun z => kf ?_)
  all_goals
    by_cases h1 : y < x
    · rw [if_pos h1] at z; omega
    · by_cases h2 : x = y
      · rw [if_neg h1, if_pos h2] at z; omega
      · rw [if_neg h1, if_neg h2] at z; omega
theorem wp_icmp_ne {x y : Int} {off : Int} {t : Nat} (hd : decode (mCode M) pc = .ok (.if_icmp .ne off, 3)) (ht : (pc : Int) + off = (t : Int)) (hq : pc + 3 = q) (kt : x ≠ y → Wp d M t L S h b Q) (kf : x = y → Wp d M q L S h b Q) : Wp d M pc L (mI y :: mI x :: S) h b Q := by
  by_cases hc : x ≠ y
  · exact wp_ss hd (t, L, S, h, b) (by
      have e : mCmp .ne x y = true := by simp only [mCmp, decide_eq_true_eq]; exact hc
      have z : mSS d (mOwn M) ((mY M).name = "<init>") (.if_icmp .ne off) 3 pc L (mI y :: mI x :: S) h b (if mCmp .ne x y = true then t else pc + 3, L, S, h, b) := ⟨x, y, S, t, rfl, rfl, ht, rfl⟩
      rw [if_pos e] at z
      exact z) (kt hc)
  · exact wp_ss hd (q, L, S, h, b) (by
      have e : ¬ mCmp .ne x y = true := by simp only [mCmp, decide_eq_true_eq]; exact hc
      have z : mSS d (mOwn M) ((mY M).name = "<init>") (.if_icmp .ne off) 3 pc L (mI y :: mI x :: S) h b (if mCmp .ne x y = true then t else pc + 3, L, S, h, b) := ⟨x, y, S, t, rfl, rfl, ht, rfl⟩
      rw [if_neg e, hq] at z
      exact z) (kf (by omega))
theorem wp_if_ne {x : Int} {off : Int} {t : Nat} (hd : decode (mCode M) pc = .ok (.ifCond .ne off, 3)) (ht : (pc : Int) + off = (t : Int)) (hq : pc + 3 = q) (kt : x ≠ 0 → Wp d M t L S h b Q) (kf : x = 0 → Wp d M q L S h b Q) : Wp d M pc L (mI x :: S) h b Q := by
  by_cases hc : x ≠ 0
  · exact wp_ss hd (t, L, S, h, b) (by
      have e : mCmp .ne x 0 = true := by simp only [mCmp, decide_eq_true_eq]; exact hc
      have z : mSS d (mOwn M) ((mY M).name = "<init>") (.ifCond .ne off) 3 pc L (mI x :: S) h b (if mCmp .ne x 0 = true then t else pc + 3, L, S, h, b) := ⟨x, S, t, rfl, rfl, ht, rfl⟩
      rw [if_pos e] at z
      exact z) (kt hc)
  · exact wp_ss hd (q, L, S, h, b) (by
      have e : ¬ mCmp .ne x 0 = true := by simp only [mCmp, decide_eq_true_eq]; exact hc
      have z : mSS d (mOwn M) ((mY M).name = "<init>") (.ifCond .ne off) 3 pc L (mI x :: S) h b (if mCmp .ne x 0 = true then t else pc + 3, L, S, h, b) := ⟨x, S, t, rfl, rfl, ht, rfl⟩
      rw [if_neg e, hq] at z
      exact z) (kf (by omega))
theorem wp_lcmp_ne {x y : Int} {off : Int} {t q1 : Nat} (hd : decode (mCode M) pc = .ok (.lcmp, 1)) (hq1 : pc + 1 = q1) (hd2 : decode (mCode M) q1 = .ok (.ifCond .ne off, 3)) (ht : (q1 : Int) + off = (t : Int)) (hq : q1 + 3 = q) (kt : x ≠ y → Wp d M t L S h b Q) (kf : x = y → Wp d M q L S h b Q) : Wp d M pc L (mL y :: mL x :: S) h b Q := by
  refine wp_ss hd (q1, L, mI (if y < x then 1 else if x = y then 0 else -1) :: S, h, b) ⟨x, y, S, rfl, rfl, by rw [← hq1]⟩ ?_
  refine wp_if_ne hd2 ht hq (fun z => kt ?_) (fun z => kf ?_)
  all_goals
    by_cases h1 : y < x
    · rw [if_pos h1] at z; omega
    · by_cases h2 : x = y
      · rw [if_neg h1, if_pos h2] at z; omega
      · rw [if_neg h1, if_neg h2] at z; omega
theorem wp_icmp_lt {x y : Int} {off : Int} {t : Nat} (hd : decode (mCode M) pc = .ok (.if_icmp .lt off, 3)) (ht : (pc : Int) + off = (t : Int)) (hq : pc + 3 = q) (kt : x < y → Wp d M t L S h b Q) (kf : y ≤ x → Wp d M q L S h b Q) : Wp d M pc L (mI y :: mI x :: S) h b Q := by
  by_cases hc : x < y
  · exact wp_ss hd (t, L, S, h, b) (by
      have e : mCmp .lt x y = true := by simp only [mCmp, decide_eq_true_eq]; exact hc
      have z : mSS d (mOwn M) ((mY M).name = "<init>") (.if_icmp .lt off) 3 pc L (mI y :: mI x :: S) h b (if mCmp .lt x y = true then t else pc + 3, L, S, h, b) := ⟨x, y, S, t, rfl, rfl, ht, rfl⟩
      rw [if_pos e] at z
      exact z) (kt hc)
  · exact wp_ss hd (q, L, S, h, b) (by
      have e : ¬ mCmp .lt x y = true := by simp only [mCmp, decide_eq_true_eq]; exact hc
      have z : mSS d (mOwn M) ((mY M).name = "<init>") (.if_icmp .lt off) 3 pc L (mI y :: mI x :: S) h b (if mCmp .lt x y = true then t else pc + 3, L, S, h, b) := ⟨x, y, S, t, rfl, rfl, ht, rfl⟩
      rw [if_neg e, hq] at z
      exact z) (kf (by omega))
theorem wp_if_lt {x : Int} {off : Int} {t : Nat} (hd : decode (mCode M) pc = .ok (.ifCond .lt off, 3)) (ht : (pc : Int) + off = (t : Int)) (hq : pc + 3 = q) (kt : x < 0 → Wp d M t L S h b Q) (kf : 0 ≤ x → Wp d M q L S h b Q) : Wp d M pc L (mI x :: S) h b Q := by
  by_cases hc : x < 0
  · exact wp_ss hd (t, L, S, h, b) (by
      have e : mCmp .lt x 0 = true := by simp only [mCmp, decide_eq_true_eq]; exact hc
      have z : mSS d (mOwn M) ((mY M).name = "<init>") (.ifCond .lt off) 3 pc L (mI x :: S) h b (if mCmp .lt x 0 = true then t else pc + 3, L, S, h, b) := ⟨x, S, t, rfl, rfl, ht, rfl⟩
      rw [if_pos e] at z
      exact z) (kt hc)
  · exact wp_ss hd (q, L, S, h, b) (by
      have e : ¬ mCmp .lt x 0 = true := by simp only [mCmp, decide_eq_true_eq]; exact hc
      have z : mSS d (mOwn M) ((mY M).name = "<init>") (.ifCond .lt off) 3 pc L (mI x :: S) h b (if mCmp .lt x 0 = true then t else pc + 3, L, S, h, b) := ⟨x, S, t, rfl, rfl, ht, rfl⟩
      rw [if_neg e, hq] at z
      exact z) (kf (by omega))
theorem wp_lcmp_lt {x y : Int} {off : Int} {t q1 : Nat} (hd : decode (mCode M) pc = .ok (.lcmp, 1)) (hq1 : pc + 1 = q1) (hd2 : decode (mCode M) q1 = .ok (.ifCond .lt off, 3)) (ht : (q1 : Int) + off = (t : Int)) (hq : q1 + 3 = q) (kt : x < y → Wp d M t L S h b Q) (kf : y ≤ x → Wp d M q L S h b Q) : Wp d M pc L (mL y :: mL x :: S) h b Q := by
  refine wp_ss hd (q1, L, mI (if y < x then 1 else if x = y then 0 else -1) :: S, h, b) ⟨x, y, S, rfl, rfl, by rw [← hq1]⟩ ?_
  refine wp_if_lt hd2 ht hq (fun z => kt ?_) (fun z => kf ?_)
  all_goals
    by_cases h1 : y < x
    · rw [if_pos h1] at z; omega
    · by_cases h2 : x = y
      · rw [if_neg h1, if_pos h2] at z; omega
      · rw [if_neg h1, if_neg h2] at z; omega
theorem wp_icmp_ge {x y : Int} {off : Int} {t : Nat} (hd : decode (mCode M) pc = .ok (.if_icmp .ge off, 3)) (ht : (pc : Int) + off = (t : Int)) (hq : pc + 3 = q) (kt : y ≤ x → Wp d M t L S h b Q) (kf : x < y → Wp d M q L S h b Q) : Wp d M pc L (mI y :: mI x :: S) h b Q := by
  by_cases hc : y ≤ x
  · exact wp_ss hd (t, L, S, h, b) (by
      have e : mCmp .ge x y = true := by simp only [mCmp, decide_eq_true_eq]; exact hc
      have z : mSS d (mOwn M) ((mY M).name = "<init>") (.if_icmp .ge off) 3 pc L (mI y :: mI x :: S) h b (if mCmp .ge x y = true then t else pc + 3, L, S, h, b) := ⟨x, y, S, t, rfl, rfl, ht, rfl⟩
      rw [if_pos e] at z
      exact z) (kt hc)
  · exact wp_ss hd (q, L, S, h, b) (by
      have e : ¬ mCmp .ge x y = true := by simp only [mCmp, decide_eq_true_eq]; exact hc
      have z : mSS d (mOwn M) ((mY M).name = "<init>") (.if_icmp .ge off) 3 pc L (mI y :: mI x :: S) h b (if mCmp .ge x y = true then t else pc + 3, L, S, h, b) := ⟨x, y, S, t, rfl, rfl, ht, rfl⟩
      rw [if_neg e, hq] at z
      exact z) (kf (by omega))
theorem wp_if_ge {x : Int} {off : Int} {t : Nat} (hd : decode (mCode M) pc = .ok (.ifCond .ge off, 3)) (ht : (pc : Int) + off = (t : Int)) (hq : pc + 3 = q) (kt : 0 ≤ x → Wp d M t L S h b Q) (kf : x < 0 → Wp d M q L S h b Q) : Wp d M pc L (mI x :: S) h b Q := by
  by_cases hc : 0 ≤ x
  · exact wp_ss hd (t, L, S, h, b) (by
      have e : mCmp .ge x 0 = true := by simp only [mCmp, decide_eq_true_eq]; exact hc
      have z : mSS d (mOwn M) ((mY M).name = "<init>") (.ifCond .ge off) 3 pc L (mI x :: S) h b (if mCmp .ge x 0 = true then t else pc + 3, L, S, h, b) := ⟨x, S, t, rfl, rfl, ht, rfl⟩
      rw [if_pos e] at z
      exact z) (kt hc)
  · exact wp_ss hd (q, L, S, h, b) (by
      have e : ¬ mCmp .ge x 0 = true := by simp only [mCmp, decide_eq_true_eq]; exact hc
      have z : mSS d (mOwn M) ((mY M).name = "<init>") (.ifCond .ge off) 3 pc L (mI x :: S) h b (if mCmp .ge x 0 = true then t else pc + 3, L, S, h, b) := ⟨x, S, t, rfl, rfl, ht, rfl⟩
      rw [if_neg e, hq] at z
      exact z) (kf (by omega))
theorem wp_lcmp_ge {x y : Int} {off : Int} {t q1 : Nat} (hd : decode (mCode M) pc = .ok (.lcmp, 1)) (hq1 : pc + 1 = q1) (hd2 : decode (mCode M) q1 = .ok (.ifCond .ge off, 3)) (ht : (q1 : Int) + off = (t : Int)) (hq : q1 + 3 = q) (kt : y ≤ x → Wp d M t L S h b Q) (kf : x < y → Wp d M q L S h b Q) : Wp d M pc L (mL y :: mL x :: S) h b Q := by
  refine wp_ss hd (q1, L, mI (if y < x then 1 else if x = y then 0 else -1) :: S, h, b) ⟨x, y, S, rfl, rfl, by rw [← hq1]⟩ ?_
  refine wp_if_ge hd2 ht hq (fun z => kt ?_) (fun z => kf ?_)
  all_goals
    by_cases h1 : y < x
    · rw [if_pos h1] at z; omega
    · by_cases h2 : x = y
      · rw [if_neg h1, if_pos h2] at z; omega
      · rw [if_neg h1, if_neg h2] at z; omega
theorem wp_icmp_gt {x y : Int} {off : Int} {t : Nat} (hd : decode (mCode M) pc = .ok (.if_icmp .gt off, 3)) (ht : (pc : Int) + off = (t : Int)) (hq : pc + 3 = q) (kt : y < x → Wp d M t L S h b Q) (kf : x ≤ y → Wp d M q L S h b Q) : Wp d M pc L (mI y :: mI x :: S) h b Q := by
  by_cases hc : y < x
  · exact wp_ss hd (t, L, S, h, b) (by
      have e : mCmp .gt x y = true := by simp only [mCmp, decide_eq_true_eq]; exact hc
      have z : mSS d (mOwn M) ((mY M).name = "<init>") (.if_icmp .gt off) 3 pc L (mI y :: mI x :: S) h b (if mCmp .gt x y = true then t else pc + 3, L, S, h, b) := ⟨x, y, S, t, rfl, rfl, ht, rfl⟩
      rw [if_pos e] at z
      exact z) (kt hc)
  · exact wp_ss hd (q, L, S, h, b) (by
      have e : ¬ mCmp .gt x y = true := by simp only [mCmp, decide_eq_true_eq]; exact hc
      have z : mSS d (mOwn M) ((mY M).name = "<init>") (.if_icmp .gt off) 3 pc L (mI y :: mI x :: S) h b (if mCmp .gt x y = true then t else pc + 3, L, S, h, b) := ⟨x, y, S, t, rfl, rfl, ht, rfl⟩
      rw [if_neg e, hq] at z
      exact z) (kf (by omega))
theorem wp_if_gt {x : Int} {off : Int} {t : Nat} (hd : decode (mCode M) pc = .ok (.ifCond .gt off, 3)) (ht : (pc : Int) + off = (t : Int)) (hq : pc + 3 = q) (kt : 0 < x → Wp d M t L S h b Q) (kf : x ≤ 0 → Wp d M q L S h b Q) : Wp d M pc L (mI x :: S) h b Q := by
  by_cases hc : 0 < x
  · exact wp_ss hd (t, L, S, h, b) (by
      have e : mCmp .gt x 0 = true := by simp only [mCmp, decide_eq_true_eq]; exact hc
      have z : mSS d (mOwn M) ((mY M).name = "<init>") (.ifCond .gt off) 3 pc L (mI x :: S) h b (if mCmp .gt x 0 = true then t else pc + 3, L, S, h, b) := ⟨x, S, t, rfl, rfl, ht, rfl⟩
      rw [if_pos e] at z
      exact z) (kt hc)
  · exact wp_ss hd (q, L, S, h, b) (by
      have e : ¬ mCmp .gt x 0 = true := by simp only [mCmp, decide_eq_true_eq]; exact hc
      have z : mSS d (mOwn M) ((mY M).name = "<init>") (.ifCond .gt off) 3 pc L (mI x :: S) h b (if mCmp .gt x 0 = true then t else pc + 3, L, S, h, b) := ⟨x, S, t, rfl, rfl, ht, rfl⟩
      rw [if_neg e, hq] at z
      exact z) (kf (by omega))
theorem wp_lcmp_gt {x y : Int} {off : Int} {t q1 : Nat} (hd : decode (mCode M) pc = .ok (.lcmp, 1)) (hq1 : pc + 1 = q1) (hd2 : decode (mCode M) q1 = .ok (.ifCond .gt off, 3)) (ht : (q1 : Int) + off = (t : Int)) (hq : q1 + 3 = q) (kt : y < x → Wp d M t L S h b Q) (kf : x ≤ y → Wp d M q L S h b Q) : Wp d M pc L (mL y :: mL x :: S) h b Q := by
  refine wp_ss hd (q1, L, mI (if y < x then 1 else if x = y then 0 else -1) :: S, h, b) ⟨x, y, S, rfl, rfl, by rw [← hq1]⟩ ?_
  refine wp_if_gt hd2 ht hq (fun z => kt ?_) (fun z => kf ?_)
  all_goals
    by_cases h1 : y < x
    · rw [if_pos h1] at z; omega
    · by_cases h2 : x = y
      · rw [if_neg h1, if_pos h2] at z; omega
      · rw [if_neg h1, if_neg h2] at z; omega
theorem wp_icmp_le {x y : Int} {off : Int} {t : Nat} (hd : decode (mCode M) pc = .ok (.if_icmp .le off, 3)) (ht : (pc : Int) + off = (t : Int)) (hq : pc + 3 = q) (kt : x ≤ y → Wp d M t L S h b Q) (kf : y < x → Wp d M q L S h b Q) : Wp d M pc L (mI y :: mI x :: S) h b Q := by
  by_cases hc : x ≤ y
  · exact wp_ss hd (t, L, S, h, b) (by
      have e : mCmp .le x y = true := by simp only [mCmp, decide_eq_true_eq]; exact hc
      have z : mSS d (mOwn M) ((mY M).name = "<init>") (.if_icmp .le off) 3 pc L (mI y :: mI x :: S) h b (if mCmp .le x y = true then t else pc + 3, L, S, h, b) := ⟨x, y, S, t, rfl, rfl, ht, rfl⟩
      rw [if_pos e] at z
      exact z) (kt hc)
  · exact wp_ss hd (q, L, S, h, b) (by
      have e : ¬ mCmp .le x y = true := by simp only [mCmp, decide_eq_true_eq]; exact hc
      have z : mSS d (mOwn M) ((mY M).name = "<init>") (.if_icmp .le off) 3 pc L (mI y :: mI x :: S) h b (if mCmp .le x y = true then t else pc + 3, L, S, h, b) := ⟨x, y, S, t, rfl, rfl, ht, rfl⟩
      rw [if_neg e, hq] at z
      exact z) (kf (by omega))
theorem wp_if_le {x : Int} {off : Int} {t : Nat} (hd : decode (mCode M) pc = .ok (.ifCond .le off, 3)) (ht : (pc : Int) + off = (t : Int)) (hq : pc + 3 = q) (kt : x ≤ 0 → Wp d M t L S h b Q) (kf : 0 < x → Wp d M q L S h b Q) : Wp d M pc L (mI x :: S) h b Q := by
  by_cases hc : x ≤ 0
  · exact wp_ss hd (t, L, S, h, b) (by
      have e : mCmp .le x 0 = true := by simp only [mCmp, decide_eq_true_eq]; exact hc
      have z : mSS d (mOwn M) ((mY M).name = "<init>") (.ifCond .le off) 3 pc L (mI x :: S) h b (if mCmp .le x 0 = true then t else pc + 3, L, S, h, b) := ⟨x, S, t, rfl, rfl, ht, rfl⟩
      rw [if_pos e] at z
      exact z) (kt hc)
  · exact wp_ss hd (q, L, S, h, b) (by
      have e : ¬ mCmp .le x 0 = true := by simp only [mCmp, decide_eq_true_eq]; exact hc
      have z : mSS d (mOwn M) ((mY M).name = "<init>") (.ifCond .le off) 3 pc L (mI x :: S) h b (if mCmp .le x 0 = true then t else pc + 3, L, S, h, b) := ⟨x, S, t, rfl, rfl, ht, rfl⟩
      rw [if_neg e, hq] at z
      exact z) (kf (by omega))
theorem wp_lcmp_le {x y : Int} {off : Int} {t q1 : Nat} (hd : decode (mCode M) pc = .ok (.lcmp, 1)) (hq1 : pc + 1 = q1) (hd2 : decode (mCode M) q1 = .ok (.ifCond .le off, 3)) (ht : (q1 : Int) + off = (t : Int)) (hq : q1 + 3 = q) (kt : x ≤ y → Wp d M t L S h b Q) (kf : y < x → Wp d M q L S h b Q) : Wp d M pc L (mL y :: mL x :: S) h b Q := by
  refine wp_ss hd (q1, L, mI (if y < x then 1 else if x = y then 0 else -1) :: S, h, b) ⟨x, y, S, rfl, rfl, by rw [← hq1]⟩ ?_
  refine wp_if_le hd2 ht hq (fun z => kt ?_) (fun z => kf ?_)
  all_goals
    by_cases h1 : y < x
    · rw [if_pos h1] at z; omega
    · by_cases h2 : x = y
      · rw [if_neg h1, if_pos h2] at z; omega
      · rw [if_neg h1, if_neg h2] at z; omega
theorem wp_ifb_eq {p : Prop} [Decidable p] {off : Int} {t : Nat} (hd : decode (mCode M) pc = .ok (.ifCond .eq off, 3)) (ht : (pc : Int) + off = (t : Int)) (hq : pc + 3 = q) (kt : ¬ p → Wp d M t L S h b Q) (kf : p → Wp d M q L S h b Q) : Wp d M pc L (mI (bI p) :: S) h b Q :=
  wp_if_eq hd ht hq (fun z => kt (fun hp => by rw [bI_t hp] at z; omega)) (fun z => kf (Decidable.byContradiction fun hp => z (bI_f hp)))
theorem wp_ifb_ne {p : Prop} [Decidable p] {off : Int} {t : Nat} (hd : decode (mCode M) pc = .ok (.ifCond .ne off, 3)) (ht : (pc : Int) + off = (t : Int)) (hq : pc + 3 = q) (kt : p → Wp d M t L S h b Q) (kf : ¬ p → Wp d M q L S h b Q) : Wp d M pc L (mI (bI p) :: S) h b Q :=
  wp_if_ne hd ht hq (fun z => kt (Decidable.byContradiction fun hp => z (bI_f hp))) (fun z => kf (fun hp => by rw [bI_t hp] at z; omega))
theorem wp_tsi {x df lo hi off : Int} {offs : Array Int} {len t : Nat} (hd : decode (mCode M) pc = .ok (.tableswitch df lo hi offs, len)) (h1 : lo ≤ x) (h2 : x ≤ hi) (ho : offs[(x - lo).toNat]? = some off) (ht : (pc : Int) + off = (t : Int)) (k : Wp d M t L S h b Q) : Wp d M pc L (mI x :: S) h b Q :=
  wp_ss hd (t, L, S, h, b) ⟨x, S, t, rfl, Or.inr ⟨h1, h2, off, ho, ht⟩, rfl⟩ k
theorem wp_tso {x df lo hi : Int} {offs : Array Int} {len t : Nat} (hd : decode (mCode M) pc = .ok (.tableswitch df lo hi offs, len)) (h1 : x < lo ∨ hi < x) (ht : (pc : Int) + df = (t : Int)) (k : Wp d M t L S h b Q) : Wp d M pc L (mI x :: S) h b Q :=
  wp_ss hd (t, L, S, h, b) ⟨x, S, t, rfl, Or.inl ⟨h1, ht⟩, rfl⟩ k
theorem wp_aleni {a : Nat} {l : List Int} (hd : decode (mCode M) pc = .ok (.arraylength, 1)) (hq : pc + 1 = q) (hc : h[a]? = some (mA l)) (hn : l.length < 2147483648) (k : Wp d M q L (mI l.length :: S) h b Q) : Wp d M pc L (mR a :: S) h b Q :=
  wp_ss hd (q, L, mI l.length :: S, h, b) ⟨a, _, l, S, rfl, rfl, hc, Or.inl rfl, hn, by rw [← hq]⟩ k
theorem wp_alenl {a : Nat} {l : List Int} (hd : decode (mCode M) pc = .ok (.arraylength, 1)) (hq : pc + 1 = q) (hc : h[a]? = some (mJ l)) (hn : l.length < 2147483648) (k : Wp d M q L (mI l.length :: S) h b Q) : Wp d M pc L (mR a :: S) h b Q :=
  wp_ss hd (q, L, mI l.length :: S, h, b) ⟨a, _, l, S, rfl, rfl, hc, Or.inr rfl, hn, by rw [← hq]⟩ k
theorem wp_iaload {a : Nat} {x : Int} {l : List Int} (hd : decode (mCode M) pc = .ok (.iaload, 1)) (hq : pc + 1 = q) (hc : h[a]? = some (mA l)) (h0 : 0 ≤ x) (h1 : x < l.length) (k : Wp d M q L (mI (l.getD x.toNat 0) :: S) h b Q) : Wp d M pc L (mI x :: mR a :: S) h b Q :=
  wp_ss hd (q, L, mI (l.getD x.toNat 0) :: S, h, b) ⟨x, a, l, S, rfl, rfl, hc, h0, h1, by rw [← hq]⟩ k
theorem wp_laload {a : Nat} {x : Int} {l : List Int} (hd : decode (mCode M) pc = .ok (.laload, 1)) (hq : pc + 1 = q) (hc : h[a]? = some (mJ l)) (h0 : 0 ≤ x) (h1 : x < l.length) (k : Wp d M q L (mL (l.getD x.toNat 0) :: S) h b Q) : Wp d M pc L (mI x :: mR a :: S) h b Q :=
  wp_ss hd (q, L, mL (l.getD x.toNat 0) :: S, h, b) ⟨x, a, l, S, rfl, rfl, hc, h0, h1, by rw [← hq]⟩ k
theorem wp_iastore {a : Nat} {x v : Int} {l : List Int} (hd : decode (mCode M) pc = .ok (.iastore, 1)) (hq : pc + 1 = q) (ha : 2 ≤ a) (hc : h[a]? = some (mA l)) (h0 : 0 ≤ x) (h1 : x < l.length) (k : Wp d M q L S (h.set a (mA (l.set x.toNat v))) b Q) : Wp d M pc L (mI v :: mI x :: mR a :: S) h b Q :=
  wp_ss hd (q, L, S, h.set a (mA (l.set x.toNat v)), b) ⟨v, x, a, l, S, rfl, rfl, ha, hc, h0, h1, by rw [← hq]⟩ k
theorem wp_lastore {a : Nat} {x v : Int} {l : List Int} (hd : decode (mCode M) pc = .ok (.lastore, 1)) (hq : pc + 1 = q) (ha : 2 ≤ a) (hc : h[a]? = some (mJ l)) (h0 : 0 ≤ x) (h1 : x < l.length) (k : Wp d M q L S (h.set a (mJ (l.set x.toNat v))) b Q) : Wp d M pc L (mL v :: mI x :: mR a :: S) h b Q :=
  wp_ss hd (q, L, S, h.set a (mJ (l.set x.toNat v)), b) ⟨v, x, a, l, S, rfl, rfl, ha, hc, h0, h1, by rw [← hq]⟩ k
theorem wp_getf {a ci fk idx : Nat} {fs : List mV} {v : mV} (hd : decode (mCode M) pc = .ok (.getfield idx, 3)) (hq : pc + 3 = q) (hf : mFok (mOwn M) idx ci fk) (ha : 2 ≤ a) (hc : h[a]? = some (mO ci fs)) (hv : fs[fk]? = some v) (hn : v ≠ mU) (k : Wp d M q L (v :: S) h b Q) : Wp d M pc L (mR a :: S) h b Q :=
  wp_ss hd (q, L, v :: S, h, b) ⟨a, ci, fs, fk, v, S, rfl, rfl, hf, ha, hc, hv, hn, by rw [← hq]⟩ k
theorem wp_putf {a ci fk idx : Nat} {fs : List mV} {v : mV} (hd : decode (mCode M) pc = .ok (.putfield idx, 3)) (hq : pc + 3 = q) (hf : mFok (mOwn M) idx ci fk) (ha : 2 ≤ a) (hc : h[a]? = some (mO ci fs)) (hl : fk < fs.length) (ht : mFit (mTy ci fk) v) (hn : mFin ci fk = true → (mY M).name = "<init>" ∧ mOwn M = ci) (k : Wp d M q L S (h.set a (mO ci (fs.set fk v))) b Q) : Wp d M pc L (v :: mR a :: S) h b Q :=
  wp_ss hd (q, L, S, h.set a (mO ci (fs.set fk v)), b) ⟨a, ci, fs, fk, v, S, rfl, rfl, hf, ha, hc, hl, ht, hn, by rw [← hq]⟩ k
theorem wp_gets {idx : Nat} (hd : decode (mCode M) pc = .ok (.getstatic idx, 3)) (hq : pc + 3 = q) (hw : Cond.fieldLink (mN (mOwn M)) idx "CupDraws" "PARTS" "[J" ∈ gT) (k : Wp d M q L (mR 0 :: S) h b Q) : Wp d M pc L S h b Q :=
  wp_ss hd (q, L, mR 0 :: S, h, b) ⟨rfl, hw, by rw [← hq]⟩ k
theorem wp_new {ci idx mc ms mc' ms' : Nat} {D : List mV} (hd : decode (mCode M) pc = .ok (.new idx, 3)) (hq : pc + 3 = q) (hf : mNok (mOwn M) idx ci) (h1 : mc = mc' + 1) (h2 : ms = ms' + mNf ci) (hD : mDefs ci = D) (k : Wp d M q L (mR h.length :: S) (h ++ [mO ci D]) (mc', ms') Q) : Wp d M pc L S h (mc, ms) Q := by
  subst hD
  exact wp_ss hd (q, L, mR h.length :: S, h ++ [mO ci (mDefs ci)], (mc', ms')) ⟨ci, rfl, hf, by show 1 ≤ mc; omega, by show mNf ci ≤ ms; omega, by rw [← hq]; simp only [Prod.mk.injEq, true_and]; omega⟩ k
theorem wp_newi {x : Int} {mc ms mc' ms' : Nat} (hd : decode (mCode M) pc = .ok (.newarray .int, 2)) (hq : pc + 2 = q) (h0 : 0 ≤ x) (hx : x ≤ 10000) (h1 : mc = mc' + 1) (h2 : ms = ms' + x.toNat) (k : Wp d M q L (mR h.length :: S) (h ++ [mA (List.replicate x.toNat 0)]) (mc', ms') Q) : Wp d M pc L (mI x :: S) h (mc, ms) Q :=
  wp_ss hd (q, L, mR h.length :: S, h ++ [mA (List.replicate x.toNat 0)], (mc', ms')) ⟨x, S, rfl, rfl, h0, hx, by show 1 ≤ mc; omega, by show x.toNat ≤ ms; omega, Or.inl ⟨rfl, by rw [← hq]; simp only [Prod.mk.injEq, true_and]; omega⟩⟩ k
theorem wp_newl {x : Int} {mc ms mc' ms' : Nat} (hd : decode (mCode M) pc = .ok (.newarray .long, 2)) (hq : pc + 2 = q) (h0 : 0 ≤ x) (hx : x ≤ 10000) (h1 : mc = mc' + 1) (h2 : ms = ms' + x.toNat) (k : Wp d M q L (mR h.length :: S) (h ++ [mJ (List.replicate x.toNat 0)]) (mc', ms') Q) : Wp d M pc L (mI x :: S) h (mc, ms) Q :=
  wp_ss hd (q, L, mR h.length :: S, h ++ [mJ (List.replicate x.toNat 0)], (mc', ms')) ⟨x, S, rfl, rfl, h0, hx, by show 1 ≤ mc; omega, by show x.toNat ≤ ms; omega, Or.inr ⟨rfl, by rw [← hq]; simp only [Prod.mk.injEq, true_and]; omega⟩⟩ k
theorem wp_obj {d' a idx : Nat} (hd : decode (mCode M) pc = .ok (.invokespecial idx, 3)) (hq : pc + 3 = q) (hw : Cond.methodLink (mN (mOwn M)) idx objectInit ∈ gT) (hr : mCats S ≤ 8) (k : Wp (d' + 1) M q L S h b Q) : Wp (d' + 1) M pc L (mR a :: S) h b Q :=
  wp_ss hd (q, L, S, h, b) ⟨a, S, rfl, by omega, rfl, hr, hw, by rw [← hq]⟩ k
theorem wp_copy {d' idx a0 a1 : Nat} {n dp sp : Int} {l0 l1 : List Int} (hd : decode (mCode M) pc = .ok (.invokestatic idx, 3)) (hq : pc + 3 = q) (hw : Cond.methodLink (mN (mOwn M)) idx arraycopyName ∈ gT) (hr : mCats S ≤ 8) (h1 : 2 ≤ a1) (h0 : 2 ≤ a0) (hc0 : h[a0]? = some (mA l0)) (hc1 : h[a1]? = some (mA l1)) (hn : 0 ≤ n) (hs : 0 ≤ sp) (hp : 0 ≤ dp) (g0 : sp + n ≤ l0.length) (g1 : dp + n ≤ l1.length) (k : Wp (d' + 1) M q L S (h.set a1 (mA (mCpy l0 l1 sp.toNat dp.toNat n.toNat))) b Q) : Wp (d' + 1) M pc L (mI n :: mI dp :: mR a1 :: mI sp :: mR a0 :: S) h b Q :=
  wp_ss hd (q, L, S, h.set a1 (mA (mCpy l0 l1 sp.toNat dp.toNat n.toNat)), b) ⟨n, dp, sp, a1, a0, l0, l1, S, rfl, by omega, rfl, hr, hw, h1, h0, hc0, hc1, hn, hs, hp, g0, g1, by rw [← hq]⟩ k
theorem wp_iret {x : Int} (hd : decode (mCode M) pc = .ok (.ireturn, 1)) (ht : mRet M = some .int) (k : Q (some (mI x)) h) : Wp d M pc L [mI x] h b Q := wp_rr hd (some (mI x)) ⟨x, rfl, rfl, Or.inl ht, rfl⟩ k
theorem wp_bret {x : Int} (hd : decode (mCode M) pc = .ok (.ireturn, 1)) (ht : mRet M = some .boolean) (hx : x = 0 ∨ x = 1) (k : Q (some (mI x)) h) : Wp d M pc L [mI x] h b Q := wp_rr hd (some (mI x)) ⟨x, rfl, rfl, Or.inr ⟨ht, hx⟩, rfl⟩ k
theorem wp_lret {x : Int} (hd : decode (mCode M) pc = .ok (.lreturn, 1)) (ht : mRet M = some .long) (k : Q (some (mL x)) h) : Wp d M pc L [mL x] h b Q := wp_rr hd (some (mL x)) ⟨x, rfl, rfl, ht, rfl⟩ k
theorem wp_vret (hd : decode (mCode M) pc = .ok (.return_, 1)) (ht : mRet M = none) (k : Q none h) : Wp d M pc L [] h b Q := wp_rr hd none ⟨rfl, rfl, ht, rfl⟩ k
theorem wp_v0 {d2 idx : Nat} {M2 : mM} {a : Nat} {fs : List mV} {Q2 : Option mV → List mC → Prop} (hd : decode (mCode M) pc = .ok (.invokevirtual idx, 3)) (hq : pc + 3 = q) (hT : mTok (mOwn M) idx 0 0 M2) (hr : mCats S ≤ 8) (hm : (mArgs (mMax M2) [mR a]).length = mMax M2) (ha : 2 ≤ a) (hc : h[a]? = some (mO (mOwn M2) fs)) (hz1 : mCel M2 = 0) (hz2 : mSlo M2 = 0) (hct : Ct d2 M2 [mR a] h Q2) (k : ∀ r h2, Q2 r h2 → Wp (d2 + 1) M q L (r.toList ++ S) h2 b Q) : Wp (d2 + 1) M pc L (mR a :: S) h b Q :=
  wp_cc hd ⟨d2, idx, 0, 0, M2, [mR a], S, Q2, rfl, rfl, rfl, hT, rfl, rfl, hr, hm, fun _ => ⟨a, fs, rfl, ha, hc⟩, by omega, by omega, hct, fun r h2 hq2 => by
    have e : (b.1 - mCel M2, b.2 - mSlo M2) = b := by rw [hz1, hz2]; rfl
    rw [e, hq]
    exact k r h2 hq2⟩
theorem wp_v0I {d2 idx : Nat} {M2 : mM} {a : Nat} {fs : List mV} {x : mV} {h2 : List mC} (hd : decode (mCode M) pc = .ok (.invokevirtual idx, 3)) (hq : pc + 3 = q) (hT : mTok (mOwn M) idx 0 0 M2) (hr : mCats S ≤ 8) (hm : (mArgs (mMax M2) [mR a]).length = mMax M2) (ha : 2 ≤ a) (hc : h[a]? = some (mO (mOwn M2) fs)) (hz1 : mCel M2 = 0) (hz2 : mSlo M2 = 0) (hct : Rt d2 M2 [mR a] h (some x) h2) (k : Wp (d2 + 1) M q L (x :: S) h2 b Q) : Wp (d2 + 1) M pc L (mR a :: S) h b Q :=
  wp_v0 hd hq hT hr hm ha hc hz1 hz2 hct (fun r h3 hq3 => by obtain ⟨rfl, rfl⟩ := hq3; exact k)
theorem wp_v0V {d2 idx : Nat} {M2 : mM} {a : Nat} {fs : List mV} {h2 : List mC} (hd : decode (mCode M) pc = .ok (.invokevirtual idx, 3)) (hq : pc + 3 = q) (hT : mTok (mOwn M) idx 0 0 M2) (hr : mCats S ≤ 8) (hm : (mArgs (mMax M2) [mR a]).length = mMax M2) (ha : 2 ≤ a) (hc : h[a]? = some (mO (mOwn M2) fs)) (hz1 : mCel M2 = 0) (hz2 : mSlo M2 = 0) (hct : Rt d2 M2 [mR a] h none h2) (k : Wp (d2 + 1) M q L S h2 b Q) : Wp (d2 + 1) M pc L (mR a :: S) h b Q :=
  wp_v0 hd hq hT hr hm ha hc hz1 hz2 hct (fun r h3 hq3 => by obtain ⟨rfl, rfl⟩ := hq3; exact k)
theorem wp_v1 {d2 idx : Nat} {M2 : mM} {v1 : mV} {a : Nat} {fs : List mV} {Q2 : Option mV → List mC → Prop} (hd : decode (mCode M) pc = .ok (.invokevirtual idx, 3)) (hq : pc + 3 = q) (hT : mTok (mOwn M) idx 0 1 M2) (hr : mCats S ≤ 8) (hm : (mArgs (mMax M2) [mR a, v1]).length = mMax M2) (ha : 2 ≤ a) (hc : h[a]? = some (mO (mOwn M2) fs)) (hz1 : mCel M2 = 0) (hz2 : mSlo M2 = 0) (hct : Ct d2 M2 [mR a, v1] h Q2) (k : ∀ r h2, Q2 r h2 → Wp (d2 + 1) M q L (r.toList ++ S) h2 b Q) : Wp (d2 + 1) M pc L (v1 :: mR a :: S) h b Q :=
  wp_cc hd ⟨d2, idx, 0, 1, M2, [mR a, v1], S, Q2, rfl, rfl, rfl, hT, rfl, rfl, hr, hm, fun _ => ⟨a, fs, rfl, ha, hc⟩, by omega, by omega, hct, fun r h2 hq2 => by
    have e : (b.1 - mCel M2, b.2 - mSlo M2) = b := by rw [hz1, hz2]; rfl
    rw [e, hq]
    exact k r h2 hq2⟩
theorem wp_v1I {d2 idx : Nat} {M2 : mM} {v1 : mV} {a : Nat} {fs : List mV} {x : mV} {h2 : List mC} (hd : decode (mCode M) pc = .ok (.invokevirtual idx, 3)) (hq : pc + 3 = q) (hT : mTok (mOwn M) idx 0 1 M2) (hr : mCats S ≤ 8) (hm : (mArgs (mMax M2) [mR a, v1]).length = mMax M2) (ha : 2 ≤ a) (hc : h[a]? = some (mO (mOwn M2) fs)) (hz1 : mCel M2 = 0) (hz2 : mSlo M2 = 0) (hct : Rt d2 M2 [mR a, v1] h (some x) h2) (k : Wp (d2 + 1) M q L (x :: S) h2 b Q) : Wp (d2 + 1) M pc L (v1 :: mR a :: S) h b Q :=
  wp_v1 hd hq hT hr hm ha hc hz1 hz2 hct (fun r h3 hq3 => by obtain ⟨rfl, rfl⟩ := hq3; exact k)
theorem wp_v1V {d2 idx : Nat} {M2 : mM} {v1 : mV} {a : Nat} {fs : List mV} {h2 : List mC} (hd : decode (mCode M) pc = .ok (.invokevirtual idx, 3)) (hq : pc + 3 = q) (hT : mTok (mOwn M) idx 0 1 M2) (hr : mCats S ≤ 8) (hm : (mArgs (mMax M2) [mR a, v1]).length = mMax M2) (ha : 2 ≤ a) (hc : h[a]? = some (mO (mOwn M2) fs)) (hz1 : mCel M2 = 0) (hz2 : mSlo M2 = 0) (hct : Rt d2 M2 [mR a, v1] h none h2) (k : Wp (d2 + 1) M q L S h2 b Q) : Wp (d2 + 1) M pc L (v1 :: mR a :: S) h b Q :=
  wp_v1 hd hq hT hr hm ha hc hz1 hz2 hct (fun r h3 hq3 => by obtain ⟨rfl, rfl⟩ := hq3; exact k)
theorem wp_v2 {d2 idx : Nat} {M2 : mM} {v1 v2 : mV} {a : Nat} {fs : List mV} {Q2 : Option mV → List mC → Prop} (hd : decode (mCode M) pc = .ok (.invokevirtual idx, 3)) (hq : pc + 3 = q) (hT : mTok (mOwn M) idx 0 2 M2) (hr : mCats S ≤ 8) (hm : (mArgs (mMax M2) [mR a, v1, v2]).length = mMax M2) (ha : 2 ≤ a) (hc : h[a]? = some (mO (mOwn M2) fs)) (hz1 : mCel M2 = 0) (hz2 : mSlo M2 = 0) (hct : Ct d2 M2 [mR a, v1, v2] h Q2) (k : ∀ r h2, Q2 r h2 → Wp (d2 + 1) M q L (r.toList ++ S) h2 b Q) : Wp (d2 + 1) M pc L (v2 :: v1 :: mR a :: S) h b Q :=
  wp_cc hd ⟨d2, idx, 0, 2, M2, [mR a, v1, v2], S, Q2, rfl, rfl, rfl, hT, rfl, rfl, hr, hm, fun _ => ⟨a, fs, rfl, ha, hc⟩, by omega, by omega, hct, fun r h2 hq2 => by
    have e : (b.1 - mCel M2, b.2 - mSlo M2) = b := by rw [hz1, hz2]; rfl
    rw [e, hq]
    exact k r h2 hq2⟩
theorem wp_v2I {d2 idx : Nat} {M2 : mM} {v1 v2 : mV} {a : Nat} {fs : List mV} {x : mV} {h2 : List mC} (hd : decode (mCode M) pc = .ok (.invokevirtual idx, 3)) (hq : pc + 3 = q) (hT : mTok (mOwn M) idx 0 2 M2) (hr : mCats S ≤ 8) (hm : (mArgs (mMax M2) [mR a, v1, v2]).length = mMax M2) (ha : 2 ≤ a) (hc : h[a]? = some (mO (mOwn M2) fs)) (hz1 : mCel M2 = 0) (hz2 : mSlo M2 = 0) (hct : Rt d2 M2 [mR a, v1, v2] h (some x) h2) (k : Wp (d2 + 1) M q L (x :: S) h2 b Q) : Wp (d2 + 1) M pc L (v2 :: v1 :: mR a :: S) h b Q :=
  wp_v2 hd hq hT hr hm ha hc hz1 hz2 hct (fun r h3 hq3 => by obtain ⟨rfl, rfl⟩ := hq3; exact k)
theorem wp_v2V {d2 idx : Nat} {M2 : mM} {v1 v2 : mV} {a : Nat} {fs : List mV} {h2 : List mC} (hd : decode (mCode M) pc = .ok (.invokevirtual idx, 3)) (hq : pc + 3 = q) (hT : mTok (mOwn M) idx 0 2 M2) (hr : mCats S ≤ 8) (hm : (mArgs (mMax M2) [mR a, v1, v2]).length = mMax M2) (ha : 2 ≤ a) (hc : h[a]? = some (mO (mOwn M2) fs)) (hz1 : mCel M2 = 0) (hz2 : mSlo M2 = 0) (hct : Rt d2 M2 [mR a, v1, v2] h none h2) (k : Wp (d2 + 1) M q L S h2 b Q) : Wp (d2 + 1) M pc L (v2 :: v1 :: mR a :: S) h b Q :=
  wp_v2 hd hq hT hr hm ha hc hz1 hz2 hct (fun r h3 hq3 => by obtain ⟨rfl, rfl⟩ := hq3; exact k)
theorem wp_v3 {d2 idx : Nat} {M2 : mM} {v1 v2 v3 : mV} {a : Nat} {fs : List mV} {Q2 : Option mV → List mC → Prop} (hd : decode (mCode M) pc = .ok (.invokevirtual idx, 3)) (hq : pc + 3 = q) (hT : mTok (mOwn M) idx 0 3 M2) (hr : mCats S ≤ 8) (hm : (mArgs (mMax M2) [mR a, v1, v2, v3]).length = mMax M2) (ha : 2 ≤ a) (hc : h[a]? = some (mO (mOwn M2) fs)) (hz1 : mCel M2 = 0) (hz2 : mSlo M2 = 0) (hct : Ct d2 M2 [mR a, v1, v2, v3] h Q2) (k : ∀ r h2, Q2 r h2 → Wp (d2 + 1) M q L (r.toList ++ S) h2 b Q) : Wp (d2 + 1) M pc L (v3 :: v2 :: v1 :: mR a :: S) h b Q :=
  wp_cc hd ⟨d2, idx, 0, 3, M2, [mR a, v1, v2, v3], S, Q2, rfl, rfl, rfl, hT, rfl, rfl, hr, hm, fun _ => ⟨a, fs, rfl, ha, hc⟩, by omega, by omega, hct, fun r h2 hq2 => by
    have e : (b.1 - mCel M2, b.2 - mSlo M2) = b := by rw [hz1, hz2]; rfl
    rw [e, hq]
    exact k r h2 hq2⟩
theorem wp_v3I {d2 idx : Nat} {M2 : mM} {v1 v2 v3 : mV} {a : Nat} {fs : List mV} {x : mV} {h2 : List mC} (hd : decode (mCode M) pc = .ok (.invokevirtual idx, 3)) (hq : pc + 3 = q) (hT : mTok (mOwn M) idx 0 3 M2) (hr : mCats S ≤ 8) (hm : (mArgs (mMax M2) [mR a, v1, v2, v3]).length = mMax M2) (ha : 2 ≤ a) (hc : h[a]? = some (mO (mOwn M2) fs)) (hz1 : mCel M2 = 0) (hz2 : mSlo M2 = 0) (hct : Rt d2 M2 [mR a, v1, v2, v3] h (some x) h2) (k : Wp (d2 + 1) M q L (x :: S) h2 b Q) : Wp (d2 + 1) M pc L (v3 :: v2 :: v1 :: mR a :: S) h b Q :=
  wp_v3 hd hq hT hr hm ha hc hz1 hz2 hct (fun r h3 hq3 => by obtain ⟨rfl, rfl⟩ := hq3; exact k)
theorem wp_v3V {d2 idx : Nat} {M2 : mM} {v1 v2 v3 : mV} {a : Nat} {fs : List mV} {h2 : List mC} (hd : decode (mCode M) pc = .ok (.invokevirtual idx, 3)) (hq : pc + 3 = q) (hT : mTok (mOwn M) idx 0 3 M2) (hr : mCats S ≤ 8) (hm : (mArgs (mMax M2) [mR a, v1, v2, v3]).length = mMax M2) (ha : 2 ≤ a) (hc : h[a]? = some (mO (mOwn M2) fs)) (hz1 : mCel M2 = 0) (hz2 : mSlo M2 = 0) (hct : Rt d2 M2 [mR a, v1, v2, v3] h none h2) (k : Wp (d2 + 1) M q L S h2 b Q) : Wp (d2 + 1) M pc L (v3 :: v2 :: v1 :: mR a :: S) h b Q :=
  wp_v3 hd hq hT hr hm ha hc hz1 hz2 hct (fun r h3 hq3 => by obtain ⟨rfl, rfl⟩ := hq3; exact k)
theorem wp_v4 {d2 idx : Nat} {M2 : mM} {v1 v2 v3 v4 : mV} {a : Nat} {fs : List mV} {Q2 : Option mV → List mC → Prop} (hd : decode (mCode M) pc = .ok (.invokevirtual idx, 3)) (hq : pc + 3 = q) (hT : mTok (mOwn M) idx 0 4 M2) (hr : mCats S ≤ 8) (hm : (mArgs (mMax M2) [mR a, v1, v2, v3, v4]).length = mMax M2) (ha : 2 ≤ a) (hc : h[a]? = some (mO (mOwn M2) fs)) (hz1 : mCel M2 = 0) (hz2 : mSlo M2 = 0) (hct : Ct d2 M2 [mR a, v1, v2, v3, v4] h Q2) (k : ∀ r h2, Q2 r h2 → Wp (d2 + 1) M q L (r.toList ++ S) h2 b Q) : Wp (d2 + 1) M pc L (v4 :: v3 :: v2 :: v1 :: mR a :: S) h b Q :=
  wp_cc hd ⟨d2, idx, 0, 4, M2, [mR a, v1, v2, v3, v4], S, Q2, rfl, rfl, rfl, hT, rfl, rfl, hr, hm, fun _ => ⟨a, fs, rfl, ha, hc⟩, by omega, by omega, hct, fun r h2 hq2 => by
    have e : (b.1 - mCel M2, b.2 - mSlo M2) = b := by rw [hz1, hz2]; rfl
    rw [e, hq]
    exact k r h2 hq2⟩
theorem wp_v4I {d2 idx : Nat} {M2 : mM} {v1 v2 v3 v4 : mV} {a : Nat} {fs : List mV} {x : mV} {h2 : List mC} (hd : decode (mCode M) pc = .ok (.invokevirtual idx, 3)) (hq : pc + 3 = q) (hT : mTok (mOwn M) idx 0 4 M2) (hr : mCats S ≤ 8) (hm : (mArgs (mMax M2) [mR a, v1, v2, v3, v4]).length = mMax M2) (ha : 2 ≤ a) (hc : h[a]? = some (mO (mOwn M2) fs)) (hz1 : mCel M2 = 0) (hz2 : mSlo M2 = 0) (hct : Rt d2 M2 [mR a, v1, v2, v3, v4] h (some x) h2) (k : Wp (d2 + 1) M q L (x :: S) h2 b Q) : Wp (d2 + 1) M pc L (v4 :: v3 :: v2 :: v1 :: mR a :: S) h b Q :=
  wp_v4 hd hq hT hr hm ha hc hz1 hz2 hct (fun r h3 hq3 => by obtain ⟨rfl, rfl⟩ := hq3; exact k)
theorem wp_v4V {d2 idx : Nat} {M2 : mM} {v1 v2 v3 v4 : mV} {a : Nat} {fs : List mV} {h2 : List mC} (hd : decode (mCode M) pc = .ok (.invokevirtual idx, 3)) (hq : pc + 3 = q) (hT : mTok (mOwn M) idx 0 4 M2) (hr : mCats S ≤ 8) (hm : (mArgs (mMax M2) [mR a, v1, v2, v3, v4]).length = mMax M2) (ha : 2 ≤ a) (hc : h[a]? = some (mO (mOwn M2) fs)) (hz1 : mCel M2 = 0) (hz2 : mSlo M2 = 0) (hct : Rt d2 M2 [mR a, v1, v2, v3, v4] h none h2) (k : Wp (d2 + 1) M q L S h2 b Q) : Wp (d2 + 1) M pc L (v4 :: v3 :: v2 :: v1 :: mR a :: S) h b Q :=
  wp_v4 hd hq hT hr hm ha hc hz1 hz2 hct (fun r h3 hq3 => by obtain ⟨rfl, rfl⟩ := hq3; exact k)
theorem wp_v5 {d2 idx : Nat} {M2 : mM} {v1 v2 v3 v4 v5 : mV} {a : Nat} {fs : List mV} {Q2 : Option mV → List mC → Prop} (hd : decode (mCode M) pc = .ok (.invokevirtual idx, 3)) (hq : pc + 3 = q) (hT : mTok (mOwn M) idx 0 5 M2) (hr : mCats S ≤ 8) (hm : (mArgs (mMax M2) [mR a, v1, v2, v3, v4, v5]).length = mMax M2) (ha : 2 ≤ a) (hc : h[a]? = some (mO (mOwn M2) fs)) (hz1 : mCel M2 = 0) (hz2 : mSlo M2 = 0) (hct : Ct d2 M2 [mR a, v1, v2, v3, v4, v5] h Q2) (k : ∀ r h2, Q2 r h2 → Wp (d2 + 1) M q L (r.toList ++ S) h2 b Q) : Wp (d2 + 1) M pc L (v5 :: v4 :: v3 :: v2 :: v1 :: mR a :: S) h b Q :=
  wp_cc hd ⟨d2, idx, 0, 5, M2, [mR a, v1, v2, v3, v4, v5], S, Q2, rfl, rfl, rfl, hT, rfl, rfl, hr, hm, fun _ => ⟨a, fs, rfl, ha, hc⟩, by omega, by omega, hct, fun r h2 hq2 => by
    have e : (b.1 - mCel M2, b.2 - mSlo M2) = b := by rw [hz1, hz2]; rfl
    rw [e, hq]
    exact k r h2 hq2⟩
theorem wp_v5I {d2 idx : Nat} {M2 : mM} {v1 v2 v3 v4 v5 : mV} {a : Nat} {fs : List mV} {x : mV} {h2 : List mC} (hd : decode (mCode M) pc = .ok (.invokevirtual idx, 3)) (hq : pc + 3 = q) (hT : mTok (mOwn M) idx 0 5 M2) (hr : mCats S ≤ 8) (hm : (mArgs (mMax M2) [mR a, v1, v2, v3, v4, v5]).length = mMax M2) (ha : 2 ≤ a) (hc : h[a]? = some (mO (mOwn M2) fs)) (hz1 : mCel M2 = 0) (hz2 : mSlo M2 = 0) (hct : Rt d2 M2 [mR a, v1, v2, v3, v4, v5] h (some x) h2) (k : Wp (d2 + 1) M q L (x :: S) h2 b Q) : Wp (d2 + 1) M pc L (v5 :: v4 :: v3 :: v2 :: v1 :: mR a :: S) h b Q :=
  wp_v5 hd hq hT hr hm ha hc hz1 hz2 hct (fun r h3 hq3 => by obtain ⟨rfl, rfl⟩ := hq3; exact k)
theorem wp_v5V {d2 idx : Nat} {M2 : mM} {v1 v2 v3 v4 v5 : mV} {a : Nat} {fs : List mV} {h2 : List mC} (hd : decode (mCode M) pc = .ok (.invokevirtual idx, 3)) (hq : pc + 3 = q) (hT : mTok (mOwn M) idx 0 5 M2) (hr : mCats S ≤ 8) (hm : (mArgs (mMax M2) [mR a, v1, v2, v3, v4, v5]).length = mMax M2) (ha : 2 ≤ a) (hc : h[a]? = some (mO (mOwn M2) fs)) (hz1 : mCel M2 = 0) (hz2 : mSlo M2 = 0) (hct : Rt d2 M2 [mR a, v1, v2, v3, v4, v5] h none h2) (k : Wp (d2 + 1) M q L S h2 b Q) : Wp (d2 + 1) M pc L (v5 :: v4 :: v3 :: v2 :: v1 :: mR a :: S) h b Q :=
  wp_v5 hd hq hT hr hm ha hc hz1 hz2 hct (fun r h3 hq3 => by obtain ⟨rfl, rfl⟩ := hq3; exact k)
theorem wp_s0 {d2 idx : Nat} {M2 : mM} {Q2 : Option mV → List mC → Prop} (hd : decode (mCode M) pc = .ok (.invokestatic idx, 3)) (hq : pc + 3 = q) (hT : mTok (mOwn M) idx 1 0 M2) (hr : mCats S ≤ 8) (hm : (mArgs (mMax M2) []).length = mMax M2) (hz1 : mCel M2 = 0) (hz2 : mSlo M2 = 0) (hct : Ct d2 M2 [] h Q2) (k : ∀ r h2, Q2 r h2 → Wp (d2 + 1) M q L (r.toList ++ S) h2 b Q) : Wp (d2 + 1) M pc L (S) h b Q :=
  wp_cc hd ⟨d2, idx, 1, 0, M2, [], S, Q2, rfl, rfl, rfl, hT, rfl, rfl, hr, hm, fun z => by omega, by omega, by omega, hct, fun r h2 hq2 => by
    have e : (b.1 - mCel M2, b.2 - mSlo M2) = b := by rw [hz1, hz2]; rfl
    rw [e, hq]
    exact k r h2 hq2⟩
theorem wp_s0I {d2 idx : Nat} {M2 : mM} {x : mV} {h2 : List mC} (hd : decode (mCode M) pc = .ok (.invokestatic idx, 3)) (hq : pc + 3 = q) (hT : mTok (mOwn M) idx 1 0 M2) (hr : mCats S ≤ 8) (hm : (mArgs (mMax M2) []).length = mMax M2) (hz1 : mCel M2 = 0) (hz2 : mSlo M2 = 0) (hct : Rt d2 M2 [] h (some x) h2) (k : Wp (d2 + 1) M q L (x :: S) h2 b Q) : Wp (d2 + 1) M pc L (S) h b Q :=
  wp_s0 hd hq hT hr hm hz1 hz2 hct (fun r h3 hq3 => by obtain ⟨rfl, rfl⟩ := hq3; exact k)
theorem wp_s0V {d2 idx : Nat} {M2 : mM} {h2 : List mC} (hd : decode (mCode M) pc = .ok (.invokestatic idx, 3)) (hq : pc + 3 = q) (hT : mTok (mOwn M) idx 1 0 M2) (hr : mCats S ≤ 8) (hm : (mArgs (mMax M2) []).length = mMax M2) (hz1 : mCel M2 = 0) (hz2 : mSlo M2 = 0) (hct : Rt d2 M2 [] h none h2) (k : Wp (d2 + 1) M q L S h2 b Q) : Wp (d2 + 1) M pc L (S) h b Q :=
  wp_s0 hd hq hT hr hm hz1 hz2 hct (fun r h3 hq3 => by obtain ⟨rfl, rfl⟩ := hq3; exact k)
theorem wp_s1 {d2 idx : Nat} {M2 : mM} {v1 : mV} {Q2 : Option mV → List mC → Prop} (hd : decode (mCode M) pc = .ok (.invokestatic idx, 3)) (hq : pc + 3 = q) (hT : mTok (mOwn M) idx 1 1 M2) (hr : mCats S ≤ 8) (hm : (mArgs (mMax M2) [v1]).length = mMax M2) (hz1 : mCel M2 = 0) (hz2 : mSlo M2 = 0) (hct : Ct d2 M2 [v1] h Q2) (k : ∀ r h2, Q2 r h2 → Wp (d2 + 1) M q L (r.toList ++ S) h2 b Q) : Wp (d2 + 1) M pc L (v1 :: S) h b Q :=
  wp_cc hd ⟨d2, idx, 1, 1, M2, [v1], S, Q2, rfl, rfl, rfl, hT, rfl, rfl, hr, hm, fun z => by omega, by omega, by omega, hct, fun r h2 hq2 => by
    have e : (b.1 - mCel M2, b.2 - mSlo M2) = b := by rw [hz1, hz2]; rfl
    rw [e, hq]
    exact k r h2 hq2⟩
theorem wp_s1I {d2 idx : Nat} {M2 : mM} {v1 : mV} {x : mV} {h2 : List mC} (hd : decode (mCode M) pc = .ok (.invokestatic idx, 3)) (hq : pc + 3 = q) (hT : mTok (mOwn M) idx 1 1 M2) (hr : mCats S ≤ 8) (hm : (mArgs (mMax M2) [v1]).length = mMax M2) (hz1 : mCel M2 = 0) (hz2 : mSlo M2 = 0) (hct : Rt d2 M2 [v1] h (some x) h2) (k : Wp (d2 + 1) M q L (x :: S) h2 b Q) : Wp (d2 + 1) M pc L (v1 :: S) h b Q :=
  wp_s1 hd hq hT hr hm hz1 hz2 hct (fun r h3 hq3 => by obtain ⟨rfl, rfl⟩ := hq3; exact k)
theorem wp_s1V {d2 idx : Nat} {M2 : mM} {v1 : mV} {h2 : List mC} (hd : decode (mCode M) pc = .ok (.invokestatic idx, 3)) (hq : pc + 3 = q) (hT : mTok (mOwn M) idx 1 1 M2) (hr : mCats S ≤ 8) (hm : (mArgs (mMax M2) [v1]).length = mMax M2) (hz1 : mCel M2 = 0) (hz2 : mSlo M2 = 0) (hct : Rt d2 M2 [v1] h none h2) (k : Wp (d2 + 1) M q L S h2 b Q) : Wp (d2 + 1) M pc L (v1 :: S) h b Q :=
  wp_s1 hd hq hT hr hm hz1 hz2 hct (fun r h3 hq3 => by obtain ⟨rfl, rfl⟩ := hq3; exact k)
theorem wp_s2 {d2 idx : Nat} {M2 : mM} {v1 v2 : mV} {Q2 : Option mV → List mC → Prop} (hd : decode (mCode M) pc = .ok (.invokestatic idx, 3)) (hq : pc + 3 = q) (hT : mTok (mOwn M) idx 1 2 M2) (hr : mCats S ≤ 8) (hm : (mArgs (mMax M2) [v1, v2]).length = mMax M2) (hz1 : mCel M2 = 0) (hz2 : mSlo M2 = 0) (hct : Ct d2 M2 [v1, v2] h Q2) (k : ∀ r h2, Q2 r h2 → Wp (d2 + 1) M q L (r.toList ++ S) h2 b Q) : Wp (d2 + 1) M pc L (v2 :: v1 :: S) h b Q :=
  wp_cc hd ⟨d2, idx, 1, 2, M2, [v1, v2], S, Q2, rfl, rfl, rfl, hT, rfl, rfl, hr, hm, fun z => by omega, by omega, by omega, hct, fun r h2 hq2 => by
    have e : (b.1 - mCel M2, b.2 - mSlo M2) = b := by rw [hz1, hz2]; rfl
    rw [e, hq]
    exact k r h2 hq2⟩
theorem wp_s2I {d2 idx : Nat} {M2 : mM} {v1 v2 : mV} {x : mV} {h2 : List mC} (hd : decode (mCode M) pc = .ok (.invokestatic idx, 3)) (hq : pc + 3 = q) (hT : mTok (mOwn M) idx 1 2 M2) (hr : mCats S ≤ 8) (hm : (mArgs (mMax M2) [v1, v2]).length = mMax M2) (hz1 : mCel M2 = 0) (hz2 : mSlo M2 = 0) (hct : Rt d2 M2 [v1, v2] h (some x) h2) (k : Wp (d2 + 1) M q L (x :: S) h2 b Q) : Wp (d2 + 1) M pc L (v2 :: v1 :: S) h b Q :=
  wp_s2 hd hq hT hr hm hz1 hz2 hct (fun r h3 hq3 => by obtain ⟨rfl, rfl⟩ := hq3; exact k)
theorem wp_s2V {d2 idx : Nat} {M2 : mM} {v1 v2 : mV} {h2 : List mC} (hd : decode (mCode M) pc = .ok (.invokestatic idx, 3)) (hq : pc + 3 = q) (hT : mTok (mOwn M) idx 1 2 M2) (hr : mCats S ≤ 8) (hm : (mArgs (mMax M2) [v1, v2]).length = mMax M2) (hz1 : mCel M2 = 0) (hz2 : mSlo M2 = 0) (hct : Rt d2 M2 [v1, v2] h none h2) (k : Wp (d2 + 1) M q L S h2 b Q) : Wp (d2 + 1) M pc L (v2 :: v1 :: S) h b Q :=
  wp_s2 hd hq hT hr hm hz1 hz2 hct (fun r h3 hq3 => by obtain ⟨rfl, rfl⟩ := hq3; exact k)
theorem wp_s3 {d2 idx : Nat} {M2 : mM} {v1 v2 v3 : mV} {Q2 : Option mV → List mC → Prop} (hd : decode (mCode M) pc = .ok (.invokestatic idx, 3)) (hq : pc + 3 = q) (hT : mTok (mOwn M) idx 1 3 M2) (hr : mCats S ≤ 8) (hm : (mArgs (mMax M2) [v1, v2, v3]).length = mMax M2) (hz1 : mCel M2 = 0) (hz2 : mSlo M2 = 0) (hct : Ct d2 M2 [v1, v2, v3] h Q2) (k : ∀ r h2, Q2 r h2 → Wp (d2 + 1) M q L (r.toList ++ S) h2 b Q) : Wp (d2 + 1) M pc L (v3 :: v2 :: v1 :: S) h b Q :=
  wp_cc hd ⟨d2, idx, 1, 3, M2, [v1, v2, v3], S, Q2, rfl, rfl, rfl, hT, rfl, rfl, hr, hm, fun z => by omega, by omega, by omega, hct, fun r h2 hq2 => by
    have e : (b.1 - mCel M2, b.2 - mSlo M2) = b := by rw [hz1, hz2]; rfl
    rw [e, hq]
    exact k r h2 hq2⟩
theorem wp_s3I {d2 idx : Nat} {M2 : mM} {v1 v2 v3 : mV} {x : mV} {h2 : List mC} (hd : decode (mCode M) pc = .ok (.invokestatic idx, 3)) (hq : pc + 3 = q) (hT : mTok (mOwn M) idx 1 3 M2) (hr : mCats S ≤ 8) (hm : (mArgs (mMax M2) [v1, v2, v3]).length = mMax M2) (hz1 : mCel M2 = 0) (hz2 : mSlo M2 = 0) (hct : Rt d2 M2 [v1, v2, v3] h (some x) h2) (k : Wp (d2 + 1) M q L (x :: S) h2 b Q) : Wp (d2 + 1) M pc L (v3 :: v2 :: v1 :: S) h b Q :=
  wp_s3 hd hq hT hr hm hz1 hz2 hct (fun r h3 hq3 => by obtain ⟨rfl, rfl⟩ := hq3; exact k)
theorem wp_s3V {d2 idx : Nat} {M2 : mM} {v1 v2 v3 : mV} {h2 : List mC} (hd : decode (mCode M) pc = .ok (.invokestatic idx, 3)) (hq : pc + 3 = q) (hT : mTok (mOwn M) idx 1 3 M2) (hr : mCats S ≤ 8) (hm : (mArgs (mMax M2) [v1, v2, v3]).length = mMax M2) (hz1 : mCel M2 = 0) (hz2 : mSlo M2 = 0) (hct : Rt d2 M2 [v1, v2, v3] h none h2) (k : Wp (d2 + 1) M q L S h2 b Q) : Wp (d2 + 1) M pc L (v3 :: v2 :: v1 :: S) h b Q :=
  wp_s3 hd hq hT hr hm hz1 hz2 hct (fun r h3 hq3 => by obtain ⟨rfl, rfl⟩ := hq3; exact k)
theorem wp_s4 {d2 idx : Nat} {M2 : mM} {v1 v2 v3 v4 : mV} {Q2 : Option mV → List mC → Prop} (hd : decode (mCode M) pc = .ok (.invokestatic idx, 3)) (hq : pc + 3 = q) (hT : mTok (mOwn M) idx 1 4 M2) (hr : mCats S ≤ 8) (hm : (mArgs (mMax M2) [v1, v2, v3, v4]).length = mMax M2) (hz1 : mCel M2 = 0) (hz2 : mSlo M2 = 0) (hct : Ct d2 M2 [v1, v2, v3, v4] h Q2) (k : ∀ r h2, Q2 r h2 → Wp (d2 + 1) M q L (r.toList ++ S) h2 b Q) : Wp (d2 + 1) M pc L (v4 :: v3 :: v2 :: v1 :: S) h b Q :=
  wp_cc hd ⟨d2, idx, 1, 4, M2, [v1, v2, v3, v4], S, Q2, rfl, rfl, rfl, hT, rfl, rfl, hr, hm, fun z => by omega, by omega, by omega, hct, fun r h2 hq2 => by
    have e : (b.1 - mCel M2, b.2 - mSlo M2) = b := by rw [hz1, hz2]; rfl
    rw [e, hq]
    exact k r h2 hq2⟩
theorem wp_s4I {d2 idx : Nat} {M2 : mM} {v1 v2 v3 v4 : mV} {x : mV} {h2 : List mC} (hd : decode (mCode M) pc = .ok (.invokestatic idx, 3)) (hq : pc + 3 = q) (hT : mTok (mOwn M) idx 1 4 M2) (hr : mCats S ≤ 8) (hm : (mArgs (mMax M2) [v1, v2, v3, v4]).length = mMax M2) (hz1 : mCel M2 = 0) (hz2 : mSlo M2 = 0) (hct : Rt d2 M2 [v1, v2, v3, v4] h (some x) h2) (k : Wp (d2 + 1) M q L (x :: S) h2 b Q) : Wp (d2 + 1) M pc L (v4 :: v3 :: v2 :: v1 :: S) h b Q :=
  wp_s4 hd hq hT hr hm hz1 hz2 hct (fun r h3 hq3 => by obtain ⟨rfl, rfl⟩ := hq3; exact k)
theorem wp_s4V {d2 idx : Nat} {M2 : mM} {v1 v2 v3 v4 : mV} {h2 : List mC} (hd : decode (mCode M) pc = .ok (.invokestatic idx, 3)) (hq : pc + 3 = q) (hT : mTok (mOwn M) idx 1 4 M2) (hr : mCats S ≤ 8) (hm : (mArgs (mMax M2) [v1, v2, v3, v4]).length = mMax M2) (hz1 : mCel M2 = 0) (hz2 : mSlo M2 = 0) (hct : Rt d2 M2 [v1, v2, v3, v4] h none h2) (k : Wp (d2 + 1) M q L S h2 b Q) : Wp (d2 + 1) M pc L (v4 :: v3 :: v2 :: v1 :: S) h b Q :=
  wp_s4 hd hq hT hr hm hz1 hz2 hct (fun r h3 hq3 => by obtain ⟨rfl, rfl⟩ := hq3; exact k)
theorem wp_s5 {d2 idx : Nat} {M2 : mM} {v1 v2 v3 v4 v5 : mV} {Q2 : Option mV → List mC → Prop} (hd : decode (mCode M) pc = .ok (.invokestatic idx, 3)) (hq : pc + 3 = q) (hT : mTok (mOwn M) idx 1 5 M2) (hr : mCats S ≤ 8) (hm : (mArgs (mMax M2) [v1, v2, v3, v4, v5]).length = mMax M2) (hz1 : mCel M2 = 0) (hz2 : mSlo M2 = 0) (hct : Ct d2 M2 [v1, v2, v3, v4, v5] h Q2) (k : ∀ r h2, Q2 r h2 → Wp (d2 + 1) M q L (r.toList ++ S) h2 b Q) : Wp (d2 + 1) M pc L (v5 :: v4 :: v3 :: v2 :: v1 :: S) h b Q :=
  wp_cc hd ⟨d2, idx, 1, 5, M2, [v1, v2, v3, v4, v5], S, Q2, rfl, rfl, rfl, hT, rfl, rfl, hr, hm, fun z => by omega, by omega, by omega, hct, fun r h2 hq2 => by
    have e : (b.1 - mCel M2, b.2 - mSlo M2) = b := by rw [hz1, hz2]; rfl
    rw [e, hq]
    exact k r h2 hq2⟩
theorem wp_s5I {d2 idx : Nat} {M2 : mM} {v1 v2 v3 v4 v5 : mV} {x : mV} {h2 : List mC} (hd : decode (mCode M) pc = .ok (.invokestatic idx, 3)) (hq : pc + 3 = q) (hT : mTok (mOwn M) idx 1 5 M2) (hr : mCats S ≤ 8) (hm : (mArgs (mMax M2) [v1, v2, v3, v4, v5]).length = mMax M2) (hz1 : mCel M2 = 0) (hz2 : mSlo M2 = 0) (hct : Rt d2 M2 [v1, v2, v3, v4, v5] h (some x) h2) (k : Wp (d2 + 1) M q L (x :: S) h2 b Q) : Wp (d2 + 1) M pc L (v5 :: v4 :: v3 :: v2 :: v1 :: S) h b Q :=
  wp_s5 hd hq hT hr hm hz1 hz2 hct (fun r h3 hq3 => by obtain ⟨rfl, rfl⟩ := hq3; exact k)
theorem wp_s5V {d2 idx : Nat} {M2 : mM} {v1 v2 v3 v4 v5 : mV} {h2 : List mC} (hd : decode (mCode M) pc = .ok (.invokestatic idx, 3)) (hq : pc + 3 = q) (hT : mTok (mOwn M) idx 1 5 M2) (hr : mCats S ≤ 8) (hm : (mArgs (mMax M2) [v1, v2, v3, v4, v5]).length = mMax M2) (hz1 : mCel M2 = 0) (hz2 : mSlo M2 = 0) (hct : Rt d2 M2 [v1, v2, v3, v4, v5] h none h2) (k : Wp (d2 + 1) M q L S h2 b Q) : Wp (d2 + 1) M pc L (v5 :: v4 :: v3 :: v2 :: v1 :: S) h b Q :=
  wp_s5 hd hq hT hr hm hz1 hz2 hct (fun r h3 hq3 => by obtain ⟨rfl, rfl⟩ := hq3; exact k)
theorem wp_n0 {d2 idx : Nat} {M2 : mM} {Q2 : Option mV → List mC → Prop} (hd : decode (mCode M) pc = .ok (.invokestatic idx, 3)) (hq : pc + 3 = q) (hT : mTok (mOwn M) idx 3 0 M2) (hr : mCats S ≤ 8) (hm : (mArgs (mMax M2) []).length = mMax M2) (hz1 : mCel M2 = 0) (hz2 : mSlo M2 = 0) (hct : Ct d2 M2 [] h Q2) (k : ∀ r h2, Q2 r h2 → Wp (d2 + 1) M q L (r.toList ++ S) h2 b Q) : Wp (d2 + 1) M pc L (S) h b Q :=
  wp_cc hd ⟨d2, idx, 3, 0, M2, [], S, Q2, rfl, rfl, rfl, hT, rfl, rfl, hr, hm, fun z => by omega, by omega, by omega, hct, fun r h2 hq2 => by
    have e : (b.1 - mCel M2, b.2 - mSlo M2) = b := by rw [hz1, hz2]; rfl
    rw [e, hq]
    exact k r h2 hq2⟩
theorem wp_n0I {d2 idx : Nat} {M2 : mM} {x : mV} {h2 : List mC} (hd : decode (mCode M) pc = .ok (.invokestatic idx, 3)) (hq : pc + 3 = q) (hT : mTok (mOwn M) idx 3 0 M2) (hr : mCats S ≤ 8) (hm : (mArgs (mMax M2) []).length = mMax M2) (hz1 : mCel M2 = 0) (hz2 : mSlo M2 = 0) (hct : Rt d2 M2 [] h (some x) h2) (k : Wp (d2 + 1) M q L (x :: S) h2 b Q) : Wp (d2 + 1) M pc L (S) h b Q :=
  wp_n0 hd hq hT hr hm hz1 hz2 hct (fun r h3 hq3 => by obtain ⟨rfl, rfl⟩ := hq3; exact k)
theorem wp_n0V {d2 idx : Nat} {M2 : mM} {h2 : List mC} (hd : decode (mCode M) pc = .ok (.invokestatic idx, 3)) (hq : pc + 3 = q) (hT : mTok (mOwn M) idx 3 0 M2) (hr : mCats S ≤ 8) (hm : (mArgs (mMax M2) []).length = mMax M2) (hz1 : mCel M2 = 0) (hz2 : mSlo M2 = 0) (hct : Rt d2 M2 [] h none h2) (k : Wp (d2 + 1) M q L S h2 b Q) : Wp (d2 + 1) M pc L (S) h b Q :=
  wp_n0 hd hq hT hr hm hz1 hz2 hct (fun r h3 hq3 => by obtain ⟨rfl, rfl⟩ := hq3; exact k)
theorem wp_n1 {d2 idx : Nat} {M2 : mM} {v1 : mV} {Q2 : Option mV → List mC → Prop} (hd : decode (mCode M) pc = .ok (.invokestatic idx, 3)) (hq : pc + 3 = q) (hT : mTok (mOwn M) idx 3 1 M2) (hr : mCats S ≤ 8) (hm : (mArgs (mMax M2) [v1]).length = mMax M2) (hz1 : mCel M2 = 0) (hz2 : mSlo M2 = 0) (hct : Ct d2 M2 [v1] h Q2) (k : ∀ r h2, Q2 r h2 → Wp (d2 + 1) M q L (r.toList ++ S) h2 b Q) : Wp (d2 + 1) M pc L (v1 :: S) h b Q :=
  wp_cc hd ⟨d2, idx, 3, 1, M2, [v1], S, Q2, rfl, rfl, rfl, hT, rfl, rfl, hr, hm, fun z => by omega, by omega, by omega, hct, fun r h2 hq2 => by
    have e : (b.1 - mCel M2, b.2 - mSlo M2) = b := by rw [hz1, hz2]; rfl
    rw [e, hq]
    exact k r h2 hq2⟩
theorem wp_n1I {d2 idx : Nat} {M2 : mM} {v1 : mV} {x : mV} {h2 : List mC} (hd : decode (mCode M) pc = .ok (.invokestatic idx, 3)) (hq : pc + 3 = q) (hT : mTok (mOwn M) idx 3 1 M2) (hr : mCats S ≤ 8) (hm : (mArgs (mMax M2) [v1]).length = mMax M2) (hz1 : mCel M2 = 0) (hz2 : mSlo M2 = 0) (hct : Rt d2 M2 [v1] h (some x) h2) (k : Wp (d2 + 1) M q L (x :: S) h2 b Q) : Wp (d2 + 1) M pc L (v1 :: S) h b Q :=
  wp_n1 hd hq hT hr hm hz1 hz2 hct (fun r h3 hq3 => by obtain ⟨rfl, rfl⟩ := hq3; exact k)
theorem wp_n1V {d2 idx : Nat} {M2 : mM} {v1 : mV} {h2 : List mC} (hd : decode (mCode M) pc = .ok (.invokestatic idx, 3)) (hq : pc + 3 = q) (hT : mTok (mOwn M) idx 3 1 M2) (hr : mCats S ≤ 8) (hm : (mArgs (mMax M2) [v1]).length = mMax M2) (hz1 : mCel M2 = 0) (hz2 : mSlo M2 = 0) (hct : Rt d2 M2 [v1] h none h2) (k : Wp (d2 + 1) M q L S h2 b Q) : Wp (d2 + 1) M pc L (v1 :: S) h b Q :=
  wp_n1 hd hq hT hr hm hz1 hz2 hct (fun r h3 hq3 => by obtain ⟨rfl, rfl⟩ := hq3; exact k)
theorem wp_n2 {d2 idx : Nat} {M2 : mM} {v1 v2 : mV} {Q2 : Option mV → List mC → Prop} (hd : decode (mCode M) pc = .ok (.invokestatic idx, 3)) (hq : pc + 3 = q) (hT : mTok (mOwn M) idx 3 2 M2) (hr : mCats S ≤ 8) (hm : (mArgs (mMax M2) [v1, v2]).length = mMax M2) (hz1 : mCel M2 = 0) (hz2 : mSlo M2 = 0) (hct : Ct d2 M2 [v1, v2] h Q2) (k : ∀ r h2, Q2 r h2 → Wp (d2 + 1) M q L (r.toList ++ S) h2 b Q) : Wp (d2 + 1) M pc L (v2 :: v1 :: S) h b Q :=
  wp_cc hd ⟨d2, idx, 3, 2, M2, [v1, v2], S, Q2, rfl, rfl, rfl, hT, rfl, rfl, hr, hm, fun z => by omega, by omega, by omega, hct, fun r h2 hq2 => by
    have e : (b.1 - mCel M2, b.2 - mSlo M2) = b := by rw [hz1, hz2]; rfl
    rw [e, hq]
    exact k r h2 hq2⟩
theorem wp_n2I {d2 idx : Nat} {M2 : mM} {v1 v2 : mV} {x : mV} {h2 : List mC} (hd : decode (mCode M) pc = .ok (.invokestatic idx, 3)) (hq : pc + 3 = q) (hT : mTok (mOwn M) idx 3 2 M2) (hr : mCats S ≤ 8) (hm : (mArgs (mMax M2) [v1, v2]).length = mMax M2) (hz1 : mCel M2 = 0) (hz2 : mSlo M2 = 0) (hct : Rt d2 M2 [v1, v2] h (some x) h2) (k : Wp (d2 + 1) M q L (x :: S) h2 b Q) : Wp (d2 + 1) M pc L (v2 :: v1 :: S) h b Q :=
  wp_n2 hd hq hT hr hm hz1 hz2 hct (fun r h3 hq3 => by obtain ⟨rfl, rfl⟩ := hq3; exact k)
theorem wp_n2V {d2 idx : Nat} {M2 : mM} {v1 v2 : mV} {h2 : List mC} (hd : decode (mCode M) pc = .ok (.invokestatic idx, 3)) (hq : pc + 3 = q) (hT : mTok (mOwn M) idx 3 2 M2) (hr : mCats S ≤ 8) (hm : (mArgs (mMax M2) [v1, v2]).length = mMax M2) (hz1 : mCel M2 = 0) (hz2 : mSlo M2 = 0) (hct : Rt d2 M2 [v1, v2] h none h2) (k : Wp (d2 + 1) M q L S h2 b Q) : Wp (d2 + 1) M pc L (v2 :: v1 :: S) h b Q :=
  wp_n2 hd hq hT hr hm hz1 hz2 hct (fun r h3 hq3 => by obtain ⟨rfl, rfl⟩ := hq3; exact k)
theorem wp_n3 {d2 idx : Nat} {M2 : mM} {v1 v2 v3 : mV} {Q2 : Option mV → List mC → Prop} (hd : decode (mCode M) pc = .ok (.invokestatic idx, 3)) (hq : pc + 3 = q) (hT : mTok (mOwn M) idx 3 3 M2) (hr : mCats S ≤ 8) (hm : (mArgs (mMax M2) [v1, v2, v3]).length = mMax M2) (hz1 : mCel M2 = 0) (hz2 : mSlo M2 = 0) (hct : Ct d2 M2 [v1, v2, v3] h Q2) (k : ∀ r h2, Q2 r h2 → Wp (d2 + 1) M q L (r.toList ++ S) h2 b Q) : Wp (d2 + 1) M pc L (v3 :: v2 :: v1 :: S) h b Q :=
  wp_cc hd ⟨d2, idx, 3, 3, M2, [v1, v2, v3], S, Q2, rfl, rfl, rfl, hT, rfl, rfl, hr, hm, fun z => by omega, by omega, by omega, hct, fun r h2 hq2 => by
    have e : (b.1 - mCel M2, b.2 - mSlo M2) = b := by rw [hz1, hz2]; rfl
    rw [e, hq]
    exact k r h2 hq2⟩
theorem wp_n3I {d2 idx : Nat} {M2 : mM} {v1 v2 v3 : mV} {x : mV} {h2 : List mC} (hd : decode (mCode M) pc = .ok (.invokestatic idx, 3)) (hq : pc + 3 = q) (hT : mTok (mOwn M) idx 3 3 M2) (hr : mCats S ≤ 8) (hm : (mArgs (mMax M2) [v1, v2, v3]).length = mMax M2) (hz1 : mCel M2 = 0) (hz2 : mSlo M2 = 0) (hct : Rt d2 M2 [v1, v2, v3] h (some x) h2) (k : Wp (d2 + 1) M q L (x :: S) h2 b Q) : Wp (d2 + 1) M pc L (v3 :: v2 :: v1 :: S) h b Q :=
  wp_n3 hd hq hT hr hm hz1 hz2 hct (fun r h3 hq3 => by obtain ⟨rfl, rfl⟩ := hq3; exact k)
theorem wp_n3V {d2 idx : Nat} {M2 : mM} {v1 v2 v3 : mV} {h2 : List mC} (hd : decode (mCode M) pc = .ok (.invokestatic idx, 3)) (hq : pc + 3 = q) (hT : mTok (mOwn M) idx 3 3 M2) (hr : mCats S ≤ 8) (hm : (mArgs (mMax M2) [v1, v2, v3]).length = mMax M2) (hz1 : mCel M2 = 0) (hz2 : mSlo M2 = 0) (hct : Rt d2 M2 [v1, v2, v3] h none h2) (k : Wp (d2 + 1) M q L S h2 b Q) : Wp (d2 + 1) M pc L (v3 :: v2 :: v1 :: S) h b Q :=
  wp_n3 hd hq hT hr hm hz1 hz2 hct (fun r h3 hq3 => by obtain ⟨rfl, rfl⟩ := hq3; exact k)
theorem wp_n4 {d2 idx : Nat} {M2 : mM} {v1 v2 v3 v4 : mV} {Q2 : Option mV → List mC → Prop} (hd : decode (mCode M) pc = .ok (.invokestatic idx, 3)) (hq : pc + 3 = q) (hT : mTok (mOwn M) idx 3 4 M2) (hr : mCats S ≤ 8) (hm : (mArgs (mMax M2) [v1, v2, v3, v4]).length = mMax M2) (hz1 : mCel M2 = 0) (hz2 : mSlo M2 = 0) (hct : Ct d2 M2 [v1, v2, v3, v4] h Q2) (k : ∀ r h2, Q2 r h2 → Wp (d2 + 1) M q L (r.toList ++ S) h2 b Q) : Wp (d2 + 1) M pc L (v4 :: v3 :: v2 :: v1 :: S) h b Q :=
  wp_cc hd ⟨d2, idx, 3, 4, M2, [v1, v2, v3, v4], S, Q2, rfl, rfl, rfl, hT, rfl, rfl, hr, hm, fun z => by omega, by omega, by omega, hct, fun r h2 hq2 => by
    have e : (b.1 - mCel M2, b.2 - mSlo M2) = b := by rw [hz1, hz2]; rfl
    rw [e, hq]
    exact k r h2 hq2⟩
theorem wp_n4I {d2 idx : Nat} {M2 : mM} {v1 v2 v3 v4 : mV} {x : mV} {h2 : List mC} (hd : decode (mCode M) pc = .ok (.invokestatic idx, 3)) (hq : pc + 3 = q) (hT : mTok (mOwn M) idx 3 4 M2) (hr : mCats S ≤ 8) (hm : (mArgs (mMax M2) [v1, v2, v3, v4]).length = mMax M2) (hz1 : mCel M2 = 0) (hz2 : mSlo M2 = 0) (hct : Rt d2 M2 [v1, v2, v3, v4] h (some x) h2) (k : Wp (d2 + 1) M q L (x :: S) h2 b Q) : Wp (d2 + 1) M pc L (v4 :: v3 :: v2 :: v1 :: S) h b Q :=
  wp_n4 hd hq hT hr hm hz1 hz2 hct (fun r h3 hq3 => by obtain ⟨rfl, rfl⟩ := hq3; exact k)
theorem wp_n4V {d2 idx : Nat} {M2 : mM} {v1 v2 v3 v4 : mV} {h2 : List mC} (hd : decode (mCode M) pc = .ok (.invokestatic idx, 3)) (hq : pc + 3 = q) (hT : mTok (mOwn M) idx 3 4 M2) (hr : mCats S ≤ 8) (hm : (mArgs (mMax M2) [v1, v2, v3, v4]).length = mMax M2) (hz1 : mCel M2 = 0) (hz2 : mSlo M2 = 0) (hct : Rt d2 M2 [v1, v2, v3, v4] h none h2) (k : Wp (d2 + 1) M q L S h2 b Q) : Wp (d2 + 1) M pc L (v4 :: v3 :: v2 :: v1 :: S) h b Q :=
  wp_n4 hd hq hT hr hm hz1 hz2 hct (fun r h3 hq3 => by obtain ⟨rfl, rfl⟩ := hq3; exact k)
theorem wp_n5 {d2 idx : Nat} {M2 : mM} {v1 v2 v3 v4 v5 : mV} {Q2 : Option mV → List mC → Prop} (hd : decode (mCode M) pc = .ok (.invokestatic idx, 3)) (hq : pc + 3 = q) (hT : mTok (mOwn M) idx 3 5 M2) (hr : mCats S ≤ 8) (hm : (mArgs (mMax M2) [v1, v2, v3, v4, v5]).length = mMax M2) (hz1 : mCel M2 = 0) (hz2 : mSlo M2 = 0) (hct : Ct d2 M2 [v1, v2, v3, v4, v5] h Q2) (k : ∀ r h2, Q2 r h2 → Wp (d2 + 1) M q L (r.toList ++ S) h2 b Q) : Wp (d2 + 1) M pc L (v5 :: v4 :: v3 :: v2 :: v1 :: S) h b Q :=
  wp_cc hd ⟨d2, idx, 3, 5, M2, [v1, v2, v3, v4, v5], S, Q2, rfl, rfl, rfl, hT, rfl, rfl, hr, hm, fun z => by omega, by omega, by omega, hct, fun r h2 hq2 => by
    have e : (b.1 - mCel M2, b.2 - mSlo M2) = b := by rw [hz1, hz2]; rfl
    rw [e, hq]
    exact k r h2 hq2⟩
theorem wp_n5I {d2 idx : Nat} {M2 : mM} {v1 v2 v3 v4 v5 : mV} {x : mV} {h2 : List mC} (hd : decode (mCode M) pc = .ok (.invokestatic idx, 3)) (hq : pc + 3 = q) (hT : mTok (mOwn M) idx 3 5 M2) (hr : mCats S ≤ 8) (hm : (mArgs (mMax M2) [v1, v2, v3, v4, v5]).length = mMax M2) (hz1 : mCel M2 = 0) (hz2 : mSlo M2 = 0) (hct : Rt d2 M2 [v1, v2, v3, v4, v5] h (some x) h2) (k : Wp (d2 + 1) M q L (x :: S) h2 b Q) : Wp (d2 + 1) M pc L (v5 :: v4 :: v3 :: v2 :: v1 :: S) h b Q :=
  wp_n5 hd hq hT hr hm hz1 hz2 hct (fun r h3 hq3 => by obtain ⟨rfl, rfl⟩ := hq3; exact k)
theorem wp_n5V {d2 idx : Nat} {M2 : mM} {v1 v2 v3 v4 v5 : mV} {h2 : List mC} (hd : decode (mCode M) pc = .ok (.invokestatic idx, 3)) (hq : pc + 3 = q) (hT : mTok (mOwn M) idx 3 5 M2) (hr : mCats S ≤ 8) (hm : (mArgs (mMax M2) [v1, v2, v3, v4, v5]).length = mMax M2) (hz1 : mCel M2 = 0) (hz2 : mSlo M2 = 0) (hct : Rt d2 M2 [v1, v2, v3, v4, v5] h none h2) (k : Wp (d2 + 1) M q L S h2 b Q) : Wp (d2 + 1) M pc L (v5 :: v4 :: v3 :: v2 :: v1 :: S) h b Q :=
  wp_n5 hd hq hT hr hm hz1 hz2 hct (fun r h3 hq3 => by obtain ⟨rfl, rfl⟩ := hq3; exact k)
theorem wp_i0 {d2 idx mc ms mc2 ms2 : Nat} {M2 : mM} {a : Nat} {fs : List mV} {Q2 : Option mV → List mC → Prop} (hd : decode (mCode M) pc = .ok (.invokespecial idx, 3)) (hq : pc + 3 = q) (hT : mTok (mOwn M) idx 2 0 M2) (hr : mCats S ≤ 8) (hm : (mArgs (mMax M2) [mR a]).length = mMax M2) (ha : 2 ≤ a) (hc : h[a]? = some (mO (mOwn M2) fs)) (hb1 : mc = mc2 + mCel M2) (hb2 : ms = ms2 + mSlo M2) (hct : Ct d2 M2 [mR a] h Q2) (hN : ∀ r h2, Q2 r h2 → r = none ∧ Q2 none h2) (k : ∀ h2, Q2 none h2 → Wp (d2 + 1) M q L S h2 (mc2, ms2) Q) : Wp (d2 + 1) M pc L (mR a :: S) h (mc, ms) Q :=
  wp_cc hd ⟨d2, idx, 2, 0, M2, [mR a], S, fun r h2 => r = none ∧ Q2 none h2, rfl, rfl, rfl, hT, rfl, rfl, hr, hm, fun _ => ⟨a, fs, rfl, ha, hc⟩, by show _ ≤ mc; omega, by show _ ≤ ms; omega, wp_post hct (fun r h2 hq2 => hN r h2 hq2), fun r h2 hq2 => by
    obtain ⟨rfl, hq3⟩ := hq2
    have e1 : mc - mCel M2 = mc2 := by omega
    have e2 : ms - mSlo M2 = ms2 := by omega
    show Wp _ M (pc + 3) L S h2 (mc - mCel M2, ms - mSlo M2) Q
    rw [e1, e2, hq]
    exact k h2 hq3⟩
theorem wp_i1 {d2 idx mc ms mc2 ms2 : Nat} {M2 : mM} {v1 : mV} {a : Nat} {fs : List mV} {Q2 : Option mV → List mC → Prop} (hd : decode (mCode M) pc = .ok (.invokespecial idx, 3)) (hq : pc + 3 = q) (hT : mTok (mOwn M) idx 2 1 M2) (hr : mCats S ≤ 8) (hm : (mArgs (mMax M2) [mR a, v1]).length = mMax M2) (ha : 2 ≤ a) (hc : h[a]? = some (mO (mOwn M2) fs)) (hb1 : mc = mc2 + mCel M2) (hb2 : ms = ms2 + mSlo M2) (hct : Ct d2 M2 [mR a, v1] h Q2) (hN : ∀ r h2, Q2 r h2 → r = none ∧ Q2 none h2) (k : ∀ h2, Q2 none h2 → Wp (d2 + 1) M q L S h2 (mc2, ms2) Q) : Wp (d2 + 1) M pc L (v1 :: mR a :: S) h (mc, ms) Q :=
  wp_cc hd ⟨d2, idx, 2, 1, M2, [mR a, v1], S, fun r h2 => r = none ∧ Q2 none h2, rfl, rfl, rfl, hT, rfl, rfl, hr, hm, fun _ => ⟨a, fs, rfl, ha, hc⟩, by show _ ≤ mc; omega, by show _ ≤ ms; omega, wp_post hct (fun r h2 hq2 => hN r h2 hq2), fun r h2 hq2 => by
    obtain ⟨rfl, hq3⟩ := hq2
    have e1 : mc - mCel M2 = mc2 := by omega
    have e2 : ms - mSlo M2 = ms2 := by omega
    show Wp _ M (pc + 3) L S h2 (mc - mCel M2, ms - mSlo M2) Q
    rw [e1, e2, hq]
    exact k h2 hq3⟩
theorem wp_i2 {d2 idx mc ms mc2 ms2 : Nat} {M2 : mM} {v1 v2 : mV} {a : Nat} {fs : List mV} {Q2 : Option mV → List mC → Prop} (hd : decode (mCode M) pc = .ok (.invokespecial idx, 3)) (hq : pc + 3 = q) (hT : mTok (mOwn M) idx 2 2 M2) (hr : mCats S ≤ 8) (hm : (mArgs (mMax M2) [mR a, v1, v2]).length = mMax M2) (ha : 2 ≤ a) (hc : h[a]? = some (mO (mOwn M2) fs)) (hb1 : mc = mc2 + mCel M2) (hb2 : ms = ms2 + mSlo M2) (hct : Ct d2 M2 [mR a, v1, v2] h Q2) (hN : ∀ r h2, Q2 r h2 → r = none ∧ Q2 none h2) (k : ∀ h2, Q2 none h2 → Wp (d2 + 1) M q L S h2 (mc2, ms2) Q) : Wp (d2 + 1) M pc L (v2 :: v1 :: mR a :: S) h (mc, ms) Q :=
  wp_cc hd ⟨d2, idx, 2, 2, M2, [mR a, v1, v2], S, fun r h2 => r = none ∧ Q2 none h2, rfl, rfl, rfl, hT, rfl, rfl, hr, hm, fun _ => ⟨a, fs, rfl, ha, hc⟩, by show _ ≤ mc; omega, by show _ ≤ ms; omega, wp_post hct (fun r h2 hq2 => hN r h2 hq2), fun r h2 hq2 => by
    obtain ⟨rfl, hq3⟩ := hq2
    have e1 : mc - mCel M2 = mc2 := by omega
    have e2 : ms - mSlo M2 = ms2 := by omega
    show Wp _ M (pc + 3) L S h2 (mc - mCel M2, ms - mSlo M2) Q
    rw [e1, e2, hq]
    exact k h2 hq3⟩
theorem wp_i3 {d2 idx mc ms mc2 ms2 : Nat} {M2 : mM} {v1 v2 v3 : mV} {a : Nat} {fs : List mV} {Q2 : Option mV → List mC → Prop} (hd : decode (mCode M) pc = .ok (.invokespecial idx, 3)) (hq : pc + 3 = q) (hT : mTok (mOwn M) idx 2 3 M2) (hr : mCats S ≤ 8) (hm : (mArgs (mMax M2) [mR a, v1, v2, v3]).length = mMax M2) (ha : 2 ≤ a) (hc : h[a]? = some (mO (mOwn M2) fs)) (hb1 : mc = mc2 + mCel M2) (hb2 : ms = ms2 + mSlo M2) (hct : Ct d2 M2 [mR a, v1, v2, v3] h Q2) (hN : ∀ r h2, Q2 r h2 → r = none ∧ Q2 none h2) (k : ∀ h2, Q2 none h2 → Wp (d2 + 1) M q L S h2 (mc2, ms2) Q) : Wp (d2 + 1) M pc L (v3 :: v2 :: v1 :: mR a :: S) h (mc, ms) Q :=
  wp_cc hd ⟨d2, idx, 2, 3, M2, [mR a, v1, v2, v3], S, fun r h2 => r = none ∧ Q2 none h2, rfl, rfl, rfl, hT, rfl, rfl, hr, hm, fun _ => ⟨a, fs, rfl, ha, hc⟩, by show _ ≤ mc; omega, by show _ ≤ ms; omega, wp_post hct (fun r h2 hq2 => hN r h2 hq2), fun r h2 hq2 => by
    obtain ⟨rfl, hq3⟩ := hq2
    have e1 : mc - mCel M2 = mc2 := by omega
    have e2 : ms - mSlo M2 = ms2 := by omega
    show Wp _ M (pc + 3) L S h2 (mc - mCel M2, ms - mSlo M2) Q
    rw [e1, e2, hq]
    exact k h2 hq3⟩
theorem wp_i4 {d2 idx mc ms mc2 ms2 : Nat} {M2 : mM} {v1 v2 v3 v4 : mV} {a : Nat} {fs : List mV} {Q2 : Option mV → List mC → Prop} (hd : decode (mCode M) pc = .ok (.invokespecial idx, 3)) (hq : pc + 3 = q) (hT : mTok (mOwn M) idx 2 4 M2) (hr : mCats S ≤ 8) (hm : (mArgs (mMax M2) [mR a, v1, v2, v3, v4]).length = mMax M2) (ha : 2 ≤ a) (hc : h[a]? = some (mO (mOwn M2) fs)) (hb1 : mc = mc2 + mCel M2) (hb2 : ms = ms2 + mSlo M2) (hct : Ct d2 M2 [mR a, v1, v2, v3, v4] h Q2) (hN : ∀ r h2, Q2 r h2 → r = none ∧ Q2 none h2) (k : ∀ h2, Q2 none h2 → Wp (d2 + 1) M q L S h2 (mc2, ms2) Q) : Wp (d2 + 1) M pc L (v4 :: v3 :: v2 :: v1 :: mR a :: S) h (mc, ms) Q :=
  wp_cc hd ⟨d2, idx, 2, 4, M2, [mR a, v1, v2, v3, v4], S, fun r h2 => r = none ∧ Q2 none h2, rfl, rfl, rfl, hT, rfl, rfl, hr, hm, fun _ => ⟨a, fs, rfl, ha, hc⟩, by show _ ≤ mc; omega, by show _ ≤ ms; omega, wp_post hct (fun r h2 hq2 => hN r h2 hq2), fun r h2 hq2 => by
    obtain ⟨rfl, hq3⟩ := hq2
    have e1 : mc - mCel M2 = mc2 := by omega
    have e2 : ms - mSlo M2 = ms2 := by omega
    show Wp _ M (pc + 3) L S h2 (mc - mCel M2, ms - mSlo M2) Q
    rw [e1, e2, hq]
    exact k h2 hq3⟩
theorem wp_i5 {d2 idx mc ms mc2 ms2 : Nat} {M2 : mM} {v1 v2 v3 v4 v5 : mV} {a : Nat} {fs : List mV} {Q2 : Option mV → List mC → Prop} (hd : decode (mCode M) pc = .ok (.invokespecial idx, 3)) (hq : pc + 3 = q) (hT : mTok (mOwn M) idx 2 5 M2) (hr : mCats S ≤ 8) (hm : (mArgs (mMax M2) [mR a, v1, v2, v3, v4, v5]).length = mMax M2) (ha : 2 ≤ a) (hc : h[a]? = some (mO (mOwn M2) fs)) (hb1 : mc = mc2 + mCel M2) (hb2 : ms = ms2 + mSlo M2) (hct : Ct d2 M2 [mR a, v1, v2, v3, v4, v5] h Q2) (hN : ∀ r h2, Q2 r h2 → r = none ∧ Q2 none h2) (k : ∀ h2, Q2 none h2 → Wp (d2 + 1) M q L S h2 (mc2, ms2) Q) : Wp (d2 + 1) M pc L (v5 :: v4 :: v3 :: v2 :: v1 :: mR a :: S) h (mc, ms) Q :=
  wp_cc hd ⟨d2, idx, 2, 5, M2, [mR a, v1, v2, v3, v4, v5], S, fun r h2 => r = none ∧ Q2 none h2, rfl, rfl, rfl, hT, rfl, rfl, hr, hm, fun _ => ⟨a, fs, rfl, ha, hc⟩, by show _ ≤ mc; omega, by show _ ≤ ms; omega, wp_post hct (fun r h2 hq2 => hN r h2 hq2), fun r h2 hq2 => by
    obtain ⟨rfl, hq3⟩ := hq2
    have e1 : mc - mCel M2 = mc2 := by omega
    have e2 : ms - mSlo M2 = ms2 := by omega
    show Wp _ M (pc + 3) L S h2 (mc - mCel M2, ms - mSlo M2) Q
    rw [e1, e2, hq]
    exact k h2 hq3⟩
end WPR
end

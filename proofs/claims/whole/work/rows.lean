section
-- ===== PART A: goes FIRST, ahead of the names: the tables' words, and 'selects' of the private methods out of them =====
/-- a private method of a class that the tables say can be made, by its rows of tables_1 -/
def lw_okq (q : MethodName × Nat) : Prop := (q.1.cls ≠ "java/lang/invoke/MethodHandle" ∧ q.1.cls ≠ "java/lang/invoke/VarHandle") ∧ Cond.instantiable q.1.cls q.2 ∈ tables_1 ∧ Cond.privateMethod q.1 ∈ tables_1 ∧ Cond.instanceMethod q.1 ∈ tables_1
theorem lw_p0 : lw_okq (⟨"SpringBeads$Tape", "readToken", "()V"⟩, 8) := ⟨⟨by decide +kernel, by decide +kernel⟩, List.mem_of_getElem? (i := 93) (by decide +kernel), List.mem_of_getElem? (i := 228) (by decide +kernel), List.mem_of_getElem? (i := 229) (by decide +kernel)⟩
theorem lw_p1 : lw_okq (⟨"SpringBeads$Tape", "runOf", "(CC)I"⟩, 8) := ⟨⟨by decide +kernel, by decide +kernel⟩, List.mem_of_getElem? (i := 93) (by decide +kernel), List.mem_of_getElem? (i := 232) (by decide +kernel), List.mem_of_getElem? (i := 233) (by decide +kernel)⟩
theorem lw_p2 : lw_okq (⟨"SpringBeads$Tape", "blame", "(I)V"⟩, 8) := ⟨⟨by decide +kernel, by decide +kernel⟩, List.mem_of_getElem? (i := 93) (by decide +kernel), List.mem_of_getElem? (i := 239) (by decide +kernel), List.mem_of_getElem? (i := 240) (by decide +kernel)⟩
theorem lw_p3 : lw_okq (⟨"SpringBeads$Tape", "takeLine", "(LSpringBeads$Chain;)V"⟩, 8) := ⟨⟨by decide +kernel, by decide +kernel⟩, List.mem_of_getElem? (i := 93) (by decide +kernel), List.mem_of_getElem? (i := 243) (by decide +kernel), List.mem_of_getElem? (i := 244) (by decide +kernel)⟩
theorem lw_p4 : lw_okq (⟨"SpringBeads$Tape", "wordRead", "()I"⟩, 8) := ⟨⟨by decide +kernel, by decide +kernel⟩, List.mem_of_getElem? (i := 93) (by decide +kernel), List.mem_of_getElem? (i := 247) (by decide +kernel), List.mem_of_getElem? (i := 248) (by decide +kernel)⟩
theorem lw_p5 : lw_okq (⟨"SpringBeads$Tape", "isSpelt", "(Ljava/lang/String;)Z"⟩, 8) := ⟨⟨by decide +kernel, by decide +kernel⟩, List.mem_of_getElem? (i := 93) (by decide +kernel), List.mem_of_getElem? (i := 261) (by decide +kernel), List.mem_of_getElem? (i := 262) (by decide +kernel)⟩
theorem lw_p6 : lw_okq (⟨"SpringBeads$Tape", "takeDrag", "(LSpringBeads$Chain;)V"⟩, 8) := ⟨⟨by decide +kernel, by decide +kernel⟩, List.mem_of_getElem? (i := 93) (by decide +kernel), List.mem_of_getElem? (i := 313) (by decide +kernel), List.mem_of_getElem? (i := 314) (by decide +kernel)⟩
theorem lw_p7 : lw_okq (⟨"SpringBeads$Tape", "takeNumber", "(II)I"⟩, 8) := ⟨⟨by decide +kernel, by decide +kernel⟩, List.mem_of_getElem? (i := 93) (by decide +kernel), List.mem_of_getElem? (i := 317) (by decide +kernel), List.mem_of_getElem? (i := 318) (by decide +kernel)⟩
theorem lw_p8 : lw_okq (⟨"SpringBeads$Tape", "numberRead", "()I"⟩, 8) := ⟨⟨by decide +kernel, by decide +kernel⟩, List.mem_of_getElem? (i := 93) (by decide +kernel), List.mem_of_getElem? (i := 321) (by decide +kernel), List.mem_of_getElem? (i := 322) (by decide +kernel)⟩
theorem lw_p9 : lw_okq (⟨"SpringBeads$Tape", "takeSemicolon", "()V"⟩, 8) := ⟨⟨by decide +kernel, by decide +kernel⟩, List.mem_of_getElem? (i := 93) (by decide +kernel), List.mem_of_getElem? (i := 326) (by decide +kernel), List.mem_of_getElem? (i := 327) (by decide +kernel)⟩
theorem lw_p10 : lw_okq (⟨"SpringBeads$Tape", "takeKnock", "(LSpringBeads$Chain;Z)V"⟩, 8) := ⟨⟨by decide +kernel, by decide +kernel⟩, List.mem_of_getElem? (i := 93) (by decide +kernel), List.mem_of_getElem? (i := 330) (by decide +kernel), List.mem_of_getElem? (i := 331) (by decide +kernel)⟩
theorem lw_p11 : lw_okq (⟨"SpringBeads$Tape", "takeBead", "(LSpringBeads$Chain;I)V"⟩, 8) := ⟨⟨by decide +kernel, by decide +kernel⟩, List.mem_of_getElem? (i := 93) (by decide +kernel), List.mem_of_getElem? (i := 338) (by decide +kernel), List.mem_of_getElem? (i := 339) (by decide +kernel)⟩
theorem lw_p12 : lw_okq (⟨"SpringBeads$Chain", "slowed", "(I)I"⟩, 16) := ⟨⟨by decide +kernel, by decide +kernel⟩, List.mem_of_getElem? (i := 22) (by decide +kernel), List.mem_of_getElem? (i := 472) (by decide +kernel), List.mem_of_getElem? (i := 473) (by decide +kernel)⟩
theorem lw_p13 : lw_okq (⟨"SpringBeads$Chain", "goOn", "(II)V"⟩, 16) := ⟨⟨by decide +kernel, by decide +kernel⟩, List.mem_of_getElem? (i := 22) (by decide +kernel), List.mem_of_getElem? (i := 477) (by decide +kernel), List.mem_of_getElem? (i := 478) (by decide +kernel)⟩
theorem lw_p14 : lw_okq (⟨"SpringBeads", "steadiest", "(IIII)I"⟩, 10) := ⟨⟨by decide +kernel, by decide +kernel⟩, List.mem_of_getElem? (i := 14) (by decide +kernel), List.mem_of_getElem? (i := 513) (by decide +kernel), List.mem_of_getElem? (i := 514) (by decide +kernel)⟩
theorem lw_p15 : lw_okq (⟨"SpringBeads", "tryWith", "(III)V"⟩, 10) := ⟨⟨by decide +kernel, by decide +kernel⟩, List.mem_of_getElem? (i := 14) (by decide +kernel), List.mem_of_getElem? (i := 517) (by decide +kernel), List.mem_of_getElem? (i := 518) (by decide +kernel)⟩
def lw_privs_1 : List (MethodName × Nat) := [(⟨"SpringBeads$Tape", "readToken", "()V"⟩, 8), (⟨"SpringBeads$Tape", "runOf", "(CC)I"⟩, 8), (⟨"SpringBeads$Tape", "blame", "(I)V"⟩, 8), (⟨"SpringBeads$Tape", "takeLine", "(LSpringBeads$Chain;)V"⟩, 8), (⟨"SpringBeads$Tape", "wordRead", "()I"⟩, 8), (⟨"SpringBeads$Tape", "isSpelt", "(Ljava/lang/String;)Z"⟩, 8), (⟨"SpringBeads$Tape", "takeDrag", "(LSpringBeads$Chain;)V"⟩, 8), (⟨"SpringBeads$Tape", "takeNumber", "(II)I"⟩, 8), (⟨"SpringBeads$Tape", "numberRead", "()I"⟩, 8), (⟨"SpringBeads$Tape", "takeSemicolon", "()V"⟩, 8), (⟨"SpringBeads$Tape", "takeKnock", "(LSpringBeads$Chain;Z)V"⟩, 8), (⟨"SpringBeads$Tape", "takeBead", "(LSpringBeads$Chain;I)V"⟩, 8), (⟨"SpringBeads$Chain", "slowed", "(I)I"⟩, 16), (⟨"SpringBeads$Chain", "goOn", "(II)V"⟩, 16), (⟨"SpringBeads", "steadiest", "(IIII)I"⟩, 10), (⟨"SpringBeads", "tryWith", "(III)V"⟩, 10)]
theorem lw_r1 : ∀ q ∈ lw_privs_1, lw_okq q := List.forall_mem_cons.mpr ⟨lw_p0, List.forall_mem_cons.mpr ⟨lw_p1, List.forall_mem_cons.mpr ⟨lw_p2, List.forall_mem_cons.mpr ⟨lw_p3, List.forall_mem_cons.mpr ⟨lw_p4, List.forall_mem_cons.mpr ⟨lw_p5, List.forall_mem_cons.mpr ⟨lw_p6, List.forall_mem_cons.mpr ⟨lw_p7, List.forall_mem_cons.mpr ⟨lw_p8, List.forall_mem_cons.mpr ⟨lw_p9, List.forall_mem_cons.mpr ⟨lw_p10, List.forall_mem_cons.mpr ⟨lw_p11, List.forall_mem_cons.mpr ⟨lw_p12, List.forall_mem_cons.mpr ⟨lw_p13, List.forall_mem_cons.mpr ⟨lw_p14, List.forall_mem_cons.mpr ⟨lw_p15, fun _ h => absurd h List.not_mem_nil⟩⟩⟩⟩⟩⟩⟩⟩⟩⟩⟩⟩⟩⟩⟩⟩
theorem lw_p16 : lw_okq (⟨"SpringBeads", "swingAsItIs", "(I)I"⟩, 10) := ⟨⟨by decide +kernel, by decide +kernel⟩, List.mem_of_getElem? (i := 14) (by decide +kernel), List.mem_of_getElem? (i := 537) (by decide +kernel), List.mem_of_getElem? (i := 538) (by decide +kernel)⟩
theorem lw_p17 : lw_okq (⟨"SpringBeads", "runMissing", "(II)V"⟩, 10) := ⟨⟨by decide +kernel, by decide +kernel⟩, List.mem_of_getElem? (i := 14) (by decide +kernel), List.mem_of_getElem? (i := 555) (by decide +kernel), List.mem_of_getElem? (i := 556) (by decide +kernel)⟩
theorem lw_p18 : lw_okq (⟨"SpringBeads", "asSeenBits", "(II)I"⟩, 10) := ⟨⟨by decide +kernel, by decide +kernel⟩, List.mem_of_getElem? (i := 14) (by decide +kernel), List.mem_of_getElem? (i := 593) (by decide +kernel), List.mem_of_getElem? (i := 594) (by decide +kernel)⟩
theorem lw_p19 : lw_okq (⟨"SpringBeads$Seen", "latestTick", "()I"⟩, 4) := ⟨⟨by decide +kernel, by decide +kernel⟩, List.mem_of_getElem? (i := 129) (by decide +kernel), List.mem_of_getElem? (i := 601) (by decide +kernel), List.mem_of_getElem? (i := 602) (by decide +kernel)⟩
theorem lw_p20 : lw_okq (⟨"SpringBeads$Seen", "agrees", "(LSpringBeads$Chain;I)Z"⟩, 4) := ⟨⟨by decide +kernel, by decide +kernel⟩, List.mem_of_getElem? (i := 129) (by decide +kernel), List.mem_of_getElem? (i := 606) (by decide +kernel), List.mem_of_getElem? (i := 607) (by decide +kernel)⟩
theorem lw_p21 : lw_okq (⟨"SpringBeads", "traceStiffs", "(II)V"⟩, 10) := ⟨⟨by decide +kernel, by decide +kernel⟩, List.mem_of_getElem? (i := 14) (by decide +kernel), List.mem_of_getElem? (i := 620) (by decide +kernel), List.mem_of_getElem? (i := 621) (by decide +kernel)⟩
theorem lw_p22 : lw_okq (⟨"SpringBeads", "mostAlike", "(II)I"⟩, 10) := ⟨⟨by decide +kernel, by decide +kernel⟩, List.mem_of_getElem? (i := 14) (by decide +kernel), List.mem_of_getElem? (i := 624) (by decide +kernel), List.mem_of_getElem? (i := 625) (by decide +kernel)⟩
theorem lw_p23 : lw_okq (⟨"SpringBeads", "imageOf", "(I)LSpringBeads$Chain;"⟩, 10) := ⟨⟨by decide +kernel, by decide +kernel⟩, List.mem_of_getElem? (i := 14) (by decide +kernel), List.mem_of_getElem? (i := 638) (by decide +kernel), List.mem_of_getElem? (i := 639) (by decide +kernel)⟩
theorem lw_p24 : lw_okq (⟨"SpringBeads$Sheets", "faultAs", "(II)I"⟩, 3) := ⟨⟨by decide +kernel, by decide +kernel⟩, List.mem_of_getElem? (i := 149) (by decide +kernel), List.mem_of_getElem? (i := 679) (by decide +kernel), List.mem_of_getElem? (i := 680) (by decide +kernel)⟩
theorem lw_p25 : lw_okq (⟨"SpringBeadsModel", "readsOn", "()V"⟩, 28) := ⟨⟨by decide +kernel, by decide +kernel⟩, List.mem_of_getElem? (i := 699) (by decide +kernel), List.mem_of_getElem? (i := 806) (by decide +kernel), List.mem_of_getElem? (i := 807) (by decide +kernel)⟩
theorem lw_p26 : lw_okq (⟨"SpringBeadsModel", "byteAt", "(I)I"⟩, 28) := ⟨⟨by decide +kernel, by decide +kernel⟩, List.mem_of_getElem? (i := 699) (by decide +kernel), List.mem_of_getElem? (i := 810) (by decide +kernel), List.mem_of_getElem? (i := 811) (by decide +kernel)⟩
theorem lw_p27 : lw_okq (⟨"SpringBeadsModel", "fails", "(I)V"⟩, 28) := ⟨⟨by decide +kernel, by decide +kernel⟩, List.mem_of_getElem? (i := 699) (by decide +kernel), List.mem_of_getElem? (i := 818) (by decide +kernel), List.mem_of_getElem? (i := 819) (by decide +kernel)⟩
theorem lw_p28 : lw_okq (⟨"SpringBeadsModel", "readLine", "()V"⟩, 28) := ⟨⟨by decide +kernel, by decide +kernel⟩, List.mem_of_getElem? (i := 699) (by decide +kernel), List.mem_of_getElem? (i := 822) (by decide +kernel), List.mem_of_getElem? (i := 823) (by decide +kernel)⟩
theorem lw_p29 : lw_okq (⟨"SpringBeadsModel", "nameHere", "()I"⟩, 28) := ⟨⟨by decide +kernel, by decide +kernel⟩, List.mem_of_getElem? (i := 699) (by decide +kernel), List.mem_of_getElem? (i := 826) (by decide +kernel), List.mem_of_getElem? (i := 827) (by decide +kernel)⟩
theorem lw_p30 : lw_okq (⟨"SpringBeadsModel", "readMore", "(I)V"⟩, 28) := ⟨⟨by decide +kernel, by decide +kernel⟩, List.mem_of_getElem? (i := 699) (by decide +kernel), List.mem_of_getElem? (i := 831) (by decide +kernel), List.mem_of_getElem? (i := 832) (by decide +kernel)⟩
theorem lw_p31 : lw_okq (⟨"SpringBeadsModel", "number", "(II)I"⟩, 28) := ⟨⟨by decide +kernel, by decide +kernel⟩, List.mem_of_getElem? (i := 699) (by decide +kernel), List.mem_of_getElem? (i := 835) (by decide +kernel), List.mem_of_getElem? (i := 836) (by decide +kernel)⟩
def lw_privs_2 : List (MethodName × Nat) := [(⟨"SpringBeads", "swingAsItIs", "(I)I"⟩, 10), (⟨"SpringBeads", "runMissing", "(II)V"⟩, 10), (⟨"SpringBeads", "asSeenBits", "(II)I"⟩, 10), (⟨"SpringBeads$Seen", "latestTick", "()I"⟩, 4), (⟨"SpringBeads$Seen", "agrees", "(LSpringBeads$Chain;I)Z"⟩, 4), (⟨"SpringBeads", "traceStiffs", "(II)V"⟩, 10), (⟨"SpringBeads", "mostAlike", "(II)I"⟩, 10), (⟨"SpringBeads", "imageOf", "(I)LSpringBeads$Chain;"⟩, 10), (⟨"SpringBeads$Sheets", "faultAs", "(II)I"⟩, 3), (⟨"SpringBeadsModel", "readsOn", "()V"⟩, 28), (⟨"SpringBeadsModel", "byteAt", "(I)I"⟩, 28), (⟨"SpringBeadsModel", "fails", "(I)V"⟩, 28), (⟨"SpringBeadsModel", "readLine", "()V"⟩, 28), (⟨"SpringBeadsModel", "nameHere", "()I"⟩, 28), (⟨"SpringBeadsModel", "readMore", "(I)V"⟩, 28), (⟨"SpringBeadsModel", "number", "(II)I"⟩, 28)]
theorem lw_r2 : ∀ q ∈ lw_privs_2, lw_okq q := List.forall_mem_cons.mpr ⟨lw_p16, List.forall_mem_cons.mpr ⟨lw_p17, List.forall_mem_cons.mpr ⟨lw_p18, List.forall_mem_cons.mpr ⟨lw_p19, List.forall_mem_cons.mpr ⟨lw_p20, List.forall_mem_cons.mpr ⟨lw_p21, List.forall_mem_cons.mpr ⟨lw_p22, List.forall_mem_cons.mpr ⟨lw_p23, List.forall_mem_cons.mpr ⟨lw_p24, List.forall_mem_cons.mpr ⟨lw_p25, List.forall_mem_cons.mpr ⟨lw_p26, List.forall_mem_cons.mpr ⟨lw_p27, List.forall_mem_cons.mpr ⟨lw_p28, List.forall_mem_cons.mpr ⟨lw_p29, List.forall_mem_cons.mpr ⟨lw_p30, List.forall_mem_cons.mpr ⟨lw_p31, fun _ h => absurd h List.not_mem_nil⟩⟩⟩⟩⟩⟩⟩⟩⟩⟩⟩⟩⟩⟩⟩⟩
theorem lw_p32 : lw_okq (⟨"SpringBeadsModel", "lastOn", "(I)I"⟩, 28) := ⟨⟨by decide +kernel, by decide +kernel⟩, List.mem_of_getElem? (i := 699) (by decide +kernel), List.mem_of_getElem? (i := 847) (by decide +kernel), List.mem_of_getElem? (i := 848) (by decide +kernel)⟩
theorem lw_p33 : lw_okq (⟨"SpringBeadsModel", "isBead", "(I)Z"⟩, 28) := ⟨⟨by decide +kernel, by decide +kernel⟩, List.mem_of_getElem? (i := 699) (by decide +kernel), List.mem_of_getElem? (i := 855) (by decide +kernel), List.mem_of_getElem? (i := 856) (by decide +kernel)⟩
theorem lw_p34 : lw_okq (⟨"SpringBeadsModel", "stretchOn", "(II)I"⟩, 28) := ⟨⟨by decide +kernel, by decide +kernel⟩, List.mem_of_getElem? (i := 699) (by decide +kernel), List.mem_of_getElem? (i := 860) (by decide +kernel), List.mem_of_getElem? (i := 861) (by decide +kernel)⟩
theorem lw_p35 : lw_okq (⟨"SpringBeadsModel", "pullOn", "(II)I"⟩, 28) := ⟨⟨by decide +kernel, by decide +kernel⟩, List.mem_of_getElem? (i := 699) (by decide +kernel), List.mem_of_getElem? (i := 864) (by decide +kernel), List.mem_of_getElem? (i := 865) (by decide +kernel)⟩
theorem lw_p36 : lw_okq (⟨"SpringBeadsModel", "isKnock", "(I)Z"⟩, 28) := ⟨⟨by decide +kernel, by decide +kernel⟩, List.mem_of_getElem? (i := 699) (by decide +kernel), List.mem_of_getElem? (i := 874) (by decide +kernel), List.mem_of_getElem? (i := 875) (by decide +kernel)⟩
theorem lw_p37 : lw_okq (⟨"SpringBeadsModel", "puts", "(ZII)I"⟩, 28) := ⟨⟨by decide +kernel, by decide +kernel⟩, List.mem_of_getElem? (i := 699) (by decide +kernel), List.mem_of_getElem? (i := 889) (by decide +kernel), List.mem_of_getElem? (i := 890) (by decide +kernel)⟩
theorem lw_p38 : lw_okq (⟨"SpringBeadsModel", "knockOn", "(III)V"⟩, 28) := ⟨⟨by decide +kernel, by decide +kernel⟩, List.mem_of_getElem? (i := 699) (by decide +kernel), List.mem_of_getElem? (i := 910) (by decide +kernel), List.mem_of_getElem? (i := 911) (by decide +kernel)⟩
theorem lw_p39 : lw_okq (⟨"SpringBeadsModel", "adds", "(II)I"⟩, 28) := ⟨⟨by decide +kernel, by decide +kernel⟩, List.mem_of_getElem? (i := 699) (by decide +kernel), List.mem_of_getElem? (i := 921) (by decide +kernel), List.mem_of_getElem? (i := 922) (by decide +kernel)⟩
theorem lw_p40 : lw_okq (⟨"SpringBeadsModel", "tickOn", "(IZ)V"⟩, 28) := ⟨⟨by decide +kernel, by decide +kernel⟩, List.mem_of_getElem? (i := 699) (by decide +kernel), List.mem_of_getElem? (i := 938) (by decide +kernel), List.mem_of_getElem? (i := 939) (by decide +kernel)⟩
theorem lw_p41 : lw_okq (⟨"SpringBeadsModel", "movesOn", "(I)V"⟩, 28) := ⟨⟨by decide +kernel, by decide +kernel⟩, List.mem_of_getElem? (i := 699) (by decide +kernel), List.mem_of_getElem? (i := 942) (by decide +kernel), List.mem_of_getElem? (i := 943) (by decide +kernel)⟩
theorem lw_p42 : lw_okq (⟨"SpringBeadsModel", "speedsOn", "(I)V"⟩, 28) := ⟨⟨by decide +kernel, by decide +kernel⟩, List.mem_of_getElem? (i := 699) (by decide +kernel), List.mem_of_getElem? (i := 946) (by decide +kernel), List.mem_of_getElem? (i := 947) (by decide +kernel)⟩
theorem lw_p43 : lw_okq (⟨"SpringBeadsModel", "placesOn", "(I)V"⟩, 28) := ⟨⟨by decide +kernel, by decide +kernel⟩, List.mem_of_getElem? (i := 699) (by decide +kernel), List.mem_of_getElem? (i := 950) (by decide +kernel), List.mem_of_getElem? (i := 951) (by decide +kernel)⟩
theorem lw_p44 : lw_okq (⟨"SpringBeadsModel", "ticksGo", "(II)I"⟩, 28) := ⟨⟨by decide +kernel, by decide +kernel⟩, List.mem_of_getElem? (i := 699) (by decide +kernel), List.mem_of_getElem? (i := 965) (by decide +kernel), List.mem_of_getElem? (i := 966) (by decide +kernel)⟩
theorem lw_p45 : lw_okq (⟨"SpringBeadsModel", "copies", "(II)V"⟩, 28) := ⟨⟨by decide +kernel, by decide +kernel⟩, List.mem_of_getElem? (i := 699) (by decide +kernel), List.mem_of_getElem? (i := 969) (by decide +kernel), List.mem_of_getElem? (i := 970) (by decide +kernel)⟩
theorem lw_p46 : lw_okq (⟨"SpringBeadsModel", "isAsked", "(III)Z"⟩, 28) := ⟨⟨by decide +kernel, by decide +kernel⟩, List.mem_of_getElem? (i := 699) (by decide +kernel), List.mem_of_getElem? (i := 989) (by decide +kernel), List.mem_of_getElem? (i := 990) (by decide +kernel)⟩
theorem lw_p47 : lw_okq (⟨"SpringBeadsModel", "leastAt", "(IIIII)I"⟩, 28) := ⟨⟨by decide +kernel, by decide +kernel⟩, List.mem_of_getElem? (i := 699) (by decide +kernel), List.mem_of_getElem? (i := 993) (by decide +kernel), List.mem_of_getElem? (i := 994) (by decide +kernel)⟩
def lw_privs_3 : List (MethodName × Nat) := [(⟨"SpringBeadsModel", "lastOn", "(I)I"⟩, 28), (⟨"SpringBeadsModel", "isBead", "(I)Z"⟩, 28), (⟨"SpringBeadsModel", "stretchOn", "(II)I"⟩, 28), (⟨"SpringBeadsModel", "pullOn", "(II)I"⟩, 28), (⟨"SpringBeadsModel", "isKnock", "(I)Z"⟩, 28), (⟨"SpringBeadsModel", "puts", "(ZII)I"⟩, 28), (⟨"SpringBeadsModel", "knockOn", "(III)V"⟩, 28), (⟨"SpringBeadsModel", "adds", "(II)I"⟩, 28), (⟨"SpringBeadsModel", "tickOn", "(IZ)V"⟩, 28), (⟨"SpringBeadsModel", "movesOn", "(I)V"⟩, 28), (⟨"SpringBeadsModel", "speedsOn", "(I)V"⟩, 28), (⟨"SpringBeadsModel", "placesOn", "(I)V"⟩, 28), (⟨"SpringBeadsModel", "ticksGo", "(II)I"⟩, 28), (⟨"SpringBeadsModel", "copies", "(II)V"⟩, 28), (⟨"SpringBeadsModel", "isAsked", "(III)Z"⟩, 28), (⟨"SpringBeadsModel", "leastAt", "(IIIII)I"⟩, 28)]
theorem lw_r3 : ∀ q ∈ lw_privs_3, lw_okq q := List.forall_mem_cons.mpr ⟨lw_p32, List.forall_mem_cons.mpr ⟨lw_p33, List.forall_mem_cons.mpr ⟨lw_p34, List.forall_mem_cons.mpr ⟨lw_p35, List.forall_mem_cons.mpr ⟨lw_p36, List.forall_mem_cons.mpr ⟨lw_p37, List.forall_mem_cons.mpr ⟨lw_p38, List.forall_mem_cons.mpr ⟨lw_p39, List.forall_mem_cons.mpr ⟨lw_p40, List.forall_mem_cons.mpr ⟨lw_p41, List.forall_mem_cons.mpr ⟨lw_p42, List.forall_mem_cons.mpr ⟨lw_p43, List.forall_mem_cons.mpr ⟨lw_p44, List.forall_mem_cons.mpr ⟨lw_p45, List.forall_mem_cons.mpr ⟨lw_p46, List.forall_mem_cons.mpr ⟨lw_p47, fun _ h => absurd h List.not_mem_nil⟩⟩⟩⟩⟩⟩⟩⟩⟩⟩⟩⟩⟩⟩⟩⟩
theorem lw_p48 : lw_okq (⟨"SpringBeadsModel", "byMisses", "(IIII)J"⟩, 28) := ⟨⟨by decide +kernel, by decide +kernel⟩, List.mem_of_getElem? (i := 699) (by decide +kernel), List.mem_of_getElem? (i := 1026) (by decide +kernel), List.mem_of_getElem? (i := 1027) (by decide +kernel)⟩
theorem lw_p49 : lw_okq (⟨"SpringBeadsModel", "numbersAt", "(III)I"⟩, 28) := ⟨⟨by decide +kernel, by decide +kernel⟩, List.mem_of_getElem? (i := 699) (by decide +kernel), List.mem_of_getElem? (i := 1050) (by decide +kernel), List.mem_of_getElem? (i := 1051) (by decide +kernel)⟩
theorem lw_p50 : lw_okq (⟨"SpringBeadsModel", "isAsSeen", "(II)Z"⟩, 28) := ⟨⟨by decide +kernel, by decide +kernel⟩, List.mem_of_getElem? (i := 699) (by decide +kernel), List.mem_of_getElem? (i := 1054) (by decide +kernel), List.mem_of_getElem? (i := 1055) (by decide +kernel)⟩
theorem lw_p51 : lw_okq (⟨"SpringBeadsModel", "worstAt", "(II)I"⟩, 28) := ⟨⟨by decide +kernel, by decide +kernel⟩, List.mem_of_getElem? (i := 699) (by decide +kernel), List.mem_of_getElem? (i := 1066) (by decide +kernel), List.mem_of_getElem? (i := 1067) (by decide +kernel)⟩
def lw_privs_4 : List (MethodName × Nat) := [(⟨"SpringBeadsModel", "byMisses", "(IIII)J"⟩, 28), (⟨"SpringBeadsModel", "numbersAt", "(III)I"⟩, 28), (⟨"SpringBeadsModel", "isAsSeen", "(II)Z"⟩, 28), (⟨"SpringBeadsModel", "worstAt", "(II)I"⟩, 28)]
theorem lw_r4 : ∀ q ∈ lw_privs_4, lw_okq q := List.forall_mem_cons.mpr ⟨lw_p48, List.forall_mem_cons.mpr ⟨lw_p49, List.forall_mem_cons.mpr ⟨lw_p50, List.forall_mem_cons.mpr ⟨lw_p51, fun _ h => absurd h List.not_mem_nil⟩⟩⟩⟩
def lw_privs : List (MethodName × Nat) := lw_privs_1 ++ (lw_privs_2 ++ (lw_privs_3 ++ (lw_privs_4)))
def lw_tbl : List Cond := k2_sels lw_privs ++ tables_1
theorem lw_privs_ok : ∀ q ∈ lw_privs, lw_okq q := by
  show ∀ q ∈ lw_privs_1 ++ (lw_privs_2 ++ (lw_privs_3 ++ (lw_privs_4))), lw_okq q
  exact List.forall_mem_append.mpr ⟨lw_r1, List.forall_mem_append.mpr ⟨lw_r2, List.forall_mem_append.mpr ⟨lw_r3, lw_r4⟩⟩⟩
end
section
/-! ===== BEGIN words of one list among another's, by their places ===== -/
theorem goodIn_r {big : List Cond} (ws : List Cond) (ps : List Nat) (hp : ws = ps.filterMap (fun i => big[i]?)) (h : ws.all goodWord = true) : GoodIn big ws := by
  intro w hw
  have h1 := List.all_eq_true.mp h w hw
  rw [hp] at hw
  obtain ⟨i, -, hi⟩ := List.mem_filterMap.mp hw
  have hm : w ∈ big := by first | exact List.mem_of_getElem? hi | exact List.getElem?_mem hi
  exact ⟨hm, good_of_word h1⟩
theorem goodIn_app {big a b : List Cond} (ha : GoodIn big a) (hb : GoodIn big b) : GoodIn big (a ++ b) := fun w h => (List.mem_append.mp h).elim (ha w) (hb w)
theorem goodIn_ca {big a b : List Cond} {c : Cond} (ha : GoodIn big (c :: a)) (hb : GoodIn big b) : GoodIn big (c :: (a ++ b)) := fun w h => (List.mem_cons.mp h).elim (fun e => ha w (List.mem_cons.mpr (Or.inl e))) (fun h => (List.mem_append.mp h).elim (fun h => ha w (List.mem_cons.mpr (Or.inr h))) (hb w))
theorem goodIn_sub {big ws : List Cond} (hm : ∀ w ∈ ws, w ∈ big) (h : ws.all goodWord = true) : GoodIn big ws := fun w hw => ⟨hm w hw, good_of_word (List.all_eq_true.mp h w hw)⟩
/-! ===== END ===== -/

/-! ===== BEGIN new T[n][m]: the outer array a place, the inner ones among the pooled ===== -/
/-- f, but v at every address of l -/
def vr_up {α : Type} (f : Nat → α) (l : List Nat) (v : α) : Nat → α := fun a => if a ∈ l then v else f a
theorem vr_up_in {α : Type} {f : Nat → α} {l : List Nat} {v : α} {a : Nat} (h : a ∈ l) : vr_up f l v a = v := if_pos h
theorem vr_up_ne {α : Type} {f : Nat → α} {l : List Nat} {v : α} {a : Nat} (h : a ∉ l) : vr_up f l v a = f a := if_neg h
theorem vr_rows {L l : List Nat} {f : Nat → va_E} {e : va_E} (h : ∀ a, a ∈ l → a ∉ L) : va_pl L f ++ l.map (fun a => (a, e)) = va_pl (L ++ l) (vr_up f l e) := by
  unfold va_pl
  rw [List.map_append]
  congr 1
  · apply List.map_congr_left
    intro a ha
    rw [vr_up_ne (fun q => h a q ha)]
  · apply List.map_congr_left
    intro a ha
    rw [vr_up_in ha]
theorem vr_lay {X rows : va_W} {x : Nat × va_E} {pl : va_W} {D : va_G} {cl : List vw_C} {H : Heap} (hP : va_P D cl (((X ++ pl) ++ [x]) ++ rows) H) : va_P D cl ((X ++ [x]) ++ (pl ++ rows)) H := by
  rw [List.append_assoc (X ++ pl)] at hP
  have h := va_P.swap hP
  rw [← List.append_assoc X] at h
  have h2 := va_P.swap h
  rw [List.append_assoc (X ++ [x])] at h2
  exact h2
theorem vr_layD {X rows : va_W} {x : Nat × va_E} {pl : va_W} {A : Nat → Prop} (hD : va_D A (((X ++ pl) ++ [x]) ++ rows)) : va_D A ((X ++ [x]) ++ (pl ++ rows)) := by
  rw [List.append_assoc (X ++ pl)] at hD
  have h := va_D.swap hD
  rw [← List.append_assoc X] at h
  have h2 := va_D.swap h
  rw [List.append_assoc (X ++ [x])] at h2
  exact h2
theorem vr_outer (c : ClassId) (N h0 : Nat) : ∀ i : Nat, Jvm.Free.Multi.outerC c N h0 i = arrV c N (fun j => va_rf (if j < i then some (h0 + 1 + j) else none))
  | 0 => by
    show ({ cls := c, slots := Array.replicate N .null, vm := .none } : Cell) = _
    rw [arrV_new]
    refine congrArg (arrV c N) (funext fun j => ?_)
    simp [va_rf]
  | i + 1 => by
    show (Jvm.Free.Multi.outerC c N h0 i).setSlot i (.ref (h0 + 1 + i)) = _
    rw [vr_outer c N h0 i, arrV_store]
    refine congrArg (arrV c N) (funext fun j => ?_)
    by_cases e : j = i
    · subst e
      simp [updV, va_rf]
    · by_cases h : j < i
      · simp [updV, e, h, Nat.lt_succ_of_lt h]
      · simp [updV, e, h, show ¬ j < i + 1 by omega]
section VGM
variable {p : Program} {l : Launch} {e : Env} {R : Room} {s : State} {m : MethodId} {args : Array Value} {below : List Frame} {meth : Method} {c : Code} {H : Heap} {locs : List Loc} {cells slots : Nat} {Q : State → Prop}
variable {cc : ByteArray} {pc : Nat} {ls : Array Slot} {rest : List Value} {D : va_G} {cl : List vw_C} {A : Nat → Prop} {a : Nat} {tys : List (ClassId × FieldType)} {ws : va_W} {H0 : Heap}
theorem va_mna {X : va_W} {L : List Nat} {f : Nat → va_E} {cc : ByteArray} (hexec : p.tables.exec = Jvm.exec) (hb : c.code = cc) {own : String} {index : Nat} {ty : FieldType} {cy : ClassId} (hown : s.vm.findClass own = some m.cls) (hclink : (Cond.classLink own index ("[" ++ (FieldType.array ty).toString)).before args s = true) (hover : va_AOA ty s) (harr : (Cond.arrayClass ty).before args s = true) (hcy : s.vm.findClass (FieldType.array ty).toString = some cy)
    (hK : va_K D cl tys s) (hP : va_P D cl (X ++ va_pl L f) H) (hD : va_D A (X ++ va_pl L f)) (hS : va_S A H0 H locs) (hA : ∀ q, H0.size ≤ q → A q) {n k : Int32} {N' K' : Nat} {z : vp_A} (hn : ¬ n < 0) (hk : ¬ k < 0) (hN : n.toNatClampNeg = N') (hM : k.toNatClampNeg = K')
    (hb1 : N' * 4 ≤ 536870912) (hb2 : K' * componentBytes ty ≤ 536870912) (hb3 : K' ≤ 536870912) (hdf : fits ty (defaultValue ty) = true) (hdd : (defaultValue ty).isDefault = true) (hcells : cells + (1 + N') ≤ R.cells) (hslots : slots + (N' + N' * K') ≤ R.slots) (hz : ∀ c : ClassId, Jvm.Free.Multi.innerC c K' (defaultValue ty) = vp_cell c z) (hdg : decode cc pc = .ok (.multianewarray index 2, 4))
    (kk : ∀ (q : Nat) (r : Nat → Nat) (cA : ClassId) (H1 : Heap), (∀ i j : Nat, i < N' → j < N' → r i = r j → i = j) → (∀ i : Nat, i < N' → r i ∉ L) → va_K D cl (tys ++ [(cA, .array ty)]) s →
      va_P D cl ((X ++ [(q, .inl (cA, N', .inr (.inr (.inr (.inr (fun i => if i < N' then some (r i) else none))))))]) ++ va_pl (L ++ (List.range N').map r) (vr_up f ((List.range N').map r) (.inl (cy, z)))) H1 → va_D A ((X ++ [(q, .inl (cA, N', .inr (.inr (.inr (.inr (fun i => if i < N' then some (r i) else none))))))]) ++ va_pl (L ++ (List.range N').map r) (vr_up f ((List.range N').map r) (.inl (cy, z)))) → va_S A H0 H1 locs →
      W p l e R s m args below meth c H1 locs (cells + 1 + N') (slots + N' + N' * K') Q (F0 m (pc + 4) ls (.ref q :: rest))) : W p l e R s m args below meth c H locs cells slots Q (F0 m pc ls (.int k :: .int n :: rest)) := by
  subst hN
  subst hM
  intro T hT Xs
  obtain ⟨vm₁, cA, comp, -, fA, fC, hO, -, X', step⟩ := Xs.multianewarray2F hexec hown hclink (va_AOA.use hover) harr (g := F0 m pc ls (.int k :: .int n :: rest)) rfl (by rw [hb]; exact hdg) rfl hn hk hb1 hb2 hb3 hdf hdd hcells hslots
  have ec : some cy = some comp := hcy.symm.trans fC
  cases ec
  generalize hF : Jvm.Free.Multi.fill (T.setVm vm₁) cA cy n.toNatClampNeg k.toNatClampNeg (defaultValue ty) n.toNatClampNeg = F at X' step
  have hTh : (T.setVm vm₁).heap = H := hT
  obtain ⟨f1, f2, -, -⟩ := Jvm.Free.Multi.fill_facts (T.setVm vm₁) cA cy n.toNatClampNeg k.toNatClampNeg (defaultValue ty) n.toNatClampNeg
  rw [hF, hTh] at f1 f2
  have hold : ∀ x : Nat, x < H.size → F.heap[x]? = H[x]? := fun x hx => by
    have := Jvm.Free.Multi.fill_old (T.setVm vm₁) cA cy n.toNatClampNeg k.toNatClampNeg (defaultValue ty) (a := x) (by rw [hTh]; exact hx) n.toNatClampNeg
    rw [hF, hTh] at this
    exact this
  have hrow : ∀ j : Nat, j < n.toNatClampNeg → F.heap[H.size + 1 + j]? = some (vp_cell cy z) := fun j hj => by
    have := Jvm.Free.Multi.fill_inner (T.setVm vm₁) cA cy n.toNatClampNeg k.toNatClampNeg (defaultValue ty) n.toNatClampNeg j hj
    rw [hF, hTh, hz] at this
    exact this
  have hout : Jvm.Free.Multi.outerC cA n.toNatClampNeg H.size n.toNatClampNeg = vp_cell cA (n.toNatClampNeg, .inr (.inr (.inr (.inr (fun i => if i < n.toNatClampNeg then some (H.size + 1 + i) else none))))) := by
    rw [vp_cell_q]
    exact vr_outer cA n.toNatClampNeg H.size n.toNatClampNeg
  rw [hout] at f2
  have hlt : ∀ a, a ∈ L → a < H.size := fun a ha => by
    obtain ⟨k9, hk9⟩ := va_pl_get (X := X) (f := f) ha
    exact (hP k9 _ hk9).lt
  have hnl : ∀ i : Nat, i < n.toNatClampNeg → H.size + 1 + i ∉ L := fun i _ h => by
    have := hlt _ h
    omega
  have hnm : ∀ a, a ∈ (List.range n.toNatClampNeg).map (fun i => H.size + 1 + i) → a ∉ L := fun a ha h => by
    obtain ⟨i, -, rfl⟩ := List.mem_map.mp ha
    have := hlt _ h
    omega
  have hP0 : va_P D cl (X ++ va_pl L f) F.heap := hP.kept (fun k9 x hx => hold x.1 ((hP k9 x hx).lt))
  have hP1 : va_P D cl ((X ++ va_pl L f) ++ [(H.size, .inl (cA, n.toNatClampNeg, .inr (.inr (.inr (.inr (fun i => if i < n.toNatClampNeg then some (H.size + 1 + i) else none))))))]) F.heap := hP0.app (fun k9 x hx => by
    have h0 : k9 < 1 := (List.getElem?_eq_some_iff.mp hx).1
    rw [show k9 = 0 by omega] at hx
    cases hx
    exact f2)
  have hP2 : va_P D cl (((X ++ va_pl L f) ++ [(H.size, .inl (cA, n.toNatClampNeg, .inr (.inr (.inr (.inr (fun i => if i < n.toNatClampNeg then some (H.size + 1 + i) else none))))))]) ++ ((List.range n.toNatClampNeg).map (fun i => H.size + 1 + i)).map (fun a => (a, .inl (cy, z)))) F.heap := hP1.app (fun k9 x hx => by
    obtain ⟨a, ha, rfl⟩ := List.mem_map.mp (List.mem_of_getElem? hx)
    obtain ⟨i, hi, rfl⟩ := List.mem_map.mp ha
    exact hrow i (List.mem_range.mp hi))
  have hD2 : va_D A (((X ++ va_pl L f) ++ [(H.size, .inl (cA, n.toNatClampNeg, .inr (.inr (.inr (.inr (fun i => if i < n.toNatClampNeg then some (H.size + 1 + i) else none))))))]) ++ ((List.range n.toNatClampNeg).map (fun i => H.size + 1 + i)).map (fun a => (a, .inl (cy, z)))) := by
    have hD1 := hD.push (e := .inl (cA, n.toNatClampNeg, .inr (.inr (.inr (.inr (fun i => if i < n.toNatClampNeg then some (H.size + 1 + i) else none)))))) hP rfl (hA _ hS.1)
    generalize hW1 : (X ++ va_pl L f) ++ [(H.size, .inl (cA, n.toNatClampNeg, .inr (.inr (.inr (.inr (fun i => if i < n.toNatClampNeg then some (H.size + 1 + i) else none))))))] = W1 at hD1 hP1 ⊢
    have hle : ∀ (k9 : Nat) (x : Nat × va_E), W1[k9]? = some x → x.1 ≤ H.size := fun k9 x hx => by
      rw [← hW1] at hx
      by_cases hl : k9 < (X ++ va_pl L f).length
      · rw [List.getElem?_append_left hl] at hx
        exact Nat.le_of_lt ((hP k9 x hx).lt)
      · rw [List.getElem?_append_right (by omega)] at hx
        have h0 : k9 - (X ++ va_pl L f).length < 1 := (List.getElem?_eq_some_iff.mp hx).1
        rw [show k9 - (X ++ va_pl L f).length = 0 by omega] at hx
        cases hx
        exact Nat.le_refl _
    have hr : ∀ (k9 : Nat) (x : Nat × va_E), (((List.range n.toNatClampNeg).map (fun i => H.size + 1 + i)).map (fun a => ((a, .inl (cy, z)) : Nat × va_E)))[k9]? = some x → x.1 = H.size + 1 + k9 := fun k9 x hx => by
      rw [List.getElem?_map, List.getElem?_map] at hx
      by_cases h9 : k9 < n.toNatClampNeg
      · rw [List.getElem?_range h9] at hx
        cases hx
        rfl
      · have hn0 : (List.range n.toNatClampNeg)[k9]? = none := List.getElem?_eq_none (by rw [List.length_range]; omega)
        rw [hn0] at hx
        cases hx
    refine ⟨fun i j x y hi hj hxy => ?_, fun k9 x hx => ?_⟩
    · by_cases h1 : i < W1.length <;> by_cases h2 : j < W1.length
      · rw [List.getElem?_append_left h1] at hi
        rw [List.getElem?_append_left h2] at hj
        exact hD1.1 i j x y hi hj hxy
      · rw [List.getElem?_append_left h1] at hi
        rw [List.getElem?_append_right (by omega)] at hj
        have := hle _ _ hi
        have := hr _ _ hj
        omega
      · rw [List.getElem?_append_right (by omega)] at hi
        rw [List.getElem?_append_left h2] at hj
        have := hle _ _ hj
        have := hr _ _ hi
        omega
      · rw [List.getElem?_append_right (by omega)] at hi hj
        have := hr _ _ hi
        have := hr _ _ hj
        omega
    · by_cases h1 : k9 < W1.length
      · rw [List.getElem?_append_left h1] at hx
        exact hD1.2 k9 x hx
      · rw [List.getElem?_append_right (by omega)] at hx
        have := hr _ _ hx
        exact hA _ (by have := hS.1; omega)
  have hAr : ArrOfT s cA (.array ty) := fun N9 z9 => by
    obtain ⟨-, k9, hk9, cm9, hkk9⟩ := (hO 0 0 0).1
    exact ⟨(fun q hq => by cases hq), k9, hk9, cm9, hkk9⟩
  have hK2 : va_K D cl (tys ++ [(cA, .array ty)]) s := ⟨hK.1, fun k9 x hx => by
    by_cases hl : k9 < tys.length
    · rw [List.getElem?_append_left hl] at hx
      exact hK.2 k9 x hx
    · rw [List.getElem?_append_right (by omega)] at hx
      have h0 : k9 - tys.length < 1 := (List.getElem?_eq_some_iff.mp hx).1
      rw [show k9 - tys.length = 0 by omega] at hx
      cases hx
      exact ⟨hAr, fA⟩⟩
  obtain ⟨t, a1, b1⟩ := kk H.size (fun i => H.size + 1 + i) cA F.heap (fun i j _ _ h => by have h9 : H.size + 1 + i = H.size + 1 + j := h; omega) hnl hK2 (by rw [← vr_rows hnm]; exact vr_lay hP2) (by rw [← vr_rows hnm]; exact vr_layD hD2) ⟨by rw [f1]; have := hS.1; omega, fun x h1 h2 => (hold x (Nat.lt_of_lt_of_le h1 hS.1)).trans (hS.2.1 x h1 h2), hS.2.2⟩ F rfl X'
  refine ⟨t, step t ?_, b1⟩
  have e : T.heap.size = H.size := by rw [hT]
  rw [e]
  exact a1
end VGM
/-! ===== END ===== -/

/-! ===== BEGIN printed: names, fields, word lists, decode rows ===== -/
def RX0 : String := "SpringBeads$Chain"
def TX0 : u_T := fun k => match k with
  | 0 => ("SpringBeads$Chain", "beads", "I", false)
  | 1 => ("SpringBeads$Chain", "knocks", "I", false)
  | 2 => ("SpringBeads$Chain", "drag", "I", false)
  | 3 => ("SpringBeads$Chain", "tick", "I", false)
  | 4 => ("SpringBeads$Chain", "kind", "[I", true)
  | 5 => ("SpringBeads$Chain", "rest", "[I", true)
  | 6 => ("SpringBeads$Chain", "stiff", "[I", true)
  | 7 => ("SpringBeads$Chain", "mass", "[I", true)
  | 8 => ("SpringBeads$Chain", "place", "[I", true)
  | 9 => ("SpringBeads$Chain", "speed", "[I", true)
  | 10 => ("SpringBeads$Chain", "knockBead", "[I", true)
  | 11 => ("SpringBeads$Chain", "knockBy", "[I", true)
  | 12 => ("SpringBeads$Chain", "pull", "[I", true)
  | 13 => ("SpringBeads$Chain", "gone", "I", false)
  | 14 => ("SpringBeads$Chain", "stops", "I", false)
  | _ => ("SpringBeads$Chain", "stirred", "Z", false)
def tyX0 : Nat → FieldType := fun k => match k with
  | 0 => .int
  | 1 => .int
  | 2 => .int
  | 3 => .int
  | 4 => .array .int
  | 5 => .array .int
  | 6 => .array .int
  | 7 => .array .int
  | 8 => .array .int
  | 9 => .array .int
  | 10 => .array .int
  | 11 => .array .int
  | 12 => .array .int
  | 13 => .int
  | 14 => .int
  | _ => .boolean
abbrev wsX00 : List Cond := u_ws RX0 TX0 16
theorem nmX0 : ∀ a, a < 16 → ∀ b, b < 16 → a ≠ b → (TX0 a).2.1 ≠ (TX0 b).2.1 := by decide +kernel
theorem tyX0_ok : ∀ k, k < 16 → parseFieldDescriptor (TX0 k).2.2.1 = some (tyX0 k) := by decide +kernel
abbrev cX0_init : ByteArray := prog_2_method_1_code
def yX0_init : MethodName := ⟨RX0, "<init>", "()V"⟩
abbrev cX0_clear : ByteArray := prog_2_method_2_code
def yX0_clear : MethodName := ⟨RX0, "clear", "()V"⟩
abbrev cX0_becomeLike : ByteArray := prog_2_method_3_code
def yX0_becomeLike : MethodName := ⟨RX0, "becomeLike", "(LSpringBeads$Chain;)V"⟩
abbrev cX0_has : ByteArray := prog_2_method_4_code
def yX0_has : MethodName := ⟨RX0, "has", "(I)Z"⟩
abbrev cX0_rowOf : ByteArray := prog_2_method_5_code
def yX0_rowOf : MethodName := ⟨RX0, "rowOf", "(I)[I"⟩
abbrev cX0_sumOf : ByteArray := prog_2_method_6_code
def yX0_sumOf : MethodName := ⟨RX0, "sumOf", "(I)I"⟩
abbrev cX0_lastPlace : ByteArray := prog_2_method_7_code
def yX0_lastPlace : MethodName := ⟨RX0, "lastPlace", "()I"⟩
abbrev cX0_stillBits : ByteArray := prog_2_method_8_code
def yX0_stillBits : MethodName := ⟨RX0, "stillBits", "()I"⟩
abbrev cX0_addBead : ByteArray := prog_2_method_9_code
def yX0_addBead : MethodName := ⟨RX0, "addBead", "(IIII)Z"⟩
abbrev cX0_addKnock : ByteArray := prog_2_method_10_code
def yX0_addKnock : MethodName := ⟨RX0, "addKnock", "(II)Z"⟩
abbrev cX0_changePlaces : ByteArray := prog_2_method_11_code
def yX0_changePlaces : MethodName := ⟨RX0, "changePlaces", "(II)V"⟩
abbrev cX0_stretchOf : ByteArray := prog_2_method_12_code
def yX0_stretchOf : MethodName := ⟨RX0, "stretchOf", "(I)I"⟩
abbrev cX0_pullOf : ByteArray := prog_2_method_13_code
def yX0_pullOf : MethodName := ⟨RX0, "pullOf", "(I)I"⟩
abbrev cX0_knockOnce : ByteArray := prog_2_method_14_code
def yX0_knockOnce : MethodName := ⟨RX0, "knockOnce", "(II)V"⟩
abbrev cX0_knockByPlan : ByteArray := prog_2_method_15_code
def yX0_knockByPlan : MethodName := ⟨RX0, "knockByPlan", "()V"⟩
abbrev cX0_tickOnce : ByteArray := prog_2_method_16_code
def yX0_tickOnce : MethodName := ⟨RX0, "tickOnce", "()V"⟩
abbrev cX0_tickOften : ByteArray := prog_2_method_17_code
def yX0_tickOften : MethodName := ⟨RX0, "tickOften", "(I)V"⟩
abbrev cX0_move : ByteArray := prog_2_method_18_code
def yX0_move : MethodName := ⟨RX0, "move", "()V"⟩
abbrev cX0_goOn : ByteArray := prog_2_method_19_code
def yX0_goOn : MethodName := ⟨RX0, "goOn", "(II)V"⟩
abbrev cX0_slowed : ByteArray := prog_2_method_20_code
def yX0_slowed : MethodName := ⟨RX0, "slowed", "(I)I"⟩
abbrev cX0_inBounds : ByteArray := prog_2_method_21_code
def yX0_inBounds : MethodName := ⟨RX0, "inBounds", "(I)I"⟩
abbrev cX0_greatestSwing : ByteArray := prog_2_method_22_code
def yX0_greatestSwing : MethodName := ⟨RX0, "greatestSwing", "(II)I"⟩
def RX1 : String := "SpringBeads$Seen"
def TX1 : u_T := fun k => match k with
  | 0 => ("SpringBeads$Seen", "count", "I", false)
  | 1 => ("SpringBeads$Seen", "after", "[I", true)
  | 2 => ("SpringBeads$Seen", "bead", "[I", true)
  | _ => ("SpringBeads$Seen", "place", "[I", true)
def tyX1 : Nat → FieldType := fun k => match k with
  | 0 => .int
  | 1 => .array .int
  | 2 => .array .int
  | _ => .array .int
abbrev wsX10 : List Cond := u_ws RX1 TX1 4
theorem nmX1 : ∀ a, a < 4 → ∀ b, b < 4 → a ≠ b → (TX1 a).2.1 ≠ (TX1 b).2.1 := by decide +kernel
theorem tyX1_ok : ∀ k, k < 4 → parseFieldDescriptor (TX1 k).2.2.1 = some (tyX1 k) := by decide +kernel
abbrev cX1_init : ByteArray := prog_3_method_1_code
def yX1_init : MethodName := ⟨RX1, "<init>", "()V"⟩
abbrev cX1_note : ByteArray := prog_3_method_2_code
def yX1_note : MethodName := ⟨RX1, "note", "(III)Z"⟩
abbrev cX1_isSoOf : ByteArray := prog_3_method_3_code
def yX1_isSoOf : MethodName := ⟨RX1, "isSoOf", "(LSpringBeads$Chain;)Z"⟩
abbrev cX1_latestTick : ByteArray := prog_3_method_4_code
def yX1_latestTick : MethodName := ⟨RX1, "latestTick", "()I"⟩
abbrev cX1_agrees : ByteArray := prog_3_method_5_code
def yX1_agrees : MethodName := ⟨RX1, "agrees", "(LSpringBeads$Chain;I)Z"⟩
def RX2 : String := "SpringBeads$Sheets"
def TX2 : u_T := fun k => match k with
  | 0 => ("SpringBeads$Sheets", "cells", "[[I", true)
  | 1 => ("SpringBeads$Sheets", "size", "[I", true)
  | _ => ("SpringBeads$Sheets", "laneOf", "[I", true)
def tyX2 : Nat → FieldType := fun k => match k with
  | 0 => .array (.array .int)
  | 1 => .array .int
  | _ => .array .int
abbrev wsX20 : List Cond := u_ws RX2 TX2 3
theorem nmX2 : ∀ a, a < 3 → ∀ b, b < 3 → a ≠ b → (TX2 a).2.1 ≠ (TX2 b).2.1 := by decide +kernel
theorem tyX2_ok : ∀ k, k < 3 → parseFieldDescriptor (TX2 k).2.2.1 = some (tyX2 k) := by decide +kernel
abbrev cX2_init : ByteArray := prog_4_method_1_code
def yX2_init : MethodName := ⟨RX2, "<init>", "()V"⟩
abbrev cX2_isNothing : ByteArray := prog_4_method_2_code
def yX2_isNothing : MethodName := ⟨RX2, "isNothing", "(I)Z"⟩
abbrev cX2_make : ByteArray := prog_4_method_3_code
def yX2_make : MethodName := ⟨RX2, "make", "(III)V"⟩
abbrev cX2_put : ByteArray := prog_4_method_4_code
def yX2_put : MethodName := ⟨RX2, "put", "(III)V"⟩
abbrev cX2_faultAt : ByteArray := prog_4_method_5_code
def yX2_faultAt : MethodName := ⟨RX2, "faultAt", "(II)I"⟩
abbrev cX2_faultAs : ByteArray := prog_4_method_6_code
def yX2_faultAs : MethodName := ⟨RX2, "faultAs", "(II)I"⟩
abbrev cX2_faultOfPair : ByteArray := prog_4_method_7_code
def yX2_faultOfPair : MethodName := ⟨RX2, "faultOfPair", "(IIII)I"⟩
def RX3 : String := "SpringBeads$Tape"
def TX3 : u_T := fun k => match k with
  | 0 => ("SpringBeads$Tape", "bytes", "[B", true)
  | 1 => ("SpringBeads$Tape", "length", "I", false)
  | 2 => ("SpringBeads$Tape", "fault", "I", false)
  | 3 => ("SpringBeads$Tape", "faultPlace", "I", false)
  | 4 => ("SpringBeads$Tape", "token", "I", false)
  | 5 => ("SpringBeads$Tape", "from", "I", false)
  | 6 => ("SpringBeads$Tape", "behind", "I", false)
  | _ => ("SpringBeads$Tape", "dragTold", "Z", false)
def tyX3 : Nat → FieldType := fun k => match k with
  | 0 => .array .byte
  | 1 => .int
  | 2 => .int
  | 3 => .int
  | 4 => .int
  | 5 => .int
  | 6 => .int
  | _ => .boolean
abbrev wsX30 : List Cond := u_ws RX3 TX3 8
theorem nmX3 : ∀ a, a < 8 → ∀ b, b < 8 → a ≠ b → (TX3 a).2.1 ≠ (TX3 b).2.1 := by decide +kernel
theorem tyX3_ok : ∀ k, k < 8 → parseFieldDescriptor (TX3 k).2.2.1 = some (tyX3 k) := by decide +kernel
abbrev cX3_init : ByteArray := prog_5_method_1_code
def yX3_init : MethodName := ⟨RX3, "<init>", "()V"⟩
abbrev cX3_put : ByteArray := prog_5_method_2_code
def yX3_put : MethodName := ⟨RX3, "put", "(I)Z"⟩
abbrev cX3_tellInto : ByteArray := prog_5_method_3_code
def yX3_tellInto : MethodName := ⟨RX3, "tellInto", "(LSpringBeads$Chain;)I"⟩
abbrev cX3_blame : ByteArray := prog_5_method_4_code
def yX3_blame : MethodName := ⟨RX3, "blame", "(I)V"⟩
abbrev cX3_takeLine : ByteArray := prog_5_method_5_code
def yX3_takeLine : MethodName := ⟨RX3, "takeLine", "(LSpringBeads$Chain;)V"⟩
abbrev cX3_takeBead : ByteArray := prog_5_method_6_code
def yX3_takeBead : MethodName := ⟨RX3, "takeBead", "(LSpringBeads$Chain;I)V"⟩
abbrev cX3_takeDrag : ByteArray := prog_5_method_7_code
def yX3_takeDrag : MethodName := ⟨RX3, "takeDrag", "(LSpringBeads$Chain;)V"⟩
abbrev cX3_takeKnock : ByteArray := prog_5_method_8_code
def yX3_takeKnock : MethodName := ⟨RX3, "takeKnock", "(LSpringBeads$Chain;Z)V"⟩
abbrev cX3_takeNumber : ByteArray := prog_5_method_9_code
def yX3_takeNumber : MethodName := ⟨RX3, "takeNumber", "(II)I"⟩
abbrev cX3_takeSemicolon : ByteArray := prog_5_method_10_code
def yX3_takeSemicolon : MethodName := ⟨RX3, "takeSemicolon", "()V"⟩
abbrev cX3_readToken : ByteArray := prog_5_method_11_code
def yX3_readToken : MethodName := ⟨RX3, "readToken", "()V"⟩
abbrev cX3_runOf : ByteArray := prog_5_method_12_code
def yX3_runOf : MethodName := ⟨RX3, "runOf", "(CC)I"⟩
abbrev cX3_numberRead : ByteArray := prog_5_method_13_code
def yX3_numberRead : MethodName := ⟨RX3, "numberRead", "()I"⟩
abbrev cX3_wordRead : ByteArray := prog_5_method_14_code
def yX3_wordRead : MethodName := ⟨RX3, "wordRead", "()I"⟩
abbrev cX3_wordOf : ByteArray := prog_5_method_15_code
def yX3_wordOf : MethodName := ⟨RX3, "wordOf", "(I)Ljava/lang/String;"⟩
abbrev cX3_isSpelt : ByteArray := prog_5_method_16_code
def yX3_isSpelt : MethodName := ⟨RX3, "isSpelt", "(Ljava/lang/String;)Z"⟩
def RX4 : String := "SpringBeads"
def TX4 : u_T := fun k => match k with
  | 0 => ("SpringBeads", "now", "LSpringBeads$Chain;", true)
  | 1 => ("SpringBeads", "trial", "LSpringBeads$Chain;", true)
  | 2 => ("SpringBeads", "firstImage", "LSpringBeads$Chain;", true)
  | 3 => ("SpringBeads", "secondImage", "LSpringBeads$Chain;", true)
  | 4 => ("SpringBeads", "kept", "[Z", true)
  | 5 => ("SpringBeads", "tape", "LSpringBeads$Tape;", true)
  | 6 => ("SpringBeads", "seen", "LSpringBeads$Seen;", true)
  | 7 => ("SpringBeads", "sheets", "LSpringBeads$Sheets;", true)
  | 8 => ("SpringBeads", "traces", "[[I", true)
  | _ => ("SpringBeads", "torn", "I", false)
def tyX4 : Nat → FieldType := fun k => match k with
  | 0 => .object "SpringBeads$Chain"
  | 1 => .object "SpringBeads$Chain"
  | 2 => .object "SpringBeads$Chain"
  | 3 => .object "SpringBeads$Chain"
  | 4 => .array .boolean
  | 5 => .object "SpringBeads$Tape"
  | 6 => .object "SpringBeads$Seen"
  | 7 => .object "SpringBeads$Sheets"
  | 8 => .array (.array .int)
  | _ => .int
abbrev wsX40 : List Cond := u_ws RX4 TX4 10
theorem nmX4 : ∀ a, a < 10 → ∀ b, b < 10 → a ≠ b → (TX4 a).2.1 ≠ (TX4 b).2.1 := by decide +kernel
theorem tyX4_ok : ∀ k, k < 10 → parseFieldDescriptor (TX4 k).2.2.1 = some (tyX4 k) := by decide +kernel
abbrev cX4_init : ByteArray := prog_1_method_1_code
def yX4_init : MethodName := ⟨RX4, "<init>", "()V"⟩
abbrev cX4_feed : ByteArray := prog_1_method_2_code
def yX4_feed : MethodName := ⟨RX4, "feed", "(I)I"⟩
abbrev cX4_end : ByteArray := prog_1_method_3_code
def yX4_end : MethodName := ⟨RX4, "end", "(I)I"⟩
abbrev cX4_text : ByteArray := prog_1_method_4_code
def yX4_text : MethodName := ⟨RX4, "text", "()I"⟩
abbrev cX4_fault : ByteArray := prog_1_method_5_code
def yX4_fault : MethodName := ⟨RX4, "fault", "()I"⟩
abbrev cX4_rule : ByteArray := prog_1_method_6_code
def yX4_rule : MethodName := ⟨RX4, "rule", "(I)I"⟩
abbrev cX4_bead : ByteArray := prog_1_method_7_code
def yX4_bead : MethodName := ⟨RX4, "bead", "(II)I"⟩
abbrev cX4_knock : ByteArray := prog_1_method_8_code
def yX4_knock : MethodName := ⟨RX4, "knock", "(II)I"⟩
abbrev cX4_alter : ByteArray := prog_1_method_9_code
def yX4_alter : MethodName := ⟨RX4, "alter", "(III)I"⟩
abbrev cX4_drag : ByteArray := prog_1_method_10_code
def yX4_drag : MethodName := ⟨RX4, "drag", "(I)I"⟩
abbrev cX4_bind : ByteArray := prog_1_method_11_code
def yX4_bind : MethodName := ⟨RX4, "bind", "(IIII)I"⟩
abbrev cX4_cut : ByteArray := prog_1_method_12_code
def yX4_cut : MethodName := ⟨RX4, "cut", "(I)I"⟩
abbrev cX4_hit : ByteArray := prog_1_method_13_code
def yX4_hit : MethodName := ⟨RX4, "hit", "(II)I"⟩
abbrev cX4_add : ByteArray := prog_1_method_14_code
def yX4_add : MethodName := ⟨RX4, "add", "(II)I"⟩
abbrev cX4_drop : ByteArray := prog_1_method_15_code
def yX4_drop : MethodName := ⟨RX4, "drop", "(I)I"⟩
abbrev cX4_calm : ByteArray := prog_1_method_16_code
def yX4_calm : MethodName := ⟨RX4, "calm", "()I"⟩
abbrev cX4_ticks : ByteArray := prog_1_method_17_code
def yX4_ticks : MethodName := ⟨RX4, "ticks", "(I)I"⟩
abbrev cX4_runs : ByteArray := prog_1_method_18_code
def yX4_runs : MethodName := ⟨RX4, "runs", "(II)I"⟩
abbrev cX4_ahead : ByteArray := prog_1_method_19_code
def yX4_ahead : MethodName := ⟨RX4, "ahead", "(III)I"⟩
abbrev cX4_when : ByteArray := prog_1_method_20_code
def yX4_when : MethodName := ⟨RX4, "when", "(II)I"⟩
abbrev cX4_rests : ByteArray := prog_1_method_21_code
def yX4_rests : MethodName := ⟨RX4, "rests", "()I"⟩
abbrev cX4_stiff : ByteArray := prog_1_method_22_code
def yX4_stiff : MethodName := ⟨RX4, "stiff", "(III)I"⟩
abbrev cX4_rest : ByteArray := prog_1_method_23_code
def yX4_rest : MethodName := ⟨RX4, "rest", "(III)I"⟩
abbrev cX4_kind : ByteArray := prog_1_method_24_code
def yX4_kind : MethodName := ⟨RX4, "kind", "(III)I"⟩
abbrev cX4_mass : ByteArray := prog_1_method_25_code
def yX4_mass : MethodName := ⟨RX4, "mass", "(III)I"⟩
abbrev cX4_swap : ByteArray := prog_1_method_26_code
def yX4_swap : MethodName := ⟨RX4, "swap", "(II)I"⟩
abbrev cX4_miss : ByteArray := prog_1_method_27_code
def yX4_miss : MethodName := ⟨RX4, "miss", "(II)I"⟩
abbrev cX4_swingAsItIs : ByteArray := prog_1_method_28_code
def yX4_swingAsItIs : MethodName := ⟨RX4, "swingAsItIs", "(I)I"⟩
abbrev cX4_steadiest : ByteArray := prog_1_method_29_code
def yX4_steadiest : MethodName := ⟨RX4, "steadiest", "(IIII)I"⟩
abbrev cX4_tryWith : ByteArray := prog_1_method_30_code
def yX4_tryWith : MethodName := ⟨RX4, "tryWith", "(III)V"⟩
abbrev cX4_luck : ByteArray := prog_1_method_31_code
def yX4_luck : MethodName := ⟨RX4, "luck", "(IIII)J"⟩
abbrev cX4_mean : ByteArray := prog_1_method_32_code
def yX4_mean : MethodName := ⟨RX4, "mean", "(III)J"⟩
abbrev cX4_runMissing : ByteArray := prog_1_method_33_code
def yX4_runMissing : MethodName := ⟨RX4, "runMissing", "(II)V"⟩
abbrev cX4_weightOf : ByteArray := prog_1_method_34_code
def yX4_weightOf : MethodName := ⟨RX4, "weightOf", "(III)J"⟩
abbrev cX4_power : ByteArray := prog_1_method_35_code
def yX4_power : MethodName := ⟨RX4, "power", "(II)J"⟩
abbrev cX4_partOfFraction : ByteArray := prog_1_method_36_code
def yX4_partOfFraction : MethodName := ⟨RX4, "partOfFraction", "(JJI)J"⟩
abbrev cX4_commonDivisor : ByteArray := prog_1_method_37_code
def yX4_commonDivisor : MethodName := ⟨RX4, "commonDivisor", "(JJ)J"⟩
abbrev cX4_see : ByteArray := prog_1_method_38_code
def yX4_see : MethodName := ⟨RX4, "see", "(III)I"⟩
abbrev cX4_forget : ByteArray := prog_1_method_39_code
def yX4_forget : MethodName := ⟨RX4, "forget", "(I)I"⟩
abbrev cX4_kinds : ByteArray := prog_1_method_40_code
def yX4_kinds : MethodName := ⟨RX4, "kinds", "(I)I"⟩
abbrev cX4_stiffs : ByteArray := prog_1_method_41_code
def yX4_stiffs : MethodName := ⟨RX4, "stiffs", "(I)I"⟩
abbrev cX4_ask : ByteArray := prog_1_method_42_code
def yX4_ask : MethodName := ⟨RX4, "ask", "(II)I"⟩
abbrev cX4_asSeenBits : ByteArray := prog_1_method_43_code
def yX4_asSeenBits : MethodName := ⟨RX4, "asSeenBits", "(II)I"⟩
abbrev cX4_traceStiffs : ByteArray := prog_1_method_44_code
def yX4_traceStiffs : MethodName := ⟨RX4, "traceStiffs", "(II)V"⟩
abbrev cX4_mostAlike : ByteArray := prog_1_method_45_code
def yX4_mostAlike : MethodName := ⟨RX4, "mostAlike", "(II)I"⟩
abbrev cX4_drift : ByteArray := prog_1_method_46_code
def yX4_drift : MethodName := ⟨RX4, "drift", "(III)I"⟩
abbrev cX4_keep : ByteArray := prog_1_method_47_code
def yX4_keep : MethodName := ⟨RX4, "keep", "(I)I"⟩
abbrev cX4_back : ByteArray := prog_1_method_48_code
def yX4_back : MethodName := ⟨RX4, "back", "(I)I"⟩
abbrev cX4_imageOf : ByteArray := prog_1_method_49_code
def yX4_imageOf : MethodName := ⟨RX4, "imageOf", "(I)LSpringBeads$Chain;"⟩
abbrev cX4_sheet : ByteArray := prog_1_method_50_code
def yX4_sheet : MethodName := ⟨RX4, "sheet", "(III)I"⟩
abbrev cX4_lay : ByteArray := prog_1_method_51_code
def yX4_lay : MethodName := ⟨RX4, "lay", "(III)I"⟩
abbrev cX4_read : ByteArray := prog_1_method_52_code
def yX4_read : MethodName := ⟨RX4, "read", "(IIII)I"⟩
abbrev cX4_torn : ByteArray := prog_1_method_53_code
def yX4_torn : MethodName := ⟨RX4, "torn", "()I"⟩
abbrev cX4_count : ByteArray := prog_1_method_54_code
def yX4_count : MethodName := ⟨RX4, "count", "(I)I"⟩
abbrev cX4_within : ByteArray := prog_1_method_55_code
def yX4_within : MethodName := ⟨RX4, "within", "(III)Z"⟩
def RX5 : String := "SpringBeadsModel"
def TX5 : u_T := fun k => match k with
  | 0 => ("SpringBeadsModel", "state", "[I", true)
  | 1 => ("SpringBeadsModel", "readPage", "[I", true)
  | 2 => ("SpringBeadsModel", "isDragTold", "Z", false)
  | 3 => ("SpringBeadsModel", "tape", "[I", true)
  | 4 => ("SpringBeadsModel", "taped", "I", false)
  | 5 => ("SpringBeadsModel", "fault", "I", false)
  | 6 => ("SpringBeadsModel", "broken", "I", false)
  | 7 => ("SpringBeadsModel", "brokenAt", "I", false)
  | 8 => ("SpringBeadsModel", "spot", "I", false)
  | 9 => ("SpringBeadsModel", "here", "I", false)
  | 10 => ("SpringBeadsModel", "token", "I", false)
  | 11 => ("SpringBeadsModel", "value", "I", false)
  | 12 => ("SpringBeadsModel", "ends", "[I", true)
  | 13 => ("SpringBeadsModel", "letters", "[I", true)
  | 14 => ("SpringBeadsModel", "gone", "I", false)
  | 15 => ("SpringBeadsModel", "stopped", "I", false)
  | 16 => ("SpringBeadsModel", "isChanged", "Z", false)
  | 17 => ("SpringBeadsModel", "speedWas", "[I", true)
  | 18 => ("SpringBeadsModel", "widest", "I", false)
  | 19 => ("SpringBeadsModel", "lost", "I", false)
  | 20 => ("SpringBeadsModel", "seen", "[I", true)
  | 21 => ("SpringBeadsModel", "seenMany", "I", false)
  | 22 => ("SpringBeadsModel", "placeBy", "[I", true)
  | 23 => ("SpringBeadsModel", "isKept", "[Z", true)
  | 24 => ("SpringBeadsModel", "lanes", "[I", true)
  | 25 => ("SpringBeadsModel", "lengths", "[I", true)
  | 26 => ("SpringBeadsModel", "cells", "[I", true)
  | _ => ("SpringBeadsModel", "torn", "I", false)
def tyX5 : Nat → FieldType := fun k => match k with
  | 0 => .array .int
  | 1 => .array .int
  | 2 => .boolean
  | 3 => .array .int
  | 4 => .int
  | 5 => .int
  | 6 => .int
  | 7 => .int
  | 8 => .int
  | 9 => .int
  | 10 => .int
  | 11 => .int
  | 12 => .array .int
  | 13 => .array .int
  | 14 => .int
  | 15 => .int
  | 16 => .boolean
  | 17 => .array .int
  | 18 => .int
  | 19 => .int
  | 20 => .array .int
  | 21 => .int
  | 22 => .array .int
  | 23 => .array .boolean
  | 24 => .array .int
  | 25 => .array .int
  | 26 => .array .int
  | _ => .int
abbrev wsX50 : List Cond := u_ws RX5 TX5 28
theorem nmX5 : ∀ a, a < 28 → ∀ b, b < 28 → a ≠ b → (TX5 a).2.1 ≠ (TX5 b).2.1 := by decide +kernel
theorem tyX5_ok : ∀ k, k < 28 → parseFieldDescriptor (TX5 k).2.2.1 = some (tyX5 k) := by decide +kernel
abbrev cX5_init : ByteArray := prog_7_method_1_code
def yX5_init : MethodName := ⟨RX5, "<init>", "()V"⟩
abbrev cX5_in : ByteArray := prog_7_method_3_code
def yX5_in : MethodName := ⟨RX5, "in", "(JJJ)Z"⟩
abbrev cX5_amount : ByteArray := prog_7_method_4_code
def yX5_amount : MethodName := ⟨RX5, "amount", "(I)I"⟩
abbrev cX5_feed : ByteArray := prog_7_method_5_code
def yX5_feed : MethodName := ⟨RX5, "feed", "(I)I"⟩
abbrev cX5_end : ByteArray := prog_7_method_6_code
def yX5_end : MethodName := ⟨RX5, "end", "(I)I"⟩
abbrev cX5_byteAt : ByteArray := prog_7_method_7_code
def yX5_byteAt : MethodName := ⟨RX5, "byteAt", "(I)I"⟩
abbrev cX5_fails : ByteArray := prog_7_method_8_code
def yX5_fails : MethodName := ⟨RX5, "fails", "(I)V"⟩
abbrev cX5_nameHere : ByteArray := prog_7_method_9_code
def yX5_nameHere : MethodName := ⟨RX5, "nameHere", "()I"⟩
abbrev cX5_readsOn : ByteArray := prog_7_method_10_code
def yX5_readsOn : MethodName := ⟨RX5, "readsOn", "()V"⟩
abbrev cX5_number : ByteArray := prog_7_method_11_code
def yX5_number : MethodName := ⟨RX5, "number", "(II)I"⟩
abbrev cX5_readMore : ByteArray := prog_7_method_12_code
def yX5_readMore : MethodName := ⟨RX5, "readMore", "(I)V"⟩
abbrev cX5_readLine : ByteArray := prog_7_method_13_code
def yX5_readLine : MethodName := ⟨RX5, "readLine", "()V"⟩
abbrev cX5_text : ByteArray := prog_7_method_14_code
def yX5_text : MethodName := ⟨RX5, "text", "()I"⟩
abbrev cX5_fault : ByteArray := prog_7_method_15_code
def yX5_fault : MethodName := ⟨RX5, "fault", "()I"⟩
abbrev cX5_isBead : ByteArray := prog_7_method_16_code
def yX5_isBead : MethodName := ⟨RX5, "isBead", "(I)Z"⟩
abbrev cX5_isKnock : ByteArray := prog_7_method_17_code
def yX5_isKnock : MethodName := ⟨RX5, "isKnock", "(I)Z"⟩
abbrev cX5_isLong : ByteArray := prog_7_method_18_code
def yX5_isLong : MethodName := ⟨RX5, "isLong", "(I)Z"⟩
abbrev cX5_stretchOn : ByteArray := prog_7_method_19_code
def yX5_stretchOn : MethodName := ⟨RX5, "stretchOn", "(II)I"⟩
abbrev cX5_pullOn : ByteArray := prog_7_method_20_code
def yX5_pullOn : MethodName := ⟨RX5, "pullOn", "(II)I"⟩
abbrev cX5_speedOf : ByteArray := prog_7_method_21_code
def yX5_speedOf : MethodName := ⟨RX5, "speedOf", "(I)I"⟩
abbrev cX5_knockOn : ByteArray := prog_7_method_22_code
def yX5_knockOn : MethodName := ⟨RX5, "knockOn", "(III)V"⟩
abbrev cX5_speedsOn : ByteArray := prog_7_method_23_code
def yX5_speedsOn : MethodName := ⟨RX5, "speedsOn", "(I)V"⟩
abbrev cX5_placesOn : ByteArray := prog_7_method_24_code
def yX5_placesOn : MethodName := ⟨RX5, "placesOn", "(I)V"⟩
abbrev cX5_lastOn : ByteArray := prog_7_method_25_code
def yX5_lastOn : MethodName := ⟨RX5, "lastOn", "(I)I"⟩
abbrev cX5_movesOn : ByteArray := prog_7_method_26_code
def yX5_movesOn : MethodName := ⟨RX5, "movesOn", "(I)V"⟩
abbrev cX5_tickOn : ByteArray := prog_7_method_27_code
def yX5_tickOn : MethodName := ⟨RX5, "tickOn", "(IZ)V"⟩
abbrev cX5_rule : ByteArray := prog_7_method_28_code
def yX5_rule : MethodName := ⟨RX5, "rule", "(I)I"⟩
abbrev cX5_bead : ByteArray := prog_7_method_29_code
def yX5_bead : MethodName := ⟨RX5, "bead", "(II)I"⟩
abbrev cX5_knock : ByteArray := prog_7_method_30_code
def yX5_knock : MethodName := ⟨RX5, "knock", "(II)I"⟩
abbrev cX5_puts : ByteArray := prog_7_method_31_code
def yX5_puts : MethodName := ⟨RX5, "puts", "(ZII)I"⟩
abbrev cX5_isGood : ByteArray := prog_7_method_32_code
def yX5_isGood : MethodName := ⟨RX5, "isGood", "(II)Z"⟩
abbrev cX5_alter : ByteArray := prog_7_method_33_code
def yX5_alter : MethodName := ⟨RX5, "alter", "(III)I"⟩
abbrev cX5_drag : ByteArray := prog_7_method_34_code
def yX5_drag : MethodName := ⟨RX5, "drag", "(I)I"⟩
abbrev cX5_bind : ByteArray := prog_7_method_35_code
def yX5_bind : MethodName := ⟨RX5, "bind", "(IIII)I"⟩
abbrev cX5_cut : ByteArray := prog_7_method_36_code
def yX5_cut : MethodName := ⟨RX5, "cut", "(I)I"⟩
abbrev cX5_hit : ByteArray := prog_7_method_37_code
def yX5_hit : MethodName := ⟨RX5, "hit", "(II)I"⟩
abbrev cX5_adds : ByteArray := prog_7_method_38_code
def yX5_adds : MethodName := ⟨RX5, "adds", "(II)I"⟩
abbrev cX5_add : ByteArray := prog_7_method_39_code
def yX5_add : MethodName := ⟨RX5, "add", "(II)I"⟩
abbrev cX5_drop : ByteArray := prog_7_method_40_code
def yX5_drop : MethodName := ⟨RX5, "drop", "(I)I"⟩
abbrev cX5_calm : ByteArray := prog_7_method_41_code
def yX5_calm : MethodName := ⟨RX5, "calm", "()I"⟩
abbrev cX5_ticks : ByteArray := prog_7_method_42_code
def yX5_ticks : MethodName := ⟨RX5, "ticks", "(I)I"⟩
abbrev cX5_copies : ByteArray := prog_7_method_43_code
def yX5_copies : MethodName := ⟨RX5, "copies", "(II)V"⟩
abbrev cX5_ticksGo : ByteArray := prog_7_method_44_code
def yX5_ticksGo : MethodName := ⟨RX5, "ticksGo", "(II)I"⟩
abbrev cX5_runs : ByteArray := prog_7_method_45_code
def yX5_runs : MethodName := ⟨RX5, "runs", "(II)I"⟩
abbrev cX5_ahead : ByteArray := prog_7_method_46_code
def yX5_ahead : MethodName := ⟨RX5, "ahead", "(III)I"⟩
abbrev cX5_when : ByteArray := prog_7_method_47_code
def yX5_when : MethodName := ⟨RX5, "when", "(II)I"⟩
abbrev cX5_rests : ByteArray := prog_7_method_48_code
def yX5_rests : MethodName := ⟨RX5, "rests", "()I"⟩
abbrev cX5_leastAt : ByteArray := prog_7_method_49_code
def yX5_leastAt : MethodName := ⟨RX5, "leastAt", "(IIIII)I"⟩
abbrev cX5_isAsked : ByteArray := prog_7_method_50_code
def yX5_isAsked : MethodName := ⟨RX5, "isAsked", "(III)Z"⟩
abbrev cX5_stiff : ByteArray := prog_7_method_51_code
def yX5_stiff : MethodName := ⟨RX5, "stiff", "(III)I"⟩
abbrev cX5_rest : ByteArray := prog_7_method_52_code
def yX5_rest : MethodName := ⟨RX5, "rest", "(III)I"⟩
abbrev cX5_kind : ByteArray := prog_7_method_53_code
def yX5_kind : MethodName := ⟨RX5, "kind", "(III)I"⟩
abbrev cX5_mass : ByteArray := prog_7_method_54_code
def yX5_mass : MethodName := ⟨RX5, "mass", "(III)I"⟩
abbrev cX5_swap : ByteArray := prog_7_method_55_code
def yX5_swap : MethodName := ⟨RX5, "swap", "(II)I"⟩
abbrev cX5_miss : ByteArray := prog_7_method_56_code
def yX5_miss : MethodName := ⟨RX5, "miss", "(II)I"⟩
abbrev cX5_lowest : ByteArray := prog_7_method_57_code
def yX5_lowest : MethodName := ⟨RX5, "lowest", "(JJI)J"⟩
abbrev cX5_byMisses : ByteArray := prog_7_method_58_code
def yX5_byMisses : MethodName := ⟨RX5, "byMisses", "(IIII)J"⟩
abbrev cX5_luck : ByteArray := prog_7_method_59_code
def yX5_luck : MethodName := ⟨RX5, "luck", "(IIII)J"⟩
abbrev cX5_mean : ByteArray := prog_7_method_60_code
def yX5_mean : MethodName := ⟨RX5, "mean", "(III)J"⟩
abbrev cX5_see : ByteArray := prog_7_method_61_code
def yX5_see : MethodName := ⟨RX5, "see", "(III)I"⟩
abbrev cX5_forget : ByteArray := prog_7_method_62_code
def yX5_forget : MethodName := ⟨RX5, "forget", "(I)I"⟩
abbrev cX5_isAsSeen : ByteArray := prog_7_method_63_code
def yX5_isAsSeen : MethodName := ⟨RX5, "isAsSeen", "(II)Z"⟩
abbrev cX5_numbersAt : ByteArray := prog_7_method_64_code
def yX5_numbersAt : MethodName := ⟨RX5, "numbersAt", "(III)I"⟩
abbrev cX5_kinds : ByteArray := prog_7_method_65_code
def yX5_kinds : MethodName := ⟨RX5, "kinds", "(I)I"⟩
abbrev cX5_stiffs : ByteArray := prog_7_method_66_code
def yX5_stiffs : MethodName := ⟨RX5, "stiffs", "(I)I"⟩
abbrev cX5_worstAt : ByteArray := prog_7_method_67_code
def yX5_worstAt : MethodName := ⟨RX5, "worstAt", "(II)I"⟩
abbrev cX5_ask : ByteArray := prog_7_method_68_code
def yX5_ask : MethodName := ⟨RX5, "ask", "(II)I"⟩
abbrev cX5_drift : ByteArray := prog_7_method_69_code
def yX5_drift : MethodName := ⟨RX5, "drift", "(III)I"⟩
abbrev cX5_keep : ByteArray := prog_7_method_70_code
def yX5_keep : MethodName := ⟨RX5, "keep", "(I)I"⟩
abbrev cX5_back : ByteArray := prog_7_method_71_code
def yX5_back : MethodName := ⟨RX5, "back", "(I)I"⟩
abbrev cX5_sheet : ByteArray := prog_7_method_72_code
def yX5_sheet : MethodName := ⟨RX5, "sheet", "(III)I"⟩
abbrev cX5_lay : ByteArray := prog_7_method_73_code
def yX5_lay : MethodName := ⟨RX5, "lay", "(III)I"⟩
abbrev cX5_read : ByteArray := prog_7_method_74_code
def yX5_read : MethodName := ⟨RX5, "read", "(IIII)I"⟩
abbrev cX5_torn : ByteArray := prog_7_method_75_code
def yX5_torn : MethodName := ⟨RX5, "torn", "()I"⟩
abbrev cX5_count : ByteArray := prog_7_method_76_code
def yX5_count : MethodName := ⟨RX5, "count", "(I)I"⟩
def RJ6 : String := "java/lang/Integer"
def TJ6 : u_T := fun k => match k with
  | _ => ("", "", "", false)
def tyJ6 : Nat → FieldType := fun k => match k with
  | _ => .int
abbrev wsJ60 : List Cond := u_ws RJ6 TJ6 0
theorem nmJ6 : ∀ a, a < 0 → ∀ b, b < 0 → a ≠ b → (TJ6 a).2.1 ≠ (TJ6 b).2.1 := by decide +kernel
theorem tyJ6_ok : ∀ k, k < 0 → parseFieldDescriptor (TJ6 k).2.2.1 = some (tyJ6 k) := by decide +kernel
abbrev cJ6_compare_7cf53 : ByteArray := prog_8_method_40_code
def yJ6_compare_7cf53 : MethodName := ⟨RJ6, "compare", "(II)I"⟩
abbrev cJ6_bitCount_0f7a4 : ByteArray := prog_8_method_49_code
def yJ6_bitCount_0f7a4 : MethodName := ⟨RJ6, "bitCount", "(I)I"⟩
def RJ9 : String := "java/lang/Math"
def TJ9 : u_T := fun k => match k with
  | _ => ("", "", "", false)
def tyJ9 : Nat → FieldType := fun k => match k with
  | _ => .int
abbrev wsJ90 : List Cond := u_ws RJ9 TJ9 0
theorem nmJ9 : ∀ a, a < 0 → ∀ b, b < 0 → a ≠ b → (TJ9 a).2.1 ≠ (TJ9 b).2.1 := by decide +kernel
theorem tyJ9_ok : ∀ k, k < 0 → parseFieldDescriptor (TJ9 k).2.2.1 = some (tyJ9 k) := by decide +kernel
abbrev cJ9_abs_0f7a4 : ByteArray := prog_9_method_59_code
def yJ9_abs_0f7a4 : MethodName := ⟨RJ9, "abs", "(I)I"⟩
abbrev cJ9_max_7cf53 : ByteArray := prog_9_method_65_code
def yJ9_max_7cf53 : MethodName := ⟨RJ9, "max", "(II)I"⟩
abbrev cJ9_min_7cf53 : ByteArray := prog_9_method_69_code
def yJ9_min_7cf53 : MethodName := ⟨RJ9, "min", "(II)I"⟩
def RJ0 : String := "java/lang/String"
def TJ0 : u_T := fun k => match k with
  | _ => ("", "", "", false)
def tyJ0 : Nat → FieldType := fun k => match k with
  | _ => .int
abbrev wsJ00 : List Cond := u_ws RJ0 TJ0 0
theorem nmJ0 : ∀ a, a < 0 → ∀ b, b < 0 → a ≠ b → (TJ0 a).2.1 ≠ (TJ0 b).2.1 := by decide +kernel
theorem tyJ0_ok : ∀ k, k < 0 → parseFieldDescriptor (TJ0 k).2.2.1 = some (tyJ0 k) := by decide +kernel
abbrev cJ0_length_8abf5 : ByteArray := prog_10_method_54_code
def yJ0_length_8abf5 : MethodName := ⟨RJ0, "length", "()I"⟩
abbrev cJ0_charAt_5068e : ByteArray := prog_10_method_56_code
def yJ0_charAt_5068e : MethodName := ⟨RJ0, "charAt", "(I)C"⟩
abbrev cJ0_coder_7d493 : ByteArray := prog_10_method_152_code
def yJ0_coder_7d493 : MethodName := ⟨RJ0, "coder", "()B"⟩
abbrev cJ0_isLatin1_aae02 : ByteArray := prog_10_method_154_code
def yJ0_isLatin1_aae02 : MethodName := ⟨RJ0, "isLatin1", "()Z"⟩
abbrev cJ0_checkIndex_df160 : ByteArray := prog_10_method_155_code
def yJ0_checkIndex_df160 : MethodName := ⟨RJ0, "checkIndex", "(II)V"⟩
def RJ1 : String := "java/lang/StringLatin1"
def TJ1 : u_T := fun k => match k with
  | _ => ("", "", "", false)
def tyJ1 : Nat → FieldType := fun k => match k with
  | _ => .int
abbrev wsJ10 : List Cond := u_ws RJ1 TJ1 0
theorem nmJ1 : ∀ a, a < 0 → ∀ b, b < 0 → a ≠ b → (TJ1 a).2.1 ≠ (TJ1 b).2.1 := by decide +kernel
theorem tyJ1_ok : ∀ k, k < 0 → parseFieldDescriptor (TJ1 k).2.2.1 = some (tyJ1 k) := by decide +kernel
abbrev cJ1_charAt_3b067 : ByteArray := prog_11_method_2_code
def yJ1_charAt_3b067 : MethodName := ⟨RJ1, "charAt", "([BI)C"⟩
def RJ2 : String := "java/lang/StringUTF16"
def TJ2 : u_T := fun k => match k with
  | _ => ("", "", "", false)
def tyJ2 : Nat → FieldType := fun k => match k with
  | _ => .int
abbrev wsJ20 : List Cond := u_ws RJ2 TJ2 0
theorem nmJ2 : ∀ a, a < 0 → ∀ b, b < 0 → a ≠ b → (TJ2 a).2.1 ≠ (TJ2 b).2.1 := by decide +kernel
theorem tyJ2_ok : ∀ k, k < 0 → parseFieldDescriptor (TJ2 k).2.2.1 = some (tyJ2 k) := by decide +kernel
abbrev cJ2_getChar_3b067 : ByteArray := prog_12_method_5_code
def yJ2_getChar_3b067 : MethodName := ⟨RJ2, "getChar", "([BI)C"⟩
abbrev cJ2_length_9d52b : ByteArray := prog_12_method_6_code
def yJ2_length_9d52b : MethodName := ⟨RJ2, "length", "([B)I"⟩
abbrev cJ2_charAt_3b067 : ByteArray := prog_12_method_83_code
def yJ2_charAt_3b067 : MethodName := ⟨RJ2, "charAt", "([BI)C"⟩
abbrev cJ2_checkIndex_2214a : ByteArray := prog_12_method_91_code
def yJ2_checkIndex_2214a : MethodName := ⟨RJ2, "checkIndex", "(I[B)V"⟩
def RJ3 : String := "jdk/internal/util/Preconditions"
def TJ3 : u_T := fun k => match k with
  | _ => ("", "", "", false)
def tyJ3 : Nat → FieldType := fun k => match k with
  | _ => .int
abbrev wsJ30 : List Cond := u_ws RJ3 TJ3 0
theorem nmJ3 : ∀ a, a < 0 → ∀ b, b < 0 → a ≠ b → (TJ3 a).2.1 ≠ (TJ3 b).2.1 := by decide +kernel
theorem tyJ3_ok : ∀ k, k < 0 → parseFieldDescriptor (TJ3 k).2.2.1 = some (tyJ3 k) := by decide +kernel
abbrev cJ3_checkIndex_8e157 : ByteArray := prog_13_method_11_code
def yJ3_checkIndex_8e157 : MethodName := ⟨RJ3, "checkIndex", "(IILjava/util/function/BiFunction;)I"⟩
def RL : String := "SpringBeadsLaw"
abbrev cL_law : ByteArray := code
def yL_law : MethodName := ⟨RL, "law", "([I)Z"⟩
def wsJ0_coder_7d493 : List Cond := .code yJ0_coder_7d493 cJ0_coder_7d493 1 (some .byte) :: ([.fieldLink RJ0 38 "java/lang/String" "COMPACT_STRINGS" "Z", .fieldLink RJ0 15 "java/lang/String" "coder" "B"])
def wsJ0_length_8abf5 : List Cond := .code yJ0_length_8abf5 cJ0_length_8abf5 1 (some .int) :: ([.fieldLink RJ0 9 "java/lang/String" "value" "[B", .methodLink RJ0 335 yJ0_coder_7d493, .instanceMethod yJ0_coder_7d493, .selects RJ0 yJ0_coder_7d493 yJ0_coder_7d493, .initialized RJ0, .code yJ0_coder_7d493 cJ0_coder_7d493 1 (some .byte), .fieldLink RJ0 38 "java/lang/String" "COMPACT_STRINGS" "Z", .fieldLink RJ0 15 "java/lang/String" "coder" "B"])
def wsJ0_isLatin1_aae02 : List Cond := .code yJ0_isLatin1_aae02 cJ0_isLatin1_aae02 1 (some .boolean) :: ([.fieldLink RJ0 38 "java/lang/String" "COMPACT_STRINGS" "Z", .fieldLink RJ0 15 "java/lang/String" "coder" "B"])
def wsJ3_checkIndex_8e157 : List Cond := .code yJ3_checkIndex_8e157 cJ3_checkIndex_8e157 3 (some .int) :: ([])
def wsJ0_checkIndex_df160 : List Cond := .code yJ0_checkIndex_df160 cJ0_checkIndex_df160 2 none :: ([.fieldLink RJ0 1053 "jdk/internal/util/Preconditions" "SIOOBE_FORMATTER" "Ljava/util/function/BiFunction;", .methodLink RJ0 1059 yJ3_checkIndex_8e157, .static yJ3_checkIndex_8e157, .initialized RJ3, .code yJ3_checkIndex_8e157 cJ3_checkIndex_8e157 3 (some .int)])
def wsJ1_charAt_3b067 : List Cond := .code yJ1_charAt_3b067 cJ1_charAt_3b067 2 (some .char) :: ([.methodLink RJ1 9 yJ0_checkIndex_df160, .static yJ0_checkIndex_df160, .initialized RJ0, .code yJ0_checkIndex_df160 cJ0_checkIndex_df160 2 none, .fieldLink RJ0 1053 "jdk/internal/util/Preconditions" "SIOOBE_FORMATTER" "Ljava/util/function/BiFunction;", .methodLink RJ0 1059 yJ3_checkIndex_8e157, .static yJ3_checkIndex_8e157, .initialized RJ3, .code yJ3_checkIndex_8e157 cJ3_checkIndex_8e157 3 (some .int)])
def wsJ2_length_9d52b : List Cond := .code yJ2_length_9d52b cJ2_length_9d52b 1 (some .int) :: ([])
def wsJ2_checkIndex_2214a : List Cond := .code yJ2_checkIndex_2214a cJ2_checkIndex_2214a 2 none :: ([.methodLink RJ2 48 yJ2_length_9d52b, .static yJ2_length_9d52b, .initialized RJ2, .code yJ2_length_9d52b cJ2_length_9d52b 1 (some .int), .methodLink RJ2 414 yJ0_checkIndex_df160, .static yJ0_checkIndex_df160, .initialized RJ0, .code yJ0_checkIndex_df160 cJ0_checkIndex_df160 2 none, .fieldLink RJ0 1053 "jdk/internal/util/Preconditions" "SIOOBE_FORMATTER" "Ljava/util/function/BiFunction;", .methodLink RJ0 1059 yJ3_checkIndex_8e157, .static yJ3_checkIndex_8e157, .initialized RJ3, .code yJ3_checkIndex_8e157 cJ3_checkIndex_8e157 3 (some .int)])
def wsJ2_getChar_3b067 : List Cond := .code yJ2_getChar_3b067 cJ2_getChar_3b067 2 (some .char) :: ([.fieldLink RJ2 44 "java/lang/StringUTF16" "$assertionsDisabled" "Z", .fieldLink RJ2 59 "java/lang/StringUTF16" "HI_BYTE_SHIFT" "I", .fieldLink RJ2 63 "java/lang/StringUTF16" "LO_BYTE_SHIFT" "I", .methodLink RJ2 48 yJ2_length_9d52b, .static yJ2_length_9d52b, .initialized RJ2, .code yJ2_length_9d52b cJ2_length_9d52b 1 (some .int)])
def wsJ2_charAt_3b067 : List Cond := .code yJ2_charAt_3b067 cJ2_charAt_3b067 2 (some .char) :: ([.methodLink RJ2 67 yJ2_checkIndex_2214a, .static yJ2_checkIndex_2214a, .initialized RJ2, .code yJ2_checkIndex_2214a cJ2_checkIndex_2214a 2 none, .methodLink RJ2 48 yJ2_length_9d52b, .static yJ2_length_9d52b, .code yJ2_length_9d52b cJ2_length_9d52b 1 (some .int), .methodLink RJ2 414 yJ0_checkIndex_df160, .static yJ0_checkIndex_df160, .initialized RJ0, .code yJ0_checkIndex_df160 cJ0_checkIndex_df160 2 none, .fieldLink RJ0 1053 "jdk/internal/util/Preconditions" "SIOOBE_FORMATTER" "Ljava/util/function/BiFunction;", .methodLink RJ0 1059 yJ3_checkIndex_8e157, .static yJ3_checkIndex_8e157, .initialized RJ3, .code yJ3_checkIndex_8e157 cJ3_checkIndex_8e157 3 (some .int), .methodLink RJ2 71 yJ2_getChar_3b067, .static yJ2_getChar_3b067, .code yJ2_getChar_3b067 cJ2_getChar_3b067 2 (some .char), .fieldLink RJ2 44 "java/lang/StringUTF16" "$assertionsDisabled" "Z", .fieldLink RJ2 59 "java/lang/StringUTF16" "HI_BYTE_SHIFT" "I", .fieldLink RJ2 63 "java/lang/StringUTF16" "LO_BYTE_SHIFT" "I"])
def wsJ0_charAt_5068e_r1 : List Cond := [Cond.fieldLink RJ0 9 "java/lang/String" "value" "[B", Cond.methodLink RJ0 492 yJ0_isLatin1_aae02, Cond.instanceMethod yJ0_isLatin1_aae02, Cond.selects RJ0 yJ0_isLatin1_aae02 yJ0_isLatin1_aae02, Cond.initialized RJ0, Cond.code yJ0_isLatin1_aae02 cJ0_isLatin1_aae02 1 (some .boolean), Cond.fieldLink RJ0 38 "java/lang/String" "COMPACT_STRINGS" "Z", Cond.fieldLink RJ0 15 "java/lang/String" "coder" "B", Cond.methodLink RJ0 495 yJ1_charAt_3b067, Cond.static yJ1_charAt_3b067, Cond.initialized RJ1, Cond.code yJ1_charAt_3b067 cJ1_charAt_3b067 2 (some .char), Cond.methodLink RJ1 9 yJ0_checkIndex_df160, Cond.static yJ0_checkIndex_df160, Cond.code yJ0_checkIndex_df160 cJ0_checkIndex_df160 2 none, Cond.fieldLink RJ0 1053 "jdk/internal/util/Preconditions" "SIOOBE_FORMATTER" "Ljava/util/function/BiFunction;", Cond.methodLink RJ0 1059 yJ3_checkIndex_8e157, Cond.static yJ3_checkIndex_8e157, Cond.initialized RJ3, Cond.code yJ3_checkIndex_8e157 cJ3_checkIndex_8e157 3 (some .int), Cond.methodLink RJ0 498 yJ2_charAt_3b067, Cond.static yJ2_charAt_3b067, Cond.initialized RJ2, Cond.code yJ2_charAt_3b067 cJ2_charAt_3b067 2 (some .char)]
def wsJ0_charAt_5068e_r2 : List Cond := [Cond.methodLink RJ2 67 yJ2_checkIndex_2214a, Cond.static yJ2_checkIndex_2214a, Cond.code yJ2_checkIndex_2214a cJ2_checkIndex_2214a 2 none, Cond.methodLink RJ2 48 yJ2_length_9d52b, Cond.static yJ2_length_9d52b, Cond.code yJ2_length_9d52b cJ2_length_9d52b 1 (some .int), Cond.methodLink RJ2 414 yJ0_checkIndex_df160, Cond.methodLink RJ2 71 yJ2_getChar_3b067, Cond.static yJ2_getChar_3b067, Cond.code yJ2_getChar_3b067 cJ2_getChar_3b067 2 (some .char), Cond.fieldLink RJ2 44 "java/lang/StringUTF16" "$assertionsDisabled" "Z", Cond.fieldLink RJ2 59 "java/lang/StringUTF16" "HI_BYTE_SHIFT" "I", Cond.fieldLink RJ2 63 "java/lang/StringUTF16" "LO_BYTE_SHIFT" "I"]
def wsJ0_charAt_5068e : List Cond := .code yJ0_charAt_5068e cJ0_charAt_5068e 2 (some .char) :: ((wsJ0_charAt_5068e_r1 ++ wsJ0_charAt_5068e_r2))
def wsJ6_bitCount_0f7a4 : List Cond := .code yJ6_bitCount_0f7a4 cJ6_bitCount_0f7a4 1 (some .int) :: ([.constant RJ6 265 (1431655765), .constant RJ6 266 (858993459), .constant RJ6 267 (252645135)])
def wsJ6_compare_7cf53 : List Cond := .code yJ6_compare_7cf53 cJ6_compare_7cf53 2 (some .int) :: ([])
def wsJ9_abs_0f7a4 : List Cond := .code yJ9_abs_0f7a4 cJ9_abs_0f7a4 1 (some .int) :: ([])
def wsJ9_max_7cf53 : List Cond := .code yJ9_max_7cf53 cJ9_max_7cf53 2 (some .int) :: ([])
def wsJ9_min_7cf53 : List Cond := .code yJ9_min_7cf53 cJ9_min_7cf53 2 (some .int) :: ([])
def wsL_law_r1 : List Cond := [Cond.classLink RL 7 RX4, Cond.instantiable RX4 10, Cond.initialized RX4, Cond.classLink RL 10 RX5, Cond.instantiable RX5 28, Cond.initialized RX5, Cond.methodLink RL 9 yX4_init, Cond.instanceMethod yX4_init, Cond.code yX4_init cX4_init 1 none, Cond.methodLink RX4 3 objectInit, Cond.instanceMethod objectInit, Cond.code objectInit ⟨#[0xb1]⟩ 1 none, Cond.classLink RX4 9 RX0, Cond.instantiable RX0 16, Cond.initialized RX0, Cond.fieldLink RX4 12 "SpringBeads" "now" "LSpringBeads$Chain;", Cond.fieldLink RX4 16 "SpringBeads" "trial" "LSpringBeads$Chain;", Cond.fieldLink RX4 19 "SpringBeads" "firstImage" "LSpringBeads$Chain;", Cond.fieldLink RX4 22 "SpringBeads" "secondImage" "LSpringBeads$Chain;", Cond.arrayClass .boolean, Cond.fieldLink RX4 25 "SpringBeads" "kept" "[Z", Cond.classLink RX4 29 RX3, Cond.instantiable RX3 8, Cond.initialized RX3]
def wsL_law_r2 : List Cond := [Cond.fieldLink RX4 32 "SpringBeads" "tape" "LSpringBeads$Tape;", Cond.classLink RX4 36 RX1, Cond.instantiable RX1 4, Cond.initialized RX1, Cond.fieldLink RX4 39 "SpringBeads" "seen" "LSpringBeads$Seen;", Cond.classLink RX4 43 RX2, Cond.instantiable RX2 3, Cond.initialized RX2, Cond.fieldLink RX4 46 "SpringBeads" "sheets" "LSpringBeads$Sheets;", Cond.classLink RX4 50 "[[I", Cond.arrayClass .int, Cond.fieldLink RX4 52 "SpringBeads" "traces" "[[I", Cond.fieldLink RX4 55 "SpringBeads" "torn" "I", Cond.instanceMethod yX0_init, Cond.code yX0_init cX0_init 1 none, Cond.methodLink RX0 3 objectInit, Cond.fieldLink RX0 9 "SpringBeads$Chain" "kind" "[I", Cond.fieldLink RX0 15 "SpringBeads$Chain" "rest" "[I", Cond.fieldLink RX0 18 "SpringBeads$Chain" "stiff" "[I", Cond.fieldLink RX0 21 "SpringBeads$Chain" "mass" "[I", Cond.fieldLink RX0 24 "SpringBeads$Chain" "place" "[I", Cond.fieldLink RX0 27 "SpringBeads$Chain" "speed" "[I", Cond.fieldLink RX0 30 "SpringBeads$Chain" "knockBead" "[I", Cond.fieldLink RX0 33 "SpringBeads$Chain" "knockBy" "[I"]
def wsL_law_r3 : List Cond := [Cond.fieldLink RX0 36 "SpringBeads$Chain" "pull" "[I", Cond.instanceMethod yX3_init, Cond.code yX3_init cX3_init 1 none, Cond.methodLink RX3 3 objectInit, Cond.arrayClass .byte, Cond.fieldLink RX3 11 "SpringBeads$Tape" "bytes" "[B", Cond.instanceMethod yX1_init, Cond.code yX1_init cX1_init 1 none, Cond.methodLink RX1 3 objectInit, Cond.fieldLink RX1 9 "SpringBeads$Seen" "after" "[I", Cond.fieldLink RX1 15 "SpringBeads$Seen" "bead" "[I", Cond.fieldLink RX1 18 "SpringBeads$Seen" "place" "[I", Cond.instanceMethod yX2_init, Cond.code yX2_init cX2_init 1 none, Cond.methodLink RX2 3 objectInit, Cond.classLink RX2 9 "[[I", Cond.fieldLink RX2 11 "SpringBeads$Sheets" "cells" "[[I", Cond.fieldLink RX2 16 "SpringBeads$Sheets" "size" "[I", Cond.fieldLink RX2 20 "SpringBeads$Sheets" "laneOf" "[I", Cond.methodLink RL 12 yX5_init, Cond.instanceMethod yX5_init, Cond.code yX5_init cX5_init 1 none, Cond.methodLink RX5 1 objectInit, Cond.fieldLink RX5 7 "SpringBeadsModel" "state" "[I"]
def wsL_law_r4 : List Cond := [Cond.fieldLink RX5 13 "SpringBeadsModel" "readPage" "[I", Cond.fieldLink RX5 16 "SpringBeadsModel" "tape" "[I", Cond.fieldLink RX5 19 "SpringBeadsModel" "ends" "[I", Cond.fieldLink RX5 22 "SpringBeadsModel" "letters" "[I", Cond.fieldLink RX5 25 "SpringBeadsModel" "speedWas" "[I", Cond.fieldLink RX5 28 "SpringBeadsModel" "lost" "I", Cond.fieldLink RX5 32 "SpringBeadsModel" "seen" "[I", Cond.fieldLink RX5 35 "SpringBeadsModel" "placeBy" "[I", Cond.fieldLink RX5 38 "SpringBeadsModel" "isKept" "[Z", Cond.fieldLink RX5 42 "SpringBeadsModel" "lanes" "[I", Cond.fieldLink RX5 45 "SpringBeadsModel" "lengths" "[I", Cond.fieldLink RX5 48 "SpringBeadsModel" "cells" "[I", Cond.methodLink RL 13 yX4_feed, Cond.instanceMethod yX4_feed, Cond.selects RX4 yX4_feed yX4_feed, Cond.code yX4_feed cX4_feed 2 (some .int), Cond.fieldLink RX4 67 "SpringBeads$Tape" "length" "I", Cond.methodLink RX4 59 yX4_within, Cond.static yX4_within, Cond.code yX4_within cX4_within 3 (some .boolean), Cond.methodLink RX4 63 yX3_put, Cond.instanceMethod yX3_put, Cond.selects RX3 yX3_put yX3_put, Cond.code yX3_put cX3_put 2 (some .boolean)]
def wsL_law_r5 : List Cond := [Cond.fieldLink RX3 15 "SpringBeads$Tape" "length" "I", Cond.methodLink RL 17 yX5_feed, Cond.instanceMethod yX5_feed, Cond.selects RX5 yX5_feed yX5_feed, Cond.code yX5_feed cX5_feed 2 (some .int), Cond.constantLong RX5 51 (127), Cond.fieldLink RX5 57 "SpringBeadsModel" "taped" "I", Cond.methodLink RX5 53 yX5_in, Cond.static yX5_in, Cond.code yX5_in cX5_in 6 (some .boolean), Cond.methodLink RL 18 yX4_end, Cond.instanceMethod yX4_end, Cond.selects RX4 yX4_end yX4_end, Cond.code yX4_end cX4_end 3 (some .int), Cond.methodLink RL 21 yX5_end, Cond.instanceMethod yX5_end, Cond.selects RX5 yX5_end yX5_end, Cond.code yX5_end cX5_end 3 (some .int), Cond.methodLink RL 22 yX4_text, Cond.instanceMethod yX4_text, Cond.selects RX4 yX4_text yX4_text, Cond.code yX4_text cX4_text 2 (some .int), Cond.fieldLink RX4 74 "SpringBeads$Tape" "fault" "I", Cond.fieldLink RX4 77 "SpringBeads$Tape" "faultPlace" "I"]
def wsL_law_r6 : List Cond := [Cond.fieldLink RX4 84 "SpringBeads$Seen" "count" "I", Cond.methodLink RX4 70 yX3_tellInto, Cond.instanceMethod yX3_tellInto, Cond.selects RX3 yX3_tellInto yX3_tellInto, Cond.code yX3_tellInto cX3_tellInto 4 (some .int), Cond.fieldLink RX3 24 "SpringBeads$Tape" "fault" "I", Cond.fieldLink RX3 27 "SpringBeads$Tape" "faultPlace" "I", Cond.fieldLink RX3 30 "SpringBeads$Tape" "behind" "I", Cond.fieldLink RX3 33 "SpringBeads$Tape" "dragTold" "Z", Cond.fieldLink RX3 40 "SpringBeads$Tape" "token" "I", Cond.methodLink RX3 19 yX0_clear, Cond.instanceMethod yX0_clear, Cond.selects RX0 yX0_clear yX0_clear, Cond.code yX0_clear cX0_clear 1 none, Cond.fieldLink RX0 39 "SpringBeads$Chain" "beads" "I", Cond.fieldLink RX0 43 "SpringBeads$Chain" "knocks" "I", Cond.fieldLink RX0 46 "SpringBeads$Chain" "drag" "I", Cond.fieldLink RX0 49 "SpringBeads$Chain" "tick" "I", Cond.methodLink RX3 37 yX3_readToken, Cond.instanceMethod yX3_readToken, Cond.selects RX3 yX3_readToken yX3_readToken, Cond.code yX3_readToken cX3_readToken 3 none, Cond.fieldLink RX3 47 "SpringBeads$Tape" "from" "I", Cond.methodLink RX3 111 Lib.Math.max.name]
def wsL_law_r7 : List Cond := [Cond.static Lib.Math.max.name, Cond.initialized "java/lang/Math", Cond.code Lib.Math.max.name Lib.Math.max.code 2 (some .int), Cond.methodLink RX3 107 yX3_runOf, Cond.instanceMethod yX3_runOf, Cond.selects RX3 yX3_runOf yX3_runOf, Cond.code yX3_runOf cX3_runOf 4 (some .int), Cond.methodLink RX3 54 yX3_blame, Cond.instanceMethod yX3_blame, Cond.selects RX3 yX3_blame yX3_blame, Cond.code yX3_blame cX3_blame 2 none, Cond.methodLink RX3 43 yX3_takeLine, Cond.instanceMethod yX3_takeLine, Cond.selects RX3 yX3_takeLine yX3_takeLine, Cond.code yX3_takeLine cX3_takeLine 3 none, Cond.methodLink RX3 50 yX3_wordRead, Cond.instanceMethod yX3_wordRead, Cond.selects RX3 yX3_wordRead yX3_wordRead, Cond.code yX3_wordRead cX3_wordRead 2 (some .int), Cond.methodLink RX3 116 yX3_wordOf, Cond.static yX3_wordOf, Cond.code yX3_wordOf cX3_wordOf 1 (some (.object "java/lang/String")), Cond.methodLink RX3 120 yX3_isSpelt, Cond.instanceMethod yX3_isSpelt]
def wsL_law_r8 : List Cond := [Cond.selects RX3 yX3_isSpelt yX3_isSpelt, Cond.code yX3_isSpelt cX3_isSpelt 3 (some .boolean), Cond.methodLink RX3 137 yJ0_length_8abf5, Cond.instanceMethod yJ0_length_8abf5, Cond.selects RJ0 yJ0_length_8abf5 yJ0_length_8abf5, Cond.initialized RJ0, Cond.code yJ0_length_8abf5 cJ0_length_8abf5 1 (some .int), Cond.fieldLink RJ0 9 "java/lang/String" "value" "[B", Cond.methodLink RJ0 335 yJ0_coder_7d493, Cond.instanceMethod yJ0_coder_7d493, Cond.selects RJ0 yJ0_coder_7d493 yJ0_coder_7d493, Cond.code yJ0_coder_7d493 cJ0_coder_7d493 1 (some .byte), Cond.fieldLink RJ0 38 "java/lang/String" "COMPACT_STRINGS" "Z", Cond.fieldLink RJ0 15 "java/lang/String" "coder" "B", Cond.methodLink RX3 141 yJ0_charAt_5068e, Cond.instanceMethod yJ0_charAt_5068e, Cond.selects RJ0 yJ0_charAt_5068e yJ0_charAt_5068e, Cond.code yJ0_charAt_5068e cJ0_charAt_5068e 2 (some .char), Cond.methodLink RJ0 492 yJ0_isLatin1_aae02, Cond.instanceMethod yJ0_isLatin1_aae02, Cond.selects RJ0 yJ0_isLatin1_aae02 yJ0_isLatin1_aae02, Cond.code yJ0_isLatin1_aae02 cJ0_isLatin1_aae02 1 (some .boolean), Cond.methodLink RJ0 495 yJ1_charAt_3b067, Cond.static yJ1_charAt_3b067]
def wsL_law_r9 : List Cond := [Cond.initialized RJ1, Cond.code yJ1_charAt_3b067 cJ1_charAt_3b067 2 (some .char), Cond.methodLink RJ1 9 yJ0_checkIndex_df160, Cond.static yJ0_checkIndex_df160, Cond.code yJ0_checkIndex_df160 cJ0_checkIndex_df160 2 none, Cond.fieldLink RJ0 1053 "jdk/internal/util/Preconditions" "SIOOBE_FORMATTER" "Ljava/util/function/BiFunction;", Cond.methodLink RJ0 1059 yJ3_checkIndex_8e157, Cond.static yJ3_checkIndex_8e157, Cond.initialized RJ3, Cond.code yJ3_checkIndex_8e157 cJ3_checkIndex_8e157 3 (some .int), Cond.methodLink RJ0 498 yJ2_charAt_3b067, Cond.static yJ2_charAt_3b067, Cond.initialized RJ2, Cond.code yJ2_charAt_3b067 cJ2_charAt_3b067 2 (some .char), Cond.methodLink RJ2 67 yJ2_checkIndex_2214a, Cond.static yJ2_checkIndex_2214a, Cond.code yJ2_checkIndex_2214a cJ2_checkIndex_2214a 2 none, Cond.methodLink RJ2 48 yJ2_length_9d52b, Cond.static yJ2_length_9d52b, Cond.code yJ2_length_9d52b cJ2_length_9d52b 1 (some .int), Cond.methodLink RJ2 414 yJ0_checkIndex_df160, Cond.methodLink RJ2 71 yJ2_getChar_3b067, Cond.static yJ2_getChar_3b067, Cond.code yJ2_getChar_3b067 cJ2_getChar_3b067 2 (some .char)]
def wsL_law_r10 : List Cond := [Cond.fieldLink RJ2 44 "java/lang/StringUTF16" "$assertionsDisabled" "Z", Cond.fieldLink RJ2 59 "java/lang/StringUTF16" "HI_BYTE_SHIFT" "I", Cond.fieldLink RJ2 63 "java/lang/StringUTF16" "LO_BYTE_SHIFT" "I", Cond.methodLink RX3 58 yX3_takeDrag, Cond.instanceMethod yX3_takeDrag, Cond.selects RX3 yX3_takeDrag yX3_takeDrag, Cond.code yX3_takeDrag cX3_takeDrag 3 none, Cond.fieldLink RX3 90 "SpringBeads$Chain" "drag" "I", Cond.methodLink RX3 79 yX3_takeNumber, Cond.instanceMethod yX3_takeNumber, Cond.selects RX3 yX3_takeNumber yX3_takeNumber, Cond.code yX3_takeNumber cX3_takeNumber 4 (some .int), Cond.methodLink RX3 100 yX3_numberRead, Cond.instanceMethod yX3_numberRead, Cond.selects RX3 yX3_numberRead yX3_numberRead, Cond.code yX3_numberRead cX3_numberRead 3 (some .int), Cond.methodLink RX3 83 yX3_takeSemicolon, Cond.instanceMethod yX3_takeSemicolon, Cond.selects RX3 yX3_takeSemicolon yX3_takeSemicolon, Cond.code yX3_takeSemicolon cX3_takeSemicolon 1 none, Cond.methodLink RX3 61 yX3_takeKnock, Cond.instanceMethod yX3_takeKnock, Cond.selects RX3 yX3_takeKnock yX3_takeKnock, Cond.code yX3_takeKnock cX3_takeKnock 5 none]
def wsL_law_r11 : List Cond := [Cond.fieldLink RX3 93 "SpringBeads$Chain" "knocks" "I", Cond.methodLink RX3 96 yX0_addKnock, Cond.instanceMethod yX0_addKnock, Cond.selects RX0 yX0_addKnock yX0_addKnock, Cond.code yX0_addKnock cX0_addKnock 3 (some .boolean), Cond.methodLink RX3 65 yX3_takeBead, Cond.instanceMethod yX3_takeBead, Cond.selects RX3 yX3_takeBead yX3_takeBead, Cond.code yX3_takeBead cX3_takeBead 6 none, Cond.fieldLink RX3 69 "SpringBeads$Chain" "beads" "I", Cond.methodLink RX3 86 yX0_addBead, Cond.instanceMethod yX0_addBead, Cond.selects RX0 yX0_addBead yX0_addBead, Cond.code yX0_addBead cX0_addBead 6 (some .boolean), Cond.methodLink RX0 66 Lib.Math.min.name, Cond.static Lib.Math.min.name, Cond.code Lib.Math.min.name Lib.Math.min.code 2 (some .int), Cond.methodLink RX0 62 yX0_lastPlace, Cond.instanceMethod yX0_lastPlace, Cond.selects RX0 yX0_lastPlace yX0_lastPlace, Cond.code yX0_lastPlace cX0_lastPlace 1 (some .int), Cond.methodLink RX4 80 yX0_becomeLike, Cond.instanceMethod yX0_becomeLike, Cond.selects RX0 yX0_becomeLike yX0_becomeLike]
def wsL_law_r12 : List Cond := [Cond.code yX0_becomeLike cX0_becomeLike 3 none, Cond.fieldLink RX0 52 "SpringBeads$Chain" "gone" "I", Cond.fieldLink RX0 55 "SpringBeads$Chain" "stops" "I", Cond.methodLink RL 26 yX5_text, Cond.instanceMethod yX5_text, Cond.selects RX5 yX5_text yX5_text, Cond.code yX5_text cX5_text 3 (some .int), Cond.fieldLink RX5 60 "SpringBeadsModel" "broken" "I", Cond.fieldLink RX5 72 "SpringBeadsModel" "spot" "I", Cond.fieldLink RX5 107 "SpringBeadsModel" "isDragTold" "Z", Cond.fieldLink RX5 69 "SpringBeadsModel" "token" "I", Cond.fieldLink RX5 117 "SpringBeadsModel" "fault" "I", Cond.fieldLink RX5 66 "SpringBeadsModel" "brokenAt" "I", Cond.fieldLink RX5 120 "SpringBeadsModel" "seenMany" "I", Cond.methodLink RX5 94 yX5_readsOn, Cond.instanceMethod yX5_readsOn, Cond.selects RX5 yX5_readsOn yX5_readsOn, Cond.code yX5_readsOn cX5_readsOn 2 none, Cond.fieldLink RX5 63 "SpringBeadsModel" "here" "I", Cond.fieldLink RX5 79 "SpringBeadsModel" "value" "I", Cond.constantLong RX5 82 (97), Cond.constantLong RX5 84 (122), Cond.constantLong RX5 86 (48), Cond.constantLong RX5 88 (57)]
def wsL_law_r13 : List Cond := [Cond.methodLink RX5 75 yX5_byteAt, Cond.instanceMethod yX5_byteAt, Cond.selects RX5 yX5_byteAt yX5_byteAt, Cond.code yX5_byteAt cX5_byteAt 2 (some .int), Cond.methodLink RX5 90 yX5_fails, Cond.instanceMethod yX5_fails, Cond.selects RX5 yX5_fails yX5_fails, Cond.code yX5_fails cX5_fails 2 none, Cond.methodLink RX5 114 yX5_readLine, Cond.instanceMethod yX5_readLine, Cond.selects RX5 yX5_readLine yX5_readLine, Cond.code yX5_readLine cX5_readLine 2 none, Cond.constantLong RX5 105 (6), Cond.methodLink RX5 101 yX5_nameHere, Cond.instanceMethod yX5_nameHere, Cond.selects RX5 yX5_nameHere yX5_nameHere, Cond.code yX5_nameHere cX5_nameHere 4 (some .int), Cond.methodLink RX5 111 yX5_readMore, Cond.instanceMethod yX5_readMore, Cond.selects RX5 yX5_readMore yX5_readMore, Cond.code yX5_readMore cX5_readMore 4 none, Cond.methodLink RX5 97 yX5_number, Cond.instanceMethod yX5_number, Cond.selects RX5 yX5_number yX5_number]
def wsL_law_r14 : List Cond := [Cond.code yX5_number cX5_number 4 (some .int), Cond.methodLink RL 27 yX4_fault, Cond.instanceMethod yX4_fault, Cond.selects RX4 yX4_fault yX4_fault, Cond.code yX4_fault cX4_fault 1 (some .int), Cond.methodLink RL 30 yX5_fault, Cond.instanceMethod yX5_fault, Cond.selects RX5 yX5_fault yX5_fault, Cond.code yX5_fault cX5_fault 1 (some .int), Cond.methodLink RL 31 yX4_rule, Cond.instanceMethod yX4_rule, Cond.selects RX4 yX4_rule yX4_rule, Cond.code yX4_rule cX4_rule 2 (some .int), Cond.fieldLink RX4 87 "SpringBeads$Chain" "beads" "I", Cond.fieldLink RX4 90 "SpringBeads$Chain" "knocks" "I", Cond.fieldLink RX4 93 "SpringBeads$Chain" "tick" "I", Cond.fieldLink RX4 96 "SpringBeads$Chain" "drag" "I", Cond.methodLink RX4 99 yX0_stillBits, Cond.instanceMethod yX0_stillBits, Cond.selects RX0 yX0_stillBits yX0_stillBits, Cond.code yX0_stillBits cX0_stillBits 3 (some .int), Cond.methodLink RX4 103 yX0_lastPlace, Cond.methodLink RL 34 yX5_rule, Cond.instanceMethod yX5_rule]
def wsL_law_r15 : List Cond := [Cond.selects RX5 yX5_rule yX5_rule, Cond.code yX5_rule cX5_rule 4 (some .int), Cond.methodLink RX5 158 yX5_lastOn, Cond.instanceMethod yX5_lastOn, Cond.selects RX5 yX5_lastOn yX5_lastOn, Cond.code yX5_lastOn cX5_lastOn 2 (some .int), Cond.methodLink RL 35 yX4_bead, Cond.instanceMethod yX4_bead, Cond.selects RX4 yX4_bead yX4_bead, Cond.code yX4_bead cX4_bead 3 (some .int), Cond.fieldLink RX4 113 "SpringBeads$Chain" "speed" "[I", Cond.methodLink RX4 106 yX0_has, Cond.instanceMethod yX0_has, Cond.selects RX0 yX0_has yX0_has, Cond.code yX0_has cX0_has 2 (some .boolean), Cond.methodLink RX4 109 yX0_rowOf, Cond.instanceMethod yX0_rowOf, Cond.selects RX0 yX0_rowOf yX0_rowOf, Cond.code yX0_rowOf cX0_rowOf 2 (some (.array .int)), Cond.methodLink RX4 117 yX0_stretchOf, Cond.instanceMethod yX0_stretchOf, Cond.selects RX0 yX0_stretchOf yX0_stretchOf, Cond.code yX0_stretchOf cX0_stretchOf 3 (some .int), Cond.methodLink RX4 121 yX0_pullOf]
def wsL_law_r16 : List Cond := [Cond.instanceMethod yX0_pullOf, Cond.selects RX0 yX0_pullOf yX0_pullOf, Cond.code yX0_pullOf cX0_pullOf 4 (some .int), Cond.methodLink RX0 72 yX0_stretchOf, Cond.methodLink RL 39 yX5_bead, Cond.instanceMethod yX5_bead, Cond.selects RX5 yX5_bead yX5_bead, Cond.code yX5_bead cX5_bead 3 (some .int), Cond.constantLong RX5 175 (7), Cond.methodLink RX5 171 yX5_isBead, Cond.instanceMethod yX5_isBead, Cond.selects RX5 yX5_isBead yX5_isBead, Cond.code yX5_isBead cX5_isBead 2 (some .boolean), Cond.methodLink RX5 125 yX5_stretchOn, Cond.instanceMethod yX5_stretchOn, Cond.selects RX5 yX5_stretchOn yX5_stretchOn, Cond.code yX5_stretchOn cX5_stretchOn 3 (some .int), Cond.methodLink RX5 135 yX5_pullOn, Cond.instanceMethod yX5_pullOn, Cond.selects RX5 yX5_pullOn yX5_pullOn, Cond.code yX5_pullOn cX5_pullOn 6 (some .int), Cond.constantLong RX5 128 (-5), Cond.constantLong RX5 130 (5), Cond.methodLink RL 40 yX4_knock]
def wsL_law_r17 : List Cond := [Cond.instanceMethod yX4_knock, Cond.selects RX4 yX4_knock yX4_knock, Cond.code yX4_knock cX4_knock 3 (some .int), Cond.fieldLink RX4 124 "SpringBeads$Chain" "knockBead" "[I", Cond.fieldLink RX4 127 "SpringBeads$Chain" "knockBy" "[I", Cond.methodLink RL 43 yX5_knock, Cond.instanceMethod yX5_knock, Cond.selects RX5 yX5_knock yX5_knock, Cond.code yX5_knock cX5_knock 3 (some .int), Cond.methodLink RX5 177 yX5_isKnock, Cond.instanceMethod yX5_isKnock, Cond.selects RX5 yX5_isKnock yX5_isKnock, Cond.code yX5_isKnock cX5_isKnock 2 (some .boolean), Cond.methodLink RL 44 yX4_alter, Cond.instanceMethod yX4_alter, Cond.selects RX4 yX4_alter yX4_alter, Cond.code yX4_alter cX4_alter 6 (some .int), Cond.fieldLink RX4 130 "SpringBeads" "LEAST" "[I", Cond.fieldLink RX4 133 "SpringBeads" "MOST" "[I", Cond.methodLink RL 48 yX5_alter, Cond.instanceMethod yX5_alter, Cond.selects RX5 yX5_alter yX5_alter, Cond.code yX5_alter cX5_alter 4 (some .int), Cond.methodLink RX5 186 yX5_isGood]
def wsL_law_r18 : List Cond := [Cond.static yX5_isGood, Cond.code yX5_isGood cX5_isGood 2 (some .boolean), Cond.constantLong RX5 180 (3), Cond.constantLong RX5 182 (60), Cond.constantLong RX5 184 (9), Cond.constantLong RX5 138 (300), Cond.methodLink RX5 190 yX5_puts, Cond.instanceMethod yX5_puts, Cond.selects RX5 yX5_puts yX5_puts, Cond.code yX5_puts cX5_puts 5 (some .int), Cond.methodLink RL 49 yX4_drag, Cond.instanceMethod yX4_drag, Cond.selects RX4 yX4_drag yX4_drag, Cond.code yX4_drag cX4_drag 3 (some .int), Cond.methodLink RL 52 yX5_drag, Cond.instanceMethod yX5_drag, Cond.selects RX5 yX5_drag yX5_drag, Cond.code yX5_drag cX5_drag 2 (some .int), Cond.methodLink RL 53 yX4_bind, Cond.instanceMethod yX4_bind, Cond.selects RX4 yX4_bind yX4_bind, Cond.code yX4_bind cX4_bind 5 (some .int), Cond.methodLink RX4 136 yX0_addBead, Cond.methodLink RL 57 yX5_bind]
def wsL_law_r19 : List Cond := [Cond.instanceMethod yX5_bind, Cond.selects RX5 yX5_bind yX5_bind, Cond.code yX5_bind cX5_bind 7 (some .int), Cond.methodLink RL 58 yX4_cut, Cond.instanceMethod yX4_cut, Cond.selects RX4 yX4_cut yX4_cut, Cond.code yX4_cut cX4_cut 3 (some .int), Cond.methodLink RL 61 yX5_cut, Cond.instanceMethod yX5_cut, Cond.selects RX5 yX5_cut yX5_cut, Cond.code yX5_cut cX5_cut 2 (some .int), Cond.methodLink RL 62 yX4_hit, Cond.instanceMethod yX4_hit, Cond.selects RX4 yX4_hit yX4_hit, Cond.code yX4_hit cX4_hit 3 (some .int), Cond.methodLink RX4 140 yX0_knockOnce, Cond.instanceMethod yX0_knockOnce, Cond.selects RX0 yX0_knockOnce yX0_knockOnce, Cond.code yX0_knockOnce cX0_knockOnce 3 none, Cond.methodLink RX0 80 yX0_has, Cond.methodLink RX0 84 yX0_inBounds, Cond.static yX0_inBounds, Cond.code yX0_inBounds cX0_inBounds 1 (some .int), Cond.methodLink RL 65 yX5_hit]
def wsL_law_r20 : List Cond := [Cond.instanceMethod yX5_hit, Cond.selects RX5 yX5_hit yX5_hit, Cond.code yX5_hit cX5_hit 3 (some .int), Cond.constantLong RX5 194 (18), Cond.methodLink RX5 164 yX5_knockOn, Cond.instanceMethod yX5_knockOn, Cond.selects RX5 yX5_knockOn yX5_knockOn, Cond.code yX5_knockOn cX5_knockOn 4 none, Cond.methodLink RX5 132 yX5_speedOf, Cond.static yX5_speedOf, Cond.code yX5_speedOf cX5_speedOf 1 (some .int), Cond.methodLink RL 66 yX4_add, Cond.instanceMethod yX4_add, Cond.selects RX4 yX4_add yX4_add, Cond.code yX4_add cX4_add 3 (some .int), Cond.methodLink RX4 144 yX0_addKnock, Cond.methodLink RL 69 yX5_add, Cond.instanceMethod yX5_add, Cond.selects RX5 yX5_add yX5_add, Cond.code yX5_add cX5_add 3 (some .int), Cond.methodLink RX5 196 yX5_adds, Cond.instanceMethod yX5_adds, Cond.selects RX5 yX5_adds yX5_adds, Cond.code yX5_adds cX5_adds 4 (some .int)]
def wsL_law_r21 : List Cond := [Cond.methodLink RL 70 yX4_drop, Cond.instanceMethod yX4_drop, Cond.selects RX4 yX4_drop yX4_drop, Cond.code yX4_drop cX4_drop 3 (some .int), Cond.methodLink RL 73 yX5_drop, Cond.instanceMethod yX5_drop, Cond.selects RX5 yX5_drop yX5_drop, Cond.code yX5_drop cX5_drop 2 (some .int), Cond.methodLink RL 74 yX4_calm, Cond.instanceMethod yX4_calm, Cond.selects RX4 yX4_calm yX4_calm, Cond.code yX4_calm cX4_calm 3 (some .int), Cond.methodLink RX4 148 yJ6_bitCount_0f7a4, Cond.static yJ6_bitCount_0f7a4, Cond.initialized RJ6, Cond.code yJ6_bitCount_0f7a4 cJ6_bitCount_0f7a4 1 (some .int), Cond.constant RJ6 265 (1431655765), Cond.constant RJ6 266 (858993459), Cond.constant RJ6 267 (252645135), Cond.methodLink RL 77 yX5_calm, Cond.instanceMethod yX5_calm, Cond.selects RX5 yX5_calm yX5_calm, Cond.code yX5_calm cX5_calm 3 (some .int), Cond.methodLink RL 78 yX4_ticks]
def wsL_law_r22 : List Cond := [Cond.instanceMethod yX4_ticks, Cond.selects RX4 yX4_ticks yX4_ticks, Cond.code yX4_ticks cX4_ticks 2 (some .int), Cond.fieldLink RX4 153 "SpringBeads$Chain" "gone" "I", Cond.methodLink RX4 156 yX0_tickOften, Cond.instanceMethod yX0_tickOften, Cond.selects RX0 yX0_tickOften yX0_tickOften, Cond.code yX0_tickOften cX0_tickOften 3 none, Cond.methodLink RX0 97 yX0_tickOnce, Cond.instanceMethod yX0_tickOnce, Cond.selects RX0 yX0_tickOnce yX0_tickOnce, Cond.code yX0_tickOnce cX0_tickOnce 1 none, Cond.methodLink RX0 91 yX0_knockByPlan, Cond.instanceMethod yX0_knockByPlan, Cond.selects RX0 yX0_knockByPlan yX0_knockByPlan, Cond.code yX0_knockByPlan cX0_knockByPlan 2 none, Cond.methodLink RX0 87 yX0_knockOnce, Cond.methodLink RX0 94 yX0_move, Cond.instanceMethod yX0_move, Cond.selects RX0 yX0_move yX0_move, Cond.code yX0_move cX0_move 4 none, Cond.fieldLink RX0 103 "SpringBeads$Chain" "stirred" "Z", Cond.methodLink RX0 100 yX0_pullOf, Cond.methodLink RX0 107 yX0_slowed]
def wsL_law_r23 : List Cond := [Cond.instanceMethod yX0_slowed, Cond.selects RX0 yX0_slowed yX0_slowed, Cond.code yX0_slowed cX0_slowed 2 (some .int), Cond.methodLink RX0 113 Lib.Math.max.name, Cond.methodLink RX0 110 yX0_goOn, Cond.instanceMethod yX0_goOn, Cond.selects RX0 yX0_goOn yX0_goOn, Cond.code yX0_goOn cX0_goOn 6 none, Cond.methodLink RX0 116 Lib.Math.abs.name, Cond.static Lib.Math.abs.name, Cond.code Lib.Math.abs.name Lib.Math.abs.code 1 (some .int), Cond.methodLink RL 81 yX5_ticks, Cond.instanceMethod yX5_ticks, Cond.selects RX5 yX5_ticks yX5_ticks, Cond.code yX5_ticks cX5_ticks 3 (some .int), Cond.constantLong RX5 199 (100), Cond.fieldLink RX5 143 "SpringBeadsModel" "gone" "I", Cond.methodLink RX5 201 yX5_tickOn, Cond.instanceMethod yX5_tickOn, Cond.selects RX5 yX5_tickOn yX5_tickOn, Cond.code yX5_tickOn cX5_tickOn 5 none, Cond.methodLink RX5 168 yX5_movesOn, Cond.instanceMethod yX5_movesOn, Cond.selects RX5 yX5_movesOn yX5_movesOn]
def wsL_law_r24 : List Cond := [Cond.code yX5_movesOn cX5_movesOn 3 none, Cond.fieldLink RX5 155 "SpringBeadsModel" "isChanged" "Z", Cond.fieldLink RX5 161 "SpringBeadsModel" "widest" "I", Cond.methodLink RX5 149 yX5_speedsOn, Cond.instanceMethod yX5_speedsOn, Cond.selects RX5 yX5_speedsOn yX5_speedsOn, Cond.code yX5_speedsOn cX5_speedsOn 7 none, Cond.methodLink RX5 152 yX5_placesOn, Cond.instanceMethod yX5_placesOn, Cond.selects RX5 yX5_placesOn yX5_placesOn, Cond.code yX5_placesOn cX5_placesOn 5 none, Cond.fieldLink RX5 140 "SpringBeadsModel" "stopped" "I", Cond.methodLink RX5 146 yX5_amount, Cond.static yX5_amount, Cond.code yX5_amount cX5_amount 1 (some .int), Cond.methodLink RL 82 yX4_runs, Cond.instanceMethod yX4_runs, Cond.selects RX4 yX4_runs yX4_runs, Cond.code yX4_runs cX4_runs 4 (some .int), Cond.fieldLink RX4 164 "SpringBeads$Chain" "stops" "I", Cond.methodLink RX4 160 yX0_greatestSwing, Cond.instanceMethod yX0_greatestSwing, Cond.selects RX0 yX0_greatestSwing yX0_greatestSwing, Cond.code yX0_greatestSwing cX0_greatestSwing 6 (some .int)]
def wsL_law_r25 : List Cond := [Cond.methodLink RL 85 yX5_runs, Cond.instanceMethod yX5_runs, Cond.selects RX5 yX5_runs yX5_runs, Cond.code yX5_runs cX5_runs 4 (some .int), Cond.methodLink RX5 209 yX5_isLong, Cond.static yX5_isLong, Cond.code yX5_isLong cX5_isLong 1 (some .boolean), Cond.constantLong RX5 123 (200), Cond.methodLink RX5 212 yX5_ticksGo, Cond.instanceMethod yX5_ticksGo, Cond.selects RX5 yX5_ticksGo yX5_ticksGo, Cond.code yX5_ticksGo cX5_ticksGo 4 (some .int), Cond.methodLink RX5 205 yX5_copies, Cond.instanceMethod yX5_copies, Cond.selects RX5 yX5_copies yX5_copies, Cond.code yX5_copies cX5_copies 4 none, Cond.methodLink RL 86 yX4_ahead, Cond.instanceMethod yX4_ahead, Cond.selects RX4 yX4_ahead yX4_ahead, Cond.code yX4_ahead cX4_ahead 4 (some .int), Cond.fieldLink RX4 167 "SpringBeads$Chain" "place" "[I", Cond.methodLink RL 89 yX5_ahead, Cond.instanceMethod yX5_ahead, Cond.selects RX5 yX5_ahead yX5_ahead]
def wsL_law_r26 : List Cond := [Cond.code yX5_ahead cX5_ahead 4 (some .int), Cond.methodLink RL 90 yX4_when, Cond.instanceMethod yX4_when, Cond.selects RX4 yX4_when yX4_when, Cond.code yX4_when cX4_when 6 (some .int), Cond.methodLink RX4 170 yJ6_compare_7cf53, Cond.static yJ6_compare_7cf53, Cond.code yJ6_compare_7cf53 cJ6_compare_7cf53 2 (some .int), Cond.methodLink RX4 173 yX0_tickOnce, Cond.methodLink RL 93 yX5_when, Cond.instanceMethod yX5_when, Cond.selects RX5 yX5_when yX5_when, Cond.code yX5_when cX5_when 6 (some .int), Cond.methodLink RL 94 yX4_rests, Cond.instanceMethod yX4_rests, Cond.selects RX4 yX4_rests yX4_rests, Cond.code yX4_rests cX4_rests 2 (some .int), Cond.fieldLink RX4 179 "SpringBeads$Chain" "stirred" "Z", Cond.methodLink RX4 176 yX0_move, Cond.methodLink RL 97 yX5_rests, Cond.instanceMethod yX5_rests, Cond.selects RX5 yX5_rests yX5_rests, Cond.code yX5_rests cX5_rests 2 (some .int), Cond.methodLink RL 98 yX4_stiff]
def wsL_law_r27 : List Cond := [Cond.instanceMethod yX4_stiff, Cond.selects RX4 yX4_stiff yX4_stiff, Cond.code yX4_stiff cX4_stiff 4 (some .int), Cond.methodLink RX4 183 yX4_steadiest, Cond.instanceMethod yX4_steadiest, Cond.selects RX4 yX4_steadiest yX4_steadiest, Cond.code yX4_steadiest cX4_steadiest 9 (some .int), Cond.methodLink RX4 193 yX4_tryWith, Cond.instanceMethod yX4_tryWith, Cond.selects RX4 yX4_tryWith yX4_tryWith, Cond.code yX4_tryWith cX4_tryWith 4 none, Cond.methodLink RL 101 yX5_stiff, Cond.instanceMethod yX5_stiff, Cond.selects RX5 yX5_stiff yX5_stiff, Cond.code yX5_stiff cX5_stiff 4 (some .int), Cond.methodLink RX5 216 yX5_isAsked, Cond.instanceMethod yX5_isAsked, Cond.selects RX5 yX5_isAsked yX5_isAsked, Cond.code yX5_isAsked cX5_isAsked 4 (some .boolean), Cond.methodLink RX5 220 yX5_leastAt, Cond.instanceMethod yX5_leastAt, Cond.selects RX5 yX5_leastAt yX5_leastAt, Cond.code yX5_leastAt cX5_leastAt 10 (some .int), Cond.constant RX5 215 (1000000)]
def wsL_law_r28 : List Cond := [Cond.methodLink RL 102 yX4_rest, Cond.instanceMethod yX4_rest, Cond.selects RX4 yX4_rest yX4_rest, Cond.code yX4_rest cX4_rest 4 (some .int), Cond.methodLink RL 105 yX5_rest, Cond.instanceMethod yX5_rest, Cond.selects RX5 yX5_rest yX5_rest, Cond.code yX5_rest cX5_rest 4 (some .int), Cond.methodLink RL 106 yX4_kind, Cond.instanceMethod yX4_kind, Cond.selects RX4 yX4_kind yX4_kind, Cond.code yX4_kind cX4_kind 4 (some .int), Cond.methodLink RL 109 yX5_kind, Cond.instanceMethod yX5_kind, Cond.selects RX5 yX5_kind yX5_kind, Cond.code yX5_kind cX5_kind 4 (some .int), Cond.methodLink RL 110 yX4_mass, Cond.instanceMethod yX4_mass, Cond.selects RX4 yX4_mass yX4_mass, Cond.code yX4_mass cX4_mass 4 (some .int), Cond.methodLink RL 113 yX5_mass, Cond.instanceMethod yX5_mass, Cond.selects RX5 yX5_mass yX5_mass, Cond.code yX5_mass cX5_mass 4 (some .int)]
def wsL_law_r29 : List Cond := [Cond.methodLink RL 114 yX4_swap, Cond.instanceMethod yX4_swap, Cond.selects RX4 yX4_swap yX4_swap, Cond.code yX4_swap cX4_swap 8 (some .int), Cond.methodLink RX4 187 yX4_swingAsItIs, Cond.instanceMethod yX4_swingAsItIs, Cond.selects RX4 yX4_swingAsItIs yX4_swingAsItIs, Cond.code yX4_swingAsItIs cX4_swingAsItIs 2 (some .int), Cond.methodLink RX4 190 yX0_changePlaces, Cond.instanceMethod yX0_changePlaces, Cond.selects RX0 yX0_changePlaces yX0_changePlaces, Cond.code yX0_changePlaces cX0_changePlaces 5 none, Cond.methodLink RL 117 yX5_swap, Cond.instanceMethod yX5_swap, Cond.selects RX5 yX5_swap yX5_swap, Cond.code yX5_swap cX5_swap 8 (some .int), Cond.methodLink RL 118 yX4_miss, Cond.instanceMethod yX4_miss, Cond.selects RX4 yX4_miss yX4_miss, Cond.code yX4_miss cX4_miss 7 (some .int), Cond.methodLink RL 121 yX5_miss, Cond.instanceMethod yX5_miss, Cond.selects RX5 yX5_miss yX5_miss, Cond.code yX5_miss cX5_miss 7 (some .int)]
def wsL_law_r30 : List Cond := [Cond.methodLink RL 122 yX4_luck, Cond.instanceMethod yX4_luck, Cond.selects RX4 yX4_luck yX4_luck, Cond.code yX4_luck cX4_luck 8 (some .long), Cond.constantLong RX4 197 (-1), Cond.constantLong RX4 199 (-2), Cond.methodLink RX4 201 yX4_runMissing, Cond.instanceMethod yX4_runMissing, Cond.selects RX4 yX4_runMissing yX4_runMissing, Cond.code yX4_runMissing cX4_runMissing 4 none, Cond.methodLink RX4 221 yX0_knockByPlan, Cond.methodLink RX4 204 yX4_weightOf, Cond.static yX4_weightOf, Cond.code yX4_weightOf cX4_weightOf 4 (some .long), Cond.methodLink RX4 208 yX4_power, Cond.static yX4_power, Cond.code yX4_power cX4_power 5 (some .long), Cond.methodLink RX4 212 yX4_partOfFraction, Cond.static yX4_partOfFraction, Cond.code yX4_partOfFraction cX4_partOfFraction 7 (some .long), Cond.methodLink RX4 224 yX4_commonDivisor, Cond.static yX4_commonDivisor, Cond.code yX4_commonDivisor cX4_commonDivisor 11 (some .long), Cond.methodLink RL 126 yX5_luck]
def wsL_law_r31 : List Cond := [Cond.instanceMethod yX5_luck, Cond.selects RX5 yX5_luck yX5_luck, Cond.code yX5_luck cX5_luck 5 (some .long), Cond.constantLong RX5 224 (10), Cond.constantLong RX5 230 (8), Cond.constantLong RX5 232 (-1), Cond.constantLong RX5 234 (-2), Cond.methodLink RX5 236 yX5_byMisses, Cond.instanceMethod yX5_byMisses, Cond.selects RX5 yX5_byMisses yX5_byMisses, Cond.code yX5_byMisses cX5_byMisses 14 (some .long), Cond.methodLink RX5 226 yX5_lowest, Cond.static yX5_lowest, Cond.code yX5_lowest cX5_lowest 11 (some .long), Cond.methodLink RL 127 yX4_mean, Cond.instanceMethod yX4_mean, Cond.selects RX4 yX4_mean yX4_mean, Cond.code yX4_mean cX4_mean 7 (some .long), Cond.methodLink RX4 216 Lib.Math.abs.name, Cond.methodLink RL 131 yX5_mean, Cond.instanceMethod yX5_mean, Cond.selects RX5 yX5_mean yX5_mean, Cond.code yX5_mean cX5_mean 4 (some .long), Cond.methodLink RL 132 yX4_see]
def wsL_law_r32 : List Cond := [Cond.instanceMethod yX4_see, Cond.selects RX4 yX4_see yX4_see, Cond.code yX4_see cX4_see 4 (some .int), Cond.methodLink RX4 228 yX1_note, Cond.instanceMethod yX1_note, Cond.selects RX1 yX1_note yX1_note, Cond.code yX1_note cX1_note 4 (some .boolean), Cond.fieldLink RX1 21 "SpringBeads$Seen" "count" "I", Cond.methodLink RL 135 yX5_see, Cond.instanceMethod yX5_see, Cond.selects RX5 yX5_see yX5_see, Cond.code yX5_see cX5_see 4 (some .int), Cond.constantLong RX5 240 (40), Cond.methodLink RL 136 yX4_forget, Cond.instanceMethod yX4_forget, Cond.selects RX4 yX4_forget yX4_forget, Cond.code yX4_forget cX4_forget 3 (some .int), Cond.methodLink RL 139 yX5_forget, Cond.instanceMethod yX5_forget, Cond.selects RX5 yX5_forget yX5_forget, Cond.code yX5_forget cX5_forget 3 (some .int), Cond.methodLink RL 140 yX4_kinds, Cond.instanceMethod yX4_kinds, Cond.selects RX4 yX4_kinds yX4_kinds]
def wsL_law_r33 : List Cond := [Cond.code yX4_kinds cX4_kinds 2 (some .int), Cond.methodLink RX4 231 yX4_asSeenBits, Cond.instanceMethod yX4_asSeenBits, Cond.selects RX4 yX4_asSeenBits yX4_asSeenBits, Cond.code yX4_asSeenBits cX4_asSeenBits 5 (some .int), Cond.methodLink RX4 240 yX1_isSoOf, Cond.instanceMethod yX1_isSoOf, Cond.selects RX1 yX1_isSoOf yX1_isSoOf, Cond.code yX1_isSoOf cX1_isSoOf 4 (some .boolean), Cond.methodLink RX1 25 yX1_latestTick, Cond.instanceMethod yX1_latestTick, Cond.selects RX1 yX1_latestTick yX1_latestTick, Cond.code yX1_latestTick cX1_latestTick 3 (some .int), Cond.methodLink RX1 38 Lib.Math.max.name, Cond.methodLink RX1 29 yX1_agrees, Cond.instanceMethod yX1_agrees, Cond.selects RX1 yX1_agrees yX1_agrees, Cond.code yX1_agrees cX1_agrees 4 (some .boolean), Cond.fieldLink RX1 48 "SpringBeads$Chain" "place" "[I", Cond.methodLink RX1 44 yX0_has, Cond.methodLink RX1 33 yX0_tickOnce, Cond.methodLink RL 143 yX5_kinds, Cond.instanceMethod yX5_kinds, Cond.selects RX5 yX5_kinds yX5_kinds]
def wsL_law_r34 : List Cond := [Cond.code yX5_kinds cX5_kinds 2 (some .int), Cond.methodLink RX5 245 yX5_numbersAt, Cond.instanceMethod yX5_numbersAt, Cond.selects RX5 yX5_numbersAt yX5_numbersAt, Cond.code yX5_numbersAt cX5_numbersAt 6 (some .int), Cond.methodLink RX5 242 yX5_isAsSeen, Cond.instanceMethod yX5_isAsSeen, Cond.selects RX5 yX5_isAsSeen yX5_isAsSeen, Cond.code yX5_isAsSeen cX5_isAsSeen 8 (some .boolean), Cond.methodLink RL 144 yX4_stiffs, Cond.instanceMethod yX4_stiffs, Cond.selects RX4 yX4_stiffs yX4_stiffs, Cond.code yX4_stiffs cX4_stiffs 2 (some .int), Cond.methodLink RL 147 yX5_stiffs, Cond.instanceMethod yX5_stiffs, Cond.selects RX5 yX5_stiffs yX5_stiffs, Cond.code yX5_stiffs cX5_stiffs 2 (some .int), Cond.methodLink RL 148 yX4_ask, Cond.instanceMethod yX4_ask, Cond.selects RX4 yX4_ask yX4_ask, Cond.code yX4_ask cX4_ask 8 (some .int), Cond.methodLink RX4 234 yX4_traceStiffs, Cond.instanceMethod yX4_traceStiffs, Cond.selects RX4 yX4_traceStiffs yX4_traceStiffs]
def wsL_law_r35 : List Cond := [Cond.code yX4_traceStiffs cX4_traceStiffs 5 none, Cond.methodLink RX4 237 yX4_mostAlike, Cond.instanceMethod yX4_mostAlike, Cond.selects RX4 yX4_mostAlike yX4_mostAlike, Cond.code yX4_mostAlike cX4_mostAlike 7 (some .int), Cond.methodLink RX4 244 Lib.Math.max.name, Cond.methodLink RL 151 yX5_ask, Cond.instanceMethod yX5_ask, Cond.selects RX5 yX5_ask yX5_ask, Cond.code yX5_ask cX5_ask 8 (some .int), Cond.methodLink RX5 249 yX5_worstAt, Cond.instanceMethod yX5_worstAt, Cond.selects RX5 yX5_worstAt yX5_worstAt, Cond.code yX5_worstAt cX5_worstAt 7 (some .int), Cond.methodLink RL 152 yX4_drift, Cond.instanceMethod yX4_drift, Cond.selects RX4 yX4_drift yX4_drift, Cond.code yX4_drift cX4_drift 9 (some .int), Cond.constant RX4 247 (1103515245), Cond.methodLink RL 155 yX5_drift, Cond.instanceMethod yX5_drift, Cond.selects RX5 yX5_drift yX5_drift, Cond.code yX5_drift cX5_drift 7 (some .int), Cond.constant RX5 252 (1103515245)]
def wsL_law_r36 : List Cond := [Cond.methodLink RL 156 yX4_keep, Cond.instanceMethod yX4_keep, Cond.selects RX4 yX4_keep yX4_keep, Cond.code yX4_keep cX4_keep 3 (some .int), Cond.methodLink RX4 248 yX4_imageOf, Cond.instanceMethod yX4_imageOf, Cond.selects RX4 yX4_imageOf yX4_imageOf, Cond.code yX4_imageOf cX4_imageOf 2 (some (.object "SpringBeads$Chain")), Cond.methodLink RL 159 yX5_keep, Cond.instanceMethod yX5_keep, Cond.selects RX5 yX5_keep yX5_keep, Cond.code yX5_keep cX5_keep 3 (some .int), Cond.methodLink RL 160 yX4_back, Cond.instanceMethod yX4_back, Cond.selects RX4 yX4_back yX4_back, Cond.code yX4_back cX4_back 2 (some .int), Cond.methodLink RL 163 yX5_back, Cond.instanceMethod yX5_back, Cond.selects RX5 yX5_back yX5_back, Cond.code yX5_back cX5_back 2 (some .int), Cond.methodLink RL 164 yX4_sheet, Cond.instanceMethod yX4_sheet, Cond.selects RX4 yX4_sheet yX4_sheet, Cond.code yX4_sheet cX4_sheet 4 (some .int)]
def wsL_law_r37 : List Cond := [Cond.methodLink RX4 252 yX2_make, Cond.instanceMethod yX2_make, Cond.selects RX2 yX2_make yX2_make, Cond.code yX2_make cX2_make 5 none, Cond.methodLink RL 167 yX5_sheet, Cond.instanceMethod yX5_sheet, Cond.selects RX5 yX5_sheet yX5_sheet, Cond.code yX5_sheet cX5_sheet 5 (some .int), Cond.constantLong RX5 253 (2), Cond.methodLink RL 168 yX4_lay, Cond.instanceMethod yX4_lay, Cond.selects RX4 yX4_lay yX4_lay, Cond.code yX4_lay cX4_lay 5 (some .int), Cond.methodLink RX4 255 yX2_faultAt, Cond.instanceMethod yX2_faultAt, Cond.selects RX2 yX2_faultAt yX2_faultAt, Cond.code yX2_faultAt cX2_faultAt 3 (some .int), Cond.methodLink RX2 23 yX2_isNothing, Cond.instanceMethod yX2_isNothing, Cond.selects RX2 yX2_isNothing yX2_isNothing, Cond.code yX2_isNothing cX2_isNothing 2 (some .boolean), Cond.methodLink RX4 258 yX2_put, Cond.instanceMethod yX2_put, Cond.selects RX2 yX2_put yX2_put]
def wsL_law_r38 : List Cond := [Cond.code yX2_put cX2_put 4 none, Cond.methodLink RL 171 yX5_lay, Cond.instanceMethod yX5_lay, Cond.selects RX5 yX5_lay yX5_lay, Cond.code yX5_lay cX5_lay 4 (some .int), Cond.methodLink RL 172 yX4_read, Cond.instanceMethod yX4_read, Cond.selects RX4 yX4_read yX4_read, Cond.code yX4_read cX4_read 10 (some .int), Cond.fieldLink RX4 263 "SpringBeads$Sheets" "cells" "[[I", Cond.methodLink RX4 260 yX2_faultOfPair, Cond.instanceMethod yX2_faultOfPair, Cond.selects RX2 yX2_faultOfPair yX2_faultOfPair, Cond.code yX2_faultOfPair cX2_faultOfPair 6 (some .int), Cond.methodLink RX2 31 yX2_faultAs, Cond.instanceMethod yX2_faultAs, Cond.selects RX2 yX2_faultAs yX2_faultAs, Cond.code yX2_faultAs cX2_faultAs 3 (some .int), Cond.methodLink RX2 35 yX2_faultAt, Cond.methodLink RX4 266 yX4_add, Cond.methodLink RL 175 yX5_read, Cond.instanceMethod yX5_read, Cond.selects RX5 yX5_read yX5_read, Cond.code yX5_read cX5_read 9 (some .int)]
def wsL_law_r39 : List Cond := [Cond.constantLong RX5 255 (20), Cond.fieldLink RX5 257 "SpringBeadsModel" "torn" "I", Cond.methodLink RL 176 yX4_torn, Cond.instanceMethod yX4_torn, Cond.selects RX4 yX4_torn yX4_torn, Cond.code yX4_torn cX4_torn 1 (some .int), Cond.methodLink RL 179 yX5_torn, Cond.instanceMethod yX5_torn, Cond.selects RX5 yX5_torn yX5_torn, Cond.code yX5_torn cX5_torn 1 (some .int), Cond.methodLink RL 180 yX4_count, Cond.instanceMethod yX4_count, Cond.selects RX4 yX4_count yX4_count, Cond.code yX4_count cX4_count 2 (some .int), Cond.fieldLink RX4 272 "SpringBeads$Sheets" "size" "[I", Cond.methodLink RX4 269 yX2_isNothing, Cond.methodLink RX4 275 yX0_sumOf, Cond.instanceMethod yX0_sumOf, Cond.selects RX0 yX0_sumOf yX0_sumOf, Cond.code yX0_sumOf cX0_sumOf 5 (some .int), Cond.methodLink RX0 58 yX0_rowOf, Cond.methodLink RL 183 yX5_count, Cond.instanceMethod yX5_count, Cond.selects RX5 yX5_count yX5_count]
def wsL_law_r40 : List Cond := [Cond.code yX5_count cX5_count 5 (some .int)]
def wsL_law : List Cond := (wsL_law_r1 ++ (wsL_law_r2 ++ (wsL_law_r3 ++ (wsL_law_r4 ++ (wsL_law_r5 ++ (wsL_law_r6 ++ (wsL_law_r7 ++ (wsL_law_r8 ++ (wsL_law_r9 ++ (wsL_law_r10 ++ (wsL_law_r11 ++ (wsL_law_r12 ++ (wsL_law_r13 ++ (wsL_law_r14 ++ (wsL_law_r15 ++ (wsL_law_r16 ++ (wsL_law_r17 ++ (wsL_law_r18 ++ (wsL_law_r19 ++ (wsL_law_r20 ++ (wsL_law_r21 ++ (wsL_law_r22 ++ (wsL_law_r23 ++ (wsL_law_r24 ++ (wsL_law_r25 ++ (wsL_law_r26 ++ (wsL_law_r27 ++ (wsL_law_r28 ++ (wsL_law_r29 ++ (wsL_law_r30 ++ (wsL_law_r31 ++ (wsL_law_r32 ++ (wsL_law_r33 ++ (wsL_law_r34 ++ (wsL_law_r35 ++ (wsL_law_r36 ++ (wsL_law_r37 ++ (wsL_law_r38 ++ (wsL_law_r39 ++ wsL_law_r40))))))))))))))))))))))))))))))))))))))) ++ wsX40 ++ wsX50 ++ wsX00 ++ wsX30 ++ wsX10 ++ wsX20 ++ ([] : List Cond)
set_option maxRecDepth 20000 in
theorem wsL_law_in : ∀ w ∈ wsL_law, w ∈ lw_tbl := fun w h => (goodIn_p wsL_law [69, 72, 77, 148, 184, 204, 754, 255, 258, 262, 844, 848, 266, 852, 270, 274, 278, 282, 289, 286, 293, 297, 301, 304, 315, 319, 323, 329, 333, 336, 339, 344, 347, 350, 353, 357, 367, 371, 375, 380, 384, 388, 392, 400, 407, 404, 411, 856, 860, 864, 872, 876, 880, 885, 889, 415, 893, 419, 423, 897, 901, 428, 432, 436, 440, 444, 905, 909, 914, 918, 450, 924, 928, 454, 932, 935, 943, 460, 947, 464, 951, 469, 955, 473, 477, 481, 959, 964, 967, 485, 971, 975, 490, 979, 494, 497, 983, 504, 508, 512, 516, 521, 526, 531, 534, 987, 992, 996, 1000, 1004, 1007, 538, 542, 1011, 1014, 1019, 1023, 546, 1027, 550, 553, 1031, 558, 1035, 563, 567, 571, 1039, 1043, 1047, 575, 1052, 579, 1056, 583, 1060, 587, 591, 595, 1064, 599, 1068, 603, 609, 613, 616, 619, 622, 1072, 1080, 1083, 626, 1087, 631, 635, 1091, 639, 1096, 643, 647, 651, 655, 660, 1100, 1104, 1108, 666, 1112, 670, 674, 678, 1116, 1120, 683, 1124, 688, 692, 1129, 696, 1133, 700, 704, 1137, 708, 712, 716, 721, 1142, 725, 729, 733, 1146, 739, 1151, 743, 748, 1155] (by decide +kernel) (by decide +kernel) w h).1
theorem inlX0 : ∀ w ∈ wsX00, w ∈ wsL_law := fun _ h => List.mem_append_left _ (List.mem_append_left _ (List.mem_append_left _ (List.mem_append_left _ (List.mem_append_right _ h))))
theorem inX0 : ∀ w ∈ wsX00, w ∈ lw_tbl := fun w h => wsL_law_in w (inlX0 w h)
theorem inlX1 : ∀ w ∈ wsX10, w ∈ wsL_law := fun _ h => List.mem_append_left _ (List.mem_append_left _ (List.mem_append_right _ h))
theorem inX1 : ∀ w ∈ wsX10, w ∈ lw_tbl := fun w h => wsL_law_in w (inlX1 w h)
theorem inlX2 : ∀ w ∈ wsX20, w ∈ wsL_law := fun _ h => List.mem_append_left _ (List.mem_append_right _ h)
theorem inX2 : ∀ w ∈ wsX20, w ∈ lw_tbl := fun w h => wsL_law_in w (inlX2 w h)
theorem inlX3 : ∀ w ∈ wsX30, w ∈ wsL_law := fun _ h => List.mem_append_left _ (List.mem_append_left _ (List.mem_append_left _ (List.mem_append_right _ h)))
theorem inX3 : ∀ w ∈ wsX30, w ∈ lw_tbl := fun w h => wsL_law_in w (inlX3 w h)
theorem inlX4 : ∀ w ∈ wsX40, w ∈ wsL_law := fun _ h => List.mem_append_left _ (List.mem_append_left _ (List.mem_append_left _ (List.mem_append_left _ (List.mem_append_left _ (List.mem_append_left _ (List.mem_append_right _ h))))))
theorem inX4 : ∀ w ∈ wsX40, w ∈ lw_tbl := fun w h => wsL_law_in w (inlX4 w h)
theorem inlX5 : ∀ w ∈ wsX50, w ∈ wsL_law := fun _ h => List.mem_append_left _ (List.mem_append_left _ (List.mem_append_left _ (List.mem_append_left _ (List.mem_append_left _ (List.mem_append_right _ h)))))
theorem inX5 : ∀ w ∈ wsX50, w ∈ lw_tbl := fun w h => wsL_law_in w (inlX5 w h)
theorem inJ6 : ∀ w ∈ wsJ60, w ∈ lw_tbl := by decide +kernel
theorem inJ9 : ∀ w ∈ wsJ90, w ∈ lw_tbl := by decide +kernel
theorem inJ0 : ∀ w ∈ wsJ00, w ∈ lw_tbl := by decide +kernel
theorem inJ1 : ∀ w ∈ wsJ10, w ∈ lw_tbl := by decide +kernel
theorem inJ2 : ∀ w ∈ wsJ20, w ∈ lw_tbl := by decide +kernel
theorem inJ3 : ∀ w ∈ wsJ30, w ∈ lw_tbl := by decide +kernel
abbrev vwCl : List vw_C := [(RX0, TX0, 16), (RX1, TX1, 4), (RX2, TX2, 3), (RX3, TX3, 8), (RX4, TX4, 10), (RX5, TX5, 28)]
end
section
theorem pb_good : lw_tbl.filter goodWord = lw_tbl.filter goodWord := rfl
theorem pb_n : (lw_tbl.filter (fun w => !goodWord w)).length = 17 := by decide +kernel
end

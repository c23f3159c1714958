section
-- ===== PART A: goes FIRST, ahead of the names: the tables' words, and 'selects' of the private methods out of them =====
/-- a private method of a class that the tables say can be made, by its rows of tables_1 -/
def lw_okq (q : MethodName × Nat) : Prop := (q.1.cls ≠ "java/lang/invoke/MethodHandle" ∧ q.1.cls ≠ "java/lang/invoke/VarHandle") ∧ Cond.instantiable q.1.cls q.2 ∈ tables_1 ∧ Cond.privateMethod q.1 ∈ tables_1 ∧ Cond.instanceMethod q.1 ∈ tables_1
theorem lw_p0 : lw_okq (⟨"SpringBeads$Tape", "readToken", "()V"⟩, 8) := ⟨⟨by decide +kernel, by decide +kernel⟩, List.mem_of_getElem? (i := 93) (by decide +kernel), List.mem_of_getElem? (i := 228) (by decide +kernel), List.mem_of_getElem? (i := 229) (by decide +kernel)⟩
theorem lw_p1 : lw_okq (⟨"SpringBeads$Tape", "runOf", "(CC)I"⟩, 8) := ⟨⟨by decide +kernel, by decide +kernel⟩, List.mem_of_getElem? (i := 93) (by decide +kernel), List.mem_of_getElem? (i := 232) (by decide +kernel), List.mem_of_getElem? (i := 233) (by decide +kernel)⟩
theorem lw_p2 : lw_okq (⟨"SpringBeads$Tape", "blame", "(I)V"⟩, 8) := ⟨⟨by decide +kernel, by decide +kernel⟩, List.mem_of_getElem? (i := 93) (by decide +kernel), List.mem_of_getElem? (i := 239) (by decide +kernel), List.mem_of_getElem? (i := 240) (by decide +kernel)⟩
theorem lw_p3 : lw_okq (⟨"SpringBeads$Tape", "takeLine", "(LSpringBeads$Chain;)V"⟩, 8) := ⟨⟨by decide +kernel, by decide +kernel⟩, List.mem_of_getElem? (i := 93) (by decide +kernel), List.mem_of_getElem? (i := 243) (by decide +kernel), List.mem_of_getElem? (i := 244) (by decide +kernel)⟩
theorem lw_p4 : lw_okq (⟨"SpringBeads$Tape", "wordRead", "()I"⟩, 8) := ⟨⟨by decide +kernel, by decide +kernel⟩, List.mem_of_getElem? (i := 93) (by decide +kernel), List.mem_of_getElem? (i := 247) (by decide +kernel), List.mem_of_getElem? (i := 248) (by decide +kernel)⟩
theorem lw_p5 : lw_okq (⟨"SpringBeads$Tape", "isSpelt", "(Ljava/lang/String;)Z"⟩, 8) := ⟨⟨by decide +kernel, by decide +kernel⟩, List.mem_of_getElem? (i := 93) (by decide +kernel), List.mem_of_getElem? (i := 261) (by decide +kernel), List.mem_of_getElem? (i := 262) (by decide +kernel)⟩
theorem lw_p6 : lw_okq (⟨"SpringBeads$Tape", "takeDrag", "(LSpringBeads$Chain;)V"⟩, 8) := ⟨⟨by decide +kernel, by decide +kernel⟩, List.mem_of_getElem? (i := 93) (by decide +kernel), List.mem_of_getElem? (i := 313) (by decide +kernel), List.mem_of_getElem? (i := 314) (by decide +kernel)⟩
theorem lw_p7 : lw_okq (⟨"SpringBeads$Tape", "takeNumber", "(II)I"⟩, 8) := ⟨⟨by decide +kernel, by decide +kernel⟩, List.mem_of_getElem? (i := 93) (by decide +kernel), List.mem_of_getElem? (i := 317) (by decide +kernel), List.mem_of_getElem? (i := 318) (by decide +kernel)⟩
theorem lw_p8 : lw_okq (⟨"SpringBeads$Tape", "numberRead", "()I"⟩, 8) := ⟨⟨by decide +kernel, by decide +kernel⟩, List.mem_of_getElem? (i := 93) (by decide +kernel), List.mem_of_getElem? (i := 321) (by decide +kernel), List.mem_of_getElem? (i := 322) (by decide +kernel)⟩
theorem lw_p9 : lw_okq (⟨"SpringBeads$Tape", "takeSemicolon", "()V"⟩, 8) := ⟨⟨by decide +kernel, by decide +kernel⟩, List.mem_of_getElem? (i := 93) (by decide +kernel), List.mem_of_getElem? (i := 326) (by decide +kernel), List.mem_of_getElem? (i := 327) (by decide +kernel)⟩
theorem lw_p10 : lw_okq (⟨"SpringBeads$Tape", "takeKnock", "(LSpringBeads$Chain;Z)V"⟩, 8) := ⟨⟨by decide +kernel, by decide +kernel⟩, List.mem_of_getElem? (i := 93) (by decide +kernel), List.mem_of_getElem? (i := 330) (by decide +kernel), List.mem_of_getElem? (i := 331) (by decide +kernel)⟩
theorem lw_p11 : lw_okq (⟨"SpringBeads$Tape", "takeBead", "(LSpringBeads$Chain;I)V"⟩, 8) := ⟨⟨by decide +kernel, by decide +kernel⟩, List.mem_of_getElem? (i := 93) (by decide +kernel), List.mem_of_getElem? (i := 338) (by decide +kernel), List.mem_of_getElem? (i := 339) (by decide +kernel)⟩
theorem lw_p12 : lw_okq (⟨"SpringBeads$Chain", "slowed", "(I)I"⟩, 16) := ⟨⟨by decide +kernel, by decide +kernel⟩, List.mem_of_getElem? (i := 22) (by decide +kernel), List.mem_of_getElem? (i := 472) (by decide +kernel), List.mem_of_getElem? (i := 473) (by decide +kernel)⟩
theorem lw_p13 : lw_okq (⟨"SpringBeads$Chain", "goOn", "(II)V"⟩, 16) := ⟨⟨by decide +kernel, by decide +kernel⟩, List.mem_of_getElem? (i := 22) (by decide +kernel), List.mem_of_getElem? (i := 477) (by decide +kernel), List.mem_of_getElem? (i := 478) (by decide +kernel)⟩
theorem lw_p14 : lw_okq (⟨"SpringBeads", "steadiest", "(IIII)I"⟩, 10) := ⟨⟨by decide +kernel, by decide +kernel⟩, List.mem_of_getElem? (i := 14) (by decide +kernel), List.mem_of_getElem? (i := 513) (by decide +kernel), List.mem_of_getElem? (i := 514) (by decide +kernel)⟩
theorem lw_p15 : lw_okq (⟨"SpringBeads", "tryWith", "(III)V"⟩, 10) := ⟨⟨by decide +kernel, by decide +kernel⟩, List.mem_of_getElem? (i := 14) (by decide +kernel), List.mem_of_getElem? (i := 517) (by decide +kernel), List.mem_of_getElem? (i := 518) (by decide +kernel)⟩
def lw_privs_1 : List (MethodName × Nat) := [(⟨"SpringBeads$Tape", "readToken", "()V"⟩, 8), (⟨"SpringBeads$Tape", "runOf", "(CC)I"⟩, 8), (⟨"SpringBeads$Tape", "blame", "(I)V"⟩, 8), (⟨"SpringBeads$Tape", "takeLine", "(LSpringBeads$Chain;)V"⟩, 8), (⟨"SpringBeads$Tape", "wordRead", "()I"⟩, 8), (⟨"SpringBeads$Tape", "isSpelt", "(Ljava/lang/String;)Z"⟩, 8), (⟨"SpringBeads$Tape", "takeDrag", "(LSpringBeads$Chain;)V"⟩, 8), (⟨"SpringBeads$Tape", "takeNumber", "(II)I"⟩, 8), (⟨"SpringBeads$Tape", "numberRead", "()I"⟩, 8), (⟨"SpringBeads$Tape", "takeSemicolon", "()V"⟩, 8), (⟨"SpringBeads$Tape", "takeKnock", "(LSpringBeads$Chain;Z)V"⟩, 8), (⟨"SpringBeads$Tape", "takeBead", "(LSpringBeads$Chain;I)V"⟩, 8), (⟨"SpringBeads$Chain", "slowed", "(I)I"⟩, 16), (⟨"SpringBeads$Chain", "goOn", "(II)V"⟩, 16), (⟨"SpringBeads", "steadiest", "(IIII)I"⟩, 10), (⟨"SpringBeads", "tryWith", "(III)V"⟩, 10)]
theorem lw_r1 : ∀ q ∈ lw_privs_1, lw_okq q := List.forall_mem_cons.mpr ⟨lw_p0, List.forall_mem_cons.mpr ⟨lw_p1, List.forall_mem_cons.mpr ⟨lw_p2, List.forall_mem_cons.mpr ⟨lw_p3, List.forall_mem_cons.mpr ⟨lw_p4, List.forall_mem_cons.mpr ⟨lw_p5, List.forall_mem_cons.mpr ⟨lw_p6, List.forall_mem_cons.mpr ⟨lw_p7, List.forall_mem_cons.mpr ⟨lw_p8, List.forall_mem_cons.mpr ⟨lw_p9, List.forall_mem_cons.mpr ⟨lw_p10, List.forall_mem_cons.mpr ⟨lw_p11, List.forall_mem_cons.mpr ⟨lw_p12, List.forall_mem_cons.mpr ⟨lw_p13, List.forall_mem_cons.mpr ⟨lw_p14, List.forall_mem_cons.mpr ⟨lw_p15, fun _ h => absurd h List.not_mem_nil⟩⟩⟩⟩⟩⟩⟩⟩⟩⟩⟩⟩⟩⟩⟩⟩
theorem lw_p16 : lw_okq (⟨"SpringBeads", "swingAsItIs", "(I)I"⟩, 10) := ⟨⟨by decide +kernel, by decide +kernel⟩, List.mem_of_getElem? (i := 14) (by decide +kernel), List.mem_of_getElem? (i := 537) (by decide +kernel), List.mem_of_getElem? (i := 538) (by decide +kernel)⟩
theorem lw_p17 : lw_okq (⟨"SpringBeads", "runMissing", "(II)V"⟩, 10) := ⟨⟨by decide +kernel, by decide +kernel⟩, List.mem_of_getElem? (i := 14) (by decide +kernel), List.mem_of_getElem? (i := 555) (by decide +kernel), List.mem_of_getElem? (i := 556) (by decide +kernel)⟩
theorem lw_p18 : lw_okq (⟨"SpringBeads", "asSeenBits", "(II)I"⟩, 10) := ⟨⟨by decide +kernel, by decide +kernel⟩, List.mem_of_getElem? (i := 14) (by decide +kernel), List.mem_of_getElem? (i := 593) (by decide +kernel), List.mem_of_getElem? (i := 594) (by decide +kernel)⟩
theorem lw_p19 : lw_okq (⟨"SpringBeads$Seen", "latestTick", "()I"⟩, 4) := ⟨⟨by decide +kernel, by decide +kernel⟩, List.mem_of_getElem? (i := 129) (by decide +kernel), List.mem_of_getElem? (i := 601) (by decide +kernel), List.mem_of_getElem? (i := 602) (by decide +kernel)⟩
theorem lw_p20 : lw_okq (⟨"SpringBeads$Seen", "agrees", "(LSpringBeads$Chain;I)Z"⟩, 4) := ⟨⟨by decide +kernel, by decide +kernel⟩, List.mem_of_getElem? (i := 129) (by decide +kernel), List.mem_of_getElem? (i := 606) (by decide +kernel), List.mem_of_getElem? (i := 607) (by decide +kernel)⟩
theorem lw_p21 : lw_okq (⟨"SpringBeads", "traceStiffs", "(II)V"⟩, 10) := ⟨⟨by decide +kernel, by decide +kernel⟩, List.mem_of_getElem? (i := 14) (by decide +kernel), List.mem_of_getElem? (i := 620) (by decide +kernel), List.mem_of_getElem? (i := 621) (by decide +kernel)⟩
theorem lw_p22 : lw_okq (⟨"SpringBeads", "mostAlike", "(II)I"⟩, 10) := ⟨⟨by decide +kernel, by decide +kernel⟩, List.mem_of_getElem? (i := 14) (by decide +kernel), List.mem_of_getElem? (i := 624) (by decide +kernel), List.mem_of_getElem? (i := 625) (by decide +kernel)⟩
theorem lw_p23 : lw_okq (⟨"SpringBeads", "imageOf", "(I)LSpringBeads$Chain;"⟩, 10) := ⟨⟨by decide +kernel, by decide +kernel⟩, List.mem_of_getElem? (i := 14) (by decide +kernel), List.mem_of_getElem? (i := 638) (by decide +kernel), List.mem_of_getElem? (i := 639) (by decide +kernel)⟩
theorem lw_p24 : lw_okq (⟨"SpringBeads$Sheets", "faultAs", "(II)I"⟩, 3) := ⟨⟨by decide +kernel, by decide +kernel⟩, List.mem_of_getElem? (i := 149) (by decide +kernel), List.mem_of_getElem? (i := 679) (by decide +kernel), List.mem_of_getElem? (i := 680) (by decide +kernel)⟩
theorem lw_p25 : lw_okq (⟨"SpringBeadsModel", "readsOn", "()V"⟩, 28) := ⟨⟨by decide +kernel, by decide +kernel⟩, List.mem_of_getElem? (i := 699) (by decide +kernel), List.mem_of_getElem? (i := 806) (by decide +kernel), List.mem_of_getElem? (i := 807) (by decide +kernel)⟩
theorem lw_p26 : lw_okq (⟨"SpringBeadsModel", "byteAt", "(I)I"⟩, 28) := ⟨⟨by decide +kernel, by decide +kernel⟩, List.mem_of_getElem? (i := 699) (by decide +kernel), List.mem_of_getElem? (i := 810) (by decide +kernel), List.mem_of_getElem? (i := 811) (by decide +kernel)⟩
theorem lw_p27 : lw_okq (⟨"SpringBeadsModel", "fails", "(I)V"⟩, 28) := ⟨⟨by decide +kernel, by decide +kernel⟩, List.mem_of_getElem? (i := 699) (by decide +kernel), List.mem_of_getElem? (i := 818) (by decide +kernel), List.mem_of_getElem? (i := 819) (by decide +kernel)⟩
theorem lw_p28 : lw_okq (⟨"SpringBeadsModel", "readLine", "()V"⟩, 28) := ⟨⟨by decide +kernel, by decide +kernel⟩, List.mem_of_getElem? (i := 699) (by decide +kernel), List.mem_of_getElem? (i := 822) (by decide +kernel), List.mem_of_getElem? (i := 823) (by decide +kernel)⟩
theorem lw_p29 : lw_okq (⟨"SpringBeadsModel", "nameHere", "()I"⟩, 28) := ⟨⟨by decide +kernel, by decide +kernel⟩, List.mem_of_getElem? (i := 699) (by decide +kernel), List.mem_of_getElem? (i := 826) (by decide +kernel), List.mem_of_getElem? (i := 827) (by decide +kernel)⟩
theorem lw_p30 : lw_okq (⟨"SpringBeadsModel", "readMore", "(I)V"⟩, 28) := ⟨⟨by decide +kernel, by decide +kernel⟩, List.mem_of_getElem? (i := 699) (by decide +kernel), List.mem_of_getElem? (i := 831) (by decide +kernel), List.mem_of_getElem? (i := 832) (by decide +kernel)⟩
theorem lw_p31 : lw_okq (⟨"SpringBeadsModel", "number", "(II)I"⟩, 28) := ⟨⟨by decide +kernel, by decide +kernel⟩, List.mem_of_getElem? (i := 699) (by decide +kernel), List.mem_of_getElem? (i := 835) (by decide +kernel), List.mem_of_getElem? (i := 836) (by decide +kernel)⟩
def lw_privs_2 : List (MethodName × Nat) := [(⟨"SpringBeads", "swingAsItIs", "(I)I"⟩, 10), (⟨"SpringBeads", "runMissing", "(II)V"⟩, 10), (⟨"SpringBeads", "asSeenBits", "(II)I"⟩, 10), (⟨"SpringBeads$Seen", "latestTick", "()I"⟩, 4), (⟨"SpringBeads$Seen", "agrees", "(LSpringBeads$Chain;I)Z"⟩, 4), (⟨"SpringBeads", "traceStiffs", "(II)V"⟩, 10), (⟨"SpringBeads", "mostAlike", "(II)I"⟩, 10), (⟨"SpringBeads", "imageOf", "(I)LSpringBeads$Chain;"⟩, 10), (⟨"SpringBeads$Sheets", "faultAs", "(II)I"⟩, 3), (⟨"SpringBeadsModel", "readsOn", "()V"⟩, 28), (⟨"SpringBeadsModel", "byteAt", "(I)I"⟩, 28), (⟨"SpringBeadsModel", "fails", "(I)V"⟩, 28), (⟨"SpringBeadsModel", "readLine", "()V"⟩, 28), (⟨"SpringBeadsModel", "nameHere", "()I"⟩, 28), (⟨"SpringBeadsModel", "readMore", "(I)V"⟩, 28), (⟨"SpringBeadsModel", "number", "(II)I"⟩, 28)]
theorem lw_r2 : ∀ q ∈ lw_privs_2, lw_okq q := List.forall_mem_cons.mpr ⟨lw_p16, List.forall_mem_cons.mpr ⟨lw_p17, List.forall_mem_cons.mpr ⟨lw_p18, List.forall_mem_cons.mpr ⟨lw_p19, List.forall_mem_cons.mpr ⟨lw_p20, List.forall_mem_cons.mpr ⟨lw_p21, List.forall_mem_cons.mpr ⟨lw_p22, List.forall_mem_cons.mpr ⟨lw_p23, List.forall_mem_cons.mpr ⟨lw_p24, List.forall_mem_cons.mpr ⟨lw_p25, List.forall_mem_cons.mpr ⟨lw_p26, List.forall_mem_cons.mpr ⟨lw_p27, List.forall_mem_cons.mpr ⟨lw_p28, List.forall_mem_cons.mpr ⟨lw_p29, List.forall_mem_cons.mpr ⟨lw_p30, List.forall_mem_cons.mpr ⟨lw_p31, fun _ h => absurd h List.not_mem_nil⟩⟩⟩⟩⟩⟩⟩⟩⟩⟩⟩⟩⟩⟩⟩⟩
theorem lw_p32 : lw_okq (⟨"SpringBeadsModel", "lastOn", "(I)I"⟩, 28) := ⟨⟨by decide +kernel, by decide +kernel⟩, List.mem_of_getElem? (i := 699) (by decide +kernel), List.mem_of_getElem? (i := 847) (by decide +kernel), List.mem_of_getElem? (i := 848) (by decide +kernel)⟩
theorem lw_p33 : lw_okq (⟨"SpringBeadsModel", "isBead", "(I)Z"⟩, 28) := ⟨⟨by decide +kernel, by decide +kernel⟩, List.mem_of_getElem? (i := 699) (by decide +kernel), List.mem_of_getElem? (i := 855) (by decide +kernel), List.mem_of_getElem? (i := 856) (by decide +kernel)⟩
theorem lw_p34 : lw_okq (⟨"SpringBeadsModel", "stretchOn", "(II)I"⟩, 28) := ⟨⟨by decide +kernel, by decide +kernel⟩, List.mem_of_getElem? (i := 699) (by decide +kernel), List.mem_of_getElem? (i := 860) (by decide +kernel), List.mem_of_getElem? (i := 861) (by decide +kernel)⟩
theorem lw_p35 : lw_okq (⟨"SpringBeadsModel", "pullOn", "(II)I"⟩, 28) := ⟨⟨by decide +kernel, by decide +kernel⟩, List.mem_of_getElem? (i := 699) (by decide +kernel), List.mem_of_getElem? (i := 864) (by decide +kernel), List.mem_of_getElem? (i := 865) (by decide +kernel)⟩
theorem lw_p36 : lw_okq (⟨"SpringBeadsModel", "isKnock", "(I)Z"⟩, 28) := ⟨⟨by decide +kernel, by decide +kernel⟩, List.mem_of_getElem? (i := 699) (by decide +kernel), List.mem_of_getElem? (i := 874) (by decide +kernel), List.mem_of_getElem? (i := 875) (by decide +kernel)⟩
theorem lw_p37 : lw_okq (⟨"SpringBeadsModel", "puts", "(ZII)I"⟩, 28) := ⟨⟨by decide +kernel, by decide +kernel⟩, List.mem_of_getElem? (i := 699) (by decide +kernel), List.mem_of_getElem? (i := 889) (by decide +kernel), List.mem_of_getElem? (i := 890) (by decide +kernel)⟩
theorem lw_p38 : lw_okq (⟨"SpringBeadsModel", "knockOn", "(III)V"⟩, 28) := ⟨⟨by decide +kernel, by decide +kernel⟩, List.mem_of_getElem? (i := 699) (by decide +kernel), List.mem_of_getElem? (i := 910) (by decide +kernel), List.mem_of_getElem? (i := 911) (by decide +kernel)⟩
theorem lw_p39 : lw_okq (⟨"SpringBeadsModel", "adds", "(II)I"⟩, 28) := ⟨⟨by decide +kernel, by decide +kernel⟩, List.mem_of_getElem? (i := 699) (by decide +kernel), List.mem_of_getElem? (i := 921) (by decide +kernel), List.mem_of_getElem? (i := 922) (by decide +kernel)⟩
theorem lw_p40 : lw_okq (⟨"SpringBeadsModel", "tickOn", "(IZ)V"⟩, 28) := ⟨⟨by decide +kernel, by decide +kernel⟩, List.mem_of_getElem? (i := 699) (by decide +kernel), List.mem_of_getElem? (i := 938) (by decide +kernel), List.mem_of_getElem? (i := 939) (by decide +kernel)⟩
theorem lw_p41 : lw_okq (⟨"SpringBeadsModel", "movesOn", "(I)V"⟩, 28) := ⟨⟨by decide +kernel, by decide +kernel⟩, List.mem_of_getElem? (i := 699) (by decide +kernel), List.mem_of_getElem? (i := 942) (by decide +kernel), List.mem_of_getElem? (i := 943) (by decide +kernel)⟩
theorem lw_p42 : lw_okq (⟨"SpringBeadsModel", "speedsOn", "(I)V"⟩, 28) := ⟨⟨by decide +kernel, by decide +kernel⟩, List.mem_of_getElem? (i := 699) (by decide +kernel), List.mem_of_getElem? (i := 946) (by decide +kernel), List.mem_of_getElem? (i := 947) (by decide +kernel)⟩
theorem lw_p43 : lw_okq (⟨"SpringBeadsModel", "placesOn", "(I)V"⟩, 28) := ⟨⟨by decide +kernel, by decide +kernel⟩, List.mem_of_getElem? (i := 699) (by decide +kernel), List.mem_of_getElem? (i := 950) (by decide +kernel), List.mem_of_getElem? (i := 951) (by decide +kernel)⟩
theorem lw_p44 : lw_okq (⟨"SpringBeadsModel", "ticksGo", "(II)I"⟩, 28) := ⟨⟨by decide +kernel, by decide +kernel⟩, List.mem_of_getElem? (i := 699) (by decide +kernel), List.mem_of_getElem? (i := 965) (by decide +kernel), List.mem_of_getElem? (i := 966) (by decide +kernel)⟩
theorem lw_p45 : lw_okq (⟨"SpringBeadsModel", "copies", "(II)V"⟩, 28) := ⟨⟨by decide +kernel, by decide +kernel⟩, List.mem_of_getElem? (i := 699) (by decide +kernel), List.mem_of_getElem? (i := 969) (by decide +kernel), List.mem_of_getElem? (i := 970) (by decide +kernel)⟩
theorem lw_p46 : lw_okq (⟨"SpringBeadsModel", "isAsked", "(III)Z"⟩, 28) := ⟨⟨by decide +kernel, by decide +kernel⟩, List.mem_of_getElem? (i := 699) (by decide +kernel), List.mem_of_getElem? (i := 989) (by decide +kernel), List.mem_of_getElem? (i := 990) (by decide +kernel)⟩
theorem lw_p47 : lw_okq (⟨"SpringBeadsModel", "leastAt", "(IIIII)I"⟩, 28) := ⟨⟨by decide +kernel, by decide +kernel⟩, List.mem_of_getElem? (i := 699) (by decide +kernel), List.mem_of_getElem? (i := 993) (by decide +kernel), List.mem_of_getElem? (i := 994) (by decide +kernel)⟩
def lw_privs_3 : List (MethodName × Nat) := [(⟨"SpringBeadsModel", "lastOn", "(I)I"⟩, 28), (⟨"SpringBeadsModel", "isBead", "(I)Z"⟩, 28), (⟨"SpringBeadsModel", "stretchOn", "(II)I"⟩, 28), (⟨"SpringBeadsModel", "pullOn", "(II)I"⟩, 28), (⟨"SpringBeadsModel", "isKnock", "(I)Z"⟩, 28), (⟨"SpringBeadsModel", "puts", "(ZII)I"⟩, 28), (⟨"SpringBeadsModel", "knockOn", "(III)V"⟩, 28), (⟨"SpringBeadsModel", "adds", "(II)I"⟩, 28), (⟨"SpringBeadsModel", "tickOn", "(IZ)V"⟩, 28), (⟨"SpringBeadsModel", "movesOn", "(I)V"⟩, 28), (⟨"SpringBeadsModel", "speedsOn", "(I)V"⟩, 28), (⟨"SpringBeadsModel", "placesOn", "(I)V"⟩, 28), (⟨"SpringBeadsModel", "ticksGo", "(II)I"⟩, 28), (⟨"SpringBeadsModel", "copies", "(II)V"⟩, 28), (⟨"SpringBeadsModel", "isAsked", "(III)Z"⟩, 28), (⟨"SpringBeadsModel", "leastAt", "(IIIII)I"⟩, 28)]
theorem lw_r3 : ∀ q ∈ lw_privs_3, lw_okq q := List.forall_mem_cons.mpr ⟨lw_p32, List.forall_mem_cons.mpr ⟨lw_p33, List.forall_mem_cons.mpr ⟨lw_p34, List.forall_mem_cons.mpr ⟨lw_p35, List.forall_mem_cons.mpr ⟨lw_p36, List.forall_mem_cons.mpr ⟨lw_p37, List.forall_mem_cons.mpr ⟨lw_p38, List.forall_mem_cons.mpr ⟨lw_p39, List.forall_mem_cons.mpr ⟨lw_p40, List.forall_mem_cons.mpr ⟨lw_p41, List.forall_mem_cons.mpr ⟨lw_p42, List.forall_mem_cons.mpr ⟨lw_p43, List.forall_mem_cons.mpr ⟨lw_p44, List.forall_mem_cons.mpr ⟨lw_p45, List.forall_mem_cons.mpr ⟨lw_p46, List.forall_mem_cons.mpr ⟨lw_p47, fun _ h => absurd h List.not_mem_nil⟩⟩⟩⟩⟩⟩⟩⟩⟩⟩⟩⟩⟩⟩⟩⟩
theorem lw_p48 : lw_okq (⟨"SpringBeadsModel", "byMisses", "(IIII)J"⟩, 28) := ⟨⟨by decide +kernel, by decide +kernel⟩, List.mem_of_getElem? (i := 699) (by decide +kernel), List.mem_of_getElem? (i := 1026) (by decide +kernel), List.mem_of_getElem? (i := 1027) (by decide +kernel)⟩
theorem lw_p49 : lw_okq (⟨"SpringBeadsModel", "numbersAt", "(III)I"⟩, 28) := ⟨⟨by decide +kernel, by decide +kernel⟩, List.mem_of_getElem? (i := 699) (by decide +kernel), List.mem_of_getElem? (i := 1050) (by decide +kernel), List.mem_of_getElem? (i := 1051) (by decide +kernel)⟩
theorem lw_p50 : lw_okq (⟨"SpringBeadsModel", "isAsSeen", "(II)Z"⟩, 28) := ⟨⟨by decide +kernel, by decide +kernel⟩, List.mem_of_getElem? (i := 699) (by decide +kernel), List.mem_of_getElem? (i := 1054) (by decide +kernel), List.mem_of_getElem? (i := 1055) (by decide +kernel)⟩
theorem lw_p51 : lw_okq (⟨"SpringBeadsModel", "worstAt", "(II)I"⟩, 28) := ⟨⟨by decide +kernel, by decide +kernel⟩, List.mem_of_getElem? (i := 699) (by decide +kernel), List.mem_of_getElem? (i := 1066) (by decide +kernel), List.mem_of_getElem? (i := 1067) (by decide +kernel)⟩
def lw_privs_4 : List (MethodName × Nat) := [(⟨"SpringBeadsModel", "byMisses", "(IIII)J"⟩, 28), (⟨"SpringBeadsModel", "numbersAt", "(III)I"⟩, 28), (⟨"SpringBeadsModel", "isAsSeen", "(II)Z"⟩, 28), (⟨"SpringBeadsModel", "worstAt", "(II)I"⟩, 28)]
theorem lw_r4 : ∀ q ∈ lw_privs_4, lw_okq q := List.forall_mem_cons.mpr ⟨lw_p48, List.forall_mem_cons.mpr ⟨lw_p49, List.forall_mem_cons.mpr ⟨lw_p50, List.forall_mem_cons.mpr ⟨lw_p51, fun _ h => absurd h List.not_mem_nil⟩⟩⟩⟩
def lw_privs : List (MethodName × Nat) := lw_privs_1 ++ (lw_privs_2 ++ (lw_privs_3 ++ (lw_privs_4)))
def lw_tbl : List Cond := k2_sels lw_privs ++ tables_1
theorem lw_privs_ok : ∀ q ∈ lw_privs, lw_okq q := by
  show ∀ q ∈ lw_privs_1 ++ (lw_privs_2 ++ (lw_privs_3 ++ (lw_privs_4))), lw_okq q
  exact List.forall_mem_append.mpr ⟨lw_r1, List.forall_mem_append.mpr ⟨lw_r2, List.forall_mem_append.mpr ⟨lw_r3, lw_r4⟩⟩⟩
end
section
/-! ===== BEGIN words of one list among another's, by their places ===== -/
theorem goodIn_r {big : List Cond} (ws : List Cond) (ps : List Nat) (hp : ws = ps.filterMap (fun i => big[i]?)) (h : ws.all goodWord = true) : GoodIn big ws := by
  intro w hw
  have h1 := List.all_eq_true.mp h w hw
  rw [hp] at hw
  obtain ⟨i, -, hi⟩ := List.mem_filterMap.mp hw
  have hm : w ∈ big := by first | exact List.mem_of_getElem? hi | exact List.getElem?_mem hi
  exact ⟨hm, good_of_word h1⟩
theorem goodIn_app {big a b : List Cond} (ha : GoodIn big a) (hb : GoodIn big b) : GoodIn big (a ++ b) := fun w h => (List.mem_append.mp h).elim (ha w) (hb w)
theorem goodIn_ca {big a b : List Cond} {c : Cond} (ha : GoodIn big (c :: a)) (hb : GoodIn big b) : GoodIn big (c :: (a ++ b)) := fun w h => (List.mem_cons.mp h).elim (fun e => ha w (List.mem_cons.mpr (Or.inl e))) (fun h => (List.mem_append.mp h).elim (fun h => ha w (List.mem_cons.mpr (Or.inr h))) (hb w))
theorem goodIn_sub {big ws : List Cond} (hm : ∀ w ∈ ws, w ∈ big) (h : ws.all goodWord = true) : GoodIn big ws := fun w hw => ⟨hm w hw, good_of_word (List.all_eq_true.mp h w hw)⟩
/-! ===== END ===== -/


/-! ===== BEGIN printed: names, fields, word lists, decode rows ===== -/
def RX0 : String := "SpringBeads$Chain"
def TX0 : u_T := fun k => match k with
  | 0 => ("SpringBeads$Chain", "beads", "I", false)
  | 1 => ("SpringBeads$Chain", "knocks", "I", false)
  | 2 => ("SpringBeads$Chain", "drag", "I", false)
  | 3 => ("SpringBeads$Chain", "tick", "I", false)
  | 4 => ("SpringBeads$Chain", "kind", "[I", true)
  | 5 => ("SpringBeads$Chain", "rest", "[I", true)
  | 6 => ("SpringBeads$Chain", "stiff", "[I", true)
  | 7 => ("SpringBeads$Chain", "mass", "[I", true)
  | 8 => ("SpringBeads$Chain", "place", "[I", true)
  | 9 => ("SpringBeads$Chain", "speed", "[I", true)
  | 10 => ("SpringBeads$Chain", "knockBead", "[I", true)
  | 11 => ("SpringBeads$Chain", "knockBy", "[I", true)
  | 12 => ("SpringBeads$Chain", "pull", "[I", true)
  | 13 => ("SpringBeads$Chain", "gone", "I", false)
  | 14 => ("SpringBeads$Chain", "stops", "I", false)
  | _ => ("SpringBeads$Chain", "stirred", "Z", false)
def tyX0 : Nat → FieldType := fun k => match k with
  | 0 => .int
  | 1 => .int
  | 2 => .int
  | 3 => .int
  | 4 => .array .int
  | 5 => .array .int
  | 6 => .array .int
  | 7 => .array .int
  | 8 => .array .int
  | 9 => .array .int
  | 10 => .array .int
  | 11 => .array .int
  | 12 => .array .int
  | 13 => .int
  | 14 => .int
  | _ => .boolean
abbrev wsX00 : List Cond := u_ws RX0 TX0 16
theorem nmX0 : ∀ a, a < 16 → ∀ b, b < 16 → a ≠ b → (TX0 a).2.1 ≠ (TX0 b).2.1 := by decide +kernel
theorem tyX0_ok : ∀ k, k < 16 → parseFieldDescriptor (TX0 k).2.2.1 = some (tyX0 k) := by decide +kernel
abbrev cX0_init : ByteArray := prog_2_method_1_code
def yX0_init : MethodName := ⟨RX0, "<init>", "()V"⟩
abbrev cX0_clear : ByteArray := prog_2_method_2_code
def yX0_clear : MethodName := ⟨RX0, "clear", "()V"⟩
abbrev cX0_becomeLike : ByteArray := prog_2_method_3_code
def yX0_becomeLike : MethodName := ⟨RX0, "becomeLike", "(LSpringBeads$Chain;)V"⟩
abbrev cX0_has : ByteArray := prog_2_method_4_code
def yX0_has : MethodName := ⟨RX0, "has", "(I)Z"⟩
abbrev cX0_rowOf : ByteArray := prog_2_method_5_code
def yX0_rowOf : MethodName := ⟨RX0, "rowOf", "(I)[I"⟩
abbrev cX0_sumOf : ByteArray := prog_2_method_6_code
def yX0_sumOf : MethodName := ⟨RX0, "sumOf", "(I)I"⟩
abbrev cX0_lastPlace : ByteArray := prog_2_method_7_code
def yX0_lastPlace : MethodName := ⟨RX0, "lastPlace", "()I"⟩
abbrev cX0_stillBits : ByteArray := prog_2_method_8_code
def yX0_stillBits : MethodName := ⟨RX0, "stillBits", "()I"⟩
abbrev cX0_addBead : ByteArray := prog_2_method_9_code
def yX0_addBead : MethodName := ⟨RX0, "addBead", "(IIII)Z"⟩
abbrev cX0_addKnock : ByteArray := prog_2_method_10_code
def yX0_addKnock : MethodName := ⟨RX0, "addKnock", "(II)Z"⟩
abbrev cX0_changePlaces : ByteArray := prog_2_method_11_code
def yX0_changePlaces : MethodName := ⟨RX0, "changePlaces", "(II)V"⟩
abbrev cX0_stretchOf : ByteArray := prog_2_method_12_code
def yX0_stretchOf : MethodName := ⟨RX0, "stretchOf", "(I)I"⟩
abbrev cX0_pullOf : ByteArray := prog_2_method_13_code
def yX0_pullOf : MethodName := ⟨RX0, "pullOf", "(I)I"⟩
abbrev cX0_knockOnce : ByteArray := prog_2_method_14_code
def yX0_knockOnce : MethodName := ⟨RX0, "knockOnce", "(II)V"⟩
abbrev cX0_knockByPlan : ByteArray := prog_2_method_15_code
def yX0_knockByPlan : MethodName := ⟨RX0, "knockByPlan", "()V"⟩
abbrev cX0_tickOnce : ByteArray := prog_2_method_16_code
def yX0_tickOnce : MethodName := ⟨RX0, "tickOnce", "()V"⟩
abbrev cX0_tickOften : ByteArray := prog_2_method_17_code
def yX0_tickOften : MethodName := ⟨RX0, "tickOften", "(I)V"⟩
abbrev cX0_move : ByteArray := prog_2_method_18_code
def yX0_move : MethodName := ⟨RX0, "move", "()V"⟩
abbrev cX0_goOn : ByteArray := prog_2_method_19_code
def yX0_goOn : MethodName := ⟨RX0, "goOn", "(II)V"⟩
abbrev cX0_slowed : ByteArray := prog_2_method_20_code
def yX0_slowed : MethodName := ⟨RX0, "slowed", "(I)I"⟩
abbrev cX0_inBounds : ByteArray := prog_2_method_21_code
def yX0_inBounds : MethodName := ⟨RX0, "inBounds", "(I)I"⟩
abbrev cX0_greatestSwing : ByteArray := prog_2_method_22_code
def yX0_greatestSwing : MethodName := ⟨RX0, "greatestSwing", "(II)I"⟩
def RX1 : String := "SpringBeads$Seen"
def TX1 : u_T := fun k => match k with
  | 0 => ("SpringBeads$Seen", "count", "I", false)
  | 1 => ("SpringBeads$Seen", "after", "[I", true)
  | 2 => ("SpringBeads$Seen", "bead", "[I", true)
  | _ => ("SpringBeads$Seen", "place", "[I", true)
def tyX1 : Nat → FieldType := fun k => match k with
  | 0 => .int
  | 1 => .array .int
  | 2 => .array .int
  | _ => .array .int
abbrev wsX10 : List Cond := u_ws RX1 TX1 4
theorem nmX1 : ∀ a, a < 4 → ∀ b, b < 4 → a ≠ b → (TX1 a).2.1 ≠ (TX1 b).2.1 := by decide +kernel
theorem tyX1_ok : ∀ k, k < 4 → parseFieldDescriptor (TX1 k).2.2.1 = some (tyX1 k) := by decide +kernel
abbrev cX1_init : ByteArray := prog_3_method_1_code
def yX1_init : MethodName := ⟨RX1, "<init>", "()V"⟩
abbrev cX1_note : ByteArray := prog_3_method_2_code
def yX1_note : MethodName := ⟨RX1, "note", "(III)Z"⟩
abbrev cX1_isSoOf : ByteArray := prog_3_method_3_code
def yX1_isSoOf : MethodName := ⟨RX1, "isSoOf", "(LSpringBeads$Chain;)Z"⟩
abbrev cX1_latestTick : ByteArray := prog_3_method_4_code
def yX1_latestTick : MethodName := ⟨RX1, "latestTick", "()I"⟩
abbrev cX1_agrees : ByteArray := prog_3_method_5_code
def yX1_agrees : MethodName := ⟨RX1, "agrees", "(LSpringBeads$Chain;I)Z"⟩
def RX2 : String := "SpringBeads$Sheets"
def TX2 : u_T := fun k => match k with
  | 0 => ("SpringBeads$Sheets", "cells", "[[I", true)
  | 1 => ("SpringBeads$Sheets", "size", "[I", true)
  | _ => ("SpringBeads$Sheets", "laneOf", "[I", true)
def tyX2 : Nat → FieldType := fun k => match k with
  | 0 => .array (.array .int)
  | 1 => .array .int
  | _ => .array .int
abbrev wsX20 : List Cond := u_ws RX2 TX2 3
theorem nmX2 : ∀ a, a < 3 → ∀ b, b < 3 → a ≠ b → (TX2 a).2.1 ≠ (TX2 b).2.1 := by decide +kernel
theorem tyX2_ok : ∀ k, k < 3 → parseFieldDescriptor (TX2 k).2.2.1 = some (tyX2 k) := by decide +kernel
abbrev cX2_init : ByteArray := prog_4_method_1_code
def yX2_init : MethodName := ⟨RX2, "<init>", "()V"⟩
abbrev cX2_isNothing : ByteArray := prog_4_method_2_code
def yX2_isNothing : MethodName := ⟨RX2, "isNothing", "(I)Z"⟩
abbrev cX2_make : ByteArray := prog_4_method_3_code
def yX2_make : MethodName := ⟨RX2, "make", "(III)V"⟩
abbrev cX2_put : ByteArray := prog_4_method_4_code
def yX2_put : MethodName := ⟨RX2, "put", "(III)V"⟩
abbrev cX2_faultAt : ByteArray := prog_4_method_5_code
def yX2_faultAt : MethodName := ⟨RX2, "faultAt", "(II)I"⟩
abbrev cX2_faultAs : ByteArray := prog_4_method_6_code
def yX2_faultAs : MethodName := ⟨RX2, "faultAs", "(II)I"⟩
abbrev cX2_faultOfPair : ByteArray := prog_4_method_7_code
def yX2_faultOfPair : MethodName := ⟨RX2, "faultOfPair", "(IIII)I"⟩
def RX3 : String := "SpringBeads$Tape"
def TX3 : u_T := fun k => match k with
  | 0 => ("SpringBeads$Tape", "bytes", "[B", true)
  | 1 => ("SpringBeads$Tape", "length", "I", false)
  | 2 => ("SpringBeads$Tape", "fault", "I", false)
  | 3 => ("SpringBeads$Tape", "faultPlace", "I", false)
  | 4 => ("SpringBeads$Tape", "token", "I", false)
  | 5 => ("SpringBeads$Tape", "from", "I", false)
  | 6 => ("SpringBeads$Tape", "behind", "I", false)
  | _ => ("SpringBeads$Tape", "dragTold", "Z", false)
def tyX3 : Nat → FieldType := fun k => match k with
  | 0 => .array .byte
  | 1 => .int
  | 2 => .int
  | 3 => .int
  | 4 => .int
  | 5 => .int
  | 6 => .int
  | _ => .boolean
abbrev wsX30 : List Cond := u_ws RX3 TX3 8
theorem nmX3 : ∀ a, a < 8 → ∀ b, b < 8 → a ≠ b → (TX3 a).2.1 ≠ (TX3 b).2.1 := by decide +kernel
theorem tyX3_ok : ∀ k, k < 8 → parseFieldDescriptor (TX3 k).2.2.1 = some (tyX3 k) := by decide +kernel
abbrev cX3_init : ByteArray := prog_5_method_1_code
def yX3_init : MethodName := ⟨RX3, "<init>", "()V"⟩
abbrev cX3_put : ByteArray := prog_5_method_2_code
def yX3_put : MethodName := ⟨RX3, "put", "(I)Z"⟩
abbrev cX3_tellInto : ByteArray := prog_5_method_3_code
def yX3_tellInto : MethodName := ⟨RX3, "tellInto", "(LSpringBeads$Chain;)I"⟩
abbrev cX3_blame : ByteArray := prog_5_method_4_code
def yX3_blame : MethodName := ⟨RX3, "blame", "(I)V"⟩
abbrev cX3_takeLine : ByteArray := prog_5_method_5_code
def yX3_takeLine : MethodName := ⟨RX3, "takeLine", "(LSpringBeads$Chain;)V"⟩
abbrev cX3_takeBead : ByteArray := prog_5_method_6_code
def yX3_takeBead : MethodName := ⟨RX3, "takeBead", "(LSpringBeads$Chain;I)V"⟩
abbrev cX3_takeDrag : ByteArray := prog_5_method_7_code
def yX3_takeDrag : MethodName := ⟨RX3, "takeDrag", "(LSpringBeads$Chain;)V"⟩
abbrev cX3_takeKnock : ByteArray := prog_5_method_8_code
def yX3_takeKnock : MethodName := ⟨RX3, "takeKnock", "(LSpringBeads$Chain;Z)V"⟩
abbrev cX3_takeNumber : ByteArray := prog_5_method_9_code
def yX3_takeNumber : MethodName := ⟨RX3, "takeNumber", "(II)I"⟩
abbrev cX3_takeSemicolon : ByteArray := prog_5_method_10_code
def yX3_takeSemicolon : MethodName := ⟨RX3, "takeSemicolon", "()V"⟩
abbrev cX3_readToken : ByteArray := prog_5_method_11_code
def yX3_readToken : MethodName := ⟨RX3, "readToken", "()V"⟩
abbrev cX3_runOf : ByteArray := prog_5_method_12_code
def yX3_runOf : MethodName := ⟨RX3, "runOf", "(CC)I"⟩
abbrev cX3_numberRead : ByteArray := prog_5_method_13_code
def yX3_numberRead : MethodName := ⟨RX3, "numberRead", "()I"⟩
abbrev cX3_wordRead : ByteArray := prog_5_method_14_code
def yX3_wordRead : MethodName := ⟨RX3, "wordRead", "()I"⟩
abbrev cX3_wordOf : ByteArray := prog_5_method_15_code
def yX3_wordOf : MethodName := ⟨RX3, "wordOf", "(I)Ljava/lang/String;"⟩
abbrev cX3_isSpelt : ByteArray := prog_5_method_16_code
def yX3_isSpelt : MethodName := ⟨RX3, "isSpelt", "(Ljava/lang/String;)Z"⟩
def RX4 : String := "SpringBeads"
def TX4 : u_T := fun k => match k with
  | 0 => ("SpringBeads", "now", "LSpringBeads$Chain;", true)
  | 1 => ("SpringBeads", "trial", "LSpringBeads$Chain;", true)
  | 2 => ("SpringBeads", "firstImage", "LSpringBeads$Chain;", true)
  | 3 => ("SpringBeads", "secondImage", "LSpringBeads$Chain;", true)
  | 4 => ("SpringBeads", "kept", "[Z", true)
  | 5 => ("SpringBeads", "tape", "LSpringBeads$Tape;", true)
  | 6 => ("SpringBeads", "seen", "LSpringBeads$Seen;", true)
  | 7 => ("SpringBeads", "sheets", "LSpringBeads$Sheets;", true)
  | 8 => ("SpringBeads", "traces", "[[I", true)
  | _ => ("SpringBeads", "torn", "I", false)
def tyX4 : Nat → FieldType := fun k => match k with
  | 0 => .object "SpringBeads$Chain"
  | 1 => .object "SpringBeads$Chain"
  | 2 => .object "SpringBeads$Chain"
  | 3 => .object "SpringBeads$Chain"
  | 4 => .array .boolean
  | 5 => .object "SpringBeads$Tape"
  | 6 => .object "SpringBeads$Seen"
  | 7 => .object "SpringBeads$Sheets"
  | 8 => .array (.array .int)
  | _ => .int
abbrev wsX40 : List Cond := u_ws RX4 TX4 10
theorem nmX4 : ∀ a, a < 10 → ∀ b, b < 10 → a ≠ b → (TX4 a).2.1 ≠ (TX4 b).2.1 := by decide +kernel
theorem tyX4_ok : ∀ k, k < 10 → parseFieldDescriptor (TX4 k).2.2.1 = some (tyX4 k) := by decide +kernel
abbrev cX4_init : ByteArray := prog_1_method_1_code
def yX4_init : MethodName := ⟨RX4, "<init>", "()V"⟩
abbrev cX4_feed : ByteArray := prog_1_method_2_code
def yX4_feed : MethodName := ⟨RX4, "feed", "(I)I"⟩
abbrev cX4_end : ByteArray := prog_1_method_3_code
def yX4_end : MethodName := ⟨RX4, "end", "(I)I"⟩
abbrev cX4_text : ByteArray := prog_1_method_4_code
def yX4_text : MethodName := ⟨RX4, "text", "()I"⟩
abbrev cX4_fault : ByteArray := prog_1_method_5_code
def yX4_fault : MethodName := ⟨RX4, "fault", "()I"⟩
abbrev cX4_rule : ByteArray := prog_1_method_6_code
def yX4_rule : MethodName := ⟨RX4, "rule", "(I)I"⟩
abbrev cX4_bead : ByteArray := prog_1_method_7_code
def yX4_bead : MethodName := ⟨RX4, "bead", "(II)I"⟩
abbrev cX4_knock : ByteArray := prog_1_method_8_code
def yX4_knock : MethodName := ⟨RX4, "knock", "(II)I"⟩
abbrev cX4_alter : ByteArray := prog_1_method_9_code
def yX4_alter : MethodName := ⟨RX4, "alter", "(III)I"⟩
abbrev cX4_drag : ByteArray := prog_1_method_10_code
def yX4_drag : MethodName := ⟨RX4, "drag", "(I)I"⟩
abbrev cX4_bind : ByteArray := prog_1_method_11_code
def yX4_bind : MethodName := ⟨RX4, "bind", "(IIII)I"⟩
abbrev cX4_cut : ByteArray := prog_1_method_12_code
def yX4_cut : MethodName := ⟨RX4, "cut", "(I)I"⟩
abbrev cX4_hit : ByteArray := prog_1_method_13_code
def yX4_hit : MethodName := ⟨RX4, "hit", "(II)I"⟩
abbrev cX4_add : ByteArray := prog_1_method_14_code
def yX4_add : MethodName := ⟨RX4, "add", "(II)I"⟩
abbrev cX4_drop : ByteArray := prog_1_method_15_code
def yX4_drop : MethodName := ⟨RX4, "drop", "(I)I"⟩
abbrev cX4_calm : ByteArray := prog_1_method_16_code
def yX4_calm : MethodName := ⟨RX4, "calm", "()I"⟩
abbrev cX4_ticks : ByteArray := prog_1_method_17_code
def yX4_ticks : MethodName := ⟨RX4, "ticks", "(I)I"⟩
abbrev cX4_runs : ByteArray := prog_1_method_18_code
def yX4_runs : MethodName := ⟨RX4, "runs", "(II)I"⟩
abbrev cX4_ahead : ByteArray := prog_1_method_19_code
def yX4_ahead : MethodName := ⟨RX4, "ahead", "(III)I"⟩
abbrev cX4_when : ByteArray := prog_1_method_20_code
def yX4_when : MethodName := ⟨RX4, "when", "(II)I"⟩
abbrev cX4_rests : ByteArray := prog_1_method_21_code
def yX4_rests : MethodName := ⟨RX4, "rests", "()I"⟩
abbrev cX4_stiff : ByteArray := prog_1_method_22_code
def yX4_stiff : MethodName := ⟨RX4, "stiff", "(III)I"⟩
abbrev cX4_rest : ByteArray := prog_1_method_23_code
def yX4_rest : MethodName := ⟨RX4, "rest", "(III)I"⟩
abbrev cX4_kind : ByteArray := prog_1_method_24_code
def yX4_kind : MethodName := ⟨RX4, "kind", "(III)I"⟩
abbrev cX4_mass : ByteArray := prog_1_method_25_code
def yX4_mass : MethodName := ⟨RX4, "mass", "(III)I"⟩
abbrev cX4_swap : ByteArray := prog_1_method_26_code
def yX4_swap : MethodName := ⟨RX4, "swap", "(II)I"⟩
abbrev cX4_miss : ByteArray := prog_1_method_27_code
def yX4_miss : MethodName := ⟨RX4, "miss", "(II)I"⟩
abbrev cX4_swingAsItIs : ByteArray := prog_1_method_28_code
def yX4_swingAsItIs : MethodName := ⟨RX4, "swingAsItIs", "(I)I"⟩
abbrev cX4_steadiest : ByteArray := prog_1_method_29_code
def yX4_steadiest : MethodName := ⟨RX4, "steadiest", "(IIII)I"⟩
abbrev cX4_tryWith : ByteArray := prog_1_method_30_code
def yX4_tryWith : MethodName := ⟨RX4, "tryWith", "(III)V"⟩
abbrev cX4_luck : ByteArray := prog_1_method_31_code
def yX4_luck : MethodName := ⟨RX4, "luck", "(IIII)J"⟩
abbrev cX4_mean : ByteArray := prog_1_method_32_code
def yX4_mean : MethodName := ⟨RX4, "mean", "(III)J"⟩
abbrev cX4_runMissing : ByteArray := prog_1_method_33_code
def yX4_runMissing : MethodName := ⟨RX4, "runMissing", "(II)V"⟩
abbrev cX4_weightOf : ByteArray := prog_1_method_34_code
def yX4_weightOf : MethodName := ⟨RX4, "weightOf", "(III)J"⟩
abbrev cX4_power : ByteArray := prog_1_method_35_code
def yX4_power : MethodName := ⟨RX4, "power", "(II)J"⟩
abbrev cX4_partOfFraction : ByteArray := prog_1_method_36_code
def yX4_partOfFraction : MethodName := ⟨RX4, "partOfFraction", "(JJI)J"⟩
abbrev cX4_commonDivisor : ByteArray := prog_1_method_37_code
def yX4_commonDivisor : MethodName := ⟨RX4, "commonDivisor", "(JJ)J"⟩
abbrev cX4_see : ByteArray := prog_1_method_38_code
def yX4_see : MethodName := ⟨RX4, "see", "(III)I"⟩
abbrev cX4_forget : ByteArray := prog_1_method_39_code
def yX4_forget : MethodName := ⟨RX4, "forget", "(I)I"⟩
abbrev cX4_kinds : ByteArray := prog_1_method_40_code
def yX4_kinds : MethodName := ⟨RX4, "kinds", "(I)I"⟩
abbrev cX4_stiffs : ByteArray := prog_1_method_41_code
def yX4_stiffs : MethodName := ⟨RX4, "stiffs", "(I)I"⟩
abbrev cX4_ask : ByteArray := prog_1_method_42_code
def yX4_ask : MethodName := ⟨RX4, "ask", "(II)I"⟩
abbrev cX4_asSeenBits : ByteArray := prog_1_method_43_code
def yX4_asSeenBits : MethodName := ⟨RX4, "asSeenBits", "(II)I"⟩
abbrev cX4_traceStiffs : ByteArray := prog_1_method_44_code
def yX4_traceStiffs : MethodName := ⟨RX4, "traceStiffs", "(II)V"⟩
abbrev cX4_mostAlike : ByteArray := prog_1_method_45_code
def yX4_mostAlike : MethodName := ⟨RX4, "mostAlike", "(II)I"⟩
abbrev cX4_drift : ByteArray := prog_1_method_46_code
def yX4_drift : MethodName := ⟨RX4, "drift", "(III)I"⟩
abbrev cX4_keep : ByteArray := prog_1_method_47_code
def yX4_keep : MethodName := ⟨RX4, "keep", "(I)I"⟩
abbrev cX4_back : ByteArray := prog_1_method_48_code
def yX4_back : MethodName := ⟨RX4, "back", "(I)I"⟩
abbrev cX4_imageOf : ByteArray := prog_1_method_49_code
def yX4_imageOf : MethodName := ⟨RX4, "imageOf", "(I)LSpringBeads$Chain;"⟩
abbrev cX4_sheet : ByteArray := prog_1_method_50_code
def yX4_sheet : MethodName := ⟨RX4, "sheet", "(III)I"⟩
abbrev cX4_lay : ByteArray := prog_1_method_51_code
def yX4_lay : MethodName := ⟨RX4, "lay", "(III)I"⟩
abbrev cX4_read : ByteArray := prog_1_method_52_code
def yX4_read : MethodName := ⟨RX4, "read", "(IIII)I"⟩
abbrev cX4_torn : ByteArray := prog_1_method_53_code
def yX4_torn : MethodName := ⟨RX4, "torn", "()I"⟩
abbrev cX4_count : ByteArray := prog_1_method_54_code
def yX4_count : MethodName := ⟨RX4, "count", "(I)I"⟩
abbrev cX4_within : ByteArray := prog_1_method_55_code
def yX4_within : MethodName := ⟨RX4, "within", "(III)Z"⟩
def RX5 : String := "SpringBeadsModel"
def TX5 : u_T := fun k => match k with
  | 0 => ("SpringBeadsModel", "state", "[I", true)
  | 1 => ("SpringBeadsModel", "readPage", "[I", true)
  | 2 => ("SpringBeadsModel", "isDragTold", "Z", false)
  | 3 => ("SpringBeadsModel", "tape", "[I", true)
  | 4 => ("SpringBeadsModel", "taped", "I", false)
  | 5 => ("SpringBeadsModel", "fault", "I", false)
  | 6 => ("SpringBeadsModel", "broken", "I", false)
  | 7 => ("SpringBeadsModel", "brokenAt", "I", false)
  | 8 => ("SpringBeadsModel", "spot", "I", false)
  | 9 => ("SpringBeadsModel", "here", "I", false)
  | 10 => ("SpringBeadsModel", "token", "I", false)
  | 11 => ("SpringBeadsModel", "value", "I", false)
  | 12 => ("SpringBeadsModel", "ends", "[I", true)
  | 13 => ("SpringBeadsModel", "letters", "[I", true)
  | 14 => ("SpringBeadsModel", "gone", "I", false)
  | 15 => ("SpringBeadsModel", "stopped", "I", false)
  | 16 => ("SpringBeadsModel", "isChanged", "Z", false)
  | 17 => ("SpringBeadsModel", "speedWas", "[I", true)
  | 18 => ("SpringBeadsModel", "widest", "I", false)
  | 19 => ("SpringBeadsModel", "lost", "I", false)
  | 20 => ("SpringBeadsModel", "seen", "[I", true)
  | 21 => ("SpringBeadsModel", "seenMany", "I", false)
  | 22 => ("SpringBeadsModel", "placeBy", "[I", true)
  | 23 => ("SpringBeadsModel", "isKept", "[Z", true)
  | 24 => ("SpringBeadsModel", "lanes", "[I", true)
  | 25 => ("SpringBeadsModel", "lengths", "[I", true)
  | 26 => ("SpringBeadsModel", "cells", "[I", true)
  | _ => ("SpringBeadsModel", "torn", "I", false)
def tyX5 : Nat → FieldType := fun k => match k with
  | 0 => .array .int
  | 1 => .array .int
  | 2 => .boolean
  | 3 => .array .int
  | 4 => .int
  | 5 => .int
  | 6 => .int
  | 7 => .int
  | 8 => .int
  | 9 => .int
  | 10 => .int
  | 11 => .int
  | 12 => .array .int
  | 13 => .array .int
  | 14 => .int
  | 15 => .int
  | 16 => .boolean
  | 17 => .array .int
  | 18 => .int
  | 19 => .int
  | 20 => .array .int
  | 21 => .int
  | 22 => .array .int
  | 23 => .array .boolean
  | 24 => .array .int
  | 25 => .array .int
  | 26 => .array .int
  | _ => .int
abbrev wsX50 : List Cond := u_ws RX5 TX5 28
theorem nmX5 : ∀ a, a < 28 → ∀ b, b < 28 → a ≠ b → (TX5 a).2.1 ≠ (TX5 b).2.1 := by decide +kernel
theorem tyX5_ok : ∀ k, k < 28 → parseFieldDescriptor (TX5 k).2.2.1 = some (tyX5 k) := by decide +kernel
abbrev cX5_init : ByteArray := prog_7_method_1_code
def yX5_init : MethodName := ⟨RX5, "<init>", "()V"⟩
abbrev cX5_in : ByteArray := prog_7_method_3_code
def yX5_in : MethodName := ⟨RX5, "in", "(JJJ)Z"⟩
abbrev cX5_amount : ByteArray := prog_7_method_4_code
def yX5_amount : MethodName := ⟨RX5, "amount", "(I)I"⟩
abbrev cX5_feed : ByteArray := prog_7_method_5_code
def yX5_feed : MethodName := ⟨RX5, "feed", "(I)I"⟩
abbrev cX5_end : ByteArray := prog_7_method_6_code
def yX5_end : MethodName := ⟨RX5, "end", "(I)I"⟩
abbrev cX5_byteAt : ByteArray := prog_7_method_7_code
def yX5_byteAt : MethodName := ⟨RX5, "byteAt", "(I)I"⟩
abbrev cX5_fails : ByteArray := prog_7_method_8_code
def yX5_fails : MethodName := ⟨RX5, "fails", "(I)V"⟩
abbrev cX5_nameHere : ByteArray := prog_7_method_9_code
def yX5_nameHere : MethodName := ⟨RX5, "nameHere", "()I"⟩
abbrev cX5_readsOn : ByteArray := prog_7_method_10_code
def yX5_readsOn : MethodName := ⟨RX5, "readsOn", "()V"⟩
abbrev cX5_number : ByteArray := prog_7_method_11_code
def yX5_number : MethodName := ⟨RX5, "number", "(II)I"⟩
abbrev cX5_readMore : ByteArray := prog_7_method_12_code
def yX5_readMore : MethodName := ⟨RX5, "readMore", "(I)V"⟩
abbrev cX5_readLine : ByteArray := prog_7_method_13_code
def yX5_readLine : MethodName := ⟨RX5, "readLine", "()V"⟩
abbrev cX5_text : ByteArray := prog_7_method_14_code
def yX5_text : MethodName := ⟨RX5, "text", "()I"⟩
abbrev cX5_fault : ByteArray := prog_7_method_15_code
def yX5_fault : MethodName := ⟨RX5, "fault", "()I"⟩
abbrev cX5_isBead : ByteArray := prog_7_method_16_code
def yX5_isBead : MethodName := ⟨RX5, "isBead", "(I)Z"⟩
abbrev cX5_isKnock : ByteArray := prog_7_method_17_code
def yX5_isKnock : MethodName := ⟨RX5, "isKnock", "(I)Z"⟩
abbrev cX5_isLong : ByteArray := prog_7_method_18_code
def yX5_isLong : MethodName := ⟨RX5, "isLong", "(I)Z"⟩
abbrev cX5_stretchOn : ByteArray := prog_7_method_19_code
def yX5_stretchOn : MethodName := ⟨RX5, "stretchOn", "(II)I"⟩
abbrev cX5_pullOn : ByteArray := prog_7_method_20_code
def yX5_pullOn : MethodName := ⟨RX5, "pullOn", "(II)I"⟩
abbrev cX5_speedOf : ByteArray := prog_7_method_21_code
def yX5_speedOf : MethodName := ⟨RX5, "speedOf", "(I)I"⟩
abbrev cX5_knockOn : ByteArray := prog_7_method_22_code
def yX5_knockOn : MethodName := ⟨RX5, "knockOn", "(III)V"⟩
abbrev cX5_speedsOn : ByteArray := prog_7_method_23_code
def yX5_speedsOn : MethodName := ⟨RX5, "speedsOn", "(I)V"⟩
abbrev cX5_placesOn : ByteArray := prog_7_method_24_code
def yX5_placesOn : MethodName := ⟨RX5, "placesOn", "(I)V"⟩
abbrev cX5_lastOn : ByteArray := prog_7_method_25_code
def yX5_lastOn : MethodName := ⟨RX5, "lastOn", "(I)I"⟩
abbrev cX5_movesOn : ByteArray := prog_7_method_26_code
def yX5_movesOn : MethodName := ⟨RX5, "movesOn", "(I)V"⟩
abbrev cX5_tickOn : ByteArray := prog_7_method_27_code
def yX5_tickOn : MethodName := ⟨RX5, "tickOn", "(IZ)V"⟩
abbrev cX5_rule : ByteArray := prog_7_method_28_code
def yX5_rule : MethodName := ⟨RX5, "rule", "(I)I"⟩
abbrev cX5_bead : ByteArray := prog_7_method_29_code
def yX5_bead : MethodName := ⟨RX5, "bead", "(II)I"⟩
abbrev cX5_knock : ByteArray := prog_7_method_30_code
def yX5_knock : MethodName := ⟨RX5, "knock", "(II)I"⟩
abbrev cX5_puts : ByteArray := prog_7_method_31_code
def yX5_puts : MethodName := ⟨RX5, "puts", "(ZII)I"⟩
abbrev cX5_isGood : ByteArray := prog_7_method_32_code
def yX5_isGood : MethodName := ⟨RX5, "isGood", "(II)Z"⟩
abbrev cX5_alter : ByteArray := prog_7_method_33_code
def yX5_alter : MethodName := ⟨RX5, "alter", "(III)I"⟩
abbrev cX5_drag : ByteArray := prog_7_method_34_code
def yX5_drag : MethodName := ⟨RX5, "drag", "(I)I"⟩
abbrev cX5_bind : ByteArray := prog_7_method_35_code
def yX5_bind : MethodName := ⟨RX5, "bind", "(IIII)I"⟩
abbrev cX5_cut : ByteArray := prog_7_method_36_code
def yX5_cut : MethodName := ⟨RX5, "cut", "(I)I"⟩
abbrev cX5_hit : ByteArray := prog_7_method_37_code
def yX5_hit : MethodName := ⟨RX5, "hit", "(II)I"⟩
abbrev cX5_adds : ByteArray := prog_7_method_38_code
def yX5_adds : MethodName := ⟨RX5, "adds", "(II)I"⟩
abbrev cX5_add : ByteArray := prog_7_method_39_code
def yX5_add : MethodName := ⟨RX5, "add", "(II)I"⟩
abbrev cX5_drop : ByteArray := prog_7_method_40_code
def yX5_drop : MethodName := ⟨RX5, "drop", "(I)I"⟩
abbrev cX5_calm : ByteArray := prog_7_method_41_code
def yX5_calm : MethodName := ⟨RX5, "calm", "()I"⟩
abbrev cX5_ticks : ByteArray := prog_7_method_42_code
def yX5_ticks : MethodName := ⟨RX5, "ticks", "(I)I"⟩
abbrev cX5_copies : ByteArray := prog_7_method_43_code
def yX5_copies : MethodName := ⟨RX5, "copies", "(II)V"⟩
abbrev cX5_ticksGo : ByteArray := prog_7_method_44_code
def yX5_ticksGo : MethodName := ⟨RX5, "ticksGo", "(II)I"⟩
abbrev cX5_runs : ByteArray := prog_7_method_45_code
def yX5_runs : MethodName := ⟨RX5, "runs", "(II)I"⟩
abbrev cX5_ahead : ByteArray := prog_7_method_46_code
def yX5_ahead : MethodName := ⟨RX5, "ahead", "(III)I"⟩
abbrev cX5_when : ByteArray := prog_7_method_47_code
def yX5_when : MethodName := ⟨RX5, "when", "(II)I"⟩
abbrev cX5_rests : ByteArray := prog_7_method_48_code
def yX5_rests : MethodName := ⟨RX5, "rests", "()I"⟩
abbrev cX5_leastAt : ByteArray := prog_7_method_49_code
def yX5_leastAt : MethodName := ⟨RX5, "leastAt", "(IIIII)I"⟩
abbrev cX5_isAsked : ByteArray := prog_7_method_50_code
def yX5_isAsked : MethodName := ⟨RX5, "isAsked", "(III)Z"⟩
abbrev cX5_stiff : ByteArray := prog_7_method_51_code
def yX5_stiff : MethodName := ⟨RX5, "stiff", "(III)I"⟩
abbrev cX5_rest : ByteArray := prog_7_method_52_code
def yX5_rest : MethodName := ⟨RX5, "rest", "(III)I"⟩
abbrev cX5_kind : ByteArray := prog_7_method_53_code
def yX5_kind : MethodName := ⟨RX5, "kind", "(III)I"⟩
abbrev cX5_mass : ByteArray := prog_7_method_54_code
def yX5_mass : MethodName := ⟨RX5, "mass", "(III)I"⟩
abbrev cX5_swap : ByteArray := prog_7_method_55_code
def yX5_swap : MethodName := ⟨RX5, "swap", "(II)I"⟩
abbrev cX5_miss : ByteArray := prog_7_method_56_code
def yX5_miss : MethodName := ⟨RX5, "miss", "(II)I"⟩
abbrev cX5_lowest : ByteArray := prog_7_method_57_code
def yX5_lowest : MethodName := ⟨RX5, "lowest", "(JJI)J"⟩
abbrev cX5_byMisses : ByteArray := prog_7_method_58_code
def yX5_byMisses : MethodName := ⟨RX5, "byMisses", "(IIII)J"⟩
abbrev cX5_luck : ByteArray := prog_7_method_59_code
def yX5_luck : MethodName := ⟨RX5, "luck", "(IIII)J"⟩
abbrev cX5_mean : ByteArray := prog_7_method_60_code
def yX5_mean : MethodName := ⟨RX5, "mean", "(III)J"⟩
abbrev cX5_see : ByteArray := prog_7_method_61_code
def yX5_see : MethodName := ⟨RX5, "see", "(III)I"⟩
abbrev cX5_forget : ByteArray := prog_7_method_62_code
def yX5_forget : MethodName := ⟨RX5, "forget", "(I)I"⟩
abbrev cX5_isAsSeen : ByteArray := prog_7_method_63_code
def yX5_isAsSeen : MethodName := ⟨RX5, "isAsSeen", "(II)Z"⟩
abbrev cX5_numbersAt : ByteArray := prog_7_method_64_code
def yX5_numbersAt : MethodName := ⟨RX5, "numbersAt", "(III)I"⟩
abbrev cX5_kinds : ByteArray := prog_7_method_65_code
def yX5_kinds : MethodName := ⟨RX5, "kinds", "(I)I"⟩
abbrev cX5_stiffs : ByteArray := prog_7_method_66_code
def yX5_stiffs : MethodName := ⟨RX5, "stiffs", "(I)I"⟩
abbrev cX5_worstAt : ByteArray := prog_7_method_67_code
def yX5_worstAt : MethodName := ⟨RX5, "worstAt", "(II)I"⟩
abbrev cX5_ask : ByteArray := prog_7_method_68_code
def yX5_ask : MethodName := ⟨RX5, "ask", "(II)I"⟩
abbrev cX5_drift : ByteArray := prog_7_method_69_code
def yX5_drift : MethodName := ⟨RX5, "drift", "(III)I"⟩
abbrev cX5_keep : ByteArray := prog_7_method_70_code
def yX5_keep : MethodName := ⟨RX5, "keep", "(I)I"⟩
abbrev cX5_back : ByteArray := prog_7_method_71_code
def yX5_back : MethodName := ⟨RX5, "back", "(I)I"⟩
abbrev cX5_sheet : ByteArray := prog_7_method_72_code
def yX5_sheet : MethodName := ⟨RX5, "sheet", "(III)I"⟩
abbrev cX5_lay : ByteArray := prog_7_method_73_code
def yX5_lay : MethodName := ⟨RX5, "lay", "(III)I"⟩
abbrev cX5_read : ByteArray := prog_7_method_74_code
def yX5_read : MethodName := ⟨RX5, "read", "(IIII)I"⟩
abbrev cX5_torn : ByteArray := prog_7_method_75_code
def yX5_torn : MethodName := ⟨RX5, "torn", "()I"⟩
abbrev cX5_count : ByteArray := prog_7_method_76_code
def yX5_count : MethodName := ⟨RX5, "count", "(I)I"⟩
def RJ6 : String := "java/lang/Integer"
def TJ6 : u_T := fun k => match k with
  | _ => ("", "", "", false)
def tyJ6 : Nat → FieldType := fun k => match k with
  | _ => .int
abbrev cJ6_compare_7cf53 : ByteArray := prog_8_method_40_code
def yJ6_compare_7cf53 : MethodName := ⟨RJ6, "compare", "(II)I"⟩
abbrev cJ6_bitCount_0f7a4 : ByteArray := prog_8_method_49_code
def yJ6_bitCount_0f7a4 : MethodName := ⟨RJ6, "bitCount", "(I)I"⟩
def RJ9 : String := "java/lang/Math"
def TJ9 : u_T := fun k => match k with
  | _ => ("", "", "", false)
def tyJ9 : Nat → FieldType := fun k => match k with
  | _ => .int
abbrev cJ9_abs_0f7a4 : ByteArray := prog_9_method_59_code
def yJ9_abs_0f7a4 : MethodName := ⟨RJ9, "abs", "(I)I"⟩
abbrev cJ9_max_7cf53 : ByteArray := prog_9_method_65_code
def yJ9_max_7cf53 : MethodName := ⟨RJ9, "max", "(II)I"⟩
abbrev cJ9_min_7cf53 : ByteArray := prog_9_method_69_code
def yJ9_min_7cf53 : MethodName := ⟨RJ9, "min", "(II)I"⟩
def RJ0 : String := "java/lang/String"
def TJ0 : u_T := fun k => match k with
  | _ => ("", "", "", false)
def tyJ0 : Nat → FieldType := fun k => match k with
  | _ => .int
abbrev cJ0_length_8abf5 : ByteArray := prog_10_method_54_code
def yJ0_length_8abf5 : MethodName := ⟨RJ0, "length", "()I"⟩
abbrev cJ0_charAt_5068e : ByteArray := prog_10_method_56_code
def yJ0_charAt_5068e : MethodName := ⟨RJ0, "charAt", "(I)C"⟩
abbrev cJ0_coder_7d493 : ByteArray := prog_10_method_152_code
def yJ0_coder_7d493 : MethodName := ⟨RJ0, "coder", "()B"⟩
abbrev cJ0_isLatin1_aae02 : ByteArray := prog_10_method_154_code
def yJ0_isLatin1_aae02 : MethodName := ⟨RJ0, "isLatin1", "()Z"⟩
abbrev cJ0_checkIndex_df160 : ByteArray := prog_10_method_155_code
def yJ0_checkIndex_df160 : MethodName := ⟨RJ0, "checkIndex", "(II)V"⟩
def RJ1 : String := "java/lang/StringLatin1"
def TJ1 : u_T := fun k => match k with
  | _ => ("", "", "", false)
def tyJ1 : Nat → FieldType := fun k => match k with
  | _ => .int
abbrev cJ1_charAt_3b067 : ByteArray := prog_11_method_2_code
def yJ1_charAt_3b067 : MethodName := ⟨RJ1, "charAt", "([BI)C"⟩
def RJ2 : String := "java/lang/StringUTF16"
def TJ2 : u_T := fun k => match k with
  | _ => ("", "", "", false)
def tyJ2 : Nat → FieldType := fun k => match k with
  | _ => .int
abbrev cJ2_getChar_3b067 : ByteArray := prog_12_method_5_code
def yJ2_getChar_3b067 : MethodName := ⟨RJ2, "getChar", "([BI)C"⟩
abbrev cJ2_length_9d52b : ByteArray := prog_12_method_6_code
def yJ2_length_9d52b : MethodName := ⟨RJ2, "length", "([B)I"⟩
abbrev cJ2_charAt_3b067 : ByteArray := prog_12_method_83_code
def yJ2_charAt_3b067 : MethodName := ⟨RJ2, "charAt", "([BI)C"⟩
abbrev cJ2_checkIndex_2214a : ByteArray := prog_12_method_91_code
def yJ2_checkIndex_2214a : MethodName := ⟨RJ2, "checkIndex", "(I[B)V"⟩
def RJ3 : String := "jdk/internal/util/Preconditions"
def TJ3 : u_T := fun k => match k with
  | _ => ("", "", "", false)
def tyJ3 : Nat → FieldType := fun k => match k with
  | _ => .int
abbrev cJ3_checkIndex_8e157 : ByteArray := prog_13_method_11_code
def yJ3_checkIndex_8e157 : MethodName := ⟨RJ3, "checkIndex", "(IILjava/util/function/BiFunction;)I"⟩
def RL : String := "SpringBeadsLaw"
abbrev cL_law : ByteArray := code
def yL_law : MethodName := ⟨RL, "law", "([I)Z"⟩
abbrev vwCl : List vw_C := [(RX0, TX0, 16), (RX1, TX1, 4), (RX2, TX2, 3), (RX3, TX3, 8), (RX4, TX4, 10), (RX5, TX5, 28)]
theorem pm_inl (big ws : List Cond) (ps : List Nat) (h : ps.map (fun i => big[i]?) = ws.map some) : ∀ w ∈ ws, w ∈ big := by
  intro w hw
  obtain ⟨k, hk⟩ := List.getElem?_of_mem hw
  have h1 : (ps.map (fun i => big[i]?))[k]? = some (some w) := by rw [h, List.getElem?_map, hk]; rfl
  rw [List.getElem?_map] at h1
  cases hi : ps[k]? with
  | none => rw [hi] at h1; cases h1
  | some i => rw [hi] at h1; exact List.mem_of_getElem? (Option.some.inj h1)
theorem inX0 : ∀ w ∈ u_ws RX0 TX0 16, w ∈ lw_tbl := fun w h => List.mem_append_right _ (pm_inl tables_1 (u_ws RX0 TX0 16) [58, 60, 62, 64, 66, 68, 70, 72, 74, 76, 78, 80, 82, 84, 86, 88] (by decide +kernel) w h)
theorem inX1 : ∀ w ∈ u_ws RX1 TX1 4, w ∈ lw_tbl := fun w h => List.mem_append_right _ (pm_inl tables_1 (u_ws RX1 TX1 4) [139, 141, 143, 145] (by decide +kernel) w h)
theorem inX2 : ∀ w ∈ u_ws RX2 TX2 3, w ∈ lw_tbl := fun w h => List.mem_append_right _ (pm_inl tables_1 (u_ws RX2 TX2 3) [161, 163, 165] (by decide +kernel) w h)
theorem inX3 : ∀ w ∈ u_ws RX3 TX3 8, w ∈ lw_tbl := fun w h => List.mem_append_right _ (pm_inl tables_1 (u_ws RX3 TX3 8) [109, 111, 113, 115, 117, 119, 121, 123] (by decide +kernel) w h)
theorem inX4 : ∀ w ∈ u_ws RX4 TX4 10, w ∈ lw_tbl := fun w h => List.mem_append_right _ (pm_inl tables_1 (u_ws RX4 TX4 10) [179, 181, 183, 185, 187, 189, 191, 193, 195, 197] (by decide +kernel) w h)
theorem inX5 : ∀ w ∈ u_ws RX5 TX5 28, w ∈ lw_tbl := fun w h => List.mem_append_right _ (pm_inl tables_1 (u_ws RX5 TX5 28) [732, 734, 736, 738, 740, 742, 744, 746, 748, 750, 752, 754, 756, 758, 760, 762, 764, 766, 768, 770, 772, 774, 776, 778, 780, 782, 784, 786] (by decide +kernel) w h)
end
section
/-! ===== THE SMALL MACHINE: the bytecode of the methods that make no object, over a memory of ints whose references never change ===== -/
/-- what the cells hold that isn't fixed: cell, place -/
abbrev pm_Mem : Type := Nat → Nat → Int32
/-- locals: a value, or nothing (unset, or a long's second half) -/
abbrev pm_L : Type := List (Option Value)
/-- instruction, the pc behind it, a value that it pushes, two numbers (a target, a local's place, a field's place and its class, a callee ..) -/
abbrev pm_Ent : Type := Instr × Nat × Value × Nat × Nat
abbrev pm_Tb : Type := List (Nat × pm_Ent)
/-- a cell's shape: 0 int[], 1 byte[], 2 boolean[] of a length; 3 int[][] whose rows are cells from a place on; 4 + c an object of class c: a field is an int, or a fixed reference -/
abbrev pm_Sh : Type := Nat × Nat × List (Option Nat)
abbrev pm_Post : Type := Option Value → pm_Mem → Prop
abbrev pm_Ga : Type := Nat → List Value → pm_Mem → pm_Post → Prop
def pm_lk : pm_Tb → Nat → Option pm_Ent
  | [], _ => none
  | (k, e) :: l, pc => bif Nat.beq k pc then some e else pm_lk l pc
def pm_get : pm_L → Nat → Option Value
  | [], _ => none
  | a :: _, 0 => a
  | _ :: l, n + 1 => pm_get l n
/-- a store of one slot (not into a long's second half) -/
def pm_set1 : pm_L → Nat → Value → (pm_L → Prop) → Prop
  | [], _, _, _ => False
  | _ :: l, 0, v, K => K (some v :: l)
  | a :: l, n + 1, v, K => (match a, n with
    | some (.long _), 0 => False
    | some (.double _), 0 => False
    | _, _ => pm_set1 l n v (fun l' => K (a :: l')))
/-- a store of a long -/
def pm_set2 : pm_L → Nat → Value → (pm_L → Prop) → Prop
  | [], _, _, _ => False
  | [_], _, _, _ => False
  | _ :: _ :: l, 0, v, K => K (some v :: none :: l)
  | a :: b :: l, n + 1, v, K => (match a, n with
    | some (.long _), 0 => False
    | some (.double _), 0 => False
    | _, _ => pm_set2 (b :: l) n v (fun l' => K (a :: l')))
def pm_mu (D : pm_Mem) (r k : Nat) (v : Int32) : pm_Mem := fun r' k' => if r' = r then (if k' = k then v else D r' k') else D r' k'
def pm_nth : List (Option Nat) → Nat → Option (Option Nat)
  | [], _ => none
  | a :: _, 0 => some a
  | _ :: l, n + 1 => pm_nth l n
def pm_nS : List pm_Sh → Nat → pm_Sh
  | [], _ => (3, 0, [])
  | a :: _, 0 => a
  | _ :: l, n + 1 => pm_nS l n
def pm_sw (x : Int32) (pc : Nat) (K : Nat → Prop) : Int → List Int → Prop
  | _, [] => True
  | lo, o :: os => (x.toInt = lo → K ((pc : Int) + o).toNat) ∧ pm_sw x pc K (lo + 1) os
/-- the chains now, trial, first, second: an object and its nine rows from a cell on -/
def pm_ch (c : Nat) : List pm_Sh := [(4, 16, [none, none, none, none, some (c + 1), some (c + 2), some (c + 3), some (c + 4), some (c + 5), some (c + 6), some (c + 7), some (c + 8), some (c + 9), none, none, none]), (0, 4, []), (0, 4, []), (0, 4, []), (0, 4, []), (0, 4, []), (0, 4, []), (0, 12, []), (0, 12, []), (0, 5, [])]
def pm_shL (N : Nat) : List pm_Sh :=
  [(4, 16, [none, none, none, none, some 1, some 2, some 3, some 4, some 5, some 6, some 7, some 8, some 9, none, none, none]), (0, 4, []), (0, 4, []), (0, 4, []), (0, 4, []), (0, 4, []), (0, 4, []), (0, 12, []), (0, 12, []), (0, 5, []),
   (4, 16, [none, none, none, none, some 11, some 12, some 13, some 14, some 15, some 16, some 17, some 18, some 19, none, none, none]), (0, 4, []), (0, 4, []), (0, 4, []), (0, 4, []), (0, 4, []), (0, 4, []), (0, 12, []), (0, 12, []), (0, 5, []),
   (4, 16, [none, none, none, none, some 21, some 22, some 23, some 24, some 25, some 26, some 27, some 28, some 29, none, none, none]), (0, 4, []), (0, 4, []), (0, 4, []), (0, 4, []), (0, 4, []), (0, 4, []), (0, 12, []), (0, 12, []), (0, 5, []),
   (4, 16, [none, none, none, none, some 31, some 32, some 33, some 34, some 35, some 36, some 37, some 38, some 39, none, none, none]), (0, 4, []), (0, 4, []), (0, 4, []), (0, 4, []), (0, 4, []), (0, 4, []), (0, 12, []), (0, 12, []), (0, 5, []),
   (8, 10, [some 0, some 10, some 20, some 30, some 41, some 42, some 44, some 48, some 56, none]), (2, 2, []),
   (7, 8, [some 43, none, none, none, none, none, none, none]), (1, 160, []),
   (5, 4, [none, some 45, some 46, some 47]), (0, 6, []), (0, 6, []), (0, 6, []),
   (6, 3, [some 49, some 50, some 51]), (3, 4, [some 52]), (0, 4, []), (0, 4, []), (0, 40, []), (0, 40, []), (0, 40, []), (0, 40, []),
   (3, 10, [some 57]), (0, 41, []), (0, 41, []), (0, 41, []), (0, 41, []), (0, 41, []), (0, 41, []), (0, 41, []), (0, 41, []), (0, 41, []), (0, 41, []),
   (9, 28, [some 68, some 69, none, some 70, none, none, none, none, none, none, none, none, some 71, some 72, none, none, none, some 73, none, none, some 74, none, some 75, some 76, some 77, some 78, some 79, none]),
   (0, 312, []), (0, 52, []), (0, 160, []), (0, 8, []), (0, 29, []), (0, 4, []), (0, 18, []), (0, 410, []), (2, 2, []), (0, 4, []), (0, 4, []), (0, 160, []),
   (0, 5, []), (0, 5, []), (0, N, [])]
def pm_sh (N r : Nat) : pm_Sh := pm_nS (pm_shL N) r
/-- which fields are booleans -/
def pm_bz (ci k : Nat) : Bool := (Nat.beq ci 0 && Nat.beq k 15) || (Nat.beq ci 3 && Nat.beq k 7) || (Nat.beq ci 5 && (Nat.beq k 2 || Nat.beq k 16))
/-- a call: so many arguments off the stack -/
def pm_arg (n : Nat) (st : List Value) (K : List Value → List Value → Prop) : Prop := match n, st with
  | 0, st => K [] st
  | 1, a :: st => K [a] st
  | 2, b :: a :: st => K [a, b] st
  | 3, c :: b :: a :: st => K [a, b, c] st
  | 4, d :: c :: b :: a :: st => K [a, b, c, d] st
  | 5, e :: d :: c :: b :: a :: st => K [a, b, c, d, e] st
  | 6, f :: e :: d :: c :: b :: a :: st => K [a, b, c, d, e, f] st
  | _, _ => False
def pm_recv (N ci : Nat) (as : List Value) (P : Prop) : Prop := match as with
  | .ref r :: _ => (match Nat.beq (pm_sh N r).1 (4 + ci) with | true => P | false => False)
  | _ => False
def pm_gf (N : Nat) (D : pm_Mem) (r ci k : Nat) (K : Value → Prop) : Prop := match pm_sh N r with
  | (t, _, fs) => (match Nat.beq t (4 + ci), pm_nth fs k with
    | true, some none => K (.int (D r k))
    | true, some (some q) => K (.ref q)
    | _, _ => False)
def pm_pf (N : Nat) (r ci k : Nat) (x : Int32) (P : Prop) : Prop := match pm_sh N r with
  | (t, _, fs) => (match Nat.beq t (4 + ci), pm_nth fs k with
    | true, some none => (match pm_bz ci k with | true => (x = 0 ∨ x = 1) ∧ P | false => P)
    | _, _ => False)
def pm_ret (rt : Option FieldType) (post : pm_Post) (v : Int32) (D : pm_Mem) : Prop := match rt with
  | some .int => post (some (.int v)) D
  | some .boolean => (v = 0 ∨ v = 1) ∧ post (some (.int v)) D
  | _ => False
def pm_if (cd : Jvm.ClassFile.Cond) (x y : Int32) (A B : Prop) : Prop := match cd with
  | .eq => (x = y → A) ∧ (¬ x = y → B)
  | .ne => (¬ x = y → A) ∧ (x = y → B)
  | .lt => (x < y → A) ∧ (¬ x < y → B)
  | .ge => (y ≤ x → A) ∧ (¬ y ≤ x → B)
  | .gt => (y < x → A) ∧ (¬ y < x → B)
  | .le => (x ≤ y → A) ∧ (¬ x ≤ y → B)
def pm_cats : List Value → Nat
  | [] => 0
  | v :: l => v.category + pm_cats l
def pm_low (st : List Value) (P : Prop) : Prop := match Nat.ble (pm_cats st) 8 with
  | true => P
  | false => False
def pm_max (x y : Int32) : Int32 := if x < y then y else x
def pm_min (x y : Int32) : Int32 := if y < x then y else x
def pm_abs (x : Int32) : Int32 := if 0 ≤ x then x else 0 - x
/-- one instruction: what must hold so that X at what comes next -/
def pm_F (N : Nat) (Ga : pm_Ga) (tb : pm_Tb) (rt : Option FieldType) (post : pm_Post) (X : Nat → pm_L → List Value → pm_Mem → Prop) (pc : Nat) (L : pm_L) (st : List Value) (D : pm_Mem) : Prop :=
  match pm_lk tb pc with
  | none => False
  | some (i, nx, au, t1, t2) => match i with
    | .iconst _ => X nx L (au :: st) D
    | .bipush _ => X nx L (au :: st) D
    | .sipush _ => X nx L (au :: st) D
    | .ldc _ => X nx L (au :: st) D
    | .ldc_w _ => X nx L (au :: st) D
    | .ldc2_w _ => X nx L (au :: st) D
    | .lconst _ => X nx L (au :: st) D
    | .getstatic _ => X nx L (au :: st) D
    | .iload_n _ => (match pm_get L t1 with | some (.int x) => X nx L (.int x :: st) D | _ => False)
    | .iload _ => (match pm_get L t1 with | some (.int x) => X nx L (.int x :: st) D | _ => False)
    | .lload_n _ => (match pm_get L t1 with | some (.long x) => X nx L (.long x :: st) D | _ => False)
    | .lload _ => (match pm_get L t1 with | some (.long x) => X nx L (.long x :: st) D | _ => False)
    | .aload_n _ => (match pm_get L t1 with | some (.ref x) => X nx L (.ref x :: st) D | _ => False)
    | .aload _ => (match pm_get L t1 with | some (.ref x) => X nx L (.ref x :: st) D | _ => False)
    | .istore_n _ => (match st with | .int x :: st => pm_set1 L t1 (.int x) (fun L => X nx L st D) | _ => False)
    | .istore _ => (match st with | .int x :: st => pm_set1 L t1 (.int x) (fun L => X nx L st D) | _ => False)
    | .astore_n _ => (match st with | .ref x :: st => pm_set1 L t1 (.ref x) (fun L => X nx L st D) | _ => False)
    | .astore _ => (match st with | .ref x :: st => pm_set1 L t1 (.ref x) (fun L => X nx L st D) | _ => False)
    | .lstore_n _ => (match st with | .long x :: st => pm_set2 L t1 (.long x) (fun L => X nx L st D) | _ => False)
    | .lstore _ => (match st with | .long x :: st => pm_set2 L t1 (.long x) (fun L => X nx L st D) | _ => False)
    | .iinc _ _ => (match pm_get L t1, au with | some (.int x), .int c => pm_set1 L t1 (.int (x + c)) (fun L => X nx L st D) | _, _ => False)
    | .iadd => (match st with | .int y :: .int x :: st => X nx L (.int (x + y) :: st) D | _ => False)
    | .isub => (match st with | .int y :: .int x :: st => X nx L (.int (x - y) :: st) D | _ => False)
    | .imul => (match st with | .int y :: .int x :: st => X nx L (.int (x * y) :: st) D | _ => False)
    | .iand => (match st with | .int y :: .int x :: st => X nx L (.int (x &&& y) :: st) D | _ => False)
    | .ior => (match st with | .int y :: .int x :: st => X nx L (.int (x ||| y) :: st) D | _ => False)
    | .idiv => (match st with | .int y :: .int x :: st => ¬ y = 0 ∧ X nx L (.int (x / y) :: st) D | _ => False)
    | .irem => (match st with | .int y :: .int x :: st => ¬ y = 0 ∧ X nx L (.int (x - x / y * y) :: st) D | _ => False)
    | .ineg => (match st with | .int x :: st => X nx L (.int (-x) :: st) D | _ => False)
    | .ishl => (match st with | .int y :: .int x :: st => X nx L (.int (x <<< (y &&& 31)) :: st) D | _ => False)
    | .ishr => (match st with | .int y :: .int x :: st => X nx L (.int (x >>> (y &&& 31)) :: st) D | _ => False)
    | .iushr => (match st with | .int y :: .int x :: st => X nx L (.int (x.toUInt32 >>> (y.toUInt32 &&& Int32.toUInt32 31)).toInt32 :: st) D | _ => False)
    | .ladd => (match st with | .long y :: .long x :: st => X nx L (.long (x + y) :: st) D | _ => False)
    | .lmul => (match st with | .long y :: .long x :: st => X nx L (.long (x * y) :: st) D | _ => False)
    | .ldiv => (match st with | .long y :: .long x :: st => ¬ y = 0 ∧ X nx L (.long (x / y) :: st) D | _ => False)
    | .lrem => (match st with | .long y :: .long x :: st => ¬ y = 0 ∧ X nx L (.long (x - x / y * y) :: st) D | _ => False)
    | .lcmp => (match st with | .long y :: .long x :: st => X nx L (.int (lg_cmp x y) :: st) D | _ => False)
    | .i2l => (match st with | .int x :: st => X nx L (.long x.toInt64 :: st) D | _ => False)
    | .i2b => (match st with | .int x :: st => X nx L (.int x.toInt8.toInt32 :: st) D | _ => False)
    | .i2s => (match st with | .int x :: st => X nx L (.int x.toInt16.toInt32 :: st) D | _ => False)
    | .dup => (match st with | .int x :: st => X nx L (.int x :: .int x :: st) D | .ref x :: st => X nx L (.ref x :: .ref x :: st) D | _ => False)
    | .pop => (match st with | .int _ :: st => X nx L st D | .ref _ :: st => X nx L st D | _ => False)
    | .dup2 => (match st with | .int x :: .ref r :: st => X nx L (.int x :: .ref r :: .int x :: .ref r :: st) D | _ => False)
    | .goto _ => X t1 L st D
    | .ifCond cd _ => (match st with | .int x :: st => pm_if cd x 0 (X t1 L st D) (X nx L st D) | _ => False)
    | .if_icmp cd _ => (match st with | .int y :: .int x :: st => pm_if cd x y (X t1 L st D) (X nx L st D) | _ => False)
    | .tableswitch _ lo hi offs => (match st with | .int x :: st => (x.toInt < lo ∨ hi < x.toInt → X t1 L st D) ∧ pm_sw x pc (fun t => X t L st D) lo offs.toList | _ => False)
    | .lookupswitch d ps => (match st with | .int x :: st => ∃ t : Nat, (pc : Int) + Op.lookupswitch.offset ps.toList d x.toInt = (t : Int) ∧ X t L st D | _ => False)
    | .getfield _ => (match st with | .ref r :: st => pm_gf N D r t2 t1 (fun v => X nx L (v :: st) D) | _ => False)
    | .putfield _ => (match st with | .int x :: .ref r :: st => pm_pf N r t2 t1 x (X nx L st (pm_mu D r t1 x)) | _ => False)
    | .arraylength => (match st with | .ref r :: st => (match pm_sh N r with | (0, n, _) => X nx L (.int (Int32.ofNat n) :: st) D | _ => False) | _ => False)
    | .iaload => (match st with | .int i :: .ref r :: st => (match pm_sh N r with | (0, n, _) => vp_in i n ∧ X nx L (.int (D r i.toNatClampNeg) :: st) D | _ => False) | _ => False)
    | .baload => (match st with | .int i :: .ref r :: st => (match pm_sh N r with | (1, n, _) => vp_in i n ∧ X nx L (.int (D r i.toNatClampNeg) :: st) D | (2, n, _) => vp_in i n ∧ X nx L (.int (D r i.toNatClampNeg) :: st) D | _ => False) | _ => False)
    | .aaload => (match st with | .int i :: .ref r :: st => (match pm_sh N r with | (3, n, some q :: _) => vp_in i n ∧ X nx L (.ref (q + i.toNatClampNeg) :: st) D | _ => False) | _ => False)
    | .iastore => (match st with | .int x :: .int i :: .ref r :: st => (match pm_sh N r with | (0, n, _) => r < 80 ∧ vp_in i n ∧ X nx L st (pm_mu D r i.toNatClampNeg x) | _ => False) | _ => False)
    | .bastore => (match st with | .int x :: .int i :: .ref r :: st => (match pm_sh N r with | (1, n, _) => r < 80 ∧ vp_in i n ∧ X nx L st (pm_mu D r i.toNatClampNeg (vp_nar .byte x)) | (2, n, _) => r < 80 ∧ vp_in i n ∧ X nx L st (pm_mu D r i.toNatClampNeg (vp_nar .boolean x)) | _ => False) | _ => False)
    | .invokevirtual _ => (match au with | .ref n => pm_arg n st (fun as st => pm_recv N t2 as (pm_low st (Ga t1 as D (fun r D => X nx L (r.toList ++ st) D)))) | _ => False)
    | .invokestatic _ => (match au with
      | .ref n => pm_arg n st (fun as st => pm_low st (Ga t1 as D (fun r D => X nx L (r.toList ++ st) D)))
      | .retAddr 0 => (match st with | .int y :: .int x :: st => pm_low st (X nx L (.int (pm_max x y) :: st) D) | _ => False)
      | .retAddr 1 => (match st with | .int y :: .int x :: st => pm_low st (X nx L (.int (pm_min x y) :: st) D) | _ => False)
      | .retAddr 2 => (match st with | .int x :: st => pm_low st (X nx L (.int (pm_abs x) :: st) D) | _ => False)
      | _ => False)
    | .ireturn => (match st with | [.int v] => pm_ret rt post v D | _ => False)
    | .lreturn => (match st, rt with | [.long v], some .long => post (some (.long v)) D | _, _ => False)
    | .areturn => (match st, rt with | [.ref v], some (.object _) => post (some (.ref v)) D | [.ref v], some (.array _) => post (some (.ref v)) D | _, _ => False)
    | .return_ => (match st, rt with | [], none => post none D | _, _ => False)
    | _ => False
/-- the locals at a method's entry -/
def pm_ent : List Value → Nat → pm_L
  | [], n => List.replicate n none
  | .long x :: as, n => some (.long x) :: none :: pm_ent as (n - 2)
  | .double x :: as, n => some (.double x) :: none :: pm_ent as (n - 2)
  | v :: as, n => some v :: pm_ent as (n - 1)
def pm_Ev (N : Nat) (Ga : pm_Ga) (tb : pm_Tb) (rt : Option FieldType) (post : pm_Post) (pc : Nat) (L : pm_L) (st : List Value) (D : pm_Mem) : Prop :=
  ∀ X : Nat → pm_L → List Value → pm_Mem → Prop, (∀ pc L st D, pm_F N Ga tb rt post X pc L st D → X pc L st D) → X pc L st D
/-! ===== END ===== -/
end
section
/-! the links that the small machine uses: by program -/
def pm_cn : Nat → String := fun o => match o with | 0 => RX0 | 1 => RX1 | 2 => RX2 | 3 => RX3 | 4 => RX4 | 5 => RX5 | 6 => RL | 7 => RJ6 | _ => RJ9
def pm_T : Nat → u_T := fun c => match c with | 0 => TX0 | 1 => TX1 | 2 => TX2 | 3 => TX3 | 4 => TX4 | _ => TX5
def pm_fl : List (Nat × Nat × Nat × Nat) := [(0, 39, 0, 0), (0, 43, 0, 1), (0, 46, 0, 2), (0, 49, 0, 3), (0, 52, 0, 13), (0, 55, 0, 14), (0, 9, 0, 4), (0, 15, 0, 5), (0, 18, 0, 6), (0, 21, 0, 7), (0, 24, 0, 8), (0, 27, 0, 9), (0, 30, 0, 10), (0, 33, 0, 11), (0, 36, 0, 12), (0, 103, 0, 15), (1, 21, 1, 0), (1, 9, 1, 1), (1, 15, 1, 2), (1, 18, 1, 3), (1, 48, 0, 8), (2, 16, 2, 1), (2, 20, 2, 2), (2, 11, 2, 0), (3, 15, 3, 1), (3, 11, 3, 0), (3, 24, 3, 2), (3, 27, 3, 3), (3, 30, 3, 6), (3, 33, 3, 7), (3, 40, 3, 4), (3, 47, 3, 5), (3, 69, 0, 0), (3, 90, 0, 2), (3, 93, 0, 1), (4, 32, 4, 5), (4, 67, 3, 1), (4, 16, 4, 1), (4, 74, 3, 2), (4, 77, 3, 3), (4, 12, 4, 0), (4, 39, 4, 6), (4, 84, 1, 0), (4, 25, 4, 4), (4, 87, 0, 0), (4, 90, 0, 1), (4, 93, 0, 3), (4, 96, 0, 2), (4, 113, 0, 9), (4, 124, 0, 10), (4, 127, 0, 11), (4, 153, 0, 13), (4, 164, 0, 14), (4, 167, 0, 8), (4, 179, 0, 15), (4, 52, 4, 8), (4, 19, 4, 2), (4, 22, 4, 3), (4, 46, 4, 7), (4, 263, 2, 0), (4, 55, 4, 9), (4, 272, 2, 1), (5, 57, 5, 4), (5, 16, 5, 3), (5, 60, 5, 6), (5, 63, 5, 9), (5, 66, 5, 7), (5, 69, 5, 10), (5, 72, 5, 8), (5, 19, 5, 12), (5, 22, 5, 13), (5, 79, 5, 11), (5, 13, 5, 1), (5, 107, 5, 2), (5, 117, 5, 5), (5, 7, 5, 0), (5, 120, 5, 21), (5, 38, 5, 23), (5, 140, 5, 15), (5, 143, 5, 14), (5, 25, 5, 17), (5, 155, 5, 16), (5, 161, 5, 18), (5, 28, 5, 19), (5, 32, 5, 20), (5, 35, 5, 22), (5, 42, 5, 24), (5, 45, 5, 25), (5, 48, 5, 26), (5, 257, 5, 27)]
def pm_fw (q : Nat × Nat × Nat × Nat) : Cond := .fieldLink (pm_cn q.1) q.2.1 (pm_T q.2.2.1 q.2.2.2).1 (pm_T q.2.2.1 q.2.2.2).2.1 (pm_T q.2.2.1 q.2.2.2).2.2.1
set_option maxRecDepth 20000 in
theorem pm_fl_in : ∀ w ∈ pm_fl.map pm_fw, w ∈ tables_1 := pm_inl tables_1 (pm_fl.map pm_fw) [27, 30, 33, 36, 52, 54, 38, 39, 40, 41, 42, 45, 47, 49, 51, 56, 134, 136, 137, 138, 43, 158, 160, 156, 99, 98, 101, 103, 107, 108, 105, 106, 28, 35, 32, 174, 100, 170, 102, 104, 169, 175, 135, 173, 29, 31, 37, 34, 46, 48, 50, 53, 55, 44, 57, 177, 171, 172, 176, 157, 178, 159, 708, 707, 710, 713, 711, 714, 712, 716, 717, 715, 705, 706, 709, 704, 725, 727, 719, 718, 721, 720, 722, 723, 724, 726, 728, 729, 730, 731] (by decide +kernel)
def pm_ys : List MethodName := [yX3_wordRead, yX0_clear, yX0_becomeLike, yX0_has, yX0_rowOf, yX0_sumOf, yX0_lastPlace, yX0_stillBits, yX0_addBead, yX0_addKnock, yX0_changePlaces, yX0_stretchOf, yX0_pullOf, yX0_knockOnce, yX0_knockByPlan, yX0_tickOnce, yX0_tickOften, yX0_move, yX0_goOn, yX0_slowed, yX0_inBounds, yX0_greatestSwing, yX1_note, yX1_isSoOf, yX1_latestTick, yX1_agrees, yX2_isNothing, yX2_make, yX2_put, yX2_faultAt, yX2_faultAs, yX2_faultOfPair, yX3_put, yX3_tellInto, yX3_blame, yX3_takeLine, yX3_takeBead, yX3_takeDrag, yX3_takeKnock, yX3_takeNumber, yX3_takeSemicolon, yX3_readToken, yX3_runOf, yX3_numberRead, yX4_feed, yX4_end, yX4_text, yX4_fault, yX4_rule, yX4_bead, yX4_knock, yX4_alter, yX4_drag, yX4_bind, yX4_cut, yX4_hit, yX4_add, yX4_drop, yX4_calm, yX4_ticks, yX4_runs, yX4_ahead, yX4_when, yX4_rests, yX4_stiff, yX4_rest, yX4_kind, yX4_mass, yX4_swap, yX4_miss, yX4_swingAsItIs, yX4_steadiest, yX4_tryWith, yX4_luck, yX4_mean, yX4_runMissing, yX4_weightOf, yX4_power, yX4_partOfFraction, yX4_commonDivisor, yX4_see, yX4_forget, yX4_kinds, yX4_stiffs, yX4_ask, yX4_asSeenBits, yX4_traceStiffs, yX4_mostAlike, yX4_drift, yX4_keep, yX4_back, yX4_imageOf, yX4_sheet, yX4_lay, yX4_read, yX4_torn, yX4_count, yX4_within, yX5_in, yX5_amount, yX5_feed, yX5_end, yX5_byteAt, yX5_fails, yX5_nameHere, yX5_readsOn, yX5_number, yX5_readMore, yX5_readLine, yX5_text, yX5_fault, yX5_isBead, yX5_isKnock, yX5_isLong, yX5_stretchOn, yX5_pullOn, yX5_speedOf, yX5_knockOn, yX5_speedsOn, yX5_placesOn, yX5_lastOn, yX5_movesOn, yX5_tickOn, yX5_rule, yX5_bead, yX5_knock, yX5_puts, yX5_isGood, yX5_alter, yX5_drag, yX5_bind, yX5_cut, yX5_hit, yX5_adds, yX5_add, yX5_drop, yX5_calm, yX5_ticks, yX5_copies, yX5_ticksGo, yX5_runs, yX5_ahead, yX5_when, yX5_rests, yX5_leastAt, yX5_isAsked, yX5_stiff, yX5_rest, yX5_kind, yX5_mass, yX5_swap, yX5_miss, yX5_lowest, yX5_byMisses, yX5_luck, yX5_mean, yX5_see, yX5_forget, yX5_isAsSeen, yX5_numbersAt, yX5_kinds, yX5_stiffs, yX5_worstAt, yX5_ask, yX5_drift, yX5_keep, yX5_back, yX5_sheet, yX5_lay, yX5_read, yX5_torn, yX5_count, yJ6_compare_7cf53, yJ6_bitCount_0f7a4]
def pm_yj (j : Nat) : MethodName := pm_ys.getD j yX3_wordRead
def pm_ml_0 : List (Nat × Nat × Nat) := [(0, 58, 4), (0, 62, 6), (0, 72, 11), (0, 80, 3), (0, 84, 20), (0, 87, 13), (0, 91, 14), (0, 94, 17), (0, 97, 15), (0, 100, 12), (0, 107, 19), (0, 110, 18), (1, 25, 24), (1, 29, 25), (1, 33, 15), (1, 44, 3), (2, 23, 26), (2, 31, 30), (2, 35, 29), (3, 19, 1), (3, 37, 41), (3, 43, 35), (3, 50, 0), (3, 54, 34), (3, 58, 37), (3, 61, 38), (3, 65, 36), (3, 79, 39), (3, 83, 40), (3, 86, 8), (3, 96, 9), (3, 100, 43), (3, 107, 42), (4, 59, 97), (4, 63, 32), (4, 70, 33), (4, 80, 2), (4, 99, 7), (4, 103, 6), (4, 106, 3), (4, 109, 4), (4, 117, 11), (4, 121, 12), (4, 136, 8), (4, 140, 13), (4, 144, 9), (4, 148, 173), (4, 156, 16), (4, 160, 21), (4, 170, 172), (4, 173, 15), (4, 176, 17), (4, 183, 71), (4, 187, 70), (4, 190, 10), (4, 193, 72), (4, 201, 75), (4, 204, 76), (4, 208, 77), (4, 212, 78)]
def pm_ml_1 : List (Nat × Nat × Nat) := [(4, 221, 14), (4, 224, 79), (4, 228, 22), (4, 231, 85), (4, 234, 86), (4, 237, 87), (4, 240, 23), (4, 248, 91), (4, 252, 27), (4, 255, 29), (4, 258, 28), (4, 260, 31), (4, 266, 56), (4, 269, 26), (4, 275, 5), (5, 53, 98), (5, 75, 102), (5, 90, 103), (5, 94, 105), (5, 97, 106), (5, 101, 104), (5, 111, 107), (5, 114, 108), (5, 125, 114), (5, 132, 116), (5, 135, 115), (5, 146, 99), (5, 149, 118), (5, 152, 119), (5, 158, 120), (5, 164, 117), (5, 168, 121), (5, 171, 111), (5, 177, 112), (5, 186, 127), (5, 190, 126), (5, 196, 133), (5, 201, 122), (5, 205, 138), (5, 209, 113), (5, 212, 139), (5, 216, 145), (5, 220, 144), (5, 226, 152), (5, 236, 153), (5, 242, 158), (5, 245, 159), (5, 249, 162), (6, 13, 44), (6, 17, 100), (6, 18, 45), (6, 21, 101), (6, 22, 46), (6, 26, 109), (6, 27, 47), (6, 30, 110), (6, 31, 48), (6, 34, 123), (6, 35, 49), (6, 39, 124)]
def pm_ml_2 : List (Nat × Nat × Nat) := [(6, 40, 50), (6, 43, 125), (6, 44, 51), (6, 48, 128), (6, 49, 52), (6, 52, 129), (6, 53, 53), (6, 57, 130), (6, 58, 54), (6, 61, 131), (6, 62, 55), (6, 65, 132), (6, 66, 56), (6, 69, 134), (6, 70, 57), (6, 73, 135), (6, 74, 58), (6, 77, 136), (6, 78, 59), (6, 81, 137), (6, 82, 60), (6, 85, 140), (6, 86, 61), (6, 89, 141), (6, 90, 62), (6, 93, 142), (6, 94, 63), (6, 97, 143), (6, 98, 64), (6, 101, 146), (6, 102, 65), (6, 105, 147), (6, 106, 66), (6, 109, 148), (6, 110, 67), (6, 113, 149), (6, 114, 68), (6, 117, 150), (6, 118, 69), (6, 121, 151), (6, 122, 73), (6, 126, 154), (6, 127, 74), (6, 131, 155), (6, 132, 80), (6, 135, 156), (6, 136, 81), (6, 139, 157), (6, 140, 82), (6, 143, 160), (6, 144, 83), (6, 147, 161), (6, 148, 84), (6, 151, 163), (6, 152, 88), (6, 155, 164), (6, 156, 89), (6, 159, 165), (6, 160, 90), (6, 163, 166)]
def pm_ml_3 : List (Nat × Nat × Nat) := [(6, 164, 92), (6, 167, 167), (6, 168, 93), (6, 171, 168), (6, 172, 94), (6, 175, 169), (6, 176, 95), (6, 179, 170), (6, 180, 96), (6, 183, 171)]
def pm_ml : List (Nat × Nat × Nat) := pm_ml_0 ++ pm_ml_1 ++ pm_ml_2 ++ pm_ml_3
def pm_mw (q : Nat × Nat × Nat) : Cond := .methodLink (pm_cn q.1) q.2.1 (pm_yj q.2.2)
set_option maxRecDepth 20000 in
theorem pm_ml_in0 : ∀ w ∈ pm_ml_0.map pm_mw, w ∈ tables_1 := pm_inl tables_1 (pm_ml_0.map pm_mw) [697, 349, 393, 426, 427, 465, 461, 466, 457, 470, 471, 476, 600, 605, 610, 609, 661, 678, 682, 223, 227, 242, 246, 238, 312, 329, 337, 316, 325, 345, 333, 320, 231, 204, 207, 219, 356, 368, 372, 377, 381, 385, 389, 413, 422, 434, 443, 453, 487, 499, 502, 507, 512, 536, 540, 516, 554, 559, 562, 565] (by decide +kernel)
set_option maxRecDepth 20000 in
theorem pm_ml_in1 : ∀ w ∈ pm_ml_1.map pm_mw, w ∈ tables_1 := pm_inl tables_1 (pm_ml_1.map pm_mw) [558, 568, 580, 592, 619, 623, 596, 637, 649, 657, 666, 674, 683, 692, 693, 794, 809, 817, 805, 834, 825, 830, 821, 859, 913, 863, 953, 945, 949, 846, 909, 941, 854, 873, 881, 888, 920, 937, 968, 960, 964, 988, 992, 1029, 1025, 1053, 1049, 1065, 200, 789, 211, 797, 215, 801, 360, 838, 364, 842, 373, 850] (by decide +kernel)
set_option maxRecDepth 20000 in
theorem pm_ml_in2 : ∀ w ∈ pm_ml_2.map pm_mw, w ∈ tables_1 := pm_inl tables_1 (pm_ml_2.map pm_mw) [395, 869, 399, 877, 405, 892, 409, 896, 414, 900, 418, 904, 430, 916, 435, 924, 439, 928, 449, 932, 483, 956, 491, 972, 495, 976, 503, 980, 508, 984, 520, 997, 524, 1001, 528, 1005, 532, 1009, 544, 1013, 548, 1017, 571, 1032, 576, 1036, 584, 1041, 588, 1045, 611, 1057, 615, 1061, 628, 1069, 633, 1074, 641, 1078] (by decide +kernel)
set_option maxRecDepth 20000 in
theorem pm_ml_in3 : ∀ w ∈ pm_ml_3.map pm_mw, w ∈ tables_1 := pm_inl tables_1 (pm_ml_3.map pm_mw) [645, 1082, 653, 1087, 670, 1091, 684, 1096, 688, 1100] (by decide +kernel)
theorem pm_ml_in : ∀ q ∈ pm_ml, pm_mw q ∈ tables_1 := by
  intro q hq
  unfold pm_ml at hq
  simp only [List.mem_append] at hq
  rcases hq with (((h | h) | h) | h)
  · exact pm_ml_in0 _ (List.mem_map_of_mem h)
  · exact pm_ml_in1 _ (List.mem_map_of_mem h)
  · exact pm_ml_in2 _ (List.mem_map_of_mem h)
  · exact pm_ml_in3 _ (List.mem_map_of_mem h)
def pm_mn : List (Nat × Nat × Nat) := [(0, 76, 97), (2, 27, 97), (3, 103, 97)]
def pm_mnw (q : Nat × Nat × Nat) : Cond := .methodLinkNest (pm_cn q.1) q.2.1 (pm_yj q.2.2) RX4
theorem pm_mn_in : ∀ w ∈ pm_mn.map pm_mnw, w ∈ tables_1 := pm_inl tables_1 (pm_mn.map pm_mnw) [394, 665, 324] (by decide +kernel)
def pm_mx : List (Nat × Nat × Nat) := [(0, 66, 1), (0, 113, 0), (0, 116, 2), (1, 38, 0), (3, 111, 0), (4, 216, 2), (4, 244, 0)]
def pm_mxn (w : Nat) : MethodName := match w with | 0 => Lib.Math.max.name | 1 => Lib.Math.min.name | _ => Lib.Math.abs.name
def pm_mxw (q : Nat × Nat × Nat) : Cond := .methodLink (pm_cn q.1) q.2.1 (pm_mxn q.2.2)
theorem pm_mx_in : ∀ w ∈ pm_mx.map pm_mxw, w ∈ tables_1 := pm_inl tables_1 (pm_mx.map pm_mxw) [353, 475, 480, 604, 235, 575, 627] (by decide +kernel)
def pm_mxc : List Cond := [Cond.initialized "java/lang/Math", Cond.static Lib.Math.max.name, Cond.static Lib.Math.min.name, Cond.static Lib.Math.abs.name, Cond.code Lib.Math.max.name Lib.Math.max.code 2 (some .int), Cond.code Lib.Math.min.name Lib.Math.min.code 2 (some .int), Cond.code Lib.Math.abs.name Lib.Math.abs.code 1 (some .int)]
theorem pm_mxc_in : ∀ w ∈ pm_mxc, w ∈ tables_1 := pm_inl tables_1 pm_mxc [7, 236, 354, 481, 237, 355, 482] (by decide +kernel)
theorem pm_mx_3 : ∀ q ∈ pm_mx, q.2.2 = 0 ∨ q.2.2 = 1 ∨ q.2.2 = 2 := by decide +kernel
def pm_cl : List (Nat × Nat × Value) := [(4, 197, .long (-1)), (4, 199, .long (-2)), (4, 247, .int (1103515245)), (5, 51, .long (127)), (5, 82, .long (97)), (5, 84, .long (122)), (5, 86, .long (48)), (5, 88, .long (57)), (5, 105, .long (6)), (5, 123, .long (200)), (5, 128, .long (-5)), (5, 130, .long (5)), (5, 138, .long (300)), (5, 175, .long (7)), (5, 180, .long (3)), (5, 182, .long (60)), (5, 184, .long (9)), (5, 194, .long (18)), (5, 199, .long (100)), (5, 215, .int (1000000)), (5, 224, .long (10)), (5, 230, .long (8)), (5, 232, .long (-1)), (5, 234, .long (-2)), (5, 240, .long (40)), (5, 252, .int (1103515245)), (5, 253, .long (2)), (5, 255, .long (20)), (7, 265, .int (1431655765)), (7, 266, .int (858993459)), (7, 267, .int (252645135))]
def pm_cw (q : Nat × Nat × Value) : Cond := match q.2.2 with | .int v => .constant (pm_cn q.1) q.2.1 v | .long v => .constantLong (pm_cn q.1) q.2.1 v | _ => .tt
theorem pm_cl_in : ∀ w ∈ pm_cl.map pm_cw, w ∈ tables_1 := pm_inl tables_1 (pm_cl.map pm_cw) [552, 553, 632, 793, 813, 814, 815, 816, 829, 963, 867, 868, 887, 858, 884, 885, 886, 908, 936, 996, 1021, 1022, 1023, 1024, 1040, 1073, 1086, 1095, 446, 447, 448] (by decide +kernel)
def pm_sl : List (Nat × Nat × Value) := [(3, 72, .ref 80), (3, 76, .ref 81), (4, 130, .ref 80), (4, 133, .ref 81)]
def pm_sn (r : Nat) : String := match r with | 80 => "LEAST" | _ => "MOST"
-- statics, by what links them: [(('SpringBeads$Tape', 72), 'nest'), (('SpringBeads$Tape', 76), 'nest'), (('SpringBeads', 130), 'plain'), (('SpringBeads', 133), 'plain')]
theorem pm_sl_in : ∀ w ∈ ([.fieldLinkNest (pm_cn 3) 72 RX4 (pm_sn 80) "[I" RX4, .fieldLinkNest (pm_cn 3) 76 RX4 (pm_sn 81) "[I" RX4, .fieldLink (pm_cn 4) 130 RX4 (pm_sn 80) "[I", .fieldLink (pm_cn 4) 133 RX4 (pm_sn 81) "[I"] : List Cond), w ∈ tables_1 := pm_inl tables_1 _ [341, 343, 403, 404] (by decide +kernel)
end
section
def tbX0_clear : pm_Tb := [(0, .aload_n 0, 1, .null, 0, 0),
  (1, .iconst 0, 2, .int (0), 0, 0),
  (2, .putfield 39, 5, .null, 0, 0),
  (5, .aload_n 0, 6, .null, 0, 0),
  (6, .iconst 0, 7, .int (0), 0, 0),
  (7, .putfield 43, 10, .null, 1, 0),
  (10, .aload_n 0, 11, .null, 0, 0),
  (11, .iconst 0, 12, .int (0), 0, 0),
  (12, .putfield 46, 15, .null, 2, 0),
  (15, .aload_n 0, 16, .null, 0, 0),
  (16, .iconst 0, 17, .int (0), 0, 0),
  (17, .putfield 49, 20, .null, 3, 0),
  (20, .return_, 21, .null, 0, 0)]
def tbX0_becomeLike : pm_Tb := [(0, .aload_n 0, 1, .null, 0, 0),
  (1, .aload_n 1, 2, .null, 1, 0),
  (2, .getfield 39, 5, .null, 0, 0),
  (5, .putfield 39, 8, .null, 0, 0),
  (8, .aload_n 0, 9, .null, 0, 0),
  (9, .aload_n 1, 10, .null, 1, 0),
  (10, .getfield 43, 13, .null, 1, 0),
  (13, .putfield 43, 16, .null, 1, 0),
  (16, .aload_n 0, 17, .null, 0, 0),
  (17, .aload_n 1, 18, .null, 1, 0),
  (18, .getfield 46, 21, .null, 2, 0),
  (21, .putfield 46, 24, .null, 2, 0),
  (24, .aload_n 0, 25, .null, 0, 0),
  (25, .aload_n 1, 26, .null, 1, 0),
  (26, .getfield 49, 29, .null, 3, 0),
  (29, .putfield 49, 32, .null, 3, 0),
  (32, .aload_n 0, 33, .null, 0, 0),
  (33, .iconst 0, 34, .int (0), 0, 0),
  (34, .putfield 52, 37, .null, 13, 0),
  (37, .aload_n 0, 38, .null, 0, 0),
  (38, .iconst 0, 39, .int (0), 0, 0),
  (39, .putfield 55, 42, .null, 14, 0),
  (42, .iconst 0, 43, .int (0), 0, 0),
  (43, .istore_n 2, 44, .null, 2, 0),
  (44, .iload_n 2, 45, .null, 2, 0),
  (45, .iconst 4, 46, .int (4), 0, 0),
  (46, .if_icmp .ge 81, 49, .null, 127, 0),
  (49, .aload_n 0, 50, .null, 0, 0),
  (50, .getfield 9, 53, .null, 4, 0),
  (53, .iload_n 2, 54, .null, 2, 0),
  (54, .aload_n 1, 55, .null, 1, 0),
  (55, .getfield 9, 58, .null, 4, 0),
  (58, .iload_n 2, 59, .null, 2, 0),
  (59, .iaload, 60, .null, 0, 0),
  (60, .iastore, 61, .null, 0, 0),
  (61, .aload_n 0, 62, .null, 0, 0),
  (62, .getfield 15, 65, .null, 5, 0),
  (65, .iload_n 2, 66, .null, 2, 0),
  (66, .aload_n 1, 67, .null, 1, 0),
  (67, .getfield 15, 70, .null, 5, 0),
  (70, .iload_n 2, 71, .null, 2, 0),
  (71, .iaload, 72, .null, 0, 0),
  (72, .iastore, 73, .null, 0, 0),
  (73, .aload_n 0, 74, .null, 0, 0),
  (74, .getfield 18, 77, .null, 6, 0),
  (77, .iload_n 2, 78, .null, 2, 0),
  (78, .aload_n 1, 79, .null, 1, 0),
  (79, .getfield 18, 82, .null, 6, 0),
  (82, .iload_n 2, 83, .null, 2, 0),
  (83, .iaload, 84, .null, 0, 0),
  (84, .iastore, 85, .null, 0, 0),
  (85, .aload_n 0, 86, .null, 0, 0),
  (86, .getfield 21, 89, .null, 7, 0),
  (89, .iload_n 2, 90, .null, 2, 0),
  (90, .aload_n 1, 91, .null, 1, 0),
  (91, .getfield 21, 94, .null, 7, 0),
  (94, .iload_n 2, 95, .null, 2, 0),
  (95, .iaload, 96, .null, 0, 0),
  (96, .iastore, 97, .null, 0, 0),
  (97, .aload_n 0, 98, .null, 0, 0),
  (98, .getfield 24, 101, .null, 8, 0),
  (101, .iload_n 2, 102, .null, 2, 0),
  (102, .aload_n 1, 103, .null, 1, 0),
  (103, .getfield 24, 106, .null, 8, 0),
  (106, .iload_n 2, 107, .null, 2, 0),
  (107, .iaload, 108, .null, 0, 0),
  (108, .iastore, 109, .null, 0, 0),
  (109, .aload_n 0, 110, .null, 0, 0),
  (110, .getfield 27, 113, .null, 9, 0),
  (113, .iload_n 2, 114, .null, 2, 0),
  (114, .aload_n 1, 115, .null, 1, 0),
  (115, .getfield 27, 118, .null, 9, 0),
  (118, .iload_n 2, 119, .null, 2, 0),
  (119, .iaload, 120, .null, 0, 0),
  (120, .iastore, 121, .null, 0, 0),
  (121, .iinc 2 1, 124, .int (1), 2, 0),
  (124, .goto (-80), 127, .null, 44, 0),
  (127, .iconst 0, 128, .int (0), 0, 0),
  (128, .istore_n 2, 129, .null, 2, 0),
  (129, .iload_n 2, 130, .null, 2, 0),
  (130, .bipush 12, 132, .int (12), 0, 0),
  (132, .if_icmp .ge 33, 135, .null, 165, 0),
  (135, .aload_n 0, 136, .null, 0, 0),
  (136, .getfield 30, 139, .null, 10, 0),
  (139, .iload_n 2, 140, .null, 2, 0),
  (140, .aload_n 1, 141, .null, 1, 0),
  (141, .getfield 30, 144, .null, 10, 0),
  (144, .iload_n 2, 145, .null, 2, 0),
  (145, .iaload, 146, .null, 0, 0),
  (146, .iastore, 147, .null, 0, 0),
  (147, .aload_n 0, 148, .null, 0, 0),
  (148, .getfield 33, 151, .null, 11, 0),
  (151, .iload_n 2, 152, .null, 2, 0),
  (152, .aload_n 1, 153, .null, 1, 0),
  (153, .getfield 33, 156, .null, 11, 0),
  (156, .iload_n 2, 157, .null, 2, 0),
  (157, .iaload, 158, .null, 0, 0),
  (158, .iastore, 159, .null, 0, 0),
  (159, .iinc 2 1, 162, .int (1), 2, 0),
  (162, .goto (-33), 165, .null, 129, 0),
  (165, .return_, 166, .null, 0, 0)]
def tbX0_has : pm_Tb := [(0, .iload_n 1, 1, .null, 1, 0),
  (1, .ifCond .lt 15, 4, .null, 16, 0),
  (4, .iload_n 1, 5, .null, 1, 0),
  (5, .aload_n 0, 6, .null, 0, 0),
  (6, .getfield 39, 9, .null, 0, 0),
  (9, .if_icmp .ge 7, 12, .null, 16, 0),
  (12, .iconst 1, 13, .int (1), 0, 0),
  (13, .goto 4, 16, .null, 17, 0),
  (16, .iconst 0, 17, .int (0), 0, 0),
  (17, .ireturn, 18, .null, 0, 0)]
def tbX0_rowOf : pm_Tb := [(0, .iload_n 1, 1, .null, 1, 0),
  (1, .tableswitch 51 0 3 #[31, 36, 41, 46], 32, .null, 52, 0),
  (32, .aload_n 0, 33, .null, 0, 0),
  (33, .getfield 9, 36, .null, 4, 0),
  (36, .areturn, 37, .null, 0, 0),
  (37, .aload_n 0, 38, .null, 0, 0),
  (38, .getfield 15, 41, .null, 5, 0),
  (41, .areturn, 42, .null, 0, 0),
  (42, .aload_n 0, 43, .null, 0, 0),
  (43, .getfield 18, 46, .null, 6, 0),
  (46, .areturn, 47, .null, 0, 0),
  (47, .aload_n 0, 48, .null, 0, 0),
  (48, .getfield 21, 51, .null, 7, 0),
  (51, .areturn, 52, .null, 0, 0),
  (52, .aload_n 0, 53, .null, 0, 0),
  (53, .getfield 24, 56, .null, 8, 0),
  (56, .areturn, 57, .null, 0, 0)]
def tbX0_sumOf : pm_Tb := [(0, .aload_n 0, 1, .null, 0, 0),
  (1, .iload_n 1, 2, .null, 1, 0),
  (2, .invokevirtual 58, 5, .ref 2, 4, 0),
  (5, .astore_n 2, 6, .null, 2, 0),
  (6, .iconst 0, 7, .int (0), 0, 0),
  (7, .istore_n 3, 8, .null, 3, 0),
  (8, .iconst 0, 9, .int (0), 0, 0),
  (9, .istore 4, 11, .null, 4, 0),
  (11, .iload 4, 13, .null, 4, 0),
  (13, .aload_n 0, 14, .null, 0, 0),
  (14, .getfield 39, 17, .null, 0, 0),
  (17, .if_icmp .ge 16, 20, .null, 33, 0),
  (20, .iload_n 3, 21, .null, 3, 0),
  (21, .aload_n 2, 22, .null, 2, 0),
  (22, .iload 4, 24, .null, 4, 0),
  (24, .iaload, 25, .null, 0, 0),
  (25, .iadd, 26, .null, 0, 0),
  (26, .istore_n 3, 27, .null, 3, 0),
  (27, .iinc 4 1, 30, .int (1), 4, 0),
  (30, .goto (-19), 33, .null, 11, 0),
  (33, .iload_n 3, 34, .null, 3, 0),
  (34, .ireturn, 35, .null, 0, 0)]
def tbX0_lastPlace : pm_Tb := [(0, .aload_n 0, 1, .null, 0, 0),
  (1, .getfield 39, 4, .null, 0, 0),
  (4, .ifCond .le 17, 7, .null, 21, 0),
  (7, .aload_n 0, 8, .null, 0, 0),
  (8, .getfield 24, 11, .null, 8, 0),
  (11, .aload_n 0, 12, .null, 0, 0),
  (12, .getfield 39, 15, .null, 0, 0),
  (15, .iconst 1, 16, .int (1), 0, 0),
  (16, .isub, 17, .null, 0, 0),
  (17, .iaload, 18, .null, 0, 0),
  (18, .goto 4, 21, .null, 22, 0),
  (21, .iconst 0, 22, .int (0), 0, 0),
  (22, .ireturn, 23, .null, 0, 0)]
def tbX0_stillBits : pm_Tb := [(0, .iconst 0, 1, .int (0), 0, 0),
  (1, .istore_n 1, 2, .null, 1, 0),
  (2, .iconst 0, 3, .int (0), 0, 0),
  (3, .istore_n 2, 4, .null, 2, 0),
  (4, .iload_n 2, 5, .null, 2, 0),
  (5, .aload_n 0, 6, .null, 0, 0),
  (6, .getfield 39, 9, .null, 0, 0),
  (9, .if_icmp .ge 24, 12, .null, 33, 0),
  (12, .aload_n 0, 13, .null, 0, 0),
  (13, .getfield 27, 16, .null, 9, 0),
  (16, .iload_n 2, 17, .null, 2, 0),
  (17, .iaload, 18, .null, 0, 0),
  (18, .ifCond .ne 9, 21, .null, 27, 0),
  (21, .iload_n 1, 22, .null, 1, 0),
  (22, .iconst 1, 23, .int (1), 0, 0),
  (23, .iload_n 2, 24, .null, 2, 0),
  (24, .ishl, 25, .null, 0, 0),
  (25, .ior, 26, .null, 0, 0),
  (26, .istore_n 1, 27, .null, 1, 0),
  (27, .iinc 2 1, 30, .int (1), 2, 0),
  (30, .goto (-26), 33, .null, 4, 0),
  (33, .iload_n 1, 34, .null, 1, 0),
  (34, .ireturn, 35, .null, 0, 0)]
def tbX0_addBead : pm_Tb := [(0, .aload_n 0, 1, .null, 0, 0),
  (1, .getfield 39, 4, .null, 0, 0),
  (4, .iconst 4, 5, .int (4), 0, 0),
  (5, .if_icmp .lt 5, 8, .null, 10, 0),
  (8, .iconst 0, 9, .int (0), 0, 0),
  (9, .ireturn, 10, .null, 0, 0),
  (10, .sipush 300, 13, .int (300), 0, 0),
  (13, .aload_n 0, 14, .null, 0, 0),
  (14, .invokevirtual 62, 17, .ref 1, 6, 0),
  (17, .iload_n 2, 18, .null, 2, 0),
  (18, .iadd, 19, .null, 0, 0),
  (19, .invokestatic 66, 22, .retAddr 1, 0, 0),
  (22, .istore 5, 24, .null, 5, 0),
  (24, .aload_n 0, 25, .null, 0, 0),
  (25, .getfield 9, 28, .null, 4, 0),
  (28, .aload_n 0, 29, .null, 0, 0),
  (29, .getfield 39, 32, .null, 0, 0),
  (32, .iload_n 1, 33, .null, 1, 0),
  (33, .iastore, 34, .null, 0, 0),
  (34, .aload_n 0, 35, .null, 0, 0),
  (35, .getfield 15, 38, .null, 5, 0),
  (38, .aload_n 0, 39, .null, 0, 0),
  (39, .getfield 39, 42, .null, 0, 0),
  (42, .iload_n 2, 43, .null, 2, 0),
  (43, .iastore, 44, .null, 0, 0),
  (44, .aload_n 0, 45, .null, 0, 0),
  (45, .getfield 18, 48, .null, 6, 0),
  (48, .aload_n 0, 49, .null, 0, 0),
  (49, .getfield 39, 52, .null, 0, 0),
  (52, .iload_n 3, 53, .null, 3, 0),
  (53, .iastore, 54, .null, 0, 0),
  (54, .aload_n 0, 55, .null, 0, 0),
  (55, .getfield 21, 58, .null, 7, 0),
  (58, .aload_n 0, 59, .null, 0, 0),
  (59, .getfield 39, 62, .null, 0, 0),
  (62, .iload 4, 64, .null, 4, 0),
  (64, .iastore, 65, .null, 0, 0),
  (65, .aload_n 0, 66, .null, 0, 0),
  (66, .getfield 24, 69, .null, 8, 0),
  (69, .aload_n 0, 70, .null, 0, 0),
  (70, .getfield 39, 73, .null, 0, 0),
  (73, .iload 5, 75, .null, 5, 0),
  (75, .iastore, 76, .null, 0, 0),
  (76, .aload_n 0, 77, .null, 0, 0),
  (77, .getfield 27, 80, .null, 9, 0),
  (80, .aload_n 0, 81, .null, 0, 0),
  (81, .getfield 39, 84, .null, 0, 0),
  (84, .iconst 0, 85, .int (0), 0, 0),
  (85, .iastore, 86, .null, 0, 0),
  (86, .aload_n 0, 87, .null, 0, 0),
  (87, .dup, 88, .null, 0, 0),
  (88, .getfield 39, 91, .null, 0, 0),
  (91, .iconst 1, 92, .int (1), 0, 0),
  (92, .iadd, 93, .null, 0, 0),
  (93, .putfield 39, 96, .null, 0, 0),
  (96, .iconst 1, 97, .int (1), 0, 0),
  (97, .ireturn, 98, .null, 0, 0)]
def tbX0_addKnock : pm_Tb := [(0, .aload_n 0, 1, .null, 0, 0),
  (1, .getfield 43, 4, .null, 1, 0),
  (4, .bipush 12, 6, .int (12), 0, 0),
  (6, .if_icmp .lt 5, 9, .null, 11, 0),
  (9, .iconst 0, 10, .int (0), 0, 0),
  (10, .ireturn, 11, .null, 0, 0),
  (11, .aload_n 0, 12, .null, 0, 0),
  (12, .getfield 30, 15, .null, 10, 0),
  (15, .aload_n 0, 16, .null, 0, 0),
  (16, .getfield 43, 19, .null, 1, 0),
  (19, .iload_n 1, 20, .null, 1, 0),
  (20, .iastore, 21, .null, 0, 0),
  (21, .aload_n 0, 22, .null, 0, 0),
  (22, .getfield 33, 25, .null, 11, 0),
  (25, .aload_n 0, 26, .null, 0, 0),
  (26, .getfield 43, 29, .null, 1, 0),
  (29, .iload_n 2, 30, .null, 2, 0),
  (30, .iastore, 31, .null, 0, 0),
  (31, .aload_n 0, 32, .null, 0, 0),
  (32, .dup, 33, .null, 0, 0),
  (33, .getfield 43, 36, .null, 1, 0),
  (36, .iconst 1, 37, .int (1), 0, 0),
  (37, .iadd, 38, .null, 0, 0),
  (38, .putfield 43, 41, .null, 1, 0),
  (41, .iconst 1, 42, .int (1), 0, 0),
  (42, .ireturn, 43, .null, 0, 0)]
def tbX0_changePlaces : pm_Tb := [(0, .aload_n 0, 1, .null, 0, 0),
  (1, .getfield 30, 4, .null, 10, 0),
  (4, .iload_n 1, 5, .null, 1, 0),
  (5, .iaload, 6, .null, 0, 0),
  (6, .istore_n 3, 7, .null, 3, 0),
  (7, .aload_n 0, 8, .null, 0, 0),
  (8, .getfield 33, 11, .null, 11, 0),
  (11, .iload_n 1, 12, .null, 1, 0),
  (12, .iaload, 13, .null, 0, 0),
  (13, .istore 4, 15, .null, 4, 0),
  (15, .aload_n 0, 16, .null, 0, 0),
  (16, .getfield 30, 19, .null, 10, 0),
  (19, .iload_n 1, 20, .null, 1, 0),
  (20, .aload_n 0, 21, .null, 0, 0),
  (21, .getfield 30, 24, .null, 10, 0),
  (24, .iload_n 2, 25, .null, 2, 0),
  (25, .iaload, 26, .null, 0, 0),
  (26, .iastore, 27, .null, 0, 0),
  (27, .aload_n 0, 28, .null, 0, 0),
  (28, .getfield 33, 31, .null, 11, 0),
  (31, .iload_n 1, 32, .null, 1, 0),
  (32, .aload_n 0, 33, .null, 0, 0),
  (33, .getfield 33, 36, .null, 11, 0),
  (36, .iload_n 2, 37, .null, 2, 0),
  (37, .iaload, 38, .null, 0, 0),
  (38, .iastore, 39, .null, 0, 0),
  (39, .aload_n 0, 40, .null, 0, 0),
  (40, .getfield 30, 43, .null, 10, 0),
  (43, .iload_n 2, 44, .null, 2, 0),
  (44, .iload_n 3, 45, .null, 3, 0),
  (45, .iastore, 46, .null, 0, 0),
  (46, .aload_n 0, 47, .null, 0, 0),
  (47, .getfield 33, 50, .null, 11, 0),
  (50, .iload_n 2, 51, .null, 2, 0),
  (51, .iload 4, 53, .null, 4, 0),
  (53, .iastore, 54, .null, 0, 0),
  (54, .return_, 55, .null, 0, 0)]
def tbX0_stretchOf : pm_Tb := [(0, .iload_n 1, 1, .null, 1, 0),
  (1, .ifCond .le 14, 4, .null, 15, 0),
  (4, .aload_n 0, 5, .null, 0, 0),
  (5, .getfield 24, 8, .null, 8, 0),
  (8, .iload_n 1, 9, .null, 1, 0),
  (9, .iconst 1, 10, .int (1), 0, 0),
  (10, .isub, 11, .null, 0, 0),
  (11, .iaload, 12, .null, 0, 0),
  (12, .goto 4, 15, .null, 16, 0),
  (15, .iconst 0, 16, .int (0), 0, 0),
  (16, .istore_n 2, 17, .null, 2, 0),
  (17, .aload_n 0, 18, .null, 0, 0),
  (18, .getfield 24, 21, .null, 8, 0),
  (21, .iload_n 1, 22, .null, 1, 0),
  (22, .iaload, 23, .null, 0, 0),
  (23, .iload_n 2, 24, .null, 2, 0),
  (24, .isub, 25, .null, 0, 0),
  (25, .aload_n 0, 26, .null, 0, 0),
  (26, .getfield 15, 29, .null, 5, 0),
  (29, .iload_n 1, 30, .null, 1, 0),
  (30, .iaload, 31, .null, 0, 0),
  (31, .isub, 32, .null, 0, 0),
  (32, .ireturn, 33, .null, 0, 0)]
def tbX0_pullOf : pm_Tb := [(0, .aload_n 0, 1, .null, 0, 0),
  (1, .iload_n 1, 2, .null, 1, 0),
  (2, .invokevirtual 72, 5, .ref 2, 11, 0),
  (5, .istore_n 2, 6, .null, 2, 0),
  (6, .iconst 0, 7, .int (0), 0, 0),
  (7, .istore_n 3, 8, .null, 3, 0),
  (8, .aload_n 0, 9, .null, 0, 0),
  (9, .getfield 9, 12, .null, 4, 0),
  (12, .iload_n 1, 13, .null, 1, 0),
  (13, .iaload, 14, .null, 0, 0),
  (14, .tableswitch 63 1 3 #[26, 39, 52], 40, .null, 77, 0),
  (40, .iload_n 2, 41, .null, 2, 0),
  (41, .ifCond .ge 7, 44, .null, 48, 0),
  (44, .iconst 1, 45, .int (1), 0, 0),
  (45, .goto 4, 48, .null, 49, 0),
  (48, .iconst 0, 49, .int (0), 0, 0),
  (49, .istore_n 3, 50, .null, 3, 0),
  (50, .goto 27, 53, .null, 77, 0),
  (53, .iload_n 2, 54, .null, 2, 0),
  (54, .ifCond .le 7, 57, .null, 61, 0),
  (57, .iconst 1, 58, .int (1), 0, 0),
  (58, .goto 4, 61, .null, 62, 0),
  (61, .iconst 0, 62, .int (0), 0, 0),
  (62, .istore_n 3, 63, .null, 3, 0),
  (63, .goto 14, 66, .null, 77, 0),
  (66, .iload_n 2, 67, .null, 2, 0),
  (67, .bipush (-5), 69, .int (-5), 0, 0),
  (69, .iconst 5, 70, .int (5), 0, 0),
  (70, .invokestatic 76, 73, .ref 3, 97, 0),
  (73, .istore_n 3, 74, .null, 3, 0),
  (74, .goto 3, 77, .null, 77, 0),
  (77, .iload_n 3, 78, .null, 3, 0),
  (78, .ifCond .eq 7, 81, .null, 85, 0),
  (81, .iconst 0, 82, .int (0), 0, 0),
  (82, .goto 11, 85, .null, 93, 0),
  (85, .aload_n 0, 86, .null, 0, 0),
  (86, .getfield 18, 89, .null, 6, 0),
  (89, .iload_n 1, 90, .null, 1, 0),
  (90, .iaload, 91, .null, 0, 0),
  (91, .iload_n 2, 92, .null, 2, 0),
  (92, .imul, 93, .null, 0, 0),
  (93, .ireturn, 94, .null, 0, 0)]
def tbX0_knockOnce : pm_Tb := [(0, .aload_n 0, 1, .null, 0, 0),
  (1, .iload_n 1, 2, .null, 1, 0),
  (2, .invokevirtual 80, 5, .ref 2, 3, 0),
  (5, .ifCond .eq 20, 8, .null, 25, 0),
  (8, .aload_n 0, 9, .null, 0, 0),
  (9, .getfield 27, 12, .null, 9, 0),
  (12, .iload_n 1, 13, .null, 1, 0),
  (13, .aload_n 0, 14, .null, 0, 0),
  (14, .getfield 27, 17, .null, 9, 0),
  (17, .iload_n 1, 18, .null, 1, 0),
  (18, .iaload, 19, .null, 0, 0),
  (19, .iload_n 2, 20, .null, 2, 0),
  (20, .iadd, 21, .null, 0, 0),
  (21, .invokestatic 84, 24, .ref 1, 20, 0),
  (24, .iastore, 25, .null, 0, 0),
  (25, .return_, 26, .null, 0, 0)]
def tbX0_knockByPlan : pm_Tb := [(0, .aload_n 0, 1, .null, 0, 0),
  (1, .getfield 43, 4, .null, 1, 0),
  (4, .ifCond .le 29, 7, .null, 33, 0),
  (7, .aload_n 0, 8, .null, 0, 0),
  (8, .getfield 49, 11, .null, 3, 0),
  (11, .aload_n 0, 12, .null, 0, 0),
  (12, .getfield 43, 15, .null, 1, 0),
  (15, .irem, 16, .null, 0, 0),
  (16, .istore_n 1, 17, .null, 1, 0),
  (17, .aload_n 0, 18, .null, 0, 0),
  (18, .aload_n 0, 19, .null, 0, 0),
  (19, .getfield 30, 22, .null, 10, 0),
  (22, .iload_n 1, 23, .null, 1, 0),
  (23, .iaload, 24, .null, 0, 0),
  (24, .aload_n 0, 25, .null, 0, 0),
  (25, .getfield 33, 28, .null, 11, 0),
  (28, .iload_n 1, 29, .null, 1, 0),
  (29, .iaload, 30, .null, 0, 0),
  (30, .invokevirtual 87, 33, .ref 3, 13, 0),
  (33, .return_, 34, .null, 0, 0)]
def tbX0_tickOnce : pm_Tb := [(0, .aload_n 0, 1, .null, 0, 0),
  (1, .invokevirtual 91, 4, .ref 1, 14, 0),
  (4, .aload_n 0, 5, .null, 0, 0),
  (5, .invokevirtual 94, 8, .ref 1, 17, 0),
  (8, .return_, 9, .null, 0, 0)]
def tbX0_tickOften : pm_Tb := [(0, .iconst 0, 1, .int (0), 0, 0),
  (1, .istore_n 2, 2, .null, 2, 0),
  (2, .iload_n 2, 3, .null, 2, 0),
  (3, .iload_n 1, 4, .null, 1, 0),
  (4, .if_icmp .ge 13, 7, .null, 17, 0),
  (7, .aload_n 0, 8, .null, 0, 0),
  (8, .invokevirtual 97, 11, .ref 1, 15, 0),
  (11, .iinc 2 1, 14, .int (1), 2, 0),
  (14, .goto (-12), 17, .null, 2, 0),
  (17, .return_, 18, .null, 0, 0)]
def tbX0_move : pm_Tb := [(0, .iconst 0, 1, .int (0), 0, 0),
  (1, .istore_n 1, 2, .null, 1, 0),
  (2, .iload_n 1, 3, .null, 1, 0),
  (3, .aload_n 0, 4, .null, 0, 0),
  (4, .getfield 39, 7, .null, 0, 0),
  (7, .if_icmp .ge 20, 10, .null, 27, 0),
  (10, .aload_n 0, 11, .null, 0, 0),
  (11, .getfield 36, 14, .null, 12, 0),
  (14, .iload_n 1, 15, .null, 1, 0),
  (15, .aload_n 0, 16, .null, 0, 0),
  (16, .iload_n 1, 17, .null, 1, 0),
  (17, .invokevirtual 100, 20, .ref 2, 12, 0),
  (20, .iastore, 21, .null, 0, 0),
  (21, .iinc 1 1, 24, .int (1), 1, 0),
  (24, .goto (-22), 27, .null, 2, 0),
  (27, .aload_n 0, 28, .null, 0, 0),
  (28, .getfield 36, 31, .null, 12, 0),
  (31, .aload_n 0, 32, .null, 0, 0),
  (32, .getfield 39, 35, .null, 0, 0),
  (35, .iconst 0, 36, .int (0), 0, 0),
  (36, .iastore, 37, .null, 0, 0),
  (37, .aload_n 0, 38, .null, 0, 0),
  (38, .iconst 0, 39, .int (0), 0, 0),
  (39, .putfield 103, 42, .null, 15, 0),
  (42, .iconst 0, 43, .int (0), 0, 0),
  (43, .istore_n 1, 44, .null, 1, 0),
  (44, .iload_n 1, 45, .null, 1, 0),
  (45, .aload_n 0, 46, .null, 0, 0),
  (46, .getfield 39, 49, .null, 0, 0),
  (49, .if_icmp .ge 65, 52, .null, 114, 0),
  (52, .bipush 10, 54, .int (10), 0, 0),
  (54, .aload_n 0, 55, .null, 0, 0),
  (55, .getfield 21, 58, .null, 7, 0),
  (58, .iload_n 1, 59, .null, 1, 0),
  (59, .iaload, 60, .null, 0, 0),
  (60, .imul, 61, .null, 0, 0),
  (61, .istore_n 2, 62, .null, 2, 0),
  (62, .iload_n 2, 63, .null, 2, 0),
  (63, .ifCond .le 23, 66, .null, 86, 0),
  (66, .aload_n 0, 67, .null, 0, 0),
  (67, .getfield 36, 70, .null, 12, 0),
  (70, .iload_n 1, 71, .null, 1, 0),
  (71, .iconst 1, 72, .int (1), 0, 0),
  (72, .iadd, 73, .null, 0, 0),
  (73, .iaload, 74, .null, 0, 0),
  (74, .aload_n 0, 75, .null, 0, 0),
  (75, .getfield 36, 78, .null, 12, 0),
  (78, .iload_n 1, 79, .null, 1, 0),
  (79, .iaload, 80, .null, 0, 0),
  (80, .isub, 81, .null, 0, 0),
  (81, .iload_n 2, 82, .null, 2, 0),
  (82, .idiv, 83, .null, 0, 0),
  (83, .goto 4, 86, .null, 87, 0),
  (86, .iconst 0, 87, .int (0), 0, 0),
  (87, .istore_n 3, 88, .null, 3, 0),
  (88, .aload_n 0, 89, .null, 0, 0),
  (89, .iload_n 1, 90, .null, 1, 0),
  (90, .aload_n 0, 91, .null, 0, 0),
  (91, .aload_n 0, 92, .null, 0, 0),
  (92, .getfield 27, 95, .null, 9, 0),
  (95, .iload_n 1, 96, .null, 1, 0),
  (96, .iaload, 97, .null, 0, 0),
  (97, .iload_n 3, 98, .null, 3, 0),
  (98, .iadd, 99, .null, 0, 0),
  (99, .invokevirtual 107, 102, .ref 2, 19, 0),
  (102, .invokestatic 84, 105, .ref 1, 20, 0),
  (105, .invokevirtual 110, 108, .ref 3, 18, 0),
  (108, .iinc 1 1, 111, .int (1), 1, 0),
  (111, .goto (-67), 114, .null, 44, 0),
  (114, .aload_n 0, 115, .null, 0, 0),
  (115, .dup, 116, .null, 0, 0),
  (116, .getfield 49, 119, .null, 3, 0),
  (119, .iconst 1, 120, .int (1), 0, 0),
  (120, .iadd, 121, .null, 0, 0),
  (121, .putfield 49, 124, .null, 3, 0),
  (124, .return_, 125, .null, 0, 0)]
def tbX0_goOn : pm_Tb := [(0, .aload_n 0, 1, .null, 0, 0),
  (1, .getfield 24, 4, .null, 8, 0),
  (4, .iload_n 1, 5, .null, 1, 0),
  (5, .iaload, 6, .null, 0, 0),
  (6, .iload_n 2, 7, .null, 2, 0),
  (7, .iadd, 8, .null, 0, 0),
  (8, .istore_n 3, 9, .null, 3, 0),
  (9, .iconst 0, 10, .int (0), 0, 0),
  (10, .sipush 300, 13, .int (300), 0, 0),
  (13, .iload_n 3, 14, .null, 3, 0),
  (14, .invokestatic 66, 17, .retAddr 1, 0, 0),
  (17, .invokestatic 113, 20, .retAddr 0, 0, 0),
  (20, .istore 4, 22, .null, 4, 0),
  (22, .iload 4, 24, .null, 4, 0),
  (24, .iload_n 3, 25, .null, 3, 0),
  (25, .if_icmp .ne 7, 28, .null, 32, 0),
  (28, .iload_n 2, 29, .null, 2, 0),
  (29, .goto 4, 32, .null, 33, 0),
  (32, .iconst 0, 33, .int (0), 0, 0),
  (33, .istore 5, 35, .null, 5, 0),
  (35, .iload 4, 37, .null, 4, 0),
  (37, .iload_n 3, 38, .null, 3, 0),
  (38, .if_icmp .eq 13, 41, .null, 51, 0),
  (41, .aload_n 0, 42, .null, 0, 0),
  (42, .dup, 43, .null, 0, 0),
  (43, .getfield 55, 46, .null, 14, 0),
  (46, .iconst 1, 47, .int (1), 0, 0),
  (47, .iadd, 48, .null, 0, 0),
  (48, .putfield 55, 51, .null, 14, 0),
  (51, .iload 4, 53, .null, 4, 0),
  (53, .aload_n 0, 54, .null, 0, 0),
  (54, .getfield 24, 57, .null, 8, 0),
  (57, .iload_n 1, 58, .null, 1, 0),
  (58, .iaload, 59, .null, 0, 0),
  (59, .if_icmp .ne 14, 62, .null, 73, 0),
  (62, .iload 5, 64, .null, 5, 0),
  (64, .aload_n 0, 65, .null, 0, 0),
  (65, .getfield 27, 68, .null, 9, 0),
  (68, .iload_n 1, 69, .null, 1, 0),
  (69, .iaload, 70, .null, 0, 0),
  (70, .if_icmp .eq 8, 73, .null, 78, 0),
  (73, .aload_n 0, 74, .null, 0, 0),
  (74, .iconst 1, 75, .int (1), 0, 0),
  (75, .putfield 103, 78, .null, 15, 0),
  (78, .aload_n 0, 79, .null, 0, 0),
  (79, .dup, 80, .null, 0, 0),
  (80, .getfield 52, 83, .null, 13, 0),
  (83, .iload 4, 85, .null, 4, 0),
  (85, .aload_n 0, 86, .null, 0, 0),
  (86, .getfield 24, 89, .null, 8, 0),
  (89, .iload_n 1, 90, .null, 1, 0),
  (90, .iaload, 91, .null, 0, 0),
  (91, .isub, 92, .null, 0, 0),
  (92, .invokestatic 116, 95, .retAddr 2, 0, 0),
  (95, .iadd, 96, .null, 0, 0),
  (96, .putfield 52, 99, .null, 13, 0),
  (99, .aload_n 0, 100, .null, 0, 0),
  (100, .getfield 24, 103, .null, 8, 0),
  (103, .iload_n 1, 104, .null, 1, 0),
  (104, .iload 4, 106, .null, 4, 0),
  (106, .iastore, 107, .null, 0, 0),
  (107, .aload_n 0, 108, .null, 0, 0),
  (108, .getfield 27, 111, .null, 9, 0),
  (111, .iload_n 1, 112, .null, 1, 0),
  (112, .iload 5, 114, .null, 5, 0),
  (114, .iastore, 115, .null, 0, 0),
  (115, .return_, 116, .null, 0, 0)]
def tbX0_slowed : pm_Tb := [(0, .iload_n 1, 1, .null, 1, 0),
  (1, .ifCond .le 16, 4, .null, 17, 0),
  (4, .iconst 0, 5, .int (0), 0, 0),
  (5, .iload_n 1, 6, .null, 1, 0),
  (6, .aload_n 0, 7, .null, 0, 0),
  (7, .getfield 46, 10, .null, 2, 0),
  (10, .isub, 11, .null, 0, 0),
  (11, .invokestatic 113, 14, .retAddr 0, 0, 0),
  (14, .goto 13, 17, .null, 27, 0),
  (17, .iconst 0, 18, .int (0), 0, 0),
  (18, .iload_n 1, 19, .null, 1, 0),
  (19, .aload_n 0, 20, .null, 0, 0),
  (20, .getfield 46, 23, .null, 2, 0),
  (23, .iadd, 24, .null, 0, 0),
  (24, .invokestatic 66, 27, .retAddr 1, 0, 0),
  (27, .ireturn, 28, .null, 0, 0)]
def tbX0_inBounds : pm_Tb := [(0, .iload_n 0, 1, .null, 0, 0),
  (1, .bipush 40, 3, .int (40), 0, 0),
  (3, .if_icmp .le 8, 6, .null, 11, 0),
  (6, .bipush 40, 8, .int (40), 0, 0),
  (8, .goto 15, 11, .null, 23, 0),
  (11, .iload_n 0, 12, .null, 0, 0),
  (12, .bipush (-40), 14, .int (-40), 0, 0),
  (14, .if_icmp .ge 8, 17, .null, 22, 0),
  (17, .bipush (-40), 19, .int (-40), 0, 0),
  (19, .goto 4, 22, .null, 23, 0),
  (22, .iload_n 0, 23, .null, 0, 0),
  (23, .ireturn, 24, .null, 0, 0)]
def tbX0_greatestSwing : pm_Tb := [(0, .aload_n 0, 1, .null, 0, 0),
  (1, .invokevirtual 62, 4, .ref 1, 6, 0),
  (4, .istore_n 3, 5, .null, 3, 0),
  (5, .iconst 0, 6, .int (0), 0, 0),
  (6, .istore 4, 8, .null, 4, 0),
  (8, .iconst 0, 9, .int (0), 0, 0),
  (9, .istore 5, 11, .null, 5, 0),
  (11, .iload 5, 13, .null, 5, 0),
  (13, .iload_n 1, 14, .null, 1, 0),
  (14, .if_icmp .ge 35, 17, .null, 49, 0),
  (17, .iload 4, 19, .null, 4, 0),
  (19, .iload_n 2, 20, .null, 2, 0),
  (20, .if_icmp .ge 29, 23, .null, 49, 0),
  (23, .aload_n 0, 24, .null, 0, 0),
  (24, .invokevirtual 97, 27, .ref 1, 15, 0),
  (27, .iload 4, 29, .null, 4, 0),
  (29, .aload_n 0, 30, .null, 0, 0),
  (30, .invokevirtual 62, 33, .ref 1, 6, 0),
  (33, .iload_n 3, 34, .null, 3, 0),
  (34, .isub, 35, .null, 0, 0),
  (35, .invokestatic 116, 38, .retAddr 2, 0, 0),
  (38, .invokestatic 113, 41, .retAddr 0, 0, 0),
  (41, .istore 4, 43, .null, 4, 0),
  (43, .iinc 5 1, 46, .int (1), 5, 0),
  (46, .goto (-35), 49, .null, 11, 0),
  (49, .iload 4, 51, .null, 4, 0),
  (51, .ireturn, 52, .null, 0, 0)]
end
section
def tbX1_note : pm_Tb := [(0, .aload_n 0, 1, .null, 0, 0),
  (1, .getfield 21, 4, .null, 0, 1),
  (4, .bipush 6, 6, .int (6), 0, 0),
  (6, .if_icmp .lt 5, 9, .null, 11, 0),
  (9, .iconst 0, 10, .int (0), 0, 0),
  (10, .ireturn, 11, .null, 0, 0),
  (11, .aload_n 0, 12, .null, 0, 0),
  (12, .getfield 9, 15, .null, 1, 1),
  (15, .aload_n 0, 16, .null, 0, 0),
  (16, .getfield 21, 19, .null, 0, 1),
  (19, .iload_n 1, 20, .null, 1, 0),
  (20, .iastore, 21, .null, 0, 0),
  (21, .aload_n 0, 22, .null, 0, 0),
  (22, .getfield 15, 25, .null, 2, 1),
  (25, .aload_n 0, 26, .null, 0, 0),
  (26, .getfield 21, 29, .null, 0, 1),
  (29, .iload_n 2, 30, .null, 2, 0),
  (30, .iastore, 31, .null, 0, 0),
  (31, .aload_n 0, 32, .null, 0, 0),
  (32, .getfield 18, 35, .null, 3, 1),
  (35, .aload_n 0, 36, .null, 0, 0),
  (36, .getfield 21, 39, .null, 0, 1),
  (39, .iload_n 3, 40, .null, 3, 0),
  (40, .iastore, 41, .null, 0, 0),
  (41, .aload_n 0, 42, .null, 0, 0),
  (42, .dup, 43, .null, 0, 0),
  (43, .getfield 21, 46, .null, 0, 1),
  (46, .iconst 1, 47, .int (1), 0, 0),
  (47, .iadd, 48, .null, 0, 0),
  (48, .putfield 21, 51, .null, 0, 1),
  (51, .iconst 1, 52, .int (1), 0, 0),
  (52, .ireturn, 53, .null, 0, 0)]
def tbX1_isSoOf : pm_Tb := [(0, .aload_n 0, 1, .null, 0, 0),
  (1, .invokevirtual 25, 4, .ref 1, 24, 1),
  (4, .istore_n 2, 5, .null, 2, 0),
  (5, .iconst 0, 6, .int (0), 0, 0),
  (6, .istore_n 3, 7, .null, 3, 0),
  (7, .iload_n 3, 8, .null, 3, 0),
  (8, .iload_n 2, 9, .null, 2, 0),
  (9, .if_icmp .gt 24, 12, .null, 33, 0),
  (12, .aload_n 0, 13, .null, 0, 0),
  (13, .aload_n 1, 14, .null, 1, 0),
  (14, .iload_n 3, 15, .null, 3, 0),
  (15, .invokevirtual 29, 18, .ref 3, 25, 1),
  (18, .ifCond .ne 5, 21, .null, 23, 0),
  (21, .iconst 0, 22, .int (0), 0, 0),
  (22, .ireturn, 23, .null, 0, 0),
  (23, .aload_n 1, 24, .null, 1, 0),
  (24, .invokevirtual 33, 27, .ref 1, 15, 0),
  (27, .iinc 3 1, 30, .int (1), 3, 0),
  (30, .goto (-23), 33, .null, 7, 0),
  (33, .iconst 1, 34, .int (1), 0, 0),
  (34, .ireturn, 35, .null, 0, 0)]
def tbX1_latestTick : pm_Tb := [(0, .iconst (-1), 1, .int (-1), 0, 0),
  (1, .istore_n 1, 2, .null, 1, 0),
  (2, .iconst 0, 3, .int (0), 0, 0),
  (3, .istore_n 2, 4, .null, 2, 0),
  (4, .iload_n 2, 5, .null, 2, 0),
  (5, .aload_n 0, 6, .null, 0, 0),
  (6, .getfield 21, 9, .null, 0, 1),
  (9, .if_icmp .ge 20, 12, .null, 29, 0),
  (12, .iload_n 1, 13, .null, 1, 0),
  (13, .aload_n 0, 14, .null, 0, 0),
  (14, .getfield 9, 17, .null, 1, 1),
  (17, .iload_n 2, 18, .null, 2, 0),
  (18, .iaload, 19, .null, 0, 0),
  (19, .invokestatic 38, 22, .retAddr 0, 0, 0),
  (22, .istore_n 1, 23, .null, 1, 0),
  (23, .iinc 2 1, 26, .int (1), 2, 0),
  (26, .goto (-22), 29, .null, 4, 0),
  (29, .iload_n 1, 30, .null, 1, 0),
  (30, .ireturn, 31, .null, 0, 0)]
def tbX1_agrees : pm_Tb := [(0, .iconst 0, 1, .int (0), 0, 0),
  (1, .istore_n 3, 2, .null, 3, 0),
  (2, .iload_n 3, 3, .null, 3, 0),
  (3, .aload_n 0, 4, .null, 0, 0),
  (4, .getfield 21, 7, .null, 0, 1),
  (7, .if_icmp .ge 54, 10, .null, 61, 0),
  (10, .aload_n 0, 11, .null, 0, 0),
  (11, .getfield 9, 14, .null, 1, 1),
  (14, .iload_n 3, 15, .null, 3, 0),
  (15, .iaload, 16, .null, 0, 0),
  (16, .iload_n 2, 17, .null, 2, 0),
  (17, .if_icmp .ne 38, 20, .null, 55, 0),
  (20, .aload_n 1, 21, .null, 1, 0),
  (21, .aload_n 0, 22, .null, 0, 0),
  (22, .getfield 15, 25, .null, 2, 1),
  (25, .iload_n 3, 26, .null, 3, 0),
  (26, .iaload, 27, .null, 0, 0),
  (27, .invokevirtual 44, 30, .ref 2, 3, 0),
  (30, .ifCond .eq 23, 33, .null, 53, 0),
  (33, .aload_n 1, 34, .null, 1, 0),
  (34, .getfield 48, 37, .null, 8, 0),
  (37, .aload_n 0, 38, .null, 0, 0),
  (38, .getfield 15, 41, .null, 2, 1),
  (41, .iload_n 3, 42, .null, 3, 0),
  (42, .iaload, 43, .null, 0, 0),
  (43, .iaload, 44, .null, 0, 0),
  (44, .aload_n 0, 45, .null, 0, 0),
  (45, .getfield 18, 48, .null, 3, 1),
  (48, .iload_n 3, 49, .null, 3, 0),
  (49, .iaload, 50, .null, 0, 0),
  (50, .if_icmp .eq 5, 53, .null, 55, 0),
  (53, .iconst 0, 54, .int (0), 0, 0),
  (54, .ireturn, 55, .null, 0, 0),
  (55, .iinc 3 1, 58, .int (1), 3, 0),
  (58, .goto (-56), 61, .null, 2, 0),
  (61, .iconst 1, 62, .int (1), 0, 0),
  (62, .ireturn, 63, .null, 0, 0)]
def tbX2_isNothing : pm_Tb := [(0, .aload_n 0, 1, .null, 0, 0),
  (1, .getfield 16, 4, .null, 1, 2),
  (4, .iload_n 1, 5, .null, 1, 0),
  (5, .iaload, 6, .null, 0, 0),
  (6, .iconst (-1), 7, .int (-1), 0, 0),
  (7, .if_icmp .ne 7, 10, .null, 14, 0),
  (10, .iconst 1, 11, .int (1), 0, 0),
  (11, .goto 4, 14, .null, 15, 0),
  (14, .iconst 0, 15, .int (0), 0, 0),
  (15, .ireturn, 16, .null, 0, 0)]
def tbX2_make : pm_Tb := [(0, .aload_n 0, 1, .null, 0, 0),
  (1, .getfield 20, 4, .null, 2, 2),
  (4, .iload_n 1, 5, .null, 1, 0),
  (5, .iload_n 2, 6, .null, 2, 0),
  (6, .iastore, 7, .null, 0, 0),
  (7, .aload_n 0, 8, .null, 0, 0),
  (8, .getfield 16, 11, .null, 1, 2),
  (11, .iload_n 1, 12, .null, 1, 0),
  (12, .iload_n 3, 13, .null, 3, 0),
  (13, .iastore, 14, .null, 0, 0),
  (14, .iconst 0, 15, .int (0), 0, 0),
  (15, .istore 4, 17, .null, 4, 0),
  (17, .iload 4, 19, .null, 4, 0),
  (19, .iload_n 3, 20, .null, 3, 0),
  (20, .if_icmp .ge 19, 23, .null, 39, 0),
  (23, .aload_n 0, 24, .null, 0, 0),
  (24, .getfield 11, 27, .null, 0, 2),
  (27, .iload_n 1, 28, .null, 1, 0),
  (28, .aaload, 29, .null, 0, 0),
  (29, .iload 4, 31, .null, 4, 0),
  (31, .iconst 0, 32, .int (0), 0, 0),
  (32, .iastore, 33, .null, 0, 0),
  (33, .iinc 4 1, 36, .int (1), 4, 0),
  (36, .goto (-19), 39, .null, 17, 0),
  (39, .return_, 40, .null, 0, 0)]
def tbX2_put : pm_Tb := [(0, .aload_n 0, 1, .null, 0, 0),
  (1, .getfield 20, 4, .null, 2, 2),
  (4, .iload_n 1, 5, .null, 1, 0),
  (5, .iaload, 6, .null, 0, 0),
  (6, .lookupswitch 52 #[(0, 26), (1, 39)], 32, .null, 0, 0),
  (32, .aload_n 0, 33, .null, 0, 0),
  (33, .getfield 11, 36, .null, 0, 2),
  (36, .iload_n 1, 37, .null, 1, 0),
  (37, .aaload, 38, .null, 0, 0),
  (38, .iload_n 2, 39, .null, 2, 0),
  (39, .iload_n 3, 40, .null, 3, 0),
  (40, .i2b, 41, .null, 0, 0),
  (41, .iastore, 42, .null, 0, 0),
  (42, .goto 25, 45, .null, 67, 0),
  (45, .aload_n 0, 46, .null, 0, 0),
  (46, .getfield 11, 49, .null, 0, 2),
  (49, .iload_n 1, 50, .null, 1, 0),
  (50, .aaload, 51, .null, 0, 0),
  (51, .iload_n 2, 52, .null, 2, 0),
  (52, .iload_n 3, 53, .null, 3, 0),
  (53, .i2s, 54, .null, 0, 0),
  (54, .iastore, 55, .null, 0, 0),
  (55, .goto 12, 58, .null, 67, 0),
  (58, .aload_n 0, 59, .null, 0, 0),
  (59, .getfield 11, 62, .null, 0, 2),
  (62, .iload_n 1, 63, .null, 1, 0),
  (63, .aaload, 64, .null, 0, 0),
  (64, .iload_n 2, 65, .null, 2, 0),
  (65, .iload_n 3, 66, .null, 3, 0),
  (66, .iastore, 67, .null, 0, 0),
  (67, .return_, 68, .null, 0, 0)]
def tbX2_faultAt : pm_Tb := [(0, .aload_n 0, 1, .null, 0, 0),
  (1, .iload_n 1, 2, .null, 1, 0),
  (2, .invokevirtual 23, 5, .ref 2, 26, 2),
  (5, .ifCond .eq 5, 8, .null, 10, 0),
  (8, .iconst 1, 9, .int (1), 0, 0),
  (9, .ireturn, 10, .null, 0, 0),
  (10, .iload_n 2, 11, .null, 2, 0),
  (11, .iconst 0, 12, .int (0), 0, 0),
  (12, .aload_n 0, 13, .null, 0, 0),
  (13, .getfield 16, 16, .null, 1, 2),
  (16, .iload_n 1, 17, .null, 1, 0),
  (17, .iaload, 18, .null, 0, 0),
  (18, .iconst 1, 19, .int (1), 0, 0),
  (19, .isub, 20, .null, 0, 0),
  (20, .invokestatic 27, 23, .ref 3, 97, 0),
  (23, .ifCond .eq 7, 26, .null, 30, 0),
  (26, .iconst 0, 27, .int (0), 0, 0),
  (27, .goto 4, 30, .null, 31, 0),
  (30, .iconst 2, 31, .int (2), 0, 0),
  (31, .ireturn, 32, .null, 0, 0)]
def tbX2_faultAs : pm_Tb := [(0, .aload_n 0, 1, .null, 0, 0),
  (1, .iload_n 1, 2, .null, 1, 0),
  (2, .invokevirtual 23, 5, .ref 2, 26, 2),
  (5, .ifCond .ne 13, 8, .null, 18, 0),
  (8, .aload_n 0, 9, .null, 0, 0),
  (9, .getfield 20, 12, .null, 2, 2),
  (12, .iload_n 1, 13, .null, 1, 0),
  (13, .iaload, 14, .null, 0, 0),
  (14, .iload_n 2, 15, .null, 2, 0),
  (15, .if_icmp .ne 7, 18, .null, 22, 0),
  (18, .iconst 0, 19, .int (0), 0, 0),
  (19, .goto 4, 22, .null, 23, 0),
  (22, .iconst 3, 23, .int (3), 0, 0),
  (23, .ireturn, 24, .null, 0, 0)]
def tbX2_faultOfPair : pm_Tb := [(0, .aload_n 0, 1, .null, 0, 0),
  (1, .iload_n 1, 2, .null, 1, 0),
  (2, .iload_n 2, 3, .null, 2, 0),
  (3, .invokevirtual 31, 6, .ref 3, 30, 2),
  (6, .istore 5, 8, .null, 5, 0),
  (8, .iload 5, 10, .null, 5, 0),
  (10, .ifCond .ne 11, 13, .null, 21, 0),
  (13, .aload_n 0, 14, .null, 0, 0),
  (14, .iload_n 1, 15, .null, 1, 0),
  (15, .iload_n 3, 16, .null, 3, 0),
  (16, .invokevirtual 35, 19, .ref 3, 29, 2),
  (19, .istore 5, 21, .null, 5, 0),
  (21, .iload 5, 23, .null, 5, 0),
  (23, .ifCond .eq 8, 26, .null, 31, 0),
  (26, .iload 5, 28, .null, 5, 0),
  (28, .goto 16, 31, .null, 44, 0),
  (31, .aload_n 0, 32, .null, 0, 0),
  (32, .iload_n 1, 33, .null, 1, 0),
  (33, .iload_n 3, 34, .null, 3, 0),
  (34, .iconst 2, 35, .int (2), 0, 0),
  (35, .iload 4, 37, .null, 4, 0),
  (37, .imul, 38, .null, 0, 0),
  (38, .iadd, 39, .null, 0, 0),
  (39, .iconst 1, 40, .int (1), 0, 0),
  (40, .iadd, 41, .null, 0, 0),
  (41, .invokevirtual 35, 44, .ref 3, 29, 2),
  (44, .ireturn, 45, .null, 0, 0)]
def tbX3_put : pm_Tb := [(0, .aload_n 0, 1, .null, 0, 0),
  (1, .getfield 15, 4, .null, 1, 3),
  (4, .sipush 160, 7, .int (160), 0, 0),
  (7, .if_icmp .lt 5, 10, .null, 12, 0),
  (10, .iconst 0, 11, .int (0), 0, 0),
  (11, .ireturn, 12, .null, 0, 0),
  (12, .aload_n 0, 13, .null, 0, 0),
  (13, .getfield 11, 16, .null, 0, 3),
  (16, .aload_n 0, 17, .null, 0, 0),
  (17, .getfield 15, 20, .null, 1, 3),
  (20, .iload_n 1, 21, .null, 1, 0),
  (21, .i2b, 22, .null, 0, 0),
  (22, .bastore, 23, .null, 0, 0),
  (23, .aload_n 0, 24, .null, 0, 0),
  (24, .dup, 25, .null, 0, 0),
  (25, .getfield 15, 28, .null, 1, 3),
  (28, .iconst 1, 29, .int (1), 0, 0),
  (29, .iadd, 30, .null, 0, 0),
  (30, .putfield 15, 33, .null, 1, 3),
  (33, .iconst 1, 34, .int (1), 0, 0),
  (34, .ireturn, 35, .null, 0, 0)]
def tbX3_tellInto : pm_Tb := [(0, .aload_n 1, 1, .null, 1, 0),
  (1, .invokevirtual 19, 4, .ref 1, 1, 0),
  (4, .aload_n 0, 5, .null, 0, 0),
  (5, .iconst 0, 6, .int (0), 0, 0),
  (6, .putfield 24, 9, .null, 2, 3),
  (9, .aload_n 0, 10, .null, 0, 0),
  (10, .iconst 0, 11, .int (0), 0, 0),
  (11, .putfield 27, 14, .null, 3, 3),
  (14, .aload_n 0, 15, .null, 0, 0),
  (15, .iconst 0, 16, .int (0), 0, 0),
  (16, .putfield 30, 19, .null, 6, 3),
  (19, .aload_n 0, 20, .null, 0, 0),
  (20, .iconst 0, 21, .int (0), 0, 0),
  (21, .putfield 33, 24, .null, 7, 3),
  (24, .iconst 0, 25, .int (0), 0, 0),
  (25, .istore_n 2, 26, .null, 2, 0),
  (26, .iconst 0, 27, .int (0), 0, 0),
  (27, .istore_n 3, 28, .null, 3, 0),
  (28, .iload_n 3, 29, .null, 3, 0),
  (29, .sipush 160, 32, .int (160), 0, 0),
  (32, .if_icmp .gt 40, 35, .null, 72, 0),
  (35, .aload_n 0, 36, .null, 0, 0),
  (36, .invokevirtual 37, 39, .ref 1, 41, 3),
  (39, .aload_n 0, 40, .null, 0, 0),
  (40, .getfield 40, 43, .null, 4, 3),
  (43, .iconst 4, 44, .int (4), 0, 0),
  (44, .if_icmp .ne 5, 47, .null, 49, 0),
  (47, .iload_n 2, 48, .null, 2, 0),
  (48, .ireturn, 49, .null, 0, 0),
  (49, .aload_n 0, 50, .null, 0, 0),
  (50, .aload_n 1, 51, .null, 1, 0),
  (51, .invokevirtual 43, 54, .ref 2, 35, 3),
  (54, .aload_n 0, 55, .null, 0, 0),
  (55, .getfield 24, 58, .null, 2, 3),
  (58, .ifCond .eq 5, 61, .null, 63, 0),
  (61, .iload_n 2, 62, .null, 2, 0),
  (62, .ireturn, 63, .null, 0, 0),
  (63, .iinc 2 1, 66, .int (1), 2, 0),
  (66, .iinc 3 1, 69, .int (1), 3, 0),
  (69, .goto (-41), 72, .null, 28, 0),
  (72, .iload_n 2, 73, .null, 2, 0),
  (73, .ireturn, 74, .null, 0, 0)]
def tbX3_blame : pm_Tb := [(0, .aload_n 0, 1, .null, 0, 0),
  (1, .getfield 24, 4, .null, 2, 3),
  (4, .ifCond .ne 16, 7, .null, 20, 0),
  (7, .aload_n 0, 8, .null, 0, 0),
  (8, .iload_n 1, 9, .null, 1, 0),
  (9, .putfield 24, 12, .null, 2, 3),
  (12, .aload_n 0, 13, .null, 0, 0),
  (13, .aload_n 0, 14, .null, 0, 0),
  (14, .getfield 47, 17, .null, 5, 3),
  (17, .putfield 27, 20, .null, 3, 3),
  (20, .return_, 21, .null, 0, 0)]
def tbX3_takeLine : pm_Tb := [(0, .aload_n 0, 1, .null, 0, 0),
  (1, .getfield 40, 4, .null, 4, 3),
  (4, .iconst 1, 5, .int (1), 0, 0),
  (5, .if_icmp .ne 10, 8, .null, 15, 0),
  (8, .aload_n 0, 9, .null, 0, 0),
  (9, .invokevirtual 50, 12, .ref 1, 0, 3),
  (12, .goto 5, 15, .null, 17, 0),
  (15, .bipush 7, 17, .int (7), 0, 0),
  (17, .istore_n 2, 18, .null, 2, 0),
  (18, .iload_n 2, 19, .null, 2, 0),
  (19, .bipush 7, 21, .int (7), 0, 0),
  (21, .if_icmp .ne 11, 24, .null, 32, 0),
  (24, .aload_n 0, 25, .null, 0, 0),
  (25, .iconst 2, 26, .int (2), 0, 0),
  (26, .invokevirtual 54, 29, .ref 2, 34, 3),
  (29, .goto 52, 32, .null, 81, 0),
  (32, .iload_n 2, 33, .null, 2, 0),
  (33, .iconst 4, 34, .int (4), 0, 0),
  (34, .if_icmp .ne 11, 37, .null, 45, 0),
  (37, .aload_n 0, 38, .null, 0, 0),
  (38, .aload_n 1, 39, .null, 1, 0),
  (39, .invokevirtual 58, 42, .ref 2, 37, 3),
  (42, .goto 39, 45, .null, 81, 0),
  (45, .iload_n 2, 46, .null, 2, 0),
  (46, .iconst 5, 47, .int (5), 0, 0),
  (47, .if_icmp .eq 9, 50, .null, 56, 0),
  (50, .iload_n 2, 51, .null, 2, 0),
  (51, .bipush 6, 53, .int (6), 0, 0),
  (53, .if_icmp .ne 22, 56, .null, 75, 0),
  (56, .aload_n 0, 57, .null, 0, 0),
  (57, .aload_n 1, 58, .null, 1, 0),
  (58, .iload_n 2, 59, .null, 2, 0),
  (59, .bipush 6, 61, .int (6), 0, 0),
  (61, .if_icmp .ne 7, 64, .null, 68, 0),
  (64, .iconst 1, 65, .int (1), 0, 0),
  (65, .goto 4, 68, .null, 69, 0),
  (68, .iconst 0, 69, .int (0), 0, 0),
  (69, .invokevirtual 61, 72, .ref 3, 38, 3),
  (72, .goto 9, 75, .null, 81, 0),
  (75, .aload_n 0, 76, .null, 0, 0),
  (76, .aload_n 1, 77, .null, 1, 0),
  (77, .iload_n 2, 78, .null, 2, 0),
  (78, .invokevirtual 65, 81, .ref 3, 36, 3),
  (81, .return_, 82, .null, 0, 0)]
def tbX3_takeBead : pm_Tb := [(0, .aload_n 1, 1, .null, 1, 0),
  (1, .getfield 69, 4, .null, 0, 0),
  (4, .iconst 4, 5, .int (4), 0, 0),
  (5, .if_icmp .lt 8, 8, .null, 13, 0),
  (8, .aload_n 0, 9, .null, 0, 0),
  (9, .iconst 5, 10, .int (5), 0, 0),
  (10, .invokevirtual 54, 13, .ref 2, 34, 3),
  (13, .aload_n 0, 14, .null, 0, 0),
  (14, .getstatic 72, 17, .ref 80, 0, 0),
  (17, .iconst 1, 18, .int (1), 0, 0),
  (18, .iaload, 19, .null, 0, 0),
  (19, .getstatic 76, 22, .ref 81, 0, 0),
  (22, .iconst 1, 23, .int (1), 0, 0),
  (23, .iaload, 24, .null, 0, 0),
  (24, .invokevirtual 79, 27, .ref 3, 39, 3),
  (27, .istore_n 3, 28, .null, 3, 0),
  (28, .aload_n 0, 29, .null, 0, 0),
  (29, .getstatic 72, 32, .ref 80, 0, 0),
  (32, .iconst 2, 33, .int (2), 0, 0),
  (33, .iaload, 34, .null, 0, 0),
  (34, .getstatic 76, 37, .ref 81, 0, 0),
  (37, .iconst 2, 38, .int (2), 0, 0),
  (38, .iaload, 39, .null, 0, 0),
  (39, .invokevirtual 79, 42, .ref 3, 39, 3),
  (42, .istore 4, 44, .null, 4, 0),
  (44, .aload_n 0, 45, .null, 0, 0),
  (45, .getstatic 72, 48, .ref 80, 0, 0),
  (48, .iconst 3, 49, .int (3), 0, 0),
  (49, .iaload, 50, .null, 0, 0),
  (50, .getstatic 76, 53, .ref 81, 0, 0),
  (53, .iconst 3, 54, .int (3), 0, 0),
  (54, .iaload, 55, .null, 0, 0),
  (55, .invokevirtual 79, 58, .ref 3, 39, 3),
  (58, .istore 5, 60, .null, 5, 0),
  (60, .aload_n 0, 61, .null, 0, 0),
  (61, .invokevirtual 83, 64, .ref 1, 40, 3),
  (64, .aload_n 0, 65, .null, 0, 0),
  (65, .getfield 24, 68, .null, 2, 3),
  (68, .ifCond .ne 14, 71, .null, 82, 0),
  (71, .aload_n 1, 72, .null, 1, 0),
  (72, .iload_n 2, 73, .null, 2, 0),
  (73, .iload_n 3, 74, .null, 3, 0),
  (74, .iload 4, 76, .null, 4, 0),
  (76, .iload 5, 78, .null, 5, 0),
  (78, .invokevirtual 86, 81, .ref 5, 8, 0),
  (81, .pop, 82, .null, 0, 0),
  (82, .return_, 83, .null, 0, 0)]
def tbX3_takeDrag : pm_Tb := [(0, .aload_n 0, 1, .null, 0, 0),
  (1, .getfield 33, 4, .null, 7, 3),
  (4, .ifCond .eq 8, 7, .null, 12, 0),
  (7, .aload_n 0, 8, .null, 0, 0),
  (8, .iconst 4, 9, .int (4), 0, 0),
  (9, .invokevirtual 54, 12, .ref 2, 34, 3),
  (12, .aload_n 0, 13, .null, 0, 0),
  (13, .iconst 1, 14, .int (1), 0, 0),
  (14, .putfield 33, 17, .null, 7, 3),
  (17, .aload_n 0, 18, .null, 0, 0),
  (18, .iconst 0, 19, .int (0), 0, 0),
  (19, .iconst 3, 20, .int (3), 0, 0),
  (20, .invokevirtual 79, 23, .ref 3, 39, 3),
  (23, .istore_n 2, 24, .null, 2, 0),
  (24, .aload_n 0, 25, .null, 0, 0),
  (25, .invokevirtual 83, 28, .ref 1, 40, 3),
  (28, .aload_n 0, 29, .null, 0, 0),
  (29, .getfield 24, 32, .null, 2, 3),
  (32, .ifCond .ne 8, 35, .null, 40, 0),
  (35, .aload_n 1, 36, .null, 1, 0),
  (36, .iload_n 2, 37, .null, 2, 0),
  (37, .putfield 90, 40, .null, 2, 0),
  (40, .return_, 41, .null, 0, 0)]
def tbX3_takeKnock : pm_Tb := [(0, .aload_n 1, 1, .null, 1, 0),
  (1, .getfield 93, 4, .null, 1, 0),
  (4, .bipush 12, 6, .int (12), 0, 0),
  (6, .if_icmp .lt 8, 9, .null, 14, 0),
  (9, .aload_n 0, 10, .null, 0, 0),
  (10, .iconst 5, 11, .int (5), 0, 0),
  (11, .invokevirtual 54, 14, .ref 2, 34, 3),
  (14, .aload_n 0, 15, .null, 0, 0),
  (15, .iconst 0, 16, .int (0), 0, 0),
  (16, .iconst 3, 17, .int (3), 0, 0),
  (17, .invokevirtual 79, 20, .ref 3, 39, 3),
  (20, .istore_n 3, 21, .null, 3, 0),
  (21, .aload_n 0, 22, .null, 0, 0),
  (22, .iconst 0, 23, .int (0), 0, 0),
  (23, .bipush 9, 25, .int (9), 0, 0),
  (25, .invokevirtual 79, 28, .ref 3, 39, 3),
  (28, .istore 4, 30, .null, 4, 0),
  (30, .aload_n 0, 31, .null, 0, 0),
  (31, .invokevirtual 83, 34, .ref 1, 40, 3),
  (34, .aload_n 0, 35, .null, 0, 0),
  (35, .getfield 24, 38, .null, 2, 3),
  (38, .ifCond .ne 21, 41, .null, 59, 0),
  (41, .aload_n 1, 42, .null, 1, 0),
  (42, .iload_n 3, 43, .null, 3, 0),
  (43, .iload_n 2, 44, .null, 2, 0),
  (44, .ifCond .eq 9, 47, .null, 53, 0),
  (47, .iload 4, 49, .null, 4, 0),
  (49, .ineg, 50, .null, 0, 0),
  (50, .goto 5, 53, .null, 55, 0),
  (53, .iload 4, 55, .null, 4, 0),
  (55, .invokevirtual 96, 58, .ref 3, 9, 0),
  (58, .pop, 59, .null, 0, 0),
  (59, .return_, 60, .null, 0, 0)]
def tbX3_takeNumber : pm_Tb := [(0, .aload_n 0, 1, .null, 0, 0),
  (1, .invokevirtual 37, 4, .ref 1, 41, 3),
  (4, .aload_n 0, 5, .null, 0, 0),
  (5, .getfield 40, 8, .null, 4, 3),
  (8, .iconst 2, 9, .int (2), 0, 0),
  (9, .if_icmp .eq 10, 12, .null, 19, 0),
  (12, .aload_n 0, 13, .null, 0, 0),
  (13, .iconst 2, 14, .int (2), 0, 0),
  (14, .invokevirtual 54, 17, .ref 2, 34, 3),
  (17, .iload_n 1, 18, .null, 1, 0),
  (18, .ireturn, 19, .null, 0, 0),
  (19, .aload_n 0, 20, .null, 0, 0),
  (20, .invokevirtual 100, 23, .ref 1, 43, 3),
  (23, .istore_n 3, 24, .null, 3, 0),
  (24, .iload_n 3, 25, .null, 3, 0),
  (25, .iload_n 1, 26, .null, 1, 0),
  (26, .iload_n 2, 27, .null, 2, 0),
  (27, .invokestatic 103, 30, .ref 3, 97, 0),
  (30, .ifCond .ne 8, 33, .null, 38, 0),
  (33, .aload_n 0, 34, .null, 0, 0),
  (34, .iconst 3, 35, .int (3), 0, 0),
  (35, .invokevirtual 54, 38, .ref 2, 34, 3),
  (38, .iload_n 3, 39, .null, 3, 0),
  (39, .ireturn, 40, .null, 0, 0)]
def tbX3_takeSemicolon : pm_Tb := [(0, .aload_n 0, 1, .null, 0, 0),
  (1, .invokevirtual 37, 4, .ref 1, 41, 3),
  (4, .aload_n 0, 5, .null, 0, 0),
  (5, .getfield 40, 8, .null, 4, 3),
  (8, .iconst 3, 9, .int (3), 0, 0),
  (9, .if_icmp .eq 8, 12, .null, 17, 0),
  (12, .aload_n 0, 13, .null, 0, 0),
  (13, .iconst 2, 14, .int (2), 0, 0),
  (14, .invokevirtual 54, 17, .ref 2, 34, 3),
  (17, .return_, 18, .null, 0, 0)]
def tbX3_readToken : pm_Tb := [(0, .aload_n 0, 1, .null, 0, 0),
  (1, .aload_n 0, 2, .null, 0, 0),
  (2, .getfield 30, 5, .null, 6, 3),
  (5, .putfield 47, 8, .null, 5, 3),
  (8, .aload_n 0, 9, .null, 0, 0),
  (9, .getfield 47, 12, .null, 5, 3),
  (12, .aload_n 0, 13, .null, 0, 0),
  (13, .getfield 15, 16, .null, 1, 3),
  (16, .if_icmp .ge 30, 19, .null, 46, 0),
  (19, .aload_n 0, 20, .null, 0, 0),
  (20, .getfield 11, 23, .null, 0, 3),
  (23, .aload_n 0, 24, .null, 0, 0),
  (24, .getfield 47, 27, .null, 5, 3),
  (27, .baload, 28, .null, 0, 0),
  (28, .bipush 32, 30, .int (32), 0, 0),
  (30, .if_icmp .ne 16, 33, .null, 46, 0),
  (33, .aload_n 0, 34, .null, 0, 0),
  (34, .dup, 35, .null, 0, 0),
  (35, .getfield 47, 38, .null, 5, 3),
  (38, .iconst 1, 39, .int (1), 0, 0),
  (39, .iadd, 40, .null, 0, 0),
  (40, .putfield 47, 43, .null, 5, 3),
  (43, .goto (-35), 46, .null, 8, 0),
  (46, .aload_n 0, 47, .null, 0, 0),
  (47, .bipush 97, 49, .int (97), 0, 0),
  (49, .bipush 122, 51, .int (122), 0, 0),
  (51, .invokevirtual 107, 54, .ref 3, 42, 3),
  (54, .istore_n 1, 55, .null, 1, 0),
  (55, .aload_n 0, 56, .null, 0, 0),
  (56, .bipush 48, 58, .int (48), 0, 0),
  (58, .bipush 57, 60, .int (57), 0, 0),
  (60, .invokevirtual 107, 63, .ref 3, 42, 3),
  (63, .istore_n 2, 64, .null, 2, 0),
  (64, .aload_n 0, 65, .null, 0, 0),
  (65, .aload_n 0, 66, .null, 0, 0),
  (66, .getfield 47, 69, .null, 5, 3),
  (69, .iconst 1, 70, .int (1), 0, 0),
  (70, .iload_n 1, 71, .null, 1, 0),
  (71, .iload_n 2, 72, .null, 2, 0),
  (72, .iadd, 73, .null, 0, 0),
  (73, .invokestatic 111, 76, .retAddr 0, 0, 0),
  (76, .iadd, 77, .null, 0, 0),
  (77, .putfield 30, 80, .null, 6, 3),
  (80, .aload_n 0, 81, .null, 0, 0),
  (81, .getfield 47, 84, .null, 5, 3),
  (84, .aload_n 0, 85, .null, 0, 0),
  (85, .getfield 15, 88, .null, 1, 3),
  (88, .if_icmp .lt 19, 91, .null, 107, 0),
  (91, .aload_n 0, 92, .null, 0, 0),
  (92, .iconst 4, 93, .int (4), 0, 0),
  (93, .putfield 40, 96, .null, 4, 3),
  (96, .aload_n 0, 97, .null, 0, 0),
  (97, .aload_n 0, 98, .null, 0, 0),
  (98, .getfield 47, 101, .null, 5, 3),
  (101, .putfield 30, 104, .null, 6, 3),
  (104, .goto 59, 107, .null, 163, 0),
  (107, .iload_n 1, 108, .null, 1, 0),
  (108, .ifCond .le 11, 111, .null, 119, 0),
  (111, .aload_n 0, 112, .null, 0, 0),
  (112, .iconst 1, 113, .int (1), 0, 0),
  (113, .putfield 40, 116, .null, 4, 3),
  (116, .goto 47, 119, .null, 163, 0),
  (119, .iload_n 2, 120, .null, 2, 0),
  (120, .ifCond .le 20, 123, .null, 140, 0),
  (123, .aload_n 0, 124, .null, 0, 0),
  (124, .iload_n 2, 125, .null, 2, 0),
  (125, .iconst 2, 126, .int (2), 0, 0),
  (126, .if_icmp .gt 7, 129, .null, 133, 0),
  (129, .iconst 2, 130, .int (2), 0, 0),
  (130, .goto 4, 133, .null, 134, 0),
  (133, .iconst 0, 134, .int (0), 0, 0),
  (134, .putfield 40, 137, .null, 4, 3),
  (137, .goto 26, 140, .null, 163, 0),
  (140, .aload_n 0, 141, .null, 0, 0),
  (141, .aload_n 0, 142, .null, 0, 0),
  (142, .getfield 11, 145, .null, 0, 3),
  (145, .aload_n 0, 146, .null, 0, 0),
  (146, .getfield 47, 149, .null, 5, 3),
  (149, .baload, 150, .null, 0, 0),
  (150, .bipush 59, 152, .int (59), 0, 0),
  (152, .if_icmp .ne 7, 155, .null, 159, 0),
  (155, .iconst 3, 156, .int (3), 0, 0),
  (156, .goto 4, 159, .null, 160, 0),
  (159, .iconst 0, 160, .int (0), 0, 0),
  (160, .putfield 40, 163, .null, 4, 3),
  (163, .aload_n 0, 164, .null, 0, 0),
  (164, .getfield 40, 167, .null, 4, 3),
  (167, .ifCond .ne 8, 170, .null, 175, 0),
  (170, .aload_n 0, 171, .null, 0, 0),
  (171, .iconst 1, 172, .int (1), 0, 0),
  (172, .invokevirtual 54, 175, .ref 2, 34, 3),
  (175, .return_, 176, .null, 0, 0)]
def tbX3_runOf : pm_Tb := [(0, .aload_n 0, 1, .null, 0, 0),
  (1, .getfield 47, 4, .null, 5, 3),
  (4, .istore_n 3, 5, .null, 3, 0),
  (5, .iload_n 3, 6, .null, 3, 0),
  (6, .aload_n 0, 7, .null, 0, 0),
  (7, .getfield 15, 10, .null, 1, 3),
  (10, .if_icmp .ge 29, 13, .null, 39, 0),
  (13, .aload_n 0, 14, .null, 0, 0),
  (14, .getfield 11, 17, .null, 0, 3),
  (17, .iload_n 3, 18, .null, 3, 0),
  (18, .baload, 19, .null, 0, 0),
  (19, .iload_n 1, 20, .null, 1, 0),
  (20, .if_icmp .lt 19, 23, .null, 39, 0),
  (23, .aload_n 0, 24, .null, 0, 0),
  (24, .getfield 11, 27, .null, 0, 3),
  (27, .iload_n 3, 28, .null, 3, 0),
  (28, .baload, 29, .null, 0, 0),
  (29, .iload_n 2, 30, .null, 2, 0),
  (30, .if_icmp .gt 9, 33, .null, 39, 0),
  (33, .iinc 3 1, 36, .int (1), 3, 0),
  (36, .goto (-31), 39, .null, 5, 0),
  (39, .iload_n 3, 40, .null, 3, 0),
  (40, .aload_n 0, 41, .null, 0, 0),
  (41, .getfield 47, 44, .null, 5, 3),
  (44, .isub, 45, .null, 0, 0),
  (45, .ireturn, 46, .null, 0, 0)]
def tbX3_numberRead : pm_Tb := [(0, .iconst 0, 1, .int (0), 0, 0),
  (1, .istore_n 1, 2, .null, 1, 0),
  (2, .aload_n 0, 3, .null, 0, 0),
  (3, .getfield 47, 6, .null, 5, 3),
  (6, .istore_n 2, 7, .null, 2, 0),
  (7, .iload_n 2, 8, .null, 2, 0),
  (8, .aload_n 0, 9, .null, 0, 0),
  (9, .getfield 30, 12, .null, 6, 3),
  (12, .if_icmp .ge 24, 15, .null, 36, 0),
  (15, .bipush 10, 17, .int (10), 0, 0),
  (17, .iload_n 1, 18, .null, 1, 0),
  (18, .imul, 19, .null, 0, 0),
  (19, .aload_n 0, 20, .null, 0, 0),
  (20, .getfield 11, 23, .null, 0, 3),
  (23, .iload_n 2, 24, .null, 2, 0),
  (24, .baload, 25, .null, 0, 0),
  (25, .iadd, 26, .null, 0, 0),
  (26, .bipush 48, 28, .int (48), 0, 0),
  (28, .isub, 29, .null, 0, 0),
  (29, .istore_n 1, 30, .null, 1, 0),
  (30, .iinc 2 1, 33, .int (1), 2, 0),
  (33, .goto (-26), 36, .null, 7, 0),
  (36, .iload_n 1, 37, .null, 1, 0),
  (37, .ireturn, 38, .null, 0, 0)]
end
section
def tbX4_feed : pm_Tb := [(0, .iload_n 1, 1, .null, 1, 0),
  (1, .iconst 0, 2, .int (0), 0, 0),
  (2, .bipush 127, 4, .int (127), 0, 0),
  (4, .invokestatic 59, 7, .ref 3, 97, 0),
  (7, .ifCond .ne 5, 10, .null, 12, 0),
  (10, .iconst (-1), 11, .int (-1), 0, 0),
  (11, .ireturn, 12, .null, 0, 0),
  (12, .aload_n 0, 13, .null, 0, 0),
  (13, .getfield 32, 16, .null, 5, 4),
  (16, .iload_n 1, 17, .null, 1, 0),
  (17, .invokevirtual 63, 20, .ref 2, 32, 3),
  (20, .ifCond .eq 13, 23, .null, 33, 0),
  (23, .aload_n 0, 24, .null, 0, 0),
  (24, .getfield 32, 27, .null, 5, 4),
  (27, .getfield 67, 30, .null, 1, 3),
  (30, .goto 5, 33, .null, 35, 0),
  (33, .bipush (-3), 35, .int (-3), 0, 0),
  (35, .ireturn, 36, .null, 0, 0)]
def tbX4_end : pm_Tb := [(0, .aload_n 0, 1, .null, 0, 0),
  (1, .getfield 32, 4, .null, 5, 4),
  (4, .getfield 67, 7, .null, 1, 3),
  (7, .istore_n 2, 8, .null, 2, 0),
  (8, .iload_n 1, 9, .null, 1, 0),
  (9, .iconst 0, 10, .int (0), 0, 0),
  (10, .iload_n 2, 11, .null, 2, 0),
  (11, .invokestatic 59, 14, .ref 3, 97, 0),
  (14, .ifCond .ne 5, 17, .null, 19, 0),
  (17, .iconst (-1), 18, .int (-1), 0, 0),
  (18, .ireturn, 19, .null, 0, 0),
  (19, .aload_n 0, 20, .null, 0, 0),
  (20, .getfield 32, 23, .null, 5, 4),
  (23, .iload_n 1, 24, .null, 1, 0),
  (24, .putfield 67, 27, .null, 1, 3),
  (27, .iload_n 2, 28, .null, 2, 0),
  (28, .ireturn, 29, .null, 0, 0)]
def tbX4_text : pm_Tb := [(0, .aload_n 0, 1, .null, 0, 0),
  (1, .getfield 32, 4, .null, 5, 4),
  (4, .aload_n 0, 5, .null, 0, 0),
  (5, .getfield 16, 8, .null, 1, 4),
  (8, .invokevirtual 70, 11, .ref 2, 33, 3),
  (11, .istore_n 1, 12, .null, 1, 0),
  (12, .aload_n 0, 13, .null, 0, 0),
  (13, .getfield 32, 16, .null, 5, 4),
  (16, .iconst 0, 17, .int (0), 0, 0),
  (17, .putfield 67, 20, .null, 1, 3),
  (20, .aload_n 0, 21, .null, 0, 0),
  (21, .getfield 32, 24, .null, 5, 4),
  (24, .getfield 74, 27, .null, 2, 3),
  (27, .ifCond .eq 14, 30, .null, 41, 0),
  (30, .bipush (-10), 32, .int (-10), 0, 0),
  (32, .aload_n 0, 33, .null, 0, 0),
  (33, .getfield 32, 36, .null, 5, 4),
  (36, .getfield 77, 39, .null, 3, 3),
  (39, .isub, 40, .null, 0, 0),
  (40, .ireturn, 41, .null, 0, 0),
  (41, .aload_n 0, 42, .null, 0, 0),
  (42, .getfield 12, 45, .null, 0, 4),
  (45, .aload_n 0, 46, .null, 0, 0),
  (46, .getfield 16, 49, .null, 1, 4),
  (49, .invokevirtual 80, 52, .ref 2, 2, 0),
  (52, .aload_n 0, 53, .null, 0, 0),
  (53, .getfield 39, 56, .null, 6, 4),
  (56, .iconst 0, 57, .int (0), 0, 0),
  (57, .putfield 84, 60, .null, 0, 1),
  (60, .aload_n 0, 61, .null, 0, 0),
  (61, .getfield 25, 64, .null, 4, 4),
  (64, .iconst 0, 65, .int (0), 0, 0),
  (65, .iconst 0, 66, .int (0), 0, 0),
  (66, .bastore, 67, .null, 0, 0),
  (67, .aload_n 0, 68, .null, 0, 0),
  (68, .getfield 25, 71, .null, 4, 4),
  (71, .iconst 1, 72, .int (1), 0, 0),
  (72, .iconst 0, 73, .int (0), 0, 0),
  (73, .bastore, 74, .null, 0, 0),
  (74, .iload_n 1, 75, .null, 1, 0),
  (75, .ireturn, 76, .null, 0, 0)]
def tbX4_fault : pm_Tb := [(0, .aload_n 0, 1, .null, 0, 0),
  (1, .getfield 32, 4, .null, 5, 4),
  (4, .getfield 74, 7, .null, 2, 3),
  (7, .ireturn, 8, .null, 0, 0)]
def tbX4_rule : pm_Tb := [(0, .iload_n 1, 1, .null, 1, 0),
  (1, .tableswitch 87 0 5 #[39, 47, 55, 63, 71, 79], 40, .null, 88, 0),
  (40, .aload_n 0, 41, .null, 0, 0),
  (41, .getfield 12, 44, .null, 0, 4),
  (44, .getfield 87, 47, .null, 0, 0),
  (47, .ireturn, 48, .null, 0, 0),
  (48, .aload_n 0, 49, .null, 0, 0),
  (49, .getfield 12, 52, .null, 0, 4),
  (52, .getfield 90, 55, .null, 1, 0),
  (55, .ireturn, 56, .null, 0, 0),
  (56, .aload_n 0, 57, .null, 0, 0),
  (57, .getfield 12, 60, .null, 0, 4),
  (60, .getfield 93, 63, .null, 3, 0),
  (63, .ireturn, 64, .null, 0, 0),
  (64, .aload_n 0, 65, .null, 0, 0),
  (65, .getfield 12, 68, .null, 0, 4),
  (68, .getfield 96, 71, .null, 2, 0),
  (71, .ireturn, 72, .null, 0, 0),
  (72, .aload_n 0, 73, .null, 0, 0),
  (73, .getfield 12, 76, .null, 0, 4),
  (76, .invokevirtual 99, 79, .ref 1, 7, 0),
  (79, .ireturn, 80, .null, 0, 0),
  (80, .aload_n 0, 81, .null, 0, 0),
  (81, .getfield 12, 84, .null, 0, 4),
  (84, .invokevirtual 103, 87, .ref 1, 6, 0),
  (87, .ireturn, 88, .null, 0, 0),
  (88, .iconst (-1), 89, .int (-1), 0, 0),
  (89, .ireturn, 90, .null, 0, 0)]
def tbX4_bead : pm_Tb := [(0, .aload_n 0, 1, .null, 0, 0),
  (1, .getfield 12, 4, .null, 0, 4),
  (4, .iload_n 1, 5, .null, 1, 0),
  (5, .invokevirtual 106, 8, .ref 2, 3, 0),
  (8, .ifCond .ne 5, 11, .null, 13, 0),
  (11, .iconst (-1), 12, .int (-1), 0, 0),
  (12, .ireturn, 13, .null, 0, 0),
  (13, .iload_n 2, 14, .null, 2, 0),
  (14, .tableswitch 96 0 7 #[46, 46, 46, 46, 46, 57, 70, 83], 60, .null, 110, 0),
  (60, .aload_n 0, 61, .null, 0, 0),
  (61, .getfield 12, 64, .null, 0, 4),
  (64, .iload_n 2, 65, .null, 2, 0),
  (65, .invokevirtual 109, 68, .ref 2, 4, 0),
  (68, .iload_n 1, 69, .null, 1, 0),
  (69, .iaload, 70, .null, 0, 0),
  (70, .ireturn, 71, .null, 0, 0),
  (71, .bipush 100, 73, .int (100), 0, 0),
  (73, .aload_n 0, 74, .null, 0, 0),
  (74, .getfield 12, 77, .null, 0, 4),
  (77, .getfield 113, 80, .null, 9, 0),
  (80, .iload_n 1, 81, .null, 1, 0),
  (81, .iaload, 82, .null, 0, 0),
  (82, .iadd, 83, .null, 0, 0),
  (83, .ireturn, 84, .null, 0, 0),
  (84, .sipush 1000, 87, .int (1000), 0, 0),
  (87, .aload_n 0, 88, .null, 0, 0),
  (88, .getfield 12, 91, .null, 0, 4),
  (91, .iload_n 1, 92, .null, 1, 0),
  (92, .invokevirtual 117, 95, .ref 2, 11, 0),
  (95, .iadd, 96, .null, 0, 0),
  (96, .ireturn, 97, .null, 0, 0),
  (97, .sipush 10000, 100, .int (10000), 0, 0),
  (100, .aload_n 0, 101, .null, 0, 0),
  (101, .getfield 12, 104, .null, 0, 4),
  (104, .iload_n 1, 105, .null, 1, 0),
  (105, .invokevirtual 121, 108, .ref 2, 12, 0),
  (108, .iadd, 109, .null, 0, 0),
  (109, .ireturn, 110, .null, 0, 0),
  (110, .iconst (-1), 111, .int (-1), 0, 0),
  (111, .ireturn, 112, .null, 0, 0)]
def tbX4_knock : pm_Tb := [(0, .iload_n 1, 1, .null, 1, 0),
  (1, .iconst 0, 2, .int (0), 0, 0),
  (2, .aload_n 0, 3, .null, 0, 0),
  (3, .getfield 12, 6, .null, 0, 4),
  (6, .getfield 90, 9, .null, 1, 0),
  (9, .iconst 1, 10, .int (1), 0, 0),
  (10, .isub, 11, .null, 0, 0),
  (11, .invokestatic 59, 14, .ref 3, 97, 0),
  (14, .ifCond .eq 12, 17, .null, 26, 0),
  (17, .iload_n 2, 18, .null, 2, 0),
  (18, .iconst 0, 19, .int (0), 0, 0),
  (19, .iconst 1, 20, .int (1), 0, 0),
  (20, .invokestatic 59, 23, .ref 3, 97, 0),
  (23, .ifCond .ne 5, 26, .null, 28, 0),
  (26, .iconst (-1), 27, .int (-1), 0, 0),
  (27, .ireturn, 28, .null, 0, 0),
  (28, .iload_n 2, 29, .null, 2, 0),
  (29, .ifCond .ne 15, 32, .null, 44, 0),
  (32, .aload_n 0, 33, .null, 0, 0),
  (33, .getfield 12, 36, .null, 0, 4),
  (36, .getfield 124, 39, .null, 10, 0),
  (39, .iload_n 1, 40, .null, 1, 0),
  (40, .iaload, 41, .null, 0, 0),
  (41, .goto 15, 44, .null, 56, 0),
  (44, .bipush 9, 46, .int (9), 0, 0),
  (46, .aload_n 0, 47, .null, 0, 0),
  (47, .getfield 12, 50, .null, 0, 4),
  (50, .getfield 127, 53, .null, 11, 0),
  (53, .iload_n 1, 54, .null, 1, 0),
  (54, .iaload, 55, .null, 0, 0),
  (55, .iadd, 56, .null, 0, 0),
  (56, .ireturn, 57, .null, 0, 0)]
def tbX4_alter : pm_Tb := [(0, .aload_n 0, 1, .null, 0, 0),
  (1, .getfield 12, 4, .null, 0, 4),
  (4, .iload_n 1, 5, .null, 1, 0),
  (5, .invokevirtual 106, 8, .ref 2, 3, 0),
  (8, .ifCond .eq 29, 11, .null, 37, 0),
  (11, .iload_n 2, 12, .null, 2, 0),
  (12, .iconst 0, 13, .int (0), 0, 0),
  (13, .iconst 4, 14, .int (4), 0, 0),
  (14, .invokestatic 59, 17, .ref 3, 97, 0),
  (17, .ifCond .eq 20, 20, .null, 37, 0),
  (20, .iload_n 3, 21, .null, 3, 0),
  (21, .getstatic 130, 24, .ref 80, 0, 0),
  (24, .iload_n 2, 25, .null, 2, 0),
  (25, .iaload, 26, .null, 0, 0),
  (26, .getstatic 133, 29, .ref 81, 0, 0),
  (29, .iload_n 2, 30, .null, 2, 0),
  (30, .iaload, 31, .null, 0, 0),
  (31, .invokestatic 59, 34, .ref 3, 97, 0),
  (34, .ifCond .ne 5, 37, .null, 39, 0),
  (37, .iconst (-1), 38, .int (-1), 0, 0),
  (38, .ireturn, 39, .null, 0, 0),
  (39, .aload_n 0, 40, .null, 0, 0),
  (40, .getfield 12, 43, .null, 0, 4),
  (43, .iload_n 2, 44, .null, 2, 0),
  (44, .invokevirtual 109, 47, .ref 2, 4, 0),
  (47, .astore 4, 49, .null, 4, 0),
  (49, .aload 4, 51, .null, 4, 0),
  (51, .iload_n 1, 52, .null, 1, 0),
  (52, .iaload, 53, .null, 0, 0),
  (53, .istore 5, 55, .null, 5, 0),
  (55, .aload 4, 57, .null, 4, 0),
  (57, .iload_n 1, 58, .null, 1, 0),
  (58, .iload_n 3, 59, .null, 3, 0),
  (59, .iastore, 60, .null, 0, 0),
  (60, .iload 5, 62, .null, 5, 0),
  (62, .ireturn, 63, .null, 0, 0)]
def tbX4_drag : pm_Tb := [(0, .iload_n 1, 1, .null, 1, 0),
  (1, .iconst 0, 2, .int (0), 0, 0),
  (2, .iconst 3, 3, .int (3), 0, 0),
  (3, .invokestatic 59, 6, .ref 3, 97, 0),
  (6, .ifCond .ne 5, 9, .null, 11, 0),
  (9, .iconst (-1), 10, .int (-1), 0, 0),
  (10, .ireturn, 11, .null, 0, 0),
  (11, .aload_n 0, 12, .null, 0, 0),
  (12, .getfield 12, 15, .null, 0, 4),
  (15, .getfield 96, 18, .null, 2, 0),
  (18, .istore_n 2, 19, .null, 2, 0),
  (19, .aload_n 0, 20, .null, 0, 0),
  (20, .getfield 12, 23, .null, 0, 4),
  (23, .iload_n 1, 24, .null, 1, 0),
  (24, .putfield 96, 27, .null, 2, 0),
  (27, .iload_n 2, 28, .null, 2, 0),
  (28, .ireturn, 29, .null, 0, 0)]
def tbX4_bind : pm_Tb := [(0, .iload_n 1, 1, .null, 1, 0),
  (1, .getstatic 130, 4, .ref 80, 0, 0),
  (4, .iconst 0, 5, .int (0), 0, 0),
  (5, .iaload, 6, .null, 0, 0),
  (6, .getstatic 133, 9, .ref 81, 0, 0),
  (9, .iconst 0, 10, .int (0), 0, 0),
  (10, .iaload, 11, .null, 0, 0),
  (11, .invokestatic 59, 14, .ref 3, 97, 0),
  (14, .ifCond .eq 55, 17, .null, 69, 0),
  (17, .iload_n 2, 18, .null, 2, 0),
  (18, .getstatic 130, 21, .ref 80, 0, 0),
  (21, .iconst 1, 22, .int (1), 0, 0),
  (22, .iaload, 23, .null, 0, 0),
  (23, .getstatic 133, 26, .ref 81, 0, 0),
  (26, .iconst 1, 27, .int (1), 0, 0),
  (27, .iaload, 28, .null, 0, 0),
  (28, .invokestatic 59, 31, .ref 3, 97, 0),
  (31, .ifCond .eq 38, 34, .null, 69, 0),
  (34, .iload_n 3, 35, .null, 3, 0),
  (35, .getstatic 130, 38, .ref 80, 0, 0),
  (38, .iconst 2, 39, .int (2), 0, 0),
  (39, .iaload, 40, .null, 0, 0),
  (40, .getstatic 133, 43, .ref 81, 0, 0),
  (43, .iconst 2, 44, .int (2), 0, 0),
  (44, .iaload, 45, .null, 0, 0),
  (45, .invokestatic 59, 48, .ref 3, 97, 0),
  (48, .ifCond .eq 21, 51, .null, 69, 0),
  (51, .iload 4, 53, .null, 4, 0),
  (53, .getstatic 130, 56, .ref 80, 0, 0),
  (56, .iconst 3, 57, .int (3), 0, 0),
  (57, .iaload, 58, .null, 0, 0),
  (58, .getstatic 133, 61, .ref 81, 0, 0),
  (61, .iconst 3, 62, .int (3), 0, 0),
  (62, .iaload, 63, .null, 0, 0),
  (63, .invokestatic 59, 66, .ref 3, 97, 0),
  (66, .ifCond .ne 5, 69, .null, 71, 0),
  (69, .iconst (-1), 70, .int (-1), 0, 0),
  (70, .ireturn, 71, .null, 0, 0),
  (71, .aload_n 0, 72, .null, 0, 0),
  (72, .getfield 12, 75, .null, 0, 4),
  (75, .iload_n 1, 76, .null, 1, 0),
  (76, .iload_n 2, 77, .null, 2, 0),
  (77, .iload_n 3, 78, .null, 3, 0),
  (78, .iload 4, 80, .null, 4, 0),
  (80, .invokevirtual 136, 83, .ref 5, 8, 0),
  (83, .ifCond .eq 13, 86, .null, 96, 0),
  (86, .aload_n 0, 87, .null, 0, 0),
  (87, .getfield 12, 90, .null, 0, 4),
  (90, .getfield 87, 93, .null, 0, 0),
  (93, .goto 5, 96, .null, 98, 0),
  (96, .bipush (-3), 98, .int (-3), 0, 0),
  (98, .ireturn, 99, .null, 0, 0)]
def tbX4_cut : pm_Tb := [(0, .aload_n 0, 1, .null, 0, 0),
  (1, .getfield 12, 4, .null, 0, 4),
  (4, .getfield 87, 7, .null, 0, 0),
  (7, .istore_n 2, 8, .null, 2, 0),
  (8, .iload_n 1, 9, .null, 1, 0),
  (9, .iconst 0, 10, .int (0), 0, 0),
  (10, .iload_n 2, 11, .null, 2, 0),
  (11, .invokestatic 59, 14, .ref 3, 97, 0),
  (14, .ifCond .ne 5, 17, .null, 19, 0),
  (17, .iconst (-1), 18, .int (-1), 0, 0),
  (18, .ireturn, 19, .null, 0, 0),
  (19, .aload_n 0, 20, .null, 0, 0),
  (20, .getfield 12, 23, .null, 0, 4),
  (23, .iload_n 1, 24, .null, 1, 0),
  (24, .putfield 87, 27, .null, 0, 0),
  (27, .iload_n 2, 28, .null, 2, 0),
  (28, .ireturn, 29, .null, 0, 0)]
def tbX4_hit : pm_Tb := [(0, .aload_n 0, 1, .null, 0, 0),
  (1, .getfield 12, 4, .null, 0, 4),
  (4, .iload_n 1, 5, .null, 1, 0),
  (5, .invokevirtual 106, 8, .ref 2, 3, 0),
  (8, .ifCond .eq 13, 11, .null, 21, 0),
  (11, .iload_n 2, 12, .null, 2, 0),
  (12, .iconst 0, 13, .int (0), 0, 0),
  (13, .bipush 18, 15, .int (18), 0, 0),
  (15, .invokestatic 59, 18, .ref 3, 97, 0),
  (18, .ifCond .ne 5, 21, .null, 23, 0),
  (21, .iconst (-1), 22, .int (-1), 0, 0),
  (22, .ireturn, 23, .null, 0, 0),
  (23, .aload_n 0, 24, .null, 0, 0),
  (24, .getfield 12, 27, .null, 0, 4),
  (27, .iload_n 1, 28, .null, 1, 0),
  (28, .iload_n 2, 29, .null, 2, 0),
  (29, .bipush 9, 31, .int (9), 0, 0),
  (31, .isub, 32, .null, 0, 0),
  (32, .invokevirtual 140, 35, .ref 3, 13, 0),
  (35, .bipush 100, 37, .int (100), 0, 0),
  (37, .aload_n 0, 38, .null, 0, 0),
  (38, .getfield 12, 41, .null, 0, 4),
  (41, .getfield 113, 44, .null, 9, 0),
  (44, .iload_n 1, 45, .null, 1, 0),
  (45, .iaload, 46, .null, 0, 0),
  (46, .iadd, 47, .null, 0, 0),
  (47, .ireturn, 48, .null, 0, 0)]
def tbX4_add : pm_Tb := [(0, .iload_n 1, 1, .null, 1, 0),
  (1, .iconst 0, 2, .int (0), 0, 0),
  (2, .iconst 3, 3, .int (3), 0, 0),
  (3, .invokestatic 59, 6, .ref 3, 97, 0),
  (6, .ifCond .eq 13, 9, .null, 19, 0),
  (9, .iload_n 2, 10, .null, 2, 0),
  (10, .iconst 0, 11, .int (0), 0, 0),
  (11, .bipush 18, 13, .int (18), 0, 0),
  (13, .invokestatic 59, 16, .ref 3, 97, 0),
  (16, .ifCond .ne 5, 19, .null, 21, 0),
  (19, .iconst (-1), 20, .int (-1), 0, 0),
  (20, .ireturn, 21, .null, 0, 0),
  (21, .aload_n 0, 22, .null, 0, 0),
  (22, .getfield 12, 25, .null, 0, 4),
  (25, .iload_n 1, 26, .null, 1, 0),
  (26, .iload_n 2, 27, .null, 2, 0),
  (27, .bipush 9, 29, .int (9), 0, 0),
  (29, .isub, 30, .null, 0, 0),
  (30, .invokevirtual 144, 33, .ref 3, 9, 0),
  (33, .ifCond .eq 13, 36, .null, 46, 0),
  (36, .aload_n 0, 37, .null, 0, 0),
  (37, .getfield 12, 40, .null, 0, 4),
  (40, .getfield 90, 43, .null, 1, 0),
  (43, .goto 5, 46, .null, 48, 0),
  (46, .bipush (-3), 48, .int (-3), 0, 0),
  (48, .ireturn, 49, .null, 0, 0)]
def tbX4_drop : pm_Tb := [(0, .aload_n 0, 1, .null, 0, 0),
  (1, .getfield 12, 4, .null, 0, 4),
  (4, .getfield 90, 7, .null, 1, 0),
  (7, .istore_n 2, 8, .null, 2, 0),
  (8, .iload_n 1, 9, .null, 1, 0),
  (9, .iconst 0, 10, .int (0), 0, 0),
  (10, .iload_n 2, 11, .null, 2, 0),
  (11, .invokestatic 59, 14, .ref 3, 97, 0),
  (14, .ifCond .ne 5, 17, .null, 19, 0),
  (17, .iconst (-1), 18, .int (-1), 0, 0),
  (18, .ireturn, 19, .null, 0, 0),
  (19, .aload_n 0, 20, .null, 0, 0),
  (20, .getfield 12, 23, .null, 0, 4),
  (23, .iload_n 1, 24, .null, 1, 0),
  (24, .putfield 90, 27, .null, 1, 0),
  (27, .iload_n 2, 28, .null, 2, 0),
  (28, .ireturn, 29, .null, 0, 0)]
def tbX4_calm : pm_Tb := [(0, .aload_n 0, 1, .null, 0, 0),
  (1, .getfield 12, 4, .null, 0, 4),
  (4, .getfield 87, 7, .null, 0, 0),
  (7, .aload_n 0, 8, .null, 0, 0),
  (8, .getfield 12, 11, .null, 0, 4),
  (11, .invokevirtual 99, 14, .ref 1, 7, 0),
  (14, .invokestatic 148, 17, .ref 1, 173, 0),
  (17, .isub, 18, .null, 0, 0),
  (18, .istore_n 1, 19, .null, 1, 0),
  (19, .iconst 0, 20, .int (0), 0, 0),
  (20, .istore_n 2, 21, .null, 2, 0),
  (21, .iload_n 2, 22, .null, 2, 0),
  (22, .aload_n 0, 23, .null, 0, 0),
  (23, .getfield 12, 26, .null, 0, 4),
  (26, .getfield 87, 29, .null, 0, 0),
  (29, .if_icmp .ge 19, 32, .null, 48, 0),
  (32, .aload_n 0, 33, .null, 0, 0),
  (33, .getfield 12, 36, .null, 0, 4),
  (36, .getfield 113, 39, .null, 9, 0),
  (39, .iload_n 2, 40, .null, 2, 0),
  (40, .iconst 0, 41, .int (0), 0, 0),
  (41, .iastore, 42, .null, 0, 0),
  (42, .iinc 2 1, 45, .int (1), 2, 0),
  (45, .goto (-24), 48, .null, 21, 0),
  (48, .iload_n 1, 49, .null, 1, 0),
  (49, .ireturn, 50, .null, 0, 0)]
def tbX4_ticks : pm_Tb := [(0, .iload_n 1, 1, .null, 1, 0),
  (1, .iconst 0, 2, .int (0), 0, 0),
  (2, .bipush 100, 4, .int (100), 0, 0),
  (4, .invokestatic 59, 7, .ref 3, 97, 0),
  (7, .ifCond .ne 5, 10, .null, 12, 0),
  (10, .iconst (-1), 11, .int (-1), 0, 0),
  (11, .ireturn, 12, .null, 0, 0),
  (12, .aload_n 0, 13, .null, 0, 0),
  (13, .getfield 12, 16, .null, 0, 4),
  (16, .getfield 93, 19, .null, 3, 0),
  (19, .iload_n 1, 20, .null, 1, 0),
  (20, .iadd, 21, .null, 0, 0),
  (21, .sipush 9999, 24, .int (9999), 0, 0),
  (24, .if_icmp .le 6, 27, .null, 30, 0),
  (27, .bipush (-3), 29, .int (-3), 0, 0),
  (29, .ireturn, 30, .null, 0, 0),
  (30, .aload_n 0, 31, .null, 0, 0),
  (31, .getfield 12, 34, .null, 0, 4),
  (34, .iconst 0, 35, .int (0), 0, 0),
  (35, .putfield 153, 38, .null, 13, 0),
  (38, .aload_n 0, 39, .null, 0, 0),
  (39, .getfield 12, 42, .null, 0, 4),
  (42, .iload_n 1, 43, .null, 1, 0),
  (43, .invokevirtual 156, 46, .ref 2, 16, 0),
  (46, .aload_n 0, 47, .null, 0, 0),
  (47, .getfield 12, 50, .null, 0, 4),
  (50, .getfield 153, 53, .null, 13, 0),
  (53, .ireturn, 54, .null, 0, 0)]
def tbX4_runs : pm_Tb := [(0, .iload_n 1, 1, .null, 1, 0),
  (1, .iconst 0, 2, .int (0), 0, 0),
  (2, .sipush 200, 5, .int (200), 0, 0),
  (5, .invokestatic 59, 8, .ref 3, 97, 0),
  (8, .ifCond .eq 12, 11, .null, 20, 0),
  (11, .iload_n 2, 12, .null, 2, 0),
  (12, .iconst 0, 13, .int (0), 0, 0),
  (13, .iconst 3, 14, .int (3), 0, 0),
  (14, .invokestatic 59, 17, .ref 3, 97, 0),
  (17, .ifCond .ne 5, 20, .null, 22, 0),
  (20, .iconst (-1), 21, .int (-1), 0, 0),
  (21, .ireturn, 22, .null, 0, 0),
  (22, .aload_n 0, 23, .null, 0, 0),
  (23, .getfield 16, 26, .null, 1, 4),
  (26, .aload_n 0, 27, .null, 0, 0),
  (27, .getfield 12, 30, .null, 0, 4),
  (30, .invokevirtual 80, 33, .ref 2, 2, 0),
  (33, .aload_n 0, 34, .null, 0, 0),
  (34, .getfield 16, 37, .null, 1, 4),
  (37, .iload_n 1, 38, .null, 1, 0),
  (38, .sipush 301, 41, .int (301), 0, 0),
  (41, .invokevirtual 160, 44, .ref 3, 21, 0),
  (44, .istore_n 3, 45, .null, 3, 0),
  (45, .iload_n 2, 46, .null, 2, 0),
  (46, .tableswitch 44 0 2 #[26, 34, 36], 72, .null, 90, 0),
  (72, .aload_n 0, 73, .null, 0, 0),
  (73, .getfield 16, 76, .null, 1, 4),
  (76, .getfield 153, 79, .null, 13, 0),
  (79, .ireturn, 80, .null, 0, 0),
  (80, .iload_n 3, 81, .null, 3, 0),
  (81, .ireturn, 82, .null, 0, 0),
  (82, .aload_n 0, 83, .null, 0, 0),
  (83, .getfield 16, 86, .null, 1, 4),
  (86, .invokevirtual 103, 89, .ref 1, 6, 0),
  (89, .ireturn, 90, .null, 0, 0),
  (90, .aload_n 0, 91, .null, 0, 0),
  (91, .getfield 16, 94, .null, 1, 4),
  (94, .getfield 164, 97, .null, 14, 0),
  (97, .ireturn, 98, .null, 0, 0)]
def tbX4_ahead : pm_Tb := [(0, .aload_n 0, 1, .null, 0, 0),
  (1, .getfield 12, 4, .null, 0, 4),
  (4, .iload_n 1, 5, .null, 1, 0),
  (5, .invokevirtual 106, 8, .ref 2, 3, 0),
  (8, .ifCond .eq 23, 11, .null, 31, 0),
  (11, .iload_n 2, 12, .null, 2, 0),
  (12, .iconst 0, 13, .int (0), 0, 0),
  (13, .sipush 200, 16, .int (200), 0, 0),
  (16, .invokestatic 59, 19, .ref 3, 97, 0),
  (19, .ifCond .eq 12, 22, .null, 31, 0),
  (22, .iload_n 3, 23, .null, 3, 0),
  (23, .iconst 0, 24, .int (0), 0, 0),
  (24, .iconst 1, 25, .int (1), 0, 0),
  (25, .invokestatic 59, 28, .ref 3, 97, 0),
  (28, .ifCond .ne 5, 31, .null, 33, 0),
  (31, .iconst (-1), 32, .int (-1), 0, 0),
  (32, .ireturn, 33, .null, 0, 0),
  (33, .aload_n 0, 34, .null, 0, 0),
  (34, .getfield 16, 37, .null, 1, 4),
  (37, .aload_n 0, 38, .null, 0, 0),
  (38, .getfield 12, 41, .null, 0, 4),
  (41, .invokevirtual 80, 44, .ref 2, 2, 0),
  (44, .aload_n 0, 45, .null, 0, 0),
  (45, .getfield 16, 48, .null, 1, 4),
  (48, .iload_n 2, 49, .null, 2, 0),
  (49, .invokevirtual 156, 52, .ref 2, 16, 0),
  (52, .iload_n 3, 53, .null, 3, 0),
  (53, .ifCond .ne 15, 56, .null, 68, 0),
  (56, .aload_n 0, 57, .null, 0, 0),
  (57, .getfield 16, 60, .null, 1, 4),
  (60, .getfield 167, 63, .null, 8, 0),
  (63, .iload_n 1, 64, .null, 1, 0),
  (64, .iaload, 65, .null, 0, 0),
  (65, .goto 15, 68, .null, 80, 0),
  (68, .bipush 100, 70, .int (100), 0, 0),
  (70, .aload_n 0, 71, .null, 0, 0),
  (71, .getfield 16, 74, .null, 1, 4),
  (74, .getfield 113, 77, .null, 9, 0),
  (77, .iload_n 1, 78, .null, 1, 0),
  (78, .iaload, 79, .null, 0, 0),
  (79, .iadd, 80, .null, 0, 0),
  (80, .ireturn, 81, .null, 0, 0)]
def tbX4_when : pm_Tb := [(0, .aload_n 0, 1, .null, 0, 0),
  (1, .getfield 12, 4, .null, 0, 4),
  (4, .iload_n 1, 5, .null, 1, 0),
  (5, .invokevirtual 106, 8, .ref 2, 3, 0),
  (8, .ifCond .eq 14, 11, .null, 22, 0),
  (11, .iload_n 2, 12, .null, 2, 0),
  (12, .iconst 0, 13, .int (0), 0, 0),
  (13, .sipush 300, 16, .int (300), 0, 0),
  (16, .invokestatic 59, 19, .ref 3, 97, 0),
  (19, .ifCond .ne 5, 22, .null, 24, 0),
  (22, .iconst (-1), 23, .int (-1), 0, 0),
  (23, .ireturn, 24, .null, 0, 0),
  (24, .iload_n 2, 25, .null, 2, 0),
  (25, .aload_n 0, 26, .null, 0, 0),
  (26, .getfield 12, 29, .null, 0, 4),
  (29, .getfield 167, 32, .null, 8, 0),
  (32, .iload_n 1, 33, .null, 1, 0),
  (33, .iaload, 34, .null, 0, 0),
  (34, .invokestatic 170, 37, .ref 2, 172, 0),
  (37, .istore_n 3, 38, .null, 3, 0),
  (38, .aload_n 0, 39, .null, 0, 0),
  (39, .getfield 16, 42, .null, 1, 4),
  (42, .aload_n 0, 43, .null, 0, 0),
  (43, .getfield 12, 46, .null, 0, 4),
  (46, .invokevirtual 80, 49, .ref 2, 2, 0),
  (49, .iconst 0, 50, .int (0), 0, 0),
  (50, .istore 4, 52, .null, 4, 0),
  (52, .iload 4, 54, .null, 4, 0),
  (54, .sipush 200, 57, .int (200), 0, 0),
  (57, .if_icmp .gt 45, 60, .null, 102, 0),
  (60, .iload_n 2, 61, .null, 2, 0),
  (61, .aload_n 0, 62, .null, 0, 0),
  (62, .getfield 16, 65, .null, 1, 4),
  (65, .getfield 167, 68, .null, 8, 0),
  (68, .iload_n 1, 69, .null, 1, 0),
  (69, .iaload, 70, .null, 0, 0),
  (70, .invokestatic 170, 73, .ref 2, 172, 0),
  (73, .istore 5, 75, .null, 5, 0),
  (75, .iload 5, 77, .null, 5, 0),
  (77, .ifCond .eq 9, 80, .null, 86, 0),
  (80, .iload 5, 82, .null, 5, 0),
  (82, .iload_n 3, 83, .null, 3, 0),
  (83, .if_icmp .eq 6, 86, .null, 89, 0),
  (86, .iload 4, 88, .null, 4, 0),
  (88, .ireturn, 89, .null, 0, 0),
  (89, .aload_n 0, 90, .null, 0, 0),
  (90, .getfield 16, 93, .null, 1, 4),
  (93, .invokevirtual 173, 96, .ref 1, 15, 0),
  (96, .iinc 4 1, 99, .int (1), 4, 0),
  (99, .goto (-47), 102, .null, 52, 0),
  (102, .bipush (-4), 104, .int (-4), 0, 0),
  (104, .ireturn, 105, .null, 0, 0)]
def tbX4_rests : pm_Tb := [(0, .aload_n 0, 1, .null, 0, 0),
  (1, .getfield 16, 4, .null, 1, 4),
  (4, .aload_n 0, 5, .null, 0, 0),
  (5, .getfield 12, 8, .null, 0, 4),
  (8, .invokevirtual 80, 11, .ref 2, 2, 0),
  (11, .iconst 0, 12, .int (0), 0, 0),
  (12, .istore_n 1, 13, .null, 1, 0),
  (13, .iload_n 1, 14, .null, 1, 0),
  (14, .sipush 200, 17, .int (200), 0, 0),
  (17, .if_icmp .gt 28, 20, .null, 45, 0),
  (20, .aload_n 0, 21, .null, 0, 0),
  (21, .getfield 16, 24, .null, 1, 4),
  (24, .invokevirtual 176, 27, .ref 1, 17, 0),
  (27, .aload_n 0, 28, .null, 0, 0),
  (28, .getfield 16, 31, .null, 1, 4),
  (31, .getfield 179, 34, .null, 15, 0),
  (34, .ifCond .ne 5, 37, .null, 39, 0),
  (37, .iload_n 1, 38, .null, 1, 0),
  (38, .ireturn, 39, .null, 0, 0),
  (39, .iinc 1 1, 42, .int (1), 1, 0),
  (42, .goto (-29), 45, .null, 13, 0),
  (45, .bipush (-4), 47, .int (-4), 0, 0),
  (47, .ireturn, 48, .null, 0, 0)]
def tbX4_stiff : pm_Tb := [(0, .aload_n 0, 1, .null, 0, 0),
  (1, .iconst 2, 2, .int (2), 0, 0),
  (2, .iload_n 1, 3, .null, 1, 0),
  (3, .iload_n 2, 4, .null, 2, 0),
  (4, .iload_n 3, 5, .null, 3, 0),
  (5, .invokevirtual 183, 8, .ref 5, 71, 4),
  (8, .ireturn, 9, .null, 0, 0)]
def tbX4_rest : pm_Tb := [(0, .aload_n 0, 1, .null, 0, 0),
  (1, .iconst 1, 2, .int (1), 0, 0),
  (2, .iload_n 1, 3, .null, 1, 0),
  (3, .iload_n 2, 4, .null, 2, 0),
  (4, .iload_n 3, 5, .null, 3, 0),
  (5, .invokevirtual 183, 8, .ref 5, 71, 4),
  (8, .ireturn, 9, .null, 0, 0)]
def tbX4_kind : pm_Tb := [(0, .aload_n 0, 1, .null, 0, 0),
  (1, .iconst 0, 2, .int (0), 0, 0),
  (2, .iload_n 1, 3, .null, 1, 0),
  (3, .iload_n 2, 4, .null, 2, 0),
  (4, .iload_n 3, 5, .null, 3, 0),
  (5, .invokevirtual 183, 8, .ref 5, 71, 4),
  (8, .ireturn, 9, .null, 0, 0)]
def tbX4_mass : pm_Tb := [(0, .aload_n 0, 1, .null, 0, 0),
  (1, .iconst 3, 2, .int (3), 0, 0),
  (2, .iload_n 1, 3, .null, 1, 0),
  (3, .iload_n 2, 4, .null, 2, 0),
  (4, .iload_n 3, 5, .null, 3, 0),
  (5, .invokevirtual 183, 8, .ref 5, 71, 4),
  (8, .ireturn, 9, .null, 0, 0)]
def tbX4_swap : pm_Tb := [(0, .iload_n 1, 1, .null, 1, 0),
  (1, .iconst 0, 2, .int (0), 0, 0),
  (2, .bipush 100, 4, .int (100), 0, 0),
  (4, .invokestatic 59, 7, .ref 3, 97, 0),
  (7, .ifCond .eq 12, 10, .null, 19, 0),
  (10, .iload_n 2, 11, .null, 2, 0),
  (11, .iconst 0, 12, .int (0), 0, 0),
  (12, .iconst 1, 13, .int (1), 0, 0),
  (13, .invokestatic 59, 16, .ref 3, 97, 0),
  (16, .ifCond .ne 5, 19, .null, 21, 0),
  (19, .iconst (-1), 20, .int (-1), 0, 0),
  (20, .ireturn, 21, .null, 0, 0),
  (21, .aload_n 0, 22, .null, 0, 0),
  (22, .iload_n 1, 23, .null, 1, 0),
  (23, .invokevirtual 187, 26, .ref 2, 70, 4),
  (26, .istore_n 3, 27, .null, 3, 0),
  (27, .bipush (-4), 29, .int (-4), 0, 0),
  (29, .istore 4, 31, .null, 4, 0),
  (31, .iconst 0, 32, .int (0), 0, 0),
  (32, .istore 5, 34, .null, 5, 0),
  (34, .iload 5, 36, .null, 5, 0),
  (36, .aload_n 0, 37, .null, 0, 0),
  (37, .getfield 12, 40, .null, 0, 4),
  (40, .getfield 90, 43, .null, 1, 0),
  (43, .if_icmp .ge 85, 46, .null, 128, 0),
  (46, .iload 5, 48, .null, 5, 0),
  (48, .iconst 1, 49, .int (1), 0, 0),
  (49, .iadd, 50, .null, 0, 0),
  (50, .istore 6, 52, .null, 6, 0),
  (52, .iload 6, 54, .null, 6, 0),
  (54, .aload_n 0, 55, .null, 0, 0),
  (55, .getfield 12, 58, .null, 0, 4),
  (58, .getfield 90, 61, .null, 1, 0),
  (61, .if_icmp .ge 61, 64, .null, 122, 0),
  (64, .aload_n 0, 65, .null, 0, 0),
  (65, .getfield 16, 68, .null, 1, 4),
  (68, .aload_n 0, 69, .null, 0, 0),
  (69, .getfield 12, 72, .null, 0, 4),
  (72, .invokevirtual 80, 75, .ref 2, 2, 0),
  (75, .aload_n 0, 76, .null, 0, 0),
  (76, .getfield 16, 79, .null, 1, 4),
  (79, .iload 5, 81, .null, 5, 0),
  (81, .iload 6, 83, .null, 6, 0),
  (83, .invokevirtual 190, 86, .ref 3, 10, 0),
  (86, .aload_n 0, 87, .null, 0, 0),
  (87, .getfield 16, 90, .null, 1, 4),
  (90, .iload_n 1, 91, .null, 1, 0),
  (91, .iload_n 3, 92, .null, 3, 0),
  (92, .invokevirtual 160, 95, .ref 3, 21, 0),
  (95, .istore 7, 97, .null, 7, 0),
  (97, .iload 7, 99, .null, 7, 0),
  (99, .iload_n 3, 100, .null, 3, 0),
  (100, .if_icmp .ge 16, 103, .null, 116, 0),
  (103, .iload 7, 105, .null, 7, 0),
  (105, .istore_n 3, 106, .null, 3, 0),
  (106, .bipush 100, 108, .int (100), 0, 0),
  (108, .iload 5, 110, .null, 5, 0),
  (110, .imul, 111, .null, 0, 0),
  (111, .iload 6, 113, .null, 6, 0),
  (113, .iadd, 114, .null, 0, 0),
  (114, .istore 4, 116, .null, 4, 0),
  (116, .iinc 6 1, 119, .int (1), 6, 0),
  (119, .goto (-67), 122, .null, 52, 0),
  (122, .iinc 5 1, 125, .int (1), 5, 0),
  (125, .goto (-91), 128, .null, 34, 0),
  (128, .iload 4, 130, .null, 4, 0),
  (130, .bipush (-4), 132, .int (-4), 0, 0),
  (132, .if_icmp .eq 7, 135, .null, 139, 0),
  (135, .iload_n 2, 136, .null, 2, 0),
  (136, .ifCond .ne 8, 139, .null, 144, 0),
  (139, .iload 4, 141, .null, 4, 0),
  (141, .goto 4, 144, .null, 145, 0),
  (144, .iload_n 3, 145, .null, 3, 0),
  (145, .ireturn, 146, .null, 0, 0)]
def tbX4_miss : pm_Tb := [(0, .iload_n 1, 1, .null, 1, 0),
  (1, .iconst 0, 2, .int (0), 0, 0),
  (2, .bipush 100, 4, .int (100), 0, 0),
  (4, .invokestatic 59, 7, .ref 3, 97, 0),
  (7, .ifCond .eq 12, 10, .null, 19, 0),
  (10, .iload_n 2, 11, .null, 2, 0),
  (11, .iconst 0, 12, .int (0), 0, 0),
  (12, .iconst 1, 13, .int (1), 0, 0),
  (13, .invokestatic 59, 16, .ref 3, 97, 0),
  (16, .ifCond .ne 5, 19, .null, 21, 0),
  (19, .iconst (-1), 20, .int (-1), 0, 0),
  (20, .ireturn, 21, .null, 0, 0),
  (21, .aload_n 0, 22, .null, 0, 0),
  (22, .iload_n 1, 23, .null, 1, 0),
  (23, .invokevirtual 187, 26, .ref 2, 70, 4),
  (26, .istore_n 3, 27, .null, 3, 0),
  (27, .bipush (-4), 29, .int (-4), 0, 0),
  (29, .istore 4, 31, .null, 4, 0),
  (31, .iconst 0, 32, .int (0), 0, 0),
  (32, .istore 5, 34, .null, 5, 0),
  (34, .iload 5, 36, .null, 5, 0),
  (36, .aload_n 0, 37, .null, 0, 0),
  (37, .getfield 12, 40, .null, 0, 4),
  (40, .getfield 90, 43, .null, 1, 0),
  (43, .if_icmp .ge 55, 46, .null, 98, 0),
  (46, .aload_n 0, 47, .null, 0, 0),
  (47, .getfield 16, 50, .null, 1, 4),
  (50, .aload_n 0, 51, .null, 0, 0),
  (51, .getfield 12, 54, .null, 0, 4),
  (54, .invokevirtual 80, 57, .ref 2, 2, 0),
  (57, .aload_n 0, 58, .null, 0, 0),
  (58, .getfield 16, 61, .null, 1, 4),
  (61, .getfield 127, 64, .null, 11, 0),
  (64, .iload 5, 66, .null, 5, 0),
  (66, .iconst 0, 67, .int (0), 0, 0),
  (67, .iastore, 68, .null, 0, 0),
  (68, .aload_n 0, 69, .null, 0, 0),
  (69, .getfield 16, 72, .null, 1, 4),
  (72, .iload_n 1, 73, .null, 1, 0),
  (73, .iload_n 3, 74, .null, 3, 0),
  (74, .invokevirtual 160, 77, .ref 3, 21, 0),
  (77, .istore 6, 79, .null, 6, 0),
  (79, .iload 6, 81, .null, 6, 0),
  (81, .iload_n 3, 82, .null, 3, 0),
  (82, .if_icmp .ge 10, 85, .null, 92, 0),
  (85, .iload 6, 87, .null, 6, 0),
  (87, .istore_n 3, 88, .null, 3, 0),
  (88, .iload 5, 90, .null, 5, 0),
  (90, .istore 4, 92, .null, 4, 0),
  (92, .iinc 5 1, 95, .int (1), 5, 0),
  (95, .goto (-61), 98, .null, 34, 0),
  (98, .iload 4, 100, .null, 4, 0),
  (100, .bipush (-4), 102, .int (-4), 0, 0),
  (102, .if_icmp .eq 7, 105, .null, 109, 0),
  (105, .iload_n 2, 106, .null, 2, 0),
  (106, .ifCond .ne 8, 109, .null, 114, 0),
  (109, .iload 4, 111, .null, 4, 0),
  (111, .goto 4, 114, .null, 115, 0),
  (114, .iload_n 3, 115, .null, 3, 0),
  (115, .ireturn, 116, .null, 0, 0)]
def tbX4_swingAsItIs : pm_Tb := [(0, .aload_n 0, 1, .null, 0, 0),
  (1, .getfield 16, 4, .null, 1, 4),
  (4, .aload_n 0, 5, .null, 0, 0),
  (5, .getfield 12, 8, .null, 0, 4),
  (8, .invokevirtual 80, 11, .ref 2, 2, 0),
  (11, .aload_n 0, 12, .null, 0, 0),
  (12, .getfield 16, 15, .null, 1, 4),
  (15, .iload_n 1, 16, .null, 1, 0),
  (16, .sipush 301, 19, .int (301), 0, 0),
  (19, .invokevirtual 160, 22, .ref 3, 21, 0),
  (22, .ireturn, 23, .null, 0, 0)]
def tbX4_steadiest : pm_Tb := [(0, .aload_n 0, 1, .null, 0, 0),
  (1, .getfield 12, 4, .null, 0, 4),
  (4, .iload_n 2, 5, .null, 2, 0),
  (5, .invokevirtual 106, 8, .ref 2, 3, 0),
  (8, .ifCond .eq 23, 11, .null, 31, 0),
  (11, .iload_n 3, 12, .null, 3, 0),
  (12, .iconst 0, 13, .int (0), 0, 0),
  (13, .bipush 100, 15, .int (100), 0, 0),
  (15, .invokestatic 59, 18, .ref 3, 97, 0),
  (18, .ifCond .eq 13, 21, .null, 31, 0),
  (21, .iload 4, 23, .null, 4, 0),
  (23, .iconst 0, 24, .int (0), 0, 0),
  (24, .iconst 1, 25, .int (1), 0, 0),
  (25, .invokestatic 59, 28, .ref 3, 97, 0),
  (28, .ifCond .ne 5, 31, .null, 33, 0),
  (31, .iconst (-1), 32, .int (-1), 0, 0),
  (32, .ireturn, 33, .null, 0, 0),
  (33, .sipush 301, 36, .int (301), 0, 0),
  (36, .istore 5, 38, .null, 5, 0),
  (38, .getstatic 130, 41, .ref 80, 0, 0),
  (41, .iload_n 1, 42, .null, 1, 0),
  (42, .iaload, 43, .null, 0, 0),
  (43, .istore 6, 45, .null, 6, 0),
  (45, .getstatic 130, 48, .ref 80, 0, 0),
  (48, .iload_n 1, 49, .null, 1, 0),
  (49, .iaload, 50, .null, 0, 0),
  (50, .istore 7, 52, .null, 7, 0),
  (52, .iload 7, 54, .null, 7, 0),
  (54, .getstatic 133, 57, .ref 81, 0, 0),
  (57, .iload_n 1, 58, .null, 1, 0),
  (58, .iaload, 59, .null, 0, 0),
  (59, .if_icmp .gt 44, 62, .null, 103, 0),
  (62, .aload_n 0, 63, .null, 0, 0),
  (63, .iload_n 1, 64, .null, 1, 0),
  (64, .iload_n 2, 65, .null, 2, 0),
  (65, .iload 7, 67, .null, 7, 0),
  (67, .invokevirtual 193, 70, .ref 4, 72, 4),
  (70, .aload_n 0, 71, .null, 0, 0),
  (71, .getfield 16, 74, .null, 1, 4),
  (74, .iload_n 3, 75, .null, 3, 0),
  (75, .iload 5, 77, .null, 5, 0),
  (77, .invokevirtual 160, 80, .ref 3, 21, 0),
  (80, .istore 8, 82, .null, 8, 0),
  (82, .iload 8, 84, .null, 8, 0),
  (84, .iload 5, 86, .null, 5, 0),
  (86, .if_icmp .ge 11, 89, .null, 97, 0),
  (89, .iload 8, 91, .null, 8, 0),
  (91, .istore 5, 93, .null, 5, 0),
  (93, .iload 7, 95, .null, 7, 0),
  (95, .istore 6, 97, .null, 6, 0),
  (97, .iinc 7 1, 100, .int (1), 7, 0),
  (100, .goto (-48), 103, .null, 52, 0),
  (103, .iload 4, 105, .null, 4, 0),
  (105, .ifCond .ne 8, 108, .null, 113, 0),
  (108, .iload 6, 110, .null, 6, 0),
  (110, .goto 5, 113, .null, 115, 0),
  (113, .iload 5, 115, .null, 5, 0),
  (115, .ireturn, 116, .null, 0, 0)]
def tbX4_tryWith : pm_Tb := [(0, .aload_n 0, 1, .null, 0, 0),
  (1, .getfield 16, 4, .null, 1, 4),
  (4, .aload_n 0, 5, .null, 0, 0),
  (5, .getfield 12, 8, .null, 0, 4),
  (8, .invokevirtual 80, 11, .ref 2, 2, 0),
  (11, .aload_n 0, 12, .null, 0, 0),
  (12, .getfield 16, 15, .null, 1, 4),
  (15, .iload_n 1, 16, .null, 1, 0),
  (16, .invokevirtual 109, 19, .ref 2, 4, 0),
  (19, .iload_n 2, 20, .null, 2, 0),
  (20, .iload_n 3, 21, .null, 3, 0),
  (21, .iastore, 22, .null, 0, 0),
  (22, .return_, 23, .null, 0, 0)]
def tbX4_luck : pm_Tb := [(0, .iload_n 1, 1, .null, 1, 0),
  (1, .iconst 0, 2, .int (0), 0, 0),
  (2, .bipush 10, 4, .int (10), 0, 0),
  (4, .invokestatic 59, 7, .ref 3, 97, 0),
  (7, .ifCond .eq 34, 10, .null, 41, 0),
  (10, .iload_n 2, 11, .null, 2, 0),
  (11, .iconst 0, 12, .int (0), 0, 0),
  (12, .sipush 300, 15, .int (300), 0, 0),
  (15, .invokestatic 59, 18, .ref 3, 97, 0),
  (18, .ifCond .eq 23, 21, .null, 41, 0),
  (21, .iload_n 3, 22, .null, 3, 0),
  (22, .iconst 0, 23, .int (0), 0, 0),
  (23, .bipush 8, 25, .int (8), 0, 0),
  (25, .invokestatic 59, 28, .ref 3, 97, 0),
  (28, .ifCond .eq 13, 31, .null, 41, 0),
  (31, .iload 4, 33, .null, 4, 0),
  (33, .iconst 0, 34, .int (0), 0, 0),
  (34, .iconst 1, 35, .int (1), 0, 0),
  (35, .invokestatic 59, 38, .ref 3, 97, 0),
  (38, .ifCond .ne 7, 41, .null, 45, 0),
  (41, .ldc2_w 197, 44, .long (-1), 0, 0),
  (44, .lreturn, 45, .null, 0, 0),
  (45, .aload_n 0, 46, .null, 0, 0),
  (46, .getfield 12, 49, .null, 0, 4),
  (49, .getfield 87, 52, .null, 0, 0),
  (52, .ifCond .ne 7, 55, .null, 59, 0),
  (55, .ldc2_w 199, 58, .long (-2), 0, 0),
  (58, .lreturn, 59, .null, 0, 0),
  (59, .lconst 0, 60, .long 0, 0, 0),
  (60, .lstore 5, 62, .null, 5, 0),
  (62, .iconst 0, 63, .int (0), 0, 0),
  (63, .istore 7, 65, .null, 7, 0),
  (65, .iload 7, 67, .null, 7, 0),
  (67, .iconst 1, 68, .int (1), 0, 0),
  (68, .iload_n 3, 69, .null, 3, 0),
  (69, .ishl, 70, .null, 0, 0),
  (70, .if_icmp .ge 39, 73, .null, 109, 0),
  (73, .aload_n 0, 74, .null, 0, 0),
  (74, .iload 7, 76, .null, 7, 0),
  (76, .iload_n 3, 77, .null, 3, 0),
  (77, .invokevirtual 201, 80, .ref 3, 75, 4),
  (80, .aload_n 0, 81, .null, 0, 0),
  (81, .getfield 16, 84, .null, 1, 4),
  (84, .invokevirtual 103, 87, .ref 1, 6, 0),
  (87, .iload_n 2, 88, .null, 2, 0),
  (88, .if_icmp .lt 15, 91, .null, 103, 0),
  (91, .lload 5, 93, .null, 5, 0),
  (93, .iload 7, 95, .null, 7, 0),
  (95, .iload_n 1, 96, .null, 1, 0),
  (96, .iload_n 3, 97, .null, 3, 0),
  (97, .invokestatic 204, 100, .ref 3, 76, 0),
  (100, .ladd, 101, .null, 0, 0),
  (101, .lstore 5, 103, .null, 5, 0),
  (103, .iinc 7 1, 106, .int (1), 7, 0),
  (106, .goto (-41), 109, .null, 65, 0),
  (109, .lload 5, 111, .null, 5, 0),
  (111, .bipush 10, 113, .int (10), 0, 0),
  (113, .iload_n 3, 114, .null, 3, 0),
  (114, .invokestatic 208, 117, .ref 2, 77, 0),
  (117, .iload 4, 119, .null, 4, 0),
  (119, .invokestatic 212, 122, .ref 3, 78, 0),
  (122, .lreturn, 123, .null, 0, 0)]
def tbX4_mean : pm_Tb := [(0, .iload_n 1, 1, .null, 1, 0),
  (1, .iconst 0, 2, .int (0), 0, 0),
  (2, .bipush 10, 4, .int (10), 0, 0),
  (4, .invokestatic 59, 7, .ref 3, 97, 0),
  (7, .ifCond .eq 22, 10, .null, 29, 0),
  (10, .iload_n 2, 11, .null, 2, 0),
  (11, .iconst 0, 12, .int (0), 0, 0),
  (12, .bipush 8, 14, .int (8), 0, 0),
  (14, .invokestatic 59, 17, .ref 3, 97, 0),
  (17, .ifCond .eq 12, 20, .null, 29, 0),
  (20, .iload_n 3, 21, .null, 3, 0),
  (21, .iconst 0, 22, .int (0), 0, 0),
  (22, .iconst 1, 23, .int (1), 0, 0),
  (23, .invokestatic 59, 26, .ref 3, 97, 0),
  (26, .ifCond .ne 7, 29, .null, 33, 0),
  (29, .ldc2_w 197, 32, .long (-1), 0, 0),
  (32, .lreturn, 33, .null, 0, 0),
  (33, .lconst 0, 34, .long 0, 0, 0),
  (34, .lstore 4, 36, .null, 4, 0),
  (36, .iconst 0, 37, .int (0), 0, 0),
  (37, .istore 6, 39, .null, 6, 0),
  (39, .iload 6, 41, .null, 6, 0),
  (41, .iconst 1, 42, .int (1), 0, 0),
  (42, .iload_n 2, 43, .null, 2, 0),
  (43, .ishl, 44, .null, 0, 0),
  (44, .if_icmp .ge 48, 47, .null, 92, 0),
  (47, .aload_n 0, 48, .null, 0, 0),
  (48, .iload 6, 50, .null, 6, 0),
  (50, .iload_n 2, 51, .null, 2, 0),
  (51, .invokevirtual 201, 54, .ref 3, 75, 4),
  (54, .lload 4, 56, .null, 4, 0),
  (56, .iload 6, 58, .null, 6, 0),
  (58, .iload_n 1, 59, .null, 1, 0),
  (59, .iload_n 2, 60, .null, 2, 0),
  (60, .invokestatic 204, 63, .ref 3, 76, 0),
  (63, .aload_n 0, 64, .null, 0, 0),
  (64, .getfield 16, 67, .null, 1, 4),
  (67, .invokevirtual 103, 70, .ref 1, 6, 0),
  (70, .aload_n 0, 71, .null, 0, 0),
  (71, .getfield 12, 74, .null, 0, 4),
  (74, .invokevirtual 103, 77, .ref 1, 6, 0),
  (77, .isub, 78, .null, 0, 0),
  (78, .invokestatic 216, 81, .retAddr 2, 0, 0),
  (81, .i2l, 82, .null, 0, 0),
  (82, .lmul, 83, .null, 0, 0),
  (83, .ladd, 84, .null, 0, 0),
  (84, .lstore 4, 86, .null, 4, 0),
  (86, .iinc 6 1, 89, .int (1), 6, 0),
  (89, .goto (-50), 92, .null, 39, 0),
  (92, .lload 4, 94, .null, 4, 0),
  (94, .bipush 10, 96, .int (10), 0, 0),
  (96, .iload_n 2, 97, .null, 2, 0),
  (97, .invokestatic 208, 100, .ref 2, 77, 0),
  (100, .iload_n 3, 101, .null, 3, 0),
  (101, .invokestatic 212, 104, .ref 3, 78, 0),
  (104, .lreturn, 105, .null, 0, 0)]
def tbX4_runMissing : pm_Tb := [(0, .aload_n 0, 1, .null, 0, 0),
  (1, .getfield 16, 4, .null, 1, 4),
  (4, .aload_n 0, 5, .null, 0, 0),
  (5, .getfield 12, 8, .null, 0, 4),
  (8, .invokevirtual 80, 11, .ref 2, 2, 0),
  (11, .iconst 0, 12, .int (0), 0, 0),
  (12, .istore_n 3, 13, .null, 3, 0),
  (13, .iload_n 3, 14, .null, 3, 0),
  (14, .iload_n 2, 15, .null, 2, 0),
  (15, .if_icmp .ge 31, 18, .null, 46, 0),
  (18, .iload_n 1, 19, .null, 1, 0),
  (19, .iload_n 3, 20, .null, 3, 0),
  (20, .ishr, 21, .null, 0, 0),
  (21, .iconst 1, 22, .int (1), 0, 0),
  (22, .iand, 23, .null, 0, 0),
  (23, .ifCond .ne 10, 26, .null, 33, 0),
  (26, .aload_n 0, 27, .null, 0, 0),
  (27, .getfield 16, 30, .null, 1, 4),
  (30, .invokevirtual 221, 33, .ref 1, 14, 0),
  (33, .aload_n 0, 34, .null, 0, 0),
  (34, .getfield 16, 37, .null, 1, 4),
  (37, .invokevirtual 176, 40, .ref 1, 17, 0),
  (40, .iinc 3 1, 43, .int (1), 3, 0),
  (43, .goto (-30), 46, .null, 13, 0),
  (46, .return_, 47, .null, 0, 0)]
def tbX4_weightOf : pm_Tb := [(0, .iload_n 0, 1, .null, 0, 0),
  (1, .invokestatic 148, 4, .ref 1, 173, 0),
  (4, .istore_n 3, 5, .null, 3, 0),
  (5, .iload_n 1, 6, .null, 1, 0),
  (6, .iload_n 3, 7, .null, 3, 0),
  (7, .invokestatic 208, 10, .ref 2, 77, 0),
  (10, .bipush 10, 12, .int (10), 0, 0),
  (12, .iload_n 1, 13, .null, 1, 0),
  (13, .isub, 14, .null, 0, 0),
  (14, .iload_n 2, 15, .null, 2, 0),
  (15, .iload_n 3, 16, .null, 3, 0),
  (16, .isub, 17, .null, 0, 0),
  (17, .invokestatic 208, 20, .ref 2, 77, 0),
  (20, .lmul, 21, .null, 0, 0),
  (21, .lreturn, 22, .null, 0, 0)]
def tbX4_power : pm_Tb := [(0, .lconst 1, 1, .long 1, 0, 0),
  (1, .lstore_n 2, 2, .null, 2, 0),
  (2, .iconst 0, 3, .int (0), 0, 0),
  (3, .istore 4, 5, .null, 4, 0),
  (5, .iload 4, 7, .null, 4, 0),
  (7, .iload_n 1, 8, .null, 1, 0),
  (8, .if_icmp .ge 14, 11, .null, 22, 0),
  (11, .lload_n 2, 12, .null, 2, 0),
  (12, .iload_n 0, 13, .null, 0, 0),
  (13, .i2l, 14, .null, 0, 0),
  (14, .lmul, 15, .null, 0, 0),
  (15, .lstore_n 2, 16, .null, 2, 0),
  (16, .iinc 4 1, 19, .int (1), 4, 0),
  (19, .goto (-14), 22, .null, 5, 0),
  (22, .lload_n 2, 23, .null, 2, 0),
  (23, .lreturn, 24, .null, 0, 0)]
def tbX4_partOfFraction : pm_Tb := [(0, .lload_n 0, 1, .null, 0, 0),
  (1, .lload_n 2, 2, .null, 2, 0),
  (2, .invokestatic 224, 5, .ref 2, 79, 0),
  (5, .lstore 5, 7, .null, 5, 0),
  (7, .lload 5, 9, .null, 5, 0),
  (9, .lconst 0, 10, .long 0, 0, 0),
  (10, .lcmp, 11, .null, 0, 0),
  (11, .ifCond .gt 14, 14, .null, 25, 0),
  (14, .iload 4, 16, .null, 4, 0),
  (16, .ifCond .ne 7, 19, .null, 23, 0),
  (19, .lload_n 0, 20, .null, 0, 0),
  (20, .goto 4, 23, .null, 24, 0),
  (23, .lload_n 2, 24, .null, 2, 0),
  (24, .lreturn, 25, .null, 0, 0),
  (25, .iload 4, 27, .null, 4, 0),
  (27, .ifCond .ne 7, 30, .null, 34, 0),
  (30, .lload_n 0, 31, .null, 0, 0),
  (31, .goto 4, 34, .null, 35, 0),
  (34, .lload_n 2, 35, .null, 2, 0),
  (35, .lload 5, 37, .null, 5, 0),
  (37, .ldiv, 38, .null, 0, 0),
  (38, .lreturn, 39, .null, 0, 0)]
def tbX4_commonDivisor : pm_Tb := [(0, .lload_n 0, 1, .null, 0, 0),
  (1, .lstore 4, 3, .null, 4, 0),
  (3, .lload_n 2, 4, .null, 2, 0),
  (4, .lstore 6, 6, .null, 6, 0),
  (6, .iconst 0, 7, .int (0), 0, 0),
  (7, .istore 8, 9, .null, 8, 0),
  (9, .iload 8, 11, .null, 8, 0),
  (11, .bipush 100, 13, .int (100), 0, 0),
  (13, .if_icmp .ge 31, 16, .null, 44, 0),
  (16, .lload 6, 18, .null, 6, 0),
  (18, .lconst 0, 19, .long 0, 0, 0),
  (19, .lcmp, 20, .null, 0, 0),
  (20, .ifCond .eq 24, 23, .null, 44, 0),
  (23, .lload 4, 25, .null, 4, 0),
  (25, .lload 6, 27, .null, 6, 0),
  (27, .lrem, 28, .null, 0, 0),
  (28, .lstore 9, 30, .null, 9, 0),
  (30, .lload 6, 32, .null, 6, 0),
  (32, .lstore 4, 34, .null, 4, 0),
  (34, .lload 9, 36, .null, 9, 0),
  (36, .lstore 6, 38, .null, 6, 0),
  (38, .iinc 8 1, 41, .int (1), 8, 0),
  (41, .goto (-32), 44, .null, 9, 0),
  (44, .lload 4, 46, .null, 4, 0),
  (46, .lreturn, 47, .null, 0, 0)]
def tbX4_see : pm_Tb := [(0, .iload_n 1, 1, .null, 1, 0),
  (1, .iconst 0, 2, .int (0), 0, 0),
  (2, .bipush 40, 4, .int (40), 0, 0),
  (4, .invokestatic 59, 7, .ref 3, 97, 0),
  (7, .ifCond .eq 25, 10, .null, 32, 0),
  (10, .aload_n 0, 11, .null, 0, 0),
  (11, .getfield 12, 14, .null, 0, 4),
  (14, .iload_n 2, 15, .null, 2, 0),
  (15, .invokevirtual 106, 18, .ref 2, 3, 0),
  (18, .ifCond .eq 14, 21, .null, 32, 0),
  (21, .iload_n 3, 22, .null, 3, 0),
  (22, .iconst 0, 23, .int (0), 0, 0),
  (23, .sipush 300, 26, .int (300), 0, 0),
  (26, .invokestatic 59, 29, .ref 3, 97, 0),
  (29, .ifCond .ne 5, 32, .null, 34, 0),
  (32, .iconst (-1), 33, .int (-1), 0, 0),
  (33, .ireturn, 34, .null, 0, 0),
  (34, .aload_n 0, 35, .null, 0, 0),
  (35, .getfield 39, 38, .null, 6, 4),
  (38, .iload_n 1, 39, .null, 1, 0),
  (39, .iload_n 2, 40, .null, 2, 0),
  (40, .iload_n 3, 41, .null, 3, 0),
  (41, .invokevirtual 228, 44, .ref 4, 22, 1),
  (44, .ifCond .eq 13, 47, .null, 57, 0),
  (47, .aload_n 0, 48, .null, 0, 0),
  (48, .getfield 39, 51, .null, 6, 4),
  (51, .getfield 84, 54, .null, 0, 1),
  (54, .goto 5, 57, .null, 59, 0),
  (57, .bipush (-3), 59, .int (-3), 0, 0),
  (59, .ireturn, 60, .null, 0, 0)]
def tbX4_forget : pm_Tb := [(0, .aload_n 0, 1, .null, 0, 0),
  (1, .getfield 39, 4, .null, 6, 4),
  (4, .getfield 84, 7, .null, 0, 1),
  (7, .istore_n 2, 8, .null, 2, 0),
  (8, .iload_n 1, 9, .null, 1, 0),
  (9, .iconst 0, 10, .int (0), 0, 0),
  (10, .iload_n 2, 11, .null, 2, 0),
  (11, .invokestatic 59, 14, .ref 3, 97, 0),
  (14, .ifCond .ne 5, 17, .null, 19, 0),
  (17, .iconst (-1), 18, .int (-1), 0, 0),
  (18, .ireturn, 19, .null, 0, 0),
  (19, .aload_n 0, 20, .null, 0, 0),
  (20, .getfield 39, 23, .null, 6, 4),
  (23, .iload_n 1, 24, .null, 1, 0),
  (24, .putfield 84, 27, .null, 0, 1),
  (27, .iload_n 2, 28, .null, 2, 0),
  (28, .ireturn, 29, .null, 0, 0)]
def tbX4_kinds : pm_Tb := [(0, .aload_n 0, 1, .null, 0, 0),
  (1, .getfield 12, 4, .null, 0, 4),
  (4, .iload_n 1, 5, .null, 1, 0),
  (5, .invokevirtual 106, 8, .ref 2, 3, 0),
  (8, .ifCond .eq 12, 11, .null, 20, 0),
  (11, .aload_n 0, 12, .null, 0, 0),
  (12, .iconst 0, 13, .int (0), 0, 0),
  (13, .iload_n 1, 14, .null, 1, 0),
  (14, .invokevirtual 231, 17, .ref 3, 85, 4),
  (17, .goto 4, 20, .null, 21, 0),
  (20, .iconst (-1), 21, .int (-1), 0, 0),
  (21, .ireturn, 22, .null, 0, 0)]
def tbX4_stiffs : pm_Tb := [(0, .aload_n 0, 1, .null, 0, 0),
  (1, .getfield 12, 4, .null, 0, 4),
  (4, .iload_n 1, 5, .null, 1, 0),
  (5, .invokevirtual 106, 8, .ref 2, 3, 0),
  (8, .ifCond .eq 12, 11, .null, 20, 0),
  (11, .aload_n 0, 12, .null, 0, 0),
  (12, .iconst 2, 13, .int (2), 0, 0),
  (13, .iload_n 1, 14, .null, 1, 0),
  (14, .invokevirtual 231, 17, .ref 3, 85, 4),
  (17, .goto 4, 20, .null, 21, 0),
  (20, .iconst (-1), 21, .int (-1), 0, 0),
  (21, .ireturn, 22, .null, 0, 0)]
def tbX4_ask : pm_Tb := [(0, .aload_n 0, 1, .null, 0, 0),
  (1, .getfield 12, 4, .null, 0, 4),
  (4, .iload_n 1, 5, .null, 1, 0),
  (5, .invokevirtual 106, 8, .ref 2, 3, 0),
  (8, .ifCond .eq 12, 11, .null, 20, 0),
  (11, .iload_n 2, 12, .null, 2, 0),
  (12, .iconst 0, 13, .int (0), 0, 0),
  (13, .iconst 1, 14, .int (1), 0, 0),
  (14, .invokestatic 59, 17, .ref 3, 97, 0),
  (17, .ifCond .ne 5, 20, .null, 22, 0),
  (20, .iconst (-1), 21, .int (-1), 0, 0),
  (21, .ireturn, 22, .null, 0, 0),
  (22, .aload_n 0, 23, .null, 0, 0),
  (23, .iconst 2, 24, .int (2), 0, 0),
  (24, .iload_n 1, 25, .null, 1, 0),
  (25, .invokevirtual 231, 28, .ref 3, 85, 4),
  (28, .istore_n 3, 29, .null, 3, 0),
  (29, .aload_n 0, 30, .null, 0, 0),
  (30, .iload_n 1, 31, .null, 1, 0),
  (31, .iload_n 3, 32, .null, 3, 0),
  (32, .invokevirtual 234, 35, .ref 3, 86, 4),
  (35, .iload_n 3, 36, .null, 3, 0),
  (36, .invokestatic 148, 39, .ref 1, 173, 0),
  (39, .istore 4, 41, .null, 4, 0),
  (41, .bipush (-4), 43, .int (-4), 0, 0),
  (43, .istore 5, 45, .null, 5, 0),
  (45, .iconst 0, 46, .int (0), 0, 0),
  (46, .istore 6, 48, .null, 6, 0),
  (48, .iload 6, 50, .null, 6, 0),
  (50, .bipush 40, 52, .int (40), 0, 0),
  (52, .if_icmp .gt 33, 55, .null, 85, 0),
  (55, .aload_n 0, 56, .null, 0, 0),
  (56, .iload_n 3, 57, .null, 3, 0),
  (57, .iload 6, 59, .null, 6, 0),
  (59, .invokevirtual 237, 62, .ref 3, 87, 4),
  (62, .istore 7, 64, .null, 7, 0),
  (64, .iload 7, 66, .null, 7, 0),
  (66, .iload 4, 68, .null, 4, 0),
  (68, .if_icmp .ge 11, 71, .null, 79, 0),
  (71, .iload 7, 73, .null, 7, 0),
  (73, .istore 4, 75, .null, 4, 0),
  (75, .iload 6, 77, .null, 6, 0),
  (77, .istore 5, 79, .null, 5, 0),
  (79, .iinc 6 1, 82, .int (1), 6, 0),
  (82, .goto (-34), 85, .null, 48, 0),
  (85, .iload 5, 87, .null, 5, 0),
  (87, .bipush (-4), 89, .int (-4), 0, 0),
  (89, .if_icmp .eq 7, 92, .null, 96, 0),
  (92, .iload_n 2, 93, .null, 2, 0),
  (93, .ifCond .ne 8, 96, .null, 101, 0),
  (96, .iload 5, 98, .null, 5, 0),
  (98, .goto 5, 101, .null, 103, 0),
  (101, .iload 4, 103, .null, 4, 0),
  (103, .ireturn, 104, .null, 0, 0)]
def tbX4_asSeenBits : pm_Tb := [(0, .iconst 0, 1, .int (0), 0, 0),
  (1, .istore_n 3, 2, .null, 3, 0),
  (2, .getstatic 130, 5, .ref 80, 0, 0),
  (5, .iload_n 1, 6, .null, 1, 0),
  (6, .iaload, 7, .null, 0, 0),
  (7, .istore 4, 9, .null, 4, 0),
  (9, .iload 4, 11, .null, 4, 0),
  (11, .getstatic 133, 14, .ref 81, 0, 0),
  (14, .iload_n 1, 15, .null, 1, 0),
  (15, .iaload, 16, .null, 0, 0),
  (16, .if_icmp .gt 38, 19, .null, 54, 0),
  (19, .aload_n 0, 20, .null, 0, 0),
  (20, .iload_n 1, 21, .null, 1, 0),
  (21, .iload_n 2, 22, .null, 2, 0),
  (22, .iload 4, 24, .null, 4, 0),
  (24, .invokevirtual 193, 27, .ref 4, 72, 4),
  (27, .aload_n 0, 28, .null, 0, 0),
  (28, .getfield 39, 31, .null, 6, 4),
  (31, .aload_n 0, 32, .null, 0, 0),
  (32, .getfield 16, 35, .null, 1, 4),
  (35, .invokevirtual 240, 38, .ref 2, 23, 1),
  (38, .ifCond .eq 10, 41, .null, 48, 0),
  (41, .iload_n 3, 42, .null, 3, 0),
  (42, .iconst 1, 43, .int (1), 0, 0),
  (43, .iload 4, 45, .null, 4, 0),
  (45, .ishl, 46, .null, 0, 0),
  (46, .ior, 47, .null, 0, 0),
  (47, .istore_n 3, 48, .null, 3, 0),
  (48, .iinc 4 1, 51, .int (1), 4, 0),
  (51, .goto (-42), 54, .null, 9, 0),
  (54, .iload_n 3, 55, .null, 3, 0),
  (55, .ireturn, 56, .null, 0, 0)]
def tbX4_traceStiffs : pm_Tb := [(0, .iconst 0, 1, .int (0), 0, 0),
  (1, .istore_n 3, 2, .null, 3, 0),
  (2, .iload_n 3, 3, .null, 3, 0),
  (3, .bipush 10, 5, .int (10), 0, 0),
  (5, .if_icmp .ge 66, 8, .null, 71, 0),
  (8, .iload_n 2, 9, .null, 2, 0),
  (9, .iload_n 3, 10, .null, 3, 0),
  (10, .ishr, 11, .null, 0, 0),
  (11, .iconst 1, 12, .int (1), 0, 0),
  (12, .iand, 13, .null, 0, 0),
  (13, .iconst 1, 14, .int (1), 0, 0),
  (14, .if_icmp .ne 51, 17, .null, 65, 0),
  (17, .aload_n 0, 18, .null, 0, 0),
  (18, .iconst 2, 19, .int (2), 0, 0),
  (19, .iload_n 1, 20, .null, 1, 0),
  (20, .iload_n 3, 21, .null, 3, 0),
  (21, .invokevirtual 193, 24, .ref 4, 72, 4),
  (24, .iconst 0, 25, .int (0), 0, 0),
  (25, .istore 4, 27, .null, 4, 0),
  (27, .iload 4, 29, .null, 4, 0),
  (29, .bipush 40, 31, .int (40), 0, 0),
  (31, .if_icmp .gt 34, 34, .null, 65, 0),
  (34, .aload_n 0, 35, .null, 0, 0),
  (35, .getfield 52, 38, .null, 8, 4),
  (38, .iload_n 3, 39, .null, 3, 0),
  (39, .aaload, 40, .null, 0, 0),
  (40, .iload 4, 42, .null, 4, 0),
  (42, .aload_n 0, 43, .null, 0, 0),
  (43, .getfield 16, 46, .null, 1, 4),
  (46, .getfield 167, 49, .null, 8, 0),
  (49, .iload_n 1, 50, .null, 1, 0),
  (50, .iaload, 51, .null, 0, 0),
  (51, .iastore, 52, .null, 0, 0),
  (52, .aload_n 0, 53, .null, 0, 0),
  (53, .getfield 16, 56, .null, 1, 4),
  (56, .invokevirtual 173, 59, .ref 1, 15, 0),
  (59, .iinc 4 1, 62, .int (1), 4, 0),
  (62, .goto (-35), 65, .null, 27, 0),
  (65, .iinc 3 1, 68, .int (1), 3, 0),
  (68, .goto (-66), 71, .null, 2, 0),
  (71, .return_, 72, .null, 0, 0)]
def tbX4_mostAlike : pm_Tb := [(0, .iconst 0, 1, .int (0), 0, 0),
  (1, .istore_n 3, 2, .null, 3, 0),
  (2, .iconst 0, 3, .int (0), 0, 0),
  (3, .istore 4, 5, .null, 4, 0),
  (5, .iload 4, 7, .null, 4, 0),
  (7, .bipush 10, 9, .int (10), 0, 0),
  (9, .if_icmp .ge 74, 12, .null, 83, 0),
  (12, .iconst 0, 13, .int (0), 0, 0),
  (13, .istore 5, 15, .null, 5, 0),
  (15, .iconst 0, 16, .int (0), 0, 0),
  (16, .istore 6, 18, .null, 6, 0),
  (18, .iload 6, 20, .null, 6, 0),
  (20, .bipush 10, 22, .int (10), 0, 0),
  (22, .if_icmp .ge 48, 25, .null, 70, 0),
  (25, .iload_n 1, 26, .null, 1, 0),
  (26, .iload 4, 28, .null, 4, 0),
  (28, .ishr, 29, .null, 0, 0),
  (29, .iload_n 1, 30, .null, 1, 0),
  (30, .iload 6, 32, .null, 6, 0),
  (32, .ishr, 33, .null, 0, 0),
  (33, .iand, 34, .null, 0, 0),
  (34, .iconst 1, 35, .int (1), 0, 0),
  (35, .iand, 36, .null, 0, 0),
  (36, .iconst 1, 37, .int (1), 0, 0),
  (37, .if_icmp .ne 27, 40, .null, 64, 0),
  (40, .aload_n 0, 41, .null, 0, 0),
  (41, .getfield 52, 44, .null, 8, 4),
  (44, .iload 4, 46, .null, 4, 0),
  (46, .aaload, 47, .null, 0, 0),
  (47, .iload_n 2, 48, .null, 2, 0),
  (48, .iaload, 49, .null, 0, 0),
  (49, .aload_n 0, 50, .null, 0, 0),
  (50, .getfield 52, 53, .null, 8, 4),
  (53, .iload 6, 55, .null, 6, 0),
  (55, .aaload, 56, .null, 0, 0),
  (56, .iload_n 2, 57, .null, 2, 0),
  (57, .iaload, 58, .null, 0, 0),
  (58, .if_icmp .ne 6, 61, .null, 64, 0),
  (61, .iinc 5 1, 64, .int (1), 5, 0),
  (64, .iinc 6 1, 67, .int (1), 6, 0),
  (67, .goto (-49), 70, .null, 18, 0),
  (70, .iload_n 3, 71, .null, 3, 0),
  (71, .iload 5, 73, .null, 5, 0),
  (73, .invokestatic 244, 76, .retAddr 0, 0, 0),
  (76, .istore_n 3, 77, .null, 3, 0),
  (77, .iinc 4 1, 80, .int (1), 4, 0),
  (80, .goto (-75), 83, .null, 5, 0),
  (83, .iload_n 3, 84, .null, 3, 0),
  (84, .ireturn, 85, .null, 0, 0)]
def tbX4_drift : pm_Tb := [(0, .iload_n 2, 1, .null, 2, 0),
  (1, .iconst 1, 2, .int (1), 0, 0),
  (2, .sipush 200, 5, .int (200), 0, 0),
  (5, .invokestatic 59, 8, .ref 3, 97, 0),
  (8, .ifCond .eq 12, 11, .null, 20, 0),
  (11, .iload_n 3, 12, .null, 3, 0),
  (12, .iconst 0, 13, .int (0), 0, 0),
  (13, .iconst 1, 14, .int (1), 0, 0),
  (14, .invokestatic 59, 17, .ref 3, 97, 0),
  (17, .ifCond .ne 5, 20, .null, 22, 0),
  (20, .iconst (-1), 21, .int (-1), 0, 0),
  (21, .ireturn, 22, .null, 0, 0),
  (22, .aload_n 0, 23, .null, 0, 0),
  (23, .getfield 12, 26, .null, 0, 4),
  (26, .getfield 87, 29, .null, 0, 0),
  (29, .ifCond .ne 6, 32, .null, 35, 0),
  (32, .bipush (-2), 34, .int (-2), 0, 0),
  (34, .ireturn, 35, .null, 0, 0),
  (35, .aload_n 0, 36, .null, 0, 0),
  (36, .getfield 16, 39, .null, 1, 4),
  (39, .aload_n 0, 40, .null, 0, 0),
  (40, .getfield 12, 43, .null, 0, 4),
  (43, .invokevirtual 80, 46, .ref 2, 2, 0),
  (46, .aload_n 0, 47, .null, 0, 0),
  (47, .getfield 12, 50, .null, 0, 4),
  (50, .invokevirtual 103, 53, .ref 1, 6, 0),
  (53, .istore 4, 55, .null, 4, 0),
  (55, .iconst 0, 56, .int (0), 0, 0),
  (56, .istore 5, 58, .null, 5, 0),
  (58, .iload_n 1, 59, .null, 1, 0),
  (59, .istore 6, 61, .null, 6, 0),
  (61, .iconst 0, 62, .int (0), 0, 0),
  (62, .istore 7, 64, .null, 7, 0),
  (64, .iload 7, 66, .null, 7, 0),
  (66, .iload_n 2, 67, .null, 2, 0),
  (67, .if_icmp .ge 86, 70, .null, 153, 0),
  (70, .iload 6, 72, .null, 6, 0),
  (72, .ldc 247, 74, .int (1103515245), 0, 0),
  (74, .imul, 75, .null, 0, 0),
  (75, .sipush 12345, 78, .int (12345), 0, 0),
  (78, .iadd, 79, .null, 0, 0),
  (79, .istore 6, 81, .null, 6, 0),
  (81, .iload 6, 83, .null, 6, 0),
  (83, .bipush 16, 85, .int (16), 0, 0),
  (85, .iushr, 86, .null, 0, 0),
  (86, .sipush 32767, 89, .int (32767), 0, 0),
  (89, .iand, 90, .null, 0, 0),
  (90, .istore 8, 92, .null, 8, 0),
  (92, .aload_n 0, 93, .null, 0, 0),
  (93, .getfield 16, 96, .null, 1, 4),
  (96, .iload 8, 98, .null, 8, 0),
  (98, .aload_n 0, 99, .null, 0, 0),
  (99, .getfield 12, 102, .null, 0, 4),
  (102, .getfield 87, 105, .null, 0, 0),
  (105, .irem, 106, .null, 0, 0),
  (106, .iload 8, 108, .null, 8, 0),
  (108, .bipush 8, 110, .int (8), 0, 0),
  (110, .idiv, 111, .null, 0, 0),
  (111, .bipush 19, 113, .int (19), 0, 0),
  (113, .irem, 114, .null, 0, 0),
  (114, .bipush 9, 116, .int (9), 0, 0),
  (116, .isub, 117, .null, 0, 0),
  (117, .invokevirtual 140, 120, .ref 3, 13, 0),
  (120, .aload_n 0, 121, .null, 0, 0),
  (121, .getfield 16, 124, .null, 1, 4),
  (124, .invokevirtual 176, 127, .ref 1, 17, 0),
  (127, .iload 5, 129, .null, 5, 0),
  (129, .aload_n 0, 130, .null, 0, 0),
  (130, .getfield 16, 133, .null, 1, 4),
  (133, .invokevirtual 103, 136, .ref 1, 6, 0),
  (136, .iload 4, 138, .null, 4, 0),
  (138, .isub, 139, .null, 0, 0),
  (139, .invokestatic 216, 142, .retAddr 2, 0, 0),
  (142, .invokestatic 244, 145, .retAddr 0, 0, 0),
  (145, .istore 5, 147, .null, 5, 0),
  (147, .iinc 7 1, 150, .int (1), 7, 0),
  (150, .goto (-86), 153, .null, 64, 0),
  (153, .iload_n 3, 154, .null, 3, 0),
  (154, .ifCond .ne 8, 157, .null, 162, 0),
  (157, .iload 5, 159, .null, 5, 0),
  (159, .goto 10, 162, .null, 169, 0),
  (162, .aload_n 0, 163, .null, 0, 0),
  (163, .getfield 16, 166, .null, 1, 4),
  (166, .invokevirtual 103, 169, .ref 1, 6, 0),
  (169, .ireturn, 170, .null, 0, 0)]
def tbX4_keep : pm_Tb := [(0, .iload_n 1, 1, .null, 1, 0),
  (1, .iconst 0, 2, .int (0), 0, 0),
  (2, .iconst 1, 3, .int (1), 0, 0),
  (3, .invokestatic 59, 6, .ref 3, 97, 0),
  (6, .ifCond .ne 5, 9, .null, 11, 0),
  (9, .iconst (-1), 10, .int (-1), 0, 0),
  (10, .ireturn, 11, .null, 0, 0),
  (11, .aload_n 0, 12, .null, 0, 0),
  (12, .getfield 25, 15, .null, 4, 4),
  (15, .iload_n 1, 16, .null, 1, 0),
  (16, .baload, 17, .null, 0, 0),
  (17, .ifCond .eq 7, 20, .null, 24, 0),
  (20, .iconst 1, 21, .int (1), 0, 0),
  (21, .goto 4, 24, .null, 25, 0),
  (24, .iconst 0, 25, .int (0), 0, 0),
  (25, .istore_n 2, 26, .null, 2, 0),
  (26, .aload_n 0, 27, .null, 0, 0),
  (27, .iload_n 1, 28, .null, 1, 0),
  (28, .invokevirtual 248, 31, .ref 2, 91, 4),
  (31, .aload_n 0, 32, .null, 0, 0),
  (32, .getfield 12, 35, .null, 0, 4),
  (35, .invokevirtual 80, 38, .ref 2, 2, 0),
  (38, .aload_n 0, 39, .null, 0, 0),
  (39, .getfield 25, 42, .null, 4, 4),
  (42, .iload_n 1, 43, .null, 1, 0),
  (43, .iconst 1, 44, .int (1), 0, 0),
  (44, .bastore, 45, .null, 0, 0),
  (45, .iload_n 2, 46, .null, 2, 0),
  (46, .ireturn, 47, .null, 0, 0)]
def tbX4_back : pm_Tb := [(0, .iload_n 1, 1, .null, 1, 0),
  (1, .iconst 0, 2, .int (0), 0, 0),
  (2, .iconst 1, 3, .int (1), 0, 0),
  (3, .invokestatic 59, 6, .ref 3, 97, 0),
  (6, .ifCond .ne 5, 9, .null, 11, 0),
  (9, .iconst (-1), 10, .int (-1), 0, 0),
  (10, .ireturn, 11, .null, 0, 0),
  (11, .aload_n 0, 12, .null, 0, 0),
  (12, .getfield 25, 15, .null, 4, 4),
  (15, .iload_n 1, 16, .null, 1, 0),
  (16, .baload, 17, .null, 0, 0),
  (17, .ifCond .ne 6, 20, .null, 23, 0),
  (20, .bipush (-2), 22, .int (-2), 0, 0),
  (22, .ireturn, 23, .null, 0, 0),
  (23, .aload_n 0, 24, .null, 0, 0),
  (24, .getfield 12, 27, .null, 0, 4),
  (27, .aload_n 0, 28, .null, 0, 0),
  (28, .iload_n 1, 29, .null, 1, 0),
  (29, .invokevirtual 248, 32, .ref 2, 91, 4),
  (32, .invokevirtual 80, 35, .ref 2, 2, 0),
  (35, .aload_n 0, 36, .null, 0, 0),
  (36, .getfield 12, 39, .null, 0, 4),
  (39, .getfield 93, 42, .null, 3, 0),
  (42, .ireturn, 43, .null, 0, 0)]
def tbX4_imageOf : pm_Tb := [(0, .iload_n 1, 1, .null, 1, 0),
  (1, .ifCond .ne 10, 4, .null, 11, 0),
  (4, .aload_n 0, 5, .null, 0, 0),
  (5, .getfield 19, 8, .null, 2, 4),
  (8, .goto 7, 11, .null, 15, 0),
  (11, .aload_n 0, 12, .null, 0, 0),
  (12, .getfield 22, 15, .null, 3, 4),
  (15, .areturn, 16, .null, 0, 0)]
def tbX4_sheet : pm_Tb := [(0, .iload_n 1, 1, .null, 1, 0),
  (1, .iconst 0, 2, .int (0), 0, 0),
  (2, .iconst 3, 3, .int (3), 0, 0),
  (3, .invokestatic 59, 6, .ref 3, 97, 0),
  (6, .ifCond .eq 18, 9, .null, 24, 0),
  (9, .iload_n 2, 10, .null, 2, 0),
  (10, .iconst 0, 11, .int (0), 0, 0),
  (11, .iconst 2, 12, .int (2), 0, 0),
  (12, .invokestatic 59, 15, .ref 3, 97, 0),
  (15, .ifCond .eq 9, 18, .null, 24, 0),
  (18, .iload_n 3, 19, .null, 3, 0),
  (19, .bipush 40, 21, .int (40), 0, 0),
  (21, .if_icmp .le 5, 24, .null, 26, 0),
  (24, .iconst (-1), 25, .int (-1), 0, 0),
  (25, .ireturn, 26, .null, 0, 0),
  (26, .iload_n 3, 27, .null, 3, 0),
  (27, .ifCond .ge 6, 30, .null, 33, 0),
  (30, .bipush (-14), 32, .int (-14), 0, 0),
  (32, .ireturn, 33, .null, 0, 0),
  (33, .aload_n 0, 34, .null, 0, 0),
  (34, .getfield 46, 37, .null, 7, 4),
  (37, .iload_n 1, 38, .null, 1, 0),
  (38, .iload_n 2, 39, .null, 2, 0),
  (39, .iload_n 3, 40, .null, 3, 0),
  (40, .invokevirtual 252, 43, .ref 4, 27, 2),
  (43, .iconst 1, 44, .int (1), 0, 0),
  (44, .ireturn, 45, .null, 0, 0)]
def tbX4_lay : pm_Tb := [(0, .iload_n 1, 1, .null, 1, 0),
  (1, .iconst 0, 2, .int (0), 0, 0),
  (2, .iconst 3, 3, .int (3), 0, 0),
  (3, .invokestatic 59, 6, .ref 3, 97, 0),
  (6, .ifCond .ne 5, 9, .null, 11, 0),
  (9, .iconst (-1), 10, .int (-1), 0, 0),
  (10, .ireturn, 11, .null, 0, 0),
  (11, .aload_n 0, 12, .null, 0, 0),
  (12, .getfield 46, 15, .null, 7, 4),
  (15, .iload_n 1, 16, .null, 1, 0),
  (16, .iload_n 2, 17, .null, 2, 0),
  (17, .invokevirtual 255, 20, .ref 3, 29, 2),
  (20, .istore 4, 22, .null, 4, 0),
  (22, .iload 4, 24, .null, 4, 0),
  (24, .ifCond .eq 9, 27, .null, 33, 0),
  (27, .bipush (-10), 29, .int (-10), 0, 0),
  (29, .iload 4, 31, .null, 4, 0),
  (31, .isub, 32, .null, 0, 0),
  (32, .ireturn, 33, .null, 0, 0),
  (33, .aload_n 0, 34, .null, 0, 0),
  (34, .getfield 46, 37, .null, 7, 4),
  (37, .iload_n 1, 38, .null, 1, 0),
  (38, .iload_n 2, 39, .null, 2, 0),
  (39, .iload_n 3, 40, .null, 3, 0),
  (40, .invokevirtual 258, 43, .ref 4, 28, 2),
  (43, .iconst 1, 44, .int (1), 0, 0),
  (44, .ireturn, 45, .null, 0, 0)]
def tbX4_read : pm_Tb := [(0, .iload_n 1, 1, .null, 1, 0),
  (1, .iconst 0, 2, .int (0), 0, 0),
  (2, .iconst 3, 3, .int (3), 0, 0),
  (3, .invokestatic 59, 6, .ref 3, 97, 0),
  (6, .ifCond .eq 23, 9, .null, 29, 0),
  (9, .iload_n 2, 10, .null, 2, 0),
  (10, .iconst 0, 11, .int (0), 0, 0),
  (11, .iconst 2, 12, .int (2), 0, 0),
  (12, .invokestatic 59, 15, .ref 3, 97, 0),
  (15, .ifCond .eq 14, 18, .null, 29, 0),
  (18, .iload 4, 20, .null, 4, 0),
  (20, .iconst 0, 21, .int (0), 0, 0),
  (21, .bipush 20, 23, .int (20), 0, 0),
  (23, .invokestatic 59, 26, .ref 3, 97, 0),
  (26, .ifCond .ne 5, 29, .null, 31, 0),
  (29, .iconst (-1), 30, .int (-1), 0, 0),
  (30, .ireturn, 31, .null, 0, 0),
  (31, .aload_n 0, 32, .null, 0, 0),
  (32, .getfield 12, 35, .null, 0, 4),
  (35, .getfield 90, 38, .null, 1, 0),
  (38, .istore 5, 40, .null, 5, 0),
  (40, .iconst 0, 41, .int (0), 0, 0),
  (41, .istore 6, 43, .null, 6, 0),
  (43, .iconst 0, 44, .int (0), 0, 0),
  (44, .istore 7, 46, .null, 7, 0),
  (46, .iconst 0, 47, .int (0), 0, 0),
  (47, .istore 8, 49, .null, 8, 0),
  (49, .iload 8, 51, .null, 8, 0),
  (51, .iload 4, 53, .null, 4, 0),
  (53, .if_icmp .ge 92, 56, .null, 145, 0),
  (56, .iload 6, 58, .null, 6, 0),
  (58, .ifCond .ne 87, 61, .null, 145, 0),
  (61, .aload_n 0, 62, .null, 0, 0),
  (62, .getfield 46, 65, .null, 7, 4),
  (65, .iload_n 1, 66, .null, 1, 0),
  (66, .iload_n 2, 67, .null, 2, 0),
  (67, .iload_n 3, 68, .null, 3, 0),
  (68, .iload 8, 70, .null, 8, 0),
  (70, .invokevirtual 260, 73, .ref 5, 31, 2),
  (73, .istore 6, 75, .null, 6, 0),
  (75, .iload 6, 77, .null, 6, 0),
  (77, .ifCond .ne 62, 80, .null, 139, 0),
  (80, .iload_n 3, 81, .null, 3, 0),
  (81, .iconst 2, 82, .int (2), 0, 0),
  (82, .iload 8, 84, .null, 8, 0),
  (84, .imul, 85, .null, 0, 0),
  (85, .iadd, 86, .null, 0, 0),
  (86, .istore 9, 88, .null, 9, 0),
  (88, .aload_n 0, 89, .null, 0, 0),
  (89, .aload_n 0, 90, .null, 0, 0),
  (90, .getfield 46, 93, .null, 7, 4),
  (93, .getfield 263, 96, .null, 0, 2),
  (96, .iload_n 1, 97, .null, 1, 0),
  (97, .aaload, 98, .null, 0, 0),
  (98, .iload 9, 100, .null, 9, 0),
  (100, .iaload, 101, .null, 0, 0),
  (101, .aload_n 0, 102, .null, 0, 0),
  (102, .getfield 46, 105, .null, 7, 4),
  (105, .getfield 263, 108, .null, 0, 2),
  (108, .iload_n 1, 109, .null, 1, 0),
  (109, .aaload, 110, .null, 0, 0),
  (110, .iload 9, 112, .null, 9, 0),
  (112, .iconst 1, 113, .int (1), 0, 0),
  (113, .iadd, 114, .null, 0, 0),
  (114, .iaload, 115, .null, 0, 0),
  (115, .invokevirtual 266, 118, .ref 3, 56, 4),
  (118, .ifCond .ge 18, 121, .null, 136, 0),
  (121, .aload_n 0, 122, .null, 0, 0),
  (122, .getfield 12, 125, .null, 0, 4),
  (125, .iload 5, 127, .null, 5, 0),
  (127, .putfield 90, 130, .null, 1, 0),
  (130, .bipush (-20), 132, .int (-20), 0, 0),
  (132, .iload 8, 134, .null, 8, 0),
  (134, .isub, 135, .null, 0, 0),
  (135, .ireturn, 136, .null, 0, 0),
  (136, .iinc 7 1, 139, .int (1), 7, 0),
  (139, .iinc 8 1, 142, .int (1), 8, 0),
  (142, .goto (-93), 145, .null, 49, 0),
  (145, .aload_n 0, 146, .null, 0, 0),
  (146, .iload 6, 148, .null, 6, 0),
  (148, .putfield 55, 151, .null, 9, 4),
  (151, .iload 7, 153, .null, 7, 0),
  (153, .ireturn, 154, .null, 0, 0)]
def tbX4_torn : pm_Tb := [(0, .aload_n 0, 1, .null, 0, 0),
  (1, .getfield 55, 4, .null, 9, 4),
  (4, .ireturn, 5, .null, 0, 0)]
def tbX4_count : pm_Tb := [(0, .iload_n 1, 1, .null, 1, 0),
  (1, .tableswitch 129 0 5 #[39, 47, 77, 85, 111, 120], 40, .null, 130, 0),
  (40, .aload_n 0, 41, .null, 0, 0),
  (41, .getfield 39, 44, .null, 6, 4),
  (44, .getfield 84, 47, .null, 0, 1),
  (47, .ireturn, 48, .null, 0, 0),
  (48, .aload_n 0, 49, .null, 0, 0),
  (49, .getfield 25, 52, .null, 4, 4),
  (52, .iconst 0, 53, .int (0), 0, 0),
  (53, .baload, 54, .null, 0, 0),
  (54, .ifCond .eq 7, 57, .null, 61, 0),
  (57, .iconst 1, 58, .int (1), 0, 0),
  (58, .goto 4, 61, .null, 62, 0),
  (61, .iconst 0, 62, .int (0), 0, 0),
  (62, .aload_n 0, 63, .null, 0, 0),
  (63, .getfield 25, 66, .null, 4, 4),
  (66, .iconst 1, 67, .int (1), 0, 0),
  (67, .baload, 68, .null, 0, 0),
  (68, .ifCond .eq 7, 71, .null, 75, 0),
  (71, .iconst 1, 72, .int (1), 0, 0),
  (72, .goto 4, 75, .null, 76, 0),
  (75, .iconst 0, 76, .int (0), 0, 0),
  (76, .iadd, 77, .null, 0, 0),
  (77, .ireturn, 78, .null, 0, 0),
  (78, .aload_n 0, 79, .null, 0, 0),
  (79, .getfield 32, 82, .null, 5, 4),
  (82, .getfield 67, 85, .null, 1, 3),
  (85, .ireturn, 86, .null, 0, 0),
  (86, .aload_n 0, 87, .null, 0, 0),
  (87, .getfield 46, 90, .null, 7, 4),
  (90, .iconst 0, 91, .int (0), 0, 0),
  (91, .invokevirtual 269, 94, .ref 2, 26, 2),
  (94, .ifCond .eq 8, 97, .null, 102, 0),
  (97, .bipush (-4), 99, .int (-4), 0, 0),
  (99, .goto 12, 102, .null, 111, 0),
  (102, .aload_n 0, 103, .null, 0, 0),
  (103, .getfield 46, 106, .null, 7, 4),
  (106, .getfield 272, 109, .null, 1, 2),
  (109, .iconst 0, 110, .int (0), 0, 0),
  (110, .iaload, 111, .null, 0, 0),
  (111, .ireturn, 112, .null, 0, 0),
  (112, .aload_n 0, 113, .null, 0, 0),
  (113, .getfield 12, 116, .null, 0, 4),
  (116, .iconst 2, 117, .int (2), 0, 0),
  (117, .invokevirtual 275, 120, .ref 2, 5, 0),
  (120, .ireturn, 121, .null, 0, 0),
  (121, .aload_n 0, 122, .null, 0, 0),
  (122, .getfield 12, 125, .null, 0, 4),
  (125, .iconst 3, 126, .int (3), 0, 0),
  (126, .invokevirtual 275, 129, .ref 2, 5, 0),
  (129, .ireturn, 130, .null, 0, 0),
  (130, .iconst (-1), 131, .int (-1), 0, 0),
  (131, .ireturn, 132, .null, 0, 0)]
def tbX4_within : pm_Tb := [(0, .iload_n 0, 1, .null, 0, 0),
  (1, .iload_n 1, 2, .null, 1, 0),
  (2, .if_icmp .lt 12, 5, .null, 14, 0),
  (5, .iload_n 0, 6, .null, 0, 0),
  (6, .iload_n 2, 7, .null, 2, 0),
  (7, .if_icmp .gt 7, 10, .null, 14, 0),
  (10, .iconst 1, 11, .int (1), 0, 0),
  (11, .goto 4, 14, .null, 15, 0),
  (14, .iconst 0, 15, .int (0), 0, 0),
  (15, .ireturn, 16, .null, 0, 0)]
end
section
def tbX5_in : pm_Tb := [(0, .lload_n 0, 1, .null, 0, 0),
  (1, .lload_n 2, 2, .null, 2, 0),
  (2, .lcmp, 3, .null, 0, 0),
  (3, .ifCond .lt 14, 6, .null, 17, 0),
  (6, .lload_n 0, 7, .null, 0, 0),
  (7, .lload 4, 9, .null, 4, 0),
  (9, .lcmp, 10, .null, 0, 0),
  (10, .ifCond .gt 7, 13, .null, 17, 0),
  (13, .iconst 1, 14, .int (1), 0, 0),
  (14, .goto 4, 17, .null, 18, 0),
  (17, .iconst 0, 18, .int (0), 0, 0),
  (18, .ireturn, 19, .null, 0, 0)]
def tbX5_amount : pm_Tb := [(0, .iload_n 0, 1, .null, 0, 0),
  (1, .ifCond .ge 8, 4, .null, 9, 0),
  (4, .iload_n 0, 5, .null, 0, 0),
  (5, .ineg, 6, .null, 0, 0),
  (6, .goto 4, 9, .null, 10, 0),
  (9, .iload_n 0, 10, .null, 0, 0),
  (10, .ireturn, 11, .null, 0, 0)]
def tbX5_feed : pm_Tb := [(0, .iload_n 1, 1, .null, 1, 0),
  (1, .i2l, 2, .null, 0, 0),
  (2, .lconst 0, 3, .long 0, 0, 0),
  (3, .ldc2_w 51, 6, .long (127), 0, 0),
  (6, .invokestatic 53, 9, .ref 3, 98, 0),
  (9, .ifCond .ne 5, 12, .null, 14, 0),
  (12, .iconst (-1), 13, .int (-1), 0, 0),
  (13, .ireturn, 14, .null, 0, 0),
  (14, .aload_n 0, 15, .null, 0, 0),
  (15, .getfield 57, 18, .null, 4, 5),
  (18, .sipush 160, 21, .int (160), 0, 0),
  (21, .if_icmp .ne 6, 24, .null, 27, 0),
  (24, .bipush (-3), 26, .int (-3), 0, 0),
  (26, .ireturn, 27, .null, 0, 0),
  (27, .aload_n 0, 28, .null, 0, 0),
  (28, .getfield 16, 31, .null, 3, 5),
  (31, .aload_n 0, 32, .null, 0, 0),
  (32, .getfield 57, 35, .null, 4, 5),
  (35, .iload_n 1, 36, .null, 1, 0),
  (36, .iastore, 37, .null, 0, 0),
  (37, .aload_n 0, 38, .null, 0, 0),
  (38, .dup, 39, .null, 0, 0),
  (39, .getfield 57, 42, .null, 4, 5),
  (42, .iconst 1, 43, .int (1), 0, 0),
  (43, .iadd, 44, .null, 0, 0),
  (44, .putfield 57, 47, .null, 4, 5),
  (47, .aload_n 0, 48, .null, 0, 0),
  (48, .getfield 57, 51, .null, 4, 5),
  (51, .ireturn, 52, .null, 0, 0)]
def tbX5_end : pm_Tb := [(0, .iload_n 1, 1, .null, 1, 0),
  (1, .i2l, 2, .null, 0, 0),
  (2, .lconst 0, 3, .long 0, 0, 0),
  (3, .aload_n 0, 4, .null, 0, 0),
  (4, .getfield 57, 7, .null, 4, 5),
  (7, .i2l, 8, .null, 0, 0),
  (8, .invokestatic 53, 11, .ref 3, 98, 0),
  (11, .ifCond .ne 5, 14, .null, 16, 0),
  (14, .iconst (-1), 15, .int (-1), 0, 0),
  (15, .ireturn, 16, .null, 0, 0),
  (16, .aload_n 0, 17, .null, 0, 0),
  (17, .getfield 57, 20, .null, 4, 5),
  (20, .istore_n 2, 21, .null, 2, 0),
  (21, .aload_n 0, 22, .null, 0, 0),
  (22, .iload_n 1, 23, .null, 1, 0),
  (23, .putfield 57, 26, .null, 4, 5),
  (26, .iload_n 2, 27, .null, 2, 0),
  (27, .ireturn, 28, .null, 0, 0)]
def tbX5_byteAt : pm_Tb := [(0, .iload_n 1, 1, .null, 1, 0),
  (1, .aload_n 0, 2, .null, 0, 0),
  (2, .getfield 57, 5, .null, 4, 5),
  (5, .if_icmp .ge 12, 8, .null, 17, 0),
  (8, .aload_n 0, 9, .null, 0, 0),
  (9, .getfield 16, 12, .null, 3, 5),
  (12, .iload_n 1, 13, .null, 1, 0),
  (13, .iaload, 14, .null, 0, 0),
  (14, .goto 5, 17, .null, 19, 0),
  (17, .bipush (-4), 19, .int (-4), 0, 0),
  (19, .ireturn, 20, .null, 0, 0)]
def tbX5_fails : pm_Tb := [(0, .aload_n 0, 1, .null, 0, 0),
  (1, .getfield 60, 4, .null, 6, 5),
  (4, .ifCond .ne 16, 7, .null, 20, 0),
  (7, .aload_n 0, 8, .null, 0, 0),
  (8, .iload_n 1, 9, .null, 1, 0),
  (9, .putfield 60, 12, .null, 6, 5),
  (12, .aload_n 0, 13, .null, 0, 0),
  (13, .aload_n 0, 14, .null, 0, 0),
  (14, .getfield 63, 17, .null, 9, 5),
  (17, .putfield 66, 20, .null, 7, 5),
  (20, .return_, 21, .null, 0, 0)]
def tbX5_nameHere : pm_Tb := [(0, .iconst 0, 1, .int (0), 0, 0),
  (1, .istore_n 1, 2, .null, 1, 0),
  (2, .iload_n 1, 3, .null, 1, 0),
  (3, .bipush 7, 5, .int (7), 0, 0),
  (5, .if_icmp .ge 113, 8, .null, 118, 0),
  (8, .aload_n 0, 9, .null, 0, 0),
  (9, .getfield 69, 12, .null, 10, 5),
  (12, .iconst 1, 13, .int (1), 0, 0),
  (13, .if_icmp .ne 105, 16, .null, 118, 0),
  (16, .aload_n 0, 17, .null, 0, 0),
  (17, .getfield 72, 20, .null, 8, 5),
  (20, .aload_n 0, 21, .null, 0, 0),
  (21, .getfield 63, 24, .null, 9, 5),
  (24, .isub, 25, .null, 0, 0),
  (25, .aload_n 0, 26, .null, 0, 0),
  (26, .getfield 19, 29, .null, 12, 5),
  (29, .iload_n 1, 30, .null, 1, 0),
  (30, .iconst 1, 31, .int (1), 0, 0),
  (31, .iadd, 32, .null, 0, 0),
  (32, .iaload, 33, .null, 0, 0),
  (33, .aload_n 0, 34, .null, 0, 0),
  (34, .getfield 19, 37, .null, 12, 5),
  (37, .iload_n 1, 38, .null, 1, 0),
  (38, .iaload, 39, .null, 0, 0),
  (39, .isub, 40, .null, 0, 0),
  (40, .if_icmp .ne 7, 43, .null, 47, 0),
  (43, .iconst 1, 44, .int (1), 0, 0),
  (44, .goto 4, 47, .null, 48, 0),
  (47, .iconst 0, 48, .int (0), 0, 0),
  (48, .istore_n 2, 49, .null, 2, 0),
  (49, .iconst 0, 50, .int (0), 0, 0),
  (50, .istore_n 3, 51, .null, 3, 0),
  (51, .iload_n 2, 52, .null, 2, 0),
  (52, .ifCond .eq 54, 55, .null, 106, 0),
  (55, .iload_n 3, 56, .null, 3, 0),
  (56, .aload_n 0, 57, .null, 0, 0),
  (57, .getfield 72, 60, .null, 8, 5),
  (60, .aload_n 0, 61, .null, 0, 0),
  (61, .getfield 63, 64, .null, 9, 5),
  (64, .isub, 65, .null, 0, 0),
  (65, .if_icmp .ge 41, 68, .null, 106, 0),
  (68, .aload_n 0, 69, .null, 0, 0),
  (69, .aload_n 0, 70, .null, 0, 0),
  (70, .getfield 63, 73, .null, 9, 5),
  (73, .iload_n 3, 74, .null, 3, 0),
  (74, .iadd, 75, .null, 0, 0),
  (75, .invokevirtual 75, 78, .ref 2, 102, 5),
  (78, .aload_n 0, 79, .null, 0, 0),
  (79, .getfield 22, 82, .null, 13, 5),
  (82, .aload_n 0, 83, .null, 0, 0),
  (83, .getfield 19, 86, .null, 12, 5),
  (86, .iload_n 1, 87, .null, 1, 0),
  (87, .iaload, 88, .null, 0, 0),
  (88, .iload_n 3, 89, .null, 3, 0),
  (89, .iadd, 90, .null, 0, 0),
  (90, .iaload, 91, .null, 0, 0),
  (91, .if_icmp .ne 7, 94, .null, 98, 0),
  (94, .iconst 1, 95, .int (1), 0, 0),
  (95, .goto 4, 98, .null, 99, 0),
  (98, .iconst 0, 99, .int (0), 0, 0),
  (99, .istore_n 2, 100, .null, 2, 0),
  (100, .iinc 3 1, 103, .int (1), 3, 0),
  (103, .goto (-52), 106, .null, 51, 0),
  (106, .iload_n 2, 107, .null, 2, 0),
  (107, .ifCond .eq 5, 110, .null, 112, 0),
  (110, .iload_n 1, 111, .null, 1, 0),
  (111, .ireturn, 112, .null, 0, 0),
  (112, .iinc 1 1, 115, .int (1), 1, 0),
  (115, .goto (-113), 118, .null, 2, 0),
  (118, .bipush (-4), 120, .int (-4), 0, 0),
  (120, .ireturn, 121, .null, 0, 0)]
def tbX5_readsOn : pm_Tb := [(0, .aload_n 0, 1, .null, 0, 0),
  (1, .getfield 60, 4, .null, 6, 5),
  (4, .ifCond .le 4, 7, .null, 8, 0),
  (7, .return_, 8, .null, 0, 0),
  (8, .aload_n 0, 9, .null, 0, 0),
  (9, .aload_n 0, 10, .null, 0, 0),
  (10, .getfield 72, 13, .null, 8, 5),
  (13, .invokevirtual 75, 16, .ref 2, 102, 5),
  (16, .bipush 32, 18, .int (32), 0, 0),
  (18, .if_icmp .ne 16, 21, .null, 34, 0),
  (21, .aload_n 0, 22, .null, 0, 0),
  (22, .dup, 23, .null, 0, 0),
  (23, .getfield 72, 26, .null, 8, 5),
  (26, .iconst 1, 27, .int (1), 0, 0),
  (27, .iadd, 28, .null, 0, 0),
  (28, .putfield 72, 31, .null, 8, 5),
  (31, .goto (-23), 34, .null, 8, 0),
  (34, .aload_n 0, 35, .null, 0, 0),
  (35, .aload_n 0, 36, .null, 0, 0),
  (36, .getfield 72, 39, .null, 8, 5),
  (39, .putfield 63, 42, .null, 9, 5),
  (42, .aload_n 0, 43, .null, 0, 0),
  (43, .aload_n 0, 44, .null, 0, 0),
  (44, .getfield 72, 47, .null, 8, 5),
  (47, .invokevirtual 75, 50, .ref 2, 102, 5),
  (50, .istore_n 1, 51, .null, 1, 0),
  (51, .aload_n 0, 52, .null, 0, 0),
  (52, .iconst 0, 53, .int (0), 0, 0),
  (53, .putfield 79, 56, .null, 11, 5),
  (56, .iload_n 1, 57, .null, 1, 0),
  (57, .bipush (-4), 59, .int (-4), 0, 0),
  (59, .if_icmp .ne 11, 62, .null, 70, 0),
  (62, .aload_n 0, 63, .null, 0, 0),
  (63, .iconst 0, 64, .int (0), 0, 0),
  (64, .putfield 69, 67, .null, 10, 5),
  (67, .goto 202, 70, .null, 269, 0),
  (70, .iload_n 1, 71, .null, 1, 0),
  (71, .i2l, 72, .null, 0, 0),
  (72, .ldc2_w 82, 75, .long (97), 0, 0),
  (75, .ldc2_w 84, 78, .long (122), 0, 0),
  (78, .invokestatic 53, 81, .ref 3, 98, 0),
  (81, .ifCond .eq 45, 84, .null, 126, 0),
  (84, .aload_n 0, 85, .null, 0, 0),
  (85, .aload_n 0, 86, .null, 0, 0),
  (86, .getfield 72, 89, .null, 8, 5),
  (89, .invokevirtual 75, 92, .ref 2, 102, 5),
  (92, .i2l, 93, .null, 0, 0),
  (93, .ldc2_w 82, 96, .long (97), 0, 0),
  (96, .ldc2_w 84, 99, .long (122), 0, 0),
  (99, .invokestatic 53, 102, .ref 3, 98, 0),
  (102, .ifCond .eq 16, 105, .null, 118, 0),
  (105, .aload_n 0, 106, .null, 0, 0),
  (106, .dup, 107, .null, 0, 0),
  (107, .getfield 72, 110, .null, 8, 5),
  (110, .iconst 1, 111, .int (1), 0, 0),
  (111, .iadd, 112, .null, 0, 0),
  (112, .putfield 72, 115, .null, 8, 5),
  (115, .goto (-31), 118, .null, 84, 0),
  (118, .aload_n 0, 119, .null, 0, 0),
  (119, .iconst 1, 120, .int (1), 0, 0),
  (120, .putfield 69, 123, .null, 10, 5),
  (123, .goto 146, 126, .null, 269, 0),
  (126, .iload_n 1, 127, .null, 1, 0),
  (127, .i2l, 128, .null, 0, 0),
  (128, .ldc2_w 86, 131, .long (48), 0, 0),
  (131, .ldc2_w 88, 134, .long (57), 0, 0),
  (134, .invokestatic 53, 137, .ref 3, 98, 0),
  (137, .ifCond .eq 106, 140, .null, 243, 0),
  (140, .aload_n 0, 141, .null, 0, 0),
  (141, .aload_n 0, 142, .null, 0, 0),
  (142, .getfield 72, 145, .null, 8, 5),
  (145, .invokevirtual 75, 148, .ref 2, 102, 5),
  (148, .i2l, 149, .null, 0, 0),
  (149, .ldc2_w 86, 152, .long (48), 0, 0),
  (152, .ldc2_w 88, 155, .long (57), 0, 0),
  (155, .invokestatic 53, 158, .ref 3, 98, 0),
  (158, .ifCond .eq 59, 161, .null, 217, 0),
  (161, .aload_n 0, 162, .null, 0, 0),
  (162, .aload_n 0, 163, .null, 0, 0),
  (163, .getfield 72, 166, .null, 8, 5),
  (166, .aload_n 0, 167, .null, 0, 0),
  (167, .getfield 63, 170, .null, 9, 5),
  (170, .isub, 171, .null, 0, 0),
  (171, .iconst 2, 172, .int (2), 0, 0),
  (172, .if_icmp .ge 25, 175, .null, 197, 0),
  (175, .bipush 10, 177, .int (10), 0, 0),
  (177, .aload_n 0, 178, .null, 0, 0),
  (178, .getfield 79, 181, .null, 11, 5),
  (181, .imul, 182, .null, 0, 0),
  (182, .aload_n 0, 183, .null, 0, 0),
  (183, .aload_n 0, 184, .null, 0, 0),
  (184, .getfield 72, 187, .null, 8, 5),
  (187, .invokevirtual 75, 190, .ref 2, 102, 5),
  (190, .iadd, 191, .null, 0, 0),
  (191, .bipush 48, 193, .int (48), 0, 0),
  (193, .isub, 194, .null, 0, 0),
  (194, .goto 7, 197, .null, 201, 0),
  (197, .aload_n 0, 198, .null, 0, 0),
  (198, .getfield 79, 201, .null, 11, 5),
  (201, .putfield 79, 204, .null, 11, 5),
  (204, .aload_n 0, 205, .null, 0, 0),
  (205, .dup, 206, .null, 0, 0),
  (206, .getfield 72, 209, .null, 8, 5),
  (209, .iconst 1, 210, .int (1), 0, 0),
  (210, .iadd, 211, .null, 0, 0),
  (211, .putfield 72, 214, .null, 8, 5),
  (214, .goto (-74), 217, .null, 140, 0),
  (217, .aload_n 0, 218, .null, 0, 0),
  (218, .iconst 2, 219, .int (2), 0, 0),
  (219, .putfield 69, 222, .null, 10, 5),
  (222, .aload_n 0, 223, .null, 0, 0),
  (223, .getfield 72, 226, .null, 8, 5),
  (226, .aload_n 0, 227, .null, 0, 0),
  (227, .getfield 63, 230, .null, 9, 5),
  (230, .isub, 231, .null, 0, 0),
  (231, .iconst 2, 232, .int (2), 0, 0),
  (232, .if_icmp .le 37, 235, .null, 269, 0),
  (235, .aload_n 0, 236, .null, 0, 0),
  (236, .iconst 1, 237, .int (1), 0, 0),
  (237, .invokevirtual 90, 240, .ref 2, 103, 5),
  (240, .goto 29, 243, .null, 269, 0),
  (243, .aload_n 0, 244, .null, 0, 0),
  (244, .iconst 3, 245, .int (3), 0, 0),
  (245, .putfield 69, 248, .null, 10, 5),
  (248, .aload_n 0, 249, .null, 0, 0),
  (249, .dup, 250, .null, 0, 0),
  (250, .getfield 72, 253, .null, 8, 5),
  (253, .iconst 1, 254, .int (1), 0, 0),
  (254, .iadd, 255, .null, 0, 0),
  (255, .putfield 72, 258, .null, 8, 5),
  (258, .iload_n 1, 259, .null, 1, 0),
  (259, .bipush 59, 261, .int (59), 0, 0),
  (261, .if_icmp .eq 8, 264, .null, 269, 0),
  (264, .aload_n 0, 265, .null, 0, 0),
  (265, .iconst 1, 266, .int (1), 0, 0),
  (266, .invokevirtual 90, 269, .ref 2, 103, 5),
  (269, .return_, 270, .null, 0, 0)]
def tbX5_number : pm_Tb := [(0, .aload_n 0, 1, .null, 0, 0),
  (1, .getfield 60, 4, .null, 6, 5),
  (4, .ifCond .ne 16, 7, .null, 20, 0),
  (7, .aload_n 0, 8, .null, 0, 0),
  (8, .getfield 69, 11, .null, 10, 5),
  (11, .iconst 2, 12, .int (2), 0, 0),
  (12, .if_icmp .eq 8, 15, .null, 20, 0),
  (15, .aload_n 0, 16, .null, 0, 0),
  (16, .iconst 2, 17, .int (2), 0, 0),
  (17, .invokevirtual 90, 20, .ref 2, 103, 5),
  (20, .aload_n 0, 21, .null, 0, 0),
  (21, .getfield 60, 24, .null, 6, 5),
  (24, .ifCond .ne 23, 27, .null, 47, 0),
  (27, .aload_n 0, 28, .null, 0, 0),
  (28, .getfield 79, 31, .null, 11, 5),
  (31, .i2l, 32, .null, 0, 0),
  (32, .iload_n 1, 33, .null, 1, 0),
  (33, .i2l, 34, .null, 0, 0),
  (34, .iload_n 2, 35, .null, 2, 0),
  (35, .i2l, 36, .null, 0, 0),
  (36, .invokestatic 53, 39, .ref 3, 98, 0),
  (39, .ifCond .ne 8, 42, .null, 47, 0),
  (42, .aload_n 0, 43, .null, 0, 0),
  (43, .iconst 3, 44, .int (3), 0, 0),
  (44, .invokevirtual 90, 47, .ref 2, 103, 5),
  (47, .aload_n 0, 48, .null, 0, 0),
  (48, .getfield 60, 51, .null, 6, 5),
  (51, .ifCond .ne 10, 54, .null, 61, 0),
  (54, .aload_n 0, 55, .null, 0, 0),
  (55, .getfield 79, 58, .null, 11, 5),
  (58, .goto 4, 61, .null, 62, 0),
  (61, .iload_n 1, 62, .null, 1, 0),
  (62, .istore_n 3, 63, .null, 3, 0),
  (63, .aload_n 0, 64, .null, 0, 0),
  (64, .invokevirtual 94, 67, .ref 1, 105, 5),
  (67, .iload_n 3, 68, .null, 3, 0),
  (68, .ireturn, 69, .null, 0, 0)]
def tbX5_readMore : pm_Tb := [(0, .iload_n 1, 1, .null, 1, 0),
  (1, .iconst 3, 2, .int (3), 0, 0),
  (2, .if_icmp .gt 116, 5, .null, 118, 0),
  (5, .aload_n 0, 6, .null, 0, 0),
  (6, .getfield 13, 9, .null, 1, 5),
  (9, .bipush 24, 11, .int (24), 0, 0),
  (11, .iaload, 12, .null, 0, 0),
  (12, .istore_n 2, 13, .null, 2, 0),
  (13, .aload_n 0, 14, .null, 0, 0),
  (14, .getfield 13, 17, .null, 1, 5),
  (17, .iload_n 2, 18, .null, 2, 0),
  (18, .iload_n 1, 19, .null, 1, 0),
  (19, .iastore, 20, .null, 0, 0),
  (20, .aload_n 0, 21, .null, 0, 0),
  (21, .getfield 13, 24, .null, 1, 5),
  (24, .iconst 4, 25, .int (4), 0, 0),
  (25, .iload_n 2, 26, .null, 2, 0),
  (26, .iadd, 27, .null, 0, 0),
  (27, .aload_n 0, 28, .null, 0, 0),
  (28, .iconst 0, 29, .int (0), 0, 0),
  (29, .bipush 60, 31, .int (60), 0, 0),
  (31, .invokevirtual 97, 34, .ref 3, 106, 5),
  (34, .iastore, 35, .null, 0, 0),
  (35, .aload_n 0, 36, .null, 0, 0),
  (36, .getfield 13, 39, .null, 1, 5),
  (39, .bipush 8, 41, .int (8), 0, 0),
  (41, .iload_n 2, 42, .null, 2, 0),
  (42, .iadd, 43, .null, 0, 0),
  (43, .aload_n 0, 44, .null, 0, 0),
  (44, .iconst 0, 45, .int (0), 0, 0),
  (45, .bipush 9, 47, .int (9), 0, 0),
  (47, .invokevirtual 97, 50, .ref 3, 106, 5),
  (50, .iastore, 51, .null, 0, 0),
  (51, .aload_n 0, 52, .null, 0, 0),
  (52, .getfield 13, 55, .null, 1, 5),
  (55, .bipush 12, 57, .int (12), 0, 0),
  (57, .iload_n 2, 58, .null, 2, 0),
  (58, .iadd, 59, .null, 0, 0),
  (59, .aload_n 0, 60, .null, 0, 0),
  (60, .iconst 1, 61, .int (1), 0, 0),
  (61, .bipush 9, 63, .int (9), 0, 0),
  (63, .invokevirtual 97, 66, .ref 3, 106, 5),
  (66, .iastore, 67, .null, 0, 0),
  (67, .aload_n 0, 68, .null, 0, 0),
  (68, .getfield 13, 71, .null, 1, 5),
  (71, .bipush 16, 73, .int (16), 0, 0),
  (73, .iload_n 2, 74, .null, 2, 0),
  (74, .iadd, 75, .null, 0, 0),
  (75, .iload_n 2, 76, .null, 2, 0),
  (76, .ifCond .ne 7, 79, .null, 83, 0),
  (79, .iconst 0, 80, .int (0), 0, 0),
  (80, .goto 14, 83, .null, 94, 0),
  (83, .aload_n 0, 84, .null, 0, 0),
  (84, .getfield 13, 87, .null, 1, 5),
  (87, .bipush 16, 89, .int (16), 0, 0),
  (89, .iload_n 2, 90, .null, 2, 0),
  (90, .iadd, 91, .null, 0, 0),
  (91, .iconst 1, 92, .int (1), 0, 0),
  (92, .isub, 93, .null, 0, 0),
  (93, .iaload, 94, .null, 0, 0),
  (94, .aload_n 0, 95, .null, 0, 0),
  (95, .getfield 13, 98, .null, 1, 5),
  (98, .iconst 4, 99, .int (4), 0, 0),
  (99, .iload_n 2, 100, .null, 2, 0),
  (100, .iadd, 101, .null, 0, 0),
  (101, .iaload, 102, .null, 0, 0),
  (102, .iadd, 103, .null, 0, 0),
  (103, .iastore, 104, .null, 0, 0),
  (104, .aload_n 0, 105, .null, 0, 0),
  (105, .getfield 13, 108, .null, 1, 5),
  (108, .bipush 24, 110, .int (24), 0, 0),
  (110, .dup2, 111, .null, 0, 0),
  (111, .iaload, 112, .null, 0, 0),
  (112, .iconst 1, 113, .int (1), 0, 0),
  (113, .iadd, 114, .null, 0, 0),
  (114, .iastore, 115, .null, 0, 0),
  (115, .goto 86, 118, .null, 201, 0),
  (118, .iload_n 1, 119, .null, 1, 0),
  (119, .iconst 4, 120, .int (4), 0, 0),
  (120, .if_icmp .ne 19, 123, .null, 139, 0),
  (123, .aload_n 0, 124, .null, 0, 0),
  (124, .getfield 13, 127, .null, 1, 5),
  (127, .bipush 50, 129, .int (50), 0, 0),
  (129, .aload_n 0, 130, .null, 0, 0),
  (130, .iconst 0, 131, .int (0), 0, 0),
  (131, .iconst 3, 132, .int (3), 0, 0),
  (132, .invokevirtual 97, 135, .ref 3, 106, 5),
  (135, .iastore, 136, .null, 0, 0),
  (136, .goto 65, 139, .null, 201, 0),
  (139, .aload_n 0, 140, .null, 0, 0),
  (140, .getfield 13, 143, .null, 1, 5),
  (143, .bipush 49, 145, .int (49), 0, 0),
  (145, .iaload, 146, .null, 0, 0),
  (146, .istore_n 2, 147, .null, 2, 0),
  (147, .aload_n 0, 148, .null, 0, 0),
  (148, .getfield 13, 151, .null, 1, 5),
  (151, .bipush 25, 153, .int (25), 0, 0),
  (153, .iload_n 2, 154, .null, 2, 0),
  (154, .iadd, 155, .null, 0, 0),
  (155, .aload_n 0, 156, .null, 0, 0),
  (156, .iconst 0, 157, .int (0), 0, 0),
  (157, .iconst 3, 158, .int (3), 0, 0),
  (158, .invokevirtual 97, 161, .ref 3, 106, 5),
  (161, .iastore, 162, .null, 0, 0),
  (162, .aload_n 0, 163, .null, 0, 0),
  (163, .iconst 0, 164, .int (0), 0, 0),
  (164, .bipush 9, 166, .int (9), 0, 0),
  (166, .invokevirtual 97, 169, .ref 3, 106, 5),
  (169, .istore_n 3, 170, .null, 3, 0),
  (170, .aload_n 0, 171, .null, 0, 0),
  (171, .getfield 13, 174, .null, 1, 5),
  (174, .bipush 37, 176, .int (37), 0, 0),
  (176, .iload_n 2, 177, .null, 2, 0),
  (177, .iadd, 178, .null, 0, 0),
  (178, .iload_n 1, 179, .null, 1, 0),
  (179, .iconst 5, 180, .int (5), 0, 0),
  (180, .if_icmp .ne 7, 183, .null, 187, 0),
  (183, .iload_n 3, 184, .null, 3, 0),
  (184, .goto 5, 187, .null, 189, 0),
  (187, .iload_n 3, 188, .null, 3, 0),
  (188, .ineg, 189, .null, 0, 0),
  (189, .iastore, 190, .null, 0, 0),
  (190, .aload_n 0, 191, .null, 0, 0),
  (191, .getfield 13, 194, .null, 1, 5),
  (194, .bipush 49, 196, .int (49), 0, 0),
  (196, .dup2, 197, .null, 0, 0),
  (197, .iaload, 198, .null, 0, 0),
  (198, .iconst 1, 199, .int (1), 0, 0),
  (199, .iadd, 200, .null, 0, 0),
  (200, .iastore, 201, .null, 0, 0),
  (201, .return_, 202, .null, 0, 0)]
def tbX5_readLine : pm_Tb := [(0, .aload_n 0, 1, .null, 0, 0),
  (1, .invokevirtual 101, 4, .ref 1, 104, 5),
  (4, .istore_n 1, 5, .null, 1, 0),
  (5, .iload_n 1, 6, .null, 1, 0),
  (6, .i2l, 7, .null, 0, 0),
  (7, .lconst 0, 8, .long 0, 0, 0),
  (8, .ldc2_w 105, 11, .long (6), 0, 0),
  (11, .invokestatic 53, 14, .ref 3, 98, 0),
  (14, .ifCond .ne 9, 17, .null, 23, 0),
  (17, .aload_n 0, 18, .null, 0, 0),
  (18, .iconst 2, 19, .int (2), 0, 0),
  (19, .invokevirtual 90, 22, .ref 2, 103, 5),
  (22, .return_, 23, .null, 0, 0),
  (23, .iload_n 1, 24, .null, 1, 0),
  (24, .iconst 3, 25, .int (3), 0, 0),
  (25, .if_icmp .gt 14, 28, .null, 39, 0),
  (28, .aload_n 0, 29, .null, 0, 0),
  (29, .getfield 13, 32, .null, 1, 5),
  (32, .bipush 24, 34, .int (24), 0, 0),
  (34, .iaload, 35, .null, 0, 0),
  (35, .iconst 4, 36, .int (4), 0, 0),
  (36, .if_icmp .eq 20, 39, .null, 56, 0),
  (39, .iload_n 1, 40, .null, 1, 0),
  (40, .iconst 5, 41, .int (5), 0, 0),
  (41, .if_icmp .lt 20, 44, .null, 61, 0),
  (44, .aload_n 0, 45, .null, 0, 0),
  (45, .getfield 13, 48, .null, 1, 5),
  (48, .bipush 49, 50, .int (49), 0, 0),
  (50, .iaload, 51, .null, 0, 0),
  (51, .bipush 12, 53, .int (12), 0, 0),
  (53, .if_icmp .ne 8, 56, .null, 61, 0),
  (56, .aload_n 0, 57, .null, 0, 0),
  (57, .iconst 5, 58, .int (5), 0, 0),
  (58, .invokevirtual 90, 61, .ref 2, 103, 5),
  (61, .iload_n 1, 62, .null, 1, 0),
  (62, .iconst 4, 63, .int (4), 0, 0),
  (63, .if_icmp .ne 15, 66, .null, 78, 0),
  (66, .aload_n 0, 67, .null, 0, 0),
  (67, .getfield 107, 70, .null, 2, 5),
  (70, .ifCond .eq 8, 73, .null, 78, 0),
  (73, .aload_n 0, 74, .null, 0, 0),
  (74, .iconst 4, 75, .int (4), 0, 0),
  (75, .invokevirtual 90, 78, .ref 2, 103, 5),
  (78, .aload_n 0, 79, .null, 0, 0),
  (79, .aload_n 0, 80, .null, 0, 0),
  (80, .getfield 107, 83, .null, 2, 5),
  (83, .ifCond .ne 8, 86, .null, 91, 0),
  (86, .iload_n 1, 87, .null, 1, 0),
  (87, .iconst 4, 88, .int (4), 0, 0),
  (88, .if_icmp .ne 7, 91, .null, 95, 0),
  (91, .iconst 1, 92, .int (1), 0, 0),
  (92, .goto 4, 95, .null, 96, 0),
  (95, .iconst 0, 96, .int (0), 0, 0),
  (96, .putfield 107, 99, .null, 2, 5),
  (99, .aload_n 0, 100, .null, 0, 0),
  (100, .invokevirtual 94, 103, .ref 1, 105, 5),
  (103, .aload_n 0, 104, .null, 0, 0),
  (104, .getfield 60, 107, .null, 6, 5),
  (107, .ifCond .le 4, 110, .null, 111, 0),
  (110, .return_, 111, .null, 0, 0),
  (111, .aload_n 0, 112, .null, 0, 0),
  (112, .iload_n 1, 113, .null, 1, 0),
  (113, .invokevirtual 111, 116, .ref 2, 107, 5),
  (116, .aload_n 0, 117, .null, 0, 0),
  (117, .getfield 60, 120, .null, 6, 5),
  (120, .ifCond .ne 16, 123, .null, 136, 0),
  (123, .aload_n 0, 124, .null, 0, 0),
  (124, .getfield 69, 127, .null, 10, 5),
  (127, .iconst 3, 128, .int (3), 0, 0),
  (128, .if_icmp .eq 8, 131, .null, 136, 0),
  (131, .aload_n 0, 132, .null, 0, 0),
  (132, .iconst 2, 133, .int (2), 0, 0),
  (133, .invokevirtual 90, 136, .ref 2, 103, 5),
  (136, .aload_n 0, 137, .null, 0, 0),
  (137, .invokevirtual 94, 140, .ref 1, 105, 5),
  (140, .return_, 141, .null, 0, 0)]
def tbX5_text : pm_Tb := [(0, .aload_n 0, 1, .null, 0, 0),
  (1, .iconst 0, 2, .int (0), 0, 0),
  (2, .putfield 60, 5, .null, 6, 5),
  (5, .aload_n 0, 6, .null, 0, 0),
  (6, .iconst 0, 7, .int (0), 0, 0),
  (7, .putfield 72, 10, .null, 8, 5),
  (10, .aload_n 0, 11, .null, 0, 0),
  (11, .iconst 0, 12, .int (0), 0, 0),
  (12, .putfield 107, 15, .null, 2, 5),
  (15, .iconst 0, 16, .int (0), 0, 0),
  (16, .istore_n 1, 17, .null, 1, 0),
  (17, .iconst 0, 18, .int (0), 0, 0),
  (18, .istore_n 2, 19, .null, 2, 0),
  (19, .iload_n 2, 20, .null, 2, 0),
  (20, .bipush 52, 22, .int (52), 0, 0),
  (22, .if_icmp .ge 16, 25, .null, 38, 0),
  (25, .aload_n 0, 26, .null, 0, 0),
  (26, .getfield 13, 29, .null, 1, 5),
  (29, .iload_n 2, 30, .null, 2, 0),
  (30, .iconst 0, 31, .int (0), 0, 0),
  (31, .iastore, 32, .null, 0, 0),
  (32, .iinc 2 1, 35, .int (1), 2, 0),
  (35, .goto (-16), 38, .null, 19, 0),
  (38, .aload_n 0, 39, .null, 0, 0),
  (39, .invokevirtual 94, 42, .ref 1, 105, 5),
  (42, .aload_n 0, 43, .null, 0, 0),
  (43, .getfield 60, 46, .null, 6, 5),
  (46, .ifCond .ne 20, 49, .null, 66, 0),
  (49, .aload_n 0, 50, .null, 0, 0),
  (50, .getfield 69, 53, .null, 10, 5),
  (53, .ifCond .eq 13, 56, .null, 66, 0),
  (56, .aload_n 0, 57, .null, 0, 0),
  (57, .invokevirtual 114, 60, .ref 1, 108, 5),
  (60, .iinc 1 1, 63, .int (1), 1, 0),
  (63, .goto (-21), 66, .null, 42, 0),
  (66, .aload_n 0, 67, .null, 0, 0),
  (67, .iconst 0, 68, .int (0), 0, 0),
  (68, .putfield 57, 71, .null, 4, 5),
  (71, .aload_n 0, 72, .null, 0, 0),
  (72, .aload_n 0, 73, .null, 0, 0),
  (73, .getfield 60, 76, .null, 6, 5),
  (76, .putfield 117, 79, .null, 5, 5),
  (79, .aload_n 0, 80, .null, 0, 0),
  (80, .getfield 60, 83, .null, 6, 5),
  (83, .ifCond .le 11, 86, .null, 94, 0),
  (86, .bipush (-10), 88, .int (-10), 0, 0),
  (88, .aload_n 0, 89, .null, 0, 0),
  (89, .getfield 66, 92, .null, 7, 5),
  (92, .isub, 93, .null, 0, 0),
  (93, .ireturn, 94, .null, 0, 0),
  (94, .iconst 0, 95, .int (0), 0, 0),
  (95, .istore_n 2, 96, .null, 2, 0),
  (96, .iload_n 2, 97, .null, 2, 0),
  (97, .bipush 52, 99, .int (52), 0, 0),
  (99, .if_icmp .ge 21, 102, .null, 120, 0),
  (102, .aload_n 0, 103, .null, 0, 0),
  (103, .getfield 7, 106, .null, 0, 5),
  (106, .iload_n 2, 107, .null, 2, 0),
  (107, .aload_n 0, 108, .null, 0, 0),
  (108, .getfield 13, 111, .null, 1, 5),
  (111, .iload_n 2, 112, .null, 2, 0),
  (112, .iaload, 113, .null, 0, 0),
  (113, .iastore, 114, .null, 0, 0),
  (114, .iinc 2 1, 117, .int (1), 2, 0),
  (117, .goto (-21), 120, .null, 96, 0),
  (120, .aload_n 0, 121, .null, 0, 0),
  (121, .iconst 0, 122, .int (0), 0, 0),
  (122, .putfield 120, 125, .null, 21, 5),
  (125, .aload_n 0, 126, .null, 0, 0),
  (126, .getfield 38, 129, .null, 23, 5),
  (129, .iconst 0, 130, .int (0), 0, 0),
  (130, .iconst 0, 131, .int (0), 0, 0),
  (131, .bastore, 132, .null, 0, 0),
  (132, .aload_n 0, 133, .null, 0, 0),
  (133, .getfield 38, 136, .null, 23, 5),
  (136, .iconst 1, 137, .int (1), 0, 0),
  (137, .iconst 0, 138, .int (0), 0, 0),
  (138, .bastore, 139, .null, 0, 0),
  (139, .iload_n 1, 140, .null, 1, 0),
  (140, .ireturn, 141, .null, 0, 0)]
def tbX5_fault : pm_Tb := [(0, .aload_n 0, 1, .null, 0, 0),
  (1, .getfield 117, 4, .null, 5, 5),
  (4, .ireturn, 5, .null, 0, 0)]
def tbX5_isBead : pm_Tb := [(0, .iload_n 1, 1, .null, 1, 0),
  (1, .i2l, 2, .null, 0, 0),
  (2, .lconst 0, 3, .long 0, 0, 0),
  (3, .aload_n 0, 4, .null, 0, 0),
  (4, .getfield 7, 7, .null, 0, 5),
  (7, .bipush 24, 9, .int (24), 0, 0),
  (9, .iaload, 10, .null, 0, 0),
  (10, .iconst 1, 11, .int (1), 0, 0),
  (11, .isub, 12, .null, 0, 0),
  (12, .i2l, 13, .null, 0, 0),
  (13, .invokestatic 53, 16, .ref 3, 98, 0),
  (16, .ireturn, 17, .null, 0, 0)]
def tbX5_isKnock : pm_Tb := [(0, .iload_n 1, 1, .null, 1, 0),
  (1, .i2l, 2, .null, 0, 0),
  (2, .lconst 0, 3, .long 0, 0, 0),
  (3, .aload_n 0, 4, .null, 0, 0),
  (4, .getfield 7, 7, .null, 0, 5),
  (7, .bipush 49, 9, .int (49), 0, 0),
  (9, .iaload, 10, .null, 0, 0),
  (10, .iconst 1, 11, .int (1), 0, 0),
  (11, .isub, 12, .null, 0, 0),
  (12, .i2l, 13, .null, 0, 0),
  (13, .invokestatic 53, 16, .ref 3, 98, 0),
  (16, .ireturn, 17, .null, 0, 0)]
def tbX5_isLong : pm_Tb := [(0, .iload_n 0, 1, .null, 0, 0),
  (1, .i2l, 2, .null, 0, 0),
  (2, .lconst 0, 3, .long 0, 0, 0),
  (3, .ldc2_w 123, 6, .long (200), 0, 0),
  (6, .invokestatic 53, 9, .ref 3, 98, 0),
  (9, .ireturn, 10, .null, 0, 0)]
def tbX5_stretchOn : pm_Tb := [(0, .aload_n 0, 1, .null, 0, 0),
  (1, .getfield 7, 4, .null, 0, 5),
  (4, .iload_n 1, 5, .null, 1, 0),
  (5, .bipush 16, 7, .int (16), 0, 0),
  (7, .iadd, 8, .null, 0, 0),
  (8, .iload_n 2, 9, .null, 2, 0),
  (9, .iadd, 10, .null, 0, 0),
  (10, .iaload, 11, .null, 0, 0),
  (11, .iload_n 2, 12, .null, 2, 0),
  (12, .ifCond .ne 7, 15, .null, 19, 0),
  (15, .iconst 0, 16, .int (0), 0, 0),
  (16, .goto 16, 19, .null, 32, 0),
  (19, .aload_n 0, 20, .null, 0, 0),
  (20, .getfield 7, 23, .null, 0, 5),
  (23, .iload_n 1, 24, .null, 1, 0),
  (24, .bipush 16, 26, .int (16), 0, 0),
  (26, .iadd, 27, .null, 0, 0),
  (27, .iload_n 2, 28, .null, 2, 0),
  (28, .iadd, 29, .null, 0, 0),
  (29, .iconst 1, 30, .int (1), 0, 0),
  (30, .isub, 31, .null, 0, 0),
  (31, .iaload, 32, .null, 0, 0),
  (32, .isub, 33, .null, 0, 0),
  (33, .aload_n 0, 34, .null, 0, 0),
  (34, .getfield 7, 37, .null, 0, 5),
  (37, .iload_n 1, 38, .null, 1, 0),
  (38, .iconst 4, 39, .int (4), 0, 0),
  (39, .iadd, 40, .null, 0, 0),
  (40, .iload_n 2, 41, .null, 2, 0),
  (41, .iadd, 42, .null, 0, 0),
  (42, .iaload, 43, .null, 0, 0),
  (43, .isub, 44, .null, 0, 0),
  (44, .ireturn, 45, .null, 0, 0)]
def tbX5_pullOn : pm_Tb := [(0, .aload_n 0, 1, .null, 0, 0),
  (1, .iload_n 1, 2, .null, 1, 0),
  (2, .iload_n 2, 3, .null, 2, 0),
  (3, .invokevirtual 125, 6, .ref 3, 114, 5),
  (6, .istore_n 3, 7, .null, 3, 0),
  (7, .aload_n 0, 8, .null, 0, 0),
  (8, .getfield 7, 11, .null, 0, 5),
  (11, .iload_n 1, 12, .null, 1, 0),
  (12, .iload_n 2, 13, .null, 2, 0),
  (13, .iadd, 14, .null, 0, 0),
  (14, .iaload, 15, .null, 0, 0),
  (15, .istore 4, 17, .null, 4, 0),
  (17, .iload 4, 19, .null, 4, 0),
  (19, .iconst 1, 20, .int (1), 0, 0),
  (20, .if_icmp .ne 7, 23, .null, 27, 0),
  (23, .iload_n 3, 24, .null, 3, 0),
  (24, .ifCond .lt 33, 27, .null, 57, 0),
  (27, .iload 4, 29, .null, 4, 0),
  (29, .iconst 2, 30, .int (2), 0, 0),
  (30, .if_icmp .ne 7, 33, .null, 37, 0),
  (33, .iload_n 3, 34, .null, 3, 0),
  (34, .ifCond .gt 23, 37, .null, 57, 0),
  (37, .iload 4, 39, .null, 4, 0),
  (39, .iconst 3, 40, .int (3), 0, 0),
  (40, .if_icmp .ne 21, 43, .null, 61, 0),
  (43, .iload_n 3, 44, .null, 3, 0),
  (44, .i2l, 45, .null, 0, 0),
  (45, .ldc2_w 128, 48, .long (-5), 0, 0),
  (48, .ldc2_w 130, 51, .long (5), 0, 0),
  (51, .invokestatic 53, 54, .ref 3, 98, 0),
  (54, .ifCond .eq 7, 57, .null, 61, 0),
  (57, .iconst 1, 58, .int (1), 0, 0),
  (58, .goto 4, 61, .null, 62, 0),
  (61, .iconst 0, 62, .int (0), 0, 0),
  (62, .istore 5, 64, .null, 5, 0),
  (64, .iload 5, 66, .null, 5, 0),
  (66, .ifCond .eq 7, 69, .null, 73, 0),
  (69, .iconst 0, 70, .int (0), 0, 0),
  (70, .goto 16, 73, .null, 86, 0),
  (73, .aload_n 0, 74, .null, 0, 0),
  (74, .getfield 7, 77, .null, 0, 5),
  (77, .iload_n 1, 78, .null, 1, 0),
  (78, .bipush 8, 80, .int (8), 0, 0),
  (80, .iadd, 81, .null, 0, 0),
  (81, .iload_n 2, 82, .null, 2, 0),
  (82, .iadd, 83, .null, 0, 0),
  (83, .iaload, 84, .null, 0, 0),
  (84, .iload_n 3, 85, .null, 3, 0),
  (85, .imul, 86, .null, 0, 0),
  (86, .ireturn, 87, .null, 0, 0)]
def tbX5_speedOf : pm_Tb := [(0, .iload_n 0, 1, .null, 0, 0),
  (1, .bipush 40, 3, .int (40), 0, 0),
  (3, .if_icmp .le 8, 6, .null, 11, 0),
  (6, .bipush 40, 8, .int (40), 0, 0),
  (8, .goto 15, 11, .null, 23, 0),
  (11, .iload_n 0, 12, .null, 0, 0),
  (12, .bipush (-40), 14, .int (-40), 0, 0),
  (14, .if_icmp .ge 8, 17, .null, 22, 0),
  (17, .bipush (-40), 19, .int (-40), 0, 0),
  (19, .goto 4, 22, .null, 23, 0),
  (22, .iload_n 0, 23, .null, 0, 0),
  (23, .ireturn, 24, .null, 0, 0)]
def tbX5_knockOn : pm_Tb := [(0, .iload_n 2, 1, .null, 2, 0),
  (1, .aload_n 0, 2, .null, 0, 0),
  (2, .getfield 7, 5, .null, 0, 5),
  (5, .iload_n 1, 6, .null, 1, 0),
  (6, .bipush 24, 8, .int (24), 0, 0),
  (8, .iadd, 9, .null, 0, 0),
  (9, .iaload, 10, .null, 0, 0),
  (10, .if_icmp .ge 30, 13, .null, 40, 0),
  (13, .aload_n 0, 14, .null, 0, 0),
  (14, .getfield 7, 17, .null, 0, 5),
  (17, .iload_n 1, 18, .null, 1, 0),
  (18, .bipush 20, 20, .int (20), 0, 0),
  (20, .iadd, 21, .null, 0, 0),
  (21, .iload_n 2, 22, .null, 2, 0),
  (22, .iadd, 23, .null, 0, 0),
  (23, .aload_n 0, 24, .null, 0, 0),
  (24, .getfield 7, 27, .null, 0, 5),
  (27, .iload_n 1, 28, .null, 1, 0),
  (28, .bipush 20, 30, .int (20), 0, 0),
  (30, .iadd, 31, .null, 0, 0),
  (31, .iload_n 2, 32, .null, 2, 0),
  (32, .iadd, 33, .null, 0, 0),
  (33, .iaload, 34, .null, 0, 0),
  (34, .iload_n 3, 35, .null, 3, 0),
  (35, .iadd, 36, .null, 0, 0),
  (36, .invokestatic 132, 39, .ref 1, 116, 0),
  (39, .iastore, 40, .null, 0, 0),
  (40, .return_, 41, .null, 0, 0)]
def tbX5_speedsOn : pm_Tb := [(0, .aload_n 0, 1, .null, 0, 0),
  (1, .getfield 7, 4, .null, 0, 5),
  (4, .iload_n 1, 5, .null, 1, 0),
  (5, .bipush 24, 7, .int (24), 0, 0),
  (7, .iadd, 8, .null, 0, 0),
  (8, .iaload, 9, .null, 0, 0),
  (9, .istore_n 2, 10, .null, 2, 0),
  (10, .aload_n 0, 11, .null, 0, 0),
  (11, .getfield 7, 14, .null, 0, 5),
  (14, .iload_n 1, 15, .null, 1, 0),
  (15, .bipush 50, 17, .int (50), 0, 0),
  (17, .iadd, 18, .null, 0, 0),
  (18, .iaload, 19, .null, 0, 0),
  (19, .istore_n 3, 20, .null, 3, 0),
  (20, .iconst 0, 21, .int (0), 0, 0),
  (21, .istore 4, 23, .null, 4, 0),
  (23, .iload 4, 25, .null, 4, 0),
  (25, .iload_n 2, 26, .null, 2, 0),
  (26, .if_icmp .ge 120, 29, .null, 146, 0),
  (29, .iload 4, 31, .null, 4, 0),
  (31, .iconst 1, 32, .int (1), 0, 0),
  (32, .iadd, 33, .null, 0, 0),
  (33, .iload_n 2, 34, .null, 2, 0),
  (34, .if_icmp .ge 15, 37, .null, 49, 0),
  (37, .aload_n 0, 38, .null, 0, 0),
  (38, .iload_n 1, 39, .null, 1, 0),
  (39, .iload 4, 41, .null, 4, 0),
  (41, .iconst 1, 42, .int (1), 0, 0),
  (42, .iadd, 43, .null, 0, 0),
  (43, .invokevirtual 135, 46, .ref 3, 115, 5),
  (46, .goto 4, 49, .null, 50, 0),
  (49, .iconst 0, 50, .int (0), 0, 0),
  (50, .aload_n 0, 51, .null, 0, 0),
  (51, .iload_n 1, 52, .null, 1, 0),
  (52, .iload 4, 54, .null, 4, 0),
  (54, .invokevirtual 135, 57, .ref 3, 115, 5),
  (57, .isub, 58, .null, 0, 0),
  (58, .bipush 10, 60, .int (10), 0, 0),
  (60, .aload_n 0, 61, .null, 0, 0),
  (61, .getfield 7, 64, .null, 0, 5),
  (64, .iload_n 1, 65, .null, 1, 0),
  (65, .bipush 12, 67, .int (12), 0, 0),
  (67, .iadd, 68, .null, 0, 0),
  (68, .iload 4, 70, .null, 4, 0),
  (70, .iadd, 71, .null, 0, 0),
  (71, .iaload, 72, .null, 0, 0),
  (72, .imul, 73, .null, 0, 0),
  (73, .idiv, 74, .null, 0, 0),
  (74, .istore 5, 76, .null, 5, 0),
  (76, .aload_n 0, 77, .null, 0, 0),
  (77, .getfield 7, 80, .null, 0, 5),
  (80, .iload_n 1, 81, .null, 1, 0),
  (81, .bipush 20, 83, .int (20), 0, 0),
  (83, .iadd, 84, .null, 0, 0),
  (84, .iload 4, 86, .null, 4, 0),
  (86, .iadd, 87, .null, 0, 0),
  (87, .iaload, 88, .null, 0, 0),
  (88, .iload 5, 90, .null, 5, 0),
  (90, .iadd, 91, .null, 0, 0),
  (91, .istore 6, 93, .null, 6, 0),
  (93, .iload 6, 95, .null, 6, 0),
  (95, .iload_n 3, 96, .null, 3, 0),
  (96, .if_icmp .le 10, 99, .null, 106, 0),
  (99, .iload 6, 101, .null, 6, 0),
  (101, .iload_n 3, 102, .null, 3, 0),
  (102, .isub, 103, .null, 0, 0),
  (103, .goto 18, 106, .null, 121, 0),
  (106, .iload 6, 108, .null, 6, 0),
  (108, .iload_n 3, 109, .null, 3, 0),
  (109, .ineg, 110, .null, 0, 0),
  (110, .if_icmp .ge 10, 113, .null, 120, 0),
  (113, .iload 6, 115, .null, 6, 0),
  (115, .iload_n 3, 116, .null, 3, 0),
  (116, .iadd, 117, .null, 0, 0),
  (117, .goto 4, 120, .null, 121, 0),
  (120, .iconst 0, 121, .int (0), 0, 0),
  (121, .istore 6, 123, .null, 6, 0),
  (123, .aload_n 0, 124, .null, 0, 0),
  (124, .getfield 7, 127, .null, 0, 5),
  (127, .iload_n 1, 128, .null, 1, 0),
  (128, .bipush 20, 130, .int (20), 0, 0),
  (130, .iadd, 131, .null, 0, 0),
  (131, .iload 4, 133, .null, 4, 0),
  (133, .iadd, 134, .null, 0, 0),
  (134, .iload 6, 136, .null, 6, 0),
  (136, .invokestatic 132, 139, .ref 1, 116, 0),
  (139, .iastore, 140, .null, 0, 0),
  (140, .iinc 4 1, 143, .int (1), 4, 0),
  (143, .goto (-120), 146, .null, 23, 0),
  (146, .return_, 147, .null, 0, 0)]
def tbX5_placesOn : pm_Tb := [(0, .iconst 0, 1, .int (0), 0, 0),
  (1, .istore_n 2, 2, .null, 2, 0),
  (2, .iload_n 2, 3, .null, 2, 0),
  (3, .aload_n 0, 4, .null, 0, 0),
  (4, .getfield 7, 7, .null, 0, 5),
  (7, .iload_n 1, 8, .null, 1, 0),
  (8, .bipush 24, 10, .int (24), 0, 0),
  (10, .iadd, 11, .null, 0, 0),
  (11, .iaload, 12, .null, 0, 0),
  (12, .if_icmp .ge 114, 15, .null, 126, 0),
  (15, .aload_n 0, 16, .null, 0, 0),
  (16, .getfield 7, 19, .null, 0, 5),
  (19, .iload_n 1, 20, .null, 1, 0),
  (20, .bipush 16, 22, .int (16), 0, 0),
  (22, .iadd, 23, .null, 0, 0),
  (23, .iload_n 2, 24, .null, 2, 0),
  (24, .iadd, 25, .null, 0, 0),
  (25, .iaload, 26, .null, 0, 0),
  (26, .istore_n 3, 27, .null, 3, 0),
  (27, .iload_n 3, 28, .null, 3, 0),
  (28, .aload_n 0, 29, .null, 0, 0),
  (29, .getfield 7, 32, .null, 0, 5),
  (32, .iload_n 1, 33, .null, 1, 0),
  (33, .bipush 20, 35, .int (20), 0, 0),
  (35, .iadd, 36, .null, 0, 0),
  (36, .iload_n 2, 37, .null, 2, 0),
  (37, .iadd, 38, .null, 0, 0),
  (38, .iaload, 39, .null, 0, 0),
  (39, .iadd, 40, .null, 0, 0),
  (40, .istore 4, 42, .null, 4, 0),
  (42, .iload 4, 44, .null, 4, 0),
  (44, .i2l, 45, .null, 0, 0),
  (45, .lconst 0, 46, .long 0, 0, 0),
  (46, .ldc2_w 138, 49, .long (300), 0, 0),
  (49, .invokestatic 53, 52, .ref 3, 98, 0),
  (52, .ifCond .ne 39, 55, .null, 91, 0),
  (55, .iload 4, 57, .null, 4, 0),
  (57, .ifCond .ge 7, 60, .null, 64, 0),
  (60, .iconst 0, 61, .int (0), 0, 0),
  (61, .goto 6, 64, .null, 67, 0),
  (64, .sipush 300, 67, .int (300), 0, 0),
  (67, .istore 4, 69, .null, 4, 0),
  (69, .aload_n 0, 70, .null, 0, 0),
  (70, .getfield 7, 73, .null, 0, 5),
  (73, .iload_n 1, 74, .null, 1, 0),
  (74, .bipush 20, 76, .int (20), 0, 0),
  (76, .iadd, 77, .null, 0, 0),
  (77, .iload_n 2, 78, .null, 2, 0),
  (78, .iadd, 79, .null, 0, 0),
  (79, .iconst 0, 80, .int (0), 0, 0),
  (80, .iastore, 81, .null, 0, 0),
  (81, .aload_n 0, 82, .null, 0, 0),
  (82, .dup, 83, .null, 0, 0),
  (83, .getfield 140, 86, .null, 15, 5),
  (86, .iconst 1, 87, .int (1), 0, 0),
  (87, .iadd, 88, .null, 0, 0),
  (88, .putfield 140, 91, .null, 15, 5),
  (91, .aload_n 0, 92, .null, 0, 0),
  (92, .getfield 7, 95, .null, 0, 5),
  (95, .iload_n 1, 96, .null, 1, 0),
  (96, .bipush 16, 98, .int (16), 0, 0),
  (98, .iadd, 99, .null, 0, 0),
  (99, .iload_n 2, 100, .null, 2, 0),
  (100, .iadd, 101, .null, 0, 0),
  (101, .iload 4, 103, .null, 4, 0),
  (103, .iastore, 104, .null, 0, 0),
  (104, .aload_n 0, 105, .null, 0, 0),
  (105, .dup, 106, .null, 0, 0),
  (106, .getfield 143, 109, .null, 14, 5),
  (109, .iload 4, 111, .null, 4, 0),
  (111, .iload_n 3, 112, .null, 3, 0),
  (112, .isub, 113, .null, 0, 0),
  (113, .invokestatic 146, 116, .ref 1, 99, 0),
  (116, .iadd, 117, .null, 0, 0),
  (117, .putfield 143, 120, .null, 14, 5),
  (120, .iinc 2 1, 123, .int (1), 2, 0),
  (123, .goto (-121), 126, .null, 2, 0),
  (126, .aload_n 0, 127, .null, 0, 0),
  (127, .getfield 7, 130, .null, 0, 5),
  (130, .iload_n 1, 131, .null, 1, 0),
  (131, .bipush 51, 133, .int (51), 0, 0),
  (133, .iadd, 134, .null, 0, 0),
  (134, .dup2, 135, .null, 0, 0),
  (135, .iaload, 136, .null, 0, 0),
  (136, .iconst 1, 137, .int (1), 0, 0),
  (137, .iadd, 138, .null, 0, 0),
  (138, .iastore, 139, .null, 0, 0),
  (139, .return_, 140, .null, 0, 0)]
def tbX5_lastOn : pm_Tb := [(0, .aload_n 0, 1, .null, 0, 0),
  (1, .getfield 7, 4, .null, 0, 5),
  (4, .iload_n 1, 5, .null, 1, 0),
  (5, .bipush 24, 7, .int (24), 0, 0),
  (7, .iadd, 8, .null, 0, 0),
  (8, .iaload, 9, .null, 0, 0),
  (9, .ifCond .ne 7, 12, .null, 16, 0),
  (12, .iconst 0, 13, .int (0), 0, 0),
  (13, .goto 24, 16, .null, 37, 0),
  (16, .aload_n 0, 17, .null, 0, 0),
  (17, .getfield 7, 20, .null, 0, 5),
  (20, .iload_n 1, 21, .null, 1, 0),
  (21, .bipush 16, 23, .int (16), 0, 0),
  (23, .iadd, 24, .null, 0, 0),
  (24, .aload_n 0, 25, .null, 0, 0),
  (25, .getfield 7, 28, .null, 0, 5),
  (28, .iload_n 1, 29, .null, 1, 0),
  (29, .bipush 24, 31, .int (24), 0, 0),
  (31, .iadd, 32, .null, 0, 0),
  (32, .iaload, 33, .null, 0, 0),
  (33, .iadd, 34, .null, 0, 0),
  (34, .iconst 1, 35, .int (1), 0, 0),
  (35, .isub, 36, .null, 0, 0),
  (36, .iaload, 37, .null, 0, 0),
  (37, .ireturn, 38, .null, 0, 0)]
def tbX5_movesOn : pm_Tb := [(0, .iconst 0, 1, .int (0), 0, 0),
  (1, .istore_n 2, 2, .null, 2, 0),
  (2, .iload_n 2, 3, .null, 2, 0),
  (3, .iconst 4, 4, .int (4), 0, 0),
  (4, .if_icmp .ge 26, 7, .null, 30, 0),
  (7, .aload_n 0, 8, .null, 0, 0),
  (8, .getfield 25, 11, .null, 17, 5),
  (11, .iload_n 2, 12, .null, 2, 0),
  (12, .aload_n 0, 13, .null, 0, 0),
  (13, .getfield 7, 16, .null, 0, 5),
  (16, .iload_n 1, 17, .null, 1, 0),
  (17, .bipush 20, 19, .int (20), 0, 0),
  (19, .iadd, 20, .null, 0, 0),
  (20, .iload_n 2, 21, .null, 2, 0),
  (21, .iadd, 22, .null, 0, 0),
  (22, .iaload, 23, .null, 0, 0),
  (23, .iastore, 24, .null, 0, 0),
  (24, .iinc 2 1, 27, .int (1), 2, 0),
  (27, .goto (-25), 30, .null, 2, 0),
  (30, .aload_n 0, 31, .null, 0, 0),
  (31, .iload_n 1, 32, .null, 1, 0),
  (32, .invokevirtual 149, 35, .ref 2, 118, 5),
  (35, .aload_n 0, 36, .null, 0, 0),
  (36, .iload_n 1, 37, .null, 1, 0),
  (37, .invokevirtual 152, 40, .ref 2, 119, 5),
  (40, .aload_n 0, 41, .null, 0, 0),
  (41, .iconst 0, 42, .int (0), 0, 0),
  (42, .putfield 155, 45, .null, 16, 5),
  (45, .iconst 0, 46, .int (0), 0, 0),
  (46, .istore_n 2, 47, .null, 2, 0),
  (47, .iload_n 2, 48, .null, 2, 0),
  (48, .aload_n 0, 49, .null, 0, 0),
  (49, .getfield 7, 52, .null, 0, 5),
  (52, .iload_n 1, 53, .null, 1, 0),
  (53, .bipush 24, 55, .int (24), 0, 0),
  (55, .iadd, 56, .null, 0, 0),
  (56, .iaload, 57, .null, 0, 0),
  (57, .if_icmp .ge 45, 60, .null, 102, 0),
  (60, .aload_n 0, 61, .null, 0, 0),
  (61, .aload_n 0, 62, .null, 0, 0),
  (62, .getfield 155, 65, .null, 16, 5),
  (65, .ifCond .ne 23, 68, .null, 88, 0),
  (68, .aload_n 0, 69, .null, 0, 0),
  (69, .getfield 7, 72, .null, 0, 5),
  (72, .iload_n 1, 73, .null, 1, 0),
  (73, .bipush 20, 75, .int (20), 0, 0),
  (75, .iadd, 76, .null, 0, 0),
  (76, .iload_n 2, 77, .null, 2, 0),
  (77, .iadd, 78, .null, 0, 0),
  (78, .iaload, 79, .null, 0, 0),
  (79, .aload_n 0, 80, .null, 0, 0),
  (80, .getfield 25, 83, .null, 17, 5),
  (83, .iload_n 2, 84, .null, 2, 0),
  (84, .iaload, 85, .null, 0, 0),
  (85, .if_icmp .eq 7, 88, .null, 92, 0),
  (88, .iconst 1, 89, .int (1), 0, 0),
  (89, .goto 4, 92, .null, 93, 0),
  (92, .iconst 0, 93, .int (0), 0, 0),
  (93, .putfield 155, 96, .null, 16, 5),
  (96, .iinc 2 1, 99, .int (1), 2, 0),
  (99, .goto (-52), 102, .null, 47, 0),
  (102, .aload_n 0, 103, .null, 0, 0),
  (103, .iload_n 1, 104, .null, 1, 0),
  (104, .invokevirtual 158, 107, .ref 2, 120, 5),
  (107, .aload_n 0, 108, .null, 0, 0),
  (108, .iconst 0, 109, .int (0), 0, 0),
  (109, .invokevirtual 158, 112, .ref 2, 120, 5),
  (112, .isub, 113, .null, 0, 0),
  (113, .invokestatic 146, 116, .ref 1, 99, 0),
  (116, .istore_n 2, 117, .null, 2, 0),
  (117, .aload_n 0, 118, .null, 0, 0),
  (118, .iload_n 2, 119, .null, 2, 0),
  (119, .aload_n 0, 120, .null, 0, 0),
  (120, .getfield 161, 123, .null, 18, 5),
  (123, .if_icmp .le 7, 126, .null, 130, 0),
  (126, .iload_n 2, 127, .null, 2, 0),
  (127, .goto 7, 130, .null, 134, 0),
  (130, .aload_n 0, 131, .null, 0, 0),
  (131, .getfield 161, 134, .null, 18, 5),
  (134, .putfield 161, 137, .null, 18, 5),
  (137, .return_, 138, .null, 0, 0)]
def tbX5_tickOn : pm_Tb := [(0, .aload_n 0, 1, .null, 0, 0),
  (1, .getfield 7, 4, .null, 0, 5),
  (4, .iload_n 1, 5, .null, 1, 0),
  (5, .bipush 49, 7, .int (49), 0, 0),
  (7, .iadd, 8, .null, 0, 0),
  (8, .iaload, 9, .null, 0, 0),
  (9, .istore_n 3, 10, .null, 3, 0),
  (10, .iload_n 3, 11, .null, 3, 0),
  (11, .ifCond .ne 8, 14, .null, 19, 0),
  (14, .bipush (-4), 16, .int (-4), 0, 0),
  (16, .goto 14, 19, .null, 30, 0),
  (19, .aload_n 0, 20, .null, 0, 0),
  (20, .getfield 7, 23, .null, 0, 5),
  (23, .iload_n 1, 24, .null, 1, 0),
  (24, .bipush 51, 26, .int (51), 0, 0),
  (26, .iadd, 27, .null, 0, 0),
  (27, .iaload, 28, .null, 0, 0),
  (28, .iload_n 3, 29, .null, 3, 0),
  (29, .irem, 30, .null, 0, 0),
  (30, .istore 4, 32, .null, 4, 0),
  (32, .iload 4, 34, .null, 4, 0),
  (34, .bipush (-4), 36, .int (-4), 0, 0),
  (36, .if_icmp .eq 45, 39, .null, 81, 0),
  (39, .iload 4, 41, .null, 4, 0),
  (41, .aload_n 0, 42, .null, 0, 0),
  (42, .getfield 28, 45, .null, 19, 5),
  (45, .if_icmp .eq 36, 48, .null, 81, 0),
  (48, .iload_n 2, 49, .null, 2, 0),
  (49, .ifCond .ne 32, 52, .null, 81, 0),
  (52, .aload_n 0, 53, .null, 0, 0),
  (53, .iload_n 1, 54, .null, 1, 0),
  (54, .aload_n 0, 55, .null, 0, 0),
  (55, .getfield 7, 58, .null, 0, 5),
  (58, .iload_n 1, 59, .null, 1, 0),
  (59, .bipush 25, 61, .int (25), 0, 0),
  (61, .iadd, 62, .null, 0, 0),
  (62, .iload 4, 64, .null, 4, 0),
  (64, .iadd, 65, .null, 0, 0),
  (65, .iaload, 66, .null, 0, 0),
  (66, .aload_n 0, 67, .null, 0, 0),
  (67, .getfield 7, 70, .null, 0, 5),
  (70, .iload_n 1, 71, .null, 1, 0),
  (71, .bipush 37, 73, .int (37), 0, 0),
  (73, .iadd, 74, .null, 0, 0),
  (74, .iload 4, 76, .null, 4, 0),
  (76, .iadd, 77, .null, 0, 0),
  (77, .iaload, 78, .null, 0, 0),
  (78, .invokevirtual 164, 81, .ref 4, 117, 5),
  (81, .aload_n 0, 82, .null, 0, 0),
  (82, .iload_n 1, 83, .null, 1, 0),
  (83, .invokevirtual 168, 86, .ref 2, 121, 5),
  (86, .return_, 87, .null, 0, 0)]
def tbX5_rule : pm_Tb := [(0, .iconst 0, 1, .int (0), 0, 0),
  (1, .istore_n 2, 2, .null, 2, 0),
  (2, .iconst 0, 3, .int (0), 0, 0),
  (3, .istore_n 3, 4, .null, 3, 0),
  (4, .iload_n 3, 5, .null, 3, 0),
  (5, .aload_n 0, 6, .null, 0, 0),
  (6, .getfield 7, 9, .null, 0, 5),
  (9, .bipush 24, 11, .int (24), 0, 0),
  (11, .iaload, 12, .null, 0, 0),
  (12, .if_icmp .ge 31, 15, .null, 43, 0),
  (15, .iload_n 2, 16, .null, 2, 0),
  (16, .aload_n 0, 17, .null, 0, 0),
  (17, .getfield 7, 20, .null, 0, 5),
  (20, .bipush 20, 22, .int (20), 0, 0),
  (22, .iload_n 3, 23, .null, 3, 0),
  (23, .iadd, 24, .null, 0, 0),
  (24, .iaload, 25, .null, 0, 0),
  (25, .ifCond .ne 9, 28, .null, 34, 0),
  (28, .iconst 1, 29, .int (1), 0, 0),
  (29, .iload_n 3, 30, .null, 3, 0),
  (30, .ishl, 31, .null, 0, 0),
  (31, .goto 4, 34, .null, 35, 0),
  (34, .iconst 0, 35, .int (0), 0, 0),
  (35, .ior, 36, .null, 0, 0),
  (36, .istore_n 2, 37, .null, 2, 0),
  (37, .iinc 3 1, 40, .int (1), 3, 0),
  (40, .goto (-36), 43, .null, 4, 0),
  (43, .iload_n 1, 44, .null, 1, 0),
  (44, .tableswitch 80 0 5 #[40, 48, 56, 64, 72, 74], 84, .null, 124, 0),
  (84, .aload_n 0, 85, .null, 0, 0),
  (85, .getfield 7, 88, .null, 0, 5),
  (88, .bipush 24, 90, .int (24), 0, 0),
  (90, .iaload, 91, .null, 0, 0),
  (91, .ireturn, 92, .null, 0, 0),
  (92, .aload_n 0, 93, .null, 0, 0),
  (93, .getfield 7, 96, .null, 0, 5),
  (96, .bipush 49, 98, .int (49), 0, 0),
  (98, .iaload, 99, .null, 0, 0),
  (99, .ireturn, 100, .null, 0, 0),
  (100, .aload_n 0, 101, .null, 0, 0),
  (101, .getfield 7, 104, .null, 0, 5),
  (104, .bipush 51, 106, .int (51), 0, 0),
  (106, .iaload, 107, .null, 0, 0),
  (107, .ireturn, 108, .null, 0, 0),
  (108, .aload_n 0, 109, .null, 0, 0),
  (109, .getfield 7, 112, .null, 0, 5),
  (112, .bipush 50, 114, .int (50), 0, 0),
  (114, .iaload, 115, .null, 0, 0),
  (115, .ireturn, 116, .null, 0, 0),
  (116, .iload_n 2, 117, .null, 2, 0),
  (117, .ireturn, 118, .null, 0, 0),
  (118, .aload_n 0, 119, .null, 0, 0),
  (119, .iconst 0, 120, .int (0), 0, 0),
  (120, .invokevirtual 158, 123, .ref 2, 120, 5),
  (123, .ireturn, 124, .null, 0, 0),
  (124, .iconst (-1), 125, .int (-1), 0, 0),
  (125, .ireturn, 126, .null, 0, 0)]
def tbX5_bead : pm_Tb := [(0, .aload_n 0, 1, .null, 0, 0),
  (1, .iload_n 1, 2, .null, 1, 0),
  (2, .invokevirtual 171, 5, .ref 2, 111, 5),
  (5, .ifCond .eq 15, 8, .null, 20, 0),
  (8, .iload_n 2, 9, .null, 2, 0),
  (9, .i2l, 10, .null, 0, 0),
  (10, .lconst 0, 11, .long 0, 0, 0),
  (11, .ldc2_w 175, 14, .long (7), 0, 0),
  (14, .invokestatic 53, 17, .ref 3, 98, 0),
  (17, .ifCond .ne 5, 20, .null, 22, 0),
  (20, .iconst (-1), 21, .int (-1), 0, 0),
  (21, .ireturn, 22, .null, 0, 0),
  (22, .iload_n 2, 23, .null, 2, 0),
  (23, .bipush 6, 25, .int (6), 0, 0),
  (25, .if_icmp .ge 26, 28, .null, 51, 0),
  (28, .aload_n 0, 29, .null, 0, 0),
  (29, .getfield 7, 32, .null, 0, 5),
  (32, .iconst 4, 33, .int (4), 0, 0),
  (33, .iload_n 2, 34, .null, 2, 0),
  (34, .imul, 35, .null, 0, 0),
  (35, .iload_n 1, 36, .null, 1, 0),
  (36, .iadd, 37, .null, 0, 0),
  (37, .iaload, 38, .null, 0, 0),
  (38, .iload_n 2, 39, .null, 2, 0),
  (39, .iconst 5, 40, .int (5), 0, 0),
  (40, .if_icmp .ne 8, 43, .null, 48, 0),
  (43, .bipush 100, 45, .int (100), 0, 0),
  (45, .goto 4, 48, .null, 49, 0),
  (48, .iconst 0, 49, .int (0), 0, 0),
  (49, .iadd, 50, .null, 0, 0),
  (50, .ireturn, 51, .null, 0, 0),
  (51, .iload_n 2, 52, .null, 2, 0),
  (52, .bipush 6, 54, .int (6), 0, 0),
  (54, .if_icmp .ne 16, 57, .null, 70, 0),
  (57, .sipush 1000, 60, .int (1000), 0, 0),
  (60, .aload_n 0, 61, .null, 0, 0),
  (61, .iconst 0, 62, .int (0), 0, 0),
  (62, .iload_n 1, 63, .null, 1, 0),
  (63, .invokevirtual 125, 66, .ref 3, 114, 5),
  (66, .iadd, 67, .null, 0, 0),
  (67, .goto 13, 70, .null, 80, 0),
  (70, .sipush 10000, 73, .int (10000), 0, 0),
  (73, .aload_n 0, 74, .null, 0, 0),
  (74, .iconst 0, 75, .int (0), 0, 0),
  (75, .iload_n 1, 76, .null, 1, 0),
  (76, .invokevirtual 135, 79, .ref 3, 115, 5),
  (79, .iadd, 80, .null, 0, 0),
  (80, .ireturn, 81, .null, 0, 0)]
def tbX5_knock : pm_Tb := [(0, .aload_n 0, 1, .null, 0, 0),
  (1, .iload_n 1, 2, .null, 1, 0),
  (2, .invokevirtual 177, 5, .ref 2, 112, 5),
  (5, .ifCond .eq 13, 8, .null, 18, 0),
  (8, .iload_n 2, 9, .null, 2, 0),
  (9, .i2l, 10, .null, 0, 0),
  (10, .lconst 0, 11, .long 0, 0, 0),
  (11, .lconst 1, 12, .long 1, 0, 0),
  (12, .invokestatic 53, 15, .ref 3, 98, 0),
  (15, .ifCond .ne 5, 18, .null, 20, 0),
  (18, .iconst (-1), 19, .int (-1), 0, 0),
  (19, .ireturn, 20, .null, 0, 0),
  (20, .iload_n 2, 21, .null, 2, 0),
  (21, .ifCond .ne 15, 24, .null, 36, 0),
  (24, .aload_n 0, 25, .null, 0, 0),
  (25, .getfield 7, 28, .null, 0, 5),
  (28, .bipush 25, 30, .int (25), 0, 0),
  (30, .iload_n 1, 31, .null, 1, 0),
  (31, .iadd, 32, .null, 0, 0),
  (32, .iaload, 33, .null, 0, 0),
  (33, .goto 15, 36, .null, 48, 0),
  (36, .bipush 9, 38, .int (9), 0, 0),
  (38, .aload_n 0, 39, .null, 0, 0),
  (39, .getfield 7, 42, .null, 0, 5),
  (42, .bipush 37, 44, .int (37), 0, 0),
  (44, .iload_n 1, 45, .null, 1, 0),
  (45, .iadd, 46, .null, 0, 0),
  (46, .iaload, 47, .null, 0, 0),
  (47, .iadd, 48, .null, 0, 0),
  (48, .ireturn, 49, .null, 0, 0)]
def tbX5_puts : pm_Tb := [(0, .iload_n 1, 1, .null, 1, 0),
  (1, .ifCond .ne 5, 4, .null, 6, 0),
  (4, .iconst (-1), 5, .int (-1), 0, 0),
  (5, .ireturn, 6, .null, 0, 0),
  (6, .aload_n 0, 7, .null, 0, 0),
  (7, .getfield 7, 10, .null, 0, 5),
  (10, .iload_n 2, 11, .null, 2, 0),
  (11, .iaload, 12, .null, 0, 0),
  (12, .istore 4, 14, .null, 4, 0),
  (14, .aload_n 0, 15, .null, 0, 0),
  (15, .getfield 7, 18, .null, 0, 5),
  (18, .iload_n 2, 19, .null, 2, 0),
  (19, .iload_n 3, 20, .null, 3, 0),
  (20, .iastore, 21, .null, 0, 0),
  (21, .iload 4, 23, .null, 4, 0),
  (23, .ireturn, 24, .null, 0, 0)]
def tbX5_isGood : pm_Tb := [(0, .iload_n 0, 1, .null, 0, 0),
  (1, .tableswitch 85 0 4 #[35, 45, 55, 65, 75], 36, .null, 86, 0),
  (36, .iload_n 1, 37, .null, 1, 0),
  (37, .i2l, 38, .null, 0, 0),
  (38, .lconst 0, 39, .long 0, 0, 0),
  (39, .ldc2_w 180, 42, .long (3), 0, 0),
  (42, .invokestatic 53, 45, .ref 3, 98, 0),
  (45, .ireturn, 46, .null, 0, 0),
  (46, .iload_n 1, 47, .null, 1, 0),
  (47, .i2l, 48, .null, 0, 0),
  (48, .lconst 0, 49, .long 0, 0, 0),
  (49, .ldc2_w 182, 52, .long (60), 0, 0),
  (52, .invokestatic 53, 55, .ref 3, 98, 0),
  (55, .ireturn, 56, .null, 0, 0),
  (56, .iload_n 1, 57, .null, 1, 0),
  (57, .i2l, 58, .null, 0, 0),
  (58, .lconst 0, 59, .long 0, 0, 0),
  (59, .ldc2_w 184, 62, .long (9), 0, 0),
  (62, .invokestatic 53, 65, .ref 3, 98, 0),
  (65, .ireturn, 66, .null, 0, 0),
  (66, .iload_n 1, 67, .null, 1, 0),
  (67, .i2l, 68, .null, 0, 0),
  (68, .lconst 1, 69, .long 1, 0, 0),
  (69, .ldc2_w 184, 72, .long (9), 0, 0),
  (72, .invokestatic 53, 75, .ref 3, 98, 0),
  (75, .ireturn, 76, .null, 0, 0),
  (76, .iload_n 1, 77, .null, 1, 0),
  (77, .i2l, 78, .null, 0, 0),
  (78, .lconst 0, 79, .long 0, 0, 0),
  (79, .ldc2_w 138, 82, .long (300), 0, 0),
  (82, .invokestatic 53, 85, .ref 3, 98, 0),
  (85, .ireturn, 86, .null, 0, 0),
  (86, .iconst 0, 87, .int (0), 0, 0),
  (87, .ireturn, 88, .null, 0, 0)]
def tbX5_alter : pm_Tb := [(0, .aload_n 0, 1, .null, 0, 0),
  (1, .aload_n 0, 2, .null, 0, 0),
  (2, .iload_n 1, 3, .null, 1, 0),
  (3, .invokevirtual 171, 6, .ref 2, 111, 5),
  (6, .ifCond .eq 15, 9, .null, 21, 0),
  (9, .iload_n 2, 10, .null, 2, 0),
  (10, .iload_n 3, 11, .null, 3, 0),
  (11, .invokestatic 186, 14, .ref 2, 127, 0),
  (14, .ifCond .eq 7, 17, .null, 21, 0),
  (17, .iconst 1, 18, .int (1), 0, 0),
  (18, .goto 4, 21, .null, 22, 0),
  (21, .iconst 0, 22, .int (0), 0, 0),
  (22, .iconst 4, 23, .int (4), 0, 0),
  (23, .iload_n 2, 24, .null, 2, 0),
  (24, .imul, 25, .null, 0, 0),
  (25, .iload_n 1, 26, .null, 1, 0),
  (26, .iadd, 27, .null, 0, 0),
  (27, .iload_n 3, 28, .null, 3, 0),
  (28, .invokevirtual 190, 31, .ref 4, 126, 5),
  (31, .ireturn, 32, .null, 0, 0)]
def tbX5_drag : pm_Tb := [(0, .aload_n 0, 1, .null, 0, 0),
  (1, .iload_n 1, 2, .null, 1, 0),
  (2, .i2l, 3, .null, 0, 0),
  (3, .lconst 0, 4, .long 0, 0, 0),
  (4, .ldc2_w 180, 7, .long (3), 0, 0),
  (7, .invokestatic 53, 10, .ref 3, 98, 0),
  (10, .bipush 50, 12, .int (50), 0, 0),
  (12, .iload_n 1, 13, .null, 1, 0),
  (13, .invokevirtual 190, 16, .ref 4, 126, 5),
  (16, .ireturn, 17, .null, 0, 0)]
def tbX5_bind : pm_Tb := [(0, .iconst 0, 1, .int (0), 0, 0),
  (1, .iload_n 1, 2, .null, 1, 0),
  (2, .invokestatic 186, 5, .ref 2, 127, 0),
  (5, .ifCond .eq 28, 8, .null, 33, 0),
  (8, .iconst 1, 9, .int (1), 0, 0),
  (9, .iload_n 2, 10, .null, 2, 0),
  (10, .invokestatic 186, 13, .ref 2, 127, 0),
  (13, .ifCond .eq 20, 16, .null, 33, 0),
  (16, .iconst 2, 17, .int (2), 0, 0),
  (17, .iload_n 3, 18, .null, 3, 0),
  (18, .invokestatic 186, 21, .ref 2, 127, 0),
  (21, .ifCond .eq 12, 24, .null, 33, 0),
  (24, .iconst 3, 25, .int (3), 0, 0),
  (25, .iload 4, 27, .null, 4, 0),
  (27, .invokestatic 186, 30, .ref 2, 127, 0),
  (30, .ifCond .ne 5, 33, .null, 35, 0),
  (33, .iconst (-1), 34, .int (-1), 0, 0),
  (34, .ireturn, 35, .null, 0, 0),
  (35, .aload_n 0, 36, .null, 0, 0),
  (36, .getfield 7, 39, .null, 0, 5),
  (39, .bipush 24, 41, .int (24), 0, 0),
  (41, .iaload, 42, .null, 0, 0),
  (42, .istore 5, 44, .null, 5, 0),
  (44, .iload 5, 46, .null, 5, 0),
  (46, .iconst 4, 47, .int (4), 0, 0),
  (47, .if_icmp .ne 6, 50, .null, 53, 0),
  (50, .bipush (-3), 52, .int (-3), 0, 0),
  (52, .ireturn, 53, .null, 0, 0),
  (53, .aload_n 0, 54, .null, 0, 0),
  (54, .iconst 0, 55, .int (0), 0, 0),
  (55, .invokevirtual 158, 58, .ref 2, 120, 5),
  (58, .iload_n 2, 59, .null, 2, 0),
  (59, .iadd, 60, .null, 0, 0),
  (60, .istore 6, 62, .null, 6, 0),
  (62, .aload_n 0, 63, .null, 0, 0),
  (63, .getfield 7, 66, .null, 0, 5),
  (66, .iload 5, 68, .null, 5, 0),
  (68, .iload_n 1, 69, .null, 1, 0),
  (69, .iastore, 70, .null, 0, 0),
  (70, .aload_n 0, 71, .null, 0, 0),
  (71, .getfield 7, 74, .null, 0, 5),
  (74, .iconst 4, 75, .int (4), 0, 0),
  (75, .iload 5, 77, .null, 5, 0),
  (77, .iadd, 78, .null, 0, 0),
  (78, .iload_n 2, 79, .null, 2, 0),
  (79, .iastore, 80, .null, 0, 0),
  (80, .aload_n 0, 81, .null, 0, 0),
  (81, .getfield 7, 84, .null, 0, 5),
  (84, .bipush 8, 86, .int (8), 0, 0),
  (86, .iload 5, 88, .null, 5, 0),
  (88, .iadd, 89, .null, 0, 0),
  (89, .iload_n 3, 90, .null, 3, 0),
  (90, .iastore, 91, .null, 0, 0),
  (91, .aload_n 0, 92, .null, 0, 0),
  (92, .getfield 7, 95, .null, 0, 5),
  (95, .bipush 12, 97, .int (12), 0, 0),
  (97, .iload 5, 99, .null, 5, 0),
  (99, .iadd, 100, .null, 0, 0),
  (100, .iload 4, 102, .null, 4, 0),
  (102, .iastore, 103, .null, 0, 0),
  (103, .aload_n 0, 104, .null, 0, 0),
  (104, .getfield 7, 107, .null, 0, 5),
  (107, .bipush 16, 109, .int (16), 0, 0),
  (109, .iload 5, 111, .null, 5, 0),
  (111, .iadd, 112, .null, 0, 0),
  (112, .iload 6, 114, .null, 6, 0),
  (114, .sipush 300, 117, .int (300), 0, 0),
  (117, .if_icmp .le 9, 120, .null, 126, 0),
  (120, .sipush 300, 123, .int (300), 0, 0),
  (123, .goto 5, 126, .null, 128, 0),
  (126, .iload 6, 128, .null, 6, 0),
  (128, .iastore, 129, .null, 0, 0),
  (129, .aload_n 0, 130, .null, 0, 0),
  (130, .getfield 7, 133, .null, 0, 5),
  (133, .bipush 20, 135, .int (20), 0, 0),
  (135, .iload 5, 137, .null, 5, 0),
  (137, .iadd, 138, .null, 0, 0),
  (138, .iconst 0, 139, .int (0), 0, 0),
  (139, .iastore, 140, .null, 0, 0),
  (140, .aload_n 0, 141, .null, 0, 0),
  (141, .getfield 7, 144, .null, 0, 5),
  (144, .bipush 24, 146, .int (24), 0, 0),
  (146, .dup2, 147, .null, 0, 0),
  (147, .iaload, 148, .null, 0, 0),
  (148, .iconst 1, 149, .int (1), 0, 0),
  (149, .iadd, 150, .null, 0, 0),
  (150, .iastore, 151, .null, 0, 0),
  (151, .aload_n 0, 152, .null, 0, 0),
  (152, .getfield 7, 155, .null, 0, 5),
  (155, .bipush 24, 157, .int (24), 0, 0),
  (157, .iaload, 158, .null, 0, 0),
  (158, .ireturn, 159, .null, 0, 0)]
def tbX5_cut : pm_Tb := [(0, .aload_n 0, 1, .null, 0, 0),
  (1, .iload_n 1, 2, .null, 1, 0),
  (2, .i2l, 3, .null, 0, 0),
  (3, .lconst 0, 4, .long 0, 0, 0),
  (4, .aload_n 0, 5, .null, 0, 0),
  (5, .getfield 7, 8, .null, 0, 5),
  (8, .bipush 24, 10, .int (24), 0, 0),
  (10, .iaload, 11, .null, 0, 0),
  (11, .i2l, 12, .null, 0, 0),
  (12, .invokestatic 53, 15, .ref 3, 98, 0),
  (15, .bipush 24, 17, .int (24), 0, 0),
  (17, .iload_n 1, 18, .null, 1, 0),
  (18, .invokevirtual 190, 21, .ref 4, 126, 5),
  (21, .ireturn, 22, .null, 0, 0)]
def tbX5_hit : pm_Tb := [(0, .aload_n 0, 1, .null, 0, 0),
  (1, .iload_n 1, 2, .null, 1, 0),
  (2, .invokevirtual 171, 5, .ref 2, 111, 5),
  (5, .ifCond .eq 15, 8, .null, 20, 0),
  (8, .iload_n 2, 9, .null, 2, 0),
  (9, .i2l, 10, .null, 0, 0),
  (10, .lconst 0, 11, .long 0, 0, 0),
  (11, .ldc2_w 194, 14, .long (18), 0, 0),
  (14, .invokestatic 53, 17, .ref 3, 98, 0),
  (17, .ifCond .ne 5, 20, .null, 22, 0),
  (20, .iconst (-1), 21, .int (-1), 0, 0),
  (21, .ireturn, 22, .null, 0, 0),
  (22, .aload_n 0, 23, .null, 0, 0),
  (23, .iconst 0, 24, .int (0), 0, 0),
  (24, .iload_n 1, 25, .null, 1, 0),
  (25, .iload_n 2, 26, .null, 2, 0),
  (26, .bipush 9, 28, .int (9), 0, 0),
  (28, .isub, 29, .null, 0, 0),
  (29, .invokevirtual 164, 32, .ref 4, 117, 5),
  (32, .bipush 100, 34, .int (100), 0, 0),
  (34, .aload_n 0, 35, .null, 0, 0),
  (35, .getfield 7, 38, .null, 0, 5),
  (38, .bipush 20, 40, .int (20), 0, 0),
  (40, .iload_n 1, 41, .null, 1, 0),
  (41, .iadd, 42, .null, 0, 0),
  (42, .iaload, 43, .null, 0, 0),
  (43, .iadd, 44, .null, 0, 0),
  (44, .ireturn, 45, .null, 0, 0)]
def tbX5_adds : pm_Tb := [(0, .iload_n 1, 1, .null, 1, 0),
  (1, .i2l, 2, .null, 0, 0),
  (2, .lconst 0, 3, .long 0, 0, 0),
  (3, .ldc2_w 180, 6, .long (3), 0, 0),
  (6, .invokestatic 53, 9, .ref 3, 98, 0),
  (9, .ifCond .eq 15, 12, .null, 24, 0),
  (12, .iload_n 2, 13, .null, 2, 0),
  (13, .i2l, 14, .null, 0, 0),
  (14, .lconst 0, 15, .long 0, 0, 0),
  (15, .ldc2_w 194, 18, .long (18), 0, 0),
  (18, .invokestatic 53, 21, .ref 3, 98, 0),
  (21, .ifCond .ne 5, 24, .null, 26, 0),
  (24, .iconst (-1), 25, .int (-1), 0, 0),
  (25, .ireturn, 26, .null, 0, 0),
  (26, .aload_n 0, 27, .null, 0, 0),
  (27, .getfield 7, 30, .null, 0, 5),
  (30, .bipush 49, 32, .int (49), 0, 0),
  (32, .iaload, 33, .null, 0, 0),
  (33, .istore_n 3, 34, .null, 3, 0),
  (34, .iload_n 3, 35, .null, 3, 0),
  (35, .bipush 12, 37, .int (12), 0, 0),
  (37, .if_icmp .ne 6, 40, .null, 43, 0),
  (40, .bipush (-3), 42, .int (-3), 0, 0),
  (42, .ireturn, 43, .null, 0, 0),
  (43, .aload_n 0, 44, .null, 0, 0),
  (44, .getfield 7, 47, .null, 0, 5),
  (47, .bipush 25, 49, .int (25), 0, 0),
  (49, .iload_n 3, 50, .null, 3, 0),
  (50, .iadd, 51, .null, 0, 0),
  (51, .iload_n 1, 52, .null, 1, 0),
  (52, .iastore, 53, .null, 0, 0),
  (53, .aload_n 0, 54, .null, 0, 0),
  (54, .getfield 7, 57, .null, 0, 5),
  (57, .bipush 37, 59, .int (37), 0, 0),
  (59, .iload_n 3, 60, .null, 3, 0),
  (60, .iadd, 61, .null, 0, 0),
  (61, .iload_n 2, 62, .null, 2, 0),
  (62, .bipush 9, 64, .int (9), 0, 0),
  (64, .isub, 65, .null, 0, 0),
  (65, .iastore, 66, .null, 0, 0),
  (66, .aload_n 0, 67, .null, 0, 0),
  (67, .getfield 7, 70, .null, 0, 5),
  (70, .bipush 49, 72, .int (49), 0, 0),
  (72, .dup2, 73, .null, 0, 0),
  (73, .iaload, 74, .null, 0, 0),
  (74, .iconst 1, 75, .int (1), 0, 0),
  (75, .iadd, 76, .null, 0, 0),
  (76, .iastore, 77, .null, 0, 0),
  (77, .aload_n 0, 78, .null, 0, 0),
  (78, .getfield 7, 81, .null, 0, 5),
  (81, .bipush 49, 83, .int (49), 0, 0),
  (83, .iaload, 84, .null, 0, 0),
  (84, .ireturn, 85, .null, 0, 0)]
def tbX5_add : pm_Tb := [(0, .aload_n 0, 1, .null, 0, 0),
  (1, .iload_n 1, 2, .null, 1, 0),
  (2, .iload_n 2, 3, .null, 2, 0),
  (3, .invokevirtual 196, 6, .ref 3, 133, 5),
  (6, .ireturn, 7, .null, 0, 0)]
def tbX5_drop : pm_Tb := [(0, .aload_n 0, 1, .null, 0, 0),
  (1, .iload_n 1, 2, .null, 1, 0),
  (2, .i2l, 3, .null, 0, 0),
  (3, .lconst 0, 4, .long 0, 0, 0),
  (4, .aload_n 0, 5, .null, 0, 0),
  (5, .getfield 7, 8, .null, 0, 5),
  (8, .bipush 49, 10, .int (49), 0, 0),
  (10, .iaload, 11, .null, 0, 0),
  (11, .i2l, 12, .null, 0, 0),
  (12, .invokestatic 53, 15, .ref 3, 98, 0),
  (15, .bipush 49, 17, .int (49), 0, 0),
  (17, .iload_n 1, 18, .null, 1, 0),
  (18, .invokevirtual 190, 21, .ref 4, 126, 5),
  (21, .ireturn, 22, .null, 0, 0)]
def tbX5_calm : pm_Tb := [(0, .iconst 0, 1, .int (0), 0, 0),
  (1, .istore_n 1, 2, .null, 1, 0),
  (2, .iconst 0, 3, .int (0), 0, 0),
  (3, .istore_n 2, 4, .null, 2, 0),
  (4, .iload_n 2, 5, .null, 2, 0),
  (5, .aload_n 0, 6, .null, 0, 0),
  (6, .getfield 7, 9, .null, 0, 5),
  (9, .bipush 24, 11, .int (24), 0, 0),
  (11, .iaload, 12, .null, 0, 0),
  (12, .if_icmp .ge 39, 15, .null, 51, 0),
  (15, .iload_n 1, 16, .null, 1, 0),
  (16, .aload_n 0, 17, .null, 0, 0),
  (17, .getfield 7, 20, .null, 0, 5),
  (20, .bipush 20, 22, .int (20), 0, 0),
  (22, .iload_n 2, 23, .null, 2, 0),
  (23, .iadd, 24, .null, 0, 0),
  (24, .iaload, 25, .null, 0, 0),
  (25, .ifCond .ne 7, 28, .null, 32, 0),
  (28, .iconst 0, 29, .int (0), 0, 0),
  (29, .goto 4, 32, .null, 33, 0),
  (32, .iconst 1, 33, .int (1), 0, 0),
  (33, .iadd, 34, .null, 0, 0),
  (34, .istore_n 1, 35, .null, 1, 0),
  (35, .aload_n 0, 36, .null, 0, 0),
  (36, .getfield 7, 39, .null, 0, 5),
  (39, .bipush 20, 41, .int (20), 0, 0),
  (41, .iload_n 2, 42, .null, 2, 0),
  (42, .iadd, 43, .null, 0, 0),
  (43, .iconst 0, 44, .int (0), 0, 0),
  (44, .iastore, 45, .null, 0, 0),
  (45, .iinc 2 1, 48, .int (1), 2, 0),
  (48, .goto (-44), 51, .null, 4, 0),
  (51, .iload_n 1, 52, .null, 1, 0),
  (52, .ireturn, 53, .null, 0, 0)]
def tbX5_ticks : pm_Tb := [(0, .iload_n 1, 1, .null, 1, 0),
  (1, .i2l, 2, .null, 0, 0),
  (2, .lconst 0, 3, .long 0, 0, 0),
  (3, .ldc2_w 199, 6, .long (100), 0, 0),
  (6, .invokestatic 53, 9, .ref 3, 98, 0),
  (9, .ifCond .ne 5, 12, .null, 14, 0),
  (12, .iconst (-1), 13, .int (-1), 0, 0),
  (13, .ireturn, 14, .null, 0, 0),
  (14, .aload_n 0, 15, .null, 0, 0),
  (15, .getfield 7, 18, .null, 0, 5),
  (18, .bipush 51, 20, .int (51), 0, 0),
  (20, .iaload, 21, .null, 0, 0),
  (21, .iload_n 1, 22, .null, 1, 0),
  (22, .iadd, 23, .null, 0, 0),
  (23, .sipush 9999, 26, .int (9999), 0, 0),
  (26, .if_icmp .le 6, 29, .null, 32, 0),
  (29, .bipush (-3), 31, .int (-3), 0, 0),
  (31, .ireturn, 32, .null, 0, 0),
  (32, .aload_n 0, 33, .null, 0, 0),
  (33, .iconst 0, 34, .int (0), 0, 0),
  (34, .putfield 143, 37, .null, 14, 5),
  (37, .iconst 0, 38, .int (0), 0, 0),
  (38, .istore_n 2, 39, .null, 2, 0),
  (39, .iload_n 2, 40, .null, 2, 0),
  (40, .iload_n 1, 41, .null, 1, 0),
  (41, .if_icmp .ge 15, 44, .null, 56, 0),
  (44, .aload_n 0, 45, .null, 0, 0),
  (45, .iconst 0, 46, .int (0), 0, 0),
  (46, .iconst 0, 47, .int (0), 0, 0),
  (47, .invokevirtual 201, 50, .ref 3, 122, 5),
  (50, .iinc 2 1, 53, .int (1), 2, 0),
  (53, .goto (-14), 56, .null, 39, 0),
  (56, .aload_n 0, 57, .null, 0, 0),
  (57, .getfield 143, 60, .null, 14, 5),
  (60, .ireturn, 61, .null, 0, 0)]
def tbX5_copies : pm_Tb := [(0, .iconst 0, 1, .int (0), 0, 0),
  (1, .istore_n 3, 2, .null, 3, 0),
  (2, .iload_n 3, 3, .null, 3, 0),
  (3, .bipush 52, 5, .int (52), 0, 0),
  (5, .if_icmp .ge 25, 8, .null, 30, 0),
  (8, .aload_n 0, 9, .null, 0, 0),
  (9, .getfield 7, 12, .null, 0, 5),
  (12, .iload_n 2, 13, .null, 2, 0),
  (13, .iload_n 3, 14, .null, 3, 0),
  (14, .iadd, 15, .null, 0, 0),
  (15, .aload_n 0, 16, .null, 0, 0),
  (16, .getfield 7, 19, .null, 0, 5),
  (19, .iload_n 1, 20, .null, 1, 0),
  (20, .iload_n 3, 21, .null, 3, 0),
  (21, .iadd, 22, .null, 0, 0),
  (22, .iaload, 23, .null, 0, 0),
  (23, .iastore, 24, .null, 0, 0),
  (24, .iinc 3 1, 27, .int (1), 3, 0),
  (27, .goto (-25), 30, .null, 2, 0),
  (30, .return_, 31, .null, 0, 0)]
def tbX5_ticksGo : pm_Tb := [(0, .aload_n 0, 1, .null, 0, 0),
  (1, .iload_n 1, 2, .null, 1, 0),
  (2, .sipush 208, 5, .int (208), 0, 0),
  (5, .invokevirtual 205, 8, .ref 3, 138, 5),
  (8, .aload_n 0, 9, .null, 0, 0),
  (9, .iconst 0, 10, .int (0), 0, 0),
  (10, .putfield 143, 13, .null, 14, 5),
  (13, .aload_n 0, 14, .null, 0, 0),
  (14, .iconst 0, 15, .int (0), 0, 0),
  (15, .putfield 140, 18, .null, 15, 5),
  (18, .aload_n 0, 19, .null, 0, 0),
  (19, .iconst 0, 20, .int (0), 0, 0),
  (20, .putfield 161, 23, .null, 18, 5),
  (23, .iconst 0, 24, .int (0), 0, 0),
  (24, .istore_n 3, 25, .null, 3, 0),
  (25, .iload_n 3, 26, .null, 3, 0),
  (26, .iload_n 2, 27, .null, 2, 0),
  (27, .if_icmp .ge 17, 30, .null, 44, 0),
  (30, .aload_n 0, 31, .null, 0, 0),
  (31, .sipush 208, 34, .int (208), 0, 0),
  (34, .iconst 0, 35, .int (0), 0, 0),
  (35, .invokevirtual 201, 38, .ref 3, 122, 5),
  (38, .iinc 3 1, 41, .int (1), 3, 0),
  (41, .goto (-16), 44, .null, 25, 0),
  (44, .aload_n 0, 45, .null, 0, 0),
  (45, .getfield 161, 48, .null, 18, 5),
  (48, .ireturn, 49, .null, 0, 0)]
def tbX5_runs : pm_Tb := [(0, .iload_n 1, 1, .null, 1, 0),
  (1, .invokestatic 209, 4, .ref 1, 113, 0),
  (4, .ifCond .eq 15, 7, .null, 19, 0),
  (7, .iload_n 2, 8, .null, 2, 0),
  (8, .i2l, 9, .null, 0, 0),
  (9, .lconst 0, 10, .long 0, 0, 0),
  (10, .ldc2_w 180, 13, .long (3), 0, 0),
  (13, .invokestatic 53, 16, .ref 3, 98, 0),
  (16, .ifCond .ne 5, 19, .null, 21, 0),
  (19, .iconst (-1), 20, .int (-1), 0, 0),
  (20, .ireturn, 21, .null, 0, 0),
  (21, .aload_n 0, 22, .null, 0, 0),
  (22, .iconst 0, 23, .int (0), 0, 0),
  (23, .iload_n 1, 24, .null, 1, 0),
  (24, .invokevirtual 212, 27, .ref 3, 139, 5),
  (27, .istore_n 3, 28, .null, 3, 0),
  (28, .iload_n 2, 29, .null, 2, 0),
  (29, .ifCond .ne 10, 32, .null, 39, 0),
  (32, .aload_n 0, 33, .null, 0, 0),
  (33, .getfield 143, 36, .null, 14, 5),
  (36, .goto 31, 39, .null, 67, 0),
  (39, .iload_n 2, 40, .null, 2, 0),
  (40, .iconst 1, 41, .int (1), 0, 0),
  (41, .if_icmp .ne 7, 44, .null, 48, 0),
  (44, .iload_n 3, 45, .null, 3, 0),
  (45, .goto 22, 48, .null, 67, 0),
  (48, .iload_n 2, 49, .null, 2, 0),
  (49, .iconst 2, 50, .int (2), 0, 0),
  (50, .if_icmp .ne 13, 53, .null, 63, 0),
  (53, .aload_n 0, 54, .null, 0, 0),
  (54, .sipush 208, 57, .int (208), 0, 0),
  (57, .invokevirtual 158, 60, .ref 2, 120, 5),
  (60, .goto 7, 63, .null, 67, 0),
  (63, .aload_n 0, 64, .null, 0, 0),
  (64, .getfield 140, 67, .null, 15, 5),
  (67, .ireturn, 68, .null, 0, 0)]
def tbX5_ahead : pm_Tb := [(0, .aload_n 0, 1, .null, 0, 0),
  (1, .iload_n 1, 2, .null, 1, 0),
  (2, .invokevirtual 171, 5, .ref 2, 111, 5),
  (5, .ifCond .eq 20, 8, .null, 25, 0),
  (8, .iload_n 2, 9, .null, 2, 0),
  (9, .invokestatic 209, 12, .ref 1, 113, 0),
  (12, .ifCond .eq 13, 15, .null, 25, 0),
  (15, .iload_n 3, 16, .null, 3, 0),
  (16, .i2l, 17, .null, 0, 0),
  (17, .lconst 0, 18, .long 0, 0, 0),
  (18, .lconst 1, 19, .long 1, 0, 0),
  (19, .invokestatic 53, 22, .ref 3, 98, 0),
  (22, .ifCond .ne 5, 25, .null, 27, 0),
  (25, .iconst (-1), 26, .int (-1), 0, 0),
  (26, .ireturn, 27, .null, 0, 0),
  (27, .aload_n 0, 28, .null, 0, 0),
  (28, .iconst 0, 29, .int (0), 0, 0),
  (29, .iload_n 2, 30, .null, 2, 0),
  (30, .invokevirtual 212, 33, .ref 3, 139, 5),
  (33, .pop, 34, .null, 0, 0),
  (34, .iload_n 3, 35, .null, 3, 0),
  (35, .ifCond .ne 16, 38, .null, 51, 0),
  (38, .aload_n 0, 39, .null, 0, 0),
  (39, .getfield 7, 42, .null, 0, 5),
  (42, .sipush 224, 45, .int (224), 0, 0),
  (45, .iload_n 1, 46, .null, 1, 0),
  (46, .iadd, 47, .null, 0, 0),
  (47, .iaload, 48, .null, 0, 0),
  (48, .goto 16, 51, .null, 64, 0),
  (51, .bipush 100, 53, .int (100), 0, 0),
  (53, .aload_n 0, 54, .null, 0, 0),
  (54, .getfield 7, 57, .null, 0, 5),
  (57, .sipush 228, 60, .int (228), 0, 0),
  (60, .iload_n 1, 61, .null, 1, 0),
  (61, .iadd, 62, .null, 0, 0),
  (62, .iaload, 63, .null, 0, 0),
  (63, .iadd, 64, .null, 0, 0),
  (64, .ireturn, 65, .null, 0, 0)]
def tbX5_when : pm_Tb := [(0, .aload_n 0, 1, .null, 0, 0),
  (1, .iload_n 1, 2, .null, 1, 0),
  (2, .invokevirtual 171, 5, .ref 2, 111, 5),
  (5, .ifCond .eq 15, 8, .null, 20, 0),
  (8, .iload_n 2, 9, .null, 2, 0),
  (9, .i2l, 10, .null, 0, 0),
  (10, .lconst 0, 11, .long 0, 0, 0),
  (11, .ldc2_w 138, 14, .long (300), 0, 0),
  (14, .invokestatic 53, 17, .ref 3, 98, 0),
  (17, .ifCond .ne 5, 20, .null, 22, 0),
  (20, .iconst (-1), 21, .int (-1), 0, 0),
  (21, .ireturn, 22, .null, 0, 0),
  (22, .iload_n 2, 23, .null, 2, 0),
  (23, .aload_n 0, 24, .null, 0, 0),
  (24, .getfield 7, 27, .null, 0, 5),
  (27, .bipush 16, 29, .int (16), 0, 0),
  (29, .iload_n 1, 30, .null, 1, 0),
  (30, .iadd, 31, .null, 0, 0),
  (31, .iaload, 32, .null, 0, 0),
  (32, .isub, 33, .null, 0, 0),
  (33, .istore_n 3, 34, .null, 3, 0),
  (34, .aload_n 0, 35, .null, 0, 0),
  (35, .iconst 0, 36, .int (0), 0, 0),
  (36, .sipush 208, 39, .int (208), 0, 0),
  (39, .invokevirtual 205, 42, .ref 3, 138, 5),
  (42, .iconst 0, 43, .int (0), 0, 0),
  (43, .istore 4, 45, .null, 4, 0),
  (45, .iload 4, 47, .null, 4, 0),
  (47, .sipush 200, 50, .int (200), 0, 0),
  (50, .if_icmp .gt 66, 53, .null, 116, 0),
  (53, .aload_n 0, 54, .null, 0, 0),
  (54, .getfield 7, 57, .null, 0, 5),
  (57, .sipush 224, 60, .int (224), 0, 0),
  (60, .iload_n 1, 61, .null, 1, 0),
  (61, .iadd, 62, .null, 0, 0),
  (62, .iaload, 63, .null, 0, 0),
  (63, .aload_n 0, 64, .null, 0, 0),
  (64, .getfield 7, 67, .null, 0, 5),
  (67, .bipush 16, 69, .int (16), 0, 0),
  (69, .iload_n 1, 70, .null, 1, 0),
  (70, .iadd, 71, .null, 0, 0),
  (71, .iaload, 72, .null, 0, 0),
  (72, .isub, 73, .null, 0, 0),
  (73, .istore 5, 75, .null, 5, 0),
  (75, .iload_n 3, 76, .null, 3, 0),
  (76, .ifCond .eq 23, 79, .null, 99, 0),
  (79, .iload_n 3, 80, .null, 3, 0),
  (80, .ifCond .le 9, 83, .null, 89, 0),
  (83, .iload 5, 85, .null, 5, 0),
  (85, .iload_n 3, 86, .null, 3, 0),
  (86, .if_icmp .ge 13, 89, .null, 99, 0),
  (89, .iload_n 3, 90, .null, 3, 0),
  (90, .ifCond .ge 12, 93, .null, 102, 0),
  (93, .iload 5, 95, .null, 5, 0),
  (95, .iload_n 3, 96, .null, 3, 0),
  (96, .if_icmp .gt 6, 99, .null, 102, 0),
  (99, .iload 4, 101, .null, 4, 0),
  (101, .ireturn, 102, .null, 0, 0),
  (102, .aload_n 0, 103, .null, 0, 0),
  (103, .sipush 208, 106, .int (208), 0, 0),
  (106, .iconst 0, 107, .int (0), 0, 0),
  (107, .invokevirtual 201, 110, .ref 3, 122, 5),
  (110, .iinc 4 1, 113, .int (1), 4, 0),
  (113, .goto (-68), 116, .null, 45, 0),
  (116, .bipush (-4), 118, .int (-4), 0, 0),
  (118, .ireturn, 119, .null, 0, 0)]
def tbX5_rests : pm_Tb := [(0, .aload_n 0, 1, .null, 0, 0),
  (1, .iconst 0, 2, .int (0), 0, 0),
  (2, .sipush 208, 5, .int (208), 0, 0),
  (5, .invokevirtual 205, 8, .ref 3, 138, 5),
  (8, .iconst 0, 9, .int (0), 0, 0),
  (9, .istore_n 1, 10, .null, 1, 0),
  (10, .iload_n 1, 11, .null, 1, 0),
  (11, .sipush 200, 14, .int (200), 0, 0),
  (14, .if_icmp .gt 37, 17, .null, 51, 0),
  (17, .aload_n 0, 18, .null, 0, 0),
  (18, .iconst 0, 19, .int (0), 0, 0),
  (19, .putfield 143, 22, .null, 14, 5),
  (22, .aload_n 0, 23, .null, 0, 0),
  (23, .sipush 208, 26, .int (208), 0, 0),
  (26, .invokevirtual 168, 29, .ref 2, 121, 5),
  (29, .aload_n 0, 30, .null, 0, 0),
  (30, .getfield 143, 33, .null, 14, 5),
  (33, .ifCond .ne 12, 36, .null, 45, 0),
  (36, .aload_n 0, 37, .null, 0, 0),
  (37, .getfield 155, 40, .null, 16, 5),
  (40, .ifCond .ne 5, 43, .null, 45, 0),
  (43, .iload_n 1, 44, .null, 1, 0),
  (44, .ireturn, 45, .null, 0, 0),
  (45, .iinc 1 1, 48, .int (1), 1, 0),
  (48, .goto (-38), 51, .null, 10, 0),
  (51, .bipush (-4), 53, .int (-4), 0, 0),
  (53, .ireturn, 54, .null, 0, 0)]
def tbX5_leastAt : pm_Tb := [(0, .ldc 215, 2, .int (1000000), 0, 0),
  (2, .istore 6, 4, .null, 6, 0),
  (4, .iload_n 2, 5, .null, 2, 0),
  (5, .istore 7, 7, .null, 7, 0),
  (7, .aload_n 0, 8, .null, 0, 0),
  (8, .iconst 0, 9, .int (0), 0, 0),
  (9, .sipush 260, 12, .int (260), 0, 0),
  (12, .invokevirtual 205, 15, .ref 3, 138, 5),
  (15, .iload_n 2, 16, .null, 2, 0),
  (16, .istore 8, 18, .null, 8, 0),
  (18, .iload 8, 20, .null, 8, 0),
  (20, .iload_n 3, 21, .null, 3, 0),
  (21, .if_icmp .gt 64, 24, .null, 85, 0),
  (24, .aload_n 0, 25, .null, 0, 0),
  (25, .getfield 7, 28, .null, 0, 5),
  (28, .sipush 260, 31, .int (260), 0, 0),
  (31, .iload_n 1, 32, .null, 1, 0),
  (32, .iadd, 33, .null, 0, 0),
  (33, .iload 8, 35, .null, 8, 0),
  (35, .iastore, 36, .null, 0, 0),
  (36, .aload_n 0, 37, .null, 0, 0),
  (37, .sipush 260, 40, .int (260), 0, 0),
  (40, .iload 4, 42, .null, 4, 0),
  (42, .invokevirtual 212, 45, .ref 3, 139, 5),
  (45, .istore 9, 47, .null, 9, 0),
  (47, .iload 9, 49, .null, 9, 0),
  (49, .iload 6, 51, .null, 6, 0),
  (51, .if_icmp .ge 8, 54, .null, 59, 0),
  (54, .iload 8, 56, .null, 8, 0),
  (56, .goto 5, 59, .null, 61, 0),
  (59, .iload 7, 61, .null, 7, 0),
  (61, .istore 7, 63, .null, 7, 0),
  (63, .iload 9, 65, .null, 9, 0),
  (65, .iload 6, 67, .null, 6, 0),
  (67, .if_icmp .ge 8, 70, .null, 75, 0),
  (70, .iload 9, 72, .null, 9, 0),
  (72, .goto 5, 75, .null, 77, 0),
  (75, .iload 6, 77, .null, 6, 0),
  (77, .istore 6, 79, .null, 6, 0),
  (79, .iinc 8 1, 82, .int (1), 8, 0),
  (82, .goto (-64), 85, .null, 18, 0),
  (85, .iload 5, 87, .null, 5, 0),
  (87, .ifCond .ne 8, 90, .null, 95, 0),
  (90, .iload 7, 92, .null, 7, 0),
  (92, .goto 5, 95, .null, 97, 0),
  (95, .iload 6, 97, .null, 6, 0),
  (97, .ireturn, 98, .null, 0, 0)]
def tbX5_isAsked : pm_Tb := [(0, .aload_n 0, 1, .null, 0, 0),
  (1, .iload_n 1, 2, .null, 1, 0),
  (2, .invokevirtual 171, 5, .ref 2, 111, 5),
  (5, .ifCond .eq 29, 8, .null, 34, 0),
  (8, .iload_n 2, 9, .null, 2, 0),
  (9, .i2l, 10, .null, 0, 0),
  (10, .lconst 0, 11, .long 0, 0, 0),
  (11, .ldc2_w 199, 14, .long (100), 0, 0),
  (14, .invokestatic 53, 17, .ref 3, 98, 0),
  (17, .ifCond .eq 17, 20, .null, 34, 0),
  (20, .iload_n 3, 21, .null, 3, 0),
  (21, .i2l, 22, .null, 0, 0),
  (22, .lconst 0, 23, .long 0, 0, 0),
  (23, .lconst 1, 24, .long 1, 0, 0),
  (24, .invokestatic 53, 27, .ref 3, 98, 0),
  (27, .ifCond .eq 7, 30, .null, 34, 0),
  (30, .iconst 1, 31, .int (1), 0, 0),
  (31, .goto 4, 34, .null, 35, 0),
  (34, .iconst 0, 35, .int (0), 0, 0),
  (35, .ireturn, 36, .null, 0, 0)]
def tbX5_stiff : pm_Tb := [(0, .aload_n 0, 1, .null, 0, 0),
  (1, .iload_n 1, 2, .null, 1, 0),
  (2, .iload_n 2, 3, .null, 2, 0),
  (3, .iload_n 3, 4, .null, 3, 0),
  (4, .invokevirtual 216, 7, .ref 4, 145, 5),
  (7, .ifCond .eq 19, 10, .null, 26, 0),
  (10, .aload_n 0, 11, .null, 0, 0),
  (11, .bipush 8, 13, .int (8), 0, 0),
  (13, .iload_n 1, 14, .null, 1, 0),
  (14, .iadd, 15, .null, 0, 0),
  (15, .iconst 0, 16, .int (0), 0, 0),
  (16, .bipush 9, 18, .int (9), 0, 0),
  (18, .iload_n 2, 19, .null, 2, 0),
  (19, .iload_n 3, 20, .null, 3, 0),
  (20, .invokevirtual 220, 23, .ref 6, 144, 5),
  (23, .goto 4, 26, .null, 27, 0),
  (26, .iconst (-1), 27, .int (-1), 0, 0),
  (27, .ireturn, 28, .null, 0, 0)]
def tbX5_rest : pm_Tb := [(0, .aload_n 0, 1, .null, 0, 0),
  (1, .iload_n 1, 2, .null, 1, 0),
  (2, .iload_n 2, 3, .null, 2, 0),
  (3, .iload_n 3, 4, .null, 3, 0),
  (4, .invokevirtual 216, 7, .ref 4, 145, 5),
  (7, .ifCond .eq 18, 10, .null, 25, 0),
  (10, .aload_n 0, 11, .null, 0, 0),
  (11, .iconst 4, 12, .int (4), 0, 0),
  (12, .iload_n 1, 13, .null, 1, 0),
  (13, .iadd, 14, .null, 0, 0),
  (14, .iconst 0, 15, .int (0), 0, 0),
  (15, .bipush 60, 17, .int (60), 0, 0),
  (17, .iload_n 2, 18, .null, 2, 0),
  (18, .iload_n 3, 19, .null, 3, 0),
  (19, .invokevirtual 220, 22, .ref 6, 144, 5),
  (22, .goto 4, 25, .null, 26, 0),
  (25, .iconst (-1), 26, .int (-1), 0, 0),
  (26, .ireturn, 27, .null, 0, 0)]
def tbX5_kind : pm_Tb := [(0, .aload_n 0, 1, .null, 0, 0),
  (1, .iload_n 1, 2, .null, 1, 0),
  (2, .iload_n 2, 3, .null, 2, 0),
  (3, .iload_n 3, 4, .null, 3, 0),
  (4, .invokevirtual 216, 7, .ref 4, 145, 5),
  (7, .ifCond .eq 15, 10, .null, 22, 0),
  (10, .aload_n 0, 11, .null, 0, 0),
  (11, .iload_n 1, 12, .null, 1, 0),
  (12, .iconst 0, 13, .int (0), 0, 0),
  (13, .iconst 3, 14, .int (3), 0, 0),
  (14, .iload_n 2, 15, .null, 2, 0),
  (15, .iload_n 3, 16, .null, 3, 0),
  (16, .invokevirtual 220, 19, .ref 6, 144, 5),
  (19, .goto 4, 22, .null, 23, 0),
  (22, .iconst (-1), 23, .int (-1), 0, 0),
  (23, .ireturn, 24, .null, 0, 0)]
def tbX5_mass : pm_Tb := [(0, .aload_n 0, 1, .null, 0, 0),
  (1, .iload_n 1, 2, .null, 1, 0),
  (2, .iload_n 2, 3, .null, 2, 0),
  (3, .iload_n 3, 4, .null, 3, 0),
  (4, .invokevirtual 216, 7, .ref 4, 145, 5),
  (7, .ifCond .eq 19, 10, .null, 26, 0),
  (10, .aload_n 0, 11, .null, 0, 0),
  (11, .bipush 12, 13, .int (12), 0, 0),
  (13, .iload_n 1, 14, .null, 1, 0),
  (14, .iadd, 15, .null, 0, 0),
  (15, .iconst 1, 16, .int (1), 0, 0),
  (16, .bipush 9, 18, .int (9), 0, 0),
  (18, .iload_n 2, 19, .null, 2, 0),
  (19, .iload_n 3, 20, .null, 3, 0),
  (20, .invokevirtual 220, 23, .ref 6, 144, 5),
  (23, .goto 4, 26, .null, 27, 0),
  (26, .iconst (-1), 27, .int (-1), 0, 0),
  (27, .ireturn, 28, .null, 0, 0)]
def tbX5_swap : pm_Tb := [(0, .iload_n 1, 1, .null, 1, 0),
  (1, .i2l, 2, .null, 0, 0),
  (2, .lconst 0, 3, .long 0, 0, 0),
  (3, .ldc2_w 199, 6, .long (100), 0, 0),
  (6, .invokestatic 53, 9, .ref 3, 98, 0),
  (9, .ifCond .eq 13, 12, .null, 22, 0),
  (12, .iload_n 2, 13, .null, 2, 0),
  (13, .i2l, 14, .null, 0, 0),
  (14, .lconst 0, 15, .long 0, 0, 0),
  (15, .lconst 1, 16, .long 1, 0, 0),
  (16, .invokestatic 53, 19, .ref 3, 98, 0),
  (19, .ifCond .ne 5, 22, .null, 24, 0),
  (22, .iconst (-1), 23, .int (-1), 0, 0),
  (23, .ireturn, 24, .null, 0, 0),
  (24, .aload_n 0, 25, .null, 0, 0),
  (25, .iconst 0, 26, .int (0), 0, 0),
  (26, .iload_n 1, 27, .null, 1, 0),
  (27, .invokevirtual 212, 30, .ref 3, 139, 5),
  (30, .istore_n 3, 31, .null, 3, 0),
  (31, .bipush (-4), 33, .int (-4), 0, 0),
  (33, .istore 4, 35, .null, 4, 0),
  (35, .iconst 0, 36, .int (0), 0, 0),
  (36, .istore 5, 38, .null, 5, 0),
  (38, .iload 5, 40, .null, 5, 0),
  (40, .aload_n 0, 41, .null, 0, 0),
  (41, .getfield 7, 44, .null, 0, 5),
  (44, .bipush 49, 46, .int (49), 0, 0),
  (46, .iaload, 47, .null, 0, 0),
  (47, .if_icmp .ge 169, 50, .null, 216, 0),
  (50, .iload 5, 52, .null, 5, 0),
  (52, .iconst 1, 53, .int (1), 0, 0),
  (53, .iadd, 54, .null, 0, 0),
  (54, .istore 6, 56, .null, 6, 0),
  (56, .iload 6, 58, .null, 6, 0),
  (58, .aload_n 0, 59, .null, 0, 0),
  (59, .getfield 7, 62, .null, 0, 5),
  (62, .bipush 49, 64, .int (49), 0, 0),
  (64, .iaload, 65, .null, 0, 0),
  (65, .if_icmp .ge 145, 68, .null, 210, 0),
  (68, .aload_n 0, 69, .null, 0, 0),
  (69, .iconst 0, 70, .int (0), 0, 0),
  (70, .sipush 260, 73, .int (260), 0, 0),
  (73, .invokevirtual 205, 76, .ref 3, 138, 5),
  (76, .aload_n 0, 77, .null, 0, 0),
  (77, .getfield 7, 80, .null, 0, 5),
  (80, .sipush 285, 83, .int (285), 0, 0),
  (83, .iload 5, 85, .null, 5, 0),
  (85, .iadd, 86, .null, 0, 0),
  (86, .aload_n 0, 87, .null, 0, 0),
  (87, .getfield 7, 90, .null, 0, 5),
  (90, .bipush 25, 92, .int (25), 0, 0),
  (92, .iload 6, 94, .null, 6, 0),
  (94, .iadd, 95, .null, 0, 0),
  (95, .iaload, 96, .null, 0, 0),
  (96, .iastore, 97, .null, 0, 0),
  (97, .aload_n 0, 98, .null, 0, 0),
  (98, .getfield 7, 101, .null, 0, 5),
  (101, .sipush 285, 104, .int (285), 0, 0),
  (104, .iload 6, 106, .null, 6, 0),
  (106, .iadd, 107, .null, 0, 0),
  (107, .aload_n 0, 108, .null, 0, 0),
  (108, .getfield 7, 111, .null, 0, 5),
  (111, .bipush 25, 113, .int (25), 0, 0),
  (113, .iload 5, 115, .null, 5, 0),
  (115, .iadd, 116, .null, 0, 0),
  (116, .iaload, 117, .null, 0, 0),
  (117, .iastore, 118, .null, 0, 0),
  (118, .aload_n 0, 119, .null, 0, 0),
  (119, .getfield 7, 122, .null, 0, 5),
  (122, .sipush 297, 125, .int (297), 0, 0),
  (125, .iload 5, 127, .null, 5, 0),
  (127, .iadd, 128, .null, 0, 0),
  (128, .aload_n 0, 129, .null, 0, 0),
  (129, .getfield 7, 132, .null, 0, 5),
  (132, .bipush 37, 134, .int (37), 0, 0),
  (134, .iload 6, 136, .null, 6, 0),
  (136, .iadd, 137, .null, 0, 0),
  (137, .iaload, 138, .null, 0, 0),
  (138, .iastore, 139, .null, 0, 0),
  (139, .aload_n 0, 140, .null, 0, 0),
  (140, .getfield 7, 143, .null, 0, 5),
  (143, .sipush 297, 146, .int (297), 0, 0),
  (146, .iload 6, 148, .null, 6, 0),
  (148, .iadd, 149, .null, 0, 0),
  (149, .aload_n 0, 150, .null, 0, 0),
  (150, .getfield 7, 153, .null, 0, 5),
  (153, .bipush 37, 155, .int (37), 0, 0),
  (155, .iload 5, 157, .null, 5, 0),
  (157, .iadd, 158, .null, 0, 0),
  (158, .iaload, 159, .null, 0, 0),
  (159, .iastore, 160, .null, 0, 0),
  (160, .aload_n 0, 161, .null, 0, 0),
  (161, .sipush 260, 164, .int (260), 0, 0),
  (164, .iload_n 1, 165, .null, 1, 0),
  (165, .invokevirtual 212, 168, .ref 3, 139, 5),
  (168, .istore 7, 170, .null, 7, 0),
  (170, .iload 7, 172, .null, 7, 0),
  (172, .iload_n 3, 173, .null, 3, 0),
  (173, .if_icmp .ge 14, 176, .null, 187, 0),
  (176, .bipush 100, 178, .int (100), 0, 0),
  (178, .iload 5, 180, .null, 5, 0),
  (180, .imul, 181, .null, 0, 0),
  (181, .iload 6, 183, .null, 6, 0),
  (183, .iadd, 184, .null, 0, 0),
  (184, .goto 5, 187, .null, 189, 0),
  (187, .iload 4, 189, .null, 4, 0),
  (189, .istore 4, 191, .null, 4, 0),
  (191, .iload 7, 193, .null, 7, 0),
  (193, .iload_n 3, 194, .null, 3, 0),
  (194, .if_icmp .ge 8, 197, .null, 202, 0),
  (197, .iload 7, 199, .null, 7, 0),
  (199, .goto 4, 202, .null, 203, 0),
  (202, .iload_n 3, 203, .null, 3, 0),
  (203, .istore_n 3, 204, .null, 3, 0),
  (204, .iinc 6 1, 207, .int (1), 6, 0),
  (207, .goto (-151), 210, .null, 56, 0),
  (210, .iinc 5 1, 213, .int (1), 5, 0),
  (213, .goto (-175), 216, .null, 38, 0),
  (216, .iload 4, 218, .null, 4, 0),
  (218, .bipush (-4), 220, .int (-4), 0, 0),
  (220, .if_icmp .eq 7, 223, .null, 227, 0),
  (223, .iload_n 2, 224, .null, 2, 0),
  (224, .ifCond .ne 8, 227, .null, 232, 0),
  (227, .iload 4, 229, .null, 4, 0),
  (229, .goto 4, 232, .null, 233, 0),
  (232, .iload_n 3, 233, .null, 3, 0),
  (233, .ireturn, 234, .null, 0, 0)]
def tbX5_miss : pm_Tb := [(0, .iload_n 1, 1, .null, 1, 0),
  (1, .i2l, 2, .null, 0, 0),
  (2, .lconst 0, 3, .long 0, 0, 0),
  (3, .ldc2_w 199, 6, .long (100), 0, 0),
  (6, .invokestatic 53, 9, .ref 3, 98, 0),
  (9, .ifCond .eq 13, 12, .null, 22, 0),
  (12, .iload_n 2, 13, .null, 2, 0),
  (13, .i2l, 14, .null, 0, 0),
  (14, .lconst 0, 15, .long 0, 0, 0),
  (15, .lconst 1, 16, .long 1, 0, 0),
  (16, .invokestatic 53, 19, .ref 3, 98, 0),
  (19, .ifCond .ne 5, 22, .null, 24, 0),
  (22, .iconst (-1), 23, .int (-1), 0, 0),
  (23, .ireturn, 24, .null, 0, 0),
  (24, .aload_n 0, 25, .null, 0, 0),
  (25, .iconst 0, 26, .int (0), 0, 0),
  (26, .iload_n 1, 27, .null, 1, 0),
  (27, .invokevirtual 212, 30, .ref 3, 139, 5),
  (30, .istore_n 3, 31, .null, 3, 0),
  (31, .bipush (-4), 33, .int (-4), 0, 0),
  (33, .istore 4, 35, .null, 4, 0),
  (35, .iconst 0, 36, .int (0), 0, 0),
  (36, .istore 5, 38, .null, 5, 0),
  (38, .iload 5, 40, .null, 5, 0),
  (40, .aload_n 0, 41, .null, 0, 0),
  (41, .getfield 7, 44, .null, 0, 5),
  (44, .bipush 49, 46, .int (49), 0, 0),
  (46, .iaload, 47, .null, 0, 0),
  (47, .if_icmp .ge 57, 50, .null, 104, 0),
  (50, .aload_n 0, 51, .null, 0, 0),
  (51, .iload 5, 53, .null, 5, 0),
  (53, .putfield 28, 56, .null, 19, 5),
  (56, .aload_n 0, 57, .null, 0, 0),
  (57, .iconst 0, 58, .int (0), 0, 0),
  (58, .iload_n 1, 59, .null, 1, 0),
  (59, .invokevirtual 212, 62, .ref 3, 139, 5),
  (62, .istore 6, 64, .null, 6, 0),
  (64, .aload_n 0, 65, .null, 0, 0),
  (65, .bipush (-4), 67, .int (-4), 0, 0),
  (67, .putfield 28, 70, .null, 19, 5),
  (70, .iload 6, 72, .null, 6, 0),
  (72, .iload_n 3, 73, .null, 3, 0),
  (73, .if_icmp .ge 8, 76, .null, 81, 0),
  (76, .iload 5, 78, .null, 5, 0),
  (78, .goto 5, 81, .null, 83, 0),
  (81, .iload 4, 83, .null, 4, 0),
  (83, .istore 4, 85, .null, 4, 0),
  (85, .iload 6, 87, .null, 6, 0),
  (87, .iload_n 3, 88, .null, 3, 0),
  (88, .if_icmp .ge 8, 91, .null, 96, 0),
  (91, .iload 6, 93, .null, 6, 0),
  (93, .goto 4, 96, .null, 97, 0),
  (96, .iload_n 3, 97, .null, 3, 0),
  (97, .istore_n 3, 98, .null, 3, 0),
  (98, .iinc 5 1, 101, .int (1), 5, 0),
  (101, .goto (-63), 104, .null, 38, 0),
  (104, .iload 4, 106, .null, 4, 0),
  (106, .bipush (-4), 108, .int (-4), 0, 0),
  (108, .if_icmp .eq 7, 111, .null, 115, 0),
  (111, .iload_n 2, 112, .null, 2, 0),
  (112, .ifCond .ne 8, 115, .null, 120, 0),
  (115, .iload 4, 117, .null, 4, 0),
  (117, .goto 4, 120, .null, 121, 0),
  (120, .iload_n 3, 121, .null, 3, 0),
  (121, .ireturn, 122, .null, 0, 0)]
def tbX5_lowest : pm_Tb := [(0, .lload_n 0, 1, .null, 0, 0),
  (1, .lstore 5, 3, .null, 5, 0),
  (3, .lload_n 2, 4, .null, 2, 0),
  (4, .lstore 7, 6, .null, 7, 0),
  (6, .lload 7, 8, .null, 7, 0),
  (8, .lconst 0, 9, .long 0, 0, 0),
  (9, .lcmp, 10, .null, 0, 0),
  (10, .ifCond .eq 21, 13, .null, 31, 0),
  (13, .lload 5, 15, .null, 5, 0),
  (15, .lload 7, 17, .null, 7, 0),
  (17, .lrem, 18, .null, 0, 0),
  (18, .lstore 9, 20, .null, 9, 0),
  (20, .lload 7, 22, .null, 7, 0),
  (22, .lstore 5, 24, .null, 5, 0),
  (24, .lload 9, 26, .null, 9, 0),
  (26, .lstore 7, 28, .null, 7, 0),
  (28, .goto (-22), 31, .null, 6, 0),
  (31, .iload 4, 33, .null, 4, 0),
  (33, .ifCond .ne 7, 36, .null, 40, 0),
  (36, .lload_n 0, 37, .null, 0, 0),
  (37, .goto 4, 40, .null, 41, 0),
  (40, .lload_n 2, 41, .null, 2, 0),
  (41, .lload 5, 43, .null, 5, 0),
  (43, .ldiv, 44, .null, 0, 0),
  (44, .lreturn, 45, .null, 0, 0)]
def tbX5_byMisses : pm_Tb := [(0, .lconst 0, 1, .long 0, 0, 0),
  (1, .lstore 5, 3, .null, 5, 0),
  (3, .lconst 1, 4, .long 1, 0, 0),
  (4, .lstore 7, 6, .null, 7, 0),
  (6, .iconst 0, 7, .int (0), 0, 0),
  (7, .istore 9, 9, .null, 9, 0),
  (9, .iload 9, 11, .null, 9, 0),
  (11, .iload_n 3, 12, .null, 3, 0),
  (12, .if_icmp .ge 17, 15, .null, 29, 0),
  (15, .lload 7, 17, .null, 7, 0),
  (17, .ldc2_w 224, 20, .long (10), 0, 0),
  (20, .lmul, 21, .null, 0, 0),
  (21, .lstore 7, 23, .null, 7, 0),
  (23, .iinc 9 1, 26, .int (1), 9, 0),
  (26, .goto (-17), 29, .null, 9, 0),
  (29, .iconst 0, 30, .int (0), 0, 0),
  (30, .istore 9, 32, .null, 9, 0),
  (32, .iload 9, 34, .null, 9, 0),
  (34, .iconst 1, 35, .int (1), 0, 0),
  (35, .iload_n 3, 36, .null, 3, 0),
  (36, .ishl, 37, .null, 0, 0),
  (37, .if_icmp .ge 132, 40, .null, 169, 0),
  (40, .lconst 1, 41, .long 1, 0, 0),
  (41, .lstore 10, 43, .null, 10, 0),
  (43, .aload_n 0, 44, .null, 0, 0),
  (44, .iconst 0, 45, .int (0), 0, 0),
  (45, .sipush 208, 48, .int (208), 0, 0),
  (48, .invokevirtual 205, 51, .ref 3, 138, 5),
  (51, .iconst 0, 52, .int (0), 0, 0),
  (52, .istore 12, 54, .null, 12, 0),
  (54, .iload 12, 56, .null, 12, 0),
  (56, .iload_n 3, 57, .null, 3, 0),
  (57, .if_icmp .ge 56, 60, .null, 113, 0),
  (60, .iload 9, 62, .null, 9, 0),
  (62, .iload 12, 64, .null, 12, 0),
  (64, .ishr, 65, .null, 0, 0),
  (65, .iconst 1, 66, .int (1), 0, 0),
  (66, .iand, 67, .null, 0, 0),
  (67, .iconst 1, 68, .int (1), 0, 0),
  (68, .if_icmp .ne 7, 71, .null, 75, 0),
  (71, .iconst 1, 72, .int (1), 0, 0),
  (72, .goto 4, 75, .null, 76, 0),
  (75, .iconst 0, 76, .int (0), 0, 0),
  (76, .istore 13, 78, .null, 13, 0),
  (78, .lload 10, 80, .null, 10, 0),
  (80, .iload 13, 82, .null, 13, 0),
  (82, .ifCond .eq 8, 85, .null, 90, 0),
  (85, .iload_n 1, 86, .null, 1, 0),
  (86, .i2l, 87, .null, 0, 0),
  (87, .goto 8, 90, .null, 95, 0),
  (90, .bipush 10, 92, .int (10), 0, 0),
  (92, .iload_n 1, 93, .null, 1, 0),
  (93, .isub, 94, .null, 0, 0),
  (94, .i2l, 95, .null, 0, 0),
  (95, .lmul, 96, .null, 0, 0),
  (96, .lstore 10, 98, .null, 10, 0),
  (98, .aload_n 0, 99, .null, 0, 0),
  (99, .sipush 208, 102, .int (208), 0, 0),
  (102, .iload 13, 104, .null, 13, 0),
  (104, .invokevirtual 201, 107, .ref 3, 122, 5),
  (107, .iinc 12 1, 110, .int (1), 12, 0),
  (110, .goto (-56), 113, .null, 54, 0),
  (113, .lload 5, 115, .null, 5, 0),
  (115, .lload 10, 117, .null, 10, 0),
  (117, .iload_n 2, 118, .null, 2, 0),
  (118, .bipush (-4), 120, .int (-4), 0, 0),
  (120, .if_icmp .ne 22, 123, .null, 142, 0),
  (123, .aload_n 0, 124, .null, 0, 0),
  (124, .sipush 208, 127, .int (208), 0, 0),
  (127, .invokevirtual 158, 130, .ref 2, 120, 5),
  (130, .aload_n 0, 131, .null, 0, 0),
  (131, .iconst 0, 132, .int (0), 0, 0),
  (132, .invokevirtual 158, 135, .ref 2, 120, 5),
  (135, .isub, 136, .null, 0, 0),
  (136, .invokestatic 146, 139, .ref 1, 99, 0),
  (139, .goto 19, 142, .null, 158, 0),
  (142, .aload_n 0, 143, .null, 0, 0),
  (143, .sipush 208, 146, .int (208), 0, 0),
  (146, .invokevirtual 158, 149, .ref 2, 120, 5),
  (149, .iload_n 2, 150, .null, 2, 0),
  (150, .if_icmp .lt 7, 153, .null, 157, 0),
  (153, .iconst 1, 154, .int (1), 0, 0),
  (154, .goto 4, 157, .null, 158, 0),
  (157, .iconst 0, 158, .int (0), 0, 0),
  (158, .i2l, 159, .null, 0, 0),
  (159, .lmul, 160, .null, 0, 0),
  (160, .ladd, 161, .null, 0, 0),
  (161, .lstore 5, 163, .null, 5, 0),
  (163, .iinc 9 1, 166, .int (1), 9, 0),
  (166, .goto (-134), 169, .null, 32, 0),
  (169, .lload 5, 171, .null, 5, 0),
  (171, .lload 7, 173, .null, 7, 0),
  (173, .iload 4, 175, .null, 4, 0),
  (175, .invokestatic 226, 178, .ref 3, 152, 0),
  (178, .lreturn, 179, .null, 0, 0)]
def tbX5_luck : pm_Tb := [(0, .iload_n 1, 1, .null, 1, 0),
  (1, .i2l, 2, .null, 0, 0),
  (2, .lconst 0, 3, .long 0, 0, 0),
  (3, .ldc2_w 224, 6, .long (10), 0, 0),
  (6, .invokestatic 53, 9, .ref 3, 98, 0),
  (9, .ifCond .eq 38, 12, .null, 47, 0),
  (12, .iload_n 2, 13, .null, 2, 0),
  (13, .i2l, 14, .null, 0, 0),
  (14, .lconst 0, 15, .long 0, 0, 0),
  (15, .ldc2_w 138, 18, .long (300), 0, 0),
  (18, .invokestatic 53, 21, .ref 3, 98, 0),
  (21, .ifCond .eq 26, 24, .null, 47, 0),
  (24, .iload_n 3, 25, .null, 3, 0),
  (25, .i2l, 26, .null, 0, 0),
  (26, .lconst 0, 27, .long 0, 0, 0),
  (27, .ldc2_w 230, 30, .long (8), 0, 0),
  (30, .invokestatic 53, 33, .ref 3, 98, 0),
  (33, .ifCond .eq 14, 36, .null, 47, 0),
  (36, .iload 4, 38, .null, 4, 0),
  (38, .i2l, 39, .null, 0, 0),
  (39, .lconst 0, 40, .long 0, 0, 0),
  (40, .lconst 1, 41, .long 1, 0, 0),
  (41, .invokestatic 53, 44, .ref 3, 98, 0),
  (44, .ifCond .ne 7, 47, .null, 51, 0),
  (47, .ldc2_w 232, 50, .long (-1), 0, 0),
  (50, .lreturn, 51, .null, 0, 0),
  (51, .aload_n 0, 52, .null, 0, 0),
  (52, .getfield 7, 55, .null, 0, 5),
  (55, .bipush 24, 57, .int (24), 0, 0),
  (57, .iaload, 58, .null, 0, 0),
  (58, .ifCond .ne 9, 61, .null, 67, 0),
  (61, .ldc2_w 234, 64, .long (-2), 0, 0),
  (64, .goto 12, 67, .null, 76, 0),
  (67, .aload_n 0, 68, .null, 0, 0),
  (68, .iload_n 1, 69, .null, 1, 0),
  (69, .iload_n 2, 70, .null, 2, 0),
  (70, .iload_n 3, 71, .null, 3, 0),
  (71, .iload 4, 73, .null, 4, 0),
  (73, .invokevirtual 236, 76, .ref 5, 153, 5),
  (76, .lreturn, 77, .null, 0, 0)]
def tbX5_mean : pm_Tb := [(0, .iload_n 1, 1, .null, 1, 0),
  (1, .i2l, 2, .null, 0, 0),
  (2, .lconst 0, 3, .long 0, 0, 0),
  (3, .ldc2_w 224, 6, .long (10), 0, 0),
  (6, .invokestatic 53, 9, .ref 3, 98, 0),
  (9, .ifCond .eq 25, 12, .null, 34, 0),
  (12, .iload_n 2, 13, .null, 2, 0),
  (13, .i2l, 14, .null, 0, 0),
  (14, .lconst 0, 15, .long 0, 0, 0),
  (15, .ldc2_w 230, 18, .long (8), 0, 0),
  (18, .invokestatic 53, 21, .ref 3, 98, 0),
  (21, .ifCond .eq 13, 24, .null, 34, 0),
  (24, .iload_n 3, 25, .null, 3, 0),
  (25, .i2l, 26, .null, 0, 0),
  (26, .lconst 0, 27, .long 0, 0, 0),
  (27, .lconst 1, 28, .long 1, 0, 0),
  (28, .invokestatic 53, 31, .ref 3, 98, 0),
  (31, .ifCond .ne 7, 34, .null, 38, 0),
  (34, .ldc2_w 232, 37, .long (-1), 0, 0),
  (37, .lreturn, 38, .null, 0, 0),
  (38, .aload_n 0, 39, .null, 0, 0),
  (39, .iload_n 1, 40, .null, 1, 0),
  (40, .bipush (-4), 42, .int (-4), 0, 0),
  (42, .iload_n 2, 43, .null, 2, 0),
  (43, .iload_n 3, 44, .null, 3, 0),
  (44, .invokevirtual 236, 47, .ref 5, 153, 5),
  (47, .lreturn, 48, .null, 0, 0)]
def tbX5_see : pm_Tb := [(0, .iload_n 1, 1, .null, 1, 0),
  (1, .i2l, 2, .null, 0, 0),
  (2, .lconst 0, 3, .long 0, 0, 0),
  (3, .ldc2_w 240, 6, .long (40), 0, 0),
  (6, .invokestatic 53, 9, .ref 3, 98, 0),
  (9, .ifCond .eq 23, 12, .null, 32, 0),
  (12, .aload_n 0, 13, .null, 0, 0),
  (13, .iload_n 2, 14, .null, 2, 0),
  (14, .invokevirtual 171, 17, .ref 2, 111, 5),
  (17, .ifCond .eq 15, 20, .null, 32, 0),
  (20, .iload_n 3, 21, .null, 3, 0),
  (21, .i2l, 22, .null, 0, 0),
  (22, .lconst 0, 23, .long 0, 0, 0),
  (23, .ldc2_w 138, 26, .long (300), 0, 0),
  (26, .invokestatic 53, 29, .ref 3, 98, 0),
  (29, .ifCond .ne 5, 32, .null, 34, 0),
  (32, .iconst (-1), 33, .int (-1), 0, 0),
  (33, .ireturn, 34, .null, 0, 0),
  (34, .aload_n 0, 35, .null, 0, 0),
  (35, .getfield 120, 38, .null, 21, 5),
  (38, .bipush 6, 40, .int (6), 0, 0),
  (40, .if_icmp .ne 6, 43, .null, 46, 0),
  (43, .bipush (-3), 45, .int (-3), 0, 0),
  (45, .ireturn, 46, .null, 0, 0),
  (46, .aload_n 0, 47, .null, 0, 0),
  (47, .getfield 32, 50, .null, 20, 5),
  (50, .iconst 3, 51, .int (3), 0, 0),
  (51, .aload_n 0, 52, .null, 0, 0),
  (52, .getfield 120, 55, .null, 21, 5),
  (55, .imul, 56, .null, 0, 0),
  (56, .iload_n 1, 57, .null, 1, 0),
  (57, .iastore, 58, .null, 0, 0),
  (58, .aload_n 0, 59, .null, 0, 0),
  (59, .getfield 32, 62, .null, 20, 5),
  (62, .iconst 3, 63, .int (3), 0, 0),
  (63, .aload_n 0, 64, .null, 0, 0),
  (64, .getfield 120, 67, .null, 21, 5),
  (67, .imul, 68, .null, 0, 0),
  (68, .iconst 1, 69, .int (1), 0, 0),
  (69, .iadd, 70, .null, 0, 0),
  (70, .iload_n 2, 71, .null, 2, 0),
  (71, .iastore, 72, .null, 0, 0),
  (72, .aload_n 0, 73, .null, 0, 0),
  (73, .getfield 32, 76, .null, 20, 5),
  (76, .iconst 3, 77, .int (3), 0, 0),
  (77, .aload_n 0, 78, .null, 0, 0),
  (78, .getfield 120, 81, .null, 21, 5),
  (81, .imul, 82, .null, 0, 0),
  (82, .iconst 2, 83, .int (2), 0, 0),
  (83, .iadd, 84, .null, 0, 0),
  (84, .iload_n 3, 85, .null, 3, 0),
  (85, .iastore, 86, .null, 0, 0),
  (86, .aload_n 0, 87, .null, 0, 0),
  (87, .dup, 88, .null, 0, 0),
  (88, .getfield 120, 91, .null, 21, 5),
  (91, .iconst 1, 92, .int (1), 0, 0),
  (92, .iadd, 93, .null, 0, 0),
  (93, .putfield 120, 96, .null, 21, 5),
  (96, .aload_n 0, 97, .null, 0, 0),
  (97, .getfield 120, 100, .null, 21, 5),
  (100, .ireturn, 101, .null, 0, 0)]
def tbX5_forget : pm_Tb := [(0, .iload_n 1, 1, .null, 1, 0),
  (1, .i2l, 2, .null, 0, 0),
  (2, .lconst 0, 3, .long 0, 0, 0),
  (3, .aload_n 0, 4, .null, 0, 0),
  (4, .getfield 120, 7, .null, 21, 5),
  (7, .i2l, 8, .null, 0, 0),
  (8, .invokestatic 53, 11, .ref 3, 98, 0),
  (11, .ifCond .ne 5, 14, .null, 16, 0),
  (14, .iconst (-1), 15, .int (-1), 0, 0),
  (15, .ireturn, 16, .null, 0, 0),
  (16, .aload_n 0, 17, .null, 0, 0),
  (17, .getfield 120, 20, .null, 21, 5),
  (20, .istore_n 2, 21, .null, 2, 0),
  (21, .aload_n 0, 22, .null, 0, 0),
  (22, .iload_n 1, 23, .null, 1, 0),
  (23, .putfield 120, 26, .null, 21, 5),
  (26, .iload_n 2, 27, .null, 2, 0),
  (27, .ireturn, 28, .null, 0, 0)]
def tbX5_isAsSeen : pm_Tb := [(0, .aload_n 0, 1, .null, 0, 0),
  (1, .sipush 260, 4, .int (260), 0, 0),
  (4, .sipush 208, 7, .int (208), 0, 0),
  (7, .invokevirtual 205, 10, .ref 3, 138, 5),
  (10, .iconst 1, 11, .int (1), 0, 0),
  (11, .istore_n 3, 12, .null, 3, 0),
  (12, .iconst 0, 13, .int (0), 0, 0),
  (13, .istore 4, 15, .null, 4, 0),
  (15, .iload 4, 17, .null, 4, 0),
  (17, .bipush 40, 19, .int (40), 0, 0),
  (19, .if_icmp .gt 143, 22, .null, 162, 0),
  (22, .aload_n 0, 23, .null, 0, 0),
  (23, .getfield 35, 26, .null, 22, 5),
  (26, .bipush 41, 28, .int (41), 0, 0),
  (28, .iload_n 1, 29, .null, 1, 0),
  (29, .imul, 30, .null, 0, 0),
  (30, .iload 4, 32, .null, 4, 0),
  (32, .iadd, 33, .null, 0, 0),
  (33, .aload_n 0, 34, .null, 0, 0),
  (34, .getfield 7, 37, .null, 0, 5),
  (37, .sipush 224, 40, .int (224), 0, 0),
  (40, .iload_n 2, 41, .null, 2, 0),
  (41, .iadd, 42, .null, 0, 0),
  (42, .iaload, 43, .null, 0, 0),
  (43, .iastore, 44, .null, 0, 0),
  (44, .iconst 0, 45, .int (0), 0, 0),
  (45, .istore 5, 47, .null, 5, 0),
  (47, .iload 5, 49, .null, 5, 0),
  (49, .aload_n 0, 50, .null, 0, 0),
  (50, .getfield 120, 53, .null, 21, 5),
  (53, .if_icmp .ge 95, 56, .null, 148, 0),
  (56, .aload_n 0, 57, .null, 0, 0),
  (57, .getfield 32, 60, .null, 20, 5),
  (60, .iconst 3, 61, .int (3), 0, 0),
  (61, .iload 5, 63, .null, 5, 0),
  (63, .imul, 64, .null, 0, 0),
  (64, .iconst 1, 65, .int (1), 0, 0),
  (65, .iadd, 66, .null, 0, 0),
  (66, .iaload, 67, .null, 0, 0),
  (67, .istore 6, 69, .null, 6, 0),
  (69, .iload 6, 71, .null, 6, 0),
  (71, .aload_n 0, 72, .null, 0, 0),
  (72, .getfield 7, 75, .null, 0, 5),
  (75, .bipush 24, 77, .int (24), 0, 0),
  (77, .iaload, 78, .null, 0, 0),
  (78, .if_icmp .ge 32, 81, .null, 110, 0),
  (81, .aload_n 0, 82, .null, 0, 0),
  (82, .getfield 7, 85, .null, 0, 5),
  (85, .sipush 224, 88, .int (224), 0, 0),
  (88, .iload 6, 90, .null, 6, 0),
  (90, .iadd, 91, .null, 0, 0),
  (91, .iaload, 92, .null, 0, 0),
  (92, .aload_n 0, 93, .null, 0, 0),
  (93, .getfield 32, 96, .null, 20, 5),
  (96, .iconst 3, 97, .int (3), 0, 0),
  (97, .iload 5, 99, .null, 5, 0),
  (99, .imul, 100, .null, 0, 0),
  (100, .iconst 2, 101, .int (2), 0, 0),
  (101, .iadd, 102, .null, 0, 0),
  (102, .iaload, 103, .null, 0, 0),
  (103, .if_icmp .ne 7, 106, .null, 110, 0),
  (106, .iconst 1, 107, .int (1), 0, 0),
  (107, .goto 4, 110, .null, 111, 0),
  (110, .iconst 0, 111, .int (0), 0, 0),
  (111, .istore 7, 113, .null, 7, 0),
  (113, .iload_n 3, 114, .null, 3, 0),
  (114, .ifCond .eq 26, 117, .null, 140, 0),
  (117, .aload_n 0, 118, .null, 0, 0),
  (118, .getfield 32, 121, .null, 20, 5),
  (121, .iconst 3, 122, .int (3), 0, 0),
  (122, .iload 5, 124, .null, 5, 0),
  (124, .imul, 125, .null, 0, 0),
  (125, .iaload, 126, .null, 0, 0),
  (126, .iload 4, 128, .null, 4, 0),
  (128, .if_icmp .ne 8, 131, .null, 136, 0),
  (131, .iload 7, 133, .null, 7, 0),
  (133, .ifCond .eq 7, 136, .null, 140, 0),
  (136, .iconst 1, 137, .int (1), 0, 0),
  (137, .goto 4, 140, .null, 141, 0),
  (140, .iconst 0, 141, .int (0), 0, 0),
  (141, .istore_n 3, 142, .null, 3, 0),
  (142, .iinc 5 1, 145, .int (1), 5, 0),
  (145, .goto (-98), 148, .null, 47, 0),
  (148, .aload_n 0, 149, .null, 0, 0),
  (149, .sipush 208, 152, .int (208), 0, 0),
  (152, .iconst 0, 153, .int (0), 0, 0),
  (153, .invokevirtual 201, 156, .ref 3, 122, 5),
  (156, .iinc 4 1, 159, .int (1), 4, 0),
  (159, .goto (-144), 162, .null, 15, 0),
  (162, .iload_n 3, 163, .null, 3, 0),
  (163, .ireturn, 164, .null, 0, 0)]
def tbX5_numbersAt : pm_Tb := [(0, .iconst 0, 1, .int (0), 0, 0),
  (1, .istore 4, 3, .null, 4, 0),
  (3, .aload_n 0, 4, .null, 0, 0),
  (4, .iconst 0, 5, .int (0), 0, 0),
  (5, .sipush 260, 8, .int (260), 0, 0),
  (8, .invokevirtual 205, 11, .ref 3, 138, 5),
  (11, .iconst 0, 12, .int (0), 0, 0),
  (12, .istore 5, 14, .null, 5, 0),
  (14, .iload 5, 16, .null, 5, 0),
  (16, .iload_n 3, 17, .null, 3, 0),
  (17, .if_icmp .ge 44, 20, .null, 61, 0),
  (20, .aload_n 0, 21, .null, 0, 0),
  (21, .getfield 7, 24, .null, 0, 5),
  (24, .sipush 260, 27, .int (260), 0, 0),
  (27, .iload_n 1, 28, .null, 1, 0),
  (28, .iadd, 29, .null, 0, 0),
  (29, .iload 5, 31, .null, 5, 0),
  (31, .iastore, 32, .null, 0, 0),
  (32, .iload 4, 34, .null, 4, 0),
  (34, .aload_n 0, 35, .null, 0, 0),
  (35, .iload 5, 37, .null, 5, 0),
  (37, .iload_n 2, 38, .null, 2, 0),
  (38, .invokevirtual 242, 41, .ref 3, 158, 5),
  (41, .ifCond .eq 10, 44, .null, 51, 0),
  (44, .iconst 1, 45, .int (1), 0, 0),
  (45, .iload 5, 47, .null, 5, 0),
  (47, .ishl, 48, .null, 0, 0),
  (48, .goto 4, 51, .null, 52, 0),
  (51, .iconst 0, 52, .int (0), 0, 0),
  (52, .ior, 53, .null, 0, 0),
  (53, .istore 4, 55, .null, 4, 0),
  (55, .iinc 5 1, 58, .int (1), 5, 0),
  (58, .goto (-44), 61, .null, 14, 0),
  (61, .iload 4, 63, .null, 4, 0),
  (63, .ireturn, 64, .null, 0, 0)]
def tbX5_kinds : pm_Tb := [(0, .aload_n 0, 1, .null, 0, 0),
  (1, .iload_n 1, 2, .null, 1, 0),
  (2, .invokevirtual 171, 5, .ref 2, 111, 5),
  (5, .ifCond .eq 13, 8, .null, 18, 0),
  (8, .aload_n 0, 9, .null, 0, 0),
  (9, .iload_n 1, 10, .null, 1, 0),
  (10, .iload_n 1, 11, .null, 1, 0),
  (11, .iconst 4, 12, .int (4), 0, 0),
  (12, .invokevirtual 245, 15, .ref 4, 159, 5),
  (15, .goto 4, 18, .null, 19, 0),
  (18, .iconst (-1), 19, .int (-1), 0, 0),
  (19, .ireturn, 20, .null, 0, 0)]
def tbX5_stiffs : pm_Tb := [(0, .aload_n 0, 1, .null, 0, 0),
  (1, .iload_n 1, 2, .null, 1, 0),
  (2, .invokevirtual 171, 5, .ref 2, 111, 5),
  (5, .ifCond .eq 17, 8, .null, 22, 0),
  (8, .aload_n 0, 9, .null, 0, 0),
  (9, .bipush 8, 11, .int (8), 0, 0),
  (11, .iload_n 1, 12, .null, 1, 0),
  (12, .iadd, 13, .null, 0, 0),
  (13, .iload_n 1, 14, .null, 1, 0),
  (14, .bipush 10, 16, .int (10), 0, 0),
  (16, .invokevirtual 245, 19, .ref 4, 159, 5),
  (19, .goto 4, 22, .null, 23, 0),
  (22, .iconst (-1), 23, .int (-1), 0, 0),
  (23, .ireturn, 24, .null, 0, 0)]
def tbX5_worstAt : pm_Tb := [(0, .iconst 0, 1, .int (0), 0, 0),
  (1, .istore_n 3, 2, .null, 3, 0),
  (2, .iconst 0, 3, .int (0), 0, 0),
  (3, .istore 4, 5, .null, 4, 0),
  (5, .iload 4, 7, .null, 4, 0),
  (7, .bipush 9, 9, .int (9), 0, 0),
  (9, .if_icmp .gt 98, 12, .null, 107, 0),
  (12, .iconst 0, 13, .int (0), 0, 0),
  (13, .istore 5, 15, .null, 5, 0),
  (15, .iconst 0, 16, .int (0), 0, 0),
  (16, .istore 6, 18, .null, 6, 0),
  (18, .iload 6, 20, .null, 6, 0),
  (20, .bipush 9, 22, .int (9), 0, 0),
  (22, .if_icmp .gt 66, 25, .null, 88, 0),
  (25, .iload_n 1, 26, .null, 1, 0),
  (26, .iload 4, 28, .null, 4, 0),
  (28, .ishr, 29, .null, 0, 0),
  (29, .iconst 1, 30, .int (1), 0, 0),
  (30, .iand, 31, .null, 0, 0),
  (31, .iconst 1, 32, .int (1), 0, 0),
  (32, .if_icmp .ne 56, 35, .null, 88, 0),
  (35, .iload 5, 37, .null, 5, 0),
  (37, .iload_n 1, 38, .null, 1, 0),
  (38, .iload 6, 40, .null, 6, 0),
  (40, .ishr, 41, .null, 0, 0),
  (41, .iconst 1, 42, .int (1), 0, 0),
  (42, .iand, 43, .null, 0, 0),
  (43, .iconst 1, 44, .int (1), 0, 0),
  (44, .if_icmp .ne 34, 47, .null, 78, 0),
  (47, .aload_n 0, 48, .null, 0, 0),
  (48, .getfield 35, 51, .null, 22, 5),
  (51, .bipush 41, 53, .int (41), 0, 0),
  (53, .iload 4, 55, .null, 4, 0),
  (55, .imul, 56, .null, 0, 0),
  (56, .iload_n 2, 57, .null, 2, 0),
  (57, .iadd, 58, .null, 0, 0),
  (58, .iaload, 59, .null, 0, 0),
  (59, .aload_n 0, 60, .null, 0, 0),
  (60, .getfield 35, 63, .null, 22, 5),
  (63, .bipush 41, 65, .int (41), 0, 0),
  (65, .iload 6, 67, .null, 6, 0),
  (67, .imul, 68, .null, 0, 0),
  (68, .iload_n 2, 69, .null, 2, 0),
  (69, .iadd, 70, .null, 0, 0),
  (70, .iaload, 71, .null, 0, 0),
  (71, .if_icmp .ne 7, 74, .null, 78, 0),
  (74, .iconst 1, 75, .int (1), 0, 0),
  (75, .goto 4, 78, .null, 79, 0),
  (78, .iconst 0, 79, .int (0), 0, 0),
  (79, .iadd, 80, .null, 0, 0),
  (80, .istore 5, 82, .null, 5, 0),
  (82, .iinc 6 1, 85, .int (1), 6, 0),
  (85, .goto (-67), 88, .null, 18, 0),
  (88, .iload 5, 90, .null, 5, 0),
  (90, .iload_n 3, 91, .null, 3, 0),
  (91, .if_icmp .le 8, 94, .null, 99, 0),
  (94, .iload 5, 96, .null, 5, 0),
  (96, .goto 4, 99, .null, 100, 0),
  (99, .iload_n 3, 100, .null, 3, 0),
  (100, .istore_n 3, 101, .null, 3, 0),
  (101, .iinc 4 1, 104, .int (1), 4, 0),
  (104, .goto (-99), 107, .null, 5, 0),
  (107, .iload_n 3, 108, .null, 3, 0),
  (108, .ireturn, 109, .null, 0, 0)]
def tbX5_ask : pm_Tb := [(0, .aload_n 0, 1, .null, 0, 0),
  (1, .iload_n 1, 2, .null, 1, 0),
  (2, .invokevirtual 171, 5, .ref 2, 111, 5),
  (5, .ifCond .eq 13, 8, .null, 18, 0),
  (8, .iload_n 2, 9, .null, 2, 0),
  (9, .i2l, 10, .null, 0, 0),
  (10, .lconst 0, 11, .long 0, 0, 0),
  (11, .lconst 1, 12, .long 1, 0, 0),
  (12, .invokestatic 53, 15, .ref 3, 98, 0),
  (15, .ifCond .ne 5, 18, .null, 20, 0),
  (18, .iconst (-1), 19, .int (-1), 0, 0),
  (19, .ireturn, 20, .null, 0, 0),
  (20, .aload_n 0, 21, .null, 0, 0),
  (21, .bipush 8, 23, .int (8), 0, 0),
  (23, .iload_n 1, 24, .null, 1, 0),
  (24, .iadd, 25, .null, 0, 0),
  (25, .iload_n 1, 26, .null, 1, 0),
  (26, .bipush 10, 28, .int (10), 0, 0),
  (28, .invokevirtual 245, 31, .ref 4, 159, 5),
  (31, .istore_n 3, 32, .null, 3, 0),
  (32, .iconst 0, 33, .int (0), 0, 0),
  (33, .istore 4, 35, .null, 4, 0),
  (35, .iconst 0, 36, .int (0), 0, 0),
  (36, .istore 5, 38, .null, 5, 0),
  (38, .iload 5, 40, .null, 5, 0),
  (40, .bipush 9, 42, .int (9), 0, 0),
  (42, .if_icmp .gt 20, 45, .null, 62, 0),
  (45, .iload 4, 47, .null, 4, 0),
  (47, .iload_n 3, 48, .null, 3, 0),
  (48, .iload 5, 50, .null, 5, 0),
  (50, .ishr, 51, .null, 0, 0),
  (51, .iconst 1, 52, .int (1), 0, 0),
  (52, .iand, 53, .null, 0, 0),
  (53, .iadd, 54, .null, 0, 0),
  (54, .istore 4, 56, .null, 4, 0),
  (56, .iinc 5 1, 59, .int (1), 5, 0),
  (59, .goto (-21), 62, .null, 38, 0),
  (62, .bipush (-4), 64, .int (-4), 0, 0),
  (64, .istore 5, 66, .null, 5, 0),
  (66, .iconst 0, 67, .int (0), 0, 0),
  (67, .istore 6, 69, .null, 6, 0),
  (69, .iload 6, 71, .null, 6, 0),
  (71, .bipush 40, 73, .int (40), 0, 0),
  (73, .if_icmp .gt 50, 76, .null, 123, 0),
  (76, .aload_n 0, 77, .null, 0, 0),
  (77, .iload_n 3, 78, .null, 3, 0),
  (78, .iload 6, 80, .null, 6, 0),
  (80, .invokevirtual 249, 83, .ref 3, 162, 5),
  (83, .istore 7, 85, .null, 7, 0),
  (85, .iload 7, 87, .null, 7, 0),
  (87, .iload 4, 89, .null, 4, 0),
  (89, .if_icmp .ge 8, 92, .null, 97, 0),
  (92, .iload 6, 94, .null, 6, 0),
  (94, .goto 5, 97, .null, 99, 0),
  (97, .iload 5, 99, .null, 5, 0),
  (99, .istore 5, 101, .null, 5, 0),
  (101, .iload 7, 103, .null, 7, 0),
  (103, .iload 4, 105, .null, 4, 0),
  (105, .if_icmp .ge 8, 108, .null, 113, 0),
  (108, .iload 7, 110, .null, 7, 0),
  (110, .goto 5, 113, .null, 115, 0),
  (113, .iload 4, 115, .null, 4, 0),
  (115, .istore 4, 117, .null, 4, 0),
  (117, .iinc 6 1, 120, .int (1), 6, 0),
  (120, .goto (-51), 123, .null, 69, 0),
  (123, .iload 5, 125, .null, 5, 0),
  (125, .bipush (-4), 127, .int (-4), 0, 0),
  (127, .if_icmp .eq 7, 130, .null, 134, 0),
  (130, .iload_n 2, 131, .null, 2, 0),
  (131, .ifCond .ne 8, 134, .null, 139, 0),
  (134, .iload 5, 136, .null, 5, 0),
  (136, .goto 5, 139, .null, 141, 0),
  (139, .iload 4, 141, .null, 4, 0),
  (141, .ireturn, 142, .null, 0, 0)]
def tbX5_drift : pm_Tb := [(0, .iload_n 2, 1, .null, 2, 0),
  (1, .i2l, 2, .null, 0, 0),
  (2, .lconst 1, 3, .long 1, 0, 0),
  (3, .ldc2_w 123, 6, .long (200), 0, 0),
  (6, .invokestatic 53, 9, .ref 3, 98, 0),
  (9, .ifCond .eq 13, 12, .null, 22, 0),
  (12, .iload_n 3, 13, .null, 3, 0),
  (13, .i2l, 14, .null, 0, 0),
  (14, .lconst 0, 15, .long 0, 0, 0),
  (15, .lconst 1, 16, .long 1, 0, 0),
  (16, .invokestatic 53, 19, .ref 3, 98, 0),
  (19, .ifCond .ne 5, 22, .null, 24, 0),
  (22, .iconst (-1), 23, .int (-1), 0, 0),
  (23, .ireturn, 24, .null, 0, 0),
  (24, .aload_n 0, 25, .null, 0, 0),
  (25, .getfield 7, 28, .null, 0, 5),
  (28, .bipush 24, 30, .int (24), 0, 0),
  (30, .iaload, 31, .null, 0, 0),
  (31, .ifCond .ne 6, 34, .null, 37, 0),
  (34, .bipush (-2), 36, .int (-2), 0, 0),
  (36, .ireturn, 37, .null, 0, 0),
  (37, .aload_n 0, 38, .null, 0, 0),
  (38, .iconst 0, 39, .int (0), 0, 0),
  (39, .sipush 208, 42, .int (208), 0, 0),
  (42, .invokevirtual 205, 45, .ref 3, 138, 5),
  (45, .aload_n 0, 46, .null, 0, 0),
  (46, .iconst 0, 47, .int (0), 0, 0),
  (47, .putfield 161, 50, .null, 18, 5),
  (50, .iload_n 1, 51, .null, 1, 0),
  (51, .istore 4, 53, .null, 4, 0),
  (53, .iconst 0, 54, .int (0), 0, 0),
  (54, .istore 5, 56, .null, 5, 0),
  (56, .iload 5, 58, .null, 5, 0),
  (58, .iload_n 2, 59, .null, 2, 0),
  (59, .if_icmp .ge 66, 62, .null, 125, 0),
  (62, .iload 4, 64, .null, 4, 0),
  (64, .ldc 252, 66, .int (1103515245), 0, 0),
  (66, .imul, 67, .null, 0, 0),
  (67, .sipush 12345, 70, .int (12345), 0, 0),
  (70, .iadd, 71, .null, 0, 0),
  (71, .istore 4, 73, .null, 4, 0),
  (73, .iload 4, 75, .null, 4, 0),
  (75, .bipush 16, 77, .int (16), 0, 0),
  (77, .ishr, 78, .null, 0, 0),
  (78, .sipush 32767, 81, .int (32767), 0, 0),
  (81, .iand, 82, .null, 0, 0),
  (82, .istore 6, 84, .null, 6, 0),
  (84, .aload_n 0, 85, .null, 0, 0),
  (85, .sipush 208, 88, .int (208), 0, 0),
  (88, .iload 6, 90, .null, 6, 0),
  (90, .aload_n 0, 91, .null, 0, 0),
  (91, .getfield 7, 94, .null, 0, 5),
  (94, .bipush 24, 96, .int (24), 0, 0),
  (96, .iaload, 97, .null, 0, 0),
  (97, .irem, 98, .null, 0, 0),
  (98, .iload 6, 100, .null, 6, 0),
  (100, .bipush 8, 102, .int (8), 0, 0),
  (102, .idiv, 103, .null, 0, 0),
  (103, .bipush 19, 105, .int (19), 0, 0),
  (105, .irem, 106, .null, 0, 0),
  (106, .bipush 9, 108, .int (9), 0, 0),
  (108, .isub, 109, .null, 0, 0),
  (109, .invokevirtual 164, 112, .ref 4, 117, 5),
  (112, .aload_n 0, 113, .null, 0, 0),
  (113, .sipush 208, 116, .int (208), 0, 0),
  (116, .invokevirtual 168, 119, .ref 2, 121, 5),
  (119, .iinc 5 1, 122, .int (1), 5, 0),
  (122, .goto (-66), 125, .null, 56, 0),
  (125, .iload_n 3, 126, .null, 3, 0),
  (126, .ifCond .ne 10, 129, .null, 136, 0),
  (129, .aload_n 0, 130, .null, 0, 0),
  (130, .getfield 161, 133, .null, 18, 5),
  (133, .goto 10, 136, .null, 143, 0),
  (136, .aload_n 0, 137, .null, 0, 0),
  (137, .sipush 208, 140, .int (208), 0, 0),
  (140, .invokevirtual 158, 143, .ref 2, 120, 5),
  (143, .ireturn, 144, .null, 0, 0)]
def tbX5_keep : pm_Tb := [(0, .iload_n 1, 1, .null, 1, 0),
  (1, .i2l, 2, .null, 0, 0),
  (2, .lconst 0, 3, .long 0, 0, 0),
  (3, .lconst 1, 4, .long 1, 0, 0),
  (4, .invokestatic 53, 7, .ref 3, 98, 0),
  (7, .ifCond .ne 5, 10, .null, 12, 0),
  (10, .iconst (-1), 11, .int (-1), 0, 0),
  (11, .ireturn, 12, .null, 0, 0),
  (12, .aload_n 0, 13, .null, 0, 0),
  (13, .iconst 0, 14, .int (0), 0, 0),
  (14, .bipush 52, 16, .int (52), 0, 0),
  (16, .iload_n 1, 17, .null, 1, 0),
  (17, .iconst 1, 18, .int (1), 0, 0),
  (18, .iadd, 19, .null, 0, 0),
  (19, .imul, 20, .null, 0, 0),
  (20, .invokevirtual 205, 23, .ref 3, 138, 5),
  (23, .aload_n 0, 24, .null, 0, 0),
  (24, .getfield 38, 27, .null, 23, 5),
  (27, .iload_n 1, 28, .null, 1, 0),
  (28, .baload, 29, .null, 0, 0),
  (29, .ifCond .eq 7, 32, .null, 36, 0),
  (32, .iconst 1, 33, .int (1), 0, 0),
  (33, .goto 4, 36, .null, 37, 0),
  (36, .iconst 0, 37, .int (0), 0, 0),
  (37, .istore_n 2, 38, .null, 2, 0),
  (38, .aload_n 0, 39, .null, 0, 0),
  (39, .getfield 38, 42, .null, 23, 5),
  (42, .iload_n 1, 43, .null, 1, 0),
  (43, .iconst 1, 44, .int (1), 0, 0),
  (44, .bastore, 45, .null, 0, 0),
  (45, .iload_n 2, 46, .null, 2, 0),
  (46, .ireturn, 47, .null, 0, 0)]
def tbX5_back : pm_Tb := [(0, .iload_n 1, 1, .null, 1, 0),
  (1, .i2l, 2, .null, 0, 0),
  (2, .lconst 0, 3, .long 0, 0, 0),
  (3, .lconst 1, 4, .long 1, 0, 0),
  (4, .invokestatic 53, 7, .ref 3, 98, 0),
  (7, .ifCond .ne 5, 10, .null, 12, 0),
  (10, .iconst (-1), 11, .int (-1), 0, 0),
  (11, .ireturn, 12, .null, 0, 0),
  (12, .aload_n 0, 13, .null, 0, 0),
  (13, .getfield 38, 16, .null, 23, 5),
  (16, .iload_n 1, 17, .null, 1, 0),
  (17, .baload, 18, .null, 0, 0),
  (18, .ifCond .ne 6, 21, .null, 24, 0),
  (21, .bipush (-2), 23, .int (-2), 0, 0),
  (23, .ireturn, 24, .null, 0, 0),
  (24, .aload_n 0, 25, .null, 0, 0),
  (25, .bipush 52, 27, .int (52), 0, 0),
  (27, .iload_n 1, 28, .null, 1, 0),
  (28, .iconst 1, 29, .int (1), 0, 0),
  (29, .iadd, 30, .null, 0, 0),
  (30, .imul, 31, .null, 0, 0),
  (31, .iconst 0, 32, .int (0), 0, 0),
  (32, .invokevirtual 205, 35, .ref 3, 138, 5),
  (35, .aload_n 0, 36, .null, 0, 0),
  (36, .getfield 7, 39, .null, 0, 5),
  (39, .bipush 51, 41, .int (51), 0, 0),
  (41, .iaload, 42, .null, 0, 0),
  (42, .ireturn, 43, .null, 0, 0)]
def tbX5_sheet : pm_Tb := [(0, .iload_n 1, 1, .null, 1, 0),
  (1, .i2l, 2, .null, 0, 0),
  (2, .lconst 0, 3, .long 0, 0, 0),
  (3, .ldc2_w 180, 6, .long (3), 0, 0),
  (6, .invokestatic 53, 9, .ref 3, 98, 0),
  (9, .ifCond .eq 21, 12, .null, 30, 0),
  (12, .iload_n 2, 13, .null, 2, 0),
  (13, .i2l, 14, .null, 0, 0),
  (14, .lconst 0, 15, .long 0, 0, 0),
  (15, .ldc2_w 253, 18, .long (2), 0, 0),
  (18, .invokestatic 53, 21, .ref 3, 98, 0),
  (21, .ifCond .eq 9, 24, .null, 30, 0),
  (24, .iload_n 3, 25, .null, 3, 0),
  (25, .bipush 40, 27, .int (40), 0, 0),
  (27, .if_icmp .le 5, 30, .null, 32, 0),
  (30, .iconst (-1), 31, .int (-1), 0, 0),
  (31, .ireturn, 32, .null, 0, 0),
  (32, .iload_n 3, 33, .null, 3, 0),
  (33, .ifCond .ge 6, 36, .null, 39, 0),
  (36, .bipush (-14), 38, .int (-14), 0, 0),
  (38, .ireturn, 39, .null, 0, 0),
  (39, .aload_n 0, 40, .null, 0, 0),
  (40, .getfield 42, 43, .null, 24, 5),
  (43, .iload_n 1, 44, .null, 1, 0),
  (44, .iload_n 2, 45, .null, 2, 0),
  (45, .iastore, 46, .null, 0, 0),
  (46, .aload_n 0, 47, .null, 0, 0),
  (47, .getfield 45, 50, .null, 25, 5),
  (50, .iload_n 1, 51, .null, 1, 0),
  (51, .iload_n 3, 52, .null, 3, 0),
  (52, .iastore, 53, .null, 0, 0),
  (53, .iconst 0, 54, .int (0), 0, 0),
  (54, .istore 4, 56, .null, 4, 0),
  (56, .iload 4, 58, .null, 4, 0),
  (58, .bipush 40, 60, .int (40), 0, 0),
  (60, .if_icmp .ge 22, 63, .null, 82, 0),
  (63, .aload_n 0, 64, .null, 0, 0),
  (64, .getfield 48, 67, .null, 26, 5),
  (67, .bipush 40, 69, .int (40), 0, 0),
  (69, .iload_n 1, 70, .null, 1, 0),
  (70, .imul, 71, .null, 0, 0),
  (71, .iload 4, 73, .null, 4, 0),
  (73, .iadd, 74, .null, 0, 0),
  (74, .iconst 0, 75, .int (0), 0, 0),
  (75, .iastore, 76, .null, 0, 0),
  (76, .iinc 4 1, 79, .int (1), 4, 0),
  (79, .goto (-23), 82, .null, 56, 0),
  (82, .iconst 1, 83, .int (1), 0, 0),
  (83, .ireturn, 84, .null, 0, 0)]
def tbX5_lay : pm_Tb := [(0, .iload_n 1, 1, .null, 1, 0),
  (1, .i2l, 2, .null, 0, 0),
  (2, .lconst 0, 3, .long 0, 0, 0),
  (3, .ldc2_w 180, 6, .long (3), 0, 0),
  (6, .invokestatic 53, 9, .ref 3, 98, 0),
  (9, .ifCond .ne 5, 12, .null, 14, 0),
  (12, .iconst (-1), 13, .int (-1), 0, 0),
  (13, .ireturn, 14, .null, 0, 0),
  (14, .aload_n 0, 15, .null, 0, 0),
  (15, .getfield 42, 18, .null, 24, 5),
  (18, .iload_n 1, 19, .null, 1, 0),
  (19, .iaload, 20, .null, 0, 0),
  (20, .bipush (-4), 22, .int (-4), 0, 0),
  (22, .if_icmp .ne 6, 25, .null, 28, 0),
  (25, .bipush (-11), 27, .int (-11), 0, 0),
  (27, .ireturn, 28, .null, 0, 0),
  (28, .iload_n 2, 29, .null, 2, 0),
  (29, .i2l, 30, .null, 0, 0),
  (30, .lconst 0, 31, .long 0, 0, 0),
  (31, .aload_n 0, 32, .null, 0, 0),
  (32, .getfield 45, 35, .null, 25, 5),
  (35, .iload_n 1, 36, .null, 1, 0),
  (36, .iaload, 37, .null, 0, 0),
  (37, .iconst 1, 38, .int (1), 0, 0),
  (38, .isub, 39, .null, 0, 0),
  (39, .i2l, 40, .null, 0, 0),
  (40, .invokestatic 53, 43, .ref 3, 98, 0),
  (43, .ifCond .ne 6, 46, .null, 49, 0),
  (46, .bipush (-12), 48, .int (-12), 0, 0),
  (48, .ireturn, 49, .null, 0, 0),
  (49, .aload_n 0, 50, .null, 0, 0),
  (50, .getfield 48, 53, .null, 26, 5),
  (53, .bipush 40, 55, .int (40), 0, 0),
  (55, .iload_n 1, 56, .null, 1, 0),
  (56, .imul, 57, .null, 0, 0),
  (57, .iload_n 2, 58, .null, 2, 0),
  (58, .iadd, 59, .null, 0, 0),
  (59, .aload_n 0, 60, .null, 0, 0),
  (60, .getfield 42, 63, .null, 24, 5),
  (63, .iload_n 1, 64, .null, 1, 0),
  (64, .iaload, 65, .null, 0, 0),
  (65, .ifCond .ne 13, 68, .null, 78, 0),
  (68, .iload_n 3, 69, .null, 3, 0),
  (69, .bipush 24, 71, .int (24), 0, 0),
  (71, .ishl, 72, .null, 0, 0),
  (72, .bipush 24, 74, .int (24), 0, 0),
  (74, .ishr, 75, .null, 0, 0),
  (75, .goto 24, 78, .null, 99, 0),
  (78, .aload_n 0, 79, .null, 0, 0),
  (79, .getfield 42, 82, .null, 24, 5),
  (82, .iload_n 1, 83, .null, 1, 0),
  (83, .iaload, 84, .null, 0, 0),
  (84, .iconst 1, 85, .int (1), 0, 0),
  (85, .if_icmp .ne 13, 88, .null, 98, 0),
  (88, .iload_n 3, 89, .null, 3, 0),
  (89, .bipush 16, 91, .int (16), 0, 0),
  (91, .ishl, 92, .null, 0, 0),
  (92, .bipush 16, 94, .int (16), 0, 0),
  (94, .ishr, 95, .null, 0, 0),
  (95, .goto 4, 98, .null, 99, 0),
  (98, .iload_n 3, 99, .null, 3, 0),
  (99, .iastore, 100, .null, 0, 0),
  (100, .iconst 1, 101, .int (1), 0, 0),
  (101, .ireturn, 102, .null, 0, 0)]
def tbX5_read : pm_Tb := [(0, .iload_n 1, 1, .null, 1, 0),
  (1, .i2l, 2, .null, 0, 0),
  (2, .lconst 0, 3, .long 0, 0, 0),
  (3, .ldc2_w 180, 6, .long (3), 0, 0),
  (6, .invokestatic 53, 9, .ref 3, 98, 0),
  (9, .ifCond .eq 28, 12, .null, 37, 0),
  (12, .iload_n 2, 13, .null, 2, 0),
  (13, .i2l, 14, .null, 0, 0),
  (14, .lconst 0, 15, .long 0, 0, 0),
  (15, .ldc2_w 253, 18, .long (2), 0, 0),
  (18, .invokestatic 53, 21, .ref 3, 98, 0),
  (21, .ifCond .eq 16, 24, .null, 37, 0),
  (24, .iload 4, 26, .null, 4, 0),
  (26, .i2l, 27, .null, 0, 0),
  (27, .lconst 0, 28, .long 0, 0, 0),
  (28, .ldc2_w 255, 31, .long (20), 0, 0),
  (31, .invokestatic 53, 34, .ref 3, 98, 0),
  (34, .ifCond .ne 5, 37, .null, 39, 0),
  (37, .iconst (-1), 38, .int (-1), 0, 0),
  (38, .ireturn, 39, .null, 0, 0),
  (39, .aload_n 0, 40, .null, 0, 0),
  (40, .iconst 0, 41, .int (0), 0, 0),
  (41, .sipush 156, 44, .int (156), 0, 0),
  (44, .invokevirtual 205, 47, .ref 3, 138, 5),
  (47, .iconst 0, 48, .int (0), 0, 0),
  (48, .istore 5, 50, .null, 5, 0),
  (50, .iconst 0, 51, .int (0), 0, 0),
  (51, .istore 6, 53, .null, 6, 0),
  (53, .iconst 0, 54, .int (0), 0, 0),
  (54, .istore 7, 56, .null, 7, 0),
  (56, .iload 7, 58, .null, 7, 0),
  (58, .iconst 2, 59, .int (2), 0, 0),
  (59, .iload 4, 61, .null, 4, 0),
  (61, .imul, 62, .null, 0, 0),
  (62, .if_icmp .ge 136, 65, .null, 198, 0),
  (65, .iload 5, 67, .null, 5, 0),
  (67, .ifCond .ne 131, 70, .null, 198, 0),
  (70, .aload_n 0, 71, .null, 0, 0),
  (71, .getfield 42, 74, .null, 24, 5),
  (74, .iload_n 1, 75, .null, 1, 0),
  (75, .iaload, 76, .null, 0, 0),
  (76, .bipush (-4), 78, .int (-4), 0, 0),
  (78, .if_icmp .ne 7, 81, .null, 85, 0),
  (81, .iconst 1, 82, .int (1), 0, 0),
  (82, .goto 44, 85, .null, 126, 0),
  (85, .aload_n 0, 86, .null, 0, 0),
  (86, .getfield 42, 89, .null, 24, 5),
  (89, .iload_n 1, 90, .null, 1, 0),
  (90, .iaload, 91, .null, 0, 0),
  (91, .iload_n 2, 92, .null, 2, 0),
  (92, .if_icmp .eq 7, 95, .null, 99, 0),
  (95, .iconst 3, 96, .int (3), 0, 0),
  (96, .goto 30, 99, .null, 126, 0),
  (99, .iload_n 3, 100, .null, 3, 0),
  (100, .i2l, 101, .null, 0, 0),
  (101, .iload 7, 103, .null, 7, 0),
  (103, .i2l, 104, .null, 0, 0),
  (104, .ladd, 105, .null, 0, 0),
  (105, .lconst 0, 106, .long 0, 0, 0),
  (106, .aload_n 0, 107, .null, 0, 0),
  (107, .getfield 45, 110, .null, 25, 5),
  (110, .iload_n 1, 111, .null, 1, 0),
  (111, .iaload, 112, .null, 0, 0),
  (112, .iconst 1, 113, .int (1), 0, 0),
  (113, .isub, 114, .null, 0, 0),
  (114, .i2l, 115, .null, 0, 0),
  (115, .invokestatic 53, 118, .ref 3, 98, 0),
  (118, .ifCond .ne 7, 121, .null, 125, 0),
  (121, .iconst 2, 122, .int (2), 0, 0),
  (122, .goto 4, 125, .null, 126, 0),
  (125, .iconst 0, 126, .int (0), 0, 0),
  (126, .istore 5, 128, .null, 5, 0),
  (128, .iload 5, 130, .null, 5, 0),
  (130, .ifCond .ne 62, 133, .null, 192, 0),
  (133, .iload 7, 135, .null, 7, 0),
  (135, .iconst 2, 136, .int (2), 0, 0),
  (136, .irem, 137, .null, 0, 0),
  (137, .iconst 1, 138, .int (1), 0, 0),
  (138, .if_icmp .ne 54, 141, .null, 192, 0),
  (141, .bipush 40, 143, .int (40), 0, 0),
  (143, .iload_n 1, 144, .null, 1, 0),
  (144, .imul, 145, .null, 0, 0),
  (145, .iload_n 3, 146, .null, 3, 0),
  (146, .iadd, 147, .null, 0, 0),
  (147, .iload 7, 149, .null, 7, 0),
  (149, .iadd, 150, .null, 0, 0),
  (150, .istore 8, 152, .null, 8, 0),
  (152, .aload_n 0, 153, .null, 0, 0),
  (153, .aload_n 0, 154, .null, 0, 0),
  (154, .getfield 48, 157, .null, 26, 5),
  (157, .iload 8, 159, .null, 8, 0),
  (159, .iconst 1, 160, .int (1), 0, 0),
  (160, .isub, 161, .null, 0, 0),
  (161, .iaload, 162, .null, 0, 0),
  (162, .aload_n 0, 163, .null, 0, 0),
  (163, .getfield 48, 166, .null, 26, 5),
  (166, .iload 8, 168, .null, 8, 0),
  (168, .iaload, 169, .null, 0, 0),
  (169, .invokevirtual 196, 172, .ref 3, 133, 5),
  (172, .ifCond .ge 17, 175, .null, 189, 0),
  (175, .aload_n 0, 176, .null, 0, 0),
  (176, .sipush 156, 179, .int (156), 0, 0),
  (179, .iconst 0, 180, .int (0), 0, 0),
  (180, .invokevirtual 205, 183, .ref 3, 138, 5),
  (183, .bipush (-20), 185, .int (-20), 0, 0),
  (185, .iload 6, 187, .null, 6, 0),
  (187, .isub, 188, .null, 0, 0),
  (188, .ireturn, 189, .null, 0, 0),
  (189, .iinc 6 1, 192, .int (1), 6, 0),
  (192, .iinc 7 1, 195, .int (1), 7, 0),
  (195, .goto (-139), 198, .null, 56, 0),
  (198, .aload_n 0, 199, .null, 0, 0),
  (199, .iload 5, 201, .null, 5, 0),
  (201, .putfield 257, 204, .null, 27, 5),
  (204, .iload 6, 206, .null, 6, 0),
  (206, .ireturn, 207, .null, 0, 0)]
def tbX5_torn : pm_Tb := [(0, .aload_n 0, 1, .null, 0, 0),
  (1, .getfield 257, 4, .null, 27, 5),
  (4, .ireturn, 5, .null, 0, 0)]
def tbX5_count : pm_Tb := [(0, .iconst 0, 1, .int (0), 0, 0),
  (1, .istore_n 2, 2, .null, 2, 0),
  (2, .iconst 0, 3, .int (0), 0, 0),
  (3, .istore_n 3, 4, .null, 3, 0),
  (4, .iconst 0, 5, .int (0), 0, 0),
  (5, .istore 4, 7, .null, 4, 0),
  (7, .iload 4, 9, .null, 4, 0),
  (9, .aload_n 0, 10, .null, 0, 0),
  (10, .getfield 7, 13, .null, 0, 5),
  (13, .bipush 24, 15, .int (24), 0, 0),
  (15, .iaload, 16, .null, 0, 0),
  (16, .if_icmp .ge 35, 19, .null, 51, 0),
  (19, .iload_n 2, 20, .null, 2, 0),
  (20, .aload_n 0, 21, .null, 0, 0),
  (21, .getfield 7, 24, .null, 0, 5),
  (24, .bipush 8, 26, .int (8), 0, 0),
  (26, .iload 4, 28, .null, 4, 0),
  (28, .iadd, 29, .null, 0, 0),
  (29, .iaload, 30, .null, 0, 0),
  (30, .iadd, 31, .null, 0, 0),
  (31, .istore_n 2, 32, .null, 2, 0),
  (32, .iload_n 3, 33, .null, 3, 0),
  (33, .aload_n 0, 34, .null, 0, 0),
  (34, .getfield 7, 37, .null, 0, 5),
  (37, .bipush 12, 39, .int (12), 0, 0),
  (39, .iload 4, 41, .null, 4, 0),
  (41, .iadd, 42, .null, 0, 0),
  (42, .iaload, 43, .null, 0, 0),
  (43, .iadd, 44, .null, 0, 0),
  (44, .istore_n 3, 45, .null, 3, 0),
  (45, .iinc 4 1, 48, .int (1), 4, 0),
  (48, .goto (-41), 51, .null, 7, 0),
  (51, .iload_n 1, 52, .null, 1, 0),
  (52, .tableswitch 107 0 5 #[40, 45, 75, 80, 103, 105], 92, .null, 159, 0),
  (92, .aload_n 0, 93, .null, 0, 0),
  (93, .getfield 120, 96, .null, 21, 5),
  (96, .ireturn, 97, .null, 0, 0),
  (97, .aload_n 0, 98, .null, 0, 0),
  (98, .getfield 38, 101, .null, 23, 5),
  (101, .iconst 0, 102, .int (0), 0, 0),
  (102, .baload, 103, .null, 0, 0),
  (103, .ifCond .eq 7, 106, .null, 110, 0),
  (106, .iconst 1, 107, .int (1), 0, 0),
  (107, .goto 4, 110, .null, 111, 0),
  (110, .iconst 0, 111, .int (0), 0, 0),
  (111, .aload_n 0, 112, .null, 0, 0),
  (112, .getfield 38, 115, .null, 23, 5),
  (115, .iconst 1, 116, .int (1), 0, 0),
  (116, .baload, 117, .null, 0, 0),
  (117, .ifCond .eq 7, 120, .null, 124, 0),
  (120, .iconst 1, 121, .int (1), 0, 0),
  (121, .goto 4, 124, .null, 125, 0),
  (124, .iconst 0, 125, .int (0), 0, 0),
  (125, .iadd, 126, .null, 0, 0),
  (126, .ireturn, 127, .null, 0, 0),
  (127, .aload_n 0, 128, .null, 0, 0),
  (128, .getfield 57, 131, .null, 4, 5),
  (131, .ireturn, 132, .null, 0, 0),
  (132, .aload_n 0, 133, .null, 0, 0),
  (133, .getfield 42, 136, .null, 24, 5),
  (136, .iconst 0, 137, .int (0), 0, 0),
  (137, .iaload, 138, .null, 0, 0),
  (138, .bipush (-4), 140, .int (-4), 0, 0),
  (140, .if_icmp .ne 8, 143, .null, 148, 0),
  (143, .bipush (-4), 145, .int (-4), 0, 0),
  (145, .goto 9, 148, .null, 154, 0),
  (148, .aload_n 0, 149, .null, 0, 0),
  (149, .getfield 45, 152, .null, 25, 5),
  (152, .iconst 0, 153, .int (0), 0, 0),
  (153, .iaload, 154, .null, 0, 0),
  (154, .ireturn, 155, .null, 0, 0),
  (155, .iload_n 2, 156, .null, 2, 0),
  (156, .ireturn, 157, .null, 0, 0),
  (157, .iload_n 3, 158, .null, 3, 0),
  (158, .ireturn, 159, .null, 0, 0),
  (159, .iconst (-1), 160, .int (-1), 0, 0),
  (160, .ireturn, 161, .null, 0, 0)]
end
section
def tbJ6_compare_7cf53 : pm_Tb := [(0, .iload_n 0, 1, .null, 0, 0),
  (1, .iload_n 1, 2, .null, 1, 0),
  (2, .if_icmp .ge 7, 5, .null, 9, 0),
  (5, .iconst (-1), 6, .int (-1), 0, 0),
  (6, .goto 13, 9, .null, 19, 0),
  (9, .iload_n 0, 10, .null, 0, 0),
  (10, .iload_n 1, 11, .null, 1, 0),
  (11, .if_icmp .ne 7, 14, .null, 18, 0),
  (14, .iconst 0, 15, .int (0), 0, 0),
  (15, .goto 4, 18, .null, 19, 0),
  (18, .iconst 1, 19, .int (1), 0, 0),
  (19, .ireturn, 20, .null, 0, 0)]
def tbJ6_bitCount_0f7a4 : pm_Tb := [(0, .iload_n 0, 1, .null, 0, 0),
  (1, .iload_n 0, 2, .null, 0, 0),
  (2, .iconst 1, 3, .int (1), 0, 0),
  (3, .iushr, 4, .null, 0, 0),
  (4, .ldc_w 265, 7, .int (1431655765), 0, 0),
  (7, .iand, 8, .null, 0, 0),
  (8, .isub, 9, .null, 0, 0),
  (9, .istore_n 0, 10, .null, 0, 0),
  (10, .iload_n 0, 11, .null, 0, 0),
  (11, .ldc_w 266, 14, .int (858993459), 0, 0),
  (14, .iand, 15, .null, 0, 0),
  (15, .iload_n 0, 16, .null, 0, 0),
  (16, .iconst 2, 17, .int (2), 0, 0),
  (17, .iushr, 18, .null, 0, 0),
  (18, .ldc_w 266, 21, .int (858993459), 0, 0),
  (21, .iand, 22, .null, 0, 0),
  (22, .iadd, 23, .null, 0, 0),
  (23, .istore_n 0, 24, .null, 0, 0),
  (24, .iload_n 0, 25, .null, 0, 0),
  (25, .iload_n 0, 26, .null, 0, 0),
  (26, .iconst 4, 27, .int (4), 0, 0),
  (27, .iushr, 28, .null, 0, 0),
  (28, .iadd, 29, .null, 0, 0),
  (29, .ldc_w 267, 32, .int (252645135), 0, 0),
  (32, .iand, 33, .null, 0, 0),
  (33, .istore_n 0, 34, .null, 0, 0),
  (34, .iload_n 0, 35, .null, 0, 0),
  (35, .iload_n 0, 36, .null, 0, 0),
  (36, .bipush 8, 38, .int (8), 0, 0),
  (38, .iushr, 39, .null, 0, 0),
  (39, .iadd, 40, .null, 0, 0),
  (40, .istore_n 0, 41, .null, 0, 0),
  (41, .iload_n 0, 42, .null, 0, 0),
  (42, .iload_n 0, 43, .null, 0, 0),
  (43, .bipush 16, 45, .int (16), 0, 0),
  (45, .iushr, 46, .null, 0, 0),
  (46, .iadd, 47, .null, 0, 0),
  (47, .istore_n 0, 48, .null, 0, 0),
  (48, .iload_n 0, 49, .null, 0, 0),
  (49, .bipush 63, 51, .int (63), 0, 0),
  (51, .iand, 52, .null, 0, 0),
  (52, .ireturn, 53, .null, 0, 0)]
end
section
def tbL_law_0 : pm_Tb := [(16, .iconst 0, 17, .int (0), 0, 0),
  (17, .istore_n 3, 18, .null, 3, 0),
  (18, .iload_n 3, 19, .null, 3, 0),
  (19, .aload_n 0, 20, .null, 0, 0),
  (20, .arraylength, 21, .null, 0, 0),
  (21, .iconst 5, 22, .int (5), 0, 0),
  (22, .isub, 23, .null, 0, 0),
  (23, .if_icmp .gt 1490, 26, .null, 1513, 0),
  (26, .aload_n 0, 27, .null, 0, 0),
  (27, .iload_n 3, 28, .null, 3, 0),
  (28, .iaload, 29, .null, 0, 0),
  (29, .bipush 63, 31, .int (63), 0, 0),
  (31, .iand, 32, .null, 0, 0),
  (32, .tableswitch 1475 0 40 #[180, 203, 226, 239, 252, 275, 308, 341, 384, 407, 460, 483, 516, 549, 572, 585, 608, 641, 684, 717, 730, 773, 816, 859, 902, 935, 968, 1022, 1066, 1109, 1132, 1155, 1178, 1211, 1254, 1277, 1300, 1343, 1386, 1439, 1452], 212, .null, 1507, 0),
  (212, .aload_n 1, 213, .null, 1, 0),
  (213, .aload_n 0, 214, .null, 0, 0),
  (214, .iload_n 3, 215, .null, 3, 0),
  (215, .iconst 1, 216, .int (1), 0, 0),
  (216, .iadd, 217, .null, 0, 0),
  (217, .iaload, 218, .null, 0, 0),
  (218, .invokevirtual 13, 221, .ref 2, 44, 4),
  (221, .aload_n 2, 222, .null, 2, 0),
  (222, .aload_n 0, 223, .null, 0, 0),
  (223, .iload_n 3, 224, .null, 3, 0),
  (224, .iconst 1, 225, .int (1), 0, 0),
  (225, .iadd, 226, .null, 0, 0),
  (226, .iaload, 227, .null, 0, 0),
  (227, .invokevirtual 17, 230, .ref 2, 100, 5),
  (230, .if_icmp .eq 1277, 233, .null, 1507, 0),
  (233, .iconst 0, 234, .int (0), 0, 0),
  (234, .ireturn, 235, .null, 0, 0),
  (235, .aload_n 1, 236, .null, 1, 0),
  (236, .aload_n 0, 237, .null, 0, 0),
  (237, .iload_n 3, 238, .null, 3, 0),
  (238, .iconst 1, 239, .int (1), 0, 0),
  (239, .iadd, 240, .null, 0, 0),
  (240, .iaload, 241, .null, 0, 0),
  (241, .invokevirtual 18, 244, .ref 2, 45, 4),
  (244, .aload_n 2, 245, .null, 2, 0),
  (245, .aload_n 0, 246, .null, 0, 0),
  (246, .iload_n 3, 247, .null, 3, 0),
  (247, .iconst 1, 248, .int (1), 0, 0),
  (248, .iadd, 249, .null, 0, 0),
  (249, .iaload, 250, .null, 0, 0),
  (250, .invokevirtual 21, 253, .ref 2, 101, 5),
  (253, .if_icmp .eq 1254, 256, .null, 1507, 0),
  (256, .iconst 0, 257, .int (0), 0, 0),
  (257, .ireturn, 258, .null, 0, 0),
  (258, .aload_n 1, 259, .null, 1, 0),
  (259, .invokevirtual 22, 262, .ref 1, 46, 4),
  (262, .aload_n 2, 263, .null, 2, 0),
  (263, .invokevirtual 26, 266, .ref 1, 109, 5),
  (266, .if_icmp .eq 1241, 269, .null, 1507, 0),
  (269, .iconst 0, 270, .int (0), 0, 0),
  (270, .ireturn, 271, .null, 0, 0),
  (271, .aload_n 1, 272, .null, 1, 0),
  (272, .invokevirtual 27, 275, .ref 1, 47, 4),
  (275, .aload_n 2, 276, .null, 2, 0),
  (276, .invokevirtual 30, 279, .ref 1, 110, 5),
  (279, .if_icmp .eq 1228, 282, .null, 1507, 0),
  (282, .iconst 0, 283, .int (0), 0, 0),
  (283, .ireturn, 284, .null, 0, 0),
  (284, .aload_n 1, 285, .null, 1, 0),
  (285, .aload_n 0, 286, .null, 0, 0),
  (286, .iload_n 3, 287, .null, 3, 0),
  (287, .iconst 1, 288, .int (1), 0, 0),
  (288, .iadd, 289, .null, 0, 0),
  (289, .iaload, 290, .null, 0, 0),
  (290, .invokevirtual 31, 293, .ref 2, 48, 4),
  (293, .aload_n 2, 294, .null, 2, 0),
  (294, .aload_n 0, 295, .null, 0, 0),
  (295, .iload_n 3, 296, .null, 3, 0),
  (296, .iconst 1, 297, .int (1), 0, 0),
  (297, .iadd, 298, .null, 0, 0),
  (298, .iaload, 299, .null, 0, 0),
  (299, .invokevirtual 34, 302, .ref 2, 123, 5),
  (302, .if_icmp .eq 1205, 305, .null, 1507, 0),
  (305, .iconst 0, 306, .int (0), 0, 0),
  (306, .ireturn, 307, .null, 0, 0),
  (307, .aload_n 1, 308, .null, 1, 0),
  (308, .aload_n 0, 309, .null, 0, 0),
  (309, .iload_n 3, 310, .null, 3, 0),
  (310, .iconst 1, 311, .int (1), 0, 0),
  (311, .iadd, 312, .null, 0, 0),
  (312, .iaload, 313, .null, 0, 0),
  (313, .aload_n 0, 314, .null, 0, 0),
  (314, .iload_n 3, 315, .null, 3, 0),
  (315, .iconst 2, 316, .int (2), 0, 0),
  (316, .iadd, 317, .null, 0, 0),
  (317, .iaload, 318, .null, 0, 0),
  (318, .invokevirtual 35, 321, .ref 3, 49, 4),
  (321, .aload_n 2, 322, .null, 2, 0),
  (322, .aload_n 0, 323, .null, 0, 0),
  (323, .iload_n 3, 324, .null, 3, 0),
  (324, .iconst 1, 325, .int (1), 0, 0),
  (325, .iadd, 326, .null, 0, 0),
  (326, .iaload, 327, .null, 0, 0),
  (327, .aload_n 0, 328, .null, 0, 0),
  (328, .iload_n 3, 329, .null, 3, 0),
  (329, .iconst 2, 330, .int (2), 0, 0)]
def tbL_law_1 : pm_Tb := [(330, .iadd, 331, .null, 0, 0),
  (331, .iaload, 332, .null, 0, 0),
  (332, .invokevirtual 39, 335, .ref 3, 124, 5),
  (335, .if_icmp .eq 1172, 338, .null, 1507, 0),
  (338, .iconst 0, 339, .int (0), 0, 0),
  (339, .ireturn, 340, .null, 0, 0),
  (340, .aload_n 1, 341, .null, 1, 0),
  (341, .aload_n 0, 342, .null, 0, 0),
  (342, .iload_n 3, 343, .null, 3, 0),
  (343, .iconst 1, 344, .int (1), 0, 0),
  (344, .iadd, 345, .null, 0, 0),
  (345, .iaload, 346, .null, 0, 0),
  (346, .aload_n 0, 347, .null, 0, 0),
  (347, .iload_n 3, 348, .null, 3, 0),
  (348, .iconst 2, 349, .int (2), 0, 0),
  (349, .iadd, 350, .null, 0, 0),
  (350, .iaload, 351, .null, 0, 0),
  (351, .invokevirtual 40, 354, .ref 3, 50, 4),
  (354, .aload_n 2, 355, .null, 2, 0),
  (355, .aload_n 0, 356, .null, 0, 0),
  (356, .iload_n 3, 357, .null, 3, 0),
  (357, .iconst 1, 358, .int (1), 0, 0),
  (358, .iadd, 359, .null, 0, 0),
  (359, .iaload, 360, .null, 0, 0),
  (360, .aload_n 0, 361, .null, 0, 0),
  (361, .iload_n 3, 362, .null, 3, 0),
  (362, .iconst 2, 363, .int (2), 0, 0),
  (363, .iadd, 364, .null, 0, 0),
  (364, .iaload, 365, .null, 0, 0),
  (365, .invokevirtual 43, 368, .ref 3, 125, 5),
  (368, .if_icmp .eq 1139, 371, .null, 1507, 0),
  (371, .iconst 0, 372, .int (0), 0, 0),
  (372, .ireturn, 373, .null, 0, 0),
  (373, .aload_n 1, 374, .null, 1, 0),
  (374, .aload_n 0, 375, .null, 0, 0),
  (375, .iload_n 3, 376, .null, 3, 0),
  (376, .iconst 1, 377, .int (1), 0, 0),
  (377, .iadd, 378, .null, 0, 0),
  (378, .iaload, 379, .null, 0, 0),
  (379, .aload_n 0, 380, .null, 0, 0),
  (380, .iload_n 3, 381, .null, 3, 0),
  (381, .iconst 2, 382, .int (2), 0, 0),
  (382, .iadd, 383, .null, 0, 0),
  (383, .iaload, 384, .null, 0, 0),
  (384, .aload_n 0, 385, .null, 0, 0),
  (385, .iload_n 3, 386, .null, 3, 0),
  (386, .iconst 3, 387, .int (3), 0, 0),
  (387, .iadd, 388, .null, 0, 0),
  (388, .iaload, 389, .null, 0, 0),
  (389, .invokevirtual 44, 392, .ref 4, 51, 4),
  (392, .aload_n 2, 393, .null, 2, 0),
  (393, .aload_n 0, 394, .null, 0, 0),
  (394, .iload_n 3, 395, .null, 3, 0),
  (395, .iconst 1, 396, .int (1), 0, 0),
  (396, .iadd, 397, .null, 0, 0),
  (397, .iaload, 398, .null, 0, 0),
  (398, .aload_n 0, 399, .null, 0, 0),
  (399, .iload_n 3, 400, .null, 3, 0),
  (400, .iconst 2, 401, .int (2), 0, 0),
  (401, .iadd, 402, .null, 0, 0),
  (402, .iaload, 403, .null, 0, 0),
  (403, .aload_n 0, 404, .null, 0, 0),
  (404, .iload_n 3, 405, .null, 3, 0),
  (405, .iconst 3, 406, .int (3), 0, 0),
  (406, .iadd, 407, .null, 0, 0),
  (407, .iaload, 408, .null, 0, 0),
  (408, .invokevirtual 48, 411, .ref 4, 128, 5),
  (411, .if_icmp .eq 1096, 414, .null, 1507, 0),
  (414, .iconst 0, 415, .int (0), 0, 0),
  (415, .ireturn, 416, .null, 0, 0),
  (416, .aload_n 1, 417, .null, 1, 0),
  (417, .aload_n 0, 418, .null, 0, 0),
  (418, .iload_n 3, 419, .null, 3, 0),
  (419, .iconst 1, 420, .int (1), 0, 0),
  (420, .iadd, 421, .null, 0, 0),
  (421, .iaload, 422, .null, 0, 0),
  (422, .invokevirtual 49, 425, .ref 2, 52, 4),
  (425, .aload_n 2, 426, .null, 2, 0),
  (426, .aload_n 0, 427, .null, 0, 0),
  (427, .iload_n 3, 428, .null, 3, 0),
  (428, .iconst 1, 429, .int (1), 0, 0),
  (429, .iadd, 430, .null, 0, 0),
  (430, .iaload, 431, .null, 0, 0),
  (431, .invokevirtual 52, 434, .ref 2, 129, 5),
  (434, .if_icmp .eq 1073, 437, .null, 1507, 0),
  (437, .iconst 0, 438, .int (0), 0, 0),
  (438, .ireturn, 439, .null, 0, 0),
  (439, .aload_n 1, 440, .null, 1, 0),
  (440, .aload_n 0, 441, .null, 0, 0),
  (441, .iload_n 3, 442, .null, 3, 0),
  (442, .iconst 1, 443, .int (1), 0, 0),
  (443, .iadd, 444, .null, 0, 0),
  (444, .iaload, 445, .null, 0, 0),
  (445, .aload_n 0, 446, .null, 0, 0),
  (446, .iload_n 3, 447, .null, 3, 0),
  (447, .iconst 2, 448, .int (2), 0, 0),
  (448, .iadd, 449, .null, 0, 0),
  (449, .iaload, 450, .null, 0, 0),
  (450, .aload_n 0, 451, .null, 0, 0),
  (451, .iload_n 3, 452, .null, 3, 0)]
def tbL_law_2 : pm_Tb := [(452, .iconst 3, 453, .int (3), 0, 0),
  (453, .iadd, 454, .null, 0, 0),
  (454, .iaload, 455, .null, 0, 0),
  (455, .aload_n 0, 456, .null, 0, 0),
  (456, .iload_n 3, 457, .null, 3, 0),
  (457, .iconst 4, 458, .int (4), 0, 0),
  (458, .iadd, 459, .null, 0, 0),
  (459, .iaload, 460, .null, 0, 0),
  (460, .invokevirtual 53, 463, .ref 5, 53, 4),
  (463, .aload_n 2, 464, .null, 2, 0),
  (464, .aload_n 0, 465, .null, 0, 0),
  (465, .iload_n 3, 466, .null, 3, 0),
  (466, .iconst 1, 467, .int (1), 0, 0),
  (467, .iadd, 468, .null, 0, 0),
  (468, .iaload, 469, .null, 0, 0),
  (469, .aload_n 0, 470, .null, 0, 0),
  (470, .iload_n 3, 471, .null, 3, 0),
  (471, .iconst 2, 472, .int (2), 0, 0),
  (472, .iadd, 473, .null, 0, 0),
  (473, .iaload, 474, .null, 0, 0),
  (474, .aload_n 0, 475, .null, 0, 0),
  (475, .iload_n 3, 476, .null, 3, 0),
  (476, .iconst 3, 477, .int (3), 0, 0),
  (477, .iadd, 478, .null, 0, 0),
  (478, .iaload, 479, .null, 0, 0),
  (479, .aload_n 0, 480, .null, 0, 0),
  (480, .iload_n 3, 481, .null, 3, 0),
  (481, .iconst 4, 482, .int (4), 0, 0),
  (482, .iadd, 483, .null, 0, 0),
  (483, .iaload, 484, .null, 0, 0),
  (484, .invokevirtual 57, 487, .ref 5, 130, 5),
  (487, .if_icmp .eq 1020, 490, .null, 1507, 0),
  (490, .iconst 0, 491, .int (0), 0, 0),
  (491, .ireturn, 492, .null, 0, 0),
  (492, .aload_n 1, 493, .null, 1, 0),
  (493, .aload_n 0, 494, .null, 0, 0),
  (494, .iload_n 3, 495, .null, 3, 0),
  (495, .iconst 1, 496, .int (1), 0, 0),
  (496, .iadd, 497, .null, 0, 0),
  (497, .iaload, 498, .null, 0, 0),
  (498, .invokevirtual 58, 501, .ref 2, 54, 4),
  (501, .aload_n 2, 502, .null, 2, 0),
  (502, .aload_n 0, 503, .null, 0, 0),
  (503, .iload_n 3, 504, .null, 3, 0),
  (504, .iconst 1, 505, .int (1), 0, 0),
  (505, .iadd, 506, .null, 0, 0),
  (506, .iaload, 507, .null, 0, 0),
  (507, .invokevirtual 61, 510, .ref 2, 131, 5),
  (510, .if_icmp .eq 997, 513, .null, 1507, 0),
  (513, .iconst 0, 514, .int (0), 0, 0),
  (514, .ireturn, 515, .null, 0, 0),
  (515, .aload_n 1, 516, .null, 1, 0),
  (516, .aload_n 0, 517, .null, 0, 0),
  (517, .iload_n 3, 518, .null, 3, 0),
  (518, .iconst 1, 519, .int (1), 0, 0),
  (519, .iadd, 520, .null, 0, 0),
  (520, .iaload, 521, .null, 0, 0),
  (521, .aload_n 0, 522, .null, 0, 0),
  (522, .iload_n 3, 523, .null, 3, 0),
  (523, .iconst 2, 524, .int (2), 0, 0),
  (524, .iadd, 525, .null, 0, 0),
  (525, .iaload, 526, .null, 0, 0),
  (526, .invokevirtual 62, 529, .ref 3, 55, 4),
  (529, .aload_n 2, 530, .null, 2, 0),
  (530, .aload_n 0, 531, .null, 0, 0),
  (531, .iload_n 3, 532, .null, 3, 0),
  (532, .iconst 1, 533, .int (1), 0, 0),
  (533, .iadd, 534, .null, 0, 0),
  (534, .iaload, 535, .null, 0, 0),
  (535, .aload_n 0, 536, .null, 0, 0),
  (536, .iload_n 3, 537, .null, 3, 0),
  (537, .iconst 2, 538, .int (2), 0, 0),
  (538, .iadd, 539, .null, 0, 0),
  (539, .iaload, 540, .null, 0, 0),
  (540, .invokevirtual 65, 543, .ref 3, 132, 5),
  (543, .if_icmp .eq 964, 546, .null, 1507, 0),
  (546, .iconst 0, 547, .int (0), 0, 0),
  (547, .ireturn, 548, .null, 0, 0),
  (548, .aload_n 1, 549, .null, 1, 0),
  (549, .aload_n 0, 550, .null, 0, 0),
  (550, .iload_n 3, 551, .null, 3, 0),
  (551, .iconst 1, 552, .int (1), 0, 0),
  (552, .iadd, 553, .null, 0, 0),
  (553, .iaload, 554, .null, 0, 0),
  (554, .aload_n 0, 555, .null, 0, 0),
  (555, .iload_n 3, 556, .null, 3, 0),
  (556, .iconst 2, 557, .int (2), 0, 0),
  (557, .iadd, 558, .null, 0, 0),
  (558, .iaload, 559, .null, 0, 0),
  (559, .invokevirtual 66, 562, .ref 3, 56, 4),
  (562, .aload_n 2, 563, .null, 2, 0),
  (563, .aload_n 0, 564, .null, 0, 0),
  (564, .iload_n 3, 565, .null, 3, 0),
  (565, .iconst 1, 566, .int (1), 0, 0),
  (566, .iadd, 567, .null, 0, 0),
  (567, .iaload, 568, .null, 0, 0),
  (568, .aload_n 0, 569, .null, 0, 0),
  (569, .iload_n 3, 570, .null, 3, 0),
  (570, .iconst 2, 571, .int (2), 0, 0),
  (571, .iadd, 572, .null, 0, 0)]
def tbL_law_3 : pm_Tb := [(572, .iaload, 573, .null, 0, 0),
  (573, .invokevirtual 69, 576, .ref 3, 134, 5),
  (576, .if_icmp .eq 931, 579, .null, 1507, 0),
  (579, .iconst 0, 580, .int (0), 0, 0),
  (580, .ireturn, 581, .null, 0, 0),
  (581, .aload_n 1, 582, .null, 1, 0),
  (582, .aload_n 0, 583, .null, 0, 0),
  (583, .iload_n 3, 584, .null, 3, 0),
  (584, .iconst 1, 585, .int (1), 0, 0),
  (585, .iadd, 586, .null, 0, 0),
  (586, .iaload, 587, .null, 0, 0),
  (587, .invokevirtual 70, 590, .ref 2, 57, 4),
  (590, .aload_n 2, 591, .null, 2, 0),
  (591, .aload_n 0, 592, .null, 0, 0),
  (592, .iload_n 3, 593, .null, 3, 0),
  (593, .iconst 1, 594, .int (1), 0, 0),
  (594, .iadd, 595, .null, 0, 0),
  (595, .iaload, 596, .null, 0, 0),
  (596, .invokevirtual 73, 599, .ref 2, 135, 5),
  (599, .if_icmp .eq 908, 602, .null, 1507, 0),
  (602, .iconst 0, 603, .int (0), 0, 0),
  (603, .ireturn, 604, .null, 0, 0),
  (604, .aload_n 1, 605, .null, 1, 0),
  (605, .invokevirtual 74, 608, .ref 1, 58, 4),
  (608, .aload_n 2, 609, .null, 2, 0),
  (609, .invokevirtual 77, 612, .ref 1, 136, 5),
  (612, .if_icmp .eq 895, 615, .null, 1507, 0),
  (615, .iconst 0, 616, .int (0), 0, 0),
  (616, .ireturn, 617, .null, 0, 0),
  (617, .aload_n 1, 618, .null, 1, 0),
  (618, .aload_n 0, 619, .null, 0, 0),
  (619, .iload_n 3, 620, .null, 3, 0),
  (620, .iconst 1, 621, .int (1), 0, 0),
  (621, .iadd, 622, .null, 0, 0),
  (622, .iaload, 623, .null, 0, 0),
  (623, .invokevirtual 78, 626, .ref 2, 59, 4),
  (626, .aload_n 2, 627, .null, 2, 0),
  (627, .aload_n 0, 628, .null, 0, 0),
  (628, .iload_n 3, 629, .null, 3, 0),
  (629, .iconst 1, 630, .int (1), 0, 0),
  (630, .iadd, 631, .null, 0, 0),
  (631, .iaload, 632, .null, 0, 0),
  (632, .invokevirtual 81, 635, .ref 2, 137, 5),
  (635, .if_icmp .eq 872, 638, .null, 1507, 0),
  (638, .iconst 0, 639, .int (0), 0, 0),
  (639, .ireturn, 640, .null, 0, 0),
  (640, .aload_n 1, 641, .null, 1, 0),
  (641, .aload_n 0, 642, .null, 0, 0),
  (642, .iload_n 3, 643, .null, 3, 0),
  (643, .iconst 1, 644, .int (1), 0, 0),
  (644, .iadd, 645, .null, 0, 0),
  (645, .iaload, 646, .null, 0, 0),
  (646, .aload_n 0, 647, .null, 0, 0),
  (647, .iload_n 3, 648, .null, 3, 0),
  (648, .iconst 2, 649, .int (2), 0, 0),
  (649, .iadd, 650, .null, 0, 0),
  (650, .iaload, 651, .null, 0, 0),
  (651, .invokevirtual 82, 654, .ref 3, 60, 4),
  (654, .aload_n 2, 655, .null, 2, 0),
  (655, .aload_n 0, 656, .null, 0, 0),
  (656, .iload_n 3, 657, .null, 3, 0),
  (657, .iconst 1, 658, .int (1), 0, 0),
  (658, .iadd, 659, .null, 0, 0),
  (659, .iaload, 660, .null, 0, 0),
  (660, .aload_n 0, 661, .null, 0, 0),
  (661, .iload_n 3, 662, .null, 3, 0),
  (662, .iconst 2, 663, .int (2), 0, 0),
  (663, .iadd, 664, .null, 0, 0),
  (664, .iaload, 665, .null, 0, 0),
  (665, .invokevirtual 85, 668, .ref 3, 140, 5),
  (668, .if_icmp .eq 839, 671, .null, 1507, 0),
  (671, .iconst 0, 672, .int (0), 0, 0),
  (672, .ireturn, 673, .null, 0, 0),
  (673, .aload_n 1, 674, .null, 1, 0),
  (674, .aload_n 0, 675, .null, 0, 0),
  (675, .iload_n 3, 676, .null, 3, 0),
  (676, .iconst 1, 677, .int (1), 0, 0),
  (677, .iadd, 678, .null, 0, 0),
  (678, .iaload, 679, .null, 0, 0),
  (679, .aload_n 0, 680, .null, 0, 0),
  (680, .iload_n 3, 681, .null, 3, 0),
  (681, .iconst 2, 682, .int (2), 0, 0),
  (682, .iadd, 683, .null, 0, 0),
  (683, .iaload, 684, .null, 0, 0),
  (684, .aload_n 0, 685, .null, 0, 0),
  (685, .iload_n 3, 686, .null, 3, 0),
  (686, .iconst 3, 687, .int (3), 0, 0),
  (687, .iadd, 688, .null, 0, 0),
  (688, .iaload, 689, .null, 0, 0),
  (689, .invokevirtual 86, 692, .ref 4, 61, 4),
  (692, .aload_n 2, 693, .null, 2, 0),
  (693, .aload_n 0, 694, .null, 0, 0),
  (694, .iload_n 3, 695, .null, 3, 0),
  (695, .iconst 1, 696, .int (1), 0, 0),
  (696, .iadd, 697, .null, 0, 0),
  (697, .iaload, 698, .null, 0, 0),
  (698, .aload_n 0, 699, .null, 0, 0),
  (699, .iload_n 3, 700, .null, 3, 0),
  (700, .iconst 2, 701, .int (2), 0, 0),
  (701, .iadd, 702, .null, 0, 0)]
def tbL_law_4 : pm_Tb := [(702, .iaload, 703, .null, 0, 0),
  (703, .aload_n 0, 704, .null, 0, 0),
  (704, .iload_n 3, 705, .null, 3, 0),
  (705, .iconst 3, 706, .int (3), 0, 0),
  (706, .iadd, 707, .null, 0, 0),
  (707, .iaload, 708, .null, 0, 0),
  (708, .invokevirtual 89, 711, .ref 4, 141, 5),
  (711, .if_icmp .eq 796, 714, .null, 1507, 0),
  (714, .iconst 0, 715, .int (0), 0, 0),
  (715, .ireturn, 716, .null, 0, 0),
  (716, .aload_n 1, 717, .null, 1, 0),
  (717, .aload_n 0, 718, .null, 0, 0),
  (718, .iload_n 3, 719, .null, 3, 0),
  (719, .iconst 1, 720, .int (1), 0, 0),
  (720, .iadd, 721, .null, 0, 0),
  (721, .iaload, 722, .null, 0, 0),
  (722, .aload_n 0, 723, .null, 0, 0),
  (723, .iload_n 3, 724, .null, 3, 0),
  (724, .iconst 2, 725, .int (2), 0, 0),
  (725, .iadd, 726, .null, 0, 0),
  (726, .iaload, 727, .null, 0, 0),
  (727, .invokevirtual 90, 730, .ref 3, 62, 4),
  (730, .aload_n 2, 731, .null, 2, 0),
  (731, .aload_n 0, 732, .null, 0, 0),
  (732, .iload_n 3, 733, .null, 3, 0),
  (733, .iconst 1, 734, .int (1), 0, 0),
  (734, .iadd, 735, .null, 0, 0),
  (735, .iaload, 736, .null, 0, 0),
  (736, .aload_n 0, 737, .null, 0, 0),
  (737, .iload_n 3, 738, .null, 3, 0),
  (738, .iconst 2, 739, .int (2), 0, 0),
  (739, .iadd, 740, .null, 0, 0),
  (740, .iaload, 741, .null, 0, 0),
  (741, .invokevirtual 93, 744, .ref 3, 142, 5),
  (744, .if_icmp .eq 763, 747, .null, 1507, 0),
  (747, .iconst 0, 748, .int (0), 0, 0),
  (748, .ireturn, 749, .null, 0, 0),
  (749, .aload_n 1, 750, .null, 1, 0),
  (750, .invokevirtual 94, 753, .ref 1, 63, 4),
  (753, .aload_n 2, 754, .null, 2, 0),
  (754, .invokevirtual 97, 757, .ref 1, 143, 5),
  (757, .if_icmp .eq 750, 760, .null, 1507, 0),
  (760, .iconst 0, 761, .int (0), 0, 0),
  (761, .ireturn, 762, .null, 0, 0),
  (762, .aload_n 1, 763, .null, 1, 0),
  (763, .aload_n 0, 764, .null, 0, 0),
  (764, .iload_n 3, 765, .null, 3, 0),
  (765, .iconst 1, 766, .int (1), 0, 0),
  (766, .iadd, 767, .null, 0, 0),
  (767, .iaload, 768, .null, 0, 0),
  (768, .aload_n 0, 769, .null, 0, 0),
  (769, .iload_n 3, 770, .null, 3, 0),
  (770, .iconst 2, 771, .int (2), 0, 0),
  (771, .iadd, 772, .null, 0, 0),
  (772, .iaload, 773, .null, 0, 0),
  (773, .aload_n 0, 774, .null, 0, 0),
  (774, .iload_n 3, 775, .null, 3, 0),
  (775, .iconst 3, 776, .int (3), 0, 0),
  (776, .iadd, 777, .null, 0, 0),
  (777, .iaload, 778, .null, 0, 0),
  (778, .invokevirtual 98, 781, .ref 4, 64, 4),
  (781, .aload_n 2, 782, .null, 2, 0),
  (782, .aload_n 0, 783, .null, 0, 0),
  (783, .iload_n 3, 784, .null, 3, 0),
  (784, .iconst 1, 785, .int (1), 0, 0),
  (785, .iadd, 786, .null, 0, 0),
  (786, .iaload, 787, .null, 0, 0),
  (787, .aload_n 0, 788, .null, 0, 0),
  (788, .iload_n 3, 789, .null, 3, 0),
  (789, .iconst 2, 790, .int (2), 0, 0),
  (790, .iadd, 791, .null, 0, 0),
  (791, .iaload, 792, .null, 0, 0),
  (792, .aload_n 0, 793, .null, 0, 0),
  (793, .iload_n 3, 794, .null, 3, 0),
  (794, .iconst 3, 795, .int (3), 0, 0),
  (795, .iadd, 796, .null, 0, 0),
  (796, .iaload, 797, .null, 0, 0),
  (797, .invokevirtual 101, 800, .ref 4, 146, 5),
  (800, .if_icmp .eq 707, 803, .null, 1507, 0),
  (803, .iconst 0, 804, .int (0), 0, 0),
  (804, .ireturn, 805, .null, 0, 0),
  (805, .aload_n 1, 806, .null, 1, 0),
  (806, .aload_n 0, 807, .null, 0, 0),
  (807, .iload_n 3, 808, .null, 3, 0),
  (808, .iconst 1, 809, .int (1), 0, 0),
  (809, .iadd, 810, .null, 0, 0),
  (810, .iaload, 811, .null, 0, 0),
  (811, .aload_n 0, 812, .null, 0, 0),
  (812, .iload_n 3, 813, .null, 3, 0),
  (813, .iconst 2, 814, .int (2), 0, 0),
  (814, .iadd, 815, .null, 0, 0),
  (815, .iaload, 816, .null, 0, 0),
  (816, .aload_n 0, 817, .null, 0, 0),
  (817, .iload_n 3, 818, .null, 3, 0),
  (818, .iconst 3, 819, .int (3), 0, 0),
  (819, .iadd, 820, .null, 0, 0),
  (820, .iaload, 821, .null, 0, 0),
  (821, .invokevirtual 102, 824, .ref 4, 65, 4),
  (824, .aload_n 2, 825, .null, 2, 0),
  (825, .aload_n 0, 826, .null, 0, 0)]
def tbL_law_5 : pm_Tb := [(826, .iload_n 3, 827, .null, 3, 0),
  (827, .iconst 1, 828, .int (1), 0, 0),
  (828, .iadd, 829, .null, 0, 0),
  (829, .iaload, 830, .null, 0, 0),
  (830, .aload_n 0, 831, .null, 0, 0),
  (831, .iload_n 3, 832, .null, 3, 0),
  (832, .iconst 2, 833, .int (2), 0, 0),
  (833, .iadd, 834, .null, 0, 0),
  (834, .iaload, 835, .null, 0, 0),
  (835, .aload_n 0, 836, .null, 0, 0),
  (836, .iload_n 3, 837, .null, 3, 0),
  (837, .iconst 3, 838, .int (3), 0, 0),
  (838, .iadd, 839, .null, 0, 0),
  (839, .iaload, 840, .null, 0, 0),
  (840, .invokevirtual 105, 843, .ref 4, 147, 5),
  (843, .if_icmp .eq 664, 846, .null, 1507, 0),
  (846, .iconst 0, 847, .int (0), 0, 0),
  (847, .ireturn, 848, .null, 0, 0),
  (848, .aload_n 1, 849, .null, 1, 0),
  (849, .aload_n 0, 850, .null, 0, 0),
  (850, .iload_n 3, 851, .null, 3, 0),
  (851, .iconst 1, 852, .int (1), 0, 0),
  (852, .iadd, 853, .null, 0, 0),
  (853, .iaload, 854, .null, 0, 0),
  (854, .aload_n 0, 855, .null, 0, 0),
  (855, .iload_n 3, 856, .null, 3, 0),
  (856, .iconst 2, 857, .int (2), 0, 0),
  (857, .iadd, 858, .null, 0, 0),
  (858, .iaload, 859, .null, 0, 0),
  (859, .aload_n 0, 860, .null, 0, 0),
  (860, .iload_n 3, 861, .null, 3, 0),
  (861, .iconst 3, 862, .int (3), 0, 0),
  (862, .iadd, 863, .null, 0, 0),
  (863, .iaload, 864, .null, 0, 0),
  (864, .invokevirtual 106, 867, .ref 4, 66, 4),
  (867, .aload_n 2, 868, .null, 2, 0),
  (868, .aload_n 0, 869, .null, 0, 0),
  (869, .iload_n 3, 870, .null, 3, 0),
  (870, .iconst 1, 871, .int (1), 0, 0),
  (871, .iadd, 872, .null, 0, 0),
  (872, .iaload, 873, .null, 0, 0),
  (873, .aload_n 0, 874, .null, 0, 0),
  (874, .iload_n 3, 875, .null, 3, 0),
  (875, .iconst 2, 876, .int (2), 0, 0),
  (876, .iadd, 877, .null, 0, 0),
  (877, .iaload, 878, .null, 0, 0),
  (878, .aload_n 0, 879, .null, 0, 0),
  (879, .iload_n 3, 880, .null, 3, 0),
  (880, .iconst 3, 881, .int (3), 0, 0),
  (881, .iadd, 882, .null, 0, 0),
  (882, .iaload, 883, .null, 0, 0),
  (883, .invokevirtual 109, 886, .ref 4, 148, 5),
  (886, .if_icmp .eq 621, 889, .null, 1507, 0),
  (889, .iconst 0, 890, .int (0), 0, 0),
  (890, .ireturn, 891, .null, 0, 0),
  (891, .aload_n 1, 892, .null, 1, 0),
  (892, .aload_n 0, 893, .null, 0, 0),
  (893, .iload_n 3, 894, .null, 3, 0),
  (894, .iconst 1, 895, .int (1), 0, 0),
  (895, .iadd, 896, .null, 0, 0),
  (896, .iaload, 897, .null, 0, 0),
  (897, .aload_n 0, 898, .null, 0, 0),
  (898, .iload_n 3, 899, .null, 3, 0),
  (899, .iconst 2, 900, .int (2), 0, 0),
  (900, .iadd, 901, .null, 0, 0),
  (901, .iaload, 902, .null, 0, 0),
  (902, .aload_n 0, 903, .null, 0, 0),
  (903, .iload_n 3, 904, .null, 3, 0),
  (904, .iconst 3, 905, .int (3), 0, 0),
  (905, .iadd, 906, .null, 0, 0),
  (906, .iaload, 907, .null, 0, 0),
  (907, .invokevirtual 110, 910, .ref 4, 67, 4),
  (910, .aload_n 2, 911, .null, 2, 0),
  (911, .aload_n 0, 912, .null, 0, 0),
  (912, .iload_n 3, 913, .null, 3, 0),
  (913, .iconst 1, 914, .int (1), 0, 0),
  (914, .iadd, 915, .null, 0, 0),
  (915, .iaload, 916, .null, 0, 0),
  (916, .aload_n 0, 917, .null, 0, 0),
  (917, .iload_n 3, 918, .null, 3, 0),
  (918, .iconst 2, 919, .int (2), 0, 0),
  (919, .iadd, 920, .null, 0, 0),
  (920, .iaload, 921, .null, 0, 0),
  (921, .aload_n 0, 922, .null, 0, 0),
  (922, .iload_n 3, 923, .null, 3, 0),
  (923, .iconst 3, 924, .int (3), 0, 0),
  (924, .iadd, 925, .null, 0, 0),
  (925, .iaload, 926, .null, 0, 0),
  (926, .invokevirtual 113, 929, .ref 4, 149, 5),
  (929, .if_icmp .eq 578, 932, .null, 1507, 0),
  (932, .iconst 0, 933, .int (0), 0, 0),
  (933, .ireturn, 934, .null, 0, 0),
  (934, .aload_n 1, 935, .null, 1, 0),
  (935, .aload_n 0, 936, .null, 0, 0),
  (936, .iload_n 3, 937, .null, 3, 0),
  (937, .iconst 1, 938, .int (1), 0, 0),
  (938, .iadd, 939, .null, 0, 0),
  (939, .iaload, 940, .null, 0, 0),
  (940, .aload_n 0, 941, .null, 0, 0),
  (941, .iload_n 3, 942, .null, 3, 0)]
def tbL_law_6 : pm_Tb := [(942, .iconst 2, 943, .int (2), 0, 0),
  (943, .iadd, 944, .null, 0, 0),
  (944, .iaload, 945, .null, 0, 0),
  (945, .invokevirtual 114, 948, .ref 3, 68, 4),
  (948, .aload_n 2, 949, .null, 2, 0),
  (949, .aload_n 0, 950, .null, 0, 0),
  (950, .iload_n 3, 951, .null, 3, 0),
  (951, .iconst 1, 952, .int (1), 0, 0),
  (952, .iadd, 953, .null, 0, 0),
  (953, .iaload, 954, .null, 0, 0),
  (954, .aload_n 0, 955, .null, 0, 0),
  (955, .iload_n 3, 956, .null, 3, 0),
  (956, .iconst 2, 957, .int (2), 0, 0),
  (957, .iadd, 958, .null, 0, 0),
  (958, .iaload, 959, .null, 0, 0),
  (959, .invokevirtual 117, 962, .ref 3, 150, 5),
  (962, .if_icmp .eq 545, 965, .null, 1507, 0),
  (965, .iconst 0, 966, .int (0), 0, 0),
  (966, .ireturn, 967, .null, 0, 0),
  (967, .aload_n 1, 968, .null, 1, 0),
  (968, .aload_n 0, 969, .null, 0, 0),
  (969, .iload_n 3, 970, .null, 3, 0),
  (970, .iconst 1, 971, .int (1), 0, 0),
  (971, .iadd, 972, .null, 0, 0),
  (972, .iaload, 973, .null, 0, 0),
  (973, .aload_n 0, 974, .null, 0, 0),
  (974, .iload_n 3, 975, .null, 3, 0),
  (975, .iconst 2, 976, .int (2), 0, 0),
  (976, .iadd, 977, .null, 0, 0),
  (977, .iaload, 978, .null, 0, 0),
  (978, .invokevirtual 118, 981, .ref 3, 69, 4),
  (981, .aload_n 2, 982, .null, 2, 0),
  (982, .aload_n 0, 983, .null, 0, 0),
  (983, .iload_n 3, 984, .null, 3, 0),
  (984, .iconst 1, 985, .int (1), 0, 0),
  (985, .iadd, 986, .null, 0, 0),
  (986, .iaload, 987, .null, 0, 0),
  (987, .aload_n 0, 988, .null, 0, 0),
  (988, .iload_n 3, 989, .null, 3, 0),
  (989, .iconst 2, 990, .int (2), 0, 0),
  (990, .iadd, 991, .null, 0, 0),
  (991, .iaload, 992, .null, 0, 0),
  (992, .invokevirtual 121, 995, .ref 3, 151, 5),
  (995, .if_icmp .eq 512, 998, .null, 1507, 0),
  (998, .iconst 0, 999, .int (0), 0, 0),
  (999, .ireturn, 1000, .null, 0, 0),
  (1000, .aload_n 1, 1001, .null, 1, 0),
  (1001, .aload_n 0, 1002, .null, 0, 0),
  (1002, .iload_n 3, 1003, .null, 3, 0),
  (1003, .iconst 1, 1004, .int (1), 0, 0),
  (1004, .iadd, 1005, .null, 0, 0),
  (1005, .iaload, 1006, .null, 0, 0),
  (1006, .aload_n 0, 1007, .null, 0, 0),
  (1007, .iload_n 3, 1008, .null, 3, 0),
  (1008, .iconst 2, 1009, .int (2), 0, 0),
  (1009, .iadd, 1010, .null, 0, 0),
  (1010, .iaload, 1011, .null, 0, 0),
  (1011, .aload_n 0, 1012, .null, 0, 0),
  (1012, .iload_n 3, 1013, .null, 3, 0),
  (1013, .iconst 3, 1014, .int (3), 0, 0),
  (1014, .iadd, 1015, .null, 0, 0),
  (1015, .iaload, 1016, .null, 0, 0),
  (1016, .aload_n 0, 1017, .null, 0, 0),
  (1017, .iload_n 3, 1018, .null, 3, 0),
  (1018, .iconst 4, 1019, .int (4), 0, 0),
  (1019, .iadd, 1020, .null, 0, 0),
  (1020, .iaload, 1021, .null, 0, 0),
  (1021, .invokevirtual 122, 1024, .ref 5, 73, 4),
  (1024, .aload_n 2, 1025, .null, 2, 0),
  (1025, .aload_n 0, 1026, .null, 0, 0),
  (1026, .iload_n 3, 1027, .null, 3, 0),
  (1027, .iconst 1, 1028, .int (1), 0, 0),
  (1028, .iadd, 1029, .null, 0, 0),
  (1029, .iaload, 1030, .null, 0, 0),
  (1030, .aload_n 0, 1031, .null, 0, 0),
  (1031, .iload_n 3, 1032, .null, 3, 0),
  (1032, .iconst 2, 1033, .int (2), 0, 0),
  (1033, .iadd, 1034, .null, 0, 0),
  (1034, .iaload, 1035, .null, 0, 0),
  (1035, .aload_n 0, 1036, .null, 0, 0),
  (1036, .iload_n 3, 1037, .null, 3, 0),
  (1037, .iconst 3, 1038, .int (3), 0, 0),
  (1038, .iadd, 1039, .null, 0, 0),
  (1039, .iaload, 1040, .null, 0, 0),
  (1040, .aload_n 0, 1041, .null, 0, 0),
  (1041, .iload_n 3, 1042, .null, 3, 0),
  (1042, .iconst 4, 1043, .int (4), 0, 0),
  (1043, .iadd, 1044, .null, 0, 0),
  (1044, .iaload, 1045, .null, 0, 0),
  (1045, .invokevirtual 126, 1048, .ref 5, 154, 5),
  (1048, .lcmp, 1049, .null, 0, 0),
  (1049, .ifCond .eq 458, 1052, .null, 1507, 0),
  (1052, .iconst 0, 1053, .int (0), 0, 0),
  (1053, .ireturn, 1054, .null, 0, 0),
  (1054, .aload_n 1, 1055, .null, 1, 0),
  (1055, .aload_n 0, 1056, .null, 0, 0),
  (1056, .iload_n 3, 1057, .null, 3, 0),
  (1057, .iconst 1, 1058, .int (1), 0, 0),
  (1058, .iadd, 1059, .null, 0, 0),
  (1059, .iaload, 1060, .null, 0, 0)]
def tbL_law_7 : pm_Tb := [(1060, .aload_n 0, 1061, .null, 0, 0),
  (1061, .iload_n 3, 1062, .null, 3, 0),
  (1062, .iconst 2, 1063, .int (2), 0, 0),
  (1063, .iadd, 1064, .null, 0, 0),
  (1064, .iaload, 1065, .null, 0, 0),
  (1065, .aload_n 0, 1066, .null, 0, 0),
  (1066, .iload_n 3, 1067, .null, 3, 0),
  (1067, .iconst 3, 1068, .int (3), 0, 0),
  (1068, .iadd, 1069, .null, 0, 0),
  (1069, .iaload, 1070, .null, 0, 0),
  (1070, .invokevirtual 127, 1073, .ref 4, 74, 4),
  (1073, .aload_n 2, 1074, .null, 2, 0),
  (1074, .aload_n 0, 1075, .null, 0, 0),
  (1075, .iload_n 3, 1076, .null, 3, 0),
  (1076, .iconst 1, 1077, .int (1), 0, 0),
  (1077, .iadd, 1078, .null, 0, 0),
  (1078, .iaload, 1079, .null, 0, 0),
  (1079, .aload_n 0, 1080, .null, 0, 0),
  (1080, .iload_n 3, 1081, .null, 3, 0),
  (1081, .iconst 2, 1082, .int (2), 0, 0),
  (1082, .iadd, 1083, .null, 0, 0),
  (1083, .iaload, 1084, .null, 0, 0),
  (1084, .aload_n 0, 1085, .null, 0, 0),
  (1085, .iload_n 3, 1086, .null, 3, 0),
  (1086, .iconst 3, 1087, .int (3), 0, 0),
  (1087, .iadd, 1088, .null, 0, 0),
  (1088, .iaload, 1089, .null, 0, 0),
  (1089, .invokevirtual 131, 1092, .ref 4, 155, 5),
  (1092, .lcmp, 1093, .null, 0, 0),
  (1093, .ifCond .eq 414, 1096, .null, 1507, 0),
  (1096, .iconst 0, 1097, .int (0), 0, 0),
  (1097, .ireturn, 1098, .null, 0, 0),
  (1098, .aload_n 1, 1099, .null, 1, 0),
  (1099, .aload_n 0, 1100, .null, 0, 0),
  (1100, .iload_n 3, 1101, .null, 3, 0),
  (1101, .iconst 1, 1102, .int (1), 0, 0),
  (1102, .iadd, 1103, .null, 0, 0),
  (1103, .iaload, 1104, .null, 0, 0),
  (1104, .aload_n 0, 1105, .null, 0, 0),
  (1105, .iload_n 3, 1106, .null, 3, 0),
  (1106, .iconst 2, 1107, .int (2), 0, 0),
  (1107, .iadd, 1108, .null, 0, 0),
  (1108, .iaload, 1109, .null, 0, 0),
  (1109, .aload_n 0, 1110, .null, 0, 0),
  (1110, .iload_n 3, 1111, .null, 3, 0),
  (1111, .iconst 3, 1112, .int (3), 0, 0),
  (1112, .iadd, 1113, .null, 0, 0),
  (1113, .iaload, 1114, .null, 0, 0),
  (1114, .invokevirtual 132, 1117, .ref 4, 80, 4),
  (1117, .aload_n 2, 1118, .null, 2, 0),
  (1118, .aload_n 0, 1119, .null, 0, 0),
  (1119, .iload_n 3, 1120, .null, 3, 0),
  (1120, .iconst 1, 1121, .int (1), 0, 0),
  (1121, .iadd, 1122, .null, 0, 0),
  (1122, .iaload, 1123, .null, 0, 0),
  (1123, .aload_n 0, 1124, .null, 0, 0),
  (1124, .iload_n 3, 1125, .null, 3, 0),
  (1125, .iconst 2, 1126, .int (2), 0, 0),
  (1126, .iadd, 1127, .null, 0, 0),
  (1127, .iaload, 1128, .null, 0, 0),
  (1128, .aload_n 0, 1129, .null, 0, 0),
  (1129, .iload_n 3, 1130, .null, 3, 0),
  (1130, .iconst 3, 1131, .int (3), 0, 0),
  (1131, .iadd, 1132, .null, 0, 0),
  (1132, .iaload, 1133, .null, 0, 0),
  (1133, .invokevirtual 135, 1136, .ref 4, 156, 5),
  (1136, .if_icmp .eq 371, 1139, .null, 1507, 0),
  (1139, .iconst 0, 1140, .int (0), 0, 0),
  (1140, .ireturn, 1141, .null, 0, 0),
  (1141, .aload_n 1, 1142, .null, 1, 0),
  (1142, .aload_n 0, 1143, .null, 0, 0),
  (1143, .iload_n 3, 1144, .null, 3, 0),
  (1144, .iconst 1, 1145, .int (1), 0, 0),
  (1145, .iadd, 1146, .null, 0, 0),
  (1146, .iaload, 1147, .null, 0, 0),
  (1147, .invokevirtual 136, 1150, .ref 2, 81, 4),
  (1150, .aload_n 2, 1151, .null, 2, 0),
  (1151, .aload_n 0, 1152, .null, 0, 0),
  (1152, .iload_n 3, 1153, .null, 3, 0),
  (1153, .iconst 1, 1154, .int (1), 0, 0),
  (1154, .iadd, 1155, .null, 0, 0),
  (1155, .iaload, 1156, .null, 0, 0),
  (1156, .invokevirtual 139, 1159, .ref 2, 157, 5),
  (1159, .if_icmp .eq 348, 1162, .null, 1507, 0),
  (1162, .iconst 0, 1163, .int (0), 0, 0),
  (1163, .ireturn, 1164, .null, 0, 0),
  (1164, .aload_n 1, 1165, .null, 1, 0),
  (1165, .aload_n 0, 1166, .null, 0, 0),
  (1166, .iload_n 3, 1167, .null, 3, 0),
  (1167, .iconst 1, 1168, .int (1), 0, 0),
  (1168, .iadd, 1169, .null, 0, 0),
  (1169, .iaload, 1170, .null, 0, 0),
  (1170, .invokevirtual 140, 1173, .ref 2, 82, 4),
  (1173, .aload_n 2, 1174, .null, 2, 0),
  (1174, .aload_n 0, 1175, .null, 0, 0),
  (1175, .iload_n 3, 1176, .null, 3, 0),
  (1176, .iconst 1, 1177, .int (1), 0, 0),
  (1177, .iadd, 1178, .null, 0, 0),
  (1178, .iaload, 1179, .null, 0, 0),
  (1179, .invokevirtual 143, 1182, .ref 2, 160, 5)]
def tbL_law_8 : pm_Tb := [(1182, .if_icmp .eq 325, 1185, .null, 1507, 0),
  (1185, .iconst 0, 1186, .int (0), 0, 0),
  (1186, .ireturn, 1187, .null, 0, 0),
  (1187, .aload_n 1, 1188, .null, 1, 0),
  (1188, .aload_n 0, 1189, .null, 0, 0),
  (1189, .iload_n 3, 1190, .null, 3, 0),
  (1190, .iconst 1, 1191, .int (1), 0, 0),
  (1191, .iadd, 1192, .null, 0, 0),
  (1192, .iaload, 1193, .null, 0, 0),
  (1193, .invokevirtual 144, 1196, .ref 2, 83, 4),
  (1196, .aload_n 2, 1197, .null, 2, 0),
  (1197, .aload_n 0, 1198, .null, 0, 0),
  (1198, .iload_n 3, 1199, .null, 3, 0),
  (1199, .iconst 1, 1200, .int (1), 0, 0),
  (1200, .iadd, 1201, .null, 0, 0),
  (1201, .iaload, 1202, .null, 0, 0),
  (1202, .invokevirtual 147, 1205, .ref 2, 161, 5),
  (1205, .if_icmp .eq 302, 1208, .null, 1507, 0),
  (1208, .iconst 0, 1209, .int (0), 0, 0),
  (1209, .ireturn, 1210, .null, 0, 0),
  (1210, .aload_n 1, 1211, .null, 1, 0),
  (1211, .aload_n 0, 1212, .null, 0, 0),
  (1212, .iload_n 3, 1213, .null, 3, 0),
  (1213, .iconst 1, 1214, .int (1), 0, 0),
  (1214, .iadd, 1215, .null, 0, 0),
  (1215, .iaload, 1216, .null, 0, 0),
  (1216, .aload_n 0, 1217, .null, 0, 0),
  (1217, .iload_n 3, 1218, .null, 3, 0),
  (1218, .iconst 2, 1219, .int (2), 0, 0),
  (1219, .iadd, 1220, .null, 0, 0),
  (1220, .iaload, 1221, .null, 0, 0),
  (1221, .invokevirtual 148, 1224, .ref 3, 84, 4),
  (1224, .aload_n 2, 1225, .null, 2, 0),
  (1225, .aload_n 0, 1226, .null, 0, 0),
  (1226, .iload_n 3, 1227, .null, 3, 0),
  (1227, .iconst 1, 1228, .int (1), 0, 0),
  (1228, .iadd, 1229, .null, 0, 0),
  (1229, .iaload, 1230, .null, 0, 0),
  (1230, .aload_n 0, 1231, .null, 0, 0),
  (1231, .iload_n 3, 1232, .null, 3, 0),
  (1232, .iconst 2, 1233, .int (2), 0, 0),
  (1233, .iadd, 1234, .null, 0, 0),
  (1234, .iaload, 1235, .null, 0, 0),
  (1235, .invokevirtual 151, 1238, .ref 3, 163, 5),
  (1238, .if_icmp .eq 269, 1241, .null, 1507, 0),
  (1241, .iconst 0, 1242, .int (0), 0, 0),
  (1242, .ireturn, 1243, .null, 0, 0),
  (1243, .aload_n 1, 1244, .null, 1, 0),
  (1244, .aload_n 0, 1245, .null, 0, 0),
  (1245, .iload_n 3, 1246, .null, 3, 0),
  (1246, .iconst 1, 1247, .int (1), 0, 0),
  (1247, .iadd, 1248, .null, 0, 0),
  (1248, .iaload, 1249, .null, 0, 0),
  (1249, .aload_n 0, 1250, .null, 0, 0),
  (1250, .iload_n 3, 1251, .null, 3, 0),
  (1251, .iconst 2, 1252, .int (2), 0, 0),
  (1252, .iadd, 1253, .null, 0, 0),
  (1253, .iaload, 1254, .null, 0, 0),
  (1254, .aload_n 0, 1255, .null, 0, 0),
  (1255, .iload_n 3, 1256, .null, 3, 0),
  (1256, .iconst 3, 1257, .int (3), 0, 0),
  (1257, .iadd, 1258, .null, 0, 0),
  (1258, .iaload, 1259, .null, 0, 0),
  (1259, .invokevirtual 152, 1262, .ref 4, 88, 4),
  (1262, .aload_n 2, 1263, .null, 2, 0),
  (1263, .aload_n 0, 1264, .null, 0, 0),
  (1264, .iload_n 3, 1265, .null, 3, 0),
  (1265, .iconst 1, 1266, .int (1), 0, 0),
  (1266, .iadd, 1267, .null, 0, 0),
  (1267, .iaload, 1268, .null, 0, 0),
  (1268, .aload_n 0, 1269, .null, 0, 0),
  (1269, .iload_n 3, 1270, .null, 3, 0),
  (1270, .iconst 2, 1271, .int (2), 0, 0),
  (1271, .iadd, 1272, .null, 0, 0),
  (1272, .iaload, 1273, .null, 0, 0),
  (1273, .aload_n 0, 1274, .null, 0, 0),
  (1274, .iload_n 3, 1275, .null, 3, 0),
  (1275, .iconst 3, 1276, .int (3), 0, 0),
  (1276, .iadd, 1277, .null, 0, 0),
  (1277, .iaload, 1278, .null, 0, 0),
  (1278, .invokevirtual 155, 1281, .ref 4, 164, 5),
  (1281, .if_icmp .eq 226, 1284, .null, 1507, 0),
  (1284, .iconst 0, 1285, .int (0), 0, 0),
  (1285, .ireturn, 1286, .null, 0, 0),
  (1286, .aload_n 1, 1287, .null, 1, 0),
  (1287, .aload_n 0, 1288, .null, 0, 0),
  (1288, .iload_n 3, 1289, .null, 3, 0),
  (1289, .iconst 1, 1290, .int (1), 0, 0),
  (1290, .iadd, 1291, .null, 0, 0),
  (1291, .iaload, 1292, .null, 0, 0),
  (1292, .invokevirtual 156, 1295, .ref 2, 89, 4),
  (1295, .aload_n 2, 1296, .null, 2, 0),
  (1296, .aload_n 0, 1297, .null, 0, 0),
  (1297, .iload_n 3, 1298, .null, 3, 0),
  (1298, .iconst 1, 1299, .int (1), 0, 0),
  (1299, .iadd, 1300, .null, 0, 0),
  (1300, .iaload, 1301, .null, 0, 0),
  (1301, .invokevirtual 159, 1304, .ref 2, 165, 5),
  (1304, .if_icmp .eq 203, 1307, .null, 1507, 0),
  (1307, .iconst 0, 1308, .int (0), 0, 0)]
def tbL_law_9 : pm_Tb := [(1308, .ireturn, 1309, .null, 0, 0),
  (1309, .aload_n 1, 1310, .null, 1, 0),
  (1310, .aload_n 0, 1311, .null, 0, 0),
  (1311, .iload_n 3, 1312, .null, 3, 0),
  (1312, .iconst 1, 1313, .int (1), 0, 0),
  (1313, .iadd, 1314, .null, 0, 0),
  (1314, .iaload, 1315, .null, 0, 0),
  (1315, .invokevirtual 160, 1318, .ref 2, 90, 4),
  (1318, .aload_n 2, 1319, .null, 2, 0),
  (1319, .aload_n 0, 1320, .null, 0, 0),
  (1320, .iload_n 3, 1321, .null, 3, 0),
  (1321, .iconst 1, 1322, .int (1), 0, 0),
  (1322, .iadd, 1323, .null, 0, 0),
  (1323, .iaload, 1324, .null, 0, 0),
  (1324, .invokevirtual 163, 1327, .ref 2, 166, 5),
  (1327, .if_icmp .eq 180, 1330, .null, 1507, 0),
  (1330, .iconst 0, 1331, .int (0), 0, 0),
  (1331, .ireturn, 1332, .null, 0, 0),
  (1332, .aload_n 1, 1333, .null, 1, 0),
  (1333, .aload_n 0, 1334, .null, 0, 0),
  (1334, .iload_n 3, 1335, .null, 3, 0),
  (1335, .iconst 1, 1336, .int (1), 0, 0),
  (1336, .iadd, 1337, .null, 0, 0),
  (1337, .iaload, 1338, .null, 0, 0),
  (1338, .aload_n 0, 1339, .null, 0, 0),
  (1339, .iload_n 3, 1340, .null, 3, 0),
  (1340, .iconst 2, 1341, .int (2), 0, 0),
  (1341, .iadd, 1342, .null, 0, 0),
  (1342, .iaload, 1343, .null, 0, 0),
  (1343, .aload_n 0, 1344, .null, 0, 0),
  (1344, .iload_n 3, 1345, .null, 3, 0),
  (1345, .iconst 3, 1346, .int (3), 0, 0),
  (1346, .iadd, 1347, .null, 0, 0),
  (1347, .iaload, 1348, .null, 0, 0),
  (1348, .invokevirtual 164, 1351, .ref 4, 92, 4),
  (1351, .aload_n 2, 1352, .null, 2, 0),
  (1352, .aload_n 0, 1353, .null, 0, 0),
  (1353, .iload_n 3, 1354, .null, 3, 0),
  (1354, .iconst 1, 1355, .int (1), 0, 0),
  (1355, .iadd, 1356, .null, 0, 0),
  (1356, .iaload, 1357, .null, 0, 0),
  (1357, .aload_n 0, 1358, .null, 0, 0),
  (1358, .iload_n 3, 1359, .null, 3, 0),
  (1359, .iconst 2, 1360, .int (2), 0, 0),
  (1360, .iadd, 1361, .null, 0, 0),
  (1361, .iaload, 1362, .null, 0, 0),
  (1362, .aload_n 0, 1363, .null, 0, 0),
  (1363, .iload_n 3, 1364, .null, 3, 0),
  (1364, .iconst 3, 1365, .int (3), 0, 0),
  (1365, .iadd, 1366, .null, 0, 0),
  (1366, .iaload, 1367, .null, 0, 0),
  (1367, .invokevirtual 167, 1370, .ref 4, 167, 5),
  (1370, .if_icmp .eq 137, 1373, .null, 1507, 0),
  (1373, .iconst 0, 1374, .int (0), 0, 0),
  (1374, .ireturn, 1375, .null, 0, 0),
  (1375, .aload_n 1, 1376, .null, 1, 0),
  (1376, .aload_n 0, 1377, .null, 0, 0),
  (1377, .iload_n 3, 1378, .null, 3, 0),
  (1378, .iconst 1, 1379, .int (1), 0, 0),
  (1379, .iadd, 1380, .null, 0, 0),
  (1380, .iaload, 1381, .null, 0, 0),
  (1381, .aload_n 0, 1382, .null, 0, 0),
  (1382, .iload_n 3, 1383, .null, 3, 0),
  (1383, .iconst 2, 1384, .int (2), 0, 0),
  (1384, .iadd, 1385, .null, 0, 0),
  (1385, .iaload, 1386, .null, 0, 0),
  (1386, .aload_n 0, 1387, .null, 0, 0),
  (1387, .iload_n 3, 1388, .null, 3, 0),
  (1388, .iconst 3, 1389, .int (3), 0, 0),
  (1389, .iadd, 1390, .null, 0, 0),
  (1390, .iaload, 1391, .null, 0, 0),
  (1391, .invokevirtual 168, 1394, .ref 4, 93, 4),
  (1394, .aload_n 2, 1395, .null, 2, 0),
  (1395, .aload_n 0, 1396, .null, 0, 0),
  (1396, .iload_n 3, 1397, .null, 3, 0),
  (1397, .iconst 1, 1398, .int (1), 0, 0),
  (1398, .iadd, 1399, .null, 0, 0),
  (1399, .iaload, 1400, .null, 0, 0),
  (1400, .aload_n 0, 1401, .null, 0, 0),
  (1401, .iload_n 3, 1402, .null, 3, 0),
  (1402, .iconst 2, 1403, .int (2), 0, 0),
  (1403, .iadd, 1404, .null, 0, 0),
  (1404, .iaload, 1405, .null, 0, 0),
  (1405, .aload_n 0, 1406, .null, 0, 0),
  (1406, .iload_n 3, 1407, .null, 3, 0),
  (1407, .iconst 3, 1408, .int (3), 0, 0),
  (1408, .iadd, 1409, .null, 0, 0),
  (1409, .iaload, 1410, .null, 0, 0),
  (1410, .invokevirtual 171, 1413, .ref 4, 168, 5),
  (1413, .if_icmp .eq 94, 1416, .null, 1507, 0),
  (1416, .iconst 0, 1417, .int (0), 0, 0),
  (1417, .ireturn, 1418, .null, 0, 0),
  (1418, .aload_n 1, 1419, .null, 1, 0),
  (1419, .aload_n 0, 1420, .null, 0, 0),
  (1420, .iload_n 3, 1421, .null, 3, 0),
  (1421, .iconst 1, 1422, .int (1), 0, 0),
  (1422, .iadd, 1423, .null, 0, 0),
  (1423, .iaload, 1424, .null, 0, 0),
  (1424, .aload_n 0, 1425, .null, 0, 0),
  (1425, .iload_n 3, 1426, .null, 3, 0)]
def tbL_law_10 : pm_Tb := [(1426, .iconst 2, 1427, .int (2), 0, 0),
  (1427, .iadd, 1428, .null, 0, 0),
  (1428, .iaload, 1429, .null, 0, 0),
  (1429, .aload_n 0, 1430, .null, 0, 0),
  (1430, .iload_n 3, 1431, .null, 3, 0),
  (1431, .iconst 3, 1432, .int (3), 0, 0),
  (1432, .iadd, 1433, .null, 0, 0),
  (1433, .iaload, 1434, .null, 0, 0),
  (1434, .aload_n 0, 1435, .null, 0, 0),
  (1435, .iload_n 3, 1436, .null, 3, 0),
  (1436, .iconst 4, 1437, .int (4), 0, 0),
  (1437, .iadd, 1438, .null, 0, 0),
  (1438, .iaload, 1439, .null, 0, 0),
  (1439, .invokevirtual 172, 1442, .ref 5, 94, 4),
  (1442, .aload_n 2, 1443, .null, 2, 0),
  (1443, .aload_n 0, 1444, .null, 0, 0),
  (1444, .iload_n 3, 1445, .null, 3, 0),
  (1445, .iconst 1, 1446, .int (1), 0, 0),
  (1446, .iadd, 1447, .null, 0, 0),
  (1447, .iaload, 1448, .null, 0, 0),
  (1448, .aload_n 0, 1449, .null, 0, 0),
  (1449, .iload_n 3, 1450, .null, 3, 0),
  (1450, .iconst 2, 1451, .int (2), 0, 0),
  (1451, .iadd, 1452, .null, 0, 0),
  (1452, .iaload, 1453, .null, 0, 0),
  (1453, .aload_n 0, 1454, .null, 0, 0),
  (1454, .iload_n 3, 1455, .null, 3, 0),
  (1455, .iconst 3, 1456, .int (3), 0, 0),
  (1456, .iadd, 1457, .null, 0, 0),
  (1457, .iaload, 1458, .null, 0, 0),
  (1458, .aload_n 0, 1459, .null, 0, 0),
  (1459, .iload_n 3, 1460, .null, 3, 0),
  (1460, .iconst 4, 1461, .int (4), 0, 0),
  (1461, .iadd, 1462, .null, 0, 0),
  (1462, .iaload, 1463, .null, 0, 0),
  (1463, .invokevirtual 175, 1466, .ref 5, 169, 5),
  (1466, .if_icmp .eq 41, 1469, .null, 1507, 0),
  (1469, .iconst 0, 1470, .int (0), 0, 0),
  (1470, .ireturn, 1471, .null, 0, 0),
  (1471, .aload_n 1, 1472, .null, 1, 0),
  (1472, .invokevirtual 176, 1475, .ref 1, 95, 4),
  (1475, .aload_n 2, 1476, .null, 2, 0),
  (1476, .invokevirtual 179, 1479, .ref 1, 170, 5),
  (1479, .if_icmp .eq 28, 1482, .null, 1507, 0),
  (1482, .iconst 0, 1483, .int (0), 0, 0),
  (1483, .ireturn, 1484, .null, 0, 0),
  (1484, .aload_n 1, 1485, .null, 1, 0),
  (1485, .aload_n 0, 1486, .null, 0, 0),
  (1486, .iload_n 3, 1487, .null, 3, 0),
  (1487, .iconst 1, 1488, .int (1), 0, 0),
  (1488, .iadd, 1489, .null, 0, 0),
  (1489, .iaload, 1490, .null, 0, 0),
  (1490, .invokevirtual 180, 1493, .ref 2, 96, 4),
  (1493, .aload_n 2, 1494, .null, 2, 0),
  (1494, .aload_n 0, 1495, .null, 0, 0),
  (1495, .iload_n 3, 1496, .null, 3, 0),
  (1496, .iconst 1, 1497, .int (1), 0, 0),
  (1497, .iadd, 1498, .null, 0, 0),
  (1498, .iaload, 1499, .null, 0, 0),
  (1499, .invokevirtual 183, 1502, .ref 2, 171, 5),
  (1502, .if_icmp .eq 5, 1505, .null, 1507, 0),
  (1505, .iconst 0, 1506, .int (0), 0, 0),
  (1506, .ireturn, 1507, .null, 0, 0),
  (1507, .iinc 3 5, 1510, .int (5), 3, 0),
  (1510, .goto (-1492), 1513, .null, 18, 0),
  (1513, .iconst 1, 1514, .int (1), 0, 0),
  (1514, .ireturn, 1515, .null, 0, 0)]
def tbL_law : pm_Tb := tbL_law_0 ++ (tbL_law_1 ++ (tbL_law_2 ++ (tbL_law_3 ++ (tbL_law_4 ++ (tbL_law_5 ++ (tbL_law_6 ++ (tbL_law_7 ++ (tbL_law_8 ++ (tbL_law_9 ++ (tbL_law_10))))))))))
end
section
/-- name, bytes, locals, answer, static, class, arguments, table -/
abbrev pm_MI : Type := MethodName × ByteArray × Nat × Option FieldType × Bool × Nat × Nat × pm_Tb
def miX3_wordRead : pm_MI := (yX3_wordRead, cX3_wordRead, 2, (some .int), false, 3, 1, [])
def miX0_clear : pm_MI := (yX0_clear, cX0_clear, 1, none, false, 0, 1, tbX0_clear)
def miX0_becomeLike : pm_MI := (yX0_becomeLike, cX0_becomeLike, 3, none, false, 0, 2, tbX0_becomeLike)
def miX0_has : pm_MI := (yX0_has, cX0_has, 2, (some .boolean), false, 0, 2, tbX0_has)
def miX0_rowOf : pm_MI := (yX0_rowOf, cX0_rowOf, 2, (some (.array .int)), false, 0, 2, tbX0_rowOf)
def miX0_sumOf : pm_MI := (yX0_sumOf, cX0_sumOf, 5, (some .int), false, 0, 2, tbX0_sumOf)
def miX0_lastPlace : pm_MI := (yX0_lastPlace, cX0_lastPlace, 1, (some .int), false, 0, 1, tbX0_lastPlace)
def miX0_stillBits : pm_MI := (yX0_stillBits, cX0_stillBits, 3, (some .int), false, 0, 1, tbX0_stillBits)
def miX0_addBead : pm_MI := (yX0_addBead, cX0_addBead, 6, (some .boolean), false, 0, 5, tbX0_addBead)
def miX0_addKnock : pm_MI := (yX0_addKnock, cX0_addKnock, 3, (some .boolean), false, 0, 3, tbX0_addKnock)
def miX0_changePlaces : pm_MI := (yX0_changePlaces, cX0_changePlaces, 5, none, false, 0, 3, tbX0_changePlaces)
def miX0_stretchOf : pm_MI := (yX0_stretchOf, cX0_stretchOf, 3, (some .int), false, 0, 2, tbX0_stretchOf)
def miX0_pullOf : pm_MI := (yX0_pullOf, cX0_pullOf, 4, (some .int), false, 0, 2, tbX0_pullOf)
def miX0_knockOnce : pm_MI := (yX0_knockOnce, cX0_knockOnce, 3, none, false, 0, 3, tbX0_knockOnce)
def miX0_knockByPlan : pm_MI := (yX0_knockByPlan, cX0_knockByPlan, 2, none, false, 0, 1, tbX0_knockByPlan)
def miX0_tickOnce : pm_MI := (yX0_tickOnce, cX0_tickOnce, 1, none, false, 0, 1, tbX0_tickOnce)
def miX0_tickOften : pm_MI := (yX0_tickOften, cX0_tickOften, 3, none, false, 0, 2, tbX0_tickOften)
def miX0_move : pm_MI := (yX0_move, cX0_move, 4, none, false, 0, 1, tbX0_move)
def miX0_goOn : pm_MI := (yX0_goOn, cX0_goOn, 6, none, false, 0, 3, tbX0_goOn)
def miX0_slowed : pm_MI := (yX0_slowed, cX0_slowed, 2, (some .int), false, 0, 2, tbX0_slowed)
def miX0_inBounds : pm_MI := (yX0_inBounds, cX0_inBounds, 1, (some .int), true, 0, 1, tbX0_inBounds)
def miX0_greatestSwing : pm_MI := (yX0_greatestSwing, cX0_greatestSwing, 6, (some .int), false, 0, 3, tbX0_greatestSwing)
def miX1_note : pm_MI := (yX1_note, cX1_note, 4, (some .boolean), false, 1, 4, tbX1_note)
def miX1_isSoOf : pm_MI := (yX1_isSoOf, cX1_isSoOf, 4, (some .boolean), false, 1, 2, tbX1_isSoOf)
def miX1_latestTick : pm_MI := (yX1_latestTick, cX1_latestTick, 3, (some .int), false, 1, 1, tbX1_latestTick)
def miX1_agrees : pm_MI := (yX1_agrees, cX1_agrees, 4, (some .boolean), false, 1, 3, tbX1_agrees)
def miX2_isNothing : pm_MI := (yX2_isNothing, cX2_isNothing, 2, (some .boolean), false, 2, 2, tbX2_isNothing)
def miX2_make : pm_MI := (yX2_make, cX2_make, 5, none, false, 2, 4, tbX2_make)
def miX2_put : pm_MI := (yX2_put, cX2_put, 4, none, false, 2, 4, tbX2_put)
def miX2_faultAt : pm_MI := (yX2_faultAt, cX2_faultAt, 3, (some .int), false, 2, 3, tbX2_faultAt)
def miX2_faultAs : pm_MI := (yX2_faultAs, cX2_faultAs, 3, (some .int), false, 2, 3, tbX2_faultAs)
def miX2_faultOfPair : pm_MI := (yX2_faultOfPair, cX2_faultOfPair, 6, (some .int), false, 2, 5, tbX2_faultOfPair)
def miX3_put : pm_MI := (yX3_put, cX3_put, 2, (some .boolean), false, 3, 2, tbX3_put)
def miX3_tellInto : pm_MI := (yX3_tellInto, cX3_tellInto, 4, (some .int), false, 3, 2, tbX3_tellInto)
def miX3_blame : pm_MI := (yX3_blame, cX3_blame, 2, none, false, 3, 2, tbX3_blame)
def miX3_takeLine : pm_MI := (yX3_takeLine, cX3_takeLine, 3, none, false, 3, 2, tbX3_takeLine)
def miX3_takeBead : pm_MI := (yX3_takeBead, cX3_takeBead, 6, none, false, 3, 3, tbX3_takeBead)
def miX3_takeDrag : pm_MI := (yX3_takeDrag, cX3_takeDrag, 3, none, false, 3, 2, tbX3_takeDrag)
def miX3_takeKnock : pm_MI := (yX3_takeKnock, cX3_takeKnock, 5, none, false, 3, 3, tbX3_takeKnock)
def miX3_takeNumber : pm_MI := (yX3_takeNumber, cX3_takeNumber, 4, (some .int), false, 3, 3, tbX3_takeNumber)
def miX3_takeSemicolon : pm_MI := (yX3_takeSemicolon, cX3_takeSemicolon, 1, none, false, 3, 1, tbX3_takeSemicolon)
def miX3_readToken : pm_MI := (yX3_readToken, cX3_readToken, 3, none, false, 3, 1, tbX3_readToken)
def miX3_runOf : pm_MI := (yX3_runOf, cX3_runOf, 4, (some .int), false, 3, 3, tbX3_runOf)
def miX3_numberRead : pm_MI := (yX3_numberRead, cX3_numberRead, 3, (some .int), false, 3, 1, tbX3_numberRead)
def miX4_feed : pm_MI := (yX4_feed, cX4_feed, 2, (some .int), false, 4, 2, tbX4_feed)
def miX4_end : pm_MI := (yX4_end, cX4_end, 3, (some .int), false, 4, 2, tbX4_end)
def miX4_text : pm_MI := (yX4_text, cX4_text, 2, (some .int), false, 4, 1, tbX4_text)
def miX4_fault : pm_MI := (yX4_fault, cX4_fault, 1, (some .int), false, 4, 1, tbX4_fault)
def miX4_rule : pm_MI := (yX4_rule, cX4_rule, 2, (some .int), false, 4, 2, tbX4_rule)
def miX4_bead : pm_MI := (yX4_bead, cX4_bead, 3, (some .int), false, 4, 3, tbX4_bead)
def miX4_knock : pm_MI := (yX4_knock, cX4_knock, 3, (some .int), false, 4, 3, tbX4_knock)
def miX4_alter : pm_MI := (yX4_alter, cX4_alter, 6, (some .int), false, 4, 4, tbX4_alter)
def miX4_drag : pm_MI := (yX4_drag, cX4_drag, 3, (some .int), false, 4, 2, tbX4_drag)
def miX4_bind : pm_MI := (yX4_bind, cX4_bind, 5, (some .int), false, 4, 5, tbX4_bind)
def miX4_cut : pm_MI := (yX4_cut, cX4_cut, 3, (some .int), false, 4, 2, tbX4_cut)
def miX4_hit : pm_MI := (yX4_hit, cX4_hit, 3, (some .int), false, 4, 3, tbX4_hit)
def miX4_add : pm_MI := (yX4_add, cX4_add, 3, (some .int), false, 4, 3, tbX4_add)
def miX4_drop : pm_MI := (yX4_drop, cX4_drop, 3, (some .int), false, 4, 2, tbX4_drop)
def miX4_calm : pm_MI := (yX4_calm, cX4_calm, 3, (some .int), false, 4, 1, tbX4_calm)
def miX4_ticks : pm_MI := (yX4_ticks, cX4_ticks, 2, (some .int), false, 4, 2, tbX4_ticks)
def miX4_runs : pm_MI := (yX4_runs, cX4_runs, 4, (some .int), false, 4, 3, tbX4_runs)
def miX4_ahead : pm_MI := (yX4_ahead, cX4_ahead, 4, (some .int), false, 4, 4, tbX4_ahead)
def miX4_when : pm_MI := (yX4_when, cX4_when, 6, (some .int), false, 4, 3, tbX4_when)
def miX4_rests : pm_MI := (yX4_rests, cX4_rests, 2, (some .int), false, 4, 1, tbX4_rests)
def miX4_stiff : pm_MI := (yX4_stiff, cX4_stiff, 4, (some .int), false, 4, 4, tbX4_stiff)
def miX4_rest : pm_MI := (yX4_rest, cX4_rest, 4, (some .int), false, 4, 4, tbX4_rest)
def miX4_kind : pm_MI := (yX4_kind, cX4_kind, 4, (some .int), false, 4, 4, tbX4_kind)
def miX4_mass : pm_MI := (yX4_mass, cX4_mass, 4, (some .int), false, 4, 4, tbX4_mass)
def miX4_swap : pm_MI := (yX4_swap, cX4_swap, 8, (some .int), false, 4, 3, tbX4_swap)
def miX4_miss : pm_MI := (yX4_miss, cX4_miss, 7, (some .int), false, 4, 3, tbX4_miss)
def miX4_swingAsItIs : pm_MI := (yX4_swingAsItIs, cX4_swingAsItIs, 2, (some .int), false, 4, 2, tbX4_swingAsItIs)
def miX4_steadiest : pm_MI := (yX4_steadiest, cX4_steadiest, 9, (some .int), false, 4, 5, tbX4_steadiest)
def miX4_tryWith : pm_MI := (yX4_tryWith, cX4_tryWith, 4, none, false, 4, 4, tbX4_tryWith)
def miX4_luck : pm_MI := (yX4_luck, cX4_luck, 8, (some .long), false, 4, 5, tbX4_luck)
def miX4_mean : pm_MI := (yX4_mean, cX4_mean, 7, (some .long), false, 4, 4, tbX4_mean)
def miX4_runMissing : pm_MI := (yX4_runMissing, cX4_runMissing, 4, none, false, 4, 3, tbX4_runMissing)
def miX4_weightOf : pm_MI := (yX4_weightOf, cX4_weightOf, 4, (some .long), true, 4, 3, tbX4_weightOf)
def miX4_power : pm_MI := (yX4_power, cX4_power, 5, (some .long), true, 4, 2, tbX4_power)
def miX4_partOfFraction : pm_MI := (yX4_partOfFraction, cX4_partOfFraction, 7, (some .long), true, 4, 3, tbX4_partOfFraction)
def miX4_commonDivisor : pm_MI := (yX4_commonDivisor, cX4_commonDivisor, 11, (some .long), true, 4, 2, tbX4_commonDivisor)
def miX4_see : pm_MI := (yX4_see, cX4_see, 4, (some .int), false, 4, 4, tbX4_see)
def miX4_forget : pm_MI := (yX4_forget, cX4_forget, 3, (some .int), false, 4, 2, tbX4_forget)
def miX4_kinds : pm_MI := (yX4_kinds, cX4_kinds, 2, (some .int), false, 4, 2, tbX4_kinds)
def miX4_stiffs : pm_MI := (yX4_stiffs, cX4_stiffs, 2, (some .int), false, 4, 2, tbX4_stiffs)
def miX4_ask : pm_MI := (yX4_ask, cX4_ask, 8, (some .int), false, 4, 3, tbX4_ask)
def miX4_asSeenBits : pm_MI := (yX4_asSeenBits, cX4_asSeenBits, 5, (some .int), false, 4, 3, tbX4_asSeenBits)
def miX4_traceStiffs : pm_MI := (yX4_traceStiffs, cX4_traceStiffs, 5, none, false, 4, 3, tbX4_traceStiffs)
def miX4_mostAlike : pm_MI := (yX4_mostAlike, cX4_mostAlike, 7, (some .int), false, 4, 3, tbX4_mostAlike)
def miX4_drift : pm_MI := (yX4_drift, cX4_drift, 9, (some .int), false, 4, 4, tbX4_drift)
def miX4_keep : pm_MI := (yX4_keep, cX4_keep, 3, (some .int), false, 4, 2, tbX4_keep)
def miX4_back : pm_MI := (yX4_back, cX4_back, 2, (some .int), false, 4, 2, tbX4_back)
def miX4_imageOf : pm_MI := (yX4_imageOf, cX4_imageOf, 2, (some (.object "SpringBeads$Chain")), false, 4, 2, tbX4_imageOf)
def miX4_sheet : pm_MI := (yX4_sheet, cX4_sheet, 4, (some .int), false, 4, 4, tbX4_sheet)
def miX4_lay : pm_MI := (yX4_lay, cX4_lay, 5, (some .int), false, 4, 4, tbX4_lay)
def miX4_read : pm_MI := (yX4_read, cX4_read, 10, (some .int), false, 4, 5, tbX4_read)
def miX4_torn : pm_MI := (yX4_torn, cX4_torn, 1, (some .int), false, 4, 1, tbX4_torn)
def miX4_count : pm_MI := (yX4_count, cX4_count, 2, (some .int), false, 4, 2, tbX4_count)
def miX4_within : pm_MI := (yX4_within, cX4_within, 3, (some .boolean), true, 4, 3, tbX4_within)
def miX5_in : pm_MI := (yX5_in, cX5_in, 6, (some .boolean), true, 5, 3, tbX5_in)
def miX5_amount : pm_MI := (yX5_amount, cX5_amount, 1, (some .int), true, 5, 1, tbX5_amount)
def miX5_feed : pm_MI := (yX5_feed, cX5_feed, 2, (some .int), false, 5, 2, tbX5_feed)
def miX5_end : pm_MI := (yX5_end, cX5_end, 3, (some .int), false, 5, 2, tbX5_end)
def miX5_byteAt : pm_MI := (yX5_byteAt, cX5_byteAt, 2, (some .int), false, 5, 2, tbX5_byteAt)
def miX5_fails : pm_MI := (yX5_fails, cX5_fails, 2, none, false, 5, 2, tbX5_fails)
def miX5_nameHere : pm_MI := (yX5_nameHere, cX5_nameHere, 4, (some .int), false, 5, 1, tbX5_nameHere)
def miX5_readsOn : pm_MI := (yX5_readsOn, cX5_readsOn, 2, none, false, 5, 1, tbX5_readsOn)
def miX5_number : pm_MI := (yX5_number, cX5_number, 4, (some .int), false, 5, 3, tbX5_number)
def miX5_readMore : pm_MI := (yX5_readMore, cX5_readMore, 4, none, false, 5, 2, tbX5_readMore)
def miX5_readLine : pm_MI := (yX5_readLine, cX5_readLine, 2, none, false, 5, 1, tbX5_readLine)
def miX5_text : pm_MI := (yX5_text, cX5_text, 3, (some .int), false, 5, 1, tbX5_text)
def miX5_fault : pm_MI := (yX5_fault, cX5_fault, 1, (some .int), false, 5, 1, tbX5_fault)
def miX5_isBead : pm_MI := (yX5_isBead, cX5_isBead, 2, (some .boolean), false, 5, 2, tbX5_isBead)
def miX5_isKnock : pm_MI := (yX5_isKnock, cX5_isKnock, 2, (some .boolean), false, 5, 2, tbX5_isKnock)
def miX5_isLong : pm_MI := (yX5_isLong, cX5_isLong, 1, (some .boolean), true, 5, 1, tbX5_isLong)
def miX5_stretchOn : pm_MI := (yX5_stretchOn, cX5_stretchOn, 3, (some .int), false, 5, 3, tbX5_stretchOn)
def miX5_pullOn : pm_MI := (yX5_pullOn, cX5_pullOn, 6, (some .int), false, 5, 3, tbX5_pullOn)
def miX5_speedOf : pm_MI := (yX5_speedOf, cX5_speedOf, 1, (some .int), true, 5, 1, tbX5_speedOf)
def miX5_knockOn : pm_MI := (yX5_knockOn, cX5_knockOn, 4, none, false, 5, 4, tbX5_knockOn)
def miX5_speedsOn : pm_MI := (yX5_speedsOn, cX5_speedsOn, 7, none, false, 5, 2, tbX5_speedsOn)
def miX5_placesOn : pm_MI := (yX5_placesOn, cX5_placesOn, 5, none, false, 5, 2, tbX5_placesOn)
def miX5_lastOn : pm_MI := (yX5_lastOn, cX5_lastOn, 2, (some .int), false, 5, 2, tbX5_lastOn)
def miX5_movesOn : pm_MI := (yX5_movesOn, cX5_movesOn, 3, none, false, 5, 2, tbX5_movesOn)
def miX5_tickOn : pm_MI := (yX5_tickOn, cX5_tickOn, 5, none, false, 5, 3, tbX5_tickOn)
def miX5_rule : pm_MI := (yX5_rule, cX5_rule, 4, (some .int), false, 5, 2, tbX5_rule)
def miX5_bead : pm_MI := (yX5_bead, cX5_bead, 3, (some .int), false, 5, 3, tbX5_bead)
def miX5_knock : pm_MI := (yX5_knock, cX5_knock, 3, (some .int), false, 5, 3, tbX5_knock)
def miX5_puts : pm_MI := (yX5_puts, cX5_puts, 5, (some .int), false, 5, 4, tbX5_puts)
def miX5_isGood : pm_MI := (yX5_isGood, cX5_isGood, 2, (some .boolean), true, 5, 2, tbX5_isGood)
def miX5_alter : pm_MI := (yX5_alter, cX5_alter, 4, (some .int), false, 5, 4, tbX5_alter)
def miX5_drag : pm_MI := (yX5_drag, cX5_drag, 2, (some .int), false, 5, 2, tbX5_drag)
def miX5_bind : pm_MI := (yX5_bind, cX5_bind, 7, (some .int), false, 5, 5, tbX5_bind)
def miX5_cut : pm_MI := (yX5_cut, cX5_cut, 2, (some .int), false, 5, 2, tbX5_cut)
def miX5_hit : pm_MI := (yX5_hit, cX5_hit, 3, (some .int), false, 5, 3, tbX5_hit)
def miX5_adds : pm_MI := (yX5_adds, cX5_adds, 4, (some .int), false, 5, 3, tbX5_adds)
def miX5_add : pm_MI := (yX5_add, cX5_add, 3, (some .int), false, 5, 3, tbX5_add)
def miX5_drop : pm_MI := (yX5_drop, cX5_drop, 2, (some .int), false, 5, 2, tbX5_drop)
def miX5_calm : pm_MI := (yX5_calm, cX5_calm, 3, (some .int), false, 5, 1, tbX5_calm)
def miX5_ticks : pm_MI := (yX5_ticks, cX5_ticks, 3, (some .int), false, 5, 2, tbX5_ticks)
def miX5_copies : pm_MI := (yX5_copies, cX5_copies, 4, none, false, 5, 3, tbX5_copies)
def miX5_ticksGo : pm_MI := (yX5_ticksGo, cX5_ticksGo, 4, (some .int), false, 5, 3, tbX5_ticksGo)
def miX5_runs : pm_MI := (yX5_runs, cX5_runs, 4, (some .int), false, 5, 3, tbX5_runs)
def miX5_ahead : pm_MI := (yX5_ahead, cX5_ahead, 4, (some .int), false, 5, 4, tbX5_ahead)
def miX5_when : pm_MI := (yX5_when, cX5_when, 6, (some .int), false, 5, 3, tbX5_when)
def miX5_rests : pm_MI := (yX5_rests, cX5_rests, 2, (some .int), false, 5, 1, tbX5_rests)
def miX5_leastAt : pm_MI := (yX5_leastAt, cX5_leastAt, 10, (some .int), false, 5, 6, tbX5_leastAt)
def miX5_isAsked : pm_MI := (yX5_isAsked, cX5_isAsked, 4, (some .boolean), false, 5, 4, tbX5_isAsked)
def miX5_stiff : pm_MI := (yX5_stiff, cX5_stiff, 4, (some .int), false, 5, 4, tbX5_stiff)
def miX5_rest : pm_MI := (yX5_rest, cX5_rest, 4, (some .int), false, 5, 4, tbX5_rest)
def miX5_kind : pm_MI := (yX5_kind, cX5_kind, 4, (some .int), false, 5, 4, tbX5_kind)
def miX5_mass : pm_MI := (yX5_mass, cX5_mass, 4, (some .int), false, 5, 4, tbX5_mass)
def miX5_swap : pm_MI := (yX5_swap, cX5_swap, 8, (some .int), false, 5, 3, tbX5_swap)
def miX5_miss : pm_MI := (yX5_miss, cX5_miss, 7, (some .int), false, 5, 3, tbX5_miss)
def miX5_lowest : pm_MI := (yX5_lowest, cX5_lowest, 11, (some .long), true, 5, 3, tbX5_lowest)
def miX5_byMisses : pm_MI := (yX5_byMisses, cX5_byMisses, 14, (some .long), false, 5, 5, tbX5_byMisses)
def miX5_luck : pm_MI := (yX5_luck, cX5_luck, 5, (some .long), false, 5, 5, tbX5_luck)
def miX5_mean : pm_MI := (yX5_mean, cX5_mean, 4, (some .long), false, 5, 4, tbX5_mean)
def miX5_see : pm_MI := (yX5_see, cX5_see, 4, (some .int), false, 5, 4, tbX5_see)
def miX5_forget : pm_MI := (yX5_forget, cX5_forget, 3, (some .int), false, 5, 2, tbX5_forget)
def miX5_isAsSeen : pm_MI := (yX5_isAsSeen, cX5_isAsSeen, 8, (some .boolean), false, 5, 3, tbX5_isAsSeen)
def miX5_numbersAt : pm_MI := (yX5_numbersAt, cX5_numbersAt, 6, (some .int), false, 5, 4, tbX5_numbersAt)
def miX5_kinds : pm_MI := (yX5_kinds, cX5_kinds, 2, (some .int), false, 5, 2, tbX5_kinds)
def miX5_stiffs : pm_MI := (yX5_stiffs, cX5_stiffs, 2, (some .int), false, 5, 2, tbX5_stiffs)
def miX5_worstAt : pm_MI := (yX5_worstAt, cX5_worstAt, 7, (some .int), false, 5, 3, tbX5_worstAt)
def miX5_ask : pm_MI := (yX5_ask, cX5_ask, 8, (some .int), false, 5, 3, tbX5_ask)
def miX5_drift : pm_MI := (yX5_drift, cX5_drift, 7, (some .int), false, 5, 4, tbX5_drift)
def miX5_keep : pm_MI := (yX5_keep, cX5_keep, 3, (some .int), false, 5, 2, tbX5_keep)
def miX5_back : pm_MI := (yX5_back, cX5_back, 2, (some .int), false, 5, 2, tbX5_back)
def miX5_sheet : pm_MI := (yX5_sheet, cX5_sheet, 5, (some .int), false, 5, 4, tbX5_sheet)
def miX5_lay : pm_MI := (yX5_lay, cX5_lay, 4, (some .int), false, 5, 4, tbX5_lay)
def miX5_read : pm_MI := (yX5_read, cX5_read, 9, (some .int), false, 5, 5, tbX5_read)
def miX5_torn : pm_MI := (yX5_torn, cX5_torn, 1, (some .int), false, 5, 1, tbX5_torn)
def miX5_count : pm_MI := (yX5_count, cX5_count, 5, (some .int), false, 5, 2, tbX5_count)
def miJ6_compare_7cf53 : pm_MI := (yJ6_compare_7cf53, cJ6_compare_7cf53, 2, (some .int), true, 7, 2, tbJ6_compare_7cf53)
def miJ6_bitCount_0f7a4 : pm_MI := (yJ6_bitCount_0f7a4, cJ6_bitCount_0f7a4, 1, (some .int), true, 7, 1, tbJ6_bitCount_0f7a4)
def pm_ms : List pm_MI := [miX3_wordRead, miX0_clear, miX0_becomeLike, miX0_has, miX0_rowOf, miX0_sumOf, miX0_lastPlace, miX0_stillBits, miX0_addBead, miX0_addKnock, miX0_changePlaces, miX0_stretchOf, miX0_pullOf, miX0_knockOnce, miX0_knockByPlan, miX0_tickOnce, miX0_tickOften, miX0_move, miX0_goOn, miX0_slowed, miX0_inBounds, miX0_greatestSwing, miX1_note, miX1_isSoOf, miX1_latestTick, miX1_agrees, miX2_isNothing, miX2_make, miX2_put, miX2_faultAt, miX2_faultAs, miX2_faultOfPair, miX3_put, miX3_tellInto, miX3_blame, miX3_takeLine, miX3_takeBead, miX3_takeDrag, miX3_takeKnock, miX3_takeNumber, miX3_takeSemicolon, miX3_readToken, miX3_runOf, miX3_numberRead, miX4_feed, miX4_end, miX4_text, miX4_fault, miX4_rule, miX4_bead, miX4_knock, miX4_alter, miX4_drag, miX4_bind, miX4_cut, miX4_hit, miX4_add, miX4_drop, miX4_calm, miX4_ticks, miX4_runs, miX4_ahead, miX4_when, miX4_rests, miX4_stiff, miX4_rest, miX4_kind, miX4_mass, miX4_swap, miX4_miss, miX4_swingAsItIs, miX4_steadiest, miX4_tryWith, miX4_luck, miX4_mean, miX4_runMissing, miX4_weightOf, miX4_power, miX4_partOfFraction, miX4_commonDivisor, miX4_see, miX4_forget, miX4_kinds, miX4_stiffs, miX4_ask, miX4_asSeenBits, miX4_traceStiffs, miX4_mostAlike, miX4_drift, miX4_keep, miX4_back, miX4_imageOf, miX4_sheet, miX4_lay, miX4_read, miX4_torn, miX4_count, miX4_within, miX5_in, miX5_amount, miX5_feed, miX5_end, miX5_byteAt, miX5_fails, miX5_nameHere, miX5_readsOn, miX5_number, miX5_readMore, miX5_readLine, miX5_text, miX5_fault, miX5_isBead, miX5_isKnock, miX5_isLong, miX5_stretchOn, miX5_pullOn, miX5_speedOf, miX5_knockOn, miX5_speedsOn, miX5_placesOn, miX5_lastOn, miX5_movesOn, miX5_tickOn, miX5_rule, miX5_bead, miX5_knock, miX5_puts, miX5_isGood, miX5_alter, miX5_drag, miX5_bind, miX5_cut, miX5_hit, miX5_adds, miX5_add, miX5_drop, miX5_calm, miX5_ticks, miX5_copies, miX5_ticksGo, miX5_runs, miX5_ahead, miX5_when, miX5_rests, miX5_leastAt, miX5_isAsked, miX5_stiff, miX5_rest, miX5_kind, miX5_mass, miX5_swap, miX5_miss, miX5_lowest, miX5_byMisses, miX5_luck, miX5_mean, miX5_see, miX5_forget, miX5_isAsSeen, miX5_numbersAt, miX5_kinds, miX5_stiffs, miX5_worstAt, miX5_ask, miX5_drift, miX5_keep, miX5_back, miX5_sheet, miX5_lay, miX5_read, miX5_torn, miX5_count, miJ6_compare_7cf53, miJ6_bitCount_0f7a4]
end
section
/-! ===== what the small machine's tables must say: by program and decided by the kernel ===== -/
def pm_len : Instr → Nat
  | .bipush _ | .ldc _ | .iload _ | .lload _ | .aload _ | .istore _ | .lstore _ | .astore _ => 2
  | .sipush _ | .ldc_w _ | .ldc2_w _ | .getstatic _ | .iinc _ _ | .goto _ | .ifCond _ _ | .if_icmp _ _ | .getfield _ | .putfield _ | .invokevirtual _ | .invokestatic _ => 3
  | .tableswitch .. | .lookupswitch .. => 0
  | _ => 1
def pm_y (q : pm_MI) : MethodName := q.1
def pm_cc (q : pm_MI) : ByteArray := q.2.1
def pm_mL (q : pm_MI) : Nat := q.2.2.1
def pm_rt (q : pm_MI) : Option FieldType := q.2.2.2.1
def pm_st (q : pm_MI) : Bool := q.2.2.2.2.1
def pm_ow (q : pm_MI) : Nat := q.2.2.2.2.2.1
def pm_na (q : pm_MI) : Nat := q.2.2.2.2.2.2.1
def pm_tb (q : pm_MI) : pm_Tb := q.2.2.2.2.2.2.2
def pm_i0 : pm_MI := miX3_wordRead
def pm_mj (j : Nat) : pm_MI := pm_ms.getD j pm_i0
/-- static?, class, arguments of each method: what a call's row needs -/
def pm_sig : List (Bool × Nat × Nat) := pm_ms.map (fun q => (pm_st q, pm_ow q, pm_na q))
def pm_isf (T : Nat × Nat) : Bool := (pm_T T.1 T.2).2.2.2
def pm_okI (o : Nat) (q : Nat × pm_Ent) : Bool := match q with
  | (pc, i, nx, au, t1, t2) => match i with
    | .iconst n => decide (au = .int (Int32.ofInt n))
    | .bipush n => decide (au = .int (Int8.ofInt n).toInt32)
    | .sipush n => decide (au = .int (Int16.ofInt n).toInt32)
    | .lconst n => decide (au = .long (Int64.ofNat n.val))
    | .ldc k => decide ((o, k, au) ∈ pm_cl) && (match au with | .int _ => true | _ => false)
    | .ldc_w k => decide ((o, k, au) ∈ pm_cl) && (match au with | .int _ => true | _ => false)
    | .ldc2_w k => decide ((o, k, au) ∈ pm_cl) && (match au with | .long _ => true | _ => false)
    | .getstatic k => decide ((o, k, au) ∈ pm_sl)
    | .iload_n k => Nat.beq k.val t1
    | .lload_n k => Nat.beq k.val t1
    | .aload_n k => Nat.beq k.val t1
    | .istore_n k => Nat.beq k.val t1
    | .lstore_n k => Nat.beq k.val t1
    | .astore_n k => Nat.beq k.val t1
    | .iload k => Nat.beq k t1
    | .lload k => Nat.beq k t1
    | .aload k => Nat.beq k t1
    | .istore k => Nat.beq k t1
    | .lstore k => Nat.beq k t1
    | .astore k => Nat.beq k t1
    | .iinc k n => Nat.beq k t1 && decide (au = .int (Int32.ofInt n))
    | .goto off => decide ((pc : Int) + off = (t1 : Int))
    | .ifCond _ off => decide ((pc : Int) + off = (t1 : Int))
    | .if_icmp _ off => decide ((pc : Int) + off = (t1 : Int))
    | .tableswitch d lo hi offs => decide ((pc : Int) + d = (t1 : Int)) && decide (lo + (offs.toList.length : Int) = hi + 1) && offs.toList.all (fun o => decide (0 ≤ (pc : Int) + o))
    | .lookupswitch _ ps => (ps.toList.zip (ps.toList.drop 1)).all (fun (a, next) => decide (a.1 < next.1))
    | .getfield k => decide ((o, k, t2, t1) ∈ pm_fl)
    | .putfield k => decide ((o, k, t2, t1) ∈ pm_fl) && !pm_isf (t2, t1)
    | .invokevirtual k => (decide ((o, k, t1) ∈ pm_ml) || decide ((o, k, t1) ∈ pm_mn)) && (match au with | .ref n => decide (pm_sig[t1]? = some (false, t2, n)) && Nat.blt 0 n && Nat.blt t2 6 | _ => false)
    | .invokestatic k => (match au with
      | .ref n => (decide ((o, k, t1) ∈ pm_ml) || decide ((o, k, t1) ∈ pm_mn)) && decide ((pm_sig[t1]?).map (fun z => (z.1, z.2.2)) = some (true, n))
      | .retAddr w => decide ((o, k, w) ∈ pm_mx)
      | _ => false)
    | _ => true
def pm_okE (o : Nat) (cc : ByteArray) (q : Nat × pm_Ent) : Bool := decide (decode cc q.1 = .ok (q.2.1, q.2.2.1 - q.1)) && Nat.blt q.1 q.2.2.1 && (match pm_len q.2.1 with | 0 => true | n => Nat.beq q.2.2.1 (q.1 + n)) && pm_okI o q
def pm_okT (q : pm_MI) : Prop := ∀ x ∈ pm_tb q, pm_okE (pm_ow q) (pm_cc q) x = true
theorem pm_okT.of {q : pm_MI} (h : (pm_tb q).all (pm_okE (pm_ow q) (pm_cc q)) = true) : pm_okT q := List.all_eq_true.mp h
/-! ===== END ===== -/
end
section
/-! ===== the small machine's memory as a world of the kit's ===== -/
/-- addresses of the cells, classes of int[], byte[], boolean[], int[][], classes and slots, the script's length, the cells that may change -/
abbrev pm_G : Type := (Nat → Nat) × (ClassId × ClassId × ClassId × ClassId) × va_G × Nat × (Nat → Prop) × (State → Prop)
def pm_ad (G : pm_G) : Nat → Nat := G.1
def pm_cI (G : pm_G) : ClassId := G.2.1.1
def pm_cB (G : pm_G) : ClassId := G.2.1.2.1
def pm_cZ (G : pm_G) : ClassId := G.2.1.2.2.1
def pm_cG (G : pm_G) : ClassId := G.2.1.2.2.2
def pm_DC (G : pm_G) : va_G := G.2.2.1
def pm_N (G : pm_G) : Nat := G.2.2.2.1
def pm_A (G : pm_G) : Nat → Prop := G.2.2.2.2.1
/-- what else stands at the start and stays (the texts) -/
def pm_SX (G : pm_G) : State → Prop := G.2.2.2.2.2
def pm_tys (G : pm_G) : List (ClassId × FieldType) := [(pm_cI G, .int), (pm_cB G, .byte), (pm_cZ G, .boolean), (pm_cG G, .array .int)]
def pm_e (ad : Nat → Nat) : Value → Value
  | .ref k => .ref (ad k)
  | v => v
theorem pm_e_cat (ad : Nat → Nat) (v : Value) : (pm_e ad v).category = v.category := by cases v <;> rfl
def pm_fs (ad : Nat → Nat) (f : Nat → Int32) : Nat → List (Option Nat) → List Value
  | _, [] => []
  | k, none :: l => .int (f k) :: pm_fs ad f (k + 1) l
  | k, some r :: l => .ref (ad r) :: pm_fs ad f (k + 1) l
def pm_row (fs : List (Option Nat)) : Nat := match fs with
  | some q :: _ => q
  | _ => 0
def pm_cell (G : pm_G) (q : pm_Sh) (f : Nat → Int32) : va_E := match q with
  | (0, n, _) => .inl (pm_cI G, n, .inl f)
  | (1, n, _) => .inl (pm_cB G, n, .inl f)
  | (2, n, _) => .inl (pm_cZ G, n, .inl f)
  | (3, n, fs) => .inl (pm_cG G, n, .inr (.inr (.inr (.inr (fun i => if i < n then some (pm_ad G (pm_row fs + i)) else none)))))
  | (t + 4, _, fs) => .inr (t, pm_fs (pm_ad G) f 0 fs)
def pm_w (G : pm_G) (D : pm_Mem) (r : Nat) : Nat × va_E := (pm_ad G r, pm_cell G (pm_sh (pm_N G) r) (D r))
def pm_ws (G : pm_G) (D : pm_Mem) : va_W := (List.range 80).map (pm_w G D)
theorem pm_ws_at (G : pm_G) (D : pm_Mem) {r : Nat} (h : r < 80) : (pm_ws G D)[r]? = some (pm_w G D r) := by
  unfold pm_ws
  rw [List.getElem?_map, List.getElem?_range h]
  rfl
theorem pm_ws_mem {G : pm_G} {D : pm_Mem} {k : Nat} {q : Nat × va_E} (h : (pm_ws G D)[k]? = some q) : k < 80 ∧ q = pm_w G D k := by
  unfold pm_ws at h
  rw [List.getElem?_map] at h
  by_cases hk : k < 80
  · rw [List.getElem?_range hk] at h
    exact ⟨hk, (Option.some.inj h).symm⟩
  · rw [List.getElem?_eq_none (by rw [List.length_range]; omega)] at h
    cases h
theorem pm_mu_row (D : pm_Mem) (r k : Nat) (x : Int32) : pm_mu D r k x r = upd (D r) k x := by
  funext j
  simp [pm_mu, upd]
theorem pm_mu_ne (D : pm_Mem) {r q : Nat} (k : Nat) (x : Int32) (h : q ≠ r) : pm_mu D r k x q = D q := by
  funext j
  simp [pm_mu, h]
theorem pm_ws_set {G : pm_G} {D D' : pm_Mem} {r : Nat} {q : Nat × va_E} (hr : r < 80) (hq : q = pm_w G D' r) (ho : ∀ k, k ≠ r → D' k = D k) : (pm_ws G D).set r q = pm_ws G D' := by
  apply List.ext_getElem?
  intro k
  by_cases hk : k < 80
  · by_cases e : k = r
    · subst e
      rw [List.getElem?_set_self (by simp [pm_ws]; exact hk), pm_ws_at G D' hk, hq]
    · rw [List.getElem?_set_ne (Ne.symm e), pm_ws_at G D hk, pm_ws_at G D' hk]
      unfold pm_w
      rw [ho k e]
  · rw [List.getElem?_eq_none (by simp [pm_ws]; omega), List.getElem?_eq_none (by simp [pm_ws]; omega)]
theorem pm_fs_len (ad : Nat → Nat) (f : Nat → Int32) : ∀ (fs : List (Option Nat)) (j : Nat), (pm_fs ad f j fs).length = fs.length
  | [], _ => rfl
  | none :: l, j => by simp [pm_fs, pm_fs_len ad f l (j + 1)]
  | some _ :: l, j => by simp [pm_fs, pm_fs_len ad f l (j + 1)]
theorem pm_fs_int (ad : Nat → Nat) (f : Nat → Int32) : ∀ (fs : List (Option Nat)) (j k : Nat), pm_nth fs k = some none → (pm_fs ad f j fs)[k]? = some (.int (f (j + k)))
  | [], _, _, h => by simp [pm_nth] at h
  | none :: l, j, 0, _ => by simp [pm_fs]
  | some _ :: l, j, 0, h => by simp [pm_nth] at h
  | none :: l, j, k + 1, h => by
    have := pm_fs_int ad f l (j + 1) k (by simpa [pm_nth] using h)
    simpa [pm_fs, Nat.add_assoc, Nat.add_comm 1 k] using this
  | some _ :: l, j, k + 1, h => by
    have := pm_fs_int ad f l (j + 1) k (by simpa [pm_nth] using h)
    simpa [pm_fs, Nat.add_assoc, Nat.add_comm 1 k] using this
theorem pm_fs_ref (ad : Nat → Nat) (f : Nat → Int32) : ∀ (fs : List (Option Nat)) (j k q : Nat), pm_nth fs k = some (some q) → (pm_fs ad f j fs)[k]? = some (.ref (ad q))
  | [], _, _, _, h => by simp [pm_nth] at h
  | none :: l, j, 0, _, h => by simp [pm_nth] at h
  | some r :: l, j, 0, q, h => by
    simp [pm_nth] at h
    simp [pm_fs, h]
  | none :: l, j, k + 1, q, h => by
    have := pm_fs_ref ad f l (j + 1) k q (by simpa [pm_nth] using h)
    simpa [pm_fs] using this
  | some _ :: l, j, k + 1, q, h => by
    have := pm_fs_ref ad f l (j + 1) k q (by simpa [pm_nth] using h)
    simpa [pm_fs] using this
theorem pm_fs_low (ad : Nat → Nat) (f : Nat → Int32) (x : Int32) : ∀ (fs : List (Option Nat)) (j i : Nat), i < j → pm_fs ad (upd f i x) j fs = pm_fs ad f j fs
  | [], _, _, _ => rfl
  | none :: l, j, i, h => by
    simp only [pm_fs]
    rw [pm_fs_low ad f x l (j + 1) i (by omega)]
    simp [upd, show ¬ j = i by omega]
  | some _ :: l, j, i, h => by
    simp only [pm_fs]
    rw [pm_fs_low ad f x l (j + 1) i (by omega)]
theorem pm_fs_set (ad : Nat → Nat) (f : Nat → Int32) (x : Int32) : ∀ (fs : List (Option Nat)) (j k : Nat), pm_nth fs k = some none → (pm_fs ad f j fs).set k (.int x) = pm_fs ad (upd f (j + k) x) j fs
  | [], _, _, h => by simp [pm_nth] at h
  | none :: l, j, 0, _ => by
    simp only [pm_fs, List.set_cons_zero, Nat.add_zero]
    rw [pm_fs_low ad f x l (j + 1) j (by omega)]
    simp [upd]
  | some _ :: l, j, 0, h => by simp [pm_nth] at h
  | none :: l, j, k + 1, h => by
    have := pm_fs_set ad f x l (j + 1) k (by simpa [pm_nth] using h)
    simp only [pm_fs, List.set_cons_succ]
    rw [this, show j + 1 + k = j + (k + 1) by omega]
    simp [upd, show ¬ j = j + (k + 1) by omega]
  | some _ :: l, j, k + 1, h => by
    have := pm_fs_set ad f x l (j + 1) k (by simpa [pm_nth] using h)
    simp only [pm_fs, List.set_cons_succ]
    rw [this, show j + 1 + k = j + (k + 1) by omega]
theorem pm_nth_lt : ∀ (fs : List (Option Nat)) (k : Nat) (x : Option Nat), pm_nth fs k = some x → k < fs.length
  | [], _, _, h => by simp [pm_nth] at h
  | _ :: l, 0, _, _ => by simp
  | _ :: l, k + 1, x, h => by
    have := pm_nth_lt l k x (by simpa [pm_nth] using h)
    simpa using this
theorem pm_nS_out : ∀ (l : List pm_Sh) (r : Nat), l.length ≤ r → pm_nS l r = (3, 0, [])
  | [], _, _ => rfl
  | _ :: l, 0, h => by simp at h
  | _ :: l, r + 1, h => by
    show pm_nS l r = _
    exact pm_nS_out l r (by simpa using h)
theorem pm_sh_hi (N : Nat) {r : Nat} (h : 83 ≤ r) : pm_sh N r = (3, 0, []) := pm_nS_out _ _ (by simpa [pm_shL] using h)
theorem pm_sh_ro (N : Nat) {r : Nat} (h : 80 ≤ r) (h2 : r < 83) : ∃ n, pm_sh N r = (0, n, []) := by
  have : r = 80 ∨ r = 81 ∨ r = 82 := by omega
  rcases this with rfl | rfl | rfl
  · exact ⟨5, rfl⟩
  · exact ⟨5, rfl⟩
  · exact ⟨N, rfl⟩
theorem pm_sh_obj {N r t n : Nat} {fs : List (Option Nat)} (h : pm_sh N r = (t + 4, n, fs)) : r < 80 := by
  apply Nat.lt_of_not_le
  intro h0
  by_cases h1 : r < 83
  · obtain ⟨n', e⟩ := pm_sh_ro N h0 h1
    rw [e] at h
    simp at h
  · rw [pm_sh_hi N (by omega)] at h
    simp at h
theorem pm_sh_arr {N r t n : Nat} {fs : List (Option Nat)} (h : pm_sh N r = (t, n, fs)) (ht : t < 3) : r < 83 := by
  apply Nat.lt_of_not_le
  intro h0
  rw [pm_sh_hi N h0] at h
  simp at h
  omega
theorem pm_sh_grd {N r n q : Nat} {fs : List (Option Nat)} (h : pm_sh N r = (3, n, some q :: fs)) : r < 80 := by
  apply Nat.lt_of_not_le
  intro h0
  by_cases h1 : r < 83
  · obtain ⟨n', e⟩ := pm_sh_ro N h0 h1
    rw [e] at h
    simp at h
  · rw [pm_sh_hi N (by omega)] at h
    simp at h
theorem pm_sh_by {N r t n : Nat} {fs : List (Option Nat)} (h : pm_sh N r = (t + 1, n, fs)) (h2 : t < 2) : r < 80 := by
  apply Nat.lt_of_not_le
  intro h0
  by_cases h1 : r < 83
  · obtain ⟨n', e⟩ := pm_sh_ro N h0 h1
    rw [e] at h
    simp at h
  · rw [pm_sh_hi N (by omega)] at h
    simp at h
    omega
/-- addresses apart, those of the machine's cells may change, those of what is read alone may not -/
def pm_ok (G : pm_G) : Prop := (∀ i j, i < 80 → j < 80 → pm_ad G i = pm_ad G j → i = j) ∧ (∀ i, i < 80 → pm_A G (pm_ad G i)) ∧ (∀ r, 80 ≤ r → r < 83 → ¬ pm_A G (pm_ad G r)) ∧
  (∀ U V : State, U.WarmedH V.vm → U.heap.size ≤ V.heap.size → (∀ q : Nat, q < U.heap.size → ¬ pm_A G q → V.heap[q]? = U.heap[q]?) → pm_SX G U → pm_SX G V) ∧ (∀ (U : State) (g : JFrame) (mk : MethodId) (a : Array Value), pm_SX G U → pm_SX G (U.calling g mk a))
theorem pm_D0 {G : pm_G} (h : pm_ok G) (D : pm_Mem) : va_D (pm_A G) (pm_ws G D) := by
  refine ⟨fun i j x y hi hj hxy => ?_, fun k q hk => ?_⟩
  · obtain ⟨h1, rfl⟩ := pm_ws_mem hi
    obtain ⟨h2, rfl⟩ := pm_ws_mem hj
    exact h.1 i j h1 h2 hxy
  · obtain ⟨h1, rfl⟩ := pm_ws_mem hk
    exact h.2.1 k h1
def pm_nws : List Cond := pm_mn.map pm_mnw ++ [.fieldLinkNest RX3 72 RX4 "LEAST" "[I" RX4, .fieldLinkNest RX3 76 RX4 "MOST" "[I" RX4]
/-- what stands at the state U and stays: classes, statics, links of nest mates, texts -/
def pm_V (G : pm_G) (U : State) : Prop := va_K (pm_DC G) vwCl (pm_tys G) U ∧ va_Z RX4 "LEAST" "[I" (.ref (pm_ad G 80)) (pm_A G) U U.heap ∧ va_Z RX4 "MOST" "[I" (.ref (pm_ad G 81)) (pm_A G) U U.heap ∧ (∀ w ∈ pm_nws, va_Nw w U) ∧ pm_SX G U ∧ (∀ r, 80 ≤ r → r < 83 → pm_ad G r < U.heap.size)
/-- the memory D at the state U -/
def pm_St (G : pm_G) (D : pm_Mem) (U : State) : Prop := va_P (pm_DC G) vwCl (pm_ws G D) U.heap ∧ (∀ r, 80 ≤ r → r < 83 → va_at (pm_DC G) vwCl (pm_w G D r) U.heap) ∧ pm_V G U
/-- the memory D at the heap H, on a walk that began at s -/
def pm_Cx (G : pm_G) (s : State) (D : pm_Mem) (H : Heap) (locs : List Loc) : Prop := va_P (pm_DC G) vwCl (pm_ws G D) H ∧ (∀ r, 80 ≤ r → r < 83 → va_at (pm_DC G) vwCl (pm_w G D r) H) ∧ va_S (pm_A G) s.heap H locs
theorem pm_nw_warm {s U : State} (hW : s.WarmedH U.vm) (h : ∀ w ∈ pm_nws, va_Nw w s) : ∀ w ∈ pm_nws, va_Nw w U := by
  intro w hw
  have h1 := h w hw
  rcases List.mem_append.mp hw with hw | hw
  · obtain ⟨q, -, rfl⟩ := List.mem_map.mp hw
    exact va_Nw.warmM hW h1
  · simp only [List.mem_cons, List.not_mem_nil, or_false] at hw
    rcases hw with rfl | rfl
    · exact va_Nw.warmF hW h1
    · exact va_Nw.warmF hW h1
theorem pm_nw_tab : ∀ w ∈ pm_nws, w.onTables = true := by
  intro w hw
  rcases List.mem_append.mp hw with hw | hw
  · obtain ⟨q, -, rfl⟩ := List.mem_map.mp hw
    rfl
  · simp only [List.mem_cons, List.not_mem_nil, or_false] at hw
    rcases hw with rfl | rfl <;> rfl
theorem pm_V.go {G : pm_G} (hG : pm_ok G) {s U : State} {H : Heap} {locs : List Loc} (h : pm_V G s) (hS : va_S (pm_A G) s.heap H locs) (hU : U.heap = H) (hW : s.WarmedH U.vm) : pm_V G U := by
  obtain ⟨h1, h2, h3, h4, h5, h6⟩ := h
  have hk : ∀ a : Nat, a < s.heap.size → ¬ pm_A G a → U.heap[a]? = s.heap[a]? := fun a ha hn => by rw [hU]; exact hS.2.1 a ha hn
  exact ⟨va_K.moved hW.alike h1, (h2.kept hk).moved hW.alike, (h3.kept hk).moved hW.alike, pm_nw_warm hW h4, hG.2.2.2.1 s U hW (by rw [hU]; exact hS.1) hk h5, fun r a b => Nat.lt_of_lt_of_le (h6 r a b) (by rw [hU]; exact hS.1)⟩
theorem pm_Cx.st {G : pm_G} (hG : pm_ok G) {s U : State} {D : pm_Mem} {H : Heap} {locs : List Loc} (h : pm_Cx G s D H locs) (hV : pm_V G s) (hU : U.heap = H) (hW : s.WarmedH U.vm) : pm_St G D U :=
  ⟨by rw [hU]; exact h.1, by rw [hU]; exact h.2.1, hV.go hG h.2.2 hU hW⟩
theorem pm_St.blind {G : pm_G} (hG : pm_ok G) {D : pm_Mem} {U : State} (g : JFrame) (mk : MethodId) (a : Array Value) (h : pm_St G D U) : pm_St G D (U.calling g mk a) := by
  obtain ⟨h1, h2, k1, k2, k3, k4, k5, k6⟩ := h
  exact ⟨h1, h2, va_K.moved (u := U) (U := U.calling g mk a) (Vm.Alike.refl U.vm) k1, va_Z.moved (u := U) (U := U.calling g mk a) (Vm.Alike.refl U.vm) k2, va_Z.moved (u := U) (U := U.calling g mk a) (Vm.Alike.refl U.vm) k3, fun w hw => va_Nw.same (u := U) (U := U.calling g mk a) (pm_nw_tab w hw) rfl (k4 w hw), hG.2.2.2.2 U g mk a k5, k6⟩
/-- one cell of the memory, as a world of its own -/
theorem pm_Cx.one {G : pm_G} {s : State} {D : pm_Mem} {H : Heap} {locs : List Loc} (h : pm_Cx G s D H locs) {r : Nat} (hr : r < 83) : va_P (pm_DC G) vwCl [pm_w G D r] H := by
  intro k q hk
  have h0 : k < 1 := (List.getElem?_eq_some_iff.mp hk).1
  rw [show k = 0 by omega] at hk
  cases hk
  by_cases h8 : r < 80
  · exact h.1 r _ (pm_ws_at G D h8)
  · exact h.2.1 r (by omega) hr
/-- a cell of the memory was written -/
theorem pm_Cx.put {G : pm_G} {s : State} {D D' : pm_Mem} {H H1 : Heap} {locs locs1 : List Loc} (h : pm_Cx G s D H locs) (hG : pm_ok G) (hV : pm_V G s) {r : Nat} {q : Nat × va_E} (hr : r < 80) (hq : q = pm_w G D' r) (ho : ∀ k, k ≠ r → D' k = D k) (hP : va_P (pm_DC G) vwCl ((pm_ws G D).set r q) H1) (hS : va_S (pm_A G) s.heap H1 locs1) : pm_Cx G s D' H1 locs1 := by
  rw [pm_ws_set hr hq ho] at hP
  refine ⟨hP, fun k h1 h2 => ?_, hS⟩
  have e : pm_w G D' k = pm_w G D k := by
    unfold pm_w
    rw [ho k (by omega)]
  rw [e]
  have hk := h.2.1 k h1 h2
  have hn := hG.2.2.1 k h1 h2
  have hz : (pm_w G D k).1 < s.heap.size := hV.2.2.2.2.2 k h1 h2
  exact hk.kept (by rw [hS.2.1 _ hz hn, h.2.2.2.1 _ hz hn])
/-! ===== END ===== -/
end
section
/-! ===== locals ===== -/
def pm_prs (ad : Nat → Nat) : Nat → pm_L → List (Nat × Value)
  | _, [] => []
  | i, none :: l => pm_prs ad (i + 1) l
  | i, some v :: l => (i, pm_e ad v) :: pm_prs ad (i + 1) l
theorem pm_prs_in (ad : Nat → Nat) : ∀ (L : pm_L) (i k : Nat) (v : Value), pm_get L k = some v → (i + k, pm_e ad v) ∈ pm_prs ad i L
  | [], _, _, _, h => by simp [pm_get] at h
  | none :: l, i, 0, v, h => by simp [pm_get] at h
  | some w :: l, i, 0, v, h => by
    simp only [pm_get, Option.some.injEq] at h
    subst h
    simp [pm_prs]
  | none :: l, i, k + 1, v, h => by
    have := pm_prs_in ad l (i + 1) k v (by simpa [pm_get] using h)
    rw [show i + (k + 1) = i + 1 + k by omega]
    simpa [pm_prs] using this
  | some w :: l, i, k + 1, v, h => by
    have := pm_prs_in ad l (i + 1) k v (by simpa [pm_get] using h)
    rw [show i + (k + 1) = i + 1 + k by omega]
    simp only [pm_prs, List.mem_cons]
    exact Or.inr this
theorem pm_prs_of (ad : Nat → Nat) : ∀ (L : pm_L) (i : Nat) (q : Nat × Value), q ∈ pm_prs ad i L → ∃ k v, pm_get L k = some v ∧ q = (i + k, pm_e ad v)
  | [], _, _, h => by simp [pm_prs] at h
  | none :: l, i, q, h => by
    obtain ⟨k, v, h1, h2⟩ := pm_prs_of ad l (i + 1) q (by simpa [pm_prs] using h)
    exact ⟨k + 1, v, by simpa [pm_get] using h1, by rw [h2, show i + 1 + k = i + (k + 1) by omega]⟩
  | some w :: l, i, q, h => by
    simp only [pm_prs, List.mem_cons] at h
    rcases h with rfl | h
    · exact ⟨0, w, rfl, rfl⟩
    · obtain ⟨k, v, h1, h2⟩ := pm_prs_of ad l (i + 1) q h
      exact ⟨k + 1, v, by simpa [pm_get] using h1, by rw [h2, show i + 1 + k = i + (k + 1) by omega]⟩
/-- the frame's locals hold L -/
def pm_LS (ad : Nat → Nat) (ls : Array Slot) (n : Nat) (L : pm_L) : Prop := L.length = n ∧ lv_has ls n (pm_prs ad 0 L)
theorem pm_LS.at {ad : Nat → Nat} {ls : Array Slot} {n : Nat} {L : pm_L} (h : pm_LS ad ls n L) {k : Nat} {v : Value} (hk : pm_get L k = some v) : ls[k]? = some (.val (pm_e ad v)) := by
  have := h.2.2.2 _ (pm_prs_in ad L 0 k v hk)
  simpa using this
theorem pm_set1_spec : ∀ (L : pm_L) (i : Nat) (v : Value) (K : pm_L → Prop), pm_set1 L i v K → ∃ L', K L' ∧ L'.length = L.length ∧ i < L.length ∧ pm_get L' i = some v ∧ (∀ k, k ≠ i → pm_get L' k = pm_get L k) ∧ ∀ k w, pm_get L k = some w → k + 1 = i → w.category ≠ 2
  | [], _, _, _, h => h.elim
  | a :: l, 0, v, K, h => ⟨some v :: l, h, by simp, by simp, rfl, fun k hk => by cases k with | zero => exact absurd rfl hk | succ k => rfl, fun k w _ e => by omega⟩
  | a :: l, n + 1, v, K, h => by
    have h' : pm_set1 l n v (fun l' => K (a :: l')) ∧ ∀ w, a = some w → n = 0 → w.category ≠ 2 := by
      unfold pm_set1 at h
      split at h
      · exact h.elim
      · exact h.elim
      · rename_i q1 q2
        refine ⟨h, fun w e1 e2 => ?_⟩
        subst e1; subst e2
        cases w <;> simp_all [Value.category]
    obtain ⟨h1, hc⟩ := h'
    obtain ⟨L', k1, k2, k3, k4, k5, k6⟩ := pm_set1_spec l n v _ h1
    refine ⟨a :: L', k1, by simp [k2], by simpa using k3, k4, fun k hk => ?_, fun k w hk e => ?_⟩
    · cases k with
      | zero => rfl
      | succ k => exact k5 k (by omega)
    · cases k with
      | zero => exact hc w hk (by omega)
      | succ k => exact k6 k w hk (by omega)
theorem pm_set2_spec : ∀ (L : pm_L) (i : Nat) (v : Value) (K : pm_L → Prop), pm_set2 L i v K → ∃ L', K L' ∧ L'.length = L.length ∧ i + 1 < L.length ∧ pm_get L' i = some v ∧ pm_get L' (i + 1) = none ∧ (∀ k, k ≠ i → k ≠ i + 1 → pm_get L' k = pm_get L k) ∧ ∀ k w, pm_get L k = some w → k + 1 = i → w.category ≠ 2
  | [], _, _, _, h => h.elim
  | [_], 0, _, _, h => h.elim
  | [_], _ + 1, _, _, h => h.elim
  | a :: b :: l, 0, v, K, h => ⟨some v :: none :: l, h, by simp, by simp, rfl, rfl, fun k h1 h2 => by match k, h1, h2 with | 0, h1, _ => exact absurd rfl h1 | 1, _, h2 => exact absurd rfl h2 | k + 2, _, _ => rfl, fun k w _ e => by omega⟩
  | a :: b :: l, n + 1, v, K, h => by
    have h' : pm_set2 (b :: l) n v (fun l' => K (a :: l')) ∧ ∀ w, a = some w → n = 0 → w.category ≠ 2 := by
      unfold pm_set2 at h
      split at h
      · exact h.elim
      · exact h.elim
      · rename_i q1 q2
        refine ⟨h, fun w e1 e2 => ?_⟩
        subst e1; subst e2
        cases w <;> simp_all [Value.category]
    obtain ⟨h1, hc⟩ := h'
    obtain ⟨L', k1, k2, k3, k4, k5, k6, k7⟩ := pm_set2_spec (b :: l) n v _ h1
    refine ⟨a :: L', k1, by simp [k2], by simpa using k3, k4, k5, fun k hk hk2 => ?_, fun k w hk e => ?_⟩
    · cases k with
      | zero => rfl
      | succ k => exact k6 k (by omega) (by omega)
    · cases k with
      | zero => exact hc w hk (by omega)
      | succ k => exact k7 k w hk (by omega)
theorem pm_LS.set1 {ad : Nat → Nat} {n : Nat} {L L' : pm_L} {i : Nat} {v : Value} {ls' : Array Slot} (hn : L.length = n) (k2 : L'.length = L.length) (k4 : pm_get L' i = some v) (k5 : ∀ k, k ≠ i → pm_get L' k = pm_get L k) (k6 : ∀ k w, pm_get L k = some w → k + 1 = i → w.category ≠ 2)
    (h : lv_has ls' n ((i, pm_e ad v) :: (pm_prs ad 0 L).filter (fun q => !(q.1 == i) && !(q.1 + 1 == i && q.2.category == 2)))) : pm_LS ad ls' n L' := by
  refine ⟨k2.trans hn, h.1, h.2.1, fun q hq => ?_⟩
  obtain ⟨k, w, h1, rfl⟩ := pm_prs_of ad L' 0 q hq
  by_cases e : k = i
  · subst e
    rw [k4] at h1
    cases h1
    have := h.2.2 _ List.mem_cons_self
    simpa using this
  · rw [k5 k e] at h1
    refine h.2.2 (0 + k, pm_e ad w) (List.mem_cons_of_mem _ (List.mem_filter.mpr ⟨pm_prs_in ad L 0 k w h1, ?_⟩))
    simp only [Nat.zero_add, Bool.and_eq_true, Bool.not_eq_true', beq_eq_false_iff_ne, ne_eq, Bool.and_eq_false_iff]
    refine ⟨e, ?_⟩
    by_cases e2 : k + 1 = i
    · exact Or.inr (by rw [pm_e_cat]; exact k6 k w h1 e2)
    · exact Or.inl e2
theorem pm_LS.set2 {ad : Nat → Nat} {n : Nat} {L L' : pm_L} {i : Nat} {v : Value} {ls' : Array Slot} (hn : L.length = n) (k2 : L'.length = L.length) (k4 : pm_get L' i = some v) (k4' : pm_get L' (i + 1) = none) (k5 : ∀ k, k ≠ i → k ≠ i + 1 → pm_get L' k = pm_get L k) (k6 : ∀ k w, pm_get L k = some w → k + 1 = i → w.category ≠ 2)
    (h : lv_has ls' n ((i, pm_e ad v) :: (pm_prs ad 0 L).filter (fun q => !(q.1 == i) && (!(q.1 == i + 1) && !(q.1 + 1 == i && q.2.category == 2))))) : pm_LS ad ls' n L' := by
  refine ⟨k2.trans hn, h.1, h.2.1, fun q hq => ?_⟩
  obtain ⟨k, w, h1, rfl⟩ := pm_prs_of ad L' 0 q hq
  by_cases e : k = i
  · subst e
    rw [k4] at h1
    cases h1
    have := h.2.2 _ List.mem_cons_self
    simpa using this
  · by_cases e1 : k = i + 1
    · subst e1
      rw [k4'] at h1
      cases h1
    · rw [k5 k e e1] at h1
      refine h.2.2 (0 + k, pm_e ad w) (List.mem_cons_of_mem _ (List.mem_filter.mpr ⟨pm_prs_in ad L 0 k w h1, ?_⟩))
      simp only [Nat.zero_add, Bool.and_eq_true, Bool.not_eq_true', beq_eq_false_iff_ne, ne_eq, Bool.and_eq_false_iff]
      refine ⟨e, e1, ?_⟩
      by_cases e2 : k + 1 = i
      · exact Or.inr (by rw [pm_e_cat]; exact k6 k w h1 e2)
      · exact Or.inl e2
theorem pm_ent_len : ∀ (as : List Value) (n : Nat), (lg_sl as).length ≤ n → (pm_ent as n).length = n
  | [], n, _ => by simp [pm_ent]
  | v :: as, n, h => by
    have hl : (lg_sl (v :: as)).length = (if v.category = 2 then 2 else 1) + (lg_sl as).length := by
      simp only [lg_sl, List.flatMap_cons, List.length_append]
      split <;> rfl
    rw [hl] at h
    cases v with
    | long x =>
      rw [if_pos (show (Value.long x).category = 2 from rfl)] at h
      simp only [pm_ent, List.length_cons]
      rw [pm_ent_len as (n - 2) (by omega)]
      omega
    | double x =>
      rw [if_pos (show (Value.double x).category = 2 from rfl)] at h
      simp only [pm_ent, List.length_cons]
      rw [pm_ent_len as (n - 2) (by omega)]
      omega
    | _ =>
      rw [if_neg (by simp [Value.category])] at h
      simp only [pm_ent, List.length_cons]
      rw [pm_ent_len as (n - 1) (by omega)]
      omega
theorem pm_prs_rep (ad : Nat → Nat) : ∀ (n i : Nat), pm_prs ad i (List.replicate n none) = []
  | 0, _ => rfl
  | n + 1, i => by
    rw [List.replicate_succ]
    exact pm_prs_rep ad n (i + 1)
theorem pm_prs_ent (ad : Nat → Nat) : ∀ (as : List Value) (n i : Nat), pm_prs ad i (pm_ent as n) = lv_args i (as.map (pm_e ad))
  | [], n, i => pm_prs_rep ad n i
  | v :: as, n, i => by
    cases v with
    | long x =>
      show (i, _) :: pm_prs ad (i + 1 + 1) (pm_ent as (n - 2)) = (i, _) :: lv_args (if (pm_e ad (.long x)).category = 2 then i + 2 else i + 1) _
      rw [pm_prs_ent ad as (n - 2) (i + 1 + 1)]
      rfl
    | double x =>
      show (i, _) :: pm_prs ad (i + 1 + 1) (pm_ent as (n - 2)) = (i, _) :: lv_args (if (pm_e ad (.double x)).category = 2 then i + 2 else i + 1) _
      rw [pm_prs_ent ad as (n - 2) (i + 1 + 1)]
      rfl
    | _ =>
      show (i, _) :: pm_prs ad (i + 1) (pm_ent as (n - 1)) = (i, _) :: lv_args _ _
      rw [pm_prs_ent ad as (n - 1) (i + 1)]
      rfl
theorem pm_sl_len (ad : Nat → Nat) : ∀ as : List Value, (lg_sl (as.map (pm_e ad))).length = (lg_sl as).length
  | [] => rfl
  | v :: as => by
    have := pm_sl_len ad as
    simp only [lg_sl, List.map_cons, List.flatMap_cons, List.length_append] at this ⊢
    rw [this, pm_e_cat]
    split <;> rfl
theorem pm_LS.entry (ad : Nat → Nat) (as : List Value) {n : Nat} (h : (lg_sl as).length ≤ n) : pm_LS ad ((lg_sl (as.map (pm_e ad)) ++ List.replicate (n - (lg_sl (as.map (pm_e ad))).length) Slot.unset).toArray) n (pm_ent as n) := by
  refine ⟨pm_ent_len as n h, ?_⟩
  rw [pm_prs_ent]
  exact lv_entry (as.map (pm_e ad)) (by rw [pm_sl_len]; exact h)
/-! ===== END ===== -/
end
section
/-! ===== every row of the small machine is a row of the kit ===== -/
def pm_gw : Cond → Bool
  | .initialized _ => true
  | .fieldLink .. => true
  | .methodLink .. => true
  | .code .. => true
  | .instanceMethod _ => true
  | .selects .. => true
  | .static _ => true
  | .constant .. => true
  | .constantLong .. => true
  | .laysFinal .. => true
  | .lays .. => true
  | _ => false
theorem pm_gw_ok {w : Cond} (h : pm_gw w = true) : (w.onTables && w.keeps) = true := by
  cases w <;> first | rfl | (simp [pm_gw] at h; done) | (simp [Cond.onTables, Cond.keeps, Cond.steady]; done)
/-- the words that every contract of the small machine carries -/
def pm_tbl : List Cond := lw_tbl.filter pm_gw
theorem pm_tbl_in {w : Cond} (h : w ∈ lw_tbl) (h2 : pm_gw w = true) : w ∈ pm_tbl := List.mem_filter.mpr ⟨h, h2⟩
theorem pm_good {ws : List Cond} (h : ∀ w ∈ ws, w ∈ pm_tbl) : GoodIn pm_tbl ws := fun w hw => ⟨h w hw, Or.inl (pm_gw_ok (List.mem_filter.mp (h w hw)).2)⟩
theorem pm_tab {w : Cond} (h : w ∈ tables_1) (h2 : pm_gw w = true) : w ∈ pm_tbl := pm_tbl_in (List.mem_append_right _ h) h2
def pm_rm (d : Nat) : Room := { frames := d, cells := 0, slots := 0, locals := 36 * d }
def pm_Pc (G : pm_G) (as : List Value) (D : pm_Mem) : Array Value → State → Prop := fun v U => v = (as.map (pm_e (pm_ad G))).toArray ∧ pm_St G D U
def pm_Qc (G : pm_G) (post : pm_Post) : Array Value → State → Outcome → State → Prop := fun _ st oc t => (∃ (r : Option Value) (D : pm_Mem), oc = .returned (r.map (pm_e (pm_ad G))) ∧ post r D ∧ pm_St G D t) ∧ va_F (pm_A G) st t
def pm_wsm (q : pm_MI) : List Cond := Cond.code (pm_y q) (pm_cc q) (pm_mL q) (pm_rt q) :: pm_tbl
/-- method j's contract, in a room d calls deep -/
def pm_C (l : Launch) (G : pm_G) (d j : Nat) (as : List Value) (D : pm_Mem) (post : pm_Post) : Prop := Met l (pm_y (pm_mj j)) (pm_wsm (pm_mj j)) (pm_rm d) (pm_Pc G as D) (pm_Qc G post) 0 0 (pm_A G)
/-- what the tables say of a method -/
def pm_MOK (q : pm_MI) : Prop := plainName (pm_y q).cls = true ∧ Cond.code (pm_y q) (pm_cc q) (pm_mL q) (pm_rt q) ∈ lw_tbl ∧ ((pm_y q).cls ≠ "java/lang/invoke/MethodHandle" ∧ (pm_y q).cls ≠ "java/lang/invoke/VarHandle" ∧ (parseMethodDescriptor (pm_y q).desc).map (fun d => d.parameters.length) = some (if pm_st q = true then pm_na q else pm_na q - 1)) ∧
  Cond.initialized (pm_y q).cls ∈ lw_tbl ∧ (pm_st q = true → Cond.static (pm_y q) ∈ lw_tbl) ∧ (pm_st q = false → Cond.instanceMethod (pm_y q) ∈ lw_tbl ∧ Cond.selects (pm_y q).cls (pm_y q) (pm_y q) ∈ lw_tbl) ∧ pm_mL q ≤ 17 ∧ pm_cn (pm_ow q) = (pm_y q).cls ∧ pm_okT q
theorem pm_lk_mem : ∀ {tb : pm_Tb} {pc : Nat} {e : pm_Ent}, pm_lk tb pc = some e → (pc, e) ∈ tb
  | [], _, _, h => by simp [pm_lk] at h
  | (k, x) :: l, pc, e, h => by
    unfold pm_lk at h
    cases hb : Nat.beq k pc with
    | true =>
      rw [hb] at h
      simp only [cond_true, Option.some.injEq] at h
      have : k = pc := Nat.eq_of_beq_eq_true hb
      subst this; subst h
      exact List.mem_cons_self
    | false =>
      rw [hb] at h
      exact List.mem_cons_of_mem _ (pm_lk_mem h)
theorem pm_okE.spec {o : Nat} {cc : ByteArray} {pc nx t1 t2 : Nat} {i : Instr} {au : Value} (h : pm_okE o cc (pc, i, nx, au, t1, t2) = true) : (∀ n, pm_len i = n + 1 → nx = pc + (n + 1) ∧ decode cc pc = .ok (i, n + 1)) ∧ decode cc pc = .ok (i, nx - pc) ∧ pm_okI o (pc, i, nx, au, t1, t2) = true := by
  unfold pm_okE at h
  simp only [Bool.and_eq_true, decide_eq_true_eq] at h
  obtain ⟨⟨⟨h1, h2⟩, h3⟩, h4⟩ := h
  refine ⟨fun n hn => ?_, h1, h4⟩
  rw [hn] at h3
  have h5 : nx = pc + (n + 1) := Nat.eq_of_beq_eq_true h3
  subst h5
  rw [Nat.add_sub_cancel_left] at h1
  exact ⟨rfl, h1⟩
theorem pm_cats_eq : ∀ (ad : Nat → Nat) (st : List Value), ((st.map (pm_e ad)).map fun v => v.category).sum = pm_cats st
  | _, [] => rfl
  | ad, v :: l => by
    simp only [List.map_cons, List.sum_cons, pm_cats]
    rw [pm_cats_eq ad l, pm_e_cat]
theorem pm_low.spec {st : List Value} {P : Prop} (h : pm_low st P) : pm_cats st ≤ 8 ∧ P := by
  unfold pm_low at h
  split at h
  · rename_i hb
    exact ⟨Nat.le_of_ble_eq_true hb, h⟩
  · exact h.elim
theorem pm_arg.spec {n : Nat} {st : List Value} {K : List Value → List Value → Prop} (h : pm_arg n st K) : ∃ as rest, st = as.reverse ++ rest ∧ as.length = n ∧ K as rest := by
  unfold pm_arg at h
  split at h
  · exact ⟨[], _, rfl, rfl, h⟩
  · exact ⟨[_], _, rfl, rfl, h⟩
  · exact ⟨[_, _], _, rfl, rfl, h⟩
  · exact ⟨[_, _, _], _, rfl, rfl, h⟩
  · exact ⟨[_, _, _, _], _, rfl, rfl, h⟩
  · exact ⟨[_, _, _, _, _], _, rfl, rfl, h⟩
  · exact ⟨[_, _, _, _, _, _], _, rfl, rfl, h⟩
  · exact h.elim
theorem pm_recv.spec {N ci : Nat} {as : List Value} {P : Prop} (h : pm_recv N ci as P) : ∃ r as', as = .ref r :: as' ∧ (pm_sh N r).1 = 4 + ci ∧ P := by
  unfold pm_recv at h
  split at h
  · rename_i r as'
    split at h
    · rename_i hb
      exact ⟨r, as', rfl, Nat.eq_of_beq_eq_true hb, h⟩
    · exact h.elim
  · exact h.elim
theorem pm_gf.spec {N : Nat} {D : pm_Mem} {r ci k : Nat} {K : Value → Prop} (h : pm_gf N D r ci k K) : ∃ n fs, pm_sh N r = (ci + 4, n, fs) ∧ ((pm_nth fs k = some none ∧ K (.int (D r k))) ∨ ∃ q, pm_nth fs k = some (some q) ∧ K (.ref q)) := by
  unfold pm_gf at h
  rcases hs : pm_sh N r with ⟨t, n, fs⟩
  rw [hs] at h
  dsimp only at h
  split at h
  · rename_i hb hn
    have : t = ci + 4 := by rw [Nat.eq_of_beq_eq_true hb]; omega
    exact ⟨n, fs, by rw [this], Or.inl ⟨hn, h⟩⟩
  · rename_i q hb hn
    have : t = ci + 4 := by rw [Nat.eq_of_beq_eq_true hb]; omega
    exact ⟨n, fs, by rw [this], Or.inr ⟨q, hn, h⟩⟩
  · exact h.elim
theorem pm_pf.spec {N : Nat} {r ci k : Nat} {x : Int32} {P : Prop} (h : pm_pf N r ci k x P) : ∃ n fs, pm_sh N r = (ci + 4, n, fs) ∧ pm_nth fs k = some none ∧ (pm_bz ci k = true → x = 0 ∨ x = 1) ∧ P := by
  unfold pm_pf at h
  rcases hs : pm_sh N r with ⟨t, n, fs⟩
  rw [hs] at h
  dsimp only at h
  split at h
  · rename_i hb hn
    have : t = ci + 4 := by rw [Nat.eq_of_beq_eq_true hb]; omega
    refine ⟨n, fs, by rw [this], hn, ?_⟩
    split at h
    · exact ⟨fun _ => h.1, h.2⟩
    · rename_i hz
      exact ⟨fun hz' => absurd (hz.symm.trans hz') (by decide), h⟩
  · exact h.elim
def pm_cz : Nat → Nat := fun c => match c with | 0 => 16 | 1 => 4 | 2 => 3 | 3 => 8 | 4 => 10 | _ => 28
theorem pm_fl_lt : ∀ q ∈ pm_fl, q.2.2.1 < 6 ∧ q.2.2.2 < pm_cz q.2.2.1 := by decide +kernel
theorem pm_cl_at {ci : Nat} (h : ci < 6) : ∃ n, n = pm_cz ci ∧ vwCl[ci]? = some (pm_cn ci, pm_T ci, n) ∧ (∀ w ∈ u_ws (pm_cn ci) (pm_T ci) n, w ∈ lw_tbl) ∧ (∃ ty : Nat → FieldType, (∀ k, k < n → parseFieldDescriptor (pm_T ci k).2.2.1 = some (ty k)) ∧ ∀ k, k < n → pm_isf (ci, k) = false → ty k = if pm_bz ci k = true then .boolean else .int) ∧ ∀ a, a < n → ∀ b, b < n → a ≠ b → (pm_T ci a).2.1 ≠ (pm_T ci b).2.1 := by
  have h6 : ci = 0 ∨ ci = 1 ∨ ci = 2 ∨ ci = 3 ∨ ci = 4 ∨ ci = 5 := by omega
  rcases h6 with rfl | rfl | rfl | rfl | rfl | rfl
  · exact ⟨16, rfl, rfl, inX0, ⟨tyX0, tyX0_ok, by decide +kernel⟩, nmX0⟩
  · exact ⟨4, rfl, rfl, inX1, ⟨tyX1, tyX1_ok, by decide +kernel⟩, nmX1⟩
  · exact ⟨3, rfl, rfl, inX2, ⟨tyX2, tyX2_ok, by decide +kernel⟩, nmX2⟩
  · exact ⟨8, rfl, rfl, inX3, ⟨tyX3, tyX3_ok, by decide +kernel⟩, nmX3⟩
  · exact ⟨10, rfl, rfl, inX4, ⟨tyX4, tyX4_ok, by decide +kernel⟩, nmX4⟩
  · exact ⟨28, rfl, rfl, inX5, ⟨tyX5, tyX5_ok, by decide +kernel⟩, nmX5⟩
theorem pm_u_in {ci n : Nat} (h : ∀ w ∈ u_ws (pm_cn ci) (pm_T ci) n, w ∈ lw_tbl) : ∀ w ∈ u_ws (pm_cn ci) (pm_T ci) n, w ∈ pm_tbl := by
  intro w hw
  refine pm_tbl_in (h w hw) ?_
  obtain ⟨k, -, rfl⟩ := List.mem_map.mp hw
  unfold u_lay
  split <;> rfl
/-! ===== END ===== -/
end
section
section PMR
variable {p : Program} {l : Launch} {e : Env} {R : Room} {s : State} {m : MethodId} {args : Array Value} {below : List Frame} {meth : Method} {c : Code} {H : Heap} {locs : List Loc} {cells slots : Nat} {Q : State → Prop}
variable {cc : ByteArray} {pc : Nat} {ls : Array Slot} {rest : List Value} {G : pm_G} {D : pm_Mem}
theorem pm_sl_use {s : State} {args : Array Value} (hts : ∀ w ∈ pm_tbl, w.before args s = true) (hnw : ∀ w ∈ pm_nws, va_Nw w s) {o k : Nat} {au : Value} (h : (o, k, au) ∈ pm_sl) : ∃ r, au = .ref r ∧ (r = 80 ∨ r = 81) ∧ ((Cond.fieldLink (pm_cn o) k RX4 (pm_sn r) "[I").before args s = true ∨ (Cond.fieldLinkNest (pm_cn o) k RX4 (pm_sn r) "[I" RX4).before args s = true) := by
  unfold pm_sl at h
  simp only [List.mem_cons, List.not_mem_nil, or_false, Prod.mk.injEq] at h
  rcases h with ⟨rfl, rfl, rfl⟩ | ⟨rfl, rfl, rfl⟩ | ⟨rfl, rfl, rfl⟩ | ⟨rfl, rfl, rfl⟩
  · exact ⟨80, rfl, Or.inl rfl, Or.inr (va_Nw.use rfl (hnw _ (by unfold pm_nws; exact List.mem_append_right _ (List.mem_of_getElem? (i := 0) rfl))))⟩
  · exact ⟨81, rfl, Or.inr rfl, Or.inr (va_Nw.use rfl (hnw _ (by unfold pm_nws; exact List.mem_append_right _ (List.mem_of_getElem? (i := 1) rfl))))⟩
  · exact ⟨80, rfl, Or.inl rfl, Or.inl (hts _ (pm_tab (pm_sl_in _ (List.mem_of_getElem? (i := 2) rfl)) rfl))⟩
  · exact ⟨81, rfl, Or.inr rfl, Or.inl (hts _ (pm_tab (pm_sl_in _ (List.mem_of_getElem? (i := 3) rfl)) rfl))⟩

theorem pm_gets (hV : pm_V G s) (hC : pm_Cx G s D H locs) (hx : p.tables.exec = Jvm.exec) (hb : c.code = cc) {o k : Nat} {au : Value} (hown : s.vm.findClass (pm_cn o) = some m.cls) (hts : ∀ w ∈ pm_tbl, w.before args s = true) (h : (o, k, au) ∈ pm_sl) (hd : decode cc pc = .ok (.getstatic k, 3))
    (kk : W p l e R s m args below meth c H locs cells slots Q (F0 m (pc + 3) ls (pm_e (pm_ad G) au :: rest))) : W p l e R s m args below meth c H locs cells slots Q (F0 m pc ls rest) := by
  obtain ⟨r, rfl, hr, hl⟩ := pm_sl_use hts hV.2.2.2.1 h
  have hZ : va_Z RX4 (pm_sn r) "[I" (.ref (pm_ad G r)) (pm_A G) s s.heap := by
    rcases hr with rfl | rfl
    · exact hV.2.1
    · exact hV.2.2.1
  rcases hl with hl | hl
  · exact va_gets hx hb hZ hC.2.2 hown hl (fun _ h => h) hd kk
  · exact va_getsN hx hb hZ hC.2.2 hown hl (fun _ h => h) hd kk
theorem pm_aald {DC : va_G} {cl : List vw_C} {tys : List (ClassId × FieldType)} {ws : va_W} {a : Nat} (hexec : p.tables.exec = Jvm.exec) (hb : c.code = cc) (hK : va_K DC cl tys s) (hP : va_P DC cl ws H) (q0 t0 : Nat) {cA : ClassId} {ty : FieldType} {n : Nat} {f : Nat → Option Nat} (ha : ws[q0]? = some (a, .inl (cA, n, .inr (.inr (.inr (.inr f)))))) (ht : tys[t0]? = some (cA, .array ty)) {i : Int32} (hin : vp_in i n) (hdg : decode cc pc = .ok (.aaload, 1))
    (kk : W p l e R s m args below meth c H locs cells slots Q (F0 m (pc + 1) ls (va_rf (f i.toNatClampNeg) :: rest))) : W p l e R s m args below meth c H locs cells slots Q (F0 m pc ls (.int i :: .ref a :: rest)) := by
  have hlt : i.toNatClampNeg < n := Nat.not_le.mp fun q => hin (Or.inr q)
  exact W.aald (v := va_rf (f i.toNatClampNeg)) (ty := .array ty) hexec hb (hP q0 _ ha) ((hK.2 t0 _ ht).1 n (fun j => va_rf (f j))) rfl (fun q => by cases q) (by show ¬ (i < 0 ∨ (arrV _ _ _).slots.size ≤ _); rw [arrV_size]; exact hin) (by show (arrV _ _ _).slots[_]? = _; rw [arrV_read _ _ hlt]) rfl rfl hdg kk
theorem pm_sig_at {j : Nat} {z : Bool × Nat × Nat} (h : pm_sig[j]? = some z) : (pm_st (pm_mj j), pm_ow (pm_mj j), pm_na (pm_mj j)) = z := by
  unfold pm_sig at h
  rw [List.getElem?_map] at h
  unfold pm_mj
  rw [List.getD_eq_getElem?_getD]
  cases hj : pm_ms[j]? with
  | none => rw [hj] at h; cases h
  | some q => rw [hj] at h; exact Option.some.inj h
set_option maxRecDepth 100000 in
theorem pm_ys_map : pm_ys = pm_ms.map pm_y := rfl
theorem pm_yj_eq {j : Nat} {z : Bool × Nat × Nat} (h : pm_sig[j]? = some z) : pm_yj j = pm_y (pm_mj j) := by
  unfold pm_sig at h
  rw [List.getElem?_map] at h
  unfold pm_yj pm_mj
  rw [List.getD_eq_getElem?_getD, List.getD_eq_getElem?_getD, pm_ys_map, List.getElem?_map]
  cases hj : pm_ms[j]? with
  | none => rw [hj] at h; cases h
  | some q => rfl
end PMR
end
section
section PMC
variable {p : Program} {l : Launch} {e : Env} {R : Room} {s : State} {m : MethodId} {args : Array Value} {below : List Frame} {meth : Method} {c : Code} {H : Heap} {locs : List Loc} {cells slots : Nat} {Q : State → Prop}
variable {cc : ByteArray} {pc : Nat} {ls : Array Slot} {rest st0 : List Value} {a : Array Value} {G : pm_G} {D : pm_Mem}
theorem pm_callG {post : pm_Post} (hr : va_Run p l e R s m args below meth c H locs cells slots 0 0 (F0 m pc ls st0) rest (pm_Qc G post a) (pm_A G)) (hC : pm_Cx G s D H locs)
    (kk : ∀ (r : Option Value) (D' : pm_Mem) (H1 : Heap) (locs1 : List Loc), post r D' → pm_Cx G s D' H1 locs1 → W p l e R s m args below meth c H1 locs1 cells slots Q (F0 m (pc + 3) ls ((r.map (pm_e (pm_ad G))).toList ++ rest))) : W p l e R s m args below meth c H locs cells slots Q (F0 m pc ls st0) := by
  intro T hT X
  obtain ⟨v, st₀, t, T', L, h0, X', hL, e1, e2, ⟨⟨r, D', hv, hp, hst⟩, hz, hk⟩, st⟩ := hr T hT X
  cases hv
  rw [h0] at hz hk
  have hS := hC.2.2
  obtain ⟨t2, a1, b1⟩ := kk r D' T'.heap (locs ++ L) hp ⟨by rw [e1]; exact hst.1, by rw [e1]; exact hst.2.1, Nat.le_trans hS.1 (by rw [e1]; exact hz), fun q h1 h2 => by rw [e1, hk q (Nat.lt_of_lt_of_le h1 hS.1) h2]; exact hS.2.1 q h1 h2, fun q hq => by
      rcases List.mem_append.mp hq with h | h
      · exact hS.2.2 q h
      · exact hL q h⟩ T' rfl X'
  exact ⟨t2, st t2 a1, b1⟩
theorem pm_ws_in {q : pm_MI} (h : pm_MOK q) : ∀ w ∈ pm_wsm q, w ∈ pm_tbl := by
  intro w hw
  rcases List.mem_cons.mp hw with rfl | hw
  · exact pm_tbl_in h.2.1 rfl
  · exact hw
theorem pm_runV {N d o k j ci n nL r : Nat} {as' : List Value} {post : pm_Post} (hG : pm_ok G) (hN : pm_N G = N) (hV : pm_V G s) (hx : p.tables.exec = Jvm.exec) (hb : c.code = cc) (hml : c.maxLocals = nL) (hown : s.vm.findClass (pm_cn o) = some m.cls) (hts : ∀ w ∈ pm_tbl, w.before args s = true) (hm : pm_MOK (pm_mj j)) (hR : d + 1 ≤ R.frames ∧ 36 * (d + 1) ≤ R.locals) (hcs : cells ≤ R.cells ∧ slots ≤ R.slots) (hC : pm_Cx G s D H locs) (hsz : ls.size = nL)
    (hlk : (o, k, j) ∈ pm_ml ∨ (o, k, j) ∈ pm_mn) (hsig : pm_sig[j]? = some (false, ci, n)) (h6 : ci < 6) (hlen : (Value.ref r :: as').length = n) (hrt : (pm_sh N r).1 = 4 + ci) (hcat : ((rest.map (pm_e (pm_ad G))).map fun v => v.category).sum ≤ 8) (hd : decode cc pc = .ok (.invokevirtual k, 3)) (hM : pm_C l G d j (.ref r :: as') D post)
    (kk : ∀ (r : Option Value) (D' : pm_Mem) (H1 : Heap) (locs1 : List Loc), post r D' → pm_Cx G s D' H1 locs1 → W p l e R s m args below meth c H1 locs1 cells slots Q (F0 m (pc + 3) ls ((r.map (pm_e (pm_ad G))).toList ++ rest.map (pm_e (pm_ad G))))) : W p l e R s m args below meth c H locs cells slots Q (F0 m pc ls (((Value.ref r :: as').reverse ++ rest).map (pm_e (pm_ad G)))) := by
  have hz := pm_sig_at hsig
  simp only [Prod.mk.injEq] at hz
  obtain ⟨z1, z2, z3⟩ := hz
  obtain ⟨m1, m2, m3, m4, m5, m6, m7, m8, m9⟩ := hm
  have m6 := m6 z1
  rcases hs : pm_sh N r with ⟨t, nn, fs⟩
  have ht : t = ci + 4 := by rw [hs] at hrt; simpa [Nat.add_comm] using hrt
  subst ht
  have hr := pm_sh_obj hs
  obtain ⟨nz, hnz, hcl, -, -, -⟩ := pm_cl_at h6
  have hw : pm_w G D r = (pm_ad G r, .inr (ci, pm_fs (pm_ad G) (D r) 0 fs)) := by unfold pm_w; rw [hN, hs]; rfl
  have hrecv := va_recv (q := (pm_cn ci, pm_T ci, nz)) hV.1 (hC.one (r := r) (by omega)) hcl (q0 := 0) (congrArg some hw)
  have hcn : pm_cn ci = (pm_y (pm_mj j)).cls := by rw [← m8, z2]
  have e0 : ((Value.ref r :: as').reverse ++ rest).map (pm_e (pm_ad G)) = (as'.map (pm_e (pm_ad G))).reverse ++ .ref (pm_ad G r) :: rest.map (pm_e (pm_ad G)) := by
    simp [List.map_append, List.map_reverse, pm_e]
  rw [e0]
  have hn0 : (as'.map (pm_e (pm_ad G))).length = pm_na (pm_mj j) - 1 := by
    rw [z3, ← hlen]
    simp
  have hpre : PreV s H (pm_y (pm_mj j)).cls (pm_ad G r) (pm_Pc G (.ref r :: as') D) (as'.map (pm_e (pm_ad G))) :=
    ⟨fun a U g mk q => ⟨q.1, q.2.blind hG g mk a⟩, by rw [← hcn]; exact hrecv, fun U hU hW => ⟨rfl, hC.st hG hV hU hW⟩⟩
  have hroom : (pm_rm d).frames + 1 ≤ R.frames ∧ 8 + (pm_mL (pm_mj j) + 11) + (pm_rm d).locals ≤ R.locals := ⟨hR.1, by show 8 + (pm_mL (pm_mj j) + 11) + 36 * d ≤ R.locals; omega⟩
  have hdsc : (pm_y (pm_mj j)).cls ≠ "java/lang/invoke/MethodHandle" ∧ (pm_y (pm_mj j)).cls ≠ "java/lang/invoke/VarHandle" ∧ (parseMethodDescriptor (pm_y (pm_mj j)).desc).map (fun d => d.parameters.length) = some (pm_na (pm_mj j) - 1) := by
    rw [z1] at m3
    simpa using m3
  have hyj : pm_yj j = pm_y (pm_mj j) := pm_yj_eq hsig
  have hin : Cond.instanceMethod (pm_y (pm_mj j)) ∈ pm_tbl := pm_tbl_in m6.1 rfl
  have hse : Cond.selects (pm_y (pm_mj j)).cls (pm_y (pm_mj j)) (pm_y (pm_mj j)) ∈ pm_tbl := pm_tbl_in m6.2 rfl
  have hini : Cond.initialized (pm_y (pm_mj j)).cls ∈ pm_tbl := pm_tbl_in m4 rfl
  rcases hlk with hlk | hlk
  · have hl : Cond.methodLink (pm_cn o) k (pm_y (pm_mj j)) ∈ pm_tbl := by
      rw [← hyj]
      exact pm_tab (pm_ml_in _ hlk) rfl
    exact pm_callG (va_runV (b := pm_ad G r) (As := as'.map (pm_e (pm_ad G))) (rest := rest.map (pm_e (pm_ad G))) ⟨hx, hb, hml, hown, hts⟩ hM ⟨callB_of (pm_na (pm_mj j) - 1) hts (pm_good (pm_ws_in ⟨m1, m2, m3, m4, m5, fun _ => m6, m7, m8, m9⟩)) rfl rfl rfl (hts _ hini) (hts _ hl) hdsc hroom, hts _ hin, hts _ hse⟩ hpre rfl hn0 hsz rfl (lv_room hcat) hd hcs) hC kk
  · have hl : va_Nw (.methodLinkNest (pm_cn o) k (pm_y (pm_mj j)) RX4) s := by
      rw [← hyj]
      exact hV.2.2.2.1 _ (List.mem_append_left _ (List.mem_map_of_mem (f := pm_mnw) hlk))
    exact pm_callG (va_runVN (b := pm_ad G r) (As := as'.map (pm_e (pm_ad G))) (rest := rest.map (pm_e (pm_ad G))) ⟨hx, hb, hml, hown, hts⟩ hM ⟨va_cnB (pm_na (pm_mj j) - 1) hts (pm_good (pm_ws_in ⟨m1, m2, m3, m4, m5, fun _ => m6, m7, m8, m9⟩)) rfl rfl rfl hl (hts _ hini) hdsc hroom, hts _ hin, hts _ hse⟩ hpre rfl hn0 hsz rfl (lv_room hcat) hd hcs) hC kk
theorem pm_runS {N d o k j n nL : Nat} {as : List Value} {post : pm_Post} (hG : pm_ok G) (hN : pm_N G = N) (hV : pm_V G s) (hx : p.tables.exec = Jvm.exec) (hb : c.code = cc) (hml : c.maxLocals = nL) (hown : s.vm.findClass (pm_cn o) = some m.cls) (hts : ∀ w ∈ pm_tbl, w.before args s = true) (hm : pm_MOK (pm_mj j)) (hR : d + 1 ≤ R.frames ∧ 36 * (d + 1) ≤ R.locals) (hcs : cells ≤ R.cells ∧ slots ≤ R.slots) (hC : pm_Cx G s D H locs) (hsz : ls.size = nL)
    (hlk : (o, k, j) ∈ pm_ml ∨ (o, k, j) ∈ pm_mn) (hsig : (pm_sig[j]?).map (fun z => (z.1, z.2.2)) = some (true, n)) (hlen : as.length = n) (hcat : ((rest.map (pm_e (pm_ad G))).map fun v => v.category).sum ≤ 8) (hd : decode cc pc = .ok (.invokestatic k, 3)) (hM : pm_C l G d j as D post)
    (kk : ∀ (r : Option Value) (D' : pm_Mem) (H1 : Heap) (locs1 : List Loc), post r D' → pm_Cx G s D' H1 locs1 → W p l e R s m args below meth c H1 locs1 cells slots Q (F0 m (pc + 3) ls ((r.map (pm_e (pm_ad G))).toList ++ rest.map (pm_e (pm_ad G))))) : W p l e R s m args below meth c H locs cells slots Q (F0 m pc ls ((as.reverse ++ rest).map (pm_e (pm_ad G)))) := by
  obtain ⟨z, hsg, hz0⟩ := Option.map_eq_some_iff.mp hsig
  have hz := pm_sig_at hsg
  obtain ⟨za, zb, zc⟩ := z
  simp only [Prod.mk.injEq] at hz hz0
  obtain ⟨z1, z2, z3⟩ := hz
  obtain ⟨y1, y2⟩ := hz0
  subst y1; subst y2
  obtain ⟨m1, m2, m3, m4, m5, m6, m7, m8, m9⟩ := hm
  have m5 := m5 z1
  have e0 : (as.reverse ++ rest).map (pm_e (pm_ad G)) = (as.map (pm_e (pm_ad G))).reverse ++ rest.map (pm_e (pm_ad G)) := by
    simp [List.map_append, List.map_reverse]
  rw [e0]
  have hn0 : (as.map (pm_e (pm_ad G))).length = pm_na (pm_mj j) := by
    rw [z3, ← hlen]
    simp
  have hpre : PreS s H (pm_Pc G as D) (as.map (pm_e (pm_ad G))) := ⟨fun a U g mk q => ⟨q.1, q.2.blind hG g mk a⟩, fun U hU hW => ⟨rfl, hC.st hG hV hU hW⟩⟩
  have hroom : (pm_rm d).frames + 1 ≤ R.frames ∧ 8 + (pm_mL (pm_mj j) + 11) + (pm_rm d).locals ≤ R.locals := ⟨hR.1, by show 8 + (pm_mL (pm_mj j) + 11) + 36 * d ≤ R.locals; omega⟩
  have hdsc : (pm_y (pm_mj j)).cls ≠ "java/lang/invoke/MethodHandle" ∧ (pm_y (pm_mj j)).cls ≠ "java/lang/invoke/VarHandle" ∧ (parseMethodDescriptor (pm_y (pm_mj j)).desc).map (fun d => d.parameters.length) = some (pm_na (pm_mj j)) := by
    rw [z1] at m3
    simpa using m3
  have hyj : pm_yj j = pm_y (pm_mj j) := pm_yj_eq hsg
  have hst : Cond.static (pm_y (pm_mj j)) ∈ pm_tbl := pm_tbl_in m5 rfl
  have hini : Cond.initialized (pm_y (pm_mj j)).cls ∈ pm_tbl := pm_tbl_in m4 rfl
  rcases hlk with hlk | hlk
  · have hl : Cond.methodLink (pm_cn o) k (pm_y (pm_mj j)) ∈ pm_tbl := by
      rw [← hyj]
      exact pm_tab (pm_ml_in _ hlk) rfl
    exact pm_callG (va_runS (As := as.map (pm_e (pm_ad G))) (rest := rest.map (pm_e (pm_ad G))) ⟨hx, hb, hml, hown, hts⟩ hM ⟨callB_of (pm_na (pm_mj j)) hts (pm_good (pm_ws_in ⟨m1, m2, m3, m4, fun _ => m5, m6, m7, m8, m9⟩)) rfl rfl rfl (hts _ hini) (hts _ hl) hdsc hroom, hts _ hst⟩ hpre rfl hn0 hsz rfl (lv_room hcat) hd hcs) hC kk
  · have hl : va_Nw (.methodLinkNest (pm_cn o) k (pm_y (pm_mj j)) RX4) s := by
      rw [← hyj]
      exact hV.2.2.2.1 _ (List.mem_append_left _ (List.mem_map_of_mem (f := pm_mnw) hlk))
    exact pm_callG (va_runSN (As := as.map (pm_e (pm_ad G))) (rest := rest.map (pm_e (pm_ad G))) ⟨hx, hb, hml, hown, hts⟩ hM ⟨va_cnB (pm_na (pm_mj j)) hts (pm_good (pm_ws_in ⟨m1, m2, m3, m4, fun _ => m5, m6, m7, m8, m9⟩)) rfl rfl rfl hl (hts _ hini) hdsc hroom, hts _ hst, trivial⟩ hpre rfl hn0 hsz rfl (lv_room hcat) hd hcs) hC kk
end PMC
end
section
section PMW
variable {p : Program} {l : Launch} {e : Env} {R : Room} {s : State} {m : MethodId} {args : Array Value} {below : List Frame} {meth : Method} {c : Code} {H : Heap} {locs : List Loc} {cells slots : Nat} {Q : State → Prop}
variable {pc : Nat} {ls : Array Slot} {rest st0 : List Value} {a : Array Value} {G : pm_G} {D : pm_Mem}
/-- an instruction that ends a method, with what it answers -/
def pm_isret (i : Instr) (rt : Option FieldType) (v : Option Value) : Prop :=
  (i = .ireturn ∧ ∃ x, v = some (.int x) ∧ (rt = some .int ∨ (rt = some .boolean ∧ (x = 0 ∨ x = 1)))) ∨ (i = .lreturn ∧ ∃ x, v = some (.long x) ∧ rt = some .long) ∨ (i = .areturn ∧ ∃ x, v = some (.ref x) ∧ ((∃ n, rt = some (.object n)) ∨ ∃ t, rt = some (.array t))) ∨ (i = .return_ ∧ v = none ∧ rt = none)
theorem pm_ret.spec {rt : Option FieldType} {post : pm_Post} {v : Int32} {D : pm_Mem} (h : pm_ret rt post v D) : pm_isret .ireturn rt (some (.int v)) ∧ post (some (.int v)) D := by
  unfold pm_ret at h
  split at h
  · exact ⟨Or.inl ⟨rfl, v, rfl, Or.inl rfl⟩, h⟩
  · exact ⟨Or.inl ⟨rfl, v, rfl, Or.inr ⟨rfl, h.1⟩⟩, h.2⟩
  · exact h.elim
theorem pm_sw.spec {x : Int32} {pc : Nat} {K : Nat → Prop} : ∀ {os : List Int} {lo : Int} (_ : pm_sw x pc K lo os) (_ : os.all (fun o => decide (0 ≤ (pc : Int) + o)) = true) (_ : lo ≤ x.toInt) (_ : x.toInt < lo + os.length), ∃ (off : Int) (t : Nat), os[(x.toInt - lo).toNat]? = some off ∧ (pc : Int) + off = (t : Int) ∧ K t
  | [], lo, _, _, h1, h2 => by
    simp at h2
    omega
  | o :: os, lo, h, ha, h1, h2 => by
    simp only [List.all_cons, Bool.and_eq_true, decide_eq_true_eq] at ha
    by_cases e : x.toInt = lo
    · exact ⟨o, ((pc : Int) + o).toNat, by rw [e]; simp, by omega, h.1 e⟩
    · obtain ⟨off, t, g1, g2, g3⟩ := pm_sw.spec h.2 ha.2 (by omega) (by simp at h2; omega)
      refine ⟨off, t, ?_, g2, g3⟩
      rw [show (x.toInt - lo).toNat = (x.toInt - (lo + 1)).toNat + 1 by omega, List.getElem?_cons_succ]
      exact g1
theorem pm_nar_bz (x : Int32) (h : x = 0 ∨ x = 1) : narrow .boolean (.int x) = .int x ∧ fits .boolean (.int x) = true := by
  rcases h with rfl | rfl <;> exact ⟨rfl, rfl⟩
set_option maxHeartbeats 8000000 in
set_option maxRecDepth 100000 in
theorem pm_walk {q : pm_MI} {d N : Nat} {Ga : pm_Ga} {post : pm_Post} {Qf : State → Prop} (hG : pm_ok G) (hN : pm_N G = N) (hV : pm_V G s) (hx : p.tables.exec = Jvm.exec) (hb : c.code = pm_cc q) (hml : c.maxLocals = pm_mL q) (hown : s.vm.findClass (pm_cn (pm_ow q)) = some m.cls) (hts : ∀ w ∈ pm_tbl, w.before args s = true) (hok : pm_okT q)
    (hms : ∀ j, pm_MOK (pm_mj j)) (hcall : ∀ j as D post, Ga j as D post → pm_C l G d j as D post) (hR : d + 1 ≤ R.frames ∧ 36 * (d + 1) ≤ R.locals) (hcs : cells ≤ R.cells ∧ slots ≤ R.slots)
    (hret : ∀ (i : Instr) (pc : Nat) (ls : Array Slot) (D : pm_Mem) (H : Heap) (locs : List Loc) (v : Option Value), decode (pm_cc q) pc = .ok (i, 1) → pm_isret i (pm_rt q) v → post v D → pm_Cx G s D H locs → W p l e R s m args below meth c H locs cells slots Qf (F0 m pc ls ((v.map (pm_e (pm_ad G))).toList)))
    {pc : Nat} {L : pm_L} {st : List Value} {D : pm_Mem} (hE : pm_Ev N Ga (pm_tb q) (pm_rt q) post pc L st D) : ∀ (H : Heap) (locs : List Loc) (ls : Array Slot), pm_Cx G s D H locs → pm_LS (pm_ad G) ls (pm_mL q) L → W p l e R s m args below meth c H locs cells slots Qf (F0 m pc ls (st.map (pm_e (pm_ad G)))) := by
  refine hE (fun pc L st D => ∀ (H : Heap) (locs : List Loc) (ls : Array Slot), pm_Cx G s D H locs → pm_LS (pm_ad G) ls (pm_mL q) L → W p l e R s m args below meth c H locs cells slots Qf (F0 m pc ls (st.map (pm_e (pm_ad G))))) ?_
  clear hE pc L st D
  intro pc L st D hF H locs ls hC hL
  unfold pm_F at hF
  cases hlk : pm_lk (pm_tb q) pc with
  | none => rw [hlk] at hF; exact hF.elim
  | some ent =>
  obtain ⟨i, nx, au, t1, t2⟩ := ent
  rw [hlk] at hF
  obtain ⟨hn, hdx, hI⟩ := pm_okE.spec (hok _ (pm_lk_mem hlk))
  have hK := hV.1
  cases i with
  | iconst n =>
    obtain ⟨rfl, hd⟩ := hn 0 rfl
    dsimp only at hF
    have ha : au = .int (Int32.ofInt n) := of_decide_eq_true hI
    subst ha
    exact lv_iconst hx hb hd rfl (hF H locs ls hC hL)
  | bipush n =>
    obtain ⟨rfl, hd⟩ := hn 1 rfl
    dsimp only at hF
    have ha : au = .int (Int8.ofInt n).toInt32 := of_decide_eq_true hI
    subst ha
    exact lv_bipush hx hb hd rfl (hF H locs ls hC hL)
  | sipush n =>
    obtain ⟨rfl, hd⟩ := hn 2 rfl
    dsimp only at hF
    have ha : au = .int (Int16.ofInt n).toInt32 := of_decide_eq_true hI
    subst ha
    exact lv_sipush hx hb hd rfl (hF H locs ls hC hL)
  | lconst n =>
    obtain ⟨rfl, hd⟩ := hn 0 rfl
    dsimp only at hF
    have ha : au = .long (Int64.ofNat n.val) := of_decide_eq_true hI
    subst ha
    exact lv_lconst hx hb hd rfl (hF H locs ls hC hL)
  | ldc k =>
    obtain ⟨rfl, hd⟩ := hn 1 rfl
    dsimp only at hF
    simp only [pm_okI, Bool.and_eq_true, decide_eq_true_eq] at hI
    obtain ⟨h1, h2⟩ := hI
    cases au with
    | int v => exact lv_ldc hx hb hown (hts _ (pm_tab (pm_cl_in _ (List.mem_map_of_mem h1)) rfl)) hd (hF H locs ls hC hL)
    | _ => cases h2
  | ldc_w k =>
    obtain ⟨rfl, hd⟩ := hn 2 rfl
    dsimp only at hF
    simp only [pm_okI, Bool.and_eq_true, decide_eq_true_eq] at hI
    obtain ⟨h1, h2⟩ := hI
    cases au with
    | int v => exact lv_ldcw hx hb hown (hts _ (pm_tab (pm_cl_in _ (List.mem_map_of_mem h1)) rfl)) hd (hF H locs ls hC hL)
    | _ => cases h2
  | ldc2_w k =>
    obtain ⟨rfl, hd⟩ := hn 2 rfl
    dsimp only at hF
    simp only [pm_okI, Bool.and_eq_true, decide_eq_true_eq] at hI
    obtain ⟨h1, h2⟩ := hI
    cases au with
    | long v => exact lv_ldc2 hx hb hown (hts _ (pm_tab (pm_cl_in _ (List.mem_map_of_mem h1)) rfl)) hd (hF H locs ls hC hL)
    | _ => cases h2
  | getstatic k =>
    obtain ⟨rfl, hd⟩ := hn 2 rfl
    dsimp only at hF
    exact pm_gets hV hC hx hb hown hts (of_decide_eq_true hI) hd (hF H locs ls hC hL)
  | iload_n k =>
    obtain ⟨rfl, hd⟩ := hn 0 rfl
    dsimp only at hF
    have hk : (k : Nat) = t1 := Nat.eq_of_beq_eq_true hI
    split at hF
    · rename_i x hg
      exact lv_iload_n hx hb hd hk (hL.at hg) (hF H locs ls hC hL)
    · exact hF.elim
  | iload k =>
    obtain ⟨rfl, hd⟩ := hn 1 rfl
    dsimp only at hF
    have hk : k = t1 := Nat.eq_of_beq_eq_true hI
    subst hk
    split at hF
    · rename_i x hg
      exact lv_iload hx hb hd (hL.at hg) (hF H locs ls hC hL)
    · exact hF.elim
  | lload_n k =>
    obtain ⟨rfl, hd⟩ := hn 0 rfl
    dsimp only at hF
    have hk : (k : Nat) = t1 := Nat.eq_of_beq_eq_true hI
    split at hF
    · rename_i x hg
      exact lv_lload_n hx hb hd hk (hL.at hg) (hF H locs ls hC hL)
    · exact hF.elim
  | lload k =>
    obtain ⟨rfl, hd⟩ := hn 1 rfl
    dsimp only at hF
    have hk : k = t1 := Nat.eq_of_beq_eq_true hI
    subst hk
    split at hF
    · rename_i x hg
      exact lv_lload hx hb hd (hL.at hg) (hF H locs ls hC hL)
    · exact hF.elim
  | aload_n k =>
    obtain ⟨rfl, hd⟩ := hn 0 rfl
    dsimp only at hF
    have hk : (k : Nat) = t1 := Nat.eq_of_beq_eq_true hI
    split at hF
    · rename_i x hg
      exact lv_aload_n hx hb hd hk (hL.at hg) (hF H locs ls hC hL)
    · exact hF.elim
  | aload k =>
    obtain ⟨rfl, hd⟩ := hn 1 rfl
    dsimp only at hF
    have hk : k = t1 := Nat.eq_of_beq_eq_true hI
    subst hk
    split at hF
    · rename_i x hg
      exact lv_aload hx hb hd (hL.at hg) (hF H locs ls hC hL)
    · exact hF.elim
  | istore_n k =>
    obtain ⟨rfl, hd⟩ := hn 0 rfl
    dsimp only at hF
    have hk : (k : Nat) = t1 := Nat.eq_of_beq_eq_true hI
    split at hF
    · rename_i x st'
      obtain ⟨L', k1, k2, k3, k4, k5, k6⟩ := pm_set1_spec L t1 _ _ hF
      exact lv_istore_n hx hb hd hk hL.2 (by rw [← hL.1]; exact k3) rfl (fun ls' h' => k1 H locs ls' hC (pm_LS.set1 hL.1 k2 k4 k5 k6 h'))
    · exact hF.elim
  | istore k =>
    obtain ⟨rfl, hd⟩ := hn 1 rfl
    dsimp only at hF
    have hk : k = t1 := Nat.eq_of_beq_eq_true hI
    subst hk
    split at hF
    · rename_i x st'
      obtain ⟨L', k1, k2, k3, k4, k5, k6⟩ := pm_set1_spec L k _ _ hF
      exact lv_istore hx hb hd hL.2 (by rw [← hL.1]; exact k3) rfl (fun ls' h' => k1 H locs ls' hC (pm_LS.set1 hL.1 k2 k4 k5 k6 h'))
    · exact hF.elim
  | astore_n k =>
    obtain ⟨rfl, hd⟩ := hn 0 rfl
    dsimp only at hF
    have hk : (k : Nat) = t1 := Nat.eq_of_beq_eq_true hI
    split at hF
    · rename_i x st'
      obtain ⟨L', k1, k2, k3, k4, k5, k6⟩ := pm_set1_spec L t1 _ _ hF
      exact lv_astore_n hx hb hd hk hL.2 (by rw [← hL.1]; exact k3) rfl (fun ls' h' => k1 H locs ls' hC (pm_LS.set1 hL.1 k2 k4 k5 k6 h'))
    · exact hF.elim
  | astore k =>
    obtain ⟨rfl, hd⟩ := hn 1 rfl
    dsimp only at hF
    have hk : k = t1 := Nat.eq_of_beq_eq_true hI
    subst hk
    split at hF
    · rename_i x st'
      obtain ⟨L', k1, k2, k3, k4, k5, k6⟩ := pm_set1_spec L k _ _ hF
      exact lv_astore hx hb hd hL.2 (by rw [← hL.1]; exact k3) rfl (fun ls' h' => k1 H locs ls' hC (pm_LS.set1 hL.1 k2 k4 k5 k6 h'))
    · exact hF.elim
  | lstore_n k =>
    obtain ⟨rfl, hd⟩ := hn 0 rfl
    dsimp only at hF
    have hk : (k : Nat) = t1 := Nat.eq_of_beq_eq_true hI
    split at hF
    · rename_i x st'
      obtain ⟨L', k1, k2, k3, k4, k4', k5, k6⟩ := pm_set2_spec L t1 _ _ hF
      exact lv_lstore_n hx hb hd hk hL.2 (by rw [← hL.1]; exact k3) rfl (fun ls' h' => k1 H locs ls' hC (pm_LS.set2 hL.1 k2 k4 k4' k5 k6 h'))
    · exact hF.elim
  | lstore k =>
    obtain ⟨rfl, hd⟩ := hn 1 rfl
    dsimp only at hF
    have hk : k = t1 := Nat.eq_of_beq_eq_true hI
    subst hk
    split at hF
    · rename_i x st'
      obtain ⟨L', k1, k2, k3, k4, k4', k5, k6⟩ := pm_set2_spec L k _ _ hF
      exact lv_lstore hx hb hd hL.2 (by rw [← hL.1]; exact k3) rfl (fun ls' h' => k1 H locs ls' hC (pm_LS.set2 hL.1 k2 k4 k4' k5 k6 h'))
    · exact hF.elim
  | iinc k n =>
    obtain ⟨rfl, hd⟩ := hn 2 rfl
    dsimp only at hF
    simp only [pm_okI, Bool.and_eq_true, decide_eq_true_eq] at hI
    have hk : k = t1 := Nat.eq_of_beq_eq_true hI.1
    subst hk
    have ha := hI.2
    subst ha
    split at hF
    · rename_i x cc' hg he
      cases he
      obtain ⟨L', k1, k2, k3, k4, k5, k6⟩ := pm_set1_spec L k _ _ hF
      obtain ⟨kk, hkk⟩ := List.getElem?_of_mem (pm_prs_in (pm_ad G) L 0 k _ hg)
      rw [Nat.zero_add] at hkk
      exact lv_iinc hx hb hd hL.2 hkk rfl (by rw [← hL.1]; exact k3) rfl (fun ls' h' => k1 H locs ls' hC (pm_LS.set1 hL.1 k2 k4 k5 k6 h'))
    · exact hF.elim
  | iadd =>
    obtain ⟨rfl, hd⟩ := hn 0 rfl
    dsimp only at hF
    split at hF
    · exact lv_iadd hx hb hd (hF H locs ls hC hL)
    · exact hF.elim
  | isub =>
    obtain ⟨rfl, hd⟩ := hn 0 rfl
    dsimp only at hF
    split at hF
    · exact lv_isub hx hb hd (hF H locs ls hC hL)
    · exact hF.elim
  | imul =>
    obtain ⟨rfl, hd⟩ := hn 0 rfl
    dsimp only at hF
    split at hF
    · exact lv_imul hx hb hd (hF H locs ls hC hL)
    · exact hF.elim
  | iand =>
    obtain ⟨rfl, hd⟩ := hn 0 rfl
    dsimp only at hF
    split at hF
    · exact lv_iand hx hb hd (hF H locs ls hC hL)
    · exact hF.elim
  | ior =>
    obtain ⟨rfl, hd⟩ := hn 0 rfl
    dsimp only at hF
    split at hF
    · exact lv_ior hx hb hd (hF H locs ls hC hL)
    · exact hF.elim
  | ishl =>
    obtain ⟨rfl, hd⟩ := hn 0 rfl
    dsimp only at hF
    split at hF
    · exact lv_ishl hx hb hd (hF H locs ls hC hL)
    · exact hF.elim
  | ishr =>
    obtain ⟨rfl, hd⟩ := hn 0 rfl
    dsimp only at hF
    split at hF
    · exact lv_ishr hx hb hd (hF H locs ls hC hL)
    · exact hF.elim
  | ladd =>
    obtain ⟨rfl, hd⟩ := hn 0 rfl
    dsimp only at hF
    split at hF
    · exact lv_ladd hx hb hd (hF H locs ls hC hL)
    · exact hF.elim
  | lmul =>
    obtain ⟨rfl, hd⟩ := hn 0 rfl
    dsimp only at hF
    split at hF
    · exact lv_lmul hx hb hd (hF H locs ls hC hL)
    · exact hF.elim
  | idiv =>
    obtain ⟨rfl, hd⟩ := hn 0 rfl
    dsimp only at hF
    split at hF
    · exact lv_idiv hx hb hd hF.1 (hF.2 H locs ls hC hL)
    · exact hF.elim
  | irem =>
    obtain ⟨rfl, hd⟩ := hn 0 rfl
    dsimp only at hF
    split at hF
    · exact lv_irem hx hb hd hF.1 (hF.2 H locs ls hC hL)
    · exact hF.elim
  | ldiv =>
    obtain ⟨rfl, hd⟩ := hn 0 rfl
    dsimp only at hF
    split at hF
    · exact lv_ldiv hx hb hd hF.1 (hF.2 H locs ls hC hL)
    · exact hF.elim
  | lrem =>
    obtain ⟨rfl, hd⟩ := hn 0 rfl
    dsimp only at hF
    split at hF
    · exact lv_lrem hx hb hd hF.1 (hF.2 H locs ls hC hL)
    · exact hF.elim
  | lcmp =>
    obtain ⟨rfl, hd⟩ := hn 0 rfl
    dsimp only at hF
    split at hF
    · exact W.lcmp hx hb hd (hF H locs ls hC hL)
    · exact hF.elim
  | ineg =>
    obtain ⟨rfl, hd⟩ := hn 0 rfl
    dsimp only at hF
    split at hF
    · exact lv_ineg hx hb hd (hF H locs ls hC hL)
    · exact hF.elim
  | iushr =>
    obtain ⟨rfl, hd⟩ := hn 0 rfl
    dsimp only at hF
    split at hF
    · exact lv_iushr hx hb hd rfl (hF H locs ls hC hL)
    · exact hF.elim
  | i2l =>
    obtain ⟨rfl, hd⟩ := hn 0 rfl
    dsimp only at hF
    split at hF
    · exact lv_i2l hx hb hd rfl (hF H locs ls hC hL)
    · exact hF.elim
  | i2b =>
    obtain ⟨rfl, hd⟩ := hn 0 rfl
    dsimp only at hF
    split at hF
    · exact lv_i2b hx hb hd rfl (hF H locs ls hC hL)
    · exact hF.elim
  | i2s =>
    obtain ⟨rfl, hd⟩ := hn 0 rfl
    dsimp only at hF
    split at hF
    · exact lv_i2s hx hb hd rfl (hF H locs ls hC hL)
    · exact hF.elim
  | dup =>
    obtain ⟨rfl, hd⟩ := hn 0 rfl
    dsimp only at hF
    split at hF
    · exact lv_dup hx hb hd rfl (hF H locs ls hC hL)
    · exact lv_dup hx hb hd rfl (hF H locs ls hC hL)
    · exact hF.elim
  | pop =>
    obtain ⟨rfl, hd⟩ := hn 0 rfl
    dsimp only at hF
    split at hF
    · exact lv_pop hx hb hd rfl (hF H locs ls hC hL)
    · exact lv_pop hx hb hd rfl (hF H locs ls hC hL)
    · exact hF.elim
  | dup2 =>
    obtain ⟨rfl, hd⟩ := hn 0 rfl
    dsimp only at hF
    split at hF
    · exact lv_dup2_11 hx hb hd rfl rfl (hF H locs ls hC hL)
    · exact hF.elim
  | goto off =>
    obtain ⟨rfl, hd⟩ := hn 2 rfl
    dsimp only at hF
    exact lv_goto hx hb hd (of_decide_eq_true hI) (hF H locs ls hC hL)
  | ifCond cd off =>
    obtain ⟨rfl, hd⟩ := hn 2 rfl
    dsimp only at hF
    have ht : (pc : Int) + off = (t1 : Int) := of_decide_eq_true hI
    split at hF
    · cases cd with
      | eq => exact lv_if_eq hx hb hd ht (fun h => hF.1 h H locs ls hC hL) (fun h => hF.2 h H locs ls hC hL)
      | ne => exact lv_if_ne hx hb hd ht (fun h => hF.1 h H locs ls hC hL) (fun h => hF.2 h H locs ls hC hL)
      | lt => exact lv_if_lt hx hb hd ht (fun h => hF.1 h H locs ls hC hL) (fun h => hF.2 h H locs ls hC hL)
      | ge => exact lv_if_ge hx hb hd ht (fun h => hF.1 h H locs ls hC hL) (fun h => hF.2 h H locs ls hC hL)
      | gt => exact lv_if_gt hx hb hd ht (fun h => hF.1 h H locs ls hC hL) (fun h => hF.2 h H locs ls hC hL)
      | le => exact lv_if_le hx hb hd ht (fun h => hF.1 h H locs ls hC hL) (fun h => hF.2 h H locs ls hC hL)
    · exact hF.elim
  | if_icmp cd off =>
    obtain ⟨rfl, hd⟩ := hn 2 rfl
    dsimp only at hF
    have ht : (pc : Int) + off = (t1 : Int) := of_decide_eq_true hI
    split at hF
    · cases cd with
      | eq => exact lv_icmp_eq hx hb hd ht (fun h => hF.1 h H locs ls hC hL) (fun h => hF.2 h H locs ls hC hL)
      | ne => exact lv_icmp_ne hx hb hd ht (fun h => hF.1 h H locs ls hC hL) (fun h => hF.2 h H locs ls hC hL)
      | lt => exact lv_icmp_lt hx hb hd ht (fun h => hF.1 h H locs ls hC hL) (fun h => hF.2 h H locs ls hC hL)
      | ge => exact lv_icmp_ge hx hb hd ht (fun h => hF.1 h H locs ls hC hL) (fun h => hF.2 h H locs ls hC hL)
      | gt => exact lv_icmp_gt hx hb hd ht (fun h => hF.1 h H locs ls hC hL) (fun h => hF.2 h H locs ls hC hL)
      | le => exact lv_icmp_le hx hb hd ht (fun h => hF.1 h H locs ls hC hL) (fun h => hF.2 h H locs ls hC hL)
    · exact hF.elim
  | tableswitch dv lo hi offs =>
    simp only [pm_okI, Bool.and_eq_true, decide_eq_true_eq] at hI
    obtain ⟨⟨h1, h2⟩, h3⟩ := hI
    dsimp only at hF
    split at hF
    · rename_i x st'
      by_cases ho : x.toInt < lo ∨ hi < x.toInt
      · exact lv_tableOut hx hb hdx ho h1 (hF.1 ho H locs ls hC hL)
      · obtain ⟨off, t, g1, g2, g3⟩ := pm_sw.spec hF.2 h3 (by omega) (by omega)
        exact lv_tableIn hx hb hdx (fun h => ho (Or.inl h)) (fun h => ho (Or.inr h)) (by rw [← Array.getElem?_toList]; exact g1) g2 (g3 H locs ls hC hL)
    · exact hF.elim
  | lookupswitch dv ps =>
    dsimp only at hF
    split at hF
    · obtain ⟨t, g1, g2⟩ := hF
      exact lv_lookup hx hb hdx (by simpa [pm_okI] using hI) rfl g1 (g2 H locs ls hC hL)
    · exact hF.elim
  | getfield k =>
    obtain ⟨rfl, hd⟩ := hn 2 rfl
    dsimp only at hF
    have hq := of_decide_eq_true hI
    split at hF
    · rename_i r st'
      obtain ⟨n, fs, hs, hh⟩ := pm_gf.spec hF
      have hr := pm_sh_obj hs
      obtain ⟨h6, hkz⟩ := pm_fl_lt _ hq
      obtain ⟨nz, hnz, hcl, hin, -, -⟩ := pm_cl_at h6
      have hw : pm_w G D r = (pm_ad G r, .inr (t2, pm_fs (pm_ad G) (D r) 0 fs)) := by unfold pm_w; rw [hN, hs]; rfl
      have hlink : (Cond.fieldLink (pm_cn (pm_ow q)) k (pm_T t2 t1).1 (pm_T t2 t1).2.1 (pm_T t2 t1).2.2.1).before args s = true := hts _ (pm_tab (pm_fl_in _ (List.mem_map_of_mem hq)) rfl)
      rcases hh with ⟨h1, h2⟩ | ⟨q9, h1, h2⟩
      · exact va_get (v := .int (D r t1)) hx hb hts (pm_u_in hin) hown hK (hC.one (by omega)) 0 (congrArg some hw) hcl t1 (by rw [hnz]; exact hkz) hlink (fun _ h => h) (by rw [pm_fs_int _ _ _ _ _ h1, Nat.zero_add]) hd (h2 H locs ls hC hL)
      · exact va_get (v := .ref (pm_ad G q9)) hx hb hts (pm_u_in hin) hown hK (hC.one (by omega)) 0 (congrArg some hw) hcl t1 (by rw [hnz]; exact hkz) hlink (fun _ h => h) (pm_fs_ref _ _ _ _ _ _ h1) hd (h2 H locs ls hC hL)
    · exact hF.elim
  | putfield k =>
    obtain ⟨rfl, hd⟩ := hn 2 rfl
    dsimp only at hF
    simp only [pm_okI, Bool.and_eq_true, decide_eq_true_eq, Bool.not_eq_true'] at hI
    obtain ⟨hq, hfin⟩ := hI
    split at hF
    · rename_i x r st'
      obtain ⟨n, fs, hs, h1, hbz, h2⟩ := pm_pf.spec hF
      have hr := pm_sh_obj hs
      obtain ⟨h6, hkz⟩ := pm_fl_lt _ hq
      obtain ⟨nz, hnz, hcl, hin, ⟨ty, hty, hty2⟩, hnm⟩ := pm_cl_at h6
      have hw : pm_w G D r = (pm_ad G r, .inr (t2, pm_fs (pm_ad G) (D r) 0 fs)) := by unfold pm_w; rw [hN, hs]; rfl
      have hlink : (Cond.fieldLink (pm_cn (pm_ow q)) k (pm_T t2 t1).1 (pm_T t2 t1).2.1 (pm_T t2 t1).2.2.1).before args s = true := hts _ (pm_tab (pm_fl_in _ (List.mem_map_of_mem hq)) rfl)
      have hkn : t1 < nz := by rw [hnz]; exact hkz
      have hnf : narrow (ty t1) (.int x) = .int x ∧ fits (ty t1) (.int x) = true := by
        rw [hty2 t1 hkn hfin]
        split
        · rename_i hz
          exact pm_nar_bz x (hbz hz)
        · exact ⟨rfl, rfl⟩
      refine va_put (v := .int x) (ty := ty t1) hx hb hts (pm_u_in hin) ty hty hnm hown hK hC.1 (pm_D0 hG D) hC.2.2 r ((pm_ws_at G D hr).trans (congrArg some hw)) hcl t1 hkn hlink (fun _ h => h) hfin (hty t1 hkn) hnf.1 hnf.2 (by rw [pm_fs_len]; exact pm_nth_lt _ _ _ h1) hd (fun H1 locs1 hP1 _ hS1 => ?_)
      refine h2 H1 locs1 ls (hC.put hG hV hr ?_ (fun k hk => pm_mu_ne D t1 x hk) hP1 hS1) hL
      unfold pm_w
      rw [hN, hs, pm_mu_row, pm_fs_set _ _ _ _ _ _ h1, Nat.zero_add]
      rfl
    · exact hF.elim
  | arraylength =>
    obtain ⟨rfl, hd⟩ := hn 0 rfl
    dsimp only at hF
    split at hF
    · rename_i r st'
      split at hF
      · rename_i n fs hs
        have hw : pm_w G D r = (pm_ad G r, .inl (pm_cI G, n, .inl (D r))) := by unfold pm_w; rw [hN, hs]; rfl
        exact va_alen hx hb hK (hC.one (pm_sh_arr hs (by omega))) 0 0 (congrArg some hw) rfl rfl hd (hF H locs ls hC hL)
      · exact hF.elim
    · exact hF.elim
  | iaload =>
    obtain ⟨rfl, hd⟩ := hn 0 rfl
    dsimp only at hF
    split at hF
    · rename_i j r st'
      split at hF
      · rename_i n fs hs
        have hw : pm_w G D r = (pm_ad G r, .inl (pm_cI G, n, .inl (D r))) := by unfold pm_w; rw [hN, hs]; rfl
        exact va_iald hx hb hK (hC.one (pm_sh_arr hs (by omega))) 0 0 (congrArg some hw) rfl hF.1 hd (hF.2 H locs ls hC hL)
      · exact hF.elim
    · exact hF.elim
  | baload =>
    obtain ⟨rfl, hd⟩ := hn 0 rfl
    dsimp only at hF
    split at hF
    · rename_i j r st'
      split at hF
      · rename_i n fs hs
        have hw : pm_w G D r = (pm_ad G r, .inl (pm_cB G, n, .inl (D r))) := by unfold pm_w; rw [hN, hs]; rfl
        exact va_bald hx hb hK (hC.one (pm_sh_arr hs (by omega))) 0 1 (congrArg some hw) rfl hF.1 hd (hF.2 H locs ls hC hL)
      · rename_i n fs hs
        have hw : pm_w G D r = (pm_ad G r, .inl (pm_cZ G, n, .inl (D r))) := by unfold pm_w; rw [hN, hs]; rfl
        exact va_zald hx hb hK (hC.one (pm_sh_arr hs (by omega))) 0 2 (congrArg some hw) rfl hF.1 hd (hF.2 H locs ls hC hL)
      · exact hF.elim
    · exact hF.elim
  | aaload =>
    obtain ⟨rfl, hd⟩ := hn 0 rfl
    dsimp only at hF
    split at hF
    · rename_i j r st'
      split at hF
      · rename_i n q9 fs hs
        have hr := pm_sh_grd hs
        have hw : pm_w G D r = (pm_ad G r, .inl (pm_cG G, n, .inr (.inr (.inr (.inr (fun i => if i < n then some (pm_ad G (q9 + i)) else none)))))) := by unfold pm_w; rw [hN, hs]; rfl
        have hlt : j.toNatClampNeg < n := Nat.not_le.mp fun q => hF.1 (Or.inr q)
        refine pm_aald hx hb hK (hC.one (r := r) (by omega)) 0 3 (congrArg some hw) rfl hF.1 hd ?_
        rw [if_pos hlt]
        exact hF.2 H locs ls hC hL
      · exact hF.elim
    · exact hF.elim
  | iastore =>
    obtain ⟨rfl, hd⟩ := hn 0 rfl
    dsimp only at hF
    split at hF
    · rename_i x j r st'
      split at hF
      · rename_i n fs hs
        have hr := hF.1
        have hw : pm_w G D r = (pm_ad G r, .inl (pm_cI G, n, .inl (D r))) := by unfold pm_w; rw [hN, hs]; rfl
        refine va_iast hx hb hK hC.1 (pm_D0 hG D) hC.2.2 r 0 ((pm_ws_at G D hr).trans (congrArg some hw)) rfl hF.2.1 hd (fun H1 locs1 hP1 _ hS1 => ?_)
        refine hF.2.2 H1 locs1 ls (hC.put hG hV hr ?_ (fun k hk => pm_mu_ne D _ x hk) hP1 hS1) hL
        unfold pm_w
        rw [hN, hs, pm_mu_row]
        rfl
      · exact hF.elim
    · exact hF.elim
  | bastore =>
    obtain ⟨rfl, hd⟩ := hn 0 rfl
    dsimp only at hF
    split at hF
    · rename_i x j r st'
      split at hF
      · rename_i n fs hs
        have hr := hF.1
        have hw : pm_w G D r = (pm_ad G r, .inl (pm_cB G, n, .inl (D r))) := by unfold pm_w; rw [hN, hs]; rfl
        refine va_bast hx hb hK hC.1 (pm_D0 hG D) hC.2.2 r 1 ((pm_ws_at G D hr).trans (congrArg some hw)) rfl hF.2.1 hd (fun H1 locs1 hP1 _ hS1 => ?_)
        refine hF.2.2 H1 locs1 ls (hC.put hG hV hr ?_ (fun k hk => pm_mu_ne D _ _ hk) hP1 hS1) hL
        unfold pm_w
        rw [hN, hs, pm_mu_row]
        rfl
      · rename_i n fs hs
        have hr := hF.1
        have hw : pm_w G D r = (pm_ad G r, .inl (pm_cZ G, n, .inl (D r))) := by unfold pm_w; rw [hN, hs]; rfl
        refine va_zast hx hb hK hC.1 (pm_D0 hG D) hC.2.2 r 2 ((pm_ws_at G D hr).trans (congrArg some hw)) rfl hF.2.1 hd (fun H1 locs1 hP1 _ hS1 => ?_)
        refine hF.2.2 H1 locs1 ls (hC.put hG hV hr ?_ (fun k hk => pm_mu_ne D _ _ hk) hP1 hS1) hL
        unfold pm_w
        rw [hN, hs, pm_mu_row]
        rfl
      · exact hF.elim
    · exact hF.elim
  | invokevirtual k =>
    obtain ⟨rfl, hd⟩ := hn 2 rfl
    dsimp only at hF
    simp only [pm_okI, Bool.and_eq_true, Bool.or_eq_true, decide_eq_true_eq] at hI
    obtain ⟨hlk2, h2⟩ := hI
    split at hF
    · rename_i n
      simp only [Bool.and_eq_true, decide_eq_true_eq] at h2
      obtain ⟨⟨h3, h4⟩, h5⟩ := h2
      obtain ⟨as, rest, rfl, hlen, hF⟩ := pm_arg.spec hF
      obtain ⟨r, as', rfl, hrt, hF⟩ := pm_recv.spec hF
      obtain ⟨hcat, hF⟩ := pm_low.spec hF
      exact pm_runV hG hN hV hx hb hml hown hts (hms t1) hR hcs hC hL.2.1 hlk2 h3 (Nat.le_of_ble_eq_true h5) hlen hrt (by rw [pm_cats_eq]; exact hcat) hd (hcall _ _ _ _ hF) (fun r9 D9 H9 locs9 hp9 hC9 => by
        have := hp9 H9 locs9 ls hC9 hL
        rw [List.map_append] at this
        cases r9 with
        | none => exact this
        | some v9 => exact this)
    · exact hF.elim
  | invokestatic k =>
    obtain ⟨rfl, hd⟩ := hn 2 rfl
    dsimp only at hF
    split at hF
    · rename_i n
      simp only [pm_okI, Bool.and_eq_true, Bool.or_eq_true, decide_eq_true_eq] at hI
      obtain ⟨hlk2, h2⟩ := hI
      obtain ⟨as, rest, rfl, hlen, hF⟩ := pm_arg.spec hF
      obtain ⟨hcat, hF⟩ := pm_low.spec hF
      exact pm_runS hG hN hV hx hb hml hown hts (hms t1) hR hcs hC hL.2.1 hlk2 h2 hlen (by rw [pm_cats_eq]; exact hcat) hd (hcall _ _ _ _ hF) (fun r9 D9 H9 locs9 hp9 hC9 => by
        have := hp9 H9 locs9 ls hC9 hL
        rw [List.map_append] at this
        cases r9 with
        | none => exact this
        | some v9 => exact this)
    · have hm : (pm_ow q, k, 0) ∈ pm_mx := of_decide_eq_true hI
      split at hF
      · exact va_mmax hx hb (by rw [hml]; exact hL.2.1.symm) hown (hts _ (pm_tab (pm_mx_in _ (List.mem_map_of_mem hm)) rfl)) (hts _ (pm_tab (pm_mxc_in _ (List.mem_of_getElem? (i := 1) rfl)) rfl)) (hts _ (pm_tab (pm_mxc_in _ (List.mem_of_getElem? (i := 0) rfl)) rfl)) (hts _ (pm_tab (pm_mxc_in _ (List.mem_of_getElem? (i := 4) rfl)) rfl)) (by omega) (by have h8 := pm_low.spec hF; rw [pm_cats_eq]; omega) hcs.1 hcs.2 hd ((pm_low.spec hF).2 H locs ls hC hL)
      · exact hF.elim
    · have hm : (pm_ow q, k, 1) ∈ pm_mx := of_decide_eq_true hI
      split at hF
      · exact va_mmin hx hb (by rw [hml]; exact hL.2.1.symm) hown (hts _ (pm_tab (pm_mx_in _ (List.mem_map_of_mem hm)) rfl)) (hts _ (pm_tab (pm_mxc_in _ (List.mem_of_getElem? (i := 2) rfl)) rfl)) (hts _ (pm_tab (pm_mxc_in _ (List.mem_of_getElem? (i := 0) rfl)) rfl)) (hts _ (pm_tab (pm_mxc_in _ (List.mem_of_getElem? (i := 5) rfl)) rfl)) (by omega) (by have h8 := pm_low.spec hF; rw [pm_cats_eq]; omega) hcs.1 hcs.2 hd ((pm_low.spec hF).2 H locs ls hC hL)
      · exact hF.elim
    · have hm : (pm_ow q, k, 2) ∈ pm_mx := of_decide_eq_true hI
      split at hF
      · exact va_mabs hx hb (by rw [hml]; exact hL.2.1.symm) hown (hts _ (pm_tab (pm_mx_in _ (List.mem_map_of_mem hm)) rfl)) (hts _ (pm_tab (pm_mxc_in _ (List.mem_of_getElem? (i := 3) rfl)) rfl)) (hts _ (pm_tab (pm_mxc_in _ (List.mem_of_getElem? (i := 0) rfl)) rfl)) (hts _ (pm_tab (pm_mxc_in _ (List.mem_of_getElem? (i := 6) rfl)) rfl)) (by omega) (by have h8 := pm_low.spec hF; rw [pm_cats_eq]; omega) hcs.1 hcs.2 hd ((pm_low.spec hF).2 H locs ls hC hL)
      · exact hF.elim
    · exact hF.elim
  | ireturn =>
    obtain ⟨rfl, hd⟩ := hn 0 rfl
    dsimp only at hF
    split at hF
    · rename_i v
      obtain ⟨h1, h2⟩ := pm_ret.spec hF
      exact hret .ireturn pc ls D H locs _ hd h1 h2 hC
    · exact hF.elim
  | lreturn =>
    obtain ⟨rfl, hd⟩ := hn 0 rfl
    dsimp only at hF
    split at hF
    · rename_i v hrt
      exact hret .lreturn pc ls D H locs _ hd (Or.inr (Or.inl ⟨rfl, v, rfl, hrt⟩)) hF hC
    · exact hF.elim
  | areturn =>
    obtain ⟨rfl, hd⟩ := hn 0 rfl
    dsimp only at hF
    split at hF
    · rename_i v n9 hrt
      exact hret .areturn pc ls D H locs _ hd (Or.inr (Or.inr (Or.inl ⟨rfl, v, rfl, Or.inl ⟨_, hrt⟩⟩))) hF hC
    · rename_i v n9 hrt
      exact hret .areturn pc ls D H locs _ hd (Or.inr (Or.inr (Or.inl ⟨rfl, v, rfl, Or.inr ⟨_, hrt⟩⟩))) hF hC
    · exact hF.elim
  | return_ =>
    obtain ⟨rfl, hd⟩ := hn 0 rfl
    dsimp only at hF
    split at hF
    · rename_i hrt
      exact hret .return_ pc ls D H locs none hd (Or.inr (Or.inr (Or.inr ⟨rfl, rfl, hrt⟩))) hF hC
    · exact hF.elim
  | _ => exact hF.elim
end PMW
end
section
def pm_mw4 (q : pm_MI) : List Cond := Cond.code (pm_y q) (pm_cc q) (pm_mL q) (pm_rt q) :: Cond.initialized (pm_y q).cls :: (if pm_st q = true then [Cond.static (pm_y q)] else [Cond.instanceMethod (pm_y q), Cond.selects (pm_y q).cls (pm_y q) (pm_y q)])
def pm_c3 (q : pm_MI) : Bool := plainName (pm_y q).cls && decide ((pm_y q).cls ≠ "java/lang/invoke/MethodHandle") && decide ((pm_y q).cls ≠ "java/lang/invoke/VarHandle") && decide ((parseMethodDescriptor (pm_y q).desc).map (fun d => d.parameters.length) = some (if pm_st q = true then pm_na q else pm_na q - 1)) && Nat.ble (pm_mL q) 17 && decide (pm_cn (pm_ow q) = (pm_y q).cls)
theorem pm_MOK.of {q : pm_MI} (ps : List Nat) (hw : ps.map (fun i => lw_tbl[i]?) = (pm_mw4 q).map some) (h3 : pm_c3 q = true) (ht : (pm_tb q).all (pm_okE (pm_ow q) (pm_cc q)) = true) : pm_MOK q := by
  have hin := pm_inl lw_tbl (pm_mw4 q) ps hw
  unfold pm_c3 at h3
  simp only [Bool.and_eq_true, decide_eq_true_eq] at h3
  obtain ⟨⟨⟨⟨⟨a1, a2⟩, a3⟩, a4⟩, a5⟩, a6⟩ := h3
  refine ⟨a1, hin _ (List.mem_cons_self), ⟨a2, a3, a4⟩, hin _ (List.mem_cons_of_mem _ List.mem_cons_self), fun hs => hin _ ?_, fun hs => ⟨hin _ ?_, hin _ ?_⟩, Nat.le_of_ble_eq_true a5, a6, .of ht⟩
  · unfold pm_mw4
    rw [if_pos hs]
    exact List.mem_cons_of_mem _ (List.mem_cons_of_mem _ List.mem_cons_self)
  · unfold pm_mw4
    rw [if_neg (by rw [hs]; decide)]
    exact List.mem_cons_of_mem _ (List.mem_cons_of_mem _ List.mem_cons_self)
  · unfold pm_mw4
    rw [if_neg (by rw [hs]; decide)]
    exact List.mem_cons_of_mem _ (List.mem_cons_of_mem _ (List.mem_cons_of_mem _ List.mem_cons_self))
end
section
set_option maxRecDepth 100000 in
theorem mokX3_wordRead : pm_MOK miX3_wordRead := .of [301, 55, 300, 4] (by decide +kernel) (by decide +kernel) (by decide +kernel)
set_option maxRecDepth 100000 in
theorem mokX0_clear : pm_MOK miX0_clear := .of [278, 54, 276, 277] (by decide +kernel) (by decide +kernel) (by decide +kernel)
set_option maxRecDepth 100000 in
theorem mokX0_becomeLike : pm_MOK miX0_becomeLike := .of [411, 54, 409, 410] (by decide +kernel) (by decide +kernel) (by decide +kernel)
set_option maxRecDepth 100000 in
theorem mokX0_has : pm_MOK miX0_has := .of [432, 54, 430, 431] (by decide +kernel) (by decide +kernel) (by decide +kernel)
set_option maxRecDepth 100000 in
theorem mokX0_rowOf : pm_MOK miX0_rowOf := .of [436, 54, 434, 435] (by decide +kernel) (by decide +kernel) (by decide +kernel)
set_option maxRecDepth 100000 in
theorem mokX0_sumOf : pm_MOK miX0_sumOf := .of [748, 54, 746, 747] (by decide +kernel) (by decide +kernel) (by decide +kernel)
set_option maxRecDepth 100000 in
theorem mokX0_lastPlace : pm_MOK miX0_lastPlace := .of [404, 54, 402, 403] (by decide +kernel) (by decide +kernel) (by decide +kernel)
set_option maxRecDepth 100000 in
theorem mokX0_stillBits : pm_MOK miX0_stillBits := .of [423, 54, 421, 422] (by decide +kernel) (by decide +kernel) (by decide +kernel)
set_option maxRecDepth 100000 in
theorem mokX0_addBead : pm_MOK miX0_addBead := .of [400, 54, 398, 399] (by decide +kernel) (by decide +kernel) (by decide +kernel)
set_option maxRecDepth 100000 in
theorem mokX0_addKnock : pm_MOK miX0_addKnock := .of [388, 54, 386, 387] (by decide +kernel) (by decide +kernel) (by decide +kernel)
set_option maxRecDepth 100000 in
theorem mokX0_changePlaces : pm_MOK miX0_changePlaces := .of [595, 54, 593, 594] (by decide +kernel) (by decide +kernel) (by decide +kernel)
set_option maxRecDepth 100000 in
theorem mokX0_stretchOf : pm_MOK miX0_stretchOf := .of [440, 54, 438, 439] (by decide +kernel) (by decide +kernel) (by decide +kernel)
set_option maxRecDepth 100000 in
theorem mokX0_pullOf : pm_MOK miX0_pullOf := .of [444, 54, 442, 443] (by decide +kernel) (by decide +kernel) (by decide +kernel)
set_option maxRecDepth 100000 in
theorem mokX0_knockOnce : pm_MOK miX0_knockOnce := .of [477, 54, 475, 476] (by decide +kernel) (by decide +kernel) (by decide +kernel)
set_option maxRecDepth 100000 in
theorem mokX0_knockByPlan : pm_MOK miX0_knockByPlan := .of [516, 54, 514, 515] (by decide +kernel) (by decide +kernel) (by decide +kernel)
set_option maxRecDepth 100000 in
theorem mokX0_tickOnce : pm_MOK miX0_tickOnce := .of [512, 54, 510, 511] (by decide +kernel) (by decide +kernel) (by decide +kernel)
set_option maxRecDepth 100000 in
theorem mokX0_tickOften : pm_MOK miX0_tickOften := .of [508, 54, 506, 507] (by decide +kernel) (by decide +kernel) (by decide +kernel)
set_option maxRecDepth 100000 in
theorem mokX0_move : pm_MOK miX0_move := .of [521, 54, 519, 520] (by decide +kernel) (by decide +kernel) (by decide +kernel)
set_option maxRecDepth 100000 in
theorem mokX0_goOn : pm_MOK miX0_goOn := .of [531, 54, 530, 13] (by decide +kernel) (by decide +kernel) (by decide +kernel)
set_option maxRecDepth 100000 in
theorem mokX0_slowed : pm_MOK miX0_slowed := .of [526, 54, 525, 12] (by decide +kernel) (by decide +kernel) (by decide +kernel)
set_option maxRecDepth 100000 in
theorem mokX0_inBounds : pm_MOK miX0_inBounds := .of [481, 54, 480] (by decide +kernel) (by decide +kernel) (by decide +kernel)
set_option maxRecDepth 100000 in
theorem mokX0_greatestSwing : pm_MOK miX0_greatestSwing := .of [542, 54, 540, 541] (by decide +kernel) (by decide +kernel) (by decide +kernel)
set_option maxRecDepth 100000 in
theorem mokX1_note : pm_MOK miX1_note := .of [635, 56, 633, 634] (by decide +kernel) (by decide +kernel) (by decide +kernel)
set_option maxRecDepth 100000 in
theorem mokX1_isSoOf : pm_MOK miX1_isSoOf := .of [651, 56, 649, 650] (by decide +kernel) (by decide +kernel) (by decide +kernel)
set_option maxRecDepth 100000 in
theorem mokX1_latestTick : pm_MOK miX1_latestTick := .of [655, 56, 654, 19] (by decide +kernel) (by decide +kernel) (by decide +kernel)
set_option maxRecDepth 100000 in
theorem mokX1_agrees : pm_MOK miX1_agrees := .of [660, 56, 659, 20] (by decide +kernel) (by decide +kernel) (by decide +kernel)
set_option maxRecDepth 100000 in
theorem mokX2_isNothing : pm_MOK miX2_isNothing := .of [716, 57, 714, 715] (by decide +kernel) (by decide +kernel) (by decide +kernel)
set_option maxRecDepth 100000 in
theorem mokX2_make : pm_MOK miX2_make := .of [704, 57, 702, 703] (by decide +kernel) (by decide +kernel) (by decide +kernel)
set_option maxRecDepth 100000 in
theorem mokX2_put : pm_MOK miX2_put := .of [721, 57, 719, 720] (by decide +kernel) (by decide +kernel) (by decide +kernel)
set_option maxRecDepth 100000 in
theorem mokX2_faultAt : pm_MOK miX2_faultAt := .of [712, 57, 710, 711] (by decide +kernel) (by decide +kernel) (by decide +kernel)
set_option maxRecDepth 100000 in
theorem mokX2_faultAs : pm_MOK miX2_faultAs := .of [733, 57, 732, 24] (by decide +kernel) (by decide +kernel) (by decide +kernel)
set_option maxRecDepth 100000 in
theorem mokX2_faultOfPair : pm_MOK miX2_faultOfPair := .of [729, 57, 727, 728] (by decide +kernel) (by decide +kernel) (by decide +kernel)
set_option maxRecDepth 100000 in
theorem mokX3_put : pm_MOK miX3_put := .of [262, 55, 260, 261] (by decide +kernel) (by decide +kernel) (by decide +kernel)
set_option maxRecDepth 100000 in
theorem mokX3_tellInto : pm_MOK miX3_tellInto := .of [274, 55, 272, 273] (by decide +kernel) (by decide +kernel) (by decide +kernel)
set_option maxRecDepth 100000 in
theorem mokX3_blame : pm_MOK miX3_blame := .of [293, 55, 292, 2] (by decide +kernel) (by decide +kernel) (by decide +kernel)
set_option maxRecDepth 100000 in
theorem mokX3_takeLine : pm_MOK miX3_takeLine := .of [297, 55, 296, 3] (by decide +kernel) (by decide +kernel) (by decide +kernel)
set_option maxRecDepth 100000 in
theorem mokX3_takeBead : pm_MOK miX3_takeBead := .of [392, 55, 391, 11] (by decide +kernel) (by decide +kernel) (by decide +kernel)
set_option maxRecDepth 100000 in
theorem mokX3_takeDrag : pm_MOK miX3_takeDrag := .of [367, 55, 366, 6] (by decide +kernel) (by decide +kernel) (by decide +kernel)
set_option maxRecDepth 100000 in
theorem mokX3_takeKnock : pm_MOK miX3_takeKnock := .of [384, 55, 383, 10] (by decide +kernel) (by decide +kernel) (by decide +kernel)
set_option maxRecDepth 100000 in
theorem mokX3_takeNumber : pm_MOK miX3_takeNumber := .of [371, 55, 370, 7] (by decide +kernel) (by decide +kernel) (by decide +kernel)
set_option maxRecDepth 100000 in
theorem mokX3_takeSemicolon : pm_MOK miX3_takeSemicolon := .of [380, 55, 379, 9] (by decide +kernel) (by decide +kernel) (by decide +kernel)
set_option maxRecDepth 100000 in
theorem mokX3_readToken : pm_MOK miX3_readToken := .of [282, 55, 281, 0] (by decide +kernel) (by decide +kernel) (by decide +kernel)
end
section
set_option maxRecDepth 100000 in
theorem mokX3_runOf : pm_MOK miX3_runOf := .of [286, 55, 285, 1] (by decide +kernel) (by decide +kernel) (by decide +kernel)
set_option maxRecDepth 100000 in
theorem mokX3_numberRead : pm_MOK miX3_numberRead := .of [375, 55, 374, 8] (by decide +kernel) (by decide +kernel) (by decide +kernel)
set_option maxRecDepth 100000 in
theorem mokX4_feed : pm_MOK miX4_feed := .of [255, 53, 253, 254] (by decide +kernel) (by decide +kernel) (by decide +kernel)
set_option maxRecDepth 100000 in
theorem mokX4_end : pm_MOK miX4_end := .of [266, 53, 264, 265] (by decide +kernel) (by decide +kernel) (by decide +kernel)
set_option maxRecDepth 100000 in
theorem mokX4_text : pm_MOK miX4_text := .of [270, 53, 268, 269] (by decide +kernel) (by decide +kernel) (by decide +kernel)
set_option maxRecDepth 100000 in
theorem mokX4_fault : pm_MOK miX4_fault := .of [415, 53, 413, 414] (by decide +kernel) (by decide +kernel) (by decide +kernel)
set_option maxRecDepth 100000 in
theorem mokX4_rule : pm_MOK miX4_rule := .of [419, 53, 417, 418] (by decide +kernel) (by decide +kernel) (by decide +kernel)
set_option maxRecDepth 100000 in
theorem mokX4_bead : pm_MOK miX4_bead := .of [428, 53, 426, 427] (by decide +kernel) (by decide +kernel) (by decide +kernel)
set_option maxRecDepth 100000 in
theorem mokX4_knock : pm_MOK miX4_knock := .of [450, 53, 448, 449] (by decide +kernel) (by decide +kernel) (by decide +kernel)
set_option maxRecDepth 100000 in
theorem mokX4_alter : pm_MOK miX4_alter := .of [454, 53, 452, 453] (by decide +kernel) (by decide +kernel) (by decide +kernel)
set_option maxRecDepth 100000 in
theorem mokX4_drag : pm_MOK miX4_drag := .of [460, 53, 458, 459] (by decide +kernel) (by decide +kernel) (by decide +kernel)
set_option maxRecDepth 100000 in
theorem mokX4_bind : pm_MOK miX4_bind := .of [464, 53, 462, 463] (by decide +kernel) (by decide +kernel) (by decide +kernel)
set_option maxRecDepth 100000 in
theorem mokX4_cut : pm_MOK miX4_cut := .of [469, 53, 467, 468] (by decide +kernel) (by decide +kernel) (by decide +kernel)
set_option maxRecDepth 100000 in
theorem mokX4_hit : pm_MOK miX4_hit := .of [473, 53, 471, 472] (by decide +kernel) (by decide +kernel) (by decide +kernel)
set_option maxRecDepth 100000 in
theorem mokX4_add : pm_MOK miX4_add := .of [485, 53, 483, 484] (by decide +kernel) (by decide +kernel) (by decide +kernel)
set_option maxRecDepth 100000 in
theorem mokX4_drop : pm_MOK miX4_drop := .of [490, 53, 488, 489] (by decide +kernel) (by decide +kernel) (by decide +kernel)
set_option maxRecDepth 100000 in
theorem mokX4_calm : pm_MOK miX4_calm := .of [494, 53, 492, 493] (by decide +kernel) (by decide +kernel) (by decide +kernel)
set_option maxRecDepth 100000 in
theorem mokX4_ticks : pm_MOK miX4_ticks := .of [504, 53, 502, 503] (by decide +kernel) (by decide +kernel) (by decide +kernel)
set_option maxRecDepth 100000 in
theorem mokX4_runs : pm_MOK miX4_runs := .of [538, 53, 536, 537] (by decide +kernel) (by decide +kernel) (by decide +kernel)
set_option maxRecDepth 100000 in
theorem mokX4_ahead : pm_MOK miX4_ahead := .of [546, 53, 544, 545] (by decide +kernel) (by decide +kernel) (by decide +kernel)
set_option maxRecDepth 100000 in
theorem mokX4_when : pm_MOK miX4_when := .of [550, 53, 548, 549] (by decide +kernel) (by decide +kernel) (by decide +kernel)
set_option maxRecDepth 100000 in
theorem mokX4_rests : pm_MOK miX4_rests := .of [558, 53, 556, 557] (by decide +kernel) (by decide +kernel) (by decide +kernel)
set_option maxRecDepth 100000 in
theorem mokX4_stiff : pm_MOK miX4_stiff := .of [563, 53, 561, 562] (by decide +kernel) (by decide +kernel) (by decide +kernel)
set_option maxRecDepth 100000 in
theorem mokX4_rest : pm_MOK miX4_rest := .of [575, 53, 573, 574] (by decide +kernel) (by decide +kernel) (by decide +kernel)
set_option maxRecDepth 100000 in
theorem mokX4_kind : pm_MOK miX4_kind := .of [579, 53, 577, 578] (by decide +kernel) (by decide +kernel) (by decide +kernel)
set_option maxRecDepth 100000 in
theorem mokX4_mass : pm_MOK miX4_mass := .of [583, 53, 581, 582] (by decide +kernel) (by decide +kernel) (by decide +kernel)
set_option maxRecDepth 100000 in
theorem mokX4_swap : pm_MOK miX4_swap := .of [587, 53, 585, 586] (by decide +kernel) (by decide +kernel) (by decide +kernel)
set_option maxRecDepth 100000 in
theorem mokX4_miss : pm_MOK miX4_miss := .of [599, 53, 597, 598] (by decide +kernel) (by decide +kernel) (by decide +kernel)
set_option maxRecDepth 100000 in
theorem mokX4_swingAsItIs : pm_MOK miX4_swingAsItIs := .of [591, 53, 590, 16] (by decide +kernel) (by decide +kernel) (by decide +kernel)
set_option maxRecDepth 100000 in
theorem mokX4_steadiest : pm_MOK miX4_steadiest := .of [567, 53, 566, 14] (by decide +kernel) (by decide +kernel) (by decide +kernel)
set_option maxRecDepth 100000 in
theorem mokX4_tryWith : pm_MOK miX4_tryWith := .of [571, 53, 570, 15] (by decide +kernel) (by decide +kernel) (by decide +kernel)
set_option maxRecDepth 100000 in
theorem mokX4_luck : pm_MOK miX4_luck := .of [603, 53, 601, 602] (by decide +kernel) (by decide +kernel) (by decide +kernel)
set_option maxRecDepth 100000 in
theorem mokX4_mean : pm_MOK miX4_mean := .of [626, 53, 624, 625] (by decide +kernel) (by decide +kernel) (by decide +kernel)
set_option maxRecDepth 100000 in
theorem mokX4_runMissing : pm_MOK miX4_runMissing := .of [609, 53, 608, 17] (by decide +kernel) (by decide +kernel) (by decide +kernel)
set_option maxRecDepth 100000 in
theorem mokX4_weightOf : pm_MOK miX4_weightOf := .of [613, 53, 612] (by decide +kernel) (by decide +kernel) (by decide +kernel)
set_option maxRecDepth 100000 in
theorem mokX4_power : pm_MOK miX4_power := .of [616, 53, 615] (by decide +kernel) (by decide +kernel) (by decide +kernel)
set_option maxRecDepth 100000 in
theorem mokX4_partOfFraction : pm_MOK miX4_partOfFraction := .of [619, 53, 618] (by decide +kernel) (by decide +kernel) (by decide +kernel)
set_option maxRecDepth 100000 in
theorem mokX4_commonDivisor : pm_MOK miX4_commonDivisor := .of [622, 53, 621] (by decide +kernel) (by decide +kernel) (by decide +kernel)
set_option maxRecDepth 100000 in
theorem mokX4_see : pm_MOK miX4_see := .of [631, 53, 629, 630] (by decide +kernel) (by decide +kernel) (by decide +kernel)
set_option maxRecDepth 100000 in
theorem mokX4_forget : pm_MOK miX4_forget := .of [639, 53, 637, 638] (by decide +kernel) (by decide +kernel) (by decide +kernel)
set_option maxRecDepth 100000 in
theorem mokX4_kinds : pm_MOK miX4_kinds := .of [643, 53, 641, 642] (by decide +kernel) (by decide +kernel) (by decide +kernel)
set_option maxRecDepth 100000 in
theorem mokX4_stiffs : pm_MOK miX4_stiffs := .of [666, 53, 664, 665] (by decide +kernel) (by decide +kernel) (by decide +kernel)
set_option maxRecDepth 100000 in
theorem mokX4_ask : pm_MOK miX4_ask := .of [670, 53, 668, 669] (by decide +kernel) (by decide +kernel) (by decide +kernel)
end
section
set_option maxRecDepth 100000 in
theorem mokX4_asSeenBits : pm_MOK miX4_asSeenBits := .of [647, 53, 646, 18] (by decide +kernel) (by decide +kernel) (by decide +kernel)
set_option maxRecDepth 100000 in
theorem mokX4_traceStiffs : pm_MOK miX4_traceStiffs := .of [674, 53, 673, 21] (by decide +kernel) (by decide +kernel) (by decide +kernel)
set_option maxRecDepth 100000 in
theorem mokX4_mostAlike : pm_MOK miX4_mostAlike := .of [678, 53, 677, 22] (by decide +kernel) (by decide +kernel) (by decide +kernel)
set_option maxRecDepth 100000 in
theorem mokX4_drift : pm_MOK miX4_drift := .of [683, 53, 681, 682] (by decide +kernel) (by decide +kernel) (by decide +kernel)
set_option maxRecDepth 100000 in
theorem mokX4_keep : pm_MOK miX4_keep := .of [688, 53, 686, 687] (by decide +kernel) (by decide +kernel) (by decide +kernel)
set_option maxRecDepth 100000 in
theorem mokX4_back : pm_MOK miX4_back := .of [696, 53, 694, 695] (by decide +kernel) (by decide +kernel) (by decide +kernel)
set_option maxRecDepth 100000 in
theorem mokX4_imageOf : pm_MOK miX4_imageOf := .of [692, 53, 691, 23] (by decide +kernel) (by decide +kernel) (by decide +kernel)
set_option maxRecDepth 100000 in
theorem mokX4_sheet : pm_MOK miX4_sheet := .of [700, 53, 698, 699] (by decide +kernel) (by decide +kernel) (by decide +kernel)
set_option maxRecDepth 100000 in
theorem mokX4_lay : pm_MOK miX4_lay := .of [708, 53, 706, 707] (by decide +kernel) (by decide +kernel) (by decide +kernel)
set_option maxRecDepth 100000 in
theorem mokX4_read : pm_MOK miX4_read := .of [725, 53, 723, 724] (by decide +kernel) (by decide +kernel) (by decide +kernel)
set_option maxRecDepth 100000 in
theorem mokX4_torn : pm_MOK miX4_torn := .of [739, 53, 737, 738] (by decide +kernel) (by decide +kernel) (by decide +kernel)
set_option maxRecDepth 100000 in
theorem mokX4_count : pm_MOK miX4_count := .of [743, 53, 741, 742] (by decide +kernel) (by decide +kernel) (by decide +kernel)
set_option maxRecDepth 100000 in
theorem mokX4_within : pm_MOK miX4_within := .of [258, 53, 257] (by decide +kernel) (by decide +kernel) (by decide +kernel)
set_option maxRecDepth 100000 in
theorem mokX5_in : pm_MOK miX5_in := .of [848, 58, 847] (by decide +kernel) (by decide +kernel) (by decide +kernel)
set_option maxRecDepth 100000 in
theorem mokX5_amount : pm_MOK miX5_amount := .of [1007, 58, 1006] (by decide +kernel) (by decide +kernel) (by decide +kernel)
set_option maxRecDepth 100000 in
theorem mokX5_feed : pm_MOK miX5_feed := .of [844, 58, 842, 843] (by decide +kernel) (by decide +kernel) (by decide +kernel)
set_option maxRecDepth 100000 in
theorem mokX5_end : pm_MOK miX5_end := .of [852, 58, 850, 851] (by decide +kernel) (by decide +kernel) (by decide +kernel)
set_option maxRecDepth 100000 in
theorem mokX5_byteAt : pm_MOK miX5_byteAt := .of [864, 58, 863, 26] (by decide +kernel) (by decide +kernel) (by decide +kernel)
set_option maxRecDepth 100000 in
theorem mokX5_fails : pm_MOK miX5_fails := .of [872, 58, 871, 27] (by decide +kernel) (by decide +kernel) (by decide +kernel)
set_option maxRecDepth 100000 in
theorem mokX5_nameHere : pm_MOK miX5_nameHere := .of [880, 58, 879, 29] (by decide +kernel) (by decide +kernel) (by decide +kernel)
set_option maxRecDepth 100000 in
theorem mokX5_readsOn : pm_MOK miX5_readsOn := .of [860, 58, 859, 25] (by decide +kernel) (by decide +kernel) (by decide +kernel)
set_option maxRecDepth 100000 in
theorem mokX5_number : pm_MOK miX5_number := .of [889, 58, 888, 31] (by decide +kernel) (by decide +kernel) (by decide +kernel)
set_option maxRecDepth 100000 in
theorem mokX5_readMore : pm_MOK miX5_readMore := .of [885, 58, 884, 30] (by decide +kernel) (by decide +kernel) (by decide +kernel)
set_option maxRecDepth 100000 in
theorem mokX5_readLine : pm_MOK miX5_readLine := .of [876, 58, 875, 28] (by decide +kernel) (by decide +kernel) (by decide +kernel)
set_option maxRecDepth 100000 in
theorem mokX5_text : pm_MOK miX5_text := .of [856, 58, 854, 855] (by decide +kernel) (by decide +kernel) (by decide +kernel)
set_option maxRecDepth 100000 in
theorem mokX5_fault : pm_MOK miX5_fault := .of [893, 58, 891, 892] (by decide +kernel) (by decide +kernel) (by decide +kernel)
set_option maxRecDepth 100000 in
theorem mokX5_isBead : pm_MOK miX5_isBead := .of [909, 58, 908, 33] (by decide +kernel) (by decide +kernel) (by decide +kernel)
set_option maxRecDepth 100000 in
theorem mokX5_isKnock : pm_MOK miX5_isKnock := .of [928, 58, 927, 36] (by decide +kernel) (by decide +kernel) (by decide +kernel)
set_option maxRecDepth 100000 in
theorem mokX5_isLong : pm_MOK miX5_isLong := .of [1014, 58, 1013] (by decide +kernel) (by decide +kernel) (by decide +kernel)
set_option maxRecDepth 100000 in
theorem mokX5_stretchOn : pm_MOK miX5_stretchOn := .of [914, 58, 913, 34] (by decide +kernel) (by decide +kernel) (by decide +kernel)
set_option maxRecDepth 100000 in
theorem mokX5_pullOn : pm_MOK miX5_pullOn := .of [918, 58, 917, 35] (by decide +kernel) (by decide +kernel) (by decide +kernel)
end
section
set_option maxRecDepth 100000 in
theorem mokX5_speedOf : pm_MOK miX5_speedOf := .of [967, 58, 966] (by decide +kernel) (by decide +kernel) (by decide +kernel)
set_option maxRecDepth 100000 in
theorem mokX5_knockOn : pm_MOK miX5_knockOn := .of [964, 58, 963, 38] (by decide +kernel) (by decide +kernel) (by decide +kernel)
set_option maxRecDepth 100000 in
theorem mokX5_speedsOn : pm_MOK miX5_speedsOn := .of [1000, 58, 999, 42] (by decide +kernel) (by decide +kernel) (by decide +kernel)
set_option maxRecDepth 100000 in
theorem mokX5_placesOn : pm_MOK miX5_placesOn := .of [1004, 58, 1003, 43] (by decide +kernel) (by decide +kernel) (by decide +kernel)
set_option maxRecDepth 100000 in
theorem mokX5_lastOn : pm_MOK miX5_lastOn := .of [901, 58, 900, 32] (by decide +kernel) (by decide +kernel) (by decide +kernel)
set_option maxRecDepth 100000 in
theorem mokX5_movesOn : pm_MOK miX5_movesOn := .of [996, 58, 995, 41] (by decide +kernel) (by decide +kernel) (by decide +kernel)
set_option maxRecDepth 100000 in
theorem mokX5_tickOn : pm_MOK miX5_tickOn := .of [992, 58, 991, 40] (by decide +kernel) (by decide +kernel) (by decide +kernel)
set_option maxRecDepth 100000 in
theorem mokX5_rule : pm_MOK miX5_rule := .of [897, 58, 895, 896] (by decide +kernel) (by decide +kernel) (by decide +kernel)
set_option maxRecDepth 100000 in
theorem mokX5_bead : pm_MOK miX5_bead := .of [905, 58, 903, 904] (by decide +kernel) (by decide +kernel) (by decide +kernel)
set_option maxRecDepth 100000 in
theorem mokX5_knock : pm_MOK miX5_knock := .of [924, 58, 922, 923] (by decide +kernel) (by decide +kernel) (by decide +kernel)
set_option maxRecDepth 100000 in
theorem mokX5_puts : pm_MOK miX5_puts := .of [943, 58, 942, 37] (by decide +kernel) (by decide +kernel) (by decide +kernel)
set_option maxRecDepth 100000 in
theorem mokX5_isGood : pm_MOK miX5_isGood := .of [935, 58, 934] (by decide +kernel) (by decide +kernel) (by decide +kernel)
set_option maxRecDepth 100000 in
theorem mokX5_alter : pm_MOK miX5_alter := .of [932, 58, 930, 931] (by decide +kernel) (by decide +kernel) (by decide +kernel)
set_option maxRecDepth 100000 in
theorem mokX5_drag : pm_MOK miX5_drag := .of [947, 58, 945, 946] (by decide +kernel) (by decide +kernel) (by decide +kernel)
set_option maxRecDepth 100000 in
theorem mokX5_bind : pm_MOK miX5_bind := .of [951, 58, 949, 950] (by decide +kernel) (by decide +kernel) (by decide +kernel)
set_option maxRecDepth 100000 in
theorem mokX5_cut : pm_MOK miX5_cut := .of [955, 58, 953, 954] (by decide +kernel) (by decide +kernel) (by decide +kernel)
set_option maxRecDepth 100000 in
theorem mokX5_hit : pm_MOK miX5_hit := .of [959, 58, 957, 958] (by decide +kernel) (by decide +kernel) (by decide +kernel)
set_option maxRecDepth 100000 in
theorem mokX5_adds : pm_MOK miX5_adds := .of [975, 58, 974, 39] (by decide +kernel) (by decide +kernel) (by decide +kernel)
set_option maxRecDepth 100000 in
theorem mokX5_add : pm_MOK miX5_add := .of [971, 58, 969, 970] (by decide +kernel) (by decide +kernel) (by decide +kernel)
set_option maxRecDepth 100000 in
theorem mokX5_drop : pm_MOK miX5_drop := .of [979, 58, 977, 978] (by decide +kernel) (by decide +kernel) (by decide +kernel)
set_option maxRecDepth 100000 in
theorem mokX5_calm : pm_MOK miX5_calm := .of [983, 58, 981, 982] (by decide +kernel) (by decide +kernel) (by decide +kernel)
set_option maxRecDepth 100000 in
theorem mokX5_ticks : pm_MOK miX5_ticks := .of [987, 58, 985, 986] (by decide +kernel) (by decide +kernel) (by decide +kernel)
set_option maxRecDepth 100000 in
theorem mokX5_copies : pm_MOK miX5_copies := .of [1023, 58, 1022, 45] (by decide +kernel) (by decide +kernel) (by decide +kernel)
set_option maxRecDepth 100000 in
theorem mokX5_ticksGo : pm_MOK miX5_ticksGo := .of [1019, 58, 1018, 44] (by decide +kernel) (by decide +kernel) (by decide +kernel)
set_option maxRecDepth 100000 in
theorem mokX5_runs : pm_MOK miX5_runs := .of [1011, 58, 1009, 1010] (by decide +kernel) (by decide +kernel) (by decide +kernel)
set_option maxRecDepth 100000 in
theorem mokX5_ahead : pm_MOK miX5_ahead := .of [1027, 58, 1025, 1026] (by decide +kernel) (by decide +kernel) (by decide +kernel)
set_option maxRecDepth 100000 in
theorem mokX5_when : pm_MOK miX5_when := .of [1031, 58, 1029, 1030] (by decide +kernel) (by decide +kernel) (by decide +kernel)
set_option maxRecDepth 100000 in
theorem mokX5_rests : pm_MOK miX5_rests := .of [1035, 58, 1033, 1034] (by decide +kernel) (by decide +kernel) (by decide +kernel)
set_option maxRecDepth 100000 in
theorem mokX5_leastAt : pm_MOK miX5_leastAt := .of [1047, 58, 1046, 47] (by decide +kernel) (by decide +kernel) (by decide +kernel)
set_option maxRecDepth 100000 in
theorem mokX5_isAsked : pm_MOK miX5_isAsked := .of [1043, 58, 1042, 46] (by decide +kernel) (by decide +kernel) (by decide +kernel)
set_option maxRecDepth 100000 in
theorem mokX5_stiff : pm_MOK miX5_stiff := .of [1039, 58, 1037, 1038] (by decide +kernel) (by decide +kernel) (by decide +kernel)
set_option maxRecDepth 100000 in
theorem mokX5_rest : pm_MOK miX5_rest := .of [1052, 58, 1050, 1051] (by decide +kernel) (by decide +kernel) (by decide +kernel)
set_option maxRecDepth 100000 in
theorem mokX5_kind : pm_MOK miX5_kind := .of [1056, 58, 1054, 1055] (by decide +kernel) (by decide +kernel) (by decide +kernel)
set_option maxRecDepth 100000 in
theorem mokX5_mass : pm_MOK miX5_mass := .of [1060, 58, 1058, 1059] (by decide +kernel) (by decide +kernel) (by decide +kernel)
end
section
set_option maxRecDepth 100000 in
theorem mokX5_swap : pm_MOK miX5_swap := .of [1064, 58, 1062, 1063] (by decide +kernel) (by decide +kernel) (by decide +kernel)
set_option maxRecDepth 100000 in
theorem mokX5_miss : pm_MOK miX5_miss := .of [1068, 58, 1066, 1067] (by decide +kernel) (by decide +kernel) (by decide +kernel)
set_option maxRecDepth 100000 in
theorem mokX5_lowest : pm_MOK miX5_lowest := .of [1083, 58, 1082] (by decide +kernel) (by decide +kernel) (by decide +kernel)
set_option maxRecDepth 100000 in
theorem mokX5_byMisses : pm_MOK miX5_byMisses := .of [1080, 58, 1079, 48] (by decide +kernel) (by decide +kernel) (by decide +kernel)
set_option maxRecDepth 100000 in
theorem mokX5_luck : pm_MOK miX5_luck := .of [1072, 58, 1070, 1071] (by decide +kernel) (by decide +kernel) (by decide +kernel)
set_option maxRecDepth 100000 in
theorem mokX5_mean : pm_MOK miX5_mean := .of [1087, 58, 1085, 1086] (by decide +kernel) (by decide +kernel) (by decide +kernel)
set_option maxRecDepth 100000 in
theorem mokX5_see : pm_MOK miX5_see := .of [1091, 58, 1089, 1090] (by decide +kernel) (by decide +kernel) (by decide +kernel)
set_option maxRecDepth 100000 in
theorem mokX5_forget : pm_MOK miX5_forget := .of [1096, 58, 1094, 1095] (by decide +kernel) (by decide +kernel) (by decide +kernel)
set_option maxRecDepth 100000 in
theorem mokX5_isAsSeen : pm_MOK miX5_isAsSeen := .of [1108, 58, 1107, 50] (by decide +kernel) (by decide +kernel) (by decide +kernel)
set_option maxRecDepth 100000 in
theorem mokX5_numbersAt : pm_MOK miX5_numbersAt := .of [1104, 58, 1103, 49] (by decide +kernel) (by decide +kernel) (by decide +kernel)
set_option maxRecDepth 100000 in
theorem mokX5_kinds : pm_MOK miX5_kinds := .of [1100, 58, 1098, 1099] (by decide +kernel) (by decide +kernel) (by decide +kernel)
set_option maxRecDepth 100000 in
theorem mokX5_stiffs : pm_MOK miX5_stiffs := .of [1112, 58, 1110, 1111] (by decide +kernel) (by decide +kernel) (by decide +kernel)
set_option maxRecDepth 100000 in
theorem mokX5_worstAt : pm_MOK miX5_worstAt := .of [1120, 58, 1119, 51] (by decide +kernel) (by decide +kernel) (by decide +kernel)
set_option maxRecDepth 100000 in
theorem mokX5_ask : pm_MOK miX5_ask := .of [1116, 58, 1114, 1115] (by decide +kernel) (by decide +kernel) (by decide +kernel)
set_option maxRecDepth 100000 in
theorem mokX5_drift : pm_MOK miX5_drift := .of [1124, 58, 1122, 1123] (by decide +kernel) (by decide +kernel) (by decide +kernel)
set_option maxRecDepth 100000 in
theorem mokX5_keep : pm_MOK miX5_keep := .of [1129, 58, 1127, 1128] (by decide +kernel) (by decide +kernel) (by decide +kernel)
set_option maxRecDepth 100000 in
theorem mokX5_back : pm_MOK miX5_back := .of [1133, 58, 1131, 1132] (by decide +kernel) (by decide +kernel) (by decide +kernel)
set_option maxRecDepth 100000 in
theorem mokX5_sheet : pm_MOK miX5_sheet := .of [1137, 58, 1135, 1136] (by decide +kernel) (by decide +kernel) (by decide +kernel)
set_option maxRecDepth 100000 in
theorem mokX5_lay : pm_MOK miX5_lay := .of [1142, 58, 1140, 1141] (by decide +kernel) (by decide +kernel) (by decide +kernel)
set_option maxRecDepth 100000 in
theorem mokX5_read : pm_MOK miX5_read := .of [1146, 58, 1144, 1145] (by decide +kernel) (by decide +kernel) (by decide +kernel)
set_option maxRecDepth 100000 in
theorem mokX5_torn : pm_MOK miX5_torn := .of [1151, 58, 1149, 1150] (by decide +kernel) (by decide +kernel) (by decide +kernel)
set_option maxRecDepth 100000 in
theorem mokX5_count : pm_MOK miX5_count := .of [1155, 58, 1153, 1154] (by decide +kernel) (by decide +kernel) (by decide +kernel)
set_option maxRecDepth 100000 in
theorem mokJ6_compare_7cf53 : pm_MOK miJ6_compare_7cf53 := .of [553, 64, 552] (by decide +kernel) (by decide +kernel) (by decide +kernel)
end
section
set_option maxRecDepth 100000 in
theorem mokJ6_bitCount_0f7a4 : pm_MOK miJ6_bitCount_0f7a4 := .of [497, 64, 496] (by decide +kernel) (by decide +kernel) (by decide +kernel)
end
section
theorem pm_all0 : ∀ q ∈ ([miX3_wordRead, miX0_clear, miX0_becomeLike, miX0_has, miX0_rowOf, miX0_sumOf, miX0_lastPlace, miX0_stillBits, miX0_addBead, miX0_addKnock, miX0_changePlaces, miX0_stretchOf, miX0_pullOf, miX0_knockOnce, miX0_knockByPlan, miX0_tickOnce, miX0_tickOften, miX0_move, miX0_goOn, miX0_slowed] : List pm_MI), pm_MOK q := (List.forall_mem_cons.mpr ⟨mokX3_wordRead, (List.forall_mem_cons.mpr ⟨mokX0_clear, (List.forall_mem_cons.mpr ⟨mokX0_becomeLike, (List.forall_mem_cons.mpr ⟨mokX0_has, (List.forall_mem_cons.mpr ⟨mokX0_rowOf, (List.forall_mem_cons.mpr ⟨mokX0_sumOf, (List.forall_mem_cons.mpr ⟨mokX0_lastPlace, (List.forall_mem_cons.mpr ⟨mokX0_stillBits, (List.forall_mem_cons.mpr ⟨mokX0_addBead, (List.forall_mem_cons.mpr ⟨mokX0_addKnock, (List.forall_mem_cons.mpr ⟨mokX0_changePlaces, (List.forall_mem_cons.mpr ⟨mokX0_stretchOf, (List.forall_mem_cons.mpr ⟨mokX0_pullOf, (List.forall_mem_cons.mpr ⟨mokX0_knockOnce, (List.forall_mem_cons.mpr ⟨mokX0_knockByPlan, (List.forall_mem_cons.mpr ⟨mokX0_tickOnce, (List.forall_mem_cons.mpr ⟨mokX0_tickOften, (List.forall_mem_cons.mpr ⟨mokX0_move, (List.forall_mem_cons.mpr ⟨mokX0_goOn, (List.forall_mem_cons.mpr ⟨mokX0_slowed, (fun _ h => absurd h List.not_mem_nil)⟩)⟩)⟩)⟩)⟩)⟩)⟩)⟩)⟩)⟩)⟩)⟩)⟩)⟩)⟩)⟩)⟩)⟩)⟩)⟩)
theorem pm_all1 : ∀ q ∈ ([miX0_inBounds, miX0_greatestSwing, miX1_note, miX1_isSoOf, miX1_latestTick, miX1_agrees, miX2_isNothing, miX2_make, miX2_put, miX2_faultAt, miX2_faultAs, miX2_faultOfPair, miX3_put, miX3_tellInto, miX3_blame, miX3_takeLine, miX3_takeBead, miX3_takeDrag, miX3_takeKnock, miX3_takeNumber] : List pm_MI), pm_MOK q := (List.forall_mem_cons.mpr ⟨mokX0_inBounds, (List.forall_mem_cons.mpr ⟨mokX0_greatestSwing, (List.forall_mem_cons.mpr ⟨mokX1_note, (List.forall_mem_cons.mpr ⟨mokX1_isSoOf, (List.forall_mem_cons.mpr ⟨mokX1_latestTick, (List.forall_mem_cons.mpr ⟨mokX1_agrees, (List.forall_mem_cons.mpr ⟨mokX2_isNothing, (List.forall_mem_cons.mpr ⟨mokX2_make, (List.forall_mem_cons.mpr ⟨mokX2_put, (List.forall_mem_cons.mpr ⟨mokX2_faultAt, (List.forall_mem_cons.mpr ⟨mokX2_faultAs, (List.forall_mem_cons.mpr ⟨mokX2_faultOfPair, (List.forall_mem_cons.mpr ⟨mokX3_put, (List.forall_mem_cons.mpr ⟨mokX3_tellInto, (List.forall_mem_cons.mpr ⟨mokX3_blame, (List.forall_mem_cons.mpr ⟨mokX3_takeLine, (List.forall_mem_cons.mpr ⟨mokX3_takeBead, (List.forall_mem_cons.mpr ⟨mokX3_takeDrag, (List.forall_mem_cons.mpr ⟨mokX3_takeKnock, (List.forall_mem_cons.mpr ⟨mokX3_takeNumber, (fun _ h => absurd h List.not_mem_nil)⟩)⟩)⟩)⟩)⟩)⟩)⟩)⟩)⟩)⟩)⟩)⟩)⟩)⟩)⟩)⟩)⟩)⟩)⟩)⟩)
theorem pm_all2 : ∀ q ∈ ([miX3_takeSemicolon, miX3_readToken, miX3_runOf, miX3_numberRead, miX4_feed, miX4_end, miX4_text, miX4_fault, miX4_rule, miX4_bead, miX4_knock, miX4_alter, miX4_drag, miX4_bind, miX4_cut, miX4_hit, miX4_add, miX4_drop, miX4_calm, miX4_ticks] : List pm_MI), pm_MOK q := (List.forall_mem_cons.mpr ⟨mokX3_takeSemicolon, (List.forall_mem_cons.mpr ⟨mokX3_readToken, (List.forall_mem_cons.mpr ⟨mokX3_runOf, (List.forall_mem_cons.mpr ⟨mokX3_numberRead, (List.forall_mem_cons.mpr ⟨mokX4_feed, (List.forall_mem_cons.mpr ⟨mokX4_end, (List.forall_mem_cons.mpr ⟨mokX4_text, (List.forall_mem_cons.mpr ⟨mokX4_fault, (List.forall_mem_cons.mpr ⟨mokX4_rule, (List.forall_mem_cons.mpr ⟨mokX4_bead, (List.forall_mem_cons.mpr ⟨mokX4_knock, (List.forall_mem_cons.mpr ⟨mokX4_alter, (List.forall_mem_cons.mpr ⟨mokX4_drag, (List.forall_mem_cons.mpr ⟨mokX4_bind, (List.forall_mem_cons.mpr ⟨mokX4_cut, (List.forall_mem_cons.mpr ⟨mokX4_hit, (List.forall_mem_cons.mpr ⟨mokX4_add, (List.forall_mem_cons.mpr ⟨mokX4_drop, (List.forall_mem_cons.mpr ⟨mokX4_calm, (List.forall_mem_cons.mpr ⟨mokX4_ticks, (fun _ h => absurd h List.not_mem_nil)⟩)⟩)⟩)⟩)⟩)⟩)⟩)⟩)⟩)⟩)⟩)⟩)⟩)⟩)⟩)⟩)⟩)⟩)⟩)⟩)
theorem pm_all3 : ∀ q ∈ ([miX4_runs, miX4_ahead, miX4_when, miX4_rests, miX4_stiff, miX4_rest, miX4_kind, miX4_mass, miX4_swap, miX4_miss, miX4_swingAsItIs, miX4_steadiest, miX4_tryWith, miX4_luck, miX4_mean, miX4_runMissing, miX4_weightOf, miX4_power, miX4_partOfFraction, miX4_commonDivisor] : List pm_MI), pm_MOK q := (List.forall_mem_cons.mpr ⟨mokX4_runs, (List.forall_mem_cons.mpr ⟨mokX4_ahead, (List.forall_mem_cons.mpr ⟨mokX4_when, (List.forall_mem_cons.mpr ⟨mokX4_rests, (List.forall_mem_cons.mpr ⟨mokX4_stiff, (List.forall_mem_cons.mpr ⟨mokX4_rest, (List.forall_mem_cons.mpr ⟨mokX4_kind, (List.forall_mem_cons.mpr ⟨mokX4_mass, (List.forall_mem_cons.mpr ⟨mokX4_swap, (List.forall_mem_cons.mpr ⟨mokX4_miss, (List.forall_mem_cons.mpr ⟨mokX4_swingAsItIs, (List.forall_mem_cons.mpr ⟨mokX4_steadiest, (List.forall_mem_cons.mpr ⟨mokX4_tryWith, (List.forall_mem_cons.mpr ⟨mokX4_luck, (List.forall_mem_cons.mpr ⟨mokX4_mean, (List.forall_mem_cons.mpr ⟨mokX4_runMissing, (List.forall_mem_cons.mpr ⟨mokX4_weightOf, (List.forall_mem_cons.mpr ⟨mokX4_power, (List.forall_mem_cons.mpr ⟨mokX4_partOfFraction, (List.forall_mem_cons.mpr ⟨mokX4_commonDivisor, (fun _ h => absurd h List.not_mem_nil)⟩)⟩)⟩)⟩)⟩)⟩)⟩)⟩)⟩)⟩)⟩)⟩)⟩)⟩)⟩)⟩)⟩)⟩)⟩)⟩)
theorem pm_all4 : ∀ q ∈ ([miX4_see, miX4_forget, miX4_kinds, miX4_stiffs, miX4_ask, miX4_asSeenBits, miX4_traceStiffs, miX4_mostAlike, miX4_drift, miX4_keep, miX4_back, miX4_imageOf, miX4_sheet, miX4_lay, miX4_read, miX4_torn, miX4_count, miX4_within, miX5_in, miX5_amount] : List pm_MI), pm_MOK q := (List.forall_mem_cons.mpr ⟨mokX4_see, (List.forall_mem_cons.mpr ⟨mokX4_forget, (List.forall_mem_cons.mpr ⟨mokX4_kinds, (List.forall_mem_cons.mpr ⟨mokX4_stiffs, (List.forall_mem_cons.mpr ⟨mokX4_ask, (List.forall_mem_cons.mpr ⟨mokX4_asSeenBits, (List.forall_mem_cons.mpr ⟨mokX4_traceStiffs, (List.forall_mem_cons.mpr ⟨mokX4_mostAlike, (List.forall_mem_cons.mpr ⟨mokX4_drift, (List.forall_mem_cons.mpr ⟨mokX4_keep, (List.forall_mem_cons.mpr ⟨mokX4_back, (List.forall_mem_cons.mpr ⟨mokX4_imageOf, (List.forall_mem_cons.mpr ⟨mokX4_sheet, (List.forall_mem_cons.mpr ⟨mokX4_lay, (List.forall_mem_cons.mpr ⟨mokX4_read, (List.forall_mem_cons.mpr ⟨mokX4_torn, (List.forall_mem_cons.mpr ⟨mokX4_count, (List.forall_mem_cons.mpr ⟨mokX4_within, (List.forall_mem_cons.mpr ⟨mokX5_in, (List.forall_mem_cons.mpr ⟨mokX5_amount, (fun _ h => absurd h List.not_mem_nil)⟩)⟩)⟩)⟩)⟩)⟩)⟩)⟩)⟩)⟩)⟩)⟩)⟩)⟩)⟩)⟩)⟩)⟩)⟩)⟩)
theorem pm_all5 : ∀ q ∈ ([miX5_feed, miX5_end, miX5_byteAt, miX5_fails, miX5_nameHere, miX5_readsOn, miX5_number, miX5_readMore, miX5_readLine, miX5_text, miX5_fault, miX5_isBead, miX5_isKnock, miX5_isLong, miX5_stretchOn, miX5_pullOn, miX5_speedOf, miX5_knockOn, miX5_speedsOn, miX5_placesOn] : List pm_MI), pm_MOK q := (List.forall_mem_cons.mpr ⟨mokX5_feed, (List.forall_mem_cons.mpr ⟨mokX5_end, (List.forall_mem_cons.mpr ⟨mokX5_byteAt, (List.forall_mem_cons.mpr ⟨mokX5_fails, (List.forall_mem_cons.mpr ⟨mokX5_nameHere, (List.forall_mem_cons.mpr ⟨mokX5_readsOn, (List.forall_mem_cons.mpr ⟨mokX5_number, (List.forall_mem_cons.mpr ⟨mokX5_readMore, (List.forall_mem_cons.mpr ⟨mokX5_readLine, (List.forall_mem_cons.mpr ⟨mokX5_text, (List.forall_mem_cons.mpr ⟨mokX5_fault, (List.forall_mem_cons.mpr ⟨mokX5_isBead, (List.forall_mem_cons.mpr ⟨mokX5_isKnock, (List.forall_mem_cons.mpr ⟨mokX5_isLong, (List.forall_mem_cons.mpr ⟨mokX5_stretchOn, (List.forall_mem_cons.mpr ⟨mokX5_pullOn, (List.forall_mem_cons.mpr ⟨mokX5_speedOf, (List.forall_mem_cons.mpr ⟨mokX5_knockOn, (List.forall_mem_cons.mpr ⟨mokX5_speedsOn, (List.forall_mem_cons.mpr ⟨mokX5_placesOn, (fun _ h => absurd h List.not_mem_nil)⟩)⟩)⟩)⟩)⟩)⟩)⟩)⟩)⟩)⟩)⟩)⟩)⟩)⟩)⟩)⟩)⟩)⟩)⟩)⟩)
theorem pm_all6 : ∀ q ∈ ([miX5_lastOn, miX5_movesOn, miX5_tickOn, miX5_rule, miX5_bead, miX5_knock, miX5_puts, miX5_isGood, miX5_alter, miX5_drag, miX5_bind, miX5_cut, miX5_hit, miX5_adds, miX5_add, miX5_drop, miX5_calm, miX5_ticks, miX5_copies, miX5_ticksGo] : List pm_MI), pm_MOK q := (List.forall_mem_cons.mpr ⟨mokX5_lastOn, (List.forall_mem_cons.mpr ⟨mokX5_movesOn, (List.forall_mem_cons.mpr ⟨mokX5_tickOn, (List.forall_mem_cons.mpr ⟨mokX5_rule, (List.forall_mem_cons.mpr ⟨mokX5_bead, (List.forall_mem_cons.mpr ⟨mokX5_knock, (List.forall_mem_cons.mpr ⟨mokX5_puts, (List.forall_mem_cons.mpr ⟨mokX5_isGood, (List.forall_mem_cons.mpr ⟨mokX5_alter, (List.forall_mem_cons.mpr ⟨mokX5_drag, (List.forall_mem_cons.mpr ⟨mokX5_bind, (List.forall_mem_cons.mpr ⟨mokX5_cut, (List.forall_mem_cons.mpr ⟨mokX5_hit, (List.forall_mem_cons.mpr ⟨mokX5_adds, (List.forall_mem_cons.mpr ⟨mokX5_add, (List.forall_mem_cons.mpr ⟨mokX5_drop, (List.forall_mem_cons.mpr ⟨mokX5_calm, (List.forall_mem_cons.mpr ⟨mokX5_ticks, (List.forall_mem_cons.mpr ⟨mokX5_copies, (List.forall_mem_cons.mpr ⟨mokX5_ticksGo, (fun _ h => absurd h List.not_mem_nil)⟩)⟩)⟩)⟩)⟩)⟩)⟩)⟩)⟩)⟩)⟩)⟩)⟩)⟩)⟩)⟩)⟩)⟩)⟩)⟩)
theorem pm_all7 : ∀ q ∈ ([miX5_runs, miX5_ahead, miX5_when, miX5_rests, miX5_leastAt, miX5_isAsked, miX5_stiff, miX5_rest, miX5_kind, miX5_mass, miX5_swap, miX5_miss, miX5_lowest, miX5_byMisses, miX5_luck, miX5_mean, miX5_see, miX5_forget, miX5_isAsSeen, miX5_numbersAt] : List pm_MI), pm_MOK q := (List.forall_mem_cons.mpr ⟨mokX5_runs, (List.forall_mem_cons.mpr ⟨mokX5_ahead, (List.forall_mem_cons.mpr ⟨mokX5_when, (List.forall_mem_cons.mpr ⟨mokX5_rests, (List.forall_mem_cons.mpr ⟨mokX5_leastAt, (List.forall_mem_cons.mpr ⟨mokX5_isAsked, (List.forall_mem_cons.mpr ⟨mokX5_stiff, (List.forall_mem_cons.mpr ⟨mokX5_rest, (List.forall_mem_cons.mpr ⟨mokX5_kind, (List.forall_mem_cons.mpr ⟨mokX5_mass, (List.forall_mem_cons.mpr ⟨mokX5_swap, (List.forall_mem_cons.mpr ⟨mokX5_miss, (List.forall_mem_cons.mpr ⟨mokX5_lowest, (List.forall_mem_cons.mpr ⟨mokX5_byMisses, (List.forall_mem_cons.mpr ⟨mokX5_luck, (List.forall_mem_cons.mpr ⟨mokX5_mean, (List.forall_mem_cons.mpr ⟨mokX5_see, (List.forall_mem_cons.mpr ⟨mokX5_forget, (List.forall_mem_cons.mpr ⟨mokX5_isAsSeen, (List.forall_mem_cons.mpr ⟨mokX5_numbersAt, (fun _ h => absurd h List.not_mem_nil)⟩)⟩)⟩)⟩)⟩)⟩)⟩)⟩)⟩)⟩)⟩)⟩)⟩)⟩)⟩)⟩)⟩)⟩)⟩)⟩)
theorem pm_all8 : ∀ q ∈ ([miX5_kinds, miX5_stiffs, miX5_worstAt, miX5_ask, miX5_drift, miX5_keep, miX5_back, miX5_sheet, miX5_lay, miX5_read, miX5_torn, miX5_count, miJ6_compare_7cf53, miJ6_bitCount_0f7a4] : List pm_MI), pm_MOK q := (List.forall_mem_cons.mpr ⟨mokX5_kinds, (List.forall_mem_cons.mpr ⟨mokX5_stiffs, (List.forall_mem_cons.mpr ⟨mokX5_worstAt, (List.forall_mem_cons.mpr ⟨mokX5_ask, (List.forall_mem_cons.mpr ⟨mokX5_drift, (List.forall_mem_cons.mpr ⟨mokX5_keep, (List.forall_mem_cons.mpr ⟨mokX5_back, (List.forall_mem_cons.mpr ⟨mokX5_sheet, (List.forall_mem_cons.mpr ⟨mokX5_lay, (List.forall_mem_cons.mpr ⟨mokX5_read, (List.forall_mem_cons.mpr ⟨mokX5_torn, (List.forall_mem_cons.mpr ⟨mokX5_count, (List.forall_mem_cons.mpr ⟨mokJ6_compare_7cf53, (List.forall_mem_cons.mpr ⟨mokJ6_bitCount_0f7a4, (fun _ h => absurd h List.not_mem_nil)⟩)⟩)⟩)⟩)⟩)⟩)⟩)⟩)⟩)⟩)⟩)⟩)⟩)⟩)
set_option maxRecDepth 100000 in
theorem pm_ms_app : pm_ms = [miX3_wordRead, miX0_clear, miX0_becomeLike, miX0_has, miX0_rowOf, miX0_sumOf, miX0_lastPlace, miX0_stillBits, miX0_addBead, miX0_addKnock, miX0_changePlaces, miX0_stretchOf, miX0_pullOf, miX0_knockOnce, miX0_knockByPlan, miX0_tickOnce, miX0_tickOften, miX0_move, miX0_goOn, miX0_slowed] ++ ([miX0_inBounds, miX0_greatestSwing, miX1_note, miX1_isSoOf, miX1_latestTick, miX1_agrees, miX2_isNothing, miX2_make, miX2_put, miX2_faultAt, miX2_faultAs, miX2_faultOfPair, miX3_put, miX3_tellInto, miX3_blame, miX3_takeLine, miX3_takeBead, miX3_takeDrag, miX3_takeKnock, miX3_takeNumber] ++ ([miX3_takeSemicolon, miX3_readToken, miX3_runOf, miX3_numberRead, miX4_feed, miX4_end, miX4_text, miX4_fault, miX4_rule, miX4_bead, miX4_knock, miX4_alter, miX4_drag, miX4_bind, miX4_cut, miX4_hit, miX4_add, miX4_drop, miX4_calm, miX4_ticks] ++ ([miX4_runs, miX4_ahead, miX4_when, miX4_rests, miX4_stiff, miX4_rest, miX4_kind, miX4_mass, miX4_swap, miX4_miss, miX4_swingAsItIs, miX4_steadiest, miX4_tryWith, miX4_luck, miX4_mean, miX4_runMissing, miX4_weightOf, miX4_power, miX4_partOfFraction, miX4_commonDivisor] ++ ([miX4_see, miX4_forget, miX4_kinds, miX4_stiffs, miX4_ask, miX4_asSeenBits, miX4_traceStiffs, miX4_mostAlike, miX4_drift, miX4_keep, miX4_back, miX4_imageOf, miX4_sheet, miX4_lay, miX4_read, miX4_torn, miX4_count, miX4_within, miX5_in, miX5_amount] ++ ([miX5_feed, miX5_end, miX5_byteAt, miX5_fails, miX5_nameHere, miX5_readsOn, miX5_number, miX5_readMore, miX5_readLine, miX5_text, miX5_fault, miX5_isBead, miX5_isKnock, miX5_isLong, miX5_stretchOn, miX5_pullOn, miX5_speedOf, miX5_knockOn, miX5_speedsOn, miX5_placesOn] ++ ([miX5_lastOn, miX5_movesOn, miX5_tickOn, miX5_rule, miX5_bead, miX5_knock, miX5_puts, miX5_isGood, miX5_alter, miX5_drag, miX5_bind, miX5_cut, miX5_hit, miX5_adds, miX5_add, miX5_drop, miX5_calm, miX5_ticks, miX5_copies, miX5_ticksGo] ++ ([miX5_runs, miX5_ahead, miX5_when, miX5_rests, miX5_leastAt, miX5_isAsked, miX5_stiff, miX5_rest, miX5_kind, miX5_mass, miX5_swap, miX5_miss, miX5_lowest, miX5_byMisses, miX5_luck, miX5_mean, miX5_see, miX5_forget, miX5_isAsSeen, miX5_numbersAt] ++ ([miX5_kinds, miX5_stiffs, miX5_worstAt, miX5_ask, miX5_drift, miX5_keep, miX5_back, miX5_sheet, miX5_lay, miX5_read, miX5_torn, miX5_count, miJ6_compare_7cf53, miJ6_bitCount_0f7a4])))))))) := rfl
theorem pm_all : ∀ q ∈ pm_ms, pm_MOK q := by
  rw [pm_ms_app]
  exact (List.forall_mem_append.mpr ⟨pm_all0, (List.forall_mem_append.mpr ⟨pm_all1, (List.forall_mem_append.mpr ⟨pm_all2, (List.forall_mem_append.mpr ⟨pm_all3, (List.forall_mem_append.mpr ⟨pm_all4, (List.forall_mem_append.mpr ⟨pm_all5, (List.forall_mem_append.mpr ⟨pm_all6, (List.forall_mem_append.mpr ⟨pm_all7, pm_all8⟩)⟩)⟩)⟩)⟩)⟩)⟩)⟩)
theorem pm_allj : ∀ j, pm_MOK (pm_mj j) := by
  intro j
  unfold pm_mj
  rw [List.getD_eq_getElem?_getD]
  cases hj : pm_ms[j]? with
  | none => exact mokX3_wordRead
  | some q => exact pm_all q (List.mem_of_getElem? hj)
end
section
/-! ===== the small machine's methods, by how many calls deep: what holds there holds of the machine ===== -/
def pm_WP (N : Nat) (Ga : pm_Ga) (q : pm_MI) (as : List Value) (D : pm_Mem) (post : pm_Post) : Prop := Nat.ble (lg_sl as).length (pm_mL q) = true ∧ pm_Ev N Ga (pm_tb q) (pm_rt q) post 0 (pm_ent as (pm_mL q)) [] D
/-- plain, rope, block, slack, drag, on, back -/
def pm_words : List (List Int32) := [[112, 108, 97, 105, 110], [114, 111, 112, 101], [98, 108, 111, 99, 107], [115, 108, 97, 99, 107], [100, 114, 97, 103], [111, 110], [98, 97, 99, 107]]
def pm_eqs (f : Nat → Int32) : Nat → List Int32 → Bool
  | _, [] => true
  | a, x :: l => decide (f a = x) && pm_eqs f (a + 1) l
/-- whether the bytes from..behind on the tape spell a word -/
def pm_spell (D : pm_Mem) (w : List Int32) : Bool := decide (D 42 6 - D 42 5 = nI w.length) && pm_eqs (D 43) (D 42 5).toNatClampNeg w
def pm_wf (D : pm_Mem) : List (List Int32) → Nat → Int32
  | [], k => nI k
  | w :: ws, k => if pm_spell D w = true then nI k else pm_wf D ws (k + 1)
/-- Tape.wordRead() -/
def pm_word (d : Nat) (as : List Value) (D : pm_Mem) (post : pm_Post) : Prop := 6 ≤ d ∧ as = [.ref 42] ∧ (∃ a b : Nat, a ≤ b ∧ b ≤ 160 ∧ D 42 5 = nI a ∧ D 42 6 = nI b) ∧ post (some (.int (pm_wf D pm_words 0))) D
def pm_D (N : Nat) : Nat → pm_Ga
  | 0 => fun _ _ _ _ => False
  | d + 1 => fun j as D post => match j with
    | 0 => pm_word d as D post
    | j + 1 => pm_WP N (pm_D N d) (pm_mj (j + 1)) as D post
set_option maxHeartbeats 4000000 in
theorem pm_step {l : Launch} {G : pm_G} {N d : Nat} {Ga : pm_Ga} (hG : pm_ok G) (hN : pm_N G = N) (hcall : ∀ j as D post, Ga j as D post → pm_C l G d j as D post) {j : Nat} {as : List Value} {D : pm_Mem} {post : pm_Post} (h : pm_WP N Ga (pm_mj j) as D post) : pm_C l G (d + 1) j as D post := by
  obtain ⟨hfit, hE⟩ := h
  obtain ⟨m1, m2, m3, m4, m5, m6, m7, m8, m9⟩ := pm_allj j
  refine Met.ofW (cc := pm_cc (pm_mj j)) (maxL := pm_mL (pm_mj j)) (ret := pm_rt (pm_mj j)) m1 rfl ?_
  intro p e s m args below meth c s₁ B hml hv
  obtain ⟨rfl, hst⟩ := hv
  have hx := B.exec
  have hb := B.bytes
  have hr := B.returns
  have hts0 := atoms_spec (ws := pm_wsm (pm_mj j)) B.pre
  have hts : ∀ w ∈ pm_tbl, w.before (as.map (pm_e (pm_ad G))).toArray s = true := fun w hw => hts0 w (List.mem_cons_of_mem _ hw)
  have hown : s.vm.findClass (pm_y (pm_mj j)).cls = some m.cls := findClass_of_methodNamed B.named
  rw [← m8] at hown
  have hlocks := B.notSynchronized
  rw [lg_entry_eq]
  refine pm_walk (st := []) (L := pm_ent as (pm_mL (pm_mj j))) (D := D) hG hN hst.2.2 hx hb hml hown hts m9 pm_allj hcall ⟨Nat.le_refl _, Nat.le_refl _⟩ ⟨Nat.le_refl _, Nat.le_refl _⟩ ?_ hE s.heap [] _ ⟨hst.1, hst.2.1, va_S.rf⟩ (pm_LS.entry _ as (Nat.le_of_ble_eq_true hfit))
  intro i pc ls D' H locs v hd hi hp hC
  have hQ : ∀ t : State, t.heap = H → s.WarmedH t.vm → pm_Qc G post (as.map (pm_e (pm_ad G))).toArray s (.returned (v.map (pm_e (pm_ad G)))) t := fun t ht hW => ⟨⟨v, D', rfl, hp, hC.st hG hst.2.2 ht hW⟩, hC.2.2.F ht⟩
  rcases hi with ⟨rfl, x, rfl, hrt⟩ | ⟨rfl, x, rfl, hrt⟩ | ⟨rfl, x, rfl, hrt⟩ | ⟨rfl, rfl, hrt⟩
  · rcases hrt with hrt | ⟨hrt, hz⟩
    · rw [hrt] at hr
      exact W.iret hx hb hr hQ hC.2.2.2.2 hd
    · rw [hrt] at hr
      exact W.zret hx hb hr (pm_nar_bz x hz).1 hQ hC.2.2.2.2 hd
  · rw [hrt] at hr
    exact W.lret hx hb hr hQ hC.2.2.2.2 hd
  · rcases hrt with ⟨n, hrt⟩ | ⟨n, hrt⟩
    · rw [hrt] at hr
      exact W.aret hx hb hr (Or.inl ⟨_, rfl⟩) (Or.inr ⟨_, rfl⟩) hQ hC.2.2.2.2 hd
    · rw [hrt] at hr
      exact W.aret hx hb hr (Or.inr ⟨_, rfl⟩) (Or.inr ⟨_, rfl⟩) hQ hC.2.2.2.2 hd
  · rw [hrt] at hr
    exact W.vret hx hb hr hQ hC.2.2.2.2 hd
theorem pm_sound {l : Launch} {G : pm_G} {N : Nat} (hG : pm_ok G) (hN : pm_N G = N) (hword : ∀ d as D post, pm_word d as D post → pm_C l G (d + 1) 0 as D post) : ∀ (d j : Nat) (as : List Value) (D : pm_Mem) (post : pm_Post), pm_D N d j as D post → pm_C l G d j as D post
  | 0, _, _, _, _, h => h.elim
  | d + 1, 0, as, D, post, h => hword d as D post h
  | d + 1, j + 1, as, D, post, h => pm_step hG hN (pm_sound hG hN hword d) h
/-! ===== END ===== -/
end
section
/-! ===== WHAT IS MEANT: a page of numbers (as the reference lays it), what a tick does to it ===== -/
/-- a page: kinds 0.., rests 4.., stiffs 8.., masses 12.., places 16.., speeds 20.., beads 24, knocks' beads 25.., by how much 37.., knocks 49, drag 50, tick 51 -/
abbrev z_P : Type := Nat → Int32
def z_in (x : Int32) (a b : Int) : Prop := a ≤ x.toInt ∧ x.toInt ≤ b
def z_n (g : z_P) : Nat := (g 24).toNatClampNeg
def z_k (g : z_P) : Nat := (g 49).toNatClampNeg
def z_st (g : z_P) (b : Nat) : Int32 := g (16 + b) - (if b = 0 then 0 else g (15 + b)) - g (4 + b)
def z_pull (g : z_P) (b : Nat) : Int32 := if (g b = 1 ∧ z_st g b < 0) ∨ (g b = 2 ∧ 0 < z_st g b) ∨ (g b = 3 ∧ -5 ≤ z_st g b ∧ z_st g b ≤ 5) then 0 else g (8 + b) * z_st g b
def z_pn (g : z_P) (b : Nat) : Int32 := if b < z_n g then z_pull g b else 0
def z_clamp (v : Int32) : Int32 := if 40 < v then 40 else if v < -40 then -40 else v
def z_slow (v d : Int32) : Int32 := if d < v then v - d else if v < -d then v + d else 0
/-- the speed by which bead b goes -/
def z_ns (g : z_P) (b : Nat) : Int32 := z_clamp (z_slow (g (20 + b) + (z_pn g (b + 1) - z_pull g b) / (10 * g (12 + b))) (g 50))
def z_to (g : z_P) (b : Nat) : Int32 := g (16 + b) + z_ns g b
/-- where bead b goes, with what speed it stays -/
def z_np (g : z_P) (b : Nat) : Int32 := if z_to g b < 0 then 0 else if 300 < z_to g b then 300 else z_to g b
def z_fs (g : z_P) (b : Nat) : Int32 := if z_to g b < 0 ∨ 300 < z_to g b then 0 else z_ns g b
/-- the first n beads have gone -/
def z_mv (g : z_P) (n : Nat) : z_P := fun k => if 16 ≤ k ∧ k < 16 + n then z_np g (k - 16) else if 20 ≤ k ∧ k < 20 + n then z_fs g (k - 20) else g k
def z_up (g : z_P) (k : Nat) (v : Int32) : z_P := fun j => if j = k then v else g j
def z_move (g : z_P) : z_P := z_up (z_mv g (z_n g)) 51 (g 51 + 1)
abbrev z_abs (v : Int32) : Int32 := pm_abs v
def z_gone (g : z_P) : Nat → Int32
  | 0 => 0
  | b + 1 => z_gone g b + z_abs (z_np g b - g (16 + b))
def z_stop (g : z_P) : Nat → Int32
  | 0 => 0
  | b + 1 => z_stop g b + (if z_to g b < 0 ∨ 300 < z_to g b then 1 else 0)
/-- whether one of the first n beads goes, or its speed changes -/
def z_stir (g : z_P) (n : Nat) : Prop := ∃ b, b < n ∧ (z_np g b ≠ g (16 + b) ∨ z_fs g b ≠ g (20 + b))
def z_hit (g : z_P) (b : Int32) (by_ : Int32) : z_P := if 0 ≤ b ∧ b < g 24 then z_up g (20 + b.toNatClampNeg) (z_clamp (g (20 + b.toNatClampNeg) + by_)) else g
/-- the number of the knock whose turn it is -/
def z_turn (g : z_P) : Nat := (g 51).toNatClampNeg % z_k g
def z_plan (g : z_P) : z_P := if z_k g = 0 then g else z_hit g (g (25 + z_turn g)) (g (37 + z_turn g))
def z_tick (g : z_P) : z_P := z_move (z_plan g)
def z_last (g : z_P) : Int32 := if z_n g = 0 then 0 else g (15 + z_n g)
/-- a page as it should be; its tick is T at most -/
def z_G (T : Int) (g : z_P) : Prop := g 24 = nI (z_n g) ∧ z_n g ≤ 4 ∧ g 49 = nI (z_k g) ∧ z_k g ≤ 12 ∧ z_in (g 50) 0 3 ∧ z_in (g 51) 0 T ∧
  (∀ b, b < z_n g → z_in (g b) 0 3 ∧ z_in (g (4 + b)) 0 60 ∧ z_in (g (8 + b)) 0 9 ∧ z_in (g (12 + b)) 1 9 ∧ z_in (g (16 + b)) 0 300 ∧ z_in (g (20 + b)) (-40) 40) ∧ ∀ i, i < z_k g → z_in (g (25 + i)) 0 3 ∧ z_in (g (37 + i)) (-9) 9
/-- the chain at cell c holds the page, as far as it has beads and knocks -/
def z_R (D : pm_Mem) (c : Nat) (g : z_P) : Prop := D c 0 = g 24 ∧ D c 1 = g 49 ∧ D c 2 = g 50 ∧ D c 3 = g 51 ∧
  (∀ b, b < z_n g → D (c + 1) b = g b ∧ D (c + 2) b = g (4 + b) ∧ D (c + 3) b = g (8 + b) ∧ D (c + 4) b = g (12 + b) ∧ D (c + 5) b = g (16 + b) ∧ D (c + 6) b = g (20 + b)) ∧ ∀ i, i < z_k g → D (c + 7) i = g (25 + i) ∧ D (c + 8) i = g (37 + i)
/-- nothing but the chain at c has changed -/
def z_F (c : Nat) (D D' : pm_Mem) : Prop := ∀ r, r < c ∨ c + 10 ≤ r → D' r = D r
/-! numbers -/
theorem z_le {x y : Int32} : x ≤ y ↔ x.toInt ≤ y.toInt := Int32.le_iff_toInt_le
theorem z_lt {x y : Int32} : x < y ↔ x.toInt < y.toInt := Int32.lt_iff_toInt_lt
theorem z_eq {x y : Int32} : x = y ↔ x.toInt = y.toInt := Int32.toInt_inj.symm
theorem z_tI {n : Nat} (h : n < 2 ^ 31) : (nI n).toInt = (n : Int) := nI_toInt h
theorem z_add {x y : Int32} (h1 : -2147483648 ≤ x.toInt + y.toInt) (h2 : x.toInt + y.toInt ≤ 2147483647) : (x + y).toInt = x.toInt + y.toInt := by
  rw [Int32.toInt_add]
  exact Int.bmod_eq_of_le (by omega) (by omega)
theorem z_sub {x y : Int32} (h1 : -2147483648 ≤ x.toInt - y.toInt) (h2 : x.toInt - y.toInt ≤ 2147483647) : (x - y).toInt = x.toInt - y.toInt := by
  rw [Int32.toInt_sub]
  exact Int.bmod_eq_of_le (by omega) (by omega)
theorem z_mul {x y : Int32} (h1 : -2147483648 ≤ x.toInt * y.toInt) (h2 : x.toInt * y.toInt ≤ 2147483647) : (x * y).toInt = x.toInt * y.toInt := by
  rw [Int32.toInt_mul]
  exact Int.bmod_eq_of_le (by omega) (by omega)
theorem z_cl {x : Int32} : x.toNatClampNeg = x.toInt.toNat := rfl
theorem z_of {x : Int32} {a b : Int} (h : z_in x a b) (ha : 0 ≤ a) (hb : b < 2147483648) : ∃ n : Nat, x = nI n ∧ a ≤ n ∧ (n : Int) ≤ b ∧ x.toNatClampNeg = n := by
  refine ⟨x.toInt.toNat, ?_, ?_, ?_, rfl⟩
  · rw [z_eq, z_tI]
    · have := h.1; omega
    · have := h.1; have := h.2; omega
  · have := h.1; omega
  · have := h.1; have := h.2; omega
theorem z_up_at (g : z_P) (k : Nat) (v : Int32) : z_up g k v k = v := if_pos rfl
theorem z_up_ne (g : z_P) {k j : Nat} (v : Int32) (h : j ≠ k) : z_up g k v j = g j := if_neg h
/-! the machine -/
def pm_up (N : Nat) (Ga : pm_Ga) : pm_Ga := fun j as D post => pm_WP N Ga (pm_mj j) as D post
def pm_chs : List Nat := [0, 10, 20, 30]
theorem pm_chs_of {c : Nat} (h : c ∈ pm_chs) : c = 0 ∨ c = 10 ∨ c = 20 ∨ c = 30 := by simpa [pm_chs] using h
theorem pm_mu_eq (D : pm_Mem) (r k : Nat) (v : Int32) (r' k' : Nat) : pm_mu D r k v r' k' = if r' = r then (if k' = k then v else D r' k') else D r' k' := rfl
theorem pm_mu_at (D : pm_Mem) (r k : Nat) (v : Int32) : pm_mu D r k v r k = v := by simp [pm_mu]
theorem pm_mu_r (D : pm_Mem) {r q : Nat} (k j : Nat) (v : Int32) (h : q ≠ r) : pm_mu D r k v q j = D q j := by simp [pm_mu, h]
theorem pm_mu_k (D : pm_Mem) (r q : Nat) {k j : Nat} (v : Int32) (h : j ≠ k) : pm_mu D r k v q j = D q j := by simp [pm_mu, h]
end
section
set_option maxHeartbeats 2000000 in
theorem t_within {N : Nat} {Ga : pm_Ga} {v a b : Int32} {D : pm_Mem} {post : pm_Post} (h1 : a ≤ v → v ≤ b → post (some (.int 1)) D) (h0 : ¬ (a ≤ v ∧ v ≤ b) → post (some (.int 0)) D) : pm_up N Ga 97 [.int v, .int a, .int b] D post := by
  refine ⟨rfl, fun X hX => ?_⟩
  replace hX : ∀ pc L st D, pm_F N Ga tbX4_within (some .boolean) post X pc L st D → X pc L st D := hX
  change X 0 [some (.int v), some (.int a), some (.int b)] [] D
  repeat (refine hX _ _ _ _ ?_; conv => whnf)
  refine ⟨fun q1 => ?_, fun q1 => ?_⟩
  · repeat (refine hX _ _ _ _ ?_; conv => whnf)
    exact ⟨Or.inl rfl, h0 (fun z => by rw [z_lt] at q1; have := z_le.mp z.1; omega)⟩
  · repeat (refine hX _ _ _ _ ?_; conv => whnf)
    refine ⟨fun q2 => ?_, fun q2 => ?_⟩
    · repeat (refine hX _ _ _ _ ?_; conv => whnf)
      exact ⟨Or.inl rfl, h0 (fun z => by rw [z_lt] at q2; have := z_le.mp z.2; omega)⟩
    · repeat (refine hX _ _ _ _ ?_; conv => whnf)
      exact ⟨Or.inr rfl, h1 (by rw [z_lt] at q1; rw [z_le]; omega) (by rw [z_lt] at q2; rw [z_le]; omega)⟩
set_option maxHeartbeats 2000000 in
theorem t_has {N : Nat} {Ga : pm_Ga} {c : Nat} {b : Int32} {D : pm_Mem} {post : pm_Post} (hc : c ∈ pm_chs) (h1 : 0 ≤ b → b < D c 0 → post (some (.int 1)) D) (h0 : ¬ (0 ≤ b ∧ b < D c 0) → post (some (.int 0)) D) : pm_up N Ga 3 [.ref c, .int b] D post := by
  rcases pm_chs_of hc with rfl | rfl | rfl | rfl <;> (
    refine ⟨rfl, fun X hX => ?_⟩
    replace hX : ∀ pc L st D, pm_F N Ga tbX0_has (some .boolean) post X pc L st D → X pc L st D := hX
    change X 0 [some (.ref _), some (.int b)] [] D
    repeat (refine hX _ _ _ _ ?_; conv => whnf)
    refine ⟨fun q1 => ?_, fun q1 => ?_⟩
    · repeat (refine hX _ _ _ _ ?_; conv => whnf)
      exact ⟨Or.inl rfl, h0 (fun z => by rw [z_lt] at q1; have := z_le.mp z.1; omega)⟩
    · repeat (refine hX _ _ _ _ ?_; conv => whnf)
      refine ⟨fun q2 => ?_, fun q2 => ?_⟩
      · repeat (refine hX _ _ _ _ ?_; conv => whnf)
        exact ⟨Or.inl rfl, h0 (fun z => by rw [z_le] at q2; have := z_lt.mp z.2; omega)⟩
      · repeat (refine hX _ _ _ _ ?_; conv => whnf)
        exact ⟨Or.inr rfl, h1 (by rw [z_lt] at q1; rw [z_le]; omega) (by rw [z_le] at q2; rw [z_lt]; omega)⟩)
set_option maxHeartbeats 2000000 in
theorem t_inBounds {N : Nat} {Ga : pm_Ga} {v : Int32} {D : pm_Mem} {post : pm_Post} (h : post (some (.int (z_clamp v))) D) : pm_up N Ga 20 [.int v] D post := by
  unfold z_clamp at h
  refine ⟨rfl, fun X hX => ?_⟩
  replace hX : ∀ pc L st D, pm_F N Ga tbX0_inBounds (some .int) post X pc L st D → X pc L st D := hX
  change X 0 [some (.int v)] [] D
  repeat (refine hX _ _ _ _ ?_; conv => whnf)
  refine ⟨fun q1 => ?_, fun q1 => ?_⟩
  · repeat (refine hX _ _ _ _ ?_; conv => whnf)
    refine ⟨fun q2 => ?_, fun q2 => ?_⟩
    · repeat (refine hX _ _ _ _ ?_; conv => whnf)
      rw [if_neg (by rw [z_le] at q1; rw [z_lt]; omega), if_neg (by rw [z_le] at q2; rw [z_lt]; omega)] at h
      exact h
    · repeat (refine hX _ _ _ _ ?_; conv => whnf)
      rw [if_neg (by rw [z_le] at q1; rw [z_lt]; omega), if_pos (by rw [z_le] at q2; rw [z_lt]; omega)] at h
      exact h
  · repeat (refine hX _ _ _ _ ?_; conv => whnf)
    rw [if_pos (by rw [z_le] at q1; rw [z_lt]; omega)] at h
    exact h
set_option maxHeartbeats 2000000 in
theorem t_slowed {N : Nat} {Ga : pm_Ga} {c : Nat} {v d : Int32} {D : pm_Mem} {post : pm_Post} (hc : c ∈ pm_chs) (hd : D c 2 = d) (hd3 : z_in d 0 3) (h : post (some (.int (z_slow v d))) D) : pm_up N Ga 19 [.ref c, .int v] D post := by
  obtain ⟨e1, e2⟩ := hd3
  have hn : (-d).toInt = -d.toInt := by rw [Int32.toInt_neg]; exact Int.bmod_eq_of_le (by omega) (by omega)
  have z0 : (0 : Int32).toInt = 0 := rfl
  unfold z_slow at h
  rcases pm_chs_of hc with rfl | rfl | rfl | rfl <;> (
    refine ⟨rfl, fun X hX => ?_⟩
    replace hX : ∀ pc L st D, pm_F N Ga tbX0_slowed (some .int) post X pc L st D → X pc L st D := hX
    change X 0 [some (.ref _), some (.int v)] [] D
    repeat (refine hX _ _ _ _ ?_; conv => whnf)
    refine ⟨fun q1 => ?_, fun q1 => ?_⟩
    · repeat (refine hX _ _ _ _ ?_; conv => whnf)
      rw [hd]
      unfold pm_min
      have q1' := z_le.mp q1
      have ha : (v + d).toInt = v.toInt + d.toInt := z_add (by have := v.le_toInt; omega) (by omega)
      rw [if_neg (by rw [z_lt]; omega)] at h
      by_cases q2 : v < -d
      · rw [if_pos q2] at h
        rw [if_pos (by rw [z_lt] at q2 ⊢; omega)]
        exact h
      · rw [if_neg q2] at h
        rw [if_neg (by rw [z_lt] at q2 ⊢; omega)]
        exact h
    · repeat (refine hX _ _ _ _ ?_; conv => whnf)
      rw [hd]
      unfold pm_max
      have q1' : 0 < v.toInt := by rw [z_le] at q1; omega
      have ha : (v - d).toInt = v.toInt - d.toInt := z_sub (by omega) (by have := v.toInt_lt; omega)
      by_cases q2 : d < v
      · rw [if_pos q2] at h
        rw [if_pos (by rw [z_lt] at q2 ⊢; omega)]
        exact h
      · rw [if_neg q2, if_neg (by rw [z_lt] at q2 ⊢; omega)] at h
        rw [if_neg (by rw [z_lt] at q2 ⊢; omega)]
        exact h)
end
section
theorem z_nI0 : nI 0 = 0 := nI_0
theorem z_le0 {n : Nat} (h : n < 2 ^ 31) : nI n ≤ 0 ↔ n = 0 := by
  rw [z_le, z_tI h]
  show (n : Int) ≤ 0 ↔ _
  omega
theorem z_lei {a b : Nat} (ha : a < 2 ^ 31) (hb : b < 2 ^ 31) : nI a ≤ nI b ↔ a ≤ b := nI_leI ha hb
theorem z_sub1 {n : Nat} (h : 0 < n) : nI n - 1 = nI (n - 1) := by
  obtain ⟨m, rfl⟩ : ∃ m, n = m + 1 := ⟨n - 1, by omega⟩
  exact nI_pred m
theorem z_Rb {D : pm_Mem} {c : Nat} {g : z_P} (h : z_R D c g) {b : Nat} (hb : b < z_n g) : D (c + 1) b = g b ∧ D (c + 2) b = g (4 + b) ∧ D (c + 3) b = g (8 + b) ∧ D (c + 4) b = g (12 + b) ∧ D (c + 5) b = g (16 + b) ∧ D (c + 6) b = g (20 + b) := h.2.2.2.2.1 b hb
set_option maxHeartbeats 2000000 in
theorem t_stretchOf {N : Nat} {Ga : pm_Ga} {c b : Nat} {g : z_P} {D : pm_Mem} {post : pm_Post} (hc : c ∈ pm_chs) (hb : b < 4) (h2 : D (c + 2) b = g (4 + b)) (h5 : ∀ j, j ≤ b → D (c + 5) j = g (16 + j)) (h : post (some (.int (z_st g b))) D) : pm_up N Ga 11 [.ref c, .int (nI b)] D post := by
  have hin : vp_in (nI b) 4 := vp_in_nI hb (by decide)
  have hcl : (nI b).toNatClampNeg = b := nI_clamp (by omega)
  unfold z_st at h
  rcases pm_chs_of hc with rfl | rfl | rfl | rfl <;> (
    simp only [Nat.reduceAdd] at h2 h5
    refine ⟨rfl, fun X hX => ?_⟩
    replace hX : ∀ pc L st D, pm_F N Ga tbX0_stretchOf (some .int) post X pc L st D → X pc L st D := hX
    change X 0 [some (.ref _), some (.int (nI b)), none] [] D
    repeat (refine hX _ _ _ _ ?_; conv => whnf)
    refine ⟨fun q1 => ?_, fun q1 => ?_⟩
    · have q1 := (z_le0 (by omega)).mp q1
      repeat (refine hX _ _ _ _ ?_; conv => whnf)
      refine ⟨hin, ?_⟩
      repeat (refine hX _ _ _ _ ?_; conv => whnf)
      refine ⟨hin, ?_⟩
      repeat (refine hX _ _ _ _ ?_; conv => whnf)
      rw [hcl, h5 b (by omega), h2]
      rw [if_pos q1] at h
      exact h
    · have q1 : ¬ b = 0 := fun z => q1 ((z_le0 (by omega)).mpr z)
      repeat (refine hX _ _ _ _ ?_; conv => whnf)
      rw [z_sub1 (by omega)]
      refine ⟨vp_in_nI (by omega) (by decide), ?_⟩
      repeat (refine hX _ _ _ _ ?_; conv => whnf)
      refine ⟨hin, ?_⟩
      repeat (refine hX _ _ _ _ ?_; conv => whnf)
      refine ⟨hin, ?_⟩
      repeat (refine hX _ _ _ _ ?_; conv => whnf)
      rw [hcl, nI_clamp (show b - 1 < 2 ^ 31 by omega), h5 b (by omega), h5 (b - 1) (by omega), h2]
      rw [if_neg q1, show 15 + b = 16 + (b - 1) by omega] at h
      exact h)
set_option maxHeartbeats 2000000 in
theorem t_pullOf {N : Nat} {Ga : pm_Ga} {c b : Nat} {g : z_P} {D : pm_Mem} {post : pm_Post} (hst : ∀ c b g D post, c ∈ pm_chs → b < 4 → D (c + 2) b = g (4 + b) → (∀ j, j ≤ b → D (c + 5) j = g (16 + j)) → post (some (.int (z_st g b))) D → Ga 11 [.ref c, .int (nI b)] D post)
    (hwi : ∀ v a b D post, (a ≤ v → v ≤ b → post (some (.int 1)) D) → (¬ (a ≤ v ∧ v ≤ b) → post (some (.int 0)) D) → Ga 97 [.int v, .int a, .int b] D post)
    (hc : c ∈ pm_chs) (hb : b < 4) (hk : z_in (g b) 0 3) (h1 : D (c + 1) b = g b) (h2 : D (c + 2) b = g (4 + b)) (h3 : D (c + 3) b = g (8 + b)) (h5 : ∀ j, j ≤ b → D (c + 5) j = g (16 + j)) (h : post (some (.int (z_pull g b))) D) : pm_up N Ga 12 [.ref c, .int (nI b)] D post := by
  have hin : vp_in (nI b) 4 := vp_in_nI hb (by decide)
  have hcl : (nI b).toNatClampNeg = b := nI_clamp (by omega)
  have t1 : (1 : Int32).toInt = 1 := rfl
  have t2 : (2 : Int32).toInt = 2 := rfl
  have t3 : (3 : Int32).toInt = 3 := rfl
  have t0 : (0 : Int32).toInt = 0 := rfl
  obtain ⟨hk1, hk2⟩ := hk
  unfold z_pull at h
  rcases pm_chs_of hc with rfl | rfl | rfl | rfl <;> (
    simp only [Nat.reduceAdd] at h1 h2 h3 h5
    refine ⟨rfl, fun X hX => ?_⟩
    replace hX : ∀ pc L st D, pm_F N Ga tbX0_pullOf (some .int) post X pc L st D → X pc L st D := hX
    change X 0 [some (.ref _), some (.int (nI b)), none, none] [] D
    repeat (refine hX _ _ _ _ ?_; conv => whnf)
    refine hst _ b g D _ hc hb h2 h5 ?_
    repeat (refine hX _ _ _ _ ?_; conv => whnf)
    refine ⟨hin, ?_⟩
    repeat (refine hX _ _ _ _ ?_; conv => whnf)
    rw [hcl, h1]
    refine ⟨fun q => ?_, fun q => ?_, fun q => ?_, fun q => ?_, trivial⟩
    · have hk0 : (g b).toInt = 0 := by omega
      repeat (refine hX _ _ _ _ ?_; conv => whnf)
      refine ⟨fun _ => ?_, fun h => absurd h (by decide)⟩
      repeat (refine hX _ _ _ _ ?_; conv => whnf)
      refine ⟨hin, ?_⟩
      repeat (refine hX _ _ _ _ ?_; conv => whnf)
      rw [hcl, h3]
      rw [if_neg (by simp only [z_eq]; omega)] at h
      exact h
    · repeat (refine hX _ _ _ _ ?_; conv => whnf)
      refine ⟨fun q2 => ?_, fun q2 => ?_⟩
      · repeat (refine hX _ _ _ _ ?_; conv => whnf)
        refine ⟨fun _ => ?_, fun h => absurd h (by decide)⟩
        repeat (refine hX _ _ _ _ ?_; conv => whnf)
        refine ⟨hin, ?_⟩
        repeat (refine hX _ _ _ _ ?_; conv => whnf)
        rw [hcl, h3]
        rw [if_neg (by simp only [z_eq, z_lt, z_le] at q2 ⊢; omega)] at h
        exact h
      · repeat (refine hX _ _ _ _ ?_; conv => whnf)
        refine ⟨fun h => absurd h (by decide), fun _ => ?_⟩
        repeat (refine hX _ _ _ _ ?_; conv => whnf)
        rw [if_pos (by simp only [z_eq, z_lt, z_le] at q2 ⊢; omega)] at h
        exact h
    · repeat (refine hX _ _ _ _ ?_; conv => whnf)
      refine ⟨fun q2 => ?_, fun q2 => ?_⟩
      · repeat (refine hX _ _ _ _ ?_; conv => whnf)
        refine ⟨fun _ => ?_, fun h => absurd h (by decide)⟩
        repeat (refine hX _ _ _ _ ?_; conv => whnf)
        refine ⟨hin, ?_⟩
        repeat (refine hX _ _ _ _ ?_; conv => whnf)
        rw [hcl, h3]
        rw [if_neg (by simp only [z_eq, z_lt, z_le] at q2 ⊢; omega)] at h
        exact h
      · repeat (refine hX _ _ _ _ ?_; conv => whnf)
        refine ⟨fun h => absurd h (by decide), fun _ => ?_⟩
        repeat (refine hX _ _ _ _ ?_; conv => whnf)
        rw [if_pos (by simp only [z_eq, z_lt, z_le] at q2 ⊢; omega)] at h
        exact h
    · repeat (refine hX _ _ _ _ ?_; conv => whnf)
      refine hwi _ _ _ _ _ (fun a1 a2 => ?_) (fun a1 => ?_)
      · repeat (refine hX _ _ _ _ ?_; conv => whnf)
        refine ⟨fun h => absurd h (by decide), fun _ => ?_⟩
        repeat (refine hX _ _ _ _ ?_; conv => whnf)
        rw [if_pos (Or.inr (Or.inr ⟨by rw [z_eq]; omega, a1, a2⟩))] at h
        exact h
      · repeat (refine hX _ _ _ _ ?_; conv => whnf)
        refine ⟨fun _ => ?_, fun h => absurd h (by decide)⟩
        repeat (refine hX _ _ _ _ ?_; conv => whnf)
        refine ⟨hin, ?_⟩
        repeat (refine hX _ _ _ _ ?_; conv => whnf)
        rw [hcl, h3]
        rw [if_neg (by
          rintro (⟨z, -⟩ | ⟨z, -⟩ | ⟨-, z⟩)
          · rw [z_eq] at z; omega
          · rw [z_eq] at z; omega
          · exact a1 z)] at h
        exact h)
set_option maxHeartbeats 2000000 in
theorem t_lastPlace {N : Nat} {Ga : pm_Ga} {c n : Nat} {D : pm_Mem} {post : pm_Post} (hc : c ∈ pm_chs) (hn : D c 0 = nI n) (hn4 : n ≤ 4) (h : post (some (.int (if n = 0 then 0 else D (c + 5) (n - 1)))) D) : pm_up N Ga 6 [.ref c] D post := by
  rcases pm_chs_of hc with rfl | rfl | rfl | rfl <;> (
    simp only [Nat.reduceAdd] at h
    refine ⟨rfl, fun X hX => ?_⟩
    replace hX : ∀ pc L st D, pm_F N Ga tbX0_lastPlace (some .int) post X pc L st D → X pc L st D := hX
    change X 0 [some (.ref _)] [] D
    repeat (refine hX _ _ _ _ ?_; conv => whnf)
    rw [hn]
    refine ⟨fun q1 => ?_, fun q1 => ?_⟩
    · rw [if_pos ((z_le0 (by omega)).mp q1)] at h
      repeat (refine hX _ _ _ _ ?_; conv => whnf)
      exact h
    · have q1 : ¬ n = 0 := fun z => q1 ((z_le0 (by omega)).mpr z)
      rw [if_neg q1] at h
      repeat (refine hX _ _ _ _ ?_; conv => whnf)
      rw [hn, z_sub1 (by omega)]
      refine ⟨vp_in_nI (by omega) (by decide), ?_⟩
      repeat (refine hX _ _ _ _ ?_; conv => whnf)
      rw [nI_clamp (show n - 1 < 2 ^ 31 by omega)]
      exact h)
end
section
theorem z_n_up {g : z_P} {k : Nat} {v : Int32} (h : k ≠ 24) : z_n (z_up g k v) = z_n g := by
  unfold z_n
  rw [z_up_ne g v (Ne.symm h)]
theorem z_k_up {g : z_P} {k : Nat} {v : Int32} (h : k ≠ 49) : z_k (z_up g k v) = z_k g := by
  unfold z_k
  rw [z_up_ne g v (Ne.symm h)]
/-- a bead's speed is written -/
theorem z_R_speed {D : pm_Mem} {c b : Nat} {g : z_P} {v : Int32} (h : z_R D c g) (hn : z_n g ≤ 4) (hk : z_k g ≤ 12) (hb : b < z_n g) : z_R (pm_mu D (c + 6) b v) c (z_up g (20 + b) v) := by
  obtain ⟨a1, a2, a3, a4, a5, a6⟩ := h
  refine ⟨?_, ?_, ?_, ?_, fun j hj => ?_, fun i hi => ?_⟩
  · rw [pm_mu_ne D b v (by omega), z_up_ne g v (by omega)]; exact a1
  · rw [pm_mu_ne D b v (by omega), z_up_ne g v (by omega)]; exact a2
  · rw [pm_mu_ne D b v (by omega), z_up_ne g v (by omega)]; exact a3
  · rw [pm_mu_ne D b v (by omega), z_up_ne g v (by omega)]; exact a4
  · rw [z_n_up (by omega)] at hj
    obtain ⟨b1, b2, b3, b4, b5, b6⟩ := a5 j hj
    refine ⟨?_, ?_, ?_, ?_, ?_, ?_⟩
    · rw [pm_mu_ne D b v (by omega), z_up_ne g v (by omega)]; exact b1
    · rw [pm_mu_ne D b v (by omega), z_up_ne g v (by omega)]; exact b2
    · rw [pm_mu_ne D b v (by omega), z_up_ne g v (by omega)]; exact b3
    · rw [pm_mu_ne D b v (by omega), z_up_ne g v (by omega)]; exact b4
    · rw [pm_mu_ne D b v (by omega), z_up_ne g v (by omega)]; exact b5
    · rw [pm_mu_eq, if_pos rfl]
      by_cases e : j = b
      · rw [if_pos e, e, z_up_at]
      · rw [if_neg e, z_up_ne g v (by omega)]; exact b6
  · rw [z_k_up (by omega)] at hi
    obtain ⟨b1, b2⟩ := a6 i hi
    exact ⟨by rw [pm_mu_ne D b v (by omega), z_up_ne g v (by omega)]; exact b1, by rw [pm_mu_ne D b v (by omega), z_up_ne g v (by omega)]; exact b2⟩
theorem z_F_mu {D : pm_Mem} {c r k : Nat} {v : Int32} (h1 : c ≤ r) (h2 : r < c + 10) : z_F c D (pm_mu D r k v) := fun q hq => pm_mu_ne D k v (by omega)
set_option maxHeartbeats 2000000 in
theorem t_knockOnce {N : Nat} {Ga : pm_Ga} {c : Nat} {b by_ : Int32} {g : z_P} {D : pm_Mem} {post : pm_Post} (hhas : ∀ c b D post, c ∈ pm_chs → (0 ≤ b → b < D c 0 → post (some (.int 1)) D) → (¬ (0 ≤ b ∧ b < D c 0) → post (some (.int 0)) D) → Ga 3 [.ref c, .int b] D post)
    (hinb : ∀ v D post, post (some (.int (z_clamp v))) D → Ga 20 [.int v] D post)
    (hc : c ∈ pm_chs) (hR : z_R D c g) (hn : g 24 = nI (z_n g)) (hn4 : z_n g ≤ 4) (hk : z_k g ≤ 12) (h : ∀ D', z_R D' c (z_hit g b by_) → (∀ r, r ≠ c + 6 → D' r = D r) → post none D') : pm_up N Ga 13 [.ref c, .int b, .int by_] D post := by
  have key : 0 ≤ b → b < D c 0 → ∃ j, j < z_n g ∧ b = nI j ∧ b.toNatClampNeg = j := by
    intro h1 h2
    rw [hR.1, hn, z_lt, z_tI (by omega)] at h2
    have h1 := z_le.mp h1
    have h1 : 0 ≤ b.toInt := h1
    obtain ⟨j, e1, e2, e3, e4⟩ := z_of (x := b) (a := 0) (b := 3) ⟨h1, by omega⟩ (by omega) (by omega)
    refine ⟨j, ?_, e1, e4⟩
    rw [e1, z_tI (by omega)] at h2
    omega
  rcases pm_chs_of hc with rfl | rfl | rfl | rfl <;> (
    refine ⟨rfl, fun X hX => ?_⟩
    replace hX : ∀ pc L st D, pm_F N Ga tbX0_knockOnce none post X pc L st D → X pc L st D := hX
    change X 0 [some (.ref _), some (.int b), some (.int by_)] [] D
    repeat (refine hX _ _ _ _ ?_; conv => whnf)
    refine hhas _ _ _ _ hc (fun h1 h2 => ?_) (fun h0 => ?_)
    · obtain ⟨j, hj, e1, e2⟩ := key h1 h2
      have hin : vp_in b 4 := by rw [e1]; exact vp_in_nI (by omega) (by decide)
      have hh : z_hit g b by_ = z_up g (20 + j) (z_clamp (g (20 + j) + by_)) := by
        unfold z_hit
        rw [if_pos ⟨h1, by rw [← hR.1]; exact h2⟩, e2]
      have h6 := (z_Rb hR hj).2.2.2.2.2
      simp only [Nat.reduceAdd] at h6
      repeat (refine hX _ _ _ _ ?_; conv => whnf)
      refine ⟨fun h => absurd h (by decide), fun _ => ?_⟩
      repeat (refine hX _ _ _ _ ?_; conv => whnf)
      refine ⟨hin, ?_⟩
      repeat (refine hX _ _ _ _ ?_; conv => whnf)
      refine hinb _ _ _ ?_
      repeat (refine hX _ _ _ _ ?_; conv => whnf)
      refine ⟨by decide, hin, ?_⟩
      repeat (refine hX _ _ _ _ ?_; conv => whnf)
      rw [e2, h6]
      exact h _ (by rw [hh]; exact z_R_speed hR hn4 hk hj) (fun r hr => pm_mu_ne D j _ hr)
    · repeat (refine hX _ _ _ _ ?_; conv => whnf)
      refine ⟨fun _ => ?_, fun h => absurd h (by decide)⟩
      repeat (refine hX _ _ _ _ ?_; conv => whnf)
      have hh : z_hit g b by_ = g := by
        unfold z_hit
        rw [if_neg (by rw [← hR.1]; exact h0)]
      exact h D (by rw [hh]; exact hR) (fun r _ => rfl))
theorem z_rem {a d : Nat} (ha : a < 2 ^ 31) (h0 : 0 < d) (hd : d < 2 ^ 31) : nI a - nI a / nI d * nI d = nI (a % d) := pk_rem ha h0 hd
set_option maxHeartbeats 2000000 in
theorem t_knockByPlan {N : Nat} {Ga : pm_Ga} {c : Nat} {g : z_P} {D : pm_Mem} {post : pm_Post} {T : Int} (hT : T < 2147483648)
    (hkn : ∀ c b by_ g D post, c ∈ pm_chs → z_R D c g → g 24 = nI (z_n g) → z_n g ≤ 4 → z_k g ≤ 12 → (∀ D', z_R D' c (z_hit g b by_) → (∀ r, r ≠ c + 6 → D' r = D r) → post none D') → Ga 13 [.ref c, .int b, .int by_] D post)
    (hc : c ∈ pm_chs) (hG : z_G T g) (hR : z_R D c g) (h : ∀ D', z_R D' c (z_plan g) → (∀ r, r ≠ c + 6 → D' r = D r) → post none D') : pm_up N Ga 14 [.ref c] D post := by
  obtain ⟨g1, g2, g3, g4, g5, g6, g7, g8⟩ := hG
  obtain ⟨t, t1, t2, t3, t4⟩ := z_of g6 (by omega) hT
  have hk := hR.2.1
  have ht := hR.2.2.2.1
  have hr7 := hR.2.2.2.2.2
  rw [g3] at hk
  rw [t1] at ht
  rcases pm_chs_of hc with rfl | rfl | rfl | rfl <;> (
    simp only [Nat.reduceAdd] at hr7
    refine ⟨rfl, fun X hX => ?_⟩
    replace hX : ∀ pc L st D, pm_F N Ga tbX0_knockByPlan none post X pc L st D → X pc L st D := hX
    change X 0 [some (.ref _), none] [] D
    repeat (refine hX _ _ _ _ ?_; conv => whnf)
    rw [hk]
    refine ⟨fun q1 => ?_, fun q1 => ?_⟩
    · have q1 := (z_le0 (by omega)).mp q1
      repeat (refine hX _ _ _ _ ?_; conv => whnf)
      exact h D (by unfold z_plan; rw [if_pos q1]; exact hR) (fun r _ => rfl)
    · have q1 : ¬ z_k g = 0 := fun z => q1 ((z_le0 (by omega)).mpr z)
      repeat (refine hX _ _ _ _ ?_; conv => whnf)
      rw [hk]
      refine ⟨nI_ne0 (by omega) (by omega), ?_⟩
      rw [ht, z_rem (by omega) (by omega) (by omega)]
      have hlt : t % z_k g < z_k g := Nat.mod_lt _ (by omega)
      have hin : vp_in (nI (t % z_k g)) 12 := vp_in_nI (by omega) (by decide)
      have hcl : (nI (t % z_k g)).toNatClampNeg = t % z_k g := nI_clamp (by omega)
      repeat (refine hX _ _ _ _ ?_; conv => whnf)
      refine ⟨hin, ?_⟩
      repeat (refine hX _ _ _ _ ?_; conv => whnf)
      refine ⟨hin, ?_⟩
      repeat (refine hX _ _ _ _ ?_; conv => whnf)
      rw [hcl, (hr7 _ hlt).1, (hr7 _ hlt).2]
      refine hkn _ _ _ g _ _ hc hR g1 g2 g4 (fun D' hR' hF' => ?_)
      repeat (refine hX _ _ _ _ ?_; conv => whnf)
      refine h D' ?_ hF'
      have e : z_plan g = z_hit g (g (25 + t % z_k g)) (g (37 + t % z_k g)) := by
        unfold z_plan z_turn
        rw [if_neg q1, t4]
      rw [e]
      exact hR')
set_option maxHeartbeats 2000000 in
theorem t_goOn {N : Nat} {Ga : pm_Ga} {c b : Nat} {p v w : Int32} {D : pm_Mem} {post : pm_Post} (hc : c ∈ pm_chs) (hb : b < 4) (hp : D (c + 5) b = p) (hw : D (c + 6) b = w)
    (h : ∀ D' rch lft, rch = (if p + v < 0 then 0 else if 300 < p + v then 300 else p + v) → lft = (if p + v < 0 ∨ 300 < p + v then 0 else v) → (∀ r, r ≠ c → r ≠ c + 5 → r ≠ c + 6 → D' r = D r) → (∀ k, k ≠ 13 → k ≠ 14 → k ≠ 15 → D' c k = D c k) → D' c 13 = D c 13 + z_abs (rch - p) → D' c 14 = D c 14 + (if p + v < 0 ∨ 300 < p + v then 1 else 0) → D' c 15 = (if rch ≠ p ∨ lft ≠ w then 1 else D c 15) →
      (∀ j, D' (c + 5) j = if j = b then rch else D (c + 5) j) → (∀ j, D' (c + 6) j = if j = b then lft else D (c + 6) j) → post none D') : pm_up N Ga 18 [.ref c, .int (nI b), .int v] D post := by
  have hin : vp_in (nI b) 4 := vp_in_nI hb (by decide)
  have hcl : (nI b).toNatClampNeg = b := nI_clamp (by omega)
  have t300 : (300 : Int32).toInt = 300 := rfl
  have t0 : (0 : Int32).toInt = 0 := rfl
  generalize ht : p + v = t at h
  have hrch : pm_max 0 (pm_min 300 t) = (if t < 0 then 0 else if 300 < t then 300 else t) := by
    unfold pm_max pm_min
    by_cases a1 : t < 0
    · have a1' := z_lt.mp a1
      rw [if_pos a1, if_pos (show t < 300 by rw [z_lt]; omega), if_neg (show ¬ 0 < t by rw [z_lt]; omega)]
    · by_cases a2 : 300 < t
      · have a2' := z_lt.mp a2
        rw [if_neg a1, if_pos a2, if_neg (show ¬ t < 300 by rw [z_lt]; omega), if_pos (by decide)]
      · rw [if_neg a1, if_neg a2]
        rw [z_lt] at a1 a2
        by_cases a3 : t < 300
        · rw [if_pos a3]
          by_cases a4 : 0 < t
          · rw [if_pos a4]
          · rw [if_neg a4, z_eq]
            rw [z_lt] at a4
            omega
        · rw [if_neg a3, if_pos (by decide), z_eq]
          rw [z_lt] at a3
          omega
  have hne : (if t < 0 then (0 : Int32) else if 300 < t then 300 else t) ≠ t ↔ (t < 0 ∨ 300 < t) := by
    by_cases a1 : t < 0
    · rw [if_pos a1]
      refine ⟨fun _ => Or.inl a1, fun _ z => ?_⟩
      rw [← z] at a1
      exact absurd a1 (by decide)
    · by_cases a2 : 300 < t
      · rw [if_neg a1, if_pos a2]
        refine ⟨fun _ => Or.inr a2, fun _ z => ?_⟩
        rw [← z] at a2
        exact absurd a2 (by decide)
      · rw [if_neg a1, if_neg a2]
        exact ⟨fun z => absurd rfl z, fun z => z.elim (fun z => absurd z a1) (fun z => absurd z a2)⟩
  generalize hr : (if t < 0 then (0 : Int32) else if 300 < t then 300 else t) = rch at hrch hne h
  have h := fun D' => h D' rch (if t < 0 ∨ 300 < t then 0 else v) rfl rfl
  generalize hl : (if t < 0 ∨ 300 < t then 0 else v) = lft at h
  rcases pm_chs_of hc with rfl | rfl | rfl | rfl
  · simp only [Nat.reduceAdd] at hp hw h
    refine ⟨rfl, fun X hX => ?_⟩
    replace hX : ∀ pc L st D, pm_F N Ga tbX0_goOn none post X pc L st D → X pc L st D := hX
    change X 0 [some (.ref 0), some (.int (nI b)), some (.int v), none, none, none] [] D
    -- behind: how far, the new place, the new speed
    have s78 : ∀ D2 : pm_Mem, (∀ r, r ≠ 0 → D2 r = D r) → (∀ k, k ≠ 14 → k ≠ 15 → D2 0 k = D 0 k) → D2 0 14 = D 0 14 + (if t < 0 ∨ 300 < t then 1 else 0) → D2 0 15 = (if rch ≠ p ∨ lft ≠ w then 1 else D 0 15) → X 78 [some (.ref 0), some (.int (nI b)), some (.int v), some (.int t), some (.int rch), some (.int lft)] [] D2 := by
      intro D2 f1 f2 f3 f4
      repeat (refine hX _ _ _ _ ?_; conv => whnf)
      refine ⟨hin, ?_⟩
      repeat (refine hX _ _ _ _ ?_; conv => whnf)
      refine ⟨by decide, hin, ?_⟩
      repeat (refine hX _ _ _ _ ?_; conv => whnf)
      refine ⟨by decide, hin, ?_⟩
      repeat (refine hX _ _ _ _ ?_; conv => whnf)
      rw [hcl, f2 13 (by omega) (by omega), f1 _ (by decide), hp]
      refine h _ (fun r h1 h2 h3 => ?_) (fun k h1 h2 h3 => ?_) ?_ ?_ ?_ (fun j => ?_) (fun j => ?_)
      · rw [pm_mu_ne _ _ _ h3, pm_mu_ne _ _ _ h2, pm_mu_ne _ _ _ h1]
        exact f1 r h1
      · simp [pm_mu_eq, h1]
        exact f2 k h2 h3
      · rw [pm_mu_r _ _ _ _ (by decide), pm_mu_r _ _ _ _ (by decide), pm_mu_at]
      · simp [pm_mu_eq]
        exact f3
      · simp [pm_mu_eq]
        rw [f4]
        try simp
      · simp [pm_mu_eq, f1]
      · simp [pm_mu_eq, f1]
    have s51 : ∀ D1 : pm_Mem, (∀ r, r ≠ 0 → D1 r = D r) → (∀ k, k ≠ 14 → D1 0 k = D 0 k) → D1 0 14 = D 0 14 + (if t < 0 ∨ 300 < t then 1 else 0) → X 51 [some (.ref 0), some (.int (nI b)), some (.int v), some (.int t), some (.int rch), some (.int lft)] [] D1 := by
      intro D1 f1 f2 f3
      repeat (refine hX _ _ _ _ ?_; conv => whnf)
      refine ⟨hin, ?_⟩
      rw [hcl, f1 _ (by decide), hp]
      repeat (refine hX _ _ _ _ ?_; conv => whnf)
      refine ⟨fun q1 => ?_, fun q1 => ?_⟩
      · repeat (refine hX _ _ _ _ ?_; conv => whnf)
        refine ⟨Or.inr rfl, ?_⟩
        exact s78 _ (fun r hr => by rw [pm_mu_ne _ _ _ hr]; exact f1 r hr) (fun k h1 h2 => by simp [pm_mu_eq, h2]; exact f2 k h1) (by simp [pm_mu_eq]; exact f3) (by simp [pm_mu_eq, q1])
      · repeat (refine hX _ _ _ _ ?_; conv => whnf)
        refine ⟨hin, ?_⟩
        rw [hcl, f1 _ (by decide), hw]
        repeat (refine hX _ _ _ _ ?_; conv => whnf)
        refine ⟨fun q2 => ?_, fun q2 => ?_⟩
        · exact s78 _ f1 (fun k h1 h2 => f2 k h1) f3 (by rw [f2 15 (by omega), if_neg (by simp [q1, q2])])
        · repeat (refine hX _ _ _ _ ?_; conv => whnf)
          refine ⟨Or.inr rfl, ?_⟩
          exact s78 _ (fun r hr => by rw [pm_mu_ne _ _ _ hr]; exact f1 r hr) (fun k h1 h2 => by simp [pm_mu_eq, h2]; exact f2 k h1) (by simp [pm_mu_eq]; exact f3) (by simp [pm_mu_eq, q2])
    iterate 4 (refine hX _ _ _ _ ?_; conv => whnf)
    refine ⟨hin, ?_⟩
    rw [hcl, hp]
    repeat (refine hX _ _ _ _ ?_; conv => whnf)
    rw [ht, hrch]
    refine ⟨fun q1 => ?_, fun q1 => ?_⟩
    · have q := hne.mp q1
      rw [if_pos q] at hl
      repeat (refine hX _ _ _ _ ?_; conv => whnf)
      refine ⟨fun z => absurd z q1, fun _ => ?_⟩
      iterate 6 (refine hX _ _ _ _ ?_; conv => whnf)
      subst hl
      exact s51 _ (fun r hr => pm_mu_ne _ _ _ hr) (fun k hk => pm_mu_k _ _ _ _ hk) (by rw [pm_mu_at, if_pos q])
    · have q : ¬ (t < 0 ∨ 300 < t) := fun z => hne.mpr z q1
      rw [if_neg q] at hl
      repeat (refine hX _ _ _ _ ?_; conv => whnf)
      refine ⟨fun _ => ?_, fun z => absurd q1 z⟩
      subst hl
      exact s51 D (fun _ _ => rfl) (fun _ _ => rfl) (by rw [if_neg q, Int32.add_zero])
  · simp only [Nat.reduceAdd] at hp hw h
    refine ⟨rfl, fun X hX => ?_⟩
    replace hX : ∀ pc L st D, pm_F N Ga tbX0_goOn none post X pc L st D → X pc L st D := hX
    change X 0 [some (.ref 10), some (.int (nI b)), some (.int v), none, none, none] [] D
    -- behind: how far, the new place, the new speed
    have s78 : ∀ D2 : pm_Mem, (∀ r, r ≠ 10 → D2 r = D r) → (∀ k, k ≠ 14 → k ≠ 15 → D2 10 k = D 10 k) → D2 10 14 = D 10 14 + (if t < 0 ∨ 300 < t then 1 else 0) → D2 10 15 = (if rch ≠ p ∨ lft ≠ w then 1 else D 10 15) → X 78 [some (.ref 10), some (.int (nI b)), some (.int v), some (.int t), some (.int rch), some (.int lft)] [] D2 := by
      intro D2 f1 f2 f3 f4
      repeat (refine hX _ _ _ _ ?_; conv => whnf)
      refine ⟨hin, ?_⟩
      repeat (refine hX _ _ _ _ ?_; conv => whnf)
      refine ⟨by decide, hin, ?_⟩
      repeat (refine hX _ _ _ _ ?_; conv => whnf)
      refine ⟨by decide, hin, ?_⟩
      repeat (refine hX _ _ _ _ ?_; conv => whnf)
      rw [hcl, f2 13 (by omega) (by omega), f1 _ (by decide), hp]
      refine h _ (fun r h1 h2 h3 => ?_) (fun k h1 h2 h3 => ?_) ?_ ?_ ?_ (fun j => ?_) (fun j => ?_)
      · rw [pm_mu_ne _ _ _ h3, pm_mu_ne _ _ _ h2, pm_mu_ne _ _ _ h1]
        exact f1 r h1
      · simp [pm_mu_eq, h1]
        exact f2 k h2 h3
      · rw [pm_mu_r _ _ _ _ (by decide), pm_mu_r _ _ _ _ (by decide), pm_mu_at]
      · simp [pm_mu_eq]
        exact f3
      · simp [pm_mu_eq]
        rw [f4]
        try simp
      · simp [pm_mu_eq, f1]
      · simp [pm_mu_eq, f1]
    have s51 : ∀ D1 : pm_Mem, (∀ r, r ≠ 10 → D1 r = D r) → (∀ k, k ≠ 14 → D1 10 k = D 10 k) → D1 10 14 = D 10 14 + (if t < 0 ∨ 300 < t then 1 else 0) → X 51 [some (.ref 10), some (.int (nI b)), some (.int v), some (.int t), some (.int rch), some (.int lft)] [] D1 := by
      intro D1 f1 f2 f3
      repeat (refine hX _ _ _ _ ?_; conv => whnf)
      refine ⟨hin, ?_⟩
      rw [hcl, f1 _ (by decide), hp]
      repeat (refine hX _ _ _ _ ?_; conv => whnf)
      refine ⟨fun q1 => ?_, fun q1 => ?_⟩
      · repeat (refine hX _ _ _ _ ?_; conv => whnf)
        refine ⟨Or.inr rfl, ?_⟩
        exact s78 _ (fun r hr => by rw [pm_mu_ne _ _ _ hr]; exact f1 r hr) (fun k h1 h2 => by simp [pm_mu_eq, h2]; exact f2 k h1) (by simp [pm_mu_eq]; exact f3) (by simp [pm_mu_eq, q1])
      · repeat (refine hX _ _ _ _ ?_; conv => whnf)
        refine ⟨hin, ?_⟩
        rw [hcl, f1 _ (by decide), hw]
        repeat (refine hX _ _ _ _ ?_; conv => whnf)
        refine ⟨fun q2 => ?_, fun q2 => ?_⟩
        · exact s78 _ f1 (fun k h1 h2 => f2 k h1) f3 (by rw [f2 15 (by omega), if_neg (by simp [q1, q2])])
        · repeat (refine hX _ _ _ _ ?_; conv => whnf)
          refine ⟨Or.inr rfl, ?_⟩
          exact s78 _ (fun r hr => by rw [pm_mu_ne _ _ _ hr]; exact f1 r hr) (fun k h1 h2 => by simp [pm_mu_eq, h2]; exact f2 k h1) (by simp [pm_mu_eq]; exact f3) (by simp [pm_mu_eq, q2])
    iterate 4 (refine hX _ _ _ _ ?_; conv => whnf)
    refine ⟨hin, ?_⟩
    rw [hcl, hp]
    repeat (refine hX _ _ _ _ ?_; conv => whnf)
    rw [ht, hrch]
    refine ⟨fun q1 => ?_, fun q1 => ?_⟩
    · have q := hne.mp q1
      rw [if_pos q] at hl
      repeat (refine hX _ _ _ _ ?_; conv => whnf)
      refine ⟨fun z => absurd z q1, fun _ => ?_⟩
      iterate 6 (refine hX _ _ _ _ ?_; conv => whnf)
      subst hl
      exact s51 _ (fun r hr => pm_mu_ne _ _ _ hr) (fun k hk => pm_mu_k _ _ _ _ hk) (by rw [pm_mu_at, if_pos q])
    · have q : ¬ (t < 0 ∨ 300 < t) := fun z => hne.mpr z q1
      rw [if_neg q] at hl
      repeat (refine hX _ _ _ _ ?_; conv => whnf)
      refine ⟨fun _ => ?_, fun z => absurd q1 z⟩
      subst hl
      exact s51 D (fun _ _ => rfl) (fun _ _ => rfl) (by rw [if_neg q, Int32.add_zero])
  · simp only [Nat.reduceAdd] at hp hw h
    refine ⟨rfl, fun X hX => ?_⟩
    replace hX : ∀ pc L st D, pm_F N Ga tbX0_goOn none post X pc L st D → X pc L st D := hX
    change X 0 [some (.ref 20), some (.int (nI b)), some (.int v), none, none, none] [] D
    -- behind: how far, the new place, the new speed
    have s78 : ∀ D2 : pm_Mem, (∀ r, r ≠ 20 → D2 r = D r) → (∀ k, k ≠ 14 → k ≠ 15 → D2 20 k = D 20 k) → D2 20 14 = D 20 14 + (if t < 0 ∨ 300 < t then 1 else 0) → D2 20 15 = (if rch ≠ p ∨ lft ≠ w then 1 else D 20 15) → X 78 [some (.ref 20), some (.int (nI b)), some (.int v), some (.int t), some (.int rch), some (.int lft)] [] D2 := by
      intro D2 f1 f2 f3 f4
      repeat (refine hX _ _ _ _ ?_; conv => whnf)
      refine ⟨hin, ?_⟩
      repeat (refine hX _ _ _ _ ?_; conv => whnf)
      refine ⟨by decide, hin, ?_⟩
      repeat (refine hX _ _ _ _ ?_; conv => whnf)
      refine ⟨by decide, hin, ?_⟩
      repeat (refine hX _ _ _ _ ?_; conv => whnf)
      rw [hcl, f2 13 (by omega) (by omega), f1 _ (by decide), hp]
      refine h _ (fun r h1 h2 h3 => ?_) (fun k h1 h2 h3 => ?_) ?_ ?_ ?_ (fun j => ?_) (fun j => ?_)
      · rw [pm_mu_ne _ _ _ h3, pm_mu_ne _ _ _ h2, pm_mu_ne _ _ _ h1]
        exact f1 r h1
      · simp [pm_mu_eq, h1]
        exact f2 k h2 h3
      · rw [pm_mu_r _ _ _ _ (by decide), pm_mu_r _ _ _ _ (by decide), pm_mu_at]
      · simp [pm_mu_eq]
        exact f3
      · simp [pm_mu_eq]
        rw [f4]
        try simp
      · simp [pm_mu_eq, f1]
      · simp [pm_mu_eq, f1]
    have s51 : ∀ D1 : pm_Mem, (∀ r, r ≠ 20 → D1 r = D r) → (∀ k, k ≠ 14 → D1 20 k = D 20 k) → D1 20 14 = D 20 14 + (if t < 0 ∨ 300 < t then 1 else 0) → X 51 [some (.ref 20), some (.int (nI b)), some (.int v), some (.int t), some (.int rch), some (.int lft)] [] D1 := by
      intro D1 f1 f2 f3
      repeat (refine hX _ _ _ _ ?_; conv => whnf)
      refine ⟨hin, ?_⟩
      rw [hcl, f1 _ (by decide), hp]
      repeat (refine hX _ _ _ _ ?_; conv => whnf)
      refine ⟨fun q1 => ?_, fun q1 => ?_⟩
      · repeat (refine hX _ _ _ _ ?_; conv => whnf)
        refine ⟨Or.inr rfl, ?_⟩
        exact s78 _ (fun r hr => by rw [pm_mu_ne _ _ _ hr]; exact f1 r hr) (fun k h1 h2 => by simp [pm_mu_eq, h2]; exact f2 k h1) (by simp [pm_mu_eq]; exact f3) (by simp [pm_mu_eq, q1])
      · repeat (refine hX _ _ _ _ ?_; conv => whnf)
        refine ⟨hin, ?_⟩
        rw [hcl, f1 _ (by decide), hw]
        repeat (refine hX _ _ _ _ ?_; conv => whnf)
        refine ⟨fun q2 => ?_, fun q2 => ?_⟩
        · exact s78 _ f1 (fun k h1 h2 => f2 k h1) f3 (by rw [f2 15 (by omega), if_neg (by simp [q1, q2])])
        · repeat (refine hX _ _ _ _ ?_; conv => whnf)
          refine ⟨Or.inr rfl, ?_⟩
          exact s78 _ (fun r hr => by rw [pm_mu_ne _ _ _ hr]; exact f1 r hr) (fun k h1 h2 => by simp [pm_mu_eq, h2]; exact f2 k h1) (by simp [pm_mu_eq]; exact f3) (by simp [pm_mu_eq, q2])
    iterate 4 (refine hX _ _ _ _ ?_; conv => whnf)
    refine ⟨hin, ?_⟩
    rw [hcl, hp]
    repeat (refine hX _ _ _ _ ?_; conv => whnf)
    rw [ht, hrch]
    refine ⟨fun q1 => ?_, fun q1 => ?_⟩
    · have q := hne.mp q1
      rw [if_pos q] at hl
      repeat (refine hX _ _ _ _ ?_; conv => whnf)
      refine ⟨fun z => absurd z q1, fun _ => ?_⟩
      iterate 6 (refine hX _ _ _ _ ?_; conv => whnf)
      subst hl
      exact s51 _ (fun r hr => pm_mu_ne _ _ _ hr) (fun k hk => pm_mu_k _ _ _ _ hk) (by rw [pm_mu_at, if_pos q])
    · have q : ¬ (t < 0 ∨ 300 < t) := fun z => hne.mpr z q1
      rw [if_neg q] at hl
      repeat (refine hX _ _ _ _ ?_; conv => whnf)
      refine ⟨fun _ => ?_, fun z => absurd q1 z⟩
      subst hl
      exact s51 D (fun _ _ => rfl) (fun _ _ => rfl) (by rw [if_neg q, Int32.add_zero])
  · simp only [Nat.reduceAdd] at hp hw h
    refine ⟨rfl, fun X hX => ?_⟩
    replace hX : ∀ pc L st D, pm_F N Ga tbX0_goOn none post X pc L st D → X pc L st D := hX
    change X 0 [some (.ref 30), some (.int (nI b)), some (.int v), none, none, none] [] D
    -- behind: how far, the new place, the new speed
    have s78 : ∀ D2 : pm_Mem, (∀ r, r ≠ 30 → D2 r = D r) → (∀ k, k ≠ 14 → k ≠ 15 → D2 30 k = D 30 k) → D2 30 14 = D 30 14 + (if t < 0 ∨ 300 < t then 1 else 0) → D2 30 15 = (if rch ≠ p ∨ lft ≠ w then 1 else D 30 15) → X 78 [some (.ref 30), some (.int (nI b)), some (.int v), some (.int t), some (.int rch), some (.int lft)] [] D2 := by
      intro D2 f1 f2 f3 f4
      repeat (refine hX _ _ _ _ ?_; conv => whnf)
      refine ⟨hin, ?_⟩
      repeat (refine hX _ _ _ _ ?_; conv => whnf)
      refine ⟨by decide, hin, ?_⟩
      repeat (refine hX _ _ _ _ ?_; conv => whnf)
      refine ⟨by decide, hin, ?_⟩
      repeat (refine hX _ _ _ _ ?_; conv => whnf)
      rw [hcl, f2 13 (by omega) (by omega), f1 _ (by decide), hp]
      refine h _ (fun r h1 h2 h3 => ?_) (fun k h1 h2 h3 => ?_) ?_ ?_ ?_ (fun j => ?_) (fun j => ?_)
      · rw [pm_mu_ne _ _ _ h3, pm_mu_ne _ _ _ h2, pm_mu_ne _ _ _ h1]
        exact f1 r h1
      · simp [pm_mu_eq, h1]
        exact f2 k h2 h3
      · rw [pm_mu_r _ _ _ _ (by decide), pm_mu_r _ _ _ _ (by decide), pm_mu_at]
      · simp [pm_mu_eq]
        exact f3
      · simp [pm_mu_eq]
        rw [f4]
        try simp
      · simp [pm_mu_eq, f1]
      · simp [pm_mu_eq, f1]
    have s51 : ∀ D1 : pm_Mem, (∀ r, r ≠ 30 → D1 r = D r) → (∀ k, k ≠ 14 → D1 30 k = D 30 k) → D1 30 14 = D 30 14 + (if t < 0 ∨ 300 < t then 1 else 0) → X 51 [some (.ref 30), some (.int (nI b)), some (.int v), some (.int t), some (.int rch), some (.int lft)] [] D1 := by
      intro D1 f1 f2 f3
      repeat (refine hX _ _ _ _ ?_; conv => whnf)
      refine ⟨hin, ?_⟩
      rw [hcl, f1 _ (by decide), hp]
      repeat (refine hX _ _ _ _ ?_; conv => whnf)
      refine ⟨fun q1 => ?_, fun q1 => ?_⟩
      · repeat (refine hX _ _ _ _ ?_; conv => whnf)
        refine ⟨Or.inr rfl, ?_⟩
        exact s78 _ (fun r hr => by rw [pm_mu_ne _ _ _ hr]; exact f1 r hr) (fun k h1 h2 => by simp [pm_mu_eq, h2]; exact f2 k h1) (by simp [pm_mu_eq]; exact f3) (by simp [pm_mu_eq, q1])
      · repeat (refine hX _ _ _ _ ?_; conv => whnf)
        refine ⟨hin, ?_⟩
        rw [hcl, f1 _ (by decide), hw]
        repeat (refine hX _ _ _ _ ?_; conv => whnf)
        refine ⟨fun q2 => ?_, fun q2 => ?_⟩
        · exact s78 _ f1 (fun k h1 h2 => f2 k h1) f3 (by rw [f2 15 (by omega), if_neg (by simp [q1, q2])])
        · repeat (refine hX _ _ _ _ ?_; conv => whnf)
          refine ⟨Or.inr rfl, ?_⟩
          exact s78 _ (fun r hr => by rw [pm_mu_ne _ _ _ hr]; exact f1 r hr) (fun k h1 h2 => by simp [pm_mu_eq, h2]; exact f2 k h1) (by simp [pm_mu_eq]; exact f3) (by simp [pm_mu_eq, q2])
    iterate 4 (refine hX _ _ _ _ ?_; conv => whnf)
    refine ⟨hin, ?_⟩
    rw [hcl, hp]
    repeat (refine hX _ _ _ _ ?_; conv => whnf)
    rw [ht, hrch]
    refine ⟨fun q1 => ?_, fun q1 => ?_⟩
    · have q := hne.mp q1
      rw [if_pos q] at hl
      repeat (refine hX _ _ _ _ ?_; conv => whnf)
      refine ⟨fun z => absurd z q1, fun _ => ?_⟩
      iterate 6 (refine hX _ _ _ _ ?_; conv => whnf)
      subst hl
      exact s51 _ (fun r hr => pm_mu_ne _ _ _ hr) (fun k hk => pm_mu_k _ _ _ _ hk) (by rw [pm_mu_at, if_pos q])
    · have q : ¬ (t < 0 ∨ 300 < t) := fun z => hne.mpr z q1
      rw [if_neg q] at hl
      repeat (refine hX _ _ _ _ ?_; conv => whnf)
      refine ⟨fun _ => ?_, fun z => absurd q1 z⟩
      subst hl
      exact s51 D (fun _ _ => rfl) (fun _ _ => rfl) (by rw [if_neg q, Int32.add_zero])

/-! a page whose first n beads have gone -/
theorem z_mv_lo {g : z_P} {n k : Nat} (h : k < 16 ∨ (16 + n ≤ k ∧ k < 20) ∨ 20 + n ≤ k) (hn : n ≤ 4) : z_mv g n k = g k := by
  unfold z_mv
  rw [if_neg (by omega), if_neg (by omega)]
theorem z_mv_p {g : z_P} {n b : Nat} (h : b < n) : z_mv g n (16 + b) = z_np g b := by
  unfold z_mv
  rw [if_pos (by omega), show 16 + b - 16 = b by omega]
theorem z_mv_s {g : z_P} {n b : Nat} (h : b < n) (hn : n ≤ 4) : z_mv g n (20 + b) = z_fs g b := by
  unfold z_mv
  rw [if_neg (by omega), if_pos (by omega), show 20 + b - 20 = b by omega]
theorem z_move_lo {g : z_P} {k : Nat} (hn : z_n g ≤ 4) (h : k < 16 ∨ (16 + z_n g ≤ k ∧ k < 20) ∨ (20 + z_n g ≤ k ∧ k ≠ 51)) : z_move g k = g k := by
  unfold z_move
  rw [z_up_ne _ _ (by omega), z_mv_lo (by omega) hn]
theorem z_move_p {g : z_P} {b : Nat} (hn : z_n g ≤ 4) (h : b < z_n g) : z_move g (16 + b) = z_np g b := by
  unfold z_move
  rw [z_up_ne _ _ (by omega), z_mv_p h]
theorem z_move_s {g : z_P} {b : Nat} (hn : z_n g ≤ 4) (h : b < z_n g) : z_move g (20 + b) = z_fs g b := by
  unfold z_move
  rw [z_up_ne _ _ (by omega), z_mv_s h hn]
theorem z_move_t {g : z_P} : z_move g 51 = g 51 + 1 := z_up_at _ _ _
theorem z_move_n {g : z_P} (hn : z_n g ≤ 4) : z_n (z_move g) = z_n g := by
  show (z_move g 24).toNatClampNeg = _
  rw [z_move_lo hn (by omega)]
  rfl
theorem z_move_k {g : z_P} (hn : z_n g ≤ 4) : z_k (z_move g) = z_k g := by
  show (z_move g 49).toNatClampNeg = _
  rw [z_move_lo hn (by omega)]
  rfl
set_option maxHeartbeats 2000000 in
theorem t_move {N : Nat} {Ga : pm_Ga} {c : Nat} {g : z_P} {D : pm_Mem} {post : pm_Post} {T : Int}
    (hpu : ∀ c b g D post, c ∈ pm_chs → b < 4 → z_in (g b) 0 3 → D (c + 1) b = g b → D (c + 2) b = g (4 + b) → D (c + 3) b = g (8 + b) → (∀ j, j ≤ b → D (c + 5) j = g (16 + j)) → post (some (.int (z_pull g b))) D → Ga 12 [.ref c, .int (nI b)] D post)
    (hsl : ∀ c v d D post, c ∈ pm_chs → D c 2 = d → z_in d 0 3 → post (some (.int (z_slow v d))) D → Ga 19 [.ref c, .int v] D post)
    (hinb : ∀ v D post, post (some (.int (z_clamp v))) D → Ga 20 [.int v] D post)
    (hgo : ∀ c b p v w D post, c ∈ pm_chs → b < 4 → D (c + 5) b = p → D (c + 6) b = w →
      (∀ D' rch lft, rch = (if p + v < 0 then 0 else if 300 < p + v then 300 else p + v) → lft = (if p + v < 0 ∨ 300 < p + v then 0 else v) → (∀ r, r ≠ c → r ≠ c + 5 → r ≠ c + 6 → D' r = D r) → (∀ k, k ≠ 13 → k ≠ 14 → k ≠ 15 → D' c k = D c k) → D' c 13 = D c 13 + z_abs (rch - p) → D' c 14 = D c 14 + (if p + v < 0 ∨ 300 < p + v then 1 else 0) → D' c 15 = (if rch ≠ p ∨ lft ≠ w then 1 else D c 15) →
      (∀ j, D' (c + 5) j = if j = b then rch else D (c + 5) j) → (∀ j, D' (c + 6) j = if j = b then lft else D (c + 6) j) → post none D') → Ga 18 [.ref c, .int (nI b), .int v] D post)
    (hc : c ∈ pm_chs) (hG : z_G T g) (hR : z_R D c g)
    (h : ∀ D', z_R D' c (z_move g) → z_F c D D' → D' c 13 = D c 13 + z_gone g (z_n g) → D' c 14 = D c 14 + z_stop g (z_n g) → (D' c 15 = 0 ∨ D' c 15 = 1) → (D' c 15 = 1 ↔ z_stir g (z_n g)) → post none D') : pm_up N Ga 17 [.ref c] D post := by
  obtain ⟨g1, g2, g3, g4, g5, g6, g7, g8⟩ := hG
  obtain ⟨a1, a2, a3, a4, a5, a6⟩ := hR
  rw [g1] at a1
  generalize hn : z_n g = n at *
  rcases pm_chs_of hc with rfl | rfl | rfl | rfl
  · simp only [Nat.reduceAdd] at a5 a6
    refine ⟨rfl, fun X hX => ?_⟩
    replace hX : ∀ pc L st D, pm_F N Ga tbX0_move none post X pc L st D → X pc L st D := hX
    change X 0 [some (.ref 0), none, none, none] [] D
    iterate 2 (refine hX _ _ _ _ ?_; conv => whnf)
    -- the second loop
    have loop2 : ∀ (m b : Nat) (D1 : pm_Mem) (l2 l3 : Option Value), b + m = n → (∀ r, r ≠ 0 → r ≠ 5 → r ≠ 6 → r ≠ 9 → D1 r = D r) → (∀ k, k < 13 → D1 0 k = D 0 k) → (∀ j, j < n → D1 9 j = z_pull g j) → D1 9 n = 0 → (∀ j, j < n → D1 5 j = if j < b then z_np g j else g (16 + j)) → (∀ j, j < n → D1 6 j = if j < b then z_fs g j else g (20 + j)) → D1 0 13 = D 0 13 + z_gone g b → D1 0 14 = D 0 14 + z_stop g b → (D1 0 15 = 0 ∨ D1 0 15 = 1) → (D1 0 15 = 1 ↔ z_stir g b) → X 44 [some (.ref 0), some (.int (nI b)), l2, l3] [] D1 := by
      intro m
      induction m with
      | zero =>
        intro b D1 l2 l3 hb f1 f2 f3 f4 f5 f6 f7 f8 f9 f10
        have hb : b = n := by omega
        subst hb
        repeat (refine hX _ _ _ _ ?_; conv => whnf)
        rw [f2 0 (by omega), a1]
        refine ⟨fun _ => ?_, fun z => absurd (nI_le (Nat.le_refl _) (by omega)) z⟩
        repeat (refine hX _ _ _ _ ?_; conv => whnf)
        rw [f2 3 (by omega), a4]
        refine h _ ?_ (fun r hr => ?_) ?_ ?_ ?_ ?_
        · refine ⟨?_, ?_, ?_, ?_, fun j hj => ?_, fun i hi => ?_⟩
          · rw [pm_mu_k _ _ _ _ (by omega), f2 0 (by omega), a1, z_move_lo (by omega) (by omega), g1]
          · rw [pm_mu_k _ _ _ _ (by omega), f2 1 (by omega), a2, z_move_lo (by omega) (by omega)]
          · rw [pm_mu_k _ _ _ _ (by omega), f2 2 (by omega), a3, z_move_lo (by omega) (by omega)]
          · rw [pm_mu_at, z_move_t]
          · rw [z_move_n (by omega), hn] at hj
            obtain ⟨b1, b2, b3, b4, b5, b6⟩ := a5 j hj
            simp only [Nat.reduceAdd]
            refine ⟨?_, ?_, ?_, ?_, ?_, ?_⟩
            · rw [pm_mu_r _ _ _ _ (by decide), f1 _ (by decide) (by decide) (by decide) (by decide), b1, z_move_lo (by omega) (by omega)]
            · rw [pm_mu_r _ _ _ _ (by decide), f1 _ (by decide) (by decide) (by decide) (by decide), b2, z_move_lo (by omega) (by omega)]
            · rw [pm_mu_r _ _ _ _ (by decide), f1 _ (by decide) (by decide) (by decide) (by decide), b3, z_move_lo (by omega) (by omega)]
            · rw [pm_mu_r _ _ _ _ (by decide), f1 _ (by decide) (by decide) (by decide) (by decide), b4, z_move_lo (by omega) (by omega)]
            · rw [pm_mu_r _ _ _ _ (by decide), f5 j hj, if_pos hj, z_move_p (by omega) (by omega)]
            · rw [pm_mu_r _ _ _ _ (by decide), f6 j hj, if_pos hj, z_move_s (by omega) (by omega)]
          · rw [z_move_k (by omega)] at hi
            obtain ⟨b1, b2⟩ := a6 i hi
            simp only [Nat.reduceAdd]
            refine ⟨?_, ?_⟩
            · rw [pm_mu_r _ _ _ _ (by decide), f1 _ (by decide) (by decide) (by decide) (by decide), b1, z_move_lo (by omega) (by omega)]
            · rw [pm_mu_r _ _ _ _ (by decide), f1 _ (by decide) (by decide) (by decide) (by decide), b2, z_move_lo (by omega) (by omega)]
        · rw [pm_mu_ne _ _ _ (by omega)]
          exact f1 r (by omega) (by omega) (by omega) (by omega)
        · rw [pm_mu_k _ _ _ _ (by omega)]; exact f7
        · rw [pm_mu_k _ _ _ _ (by omega)]; exact f8
        · rw [pm_mu_k _ _ _ _ (by omega)]; exact f9
        · rw [pm_mu_k _ _ _ _ (by omega)]; exact f10
      | succ m ih =>
        intro b D1 l2 l3 hb f1 f2 f3 f4 f5 f6 f7 f8 f9 f10
        have hbn : b < n := by omega
        obtain ⟨k1, k2, k3, k4, k5, k6⟩ := g7 b (by omega)
        obtain ⟨b1, b2, b3, b4, b5, b6⟩ := a5 b hbn
        have hin : vp_in (nI b) 4 := vp_in_nI (by omega) (by decide)
        have hcl : (nI b).toNatClampNeg = b := nI_clamp (by omega)
        have hw : (10 * g (12 + b)).toInt = 10 * (g (12 + b)).toInt := z_mul (x := 10) (by have := k4.1; have := k4.2; show _ ≤ 10 * _; omega) (by have := k4.1; have := k4.2; show 10 * _ ≤ _; omega)
        have hm4 : D1 4 b = g (12 + b) := by rw [f1 _ (by decide) (by decide) (by decide) (by decide), b4]
        repeat (refine hX _ _ _ _ ?_; conv => whnf)
        rw [f2 0 (by omega), a1]
        refine ⟨fun z => absurd z (nI_ge (by omega) (by omega)), fun _ => ?_⟩
        repeat (refine hX _ _ _ _ ?_; conv => whnf)
        refine ⟨hin, ?_⟩
        rw [hcl, hm4]
        repeat (refine hX _ _ _ _ ?_; conv => whnf)
        refine ⟨fun z => absurd z (by rw [z_le, hw]; have := k4.1; show ¬ _ ≤ (0 : Int); omega), fun _ => ?_⟩
        repeat (refine hX _ _ _ _ ?_; conv => whnf)
        rw [nI_1]
        refine ⟨vp_in_nI (by omega) (by decide), ?_⟩
        repeat (refine hX _ _ _ _ ?_; conv => whnf)
        refine ⟨vp_in_nI (by omega) (by decide), ?_⟩
        repeat (refine hX _ _ _ _ ?_; conv => whnf)
        refine ⟨by rw [z_eq, hw]; have := k4.1; show ¬ _ = (0 : Int); omega, ?_⟩
        repeat (refine hX _ _ _ _ ?_; conv => whnf)
        refine ⟨hin, ?_⟩
        have hp1 : D1 9 (b + 1) = z_pn g (b + 1) := by
          unfold z_pn
          rw [hn]
          by_cases e : b + 1 < n
          · rw [if_pos e]; exact f3 _ e
          · rw [if_neg e, show b + 1 = n by omega]; exact f4
        rw [hcl, nI_clamp (show b + 1 < 2 ^ 31 by omega), hp1, f3 b hbn, f6 b hbn, if_neg (by omega)]
        repeat (refine hX _ _ _ _ ?_; conv => whnf)
        refine hsl 0 _ (g 50) D1 _ hc (by rw [f2 2 (by omega), a3]) g5 ?_
        repeat (refine hX _ _ _ _ ?_; conv => whnf)
        refine hinb _ _ _ ?_
        repeat (refine hX _ _ _ _ ?_; conv => whnf)
        refine hgo 0 b (g (16 + b)) (z_ns g b) (g (20 + b)) D1 _ hc (by omega) (by show D1 5 b = _; rw [f5 b hbn, if_neg (by omega)]) (by show D1 6 b = _; rw [f6 b hbn, if_neg (by omega)]) (fun D2 rch lft hrc hlf e1 e2 e3 e4 e5 e6 e7 => ?_)
        simp only [Nat.reduceAdd] at e1 e6 e7
        have hrc : rch = z_np g b := hrc
        have hlf : lft = z_fs g b := hlf
        subst hrc
        subst hlf
        iterate 2 (refine hX _ _ _ _ ?_; conv => whnf)
        rw [nI_1]
        have hst : z_stir g (b + 1) ↔ z_stir g b ∨ (z_np g b ≠ g (16 + b) ∨ z_fs g b ≠ g (20 + b)) := by
          constructor
          · rintro ⟨j, hj, hq⟩
            by_cases e : j = b
            · subst e; exact Or.inr hq
            · exact Or.inl ⟨j, by omega, hq⟩
          · rintro (⟨j, hj, hq⟩ | hq)
            · exact ⟨j, by omega, hq⟩
            · exact ⟨b, by omega, hq⟩
        refine ih (b + 1) D2 _ _ (by omega) (fun r r1 r2 r3 r4 => ?_) (fun k hk => ?_) (fun j hj => ?_) ?_ (fun j hj => ?_) (fun j hj => ?_) ?_ ?_ ?_ ?_
        · rw [e1 r r1 r2 r3]; exact f1 r r1 r2 r3 r4
        · rw [e2 k (by omega) (by omega) (by omega)]; exact f2 k hk
        · rw [e1 _ (by decide) (by decide) (by decide)]; exact f3 j hj
        · rw [e1 _ (by decide) (by decide) (by decide)]; exact f4
        · rw [e6 j]
          by_cases e : j = b
          · rw [if_pos e, if_pos (by omega), e]
          · rw [if_neg e, f5 j hj]
            by_cases e2 : j < b
            · rw [if_pos e2, if_pos (by omega)]
            · rw [if_neg e2, if_neg (by omega)]
        · rw [e7 j]
          by_cases e : j = b
          · rw [if_pos e, if_pos (by omega), e]
          · rw [if_neg e, f6 j hj]
            by_cases e2 : j < b
            · rw [if_pos e2, if_pos (by omega)]
            · rw [if_neg e2, if_neg (by omega)]
        · rw [e3, f7, Int32.add_assoc]; rfl
        · rw [e4, f8, Int32.add_assoc]; rfl
        · rw [e5]
          split
          · exact Or.inr rfl
          · exact f9
        · rw [e5, hst]
          split
          · rename_i q
            exact ⟨fun _ => Or.inr q, fun _ => rfl⟩
          · rename_i q
            rw [f10]
            exact ⟨Or.inl, fun z => z.elim id (fun z => absurd z q)⟩
    have loop1 : ∀ (m b : Nat) (D1 : pm_Mem), b + m = n → (∀ r, r ≠ 9 → D1 r = D r) → (∀ j, j < b → D1 9 j = z_pull g j) → X 2 [some (.ref 0), some (.int (nI b)), none, none] [] D1 := by
      intro m
      induction m with
      | zero =>
        intro b D1 hb f1 f2
        have hb : b = n := by omega
        subst hb
        repeat (refine hX _ _ _ _ ?_; conv => whnf)
        rw [f1 0 (by decide), a1]
        refine ⟨fun _ => ?_, fun z => absurd (nI_le (Nat.le_refl _) (by omega)) z⟩
        repeat (refine hX _ _ _ _ ?_; conv => whnf)
        rw [f1 0 (by decide), a1]
        refine ⟨by decide, vp_in_nI (by omega) (by decide), ?_⟩
        repeat (refine hX _ _ _ _ ?_; conv => whnf)
        refine ⟨Or.inl rfl, ?_⟩
        iterate 2 (refine hX _ _ _ _ ?_; conv => whnf)
        rw [nI_clamp (by omega)]
        refine loop2 b 0 _ none none (by omega) (fun r r1 r2 r3 r4 => ?_) (fun k hk => ?_) (fun j hj => ?_) ?_ (fun j hj => ?_) (fun j hj => ?_) ?_ ?_ ?_ ?_
        · rw [pm_mu_ne _ _ _ r1, pm_mu_ne _ _ _ r4]; exact f1 r r4
        · rw [pm_mu_k _ _ _ _ (by omega), pm_mu_r _ _ _ _ (by decide), f1 _ (by decide)]
        · rw [pm_mu_r _ _ _ _ (by decide), pm_mu_k _ _ _ _ (by omega)]; exact f2 j hj
        · rw [pm_mu_r _ _ _ _ (by decide), pm_mu_at]
        · rw [pm_mu_r _ _ _ _ (by decide), pm_mu_r _ _ _ _ (by decide), f1 _ (by decide), if_neg (by omega)]; exact (a5 j hj).2.2.2.2.1
        · rw [pm_mu_r _ _ _ _ (by decide), pm_mu_r _ _ _ _ (by decide), f1 _ (by decide), if_neg (by omega)]; exact (a5 j hj).2.2.2.2.2
        · rw [pm_mu_k _ _ _ _ (by omega), pm_mu_r _ _ _ _ (by decide), f1 _ (by decide)]; exact (Int32.add_zero _).symm
        · rw [pm_mu_k _ _ _ _ (by omega), pm_mu_r _ _ _ _ (by decide), f1 _ (by decide)]; exact (Int32.add_zero _).symm
        · exact Or.inl (pm_mu_at _ _ _ _)
        · rw [pm_mu_at]
          exact ⟨fun z => absurd z (by decide), fun ⟨b, hb, _⟩ => absurd hb (by omega)⟩
      | succ m ih =>
        intro b D1 hb f1 f2
        repeat (refine hX _ _ _ _ ?_; conv => whnf)
        rw [f1 0 (by decide), a1]
        refine ⟨fun z => absurd z (nI_ge (by omega) (by omega)), fun _ => ?_⟩
        repeat (refine hX _ _ _ _ ?_; conv => whnf)
        obtain ⟨b1, b2, b3, b4, b5, b6⟩ := a5 b (by omega)
        refine hpu 0 b g D1 _ hc (by omega) (g7 b (by omega)).1 (by rw [f1 _ (by decide)]; exact b1) (by rw [f1 _ (by decide)]; exact b2) (by rw [f1 _ (by decide)]; exact b3) (fun j hj => by rw [f1 _ (by decide)]; exact (a5 j (by omega)).2.2.2.2.1) ?_
        repeat (refine hX _ _ _ _ ?_; conv => whnf)
        refine ⟨by decide, vp_in_nI (by omega) (by decide), ?_⟩
        iterate 2 (refine hX _ _ _ _ ?_; conv => whnf)
        rw [nI_clamp (by omega), nI_1]
        refine ih (b + 1) _ (by omega) (fun r hr => by rw [pm_mu_ne _ _ _ hr]; exact f1 r hr) (fun j hj => ?_)
        rw [pm_mu_eq, if_pos rfl]
        split
        · rename_i e; rw [e]
        · exact f2 j (by omega)
    exact loop1 n 0 D (by omega) (fun _ _ => rfl) (fun j hj => by omega)
  · simp only [Nat.reduceAdd] at a5 a6
    refine ⟨rfl, fun X hX => ?_⟩
    replace hX : ∀ pc L st D, pm_F N Ga tbX0_move none post X pc L st D → X pc L st D := hX
    change X 0 [some (.ref 10), none, none, none] [] D
    iterate 2 (refine hX _ _ _ _ ?_; conv => whnf)
    -- the second loop
    have loop2 : ∀ (m b : Nat) (D1 : pm_Mem) (l2 l3 : Option Value), b + m = n → (∀ r, r ≠ 10 → r ≠ 15 → r ≠ 16 → r ≠ 19 → D1 r = D r) → (∀ k, k < 13 → D1 10 k = D 10 k) → (∀ j, j < n → D1 19 j = z_pull g j) → D1 19 n = 0 → (∀ j, j < n → D1 15 j = if j < b then z_np g j else g (16 + j)) → (∀ j, j < n → D1 16 j = if j < b then z_fs g j else g (20 + j)) → D1 10 13 = D 10 13 + z_gone g b → D1 10 14 = D 10 14 + z_stop g b → (D1 10 15 = 0 ∨ D1 10 15 = 1) → (D1 10 15 = 1 ↔ z_stir g b) → X 44 [some (.ref 10), some (.int (nI b)), l2, l3] [] D1 := by
      intro m
      induction m with
      | zero =>
        intro b D1 l2 l3 hb f1 f2 f3 f4 f5 f6 f7 f8 f9 f10
        have hb : b = n := by omega
        subst hb
        repeat (refine hX _ _ _ _ ?_; conv => whnf)
        rw [f2 0 (by omega), a1]
        refine ⟨fun _ => ?_, fun z => absurd (nI_le (Nat.le_refl _) (by omega)) z⟩
        repeat (refine hX _ _ _ _ ?_; conv => whnf)
        rw [f2 3 (by omega), a4]
        refine h _ ?_ (fun r hr => ?_) ?_ ?_ ?_ ?_
        · refine ⟨?_, ?_, ?_, ?_, fun j hj => ?_, fun i hi => ?_⟩
          · rw [pm_mu_k _ _ _ _ (by omega), f2 0 (by omega), a1, z_move_lo (by omega) (by omega), g1]
          · rw [pm_mu_k _ _ _ _ (by omega), f2 1 (by omega), a2, z_move_lo (by omega) (by omega)]
          · rw [pm_mu_k _ _ _ _ (by omega), f2 2 (by omega), a3, z_move_lo (by omega) (by omega)]
          · rw [pm_mu_at, z_move_t]
          · rw [z_move_n (by omega), hn] at hj
            obtain ⟨b1, b2, b3, b4, b5, b6⟩ := a5 j hj
            simp only [Nat.reduceAdd]
            refine ⟨?_, ?_, ?_, ?_, ?_, ?_⟩
            · rw [pm_mu_r _ _ _ _ (by decide), f1 _ (by decide) (by decide) (by decide) (by decide), b1, z_move_lo (by omega) (by omega)]
            · rw [pm_mu_r _ _ _ _ (by decide), f1 _ (by decide) (by decide) (by decide) (by decide), b2, z_move_lo (by omega) (by omega)]
            · rw [pm_mu_r _ _ _ _ (by decide), f1 _ (by decide) (by decide) (by decide) (by decide), b3, z_move_lo (by omega) (by omega)]
            · rw [pm_mu_r _ _ _ _ (by decide), f1 _ (by decide) (by decide) (by decide) (by decide), b4, z_move_lo (by omega) (by omega)]
            · rw [pm_mu_r _ _ _ _ (by decide), f5 j hj, if_pos hj, z_move_p (by omega) (by omega)]
            · rw [pm_mu_r _ _ _ _ (by decide), f6 j hj, if_pos hj, z_move_s (by omega) (by omega)]
          · rw [z_move_k (by omega)] at hi
            obtain ⟨b1, b2⟩ := a6 i hi
            simp only [Nat.reduceAdd]
            refine ⟨?_, ?_⟩
            · rw [pm_mu_r _ _ _ _ (by decide), f1 _ (by decide) (by decide) (by decide) (by decide), b1, z_move_lo (by omega) (by omega)]
            · rw [pm_mu_r _ _ _ _ (by decide), f1 _ (by decide) (by decide) (by decide) (by decide), b2, z_move_lo (by omega) (by omega)]
        · rw [pm_mu_ne _ _ _ (by omega)]
          exact f1 r (by omega) (by omega) (by omega) (by omega)
        · rw [pm_mu_k _ _ _ _ (by omega)]; exact f7
        · rw [pm_mu_k _ _ _ _ (by omega)]; exact f8
        · rw [pm_mu_k _ _ _ _ (by omega)]; exact f9
        · rw [pm_mu_k _ _ _ _ (by omega)]; exact f10
      | succ m ih =>
        intro b D1 l2 l3 hb f1 f2 f3 f4 f5 f6 f7 f8 f9 f10
        have hbn : b < n := by omega
        obtain ⟨k1, k2, k3, k4, k5, k6⟩ := g7 b (by omega)
        obtain ⟨b1, b2, b3, b4, b5, b6⟩ := a5 b hbn
        have hin : vp_in (nI b) 4 := vp_in_nI (by omega) (by decide)
        have hcl : (nI b).toNatClampNeg = b := nI_clamp (by omega)
        have hw : (10 * g (12 + b)).toInt = 10 * (g (12 + b)).toInt := z_mul (x := 10) (by have := k4.1; have := k4.2; show _ ≤ 10 * _; omega) (by have := k4.1; have := k4.2; show 10 * _ ≤ _; omega)
        have hm4 : D1 14 b = g (12 + b) := by rw [f1 _ (by decide) (by decide) (by decide) (by decide), b4]
        repeat (refine hX _ _ _ _ ?_; conv => whnf)
        rw [f2 0 (by omega), a1]
        refine ⟨fun z => absurd z (nI_ge (by omega) (by omega)), fun _ => ?_⟩
        repeat (refine hX _ _ _ _ ?_; conv => whnf)
        refine ⟨hin, ?_⟩
        rw [hcl, hm4]
        repeat (refine hX _ _ _ _ ?_; conv => whnf)
        refine ⟨fun z => absurd z (by rw [z_le, hw]; have := k4.1; show ¬ _ ≤ (0 : Int); omega), fun _ => ?_⟩
        repeat (refine hX _ _ _ _ ?_; conv => whnf)
        rw [nI_1]
        refine ⟨vp_in_nI (by omega) (by decide), ?_⟩
        repeat (refine hX _ _ _ _ ?_; conv => whnf)
        refine ⟨vp_in_nI (by omega) (by decide), ?_⟩
        repeat (refine hX _ _ _ _ ?_; conv => whnf)
        refine ⟨by rw [z_eq, hw]; have := k4.1; show ¬ _ = (0 : Int); omega, ?_⟩
        repeat (refine hX _ _ _ _ ?_; conv => whnf)
        refine ⟨hin, ?_⟩
        have hp1 : D1 19 (b + 1) = z_pn g (b + 1) := by
          unfold z_pn
          rw [hn]
          by_cases e : b + 1 < n
          · rw [if_pos e]; exact f3 _ e
          · rw [if_neg e, show b + 1 = n by omega]; exact f4
        rw [hcl, nI_clamp (show b + 1 < 2 ^ 31 by omega), hp1, f3 b hbn, f6 b hbn, if_neg (by omega)]
        repeat (refine hX _ _ _ _ ?_; conv => whnf)
        refine hsl 10 _ (g 50) D1 _ hc (by rw [f2 2 (by omega), a3]) g5 ?_
        repeat (refine hX _ _ _ _ ?_; conv => whnf)
        refine hinb _ _ _ ?_
        repeat (refine hX _ _ _ _ ?_; conv => whnf)
        refine hgo 10 b (g (16 + b)) (z_ns g b) (g (20 + b)) D1 _ hc (by omega) (by show D1 15 b = _; rw [f5 b hbn, if_neg (by omega)]) (by show D1 16 b = _; rw [f6 b hbn, if_neg (by omega)]) (fun D2 rch lft hrc hlf e1 e2 e3 e4 e5 e6 e7 => ?_)
        simp only [Nat.reduceAdd] at e1 e6 e7
        have hrc : rch = z_np g b := hrc
        have hlf : lft = z_fs g b := hlf
        subst hrc
        subst hlf
        iterate 2 (refine hX _ _ _ _ ?_; conv => whnf)
        rw [nI_1]
        have hst : z_stir g (b + 1) ↔ z_stir g b ∨ (z_np g b ≠ g (16 + b) ∨ z_fs g b ≠ g (20 + b)) := by
          constructor
          · rintro ⟨j, hj, hq⟩
            by_cases e : j = b
            · subst e; exact Or.inr hq
            · exact Or.inl ⟨j, by omega, hq⟩
          · rintro (⟨j, hj, hq⟩ | hq)
            · exact ⟨j, by omega, hq⟩
            · exact ⟨b, by omega, hq⟩
        refine ih (b + 1) D2 _ _ (by omega) (fun r r1 r2 r3 r4 => ?_) (fun k hk => ?_) (fun j hj => ?_) ?_ (fun j hj => ?_) (fun j hj => ?_) ?_ ?_ ?_ ?_
        · rw [e1 r r1 r2 r3]; exact f1 r r1 r2 r3 r4
        · rw [e2 k (by omega) (by omega) (by omega)]; exact f2 k hk
        · rw [e1 _ (by decide) (by decide) (by decide)]; exact f3 j hj
        · rw [e1 _ (by decide) (by decide) (by decide)]; exact f4
        · rw [e6 j]
          by_cases e : j = b
          · rw [if_pos e, if_pos (by omega), e]
          · rw [if_neg e, f5 j hj]
            by_cases e2 : j < b
            · rw [if_pos e2, if_pos (by omega)]
            · rw [if_neg e2, if_neg (by omega)]
        · rw [e7 j]
          by_cases e : j = b
          · rw [if_pos e, if_pos (by omega), e]
          · rw [if_neg e, f6 j hj]
            by_cases e2 : j < b
            · rw [if_pos e2, if_pos (by omega)]
            · rw [if_neg e2, if_neg (by omega)]
        · rw [e3, f7, Int32.add_assoc]; rfl
        · rw [e4, f8, Int32.add_assoc]; rfl
        · rw [e5]
          split
          · exact Or.inr rfl
          · exact f9
        · rw [e5, hst]
          split
          · rename_i q
            exact ⟨fun _ => Or.inr q, fun _ => rfl⟩
          · rename_i q
            rw [f10]
            exact ⟨Or.inl, fun z => z.elim id (fun z => absurd z q)⟩
    have loop1 : ∀ (m b : Nat) (D1 : pm_Mem), b + m = n → (∀ r, r ≠ 19 → D1 r = D r) → (∀ j, j < b → D1 19 j = z_pull g j) → X 2 [some (.ref 10), some (.int (nI b)), none, none] [] D1 := by
      intro m
      induction m with
      | zero =>
        intro b D1 hb f1 f2
        have hb : b = n := by omega
        subst hb
        repeat (refine hX _ _ _ _ ?_; conv => whnf)
        rw [f1 10 (by decide), a1]
        refine ⟨fun _ => ?_, fun z => absurd (nI_le (Nat.le_refl _) (by omega)) z⟩
        repeat (refine hX _ _ _ _ ?_; conv => whnf)
        rw [f1 10 (by decide), a1]
        refine ⟨by decide, vp_in_nI (by omega) (by decide), ?_⟩
        repeat (refine hX _ _ _ _ ?_; conv => whnf)
        refine ⟨Or.inl rfl, ?_⟩
        iterate 2 (refine hX _ _ _ _ ?_; conv => whnf)
        rw [nI_clamp (by omega)]
        refine loop2 b 0 _ none none (by omega) (fun r r1 r2 r3 r4 => ?_) (fun k hk => ?_) (fun j hj => ?_) ?_ (fun j hj => ?_) (fun j hj => ?_) ?_ ?_ ?_ ?_
        · rw [pm_mu_ne _ _ _ r1, pm_mu_ne _ _ _ r4]; exact f1 r r4
        · rw [pm_mu_k _ _ _ _ (by omega), pm_mu_r _ _ _ _ (by decide), f1 _ (by decide)]
        · rw [pm_mu_r _ _ _ _ (by decide), pm_mu_k _ _ _ _ (by omega)]; exact f2 j hj
        · rw [pm_mu_r _ _ _ _ (by decide), pm_mu_at]
        · rw [pm_mu_r _ _ _ _ (by decide), pm_mu_r _ _ _ _ (by decide), f1 _ (by decide), if_neg (by omega)]; exact (a5 j hj).2.2.2.2.1
        · rw [pm_mu_r _ _ _ _ (by decide), pm_mu_r _ _ _ _ (by decide), f1 _ (by decide), if_neg (by omega)]; exact (a5 j hj).2.2.2.2.2
        · rw [pm_mu_k _ _ _ _ (by omega), pm_mu_r _ _ _ _ (by decide), f1 _ (by decide)]; exact (Int32.add_zero _).symm
        · rw [pm_mu_k _ _ _ _ (by omega), pm_mu_r _ _ _ _ (by decide), f1 _ (by decide)]; exact (Int32.add_zero _).symm
        · exact Or.inl (pm_mu_at _ _ _ _)
        · rw [pm_mu_at]
          exact ⟨fun z => absurd z (by decide), fun ⟨b, hb, _⟩ => absurd hb (by omega)⟩
      | succ m ih =>
        intro b D1 hb f1 f2
        repeat (refine hX _ _ _ _ ?_; conv => whnf)
        rw [f1 10 (by decide), a1]
        refine ⟨fun z => absurd z (nI_ge (by omega) (by omega)), fun _ => ?_⟩
        repeat (refine hX _ _ _ _ ?_; conv => whnf)
        obtain ⟨b1, b2, b3, b4, b5, b6⟩ := a5 b (by omega)
        refine hpu 10 b g D1 _ hc (by omega) (g7 b (by omega)).1 (by rw [f1 _ (by decide)]; exact b1) (by rw [f1 _ (by decide)]; exact b2) (by rw [f1 _ (by decide)]; exact b3) (fun j hj => by rw [f1 _ (by decide)]; exact (a5 j (by omega)).2.2.2.2.1) ?_
        repeat (refine hX _ _ _ _ ?_; conv => whnf)
        refine ⟨by decide, vp_in_nI (by omega) (by decide), ?_⟩
        iterate 2 (refine hX _ _ _ _ ?_; conv => whnf)
        rw [nI_clamp (by omega), nI_1]
        refine ih (b + 1) _ (by omega) (fun r hr => by rw [pm_mu_ne _ _ _ hr]; exact f1 r hr) (fun j hj => ?_)
        rw [pm_mu_eq, if_pos rfl]
        split
        · rename_i e; rw [e]
        · exact f2 j (by omega)
    exact loop1 n 0 D (by omega) (fun _ _ => rfl) (fun j hj => by omega)
  · simp only [Nat.reduceAdd] at a5 a6
    refine ⟨rfl, fun X hX => ?_⟩
    replace hX : ∀ pc L st D, pm_F N Ga tbX0_move none post X pc L st D → X pc L st D := hX
    change X 0 [some (.ref 20), none, none, none] [] D
    iterate 2 (refine hX _ _ _ _ ?_; conv => whnf)
    -- the second loop
    have loop2 : ∀ (m b : Nat) (D1 : pm_Mem) (l2 l3 : Option Value), b + m = n → (∀ r, r ≠ 20 → r ≠ 25 → r ≠ 26 → r ≠ 29 → D1 r = D r) → (∀ k, k < 13 → D1 20 k = D 20 k) → (∀ j, j < n → D1 29 j = z_pull g j) → D1 29 n = 0 → (∀ j, j < n → D1 25 j = if j < b then z_np g j else g (16 + j)) → (∀ j, j < n → D1 26 j = if j < b then z_fs g j else g (20 + j)) → D1 20 13 = D 20 13 + z_gone g b → D1 20 14 = D 20 14 + z_stop g b → (D1 20 15 = 0 ∨ D1 20 15 = 1) → (D1 20 15 = 1 ↔ z_stir g b) → X 44 [some (.ref 20), some (.int (nI b)), l2, l3] [] D1 := by
      intro m
      induction m with
      | zero =>
        intro b D1 l2 l3 hb f1 f2 f3 f4 f5 f6 f7 f8 f9 f10
        have hb : b = n := by omega
        subst hb
        repeat (refine hX _ _ _ _ ?_; conv => whnf)
        rw [f2 0 (by omega), a1]
        refine ⟨fun _ => ?_, fun z => absurd (nI_le (Nat.le_refl _) (by omega)) z⟩
        repeat (refine hX _ _ _ _ ?_; conv => whnf)
        rw [f2 3 (by omega), a4]
        refine h _ ?_ (fun r hr => ?_) ?_ ?_ ?_ ?_
        · refine ⟨?_, ?_, ?_, ?_, fun j hj => ?_, fun i hi => ?_⟩
          · rw [pm_mu_k _ _ _ _ (by omega), f2 0 (by omega), a1, z_move_lo (by omega) (by omega), g1]
          · rw [pm_mu_k _ _ _ _ (by omega), f2 1 (by omega), a2, z_move_lo (by omega) (by omega)]
          · rw [pm_mu_k _ _ _ _ (by omega), f2 2 (by omega), a3, z_move_lo (by omega) (by omega)]
          · rw [pm_mu_at, z_move_t]
          · rw [z_move_n (by omega), hn] at hj
            obtain ⟨b1, b2, b3, b4, b5, b6⟩ := a5 j hj
            simp only [Nat.reduceAdd]
            refine ⟨?_, ?_, ?_, ?_, ?_, ?_⟩
            · rw [pm_mu_r _ _ _ _ (by decide), f1 _ (by decide) (by decide) (by decide) (by decide), b1, z_move_lo (by omega) (by omega)]
            · rw [pm_mu_r _ _ _ _ (by decide), f1 _ (by decide) (by decide) (by decide) (by decide), b2, z_move_lo (by omega) (by omega)]
            · rw [pm_mu_r _ _ _ _ (by decide), f1 _ (by decide) (by decide) (by decide) (by decide), b3, z_move_lo (by omega) (by omega)]
            · rw [pm_mu_r _ _ _ _ (by decide), f1 _ (by decide) (by decide) (by decide) (by decide), b4, z_move_lo (by omega) (by omega)]
            · rw [pm_mu_r _ _ _ _ (by decide), f5 j hj, if_pos hj, z_move_p (by omega) (by omega)]
            · rw [pm_mu_r _ _ _ _ (by decide), f6 j hj, if_pos hj, z_move_s (by omega) (by omega)]
          · rw [z_move_k (by omega)] at hi
            obtain ⟨b1, b2⟩ := a6 i hi
            simp only [Nat.reduceAdd]
            refine ⟨?_, ?_⟩
            · rw [pm_mu_r _ _ _ _ (by decide), f1 _ (by decide) (by decide) (by decide) (by decide), b1, z_move_lo (by omega) (by omega)]
            · rw [pm_mu_r _ _ _ _ (by decide), f1 _ (by decide) (by decide) (by decide) (by decide), b2, z_move_lo (by omega) (by omega)]
        · rw [pm_mu_ne _ _ _ (by omega)]
          exact f1 r (by omega) (by omega) (by omega) (by omega)
        · rw [pm_mu_k _ _ _ _ (by omega)]; exact f7
        · rw [pm_mu_k _ _ _ _ (by omega)]; exact f8
        · rw [pm_mu_k _ _ _ _ (by omega)]; exact f9
        · rw [pm_mu_k _ _ _ _ (by omega)]; exact f10
      | succ m ih =>
        intro b D1 l2 l3 hb f1 f2 f3 f4 f5 f6 f7 f8 f9 f10
        have hbn : b < n := by omega
        obtain ⟨k1, k2, k3, k4, k5, k6⟩ := g7 b (by omega)
        obtain ⟨b1, b2, b3, b4, b5, b6⟩ := a5 b hbn
        have hin : vp_in (nI b) 4 := vp_in_nI (by omega) (by decide)
        have hcl : (nI b).toNatClampNeg = b := nI_clamp (by omega)
        have hw : (10 * g (12 + b)).toInt = 10 * (g (12 + b)).toInt := z_mul (x := 10) (by have := k4.1; have := k4.2; show _ ≤ 10 * _; omega) (by have := k4.1; have := k4.2; show 10 * _ ≤ _; omega)
        have hm4 : D1 24 b = g (12 + b) := by rw [f1 _ (by decide) (by decide) (by decide) (by decide), b4]
        repeat (refine hX _ _ _ _ ?_; conv => whnf)
        rw [f2 0 (by omega), a1]
        refine ⟨fun z => absurd z (nI_ge (by omega) (by omega)), fun _ => ?_⟩
        repeat (refine hX _ _ _ _ ?_; conv => whnf)
        refine ⟨hin, ?_⟩
        rw [hcl, hm4]
        repeat (refine hX _ _ _ _ ?_; conv => whnf)
        refine ⟨fun z => absurd z (by rw [z_le, hw]; have := k4.1; show ¬ _ ≤ (0 : Int); omega), fun _ => ?_⟩
        repeat (refine hX _ _ _ _ ?_; conv => whnf)
        rw [nI_1]
        refine ⟨vp_in_nI (by omega) (by decide), ?_⟩
        repeat (refine hX _ _ _ _ ?_; conv => whnf)
        refine ⟨vp_in_nI (by omega) (by decide), ?_⟩
        repeat (refine hX _ _ _ _ ?_; conv => whnf)
        refine ⟨by rw [z_eq, hw]; have := k4.1; show ¬ _ = (0 : Int); omega, ?_⟩
        repeat (refine hX _ _ _ _ ?_; conv => whnf)
        refine ⟨hin, ?_⟩
        have hp1 : D1 29 (b + 1) = z_pn g (b + 1) := by
          unfold z_pn
          rw [hn]
          by_cases e : b + 1 < n
          · rw [if_pos e]; exact f3 _ e
          · rw [if_neg e, show b + 1 = n by omega]; exact f4
        rw [hcl, nI_clamp (show b + 1 < 2 ^ 31 by omega), hp1, f3 b hbn, f6 b hbn, if_neg (by omega)]
        repeat (refine hX _ _ _ _ ?_; conv => whnf)
        refine hsl 20 _ (g 50) D1 _ hc (by rw [f2 2 (by omega), a3]) g5 ?_
        repeat (refine hX _ _ _ _ ?_; conv => whnf)
        refine hinb _ _ _ ?_
        repeat (refine hX _ _ _ _ ?_; conv => whnf)
        refine hgo 20 b (g (16 + b)) (z_ns g b) (g (20 + b)) D1 _ hc (by omega) (by show D1 25 b = _; rw [f5 b hbn, if_neg (by omega)]) (by show D1 26 b = _; rw [f6 b hbn, if_neg (by omega)]) (fun D2 rch lft hrc hlf e1 e2 e3 e4 e5 e6 e7 => ?_)
        simp only [Nat.reduceAdd] at e1 e6 e7
        have hrc : rch = z_np g b := hrc
        have hlf : lft = z_fs g b := hlf
        subst hrc
        subst hlf
        iterate 2 (refine hX _ _ _ _ ?_; conv => whnf)
        rw [nI_1]
        have hst : z_stir g (b + 1) ↔ z_stir g b ∨ (z_np g b ≠ g (16 + b) ∨ z_fs g b ≠ g (20 + b)) := by
          constructor
          · rintro ⟨j, hj, hq⟩
            by_cases e : j = b
            · subst e; exact Or.inr hq
            · exact Or.inl ⟨j, by omega, hq⟩
          · rintro (⟨j, hj, hq⟩ | hq)
            · exact ⟨j, by omega, hq⟩
            · exact ⟨b, by omega, hq⟩
        refine ih (b + 1) D2 _ _ (by omega) (fun r r1 r2 r3 r4 => ?_) (fun k hk => ?_) (fun j hj => ?_) ?_ (fun j hj => ?_) (fun j hj => ?_) ?_ ?_ ?_ ?_
        · rw [e1 r r1 r2 r3]; exact f1 r r1 r2 r3 r4
        · rw [e2 k (by omega) (by omega) (by omega)]; exact f2 k hk
        · rw [e1 _ (by decide) (by decide) (by decide)]; exact f3 j hj
        · rw [e1 _ (by decide) (by decide) (by decide)]; exact f4
        · rw [e6 j]
          by_cases e : j = b
          · rw [if_pos e, if_pos (by omega), e]
          · rw [if_neg e, f5 j hj]
            by_cases e2 : j < b
            · rw [if_pos e2, if_pos (by omega)]
            · rw [if_neg e2, if_neg (by omega)]
        · rw [e7 j]
          by_cases e : j = b
          · rw [if_pos e, if_pos (by omega), e]
          · rw [if_neg e, f6 j hj]
            by_cases e2 : j < b
            · rw [if_pos e2, if_pos (by omega)]
            · rw [if_neg e2, if_neg (by omega)]
        · rw [e3, f7, Int32.add_assoc]; rfl
        · rw [e4, f8, Int32.add_assoc]; rfl
        · rw [e5]
          split
          · exact Or.inr rfl
          · exact f9
        · rw [e5, hst]
          split
          · rename_i q
            exact ⟨fun _ => Or.inr q, fun _ => rfl⟩
          · rename_i q
            rw [f10]
            exact ⟨Or.inl, fun z => z.elim id (fun z => absurd z q)⟩
    have loop1 : ∀ (m b : Nat) (D1 : pm_Mem), b + m = n → (∀ r, r ≠ 29 → D1 r = D r) → (∀ j, j < b → D1 29 j = z_pull g j) → X 2 [some (.ref 20), some (.int (nI b)), none, none] [] D1 := by
      intro m
      induction m with
      | zero =>
        intro b D1 hb f1 f2
        have hb : b = n := by omega
        subst hb
        repeat (refine hX _ _ _ _ ?_; conv => whnf)
        rw [f1 20 (by decide), a1]
        refine ⟨fun _ => ?_, fun z => absurd (nI_le (Nat.le_refl _) (by omega)) z⟩
        repeat (refine hX _ _ _ _ ?_; conv => whnf)
        rw [f1 20 (by decide), a1]
        refine ⟨by decide, vp_in_nI (by omega) (by decide), ?_⟩
        repeat (refine hX _ _ _ _ ?_; conv => whnf)
        refine ⟨Or.inl rfl, ?_⟩
        iterate 2 (refine hX _ _ _ _ ?_; conv => whnf)
        rw [nI_clamp (by omega)]
        refine loop2 b 0 _ none none (by omega) (fun r r1 r2 r3 r4 => ?_) (fun k hk => ?_) (fun j hj => ?_) ?_ (fun j hj => ?_) (fun j hj => ?_) ?_ ?_ ?_ ?_
        · rw [pm_mu_ne _ _ _ r1, pm_mu_ne _ _ _ r4]; exact f1 r r4
        · rw [pm_mu_k _ _ _ _ (by omega), pm_mu_r _ _ _ _ (by decide), f1 _ (by decide)]
        · rw [pm_mu_r _ _ _ _ (by decide), pm_mu_k _ _ _ _ (by omega)]; exact f2 j hj
        · rw [pm_mu_r _ _ _ _ (by decide), pm_mu_at]
        · rw [pm_mu_r _ _ _ _ (by decide), pm_mu_r _ _ _ _ (by decide), f1 _ (by decide), if_neg (by omega)]; exact (a5 j hj).2.2.2.2.1
        · rw [pm_mu_r _ _ _ _ (by decide), pm_mu_r _ _ _ _ (by decide), f1 _ (by decide), if_neg (by omega)]; exact (a5 j hj).2.2.2.2.2
        · rw [pm_mu_k _ _ _ _ (by omega), pm_mu_r _ _ _ _ (by decide), f1 _ (by decide)]; exact (Int32.add_zero _).symm
        · rw [pm_mu_k _ _ _ _ (by omega), pm_mu_r _ _ _ _ (by decide), f1 _ (by decide)]; exact (Int32.add_zero _).symm
        · exact Or.inl (pm_mu_at _ _ _ _)
        · rw [pm_mu_at]
          exact ⟨fun z => absurd z (by decide), fun ⟨b, hb, _⟩ => absurd hb (by omega)⟩
      | succ m ih =>
        intro b D1 hb f1 f2
        repeat (refine hX _ _ _ _ ?_; conv => whnf)
        rw [f1 20 (by decide), a1]
        refine ⟨fun z => absurd z (nI_ge (by omega) (by omega)), fun _ => ?_⟩
        repeat (refine hX _ _ _ _ ?_; conv => whnf)
        obtain ⟨b1, b2, b3, b4, b5, b6⟩ := a5 b (by omega)
        refine hpu 20 b g D1 _ hc (by omega) (g7 b (by omega)).1 (by rw [f1 _ (by decide)]; exact b1) (by rw [f1 _ (by decide)]; exact b2) (by rw [f1 _ (by decide)]; exact b3) (fun j hj => by rw [f1 _ (by decide)]; exact (a5 j (by omega)).2.2.2.2.1) ?_
        repeat (refine hX _ _ _ _ ?_; conv => whnf)
        refine ⟨by decide, vp_in_nI (by omega) (by decide), ?_⟩
        iterate 2 (refine hX _ _ _ _ ?_; conv => whnf)
        rw [nI_clamp (by omega), nI_1]
        refine ih (b + 1) _ (by omega) (fun r hr => by rw [pm_mu_ne _ _ _ hr]; exact f1 r hr) (fun j hj => ?_)
        rw [pm_mu_eq, if_pos rfl]
        split
        · rename_i e; rw [e]
        · exact f2 j (by omega)
    exact loop1 n 0 D (by omega) (fun _ _ => rfl) (fun j hj => by omega)
  · simp only [Nat.reduceAdd] at a5 a6
    refine ⟨rfl, fun X hX => ?_⟩
    replace hX : ∀ pc L st D, pm_F N Ga tbX0_move none post X pc L st D → X pc L st D := hX
    change X 0 [some (.ref 30), none, none, none] [] D
    iterate 2 (refine hX _ _ _ _ ?_; conv => whnf)
    -- the second loop
    have loop2 : ∀ (m b : Nat) (D1 : pm_Mem) (l2 l3 : Option Value), b + m = n → (∀ r, r ≠ 30 → r ≠ 35 → r ≠ 36 → r ≠ 39 → D1 r = D r) → (∀ k, k < 13 → D1 30 k = D 30 k) → (∀ j, j < n → D1 39 j = z_pull g j) → D1 39 n = 0 → (∀ j, j < n → D1 35 j = if j < b then z_np g j else g (16 + j)) → (∀ j, j < n → D1 36 j = if j < b then z_fs g j else g (20 + j)) → D1 30 13 = D 30 13 + z_gone g b → D1 30 14 = D 30 14 + z_stop g b → (D1 30 15 = 0 ∨ D1 30 15 = 1) → (D1 30 15 = 1 ↔ z_stir g b) → X 44 [some (.ref 30), some (.int (nI b)), l2, l3] [] D1 := by
      intro m
      induction m with
      | zero =>
        intro b D1 l2 l3 hb f1 f2 f3 f4 f5 f6 f7 f8 f9 f10
        have hb : b = n := by omega
        subst hb
        repeat (refine hX _ _ _ _ ?_; conv => whnf)
        rw [f2 0 (by omega), a1]
        refine ⟨fun _ => ?_, fun z => absurd (nI_le (Nat.le_refl _) (by omega)) z⟩
        repeat (refine hX _ _ _ _ ?_; conv => whnf)
        rw [f2 3 (by omega), a4]
        refine h _ ?_ (fun r hr => ?_) ?_ ?_ ?_ ?_
        · refine ⟨?_, ?_, ?_, ?_, fun j hj => ?_, fun i hi => ?_⟩
          · rw [pm_mu_k _ _ _ _ (by omega), f2 0 (by omega), a1, z_move_lo (by omega) (by omega), g1]
          · rw [pm_mu_k _ _ _ _ (by omega), f2 1 (by omega), a2, z_move_lo (by omega) (by omega)]
          · rw [pm_mu_k _ _ _ _ (by omega), f2 2 (by omega), a3, z_move_lo (by omega) (by omega)]
          · rw [pm_mu_at, z_move_t]
          · rw [z_move_n (by omega), hn] at hj
            obtain ⟨b1, b2, b3, b4, b5, b6⟩ := a5 j hj
            simp only [Nat.reduceAdd]
            refine ⟨?_, ?_, ?_, ?_, ?_, ?_⟩
            · rw [pm_mu_r _ _ _ _ (by decide), f1 _ (by decide) (by decide) (by decide) (by decide), b1, z_move_lo (by omega) (by omega)]
            · rw [pm_mu_r _ _ _ _ (by decide), f1 _ (by decide) (by decide) (by decide) (by decide), b2, z_move_lo (by omega) (by omega)]
            · rw [pm_mu_r _ _ _ _ (by decide), f1 _ (by decide) (by decide) (by decide) (by decide), b3, z_move_lo (by omega) (by omega)]
            · rw [pm_mu_r _ _ _ _ (by decide), f1 _ (by decide) (by decide) (by decide) (by decide), b4, z_move_lo (by omega) (by omega)]
            · rw [pm_mu_r _ _ _ _ (by decide), f5 j hj, if_pos hj, z_move_p (by omega) (by omega)]
            · rw [pm_mu_r _ _ _ _ (by decide), f6 j hj, if_pos hj, z_move_s (by omega) (by omega)]
          · rw [z_move_k (by omega)] at hi
            obtain ⟨b1, b2⟩ := a6 i hi
            simp only [Nat.reduceAdd]
            refine ⟨?_, ?_⟩
            · rw [pm_mu_r _ _ _ _ (by decide), f1 _ (by decide) (by decide) (by decide) (by decide), b1, z_move_lo (by omega) (by omega)]
            · rw [pm_mu_r _ _ _ _ (by decide), f1 _ (by decide) (by decide) (by decide) (by decide), b2, z_move_lo (by omega) (by omega)]
        · rw [pm_mu_ne _ _ _ (by omega)]
          exact f1 r (by omega) (by omega) (by omega) (by omega)
        · rw [pm_mu_k _ _ _ _ (by omega)]; exact f7
        · rw [pm_mu_k _ _ _ _ (by omega)]; exact f8
        · rw [pm_mu_k _ _ _ _ (by omega)]; exact f9
        · rw [pm_mu_k _ _ _ _ (by omega)]; exact f10
      | succ m ih =>
        intro b D1 l2 l3 hb f1 f2 f3 f4 f5 f6 f7 f8 f9 f10
        have hbn : b < n := by omega
        obtain ⟨k1, k2, k3, k4, k5, k6⟩ := g7 b (by omega)
        obtain ⟨b1, b2, b3, b4, b5, b6⟩ := a5 b hbn
        have hin : vp_in (nI b) 4 := vp_in_nI (by omega) (by decide)
        have hcl : (nI b).toNatClampNeg = b := nI_clamp (by omega)
        have hw : (10 * g (12 + b)).toInt = 10 * (g (12 + b)).toInt := z_mul (x := 10) (by have := k4.1; have := k4.2; show _ ≤ 10 * _; omega) (by have := k4.1; have := k4.2; show 10 * _ ≤ _; omega)
        have hm4 : D1 34 b = g (12 + b) := by rw [f1 _ (by decide) (by decide) (by decide) (by decide), b4]
        repeat (refine hX _ _ _ _ ?_; conv => whnf)
        rw [f2 0 (by omega), a1]
        refine ⟨fun z => absurd z (nI_ge (by omega) (by omega)), fun _ => ?_⟩
        repeat (refine hX _ _ _ _ ?_; conv => whnf)
        refine ⟨hin, ?_⟩
        rw [hcl, hm4]
        repeat (refine hX _ _ _ _ ?_; conv => whnf)
        refine ⟨fun z => absurd z (by rw [z_le, hw]; have := k4.1; show ¬ _ ≤ (0 : Int); omega), fun _ => ?_⟩
        repeat (refine hX _ _ _ _ ?_; conv => whnf)
        rw [nI_1]
        refine ⟨vp_in_nI (by omega) (by decide), ?_⟩
        repeat (refine hX _ _ _ _ ?_; conv => whnf)
        refine ⟨vp_in_nI (by omega) (by decide), ?_⟩
        repeat (refine hX _ _ _ _ ?_; conv => whnf)
        refine ⟨by rw [z_eq, hw]; have := k4.1; show ¬ _ = (0 : Int); omega, ?_⟩
        repeat (refine hX _ _ _ _ ?_; conv => whnf)
        refine ⟨hin, ?_⟩
        have hp1 : D1 39 (b + 1) = z_pn g (b + 1) := by
          unfold z_pn
          rw [hn]
          by_cases e : b + 1 < n
          · rw [if_pos e]; exact f3 _ e
          · rw [if_neg e, show b + 1 = n by omega]; exact f4
        rw [hcl, nI_clamp (show b + 1 < 2 ^ 31 by omega), hp1, f3 b hbn, f6 b hbn, if_neg (by omega)]
        repeat (refine hX _ _ _ _ ?_; conv => whnf)
        refine hsl 30 _ (g 50) D1 _ hc (by rw [f2 2 (by omega), a3]) g5 ?_
        repeat (refine hX _ _ _ _ ?_; conv => whnf)
        refine hinb _ _ _ ?_
        repeat (refine hX _ _ _ _ ?_; conv => whnf)
        refine hgo 30 b (g (16 + b)) (z_ns g b) (g (20 + b)) D1 _ hc (by omega) (by show D1 35 b = _; rw [f5 b hbn, if_neg (by omega)]) (by show D1 36 b = _; rw [f6 b hbn, if_neg (by omega)]) (fun D2 rch lft hrc hlf e1 e2 e3 e4 e5 e6 e7 => ?_)
        simp only [Nat.reduceAdd] at e1 e6 e7
        have hrc : rch = z_np g b := hrc
        have hlf : lft = z_fs g b := hlf
        subst hrc
        subst hlf
        iterate 2 (refine hX _ _ _ _ ?_; conv => whnf)
        rw [nI_1]
        have hst : z_stir g (b + 1) ↔ z_stir g b ∨ (z_np g b ≠ g (16 + b) ∨ z_fs g b ≠ g (20 + b)) := by
          constructor
          · rintro ⟨j, hj, hq⟩
            by_cases e : j = b
            · subst e; exact Or.inr hq
            · exact Or.inl ⟨j, by omega, hq⟩
          · rintro (⟨j, hj, hq⟩ | hq)
            · exact ⟨j, by omega, hq⟩
            · exact ⟨b, by omega, hq⟩
        refine ih (b + 1) D2 _ _ (by omega) (fun r r1 r2 r3 r4 => ?_) (fun k hk => ?_) (fun j hj => ?_) ?_ (fun j hj => ?_) (fun j hj => ?_) ?_ ?_ ?_ ?_
        · rw [e1 r r1 r2 r3]; exact f1 r r1 r2 r3 r4
        · rw [e2 k (by omega) (by omega) (by omega)]; exact f2 k hk
        · rw [e1 _ (by decide) (by decide) (by decide)]; exact f3 j hj
        · rw [e1 _ (by decide) (by decide) (by decide)]; exact f4
        · rw [e6 j]
          by_cases e : j = b
          · rw [if_pos e, if_pos (by omega), e]
          · rw [if_neg e, f5 j hj]
            by_cases e2 : j < b
            · rw [if_pos e2, if_pos (by omega)]
            · rw [if_neg e2, if_neg (by omega)]
        · rw [e7 j]
          by_cases e : j = b
          · rw [if_pos e, if_pos (by omega), e]
          · rw [if_neg e, f6 j hj]
            by_cases e2 : j < b
            · rw [if_pos e2, if_pos (by omega)]
            · rw [if_neg e2, if_neg (by omega)]
        · rw [e3, f7, Int32.add_assoc]; rfl
        · rw [e4, f8, Int32.add_assoc]; rfl
        · rw [e5]
          split
          · exact Or.inr rfl
          · exact f9
        · rw [e5, hst]
          split
          · rename_i q
            exact ⟨fun _ => Or.inr q, fun _ => rfl⟩
          · rename_i q
            rw [f10]
            exact ⟨Or.inl, fun z => z.elim id (fun z => absurd z q)⟩
    have loop1 : ∀ (m b : Nat) (D1 : pm_Mem), b + m = n → (∀ r, r ≠ 39 → D1 r = D r) → (∀ j, j < b → D1 39 j = z_pull g j) → X 2 [some (.ref 30), some (.int (nI b)), none, none] [] D1 := by
      intro m
      induction m with
      | zero =>
        intro b D1 hb f1 f2
        have hb : b = n := by omega
        subst hb
        repeat (refine hX _ _ _ _ ?_; conv => whnf)
        rw [f1 30 (by decide), a1]
        refine ⟨fun _ => ?_, fun z => absurd (nI_le (Nat.le_refl _) (by omega)) z⟩
        repeat (refine hX _ _ _ _ ?_; conv => whnf)
        rw [f1 30 (by decide), a1]
        refine ⟨by decide, vp_in_nI (by omega) (by decide), ?_⟩
        repeat (refine hX _ _ _ _ ?_; conv => whnf)
        refine ⟨Or.inl rfl, ?_⟩
        iterate 2 (refine hX _ _ _ _ ?_; conv => whnf)
        rw [nI_clamp (by omega)]
        refine loop2 b 0 _ none none (by omega) (fun r r1 r2 r3 r4 => ?_) (fun k hk => ?_) (fun j hj => ?_) ?_ (fun j hj => ?_) (fun j hj => ?_) ?_ ?_ ?_ ?_
        · rw [pm_mu_ne _ _ _ r1, pm_mu_ne _ _ _ r4]; exact f1 r r4
        · rw [pm_mu_k _ _ _ _ (by omega), pm_mu_r _ _ _ _ (by decide), f1 _ (by decide)]
        · rw [pm_mu_r _ _ _ _ (by decide), pm_mu_k _ _ _ _ (by omega)]; exact f2 j hj
        · rw [pm_mu_r _ _ _ _ (by decide), pm_mu_at]
        · rw [pm_mu_r _ _ _ _ (by decide), pm_mu_r _ _ _ _ (by decide), f1 _ (by decide), if_neg (by omega)]; exact (a5 j hj).2.2.2.2.1
        · rw [pm_mu_r _ _ _ _ (by decide), pm_mu_r _ _ _ _ (by decide), f1 _ (by decide), if_neg (by omega)]; exact (a5 j hj).2.2.2.2.2
        · rw [pm_mu_k _ _ _ _ (by omega), pm_mu_r _ _ _ _ (by decide), f1 _ (by decide)]; exact (Int32.add_zero _).symm
        · rw [pm_mu_k _ _ _ _ (by omega), pm_mu_r _ _ _ _ (by decide), f1 _ (by decide)]; exact (Int32.add_zero _).symm
        · exact Or.inl (pm_mu_at _ _ _ _)
        · rw [pm_mu_at]
          exact ⟨fun z => absurd z (by decide), fun ⟨b, hb, _⟩ => absurd hb (by omega)⟩
      | succ m ih =>
        intro b D1 hb f1 f2
        repeat (refine hX _ _ _ _ ?_; conv => whnf)
        rw [f1 30 (by decide), a1]
        refine ⟨fun z => absurd z (nI_ge (by omega) (by omega)), fun _ => ?_⟩
        repeat (refine hX _ _ _ _ ?_; conv => whnf)
        obtain ⟨b1, b2, b3, b4, b5, b6⟩ := a5 b (by omega)
        refine hpu 30 b g D1 _ hc (by omega) (g7 b (by omega)).1 (by rw [f1 _ (by decide)]; exact b1) (by rw [f1 _ (by decide)]; exact b2) (by rw [f1 _ (by decide)]; exact b3) (fun j hj => by rw [f1 _ (by decide)]; exact (a5 j (by omega)).2.2.2.2.1) ?_
        repeat (refine hX _ _ _ _ ?_; conv => whnf)
        refine ⟨by decide, vp_in_nI (by omega) (by decide), ?_⟩
        iterate 2 (refine hX _ _ _ _ ?_; conv => whnf)
        rw [nI_clamp (by omega), nI_1]
        refine ih (b + 1) _ (by omega) (fun r hr => by rw [pm_mu_ne _ _ _ hr]; exact f1 r hr) (fun j hj => ?_)
        rw [pm_mu_eq, if_pos rfl]
        split
        · rename_i e; rw [e]
        · exact f2 j (by omega)
    exact loop1 n 0 D (by omega) (fun _ _ => rfl) (fun j hj => by omega)
end
section
/-! ===== pages stay as they should be ===== -/
theorem z_clamp_in (v : Int32) : z_in (z_clamp v) (-40) 40 := by
  unfold z_clamp
  by_cases h1 : 40 < v
  · rw [if_pos h1]; exact ⟨by decide, by decide⟩
  · rw [if_neg h1]
    by_cases h2 : v < -40
    · rw [if_pos h2]; exact ⟨by decide, by decide⟩
    · rw [if_neg h2]
      rw [z_lt] at h1 h2
      have e1 : (40 : Int32).toInt = 40 := rfl
      have e2 : (-40 : Int32).toInt = -40 := rfl
      exact ⟨by omega, by omega⟩
theorem z_ns_in (g : z_P) (b : Nat) : z_in (z_ns g b) (-40) 40 := z_clamp_in _
theorem z_np_in (g : z_P) (b : Nat) : z_in (z_np g b) 0 300 := by
  have e1 : (300 : Int32).toInt = 300 := rfl
  have e2 : (0 : Int32).toInt = 0 := rfl
  unfold z_np
  by_cases h1 : z_to g b < 0
  · rw [if_pos h1]; exact ⟨by decide, by decide⟩
  · rw [if_neg h1]
    by_cases h2 : 300 < z_to g b
    · rw [if_pos h2]; exact ⟨by decide, by decide⟩
    · rw [if_neg h2]
      rw [z_lt] at h1 h2
      exact ⟨by omega, by omega⟩
theorem z_fs_in (g : z_P) (b : Nat) : z_in (z_fs g b) (-40) 40 := by
  unfold z_fs
  split
  · exact ⟨by decide, by decide⟩
  · exact z_ns_in g b
theorem z_G.mono {T T' : Int} {g : z_P} (h : z_G T g) (hT : T ≤ T') : z_G T' g := by
  obtain ⟨a1, a2, a3, a4, a5, a6, a7, a8⟩ := h
  exact ⟨a1, a2, a3, a4, a5, ⟨a6.1, by have := a6.2; omega⟩, a7, a8⟩
theorem z_G.move {T : Int} {g : z_P} (h : z_G T g) (hT : T < 2147483647) : z_G (T + 1) (z_move g) := by
  obtain ⟨a1, a2, a3, a4, a5, a6, a7, a8⟩ := h
  refine ⟨?_, by rw [z_move_n a2]; exact a2, ?_, by rw [z_move_k a2]; exact a4, by rw [z_move_lo a2 (by omega)]; exact a5, ?_, fun b hb => ?_, fun i hi => ?_⟩
  · rw [z_move_n a2, z_move_lo a2 (by omega)]; exact a1
  · rw [z_move_k a2, z_move_lo a2 (by omega)]; exact a3
  · rw [z_move_t]
    have e : (g 51 + 1).toInt = (g 51).toInt + 1 := z_add (y := 1) (by have := a6.1; show _ ≤ _ + 1; omega) (by have := a6.2; show _ + 1 ≤ _; omega)
    exact ⟨by rw [e]; have := a6.1; omega, by rw [e]; have := a6.2; omega⟩
  · rw [z_move_n a2] at hb
    obtain ⟨b1, b2, b3, b4, b5, b6⟩ := a7 b hb
    rw [z_move_lo a2 (by omega), z_move_lo a2 (by omega), z_move_lo a2 (by omega), z_move_lo a2 (by omega), z_move_p a2 hb, z_move_s a2 hb]
    exact ⟨b1, b2, b3, b4, z_np_in g b, z_fs_in g b⟩
  · rw [z_move_k a2] at hi
    rw [z_move_lo a2 (by omega), z_move_lo a2 (by omega)]
    exact a8 i hi
theorem z_hit_cases {T : Int} {g : z_P} (h : z_G T g) (b v : Int32) : z_hit g b v = g ∨ ∃ j, j < z_n g ∧ z_hit g b v = z_up g (20 + j) (z_clamp (g (20 + j) + v)) := by
  unfold z_hit
  by_cases q : 0 ≤ b ∧ b < g 24
  · rw [if_pos q]
    refine Or.inr ⟨b.toNatClampNeg, ?_, rfl⟩
    have h1 := z_lt.mp q.2
    have h2 : (0 : Int) ≤ b.toInt := z_le.mp q.1
    rw [h.1, z_tI (by have := h.2.1; omega)] at h1
    show b.toInt.toNat < _
    omega
  · rw [if_neg q]; exact Or.inl rfl
theorem z_G.speed {T : Int} {g : z_P} (h : z_G T g) {j : Nat} (hj : j < z_n g) (v : Int32) (hv : z_in v (-40) 40) : z_G T (z_up g (20 + j) v) ∧ z_n (z_up g (20 + j) v) = z_n g ∧ z_k (z_up g (20 + j) v) = z_k g := by
  obtain ⟨a1, a2, a3, a4, a5, a6, a7, a8⟩ := h
  have n1 : z_n (z_up g (20 + j) v) = z_n g := z_n_up (by omega)
  have n2 : z_k (z_up g (20 + j) v) = z_k g := z_k_up (by omega)
  refine ⟨⟨by rw [n1, z_up_ne g v (by omega)]; exact a1, by rw [n1]; exact a2, by rw [n2, z_up_ne g v (by omega)]; exact a3, by rw [n2]; exact a4, by rw [z_up_ne g v (by omega)]; exact a5, by rw [z_up_ne g v (by omega)]; exact a6, fun b hb => ?_, fun i hi => ?_⟩, n1, n2⟩
  · rw [n1] at hb
    obtain ⟨b1, b2, b3, b4, b5, b6⟩ := a7 b hb
    rw [z_up_ne g v (show b ≠ 20 + j by omega), z_up_ne g v (show 4 + b ≠ 20 + j by omega), z_up_ne g v (show 8 + b ≠ 20 + j by omega), z_up_ne g v (show 12 + b ≠ 20 + j by omega), z_up_ne g v (show 16 + b ≠ 20 + j by omega)]
    refine ⟨b1, b2, b3, b4, b5, ?_⟩
    by_cases e : b = j
    · rw [e, z_up_at]; exact hv
    · rw [z_up_ne g v (by omega)]; exact b6
  · rw [n2] at hi
    rw [z_up_ne g v (by omega), z_up_ne g v (by omega)]
    exact a8 i hi
theorem z_G.hit {T : Int} {g : z_P} (h : z_G T g) (b v : Int32) : z_G T (z_hit g b v) ∧ z_n (z_hit g b v) = z_n g ∧ z_k (z_hit g b v) = z_k g := by
  rcases z_hit_cases h b v with e | ⟨j, hj, e⟩
  · rw [e]; exact ⟨h, rfl, rfl⟩
  · rw [e]; exact h.speed hj _ (z_clamp_in _)
theorem z_G.plan {T : Int} {g : z_P} (h : z_G T g) : z_G T (z_plan g) ∧ z_n (z_plan g) = z_n g ∧ z_k (z_plan g) = z_k g := by
  unfold z_plan
  split
  · exact ⟨h, rfl, rfl⟩
  · exact h.hit _ _
theorem z_G.tick {T : Int} {g : z_P} (h : z_G T g) (hT : T < 2147483647) : z_G (T + 1) (z_tick g) ∧ z_n (z_tick g) = z_n g ∧ z_k (z_tick g) = z_k g := by
  obtain ⟨h1, h2, h3⟩ := h.plan
  exact ⟨h1.move hT, by unfold z_tick; rw [z_move_n h1.2.1, h2], by unfold z_tick; rw [z_move_k h1.2.1, h3]⟩
/-- so many ticks -/
def z_run (g : z_P) : Nat → z_P
  | 0 => g
  | n + 1 => z_tick (z_run g n)
def z_tg (g : z_P) : Int32 := z_gone (z_plan g) (z_n g)
def z_ts (g : z_P) : Int32 := z_stop (z_plan g) (z_n g)
def z_rg (g : z_P) : Nat → Int32
  | 0 => 0
  | n + 1 => z_rg g n + z_tg (z_run g n)
def z_rs (g : z_P) : Nat → Int32
  | 0 => 0
  | n + 1 => z_rs g n + z_ts (z_run g n)
abbrev z_max (a b : Int32) : Int32 := pm_max a b
/-- how far the last bead is from where it is on the page g -/
def z_sw (g h : z_P) : Int32 := z_abs (z_last h - z_last g)
def z_wid (g : z_P) : Nat → Int32
  | 0 => 0
  | n + 1 => z_max (z_wid g n) (z_sw g (z_run g (n + 1)))
theorem z_G.run {T : Int} {g : z_P} (h : z_G T g) : ∀ n : Nat, T + n < 2147483647 → z_G (T + n) (z_run g n) ∧ z_n (z_run g n) = z_n g ∧ z_k (z_run g n) = z_k g
  | 0, _ => ⟨h.mono (by omega), rfl, rfl⟩
  | n + 1, hT => by
    obtain ⟨h1, h2, h3⟩ := h.run n (by omega)
    obtain ⟨k1, k2, k3⟩ := h1.tick (by omega)
    refine ⟨?_, k2.trans h2, k3.trans h3⟩
    have e : T + ((n + 1 : Nat) : Int) = T + n + 1 := by omega
    rw [e]
    exact k1
theorem z_max_le {a b c : Int32} (h1 : a ≤ c) (h2 : b ≤ c) : z_max a b ≤ c := by
  unfold z_max pm_max
  split <;> assumption
theorem z_max_l (a b : Int32) : a ≤ z_max a b := by
  unfold z_max pm_max
  split
  · rename_i h
    rw [z_lt] at h
    rw [z_le]
    omega
  · rw [z_le]; omega
theorem z_max_r (a b : Int32) : b ≤ z_max a b := by
  unfold z_max pm_max
  split
  · rw [z_le]; omega
  · rename_i h
    rw [z_lt] at h
    rw [z_le]
    omega
theorem z_wid_mono (g : z_P) (m : Nat) : ∀ k : Nat, z_wid g m ≤ z_wid g (m + k)
  | 0 => by rw [z_le]; exact Int.le_refl _
  | k + 1 => by
    have h1 := z_le.mp (z_wid_mono g m k)
    have h2 := z_le.mp (z_max_l (z_wid g (m + k)) (z_sw g (z_run g (m + k + 1))))
    rw [z_le]
    exact Int.le_trans h1 h2
theorem z_last_in {T : Int} {g : z_P} (h : z_G T g) : z_in (z_last g) 0 300 := by
  unfold z_last
  by_cases e : z_n g = 0
  · rw [if_pos e]; exact ⟨by decide, by decide⟩
  · rw [if_neg e, show 15 + z_n g = 16 + (z_n g - 1) by omega]
    exact (h.2.2.2.2.2.2.1 (z_n g - 1) (by omega)).2.2.2.2.1
theorem z_abs_in {v : Int32} {a : Int} (h : z_in v (-a) a) (ha : a < 2147483648) : z_in (z_abs v) 0 a ∧ (z_abs v).toInt = v.toInt.natAbs := by
  obtain ⟨h1, h2⟩ := h
  unfold z_abs pm_abs
  have z0 : (0 : Int32).toInt = 0 := rfl
  by_cases q : 0 ≤ v
  · rw [if_pos q]
    have q' := z_le.mp q
    exact ⟨⟨by omega, by omega⟩, by omega⟩
  · rw [if_neg q]
    have q' : v.toInt < 0 := by rw [z_le] at q; omega
    have e : (0 - v).toInt = - v.toInt := by rw [z_sub (by omega) (by omega)]; omega
    exact ⟨⟨by omega, by omega⟩, by omega⟩
theorem z_sw_in {T T' : Int} {g h : z_P} (hg : z_G T g) (hh : z_G T' h) : z_in (z_sw g h) 0 300 := by
  have h1 := z_last_in hg
  have h2 := z_last_in hh
  refine (z_abs_in (a := 300) ?_ (by omega)).1
  have e : (z_last h - z_last g).toInt = (z_last h).toInt - (z_last g).toInt := z_sub (by have := h1.1; have := h1.2; have := h2.1; have := h2.2; omega) (by have := h1.1; have := h1.2; have := h2.1; have := h2.2; omega)
  exact ⟨by rw [e]; have := h1.1; have := h1.2; have := h2.1; have := h2.2; omega, by rw [e]; have := h1.1; have := h1.2; have := h2.1; have := h2.2; omega⟩
theorem z_wid_in {T : Int} {g : z_P} (h : z_G T g) : ∀ n : Nat, T + n < 2147483647 → z_in (z_wid g n) 0 300
  | 0, _ => (⟨by decide, by decide⟩ : z_in (0 : Int32) 0 300)
  | n + 1, hT => by
    have h1 := z_wid_in h n (by omega)
    have h2 := z_sw_in h (h.run (n + 1) (by omega)).1
    show z_in (z_max _ _) 0 300
    unfold z_max pm_max
    split
    · exact h2
    · exact h1

/-! ===== what the chain's methods do ===== -/
def sp_within (Ga : pm_Ga) : Prop := ∀ (v a b : Int32) (D : pm_Mem) (post : pm_Post), (a ≤ v → v ≤ b → post (some (.int 1)) D) → (¬ (a ≤ v ∧ v ≤ b) → post (some (.int 0)) D) → Ga 97 [.int v, .int a, .int b] D post
def sp_has (Ga : pm_Ga) : Prop := ∀ (c : Nat) (b : Int32) (D : pm_Mem) (post : pm_Post), c ∈ pm_chs → (0 ≤ b → b < D c 0 → post (some (.int 1)) D) → (¬ (0 ≤ b ∧ b < D c 0) → post (some (.int 0)) D) → Ga 3 [.ref c, .int b] D post
def sp_lastPlace (Ga : pm_Ga) : Prop := ∀ (c n : Nat) (D : pm_Mem) (post : pm_Post), c ∈ pm_chs → D c 0 = nI n → n ≤ 4 → post (some (.int (if n = 0 then 0 else D (c + 5) (n - 1)))) D → Ga 6 [.ref c] D post
def sp_knockOnce (Ga : pm_Ga) : Prop := ∀ (c : Nat) (b by_ : Int32) (g : z_P) (D : pm_Mem) (post : pm_Post), c ∈ pm_chs → z_R D c g → g 24 = nI (z_n g) → z_n g ≤ 4 → z_k g ≤ 12 → (∀ D', z_R D' c (z_hit g b by_) → (∀ r, r ≠ c + 6 → D' r = D r) → post none D') → Ga 13 [.ref c, .int b, .int by_] D post
def sp_knockByPlan (Ga : pm_Ga) : Prop := ∀ (c : Nat) (g : z_P) (D : pm_Mem) (post : pm_Post) (T : Int), T < 2147483648 → c ∈ pm_chs → z_G T g → z_R D c g → (∀ D', z_R D' c (z_plan g) → (∀ r, r ≠ c + 6 → D' r = D r) → post none D') → Ga 14 [.ref c] D post
def sp_move (Ga : pm_Ga) : Prop := ∀ (c : Nat) (g : z_P) (D : pm_Mem) (post : pm_Post) (T : Int), c ∈ pm_chs → z_G T g → z_R D c g → (∀ D', z_R D' c (z_move g) → z_F c D D' → D' c 13 = D c 13 + z_gone g (z_n g) → D' c 14 = D c 14 + z_stop g (z_n g) → (D' c 15 = 0 ∨ D' c 15 = 1) → (D' c 15 = 1 ↔ z_stir g (z_n g)) → post none D') → Ga 17 [.ref c] D post
def sp_tickOnce (Ga : pm_Ga) : Prop := ∀ (c : Nat) (g : z_P) (D : pm_Mem) (post : pm_Post) (T : Int), T < 2147483648 → c ∈ pm_chs → z_G T g → z_R D c g → (∀ D', z_R D' c (z_tick g) → z_F c D D' → D' c 13 = D c 13 + z_tg g → D' c 14 = D c 14 + z_ts g → post none D') → Ga 15 [.ref c] D post
def sp_tickOften (Ga : pm_Ga) : Prop := ∀ (c n : Nat) (g : z_P) (D : pm_Mem) (post : pm_Post) (T : Int), T + n < 2147483647 → n < 2147483648 → c ∈ pm_chs → z_G T g → z_R D c g → (∀ D', z_R D' c (z_run g n) → z_F c D D' → D' c 13 = D c 13 + z_rg g n → D' c 14 = D c 14 + z_rs g n → post none D') → Ga 16 [.ref c, .int (nI n)] D post
def sp_greatestSwing (Ga : pm_Ga) : Prop := ∀ (c n : Nat) (en : Int32) (g : z_P) (D : pm_Mem) (post : pm_Post) (T : Int), T + n < 2147483647 → n < 2147483648 → c ∈ pm_chs → z_G T g → z_R D c g → (∀ (m : Nat) D', m ≤ n → (m = n ∨ en ≤ z_wid g m) → z_R D' c (z_run g m) → z_F c D D' → D' c 13 = D c 13 + z_rg g m → D' c 14 = D c 14 + z_rs g m → post (some (.int (z_wid g m))) D') → Ga 21 [.ref c, .int (nI n), .int en] D post
end
section
theorem z_R_last {D : pm_Mem} {c : Nat} {g : z_P} (h : z_R D c g) : (if z_n g = 0 then (0 : Int32) else D (c + 5) (z_n g - 1)) = z_last g := by
  unfold z_last
  by_cases e : z_n g = 0
  · rw [if_pos e, if_pos e]
  · rw [if_neg e, if_neg e, (z_Rb h (show z_n g - 1 < z_n g by omega)).2.2.2.2.1, show 16 + (z_n g - 1) = 15 + z_n g by omega]
set_option maxHeartbeats 2000000 in
theorem t_tickOnce {N : Nat} {Ga : pm_Ga} (hkp : sp_knockByPlan Ga) (hmv : sp_move Ga) : sp_tickOnce (pm_up N Ga) := by
  intro c g D post T hT hc hG hR h
  obtain ⟨hG1, hn1, -⟩ := hG.plan
  rcases pm_chs_of hc with rfl | rfl | rfl | rfl
  · refine ⟨rfl, fun X hX => ?_⟩
    replace hX : ∀ pc L st D, pm_F N Ga tbX0_tickOnce none post X pc L st D → X pc L st D := hX
    change X 0 [some (.ref 0)] [] D
    repeat (refine hX _ _ _ _ ?_; conv => whnf)
    refine hkp 0 g D _ T hT hc hG hR (fun D1 hR1 hF1 => ?_)
    repeat (refine hX _ _ _ _ ?_; conv => whnf)
    refine hmv 0 _ D1 _ T hc hG1 hR1 (fun D2 hR2 hF2 e1 e2 _ _ => ?_)
    repeat (refine hX _ _ _ _ ?_; conv => whnf)
    rw [hn1, hF1 0 (by decide)] at e1 e2
    exact h D2 hR2 (fun r hr => by rw [hF2 r hr]; exact hF1 r (by omega)) e1 e2
  · refine ⟨rfl, fun X hX => ?_⟩
    replace hX : ∀ pc L st D, pm_F N Ga tbX0_tickOnce none post X pc L st D → X pc L st D := hX
    change X 0 [some (.ref 10)] [] D
    repeat (refine hX _ _ _ _ ?_; conv => whnf)
    refine hkp 10 g D _ T hT hc hG hR (fun D1 hR1 hF1 => ?_)
    repeat (refine hX _ _ _ _ ?_; conv => whnf)
    refine hmv 10 _ D1 _ T hc hG1 hR1 (fun D2 hR2 hF2 e1 e2 _ _ => ?_)
    repeat (refine hX _ _ _ _ ?_; conv => whnf)
    rw [hn1, hF1 10 (by decide)] at e1 e2
    exact h D2 hR2 (fun r hr => by rw [hF2 r hr]; exact hF1 r (by omega)) e1 e2
  · refine ⟨rfl, fun X hX => ?_⟩
    replace hX : ∀ pc L st D, pm_F N Ga tbX0_tickOnce none post X pc L st D → X pc L st D := hX
    change X 0 [some (.ref 20)] [] D
    repeat (refine hX _ _ _ _ ?_; conv => whnf)
    refine hkp 20 g D _ T hT hc hG hR (fun D1 hR1 hF1 => ?_)
    repeat (refine hX _ _ _ _ ?_; conv => whnf)
    refine hmv 20 _ D1 _ T hc hG1 hR1 (fun D2 hR2 hF2 e1 e2 _ _ => ?_)
    repeat (refine hX _ _ _ _ ?_; conv => whnf)
    rw [hn1, hF1 20 (by decide)] at e1 e2
    exact h D2 hR2 (fun r hr => by rw [hF2 r hr]; exact hF1 r (by omega)) e1 e2
  · refine ⟨rfl, fun X hX => ?_⟩
    replace hX : ∀ pc L st D, pm_F N Ga tbX0_tickOnce none post X pc L st D → X pc L st D := hX
    change X 0 [some (.ref 30)] [] D
    repeat (refine hX _ _ _ _ ?_; conv => whnf)
    refine hkp 30 g D _ T hT hc hG hR (fun D1 hR1 hF1 => ?_)
    repeat (refine hX _ _ _ _ ?_; conv => whnf)
    refine hmv 30 _ D1 _ T hc hG1 hR1 (fun D2 hR2 hF2 e1 e2 _ _ => ?_)
    repeat (refine hX _ _ _ _ ?_; conv => whnf)
    rw [hn1, hF1 30 (by decide)] at e1 e2
    exact h D2 hR2 (fun r hr => by rw [hF2 r hr]; exact hF1 r (by omega)) e1 e2
set_option maxHeartbeats 2000000 in
theorem t_tickOften {N : Nat} {Ga : pm_Ga} (htk : sp_tickOnce Ga) : sp_tickOften (pm_up N Ga) := by
  intro c n g D post T hT hn hc hG hR h
  rcases pm_chs_of hc with rfl | rfl | rfl | rfl
  · refine ⟨rfl, fun X hX => ?_⟩
    replace hX : ∀ pc L st D, pm_F N Ga tbX0_tickOften none post X pc L st D → X pc L st D := hX
    change X 0 [some (.ref 0), some (.int (nI n)), none] [] D
    iterate 2 (refine hX _ _ _ _ ?_; conv => whnf)
    have loop : ∀ (m i : Nat) (D1 : pm_Mem), i + m = n → z_R D1 0 (z_run g i) → z_F 0 D D1 → D1 0 13 = D 0 13 + z_rg g i → D1 0 14 = D 0 14 + z_rs g i → X 2 [some (.ref 0), some (.int (nI n)), some (.int (nI i))] [] D1 := by
      intro m
      induction m with
      | zero =>
        intro i D1 hi f1 f2 f3 f4
        have hi : i = n := by omega
        subst hi
        repeat (refine hX _ _ _ _ ?_; conv => whnf)
        refine ⟨fun _ => ?_, fun z => absurd (nI_le (Nat.le_refl _) (by omega)) z⟩
        repeat (refine hX _ _ _ _ ?_; conv => whnf)
        exact h D1 f1 f2 f3 f4
      | succ m ih =>
        intro i D1 hi f1 f2 f3 f4
        repeat (refine hX _ _ _ _ ?_; conv => whnf)
        refine ⟨fun z => absurd z (nI_ge (by omega) (by omega)), fun _ => ?_⟩
        repeat (refine hX _ _ _ _ ?_; conv => whnf)
        refine htk 0 _ D1 _ (T + i) (by omega) hc (hG.run i (by omega)).1 f1 (fun D2 e1 e2 e3 e4 => ?_)
        iterate 2 (refine hX _ _ _ _ ?_; conv => whnf)
        rw [nI_1]
        refine ih (i + 1) D2 (by omega) e1 (fun r hr => by rw [e2 r hr]; exact f2 r hr) ?_ ?_
        · rw [e3, f3, Int32.add_assoc]; rfl
        · rw [e4, f4, Int32.add_assoc]; rfl
    exact loop n 0 D (by omega) hR (fun _ _ => rfl) (Int32.add_zero _).symm (Int32.add_zero _).symm
  · refine ⟨rfl, fun X hX => ?_⟩
    replace hX : ∀ pc L st D, pm_F N Ga tbX0_tickOften none post X pc L st D → X pc L st D := hX
    change X 0 [some (.ref 10), some (.int (nI n)), none] [] D
    iterate 2 (refine hX _ _ _ _ ?_; conv => whnf)
    have loop : ∀ (m i : Nat) (D1 : pm_Mem), i + m = n → z_R D1 10 (z_run g i) → z_F 10 D D1 → D1 10 13 = D 10 13 + z_rg g i → D1 10 14 = D 10 14 + z_rs g i → X 2 [some (.ref 10), some (.int (nI n)), some (.int (nI i))] [] D1 := by
      intro m
      induction m with
      | zero =>
        intro i D1 hi f1 f2 f3 f4
        have hi : i = n := by omega
        subst hi
        repeat (refine hX _ _ _ _ ?_; conv => whnf)
        refine ⟨fun _ => ?_, fun z => absurd (nI_le (Nat.le_refl _) (by omega)) z⟩
        repeat (refine hX _ _ _ _ ?_; conv => whnf)
        exact h D1 f1 f2 f3 f4
      | succ m ih =>
        intro i D1 hi f1 f2 f3 f4
        repeat (refine hX _ _ _ _ ?_; conv => whnf)
        refine ⟨fun z => absurd z (nI_ge (by omega) (by omega)), fun _ => ?_⟩
        repeat (refine hX _ _ _ _ ?_; conv => whnf)
        refine htk 10 _ D1 _ (T + i) (by omega) hc (hG.run i (by omega)).1 f1 (fun D2 e1 e2 e3 e4 => ?_)
        iterate 2 (refine hX _ _ _ _ ?_; conv => whnf)
        rw [nI_1]
        refine ih (i + 1) D2 (by omega) e1 (fun r hr => by rw [e2 r hr]; exact f2 r hr) ?_ ?_
        · rw [e3, f3, Int32.add_assoc]; rfl
        · rw [e4, f4, Int32.add_assoc]; rfl
    exact loop n 0 D (by omega) hR (fun _ _ => rfl) (Int32.add_zero _).symm (Int32.add_zero _).symm
  · refine ⟨rfl, fun X hX => ?_⟩
    replace hX : ∀ pc L st D, pm_F N Ga tbX0_tickOften none post X pc L st D → X pc L st D := hX
    change X 0 [some (.ref 20), some (.int (nI n)), none] [] D
    iterate 2 (refine hX _ _ _ _ ?_; conv => whnf)
    have loop : ∀ (m i : Nat) (D1 : pm_Mem), i + m = n → z_R D1 20 (z_run g i) → z_F 20 D D1 → D1 20 13 = D 20 13 + z_rg g i → D1 20 14 = D 20 14 + z_rs g i → X 2 [some (.ref 20), some (.int (nI n)), some (.int (nI i))] [] D1 := by
      intro m
      induction m with
      | zero =>
        intro i D1 hi f1 f2 f3 f4
        have hi : i = n := by omega
        subst hi
        repeat (refine hX _ _ _ _ ?_; conv => whnf)
        refine ⟨fun _ => ?_, fun z => absurd (nI_le (Nat.le_refl _) (by omega)) z⟩
        repeat (refine hX _ _ _ _ ?_; conv => whnf)
        exact h D1 f1 f2 f3 f4
      | succ m ih =>
        intro i D1 hi f1 f2 f3 f4
        repeat (refine hX _ _ _ _ ?_; conv => whnf)
        refine ⟨fun z => absurd z (nI_ge (by omega) (by omega)), fun _ => ?_⟩
        repeat (refine hX _ _ _ _ ?_; conv => whnf)
        refine htk 20 _ D1 _ (T + i) (by omega) hc (hG.run i (by omega)).1 f1 (fun D2 e1 e2 e3 e4 => ?_)
        iterate 2 (refine hX _ _ _ _ ?_; conv => whnf)
        rw [nI_1]
        refine ih (i + 1) D2 (by omega) e1 (fun r hr => by rw [e2 r hr]; exact f2 r hr) ?_ ?_
        · rw [e3, f3, Int32.add_assoc]; rfl
        · rw [e4, f4, Int32.add_assoc]; rfl
    exact loop n 0 D (by omega) hR (fun _ _ => rfl) (Int32.add_zero _).symm (Int32.add_zero _).symm
  · refine ⟨rfl, fun X hX => ?_⟩
    replace hX : ∀ pc L st D, pm_F N Ga tbX0_tickOften none post X pc L st D → X pc L st D := hX
    change X 0 [some (.ref 30), some (.int (nI n)), none] [] D
    iterate 2 (refine hX _ _ _ _ ?_; conv => whnf)
    have loop : ∀ (m i : Nat) (D1 : pm_Mem), i + m = n → z_R D1 30 (z_run g i) → z_F 30 D D1 → D1 30 13 = D 30 13 + z_rg g i → D1 30 14 = D 30 14 + z_rs g i → X 2 [some (.ref 30), some (.int (nI n)), some (.int (nI i))] [] D1 := by
      intro m
      induction m with
      | zero =>
        intro i D1 hi f1 f2 f3 f4
        have hi : i = n := by omega
        subst hi
        repeat (refine hX _ _ _ _ ?_; conv => whnf)
        refine ⟨fun _ => ?_, fun z => absurd (nI_le (Nat.le_refl _) (by omega)) z⟩
        repeat (refine hX _ _ _ _ ?_; conv => whnf)
        exact h D1 f1 f2 f3 f4
      | succ m ih =>
        intro i D1 hi f1 f2 f3 f4
        repeat (refine hX _ _ _ _ ?_; conv => whnf)
        refine ⟨fun z => absurd z (nI_ge (by omega) (by omega)), fun _ => ?_⟩
        repeat (refine hX _ _ _ _ ?_; conv => whnf)
        refine htk 30 _ D1 _ (T + i) (by omega) hc (hG.run i (by omega)).1 f1 (fun D2 e1 e2 e3 e4 => ?_)
        iterate 2 (refine hX _ _ _ _ ?_; conv => whnf)
        rw [nI_1]
        refine ih (i + 1) D2 (by omega) e1 (fun r hr => by rw [e2 r hr]; exact f2 r hr) ?_ ?_
        · rw [e3, f3, Int32.add_assoc]; rfl
        · rw [e4, f4, Int32.add_assoc]; rfl
    exact loop n 0 D (by omega) hR (fun _ _ => rfl) (Int32.add_zero _).symm (Int32.add_zero _).symm
set_option maxHeartbeats 2000000 in
theorem t_greatestSwing {N : Nat} {Ga : pm_Ga} (htk : sp_tickOnce Ga) (hla : sp_lastPlace Ga) : sp_greatestSwing (pm_up N Ga) := by
  intro c n en g D post T hT hn hc hG hR h
  have hlast := z_R_last hR
  rcases pm_chs_of hc with rfl | rfl | rfl | rfl
  · refine ⟨rfl, fun X hX => ?_⟩
    replace hX : ∀ pc L st D, pm_F N Ga tbX0_greatestSwing (some .int) post X pc L st D → X pc L st D := hX
    change X 0 [some (.ref 0), some (.int (nI n)), some (.int en), none, none, none] [] D
    repeat (refine hX _ _ _ _ ?_; conv => whnf)
    refine hla 0 (z_n g) D _ hc (by rw [hR.1]; exact hG.1) hG.2.1 ?_
    rw [hlast]
    iterate 5 (refine hX _ _ _ _ ?_; conv => whnf)
    have loop : ∀ (m i : Nat) (D1 : pm_Mem), i + m = n → z_R D1 0 (z_run g i) → z_F 0 D D1 → D1 0 13 = D 0 13 + z_rg g i → D1 0 14 = D 0 14 + z_rs g i → X 11 [some (.ref 0), some (.int (nI n)), some (.int en), some (.int (z_last g)), some (.int (z_wid g i)), some (.int (nI i))] [] D1 := by
      intro m
      induction m with
      | zero =>
        intro i D1 hi f1 f2 f3 f4
        have hi : i = n := by omega
        subst hi
        repeat (refine hX _ _ _ _ ?_; conv => whnf)
        refine ⟨fun _ => ?_, fun z => absurd (nI_le (Nat.le_refl _) (by omega)) z⟩
        repeat (refine hX _ _ _ _ ?_; conv => whnf)
        exact h i D1 (Nat.le_refl _) (Or.inl rfl) f1 f2 f3 f4
      | succ m ih =>
        intro i D1 hi f1 f2 f3 f4
        repeat (refine hX _ _ _ _ ?_; conv => whnf)
        refine ⟨fun z => absurd z (nI_ge (by omega) (by omega)), fun _ => ?_⟩
        repeat (refine hX _ _ _ _ ?_; conv => whnf)
        refine ⟨fun q => ?_, fun q => ?_⟩
        · repeat (refine hX _ _ _ _ ?_; conv => whnf)
          exact h i D1 (by omega) (Or.inr q) f1 f2 f3 f4
        · repeat (refine hX _ _ _ _ ?_; conv => whnf)
          obtain ⟨k1, k2, k3⟩ := hG.run i (by omega)
          obtain ⟨j1, j2, j3⟩ := hG.run (i + 1) (by omega)
          refine htk 0 _ D1 _ (T + i) (by omega) hc k1 f1 (fun D2 e1 e2 e3 e4 => ?_)
          repeat (refine hX _ _ _ _ ?_; conv => whnf)
          refine hla 0 (z_n g) D2 _ hc (by rw [e1.1]; exact j1.1.trans (by rw [j2])) hG.2.1 ?_
          have hl2 := z_R_last (g := z_run g (i + 1)) e1
          rw [j2] at hl2
          rw [hl2]
          iterate 7 (refine hX _ _ _ _ ?_; conv => whnf)
          rw [nI_1]
          refine ih (i + 1) D2 (by omega) e1 (fun r hr => by rw [e2 r hr]; exact f2 r hr) ?_ ?_
          · rw [e3, f3, Int32.add_assoc]; rfl
          · rw [e4, f4, Int32.add_assoc]; rfl
    exact loop n 0 D (by omega) hR (fun _ _ => rfl) (Int32.add_zero _).symm (Int32.add_zero _).symm
  · refine ⟨rfl, fun X hX => ?_⟩
    replace hX : ∀ pc L st D, pm_F N Ga tbX0_greatestSwing (some .int) post X pc L st D → X pc L st D := hX
    change X 0 [some (.ref 10), some (.int (nI n)), some (.int en), none, none, none] [] D
    repeat (refine hX _ _ _ _ ?_; conv => whnf)
    refine hla 10 (z_n g) D _ hc (by rw [hR.1]; exact hG.1) hG.2.1 ?_
    rw [hlast]
    iterate 5 (refine hX _ _ _ _ ?_; conv => whnf)
    have loop : ∀ (m i : Nat) (D1 : pm_Mem), i + m = n → z_R D1 10 (z_run g i) → z_F 10 D D1 → D1 10 13 = D 10 13 + z_rg g i → D1 10 14 = D 10 14 + z_rs g i → X 11 [some (.ref 10), some (.int (nI n)), some (.int en), some (.int (z_last g)), some (.int (z_wid g i)), some (.int (nI i))] [] D1 := by
      intro m
      induction m with
      | zero =>
        intro i D1 hi f1 f2 f3 f4
        have hi : i = n := by omega
        subst hi
        repeat (refine hX _ _ _ _ ?_; conv => whnf)
        refine ⟨fun _ => ?_, fun z => absurd (nI_le (Nat.le_refl _) (by omega)) z⟩
        repeat (refine hX _ _ _ _ ?_; conv => whnf)
        exact h i D1 (Nat.le_refl _) (Or.inl rfl) f1 f2 f3 f4
      | succ m ih =>
        intro i D1 hi f1 f2 f3 f4
        repeat (refine hX _ _ _ _ ?_; conv => whnf)
        refine ⟨fun z => absurd z (nI_ge (by omega) (by omega)), fun _ => ?_⟩
        repeat (refine hX _ _ _ _ ?_; conv => whnf)
        refine ⟨fun q => ?_, fun q => ?_⟩
        · repeat (refine hX _ _ _ _ ?_; conv => whnf)
          exact h i D1 (by omega) (Or.inr q) f1 f2 f3 f4
        · repeat (refine hX _ _ _ _ ?_; conv => whnf)
          obtain ⟨k1, k2, k3⟩ := hG.run i (by omega)
          obtain ⟨j1, j2, j3⟩ := hG.run (i + 1) (by omega)
          refine htk 10 _ D1 _ (T + i) (by omega) hc k1 f1 (fun D2 e1 e2 e3 e4 => ?_)
          repeat (refine hX _ _ _ _ ?_; conv => whnf)
          refine hla 10 (z_n g) D2 _ hc (by rw [e1.1]; exact j1.1.trans (by rw [j2])) hG.2.1 ?_
          have hl2 := z_R_last (g := z_run g (i + 1)) e1
          rw [j2] at hl2
          rw [hl2]
          iterate 7 (refine hX _ _ _ _ ?_; conv => whnf)
          rw [nI_1]
          refine ih (i + 1) D2 (by omega) e1 (fun r hr => by rw [e2 r hr]; exact f2 r hr) ?_ ?_
          · rw [e3, f3, Int32.add_assoc]; rfl
          · rw [e4, f4, Int32.add_assoc]; rfl
    exact loop n 0 D (by omega) hR (fun _ _ => rfl) (Int32.add_zero _).symm (Int32.add_zero _).symm
  · refine ⟨rfl, fun X hX => ?_⟩
    replace hX : ∀ pc L st D, pm_F N Ga tbX0_greatestSwing (some .int) post X pc L st D → X pc L st D := hX
    change X 0 [some (.ref 20), some (.int (nI n)), some (.int en), none, none, none] [] D
    repeat (refine hX _ _ _ _ ?_; conv => whnf)
    refine hla 20 (z_n g) D _ hc (by rw [hR.1]; exact hG.1) hG.2.1 ?_
    rw [hlast]
    iterate 5 (refine hX _ _ _ _ ?_; conv => whnf)
    have loop : ∀ (m i : Nat) (D1 : pm_Mem), i + m = n → z_R D1 20 (z_run g i) → z_F 20 D D1 → D1 20 13 = D 20 13 + z_rg g i → D1 20 14 = D 20 14 + z_rs g i → X 11 [some (.ref 20), some (.int (nI n)), some (.int en), some (.int (z_last g)), some (.int (z_wid g i)), some (.int (nI i))] [] D1 := by
      intro m
      induction m with
      | zero =>
        intro i D1 hi f1 f2 f3 f4
        have hi : i = n := by omega
        subst hi
        repeat (refine hX _ _ _ _ ?_; conv => whnf)
        refine ⟨fun _ => ?_, fun z => absurd (nI_le (Nat.le_refl _) (by omega)) z⟩
        repeat (refine hX _ _ _ _ ?_; conv => whnf)
        exact h i D1 (Nat.le_refl _) (Or.inl rfl) f1 f2 f3 f4
      | succ m ih =>
        intro i D1 hi f1 f2 f3 f4
        repeat (refine hX _ _ _ _ ?_; conv => whnf)
        refine ⟨fun z => absurd z (nI_ge (by omega) (by omega)), fun _ => ?_⟩
        repeat (refine hX _ _ _ _ ?_; conv => whnf)
        refine ⟨fun q => ?_, fun q => ?_⟩
        · repeat (refine hX _ _ _ _ ?_; conv => whnf)
          exact h i D1 (by omega) (Or.inr q) f1 f2 f3 f4
        · repeat (refine hX _ _ _ _ ?_; conv => whnf)
          obtain ⟨k1, k2, k3⟩ := hG.run i (by omega)
          obtain ⟨j1, j2, j3⟩ := hG.run (i + 1) (by omega)
          refine htk 20 _ D1 _ (T + i) (by omega) hc k1 f1 (fun D2 e1 e2 e3 e4 => ?_)
          repeat (refine hX _ _ _ _ ?_; conv => whnf)
          refine hla 20 (z_n g) D2 _ hc (by rw [e1.1]; exact j1.1.trans (by rw [j2])) hG.2.1 ?_
          have hl2 := z_R_last (g := z_run g (i + 1)) e1
          rw [j2] at hl2
          rw [hl2]
          iterate 7 (refine hX _ _ _ _ ?_; conv => whnf)
          rw [nI_1]
          refine ih (i + 1) D2 (by omega) e1 (fun r hr => by rw [e2 r hr]; exact f2 r hr) ?_ ?_
          · rw [e3, f3, Int32.add_assoc]; rfl
          · rw [e4, f4, Int32.add_assoc]; rfl
    exact loop n 0 D (by omega) hR (fun _ _ => rfl) (Int32.add_zero _).symm (Int32.add_zero _).symm
  · refine ⟨rfl, fun X hX => ?_⟩
    replace hX : ∀ pc L st D, pm_F N Ga tbX0_greatestSwing (some .int) post X pc L st D → X pc L st D := hX
    change X 0 [some (.ref 30), some (.int (nI n)), some (.int en), none, none, none] [] D
    repeat (refine hX _ _ _ _ ?_; conv => whnf)
    refine hla 30 (z_n g) D _ hc (by rw [hR.1]; exact hG.1) hG.2.1 ?_
    rw [hlast]
    iterate 5 (refine hX _ _ _ _ ?_; conv => whnf)
    have loop : ∀ (m i : Nat) (D1 : pm_Mem), i + m = n → z_R D1 30 (z_run g i) → z_F 30 D D1 → D1 30 13 = D 30 13 + z_rg g i → D1 30 14 = D 30 14 + z_rs g i → X 11 [some (.ref 30), some (.int (nI n)), some (.int en), some (.int (z_last g)), some (.int (z_wid g i)), some (.int (nI i))] [] D1 := by
      intro m
      induction m with
      | zero =>
        intro i D1 hi f1 f2 f3 f4
        have hi : i = n := by omega
        subst hi
        repeat (refine hX _ _ _ _ ?_; conv => whnf)
        refine ⟨fun _ => ?_, fun z => absurd (nI_le (Nat.le_refl _) (by omega)) z⟩
        repeat (refine hX _ _ _ _ ?_; conv => whnf)
        exact h i D1 (Nat.le_refl _) (Or.inl rfl) f1 f2 f3 f4
      | succ m ih =>
        intro i D1 hi f1 f2 f3 f4
        repeat (refine hX _ _ _ _ ?_; conv => whnf)
        refine ⟨fun z => absurd z (nI_ge (by omega) (by omega)), fun _ => ?_⟩
        repeat (refine hX _ _ _ _ ?_; conv => whnf)
        refine ⟨fun q => ?_, fun q => ?_⟩
        · repeat (refine hX _ _ _ _ ?_; conv => whnf)
          exact h i D1 (by omega) (Or.inr q) f1 f2 f3 f4
        · repeat (refine hX _ _ _ _ ?_; conv => whnf)
          obtain ⟨k1, k2, k3⟩ := hG.run i (by omega)
          obtain ⟨j1, j2, j3⟩ := hG.run (i + 1) (by omega)
          refine htk 30 _ D1 _ (T + i) (by omega) hc k1 f1 (fun D2 e1 e2 e3 e4 => ?_)
          repeat (refine hX _ _ _ _ ?_; conv => whnf)
          refine hla 30 (z_n g) D2 _ hc (by rw [e1.1]; exact j1.1.trans (by rw [j2])) hG.2.1 ?_
          have hl2 := z_R_last (g := z_run g (i + 1)) e1
          rw [j2] at hl2
          rw [hl2]
          iterate 7 (refine hX _ _ _ _ ?_; conv => whnf)
          rw [nI_1]
          refine ih (i + 1) D2 (by omega) e1 (fun r hr => by rw [e2 r hr]; exact f2 r hr) ?_ ?_
          · rw [e3, f3, Int32.add_assoc]; rfl
          · rw [e4, f4, Int32.add_assoc]; rfl
    exact loop n 0 D (by omega) hR (fun _ _ => rfl) (Int32.add_zero _).symm (Int32.add_zero _).symm
end
section
/-! ===== the reference's pages ===== -/
def z_M (D : pm_Mem) (p : Nat) (g : z_P) : Prop := ∀ k, k < 52 → D 68 (p + k) = g k
/-- nothing but page p has changed -/
def z_MF (p : Nat) (D D' : pm_Mem) : Prop := (∀ r, r ≠ 68 → D' r = D r) ∧ ∀ k, (k < p ∨ p + 52 ≤ k) → D' 68 k = D 68 k
theorem z_ix (p k b : Nat) (K : Int32) (hK : K = nI k) : nI p + K + nI b = nI (p + (k + b)) := by
  rw [hK, nI_add, nI_add, Nat.add_assoc]
theorem z_ix1 (p k : Nat) (K : Int32) (hK : K = nI k) : nI p + K = nI (p + k) := by
  rw [hK, nI_add]
theorem z_cmp_lt (x y : Int64) : lg_cmp x y < 0 ↔ x.toInt < y.toInt := by
  unfold lg_cmp
  by_cases h1 : x > y
  · rw [if_pos h1]
    have h2 : y.toInt < x.toInt := Int64.lt_iff_toInt_lt.mp h1
    exact ⟨fun z => absurd z (by decide), fun z => by omega⟩
  · rw [if_neg h1]
    have h2 : ¬ y.toInt < x.toInt := fun z => h1 (Int64.lt_iff_toInt_lt.mpr z)
    by_cases h3 : x = y
    · rw [if_pos h3, h3]
      exact ⟨fun z => absurd z (by decide), fun z => by omega⟩
    · rw [if_neg h3]
      have h4 : x.toInt ≠ y.toInt := fun z => h3 (Int64.toInt_inj.mp z)
      exact ⟨fun _ => by omega, fun _ => by decide⟩
theorem z_cmp_gt (x y : Int64) : 0 < lg_cmp x y ↔ y.toInt < x.toInt := by
  unfold lg_cmp
  by_cases h1 : x > y
  · rw [if_pos h1]
    have h2 : y.toInt < x.toInt := Int64.lt_iff_toInt_lt.mp h1
    exact ⟨fun _ => h2, fun _ => by decide⟩
  · rw [if_neg h1]
    have h2 : ¬ y.toInt < x.toInt := fun z => h1 (Int64.lt_iff_toInt_lt.mpr z)
    by_cases h3 : x = y
    · rw [if_pos h3, h3]
      exact ⟨fun z => absurd z (by decide), fun z => by omega⟩
    · rw [if_neg h3]
      exact ⟨fun z => absurd z (by decide), fun z => absurd z h2⟩
theorem z_64 (x : Int32) : x.toInt64.toInt = x.toInt := Int32.toInt_toInt64 x
def sp_in (Ga : pm_Ga) : Prop := ∀ (v a b : Int64) (D : pm_Mem) (post : pm_Post), (a.toInt ≤ v.toInt → v.toInt ≤ b.toInt → post (some (.int 1)) D) → (¬ (a.toInt ≤ v.toInt ∧ v.toInt ≤ b.toInt) → post (some (.int 0)) D) → Ga 98 [.long v, .long a, .long b] D post
set_option maxHeartbeats 2000000 in
theorem t_in {N : Nat} {Ga : pm_Ga} : sp_in (pm_up N Ga) := by
  intro v a b D post h1 h0
  refine ⟨rfl, fun X hX => ?_⟩
  replace hX : ∀ pc L st D, pm_F N Ga tbX5_in (some .boolean) post X pc L st D → X pc L st D := hX
  change X 0 [some (.long v), none, some (.long a), none, some (.long b), none] [] D
  repeat (refine hX _ _ _ _ ?_; conv => whnf)
  rw [z_cmp_lt]
  refine ⟨fun q1 => ?_, fun q1 => ?_⟩
  · repeat (refine hX _ _ _ _ ?_; conv => whnf)
    exact ⟨Or.inl rfl, h0 (by omega)⟩
  · repeat (refine hX _ _ _ _ ?_; conv => whnf)
    rw [z_cmp_gt]
    refine ⟨fun q2 => ?_, fun q2 => ?_⟩
    · repeat (refine hX _ _ _ _ ?_; conv => whnf)
      exact ⟨Or.inl rfl, h0 (by omega)⟩
    · repeat (refine hX _ _ _ _ ?_; conv => whnf)
      exact ⟨Or.inr rfl, h1 (by omega) (by omega)⟩
def sp_amount (Ga : pm_Ga) : Prop := ∀ (v : Int32) (D : pm_Mem) (post : pm_Post), post (some (.int (z_abs v))) D → Ga 99 [.int v] D post
set_option maxHeartbeats 2000000 in
theorem t_amount {N : Nat} {Ga : pm_Ga} : sp_amount (pm_up N Ga) := by
  intro v D post h
  unfold z_abs pm_abs at h
  refine ⟨rfl, fun X hX => ?_⟩
  replace hX : ∀ pc L st D, pm_F N Ga tbX5_amount (some .int) post X pc L st D → X pc L st D := hX
  change X 0 [some (.int v)] [] D
  repeat (refine hX _ _ _ _ ?_; conv => whnf)
  refine ⟨fun q1 => ?_, fun q1 => ?_⟩
  · rw [if_pos q1] at h
    repeat (refine hX _ _ _ _ ?_; conv => whnf)
    exact h
  · rw [if_neg q1, Int32.zero_sub] at h
    repeat (refine hX _ _ _ _ ?_; conv => whnf)
    exact h
def sp_speedOf (Ga : pm_Ga) : Prop := ∀ (v : Int32) (D : pm_Mem) (post : pm_Post), post (some (.int (z_clamp v))) D → Ga 116 [.int v] D post
set_option maxHeartbeats 2000000 in
theorem t_speedOf {N : Nat} {Ga : pm_Ga} : sp_speedOf (pm_up N Ga) := by
  intro v D post h
  unfold z_clamp at h
  refine ⟨rfl, fun X hX => ?_⟩
  replace hX : ∀ pc L st D, pm_F N Ga tbX5_speedOf (some .int) post X pc L st D → X pc L st D := hX
  change X 0 [some (.int v)] [] D
  repeat (refine hX _ _ _ _ ?_; conv => whnf)
  refine ⟨fun q1 => ?_, fun q1 => ?_⟩
  · repeat (refine hX _ _ _ _ ?_; conv => whnf)
    refine ⟨fun q2 => ?_, fun q2 => ?_⟩
    · repeat (refine hX _ _ _ _ ?_; conv => whnf)
      rw [if_neg (by rw [z_le] at q1; rw [z_lt]; omega), if_neg (by rw [z_le] at q2; rw [z_lt]; omega)] at h
      exact h
    · repeat (refine hX _ _ _ _ ?_; conv => whnf)
      rw [if_neg (by rw [z_le] at q1; rw [z_lt]; omega), if_pos (by rw [z_le] at q2; rw [z_lt]; omega)] at h
      exact h
  · repeat (refine hX _ _ _ _ ?_; conv => whnf)
    rw [if_pos (by rw [z_le] at q1; rw [z_lt]; omega)] at h
    exact h
def sp_stretchOn (Ga : pm_Ga) : Prop := ∀ (p b : Nat) (g : z_P) (D : pm_Mem) (post : pm_Post), p ≤ 260 → b < 4 → z_M D p g → post (some (.int (z_st g b))) D → Ga 114 [.ref 67, .int (nI p), .int (nI b)] D post
set_option maxHeartbeats 2000000 in
theorem t_stretchOn {N : Nat} {Ga : pm_Ga} : sp_stretchOn (pm_up N Ga) := by
  intro p b g D post hp hb hM h
  have i16 := z_ix p 16 b 16 (by decide)
  have i4 := z_ix p 4 b 4 (by decide)
  unfold z_st at h
  refine ⟨rfl, fun X hX => ?_⟩
  replace hX : ∀ pc L st D, pm_F N Ga tbX5_stretchOn (some .int) post X pc L st D → X pc L st D := hX
  change X 0 [some (.ref 67), some (.int (nI p)), some (.int (nI b))] [] D
  repeat (refine hX _ _ _ _ ?_; conv => whnf)
  rw [i16]
  refine ⟨vp_in_nI (by omega) (by decide), ?_⟩
  rw [nI_clamp (by omega), hM _ (by omega)]
  repeat (refine hX _ _ _ _ ?_; conv => whnf)
  refine ⟨fun q1 => ?_, fun q1 => ?_⟩
  · have q1 : ¬ b = 0 := fun z => q1 (by rw [z]; rfl)
    rw [if_neg q1] at h
    repeat (refine hX _ _ _ _ ?_; conv => whnf)
    rw [i16, z_sub1 (by omega)]
    refine ⟨vp_in_nI (by omega) (by decide), ?_⟩
    rw [nI_clamp (by omega), show p + (16 + b) - 1 = p + (15 + b) by omega, hM _ (by omega)]
    repeat (refine hX _ _ _ _ ?_; conv => whnf)
    rw [i4]
    refine ⟨vp_in_nI (by omega) (by decide), ?_⟩
    rw [nI_clamp (by omega), hM _ (by omega)]
    repeat (refine hX _ _ _ _ ?_; conv => whnf)
    exact h
  · have q1 : b = 0 := by
      rw [z_eq, z_tI (by omega)] at q1
      have : (b : Int) = 0 := q1
      omega
    rw [if_pos q1] at h
    repeat (refine hX _ _ _ _ ?_; conv => whnf)
    rw [i4]
    refine ⟨vp_in_nI (by omega) (by decide), ?_⟩
    rw [nI_clamp (by omega), hM _ (by omega)]
    repeat (refine hX _ _ _ _ ?_; conv => whnf)
    exact h
def sp_pullOn (Ga : pm_Ga) : Prop := ∀ (p b : Nat) (g : z_P) (D : pm_Mem) (post : pm_Post), p ≤ 260 → b < 4 → z_M D p g → post (some (.int (z_pull g b))) D → Ga 115 [.ref 67, .int (nI p), .int (nI b)] D post
set_option maxHeartbeats 4000000 in
theorem t_pullOn {N : Nat} {Ga : pm_Ga} (hst : sp_stretchOn Ga) (hin : sp_in Ga) : sp_pullOn (pm_up N Ga) := by
  intro p b g D post hp hb hM h
  have i8 := z_ix p 8 b 8 (by decide)
  unfold z_pull at h
  have t0 : (0 : Int32).toInt = 0 := rfl
  have tm5 : (-5 : Int64).toInt = -5 := rfl
  have t5 : (5 : Int64).toInt = 5 := rfl
  have um5 : (-5 : Int32).toInt = -5 := rfl
  have u5 : (5 : Int32).toInt = 5 := rfl
  refine ⟨rfl, fun X hX => ?_⟩
  replace hX : ∀ pc L st D, pm_F N Ga tbX5_pullOn (some .int) post X pc L st D → X pc L st D := hX
  change X 0 [some (.ref 67), some (.int (nI p)), some (.int (nI b)), none, none, none] [] D
  have s73 : ∀ l5 : Option Value, ¬ ((g b = 1 ∧ z_st g b < 0) ∨ (g b = 2 ∧ 0 < z_st g b) ∨ (g b = 3 ∧ -5 ≤ z_st g b ∧ z_st g b ≤ 5)) → X 61 [some (.ref 67), some (.int (nI p)), some (.int (nI b)), some (.int (z_st g b)), some (.int (g b)), l5] [] D := by
    intro l5 q
    rw [if_neg q] at h
    repeat (refine hX _ _ _ _ ?_; conv => whnf)
    refine ⟨fun _ => ?_, fun h => absurd h (by decide)⟩
    repeat (refine hX _ _ _ _ ?_; conv => whnf)
    rw [i8]
    refine ⟨vp_in_nI (by omega) (by decide), ?_⟩
    rw [nI_clamp (by omega), hM _ (by omega)]
    repeat (refine hX _ _ _ _ ?_; conv => whnf)
    exact h
  have s57 : ∀ l5 : Option Value, ((g b = 1 ∧ z_st g b < 0) ∨ (g b = 2 ∧ 0 < z_st g b) ∨ (g b = 3 ∧ -5 ≤ z_st g b ∧ z_st g b ≤ 5)) → X 57 [some (.ref 67), some (.int (nI p)), some (.int (nI b)), some (.int (z_st g b)), some (.int (g b)), l5] [] D := by
    intro l5 q
    rw [if_pos q] at h
    repeat (refine hX _ _ _ _ ?_; conv => whnf)
    refine ⟨fun h => absurd h (by decide), fun _ => ?_⟩
    repeat (refine hX _ _ _ _ ?_; conv => whnf)
    exact h
  repeat (refine hX _ _ _ _ ?_; conv => whnf)
  refine hst p b g D _ hp hb hM ?_
  repeat (refine hX _ _ _ _ ?_; conv => whnf)
  rw [nI_add]
  refine ⟨vp_in_nI (by omega) (by decide), ?_⟩
  rw [nI_clamp (by omega), hM _ (by omega)]
  have s37 : ¬ (g b = 1 ∧ z_st g b < 0) → ¬ (g b = 2 ∧ 0 < z_st g b) → X 37 [some (.ref 67), some (.int (nI p)), some (.int (nI b)), some (.int (z_st g b)), some (.int (g b)), none] [] D := by
    intro n1 n2
    repeat (refine hX _ _ _ _ ?_; conv => whnf)
    refine ⟨fun q3 => ?_, fun q3 => ?_⟩
    · exact s73 none (fun z => z.elim n1 (fun z => z.elim n2 (fun z => q3 z.1)))
    · repeat (refine hX _ _ _ _ ?_; conv => whnf)
      refine hin _ _ _ _ _ (fun a1 a2 => ?_) (fun a1 => ?_)
      · repeat (refine hX _ _ _ _ ?_; conv => whnf)
        refine ⟨fun h => absurd h (by decide), fun _ => ?_⟩
        rw [z_64] at a1 a2
        exact s57 none (Or.inr (Or.inr ⟨q3, by rw [z_le]; omega, by rw [z_le]; omega⟩))
      · repeat (refine hX _ _ _ _ ?_; conv => whnf)
        refine ⟨fun _ => ?_, fun h => absurd h (by decide)⟩
        rw [z_64] at a1
        exact s73 none (fun z => z.elim n1 (fun z => z.elim n2 (fun z => a1 (by have z1 := z_le.mp z.2.1; have z2 := z_le.mp z.2.2; omega))))
  have s27 : ¬ (g b = 1 ∧ z_st g b < 0) → X 27 [some (.ref 67), some (.int (nI p)), some (.int (nI b)), some (.int (z_st g b)), some (.int (g b)), none] [] D := by
    intro n1
    repeat (refine hX _ _ _ _ ?_; conv => whnf)
    refine ⟨fun q1 => ?_, fun q1 => ?_⟩
    · exact s37 n1 (fun z => q1 z.1)
    · repeat (refine hX _ _ _ _ ?_; conv => whnf)
      refine ⟨fun q2 => ?_, fun q2 => ?_⟩
      · exact s57 none (Or.inr (Or.inl ⟨q1, q2⟩))
      · exact s37 n1 (fun z => q2 z.2)
  repeat (refine hX _ _ _ _ ?_; conv => whnf)
  refine ⟨fun q1 => ?_, fun q1 => ?_⟩
  · exact s27 (fun z => q1 z.1)
  · repeat (refine hX _ _ _ _ ?_; conv => whnf)
    refine ⟨fun q2 => ?_, fun q2 => ?_⟩
    · exact s57 none (Or.inl ⟨q1, q2⟩)
    · exact s27 (fun z => q2 z.2)
end
section
theorem z_M_mu {D : pm_Mem} {p k : Nat} {g : z_P} {v : Int32} (h : z_M D p g) : z_M (pm_mu D 68 (p + k) v) p (z_up g k v) := by
  intro j hj
  rw [pm_mu_eq, if_pos rfl]
  by_cases e : j = k
  · rw [if_pos (by omega), e, z_up_at]
  · rw [if_neg (by omega), z_up_ne g v e]; exact h j hj
theorem z_MF_mu {D : pm_Mem} {p k : Nat} {v : Int32} (hk : k < 52) : z_MF p D (pm_mu D 68 (p + k) v) := ⟨fun r hr => pm_mu_ne _ _ _ hr, fun j hj => pm_mu_k _ _ _ _ (by omega)⟩
theorem z_MF.trans {p : Nat} {D D1 D2 : pm_Mem} (h1 : z_MF p D D1) (h2 : z_MF p D1 D2) : z_MF p D D2 := ⟨fun r hr => (h2.1 r hr).trans (h1.1 r hr), fun k hk => (h2.2 k hk).trans (h1.2 k hk)⟩
theorem z_MF.rf {p : Nat} {D : pm_Mem} : z_MF p D D := ⟨fun _ _ => rfl, fun _ _ => rfl⟩
theorem z_M.off {D D' : pm_Mem} {p q : Nat} {g : z_P} (h : z_M D q g) (hF : z_MF p D D') (hq : q + 52 ≤ p ∨ p + 52 ≤ q) : z_M D' q g := fun k hk => by rw [hF.2 _ (by omega)]; exact h k hk
def sp_knockOn (Ga : pm_Ga) : Prop := ∀ (p : Nat) (b v : Int32) (g : z_P) (D : pm_Mem) (post : pm_Post), p ≤ 260 → 0 ≤ b → z_M D p g → g 24 = nI (z_n g) → z_n g ≤ 4 → (∀ D', z_M D' p (z_hit g b v) → z_MF p D D' → post none D') → Ga 117 [.ref 67, .int (nI p), .int b, .int v] D post
set_option maxHeartbeats 2000000 in
theorem t_knockOn {N : Nat} {Ga : pm_Ga} (hsp : sp_speedOf Ga) : sp_knockOn (pm_up N Ga) := by
  intro p b v g D post hp hb hM hn hn4 h
  have i24 := z_ix1 p 24 24 (by decide)
  refine ⟨rfl, fun X hX => ?_⟩
  replace hX : ∀ pc L st D, pm_F N Ga tbX5_knockOn none post X pc L st D → X pc L st D := hX
  change X 0 [some (.ref 67), some (.int (nI p)), some (.int b), some (.int v)] [] D
  repeat (refine hX _ _ _ _ ?_; conv => whnf)
  rw [i24]
  refine ⟨vp_in_nI (by omega) (by decide), ?_⟩
  rw [nI_clamp (by omega), hM _ (by omega)]
  repeat (refine hX _ _ _ _ ?_; conv => whnf)
  refine ⟨fun q1 => ?_, fun q1 => ?_⟩
  · repeat (refine hX _ _ _ _ ?_; conv => whnf)
    have e : z_hit g b v = g := by
      unfold z_hit
      rw [if_neg (fun z => by have z2 := z_lt.mp z.2; have q1 := z_le.mp q1; omega)]
    exact h D (by rw [e]; exact hM) .rf
  · have q2 : b < g 24 := by rw [z_le] at q1; rw [z_lt]; omega
    have q3 := z_lt.mp q2
    rw [hn, z_tI (by omega)] at q3
    have hb0 : (0 : Int) ≤ b.toInt := z_le.mp hb
    obtain ⟨j, e1, e2, e3, e4⟩ := z_of (x := b) (a := 0) (b := 3) ⟨hb0, by omega⟩ (by omega) (by omega)
    have i20 := z_ix p 20 j 20 (by decide)
    have e : z_hit g b v = z_up g (20 + j) (z_clamp (g (20 + j) + v)) := by
      unfold z_hit
      rw [if_pos ⟨hb, q2⟩, e4]
    repeat (refine hX _ _ _ _ ?_; conv => whnf)
    rw [e1, i20]
    refine ⟨vp_in_nI (by omega) (by decide), ?_⟩
    rw [nI_clamp (by omega), hM _ (by omega)]
    repeat (refine hX _ _ _ _ ?_; conv => whnf)
    refine hsp _ _ _ ?_
    repeat (refine hX _ _ _ _ ?_; conv => whnf)
    refine ⟨by decide, vp_in_nI (by omega) (by decide), ?_⟩
    rw [nI_clamp (by omega)]
    repeat (refine hX _ _ _ _ ?_; conv => whnf)
    exact h _ (by rw [e]; exact z_M_mu hM) (z_MF_mu (by omega))
def sp_lastOn (Ga : pm_Ga) : Prop := ∀ (p : Nat) (g : z_P) (D : pm_Mem) (post : pm_Post), p ≤ 260 → z_M D p g → g 24 = nI (z_n g) → z_n g ≤ 4 → post (some (.int (z_last g))) D → Ga 120 [.ref 67, .int (nI p)] D post
set_option maxHeartbeats 2000000 in
theorem t_lastOn {N : Nat} {Ga : pm_Ga} : sp_lastOn (pm_up N Ga) := by
  intro p g D post hp hM hn hn4 h
  have i24 := z_ix1 p 24 24 (by decide)
  unfold z_last at h
  refine ⟨rfl, fun X hX => ?_⟩
  replace hX : ∀ pc L st D, pm_F N Ga tbX5_lastOn (some .int) post X pc L st D → X pc L st D := hX
  change X 0 [some (.ref 67), some (.int (nI p))] [] D
  repeat (refine hX _ _ _ _ ?_; conv => whnf)
  rw [i24]
  refine ⟨vp_in_nI (by omega) (by decide), ?_⟩
  rw [nI_clamp (by omega), hM _ (by omega), hn]
  repeat (refine hX _ _ _ _ ?_; conv => whnf)
  refine ⟨fun q1 => ?_, fun q1 => ?_⟩
  · have q1 : ¬ z_n g = 0 := fun z => q1 (by rw [z]; rfl)
    rw [if_neg q1] at h
    repeat (refine hX _ _ _ _ ?_; conv => whnf)
    rw [i24]
    refine ⟨vp_in_nI (by omega) (by decide), ?_⟩
    rw [nI_clamp (by omega), hM _ (by omega), hn]
    repeat (refine hX _ _ _ _ ?_; conv => whnf)
    rw [z_ix p 16 (z_n g) 16 (by decide), z_sub1 (by omega)]
    refine ⟨vp_in_nI (by omega) (by decide), ?_⟩
    rw [nI_clamp (by omega), show p + (16 + z_n g) - 1 = p + (15 + z_n g) by omega, hM _ (by omega)]
    repeat (refine hX _ _ _ _ ?_; conv => whnf)
    exact h
  · have q1 : z_n g = 0 := by
      rw [z_eq, z_tI (by omega)] at q1
      have : (z_n g : Int) = 0 := q1
      omega
    rw [if_pos q1] at h
    repeat (refine hX _ _ _ _ ?_; conv => whnf)
    exact h
/-- the first n beads have their new speeds -/
def z_sp (g : z_P) (n : Nat) : z_P := fun k => if 20 ≤ k ∧ k < 20 + n then z_ns g (k - 20) else g k
theorem z_sp_st (g : z_P) (n b : Nat) (hb : b < 4) : z_st (z_sp g n) b = z_st g b := by
  unfold z_st z_sp
  rw [if_neg (by omega), if_neg (show ¬ (20 ≤ 15 + b ∧ _) by omega), if_neg (show ¬ (20 ≤ 4 + b ∧ _) by omega)]
theorem z_sp_pull (g : z_P) (n b : Nat) (hb : b < 4) : z_pull (z_sp g n) b = z_pull g b := by
  unfold z_pull
  rw [z_sp_st g n b hb]
  have e1 : z_sp g n b = g b := by unfold z_sp; rw [if_neg (by omega)]
  have e2 : z_sp g n (8 + b) = g (8 + b) := by unfold z_sp; rw [if_neg (by omega)]
  rw [e1, e2]
def sp_speedsOn (Ga : pm_Ga) : Prop := ∀ (p : Nat) (g : z_P) (D : pm_Mem) (post : pm_Post) (T : Int), p ≤ 260 → z_M D p g → z_G T g → (∀ D', z_M D' p (z_sp g (z_n g)) → z_MF p D D' → post none D') → Ga 118 [.ref 67, .int (nI p)] D post
set_option maxHeartbeats 4000000 in
theorem t_speedsOn {N : Nat} {Ga : pm_Ga} (hpu : sp_pullOn Ga) (hso : sp_speedOf Ga) : sp_speedsOn (pm_up N Ga) := by
  intro p g D post T hp hM hG h
  obtain ⟨g1, g2, g3, g4, g5, g6, g7, g8⟩ := hG
  have i24 := z_ix1 p 24 24 (by decide)
  have i50 := z_ix1 p 50 50 (by decide)
  refine ⟨rfl, fun X hX => ?_⟩
  replace hX : ∀ pc L st D, pm_F N Ga tbX5_speedsOn none post X pc L st D → X pc L st D := hX
  change X 0 [some (.ref 67), some (.int (nI p)), none, none, none, none, none] [] D
  repeat (refine hX _ _ _ _ ?_; conv => whnf)
  rw [i24]
  refine ⟨vp_in_nI (by omega) (by decide), ?_⟩
  rw [nI_clamp (by omega), hM _ (by omega), g1]
  repeat (refine hX _ _ _ _ ?_; conv => whnf)
  rw [i50]
  refine ⟨vp_in_nI (by omega) (by decide), ?_⟩
  rw [nI_clamp (by omega), hM _ (by omega)]
  iterate 3 (refine hX _ _ _ _ ?_; conv => whnf)
  have loop : ∀ (m b : Nat) (D1 : pm_Mem) (l5 l6 : Option Value), b + m = z_n g → z_M D1 p (z_sp g b) → z_MF p D D1 → X 23 [some (.ref 67), some (.int (nI p)), some (.int (nI (z_n g))), some (.int (g 50)), some (.int (nI b)), l5, l6] [] D1 := by
    intro m
    induction m with
    | zero =>
      intro b D1 l5 l6 hb f1 f2
      have hb : b = z_n g := by omega
      repeat (refine hX _ _ _ _ ?_; conv => whnf)
      rw [hb]
      refine ⟨fun _ => ?_, fun z => absurd (nI_le (Nat.le_refl _) (by omega)) z⟩
      repeat (refine hX _ _ _ _ ?_; conv => whnf)
      rw [hb] at f1
      exact h D1 f1 f2
    | succ m ih =>
      intro b D1 l5 l6 hb f1 f2
      have hbn : b < z_n g := by omega
      obtain ⟨k1, k2, k3, k4, k5, k6⟩ := g7 b hbn
      have i12 := z_ix p 12 b 12 (by decide)
      have i20 := z_ix p 20 b 20 (by decide)
      have hw : (10 * g (12 + b)).toInt = 10 * (g (12 + b)).toInt := z_mul (x := 10) (by have := k4.1; have := k4.2; show _ ≤ 10 * _; omega) (by have := k4.1; have := k4.2; show 10 * _ ≤ _; omega)
      have e12 : z_sp g b (12 + b) = g (12 + b) := by unfold z_sp; rw [if_neg (by omega)]
      have e20 : z_sp g b (20 + b) = g (20 + b) := by unfold z_sp; rw [if_neg (by omega)]
      have s123 : ∀ l5 : Option Value, X 123 [some (.ref 67), some (.int (nI p)), some (.int (nI (z_n g))), some (.int (g 50)), some (.int (nI b)), l5, some (.int (z_slow (g (20 + b) + (z_pn g (b + 1) - z_pull g b) / (10 * g (12 + b))) (g 50)))] [] D1 := by
        intro l5
        repeat (refine hX _ _ _ _ ?_; conv => whnf)
        refine hso _ _ _ ?_
        repeat (refine hX _ _ _ _ ?_; conv => whnf)
        rw [i20]
        refine ⟨by decide, vp_in_nI (by omega) (by decide), ?_⟩
        rw [nI_clamp (by omega)]
        iterate 2 (refine hX _ _ _ _ ?_; conv => whnf)
        rw [nI_1]
        refine ih (b + 1) _ _ _ (by omega) ?_ (f2.trans (z_MF_mu (by omega)))
        have e : z_sp g (b + 1) = z_up (z_sp g b) (20 + b) (z_ns g b) := by
          funext k
          unfold z_up z_sp
          by_cases q : k = 20 + b
          · rw [if_pos q, if_pos (by omega), q, show 20 + b - 20 = b by omega]
          · rw [if_neg q]
            by_cases q2 : 20 ≤ k ∧ k < 20 + b
            · rw [if_pos (by omega), if_pos q2]
            · rw [if_neg (by omega), if_neg q2]
        rw [e]
        exact z_M_mu f1
      have s50 : X 50 [some (.ref 67), some (.int (nI p)), some (.int (nI (z_n g))), some (.int (g 50)), some (.int (nI b)), l5, l6] [.int (z_pn g (b + 1))] D1 := by
        repeat (refine hX _ _ _ _ ?_; conv => whnf)
        refine hpu p b (z_sp g b) D1 _ hp (by omega) f1 ?_
        rw [z_sp_pull g b b (by omega)]
        repeat (refine hX _ _ _ _ ?_; conv => whnf)
        rw [i12]
        refine ⟨vp_in_nI (by omega) (by decide), ?_⟩
        rw [nI_clamp (by omega), f1 _ (by omega), e12]
        repeat (refine hX _ _ _ _ ?_; conv => whnf)
        refine ⟨by rw [z_eq, hw]; have := k4.1; show ¬ _ = (0 : Int); omega, ?_⟩
        repeat (refine hX _ _ _ _ ?_; conv => whnf)
        rw [i20]
        refine ⟨vp_in_nI (by omega) (by decide), ?_⟩
        rw [nI_clamp (by omega), f1 _ (by omega), e20]
        have s123 := s123 (some (.int ((z_pn g (b + 1) - z_pull g b) / (10 * g (12 + b)))))
        unfold z_slow at s123
        repeat (refine hX _ _ _ _ ?_; conv => whnf)
        obtain ⟨v, hv⟩ : ∃ v, v = g (20 + b) + (z_pn g (b + 1) - z_pull g b) / (10 * g (12 + b)) := ⟨_, rfl⟩
        rw [← hv] at s123 ⊢
        refine ⟨fun q1 => ?_, fun q1 => ?_⟩
        · repeat (refine hX _ _ _ _ ?_; conv => whnf)
          rw [if_neg (by rw [z_le] at q1; rw [z_lt]; omega)] at s123
          refine ⟨fun q2 => ?_, fun q2 => ?_⟩
          · rw [if_neg (by rw [z_le] at q2; rw [z_lt]; omega)] at s123
            iterate 2 (refine hX _ _ _ _ ?_; conv => whnf)
            exact s123
          · rw [if_pos (by rw [z_le] at q2; rw [z_lt]; omega)] at s123
            iterate 5 (refine hX _ _ _ _ ?_; conv => whnf)
            exact s123
        · rw [if_pos (by rw [z_le] at q1; rw [z_lt]; omega)] at s123
          iterate 5 (refine hX _ _ _ _ ?_; conv => whnf)
          exact s123
      repeat (refine hX _ _ _ _ ?_; conv => whnf)
      refine ⟨fun z => absurd z (nI_ge (by omega) (by omega)), fun _ => ?_⟩
      repeat (refine hX _ _ _ _ ?_; conv => whnf)
      rw [nI_1]
      refine ⟨fun q1 => ?_, fun q1 => ?_⟩
      · have q1 : ¬ b + 1 < z_n g := by rw [z_lei (by omega) (by omega)] at q1; omega
        have e : z_pn g (b + 1) = 0 := by unfold z_pn; rw [if_neg q1]
        rw [e] at s50
        iterate 1 (refine hX _ _ _ _ ?_; conv => whnf)
        exact s50
      · have q1 : b + 1 < z_n g := by rw [z_lei (by omega) (by omega)] at q1; omega
        have e : z_pn g (b + 1) = z_pull g (b + 1) := by unfold z_pn; rw [if_pos q1]
        rw [e] at s50
        repeat (refine hX _ _ _ _ ?_; conv => whnf)
        rw [nI_1]
        refine hpu p (b + 1) (z_sp g b) D1 _ hp (by omega) f1 ?_
        rw [z_sp_pull g b (b + 1) (by omega)]
        iterate 1 (refine hX _ _ _ _ ?_; conv => whnf)
        exact s50
  refine loop (z_n g) 0 D none none (by omega) ?_ .rf
  have e : z_sp g 0 = g := by
    funext k
    unfold z_sp
    rw [if_neg (by omega)]
  rw [e]
  exact hM
end
section
/-- of page p and of the counters alone: what changed -/
def z_MG (p : Nat) (D D' : pm_Mem) : Prop := (∀ r, r ≠ 68 → r ≠ 67 → D' r = D r) ∧ (∀ k, k ≠ 14 → k ≠ 15 → D' 67 k = D 67 k) ∧ ∀ k, (k < p ∨ p + 52 ≤ k) → D' 68 k = D 68 k
theorem z_mv0 (g : z_P) : z_mv g 0 = g := by
  funext k
  unfold z_mv
  rw [if_neg (by omega), if_neg (by omega)]
/-- b beads have gone, the others have their new speeds -/
def z_mp (g : z_P) (n b : Nat) : z_P := fun k => if 16 ≤ k ∧ k < 16 + b then z_np g (k - 16) else if 20 ≤ k ∧ k < 20 + b then z_fs g (k - 20) else z_sp g n k
theorem z_mp0 (g : z_P) (n : Nat) : z_mp g n 0 = z_sp g n := by
  funext k
  unfold z_mp
  rw [if_neg (by omega), if_neg (by omega)]
theorem z_mpn (g : z_P) (n : Nat) : z_mp g n n = z_mv g n := by
  funext k
  unfold z_mp z_mv z_sp
  by_cases h1 : 16 ≤ k ∧ k < 16 + n
  · rw [if_pos h1, if_pos h1]
  · rw [if_neg h1, if_neg h1]
    by_cases h2 : 20 ≤ k ∧ k < 20 + n
    · rw [if_pos h2, if_pos h2]
    · rw [if_neg h2, if_neg h2, if_neg h2]
def sp_placesOn (Ga : pm_Ga) : Prop := ∀ (p : Nat) (g : z_P) (D : pm_Mem) (post : pm_Post) (T : Int), p ≤ 260 → z_M D p (z_sp g (z_n g)) → z_G T g → (∀ D', z_M D' p (z_move g) → z_MG p D D' → D' 67 14 = D 67 14 + z_gone g (z_n g) → D' 67 15 = D 67 15 + z_stop g (z_n g) → post none D') → Ga 119 [.ref 67, .int (nI p)] D post
set_option maxHeartbeats 4000000 in
theorem t_placesOn {N : Nat} {Ga : pm_Ga} (hin : sp_in Ga) (ham : sp_amount Ga) : sp_placesOn (pm_up N Ga) := by
  intro p g D post T hp hM hG h
  obtain ⟨g1, g2, g3, g4, g5, g6, g7, g8⟩ := hG
  have i24 := z_ix1 p 24 24 (by decide)
  have i51 := z_ix1 p 51 51 (by decide)
  have t300 : (300 : Int64).toInt = 300 := rfl
  have t0 : (0 : Int64).toInt = 0 := rfl
  have u300 : (300 : Int32).toInt = 300 := rfl
  have u0 : (0 : Int32).toInt = 0 := rfl
  generalize hn : z_n g = n at *
  refine ⟨rfl, fun X hX => ?_⟩
  replace hX : ∀ pc L st D, pm_F N Ga tbX5_placesOn none post X pc L st D → X pc L st D := hX
  change X 0 [some (.ref 67), some (.int (nI p)), none, none, none] [] D
  iterate 2 (refine hX _ _ _ _ ?_; conv => whnf)
  have loop : ∀ (m b : Nat) (D1 : pm_Mem) (l3 l4 : Option Value), b + m = n → z_M D1 p (z_mp g n b) → z_MG p D D1 → D1 67 14 = D 67 14 + z_gone g b → D1 67 15 = D 67 15 + z_stop g b → X 2 [some (.ref 67), some (.int (nI p)), some (.int (nI b)), l3, l4] [] D1 := by
    intro m
    induction m with
    | zero =>
      intro b D1 l3 l4 hb f1 f2 f3 f4
      have hb : b = n := by omega
      subst hb
      have e24 : z_mp g b b 24 = nI b := by unfold z_mp z_sp; rw [if_neg (by omega), if_neg (by omega), if_neg (by omega), g1]
      have e51 : z_mp g b b 51 = g 51 := by unfold z_mp z_sp; rw [if_neg (by omega), if_neg (by omega), if_neg (by omega)]
      repeat (refine hX _ _ _ _ ?_; conv => whnf)
      rw [i24]
      refine ⟨vp_in_nI (by omega) (by decide), ?_⟩
      rw [nI_clamp (by omega), f1 _ (by omega), e24]
      repeat (refine hX _ _ _ _ ?_; conv => whnf)
      refine ⟨fun _ => ?_, fun z => absurd (nI_le (Nat.le_refl _) (by omega)) z⟩
      repeat (refine hX _ _ _ _ ?_; conv => whnf)
      rw [i51]
      refine ⟨vp_in_nI (by omega) (by decide), ?_⟩
      rw [nI_clamp (by omega), f1 _ (by omega), e51]
      repeat (refine hX _ _ _ _ ?_; conv => whnf)
      refine ⟨by decide, vp_in_nI (by omega) (by decide), ?_⟩
      rw [nI_clamp (by omega)]
      repeat (refine hX _ _ _ _ ?_; conv => whnf)
      refine h _ ?_ ⟨fun r h1 h2 => ?_, fun k h1 h2 => ?_, fun k hk => ?_⟩ ?_ ?_
      · have e : z_move g = z_up (z_mp g b b) 51 (g 51 + 1) := by unfold z_move; rw [hn, z_mpn]
        rw [e]
        exact z_M_mu f1
      · rw [pm_mu_ne _ _ _ h1]; exact f2.1 r h1 h2
      · rw [pm_mu_r _ _ _ _ (by decide)]; exact f2.2.1 k h1 h2
      · rw [pm_mu_k _ _ _ _ (by omega)]; exact f2.2.2 k hk
      · rw [pm_mu_r _ _ _ _ (by decide)]; exact f3
      · rw [pm_mu_r _ _ _ _ (by decide)]; exact f4
    | succ m ih =>
      intro b D1 l3 l4 hb f1 f2 f3 f4
      have hbn : b < n := by omega
      have i16 := z_ix p 16 b 16 (by decide)
      have i20 := z_ix p 20 b 20 (by decide)
      have e24 : z_mp g n b 24 = nI n := by unfold z_mp z_sp; rw [if_neg (by omega), if_neg (by omega), if_neg (by omega), g1]
      have e16 : z_mp g n b (16 + b) = g (16 + b) := by unfold z_mp z_sp; rw [if_neg (by omega), if_neg (by omega), if_neg (by omega)]
      have e20 : z_mp g n b (20 + b) = z_ns g b := by unfold z_mp z_sp; rw [if_neg (by omega), if_neg (by omega), if_pos (by omega), show 20 + b - 20 = b by omega]
      have eup : z_mp g n (b + 1) = z_up (z_up (z_mp g n b) (20 + b) (z_fs g b)) (16 + b) (z_np g b) := by
        funext k
        unfold z_up z_mp
        by_cases q : k = 16 + b
        · rw [if_pos q, if_pos (by omega), q, show 16 + b - 16 = b by omega]
        · rw [if_neg q]
          by_cases q2 : k = 20 + b
          · rw [if_pos q2, if_neg (by omega), if_pos (by omega), q2, show 20 + b - 20 = b by omega]
          · rw [if_neg q2]
            by_cases q3 : 16 ≤ k ∧ k < 16 + b
            · rw [if_pos q3, if_pos (by omega)]
            · rw [if_neg q3, if_neg (by omega)]
              by_cases q4 : 20 ≤ k ∧ k < 20 + b
              · rw [if_pos q4, if_pos (by omega)]
              · rw [if_neg q4, if_neg (by omega)]
      -- the place is written, how far is counted
      have s91 : ∀ (D2 : pm_Mem), z_M D2 p (z_up (z_mp g n b) (20 + b) (z_fs g b)) → z_MG p D D2 → D2 67 14 = D 67 14 + z_gone g b → D2 67 15 = D 67 15 + z_stop g (b + 1) → X 91 [some (.ref 67), some (.int (nI p)), some (.int (nI b)), some (.int (g (16 + b))), some (.int (z_np g b))] [] D2 := by
        intro D2 k1 k2 k3 k4
        repeat (refine hX _ _ _ _ ?_; conv => whnf)
        rw [i16]
        refine ⟨by decide, vp_in_nI (by omega) (by decide), ?_⟩
        rw [nI_clamp (by omega)]
        repeat (refine hX _ _ _ _ ?_; conv => whnf)
        refine ham _ _ _ ?_
        iterate 4 (refine hX _ _ _ _ ?_; conv => whnf)
        rw [nI_1]
        refine ih (b + 1) _ _ _ (by omega) ?_ ⟨fun r h1 h2 => ?_, fun k h1 h2 => ?_, fun k hk => ?_⟩ ?_ ?_
        · rw [eup]
          intro k hk
          rw [pm_mu_r _ _ _ _ (by decide)]
          exact z_M_mu k1 k hk
        · rw [pm_mu_ne _ _ _ h2, pm_mu_ne _ _ _ h1]; exact k2.1 r h1 h2
        · rw [pm_mu_k _ _ _ _ h1, pm_mu_r _ _ _ _ (by decide)]; exact k2.2.1 k h1 h2
        · rw [pm_mu_r _ _ _ _ (by decide), pm_mu_k _ _ _ _ (by omega)]; exact k2.2.2 k hk
        · rw [pm_mu_at, pm_mu_r _ _ _ _ (by decide), k3, Int32.add_assoc]; rfl
        · rw [pm_mu_k _ _ _ _ (by decide), pm_mu_r _ _ _ _ (by decide)]; exact k4
      repeat (refine hX _ _ _ _ ?_; conv => whnf)
      rw [i24]
      refine ⟨vp_in_nI (by omega) (by decide), ?_⟩
      rw [nI_clamp (by omega), f1 _ (by omega), e24]
      repeat (refine hX _ _ _ _ ?_; conv => whnf)
      refine ⟨fun z => absurd z (nI_ge (by omega) (by omega)), fun _ => ?_⟩
      repeat (refine hX _ _ _ _ ?_; conv => whnf)
      rw [i16]
      refine ⟨vp_in_nI (by omega) (by decide), ?_⟩
      rw [nI_clamp (by omega), f1 _ (by omega), e16]
      repeat (refine hX _ _ _ _ ?_; conv => whnf)
      rw [i20]
      refine ⟨vp_in_nI (by omega) (by decide), ?_⟩
      rw [nI_clamp (by omega), f1 _ (by omega), e20]
      repeat (refine hX _ _ _ _ ?_; conv => whnf)
      have hto : g (16 + b) + z_ns g b = z_to g b := rfl
      rw [hto]
      refine hin _ _ _ _ _ (fun a1 a2 => ?_) (fun a1 => ?_)
      · rw [z_64] at a1 a2
        have q1 : ¬ z_to g b < 0 := by rw [z_lt]; omega
        have q2 : ¬ 300 < z_to g b := by rw [z_lt]; omega
        have e1 : z_np g b = z_to g b := by unfold z_np; rw [if_neg q1, if_neg q2]
        have e2 : z_fs g b = z_ns g b := by unfold z_fs; rw [if_neg (fun z => z.elim q1 q2)]
        repeat (refine hX _ _ _ _ ?_; conv => whnf)
        refine ⟨fun _ => ?_, fun h => absurd h (by decide)⟩
        rw [← e1]
        refine s91 D1 ?_ f2 f3 ?_
        · have e : z_up (z_mp g n b) (20 + b) (z_fs g b) = z_mp g n b := by
            funext k
            unfold z_up
            split
            · rename_i q; rw [q, e20, e2]
            · rfl
          rw [e]
          exact f1
        · rw [f4]
          show _ = D 67 15 + (z_stop g b + if z_to g b < 0 ∨ 300 < z_to g b then 1 else 0)
          rw [if_neg (fun z => z.elim q1 q2), Int32.add_zero]
      · rw [z_64] at a1
        have q : z_to g b < 0 ∨ 300 < z_to g b := by
          rw [z_lt, z_lt]
          omega
        have e2 : z_fs g b = 0 := by unfold z_fs; rw [if_pos q]
        have s67 : X 67 [some (.ref 67), some (.int (nI p)), some (.int (nI b)), some (.int (g (16 + b))), some (.int (z_to g b))] [.int (z_np g b)] D1 := by
          repeat (refine hX _ _ _ _ ?_; conv => whnf)
          rw [i20]
          refine ⟨by decide, vp_in_nI (by omega) (by decide), ?_⟩
          rw [nI_clamp (by omega)]
          iterate 6 (refine hX _ _ _ _ ?_; conv => whnf)
          refine s91 _ ?_ ⟨fun r h1 h2 => ?_, fun k h1 h2 => ?_, fun k hk => ?_⟩ ?_ ?_
          · rw [e2]
            intro k hk
            rw [pm_mu_r _ _ _ _ (by decide)]
            exact z_M_mu f1 k hk
          · rw [pm_mu_ne _ _ _ h2, pm_mu_ne _ _ _ h1]; exact f2.1 r h1 h2
          · rw [pm_mu_k _ _ _ _ h2, pm_mu_r _ _ _ _ (by decide)]; exact f2.2.1 k h1 h2
          · rw [pm_mu_r _ _ _ _ (by decide), pm_mu_k _ _ _ _ (by omega)]; exact f2.2.2 k hk
          · rw [pm_mu_k _ _ _ _ (by decide), pm_mu_r _ _ _ _ (by decide)]; exact f3
          · rw [pm_mu_at, pm_mu_r _ _ _ _ (by decide), f4]
            show _ = D 67 15 + (z_stop g b + if z_to g b < 0 ∨ 300 < z_to g b then 1 else 0)
            rw [if_pos q, Int32.add_assoc]
        unfold z_np at s67
        repeat (refine hX _ _ _ _ ?_; conv => whnf)
        refine ⟨fun h => absurd h (by decide), fun _ => ?_⟩
        repeat (refine hX _ _ _ _ ?_; conv => whnf)
        refine ⟨fun q1 => ?_, fun q1 => ?_⟩
        · have q2 : ¬ z_to g b < 0 := by rw [z_le] at q1; rw [z_lt]; omega
          rw [if_neg q2, if_pos (q.elim (fun z => absurd z q2) id)] at s67
          iterate 1 (refine hX _ _ _ _ ?_; conv => whnf)
          exact s67
        · have q2 : z_to g b < 0 := by rw [z_le] at q1; rw [z_lt]; omega
          rw [if_pos q2] at s67
          iterate 2 (refine hX _ _ _ _ ?_; conv => whnf)
          exact s67
  refine loop n 0 D none none (by omega) ?_ ⟨fun _ _ _ => rfl, fun _ _ _ => rfl, fun _ _ => rfl⟩ (Int32.add_zero _).symm (Int32.add_zero _).symm
  rw [z_mp0]
  exact hM
def sp_movesOn (Ga : pm_Ga) : Prop := ∀ (p : Nat) (g g0 : z_P) (D : pm_Mem) (post : pm_Post) (T T0 : Int), p ≤ 260 → z_M D p g → z_G T g → ((p = 0 ∧ g0 = z_move g) ∨ (52 ≤ p ∧ z_M D 0 g0)) → z_G T0 g0 →
  (∀ D', z_M D' p (z_move g) → (∀ r, r ≠ 67 → r ≠ 68 → r ≠ 73 → D' r = D r) → (∀ k, k ≠ 14 → k ≠ 15 → k ≠ 16 → k ≠ 18 → D' 67 k = D 67 k) → (∀ k, (k < p ∨ p + 52 ≤ k) → D' 68 k = D 68 k) → D' 67 14 = D 67 14 + z_gone g (z_n g) → D' 67 15 = D 67 15 + z_stop g (z_n g) → (D' 67 16 = 0 ∨ D' 67 16 = 1) → (D' 67 16 = 1 ↔ ∃ b, b < z_n g ∧ z_fs g b ≠ g (20 + b)) → D' 67 18 = z_max (D 67 18) (z_sw g0 (z_move g)) → post none D') → Ga 121 [.ref 67, .int (nI p)] D post
set_option maxHeartbeats 4000000 in
theorem t_movesOn {N : Nat} {Ga : pm_Ga} (hsp : sp_speedsOn Ga) (hpl : sp_placesOn Ga) (hla : sp_lastOn Ga) (ham : sp_amount Ga) : sp_movesOn (pm_up N Ga) := by
  intro p g g0 D post T T0 hp hM hG h0 hG0 h
  have i24 := z_ix1 p 24 24 (by decide)
  have hn4 := hG.2.1
  refine ⟨rfl, fun X hX => ?_⟩
  replace hX : ∀ pc L st D, pm_F N Ga tbX5_movesOn none post X pc L st D → X pc L st D := hX
  change X 0 [some (.ref 67), some (.int (nI p)), none] [] D
  iterate 2 (refine hX _ _ _ _ ?_; conv => whnf)
  have fin : ∀ (D4 : pm_Mem) (l2 : Option Value), z_M D4 p (z_move g) → (∀ r, r ≠ 67 → r ≠ 68 → r ≠ 73 → D4 r = D r) → (∀ k, k ≠ 14 → k ≠ 15 → k ≠ 16 → D4 67 k = D 67 k) → (∀ k, (k < p ∨ p + 52 ≤ k) → D4 68 k = D 68 k) → D4 67 14 = D 67 14 + z_gone g (z_n g) → D4 67 15 = D 67 15 + z_stop g (z_n g) → (D4 67 16 = 0 ∨ D4 67 16 = 1) → (D4 67 16 = 1 ↔ ∃ b, b < z_n g ∧ z_fs g b ≠ g (20 + b)) → X 102 [some (.ref 67), some (.int (nI p)), l2] [] D4 := by
    intro D4 l2 k1 k2 k3 k4 k5 k6 k7 k8
    have hM0 : z_M D4 0 g0 := by
      rcases h0 with ⟨e1, e2⟩ | ⟨e1, e2⟩
      · rw [e2, ← e1]; exact k1
      · intro k hk
        rw [Nat.zero_add, k4 _ (by omega)]
        have := e2 k hk
        rwa [Nat.zero_add] at this
    repeat (refine hX _ _ _ _ ?_; conv => whnf)
    refine hla p (z_move g) D4 _ hp k1 (by rw [z_move_n hn4, z_move_lo hn4 (by omega)]; exact hG.1) (by rw [z_move_n hn4]; exact hn4) ?_
    repeat (refine hX _ _ _ _ ?_; conv => whnf)
    refine hla 0 g0 D4 _ (by omega) hM0 hG0.1 hG0.2.1 ?_
    repeat (refine hX _ _ _ _ ?_; conv => whnf)
    refine ham _ _ _ ?_
    have last : ∀ v : Int32, v = z_max (D 67 18) (z_sw g0 (z_move g)) → post none (pm_mu D4 67 18 v) := by
      intro v hv
      refine h _ ?_ (fun r h1 h2 h3 => ?_) (fun k h1 h2 h3 h4 => ?_) (fun k hk => ?_) ?_ ?_ ?_ ?_ ?_
      · intro k hk
        rw [pm_mu_r _ _ _ _ (by decide)]; exact k1 k hk
      · rw [pm_mu_ne _ _ _ h1]; exact k2 r h1 h2 h3
      · rw [pm_mu_k _ _ _ _ h4]; exact k3 k h1 h2 h3
      · rw [pm_mu_r _ _ _ _ (by decide)]; exact k4 k hk
      · rw [pm_mu_k _ _ _ _ (by decide)]; exact k5
      · rw [pm_mu_k _ _ _ _ (by decide)]; exact k6
      · rw [pm_mu_k _ _ _ _ (by decide)]; exact k7
      · rw [pm_mu_k _ _ _ _ (by decide)]; exact k8
      · rw [pm_mu_at]; exact hv
    have hs : z_abs (z_last (z_move g) - z_last g0) = z_sw g0 (z_move g) := rfl
    rw [hs]
    repeat (refine hX _ _ _ _ ?_; conv => whnf)
    rw [k3 18 (by decide) (by decide) (by decide)]
    refine ⟨fun q1 => ?_, fun q1 => ?_⟩
    · repeat (refine hX _ _ _ _ ?_; conv => whnf)
      rw [k3 18 (by decide) (by decide) (by decide)]
      exact last _ (by unfold z_max pm_max; rw [if_neg (by rw [z_le] at q1; rw [z_lt]; omega)])
    · repeat (refine hX _ _ _ _ ?_; conv => whnf)
      exact last _ (by unfold z_max pm_max; rw [if_pos (by rw [z_le] at q1; rw [z_lt]; omega)])
  have loop2 : ∀ (m b : Nat) (D4 : pm_Mem), b + m = z_n g → z_M D4 p (z_move g) → (∀ r, r ≠ 67 → r ≠ 68 → r ≠ 73 → D4 r = D r) → (∀ j, j < 4 → D4 73 j = g (20 + j)) → (∀ k, k ≠ 14 → k ≠ 15 → k ≠ 16 → D4 67 k = D 67 k) → (∀ k, (k < p ∨ p + 52 ≤ k) → D4 68 k = D 68 k) → D4 67 14 = D 67 14 + z_gone g (z_n g) → D4 67 15 = D 67 15 + z_stop g (z_n g) → (D4 67 16 = 0 ∨ D4 67 16 = 1) → (D4 67 16 = 1 ↔ ∃ j, j < b ∧ z_fs g j ≠ g (20 + j)) → X 47 [some (.ref 67), some (.int (nI p)), some (.int (nI b))] [] D4 := by
    intro m
    induction m with
    | zero =>
      intro b D4 hb k1 k2 k9 k3 k4 k5 k6 k7 k8
      have hb : b = z_n g := by omega
      repeat (refine hX _ _ _ _ ?_; conv => whnf)
      rw [i24]
      refine ⟨vp_in_nI (by omega) (by decide), ?_⟩
      rw [nI_clamp (by omega), k1 _ (by omega), z_move_lo hn4 (by omega), hG.1, hb]
      repeat (refine hX _ _ _ _ ?_; conv => whnf)
      refine ⟨fun _ => ?_, fun z => absurd (nI_le (Nat.le_refl _) (by omega)) z⟩
      rw [hb] at k8
      exact fin D4 _ k1 k2 k3 k4 k5 k6 k7 k8
    | succ m ih =>
      intro b D4 hb k1 k2 k9 k3 k4 k5 k6 k7 k8
      have hbn : b < z_n g := by omega
      have i20 := z_ix p 20 b 20 (by decide)
      have hst : (∃ j, j < b + 1 ∧ z_fs g j ≠ g (20 + j)) ↔ (∃ j, j < b ∧ z_fs g j ≠ g (20 + j)) ∨ z_fs g b ≠ g (20 + b) := by
        constructor
        · rintro ⟨j, hj, hq⟩
          by_cases e : j = b
          · subst e; exact Or.inr hq
          · exact Or.inl ⟨j, by omega, hq⟩
        · rintro (⟨j, hj, hq⟩ | hq)
          · exact ⟨j, by omega, hq⟩
          · exact ⟨b, by omega, hq⟩
      have nxt : ∀ v : Int32, (v = 0 ∨ v = 1) → (v = 1 ↔ (∃ j, j < b + 1 ∧ z_fs g j ≠ g (20 + j))) → X 96 [some (.ref 67), some (.int (nI p)), some (.int (nI b))] [] (pm_mu D4 67 16 v) := by
        intro v v1 v2
        iterate 2 (refine hX _ _ _ _ ?_; conv => whnf)
        rw [nI_1]
        refine ih (b + 1) _ (by omega) ?_ (fun r h1 h2 h3 => ?_) (fun j hj => ?_) (fun k h1 h2 h3 => ?_) (fun k hk => ?_) ?_ ?_ ?_ ?_
        · intro k hk
          rw [pm_mu_r _ _ _ _ (by decide)]; exact k1 k hk
        · rw [pm_mu_ne _ _ _ h1]; exact k2 r h1 h2 h3
        · rw [pm_mu_r _ _ _ _ (by decide)]; exact k9 j hj
        · rw [pm_mu_k _ _ _ _ h3]; exact k3 k h1 h2 h3
        · rw [pm_mu_r _ _ _ _ (by decide)]; exact k4 k hk
        · rw [pm_mu_k _ _ _ _ (by decide)]; exact k5
        · rw [pm_mu_k _ _ _ _ (by decide)]; exact k6
        · rw [pm_mu_at]; exact v1
        · rw [pm_mu_at]; exact v2
      repeat (refine hX _ _ _ _ ?_; conv => whnf)
      rw [i24]
      refine ⟨vp_in_nI (by omega) (by decide), ?_⟩
      rw [nI_clamp (by omega), k1 _ (by omega), z_move_lo hn4 (by omega), hG.1]
      repeat (refine hX _ _ _ _ ?_; conv => whnf)
      refine ⟨fun z => absurd z (nI_ge (by omega) (by omega)), fun _ => ?_⟩
      repeat (refine hX _ _ _ _ ?_; conv => whnf)
      refine ⟨fun q1 => ?_, fun q1 => ?_⟩
      · repeat (refine hX _ _ _ _ ?_; conv => whnf)
        refine ⟨Or.inr rfl, ?_⟩
        exact nxt 1 (Or.inr rfl) ⟨fun _ => hst.mpr (Or.inl (k8.mp (k7.elim (fun z => absurd z q1) id))), fun _ => rfl⟩
      · repeat (refine hX _ _ _ _ ?_; conv => whnf)
        rw [i20]
        refine ⟨vp_in_nI (by omega) (by decide), ?_⟩
        rw [nI_clamp (by omega), k1 _ (by omega), z_move_s hn4 hbn]
        repeat (refine hX _ _ _ _ ?_; conv => whnf)
        refine ⟨vp_in_nI (by omega) (by decide), ?_⟩
        rw [nI_clamp (by omega), k9 b (by omega)]
        have n1 : ¬ ∃ j, j < b ∧ z_fs g j ≠ g (20 + j) := fun z => by
          have := k8.mpr z
          rw [q1] at this
          exact absurd this (by decide)
        repeat (refine hX _ _ _ _ ?_; conv => whnf)
        refine ⟨fun q2 => ?_, fun q2 => ?_⟩
        · repeat (refine hX _ _ _ _ ?_; conv => whnf)
          refine ⟨Or.inl rfl, ?_⟩
          exact nxt 0 (Or.inl rfl) ⟨fun z => absurd z (by decide), fun z => (hst.mp z).elim (fun z => absurd z n1) (fun z => absurd q2 z)⟩
        · repeat (refine hX _ _ _ _ ?_; conv => whnf)
          refine ⟨Or.inr rfl, ?_⟩
          exact nxt 1 (Or.inr rfl) ⟨fun _ => hst.mpr (Or.inr q2), fun _ => rfl⟩
  have loop1 : ∀ (m b : Nat) (D1 : pm_Mem), b + m = 4 → (∀ r, r ≠ 73 → D1 r = D r) → (∀ j, j < b → D1 73 j = g (20 + j)) → X 2 [some (.ref 67), some (.int (nI p)), some (.int (nI b))] [] D1 := by
    intro m
    induction m with
    | zero =>
      intro b D1 hb f1 f2
      have hb : b = 4 := by omega
      subst hb
      repeat (refine hX _ _ _ _ ?_; conv => whnf)
      refine ⟨fun _ => ?_, fun z => absurd (by decide : (4 : Int32) ≤ nI 4) z⟩
      repeat (refine hX _ _ _ _ ?_; conv => whnf)
      refine hsp p g D1 _ T hp (fun k hk => by rw [f1 _ (by decide)]; exact hM k hk) hG (fun D2 e1 e2 => ?_)
      repeat (refine hX _ _ _ _ ?_; conv => whnf)
      refine hpl p g D2 _ T hp e1 hG (fun D3 c1 c2 c3 c4 => ?_)
      repeat (refine hX _ _ _ _ ?_; conv => whnf)
      refine ⟨Or.inl rfl, ?_⟩
      iterate 2 (refine hX _ _ _ _ ?_; conv => whnf)
      refine loop2 (z_n g) 0 _ (by omega) ?_ (fun r h1 h2 h3 => ?_) (fun j hj => ?_) (fun k h1 h2 h3 => ?_) (fun k hk => ?_) ?_ ?_ ?_ ?_
      · intro k hk
        rw [pm_mu_r _ _ _ _ (by decide)]; exact c1 k hk
      · rw [pm_mu_ne _ _ _ h1, c2.1 r h2 h1, e2.1 r h2, f1 r h3]
      · rw [pm_mu_r _ _ _ _ (by decide), c2.1 _ (by decide) (by decide), e2.1 _ (by decide)]; exact f2 j hj
      · rw [pm_mu_k _ _ _ _ h3, c2.2.1 k h1 h2, e2.1 _ (by decide), f1 _ (by decide)]
      · rw [pm_mu_r _ _ _ _ (by decide), c2.2.2 k hk, e2.2 k hk, f1 _ (by decide)]
      · rw [pm_mu_k _ _ _ _ (by decide), c3, e2.1 _ (by decide), f1 _ (by decide)]
      · rw [pm_mu_k _ _ _ _ (by decide), c4, e2.1 _ (by decide), f1 _ (by decide)]
      · rw [pm_mu_at]; exact Or.inl rfl
      · rw [pm_mu_at]
        exact ⟨fun z => absurd z (by decide), fun ⟨j, hj, _⟩ => by omega⟩
    | succ m ih =>
      intro b D1 hb f1 f2
      have i20 := z_ix p 20 b 20 (by decide)
      repeat (refine hX _ _ _ _ ?_; conv => whnf)
      refine ⟨fun z => absurd z (nI_ge (a := b) (b := 4) (by omega) (by omega)), fun _ => ?_⟩
      repeat (refine hX _ _ _ _ ?_; conv => whnf)
      rw [i20]
      refine ⟨vp_in_nI (by omega) (by decide), ?_⟩
      rw [nI_clamp (by omega), f1 _ (by decide), hM _ (by omega)]
      repeat (refine hX _ _ _ _ ?_; conv => whnf)
      refine ⟨by decide, vp_in_nI (by omega) (by decide), ?_⟩
      rw [nI_clamp (by omega)]
      iterate 2 (refine hX _ _ _ _ ?_; conv => whnf)
      rw [nI_1]
      refine ih (b + 1) _ (by omega) (fun r hr => by rw [pm_mu_ne _ _ _ hr]; exact f1 r hr) (fun j hj => ?_)
      rw [pm_mu_eq, if_pos rfl]
      split
      · rename_i e; rw [e]
      · exact f2 j (by omega)
  exact loop1 4 0 D (by omega) (fun _ _ => rfl) (fun j hj => by omega)
end

section
-- ===== PART A: goes FIRST, ahead of the names: the tables' words, and 'selects' of the private methods out of them =====
/-- a private method of a class that the tables say can be made, by its rows of tables_1 -/
def lw_okq (q : MethodName × Nat) : Prop := (q.1.cls ≠ "java/lang/invoke/MethodHandle" ∧ q.1.cls ≠ "java/lang/invoke/VarHandle") ∧ Cond.instantiable q.1.cls q.2 ∈ tables_1 ∧ Cond.privateMethod q.1 ∈ tables_1 ∧ Cond.instanceMethod q.1 ∈ tables_1
theorem lw_p0 : lw_okq (⟨"SpringBeads$Tape", "readToken", "()V"⟩, 8) := ⟨⟨by decide +kernel, by decide +kernel⟩, List.mem_of_getElem? (i := 93) (by decide +kernel), List.mem_of_getElem? (i := 228) (by decide +kernel), List.mem_of_getElem? (i := 229) (by decide +kernel)⟩
theorem lw_p1 : lw_okq (⟨"SpringBeads$Tape", "runOf", "(CC)I"⟩, 8) := ⟨⟨by decide +kernel, by decide +kernel⟩, List.mem_of_getElem? (i := 93) (by decide +kernel), List.mem_of_getElem? (i := 232) (by decide +kernel), List.mem_of_getElem? (i := 233) (by decide +kernel)⟩
theorem lw_p2 : lw_okq (⟨"SpringBeads$Tape", "blame", "(I)V"⟩, 8) := ⟨⟨by decide +kernel, by decide +kernel⟩, List.mem_of_getElem? (i := 93) (by decide +kernel), List.mem_of_getElem? (i := 239) (by decide +kernel), List.mem_of_getElem? (i := 240) (by decide +kernel)⟩
theorem lw_p3 : lw_okq (⟨"SpringBeads$Tape", "takeLine", "(LSpringBeads$Chain;)V"⟩, 8) := ⟨⟨by decide +kernel, by decide +kernel⟩, List.mem_of_getElem? (i := 93) (by decide +kernel), List.mem_of_getElem? (i := 243) (by decide +kernel), List.mem_of_getElem? (i := 244) (by decide +kernel)⟩
theorem lw_p4 : lw_okq (⟨"SpringBeads$Tape", "wordRead", "()I"⟩, 8) := ⟨⟨by decide +kernel, by decide +kernel⟩, List.mem_of_getElem? (i := 93) (by decide +kernel), List.mem_of_getElem? (i := 247) (by decide +kernel), List.mem_of_getElem? (i := 248) (by decide +kernel)⟩
theorem lw_p5 : lw_okq (⟨"SpringBeads$Tape", "isSpelt", "(Ljava/lang/String;)Z"⟩, 8) := ⟨⟨by decide +kernel, by decide +kernel⟩, List.mem_of_getElem? (i := 93) (by decide +kernel), List.mem_of_getElem? (i := 261) (by decide +kernel), List.mem_of_getElem? (i := 262) (by decide +kernel)⟩
theorem lw_p6 : lw_okq (⟨"SpringBeads$Tape", "takeDrag", "(LSpringBeads$Chain;)V"⟩, 8) := ⟨⟨by decide +kernel, by decide +kernel⟩, List.mem_of_getElem? (i := 93) (by decide +kernel), List.mem_of_getElem? (i := 313) (by decide +kernel), List.mem_of_getElem? (i := 314) (by decide +kernel)⟩
theorem lw_p7 : lw_okq (⟨"SpringBeads$Tape", "takeNumber", "(II)I"⟩, 8) := ⟨⟨by decide +kernel, by decide +kernel⟩, List.mem_of_getElem? (i := 93) (by decide +kernel), List.mem_of_getElem? (i := 317) (by decide +kernel), List.mem_of_getElem? (i := 318) (by decide +kernel)⟩
theorem lw_p8 : lw_okq (⟨"SpringBeads$Tape", "numberRead", "()I"⟩, 8) := ⟨⟨by decide +kernel, by decide +kernel⟩, List.mem_of_getElem? (i := 93) (by decide +kernel), List.mem_of_getElem? (i := 321) (by decide +kernel), List.mem_of_getElem? (i := 322) (by decide +kernel)⟩
theorem lw_p9 : lw_okq (⟨"SpringBeads$Tape", "takeSemicolon", "()V"⟩, 8) := ⟨⟨by decide +kernel, by decide +kernel⟩, List.mem_of_getElem? (i := 93) (by decide +kernel), List.mem_of_getElem? (i := 326) (by decide +kernel), List.mem_of_getElem? (i := 327) (by decide +kernel)⟩
theorem lw_p10 : lw_okq (⟨"SpringBeads$Tape", "takeKnock", "(LSpringBeads$Chain;Z)V"⟩, 8) := ⟨⟨by decide +kernel, by decide +kernel⟩, List.mem_of_getElem? (i := 93) (by decide +kernel), List.mem_of_getElem? (i := 330) (by decide +kernel), List.mem_of_getElem? (i := 331) (by decide +kernel)⟩
theorem lw_p11 : lw_okq (⟨"SpringBeads$Tape", "takeBead", "(LSpringBeads$Chain;I)V"⟩, 8) := ⟨⟨by decide +kernel, by decide +kernel⟩, List.mem_of_getElem? (i := 93) (by decide +kernel), List.mem_of_getElem? (i := 338) (by decide +kernel), List.mem_of_getElem? (i := 339) (by decide +kernel)⟩
theorem lw_p12 : lw_okq (⟨"SpringBeads$Chain", "slowed", "(I)I"⟩, 16) := ⟨⟨by decide +kernel, by decide +kernel⟩, List.mem_of_getElem? (i := 22) (by decide +kernel), List.mem_of_getElem? (i := 472) (by decide +kernel), List.mem_of_getElem? (i := 473) (by decide +kernel)⟩
theorem lw_p13 : lw_okq (⟨"SpringBeads$Chain", "goOn", "(II)V"⟩, 16) := ⟨⟨by decide +kernel, by decide +kernel⟩, List.mem_of_getElem? (i := 22) (by decide +kernel), List.mem_of_getElem? (i := 477) (by decide +kernel), List.mem_of_getElem? (i := 478) (by decide +kernel)⟩
theorem lw_p14 : lw_okq (⟨"SpringBeads", "steadiest", "(IIII)I"⟩, 10) := ⟨⟨by decide +kernel, by decide +kernel⟩, List.mem_of_getElem? (i := 14) (by decide +kernel), List.mem_of_getElem? (i := 513) (by decide +kernel), List.mem_of_getElem? (i := 514) (by decide +kernel)⟩
theorem lw_p15 : lw_okq (⟨"SpringBeads", "tryWith", "(III)V"⟩, 10) := ⟨⟨by decide +kernel, by decide +kernel⟩, List.mem_of_getElem? (i := 14) (by decide +kernel), List.mem_of_getElem? (i := 517) (by decide +kernel), List.mem_of_getElem? (i := 518) (by decide +kernel)⟩
def lw_privs_1 : List (MethodName × Nat) := [(⟨"SpringBeads$Tape", "readToken", "()V"⟩, 8), (⟨"SpringBeads$Tape", "runOf", "(CC)I"⟩, 8), (⟨"SpringBeads$Tape", "blame", "(I)V"⟩, 8), (⟨"SpringBeads$Tape", "takeLine", "(LSpringBeads$Chain;)V"⟩, 8), (⟨"SpringBeads$Tape", "wordRead", "()I"⟩, 8), (⟨"SpringBeads$Tape", "isSpelt", "(Ljava/lang/String;)Z"⟩, 8), (⟨"SpringBeads$Tape", "takeDrag", "(LSpringBeads$Chain;)V"⟩, 8), (⟨"SpringBeads$Tape", "takeNumber", "(II)I"⟩, 8), (⟨"SpringBeads$Tape", "numberRead", "()I"⟩, 8), (⟨"SpringBeads$Tape", "takeSemicolon", "()V"⟩, 8), (⟨"SpringBeads$Tape", "takeKnock", "(LSpringBeads$Chain;Z)V"⟩, 8), (⟨"SpringBeads$Tape", "takeBead", "(LSpringBeads$Chain;I)V"⟩, 8), (⟨"SpringBeads$Chain", "slowed", "(I)I"⟩, 16), (⟨"SpringBeads$Chain", "goOn", "(II)V"⟩, 16), (⟨"SpringBeads", "steadiest", "(IIII)I"⟩, 10), (⟨"SpringBeads", "tryWith", "(III)V"⟩, 10)]
theorem lw_r1 : ∀ q ∈ lw_privs_1, lw_okq q := List.forall_mem_cons.mpr ⟨lw_p0, List.forall_mem_cons.mpr ⟨lw_p1, List.forall_mem_cons.mpr ⟨lw_p2, List.forall_mem_cons.mpr ⟨lw_p3, List.forall_mem_cons.mpr ⟨lw_p4, List.forall_mem_cons.mpr ⟨lw_p5, List.forall_mem_cons.mpr ⟨lw_p6, List.forall_mem_cons.mpr ⟨lw_p7, List.forall_mem_cons.mpr ⟨lw_p8, List.forall_mem_cons.mpr ⟨lw_p9, List.forall_mem_cons.mpr ⟨lw_p10, List.forall_mem_cons.mpr ⟨lw_p11, List.forall_mem_cons.mpr ⟨lw_p12, List.forall_mem_cons.mpr ⟨lw_p13, List.forall_mem_cons.mpr ⟨lw_p14, List.forall_mem_cons.mpr ⟨lw_p15, fun _ h => absurd h List.not_mem_nil⟩⟩⟩⟩⟩⟩⟩⟩⟩⟩⟩⟩⟩⟩⟩⟩
theorem lw_p16 : lw_okq (⟨"SpringBeads", "swingAsItIs", "(I)I"⟩, 10) := ⟨⟨by decide +kernel, by decide +kernel⟩, List.mem_of_getElem? (i := 14) (by decide +kernel), List.mem_of_getElem? (i := 537) (by decide +kernel), List.mem_of_getElem? (i := 538) (by decide +kernel)⟩
theorem lw_p17 : lw_okq (⟨"SpringBeads", "runMissing", "(II)V"⟩, 10) := ⟨⟨by decide +kernel, by decide +kernel⟩, List.mem_of_getElem? (i := 14) (by decide +kernel), List.mem_of_getElem? (i := 555) (by decide +kernel), List.mem_of_getElem? (i := 556) (by decide +kernel)⟩
theorem lw_p18 : lw_okq (⟨"SpringBeads", "asSeenBits", "(II)I"⟩, 10) := ⟨⟨by decide +kernel, by decide +kernel⟩, List.mem_of_getElem? (i := 14) (by decide +kernel), List.mem_of_getElem? (i := 593) (by decide +kernel), List.mem_of_getElem? (i := 594) (by decide +kernel)⟩
theorem lw_p19 : lw_okq (⟨"SpringBeads$Seen", "latestTick", "()I"⟩, 4) := ⟨⟨by decide +kernel, by decide +kernel⟩, List.mem_of_getElem? (i := 129) (by decide +kernel), List.mem_of_getElem? (i := 601) (by decide +kernel), List.mem_of_getElem? (i := 602) (by decide +kernel)⟩
theorem lw_p20 : lw_okq (⟨"SpringBeads$Seen", "agrees", "(LSpringBeads$Chain;I)Z"⟩, 4) := ⟨⟨by decide +kernel, by decide +kernel⟩, List.mem_of_getElem? (i := 129) (by decide +kernel), List.mem_of_getElem? (i := 606) (by decide +kernel), List.mem_of_getElem? (i := 607) (by decide +kernel)⟩
theorem lw_p21 : lw_okq (⟨"SpringBeads", "traceStiffs", "(II)V"⟩, 10) := ⟨⟨by decide +kernel, by decide +kernel⟩, List.mem_of_getElem? (i := 14) (by decide +kernel), List.mem_of_getElem? (i := 620) (by decide +kernel), List.mem_of_getElem? (i := 621) (by decide +kernel)⟩
theorem lw_p22 : lw_okq (⟨"SpringBeads", "mostAlike", "(II)I"⟩, 10) := ⟨⟨by decide +kernel, by decide +kernel⟩, List.mem_of_getElem? (i := 14) (by decide +kernel), List.mem_of_getElem? (i := 624) (by decide +kernel), List.mem_of_getElem? (i := 625) (by decide +kernel)⟩
theorem lw_p23 : lw_okq (⟨"SpringBeads", "imageOf", "(I)LSpringBeads$Chain;"⟩, 10) := ⟨⟨by decide +kernel, by decide +kernel⟩, List.mem_of_getElem? (i := 14) (by decide +kernel), List.mem_of_getElem? (i := 638) (by decide +kernel), List.mem_of_getElem? (i := 639) (by decide +kernel)⟩
theorem lw_p24 : lw_okq (⟨"SpringBeads$Sheets", "faultAs", "(II)I"⟩, 3) := ⟨⟨by decide +kernel, by decide +kernel⟩, List.mem_of_getElem? (i := 149) (by decide +kernel), List.mem_of_getElem? (i := 679) (by decide +kernel), List.mem_of_getElem? (i := 680) (by decide +kernel)⟩
theorem lw_p25 : lw_okq (⟨"SpringBeadsModel", "readsOn", "()V"⟩, 28) := ⟨⟨by decide +kernel, by decide +kernel⟩, List.mem_of_getElem? (i := 699) (by decide +kernel), List.mem_of_getElem? (i := 806) (by decide +kernel), List.mem_of_getElem? (i := 807) (by decide +kernel)⟩
theorem lw_p26 : lw_okq (⟨"SpringBeadsModel", "byteAt", "(I)I"⟩, 28) := ⟨⟨by decide +kernel, by decide +kernel⟩, List.mem_of_getElem? (i := 699) (by decide +kernel), List.mem_of_getElem? (i := 810) (by decide +kernel), List.mem_of_getElem? (i := 811) (by decide +kernel)⟩
theorem lw_p27 : lw_okq (⟨"SpringBeadsModel", "fails", "(I)V"⟩, 28) := ⟨⟨by decide +kernel, by decide +kernel⟩, List.mem_of_getElem? (i := 699) (by decide +kernel), List.mem_of_getElem? (i := 818) (by decide +kernel), List.mem_of_getElem? (i := 819) (by decide +kernel)⟩
theorem lw_p28 : lw_okq (⟨"SpringBeadsModel", "readLine", "()V"⟩, 28) := ⟨⟨by decide +kernel, by decide +kernel⟩, List.mem_of_getElem? (i := 699) (by decide +kernel), List.mem_of_getElem? (i := 822) (by decide +kernel), List.mem_of_getElem? (i := 823) (by decide +kernel)⟩
theorem lw_p29 : lw_okq (⟨"SpringBeadsModel", "nameHere", "()I"⟩, 28) := ⟨⟨by decide +kernel, by decide +kernel⟩, List.mem_of_getElem? (i := 699) (by decide +kernel), List.mem_of_getElem? (i := 826) (by decide +kernel), List.mem_of_getElem? (i := 827) (by decide +kernel)⟩
theorem lw_p30 : lw_okq (⟨"SpringBeadsModel", "readMore", "(I)V"⟩, 28) := ⟨⟨by decide +kernel, by decide +kernel⟩, List.mem_of_getElem? (i := 699) (by decide +kernel), List.mem_of_getElem? (i := 831) (by decide +kernel), List.mem_of_getElem? (i := 832) (by decide +kernel)⟩
theorem lw_p31 : lw_okq (⟨"SpringBeadsModel", "number", "(II)I"⟩, 28) := ⟨⟨by decide +kernel, by decide +kernel⟩, List.mem_of_getElem? (i := 699) (by decide +kernel), List.mem_of_getElem? (i := 835) (by decide +kernel), List.mem_of_getElem? (i := 836) (by decide +kernel)⟩
def lw_privs_2 : List (MethodName × Nat) := [(⟨"SpringBeads", "swingAsItIs", "(I)I"⟩, 10), (⟨"SpringBeads", "runMissing", "(II)V"⟩, 10), (⟨"SpringBeads", "asSeenBits", "(II)I"⟩, 10), (⟨"SpringBeads$Seen", "latestTick", "()I"⟩, 4), (⟨"SpringBeads$Seen", "agrees", "(LSpringBeads$Chain;I)Z"⟩, 4), (⟨"SpringBeads", "traceStiffs", "(II)V"⟩, 10), (⟨"SpringBeads", "mostAlike", "(II)I"⟩, 10), (⟨"SpringBeads", "imageOf", "(I)LSpringBeads$Chain;"⟩, 10), (⟨"SpringBeads$Sheets", "faultAs", "(II)I"⟩, 3), (⟨"SpringBeadsModel", "readsOn", "()V"⟩, 28), (⟨"SpringBeadsModel", "byteAt", "(I)I"⟩, 28), (⟨"SpringBeadsModel", "fails", "(I)V"⟩, 28), (⟨"SpringBeadsModel", "readLine", "()V"⟩, 28), (⟨"SpringBeadsModel", "nameHere", "()I"⟩, 28), (⟨"SpringBeadsModel", "readMore", "(I)V"⟩, 28), (⟨"SpringBeadsModel", "number", "(II)I"⟩, 28)]
theorem lw_r2 : ∀ q ∈ lw_privs_2, lw_okq q := List.forall_mem_cons.mpr ⟨lw_p16, List.forall_mem_cons.mpr ⟨lw_p17, List.forall_mem_cons.mpr ⟨lw_p18, List.forall_mem_cons.mpr ⟨lw_p19, List.forall_mem_cons.mpr ⟨lw_p20, List.forall_mem_cons.mpr ⟨lw_p21, List.forall_mem_cons.mpr ⟨lw_p22, List.forall_mem_cons.mpr ⟨lw_p23, List.forall_mem_cons.mpr ⟨lw_p24, List.forall_mem_cons.mpr ⟨lw_p25, List.forall_mem_cons.mpr ⟨lw_p26, List.forall_mem_cons.mpr ⟨lw_p27, List.forall_mem_cons.mpr ⟨lw_p28, List.forall_mem_cons.mpr ⟨lw_p29, List.forall_mem_cons.mpr ⟨lw_p30, List.forall_mem_cons.mpr ⟨lw_p31, fun _ h => absurd h List.not_mem_nil⟩⟩⟩⟩⟩⟩⟩⟩⟩⟩⟩⟩⟩⟩⟩⟩
theorem lw_p32 : lw_okq (⟨"SpringBeadsModel", "lastOn", "(I)I"⟩, 28) := ⟨⟨by decide +kernel, by decide +kernel⟩, List.mem_of_getElem? (i := 699) (by decide +kernel), List.mem_of_getElem? (i := 847) (by decide +kernel), List.mem_of_getElem? (i := 848) (by decide +kernel)⟩
theorem lw_p33 : lw_okq (⟨"SpringBeadsModel", "isBead", "(I)Z"⟩, 28) := ⟨⟨by decide +kernel, by decide +kernel⟩, List.mem_of_getElem? (i := 699) (by decide +kernel), List.mem_of_getElem? (i := 855) (by decide +kernel), List.mem_of_getElem? (i := 856) (by decide +kernel)⟩
theorem lw_p34 : lw_okq (⟨"SpringBeadsModel", "stretchOn", "(II)I"⟩, 28) := ⟨⟨by decide +kernel, by decide +kernel⟩, List.mem_of_getElem? (i := 699) (by decide +kernel), List.mem_of_getElem? (i := 860) (by decide +kernel), List.mem_of_getElem? (i := 861) (by decide +kernel)⟩
theorem lw_p35 : lw_okq (⟨"SpringBeadsModel", "pullOn", "(II)I"⟩, 28) := ⟨⟨by decide +kernel, by decide +kernel⟩, List.mem_of_getElem? (i := 699) (by decide +kernel), List.mem_of_getElem? (i := 864) (by decide +kernel), List.mem_of_getElem? (i := 865) (by decide +kernel)⟩
theorem lw_p36 : lw_okq (⟨"SpringBeadsModel", "isKnock", "(I)Z"⟩, 28) := ⟨⟨by decide +kernel, by decide +kernel⟩, List.mem_of_getElem? (i := 699) (by decide +kernel), List.mem_of_getElem? (i := 874) (by decide +kernel), List.mem_of_getElem? (i := 875) (by decide +kernel)⟩
theorem lw_p37 : lw_okq (⟨"SpringBeadsModel", "puts", "(ZII)I"⟩, 28) := ⟨⟨by decide +kernel, by decide +kernel⟩, List.mem_of_getElem? (i := 699) (by decide +kernel), List.mem_of_getElem? (i := 889) (by decide +kernel), List.mem_of_getElem? (i := 890) (by decide +kernel)⟩
theorem lw_p38 : lw_okq (⟨"SpringBeadsModel", "knockOn", "(III)V"⟩, 28) := ⟨⟨by decide +kernel, by decide +kernel⟩, List.mem_of_getElem? (i := 699) (by decide +kernel), List.mem_of_getElem? (i := 910) (by decide +kernel), List.mem_of_getElem? (i := 911) (by decide +kernel)⟩
theorem lw_p39 : lw_okq (⟨"SpringBeadsModel", "adds", "(II)I"⟩, 28) := ⟨⟨by decide +kernel, by decide +kernel⟩, List.mem_of_getElem? (i := 699) (by decide +kernel), List.mem_of_getElem? (i := 921) (by decide +kernel), List.mem_of_getElem? (i := 922) (by decide +kernel)⟩
theorem lw_p40 : lw_okq (⟨"SpringBeadsModel", "tickOn", "(IZ)V"⟩, 28) := ⟨⟨by decide +kernel, by decide +kernel⟩, List.mem_of_getElem? (i := 699) (by decide +kernel), List.mem_of_getElem? (i := 938) (by decide +kernel), List.mem_of_getElem? (i := 939) (by decide +kernel)⟩
theorem lw_p41 : lw_okq (⟨"SpringBeadsModel", "movesOn", "(I)V"⟩, 28) := ⟨⟨by decide +kernel, by decide +kernel⟩, List.mem_of_getElem? (i := 699) (by decide +kernel), List.mem_of_getElem? (i := 942) (by decide +kernel), List.mem_of_getElem? (i := 943) (by decide +kernel)⟩
theorem lw_p42 : lw_okq (⟨"SpringBeadsModel", "speedsOn", "(I)V"⟩, 28) := ⟨⟨by decide +kernel, by decide +kernel⟩, List.mem_of_getElem? (i := 699) (by decide +kernel), List.mem_of_getElem? (i := 946) (by decide +kernel), List.mem_of_getElem? (i := 947) (by decide +kernel)⟩
theorem lw_p43 : lw_okq (⟨"SpringBeadsModel", "placesOn", "(I)V"⟩, 28) := ⟨⟨by decide +kernel, by decide +kernel⟩, List.mem_of_getElem? (i := 699) (by decide +kernel), List.mem_of_getElem? (i := 950) (by decide +kernel), List.mem_of_getElem? (i := 951) (by decide +kernel)⟩
theorem lw_p44 : lw_okq (⟨"SpringBeadsModel", "ticksGo", "(II)I"⟩, 28) := ⟨⟨by decide +kernel, by decide +kernel⟩, List.mem_of_getElem? (i := 699) (by decide +kernel), List.mem_of_getElem? (i := 965) (by decide +kernel), List.mem_of_getElem? (i := 966) (by decide +kernel)⟩
theorem lw_p45 : lw_okq (⟨"SpringBeadsModel", "copies", "(II)V"⟩, 28) := ⟨⟨by decide +kernel, by decide +kernel⟩, List.mem_of_getElem? (i := 699) (by decide +kernel), List.mem_of_getElem? (i := 969) (by decide +kernel), List.mem_of_getElem? (i := 970) (by decide +kernel)⟩
theorem lw_p46 : lw_okq (⟨"SpringBeadsModel", "isAsked", "(III)Z"⟩, 28) := ⟨⟨by decide +kernel, by decide +kernel⟩, List.mem_of_getElem? (i := 699) (by decide +kernel), List.mem_of_getElem? (i := 989) (by decide +kernel), List.mem_of_getElem? (i := 990) (by decide +kernel)⟩
theorem lw_p47 : lw_okq (⟨"SpringBeadsModel", "leastAt", "(IIIII)I"⟩, 28) := ⟨⟨by decide +kernel, by decide +kernel⟩, List.mem_of_getElem? (i := 699) (by decide +kernel), List.mem_of_getElem? (i := 993) (by decide +kernel), List.mem_of_getElem? (i := 994) (by decide +kernel)⟩
def lw_privs_3 : List (MethodName × Nat) := [(⟨"SpringBeadsModel", "lastOn", "(I)I"⟩, 28), (⟨"SpringBeadsModel", "isBead", "(I)Z"⟩, 28), (⟨"SpringBeadsModel", "stretchOn", "(II)I"⟩, 28), (⟨"SpringBeadsModel", "pullOn", "(II)I"⟩, 28), (⟨"SpringBeadsModel", "isKnock", "(I)Z"⟩, 28), (⟨"SpringBeadsModel", "puts", "(ZII)I"⟩, 28), (⟨"SpringBeadsModel", "knockOn", "(III)V"⟩, 28), (⟨"SpringBeadsModel", "adds", "(II)I"⟩, 28), (⟨"SpringBeadsModel", "tickOn", "(IZ)V"⟩, 28), (⟨"SpringBeadsModel", "movesOn", "(I)V"⟩, 28), (⟨"SpringBeadsModel", "speedsOn", "(I)V"⟩, 28), (⟨"SpringBeadsModel", "placesOn", "(I)V"⟩, 28), (⟨"SpringBeadsModel", "ticksGo", "(II)I"⟩, 28), (⟨"SpringBeadsModel", "copies", "(II)V"⟩, 28), (⟨"SpringBeadsModel", "isAsked", "(III)Z"⟩, 28), (⟨"SpringBeadsModel", "leastAt", "(IIIII)I"⟩, 28)]
theorem lw_r3 : ∀ q ∈ lw_privs_3, lw_okq q := List.forall_mem_cons.mpr ⟨lw_p32, List.forall_mem_cons.mpr ⟨lw_p33, List.forall_mem_cons.mpr ⟨lw_p34, List.forall_mem_cons.mpr ⟨lw_p35, List.forall_mem_cons.mpr ⟨lw_p36, List.forall_mem_cons.mpr ⟨lw_p37, List.forall_mem_cons.mpr ⟨lw_p38, List.forall_mem_cons.mpr ⟨lw_p39, List.forall_mem_cons.mpr ⟨lw_p40, List.forall_mem_cons.mpr ⟨lw_p41, List.forall_mem_cons.mpr ⟨lw_p42, List.forall_mem_cons.mpr ⟨lw_p43, List.forall_mem_cons.mpr ⟨lw_p44, List.forall_mem_cons.mpr ⟨lw_p45, List.forall_mem_cons.mpr ⟨lw_p46, List.forall_mem_cons.mpr ⟨lw_p47, fun _ h => absurd h List.not_mem_nil⟩⟩⟩⟩⟩⟩⟩⟩⟩⟩⟩⟩⟩⟩⟩⟩
theorem lw_p48 : lw_okq (⟨"SpringBeadsModel", "byMisses", "(IIII)J"⟩, 28) := ⟨⟨by decide +kernel, by decide +kernel⟩, List.mem_of_getElem? (i := 699) (by decide +kernel), List.mem_of_getElem? (i := 1026) (by decide +kernel), List.mem_of_getElem? (i := 1027) (by decide +kernel)⟩
theorem lw_p49 : lw_okq (⟨"SpringBeadsModel", "numbersAt", "(III)I"⟩, 28) := ⟨⟨by decide +kernel, by decide +kernel⟩, List.mem_of_getElem? (i := 699) (by decide +kernel), List.mem_of_getElem? (i := 1050) (by decide +kernel), List.mem_of_getElem? (i := 1051) (by decide +kernel)⟩
theorem lw_p50 : lw_okq (⟨"SpringBeadsModel", "isAsSeen", "(II)Z"⟩, 28) := ⟨⟨by decide +kernel, by decide +kernel⟩, List.mem_of_getElem? (i := 699) (by decide +kernel), List.mem_of_getElem? (i := 1054) (by decide +kernel), List.mem_of_getElem? (i := 1055) (by decide +kernel)⟩
theorem lw_p51 : lw_okq (⟨"SpringBeadsModel", "worstAt", "(II)I"⟩, 28) := ⟨⟨by decide +kernel, by decide +kernel⟩, List.mem_of_getElem? (i := 699) (by decide +kernel), List.mem_of_getElem? (i := 1066) (by decide +kernel), List.mem_of_getElem? (i := 1067) (by decide +kernel)⟩
def lw_privs_4 : List (MethodName × Nat) := [(⟨"SpringBeadsModel", "byMisses", "(IIII)J"⟩, 28), (⟨"SpringBeadsModel", "numbersAt", "(III)I"⟩, 28), (⟨"SpringBeadsModel", "isAsSeen", "(II)Z"⟩, 28), (⟨"SpringBeadsModel", "worstAt", "(II)I"⟩, 28)]
theorem lw_r4 : ∀ q ∈ lw_privs_4, lw_okq q := List.forall_mem_cons.mpr ⟨lw_p48, List.forall_mem_cons.mpr ⟨lw_p49, List.forall_mem_cons.mpr ⟨lw_p50, List.forall_mem_cons.mpr ⟨lw_p51, fun _ h => absurd h List.not_mem_nil⟩⟩⟩⟩
def lw_privs : List (MethodName × Nat) := lw_privs_1 ++ (lw_privs_2 ++ (lw_privs_3 ++ (lw_privs_4)))
def lw_tbl : List Cond := k2_sels lw_privs ++ tables_1
theorem lw_privs_ok : ∀ q ∈ lw_privs, lw_okq q := by
  show ∀ q ∈ lw_privs_1 ++ (lw_privs_2 ++ (lw_privs_3 ++ (lw_privs_4))), lw_okq q
  exact List.forall_mem_append.mpr ⟨lw_r1, List.forall_mem_append.mpr ⟨lw_r2, List.forall_mem_append.mpr ⟨lw_r3, lw_r4⟩⟩⟩
end
section
/-! ===== BEGIN words of one list among another's, by their places ===== -/
theorem goodIn_r {big : List Cond} (ws : List Cond) (ps : List Nat) (hp : ws = ps.filterMap (fun i => big[i]?)) (h : ws.all goodWord = true) : GoodIn big ws := by
  intro w hw
  have h1 := List.all_eq_true.mp h w hw
  rw [hp] at hw
  obtain ⟨i, -, hi⟩ := List.mem_filterMap.mp hw
  have hm : w ∈ big := by first | exact List.mem_of_getElem? hi | exact List.getElem?_mem hi
  exact ⟨hm, good_of_word h1⟩
theorem goodIn_app {big a b : List Cond} (ha : GoodIn big a) (hb : GoodIn big b) : GoodIn big (a ++ b) := fun w h => (List.mem_append.mp h).elim (ha w) (hb w)
theorem goodIn_ca {big a b : List Cond} {c : Cond} (ha : GoodIn big (c :: a)) (hb : GoodIn big b) : GoodIn big (c :: (a ++ b)) := fun w h => (List.mem_cons.mp h).elim (fun e => ha w (List.mem_cons.mpr (Or.inl e))) (fun h => (List.mem_append.mp h).elim (fun h => ha w (List.mem_cons.mpr (Or.inr h))) (hb w))
theorem goodIn_sub {big ws : List Cond} (hm : ∀ w ∈ ws, w ∈ big) (h : ws.all goodWord = true) : GoodIn big ws := fun w hw => ⟨hm w hw, good_of_word (List.all_eq_true.mp h w hw)⟩
/-! ===== END ===== -/

/-! ===== BEGIN new T[n][m]: the outer array a place, the inner ones among the pooled ===== -/
/-- f, but v at every address of l -/
def vr_up {α : Type} (f : Nat → α) (l : List Nat) (v : α) : Nat → α := fun a => if a ∈ l then v else f a
theorem vr_up_in {α : Type} {f : Nat → α} {l : List Nat} {v : α} {a : Nat} (h : a ∈ l) : vr_up f l v a = v := if_pos h
theorem vr_up_ne {α : Type} {f : Nat → α} {l : List Nat} {v : α} {a : Nat} (h : a ∉ l) : vr_up f l v a = f a := if_neg h
theorem vr_rows {L l : List Nat} {f : Nat → va_E} {e : va_E} (h : ∀ a, a ∈ l → a ∉ L) : va_pl L f ++ l.map (fun a => (a, e)) = va_pl (L ++ l) (vr_up f l e) := by
  unfold va_pl
  rw [List.map_append]
  congr 1
  · apply List.map_congr_left
    intro a ha
    rw [vr_up_ne (fun q => h a q ha)]
  · apply List.map_congr_left
    intro a ha
    rw [vr_up_in ha]
theorem vr_lay {X rows : va_W} {x : Nat × va_E} {pl : va_W} {D : va_G} {cl : List vw_C} {H : Heap} (hP : va_P D cl (((X ++ pl) ++ [x]) ++ rows) H) : va_P D cl ((X ++ [x]) ++ (pl ++ rows)) H := by
  rw [List.append_assoc (X ++ pl)] at hP
  have h := va_P.swap hP
  rw [← List.append_assoc X] at h
  have h2 := va_P.swap h
  rw [List.append_assoc (X ++ [x])] at h2
  exact h2
theorem vr_layD {X rows : va_W} {x : Nat × va_E} {pl : va_W} {A : Nat → Prop} (hD : va_D A (((X ++ pl) ++ [x]) ++ rows)) : va_D A ((X ++ [x]) ++ (pl ++ rows)) := by
  rw [List.append_assoc (X ++ pl)] at hD
  have h := va_D.swap hD
  rw [← List.append_assoc X] at h
  have h2 := va_D.swap h
  rw [List.append_assoc (X ++ [x])] at h2
  exact h2
theorem vr_outer (c : ClassId) (N h0 : Nat) : ∀ i : Nat, Jvm.Free.Multi.outerC c N h0 i = arrV c N (fun j => va_rf (if j < i then some (h0 + 1 + j) else none))
  | 0 => by
    show ({ cls := c, slots := Array.replicate N .null, vm := .none } : Cell) = _
    rw [arrV_new]
    refine congrArg (arrV c N) (funext fun j => ?_)
    simp [va_rf]
  | i + 1 => by
    show (Jvm.Free.Multi.outerC c N h0 i).setSlot i (.ref (h0 + 1 + i)) = _
    rw [vr_outer c N h0 i, arrV_store]
    refine congrArg (arrV c N) (funext fun j => ?_)
    by_cases e : j = i
    · subst e
      simp [updV, va_rf]
    · by_cases h : j < i
      · simp [updV, e, h, Nat.lt_succ_of_lt h]
      · simp [updV, e, h, show ¬ j < i + 1 by omega]
section VGM
variable {p : Program} {l : Launch} {e : Env} {R : Room} {s : State} {m : MethodId} {args : Array Value} {below : List Frame} {meth : Method} {c : Code} {H : Heap} {locs : List Loc} {cells slots : Nat} {Q : State → Prop}
variable {cc : ByteArray} {pc : Nat} {ls : Array Slot} {rest : List Value} {D : va_G} {cl : List vw_C} {A : Nat → Prop} {a : Nat} {tys : List (ClassId × FieldType)} {ws : va_W} {H0 : Heap}
theorem va_mna {X : va_W} {L : List Nat} {f : Nat → va_E} {cc : ByteArray} (hexec : p.tables.exec = Jvm.exec) (hb : c.code = cc) {own : String} {index : Nat} {ty : FieldType} {cy : ClassId} (hown : s.vm.findClass own = some m.cls) (hclink : (Cond.classLink own index ("[" ++ (FieldType.array ty).toString)).before args s = true) (hover : va_AOA ty s) (harr : (Cond.arrayClass ty).before args s = true) (hcy : s.vm.findClass (FieldType.array ty).toString = some cy)
    (hK : va_K D cl tys s) (hP : va_P D cl (X ++ va_pl L f) H) (hD : va_D A (X ++ va_pl L f)) (hS : va_S A H0 H locs) (hA : ∀ q, H0.size ≤ q → A q) {n k : Int32} {N' K' : Nat} {z : vp_A} (hn : ¬ n < 0) (hk : ¬ k < 0) (hN : n.toNatClampNeg = N') (hM : k.toNatClampNeg = K')
    (hb1 : N' * 4 ≤ 536870912) (hb2 : K' * componentBytes ty ≤ 536870912) (hb3 : K' ≤ 536870912) (hdf : fits ty (defaultValue ty) = true) (hdd : (defaultValue ty).isDefault = true) (hcells : cells + (1 + N') ≤ R.cells) (hslots : slots + (N' + N' * K') ≤ R.slots) (hz : ∀ c : ClassId, Jvm.Free.Multi.innerC c K' (defaultValue ty) = vp_cell c z) (hdg : decode cc pc = .ok (.multianewarray index 2, 4))
    (kk : ∀ (q : Nat) (r : Nat → Nat) (cA : ClassId) (H1 : Heap), (∀ i j : Nat, i < N' → j < N' → r i = r j → i = j) → (∀ i : Nat, i < N' → r i ∉ L) → va_K D cl (tys ++ [(cA, .array ty)]) s →
      va_P D cl ((X ++ [(q, .inl (cA, N', .inr (.inr (.inr (.inr (fun i => if i < N' then some (r i) else none))))))]) ++ va_pl (L ++ (List.range N').map r) (vr_up f ((List.range N').map r) (.inl (cy, z)))) H1 → va_D A ((X ++ [(q, .inl (cA, N', .inr (.inr (.inr (.inr (fun i => if i < N' then some (r i) else none))))))]) ++ va_pl (L ++ (List.range N').map r) (vr_up f ((List.range N').map r) (.inl (cy, z)))) → va_S A H0 H1 locs →
      W p l e R s m args below meth c H1 locs (cells + 1 + N') (slots + N' + N' * K') Q (F0 m (pc + 4) ls (.ref q :: rest))) : W p l e R s m args below meth c H locs cells slots Q (F0 m pc ls (.int k :: .int n :: rest)) := by
  subst hN
  subst hM
  intro T hT Xs
  obtain ⟨vm₁, cA, comp, -, fA, fC, hO, -, X', step⟩ := Xs.multianewarray2F hexec hown hclink (va_AOA.use hover) harr (g := F0 m pc ls (.int k :: .int n :: rest)) rfl (by rw [hb]; exact hdg) rfl hn hk hb1 hb2 hb3 hdf hdd hcells hslots
  have ec : some cy = some comp := hcy.symm.trans fC
  cases ec
  generalize hF : Jvm.Free.Multi.fill (T.setVm vm₁) cA cy n.toNatClampNeg k.toNatClampNeg (defaultValue ty) n.toNatClampNeg = F at X' step
  have hTh : (T.setVm vm₁).heap = H := hT
  obtain ⟨f1, f2, -, -⟩ := Jvm.Free.Multi.fill_facts (T.setVm vm₁) cA cy n.toNatClampNeg k.toNatClampNeg (defaultValue ty) n.toNatClampNeg
  rw [hF, hTh] at f1 f2
  have hold : ∀ x : Nat, x < H.size → F.heap[x]? = H[x]? := fun x hx => by
    have := Jvm.Free.Multi.fill_old (T.setVm vm₁) cA cy n.toNatClampNeg k.toNatClampNeg (defaultValue ty) (a := x) (by rw [hTh]; exact hx) n.toNatClampNeg
    rw [hF, hTh] at this
    exact this
  have hrow : ∀ j : Nat, j < n.toNatClampNeg → F.heap[H.size + 1 + j]? = some (vp_cell cy z) := fun j hj => by
    have := Jvm.Free.Multi.fill_inner (T.setVm vm₁) cA cy n.toNatClampNeg k.toNatClampNeg (defaultValue ty) n.toNatClampNeg j hj
    rw [hF, hTh, hz] at this
    exact this
  have hout : Jvm.Free.Multi.outerC cA n.toNatClampNeg H.size n.toNatClampNeg = vp_cell cA (n.toNatClampNeg, .inr (.inr (.inr (.inr (fun i => if i < n.toNatClampNeg then some (H.size + 1 + i) else none))))) := by
    rw [vp_cell_q]
    exact vr_outer cA n.toNatClampNeg H.size n.toNatClampNeg
  rw [hout] at f2
  have hlt : ∀ a, a ∈ L → a < H.size := fun a ha => by
    obtain ⟨k9, hk9⟩ := va_pl_get (X := X) (f := f) ha
    exact (hP k9 _ hk9).lt
  have hnl : ∀ i : Nat, i < n.toNatClampNeg → H.size + 1 + i ∉ L := fun i _ h => by
    have := hlt _ h
    omega
  have hnm : ∀ a, a ∈ (List.range n.toNatClampNeg).map (fun i => H.size + 1 + i) → a ∉ L := fun a ha h => by
    obtain ⟨i, -, rfl⟩ := List.mem_map.mp ha
    have := hlt _ h
    omega
  have hP0 : va_P D cl (X ++ va_pl L f) F.heap := hP.kept (fun k9 x hx => hold x.1 ((hP k9 x hx).lt))
  have hP1 : va_P D cl ((X ++ va_pl L f) ++ [(H.size, .inl (cA, n.toNatClampNeg, .inr (.inr (.inr (.inr (fun i => if i < n.toNatClampNeg then some (H.size + 1 + i) else none))))))]) F.heap := hP0.app (fun k9 x hx => by
    have h0 : k9 < 1 := (List.getElem?_eq_some_iff.mp hx).1
    rw [show k9 = 0 by omega] at hx
    cases hx
    exact f2)
  have hP2 : va_P D cl (((X ++ va_pl L f) ++ [(H.size, .inl (cA, n.toNatClampNeg, .inr (.inr (.inr (.inr (fun i => if i < n.toNatClampNeg then some (H.size + 1 + i) else none))))))]) ++ ((List.range n.toNatClampNeg).map (fun i => H.size + 1 + i)).map (fun a => (a, .inl (cy, z)))) F.heap := hP1.app (fun k9 x hx => by
    obtain ⟨a, ha, rfl⟩ := List.mem_map.mp (List.mem_of_getElem? hx)
    obtain ⟨i, hi, rfl⟩ := List.mem_map.mp ha
    exact hrow i (List.mem_range.mp hi))
  have hD2 : va_D A (((X ++ va_pl L f) ++ [(H.size, .inl (cA, n.toNatClampNeg, .inr (.inr (.inr (.inr (fun i => if i < n.toNatClampNeg then some (H.size + 1 + i) else none))))))]) ++ ((List.range n.toNatClampNeg).map (fun i => H.size + 1 + i)).map (fun a => (a, .inl (cy, z)))) := by
    have hD1 := hD.push (e := .inl (cA, n.toNatClampNeg, .inr (.inr (.inr (.inr (fun i => if i < n.toNatClampNeg then some (H.size + 1 + i) else none)))))) hP rfl (hA _ hS.1)
    generalize hW1 : (X ++ va_pl L f) ++ [(H.size, .inl (cA, n.toNatClampNeg, .inr (.inr (.inr (.inr (fun i => if i < n.toNatClampNeg then some (H.size + 1 + i) else none))))))] = W1 at hD1 hP1 ⊢
    have hle : ∀ (k9 : Nat) (x : Nat × va_E), W1[k9]? = some x → x.1 ≤ H.size := fun k9 x hx => by
      rw [← hW1] at hx
      by_cases hl : k9 < (X ++ va_pl L f).length
      · rw [List.getElem?_append_left hl] at hx
        exact Nat.le_of_lt ((hP k9 x hx).lt)
      · rw [List.getElem?_append_right (by omega)] at hx
        have h0 : k9 - (X ++ va_pl L f).length < 1 := (List.getElem?_eq_some_iff.mp hx).1
        rw [show k9 - (X ++ va_pl L f).length = 0 by omega] at hx
        cases hx
        exact Nat.le_refl _
    have hr : ∀ (k9 : Nat) (x : Nat × va_E), (((List.range n.toNatClampNeg).map (fun i => H.size + 1 + i)).map (fun a => ((a, .inl (cy, z)) : Nat × va_E)))[k9]? = some x → x.1 = H.size + 1 + k9 := fun k9 x hx => by
      rw [List.getElem?_map, List.getElem?_map] at hx
      by_cases h9 : k9 < n.toNatClampNeg
      · rw [List.getElem?_range h9] at hx
        cases hx
        rfl
      · have hn0 : (List.range n.toNatClampNeg)[k9]? = none := List.getElem?_eq_none (by rw [List.length_range]; omega)
        rw [hn0] at hx
        cases hx
    refine ⟨fun i j x y hi hj hxy => ?_, fun k9 x hx => ?_⟩
    · by_cases h1 : i < W1.length <;> by_cases h2 : j < W1.length
      · rw [List.getElem?_append_left h1] at hi
        rw [List.getElem?_append_left h2] at hj
        exact hD1.1 i j x y hi hj hxy
      · rw [List.getElem?_append_left h1] at hi
        rw [List.getElem?_append_right (by omega)] at hj
        have := hle _ _ hi
        have := hr _ _ hj
        omega
      · rw [List.getElem?_append_right (by omega)] at hi
        rw [List.getElem?_append_left h2] at hj
        have := hle _ _ hj
        have := hr _ _ hi
        omega
      · rw [List.getElem?_append_right (by omega)] at hi hj
        have := hr _ _ hi
        have := hr _ _ hj
        omega
    · by_cases h1 : k9 < W1.length
      · rw [List.getElem?_append_left h1] at hx
        exact hD1.2 k9 x hx
      · rw [List.getElem?_append_right (by omega)] at hx
        have := hr _ _ hx
        exact hA _ (by have := hS.1; omega)
  have hAr : ArrOfT s cA (.array ty) := fun N9 z9 => by
    obtain ⟨-, k9, hk9, cm9, hkk9⟩ := (hO 0 0 0).1
    exact ⟨(fun q hq => by cases hq), k9, hk9, cm9, hkk9⟩
  have hK2 : va_K D cl (tys ++ [(cA, .array ty)]) s := ⟨hK.1, fun k9 x hx => by
    by_cases hl : k9 < tys.length
    · rw [List.getElem?_append_left hl] at hx
      exact hK.2 k9 x hx
    · rw [List.getElem?_append_right (by omega)] at hx
      have h0 : k9 - tys.length < 1 := (List.getElem?_eq_some_iff.mp hx).1
      rw [show k9 - tys.length = 0 by omega] at hx
      cases hx
      exact ⟨hAr, fA⟩⟩
  obtain ⟨t, a1, b1⟩ := kk H.size (fun i => H.size + 1 + i) cA F.heap (fun i j _ _ h => by have h9 : H.size + 1 + i = H.size + 1 + j := h; omega) hnl hK2 (by rw [← vr_rows hnm]; exact vr_lay hP2) (by rw [← vr_rows hnm]; exact vr_layD hD2) ⟨by rw [f1]; have := hS.1; omega, fun x h1 h2 => (hold x (Nat.lt_of_lt_of_le h1 hS.1)).trans (hS.2.1 x h1 h2), hS.2.2⟩ F rfl X'
  refine ⟨t, step t ?_, b1⟩
  have e : T.heap.size = H.size := by rw [hT]
  rw [e]
  exact a1
end VGM
/-! ===== END ===== -/

/-! ===== BEGIN printed: names, fields, word lists, decode rows ===== -/
def RX0 : String := "SpringBeads$Chain"
def TX0 : u_T := fun k => match k with
  | 0 => ("SpringBeads$Chain", "beads", "I", false)
  | 1 => ("SpringBeads$Chain", "knocks", "I", false)
  | 2 => ("SpringBeads$Chain", "drag", "I", false)
  | 3 => ("SpringBeads$Chain", "tick", "I", false)
  | 4 => ("SpringBeads$Chain", "kind", "[I", true)
  | 5 => ("SpringBeads$Chain", "rest", "[I", true)
  | 6 => ("SpringBeads$Chain", "stiff", "[I", true)
  | 7 => ("SpringBeads$Chain", "mass", "[I", true)
  | 8 => ("SpringBeads$Chain", "place", "[I", true)
  | 9 => ("SpringBeads$Chain", "speed", "[I", true)
  | 10 => ("SpringBeads$Chain", "knockBead", "[I", true)
  | 11 => ("SpringBeads$Chain", "knockBy", "[I", true)
  | 12 => ("SpringBeads$Chain", "pull", "[I", true)
  | 13 => ("SpringBeads$Chain", "gone", "I", false)
  | 14 => ("SpringBeads$Chain", "stops", "I", false)
  | _ => ("SpringBeads$Chain", "stirred", "Z", false)
def tyX0 : Nat → FieldType := fun k => match k with
  | 0 => .int
  | 1 => .int
  | 2 => .int
  | 3 => .int
  | 4 => .array .int
  | 5 => .array .int
  | 6 => .array .int
  | 7 => .array .int
  | 8 => .array .int
  | 9 => .array .int
  | 10 => .array .int
  | 11 => .array .int
  | 12 => .array .int
  | 13 => .int
  | 14 => .int
  | _ => .boolean
abbrev wsX00 : List Cond := u_ws RX0 TX0 16
theorem nmX0 : ∀ a, a < 16 → ∀ b, b < 16 → a ≠ b → (TX0 a).2.1 ≠ (TX0 b).2.1 := by decide +kernel
theorem tyX0_ok : ∀ k, k < 16 → parseFieldDescriptor (TX0 k).2.2.1 = some (tyX0 k) := by decide +kernel
abbrev cX0_init : ByteArray := prog_2_method_1_code
def yX0_init : MethodName := ⟨RX0, "<init>", "()V"⟩
abbrev cX0_clear : ByteArray := prog_2_method_2_code
def yX0_clear : MethodName := ⟨RX0, "clear", "()V"⟩
abbrev cX0_becomeLike : ByteArray := prog_2_method_3_code
def yX0_becomeLike : MethodName := ⟨RX0, "becomeLike", "(LSpringBeads$Chain;)V"⟩
abbrev cX0_has : ByteArray := prog_2_method_4_code
def yX0_has : MethodName := ⟨RX0, "has", "(I)Z"⟩
abbrev cX0_rowOf : ByteArray := prog_2_method_5_code
def yX0_rowOf : MethodName := ⟨RX0, "rowOf", "(I)[I"⟩
abbrev cX0_sumOf : ByteArray := prog_2_method_6_code
def yX0_sumOf : MethodName := ⟨RX0, "sumOf", "(I)I"⟩
abbrev cX0_lastPlace : ByteArray := prog_2_method_7_code
def yX0_lastPlace : MethodName := ⟨RX0, "lastPlace", "()I"⟩
abbrev cX0_stillBits : ByteArray := prog_2_method_8_code
def yX0_stillBits : MethodName := ⟨RX0, "stillBits", "()I"⟩
abbrev cX0_addBead : ByteArray := prog_2_method_9_code
def yX0_addBead : MethodName := ⟨RX0, "addBead", "(IIII)Z"⟩
abbrev cX0_addKnock : ByteArray := prog_2_method_10_code
def yX0_addKnock : MethodName := ⟨RX0, "addKnock", "(II)Z"⟩
abbrev cX0_changePlaces : ByteArray := prog_2_method_11_code
def yX0_changePlaces : MethodName := ⟨RX0, "changePlaces", "(II)V"⟩
abbrev cX0_stretchOf : ByteArray := prog_2_method_12_code
def yX0_stretchOf : MethodName := ⟨RX0, "stretchOf", "(I)I"⟩
abbrev cX0_pullOf : ByteArray := prog_2_method_13_code
def yX0_pullOf : MethodName := ⟨RX0, "pullOf", "(I)I"⟩
abbrev cX0_knockOnce : ByteArray := prog_2_method_14_code
def yX0_knockOnce : MethodName := ⟨RX0, "knockOnce", "(II)V"⟩
abbrev cX0_knockByPlan : ByteArray := prog_2_method_15_code
def yX0_knockByPlan : MethodName := ⟨RX0, "knockByPlan", "()V"⟩
abbrev cX0_tickOnce : ByteArray := prog_2_method_16_code
def yX0_tickOnce : MethodName := ⟨RX0, "tickOnce", "()V"⟩
abbrev cX0_tickOften : ByteArray := prog_2_method_17_code
def yX0_tickOften : MethodName := ⟨RX0, "tickOften", "(I)V"⟩
abbrev cX0_move : ByteArray := prog_2_method_18_code
def yX0_move : MethodName := ⟨RX0, "move", "()V"⟩
abbrev cX0_goOn : ByteArray := prog_2_method_19_code
def yX0_goOn : MethodName := ⟨RX0, "goOn", "(II)V"⟩
abbrev cX0_slowed : ByteArray := prog_2_method_20_code
def yX0_slowed : MethodName := ⟨RX0, "slowed", "(I)I"⟩
abbrev cX0_inBounds : ByteArray := prog_2_method_21_code
def yX0_inBounds : MethodName := ⟨RX0, "inBounds", "(I)I"⟩
abbrev cX0_greatestSwing : ByteArray := prog_2_method_22_code
def yX0_greatestSwing : MethodName := ⟨RX0, "greatestSwing", "(II)I"⟩
def RX1 : String := "SpringBeads$Seen"
def TX1 : u_T := fun k => match k with
  | 0 => ("SpringBeads$Seen", "count", "I", false)
  | 1 => ("SpringBeads$Seen", "after", "[I", true)
  | 2 => ("SpringBeads$Seen", "bead", "[I", true)
  | _ => ("SpringBeads$Seen", "place", "[I", true)
def tyX1 : Nat → FieldType := fun k => match k with
  | 0 => .int
  | 1 => .array .int
  | 2 => .array .int
  | _ => .array .int
abbrev wsX10 : List Cond := u_ws RX1 TX1 4
theorem nmX1 : ∀ a, a < 4 → ∀ b, b < 4 → a ≠ b → (TX1 a).2.1 ≠ (TX1 b).2.1 := by decide +kernel
theorem tyX1_ok : ∀ k, k < 4 → parseFieldDescriptor (TX1 k).2.2.1 = some (tyX1 k) := by decide +kernel
abbrev cX1_init : ByteArray := prog_3_method_1_code
def yX1_init : MethodName := ⟨RX1, "<init>", "()V"⟩
abbrev cX1_note : ByteArray := prog_3_method_2_code
def yX1_note : MethodName := ⟨RX1, "note", "(III)Z"⟩
abbrev cX1_isSoOf : ByteArray := prog_3_method_3_code
def yX1_isSoOf : MethodName := ⟨RX1, "isSoOf", "(LSpringBeads$Chain;)Z"⟩
abbrev cX1_latestTick : ByteArray := prog_3_method_4_code
def yX1_latestTick : MethodName := ⟨RX1, "latestTick", "()I"⟩
abbrev cX1_agrees : ByteArray := prog_3_method_5_code
def yX1_agrees : MethodName := ⟨RX1, "agrees", "(LSpringBeads$Chain;I)Z"⟩
def RX2 : String := "SpringBeads$Sheets"
def TX2 : u_T := fun k => match k with
  | 0 => ("SpringBeads$Sheets", "cells", "[[I", true)
  | 1 => ("SpringBeads$Sheets", "size", "[I", true)
  | _ => ("SpringBeads$Sheets", "laneOf", "[I", true)
def tyX2 : Nat → FieldType := fun k => match k with
  | 0 => .array (.array .int)
  | 1 => .array .int
  | _ => .array .int
abbrev wsX20 : List Cond := u_ws RX2 TX2 3
theorem nmX2 : ∀ a, a < 3 → ∀ b, b < 3 → a ≠ b → (TX2 a).2.1 ≠ (TX2 b).2.1 := by decide +kernel
theorem tyX2_ok : ∀ k, k < 3 → parseFieldDescriptor (TX2 k).2.2.1 = some (tyX2 k) := by decide +kernel
abbrev cX2_init : ByteArray := prog_4_method_1_code
def yX2_init : MethodName := ⟨RX2, "<init>", "()V"⟩
abbrev cX2_isNothing : ByteArray := prog_4_method_2_code
def yX2_isNothing : MethodName := ⟨RX2, "isNothing", "(I)Z"⟩
abbrev cX2_make : ByteArray := prog_4_method_3_code
def yX2_make : MethodName := ⟨RX2, "make", "(III)V"⟩
abbrev cX2_put : ByteArray := prog_4_method_4_code
def yX2_put : MethodName := ⟨RX2, "put", "(III)V"⟩
abbrev cX2_faultAt : ByteArray := prog_4_method_5_code
def yX2_faultAt : MethodName := ⟨RX2, "faultAt", "(II)I"⟩
abbrev cX2_faultAs : ByteArray := prog_4_method_6_code
def yX2_faultAs : MethodName := ⟨RX2, "faultAs", "(II)I"⟩
abbrev cX2_faultOfPair : ByteArray := prog_4_method_7_code
def yX2_faultOfPair : MethodName := ⟨RX2, "faultOfPair", "(IIII)I"⟩
def RX3 : String := "SpringBeads$Tape"
def TX3 : u_T := fun k => match k with
  | 0 => ("SpringBeads$Tape", "bytes", "[B", true)
  | 1 => ("SpringBeads$Tape", "length", "I", false)
  | 2 => ("SpringBeads$Tape", "fault", "I", false)
  | 3 => ("SpringBeads$Tape", "faultPlace", "I", false)
  | 4 => ("SpringBeads$Tape", "token", "I", false)
  | 5 => ("SpringBeads$Tape", "from", "I", false)
  | 6 => ("SpringBeads$Tape", "behind", "I", false)
  | _ => ("SpringBeads$Tape", "dragTold", "Z", false)
def tyX3 : Nat → FieldType := fun k => match k with
  | 0 => .array .byte
  | 1 => .int
  | 2 => .int
  | 3 => .int
  | 4 => .int
  | 5 => .int
  | 6 => .int
  | _ => .boolean
abbrev wsX30 : List Cond := u_ws RX3 TX3 8
theorem nmX3 : ∀ a, a < 8 → ∀ b, b < 8 → a ≠ b → (TX3 a).2.1 ≠ (TX3 b).2.1 := by decide +kernel
theorem tyX3_ok : ∀ k, k < 8 → parseFieldDescriptor (TX3 k).2.2.1 = some (tyX3 k) := by decide +kernel
abbrev cX3_init : ByteArray := prog_5_method_1_code
def yX3_init : MethodName := ⟨RX3, "<init>", "()V"⟩
abbrev cX3_put : ByteArray := prog_5_method_2_code
def yX3_put : MethodName := ⟨RX3, "put", "(I)Z"⟩
abbrev cX3_tellInto : ByteArray := prog_5_method_3_code
def yX3_tellInto : MethodName := ⟨RX3, "tellInto", "(LSpringBeads$Chain;)I"⟩
abbrev cX3_blame : ByteArray := prog_5_method_4_code
def yX3_blame : MethodName := ⟨RX3, "blame", "(I)V"⟩
abbrev cX3_takeLine : ByteArray := prog_5_method_5_code
def yX3_takeLine : MethodName := ⟨RX3, "takeLine", "(LSpringBeads$Chain;)V"⟩
abbrev cX3_takeBead : ByteArray := prog_5_method_6_code
def yX3_takeBead : MethodName := ⟨RX3, "takeBead", "(LSpringBeads$Chain;I)V"⟩
abbrev cX3_takeDrag : ByteArray := prog_5_method_7_code
def yX3_takeDrag : MethodName := ⟨RX3, "takeDrag", "(LSpringBeads$Chain;)V"⟩
abbrev cX3_takeKnock : ByteArray := prog_5_method_8_code
def yX3_takeKnock : MethodName := ⟨RX3, "takeKnock", "(LSpringBeads$Chain;Z)V"⟩
abbrev cX3_takeNumber : ByteArray := prog_5_method_9_code
def yX3_takeNumber : MethodName := ⟨RX3, "takeNumber", "(II)I"⟩
abbrev cX3_takeSemicolon : ByteArray := prog_5_method_10_code
def yX3_takeSemicolon : MethodName := ⟨RX3, "takeSemicolon", "()V"⟩
abbrev cX3_readToken : ByteArray := prog_5_method_11_code
def yX3_readToken : MethodName := ⟨RX3, "readToken", "()V"⟩
abbrev cX3_runOf : ByteArray := prog_5_method_12_code
def yX3_runOf : MethodName := ⟨RX3, "runOf", "(CC)I"⟩
abbrev cX3_numberRead : ByteArray := prog_5_method_13_code
def yX3_numberRead : MethodName := ⟨RX3, "numberRead", "()I"⟩
abbrev cX3_wordRead : ByteArray := prog_5_method_14_code
def yX3_wordRead : MethodName := ⟨RX3, "wordRead", "()I"⟩
abbrev cX3_wordOf : ByteArray := prog_5_method_15_code
def yX3_wordOf : MethodName := ⟨RX3, "wordOf", "(I)Ljava/lang/String;"⟩
abbrev cX3_isSpelt : ByteArray := prog_5_method_16_code
def yX3_isSpelt : MethodName := ⟨RX3, "isSpelt", "(Ljava/lang/String;)Z"⟩
def RX4 : String := "SpringBeads"
def TX4 : u_T := fun k => match k with
  | 0 => ("SpringBeads", "now", "LSpringBeads$Chain;", true)
  | 1 => ("SpringBeads", "trial", "LSpringBeads$Chain;", true)
  | 2 => ("SpringBeads", "firstImage", "LSpringBeads$Chain;", true)
  | 3 => ("SpringBeads", "secondImage", "LSpringBeads$Chain;", true)
  | 4 => ("SpringBeads", "kept", "[Z", true)
  | 5 => ("SpringBeads", "tape", "LSpringBeads$Tape;", true)
  | 6 => ("SpringBeads", "seen", "LSpringBeads$Seen;", true)
  | 7 => ("SpringBeads", "sheets", "LSpringBeads$Sheets;", true)
  | 8 => ("SpringBeads", "traces", "[[I", true)
  | _ => ("SpringBeads", "torn", "I", false)
def tyX4 : Nat → FieldType := fun k => match k with
  | 0 => .object "SpringBeads$Chain"
  | 1 => .object "SpringBeads$Chain"
  | 2 => .object "SpringBeads$Chain"
  | 3 => .object "SpringBeads$Chain"
  | 4 => .array .boolean
  | 5 => .object "SpringBeads$Tape"
  | 6 => .object "SpringBeads$Seen"
  | 7 => .object "SpringBeads$Sheets"
  | 8 => .array (.array .int)
  | _ => .int
abbrev wsX40 : List Cond := u_ws RX4 TX4 10
theorem nmX4 : ∀ a, a < 10 → ∀ b, b < 10 → a ≠ b → (TX4 a).2.1 ≠ (TX4 b).2.1 := by decide +kernel
theorem tyX4_ok : ∀ k, k < 10 → parseFieldDescriptor (TX4 k).2.2.1 = some (tyX4 k) := by decide +kernel
abbrev cX4_init : ByteArray := prog_1_method_1_code
def yX4_init : MethodName := ⟨RX4, "<init>", "()V"⟩
abbrev cX4_feed : ByteArray := prog_1_method_2_code
def yX4_feed : MethodName := ⟨RX4, "feed", "(I)I"⟩
abbrev cX4_end : ByteArray := prog_1_method_3_code
def yX4_end : MethodName := ⟨RX4, "end", "(I)I"⟩
abbrev cX4_text : ByteArray := prog_1_method_4_code
def yX4_text : MethodName := ⟨RX4, "text", "()I"⟩
abbrev cX4_fault : ByteArray := prog_1_method_5_code
def yX4_fault : MethodName := ⟨RX4, "fault", "()I"⟩
abbrev cX4_rule : ByteArray := prog_1_method_6_code
def yX4_rule : MethodName := ⟨RX4, "rule", "(I)I"⟩
abbrev cX4_bead : ByteArray := prog_1_method_7_code
def yX4_bead : MethodName := ⟨RX4, "bead", "(II)I"⟩
abbrev cX4_knock : ByteArray := prog_1_method_8_code
def yX4_knock : MethodName := ⟨RX4, "knock", "(II)I"⟩
abbrev cX4_alter : ByteArray := prog_1_method_9_code
def yX4_alter : MethodName := ⟨RX4, "alter", "(III)I"⟩
abbrev cX4_drag : ByteArray := prog_1_method_10_code
def yX4_drag : MethodName := ⟨RX4, "drag", "(I)I"⟩
abbrev cX4_bind : ByteArray := prog_1_method_11_code
def yX4_bind : MethodName := ⟨RX4, "bind", "(IIII)I"⟩
abbrev cX4_cut : ByteArray := prog_1_method_12_code
def yX4_cut : MethodName := ⟨RX4, "cut", "(I)I"⟩
abbrev cX4_hit : ByteArray := prog_1_method_13_code
def yX4_hit : MethodName := ⟨RX4, "hit", "(II)I"⟩
abbrev cX4_add : ByteArray := prog_1_method_14_code
def yX4_add : MethodName := ⟨RX4, "add", "(II)I"⟩
abbrev cX4_drop : ByteArray := prog_1_method_15_code
def yX4_drop : MethodName := ⟨RX4, "drop", "(I)I"⟩
abbrev cX4_calm : ByteArray := prog_1_method_16_code
def yX4_calm : MethodName := ⟨RX4, "calm", "()I"⟩
abbrev cX4_ticks : ByteArray := prog_1_method_17_code
def yX4_ticks : MethodName := ⟨RX4, "ticks", "(I)I"⟩
abbrev cX4_runs : ByteArray := prog_1_method_18_code
def yX4_runs : MethodName := ⟨RX4, "runs", "(II)I"⟩
abbrev cX4_ahead : ByteArray := prog_1_method_19_code
def yX4_ahead : MethodName := ⟨RX4, "ahead", "(III)I"⟩
abbrev cX4_when : ByteArray := prog_1_method_20_code
def yX4_when : MethodName := ⟨RX4, "when", "(II)I"⟩
abbrev cX4_rests : ByteArray := prog_1_method_21_code
def yX4_rests : MethodName := ⟨RX4, "rests", "()I"⟩
abbrev cX4_stiff : ByteArray := prog_1_method_22_code
def yX4_stiff : MethodName := ⟨RX4, "stiff", "(III)I"⟩
abbrev cX4_rest : ByteArray := prog_1_method_23_code
def yX4_rest : MethodName := ⟨RX4, "rest", "(III)I"⟩
abbrev cX4_kind : ByteArray := prog_1_method_24_code
def yX4_kind : MethodName := ⟨RX4, "kind", "(III)I"⟩
abbrev cX4_mass : ByteArray := prog_1_method_25_code
def yX4_mass : MethodName := ⟨RX4, "mass", "(III)I"⟩
abbrev cX4_swap : ByteArray := prog_1_method_26_code
def yX4_swap : MethodName := ⟨RX4, "swap", "(II)I"⟩
abbrev cX4_miss : ByteArray := prog_1_method_27_code
def yX4_miss : MethodName := ⟨RX4, "miss", "(II)I"⟩
abbrev cX4_swingAsItIs : ByteArray := prog_1_method_28_code
def yX4_swingAsItIs : MethodName := ⟨RX4, "swingAsItIs", "(I)I"⟩
abbrev cX4_steadiest : ByteArray := prog_1_method_29_code
def yX4_steadiest : MethodName := ⟨RX4, "steadiest", "(IIII)I"⟩
abbrev cX4_tryWith : ByteArray := prog_1_method_30_code
def yX4_tryWith : MethodName := ⟨RX4, "tryWith", "(III)V"⟩
abbrev cX4_luck : ByteArray := prog_1_method_31_code
def yX4_luck : MethodName := ⟨RX4, "luck", "(IIII)J"⟩
abbrev cX4_mean : ByteArray := prog_1_method_32_code
def yX4_mean : MethodName := ⟨RX4, "mean", "(III)J"⟩
abbrev cX4_runMissing : ByteArray := prog_1_method_33_code
def yX4_runMissing : MethodName := ⟨RX4, "runMissing", "(II)V"⟩
abbrev cX4_weightOf : ByteArray := prog_1_method_34_code
def yX4_weightOf : MethodName := ⟨RX4, "weightOf", "(III)J"⟩
abbrev cX4_power : ByteArray := prog_1_method_35_code
def yX4_power : MethodName := ⟨RX4, "power", "(II)J"⟩
abbrev cX4_partOfFraction : ByteArray := prog_1_method_36_code
def yX4_partOfFraction : MethodName := ⟨RX4, "partOfFraction", "(JJI)J"⟩
abbrev cX4_commonDivisor : ByteArray := prog_1_method_37_code
def yX4_commonDivisor : MethodName := ⟨RX4, "commonDivisor", "(JJ)J"⟩
abbrev cX4_see : ByteArray := prog_1_method_38_code
def yX4_see : MethodName := ⟨RX4, "see", "(III)I"⟩
abbrev cX4_forget : ByteArray := prog_1_method_39_code
def yX4_forget : MethodName := ⟨RX4, "forget", "(I)I"⟩
abbrev cX4_kinds : ByteArray := prog_1_method_40_code
def yX4_kinds : MethodName := ⟨RX4, "kinds", "(I)I"⟩
abbrev cX4_stiffs : ByteArray := prog_1_method_41_code
def yX4_stiffs : MethodName := ⟨RX4, "stiffs", "(I)I"⟩
abbrev cX4_ask : ByteArray := prog_1_method_42_code
def yX4_ask : MethodName := ⟨RX4, "ask", "(II)I"⟩
abbrev cX4_asSeenBits : ByteArray := prog_1_method_43_code
def yX4_asSeenBits : MethodName := ⟨RX4, "asSeenBits", "(II)I"⟩
abbrev cX4_traceStiffs : ByteArray := prog_1_method_44_code
def yX4_traceStiffs : MethodName := ⟨RX4, "traceStiffs", "(II)V"⟩
abbrev cX4_mostAlike : ByteArray := prog_1_method_45_code
def yX4_mostAlike : MethodName := ⟨RX4, "mostAlike", "(II)I"⟩
abbrev cX4_drift : ByteArray := prog_1_method_46_code
def yX4_drift : MethodName := ⟨RX4, "drift", "(III)I"⟩
abbrev cX4_keep : ByteArray := prog_1_method_47_code
def yX4_keep : MethodName := ⟨RX4, "keep", "(I)I"⟩
abbrev cX4_back : ByteArray := prog_1_method_48_code
def yX4_back : MethodName := ⟨RX4, "back", "(I)I"⟩
abbrev cX4_imageOf : ByteArray := prog_1_method_49_code
def yX4_imageOf : MethodName := ⟨RX4, "imageOf", "(I)LSpringBeads$Chain;"⟩
abbrev cX4_sheet : ByteArray := prog_1_method_50_code
def yX4_sheet : MethodName := ⟨RX4, "sheet", "(III)I"⟩
abbrev cX4_lay : ByteArray := prog_1_method_51_code
def yX4_lay : MethodName := ⟨RX4, "lay", "(III)I"⟩
abbrev cX4_read : ByteArray := prog_1_method_52_code
def yX4_read : MethodName := ⟨RX4, "read", "(IIII)I"⟩
abbrev cX4_torn : ByteArray := prog_1_method_53_code
def yX4_torn : MethodName := ⟨RX4, "torn", "()I"⟩
abbrev cX4_count : ByteArray := prog_1_method_54_code
def yX4_count : MethodName := ⟨RX4, "count", "(I)I"⟩
abbrev cX4_within : ByteArray := prog_1_method_55_code
def yX4_within : MethodName := ⟨RX4, "within", "(III)Z"⟩
def RX5 : String := "SpringBeadsModel"
def TX5 : u_T := fun k => match k with
  | 0 => ("SpringBeadsModel", "state", "[I", true)
  | 1 => ("SpringBeadsModel", "readPage", "[I", true)
  | 2 => ("SpringBeadsModel", "isDragTold", "Z", false)
  | 3 => ("SpringBeadsModel", "tape", "[I", true)
  | 4 => ("SpringBeadsModel", "taped", "I", false)
  | 5 => ("SpringBeadsModel", "fault", "I", false)
  | 6 => ("SpringBeadsModel", "broken", "I", false)
  | 7 => ("SpringBeadsModel", "brokenAt", "I", false)
  | 8 => ("SpringBeadsModel", "spot", "I", false)
  | 9 => ("SpringBeadsModel", "here", "I", false)
  | 10 => ("SpringBeadsModel", "token", "I", false)
  | 11 => ("SpringBeadsModel", "value", "I", false)
  | 12 => ("SpringBeadsModel", "ends", "[I", true)
  | 13 => ("SpringBeadsModel", "letters", "[I", true)
  | 14 => ("SpringBeadsModel", "gone", "I", false)
  | 15 => ("SpringBeadsModel", "stopped", "I", false)
  | 16 => ("SpringBeadsModel", "isChanged", "Z", false)
  | 17 => ("SpringBeadsModel", "speedWas", "[I", true)
  | 18 => ("SpringBeadsModel", "widest", "I", false)
  | 19 => ("SpringBeadsModel", "lost", "I", false)
  | 20 => ("SpringBeadsModel", "seen", "[I", true)
  | 21 => ("SpringBeadsModel", "seenMany", "I", false)
  | 22 => ("SpringBeadsModel", "placeBy", "[I", true)
  | 23 => ("SpringBeadsModel", "isKept", "[Z", true)
  | 24 => ("SpringBeadsModel", "lanes", "[I", true)
  | 25 => ("SpringBeadsModel", "lengths", "[I", true)
  | 26 => ("SpringBeadsModel", "cells", "[I", true)
  | _ => ("SpringBeadsModel", "torn", "I", false)
def tyX5 : Nat → FieldType := fun k => match k with
  | 0 => .array .int
  | 1 => .array .int
  | 2 => .boolean
  | 3 => .array .int
  | 4 => .int
  | 5 => .int
  | 6 => .int
  | 7 => .int
  | 8 => .int
  | 9 => .int
  | 10 => .int
  | 11 => .int
  | 12 => .array .int
  | 13 => .array .int
  | 14 => .int
  | 15 => .int
  | 16 => .boolean
  | 17 => .array .int
  | 18 => .int
  | 19 => .int
  | 20 => .array .int
  | 21 => .int
  | 22 => .array .int
  | 23 => .array .boolean
  | 24 => .array .int
  | 25 => .array .int
  | 26 => .array .int
  | _ => .int
abbrev wsX50 : List Cond := u_ws RX5 TX5 28
theorem nmX5 : ∀ a, a < 28 → ∀ b, b < 28 → a ≠ b → (TX5 a).2.1 ≠ (TX5 b).2.1 := by decide +kernel
theorem tyX5_ok : ∀ k, k < 28 → parseFieldDescriptor (TX5 k).2.2.1 = some (tyX5 k) := by decide +kernel
abbrev cX5_init : ByteArray := prog_7_method_1_code
def yX5_init : MethodName := ⟨RX5, "<init>", "()V"⟩
abbrev cX5_in : ByteArray := prog_7_method_3_code
def yX5_in : MethodName := ⟨RX5, "in", "(JJJ)Z"⟩
abbrev cX5_amount : ByteArray := prog_7_method_4_code
def yX5_amount : MethodName := ⟨RX5, "amount", "(I)I"⟩
abbrev cX5_feed : ByteArray := prog_7_method_5_code
def yX5_feed : MethodName := ⟨RX5, "feed", "(I)I"⟩
abbrev cX5_end : ByteArray := prog_7_method_6_code
def yX5_end : MethodName := ⟨RX5, "end", "(I)I"⟩
abbrev cX5_byteAt : ByteArray := prog_7_method_7_code
def yX5_byteAt : MethodName := ⟨RX5, "byteAt", "(I)I"⟩
abbrev cX5_fails : ByteArray := prog_7_method_8_code
def yX5_fails : MethodName := ⟨RX5, "fails", "(I)V"⟩
abbrev cX5_nameHere : ByteArray := prog_7_method_9_code
def yX5_nameHere : MethodName := ⟨RX5, "nameHere", "()I"⟩
abbrev cX5_readsOn : ByteArray := prog_7_method_10_code
def yX5_readsOn : MethodName := ⟨RX5, "readsOn", "()V"⟩
abbrev cX5_number : ByteArray := prog_7_method_11_code
def yX5_number : MethodName := ⟨RX5, "number", "(II)I"⟩
abbrev cX5_readMore : ByteArray := prog_7_method_12_code
def yX5_readMore : MethodName := ⟨RX5, "readMore", "(I)V"⟩
abbrev cX5_readLine : ByteArray := prog_7_method_13_code
def yX5_readLine : MethodName := ⟨RX5, "readLine", "()V"⟩
abbrev cX5_text : ByteArray := prog_7_method_14_code
def yX5_text : MethodName := ⟨RX5, "text", "()I"⟩
abbrev cX5_fault : ByteArray := prog_7_method_15_code
def yX5_fault : MethodName := ⟨RX5, "fault", "()I"⟩
abbrev cX5_isBead : ByteArray := prog_7_method_16_code
def yX5_isBead : MethodName := ⟨RX5, "isBead", "(I)Z"⟩
abbrev cX5_isKnock : ByteArray := prog_7_method_17_code
def yX5_isKnock : MethodName := ⟨RX5, "isKnock", "(I)Z"⟩
abbrev cX5_isLong : ByteArray := prog_7_method_18_code
def yX5_isLong : MethodName := ⟨RX5, "isLong", "(I)Z"⟩
abbrev cX5_stretchOn : ByteArray := prog_7_method_19_code
def yX5_stretchOn : MethodName := ⟨RX5, "stretchOn", "(II)I"⟩
abbrev cX5_pullOn : ByteArray := prog_7_method_20_code
def yX5_pullOn : MethodName := ⟨RX5, "pullOn", "(II)I"⟩
abbrev cX5_speedOf : ByteArray := prog_7_method_21_code
def yX5_speedOf : MethodName := ⟨RX5, "speedOf", "(I)I"⟩
abbrev cX5_knockOn : ByteArray := prog_7_method_22_code
def yX5_knockOn : MethodName := ⟨RX5, "knockOn", "(III)V"⟩
abbrev cX5_speedsOn : ByteArray := prog_7_method_23_code
def yX5_speedsOn : MethodName := ⟨RX5, "speedsOn", "(I)V"⟩
abbrev cX5_placesOn : ByteArray := prog_7_method_24_code
def yX5_placesOn : MethodName := ⟨RX5, "placesOn", "(I)V"⟩
abbrev cX5_lastOn : ByteArray := prog_7_method_25_code
def yX5_lastOn : MethodName := ⟨RX5, "lastOn", "(I)I"⟩
abbrev cX5_movesOn : ByteArray := prog_7_method_26_code
def yX5_movesOn : MethodName := ⟨RX5, "movesOn", "(I)V"⟩
abbrev cX5_tickOn : ByteArray := prog_7_method_27_code
def yX5_tickOn : MethodName := ⟨RX5, "tickOn", "(IZ)V"⟩
abbrev cX5_rule : ByteArray := prog_7_method_28_code
def yX5_rule : MethodName := ⟨RX5, "rule", "(I)I"⟩
abbrev cX5_bead : ByteArray := prog_7_method_29_code
def yX5_bead : MethodName := ⟨RX5, "bead", "(II)I"⟩
abbrev cX5_knock : ByteArray := prog_7_method_30_code
def yX5_knock : MethodName := ⟨RX5, "knock", "(II)I"⟩
abbrev cX5_puts : ByteArray := prog_7_method_31_code
def yX5_puts : MethodName := ⟨RX5, "puts", "(ZII)I"⟩
abbrev cX5_isGood : ByteArray := prog_7_method_32_code
def yX5_isGood : MethodName := ⟨RX5, "isGood", "(II)Z"⟩
abbrev cX5_alter : ByteArray := prog_7_method_33_code
def yX5_alter : MethodName := ⟨RX5, "alter", "(III)I"⟩
abbrev cX5_drag : ByteArray := prog_7_method_34_code
def yX5_drag : MethodName := ⟨RX5, "drag", "(I)I"⟩
abbrev cX5_bind : ByteArray := prog_7_method_35_code
def yX5_bind : MethodName := ⟨RX5, "bind", "(IIII)I"⟩
abbrev cX5_cut : ByteArray := prog_7_method_36_code
def yX5_cut : MethodName := ⟨RX5, "cut", "(I)I"⟩
abbrev cX5_hit : ByteArray := prog_7_method_37_code
def yX5_hit : MethodName := ⟨RX5, "hit", "(II)I"⟩
abbrev cX5_adds : ByteArray := prog_7_method_38_code
def yX5_adds : MethodName := ⟨RX5, "adds", "(II)I"⟩
abbrev cX5_add : ByteArray := prog_7_method_39_code
def yX5_add : MethodName := ⟨RX5, "add", "(II)I"⟩
abbrev cX5_drop : ByteArray := prog_7_method_40_code
def yX5_drop : MethodName := ⟨RX5, "drop", "(I)I"⟩
abbrev cX5_calm : ByteArray := prog_7_method_41_code
def yX5_calm : MethodName := ⟨RX5, "calm", "()I"⟩
abbrev cX5_ticks : ByteArray := prog_7_method_42_code
def yX5_ticks : MethodName := ⟨RX5, "ticks", "(I)I"⟩
abbrev cX5_copies : ByteArray := prog_7_method_43_code
def yX5_copies : MethodName := ⟨RX5, "copies", "(II)V"⟩
abbrev cX5_ticksGo : ByteArray := prog_7_method_44_code
def yX5_ticksGo : MethodName := ⟨RX5, "ticksGo", "(II)I"⟩
abbrev cX5_runs : ByteArray := prog_7_method_45_code
def yX5_runs : MethodName := ⟨RX5, "runs", "(II)I"⟩
abbrev cX5_ahead : ByteArray := prog_7_method_46_code
def yX5_ahead : MethodName := ⟨RX5, "ahead", "(III)I"⟩
abbrev cX5_when : ByteArray := prog_7_method_47_code
def yX5_when : MethodName := ⟨RX5, "when", "(II)I"⟩
abbrev cX5_rests : ByteArray := prog_7_method_48_code
def yX5_rests : MethodName := ⟨RX5, "rests", "()I"⟩
abbrev cX5_leastAt : ByteArray := prog_7_method_49_code
def yX5_leastAt : MethodName := ⟨RX5, "leastAt", "(IIIII)I"⟩
abbrev cX5_isAsked : ByteArray := prog_7_method_50_code
def yX5_isAsked : MethodName := ⟨RX5, "isAsked", "(III)Z"⟩
abbrev cX5_stiff : ByteArray := prog_7_method_51_code
def yX5_stiff : MethodName := ⟨RX5, "stiff", "(III)I"⟩
abbrev cX5_rest : ByteArray := prog_7_method_52_code
def yX5_rest : MethodName := ⟨RX5, "rest", "(III)I"⟩
abbrev cX5_kind : ByteArray := prog_7_method_53_code
def yX5_kind : MethodName := ⟨RX5, "kind", "(III)I"⟩
abbrev cX5_mass : ByteArray := prog_7_method_54_code
def yX5_mass : MethodName := ⟨RX5, "mass", "(III)I"⟩
abbrev cX5_swap : ByteArray := prog_7_method_55_code
def yX5_swap : MethodName := ⟨RX5, "swap", "(II)I"⟩
abbrev cX5_miss : ByteArray := prog_7_method_56_code
def yX5_miss : MethodName := ⟨RX5, "miss", "(II)I"⟩
abbrev cX5_lowest : ByteArray := prog_7_method_57_code
def yX5_lowest : MethodName := ⟨RX5, "lowest", "(JJI)J"⟩
abbrev cX5_byMisses : ByteArray := prog_7_method_58_code
def yX5_byMisses : MethodName := ⟨RX5, "byMisses", "(IIII)J"⟩
abbrev cX5_luck : ByteArray := prog_7_method_59_code
def yX5_luck : MethodName := ⟨RX5, "luck", "(IIII)J"⟩
abbrev cX5_mean : ByteArray := prog_7_method_60_code
def yX5_mean : MethodName := ⟨RX5, "mean", "(III)J"⟩
abbrev cX5_see : ByteArray := prog_7_method_61_code
def yX5_see : MethodName := ⟨RX5, "see", "(III)I"⟩
abbrev cX5_forget : ByteArray := prog_7_method_62_code
def yX5_forget : MethodName := ⟨RX5, "forget", "(I)I"⟩
abbrev cX5_isAsSeen : ByteArray := prog_7_method_63_code
def yX5_isAsSeen : MethodName := ⟨RX5, "isAsSeen", "(II)Z"⟩
abbrev cX5_numbersAt : ByteArray := prog_7_method_64_code
def yX5_numbersAt : MethodName := ⟨RX5, "numbersAt", "(III)I"⟩
abbrev cX5_kinds : ByteArray := prog_7_method_65_code
def yX5_kinds : MethodName := ⟨RX5, "kinds", "(I)I"⟩
abbrev cX5_stiffs : ByteArray := prog_7_method_66_code
def yX5_stiffs : MethodName := ⟨RX5, "stiffs", "(I)I"⟩
abbrev cX5_worstAt : ByteArray := prog_7_method_67_code
def yX5_worstAt : MethodName := ⟨RX5, "worstAt", "(II)I"⟩
abbrev cX5_ask : ByteArray := prog_7_method_68_code
def yX5_ask : MethodName := ⟨RX5, "ask", "(II)I"⟩
abbrev cX5_drift : ByteArray := prog_7_method_69_code
def yX5_drift : MethodName := ⟨RX5, "drift", "(III)I"⟩
abbrev cX5_keep : ByteArray := prog_7_method_70_code
def yX5_keep : MethodName := ⟨RX5, "keep", "(I)I"⟩
abbrev cX5_back : ByteArray := prog_7_method_71_code
def yX5_back : MethodName := ⟨RX5, "back", "(I)I"⟩
abbrev cX5_sheet : ByteArray := prog_7_method_72_code
def yX5_sheet : MethodName := ⟨RX5, "sheet", "(III)I"⟩
abbrev cX5_lay : ByteArray := prog_7_method_73_code
def yX5_lay : MethodName := ⟨RX5, "lay", "(III)I"⟩
abbrev cX5_read : ByteArray := prog_7_method_74_code
def yX5_read : MethodName := ⟨RX5, "read", "(IIII)I"⟩
abbrev cX5_torn : ByteArray := prog_7_method_75_code
def yX5_torn : MethodName := ⟨RX5, "torn", "()I"⟩
abbrev cX5_count : ByteArray := prog_7_method_76_code
def yX5_count : MethodName := ⟨RX5, "count", "(I)I"⟩
def RJ6 : String := "java/lang/Integer"
def TJ6 : u_T := fun k => match k with
  | _ => ("", "", "", false)
def tyJ6 : Nat → FieldType := fun k => match k with
  | _ => .int
abbrev wsJ60 : List Cond := u_ws RJ6 TJ6 0
theorem nmJ6 : ∀ a, a < 0 → ∀ b, b < 0 → a ≠ b → (TJ6 a).2.1 ≠ (TJ6 b).2.1 := by decide +kernel
theorem tyJ6_ok : ∀ k, k < 0 → parseFieldDescriptor (TJ6 k).2.2.1 = some (tyJ6 k) := by decide +kernel
abbrev cJ6_compare_7cf53 : ByteArray := prog_8_method_40_code
def yJ6_compare_7cf53 : MethodName := ⟨RJ6, "compare", "(II)I"⟩
abbrev cJ6_bitCount_0f7a4 : ByteArray := prog_8_method_49_code
def yJ6_bitCount_0f7a4 : MethodName := ⟨RJ6, "bitCount", "(I)I"⟩
def RJ9 : String := "java/lang/Math"
def TJ9 : u_T := fun k => match k with
  | _ => ("", "", "", false)
def tyJ9 : Nat → FieldType := fun k => match k with
  | _ => .int
abbrev wsJ90 : List Cond := u_ws RJ9 TJ9 0
theorem nmJ9 : ∀ a, a < 0 → ∀ b, b < 0 → a ≠ b → (TJ9 a).2.1 ≠ (TJ9 b).2.1 := by decide +kernel
theorem tyJ9_ok : ∀ k, k < 0 → parseFieldDescriptor (TJ9 k).2.2.1 = some (tyJ9 k) := by decide +kernel
abbrev cJ9_abs_0f7a4 : ByteArray := prog_9_method_59_code
def yJ9_abs_0f7a4 : MethodName := ⟨RJ9, "abs", "(I)I"⟩
abbrev cJ9_max_7cf53 : ByteArray := prog_9_method_65_code
def yJ9_max_7cf53 : MethodName := ⟨RJ9, "max", "(II)I"⟩
abbrev cJ9_min_7cf53 : ByteArray := prog_9_method_69_code
def yJ9_min_7cf53 : MethodName := ⟨RJ9, "min", "(II)I"⟩
def RJ0 : String := "java/lang/String"
def TJ0 : u_T := fun k => match k with
  | _ => ("", "", "", false)
def tyJ0 : Nat → FieldType := fun k => match k with
  | _ => .int
abbrev wsJ00 : List Cond := u_ws RJ0 TJ0 0
theorem nmJ0 : ∀ a, a < 0 → ∀ b, b < 0 → a ≠ b → (TJ0 a).2.1 ≠ (TJ0 b).2.1 := by decide +kernel
theorem tyJ0_ok : ∀ k, k < 0 → parseFieldDescriptor (TJ0 k).2.2.1 = some (tyJ0 k) := by decide +kernel
abbrev cJ0_length_8abf5 : ByteArray := prog_10_method_54_code
def yJ0_length_8abf5 : MethodName := ⟨RJ0, "length", "()I"⟩
abbrev cJ0_charAt_5068e : ByteArray := prog_10_method_56_code
def yJ0_charAt_5068e : MethodName := ⟨RJ0, "charAt", "(I)C"⟩
abbrev cJ0_coder_7d493 : ByteArray := prog_10_method_152_code
def yJ0_coder_7d493 : MethodName := ⟨RJ0, "coder", "()B"⟩
abbrev cJ0_isLatin1_aae02 : ByteArray := prog_10_method_154_code
def yJ0_isLatin1_aae02 : MethodName := ⟨RJ0, "isLatin1", "()Z"⟩
abbrev cJ0_checkIndex_df160 : ByteArray := prog_10_method_155_code
def yJ0_checkIndex_df160 : MethodName := ⟨RJ0, "checkIndex", "(II)V"⟩
def RJ1 : String := "java/lang/StringLatin1"
def TJ1 : u_T := fun k => match k with
  | _ => ("", "", "", false)
def tyJ1 : Nat → FieldType := fun k => match k with
  | _ => .int
abbrev wsJ10 : List Cond := u_ws RJ1 TJ1 0
theorem nmJ1 : ∀ a, a < 0 → ∀ b, b < 0 → a ≠ b → (TJ1 a).2.1 ≠ (TJ1 b).2.1 := by decide +kernel
theorem tyJ1_ok : ∀ k, k < 0 → parseFieldDescriptor (TJ1 k).2.2.1 = some (tyJ1 k) := by decide +kernel
abbrev cJ1_charAt_3b067 : ByteArray := prog_11_method_2_code
def yJ1_charAt_3b067 : MethodName := ⟨RJ1, "charAt", "([BI)C"⟩
def RJ2 : String := "java/lang/StringUTF16"
def TJ2 : u_T := fun k => match k with
  | _ => ("", "", "", false)
def tyJ2 : Nat → FieldType := fun k => match k with
  | _ => .int
abbrev wsJ20 : List Cond := u_ws RJ2 TJ2 0
theorem nmJ2 : ∀ a, a < 0 → ∀ b, b < 0 → a ≠ b → (TJ2 a).2.1 ≠ (TJ2 b).2.1 := by decide +kernel
theorem tyJ2_ok : ∀ k, k < 0 → parseFieldDescriptor (TJ2 k).2.2.1 = some (tyJ2 k) := by decide +kernel
abbrev cJ2_getChar_3b067 : ByteArray := prog_12_method_5_code
def yJ2_getChar_3b067 : MethodName := ⟨RJ2, "getChar", "([BI)C"⟩
abbrev cJ2_length_9d52b : ByteArray := prog_12_method_6_code
def yJ2_length_9d52b : MethodName := ⟨RJ2, "length", "([B)I"⟩
abbrev cJ2_charAt_3b067 : ByteArray := prog_12_method_83_code
def yJ2_charAt_3b067 : MethodName := ⟨RJ2, "charAt", "([BI)C"⟩
abbrev cJ2_checkIndex_2214a : ByteArray := prog_12_method_91_code
def yJ2_checkIndex_2214a : MethodName := ⟨RJ2, "checkIndex", "(I[B)V"⟩
def RJ3 : String := "jdk/internal/util/Preconditions"
def TJ3 : u_T := fun k => match k with
  | _ => ("", "", "", false)
def tyJ3 : Nat → FieldType := fun k => match k with
  | _ => .int
abbrev wsJ30 : List Cond := u_ws RJ3 TJ3 0
theorem nmJ3 : ∀ a, a < 0 → ∀ b, b < 0 → a ≠ b → (TJ3 a).2.1 ≠ (TJ3 b).2.1 := by decide +kernel
theorem tyJ3_ok : ∀ k, k < 0 → parseFieldDescriptor (TJ3 k).2.2.1 = some (tyJ3 k) := by decide +kernel
abbrev cJ3_checkIndex_8e157 : ByteArray := prog_13_method_11_code
def yJ3_checkIndex_8e157 : MethodName := ⟨RJ3, "checkIndex", "(IILjava/util/function/BiFunction;)I"⟩
def RL : String := "SpringBeadsLaw"
abbrev cL_law : ByteArray := code
def yL_law : MethodName := ⟨RL, "law", "([I)Z"⟩
def wsJ0_coder_7d493 : List Cond := .code yJ0_coder_7d493 cJ0_coder_7d493 1 (some .byte) :: ([.fieldLink RJ0 38 "java/lang/String" "COMPACT_STRINGS" "Z", .fieldLink RJ0 15 "java/lang/String" "coder" "B"])
def wsJ0_length_8abf5 : List Cond := .code yJ0_length_8abf5 cJ0_length_8abf5 1 (some .int) :: ([.fieldLink RJ0 9 "java/lang/String" "value" "[B", .methodLink RJ0 335 yJ0_coder_7d493, .instanceMethod yJ0_coder_7d493, .selects RJ0 yJ0_coder_7d493 yJ0_coder_7d493, .initialized RJ0, .code yJ0_coder_7d493 cJ0_coder_7d493 1 (some .byte), .fieldLink RJ0 38 "java/lang/String" "COMPACT_STRINGS" "Z", .fieldLink RJ0 15 "java/lang/String" "coder" "B"])
def wsJ0_isLatin1_aae02 : List Cond := .code yJ0_isLatin1_aae02 cJ0_isLatin1_aae02 1 (some .boolean) :: ([.fieldLink RJ0 38 "java/lang/String" "COMPACT_STRINGS" "Z", .fieldLink RJ0 15 "java/lang/String" "coder" "B"])
def wsJ3_checkIndex_8e157 : List Cond := .code yJ3_checkIndex_8e157 cJ3_checkIndex_8e157 3 (some .int) :: ([])
def wsJ0_checkIndex_df160 : List Cond := .code yJ0_checkIndex_df160 cJ0_checkIndex_df160 2 none :: ([.fieldLink RJ0 1053 "jdk/internal/util/Preconditions" "SIOOBE_FORMATTER" "Ljava/util/function/BiFunction;", .methodLink RJ0 1059 yJ3_checkIndex_8e157, .static yJ3_checkIndex_8e157, .initialized RJ3, .code yJ3_checkIndex_8e157 cJ3_checkIndex_8e157 3 (some .int)])
def wsJ1_charAt_3b067 : List Cond := .code yJ1_charAt_3b067 cJ1_charAt_3b067 2 (some .char) :: ([.methodLink RJ1 9 yJ0_checkIndex_df160, .static yJ0_checkIndex_df160, .initialized RJ0, .code yJ0_checkIndex_df160 cJ0_checkIndex_df160 2 none, .fieldLink RJ0 1053 "jdk/internal/util/Preconditions" "SIOOBE_FORMATTER" "Ljava/util/function/BiFunction;", .methodLink RJ0 1059 yJ3_checkIndex_8e157, .static yJ3_checkIndex_8e157, .initialized RJ3, .code yJ3_checkIndex_8e157 cJ3_checkIndex_8e157 3 (some .int)])
def wsJ2_length_9d52b : List Cond := .code yJ2_length_9d52b cJ2_length_9d52b 1 (some .int) :: ([])
def wsJ2_checkIndex_2214a : List Cond := .code yJ2_checkIndex_2214a cJ2_checkIndex_2214a 2 none :: ([.methodLink RJ2 48 yJ2_length_9d52b, .static yJ2_length_9d52b, .initialized RJ2, .code yJ2_length_9d52b cJ2_length_9d52b 1 (some .int), .methodLink RJ2 414 yJ0_checkIndex_df160, .static yJ0_checkIndex_df160, .initialized RJ0, .code yJ0_checkIndex_df160 cJ0_checkIndex_df160 2 none, .fieldLink RJ0 1053 "jdk/internal/util/Preconditions" "SIOOBE_FORMATTER" "Ljava/util/function/BiFunction;", .methodLink RJ0 1059 yJ3_checkIndex_8e157, .static yJ3_checkIndex_8e157, .initialized RJ3, .code yJ3_checkIndex_8e157 cJ3_checkIndex_8e157 3 (some .int)])
def wsJ2_getChar_3b067 : List Cond := .code yJ2_getChar_3b067 cJ2_getChar_3b067 2 (some .char) :: ([.fieldLink RJ2 44 "java/lang/StringUTF16" "$assertionsDisabled" "Z", .fieldLink RJ2 59 "java/lang/StringUTF16" "HI_BYTE_SHIFT" "I", .fieldLink RJ2 63 "java/lang/StringUTF16" "LO_BYTE_SHIFT" "I", .methodLink RJ2 48 yJ2_length_9d52b, .static yJ2_length_9d52b, .initialized RJ2, .code yJ2_length_9d52b cJ2_length_9d52b 1 (some .int)])
def wsJ2_charAt_3b067 : List Cond := .code yJ2_charAt_3b067 cJ2_charAt_3b067 2 (some .char) :: ([.methodLink RJ2 67 yJ2_checkIndex_2214a, .static yJ2_checkIndex_2214a, .initialized RJ2, .code yJ2_checkIndex_2214a cJ2_checkIndex_2214a 2 none, .methodLink RJ2 48 yJ2_length_9d52b, .static yJ2_length_9d52b, .code yJ2_length_9d52b cJ2_length_9d52b 1 (some .int), .methodLink RJ2 414 yJ0_checkIndex_df160, .static yJ0_checkIndex_df160, .initialized RJ0, .code yJ0_checkIndex_df160 cJ0_checkIndex_df160 2 none, .fieldLink RJ0 1053 "jdk/internal/util/Preconditions" "SIOOBE_FORMATTER" "Ljava/util/function/BiFunction;", .methodLink RJ0 1059 yJ3_checkIndex_8e157, .static yJ3_checkIndex_8e157, .initialized RJ3, .code yJ3_checkIndex_8e157 cJ3_checkIndex_8e157 3 (some .int), .methodLink RJ2 71 yJ2_getChar_3b067, .static yJ2_getChar_3b067, .code yJ2_getChar_3b067 cJ2_getChar_3b067 2 (some .char), .fieldLink RJ2 44 "java/lang/StringUTF16" "$assertionsDisabled" "Z", .fieldLink RJ2 59 "java/lang/StringUTF16" "HI_BYTE_SHIFT" "I", .fieldLink RJ2 63 "java/lang/StringUTF16" "LO_BYTE_SHIFT" "I"])
def wsJ0_charAt_5068e_r1 : List Cond := [Cond.fieldLink RJ0 9 "java/lang/String" "value" "[B", Cond.methodLink RJ0 492 yJ0_isLatin1_aae02, Cond.instanceMethod yJ0_isLatin1_aae02, Cond.selects RJ0 yJ0_isLatin1_aae02 yJ0_isLatin1_aae02, Cond.initialized RJ0, Cond.code yJ0_isLatin1_aae02 cJ0_isLatin1_aae02 1 (some .boolean), Cond.fieldLink RJ0 38 "java/lang/String" "COMPACT_STRINGS" "Z", Cond.fieldLink RJ0 15 "java/lang/String" "coder" "B", Cond.methodLink RJ0 495 yJ1_charAt_3b067, Cond.static yJ1_charAt_3b067, Cond.initialized RJ1, Cond.code yJ1_charAt_3b067 cJ1_charAt_3b067 2 (some .char), Cond.methodLink RJ1 9 yJ0_checkIndex_df160, Cond.static yJ0_checkIndex_df160, Cond.code yJ0_checkIndex_df160 cJ0_checkIndex_df160 2 none, Cond.fieldLink RJ0 1053 "jdk/internal/util/Preconditions" "SIOOBE_FORMATTER" "Ljava/util/function/BiFunction;", Cond.methodLink RJ0 1059 yJ3_checkIndex_8e157, Cond.static yJ3_checkIndex_8e157, Cond.initialized RJ3, Cond.code yJ3_checkIndex_8e157 cJ3_checkIndex_8e157 3 (some .int), Cond.methodLink RJ0 498 yJ2_charAt_3b067, Cond.static yJ2_charAt_3b067, Cond.initialized RJ2, Cond.code yJ2_charAt_3b067 cJ2_charAt_3b067 2 (some .char)]
def wsJ0_charAt_5068e_r2 : List Cond := [Cond.methodLink RJ2 67 yJ2_checkIndex_2214a, Cond.static yJ2_checkIndex_2214a, Cond.code yJ2_checkIndex_2214a cJ2_checkIndex_2214a 2 none, Cond.methodLink RJ2 48 yJ2_length_9d52b, Cond.static yJ2_length_9d52b, Cond.code yJ2_length_9d52b cJ2_length_9d52b 1 (some .int), Cond.methodLink RJ2 414 yJ0_checkIndex_df160, Cond.methodLink RJ2 71 yJ2_getChar_3b067, Cond.static yJ2_getChar_3b067, Cond.code yJ2_getChar_3b067 cJ2_getChar_3b067 2 (some .char), Cond.fieldLink RJ2 44 "java/lang/StringUTF16" "$assertionsDisabled" "Z", Cond.fieldLink RJ2 59 "java/lang/StringUTF16" "HI_BYTE_SHIFT" "I", Cond.fieldLink RJ2 63 "java/lang/StringUTF16" "LO_BYTE_SHIFT" "I"]
def wsJ0_charAt_5068e : List Cond := .code yJ0_charAt_5068e cJ0_charAt_5068e 2 (some .char) :: ((wsJ0_charAt_5068e_r1 ++ wsJ0_charAt_5068e_r2))
def wsJ6_bitCount_0f7a4 : List Cond := .code yJ6_bitCount_0f7a4 cJ6_bitCount_0f7a4 1 (some .int) :: ([.constant RJ6 265 (1431655765), .constant RJ6 266 (858993459), .constant RJ6 267 (252645135)])
def wsJ6_compare_7cf53 : List Cond := .code yJ6_compare_7cf53 cJ6_compare_7cf53 2 (some .int) :: ([])
def wsJ9_abs_0f7a4 : List Cond := .code yJ9_abs_0f7a4 cJ9_abs_0f7a4 1 (some .int) :: ([])
def wsJ9_max_7cf53 : List Cond := .code yJ9_max_7cf53 cJ9_max_7cf53 2 (some .int) :: ([])
def wsJ9_min_7cf53 : List Cond := .code yJ9_min_7cf53 cJ9_min_7cf53 2 (some .int) :: ([])
def wsL_law_r1 : List Cond := [Cond.classLink RL 7 RX4, Cond.instantiable RX4 10, Cond.initialized RX4, Cond.classLink RL 10 RX5, Cond.instantiable RX5 28, Cond.initialized RX5, Cond.methodLink RL 9 yX4_init, Cond.instanceMethod yX4_init, Cond.code yX4_init cX4_init 1 none, Cond.methodLink RX4 3 objectInit, Cond.instanceMethod objectInit, Cond.code objectInit ⟨#[0xb1]⟩ 1 none, Cond.classLink RX4 9 RX0, Cond.instantiable RX0 16, Cond.initialized RX0, Cond.fieldLink RX4 12 "SpringBeads" "now" "LSpringBeads$Chain;", Cond.fieldLink RX4 16 "SpringBeads" "trial" "LSpringBeads$Chain;", Cond.fieldLink RX4 19 "SpringBeads" "firstImage" "LSpringBeads$Chain;", Cond.fieldLink RX4 22 "SpringBeads" "secondImage" "LSpringBeads$Chain;", Cond.arrayClass .boolean, Cond.fieldLink RX4 25 "SpringBeads" "kept" "[Z", Cond.classLink RX4 29 RX3, Cond.instantiable RX3 8, Cond.initialized RX3]
def wsL_law_r2 : List Cond := [Cond.fieldLink RX4 32 "SpringBeads" "tape" "LSpringBeads$Tape;", Cond.classLink RX4 36 RX1, Cond.instantiable RX1 4, Cond.initialized RX1, Cond.fieldLink RX4 39 "SpringBeads" "seen" "LSpringBeads$Seen;", Cond.classLink RX4 43 RX2, Cond.instantiable RX2 3, Cond.initialized RX2, Cond.fieldLink RX4 46 "SpringBeads" "sheets" "LSpringBeads$Sheets;", Cond.classLink RX4 50 "[[I", Cond.arrayClass .int, Cond.fieldLink RX4 52 "SpringBeads" "traces" "[[I", Cond.fieldLink RX4 55 "SpringBeads" "torn" "I", Cond.instanceMethod yX0_init, Cond.code yX0_init cX0_init 1 none, Cond.methodLink RX0 3 objectInit, Cond.fieldLink RX0 9 "SpringBeads$Chain" "kind" "[I", Cond.fieldLink RX0 15 "SpringBeads$Chain" "rest" "[I", Cond.fieldLink RX0 18 "SpringBeads$Chain" "stiff" "[I", Cond.fieldLink RX0 21 "SpringBeads$Chain" "mass" "[I", Cond.fieldLink RX0 24 "SpringBeads$Chain" "place" "[I", Cond.fieldLink RX0 27 "SpringBeads$Chain" "speed" "[I", Cond.fieldLink RX0 30 "SpringBeads$Chain" "knockBead" "[I", Cond.fieldLink RX0 33 "SpringBeads$Chain" "knockBy" "[I"]
def wsL_law_r3 : List Cond := [Cond.fieldLink RX0 36 "SpringBeads$Chain" "pull" "[I", Cond.instanceMethod yX3_init, Cond.code yX3_init cX3_init 1 none, Cond.methodLink RX3 3 objectInit, Cond.arrayClass .byte, Cond.fieldLink RX3 11 "SpringBeads$Tape" "bytes" "[B", Cond.instanceMethod yX1_init, Cond.code yX1_init cX1_init 1 none, Cond.methodLink RX1 3 objectInit, Cond.fieldLink RX1 9 "SpringBeads$Seen" "after" "[I", Cond.fieldLink RX1 15 "SpringBeads$Seen" "bead" "[I", Cond.fieldLink RX1 18 "SpringBeads$Seen" "place" "[I", Cond.instanceMethod yX2_init, Cond.code yX2_init cX2_init 1 none, Cond.methodLink RX2 3 objectInit, Cond.classLink RX2 9 "[[I", Cond.fieldLink RX2 11 "SpringBeads$Sheets" "cells" "[[I", Cond.fieldLink RX2 16 "SpringBeads$Sheets" "size" "[I", Cond.fieldLink RX2 20 "SpringBeads$Sheets" "laneOf" "[I", Cond.methodLink RL 12 yX5_init, Cond.instanceMethod yX5_init, Cond.code yX5_init cX5_init 1 none, Cond.methodLink RX5 1 objectInit, Cond.fieldLink RX5 7 "SpringBeadsModel" "state" "[I"]
def wsL_law_r4 : List Cond := [Cond.fieldLink RX5 13 "SpringBeadsModel" "readPage" "[I", Cond.fieldLink RX5 16 "SpringBeadsModel" "tape" "[I", Cond.fieldLink RX5 19 "SpringBeadsModel" "ends" "[I", Cond.fieldLink RX5 22 "SpringBeadsModel" "letters" "[I", Cond.fieldLink RX5 25 "SpringBeadsModel" "speedWas" "[I", Cond.fieldLink RX5 28 "SpringBeadsModel" "lost" "I", Cond.fieldLink RX5 32 "SpringBeadsModel" "seen" "[I", Cond.fieldLink RX5 35 "SpringBeadsModel" "placeBy" "[I", Cond.fieldLink RX5 38 "SpringBeadsModel" "isKept" "[Z", Cond.fieldLink RX5 42 "SpringBeadsModel" "lanes" "[I", Cond.fieldLink RX5 45 "SpringBeadsModel" "lengths" "[I", Cond.fieldLink RX5 48 "SpringBeadsModel" "cells" "[I", Cond.methodLink RL 13 yX4_feed, Cond.instanceMethod yX4_feed, Cond.selects RX4 yX4_feed yX4_feed, Cond.code yX4_feed cX4_feed 2 (some .int), Cond.fieldLink RX4 67 "SpringBeads$Tape" "length" "I", Cond.methodLink RX4 59 yX4_within, Cond.static yX4_within, Cond.code yX4_within cX4_within 3 (some .boolean), Cond.methodLink RX4 63 yX3_put, Cond.instanceMethod yX3_put, Cond.selects RX3 yX3_put yX3_put, Cond.code yX3_put cX3_put 2 (some .boolean)]
def wsL_law_r5 : List Cond := [Cond.fieldLink RX3 15 "SpringBeads$Tape" "length" "I", Cond.methodLink RL 17 yX5_feed, Cond.instanceMethod yX5_feed, Cond.selects RX5 yX5_feed yX5_feed, Cond.code yX5_feed cX5_feed 2 (some .int), Cond.constantLong RX5 51 (127), Cond.fieldLink RX5 57 "SpringBeadsModel" "taped" "I", Cond.methodLink RX5 53 yX5_in, Cond.static yX5_in, Cond.code yX5_in cX5_in 6 (some .boolean), Cond.methodLink RL 18 yX4_end, Cond.instanceMethod yX4_end, Cond.selects RX4 yX4_end yX4_end, Cond.code yX4_end cX4_end 3 (some .int), Cond.methodLink RL 21 yX5_end, Cond.instanceMethod yX5_end, Cond.selects RX5 yX5_end yX5_end, Cond.code yX5_end cX5_end 3 (some .int), Cond.methodLink RL 22 yX4_text, Cond.instanceMethod yX4_text, Cond.selects RX4 yX4_text yX4_text, Cond.code yX4_text cX4_text 2 (some .int), Cond.fieldLink RX4 74 "SpringBeads$Tape" "fault" "I", Cond.fieldLink RX4 77 "SpringBeads$Tape" "faultPlace" "I"]
def wsL_law_r6 : List Cond := [Cond.fieldLink RX4 84 "SpringBeads$Seen" "count" "I", Cond.methodLink RX4 70 yX3_tellInto, Cond.instanceMethod yX3_tellInto, Cond.selects RX3 yX3_tellInto yX3_tellInto, Cond.code yX3_tellInto cX3_tellInto 4 (some .int), Cond.fieldLink RX3 24 "SpringBeads$Tape" "fault" "I", Cond.fieldLink RX3 27 "SpringBeads$Tape" "faultPlace" "I", Cond.fieldLink RX3 30 "SpringBeads$Tape" "behind" "I", Cond.fieldLink RX3 33 "SpringBeads$Tape" "dragTold" "Z", Cond.fieldLink RX3 40 "SpringBeads$Tape" "token" "I", Cond.methodLink RX3 19 yX0_clear, Cond.instanceMethod yX0_clear, Cond.selects RX0 yX0_clear yX0_clear, Cond.code yX0_clear cX0_clear 1 none, Cond.fieldLink RX0 39 "SpringBeads$Chain" "beads" "I", Cond.fieldLink RX0 43 "SpringBeads$Chain" "knocks" "I", Cond.fieldLink RX0 46 "SpringBeads$Chain" "drag" "I", Cond.fieldLink RX0 49 "SpringBeads$Chain" "tick" "I", Cond.methodLink RX3 37 yX3_readToken, Cond.instanceMethod yX3_readToken, Cond.selects RX3 yX3_readToken yX3_readToken, Cond.code yX3_readToken cX3_readToken 3 none, Cond.fieldLink RX3 47 "SpringBeads$Tape" "from" "I", Cond.methodLink RX3 111 Lib.Math.max.name]
def wsL_law_r7 : List Cond := [Cond.static Lib.Math.max.name, Cond.initialized "java/lang/Math", Cond.code Lib.Math.max.name Lib.Math.max.code 2 (some .int), Cond.methodLink RX3 107 yX3_runOf, Cond.instanceMethod yX3_runOf, Cond.selects RX3 yX3_runOf yX3_runOf, Cond.code yX3_runOf cX3_runOf 4 (some .int), Cond.methodLink RX3 54 yX3_blame, Cond.instanceMethod yX3_blame, Cond.selects RX3 yX3_blame yX3_blame, Cond.code yX3_blame cX3_blame 2 none, Cond.methodLink RX3 43 yX3_takeLine, Cond.instanceMethod yX3_takeLine, Cond.selects RX3 yX3_takeLine yX3_takeLine, Cond.code yX3_takeLine cX3_takeLine 3 none, Cond.methodLink RX3 50 yX3_wordRead, Cond.instanceMethod yX3_wordRead, Cond.selects RX3 yX3_wordRead yX3_wordRead, Cond.code yX3_wordRead cX3_wordRead 2 (some .int), Cond.methodLink RX3 116 yX3_wordOf, Cond.static yX3_wordOf, Cond.code yX3_wordOf cX3_wordOf 1 (some (.object "java/lang/String")), Cond.methodLink RX3 120 yX3_isSpelt, Cond.instanceMethod yX3_isSpelt]
def wsL_law_r8 : List Cond := [Cond.selects RX3 yX3_isSpelt yX3_isSpelt, Cond.code yX3_isSpelt cX3_isSpelt 3 (some .boolean), Cond.methodLink RX3 137 yJ0_length_8abf5, Cond.instanceMethod yJ0_length_8abf5, Cond.selects RJ0 yJ0_length_8abf5 yJ0_length_8abf5, Cond.initialized RJ0, Cond.code yJ0_length_8abf5 cJ0_length_8abf5 1 (some .int), Cond.fieldLink RJ0 9 "java/lang/String" "value" "[B", Cond.methodLink RJ0 335 yJ0_coder_7d493, Cond.instanceMethod yJ0_coder_7d493, Cond.selects RJ0 yJ0_coder_7d493 yJ0_coder_7d493, Cond.code yJ0_coder_7d493 cJ0_coder_7d493 1 (some .byte), Cond.fieldLink RJ0 38 "java/lang/String" "COMPACT_STRINGS" "Z", Cond.fieldLink RJ0 15 "java/lang/String" "coder" "B", Cond.methodLink RX3 141 yJ0_charAt_5068e, Cond.instanceMethod yJ0_charAt_5068e, Cond.selects RJ0 yJ0_charAt_5068e yJ0_charAt_5068e, Cond.code yJ0_charAt_5068e cJ0_charAt_5068e 2 (some .char), Cond.methodLink RJ0 492 yJ0_isLatin1_aae02, Cond.instanceMethod yJ0_isLatin1_aae02, Cond.selects RJ0 yJ0_isLatin1_aae02 yJ0_isLatin1_aae02, Cond.code yJ0_isLatin1_aae02 cJ0_isLatin1_aae02 1 (some .boolean), Cond.methodLink RJ0 495 yJ1_charAt_3b067, Cond.static yJ1_charAt_3b067]
def wsL_law_r9 : List Cond := [Cond.initialized RJ1, Cond.code yJ1_charAt_3b067 cJ1_charAt_3b067 2 (some .char), Cond.methodLink RJ1 9 yJ0_checkIndex_df160, Cond.static yJ0_checkIndex_df160, Cond.code yJ0_checkIndex_df160 cJ0_checkIndex_df160 2 none, Cond.fieldLink RJ0 1053 "jdk/internal/util/Preconditions" "SIOOBE_FORMATTER" "Ljava/util/function/BiFunction;", Cond.methodLink RJ0 1059 yJ3_checkIndex_8e157, Cond.static yJ3_checkIndex_8e157, Cond.initialized RJ3, Cond.code yJ3_checkIndex_8e157 cJ3_checkIndex_8e157 3 (some .int), Cond.methodLink RJ0 498 yJ2_charAt_3b067, Cond.static yJ2_charAt_3b067, Cond.initialized RJ2, Cond.code yJ2_charAt_3b067 cJ2_charAt_3b067 2 (some .char), Cond.methodLink RJ2 67 yJ2_checkIndex_2214a, Cond.static yJ2_checkIndex_2214a, Cond.code yJ2_checkIndex_2214a cJ2_checkIndex_2214a 2 none, Cond.methodLink RJ2 48 yJ2_length_9d52b, Cond.static yJ2_length_9d52b, Cond.code yJ2_length_9d52b cJ2_length_9d52b 1 (some .int), Cond.methodLink RJ2 414 yJ0_checkIndex_df160, Cond.methodLink RJ2 71 yJ2_getChar_3b067, Cond.static yJ2_getChar_3b067, Cond.code yJ2_getChar_3b067 cJ2_getChar_3b067 2 (some .char)]
def wsL_law_r10 : List Cond := [Cond.fieldLink RJ2 44 "java/lang/StringUTF16" "$assertionsDisabled" "Z", Cond.fieldLink RJ2 59 "java/lang/StringUTF16" "HI_BYTE_SHIFT" "I", Cond.fieldLink RJ2 63 "java/lang/StringUTF16" "LO_BYTE_SHIFT" "I", Cond.methodLink RX3 58 yX3_takeDrag, Cond.instanceMethod yX3_takeDrag, Cond.selects RX3 yX3_takeDrag yX3_takeDrag, Cond.code yX3_takeDrag cX3_takeDrag 3 none, Cond.fieldLink RX3 90 "SpringBeads$Chain" "drag" "I", Cond.methodLink RX3 79 yX3_takeNumber, Cond.instanceMethod yX3_takeNumber, Cond.selects RX3 yX3_takeNumber yX3_takeNumber, Cond.code yX3_takeNumber cX3_takeNumber 4 (some .int), Cond.methodLink RX3 100 yX3_numberRead, Cond.instanceMethod yX3_numberRead, Cond.selects RX3 yX3_numberRead yX3_numberRead, Cond.code yX3_numberRead cX3_numberRead 3 (some .int), Cond.methodLink RX3 83 yX3_takeSemicolon, Cond.instanceMethod yX3_takeSemicolon, Cond.selects RX3 yX3_takeSemicolon yX3_takeSemicolon, Cond.code yX3_takeSemicolon cX3_takeSemicolon 1 none, Cond.methodLink RX3 61 yX3_takeKnock, Cond.instanceMethod yX3_takeKnock, Cond.selects RX3 yX3_takeKnock yX3_takeKnock, Cond.code yX3_takeKnock cX3_takeKnock 5 none]
def wsL_law_r11 : List Cond := [Cond.fieldLink RX3 93 "SpringBeads$Chain" "knocks" "I", Cond.methodLink RX3 96 yX0_addKnock, Cond.instanceMethod yX0_addKnock, Cond.selects RX0 yX0_addKnock yX0_addKnock, Cond.code yX0_addKnock cX0_addKnock 3 (some .boolean), Cond.methodLink RX3 65 yX3_takeBead, Cond.instanceMethod yX3_takeBead, Cond.selects RX3 yX3_takeBead yX3_takeBead, Cond.code yX3_takeBead cX3_takeBead 6 none, Cond.fieldLink RX3 69 "SpringBeads$Chain" "beads" "I", Cond.methodLink RX3 86 yX0_addBead, Cond.instanceMethod yX0_addBead, Cond.selects RX0 yX0_addBead yX0_addBead, Cond.code yX0_addBead cX0_addBead 6 (some .boolean), Cond.methodLink RX0 66 Lib.Math.min.name, Cond.static Lib.Math.min.name, Cond.code Lib.Math.min.name Lib.Math.min.code 2 (some .int), Cond.methodLink RX0 62 yX0_lastPlace, Cond.instanceMethod yX0_lastPlace, Cond.selects RX0 yX0_lastPlace yX0_lastPlace, Cond.code yX0_lastPlace cX0_lastPlace 1 (some .int), Cond.methodLink RX4 80 yX0_becomeLike, Cond.instanceMethod yX0_becomeLike, Cond.selects RX0 yX0_becomeLike yX0_becomeLike]
def wsL_law_r12 : List Cond := [Cond.code yX0_becomeLike cX0_becomeLike 3 none, Cond.fieldLink RX0 52 "SpringBeads$Chain" "gone" "I", Cond.fieldLink RX0 55 "SpringBeads$Chain" "stops" "I", Cond.methodLink RL 26 yX5_text, Cond.instanceMethod yX5_text, Cond.selects RX5 yX5_text yX5_text, Cond.code yX5_text cX5_text 3 (some .int), Cond.fieldLink RX5 60 "SpringBeadsModel" "broken" "I", Cond.fieldLink RX5 72 "SpringBeadsModel" "spot" "I", Cond.fieldLink RX5 107 "SpringBeadsModel" "isDragTold" "Z", Cond.fieldLink RX5 69 "SpringBeadsModel" "token" "I", Cond.fieldLink RX5 117 "SpringBeadsModel" "fault" "I", Cond.fieldLink RX5 66 "SpringBeadsModel" "brokenAt" "I", Cond.fieldLink RX5 120 "SpringBeadsModel" "seenMany" "I", Cond.methodLink RX5 94 yX5_readsOn, Cond.instanceMethod yX5_readsOn, Cond.selects RX5 yX5_readsOn yX5_readsOn, Cond.code yX5_readsOn cX5_readsOn 2 none, Cond.fieldLink RX5 63 "SpringBeadsModel" "here" "I", Cond.fieldLink RX5 79 "SpringBeadsModel" "value" "I", Cond.constantLong RX5 82 (97), Cond.constantLong RX5 84 (122), Cond.constantLong RX5 86 (48), Cond.constantLong RX5 88 (57)]
def wsL_law_r13 : List Cond := [Cond.methodLink RX5 75 yX5_byteAt, Cond.instanceMethod yX5_byteAt, Cond.selects RX5 yX5_byteAt yX5_byteAt, Cond.code yX5_byteAt cX5_byteAt 2 (some .int), Cond.methodLink RX5 90 yX5_fails, Cond.instanceMethod yX5_fails, Cond.selects RX5 yX5_fails yX5_fails, Cond.code yX5_fails cX5_fails 2 none, Cond.methodLink RX5 114 yX5_readLine, Cond.instanceMethod yX5_readLine, Cond.selects RX5 yX5_readLine yX5_readLine, Cond.code yX5_readLine cX5_readLine 2 none, Cond.constantLong RX5 105 (6), Cond.methodLink RX5 101 yX5_nameHere, Cond.instanceMethod yX5_nameHere, Cond.selects RX5 yX5_nameHere yX5_nameHere, Cond.code yX5_nameHere cX5_nameHere 4 (some .int), Cond.methodLink RX5 111 yX5_readMore, Cond.instanceMethod yX5_readMore, Cond.selects RX5 yX5_readMore yX5_readMore, Cond.code yX5_readMore cX5_readMore 4 none, Cond.methodLink RX5 97 yX5_number, Cond.instanceMethod yX5_number, Cond.selects RX5 yX5_number yX5_number]
def wsL_law_r14 : List Cond := [Cond.code yX5_number cX5_number 4 (some .int), Cond.methodLink RL 27 yX4_fault, Cond.instanceMethod yX4_fault, Cond.selects RX4 yX4_fault yX4_fault, Cond.code yX4_fault cX4_fault 1 (some .int), Cond.methodLink RL 30 yX5_fault, Cond.instanceMethod yX5_fault, Cond.selects RX5 yX5_fault yX5_fault, Cond.code yX5_fault cX5_fault 1 (some .int), Cond.methodLink RL 31 yX4_rule, Cond.instanceMethod yX4_rule, Cond.selects RX4 yX4_rule yX4_rule, Cond.code yX4_rule cX4_rule 2 (some .int), Cond.fieldLink RX4 87 "SpringBeads$Chain" "beads" "I", Cond.fieldLink RX4 90 "SpringBeads$Chain" "knocks" "I", Cond.fieldLink RX4 93 "SpringBeads$Chain" "tick" "I", Cond.fieldLink RX4 96 "SpringBeads$Chain" "drag" "I", Cond.methodLink RX4 99 yX0_stillBits, Cond.instanceMethod yX0_stillBits, Cond.selects RX0 yX0_stillBits yX0_stillBits, Cond.code yX0_stillBits cX0_stillBits 3 (some .int), Cond.methodLink RX4 103 yX0_lastPlace, Cond.methodLink RL 34 yX5_rule, Cond.instanceMethod yX5_rule]
def wsL_law_r15 : List Cond := [Cond.selects RX5 yX5_rule yX5_rule, Cond.code yX5_rule cX5_rule 4 (some .int), Cond.methodLink RX5 158 yX5_lastOn, Cond.instanceMethod yX5_lastOn, Cond.selects RX5 yX5_lastOn yX5_lastOn, Cond.code yX5_lastOn cX5_lastOn 2 (some .int), Cond.methodLink RL 35 yX4_bead, Cond.instanceMethod yX4_bead, Cond.selects RX4 yX4_bead yX4_bead, Cond.code yX4_bead cX4_bead 3 (some .int), Cond.fieldLink RX4 113 "SpringBeads$Chain" "speed" "[I", Cond.methodLink RX4 106 yX0_has, Cond.instanceMethod yX0_has, Cond.selects RX0 yX0_has yX0_has, Cond.code yX0_has cX0_has 2 (some .boolean), Cond.methodLink RX4 109 yX0_rowOf, Cond.instanceMethod yX0_rowOf, Cond.selects RX0 yX0_rowOf yX0_rowOf, Cond.code yX0_rowOf cX0_rowOf 2 (some (.array .int)), Cond.methodLink RX4 117 yX0_stretchOf, Cond.instanceMethod yX0_stretchOf, Cond.selects RX0 yX0_stretchOf yX0_stretchOf, Cond.code yX0_stretchOf cX0_stretchOf 3 (some .int), Cond.methodLink RX4 121 yX0_pullOf]
def wsL_law_r16 : List Cond := [Cond.instanceMethod yX0_pullOf, Cond.selects RX0 yX0_pullOf yX0_pullOf, Cond.code yX0_pullOf cX0_pullOf 4 (some .int), Cond.methodLink RX0 72 yX0_stretchOf, Cond.methodLink RL 39 yX5_bead, Cond.instanceMethod yX5_bead, Cond.selects RX5 yX5_bead yX5_bead, Cond.code yX5_bead cX5_bead 3 (some .int), Cond.constantLong RX5 175 (7), Cond.methodLink RX5 171 yX5_isBead, Cond.instanceMethod yX5_isBead, Cond.selects RX5 yX5_isBead yX5_isBead, Cond.code yX5_isBead cX5_isBead 2 (some .boolean), Cond.methodLink RX5 125 yX5_stretchOn, Cond.instanceMethod yX5_stretchOn, Cond.selects RX5 yX5_stretchOn yX5_stretchOn, Cond.code yX5_stretchOn cX5_stretchOn 3 (some .int), Cond.methodLink RX5 135 yX5_pullOn, Cond.instanceMethod yX5_pullOn, Cond.selects RX5 yX5_pullOn yX5_pullOn, Cond.code yX5_pullOn cX5_pullOn 6 (some .int), Cond.constantLong RX5 128 (-5), Cond.constantLong RX5 130 (5), Cond.methodLink RL 40 yX4_knock]
def wsL_law_r17 : List Cond := [Cond.instanceMethod yX4_knock, Cond.selects RX4 yX4_knock yX4_knock, Cond.code yX4_knock cX4_knock 3 (some .int), Cond.fieldLink RX4 124 "SpringBeads$Chain" "knockBead" "[I", Cond.fieldLink RX4 127 "SpringBeads$Chain" "knockBy" "[I", Cond.methodLink RL 43 yX5_knock, Cond.instanceMethod yX5_knock, Cond.selects RX5 yX5_knock yX5_knock, Cond.code yX5_knock cX5_knock 3 (some .int), Cond.methodLink RX5 177 yX5_isKnock, Cond.instanceMethod yX5_isKnock, Cond.selects RX5 yX5_isKnock yX5_isKnock, Cond.code yX5_isKnock cX5_isKnock 2 (some .boolean), Cond.methodLink RL 44 yX4_alter, Cond.instanceMethod yX4_alter, Cond.selects RX4 yX4_alter yX4_alter, Cond.code yX4_alter cX4_alter 6 (some .int), Cond.fieldLink RX4 130 "SpringBeads" "LEAST" "[I", Cond.fieldLink RX4 133 "SpringBeads" "MOST" "[I", Cond.methodLink RL 48 yX5_alter, Cond.instanceMethod yX5_alter, Cond.selects RX5 yX5_alter yX5_alter, Cond.code yX5_alter cX5_alter 4 (some .int), Cond.methodLink RX5 186 yX5_isGood]
def wsL_law_r18 : List Cond := [Cond.static yX5_isGood, Cond.code yX5_isGood cX5_isGood 2 (some .boolean), Cond.constantLong RX5 180 (3), Cond.constantLong RX5 182 (60), Cond.constantLong RX5 184 (9), Cond.constantLong RX5 138 (300), Cond.methodLink RX5 190 yX5_puts, Cond.instanceMethod yX5_puts, Cond.selects RX5 yX5_puts yX5_puts, Cond.code yX5_puts cX5_puts 5 (some .int), Cond.methodLink RL 49 yX4_drag, Cond.instanceMethod yX4_drag, Cond.selects RX4 yX4_drag yX4_drag, Cond.code yX4_drag cX4_drag 3 (some .int), Cond.methodLink RL 52 yX5_drag, Cond.instanceMethod yX5_drag, Cond.selects RX5 yX5_drag yX5_drag, Cond.code yX5_drag cX5_drag 2 (some .int), Cond.methodLink RL 53 yX4_bind, Cond.instanceMethod yX4_bind, Cond.selects RX4 yX4_bind yX4_bind, Cond.code yX4_bind cX4_bind 5 (some .int), Cond.methodLink RX4 136 yX0_addBead, Cond.methodLink RL 57 yX5_bind]
def wsL_law_r19 : List Cond := [Cond.instanceMethod yX5_bind, Cond.selects RX5 yX5_bind yX5_bind, Cond.code yX5_bind cX5_bind 7 (some .int), Cond.methodLink RL 58 yX4_cut, Cond.instanceMethod yX4_cut, Cond.selects RX4 yX4_cut yX4_cut, Cond.code yX4_cut cX4_cut 3 (some .int), Cond.methodLink RL 61 yX5_cut, Cond.instanceMethod yX5_cut, Cond.selects RX5 yX5_cut yX5_cut, Cond.code yX5_cut cX5_cut 2 (some .int), Cond.methodLink RL 62 yX4_hit, Cond.instanceMethod yX4_hit, Cond.selects RX4 yX4_hit yX4_hit, Cond.code yX4_hit cX4_hit 3 (some .int), Cond.methodLink RX4 140 yX0_knockOnce, Cond.instanceMethod yX0_knockOnce, Cond.selects RX0 yX0_knockOnce yX0_knockOnce, Cond.code yX0_knockOnce cX0_knockOnce 3 none, Cond.methodLink RX0 80 yX0_has, Cond.methodLink RX0 84 yX0_inBounds, Cond.static yX0_inBounds, Cond.code yX0_inBounds cX0_inBounds 1 (some .int), Cond.methodLink RL 65 yX5_hit]
def wsL_law_r20 : List Cond := [Cond.instanceMethod yX5_hit, Cond.selects RX5 yX5_hit yX5_hit, Cond.code yX5_hit cX5_hit 3 (some .int), Cond.constantLong RX5 194 (18), Cond.methodLink RX5 164 yX5_knockOn, Cond.instanceMethod yX5_knockOn, Cond.selects RX5 yX5_knockOn yX5_knockOn, Cond.code yX5_knockOn cX5_knockOn 4 none, Cond.methodLink RX5 132 yX5_speedOf, Cond.static yX5_speedOf, Cond.code yX5_speedOf cX5_speedOf 1 (some .int), Cond.methodLink RL 66 yX4_add, Cond.instanceMethod yX4_add, Cond.selects RX4 yX4_add yX4_add, Cond.code yX4_add cX4_add 3 (some .int), Cond.methodLink RX4 144 yX0_addKnock, Cond.methodLink RL 69 yX5_add, Cond.instanceMethod yX5_add, Cond.selects RX5 yX5_add yX5_add, Cond.code yX5_add cX5_add 3 (some .int), Cond.methodLink RX5 196 yX5_adds, Cond.instanceMethod yX5_adds, Cond.selects RX5 yX5_adds yX5_adds, Cond.code yX5_adds cX5_adds 4 (some .int)]
def wsL_law_r21 : List Cond := [Cond.methodLink RL 70 yX4_drop, Cond.instanceMethod yX4_drop, Cond.selects RX4 yX4_drop yX4_drop, Cond.code yX4_drop cX4_drop 3 (some .int), Cond.methodLink RL 73 yX5_drop, Cond.instanceMethod yX5_drop, Cond.selects RX5 yX5_drop yX5_drop, Cond.code yX5_drop cX5_drop 2 (some .int), Cond.methodLink RL 74 yX4_calm, Cond.instanceMethod yX4_calm, Cond.selects RX4 yX4_calm yX4_calm, Cond.code yX4_calm cX4_calm 3 (some .int), Cond.methodLink RX4 148 yJ6_bitCount_0f7a4, Cond.static yJ6_bitCount_0f7a4, Cond.initialized RJ6, Cond.code yJ6_bitCount_0f7a4 cJ6_bitCount_0f7a4 1 (some .int), Cond.constant RJ6 265 (1431655765), Cond.constant RJ6 266 (858993459), Cond.constant RJ6 267 (252645135), Cond.methodLink RL 77 yX5_calm, Cond.instanceMethod yX5_calm, Cond.selects RX5 yX5_calm yX5_calm, Cond.code yX5_calm cX5_calm 3 (some .int), Cond.methodLink RL 78 yX4_ticks]
def wsL_law_r22 : List Cond := [Cond.instanceMethod yX4_ticks, Cond.selects RX4 yX4_ticks yX4_ticks, Cond.code yX4_ticks cX4_ticks 2 (some .int), Cond.fieldLink RX4 153 "SpringBeads$Chain" "gone" "I", Cond.methodLink RX4 156 yX0_tickOften, Cond.instanceMethod yX0_tickOften, Cond.selects RX0 yX0_tickOften yX0_tickOften, Cond.code yX0_tickOften cX0_tickOften 3 none, Cond.methodLink RX0 97 yX0_tickOnce, Cond.instanceMethod yX0_tickOnce, Cond.selects RX0 yX0_tickOnce yX0_tickOnce, Cond.code yX0_tickOnce cX0_tickOnce 1 none, Cond.methodLink RX0 91 yX0_knockByPlan, Cond.instanceMethod yX0_knockByPlan, Cond.selects RX0 yX0_knockByPlan yX0_knockByPlan, Cond.code yX0_knockByPlan cX0_knockByPlan 2 none, Cond.methodLink RX0 87 yX0_knockOnce, Cond.methodLink RX0 94 yX0_move, Cond.instanceMethod yX0_move, Cond.selects RX0 yX0_move yX0_move, Cond.code yX0_move cX0_move 4 none, Cond.fieldLink RX0 103 "SpringBeads$Chain" "stirred" "Z", Cond.methodLink RX0 100 yX0_pullOf, Cond.methodLink RX0 107 yX0_slowed]
def wsL_law_r23 : List Cond := [Cond.instanceMethod yX0_slowed, Cond.selects RX0 yX0_slowed yX0_slowed, Cond.code yX0_slowed cX0_slowed 2 (some .int), Cond.methodLink RX0 113 Lib.Math.max.name, Cond.methodLink RX0 110 yX0_goOn, Cond.instanceMethod yX0_goOn, Cond.selects RX0 yX0_goOn yX0_goOn, Cond.code yX0_goOn cX0_goOn 6 none, Cond.methodLink RX0 116 Lib.Math.abs.name, Cond.static Lib.Math.abs.name, Cond.code Lib.Math.abs.name Lib.Math.abs.code 1 (some .int), Cond.methodLink RL 81 yX5_ticks, Cond.instanceMethod yX5_ticks, Cond.selects RX5 yX5_ticks yX5_ticks, Cond.code yX5_ticks cX5_ticks 3 (some .int), Cond.constantLong RX5 199 (100), Cond.fieldLink RX5 143 "SpringBeadsModel" "gone" "I", Cond.methodLink RX5 201 yX5_tickOn, Cond.instanceMethod yX5_tickOn, Cond.selects RX5 yX5_tickOn yX5_tickOn, Cond.code yX5_tickOn cX5_tickOn 5 none, Cond.methodLink RX5 168 yX5_movesOn, Cond.instanceMethod yX5_movesOn, Cond.selects RX5 yX5_movesOn yX5_movesOn]
def wsL_law_r24 : List Cond := [Cond.code yX5_movesOn cX5_movesOn 3 none, Cond.fieldLink RX5 155 "SpringBeadsModel" "isChanged" "Z", Cond.fieldLink RX5 161 "SpringBeadsModel" "widest" "I", Cond.methodLink RX5 149 yX5_speedsOn, Cond.instanceMethod yX5_speedsOn, Cond.selects RX5 yX5_speedsOn yX5_speedsOn, Cond.code yX5_speedsOn cX5_speedsOn 7 none, Cond.methodLink RX5 152 yX5_placesOn, Cond.instanceMethod yX5_placesOn, Cond.selects RX5 yX5_placesOn yX5_placesOn, Cond.code yX5_placesOn cX5_placesOn 5 none, Cond.fieldLink RX5 140 "SpringBeadsModel" "stopped" "I", Cond.methodLink RX5 146 yX5_amount, Cond.static yX5_amount, Cond.code yX5_amount cX5_amount 1 (some .int), Cond.methodLink RL 82 yX4_runs, Cond.instanceMethod yX4_runs, Cond.selects RX4 yX4_runs yX4_runs, Cond.code yX4_runs cX4_runs 4 (some .int), Cond.fieldLink RX4 164 "SpringBeads$Chain" "stops" "I", Cond.methodLink RX4 160 yX0_greatestSwing, Cond.instanceMethod yX0_greatestSwing, Cond.selects RX0 yX0_greatestSwing yX0_greatestSwing, Cond.code yX0_greatestSwing cX0_greatestSwing 6 (some .int)]
def wsL_law_r25 : List Cond := [Cond.methodLink RL 85 yX5_runs, Cond.instanceMethod yX5_runs, Cond.selects RX5 yX5_runs yX5_runs, Cond.code yX5_runs cX5_runs 4 (some .int), Cond.methodLink RX5 209 yX5_isLong, Cond.static yX5_isLong, Cond.code yX5_isLong cX5_isLong 1 (some .boolean), Cond.constantLong RX5 123 (200), Cond.methodLink RX5 212 yX5_ticksGo, Cond.instanceMethod yX5_ticksGo, Cond.selects RX5 yX5_ticksGo yX5_ticksGo, Cond.code yX5_ticksGo cX5_ticksGo 4 (some .int), Cond.methodLink RX5 205 yX5_copies, Cond.instanceMethod yX5_copies, Cond.selects RX5 yX5_copies yX5_copies, Cond.code yX5_copies cX5_copies 4 none, Cond.methodLink RL 86 yX4_ahead, Cond.instanceMethod yX4_ahead, Cond.selects RX4 yX4_ahead yX4_ahead, Cond.code yX4_ahead cX4_ahead 4 (some .int), Cond.fieldLink RX4 167 "SpringBeads$Chain" "place" "[I", Cond.methodLink RL 89 yX5_ahead, Cond.instanceMethod yX5_ahead, Cond.selects RX5 yX5_ahead yX5_ahead]
def wsL_law_r26 : List Cond := [Cond.code yX5_ahead cX5_ahead 4 (some .int), Cond.methodLink RL 90 yX4_when, Cond.instanceMethod yX4_when, Cond.selects RX4 yX4_when yX4_when, Cond.code yX4_when cX4_when 6 (some .int), Cond.methodLink RX4 170 yJ6_compare_7cf53, Cond.static yJ6_compare_7cf53, Cond.code yJ6_compare_7cf53 cJ6_compare_7cf53 2 (some .int), Cond.methodLink RX4 173 yX0_tickOnce, Cond.methodLink RL 93 yX5_when, Cond.instanceMethod yX5_when, Cond.selects RX5 yX5_when yX5_when, Cond.code yX5_when cX5_when 6 (some .int), Cond.methodLink RL 94 yX4_rests, Cond.instanceMethod yX4_rests, Cond.selects RX4 yX4_rests yX4_rests, Cond.code yX4_rests cX4_rests 2 (some .int), Cond.fieldLink RX4 179 "SpringBeads$Chain" "stirred" "Z", Cond.methodLink RX4 176 yX0_move, Cond.methodLink RL 97 yX5_rests, Cond.instanceMethod yX5_rests, Cond.selects RX5 yX5_rests yX5_rests, Cond.code yX5_rests cX5_rests 2 (some .int), Cond.methodLink RL 98 yX4_stiff]
def wsL_law_r27 : List Cond := [Cond.instanceMethod yX4_stiff, Cond.selects RX4 yX4_stiff yX4_stiff, Cond.code yX4_stiff cX4_stiff 4 (some .int), Cond.methodLink RX4 183 yX4_steadiest, Cond.instanceMethod yX4_steadiest, Cond.selects RX4 yX4_steadiest yX4_steadiest, Cond.code yX4_steadiest cX4_steadiest 9 (some .int), Cond.methodLink RX4 193 yX4_tryWith, Cond.instanceMethod yX4_tryWith, Cond.selects RX4 yX4_tryWith yX4_tryWith, Cond.code yX4_tryWith cX4_tryWith 4 none, Cond.methodLink RL 101 yX5_stiff, Cond.instanceMethod yX5_stiff, Cond.selects RX5 yX5_stiff yX5_stiff, Cond.code yX5_stiff cX5_stiff 4 (some .int), Cond.methodLink RX5 216 yX5_isAsked, Cond.instanceMethod yX5_isAsked, Cond.selects RX5 yX5_isAsked yX5_isAsked, Cond.code yX5_isAsked cX5_isAsked 4 (some .boolean), Cond.methodLink RX5 220 yX5_leastAt, Cond.instanceMethod yX5_leastAt, Cond.selects RX5 yX5_leastAt yX5_leastAt, Cond.code yX5_leastAt cX5_leastAt 10 (some .int), Cond.constant RX5 215 (1000000)]
def wsL_law_r28 : List Cond := [Cond.methodLink RL 102 yX4_rest, Cond.instanceMethod yX4_rest, Cond.selects RX4 yX4_rest yX4_rest, Cond.code yX4_rest cX4_rest 4 (some .int), Cond.methodLink RL 105 yX5_rest, Cond.instanceMethod yX5_rest, Cond.selects RX5 yX5_rest yX5_rest, Cond.code yX5_rest cX5_rest 4 (some .int), Cond.methodLink RL 106 yX4_kind, Cond.instanceMethod yX4_kind, Cond.selects RX4 yX4_kind yX4_kind, Cond.code yX4_kind cX4_kind 4 (some .int), Cond.methodLink RL 109 yX5_kind, Cond.instanceMethod yX5_kind, Cond.selects RX5 yX5_kind yX5_kind, Cond.code yX5_kind cX5_kind 4 (some .int), Cond.methodLink RL 110 yX4_mass, Cond.instanceMethod yX4_mass, Cond.selects RX4 yX4_mass yX4_mass, Cond.code yX4_mass cX4_mass 4 (some .int), Cond.methodLink RL 113 yX5_mass, Cond.instanceMethod yX5_mass, Cond.selects RX5 yX5_mass yX5_mass, Cond.code yX5_mass cX5_mass 4 (some .int)]
def wsL_law_r29 : List Cond := [Cond.methodLink RL 114 yX4_swap, Cond.instanceMethod yX4_swap, Cond.selects RX4 yX4_swap yX4_swap, Cond.code yX4_swap cX4_swap 8 (some .int), Cond.methodLink RX4 187 yX4_swingAsItIs, Cond.instanceMethod yX4_swingAsItIs, Cond.selects RX4 yX4_swingAsItIs yX4_swingAsItIs, Cond.code yX4_swingAsItIs cX4_swingAsItIs 2 (some .int), Cond.methodLink RX4 190 yX0_changePlaces, Cond.instanceMethod yX0_changePlaces, Cond.selects RX0 yX0_changePlaces yX0_changePlaces, Cond.code yX0_changePlaces cX0_changePlaces 5 none, Cond.methodLink RL 117 yX5_swap, Cond.instanceMethod yX5_swap, Cond.selects RX5 yX5_swap yX5_swap, Cond.code yX5_swap cX5_swap 8 (some .int), Cond.methodLink RL 118 yX4_miss, Cond.instanceMethod yX4_miss, Cond.selects RX4 yX4_miss yX4_miss, Cond.code yX4_miss cX4_miss 7 (some .int), Cond.methodLink RL 121 yX5_miss, Cond.instanceMethod yX5_miss, Cond.selects RX5 yX5_miss yX5_miss, Cond.code yX5_miss cX5_miss 7 (some .int)]
def wsL_law_r30 : List Cond := [Cond.methodLink RL 122 yX4_luck, Cond.instanceMethod yX4_luck, Cond.selects RX4 yX4_luck yX4_luck, Cond.code yX4_luck cX4_luck 8 (some .long), Cond.constantLong RX4 197 (-1), Cond.constantLong RX4 199 (-2), Cond.methodLink RX4 201 yX4_runMissing, Cond.instanceMethod yX4_runMissing, Cond.selects RX4 yX4_runMissing yX4_runMissing, Cond.code yX4_runMissing cX4_runMissing 4 none, Cond.methodLink RX4 221 yX0_knockByPlan, Cond.methodLink RX4 204 yX4_weightOf, Cond.static yX4_weightOf, Cond.code yX4_weightOf cX4_weightOf 4 (some .long), Cond.methodLink RX4 208 yX4_power, Cond.static yX4_power, Cond.code yX4_power cX4_power 5 (some .long), Cond.methodLink RX4 212 yX4_partOfFraction, Cond.static yX4_partOfFraction, Cond.code yX4_partOfFraction cX4_partOfFraction 7 (some .long), Cond.methodLink RX4 224 yX4_commonDivisor, Cond.static yX4_commonDivisor, Cond.code yX4_commonDivisor cX4_commonDivisor 11 (some .long), Cond.methodLink RL 126 yX5_luck]
def wsL_law_r31 : List Cond := [Cond.instanceMethod yX5_luck, Cond.selects RX5 yX5_luck yX5_luck, Cond.code yX5_luck cX5_luck 5 (some .long), Cond.constantLong RX5 224 (10), Cond.constantLong RX5 230 (8), Cond.constantLong RX5 232 (-1), Cond.constantLong RX5 234 (-2), Cond.methodLink RX5 236 yX5_byMisses, Cond.instanceMethod yX5_byMisses, Cond.selects RX5 yX5_byMisses yX5_byMisses, Cond.code yX5_byMisses cX5_byMisses 14 (some .long), Cond.methodLink RX5 226 yX5_lowest, Cond.static yX5_lowest, Cond.code yX5_lowest cX5_lowest 11 (some .long), Cond.methodLink RL 127 yX4_mean, Cond.instanceMethod yX4_mean, Cond.selects RX4 yX4_mean yX4_mean, Cond.code yX4_mean cX4_mean 7 (some .long), Cond.methodLink RX4 216 Lib.Math.abs.name, Cond.methodLink RL 131 yX5_mean, Cond.instanceMethod yX5_mean, Cond.selects RX5 yX5_mean yX5_mean, Cond.code yX5_mean cX5_mean 4 (some .long), Cond.methodLink RL 132 yX4_see]
def wsL_law_r32 : List Cond := [Cond.instanceMethod yX4_see, Cond.selects RX4 yX4_see yX4_see, Cond.code yX4_see cX4_see 4 (some .int), Cond.methodLink RX4 228 yX1_note, Cond.instanceMethod yX1_note, Cond.selects RX1 yX1_note yX1_note, Cond.code yX1_note cX1_note 4 (some .boolean), Cond.fieldLink RX1 21 "SpringBeads$Seen" "count" "I", Cond.methodLink RL 135 yX5_see, Cond.instanceMethod yX5_see, Cond.selects RX5 yX5_see yX5_see, Cond.code yX5_see cX5_see 4 (some .int), Cond.constantLong RX5 240 (40), Cond.methodLink RL 136 yX4_forget, Cond.instanceMethod yX4_forget, Cond.selects RX4 yX4_forget yX4_forget, Cond.code yX4_forget cX4_forget 3 (some .int), Cond.methodLink RL 139 yX5_forget, Cond.instanceMethod yX5_forget, Cond.selects RX5 yX5_forget yX5_forget, Cond.code yX5_forget cX5_forget 3 (some .int), Cond.methodLink RL 140 yX4_kinds, Cond.instanceMethod yX4_kinds, Cond.selects RX4 yX4_kinds yX4_kinds]
def wsL_law_r33 : List Cond := [Cond.code yX4_kinds cX4_kinds 2 (some .int), Cond.methodLink RX4 231 yX4_asSeenBits, Cond.instanceMethod yX4_asSeenBits, Cond.selects RX4 yX4_asSeenBits yX4_asSeenBits, Cond.code yX4_asSeenBits cX4_asSeenBits 5 (some .int), Cond.methodLink RX4 240 yX1_isSoOf, Cond.instanceMethod yX1_isSoOf, Cond.selects RX1 yX1_isSoOf yX1_isSoOf, Cond.code yX1_isSoOf cX1_isSoOf 4 (some .boolean), Cond.methodLink RX1 25 yX1_latestTick, Cond.instanceMethod yX1_latestTick, Cond.selects RX1 yX1_latestTick yX1_latestTick, Cond.code yX1_latestTick cX1_latestTick 3 (some .int), Cond.methodLink RX1 38 Lib.Math.max.name, Cond.methodLink RX1 29 yX1_agrees, Cond.instanceMethod yX1_agrees, Cond.selects RX1 yX1_agrees yX1_agrees, Cond.code yX1_agrees cX1_agrees 4 (some .boolean), Cond.fieldLink RX1 48 "SpringBeads$Chain" "place" "[I", Cond.methodLink RX1 44 yX0_has, Cond.methodLink RX1 33 yX0_tickOnce, Cond.methodLink RL 143 yX5_kinds, Cond.instanceMethod yX5_kinds, Cond.selects RX5 yX5_kinds yX5_kinds]
def wsL_law_r34 : List Cond := [Cond.code yX5_kinds cX5_kinds 2 (some .int), Cond.methodLink RX5 245 yX5_numbersAt, Cond.instanceMethod yX5_numbersAt, Cond.selects RX5 yX5_numbersAt yX5_numbersAt, Cond.code yX5_numbersAt cX5_numbersAt 6 (some .int), Cond.methodLink RX5 242 yX5_isAsSeen, Cond.instanceMethod yX5_isAsSeen, Cond.selects RX5 yX5_isAsSeen yX5_isAsSeen, Cond.code yX5_isAsSeen cX5_isAsSeen 8 (some .boolean), Cond.methodLink RL 144 yX4_stiffs, Cond.instanceMethod yX4_stiffs, Cond.selects RX4 yX4_stiffs yX4_stiffs, Cond.code yX4_stiffs cX4_stiffs 2 (some .int), Cond.methodLink RL 147 yX5_stiffs, Cond.instanceMethod yX5_stiffs, Cond.selects RX5 yX5_stiffs yX5_stiffs, Cond.code yX5_stiffs cX5_stiffs 2 (some .int), Cond.methodLink RL 148 yX4_ask, Cond.instanceMethod yX4_ask, Cond.selects RX4 yX4_ask yX4_ask, Cond.code yX4_ask cX4_ask 8 (some .int), Cond.methodLink RX4 234 yX4_traceStiffs, Cond.instanceMethod yX4_traceStiffs, Cond.selects RX4 yX4_traceStiffs yX4_traceStiffs]
def wsL_law_r35 : List Cond := [Cond.code yX4_traceStiffs cX4_traceStiffs 5 none, Cond.methodLink RX4 237 yX4_mostAlike, Cond.instanceMethod yX4_mostAlike, Cond.selects RX4 yX4_mostAlike yX4_mostAlike, Cond.code yX4_mostAlike cX4_mostAlike 7 (some .int), Cond.methodLink RX4 244 Lib.Math.max.name, Cond.methodLink RL 151 yX5_ask, Cond.instanceMethod yX5_ask, Cond.selects RX5 yX5_ask yX5_ask, Cond.code yX5_ask cX5_ask 8 (some .int), Cond.methodLink RX5 249 yX5_worstAt, Cond.instanceMethod yX5_worstAt, Cond.selects RX5 yX5_worstAt yX5_worstAt, Cond.code yX5_worstAt cX5_worstAt 7 (some .int), Cond.methodLink RL 152 yX4_drift, Cond.instanceMethod yX4_drift, Cond.selects RX4 yX4_drift yX4_drift, Cond.code yX4_drift cX4_drift 9 (some .int), Cond.constant RX4 247 (1103515245), Cond.methodLink RL 155 yX5_drift, Cond.instanceMethod yX5_drift, Cond.selects RX5 yX5_drift yX5_drift, Cond.code yX5_drift cX5_drift 7 (some .int), Cond.constant RX5 252 (1103515245)]
def wsL_law_r36 : List Cond := [Cond.methodLink RL 156 yX4_keep, Cond.instanceMethod yX4_keep, Cond.selects RX4 yX4_keep yX4_keep, Cond.code yX4_keep cX4_keep 3 (some .int), Cond.methodLink RX4 248 yX4_imageOf, Cond.instanceMethod yX4_imageOf, Cond.selects RX4 yX4_imageOf yX4_imageOf, Cond.code yX4_imageOf cX4_imageOf 2 (some (.object "SpringBeads$Chain")), Cond.methodLink RL 159 yX5_keep, Cond.instanceMethod yX5_keep, Cond.selects RX5 yX5_keep yX5_keep, Cond.code yX5_keep cX5_keep 3 (some .int), Cond.methodLink RL 160 yX4_back, Cond.instanceMethod yX4_back, Cond.selects RX4 yX4_back yX4_back, Cond.code yX4_back cX4_back 2 (some .int), Cond.methodLink RL 163 yX5_back, Cond.instanceMethod yX5_back, Cond.selects RX5 yX5_back yX5_back, Cond.code yX5_back cX5_back 2 (some .int), Cond.methodLink RL 164 yX4_sheet, Cond.instanceMethod yX4_sheet, Cond.selects RX4 yX4_sheet yX4_sheet, Cond.code yX4_sheet cX4_sheet 4 (some .int)]
def wsL_law_r37 : List Cond := [Cond.methodLink RX4 252 yX2_make, Cond.instanceMethod yX2_make, Cond.selects RX2 yX2_make yX2_make, Cond.code yX2_make cX2_make 5 none, Cond.methodLink RL 167 yX5_sheet, Cond.instanceMethod yX5_sheet, Cond.selects RX5 yX5_sheet yX5_sheet, Cond.code yX5_sheet cX5_sheet 5 (some .int), Cond.constantLong RX5 253 (2), Cond.methodLink RL 168 yX4_lay, Cond.instanceMethod yX4_lay, Cond.selects RX4 yX4_lay yX4_lay, Cond.code yX4_lay cX4_lay 5 (some .int), Cond.methodLink RX4 255 yX2_faultAt, Cond.instanceMethod yX2_faultAt, Cond.selects RX2 yX2_faultAt yX2_faultAt, Cond.code yX2_faultAt cX2_faultAt 3 (some .int), Cond.methodLink RX2 23 yX2_isNothing, Cond.instanceMethod yX2_isNothing, Cond.selects RX2 yX2_isNothing yX2_isNothing, Cond.code yX2_isNothing cX2_isNothing 2 (some .boolean), Cond.methodLink RX4 258 yX2_put, Cond.instanceMethod yX2_put, Cond.selects RX2 yX2_put yX2_put]
def wsL_law_r38 : List Cond := [Cond.code yX2_put cX2_put 4 none, Cond.methodLink RL 171 yX5_lay, Cond.instanceMethod yX5_lay, Cond.selects RX5 yX5_lay yX5_lay, Cond.code yX5_lay cX5_lay 4 (some .int), Cond.methodLink RL 172 yX4_read, Cond.instanceMethod yX4_read, Cond.selects RX4 yX4_read yX4_read, Cond.code yX4_read cX4_read 10 (some .int), Cond.fieldLink RX4 263 "SpringBeads$Sheets" "cells" "[[I", Cond.methodLink RX4 260 yX2_faultOfPair, Cond.instanceMethod yX2_faultOfPair, Cond.selects RX2 yX2_faultOfPair yX2_faultOfPair, Cond.code yX2_faultOfPair cX2_faultOfPair 6 (some .int), Cond.methodLink RX2 31 yX2_faultAs, Cond.instanceMethod yX2_faultAs, Cond.selects RX2 yX2_faultAs yX2_faultAs, Cond.code yX2_faultAs cX2_faultAs 3 (some .int), Cond.methodLink RX2 35 yX2_faultAt, Cond.methodLink RX4 266 yX4_add, Cond.methodLink RL 175 yX5_read, Cond.instanceMethod yX5_read, Cond.selects RX5 yX5_read yX5_read, Cond.code yX5_read cX5_read 9 (some .int)]
def wsL_law_r39 : List Cond := [Cond.constantLong RX5 255 (20), Cond.fieldLink RX5 257 "SpringBeadsModel" "torn" "I", Cond.methodLink RL 176 yX4_torn, Cond.instanceMethod yX4_torn, Cond.selects RX4 yX4_torn yX4_torn, Cond.code yX4_torn cX4_torn 1 (some .int), Cond.methodLink RL 179 yX5_torn, Cond.instanceMethod yX5_torn, Cond.selects RX5 yX5_torn yX5_torn, Cond.code yX5_torn cX5_torn 1 (some .int), Cond.methodLink RL 180 yX4_count, Cond.instanceMethod yX4_count, Cond.selects RX4 yX4_count yX4_count, Cond.code yX4_count cX4_count 2 (some .int), Cond.fieldLink RX4 272 "SpringBeads$Sheets" "size" "[I", Cond.methodLink RX4 269 yX2_isNothing, Cond.methodLink RX4 275 yX0_sumOf, Cond.instanceMethod yX0_sumOf, Cond.selects RX0 yX0_sumOf yX0_sumOf, Cond.code yX0_sumOf cX0_sumOf 5 (some .int), Cond.methodLink RX0 58 yX0_rowOf, Cond.methodLink RL 183 yX5_count, Cond.instanceMethod yX5_count, Cond.selects RX5 yX5_count yX5_count]
def wsL_law_r40 : List Cond := [Cond.code yX5_count cX5_count 5 (some .int)]
def wsL_law : List Cond := (wsL_law_r1 ++ (wsL_law_r2 ++ (wsL_law_r3 ++ (wsL_law_r4 ++ (wsL_law_r5 ++ (wsL_law_r6 ++ (wsL_law_r7 ++ (wsL_law_r8 ++ (wsL_law_r9 ++ (wsL_law_r10 ++ (wsL_law_r11 ++ (wsL_law_r12 ++ (wsL_law_r13 ++ (wsL_law_r14 ++ (wsL_law_r15 ++ (wsL_law_r16 ++ (wsL_law_r17 ++ (wsL_law_r18 ++ (wsL_law_r19 ++ (wsL_law_r20 ++ (wsL_law_r21 ++ (wsL_law_r22 ++ (wsL_law_r23 ++ (wsL_law_r24 ++ (wsL_law_r25 ++ (wsL_law_r26 ++ (wsL_law_r27 ++ (wsL_law_r28 ++ (wsL_law_r29 ++ (wsL_law_r30 ++ (wsL_law_r31 ++ (wsL_law_r32 ++ (wsL_law_r33 ++ (wsL_law_r34 ++ (wsL_law_r35 ++ (wsL_law_r36 ++ (wsL_law_r37 ++ (wsL_law_r38 ++ (wsL_law_r39 ++ wsL_law_r40))))))))))))))))))))))))))))))))))))))) ++ wsX40 ++ wsX50 ++ wsX00 ++ wsX30 ++ wsX10 ++ wsX20 ++ ([] : List Cond)
set_option maxRecDepth 20000 in
theorem wsL_law_in : ∀ w ∈ wsL_law, w ∈ lw_tbl := fun w h => (goodIn_p wsL_law [69, 72, 77, 148, 184, 204, 754, 255, 258, 262, 844, 848, 266, 852, 270, 274, 278, 282, 289, 286, 293, 297, 301, 304, 315, 319, 323, 329, 333, 336, 339, 344, 347, 350, 353, 357, 367, 371, 375, 380, 384, 388, 392, 400, 407, 404, 411, 856, 860, 864, 872, 876, 880, 885, 889, 415, 893, 419, 423, 897, 901, 428, 432, 436, 440, 444, 905, 909, 914, 918, 450, 924, 928, 454, 932, 935, 943, 460, 947, 464, 951, 469, 955, 473, 477, 481, 959, 964, 967, 485, 971, 975, 490, 979, 494, 497, 983, 504, 508, 512, 516, 521, 526, 531, 534, 987, 992, 996, 1000, 1004, 1007, 538, 542, 1011, 1014, 1019, 1023, 546, 1027, 550, 553, 1031, 558, 1035, 563, 567, 571, 1039, 1043, 1047, 575, 1052, 579, 1056, 583, 1060, 587, 591, 595, 1064, 599, 1068, 603, 609, 613, 616, 619, 622, 1072, 1080, 1083, 626, 1087, 631, 635, 1091, 639, 1096, 643, 647, 651, 655, 660, 1100, 1104, 1108, 666, 1112, 670, 674, 678, 1116, 1120, 683, 1124, 688, 692, 1129, 696, 1133, 700, 704, 1137, 708, 712, 716, 721, 1142, 725, 729, 733, 1146, 739, 1151, 743, 748, 1155] (by decide +kernel) (by decide +kernel) w h).1
theorem inlX0 : ∀ w ∈ wsX00, w ∈ wsL_law := fun _ h => List.mem_append_left _ (List.mem_append_left _ (List.mem_append_left _ (List.mem_append_left _ (List.mem_append_right _ h))))
theorem inX0 : ∀ w ∈ wsX00, w ∈ lw_tbl := fun w h => wsL_law_in w (inlX0 w h)
theorem inlX1 : ∀ w ∈ wsX10, w ∈ wsL_law := fun _ h => List.mem_append_left _ (List.mem_append_left _ (List.mem_append_right _ h))
theorem inX1 : ∀ w ∈ wsX10, w ∈ lw_tbl := fun w h => wsL_law_in w (inlX1 w h)
theorem inlX2 : ∀ w ∈ wsX20, w ∈ wsL_law := fun _ h => List.mem_append_left _ (List.mem_append_right _ h)
theorem inX2 : ∀ w ∈ wsX20, w ∈ lw_tbl := fun w h => wsL_law_in w (inlX2 w h)
theorem inlX3 : ∀ w ∈ wsX30, w ∈ wsL_law := fun _ h => List.mem_append_left _ (List.mem_append_left _ (List.mem_append_left _ (List.mem_append_right _ h)))
theorem inX3 : ∀ w ∈ wsX30, w ∈ lw_tbl := fun w h => wsL_law_in w (inlX3 w h)
theorem inlX4 : ∀ w ∈ wsX40, w ∈ wsL_law := fun _ h => List.mem_append_left _ (List.mem_append_left _ (List.mem_append_left _ (List.mem_append_left _ (List.mem_append_left _ (List.mem_append_left _ (List.mem_append_right _ h))))))
theorem inX4 : ∀ w ∈ wsX40, w ∈ lw_tbl := fun w h => wsL_law_in w (inlX4 w h)
theorem inlX5 : ∀ w ∈ wsX50, w ∈ wsL_law := fun _ h => List.mem_append_left _ (List.mem_append_left _ (List.mem_append_left _ (List.mem_append_left _ (List.mem_append_left _ (List.mem_append_right _ h)))))
theorem inX5 : ∀ w ∈ wsX50, w ∈ lw_tbl := fun w h => wsL_law_in w (inlX5 w h)
theorem inJ6 : ∀ w ∈ wsJ60, w ∈ lw_tbl := by decide +kernel
theorem inJ9 : ∀ w ∈ wsJ90, w ∈ lw_tbl := by decide +kernel
theorem inJ0 : ∀ w ∈ wsJ00, w ∈ lw_tbl := by decide +kernel
theorem inJ1 : ∀ w ∈ wsJ10, w ∈ lw_tbl := by decide +kernel
theorem inJ2 : ∀ w ∈ wsJ20, w ∈ lw_tbl := by decide +kernel
theorem inJ3 : ∀ w ∈ wsJ30, w ∈ lw_tbl := by decide +kernel
abbrev vwCl : List vw_C := [(RX0, TX0, 16), (RX1, TX1, 4), (RX2, TX2, 3), (RX3, TX3, 8), (RX4, TX4, 10), (RX5, TX5, 28)]
end
section
theorem dX0_init_0 : decode cX0_init 0 = .ok (.aload_n 0, 1) := by decide +kernel
theorem dX0_init_1 : decode cX0_init 1 = .ok (.invokespecial 3, 3) := by decide +kernel
theorem dX0_init_4 : decode cX0_init 4 = .ok (.aload_n 0, 1) := by decide +kernel
theorem dX0_init_5 : decode cX0_init 5 = .ok (.iconst 4, 1) := by decide +kernel
theorem dX0_init_6 : decode cX0_init 6 = .ok (.newarray .int, 2) := by decide +kernel
theorem dX0_init_8 : decode cX0_init 8 = .ok (.putfield 9, 3) := by decide +kernel
theorem dX0_init_11 : decode cX0_init 11 = .ok (.aload_n 0, 1) := by decide +kernel
theorem dX0_init_12 : decode cX0_init 12 = .ok (.iconst 4, 1) := by decide +kernel
theorem dX0_init_13 : decode cX0_init 13 = .ok (.newarray .int, 2) := by decide +kernel
theorem dX0_init_15 : decode cX0_init 15 = .ok (.putfield 15, 3) := by decide +kernel
theorem dX0_init_18 : decode cX0_init 18 = .ok (.aload_n 0, 1) := by decide +kernel
theorem dX0_init_19 : decode cX0_init 19 = .ok (.iconst 4, 1) := by decide +kernel
theorem dX0_init_20 : decode cX0_init 20 = .ok (.newarray .int, 2) := by decide +kernel
theorem dX0_init_22 : decode cX0_init 22 = .ok (.putfield 18, 3) := by decide +kernel
theorem dX0_init_25 : decode cX0_init 25 = .ok (.aload_n 0, 1) := by decide +kernel
theorem dX0_init_26 : decode cX0_init 26 = .ok (.iconst 4, 1) := by decide +kernel
theorem dX0_init_27 : decode cX0_init 27 = .ok (.newarray .int, 2) := by decide +kernel
theorem dX0_init_29 : decode cX0_init 29 = .ok (.putfield 21, 3) := by decide +kernel
theorem dX0_init_32 : decode cX0_init 32 = .ok (.aload_n 0, 1) := by decide +kernel
theorem dX0_init_33 : decode cX0_init 33 = .ok (.iconst 4, 1) := by decide +kernel
theorem dX0_init_34 : decode cX0_init 34 = .ok (.newarray .int, 2) := by decide +kernel
theorem dX0_init_36 : decode cX0_init 36 = .ok (.putfield 24, 3) := by decide +kernel
theorem dX0_init_39 : decode cX0_init 39 = .ok (.aload_n 0, 1) := by decide +kernel
theorem dX0_init_40 : decode cX0_init 40 = .ok (.iconst 4, 1) := by decide +kernel
theorem dX0_init_41 : decode cX0_init 41 = .ok (.newarray .int, 2) := by decide +kernel
theorem dX0_init_43 : decode cX0_init 43 = .ok (.putfield 27, 3) := by decide +kernel
theorem dX0_init_46 : decode cX0_init 46 = .ok (.aload_n 0, 1) := by decide +kernel
theorem dX0_init_47 : decode cX0_init 47 = .ok (.bipush 12, 2) := by decide +kernel
theorem dX0_init_49 : decode cX0_init 49 = .ok (.newarray .int, 2) := by decide +kernel
theorem dX0_init_51 : decode cX0_init 51 = .ok (.putfield 30, 3) := by decide +kernel
theorem dX0_init_54 : decode cX0_init 54 = .ok (.aload_n 0, 1) := by decide +kernel
theorem dX0_init_55 : decode cX0_init 55 = .ok (.bipush 12, 2) := by decide +kernel
theorem dX0_init_57 : decode cX0_init 57 = .ok (.newarray .int, 2) := by decide +kernel
theorem dX0_init_59 : decode cX0_init 59 = .ok (.putfield 33, 3) := by decide +kernel
theorem dX0_init_62 : decode cX0_init 62 = .ok (.aload_n 0, 1) := by decide +kernel
theorem dX0_init_63 : decode cX0_init 63 = .ok (.iconst 5, 1) := by decide +kernel
theorem dX0_init_64 : decode cX0_init 64 = .ok (.newarray .int, 2) := by decide +kernel
theorem dX0_init_66 : decode cX0_init 66 = .ok (.putfield 36, 3) := by decide +kernel
theorem dX0_init_69 : decode cX0_init 69 = .ok (.return_, 1) := by decide +kernel
theorem dX0_clear_0 : decode cX0_clear 0 = .ok (.aload_n 0, 1) := by decide +kernel
theorem dX0_clear_1 : decode cX0_clear 1 = .ok (.iconst 0, 1) := by decide +kernel
theorem dX0_clear_2 : decode cX0_clear 2 = .ok (.putfield 39, 3) := by decide +kernel
theorem dX0_clear_5 : decode cX0_clear 5 = .ok (.aload_n 0, 1) := by decide +kernel
theorem dX0_clear_6 : decode cX0_clear 6 = .ok (.iconst 0, 1) := by decide +kernel
theorem dX0_clear_7 : decode cX0_clear 7 = .ok (.putfield 43, 3) := by decide +kernel
theorem dX0_clear_10 : decode cX0_clear 10 = .ok (.aload_n 0, 1) := by decide +kernel
theorem dX0_clear_11 : decode cX0_clear 11 = .ok (.iconst 0, 1) := by decide +kernel
theorem dX0_clear_12 : decode cX0_clear 12 = .ok (.putfield 46, 3) := by decide +kernel
theorem dX0_clear_15 : decode cX0_clear 15 = .ok (.aload_n 0, 1) := by decide +kernel
theorem dX0_clear_16 : decode cX0_clear 16 = .ok (.iconst 0, 1) := by decide +kernel
theorem dX0_clear_17 : decode cX0_clear 17 = .ok (.putfield 49, 3) := by decide +kernel
theorem dX0_clear_20 : decode cX0_clear 20 = .ok (.return_, 1) := by decide +kernel
theorem dX0_becomeLike_0 : decode cX0_becomeLike 0 = .ok (.aload_n 0, 1) := by decide +kernel
theorem dX0_becomeLike_1 : decode cX0_becomeLike 1 = .ok (.aload_n 1, 1) := by decide +kernel
theorem dX0_becomeLike_2 : decode cX0_becomeLike 2 = .ok (.getfield 39, 3) := by decide +kernel
theorem dX0_becomeLike_5 : decode cX0_becomeLike 5 = .ok (.putfield 39, 3) := by decide +kernel
theorem dX0_becomeLike_8 : decode cX0_becomeLike 8 = .ok (.aload_n 0, 1) := by decide +kernel
theorem dX0_becomeLike_9 : decode cX0_becomeLike 9 = .ok (.aload_n 1, 1) := by decide +kernel
theorem dX0_becomeLike_10 : decode cX0_becomeLike 10 = .ok (.getfield 43, 3) := by decide +kernel
theorem dX0_becomeLike_13 : decode cX0_becomeLike 13 = .ok (.putfield 43, 3) := by decide +kernel
theorem dX0_becomeLike_16 : decode cX0_becomeLike 16 = .ok (.aload_n 0, 1) := by decide +kernel
theorem dX0_becomeLike_17 : decode cX0_becomeLike 17 = .ok (.aload_n 1, 1) := by decide +kernel
theorem dX0_becomeLike_18 : decode cX0_becomeLike 18 = .ok (.getfield 46, 3) := by decide +kernel
theorem dX0_becomeLike_21 : decode cX0_becomeLike 21 = .ok (.putfield 46, 3) := by decide +kernel
theorem dX0_becomeLike_24 : decode cX0_becomeLike 24 = .ok (.aload_n 0, 1) := by decide +kernel
theorem dX0_becomeLike_25 : decode cX0_becomeLike 25 = .ok (.aload_n 1, 1) := by decide +kernel
theorem dX0_becomeLike_26 : decode cX0_becomeLike 26 = .ok (.getfield 49, 3) := by decide +kernel
theorem dX0_becomeLike_29 : decode cX0_becomeLike 29 = .ok (.putfield 49, 3) := by decide +kernel
theorem dX0_becomeLike_32 : decode cX0_becomeLike 32 = .ok (.aload_n 0, 1) := by decide +kernel
theorem dX0_becomeLike_33 : decode cX0_becomeLike 33 = .ok (.iconst 0, 1) := by decide +kernel
theorem dX0_becomeLike_34 : decode cX0_becomeLike 34 = .ok (.putfield 52, 3) := by decide +kernel
theorem dX0_becomeLike_37 : decode cX0_becomeLike 37 = .ok (.aload_n 0, 1) := by decide +kernel
theorem dX0_becomeLike_38 : decode cX0_becomeLike 38 = .ok (.iconst 0, 1) := by decide +kernel
theorem dX0_becomeLike_39 : decode cX0_becomeLike 39 = .ok (.putfield 55, 3) := by decide +kernel
theorem dX0_becomeLike_42 : decode cX0_becomeLike 42 = .ok (.iconst 0, 1) := by decide +kernel
theorem dX0_becomeLike_43 : decode cX0_becomeLike 43 = .ok (.istore_n 2, 1) := by decide +kernel
theorem dX0_becomeLike_44 : decode cX0_becomeLike 44 = .ok (.iload_n 2, 1) := by decide +kernel
theorem dX0_becomeLike_45 : decode cX0_becomeLike 45 = .ok (.iconst 4, 1) := by decide +kernel
theorem dX0_becomeLike_46 : decode cX0_becomeLike 46 = .ok (.if_icmp .ge 81, 3) := by decide +kernel
theorem dX0_becomeLike_49 : decode cX0_becomeLike 49 = .ok (.aload_n 0, 1) := by decide +kernel
theorem dX0_becomeLike_50 : decode cX0_becomeLike 50 = .ok (.getfield 9, 3) := by decide +kernel
theorem dX0_becomeLike_53 : decode cX0_becomeLike 53 = .ok (.iload_n 2, 1) := by decide +kernel
theorem dX0_becomeLike_54 : decode cX0_becomeLike 54 = .ok (.aload_n 1, 1) := by decide +kernel
theorem dX0_becomeLike_55 : decode cX0_becomeLike 55 = .ok (.getfield 9, 3) := by decide +kernel
theorem dX0_becomeLike_58 : decode cX0_becomeLike 58 = .ok (.iload_n 2, 1) := by decide +kernel
theorem dX0_becomeLike_59 : decode cX0_becomeLike 59 = .ok (.iaload, 1) := by decide +kernel
theorem dX0_becomeLike_60 : decode cX0_becomeLike 60 = .ok (.iastore, 1) := by decide +kernel
theorem dX0_becomeLike_61 : decode cX0_becomeLike 61 = .ok (.aload_n 0, 1) := by decide +kernel
theorem dX0_becomeLike_62 : decode cX0_becomeLike 62 = .ok (.getfield 15, 3) := by decide +kernel
theorem dX0_becomeLike_65 : decode cX0_becomeLike 65 = .ok (.iload_n 2, 1) := by decide +kernel
theorem dX0_becomeLike_66 : decode cX0_becomeLike 66 = .ok (.aload_n 1, 1) := by decide +kernel
theorem dX0_becomeLike_67 : decode cX0_becomeLike 67 = .ok (.getfield 15, 3) := by decide +kernel
theorem dX0_becomeLike_70 : decode cX0_becomeLike 70 = .ok (.iload_n 2, 1) := by decide +kernel
theorem dX0_becomeLike_71 : decode cX0_becomeLike 71 = .ok (.iaload, 1) := by decide +kernel
theorem dX0_becomeLike_72 : decode cX0_becomeLike 72 = .ok (.iastore, 1) := by decide +kernel
theorem dX0_becomeLike_73 : decode cX0_becomeLike 73 = .ok (.aload_n 0, 1) := by decide +kernel
theorem dX0_becomeLike_74 : decode cX0_becomeLike 74 = .ok (.getfield 18, 3) := by decide +kernel
theorem dX0_becomeLike_77 : decode cX0_becomeLike 77 = .ok (.iload_n 2, 1) := by decide +kernel
theorem dX0_becomeLike_78 : decode cX0_becomeLike 78 = .ok (.aload_n 1, 1) := by decide +kernel
theorem dX0_becomeLike_79 : decode cX0_becomeLike 79 = .ok (.getfield 18, 3) := by decide +kernel
theorem dX0_becomeLike_82 : decode cX0_becomeLike 82 = .ok (.iload_n 2, 1) := by decide +kernel
theorem dX0_becomeLike_83 : decode cX0_becomeLike 83 = .ok (.iaload, 1) := by decide +kernel
theorem dX0_becomeLike_84 : decode cX0_becomeLike 84 = .ok (.iastore, 1) := by decide +kernel
theorem dX0_becomeLike_85 : decode cX0_becomeLike 85 = .ok (.aload_n 0, 1) := by decide +kernel
theorem dX0_becomeLike_86 : decode cX0_becomeLike 86 = .ok (.getfield 21, 3) := by decide +kernel
theorem dX0_becomeLike_89 : decode cX0_becomeLike 89 = .ok (.iload_n 2, 1) := by decide +kernel
theorem dX0_becomeLike_90 : decode cX0_becomeLike 90 = .ok (.aload_n 1, 1) := by decide +kernel
theorem dX0_becomeLike_91 : decode cX0_becomeLike 91 = .ok (.getfield 21, 3) := by decide +kernel
theorem dX0_becomeLike_94 : decode cX0_becomeLike 94 = .ok (.iload_n 2, 1) := by decide +kernel
theorem dX0_becomeLike_95 : decode cX0_becomeLike 95 = .ok (.iaload, 1) := by decide +kernel
theorem dX0_becomeLike_96 : decode cX0_becomeLike 96 = .ok (.iastore, 1) := by decide +kernel
theorem dX0_becomeLike_97 : decode cX0_becomeLike 97 = .ok (.aload_n 0, 1) := by decide +kernel
theorem dX0_becomeLike_98 : decode cX0_becomeLike 98 = .ok (.getfield 24, 3) := by decide +kernel
theorem dX0_becomeLike_101 : decode cX0_becomeLike 101 = .ok (.iload_n 2, 1) := by decide +kernel
theorem dX0_becomeLike_102 : decode cX0_becomeLike 102 = .ok (.aload_n 1, 1) := by decide +kernel
theorem dX0_becomeLike_103 : decode cX0_becomeLike 103 = .ok (.getfield 24, 3) := by decide +kernel
theorem dX0_becomeLike_106 : decode cX0_becomeLike 106 = .ok (.iload_n 2, 1) := by decide +kernel
theorem dX0_becomeLike_107 : decode cX0_becomeLike 107 = .ok (.iaload, 1) := by decide +kernel
theorem dX0_becomeLike_108 : decode cX0_becomeLike 108 = .ok (.iastore, 1) := by decide +kernel
theorem dX0_becomeLike_109 : decode cX0_becomeLike 109 = .ok (.aload_n 0, 1) := by decide +kernel
theorem dX0_becomeLike_110 : decode cX0_becomeLike 110 = .ok (.getfield 27, 3) := by decide +kernel
theorem dX0_becomeLike_113 : decode cX0_becomeLike 113 = .ok (.iload_n 2, 1) := by decide +kernel
theorem dX0_becomeLike_114 : decode cX0_becomeLike 114 = .ok (.aload_n 1, 1) := by decide +kernel
theorem dX0_becomeLike_115 : decode cX0_becomeLike 115 = .ok (.getfield 27, 3) := by decide +kernel
theorem dX0_becomeLike_118 : decode cX0_becomeLike 118 = .ok (.iload_n 2, 1) := by decide +kernel
theorem dX0_becomeLike_119 : decode cX0_becomeLike 119 = .ok (.iaload, 1) := by decide +kernel
theorem dX0_becomeLike_120 : decode cX0_becomeLike 120 = .ok (.iastore, 1) := by decide +kernel
theorem dX0_becomeLike_121 : decode cX0_becomeLike 121 = .ok (.iinc 2 1, 3) := by decide +kernel
theorem dX0_becomeLike_124 : decode cX0_becomeLike 124 = .ok (.goto (-80), 3) := by decide +kernel
theorem dX0_becomeLike_127 : decode cX0_becomeLike 127 = .ok (.iconst 0, 1) := by decide +kernel
theorem dX0_becomeLike_128 : decode cX0_becomeLike 128 = .ok (.istore_n 2, 1) := by decide +kernel
theorem dX0_becomeLike_129 : decode cX0_becomeLike 129 = .ok (.iload_n 2, 1) := by decide +kernel
theorem dX0_becomeLike_130 : decode cX0_becomeLike 130 = .ok (.bipush 12, 2) := by decide +kernel
theorem dX0_becomeLike_132 : decode cX0_becomeLike 132 = .ok (.if_icmp .ge 33, 3) := by decide +kernel
theorem dX0_becomeLike_135 : decode cX0_becomeLike 135 = .ok (.aload_n 0, 1) := by decide +kernel
theorem dX0_becomeLike_136 : decode cX0_becomeLike 136 = .ok (.getfield 30, 3) := by decide +kernel
theorem dX0_becomeLike_139 : decode cX0_becomeLike 139 = .ok (.iload_n 2, 1) := by decide +kernel
theorem dX0_becomeLike_140 : decode cX0_becomeLike 140 = .ok (.aload_n 1, 1) := by decide +kernel
theorem dX0_becomeLike_141 : decode cX0_becomeLike 141 = .ok (.getfield 30, 3) := by decide +kernel
theorem dX0_becomeLike_144 : decode cX0_becomeLike 144 = .ok (.iload_n 2, 1) := by decide +kernel
theorem dX0_becomeLike_145 : decode cX0_becomeLike 145 = .ok (.iaload, 1) := by decide +kernel
theorem dX0_becomeLike_146 : decode cX0_becomeLike 146 = .ok (.iastore, 1) := by decide +kernel
theorem dX0_becomeLike_147 : decode cX0_becomeLike 147 = .ok (.aload_n 0, 1) := by decide +kernel
theorem dX0_becomeLike_148 : decode cX0_becomeLike 148 = .ok (.getfield 33, 3) := by decide +kernel
theorem dX0_becomeLike_151 : decode cX0_becomeLike 151 = .ok (.iload_n 2, 1) := by decide +kernel
theorem dX0_becomeLike_152 : decode cX0_becomeLike 152 = .ok (.aload_n 1, 1) := by decide +kernel
theorem dX0_becomeLike_153 : decode cX0_becomeLike 153 = .ok (.getfield 33, 3) := by decide +kernel
theorem dX0_becomeLike_156 : decode cX0_becomeLike 156 = .ok (.iload_n 2, 1) := by decide +kernel
theorem dX0_becomeLike_157 : decode cX0_becomeLike 157 = .ok (.iaload, 1) := by decide +kernel
theorem dX0_becomeLike_158 : decode cX0_becomeLike 158 = .ok (.iastore, 1) := by decide +kernel
theorem dX0_becomeLike_159 : decode cX0_becomeLike 159 = .ok (.iinc 2 1, 3) := by decide +kernel
theorem dX0_becomeLike_162 : decode cX0_becomeLike 162 = .ok (.goto (-33), 3) := by decide +kernel
theorem dX0_becomeLike_165 : decode cX0_becomeLike 165 = .ok (.return_, 1) := by decide +kernel
theorem dX0_has_0 : decode cX0_has 0 = .ok (.iload_n 1, 1) := by decide +kernel
theorem dX0_has_1 : decode cX0_has 1 = .ok (.ifCond .lt 15, 3) := by decide +kernel
theorem dX0_has_4 : decode cX0_has 4 = .ok (.iload_n 1, 1) := by decide +kernel
theorem dX0_has_5 : decode cX0_has 5 = .ok (.aload_n 0, 1) := by decide +kernel
theorem dX0_has_6 : decode cX0_has 6 = .ok (.getfield 39, 3) := by decide +kernel
theorem dX0_has_9 : decode cX0_has 9 = .ok (.if_icmp .ge 7, 3) := by decide +kernel
theorem dX0_has_12 : decode cX0_has 12 = .ok (.iconst 1, 1) := by decide +kernel
theorem dX0_has_13 : decode cX0_has 13 = .ok (.goto 4, 3) := by decide +kernel
theorem dX0_has_16 : decode cX0_has 16 = .ok (.iconst 0, 1) := by decide +kernel
theorem dX0_has_17 : decode cX0_has 17 = .ok (.ireturn, 1) := by decide +kernel
theorem dX0_rowOf_0 : decode cX0_rowOf 0 = .ok (.iload_n 1, 1) := by decide +kernel
theorem dX0_rowOf_1 : decode cX0_rowOf 1 = .ok (.tableswitch 51 0 3 #[31, 36, 41, 46], 31) := by decide +kernel
theorem dX0_rowOf_32 : decode cX0_rowOf 32 = .ok (.aload_n 0, 1) := by decide +kernel
theorem dX0_rowOf_33 : decode cX0_rowOf 33 = .ok (.getfield 9, 3) := by decide +kernel
theorem dX0_rowOf_36 : decode cX0_rowOf 36 = .ok (.areturn, 1) := by decide +kernel
theorem dX0_rowOf_37 : decode cX0_rowOf 37 = .ok (.aload_n 0, 1) := by decide +kernel
theorem dX0_rowOf_38 : decode cX0_rowOf 38 = .ok (.getfield 15, 3) := by decide +kernel
theorem dX0_rowOf_41 : decode cX0_rowOf 41 = .ok (.areturn, 1) := by decide +kernel
theorem dX0_rowOf_42 : decode cX0_rowOf 42 = .ok (.aload_n 0, 1) := by decide +kernel
theorem dX0_rowOf_43 : decode cX0_rowOf 43 = .ok (.getfield 18, 3) := by decide +kernel
theorem dX0_rowOf_46 : decode cX0_rowOf 46 = .ok (.areturn, 1) := by decide +kernel
theorem dX0_rowOf_47 : decode cX0_rowOf 47 = .ok (.aload_n 0, 1) := by decide +kernel
theorem dX0_rowOf_48 : decode cX0_rowOf 48 = .ok (.getfield 21, 3) := by decide +kernel
theorem dX0_rowOf_51 : decode cX0_rowOf 51 = .ok (.areturn, 1) := by decide +kernel
theorem dX0_rowOf_52 : decode cX0_rowOf 52 = .ok (.aload_n 0, 1) := by decide +kernel
theorem dX0_rowOf_53 : decode cX0_rowOf 53 = .ok (.getfield 24, 3) := by decide +kernel
theorem dX0_rowOf_56 : decode cX0_rowOf 56 = .ok (.areturn, 1) := by decide +kernel
theorem dX0_sumOf_0 : decode cX0_sumOf 0 = .ok (.aload_n 0, 1) := by decide +kernel
theorem dX0_sumOf_1 : decode cX0_sumOf 1 = .ok (.iload_n 1, 1) := by decide +kernel
theorem dX0_sumOf_2 : decode cX0_sumOf 2 = .ok (.invokevirtual 58, 3) := by decide +kernel
theorem dX0_sumOf_5 : decode cX0_sumOf 5 = .ok (.astore_n 2, 1) := by decide +kernel
theorem dX0_sumOf_6 : decode cX0_sumOf 6 = .ok (.iconst 0, 1) := by decide +kernel
theorem dX0_sumOf_7 : decode cX0_sumOf 7 = .ok (.istore_n 3, 1) := by decide +kernel
theorem dX0_sumOf_8 : decode cX0_sumOf 8 = .ok (.iconst 0, 1) := by decide +kernel
theorem dX0_sumOf_9 : decode cX0_sumOf 9 = .ok (.istore 4, 2) := by decide +kernel
theorem dX0_sumOf_11 : decode cX0_sumOf 11 = .ok (.iload 4, 2) := by decide +kernel
theorem dX0_sumOf_13 : decode cX0_sumOf 13 = .ok (.aload_n 0, 1) := by decide +kernel
theorem dX0_sumOf_14 : decode cX0_sumOf 14 = .ok (.getfield 39, 3) := by decide +kernel
theorem dX0_sumOf_17 : decode cX0_sumOf 17 = .ok (.if_icmp .ge 16, 3) := by decide +kernel
theorem dX0_sumOf_20 : decode cX0_sumOf 20 = .ok (.iload_n 3, 1) := by decide +kernel
theorem dX0_sumOf_21 : decode cX0_sumOf 21 = .ok (.aload_n 2, 1) := by decide +kernel
theorem dX0_sumOf_22 : decode cX0_sumOf 22 = .ok (.iload 4, 2) := by decide +kernel
theorem dX0_sumOf_24 : decode cX0_sumOf 24 = .ok (.iaload, 1) := by decide +kernel
theorem dX0_sumOf_25 : decode cX0_sumOf 25 = .ok (.iadd, 1) := by decide +kernel
theorem dX0_sumOf_26 : decode cX0_sumOf 26 = .ok (.istore_n 3, 1) := by decide +kernel
theorem dX0_sumOf_27 : decode cX0_sumOf 27 = .ok (.iinc 4 1, 3) := by decide +kernel
theorem dX0_sumOf_30 : decode cX0_sumOf 30 = .ok (.goto (-19), 3) := by decide +kernel
theorem dX0_sumOf_33 : decode cX0_sumOf 33 = .ok (.iload_n 3, 1) := by decide +kernel
theorem dX0_sumOf_34 : decode cX0_sumOf 34 = .ok (.ireturn, 1) := by decide +kernel
theorem dX0_lastPlace_0 : decode cX0_lastPlace 0 = .ok (.aload_n 0, 1) := by decide +kernel
theorem dX0_lastPlace_1 : decode cX0_lastPlace 1 = .ok (.getfield 39, 3) := by decide +kernel
theorem dX0_lastPlace_4 : decode cX0_lastPlace 4 = .ok (.ifCond .le 17, 3) := by decide +kernel
theorem dX0_lastPlace_7 : decode cX0_lastPlace 7 = .ok (.aload_n 0, 1) := by decide +kernel
theorem dX0_lastPlace_8 : decode cX0_lastPlace 8 = .ok (.getfield 24, 3) := by decide +kernel
theorem dX0_lastPlace_11 : decode cX0_lastPlace 11 = .ok (.aload_n 0, 1) := by decide +kernel
theorem dX0_lastPlace_12 : decode cX0_lastPlace 12 = .ok (.getfield 39, 3) := by decide +kernel
theorem dX0_lastPlace_15 : decode cX0_lastPlace 15 = .ok (.iconst 1, 1) := by decide +kernel
theorem dX0_lastPlace_16 : decode cX0_lastPlace 16 = .ok (.isub, 1) := by decide +kernel
theorem dX0_lastPlace_17 : decode cX0_lastPlace 17 = .ok (.iaload, 1) := by decide +kernel
theorem dX0_lastPlace_18 : decode cX0_lastPlace 18 = .ok (.goto 4, 3) := by decide +kernel
theorem dX0_lastPlace_21 : decode cX0_lastPlace 21 = .ok (.iconst 0, 1) := by decide +kernel
theorem dX0_lastPlace_22 : decode cX0_lastPlace 22 = .ok (.ireturn, 1) := by decide +kernel
theorem dX0_stillBits_0 : decode cX0_stillBits 0 = .ok (.iconst 0, 1) := by decide +kernel
theorem dX0_stillBits_1 : decode cX0_stillBits 1 = .ok (.istore_n 1, 1) := by decide +kernel
theorem dX0_stillBits_2 : decode cX0_stillBits 2 = .ok (.iconst 0, 1) := by decide +kernel
theorem dX0_stillBits_3 : decode cX0_stillBits 3 = .ok (.istore_n 2, 1) := by decide +kernel
theorem dX0_stillBits_4 : decode cX0_stillBits 4 = .ok (.iload_n 2, 1) := by decide +kernel
theorem dX0_stillBits_5 : decode cX0_stillBits 5 = .ok (.aload_n 0, 1) := by decide +kernel
theorem dX0_stillBits_6 : decode cX0_stillBits 6 = .ok (.getfield 39, 3) := by decide +kernel
theorem dX0_stillBits_9 : decode cX0_stillBits 9 = .ok (.if_icmp .ge 24, 3) := by decide +kernel
theorem dX0_stillBits_12 : decode cX0_stillBits 12 = .ok (.aload_n 0, 1) := by decide +kernel
theorem dX0_stillBits_13 : decode cX0_stillBits 13 = .ok (.getfield 27, 3) := by decide +kernel
theorem dX0_stillBits_16 : decode cX0_stillBits 16 = .ok (.iload_n 2, 1) := by decide +kernel
theorem dX0_stillBits_17 : decode cX0_stillBits 17 = .ok (.iaload, 1) := by decide +kernel
theorem dX0_stillBits_18 : decode cX0_stillBits 18 = .ok (.ifCond .ne 9, 3) := by decide +kernel
theorem dX0_stillBits_21 : decode cX0_stillBits 21 = .ok (.iload_n 1, 1) := by decide +kernel
theorem dX0_stillBits_22 : decode cX0_stillBits 22 = .ok (.iconst 1, 1) := by decide +kernel
theorem dX0_stillBits_23 : decode cX0_stillBits 23 = .ok (.iload_n 2, 1) := by decide +kernel
theorem dX0_stillBits_24 : decode cX0_stillBits 24 = .ok (.ishl, 1) := by decide +kernel
theorem dX0_stillBits_25 : decode cX0_stillBits 25 = .ok (.ior, 1) := by decide +kernel
theorem dX0_stillBits_26 : decode cX0_stillBits 26 = .ok (.istore_n 1, 1) := by decide +kernel
theorem dX0_stillBits_27 : decode cX0_stillBits 27 = .ok (.iinc 2 1, 3) := by decide +kernel
theorem dX0_stillBits_30 : decode cX0_stillBits 30 = .ok (.goto (-26), 3) := by decide +kernel
theorem dX0_stillBits_33 : decode cX0_stillBits 33 = .ok (.iload_n 1, 1) := by decide +kernel
theorem dX0_stillBits_34 : decode cX0_stillBits 34 = .ok (.ireturn, 1) := by decide +kernel
theorem dX0_addBead_0 : decode cX0_addBead 0 = .ok (.aload_n 0, 1) := by decide +kernel
theorem dX0_addBead_1 : decode cX0_addBead 1 = .ok (.getfield 39, 3) := by decide +kernel
theorem dX0_addBead_4 : decode cX0_addBead 4 = .ok (.iconst 4, 1) := by decide +kernel
theorem dX0_addBead_5 : decode cX0_addBead 5 = .ok (.if_icmp .lt 5, 3) := by decide +kernel
theorem dX0_addBead_8 : decode cX0_addBead 8 = .ok (.iconst 0, 1) := by decide +kernel
theorem dX0_addBead_9 : decode cX0_addBead 9 = .ok (.ireturn, 1) := by decide +kernel
theorem dX0_addBead_10 : decode cX0_addBead 10 = .ok (.sipush 300, 3) := by decide +kernel
theorem dX0_addBead_13 : decode cX0_addBead 13 = .ok (.aload_n 0, 1) := by decide +kernel
theorem dX0_addBead_14 : decode cX0_addBead 14 = .ok (.invokevirtual 62, 3) := by decide +kernel
theorem dX0_addBead_17 : decode cX0_addBead 17 = .ok (.iload_n 2, 1) := by decide +kernel
theorem dX0_addBead_18 : decode cX0_addBead 18 = .ok (.iadd, 1) := by decide +kernel
theorem dX0_addBead_19 : decode cX0_addBead 19 = .ok (.invokestatic 66, 3) := by decide +kernel
theorem dX0_addBead_22 : decode cX0_addBead 22 = .ok (.istore 5, 2) := by decide +kernel
theorem dX0_addBead_24 : decode cX0_addBead 24 = .ok (.aload_n 0, 1) := by decide +kernel
theorem dX0_addBead_25 : decode cX0_addBead 25 = .ok (.getfield 9, 3) := by decide +kernel
theorem dX0_addBead_28 : decode cX0_addBead 28 = .ok (.aload_n 0, 1) := by decide +kernel
theorem dX0_addBead_29 : decode cX0_addBead 29 = .ok (.getfield 39, 3) := by decide +kernel
theorem dX0_addBead_32 : decode cX0_addBead 32 = .ok (.iload_n 1, 1) := by decide +kernel
theorem dX0_addBead_33 : decode cX0_addBead 33 = .ok (.iastore, 1) := by decide +kernel
theorem dX0_addBead_34 : decode cX0_addBead 34 = .ok (.aload_n 0, 1) := by decide +kernel
theorem dX0_addBead_35 : decode cX0_addBead 35 = .ok (.getfield 15, 3) := by decide +kernel
theorem dX0_addBead_38 : decode cX0_addBead 38 = .ok (.aload_n 0, 1) := by decide +kernel
theorem dX0_addBead_39 : decode cX0_addBead 39 = .ok (.getfield 39, 3) := by decide +kernel
theorem dX0_addBead_42 : decode cX0_addBead 42 = .ok (.iload_n 2, 1) := by decide +kernel
theorem dX0_addBead_43 : decode cX0_addBead 43 = .ok (.iastore, 1) := by decide +kernel
theorem dX0_addBead_44 : decode cX0_addBead 44 = .ok (.aload_n 0, 1) := by decide +kernel
theorem dX0_addBead_45 : decode cX0_addBead 45 = .ok (.getfield 18, 3) := by decide +kernel
theorem dX0_addBead_48 : decode cX0_addBead 48 = .ok (.aload_n 0, 1) := by decide +kernel
theorem dX0_addBead_49 : decode cX0_addBead 49 = .ok (.getfield 39, 3) := by decide +kernel
theorem dX0_addBead_52 : decode cX0_addBead 52 = .ok (.iload_n 3, 1) := by decide +kernel
theorem dX0_addBead_53 : decode cX0_addBead 53 = .ok (.iastore, 1) := by decide +kernel
theorem dX0_addBead_54 : decode cX0_addBead 54 = .ok (.aload_n 0, 1) := by decide +kernel
theorem dX0_addBead_55 : decode cX0_addBead 55 = .ok (.getfield 21, 3) := by decide +kernel
theorem dX0_addBead_58 : decode cX0_addBead 58 = .ok (.aload_n 0, 1) := by decide +kernel
theorem dX0_addBead_59 : decode cX0_addBead 59 = .ok (.getfield 39, 3) := by decide +kernel
theorem dX0_addBead_62 : decode cX0_addBead 62 = .ok (.iload 4, 2) := by decide +kernel
theorem dX0_addBead_64 : decode cX0_addBead 64 = .ok (.iastore, 1) := by decide +kernel
theorem dX0_addBead_65 : decode cX0_addBead 65 = .ok (.aload_n 0, 1) := by decide +kernel
theorem dX0_addBead_66 : decode cX0_addBead 66 = .ok (.getfield 24, 3) := by decide +kernel
theorem dX0_addBead_69 : decode cX0_addBead 69 = .ok (.aload_n 0, 1) := by decide +kernel
theorem dX0_addBead_70 : decode cX0_addBead 70 = .ok (.getfield 39, 3) := by decide +kernel
theorem dX0_addBead_73 : decode cX0_addBead 73 = .ok (.iload 5, 2) := by decide +kernel
theorem dX0_addBead_75 : decode cX0_addBead 75 = .ok (.iastore, 1) := by decide +kernel
theorem dX0_addBead_76 : decode cX0_addBead 76 = .ok (.aload_n 0, 1) := by decide +kernel
theorem dX0_addBead_77 : decode cX0_addBead 77 = .ok (.getfield 27, 3) := by decide +kernel
theorem dX0_addBead_80 : decode cX0_addBead 80 = .ok (.aload_n 0, 1) := by decide +kernel
theorem dX0_addBead_81 : decode cX0_addBead 81 = .ok (.getfield 39, 3) := by decide +kernel
theorem dX0_addBead_84 : decode cX0_addBead 84 = .ok (.iconst 0, 1) := by decide +kernel
theorem dX0_addBead_85 : decode cX0_addBead 85 = .ok (.iastore, 1) := by decide +kernel
theorem dX0_addBead_86 : decode cX0_addBead 86 = .ok (.aload_n 0, 1) := by decide +kernel
theorem dX0_addBead_87 : decode cX0_addBead 87 = .ok (.dup, 1) := by decide +kernel
theorem dX0_addBead_88 : decode cX0_addBead 88 = .ok (.getfield 39, 3) := by decide +kernel
theorem dX0_addBead_91 : decode cX0_addBead 91 = .ok (.iconst 1, 1) := by decide +kernel
theorem dX0_addBead_92 : decode cX0_addBead 92 = .ok (.iadd, 1) := by decide +kernel
theorem dX0_addBead_93 : decode cX0_addBead 93 = .ok (.putfield 39, 3) := by decide +kernel
theorem dX0_addBead_96 : decode cX0_addBead 96 = .ok (.iconst 1, 1) := by decide +kernel
theorem dX0_addBead_97 : decode cX0_addBead 97 = .ok (.ireturn, 1) := by decide +kernel
theorem dX0_addKnock_0 : decode cX0_addKnock 0 = .ok (.aload_n 0, 1) := by decide +kernel
theorem dX0_addKnock_1 : decode cX0_addKnock 1 = .ok (.getfield 43, 3) := by decide +kernel
theorem dX0_addKnock_4 : decode cX0_addKnock 4 = .ok (.bipush 12, 2) := by decide +kernel
theorem dX0_addKnock_6 : decode cX0_addKnock 6 = .ok (.if_icmp .lt 5, 3) := by decide +kernel
theorem dX0_addKnock_9 : decode cX0_addKnock 9 = .ok (.iconst 0, 1) := by decide +kernel
theorem dX0_addKnock_10 : decode cX0_addKnock 10 = .ok (.ireturn, 1) := by decide +kernel
theorem dX0_addKnock_11 : decode cX0_addKnock 11 = .ok (.aload_n 0, 1) := by decide +kernel
theorem dX0_addKnock_12 : decode cX0_addKnock 12 = .ok (.getfield 30, 3) := by decide +kernel
theorem dX0_addKnock_15 : decode cX0_addKnock 15 = .ok (.aload_n 0, 1) := by decide +kernel
theorem dX0_addKnock_16 : decode cX0_addKnock 16 = .ok (.getfield 43, 3) := by decide +kernel
theorem dX0_addKnock_19 : decode cX0_addKnock 19 = .ok (.iload_n 1, 1) := by decide +kernel
theorem dX0_addKnock_20 : decode cX0_addKnock 20 = .ok (.iastore, 1) := by decide +kernel
theorem dX0_addKnock_21 : decode cX0_addKnock 21 = .ok (.aload_n 0, 1) := by decide +kernel
theorem dX0_addKnock_22 : decode cX0_addKnock 22 = .ok (.getfield 33, 3) := by decide +kernel
theorem dX0_addKnock_25 : decode cX0_addKnock 25 = .ok (.aload_n 0, 1) := by decide +kernel
theorem dX0_addKnock_26 : decode cX0_addKnock 26 = .ok (.getfield 43, 3) := by decide +kernel
theorem dX0_addKnock_29 : decode cX0_addKnock 29 = .ok (.iload_n 2, 1) := by decide +kernel
theorem dX0_addKnock_30 : decode cX0_addKnock 30 = .ok (.iastore, 1) := by decide +kernel
theorem dX0_addKnock_31 : decode cX0_addKnock 31 = .ok (.aload_n 0, 1) := by decide +kernel
theorem dX0_addKnock_32 : decode cX0_addKnock 32 = .ok (.dup, 1) := by decide +kernel
theorem dX0_addKnock_33 : decode cX0_addKnock 33 = .ok (.getfield 43, 3) := by decide +kernel
theorem dX0_addKnock_36 : decode cX0_addKnock 36 = .ok (.iconst 1, 1) := by decide +kernel
theorem dX0_addKnock_37 : decode cX0_addKnock 37 = .ok (.iadd, 1) := by decide +kernel
theorem dX0_addKnock_38 : decode cX0_addKnock 38 = .ok (.putfield 43, 3) := by decide +kernel
theorem dX0_addKnock_41 : decode cX0_addKnock 41 = .ok (.iconst 1, 1) := by decide +kernel
theorem dX0_addKnock_42 : decode cX0_addKnock 42 = .ok (.ireturn, 1) := by decide +kernel
theorem dX0_changePlaces_0 : decode cX0_changePlaces 0 = .ok (.aload_n 0, 1) := by decide +kernel
theorem dX0_changePlaces_1 : decode cX0_changePlaces 1 = .ok (.getfield 30, 3) := by decide +kernel
theorem dX0_changePlaces_4 : decode cX0_changePlaces 4 = .ok (.iload_n 1, 1) := by decide +kernel
theorem dX0_changePlaces_5 : decode cX0_changePlaces 5 = .ok (.iaload, 1) := by decide +kernel
theorem dX0_changePlaces_6 : decode cX0_changePlaces 6 = .ok (.istore_n 3, 1) := by decide +kernel
theorem dX0_changePlaces_7 : decode cX0_changePlaces 7 = .ok (.aload_n 0, 1) := by decide +kernel
theorem dX0_changePlaces_8 : decode cX0_changePlaces 8 = .ok (.getfield 33, 3) := by decide +kernel
theorem dX0_changePlaces_11 : decode cX0_changePlaces 11 = .ok (.iload_n 1, 1) := by decide +kernel
theorem dX0_changePlaces_12 : decode cX0_changePlaces 12 = .ok (.iaload, 1) := by decide +kernel
theorem dX0_changePlaces_13 : decode cX0_changePlaces 13 = .ok (.istore 4, 2) := by decide +kernel
theorem dX0_changePlaces_15 : decode cX0_changePlaces 15 = .ok (.aload_n 0, 1) := by decide +kernel
theorem dX0_changePlaces_16 : decode cX0_changePlaces 16 = .ok (.getfield 30, 3) := by decide +kernel
theorem dX0_changePlaces_19 : decode cX0_changePlaces 19 = .ok (.iload_n 1, 1) := by decide +kernel
theorem dX0_changePlaces_20 : decode cX0_changePlaces 20 = .ok (.aload_n 0, 1) := by decide +kernel
theorem dX0_changePlaces_21 : decode cX0_changePlaces 21 = .ok (.getfield 30, 3) := by decide +kernel
theorem dX0_changePlaces_24 : decode cX0_changePlaces 24 = .ok (.iload_n 2, 1) := by decide +kernel
theorem dX0_changePlaces_25 : decode cX0_changePlaces 25 = .ok (.iaload, 1) := by decide +kernel
theorem dX0_changePlaces_26 : decode cX0_changePlaces 26 = .ok (.iastore, 1) := by decide +kernel
theorem dX0_changePlaces_27 : decode cX0_changePlaces 27 = .ok (.aload_n 0, 1) := by decide +kernel
theorem dX0_changePlaces_28 : decode cX0_changePlaces 28 = .ok (.getfield 33, 3) := by decide +kernel
theorem dX0_changePlaces_31 : decode cX0_changePlaces 31 = .ok (.iload_n 1, 1) := by decide +kernel
theorem dX0_changePlaces_32 : decode cX0_changePlaces 32 = .ok (.aload_n 0, 1) := by decide +kernel
theorem dX0_changePlaces_33 : decode cX0_changePlaces 33 = .ok (.getfield 33, 3) := by decide +kernel
theorem dX0_changePlaces_36 : decode cX0_changePlaces 36 = .ok (.iload_n 2, 1) := by decide +kernel
theorem dX0_changePlaces_37 : decode cX0_changePlaces 37 = .ok (.iaload, 1) := by decide +kernel
theorem dX0_changePlaces_38 : decode cX0_changePlaces 38 = .ok (.iastore, 1) := by decide +kernel
theorem dX0_changePlaces_39 : decode cX0_changePlaces 39 = .ok (.aload_n 0, 1) := by decide +kernel
theorem dX0_changePlaces_40 : decode cX0_changePlaces 40 = .ok (.getfield 30, 3) := by decide +kernel
theorem dX0_changePlaces_43 : decode cX0_changePlaces 43 = .ok (.iload_n 2, 1) := by decide +kernel
theorem dX0_changePlaces_44 : decode cX0_changePlaces 44 = .ok (.iload_n 3, 1) := by decide +kernel
theorem dX0_changePlaces_45 : decode cX0_changePlaces 45 = .ok (.iastore, 1) := by decide +kernel
theorem dX0_changePlaces_46 : decode cX0_changePlaces 46 = .ok (.aload_n 0, 1) := by decide +kernel
theorem dX0_changePlaces_47 : decode cX0_changePlaces 47 = .ok (.getfield 33, 3) := by decide +kernel
theorem dX0_changePlaces_50 : decode cX0_changePlaces 50 = .ok (.iload_n 2, 1) := by decide +kernel
theorem dX0_changePlaces_51 : decode cX0_changePlaces 51 = .ok (.iload 4, 2) := by decide +kernel
theorem dX0_changePlaces_53 : decode cX0_changePlaces 53 = .ok (.iastore, 1) := by decide +kernel
theorem dX0_changePlaces_54 : decode cX0_changePlaces 54 = .ok (.return_, 1) := by decide +kernel
theorem dX0_stretchOf_0 : decode cX0_stretchOf 0 = .ok (.iload_n 1, 1) := by decide +kernel
theorem dX0_stretchOf_1 : decode cX0_stretchOf 1 = .ok (.ifCond .le 14, 3) := by decide +kernel
theorem dX0_stretchOf_4 : decode cX0_stretchOf 4 = .ok (.aload_n 0, 1) := by decide +kernel
theorem dX0_stretchOf_5 : decode cX0_stretchOf 5 = .ok (.getfield 24, 3) := by decide +kernel
theorem dX0_stretchOf_8 : decode cX0_stretchOf 8 = .ok (.iload_n 1, 1) := by decide +kernel
theorem dX0_stretchOf_9 : decode cX0_stretchOf 9 = .ok (.iconst 1, 1) := by decide +kernel
theorem dX0_stretchOf_10 : decode cX0_stretchOf 10 = .ok (.isub, 1) := by decide +kernel
theorem dX0_stretchOf_11 : decode cX0_stretchOf 11 = .ok (.iaload, 1) := by decide +kernel
theorem dX0_stretchOf_12 : decode cX0_stretchOf 12 = .ok (.goto 4, 3) := by decide +kernel
theorem dX0_stretchOf_15 : decode cX0_stretchOf 15 = .ok (.iconst 0, 1) := by decide +kernel
theorem dX0_stretchOf_16 : decode cX0_stretchOf 16 = .ok (.istore_n 2, 1) := by decide +kernel
theorem dX0_stretchOf_17 : decode cX0_stretchOf 17 = .ok (.aload_n 0, 1) := by decide +kernel
theorem dX0_stretchOf_18 : decode cX0_stretchOf 18 = .ok (.getfield 24, 3) := by decide +kernel
theorem dX0_stretchOf_21 : decode cX0_stretchOf 21 = .ok (.iload_n 1, 1) := by decide +kernel
theorem dX0_stretchOf_22 : decode cX0_stretchOf 22 = .ok (.iaload, 1) := by decide +kernel
theorem dX0_stretchOf_23 : decode cX0_stretchOf 23 = .ok (.iload_n 2, 1) := by decide +kernel
theorem dX0_stretchOf_24 : decode cX0_stretchOf 24 = .ok (.isub, 1) := by decide +kernel
theorem dX0_stretchOf_25 : decode cX0_stretchOf 25 = .ok (.aload_n 0, 1) := by decide +kernel
theorem dX0_stretchOf_26 : decode cX0_stretchOf 26 = .ok (.getfield 15, 3) := by decide +kernel
theorem dX0_stretchOf_29 : decode cX0_stretchOf 29 = .ok (.iload_n 1, 1) := by decide +kernel
theorem dX0_stretchOf_30 : decode cX0_stretchOf 30 = .ok (.iaload, 1) := by decide +kernel
theorem dX0_stretchOf_31 : decode cX0_stretchOf 31 = .ok (.isub, 1) := by decide +kernel
theorem dX0_stretchOf_32 : decode cX0_stretchOf 32 = .ok (.ireturn, 1) := by decide +kernel
theorem dX0_pullOf_0 : decode cX0_pullOf 0 = .ok (.aload_n 0, 1) := by decide +kernel
theorem dX0_pullOf_1 : decode cX0_pullOf 1 = .ok (.iload_n 1, 1) := by decide +kernel
theorem dX0_pullOf_2 : decode cX0_pullOf 2 = .ok (.invokevirtual 72, 3) := by decide +kernel
theorem dX0_pullOf_5 : decode cX0_pullOf 5 = .ok (.istore_n 2, 1) := by decide +kernel
theorem dX0_pullOf_6 : decode cX0_pullOf 6 = .ok (.iconst 0, 1) := by decide +kernel
theorem dX0_pullOf_7 : decode cX0_pullOf 7 = .ok (.istore_n 3, 1) := by decide +kernel
theorem dX0_pullOf_8 : decode cX0_pullOf 8 = .ok (.aload_n 0, 1) := by decide +kernel
theorem dX0_pullOf_9 : decode cX0_pullOf 9 = .ok (.getfield 9, 3) := by decide +kernel
theorem dX0_pullOf_12 : decode cX0_pullOf 12 = .ok (.iload_n 1, 1) := by decide +kernel
theorem dX0_pullOf_13 : decode cX0_pullOf 13 = .ok (.iaload, 1) := by decide +kernel
theorem dX0_pullOf_14 : decode cX0_pullOf 14 = .ok (.tableswitch 63 1 3 #[26, 39, 52], 26) := by decide +kernel
theorem dX0_pullOf_40 : decode cX0_pullOf 40 = .ok (.iload_n 2, 1) := by decide +kernel
theorem dX0_pullOf_41 : decode cX0_pullOf 41 = .ok (.ifCond .ge 7, 3) := by decide +kernel
theorem dX0_pullOf_44 : decode cX0_pullOf 44 = .ok (.iconst 1, 1) := by decide +kernel
theorem dX0_pullOf_45 : decode cX0_pullOf 45 = .ok (.goto 4, 3) := by decide +kernel
theorem dX0_pullOf_48 : decode cX0_pullOf 48 = .ok (.iconst 0, 1) := by decide +kernel
theorem dX0_pullOf_49 : decode cX0_pullOf 49 = .ok (.istore_n 3, 1) := by decide +kernel
theorem dX0_pullOf_50 : decode cX0_pullOf 50 = .ok (.goto 27, 3) := by decide +kernel
theorem dX0_pullOf_53 : decode cX0_pullOf 53 = .ok (.iload_n 2, 1) := by decide +kernel
theorem dX0_pullOf_54 : decode cX0_pullOf 54 = .ok (.ifCond .le 7, 3) := by decide +kernel
theorem dX0_pullOf_57 : decode cX0_pullOf 57 = .ok (.iconst 1, 1) := by decide +kernel
theorem dX0_pullOf_58 : decode cX0_pullOf 58 = .ok (.goto 4, 3) := by decide +kernel
theorem dX0_pullOf_61 : decode cX0_pullOf 61 = .ok (.iconst 0, 1) := by decide +kernel
theorem dX0_pullOf_62 : decode cX0_pullOf 62 = .ok (.istore_n 3, 1) := by decide +kernel
theorem dX0_pullOf_63 : decode cX0_pullOf 63 = .ok (.goto 14, 3) := by decide +kernel
theorem dX0_pullOf_66 : decode cX0_pullOf 66 = .ok (.iload_n 2, 1) := by decide +kernel
theorem dX0_pullOf_67 : decode cX0_pullOf 67 = .ok (.bipush (-5), 2) := by decide +kernel
theorem dX0_pullOf_69 : decode cX0_pullOf 69 = .ok (.iconst 5, 1) := by decide +kernel
theorem dX0_pullOf_70 : decode cX0_pullOf 70 = .ok (.invokestatic 76, 3) := by decide +kernel
theorem dX0_pullOf_73 : decode cX0_pullOf 73 = .ok (.istore_n 3, 1) := by decide +kernel
theorem dX0_pullOf_74 : decode cX0_pullOf 74 = .ok (.goto 3, 3) := by decide +kernel
theorem dX0_pullOf_77 : decode cX0_pullOf 77 = .ok (.iload_n 3, 1) := by decide +kernel
theorem dX0_pullOf_78 : decode cX0_pullOf 78 = .ok (.ifCond .eq 7, 3) := by decide +kernel
theorem dX0_pullOf_81 : decode cX0_pullOf 81 = .ok (.iconst 0, 1) := by decide +kernel
theorem dX0_pullOf_82 : decode cX0_pullOf 82 = .ok (.goto 11, 3) := by decide +kernel
theorem dX0_pullOf_85 : decode cX0_pullOf 85 = .ok (.aload_n 0, 1) := by decide +kernel
theorem dX0_pullOf_86 : decode cX0_pullOf 86 = .ok (.getfield 18, 3) := by decide +kernel
theorem dX0_pullOf_89 : decode cX0_pullOf 89 = .ok (.iload_n 1, 1) := by decide +kernel
theorem dX0_pullOf_90 : decode cX0_pullOf 90 = .ok (.iaload, 1) := by decide +kernel
theorem dX0_pullOf_91 : decode cX0_pullOf 91 = .ok (.iload_n 2, 1) := by decide +kernel
theorem dX0_pullOf_92 : decode cX0_pullOf 92 = .ok (.imul, 1) := by decide +kernel
theorem dX0_pullOf_93 : decode cX0_pullOf 93 = .ok (.ireturn, 1) := by decide +kernel
theorem dX0_knockOnce_0 : decode cX0_knockOnce 0 = .ok (.aload_n 0, 1) := by decide +kernel
theorem dX0_knockOnce_1 : decode cX0_knockOnce 1 = .ok (.iload_n 1, 1) := by decide +kernel
theorem dX0_knockOnce_2 : decode cX0_knockOnce 2 = .ok (.invokevirtual 80, 3) := by decide +kernel
theorem dX0_knockOnce_5 : decode cX0_knockOnce 5 = .ok (.ifCond .eq 20, 3) := by decide +kernel
theorem dX0_knockOnce_8 : decode cX0_knockOnce 8 = .ok (.aload_n 0, 1) := by decide +kernel
theorem dX0_knockOnce_9 : decode cX0_knockOnce 9 = .ok (.getfield 27, 3) := by decide +kernel
theorem dX0_knockOnce_12 : decode cX0_knockOnce 12 = .ok (.iload_n 1, 1) := by decide +kernel
theorem dX0_knockOnce_13 : decode cX0_knockOnce 13 = .ok (.aload_n 0, 1) := by decide +kernel
theorem dX0_knockOnce_14 : decode cX0_knockOnce 14 = .ok (.getfield 27, 3) := by decide +kernel
theorem dX0_knockOnce_17 : decode cX0_knockOnce 17 = .ok (.iload_n 1, 1) := by decide +kernel
theorem dX0_knockOnce_18 : decode cX0_knockOnce 18 = .ok (.iaload, 1) := by decide +kernel
theorem dX0_knockOnce_19 : decode cX0_knockOnce 19 = .ok (.iload_n 2, 1) := by decide +kernel
theorem dX0_knockOnce_20 : decode cX0_knockOnce 20 = .ok (.iadd, 1) := by decide +kernel
theorem dX0_knockOnce_21 : decode cX0_knockOnce 21 = .ok (.invokestatic 84, 3) := by decide +kernel
theorem dX0_knockOnce_24 : decode cX0_knockOnce 24 = .ok (.iastore, 1) := by decide +kernel
theorem dX0_knockOnce_25 : decode cX0_knockOnce 25 = .ok (.return_, 1) := by decide +kernel
theorem dX0_knockByPlan_0 : decode cX0_knockByPlan 0 = .ok (.aload_n 0, 1) := by decide +kernel
theorem dX0_knockByPlan_1 : decode cX0_knockByPlan 1 = .ok (.getfield 43, 3) := by decide +kernel
theorem dX0_knockByPlan_4 : decode cX0_knockByPlan 4 = .ok (.ifCond .le 29, 3) := by decide +kernel
theorem dX0_knockByPlan_7 : decode cX0_knockByPlan 7 = .ok (.aload_n 0, 1) := by decide +kernel
theorem dX0_knockByPlan_8 : decode cX0_knockByPlan 8 = .ok (.getfield 49, 3) := by decide +kernel
theorem dX0_knockByPlan_11 : decode cX0_knockByPlan 11 = .ok (.aload_n 0, 1) := by decide +kernel
theorem dX0_knockByPlan_12 : decode cX0_knockByPlan 12 = .ok (.getfield 43, 3) := by decide +kernel
theorem dX0_knockByPlan_15 : decode cX0_knockByPlan 15 = .ok (.irem, 1) := by decide +kernel
theorem dX0_knockByPlan_16 : decode cX0_knockByPlan 16 = .ok (.istore_n 1, 1) := by decide +kernel
theorem dX0_knockByPlan_17 : decode cX0_knockByPlan 17 = .ok (.aload_n 0, 1) := by decide +kernel
theorem dX0_knockByPlan_18 : decode cX0_knockByPlan 18 = .ok (.aload_n 0, 1) := by decide +kernel
theorem dX0_knockByPlan_19 : decode cX0_knockByPlan 19 = .ok (.getfield 30, 3) := by decide +kernel
theorem dX0_knockByPlan_22 : decode cX0_knockByPlan 22 = .ok (.iload_n 1, 1) := by decide +kernel
theorem dX0_knockByPlan_23 : decode cX0_knockByPlan 23 = .ok (.iaload, 1) := by decide +kernel
theorem dX0_knockByPlan_24 : decode cX0_knockByPlan 24 = .ok (.aload_n 0, 1) := by decide +kernel
theorem dX0_knockByPlan_25 : decode cX0_knockByPlan 25 = .ok (.getfield 33, 3) := by decide +kernel
theorem dX0_knockByPlan_28 : decode cX0_knockByPlan 28 = .ok (.iload_n 1, 1) := by decide +kernel
theorem dX0_knockByPlan_29 : decode cX0_knockByPlan 29 = .ok (.iaload, 1) := by decide +kernel
theorem dX0_knockByPlan_30 : decode cX0_knockByPlan 30 = .ok (.invokevirtual 87, 3) := by decide +kernel
theorem dX0_knockByPlan_33 : decode cX0_knockByPlan 33 = .ok (.return_, 1) := by decide +kernel
theorem dX0_tickOnce_0 : decode cX0_tickOnce 0 = .ok (.aload_n 0, 1) := by decide +kernel
theorem dX0_tickOnce_1 : decode cX0_tickOnce 1 = .ok (.invokevirtual 91, 3) := by decide +kernel
theorem dX0_tickOnce_4 : decode cX0_tickOnce 4 = .ok (.aload_n 0, 1) := by decide +kernel
theorem dX0_tickOnce_5 : decode cX0_tickOnce 5 = .ok (.invokevirtual 94, 3) := by decide +kernel
theorem dX0_tickOnce_8 : decode cX0_tickOnce 8 = .ok (.return_, 1) := by decide +kernel
theorem dX0_tickOften_0 : decode cX0_tickOften 0 = .ok (.iconst 0, 1) := by decide +kernel
theorem dX0_tickOften_1 : decode cX0_tickOften 1 = .ok (.istore_n 2, 1) := by decide +kernel
theorem dX0_tickOften_2 : decode cX0_tickOften 2 = .ok (.iload_n 2, 1) := by decide +kernel
theorem dX0_tickOften_3 : decode cX0_tickOften 3 = .ok (.iload_n 1, 1) := by decide +kernel
theorem dX0_tickOften_4 : decode cX0_tickOften 4 = .ok (.if_icmp .ge 13, 3) := by decide +kernel
theorem dX0_tickOften_7 : decode cX0_tickOften 7 = .ok (.aload_n 0, 1) := by decide +kernel
theorem dX0_tickOften_8 : decode cX0_tickOften 8 = .ok (.invokevirtual 97, 3) := by decide +kernel
theorem dX0_tickOften_11 : decode cX0_tickOften 11 = .ok (.iinc 2 1, 3) := by decide +kernel
theorem dX0_tickOften_14 : decode cX0_tickOften 14 = .ok (.goto (-12), 3) := by decide +kernel
theorem dX0_tickOften_17 : decode cX0_tickOften 17 = .ok (.return_, 1) := by decide +kernel
theorem dX0_move_0 : decode cX0_move 0 = .ok (.iconst 0, 1) := by decide +kernel
theorem dX0_move_1 : decode cX0_move 1 = .ok (.istore_n 1, 1) := by decide +kernel
theorem dX0_move_2 : decode cX0_move 2 = .ok (.iload_n 1, 1) := by decide +kernel
theorem dX0_move_3 : decode cX0_move 3 = .ok (.aload_n 0, 1) := by decide +kernel
theorem dX0_move_4 : decode cX0_move 4 = .ok (.getfield 39, 3) := by decide +kernel
theorem dX0_move_7 : decode cX0_move 7 = .ok (.if_icmp .ge 20, 3) := by decide +kernel
theorem dX0_move_10 : decode cX0_move 10 = .ok (.aload_n 0, 1) := by decide +kernel
theorem dX0_move_11 : decode cX0_move 11 = .ok (.getfield 36, 3) := by decide +kernel
theorem dX0_move_14 : decode cX0_move 14 = .ok (.iload_n 1, 1) := by decide +kernel
theorem dX0_move_15 : decode cX0_move 15 = .ok (.aload_n 0, 1) := by decide +kernel
theorem dX0_move_16 : decode cX0_move 16 = .ok (.iload_n 1, 1) := by decide +kernel
theorem dX0_move_17 : decode cX0_move 17 = .ok (.invokevirtual 100, 3) := by decide +kernel
theorem dX0_move_20 : decode cX0_move 20 = .ok (.iastore, 1) := by decide +kernel
theorem dX0_move_21 : decode cX0_move 21 = .ok (.iinc 1 1, 3) := by decide +kernel
theorem dX0_move_24 : decode cX0_move 24 = .ok (.goto (-22), 3) := by decide +kernel
theorem dX0_move_27 : decode cX0_move 27 = .ok (.aload_n 0, 1) := by decide +kernel
theorem dX0_move_28 : decode cX0_move 28 = .ok (.getfield 36, 3) := by decide +kernel
theorem dX0_move_31 : decode cX0_move 31 = .ok (.aload_n 0, 1) := by decide +kernel
theorem dX0_move_32 : decode cX0_move 32 = .ok (.getfield 39, 3) := by decide +kernel
theorem dX0_move_35 : decode cX0_move 35 = .ok (.iconst 0, 1) := by decide +kernel
theorem dX0_move_36 : decode cX0_move 36 = .ok (.iastore, 1) := by decide +kernel
theorem dX0_move_37 : decode cX0_move 37 = .ok (.aload_n 0, 1) := by decide +kernel
theorem dX0_move_38 : decode cX0_move 38 = .ok (.iconst 0, 1) := by decide +kernel
theorem dX0_move_39 : decode cX0_move 39 = .ok (.putfield 103, 3) := by decide +kernel
theorem dX0_move_42 : decode cX0_move 42 = .ok (.iconst 0, 1) := by decide +kernel
theorem dX0_move_43 : decode cX0_move 43 = .ok (.istore_n 1, 1) := by decide +kernel
theorem dX0_move_44 : decode cX0_move 44 = .ok (.iload_n 1, 1) := by decide +kernel
theorem dX0_move_45 : decode cX0_move 45 = .ok (.aload_n 0, 1) := by decide +kernel
theorem dX0_move_46 : decode cX0_move 46 = .ok (.getfield 39, 3) := by decide +kernel
theorem dX0_move_49 : decode cX0_move 49 = .ok (.if_icmp .ge 65, 3) := by decide +kernel
theorem dX0_move_52 : decode cX0_move 52 = .ok (.bipush 10, 2) := by decide +kernel
theorem dX0_move_54 : decode cX0_move 54 = .ok (.aload_n 0, 1) := by decide +kernel
theorem dX0_move_55 : decode cX0_move 55 = .ok (.getfield 21, 3) := by decide +kernel
theorem dX0_move_58 : decode cX0_move 58 = .ok (.iload_n 1, 1) := by decide +kernel
theorem dX0_move_59 : decode cX0_move 59 = .ok (.iaload, 1) := by decide +kernel
theorem dX0_move_60 : decode cX0_move 60 = .ok (.imul, 1) := by decide +kernel
theorem dX0_move_61 : decode cX0_move 61 = .ok (.istore_n 2, 1) := by decide +kernel
theorem dX0_move_62 : decode cX0_move 62 = .ok (.iload_n 2, 1) := by decide +kernel
theorem dX0_move_63 : decode cX0_move 63 = .ok (.ifCond .le 23, 3) := by decide +kernel
theorem dX0_move_66 : decode cX0_move 66 = .ok (.aload_n 0, 1) := by decide +kernel
theorem dX0_move_67 : decode cX0_move 67 = .ok (.getfield 36, 3) := by decide +kernel
theorem dX0_move_70 : decode cX0_move 70 = .ok (.iload_n 1, 1) := by decide +kernel
theorem dX0_move_71 : decode cX0_move 71 = .ok (.iconst 1, 1) := by decide +kernel
theorem dX0_move_72 : decode cX0_move 72 = .ok (.iadd, 1) := by decide +kernel
theorem dX0_move_73 : decode cX0_move 73 = .ok (.iaload, 1) := by decide +kernel
theorem dX0_move_74 : decode cX0_move 74 = .ok (.aload_n 0, 1) := by decide +kernel
theorem dX0_move_75 : decode cX0_move 75 = .ok (.getfield 36, 3) := by decide +kernel
theorem dX0_move_78 : decode cX0_move 78 = .ok (.iload_n 1, 1) := by decide +kernel
theorem dX0_move_79 : decode cX0_move 79 = .ok (.iaload, 1) := by decide +kernel
theorem dX0_move_80 : decode cX0_move 80 = .ok (.isub, 1) := by decide +kernel
theorem dX0_move_81 : decode cX0_move 81 = .ok (.iload_n 2, 1) := by decide +kernel
theorem dX0_move_82 : decode cX0_move 82 = .ok (.idiv, 1) := by decide +kernel
theorem dX0_move_83 : decode cX0_move 83 = .ok (.goto 4, 3) := by decide +kernel
theorem dX0_move_86 : decode cX0_move 86 = .ok (.iconst 0, 1) := by decide +kernel
theorem dX0_move_87 : decode cX0_move 87 = .ok (.istore_n 3, 1) := by decide +kernel
theorem dX0_move_88 : decode cX0_move 88 = .ok (.aload_n 0, 1) := by decide +kernel
theorem dX0_move_89 : decode cX0_move 89 = .ok (.iload_n 1, 1) := by decide +kernel
theorem dX0_move_90 : decode cX0_move 90 = .ok (.aload_n 0, 1) := by decide +kernel
theorem dX0_move_91 : decode cX0_move 91 = .ok (.aload_n 0, 1) := by decide +kernel
theorem dX0_move_92 : decode cX0_move 92 = .ok (.getfield 27, 3) := by decide +kernel
theorem dX0_move_95 : decode cX0_move 95 = .ok (.iload_n 1, 1) := by decide +kernel
theorem dX0_move_96 : decode cX0_move 96 = .ok (.iaload, 1) := by decide +kernel
theorem dX0_move_97 : decode cX0_move 97 = .ok (.iload_n 3, 1) := by decide +kernel
theorem dX0_move_98 : decode cX0_move 98 = .ok (.iadd, 1) := by decide +kernel
theorem dX0_move_99 : decode cX0_move 99 = .ok (.invokevirtual 107, 3) := by decide +kernel
theorem dX0_move_102 : decode cX0_move 102 = .ok (.invokestatic 84, 3) := by decide +kernel
theorem dX0_move_105 : decode cX0_move 105 = .ok (.invokevirtual 110, 3) := by decide +kernel
theorem dX0_move_108 : decode cX0_move 108 = .ok (.iinc 1 1, 3) := by decide +kernel
theorem dX0_move_111 : decode cX0_move 111 = .ok (.goto (-67), 3) := by decide +kernel
theorem dX0_move_114 : decode cX0_move 114 = .ok (.aload_n 0, 1) := by decide +kernel
theorem dX0_move_115 : decode cX0_move 115 = .ok (.dup, 1) := by decide +kernel
theorem dX0_move_116 : decode cX0_move 116 = .ok (.getfield 49, 3) := by decide +kernel
theorem dX0_move_119 : decode cX0_move 119 = .ok (.iconst 1, 1) := by decide +kernel
theorem dX0_move_120 : decode cX0_move 120 = .ok (.iadd, 1) := by decide +kernel
theorem dX0_move_121 : decode cX0_move 121 = .ok (.putfield 49, 3) := by decide +kernel
theorem dX0_move_124 : decode cX0_move 124 = .ok (.return_, 1) := by decide +kernel
theorem dX0_goOn_0 : decode cX0_goOn 0 = .ok (.aload_n 0, 1) := by decide +kernel
theorem dX0_goOn_1 : decode cX0_goOn 1 = .ok (.getfield 24, 3) := by decide +kernel
theorem dX0_goOn_4 : decode cX0_goOn 4 = .ok (.iload_n 1, 1) := by decide +kernel
theorem dX0_goOn_5 : decode cX0_goOn 5 = .ok (.iaload, 1) := by decide +kernel
theorem dX0_goOn_6 : decode cX0_goOn 6 = .ok (.iload_n 2, 1) := by decide +kernel
theorem dX0_goOn_7 : decode cX0_goOn 7 = .ok (.iadd, 1) := by decide +kernel
theorem dX0_goOn_8 : decode cX0_goOn 8 = .ok (.istore_n 3, 1) := by decide +kernel
theorem dX0_goOn_9 : decode cX0_goOn 9 = .ok (.iconst 0, 1) := by decide +kernel
theorem dX0_goOn_10 : decode cX0_goOn 10 = .ok (.sipush 300, 3) := by decide +kernel
theorem dX0_goOn_13 : decode cX0_goOn 13 = .ok (.iload_n 3, 1) := by decide +kernel
theorem dX0_goOn_14 : decode cX0_goOn 14 = .ok (.invokestatic 66, 3) := by decide +kernel
theorem dX0_goOn_17 : decode cX0_goOn 17 = .ok (.invokestatic 113, 3) := by decide +kernel
theorem dX0_goOn_20 : decode cX0_goOn 20 = .ok (.istore 4, 2) := by decide +kernel
theorem dX0_goOn_22 : decode cX0_goOn 22 = .ok (.iload 4, 2) := by decide +kernel
theorem dX0_goOn_24 : decode cX0_goOn 24 = .ok (.iload_n 3, 1) := by decide +kernel
theorem dX0_goOn_25 : decode cX0_goOn 25 = .ok (.if_icmp .ne 7, 3) := by decide +kernel
theorem dX0_goOn_28 : decode cX0_goOn 28 = .ok (.iload_n 2, 1) := by decide +kernel
theorem dX0_goOn_29 : decode cX0_goOn 29 = .ok (.goto 4, 3) := by decide +kernel
theorem dX0_goOn_32 : decode cX0_goOn 32 = .ok (.iconst 0, 1) := by decide +kernel
theorem dX0_goOn_33 : decode cX0_goOn 33 = .ok (.istore 5, 2) := by decide +kernel
theorem dX0_goOn_35 : decode cX0_goOn 35 = .ok (.iload 4, 2) := by decide +kernel
theorem dX0_goOn_37 : decode cX0_goOn 37 = .ok (.iload_n 3, 1) := by decide +kernel
theorem dX0_goOn_38 : decode cX0_goOn 38 = .ok (.if_icmp .eq 13, 3) := by decide +kernel
theorem dX0_goOn_41 : decode cX0_goOn 41 = .ok (.aload_n 0, 1) := by decide +kernel
theorem dX0_goOn_42 : decode cX0_goOn 42 = .ok (.dup, 1) := by decide +kernel
theorem dX0_goOn_43 : decode cX0_goOn 43 = .ok (.getfield 55, 3) := by decide +kernel
theorem dX0_goOn_46 : decode cX0_goOn 46 = .ok (.iconst 1, 1) := by decide +kernel
theorem dX0_goOn_47 : decode cX0_goOn 47 = .ok (.iadd, 1) := by decide +kernel
theorem dX0_goOn_48 : decode cX0_goOn 48 = .ok (.putfield 55, 3) := by decide +kernel
theorem dX0_goOn_51 : decode cX0_goOn 51 = .ok (.iload 4, 2) := by decide +kernel
theorem dX0_goOn_53 : decode cX0_goOn 53 = .ok (.aload_n 0, 1) := by decide +kernel
theorem dX0_goOn_54 : decode cX0_goOn 54 = .ok (.getfield 24, 3) := by decide +kernel
theorem dX0_goOn_57 : decode cX0_goOn 57 = .ok (.iload_n 1, 1) := by decide +kernel
theorem dX0_goOn_58 : decode cX0_goOn 58 = .ok (.iaload, 1) := by decide +kernel
theorem dX0_goOn_59 : decode cX0_goOn 59 = .ok (.if_icmp .ne 14, 3) := by decide +kernel
theorem dX0_goOn_62 : decode cX0_goOn 62 = .ok (.iload 5, 2) := by decide +kernel
theorem dX0_goOn_64 : decode cX0_goOn 64 = .ok (.aload_n 0, 1) := by decide +kernel
theorem dX0_goOn_65 : decode cX0_goOn 65 = .ok (.getfield 27, 3) := by decide +kernel
theorem dX0_goOn_68 : decode cX0_goOn 68 = .ok (.iload_n 1, 1) := by decide +kernel
theorem dX0_goOn_69 : decode cX0_goOn 69 = .ok (.iaload, 1) := by decide +kernel
theorem dX0_goOn_70 : decode cX0_goOn 70 = .ok (.if_icmp .eq 8, 3) := by decide +kernel
theorem dX0_goOn_73 : decode cX0_goOn 73 = .ok (.aload_n 0, 1) := by decide +kernel
theorem dX0_goOn_74 : decode cX0_goOn 74 = .ok (.iconst 1, 1) := by decide +kernel
theorem dX0_goOn_75 : decode cX0_goOn 75 = .ok (.putfield 103, 3) := by decide +kernel
theorem dX0_goOn_78 : decode cX0_goOn 78 = .ok (.aload_n 0, 1) := by decide +kernel
theorem dX0_goOn_79 : decode cX0_goOn 79 = .ok (.dup, 1) := by decide +kernel
theorem dX0_goOn_80 : decode cX0_goOn 80 = .ok (.getfield 52, 3) := by decide +kernel
theorem dX0_goOn_83 : decode cX0_goOn 83 = .ok (.iload 4, 2) := by decide +kernel
theorem dX0_goOn_85 : decode cX0_goOn 85 = .ok (.aload_n 0, 1) := by decide +kernel
theorem dX0_goOn_86 : decode cX0_goOn 86 = .ok (.getfield 24, 3) := by decide +kernel
theorem dX0_goOn_89 : decode cX0_goOn 89 = .ok (.iload_n 1, 1) := by decide +kernel
theorem dX0_goOn_90 : decode cX0_goOn 90 = .ok (.iaload, 1) := by decide +kernel
theorem dX0_goOn_91 : decode cX0_goOn 91 = .ok (.isub, 1) := by decide +kernel
theorem dX0_goOn_92 : decode cX0_goOn 92 = .ok (.invokestatic 116, 3) := by decide +kernel
theorem dX0_goOn_95 : decode cX0_goOn 95 = .ok (.iadd, 1) := by decide +kernel
theorem dX0_goOn_96 : decode cX0_goOn 96 = .ok (.putfield 52, 3) := by decide +kernel
theorem dX0_goOn_99 : decode cX0_goOn 99 = .ok (.aload_n 0, 1) := by decide +kernel
theorem dX0_goOn_100 : decode cX0_goOn 100 = .ok (.getfield 24, 3) := by decide +kernel
theorem dX0_goOn_103 : decode cX0_goOn 103 = .ok (.iload_n 1, 1) := by decide +kernel
theorem dX0_goOn_104 : decode cX0_goOn 104 = .ok (.iload 4, 2) := by decide +kernel
theorem dX0_goOn_106 : decode cX0_goOn 106 = .ok (.iastore, 1) := by decide +kernel
theorem dX0_goOn_107 : decode cX0_goOn 107 = .ok (.aload_n 0, 1) := by decide +kernel
theorem dX0_goOn_108 : decode cX0_goOn 108 = .ok (.getfield 27, 3) := by decide +kernel
theorem dX0_goOn_111 : decode cX0_goOn 111 = .ok (.iload_n 1, 1) := by decide +kernel
theorem dX0_goOn_112 : decode cX0_goOn 112 = .ok (.iload 5, 2) := by decide +kernel
theorem dX0_goOn_114 : decode cX0_goOn 114 = .ok (.iastore, 1) := by decide +kernel
theorem dX0_goOn_115 : decode cX0_goOn 115 = .ok (.return_, 1) := by decide +kernel
theorem dX0_slowed_0 : decode cX0_slowed 0 = .ok (.iload_n 1, 1) := by decide +kernel
theorem dX0_slowed_1 : decode cX0_slowed 1 = .ok (.ifCond .le 16, 3) := by decide +kernel
theorem dX0_slowed_4 : decode cX0_slowed 4 = .ok (.iconst 0, 1) := by decide +kernel
theorem dX0_slowed_5 : decode cX0_slowed 5 = .ok (.iload_n 1, 1) := by decide +kernel
theorem dX0_slowed_6 : decode cX0_slowed 6 = .ok (.aload_n 0, 1) := by decide +kernel
theorem dX0_slowed_7 : decode cX0_slowed 7 = .ok (.getfield 46, 3) := by decide +kernel
theorem dX0_slowed_10 : decode cX0_slowed 10 = .ok (.isub, 1) := by decide +kernel
theorem dX0_slowed_11 : decode cX0_slowed 11 = .ok (.invokestatic 113, 3) := by decide +kernel
theorem dX0_slowed_14 : decode cX0_slowed 14 = .ok (.goto 13, 3) := by decide +kernel
theorem dX0_slowed_17 : decode cX0_slowed 17 = .ok (.iconst 0, 1) := by decide +kernel
theorem dX0_slowed_18 : decode cX0_slowed 18 = .ok (.iload_n 1, 1) := by decide +kernel
theorem dX0_slowed_19 : decode cX0_slowed 19 = .ok (.aload_n 0, 1) := by decide +kernel
theorem dX0_slowed_20 : decode cX0_slowed 20 = .ok (.getfield 46, 3) := by decide +kernel
theorem dX0_slowed_23 : decode cX0_slowed 23 = .ok (.iadd, 1) := by decide +kernel
theorem dX0_slowed_24 : decode cX0_slowed 24 = .ok (.invokestatic 66, 3) := by decide +kernel
theorem dX0_slowed_27 : decode cX0_slowed 27 = .ok (.ireturn, 1) := by decide +kernel
theorem dX0_inBounds_0 : decode cX0_inBounds 0 = .ok (.iload_n 0, 1) := by decide +kernel
theorem dX0_inBounds_1 : decode cX0_inBounds 1 = .ok (.bipush 40, 2) := by decide +kernel
theorem dX0_inBounds_3 : decode cX0_inBounds 3 = .ok (.if_icmp .le 8, 3) := by decide +kernel
theorem dX0_inBounds_6 : decode cX0_inBounds 6 = .ok (.bipush 40, 2) := by decide +kernel
theorem dX0_inBounds_8 : decode cX0_inBounds 8 = .ok (.goto 15, 3) := by decide +kernel
theorem dX0_inBounds_11 : decode cX0_inBounds 11 = .ok (.iload_n 0, 1) := by decide +kernel
theorem dX0_inBounds_12 : decode cX0_inBounds 12 = .ok (.bipush (-40), 2) := by decide +kernel
theorem dX0_inBounds_14 : decode cX0_inBounds 14 = .ok (.if_icmp .ge 8, 3) := by decide +kernel
theorem dX0_inBounds_17 : decode cX0_inBounds 17 = .ok (.bipush (-40), 2) := by decide +kernel
theorem dX0_inBounds_19 : decode cX0_inBounds 19 = .ok (.goto 4, 3) := by decide +kernel
theorem dX0_inBounds_22 : decode cX0_inBounds 22 = .ok (.iload_n 0, 1) := by decide +kernel
theorem dX0_inBounds_23 : decode cX0_inBounds 23 = .ok (.ireturn, 1) := by decide +kernel
theorem dX0_greatestSwing_0 : decode cX0_greatestSwing 0 = .ok (.aload_n 0, 1) := by decide +kernel
theorem dX0_greatestSwing_1 : decode cX0_greatestSwing 1 = .ok (.invokevirtual 62, 3) := by decide +kernel
theorem dX0_greatestSwing_4 : decode cX0_greatestSwing 4 = .ok (.istore_n 3, 1) := by decide +kernel
theorem dX0_greatestSwing_5 : decode cX0_greatestSwing 5 = .ok (.iconst 0, 1) := by decide +kernel
theorem dX0_greatestSwing_6 : decode cX0_greatestSwing 6 = .ok (.istore 4, 2) := by decide +kernel
theorem dX0_greatestSwing_8 : decode cX0_greatestSwing 8 = .ok (.iconst 0, 1) := by decide +kernel
theorem dX0_greatestSwing_9 : decode cX0_greatestSwing 9 = .ok (.istore 5, 2) := by decide +kernel
theorem dX0_greatestSwing_11 : decode cX0_greatestSwing 11 = .ok (.iload 5, 2) := by decide +kernel
theorem dX0_greatestSwing_13 : decode cX0_greatestSwing 13 = .ok (.iload_n 1, 1) := by decide +kernel
theorem dX0_greatestSwing_14 : decode cX0_greatestSwing 14 = .ok (.if_icmp .ge 35, 3) := by decide +kernel
theorem dX0_greatestSwing_17 : decode cX0_greatestSwing 17 = .ok (.iload 4, 2) := by decide +kernel
theorem dX0_greatestSwing_19 : decode cX0_greatestSwing 19 = .ok (.iload_n 2, 1) := by decide +kernel
theorem dX0_greatestSwing_20 : decode cX0_greatestSwing 20 = .ok (.if_icmp .ge 29, 3) := by decide +kernel
theorem dX0_greatestSwing_23 : decode cX0_greatestSwing 23 = .ok (.aload_n 0, 1) := by decide +kernel
theorem dX0_greatestSwing_24 : decode cX0_greatestSwing 24 = .ok (.invokevirtual 97, 3) := by decide +kernel
theorem dX0_greatestSwing_27 : decode cX0_greatestSwing 27 = .ok (.iload 4, 2) := by decide +kernel
theorem dX0_greatestSwing_29 : decode cX0_greatestSwing 29 = .ok (.aload_n 0, 1) := by decide +kernel
theorem dX0_greatestSwing_30 : decode cX0_greatestSwing 30 = .ok (.invokevirtual 62, 3) := by decide +kernel
theorem dX0_greatestSwing_33 : decode cX0_greatestSwing 33 = .ok (.iload_n 3, 1) := by decide +kernel
theorem dX0_greatestSwing_34 : decode cX0_greatestSwing 34 = .ok (.isub, 1) := by decide +kernel
theorem dX0_greatestSwing_35 : decode cX0_greatestSwing 35 = .ok (.invokestatic 116, 3) := by decide +kernel
theorem dX0_greatestSwing_38 : decode cX0_greatestSwing 38 = .ok (.invokestatic 113, 3) := by decide +kernel
theorem dX0_greatestSwing_41 : decode cX0_greatestSwing 41 = .ok (.istore 4, 2) := by decide +kernel
theorem dX0_greatestSwing_43 : decode cX0_greatestSwing 43 = .ok (.iinc 5 1, 3) := by decide +kernel
theorem dX0_greatestSwing_46 : decode cX0_greatestSwing 46 = .ok (.goto (-35), 3) := by decide +kernel
theorem dX0_greatestSwing_49 : decode cX0_greatestSwing 49 = .ok (.iload 4, 2) := by decide +kernel
theorem dX0_greatestSwing_51 : decode cX0_greatestSwing 51 = .ok (.ireturn, 1) := by decide +kernel
theorem dX1_init_0 : decode cX1_init 0 = .ok (.aload_n 0, 1) := by decide +kernel
theorem dX1_init_1 : decode cX1_init 1 = .ok (.invokespecial 3, 3) := by decide +kernel
theorem dX1_init_4 : decode cX1_init 4 = .ok (.aload_n 0, 1) := by decide +kernel
theorem dX1_init_5 : decode cX1_init 5 = .ok (.bipush 6, 2) := by decide +kernel
theorem dX1_init_7 : decode cX1_init 7 = .ok (.newarray .int, 2) := by decide +kernel
theorem dX1_init_9 : decode cX1_init 9 = .ok (.putfield 9, 3) := by decide +kernel
theorem dX1_init_12 : decode cX1_init 12 = .ok (.aload_n 0, 1) := by decide +kernel
theorem dX1_init_13 : decode cX1_init 13 = .ok (.bipush 6, 2) := by decide +kernel
theorem dX1_init_15 : decode cX1_init 15 = .ok (.newarray .int, 2) := by decide +kernel
theorem dX1_init_17 : decode cX1_init 17 = .ok (.putfield 15, 3) := by decide +kernel
theorem dX1_init_20 : decode cX1_init 20 = .ok (.aload_n 0, 1) := by decide +kernel
theorem dX1_init_21 : decode cX1_init 21 = .ok (.bipush 6, 2) := by decide +kernel
theorem dX1_init_23 : decode cX1_init 23 = .ok (.newarray .int, 2) := by decide +kernel
theorem dX1_init_25 : decode cX1_init 25 = .ok (.putfield 18, 3) := by decide +kernel
theorem dX1_init_28 : decode cX1_init 28 = .ok (.return_, 1) := by decide +kernel
theorem dX1_note_0 : decode cX1_note 0 = .ok (.aload_n 0, 1) := by decide +kernel
theorem dX1_note_1 : decode cX1_note 1 = .ok (.getfield 21, 3) := by decide +kernel
theorem dX1_note_4 : decode cX1_note 4 = .ok (.bipush 6, 2) := by decide +kernel
theorem dX1_note_6 : decode cX1_note 6 = .ok (.if_icmp .lt 5, 3) := by decide +kernel
theorem dX1_note_9 : decode cX1_note 9 = .ok (.iconst 0, 1) := by decide +kernel
theorem dX1_note_10 : decode cX1_note 10 = .ok (.ireturn, 1) := by decide +kernel
theorem dX1_note_11 : decode cX1_note 11 = .ok (.aload_n 0, 1) := by decide +kernel
theorem dX1_note_12 : decode cX1_note 12 = .ok (.getfield 9, 3) := by decide +kernel
theorem dX1_note_15 : decode cX1_note 15 = .ok (.aload_n 0, 1) := by decide +kernel
theorem dX1_note_16 : decode cX1_note 16 = .ok (.getfield 21, 3) := by decide +kernel
theorem dX1_note_19 : decode cX1_note 19 = .ok (.iload_n 1, 1) := by decide +kernel
theorem dX1_note_20 : decode cX1_note 20 = .ok (.iastore, 1) := by decide +kernel
theorem dX1_note_21 : decode cX1_note 21 = .ok (.aload_n 0, 1) := by decide +kernel
theorem dX1_note_22 : decode cX1_note 22 = .ok (.getfield 15, 3) := by decide +kernel
theorem dX1_note_25 : decode cX1_note 25 = .ok (.aload_n 0, 1) := by decide +kernel
theorem dX1_note_26 : decode cX1_note 26 = .ok (.getfield 21, 3) := by decide +kernel
theorem dX1_note_29 : decode cX1_note 29 = .ok (.iload_n 2, 1) := by decide +kernel
theorem dX1_note_30 : decode cX1_note 30 = .ok (.iastore, 1) := by decide +kernel
theorem dX1_note_31 : decode cX1_note 31 = .ok (.aload_n 0, 1) := by decide +kernel
theorem dX1_note_32 : decode cX1_note 32 = .ok (.getfield 18, 3) := by decide +kernel
theorem dX1_note_35 : decode cX1_note 35 = .ok (.aload_n 0, 1) := by decide +kernel
theorem dX1_note_36 : decode cX1_note 36 = .ok (.getfield 21, 3) := by decide +kernel
theorem dX1_note_39 : decode cX1_note 39 = .ok (.iload_n 3, 1) := by decide +kernel
theorem dX1_note_40 : decode cX1_note 40 = .ok (.iastore, 1) := by decide +kernel
theorem dX1_note_41 : decode cX1_note 41 = .ok (.aload_n 0, 1) := by decide +kernel
theorem dX1_note_42 : decode cX1_note 42 = .ok (.dup, 1) := by decide +kernel
theorem dX1_note_43 : decode cX1_note 43 = .ok (.getfield 21, 3) := by decide +kernel
theorem dX1_note_46 : decode cX1_note 46 = .ok (.iconst 1, 1) := by decide +kernel
theorem dX1_note_47 : decode cX1_note 47 = .ok (.iadd, 1) := by decide +kernel
theorem dX1_note_48 : decode cX1_note 48 = .ok (.putfield 21, 3) := by decide +kernel
theorem dX1_note_51 : decode cX1_note 51 = .ok (.iconst 1, 1) := by decide +kernel
theorem dX1_note_52 : decode cX1_note 52 = .ok (.ireturn, 1) := by decide +kernel
theorem dX1_isSoOf_0 : decode cX1_isSoOf 0 = .ok (.aload_n 0, 1) := by decide +kernel
theorem dX1_isSoOf_1 : decode cX1_isSoOf 1 = .ok (.invokevirtual 25, 3) := by decide +kernel
theorem dX1_isSoOf_4 : decode cX1_isSoOf 4 = .ok (.istore_n 2, 1) := by decide +kernel
theorem dX1_isSoOf_5 : decode cX1_isSoOf 5 = .ok (.iconst 0, 1) := by decide +kernel
theorem dX1_isSoOf_6 : decode cX1_isSoOf 6 = .ok (.istore_n 3, 1) := by decide +kernel
theorem dX1_isSoOf_7 : decode cX1_isSoOf 7 = .ok (.iload_n 3, 1) := by decide +kernel
theorem dX1_isSoOf_8 : decode cX1_isSoOf 8 = .ok (.iload_n 2, 1) := by decide +kernel
theorem dX1_isSoOf_9 : decode cX1_isSoOf 9 = .ok (.if_icmp .gt 24, 3) := by decide +kernel
theorem dX1_isSoOf_12 : decode cX1_isSoOf 12 = .ok (.aload_n 0, 1) := by decide +kernel
theorem dX1_isSoOf_13 : decode cX1_isSoOf 13 = .ok (.aload_n 1, 1) := by decide +kernel
theorem dX1_isSoOf_14 : decode cX1_isSoOf 14 = .ok (.iload_n 3, 1) := by decide +kernel
theorem dX1_isSoOf_15 : decode cX1_isSoOf 15 = .ok (.invokevirtual 29, 3) := by decide +kernel
theorem dX1_isSoOf_18 : decode cX1_isSoOf 18 = .ok (.ifCond .ne 5, 3) := by decide +kernel
theorem dX1_isSoOf_21 : decode cX1_isSoOf 21 = .ok (.iconst 0, 1) := by decide +kernel
theorem dX1_isSoOf_22 : decode cX1_isSoOf 22 = .ok (.ireturn, 1) := by decide +kernel
theorem dX1_isSoOf_23 : decode cX1_isSoOf 23 = .ok (.aload_n 1, 1) := by decide +kernel
theorem dX1_isSoOf_24 : decode cX1_isSoOf 24 = .ok (.invokevirtual 33, 3) := by decide +kernel
theorem dX1_isSoOf_27 : decode cX1_isSoOf 27 = .ok (.iinc 3 1, 3) := by decide +kernel
theorem dX1_isSoOf_30 : decode cX1_isSoOf 30 = .ok (.goto (-23), 3) := by decide +kernel
theorem dX1_isSoOf_33 : decode cX1_isSoOf 33 = .ok (.iconst 1, 1) := by decide +kernel
theorem dX1_isSoOf_34 : decode cX1_isSoOf 34 = .ok (.ireturn, 1) := by decide +kernel
theorem dX1_latestTick_0 : decode cX1_latestTick 0 = .ok (.iconst (-1), 1) := by decide +kernel
theorem dX1_latestTick_1 : decode cX1_latestTick 1 = .ok (.istore_n 1, 1) := by decide +kernel
theorem dX1_latestTick_2 : decode cX1_latestTick 2 = .ok (.iconst 0, 1) := by decide +kernel
theorem dX1_latestTick_3 : decode cX1_latestTick 3 = .ok (.istore_n 2, 1) := by decide +kernel
theorem dX1_latestTick_4 : decode cX1_latestTick 4 = .ok (.iload_n 2, 1) := by decide +kernel
theorem dX1_latestTick_5 : decode cX1_latestTick 5 = .ok (.aload_n 0, 1) := by decide +kernel
theorem dX1_latestTick_6 : decode cX1_latestTick 6 = .ok (.getfield 21, 3) := by decide +kernel
theorem dX1_latestTick_9 : decode cX1_latestTick 9 = .ok (.if_icmp .ge 20, 3) := by decide +kernel
theorem dX1_latestTick_12 : decode cX1_latestTick 12 = .ok (.iload_n 1, 1) := by decide +kernel
theorem dX1_latestTick_13 : decode cX1_latestTick 13 = .ok (.aload_n 0, 1) := by decide +kernel
theorem dX1_latestTick_14 : decode cX1_latestTick 14 = .ok (.getfield 9, 3) := by decide +kernel
theorem dX1_latestTick_17 : decode cX1_latestTick 17 = .ok (.iload_n 2, 1) := by decide +kernel
theorem dX1_latestTick_18 : decode cX1_latestTick 18 = .ok (.iaload, 1) := by decide +kernel
theorem dX1_latestTick_19 : decode cX1_latestTick 19 = .ok (.invokestatic 38, 3) := by decide +kernel
theorem dX1_latestTick_22 : decode cX1_latestTick 22 = .ok (.istore_n 1, 1) := by decide +kernel
theorem dX1_latestTick_23 : decode cX1_latestTick 23 = .ok (.iinc 2 1, 3) := by decide +kernel
theorem dX1_latestTick_26 : decode cX1_latestTick 26 = .ok (.goto (-22), 3) := by decide +kernel
theorem dX1_latestTick_29 : decode cX1_latestTick 29 = .ok (.iload_n 1, 1) := by decide +kernel
theorem dX1_latestTick_30 : decode cX1_latestTick 30 = .ok (.ireturn, 1) := by decide +kernel
theorem dX1_agrees_0 : decode cX1_agrees 0 = .ok (.iconst 0, 1) := by decide +kernel
theorem dX1_agrees_1 : decode cX1_agrees 1 = .ok (.istore_n 3, 1) := by decide +kernel
theorem dX1_agrees_2 : decode cX1_agrees 2 = .ok (.iload_n 3, 1) := by decide +kernel
theorem dX1_agrees_3 : decode cX1_agrees 3 = .ok (.aload_n 0, 1) := by decide +kernel
theorem dX1_agrees_4 : decode cX1_agrees 4 = .ok (.getfield 21, 3) := by decide +kernel
theorem dX1_agrees_7 : decode cX1_agrees 7 = .ok (.if_icmp .ge 54, 3) := by decide +kernel
theorem dX1_agrees_10 : decode cX1_agrees 10 = .ok (.aload_n 0, 1) := by decide +kernel
theorem dX1_agrees_11 : decode cX1_agrees 11 = .ok (.getfield 9, 3) := by decide +kernel
theorem dX1_agrees_14 : decode cX1_agrees 14 = .ok (.iload_n 3, 1) := by decide +kernel
theorem dX1_agrees_15 : decode cX1_agrees 15 = .ok (.iaload, 1) := by decide +kernel
theorem dX1_agrees_16 : decode cX1_agrees 16 = .ok (.iload_n 2, 1) := by decide +kernel
theorem dX1_agrees_17 : decode cX1_agrees 17 = .ok (.if_icmp .ne 38, 3) := by decide +kernel
theorem dX1_agrees_20 : decode cX1_agrees 20 = .ok (.aload_n 1, 1) := by decide +kernel
theorem dX1_agrees_21 : decode cX1_agrees 21 = .ok (.aload_n 0, 1) := by decide +kernel
theorem dX1_agrees_22 : decode cX1_agrees 22 = .ok (.getfield 15, 3) := by decide +kernel
theorem dX1_agrees_25 : decode cX1_agrees 25 = .ok (.iload_n 3, 1) := by decide +kernel
theorem dX1_agrees_26 : decode cX1_agrees 26 = .ok (.iaload, 1) := by decide +kernel
theorem dX1_agrees_27 : decode cX1_agrees 27 = .ok (.invokevirtual 44, 3) := by decide +kernel
theorem dX1_agrees_30 : decode cX1_agrees 30 = .ok (.ifCond .eq 23, 3) := by decide +kernel
theorem dX1_agrees_33 : decode cX1_agrees 33 = .ok (.aload_n 1, 1) := by decide +kernel
theorem dX1_agrees_34 : decode cX1_agrees 34 = .ok (.getfield 48, 3) := by decide +kernel
theorem dX1_agrees_37 : decode cX1_agrees 37 = .ok (.aload_n 0, 1) := by decide +kernel
theorem dX1_agrees_38 : decode cX1_agrees 38 = .ok (.getfield 15, 3) := by decide +kernel
theorem dX1_agrees_41 : decode cX1_agrees 41 = .ok (.iload_n 3, 1) := by decide +kernel
theorem dX1_agrees_42 : decode cX1_agrees 42 = .ok (.iaload, 1) := by decide +kernel
theorem dX1_agrees_43 : decode cX1_agrees 43 = .ok (.iaload, 1) := by decide +kernel
theorem dX1_agrees_44 : decode cX1_agrees 44 = .ok (.aload_n 0, 1) := by decide +kernel
theorem dX1_agrees_45 : decode cX1_agrees 45 = .ok (.getfield 18, 3) := by decide +kernel
theorem dX1_agrees_48 : decode cX1_agrees 48 = .ok (.iload_n 3, 1) := by decide +kernel
theorem dX1_agrees_49 : decode cX1_agrees 49 = .ok (.iaload, 1) := by decide +kernel
theorem dX1_agrees_50 : decode cX1_agrees 50 = .ok (.if_icmp .eq 5, 3) := by decide +kernel
theorem dX1_agrees_53 : decode cX1_agrees 53 = .ok (.iconst 0, 1) := by decide +kernel
theorem dX1_agrees_54 : decode cX1_agrees 54 = .ok (.ireturn, 1) := by decide +kernel
theorem dX1_agrees_55 : decode cX1_agrees 55 = .ok (.iinc 3 1, 3) := by decide +kernel
theorem dX1_agrees_58 : decode cX1_agrees 58 = .ok (.goto (-56), 3) := by decide +kernel
theorem dX1_agrees_61 : decode cX1_agrees 61 = .ok (.iconst 1, 1) := by decide +kernel
theorem dX1_agrees_62 : decode cX1_agrees 62 = .ok (.ireturn, 1) := by decide +kernel
theorem dX2_init_0 : decode cX2_init 0 = .ok (.aload_n 0, 1) := by decide +kernel
theorem dX2_init_1 : decode cX2_init 1 = .ok (.invokespecial 3, 3) := by decide +kernel
theorem dX2_init_4 : decode cX2_init 4 = .ok (.aload_n 0, 1) := by decide +kernel
theorem dX2_init_5 : decode cX2_init 5 = .ok (.iconst 4, 1) := by decide +kernel
theorem dX2_init_6 : decode cX2_init 6 = .ok (.bipush 40, 2) := by decide +kernel
theorem dX2_init_8 : decode cX2_init 8 = .ok (.multianewarray 9 2, 4) := by decide +kernel
theorem dX2_init_12 : decode cX2_init 12 = .ok (.putfield 11, 3) := by decide +kernel
theorem dX2_init_15 : decode cX2_init 15 = .ok (.aload_n 0, 1) := by decide +kernel
theorem dX2_init_16 : decode cX2_init 16 = .ok (.iconst 4, 1) := by decide +kernel
theorem dX2_init_17 : decode cX2_init 17 = .ok (.newarray .int, 2) := by decide +kernel
theorem dX2_init_19 : decode cX2_init 19 = .ok (.dup, 1) := by decide +kernel
theorem dX2_init_20 : decode cX2_init 20 = .ok (.iconst 0, 1) := by decide +kernel
theorem dX2_init_21 : decode cX2_init 21 = .ok (.iconst (-1), 1) := by decide +kernel
theorem dX2_init_22 : decode cX2_init 22 = .ok (.iastore, 1) := by decide +kernel
theorem dX2_init_23 : decode cX2_init 23 = .ok (.dup, 1) := by decide +kernel
theorem dX2_init_24 : decode cX2_init 24 = .ok (.iconst 1, 1) := by decide +kernel
theorem dX2_init_25 : decode cX2_init 25 = .ok (.iconst (-1), 1) := by decide +kernel
theorem dX2_init_26 : decode cX2_init 26 = .ok (.iastore, 1) := by decide +kernel
theorem dX2_init_27 : decode cX2_init 27 = .ok (.dup, 1) := by decide +kernel
theorem dX2_init_28 : decode cX2_init 28 = .ok (.iconst 2, 1) := by decide +kernel
theorem dX2_init_29 : decode cX2_init 29 = .ok (.iconst (-1), 1) := by decide +kernel
theorem dX2_init_30 : decode cX2_init 30 = .ok (.iastore, 1) := by decide +kernel
theorem dX2_init_31 : decode cX2_init 31 = .ok (.dup, 1) := by decide +kernel
theorem dX2_init_32 : decode cX2_init 32 = .ok (.iconst 3, 1) := by decide +kernel
theorem dX2_init_33 : decode cX2_init 33 = .ok (.iconst (-1), 1) := by decide +kernel
theorem dX2_init_34 : decode cX2_init 34 = .ok (.iastore, 1) := by decide +kernel
theorem dX2_init_35 : decode cX2_init 35 = .ok (.putfield 16, 3) := by decide +kernel
theorem dX2_init_38 : decode cX2_init 38 = .ok (.aload_n 0, 1) := by decide +kernel
theorem dX2_init_39 : decode cX2_init 39 = .ok (.iconst 4, 1) := by decide +kernel
theorem dX2_init_40 : decode cX2_init 40 = .ok (.newarray .int, 2) := by decide +kernel
theorem dX2_init_42 : decode cX2_init 42 = .ok (.putfield 20, 3) := by decide +kernel
theorem dX2_init_45 : decode cX2_init 45 = .ok (.return_, 1) := by decide +kernel
theorem dX2_isNothing_0 : decode cX2_isNothing 0 = .ok (.aload_n 0, 1) := by decide +kernel
theorem dX2_isNothing_1 : decode cX2_isNothing 1 = .ok (.getfield 16, 3) := by decide +kernel
theorem dX2_isNothing_4 : decode cX2_isNothing 4 = .ok (.iload_n 1, 1) := by decide +kernel
theorem dX2_isNothing_5 : decode cX2_isNothing 5 = .ok (.iaload, 1) := by decide +kernel
theorem dX2_isNothing_6 : decode cX2_isNothing 6 = .ok (.iconst (-1), 1) := by decide +kernel
theorem dX2_isNothing_7 : decode cX2_isNothing 7 = .ok (.if_icmp .ne 7, 3) := by decide +kernel
theorem dX2_isNothing_10 : decode cX2_isNothing 10 = .ok (.iconst 1, 1) := by decide +kernel
theorem dX2_isNothing_11 : decode cX2_isNothing 11 = .ok (.goto 4, 3) := by decide +kernel
theorem dX2_isNothing_14 : decode cX2_isNothing 14 = .ok (.iconst 0, 1) := by decide +kernel
theorem dX2_isNothing_15 : decode cX2_isNothing 15 = .ok (.ireturn, 1) := by decide +kernel
theorem dX2_make_0 : decode cX2_make 0 = .ok (.aload_n 0, 1) := by decide +kernel
theorem dX2_make_1 : decode cX2_make 1 = .ok (.getfield 20, 3) := by decide +kernel
theorem dX2_make_4 : decode cX2_make 4 = .ok (.iload_n 1, 1) := by decide +kernel
theorem dX2_make_5 : decode cX2_make 5 = .ok (.iload_n 2, 1) := by decide +kernel
theorem dX2_make_6 : decode cX2_make 6 = .ok (.iastore, 1) := by decide +kernel
theorem dX2_make_7 : decode cX2_make 7 = .ok (.aload_n 0, 1) := by decide +kernel
theorem dX2_make_8 : decode cX2_make 8 = .ok (.getfield 16, 3) := by decide +kernel
theorem dX2_make_11 : decode cX2_make 11 = .ok (.iload_n 1, 1) := by decide +kernel
theorem dX2_make_12 : decode cX2_make 12 = .ok (.iload_n 3, 1) := by decide +kernel
theorem dX2_make_13 : decode cX2_make 13 = .ok (.iastore, 1) := by decide +kernel
theorem dX2_make_14 : decode cX2_make 14 = .ok (.iconst 0, 1) := by decide +kernel
theorem dX2_make_15 : decode cX2_make 15 = .ok (.istore 4, 2) := by decide +kernel
theorem dX2_make_17 : decode cX2_make 17 = .ok (.iload 4, 2) := by decide +kernel
theorem dX2_make_19 : decode cX2_make 19 = .ok (.iload_n 3, 1) := by decide +kernel
theorem dX2_make_20 : decode cX2_make 20 = .ok (.if_icmp .ge 19, 3) := by decide +kernel
theorem dX2_make_23 : decode cX2_make 23 = .ok (.aload_n 0, 1) := by decide +kernel
theorem dX2_make_24 : decode cX2_make 24 = .ok (.getfield 11, 3) := by decide +kernel
theorem dX2_make_27 : decode cX2_make 27 = .ok (.iload_n 1, 1) := by decide +kernel
theorem dX2_make_28 : decode cX2_make 28 = .ok (.aaload, 1) := by decide +kernel
theorem dX2_make_29 : decode cX2_make 29 = .ok (.iload 4, 2) := by decide +kernel
theorem dX2_make_31 : decode cX2_make 31 = .ok (.iconst 0, 1) := by decide +kernel
theorem dX2_make_32 : decode cX2_make 32 = .ok (.iastore, 1) := by decide +kernel
theorem dX2_make_33 : decode cX2_make 33 = .ok (.iinc 4 1, 3) := by decide +kernel
theorem dX2_make_36 : decode cX2_make 36 = .ok (.goto (-19), 3) := by decide +kernel
theorem dX2_make_39 : decode cX2_make 39 = .ok (.return_, 1) := by decide +kernel
theorem dX2_put_0 : decode cX2_put 0 = .ok (.aload_n 0, 1) := by decide +kernel
theorem dX2_put_1 : decode cX2_put 1 = .ok (.getfield 20, 3) := by decide +kernel
theorem dX2_put_4 : decode cX2_put 4 = .ok (.iload_n 1, 1) := by decide +kernel
theorem dX2_put_5 : decode cX2_put 5 = .ok (.iaload, 1) := by decide +kernel
theorem dX2_put_6 : decode cX2_put 6 = .ok (.lookupswitch 52 #[(0, 26), (1, 39)], 26) := by decide +kernel
theorem dX2_put_32 : decode cX2_put 32 = .ok (.aload_n 0, 1) := by decide +kernel
theorem dX2_put_33 : decode cX2_put 33 = .ok (.getfield 11, 3) := by decide +kernel
theorem dX2_put_36 : decode cX2_put 36 = .ok (.iload_n 1, 1) := by decide +kernel
theorem dX2_put_37 : decode cX2_put 37 = .ok (.aaload, 1) := by decide +kernel
theorem dX2_put_38 : decode cX2_put 38 = .ok (.iload_n 2, 1) := by decide +kernel
theorem dX2_put_39 : decode cX2_put 39 = .ok (.iload_n 3, 1) := by decide +kernel
theorem dX2_put_40 : decode cX2_put 40 = .ok (.i2b, 1) := by decide +kernel
theorem dX2_put_41 : decode cX2_put 41 = .ok (.iastore, 1) := by decide +kernel
theorem dX2_put_42 : decode cX2_put 42 = .ok (.goto 25, 3) := by decide +kernel
theorem dX2_put_45 : decode cX2_put 45 = .ok (.aload_n 0, 1) := by decide +kernel
theorem dX2_put_46 : decode cX2_put 46 = .ok (.getfield 11, 3) := by decide +kernel
theorem dX2_put_49 : decode cX2_put 49 = .ok (.iload_n 1, 1) := by decide +kernel
theorem dX2_put_50 : decode cX2_put 50 = .ok (.aaload, 1) := by decide +kernel
theorem dX2_put_51 : decode cX2_put 51 = .ok (.iload_n 2, 1) := by decide +kernel
theorem dX2_put_52 : decode cX2_put 52 = .ok (.iload_n 3, 1) := by decide +kernel
theorem dX2_put_53 : decode cX2_put 53 = .ok (.i2s, 1) := by decide +kernel
theorem dX2_put_54 : decode cX2_put 54 = .ok (.iastore, 1) := by decide +kernel
theorem dX2_put_55 : decode cX2_put 55 = .ok (.goto 12, 3) := by decide +kernel
theorem dX2_put_58 : decode cX2_put 58 = .ok (.aload_n 0, 1) := by decide +kernel
theorem dX2_put_59 : decode cX2_put 59 = .ok (.getfield 11, 3) := by decide +kernel
theorem dX2_put_62 : decode cX2_put 62 = .ok (.iload_n 1, 1) := by decide +kernel
theorem dX2_put_63 : decode cX2_put 63 = .ok (.aaload, 1) := by decide +kernel
theorem dX2_put_64 : decode cX2_put 64 = .ok (.iload_n 2, 1) := by decide +kernel
theorem dX2_put_65 : decode cX2_put 65 = .ok (.iload_n 3, 1) := by decide +kernel
theorem dX2_put_66 : decode cX2_put 66 = .ok (.iastore, 1) := by decide +kernel
theorem dX2_put_67 : decode cX2_put 67 = .ok (.return_, 1) := by decide +kernel
theorem dX2_faultAt_0 : decode cX2_faultAt 0 = .ok (.aload_n 0, 1) := by decide +kernel
theorem dX2_faultAt_1 : decode cX2_faultAt 1 = .ok (.iload_n 1, 1) := by decide +kernel
theorem dX2_faultAt_2 : decode cX2_faultAt 2 = .ok (.invokevirtual 23, 3) := by decide +kernel
theorem dX2_faultAt_5 : decode cX2_faultAt 5 = .ok (.ifCond .eq 5, 3) := by decide +kernel
theorem dX2_faultAt_8 : decode cX2_faultAt 8 = .ok (.iconst 1, 1) := by decide +kernel
theorem dX2_faultAt_9 : decode cX2_faultAt 9 = .ok (.ireturn, 1) := by decide +kernel
theorem dX2_faultAt_10 : decode cX2_faultAt 10 = .ok (.iload_n 2, 1) := by decide +kernel
theorem dX2_faultAt_11 : decode cX2_faultAt 11 = .ok (.iconst 0, 1) := by decide +kernel
theorem dX2_faultAt_12 : decode cX2_faultAt 12 = .ok (.aload_n 0, 1) := by decide +kernel
theorem dX2_faultAt_13 : decode cX2_faultAt 13 = .ok (.getfield 16, 3) := by decide +kernel
theorem dX2_faultAt_16 : decode cX2_faultAt 16 = .ok (.iload_n 1, 1) := by decide +kernel
theorem dX2_faultAt_17 : decode cX2_faultAt 17 = .ok (.iaload, 1) := by decide +kernel
theorem dX2_faultAt_18 : decode cX2_faultAt 18 = .ok (.iconst 1, 1) := by decide +kernel
theorem dX2_faultAt_19 : decode cX2_faultAt 19 = .ok (.isub, 1) := by decide +kernel
theorem dX2_faultAt_20 : decode cX2_faultAt 20 = .ok (.invokestatic 27, 3) := by decide +kernel
theorem dX2_faultAt_23 : decode cX2_faultAt 23 = .ok (.ifCond .eq 7, 3) := by decide +kernel
theorem dX2_faultAt_26 : decode cX2_faultAt 26 = .ok (.iconst 0, 1) := by decide +kernel
theorem dX2_faultAt_27 : decode cX2_faultAt 27 = .ok (.goto 4, 3) := by decide +kernel
theorem dX2_faultAt_30 : decode cX2_faultAt 30 = .ok (.iconst 2, 1) := by decide +kernel
theorem dX2_faultAt_31 : decode cX2_faultAt 31 = .ok (.ireturn, 1) := by decide +kernel
theorem dX2_faultAs_0 : decode cX2_faultAs 0 = .ok (.aload_n 0, 1) := by decide +kernel
theorem dX2_faultAs_1 : decode cX2_faultAs 1 = .ok (.iload_n 1, 1) := by decide +kernel
theorem dX2_faultAs_2 : decode cX2_faultAs 2 = .ok (.invokevirtual 23, 3) := by decide +kernel
theorem dX2_faultAs_5 : decode cX2_faultAs 5 = .ok (.ifCond .ne 13, 3) := by decide +kernel
theorem dX2_faultAs_8 : decode cX2_faultAs 8 = .ok (.aload_n 0, 1) := by decide +kernel
theorem dX2_faultAs_9 : decode cX2_faultAs 9 = .ok (.getfield 20, 3) := by decide +kernel
theorem dX2_faultAs_12 : decode cX2_faultAs 12 = .ok (.iload_n 1, 1) := by decide +kernel
theorem dX2_faultAs_13 : decode cX2_faultAs 13 = .ok (.iaload, 1) := by decide +kernel
theorem dX2_faultAs_14 : decode cX2_faultAs 14 = .ok (.iload_n 2, 1) := by decide +kernel
theorem dX2_faultAs_15 : decode cX2_faultAs 15 = .ok (.if_icmp .ne 7, 3) := by decide +kernel
theorem dX2_faultAs_18 : decode cX2_faultAs 18 = .ok (.iconst 0, 1) := by decide +kernel
theorem dX2_faultAs_19 : decode cX2_faultAs 19 = .ok (.goto 4, 3) := by decide +kernel
theorem dX2_faultAs_22 : decode cX2_faultAs 22 = .ok (.iconst 3, 1) := by decide +kernel
theorem dX2_faultAs_23 : decode cX2_faultAs 23 = .ok (.ireturn, 1) := by decide +kernel
theorem dX2_faultOfPair_0 : decode cX2_faultOfPair 0 = .ok (.aload_n 0, 1) := by decide +kernel
theorem dX2_faultOfPair_1 : decode cX2_faultOfPair 1 = .ok (.iload_n 1, 1) := by decide +kernel
theorem dX2_faultOfPair_2 : decode cX2_faultOfPair 2 = .ok (.iload_n 2, 1) := by decide +kernel
theorem dX2_faultOfPair_3 : decode cX2_faultOfPair 3 = .ok (.invokevirtual 31, 3) := by decide +kernel
theorem dX2_faultOfPair_6 : decode cX2_faultOfPair 6 = .ok (.istore 5, 2) := by decide +kernel
theorem dX2_faultOfPair_8 : decode cX2_faultOfPair 8 = .ok (.iload 5, 2) := by decide +kernel
theorem dX2_faultOfPair_10 : decode cX2_faultOfPair 10 = .ok (.ifCond .ne 11, 3) := by decide +kernel
theorem dX2_faultOfPair_13 : decode cX2_faultOfPair 13 = .ok (.aload_n 0, 1) := by decide +kernel
theorem dX2_faultOfPair_14 : decode cX2_faultOfPair 14 = .ok (.iload_n 1, 1) := by decide +kernel
theorem dX2_faultOfPair_15 : decode cX2_faultOfPair 15 = .ok (.iload_n 3, 1) := by decide +kernel
theorem dX2_faultOfPair_16 : decode cX2_faultOfPair 16 = .ok (.invokevirtual 35, 3) := by decide +kernel
theorem dX2_faultOfPair_19 : decode cX2_faultOfPair 19 = .ok (.istore 5, 2) := by decide +kernel
theorem dX2_faultOfPair_21 : decode cX2_faultOfPair 21 = .ok (.iload 5, 2) := by decide +kernel
theorem dX2_faultOfPair_23 : decode cX2_faultOfPair 23 = .ok (.ifCond .eq 8, 3) := by decide +kernel
theorem dX2_faultOfPair_26 : decode cX2_faultOfPair 26 = .ok (.iload 5, 2) := by decide +kernel
theorem dX2_faultOfPair_28 : decode cX2_faultOfPair 28 = .ok (.goto 16, 3) := by decide +kernel
theorem dX2_faultOfPair_31 : decode cX2_faultOfPair 31 = .ok (.aload_n 0, 1) := by decide +kernel
theorem dX2_faultOfPair_32 : decode cX2_faultOfPair 32 = .ok (.iload_n 1, 1) := by decide +kernel
theorem dX2_faultOfPair_33 : decode cX2_faultOfPair 33 = .ok (.iload_n 3, 1) := by decide +kernel
theorem dX2_faultOfPair_34 : decode cX2_faultOfPair 34 = .ok (.iconst 2, 1) := by decide +kernel
theorem dX2_faultOfPair_35 : decode cX2_faultOfPair 35 = .ok (.iload 4, 2) := by decide +kernel
theorem dX2_faultOfPair_37 : decode cX2_faultOfPair 37 = .ok (.imul, 1) := by decide +kernel
theorem dX2_faultOfPair_38 : decode cX2_faultOfPair 38 = .ok (.iadd, 1) := by decide +kernel
theorem dX2_faultOfPair_39 : decode cX2_faultOfPair 39 = .ok (.iconst 1, 1) := by decide +kernel
theorem dX2_faultOfPair_40 : decode cX2_faultOfPair 40 = .ok (.iadd, 1) := by decide +kernel
theorem dX2_faultOfPair_41 : decode cX2_faultOfPair 41 = .ok (.invokevirtual 35, 3) := by decide +kernel
theorem dX2_faultOfPair_44 : decode cX2_faultOfPair 44 = .ok (.ireturn, 1) := by decide +kernel
theorem dX3_init_0 : decode cX3_init 0 = .ok (.aload_n 0, 1) := by decide +kernel
theorem dX3_init_1 : decode cX3_init 1 = .ok (.invokespecial 3, 3) := by decide +kernel
theorem dX3_init_4 : decode cX3_init 4 = .ok (.aload_n 0, 1) := by decide +kernel
theorem dX3_init_5 : decode cX3_init 5 = .ok (.sipush 160, 3) := by decide +kernel
theorem dX3_init_8 : decode cX3_init 8 = .ok (.newarray .byte, 2) := by decide +kernel
theorem dX3_init_10 : decode cX3_init 10 = .ok (.putfield 11, 3) := by decide +kernel
theorem dX3_init_13 : decode cX3_init 13 = .ok (.return_, 1) := by decide +kernel
theorem dX3_put_0 : decode cX3_put 0 = .ok (.aload_n 0, 1) := by decide +kernel
theorem dX3_put_1 : decode cX3_put 1 = .ok (.getfield 15, 3) := by decide +kernel
theorem dX3_put_4 : decode cX3_put 4 = .ok (.sipush 160, 3) := by decide +kernel
theorem dX3_put_7 : decode cX3_put 7 = .ok (.if_icmp .lt 5, 3) := by decide +kernel
theorem dX3_put_10 : decode cX3_put 10 = .ok (.iconst 0, 1) := by decide +kernel
theorem dX3_put_11 : decode cX3_put 11 = .ok (.ireturn, 1) := by decide +kernel
theorem dX3_put_12 : decode cX3_put 12 = .ok (.aload_n 0, 1) := by decide +kernel
theorem dX3_put_13 : decode cX3_put 13 = .ok (.getfield 11, 3) := by decide +kernel
theorem dX3_put_16 : decode cX3_put 16 = .ok (.aload_n 0, 1) := by decide +kernel
theorem dX3_put_17 : decode cX3_put 17 = .ok (.getfield 15, 3) := by decide +kernel
theorem dX3_put_20 : decode cX3_put 20 = .ok (.iload_n 1, 1) := by decide +kernel
theorem dX3_put_21 : decode cX3_put 21 = .ok (.i2b, 1) := by decide +kernel
theorem dX3_put_22 : decode cX3_put 22 = .ok (.bastore, 1) := by decide +kernel
theorem dX3_put_23 : decode cX3_put 23 = .ok (.aload_n 0, 1) := by decide +kernel
theorem dX3_put_24 : decode cX3_put 24 = .ok (.dup, 1) := by decide +kernel
theorem dX3_put_25 : decode cX3_put 25 = .ok (.getfield 15, 3) := by decide +kernel
theorem dX3_put_28 : decode cX3_put 28 = .ok (.iconst 1, 1) := by decide +kernel
theorem dX3_put_29 : decode cX3_put 29 = .ok (.iadd, 1) := by decide +kernel
theorem dX3_put_30 : decode cX3_put 30 = .ok (.putfield 15, 3) := by decide +kernel
theorem dX3_put_33 : decode cX3_put 33 = .ok (.iconst 1, 1) := by decide +kernel
theorem dX3_put_34 : decode cX3_put 34 = .ok (.ireturn, 1) := by decide +kernel
theorem dX3_tellInto_0 : decode cX3_tellInto 0 = .ok (.aload_n 1, 1) := by decide +kernel
theorem dX3_tellInto_1 : decode cX3_tellInto 1 = .ok (.invokevirtual 19, 3) := by decide +kernel
theorem dX3_tellInto_4 : decode cX3_tellInto 4 = .ok (.aload_n 0, 1) := by decide +kernel
theorem dX3_tellInto_5 : decode cX3_tellInto 5 = .ok (.iconst 0, 1) := by decide +kernel
theorem dX3_tellInto_6 : decode cX3_tellInto 6 = .ok (.putfield 24, 3) := by decide +kernel
theorem dX3_tellInto_9 : decode cX3_tellInto 9 = .ok (.aload_n 0, 1) := by decide +kernel
theorem dX3_tellInto_10 : decode cX3_tellInto 10 = .ok (.iconst 0, 1) := by decide +kernel
theorem dX3_tellInto_11 : decode cX3_tellInto 11 = .ok (.putfield 27, 3) := by decide +kernel
theorem dX3_tellInto_14 : decode cX3_tellInto 14 = .ok (.aload_n 0, 1) := by decide +kernel
theorem dX3_tellInto_15 : decode cX3_tellInto 15 = .ok (.iconst 0, 1) := by decide +kernel
theorem dX3_tellInto_16 : decode cX3_tellInto 16 = .ok (.putfield 30, 3) := by decide +kernel
theorem dX3_tellInto_19 : decode cX3_tellInto 19 = .ok (.aload_n 0, 1) := by decide +kernel
theorem dX3_tellInto_20 : decode cX3_tellInto 20 = .ok (.iconst 0, 1) := by decide +kernel
theorem dX3_tellInto_21 : decode cX3_tellInto 21 = .ok (.putfield 33, 3) := by decide +kernel
theorem dX3_tellInto_24 : decode cX3_tellInto 24 = .ok (.iconst 0, 1) := by decide +kernel
theorem dX3_tellInto_25 : decode cX3_tellInto 25 = .ok (.istore_n 2, 1) := by decide +kernel
theorem dX3_tellInto_26 : decode cX3_tellInto 26 = .ok (.iconst 0, 1) := by decide +kernel
theorem dX3_tellInto_27 : decode cX3_tellInto 27 = .ok (.istore_n 3, 1) := by decide +kernel
theorem dX3_tellInto_28 : decode cX3_tellInto 28 = .ok (.iload_n 3, 1) := by decide +kernel
theorem dX3_tellInto_29 : decode cX3_tellInto 29 = .ok (.sipush 160, 3) := by decide +kernel
theorem dX3_tellInto_32 : decode cX3_tellInto 32 = .ok (.if_icmp .gt 40, 3) := by decide +kernel
theorem dX3_tellInto_35 : decode cX3_tellInto 35 = .ok (.aload_n 0, 1) := by decide +kernel
theorem dX3_tellInto_36 : decode cX3_tellInto 36 = .ok (.invokevirtual 37, 3) := by decide +kernel
theorem dX3_tellInto_39 : decode cX3_tellInto 39 = .ok (.aload_n 0, 1) := by decide +kernel
theorem dX3_tellInto_40 : decode cX3_tellInto 40 = .ok (.getfield 40, 3) := by decide +kernel
theorem dX3_tellInto_43 : decode cX3_tellInto 43 = .ok (.iconst 4, 1) := by decide +kernel
theorem dX3_tellInto_44 : decode cX3_tellInto 44 = .ok (.if_icmp .ne 5, 3) := by decide +kernel
theorem dX3_tellInto_47 : decode cX3_tellInto 47 = .ok (.iload_n 2, 1) := by decide +kernel
theorem dX3_tellInto_48 : decode cX3_tellInto 48 = .ok (.ireturn, 1) := by decide +kernel
theorem dX3_tellInto_49 : decode cX3_tellInto 49 = .ok (.aload_n 0, 1) := by decide +kernel
theorem dX3_tellInto_50 : decode cX3_tellInto 50 = .ok (.aload_n 1, 1) := by decide +kernel
theorem dX3_tellInto_51 : decode cX3_tellInto 51 = .ok (.invokevirtual 43, 3) := by decide +kernel
theorem dX3_tellInto_54 : decode cX3_tellInto 54 = .ok (.aload_n 0, 1) := by decide +kernel
theorem dX3_tellInto_55 : decode cX3_tellInto 55 = .ok (.getfield 24, 3) := by decide +kernel
theorem dX3_tellInto_58 : decode cX3_tellInto 58 = .ok (.ifCond .eq 5, 3) := by decide +kernel
theorem dX3_tellInto_61 : decode cX3_tellInto 61 = .ok (.iload_n 2, 1) := by decide +kernel
theorem dX3_tellInto_62 : decode cX3_tellInto 62 = .ok (.ireturn, 1) := by decide +kernel
theorem dX3_tellInto_63 : decode cX3_tellInto 63 = .ok (.iinc 2 1, 3) := by decide +kernel
theorem dX3_tellInto_66 : decode cX3_tellInto 66 = .ok (.iinc 3 1, 3) := by decide +kernel
theorem dX3_tellInto_69 : decode cX3_tellInto 69 = .ok (.goto (-41), 3) := by decide +kernel
theorem dX3_tellInto_72 : decode cX3_tellInto 72 = .ok (.iload_n 2, 1) := by decide +kernel
theorem dX3_tellInto_73 : decode cX3_tellInto 73 = .ok (.ireturn, 1) := by decide +kernel
theorem dX3_blame_0 : decode cX3_blame 0 = .ok (.aload_n 0, 1) := by decide +kernel
theorem dX3_blame_1 : decode cX3_blame 1 = .ok (.getfield 24, 3) := by decide +kernel
theorem dX3_blame_4 : decode cX3_blame 4 = .ok (.ifCond .ne 16, 3) := by decide +kernel
theorem dX3_blame_7 : decode cX3_blame 7 = .ok (.aload_n 0, 1) := by decide +kernel
theorem dX3_blame_8 : decode cX3_blame 8 = .ok (.iload_n 1, 1) := by decide +kernel
theorem dX3_blame_9 : decode cX3_blame 9 = .ok (.putfield 24, 3) := by decide +kernel
theorem dX3_blame_12 : decode cX3_blame 12 = .ok (.aload_n 0, 1) := by decide +kernel
theorem dX3_blame_13 : decode cX3_blame 13 = .ok (.aload_n 0, 1) := by decide +kernel
theorem dX3_blame_14 : decode cX3_blame 14 = .ok (.getfield 47, 3) := by decide +kernel
theorem dX3_blame_17 : decode cX3_blame 17 = .ok (.putfield 27, 3) := by decide +kernel
theorem dX3_blame_20 : decode cX3_blame 20 = .ok (.return_, 1) := by decide +kernel
theorem dX3_takeLine_0 : decode cX3_takeLine 0 = .ok (.aload_n 0, 1) := by decide +kernel
theorem dX3_takeLine_1 : decode cX3_takeLine 1 = .ok (.getfield 40, 3) := by decide +kernel
theorem dX3_takeLine_4 : decode cX3_takeLine 4 = .ok (.iconst 1, 1) := by decide +kernel
theorem dX3_takeLine_5 : decode cX3_takeLine 5 = .ok (.if_icmp .ne 10, 3) := by decide +kernel
theorem dX3_takeLine_8 : decode cX3_takeLine 8 = .ok (.aload_n 0, 1) := by decide +kernel
theorem dX3_takeLine_9 : decode cX3_takeLine 9 = .ok (.invokevirtual 50, 3) := by decide +kernel
theorem dX3_takeLine_12 : decode cX3_takeLine 12 = .ok (.goto 5, 3) := by decide +kernel
theorem dX3_takeLine_15 : decode cX3_takeLine 15 = .ok (.bipush 7, 2) := by decide +kernel
theorem dX3_takeLine_17 : decode cX3_takeLine 17 = .ok (.istore_n 2, 1) := by decide +kernel
theorem dX3_takeLine_18 : decode cX3_takeLine 18 = .ok (.iload_n 2, 1) := by decide +kernel
theorem dX3_takeLine_19 : decode cX3_takeLine 19 = .ok (.bipush 7, 2) := by decide +kernel
theorem dX3_takeLine_21 : decode cX3_takeLine 21 = .ok (.if_icmp .ne 11, 3) := by decide +kernel
theorem dX3_takeLine_24 : decode cX3_takeLine 24 = .ok (.aload_n 0, 1) := by decide +kernel
theorem dX3_takeLine_25 : decode cX3_takeLine 25 = .ok (.iconst 2, 1) := by decide +kernel
theorem dX3_takeLine_26 : decode cX3_takeLine 26 = .ok (.invokevirtual 54, 3) := by decide +kernel
theorem dX3_takeLine_29 : decode cX3_takeLine 29 = .ok (.goto 52, 3) := by decide +kernel
theorem dX3_takeLine_32 : decode cX3_takeLine 32 = .ok (.iload_n 2, 1) := by decide +kernel
theorem dX3_takeLine_33 : decode cX3_takeLine 33 = .ok (.iconst 4, 1) := by decide +kernel
theorem dX3_takeLine_34 : decode cX3_takeLine 34 = .ok (.if_icmp .ne 11, 3) := by decide +kernel
theorem dX3_takeLine_37 : decode cX3_takeLine 37 = .ok (.aload_n 0, 1) := by decide +kernel
theorem dX3_takeLine_38 : decode cX3_takeLine 38 = .ok (.aload_n 1, 1) := by decide +kernel
theorem dX3_takeLine_39 : decode cX3_takeLine 39 = .ok (.invokevirtual 58, 3) := by decide +kernel
theorem dX3_takeLine_42 : decode cX3_takeLine 42 = .ok (.goto 39, 3) := by decide +kernel
theorem dX3_takeLine_45 : decode cX3_takeLine 45 = .ok (.iload_n 2, 1) := by decide +kernel
theorem dX3_takeLine_46 : decode cX3_takeLine 46 = .ok (.iconst 5, 1) := by decide +kernel
theorem dX3_takeLine_47 : decode cX3_takeLine 47 = .ok (.if_icmp .eq 9, 3) := by decide +kernel
theorem dX3_takeLine_50 : decode cX3_takeLine 50 = .ok (.iload_n 2, 1) := by decide +kernel
theorem dX3_takeLine_51 : decode cX3_takeLine 51 = .ok (.bipush 6, 2) := by decide +kernel
theorem dX3_takeLine_53 : decode cX3_takeLine 53 = .ok (.if_icmp .ne 22, 3) := by decide +kernel
theorem dX3_takeLine_56 : decode cX3_takeLine 56 = .ok (.aload_n 0, 1) := by decide +kernel
theorem dX3_takeLine_57 : decode cX3_takeLine 57 = .ok (.aload_n 1, 1) := by decide +kernel
theorem dX3_takeLine_58 : decode cX3_takeLine 58 = .ok (.iload_n 2, 1) := by decide +kernel
theorem dX3_takeLine_59 : decode cX3_takeLine 59 = .ok (.bipush 6, 2) := by decide +kernel
theorem dX3_takeLine_61 : decode cX3_takeLine 61 = .ok (.if_icmp .ne 7, 3) := by decide +kernel
theorem dX3_takeLine_64 : decode cX3_takeLine 64 = .ok (.iconst 1, 1) := by decide +kernel
theorem dX3_takeLine_65 : decode cX3_takeLine 65 = .ok (.goto 4, 3) := by decide +kernel
theorem dX3_takeLine_68 : decode cX3_takeLine 68 = .ok (.iconst 0, 1) := by decide +kernel
theorem dX3_takeLine_69 : decode cX3_takeLine 69 = .ok (.invokevirtual 61, 3) := by decide +kernel
theorem dX3_takeLine_72 : decode cX3_takeLine 72 = .ok (.goto 9, 3) := by decide +kernel
theorem dX3_takeLine_75 : decode cX3_takeLine 75 = .ok (.aload_n 0, 1) := by decide +kernel
theorem dX3_takeLine_76 : decode cX3_takeLine 76 = .ok (.aload_n 1, 1) := by decide +kernel
theorem dX3_takeLine_77 : decode cX3_takeLine 77 = .ok (.iload_n 2, 1) := by decide +kernel
theorem dX3_takeLine_78 : decode cX3_takeLine 78 = .ok (.invokevirtual 65, 3) := by decide +kernel
theorem dX3_takeLine_81 : decode cX3_takeLine 81 = .ok (.return_, 1) := by decide +kernel
theorem dX3_takeBead_0 : decode cX3_takeBead 0 = .ok (.aload_n 1, 1) := by decide +kernel
theorem dX3_takeBead_1 : decode cX3_takeBead 1 = .ok (.getfield 69, 3) := by decide +kernel
theorem dX3_takeBead_4 : decode cX3_takeBead 4 = .ok (.iconst 4, 1) := by decide +kernel
theorem dX3_takeBead_5 : decode cX3_takeBead 5 = .ok (.if_icmp .lt 8, 3) := by decide +kernel
theorem dX3_takeBead_8 : decode cX3_takeBead 8 = .ok (.aload_n 0, 1) := by decide +kernel
theorem dX3_takeBead_9 : decode cX3_takeBead 9 = .ok (.iconst 5, 1) := by decide +kernel
theorem dX3_takeBead_10 : decode cX3_takeBead 10 = .ok (.invokevirtual 54, 3) := by decide +kernel
theorem dX3_takeBead_13 : decode cX3_takeBead 13 = .ok (.aload_n 0, 1) := by decide +kernel
theorem dX3_takeBead_14 : decode cX3_takeBead 14 = .ok (.getstatic 72, 3) := by decide +kernel
theorem dX3_takeBead_17 : decode cX3_takeBead 17 = .ok (.iconst 1, 1) := by decide +kernel
theorem dX3_takeBead_18 : decode cX3_takeBead 18 = .ok (.iaload, 1) := by decide +kernel
theorem dX3_takeBead_19 : decode cX3_takeBead 19 = .ok (.getstatic 76, 3) := by decide +kernel
theorem dX3_takeBead_22 : decode cX3_takeBead 22 = .ok (.iconst 1, 1) := by decide +kernel
theorem dX3_takeBead_23 : decode cX3_takeBead 23 = .ok (.iaload, 1) := by decide +kernel
theorem dX3_takeBead_24 : decode cX3_takeBead 24 = .ok (.invokevirtual 79, 3) := by decide +kernel
theorem dX3_takeBead_27 : decode cX3_takeBead 27 = .ok (.istore_n 3, 1) := by decide +kernel
theorem dX3_takeBead_28 : decode cX3_takeBead 28 = .ok (.aload_n 0, 1) := by decide +kernel
theorem dX3_takeBead_29 : decode cX3_takeBead 29 = .ok (.getstatic 72, 3) := by decide +kernel
theorem dX3_takeBead_32 : decode cX3_takeBead 32 = .ok (.iconst 2, 1) := by decide +kernel
theorem dX3_takeBead_33 : decode cX3_takeBead 33 = .ok (.iaload, 1) := by decide +kernel
theorem dX3_takeBead_34 : decode cX3_takeBead 34 = .ok (.getstatic 76, 3) := by decide +kernel
theorem dX3_takeBead_37 : decode cX3_takeBead 37 = .ok (.iconst 2, 1) := by decide +kernel
theorem dX3_takeBead_38 : decode cX3_takeBead 38 = .ok (.iaload, 1) := by decide +kernel
theorem dX3_takeBead_39 : decode cX3_takeBead 39 = .ok (.invokevirtual 79, 3) := by decide +kernel
theorem dX3_takeBead_42 : decode cX3_takeBead 42 = .ok (.istore 4, 2) := by decide +kernel
theorem dX3_takeBead_44 : decode cX3_takeBead 44 = .ok (.aload_n 0, 1) := by decide +kernel
theorem dX3_takeBead_45 : decode cX3_takeBead 45 = .ok (.getstatic 72, 3) := by decide +kernel
theorem dX3_takeBead_48 : decode cX3_takeBead 48 = .ok (.iconst 3, 1) := by decide +kernel
theorem dX3_takeBead_49 : decode cX3_takeBead 49 = .ok (.iaload, 1) := by decide +kernel
theorem dX3_takeBead_50 : decode cX3_takeBead 50 = .ok (.getstatic 76, 3) := by decide +kernel
theorem dX3_takeBead_53 : decode cX3_takeBead 53 = .ok (.iconst 3, 1) := by decide +kernel
theorem dX3_takeBead_54 : decode cX3_takeBead 54 = .ok (.iaload, 1) := by decide +kernel
theorem dX3_takeBead_55 : decode cX3_takeBead 55 = .ok (.invokevirtual 79, 3) := by decide +kernel
theorem dX3_takeBead_58 : decode cX3_takeBead 58 = .ok (.istore 5, 2) := by decide +kernel
theorem dX3_takeBead_60 : decode cX3_takeBead 60 = .ok (.aload_n 0, 1) := by decide +kernel
theorem dX3_takeBead_61 : decode cX3_takeBead 61 = .ok (.invokevirtual 83, 3) := by decide +kernel
theorem dX3_takeBead_64 : decode cX3_takeBead 64 = .ok (.aload_n 0, 1) := by decide +kernel
theorem dX3_takeBead_65 : decode cX3_takeBead 65 = .ok (.getfield 24, 3) := by decide +kernel
theorem dX3_takeBead_68 : decode cX3_takeBead 68 = .ok (.ifCond .ne 14, 3) := by decide +kernel
theorem dX3_takeBead_71 : decode cX3_takeBead 71 = .ok (.aload_n 1, 1) := by decide +kernel
theorem dX3_takeBead_72 : decode cX3_takeBead 72 = .ok (.iload_n 2, 1) := by decide +kernel
theorem dX3_takeBead_73 : decode cX3_takeBead 73 = .ok (.iload_n 3, 1) := by decide +kernel
theorem dX3_takeBead_74 : decode cX3_takeBead 74 = .ok (.iload 4, 2) := by decide +kernel
theorem dX3_takeBead_76 : decode cX3_takeBead 76 = .ok (.iload 5, 2) := by decide +kernel
theorem dX3_takeBead_78 : decode cX3_takeBead 78 = .ok (.invokevirtual 86, 3) := by decide +kernel
theorem dX3_takeBead_81 : decode cX3_takeBead 81 = .ok (.pop, 1) := by decide +kernel
theorem dX3_takeBead_82 : decode cX3_takeBead 82 = .ok (.return_, 1) := by decide +kernel
theorem dX3_takeDrag_0 : decode cX3_takeDrag 0 = .ok (.aload_n 0, 1) := by decide +kernel
theorem dX3_takeDrag_1 : decode cX3_takeDrag 1 = .ok (.getfield 33, 3) := by decide +kernel
theorem dX3_takeDrag_4 : decode cX3_takeDrag 4 = .ok (.ifCond .eq 8, 3) := by decide +kernel
theorem dX3_takeDrag_7 : decode cX3_takeDrag 7 = .ok (.aload_n 0, 1) := by decide +kernel
theorem dX3_takeDrag_8 : decode cX3_takeDrag 8 = .ok (.iconst 4, 1) := by decide +kernel
theorem dX3_takeDrag_9 : decode cX3_takeDrag 9 = .ok (.invokevirtual 54, 3) := by decide +kernel
theorem dX3_takeDrag_12 : decode cX3_takeDrag 12 = .ok (.aload_n 0, 1) := by decide +kernel
theorem dX3_takeDrag_13 : decode cX3_takeDrag 13 = .ok (.iconst 1, 1) := by decide +kernel
theorem dX3_takeDrag_14 : decode cX3_takeDrag 14 = .ok (.putfield 33, 3) := by decide +kernel
theorem dX3_takeDrag_17 : decode cX3_takeDrag 17 = .ok (.aload_n 0, 1) := by decide +kernel
theorem dX3_takeDrag_18 : decode cX3_takeDrag 18 = .ok (.iconst 0, 1) := by decide +kernel
theorem dX3_takeDrag_19 : decode cX3_takeDrag 19 = .ok (.iconst 3, 1) := by decide +kernel
theorem dX3_takeDrag_20 : decode cX3_takeDrag 20 = .ok (.invokevirtual 79, 3) := by decide +kernel
theorem dX3_takeDrag_23 : decode cX3_takeDrag 23 = .ok (.istore_n 2, 1) := by decide +kernel
theorem dX3_takeDrag_24 : decode cX3_takeDrag 24 = .ok (.aload_n 0, 1) := by decide +kernel
theorem dX3_takeDrag_25 : decode cX3_takeDrag 25 = .ok (.invokevirtual 83, 3) := by decide +kernel
theorem dX3_takeDrag_28 : decode cX3_takeDrag 28 = .ok (.aload_n 0, 1) := by decide +kernel
theorem dX3_takeDrag_29 : decode cX3_takeDrag 29 = .ok (.getfield 24, 3) := by decide +kernel
theorem dX3_takeDrag_32 : decode cX3_takeDrag 32 = .ok (.ifCond .ne 8, 3) := by decide +kernel
theorem dX3_takeDrag_35 : decode cX3_takeDrag 35 = .ok (.aload_n 1, 1) := by decide +kernel
theorem dX3_takeDrag_36 : decode cX3_takeDrag 36 = .ok (.iload_n 2, 1) := by decide +kernel
theorem dX3_takeDrag_37 : decode cX3_takeDrag 37 = .ok (.putfield 90, 3) := by decide +kernel
theorem dX3_takeDrag_40 : decode cX3_takeDrag 40 = .ok (.return_, 1) := by decide +kernel
theorem dX3_takeKnock_0 : decode cX3_takeKnock 0 = .ok (.aload_n 1, 1) := by decide +kernel
theorem dX3_takeKnock_1 : decode cX3_takeKnock 1 = .ok (.getfield 93, 3) := by decide +kernel
theorem dX3_takeKnock_4 : decode cX3_takeKnock 4 = .ok (.bipush 12, 2) := by decide +kernel
theorem dX3_takeKnock_6 : decode cX3_takeKnock 6 = .ok (.if_icmp .lt 8, 3) := by decide +kernel
theorem dX3_takeKnock_9 : decode cX3_takeKnock 9 = .ok (.aload_n 0, 1) := by decide +kernel
theorem dX3_takeKnock_10 : decode cX3_takeKnock 10 = .ok (.iconst 5, 1) := by decide +kernel
theorem dX3_takeKnock_11 : decode cX3_takeKnock 11 = .ok (.invokevirtual 54, 3) := by decide +kernel
theorem dX3_takeKnock_14 : decode cX3_takeKnock 14 = .ok (.aload_n 0, 1) := by decide +kernel
theorem dX3_takeKnock_15 : decode cX3_takeKnock 15 = .ok (.iconst 0, 1) := by decide +kernel
theorem dX3_takeKnock_16 : decode cX3_takeKnock 16 = .ok (.iconst 3, 1) := by decide +kernel
theorem dX3_takeKnock_17 : decode cX3_takeKnock 17 = .ok (.invokevirtual 79, 3) := by decide +kernel
theorem dX3_takeKnock_20 : decode cX3_takeKnock 20 = .ok (.istore_n 3, 1) := by decide +kernel
theorem dX3_takeKnock_21 : decode cX3_takeKnock 21 = .ok (.aload_n 0, 1) := by decide +kernel
theorem dX3_takeKnock_22 : decode cX3_takeKnock 22 = .ok (.iconst 0, 1) := by decide +kernel
theorem dX3_takeKnock_23 : decode cX3_takeKnock 23 = .ok (.bipush 9, 2) := by decide +kernel
theorem dX3_takeKnock_25 : decode cX3_takeKnock 25 = .ok (.invokevirtual 79, 3) := by decide +kernel
theorem dX3_takeKnock_28 : decode cX3_takeKnock 28 = .ok (.istore 4, 2) := by decide +kernel
theorem dX3_takeKnock_30 : decode cX3_takeKnock 30 = .ok (.aload_n 0, 1) := by decide +kernel
theorem dX3_takeKnock_31 : decode cX3_takeKnock 31 = .ok (.invokevirtual 83, 3) := by decide +kernel
theorem dX3_takeKnock_34 : decode cX3_takeKnock 34 = .ok (.aload_n 0, 1) := by decide +kernel
theorem dX3_takeKnock_35 : decode cX3_takeKnock 35 = .ok (.getfield 24, 3) := by decide +kernel
theorem dX3_takeKnock_38 : decode cX3_takeKnock 38 = .ok (.ifCond .ne 21, 3) := by decide +kernel
theorem dX3_takeKnock_41 : decode cX3_takeKnock 41 = .ok (.aload_n 1, 1) := by decide +kernel
theorem dX3_takeKnock_42 : decode cX3_takeKnock 42 = .ok (.iload_n 3, 1) := by decide +kernel
theorem dX3_takeKnock_43 : decode cX3_takeKnock 43 = .ok (.iload_n 2, 1) := by decide +kernel
theorem dX3_takeKnock_44 : decode cX3_takeKnock 44 = .ok (.ifCond .eq 9, 3) := by decide +kernel
theorem dX3_takeKnock_47 : decode cX3_takeKnock 47 = .ok (.iload 4, 2) := by decide +kernel
theorem dX3_takeKnock_49 : decode cX3_takeKnock 49 = .ok (.ineg, 1) := by decide +kernel
theorem dX3_takeKnock_50 : decode cX3_takeKnock 50 = .ok (.goto 5, 3) := by decide +kernel
theorem dX3_takeKnock_53 : decode cX3_takeKnock 53 = .ok (.iload 4, 2) := by decide +kernel
theorem dX3_takeKnock_55 : decode cX3_takeKnock 55 = .ok (.invokevirtual 96, 3) := by decide +kernel
theorem dX3_takeKnock_58 : decode cX3_takeKnock 58 = .ok (.pop, 1) := by decide +kernel
theorem dX3_takeKnock_59 : decode cX3_takeKnock 59 = .ok (.return_, 1) := by decide +kernel
theorem dX3_takeNumber_0 : decode cX3_takeNumber 0 = .ok (.aload_n 0, 1) := by decide +kernel
theorem dX3_takeNumber_1 : decode cX3_takeNumber 1 = .ok (.invokevirtual 37, 3) := by decide +kernel
theorem dX3_takeNumber_4 : decode cX3_takeNumber 4 = .ok (.aload_n 0, 1) := by decide +kernel
theorem dX3_takeNumber_5 : decode cX3_takeNumber 5 = .ok (.getfield 40, 3) := by decide +kernel
theorem dX3_takeNumber_8 : decode cX3_takeNumber 8 = .ok (.iconst 2, 1) := by decide +kernel
theorem dX3_takeNumber_9 : decode cX3_takeNumber 9 = .ok (.if_icmp .eq 10, 3) := by decide +kernel
theorem dX3_takeNumber_12 : decode cX3_takeNumber 12 = .ok (.aload_n 0, 1) := by decide +kernel
theorem dX3_takeNumber_13 : decode cX3_takeNumber 13 = .ok (.iconst 2, 1) := by decide +kernel
theorem dX3_takeNumber_14 : decode cX3_takeNumber 14 = .ok (.invokevirtual 54, 3) := by decide +kernel
theorem dX3_takeNumber_17 : decode cX3_takeNumber 17 = .ok (.iload_n 1, 1) := by decide +kernel
theorem dX3_takeNumber_18 : decode cX3_takeNumber 18 = .ok (.ireturn, 1) := by decide +kernel
theorem dX3_takeNumber_19 : decode cX3_takeNumber 19 = .ok (.aload_n 0, 1) := by decide +kernel
theorem dX3_takeNumber_20 : decode cX3_takeNumber 20 = .ok (.invokevirtual 100, 3) := by decide +kernel
theorem dX3_takeNumber_23 : decode cX3_takeNumber 23 = .ok (.istore_n 3, 1) := by decide +kernel
theorem dX3_takeNumber_24 : decode cX3_takeNumber 24 = .ok (.iload_n 3, 1) := by decide +kernel
theorem dX3_takeNumber_25 : decode cX3_takeNumber 25 = .ok (.iload_n 1, 1) := by decide +kernel
theorem dX3_takeNumber_26 : decode cX3_takeNumber 26 = .ok (.iload_n 2, 1) := by decide +kernel
theorem dX3_takeNumber_27 : decode cX3_takeNumber 27 = .ok (.invokestatic 103, 3) := by decide +kernel
theorem dX3_takeNumber_30 : decode cX3_takeNumber 30 = .ok (.ifCond .ne 8, 3) := by decide +kernel
theorem dX3_takeNumber_33 : decode cX3_takeNumber 33 = .ok (.aload_n 0, 1) := by decide +kernel
theorem dX3_takeNumber_34 : decode cX3_takeNumber 34 = .ok (.iconst 3, 1) := by decide +kernel
theorem dX3_takeNumber_35 : decode cX3_takeNumber 35 = .ok (.invokevirtual 54, 3) := by decide +kernel
theorem dX3_takeNumber_38 : decode cX3_takeNumber 38 = .ok (.iload_n 3, 1) := by decide +kernel
theorem dX3_takeNumber_39 : decode cX3_takeNumber 39 = .ok (.ireturn, 1) := by decide +kernel
theorem dX3_takeSemicolon_0 : decode cX3_takeSemicolon 0 = .ok (.aload_n 0, 1) := by decide +kernel
theorem dX3_takeSemicolon_1 : decode cX3_takeSemicolon 1 = .ok (.invokevirtual 37, 3) := by decide +kernel
theorem dX3_takeSemicolon_4 : decode cX3_takeSemicolon 4 = .ok (.aload_n 0, 1) := by decide +kernel
theorem dX3_takeSemicolon_5 : decode cX3_takeSemicolon 5 = .ok (.getfield 40, 3) := by decide +kernel
theorem dX3_takeSemicolon_8 : decode cX3_takeSemicolon 8 = .ok (.iconst 3, 1) := by decide +kernel
theorem dX3_takeSemicolon_9 : decode cX3_takeSemicolon 9 = .ok (.if_icmp .eq 8, 3) := by decide +kernel
theorem dX3_takeSemicolon_12 : decode cX3_takeSemicolon 12 = .ok (.aload_n 0, 1) := by decide +kernel
theorem dX3_takeSemicolon_13 : decode cX3_takeSemicolon 13 = .ok (.iconst 2, 1) := by decide +kernel
theorem dX3_takeSemicolon_14 : decode cX3_takeSemicolon 14 = .ok (.invokevirtual 54, 3) := by decide +kernel
theorem dX3_takeSemicolon_17 : decode cX3_takeSemicolon 17 = .ok (.return_, 1) := by decide +kernel
theorem dX3_readToken_0 : decode cX3_readToken 0 = .ok (.aload_n 0, 1) := by decide +kernel
theorem dX3_readToken_1 : decode cX3_readToken 1 = .ok (.aload_n 0, 1) := by decide +kernel
theorem dX3_readToken_2 : decode cX3_readToken 2 = .ok (.getfield 30, 3) := by decide +kernel
theorem dX3_readToken_5 : decode cX3_readToken 5 = .ok (.putfield 47, 3) := by decide +kernel
theorem dX3_readToken_8 : decode cX3_readToken 8 = .ok (.aload_n 0, 1) := by decide +kernel
theorem dX3_readToken_9 : decode cX3_readToken 9 = .ok (.getfield 47, 3) := by decide +kernel
theorem dX3_readToken_12 : decode cX3_readToken 12 = .ok (.aload_n 0, 1) := by decide +kernel
theorem dX3_readToken_13 : decode cX3_readToken 13 = .ok (.getfield 15, 3) := by decide +kernel
theorem dX3_readToken_16 : decode cX3_readToken 16 = .ok (.if_icmp .ge 30, 3) := by decide +kernel
theorem dX3_readToken_19 : decode cX3_readToken 19 = .ok (.aload_n 0, 1) := by decide +kernel
theorem dX3_readToken_20 : decode cX3_readToken 20 = .ok (.getfield 11, 3) := by decide +kernel
theorem dX3_readToken_23 : decode cX3_readToken 23 = .ok (.aload_n 0, 1) := by decide +kernel
theorem dX3_readToken_24 : decode cX3_readToken 24 = .ok (.getfield 47, 3) := by decide +kernel
theorem dX3_readToken_27 : decode cX3_readToken 27 = .ok (.baload, 1) := by decide +kernel
theorem dX3_readToken_28 : decode cX3_readToken 28 = .ok (.bipush 32, 2) := by decide +kernel
theorem dX3_readToken_30 : decode cX3_readToken 30 = .ok (.if_icmp .ne 16, 3) := by decide +kernel
theorem dX3_readToken_33 : decode cX3_readToken 33 = .ok (.aload_n 0, 1) := by decide +kernel
theorem dX3_readToken_34 : decode cX3_readToken 34 = .ok (.dup, 1) := by decide +kernel
theorem dX3_readToken_35 : decode cX3_readToken 35 = .ok (.getfield 47, 3) := by decide +kernel
theorem dX3_readToken_38 : decode cX3_readToken 38 = .ok (.iconst 1, 1) := by decide +kernel
theorem dX3_readToken_39 : decode cX3_readToken 39 = .ok (.iadd, 1) := by decide +kernel
theorem dX3_readToken_40 : decode cX3_readToken 40 = .ok (.putfield 47, 3) := by decide +kernel
theorem dX3_readToken_43 : decode cX3_readToken 43 = .ok (.goto (-35), 3) := by decide +kernel
theorem dX3_readToken_46 : decode cX3_readToken 46 = .ok (.aload_n 0, 1) := by decide +kernel
theorem dX3_readToken_47 : decode cX3_readToken 47 = .ok (.bipush 97, 2) := by decide +kernel
theorem dX3_readToken_49 : decode cX3_readToken 49 = .ok (.bipush 122, 2) := by decide +kernel
theorem dX3_readToken_51 : decode cX3_readToken 51 = .ok (.invokevirtual 107, 3) := by decide +kernel
theorem dX3_readToken_54 : decode cX3_readToken 54 = .ok (.istore_n 1, 1) := by decide +kernel
theorem dX3_readToken_55 : decode cX3_readToken 55 = .ok (.aload_n 0, 1) := by decide +kernel
theorem dX3_readToken_56 : decode cX3_readToken 56 = .ok (.bipush 48, 2) := by decide +kernel
theorem dX3_readToken_58 : decode cX3_readToken 58 = .ok (.bipush 57, 2) := by decide +kernel
theorem dX3_readToken_60 : decode cX3_readToken 60 = .ok (.invokevirtual 107, 3) := by decide +kernel
theorem dX3_readToken_63 : decode cX3_readToken 63 = .ok (.istore_n 2, 1) := by decide +kernel
theorem dX3_readToken_64 : decode cX3_readToken 64 = .ok (.aload_n 0, 1) := by decide +kernel
theorem dX3_readToken_65 : decode cX3_readToken 65 = .ok (.aload_n 0, 1) := by decide +kernel
theorem dX3_readToken_66 : decode cX3_readToken 66 = .ok (.getfield 47, 3) := by decide +kernel
theorem dX3_readToken_69 : decode cX3_readToken 69 = .ok (.iconst 1, 1) := by decide +kernel
theorem dX3_readToken_70 : decode cX3_readToken 70 = .ok (.iload_n 1, 1) := by decide +kernel
theorem dX3_readToken_71 : decode cX3_readToken 71 = .ok (.iload_n 2, 1) := by decide +kernel
theorem dX3_readToken_72 : decode cX3_readToken 72 = .ok (.iadd, 1) := by decide +kernel
theorem dX3_readToken_73 : decode cX3_readToken 73 = .ok (.invokestatic 111, 3) := by decide +kernel
theorem dX3_readToken_76 : decode cX3_readToken 76 = .ok (.iadd, 1) := by decide +kernel
theorem dX3_readToken_77 : decode cX3_readToken 77 = .ok (.putfield 30, 3) := by decide +kernel
theorem dX3_readToken_80 : decode cX3_readToken 80 = .ok (.aload_n 0, 1) := by decide +kernel
theorem dX3_readToken_81 : decode cX3_readToken 81 = .ok (.getfield 47, 3) := by decide +kernel
theorem dX3_readToken_84 : decode cX3_readToken 84 = .ok (.aload_n 0, 1) := by decide +kernel
theorem dX3_readToken_85 : decode cX3_readToken 85 = .ok (.getfield 15, 3) := by decide +kernel
theorem dX3_readToken_88 : decode cX3_readToken 88 = .ok (.if_icmp .lt 19, 3) := by decide +kernel
theorem dX3_readToken_91 : decode cX3_readToken 91 = .ok (.aload_n 0, 1) := by decide +kernel
theorem dX3_readToken_92 : decode cX3_readToken 92 = .ok (.iconst 4, 1) := by decide +kernel
theorem dX3_readToken_93 : decode cX3_readToken 93 = .ok (.putfield 40, 3) := by decide +kernel
theorem dX3_readToken_96 : decode cX3_readToken 96 = .ok (.aload_n 0, 1) := by decide +kernel
theorem dX3_readToken_97 : decode cX3_readToken 97 = .ok (.aload_n 0, 1) := by decide +kernel
theorem dX3_readToken_98 : decode cX3_readToken 98 = .ok (.getfield 47, 3) := by decide +kernel
theorem dX3_readToken_101 : decode cX3_readToken 101 = .ok (.putfield 30, 3) := by decide +kernel
theorem dX3_readToken_104 : decode cX3_readToken 104 = .ok (.goto 59, 3) := by decide +kernel
theorem dX3_readToken_107 : decode cX3_readToken 107 = .ok (.iload_n 1, 1) := by decide +kernel
theorem dX3_readToken_108 : decode cX3_readToken 108 = .ok (.ifCond .le 11, 3) := by decide +kernel
theorem dX3_readToken_111 : decode cX3_readToken 111 = .ok (.aload_n 0, 1) := by decide +kernel
theorem dX3_readToken_112 : decode cX3_readToken 112 = .ok (.iconst 1, 1) := by decide +kernel
theorem dX3_readToken_113 : decode cX3_readToken 113 = .ok (.putfield 40, 3) := by decide +kernel
theorem dX3_readToken_116 : decode cX3_readToken 116 = .ok (.goto 47, 3) := by decide +kernel
theorem dX3_readToken_119 : decode cX3_readToken 119 = .ok (.iload_n 2, 1) := by decide +kernel
theorem dX3_readToken_120 : decode cX3_readToken 120 = .ok (.ifCond .le 20, 3) := by decide +kernel
theorem dX3_readToken_123 : decode cX3_readToken 123 = .ok (.aload_n 0, 1) := by decide +kernel
theorem dX3_readToken_124 : decode cX3_readToken 124 = .ok (.iload_n 2, 1) := by decide +kernel
theorem dX3_readToken_125 : decode cX3_readToken 125 = .ok (.iconst 2, 1) := by decide +kernel
theorem dX3_readToken_126 : decode cX3_readToken 126 = .ok (.if_icmp .gt 7, 3) := by decide +kernel
theorem dX3_readToken_129 : decode cX3_readToken 129 = .ok (.iconst 2, 1) := by decide +kernel
theorem dX3_readToken_130 : decode cX3_readToken 130 = .ok (.goto 4, 3) := by decide +kernel
theorem dX3_readToken_133 : decode cX3_readToken 133 = .ok (.iconst 0, 1) := by decide +kernel
theorem dX3_readToken_134 : decode cX3_readToken 134 = .ok (.putfield 40, 3) := by decide +kernel
theorem dX3_readToken_137 : decode cX3_readToken 137 = .ok (.goto 26, 3) := by decide +kernel
theorem dX3_readToken_140 : decode cX3_readToken 140 = .ok (.aload_n 0, 1) := by decide +kernel
theorem dX3_readToken_141 : decode cX3_readToken 141 = .ok (.aload_n 0, 1) := by decide +kernel
theorem dX3_readToken_142 : decode cX3_readToken 142 = .ok (.getfield 11, 3) := by decide +kernel
theorem dX3_readToken_145 : decode cX3_readToken 145 = .ok (.aload_n 0, 1) := by decide +kernel
theorem dX3_readToken_146 : decode cX3_readToken 146 = .ok (.getfield 47, 3) := by decide +kernel
theorem dX3_readToken_149 : decode cX3_readToken 149 = .ok (.baload, 1) := by decide +kernel
theorem dX3_readToken_150 : decode cX3_readToken 150 = .ok (.bipush 59, 2) := by decide +kernel
theorem dX3_readToken_152 : decode cX3_readToken 152 = .ok (.if_icmp .ne 7, 3) := by decide +kernel
theorem dX3_readToken_155 : decode cX3_readToken 155 = .ok (.iconst 3, 1) := by decide +kernel
theorem dX3_readToken_156 : decode cX3_readToken 156 = .ok (.goto 4, 3) := by decide +kernel
theorem dX3_readToken_159 : decode cX3_readToken 159 = .ok (.iconst 0, 1) := by decide +kernel
theorem dX3_readToken_160 : decode cX3_readToken 160 = .ok (.putfield 40, 3) := by decide +kernel
theorem dX3_readToken_163 : decode cX3_readToken 163 = .ok (.aload_n 0, 1) := by decide +kernel
theorem dX3_readToken_164 : decode cX3_readToken 164 = .ok (.getfield 40, 3) := by decide +kernel
theorem dX3_readToken_167 : decode cX3_readToken 167 = .ok (.ifCond .ne 8, 3) := by decide +kernel
theorem dX3_readToken_170 : decode cX3_readToken 170 = .ok (.aload_n 0, 1) := by decide +kernel
theorem dX3_readToken_171 : decode cX3_readToken 171 = .ok (.iconst 1, 1) := by decide +kernel
theorem dX3_readToken_172 : decode cX3_readToken 172 = .ok (.invokevirtual 54, 3) := by decide +kernel
theorem dX3_readToken_175 : decode cX3_readToken 175 = .ok (.return_, 1) := by decide +kernel
theorem dX3_runOf_0 : decode cX3_runOf 0 = .ok (.aload_n 0, 1) := by decide +kernel
theorem dX3_runOf_1 : decode cX3_runOf 1 = .ok (.getfield 47, 3) := by decide +kernel
theorem dX3_runOf_4 : decode cX3_runOf 4 = .ok (.istore_n 3, 1) := by decide +kernel
theorem dX3_runOf_5 : decode cX3_runOf 5 = .ok (.iload_n 3, 1) := by decide +kernel
theorem dX3_runOf_6 : decode cX3_runOf 6 = .ok (.aload_n 0, 1) := by decide +kernel
theorem dX3_runOf_7 : decode cX3_runOf 7 = .ok (.getfield 15, 3) := by decide +kernel
theorem dX3_runOf_10 : decode cX3_runOf 10 = .ok (.if_icmp .ge 29, 3) := by decide +kernel
theorem dX3_runOf_13 : decode cX3_runOf 13 = .ok (.aload_n 0, 1) := by decide +kernel
theorem dX3_runOf_14 : decode cX3_runOf 14 = .ok (.getfield 11, 3) := by decide +kernel
theorem dX3_runOf_17 : decode cX3_runOf 17 = .ok (.iload_n 3, 1) := by decide +kernel
theorem dX3_runOf_18 : decode cX3_runOf 18 = .ok (.baload, 1) := by decide +kernel
theorem dX3_runOf_19 : decode cX3_runOf 19 = .ok (.iload_n 1, 1) := by decide +kernel
theorem dX3_runOf_20 : decode cX3_runOf 20 = .ok (.if_icmp .lt 19, 3) := by decide +kernel
theorem dX3_runOf_23 : decode cX3_runOf 23 = .ok (.aload_n 0, 1) := by decide +kernel
theorem dX3_runOf_24 : decode cX3_runOf 24 = .ok (.getfield 11, 3) := by decide +kernel
theorem dX3_runOf_27 : decode cX3_runOf 27 = .ok (.iload_n 3, 1) := by decide +kernel
theorem dX3_runOf_28 : decode cX3_runOf 28 = .ok (.baload, 1) := by decide +kernel
theorem dX3_runOf_29 : decode cX3_runOf 29 = .ok (.iload_n 2, 1) := by decide +kernel
theorem dX3_runOf_30 : decode cX3_runOf 30 = .ok (.if_icmp .gt 9, 3) := by decide +kernel
theorem dX3_runOf_33 : decode cX3_runOf 33 = .ok (.iinc 3 1, 3) := by decide +kernel
theorem dX3_runOf_36 : decode cX3_runOf 36 = .ok (.goto (-31), 3) := by decide +kernel
theorem dX3_runOf_39 : decode cX3_runOf 39 = .ok (.iload_n 3, 1) := by decide +kernel
theorem dX3_runOf_40 : decode cX3_runOf 40 = .ok (.aload_n 0, 1) := by decide +kernel
theorem dX3_runOf_41 : decode cX3_runOf 41 = .ok (.getfield 47, 3) := by decide +kernel
theorem dX3_runOf_44 : decode cX3_runOf 44 = .ok (.isub, 1) := by decide +kernel
theorem dX3_runOf_45 : decode cX3_runOf 45 = .ok (.ireturn, 1) := by decide +kernel
theorem dX3_numberRead_0 : decode cX3_numberRead 0 = .ok (.iconst 0, 1) := by decide +kernel
theorem dX3_numberRead_1 : decode cX3_numberRead 1 = .ok (.istore_n 1, 1) := by decide +kernel
theorem dX3_numberRead_2 : decode cX3_numberRead 2 = .ok (.aload_n 0, 1) := by decide +kernel
theorem dX3_numberRead_3 : decode cX3_numberRead 3 = .ok (.getfield 47, 3) := by decide +kernel
theorem dX3_numberRead_6 : decode cX3_numberRead 6 = .ok (.istore_n 2, 1) := by decide +kernel
theorem dX3_numberRead_7 : decode cX3_numberRead 7 = .ok (.iload_n 2, 1) := by decide +kernel
theorem dX3_numberRead_8 : decode cX3_numberRead 8 = .ok (.aload_n 0, 1) := by decide +kernel
theorem dX3_numberRead_9 : decode cX3_numberRead 9 = .ok (.getfield 30, 3) := by decide +kernel
theorem dX3_numberRead_12 : decode cX3_numberRead 12 = .ok (.if_icmp .ge 24, 3) := by decide +kernel
theorem dX3_numberRead_15 : decode cX3_numberRead 15 = .ok (.bipush 10, 2) := by decide +kernel
theorem dX3_numberRead_17 : decode cX3_numberRead 17 = .ok (.iload_n 1, 1) := by decide +kernel
theorem dX3_numberRead_18 : decode cX3_numberRead 18 = .ok (.imul, 1) := by decide +kernel
theorem dX3_numberRead_19 : decode cX3_numberRead 19 = .ok (.aload_n 0, 1) := by decide +kernel
theorem dX3_numberRead_20 : decode cX3_numberRead 20 = .ok (.getfield 11, 3) := by decide +kernel
theorem dX3_numberRead_23 : decode cX3_numberRead 23 = .ok (.iload_n 2, 1) := by decide +kernel
theorem dX3_numberRead_24 : decode cX3_numberRead 24 = .ok (.baload, 1) := by decide +kernel
theorem dX3_numberRead_25 : decode cX3_numberRead 25 = .ok (.iadd, 1) := by decide +kernel
theorem dX3_numberRead_26 : decode cX3_numberRead 26 = .ok (.bipush 48, 2) := by decide +kernel
theorem dX3_numberRead_28 : decode cX3_numberRead 28 = .ok (.isub, 1) := by decide +kernel
theorem dX3_numberRead_29 : decode cX3_numberRead 29 = .ok (.istore_n 1, 1) := by decide +kernel
theorem dX3_numberRead_30 : decode cX3_numberRead 30 = .ok (.iinc 2 1, 3) := by decide +kernel
theorem dX3_numberRead_33 : decode cX3_numberRead 33 = .ok (.goto (-26), 3) := by decide +kernel
theorem dX3_numberRead_36 : decode cX3_numberRead 36 = .ok (.iload_n 1, 1) := by decide +kernel
theorem dX3_numberRead_37 : decode cX3_numberRead 37 = .ok (.ireturn, 1) := by decide +kernel
theorem dX3_wordRead_0 : decode cX3_wordRead 0 = .ok (.iconst 0, 1) := by decide +kernel
theorem dX3_wordRead_1 : decode cX3_wordRead 1 = .ok (.istore_n 1, 1) := by decide +kernel
theorem dX3_wordRead_2 : decode cX3_wordRead 2 = .ok (.iload_n 1, 1) := by decide +kernel
theorem dX3_wordRead_3 : decode cX3_wordRead 3 = .ok (.bipush 7, 2) := by decide +kernel
theorem dX3_wordRead_5 : decode cX3_wordRead 5 = .ok (.if_icmp .ge 22, 3) := by decide +kernel
theorem dX3_wordRead_8 : decode cX3_wordRead 8 = .ok (.aload_n 0, 1) := by decide +kernel
theorem dX3_wordRead_9 : decode cX3_wordRead 9 = .ok (.iload_n 1, 1) := by decide +kernel
theorem dX3_wordRead_10 : decode cX3_wordRead 10 = .ok (.invokestatic 116, 3) := by decide +kernel
theorem dX3_wordRead_13 : decode cX3_wordRead 13 = .ok (.invokevirtual 120, 3) := by decide +kernel
theorem dX3_wordRead_16 : decode cX3_wordRead 16 = .ok (.ifCond .eq 5, 3) := by decide +kernel
theorem dX3_wordRead_19 : decode cX3_wordRead 19 = .ok (.iload_n 1, 1) := by decide +kernel
theorem dX3_wordRead_20 : decode cX3_wordRead 20 = .ok (.ireturn, 1) := by decide +kernel
theorem dX3_wordRead_21 : decode cX3_wordRead 21 = .ok (.iinc 1 1, 3) := by decide +kernel
theorem dX3_wordRead_24 : decode cX3_wordRead 24 = .ok (.goto (-22), 3) := by decide +kernel
theorem dX3_wordRead_27 : decode cX3_wordRead 27 = .ok (.bipush 7, 2) := by decide +kernel
theorem dX3_wordRead_29 : decode cX3_wordRead 29 = .ok (.ireturn, 1) := by decide +kernel
theorem dX3_wordOf_0 : decode cX3_wordOf 0 = .ok (.iload_n 0, 1) := by decide +kernel
theorem dX3_wordOf_1 : decode cX3_wordOf 1 = .ok (.tableswitch 57 0 5 #[39, 42, 45, 48, 51, 54], 39) := by decide +kernel
theorem dX3_wordOf_40 : decode cX3_wordOf 40 = .ok (.ldc 124, 2) := by decide +kernel
theorem dX3_wordOf_42 : decode cX3_wordOf 42 = .ok (.areturn, 1) := by decide +kernel
theorem dX3_wordOf_43 : decode cX3_wordOf 43 = .ok (.ldc 126, 2) := by decide +kernel
theorem dX3_wordOf_45 : decode cX3_wordOf 45 = .ok (.areturn, 1) := by decide +kernel
theorem dX3_wordOf_46 : decode cX3_wordOf 46 = .ok (.ldc 128, 2) := by decide +kernel
theorem dX3_wordOf_48 : decode cX3_wordOf 48 = .ok (.areturn, 1) := by decide +kernel
theorem dX3_wordOf_49 : decode cX3_wordOf 49 = .ok (.ldc 130, 2) := by decide +kernel
theorem dX3_wordOf_51 : decode cX3_wordOf 51 = .ok (.areturn, 1) := by decide +kernel
theorem dX3_wordOf_52 : decode cX3_wordOf 52 = .ok (.ldc 132, 2) := by decide +kernel
theorem dX3_wordOf_54 : decode cX3_wordOf 54 = .ok (.areturn, 1) := by decide +kernel
theorem dX3_wordOf_55 : decode cX3_wordOf 55 = .ok (.ldc 133, 2) := by decide +kernel
theorem dX3_wordOf_57 : decode cX3_wordOf 57 = .ok (.areturn, 1) := by decide +kernel
theorem dX3_wordOf_58 : decode cX3_wordOf 58 = .ok (.ldc 135, 2) := by decide +kernel
theorem dX3_wordOf_60 : decode cX3_wordOf 60 = .ok (.areturn, 1) := by decide +kernel
theorem dX3_isSpelt_0 : decode cX3_isSpelt 0 = .ok (.aload_n 0, 1) := by decide +kernel
theorem dX3_isSpelt_1 : decode cX3_isSpelt 1 = .ok (.getfield 30, 3) := by decide +kernel
theorem dX3_isSpelt_4 : decode cX3_isSpelt 4 = .ok (.aload_n 0, 1) := by decide +kernel
theorem dX3_isSpelt_5 : decode cX3_isSpelt 5 = .ok (.getfield 47, 3) := by decide +kernel
theorem dX3_isSpelt_8 : decode cX3_isSpelt 8 = .ok (.isub, 1) := by decide +kernel
theorem dX3_isSpelt_9 : decode cX3_isSpelt 9 = .ok (.aload_n 1, 1) := by decide +kernel
theorem dX3_isSpelt_10 : decode cX3_isSpelt 10 = .ok (.invokevirtual 137, 3) := by decide +kernel
theorem dX3_isSpelt_13 : decode cX3_isSpelt 13 = .ok (.if_icmp .eq 5, 3) := by decide +kernel
theorem dX3_isSpelt_16 : decode cX3_isSpelt 16 = .ok (.iconst 0, 1) := by decide +kernel
theorem dX3_isSpelt_17 : decode cX3_isSpelt 17 = .ok (.ireturn, 1) := by decide +kernel
theorem dX3_isSpelt_18 : decode cX3_isSpelt 18 = .ok (.iconst 0, 1) := by decide +kernel
theorem dX3_isSpelt_19 : decode cX3_isSpelt 19 = .ok (.istore_n 2, 1) := by decide +kernel
theorem dX3_isSpelt_20 : decode cX3_isSpelt 20 = .ok (.iload_n 2, 1) := by decide +kernel
theorem dX3_isSpelt_21 : decode cX3_isSpelt 21 = .ok (.aload_n 1, 1) := by decide +kernel
theorem dX3_isSpelt_22 : decode cX3_isSpelt 22 = .ok (.invokevirtual 137, 3) := by decide +kernel
theorem dX3_isSpelt_25 : decode cX3_isSpelt 25 = .ok (.if_icmp .ge 30, 3) := by decide +kernel
theorem dX3_isSpelt_28 : decode cX3_isSpelt 28 = .ok (.aload_n 0, 1) := by decide +kernel
theorem dX3_isSpelt_29 : decode cX3_isSpelt 29 = .ok (.getfield 11, 3) := by decide +kernel
theorem dX3_isSpelt_32 : decode cX3_isSpelt 32 = .ok (.aload_n 0, 1) := by decide +kernel
theorem dX3_isSpelt_33 : decode cX3_isSpelt 33 = .ok (.getfield 47, 3) := by decide +kernel
theorem dX3_isSpelt_36 : decode cX3_isSpelt 36 = .ok (.iload_n 2, 1) := by decide +kernel
theorem dX3_isSpelt_37 : decode cX3_isSpelt 37 = .ok (.iadd, 1) := by decide +kernel
theorem dX3_isSpelt_38 : decode cX3_isSpelt 38 = .ok (.baload, 1) := by decide +kernel
theorem dX3_isSpelt_39 : decode cX3_isSpelt 39 = .ok (.aload_n 1, 1) := by decide +kernel
theorem dX3_isSpelt_40 : decode cX3_isSpelt 40 = .ok (.iload_n 2, 1) := by decide +kernel
theorem dX3_isSpelt_41 : decode cX3_isSpelt 41 = .ok (.invokevirtual 141, 3) := by decide +kernel
theorem dX3_isSpelt_44 : decode cX3_isSpelt 44 = .ok (.if_icmp .eq 5, 3) := by decide +kernel
theorem dX3_isSpelt_47 : decode cX3_isSpelt 47 = .ok (.iconst 0, 1) := by decide +kernel
theorem dX3_isSpelt_48 : decode cX3_isSpelt 48 = .ok (.ireturn, 1) := by decide +kernel
theorem dX3_isSpelt_49 : decode cX3_isSpelt 49 = .ok (.iinc 2 1, 3) := by decide +kernel
theorem dX3_isSpelt_52 : decode cX3_isSpelt 52 = .ok (.goto (-32), 3) := by decide +kernel
theorem dX3_isSpelt_55 : decode cX3_isSpelt 55 = .ok (.iconst 1, 1) := by decide +kernel
theorem dX3_isSpelt_56 : decode cX3_isSpelt 56 = .ok (.ireturn, 1) := by decide +kernel
theorem dJ6_compare_7cf53_0 : decode cJ6_compare_7cf53 0 = .ok (.iload_n 0, 1) := by decide +kernel
theorem dJ6_compare_7cf53_1 : decode cJ6_compare_7cf53 1 = .ok (.iload_n 1, 1) := by decide +kernel
theorem dJ6_compare_7cf53_2 : decode cJ6_compare_7cf53 2 = .ok (.if_icmp .ge 7, 3) := by decide +kernel
theorem dJ6_compare_7cf53_5 : decode cJ6_compare_7cf53 5 = .ok (.iconst (-1), 1) := by decide +kernel
theorem dJ6_compare_7cf53_6 : decode cJ6_compare_7cf53 6 = .ok (.goto 13, 3) := by decide +kernel
theorem dJ6_compare_7cf53_9 : decode cJ6_compare_7cf53 9 = .ok (.iload_n 0, 1) := by decide +kernel
theorem dJ6_compare_7cf53_10 : decode cJ6_compare_7cf53 10 = .ok (.iload_n 1, 1) := by decide +kernel
theorem dJ6_compare_7cf53_11 : decode cJ6_compare_7cf53 11 = .ok (.if_icmp .ne 7, 3) := by decide +kernel
theorem dJ6_compare_7cf53_14 : decode cJ6_compare_7cf53 14 = .ok (.iconst 0, 1) := by decide +kernel
theorem dJ6_compare_7cf53_15 : decode cJ6_compare_7cf53 15 = .ok (.goto 4, 3) := by decide +kernel
theorem dJ6_compare_7cf53_18 : decode cJ6_compare_7cf53 18 = .ok (.iconst 1, 1) := by decide +kernel
theorem dJ6_compare_7cf53_19 : decode cJ6_compare_7cf53 19 = .ok (.ireturn, 1) := by decide +kernel
theorem dJ6_bitCount_0f7a4_0 : decode cJ6_bitCount_0f7a4 0 = .ok (.iload_n 0, 1) := by decide +kernel
theorem dJ6_bitCount_0f7a4_1 : decode cJ6_bitCount_0f7a4 1 = .ok (.iload_n 0, 1) := by decide +kernel
theorem dJ6_bitCount_0f7a4_2 : decode cJ6_bitCount_0f7a4 2 = .ok (.iconst 1, 1) := by decide +kernel
theorem dJ6_bitCount_0f7a4_3 : decode cJ6_bitCount_0f7a4 3 = .ok (.iushr, 1) := by decide +kernel
theorem dJ6_bitCount_0f7a4_4 : decode cJ6_bitCount_0f7a4 4 = .ok (.ldc_w 265, 3) := by decide +kernel
theorem dJ6_bitCount_0f7a4_7 : decode cJ6_bitCount_0f7a4 7 = .ok (.iand, 1) := by decide +kernel
theorem dJ6_bitCount_0f7a4_8 : decode cJ6_bitCount_0f7a4 8 = .ok (.isub, 1) := by decide +kernel
theorem dJ6_bitCount_0f7a4_9 : decode cJ6_bitCount_0f7a4 9 = .ok (.istore_n 0, 1) := by decide +kernel
theorem dJ6_bitCount_0f7a4_10 : decode cJ6_bitCount_0f7a4 10 = .ok (.iload_n 0, 1) := by decide +kernel
theorem dJ6_bitCount_0f7a4_11 : decode cJ6_bitCount_0f7a4 11 = .ok (.ldc_w 266, 3) := by decide +kernel
theorem dJ6_bitCount_0f7a4_14 : decode cJ6_bitCount_0f7a4 14 = .ok (.iand, 1) := by decide +kernel
theorem dJ6_bitCount_0f7a4_15 : decode cJ6_bitCount_0f7a4 15 = .ok (.iload_n 0, 1) := by decide +kernel
theorem dJ6_bitCount_0f7a4_16 : decode cJ6_bitCount_0f7a4 16 = .ok (.iconst 2, 1) := by decide +kernel
theorem dJ6_bitCount_0f7a4_17 : decode cJ6_bitCount_0f7a4 17 = .ok (.iushr, 1) := by decide +kernel
theorem dJ6_bitCount_0f7a4_18 : decode cJ6_bitCount_0f7a4 18 = .ok (.ldc_w 266, 3) := by decide +kernel
theorem dJ6_bitCount_0f7a4_21 : decode cJ6_bitCount_0f7a4 21 = .ok (.iand, 1) := by decide +kernel
theorem dJ6_bitCount_0f7a4_22 : decode cJ6_bitCount_0f7a4 22 = .ok (.iadd, 1) := by decide +kernel
theorem dJ6_bitCount_0f7a4_23 : decode cJ6_bitCount_0f7a4 23 = .ok (.istore_n 0, 1) := by decide +kernel
theorem dJ6_bitCount_0f7a4_24 : decode cJ6_bitCount_0f7a4 24 = .ok (.iload_n 0, 1) := by decide +kernel
theorem dJ6_bitCount_0f7a4_25 : decode cJ6_bitCount_0f7a4 25 = .ok (.iload_n 0, 1) := by decide +kernel
theorem dJ6_bitCount_0f7a4_26 : decode cJ6_bitCount_0f7a4 26 = .ok (.iconst 4, 1) := by decide +kernel
theorem dJ6_bitCount_0f7a4_27 : decode cJ6_bitCount_0f7a4 27 = .ok (.iushr, 1) := by decide +kernel
theorem dJ6_bitCount_0f7a4_28 : decode cJ6_bitCount_0f7a4 28 = .ok (.iadd, 1) := by decide +kernel
theorem dJ6_bitCount_0f7a4_29 : decode cJ6_bitCount_0f7a4 29 = .ok (.ldc_w 267, 3) := by decide +kernel
theorem dJ6_bitCount_0f7a4_32 : decode cJ6_bitCount_0f7a4 32 = .ok (.iand, 1) := by decide +kernel
theorem dJ6_bitCount_0f7a4_33 : decode cJ6_bitCount_0f7a4 33 = .ok (.istore_n 0, 1) := by decide +kernel
theorem dJ6_bitCount_0f7a4_34 : decode cJ6_bitCount_0f7a4 34 = .ok (.iload_n 0, 1) := by decide +kernel
theorem dJ6_bitCount_0f7a4_35 : decode cJ6_bitCount_0f7a4 35 = .ok (.iload_n 0, 1) := by decide +kernel
theorem dJ6_bitCount_0f7a4_36 : decode cJ6_bitCount_0f7a4 36 = .ok (.bipush 8, 2) := by decide +kernel
theorem dJ6_bitCount_0f7a4_38 : decode cJ6_bitCount_0f7a4 38 = .ok (.iushr, 1) := by decide +kernel
theorem dJ6_bitCount_0f7a4_39 : decode cJ6_bitCount_0f7a4 39 = .ok (.iadd, 1) := by decide +kernel
theorem dJ6_bitCount_0f7a4_40 : decode cJ6_bitCount_0f7a4 40 = .ok (.istore_n 0, 1) := by decide +kernel
theorem dJ6_bitCount_0f7a4_41 : decode cJ6_bitCount_0f7a4 41 = .ok (.iload_n 0, 1) := by decide +kernel
theorem dJ6_bitCount_0f7a4_42 : decode cJ6_bitCount_0f7a4 42 = .ok (.iload_n 0, 1) := by decide +kernel
theorem dJ6_bitCount_0f7a4_43 : decode cJ6_bitCount_0f7a4 43 = .ok (.bipush 16, 2) := by decide +kernel
theorem dJ6_bitCount_0f7a4_45 : decode cJ6_bitCount_0f7a4 45 = .ok (.iushr, 1) := by decide +kernel
theorem dJ6_bitCount_0f7a4_46 : decode cJ6_bitCount_0f7a4 46 = .ok (.iadd, 1) := by decide +kernel
theorem dJ6_bitCount_0f7a4_47 : decode cJ6_bitCount_0f7a4 47 = .ok (.istore_n 0, 1) := by decide +kernel
theorem dJ6_bitCount_0f7a4_48 : decode cJ6_bitCount_0f7a4 48 = .ok (.iload_n 0, 1) := by decide +kernel
theorem dJ6_bitCount_0f7a4_49 : decode cJ6_bitCount_0f7a4 49 = .ok (.bipush 63, 2) := by decide +kernel
theorem dJ6_bitCount_0f7a4_51 : decode cJ6_bitCount_0f7a4 51 = .ok (.iand, 1) := by decide +kernel
theorem dJ6_bitCount_0f7a4_52 : decode cJ6_bitCount_0f7a4 52 = .ok (.ireturn, 1) := by decide +kernel
theorem dJ9_abs_0f7a4_0 : decode cJ9_abs_0f7a4 0 = .ok (.iload_n 0, 1) := by decide +kernel
theorem dJ9_abs_0f7a4_1 : decode cJ9_abs_0f7a4 1 = .ok (.ifCond .ge 8, 3) := by decide +kernel
theorem dJ9_abs_0f7a4_4 : decode cJ9_abs_0f7a4 4 = .ok (.iload_n 0, 1) := by decide +kernel
theorem dJ9_abs_0f7a4_5 : decode cJ9_abs_0f7a4 5 = .ok (.ineg, 1) := by decide +kernel
theorem dJ9_abs_0f7a4_6 : decode cJ9_abs_0f7a4 6 = .ok (.goto 4, 3) := by decide +kernel
theorem dJ9_abs_0f7a4_9 : decode cJ9_abs_0f7a4 9 = .ok (.iload_n 0, 1) := by decide +kernel
theorem dJ9_abs_0f7a4_10 : decode cJ9_abs_0f7a4 10 = .ok (.ireturn, 1) := by decide +kernel
theorem dJ9_max_7cf53_0 : decode cJ9_max_7cf53 0 = .ok (.iload_n 0, 1) := by decide +kernel
theorem dJ9_max_7cf53_1 : decode cJ9_max_7cf53 1 = .ok (.iload_n 1, 1) := by decide +kernel
theorem dJ9_max_7cf53_2 : decode cJ9_max_7cf53 2 = .ok (.if_icmp .lt 7, 3) := by decide +kernel
theorem dJ9_max_7cf53_5 : decode cJ9_max_7cf53 5 = .ok (.iload_n 0, 1) := by decide +kernel
theorem dJ9_max_7cf53_6 : decode cJ9_max_7cf53 6 = .ok (.goto 4, 3) := by decide +kernel
theorem dJ9_max_7cf53_9 : decode cJ9_max_7cf53 9 = .ok (.iload_n 1, 1) := by decide +kernel
theorem dJ9_max_7cf53_10 : decode cJ9_max_7cf53 10 = .ok (.ireturn, 1) := by decide +kernel
theorem dJ9_min_7cf53_0 : decode cJ9_min_7cf53 0 = .ok (.iload_n 0, 1) := by decide +kernel
theorem dJ9_min_7cf53_1 : decode cJ9_min_7cf53 1 = .ok (.iload_n 1, 1) := by decide +kernel
theorem dJ9_min_7cf53_2 : decode cJ9_min_7cf53 2 = .ok (.if_icmp .gt 7, 3) := by decide +kernel
theorem dJ9_min_7cf53_5 : decode cJ9_min_7cf53 5 = .ok (.iload_n 0, 1) := by decide +kernel
theorem dJ9_min_7cf53_6 : decode cJ9_min_7cf53 6 = .ok (.goto 4, 3) := by decide +kernel
theorem dJ9_min_7cf53_9 : decode cJ9_min_7cf53 9 = .ok (.iload_n 1, 1) := by decide +kernel
theorem dJ9_min_7cf53_10 : decode cJ9_min_7cf53 10 = .ok (.ireturn, 1) := by decide +kernel
theorem dJ0_length_8abf5_0 : decode cJ0_length_8abf5 0 = .ok (.aload_n 0, 1) := by decide +kernel
theorem dJ0_length_8abf5_1 : decode cJ0_length_8abf5 1 = .ok (.getfield 9, 3) := by decide +kernel
theorem dJ0_length_8abf5_4 : decode cJ0_length_8abf5 4 = .ok (.arraylength, 1) := by decide +kernel
theorem dJ0_length_8abf5_5 : decode cJ0_length_8abf5 5 = .ok (.aload_n 0, 1) := by decide +kernel
theorem dJ0_length_8abf5_6 : decode cJ0_length_8abf5 6 = .ok (.invokevirtual 335, 3) := by decide +kernel
theorem dJ0_length_8abf5_9 : decode cJ0_length_8abf5 9 = .ok (.ishr, 1) := by decide +kernel
theorem dJ0_length_8abf5_10 : decode cJ0_length_8abf5 10 = .ok (.ireturn, 1) := by decide +kernel
theorem dJ0_charAt_5068e_0 : decode cJ0_charAt_5068e 0 = .ok (.aload_n 0, 1) := by decide +kernel
theorem dJ0_charAt_5068e_1 : decode cJ0_charAt_5068e 1 = .ok (.invokevirtual 492, 3) := by decide +kernel
theorem dJ0_charAt_5068e_4 : decode cJ0_charAt_5068e 4 = .ok (.ifCond .eq 12, 3) := by decide +kernel
theorem dJ0_charAt_5068e_7 : decode cJ0_charAt_5068e 7 = .ok (.aload_n 0, 1) := by decide +kernel
theorem dJ0_charAt_5068e_8 : decode cJ0_charAt_5068e 8 = .ok (.getfield 9, 3) := by decide +kernel
theorem dJ0_charAt_5068e_11 : decode cJ0_charAt_5068e 11 = .ok (.iload_n 1, 1) := by decide +kernel
theorem dJ0_charAt_5068e_12 : decode cJ0_charAt_5068e 12 = .ok (.invokestatic 495, 3) := by decide +kernel
theorem dJ0_charAt_5068e_15 : decode cJ0_charAt_5068e 15 = .ok (.ireturn, 1) := by decide +kernel
theorem dJ0_charAt_5068e_16 : decode cJ0_charAt_5068e 16 = .ok (.aload_n 0, 1) := by decide +kernel
theorem dJ0_charAt_5068e_17 : decode cJ0_charAt_5068e 17 = .ok (.getfield 9, 3) := by decide +kernel
theorem dJ0_charAt_5068e_20 : decode cJ0_charAt_5068e 20 = .ok (.iload_n 1, 1) := by decide +kernel
theorem dJ0_charAt_5068e_21 : decode cJ0_charAt_5068e 21 = .ok (.invokestatic 498, 3) := by decide +kernel
theorem dJ0_charAt_5068e_24 : decode cJ0_charAt_5068e 24 = .ok (.ireturn, 1) := by decide +kernel
theorem dJ0_coder_7d493_0 : decode cJ0_coder_7d493 0 = .ok (.getstatic 38, 3) := by decide +kernel
theorem dJ0_coder_7d493_3 : decode cJ0_coder_7d493 3 = .ok (.ifCond .eq 10, 3) := by decide +kernel
theorem dJ0_coder_7d493_6 : decode cJ0_coder_7d493 6 = .ok (.aload_n 0, 1) := by decide +kernel
theorem dJ0_coder_7d493_7 : decode cJ0_coder_7d493 7 = .ok (.getfield 15, 3) := by decide +kernel
theorem dJ0_coder_7d493_10 : decode cJ0_coder_7d493 10 = .ok (.goto 4, 3) := by decide +kernel
theorem dJ0_coder_7d493_13 : decode cJ0_coder_7d493 13 = .ok (.iconst 1, 1) := by decide +kernel
theorem dJ0_coder_7d493_14 : decode cJ0_coder_7d493 14 = .ok (.ireturn, 1) := by decide +kernel
theorem dJ0_isLatin1_aae02_0 : decode cJ0_isLatin1_aae02 0 = .ok (.getstatic 38, 3) := by decide +kernel
theorem dJ0_isLatin1_aae02_3 : decode cJ0_isLatin1_aae02 3 = .ok (.ifCond .eq 14, 3) := by decide +kernel
theorem dJ0_isLatin1_aae02_6 : decode cJ0_isLatin1_aae02 6 = .ok (.aload_n 0, 1) := by decide +kernel
theorem dJ0_isLatin1_aae02_7 : decode cJ0_isLatin1_aae02 7 = .ok (.getfield 15, 3) := by decide +kernel
theorem dJ0_isLatin1_aae02_10 : decode cJ0_isLatin1_aae02 10 = .ok (.ifCond .ne 7, 3) := by decide +kernel
theorem dJ0_isLatin1_aae02_13 : decode cJ0_isLatin1_aae02 13 = .ok (.iconst 1, 1) := by decide +kernel
theorem dJ0_isLatin1_aae02_14 : decode cJ0_isLatin1_aae02 14 = .ok (.goto 4, 3) := by decide +kernel
theorem dJ0_isLatin1_aae02_17 : decode cJ0_isLatin1_aae02 17 = .ok (.iconst 0, 1) := by decide +kernel
theorem dJ0_isLatin1_aae02_18 : decode cJ0_isLatin1_aae02 18 = .ok (.ireturn, 1) := by decide +kernel
theorem dJ0_checkIndex_df160_0 : decode cJ0_checkIndex_df160 0 = .ok (.iload_n 0, 1) := by decide +kernel
theorem dJ0_checkIndex_df160_1 : decode cJ0_checkIndex_df160 1 = .ok (.iload_n 1, 1) := by decide +kernel
theorem dJ0_checkIndex_df160_2 : decode cJ0_checkIndex_df160 2 = .ok (.getstatic 1053, 3) := by decide +kernel
theorem dJ0_checkIndex_df160_5 : decode cJ0_checkIndex_df160 5 = .ok (.invokestatic 1059, 3) := by decide +kernel
theorem dJ0_checkIndex_df160_8 : decode cJ0_checkIndex_df160 8 = .ok (.pop, 1) := by decide +kernel
theorem dJ0_checkIndex_df160_9 : decode cJ0_checkIndex_df160 9 = .ok (.return_, 1) := by decide +kernel
theorem dJ1_charAt_3b067_0 : decode cJ1_charAt_3b067 0 = .ok (.iload_n 1, 1) := by decide +kernel
theorem dJ1_charAt_3b067_1 : decode cJ1_charAt_3b067 1 = .ok (.aload_n 0, 1) := by decide +kernel
theorem dJ1_charAt_3b067_2 : decode cJ1_charAt_3b067 2 = .ok (.arraylength, 1) := by decide +kernel
theorem dJ1_charAt_3b067_3 : decode cJ1_charAt_3b067 3 = .ok (.invokestatic 9, 3) := by decide +kernel
theorem dJ1_charAt_3b067_6 : decode cJ1_charAt_3b067 6 = .ok (.aload_n 0, 1) := by decide +kernel
theorem dJ1_charAt_3b067_7 : decode cJ1_charAt_3b067 7 = .ok (.iload_n 1, 1) := by decide +kernel
theorem dJ1_charAt_3b067_8 : decode cJ1_charAt_3b067 8 = .ok (.baload, 1) := by decide +kernel
theorem dJ1_charAt_3b067_9 : decode cJ1_charAt_3b067 9 = .ok (.sipush 255, 3) := by decide +kernel
theorem dJ1_charAt_3b067_12 : decode cJ1_charAt_3b067 12 = .ok (.iand, 1) := by decide +kernel
theorem dJ1_charAt_3b067_13 : decode cJ1_charAt_3b067 13 = .ok (.i2c, 1) := by decide +kernel
theorem dJ1_charAt_3b067_14 : decode cJ1_charAt_3b067 14 = .ok (.ireturn, 1) := by decide +kernel
theorem dJ2_getChar_3b067_0 : decode cJ2_getChar_3b067 0 = .ok (.getstatic 44, 3) := by decide +kernel
theorem dJ2_getChar_3b067_3 : decode cJ2_getChar_3b067 3 = .ok (.ifCond .ne 25, 3) := by decide +kernel
theorem dJ2_getChar_3b067_6 : decode cJ2_getChar_3b067 6 = .ok (.iload_n 1, 1) := by decide +kernel
theorem dJ2_getChar_3b067_7 : decode cJ2_getChar_3b067 7 = .ok (.ifCond .lt 11, 3) := by decide +kernel
theorem dJ2_getChar_3b067_10 : decode cJ2_getChar_3b067 10 = .ok (.iload_n 1, 1) := by decide +kernel
theorem dJ2_getChar_3b067_11 : decode cJ2_getChar_3b067 11 = .ok (.aload_n 0, 1) := by decide +kernel
theorem dJ2_getChar_3b067_12 : decode cJ2_getChar_3b067 12 = .ok (.invokestatic 48, 3) := by decide +kernel
theorem dJ2_getChar_3b067_15 : decode cJ2_getChar_3b067 15 = .ok (.if_icmp .lt 13, 3) := by decide +kernel
theorem dJ2_getChar_3b067_18 : decode cJ2_getChar_3b067 18 = .ok (.new 52, 3) := by decide +kernel
theorem dJ2_getChar_3b067_21 : decode cJ2_getChar_3b067 21 = .ok (.dup, 1) := by decide +kernel
theorem dJ2_getChar_3b067_22 : decode cJ2_getChar_3b067 22 = .ok (.ldc 54, 2) := by decide +kernel
theorem dJ2_getChar_3b067_24 : decode cJ2_getChar_3b067 24 = .ok (.invokespecial 56, 3) := by decide +kernel
theorem dJ2_getChar_3b067_27 : decode cJ2_getChar_3b067 27 = .ok (.athrow, 1) := by decide +kernel
theorem dJ2_getChar_3b067_28 : decode cJ2_getChar_3b067 28 = .ok (.iload_n 1, 1) := by decide +kernel
theorem dJ2_getChar_3b067_29 : decode cJ2_getChar_3b067 29 = .ok (.iconst 1, 1) := by decide +kernel
theorem dJ2_getChar_3b067_30 : decode cJ2_getChar_3b067 30 = .ok (.ishl, 1) := by decide +kernel
theorem dJ2_getChar_3b067_31 : decode cJ2_getChar_3b067 31 = .ok (.istore_n 1, 1) := by decide +kernel
theorem dJ2_getChar_3b067_32 : decode cJ2_getChar_3b067 32 = .ok (.aload_n 0, 1) := by decide +kernel
theorem dJ2_getChar_3b067_33 : decode cJ2_getChar_3b067 33 = .ok (.iload_n 1, 1) := by decide +kernel
theorem dJ2_getChar_3b067_34 : decode cJ2_getChar_3b067 34 = .ok (.iinc 1 1, 3) := by decide +kernel
theorem dJ2_getChar_3b067_37 : decode cJ2_getChar_3b067 37 = .ok (.baload, 1) := by decide +kernel
theorem dJ2_getChar_3b067_38 : decode cJ2_getChar_3b067 38 = .ok (.sipush 255, 3) := by decide +kernel
theorem dJ2_getChar_3b067_41 : decode cJ2_getChar_3b067 41 = .ok (.iand, 1) := by decide +kernel
theorem dJ2_getChar_3b067_42 : decode cJ2_getChar_3b067 42 = .ok (.getstatic 59, 3) := by decide +kernel
theorem dJ2_getChar_3b067_45 : decode cJ2_getChar_3b067 45 = .ok (.ishl, 1) := by decide +kernel
theorem dJ2_getChar_3b067_46 : decode cJ2_getChar_3b067 46 = .ok (.aload_n 0, 1) := by decide +kernel
theorem dJ2_getChar_3b067_47 : decode cJ2_getChar_3b067 47 = .ok (.iload_n 1, 1) := by decide +kernel
theorem dJ2_getChar_3b067_48 : decode cJ2_getChar_3b067 48 = .ok (.baload, 1) := by decide +kernel
theorem dJ2_getChar_3b067_49 : decode cJ2_getChar_3b067 49 = .ok (.sipush 255, 3) := by decide +kernel
theorem dJ2_getChar_3b067_52 : decode cJ2_getChar_3b067 52 = .ok (.iand, 1) := by decide +kernel
theorem dJ2_getChar_3b067_53 : decode cJ2_getChar_3b067 53 = .ok (.getstatic 63, 3) := by decide +kernel
theorem dJ2_getChar_3b067_56 : decode cJ2_getChar_3b067 56 = .ok (.ishl, 1) := by decide +kernel
theorem dJ2_getChar_3b067_57 : decode cJ2_getChar_3b067 57 = .ok (.ior, 1) := by decide +kernel
theorem dJ2_getChar_3b067_58 : decode cJ2_getChar_3b067 58 = .ok (.i2c, 1) := by decide +kernel
theorem dJ2_getChar_3b067_59 : decode cJ2_getChar_3b067 59 = .ok (.ireturn, 1) := by decide +kernel
theorem dJ2_length_9d52b_0 : decode cJ2_length_9d52b 0 = .ok (.aload_n 0, 1) := by decide +kernel
theorem dJ2_length_9d52b_1 : decode cJ2_length_9d52b 1 = .ok (.arraylength, 1) := by decide +kernel
theorem dJ2_length_9d52b_2 : decode cJ2_length_9d52b 2 = .ok (.iconst 1, 1) := by decide +kernel
theorem dJ2_length_9d52b_3 : decode cJ2_length_9d52b 3 = .ok (.ishr, 1) := by decide +kernel
theorem dJ2_length_9d52b_4 : decode cJ2_length_9d52b 4 = .ok (.ireturn, 1) := by decide +kernel
theorem dJ2_charAt_3b067_0 : decode cJ2_charAt_3b067 0 = .ok (.iload_n 1, 1) := by decide +kernel
theorem dJ2_charAt_3b067_1 : decode cJ2_charAt_3b067 1 = .ok (.aload_n 0, 1) := by decide +kernel
theorem dJ2_charAt_3b067_2 : decode cJ2_charAt_3b067 2 = .ok (.invokestatic 67, 3) := by decide +kernel
theorem dJ2_charAt_3b067_5 : decode cJ2_charAt_3b067 5 = .ok (.aload_n 0, 1) := by decide +kernel
theorem dJ2_charAt_3b067_6 : decode cJ2_charAt_3b067 6 = .ok (.iload_n 1, 1) := by decide +kernel
theorem dJ2_charAt_3b067_7 : decode cJ2_charAt_3b067 7 = .ok (.invokestatic 71, 3) := by decide +kernel
theorem dJ2_charAt_3b067_10 : decode cJ2_charAt_3b067 10 = .ok (.ireturn, 1) := by decide +kernel
theorem dJ2_checkIndex_2214a_0 : decode cJ2_checkIndex_2214a 0 = .ok (.iload_n 0, 1) := by decide +kernel
theorem dJ2_checkIndex_2214a_1 : decode cJ2_checkIndex_2214a 1 = .ok (.aload_n 1, 1) := by decide +kernel
theorem dJ2_checkIndex_2214a_2 : decode cJ2_checkIndex_2214a 2 = .ok (.invokestatic 48, 3) := by decide +kernel
theorem dJ2_checkIndex_2214a_5 : decode cJ2_checkIndex_2214a 5 = .ok (.invokestatic 414, 3) := by decide +kernel
theorem dJ2_checkIndex_2214a_8 : decode cJ2_checkIndex_2214a 8 = .ok (.return_, 1) := by decide +kernel
theorem dJ3_checkIndex_8e157_0 : decode cJ3_checkIndex_8e157 0 = .ok (.iload_n 0, 1) := by decide +kernel
theorem dJ3_checkIndex_8e157_1 : decode cJ3_checkIndex_8e157 1 = .ok (.ifCond .lt 8, 3) := by decide +kernel
theorem dJ3_checkIndex_8e157_4 : decode cJ3_checkIndex_8e157 4 = .ok (.iload_n 0, 1) := by decide +kernel
theorem dJ3_checkIndex_8e157_5 : decode cJ3_checkIndex_8e157 5 = .ok (.iload_n 1, 1) := by decide +kernel
theorem dJ3_checkIndex_8e157_6 : decode cJ3_checkIndex_8e157 6 = .ok (.if_icmp .lt 10, 3) := by decide +kernel
theorem dJ3_checkIndex_8e157_9 : decode cJ3_checkIndex_8e157 9 = .ok (.aload_n 2, 1) := by decide +kernel
theorem dJ3_checkIndex_8e157_10 : decode cJ3_checkIndex_8e157 10 = .ok (.iload_n 0, 1) := by decide +kernel
theorem dJ3_checkIndex_8e157_11 : decode cJ3_checkIndex_8e157 11 = .ok (.iload_n 1, 1) := by decide +kernel
theorem dJ3_checkIndex_8e157_12 : decode cJ3_checkIndex_8e157 12 = .ok (.invokestatic 95, 3) := by decide +kernel
theorem dJ3_checkIndex_8e157_15 : decode cJ3_checkIndex_8e157 15 = .ok (.athrow, 1) := by decide +kernel
theorem dJ3_checkIndex_8e157_16 : decode cJ3_checkIndex_8e157 16 = .ok (.iload_n 0, 1) := by decide +kernel
theorem dJ3_checkIndex_8e157_17 : decode cJ3_checkIndex_8e157 17 = .ok (.ireturn, 1) := by decide +kernel
end
section
theorem dX4_init_0 : decode cX4_init 0 = .ok (.aload_n 0, 1) := by decide +kernel
theorem dX4_init_1 : decode cX4_init 1 = .ok (.invokespecial 3, 3) := by decide +kernel
theorem dX4_init_4 : decode cX4_init 4 = .ok (.aload_n 0, 1) := by decide +kernel
theorem dX4_init_5 : decode cX4_init 5 = .ok (.new 9, 3) := by decide +kernel
theorem dX4_init_8 : decode cX4_init 8 = .ok (.dup, 1) := by decide +kernel
theorem dX4_init_9 : decode cX4_init 9 = .ok (.invokespecial 11, 3) := by decide +kernel
theorem dX4_init_12 : decode cX4_init 12 = .ok (.putfield 12, 3) := by decide +kernel
theorem dX4_init_15 : decode cX4_init 15 = .ok (.aload_n 0, 1) := by decide +kernel
theorem dX4_init_16 : decode cX4_init 16 = .ok (.new 9, 3) := by decide +kernel
theorem dX4_init_19 : decode cX4_init 19 = .ok (.dup, 1) := by decide +kernel
theorem dX4_init_20 : decode cX4_init 20 = .ok (.invokespecial 11, 3) := by decide +kernel
theorem dX4_init_23 : decode cX4_init 23 = .ok (.putfield 16, 3) := by decide +kernel
theorem dX4_init_26 : decode cX4_init 26 = .ok (.aload_n 0, 1) := by decide +kernel
theorem dX4_init_27 : decode cX4_init 27 = .ok (.new 9, 3) := by decide +kernel
theorem dX4_init_30 : decode cX4_init 30 = .ok (.dup, 1) := by decide +kernel
theorem dX4_init_31 : decode cX4_init 31 = .ok (.invokespecial 11, 3) := by decide +kernel
theorem dX4_init_34 : decode cX4_init 34 = .ok (.putfield 19, 3) := by decide +kernel
theorem dX4_init_37 : decode cX4_init 37 = .ok (.aload_n 0, 1) := by decide +kernel
theorem dX4_init_38 : decode cX4_init 38 = .ok (.new 9, 3) := by decide +kernel
theorem dX4_init_41 : decode cX4_init 41 = .ok (.dup, 1) := by decide +kernel
theorem dX4_init_42 : decode cX4_init 42 = .ok (.invokespecial 11, 3) := by decide +kernel
theorem dX4_init_45 : decode cX4_init 45 = .ok (.putfield 22, 3) := by decide +kernel
theorem dX4_init_48 : decode cX4_init 48 = .ok (.aload_n 0, 1) := by decide +kernel
theorem dX4_init_49 : decode cX4_init 49 = .ok (.iconst 2, 1) := by decide +kernel
theorem dX4_init_50 : decode cX4_init 50 = .ok (.newarray .boolean, 2) := by decide +kernel
theorem dX4_init_52 : decode cX4_init 52 = .ok (.putfield 25, 3) := by decide +kernel
theorem dX4_init_55 : decode cX4_init 55 = .ok (.aload_n 0, 1) := by decide +kernel
theorem dX4_init_56 : decode cX4_init 56 = .ok (.new 29, 3) := by decide +kernel
theorem dX4_init_59 : decode cX4_init 59 = .ok (.dup, 1) := by decide +kernel
theorem dX4_init_60 : decode cX4_init 60 = .ok (.invokespecial 31, 3) := by decide +kernel
theorem dX4_init_63 : decode cX4_init 63 = .ok (.putfield 32, 3) := by decide +kernel
theorem dX4_init_66 : decode cX4_init 66 = .ok (.aload_n 0, 1) := by decide +kernel
theorem dX4_init_67 : decode cX4_init 67 = .ok (.new 36, 3) := by decide +kernel
theorem dX4_init_70 : decode cX4_init 70 = .ok (.dup, 1) := by decide +kernel
theorem dX4_init_71 : decode cX4_init 71 = .ok (.invokespecial 38, 3) := by decide +kernel
theorem dX4_init_74 : decode cX4_init 74 = .ok (.putfield 39, 3) := by decide +kernel
theorem dX4_init_77 : decode cX4_init 77 = .ok (.aload_n 0, 1) := by decide +kernel
theorem dX4_init_78 : decode cX4_init 78 = .ok (.new 43, 3) := by decide +kernel
theorem dX4_init_81 : decode cX4_init 81 = .ok (.dup, 1) := by decide +kernel
theorem dX4_init_82 : decode cX4_init 82 = .ok (.invokespecial 45, 3) := by decide +kernel
theorem dX4_init_85 : decode cX4_init 85 = .ok (.putfield 46, 3) := by decide +kernel
theorem dX4_init_88 : decode cX4_init 88 = .ok (.aload_n 0, 1) := by decide +kernel
theorem dX4_init_89 : decode cX4_init 89 = .ok (.bipush 10, 2) := by decide +kernel
theorem dX4_init_91 : decode cX4_init 91 = .ok (.bipush 41, 2) := by decide +kernel
theorem dX4_init_93 : decode cX4_init 93 = .ok (.multianewarray 50 2, 4) := by decide +kernel
theorem dX4_init_97 : decode cX4_init 97 = .ok (.putfield 52, 3) := by decide +kernel
theorem dX4_init_100 : decode cX4_init 100 = .ok (.aload_n 0, 1) := by decide +kernel
theorem dX4_init_101 : decode cX4_init 101 = .ok (.iconst 0, 1) := by decide +kernel
theorem dX4_init_102 : decode cX4_init 102 = .ok (.putfield 55, 3) := by decide +kernel
theorem dX4_init_105 : decode cX4_init 105 = .ok (.return_, 1) := by decide +kernel
theorem dX4_feed_0 : decode cX4_feed 0 = .ok (.iload_n 1, 1) := by decide +kernel
theorem dX4_feed_1 : decode cX4_feed 1 = .ok (.iconst 0, 1) := by decide +kernel
theorem dX4_feed_2 : decode cX4_feed 2 = .ok (.bipush 127, 2) := by decide +kernel
theorem dX4_feed_4 : decode cX4_feed 4 = .ok (.invokestatic 59, 3) := by decide +kernel
theorem dX4_feed_7 : decode cX4_feed 7 = .ok (.ifCond .ne 5, 3) := by decide +kernel
theorem dX4_feed_10 : decode cX4_feed 10 = .ok (.iconst (-1), 1) := by decide +kernel
theorem dX4_feed_11 : decode cX4_feed 11 = .ok (.ireturn, 1) := by decide +kernel
theorem dX4_feed_12 : decode cX4_feed 12 = .ok (.aload_n 0, 1) := by decide +kernel
theorem dX4_feed_13 : decode cX4_feed 13 = .ok (.getfield 32, 3) := by decide +kernel
theorem dX4_feed_16 : decode cX4_feed 16 = .ok (.iload_n 1, 1) := by decide +kernel
theorem dX4_feed_17 : decode cX4_feed 17 = .ok (.invokevirtual 63, 3) := by decide +kernel
theorem dX4_feed_20 : decode cX4_feed 20 = .ok (.ifCond .eq 13, 3) := by decide +kernel
theorem dX4_feed_23 : decode cX4_feed 23 = .ok (.aload_n 0, 1) := by decide +kernel
theorem dX4_feed_24 : decode cX4_feed 24 = .ok (.getfield 32, 3) := by decide +kernel
theorem dX4_feed_27 : decode cX4_feed 27 = .ok (.getfield 67, 3) := by decide +kernel
theorem dX4_feed_30 : decode cX4_feed 30 = .ok (.goto 5, 3) := by decide +kernel
theorem dX4_feed_33 : decode cX4_feed 33 = .ok (.bipush (-3), 2) := by decide +kernel
theorem dX4_feed_35 : decode cX4_feed 35 = .ok (.ireturn, 1) := by decide +kernel
theorem dX4_end_0 : decode cX4_end 0 = .ok (.aload_n 0, 1) := by decide +kernel
theorem dX4_end_1 : decode cX4_end 1 = .ok (.getfield 32, 3) := by decide +kernel
theorem dX4_end_4 : decode cX4_end 4 = .ok (.getfield 67, 3) := by decide +kernel
theorem dX4_end_7 : decode cX4_end 7 = .ok (.istore_n 2, 1) := by decide +kernel
theorem dX4_end_8 : decode cX4_end 8 = .ok (.iload_n 1, 1) := by decide +kernel
theorem dX4_end_9 : decode cX4_end 9 = .ok (.iconst 0, 1) := by decide +kernel
theorem dX4_end_10 : decode cX4_end 10 = .ok (.iload_n 2, 1) := by decide +kernel
theorem dX4_end_11 : decode cX4_end 11 = .ok (.invokestatic 59, 3) := by decide +kernel
theorem dX4_end_14 : decode cX4_end 14 = .ok (.ifCond .ne 5, 3) := by decide +kernel
theorem dX4_end_17 : decode cX4_end 17 = .ok (.iconst (-1), 1) := by decide +kernel
theorem dX4_end_18 : decode cX4_end 18 = .ok (.ireturn, 1) := by decide +kernel
theorem dX4_end_19 : decode cX4_end 19 = .ok (.aload_n 0, 1) := by decide +kernel
theorem dX4_end_20 : decode cX4_end 20 = .ok (.getfield 32, 3) := by decide +kernel
theorem dX4_end_23 : decode cX4_end 23 = .ok (.iload_n 1, 1) := by decide +kernel
theorem dX4_end_24 : decode cX4_end 24 = .ok (.putfield 67, 3) := by decide +kernel
theorem dX4_end_27 : decode cX4_end 27 = .ok (.iload_n 2, 1) := by decide +kernel
theorem dX4_end_28 : decode cX4_end 28 = .ok (.ireturn, 1) := by decide +kernel
theorem dX4_text_0 : decode cX4_text 0 = .ok (.aload_n 0, 1) := by decide +kernel
theorem dX4_text_1 : decode cX4_text 1 = .ok (.getfield 32, 3) := by decide +kernel
theorem dX4_text_4 : decode cX4_text 4 = .ok (.aload_n 0, 1) := by decide +kernel
theorem dX4_text_5 : decode cX4_text 5 = .ok (.getfield 16, 3) := by decide +kernel
theorem dX4_text_8 : decode cX4_text 8 = .ok (.invokevirtual 70, 3) := by decide +kernel
theorem dX4_text_11 : decode cX4_text 11 = .ok (.istore_n 1, 1) := by decide +kernel
theorem dX4_text_12 : decode cX4_text 12 = .ok (.aload_n 0, 1) := by decide +kernel
theorem dX4_text_13 : decode cX4_text 13 = .ok (.getfield 32, 3) := by decide +kernel
theorem dX4_text_16 : decode cX4_text 16 = .ok (.iconst 0, 1) := by decide +kernel
theorem dX4_text_17 : decode cX4_text 17 = .ok (.putfield 67, 3) := by decide +kernel
theorem dX4_text_20 : decode cX4_text 20 = .ok (.aload_n 0, 1) := by decide +kernel
theorem dX4_text_21 : decode cX4_text 21 = .ok (.getfield 32, 3) := by decide +kernel
theorem dX4_text_24 : decode cX4_text 24 = .ok (.getfield 74, 3) := by decide +kernel
theorem dX4_text_27 : decode cX4_text 27 = .ok (.ifCond .eq 14, 3) := by decide +kernel
theorem dX4_text_30 : decode cX4_text 30 = .ok (.bipush (-10), 2) := by decide +kernel
theorem dX4_text_32 : decode cX4_text 32 = .ok (.aload_n 0, 1) := by decide +kernel
theorem dX4_text_33 : decode cX4_text 33 = .ok (.getfield 32, 3) := by decide +kernel
theorem dX4_text_36 : decode cX4_text 36 = .ok (.getfield 77, 3) := by decide +kernel
theorem dX4_text_39 : decode cX4_text 39 = .ok (.isub, 1) := by decide +kernel
theorem dX4_text_40 : decode cX4_text 40 = .ok (.ireturn, 1) := by decide +kernel
theorem dX4_text_41 : decode cX4_text 41 = .ok (.aload_n 0, 1) := by decide +kernel
theorem dX4_text_42 : decode cX4_text 42 = .ok (.getfield 12, 3) := by decide +kernel
theorem dX4_text_45 : decode cX4_text 45 = .ok (.aload_n 0, 1) := by decide +kernel
theorem dX4_text_46 : decode cX4_text 46 = .ok (.getfield 16, 3) := by decide +kernel
theorem dX4_text_49 : decode cX4_text 49 = .ok (.invokevirtual 80, 3) := by decide +kernel
theorem dX4_text_52 : decode cX4_text 52 = .ok (.aload_n 0, 1) := by decide +kernel
theorem dX4_text_53 : decode cX4_text 53 = .ok (.getfield 39, 3) := by decide +kernel
theorem dX4_text_56 : decode cX4_text 56 = .ok (.iconst 0, 1) := by decide +kernel
theorem dX4_text_57 : decode cX4_text 57 = .ok (.putfield 84, 3) := by decide +kernel
theorem dX4_text_60 : decode cX4_text 60 = .ok (.aload_n 0, 1) := by decide +kernel
theorem dX4_text_61 : decode cX4_text 61 = .ok (.getfield 25, 3) := by decide +kernel
theorem dX4_text_64 : decode cX4_text 64 = .ok (.iconst 0, 1) := by decide +kernel
theorem dX4_text_65 : decode cX4_text 65 = .ok (.iconst 0, 1) := by decide +kernel
theorem dX4_text_66 : decode cX4_text 66 = .ok (.bastore, 1) := by decide +kernel
theorem dX4_text_67 : decode cX4_text 67 = .ok (.aload_n 0, 1) := by decide +kernel
theorem dX4_text_68 : decode cX4_text 68 = .ok (.getfield 25, 3) := by decide +kernel
theorem dX4_text_71 : decode cX4_text 71 = .ok (.iconst 1, 1) := by decide +kernel
theorem dX4_text_72 : decode cX4_text 72 = .ok (.iconst 0, 1) := by decide +kernel
theorem dX4_text_73 : decode cX4_text 73 = .ok (.bastore, 1) := by decide +kernel
theorem dX4_text_74 : decode cX4_text 74 = .ok (.iload_n 1, 1) := by decide +kernel
theorem dX4_text_75 : decode cX4_text 75 = .ok (.ireturn, 1) := by decide +kernel
theorem dX4_fault_0 : decode cX4_fault 0 = .ok (.aload_n 0, 1) := by decide +kernel
theorem dX4_fault_1 : decode cX4_fault 1 = .ok (.getfield 32, 3) := by decide +kernel
theorem dX4_fault_4 : decode cX4_fault 4 = .ok (.getfield 74, 3) := by decide +kernel
theorem dX4_fault_7 : decode cX4_fault 7 = .ok (.ireturn, 1) := by decide +kernel
theorem dX4_rule_0 : decode cX4_rule 0 = .ok (.iload_n 1, 1) := by decide +kernel
theorem dX4_rule_1 : decode cX4_rule 1 = .ok (.tableswitch 87 0 5 #[39, 47, 55, 63, 71, 79], 39) := by decide +kernel
theorem dX4_rule_40 : decode cX4_rule 40 = .ok (.aload_n 0, 1) := by decide +kernel
theorem dX4_rule_41 : decode cX4_rule 41 = .ok (.getfield 12, 3) := by decide +kernel
theorem dX4_rule_44 : decode cX4_rule 44 = .ok (.getfield 87, 3) := by decide +kernel
theorem dX4_rule_47 : decode cX4_rule 47 = .ok (.ireturn, 1) := by decide +kernel
theorem dX4_rule_48 : decode cX4_rule 48 = .ok (.aload_n 0, 1) := by decide +kernel
theorem dX4_rule_49 : decode cX4_rule 49 = .ok (.getfield 12, 3) := by decide +kernel
theorem dX4_rule_52 : decode cX4_rule 52 = .ok (.getfield 90, 3) := by decide +kernel
theorem dX4_rule_55 : decode cX4_rule 55 = .ok (.ireturn, 1) := by decide +kernel
theorem dX4_rule_56 : decode cX4_rule 56 = .ok (.aload_n 0, 1) := by decide +kernel
theorem dX4_rule_57 : decode cX4_rule 57 = .ok (.getfield 12, 3) := by decide +kernel
theorem dX4_rule_60 : decode cX4_rule 60 = .ok (.getfield 93, 3) := by decide +kernel
theorem dX4_rule_63 : decode cX4_rule 63 = .ok (.ireturn, 1) := by decide +kernel
theorem dX4_rule_64 : decode cX4_rule 64 = .ok (.aload_n 0, 1) := by decide +kernel
theorem dX4_rule_65 : decode cX4_rule 65 = .ok (.getfield 12, 3) := by decide +kernel
theorem dX4_rule_68 : decode cX4_rule 68 = .ok (.getfield 96, 3) := by decide +kernel
theorem dX4_rule_71 : decode cX4_rule 71 = .ok (.ireturn, 1) := by decide +kernel
theorem dX4_rule_72 : decode cX4_rule 72 = .ok (.aload_n 0, 1) := by decide +kernel
theorem dX4_rule_73 : decode cX4_rule 73 = .ok (.getfield 12, 3) := by decide +kernel
theorem dX4_rule_76 : decode cX4_rule 76 = .ok (.invokevirtual 99, 3) := by decide +kernel
theorem dX4_rule_79 : decode cX4_rule 79 = .ok (.ireturn, 1) := by decide +kernel
theorem dX4_rule_80 : decode cX4_rule 80 = .ok (.aload_n 0, 1) := by decide +kernel
theorem dX4_rule_81 : decode cX4_rule 81 = .ok (.getfield 12, 3) := by decide +kernel
theorem dX4_rule_84 : decode cX4_rule 84 = .ok (.invokevirtual 103, 3) := by decide +kernel
theorem dX4_rule_87 : decode cX4_rule 87 = .ok (.ireturn, 1) := by decide +kernel
theorem dX4_rule_88 : decode cX4_rule 88 = .ok (.iconst (-1), 1) := by decide +kernel
theorem dX4_rule_89 : decode cX4_rule 89 = .ok (.ireturn, 1) := by decide +kernel
theorem dX4_bead_0 : decode cX4_bead 0 = .ok (.aload_n 0, 1) := by decide +kernel
theorem dX4_bead_1 : decode cX4_bead 1 = .ok (.getfield 12, 3) := by decide +kernel
theorem dX4_bead_4 : decode cX4_bead 4 = .ok (.iload_n 1, 1) := by decide +kernel
theorem dX4_bead_5 : decode cX4_bead 5 = .ok (.invokevirtual 106, 3) := by decide +kernel
theorem dX4_bead_8 : decode cX4_bead 8 = .ok (.ifCond .ne 5, 3) := by decide +kernel
theorem dX4_bead_11 : decode cX4_bead 11 = .ok (.iconst (-1), 1) := by decide +kernel
theorem dX4_bead_12 : decode cX4_bead 12 = .ok (.ireturn, 1) := by decide +kernel
theorem dX4_bead_13 : decode cX4_bead 13 = .ok (.iload_n 2, 1) := by decide +kernel
theorem dX4_bead_14 : decode cX4_bead 14 = .ok (.tableswitch 96 0 7 #[46, 46, 46, 46, 46, 57, 70, 83], 46) := by decide +kernel
theorem dX4_bead_60 : decode cX4_bead 60 = .ok (.aload_n 0, 1) := by decide +kernel
theorem dX4_bead_61 : decode cX4_bead 61 = .ok (.getfield 12, 3) := by decide +kernel
theorem dX4_bead_64 : decode cX4_bead 64 = .ok (.iload_n 2, 1) := by decide +kernel
theorem dX4_bead_65 : decode cX4_bead 65 = .ok (.invokevirtual 109, 3) := by decide +kernel
theorem dX4_bead_68 : decode cX4_bead 68 = .ok (.iload_n 1, 1) := by decide +kernel
theorem dX4_bead_69 : decode cX4_bead 69 = .ok (.iaload, 1) := by decide +kernel
theorem dX4_bead_70 : decode cX4_bead 70 = .ok (.ireturn, 1) := by decide +kernel
theorem dX4_bead_71 : decode cX4_bead 71 = .ok (.bipush 100, 2) := by decide +kernel
theorem dX4_bead_73 : decode cX4_bead 73 = .ok (.aload_n 0, 1) := by decide +kernel
theorem dX4_bead_74 : decode cX4_bead 74 = .ok (.getfield 12, 3) := by decide +kernel
theorem dX4_bead_77 : decode cX4_bead 77 = .ok (.getfield 113, 3) := by decide +kernel
theorem dX4_bead_80 : decode cX4_bead 80 = .ok (.iload_n 1, 1) := by decide +kernel
theorem dX4_bead_81 : decode cX4_bead 81 = .ok (.iaload, 1) := by decide +kernel
theorem dX4_bead_82 : decode cX4_bead 82 = .ok (.iadd, 1) := by decide +kernel
theorem dX4_bead_83 : decode cX4_bead 83 = .ok (.ireturn, 1) := by decide +kernel
theorem dX4_bead_84 : decode cX4_bead 84 = .ok (.sipush 1000, 3) := by decide +kernel
theorem dX4_bead_87 : decode cX4_bead 87 = .ok (.aload_n 0, 1) := by decide +kernel
theorem dX4_bead_88 : decode cX4_bead 88 = .ok (.getfield 12, 3) := by decide +kernel
theorem dX4_bead_91 : decode cX4_bead 91 = .ok (.iload_n 1, 1) := by decide +kernel
theorem dX4_bead_92 : decode cX4_bead 92 = .ok (.invokevirtual 117, 3) := by decide +kernel
theorem dX4_bead_95 : decode cX4_bead 95 = .ok (.iadd, 1) := by decide +kernel
theorem dX4_bead_96 : decode cX4_bead 96 = .ok (.ireturn, 1) := by decide +kernel
theorem dX4_bead_97 : decode cX4_bead 97 = .ok (.sipush 10000, 3) := by decide +kernel
theorem dX4_bead_100 : decode cX4_bead 100 = .ok (.aload_n 0, 1) := by decide +kernel
theorem dX4_bead_101 : decode cX4_bead 101 = .ok (.getfield 12, 3) := by decide +kernel
theorem dX4_bead_104 : decode cX4_bead 104 = .ok (.iload_n 1, 1) := by decide +kernel
theorem dX4_bead_105 : decode cX4_bead 105 = .ok (.invokevirtual 121, 3) := by decide +kernel
theorem dX4_bead_108 : decode cX4_bead 108 = .ok (.iadd, 1) := by decide +kernel
theorem dX4_bead_109 : decode cX4_bead 109 = .ok (.ireturn, 1) := by decide +kernel
theorem dX4_bead_110 : decode cX4_bead 110 = .ok (.iconst (-1), 1) := by decide +kernel
theorem dX4_bead_111 : decode cX4_bead 111 = .ok (.ireturn, 1) := by decide +kernel
theorem dX4_knock_0 : decode cX4_knock 0 = .ok (.iload_n 1, 1) := by decide +kernel
theorem dX4_knock_1 : decode cX4_knock 1 = .ok (.iconst 0, 1) := by decide +kernel
theorem dX4_knock_2 : decode cX4_knock 2 = .ok (.aload_n 0, 1) := by decide +kernel
theorem dX4_knock_3 : decode cX4_knock 3 = .ok (.getfield 12, 3) := by decide +kernel
theorem dX4_knock_6 : decode cX4_knock 6 = .ok (.getfield 90, 3) := by decide +kernel
theorem dX4_knock_9 : decode cX4_knock 9 = .ok (.iconst 1, 1) := by decide +kernel
theorem dX4_knock_10 : decode cX4_knock 10 = .ok (.isub, 1) := by decide +kernel
theorem dX4_knock_11 : decode cX4_knock 11 = .ok (.invokestatic 59, 3) := by decide +kernel
theorem dX4_knock_14 : decode cX4_knock 14 = .ok (.ifCond .eq 12, 3) := by decide +kernel
theorem dX4_knock_17 : decode cX4_knock 17 = .ok (.iload_n 2, 1) := by decide +kernel
theorem dX4_knock_18 : decode cX4_knock 18 = .ok (.iconst 0, 1) := by decide +kernel
theorem dX4_knock_19 : decode cX4_knock 19 = .ok (.iconst 1, 1) := by decide +kernel
theorem dX4_knock_20 : decode cX4_knock 20 = .ok (.invokestatic 59, 3) := by decide +kernel
theorem dX4_knock_23 : decode cX4_knock 23 = .ok (.ifCond .ne 5, 3) := by decide +kernel
theorem dX4_knock_26 : decode cX4_knock 26 = .ok (.iconst (-1), 1) := by decide +kernel
theorem dX4_knock_27 : decode cX4_knock 27 = .ok (.ireturn, 1) := by decide +kernel
theorem dX4_knock_28 : decode cX4_knock 28 = .ok (.iload_n 2, 1) := by decide +kernel
theorem dX4_knock_29 : decode cX4_knock 29 = .ok (.ifCond .ne 15, 3) := by decide +kernel
theorem dX4_knock_32 : decode cX4_knock 32 = .ok (.aload_n 0, 1) := by decide +kernel
theorem dX4_knock_33 : decode cX4_knock 33 = .ok (.getfield 12, 3) := by decide +kernel
theorem dX4_knock_36 : decode cX4_knock 36 = .ok (.getfield 124, 3) := by decide +kernel
theorem dX4_knock_39 : decode cX4_knock 39 = .ok (.iload_n 1, 1) := by decide +kernel
theorem dX4_knock_40 : decode cX4_knock 40 = .ok (.iaload, 1) := by decide +kernel
theorem dX4_knock_41 : decode cX4_knock 41 = .ok (.goto 15, 3) := by decide +kernel
theorem dX4_knock_44 : decode cX4_knock 44 = .ok (.bipush 9, 2) := by decide +kernel
theorem dX4_knock_46 : decode cX4_knock 46 = .ok (.aload_n 0, 1) := by decide +kernel
theorem dX4_knock_47 : decode cX4_knock 47 = .ok (.getfield 12, 3) := by decide +kernel
theorem dX4_knock_50 : decode cX4_knock 50 = .ok (.getfield 127, 3) := by decide +kernel
theorem dX4_knock_53 : decode cX4_knock 53 = .ok (.iload_n 1, 1) := by decide +kernel
theorem dX4_knock_54 : decode cX4_knock 54 = .ok (.iaload, 1) := by decide +kernel
theorem dX4_knock_55 : decode cX4_knock 55 = .ok (.iadd, 1) := by decide +kernel
theorem dX4_knock_56 : decode cX4_knock 56 = .ok (.ireturn, 1) := by decide +kernel
theorem dX4_alter_0 : decode cX4_alter 0 = .ok (.aload_n 0, 1) := by decide +kernel
theorem dX4_alter_1 : decode cX4_alter 1 = .ok (.getfield 12, 3) := by decide +kernel
theorem dX4_alter_4 : decode cX4_alter 4 = .ok (.iload_n 1, 1) := by decide +kernel
theorem dX4_alter_5 : decode cX4_alter 5 = .ok (.invokevirtual 106, 3) := by decide +kernel
theorem dX4_alter_8 : decode cX4_alter 8 = .ok (.ifCond .eq 29, 3) := by decide +kernel
theorem dX4_alter_11 : decode cX4_alter 11 = .ok (.iload_n 2, 1) := by decide +kernel
theorem dX4_alter_12 : decode cX4_alter 12 = .ok (.iconst 0, 1) := by decide +kernel
theorem dX4_alter_13 : decode cX4_alter 13 = .ok (.iconst 4, 1) := by decide +kernel
theorem dX4_alter_14 : decode cX4_alter 14 = .ok (.invokestatic 59, 3) := by decide +kernel
theorem dX4_alter_17 : decode cX4_alter 17 = .ok (.ifCond .eq 20, 3) := by decide +kernel
theorem dX4_alter_20 : decode cX4_alter 20 = .ok (.iload_n 3, 1) := by decide +kernel
theorem dX4_alter_21 : decode cX4_alter 21 = .ok (.getstatic 130, 3) := by decide +kernel
theorem dX4_alter_24 : decode cX4_alter 24 = .ok (.iload_n 2, 1) := by decide +kernel
theorem dX4_alter_25 : decode cX4_alter 25 = .ok (.iaload, 1) := by decide +kernel
theorem dX4_alter_26 : decode cX4_alter 26 = .ok (.getstatic 133, 3) := by decide +kernel
theorem dX4_alter_29 : decode cX4_alter 29 = .ok (.iload_n 2, 1) := by decide +kernel
theorem dX4_alter_30 : decode cX4_alter 30 = .ok (.iaload, 1) := by decide +kernel
theorem dX4_alter_31 : decode cX4_alter 31 = .ok (.invokestatic 59, 3) := by decide +kernel
theorem dX4_alter_34 : decode cX4_alter 34 = .ok (.ifCond .ne 5, 3) := by decide +kernel
theorem dX4_alter_37 : decode cX4_alter 37 = .ok (.iconst (-1), 1) := by decide +kernel
theorem dX4_alter_38 : decode cX4_alter 38 = .ok (.ireturn, 1) := by decide +kernel
theorem dX4_alter_39 : decode cX4_alter 39 = .ok (.aload_n 0, 1) := by decide +kernel
theorem dX4_alter_40 : decode cX4_alter 40 = .ok (.getfield 12, 3) := by decide +kernel
theorem dX4_alter_43 : decode cX4_alter 43 = .ok (.iload_n 2, 1) := by decide +kernel
theorem dX4_alter_44 : decode cX4_alter 44 = .ok (.invokevirtual 109, 3) := by decide +kernel
theorem dX4_alter_47 : decode cX4_alter 47 = .ok (.astore 4, 2) := by decide +kernel
theorem dX4_alter_49 : decode cX4_alter 49 = .ok (.aload 4, 2) := by decide +kernel
theorem dX4_alter_51 : decode cX4_alter 51 = .ok (.iload_n 1, 1) := by decide +kernel
theorem dX4_alter_52 : decode cX4_alter 52 = .ok (.iaload, 1) := by decide +kernel
theorem dX4_alter_53 : decode cX4_alter 53 = .ok (.istore 5, 2) := by decide +kernel
theorem dX4_alter_55 : decode cX4_alter 55 = .ok (.aload 4, 2) := by decide +kernel
theorem dX4_alter_57 : decode cX4_alter 57 = .ok (.iload_n 1, 1) := by decide +kernel
theorem dX4_alter_58 : decode cX4_alter 58 = .ok (.iload_n 3, 1) := by decide +kernel
theorem dX4_alter_59 : decode cX4_alter 59 = .ok (.iastore, 1) := by decide +kernel
theorem dX4_alter_60 : decode cX4_alter 60 = .ok (.iload 5, 2) := by decide +kernel
theorem dX4_alter_62 : decode cX4_alter 62 = .ok (.ireturn, 1) := by decide +kernel
theorem dX4_drag_0 : decode cX4_drag 0 = .ok (.iload_n 1, 1) := by decide +kernel
theorem dX4_drag_1 : decode cX4_drag 1 = .ok (.iconst 0, 1) := by decide +kernel
theorem dX4_drag_2 : decode cX4_drag 2 = .ok (.iconst 3, 1) := by decide +kernel
theorem dX4_drag_3 : decode cX4_drag 3 = .ok (.invokestatic 59, 3) := by decide +kernel
theorem dX4_drag_6 : decode cX4_drag 6 = .ok (.ifCond .ne 5, 3) := by decide +kernel
theorem dX4_drag_9 : decode cX4_drag 9 = .ok (.iconst (-1), 1) := by decide +kernel
theorem dX4_drag_10 : decode cX4_drag 10 = .ok (.ireturn, 1) := by decide +kernel
theorem dX4_drag_11 : decode cX4_drag 11 = .ok (.aload_n 0, 1) := by decide +kernel
theorem dX4_drag_12 : decode cX4_drag 12 = .ok (.getfield 12, 3) := by decide +kernel
theorem dX4_drag_15 : decode cX4_drag 15 = .ok (.getfield 96, 3) := by decide +kernel
theorem dX4_drag_18 : decode cX4_drag 18 = .ok (.istore_n 2, 1) := by decide +kernel
theorem dX4_drag_19 : decode cX4_drag 19 = .ok (.aload_n 0, 1) := by decide +kernel
theorem dX4_drag_20 : decode cX4_drag 20 = .ok (.getfield 12, 3) := by decide +kernel
theorem dX4_drag_23 : decode cX4_drag 23 = .ok (.iload_n 1, 1) := by decide +kernel
theorem dX4_drag_24 : decode cX4_drag 24 = .ok (.putfield 96, 3) := by decide +kernel
theorem dX4_drag_27 : decode cX4_drag 27 = .ok (.iload_n 2, 1) := by decide +kernel
theorem dX4_drag_28 : decode cX4_drag 28 = .ok (.ireturn, 1) := by decide +kernel
theorem dX4_bind_0 : decode cX4_bind 0 = .ok (.iload_n 1, 1) := by decide +kernel
theorem dX4_bind_1 : decode cX4_bind 1 = .ok (.getstatic 130, 3) := by decide +kernel
theorem dX4_bind_4 : decode cX4_bind 4 = .ok (.iconst 0, 1) := by decide +kernel
theorem dX4_bind_5 : decode cX4_bind 5 = .ok (.iaload, 1) := by decide +kernel
theorem dX4_bind_6 : decode cX4_bind 6 = .ok (.getstatic 133, 3) := by decide +kernel
theorem dX4_bind_9 : decode cX4_bind 9 = .ok (.iconst 0, 1) := by decide +kernel
theorem dX4_bind_10 : decode cX4_bind 10 = .ok (.iaload, 1) := by decide +kernel
theorem dX4_bind_11 : decode cX4_bind 11 = .ok (.invokestatic 59, 3) := by decide +kernel
theorem dX4_bind_14 : decode cX4_bind 14 = .ok (.ifCond .eq 55, 3) := by decide +kernel
theorem dX4_bind_17 : decode cX4_bind 17 = .ok (.iload_n 2, 1) := by decide +kernel
theorem dX4_bind_18 : decode cX4_bind 18 = .ok (.getstatic 130, 3) := by decide +kernel
theorem dX4_bind_21 : decode cX4_bind 21 = .ok (.iconst 1, 1) := by decide +kernel
theorem dX4_bind_22 : decode cX4_bind 22 = .ok (.iaload, 1) := by decide +kernel
theorem dX4_bind_23 : decode cX4_bind 23 = .ok (.getstatic 133, 3) := by decide +kernel
theorem dX4_bind_26 : decode cX4_bind 26 = .ok (.iconst 1, 1) := by decide +kernel
theorem dX4_bind_27 : decode cX4_bind 27 = .ok (.iaload, 1) := by decide +kernel
theorem dX4_bind_28 : decode cX4_bind 28 = .ok (.invokestatic 59, 3) := by decide +kernel
theorem dX4_bind_31 : decode cX4_bind 31 = .ok (.ifCond .eq 38, 3) := by decide +kernel
theorem dX4_bind_34 : decode cX4_bind 34 = .ok (.iload_n 3, 1) := by decide +kernel
theorem dX4_bind_35 : decode cX4_bind 35 = .ok (.getstatic 130, 3) := by decide +kernel
theorem dX4_bind_38 : decode cX4_bind 38 = .ok (.iconst 2, 1) := by decide +kernel
theorem dX4_bind_39 : decode cX4_bind 39 = .ok (.iaload, 1) := by decide +kernel
theorem dX4_bind_40 : decode cX4_bind 40 = .ok (.getstatic 133, 3) := by decide +kernel
theorem dX4_bind_43 : decode cX4_bind 43 = .ok (.iconst 2, 1) := by decide +kernel
theorem dX4_bind_44 : decode cX4_bind 44 = .ok (.iaload, 1) := by decide +kernel
theorem dX4_bind_45 : decode cX4_bind 45 = .ok (.invokestatic 59, 3) := by decide +kernel
theorem dX4_bind_48 : decode cX4_bind 48 = .ok (.ifCond .eq 21, 3) := by decide +kernel
theorem dX4_bind_51 : decode cX4_bind 51 = .ok (.iload 4, 2) := by decide +kernel
theorem dX4_bind_53 : decode cX4_bind 53 = .ok (.getstatic 130, 3) := by decide +kernel
theorem dX4_bind_56 : decode cX4_bind 56 = .ok (.iconst 3, 1) := by decide +kernel
theorem dX4_bind_57 : decode cX4_bind 57 = .ok (.iaload, 1) := by decide +kernel
theorem dX4_bind_58 : decode cX4_bind 58 = .ok (.getstatic 133, 3) := by decide +kernel
theorem dX4_bind_61 : decode cX4_bind 61 = .ok (.iconst 3, 1) := by decide +kernel
theorem dX4_bind_62 : decode cX4_bind 62 = .ok (.iaload, 1) := by decide +kernel
theorem dX4_bind_63 : decode cX4_bind 63 = .ok (.invokestatic 59, 3) := by decide +kernel
theorem dX4_bind_66 : decode cX4_bind 66 = .ok (.ifCond .ne 5, 3) := by decide +kernel
theorem dX4_bind_69 : decode cX4_bind 69 = .ok (.iconst (-1), 1) := by decide +kernel
theorem dX4_bind_70 : decode cX4_bind 70 = .ok (.ireturn, 1) := by decide +kernel
theorem dX4_bind_71 : decode cX4_bind 71 = .ok (.aload_n 0, 1) := by decide +kernel
theorem dX4_bind_72 : decode cX4_bind 72 = .ok (.getfield 12, 3) := by decide +kernel
theorem dX4_bind_75 : decode cX4_bind 75 = .ok (.iload_n 1, 1) := by decide +kernel
theorem dX4_bind_76 : decode cX4_bind 76 = .ok (.iload_n 2, 1) := by decide +kernel
theorem dX4_bind_77 : decode cX4_bind 77 = .ok (.iload_n 3, 1) := by decide +kernel
theorem dX4_bind_78 : decode cX4_bind 78 = .ok (.iload 4, 2) := by decide +kernel
theorem dX4_bind_80 : decode cX4_bind 80 = .ok (.invokevirtual 136, 3) := by decide +kernel
theorem dX4_bind_83 : decode cX4_bind 83 = .ok (.ifCond .eq 13, 3) := by decide +kernel
theorem dX4_bind_86 : decode cX4_bind 86 = .ok (.aload_n 0, 1) := by decide +kernel
theorem dX4_bind_87 : decode cX4_bind 87 = .ok (.getfield 12, 3) := by decide +kernel
theorem dX4_bind_90 : decode cX4_bind 90 = .ok (.getfield 87, 3) := by decide +kernel
theorem dX4_bind_93 : decode cX4_bind 93 = .ok (.goto 5, 3) := by decide +kernel
theorem dX4_bind_96 : decode cX4_bind 96 = .ok (.bipush (-3), 2) := by decide +kernel
theorem dX4_bind_98 : decode cX4_bind 98 = .ok (.ireturn, 1) := by decide +kernel
theorem dX4_cut_0 : decode cX4_cut 0 = .ok (.aload_n 0, 1) := by decide +kernel
theorem dX4_cut_1 : decode cX4_cut 1 = .ok (.getfield 12, 3) := by decide +kernel
theorem dX4_cut_4 : decode cX4_cut 4 = .ok (.getfield 87, 3) := by decide +kernel
theorem dX4_cut_7 : decode cX4_cut 7 = .ok (.istore_n 2, 1) := by decide +kernel
theorem dX4_cut_8 : decode cX4_cut 8 = .ok (.iload_n 1, 1) := by decide +kernel
theorem dX4_cut_9 : decode cX4_cut 9 = .ok (.iconst 0, 1) := by decide +kernel
theorem dX4_cut_10 : decode cX4_cut 10 = .ok (.iload_n 2, 1) := by decide +kernel
theorem dX4_cut_11 : decode cX4_cut 11 = .ok (.invokestatic 59, 3) := by decide +kernel
theorem dX4_cut_14 : decode cX4_cut 14 = .ok (.ifCond .ne 5, 3) := by decide +kernel
theorem dX4_cut_17 : decode cX4_cut 17 = .ok (.iconst (-1), 1) := by decide +kernel
theorem dX4_cut_18 : decode cX4_cut 18 = .ok (.ireturn, 1) := by decide +kernel
theorem dX4_cut_19 : decode cX4_cut 19 = .ok (.aload_n 0, 1) := by decide +kernel
theorem dX4_cut_20 : decode cX4_cut 20 = .ok (.getfield 12, 3) := by decide +kernel
theorem dX4_cut_23 : decode cX4_cut 23 = .ok (.iload_n 1, 1) := by decide +kernel
theorem dX4_cut_24 : decode cX4_cut 24 = .ok (.putfield 87, 3) := by decide +kernel
theorem dX4_cut_27 : decode cX4_cut 27 = .ok (.iload_n 2, 1) := by decide +kernel
theorem dX4_cut_28 : decode cX4_cut 28 = .ok (.ireturn, 1) := by decide +kernel
theorem dX4_hit_0 : decode cX4_hit 0 = .ok (.aload_n 0, 1) := by decide +kernel
theorem dX4_hit_1 : decode cX4_hit 1 = .ok (.getfield 12, 3) := by decide +kernel
theorem dX4_hit_4 : decode cX4_hit 4 = .ok (.iload_n 1, 1) := by decide +kernel
theorem dX4_hit_5 : decode cX4_hit 5 = .ok (.invokevirtual 106, 3) := by decide +kernel
theorem dX4_hit_8 : decode cX4_hit 8 = .ok (.ifCond .eq 13, 3) := by decide +kernel
theorem dX4_hit_11 : decode cX4_hit 11 = .ok (.iload_n 2, 1) := by decide +kernel
theorem dX4_hit_12 : decode cX4_hit 12 = .ok (.iconst 0, 1) := by decide +kernel
theorem dX4_hit_13 : decode cX4_hit 13 = .ok (.bipush 18, 2) := by decide +kernel
theorem dX4_hit_15 : decode cX4_hit 15 = .ok (.invokestatic 59, 3) := by decide +kernel
theorem dX4_hit_18 : decode cX4_hit 18 = .ok (.ifCond .ne 5, 3) := by decide +kernel
theorem dX4_hit_21 : decode cX4_hit 21 = .ok (.iconst (-1), 1) := by decide +kernel
theorem dX4_hit_22 : decode cX4_hit 22 = .ok (.ireturn, 1) := by decide +kernel
theorem dX4_hit_23 : decode cX4_hit 23 = .ok (.aload_n 0, 1) := by decide +kernel
theorem dX4_hit_24 : decode cX4_hit 24 = .ok (.getfield 12, 3) := by decide +kernel
theorem dX4_hit_27 : decode cX4_hit 27 = .ok (.iload_n 1, 1) := by decide +kernel
theorem dX4_hit_28 : decode cX4_hit 28 = .ok (.iload_n 2, 1) := by decide +kernel
theorem dX4_hit_29 : decode cX4_hit 29 = .ok (.bipush 9, 2) := by decide +kernel
theorem dX4_hit_31 : decode cX4_hit 31 = .ok (.isub, 1) := by decide +kernel
theorem dX4_hit_32 : decode cX4_hit 32 = .ok (.invokevirtual 140, 3) := by decide +kernel
theorem dX4_hit_35 : decode cX4_hit 35 = .ok (.bipush 100, 2) := by decide +kernel
theorem dX4_hit_37 : decode cX4_hit 37 = .ok (.aload_n 0, 1) := by decide +kernel
theorem dX4_hit_38 : decode cX4_hit 38 = .ok (.getfield 12, 3) := by decide +kernel
theorem dX4_hit_41 : decode cX4_hit 41 = .ok (.getfield 113, 3) := by decide +kernel
theorem dX4_hit_44 : decode cX4_hit 44 = .ok (.iload_n 1, 1) := by decide +kernel
theorem dX4_hit_45 : decode cX4_hit 45 = .ok (.iaload, 1) := by decide +kernel
theorem dX4_hit_46 : decode cX4_hit 46 = .ok (.iadd, 1) := by decide +kernel
theorem dX4_hit_47 : decode cX4_hit 47 = .ok (.ireturn, 1) := by decide +kernel
theorem dX4_add_0 : decode cX4_add 0 = .ok (.iload_n 1, 1) := by decide +kernel
theorem dX4_add_1 : decode cX4_add 1 = .ok (.iconst 0, 1) := by decide +kernel
theorem dX4_add_2 : decode cX4_add 2 = .ok (.iconst 3, 1) := by decide +kernel
theorem dX4_add_3 : decode cX4_add 3 = .ok (.invokestatic 59, 3) := by decide +kernel
theorem dX4_add_6 : decode cX4_add 6 = .ok (.ifCond .eq 13, 3) := by decide +kernel
theorem dX4_add_9 : decode cX4_add 9 = .ok (.iload_n 2, 1) := by decide +kernel
theorem dX4_add_10 : decode cX4_add 10 = .ok (.iconst 0, 1) := by decide +kernel
theorem dX4_add_11 : decode cX4_add 11 = .ok (.bipush 18, 2) := by decide +kernel
theorem dX4_add_13 : decode cX4_add 13 = .ok (.invokestatic 59, 3) := by decide +kernel
theorem dX4_add_16 : decode cX4_add 16 = .ok (.ifCond .ne 5, 3) := by decide +kernel
theorem dX4_add_19 : decode cX4_add 19 = .ok (.iconst (-1), 1) := by decide +kernel
theorem dX4_add_20 : decode cX4_add 20 = .ok (.ireturn, 1) := by decide +kernel
theorem dX4_add_21 : decode cX4_add 21 = .ok (.aload_n 0, 1) := by decide +kernel
theorem dX4_add_22 : decode cX4_add 22 = .ok (.getfield 12, 3) := by decide +kernel
theorem dX4_add_25 : decode cX4_add 25 = .ok (.iload_n 1, 1) := by decide +kernel
theorem dX4_add_26 : decode cX4_add 26 = .ok (.iload_n 2, 1) := by decide +kernel
theorem dX4_add_27 : decode cX4_add 27 = .ok (.bipush 9, 2) := by decide +kernel
theorem dX4_add_29 : decode cX4_add 29 = .ok (.isub, 1) := by decide +kernel
theorem dX4_add_30 : decode cX4_add 30 = .ok (.invokevirtual 144, 3) := by decide +kernel
theorem dX4_add_33 : decode cX4_add 33 = .ok (.ifCond .eq 13, 3) := by decide +kernel
theorem dX4_add_36 : decode cX4_add 36 = .ok (.aload_n 0, 1) := by decide +kernel
theorem dX4_add_37 : decode cX4_add 37 = .ok (.getfield 12, 3) := by decide +kernel
theorem dX4_add_40 : decode cX4_add 40 = .ok (.getfield 90, 3) := by decide +kernel
theorem dX4_add_43 : decode cX4_add 43 = .ok (.goto 5, 3) := by decide +kernel
theorem dX4_add_46 : decode cX4_add 46 = .ok (.bipush (-3), 2) := by decide +kernel
theorem dX4_add_48 : decode cX4_add 48 = .ok (.ireturn, 1) := by decide +kernel
theorem dX4_drop_0 : decode cX4_drop 0 = .ok (.aload_n 0, 1) := by decide +kernel
theorem dX4_drop_1 : decode cX4_drop 1 = .ok (.getfield 12, 3) := by decide +kernel
theorem dX4_drop_4 : decode cX4_drop 4 = .ok (.getfield 90, 3) := by decide +kernel
theorem dX4_drop_7 : decode cX4_drop 7 = .ok (.istore_n 2, 1) := by decide +kernel
theorem dX4_drop_8 : decode cX4_drop 8 = .ok (.iload_n 1, 1) := by decide +kernel
theorem dX4_drop_9 : decode cX4_drop 9 = .ok (.iconst 0, 1) := by decide +kernel
theorem dX4_drop_10 : decode cX4_drop 10 = .ok (.iload_n 2, 1) := by decide +kernel
theorem dX4_drop_11 : decode cX4_drop 11 = .ok (.invokestatic 59, 3) := by decide +kernel
theorem dX4_drop_14 : decode cX4_drop 14 = .ok (.ifCond .ne 5, 3) := by decide +kernel
theorem dX4_drop_17 : decode cX4_drop 17 = .ok (.iconst (-1), 1) := by decide +kernel
theorem dX4_drop_18 : decode cX4_drop 18 = .ok (.ireturn, 1) := by decide +kernel
theorem dX4_drop_19 : decode cX4_drop 19 = .ok (.aload_n 0, 1) := by decide +kernel
theorem dX4_drop_20 : decode cX4_drop 20 = .ok (.getfield 12, 3) := by decide +kernel
theorem dX4_drop_23 : decode cX4_drop 23 = .ok (.iload_n 1, 1) := by decide +kernel
theorem dX4_drop_24 : decode cX4_drop 24 = .ok (.putfield 90, 3) := by decide +kernel
theorem dX4_drop_27 : decode cX4_drop 27 = .ok (.iload_n 2, 1) := by decide +kernel
theorem dX4_drop_28 : decode cX4_drop 28 = .ok (.ireturn, 1) := by decide +kernel
theorem dX4_calm_0 : decode cX4_calm 0 = .ok (.aload_n 0, 1) := by decide +kernel
theorem dX4_calm_1 : decode cX4_calm 1 = .ok (.getfield 12, 3) := by decide +kernel
theorem dX4_calm_4 : decode cX4_calm 4 = .ok (.getfield 87, 3) := by decide +kernel
theorem dX4_calm_7 : decode cX4_calm 7 = .ok (.aload_n 0, 1) := by decide +kernel
theorem dX4_calm_8 : decode cX4_calm 8 = .ok (.getfield 12, 3) := by decide +kernel
theorem dX4_calm_11 : decode cX4_calm 11 = .ok (.invokevirtual 99, 3) := by decide +kernel
theorem dX4_calm_14 : decode cX4_calm 14 = .ok (.invokestatic 148, 3) := by decide +kernel
theorem dX4_calm_17 : decode cX4_calm 17 = .ok (.isub, 1) := by decide +kernel
theorem dX4_calm_18 : decode cX4_calm 18 = .ok (.istore_n 1, 1) := by decide +kernel
theorem dX4_calm_19 : decode cX4_calm 19 = .ok (.iconst 0, 1) := by decide +kernel
theorem dX4_calm_20 : decode cX4_calm 20 = .ok (.istore_n 2, 1) := by decide +kernel
theorem dX4_calm_21 : decode cX4_calm 21 = .ok (.iload_n 2, 1) := by decide +kernel
theorem dX4_calm_22 : decode cX4_calm 22 = .ok (.aload_n 0, 1) := by decide +kernel
theorem dX4_calm_23 : decode cX4_calm 23 = .ok (.getfield 12, 3) := by decide +kernel
theorem dX4_calm_26 : decode cX4_calm 26 = .ok (.getfield 87, 3) := by decide +kernel
theorem dX4_calm_29 : decode cX4_calm 29 = .ok (.if_icmp .ge 19, 3) := by decide +kernel
theorem dX4_calm_32 : decode cX4_calm 32 = .ok (.aload_n 0, 1) := by decide +kernel
theorem dX4_calm_33 : decode cX4_calm 33 = .ok (.getfield 12, 3) := by decide +kernel
theorem dX4_calm_36 : decode cX4_calm 36 = .ok (.getfield 113, 3) := by decide +kernel
theorem dX4_calm_39 : decode cX4_calm 39 = .ok (.iload_n 2, 1) := by decide +kernel
theorem dX4_calm_40 : decode cX4_calm 40 = .ok (.iconst 0, 1) := by decide +kernel
theorem dX4_calm_41 : decode cX4_calm 41 = .ok (.iastore, 1) := by decide +kernel
theorem dX4_calm_42 : decode cX4_calm 42 = .ok (.iinc 2 1, 3) := by decide +kernel
theorem dX4_calm_45 : decode cX4_calm 45 = .ok (.goto (-24), 3) := by decide +kernel
theorem dX4_calm_48 : decode cX4_calm 48 = .ok (.iload_n 1, 1) := by decide +kernel
theorem dX4_calm_49 : decode cX4_calm 49 = .ok (.ireturn, 1) := by decide +kernel
theorem dX4_ticks_0 : decode cX4_ticks 0 = .ok (.iload_n 1, 1) := by decide +kernel
theorem dX4_ticks_1 : decode cX4_ticks 1 = .ok (.iconst 0, 1) := by decide +kernel
theorem dX4_ticks_2 : decode cX4_ticks 2 = .ok (.bipush 100, 2) := by decide +kernel
theorem dX4_ticks_4 : decode cX4_ticks 4 = .ok (.invokestatic 59, 3) := by decide +kernel
theorem dX4_ticks_7 : decode cX4_ticks 7 = .ok (.ifCond .ne 5, 3) := by decide +kernel
theorem dX4_ticks_10 : decode cX4_ticks 10 = .ok (.iconst (-1), 1) := by decide +kernel
theorem dX4_ticks_11 : decode cX4_ticks 11 = .ok (.ireturn, 1) := by decide +kernel
theorem dX4_ticks_12 : decode cX4_ticks 12 = .ok (.aload_n 0, 1) := by decide +kernel
theorem dX4_ticks_13 : decode cX4_ticks 13 = .ok (.getfield 12, 3) := by decide +kernel
theorem dX4_ticks_16 : decode cX4_ticks 16 = .ok (.getfield 93, 3) := by decide +kernel
theorem dX4_ticks_19 : decode cX4_ticks 19 = .ok (.iload_n 1, 1) := by decide +kernel
theorem dX4_ticks_20 : decode cX4_ticks 20 = .ok (.iadd, 1) := by decide +kernel
theorem dX4_ticks_21 : decode cX4_ticks 21 = .ok (.sipush 9999, 3) := by decide +kernel
theorem dX4_ticks_24 : decode cX4_ticks 24 = .ok (.if_icmp .le 6, 3) := by decide +kernel
theorem dX4_ticks_27 : decode cX4_ticks 27 = .ok (.bipush (-3), 2) := by decide +kernel
theorem dX4_ticks_29 : decode cX4_ticks 29 = .ok (.ireturn, 1) := by decide +kernel
theorem dX4_ticks_30 : decode cX4_ticks 30 = .ok (.aload_n 0, 1) := by decide +kernel
theorem dX4_ticks_31 : decode cX4_ticks 31 = .ok (.getfield 12, 3) := by decide +kernel
theorem dX4_ticks_34 : decode cX4_ticks 34 = .ok (.iconst 0, 1) := by decide +kernel
theorem dX4_ticks_35 : decode cX4_ticks 35 = .ok (.putfield 153, 3) := by decide +kernel
theorem dX4_ticks_38 : decode cX4_ticks 38 = .ok (.aload_n 0, 1) := by decide +kernel
theorem dX4_ticks_39 : decode cX4_ticks 39 = .ok (.getfield 12, 3) := by decide +kernel
theorem dX4_ticks_42 : decode cX4_ticks 42 = .ok (.iload_n 1, 1) := by decide +kernel
theorem dX4_ticks_43 : decode cX4_ticks 43 = .ok (.invokevirtual 156, 3) := by decide +kernel
theorem dX4_ticks_46 : decode cX4_ticks 46 = .ok (.aload_n 0, 1) := by decide +kernel
theorem dX4_ticks_47 : decode cX4_ticks 47 = .ok (.getfield 12, 3) := by decide +kernel
theorem dX4_ticks_50 : decode cX4_ticks 50 = .ok (.getfield 153, 3) := by decide +kernel
theorem dX4_ticks_53 : decode cX4_ticks 53 = .ok (.ireturn, 1) := by decide +kernel
theorem dX4_runs_0 : decode cX4_runs 0 = .ok (.iload_n 1, 1) := by decide +kernel
theorem dX4_runs_1 : decode cX4_runs 1 = .ok (.iconst 0, 1) := by decide +kernel
theorem dX4_runs_2 : decode cX4_runs 2 = .ok (.sipush 200, 3) := by decide +kernel
theorem dX4_runs_5 : decode cX4_runs 5 = .ok (.invokestatic 59, 3) := by decide +kernel
theorem dX4_runs_8 : decode cX4_runs 8 = .ok (.ifCond .eq 12, 3) := by decide +kernel
theorem dX4_runs_11 : decode cX4_runs 11 = .ok (.iload_n 2, 1) := by decide +kernel
theorem dX4_runs_12 : decode cX4_runs 12 = .ok (.iconst 0, 1) := by decide +kernel
theorem dX4_runs_13 : decode cX4_runs 13 = .ok (.iconst 3, 1) := by decide +kernel
theorem dX4_runs_14 : decode cX4_runs 14 = .ok (.invokestatic 59, 3) := by decide +kernel
theorem dX4_runs_17 : decode cX4_runs 17 = .ok (.ifCond .ne 5, 3) := by decide +kernel
theorem dX4_runs_20 : decode cX4_runs 20 = .ok (.iconst (-1), 1) := by decide +kernel
theorem dX4_runs_21 : decode cX4_runs 21 = .ok (.ireturn, 1) := by decide +kernel
theorem dX4_runs_22 : decode cX4_runs 22 = .ok (.aload_n 0, 1) := by decide +kernel
theorem dX4_runs_23 : decode cX4_runs 23 = .ok (.getfield 16, 3) := by decide +kernel
theorem dX4_runs_26 : decode cX4_runs 26 = .ok (.aload_n 0, 1) := by decide +kernel
theorem dX4_runs_27 : decode cX4_runs 27 = .ok (.getfield 12, 3) := by decide +kernel
theorem dX4_runs_30 : decode cX4_runs 30 = .ok (.invokevirtual 80, 3) := by decide +kernel
theorem dX4_runs_33 : decode cX4_runs 33 = .ok (.aload_n 0, 1) := by decide +kernel
theorem dX4_runs_34 : decode cX4_runs 34 = .ok (.getfield 16, 3) := by decide +kernel
theorem dX4_runs_37 : decode cX4_runs 37 = .ok (.iload_n 1, 1) := by decide +kernel
theorem dX4_runs_38 : decode cX4_runs 38 = .ok (.sipush 301, 3) := by decide +kernel
theorem dX4_runs_41 : decode cX4_runs 41 = .ok (.invokevirtual 160, 3) := by decide +kernel
theorem dX4_runs_44 : decode cX4_runs 44 = .ok (.istore_n 3, 1) := by decide +kernel
theorem dX4_runs_45 : decode cX4_runs 45 = .ok (.iload_n 2, 1) := by decide +kernel
theorem dX4_runs_46 : decode cX4_runs 46 = .ok (.tableswitch 44 0 2 #[26, 34, 36], 26) := by decide +kernel
theorem dX4_runs_72 : decode cX4_runs 72 = .ok (.aload_n 0, 1) := by decide +kernel
theorem dX4_runs_73 : decode cX4_runs 73 = .ok (.getfield 16, 3) := by decide +kernel
theorem dX4_runs_76 : decode cX4_runs 76 = .ok (.getfield 153, 3) := by decide +kernel
theorem dX4_runs_79 : decode cX4_runs 79 = .ok (.ireturn, 1) := by decide +kernel
theorem dX4_runs_80 : decode cX4_runs 80 = .ok (.iload_n 3, 1) := by decide +kernel
theorem dX4_runs_81 : decode cX4_runs 81 = .ok (.ireturn, 1) := by decide +kernel
theorem dX4_runs_82 : decode cX4_runs 82 = .ok (.aload_n 0, 1) := by decide +kernel
theorem dX4_runs_83 : decode cX4_runs 83 = .ok (.getfield 16, 3) := by decide +kernel
theorem dX4_runs_86 : decode cX4_runs 86 = .ok (.invokevirtual 103, 3) := by decide +kernel
theorem dX4_runs_89 : decode cX4_runs 89 = .ok (.ireturn, 1) := by decide +kernel
theorem dX4_runs_90 : decode cX4_runs 90 = .ok (.aload_n 0, 1) := by decide +kernel
theorem dX4_runs_91 : decode cX4_runs 91 = .ok (.getfield 16, 3) := by decide +kernel
theorem dX4_runs_94 : decode cX4_runs 94 = .ok (.getfield 164, 3) := by decide +kernel
theorem dX4_runs_97 : decode cX4_runs 97 = .ok (.ireturn, 1) := by decide +kernel
theorem dX4_ahead_0 : decode cX4_ahead 0 = .ok (.aload_n 0, 1) := by decide +kernel
theorem dX4_ahead_1 : decode cX4_ahead 1 = .ok (.getfield 12, 3) := by decide +kernel
theorem dX4_ahead_4 : decode cX4_ahead 4 = .ok (.iload_n 1, 1) := by decide +kernel
theorem dX4_ahead_5 : decode cX4_ahead 5 = .ok (.invokevirtual 106, 3) := by decide +kernel
theorem dX4_ahead_8 : decode cX4_ahead 8 = .ok (.ifCond .eq 23, 3) := by decide +kernel
theorem dX4_ahead_11 : decode cX4_ahead 11 = .ok (.iload_n 2, 1) := by decide +kernel
theorem dX4_ahead_12 : decode cX4_ahead 12 = .ok (.iconst 0, 1) := by decide +kernel
theorem dX4_ahead_13 : decode cX4_ahead 13 = .ok (.sipush 200, 3) := by decide +kernel
theorem dX4_ahead_16 : decode cX4_ahead 16 = .ok (.invokestatic 59, 3) := by decide +kernel
theorem dX4_ahead_19 : decode cX4_ahead 19 = .ok (.ifCond .eq 12, 3) := by decide +kernel
theorem dX4_ahead_22 : decode cX4_ahead 22 = .ok (.iload_n 3, 1) := by decide +kernel
theorem dX4_ahead_23 : decode cX4_ahead 23 = .ok (.iconst 0, 1) := by decide +kernel
theorem dX4_ahead_24 : decode cX4_ahead 24 = .ok (.iconst 1, 1) := by decide +kernel
theorem dX4_ahead_25 : decode cX4_ahead 25 = .ok (.invokestatic 59, 3) := by decide +kernel
theorem dX4_ahead_28 : decode cX4_ahead 28 = .ok (.ifCond .ne 5, 3) := by decide +kernel
theorem dX4_ahead_31 : decode cX4_ahead 31 = .ok (.iconst (-1), 1) := by decide +kernel
theorem dX4_ahead_32 : decode cX4_ahead 32 = .ok (.ireturn, 1) := by decide +kernel
theorem dX4_ahead_33 : decode cX4_ahead 33 = .ok (.aload_n 0, 1) := by decide +kernel
theorem dX4_ahead_34 : decode cX4_ahead 34 = .ok (.getfield 16, 3) := by decide +kernel
theorem dX4_ahead_37 : decode cX4_ahead 37 = .ok (.aload_n 0, 1) := by decide +kernel
theorem dX4_ahead_38 : decode cX4_ahead 38 = .ok (.getfield 12, 3) := by decide +kernel
theorem dX4_ahead_41 : decode cX4_ahead 41 = .ok (.invokevirtual 80, 3) := by decide +kernel
theorem dX4_ahead_44 : decode cX4_ahead 44 = .ok (.aload_n 0, 1) := by decide +kernel
theorem dX4_ahead_45 : decode cX4_ahead 45 = .ok (.getfield 16, 3) := by decide +kernel
theorem dX4_ahead_48 : decode cX4_ahead 48 = .ok (.iload_n 2, 1) := by decide +kernel
theorem dX4_ahead_49 : decode cX4_ahead 49 = .ok (.invokevirtual 156, 3) := by decide +kernel
theorem dX4_ahead_52 : decode cX4_ahead 52 = .ok (.iload_n 3, 1) := by decide +kernel
theorem dX4_ahead_53 : decode cX4_ahead 53 = .ok (.ifCond .ne 15, 3) := by decide +kernel
theorem dX4_ahead_56 : decode cX4_ahead 56 = .ok (.aload_n 0, 1) := by decide +kernel
theorem dX4_ahead_57 : decode cX4_ahead 57 = .ok (.getfield 16, 3) := by decide +kernel
theorem dX4_ahead_60 : decode cX4_ahead 60 = .ok (.getfield 167, 3) := by decide +kernel
theorem dX4_ahead_63 : decode cX4_ahead 63 = .ok (.iload_n 1, 1) := by decide +kernel
theorem dX4_ahead_64 : decode cX4_ahead 64 = .ok (.iaload, 1) := by decide +kernel
theorem dX4_ahead_65 : decode cX4_ahead 65 = .ok (.goto 15, 3) := by decide +kernel
theorem dX4_ahead_68 : decode cX4_ahead 68 = .ok (.bipush 100, 2) := by decide +kernel
theorem dX4_ahead_70 : decode cX4_ahead 70 = .ok (.aload_n 0, 1) := by decide +kernel
theorem dX4_ahead_71 : decode cX4_ahead 71 = .ok (.getfield 16, 3) := by decide +kernel
theorem dX4_ahead_74 : decode cX4_ahead 74 = .ok (.getfield 113, 3) := by decide +kernel
theorem dX4_ahead_77 : decode cX4_ahead 77 = .ok (.iload_n 1, 1) := by decide +kernel
theorem dX4_ahead_78 : decode cX4_ahead 78 = .ok (.iaload, 1) := by decide +kernel
theorem dX4_ahead_79 : decode cX4_ahead 79 = .ok (.iadd, 1) := by decide +kernel
theorem dX4_ahead_80 : decode cX4_ahead 80 = .ok (.ireturn, 1) := by decide +kernel
theorem dX4_when_0 : decode cX4_when 0 = .ok (.aload_n 0, 1) := by decide +kernel
theorem dX4_when_1 : decode cX4_when 1 = .ok (.getfield 12, 3) := by decide +kernel
theorem dX4_when_4 : decode cX4_when 4 = .ok (.iload_n 1, 1) := by decide +kernel
theorem dX4_when_5 : decode cX4_when 5 = .ok (.invokevirtual 106, 3) := by decide +kernel
theorem dX4_when_8 : decode cX4_when 8 = .ok (.ifCond .eq 14, 3) := by decide +kernel
theorem dX4_when_11 : decode cX4_when 11 = .ok (.iload_n 2, 1) := by decide +kernel
theorem dX4_when_12 : decode cX4_when 12 = .ok (.iconst 0, 1) := by decide +kernel
theorem dX4_when_13 : decode cX4_when 13 = .ok (.sipush 300, 3) := by decide +kernel
theorem dX4_when_16 : decode cX4_when 16 = .ok (.invokestatic 59, 3) := by decide +kernel
theorem dX4_when_19 : decode cX4_when 19 = .ok (.ifCond .ne 5, 3) := by decide +kernel
theorem dX4_when_22 : decode cX4_when 22 = .ok (.iconst (-1), 1) := by decide +kernel
theorem dX4_when_23 : decode cX4_when 23 = .ok (.ireturn, 1) := by decide +kernel
theorem dX4_when_24 : decode cX4_when 24 = .ok (.iload_n 2, 1) := by decide +kernel
theorem dX4_when_25 : decode cX4_when 25 = .ok (.aload_n 0, 1) := by decide +kernel
theorem dX4_when_26 : decode cX4_when 26 = .ok (.getfield 12, 3) := by decide +kernel
theorem dX4_when_29 : decode cX4_when 29 = .ok (.getfield 167, 3) := by decide +kernel
theorem dX4_when_32 : decode cX4_when 32 = .ok (.iload_n 1, 1) := by decide +kernel
theorem dX4_when_33 : decode cX4_when 33 = .ok (.iaload, 1) := by decide +kernel
theorem dX4_when_34 : decode cX4_when 34 = .ok (.invokestatic 170, 3) := by decide +kernel
theorem dX4_when_37 : decode cX4_when 37 = .ok (.istore_n 3, 1) := by decide +kernel
theorem dX4_when_38 : decode cX4_when 38 = .ok (.aload_n 0, 1) := by decide +kernel
theorem dX4_when_39 : decode cX4_when 39 = .ok (.getfield 16, 3) := by decide +kernel
theorem dX4_when_42 : decode cX4_when 42 = .ok (.aload_n 0, 1) := by decide +kernel
theorem dX4_when_43 : decode cX4_when 43 = .ok (.getfield 12, 3) := by decide +kernel
theorem dX4_when_46 : decode cX4_when 46 = .ok (.invokevirtual 80, 3) := by decide +kernel
theorem dX4_when_49 : decode cX4_when 49 = .ok (.iconst 0, 1) := by decide +kernel
theorem dX4_when_50 : decode cX4_when 50 = .ok (.istore 4, 2) := by decide +kernel
theorem dX4_when_52 : decode cX4_when 52 = .ok (.iload 4, 2) := by decide +kernel
theorem dX4_when_54 : decode cX4_when 54 = .ok (.sipush 200, 3) := by decide +kernel
theorem dX4_when_57 : decode cX4_when 57 = .ok (.if_icmp .gt 45, 3) := by decide +kernel
theorem dX4_when_60 : decode cX4_when 60 = .ok (.iload_n 2, 1) := by decide +kernel
theorem dX4_when_61 : decode cX4_when 61 = .ok (.aload_n 0, 1) := by decide +kernel
theorem dX4_when_62 : decode cX4_when 62 = .ok (.getfield 16, 3) := by decide +kernel
theorem dX4_when_65 : decode cX4_when 65 = .ok (.getfield 167, 3) := by decide +kernel
theorem dX4_when_68 : decode cX4_when 68 = .ok (.iload_n 1, 1) := by decide +kernel
theorem dX4_when_69 : decode cX4_when 69 = .ok (.iaload, 1) := by decide +kernel
theorem dX4_when_70 : decode cX4_when 70 = .ok (.invokestatic 170, 3) := by decide +kernel
theorem dX4_when_73 : decode cX4_when 73 = .ok (.istore 5, 2) := by decide +kernel
theorem dX4_when_75 : decode cX4_when 75 = .ok (.iload 5, 2) := by decide +kernel
theorem dX4_when_77 : decode cX4_when 77 = .ok (.ifCond .eq 9, 3) := by decide +kernel
theorem dX4_when_80 : decode cX4_when 80 = .ok (.iload 5, 2) := by decide +kernel
theorem dX4_when_82 : decode cX4_when 82 = .ok (.iload_n 3, 1) := by decide +kernel
theorem dX4_when_83 : decode cX4_when 83 = .ok (.if_icmp .eq 6, 3) := by decide +kernel
theorem dX4_when_86 : decode cX4_when 86 = .ok (.iload 4, 2) := by decide +kernel
theorem dX4_when_88 : decode cX4_when 88 = .ok (.ireturn, 1) := by decide +kernel
theorem dX4_when_89 : decode cX4_when 89 = .ok (.aload_n 0, 1) := by decide +kernel
theorem dX4_when_90 : decode cX4_when 90 = .ok (.getfield 16, 3) := by decide +kernel
theorem dX4_when_93 : decode cX4_when 93 = .ok (.invokevirtual 173, 3) := by decide +kernel
theorem dX4_when_96 : decode cX4_when 96 = .ok (.iinc 4 1, 3) := by decide +kernel
theorem dX4_when_99 : decode cX4_when 99 = .ok (.goto (-47), 3) := by decide +kernel
theorem dX4_when_102 : decode cX4_when 102 = .ok (.bipush (-4), 2) := by decide +kernel
theorem dX4_when_104 : decode cX4_when 104 = .ok (.ireturn, 1) := by decide +kernel
theorem dX4_rests_0 : decode cX4_rests 0 = .ok (.aload_n 0, 1) := by decide +kernel
theorem dX4_rests_1 : decode cX4_rests 1 = .ok (.getfield 16, 3) := by decide +kernel
theorem dX4_rests_4 : decode cX4_rests 4 = .ok (.aload_n 0, 1) := by decide +kernel
theorem dX4_rests_5 : decode cX4_rests 5 = .ok (.getfield 12, 3) := by decide +kernel
theorem dX4_rests_8 : decode cX4_rests 8 = .ok (.invokevirtual 80, 3) := by decide +kernel
theorem dX4_rests_11 : decode cX4_rests 11 = .ok (.iconst 0, 1) := by decide +kernel
theorem dX4_rests_12 : decode cX4_rests 12 = .ok (.istore_n 1, 1) := by decide +kernel
theorem dX4_rests_13 : decode cX4_rests 13 = .ok (.iload_n 1, 1) := by decide +kernel
theorem dX4_rests_14 : decode cX4_rests 14 = .ok (.sipush 200, 3) := by decide +kernel
theorem dX4_rests_17 : decode cX4_rests 17 = .ok (.if_icmp .gt 28, 3) := by decide +kernel
theorem dX4_rests_20 : decode cX4_rests 20 = .ok (.aload_n 0, 1) := by decide +kernel
theorem dX4_rests_21 : decode cX4_rests 21 = .ok (.getfield 16, 3) := by decide +kernel
theorem dX4_rests_24 : decode cX4_rests 24 = .ok (.invokevirtual 176, 3) := by decide +kernel
theorem dX4_rests_27 : decode cX4_rests 27 = .ok (.aload_n 0, 1) := by decide +kernel
theorem dX4_rests_28 : decode cX4_rests 28 = .ok (.getfield 16, 3) := by decide +kernel
theorem dX4_rests_31 : decode cX4_rests 31 = .ok (.getfield 179, 3) := by decide +kernel
theorem dX4_rests_34 : decode cX4_rests 34 = .ok (.ifCond .ne 5, 3) := by decide +kernel
theorem dX4_rests_37 : decode cX4_rests 37 = .ok (.iload_n 1, 1) := by decide +kernel
theorem dX4_rests_38 : decode cX4_rests 38 = .ok (.ireturn, 1) := by decide +kernel
theorem dX4_rests_39 : decode cX4_rests 39 = .ok (.iinc 1 1, 3) := by decide +kernel
theorem dX4_rests_42 : decode cX4_rests 42 = .ok (.goto (-29), 3) := by decide +kernel
theorem dX4_rests_45 : decode cX4_rests 45 = .ok (.bipush (-4), 2) := by decide +kernel
theorem dX4_rests_47 : decode cX4_rests 47 = .ok (.ireturn, 1) := by decide +kernel
theorem dX4_stiff_0 : decode cX4_stiff 0 = .ok (.aload_n 0, 1) := by decide +kernel
theorem dX4_stiff_1 : decode cX4_stiff 1 = .ok (.iconst 2, 1) := by decide +kernel
theorem dX4_stiff_2 : decode cX4_stiff 2 = .ok (.iload_n 1, 1) := by decide +kernel
theorem dX4_stiff_3 : decode cX4_stiff 3 = .ok (.iload_n 2, 1) := by decide +kernel
theorem dX4_stiff_4 : decode cX4_stiff 4 = .ok (.iload_n 3, 1) := by decide +kernel
theorem dX4_stiff_5 : decode cX4_stiff 5 = .ok (.invokevirtual 183, 3) := by decide +kernel
theorem dX4_stiff_8 : decode cX4_stiff 8 = .ok (.ireturn, 1) := by decide +kernel
theorem dX4_rest_0 : decode cX4_rest 0 = .ok (.aload_n 0, 1) := by decide +kernel
theorem dX4_rest_1 : decode cX4_rest 1 = .ok (.iconst 1, 1) := by decide +kernel
theorem dX4_rest_2 : decode cX4_rest 2 = .ok (.iload_n 1, 1) := by decide +kernel
theorem dX4_rest_3 : decode cX4_rest 3 = .ok (.iload_n 2, 1) := by decide +kernel
theorem dX4_rest_4 : decode cX4_rest 4 = .ok (.iload_n 3, 1) := by decide +kernel
theorem dX4_rest_5 : decode cX4_rest 5 = .ok (.invokevirtual 183, 3) := by decide +kernel
theorem dX4_rest_8 : decode cX4_rest 8 = .ok (.ireturn, 1) := by decide +kernel
theorem dX4_kind_0 : decode cX4_kind 0 = .ok (.aload_n 0, 1) := by decide +kernel
theorem dX4_kind_1 : decode cX4_kind 1 = .ok (.iconst 0, 1) := by decide +kernel
theorem dX4_kind_2 : decode cX4_kind 2 = .ok (.iload_n 1, 1) := by decide +kernel
theorem dX4_kind_3 : decode cX4_kind 3 = .ok (.iload_n 2, 1) := by decide +kernel
theorem dX4_kind_4 : decode cX4_kind 4 = .ok (.iload_n 3, 1) := by decide +kernel
theorem dX4_kind_5 : decode cX4_kind 5 = .ok (.invokevirtual 183, 3) := by decide +kernel
theorem dX4_kind_8 : decode cX4_kind 8 = .ok (.ireturn, 1) := by decide +kernel
theorem dX4_mass_0 : decode cX4_mass 0 = .ok (.aload_n 0, 1) := by decide +kernel
theorem dX4_mass_1 : decode cX4_mass 1 = .ok (.iconst 3, 1) := by decide +kernel
theorem dX4_mass_2 : decode cX4_mass 2 = .ok (.iload_n 1, 1) := by decide +kernel
theorem dX4_mass_3 : decode cX4_mass 3 = .ok (.iload_n 2, 1) := by decide +kernel
theorem dX4_mass_4 : decode cX4_mass 4 = .ok (.iload_n 3, 1) := by decide +kernel
theorem dX4_mass_5 : decode cX4_mass 5 = .ok (.invokevirtual 183, 3) := by decide +kernel
theorem dX4_mass_8 : decode cX4_mass 8 = .ok (.ireturn, 1) := by decide +kernel
theorem dX4_swap_0 : decode cX4_swap 0 = .ok (.iload_n 1, 1) := by decide +kernel
theorem dX4_swap_1 : decode cX4_swap 1 = .ok (.iconst 0, 1) := by decide +kernel
theorem dX4_swap_2 : decode cX4_swap 2 = .ok (.bipush 100, 2) := by decide +kernel
theorem dX4_swap_4 : decode cX4_swap 4 = .ok (.invokestatic 59, 3) := by decide +kernel
theorem dX4_swap_7 : decode cX4_swap 7 = .ok (.ifCond .eq 12, 3) := by decide +kernel
theorem dX4_swap_10 : decode cX4_swap 10 = .ok (.iload_n 2, 1) := by decide +kernel
theorem dX4_swap_11 : decode cX4_swap 11 = .ok (.iconst 0, 1) := by decide +kernel
theorem dX4_swap_12 : decode cX4_swap 12 = .ok (.iconst 1, 1) := by decide +kernel
theorem dX4_swap_13 : decode cX4_swap 13 = .ok (.invokestatic 59, 3) := by decide +kernel
theorem dX4_swap_16 : decode cX4_swap 16 = .ok (.ifCond .ne 5, 3) := by decide +kernel
theorem dX4_swap_19 : decode cX4_swap 19 = .ok (.iconst (-1), 1) := by decide +kernel
theorem dX4_swap_20 : decode cX4_swap 20 = .ok (.ireturn, 1) := by decide +kernel
theorem dX4_swap_21 : decode cX4_swap 21 = .ok (.aload_n 0, 1) := by decide +kernel
theorem dX4_swap_22 : decode cX4_swap 22 = .ok (.iload_n 1, 1) := by decide +kernel
theorem dX4_swap_23 : decode cX4_swap 23 = .ok (.invokevirtual 187, 3) := by decide +kernel
theorem dX4_swap_26 : decode cX4_swap 26 = .ok (.istore_n 3, 1) := by decide +kernel
theorem dX4_swap_27 : decode cX4_swap 27 = .ok (.bipush (-4), 2) := by decide +kernel
theorem dX4_swap_29 : decode cX4_swap 29 = .ok (.istore 4, 2) := by decide +kernel
theorem dX4_swap_31 : decode cX4_swap 31 = .ok (.iconst 0, 1) := by decide +kernel
theorem dX4_swap_32 : decode cX4_swap 32 = .ok (.istore 5, 2) := by decide +kernel
theorem dX4_swap_34 : decode cX4_swap 34 = .ok (.iload 5, 2) := by decide +kernel
theorem dX4_swap_36 : decode cX4_swap 36 = .ok (.aload_n 0, 1) := by decide +kernel
theorem dX4_swap_37 : decode cX4_swap 37 = .ok (.getfield 12, 3) := by decide +kernel
theorem dX4_swap_40 : decode cX4_swap 40 = .ok (.getfield 90, 3) := by decide +kernel
theorem dX4_swap_43 : decode cX4_swap 43 = .ok (.if_icmp .ge 85, 3) := by decide +kernel
theorem dX4_swap_46 : decode cX4_swap 46 = .ok (.iload 5, 2) := by decide +kernel
theorem dX4_swap_48 : decode cX4_swap 48 = .ok (.iconst 1, 1) := by decide +kernel
theorem dX4_swap_49 : decode cX4_swap 49 = .ok (.iadd, 1) := by decide +kernel
theorem dX4_swap_50 : decode cX4_swap 50 = .ok (.istore 6, 2) := by decide +kernel
theorem dX4_swap_52 : decode cX4_swap 52 = .ok (.iload 6, 2) := by decide +kernel
theorem dX4_swap_54 : decode cX4_swap 54 = .ok (.aload_n 0, 1) := by decide +kernel
theorem dX4_swap_55 : decode cX4_swap 55 = .ok (.getfield 12, 3) := by decide +kernel
theorem dX4_swap_58 : decode cX4_swap 58 = .ok (.getfield 90, 3) := by decide +kernel
theorem dX4_swap_61 : decode cX4_swap 61 = .ok (.if_icmp .ge 61, 3) := by decide +kernel
theorem dX4_swap_64 : decode cX4_swap 64 = .ok (.aload_n 0, 1) := by decide +kernel
theorem dX4_swap_65 : decode cX4_swap 65 = .ok (.getfield 16, 3) := by decide +kernel
theorem dX4_swap_68 : decode cX4_swap 68 = .ok (.aload_n 0, 1) := by decide +kernel
theorem dX4_swap_69 : decode cX4_swap 69 = .ok (.getfield 12, 3) := by decide +kernel
theorem dX4_swap_72 : decode cX4_swap 72 = .ok (.invokevirtual 80, 3) := by decide +kernel
theorem dX4_swap_75 : decode cX4_swap 75 = .ok (.aload_n 0, 1) := by decide +kernel
theorem dX4_swap_76 : decode cX4_swap 76 = .ok (.getfield 16, 3) := by decide +kernel
theorem dX4_swap_79 : decode cX4_swap 79 = .ok (.iload 5, 2) := by decide +kernel
theorem dX4_swap_81 : decode cX4_swap 81 = .ok (.iload 6, 2) := by decide +kernel
theorem dX4_swap_83 : decode cX4_swap 83 = .ok (.invokevirtual 190, 3) := by decide +kernel
theorem dX4_swap_86 : decode cX4_swap 86 = .ok (.aload_n 0, 1) := by decide +kernel
theorem dX4_swap_87 : decode cX4_swap 87 = .ok (.getfield 16, 3) := by decide +kernel
theorem dX4_swap_90 : decode cX4_swap 90 = .ok (.iload_n 1, 1) := by decide +kernel
theorem dX4_swap_91 : decode cX4_swap 91 = .ok (.iload_n 3, 1) := by decide +kernel
theorem dX4_swap_92 : decode cX4_swap 92 = .ok (.invokevirtual 160, 3) := by decide +kernel
theorem dX4_swap_95 : decode cX4_swap 95 = .ok (.istore 7, 2) := by decide +kernel
theorem dX4_swap_97 : decode cX4_swap 97 = .ok (.iload 7, 2) := by decide +kernel
theorem dX4_swap_99 : decode cX4_swap 99 = .ok (.iload_n 3, 1) := by decide +kernel
theorem dX4_swap_100 : decode cX4_swap 100 = .ok (.if_icmp .ge 16, 3) := by decide +kernel
theorem dX4_swap_103 : decode cX4_swap 103 = .ok (.iload 7, 2) := by decide +kernel
theorem dX4_swap_105 : decode cX4_swap 105 = .ok (.istore_n 3, 1) := by decide +kernel
theorem dX4_swap_106 : decode cX4_swap 106 = .ok (.bipush 100, 2) := by decide +kernel
theorem dX4_swap_108 : decode cX4_swap 108 = .ok (.iload 5, 2) := by decide +kernel
theorem dX4_swap_110 : decode cX4_swap 110 = .ok (.imul, 1) := by decide +kernel
theorem dX4_swap_111 : decode cX4_swap 111 = .ok (.iload 6, 2) := by decide +kernel
theorem dX4_swap_113 : decode cX4_swap 113 = .ok (.iadd, 1) := by decide +kernel
theorem dX4_swap_114 : decode cX4_swap 114 = .ok (.istore 4, 2) := by decide +kernel
theorem dX4_swap_116 : decode cX4_swap 116 = .ok (.iinc 6 1, 3) := by decide +kernel
theorem dX4_swap_119 : decode cX4_swap 119 = .ok (.goto (-67), 3) := by decide +kernel
theorem dX4_swap_122 : decode cX4_swap 122 = .ok (.iinc 5 1, 3) := by decide +kernel
theorem dX4_swap_125 : decode cX4_swap 125 = .ok (.goto (-91), 3) := by decide +kernel
theorem dX4_swap_128 : decode cX4_swap 128 = .ok (.iload 4, 2) := by decide +kernel
theorem dX4_swap_130 : decode cX4_swap 130 = .ok (.bipush (-4), 2) := by decide +kernel
theorem dX4_swap_132 : decode cX4_swap 132 = .ok (.if_icmp .eq 7, 3) := by decide +kernel
theorem dX4_swap_135 : decode cX4_swap 135 = .ok (.iload_n 2, 1) := by decide +kernel
theorem dX4_swap_136 : decode cX4_swap 136 = .ok (.ifCond .ne 8, 3) := by decide +kernel
theorem dX4_swap_139 : decode cX4_swap 139 = .ok (.iload 4, 2) := by decide +kernel
theorem dX4_swap_141 : decode cX4_swap 141 = .ok (.goto 4, 3) := by decide +kernel
theorem dX4_swap_144 : decode cX4_swap 144 = .ok (.iload_n 3, 1) := by decide +kernel
theorem dX4_swap_145 : decode cX4_swap 145 = .ok (.ireturn, 1) := by decide +kernel
theorem dX4_miss_0 : decode cX4_miss 0 = .ok (.iload_n 1, 1) := by decide +kernel
theorem dX4_miss_1 : decode cX4_miss 1 = .ok (.iconst 0, 1) := by decide +kernel
theorem dX4_miss_2 : decode cX4_miss 2 = .ok (.bipush 100, 2) := by decide +kernel
theorem dX4_miss_4 : decode cX4_miss 4 = .ok (.invokestatic 59, 3) := by decide +kernel
theorem dX4_miss_7 : decode cX4_miss 7 = .ok (.ifCond .eq 12, 3) := by decide +kernel
theorem dX4_miss_10 : decode cX4_miss 10 = .ok (.iload_n 2, 1) := by decide +kernel
theorem dX4_miss_11 : decode cX4_miss 11 = .ok (.iconst 0, 1) := by decide +kernel
theorem dX4_miss_12 : decode cX4_miss 12 = .ok (.iconst 1, 1) := by decide +kernel
theorem dX4_miss_13 : decode cX4_miss 13 = .ok (.invokestatic 59, 3) := by decide +kernel
theorem dX4_miss_16 : decode cX4_miss 16 = .ok (.ifCond .ne 5, 3) := by decide +kernel
theorem dX4_miss_19 : decode cX4_miss 19 = .ok (.iconst (-1), 1) := by decide +kernel
theorem dX4_miss_20 : decode cX4_miss 20 = .ok (.ireturn, 1) := by decide +kernel
theorem dX4_miss_21 : decode cX4_miss 21 = .ok (.aload_n 0, 1) := by decide +kernel
theorem dX4_miss_22 : decode cX4_miss 22 = .ok (.iload_n 1, 1) := by decide +kernel
theorem dX4_miss_23 : decode cX4_miss 23 = .ok (.invokevirtual 187, 3) := by decide +kernel
theorem dX4_miss_26 : decode cX4_miss 26 = .ok (.istore_n 3, 1) := by decide +kernel
theorem dX4_miss_27 : decode cX4_miss 27 = .ok (.bipush (-4), 2) := by decide +kernel
theorem dX4_miss_29 : decode cX4_miss 29 = .ok (.istore 4, 2) := by decide +kernel
theorem dX4_miss_31 : decode cX4_miss 31 = .ok (.iconst 0, 1) := by decide +kernel
theorem dX4_miss_32 : decode cX4_miss 32 = .ok (.istore 5, 2) := by decide +kernel
theorem dX4_miss_34 : decode cX4_miss 34 = .ok (.iload 5, 2) := by decide +kernel
theorem dX4_miss_36 : decode cX4_miss 36 = .ok (.aload_n 0, 1) := by decide +kernel
theorem dX4_miss_37 : decode cX4_miss 37 = .ok (.getfield 12, 3) := by decide +kernel
theorem dX4_miss_40 : decode cX4_miss 40 = .ok (.getfield 90, 3) := by decide +kernel
theorem dX4_miss_43 : decode cX4_miss 43 = .ok (.if_icmp .ge 55, 3) := by decide +kernel
theorem dX4_miss_46 : decode cX4_miss 46 = .ok (.aload_n 0, 1) := by decide +kernel
theorem dX4_miss_47 : decode cX4_miss 47 = .ok (.getfield 16, 3) := by decide +kernel
theorem dX4_miss_50 : decode cX4_miss 50 = .ok (.aload_n 0, 1) := by decide +kernel
theorem dX4_miss_51 : decode cX4_miss 51 = .ok (.getfield 12, 3) := by decide +kernel
theorem dX4_miss_54 : decode cX4_miss 54 = .ok (.invokevirtual 80, 3) := by decide +kernel
theorem dX4_miss_57 : decode cX4_miss 57 = .ok (.aload_n 0, 1) := by decide +kernel
theorem dX4_miss_58 : decode cX4_miss 58 = .ok (.getfield 16, 3) := by decide +kernel
theorem dX4_miss_61 : decode cX4_miss 61 = .ok (.getfield 127, 3) := by decide +kernel
theorem dX4_miss_64 : decode cX4_miss 64 = .ok (.iload 5, 2) := by decide +kernel
theorem dX4_miss_66 : decode cX4_miss 66 = .ok (.iconst 0, 1) := by decide +kernel
theorem dX4_miss_67 : decode cX4_miss 67 = .ok (.iastore, 1) := by decide +kernel
theorem dX4_miss_68 : decode cX4_miss 68 = .ok (.aload_n 0, 1) := by decide +kernel
theorem dX4_miss_69 : decode cX4_miss 69 = .ok (.getfield 16, 3) := by decide +kernel
theorem dX4_miss_72 : decode cX4_miss 72 = .ok (.iload_n 1, 1) := by decide +kernel
theorem dX4_miss_73 : decode cX4_miss 73 = .ok (.iload_n 3, 1) := by decide +kernel
theorem dX4_miss_74 : decode cX4_miss 74 = .ok (.invokevirtual 160, 3) := by decide +kernel
theorem dX4_miss_77 : decode cX4_miss 77 = .ok (.istore 6, 2) := by decide +kernel
theorem dX4_miss_79 : decode cX4_miss 79 = .ok (.iload 6, 2) := by decide +kernel
theorem dX4_miss_81 : decode cX4_miss 81 = .ok (.iload_n 3, 1) := by decide +kernel
theorem dX4_miss_82 : decode cX4_miss 82 = .ok (.if_icmp .ge 10, 3) := by decide +kernel
theorem dX4_miss_85 : decode cX4_miss 85 = .ok (.iload 6, 2) := by decide +kernel
theorem dX4_miss_87 : decode cX4_miss 87 = .ok (.istore_n 3, 1) := by decide +kernel
theorem dX4_miss_88 : decode cX4_miss 88 = .ok (.iload 5, 2) := by decide +kernel
theorem dX4_miss_90 : decode cX4_miss 90 = .ok (.istore 4, 2) := by decide +kernel
theorem dX4_miss_92 : decode cX4_miss 92 = .ok (.iinc 5 1, 3) := by decide +kernel
theorem dX4_miss_95 : decode cX4_miss 95 = .ok (.goto (-61), 3) := by decide +kernel
theorem dX4_miss_98 : decode cX4_miss 98 = .ok (.iload 4, 2) := by decide +kernel
theorem dX4_miss_100 : decode cX4_miss 100 = .ok (.bipush (-4), 2) := by decide +kernel
theorem dX4_miss_102 : decode cX4_miss 102 = .ok (.if_icmp .eq 7, 3) := by decide +kernel
theorem dX4_miss_105 : decode cX4_miss 105 = .ok (.iload_n 2, 1) := by decide +kernel
theorem dX4_miss_106 : decode cX4_miss 106 = .ok (.ifCond .ne 8, 3) := by decide +kernel
theorem dX4_miss_109 : decode cX4_miss 109 = .ok (.iload 4, 2) := by decide +kernel
theorem dX4_miss_111 : decode cX4_miss 111 = .ok (.goto 4, 3) := by decide +kernel
theorem dX4_miss_114 : decode cX4_miss 114 = .ok (.iload_n 3, 1) := by decide +kernel
theorem dX4_miss_115 : decode cX4_miss 115 = .ok (.ireturn, 1) := by decide +kernel
theorem dX4_swingAsItIs_0 : decode cX4_swingAsItIs 0 = .ok (.aload_n 0, 1) := by decide +kernel
theorem dX4_swingAsItIs_1 : decode cX4_swingAsItIs 1 = .ok (.getfield 16, 3) := by decide +kernel
theorem dX4_swingAsItIs_4 : decode cX4_swingAsItIs 4 = .ok (.aload_n 0, 1) := by decide +kernel
theorem dX4_swingAsItIs_5 : decode cX4_swingAsItIs 5 = .ok (.getfield 12, 3) := by decide +kernel
theorem dX4_swingAsItIs_8 : decode cX4_swingAsItIs 8 = .ok (.invokevirtual 80, 3) := by decide +kernel
theorem dX4_swingAsItIs_11 : decode cX4_swingAsItIs 11 = .ok (.aload_n 0, 1) := by decide +kernel
theorem dX4_swingAsItIs_12 : decode cX4_swingAsItIs 12 = .ok (.getfield 16, 3) := by decide +kernel
theorem dX4_swingAsItIs_15 : decode cX4_swingAsItIs 15 = .ok (.iload_n 1, 1) := by decide +kernel
theorem dX4_swingAsItIs_16 : decode cX4_swingAsItIs 16 = .ok (.sipush 301, 3) := by decide +kernel
theorem dX4_swingAsItIs_19 : decode cX4_swingAsItIs 19 = .ok (.invokevirtual 160, 3) := by decide +kernel
theorem dX4_swingAsItIs_22 : decode cX4_swingAsItIs 22 = .ok (.ireturn, 1) := by decide +kernel
theorem dX4_steadiest_0 : decode cX4_steadiest 0 = .ok (.aload_n 0, 1) := by decide +kernel
theorem dX4_steadiest_1 : decode cX4_steadiest 1 = .ok (.getfield 12, 3) := by decide +kernel
theorem dX4_steadiest_4 : decode cX4_steadiest 4 = .ok (.iload_n 2, 1) := by decide +kernel
theorem dX4_steadiest_5 : decode cX4_steadiest 5 = .ok (.invokevirtual 106, 3) := by decide +kernel
theorem dX4_steadiest_8 : decode cX4_steadiest 8 = .ok (.ifCond .eq 23, 3) := by decide +kernel
theorem dX4_steadiest_11 : decode cX4_steadiest 11 = .ok (.iload_n 3, 1) := by decide +kernel
theorem dX4_steadiest_12 : decode cX4_steadiest 12 = .ok (.iconst 0, 1) := by decide +kernel
theorem dX4_steadiest_13 : decode cX4_steadiest 13 = .ok (.bipush 100, 2) := by decide +kernel
theorem dX4_steadiest_15 : decode cX4_steadiest 15 = .ok (.invokestatic 59, 3) := by decide +kernel
theorem dX4_steadiest_18 : decode cX4_steadiest 18 = .ok (.ifCond .eq 13, 3) := by decide +kernel
theorem dX4_steadiest_21 : decode cX4_steadiest 21 = .ok (.iload 4, 2) := by decide +kernel
theorem dX4_steadiest_23 : decode cX4_steadiest 23 = .ok (.iconst 0, 1) := by decide +kernel
theorem dX4_steadiest_24 : decode cX4_steadiest 24 = .ok (.iconst 1, 1) := by decide +kernel
theorem dX4_steadiest_25 : decode cX4_steadiest 25 = .ok (.invokestatic 59, 3) := by decide +kernel
theorem dX4_steadiest_28 : decode cX4_steadiest 28 = .ok (.ifCond .ne 5, 3) := by decide +kernel
theorem dX4_steadiest_31 : decode cX4_steadiest 31 = .ok (.iconst (-1), 1) := by decide +kernel
theorem dX4_steadiest_32 : decode cX4_steadiest 32 = .ok (.ireturn, 1) := by decide +kernel
theorem dX4_steadiest_33 : decode cX4_steadiest 33 = .ok (.sipush 301, 3) := by decide +kernel
theorem dX4_steadiest_36 : decode cX4_steadiest 36 = .ok (.istore 5, 2) := by decide +kernel
theorem dX4_steadiest_38 : decode cX4_steadiest 38 = .ok (.getstatic 130, 3) := by decide +kernel
theorem dX4_steadiest_41 : decode cX4_steadiest 41 = .ok (.iload_n 1, 1) := by decide +kernel
theorem dX4_steadiest_42 : decode cX4_steadiest 42 = .ok (.iaload, 1) := by decide +kernel
theorem dX4_steadiest_43 : decode cX4_steadiest 43 = .ok (.istore 6, 2) := by decide +kernel
theorem dX4_steadiest_45 : decode cX4_steadiest 45 = .ok (.getstatic 130, 3) := by decide +kernel
theorem dX4_steadiest_48 : decode cX4_steadiest 48 = .ok (.iload_n 1, 1) := by decide +kernel
theorem dX4_steadiest_49 : decode cX4_steadiest 49 = .ok (.iaload, 1) := by decide +kernel
theorem dX4_steadiest_50 : decode cX4_steadiest 50 = .ok (.istore 7, 2) := by decide +kernel
theorem dX4_steadiest_52 : decode cX4_steadiest 52 = .ok (.iload 7, 2) := by decide +kernel
theorem dX4_steadiest_54 : decode cX4_steadiest 54 = .ok (.getstatic 133, 3) := by decide +kernel
theorem dX4_steadiest_57 : decode cX4_steadiest 57 = .ok (.iload_n 1, 1) := by decide +kernel
theorem dX4_steadiest_58 : decode cX4_steadiest 58 = .ok (.iaload, 1) := by decide +kernel
theorem dX4_steadiest_59 : decode cX4_steadiest 59 = .ok (.if_icmp .gt 44, 3) := by decide +kernel
theorem dX4_steadiest_62 : decode cX4_steadiest 62 = .ok (.aload_n 0, 1) := by decide +kernel
theorem dX4_steadiest_63 : decode cX4_steadiest 63 = .ok (.iload_n 1, 1) := by decide +kernel
theorem dX4_steadiest_64 : decode cX4_steadiest 64 = .ok (.iload_n 2, 1) := by decide +kernel
theorem dX4_steadiest_65 : decode cX4_steadiest 65 = .ok (.iload 7, 2) := by decide +kernel
theorem dX4_steadiest_67 : decode cX4_steadiest 67 = .ok (.invokevirtual 193, 3) := by decide +kernel
theorem dX4_steadiest_70 : decode cX4_steadiest 70 = .ok (.aload_n 0, 1) := by decide +kernel
theorem dX4_steadiest_71 : decode cX4_steadiest 71 = .ok (.getfield 16, 3) := by decide +kernel
theorem dX4_steadiest_74 : decode cX4_steadiest 74 = .ok (.iload_n 3, 1) := by decide +kernel
theorem dX4_steadiest_75 : decode cX4_steadiest 75 = .ok (.iload 5, 2) := by decide +kernel
theorem dX4_steadiest_77 : decode cX4_steadiest 77 = .ok (.invokevirtual 160, 3) := by decide +kernel
theorem dX4_steadiest_80 : decode cX4_steadiest 80 = .ok (.istore 8, 2) := by decide +kernel
theorem dX4_steadiest_82 : decode cX4_steadiest 82 = .ok (.iload 8, 2) := by decide +kernel
theorem dX4_steadiest_84 : decode cX4_steadiest 84 = .ok (.iload 5, 2) := by decide +kernel
theorem dX4_steadiest_86 : decode cX4_steadiest 86 = .ok (.if_icmp .ge 11, 3) := by decide +kernel
theorem dX4_steadiest_89 : decode cX4_steadiest 89 = .ok (.iload 8, 2) := by decide +kernel
theorem dX4_steadiest_91 : decode cX4_steadiest 91 = .ok (.istore 5, 2) := by decide +kernel
theorem dX4_steadiest_93 : decode cX4_steadiest 93 = .ok (.iload 7, 2) := by decide +kernel
theorem dX4_steadiest_95 : decode cX4_steadiest 95 = .ok (.istore 6, 2) := by decide +kernel
theorem dX4_steadiest_97 : decode cX4_steadiest 97 = .ok (.iinc 7 1, 3) := by decide +kernel
theorem dX4_steadiest_100 : decode cX4_steadiest 100 = .ok (.goto (-48), 3) := by decide +kernel
theorem dX4_steadiest_103 : decode cX4_steadiest 103 = .ok (.iload 4, 2) := by decide +kernel
theorem dX4_steadiest_105 : decode cX4_steadiest 105 = .ok (.ifCond .ne 8, 3) := by decide +kernel
theorem dX4_steadiest_108 : decode cX4_steadiest 108 = .ok (.iload 6, 2) := by decide +kernel
theorem dX4_steadiest_110 : decode cX4_steadiest 110 = .ok (.goto 5, 3) := by decide +kernel
theorem dX4_steadiest_113 : decode cX4_steadiest 113 = .ok (.iload 5, 2) := by decide +kernel
theorem dX4_steadiest_115 : decode cX4_steadiest 115 = .ok (.ireturn, 1) := by decide +kernel
theorem dX4_tryWith_0 : decode cX4_tryWith 0 = .ok (.aload_n 0, 1) := by decide +kernel
theorem dX4_tryWith_1 : decode cX4_tryWith 1 = .ok (.getfield 16, 3) := by decide +kernel
theorem dX4_tryWith_4 : decode cX4_tryWith 4 = .ok (.aload_n 0, 1) := by decide +kernel
theorem dX4_tryWith_5 : decode cX4_tryWith 5 = .ok (.getfield 12, 3) := by decide +kernel
theorem dX4_tryWith_8 : decode cX4_tryWith 8 = .ok (.invokevirtual 80, 3) := by decide +kernel
theorem dX4_tryWith_11 : decode cX4_tryWith 11 = .ok (.aload_n 0, 1) := by decide +kernel
theorem dX4_tryWith_12 : decode cX4_tryWith 12 = .ok (.getfield 16, 3) := by decide +kernel
theorem dX4_tryWith_15 : decode cX4_tryWith 15 = .ok (.iload_n 1, 1) := by decide +kernel
theorem dX4_tryWith_16 : decode cX4_tryWith 16 = .ok (.invokevirtual 109, 3) := by decide +kernel
theorem dX4_tryWith_19 : decode cX4_tryWith 19 = .ok (.iload_n 2, 1) := by decide +kernel
theorem dX4_tryWith_20 : decode cX4_tryWith 20 = .ok (.iload_n 3, 1) := by decide +kernel
theorem dX4_tryWith_21 : decode cX4_tryWith 21 = .ok (.iastore, 1) := by decide +kernel
theorem dX4_tryWith_22 : decode cX4_tryWith 22 = .ok (.return_, 1) := by decide +kernel
theorem dX4_luck_0 : decode cX4_luck 0 = .ok (.iload_n 1, 1) := by decide +kernel
theorem dX4_luck_1 : decode cX4_luck 1 = .ok (.iconst 0, 1) := by decide +kernel
theorem dX4_luck_2 : decode cX4_luck 2 = .ok (.bipush 10, 2) := by decide +kernel
theorem dX4_luck_4 : decode cX4_luck 4 = .ok (.invokestatic 59, 3) := by decide +kernel
theorem dX4_luck_7 : decode cX4_luck 7 = .ok (.ifCond .eq 34, 3) := by decide +kernel
theorem dX4_luck_10 : decode cX4_luck 10 = .ok (.iload_n 2, 1) := by decide +kernel
theorem dX4_luck_11 : decode cX4_luck 11 = .ok (.iconst 0, 1) := by decide +kernel
theorem dX4_luck_12 : decode cX4_luck 12 = .ok (.sipush 300, 3) := by decide +kernel
theorem dX4_luck_15 : decode cX4_luck 15 = .ok (.invokestatic 59, 3) := by decide +kernel
theorem dX4_luck_18 : decode cX4_luck 18 = .ok (.ifCond .eq 23, 3) := by decide +kernel
theorem dX4_luck_21 : decode cX4_luck 21 = .ok (.iload_n 3, 1) := by decide +kernel
theorem dX4_luck_22 : decode cX4_luck 22 = .ok (.iconst 0, 1) := by decide +kernel
theorem dX4_luck_23 : decode cX4_luck 23 = .ok (.bipush 8, 2) := by decide +kernel
theorem dX4_luck_25 : decode cX4_luck 25 = .ok (.invokestatic 59, 3) := by decide +kernel
theorem dX4_luck_28 : decode cX4_luck 28 = .ok (.ifCond .eq 13, 3) := by decide +kernel
theorem dX4_luck_31 : decode cX4_luck 31 = .ok (.iload 4, 2) := by decide +kernel
theorem dX4_luck_33 : decode cX4_luck 33 = .ok (.iconst 0, 1) := by decide +kernel
theorem dX4_luck_34 : decode cX4_luck 34 = .ok (.iconst 1, 1) := by decide +kernel
theorem dX4_luck_35 : decode cX4_luck 35 = .ok (.invokestatic 59, 3) := by decide +kernel
theorem dX4_luck_38 : decode cX4_luck 38 = .ok (.ifCond .ne 7, 3) := by decide +kernel
theorem dX4_luck_41 : decode cX4_luck 41 = .ok (.ldc2_w 197, 3) := by decide +kernel
theorem dX4_luck_44 : decode cX4_luck 44 = .ok (.lreturn, 1) := by decide +kernel
theorem dX4_luck_45 : decode cX4_luck 45 = .ok (.aload_n 0, 1) := by decide +kernel
theorem dX4_luck_46 : decode cX4_luck 46 = .ok (.getfield 12, 3) := by decide +kernel
theorem dX4_luck_49 : decode cX4_luck 49 = .ok (.getfield 87, 3) := by decide +kernel
theorem dX4_luck_52 : decode cX4_luck 52 = .ok (.ifCond .ne 7, 3) := by decide +kernel
theorem dX4_luck_55 : decode cX4_luck 55 = .ok (.ldc2_w 199, 3) := by decide +kernel
theorem dX4_luck_58 : decode cX4_luck 58 = .ok (.lreturn, 1) := by decide +kernel
theorem dX4_luck_59 : decode cX4_luck 59 = .ok (.lconst 0, 1) := by decide +kernel
theorem dX4_luck_60 : decode cX4_luck 60 = .ok (.lstore 5, 2) := by decide +kernel
theorem dX4_luck_62 : decode cX4_luck 62 = .ok (.iconst 0, 1) := by decide +kernel
theorem dX4_luck_63 : decode cX4_luck 63 = .ok (.istore 7, 2) := by decide +kernel
theorem dX4_luck_65 : decode cX4_luck 65 = .ok (.iload 7, 2) := by decide +kernel
theorem dX4_luck_67 : decode cX4_luck 67 = .ok (.iconst 1, 1) := by decide +kernel
theorem dX4_luck_68 : decode cX4_luck 68 = .ok (.iload_n 3, 1) := by decide +kernel
theorem dX4_luck_69 : decode cX4_luck 69 = .ok (.ishl, 1) := by decide +kernel
theorem dX4_luck_70 : decode cX4_luck 70 = .ok (.if_icmp .ge 39, 3) := by decide +kernel
theorem dX4_luck_73 : decode cX4_luck 73 = .ok (.aload_n 0, 1) := by decide +kernel
theorem dX4_luck_74 : decode cX4_luck 74 = .ok (.iload 7, 2) := by decide +kernel
theorem dX4_luck_76 : decode cX4_luck 76 = .ok (.iload_n 3, 1) := by decide +kernel
theorem dX4_luck_77 : decode cX4_luck 77 = .ok (.invokevirtual 201, 3) := by decide +kernel
theorem dX4_luck_80 : decode cX4_luck 80 = .ok (.aload_n 0, 1) := by decide +kernel
theorem dX4_luck_81 : decode cX4_luck 81 = .ok (.getfield 16, 3) := by decide +kernel
theorem dX4_luck_84 : decode cX4_luck 84 = .ok (.invokevirtual 103, 3) := by decide +kernel
theorem dX4_luck_87 : decode cX4_luck 87 = .ok (.iload_n 2, 1) := by decide +kernel
theorem dX4_luck_88 : decode cX4_luck 88 = .ok (.if_icmp .lt 15, 3) := by decide +kernel
theorem dX4_luck_91 : decode cX4_luck 91 = .ok (.lload 5, 2) := by decide +kernel
theorem dX4_luck_93 : decode cX4_luck 93 = .ok (.iload 7, 2) := by decide +kernel
theorem dX4_luck_95 : decode cX4_luck 95 = .ok (.iload_n 1, 1) := by decide +kernel
theorem dX4_luck_96 : decode cX4_luck 96 = .ok (.iload_n 3, 1) := by decide +kernel
theorem dX4_luck_97 : decode cX4_luck 97 = .ok (.invokestatic 204, 3) := by decide +kernel
theorem dX4_luck_100 : decode cX4_luck 100 = .ok (.ladd, 1) := by decide +kernel
theorem dX4_luck_101 : decode cX4_luck 101 = .ok (.lstore 5, 2) := by decide +kernel
theorem dX4_luck_103 : decode cX4_luck 103 = .ok (.iinc 7 1, 3) := by decide +kernel
theorem dX4_luck_106 : decode cX4_luck 106 = .ok (.goto (-41), 3) := by decide +kernel
theorem dX4_luck_109 : decode cX4_luck 109 = .ok (.lload 5, 2) := by decide +kernel
theorem dX4_luck_111 : decode cX4_luck 111 = .ok (.bipush 10, 2) := by decide +kernel
theorem dX4_luck_113 : decode cX4_luck 113 = .ok (.iload_n 3, 1) := by decide +kernel
theorem dX4_luck_114 : decode cX4_luck 114 = .ok (.invokestatic 208, 3) := by decide +kernel
theorem dX4_luck_117 : decode cX4_luck 117 = .ok (.iload 4, 2) := by decide +kernel
theorem dX4_luck_119 : decode cX4_luck 119 = .ok (.invokestatic 212, 3) := by decide +kernel
theorem dX4_luck_122 : decode cX4_luck 122 = .ok (.lreturn, 1) := by decide +kernel
theorem dX4_mean_0 : decode cX4_mean 0 = .ok (.iload_n 1, 1) := by decide +kernel
theorem dX4_mean_1 : decode cX4_mean 1 = .ok (.iconst 0, 1) := by decide +kernel
theorem dX4_mean_2 : decode cX4_mean 2 = .ok (.bipush 10, 2) := by decide +kernel
theorem dX4_mean_4 : decode cX4_mean 4 = .ok (.invokestatic 59, 3) := by decide +kernel
theorem dX4_mean_7 : decode cX4_mean 7 = .ok (.ifCond .eq 22, 3) := by decide +kernel
theorem dX4_mean_10 : decode cX4_mean 10 = .ok (.iload_n 2, 1) := by decide +kernel
theorem dX4_mean_11 : decode cX4_mean 11 = .ok (.iconst 0, 1) := by decide +kernel
theorem dX4_mean_12 : decode cX4_mean 12 = .ok (.bipush 8, 2) := by decide +kernel
theorem dX4_mean_14 : decode cX4_mean 14 = .ok (.invokestatic 59, 3) := by decide +kernel
theorem dX4_mean_17 : decode cX4_mean 17 = .ok (.ifCond .eq 12, 3) := by decide +kernel
theorem dX4_mean_20 : decode cX4_mean 20 = .ok (.iload_n 3, 1) := by decide +kernel
theorem dX4_mean_21 : decode cX4_mean 21 = .ok (.iconst 0, 1) := by decide +kernel
theorem dX4_mean_22 : decode cX4_mean 22 = .ok (.iconst 1, 1) := by decide +kernel
theorem dX4_mean_23 : decode cX4_mean 23 = .ok (.invokestatic 59, 3) := by decide +kernel
theorem dX4_mean_26 : decode cX4_mean 26 = .ok (.ifCond .ne 7, 3) := by decide +kernel
theorem dX4_mean_29 : decode cX4_mean 29 = .ok (.ldc2_w 197, 3) := by decide +kernel
theorem dX4_mean_32 : decode cX4_mean 32 = .ok (.lreturn, 1) := by decide +kernel
theorem dX4_mean_33 : decode cX4_mean 33 = .ok (.lconst 0, 1) := by decide +kernel
theorem dX4_mean_34 : decode cX4_mean 34 = .ok (.lstore 4, 2) := by decide +kernel
theorem dX4_mean_36 : decode cX4_mean 36 = .ok (.iconst 0, 1) := by decide +kernel
theorem dX4_mean_37 : decode cX4_mean 37 = .ok (.istore 6, 2) := by decide +kernel
theorem dX4_mean_39 : decode cX4_mean 39 = .ok (.iload 6, 2) := by decide +kernel
theorem dX4_mean_41 : decode cX4_mean 41 = .ok (.iconst 1, 1) := by decide +kernel
theorem dX4_mean_42 : decode cX4_mean 42 = .ok (.iload_n 2, 1) := by decide +kernel
theorem dX4_mean_43 : decode cX4_mean 43 = .ok (.ishl, 1) := by decide +kernel
theorem dX4_mean_44 : decode cX4_mean 44 = .ok (.if_icmp .ge 48, 3) := by decide +kernel
theorem dX4_mean_47 : decode cX4_mean 47 = .ok (.aload_n 0, 1) := by decide +kernel
theorem dX4_mean_48 : decode cX4_mean 48 = .ok (.iload 6, 2) := by decide +kernel
theorem dX4_mean_50 : decode cX4_mean 50 = .ok (.iload_n 2, 1) := by decide +kernel
theorem dX4_mean_51 : decode cX4_mean 51 = .ok (.invokevirtual 201, 3) := by decide +kernel
theorem dX4_mean_54 : decode cX4_mean 54 = .ok (.lload 4, 2) := by decide +kernel
theorem dX4_mean_56 : decode cX4_mean 56 = .ok (.iload 6, 2) := by decide +kernel
theorem dX4_mean_58 : decode cX4_mean 58 = .ok (.iload_n 1, 1) := by decide +kernel
theorem dX4_mean_59 : decode cX4_mean 59 = .ok (.iload_n 2, 1) := by decide +kernel
theorem dX4_mean_60 : decode cX4_mean 60 = .ok (.invokestatic 204, 3) := by decide +kernel
theorem dX4_mean_63 : decode cX4_mean 63 = .ok (.aload_n 0, 1) := by decide +kernel
theorem dX4_mean_64 : decode cX4_mean 64 = .ok (.getfield 16, 3) := by decide +kernel
theorem dX4_mean_67 : decode cX4_mean 67 = .ok (.invokevirtual 103, 3) := by decide +kernel
theorem dX4_mean_70 : decode cX4_mean 70 = .ok (.aload_n 0, 1) := by decide +kernel
theorem dX4_mean_71 : decode cX4_mean 71 = .ok (.getfield 12, 3) := by decide +kernel
theorem dX4_mean_74 : decode cX4_mean 74 = .ok (.invokevirtual 103, 3) := by decide +kernel
theorem dX4_mean_77 : decode cX4_mean 77 = .ok (.isub, 1) := by decide +kernel
theorem dX4_mean_78 : decode cX4_mean 78 = .ok (.invokestatic 216, 3) := by decide +kernel
theorem dX4_mean_81 : decode cX4_mean 81 = .ok (.i2l, 1) := by decide +kernel
theorem dX4_mean_82 : decode cX4_mean 82 = .ok (.lmul, 1) := by decide +kernel
theorem dX4_mean_83 : decode cX4_mean 83 = .ok (.ladd, 1) := by decide +kernel
theorem dX4_mean_84 : decode cX4_mean 84 = .ok (.lstore 4, 2) := by decide +kernel
theorem dX4_mean_86 : decode cX4_mean 86 = .ok (.iinc 6 1, 3) := by decide +kernel
theorem dX4_mean_89 : decode cX4_mean 89 = .ok (.goto (-50), 3) := by decide +kernel
theorem dX4_mean_92 : decode cX4_mean 92 = .ok (.lload 4, 2) := by decide +kernel
theorem dX4_mean_94 : decode cX4_mean 94 = .ok (.bipush 10, 2) := by decide +kernel
theorem dX4_mean_96 : decode cX4_mean 96 = .ok (.iload_n 2, 1) := by decide +kernel
theorem dX4_mean_97 : decode cX4_mean 97 = .ok (.invokestatic 208, 3) := by decide +kernel
theorem dX4_mean_100 : decode cX4_mean 100 = .ok (.iload_n 3, 1) := by decide +kernel
theorem dX4_mean_101 : decode cX4_mean 101 = .ok (.invokestatic 212, 3) := by decide +kernel
theorem dX4_mean_104 : decode cX4_mean 104 = .ok (.lreturn, 1) := by decide +kernel
theorem dX4_runMissing_0 : decode cX4_runMissing 0 = .ok (.aload_n 0, 1) := by decide +kernel
theorem dX4_runMissing_1 : decode cX4_runMissing 1 = .ok (.getfield 16, 3) := by decide +kernel
theorem dX4_runMissing_4 : decode cX4_runMissing 4 = .ok (.aload_n 0, 1) := by decide +kernel
theorem dX4_runMissing_5 : decode cX4_runMissing 5 = .ok (.getfield 12, 3) := by decide +kernel
theorem dX4_runMissing_8 : decode cX4_runMissing 8 = .ok (.invokevirtual 80, 3) := by decide +kernel
theorem dX4_runMissing_11 : decode cX4_runMissing 11 = .ok (.iconst 0, 1) := by decide +kernel
theorem dX4_runMissing_12 : decode cX4_runMissing 12 = .ok (.istore_n 3, 1) := by decide +kernel
theorem dX4_runMissing_13 : decode cX4_runMissing 13 = .ok (.iload_n 3, 1) := by decide +kernel
theorem dX4_runMissing_14 : decode cX4_runMissing 14 = .ok (.iload_n 2, 1) := by decide +kernel
theorem dX4_runMissing_15 : decode cX4_runMissing 15 = .ok (.if_icmp .ge 31, 3) := by decide +kernel
theorem dX4_runMissing_18 : decode cX4_runMissing 18 = .ok (.iload_n 1, 1) := by decide +kernel
theorem dX4_runMissing_19 : decode cX4_runMissing 19 = .ok (.iload_n 3, 1) := by decide +kernel
theorem dX4_runMissing_20 : decode cX4_runMissing 20 = .ok (.ishr, 1) := by decide +kernel
theorem dX4_runMissing_21 : decode cX4_runMissing 21 = .ok (.iconst 1, 1) := by decide +kernel
theorem dX4_runMissing_22 : decode cX4_runMissing 22 = .ok (.iand, 1) := by decide +kernel
theorem dX4_runMissing_23 : decode cX4_runMissing 23 = .ok (.ifCond .ne 10, 3) := by decide +kernel
theorem dX4_runMissing_26 : decode cX4_runMissing 26 = .ok (.aload_n 0, 1) := by decide +kernel
theorem dX4_runMissing_27 : decode cX4_runMissing 27 = .ok (.getfield 16, 3) := by decide +kernel
theorem dX4_runMissing_30 : decode cX4_runMissing 30 = .ok (.invokevirtual 221, 3) := by decide +kernel
theorem dX4_runMissing_33 : decode cX4_runMissing 33 = .ok (.aload_n 0, 1) := by decide +kernel
theorem dX4_runMissing_34 : decode cX4_runMissing 34 = .ok (.getfield 16, 3) := by decide +kernel
theorem dX4_runMissing_37 : decode cX4_runMissing 37 = .ok (.invokevirtual 176, 3) := by decide +kernel
theorem dX4_runMissing_40 : decode cX4_runMissing 40 = .ok (.iinc 3 1, 3) := by decide +kernel
theorem dX4_runMissing_43 : decode cX4_runMissing 43 = .ok (.goto (-30), 3) := by decide +kernel
theorem dX4_runMissing_46 : decode cX4_runMissing 46 = .ok (.return_, 1) := by decide +kernel
theorem dX4_weightOf_0 : decode cX4_weightOf 0 = .ok (.iload_n 0, 1) := by decide +kernel
theorem dX4_weightOf_1 : decode cX4_weightOf 1 = .ok (.invokestatic 148, 3) := by decide +kernel
theorem dX4_weightOf_4 : decode cX4_weightOf 4 = .ok (.istore_n 3, 1) := by decide +kernel
theorem dX4_weightOf_5 : decode cX4_weightOf 5 = .ok (.iload_n 1, 1) := by decide +kernel
theorem dX4_weightOf_6 : decode cX4_weightOf 6 = .ok (.iload_n 3, 1) := by decide +kernel
theorem dX4_weightOf_7 : decode cX4_weightOf 7 = .ok (.invokestatic 208, 3) := by decide +kernel
theorem dX4_weightOf_10 : decode cX4_weightOf 10 = .ok (.bipush 10, 2) := by decide +kernel
theorem dX4_weightOf_12 : decode cX4_weightOf 12 = .ok (.iload_n 1, 1) := by decide +kernel
theorem dX4_weightOf_13 : decode cX4_weightOf 13 = .ok (.isub, 1) := by decide +kernel
theorem dX4_weightOf_14 : decode cX4_weightOf 14 = .ok (.iload_n 2, 1) := by decide +kernel
theorem dX4_weightOf_15 : decode cX4_weightOf 15 = .ok (.iload_n 3, 1) := by decide +kernel
theorem dX4_weightOf_16 : decode cX4_weightOf 16 = .ok (.isub, 1) := by decide +kernel
theorem dX4_weightOf_17 : decode cX4_weightOf 17 = .ok (.invokestatic 208, 3) := by decide +kernel
theorem dX4_weightOf_20 : decode cX4_weightOf 20 = .ok (.lmul, 1) := by decide +kernel
theorem dX4_weightOf_21 : decode cX4_weightOf 21 = .ok (.lreturn, 1) := by decide +kernel
theorem dX4_power_0 : decode cX4_power 0 = .ok (.lconst 1, 1) := by decide +kernel
theorem dX4_power_1 : decode cX4_power 1 = .ok (.lstore_n 2, 1) := by decide +kernel
theorem dX4_power_2 : decode cX4_power 2 = .ok (.iconst 0, 1) := by decide +kernel
theorem dX4_power_3 : decode cX4_power 3 = .ok (.istore 4, 2) := by decide +kernel
theorem dX4_power_5 : decode cX4_power 5 = .ok (.iload 4, 2) := by decide +kernel
theorem dX4_power_7 : decode cX4_power 7 = .ok (.iload_n 1, 1) := by decide +kernel
theorem dX4_power_8 : decode cX4_power 8 = .ok (.if_icmp .ge 14, 3) := by decide +kernel
theorem dX4_power_11 : decode cX4_power 11 = .ok (.lload_n 2, 1) := by decide +kernel
theorem dX4_power_12 : decode cX4_power 12 = .ok (.iload_n 0, 1) := by decide +kernel
theorem dX4_power_13 : decode cX4_power 13 = .ok (.i2l, 1) := by decide +kernel
theorem dX4_power_14 : decode cX4_power 14 = .ok (.lmul, 1) := by decide +kernel
theorem dX4_power_15 : decode cX4_power 15 = .ok (.lstore_n 2, 1) := by decide +kernel
theorem dX4_power_16 : decode cX4_power 16 = .ok (.iinc 4 1, 3) := by decide +kernel
theorem dX4_power_19 : decode cX4_power 19 = .ok (.goto (-14), 3) := by decide +kernel
theorem dX4_power_22 : decode cX4_power 22 = .ok (.lload_n 2, 1) := by decide +kernel
theorem dX4_power_23 : decode cX4_power 23 = .ok (.lreturn, 1) := by decide +kernel
theorem dX4_partOfFraction_0 : decode cX4_partOfFraction 0 = .ok (.lload_n 0, 1) := by decide +kernel
theorem dX4_partOfFraction_1 : decode cX4_partOfFraction 1 = .ok (.lload_n 2, 1) := by decide +kernel
theorem dX4_partOfFraction_2 : decode cX4_partOfFraction 2 = .ok (.invokestatic 224, 3) := by decide +kernel
theorem dX4_partOfFraction_5 : decode cX4_partOfFraction 5 = .ok (.lstore 5, 2) := by decide +kernel
theorem dX4_partOfFraction_7 : decode cX4_partOfFraction 7 = .ok (.lload 5, 2) := by decide +kernel
theorem dX4_partOfFraction_9 : decode cX4_partOfFraction 9 = .ok (.lconst 0, 1) := by decide +kernel
theorem dX4_partOfFraction_10 : decode cX4_partOfFraction 10 = .ok (.lcmp, 1) := by decide +kernel
theorem dX4_partOfFraction_11 : decode cX4_partOfFraction 11 = .ok (.ifCond .gt 14, 3) := by decide +kernel
theorem dX4_partOfFraction_14 : decode cX4_partOfFraction 14 = .ok (.iload 4, 2) := by decide +kernel
theorem dX4_partOfFraction_16 : decode cX4_partOfFraction 16 = .ok (.ifCond .ne 7, 3) := by decide +kernel
theorem dX4_partOfFraction_19 : decode cX4_partOfFraction 19 = .ok (.lload_n 0, 1) := by decide +kernel
theorem dX4_partOfFraction_20 : decode cX4_partOfFraction 20 = .ok (.goto 4, 3) := by decide +kernel
theorem dX4_partOfFraction_23 : decode cX4_partOfFraction 23 = .ok (.lload_n 2, 1) := by decide +kernel
theorem dX4_partOfFraction_24 : decode cX4_partOfFraction 24 = .ok (.lreturn, 1) := by decide +kernel
theorem dX4_partOfFraction_25 : decode cX4_partOfFraction 25 = .ok (.iload 4, 2) := by decide +kernel
theorem dX4_partOfFraction_27 : decode cX4_partOfFraction 27 = .ok (.ifCond .ne 7, 3) := by decide +kernel
theorem dX4_partOfFraction_30 : decode cX4_partOfFraction 30 = .ok (.lload_n 0, 1) := by decide +kernel
theorem dX4_partOfFraction_31 : decode cX4_partOfFraction 31 = .ok (.goto 4, 3) := by decide +kernel
theorem dX4_partOfFraction_34 : decode cX4_partOfFraction 34 = .ok (.lload_n 2, 1) := by decide +kernel
theorem dX4_partOfFraction_35 : decode cX4_partOfFraction 35 = .ok (.lload 5, 2) := by decide +kernel
theorem dX4_partOfFraction_37 : decode cX4_partOfFraction 37 = .ok (.ldiv, 1) := by decide +kernel
theorem dX4_partOfFraction_38 : decode cX4_partOfFraction 38 = .ok (.lreturn, 1) := by decide +kernel
theorem dX4_commonDivisor_0 : decode cX4_commonDivisor 0 = .ok (.lload_n 0, 1) := by decide +kernel
theorem dX4_commonDivisor_1 : decode cX4_commonDivisor 1 = .ok (.lstore 4, 2) := by decide +kernel
theorem dX4_commonDivisor_3 : decode cX4_commonDivisor 3 = .ok (.lload_n 2, 1) := by decide +kernel
theorem dX4_commonDivisor_4 : decode cX4_commonDivisor 4 = .ok (.lstore 6, 2) := by decide +kernel
theorem dX4_commonDivisor_6 : decode cX4_commonDivisor 6 = .ok (.iconst 0, 1) := by decide +kernel
theorem dX4_commonDivisor_7 : decode cX4_commonDivisor 7 = .ok (.istore 8, 2) := by decide +kernel
theorem dX4_commonDivisor_9 : decode cX4_commonDivisor 9 = .ok (.iload 8, 2) := by decide +kernel
theorem dX4_commonDivisor_11 : decode cX4_commonDivisor 11 = .ok (.bipush 100, 2) := by decide +kernel
theorem dX4_commonDivisor_13 : decode cX4_commonDivisor 13 = .ok (.if_icmp .ge 31, 3) := by decide +kernel
theorem dX4_commonDivisor_16 : decode cX4_commonDivisor 16 = .ok (.lload 6, 2) := by decide +kernel
theorem dX4_commonDivisor_18 : decode cX4_commonDivisor 18 = .ok (.lconst 0, 1) := by decide +kernel
theorem dX4_commonDivisor_19 : decode cX4_commonDivisor 19 = .ok (.lcmp, 1) := by decide +kernel
theorem dX4_commonDivisor_20 : decode cX4_commonDivisor 20 = .ok (.ifCond .eq 24, 3) := by decide +kernel
theorem dX4_commonDivisor_23 : decode cX4_commonDivisor 23 = .ok (.lload 4, 2) := by decide +kernel
theorem dX4_commonDivisor_25 : decode cX4_commonDivisor 25 = .ok (.lload 6, 2) := by decide +kernel
theorem dX4_commonDivisor_27 : decode cX4_commonDivisor 27 = .ok (.lrem, 1) := by decide +kernel
theorem dX4_commonDivisor_28 : decode cX4_commonDivisor 28 = .ok (.lstore 9, 2) := by decide +kernel
theorem dX4_commonDivisor_30 : decode cX4_commonDivisor 30 = .ok (.lload 6, 2) := by decide +kernel
theorem dX4_commonDivisor_32 : decode cX4_commonDivisor 32 = .ok (.lstore 4, 2) := by decide +kernel
theorem dX4_commonDivisor_34 : decode cX4_commonDivisor 34 = .ok (.lload 9, 2) := by decide +kernel
theorem dX4_commonDivisor_36 : decode cX4_commonDivisor 36 = .ok (.lstore 6, 2) := by decide +kernel
theorem dX4_commonDivisor_38 : decode cX4_commonDivisor 38 = .ok (.iinc 8 1, 3) := by decide +kernel
theorem dX4_commonDivisor_41 : decode cX4_commonDivisor 41 = .ok (.goto (-32), 3) := by decide +kernel
theorem dX4_commonDivisor_44 : decode cX4_commonDivisor 44 = .ok (.lload 4, 2) := by decide +kernel
theorem dX4_commonDivisor_46 : decode cX4_commonDivisor 46 = .ok (.lreturn, 1) := by decide +kernel
theorem dX4_see_0 : decode cX4_see 0 = .ok (.iload_n 1, 1) := by decide +kernel
theorem dX4_see_1 : decode cX4_see 1 = .ok (.iconst 0, 1) := by decide +kernel
theorem dX4_see_2 : decode cX4_see 2 = .ok (.bipush 40, 2) := by decide +kernel
theorem dX4_see_4 : decode cX4_see 4 = .ok (.invokestatic 59, 3) := by decide +kernel
theorem dX4_see_7 : decode cX4_see 7 = .ok (.ifCond .eq 25, 3) := by decide +kernel
theorem dX4_see_10 : decode cX4_see 10 = .ok (.aload_n 0, 1) := by decide +kernel
theorem dX4_see_11 : decode cX4_see 11 = .ok (.getfield 12, 3) := by decide +kernel
theorem dX4_see_14 : decode cX4_see 14 = .ok (.iload_n 2, 1) := by decide +kernel
theorem dX4_see_15 : decode cX4_see 15 = .ok (.invokevirtual 106, 3) := by decide +kernel
theorem dX4_see_18 : decode cX4_see 18 = .ok (.ifCond .eq 14, 3) := by decide +kernel
theorem dX4_see_21 : decode cX4_see 21 = .ok (.iload_n 3, 1) := by decide +kernel
theorem dX4_see_22 : decode cX4_see 22 = .ok (.iconst 0, 1) := by decide +kernel
theorem dX4_see_23 : decode cX4_see 23 = .ok (.sipush 300, 3) := by decide +kernel
theorem dX4_see_26 : decode cX4_see 26 = .ok (.invokestatic 59, 3) := by decide +kernel
theorem dX4_see_29 : decode cX4_see 29 = .ok (.ifCond .ne 5, 3) := by decide +kernel
theorem dX4_see_32 : decode cX4_see 32 = .ok (.iconst (-1), 1) := by decide +kernel
theorem dX4_see_33 : decode cX4_see 33 = .ok (.ireturn, 1) := by decide +kernel
theorem dX4_see_34 : decode cX4_see 34 = .ok (.aload_n 0, 1) := by decide +kernel
theorem dX4_see_35 : decode cX4_see 35 = .ok (.getfield 39, 3) := by decide +kernel
theorem dX4_see_38 : decode cX4_see 38 = .ok (.iload_n 1, 1) := by decide +kernel
theorem dX4_see_39 : decode cX4_see 39 = .ok (.iload_n 2, 1) := by decide +kernel
theorem dX4_see_40 : decode cX4_see 40 = .ok (.iload_n 3, 1) := by decide +kernel
theorem dX4_see_41 : decode cX4_see 41 = .ok (.invokevirtual 228, 3) := by decide +kernel
theorem dX4_see_44 : decode cX4_see 44 = .ok (.ifCond .eq 13, 3) := by decide +kernel
theorem dX4_see_47 : decode cX4_see 47 = .ok (.aload_n 0, 1) := by decide +kernel
theorem dX4_see_48 : decode cX4_see 48 = .ok (.getfield 39, 3) := by decide +kernel
theorem dX4_see_51 : decode cX4_see 51 = .ok (.getfield 84, 3) := by decide +kernel
theorem dX4_see_54 : decode cX4_see 54 = .ok (.goto 5, 3) := by decide +kernel
theorem dX4_see_57 : decode cX4_see 57 = .ok (.bipush (-3), 2) := by decide +kernel
theorem dX4_see_59 : decode cX4_see 59 = .ok (.ireturn, 1) := by decide +kernel
theorem dX4_forget_0 : decode cX4_forget 0 = .ok (.aload_n 0, 1) := by decide +kernel
theorem dX4_forget_1 : decode cX4_forget 1 = .ok (.getfield 39, 3) := by decide +kernel
theorem dX4_forget_4 : decode cX4_forget 4 = .ok (.getfield 84, 3) := by decide +kernel
theorem dX4_forget_7 : decode cX4_forget 7 = .ok (.istore_n 2, 1) := by decide +kernel
theorem dX4_forget_8 : decode cX4_forget 8 = .ok (.iload_n 1, 1) := by decide +kernel
theorem dX4_forget_9 : decode cX4_forget 9 = .ok (.iconst 0, 1) := by decide +kernel
theorem dX4_forget_10 : decode cX4_forget 10 = .ok (.iload_n 2, 1) := by decide +kernel
theorem dX4_forget_11 : decode cX4_forget 11 = .ok (.invokestatic 59, 3) := by decide +kernel
theorem dX4_forget_14 : decode cX4_forget 14 = .ok (.ifCond .ne 5, 3) := by decide +kernel
theorem dX4_forget_17 : decode cX4_forget 17 = .ok (.iconst (-1), 1) := by decide +kernel
theorem dX4_forget_18 : decode cX4_forget 18 = .ok (.ireturn, 1) := by decide +kernel
theorem dX4_forget_19 : decode cX4_forget 19 = .ok (.aload_n 0, 1) := by decide +kernel
theorem dX4_forget_20 : decode cX4_forget 20 = .ok (.getfield 39, 3) := by decide +kernel
theorem dX4_forget_23 : decode cX4_forget 23 = .ok (.iload_n 1, 1) := by decide +kernel
theorem dX4_forget_24 : decode cX4_forget 24 = .ok (.putfield 84, 3) := by decide +kernel
theorem dX4_forget_27 : decode cX4_forget 27 = .ok (.iload_n 2, 1) := by decide +kernel
theorem dX4_forget_28 : decode cX4_forget 28 = .ok (.ireturn, 1) := by decide +kernel
theorem dX4_kinds_0 : decode cX4_kinds 0 = .ok (.aload_n 0, 1) := by decide +kernel
theorem dX4_kinds_1 : decode cX4_kinds 1 = .ok (.getfield 12, 3) := by decide +kernel
theorem dX4_kinds_4 : decode cX4_kinds 4 = .ok (.iload_n 1, 1) := by decide +kernel
theorem dX4_kinds_5 : decode cX4_kinds 5 = .ok (.invokevirtual 106, 3) := by decide +kernel
theorem dX4_kinds_8 : decode cX4_kinds 8 = .ok (.ifCond .eq 12, 3) := by decide +kernel
theorem dX4_kinds_11 : decode cX4_kinds 11 = .ok (.aload_n 0, 1) := by decide +kernel
theorem dX4_kinds_12 : decode cX4_kinds 12 = .ok (.iconst 0, 1) := by decide +kernel
theorem dX4_kinds_13 : decode cX4_kinds 13 = .ok (.iload_n 1, 1) := by decide +kernel
theorem dX4_kinds_14 : decode cX4_kinds 14 = .ok (.invokevirtual 231, 3) := by decide +kernel
theorem dX4_kinds_17 : decode cX4_kinds 17 = .ok (.goto 4, 3) := by decide +kernel
theorem dX4_kinds_20 : decode cX4_kinds 20 = .ok (.iconst (-1), 1) := by decide +kernel
theorem dX4_kinds_21 : decode cX4_kinds 21 = .ok (.ireturn, 1) := by decide +kernel
theorem dX4_stiffs_0 : decode cX4_stiffs 0 = .ok (.aload_n 0, 1) := by decide +kernel
theorem dX4_stiffs_1 : decode cX4_stiffs 1 = .ok (.getfield 12, 3) := by decide +kernel
theorem dX4_stiffs_4 : decode cX4_stiffs 4 = .ok (.iload_n 1, 1) := by decide +kernel
theorem dX4_stiffs_5 : decode cX4_stiffs 5 = .ok (.invokevirtual 106, 3) := by decide +kernel
theorem dX4_stiffs_8 : decode cX4_stiffs 8 = .ok (.ifCond .eq 12, 3) := by decide +kernel
theorem dX4_stiffs_11 : decode cX4_stiffs 11 = .ok (.aload_n 0, 1) := by decide +kernel
theorem dX4_stiffs_12 : decode cX4_stiffs 12 = .ok (.iconst 2, 1) := by decide +kernel
theorem dX4_stiffs_13 : decode cX4_stiffs 13 = .ok (.iload_n 1, 1) := by decide +kernel
theorem dX4_stiffs_14 : decode cX4_stiffs 14 = .ok (.invokevirtual 231, 3) := by decide +kernel
theorem dX4_stiffs_17 : decode cX4_stiffs 17 = .ok (.goto 4, 3) := by decide +kernel
theorem dX4_stiffs_20 : decode cX4_stiffs 20 = .ok (.iconst (-1), 1) := by decide +kernel
theorem dX4_stiffs_21 : decode cX4_stiffs 21 = .ok (.ireturn, 1) := by decide +kernel
theorem dX4_ask_0 : decode cX4_ask 0 = .ok (.aload_n 0, 1) := by decide +kernel
theorem dX4_ask_1 : decode cX4_ask 1 = .ok (.getfield 12, 3) := by decide +kernel
theorem dX4_ask_4 : decode cX4_ask 4 = .ok (.iload_n 1, 1) := by decide +kernel
theorem dX4_ask_5 : decode cX4_ask 5 = .ok (.invokevirtual 106, 3) := by decide +kernel
theorem dX4_ask_8 : decode cX4_ask 8 = .ok (.ifCond .eq 12, 3) := by decide +kernel
theorem dX4_ask_11 : decode cX4_ask 11 = .ok (.iload_n 2, 1) := by decide +kernel
theorem dX4_ask_12 : decode cX4_ask 12 = .ok (.iconst 0, 1) := by decide +kernel
theorem dX4_ask_13 : decode cX4_ask 13 = .ok (.iconst 1, 1) := by decide +kernel
theorem dX4_ask_14 : decode cX4_ask 14 = .ok (.invokestatic 59, 3) := by decide +kernel
theorem dX4_ask_17 : decode cX4_ask 17 = .ok (.ifCond .ne 5, 3) := by decide +kernel
theorem dX4_ask_20 : decode cX4_ask 20 = .ok (.iconst (-1), 1) := by decide +kernel
theorem dX4_ask_21 : decode cX4_ask 21 = .ok (.ireturn, 1) := by decide +kernel
theorem dX4_ask_22 : decode cX4_ask 22 = .ok (.aload_n 0, 1) := by decide +kernel
theorem dX4_ask_23 : decode cX4_ask 23 = .ok (.iconst 2, 1) := by decide +kernel
theorem dX4_ask_24 : decode cX4_ask 24 = .ok (.iload_n 1, 1) := by decide +kernel
theorem dX4_ask_25 : decode cX4_ask 25 = .ok (.invokevirtual 231, 3) := by decide +kernel
theorem dX4_ask_28 : decode cX4_ask 28 = .ok (.istore_n 3, 1) := by decide +kernel
theorem dX4_ask_29 : decode cX4_ask 29 = .ok (.aload_n 0, 1) := by decide +kernel
theorem dX4_ask_30 : decode cX4_ask 30 = .ok (.iload_n 1, 1) := by decide +kernel
theorem dX4_ask_31 : decode cX4_ask 31 = .ok (.iload_n 3, 1) := by decide +kernel
theorem dX4_ask_32 : decode cX4_ask 32 = .ok (.invokevirtual 234, 3) := by decide +kernel
theorem dX4_ask_35 : decode cX4_ask 35 = .ok (.iload_n 3, 1) := by decide +kernel
theorem dX4_ask_36 : decode cX4_ask 36 = .ok (.invokestatic 148, 3) := by decide +kernel
theorem dX4_ask_39 : decode cX4_ask 39 = .ok (.istore 4, 2) := by decide +kernel
theorem dX4_ask_41 : decode cX4_ask 41 = .ok (.bipush (-4), 2) := by decide +kernel
theorem dX4_ask_43 : decode cX4_ask 43 = .ok (.istore 5, 2) := by decide +kernel
theorem dX4_ask_45 : decode cX4_ask 45 = .ok (.iconst 0, 1) := by decide +kernel
theorem dX4_ask_46 : decode cX4_ask 46 = .ok (.istore 6, 2) := by decide +kernel
theorem dX4_ask_48 : decode cX4_ask 48 = .ok (.iload 6, 2) := by decide +kernel
theorem dX4_ask_50 : decode cX4_ask 50 = .ok (.bipush 40, 2) := by decide +kernel
theorem dX4_ask_52 : decode cX4_ask 52 = .ok (.if_icmp .gt 33, 3) := by decide +kernel
theorem dX4_ask_55 : decode cX4_ask 55 = .ok (.aload_n 0, 1) := by decide +kernel
theorem dX4_ask_56 : decode cX4_ask 56 = .ok (.iload_n 3, 1) := by decide +kernel
theorem dX4_ask_57 : decode cX4_ask 57 = .ok (.iload 6, 2) := by decide +kernel
theorem dX4_ask_59 : decode cX4_ask 59 = .ok (.invokevirtual 237, 3) := by decide +kernel
theorem dX4_ask_62 : decode cX4_ask 62 = .ok (.istore 7, 2) := by decide +kernel
theorem dX4_ask_64 : decode cX4_ask 64 = .ok (.iload 7, 2) := by decide +kernel
theorem dX4_ask_66 : decode cX4_ask 66 = .ok (.iload 4, 2) := by decide +kernel
theorem dX4_ask_68 : decode cX4_ask 68 = .ok (.if_icmp .ge 11, 3) := by decide +kernel
theorem dX4_ask_71 : decode cX4_ask 71 = .ok (.iload 7, 2) := by decide +kernel
theorem dX4_ask_73 : decode cX4_ask 73 = .ok (.istore 4, 2) := by decide +kernel
theorem dX4_ask_75 : decode cX4_ask 75 = .ok (.iload 6, 2) := by decide +kernel
theorem dX4_ask_77 : decode cX4_ask 77 = .ok (.istore 5, 2) := by decide +kernel
theorem dX4_ask_79 : decode cX4_ask 79 = .ok (.iinc 6 1, 3) := by decide +kernel
theorem dX4_ask_82 : decode cX4_ask 82 = .ok (.goto (-34), 3) := by decide +kernel
theorem dX4_ask_85 : decode cX4_ask 85 = .ok (.iload 5, 2) := by decide +kernel
theorem dX4_ask_87 : decode cX4_ask 87 = .ok (.bipush (-4), 2) := by decide +kernel
theorem dX4_ask_89 : decode cX4_ask 89 = .ok (.if_icmp .eq 7, 3) := by decide +kernel
theorem dX4_ask_92 : decode cX4_ask 92 = .ok (.iload_n 2, 1) := by decide +kernel
theorem dX4_ask_93 : decode cX4_ask 93 = .ok (.ifCond .ne 8, 3) := by decide +kernel
theorem dX4_ask_96 : decode cX4_ask 96 = .ok (.iload 5, 2) := by decide +kernel
theorem dX4_ask_98 : decode cX4_ask 98 = .ok (.goto 5, 3) := by decide +kernel
theorem dX4_ask_101 : decode cX4_ask 101 = .ok (.iload 4, 2) := by decide +kernel
theorem dX4_ask_103 : decode cX4_ask 103 = .ok (.ireturn, 1) := by decide +kernel
theorem dX4_asSeenBits_0 : decode cX4_asSeenBits 0 = .ok (.iconst 0, 1) := by decide +kernel
theorem dX4_asSeenBits_1 : decode cX4_asSeenBits 1 = .ok (.istore_n 3, 1) := by decide +kernel
theorem dX4_asSeenBits_2 : decode cX4_asSeenBits 2 = .ok (.getstatic 130, 3) := by decide +kernel
theorem dX4_asSeenBits_5 : decode cX4_asSeenBits 5 = .ok (.iload_n 1, 1) := by decide +kernel
theorem dX4_asSeenBits_6 : decode cX4_asSeenBits 6 = .ok (.iaload, 1) := by decide +kernel
theorem dX4_asSeenBits_7 : decode cX4_asSeenBits 7 = .ok (.istore 4, 2) := by decide +kernel
theorem dX4_asSeenBits_9 : decode cX4_asSeenBits 9 = .ok (.iload 4, 2) := by decide +kernel
theorem dX4_asSeenBits_11 : decode cX4_asSeenBits 11 = .ok (.getstatic 133, 3) := by decide +kernel
theorem dX4_asSeenBits_14 : decode cX4_asSeenBits 14 = .ok (.iload_n 1, 1) := by decide +kernel
theorem dX4_asSeenBits_15 : decode cX4_asSeenBits 15 = .ok (.iaload, 1) := by decide +kernel
theorem dX4_asSeenBits_16 : decode cX4_asSeenBits 16 = .ok (.if_icmp .gt 38, 3) := by decide +kernel
theorem dX4_asSeenBits_19 : decode cX4_asSeenBits 19 = .ok (.aload_n 0, 1) := by decide +kernel
theorem dX4_asSeenBits_20 : decode cX4_asSeenBits 20 = .ok (.iload_n 1, 1) := by decide +kernel
theorem dX4_asSeenBits_21 : decode cX4_asSeenBits 21 = .ok (.iload_n 2, 1) := by decide +kernel
theorem dX4_asSeenBits_22 : decode cX4_asSeenBits 22 = .ok (.iload 4, 2) := by decide +kernel
theorem dX4_asSeenBits_24 : decode cX4_asSeenBits 24 = .ok (.invokevirtual 193, 3) := by decide +kernel
theorem dX4_asSeenBits_27 : decode cX4_asSeenBits 27 = .ok (.aload_n 0, 1) := by decide +kernel
theorem dX4_asSeenBits_28 : decode cX4_asSeenBits 28 = .ok (.getfield 39, 3) := by decide +kernel
theorem dX4_asSeenBits_31 : decode cX4_asSeenBits 31 = .ok (.aload_n 0, 1) := by decide +kernel
theorem dX4_asSeenBits_32 : decode cX4_asSeenBits 32 = .ok (.getfield 16, 3) := by decide +kernel
theorem dX4_asSeenBits_35 : decode cX4_asSeenBits 35 = .ok (.invokevirtual 240, 3) := by decide +kernel
theorem dX4_asSeenBits_38 : decode cX4_asSeenBits 38 = .ok (.ifCond .eq 10, 3) := by decide +kernel
theorem dX4_asSeenBits_41 : decode cX4_asSeenBits 41 = .ok (.iload_n 3, 1) := by decide +kernel
theorem dX4_asSeenBits_42 : decode cX4_asSeenBits 42 = .ok (.iconst 1, 1) := by decide +kernel
theorem dX4_asSeenBits_43 : decode cX4_asSeenBits 43 = .ok (.iload 4, 2) := by decide +kernel
theorem dX4_asSeenBits_45 : decode cX4_asSeenBits 45 = .ok (.ishl, 1) := by decide +kernel
theorem dX4_asSeenBits_46 : decode cX4_asSeenBits 46 = .ok (.ior, 1) := by decide +kernel
theorem dX4_asSeenBits_47 : decode cX4_asSeenBits 47 = .ok (.istore_n 3, 1) := by decide +kernel
theorem dX4_asSeenBits_48 : decode cX4_asSeenBits 48 = .ok (.iinc 4 1, 3) := by decide +kernel
theorem dX4_asSeenBits_51 : decode cX4_asSeenBits 51 = .ok (.goto (-42), 3) := by decide +kernel
theorem dX4_asSeenBits_54 : decode cX4_asSeenBits 54 = .ok (.iload_n 3, 1) := by decide +kernel
theorem dX4_asSeenBits_55 : decode cX4_asSeenBits 55 = .ok (.ireturn, 1) := by decide +kernel
theorem dX4_traceStiffs_0 : decode cX4_traceStiffs 0 = .ok (.iconst 0, 1) := by decide +kernel
theorem dX4_traceStiffs_1 : decode cX4_traceStiffs 1 = .ok (.istore_n 3, 1) := by decide +kernel
theorem dX4_traceStiffs_2 : decode cX4_traceStiffs 2 = .ok (.iload_n 3, 1) := by decide +kernel
theorem dX4_traceStiffs_3 : decode cX4_traceStiffs 3 = .ok (.bipush 10, 2) := by decide +kernel
theorem dX4_traceStiffs_5 : decode cX4_traceStiffs 5 = .ok (.if_icmp .ge 66, 3) := by decide +kernel
theorem dX4_traceStiffs_8 : decode cX4_traceStiffs 8 = .ok (.iload_n 2, 1) := by decide +kernel
theorem dX4_traceStiffs_9 : decode cX4_traceStiffs 9 = .ok (.iload_n 3, 1) := by decide +kernel
theorem dX4_traceStiffs_10 : decode cX4_traceStiffs 10 = .ok (.ishr, 1) := by decide +kernel
theorem dX4_traceStiffs_11 : decode cX4_traceStiffs 11 = .ok (.iconst 1, 1) := by decide +kernel
theorem dX4_traceStiffs_12 : decode cX4_traceStiffs 12 = .ok (.iand, 1) := by decide +kernel
theorem dX4_traceStiffs_13 : decode cX4_traceStiffs 13 = .ok (.iconst 1, 1) := by decide +kernel
theorem dX4_traceStiffs_14 : decode cX4_traceStiffs 14 = .ok (.if_icmp .ne 51, 3) := by decide +kernel
theorem dX4_traceStiffs_17 : decode cX4_traceStiffs 17 = .ok (.aload_n 0, 1) := by decide +kernel
theorem dX4_traceStiffs_18 : decode cX4_traceStiffs 18 = .ok (.iconst 2, 1) := by decide +kernel
theorem dX4_traceStiffs_19 : decode cX4_traceStiffs 19 = .ok (.iload_n 1, 1) := by decide +kernel
theorem dX4_traceStiffs_20 : decode cX4_traceStiffs 20 = .ok (.iload_n 3, 1) := by decide +kernel
theorem dX4_traceStiffs_21 : decode cX4_traceStiffs 21 = .ok (.invokevirtual 193, 3) := by decide +kernel
theorem dX4_traceStiffs_24 : decode cX4_traceStiffs 24 = .ok (.iconst 0, 1) := by decide +kernel
theorem dX4_traceStiffs_25 : decode cX4_traceStiffs 25 = .ok (.istore 4, 2) := by decide +kernel
theorem dX4_traceStiffs_27 : decode cX4_traceStiffs 27 = .ok (.iload 4, 2) := by decide +kernel
theorem dX4_traceStiffs_29 : decode cX4_traceStiffs 29 = .ok (.bipush 40, 2) := by decide +kernel
theorem dX4_traceStiffs_31 : decode cX4_traceStiffs 31 = .ok (.if_icmp .gt 34, 3) := by decide +kernel
theorem dX4_traceStiffs_34 : decode cX4_traceStiffs 34 = .ok (.aload_n 0, 1) := by decide +kernel
theorem dX4_traceStiffs_35 : decode cX4_traceStiffs 35 = .ok (.getfield 52, 3) := by decide +kernel
theorem dX4_traceStiffs_38 : decode cX4_traceStiffs 38 = .ok (.iload_n 3, 1) := by decide +kernel
theorem dX4_traceStiffs_39 : decode cX4_traceStiffs 39 = .ok (.aaload, 1) := by decide +kernel
theorem dX4_traceStiffs_40 : decode cX4_traceStiffs 40 = .ok (.iload 4, 2) := by decide +kernel
theorem dX4_traceStiffs_42 : decode cX4_traceStiffs 42 = .ok (.aload_n 0, 1) := by decide +kernel
theorem dX4_traceStiffs_43 : decode cX4_traceStiffs 43 = .ok (.getfield 16, 3) := by decide +kernel
theorem dX4_traceStiffs_46 : decode cX4_traceStiffs 46 = .ok (.getfield 167, 3) := by decide +kernel
theorem dX4_traceStiffs_49 : decode cX4_traceStiffs 49 = .ok (.iload_n 1, 1) := by decide +kernel
theorem dX4_traceStiffs_50 : decode cX4_traceStiffs 50 = .ok (.iaload, 1) := by decide +kernel
theorem dX4_traceStiffs_51 : decode cX4_traceStiffs 51 = .ok (.iastore, 1) := by decide +kernel
theorem dX4_traceStiffs_52 : decode cX4_traceStiffs 52 = .ok (.aload_n 0, 1) := by decide +kernel
theorem dX4_traceStiffs_53 : decode cX4_traceStiffs 53 = .ok (.getfield 16, 3) := by decide +kernel
theorem dX4_traceStiffs_56 : decode cX4_traceStiffs 56 = .ok (.invokevirtual 173, 3) := by decide +kernel
theorem dX4_traceStiffs_59 : decode cX4_traceStiffs 59 = .ok (.iinc 4 1, 3) := by decide +kernel
theorem dX4_traceStiffs_62 : decode cX4_traceStiffs 62 = .ok (.goto (-35), 3) := by decide +kernel
theorem dX4_traceStiffs_65 : decode cX4_traceStiffs 65 = .ok (.iinc 3 1, 3) := by decide +kernel
theorem dX4_traceStiffs_68 : decode cX4_traceStiffs 68 = .ok (.goto (-66), 3) := by decide +kernel
theorem dX4_traceStiffs_71 : decode cX4_traceStiffs 71 = .ok (.return_, 1) := by decide +kernel
theorem dX4_mostAlike_0 : decode cX4_mostAlike 0 = .ok (.iconst 0, 1) := by decide +kernel
theorem dX4_mostAlike_1 : decode cX4_mostAlike 1 = .ok (.istore_n 3, 1) := by decide +kernel
theorem dX4_mostAlike_2 : decode cX4_mostAlike 2 = .ok (.iconst 0, 1) := by decide +kernel
theorem dX4_mostAlike_3 : decode cX4_mostAlike 3 = .ok (.istore 4, 2) := by decide +kernel
theorem dX4_mostAlike_5 : decode cX4_mostAlike 5 = .ok (.iload 4, 2) := by decide +kernel
theorem dX4_mostAlike_7 : decode cX4_mostAlike 7 = .ok (.bipush 10, 2) := by decide +kernel
theorem dX4_mostAlike_9 : decode cX4_mostAlike 9 = .ok (.if_icmp .ge 74, 3) := by decide +kernel
theorem dX4_mostAlike_12 : decode cX4_mostAlike 12 = .ok (.iconst 0, 1) := by decide +kernel
theorem dX4_mostAlike_13 : decode cX4_mostAlike 13 = .ok (.istore 5, 2) := by decide +kernel
theorem dX4_mostAlike_15 : decode cX4_mostAlike 15 = .ok (.iconst 0, 1) := by decide +kernel
theorem dX4_mostAlike_16 : decode cX4_mostAlike 16 = .ok (.istore 6, 2) := by decide +kernel
theorem dX4_mostAlike_18 : decode cX4_mostAlike 18 = .ok (.iload 6, 2) := by decide +kernel
theorem dX4_mostAlike_20 : decode cX4_mostAlike 20 = .ok (.bipush 10, 2) := by decide +kernel
theorem dX4_mostAlike_22 : decode cX4_mostAlike 22 = .ok (.if_icmp .ge 48, 3) := by decide +kernel
theorem dX4_mostAlike_25 : decode cX4_mostAlike 25 = .ok (.iload_n 1, 1) := by decide +kernel
theorem dX4_mostAlike_26 : decode cX4_mostAlike 26 = .ok (.iload 4, 2) := by decide +kernel
theorem dX4_mostAlike_28 : decode cX4_mostAlike 28 = .ok (.ishr, 1) := by decide +kernel
theorem dX4_mostAlike_29 : decode cX4_mostAlike 29 = .ok (.iload_n 1, 1) := by decide +kernel
theorem dX4_mostAlike_30 : decode cX4_mostAlike 30 = .ok (.iload 6, 2) := by decide +kernel
theorem dX4_mostAlike_32 : decode cX4_mostAlike 32 = .ok (.ishr, 1) := by decide +kernel
theorem dX4_mostAlike_33 : decode cX4_mostAlike 33 = .ok (.iand, 1) := by decide +kernel
theorem dX4_mostAlike_34 : decode cX4_mostAlike 34 = .ok (.iconst 1, 1) := by decide +kernel
theorem dX4_mostAlike_35 : decode cX4_mostAlike 35 = .ok (.iand, 1) := by decide +kernel
theorem dX4_mostAlike_36 : decode cX4_mostAlike 36 = .ok (.iconst 1, 1) := by decide +kernel
theorem dX4_mostAlike_37 : decode cX4_mostAlike 37 = .ok (.if_icmp .ne 27, 3) := by decide +kernel
theorem dX4_mostAlike_40 : decode cX4_mostAlike 40 = .ok (.aload_n 0, 1) := by decide +kernel
theorem dX4_mostAlike_41 : decode cX4_mostAlike 41 = .ok (.getfield 52, 3) := by decide +kernel
theorem dX4_mostAlike_44 : decode cX4_mostAlike 44 = .ok (.iload 4, 2) := by decide +kernel
theorem dX4_mostAlike_46 : decode cX4_mostAlike 46 = .ok (.aaload, 1) := by decide +kernel
theorem dX4_mostAlike_47 : decode cX4_mostAlike 47 = .ok (.iload_n 2, 1) := by decide +kernel
theorem dX4_mostAlike_48 : decode cX4_mostAlike 48 = .ok (.iaload, 1) := by decide +kernel
theorem dX4_mostAlike_49 : decode cX4_mostAlike 49 = .ok (.aload_n 0, 1) := by decide +kernel
theorem dX4_mostAlike_50 : decode cX4_mostAlike 50 = .ok (.getfield 52, 3) := by decide +kernel
theorem dX4_mostAlike_53 : decode cX4_mostAlike 53 = .ok (.iload 6, 2) := by decide +kernel
theorem dX4_mostAlike_55 : decode cX4_mostAlike 55 = .ok (.aaload, 1) := by decide +kernel
theorem dX4_mostAlike_56 : decode cX4_mostAlike 56 = .ok (.iload_n 2, 1) := by decide +kernel
theorem dX4_mostAlike_57 : decode cX4_mostAlike 57 = .ok (.iaload, 1) := by decide +kernel
theorem dX4_mostAlike_58 : decode cX4_mostAlike 58 = .ok (.if_icmp .ne 6, 3) := by decide +kernel
theorem dX4_mostAlike_61 : decode cX4_mostAlike 61 = .ok (.iinc 5 1, 3) := by decide +kernel
theorem dX4_mostAlike_64 : decode cX4_mostAlike 64 = .ok (.iinc 6 1, 3) := by decide +kernel
theorem dX4_mostAlike_67 : decode cX4_mostAlike 67 = .ok (.goto (-49), 3) := by decide +kernel
theorem dX4_mostAlike_70 : decode cX4_mostAlike 70 = .ok (.iload_n 3, 1) := by decide +kernel
theorem dX4_mostAlike_71 : decode cX4_mostAlike 71 = .ok (.iload 5, 2) := by decide +kernel
theorem dX4_mostAlike_73 : decode cX4_mostAlike 73 = .ok (.invokestatic 244, 3) := by decide +kernel
theorem dX4_mostAlike_76 : decode cX4_mostAlike 76 = .ok (.istore_n 3, 1) := by decide +kernel
theorem dX4_mostAlike_77 : decode cX4_mostAlike 77 = .ok (.iinc 4 1, 3) := by decide +kernel
theorem dX4_mostAlike_80 : decode cX4_mostAlike 80 = .ok (.goto (-75), 3) := by decide +kernel
theorem dX4_mostAlike_83 : decode cX4_mostAlike 83 = .ok (.iload_n 3, 1) := by decide +kernel
theorem dX4_mostAlike_84 : decode cX4_mostAlike 84 = .ok (.ireturn, 1) := by decide +kernel
theorem dX4_drift_0 : decode cX4_drift 0 = .ok (.iload_n 2, 1) := by decide +kernel
theorem dX4_drift_1 : decode cX4_drift 1 = .ok (.iconst 1, 1) := by decide +kernel
theorem dX4_drift_2 : decode cX4_drift 2 = .ok (.sipush 200, 3) := by decide +kernel
theorem dX4_drift_5 : decode cX4_drift 5 = .ok (.invokestatic 59, 3) := by decide +kernel
theorem dX4_drift_8 : decode cX4_drift 8 = .ok (.ifCond .eq 12, 3) := by decide +kernel
theorem dX4_drift_11 : decode cX4_drift 11 = .ok (.iload_n 3, 1) := by decide +kernel
theorem dX4_drift_12 : decode cX4_drift 12 = .ok (.iconst 0, 1) := by decide +kernel
theorem dX4_drift_13 : decode cX4_drift 13 = .ok (.iconst 1, 1) := by decide +kernel
theorem dX4_drift_14 : decode cX4_drift 14 = .ok (.invokestatic 59, 3) := by decide +kernel
theorem dX4_drift_17 : decode cX4_drift 17 = .ok (.ifCond .ne 5, 3) := by decide +kernel
theorem dX4_drift_20 : decode cX4_drift 20 = .ok (.iconst (-1), 1) := by decide +kernel
theorem dX4_drift_21 : decode cX4_drift 21 = .ok (.ireturn, 1) := by decide +kernel
theorem dX4_drift_22 : decode cX4_drift 22 = .ok (.aload_n 0, 1) := by decide +kernel
theorem dX4_drift_23 : decode cX4_drift 23 = .ok (.getfield 12, 3) := by decide +kernel
theorem dX4_drift_26 : decode cX4_drift 26 = .ok (.getfield 87, 3) := by decide +kernel
theorem dX4_drift_29 : decode cX4_drift 29 = .ok (.ifCond .ne 6, 3) := by decide +kernel
theorem dX4_drift_32 : decode cX4_drift 32 = .ok (.bipush (-2), 2) := by decide +kernel
theorem dX4_drift_34 : decode cX4_drift 34 = .ok (.ireturn, 1) := by decide +kernel
theorem dX4_drift_35 : decode cX4_drift 35 = .ok (.aload_n 0, 1) := by decide +kernel
theorem dX4_drift_36 : decode cX4_drift 36 = .ok (.getfield 16, 3) := by decide +kernel
theorem dX4_drift_39 : decode cX4_drift 39 = .ok (.aload_n 0, 1) := by decide +kernel
theorem dX4_drift_40 : decode cX4_drift 40 = .ok (.getfield 12, 3) := by decide +kernel
theorem dX4_drift_43 : decode cX4_drift 43 = .ok (.invokevirtual 80, 3) := by decide +kernel
theorem dX4_drift_46 : decode cX4_drift 46 = .ok (.aload_n 0, 1) := by decide +kernel
theorem dX4_drift_47 : decode cX4_drift 47 = .ok (.getfield 12, 3) := by decide +kernel
theorem dX4_drift_50 : decode cX4_drift 50 = .ok (.invokevirtual 103, 3) := by decide +kernel
theorem dX4_drift_53 : decode cX4_drift 53 = .ok (.istore 4, 2) := by decide +kernel
theorem dX4_drift_55 : decode cX4_drift 55 = .ok (.iconst 0, 1) := by decide +kernel
theorem dX4_drift_56 : decode cX4_drift 56 = .ok (.istore 5, 2) := by decide +kernel
theorem dX4_drift_58 : decode cX4_drift 58 = .ok (.iload_n 1, 1) := by decide +kernel
theorem dX4_drift_59 : decode cX4_drift 59 = .ok (.istore 6, 2) := by decide +kernel
theorem dX4_drift_61 : decode cX4_drift 61 = .ok (.iconst 0, 1) := by decide +kernel
theorem dX4_drift_62 : decode cX4_drift 62 = .ok (.istore 7, 2) := by decide +kernel
theorem dX4_drift_64 : decode cX4_drift 64 = .ok (.iload 7, 2) := by decide +kernel
theorem dX4_drift_66 : decode cX4_drift 66 = .ok (.iload_n 2, 1) := by decide +kernel
theorem dX4_drift_67 : decode cX4_drift 67 = .ok (.if_icmp .ge 86, 3) := by decide +kernel
theorem dX4_drift_70 : decode cX4_drift 70 = .ok (.iload 6, 2) := by decide +kernel
theorem dX4_drift_72 : decode cX4_drift 72 = .ok (.ldc 247, 2) := by decide +kernel
theorem dX4_drift_74 : decode cX4_drift 74 = .ok (.imul, 1) := by decide +kernel
theorem dX4_drift_75 : decode cX4_drift 75 = .ok (.sipush 12345, 3) := by decide +kernel
theorem dX4_drift_78 : decode cX4_drift 78 = .ok (.iadd, 1) := by decide +kernel
theorem dX4_drift_79 : decode cX4_drift 79 = .ok (.istore 6, 2) := by decide +kernel
theorem dX4_drift_81 : decode cX4_drift 81 = .ok (.iload 6, 2) := by decide +kernel
theorem dX4_drift_83 : decode cX4_drift 83 = .ok (.bipush 16, 2) := by decide +kernel
theorem dX4_drift_85 : decode cX4_drift 85 = .ok (.iushr, 1) := by decide +kernel
theorem dX4_drift_86 : decode cX4_drift 86 = .ok (.sipush 32767, 3) := by decide +kernel
theorem dX4_drift_89 : decode cX4_drift 89 = .ok (.iand, 1) := by decide +kernel
theorem dX4_drift_90 : decode cX4_drift 90 = .ok (.istore 8, 2) := by decide +kernel
theorem dX4_drift_92 : decode cX4_drift 92 = .ok (.aload_n 0, 1) := by decide +kernel
theorem dX4_drift_93 : decode cX4_drift 93 = .ok (.getfield 16, 3) := by decide +kernel
theorem dX4_drift_96 : decode cX4_drift 96 = .ok (.iload 8, 2) := by decide +kernel
theorem dX4_drift_98 : decode cX4_drift 98 = .ok (.aload_n 0, 1) := by decide +kernel
theorem dX4_drift_99 : decode cX4_drift 99 = .ok (.getfield 12, 3) := by decide +kernel
theorem dX4_drift_102 : decode cX4_drift 102 = .ok (.getfield 87, 3) := by decide +kernel
theorem dX4_drift_105 : decode cX4_drift 105 = .ok (.irem, 1) := by decide +kernel
theorem dX4_drift_106 : decode cX4_drift 106 = .ok (.iload 8, 2) := by decide +kernel
theorem dX4_drift_108 : decode cX4_drift 108 = .ok (.bipush 8, 2) := by decide +kernel
theorem dX4_drift_110 : decode cX4_drift 110 = .ok (.idiv, 1) := by decide +kernel
theorem dX4_drift_111 : decode cX4_drift 111 = .ok (.bipush 19, 2) := by decide +kernel
theorem dX4_drift_113 : decode cX4_drift 113 = .ok (.irem, 1) := by decide +kernel
theorem dX4_drift_114 : decode cX4_drift 114 = .ok (.bipush 9, 2) := by decide +kernel
theorem dX4_drift_116 : decode cX4_drift 116 = .ok (.isub, 1) := by decide +kernel
theorem dX4_drift_117 : decode cX4_drift 117 = .ok (.invokevirtual 140, 3) := by decide +kernel
theorem dX4_drift_120 : decode cX4_drift 120 = .ok (.aload_n 0, 1) := by decide +kernel
theorem dX4_drift_121 : decode cX4_drift 121 = .ok (.getfield 16, 3) := by decide +kernel
theorem dX4_drift_124 : decode cX4_drift 124 = .ok (.invokevirtual 176, 3) := by decide +kernel
theorem dX4_drift_127 : decode cX4_drift 127 = .ok (.iload 5, 2) := by decide +kernel
theorem dX4_drift_129 : decode cX4_drift 129 = .ok (.aload_n 0, 1) := by decide +kernel
theorem dX4_drift_130 : decode cX4_drift 130 = .ok (.getfield 16, 3) := by decide +kernel
theorem dX4_drift_133 : decode cX4_drift 133 = .ok (.invokevirtual 103, 3) := by decide +kernel
theorem dX4_drift_136 : decode cX4_drift 136 = .ok (.iload 4, 2) := by decide +kernel
theorem dX4_drift_138 : decode cX4_drift 138 = .ok (.isub, 1) := by decide +kernel
theorem dX4_drift_139 : decode cX4_drift 139 = .ok (.invokestatic 216, 3) := by decide +kernel
theorem dX4_drift_142 : decode cX4_drift 142 = .ok (.invokestatic 244, 3) := by decide +kernel
theorem dX4_drift_145 : decode cX4_drift 145 = .ok (.istore 5, 2) := by decide +kernel
theorem dX4_drift_147 : decode cX4_drift 147 = .ok (.iinc 7 1, 3) := by decide +kernel
theorem dX4_drift_150 : decode cX4_drift 150 = .ok (.goto (-86), 3) := by decide +kernel
theorem dX4_drift_153 : decode cX4_drift 153 = .ok (.iload_n 3, 1) := by decide +kernel
theorem dX4_drift_154 : decode cX4_drift 154 = .ok (.ifCond .ne 8, 3) := by decide +kernel
theorem dX4_drift_157 : decode cX4_drift 157 = .ok (.iload 5, 2) := by decide +kernel
theorem dX4_drift_159 : decode cX4_drift 159 = .ok (.goto 10, 3) := by decide +kernel
theorem dX4_drift_162 : decode cX4_drift 162 = .ok (.aload_n 0, 1) := by decide +kernel
theorem dX4_drift_163 : decode cX4_drift 163 = .ok (.getfield 16, 3) := by decide +kernel
theorem dX4_drift_166 : decode cX4_drift 166 = .ok (.invokevirtual 103, 3) := by decide +kernel
theorem dX4_drift_169 : decode cX4_drift 169 = .ok (.ireturn, 1) := by decide +kernel
theorem dX4_keep_0 : decode cX4_keep 0 = .ok (.iload_n 1, 1) := by decide +kernel
theorem dX4_keep_1 : decode cX4_keep 1 = .ok (.iconst 0, 1) := by decide +kernel
theorem dX4_keep_2 : decode cX4_keep 2 = .ok (.iconst 1, 1) := by decide +kernel
theorem dX4_keep_3 : decode cX4_keep 3 = .ok (.invokestatic 59, 3) := by decide +kernel
theorem dX4_keep_6 : decode cX4_keep 6 = .ok (.ifCond .ne 5, 3) := by decide +kernel
theorem dX4_keep_9 : decode cX4_keep 9 = .ok (.iconst (-1), 1) := by decide +kernel
theorem dX4_keep_10 : decode cX4_keep 10 = .ok (.ireturn, 1) := by decide +kernel
theorem dX4_keep_11 : decode cX4_keep 11 = .ok (.aload_n 0, 1) := by decide +kernel
theorem dX4_keep_12 : decode cX4_keep 12 = .ok (.getfield 25, 3) := by decide +kernel
theorem dX4_keep_15 : decode cX4_keep 15 = .ok (.iload_n 1, 1) := by decide +kernel
theorem dX4_keep_16 : decode cX4_keep 16 = .ok (.baload, 1) := by decide +kernel
theorem dX4_keep_17 : decode cX4_keep 17 = .ok (.ifCond .eq 7, 3) := by decide +kernel
theorem dX4_keep_20 : decode cX4_keep 20 = .ok (.iconst 1, 1) := by decide +kernel
theorem dX4_keep_21 : decode cX4_keep 21 = .ok (.goto 4, 3) := by decide +kernel
theorem dX4_keep_24 : decode cX4_keep 24 = .ok (.iconst 0, 1) := by decide +kernel
theorem dX4_keep_25 : decode cX4_keep 25 = .ok (.istore_n 2, 1) := by decide +kernel
theorem dX4_keep_26 : decode cX4_keep 26 = .ok (.aload_n 0, 1) := by decide +kernel
theorem dX4_keep_27 : decode cX4_keep 27 = .ok (.iload_n 1, 1) := by decide +kernel
theorem dX4_keep_28 : decode cX4_keep 28 = .ok (.invokevirtual 248, 3) := by decide +kernel
theorem dX4_keep_31 : decode cX4_keep 31 = .ok (.aload_n 0, 1) := by decide +kernel
theorem dX4_keep_32 : decode cX4_keep 32 = .ok (.getfield 12, 3) := by decide +kernel
theorem dX4_keep_35 : decode cX4_keep 35 = .ok (.invokevirtual 80, 3) := by decide +kernel
theorem dX4_keep_38 : decode cX4_keep 38 = .ok (.aload_n 0, 1) := by decide +kernel
theorem dX4_keep_39 : decode cX4_keep 39 = .ok (.getfield 25, 3) := by decide +kernel
theorem dX4_keep_42 : decode cX4_keep 42 = .ok (.iload_n 1, 1) := by decide +kernel
theorem dX4_keep_43 : decode cX4_keep 43 = .ok (.iconst 1, 1) := by decide +kernel
theorem dX4_keep_44 : decode cX4_keep 44 = .ok (.bastore, 1) := by decide +kernel
theorem dX4_keep_45 : decode cX4_keep 45 = .ok (.iload_n 2, 1) := by decide +kernel
theorem dX4_keep_46 : decode cX4_keep 46 = .ok (.ireturn, 1) := by decide +kernel
theorem dX4_back_0 : decode cX4_back 0 = .ok (.iload_n 1, 1) := by decide +kernel
theorem dX4_back_1 : decode cX4_back 1 = .ok (.iconst 0, 1) := by decide +kernel
theorem dX4_back_2 : decode cX4_back 2 = .ok (.iconst 1, 1) := by decide +kernel
theorem dX4_back_3 : decode cX4_back 3 = .ok (.invokestatic 59, 3) := by decide +kernel
theorem dX4_back_6 : decode cX4_back 6 = .ok (.ifCond .ne 5, 3) := by decide +kernel
theorem dX4_back_9 : decode cX4_back 9 = .ok (.iconst (-1), 1) := by decide +kernel
theorem dX4_back_10 : decode cX4_back 10 = .ok (.ireturn, 1) := by decide +kernel
theorem dX4_back_11 : decode cX4_back 11 = .ok (.aload_n 0, 1) := by decide +kernel
theorem dX4_back_12 : decode cX4_back 12 = .ok (.getfield 25, 3) := by decide +kernel
theorem dX4_back_15 : decode cX4_back 15 = .ok (.iload_n 1, 1) := by decide +kernel
theorem dX4_back_16 : decode cX4_back 16 = .ok (.baload, 1) := by decide +kernel
theorem dX4_back_17 : decode cX4_back 17 = .ok (.ifCond .ne 6, 3) := by decide +kernel
theorem dX4_back_20 : decode cX4_back 20 = .ok (.bipush (-2), 2) := by decide +kernel
theorem dX4_back_22 : decode cX4_back 22 = .ok (.ireturn, 1) := by decide +kernel
theorem dX4_back_23 : decode cX4_back 23 = .ok (.aload_n 0, 1) := by decide +kernel
theorem dX4_back_24 : decode cX4_back 24 = .ok (.getfield 12, 3) := by decide +kernel
theorem dX4_back_27 : decode cX4_back 27 = .ok (.aload_n 0, 1) := by decide +kernel
theorem dX4_back_28 : decode cX4_back 28 = .ok (.iload_n 1, 1) := by decide +kernel
theorem dX4_back_29 : decode cX4_back 29 = .ok (.invokevirtual 248, 3) := by decide +kernel
theorem dX4_back_32 : decode cX4_back 32 = .ok (.invokevirtual 80, 3) := by decide +kernel
theorem dX4_back_35 : decode cX4_back 35 = .ok (.aload_n 0, 1) := by decide +kernel
theorem dX4_back_36 : decode cX4_back 36 = .ok (.getfield 12, 3) := by decide +kernel
theorem dX4_back_39 : decode cX4_back 39 = .ok (.getfield 93, 3) := by decide +kernel
theorem dX4_back_42 : decode cX4_back 42 = .ok (.ireturn, 1) := by decide +kernel
theorem dX4_imageOf_0 : decode cX4_imageOf 0 = .ok (.iload_n 1, 1) := by decide +kernel
theorem dX4_imageOf_1 : decode cX4_imageOf 1 = .ok (.ifCond .ne 10, 3) := by decide +kernel
theorem dX4_imageOf_4 : decode cX4_imageOf 4 = .ok (.aload_n 0, 1) := by decide +kernel
theorem dX4_imageOf_5 : decode cX4_imageOf 5 = .ok (.getfield 19, 3) := by decide +kernel
theorem dX4_imageOf_8 : decode cX4_imageOf 8 = .ok (.goto 7, 3) := by decide +kernel
theorem dX4_imageOf_11 : decode cX4_imageOf 11 = .ok (.aload_n 0, 1) := by decide +kernel
theorem dX4_imageOf_12 : decode cX4_imageOf 12 = .ok (.getfield 22, 3) := by decide +kernel
theorem dX4_imageOf_15 : decode cX4_imageOf 15 = .ok (.areturn, 1) := by decide +kernel
theorem dX4_sheet_0 : decode cX4_sheet 0 = .ok (.iload_n 1, 1) := by decide +kernel
theorem dX4_sheet_1 : decode cX4_sheet 1 = .ok (.iconst 0, 1) := by decide +kernel
theorem dX4_sheet_2 : decode cX4_sheet 2 = .ok (.iconst 3, 1) := by decide +kernel
theorem dX4_sheet_3 : decode cX4_sheet 3 = .ok (.invokestatic 59, 3) := by decide +kernel
theorem dX4_sheet_6 : decode cX4_sheet 6 = .ok (.ifCond .eq 18, 3) := by decide +kernel
theorem dX4_sheet_9 : decode cX4_sheet 9 = .ok (.iload_n 2, 1) := by decide +kernel
theorem dX4_sheet_10 : decode cX4_sheet 10 = .ok (.iconst 0, 1) := by decide +kernel
theorem dX4_sheet_11 : decode cX4_sheet 11 = .ok (.iconst 2, 1) := by decide +kernel
theorem dX4_sheet_12 : decode cX4_sheet 12 = .ok (.invokestatic 59, 3) := by decide +kernel
theorem dX4_sheet_15 : decode cX4_sheet 15 = .ok (.ifCond .eq 9, 3) := by decide +kernel
theorem dX4_sheet_18 : decode cX4_sheet 18 = .ok (.iload_n 3, 1) := by decide +kernel
theorem dX4_sheet_19 : decode cX4_sheet 19 = .ok (.bipush 40, 2) := by decide +kernel
theorem dX4_sheet_21 : decode cX4_sheet 21 = .ok (.if_icmp .le 5, 3) := by decide +kernel
theorem dX4_sheet_24 : decode cX4_sheet 24 = .ok (.iconst (-1), 1) := by decide +kernel
theorem dX4_sheet_25 : decode cX4_sheet 25 = .ok (.ireturn, 1) := by decide +kernel
theorem dX4_sheet_26 : decode cX4_sheet 26 = .ok (.iload_n 3, 1) := by decide +kernel
theorem dX4_sheet_27 : decode cX4_sheet 27 = .ok (.ifCond .ge 6, 3) := by decide +kernel
theorem dX4_sheet_30 : decode cX4_sheet 30 = .ok (.bipush (-14), 2) := by decide +kernel
theorem dX4_sheet_32 : decode cX4_sheet 32 = .ok (.ireturn, 1) := by decide +kernel
theorem dX4_sheet_33 : decode cX4_sheet 33 = .ok (.aload_n 0, 1) := by decide +kernel
theorem dX4_sheet_34 : decode cX4_sheet 34 = .ok (.getfield 46, 3) := by decide +kernel
theorem dX4_sheet_37 : decode cX4_sheet 37 = .ok (.iload_n 1, 1) := by decide +kernel
theorem dX4_sheet_38 : decode cX4_sheet 38 = .ok (.iload_n 2, 1) := by decide +kernel
theorem dX4_sheet_39 : decode cX4_sheet 39 = .ok (.iload_n 3, 1) := by decide +kernel
theorem dX4_sheet_40 : decode cX4_sheet 40 = .ok (.invokevirtual 252, 3) := by decide +kernel
theorem dX4_sheet_43 : decode cX4_sheet 43 = .ok (.iconst 1, 1) := by decide +kernel
theorem dX4_sheet_44 : decode cX4_sheet 44 = .ok (.ireturn, 1) := by decide +kernel
theorem dX4_lay_0 : decode cX4_lay 0 = .ok (.iload_n 1, 1) := by decide +kernel
theorem dX4_lay_1 : decode cX4_lay 1 = .ok (.iconst 0, 1) := by decide +kernel
theorem dX4_lay_2 : decode cX4_lay 2 = .ok (.iconst 3, 1) := by decide +kernel
theorem dX4_lay_3 : decode cX4_lay 3 = .ok (.invokestatic 59, 3) := by decide +kernel
theorem dX4_lay_6 : decode cX4_lay 6 = .ok (.ifCond .ne 5, 3) := by decide +kernel
theorem dX4_lay_9 : decode cX4_lay 9 = .ok (.iconst (-1), 1) := by decide +kernel
theorem dX4_lay_10 : decode cX4_lay 10 = .ok (.ireturn, 1) := by decide +kernel
theorem dX4_lay_11 : decode cX4_lay 11 = .ok (.aload_n 0, 1) := by decide +kernel
theorem dX4_lay_12 : decode cX4_lay 12 = .ok (.getfield 46, 3) := by decide +kernel
theorem dX4_lay_15 : decode cX4_lay 15 = .ok (.iload_n 1, 1) := by decide +kernel
theorem dX4_lay_16 : decode cX4_lay 16 = .ok (.iload_n 2, 1) := by decide +kernel
theorem dX4_lay_17 : decode cX4_lay 17 = .ok (.invokevirtual 255, 3) := by decide +kernel
theorem dX4_lay_20 : decode cX4_lay 20 = .ok (.istore 4, 2) := by decide +kernel
theorem dX4_lay_22 : decode cX4_lay 22 = .ok (.iload 4, 2) := by decide +kernel
theorem dX4_lay_24 : decode cX4_lay 24 = .ok (.ifCond .eq 9, 3) := by decide +kernel
theorem dX4_lay_27 : decode cX4_lay 27 = .ok (.bipush (-10), 2) := by decide +kernel
theorem dX4_lay_29 : decode cX4_lay 29 = .ok (.iload 4, 2) := by decide +kernel
theorem dX4_lay_31 : decode cX4_lay 31 = .ok (.isub, 1) := by decide +kernel
theorem dX4_lay_32 : decode cX4_lay 32 = .ok (.ireturn, 1) := by decide +kernel
theorem dX4_lay_33 : decode cX4_lay 33 = .ok (.aload_n 0, 1) := by decide +kernel
theorem dX4_lay_34 : decode cX4_lay 34 = .ok (.getfield 46, 3) := by decide +kernel
theorem dX4_lay_37 : decode cX4_lay 37 = .ok (.iload_n 1, 1) := by decide +kernel
theorem dX4_lay_38 : decode cX4_lay 38 = .ok (.iload_n 2, 1) := by decide +kernel
theorem dX4_lay_39 : decode cX4_lay 39 = .ok (.iload_n 3, 1) := by decide +kernel
theorem dX4_lay_40 : decode cX4_lay 40 = .ok (.invokevirtual 258, 3) := by decide +kernel
theorem dX4_lay_43 : decode cX4_lay 43 = .ok (.iconst 1, 1) := by decide +kernel
theorem dX4_lay_44 : decode cX4_lay 44 = .ok (.ireturn, 1) := by decide +kernel
theorem dX4_read_0 : decode cX4_read 0 = .ok (.iload_n 1, 1) := by decide +kernel
theorem dX4_read_1 : decode cX4_read 1 = .ok (.iconst 0, 1) := by decide +kernel
theorem dX4_read_2 : decode cX4_read 2 = .ok (.iconst 3, 1) := by decide +kernel
theorem dX4_read_3 : decode cX4_read 3 = .ok (.invokestatic 59, 3) := by decide +kernel
theorem dX4_read_6 : decode cX4_read 6 = .ok (.ifCond .eq 23, 3) := by decide +kernel
theorem dX4_read_9 : decode cX4_read 9 = .ok (.iload_n 2, 1) := by decide +kernel
theorem dX4_read_10 : decode cX4_read 10 = .ok (.iconst 0, 1) := by decide +kernel
theorem dX4_read_11 : decode cX4_read 11 = .ok (.iconst 2, 1) := by decide +kernel
theorem dX4_read_12 : decode cX4_read 12 = .ok (.invokestatic 59, 3) := by decide +kernel
theorem dX4_read_15 : decode cX4_read 15 = .ok (.ifCond .eq 14, 3) := by decide +kernel
theorem dX4_read_18 : decode cX4_read 18 = .ok (.iload 4, 2) := by decide +kernel
theorem dX4_read_20 : decode cX4_read 20 = .ok (.iconst 0, 1) := by decide +kernel
theorem dX4_read_21 : decode cX4_read 21 = .ok (.bipush 20, 2) := by decide +kernel
theorem dX4_read_23 : decode cX4_read 23 = .ok (.invokestatic 59, 3) := by decide +kernel
theorem dX4_read_26 : decode cX4_read 26 = .ok (.ifCond .ne 5, 3) := by decide +kernel
theorem dX4_read_29 : decode cX4_read 29 = .ok (.iconst (-1), 1) := by decide +kernel
theorem dX4_read_30 : decode cX4_read 30 = .ok (.ireturn, 1) := by decide +kernel
theorem dX4_read_31 : decode cX4_read 31 = .ok (.aload_n 0, 1) := by decide +kernel
theorem dX4_read_32 : decode cX4_read 32 = .ok (.getfield 12, 3) := by decide +kernel
theorem dX4_read_35 : decode cX4_read 35 = .ok (.getfield 90, 3) := by decide +kernel
theorem dX4_read_38 : decode cX4_read 38 = .ok (.istore 5, 2) := by decide +kernel
theorem dX4_read_40 : decode cX4_read 40 = .ok (.iconst 0, 1) := by decide +kernel
theorem dX4_read_41 : decode cX4_read 41 = .ok (.istore 6, 2) := by decide +kernel
theorem dX4_read_43 : decode cX4_read 43 = .ok (.iconst 0, 1) := by decide +kernel
theorem dX4_read_44 : decode cX4_read 44 = .ok (.istore 7, 2) := by decide +kernel
theorem dX4_read_46 : decode cX4_read 46 = .ok (.iconst 0, 1) := by decide +kernel
theorem dX4_read_47 : decode cX4_read 47 = .ok (.istore 8, 2) := by decide +kernel
theorem dX4_read_49 : decode cX4_read 49 = .ok (.iload 8, 2) := by decide +kernel
theorem dX4_read_51 : decode cX4_read 51 = .ok (.iload 4, 2) := by decide +kernel
theorem dX4_read_53 : decode cX4_read 53 = .ok (.if_icmp .ge 92, 3) := by decide +kernel
theorem dX4_read_56 : decode cX4_read 56 = .ok (.iload 6, 2) := by decide +kernel
theorem dX4_read_58 : decode cX4_read 58 = .ok (.ifCond .ne 87, 3) := by decide +kernel
theorem dX4_read_61 : decode cX4_read 61 = .ok (.aload_n 0, 1) := by decide +kernel
theorem dX4_read_62 : decode cX4_read 62 = .ok (.getfield 46, 3) := by decide +kernel
theorem dX4_read_65 : decode cX4_read 65 = .ok (.iload_n 1, 1) := by decide +kernel
theorem dX4_read_66 : decode cX4_read 66 = .ok (.iload_n 2, 1) := by decide +kernel
theorem dX4_read_67 : decode cX4_read 67 = .ok (.iload_n 3, 1) := by decide +kernel
theorem dX4_read_68 : decode cX4_read 68 = .ok (.iload 8, 2) := by decide +kernel
theorem dX4_read_70 : decode cX4_read 70 = .ok (.invokevirtual 260, 3) := by decide +kernel
theorem dX4_read_73 : decode cX4_read 73 = .ok (.istore 6, 2) := by decide +kernel
theorem dX4_read_75 : decode cX4_read 75 = .ok (.iload 6, 2) := by decide +kernel
theorem dX4_read_77 : decode cX4_read 77 = .ok (.ifCond .ne 62, 3) := by decide +kernel
theorem dX4_read_80 : decode cX4_read 80 = .ok (.iload_n 3, 1) := by decide +kernel
theorem dX4_read_81 : decode cX4_read 81 = .ok (.iconst 2, 1) := by decide +kernel
theorem dX4_read_82 : decode cX4_read 82 = .ok (.iload 8, 2) := by decide +kernel
theorem dX4_read_84 : decode cX4_read 84 = .ok (.imul, 1) := by decide +kernel
theorem dX4_read_85 : decode cX4_read 85 = .ok (.iadd, 1) := by decide +kernel
theorem dX4_read_86 : decode cX4_read 86 = .ok (.istore 9, 2) := by decide +kernel
theorem dX4_read_88 : decode cX4_read 88 = .ok (.aload_n 0, 1) := by decide +kernel
theorem dX4_read_89 : decode cX4_read 89 = .ok (.aload_n 0, 1) := by decide +kernel
theorem dX4_read_90 : decode cX4_read 90 = .ok (.getfield 46, 3) := by decide +kernel
theorem dX4_read_93 : decode cX4_read 93 = .ok (.getfield 263, 3) := by decide +kernel
theorem dX4_read_96 : decode cX4_read 96 = .ok (.iload_n 1, 1) := by decide +kernel
theorem dX4_read_97 : decode cX4_read 97 = .ok (.aaload, 1) := by decide +kernel
theorem dX4_read_98 : decode cX4_read 98 = .ok (.iload 9, 2) := by decide +kernel
theorem dX4_read_100 : decode cX4_read 100 = .ok (.iaload, 1) := by decide +kernel
theorem dX4_read_101 : decode cX4_read 101 = .ok (.aload_n 0, 1) := by decide +kernel
theorem dX4_read_102 : decode cX4_read 102 = .ok (.getfield 46, 3) := by decide +kernel
theorem dX4_read_105 : decode cX4_read 105 = .ok (.getfield 263, 3) := by decide +kernel
theorem dX4_read_108 : decode cX4_read 108 = .ok (.iload_n 1, 1) := by decide +kernel
theorem dX4_read_109 : decode cX4_read 109 = .ok (.aaload, 1) := by decide +kernel
theorem dX4_read_110 : decode cX4_read 110 = .ok (.iload 9, 2) := by decide +kernel
theorem dX4_read_112 : decode cX4_read 112 = .ok (.iconst 1, 1) := by decide +kernel
theorem dX4_read_113 : decode cX4_read 113 = .ok (.iadd, 1) := by decide +kernel
theorem dX4_read_114 : decode cX4_read 114 = .ok (.iaload, 1) := by decide +kernel
theorem dX4_read_115 : decode cX4_read 115 = .ok (.invokevirtual 266, 3) := by decide +kernel
theorem dX4_read_118 : decode cX4_read 118 = .ok (.ifCond .ge 18, 3) := by decide +kernel
theorem dX4_read_121 : decode cX4_read 121 = .ok (.aload_n 0, 1) := by decide +kernel
theorem dX4_read_122 : decode cX4_read 122 = .ok (.getfield 12, 3) := by decide +kernel
theorem dX4_read_125 : decode cX4_read 125 = .ok (.iload 5, 2) := by decide +kernel
theorem dX4_read_127 : decode cX4_read 127 = .ok (.putfield 90, 3) := by decide +kernel
theorem dX4_read_130 : decode cX4_read 130 = .ok (.bipush (-20), 2) := by decide +kernel
theorem dX4_read_132 : decode cX4_read 132 = .ok (.iload 8, 2) := by decide +kernel
theorem dX4_read_134 : decode cX4_read 134 = .ok (.isub, 1) := by decide +kernel
theorem dX4_read_135 : decode cX4_read 135 = .ok (.ireturn, 1) := by decide +kernel
theorem dX4_read_136 : decode cX4_read 136 = .ok (.iinc 7 1, 3) := by decide +kernel
theorem dX4_read_139 : decode cX4_read 139 = .ok (.iinc 8 1, 3) := by decide +kernel
theorem dX4_read_142 : decode cX4_read 142 = .ok (.goto (-93), 3) := by decide +kernel
theorem dX4_read_145 : decode cX4_read 145 = .ok (.aload_n 0, 1) := by decide +kernel
theorem dX4_read_146 : decode cX4_read 146 = .ok (.iload 6, 2) := by decide +kernel
theorem dX4_read_148 : decode cX4_read 148 = .ok (.putfield 55, 3) := by decide +kernel
theorem dX4_read_151 : decode cX4_read 151 = .ok (.iload 7, 2) := by decide +kernel
theorem dX4_read_153 : decode cX4_read 153 = .ok (.ireturn, 1) := by decide +kernel
theorem dX4_torn_0 : decode cX4_torn 0 = .ok (.aload_n 0, 1) := by decide +kernel
theorem dX4_torn_1 : decode cX4_torn 1 = .ok (.getfield 55, 3) := by decide +kernel
theorem dX4_torn_4 : decode cX4_torn 4 = .ok (.ireturn, 1) := by decide +kernel
theorem dX4_count_0 : decode cX4_count 0 = .ok (.iload_n 1, 1) := by decide +kernel
theorem dX4_count_1 : decode cX4_count 1 = .ok (.tableswitch 129 0 5 #[39, 47, 77, 85, 111, 120], 39) := by decide +kernel
theorem dX4_count_40 : decode cX4_count 40 = .ok (.aload_n 0, 1) := by decide +kernel
theorem dX4_count_41 : decode cX4_count 41 = .ok (.getfield 39, 3) := by decide +kernel
theorem dX4_count_44 : decode cX4_count 44 = .ok (.getfield 84, 3) := by decide +kernel
theorem dX4_count_47 : decode cX4_count 47 = .ok (.ireturn, 1) := by decide +kernel
theorem dX4_count_48 : decode cX4_count 48 = .ok (.aload_n 0, 1) := by decide +kernel
theorem dX4_count_49 : decode cX4_count 49 = .ok (.getfield 25, 3) := by decide +kernel
theorem dX4_count_52 : decode cX4_count 52 = .ok (.iconst 0, 1) := by decide +kernel
theorem dX4_count_53 : decode cX4_count 53 = .ok (.baload, 1) := by decide +kernel
theorem dX4_count_54 : decode cX4_count 54 = .ok (.ifCond .eq 7, 3) := by decide +kernel
theorem dX4_count_57 : decode cX4_count 57 = .ok (.iconst 1, 1) := by decide +kernel
theorem dX4_count_58 : decode cX4_count 58 = .ok (.goto 4, 3) := by decide +kernel
theorem dX4_count_61 : decode cX4_count 61 = .ok (.iconst 0, 1) := by decide +kernel
theorem dX4_count_62 : decode cX4_count 62 = .ok (.aload_n 0, 1) := by decide +kernel
theorem dX4_count_63 : decode cX4_count 63 = .ok (.getfield 25, 3) := by decide +kernel
theorem dX4_count_66 : decode cX4_count 66 = .ok (.iconst 1, 1) := by decide +kernel
theorem dX4_count_67 : decode cX4_count 67 = .ok (.baload, 1) := by decide +kernel
theorem dX4_count_68 : decode cX4_count 68 = .ok (.ifCond .eq 7, 3) := by decide +kernel
theorem dX4_count_71 : decode cX4_count 71 = .ok (.iconst 1, 1) := by decide +kernel
theorem dX4_count_72 : decode cX4_count 72 = .ok (.goto 4, 3) := by decide +kernel
theorem dX4_count_75 : decode cX4_count 75 = .ok (.iconst 0, 1) := by decide +kernel
theorem dX4_count_76 : decode cX4_count 76 = .ok (.iadd, 1) := by decide +kernel
theorem dX4_count_77 : decode cX4_count 77 = .ok (.ireturn, 1) := by decide +kernel
theorem dX4_count_78 : decode cX4_count 78 = .ok (.aload_n 0, 1) := by decide +kernel
theorem dX4_count_79 : decode cX4_count 79 = .ok (.getfield 32, 3) := by decide +kernel
theorem dX4_count_82 : decode cX4_count 82 = .ok (.getfield 67, 3) := by decide +kernel
theorem dX4_count_85 : decode cX4_count 85 = .ok (.ireturn, 1) := by decide +kernel
theorem dX4_count_86 : decode cX4_count 86 = .ok (.aload_n 0, 1) := by decide +kernel
theorem dX4_count_87 : decode cX4_count 87 = .ok (.getfield 46, 3) := by decide +kernel
theorem dX4_count_90 : decode cX4_count 90 = .ok (.iconst 0, 1) := by decide +kernel
theorem dX4_count_91 : decode cX4_count 91 = .ok (.invokevirtual 269, 3) := by decide +kernel
theorem dX4_count_94 : decode cX4_count 94 = .ok (.ifCond .eq 8, 3) := by decide +kernel
theorem dX4_count_97 : decode cX4_count 97 = .ok (.bipush (-4), 2) := by decide +kernel
theorem dX4_count_99 : decode cX4_count 99 = .ok (.goto 12, 3) := by decide +kernel
theorem dX4_count_102 : decode cX4_count 102 = .ok (.aload_n 0, 1) := by decide +kernel
theorem dX4_count_103 : decode cX4_count 103 = .ok (.getfield 46, 3) := by decide +kernel
theorem dX4_count_106 : decode cX4_count 106 = .ok (.getfield 272, 3) := by decide +kernel
theorem dX4_count_109 : decode cX4_count 109 = .ok (.iconst 0, 1) := by decide +kernel
theorem dX4_count_110 : decode cX4_count 110 = .ok (.iaload, 1) := by decide +kernel
theorem dX4_count_111 : decode cX4_count 111 = .ok (.ireturn, 1) := by decide +kernel
theorem dX4_count_112 : decode cX4_count 112 = .ok (.aload_n 0, 1) := by decide +kernel
theorem dX4_count_113 : decode cX4_count 113 = .ok (.getfield 12, 3) := by decide +kernel
theorem dX4_count_116 : decode cX4_count 116 = .ok (.iconst 2, 1) := by decide +kernel
theorem dX4_count_117 : decode cX4_count 117 = .ok (.invokevirtual 275, 3) := by decide +kernel
theorem dX4_count_120 : decode cX4_count 120 = .ok (.ireturn, 1) := by decide +kernel
theorem dX4_count_121 : decode cX4_count 121 = .ok (.aload_n 0, 1) := by decide +kernel
theorem dX4_count_122 : decode cX4_count 122 = .ok (.getfield 12, 3) := by decide +kernel
theorem dX4_count_125 : decode cX4_count 125 = .ok (.iconst 3, 1) := by decide +kernel
theorem dX4_count_126 : decode cX4_count 126 = .ok (.invokevirtual 275, 3) := by decide +kernel
theorem dX4_count_129 : decode cX4_count 129 = .ok (.ireturn, 1) := by decide +kernel
theorem dX4_count_130 : decode cX4_count 130 = .ok (.iconst (-1), 1) := by decide +kernel
theorem dX4_count_131 : decode cX4_count 131 = .ok (.ireturn, 1) := by decide +kernel
theorem dX4_within_0 : decode cX4_within 0 = .ok (.iload_n 0, 1) := by decide +kernel
theorem dX4_within_1 : decode cX4_within 1 = .ok (.iload_n 1, 1) := by decide +kernel
theorem dX4_within_2 : decode cX4_within 2 = .ok (.if_icmp .lt 12, 3) := by decide +kernel
theorem dX4_within_5 : decode cX4_within 5 = .ok (.iload_n 0, 1) := by decide +kernel
theorem dX4_within_6 : decode cX4_within 6 = .ok (.iload_n 2, 1) := by decide +kernel
theorem dX4_within_7 : decode cX4_within 7 = .ok (.if_icmp .gt 7, 3) := by decide +kernel
theorem dX4_within_10 : decode cX4_within 10 = .ok (.iconst 1, 1) := by decide +kernel
theorem dX4_within_11 : decode cX4_within 11 = .ok (.goto 4, 3) := by decide +kernel
theorem dX4_within_14 : decode cX4_within 14 = .ok (.iconst 0, 1) := by decide +kernel
theorem dX4_within_15 : decode cX4_within 15 = .ok (.ireturn, 1) := by decide +kernel
end
section
theorem dX5_init_0 : decode cX5_init 0 = .ok (.aload_n 0, 1) := by decide +kernel
theorem dX5_init_1 : decode cX5_init 1 = .ok (.invokespecial 1, 3) := by decide +kernel
theorem dX5_init_4 : decode cX5_init 4 = .ok (.aload_n 0, 1) := by decide +kernel
theorem dX5_init_5 : decode cX5_init 5 = .ok (.sipush 312, 3) := by decide +kernel
theorem dX5_init_8 : decode cX5_init 8 = .ok (.newarray .int, 2) := by decide +kernel
theorem dX5_init_10 : decode cX5_init 10 = .ok (.putfield 7, 3) := by decide +kernel
theorem dX5_init_13 : decode cX5_init 13 = .ok (.aload_n 0, 1) := by decide +kernel
theorem dX5_init_14 : decode cX5_init 14 = .ok (.bipush 52, 2) := by decide +kernel
theorem dX5_init_16 : decode cX5_init 16 = .ok (.newarray .int, 2) := by decide +kernel
theorem dX5_init_18 : decode cX5_init 18 = .ok (.putfield 13, 3) := by decide +kernel
theorem dX5_init_21 : decode cX5_init 21 = .ok (.aload_n 0, 1) := by decide +kernel
theorem dX5_init_22 : decode cX5_init 22 = .ok (.sipush 160, 3) := by decide +kernel
theorem dX5_init_25 : decode cX5_init 25 = .ok (.newarray .int, 2) := by decide +kernel
theorem dX5_init_27 : decode cX5_init 27 = .ok (.putfield 16, 3) := by decide +kernel
theorem dX5_init_30 : decode cX5_init 30 = .ok (.aload_n 0, 1) := by decide +kernel
theorem dX5_init_31 : decode cX5_init 31 = .ok (.bipush 8, 2) := by decide +kernel
theorem dX5_init_33 : decode cX5_init 33 = .ok (.newarray .int, 2) := by decide +kernel
theorem dX5_init_35 : decode cX5_init 35 = .ok (.dup, 1) := by decide +kernel
theorem dX5_init_36 : decode cX5_init 36 = .ok (.iconst 0, 1) := by decide +kernel
theorem dX5_init_37 : decode cX5_init 37 = .ok (.iconst 0, 1) := by decide +kernel
theorem dX5_init_38 : decode cX5_init 38 = .ok (.iastore, 1) := by decide +kernel
theorem dX5_init_39 : decode cX5_init 39 = .ok (.dup, 1) := by decide +kernel
theorem dX5_init_40 : decode cX5_init 40 = .ok (.iconst 1, 1) := by decide +kernel
theorem dX5_init_41 : decode cX5_init 41 = .ok (.iconst 5, 1) := by decide +kernel
theorem dX5_init_42 : decode cX5_init 42 = .ok (.iastore, 1) := by decide +kernel
theorem dX5_init_43 : decode cX5_init 43 = .ok (.dup, 1) := by decide +kernel
theorem dX5_init_44 : decode cX5_init 44 = .ok (.iconst 2, 1) := by decide +kernel
theorem dX5_init_45 : decode cX5_init 45 = .ok (.bipush 9, 2) := by decide +kernel
theorem dX5_init_47 : decode cX5_init 47 = .ok (.iastore, 1) := by decide +kernel
theorem dX5_init_48 : decode cX5_init 48 = .ok (.dup, 1) := by decide +kernel
theorem dX5_init_49 : decode cX5_init 49 = .ok (.iconst 3, 1) := by decide +kernel
theorem dX5_init_50 : decode cX5_init 50 = .ok (.bipush 14, 2) := by decide +kernel
theorem dX5_init_52 : decode cX5_init 52 = .ok (.iastore, 1) := by decide +kernel
theorem dX5_init_53 : decode cX5_init 53 = .ok (.dup, 1) := by decide +kernel
theorem dX5_init_54 : decode cX5_init 54 = .ok (.iconst 4, 1) := by decide +kernel
theorem dX5_init_55 : decode cX5_init 55 = .ok (.bipush 19, 2) := by decide +kernel
theorem dX5_init_57 : decode cX5_init 57 = .ok (.iastore, 1) := by decide +kernel
theorem dX5_init_58 : decode cX5_init 58 = .ok (.dup, 1) := by decide +kernel
theorem dX5_init_59 : decode cX5_init 59 = .ok (.iconst 5, 1) := by decide +kernel
theorem dX5_init_60 : decode cX5_init 60 = .ok (.bipush 23, 2) := by decide +kernel
theorem dX5_init_62 : decode cX5_init 62 = .ok (.iastore, 1) := by decide +kernel
theorem dX5_init_63 : decode cX5_init 63 = .ok (.dup, 1) := by decide +kernel
theorem dX5_init_64 : decode cX5_init 64 = .ok (.bipush 6, 2) := by decide +kernel
theorem dX5_init_66 : decode cX5_init 66 = .ok (.bipush 25, 2) := by decide +kernel
theorem dX5_init_68 : decode cX5_init 68 = .ok (.iastore, 1) := by decide +kernel
theorem dX5_init_69 : decode cX5_init 69 = .ok (.dup, 1) := by decide +kernel
theorem dX5_init_70 : decode cX5_init 70 = .ok (.bipush 7, 2) := by decide +kernel
theorem dX5_init_72 : decode cX5_init 72 = .ok (.bipush 29, 2) := by decide +kernel
theorem dX5_init_74 : decode cX5_init 74 = .ok (.iastore, 1) := by decide +kernel
theorem dX5_init_75 : decode cX5_init 75 = .ok (.putfield 19, 3) := by decide +kernel
theorem dX5_init_78 : decode cX5_init 78 = .ok (.aload_n 0, 1) := by decide +kernel
theorem dX5_init_79 : decode cX5_init 79 = .ok (.bipush 29, 2) := by decide +kernel
theorem dX5_init_81 : decode cX5_init 81 = .ok (.newarray .int, 2) := by decide +kernel
theorem dX5_init_83 : decode cX5_init 83 = .ok (.dup, 1) := by decide +kernel
theorem dX5_init_84 : decode cX5_init 84 = .ok (.iconst 0, 1) := by decide +kernel
theorem dX5_init_85 : decode cX5_init 85 = .ok (.bipush 112, 2) := by decide +kernel
theorem dX5_init_87 : decode cX5_init 87 = .ok (.iastore, 1) := by decide +kernel
theorem dX5_init_88 : decode cX5_init 88 = .ok (.dup, 1) := by decide +kernel
theorem dX5_init_89 : decode cX5_init 89 = .ok (.iconst 1, 1) := by decide +kernel
theorem dX5_init_90 : decode cX5_init 90 = .ok (.bipush 108, 2) := by decide +kernel
theorem dX5_init_92 : decode cX5_init 92 = .ok (.iastore, 1) := by decide +kernel
theorem dX5_init_93 : decode cX5_init 93 = .ok (.dup, 1) := by decide +kernel
theorem dX5_init_94 : decode cX5_init 94 = .ok (.iconst 2, 1) := by decide +kernel
theorem dX5_init_95 : decode cX5_init 95 = .ok (.bipush 97, 2) := by decide +kernel
theorem dX5_init_97 : decode cX5_init 97 = .ok (.iastore, 1) := by decide +kernel
theorem dX5_init_98 : decode cX5_init 98 = .ok (.dup, 1) := by decide +kernel
theorem dX5_init_99 : decode cX5_init 99 = .ok (.iconst 3, 1) := by decide +kernel
theorem dX5_init_100 : decode cX5_init 100 = .ok (.bipush 105, 2) := by decide +kernel
theorem dX5_init_102 : decode cX5_init 102 = .ok (.iastore, 1) := by decide +kernel
theorem dX5_init_103 : decode cX5_init 103 = .ok (.dup, 1) := by decide +kernel
theorem dX5_init_104 : decode cX5_init 104 = .ok (.iconst 4, 1) := by decide +kernel
theorem dX5_init_105 : decode cX5_init 105 = .ok (.bipush 110, 2) := by decide +kernel
theorem dX5_init_107 : decode cX5_init 107 = .ok (.iastore, 1) := by decide +kernel
theorem dX5_init_108 : decode cX5_init 108 = .ok (.dup, 1) := by decide +kernel
theorem dX5_init_109 : decode cX5_init 109 = .ok (.iconst 5, 1) := by decide +kernel
theorem dX5_init_110 : decode cX5_init 110 = .ok (.bipush 114, 2) := by decide +kernel
theorem dX5_init_112 : decode cX5_init 112 = .ok (.iastore, 1) := by decide +kernel
theorem dX5_init_113 : decode cX5_init 113 = .ok (.dup, 1) := by decide +kernel
theorem dX5_init_114 : decode cX5_init 114 = .ok (.bipush 6, 2) := by decide +kernel
theorem dX5_init_116 : decode cX5_init 116 = .ok (.bipush 111, 2) := by decide +kernel
theorem dX5_init_118 : decode cX5_init 118 = .ok (.iastore, 1) := by decide +kernel
theorem dX5_init_119 : decode cX5_init 119 = .ok (.dup, 1) := by decide +kernel
theorem dX5_init_120 : decode cX5_init 120 = .ok (.bipush 7, 2) := by decide +kernel
theorem dX5_init_122 : decode cX5_init 122 = .ok (.bipush 112, 2) := by decide +kernel
theorem dX5_init_124 : decode cX5_init 124 = .ok (.iastore, 1) := by decide +kernel
theorem dX5_init_125 : decode cX5_init 125 = .ok (.dup, 1) := by decide +kernel
theorem dX5_init_126 : decode cX5_init 126 = .ok (.bipush 8, 2) := by decide +kernel
theorem dX5_init_128 : decode cX5_init 128 = .ok (.bipush 101, 2) := by decide +kernel
theorem dX5_init_130 : decode cX5_init 130 = .ok (.iastore, 1) := by decide +kernel
theorem dX5_init_131 : decode cX5_init 131 = .ok (.dup, 1) := by decide +kernel
theorem dX5_init_132 : decode cX5_init 132 = .ok (.bipush 9, 2) := by decide +kernel
theorem dX5_init_134 : decode cX5_init 134 = .ok (.bipush 98, 2) := by decide +kernel
theorem dX5_init_136 : decode cX5_init 136 = .ok (.iastore, 1) := by decide +kernel
theorem dX5_init_137 : decode cX5_init 137 = .ok (.dup, 1) := by decide +kernel
theorem dX5_init_138 : decode cX5_init 138 = .ok (.bipush 10, 2) := by decide +kernel
theorem dX5_init_140 : decode cX5_init 140 = .ok (.bipush 108, 2) := by decide +kernel
theorem dX5_init_142 : decode cX5_init 142 = .ok (.iastore, 1) := by decide +kernel
theorem dX5_init_143 : decode cX5_init 143 = .ok (.dup, 1) := by decide +kernel
theorem dX5_init_144 : decode cX5_init 144 = .ok (.bipush 11, 2) := by decide +kernel
theorem dX5_init_146 : decode cX5_init 146 = .ok (.bipush 111, 2) := by decide +kernel
theorem dX5_init_148 : decode cX5_init 148 = .ok (.iastore, 1) := by decide +kernel
theorem dX5_init_149 : decode cX5_init 149 = .ok (.dup, 1) := by decide +kernel
theorem dX5_init_150 : decode cX5_init 150 = .ok (.bipush 12, 2) := by decide +kernel
theorem dX5_init_152 : decode cX5_init 152 = .ok (.bipush 99, 2) := by decide +kernel
theorem dX5_init_154 : decode cX5_init 154 = .ok (.iastore, 1) := by decide +kernel
theorem dX5_init_155 : decode cX5_init 155 = .ok (.dup, 1) := by decide +kernel
theorem dX5_init_156 : decode cX5_init 156 = .ok (.bipush 13, 2) := by decide +kernel
theorem dX5_init_158 : decode cX5_init 158 = .ok (.bipush 107, 2) := by decide +kernel
theorem dX5_init_160 : decode cX5_init 160 = .ok (.iastore, 1) := by decide +kernel
theorem dX5_init_161 : decode cX5_init 161 = .ok (.dup, 1) := by decide +kernel
theorem dX5_init_162 : decode cX5_init 162 = .ok (.bipush 14, 2) := by decide +kernel
theorem dX5_init_164 : decode cX5_init 164 = .ok (.bipush 115, 2) := by decide +kernel
theorem dX5_init_166 : decode cX5_init 166 = .ok (.iastore, 1) := by decide +kernel
theorem dX5_init_167 : decode cX5_init 167 = .ok (.dup, 1) := by decide +kernel
theorem dX5_init_168 : decode cX5_init 168 = .ok (.bipush 15, 2) := by decide +kernel
theorem dX5_init_170 : decode cX5_init 170 = .ok (.bipush 108, 2) := by decide +kernel
theorem dX5_init_172 : decode cX5_init 172 = .ok (.iastore, 1) := by decide +kernel
theorem dX5_init_173 : decode cX5_init 173 = .ok (.dup, 1) := by decide +kernel
theorem dX5_init_174 : decode cX5_init 174 = .ok (.bipush 16, 2) := by decide +kernel
theorem dX5_init_176 : decode cX5_init 176 = .ok (.bipush 97, 2) := by decide +kernel
theorem dX5_init_178 : decode cX5_init 178 = .ok (.iastore, 1) := by decide +kernel
theorem dX5_init_179 : decode cX5_init 179 = .ok (.dup, 1) := by decide +kernel
theorem dX5_init_180 : decode cX5_init 180 = .ok (.bipush 17, 2) := by decide +kernel
theorem dX5_init_182 : decode cX5_init 182 = .ok (.bipush 99, 2) := by decide +kernel
theorem dX5_init_184 : decode cX5_init 184 = .ok (.iastore, 1) := by decide +kernel
theorem dX5_init_185 : decode cX5_init 185 = .ok (.dup, 1) := by decide +kernel
theorem dX5_init_186 : decode cX5_init 186 = .ok (.bipush 18, 2) := by decide +kernel
theorem dX5_init_188 : decode cX5_init 188 = .ok (.bipush 107, 2) := by decide +kernel
theorem dX5_init_190 : decode cX5_init 190 = .ok (.iastore, 1) := by decide +kernel
theorem dX5_init_191 : decode cX5_init 191 = .ok (.dup, 1) := by decide +kernel
theorem dX5_init_192 : decode cX5_init 192 = .ok (.bipush 19, 2) := by decide +kernel
theorem dX5_init_194 : decode cX5_init 194 = .ok (.bipush 100, 2) := by decide +kernel
theorem dX5_init_196 : decode cX5_init 196 = .ok (.iastore, 1) := by decide +kernel
theorem dX5_init_197 : decode cX5_init 197 = .ok (.dup, 1) := by decide +kernel
theorem dX5_init_198 : decode cX5_init 198 = .ok (.bipush 20, 2) := by decide +kernel
theorem dX5_init_200 : decode cX5_init 200 = .ok (.bipush 114, 2) := by decide +kernel
theorem dX5_init_202 : decode cX5_init 202 = .ok (.iastore, 1) := by decide +kernel
theorem dX5_init_203 : decode cX5_init 203 = .ok (.dup, 1) := by decide +kernel
theorem dX5_init_204 : decode cX5_init 204 = .ok (.bipush 21, 2) := by decide +kernel
theorem dX5_init_206 : decode cX5_init 206 = .ok (.bipush 97, 2) := by decide +kernel
theorem dX5_init_208 : decode cX5_init 208 = .ok (.iastore, 1) := by decide +kernel
theorem dX5_init_209 : decode cX5_init 209 = .ok (.dup, 1) := by decide +kernel
theorem dX5_init_210 : decode cX5_init 210 = .ok (.bipush 22, 2) := by decide +kernel
theorem dX5_init_212 : decode cX5_init 212 = .ok (.bipush 103, 2) := by decide +kernel
theorem dX5_init_214 : decode cX5_init 214 = .ok (.iastore, 1) := by decide +kernel
theorem dX5_init_215 : decode cX5_init 215 = .ok (.dup, 1) := by decide +kernel
theorem dX5_init_216 : decode cX5_init 216 = .ok (.bipush 23, 2) := by decide +kernel
theorem dX5_init_218 : decode cX5_init 218 = .ok (.bipush 111, 2) := by decide +kernel
theorem dX5_init_220 : decode cX5_init 220 = .ok (.iastore, 1) := by decide +kernel
theorem dX5_init_221 : decode cX5_init 221 = .ok (.dup, 1) := by decide +kernel
theorem dX5_init_222 : decode cX5_init 222 = .ok (.bipush 24, 2) := by decide +kernel
theorem dX5_init_224 : decode cX5_init 224 = .ok (.bipush 110, 2) := by decide +kernel
theorem dX5_init_226 : decode cX5_init 226 = .ok (.iastore, 1) := by decide +kernel
theorem dX5_init_227 : decode cX5_init 227 = .ok (.dup, 1) := by decide +kernel
theorem dX5_init_228 : decode cX5_init 228 = .ok (.bipush 25, 2) := by decide +kernel
theorem dX5_init_230 : decode cX5_init 230 = .ok (.bipush 98, 2) := by decide +kernel
theorem dX5_init_232 : decode cX5_init 232 = .ok (.iastore, 1) := by decide +kernel
theorem dX5_init_233 : decode cX5_init 233 = .ok (.dup, 1) := by decide +kernel
theorem dX5_init_234 : decode cX5_init 234 = .ok (.bipush 26, 2) := by decide +kernel
theorem dX5_init_236 : decode cX5_init 236 = .ok (.bipush 97, 2) := by decide +kernel
theorem dX5_init_238 : decode cX5_init 238 = .ok (.iastore, 1) := by decide +kernel
theorem dX5_init_239 : decode cX5_init 239 = .ok (.dup, 1) := by decide +kernel
theorem dX5_init_240 : decode cX5_init 240 = .ok (.bipush 27, 2) := by decide +kernel
theorem dX5_init_242 : decode cX5_init 242 = .ok (.bipush 99, 2) := by decide +kernel
theorem dX5_init_244 : decode cX5_init 244 = .ok (.iastore, 1) := by decide +kernel
theorem dX5_init_245 : decode cX5_init 245 = .ok (.dup, 1) := by decide +kernel
theorem dX5_init_246 : decode cX5_init 246 = .ok (.bipush 28, 2) := by decide +kernel
theorem dX5_init_248 : decode cX5_init 248 = .ok (.bipush 107, 2) := by decide +kernel
theorem dX5_init_250 : decode cX5_init 250 = .ok (.iastore, 1) := by decide +kernel
theorem dX5_init_251 : decode cX5_init 251 = .ok (.putfield 22, 3) := by decide +kernel
theorem dX5_init_254 : decode cX5_init 254 = .ok (.aload_n 0, 1) := by decide +kernel
theorem dX5_init_255 : decode cX5_init 255 = .ok (.iconst 4, 1) := by decide +kernel
theorem dX5_init_256 : decode cX5_init 256 = .ok (.newarray .int, 2) := by decide +kernel
theorem dX5_init_258 : decode cX5_init 258 = .ok (.putfield 25, 3) := by decide +kernel
theorem dX5_init_261 : decode cX5_init 261 = .ok (.aload_n 0, 1) := by decide +kernel
theorem dX5_init_262 : decode cX5_init 262 = .ok (.bipush (-4), 2) := by decide +kernel
theorem dX5_init_264 : decode cX5_init 264 = .ok (.putfield 28, 3) := by decide +kernel
theorem dX5_init_267 : decode cX5_init 267 = .ok (.aload_n 0, 1) := by decide +kernel
theorem dX5_init_268 : decode cX5_init 268 = .ok (.bipush 18, 2) := by decide +kernel
theorem dX5_init_270 : decode cX5_init 270 = .ok (.newarray .int, 2) := by decide +kernel
theorem dX5_init_272 : decode cX5_init 272 = .ok (.putfield 32, 3) := by decide +kernel
theorem dX5_init_275 : decode cX5_init 275 = .ok (.aload_n 0, 1) := by decide +kernel
theorem dX5_init_276 : decode cX5_init 276 = .ok (.sipush 410, 3) := by decide +kernel
theorem dX5_init_279 : decode cX5_init 279 = .ok (.newarray .int, 2) := by decide +kernel
theorem dX5_init_281 : decode cX5_init 281 = .ok (.putfield 35, 3) := by decide +kernel
theorem dX5_init_284 : decode cX5_init 284 = .ok (.aload_n 0, 1) := by decide +kernel
theorem dX5_init_285 : decode cX5_init 285 = .ok (.iconst 2, 1) := by decide +kernel
theorem dX5_init_286 : decode cX5_init 286 = .ok (.newarray .boolean, 2) := by decide +kernel
theorem dX5_init_288 : decode cX5_init 288 = .ok (.putfield 38, 3) := by decide +kernel
theorem dX5_init_291 : decode cX5_init 291 = .ok (.aload_n 0, 1) := by decide +kernel
theorem dX5_init_292 : decode cX5_init 292 = .ok (.iconst 4, 1) := by decide +kernel
theorem dX5_init_293 : decode cX5_init 293 = .ok (.newarray .int, 2) := by decide +kernel
theorem dX5_init_295 : decode cX5_init 295 = .ok (.dup, 1) := by decide +kernel
theorem dX5_init_296 : decode cX5_init 296 = .ok (.iconst 0, 1) := by decide +kernel
theorem dX5_init_297 : decode cX5_init 297 = .ok (.bipush (-4), 2) := by decide +kernel
theorem dX5_init_299 : decode cX5_init 299 = .ok (.iastore, 1) := by decide +kernel
theorem dX5_init_300 : decode cX5_init 300 = .ok (.dup, 1) := by decide +kernel
theorem dX5_init_301 : decode cX5_init 301 = .ok (.iconst 1, 1) := by decide +kernel
theorem dX5_init_302 : decode cX5_init 302 = .ok (.bipush (-4), 2) := by decide +kernel
theorem dX5_init_304 : decode cX5_init 304 = .ok (.iastore, 1) := by decide +kernel
theorem dX5_init_305 : decode cX5_init 305 = .ok (.dup, 1) := by decide +kernel
theorem dX5_init_306 : decode cX5_init 306 = .ok (.iconst 2, 1) := by decide +kernel
theorem dX5_init_307 : decode cX5_init 307 = .ok (.bipush (-4), 2) := by decide +kernel
theorem dX5_init_309 : decode cX5_init 309 = .ok (.iastore, 1) := by decide +kernel
theorem dX5_init_310 : decode cX5_init 310 = .ok (.dup, 1) := by decide +kernel
theorem dX5_init_311 : decode cX5_init 311 = .ok (.iconst 3, 1) := by decide +kernel
theorem dX5_init_312 : decode cX5_init 312 = .ok (.bipush (-4), 2) := by decide +kernel
theorem dX5_init_314 : decode cX5_init 314 = .ok (.iastore, 1) := by decide +kernel
theorem dX5_init_315 : decode cX5_init 315 = .ok (.putfield 42, 3) := by decide +kernel
theorem dX5_init_318 : decode cX5_init 318 = .ok (.aload_n 0, 1) := by decide +kernel
theorem dX5_init_319 : decode cX5_init 319 = .ok (.iconst 4, 1) := by decide +kernel
theorem dX5_init_320 : decode cX5_init 320 = .ok (.newarray .int, 2) := by decide +kernel
theorem dX5_init_322 : decode cX5_init 322 = .ok (.putfield 45, 3) := by decide +kernel
theorem dX5_init_325 : decode cX5_init 325 = .ok (.aload_n 0, 1) := by decide +kernel
theorem dX5_init_326 : decode cX5_init 326 = .ok (.sipush 160, 3) := by decide +kernel
theorem dX5_init_329 : decode cX5_init 329 = .ok (.newarray .int, 2) := by decide +kernel
theorem dX5_init_331 : decode cX5_init 331 = .ok (.putfield 48, 3) := by decide +kernel
theorem dX5_init_334 : decode cX5_init 334 = .ok (.return_, 1) := by decide +kernel
theorem dX5_in_0 : decode cX5_in 0 = .ok (.lload_n 0, 1) := by decide +kernel
theorem dX5_in_1 : decode cX5_in 1 = .ok (.lload_n 2, 1) := by decide +kernel
theorem dX5_in_2 : decode cX5_in 2 = .ok (.lcmp, 1) := by decide +kernel
theorem dX5_in_3 : decode cX5_in 3 = .ok (.ifCond .lt 14, 3) := by decide +kernel
theorem dX5_in_6 : decode cX5_in 6 = .ok (.lload_n 0, 1) := by decide +kernel
theorem dX5_in_7 : decode cX5_in 7 = .ok (.lload 4, 2) := by decide +kernel
theorem dX5_in_9 : decode cX5_in 9 = .ok (.lcmp, 1) := by decide +kernel
theorem dX5_in_10 : decode cX5_in 10 = .ok (.ifCond .gt 7, 3) := by decide +kernel
theorem dX5_in_13 : decode cX5_in 13 = .ok (.iconst 1, 1) := by decide +kernel
theorem dX5_in_14 : decode cX5_in 14 = .ok (.goto 4, 3) := by decide +kernel
theorem dX5_in_17 : decode cX5_in 17 = .ok (.iconst 0, 1) := by decide +kernel
theorem dX5_in_18 : decode cX5_in 18 = .ok (.ireturn, 1) := by decide +kernel
theorem dX5_amount_0 : decode cX5_amount 0 = .ok (.iload_n 0, 1) := by decide +kernel
theorem dX5_amount_1 : decode cX5_amount 1 = .ok (.ifCond .ge 8, 3) := by decide +kernel
theorem dX5_amount_4 : decode cX5_amount 4 = .ok (.iload_n 0, 1) := by decide +kernel
theorem dX5_amount_5 : decode cX5_amount 5 = .ok (.ineg, 1) := by decide +kernel
theorem dX5_amount_6 : decode cX5_amount 6 = .ok (.goto 4, 3) := by decide +kernel
theorem dX5_amount_9 : decode cX5_amount 9 = .ok (.iload_n 0, 1) := by decide +kernel
theorem dX5_amount_10 : decode cX5_amount 10 = .ok (.ireturn, 1) := by decide +kernel
theorem dX5_feed_0 : decode cX5_feed 0 = .ok (.iload_n 1, 1) := by decide +kernel
theorem dX5_feed_1 : decode cX5_feed 1 = .ok (.i2l, 1) := by decide +kernel
theorem dX5_feed_2 : decode cX5_feed 2 = .ok (.lconst 0, 1) := by decide +kernel
theorem dX5_feed_3 : decode cX5_feed 3 = .ok (.ldc2_w 51, 3) := by decide +kernel
theorem dX5_feed_6 : decode cX5_feed 6 = .ok (.invokestatic 53, 3) := by decide +kernel
theorem dX5_feed_9 : decode cX5_feed 9 = .ok (.ifCond .ne 5, 3) := by decide +kernel
theorem dX5_feed_12 : decode cX5_feed 12 = .ok (.iconst (-1), 1) := by decide +kernel
theorem dX5_feed_13 : decode cX5_feed 13 = .ok (.ireturn, 1) := by decide +kernel
theorem dX5_feed_14 : decode cX5_feed 14 = .ok (.aload_n 0, 1) := by decide +kernel
theorem dX5_feed_15 : decode cX5_feed 15 = .ok (.getfield 57, 3) := by decide +kernel
theorem dX5_feed_18 : decode cX5_feed 18 = .ok (.sipush 160, 3) := by decide +kernel
theorem dX5_feed_21 : decode cX5_feed 21 = .ok (.if_icmp .ne 6, 3) := by decide +kernel
theorem dX5_feed_24 : decode cX5_feed 24 = .ok (.bipush (-3), 2) := by decide +kernel
theorem dX5_feed_26 : decode cX5_feed 26 = .ok (.ireturn, 1) := by decide +kernel
theorem dX5_feed_27 : decode cX5_feed 27 = .ok (.aload_n 0, 1) := by decide +kernel
theorem dX5_feed_28 : decode cX5_feed 28 = .ok (.getfield 16, 3) := by decide +kernel
theorem dX5_feed_31 : decode cX5_feed 31 = .ok (.aload_n 0, 1) := by decide +kernel
theorem dX5_feed_32 : decode cX5_feed 32 = .ok (.getfield 57, 3) := by decide +kernel
theorem dX5_feed_35 : decode cX5_feed 35 = .ok (.iload_n 1, 1) := by decide +kernel
theorem dX5_feed_36 : decode cX5_feed 36 = .ok (.iastore, 1) := by decide +kernel
theorem dX5_feed_37 : decode cX5_feed 37 = .ok (.aload_n 0, 1) := by decide +kernel
theorem dX5_feed_38 : decode cX5_feed 38 = .ok (.dup, 1) := by decide +kernel
theorem dX5_feed_39 : decode cX5_feed 39 = .ok (.getfield 57, 3) := by decide +kernel
theorem dX5_feed_42 : decode cX5_feed 42 = .ok (.iconst 1, 1) := by decide +kernel
theorem dX5_feed_43 : decode cX5_feed 43 = .ok (.iadd, 1) := by decide +kernel
theorem dX5_feed_44 : decode cX5_feed 44 = .ok (.putfield 57, 3) := by decide +kernel
theorem dX5_feed_47 : decode cX5_feed 47 = .ok (.aload_n 0, 1) := by decide +kernel
theorem dX5_feed_48 : decode cX5_feed 48 = .ok (.getfield 57, 3) := by decide +kernel
theorem dX5_feed_51 : decode cX5_feed 51 = .ok (.ireturn, 1) := by decide +kernel
theorem dX5_end_0 : decode cX5_end 0 = .ok (.iload_n 1, 1) := by decide +kernel
theorem dX5_end_1 : decode cX5_end 1 = .ok (.i2l, 1) := by decide +kernel
theorem dX5_end_2 : decode cX5_end 2 = .ok (.lconst 0, 1) := by decide +kernel
theorem dX5_end_3 : decode cX5_end 3 = .ok (.aload_n 0, 1) := by decide +kernel
theorem dX5_end_4 : decode cX5_end 4 = .ok (.getfield 57, 3) := by decide +kernel
theorem dX5_end_7 : decode cX5_end 7 = .ok (.i2l, 1) := by decide +kernel
theorem dX5_end_8 : decode cX5_end 8 = .ok (.invokestatic 53, 3) := by decide +kernel
theorem dX5_end_11 : decode cX5_end 11 = .ok (.ifCond .ne 5, 3) := by decide +kernel
theorem dX5_end_14 : decode cX5_end 14 = .ok (.iconst (-1), 1) := by decide +kernel
theorem dX5_end_15 : decode cX5_end 15 = .ok (.ireturn, 1) := by decide +kernel
theorem dX5_end_16 : decode cX5_end 16 = .ok (.aload_n 0, 1) := by decide +kernel
theorem dX5_end_17 : decode cX5_end 17 = .ok (.getfield 57, 3) := by decide +kernel
theorem dX5_end_20 : decode cX5_end 20 = .ok (.istore_n 2, 1) := by decide +kernel
theorem dX5_end_21 : decode cX5_end 21 = .ok (.aload_n 0, 1) := by decide +kernel
theorem dX5_end_22 : decode cX5_end 22 = .ok (.iload_n 1, 1) := by decide +kernel
theorem dX5_end_23 : decode cX5_end 23 = .ok (.putfield 57, 3) := by decide +kernel
theorem dX5_end_26 : decode cX5_end 26 = .ok (.iload_n 2, 1) := by decide +kernel
theorem dX5_end_27 : decode cX5_end 27 = .ok (.ireturn, 1) := by decide +kernel
theorem dX5_byteAt_0 : decode cX5_byteAt 0 = .ok (.iload_n 1, 1) := by decide +kernel
theorem dX5_byteAt_1 : decode cX5_byteAt 1 = .ok (.aload_n 0, 1) := by decide +kernel
theorem dX5_byteAt_2 : decode cX5_byteAt 2 = .ok (.getfield 57, 3) := by decide +kernel
theorem dX5_byteAt_5 : decode cX5_byteAt 5 = .ok (.if_icmp .ge 12, 3) := by decide +kernel
theorem dX5_byteAt_8 : decode cX5_byteAt 8 = .ok (.aload_n 0, 1) := by decide +kernel
theorem dX5_byteAt_9 : decode cX5_byteAt 9 = .ok (.getfield 16, 3) := by decide +kernel
theorem dX5_byteAt_12 : decode cX5_byteAt 12 = .ok (.iload_n 1, 1) := by decide +kernel
theorem dX5_byteAt_13 : decode cX5_byteAt 13 = .ok (.iaload, 1) := by decide +kernel
theorem dX5_byteAt_14 : decode cX5_byteAt 14 = .ok (.goto 5, 3) := by decide +kernel
theorem dX5_byteAt_17 : decode cX5_byteAt 17 = .ok (.bipush (-4), 2) := by decide +kernel
theorem dX5_byteAt_19 : decode cX5_byteAt 19 = .ok (.ireturn, 1) := by decide +kernel
theorem dX5_fails_0 : decode cX5_fails 0 = .ok (.aload_n 0, 1) := by decide +kernel
theorem dX5_fails_1 : decode cX5_fails 1 = .ok (.getfield 60, 3) := by decide +kernel
theorem dX5_fails_4 : decode cX5_fails 4 = .ok (.ifCond .ne 16, 3) := by decide +kernel
theorem dX5_fails_7 : decode cX5_fails 7 = .ok (.aload_n 0, 1) := by decide +kernel
theorem dX5_fails_8 : decode cX5_fails 8 = .ok (.iload_n 1, 1) := by decide +kernel
theorem dX5_fails_9 : decode cX5_fails 9 = .ok (.putfield 60, 3) := by decide +kernel
theorem dX5_fails_12 : decode cX5_fails 12 = .ok (.aload_n 0, 1) := by decide +kernel
theorem dX5_fails_13 : decode cX5_fails 13 = .ok (.aload_n 0, 1) := by decide +kernel
theorem dX5_fails_14 : decode cX5_fails 14 = .ok (.getfield 63, 3) := by decide +kernel
theorem dX5_fails_17 : decode cX5_fails 17 = .ok (.putfield 66, 3) := by decide +kernel
theorem dX5_fails_20 : decode cX5_fails 20 = .ok (.return_, 1) := by decide +kernel
theorem dX5_nameHere_0 : decode cX5_nameHere 0 = .ok (.iconst 0, 1) := by decide +kernel
theorem dX5_nameHere_1 : decode cX5_nameHere 1 = .ok (.istore_n 1, 1) := by decide +kernel
theorem dX5_nameHere_2 : decode cX5_nameHere 2 = .ok (.iload_n 1, 1) := by decide +kernel
theorem dX5_nameHere_3 : decode cX5_nameHere 3 = .ok (.bipush 7, 2) := by decide +kernel
theorem dX5_nameHere_5 : decode cX5_nameHere 5 = .ok (.if_icmp .ge 113, 3) := by decide +kernel
theorem dX5_nameHere_8 : decode cX5_nameHere 8 = .ok (.aload_n 0, 1) := by decide +kernel
theorem dX5_nameHere_9 : decode cX5_nameHere 9 = .ok (.getfield 69, 3) := by decide +kernel
theorem dX5_nameHere_12 : decode cX5_nameHere 12 = .ok (.iconst 1, 1) := by decide +kernel
theorem dX5_nameHere_13 : decode cX5_nameHere 13 = .ok (.if_icmp .ne 105, 3) := by decide +kernel
theorem dX5_nameHere_16 : decode cX5_nameHere 16 = .ok (.aload_n 0, 1) := by decide +kernel
theorem dX5_nameHere_17 : decode cX5_nameHere 17 = .ok (.getfield 72, 3) := by decide +kernel
theorem dX5_nameHere_20 : decode cX5_nameHere 20 = .ok (.aload_n 0, 1) := by decide +kernel
theorem dX5_nameHere_21 : decode cX5_nameHere 21 = .ok (.getfield 63, 3) := by decide +kernel
theorem dX5_nameHere_24 : decode cX5_nameHere 24 = .ok (.isub, 1) := by decide +kernel
theorem dX5_nameHere_25 : decode cX5_nameHere 25 = .ok (.aload_n 0, 1) := by decide +kernel
theorem dX5_nameHere_26 : decode cX5_nameHere 26 = .ok (.getfield 19, 3) := by decide +kernel
theorem dX5_nameHere_29 : decode cX5_nameHere 29 = .ok (.iload_n 1, 1) := by decide +kernel
theorem dX5_nameHere_30 : decode cX5_nameHere 30 = .ok (.iconst 1, 1) := by decide +kernel
theorem dX5_nameHere_31 : decode cX5_nameHere 31 = .ok (.iadd, 1) := by decide +kernel
theorem dX5_nameHere_32 : decode cX5_nameHere 32 = .ok (.iaload, 1) := by decide +kernel
theorem dX5_nameHere_33 : decode cX5_nameHere 33 = .ok (.aload_n 0, 1) := by decide +kernel
theorem dX5_nameHere_34 : decode cX5_nameHere 34 = .ok (.getfield 19, 3) := by decide +kernel
theorem dX5_nameHere_37 : decode cX5_nameHere 37 = .ok (.iload_n 1, 1) := by decide +kernel
theorem dX5_nameHere_38 : decode cX5_nameHere 38 = .ok (.iaload, 1) := by decide +kernel
theorem dX5_nameHere_39 : decode cX5_nameHere 39 = .ok (.isub, 1) := by decide +kernel
theorem dX5_nameHere_40 : decode cX5_nameHere 40 = .ok (.if_icmp .ne 7, 3) := by decide +kernel
theorem dX5_nameHere_43 : decode cX5_nameHere 43 = .ok (.iconst 1, 1) := by decide +kernel
theorem dX5_nameHere_44 : decode cX5_nameHere 44 = .ok (.goto 4, 3) := by decide +kernel
theorem dX5_nameHere_47 : decode cX5_nameHere 47 = .ok (.iconst 0, 1) := by decide +kernel
theorem dX5_nameHere_48 : decode cX5_nameHere 48 = .ok (.istore_n 2, 1) := by decide +kernel
theorem dX5_nameHere_49 : decode cX5_nameHere 49 = .ok (.iconst 0, 1) := by decide +kernel
theorem dX5_nameHere_50 : decode cX5_nameHere 50 = .ok (.istore_n 3, 1) := by decide +kernel
theorem dX5_nameHere_51 : decode cX5_nameHere 51 = .ok (.iload_n 2, 1) := by decide +kernel
theorem dX5_nameHere_52 : decode cX5_nameHere 52 = .ok (.ifCond .eq 54, 3) := by decide +kernel
theorem dX5_nameHere_55 : decode cX5_nameHere 55 = .ok (.iload_n 3, 1) := by decide +kernel
theorem dX5_nameHere_56 : decode cX5_nameHere 56 = .ok (.aload_n 0, 1) := by decide +kernel
theorem dX5_nameHere_57 : decode cX5_nameHere 57 = .ok (.getfield 72, 3) := by decide +kernel
theorem dX5_nameHere_60 : decode cX5_nameHere 60 = .ok (.aload_n 0, 1) := by decide +kernel
theorem dX5_nameHere_61 : decode cX5_nameHere 61 = .ok (.getfield 63, 3) := by decide +kernel
theorem dX5_nameHere_64 : decode cX5_nameHere 64 = .ok (.isub, 1) := by decide +kernel
theorem dX5_nameHere_65 : decode cX5_nameHere 65 = .ok (.if_icmp .ge 41, 3) := by decide +kernel
theorem dX5_nameHere_68 : decode cX5_nameHere 68 = .ok (.aload_n 0, 1) := by decide +kernel
theorem dX5_nameHere_69 : decode cX5_nameHere 69 = .ok (.aload_n 0, 1) := by decide +kernel
theorem dX5_nameHere_70 : decode cX5_nameHere 70 = .ok (.getfield 63, 3) := by decide +kernel
theorem dX5_nameHere_73 : decode cX5_nameHere 73 = .ok (.iload_n 3, 1) := by decide +kernel
theorem dX5_nameHere_74 : decode cX5_nameHere 74 = .ok (.iadd, 1) := by decide +kernel
theorem dX5_nameHere_75 : decode cX5_nameHere 75 = .ok (.invokevirtual 75, 3) := by decide +kernel
theorem dX5_nameHere_78 : decode cX5_nameHere 78 = .ok (.aload_n 0, 1) := by decide +kernel
theorem dX5_nameHere_79 : decode cX5_nameHere 79 = .ok (.getfield 22, 3) := by decide +kernel
theorem dX5_nameHere_82 : decode cX5_nameHere 82 = .ok (.aload_n 0, 1) := by decide +kernel
theorem dX5_nameHere_83 : decode cX5_nameHere 83 = .ok (.getfield 19, 3) := by decide +kernel
theorem dX5_nameHere_86 : decode cX5_nameHere 86 = .ok (.iload_n 1, 1) := by decide +kernel
theorem dX5_nameHere_87 : decode cX5_nameHere 87 = .ok (.iaload, 1) := by decide +kernel
theorem dX5_nameHere_88 : decode cX5_nameHere 88 = .ok (.iload_n 3, 1) := by decide +kernel
theorem dX5_nameHere_89 : decode cX5_nameHere 89 = .ok (.iadd, 1) := by decide +kernel
theorem dX5_nameHere_90 : decode cX5_nameHere 90 = .ok (.iaload, 1) := by decide +kernel
theorem dX5_nameHere_91 : decode cX5_nameHere 91 = .ok (.if_icmp .ne 7, 3) := by decide +kernel
theorem dX5_nameHere_94 : decode cX5_nameHere 94 = .ok (.iconst 1, 1) := by decide +kernel
theorem dX5_nameHere_95 : decode cX5_nameHere 95 = .ok (.goto 4, 3) := by decide +kernel
theorem dX5_nameHere_98 : decode cX5_nameHere 98 = .ok (.iconst 0, 1) := by decide +kernel
theorem dX5_nameHere_99 : decode cX5_nameHere 99 = .ok (.istore_n 2, 1) := by decide +kernel
theorem dX5_nameHere_100 : decode cX5_nameHere 100 = .ok (.iinc 3 1, 3) := by decide +kernel
theorem dX5_nameHere_103 : decode cX5_nameHere 103 = .ok (.goto (-52), 3) := by decide +kernel
theorem dX5_nameHere_106 : decode cX5_nameHere 106 = .ok (.iload_n 2, 1) := by decide +kernel
theorem dX5_nameHere_107 : decode cX5_nameHere 107 = .ok (.ifCond .eq 5, 3) := by decide +kernel
theorem dX5_nameHere_110 : decode cX5_nameHere 110 = .ok (.iload_n 1, 1) := by decide +kernel
theorem dX5_nameHere_111 : decode cX5_nameHere 111 = .ok (.ireturn, 1) := by decide +kernel
theorem dX5_nameHere_112 : decode cX5_nameHere 112 = .ok (.iinc 1 1, 3) := by decide +kernel
theorem dX5_nameHere_115 : decode cX5_nameHere 115 = .ok (.goto (-113), 3) := by decide +kernel
theorem dX5_nameHere_118 : decode cX5_nameHere 118 = .ok (.bipush (-4), 2) := by decide +kernel
theorem dX5_nameHere_120 : decode cX5_nameHere 120 = .ok (.ireturn, 1) := by decide +kernel
theorem dX5_readsOn_0 : decode cX5_readsOn 0 = .ok (.aload_n 0, 1) := by decide +kernel
theorem dX5_readsOn_1 : decode cX5_readsOn 1 = .ok (.getfield 60, 3) := by decide +kernel
theorem dX5_readsOn_4 : decode cX5_readsOn 4 = .ok (.ifCond .le 4, 3) := by decide +kernel
theorem dX5_readsOn_7 : decode cX5_readsOn 7 = .ok (.return_, 1) := by decide +kernel
theorem dX5_readsOn_8 : decode cX5_readsOn 8 = .ok (.aload_n 0, 1) := by decide +kernel
theorem dX5_readsOn_9 : decode cX5_readsOn 9 = .ok (.aload_n 0, 1) := by decide +kernel
theorem dX5_readsOn_10 : decode cX5_readsOn 10 = .ok (.getfield 72, 3) := by decide +kernel
theorem dX5_readsOn_13 : decode cX5_readsOn 13 = .ok (.invokevirtual 75, 3) := by decide +kernel
theorem dX5_readsOn_16 : decode cX5_readsOn 16 = .ok (.bipush 32, 2) := by decide +kernel
theorem dX5_readsOn_18 : decode cX5_readsOn 18 = .ok (.if_icmp .ne 16, 3) := by decide +kernel
theorem dX5_readsOn_21 : decode cX5_readsOn 21 = .ok (.aload_n 0, 1) := by decide +kernel
theorem dX5_readsOn_22 : decode cX5_readsOn 22 = .ok (.dup, 1) := by decide +kernel
theorem dX5_readsOn_23 : decode cX5_readsOn 23 = .ok (.getfield 72, 3) := by decide +kernel
theorem dX5_readsOn_26 : decode cX5_readsOn 26 = .ok (.iconst 1, 1) := by decide +kernel
theorem dX5_readsOn_27 : decode cX5_readsOn 27 = .ok (.iadd, 1) := by decide +kernel
theorem dX5_readsOn_28 : decode cX5_readsOn 28 = .ok (.putfield 72, 3) := by decide +kernel
theorem dX5_readsOn_31 : decode cX5_readsOn 31 = .ok (.goto (-23), 3) := by decide +kernel
theorem dX5_readsOn_34 : decode cX5_readsOn 34 = .ok (.aload_n 0, 1) := by decide +kernel
theorem dX5_readsOn_35 : decode cX5_readsOn 35 = .ok (.aload_n 0, 1) := by decide +kernel
theorem dX5_readsOn_36 : decode cX5_readsOn 36 = .ok (.getfield 72, 3) := by decide +kernel
theorem dX5_readsOn_39 : decode cX5_readsOn 39 = .ok (.putfield 63, 3) := by decide +kernel
theorem dX5_readsOn_42 : decode cX5_readsOn 42 = .ok (.aload_n 0, 1) := by decide +kernel
theorem dX5_readsOn_43 : decode cX5_readsOn 43 = .ok (.aload_n 0, 1) := by decide +kernel
theorem dX5_readsOn_44 : decode cX5_readsOn 44 = .ok (.getfield 72, 3) := by decide +kernel
theorem dX5_readsOn_47 : decode cX5_readsOn 47 = .ok (.invokevirtual 75, 3) := by decide +kernel
theorem dX5_readsOn_50 : decode cX5_readsOn 50 = .ok (.istore_n 1, 1) := by decide +kernel
theorem dX5_readsOn_51 : decode cX5_readsOn 51 = .ok (.aload_n 0, 1) := by decide +kernel
theorem dX5_readsOn_52 : decode cX5_readsOn 52 = .ok (.iconst 0, 1) := by decide +kernel
theorem dX5_readsOn_53 : decode cX5_readsOn 53 = .ok (.putfield 79, 3) := by decide +kernel
theorem dX5_readsOn_56 : decode cX5_readsOn 56 = .ok (.iload_n 1, 1) := by decide +kernel
theorem dX5_readsOn_57 : decode cX5_readsOn 57 = .ok (.bipush (-4), 2) := by decide +kernel
theorem dX5_readsOn_59 : decode cX5_readsOn 59 = .ok (.if_icmp .ne 11, 3) := by decide +kernel
theorem dX5_readsOn_62 : decode cX5_readsOn 62 = .ok (.aload_n 0, 1) := by decide +kernel
theorem dX5_readsOn_63 : decode cX5_readsOn 63 = .ok (.iconst 0, 1) := by decide +kernel
theorem dX5_readsOn_64 : decode cX5_readsOn 64 = .ok (.putfield 69, 3) := by decide +kernel
theorem dX5_readsOn_67 : decode cX5_readsOn 67 = .ok (.goto 202, 3) := by decide +kernel
theorem dX5_readsOn_70 : decode cX5_readsOn 70 = .ok (.iload_n 1, 1) := by decide +kernel
theorem dX5_readsOn_71 : decode cX5_readsOn 71 = .ok (.i2l, 1) := by decide +kernel
theorem dX5_readsOn_72 : decode cX5_readsOn 72 = .ok (.ldc2_w 82, 3) := by decide +kernel
theorem dX5_readsOn_75 : decode cX5_readsOn 75 = .ok (.ldc2_w 84, 3) := by decide +kernel
theorem dX5_readsOn_78 : decode cX5_readsOn 78 = .ok (.invokestatic 53, 3) := by decide +kernel
theorem dX5_readsOn_81 : decode cX5_readsOn 81 = .ok (.ifCond .eq 45, 3) := by decide +kernel
theorem dX5_readsOn_84 : decode cX5_readsOn 84 = .ok (.aload_n 0, 1) := by decide +kernel
theorem dX5_readsOn_85 : decode cX5_readsOn 85 = .ok (.aload_n 0, 1) := by decide +kernel
theorem dX5_readsOn_86 : decode cX5_readsOn 86 = .ok (.getfield 72, 3) := by decide +kernel
theorem dX5_readsOn_89 : decode cX5_readsOn 89 = .ok (.invokevirtual 75, 3) := by decide +kernel
theorem dX5_readsOn_92 : decode cX5_readsOn 92 = .ok (.i2l, 1) := by decide +kernel
theorem dX5_readsOn_93 : decode cX5_readsOn 93 = .ok (.ldc2_w 82, 3) := by decide +kernel
theorem dX5_readsOn_96 : decode cX5_readsOn 96 = .ok (.ldc2_w 84, 3) := by decide +kernel
theorem dX5_readsOn_99 : decode cX5_readsOn 99 = .ok (.invokestatic 53, 3) := by decide +kernel
theorem dX5_readsOn_102 : decode cX5_readsOn 102 = .ok (.ifCond .eq 16, 3) := by decide +kernel
theorem dX5_readsOn_105 : decode cX5_readsOn 105 = .ok (.aload_n 0, 1) := by decide +kernel
theorem dX5_readsOn_106 : decode cX5_readsOn 106 = .ok (.dup, 1) := by decide +kernel
theorem dX5_readsOn_107 : decode cX5_readsOn 107 = .ok (.getfield 72, 3) := by decide +kernel
theorem dX5_readsOn_110 : decode cX5_readsOn 110 = .ok (.iconst 1, 1) := by decide +kernel
theorem dX5_readsOn_111 : decode cX5_readsOn 111 = .ok (.iadd, 1) := by decide +kernel
theorem dX5_readsOn_112 : decode cX5_readsOn 112 = .ok (.putfield 72, 3) := by decide +kernel
theorem dX5_readsOn_115 : decode cX5_readsOn 115 = .ok (.goto (-31), 3) := by decide +kernel
theorem dX5_readsOn_118 : decode cX5_readsOn 118 = .ok (.aload_n 0, 1) := by decide +kernel
theorem dX5_readsOn_119 : decode cX5_readsOn 119 = .ok (.iconst 1, 1) := by decide +kernel
theorem dX5_readsOn_120 : decode cX5_readsOn 120 = .ok (.putfield 69, 3) := by decide +kernel
theorem dX5_readsOn_123 : decode cX5_readsOn 123 = .ok (.goto 146, 3) := by decide +kernel
theorem dX5_readsOn_126 : decode cX5_readsOn 126 = .ok (.iload_n 1, 1) := by decide +kernel
theorem dX5_readsOn_127 : decode cX5_readsOn 127 = .ok (.i2l, 1) := by decide +kernel
theorem dX5_readsOn_128 : decode cX5_readsOn 128 = .ok (.ldc2_w 86, 3) := by decide +kernel
theorem dX5_readsOn_131 : decode cX5_readsOn 131 = .ok (.ldc2_w 88, 3) := by decide +kernel
theorem dX5_readsOn_134 : decode cX5_readsOn 134 = .ok (.invokestatic 53, 3) := by decide +kernel
theorem dX5_readsOn_137 : decode cX5_readsOn 137 = .ok (.ifCond .eq 106, 3) := by decide +kernel
theorem dX5_readsOn_140 : decode cX5_readsOn 140 = .ok (.aload_n 0, 1) := by decide +kernel
theorem dX5_readsOn_141 : decode cX5_readsOn 141 = .ok (.aload_n 0, 1) := by decide +kernel
theorem dX5_readsOn_142 : decode cX5_readsOn 142 = .ok (.getfield 72, 3) := by decide +kernel
theorem dX5_readsOn_145 : decode cX5_readsOn 145 = .ok (.invokevirtual 75, 3) := by decide +kernel
theorem dX5_readsOn_148 : decode cX5_readsOn 148 = .ok (.i2l, 1) := by decide +kernel
theorem dX5_readsOn_149 : decode cX5_readsOn 149 = .ok (.ldc2_w 86, 3) := by decide +kernel
theorem dX5_readsOn_152 : decode cX5_readsOn 152 = .ok (.ldc2_w 88, 3) := by decide +kernel
theorem dX5_readsOn_155 : decode cX5_readsOn 155 = .ok (.invokestatic 53, 3) := by decide +kernel
theorem dX5_readsOn_158 : decode cX5_readsOn 158 = .ok (.ifCond .eq 59, 3) := by decide +kernel
theorem dX5_readsOn_161 : decode cX5_readsOn 161 = .ok (.aload_n 0, 1) := by decide +kernel
theorem dX5_readsOn_162 : decode cX5_readsOn 162 = .ok (.aload_n 0, 1) := by decide +kernel
theorem dX5_readsOn_163 : decode cX5_readsOn 163 = .ok (.getfield 72, 3) := by decide +kernel
theorem dX5_readsOn_166 : decode cX5_readsOn 166 = .ok (.aload_n 0, 1) := by decide +kernel
theorem dX5_readsOn_167 : decode cX5_readsOn 167 = .ok (.getfield 63, 3) := by decide +kernel
theorem dX5_readsOn_170 : decode cX5_readsOn 170 = .ok (.isub, 1) := by decide +kernel
theorem dX5_readsOn_171 : decode cX5_readsOn 171 = .ok (.iconst 2, 1) := by decide +kernel
theorem dX5_readsOn_172 : decode cX5_readsOn 172 = .ok (.if_icmp .ge 25, 3) := by decide +kernel
theorem dX5_readsOn_175 : decode cX5_readsOn 175 = .ok (.bipush 10, 2) := by decide +kernel
theorem dX5_readsOn_177 : decode cX5_readsOn 177 = .ok (.aload_n 0, 1) := by decide +kernel
theorem dX5_readsOn_178 : decode cX5_readsOn 178 = .ok (.getfield 79, 3) := by decide +kernel
theorem dX5_readsOn_181 : decode cX5_readsOn 181 = .ok (.imul, 1) := by decide +kernel
theorem dX5_readsOn_182 : decode cX5_readsOn 182 = .ok (.aload_n 0, 1) := by decide +kernel
theorem dX5_readsOn_183 : decode cX5_readsOn 183 = .ok (.aload_n 0, 1) := by decide +kernel
theorem dX5_readsOn_184 : decode cX5_readsOn 184 = .ok (.getfield 72, 3) := by decide +kernel
theorem dX5_readsOn_187 : decode cX5_readsOn 187 = .ok (.invokevirtual 75, 3) := by decide +kernel
theorem dX5_readsOn_190 : decode cX5_readsOn 190 = .ok (.iadd, 1) := by decide +kernel
theorem dX5_readsOn_191 : decode cX5_readsOn 191 = .ok (.bipush 48, 2) := by decide +kernel
theorem dX5_readsOn_193 : decode cX5_readsOn 193 = .ok (.isub, 1) := by decide +kernel
theorem dX5_readsOn_194 : decode cX5_readsOn 194 = .ok (.goto 7, 3) := by decide +kernel
theorem dX5_readsOn_197 : decode cX5_readsOn 197 = .ok (.aload_n 0, 1) := by decide +kernel
theorem dX5_readsOn_198 : decode cX5_readsOn 198 = .ok (.getfield 79, 3) := by decide +kernel
theorem dX5_readsOn_201 : decode cX5_readsOn 201 = .ok (.putfield 79, 3) := by decide +kernel
theorem dX5_readsOn_204 : decode cX5_readsOn 204 = .ok (.aload_n 0, 1) := by decide +kernel
theorem dX5_readsOn_205 : decode cX5_readsOn 205 = .ok (.dup, 1) := by decide +kernel
theorem dX5_readsOn_206 : decode cX5_readsOn 206 = .ok (.getfield 72, 3) := by decide +kernel
theorem dX5_readsOn_209 : decode cX5_readsOn 209 = .ok (.iconst 1, 1) := by decide +kernel
theorem dX5_readsOn_210 : decode cX5_readsOn 210 = .ok (.iadd, 1) := by decide +kernel
theorem dX5_readsOn_211 : decode cX5_readsOn 211 = .ok (.putfield 72, 3) := by decide +kernel
theorem dX5_readsOn_214 : decode cX5_readsOn 214 = .ok (.goto (-74), 3) := by decide +kernel
theorem dX5_readsOn_217 : decode cX5_readsOn 217 = .ok (.aload_n 0, 1) := by decide +kernel
theorem dX5_readsOn_218 : decode cX5_readsOn 218 = .ok (.iconst 2, 1) := by decide +kernel
theorem dX5_readsOn_219 : decode cX5_readsOn 219 = .ok (.putfield 69, 3) := by decide +kernel
theorem dX5_readsOn_222 : decode cX5_readsOn 222 = .ok (.aload_n 0, 1) := by decide +kernel
theorem dX5_readsOn_223 : decode cX5_readsOn 223 = .ok (.getfield 72, 3) := by decide +kernel
theorem dX5_readsOn_226 : decode cX5_readsOn 226 = .ok (.aload_n 0, 1) := by decide +kernel
theorem dX5_readsOn_227 : decode cX5_readsOn 227 = .ok (.getfield 63, 3) := by decide +kernel
theorem dX5_readsOn_230 : decode cX5_readsOn 230 = .ok (.isub, 1) := by decide +kernel
theorem dX5_readsOn_231 : decode cX5_readsOn 231 = .ok (.iconst 2, 1) := by decide +kernel
theorem dX5_readsOn_232 : decode cX5_readsOn 232 = .ok (.if_icmp .le 37, 3) := by decide +kernel
theorem dX5_readsOn_235 : decode cX5_readsOn 235 = .ok (.aload_n 0, 1) := by decide +kernel
theorem dX5_readsOn_236 : decode cX5_readsOn 236 = .ok (.iconst 1, 1) := by decide +kernel
theorem dX5_readsOn_237 : decode cX5_readsOn 237 = .ok (.invokevirtual 90, 3) := by decide +kernel
theorem dX5_readsOn_240 : decode cX5_readsOn 240 = .ok (.goto 29, 3) := by decide +kernel
theorem dX5_readsOn_243 : decode cX5_readsOn 243 = .ok (.aload_n 0, 1) := by decide +kernel
theorem dX5_readsOn_244 : decode cX5_readsOn 244 = .ok (.iconst 3, 1) := by decide +kernel
theorem dX5_readsOn_245 : decode cX5_readsOn 245 = .ok (.putfield 69, 3) := by decide +kernel
theorem dX5_readsOn_248 : decode cX5_readsOn 248 = .ok (.aload_n 0, 1) := by decide +kernel
theorem dX5_readsOn_249 : decode cX5_readsOn 249 = .ok (.dup, 1) := by decide +kernel
theorem dX5_readsOn_250 : decode cX5_readsOn 250 = .ok (.getfield 72, 3) := by decide +kernel
theorem dX5_readsOn_253 : decode cX5_readsOn 253 = .ok (.iconst 1, 1) := by decide +kernel
theorem dX5_readsOn_254 : decode cX5_readsOn 254 = .ok (.iadd, 1) := by decide +kernel
theorem dX5_readsOn_255 : decode cX5_readsOn 255 = .ok (.putfield 72, 3) := by decide +kernel
theorem dX5_readsOn_258 : decode cX5_readsOn 258 = .ok (.iload_n 1, 1) := by decide +kernel
theorem dX5_readsOn_259 : decode cX5_readsOn 259 = .ok (.bipush 59, 2) := by decide +kernel
theorem dX5_readsOn_261 : decode cX5_readsOn 261 = .ok (.if_icmp .eq 8, 3) := by decide +kernel
theorem dX5_readsOn_264 : decode cX5_readsOn 264 = .ok (.aload_n 0, 1) := by decide +kernel
theorem dX5_readsOn_265 : decode cX5_readsOn 265 = .ok (.iconst 1, 1) := by decide +kernel
theorem dX5_readsOn_266 : decode cX5_readsOn 266 = .ok (.invokevirtual 90, 3) := by decide +kernel
theorem dX5_readsOn_269 : decode cX5_readsOn 269 = .ok (.return_, 1) := by decide +kernel
theorem dX5_number_0 : decode cX5_number 0 = .ok (.aload_n 0, 1) := by decide +kernel
theorem dX5_number_1 : decode cX5_number 1 = .ok (.getfield 60, 3) := by decide +kernel
theorem dX5_number_4 : decode cX5_number 4 = .ok (.ifCond .ne 16, 3) := by decide +kernel
theorem dX5_number_7 : decode cX5_number 7 = .ok (.aload_n 0, 1) := by decide +kernel
theorem dX5_number_8 : decode cX5_number 8 = .ok (.getfield 69, 3) := by decide +kernel
theorem dX5_number_11 : decode cX5_number 11 = .ok (.iconst 2, 1) := by decide +kernel
theorem dX5_number_12 : decode cX5_number 12 = .ok (.if_icmp .eq 8, 3) := by decide +kernel
theorem dX5_number_15 : decode cX5_number 15 = .ok (.aload_n 0, 1) := by decide +kernel
theorem dX5_number_16 : decode cX5_number 16 = .ok (.iconst 2, 1) := by decide +kernel
theorem dX5_number_17 : decode cX5_number 17 = .ok (.invokevirtual 90, 3) := by decide +kernel
theorem dX5_number_20 : decode cX5_number 20 = .ok (.aload_n 0, 1) := by decide +kernel
theorem dX5_number_21 : decode cX5_number 21 = .ok (.getfield 60, 3) := by decide +kernel
theorem dX5_number_24 : decode cX5_number 24 = .ok (.ifCond .ne 23, 3) := by decide +kernel
theorem dX5_number_27 : decode cX5_number 27 = .ok (.aload_n 0, 1) := by decide +kernel
theorem dX5_number_28 : decode cX5_number 28 = .ok (.getfield 79, 3) := by decide +kernel
theorem dX5_number_31 : decode cX5_number 31 = .ok (.i2l, 1) := by decide +kernel
theorem dX5_number_32 : decode cX5_number 32 = .ok (.iload_n 1, 1) := by decide +kernel
theorem dX5_number_33 : decode cX5_number 33 = .ok (.i2l, 1) := by decide +kernel
theorem dX5_number_34 : decode cX5_number 34 = .ok (.iload_n 2, 1) := by decide +kernel
theorem dX5_number_35 : decode cX5_number 35 = .ok (.i2l, 1) := by decide +kernel
theorem dX5_number_36 : decode cX5_number 36 = .ok (.invokestatic 53, 3) := by decide +kernel
theorem dX5_number_39 : decode cX5_number 39 = .ok (.ifCond .ne 8, 3) := by decide +kernel
theorem dX5_number_42 : decode cX5_number 42 = .ok (.aload_n 0, 1) := by decide +kernel
theorem dX5_number_43 : decode cX5_number 43 = .ok (.iconst 3, 1) := by decide +kernel
theorem dX5_number_44 : decode cX5_number 44 = .ok (.invokevirtual 90, 3) := by decide +kernel
theorem dX5_number_47 : decode cX5_number 47 = .ok (.aload_n 0, 1) := by decide +kernel
theorem dX5_number_48 : decode cX5_number 48 = .ok (.getfield 60, 3) := by decide +kernel
theorem dX5_number_51 : decode cX5_number 51 = .ok (.ifCond .ne 10, 3) := by decide +kernel
theorem dX5_number_54 : decode cX5_number 54 = .ok (.aload_n 0, 1) := by decide +kernel
theorem dX5_number_55 : decode cX5_number 55 = .ok (.getfield 79, 3) := by decide +kernel
theorem dX5_number_58 : decode cX5_number 58 = .ok (.goto 4, 3) := by decide +kernel
theorem dX5_number_61 : decode cX5_number 61 = .ok (.iload_n 1, 1) := by decide +kernel
theorem dX5_number_62 : decode cX5_number 62 = .ok (.istore_n 3, 1) := by decide +kernel
theorem dX5_number_63 : decode cX5_number 63 = .ok (.aload_n 0, 1) := by decide +kernel
theorem dX5_number_64 : decode cX5_number 64 = .ok (.invokevirtual 94, 3) := by decide +kernel
theorem dX5_number_67 : decode cX5_number 67 = .ok (.iload_n 3, 1) := by decide +kernel
theorem dX5_number_68 : decode cX5_number 68 = .ok (.ireturn, 1) := by decide +kernel
theorem dX5_readMore_0 : decode cX5_readMore 0 = .ok (.iload_n 1, 1) := by decide +kernel
theorem dX5_readMore_1 : decode cX5_readMore 1 = .ok (.iconst 3, 1) := by decide +kernel
theorem dX5_readMore_2 : decode cX5_readMore 2 = .ok (.if_icmp .gt 116, 3) := by decide +kernel
theorem dX5_readMore_5 : decode cX5_readMore 5 = .ok (.aload_n 0, 1) := by decide +kernel
theorem dX5_readMore_6 : decode cX5_readMore 6 = .ok (.getfield 13, 3) := by decide +kernel
theorem dX5_readMore_9 : decode cX5_readMore 9 = .ok (.bipush 24, 2) := by decide +kernel
theorem dX5_readMore_11 : decode cX5_readMore 11 = .ok (.iaload, 1) := by decide +kernel
theorem dX5_readMore_12 : decode cX5_readMore 12 = .ok (.istore_n 2, 1) := by decide +kernel
theorem dX5_readMore_13 : decode cX5_readMore 13 = .ok (.aload_n 0, 1) := by decide +kernel
theorem dX5_readMore_14 : decode cX5_readMore 14 = .ok (.getfield 13, 3) := by decide +kernel
theorem dX5_readMore_17 : decode cX5_readMore 17 = .ok (.iload_n 2, 1) := by decide +kernel
theorem dX5_readMore_18 : decode cX5_readMore 18 = .ok (.iload_n 1, 1) := by decide +kernel
theorem dX5_readMore_19 : decode cX5_readMore 19 = .ok (.iastore, 1) := by decide +kernel
theorem dX5_readMore_20 : decode cX5_readMore 20 = .ok (.aload_n 0, 1) := by decide +kernel
theorem dX5_readMore_21 : decode cX5_readMore 21 = .ok (.getfield 13, 3) := by decide +kernel
theorem dX5_readMore_24 : decode cX5_readMore 24 = .ok (.iconst 4, 1) := by decide +kernel
theorem dX5_readMore_25 : decode cX5_readMore 25 = .ok (.iload_n 2, 1) := by decide +kernel
theorem dX5_readMore_26 : decode cX5_readMore 26 = .ok (.iadd, 1) := by decide +kernel
theorem dX5_readMore_27 : decode cX5_readMore 27 = .ok (.aload_n 0, 1) := by decide +kernel
theorem dX5_readMore_28 : decode cX5_readMore 28 = .ok (.iconst 0, 1) := by decide +kernel
theorem dX5_readMore_29 : decode cX5_readMore 29 = .ok (.bipush 60, 2) := by decide +kernel
theorem dX5_readMore_31 : decode cX5_readMore 31 = .ok (.invokevirtual 97, 3) := by decide +kernel
theorem dX5_readMore_34 : decode cX5_readMore 34 = .ok (.iastore, 1) := by decide +kernel
theorem dX5_readMore_35 : decode cX5_readMore 35 = .ok (.aload_n 0, 1) := by decide +kernel
theorem dX5_readMore_36 : decode cX5_readMore 36 = .ok (.getfield 13, 3) := by decide +kernel
theorem dX5_readMore_39 : decode cX5_readMore 39 = .ok (.bipush 8, 2) := by decide +kernel
theorem dX5_readMore_41 : decode cX5_readMore 41 = .ok (.iload_n 2, 1) := by decide +kernel
theorem dX5_readMore_42 : decode cX5_readMore 42 = .ok (.iadd, 1) := by decide +kernel
theorem dX5_readMore_43 : decode cX5_readMore 43 = .ok (.aload_n 0, 1) := by decide +kernel
theorem dX5_readMore_44 : decode cX5_readMore 44 = .ok (.iconst 0, 1) := by decide +kernel
theorem dX5_readMore_45 : decode cX5_readMore 45 = .ok (.bipush 9, 2) := by decide +kernel
theorem dX5_readMore_47 : decode cX5_readMore 47 = .ok (.invokevirtual 97, 3) := by decide +kernel
theorem dX5_readMore_50 : decode cX5_readMore 50 = .ok (.iastore, 1) := by decide +kernel
theorem dX5_readMore_51 : decode cX5_readMore 51 = .ok (.aload_n 0, 1) := by decide +kernel
theorem dX5_readMore_52 : decode cX5_readMore 52 = .ok (.getfield 13, 3) := by decide +kernel
theorem dX5_readMore_55 : decode cX5_readMore 55 = .ok (.bipush 12, 2) := by decide +kernel
theorem dX5_readMore_57 : decode cX5_readMore 57 = .ok (.iload_n 2, 1) := by decide +kernel
theorem dX5_readMore_58 : decode cX5_readMore 58 = .ok (.iadd, 1) := by decide +kernel
theorem dX5_readMore_59 : decode cX5_readMore 59 = .ok (.aload_n 0, 1) := by decide +kernel
theorem dX5_readMore_60 : decode cX5_readMore 60 = .ok (.iconst 1, 1) := by decide +kernel
theorem dX5_readMore_61 : decode cX5_readMore 61 = .ok (.bipush 9, 2) := by decide +kernel
theorem dX5_readMore_63 : decode cX5_readMore 63 = .ok (.invokevirtual 97, 3) := by decide +kernel
theorem dX5_readMore_66 : decode cX5_readMore 66 = .ok (.iastore, 1) := by decide +kernel
theorem dX5_readMore_67 : decode cX5_readMore 67 = .ok (.aload_n 0, 1) := by decide +kernel
theorem dX5_readMore_68 : decode cX5_readMore 68 = .ok (.getfield 13, 3) := by decide +kernel
theorem dX5_readMore_71 : decode cX5_readMore 71 = .ok (.bipush 16, 2) := by decide +kernel
theorem dX5_readMore_73 : decode cX5_readMore 73 = .ok (.iload_n 2, 1) := by decide +kernel
theorem dX5_readMore_74 : decode cX5_readMore 74 = .ok (.iadd, 1) := by decide +kernel
theorem dX5_readMore_75 : decode cX5_readMore 75 = .ok (.iload_n 2, 1) := by decide +kernel
theorem dX5_readMore_76 : decode cX5_readMore 76 = .ok (.ifCond .ne 7, 3) := by decide +kernel
theorem dX5_readMore_79 : decode cX5_readMore 79 = .ok (.iconst 0, 1) := by decide +kernel
theorem dX5_readMore_80 : decode cX5_readMore 80 = .ok (.goto 14, 3) := by decide +kernel
theorem dX5_readMore_83 : decode cX5_readMore 83 = .ok (.aload_n 0, 1) := by decide +kernel
theorem dX5_readMore_84 : decode cX5_readMore 84 = .ok (.getfield 13, 3) := by decide +kernel
theorem dX5_readMore_87 : decode cX5_readMore 87 = .ok (.bipush 16, 2) := by decide +kernel
theorem dX5_readMore_89 : decode cX5_readMore 89 = .ok (.iload_n 2, 1) := by decide +kernel
theorem dX5_readMore_90 : decode cX5_readMore 90 = .ok (.iadd, 1) := by decide +kernel
theorem dX5_readMore_91 : decode cX5_readMore 91 = .ok (.iconst 1, 1) := by decide +kernel
theorem dX5_readMore_92 : decode cX5_readMore 92 = .ok (.isub, 1) := by decide +kernel
theorem dX5_readMore_93 : decode cX5_readMore 93 = .ok (.iaload, 1) := by decide +kernel
theorem dX5_readMore_94 : decode cX5_readMore 94 = .ok (.aload_n 0, 1) := by decide +kernel
theorem dX5_readMore_95 : decode cX5_readMore 95 = .ok (.getfield 13, 3) := by decide +kernel
theorem dX5_readMore_98 : decode cX5_readMore 98 = .ok (.iconst 4, 1) := by decide +kernel
theorem dX5_readMore_99 : decode cX5_readMore 99 = .ok (.iload_n 2, 1) := by decide +kernel
theorem dX5_readMore_100 : decode cX5_readMore 100 = .ok (.iadd, 1) := by decide +kernel
theorem dX5_readMore_101 : decode cX5_readMore 101 = .ok (.iaload, 1) := by decide +kernel
theorem dX5_readMore_102 : decode cX5_readMore 102 = .ok (.iadd, 1) := by decide +kernel
theorem dX5_readMore_103 : decode cX5_readMore 103 = .ok (.iastore, 1) := by decide +kernel
theorem dX5_readMore_104 : decode cX5_readMore 104 = .ok (.aload_n 0, 1) := by decide +kernel
theorem dX5_readMore_105 : decode cX5_readMore 105 = .ok (.getfield 13, 3) := by decide +kernel
theorem dX5_readMore_108 : decode cX5_readMore 108 = .ok (.bipush 24, 2) := by decide +kernel
theorem dX5_readMore_110 : decode cX5_readMore 110 = .ok (.dup2, 1) := by decide +kernel
theorem dX5_readMore_111 : decode cX5_readMore 111 = .ok (.iaload, 1) := by decide +kernel
theorem dX5_readMore_112 : decode cX5_readMore 112 = .ok (.iconst 1, 1) := by decide +kernel
theorem dX5_readMore_113 : decode cX5_readMore 113 = .ok (.iadd, 1) := by decide +kernel
theorem dX5_readMore_114 : decode cX5_readMore 114 = .ok (.iastore, 1) := by decide +kernel
theorem dX5_readMore_115 : decode cX5_readMore 115 = .ok (.goto 86, 3) := by decide +kernel
theorem dX5_readMore_118 : decode cX5_readMore 118 = .ok (.iload_n 1, 1) := by decide +kernel
theorem dX5_readMore_119 : decode cX5_readMore 119 = .ok (.iconst 4, 1) := by decide +kernel
theorem dX5_readMore_120 : decode cX5_readMore 120 = .ok (.if_icmp .ne 19, 3) := by decide +kernel
theorem dX5_readMore_123 : decode cX5_readMore 123 = .ok (.aload_n 0, 1) := by decide +kernel
theorem dX5_readMore_124 : decode cX5_readMore 124 = .ok (.getfield 13, 3) := by decide +kernel
theorem dX5_readMore_127 : decode cX5_readMore 127 = .ok (.bipush 50, 2) := by decide +kernel
theorem dX5_readMore_129 : decode cX5_readMore 129 = .ok (.aload_n 0, 1) := by decide +kernel
theorem dX5_readMore_130 : decode cX5_readMore 130 = .ok (.iconst 0, 1) := by decide +kernel
theorem dX5_readMore_131 : decode cX5_readMore 131 = .ok (.iconst 3, 1) := by decide +kernel
theorem dX5_readMore_132 : decode cX5_readMore 132 = .ok (.invokevirtual 97, 3) := by decide +kernel
theorem dX5_readMore_135 : decode cX5_readMore 135 = .ok (.iastore, 1) := by decide +kernel
theorem dX5_readMore_136 : decode cX5_readMore 136 = .ok (.goto 65, 3) := by decide +kernel
theorem dX5_readMore_139 : decode cX5_readMore 139 = .ok (.aload_n 0, 1) := by decide +kernel
theorem dX5_readMore_140 : decode cX5_readMore 140 = .ok (.getfield 13, 3) := by decide +kernel
theorem dX5_readMore_143 : decode cX5_readMore 143 = .ok (.bipush 49, 2) := by decide +kernel
theorem dX5_readMore_145 : decode cX5_readMore 145 = .ok (.iaload, 1) := by decide +kernel
theorem dX5_readMore_146 : decode cX5_readMore 146 = .ok (.istore_n 2, 1) := by decide +kernel
theorem dX5_readMore_147 : decode cX5_readMore 147 = .ok (.aload_n 0, 1) := by decide +kernel
theorem dX5_readMore_148 : decode cX5_readMore 148 = .ok (.getfield 13, 3) := by decide +kernel
theorem dX5_readMore_151 : decode cX5_readMore 151 = .ok (.bipush 25, 2) := by decide +kernel
theorem dX5_readMore_153 : decode cX5_readMore 153 = .ok (.iload_n 2, 1) := by decide +kernel
theorem dX5_readMore_154 : decode cX5_readMore 154 = .ok (.iadd, 1) := by decide +kernel
theorem dX5_readMore_155 : decode cX5_readMore 155 = .ok (.aload_n 0, 1) := by decide +kernel
theorem dX5_readMore_156 : decode cX5_readMore 156 = .ok (.iconst 0, 1) := by decide +kernel
theorem dX5_readMore_157 : decode cX5_readMore 157 = .ok (.iconst 3, 1) := by decide +kernel
theorem dX5_readMore_158 : decode cX5_readMore 158 = .ok (.invokevirtual 97, 3) := by decide +kernel
theorem dX5_readMore_161 : decode cX5_readMore 161 = .ok (.iastore, 1) := by decide +kernel
theorem dX5_readMore_162 : decode cX5_readMore 162 = .ok (.aload_n 0, 1) := by decide +kernel
theorem dX5_readMore_163 : decode cX5_readMore 163 = .ok (.iconst 0, 1) := by decide +kernel
theorem dX5_readMore_164 : decode cX5_readMore 164 = .ok (.bipush 9, 2) := by decide +kernel
theorem dX5_readMore_166 : decode cX5_readMore 166 = .ok (.invokevirtual 97, 3) := by decide +kernel
theorem dX5_readMore_169 : decode cX5_readMore 169 = .ok (.istore_n 3, 1) := by decide +kernel
theorem dX5_readMore_170 : decode cX5_readMore 170 = .ok (.aload_n 0, 1) := by decide +kernel
theorem dX5_readMore_171 : decode cX5_readMore 171 = .ok (.getfield 13, 3) := by decide +kernel
theorem dX5_readMore_174 : decode cX5_readMore 174 = .ok (.bipush 37, 2) := by decide +kernel
theorem dX5_readMore_176 : decode cX5_readMore 176 = .ok (.iload_n 2, 1) := by decide +kernel
theorem dX5_readMore_177 : decode cX5_readMore 177 = .ok (.iadd, 1) := by decide +kernel
theorem dX5_readMore_178 : decode cX5_readMore 178 = .ok (.iload_n 1, 1) := by decide +kernel
theorem dX5_readMore_179 : decode cX5_readMore 179 = .ok (.iconst 5, 1) := by decide +kernel
theorem dX5_readMore_180 : decode cX5_readMore 180 = .ok (.if_icmp .ne 7, 3) := by decide +kernel
theorem dX5_readMore_183 : decode cX5_readMore 183 = .ok (.iload_n 3, 1) := by decide +kernel
theorem dX5_readMore_184 : decode cX5_readMore 184 = .ok (.goto 5, 3) := by decide +kernel
theorem dX5_readMore_187 : decode cX5_readMore 187 = .ok (.iload_n 3, 1) := by decide +kernel
theorem dX5_readMore_188 : decode cX5_readMore 188 = .ok (.ineg, 1) := by decide +kernel
theorem dX5_readMore_189 : decode cX5_readMore 189 = .ok (.iastore, 1) := by decide +kernel
theorem dX5_readMore_190 : decode cX5_readMore 190 = .ok (.aload_n 0, 1) := by decide +kernel
theorem dX5_readMore_191 : decode cX5_readMore 191 = .ok (.getfield 13, 3) := by decide +kernel
theorem dX5_readMore_194 : decode cX5_readMore 194 = .ok (.bipush 49, 2) := by decide +kernel
theorem dX5_readMore_196 : decode cX5_readMore 196 = .ok (.dup2, 1) := by decide +kernel
theorem dX5_readMore_197 : decode cX5_readMore 197 = .ok (.iaload, 1) := by decide +kernel
theorem dX5_readMore_198 : decode cX5_readMore 198 = .ok (.iconst 1, 1) := by decide +kernel
theorem dX5_readMore_199 : decode cX5_readMore 199 = .ok (.iadd, 1) := by decide +kernel
theorem dX5_readMore_200 : decode cX5_readMore 200 = .ok (.iastore, 1) := by decide +kernel
theorem dX5_readMore_201 : decode cX5_readMore 201 = .ok (.return_, 1) := by decide +kernel
theorem dX5_readLine_0 : decode cX5_readLine 0 = .ok (.aload_n 0, 1) := by decide +kernel
theorem dX5_readLine_1 : decode cX5_readLine 1 = .ok (.invokevirtual 101, 3) := by decide +kernel
theorem dX5_readLine_4 : decode cX5_readLine 4 = .ok (.istore_n 1, 1) := by decide +kernel
theorem dX5_readLine_5 : decode cX5_readLine 5 = .ok (.iload_n 1, 1) := by decide +kernel
theorem dX5_readLine_6 : decode cX5_readLine 6 = .ok (.i2l, 1) := by decide +kernel
theorem dX5_readLine_7 : decode cX5_readLine 7 = .ok (.lconst 0, 1) := by decide +kernel
theorem dX5_readLine_8 : decode cX5_readLine 8 = .ok (.ldc2_w 105, 3) := by decide +kernel
theorem dX5_readLine_11 : decode cX5_readLine 11 = .ok (.invokestatic 53, 3) := by decide +kernel
theorem dX5_readLine_14 : decode cX5_readLine 14 = .ok (.ifCond .ne 9, 3) := by decide +kernel
theorem dX5_readLine_17 : decode cX5_readLine 17 = .ok (.aload_n 0, 1) := by decide +kernel
theorem dX5_readLine_18 : decode cX5_readLine 18 = .ok (.iconst 2, 1) := by decide +kernel
theorem dX5_readLine_19 : decode cX5_readLine 19 = .ok (.invokevirtual 90, 3) := by decide +kernel
theorem dX5_readLine_22 : decode cX5_readLine 22 = .ok (.return_, 1) := by decide +kernel
theorem dX5_readLine_23 : decode cX5_readLine 23 = .ok (.iload_n 1, 1) := by decide +kernel
theorem dX5_readLine_24 : decode cX5_readLine 24 = .ok (.iconst 3, 1) := by decide +kernel
theorem dX5_readLine_25 : decode cX5_readLine 25 = .ok (.if_icmp .gt 14, 3) := by decide +kernel
theorem dX5_readLine_28 : decode cX5_readLine 28 = .ok (.aload_n 0, 1) := by decide +kernel
theorem dX5_readLine_29 : decode cX5_readLine 29 = .ok (.getfield 13, 3) := by decide +kernel
theorem dX5_readLine_32 : decode cX5_readLine 32 = .ok (.bipush 24, 2) := by decide +kernel
theorem dX5_readLine_34 : decode cX5_readLine 34 = .ok (.iaload, 1) := by decide +kernel
theorem dX5_readLine_35 : decode cX5_readLine 35 = .ok (.iconst 4, 1) := by decide +kernel
theorem dX5_readLine_36 : decode cX5_readLine 36 = .ok (.if_icmp .eq 20, 3) := by decide +kernel
theorem dX5_readLine_39 : decode cX5_readLine 39 = .ok (.iload_n 1, 1) := by decide +kernel
theorem dX5_readLine_40 : decode cX5_readLine 40 = .ok (.iconst 5, 1) := by decide +kernel
theorem dX5_readLine_41 : decode cX5_readLine 41 = .ok (.if_icmp .lt 20, 3) := by decide +kernel
theorem dX5_readLine_44 : decode cX5_readLine 44 = .ok (.aload_n 0, 1) := by decide +kernel
theorem dX5_readLine_45 : decode cX5_readLine 45 = .ok (.getfield 13, 3) := by decide +kernel
theorem dX5_readLine_48 : decode cX5_readLine 48 = .ok (.bipush 49, 2) := by decide +kernel
theorem dX5_readLine_50 : decode cX5_readLine 50 = .ok (.iaload, 1) := by decide +kernel
theorem dX5_readLine_51 : decode cX5_readLine 51 = .ok (.bipush 12, 2) := by decide +kernel
theorem dX5_readLine_53 : decode cX5_readLine 53 = .ok (.if_icmp .ne 8, 3) := by decide +kernel
theorem dX5_readLine_56 : decode cX5_readLine 56 = .ok (.aload_n 0, 1) := by decide +kernel
theorem dX5_readLine_57 : decode cX5_readLine 57 = .ok (.iconst 5, 1) := by decide +kernel
theorem dX5_readLine_58 : decode cX5_readLine 58 = .ok (.invokevirtual 90, 3) := by decide +kernel
theorem dX5_readLine_61 : decode cX5_readLine 61 = .ok (.iload_n 1, 1) := by decide +kernel
theorem dX5_readLine_62 : decode cX5_readLine 62 = .ok (.iconst 4, 1) := by decide +kernel
theorem dX5_readLine_63 : decode cX5_readLine 63 = .ok (.if_icmp .ne 15, 3) := by decide +kernel
theorem dX5_readLine_66 : decode cX5_readLine 66 = .ok (.aload_n 0, 1) := by decide +kernel
theorem dX5_readLine_67 : decode cX5_readLine 67 = .ok (.getfield 107, 3) := by decide +kernel
theorem dX5_readLine_70 : decode cX5_readLine 70 = .ok (.ifCond .eq 8, 3) := by decide +kernel
theorem dX5_readLine_73 : decode cX5_readLine 73 = .ok (.aload_n 0, 1) := by decide +kernel
theorem dX5_readLine_74 : decode cX5_readLine 74 = .ok (.iconst 4, 1) := by decide +kernel
theorem dX5_readLine_75 : decode cX5_readLine 75 = .ok (.invokevirtual 90, 3) := by decide +kernel
theorem dX5_readLine_78 : decode cX5_readLine 78 = .ok (.aload_n 0, 1) := by decide +kernel
theorem dX5_readLine_79 : decode cX5_readLine 79 = .ok (.aload_n 0, 1) := by decide +kernel
theorem dX5_readLine_80 : decode cX5_readLine 80 = .ok (.getfield 107, 3) := by decide +kernel
theorem dX5_readLine_83 : decode cX5_readLine 83 = .ok (.ifCond .ne 8, 3) := by decide +kernel
theorem dX5_readLine_86 : decode cX5_readLine 86 = .ok (.iload_n 1, 1) := by decide +kernel
theorem dX5_readLine_87 : decode cX5_readLine 87 = .ok (.iconst 4, 1) := by decide +kernel
theorem dX5_readLine_88 : decode cX5_readLine 88 = .ok (.if_icmp .ne 7, 3) := by decide +kernel
theorem dX5_readLine_91 : decode cX5_readLine 91 = .ok (.iconst 1, 1) := by decide +kernel
theorem dX5_readLine_92 : decode cX5_readLine 92 = .ok (.goto 4, 3) := by decide +kernel
theorem dX5_readLine_95 : decode cX5_readLine 95 = .ok (.iconst 0, 1) := by decide +kernel
theorem dX5_readLine_96 : decode cX5_readLine 96 = .ok (.putfield 107, 3) := by decide +kernel
theorem dX5_readLine_99 : decode cX5_readLine 99 = .ok (.aload_n 0, 1) := by decide +kernel
theorem dX5_readLine_100 : decode cX5_readLine 100 = .ok (.invokevirtual 94, 3) := by decide +kernel
theorem dX5_readLine_103 : decode cX5_readLine 103 = .ok (.aload_n 0, 1) := by decide +kernel
theorem dX5_readLine_104 : decode cX5_readLine 104 = .ok (.getfield 60, 3) := by decide +kernel
theorem dX5_readLine_107 : decode cX5_readLine 107 = .ok (.ifCond .le 4, 3) := by decide +kernel
theorem dX5_readLine_110 : decode cX5_readLine 110 = .ok (.return_, 1) := by decide +kernel
theorem dX5_readLine_111 : decode cX5_readLine 111 = .ok (.aload_n 0, 1) := by decide +kernel
theorem dX5_readLine_112 : decode cX5_readLine 112 = .ok (.iload_n 1, 1) := by decide +kernel
theorem dX5_readLine_113 : decode cX5_readLine 113 = .ok (.invokevirtual 111, 3) := by decide +kernel
theorem dX5_readLine_116 : decode cX5_readLine 116 = .ok (.aload_n 0, 1) := by decide +kernel
theorem dX5_readLine_117 : decode cX5_readLine 117 = .ok (.getfield 60, 3) := by decide +kernel
theorem dX5_readLine_120 : decode cX5_readLine 120 = .ok (.ifCond .ne 16, 3) := by decide +kernel
theorem dX5_readLine_123 : decode cX5_readLine 123 = .ok (.aload_n 0, 1) := by decide +kernel
theorem dX5_readLine_124 : decode cX5_readLine 124 = .ok (.getfield 69, 3) := by decide +kernel
theorem dX5_readLine_127 : decode cX5_readLine 127 = .ok (.iconst 3, 1) := by decide +kernel
theorem dX5_readLine_128 : decode cX5_readLine 128 = .ok (.if_icmp .eq 8, 3) := by decide +kernel
theorem dX5_readLine_131 : decode cX5_readLine 131 = .ok (.aload_n 0, 1) := by decide +kernel
theorem dX5_readLine_132 : decode cX5_readLine 132 = .ok (.iconst 2, 1) := by decide +kernel
theorem dX5_readLine_133 : decode cX5_readLine 133 = .ok (.invokevirtual 90, 3) := by decide +kernel
theorem dX5_readLine_136 : decode cX5_readLine 136 = .ok (.aload_n 0, 1) := by decide +kernel
theorem dX5_readLine_137 : decode cX5_readLine 137 = .ok (.invokevirtual 94, 3) := by decide +kernel
theorem dX5_readLine_140 : decode cX5_readLine 140 = .ok (.return_, 1) := by decide +kernel
theorem dX5_text_0 : decode cX5_text 0 = .ok (.aload_n 0, 1) := by decide +kernel
theorem dX5_text_1 : decode cX5_text 1 = .ok (.iconst 0, 1) := by decide +kernel
theorem dX5_text_2 : decode cX5_text 2 = .ok (.putfield 60, 3) := by decide +kernel
theorem dX5_text_5 : decode cX5_text 5 = .ok (.aload_n 0, 1) := by decide +kernel
theorem dX5_text_6 : decode cX5_text 6 = .ok (.iconst 0, 1) := by decide +kernel
theorem dX5_text_7 : decode cX5_text 7 = .ok (.putfield 72, 3) := by decide +kernel
theorem dX5_text_10 : decode cX5_text 10 = .ok (.aload_n 0, 1) := by decide +kernel
theorem dX5_text_11 : decode cX5_text 11 = .ok (.iconst 0, 1) := by decide +kernel
theorem dX5_text_12 : decode cX5_text 12 = .ok (.putfield 107, 3) := by decide +kernel
theorem dX5_text_15 : decode cX5_text 15 = .ok (.iconst 0, 1) := by decide +kernel
theorem dX5_text_16 : decode cX5_text 16 = .ok (.istore_n 1, 1) := by decide +kernel
theorem dX5_text_17 : decode cX5_text 17 = .ok (.iconst 0, 1) := by decide +kernel
theorem dX5_text_18 : decode cX5_text 18 = .ok (.istore_n 2, 1) := by decide +kernel
theorem dX5_text_19 : decode cX5_text 19 = .ok (.iload_n 2, 1) := by decide +kernel
theorem dX5_text_20 : decode cX5_text 20 = .ok (.bipush 52, 2) := by decide +kernel
theorem dX5_text_22 : decode cX5_text 22 = .ok (.if_icmp .ge 16, 3) := by decide +kernel
theorem dX5_text_25 : decode cX5_text 25 = .ok (.aload_n 0, 1) := by decide +kernel
theorem dX5_text_26 : decode cX5_text 26 = .ok (.getfield 13, 3) := by decide +kernel
theorem dX5_text_29 : decode cX5_text 29 = .ok (.iload_n 2, 1) := by decide +kernel
theorem dX5_text_30 : decode cX5_text 30 = .ok (.iconst 0, 1) := by decide +kernel
theorem dX5_text_31 : decode cX5_text 31 = .ok (.iastore, 1) := by decide +kernel
theorem dX5_text_32 : decode cX5_text 32 = .ok (.iinc 2 1, 3) := by decide +kernel
theorem dX5_text_35 : decode cX5_text 35 = .ok (.goto (-16), 3) := by decide +kernel
theorem dX5_text_38 : decode cX5_text 38 = .ok (.aload_n 0, 1) := by decide +kernel
theorem dX5_text_39 : decode cX5_text 39 = .ok (.invokevirtual 94, 3) := by decide +kernel
theorem dX5_text_42 : decode cX5_text 42 = .ok (.aload_n 0, 1) := by decide +kernel
theorem dX5_text_43 : decode cX5_text 43 = .ok (.getfield 60, 3) := by decide +kernel
theorem dX5_text_46 : decode cX5_text 46 = .ok (.ifCond .ne 20, 3) := by decide +kernel
theorem dX5_text_49 : decode cX5_text 49 = .ok (.aload_n 0, 1) := by decide +kernel
theorem dX5_text_50 : decode cX5_text 50 = .ok (.getfield 69, 3) := by decide +kernel
theorem dX5_text_53 : decode cX5_text 53 = .ok (.ifCond .eq 13, 3) := by decide +kernel
theorem dX5_text_56 : decode cX5_text 56 = .ok (.aload_n 0, 1) := by decide +kernel
theorem dX5_text_57 : decode cX5_text 57 = .ok (.invokevirtual 114, 3) := by decide +kernel
theorem dX5_text_60 : decode cX5_text 60 = .ok (.iinc 1 1, 3) := by decide +kernel
theorem dX5_text_63 : decode cX5_text 63 = .ok (.goto (-21), 3) := by decide +kernel
theorem dX5_text_66 : decode cX5_text 66 = .ok (.aload_n 0, 1) := by decide +kernel
theorem dX5_text_67 : decode cX5_text 67 = .ok (.iconst 0, 1) := by decide +kernel
theorem dX5_text_68 : decode cX5_text 68 = .ok (.putfield 57, 3) := by decide +kernel
theorem dX5_text_71 : decode cX5_text 71 = .ok (.aload_n 0, 1) := by decide +kernel
theorem dX5_text_72 : decode cX5_text 72 = .ok (.aload_n 0, 1) := by decide +kernel
theorem dX5_text_73 : decode cX5_text 73 = .ok (.getfield 60, 3) := by decide +kernel
theorem dX5_text_76 : decode cX5_text 76 = .ok (.putfield 117, 3) := by decide +kernel
theorem dX5_text_79 : decode cX5_text 79 = .ok (.aload_n 0, 1) := by decide +kernel
theorem dX5_text_80 : decode cX5_text 80 = .ok (.getfield 60, 3) := by decide +kernel
theorem dX5_text_83 : decode cX5_text 83 = .ok (.ifCond .le 11, 3) := by decide +kernel
theorem dX5_text_86 : decode cX5_text 86 = .ok (.bipush (-10), 2) := by decide +kernel
theorem dX5_text_88 : decode cX5_text 88 = .ok (.aload_n 0, 1) := by decide +kernel
theorem dX5_text_89 : decode cX5_text 89 = .ok (.getfield 66, 3) := by decide +kernel
theorem dX5_text_92 : decode cX5_text 92 = .ok (.isub, 1) := by decide +kernel
theorem dX5_text_93 : decode cX5_text 93 = .ok (.ireturn, 1) := by decide +kernel
theorem dX5_text_94 : decode cX5_text 94 = .ok (.iconst 0, 1) := by decide +kernel
theorem dX5_text_95 : decode cX5_text 95 = .ok (.istore_n 2, 1) := by decide +kernel
theorem dX5_text_96 : decode cX5_text 96 = .ok (.iload_n 2, 1) := by decide +kernel
theorem dX5_text_97 : decode cX5_text 97 = .ok (.bipush 52, 2) := by decide +kernel
theorem dX5_text_99 : decode cX5_text 99 = .ok (.if_icmp .ge 21, 3) := by decide +kernel
theorem dX5_text_102 : decode cX5_text 102 = .ok (.aload_n 0, 1) := by decide +kernel
theorem dX5_text_103 : decode cX5_text 103 = .ok (.getfield 7, 3) := by decide +kernel
theorem dX5_text_106 : decode cX5_text 106 = .ok (.iload_n 2, 1) := by decide +kernel
theorem dX5_text_107 : decode cX5_text 107 = .ok (.aload_n 0, 1) := by decide +kernel
theorem dX5_text_108 : decode cX5_text 108 = .ok (.getfield 13, 3) := by decide +kernel
theorem dX5_text_111 : decode cX5_text 111 = .ok (.iload_n 2, 1) := by decide +kernel
theorem dX5_text_112 : decode cX5_text 112 = .ok (.iaload, 1) := by decide +kernel
theorem dX5_text_113 : decode cX5_text 113 = .ok (.iastore, 1) := by decide +kernel
theorem dX5_text_114 : decode cX5_text 114 = .ok (.iinc 2 1, 3) := by decide +kernel
theorem dX5_text_117 : decode cX5_text 117 = .ok (.goto (-21), 3) := by decide +kernel
theorem dX5_text_120 : decode cX5_text 120 = .ok (.aload_n 0, 1) := by decide +kernel
theorem dX5_text_121 : decode cX5_text 121 = .ok (.iconst 0, 1) := by decide +kernel
theorem dX5_text_122 : decode cX5_text 122 = .ok (.putfield 120, 3) := by decide +kernel
theorem dX5_text_125 : decode cX5_text 125 = .ok (.aload_n 0, 1) := by decide +kernel
theorem dX5_text_126 : decode cX5_text 126 = .ok (.getfield 38, 3) := by decide +kernel
theorem dX5_text_129 : decode cX5_text 129 = .ok (.iconst 0, 1) := by decide +kernel
theorem dX5_text_130 : decode cX5_text 130 = .ok (.iconst 0, 1) := by decide +kernel
theorem dX5_text_131 : decode cX5_text 131 = .ok (.bastore, 1) := by decide +kernel
theorem dX5_text_132 : decode cX5_text 132 = .ok (.aload_n 0, 1) := by decide +kernel
theorem dX5_text_133 : decode cX5_text 133 = .ok (.getfield 38, 3) := by decide +kernel
theorem dX5_text_136 : decode cX5_text 136 = .ok (.iconst 1, 1) := by decide +kernel
theorem dX5_text_137 : decode cX5_text 137 = .ok (.iconst 0, 1) := by decide +kernel
theorem dX5_text_138 : decode cX5_text 138 = .ok (.bastore, 1) := by decide +kernel
theorem dX5_text_139 : decode cX5_text 139 = .ok (.iload_n 1, 1) := by decide +kernel
theorem dX5_text_140 : decode cX5_text 140 = .ok (.ireturn, 1) := by decide +kernel
theorem dX5_fault_0 : decode cX5_fault 0 = .ok (.aload_n 0, 1) := by decide +kernel
theorem dX5_fault_1 : decode cX5_fault 1 = .ok (.getfield 117, 3) := by decide +kernel
theorem dX5_fault_4 : decode cX5_fault 4 = .ok (.ireturn, 1) := by decide +kernel
theorem dX5_isBead_0 : decode cX5_isBead 0 = .ok (.iload_n 1, 1) := by decide +kernel
theorem dX5_isBead_1 : decode cX5_isBead 1 = .ok (.i2l, 1) := by decide +kernel
theorem dX5_isBead_2 : decode cX5_isBead 2 = .ok (.lconst 0, 1) := by decide +kernel
theorem dX5_isBead_3 : decode cX5_isBead 3 = .ok (.aload_n 0, 1) := by decide +kernel
theorem dX5_isBead_4 : decode cX5_isBead 4 = .ok (.getfield 7, 3) := by decide +kernel
theorem dX5_isBead_7 : decode cX5_isBead 7 = .ok (.bipush 24, 2) := by decide +kernel
theorem dX5_isBead_9 : decode cX5_isBead 9 = .ok (.iaload, 1) := by decide +kernel
theorem dX5_isBead_10 : decode cX5_isBead 10 = .ok (.iconst 1, 1) := by decide +kernel
theorem dX5_isBead_11 : decode cX5_isBead 11 = .ok (.isub, 1) := by decide +kernel
theorem dX5_isBead_12 : decode cX5_isBead 12 = .ok (.i2l, 1) := by decide +kernel
theorem dX5_isBead_13 : decode cX5_isBead 13 = .ok (.invokestatic 53, 3) := by decide +kernel
theorem dX5_isBead_16 : decode cX5_isBead 16 = .ok (.ireturn, 1) := by decide +kernel
theorem dX5_isKnock_0 : decode cX5_isKnock 0 = .ok (.iload_n 1, 1) := by decide +kernel
theorem dX5_isKnock_1 : decode cX5_isKnock 1 = .ok (.i2l, 1) := by decide +kernel
theorem dX5_isKnock_2 : decode cX5_isKnock 2 = .ok (.lconst 0, 1) := by decide +kernel
theorem dX5_isKnock_3 : decode cX5_isKnock 3 = .ok (.aload_n 0, 1) := by decide +kernel
theorem dX5_isKnock_4 : decode cX5_isKnock 4 = .ok (.getfield 7, 3) := by decide +kernel
theorem dX5_isKnock_7 : decode cX5_isKnock 7 = .ok (.bipush 49, 2) := by decide +kernel
theorem dX5_isKnock_9 : decode cX5_isKnock 9 = .ok (.iaload, 1) := by decide +kernel
theorem dX5_isKnock_10 : decode cX5_isKnock 10 = .ok (.iconst 1, 1) := by decide +kernel
theorem dX5_isKnock_11 : decode cX5_isKnock 11 = .ok (.isub, 1) := by decide +kernel
theorem dX5_isKnock_12 : decode cX5_isKnock 12 = .ok (.i2l, 1) := by decide +kernel
theorem dX5_isKnock_13 : decode cX5_isKnock 13 = .ok (.invokestatic 53, 3) := by decide +kernel
theorem dX5_isKnock_16 : decode cX5_isKnock 16 = .ok (.ireturn, 1) := by decide +kernel
theorem dX5_isLong_0 : decode cX5_isLong 0 = .ok (.iload_n 0, 1) := by decide +kernel
theorem dX5_isLong_1 : decode cX5_isLong 1 = .ok (.i2l, 1) := by decide +kernel
theorem dX5_isLong_2 : decode cX5_isLong 2 = .ok (.lconst 0, 1) := by decide +kernel
theorem dX5_isLong_3 : decode cX5_isLong 3 = .ok (.ldc2_w 123, 3) := by decide +kernel
theorem dX5_isLong_6 : decode cX5_isLong 6 = .ok (.invokestatic 53, 3) := by decide +kernel
theorem dX5_isLong_9 : decode cX5_isLong 9 = .ok (.ireturn, 1) := by decide +kernel
theorem dX5_stretchOn_0 : decode cX5_stretchOn 0 = .ok (.aload_n 0, 1) := by decide +kernel
theorem dX5_stretchOn_1 : decode cX5_stretchOn 1 = .ok (.getfield 7, 3) := by decide +kernel
theorem dX5_stretchOn_4 : decode cX5_stretchOn 4 = .ok (.iload_n 1, 1) := by decide +kernel
theorem dX5_stretchOn_5 : decode cX5_stretchOn 5 = .ok (.bipush 16, 2) := by decide +kernel
theorem dX5_stretchOn_7 : decode cX5_stretchOn 7 = .ok (.iadd, 1) := by decide +kernel
theorem dX5_stretchOn_8 : decode cX5_stretchOn 8 = .ok (.iload_n 2, 1) := by decide +kernel
theorem dX5_stretchOn_9 : decode cX5_stretchOn 9 = .ok (.iadd, 1) := by decide +kernel
theorem dX5_stretchOn_10 : decode cX5_stretchOn 10 = .ok (.iaload, 1) := by decide +kernel
theorem dX5_stretchOn_11 : decode cX5_stretchOn 11 = .ok (.iload_n 2, 1) := by decide +kernel
theorem dX5_stretchOn_12 : decode cX5_stretchOn 12 = .ok (.ifCond .ne 7, 3) := by decide +kernel
theorem dX5_stretchOn_15 : decode cX5_stretchOn 15 = .ok (.iconst 0, 1) := by decide +kernel
theorem dX5_stretchOn_16 : decode cX5_stretchOn 16 = .ok (.goto 16, 3) := by decide +kernel
theorem dX5_stretchOn_19 : decode cX5_stretchOn 19 = .ok (.aload_n 0, 1) := by decide +kernel
theorem dX5_stretchOn_20 : decode cX5_stretchOn 20 = .ok (.getfield 7, 3) := by decide +kernel
theorem dX5_stretchOn_23 : decode cX5_stretchOn 23 = .ok (.iload_n 1, 1) := by decide +kernel
theorem dX5_stretchOn_24 : decode cX5_stretchOn 24 = .ok (.bipush 16, 2) := by decide +kernel
theorem dX5_stretchOn_26 : decode cX5_stretchOn 26 = .ok (.iadd, 1) := by decide +kernel
theorem dX5_stretchOn_27 : decode cX5_stretchOn 27 = .ok (.iload_n 2, 1) := by decide +kernel
theorem dX5_stretchOn_28 : decode cX5_stretchOn 28 = .ok (.iadd, 1) := by decide +kernel
theorem dX5_stretchOn_29 : decode cX5_stretchOn 29 = .ok (.iconst 1, 1) := by decide +kernel
theorem dX5_stretchOn_30 : decode cX5_stretchOn 30 = .ok (.isub, 1) := by decide +kernel
theorem dX5_stretchOn_31 : decode cX5_stretchOn 31 = .ok (.iaload, 1) := by decide +kernel
theorem dX5_stretchOn_32 : decode cX5_stretchOn 32 = .ok (.isub, 1) := by decide +kernel
theorem dX5_stretchOn_33 : decode cX5_stretchOn 33 = .ok (.aload_n 0, 1) := by decide +kernel
theorem dX5_stretchOn_34 : decode cX5_stretchOn 34 = .ok (.getfield 7, 3) := by decide +kernel
theorem dX5_stretchOn_37 : decode cX5_stretchOn 37 = .ok (.iload_n 1, 1) := by decide +kernel
theorem dX5_stretchOn_38 : decode cX5_stretchOn 38 = .ok (.iconst 4, 1) := by decide +kernel
theorem dX5_stretchOn_39 : decode cX5_stretchOn 39 = .ok (.iadd, 1) := by decide +kernel
theorem dX5_stretchOn_40 : decode cX5_stretchOn 40 = .ok (.iload_n 2, 1) := by decide +kernel
theorem dX5_stretchOn_41 : decode cX5_stretchOn 41 = .ok (.iadd, 1) := by decide +kernel
theorem dX5_stretchOn_42 : decode cX5_stretchOn 42 = .ok (.iaload, 1) := by decide +kernel
theorem dX5_stretchOn_43 : decode cX5_stretchOn 43 = .ok (.isub, 1) := by decide +kernel
theorem dX5_stretchOn_44 : decode cX5_stretchOn 44 = .ok (.ireturn, 1) := by decide +kernel
theorem dX5_pullOn_0 : decode cX5_pullOn 0 = .ok (.aload_n 0, 1) := by decide +kernel
theorem dX5_pullOn_1 : decode cX5_pullOn 1 = .ok (.iload_n 1, 1) := by decide +kernel
theorem dX5_pullOn_2 : decode cX5_pullOn 2 = .ok (.iload_n 2, 1) := by decide +kernel
theorem dX5_pullOn_3 : decode cX5_pullOn 3 = .ok (.invokevirtual 125, 3) := by decide +kernel
theorem dX5_pullOn_6 : decode cX5_pullOn 6 = .ok (.istore_n 3, 1) := by decide +kernel
theorem dX5_pullOn_7 : decode cX5_pullOn 7 = .ok (.aload_n 0, 1) := by decide +kernel
theorem dX5_pullOn_8 : decode cX5_pullOn 8 = .ok (.getfield 7, 3) := by decide +kernel
theorem dX5_pullOn_11 : decode cX5_pullOn 11 = .ok (.iload_n 1, 1) := by decide +kernel
theorem dX5_pullOn_12 : decode cX5_pullOn 12 = .ok (.iload_n 2, 1) := by decide +kernel
theorem dX5_pullOn_13 : decode cX5_pullOn 13 = .ok (.iadd, 1) := by decide +kernel
theorem dX5_pullOn_14 : decode cX5_pullOn 14 = .ok (.iaload, 1) := by decide +kernel
theorem dX5_pullOn_15 : decode cX5_pullOn 15 = .ok (.istore 4, 2) := by decide +kernel
theorem dX5_pullOn_17 : decode cX5_pullOn 17 = .ok (.iload 4, 2) := by decide +kernel
theorem dX5_pullOn_19 : decode cX5_pullOn 19 = .ok (.iconst 1, 1) := by decide +kernel
theorem dX5_pullOn_20 : decode cX5_pullOn 20 = .ok (.if_icmp .ne 7, 3) := by decide +kernel
theorem dX5_pullOn_23 : decode cX5_pullOn 23 = .ok (.iload_n 3, 1) := by decide +kernel
theorem dX5_pullOn_24 : decode cX5_pullOn 24 = .ok (.ifCond .lt 33, 3) := by decide +kernel
theorem dX5_pullOn_27 : decode cX5_pullOn 27 = .ok (.iload 4, 2) := by decide +kernel
theorem dX5_pullOn_29 : decode cX5_pullOn 29 = .ok (.iconst 2, 1) := by decide +kernel
theorem dX5_pullOn_30 : decode cX5_pullOn 30 = .ok (.if_icmp .ne 7, 3) := by decide +kernel
theorem dX5_pullOn_33 : decode cX5_pullOn 33 = .ok (.iload_n 3, 1) := by decide +kernel
theorem dX5_pullOn_34 : decode cX5_pullOn 34 = .ok (.ifCond .gt 23, 3) := by decide +kernel
theorem dX5_pullOn_37 : decode cX5_pullOn 37 = .ok (.iload 4, 2) := by decide +kernel
theorem dX5_pullOn_39 : decode cX5_pullOn 39 = .ok (.iconst 3, 1) := by decide +kernel
theorem dX5_pullOn_40 : decode cX5_pullOn 40 = .ok (.if_icmp .ne 21, 3) := by decide +kernel
theorem dX5_pullOn_43 : decode cX5_pullOn 43 = .ok (.iload_n 3, 1) := by decide +kernel
theorem dX5_pullOn_44 : decode cX5_pullOn 44 = .ok (.i2l, 1) := by decide +kernel
theorem dX5_pullOn_45 : decode cX5_pullOn 45 = .ok (.ldc2_w 128, 3) := by decide +kernel
theorem dX5_pullOn_48 : decode cX5_pullOn 48 = .ok (.ldc2_w 130, 3) := by decide +kernel
theorem dX5_pullOn_51 : decode cX5_pullOn 51 = .ok (.invokestatic 53, 3) := by decide +kernel
theorem dX5_pullOn_54 : decode cX5_pullOn 54 = .ok (.ifCond .eq 7, 3) := by decide +kernel
theorem dX5_pullOn_57 : decode cX5_pullOn 57 = .ok (.iconst 1, 1) := by decide +kernel
theorem dX5_pullOn_58 : decode cX5_pullOn 58 = .ok (.goto 4, 3) := by decide +kernel
theorem dX5_pullOn_61 : decode cX5_pullOn 61 = .ok (.iconst 0, 1) := by decide +kernel
theorem dX5_pullOn_62 : decode cX5_pullOn 62 = .ok (.istore 5, 2) := by decide +kernel
theorem dX5_pullOn_64 : decode cX5_pullOn 64 = .ok (.iload 5, 2) := by decide +kernel
theorem dX5_pullOn_66 : decode cX5_pullOn 66 = .ok (.ifCond .eq 7, 3) := by decide +kernel
theorem dX5_pullOn_69 : decode cX5_pullOn 69 = .ok (.iconst 0, 1) := by decide +kernel
theorem dX5_pullOn_70 : decode cX5_pullOn 70 = .ok (.goto 16, 3) := by decide +kernel
theorem dX5_pullOn_73 : decode cX5_pullOn 73 = .ok (.aload_n 0, 1) := by decide +kernel
theorem dX5_pullOn_74 : decode cX5_pullOn 74 = .ok (.getfield 7, 3) := by decide +kernel
theorem dX5_pullOn_77 : decode cX5_pullOn 77 = .ok (.iload_n 1, 1) := by decide +kernel
theorem dX5_pullOn_78 : decode cX5_pullOn 78 = .ok (.bipush 8, 2) := by decide +kernel
theorem dX5_pullOn_80 : decode cX5_pullOn 80 = .ok (.iadd, 1) := by decide +kernel
theorem dX5_pullOn_81 : decode cX5_pullOn 81 = .ok (.iload_n 2, 1) := by decide +kernel
theorem dX5_pullOn_82 : decode cX5_pullOn 82 = .ok (.iadd, 1) := by decide +kernel
theorem dX5_pullOn_83 : decode cX5_pullOn 83 = .ok (.iaload, 1) := by decide +kernel
theorem dX5_pullOn_84 : decode cX5_pullOn 84 = .ok (.iload_n 3, 1) := by decide +kernel
theorem dX5_pullOn_85 : decode cX5_pullOn 85 = .ok (.imul, 1) := by decide +kernel
theorem dX5_pullOn_86 : decode cX5_pullOn 86 = .ok (.ireturn, 1) := by decide +kernel
theorem dX5_speedOf_0 : decode cX5_speedOf 0 = .ok (.iload_n 0, 1) := by decide +kernel
theorem dX5_speedOf_1 : decode cX5_speedOf 1 = .ok (.bipush 40, 2) := by decide +kernel
theorem dX5_speedOf_3 : decode cX5_speedOf 3 = .ok (.if_icmp .le 8, 3) := by decide +kernel
theorem dX5_speedOf_6 : decode cX5_speedOf 6 = .ok (.bipush 40, 2) := by decide +kernel
theorem dX5_speedOf_8 : decode cX5_speedOf 8 = .ok (.goto 15, 3) := by decide +kernel
theorem dX5_speedOf_11 : decode cX5_speedOf 11 = .ok (.iload_n 0, 1) := by decide +kernel
theorem dX5_speedOf_12 : decode cX5_speedOf 12 = .ok (.bipush (-40), 2) := by decide +kernel
theorem dX5_speedOf_14 : decode cX5_speedOf 14 = .ok (.if_icmp .ge 8, 3) := by decide +kernel
theorem dX5_speedOf_17 : decode cX5_speedOf 17 = .ok (.bipush (-40), 2) := by decide +kernel
theorem dX5_speedOf_19 : decode cX5_speedOf 19 = .ok (.goto 4, 3) := by decide +kernel
theorem dX5_speedOf_22 : decode cX5_speedOf 22 = .ok (.iload_n 0, 1) := by decide +kernel
theorem dX5_speedOf_23 : decode cX5_speedOf 23 = .ok (.ireturn, 1) := by decide +kernel
theorem dX5_knockOn_0 : decode cX5_knockOn 0 = .ok (.iload_n 2, 1) := by decide +kernel
theorem dX5_knockOn_1 : decode cX5_knockOn 1 = .ok (.aload_n 0, 1) := by decide +kernel
theorem dX5_knockOn_2 : decode cX5_knockOn 2 = .ok (.getfield 7, 3) := by decide +kernel
theorem dX5_knockOn_5 : decode cX5_knockOn 5 = .ok (.iload_n 1, 1) := by decide +kernel
theorem dX5_knockOn_6 : decode cX5_knockOn 6 = .ok (.bipush 24, 2) := by decide +kernel
theorem dX5_knockOn_8 : decode cX5_knockOn 8 = .ok (.iadd, 1) := by decide +kernel
theorem dX5_knockOn_9 : decode cX5_knockOn 9 = .ok (.iaload, 1) := by decide +kernel
theorem dX5_knockOn_10 : decode cX5_knockOn 10 = .ok (.if_icmp .ge 30, 3) := by decide +kernel
theorem dX5_knockOn_13 : decode cX5_knockOn 13 = .ok (.aload_n 0, 1) := by decide +kernel
theorem dX5_knockOn_14 : decode cX5_knockOn 14 = .ok (.getfield 7, 3) := by decide +kernel
theorem dX5_knockOn_17 : decode cX5_knockOn 17 = .ok (.iload_n 1, 1) := by decide +kernel
theorem dX5_knockOn_18 : decode cX5_knockOn 18 = .ok (.bipush 20, 2) := by decide +kernel
theorem dX5_knockOn_20 : decode cX5_knockOn 20 = .ok (.iadd, 1) := by decide +kernel
theorem dX5_knockOn_21 : decode cX5_knockOn 21 = .ok (.iload_n 2, 1) := by decide +kernel
theorem dX5_knockOn_22 : decode cX5_knockOn 22 = .ok (.iadd, 1) := by decide +kernel
theorem dX5_knockOn_23 : decode cX5_knockOn 23 = .ok (.aload_n 0, 1) := by decide +kernel
theorem dX5_knockOn_24 : decode cX5_knockOn 24 = .ok (.getfield 7, 3) := by decide +kernel
theorem dX5_knockOn_27 : decode cX5_knockOn 27 = .ok (.iload_n 1, 1) := by decide +kernel
theorem dX5_knockOn_28 : decode cX5_knockOn 28 = .ok (.bipush 20, 2) := by decide +kernel
theorem dX5_knockOn_30 : decode cX5_knockOn 30 = .ok (.iadd, 1) := by decide +kernel
theorem dX5_knockOn_31 : decode cX5_knockOn 31 = .ok (.iload_n 2, 1) := by decide +kernel
theorem dX5_knockOn_32 : decode cX5_knockOn 32 = .ok (.iadd, 1) := by decide +kernel
theorem dX5_knockOn_33 : decode cX5_knockOn 33 = .ok (.iaload, 1) := by decide +kernel
theorem dX5_knockOn_34 : decode cX5_knockOn 34 = .ok (.iload_n 3, 1) := by decide +kernel
theorem dX5_knockOn_35 : decode cX5_knockOn 35 = .ok (.iadd, 1) := by decide +kernel
theorem dX5_knockOn_36 : decode cX5_knockOn 36 = .ok (.invokestatic 132, 3) := by decide +kernel
theorem dX5_knockOn_39 : decode cX5_knockOn 39 = .ok (.iastore, 1) := by decide +kernel
theorem dX5_knockOn_40 : decode cX5_knockOn 40 = .ok (.return_, 1) := by decide +kernel
theorem dX5_speedsOn_0 : decode cX5_speedsOn 0 = .ok (.aload_n 0, 1) := by decide +kernel
theorem dX5_speedsOn_1 : decode cX5_speedsOn 1 = .ok (.getfield 7, 3) := by decide +kernel
theorem dX5_speedsOn_4 : decode cX5_speedsOn 4 = .ok (.iload_n 1, 1) := by decide +kernel
theorem dX5_speedsOn_5 : decode cX5_speedsOn 5 = .ok (.bipush 24, 2) := by decide +kernel
theorem dX5_speedsOn_7 : decode cX5_speedsOn 7 = .ok (.iadd, 1) := by decide +kernel
theorem dX5_speedsOn_8 : decode cX5_speedsOn 8 = .ok (.iaload, 1) := by decide +kernel
theorem dX5_speedsOn_9 : decode cX5_speedsOn 9 = .ok (.istore_n 2, 1) := by decide +kernel
theorem dX5_speedsOn_10 : decode cX5_speedsOn 10 = .ok (.aload_n 0, 1) := by decide +kernel
theorem dX5_speedsOn_11 : decode cX5_speedsOn 11 = .ok (.getfield 7, 3) := by decide +kernel
theorem dX5_speedsOn_14 : decode cX5_speedsOn 14 = .ok (.iload_n 1, 1) := by decide +kernel
theorem dX5_speedsOn_15 : decode cX5_speedsOn 15 = .ok (.bipush 50, 2) := by decide +kernel
theorem dX5_speedsOn_17 : decode cX5_speedsOn 17 = .ok (.iadd, 1) := by decide +kernel
theorem dX5_speedsOn_18 : decode cX5_speedsOn 18 = .ok (.iaload, 1) := by decide +kernel
theorem dX5_speedsOn_19 : decode cX5_speedsOn 19 = .ok (.istore_n 3, 1) := by decide +kernel
theorem dX5_speedsOn_20 : decode cX5_speedsOn 20 = .ok (.iconst 0, 1) := by decide +kernel
theorem dX5_speedsOn_21 : decode cX5_speedsOn 21 = .ok (.istore 4, 2) := by decide +kernel
theorem dX5_speedsOn_23 : decode cX5_speedsOn 23 = .ok (.iload 4, 2) := by decide +kernel
theorem dX5_speedsOn_25 : decode cX5_speedsOn 25 = .ok (.iload_n 2, 1) := by decide +kernel
theorem dX5_speedsOn_26 : decode cX5_speedsOn 26 = .ok (.if_icmp .ge 120, 3) := by decide +kernel
theorem dX5_speedsOn_29 : decode cX5_speedsOn 29 = .ok (.iload 4, 2) := by decide +kernel
theorem dX5_speedsOn_31 : decode cX5_speedsOn 31 = .ok (.iconst 1, 1) := by decide +kernel
theorem dX5_speedsOn_32 : decode cX5_speedsOn 32 = .ok (.iadd, 1) := by decide +kernel
theorem dX5_speedsOn_33 : decode cX5_speedsOn 33 = .ok (.iload_n 2, 1) := by decide +kernel
theorem dX5_speedsOn_34 : decode cX5_speedsOn 34 = .ok (.if_icmp .ge 15, 3) := by decide +kernel
theorem dX5_speedsOn_37 : decode cX5_speedsOn 37 = .ok (.aload_n 0, 1) := by decide +kernel
theorem dX5_speedsOn_38 : decode cX5_speedsOn 38 = .ok (.iload_n 1, 1) := by decide +kernel
theorem dX5_speedsOn_39 : decode cX5_speedsOn 39 = .ok (.iload 4, 2) := by decide +kernel
theorem dX5_speedsOn_41 : decode cX5_speedsOn 41 = .ok (.iconst 1, 1) := by decide +kernel
theorem dX5_speedsOn_42 : decode cX5_speedsOn 42 = .ok (.iadd, 1) := by decide +kernel
theorem dX5_speedsOn_43 : decode cX5_speedsOn 43 = .ok (.invokevirtual 135, 3) := by decide +kernel
theorem dX5_speedsOn_46 : decode cX5_speedsOn 46 = .ok (.goto 4, 3) := by decide +kernel
theorem dX5_speedsOn_49 : decode cX5_speedsOn 49 = .ok (.iconst 0, 1) := by decide +kernel
theorem dX5_speedsOn_50 : decode cX5_speedsOn 50 = .ok (.aload_n 0, 1) := by decide +kernel
theorem dX5_speedsOn_51 : decode cX5_speedsOn 51 = .ok (.iload_n 1, 1) := by decide +kernel
theorem dX5_speedsOn_52 : decode cX5_speedsOn 52 = .ok (.iload 4, 2) := by decide +kernel
theorem dX5_speedsOn_54 : decode cX5_speedsOn 54 = .ok (.invokevirtual 135, 3) := by decide +kernel
theorem dX5_speedsOn_57 : decode cX5_speedsOn 57 = .ok (.isub, 1) := by decide +kernel
theorem dX5_speedsOn_58 : decode cX5_speedsOn 58 = .ok (.bipush 10, 2) := by decide +kernel
theorem dX5_speedsOn_60 : decode cX5_speedsOn 60 = .ok (.aload_n 0, 1) := by decide +kernel
theorem dX5_speedsOn_61 : decode cX5_speedsOn 61 = .ok (.getfield 7, 3) := by decide +kernel
theorem dX5_speedsOn_64 : decode cX5_speedsOn 64 = .ok (.iload_n 1, 1) := by decide +kernel
theorem dX5_speedsOn_65 : decode cX5_speedsOn 65 = .ok (.bipush 12, 2) := by decide +kernel
theorem dX5_speedsOn_67 : decode cX5_speedsOn 67 = .ok (.iadd, 1) := by decide +kernel
theorem dX5_speedsOn_68 : decode cX5_speedsOn 68 = .ok (.iload 4, 2) := by decide +kernel
theorem dX5_speedsOn_70 : decode cX5_speedsOn 70 = .ok (.iadd, 1) := by decide +kernel
theorem dX5_speedsOn_71 : decode cX5_speedsOn 71 = .ok (.iaload, 1) := by decide +kernel
theorem dX5_speedsOn_72 : decode cX5_speedsOn 72 = .ok (.imul, 1) := by decide +kernel
theorem dX5_speedsOn_73 : decode cX5_speedsOn 73 = .ok (.idiv, 1) := by decide +kernel
theorem dX5_speedsOn_74 : decode cX5_speedsOn 74 = .ok (.istore 5, 2) := by decide +kernel
theorem dX5_speedsOn_76 : decode cX5_speedsOn 76 = .ok (.aload_n 0, 1) := by decide +kernel
theorem dX5_speedsOn_77 : decode cX5_speedsOn 77 = .ok (.getfield 7, 3) := by decide +kernel
theorem dX5_speedsOn_80 : decode cX5_speedsOn 80 = .ok (.iload_n 1, 1) := by decide +kernel
theorem dX5_speedsOn_81 : decode cX5_speedsOn 81 = .ok (.bipush 20, 2) := by decide +kernel
theorem dX5_speedsOn_83 : decode cX5_speedsOn 83 = .ok (.iadd, 1) := by decide +kernel
theorem dX5_speedsOn_84 : decode cX5_speedsOn 84 = .ok (.iload 4, 2) := by decide +kernel
theorem dX5_speedsOn_86 : decode cX5_speedsOn 86 = .ok (.iadd, 1) := by decide +kernel
theorem dX5_speedsOn_87 : decode cX5_speedsOn 87 = .ok (.iaload, 1) := by decide +kernel
theorem dX5_speedsOn_88 : decode cX5_speedsOn 88 = .ok (.iload 5, 2) := by decide +kernel
theorem dX5_speedsOn_90 : decode cX5_speedsOn 90 = .ok (.iadd, 1) := by decide +kernel
theorem dX5_speedsOn_91 : decode cX5_speedsOn 91 = .ok (.istore 6, 2) := by decide +kernel
theorem dX5_speedsOn_93 : decode cX5_speedsOn 93 = .ok (.iload 6, 2) := by decide +kernel
theorem dX5_speedsOn_95 : decode cX5_speedsOn 95 = .ok (.iload_n 3, 1) := by decide +kernel
theorem dX5_speedsOn_96 : decode cX5_speedsOn 96 = .ok (.if_icmp .le 10, 3) := by decide +kernel
theorem dX5_speedsOn_99 : decode cX5_speedsOn 99 = .ok (.iload 6, 2) := by decide +kernel
theorem dX5_speedsOn_101 : decode cX5_speedsOn 101 = .ok (.iload_n 3, 1) := by decide +kernel
theorem dX5_speedsOn_102 : decode cX5_speedsOn 102 = .ok (.isub, 1) := by decide +kernel
theorem dX5_speedsOn_103 : decode cX5_speedsOn 103 = .ok (.goto 18, 3) := by decide +kernel
theorem dX5_speedsOn_106 : decode cX5_speedsOn 106 = .ok (.iload 6, 2) := by decide +kernel
theorem dX5_speedsOn_108 : decode cX5_speedsOn 108 = .ok (.iload_n 3, 1) := by decide +kernel
theorem dX5_speedsOn_109 : decode cX5_speedsOn 109 = .ok (.ineg, 1) := by decide +kernel
theorem dX5_speedsOn_110 : decode cX5_speedsOn 110 = .ok (.if_icmp .ge 10, 3) := by decide +kernel
theorem dX5_speedsOn_113 : decode cX5_speedsOn 113 = .ok (.iload 6, 2) := by decide +kernel
theorem dX5_speedsOn_115 : decode cX5_speedsOn 115 = .ok (.iload_n 3, 1) := by decide +kernel
theorem dX5_speedsOn_116 : decode cX5_speedsOn 116 = .ok (.iadd, 1) := by decide +kernel
theorem dX5_speedsOn_117 : decode cX5_speedsOn 117 = .ok (.goto 4, 3) := by decide +kernel
theorem dX5_speedsOn_120 : decode cX5_speedsOn 120 = .ok (.iconst 0, 1) := by decide +kernel
theorem dX5_speedsOn_121 : decode cX5_speedsOn 121 = .ok (.istore 6, 2) := by decide +kernel
theorem dX5_speedsOn_123 : decode cX5_speedsOn 123 = .ok (.aload_n 0, 1) := by decide +kernel
theorem dX5_speedsOn_124 : decode cX5_speedsOn 124 = .ok (.getfield 7, 3) := by decide +kernel
theorem dX5_speedsOn_127 : decode cX5_speedsOn 127 = .ok (.iload_n 1, 1) := by decide +kernel
theorem dX5_speedsOn_128 : decode cX5_speedsOn 128 = .ok (.bipush 20, 2) := by decide +kernel
theorem dX5_speedsOn_130 : decode cX5_speedsOn 130 = .ok (.iadd, 1) := by decide +kernel
theorem dX5_speedsOn_131 : decode cX5_speedsOn 131 = .ok (.iload 4, 2) := by decide +kernel
theorem dX5_speedsOn_133 : decode cX5_speedsOn 133 = .ok (.iadd, 1) := by decide +kernel
theorem dX5_speedsOn_134 : decode cX5_speedsOn 134 = .ok (.iload 6, 2) := by decide +kernel
theorem dX5_speedsOn_136 : decode cX5_speedsOn 136 = .ok (.invokestatic 132, 3) := by decide +kernel
theorem dX5_speedsOn_139 : decode cX5_speedsOn 139 = .ok (.iastore, 1) := by decide +kernel
theorem dX5_speedsOn_140 : decode cX5_speedsOn 140 = .ok (.iinc 4 1, 3) := by decide +kernel
theorem dX5_speedsOn_143 : decode cX5_speedsOn 143 = .ok (.goto (-120), 3) := by decide +kernel
theorem dX5_speedsOn_146 : decode cX5_speedsOn 146 = .ok (.return_, 1) := by decide +kernel
theorem dX5_placesOn_0 : decode cX5_placesOn 0 = .ok (.iconst 0, 1) := by decide +kernel
theorem dX5_placesOn_1 : decode cX5_placesOn 1 = .ok (.istore_n 2, 1) := by decide +kernel
theorem dX5_placesOn_2 : decode cX5_placesOn 2 = .ok (.iload_n 2, 1) := by decide +kernel
theorem dX5_placesOn_3 : decode cX5_placesOn 3 = .ok (.aload_n 0, 1) := by decide +kernel
theorem dX5_placesOn_4 : decode cX5_placesOn 4 = .ok (.getfield 7, 3) := by decide +kernel
theorem dX5_placesOn_7 : decode cX5_placesOn 7 = .ok (.iload_n 1, 1) := by decide +kernel
theorem dX5_placesOn_8 : decode cX5_placesOn 8 = .ok (.bipush 24, 2) := by decide +kernel
theorem dX5_placesOn_10 : decode cX5_placesOn 10 = .ok (.iadd, 1) := by decide +kernel
theorem dX5_placesOn_11 : decode cX5_placesOn 11 = .ok (.iaload, 1) := by decide +kernel
theorem dX5_placesOn_12 : decode cX5_placesOn 12 = .ok (.if_icmp .ge 114, 3) := by decide +kernel
theorem dX5_placesOn_15 : decode cX5_placesOn 15 = .ok (.aload_n 0, 1) := by decide +kernel
theorem dX5_placesOn_16 : decode cX5_placesOn 16 = .ok (.getfield 7, 3) := by decide +kernel
theorem dX5_placesOn_19 : decode cX5_placesOn 19 = .ok (.iload_n 1, 1) := by decide +kernel
theorem dX5_placesOn_20 : decode cX5_placesOn 20 = .ok (.bipush 16, 2) := by decide +kernel
theorem dX5_placesOn_22 : decode cX5_placesOn 22 = .ok (.iadd, 1) := by decide +kernel
theorem dX5_placesOn_23 : decode cX5_placesOn 23 = .ok (.iload_n 2, 1) := by decide +kernel
theorem dX5_placesOn_24 : decode cX5_placesOn 24 = .ok (.iadd, 1) := by decide +kernel
theorem dX5_placesOn_25 : decode cX5_placesOn 25 = .ok (.iaload, 1) := by decide +kernel
theorem dX5_placesOn_26 : decode cX5_placesOn 26 = .ok (.istore_n 3, 1) := by decide +kernel
theorem dX5_placesOn_27 : decode cX5_placesOn 27 = .ok (.iload_n 3, 1) := by decide +kernel
theorem dX5_placesOn_28 : decode cX5_placesOn 28 = .ok (.aload_n 0, 1) := by decide +kernel
theorem dX5_placesOn_29 : decode cX5_placesOn 29 = .ok (.getfield 7, 3) := by decide +kernel
theorem dX5_placesOn_32 : decode cX5_placesOn 32 = .ok (.iload_n 1, 1) := by decide +kernel
theorem dX5_placesOn_33 : decode cX5_placesOn 33 = .ok (.bipush 20, 2) := by decide +kernel
theorem dX5_placesOn_35 : decode cX5_placesOn 35 = .ok (.iadd, 1) := by decide +kernel
theorem dX5_placesOn_36 : decode cX5_placesOn 36 = .ok (.iload_n 2, 1) := by decide +kernel
theorem dX5_placesOn_37 : decode cX5_placesOn 37 = .ok (.iadd, 1) := by decide +kernel
theorem dX5_placesOn_38 : decode cX5_placesOn 38 = .ok (.iaload, 1) := by decide +kernel
theorem dX5_placesOn_39 : decode cX5_placesOn 39 = .ok (.iadd, 1) := by decide +kernel
theorem dX5_placesOn_40 : decode cX5_placesOn 40 = .ok (.istore 4, 2) := by decide +kernel
theorem dX5_placesOn_42 : decode cX5_placesOn 42 = .ok (.iload 4, 2) := by decide +kernel
theorem dX5_placesOn_44 : decode cX5_placesOn 44 = .ok (.i2l, 1) := by decide +kernel
theorem dX5_placesOn_45 : decode cX5_placesOn 45 = .ok (.lconst 0, 1) := by decide +kernel
theorem dX5_placesOn_46 : decode cX5_placesOn 46 = .ok (.ldc2_w 138, 3) := by decide +kernel
theorem dX5_placesOn_49 : decode cX5_placesOn 49 = .ok (.invokestatic 53, 3) := by decide +kernel
theorem dX5_placesOn_52 : decode cX5_placesOn 52 = .ok (.ifCond .ne 39, 3) := by decide +kernel
theorem dX5_placesOn_55 : decode cX5_placesOn 55 = .ok (.iload 4, 2) := by decide +kernel
theorem dX5_placesOn_57 : decode cX5_placesOn 57 = .ok (.ifCond .ge 7, 3) := by decide +kernel
theorem dX5_placesOn_60 : decode cX5_placesOn 60 = .ok (.iconst 0, 1) := by decide +kernel
theorem dX5_placesOn_61 : decode cX5_placesOn 61 = .ok (.goto 6, 3) := by decide +kernel
theorem dX5_placesOn_64 : decode cX5_placesOn 64 = .ok (.sipush 300, 3) := by decide +kernel
theorem dX5_placesOn_67 : decode cX5_placesOn 67 = .ok (.istore 4, 2) := by decide +kernel
theorem dX5_placesOn_69 : decode cX5_placesOn 69 = .ok (.aload_n 0, 1) := by decide +kernel
theorem dX5_placesOn_70 : decode cX5_placesOn 70 = .ok (.getfield 7, 3) := by decide +kernel
theorem dX5_placesOn_73 : decode cX5_placesOn 73 = .ok (.iload_n 1, 1) := by decide +kernel
theorem dX5_placesOn_74 : decode cX5_placesOn 74 = .ok (.bipush 20, 2) := by decide +kernel
theorem dX5_placesOn_76 : decode cX5_placesOn 76 = .ok (.iadd, 1) := by decide +kernel
theorem dX5_placesOn_77 : decode cX5_placesOn 77 = .ok (.iload_n 2, 1) := by decide +kernel
theorem dX5_placesOn_78 : decode cX5_placesOn 78 = .ok (.iadd, 1) := by decide +kernel
theorem dX5_placesOn_79 : decode cX5_placesOn 79 = .ok (.iconst 0, 1) := by decide +kernel
theorem dX5_placesOn_80 : decode cX5_placesOn 80 = .ok (.iastore, 1) := by decide +kernel
theorem dX5_placesOn_81 : decode cX5_placesOn 81 = .ok (.aload_n 0, 1) := by decide +kernel
theorem dX5_placesOn_82 : decode cX5_placesOn 82 = .ok (.dup, 1) := by decide +kernel
theorem dX5_placesOn_83 : decode cX5_placesOn 83 = .ok (.getfield 140, 3) := by decide +kernel
theorem dX5_placesOn_86 : decode cX5_placesOn 86 = .ok (.iconst 1, 1) := by decide +kernel
theorem dX5_placesOn_87 : decode cX5_placesOn 87 = .ok (.iadd, 1) := by decide +kernel
theorem dX5_placesOn_88 : decode cX5_placesOn 88 = .ok (.putfield 140, 3) := by decide +kernel
theorem dX5_placesOn_91 : decode cX5_placesOn 91 = .ok (.aload_n 0, 1) := by decide +kernel
theorem dX5_placesOn_92 : decode cX5_placesOn 92 = .ok (.getfield 7, 3) := by decide +kernel
theorem dX5_placesOn_95 : decode cX5_placesOn 95 = .ok (.iload_n 1, 1) := by decide +kernel
theorem dX5_placesOn_96 : decode cX5_placesOn 96 = .ok (.bipush 16, 2) := by decide +kernel
theorem dX5_placesOn_98 : decode cX5_placesOn 98 = .ok (.iadd, 1) := by decide +kernel
theorem dX5_placesOn_99 : decode cX5_placesOn 99 = .ok (.iload_n 2, 1) := by decide +kernel
theorem dX5_placesOn_100 : decode cX5_placesOn 100 = .ok (.iadd, 1) := by decide +kernel
theorem dX5_placesOn_101 : decode cX5_placesOn 101 = .ok (.iload 4, 2) := by decide +kernel
theorem dX5_placesOn_103 : decode cX5_placesOn 103 = .ok (.iastore, 1) := by decide +kernel
theorem dX5_placesOn_104 : decode cX5_placesOn 104 = .ok (.aload_n 0, 1) := by decide +kernel
theorem dX5_placesOn_105 : decode cX5_placesOn 105 = .ok (.dup, 1) := by decide +kernel
theorem dX5_placesOn_106 : decode cX5_placesOn 106 = .ok (.getfield 143, 3) := by decide +kernel
theorem dX5_placesOn_109 : decode cX5_placesOn 109 = .ok (.iload 4, 2) := by decide +kernel
theorem dX5_placesOn_111 : decode cX5_placesOn 111 = .ok (.iload_n 3, 1) := by decide +kernel
theorem dX5_placesOn_112 : decode cX5_placesOn 112 = .ok (.isub, 1) := by decide +kernel
theorem dX5_placesOn_113 : decode cX5_placesOn 113 = .ok (.invokestatic 146, 3) := by decide +kernel
theorem dX5_placesOn_116 : decode cX5_placesOn 116 = .ok (.iadd, 1) := by decide +kernel
theorem dX5_placesOn_117 : decode cX5_placesOn 117 = .ok (.putfield 143, 3) := by decide +kernel
theorem dX5_placesOn_120 : decode cX5_placesOn 120 = .ok (.iinc 2 1, 3) := by decide +kernel
theorem dX5_placesOn_123 : decode cX5_placesOn 123 = .ok (.goto (-121), 3) := by decide +kernel
theorem dX5_placesOn_126 : decode cX5_placesOn 126 = .ok (.aload_n 0, 1) := by decide +kernel
theorem dX5_placesOn_127 : decode cX5_placesOn 127 = .ok (.getfield 7, 3) := by decide +kernel
theorem dX5_placesOn_130 : decode cX5_placesOn 130 = .ok (.iload_n 1, 1) := by decide +kernel
theorem dX5_placesOn_131 : decode cX5_placesOn 131 = .ok (.bipush 51, 2) := by decide +kernel
theorem dX5_placesOn_133 : decode cX5_placesOn 133 = .ok (.iadd, 1) := by decide +kernel
theorem dX5_placesOn_134 : decode cX5_placesOn 134 = .ok (.dup2, 1) := by decide +kernel
theorem dX5_placesOn_135 : decode cX5_placesOn 135 = .ok (.iaload, 1) := by decide +kernel
theorem dX5_placesOn_136 : decode cX5_placesOn 136 = .ok (.iconst 1, 1) := by decide +kernel
theorem dX5_placesOn_137 : decode cX5_placesOn 137 = .ok (.iadd, 1) := by decide +kernel
theorem dX5_placesOn_138 : decode cX5_placesOn 138 = .ok (.iastore, 1) := by decide +kernel
theorem dX5_placesOn_139 : decode cX5_placesOn 139 = .ok (.return_, 1) := by decide +kernel
theorem dX5_lastOn_0 : decode cX5_lastOn 0 = .ok (.aload_n 0, 1) := by decide +kernel
theorem dX5_lastOn_1 : decode cX5_lastOn 1 = .ok (.getfield 7, 3) := by decide +kernel
theorem dX5_lastOn_4 : decode cX5_lastOn 4 = .ok (.iload_n 1, 1) := by decide +kernel
theorem dX5_lastOn_5 : decode cX5_lastOn 5 = .ok (.bipush 24, 2) := by decide +kernel
theorem dX5_lastOn_7 : decode cX5_lastOn 7 = .ok (.iadd, 1) := by decide +kernel
theorem dX5_lastOn_8 : decode cX5_lastOn 8 = .ok (.iaload, 1) := by decide +kernel
theorem dX5_lastOn_9 : decode cX5_lastOn 9 = .ok (.ifCond .ne 7, 3) := by decide +kernel
theorem dX5_lastOn_12 : decode cX5_lastOn 12 = .ok (.iconst 0, 1) := by decide +kernel
theorem dX5_lastOn_13 : decode cX5_lastOn 13 = .ok (.goto 24, 3) := by decide +kernel
theorem dX5_lastOn_16 : decode cX5_lastOn 16 = .ok (.aload_n 0, 1) := by decide +kernel
theorem dX5_lastOn_17 : decode cX5_lastOn 17 = .ok (.getfield 7, 3) := by decide +kernel
theorem dX5_lastOn_20 : decode cX5_lastOn 20 = .ok (.iload_n 1, 1) := by decide +kernel
theorem dX5_lastOn_21 : decode cX5_lastOn 21 = .ok (.bipush 16, 2) := by decide +kernel
theorem dX5_lastOn_23 : decode cX5_lastOn 23 = .ok (.iadd, 1) := by decide +kernel
theorem dX5_lastOn_24 : decode cX5_lastOn 24 = .ok (.aload_n 0, 1) := by decide +kernel
theorem dX5_lastOn_25 : decode cX5_lastOn 25 = .ok (.getfield 7, 3) := by decide +kernel
theorem dX5_lastOn_28 : decode cX5_lastOn 28 = .ok (.iload_n 1, 1) := by decide +kernel
theorem dX5_lastOn_29 : decode cX5_lastOn 29 = .ok (.bipush 24, 2) := by decide +kernel
theorem dX5_lastOn_31 : decode cX5_lastOn 31 = .ok (.iadd, 1) := by decide +kernel
theorem dX5_lastOn_32 : decode cX5_lastOn 32 = .ok (.iaload, 1) := by decide +kernel
theorem dX5_lastOn_33 : decode cX5_lastOn 33 = .ok (.iadd, 1) := by decide +kernel
theorem dX5_lastOn_34 : decode cX5_lastOn 34 = .ok (.iconst 1, 1) := by decide +kernel
theorem dX5_lastOn_35 : decode cX5_lastOn 35 = .ok (.isub, 1) := by decide +kernel
theorem dX5_lastOn_36 : decode cX5_lastOn 36 = .ok (.iaload, 1) := by decide +kernel
theorem dX5_lastOn_37 : decode cX5_lastOn 37 = .ok (.ireturn, 1) := by decide +kernel
theorem dX5_movesOn_0 : decode cX5_movesOn 0 = .ok (.iconst 0, 1) := by decide +kernel
theorem dX5_movesOn_1 : decode cX5_movesOn 1 = .ok (.istore_n 2, 1) := by decide +kernel
theorem dX5_movesOn_2 : decode cX5_movesOn 2 = .ok (.iload_n 2, 1) := by decide +kernel
theorem dX5_movesOn_3 : decode cX5_movesOn 3 = .ok (.iconst 4, 1) := by decide +kernel
theorem dX5_movesOn_4 : decode cX5_movesOn 4 = .ok (.if_icmp .ge 26, 3) := by decide +kernel
theorem dX5_movesOn_7 : decode cX5_movesOn 7 = .ok (.aload_n 0, 1) := by decide +kernel
theorem dX5_movesOn_8 : decode cX5_movesOn 8 = .ok (.getfield 25, 3) := by decide +kernel
theorem dX5_movesOn_11 : decode cX5_movesOn 11 = .ok (.iload_n 2, 1) := by decide +kernel
theorem dX5_movesOn_12 : decode cX5_movesOn 12 = .ok (.aload_n 0, 1) := by decide +kernel
theorem dX5_movesOn_13 : decode cX5_movesOn 13 = .ok (.getfield 7, 3) := by decide +kernel
theorem dX5_movesOn_16 : decode cX5_movesOn 16 = .ok (.iload_n 1, 1) := by decide +kernel
theorem dX5_movesOn_17 : decode cX5_movesOn 17 = .ok (.bipush 20, 2) := by decide +kernel
theorem dX5_movesOn_19 : decode cX5_movesOn 19 = .ok (.iadd, 1) := by decide +kernel
theorem dX5_movesOn_20 : decode cX5_movesOn 20 = .ok (.iload_n 2, 1) := by decide +kernel
theorem dX5_movesOn_21 : decode cX5_movesOn 21 = .ok (.iadd, 1) := by decide +kernel
theorem dX5_movesOn_22 : decode cX5_movesOn 22 = .ok (.iaload, 1) := by decide +kernel
theorem dX5_movesOn_23 : decode cX5_movesOn 23 = .ok (.iastore, 1) := by decide +kernel
theorem dX5_movesOn_24 : decode cX5_movesOn 24 = .ok (.iinc 2 1, 3) := by decide +kernel
theorem dX5_movesOn_27 : decode cX5_movesOn 27 = .ok (.goto (-25), 3) := by decide +kernel
theorem dX5_movesOn_30 : decode cX5_movesOn 30 = .ok (.aload_n 0, 1) := by decide +kernel
theorem dX5_movesOn_31 : decode cX5_movesOn 31 = .ok (.iload_n 1, 1) := by decide +kernel
theorem dX5_movesOn_32 : decode cX5_movesOn 32 = .ok (.invokevirtual 149, 3) := by decide +kernel
theorem dX5_movesOn_35 : decode cX5_movesOn 35 = .ok (.aload_n 0, 1) := by decide +kernel
theorem dX5_movesOn_36 : decode cX5_movesOn 36 = .ok (.iload_n 1, 1) := by decide +kernel
theorem dX5_movesOn_37 : decode cX5_movesOn 37 = .ok (.invokevirtual 152, 3) := by decide +kernel
theorem dX5_movesOn_40 : decode cX5_movesOn 40 = .ok (.aload_n 0, 1) := by decide +kernel
theorem dX5_movesOn_41 : decode cX5_movesOn 41 = .ok (.iconst 0, 1) := by decide +kernel
theorem dX5_movesOn_42 : decode cX5_movesOn 42 = .ok (.putfield 155, 3) := by decide +kernel
theorem dX5_movesOn_45 : decode cX5_movesOn 45 = .ok (.iconst 0, 1) := by decide +kernel
theorem dX5_movesOn_46 : decode cX5_movesOn 46 = .ok (.istore_n 2, 1) := by decide +kernel
theorem dX5_movesOn_47 : decode cX5_movesOn 47 = .ok (.iload_n 2, 1) := by decide +kernel
theorem dX5_movesOn_48 : decode cX5_movesOn 48 = .ok (.aload_n 0, 1) := by decide +kernel
theorem dX5_movesOn_49 : decode cX5_movesOn 49 = .ok (.getfield 7, 3) := by decide +kernel
theorem dX5_movesOn_52 : decode cX5_movesOn 52 = .ok (.iload_n 1, 1) := by decide +kernel
theorem dX5_movesOn_53 : decode cX5_movesOn 53 = .ok (.bipush 24, 2) := by decide +kernel
theorem dX5_movesOn_55 : decode cX5_movesOn 55 = .ok (.iadd, 1) := by decide +kernel
theorem dX5_movesOn_56 : decode cX5_movesOn 56 = .ok (.iaload, 1) := by decide +kernel
theorem dX5_movesOn_57 : decode cX5_movesOn 57 = .ok (.if_icmp .ge 45, 3) := by decide +kernel
theorem dX5_movesOn_60 : decode cX5_movesOn 60 = .ok (.aload_n 0, 1) := by decide +kernel
theorem dX5_movesOn_61 : decode cX5_movesOn 61 = .ok (.aload_n 0, 1) := by decide +kernel
theorem dX5_movesOn_62 : decode cX5_movesOn 62 = .ok (.getfield 155, 3) := by decide +kernel
theorem dX5_movesOn_65 : decode cX5_movesOn 65 = .ok (.ifCond .ne 23, 3) := by decide +kernel
theorem dX5_movesOn_68 : decode cX5_movesOn 68 = .ok (.aload_n 0, 1) := by decide +kernel
theorem dX5_movesOn_69 : decode cX5_movesOn 69 = .ok (.getfield 7, 3) := by decide +kernel
theorem dX5_movesOn_72 : decode cX5_movesOn 72 = .ok (.iload_n 1, 1) := by decide +kernel
theorem dX5_movesOn_73 : decode cX5_movesOn 73 = .ok (.bipush 20, 2) := by decide +kernel
theorem dX5_movesOn_75 : decode cX5_movesOn 75 = .ok (.iadd, 1) := by decide +kernel
theorem dX5_movesOn_76 : decode cX5_movesOn 76 = .ok (.iload_n 2, 1) := by decide +kernel
theorem dX5_movesOn_77 : decode cX5_movesOn 77 = .ok (.iadd, 1) := by decide +kernel
theorem dX5_movesOn_78 : decode cX5_movesOn 78 = .ok (.iaload, 1) := by decide +kernel
theorem dX5_movesOn_79 : decode cX5_movesOn 79 = .ok (.aload_n 0, 1) := by decide +kernel
theorem dX5_movesOn_80 : decode cX5_movesOn 80 = .ok (.getfield 25, 3) := by decide +kernel
theorem dX5_movesOn_83 : decode cX5_movesOn 83 = .ok (.iload_n 2, 1) := by decide +kernel
theorem dX5_movesOn_84 : decode cX5_movesOn 84 = .ok (.iaload, 1) := by decide +kernel
theorem dX5_movesOn_85 : decode cX5_movesOn 85 = .ok (.if_icmp .eq 7, 3) := by decide +kernel
theorem dX5_movesOn_88 : decode cX5_movesOn 88 = .ok (.iconst 1, 1) := by decide +kernel
theorem dX5_movesOn_89 : decode cX5_movesOn 89 = .ok (.goto 4, 3) := by decide +kernel
theorem dX5_movesOn_92 : decode cX5_movesOn 92 = .ok (.iconst 0, 1) := by decide +kernel
theorem dX5_movesOn_93 : decode cX5_movesOn 93 = .ok (.putfield 155, 3) := by decide +kernel
theorem dX5_movesOn_96 : decode cX5_movesOn 96 = .ok (.iinc 2 1, 3) := by decide +kernel
theorem dX5_movesOn_99 : decode cX5_movesOn 99 = .ok (.goto (-52), 3) := by decide +kernel
theorem dX5_movesOn_102 : decode cX5_movesOn 102 = .ok (.aload_n 0, 1) := by decide +kernel
theorem dX5_movesOn_103 : decode cX5_movesOn 103 = .ok (.iload_n 1, 1) := by decide +kernel
theorem dX5_movesOn_104 : decode cX5_movesOn 104 = .ok (.invokevirtual 158, 3) := by decide +kernel
theorem dX5_movesOn_107 : decode cX5_movesOn 107 = .ok (.aload_n 0, 1) := by decide +kernel
theorem dX5_movesOn_108 : decode cX5_movesOn 108 = .ok (.iconst 0, 1) := by decide +kernel
theorem dX5_movesOn_109 : decode cX5_movesOn 109 = .ok (.invokevirtual 158, 3) := by decide +kernel
theorem dX5_movesOn_112 : decode cX5_movesOn 112 = .ok (.isub, 1) := by decide +kernel
theorem dX5_movesOn_113 : decode cX5_movesOn 113 = .ok (.invokestatic 146, 3) := by decide +kernel
theorem dX5_movesOn_116 : decode cX5_movesOn 116 = .ok (.istore_n 2, 1) := by decide +kernel
theorem dX5_movesOn_117 : decode cX5_movesOn 117 = .ok (.aload_n 0, 1) := by decide +kernel
theorem dX5_movesOn_118 : decode cX5_movesOn 118 = .ok (.iload_n 2, 1) := by decide +kernel
theorem dX5_movesOn_119 : decode cX5_movesOn 119 = .ok (.aload_n 0, 1) := by decide +kernel
theorem dX5_movesOn_120 : decode cX5_movesOn 120 = .ok (.getfield 161, 3) := by decide +kernel
theorem dX5_movesOn_123 : decode cX5_movesOn 123 = .ok (.if_icmp .le 7, 3) := by decide +kernel
theorem dX5_movesOn_126 : decode cX5_movesOn 126 = .ok (.iload_n 2, 1) := by decide +kernel
theorem dX5_movesOn_127 : decode cX5_movesOn 127 = .ok (.goto 7, 3) := by decide +kernel
theorem dX5_movesOn_130 : decode cX5_movesOn 130 = .ok (.aload_n 0, 1) := by decide +kernel
theorem dX5_movesOn_131 : decode cX5_movesOn 131 = .ok (.getfield 161, 3) := by decide +kernel
theorem dX5_movesOn_134 : decode cX5_movesOn 134 = .ok (.putfield 161, 3) := by decide +kernel
theorem dX5_movesOn_137 : decode cX5_movesOn 137 = .ok (.return_, 1) := by decide +kernel
theorem dX5_tickOn_0 : decode cX5_tickOn 0 = .ok (.aload_n 0, 1) := by decide +kernel
theorem dX5_tickOn_1 : decode cX5_tickOn 1 = .ok (.getfield 7, 3) := by decide +kernel
theorem dX5_tickOn_4 : decode cX5_tickOn 4 = .ok (.iload_n 1, 1) := by decide +kernel
theorem dX5_tickOn_5 : decode cX5_tickOn 5 = .ok (.bipush 49, 2) := by decide +kernel
theorem dX5_tickOn_7 : decode cX5_tickOn 7 = .ok (.iadd, 1) := by decide +kernel
theorem dX5_tickOn_8 : decode cX5_tickOn 8 = .ok (.iaload, 1) := by decide +kernel
theorem dX5_tickOn_9 : decode cX5_tickOn 9 = .ok (.istore_n 3, 1) := by decide +kernel
theorem dX5_tickOn_10 : decode cX5_tickOn 10 = .ok (.iload_n 3, 1) := by decide +kernel
theorem dX5_tickOn_11 : decode cX5_tickOn 11 = .ok (.ifCond .ne 8, 3) := by decide +kernel
theorem dX5_tickOn_14 : decode cX5_tickOn 14 = .ok (.bipush (-4), 2) := by decide +kernel
theorem dX5_tickOn_16 : decode cX5_tickOn 16 = .ok (.goto 14, 3) := by decide +kernel
theorem dX5_tickOn_19 : decode cX5_tickOn 19 = .ok (.aload_n 0, 1) := by decide +kernel
theorem dX5_tickOn_20 : decode cX5_tickOn 20 = .ok (.getfield 7, 3) := by decide +kernel
theorem dX5_tickOn_23 : decode cX5_tickOn 23 = .ok (.iload_n 1, 1) := by decide +kernel
theorem dX5_tickOn_24 : decode cX5_tickOn 24 = .ok (.bipush 51, 2) := by decide +kernel
theorem dX5_tickOn_26 : decode cX5_tickOn 26 = .ok (.iadd, 1) := by decide +kernel
theorem dX5_tickOn_27 : decode cX5_tickOn 27 = .ok (.iaload, 1) := by decide +kernel
theorem dX5_tickOn_28 : decode cX5_tickOn 28 = .ok (.iload_n 3, 1) := by decide +kernel
theorem dX5_tickOn_29 : decode cX5_tickOn 29 = .ok (.irem, 1) := by decide +kernel
theorem dX5_tickOn_30 : decode cX5_tickOn 30 = .ok (.istore 4, 2) := by decide +kernel
theorem dX5_tickOn_32 : decode cX5_tickOn 32 = .ok (.iload 4, 2) := by decide +kernel
theorem dX5_tickOn_34 : decode cX5_tickOn 34 = .ok (.bipush (-4), 2) := by decide +kernel
theorem dX5_tickOn_36 : decode cX5_tickOn 36 = .ok (.if_icmp .eq 45, 3) := by decide +kernel
theorem dX5_tickOn_39 : decode cX5_tickOn 39 = .ok (.iload 4, 2) := by decide +kernel
theorem dX5_tickOn_41 : decode cX5_tickOn 41 = .ok (.aload_n 0, 1) := by decide +kernel
theorem dX5_tickOn_42 : decode cX5_tickOn 42 = .ok (.getfield 28, 3) := by decide +kernel
theorem dX5_tickOn_45 : decode cX5_tickOn 45 = .ok (.if_icmp .eq 36, 3) := by decide +kernel
theorem dX5_tickOn_48 : decode cX5_tickOn 48 = .ok (.iload_n 2, 1) := by decide +kernel
theorem dX5_tickOn_49 : decode cX5_tickOn 49 = .ok (.ifCond .ne 32, 3) := by decide +kernel
theorem dX5_tickOn_52 : decode cX5_tickOn 52 = .ok (.aload_n 0, 1) := by decide +kernel
theorem dX5_tickOn_53 : decode cX5_tickOn 53 = .ok (.iload_n 1, 1) := by decide +kernel
theorem dX5_tickOn_54 : decode cX5_tickOn 54 = .ok (.aload_n 0, 1) := by decide +kernel
theorem dX5_tickOn_55 : decode cX5_tickOn 55 = .ok (.getfield 7, 3) := by decide +kernel
theorem dX5_tickOn_58 : decode cX5_tickOn 58 = .ok (.iload_n 1, 1) := by decide +kernel
theorem dX5_tickOn_59 : decode cX5_tickOn 59 = .ok (.bipush 25, 2) := by decide +kernel
theorem dX5_tickOn_61 : decode cX5_tickOn 61 = .ok (.iadd, 1) := by decide +kernel
theorem dX5_tickOn_62 : decode cX5_tickOn 62 = .ok (.iload 4, 2) := by decide +kernel
theorem dX5_tickOn_64 : decode cX5_tickOn 64 = .ok (.iadd, 1) := by decide +kernel
theorem dX5_tickOn_65 : decode cX5_tickOn 65 = .ok (.iaload, 1) := by decide +kernel
theorem dX5_tickOn_66 : decode cX5_tickOn 66 = .ok (.aload_n 0, 1) := by decide +kernel
theorem dX5_tickOn_67 : decode cX5_tickOn 67 = .ok (.getfield 7, 3) := by decide +kernel
theorem dX5_tickOn_70 : decode cX5_tickOn 70 = .ok (.iload_n 1, 1) := by decide +kernel
theorem dX5_tickOn_71 : decode cX5_tickOn 71 = .ok (.bipush 37, 2) := by decide +kernel
theorem dX5_tickOn_73 : decode cX5_tickOn 73 = .ok (.iadd, 1) := by decide +kernel
theorem dX5_tickOn_74 : decode cX5_tickOn 74 = .ok (.iload 4, 2) := by decide +kernel
theorem dX5_tickOn_76 : decode cX5_tickOn 76 = .ok (.iadd, 1) := by decide +kernel
theorem dX5_tickOn_77 : decode cX5_tickOn 77 = .ok (.iaload, 1) := by decide +kernel
theorem dX5_tickOn_78 : decode cX5_tickOn 78 = .ok (.invokevirtual 164, 3) := by decide +kernel
theorem dX5_tickOn_81 : decode cX5_tickOn 81 = .ok (.aload_n 0, 1) := by decide +kernel
theorem dX5_tickOn_82 : decode cX5_tickOn 82 = .ok (.iload_n 1, 1) := by decide +kernel
theorem dX5_tickOn_83 : decode cX5_tickOn 83 = .ok (.invokevirtual 168, 3) := by decide +kernel
theorem dX5_tickOn_86 : decode cX5_tickOn 86 = .ok (.return_, 1) := by decide +kernel
theorem dX5_rule_0 : decode cX5_rule 0 = .ok (.iconst 0, 1) := by decide +kernel
theorem dX5_rule_1 : decode cX5_rule 1 = .ok (.istore_n 2, 1) := by decide +kernel
theorem dX5_rule_2 : decode cX5_rule 2 = .ok (.iconst 0, 1) := by decide +kernel
theorem dX5_rule_3 : decode cX5_rule 3 = .ok (.istore_n 3, 1) := by decide +kernel
theorem dX5_rule_4 : decode cX5_rule 4 = .ok (.iload_n 3, 1) := by decide +kernel
theorem dX5_rule_5 : decode cX5_rule 5 = .ok (.aload_n 0, 1) := by decide +kernel
theorem dX5_rule_6 : decode cX5_rule 6 = .ok (.getfield 7, 3) := by decide +kernel
theorem dX5_rule_9 : decode cX5_rule 9 = .ok (.bipush 24, 2) := by decide +kernel
theorem dX5_rule_11 : decode cX5_rule 11 = .ok (.iaload, 1) := by decide +kernel
theorem dX5_rule_12 : decode cX5_rule 12 = .ok (.if_icmp .ge 31, 3) := by decide +kernel
theorem dX5_rule_15 : decode cX5_rule 15 = .ok (.iload_n 2, 1) := by decide +kernel
theorem dX5_rule_16 : decode cX5_rule 16 = .ok (.aload_n 0, 1) := by decide +kernel
theorem dX5_rule_17 : decode cX5_rule 17 = .ok (.getfield 7, 3) := by decide +kernel
theorem dX5_rule_20 : decode cX5_rule 20 = .ok (.bipush 20, 2) := by decide +kernel
theorem dX5_rule_22 : decode cX5_rule 22 = .ok (.iload_n 3, 1) := by decide +kernel
theorem dX5_rule_23 : decode cX5_rule 23 = .ok (.iadd, 1) := by decide +kernel
theorem dX5_rule_24 : decode cX5_rule 24 = .ok (.iaload, 1) := by decide +kernel
theorem dX5_rule_25 : decode cX5_rule 25 = .ok (.ifCond .ne 9, 3) := by decide +kernel
theorem dX5_rule_28 : decode cX5_rule 28 = .ok (.iconst 1, 1) := by decide +kernel
theorem dX5_rule_29 : decode cX5_rule 29 = .ok (.iload_n 3, 1) := by decide +kernel
theorem dX5_rule_30 : decode cX5_rule 30 = .ok (.ishl, 1) := by decide +kernel
theorem dX5_rule_31 : decode cX5_rule 31 = .ok (.goto 4, 3) := by decide +kernel
theorem dX5_rule_34 : decode cX5_rule 34 = .ok (.iconst 0, 1) := by decide +kernel
theorem dX5_rule_35 : decode cX5_rule 35 = .ok (.ior, 1) := by decide +kernel
theorem dX5_rule_36 : decode cX5_rule 36 = .ok (.istore_n 2, 1) := by decide +kernel
theorem dX5_rule_37 : decode cX5_rule 37 = .ok (.iinc 3 1, 3) := by decide +kernel
theorem dX5_rule_40 : decode cX5_rule 40 = .ok (.goto (-36), 3) := by decide +kernel
theorem dX5_rule_43 : decode cX5_rule 43 = .ok (.iload_n 1, 1) := by decide +kernel
theorem dX5_rule_44 : decode cX5_rule 44 = .ok (.tableswitch 80 0 5 #[40, 48, 56, 64, 72, 74], 40) := by decide +kernel
theorem dX5_rule_84 : decode cX5_rule 84 = .ok (.aload_n 0, 1) := by decide +kernel
theorem dX5_rule_85 : decode cX5_rule 85 = .ok (.getfield 7, 3) := by decide +kernel
theorem dX5_rule_88 : decode cX5_rule 88 = .ok (.bipush 24, 2) := by decide +kernel
theorem dX5_rule_90 : decode cX5_rule 90 = .ok (.iaload, 1) := by decide +kernel
theorem dX5_rule_91 : decode cX5_rule 91 = .ok (.ireturn, 1) := by decide +kernel
theorem dX5_rule_92 : decode cX5_rule 92 = .ok (.aload_n 0, 1) := by decide +kernel
theorem dX5_rule_93 : decode cX5_rule 93 = .ok (.getfield 7, 3) := by decide +kernel
theorem dX5_rule_96 : decode cX5_rule 96 = .ok (.bipush 49, 2) := by decide +kernel
theorem dX5_rule_98 : decode cX5_rule 98 = .ok (.iaload, 1) := by decide +kernel
theorem dX5_rule_99 : decode cX5_rule 99 = .ok (.ireturn, 1) := by decide +kernel
theorem dX5_rule_100 : decode cX5_rule 100 = .ok (.aload_n 0, 1) := by decide +kernel
theorem dX5_rule_101 : decode cX5_rule 101 = .ok (.getfield 7, 3) := by decide +kernel
theorem dX5_rule_104 : decode cX5_rule 104 = .ok (.bipush 51, 2) := by decide +kernel
theorem dX5_rule_106 : decode cX5_rule 106 = .ok (.iaload, 1) := by decide +kernel
theorem dX5_rule_107 : decode cX5_rule 107 = .ok (.ireturn, 1) := by decide +kernel
theorem dX5_rule_108 : decode cX5_rule 108 = .ok (.aload_n 0, 1) := by decide +kernel
theorem dX5_rule_109 : decode cX5_rule 109 = .ok (.getfield 7, 3) := by decide +kernel
theorem dX5_rule_112 : decode cX5_rule 112 = .ok (.bipush 50, 2) := by decide +kernel
theorem dX5_rule_114 : decode cX5_rule 114 = .ok (.iaload, 1) := by decide +kernel
theorem dX5_rule_115 : decode cX5_rule 115 = .ok (.ireturn, 1) := by decide +kernel
theorem dX5_rule_116 : decode cX5_rule 116 = .ok (.iload_n 2, 1) := by decide +kernel
theorem dX5_rule_117 : decode cX5_rule 117 = .ok (.ireturn, 1) := by decide +kernel
theorem dX5_rule_118 : decode cX5_rule 118 = .ok (.aload_n 0, 1) := by decide +kernel
theorem dX5_rule_119 : decode cX5_rule 119 = .ok (.iconst 0, 1) := by decide +kernel
theorem dX5_rule_120 : decode cX5_rule 120 = .ok (.invokevirtual 158, 3) := by decide +kernel
theorem dX5_rule_123 : decode cX5_rule 123 = .ok (.ireturn, 1) := by decide +kernel
theorem dX5_rule_124 : decode cX5_rule 124 = .ok (.iconst (-1), 1) := by decide +kernel
theorem dX5_rule_125 : decode cX5_rule 125 = .ok (.ireturn, 1) := by decide +kernel
theorem dX5_bead_0 : decode cX5_bead 0 = .ok (.aload_n 0, 1) := by decide +kernel
theorem dX5_bead_1 : decode cX5_bead 1 = .ok (.iload_n 1, 1) := by decide +kernel
theorem dX5_bead_2 : decode cX5_bead 2 = .ok (.invokevirtual 171, 3) := by decide +kernel
theorem dX5_bead_5 : decode cX5_bead 5 = .ok (.ifCond .eq 15, 3) := by decide +kernel
theorem dX5_bead_8 : decode cX5_bead 8 = .ok (.iload_n 2, 1) := by decide +kernel
theorem dX5_bead_9 : decode cX5_bead 9 = .ok (.i2l, 1) := by decide +kernel
theorem dX5_bead_10 : decode cX5_bead 10 = .ok (.lconst 0, 1) := by decide +kernel
theorem dX5_bead_11 : decode cX5_bead 11 = .ok (.ldc2_w 175, 3) := by decide +kernel
theorem dX5_bead_14 : decode cX5_bead 14 = .ok (.invokestatic 53, 3) := by decide +kernel
theorem dX5_bead_17 : decode cX5_bead 17 = .ok (.ifCond .ne 5, 3) := by decide +kernel
theorem dX5_bead_20 : decode cX5_bead 20 = .ok (.iconst (-1), 1) := by decide +kernel
theorem dX5_bead_21 : decode cX5_bead 21 = .ok (.ireturn, 1) := by decide +kernel
theorem dX5_bead_22 : decode cX5_bead 22 = .ok (.iload_n 2, 1) := by decide +kernel
theorem dX5_bead_23 : decode cX5_bead 23 = .ok (.bipush 6, 2) := by decide +kernel
theorem dX5_bead_25 : decode cX5_bead 25 = .ok (.if_icmp .ge 26, 3) := by decide +kernel
theorem dX5_bead_28 : decode cX5_bead 28 = .ok (.aload_n 0, 1) := by decide +kernel
theorem dX5_bead_29 : decode cX5_bead 29 = .ok (.getfield 7, 3) := by decide +kernel
theorem dX5_bead_32 : decode cX5_bead 32 = .ok (.iconst 4, 1) := by decide +kernel
theorem dX5_bead_33 : decode cX5_bead 33 = .ok (.iload_n 2, 1) := by decide +kernel
theorem dX5_bead_34 : decode cX5_bead 34 = .ok (.imul, 1) := by decide +kernel
theorem dX5_bead_35 : decode cX5_bead 35 = .ok (.iload_n 1, 1) := by decide +kernel
theorem dX5_bead_36 : decode cX5_bead 36 = .ok (.iadd, 1) := by decide +kernel
theorem dX5_bead_37 : decode cX5_bead 37 = .ok (.iaload, 1) := by decide +kernel
theorem dX5_bead_38 : decode cX5_bead 38 = .ok (.iload_n 2, 1) := by decide +kernel
theorem dX5_bead_39 : decode cX5_bead 39 = .ok (.iconst 5, 1) := by decide +kernel
theorem dX5_bead_40 : decode cX5_bead 40 = .ok (.if_icmp .ne 8, 3) := by decide +kernel
theorem dX5_bead_43 : decode cX5_bead 43 = .ok (.bipush 100, 2) := by decide +kernel
theorem dX5_bead_45 : decode cX5_bead 45 = .ok (.goto 4, 3) := by decide +kernel
theorem dX5_bead_48 : decode cX5_bead 48 = .ok (.iconst 0, 1) := by decide +kernel
theorem dX5_bead_49 : decode cX5_bead 49 = .ok (.iadd, 1) := by decide +kernel
theorem dX5_bead_50 : decode cX5_bead 50 = .ok (.ireturn, 1) := by decide +kernel
theorem dX5_bead_51 : decode cX5_bead 51 = .ok (.iload_n 2, 1) := by decide +kernel
theorem dX5_bead_52 : decode cX5_bead 52 = .ok (.bipush 6, 2) := by decide +kernel
theorem dX5_bead_54 : decode cX5_bead 54 = .ok (.if_icmp .ne 16, 3) := by decide +kernel
theorem dX5_bead_57 : decode cX5_bead 57 = .ok (.sipush 1000, 3) := by decide +kernel
theorem dX5_bead_60 : decode cX5_bead 60 = .ok (.aload_n 0, 1) := by decide +kernel
theorem dX5_bead_61 : decode cX5_bead 61 = .ok (.iconst 0, 1) := by decide +kernel
theorem dX5_bead_62 : decode cX5_bead 62 = .ok (.iload_n 1, 1) := by decide +kernel
theorem dX5_bead_63 : decode cX5_bead 63 = .ok (.invokevirtual 125, 3) := by decide +kernel
theorem dX5_bead_66 : decode cX5_bead 66 = .ok (.iadd, 1) := by decide +kernel
theorem dX5_bead_67 : decode cX5_bead 67 = .ok (.goto 13, 3) := by decide +kernel
theorem dX5_bead_70 : decode cX5_bead 70 = .ok (.sipush 10000, 3) := by decide +kernel
theorem dX5_bead_73 : decode cX5_bead 73 = .ok (.aload_n 0, 1) := by decide +kernel
theorem dX5_bead_74 : decode cX5_bead 74 = .ok (.iconst 0, 1) := by decide +kernel
theorem dX5_bead_75 : decode cX5_bead 75 = .ok (.iload_n 1, 1) := by decide +kernel
theorem dX5_bead_76 : decode cX5_bead 76 = .ok (.invokevirtual 135, 3) := by decide +kernel
theorem dX5_bead_79 : decode cX5_bead 79 = .ok (.iadd, 1) := by decide +kernel
theorem dX5_bead_80 : decode cX5_bead 80 = .ok (.ireturn, 1) := by decide +kernel
theorem dX5_knock_0 : decode cX5_knock 0 = .ok (.aload_n 0, 1) := by decide +kernel
theorem dX5_knock_1 : decode cX5_knock 1 = .ok (.iload_n 1, 1) := by decide +kernel
theorem dX5_knock_2 : decode cX5_knock 2 = .ok (.invokevirtual 177, 3) := by decide +kernel
theorem dX5_knock_5 : decode cX5_knock 5 = .ok (.ifCond .eq 13, 3) := by decide +kernel
theorem dX5_knock_8 : decode cX5_knock 8 = .ok (.iload_n 2, 1) := by decide +kernel
theorem dX5_knock_9 : decode cX5_knock 9 = .ok (.i2l, 1) := by decide +kernel
theorem dX5_knock_10 : decode cX5_knock 10 = .ok (.lconst 0, 1) := by decide +kernel
theorem dX5_knock_11 : decode cX5_knock 11 = .ok (.lconst 1, 1) := by decide +kernel
theorem dX5_knock_12 : decode cX5_knock 12 = .ok (.invokestatic 53, 3) := by decide +kernel
theorem dX5_knock_15 : decode cX5_knock 15 = .ok (.ifCond .ne 5, 3) := by decide +kernel
theorem dX5_knock_18 : decode cX5_knock 18 = .ok (.iconst (-1), 1) := by decide +kernel
theorem dX5_knock_19 : decode cX5_knock 19 = .ok (.ireturn, 1) := by decide +kernel
theorem dX5_knock_20 : decode cX5_knock 20 = .ok (.iload_n 2, 1) := by decide +kernel
theorem dX5_knock_21 : decode cX5_knock 21 = .ok (.ifCond .ne 15, 3) := by decide +kernel
theorem dX5_knock_24 : decode cX5_knock 24 = .ok (.aload_n 0, 1) := by decide +kernel
theorem dX5_knock_25 : decode cX5_knock 25 = .ok (.getfield 7, 3) := by decide +kernel
theorem dX5_knock_28 : decode cX5_knock 28 = .ok (.bipush 25, 2) := by decide +kernel
theorem dX5_knock_30 : decode cX5_knock 30 = .ok (.iload_n 1, 1) := by decide +kernel
theorem dX5_knock_31 : decode cX5_knock 31 = .ok (.iadd, 1) := by decide +kernel
theorem dX5_knock_32 : decode cX5_knock 32 = .ok (.iaload, 1) := by decide +kernel
theorem dX5_knock_33 : decode cX5_knock 33 = .ok (.goto 15, 3) := by decide +kernel
theorem dX5_knock_36 : decode cX5_knock 36 = .ok (.bipush 9, 2) := by decide +kernel
theorem dX5_knock_38 : decode cX5_knock 38 = .ok (.aload_n 0, 1) := by decide +kernel
theorem dX5_knock_39 : decode cX5_knock 39 = .ok (.getfield 7, 3) := by decide +kernel
theorem dX5_knock_42 : decode cX5_knock 42 = .ok (.bipush 37, 2) := by decide +kernel
theorem dX5_knock_44 : decode cX5_knock 44 = .ok (.iload_n 1, 1) := by decide +kernel
theorem dX5_knock_45 : decode cX5_knock 45 = .ok (.iadd, 1) := by decide +kernel
theorem dX5_knock_46 : decode cX5_knock 46 = .ok (.iaload, 1) := by decide +kernel
theorem dX5_knock_47 : decode cX5_knock 47 = .ok (.iadd, 1) := by decide +kernel
theorem dX5_knock_48 : decode cX5_knock 48 = .ok (.ireturn, 1) := by decide +kernel
theorem dX5_puts_0 : decode cX5_puts 0 = .ok (.iload_n 1, 1) := by decide +kernel
theorem dX5_puts_1 : decode cX5_puts 1 = .ok (.ifCond .ne 5, 3) := by decide +kernel
theorem dX5_puts_4 : decode cX5_puts 4 = .ok (.iconst (-1), 1) := by decide +kernel
theorem dX5_puts_5 : decode cX5_puts 5 = .ok (.ireturn, 1) := by decide +kernel
theorem dX5_puts_6 : decode cX5_puts 6 = .ok (.aload_n 0, 1) := by decide +kernel
theorem dX5_puts_7 : decode cX5_puts 7 = .ok (.getfield 7, 3) := by decide +kernel
theorem dX5_puts_10 : decode cX5_puts 10 = .ok (.iload_n 2, 1) := by decide +kernel
theorem dX5_puts_11 : decode cX5_puts 11 = .ok (.iaload, 1) := by decide +kernel
theorem dX5_puts_12 : decode cX5_puts 12 = .ok (.istore 4, 2) := by decide +kernel
theorem dX5_puts_14 : decode cX5_puts 14 = .ok (.aload_n 0, 1) := by decide +kernel
theorem dX5_puts_15 : decode cX5_puts 15 = .ok (.getfield 7, 3) := by decide +kernel
theorem dX5_puts_18 : decode cX5_puts 18 = .ok (.iload_n 2, 1) := by decide +kernel
theorem dX5_puts_19 : decode cX5_puts 19 = .ok (.iload_n 3, 1) := by decide +kernel
theorem dX5_puts_20 : decode cX5_puts 20 = .ok (.iastore, 1) := by decide +kernel
theorem dX5_puts_21 : decode cX5_puts 21 = .ok (.iload 4, 2) := by decide +kernel
theorem dX5_puts_23 : decode cX5_puts 23 = .ok (.ireturn, 1) := by decide +kernel
theorem dX5_isGood_0 : decode cX5_isGood 0 = .ok (.iload_n 0, 1) := by decide +kernel
theorem dX5_isGood_1 : decode cX5_isGood 1 = .ok (.tableswitch 85 0 4 #[35, 45, 55, 65, 75], 35) := by decide +kernel
theorem dX5_isGood_36 : decode cX5_isGood 36 = .ok (.iload_n 1, 1) := by decide +kernel
theorem dX5_isGood_37 : decode cX5_isGood 37 = .ok (.i2l, 1) := by decide +kernel
theorem dX5_isGood_38 : decode cX5_isGood 38 = .ok (.lconst 0, 1) := by decide +kernel
theorem dX5_isGood_39 : decode cX5_isGood 39 = .ok (.ldc2_w 180, 3) := by decide +kernel
theorem dX5_isGood_42 : decode cX5_isGood 42 = .ok (.invokestatic 53, 3) := by decide +kernel
theorem dX5_isGood_45 : decode cX5_isGood 45 = .ok (.ireturn, 1) := by decide +kernel
theorem dX5_isGood_46 : decode cX5_isGood 46 = .ok (.iload_n 1, 1) := by decide +kernel
theorem dX5_isGood_47 : decode cX5_isGood 47 = .ok (.i2l, 1) := by decide +kernel
theorem dX5_isGood_48 : decode cX5_isGood 48 = .ok (.lconst 0, 1) := by decide +kernel
theorem dX5_isGood_49 : decode cX5_isGood 49 = .ok (.ldc2_w 182, 3) := by decide +kernel
theorem dX5_isGood_52 : decode cX5_isGood 52 = .ok (.invokestatic 53, 3) := by decide +kernel
theorem dX5_isGood_55 : decode cX5_isGood 55 = .ok (.ireturn, 1) := by decide +kernel
theorem dX5_isGood_56 : decode cX5_isGood 56 = .ok (.iload_n 1, 1) := by decide +kernel
theorem dX5_isGood_57 : decode cX5_isGood 57 = .ok (.i2l, 1) := by decide +kernel
theorem dX5_isGood_58 : decode cX5_isGood 58 = .ok (.lconst 0, 1) := by decide +kernel
theorem dX5_isGood_59 : decode cX5_isGood 59 = .ok (.ldc2_w 184, 3) := by decide +kernel
theorem dX5_isGood_62 : decode cX5_isGood 62 = .ok (.invokestatic 53, 3) := by decide +kernel
theorem dX5_isGood_65 : decode cX5_isGood 65 = .ok (.ireturn, 1) := by decide +kernel
theorem dX5_isGood_66 : decode cX5_isGood 66 = .ok (.iload_n 1, 1) := by decide +kernel
theorem dX5_isGood_67 : decode cX5_isGood 67 = .ok (.i2l, 1) := by decide +kernel
theorem dX5_isGood_68 : decode cX5_isGood 68 = .ok (.lconst 1, 1) := by decide +kernel
theorem dX5_isGood_69 : decode cX5_isGood 69 = .ok (.ldc2_w 184, 3) := by decide +kernel
theorem dX5_isGood_72 : decode cX5_isGood 72 = .ok (.invokestatic 53, 3) := by decide +kernel
theorem dX5_isGood_75 : decode cX5_isGood 75 = .ok (.ireturn, 1) := by decide +kernel
theorem dX5_isGood_76 : decode cX5_isGood 76 = .ok (.iload_n 1, 1) := by decide +kernel
theorem dX5_isGood_77 : decode cX5_isGood 77 = .ok (.i2l, 1) := by decide +kernel
theorem dX5_isGood_78 : decode cX5_isGood 78 = .ok (.lconst 0, 1) := by decide +kernel
theorem dX5_isGood_79 : decode cX5_isGood 79 = .ok (.ldc2_w 138, 3) := by decide +kernel
theorem dX5_isGood_82 : decode cX5_isGood 82 = .ok (.invokestatic 53, 3) := by decide +kernel
theorem dX5_isGood_85 : decode cX5_isGood 85 = .ok (.ireturn, 1) := by decide +kernel
theorem dX5_isGood_86 : decode cX5_isGood 86 = .ok (.iconst 0, 1) := by decide +kernel
theorem dX5_isGood_87 : decode cX5_isGood 87 = .ok (.ireturn, 1) := by decide +kernel
theorem dX5_alter_0 : decode cX5_alter 0 = .ok (.aload_n 0, 1) := by decide +kernel
theorem dX5_alter_1 : decode cX5_alter 1 = .ok (.aload_n 0, 1) := by decide +kernel
theorem dX5_alter_2 : decode cX5_alter 2 = .ok (.iload_n 1, 1) := by decide +kernel
theorem dX5_alter_3 : decode cX5_alter 3 = .ok (.invokevirtual 171, 3) := by decide +kernel
theorem dX5_alter_6 : decode cX5_alter 6 = .ok (.ifCond .eq 15, 3) := by decide +kernel
theorem dX5_alter_9 : decode cX5_alter 9 = .ok (.iload_n 2, 1) := by decide +kernel
theorem dX5_alter_10 : decode cX5_alter 10 = .ok (.iload_n 3, 1) := by decide +kernel
theorem dX5_alter_11 : decode cX5_alter 11 = .ok (.invokestatic 186, 3) := by decide +kernel
theorem dX5_alter_14 : decode cX5_alter 14 = .ok (.ifCond .eq 7, 3) := by decide +kernel
theorem dX5_alter_17 : decode cX5_alter 17 = .ok (.iconst 1, 1) := by decide +kernel
theorem dX5_alter_18 : decode cX5_alter 18 = .ok (.goto 4, 3) := by decide +kernel
theorem dX5_alter_21 : decode cX5_alter 21 = .ok (.iconst 0, 1) := by decide +kernel
theorem dX5_alter_22 : decode cX5_alter 22 = .ok (.iconst 4, 1) := by decide +kernel
theorem dX5_alter_23 : decode cX5_alter 23 = .ok (.iload_n 2, 1) := by decide +kernel
theorem dX5_alter_24 : decode cX5_alter 24 = .ok (.imul, 1) := by decide +kernel
theorem dX5_alter_25 : decode cX5_alter 25 = .ok (.iload_n 1, 1) := by decide +kernel
theorem dX5_alter_26 : decode cX5_alter 26 = .ok (.iadd, 1) := by decide +kernel
theorem dX5_alter_27 : decode cX5_alter 27 = .ok (.iload_n 3, 1) := by decide +kernel
theorem dX5_alter_28 : decode cX5_alter 28 = .ok (.invokevirtual 190, 3) := by decide +kernel
theorem dX5_alter_31 : decode cX5_alter 31 = .ok (.ireturn, 1) := by decide +kernel
theorem dX5_drag_0 : decode cX5_drag 0 = .ok (.aload_n 0, 1) := by decide +kernel
theorem dX5_drag_1 : decode cX5_drag 1 = .ok (.iload_n 1, 1) := by decide +kernel
theorem dX5_drag_2 : decode cX5_drag 2 = .ok (.i2l, 1) := by decide +kernel
theorem dX5_drag_3 : decode cX5_drag 3 = .ok (.lconst 0, 1) := by decide +kernel
theorem dX5_drag_4 : decode cX5_drag 4 = .ok (.ldc2_w 180, 3) := by decide +kernel
theorem dX5_drag_7 : decode cX5_drag 7 = .ok (.invokestatic 53, 3) := by decide +kernel
theorem dX5_drag_10 : decode cX5_drag 10 = .ok (.bipush 50, 2) := by decide +kernel
theorem dX5_drag_12 : decode cX5_drag 12 = .ok (.iload_n 1, 1) := by decide +kernel
theorem dX5_drag_13 : decode cX5_drag 13 = .ok (.invokevirtual 190, 3) := by decide +kernel
theorem dX5_drag_16 : decode cX5_drag 16 = .ok (.ireturn, 1) := by decide +kernel
theorem dX5_bind_0 : decode cX5_bind 0 = .ok (.iconst 0, 1) := by decide +kernel
theorem dX5_bind_1 : decode cX5_bind 1 = .ok (.iload_n 1, 1) := by decide +kernel
theorem dX5_bind_2 : decode cX5_bind 2 = .ok (.invokestatic 186, 3) := by decide +kernel
theorem dX5_bind_5 : decode cX5_bind 5 = .ok (.ifCond .eq 28, 3) := by decide +kernel
theorem dX5_bind_8 : decode cX5_bind 8 = .ok (.iconst 1, 1) := by decide +kernel
theorem dX5_bind_9 : decode cX5_bind 9 = .ok (.iload_n 2, 1) := by decide +kernel
theorem dX5_bind_10 : decode cX5_bind 10 = .ok (.invokestatic 186, 3) := by decide +kernel
theorem dX5_bind_13 : decode cX5_bind 13 = .ok (.ifCond .eq 20, 3) := by decide +kernel
theorem dX5_bind_16 : decode cX5_bind 16 = .ok (.iconst 2, 1) := by decide +kernel
theorem dX5_bind_17 : decode cX5_bind 17 = .ok (.iload_n 3, 1) := by decide +kernel
theorem dX5_bind_18 : decode cX5_bind 18 = .ok (.invokestatic 186, 3) := by decide +kernel
theorem dX5_bind_21 : decode cX5_bind 21 = .ok (.ifCond .eq 12, 3) := by decide +kernel
theorem dX5_bind_24 : decode cX5_bind 24 = .ok (.iconst 3, 1) := by decide +kernel
theorem dX5_bind_25 : decode cX5_bind 25 = .ok (.iload 4, 2) := by decide +kernel
theorem dX5_bind_27 : decode cX5_bind 27 = .ok (.invokestatic 186, 3) := by decide +kernel
theorem dX5_bind_30 : decode cX5_bind 30 = .ok (.ifCond .ne 5, 3) := by decide +kernel
theorem dX5_bind_33 : decode cX5_bind 33 = .ok (.iconst (-1), 1) := by decide +kernel
theorem dX5_bind_34 : decode cX5_bind 34 = .ok (.ireturn, 1) := by decide +kernel
theorem dX5_bind_35 : decode cX5_bind 35 = .ok (.aload_n 0, 1) := by decide +kernel
theorem dX5_bind_36 : decode cX5_bind 36 = .ok (.getfield 7, 3) := by decide +kernel
theorem dX5_bind_39 : decode cX5_bind 39 = .ok (.bipush 24, 2) := by decide +kernel
theorem dX5_bind_41 : decode cX5_bind 41 = .ok (.iaload, 1) := by decide +kernel
theorem dX5_bind_42 : decode cX5_bind 42 = .ok (.istore 5, 2) := by decide +kernel
theorem dX5_bind_44 : decode cX5_bind 44 = .ok (.iload 5, 2) := by decide +kernel
theorem dX5_bind_46 : decode cX5_bind 46 = .ok (.iconst 4, 1) := by decide +kernel
theorem dX5_bind_47 : decode cX5_bind 47 = .ok (.if_icmp .ne 6, 3) := by decide +kernel
theorem dX5_bind_50 : decode cX5_bind 50 = .ok (.bipush (-3), 2) := by decide +kernel
theorem dX5_bind_52 : decode cX5_bind 52 = .ok (.ireturn, 1) := by decide +kernel
theorem dX5_bind_53 : decode cX5_bind 53 = .ok (.aload_n 0, 1) := by decide +kernel
theorem dX5_bind_54 : decode cX5_bind 54 = .ok (.iconst 0, 1) := by decide +kernel
theorem dX5_bind_55 : decode cX5_bind 55 = .ok (.invokevirtual 158, 3) := by decide +kernel
theorem dX5_bind_58 : decode cX5_bind 58 = .ok (.iload_n 2, 1) := by decide +kernel
theorem dX5_bind_59 : decode cX5_bind 59 = .ok (.iadd, 1) := by decide +kernel
theorem dX5_bind_60 : decode cX5_bind 60 = .ok (.istore 6, 2) := by decide +kernel
theorem dX5_bind_62 : decode cX5_bind 62 = .ok (.aload_n 0, 1) := by decide +kernel
theorem dX5_bind_63 : decode cX5_bind 63 = .ok (.getfield 7, 3) := by decide +kernel
theorem dX5_bind_66 : decode cX5_bind 66 = .ok (.iload 5, 2) := by decide +kernel
theorem dX5_bind_68 : decode cX5_bind 68 = .ok (.iload_n 1, 1) := by decide +kernel
theorem dX5_bind_69 : decode cX5_bind 69 = .ok (.iastore, 1) := by decide +kernel
theorem dX5_bind_70 : decode cX5_bind 70 = .ok (.aload_n 0, 1) := by decide +kernel
theorem dX5_bind_71 : decode cX5_bind 71 = .ok (.getfield 7, 3) := by decide +kernel
theorem dX5_bind_74 : decode cX5_bind 74 = .ok (.iconst 4, 1) := by decide +kernel
theorem dX5_bind_75 : decode cX5_bind 75 = .ok (.iload 5, 2) := by decide +kernel
theorem dX5_bind_77 : decode cX5_bind 77 = .ok (.iadd, 1) := by decide +kernel
theorem dX5_bind_78 : decode cX5_bind 78 = .ok (.iload_n 2, 1) := by decide +kernel
theorem dX5_bind_79 : decode cX5_bind 79 = .ok (.iastore, 1) := by decide +kernel
theorem dX5_bind_80 : decode cX5_bind 80 = .ok (.aload_n 0, 1) := by decide +kernel
theorem dX5_bind_81 : decode cX5_bind 81 = .ok (.getfield 7, 3) := by decide +kernel
theorem dX5_bind_84 : decode cX5_bind 84 = .ok (.bipush 8, 2) := by decide +kernel
theorem dX5_bind_86 : decode cX5_bind 86 = .ok (.iload 5, 2) := by decide +kernel
theorem dX5_bind_88 : decode cX5_bind 88 = .ok (.iadd, 1) := by decide +kernel
theorem dX5_bind_89 : decode cX5_bind 89 = .ok (.iload_n 3, 1) := by decide +kernel
theorem dX5_bind_90 : decode cX5_bind 90 = .ok (.iastore, 1) := by decide +kernel
theorem dX5_bind_91 : decode cX5_bind 91 = .ok (.aload_n 0, 1) := by decide +kernel
theorem dX5_bind_92 : decode cX5_bind 92 = .ok (.getfield 7, 3) := by decide +kernel
theorem dX5_bind_95 : decode cX5_bind 95 = .ok (.bipush 12, 2) := by decide +kernel
theorem dX5_bind_97 : decode cX5_bind 97 = .ok (.iload 5, 2) := by decide +kernel
theorem dX5_bind_99 : decode cX5_bind 99 = .ok (.iadd, 1) := by decide +kernel
theorem dX5_bind_100 : decode cX5_bind 100 = .ok (.iload 4, 2) := by decide +kernel
theorem dX5_bind_102 : decode cX5_bind 102 = .ok (.iastore, 1) := by decide +kernel
theorem dX5_bind_103 : decode cX5_bind 103 = .ok (.aload_n 0, 1) := by decide +kernel
theorem dX5_bind_104 : decode cX5_bind 104 = .ok (.getfield 7, 3) := by decide +kernel
theorem dX5_bind_107 : decode cX5_bind 107 = .ok (.bipush 16, 2) := by decide +kernel
theorem dX5_bind_109 : decode cX5_bind 109 = .ok (.iload 5, 2) := by decide +kernel
theorem dX5_bind_111 : decode cX5_bind 111 = .ok (.iadd, 1) := by decide +kernel
theorem dX5_bind_112 : decode cX5_bind 112 = .ok (.iload 6, 2) := by decide +kernel
theorem dX5_bind_114 : decode cX5_bind 114 = .ok (.sipush 300, 3) := by decide +kernel
theorem dX5_bind_117 : decode cX5_bind 117 = .ok (.if_icmp .le 9, 3) := by decide +kernel
theorem dX5_bind_120 : decode cX5_bind 120 = .ok (.sipush 300, 3) := by decide +kernel
theorem dX5_bind_123 : decode cX5_bind 123 = .ok (.goto 5, 3) := by decide +kernel
theorem dX5_bind_126 : decode cX5_bind 126 = .ok (.iload 6, 2) := by decide +kernel
theorem dX5_bind_128 : decode cX5_bind 128 = .ok (.iastore, 1) := by decide +kernel
theorem dX5_bind_129 : decode cX5_bind 129 = .ok (.aload_n 0, 1) := by decide +kernel
theorem dX5_bind_130 : decode cX5_bind 130 = .ok (.getfield 7, 3) := by decide +kernel
theorem dX5_bind_133 : decode cX5_bind 133 = .ok (.bipush 20, 2) := by decide +kernel
theorem dX5_bind_135 : decode cX5_bind 135 = .ok (.iload 5, 2) := by decide +kernel
theorem dX5_bind_137 : decode cX5_bind 137 = .ok (.iadd, 1) := by decide +kernel
theorem dX5_bind_138 : decode cX5_bind 138 = .ok (.iconst 0, 1) := by decide +kernel
theorem dX5_bind_139 : decode cX5_bind 139 = .ok (.iastore, 1) := by decide +kernel
theorem dX5_bind_140 : decode cX5_bind 140 = .ok (.aload_n 0, 1) := by decide +kernel
theorem dX5_bind_141 : decode cX5_bind 141 = .ok (.getfield 7, 3) := by decide +kernel
theorem dX5_bind_144 : decode cX5_bind 144 = .ok (.bipush 24, 2) := by decide +kernel
theorem dX5_bind_146 : decode cX5_bind 146 = .ok (.dup2, 1) := by decide +kernel
theorem dX5_bind_147 : decode cX5_bind 147 = .ok (.iaload, 1) := by decide +kernel
theorem dX5_bind_148 : decode cX5_bind 148 = .ok (.iconst 1, 1) := by decide +kernel
theorem dX5_bind_149 : decode cX5_bind 149 = .ok (.iadd, 1) := by decide +kernel
theorem dX5_bind_150 : decode cX5_bind 150 = .ok (.iastore, 1) := by decide +kernel
theorem dX5_bind_151 : decode cX5_bind 151 = .ok (.aload_n 0, 1) := by decide +kernel
theorem dX5_bind_152 : decode cX5_bind 152 = .ok (.getfield 7, 3) := by decide +kernel
theorem dX5_bind_155 : decode cX5_bind 155 = .ok (.bipush 24, 2) := by decide +kernel
theorem dX5_bind_157 : decode cX5_bind 157 = .ok (.iaload, 1) := by decide +kernel
theorem dX5_bind_158 : decode cX5_bind 158 = .ok (.ireturn, 1) := by decide +kernel
theorem dX5_cut_0 : decode cX5_cut 0 = .ok (.aload_n 0, 1) := by decide +kernel
theorem dX5_cut_1 : decode cX5_cut 1 = .ok (.iload_n 1, 1) := by decide +kernel
theorem dX5_cut_2 : decode cX5_cut 2 = .ok (.i2l, 1) := by decide +kernel
theorem dX5_cut_3 : decode cX5_cut 3 = .ok (.lconst 0, 1) := by decide +kernel
theorem dX5_cut_4 : decode cX5_cut 4 = .ok (.aload_n 0, 1) := by decide +kernel
theorem dX5_cut_5 : decode cX5_cut 5 = .ok (.getfield 7, 3) := by decide +kernel
theorem dX5_cut_8 : decode cX5_cut 8 = .ok (.bipush 24, 2) := by decide +kernel
theorem dX5_cut_10 : decode cX5_cut 10 = .ok (.iaload, 1) := by decide +kernel
theorem dX5_cut_11 : decode cX5_cut 11 = .ok (.i2l, 1) := by decide +kernel
theorem dX5_cut_12 : decode cX5_cut 12 = .ok (.invokestatic 53, 3) := by decide +kernel
theorem dX5_cut_15 : decode cX5_cut 15 = .ok (.bipush 24, 2) := by decide +kernel
theorem dX5_cut_17 : decode cX5_cut 17 = .ok (.iload_n 1, 1) := by decide +kernel
theorem dX5_cut_18 : decode cX5_cut 18 = .ok (.invokevirtual 190, 3) := by decide +kernel
theorem dX5_cut_21 : decode cX5_cut 21 = .ok (.ireturn, 1) := by decide +kernel
theorem dX5_hit_0 : decode cX5_hit 0 = .ok (.aload_n 0, 1) := by decide +kernel
theorem dX5_hit_1 : decode cX5_hit 1 = .ok (.iload_n 1, 1) := by decide +kernel
theorem dX5_hit_2 : decode cX5_hit 2 = .ok (.invokevirtual 171, 3) := by decide +kernel
theorem dX5_hit_5 : decode cX5_hit 5 = .ok (.ifCond .eq 15, 3) := by decide +kernel
theorem dX5_hit_8 : decode cX5_hit 8 = .ok (.iload_n 2, 1) := by decide +kernel
theorem dX5_hit_9 : decode cX5_hit 9 = .ok (.i2l, 1) := by decide +kernel
theorem dX5_hit_10 : decode cX5_hit 10 = .ok (.lconst 0, 1) := by decide +kernel
theorem dX5_hit_11 : decode cX5_hit 11 = .ok (.ldc2_w 194, 3) := by decide +kernel
theorem dX5_hit_14 : decode cX5_hit 14 = .ok (.invokestatic 53, 3) := by decide +kernel
theorem dX5_hit_17 : decode cX5_hit 17 = .ok (.ifCond .ne 5, 3) := by decide +kernel
theorem dX5_hit_20 : decode cX5_hit 20 = .ok (.iconst (-1), 1) := by decide +kernel
theorem dX5_hit_21 : decode cX5_hit 21 = .ok (.ireturn, 1) := by decide +kernel
theorem dX5_hit_22 : decode cX5_hit 22 = .ok (.aload_n 0, 1) := by decide +kernel
theorem dX5_hit_23 : decode cX5_hit 23 = .ok (.iconst 0, 1) := by decide +kernel
theorem dX5_hit_24 : decode cX5_hit 24 = .ok (.iload_n 1, 1) := by decide +kernel
theorem dX5_hit_25 : decode cX5_hit 25 = .ok (.iload_n 2, 1) := by decide +kernel
theorem dX5_hit_26 : decode cX5_hit 26 = .ok (.bipush 9, 2) := by decide +kernel
theorem dX5_hit_28 : decode cX5_hit 28 = .ok (.isub, 1) := by decide +kernel
theorem dX5_hit_29 : decode cX5_hit 29 = .ok (.invokevirtual 164, 3) := by decide +kernel
theorem dX5_hit_32 : decode cX5_hit 32 = .ok (.bipush 100, 2) := by decide +kernel
theorem dX5_hit_34 : decode cX5_hit 34 = .ok (.aload_n 0, 1) := by decide +kernel
theorem dX5_hit_35 : decode cX5_hit 35 = .ok (.getfield 7, 3) := by decide +kernel
theorem dX5_hit_38 : decode cX5_hit 38 = .ok (.bipush 20, 2) := by decide +kernel
theorem dX5_hit_40 : decode cX5_hit 40 = .ok (.iload_n 1, 1) := by decide +kernel
theorem dX5_hit_41 : decode cX5_hit 41 = .ok (.iadd, 1) := by decide +kernel
theorem dX5_hit_42 : decode cX5_hit 42 = .ok (.iaload, 1) := by decide +kernel
theorem dX5_hit_43 : decode cX5_hit 43 = .ok (.iadd, 1) := by decide +kernel
theorem dX5_hit_44 : decode cX5_hit 44 = .ok (.ireturn, 1) := by decide +kernel
theorem dX5_adds_0 : decode cX5_adds 0 = .ok (.iload_n 1, 1) := by decide +kernel
theorem dX5_adds_1 : decode cX5_adds 1 = .ok (.i2l, 1) := by decide +kernel
theorem dX5_adds_2 : decode cX5_adds 2 = .ok (.lconst 0, 1) := by decide +kernel
theorem dX5_adds_3 : decode cX5_adds 3 = .ok (.ldc2_w 180, 3) := by decide +kernel
theorem dX5_adds_6 : decode cX5_adds 6 = .ok (.invokestatic 53, 3) := by decide +kernel
theorem dX5_adds_9 : decode cX5_adds 9 = .ok (.ifCond .eq 15, 3) := by decide +kernel
theorem dX5_adds_12 : decode cX5_adds 12 = .ok (.iload_n 2, 1) := by decide +kernel
theorem dX5_adds_13 : decode cX5_adds 13 = .ok (.i2l, 1) := by decide +kernel
theorem dX5_adds_14 : decode cX5_adds 14 = .ok (.lconst 0, 1) := by decide +kernel
theorem dX5_adds_15 : decode cX5_adds 15 = .ok (.ldc2_w 194, 3) := by decide +kernel
theorem dX5_adds_18 : decode cX5_adds 18 = .ok (.invokestatic 53, 3) := by decide +kernel
theorem dX5_adds_21 : decode cX5_adds 21 = .ok (.ifCond .ne 5, 3) := by decide +kernel
theorem dX5_adds_24 : decode cX5_adds 24 = .ok (.iconst (-1), 1) := by decide +kernel
theorem dX5_adds_25 : decode cX5_adds 25 = .ok (.ireturn, 1) := by decide +kernel
theorem dX5_adds_26 : decode cX5_adds 26 = .ok (.aload_n 0, 1) := by decide +kernel
theorem dX5_adds_27 : decode cX5_adds 27 = .ok (.getfield 7, 3) := by decide +kernel
theorem dX5_adds_30 : decode cX5_adds 30 = .ok (.bipush 49, 2) := by decide +kernel
theorem dX5_adds_32 : decode cX5_adds 32 = .ok (.iaload, 1) := by decide +kernel
theorem dX5_adds_33 : decode cX5_adds 33 = .ok (.istore_n 3, 1) := by decide +kernel
theorem dX5_adds_34 : decode cX5_adds 34 = .ok (.iload_n 3, 1) := by decide +kernel
theorem dX5_adds_35 : decode cX5_adds 35 = .ok (.bipush 12, 2) := by decide +kernel
theorem dX5_adds_37 : decode cX5_adds 37 = .ok (.if_icmp .ne 6, 3) := by decide +kernel
theorem dX5_adds_40 : decode cX5_adds 40 = .ok (.bipush (-3), 2) := by decide +kernel
theorem dX5_adds_42 : decode cX5_adds 42 = .ok (.ireturn, 1) := by decide +kernel
theorem dX5_adds_43 : decode cX5_adds 43 = .ok (.aload_n 0, 1) := by decide +kernel
theorem dX5_adds_44 : decode cX5_adds 44 = .ok (.getfield 7, 3) := by decide +kernel
theorem dX5_adds_47 : decode cX5_adds 47 = .ok (.bipush 25, 2) := by decide +kernel
theorem dX5_adds_49 : decode cX5_adds 49 = .ok (.iload_n 3, 1) := by decide +kernel
theorem dX5_adds_50 : decode cX5_adds 50 = .ok (.iadd, 1) := by decide +kernel
theorem dX5_adds_51 : decode cX5_adds 51 = .ok (.iload_n 1, 1) := by decide +kernel
theorem dX5_adds_52 : decode cX5_adds 52 = .ok (.iastore, 1) := by decide +kernel
theorem dX5_adds_53 : decode cX5_adds 53 = .ok (.aload_n 0, 1) := by decide +kernel
theorem dX5_adds_54 : decode cX5_adds 54 = .ok (.getfield 7, 3) := by decide +kernel
theorem dX5_adds_57 : decode cX5_adds 57 = .ok (.bipush 37, 2) := by decide +kernel
theorem dX5_adds_59 : decode cX5_adds 59 = .ok (.iload_n 3, 1) := by decide +kernel
theorem dX5_adds_60 : decode cX5_adds 60 = .ok (.iadd, 1) := by decide +kernel
theorem dX5_adds_61 : decode cX5_adds 61 = .ok (.iload_n 2, 1) := by decide +kernel
theorem dX5_adds_62 : decode cX5_adds 62 = .ok (.bipush 9, 2) := by decide +kernel
theorem dX5_adds_64 : decode cX5_adds 64 = .ok (.isub, 1) := by decide +kernel
theorem dX5_adds_65 : decode cX5_adds 65 = .ok (.iastore, 1) := by decide +kernel
theorem dX5_adds_66 : decode cX5_adds 66 = .ok (.aload_n 0, 1) := by decide +kernel
theorem dX5_adds_67 : decode cX5_adds 67 = .ok (.getfield 7, 3) := by decide +kernel
theorem dX5_adds_70 : decode cX5_adds 70 = .ok (.bipush 49, 2) := by decide +kernel
theorem dX5_adds_72 : decode cX5_adds 72 = .ok (.dup2, 1) := by decide +kernel
theorem dX5_adds_73 : decode cX5_adds 73 = .ok (.iaload, 1) := by decide +kernel
theorem dX5_adds_74 : decode cX5_adds 74 = .ok (.iconst 1, 1) := by decide +kernel
theorem dX5_adds_75 : decode cX5_adds 75 = .ok (.iadd, 1) := by decide +kernel
theorem dX5_adds_76 : decode cX5_adds 76 = .ok (.iastore, 1) := by decide +kernel
theorem dX5_adds_77 : decode cX5_adds 77 = .ok (.aload_n 0, 1) := by decide +kernel
theorem dX5_adds_78 : decode cX5_adds 78 = .ok (.getfield 7, 3) := by decide +kernel
theorem dX5_adds_81 : decode cX5_adds 81 = .ok (.bipush 49, 2) := by decide +kernel
theorem dX5_adds_83 : decode cX5_adds 83 = .ok (.iaload, 1) := by decide +kernel
theorem dX5_adds_84 : decode cX5_adds 84 = .ok (.ireturn, 1) := by decide +kernel
theorem dX5_add_0 : decode cX5_add 0 = .ok (.aload_n 0, 1) := by decide +kernel
theorem dX5_add_1 : decode cX5_add 1 = .ok (.iload_n 1, 1) := by decide +kernel
theorem dX5_add_2 : decode cX5_add 2 = .ok (.iload_n 2, 1) := by decide +kernel
theorem dX5_add_3 : decode cX5_add 3 = .ok (.invokevirtual 196, 3) := by decide +kernel
theorem dX5_add_6 : decode cX5_add 6 = .ok (.ireturn, 1) := by decide +kernel
theorem dX5_drop_0 : decode cX5_drop 0 = .ok (.aload_n 0, 1) := by decide +kernel
theorem dX5_drop_1 : decode cX5_drop 1 = .ok (.iload_n 1, 1) := by decide +kernel
theorem dX5_drop_2 : decode cX5_drop 2 = .ok (.i2l, 1) := by decide +kernel
theorem dX5_drop_3 : decode cX5_drop 3 = .ok (.lconst 0, 1) := by decide +kernel
theorem dX5_drop_4 : decode cX5_drop 4 = .ok (.aload_n 0, 1) := by decide +kernel
theorem dX5_drop_5 : decode cX5_drop 5 = .ok (.getfield 7, 3) := by decide +kernel
theorem dX5_drop_8 : decode cX5_drop 8 = .ok (.bipush 49, 2) := by decide +kernel
theorem dX5_drop_10 : decode cX5_drop 10 = .ok (.iaload, 1) := by decide +kernel
theorem dX5_drop_11 : decode cX5_drop 11 = .ok (.i2l, 1) := by decide +kernel
theorem dX5_drop_12 : decode cX5_drop 12 = .ok (.invokestatic 53, 3) := by decide +kernel
theorem dX5_drop_15 : decode cX5_drop 15 = .ok (.bipush 49, 2) := by decide +kernel
theorem dX5_drop_17 : decode cX5_drop 17 = .ok (.iload_n 1, 1) := by decide +kernel
theorem dX5_drop_18 : decode cX5_drop 18 = .ok (.invokevirtual 190, 3) := by decide +kernel
theorem dX5_drop_21 : decode cX5_drop 21 = .ok (.ireturn, 1) := by decide +kernel
theorem dX5_calm_0 : decode cX5_calm 0 = .ok (.iconst 0, 1) := by decide +kernel
theorem dX5_calm_1 : decode cX5_calm 1 = .ok (.istore_n 1, 1) := by decide +kernel
theorem dX5_calm_2 : decode cX5_calm 2 = .ok (.iconst 0, 1) := by decide +kernel
theorem dX5_calm_3 : decode cX5_calm 3 = .ok (.istore_n 2, 1) := by decide +kernel
theorem dX5_calm_4 : decode cX5_calm 4 = .ok (.iload_n 2, 1) := by decide +kernel
theorem dX5_calm_5 : decode cX5_calm 5 = .ok (.aload_n 0, 1) := by decide +kernel
theorem dX5_calm_6 : decode cX5_calm 6 = .ok (.getfield 7, 3) := by decide +kernel
theorem dX5_calm_9 : decode cX5_calm 9 = .ok (.bipush 24, 2) := by decide +kernel
theorem dX5_calm_11 : decode cX5_calm 11 = .ok (.iaload, 1) := by decide +kernel
theorem dX5_calm_12 : decode cX5_calm 12 = .ok (.if_icmp .ge 39, 3) := by decide +kernel
theorem dX5_calm_15 : decode cX5_calm 15 = .ok (.iload_n 1, 1) := by decide +kernel
theorem dX5_calm_16 : decode cX5_calm 16 = .ok (.aload_n 0, 1) := by decide +kernel
theorem dX5_calm_17 : decode cX5_calm 17 = .ok (.getfield 7, 3) := by decide +kernel
theorem dX5_calm_20 : decode cX5_calm 20 = .ok (.bipush 20, 2) := by decide +kernel
theorem dX5_calm_22 : decode cX5_calm 22 = .ok (.iload_n 2, 1) := by decide +kernel
theorem dX5_calm_23 : decode cX5_calm 23 = .ok (.iadd, 1) := by decide +kernel
theorem dX5_calm_24 : decode cX5_calm 24 = .ok (.iaload, 1) := by decide +kernel
theorem dX5_calm_25 : decode cX5_calm 25 = .ok (.ifCond .ne 7, 3) := by decide +kernel
theorem dX5_calm_28 : decode cX5_calm 28 = .ok (.iconst 0, 1) := by decide +kernel
theorem dX5_calm_29 : decode cX5_calm 29 = .ok (.goto 4, 3) := by decide +kernel
theorem dX5_calm_32 : decode cX5_calm 32 = .ok (.iconst 1, 1) := by decide +kernel
theorem dX5_calm_33 : decode cX5_calm 33 = .ok (.iadd, 1) := by decide +kernel
theorem dX5_calm_34 : decode cX5_calm 34 = .ok (.istore_n 1, 1) := by decide +kernel
theorem dX5_calm_35 : decode cX5_calm 35 = .ok (.aload_n 0, 1) := by decide +kernel
theorem dX5_calm_36 : decode cX5_calm 36 = .ok (.getfield 7, 3) := by decide +kernel
theorem dX5_calm_39 : decode cX5_calm 39 = .ok (.bipush 20, 2) := by decide +kernel
theorem dX5_calm_41 : decode cX5_calm 41 = .ok (.iload_n 2, 1) := by decide +kernel
theorem dX5_calm_42 : decode cX5_calm 42 = .ok (.iadd, 1) := by decide +kernel
theorem dX5_calm_43 : decode cX5_calm 43 = .ok (.iconst 0, 1) := by decide +kernel
theorem dX5_calm_44 : decode cX5_calm 44 = .ok (.iastore, 1) := by decide +kernel
theorem dX5_calm_45 : decode cX5_calm 45 = .ok (.iinc 2 1, 3) := by decide +kernel
theorem dX5_calm_48 : decode cX5_calm 48 = .ok (.goto (-44), 3) := by decide +kernel
theorem dX5_calm_51 : decode cX5_calm 51 = .ok (.iload_n 1, 1) := by decide +kernel
theorem dX5_calm_52 : decode cX5_calm 52 = .ok (.ireturn, 1) := by decide +kernel
theorem dX5_ticks_0 : decode cX5_ticks 0 = .ok (.iload_n 1, 1) := by decide +kernel
theorem dX5_ticks_1 : decode cX5_ticks 1 = .ok (.i2l, 1) := by decide +kernel
theorem dX5_ticks_2 : decode cX5_ticks 2 = .ok (.lconst 0, 1) := by decide +kernel
theorem dX5_ticks_3 : decode cX5_ticks 3 = .ok (.ldc2_w 199, 3) := by decide +kernel
theorem dX5_ticks_6 : decode cX5_ticks 6 = .ok (.invokestatic 53, 3) := by decide +kernel
theorem dX5_ticks_9 : decode cX5_ticks 9 = .ok (.ifCond .ne 5, 3) := by decide +kernel
theorem dX5_ticks_12 : decode cX5_ticks 12 = .ok (.iconst (-1), 1) := by decide +kernel
theorem dX5_ticks_13 : decode cX5_ticks 13 = .ok (.ireturn, 1) := by decide +kernel
theorem dX5_ticks_14 : decode cX5_ticks 14 = .ok (.aload_n 0, 1) := by decide +kernel
theorem dX5_ticks_15 : decode cX5_ticks 15 = .ok (.getfield 7, 3) := by decide +kernel
theorem dX5_ticks_18 : decode cX5_ticks 18 = .ok (.bipush 51, 2) := by decide +kernel
theorem dX5_ticks_20 : decode cX5_ticks 20 = .ok (.iaload, 1) := by decide +kernel
theorem dX5_ticks_21 : decode cX5_ticks 21 = .ok (.iload_n 1, 1) := by decide +kernel
theorem dX5_ticks_22 : decode cX5_ticks 22 = .ok (.iadd, 1) := by decide +kernel
theorem dX5_ticks_23 : decode cX5_ticks 23 = .ok (.sipush 9999, 3) := by decide +kernel
theorem dX5_ticks_26 : decode cX5_ticks 26 = .ok (.if_icmp .le 6, 3) := by decide +kernel
theorem dX5_ticks_29 : decode cX5_ticks 29 = .ok (.bipush (-3), 2) := by decide +kernel
theorem dX5_ticks_31 : decode cX5_ticks 31 = .ok (.ireturn, 1) := by decide +kernel
theorem dX5_ticks_32 : decode cX5_ticks 32 = .ok (.aload_n 0, 1) := by decide +kernel
theorem dX5_ticks_33 : decode cX5_ticks 33 = .ok (.iconst 0, 1) := by decide +kernel
theorem dX5_ticks_34 : decode cX5_ticks 34 = .ok (.putfield 143, 3) := by decide +kernel
theorem dX5_ticks_37 : decode cX5_ticks 37 = .ok (.iconst 0, 1) := by decide +kernel
theorem dX5_ticks_38 : decode cX5_ticks 38 = .ok (.istore_n 2, 1) := by decide +kernel
theorem dX5_ticks_39 : decode cX5_ticks 39 = .ok (.iload_n 2, 1) := by decide +kernel
theorem dX5_ticks_40 : decode cX5_ticks 40 = .ok (.iload_n 1, 1) := by decide +kernel
theorem dX5_ticks_41 : decode cX5_ticks 41 = .ok (.if_icmp .ge 15, 3) := by decide +kernel
theorem dX5_ticks_44 : decode cX5_ticks 44 = .ok (.aload_n 0, 1) := by decide +kernel
theorem dX5_ticks_45 : decode cX5_ticks 45 = .ok (.iconst 0, 1) := by decide +kernel
theorem dX5_ticks_46 : decode cX5_ticks 46 = .ok (.iconst 0, 1) := by decide +kernel
theorem dX5_ticks_47 : decode cX5_ticks 47 = .ok (.invokevirtual 201, 3) := by decide +kernel
theorem dX5_ticks_50 : decode cX5_ticks 50 = .ok (.iinc 2 1, 3) := by decide +kernel
theorem dX5_ticks_53 : decode cX5_ticks 53 = .ok (.goto (-14), 3) := by decide +kernel
theorem dX5_ticks_56 : decode cX5_ticks 56 = .ok (.aload_n 0, 1) := by decide +kernel
theorem dX5_ticks_57 : decode cX5_ticks 57 = .ok (.getfield 143, 3) := by decide +kernel
theorem dX5_ticks_60 : decode cX5_ticks 60 = .ok (.ireturn, 1) := by decide +kernel
theorem dX5_copies_0 : decode cX5_copies 0 = .ok (.iconst 0, 1) := by decide +kernel
theorem dX5_copies_1 : decode cX5_copies 1 = .ok (.istore_n 3, 1) := by decide +kernel
theorem dX5_copies_2 : decode cX5_copies 2 = .ok (.iload_n 3, 1) := by decide +kernel
theorem dX5_copies_3 : decode cX5_copies 3 = .ok (.bipush 52, 2) := by decide +kernel
theorem dX5_copies_5 : decode cX5_copies 5 = .ok (.if_icmp .ge 25, 3) := by decide +kernel
theorem dX5_copies_8 : decode cX5_copies 8 = .ok (.aload_n 0, 1) := by decide +kernel
theorem dX5_copies_9 : decode cX5_copies 9 = .ok (.getfield 7, 3) := by decide +kernel
theorem dX5_copies_12 : decode cX5_copies 12 = .ok (.iload_n 2, 1) := by decide +kernel
theorem dX5_copies_13 : decode cX5_copies 13 = .ok (.iload_n 3, 1) := by decide +kernel
theorem dX5_copies_14 : decode cX5_copies 14 = .ok (.iadd, 1) := by decide +kernel
theorem dX5_copies_15 : decode cX5_copies 15 = .ok (.aload_n 0, 1) := by decide +kernel
theorem dX5_copies_16 : decode cX5_copies 16 = .ok (.getfield 7, 3) := by decide +kernel
theorem dX5_copies_19 : decode cX5_copies 19 = .ok (.iload_n 1, 1) := by decide +kernel
theorem dX5_copies_20 : decode cX5_copies 20 = .ok (.iload_n 3, 1) := by decide +kernel
theorem dX5_copies_21 : decode cX5_copies 21 = .ok (.iadd, 1) := by decide +kernel
theorem dX5_copies_22 : decode cX5_copies 22 = .ok (.iaload, 1) := by decide +kernel
theorem dX5_copies_23 : decode cX5_copies 23 = .ok (.iastore, 1) := by decide +kernel
theorem dX5_copies_24 : decode cX5_copies 24 = .ok (.iinc 3 1, 3) := by decide +kernel
theorem dX5_copies_27 : decode cX5_copies 27 = .ok (.goto (-25), 3) := by decide +kernel
theorem dX5_copies_30 : decode cX5_copies 30 = .ok (.return_, 1) := by decide +kernel
theorem dX5_ticksGo_0 : decode cX5_ticksGo 0 = .ok (.aload_n 0, 1) := by decide +kernel
theorem dX5_ticksGo_1 : decode cX5_ticksGo 1 = .ok (.iload_n 1, 1) := by decide +kernel
theorem dX5_ticksGo_2 : decode cX5_ticksGo 2 = .ok (.sipush 208, 3) := by decide +kernel
theorem dX5_ticksGo_5 : decode cX5_ticksGo 5 = .ok (.invokevirtual 205, 3) := by decide +kernel
theorem dX5_ticksGo_8 : decode cX5_ticksGo 8 = .ok (.aload_n 0, 1) := by decide +kernel
theorem dX5_ticksGo_9 : decode cX5_ticksGo 9 = .ok (.iconst 0, 1) := by decide +kernel
theorem dX5_ticksGo_10 : decode cX5_ticksGo 10 = .ok (.putfield 143, 3) := by decide +kernel
theorem dX5_ticksGo_13 : decode cX5_ticksGo 13 = .ok (.aload_n 0, 1) := by decide +kernel
theorem dX5_ticksGo_14 : decode cX5_ticksGo 14 = .ok (.iconst 0, 1) := by decide +kernel
theorem dX5_ticksGo_15 : decode cX5_ticksGo 15 = .ok (.putfield 140, 3) := by decide +kernel
theorem dX5_ticksGo_18 : decode cX5_ticksGo 18 = .ok (.aload_n 0, 1) := by decide +kernel
theorem dX5_ticksGo_19 : decode cX5_ticksGo 19 = .ok (.iconst 0, 1) := by decide +kernel
theorem dX5_ticksGo_20 : decode cX5_ticksGo 20 = .ok (.putfield 161, 3) := by decide +kernel
theorem dX5_ticksGo_23 : decode cX5_ticksGo 23 = .ok (.iconst 0, 1) := by decide +kernel
theorem dX5_ticksGo_24 : decode cX5_ticksGo 24 = .ok (.istore_n 3, 1) := by decide +kernel
theorem dX5_ticksGo_25 : decode cX5_ticksGo 25 = .ok (.iload_n 3, 1) := by decide +kernel
theorem dX5_ticksGo_26 : decode cX5_ticksGo 26 = .ok (.iload_n 2, 1) := by decide +kernel
theorem dX5_ticksGo_27 : decode cX5_ticksGo 27 = .ok (.if_icmp .ge 17, 3) := by decide +kernel
theorem dX5_ticksGo_30 : decode cX5_ticksGo 30 = .ok (.aload_n 0, 1) := by decide +kernel
theorem dX5_ticksGo_31 : decode cX5_ticksGo 31 = .ok (.sipush 208, 3) := by decide +kernel
theorem dX5_ticksGo_34 : decode cX5_ticksGo 34 = .ok (.iconst 0, 1) := by decide +kernel
theorem dX5_ticksGo_35 : decode cX5_ticksGo 35 = .ok (.invokevirtual 201, 3) := by decide +kernel
theorem dX5_ticksGo_38 : decode cX5_ticksGo 38 = .ok (.iinc 3 1, 3) := by decide +kernel
theorem dX5_ticksGo_41 : decode cX5_ticksGo 41 = .ok (.goto (-16), 3) := by decide +kernel
theorem dX5_ticksGo_44 : decode cX5_ticksGo 44 = .ok (.aload_n 0, 1) := by decide +kernel
theorem dX5_ticksGo_45 : decode cX5_ticksGo 45 = .ok (.getfield 161, 3) := by decide +kernel
theorem dX5_ticksGo_48 : decode cX5_ticksGo 48 = .ok (.ireturn, 1) := by decide +kernel
theorem dX5_runs_0 : decode cX5_runs 0 = .ok (.iload_n 1, 1) := by decide +kernel
theorem dX5_runs_1 : decode cX5_runs 1 = .ok (.invokestatic 209, 3) := by decide +kernel
theorem dX5_runs_4 : decode cX5_runs 4 = .ok (.ifCond .eq 15, 3) := by decide +kernel
theorem dX5_runs_7 : decode cX5_runs 7 = .ok (.iload_n 2, 1) := by decide +kernel
theorem dX5_runs_8 : decode cX5_runs 8 = .ok (.i2l, 1) := by decide +kernel
theorem dX5_runs_9 : decode cX5_runs 9 = .ok (.lconst 0, 1) := by decide +kernel
theorem dX5_runs_10 : decode cX5_runs 10 = .ok (.ldc2_w 180, 3) := by decide +kernel
theorem dX5_runs_13 : decode cX5_runs 13 = .ok (.invokestatic 53, 3) := by decide +kernel
theorem dX5_runs_16 : decode cX5_runs 16 = .ok (.ifCond .ne 5, 3) := by decide +kernel
theorem dX5_runs_19 : decode cX5_runs 19 = .ok (.iconst (-1), 1) := by decide +kernel
theorem dX5_runs_20 : decode cX5_runs 20 = .ok (.ireturn, 1) := by decide +kernel
theorem dX5_runs_21 : decode cX5_runs 21 = .ok (.aload_n 0, 1) := by decide +kernel
theorem dX5_runs_22 : decode cX5_runs 22 = .ok (.iconst 0, 1) := by decide +kernel
theorem dX5_runs_23 : decode cX5_runs 23 = .ok (.iload_n 1, 1) := by decide +kernel
theorem dX5_runs_24 : decode cX5_runs 24 = .ok (.invokevirtual 212, 3) := by decide +kernel
theorem dX5_runs_27 : decode cX5_runs 27 = .ok (.istore_n 3, 1) := by decide +kernel
theorem dX5_runs_28 : decode cX5_runs 28 = .ok (.iload_n 2, 1) := by decide +kernel
theorem dX5_runs_29 : decode cX5_runs 29 = .ok (.ifCond .ne 10, 3) := by decide +kernel
theorem dX5_runs_32 : decode cX5_runs 32 = .ok (.aload_n 0, 1) := by decide +kernel
theorem dX5_runs_33 : decode cX5_runs 33 = .ok (.getfield 143, 3) := by decide +kernel
theorem dX5_runs_36 : decode cX5_runs 36 = .ok (.goto 31, 3) := by decide +kernel
theorem dX5_runs_39 : decode cX5_runs 39 = .ok (.iload_n 2, 1) := by decide +kernel
theorem dX5_runs_40 : decode cX5_runs 40 = .ok (.iconst 1, 1) := by decide +kernel
theorem dX5_runs_41 : decode cX5_runs 41 = .ok (.if_icmp .ne 7, 3) := by decide +kernel
theorem dX5_runs_44 : decode cX5_runs 44 = .ok (.iload_n 3, 1) := by decide +kernel
theorem dX5_runs_45 : decode cX5_runs 45 = .ok (.goto 22, 3) := by decide +kernel
theorem dX5_runs_48 : decode cX5_runs 48 = .ok (.iload_n 2, 1) := by decide +kernel
theorem dX5_runs_49 : decode cX5_runs 49 = .ok (.iconst 2, 1) := by decide +kernel
theorem dX5_runs_50 : decode cX5_runs 50 = .ok (.if_icmp .ne 13, 3) := by decide +kernel
theorem dX5_runs_53 : decode cX5_runs 53 = .ok (.aload_n 0, 1) := by decide +kernel
theorem dX5_runs_54 : decode cX5_runs 54 = .ok (.sipush 208, 3) := by decide +kernel
theorem dX5_runs_57 : decode cX5_runs 57 = .ok (.invokevirtual 158, 3) := by decide +kernel
theorem dX5_runs_60 : decode cX5_runs 60 = .ok (.goto 7, 3) := by decide +kernel
theorem dX5_runs_63 : decode cX5_runs 63 = .ok (.aload_n 0, 1) := by decide +kernel
theorem dX5_runs_64 : decode cX5_runs 64 = .ok (.getfield 140, 3) := by decide +kernel
theorem dX5_runs_67 : decode cX5_runs 67 = .ok (.ireturn, 1) := by decide +kernel
theorem dX5_ahead_0 : decode cX5_ahead 0 = .ok (.aload_n 0, 1) := by decide +kernel
theorem dX5_ahead_1 : decode cX5_ahead 1 = .ok (.iload_n 1, 1) := by decide +kernel
theorem dX5_ahead_2 : decode cX5_ahead 2 = .ok (.invokevirtual 171, 3) := by decide +kernel
theorem dX5_ahead_5 : decode cX5_ahead 5 = .ok (.ifCond .eq 20, 3) := by decide +kernel
theorem dX5_ahead_8 : decode cX5_ahead 8 = .ok (.iload_n 2, 1) := by decide +kernel
theorem dX5_ahead_9 : decode cX5_ahead 9 = .ok (.invokestatic 209, 3) := by decide +kernel
theorem dX5_ahead_12 : decode cX5_ahead 12 = .ok (.ifCond .eq 13, 3) := by decide +kernel
theorem dX5_ahead_15 : decode cX5_ahead 15 = .ok (.iload_n 3, 1) := by decide +kernel
theorem dX5_ahead_16 : decode cX5_ahead 16 = .ok (.i2l, 1) := by decide +kernel
theorem dX5_ahead_17 : decode cX5_ahead 17 = .ok (.lconst 0, 1) := by decide +kernel
theorem dX5_ahead_18 : decode cX5_ahead 18 = .ok (.lconst 1, 1) := by decide +kernel
theorem dX5_ahead_19 : decode cX5_ahead 19 = .ok (.invokestatic 53, 3) := by decide +kernel
theorem dX5_ahead_22 : decode cX5_ahead 22 = .ok (.ifCond .ne 5, 3) := by decide +kernel
theorem dX5_ahead_25 : decode cX5_ahead 25 = .ok (.iconst (-1), 1) := by decide +kernel
theorem dX5_ahead_26 : decode cX5_ahead 26 = .ok (.ireturn, 1) := by decide +kernel
theorem dX5_ahead_27 : decode cX5_ahead 27 = .ok (.aload_n 0, 1) := by decide +kernel
theorem dX5_ahead_28 : decode cX5_ahead 28 = .ok (.iconst 0, 1) := by decide +kernel
theorem dX5_ahead_29 : decode cX5_ahead 29 = .ok (.iload_n 2, 1) := by decide +kernel
theorem dX5_ahead_30 : decode cX5_ahead 30 = .ok (.invokevirtual 212, 3) := by decide +kernel
theorem dX5_ahead_33 : decode cX5_ahead 33 = .ok (.pop, 1) := by decide +kernel
theorem dX5_ahead_34 : decode cX5_ahead 34 = .ok (.iload_n 3, 1) := by decide +kernel
theorem dX5_ahead_35 : decode cX5_ahead 35 = .ok (.ifCond .ne 16, 3) := by decide +kernel
theorem dX5_ahead_38 : decode cX5_ahead 38 = .ok (.aload_n 0, 1) := by decide +kernel
theorem dX5_ahead_39 : decode cX5_ahead 39 = .ok (.getfield 7, 3) := by decide +kernel
theorem dX5_ahead_42 : decode cX5_ahead 42 = .ok (.sipush 224, 3) := by decide +kernel
theorem dX5_ahead_45 : decode cX5_ahead 45 = .ok (.iload_n 1, 1) := by decide +kernel
theorem dX5_ahead_46 : decode cX5_ahead 46 = .ok (.iadd, 1) := by decide +kernel
theorem dX5_ahead_47 : decode cX5_ahead 47 = .ok (.iaload, 1) := by decide +kernel
theorem dX5_ahead_48 : decode cX5_ahead 48 = .ok (.goto 16, 3) := by decide +kernel
theorem dX5_ahead_51 : decode cX5_ahead 51 = .ok (.bipush 100, 2) := by decide +kernel
theorem dX5_ahead_53 : decode cX5_ahead 53 = .ok (.aload_n 0, 1) := by decide +kernel
theorem dX5_ahead_54 : decode cX5_ahead 54 = .ok (.getfield 7, 3) := by decide +kernel
theorem dX5_ahead_57 : decode cX5_ahead 57 = .ok (.sipush 228, 3) := by decide +kernel
theorem dX5_ahead_60 : decode cX5_ahead 60 = .ok (.iload_n 1, 1) := by decide +kernel
theorem dX5_ahead_61 : decode cX5_ahead 61 = .ok (.iadd, 1) := by decide +kernel
theorem dX5_ahead_62 : decode cX5_ahead 62 = .ok (.iaload, 1) := by decide +kernel
theorem dX5_ahead_63 : decode cX5_ahead 63 = .ok (.iadd, 1) := by decide +kernel
theorem dX5_ahead_64 : decode cX5_ahead 64 = .ok (.ireturn, 1) := by decide +kernel
theorem dX5_when_0 : decode cX5_when 0 = .ok (.aload_n 0, 1) := by decide +kernel
theorem dX5_when_1 : decode cX5_when 1 = .ok (.iload_n 1, 1) := by decide +kernel
theorem dX5_when_2 : decode cX5_when 2 = .ok (.invokevirtual 171, 3) := by decide +kernel
theorem dX5_when_5 : decode cX5_when 5 = .ok (.ifCond .eq 15, 3) := by decide +kernel
theorem dX5_when_8 : decode cX5_when 8 = .ok (.iload_n 2, 1) := by decide +kernel
theorem dX5_when_9 : decode cX5_when 9 = .ok (.i2l, 1) := by decide +kernel
theorem dX5_when_10 : decode cX5_when 10 = .ok (.lconst 0, 1) := by decide +kernel
theorem dX5_when_11 : decode cX5_when 11 = .ok (.ldc2_w 138, 3) := by decide +kernel
theorem dX5_when_14 : decode cX5_when 14 = .ok (.invokestatic 53, 3) := by decide +kernel
theorem dX5_when_17 : decode cX5_when 17 = .ok (.ifCond .ne 5, 3) := by decide +kernel
theorem dX5_when_20 : decode cX5_when 20 = .ok (.iconst (-1), 1) := by decide +kernel
theorem dX5_when_21 : decode cX5_when 21 = .ok (.ireturn, 1) := by decide +kernel
theorem dX5_when_22 : decode cX5_when 22 = .ok (.iload_n 2, 1) := by decide +kernel
theorem dX5_when_23 : decode cX5_when 23 = .ok (.aload_n 0, 1) := by decide +kernel
theorem dX5_when_24 : decode cX5_when 24 = .ok (.getfield 7, 3) := by decide +kernel
theorem dX5_when_27 : decode cX5_when 27 = .ok (.bipush 16, 2) := by decide +kernel
theorem dX5_when_29 : decode cX5_when 29 = .ok (.iload_n 1, 1) := by decide +kernel
theorem dX5_when_30 : decode cX5_when 30 = .ok (.iadd, 1) := by decide +kernel
theorem dX5_when_31 : decode cX5_when 31 = .ok (.iaload, 1) := by decide +kernel
theorem dX5_when_32 : decode cX5_when 32 = .ok (.isub, 1) := by decide +kernel
theorem dX5_when_33 : decode cX5_when 33 = .ok (.istore_n 3, 1) := by decide +kernel
theorem dX5_when_34 : decode cX5_when 34 = .ok (.aload_n 0, 1) := by decide +kernel
theorem dX5_when_35 : decode cX5_when 35 = .ok (.iconst 0, 1) := by decide +kernel
theorem dX5_when_36 : decode cX5_when 36 = .ok (.sipush 208, 3) := by decide +kernel
theorem dX5_when_39 : decode cX5_when 39 = .ok (.invokevirtual 205, 3) := by decide +kernel
theorem dX5_when_42 : decode cX5_when 42 = .ok (.iconst 0, 1) := by decide +kernel
theorem dX5_when_43 : decode cX5_when 43 = .ok (.istore 4, 2) := by decide +kernel
theorem dX5_when_45 : decode cX5_when 45 = .ok (.iload 4, 2) := by decide +kernel
theorem dX5_when_47 : decode cX5_when 47 = .ok (.sipush 200, 3) := by decide +kernel
theorem dX5_when_50 : decode cX5_when 50 = .ok (.if_icmp .gt 66, 3) := by decide +kernel
theorem dX5_when_53 : decode cX5_when 53 = .ok (.aload_n 0, 1) := by decide +kernel
theorem dX5_when_54 : decode cX5_when 54 = .ok (.getfield 7, 3) := by decide +kernel
theorem dX5_when_57 : decode cX5_when 57 = .ok (.sipush 224, 3) := by decide +kernel
theorem dX5_when_60 : decode cX5_when 60 = .ok (.iload_n 1, 1) := by decide +kernel
theorem dX5_when_61 : decode cX5_when 61 = .ok (.iadd, 1) := by decide +kernel
theorem dX5_when_62 : decode cX5_when 62 = .ok (.iaload, 1) := by decide +kernel
theorem dX5_when_63 : decode cX5_when 63 = .ok (.aload_n 0, 1) := by decide +kernel
theorem dX5_when_64 : decode cX5_when 64 = .ok (.getfield 7, 3) := by decide +kernel
theorem dX5_when_67 : decode cX5_when 67 = .ok (.bipush 16, 2) := by decide +kernel
theorem dX5_when_69 : decode cX5_when 69 = .ok (.iload_n 1, 1) := by decide +kernel
theorem dX5_when_70 : decode cX5_when 70 = .ok (.iadd, 1) := by decide +kernel
theorem dX5_when_71 : decode cX5_when 71 = .ok (.iaload, 1) := by decide +kernel
theorem dX5_when_72 : decode cX5_when 72 = .ok (.isub, 1) := by decide +kernel
theorem dX5_when_73 : decode cX5_when 73 = .ok (.istore 5, 2) := by decide +kernel
theorem dX5_when_75 : decode cX5_when 75 = .ok (.iload_n 3, 1) := by decide +kernel
theorem dX5_when_76 : decode cX5_when 76 = .ok (.ifCond .eq 23, 3) := by decide +kernel
theorem dX5_when_79 : decode cX5_when 79 = .ok (.iload_n 3, 1) := by decide +kernel
theorem dX5_when_80 : decode cX5_when 80 = .ok (.ifCond .le 9, 3) := by decide +kernel
theorem dX5_when_83 : decode cX5_when 83 = .ok (.iload 5, 2) := by decide +kernel
theorem dX5_when_85 : decode cX5_when 85 = .ok (.iload_n 3, 1) := by decide +kernel
theorem dX5_when_86 : decode cX5_when 86 = .ok (.if_icmp .ge 13, 3) := by decide +kernel
theorem dX5_when_89 : decode cX5_when 89 = .ok (.iload_n 3, 1) := by decide +kernel
theorem dX5_when_90 : decode cX5_when 90 = .ok (.ifCond .ge 12, 3) := by decide +kernel
theorem dX5_when_93 : decode cX5_when 93 = .ok (.iload 5, 2) := by decide +kernel
theorem dX5_when_95 : decode cX5_when 95 = .ok (.iload_n 3, 1) := by decide +kernel
theorem dX5_when_96 : decode cX5_when 96 = .ok (.if_icmp .gt 6, 3) := by decide +kernel
theorem dX5_when_99 : decode cX5_when 99 = .ok (.iload 4, 2) := by decide +kernel
theorem dX5_when_101 : decode cX5_when 101 = .ok (.ireturn, 1) := by decide +kernel
theorem dX5_when_102 : decode cX5_when 102 = .ok (.aload_n 0, 1) := by decide +kernel
theorem dX5_when_103 : decode cX5_when 103 = .ok (.sipush 208, 3) := by decide +kernel
theorem dX5_when_106 : decode cX5_when 106 = .ok (.iconst 0, 1) := by decide +kernel
theorem dX5_when_107 : decode cX5_when 107 = .ok (.invokevirtual 201, 3) := by decide +kernel
theorem dX5_when_110 : decode cX5_when 110 = .ok (.iinc 4 1, 3) := by decide +kernel
theorem dX5_when_113 : decode cX5_when 113 = .ok (.goto (-68), 3) := by decide +kernel
theorem dX5_when_116 : decode cX5_when 116 = .ok (.bipush (-4), 2) := by decide +kernel
theorem dX5_when_118 : decode cX5_when 118 = .ok (.ireturn, 1) := by decide +kernel
theorem dX5_rests_0 : decode cX5_rests 0 = .ok (.aload_n 0, 1) := by decide +kernel
theorem dX5_rests_1 : decode cX5_rests 1 = .ok (.iconst 0, 1) := by decide +kernel
theorem dX5_rests_2 : decode cX5_rests 2 = .ok (.sipush 208, 3) := by decide +kernel
theorem dX5_rests_5 : decode cX5_rests 5 = .ok (.invokevirtual 205, 3) := by decide +kernel
theorem dX5_rests_8 : decode cX5_rests 8 = .ok (.iconst 0, 1) := by decide +kernel
theorem dX5_rests_9 : decode cX5_rests 9 = .ok (.istore_n 1, 1) := by decide +kernel
theorem dX5_rests_10 : decode cX5_rests 10 = .ok (.iload_n 1, 1) := by decide +kernel
theorem dX5_rests_11 : decode cX5_rests 11 = .ok (.sipush 200, 3) := by decide +kernel
theorem dX5_rests_14 : decode cX5_rests 14 = .ok (.if_icmp .gt 37, 3) := by decide +kernel
theorem dX5_rests_17 : decode cX5_rests 17 = .ok (.aload_n 0, 1) := by decide +kernel
theorem dX5_rests_18 : decode cX5_rests 18 = .ok (.iconst 0, 1) := by decide +kernel
theorem dX5_rests_19 : decode cX5_rests 19 = .ok (.putfield 143, 3) := by decide +kernel
theorem dX5_rests_22 : decode cX5_rests 22 = .ok (.aload_n 0, 1) := by decide +kernel
theorem dX5_rests_23 : decode cX5_rests 23 = .ok (.sipush 208, 3) := by decide +kernel
theorem dX5_rests_26 : decode cX5_rests 26 = .ok (.invokevirtual 168, 3) := by decide +kernel
theorem dX5_rests_29 : decode cX5_rests 29 = .ok (.aload_n 0, 1) := by decide +kernel
theorem dX5_rests_30 : decode cX5_rests 30 = .ok (.getfield 143, 3) := by decide +kernel
theorem dX5_rests_33 : decode cX5_rests 33 = .ok (.ifCond .ne 12, 3) := by decide +kernel
theorem dX5_rests_36 : decode cX5_rests 36 = .ok (.aload_n 0, 1) := by decide +kernel
theorem dX5_rests_37 : decode cX5_rests 37 = .ok (.getfield 155, 3) := by decide +kernel
theorem dX5_rests_40 : decode cX5_rests 40 = .ok (.ifCond .ne 5, 3) := by decide +kernel
theorem dX5_rests_43 : decode cX5_rests 43 = .ok (.iload_n 1, 1) := by decide +kernel
theorem dX5_rests_44 : decode cX5_rests 44 = .ok (.ireturn, 1) := by decide +kernel
theorem dX5_rests_45 : decode cX5_rests 45 = .ok (.iinc 1 1, 3) := by decide +kernel
theorem dX5_rests_48 : decode cX5_rests 48 = .ok (.goto (-38), 3) := by decide +kernel
theorem dX5_rests_51 : decode cX5_rests 51 = .ok (.bipush (-4), 2) := by decide +kernel
theorem dX5_rests_53 : decode cX5_rests 53 = .ok (.ireturn, 1) := by decide +kernel
theorem dX5_leastAt_0 : decode cX5_leastAt 0 = .ok (.ldc 215, 2) := by decide +kernel
theorem dX5_leastAt_2 : decode cX5_leastAt 2 = .ok (.istore 6, 2) := by decide +kernel
theorem dX5_leastAt_4 : decode cX5_leastAt 4 = .ok (.iload_n 2, 1) := by decide +kernel
theorem dX5_leastAt_5 : decode cX5_leastAt 5 = .ok (.istore 7, 2) := by decide +kernel
theorem dX5_leastAt_7 : decode cX5_leastAt 7 = .ok (.aload_n 0, 1) := by decide +kernel
theorem dX5_leastAt_8 : decode cX5_leastAt 8 = .ok (.iconst 0, 1) := by decide +kernel
theorem dX5_leastAt_9 : decode cX5_leastAt 9 = .ok (.sipush 260, 3) := by decide +kernel
theorem dX5_leastAt_12 : decode cX5_leastAt 12 = .ok (.invokevirtual 205, 3) := by decide +kernel
theorem dX5_leastAt_15 : decode cX5_leastAt 15 = .ok (.iload_n 2, 1) := by decide +kernel
theorem dX5_leastAt_16 : decode cX5_leastAt 16 = .ok (.istore 8, 2) := by decide +kernel
theorem dX5_leastAt_18 : decode cX5_leastAt 18 = .ok (.iload 8, 2) := by decide +kernel
theorem dX5_leastAt_20 : decode cX5_leastAt 20 = .ok (.iload_n 3, 1) := by decide +kernel
theorem dX5_leastAt_21 : decode cX5_leastAt 21 = .ok (.if_icmp .gt 64, 3) := by decide +kernel
theorem dX5_leastAt_24 : decode cX5_leastAt 24 = .ok (.aload_n 0, 1) := by decide +kernel
theorem dX5_leastAt_25 : decode cX5_leastAt 25 = .ok (.getfield 7, 3) := by decide +kernel
theorem dX5_leastAt_28 : decode cX5_leastAt 28 = .ok (.sipush 260, 3) := by decide +kernel
theorem dX5_leastAt_31 : decode cX5_leastAt 31 = .ok (.iload_n 1, 1) := by decide +kernel
theorem dX5_leastAt_32 : decode cX5_leastAt 32 = .ok (.iadd, 1) := by decide +kernel
theorem dX5_leastAt_33 : decode cX5_leastAt 33 = .ok (.iload 8, 2) := by decide +kernel
theorem dX5_leastAt_35 : decode cX5_leastAt 35 = .ok (.iastore, 1) := by decide +kernel
theorem dX5_leastAt_36 : decode cX5_leastAt 36 = .ok (.aload_n 0, 1) := by decide +kernel
theorem dX5_leastAt_37 : decode cX5_leastAt 37 = .ok (.sipush 260, 3) := by decide +kernel
theorem dX5_leastAt_40 : decode cX5_leastAt 40 = .ok (.iload 4, 2) := by decide +kernel
theorem dX5_leastAt_42 : decode cX5_leastAt 42 = .ok (.invokevirtual 212, 3) := by decide +kernel
theorem dX5_leastAt_45 : decode cX5_leastAt 45 = .ok (.istore 9, 2) := by decide +kernel
theorem dX5_leastAt_47 : decode cX5_leastAt 47 = .ok (.iload 9, 2) := by decide +kernel
theorem dX5_leastAt_49 : decode cX5_leastAt 49 = .ok (.iload 6, 2) := by decide +kernel
theorem dX5_leastAt_51 : decode cX5_leastAt 51 = .ok (.if_icmp .ge 8, 3) := by decide +kernel
theorem dX5_leastAt_54 : decode cX5_leastAt 54 = .ok (.iload 8, 2) := by decide +kernel
theorem dX5_leastAt_56 : decode cX5_leastAt 56 = .ok (.goto 5, 3) := by decide +kernel
theorem dX5_leastAt_59 : decode cX5_leastAt 59 = .ok (.iload 7, 2) := by decide +kernel
theorem dX5_leastAt_61 : decode cX5_leastAt 61 = .ok (.istore 7, 2) := by decide +kernel
theorem dX5_leastAt_63 : decode cX5_leastAt 63 = .ok (.iload 9, 2) := by decide +kernel
theorem dX5_leastAt_65 : decode cX5_leastAt 65 = .ok (.iload 6, 2) := by decide +kernel
theorem dX5_leastAt_67 : decode cX5_leastAt 67 = .ok (.if_icmp .ge 8, 3) := by decide +kernel
theorem dX5_leastAt_70 : decode cX5_leastAt 70 = .ok (.iload 9, 2) := by decide +kernel
theorem dX5_leastAt_72 : decode cX5_leastAt 72 = .ok (.goto 5, 3) := by decide +kernel
theorem dX5_leastAt_75 : decode cX5_leastAt 75 = .ok (.iload 6, 2) := by decide +kernel
theorem dX5_leastAt_77 : decode cX5_leastAt 77 = .ok (.istore 6, 2) := by decide +kernel
theorem dX5_leastAt_79 : decode cX5_leastAt 79 = .ok (.iinc 8 1, 3) := by decide +kernel
theorem dX5_leastAt_82 : decode cX5_leastAt 82 = .ok (.goto (-64), 3) := by decide +kernel
theorem dX5_leastAt_85 : decode cX5_leastAt 85 = .ok (.iload 5, 2) := by decide +kernel
theorem dX5_leastAt_87 : decode cX5_leastAt 87 = .ok (.ifCond .ne 8, 3) := by decide +kernel
theorem dX5_leastAt_90 : decode cX5_leastAt 90 = .ok (.iload 7, 2) := by decide +kernel
theorem dX5_leastAt_92 : decode cX5_leastAt 92 = .ok (.goto 5, 3) := by decide +kernel
theorem dX5_leastAt_95 : decode cX5_leastAt 95 = .ok (.iload 6, 2) := by decide +kernel
theorem dX5_leastAt_97 : decode cX5_leastAt 97 = .ok (.ireturn, 1) := by decide +kernel
theorem dX5_isAsked_0 : decode cX5_isAsked 0 = .ok (.aload_n 0, 1) := by decide +kernel
theorem dX5_isAsked_1 : decode cX5_isAsked 1 = .ok (.iload_n 1, 1) := by decide +kernel
theorem dX5_isAsked_2 : decode cX5_isAsked 2 = .ok (.invokevirtual 171, 3) := by decide +kernel
theorem dX5_isAsked_5 : decode cX5_isAsked 5 = .ok (.ifCond .eq 29, 3) := by decide +kernel
theorem dX5_isAsked_8 : decode cX5_isAsked 8 = .ok (.iload_n 2, 1) := by decide +kernel
theorem dX5_isAsked_9 : decode cX5_isAsked 9 = .ok (.i2l, 1) := by decide +kernel
theorem dX5_isAsked_10 : decode cX5_isAsked 10 = .ok (.lconst 0, 1) := by decide +kernel
theorem dX5_isAsked_11 : decode cX5_isAsked 11 = .ok (.ldc2_w 199, 3) := by decide +kernel
theorem dX5_isAsked_14 : decode cX5_isAsked 14 = .ok (.invokestatic 53, 3) := by decide +kernel
theorem dX5_isAsked_17 : decode cX5_isAsked 17 = .ok (.ifCond .eq 17, 3) := by decide +kernel
theorem dX5_isAsked_20 : decode cX5_isAsked 20 = .ok (.iload_n 3, 1) := by decide +kernel
theorem dX5_isAsked_21 : decode cX5_isAsked 21 = .ok (.i2l, 1) := by decide +kernel
theorem dX5_isAsked_22 : decode cX5_isAsked 22 = .ok (.lconst 0, 1) := by decide +kernel
theorem dX5_isAsked_23 : decode cX5_isAsked 23 = .ok (.lconst 1, 1) := by decide +kernel
theorem dX5_isAsked_24 : decode cX5_isAsked 24 = .ok (.invokestatic 53, 3) := by decide +kernel
theorem dX5_isAsked_27 : decode cX5_isAsked 27 = .ok (.ifCond .eq 7, 3) := by decide +kernel
theorem dX5_isAsked_30 : decode cX5_isAsked 30 = .ok (.iconst 1, 1) := by decide +kernel
theorem dX5_isAsked_31 : decode cX5_isAsked 31 = .ok (.goto 4, 3) := by decide +kernel
theorem dX5_isAsked_34 : decode cX5_isAsked 34 = .ok (.iconst 0, 1) := by decide +kernel
theorem dX5_isAsked_35 : decode cX5_isAsked 35 = .ok (.ireturn, 1) := by decide +kernel
theorem dX5_stiff_0 : decode cX5_stiff 0 = .ok (.aload_n 0, 1) := by decide +kernel
theorem dX5_stiff_1 : decode cX5_stiff 1 = .ok (.iload_n 1, 1) := by decide +kernel
theorem dX5_stiff_2 : decode cX5_stiff 2 = .ok (.iload_n 2, 1) := by decide +kernel
theorem dX5_stiff_3 : decode cX5_stiff 3 = .ok (.iload_n 3, 1) := by decide +kernel
theorem dX5_stiff_4 : decode cX5_stiff 4 = .ok (.invokevirtual 216, 3) := by decide +kernel
theorem dX5_stiff_7 : decode cX5_stiff 7 = .ok (.ifCond .eq 19, 3) := by decide +kernel
theorem dX5_stiff_10 : decode cX5_stiff 10 = .ok (.aload_n 0, 1) := by decide +kernel
theorem dX5_stiff_11 : decode cX5_stiff 11 = .ok (.bipush 8, 2) := by decide +kernel
theorem dX5_stiff_13 : decode cX5_stiff 13 = .ok (.iload_n 1, 1) := by decide +kernel
theorem dX5_stiff_14 : decode cX5_stiff 14 = .ok (.iadd, 1) := by decide +kernel
theorem dX5_stiff_15 : decode cX5_stiff 15 = .ok (.iconst 0, 1) := by decide +kernel
theorem dX5_stiff_16 : decode cX5_stiff 16 = .ok (.bipush 9, 2) := by decide +kernel
theorem dX5_stiff_18 : decode cX5_stiff 18 = .ok (.iload_n 2, 1) := by decide +kernel
theorem dX5_stiff_19 : decode cX5_stiff 19 = .ok (.iload_n 3, 1) := by decide +kernel
theorem dX5_stiff_20 : decode cX5_stiff 20 = .ok (.invokevirtual 220, 3) := by decide +kernel
theorem dX5_stiff_23 : decode cX5_stiff 23 = .ok (.goto 4, 3) := by decide +kernel
theorem dX5_stiff_26 : decode cX5_stiff 26 = .ok (.iconst (-1), 1) := by decide +kernel
theorem dX5_stiff_27 : decode cX5_stiff 27 = .ok (.ireturn, 1) := by decide +kernel
theorem dX5_rest_0 : decode cX5_rest 0 = .ok (.aload_n 0, 1) := by decide +kernel
theorem dX5_rest_1 : decode cX5_rest 1 = .ok (.iload_n 1, 1) := by decide +kernel
theorem dX5_rest_2 : decode cX5_rest 2 = .ok (.iload_n 2, 1) := by decide +kernel
theorem dX5_rest_3 : decode cX5_rest 3 = .ok (.iload_n 3, 1) := by decide +kernel
theorem dX5_rest_4 : decode cX5_rest 4 = .ok (.invokevirtual 216, 3) := by decide +kernel
theorem dX5_rest_7 : decode cX5_rest 7 = .ok (.ifCond .eq 18, 3) := by decide +kernel
theorem dX5_rest_10 : decode cX5_rest 10 = .ok (.aload_n 0, 1) := by decide +kernel
theorem dX5_rest_11 : decode cX5_rest 11 = .ok (.iconst 4, 1) := by decide +kernel
theorem dX5_rest_12 : decode cX5_rest 12 = .ok (.iload_n 1, 1) := by decide +kernel
theorem dX5_rest_13 : decode cX5_rest 13 = .ok (.iadd, 1) := by decide +kernel
theorem dX5_rest_14 : decode cX5_rest 14 = .ok (.iconst 0, 1) := by decide +kernel
theorem dX5_rest_15 : decode cX5_rest 15 = .ok (.bipush 60, 2) := by decide +kernel
theorem dX5_rest_17 : decode cX5_rest 17 = .ok (.iload_n 2, 1) := by decide +kernel
theorem dX5_rest_18 : decode cX5_rest 18 = .ok (.iload_n 3, 1) := by decide +kernel
theorem dX5_rest_19 : decode cX5_rest 19 = .ok (.invokevirtual 220, 3) := by decide +kernel
theorem dX5_rest_22 : decode cX5_rest 22 = .ok (.goto 4, 3) := by decide +kernel
theorem dX5_rest_25 : decode cX5_rest 25 = .ok (.iconst (-1), 1) := by decide +kernel
theorem dX5_rest_26 : decode cX5_rest 26 = .ok (.ireturn, 1) := by decide +kernel
theorem dX5_kind_0 : decode cX5_kind 0 = .ok (.aload_n 0, 1) := by decide +kernel
theorem dX5_kind_1 : decode cX5_kind 1 = .ok (.iload_n 1, 1) := by decide +kernel
theorem dX5_kind_2 : decode cX5_kind 2 = .ok (.iload_n 2, 1) := by decide +kernel
theorem dX5_kind_3 : decode cX5_kind 3 = .ok (.iload_n 3, 1) := by decide +kernel
theorem dX5_kind_4 : decode cX5_kind 4 = .ok (.invokevirtual 216, 3) := by decide +kernel
theorem dX5_kind_7 : decode cX5_kind 7 = .ok (.ifCond .eq 15, 3) := by decide +kernel
theorem dX5_kind_10 : decode cX5_kind 10 = .ok (.aload_n 0, 1) := by decide +kernel
theorem dX5_kind_11 : decode cX5_kind 11 = .ok (.iload_n 1, 1) := by decide +kernel
theorem dX5_kind_12 : decode cX5_kind 12 = .ok (.iconst 0, 1) := by decide +kernel
theorem dX5_kind_13 : decode cX5_kind 13 = .ok (.iconst 3, 1) := by decide +kernel
theorem dX5_kind_14 : decode cX5_kind 14 = .ok (.iload_n 2, 1) := by decide +kernel
theorem dX5_kind_15 : decode cX5_kind 15 = .ok (.iload_n 3, 1) := by decide +kernel
theorem dX5_kind_16 : decode cX5_kind 16 = .ok (.invokevirtual 220, 3) := by decide +kernel
theorem dX5_kind_19 : decode cX5_kind 19 = .ok (.goto 4, 3) := by decide +kernel
theorem dX5_kind_22 : decode cX5_kind 22 = .ok (.iconst (-1), 1) := by decide +kernel
theorem dX5_kind_23 : decode cX5_kind 23 = .ok (.ireturn, 1) := by decide +kernel
theorem dX5_mass_0 : decode cX5_mass 0 = .ok (.aload_n 0, 1) := by decide +kernel
theorem dX5_mass_1 : decode cX5_mass 1 = .ok (.iload_n 1, 1) := by decide +kernel
theorem dX5_mass_2 : decode cX5_mass 2 = .ok (.iload_n 2, 1) := by decide +kernel
theorem dX5_mass_3 : decode cX5_mass 3 = .ok (.iload_n 3, 1) := by decide +kernel
theorem dX5_mass_4 : decode cX5_mass 4 = .ok (.invokevirtual 216, 3) := by decide +kernel
theorem dX5_mass_7 : decode cX5_mass 7 = .ok (.ifCond .eq 19, 3) := by decide +kernel
theorem dX5_mass_10 : decode cX5_mass 10 = .ok (.aload_n 0, 1) := by decide +kernel
theorem dX5_mass_11 : decode cX5_mass 11 = .ok (.bipush 12, 2) := by decide +kernel
theorem dX5_mass_13 : decode cX5_mass 13 = .ok (.iload_n 1, 1) := by decide +kernel
theorem dX5_mass_14 : decode cX5_mass 14 = .ok (.iadd, 1) := by decide +kernel
theorem dX5_mass_15 : decode cX5_mass 15 = .ok (.iconst 1, 1) := by decide +kernel
theorem dX5_mass_16 : decode cX5_mass 16 = .ok (.bipush 9, 2) := by decide +kernel
theorem dX5_mass_18 : decode cX5_mass 18 = .ok (.iload_n 2, 1) := by decide +kernel
theorem dX5_mass_19 : decode cX5_mass 19 = .ok (.iload_n 3, 1) := by decide +kernel
theorem dX5_mass_20 : decode cX5_mass 20 = .ok (.invokevirtual 220, 3) := by decide +kernel
theorem dX5_mass_23 : decode cX5_mass 23 = .ok (.goto 4, 3) := by decide +kernel
theorem dX5_mass_26 : decode cX5_mass 26 = .ok (.iconst (-1), 1) := by decide +kernel
theorem dX5_mass_27 : decode cX5_mass 27 = .ok (.ireturn, 1) := by decide +kernel
theorem dX5_swap_0 : decode cX5_swap 0 = .ok (.iload_n 1, 1) := by decide +kernel
theorem dX5_swap_1 : decode cX5_swap 1 = .ok (.i2l, 1) := by decide +kernel
theorem dX5_swap_2 : decode cX5_swap 2 = .ok (.lconst 0, 1) := by decide +kernel
theorem dX5_swap_3 : decode cX5_swap 3 = .ok (.ldc2_w 199, 3) := by decide +kernel
theorem dX5_swap_6 : decode cX5_swap 6 = .ok (.invokestatic 53, 3) := by decide +kernel
theorem dX5_swap_9 : decode cX5_swap 9 = .ok (.ifCond .eq 13, 3) := by decide +kernel
theorem dX5_swap_12 : decode cX5_swap 12 = .ok (.iload_n 2, 1) := by decide +kernel
theorem dX5_swap_13 : decode cX5_swap 13 = .ok (.i2l, 1) := by decide +kernel
theorem dX5_swap_14 : decode cX5_swap 14 = .ok (.lconst 0, 1) := by decide +kernel
theorem dX5_swap_15 : decode cX5_swap 15 = .ok (.lconst 1, 1) := by decide +kernel
theorem dX5_swap_16 : decode cX5_swap 16 = .ok (.invokestatic 53, 3) := by decide +kernel
theorem dX5_swap_19 : decode cX5_swap 19 = .ok (.ifCond .ne 5, 3) := by decide +kernel
theorem dX5_swap_22 : decode cX5_swap 22 = .ok (.iconst (-1), 1) := by decide +kernel
theorem dX5_swap_23 : decode cX5_swap 23 = .ok (.ireturn, 1) := by decide +kernel
theorem dX5_swap_24 : decode cX5_swap 24 = .ok (.aload_n 0, 1) := by decide +kernel
theorem dX5_swap_25 : decode cX5_swap 25 = .ok (.iconst 0, 1) := by decide +kernel
theorem dX5_swap_26 : decode cX5_swap 26 = .ok (.iload_n 1, 1) := by decide +kernel
theorem dX5_swap_27 : decode cX5_swap 27 = .ok (.invokevirtual 212, 3) := by decide +kernel
theorem dX5_swap_30 : decode cX5_swap 30 = .ok (.istore_n 3, 1) := by decide +kernel
theorem dX5_swap_31 : decode cX5_swap 31 = .ok (.bipush (-4), 2) := by decide +kernel
theorem dX5_swap_33 : decode cX5_swap 33 = .ok (.istore 4, 2) := by decide +kernel
theorem dX5_swap_35 : decode cX5_swap 35 = .ok (.iconst 0, 1) := by decide +kernel
theorem dX5_swap_36 : decode cX5_swap 36 = .ok (.istore 5, 2) := by decide +kernel
theorem dX5_swap_38 : decode cX5_swap 38 = .ok (.iload 5, 2) := by decide +kernel
theorem dX5_swap_40 : decode cX5_swap 40 = .ok (.aload_n 0, 1) := by decide +kernel
theorem dX5_swap_41 : decode cX5_swap 41 = .ok (.getfield 7, 3) := by decide +kernel
theorem dX5_swap_44 : decode cX5_swap 44 = .ok (.bipush 49, 2) := by decide +kernel
theorem dX5_swap_46 : decode cX5_swap 46 = .ok (.iaload, 1) := by decide +kernel
theorem dX5_swap_47 : decode cX5_swap 47 = .ok (.if_icmp .ge 169, 3) := by decide +kernel
theorem dX5_swap_50 : decode cX5_swap 50 = .ok (.iload 5, 2) := by decide +kernel
theorem dX5_swap_52 : decode cX5_swap 52 = .ok (.iconst 1, 1) := by decide +kernel
theorem dX5_swap_53 : decode cX5_swap 53 = .ok (.iadd, 1) := by decide +kernel
theorem dX5_swap_54 : decode cX5_swap 54 = .ok (.istore 6, 2) := by decide +kernel
theorem dX5_swap_56 : decode cX5_swap 56 = .ok (.iload 6, 2) := by decide +kernel
theorem dX5_swap_58 : decode cX5_swap 58 = .ok (.aload_n 0, 1) := by decide +kernel
theorem dX5_swap_59 : decode cX5_swap 59 = .ok (.getfield 7, 3) := by decide +kernel
theorem dX5_swap_62 : decode cX5_swap 62 = .ok (.bipush 49, 2) := by decide +kernel
theorem dX5_swap_64 : decode cX5_swap 64 = .ok (.iaload, 1) := by decide +kernel
theorem dX5_swap_65 : decode cX5_swap 65 = .ok (.if_icmp .ge 145, 3) := by decide +kernel
theorem dX5_swap_68 : decode cX5_swap 68 = .ok (.aload_n 0, 1) := by decide +kernel
theorem dX5_swap_69 : decode cX5_swap 69 = .ok (.iconst 0, 1) := by decide +kernel
theorem dX5_swap_70 : decode cX5_swap 70 = .ok (.sipush 260, 3) := by decide +kernel
theorem dX5_swap_73 : decode cX5_swap 73 = .ok (.invokevirtual 205, 3) := by decide +kernel
theorem dX5_swap_76 : decode cX5_swap 76 = .ok (.aload_n 0, 1) := by decide +kernel
theorem dX5_swap_77 : decode cX5_swap 77 = .ok (.getfield 7, 3) := by decide +kernel
theorem dX5_swap_80 : decode cX5_swap 80 = .ok (.sipush 285, 3) := by decide +kernel
theorem dX5_swap_83 : decode cX5_swap 83 = .ok (.iload 5, 2) := by decide +kernel
theorem dX5_swap_85 : decode cX5_swap 85 = .ok (.iadd, 1) := by decide +kernel
theorem dX5_swap_86 : decode cX5_swap 86 = .ok (.aload_n 0, 1) := by decide +kernel
theorem dX5_swap_87 : decode cX5_swap 87 = .ok (.getfield 7, 3) := by decide +kernel
theorem dX5_swap_90 : decode cX5_swap 90 = .ok (.bipush 25, 2) := by decide +kernel
theorem dX5_swap_92 : decode cX5_swap 92 = .ok (.iload 6, 2) := by decide +kernel
theorem dX5_swap_94 : decode cX5_swap 94 = .ok (.iadd, 1) := by decide +kernel
theorem dX5_swap_95 : decode cX5_swap 95 = .ok (.iaload, 1) := by decide +kernel
theorem dX5_swap_96 : decode cX5_swap 96 = .ok (.iastore, 1) := by decide +kernel
theorem dX5_swap_97 : decode cX5_swap 97 = .ok (.aload_n 0, 1) := by decide +kernel
theorem dX5_swap_98 : decode cX5_swap 98 = .ok (.getfield 7, 3) := by decide +kernel
theorem dX5_swap_101 : decode cX5_swap 101 = .ok (.sipush 285, 3) := by decide +kernel
theorem dX5_swap_104 : decode cX5_swap 104 = .ok (.iload 6, 2) := by decide +kernel
theorem dX5_swap_106 : decode cX5_swap 106 = .ok (.iadd, 1) := by decide +kernel
theorem dX5_swap_107 : decode cX5_swap 107 = .ok (.aload_n 0, 1) := by decide +kernel
theorem dX5_swap_108 : decode cX5_swap 108 = .ok (.getfield 7, 3) := by decide +kernel
theorem dX5_swap_111 : decode cX5_swap 111 = .ok (.bipush 25, 2) := by decide +kernel
theorem dX5_swap_113 : decode cX5_swap 113 = .ok (.iload 5, 2) := by decide +kernel
theorem dX5_swap_115 : decode cX5_swap 115 = .ok (.iadd, 1) := by decide +kernel
theorem dX5_swap_116 : decode cX5_swap 116 = .ok (.iaload, 1) := by decide +kernel
theorem dX5_swap_117 : decode cX5_swap 117 = .ok (.iastore, 1) := by decide +kernel
theorem dX5_swap_118 : decode cX5_swap 118 = .ok (.aload_n 0, 1) := by decide +kernel
theorem dX5_swap_119 : decode cX5_swap 119 = .ok (.getfield 7, 3) := by decide +kernel
theorem dX5_swap_122 : decode cX5_swap 122 = .ok (.sipush 297, 3) := by decide +kernel
theorem dX5_swap_125 : decode cX5_swap 125 = .ok (.iload 5, 2) := by decide +kernel
theorem dX5_swap_127 : decode cX5_swap 127 = .ok (.iadd, 1) := by decide +kernel
theorem dX5_swap_128 : decode cX5_swap 128 = .ok (.aload_n 0, 1) := by decide +kernel
theorem dX5_swap_129 : decode cX5_swap 129 = .ok (.getfield 7, 3) := by decide +kernel
theorem dX5_swap_132 : decode cX5_swap 132 = .ok (.bipush 37, 2) := by decide +kernel
theorem dX5_swap_134 : decode cX5_swap 134 = .ok (.iload 6, 2) := by decide +kernel
theorem dX5_swap_136 : decode cX5_swap 136 = .ok (.iadd, 1) := by decide +kernel
theorem dX5_swap_137 : decode cX5_swap 137 = .ok (.iaload, 1) := by decide +kernel
theorem dX5_swap_138 : decode cX5_swap 138 = .ok (.iastore, 1) := by decide +kernel
theorem dX5_swap_139 : decode cX5_swap 139 = .ok (.aload_n 0, 1) := by decide +kernel
theorem dX5_swap_140 : decode cX5_swap 140 = .ok (.getfield 7, 3) := by decide +kernel
theorem dX5_swap_143 : decode cX5_swap 143 = .ok (.sipush 297, 3) := by decide +kernel
theorem dX5_swap_146 : decode cX5_swap 146 = .ok (.iload 6, 2) := by decide +kernel
theorem dX5_swap_148 : decode cX5_swap 148 = .ok (.iadd, 1) := by decide +kernel
theorem dX5_swap_149 : decode cX5_swap 149 = .ok (.aload_n 0, 1) := by decide +kernel
theorem dX5_swap_150 : decode cX5_swap 150 = .ok (.getfield 7, 3) := by decide +kernel
theorem dX5_swap_153 : decode cX5_swap 153 = .ok (.bipush 37, 2) := by decide +kernel
theorem dX5_swap_155 : decode cX5_swap 155 = .ok (.iload 5, 2) := by decide +kernel
theorem dX5_swap_157 : decode cX5_swap 157 = .ok (.iadd, 1) := by decide +kernel
theorem dX5_swap_158 : decode cX5_swap 158 = .ok (.iaload, 1) := by decide +kernel
theorem dX5_swap_159 : decode cX5_swap 159 = .ok (.iastore, 1) := by decide +kernel
theorem dX5_swap_160 : decode cX5_swap 160 = .ok (.aload_n 0, 1) := by decide +kernel
theorem dX5_swap_161 : decode cX5_swap 161 = .ok (.sipush 260, 3) := by decide +kernel
theorem dX5_swap_164 : decode cX5_swap 164 = .ok (.iload_n 1, 1) := by decide +kernel
theorem dX5_swap_165 : decode cX5_swap 165 = .ok (.invokevirtual 212, 3) := by decide +kernel
theorem dX5_swap_168 : decode cX5_swap 168 = .ok (.istore 7, 2) := by decide +kernel
theorem dX5_swap_170 : decode cX5_swap 170 = .ok (.iload 7, 2) := by decide +kernel
theorem dX5_swap_172 : decode cX5_swap 172 = .ok (.iload_n 3, 1) := by decide +kernel
theorem dX5_swap_173 : decode cX5_swap 173 = .ok (.if_icmp .ge 14, 3) := by decide +kernel
theorem dX5_swap_176 : decode cX5_swap 176 = .ok (.bipush 100, 2) := by decide +kernel
theorem dX5_swap_178 : decode cX5_swap 178 = .ok (.iload 5, 2) := by decide +kernel
theorem dX5_swap_180 : decode cX5_swap 180 = .ok (.imul, 1) := by decide +kernel
theorem dX5_swap_181 : decode cX5_swap 181 = .ok (.iload 6, 2) := by decide +kernel
theorem dX5_swap_183 : decode cX5_swap 183 = .ok (.iadd, 1) := by decide +kernel
theorem dX5_swap_184 : decode cX5_swap 184 = .ok (.goto 5, 3) := by decide +kernel
theorem dX5_swap_187 : decode cX5_swap 187 = .ok (.iload 4, 2) := by decide +kernel
theorem dX5_swap_189 : decode cX5_swap 189 = .ok (.istore 4, 2) := by decide +kernel
theorem dX5_swap_191 : decode cX5_swap 191 = .ok (.iload 7, 2) := by decide +kernel
theorem dX5_swap_193 : decode cX5_swap 193 = .ok (.iload_n 3, 1) := by decide +kernel
theorem dX5_swap_194 : decode cX5_swap 194 = .ok (.if_icmp .ge 8, 3) := by decide +kernel
theorem dX5_swap_197 : decode cX5_swap 197 = .ok (.iload 7, 2) := by decide +kernel
theorem dX5_swap_199 : decode cX5_swap 199 = .ok (.goto 4, 3) := by decide +kernel
theorem dX5_swap_202 : decode cX5_swap 202 = .ok (.iload_n 3, 1) := by decide +kernel
theorem dX5_swap_203 : decode cX5_swap 203 = .ok (.istore_n 3, 1) := by decide +kernel
theorem dX5_swap_204 : decode cX5_swap 204 = .ok (.iinc 6 1, 3) := by decide +kernel
theorem dX5_swap_207 : decode cX5_swap 207 = .ok (.goto (-151), 3) := by decide +kernel
theorem dX5_swap_210 : decode cX5_swap 210 = .ok (.iinc 5 1, 3) := by decide +kernel
theorem dX5_swap_213 : decode cX5_swap 213 = .ok (.goto (-175), 3) := by decide +kernel
theorem dX5_swap_216 : decode cX5_swap 216 = .ok (.iload 4, 2) := by decide +kernel
theorem dX5_swap_218 : decode cX5_swap 218 = .ok (.bipush (-4), 2) := by decide +kernel
theorem dX5_swap_220 : decode cX5_swap 220 = .ok (.if_icmp .eq 7, 3) := by decide +kernel
theorem dX5_swap_223 : decode cX5_swap 223 = .ok (.iload_n 2, 1) := by decide +kernel
theorem dX5_swap_224 : decode cX5_swap 224 = .ok (.ifCond .ne 8, 3) := by decide +kernel
theorem dX5_swap_227 : decode cX5_swap 227 = .ok (.iload 4, 2) := by decide +kernel
theorem dX5_swap_229 : decode cX5_swap 229 = .ok (.goto 4, 3) := by decide +kernel
theorem dX5_swap_232 : decode cX5_swap 232 = .ok (.iload_n 3, 1) := by decide +kernel
theorem dX5_swap_233 : decode cX5_swap 233 = .ok (.ireturn, 1) := by decide +kernel
theorem dX5_miss_0 : decode cX5_miss 0 = .ok (.iload_n 1, 1) := by decide +kernel
theorem dX5_miss_1 : decode cX5_miss 1 = .ok (.i2l, 1) := by decide +kernel
theorem dX5_miss_2 : decode cX5_miss 2 = .ok (.lconst 0, 1) := by decide +kernel
theorem dX5_miss_3 : decode cX5_miss 3 = .ok (.ldc2_w 199, 3) := by decide +kernel
theorem dX5_miss_6 : decode cX5_miss 6 = .ok (.invokestatic 53, 3) := by decide +kernel
theorem dX5_miss_9 : decode cX5_miss 9 = .ok (.ifCond .eq 13, 3) := by decide +kernel
theorem dX5_miss_12 : decode cX5_miss 12 = .ok (.iload_n 2, 1) := by decide +kernel
theorem dX5_miss_13 : decode cX5_miss 13 = .ok (.i2l, 1) := by decide +kernel
theorem dX5_miss_14 : decode cX5_miss 14 = .ok (.lconst 0, 1) := by decide +kernel
theorem dX5_miss_15 : decode cX5_miss 15 = .ok (.lconst 1, 1) := by decide +kernel
theorem dX5_miss_16 : decode cX5_miss 16 = .ok (.invokestatic 53, 3) := by decide +kernel
theorem dX5_miss_19 : decode cX5_miss 19 = .ok (.ifCond .ne 5, 3) := by decide +kernel
theorem dX5_miss_22 : decode cX5_miss 22 = .ok (.iconst (-1), 1) := by decide +kernel
theorem dX5_miss_23 : decode cX5_miss 23 = .ok (.ireturn, 1) := by decide +kernel
theorem dX5_miss_24 : decode cX5_miss 24 = .ok (.aload_n 0, 1) := by decide +kernel
theorem dX5_miss_25 : decode cX5_miss 25 = .ok (.iconst 0, 1) := by decide +kernel
theorem dX5_miss_26 : decode cX5_miss 26 = .ok (.iload_n 1, 1) := by decide +kernel
theorem dX5_miss_27 : decode cX5_miss 27 = .ok (.invokevirtual 212, 3) := by decide +kernel
theorem dX5_miss_30 : decode cX5_miss 30 = .ok (.istore_n 3, 1) := by decide +kernel
theorem dX5_miss_31 : decode cX5_miss 31 = .ok (.bipush (-4), 2) := by decide +kernel
theorem dX5_miss_33 : decode cX5_miss 33 = .ok (.istore 4, 2) := by decide +kernel
theorem dX5_miss_35 : decode cX5_miss 35 = .ok (.iconst 0, 1) := by decide +kernel
theorem dX5_miss_36 : decode cX5_miss 36 = .ok (.istore 5, 2) := by decide +kernel
theorem dX5_miss_38 : decode cX5_miss 38 = .ok (.iload 5, 2) := by decide +kernel
theorem dX5_miss_40 : decode cX5_miss 40 = .ok (.aload_n 0, 1) := by decide +kernel
theorem dX5_miss_41 : decode cX5_miss 41 = .ok (.getfield 7, 3) := by decide +kernel
theorem dX5_miss_44 : decode cX5_miss 44 = .ok (.bipush 49, 2) := by decide +kernel
theorem dX5_miss_46 : decode cX5_miss 46 = .ok (.iaload, 1) := by decide +kernel
theorem dX5_miss_47 : decode cX5_miss 47 = .ok (.if_icmp .ge 57, 3) := by decide +kernel
theorem dX5_miss_50 : decode cX5_miss 50 = .ok (.aload_n 0, 1) := by decide +kernel
theorem dX5_miss_51 : decode cX5_miss 51 = .ok (.iload 5, 2) := by decide +kernel
theorem dX5_miss_53 : decode cX5_miss 53 = .ok (.putfield 28, 3) := by decide +kernel
theorem dX5_miss_56 : decode cX5_miss 56 = .ok (.aload_n 0, 1) := by decide +kernel
theorem dX5_miss_57 : decode cX5_miss 57 = .ok (.iconst 0, 1) := by decide +kernel
theorem dX5_miss_58 : decode cX5_miss 58 = .ok (.iload_n 1, 1) := by decide +kernel
theorem dX5_miss_59 : decode cX5_miss 59 = .ok (.invokevirtual 212, 3) := by decide +kernel
theorem dX5_miss_62 : decode cX5_miss 62 = .ok (.istore 6, 2) := by decide +kernel
theorem dX5_miss_64 : decode cX5_miss 64 = .ok (.aload_n 0, 1) := by decide +kernel
theorem dX5_miss_65 : decode cX5_miss 65 = .ok (.bipush (-4), 2) := by decide +kernel
theorem dX5_miss_67 : decode cX5_miss 67 = .ok (.putfield 28, 3) := by decide +kernel
theorem dX5_miss_70 : decode cX5_miss 70 = .ok (.iload 6, 2) := by decide +kernel
theorem dX5_miss_72 : decode cX5_miss 72 = .ok (.iload_n 3, 1) := by decide +kernel
theorem dX5_miss_73 : decode cX5_miss 73 = .ok (.if_icmp .ge 8, 3) := by decide +kernel
theorem dX5_miss_76 : decode cX5_miss 76 = .ok (.iload 5, 2) := by decide +kernel
theorem dX5_miss_78 : decode cX5_miss 78 = .ok (.goto 5, 3) := by decide +kernel
theorem dX5_miss_81 : decode cX5_miss 81 = .ok (.iload 4, 2) := by decide +kernel
theorem dX5_miss_83 : decode cX5_miss 83 = .ok (.istore 4, 2) := by decide +kernel
theorem dX5_miss_85 : decode cX5_miss 85 = .ok (.iload 6, 2) := by decide +kernel
theorem dX5_miss_87 : decode cX5_miss 87 = .ok (.iload_n 3, 1) := by decide +kernel
theorem dX5_miss_88 : decode cX5_miss 88 = .ok (.if_icmp .ge 8, 3) := by decide +kernel
theorem dX5_miss_91 : decode cX5_miss 91 = .ok (.iload 6, 2) := by decide +kernel
theorem dX5_miss_93 : decode cX5_miss 93 = .ok (.goto 4, 3) := by decide +kernel
theorem dX5_miss_96 : decode cX5_miss 96 = .ok (.iload_n 3, 1) := by decide +kernel
theorem dX5_miss_97 : decode cX5_miss 97 = .ok (.istore_n 3, 1) := by decide +kernel
theorem dX5_miss_98 : decode cX5_miss 98 = .ok (.iinc 5 1, 3) := by decide +kernel
theorem dX5_miss_101 : decode cX5_miss 101 = .ok (.goto (-63), 3) := by decide +kernel
theorem dX5_miss_104 : decode cX5_miss 104 = .ok (.iload 4, 2) := by decide +kernel
theorem dX5_miss_106 : decode cX5_miss 106 = .ok (.bipush (-4), 2) := by decide +kernel
theorem dX5_miss_108 : decode cX5_miss 108 = .ok (.if_icmp .eq 7, 3) := by decide +kernel
theorem dX5_miss_111 : decode cX5_miss 111 = .ok (.iload_n 2, 1) := by decide +kernel
theorem dX5_miss_112 : decode cX5_miss 112 = .ok (.ifCond .ne 8, 3) := by decide +kernel
theorem dX5_miss_115 : decode cX5_miss 115 = .ok (.iload 4, 2) := by decide +kernel
theorem dX5_miss_117 : decode cX5_miss 117 = .ok (.goto 4, 3) := by decide +kernel
theorem dX5_miss_120 : decode cX5_miss 120 = .ok (.iload_n 3, 1) := by decide +kernel
theorem dX5_miss_121 : decode cX5_miss 121 = .ok (.ireturn, 1) := by decide +kernel
theorem dX5_lowest_0 : decode cX5_lowest 0 = .ok (.lload_n 0, 1) := by decide +kernel
theorem dX5_lowest_1 : decode cX5_lowest 1 = .ok (.lstore 5, 2) := by decide +kernel
theorem dX5_lowest_3 : decode cX5_lowest 3 = .ok (.lload_n 2, 1) := by decide +kernel
theorem dX5_lowest_4 : decode cX5_lowest 4 = .ok (.lstore 7, 2) := by decide +kernel
theorem dX5_lowest_6 : decode cX5_lowest 6 = .ok (.lload 7, 2) := by decide +kernel
theorem dX5_lowest_8 : decode cX5_lowest 8 = .ok (.lconst 0, 1) := by decide +kernel
theorem dX5_lowest_9 : decode cX5_lowest 9 = .ok (.lcmp, 1) := by decide +kernel
theorem dX5_lowest_10 : decode cX5_lowest 10 = .ok (.ifCond .eq 21, 3) := by decide +kernel
theorem dX5_lowest_13 : decode cX5_lowest 13 = .ok (.lload 5, 2) := by decide +kernel
theorem dX5_lowest_15 : decode cX5_lowest 15 = .ok (.lload 7, 2) := by decide +kernel
theorem dX5_lowest_17 : decode cX5_lowest 17 = .ok (.lrem, 1) := by decide +kernel
theorem dX5_lowest_18 : decode cX5_lowest 18 = .ok (.lstore 9, 2) := by decide +kernel
theorem dX5_lowest_20 : decode cX5_lowest 20 = .ok (.lload 7, 2) := by decide +kernel
theorem dX5_lowest_22 : decode cX5_lowest 22 = .ok (.lstore 5, 2) := by decide +kernel
theorem dX5_lowest_24 : decode cX5_lowest 24 = .ok (.lload 9, 2) := by decide +kernel
theorem dX5_lowest_26 : decode cX5_lowest 26 = .ok (.lstore 7, 2) := by decide +kernel
theorem dX5_lowest_28 : decode cX5_lowest 28 = .ok (.goto (-22), 3) := by decide +kernel
theorem dX5_lowest_31 : decode cX5_lowest 31 = .ok (.iload 4, 2) := by decide +kernel
theorem dX5_lowest_33 : decode cX5_lowest 33 = .ok (.ifCond .ne 7, 3) := by decide +kernel
theorem dX5_lowest_36 : decode cX5_lowest 36 = .ok (.lload_n 0, 1) := by decide +kernel
theorem dX5_lowest_37 : decode cX5_lowest 37 = .ok (.goto 4, 3) := by decide +kernel
theorem dX5_lowest_40 : decode cX5_lowest 40 = .ok (.lload_n 2, 1) := by decide +kernel
theorem dX5_lowest_41 : decode cX5_lowest 41 = .ok (.lload 5, 2) := by decide +kernel
theorem dX5_lowest_43 : decode cX5_lowest 43 = .ok (.ldiv, 1) := by decide +kernel
theorem dX5_lowest_44 : decode cX5_lowest 44 = .ok (.lreturn, 1) := by decide +kernel
theorem dX5_byMisses_0 : decode cX5_byMisses 0 = .ok (.lconst 0, 1) := by decide +kernel
theorem dX5_byMisses_1 : decode cX5_byMisses 1 = .ok (.lstore 5, 2) := by decide +kernel
theorem dX5_byMisses_3 : decode cX5_byMisses 3 = .ok (.lconst 1, 1) := by decide +kernel
theorem dX5_byMisses_4 : decode cX5_byMisses 4 = .ok (.lstore 7, 2) := by decide +kernel
theorem dX5_byMisses_6 : decode cX5_byMisses 6 = .ok (.iconst 0, 1) := by decide +kernel
theorem dX5_byMisses_7 : decode cX5_byMisses 7 = .ok (.istore 9, 2) := by decide +kernel
theorem dX5_byMisses_9 : decode cX5_byMisses 9 = .ok (.iload 9, 2) := by decide +kernel
theorem dX5_byMisses_11 : decode cX5_byMisses 11 = .ok (.iload_n 3, 1) := by decide +kernel
theorem dX5_byMisses_12 : decode cX5_byMisses 12 = .ok (.if_icmp .ge 17, 3) := by decide +kernel
theorem dX5_byMisses_15 : decode cX5_byMisses 15 = .ok (.lload 7, 2) := by decide +kernel
theorem dX5_byMisses_17 : decode cX5_byMisses 17 = .ok (.ldc2_w 224, 3) := by decide +kernel
theorem dX5_byMisses_20 : decode cX5_byMisses 20 = .ok (.lmul, 1) := by decide +kernel
theorem dX5_byMisses_21 : decode cX5_byMisses 21 = .ok (.lstore 7, 2) := by decide +kernel
theorem dX5_byMisses_23 : decode cX5_byMisses 23 = .ok (.iinc 9 1, 3) := by decide +kernel
theorem dX5_byMisses_26 : decode cX5_byMisses 26 = .ok (.goto (-17), 3) := by decide +kernel
theorem dX5_byMisses_29 : decode cX5_byMisses 29 = .ok (.iconst 0, 1) := by decide +kernel
theorem dX5_byMisses_30 : decode cX5_byMisses 30 = .ok (.istore 9, 2) := by decide +kernel
theorem dX5_byMisses_32 : decode cX5_byMisses 32 = .ok (.iload 9, 2) := by decide +kernel
theorem dX5_byMisses_34 : decode cX5_byMisses 34 = .ok (.iconst 1, 1) := by decide +kernel
theorem dX5_byMisses_35 : decode cX5_byMisses 35 = .ok (.iload_n 3, 1) := by decide +kernel
theorem dX5_byMisses_36 : decode cX5_byMisses 36 = .ok (.ishl, 1) := by decide +kernel
theorem dX5_byMisses_37 : decode cX5_byMisses 37 = .ok (.if_icmp .ge 132, 3) := by decide +kernel
theorem dX5_byMisses_40 : decode cX5_byMisses 40 = .ok (.lconst 1, 1) := by decide +kernel
theorem dX5_byMisses_41 : decode cX5_byMisses 41 = .ok (.lstore 10, 2) := by decide +kernel
theorem dX5_byMisses_43 : decode cX5_byMisses 43 = .ok (.aload_n 0, 1) := by decide +kernel
theorem dX5_byMisses_44 : decode cX5_byMisses 44 = .ok (.iconst 0, 1) := by decide +kernel
theorem dX5_byMisses_45 : decode cX5_byMisses 45 = .ok (.sipush 208, 3) := by decide +kernel
theorem dX5_byMisses_48 : decode cX5_byMisses 48 = .ok (.invokevirtual 205, 3) := by decide +kernel
theorem dX5_byMisses_51 : decode cX5_byMisses 51 = .ok (.iconst 0, 1) := by decide +kernel
theorem dX5_byMisses_52 : decode cX5_byMisses 52 = .ok (.istore 12, 2) := by decide +kernel
theorem dX5_byMisses_54 : decode cX5_byMisses 54 = .ok (.iload 12, 2) := by decide +kernel
theorem dX5_byMisses_56 : decode cX5_byMisses 56 = .ok (.iload_n 3, 1) := by decide +kernel
theorem dX5_byMisses_57 : decode cX5_byMisses 57 = .ok (.if_icmp .ge 56, 3) := by decide +kernel
theorem dX5_byMisses_60 : decode cX5_byMisses 60 = .ok (.iload 9, 2) := by decide +kernel
theorem dX5_byMisses_62 : decode cX5_byMisses 62 = .ok (.iload 12, 2) := by decide +kernel
theorem dX5_byMisses_64 : decode cX5_byMisses 64 = .ok (.ishr, 1) := by decide +kernel
theorem dX5_byMisses_65 : decode cX5_byMisses 65 = .ok (.iconst 1, 1) := by decide +kernel
theorem dX5_byMisses_66 : decode cX5_byMisses 66 = .ok (.iand, 1) := by decide +kernel
theorem dX5_byMisses_67 : decode cX5_byMisses 67 = .ok (.iconst 1, 1) := by decide +kernel
theorem dX5_byMisses_68 : decode cX5_byMisses 68 = .ok (.if_icmp .ne 7, 3) := by decide +kernel
theorem dX5_byMisses_71 : decode cX5_byMisses 71 = .ok (.iconst 1, 1) := by decide +kernel
theorem dX5_byMisses_72 : decode cX5_byMisses 72 = .ok (.goto 4, 3) := by decide +kernel
theorem dX5_byMisses_75 : decode cX5_byMisses 75 = .ok (.iconst 0, 1) := by decide +kernel
theorem dX5_byMisses_76 : decode cX5_byMisses 76 = .ok (.istore 13, 2) := by decide +kernel
theorem dX5_byMisses_78 : decode cX5_byMisses 78 = .ok (.lload 10, 2) := by decide +kernel
theorem dX5_byMisses_80 : decode cX5_byMisses 80 = .ok (.iload 13, 2) := by decide +kernel
theorem dX5_byMisses_82 : decode cX5_byMisses 82 = .ok (.ifCond .eq 8, 3) := by decide +kernel
theorem dX5_byMisses_85 : decode cX5_byMisses 85 = .ok (.iload_n 1, 1) := by decide +kernel
theorem dX5_byMisses_86 : decode cX5_byMisses 86 = .ok (.i2l, 1) := by decide +kernel
theorem dX5_byMisses_87 : decode cX5_byMisses 87 = .ok (.goto 8, 3) := by decide +kernel
theorem dX5_byMisses_90 : decode cX5_byMisses 90 = .ok (.bipush 10, 2) := by decide +kernel
theorem dX5_byMisses_92 : decode cX5_byMisses 92 = .ok (.iload_n 1, 1) := by decide +kernel
theorem dX5_byMisses_93 : decode cX5_byMisses 93 = .ok (.isub, 1) := by decide +kernel
theorem dX5_byMisses_94 : decode cX5_byMisses 94 = .ok (.i2l, 1) := by decide +kernel
theorem dX5_byMisses_95 : decode cX5_byMisses 95 = .ok (.lmul, 1) := by decide +kernel
theorem dX5_byMisses_96 : decode cX5_byMisses 96 = .ok (.lstore 10, 2) := by decide +kernel
theorem dX5_byMisses_98 : decode cX5_byMisses 98 = .ok (.aload_n 0, 1) := by decide +kernel
theorem dX5_byMisses_99 : decode cX5_byMisses 99 = .ok (.sipush 208, 3) := by decide +kernel
theorem dX5_byMisses_102 : decode cX5_byMisses 102 = .ok (.iload 13, 2) := by decide +kernel
theorem dX5_byMisses_104 : decode cX5_byMisses 104 = .ok (.invokevirtual 201, 3) := by decide +kernel
theorem dX5_byMisses_107 : decode cX5_byMisses 107 = .ok (.iinc 12 1, 3) := by decide +kernel
theorem dX5_byMisses_110 : decode cX5_byMisses 110 = .ok (.goto (-56), 3) := by decide +kernel
theorem dX5_byMisses_113 : decode cX5_byMisses 113 = .ok (.lload 5, 2) := by decide +kernel
theorem dX5_byMisses_115 : decode cX5_byMisses 115 = .ok (.lload 10, 2) := by decide +kernel
theorem dX5_byMisses_117 : decode cX5_byMisses 117 = .ok (.iload_n 2, 1) := by decide +kernel
theorem dX5_byMisses_118 : decode cX5_byMisses 118 = .ok (.bipush (-4), 2) := by decide +kernel
theorem dX5_byMisses_120 : decode cX5_byMisses 120 = .ok (.if_icmp .ne 22, 3) := by decide +kernel
theorem dX5_byMisses_123 : decode cX5_byMisses 123 = .ok (.aload_n 0, 1) := by decide +kernel
theorem dX5_byMisses_124 : decode cX5_byMisses 124 = .ok (.sipush 208, 3) := by decide +kernel
theorem dX5_byMisses_127 : decode cX5_byMisses 127 = .ok (.invokevirtual 158, 3) := by decide +kernel
theorem dX5_byMisses_130 : decode cX5_byMisses 130 = .ok (.aload_n 0, 1) := by decide +kernel
theorem dX5_byMisses_131 : decode cX5_byMisses 131 = .ok (.iconst 0, 1) := by decide +kernel
theorem dX5_byMisses_132 : decode cX5_byMisses 132 = .ok (.invokevirtual 158, 3) := by decide +kernel
theorem dX5_byMisses_135 : decode cX5_byMisses 135 = .ok (.isub, 1) := by decide +kernel
theorem dX5_byMisses_136 : decode cX5_byMisses 136 = .ok (.invokestatic 146, 3) := by decide +kernel
theorem dX5_byMisses_139 : decode cX5_byMisses 139 = .ok (.goto 19, 3) := by decide +kernel
theorem dX5_byMisses_142 : decode cX5_byMisses 142 = .ok (.aload_n 0, 1) := by decide +kernel
theorem dX5_byMisses_143 : decode cX5_byMisses 143 = .ok (.sipush 208, 3) := by decide +kernel
theorem dX5_byMisses_146 : decode cX5_byMisses 146 = .ok (.invokevirtual 158, 3) := by decide +kernel
theorem dX5_byMisses_149 : decode cX5_byMisses 149 = .ok (.iload_n 2, 1) := by decide +kernel
theorem dX5_byMisses_150 : decode cX5_byMisses 150 = .ok (.if_icmp .lt 7, 3) := by decide +kernel
theorem dX5_byMisses_153 : decode cX5_byMisses 153 = .ok (.iconst 1, 1) := by decide +kernel
theorem dX5_byMisses_154 : decode cX5_byMisses 154 = .ok (.goto 4, 3) := by decide +kernel
theorem dX5_byMisses_157 : decode cX5_byMisses 157 = .ok (.iconst 0, 1) := by decide +kernel
theorem dX5_byMisses_158 : decode cX5_byMisses 158 = .ok (.i2l, 1) := by decide +kernel
theorem dX5_byMisses_159 : decode cX5_byMisses 159 = .ok (.lmul, 1) := by decide +kernel
theorem dX5_byMisses_160 : decode cX5_byMisses 160 = .ok (.ladd, 1) := by decide +kernel
theorem dX5_byMisses_161 : decode cX5_byMisses 161 = .ok (.lstore 5, 2) := by decide +kernel
theorem dX5_byMisses_163 : decode cX5_byMisses 163 = .ok (.iinc 9 1, 3) := by decide +kernel
theorem dX5_byMisses_166 : decode cX5_byMisses 166 = .ok (.goto (-134), 3) := by decide +kernel
theorem dX5_byMisses_169 : decode cX5_byMisses 169 = .ok (.lload 5, 2) := by decide +kernel
theorem dX5_byMisses_171 : decode cX5_byMisses 171 = .ok (.lload 7, 2) := by decide +kernel
theorem dX5_byMisses_173 : decode cX5_byMisses 173 = .ok (.iload 4, 2) := by decide +kernel
theorem dX5_byMisses_175 : decode cX5_byMisses 175 = .ok (.invokestatic 226, 3) := by decide +kernel
theorem dX5_byMisses_178 : decode cX5_byMisses 178 = .ok (.lreturn, 1) := by decide +kernel
theorem dX5_luck_0 : decode cX5_luck 0 = .ok (.iload_n 1, 1) := by decide +kernel
theorem dX5_luck_1 : decode cX5_luck 1 = .ok (.i2l, 1) := by decide +kernel
theorem dX5_luck_2 : decode cX5_luck 2 = .ok (.lconst 0, 1) := by decide +kernel
theorem dX5_luck_3 : decode cX5_luck 3 = .ok (.ldc2_w 224, 3) := by decide +kernel
theorem dX5_luck_6 : decode cX5_luck 6 = .ok (.invokestatic 53, 3) := by decide +kernel
theorem dX5_luck_9 : decode cX5_luck 9 = .ok (.ifCond .eq 38, 3) := by decide +kernel
theorem dX5_luck_12 : decode cX5_luck 12 = .ok (.iload_n 2, 1) := by decide +kernel
theorem dX5_luck_13 : decode cX5_luck 13 = .ok (.i2l, 1) := by decide +kernel
theorem dX5_luck_14 : decode cX5_luck 14 = .ok (.lconst 0, 1) := by decide +kernel
theorem dX5_luck_15 : decode cX5_luck 15 = .ok (.ldc2_w 138, 3) := by decide +kernel
theorem dX5_luck_18 : decode cX5_luck 18 = .ok (.invokestatic 53, 3) := by decide +kernel
theorem dX5_luck_21 : decode cX5_luck 21 = .ok (.ifCond .eq 26, 3) := by decide +kernel
theorem dX5_luck_24 : decode cX5_luck 24 = .ok (.iload_n 3, 1) := by decide +kernel
theorem dX5_luck_25 : decode cX5_luck 25 = .ok (.i2l, 1) := by decide +kernel
theorem dX5_luck_26 : decode cX5_luck 26 = .ok (.lconst 0, 1) := by decide +kernel
theorem dX5_luck_27 : decode cX5_luck 27 = .ok (.ldc2_w 230, 3) := by decide +kernel
theorem dX5_luck_30 : decode cX5_luck 30 = .ok (.invokestatic 53, 3) := by decide +kernel
theorem dX5_luck_33 : decode cX5_luck 33 = .ok (.ifCond .eq 14, 3) := by decide +kernel
theorem dX5_luck_36 : decode cX5_luck 36 = .ok (.iload 4, 2) := by decide +kernel
theorem dX5_luck_38 : decode cX5_luck 38 = .ok (.i2l, 1) := by decide +kernel
theorem dX5_luck_39 : decode cX5_luck 39 = .ok (.lconst 0, 1) := by decide +kernel
theorem dX5_luck_40 : decode cX5_luck 40 = .ok (.lconst 1, 1) := by decide +kernel
theorem dX5_luck_41 : decode cX5_luck 41 = .ok (.invokestatic 53, 3) := by decide +kernel
theorem dX5_luck_44 : decode cX5_luck 44 = .ok (.ifCond .ne 7, 3) := by decide +kernel
theorem dX5_luck_47 : decode cX5_luck 47 = .ok (.ldc2_w 232, 3) := by decide +kernel
theorem dX5_luck_50 : decode cX5_luck 50 = .ok (.lreturn, 1) := by decide +kernel
theorem dX5_luck_51 : decode cX5_luck 51 = .ok (.aload_n 0, 1) := by decide +kernel
theorem dX5_luck_52 : decode cX5_luck 52 = .ok (.getfield 7, 3) := by decide +kernel
theorem dX5_luck_55 : decode cX5_luck 55 = .ok (.bipush 24, 2) := by decide +kernel
theorem dX5_luck_57 : decode cX5_luck 57 = .ok (.iaload, 1) := by decide +kernel
theorem dX5_luck_58 : decode cX5_luck 58 = .ok (.ifCond .ne 9, 3) := by decide +kernel
theorem dX5_luck_61 : decode cX5_luck 61 = .ok (.ldc2_w 234, 3) := by decide +kernel
theorem dX5_luck_64 : decode cX5_luck 64 = .ok (.goto 12, 3) := by decide +kernel
theorem dX5_luck_67 : decode cX5_luck 67 = .ok (.aload_n 0, 1) := by decide +kernel
theorem dX5_luck_68 : decode cX5_luck 68 = .ok (.iload_n 1, 1) := by decide +kernel
theorem dX5_luck_69 : decode cX5_luck 69 = .ok (.iload_n 2, 1) := by decide +kernel
theorem dX5_luck_70 : decode cX5_luck 70 = .ok (.iload_n 3, 1) := by decide +kernel
theorem dX5_luck_71 : decode cX5_luck 71 = .ok (.iload 4, 2) := by decide +kernel
theorem dX5_luck_73 : decode cX5_luck 73 = .ok (.invokevirtual 236, 3) := by decide +kernel
theorem dX5_luck_76 : decode cX5_luck 76 = .ok (.lreturn, 1) := by decide +kernel
theorem dX5_mean_0 : decode cX5_mean 0 = .ok (.iload_n 1, 1) := by decide +kernel
theorem dX5_mean_1 : decode cX5_mean 1 = .ok (.i2l, 1) := by decide +kernel
theorem dX5_mean_2 : decode cX5_mean 2 = .ok (.lconst 0, 1) := by decide +kernel
theorem dX5_mean_3 : decode cX5_mean 3 = .ok (.ldc2_w 224, 3) := by decide +kernel
theorem dX5_mean_6 : decode cX5_mean 6 = .ok (.invokestatic 53, 3) := by decide +kernel
theorem dX5_mean_9 : decode cX5_mean 9 = .ok (.ifCond .eq 25, 3) := by decide +kernel
theorem dX5_mean_12 : decode cX5_mean 12 = .ok (.iload_n 2, 1) := by decide +kernel
theorem dX5_mean_13 : decode cX5_mean 13 = .ok (.i2l, 1) := by decide +kernel
theorem dX5_mean_14 : decode cX5_mean 14 = .ok (.lconst 0, 1) := by decide +kernel
theorem dX5_mean_15 : decode cX5_mean 15 = .ok (.ldc2_w 230, 3) := by decide +kernel
theorem dX5_mean_18 : decode cX5_mean 18 = .ok (.invokestatic 53, 3) := by decide +kernel
theorem dX5_mean_21 : decode cX5_mean 21 = .ok (.ifCond .eq 13, 3) := by decide +kernel
theorem dX5_mean_24 : decode cX5_mean 24 = .ok (.iload_n 3, 1) := by decide +kernel
theorem dX5_mean_25 : decode cX5_mean 25 = .ok (.i2l, 1) := by decide +kernel
theorem dX5_mean_26 : decode cX5_mean 26 = .ok (.lconst 0, 1) := by decide +kernel
theorem dX5_mean_27 : decode cX5_mean 27 = .ok (.lconst 1, 1) := by decide +kernel
theorem dX5_mean_28 : decode cX5_mean 28 = .ok (.invokestatic 53, 3) := by decide +kernel
theorem dX5_mean_31 : decode cX5_mean 31 = .ok (.ifCond .ne 7, 3) := by decide +kernel
theorem dX5_mean_34 : decode cX5_mean 34 = .ok (.ldc2_w 232, 3) := by decide +kernel
theorem dX5_mean_37 : decode cX5_mean 37 = .ok (.lreturn, 1) := by decide +kernel
theorem dX5_mean_38 : decode cX5_mean 38 = .ok (.aload_n 0, 1) := by decide +kernel
theorem dX5_mean_39 : decode cX5_mean 39 = .ok (.iload_n 1, 1) := by decide +kernel
theorem dX5_mean_40 : decode cX5_mean 40 = .ok (.bipush (-4), 2) := by decide +kernel
theorem dX5_mean_42 : decode cX5_mean 42 = .ok (.iload_n 2, 1) := by decide +kernel
theorem dX5_mean_43 : decode cX5_mean 43 = .ok (.iload_n 3, 1) := by decide +kernel
theorem dX5_mean_44 : decode cX5_mean 44 = .ok (.invokevirtual 236, 3) := by decide +kernel
theorem dX5_mean_47 : decode cX5_mean 47 = .ok (.lreturn, 1) := by decide +kernel
theorem dX5_see_0 : decode cX5_see 0 = .ok (.iload_n 1, 1) := by decide +kernel
theorem dX5_see_1 : decode cX5_see 1 = .ok (.i2l, 1) := by decide +kernel
theorem dX5_see_2 : decode cX5_see 2 = .ok (.lconst 0, 1) := by decide +kernel
theorem dX5_see_3 : decode cX5_see 3 = .ok (.ldc2_w 240, 3) := by decide +kernel
theorem dX5_see_6 : decode cX5_see 6 = .ok (.invokestatic 53, 3) := by decide +kernel
theorem dX5_see_9 : decode cX5_see 9 = .ok (.ifCond .eq 23, 3) := by decide +kernel
theorem dX5_see_12 : decode cX5_see 12 = .ok (.aload_n 0, 1) := by decide +kernel
theorem dX5_see_13 : decode cX5_see 13 = .ok (.iload_n 2, 1) := by decide +kernel
theorem dX5_see_14 : decode cX5_see 14 = .ok (.invokevirtual 171, 3) := by decide +kernel
theorem dX5_see_17 : decode cX5_see 17 = .ok (.ifCond .eq 15, 3) := by decide +kernel
theorem dX5_see_20 : decode cX5_see 20 = .ok (.iload_n 3, 1) := by decide +kernel
theorem dX5_see_21 : decode cX5_see 21 = .ok (.i2l, 1) := by decide +kernel
theorem dX5_see_22 : decode cX5_see 22 = .ok (.lconst 0, 1) := by decide +kernel
theorem dX5_see_23 : decode cX5_see 23 = .ok (.ldc2_w 138, 3) := by decide +kernel
theorem dX5_see_26 : decode cX5_see 26 = .ok (.invokestatic 53, 3) := by decide +kernel
theorem dX5_see_29 : decode cX5_see 29 = .ok (.ifCond .ne 5, 3) := by decide +kernel
theorem dX5_see_32 : decode cX5_see 32 = .ok (.iconst (-1), 1) := by decide +kernel
theorem dX5_see_33 : decode cX5_see 33 = .ok (.ireturn, 1) := by decide +kernel
theorem dX5_see_34 : decode cX5_see 34 = .ok (.aload_n 0, 1) := by decide +kernel
theorem dX5_see_35 : decode cX5_see 35 = .ok (.getfield 120, 3) := by decide +kernel
theorem dX5_see_38 : decode cX5_see 38 = .ok (.bipush 6, 2) := by decide +kernel
theorem dX5_see_40 : decode cX5_see 40 = .ok (.if_icmp .ne 6, 3) := by decide +kernel
theorem dX5_see_43 : decode cX5_see 43 = .ok (.bipush (-3), 2) := by decide +kernel
theorem dX5_see_45 : decode cX5_see 45 = .ok (.ireturn, 1) := by decide +kernel
theorem dX5_see_46 : decode cX5_see 46 = .ok (.aload_n 0, 1) := by decide +kernel
theorem dX5_see_47 : decode cX5_see 47 = .ok (.getfield 32, 3) := by decide +kernel
theorem dX5_see_50 : decode cX5_see 50 = .ok (.iconst 3, 1) := by decide +kernel
theorem dX5_see_51 : decode cX5_see 51 = .ok (.aload_n 0, 1) := by decide +kernel
theorem dX5_see_52 : decode cX5_see 52 = .ok (.getfield 120, 3) := by decide +kernel
theorem dX5_see_55 : decode cX5_see 55 = .ok (.imul, 1) := by decide +kernel
theorem dX5_see_56 : decode cX5_see 56 = .ok (.iload_n 1, 1) := by decide +kernel
theorem dX5_see_57 : decode cX5_see 57 = .ok (.iastore, 1) := by decide +kernel
theorem dX5_see_58 : decode cX5_see 58 = .ok (.aload_n 0, 1) := by decide +kernel
theorem dX5_see_59 : decode cX5_see 59 = .ok (.getfield 32, 3) := by decide +kernel
theorem dX5_see_62 : decode cX5_see 62 = .ok (.iconst 3, 1) := by decide +kernel
theorem dX5_see_63 : decode cX5_see 63 = .ok (.aload_n 0, 1) := by decide +kernel
theorem dX5_see_64 : decode cX5_see 64 = .ok (.getfield 120, 3) := by decide +kernel
theorem dX5_see_67 : decode cX5_see 67 = .ok (.imul, 1) := by decide +kernel
theorem dX5_see_68 : decode cX5_see 68 = .ok (.iconst 1, 1) := by decide +kernel
theorem dX5_see_69 : decode cX5_see 69 = .ok (.iadd, 1) := by decide +kernel
theorem dX5_see_70 : decode cX5_see 70 = .ok (.iload_n 2, 1) := by decide +kernel
theorem dX5_see_71 : decode cX5_see 71 = .ok (.iastore, 1) := by decide +kernel
theorem dX5_see_72 : decode cX5_see 72 = .ok (.aload_n 0, 1) := by decide +kernel
theorem dX5_see_73 : decode cX5_see 73 = .ok (.getfield 32, 3) := by decide +kernel
theorem dX5_see_76 : decode cX5_see 76 = .ok (.iconst 3, 1) := by decide +kernel
theorem dX5_see_77 : decode cX5_see 77 = .ok (.aload_n 0, 1) := by decide +kernel
theorem dX5_see_78 : decode cX5_see 78 = .ok (.getfield 120, 3) := by decide +kernel
theorem dX5_see_81 : decode cX5_see 81 = .ok (.imul, 1) := by decide +kernel
theorem dX5_see_82 : decode cX5_see 82 = .ok (.iconst 2, 1) := by decide +kernel
theorem dX5_see_83 : decode cX5_see 83 = .ok (.iadd, 1) := by decide +kernel
theorem dX5_see_84 : decode cX5_see 84 = .ok (.iload_n 3, 1) := by decide +kernel
theorem dX5_see_85 : decode cX5_see 85 = .ok (.iastore, 1) := by decide +kernel
theorem dX5_see_86 : decode cX5_see 86 = .ok (.aload_n 0, 1) := by decide +kernel
theorem dX5_see_87 : decode cX5_see 87 = .ok (.dup, 1) := by decide +kernel
theorem dX5_see_88 : decode cX5_see 88 = .ok (.getfield 120, 3) := by decide +kernel
theorem dX5_see_91 : decode cX5_see 91 = .ok (.iconst 1, 1) := by decide +kernel
theorem dX5_see_92 : decode cX5_see 92 = .ok (.iadd, 1) := by decide +kernel
theorem dX5_see_93 : decode cX5_see 93 = .ok (.putfield 120, 3) := by decide +kernel
theorem dX5_see_96 : decode cX5_see 96 = .ok (.aload_n 0, 1) := by decide +kernel
theorem dX5_see_97 : decode cX5_see 97 = .ok (.getfield 120, 3) := by decide +kernel
theorem dX5_see_100 : decode cX5_see 100 = .ok (.ireturn, 1) := by decide +kernel
theorem dX5_forget_0 : decode cX5_forget 0 = .ok (.iload_n 1, 1) := by decide +kernel
theorem dX5_forget_1 : decode cX5_forget 1 = .ok (.i2l, 1) := by decide +kernel
theorem dX5_forget_2 : decode cX5_forget 2 = .ok (.lconst 0, 1) := by decide +kernel
theorem dX5_forget_3 : decode cX5_forget 3 = .ok (.aload_n 0, 1) := by decide +kernel
theorem dX5_forget_4 : decode cX5_forget 4 = .ok (.getfield 120, 3) := by decide +kernel
theorem dX5_forget_7 : decode cX5_forget 7 = .ok (.i2l, 1) := by decide +kernel
theorem dX5_forget_8 : decode cX5_forget 8 = .ok (.invokestatic 53, 3) := by decide +kernel
theorem dX5_forget_11 : decode cX5_forget 11 = .ok (.ifCond .ne 5, 3) := by decide +kernel
theorem dX5_forget_14 : decode cX5_forget 14 = .ok (.iconst (-1), 1) := by decide +kernel
theorem dX5_forget_15 : decode cX5_forget 15 = .ok (.ireturn, 1) := by decide +kernel
theorem dX5_forget_16 : decode cX5_forget 16 = .ok (.aload_n 0, 1) := by decide +kernel
theorem dX5_forget_17 : decode cX5_forget 17 = .ok (.getfield 120, 3) := by decide +kernel
theorem dX5_forget_20 : decode cX5_forget 20 = .ok (.istore_n 2, 1) := by decide +kernel
theorem dX5_forget_21 : decode cX5_forget 21 = .ok (.aload_n 0, 1) := by decide +kernel
theorem dX5_forget_22 : decode cX5_forget 22 = .ok (.iload_n 1, 1) := by decide +kernel
theorem dX5_forget_23 : decode cX5_forget 23 = .ok (.putfield 120, 3) := by decide +kernel
theorem dX5_forget_26 : decode cX5_forget 26 = .ok (.iload_n 2, 1) := by decide +kernel
theorem dX5_forget_27 : decode cX5_forget 27 = .ok (.ireturn, 1) := by decide +kernel
theorem dX5_isAsSeen_0 : decode cX5_isAsSeen 0 = .ok (.aload_n 0, 1) := by decide +kernel
theorem dX5_isAsSeen_1 : decode cX5_isAsSeen 1 = .ok (.sipush 260, 3) := by decide +kernel
theorem dX5_isAsSeen_4 : decode cX5_isAsSeen 4 = .ok (.sipush 208, 3) := by decide +kernel
theorem dX5_isAsSeen_7 : decode cX5_isAsSeen 7 = .ok (.invokevirtual 205, 3) := by decide +kernel
theorem dX5_isAsSeen_10 : decode cX5_isAsSeen 10 = .ok (.iconst 1, 1) := by decide +kernel
theorem dX5_isAsSeen_11 : decode cX5_isAsSeen 11 = .ok (.istore_n 3, 1) := by decide +kernel
theorem dX5_isAsSeen_12 : decode cX5_isAsSeen 12 = .ok (.iconst 0, 1) := by decide +kernel
theorem dX5_isAsSeen_13 : decode cX5_isAsSeen 13 = .ok (.istore 4, 2) := by decide +kernel
theorem dX5_isAsSeen_15 : decode cX5_isAsSeen 15 = .ok (.iload 4, 2) := by decide +kernel
theorem dX5_isAsSeen_17 : decode cX5_isAsSeen 17 = .ok (.bipush 40, 2) := by decide +kernel
theorem dX5_isAsSeen_19 : decode cX5_isAsSeen 19 = .ok (.if_icmp .gt 143, 3) := by decide +kernel
theorem dX5_isAsSeen_22 : decode cX5_isAsSeen 22 = .ok (.aload_n 0, 1) := by decide +kernel
theorem dX5_isAsSeen_23 : decode cX5_isAsSeen 23 = .ok (.getfield 35, 3) := by decide +kernel
theorem dX5_isAsSeen_26 : decode cX5_isAsSeen 26 = .ok (.bipush 41, 2) := by decide +kernel
theorem dX5_isAsSeen_28 : decode cX5_isAsSeen 28 = .ok (.iload_n 1, 1) := by decide +kernel
theorem dX5_isAsSeen_29 : decode cX5_isAsSeen 29 = .ok (.imul, 1) := by decide +kernel
theorem dX5_isAsSeen_30 : decode cX5_isAsSeen 30 = .ok (.iload 4, 2) := by decide +kernel
theorem dX5_isAsSeen_32 : decode cX5_isAsSeen 32 = .ok (.iadd, 1) := by decide +kernel
theorem dX5_isAsSeen_33 : decode cX5_isAsSeen 33 = .ok (.aload_n 0, 1) := by decide +kernel
theorem dX5_isAsSeen_34 : decode cX5_isAsSeen 34 = .ok (.getfield 7, 3) := by decide +kernel
theorem dX5_isAsSeen_37 : decode cX5_isAsSeen 37 = .ok (.sipush 224, 3) := by decide +kernel
theorem dX5_isAsSeen_40 : decode cX5_isAsSeen 40 = .ok (.iload_n 2, 1) := by decide +kernel
theorem dX5_isAsSeen_41 : decode cX5_isAsSeen 41 = .ok (.iadd, 1) := by decide +kernel
theorem dX5_isAsSeen_42 : decode cX5_isAsSeen 42 = .ok (.iaload, 1) := by decide +kernel
theorem dX5_isAsSeen_43 : decode cX5_isAsSeen 43 = .ok (.iastore, 1) := by decide +kernel
theorem dX5_isAsSeen_44 : decode cX5_isAsSeen 44 = .ok (.iconst 0, 1) := by decide +kernel
theorem dX5_isAsSeen_45 : decode cX5_isAsSeen 45 = .ok (.istore 5, 2) := by decide +kernel
theorem dX5_isAsSeen_47 : decode cX5_isAsSeen 47 = .ok (.iload 5, 2) := by decide +kernel
theorem dX5_isAsSeen_49 : decode cX5_isAsSeen 49 = .ok (.aload_n 0, 1) := by decide +kernel
theorem dX5_isAsSeen_50 : decode cX5_isAsSeen 50 = .ok (.getfield 120, 3) := by decide +kernel
theorem dX5_isAsSeen_53 : decode cX5_isAsSeen 53 = .ok (.if_icmp .ge 95, 3) := by decide +kernel
theorem dX5_isAsSeen_56 : decode cX5_isAsSeen 56 = .ok (.aload_n 0, 1) := by decide +kernel
theorem dX5_isAsSeen_57 : decode cX5_isAsSeen 57 = .ok (.getfield 32, 3) := by decide +kernel
theorem dX5_isAsSeen_60 : decode cX5_isAsSeen 60 = .ok (.iconst 3, 1) := by decide +kernel
theorem dX5_isAsSeen_61 : decode cX5_isAsSeen 61 = .ok (.iload 5, 2) := by decide +kernel
theorem dX5_isAsSeen_63 : decode cX5_isAsSeen 63 = .ok (.imul, 1) := by decide +kernel
theorem dX5_isAsSeen_64 : decode cX5_isAsSeen 64 = .ok (.iconst 1, 1) := by decide +kernel
theorem dX5_isAsSeen_65 : decode cX5_isAsSeen 65 = .ok (.iadd, 1) := by decide +kernel
theorem dX5_isAsSeen_66 : decode cX5_isAsSeen 66 = .ok (.iaload, 1) := by decide +kernel
theorem dX5_isAsSeen_67 : decode cX5_isAsSeen 67 = .ok (.istore 6, 2) := by decide +kernel
theorem dX5_isAsSeen_69 : decode cX5_isAsSeen 69 = .ok (.iload 6, 2) := by decide +kernel
theorem dX5_isAsSeen_71 : decode cX5_isAsSeen 71 = .ok (.aload_n 0, 1) := by decide +kernel
theorem dX5_isAsSeen_72 : decode cX5_isAsSeen 72 = .ok (.getfield 7, 3) := by decide +kernel
theorem dX5_isAsSeen_75 : decode cX5_isAsSeen 75 = .ok (.bipush 24, 2) := by decide +kernel
theorem dX5_isAsSeen_77 : decode cX5_isAsSeen 77 = .ok (.iaload, 1) := by decide +kernel
theorem dX5_isAsSeen_78 : decode cX5_isAsSeen 78 = .ok (.if_icmp .ge 32, 3) := by decide +kernel
theorem dX5_isAsSeen_81 : decode cX5_isAsSeen 81 = .ok (.aload_n 0, 1) := by decide +kernel
theorem dX5_isAsSeen_82 : decode cX5_isAsSeen 82 = .ok (.getfield 7, 3) := by decide +kernel
theorem dX5_isAsSeen_85 : decode cX5_isAsSeen 85 = .ok (.sipush 224, 3) := by decide +kernel
theorem dX5_isAsSeen_88 : decode cX5_isAsSeen 88 = .ok (.iload 6, 2) := by decide +kernel
theorem dX5_isAsSeen_90 : decode cX5_isAsSeen 90 = .ok (.iadd, 1) := by decide +kernel
theorem dX5_isAsSeen_91 : decode cX5_isAsSeen 91 = .ok (.iaload, 1) := by decide +kernel
theorem dX5_isAsSeen_92 : decode cX5_isAsSeen 92 = .ok (.aload_n 0, 1) := by decide +kernel
theorem dX5_isAsSeen_93 : decode cX5_isAsSeen 93 = .ok (.getfield 32, 3) := by decide +kernel
theorem dX5_isAsSeen_96 : decode cX5_isAsSeen 96 = .ok (.iconst 3, 1) := by decide +kernel
theorem dX5_isAsSeen_97 : decode cX5_isAsSeen 97 = .ok (.iload 5, 2) := by decide +kernel
theorem dX5_isAsSeen_99 : decode cX5_isAsSeen 99 = .ok (.imul, 1) := by decide +kernel
theorem dX5_isAsSeen_100 : decode cX5_isAsSeen 100 = .ok (.iconst 2, 1) := by decide +kernel
theorem dX5_isAsSeen_101 : decode cX5_isAsSeen 101 = .ok (.iadd, 1) := by decide +kernel
theorem dX5_isAsSeen_102 : decode cX5_isAsSeen 102 = .ok (.iaload, 1) := by decide +kernel
theorem dX5_isAsSeen_103 : decode cX5_isAsSeen 103 = .ok (.if_icmp .ne 7, 3) := by decide +kernel
theorem dX5_isAsSeen_106 : decode cX5_isAsSeen 106 = .ok (.iconst 1, 1) := by decide +kernel
theorem dX5_isAsSeen_107 : decode cX5_isAsSeen 107 = .ok (.goto 4, 3) := by decide +kernel
theorem dX5_isAsSeen_110 : decode cX5_isAsSeen 110 = .ok (.iconst 0, 1) := by decide +kernel
theorem dX5_isAsSeen_111 : decode cX5_isAsSeen 111 = .ok (.istore 7, 2) := by decide +kernel
theorem dX5_isAsSeen_113 : decode cX5_isAsSeen 113 = .ok (.iload_n 3, 1) := by decide +kernel
theorem dX5_isAsSeen_114 : decode cX5_isAsSeen 114 = .ok (.ifCond .eq 26, 3) := by decide +kernel
theorem dX5_isAsSeen_117 : decode cX5_isAsSeen 117 = .ok (.aload_n 0, 1) := by decide +kernel
theorem dX5_isAsSeen_118 : decode cX5_isAsSeen 118 = .ok (.getfield 32, 3) := by decide +kernel
theorem dX5_isAsSeen_121 : decode cX5_isAsSeen 121 = .ok (.iconst 3, 1) := by decide +kernel
theorem dX5_isAsSeen_122 : decode cX5_isAsSeen 122 = .ok (.iload 5, 2) := by decide +kernel
theorem dX5_isAsSeen_124 : decode cX5_isAsSeen 124 = .ok (.imul, 1) := by decide +kernel
theorem dX5_isAsSeen_125 : decode cX5_isAsSeen 125 = .ok (.iaload, 1) := by decide +kernel
theorem dX5_isAsSeen_126 : decode cX5_isAsSeen 126 = .ok (.iload 4, 2) := by decide +kernel
theorem dX5_isAsSeen_128 : decode cX5_isAsSeen 128 = .ok (.if_icmp .ne 8, 3) := by decide +kernel
theorem dX5_isAsSeen_131 : decode cX5_isAsSeen 131 = .ok (.iload 7, 2) := by decide +kernel
theorem dX5_isAsSeen_133 : decode cX5_isAsSeen 133 = .ok (.ifCond .eq 7, 3) := by decide +kernel
theorem dX5_isAsSeen_136 : decode cX5_isAsSeen 136 = .ok (.iconst 1, 1) := by decide +kernel
theorem dX5_isAsSeen_137 : decode cX5_isAsSeen 137 = .ok (.goto 4, 3) := by decide +kernel
theorem dX5_isAsSeen_140 : decode cX5_isAsSeen 140 = .ok (.iconst 0, 1) := by decide +kernel
theorem dX5_isAsSeen_141 : decode cX5_isAsSeen 141 = .ok (.istore_n 3, 1) := by decide +kernel
theorem dX5_isAsSeen_142 : decode cX5_isAsSeen 142 = .ok (.iinc 5 1, 3) := by decide +kernel
theorem dX5_isAsSeen_145 : decode cX5_isAsSeen 145 = .ok (.goto (-98), 3) := by decide +kernel
theorem dX5_isAsSeen_148 : decode cX5_isAsSeen 148 = .ok (.aload_n 0, 1) := by decide +kernel
theorem dX5_isAsSeen_149 : decode cX5_isAsSeen 149 = .ok (.sipush 208, 3) := by decide +kernel
theorem dX5_isAsSeen_152 : decode cX5_isAsSeen 152 = .ok (.iconst 0, 1) := by decide +kernel
theorem dX5_isAsSeen_153 : decode cX5_isAsSeen 153 = .ok (.invokevirtual 201, 3) := by decide +kernel
theorem dX5_isAsSeen_156 : decode cX5_isAsSeen 156 = .ok (.iinc 4 1, 3) := by decide +kernel
theorem dX5_isAsSeen_159 : decode cX5_isAsSeen 159 = .ok (.goto (-144), 3) := by decide +kernel
theorem dX5_isAsSeen_162 : decode cX5_isAsSeen 162 = .ok (.iload_n 3, 1) := by decide +kernel
theorem dX5_isAsSeen_163 : decode cX5_isAsSeen 163 = .ok (.ireturn, 1) := by decide +kernel
theorem dX5_numbersAt_0 : decode cX5_numbersAt 0 = .ok (.iconst 0, 1) := by decide +kernel
theorem dX5_numbersAt_1 : decode cX5_numbersAt 1 = .ok (.istore 4, 2) := by decide +kernel
theorem dX5_numbersAt_3 : decode cX5_numbersAt 3 = .ok (.aload_n 0, 1) := by decide +kernel
theorem dX5_numbersAt_4 : decode cX5_numbersAt 4 = .ok (.iconst 0, 1) := by decide +kernel
theorem dX5_numbersAt_5 : decode cX5_numbersAt 5 = .ok (.sipush 260, 3) := by decide +kernel
theorem dX5_numbersAt_8 : decode cX5_numbersAt 8 = .ok (.invokevirtual 205, 3) := by decide +kernel
theorem dX5_numbersAt_11 : decode cX5_numbersAt 11 = .ok (.iconst 0, 1) := by decide +kernel
theorem dX5_numbersAt_12 : decode cX5_numbersAt 12 = .ok (.istore 5, 2) := by decide +kernel
theorem dX5_numbersAt_14 : decode cX5_numbersAt 14 = .ok (.iload 5, 2) := by decide +kernel
theorem dX5_numbersAt_16 : decode cX5_numbersAt 16 = .ok (.iload_n 3, 1) := by decide +kernel
theorem dX5_numbersAt_17 : decode cX5_numbersAt 17 = .ok (.if_icmp .ge 44, 3) := by decide +kernel
theorem dX5_numbersAt_20 : decode cX5_numbersAt 20 = .ok (.aload_n 0, 1) := by decide +kernel
theorem dX5_numbersAt_21 : decode cX5_numbersAt 21 = .ok (.getfield 7, 3) := by decide +kernel
theorem dX5_numbersAt_24 : decode cX5_numbersAt 24 = .ok (.sipush 260, 3) := by decide +kernel
theorem dX5_numbersAt_27 : decode cX5_numbersAt 27 = .ok (.iload_n 1, 1) := by decide +kernel
theorem dX5_numbersAt_28 : decode cX5_numbersAt 28 = .ok (.iadd, 1) := by decide +kernel
theorem dX5_numbersAt_29 : decode cX5_numbersAt 29 = .ok (.iload 5, 2) := by decide +kernel
theorem dX5_numbersAt_31 : decode cX5_numbersAt 31 = .ok (.iastore, 1) := by decide +kernel
theorem dX5_numbersAt_32 : decode cX5_numbersAt 32 = .ok (.iload 4, 2) := by decide +kernel
theorem dX5_numbersAt_34 : decode cX5_numbersAt 34 = .ok (.aload_n 0, 1) := by decide +kernel
theorem dX5_numbersAt_35 : decode cX5_numbersAt 35 = .ok (.iload 5, 2) := by decide +kernel
theorem dX5_numbersAt_37 : decode cX5_numbersAt 37 = .ok (.iload_n 2, 1) := by decide +kernel
theorem dX5_numbersAt_38 : decode cX5_numbersAt 38 = .ok (.invokevirtual 242, 3) := by decide +kernel
theorem dX5_numbersAt_41 : decode cX5_numbersAt 41 = .ok (.ifCond .eq 10, 3) := by decide +kernel
theorem dX5_numbersAt_44 : decode cX5_numbersAt 44 = .ok (.iconst 1, 1) := by decide +kernel
theorem dX5_numbersAt_45 : decode cX5_numbersAt 45 = .ok (.iload 5, 2) := by decide +kernel
theorem dX5_numbersAt_47 : decode cX5_numbersAt 47 = .ok (.ishl, 1) := by decide +kernel
theorem dX5_numbersAt_48 : decode cX5_numbersAt 48 = .ok (.goto 4, 3) := by decide +kernel
theorem dX5_numbersAt_51 : decode cX5_numbersAt 51 = .ok (.iconst 0, 1) := by decide +kernel
theorem dX5_numbersAt_52 : decode cX5_numbersAt 52 = .ok (.ior, 1) := by decide +kernel
theorem dX5_numbersAt_53 : decode cX5_numbersAt 53 = .ok (.istore 4, 2) := by decide +kernel
theorem dX5_numbersAt_55 : decode cX5_numbersAt 55 = .ok (.iinc 5 1, 3) := by decide +kernel
theorem dX5_numbersAt_58 : decode cX5_numbersAt 58 = .ok (.goto (-44), 3) := by decide +kernel
theorem dX5_numbersAt_61 : decode cX5_numbersAt 61 = .ok (.iload 4, 2) := by decide +kernel
theorem dX5_numbersAt_63 : decode cX5_numbersAt 63 = .ok (.ireturn, 1) := by decide +kernel
theorem dX5_kinds_0 : decode cX5_kinds 0 = .ok (.aload_n 0, 1) := by decide +kernel
theorem dX5_kinds_1 : decode cX5_kinds 1 = .ok (.iload_n 1, 1) := by decide +kernel
theorem dX5_kinds_2 : decode cX5_kinds 2 = .ok (.invokevirtual 171, 3) := by decide +kernel
theorem dX5_kinds_5 : decode cX5_kinds 5 = .ok (.ifCond .eq 13, 3) := by decide +kernel
theorem dX5_kinds_8 : decode cX5_kinds 8 = .ok (.aload_n 0, 1) := by decide +kernel
theorem dX5_kinds_9 : decode cX5_kinds 9 = .ok (.iload_n 1, 1) := by decide +kernel
theorem dX5_kinds_10 : decode cX5_kinds 10 = .ok (.iload_n 1, 1) := by decide +kernel
theorem dX5_kinds_11 : decode cX5_kinds 11 = .ok (.iconst 4, 1) := by decide +kernel
theorem dX5_kinds_12 : decode cX5_kinds 12 = .ok (.invokevirtual 245, 3) := by decide +kernel
theorem dX5_kinds_15 : decode cX5_kinds 15 = .ok (.goto 4, 3) := by decide +kernel
theorem dX5_kinds_18 : decode cX5_kinds 18 = .ok (.iconst (-1), 1) := by decide +kernel
theorem dX5_kinds_19 : decode cX5_kinds 19 = .ok (.ireturn, 1) := by decide +kernel
theorem dX5_stiffs_0 : decode cX5_stiffs 0 = .ok (.aload_n 0, 1) := by decide +kernel
theorem dX5_stiffs_1 : decode cX5_stiffs 1 = .ok (.iload_n 1, 1) := by decide +kernel
theorem dX5_stiffs_2 : decode cX5_stiffs 2 = .ok (.invokevirtual 171, 3) := by decide +kernel
theorem dX5_stiffs_5 : decode cX5_stiffs 5 = .ok (.ifCond .eq 17, 3) := by decide +kernel
theorem dX5_stiffs_8 : decode cX5_stiffs 8 = .ok (.aload_n 0, 1) := by decide +kernel
theorem dX5_stiffs_9 : decode cX5_stiffs 9 = .ok (.bipush 8, 2) := by decide +kernel
theorem dX5_stiffs_11 : decode cX5_stiffs 11 = .ok (.iload_n 1, 1) := by decide +kernel
theorem dX5_stiffs_12 : decode cX5_stiffs 12 = .ok (.iadd, 1) := by decide +kernel
theorem dX5_stiffs_13 : decode cX5_stiffs 13 = .ok (.iload_n 1, 1) := by decide +kernel
theorem dX5_stiffs_14 : decode cX5_stiffs 14 = .ok (.bipush 10, 2) := by decide +kernel
theorem dX5_stiffs_16 : decode cX5_stiffs 16 = .ok (.invokevirtual 245, 3) := by decide +kernel
theorem dX5_stiffs_19 : decode cX5_stiffs 19 = .ok (.goto 4, 3) := by decide +kernel
theorem dX5_stiffs_22 : decode cX5_stiffs 22 = .ok (.iconst (-1), 1) := by decide +kernel
theorem dX5_stiffs_23 : decode cX5_stiffs 23 = .ok (.ireturn, 1) := by decide +kernel
theorem dX5_worstAt_0 : decode cX5_worstAt 0 = .ok (.iconst 0, 1) := by decide +kernel
theorem dX5_worstAt_1 : decode cX5_worstAt 1 = .ok (.istore_n 3, 1) := by decide +kernel
theorem dX5_worstAt_2 : decode cX5_worstAt 2 = .ok (.iconst 0, 1) := by decide +kernel
theorem dX5_worstAt_3 : decode cX5_worstAt 3 = .ok (.istore 4, 2) := by decide +kernel
theorem dX5_worstAt_5 : decode cX5_worstAt 5 = .ok (.iload 4, 2) := by decide +kernel
theorem dX5_worstAt_7 : decode cX5_worstAt 7 = .ok (.bipush 9, 2) := by decide +kernel
theorem dX5_worstAt_9 : decode cX5_worstAt 9 = .ok (.if_icmp .gt 98, 3) := by decide +kernel
theorem dX5_worstAt_12 : decode cX5_worstAt 12 = .ok (.iconst 0, 1) := by decide +kernel
theorem dX5_worstAt_13 : decode cX5_worstAt 13 = .ok (.istore 5, 2) := by decide +kernel
theorem dX5_worstAt_15 : decode cX5_worstAt 15 = .ok (.iconst 0, 1) := by decide +kernel
theorem dX5_worstAt_16 : decode cX5_worstAt 16 = .ok (.istore 6, 2) := by decide +kernel
theorem dX5_worstAt_18 : decode cX5_worstAt 18 = .ok (.iload 6, 2) := by decide +kernel
theorem dX5_worstAt_20 : decode cX5_worstAt 20 = .ok (.bipush 9, 2) := by decide +kernel
theorem dX5_worstAt_22 : decode cX5_worstAt 22 = .ok (.if_icmp .gt 66, 3) := by decide +kernel
theorem dX5_worstAt_25 : decode cX5_worstAt 25 = .ok (.iload_n 1, 1) := by decide +kernel
theorem dX5_worstAt_26 : decode cX5_worstAt 26 = .ok (.iload 4, 2) := by decide +kernel
theorem dX5_worstAt_28 : decode cX5_worstAt 28 = .ok (.ishr, 1) := by decide +kernel
theorem dX5_worstAt_29 : decode cX5_worstAt 29 = .ok (.iconst 1, 1) := by decide +kernel
theorem dX5_worstAt_30 : decode cX5_worstAt 30 = .ok (.iand, 1) := by decide +kernel
theorem dX5_worstAt_31 : decode cX5_worstAt 31 = .ok (.iconst 1, 1) := by decide +kernel
theorem dX5_worstAt_32 : decode cX5_worstAt 32 = .ok (.if_icmp .ne 56, 3) := by decide +kernel
theorem dX5_worstAt_35 : decode cX5_worstAt 35 = .ok (.iload 5, 2) := by decide +kernel
theorem dX5_worstAt_37 : decode cX5_worstAt 37 = .ok (.iload_n 1, 1) := by decide +kernel
theorem dX5_worstAt_38 : decode cX5_worstAt 38 = .ok (.iload 6, 2) := by decide +kernel
theorem dX5_worstAt_40 : decode cX5_worstAt 40 = .ok (.ishr, 1) := by decide +kernel
theorem dX5_worstAt_41 : decode cX5_worstAt 41 = .ok (.iconst 1, 1) := by decide +kernel
theorem dX5_worstAt_42 : decode cX5_worstAt 42 = .ok (.iand, 1) := by decide +kernel
theorem dX5_worstAt_43 : decode cX5_worstAt 43 = .ok (.iconst 1, 1) := by decide +kernel
theorem dX5_worstAt_44 : decode cX5_worstAt 44 = .ok (.if_icmp .ne 34, 3) := by decide +kernel
theorem dX5_worstAt_47 : decode cX5_worstAt 47 = .ok (.aload_n 0, 1) := by decide +kernel
theorem dX5_worstAt_48 : decode cX5_worstAt 48 = .ok (.getfield 35, 3) := by decide +kernel
theorem dX5_worstAt_51 : decode cX5_worstAt 51 = .ok (.bipush 41, 2) := by decide +kernel
theorem dX5_worstAt_53 : decode cX5_worstAt 53 = .ok (.iload 4, 2) := by decide +kernel
theorem dX5_worstAt_55 : decode cX5_worstAt 55 = .ok (.imul, 1) := by decide +kernel
theorem dX5_worstAt_56 : decode cX5_worstAt 56 = .ok (.iload_n 2, 1) := by decide +kernel
theorem dX5_worstAt_57 : decode cX5_worstAt 57 = .ok (.iadd, 1) := by decide +kernel
theorem dX5_worstAt_58 : decode cX5_worstAt 58 = .ok (.iaload, 1) := by decide +kernel
theorem dX5_worstAt_59 : decode cX5_worstAt 59 = .ok (.aload_n 0, 1) := by decide +kernel
theorem dX5_worstAt_60 : decode cX5_worstAt 60 = .ok (.getfield 35, 3) := by decide +kernel
theorem dX5_worstAt_63 : decode cX5_worstAt 63 = .ok (.bipush 41, 2) := by decide +kernel
theorem dX5_worstAt_65 : decode cX5_worstAt 65 = .ok (.iload 6, 2) := by decide +kernel
theorem dX5_worstAt_67 : decode cX5_worstAt 67 = .ok (.imul, 1) := by decide +kernel
theorem dX5_worstAt_68 : decode cX5_worstAt 68 = .ok (.iload_n 2, 1) := by decide +kernel
theorem dX5_worstAt_69 : decode cX5_worstAt 69 = .ok (.iadd, 1) := by decide +kernel
theorem dX5_worstAt_70 : decode cX5_worstAt 70 = .ok (.iaload, 1) := by decide +kernel
theorem dX5_worstAt_71 : decode cX5_worstAt 71 = .ok (.if_icmp .ne 7, 3) := by decide +kernel
theorem dX5_worstAt_74 : decode cX5_worstAt 74 = .ok (.iconst 1, 1) := by decide +kernel
theorem dX5_worstAt_75 : decode cX5_worstAt 75 = .ok (.goto 4, 3) := by decide +kernel
theorem dX5_worstAt_78 : decode cX5_worstAt 78 = .ok (.iconst 0, 1) := by decide +kernel
theorem dX5_worstAt_79 : decode cX5_worstAt 79 = .ok (.iadd, 1) := by decide +kernel
theorem dX5_worstAt_80 : decode cX5_worstAt 80 = .ok (.istore 5, 2) := by decide +kernel
theorem dX5_worstAt_82 : decode cX5_worstAt 82 = .ok (.iinc 6 1, 3) := by decide +kernel
theorem dX5_worstAt_85 : decode cX5_worstAt 85 = .ok (.goto (-67), 3) := by decide +kernel
theorem dX5_worstAt_88 : decode cX5_worstAt 88 = .ok (.iload 5, 2) := by decide +kernel
theorem dX5_worstAt_90 : decode cX5_worstAt 90 = .ok (.iload_n 3, 1) := by decide +kernel
theorem dX5_worstAt_91 : decode cX5_worstAt 91 = .ok (.if_icmp .le 8, 3) := by decide +kernel
theorem dX5_worstAt_94 : decode cX5_worstAt 94 = .ok (.iload 5, 2) := by decide +kernel
theorem dX5_worstAt_96 : decode cX5_worstAt 96 = .ok (.goto 4, 3) := by decide +kernel
theorem dX5_worstAt_99 : decode cX5_worstAt 99 = .ok (.iload_n 3, 1) := by decide +kernel
theorem dX5_worstAt_100 : decode cX5_worstAt 100 = .ok (.istore_n 3, 1) := by decide +kernel
theorem dX5_worstAt_101 : decode cX5_worstAt 101 = .ok (.iinc 4 1, 3) := by decide +kernel
theorem dX5_worstAt_104 : decode cX5_worstAt 104 = .ok (.goto (-99), 3) := by decide +kernel
theorem dX5_worstAt_107 : decode cX5_worstAt 107 = .ok (.iload_n 3, 1) := by decide +kernel
theorem dX5_worstAt_108 : decode cX5_worstAt 108 = .ok (.ireturn, 1) := by decide +kernel
theorem dX5_ask_0 : decode cX5_ask 0 = .ok (.aload_n 0, 1) := by decide +kernel
theorem dX5_ask_1 : decode cX5_ask 1 = .ok (.iload_n 1, 1) := by decide +kernel
theorem dX5_ask_2 : decode cX5_ask 2 = .ok (.invokevirtual 171, 3) := by decide +kernel
theorem dX5_ask_5 : decode cX5_ask 5 = .ok (.ifCond .eq 13, 3) := by decide +kernel
theorem dX5_ask_8 : decode cX5_ask 8 = .ok (.iload_n 2, 1) := by decide +kernel
theorem dX5_ask_9 : decode cX5_ask 9 = .ok (.i2l, 1) := by decide +kernel
theorem dX5_ask_10 : decode cX5_ask 10 = .ok (.lconst 0, 1) := by decide +kernel
theorem dX5_ask_11 : decode cX5_ask 11 = .ok (.lconst 1, 1) := by decide +kernel
theorem dX5_ask_12 : decode cX5_ask 12 = .ok (.invokestatic 53, 3) := by decide +kernel
theorem dX5_ask_15 : decode cX5_ask 15 = .ok (.ifCond .ne 5, 3) := by decide +kernel
theorem dX5_ask_18 : decode cX5_ask 18 = .ok (.iconst (-1), 1) := by decide +kernel
theorem dX5_ask_19 : decode cX5_ask 19 = .ok (.ireturn, 1) := by decide +kernel
theorem dX5_ask_20 : decode cX5_ask 20 = .ok (.aload_n 0, 1) := by decide +kernel
theorem dX5_ask_21 : decode cX5_ask 21 = .ok (.bipush 8, 2) := by decide +kernel
theorem dX5_ask_23 : decode cX5_ask 23 = .ok (.iload_n 1, 1) := by decide +kernel
theorem dX5_ask_24 : decode cX5_ask 24 = .ok (.iadd, 1) := by decide +kernel
theorem dX5_ask_25 : decode cX5_ask 25 = .ok (.iload_n 1, 1) := by decide +kernel
theorem dX5_ask_26 : decode cX5_ask 26 = .ok (.bipush 10, 2) := by decide +kernel
theorem dX5_ask_28 : decode cX5_ask 28 = .ok (.invokevirtual 245, 3) := by decide +kernel
theorem dX5_ask_31 : decode cX5_ask 31 = .ok (.istore_n 3, 1) := by decide +kernel
theorem dX5_ask_32 : decode cX5_ask 32 = .ok (.iconst 0, 1) := by decide +kernel
theorem dX5_ask_33 : decode cX5_ask 33 = .ok (.istore 4, 2) := by decide +kernel
theorem dX5_ask_35 : decode cX5_ask 35 = .ok (.iconst 0, 1) := by decide +kernel
theorem dX5_ask_36 : decode cX5_ask 36 = .ok (.istore 5, 2) := by decide +kernel
theorem dX5_ask_38 : decode cX5_ask 38 = .ok (.iload 5, 2) := by decide +kernel
theorem dX5_ask_40 : decode cX5_ask 40 = .ok (.bipush 9, 2) := by decide +kernel
theorem dX5_ask_42 : decode cX5_ask 42 = .ok (.if_icmp .gt 20, 3) := by decide +kernel
theorem dX5_ask_45 : decode cX5_ask 45 = .ok (.iload 4, 2) := by decide +kernel
theorem dX5_ask_47 : decode cX5_ask 47 = .ok (.iload_n 3, 1) := by decide +kernel
theorem dX5_ask_48 : decode cX5_ask 48 = .ok (.iload 5, 2) := by decide +kernel
theorem dX5_ask_50 : decode cX5_ask 50 = .ok (.ishr, 1) := by decide +kernel
theorem dX5_ask_51 : decode cX5_ask 51 = .ok (.iconst 1, 1) := by decide +kernel
theorem dX5_ask_52 : decode cX5_ask 52 = .ok (.iand, 1) := by decide +kernel
theorem dX5_ask_53 : decode cX5_ask 53 = .ok (.iadd, 1) := by decide +kernel
theorem dX5_ask_54 : decode cX5_ask 54 = .ok (.istore 4, 2) := by decide +kernel
theorem dX5_ask_56 : decode cX5_ask 56 = .ok (.iinc 5 1, 3) := by decide +kernel
theorem dX5_ask_59 : decode cX5_ask 59 = .ok (.goto (-21), 3) := by decide +kernel
theorem dX5_ask_62 : decode cX5_ask 62 = .ok (.bipush (-4), 2) := by decide +kernel
theorem dX5_ask_64 : decode cX5_ask 64 = .ok (.istore 5, 2) := by decide +kernel
theorem dX5_ask_66 : decode cX5_ask 66 = .ok (.iconst 0, 1) := by decide +kernel
theorem dX5_ask_67 : decode cX5_ask 67 = .ok (.istore 6, 2) := by decide +kernel
theorem dX5_ask_69 : decode cX5_ask 69 = .ok (.iload 6, 2) := by decide +kernel
theorem dX5_ask_71 : decode cX5_ask 71 = .ok (.bipush 40, 2) := by decide +kernel
theorem dX5_ask_73 : decode cX5_ask 73 = .ok (.if_icmp .gt 50, 3) := by decide +kernel
theorem dX5_ask_76 : decode cX5_ask 76 = .ok (.aload_n 0, 1) := by decide +kernel
theorem dX5_ask_77 : decode cX5_ask 77 = .ok (.iload_n 3, 1) := by decide +kernel
theorem dX5_ask_78 : decode cX5_ask 78 = .ok (.iload 6, 2) := by decide +kernel
theorem dX5_ask_80 : decode cX5_ask 80 = .ok (.invokevirtual 249, 3) := by decide +kernel
theorem dX5_ask_83 : decode cX5_ask 83 = .ok (.istore 7, 2) := by decide +kernel
theorem dX5_ask_85 : decode cX5_ask 85 = .ok (.iload 7, 2) := by decide +kernel
theorem dX5_ask_87 : decode cX5_ask 87 = .ok (.iload 4, 2) := by decide +kernel
theorem dX5_ask_89 : decode cX5_ask 89 = .ok (.if_icmp .ge 8, 3) := by decide +kernel
theorem dX5_ask_92 : decode cX5_ask 92 = .ok (.iload 6, 2) := by decide +kernel
theorem dX5_ask_94 : decode cX5_ask 94 = .ok (.goto 5, 3) := by decide +kernel
theorem dX5_ask_97 : decode cX5_ask 97 = .ok (.iload 5, 2) := by decide +kernel
theorem dX5_ask_99 : decode cX5_ask 99 = .ok (.istore 5, 2) := by decide +kernel
theorem dX5_ask_101 : decode cX5_ask 101 = .ok (.iload 7, 2) := by decide +kernel
theorem dX5_ask_103 : decode cX5_ask 103 = .ok (.iload 4, 2) := by decide +kernel
theorem dX5_ask_105 : decode cX5_ask 105 = .ok (.if_icmp .ge 8, 3) := by decide +kernel
theorem dX5_ask_108 : decode cX5_ask 108 = .ok (.iload 7, 2) := by decide +kernel
theorem dX5_ask_110 : decode cX5_ask 110 = .ok (.goto 5, 3) := by decide +kernel
theorem dX5_ask_113 : decode cX5_ask 113 = .ok (.iload 4, 2) := by decide +kernel
theorem dX5_ask_115 : decode cX5_ask 115 = .ok (.istore 4, 2) := by decide +kernel
theorem dX5_ask_117 : decode cX5_ask 117 = .ok (.iinc 6 1, 3) := by decide +kernel
theorem dX5_ask_120 : decode cX5_ask 120 = .ok (.goto (-51), 3) := by decide +kernel
theorem dX5_ask_123 : decode cX5_ask 123 = .ok (.iload 5, 2) := by decide +kernel
theorem dX5_ask_125 : decode cX5_ask 125 = .ok (.bipush (-4), 2) := by decide +kernel
theorem dX5_ask_127 : decode cX5_ask 127 = .ok (.if_icmp .eq 7, 3) := by decide +kernel
theorem dX5_ask_130 : decode cX5_ask 130 = .ok (.iload_n 2, 1) := by decide +kernel
theorem dX5_ask_131 : decode cX5_ask 131 = .ok (.ifCond .ne 8, 3) := by decide +kernel
theorem dX5_ask_134 : decode cX5_ask 134 = .ok (.iload 5, 2) := by decide +kernel
theorem dX5_ask_136 : decode cX5_ask 136 = .ok (.goto 5, 3) := by decide +kernel
theorem dX5_ask_139 : decode cX5_ask 139 = .ok (.iload 4, 2) := by decide +kernel
theorem dX5_ask_141 : decode cX5_ask 141 = .ok (.ireturn, 1) := by decide +kernel
theorem dX5_drift_0 : decode cX5_drift 0 = .ok (.iload_n 2, 1) := by decide +kernel
theorem dX5_drift_1 : decode cX5_drift 1 = .ok (.i2l, 1) := by decide +kernel
theorem dX5_drift_2 : decode cX5_drift 2 = .ok (.lconst 1, 1) := by decide +kernel
theorem dX5_drift_3 : decode cX5_drift 3 = .ok (.ldc2_w 123, 3) := by decide +kernel
theorem dX5_drift_6 : decode cX5_drift 6 = .ok (.invokestatic 53, 3) := by decide +kernel
theorem dX5_drift_9 : decode cX5_drift 9 = .ok (.ifCond .eq 13, 3) := by decide +kernel
theorem dX5_drift_12 : decode cX5_drift 12 = .ok (.iload_n 3, 1) := by decide +kernel
theorem dX5_drift_13 : decode cX5_drift 13 = .ok (.i2l, 1) := by decide +kernel
theorem dX5_drift_14 : decode cX5_drift 14 = .ok (.lconst 0, 1) := by decide +kernel
theorem dX5_drift_15 : decode cX5_drift 15 = .ok (.lconst 1, 1) := by decide +kernel
theorem dX5_drift_16 : decode cX5_drift 16 = .ok (.invokestatic 53, 3) := by decide +kernel
theorem dX5_drift_19 : decode cX5_drift 19 = .ok (.ifCond .ne 5, 3) := by decide +kernel
theorem dX5_drift_22 : decode cX5_drift 22 = .ok (.iconst (-1), 1) := by decide +kernel
theorem dX5_drift_23 : decode cX5_drift 23 = .ok (.ireturn, 1) := by decide +kernel
theorem dX5_drift_24 : decode cX5_drift 24 = .ok (.aload_n 0, 1) := by decide +kernel
theorem dX5_drift_25 : decode cX5_drift 25 = .ok (.getfield 7, 3) := by decide +kernel
theorem dX5_drift_28 : decode cX5_drift 28 = .ok (.bipush 24, 2) := by decide +kernel
theorem dX5_drift_30 : decode cX5_drift 30 = .ok (.iaload, 1) := by decide +kernel
theorem dX5_drift_31 : decode cX5_drift 31 = .ok (.ifCond .ne 6, 3) := by decide +kernel
theorem dX5_drift_34 : decode cX5_drift 34 = .ok (.bipush (-2), 2) := by decide +kernel
theorem dX5_drift_36 : decode cX5_drift 36 = .ok (.ireturn, 1) := by decide +kernel
theorem dX5_drift_37 : decode cX5_drift 37 = .ok (.aload_n 0, 1) := by decide +kernel
theorem dX5_drift_38 : decode cX5_drift 38 = .ok (.iconst 0, 1) := by decide +kernel
theorem dX5_drift_39 : decode cX5_drift 39 = .ok (.sipush 208, 3) := by decide +kernel
theorem dX5_drift_42 : decode cX5_drift 42 = .ok (.invokevirtual 205, 3) := by decide +kernel
theorem dX5_drift_45 : decode cX5_drift 45 = .ok (.aload_n 0, 1) := by decide +kernel
theorem dX5_drift_46 : decode cX5_drift 46 = .ok (.iconst 0, 1) := by decide +kernel
theorem dX5_drift_47 : decode cX5_drift 47 = .ok (.putfield 161, 3) := by decide +kernel
theorem dX5_drift_50 : decode cX5_drift 50 = .ok (.iload_n 1, 1) := by decide +kernel
theorem dX5_drift_51 : decode cX5_drift 51 = .ok (.istore 4, 2) := by decide +kernel
theorem dX5_drift_53 : decode cX5_drift 53 = .ok (.iconst 0, 1) := by decide +kernel
theorem dX5_drift_54 : decode cX5_drift 54 = .ok (.istore 5, 2) := by decide +kernel
theorem dX5_drift_56 : decode cX5_drift 56 = .ok (.iload 5, 2) := by decide +kernel
theorem dX5_drift_58 : decode cX5_drift 58 = .ok (.iload_n 2, 1) := by decide +kernel
theorem dX5_drift_59 : decode cX5_drift 59 = .ok (.if_icmp .ge 66, 3) := by decide +kernel
theorem dX5_drift_62 : decode cX5_drift 62 = .ok (.iload 4, 2) := by decide +kernel
theorem dX5_drift_64 : decode cX5_drift 64 = .ok (.ldc 252, 2) := by decide +kernel
theorem dX5_drift_66 : decode cX5_drift 66 = .ok (.imul, 1) := by decide +kernel
theorem dX5_drift_67 : decode cX5_drift 67 = .ok (.sipush 12345, 3) := by decide +kernel
theorem dX5_drift_70 : decode cX5_drift 70 = .ok (.iadd, 1) := by decide +kernel
theorem dX5_drift_71 : decode cX5_drift 71 = .ok (.istore 4, 2) := by decide +kernel
theorem dX5_drift_73 : decode cX5_drift 73 = .ok (.iload 4, 2) := by decide +kernel
theorem dX5_drift_75 : decode cX5_drift 75 = .ok (.bipush 16, 2) := by decide +kernel
theorem dX5_drift_77 : decode cX5_drift 77 = .ok (.ishr, 1) := by decide +kernel
theorem dX5_drift_78 : decode cX5_drift 78 = .ok (.sipush 32767, 3) := by decide +kernel
theorem dX5_drift_81 : decode cX5_drift 81 = .ok (.iand, 1) := by decide +kernel
theorem dX5_drift_82 : decode cX5_drift 82 = .ok (.istore 6, 2) := by decide +kernel
theorem dX5_drift_84 : decode cX5_drift 84 = .ok (.aload_n 0, 1) := by decide +kernel
theorem dX5_drift_85 : decode cX5_drift 85 = .ok (.sipush 208, 3) := by decide +kernel
theorem dX5_drift_88 : decode cX5_drift 88 = .ok (.iload 6, 2) := by decide +kernel
theorem dX5_drift_90 : decode cX5_drift 90 = .ok (.aload_n 0, 1) := by decide +kernel
theorem dX5_drift_91 : decode cX5_drift 91 = .ok (.getfield 7, 3) := by decide +kernel
theorem dX5_drift_94 : decode cX5_drift 94 = .ok (.bipush 24, 2) := by decide +kernel
theorem dX5_drift_96 : decode cX5_drift 96 = .ok (.iaload, 1) := by decide +kernel
theorem dX5_drift_97 : decode cX5_drift 97 = .ok (.irem, 1) := by decide +kernel
theorem dX5_drift_98 : decode cX5_drift 98 = .ok (.iload 6, 2) := by decide +kernel
theorem dX5_drift_100 : decode cX5_drift 100 = .ok (.bipush 8, 2) := by decide +kernel
theorem dX5_drift_102 : decode cX5_drift 102 = .ok (.idiv, 1) := by decide +kernel
theorem dX5_drift_103 : decode cX5_drift 103 = .ok (.bipush 19, 2) := by decide +kernel
theorem dX5_drift_105 : decode cX5_drift 105 = .ok (.irem, 1) := by decide +kernel
theorem dX5_drift_106 : decode cX5_drift 106 = .ok (.bipush 9, 2) := by decide +kernel
theorem dX5_drift_108 : decode cX5_drift 108 = .ok (.isub, 1) := by decide +kernel
theorem dX5_drift_109 : decode cX5_drift 109 = .ok (.invokevirtual 164, 3) := by decide +kernel
theorem dX5_drift_112 : decode cX5_drift 112 = .ok (.aload_n 0, 1) := by decide +kernel
theorem dX5_drift_113 : decode cX5_drift 113 = .ok (.sipush 208, 3) := by decide +kernel
theorem dX5_drift_116 : decode cX5_drift 116 = .ok (.invokevirtual 168, 3) := by decide +kernel
theorem dX5_drift_119 : decode cX5_drift 119 = .ok (.iinc 5 1, 3) := by decide +kernel
theorem dX5_drift_122 : decode cX5_drift 122 = .ok (.goto (-66), 3) := by decide +kernel
theorem dX5_drift_125 : decode cX5_drift 125 = .ok (.iload_n 3, 1) := by decide +kernel
theorem dX5_drift_126 : decode cX5_drift 126 = .ok (.ifCond .ne 10, 3) := by decide +kernel
theorem dX5_drift_129 : decode cX5_drift 129 = .ok (.aload_n 0, 1) := by decide +kernel
theorem dX5_drift_130 : decode cX5_drift 130 = .ok (.getfield 161, 3) := by decide +kernel
theorem dX5_drift_133 : decode cX5_drift 133 = .ok (.goto 10, 3) := by decide +kernel
theorem dX5_drift_136 : decode cX5_drift 136 = .ok (.aload_n 0, 1) := by decide +kernel
theorem dX5_drift_137 : decode cX5_drift 137 = .ok (.sipush 208, 3) := by decide +kernel
theorem dX5_drift_140 : decode cX5_drift 140 = .ok (.invokevirtual 158, 3) := by decide +kernel
theorem dX5_drift_143 : decode cX5_drift 143 = .ok (.ireturn, 1) := by decide +kernel
theorem dX5_keep_0 : decode cX5_keep 0 = .ok (.iload_n 1, 1) := by decide +kernel
theorem dX5_keep_1 : decode cX5_keep 1 = .ok (.i2l, 1) := by decide +kernel
theorem dX5_keep_2 : decode cX5_keep 2 = .ok (.lconst 0, 1) := by decide +kernel
theorem dX5_keep_3 : decode cX5_keep 3 = .ok (.lconst 1, 1) := by decide +kernel
theorem dX5_keep_4 : decode cX5_keep 4 = .ok (.invokestatic 53, 3) := by decide +kernel
theorem dX5_keep_7 : decode cX5_keep 7 = .ok (.ifCond .ne 5, 3) := by decide +kernel
theorem dX5_keep_10 : decode cX5_keep 10 = .ok (.iconst (-1), 1) := by decide +kernel
theorem dX5_keep_11 : decode cX5_keep 11 = .ok (.ireturn, 1) := by decide +kernel
theorem dX5_keep_12 : decode cX5_keep 12 = .ok (.aload_n 0, 1) := by decide +kernel
theorem dX5_keep_13 : decode cX5_keep 13 = .ok (.iconst 0, 1) := by decide +kernel
theorem dX5_keep_14 : decode cX5_keep 14 = .ok (.bipush 52, 2) := by decide +kernel
theorem dX5_keep_16 : decode cX5_keep 16 = .ok (.iload_n 1, 1) := by decide +kernel
theorem dX5_keep_17 : decode cX5_keep 17 = .ok (.iconst 1, 1) := by decide +kernel
theorem dX5_keep_18 : decode cX5_keep 18 = .ok (.iadd, 1) := by decide +kernel
theorem dX5_keep_19 : decode cX5_keep 19 = .ok (.imul, 1) := by decide +kernel
theorem dX5_keep_20 : decode cX5_keep 20 = .ok (.invokevirtual 205, 3) := by decide +kernel
theorem dX5_keep_23 : decode cX5_keep 23 = .ok (.aload_n 0, 1) := by decide +kernel
theorem dX5_keep_24 : decode cX5_keep 24 = .ok (.getfield 38, 3) := by decide +kernel
theorem dX5_keep_27 : decode cX5_keep 27 = .ok (.iload_n 1, 1) := by decide +kernel
theorem dX5_keep_28 : decode cX5_keep 28 = .ok (.baload, 1) := by decide +kernel
theorem dX5_keep_29 : decode cX5_keep 29 = .ok (.ifCond .eq 7, 3) := by decide +kernel
theorem dX5_keep_32 : decode cX5_keep 32 = .ok (.iconst 1, 1) := by decide +kernel
theorem dX5_keep_33 : decode cX5_keep 33 = .ok (.goto 4, 3) := by decide +kernel
theorem dX5_keep_36 : decode cX5_keep 36 = .ok (.iconst 0, 1) := by decide +kernel
theorem dX5_keep_37 : decode cX5_keep 37 = .ok (.istore_n 2, 1) := by decide +kernel
theorem dX5_keep_38 : decode cX5_keep 38 = .ok (.aload_n 0, 1) := by decide +kernel
theorem dX5_keep_39 : decode cX5_keep 39 = .ok (.getfield 38, 3) := by decide +kernel
theorem dX5_keep_42 : decode cX5_keep 42 = .ok (.iload_n 1, 1) := by decide +kernel
theorem dX5_keep_43 : decode cX5_keep 43 = .ok (.iconst 1, 1) := by decide +kernel
theorem dX5_keep_44 : decode cX5_keep 44 = .ok (.bastore, 1) := by decide +kernel
theorem dX5_keep_45 : decode cX5_keep 45 = .ok (.iload_n 2, 1) := by decide +kernel
theorem dX5_keep_46 : decode cX5_keep 46 = .ok (.ireturn, 1) := by decide +kernel
theorem dX5_back_0 : decode cX5_back 0 = .ok (.iload_n 1, 1) := by decide +kernel
theorem dX5_back_1 : decode cX5_back 1 = .ok (.i2l, 1) := by decide +kernel
theorem dX5_back_2 : decode cX5_back 2 = .ok (.lconst 0, 1) := by decide +kernel
theorem dX5_back_3 : decode cX5_back 3 = .ok (.lconst 1, 1) := by decide +kernel
theorem dX5_back_4 : decode cX5_back 4 = .ok (.invokestatic 53, 3) := by decide +kernel
theorem dX5_back_7 : decode cX5_back 7 = .ok (.ifCond .ne 5, 3) := by decide +kernel
theorem dX5_back_10 : decode cX5_back 10 = .ok (.iconst (-1), 1) := by decide +kernel
theorem dX5_back_11 : decode cX5_back 11 = .ok (.ireturn, 1) := by decide +kernel
theorem dX5_back_12 : decode cX5_back 12 = .ok (.aload_n 0, 1) := by decide +kernel
theorem dX5_back_13 : decode cX5_back 13 = .ok (.getfield 38, 3) := by decide +kernel
theorem dX5_back_16 : decode cX5_back 16 = .ok (.iload_n 1, 1) := by decide +kernel
theorem dX5_back_17 : decode cX5_back 17 = .ok (.baload, 1) := by decide +kernel
theorem dX5_back_18 : decode cX5_back 18 = .ok (.ifCond .ne 6, 3) := by decide +kernel
theorem dX5_back_21 : decode cX5_back 21 = .ok (.bipush (-2), 2) := by decide +kernel
theorem dX5_back_23 : decode cX5_back 23 = .ok (.ireturn, 1) := by decide +kernel
theorem dX5_back_24 : decode cX5_back 24 = .ok (.aload_n 0, 1) := by decide +kernel
theorem dX5_back_25 : decode cX5_back 25 = .ok (.bipush 52, 2) := by decide +kernel
theorem dX5_back_27 : decode cX5_back 27 = .ok (.iload_n 1, 1) := by decide +kernel
theorem dX5_back_28 : decode cX5_back 28 = .ok (.iconst 1, 1) := by decide +kernel
theorem dX5_back_29 : decode cX5_back 29 = .ok (.iadd, 1) := by decide +kernel
theorem dX5_back_30 : decode cX5_back 30 = .ok (.imul, 1) := by decide +kernel
theorem dX5_back_31 : decode cX5_back 31 = .ok (.iconst 0, 1) := by decide +kernel
theorem dX5_back_32 : decode cX5_back 32 = .ok (.invokevirtual 205, 3) := by decide +kernel
theorem dX5_back_35 : decode cX5_back 35 = .ok (.aload_n 0, 1) := by decide +kernel
theorem dX5_back_36 : decode cX5_back 36 = .ok (.getfield 7, 3) := by decide +kernel
theorem dX5_back_39 : decode cX5_back 39 = .ok (.bipush 51, 2) := by decide +kernel
theorem dX5_back_41 : decode cX5_back 41 = .ok (.iaload, 1) := by decide +kernel
theorem dX5_back_42 : decode cX5_back 42 = .ok (.ireturn, 1) := by decide +kernel
theorem dX5_sheet_0 : decode cX5_sheet 0 = .ok (.iload_n 1, 1) := by decide +kernel
theorem dX5_sheet_1 : decode cX5_sheet 1 = .ok (.i2l, 1) := by decide +kernel
theorem dX5_sheet_2 : decode cX5_sheet 2 = .ok (.lconst 0, 1) := by decide +kernel
theorem dX5_sheet_3 : decode cX5_sheet 3 = .ok (.ldc2_w 180, 3) := by decide +kernel
theorem dX5_sheet_6 : decode cX5_sheet 6 = .ok (.invokestatic 53, 3) := by decide +kernel
theorem dX5_sheet_9 : decode cX5_sheet 9 = .ok (.ifCond .eq 21, 3) := by decide +kernel
theorem dX5_sheet_12 : decode cX5_sheet 12 = .ok (.iload_n 2, 1) := by decide +kernel
theorem dX5_sheet_13 : decode cX5_sheet 13 = .ok (.i2l, 1) := by decide +kernel
theorem dX5_sheet_14 : decode cX5_sheet 14 = .ok (.lconst 0, 1) := by decide +kernel
theorem dX5_sheet_15 : decode cX5_sheet 15 = .ok (.ldc2_w 253, 3) := by decide +kernel
theorem dX5_sheet_18 : decode cX5_sheet 18 = .ok (.invokestatic 53, 3) := by decide +kernel
theorem dX5_sheet_21 : decode cX5_sheet 21 = .ok (.ifCond .eq 9, 3) := by decide +kernel
theorem dX5_sheet_24 : decode cX5_sheet 24 = .ok (.iload_n 3, 1) := by decide +kernel
theorem dX5_sheet_25 : decode cX5_sheet 25 = .ok (.bipush 40, 2) := by decide +kernel
theorem dX5_sheet_27 : decode cX5_sheet 27 = .ok (.if_icmp .le 5, 3) := by decide +kernel
theorem dX5_sheet_30 : decode cX5_sheet 30 = .ok (.iconst (-1), 1) := by decide +kernel
theorem dX5_sheet_31 : decode cX5_sheet 31 = .ok (.ireturn, 1) := by decide +kernel
theorem dX5_sheet_32 : decode cX5_sheet 32 = .ok (.iload_n 3, 1) := by decide +kernel
theorem dX5_sheet_33 : decode cX5_sheet 33 = .ok (.ifCond .ge 6, 3) := by decide +kernel
theorem dX5_sheet_36 : decode cX5_sheet 36 = .ok (.bipush (-14), 2) := by decide +kernel
theorem dX5_sheet_38 : decode cX5_sheet 38 = .ok (.ireturn, 1) := by decide +kernel
theorem dX5_sheet_39 : decode cX5_sheet 39 = .ok (.aload_n 0, 1) := by decide +kernel
theorem dX5_sheet_40 : decode cX5_sheet 40 = .ok (.getfield 42, 3) := by decide +kernel
theorem dX5_sheet_43 : decode cX5_sheet 43 = .ok (.iload_n 1, 1) := by decide +kernel
theorem dX5_sheet_44 : decode cX5_sheet 44 = .ok (.iload_n 2, 1) := by decide +kernel
theorem dX5_sheet_45 : decode cX5_sheet 45 = .ok (.iastore, 1) := by decide +kernel
theorem dX5_sheet_46 : decode cX5_sheet 46 = .ok (.aload_n 0, 1) := by decide +kernel
theorem dX5_sheet_47 : decode cX5_sheet 47 = .ok (.getfield 45, 3) := by decide +kernel
theorem dX5_sheet_50 : decode cX5_sheet 50 = .ok (.iload_n 1, 1) := by decide +kernel
theorem dX5_sheet_51 : decode cX5_sheet 51 = .ok (.iload_n 3, 1) := by decide +kernel
theorem dX5_sheet_52 : decode cX5_sheet 52 = .ok (.iastore, 1) := by decide +kernel
theorem dX5_sheet_53 : decode cX5_sheet 53 = .ok (.iconst 0, 1) := by decide +kernel
theorem dX5_sheet_54 : decode cX5_sheet 54 = .ok (.istore 4, 2) := by decide +kernel
theorem dX5_sheet_56 : decode cX5_sheet 56 = .ok (.iload 4, 2) := by decide +kernel
theorem dX5_sheet_58 : decode cX5_sheet 58 = .ok (.bipush 40, 2) := by decide +kernel
theorem dX5_sheet_60 : decode cX5_sheet 60 = .ok (.if_icmp .ge 22, 3) := by decide +kernel
theorem dX5_sheet_63 : decode cX5_sheet 63 = .ok (.aload_n 0, 1) := by decide +kernel
theorem dX5_sheet_64 : decode cX5_sheet 64 = .ok (.getfield 48, 3) := by decide +kernel
theorem dX5_sheet_67 : decode cX5_sheet 67 = .ok (.bipush 40, 2) := by decide +kernel
theorem dX5_sheet_69 : decode cX5_sheet 69 = .ok (.iload_n 1, 1) := by decide +kernel
theorem dX5_sheet_70 : decode cX5_sheet 70 = .ok (.imul, 1) := by decide +kernel
theorem dX5_sheet_71 : decode cX5_sheet 71 = .ok (.iload 4, 2) := by decide +kernel
theorem dX5_sheet_73 : decode cX5_sheet 73 = .ok (.iadd, 1) := by decide +kernel
theorem dX5_sheet_74 : decode cX5_sheet 74 = .ok (.iconst 0, 1) := by decide +kernel
theorem dX5_sheet_75 : decode cX5_sheet 75 = .ok (.iastore, 1) := by decide +kernel
theorem dX5_sheet_76 : decode cX5_sheet 76 = .ok (.iinc 4 1, 3) := by decide +kernel
theorem dX5_sheet_79 : decode cX5_sheet 79 = .ok (.goto (-23), 3) := by decide +kernel
theorem dX5_sheet_82 : decode cX5_sheet 82 = .ok (.iconst 1, 1) := by decide +kernel
theorem dX5_sheet_83 : decode cX5_sheet 83 = .ok (.ireturn, 1) := by decide +kernel
theorem dX5_lay_0 : decode cX5_lay 0 = .ok (.iload_n 1, 1) := by decide +kernel
theorem dX5_lay_1 : decode cX5_lay 1 = .ok (.i2l, 1) := by decide +kernel
theorem dX5_lay_2 : decode cX5_lay 2 = .ok (.lconst 0, 1) := by decide +kernel
theorem dX5_lay_3 : decode cX5_lay 3 = .ok (.ldc2_w 180, 3) := by decide +kernel
theorem dX5_lay_6 : decode cX5_lay 6 = .ok (.invokestatic 53, 3) := by decide +kernel
theorem dX5_lay_9 : decode cX5_lay 9 = .ok (.ifCond .ne 5, 3) := by decide +kernel
theorem dX5_lay_12 : decode cX5_lay 12 = .ok (.iconst (-1), 1) := by decide +kernel
theorem dX5_lay_13 : decode cX5_lay 13 = .ok (.ireturn, 1) := by decide +kernel
theorem dX5_lay_14 : decode cX5_lay 14 = .ok (.aload_n 0, 1) := by decide +kernel
theorem dX5_lay_15 : decode cX5_lay 15 = .ok (.getfield 42, 3) := by decide +kernel
theorem dX5_lay_18 : decode cX5_lay 18 = .ok (.iload_n 1, 1) := by decide +kernel
theorem dX5_lay_19 : decode cX5_lay 19 = .ok (.iaload, 1) := by decide +kernel
theorem dX5_lay_20 : decode cX5_lay 20 = .ok (.bipush (-4), 2) := by decide +kernel
theorem dX5_lay_22 : decode cX5_lay 22 = .ok (.if_icmp .ne 6, 3) := by decide +kernel
theorem dX5_lay_25 : decode cX5_lay 25 = .ok (.bipush (-11), 2) := by decide +kernel
theorem dX5_lay_27 : decode cX5_lay 27 = .ok (.ireturn, 1) := by decide +kernel
theorem dX5_lay_28 : decode cX5_lay 28 = .ok (.iload_n 2, 1) := by decide +kernel
theorem dX5_lay_29 : decode cX5_lay 29 = .ok (.i2l, 1) := by decide +kernel
theorem dX5_lay_30 : decode cX5_lay 30 = .ok (.lconst 0, 1) := by decide +kernel
theorem dX5_lay_31 : decode cX5_lay 31 = .ok (.aload_n 0, 1) := by decide +kernel
theorem dX5_lay_32 : decode cX5_lay 32 = .ok (.getfield 45, 3) := by decide +kernel
theorem dX5_lay_35 : decode cX5_lay 35 = .ok (.iload_n 1, 1) := by decide +kernel
theorem dX5_lay_36 : decode cX5_lay 36 = .ok (.iaload, 1) := by decide +kernel
theorem dX5_lay_37 : decode cX5_lay 37 = .ok (.iconst 1, 1) := by decide +kernel
theorem dX5_lay_38 : decode cX5_lay 38 = .ok (.isub, 1) := by decide +kernel
theorem dX5_lay_39 : decode cX5_lay 39 = .ok (.i2l, 1) := by decide +kernel
theorem dX5_lay_40 : decode cX5_lay 40 = .ok (.invokestatic 53, 3) := by decide +kernel
theorem dX5_lay_43 : decode cX5_lay 43 = .ok (.ifCond .ne 6, 3) := by decide +kernel
theorem dX5_lay_46 : decode cX5_lay 46 = .ok (.bipush (-12), 2) := by decide +kernel
theorem dX5_lay_48 : decode cX5_lay 48 = .ok (.ireturn, 1) := by decide +kernel
theorem dX5_lay_49 : decode cX5_lay 49 = .ok (.aload_n 0, 1) := by decide +kernel
theorem dX5_lay_50 : decode cX5_lay 50 = .ok (.getfield 48, 3) := by decide +kernel
theorem dX5_lay_53 : decode cX5_lay 53 = .ok (.bipush 40, 2) := by decide +kernel
theorem dX5_lay_55 : decode cX5_lay 55 = .ok (.iload_n 1, 1) := by decide +kernel
theorem dX5_lay_56 : decode cX5_lay 56 = .ok (.imul, 1) := by decide +kernel
theorem dX5_lay_57 : decode cX5_lay 57 = .ok (.iload_n 2, 1) := by decide +kernel
theorem dX5_lay_58 : decode cX5_lay 58 = .ok (.iadd, 1) := by decide +kernel
theorem dX5_lay_59 : decode cX5_lay 59 = .ok (.aload_n 0, 1) := by decide +kernel
theorem dX5_lay_60 : decode cX5_lay 60 = .ok (.getfield 42, 3) := by decide +kernel
theorem dX5_lay_63 : decode cX5_lay 63 = .ok (.iload_n 1, 1) := by decide +kernel
theorem dX5_lay_64 : decode cX5_lay 64 = .ok (.iaload, 1) := by decide +kernel
theorem dX5_lay_65 : decode cX5_lay 65 = .ok (.ifCond .ne 13, 3) := by decide +kernel
theorem dX5_lay_68 : decode cX5_lay 68 = .ok (.iload_n 3, 1) := by decide +kernel
theorem dX5_lay_69 : decode cX5_lay 69 = .ok (.bipush 24, 2) := by decide +kernel
theorem dX5_lay_71 : decode cX5_lay 71 = .ok (.ishl, 1) := by decide +kernel
theorem dX5_lay_72 : decode cX5_lay 72 = .ok (.bipush 24, 2) := by decide +kernel
theorem dX5_lay_74 : decode cX5_lay 74 = .ok (.ishr, 1) := by decide +kernel
theorem dX5_lay_75 : decode cX5_lay 75 = .ok (.goto 24, 3) := by decide +kernel
theorem dX5_lay_78 : decode cX5_lay 78 = .ok (.aload_n 0, 1) := by decide +kernel
theorem dX5_lay_79 : decode cX5_lay 79 = .ok (.getfield 42, 3) := by decide +kernel
theorem dX5_lay_82 : decode cX5_lay 82 = .ok (.iload_n 1, 1) := by decide +kernel
theorem dX5_lay_83 : decode cX5_lay 83 = .ok (.iaload, 1) := by decide +kernel
theorem dX5_lay_84 : decode cX5_lay 84 = .ok (.iconst 1, 1) := by decide +kernel
theorem dX5_lay_85 : decode cX5_lay 85 = .ok (.if_icmp .ne 13, 3) := by decide +kernel
theorem dX5_lay_88 : decode cX5_lay 88 = .ok (.iload_n 3, 1) := by decide +kernel
theorem dX5_lay_89 : decode cX5_lay 89 = .ok (.bipush 16, 2) := by decide +kernel
theorem dX5_lay_91 : decode cX5_lay 91 = .ok (.ishl, 1) := by decide +kernel
theorem dX5_lay_92 : decode cX5_lay 92 = .ok (.bipush 16, 2) := by decide +kernel
theorem dX5_lay_94 : decode cX5_lay 94 = .ok (.ishr, 1) := by decide +kernel
theorem dX5_lay_95 : decode cX5_lay 95 = .ok (.goto 4, 3) := by decide +kernel
theorem dX5_lay_98 : decode cX5_lay 98 = .ok (.iload_n 3, 1) := by decide +kernel
theorem dX5_lay_99 : decode cX5_lay 99 = .ok (.iastore, 1) := by decide +kernel
theorem dX5_lay_100 : decode cX5_lay 100 = .ok (.iconst 1, 1) := by decide +kernel
theorem dX5_lay_101 : decode cX5_lay 101 = .ok (.ireturn, 1) := by decide +kernel
theorem dX5_read_0 : decode cX5_read 0 = .ok (.iload_n 1, 1) := by decide +kernel
theorem dX5_read_1 : decode cX5_read 1 = .ok (.i2l, 1) := by decide +kernel
theorem dX5_read_2 : decode cX5_read 2 = .ok (.lconst 0, 1) := by decide +kernel
theorem dX5_read_3 : decode cX5_read 3 = .ok (.ldc2_w 180, 3) := by decide +kernel
theorem dX5_read_6 : decode cX5_read 6 = .ok (.invokestatic 53, 3) := by decide +kernel
theorem dX5_read_9 : decode cX5_read 9 = .ok (.ifCond .eq 28, 3) := by decide +kernel
theorem dX5_read_12 : decode cX5_read 12 = .ok (.iload_n 2, 1) := by decide +kernel
theorem dX5_read_13 : decode cX5_read 13 = .ok (.i2l, 1) := by decide +kernel
theorem dX5_read_14 : decode cX5_read 14 = .ok (.lconst 0, 1) := by decide +kernel
theorem dX5_read_15 : decode cX5_read 15 = .ok (.ldc2_w 253, 3) := by decide +kernel
theorem dX5_read_18 : decode cX5_read 18 = .ok (.invokestatic 53, 3) := by decide +kernel
theorem dX5_read_21 : decode cX5_read 21 = .ok (.ifCond .eq 16, 3) := by decide +kernel
theorem dX5_read_24 : decode cX5_read 24 = .ok (.iload 4, 2) := by decide +kernel
theorem dX5_read_26 : decode cX5_read 26 = .ok (.i2l, 1) := by decide +kernel
theorem dX5_read_27 : decode cX5_read 27 = .ok (.lconst 0, 1) := by decide +kernel
theorem dX5_read_28 : decode cX5_read 28 = .ok (.ldc2_w 255, 3) := by decide +kernel
theorem dX5_read_31 : decode cX5_read 31 = .ok (.invokestatic 53, 3) := by decide +kernel
theorem dX5_read_34 : decode cX5_read 34 = .ok (.ifCond .ne 5, 3) := by decide +kernel
theorem dX5_read_37 : decode cX5_read 37 = .ok (.iconst (-1), 1) := by decide +kernel
theorem dX5_read_38 : decode cX5_read 38 = .ok (.ireturn, 1) := by decide +kernel
theorem dX5_read_39 : decode cX5_read 39 = .ok (.aload_n 0, 1) := by decide +kernel
theorem dX5_read_40 : decode cX5_read 40 = .ok (.iconst 0, 1) := by decide +kernel
theorem dX5_read_41 : decode cX5_read 41 = .ok (.sipush 156, 3) := by decide +kernel
theorem dX5_read_44 : decode cX5_read 44 = .ok (.invokevirtual 205, 3) := by decide +kernel
theorem dX5_read_47 : decode cX5_read 47 = .ok (.iconst 0, 1) := by decide +kernel
theorem dX5_read_48 : decode cX5_read 48 = .ok (.istore 5, 2) := by decide +kernel
theorem dX5_read_50 : decode cX5_read 50 = .ok (.iconst 0, 1) := by decide +kernel
theorem dX5_read_51 : decode cX5_read 51 = .ok (.istore 6, 2) := by decide +kernel
theorem dX5_read_53 : decode cX5_read 53 = .ok (.iconst 0, 1) := by decide +kernel
theorem dX5_read_54 : decode cX5_read 54 = .ok (.istore 7, 2) := by decide +kernel
theorem dX5_read_56 : decode cX5_read 56 = .ok (.iload 7, 2) := by decide +kernel
theorem dX5_read_58 : decode cX5_read 58 = .ok (.iconst 2, 1) := by decide +kernel
theorem dX5_read_59 : decode cX5_read 59 = .ok (.iload 4, 2) := by decide +kernel
theorem dX5_read_61 : decode cX5_read 61 = .ok (.imul, 1) := by decide +kernel
theorem dX5_read_62 : decode cX5_read 62 = .ok (.if_icmp .ge 136, 3) := by decide +kernel
theorem dX5_read_65 : decode cX5_read 65 = .ok (.iload 5, 2) := by decide +kernel
theorem dX5_read_67 : decode cX5_read 67 = .ok (.ifCond .ne 131, 3) := by decide +kernel
theorem dX5_read_70 : decode cX5_read 70 = .ok (.aload_n 0, 1) := by decide +kernel
theorem dX5_read_71 : decode cX5_read 71 = .ok (.getfield 42, 3) := by decide +kernel
theorem dX5_read_74 : decode cX5_read 74 = .ok (.iload_n 1, 1) := by decide +kernel
theorem dX5_read_75 : decode cX5_read 75 = .ok (.iaload, 1) := by decide +kernel
theorem dX5_read_76 : decode cX5_read 76 = .ok (.bipush (-4), 2) := by decide +kernel
theorem dX5_read_78 : decode cX5_read 78 = .ok (.if_icmp .ne 7, 3) := by decide +kernel
theorem dX5_read_81 : decode cX5_read 81 = .ok (.iconst 1, 1) := by decide +kernel
theorem dX5_read_82 : decode cX5_read 82 = .ok (.goto 44, 3) := by decide +kernel
theorem dX5_read_85 : decode cX5_read 85 = .ok (.aload_n 0, 1) := by decide +kernel
theorem dX5_read_86 : decode cX5_read 86 = .ok (.getfield 42, 3) := by decide +kernel
theorem dX5_read_89 : decode cX5_read 89 = .ok (.iload_n 1, 1) := by decide +kernel
theorem dX5_read_90 : decode cX5_read 90 = .ok (.iaload, 1) := by decide +kernel
theorem dX5_read_91 : decode cX5_read 91 = .ok (.iload_n 2, 1) := by decide +kernel
theorem dX5_read_92 : decode cX5_read 92 = .ok (.if_icmp .eq 7, 3) := by decide +kernel
theorem dX5_read_95 : decode cX5_read 95 = .ok (.iconst 3, 1) := by decide +kernel
theorem dX5_read_96 : decode cX5_read 96 = .ok (.goto 30, 3) := by decide +kernel
theorem dX5_read_99 : decode cX5_read 99 = .ok (.iload_n 3, 1) := by decide +kernel
theorem dX5_read_100 : decode cX5_read 100 = .ok (.i2l, 1) := by decide +kernel
theorem dX5_read_101 : decode cX5_read 101 = .ok (.iload 7, 2) := by decide +kernel
theorem dX5_read_103 : decode cX5_read 103 = .ok (.i2l, 1) := by decide +kernel
theorem dX5_read_104 : decode cX5_read 104 = .ok (.ladd, 1) := by decide +kernel
theorem dX5_read_105 : decode cX5_read 105 = .ok (.lconst 0, 1) := by decide +kernel
theorem dX5_read_106 : decode cX5_read 106 = .ok (.aload_n 0, 1) := by decide +kernel
theorem dX5_read_107 : decode cX5_read 107 = .ok (.getfield 45, 3) := by decide +kernel
theorem dX5_read_110 : decode cX5_read 110 = .ok (.iload_n 1, 1) := by decide +kernel
theorem dX5_read_111 : decode cX5_read 111 = .ok (.iaload, 1) := by decide +kernel
theorem dX5_read_112 : decode cX5_read 112 = .ok (.iconst 1, 1) := by decide +kernel
theorem dX5_read_113 : decode cX5_read 113 = .ok (.isub, 1) := by decide +kernel
theorem dX5_read_114 : decode cX5_read 114 = .ok (.i2l, 1) := by decide +kernel
theorem dX5_read_115 : decode cX5_read 115 = .ok (.invokestatic 53, 3) := by decide +kernel
theorem dX5_read_118 : decode cX5_read 118 = .ok (.ifCond .ne 7, 3) := by decide +kernel
theorem dX5_read_121 : decode cX5_read 121 = .ok (.iconst 2, 1) := by decide +kernel
theorem dX5_read_122 : decode cX5_read 122 = .ok (.goto 4, 3) := by decide +kernel
theorem dX5_read_125 : decode cX5_read 125 = .ok (.iconst 0, 1) := by decide +kernel
theorem dX5_read_126 : decode cX5_read 126 = .ok (.istore 5, 2) := by decide +kernel
theorem dX5_read_128 : decode cX5_read 128 = .ok (.iload 5, 2) := by decide +kernel
theorem dX5_read_130 : decode cX5_read 130 = .ok (.ifCond .ne 62, 3) := by decide +kernel
theorem dX5_read_133 : decode cX5_read 133 = .ok (.iload 7, 2) := by decide +kernel
theorem dX5_read_135 : decode cX5_read 135 = .ok (.iconst 2, 1) := by decide +kernel
theorem dX5_read_136 : decode cX5_read 136 = .ok (.irem, 1) := by decide +kernel
theorem dX5_read_137 : decode cX5_read 137 = .ok (.iconst 1, 1) := by decide +kernel
theorem dX5_read_138 : decode cX5_read 138 = .ok (.if_icmp .ne 54, 3) := by decide +kernel
theorem dX5_read_141 : decode cX5_read 141 = .ok (.bipush 40, 2) := by decide +kernel
theorem dX5_read_143 : decode cX5_read 143 = .ok (.iload_n 1, 1) := by decide +kernel
theorem dX5_read_144 : decode cX5_read 144 = .ok (.imul, 1) := by decide +kernel
theorem dX5_read_145 : decode cX5_read 145 = .ok (.iload_n 3, 1) := by decide +kernel
theorem dX5_read_146 : decode cX5_read 146 = .ok (.iadd, 1) := by decide +kernel
theorem dX5_read_147 : decode cX5_read 147 = .ok (.iload 7, 2) := by decide +kernel
theorem dX5_read_149 : decode cX5_read 149 = .ok (.iadd, 1) := by decide +kernel
theorem dX5_read_150 : decode cX5_read 150 = .ok (.istore 8, 2) := by decide +kernel
theorem dX5_read_152 : decode cX5_read 152 = .ok (.aload_n 0, 1) := by decide +kernel
theorem dX5_read_153 : decode cX5_read 153 = .ok (.aload_n 0, 1) := by decide +kernel
theorem dX5_read_154 : decode cX5_read 154 = .ok (.getfield 48, 3) := by decide +kernel
theorem dX5_read_157 : decode cX5_read 157 = .ok (.iload 8, 2) := by decide +kernel
theorem dX5_read_159 : decode cX5_read 159 = .ok (.iconst 1, 1) := by decide +kernel
theorem dX5_read_160 : decode cX5_read 160 = .ok (.isub, 1) := by decide +kernel
theorem dX5_read_161 : decode cX5_read 161 = .ok (.iaload, 1) := by decide +kernel
theorem dX5_read_162 : decode cX5_read 162 = .ok (.aload_n 0, 1) := by decide +kernel
theorem dX5_read_163 : decode cX5_read 163 = .ok (.getfield 48, 3) := by decide +kernel
theorem dX5_read_166 : decode cX5_read 166 = .ok (.iload 8, 2) := by decide +kernel
theorem dX5_read_168 : decode cX5_read 168 = .ok (.iaload, 1) := by decide +kernel
theorem dX5_read_169 : decode cX5_read 169 = .ok (.invokevirtual 196, 3) := by decide +kernel
theorem dX5_read_172 : decode cX5_read 172 = .ok (.ifCond .ge 17, 3) := by decide +kernel
theorem dX5_read_175 : decode cX5_read 175 = .ok (.aload_n 0, 1) := by decide +kernel
theorem dX5_read_176 : decode cX5_read 176 = .ok (.sipush 156, 3) := by decide +kernel
theorem dX5_read_179 : decode cX5_read 179 = .ok (.iconst 0, 1) := by decide +kernel
theorem dX5_read_180 : decode cX5_read 180 = .ok (.invokevirtual 205, 3) := by decide +kernel
theorem dX5_read_183 : decode cX5_read 183 = .ok (.bipush (-20), 2) := by decide +kernel
theorem dX5_read_185 : decode cX5_read 185 = .ok (.iload 6, 2) := by decide +kernel
theorem dX5_read_187 : decode cX5_read 187 = .ok (.isub, 1) := by decide +kernel
theorem dX5_read_188 : decode cX5_read 188 = .ok (.ireturn, 1) := by decide +kernel
theorem dX5_read_189 : decode cX5_read 189 = .ok (.iinc 6 1, 3) := by decide +kernel
theorem dX5_read_192 : decode cX5_read 192 = .ok (.iinc 7 1, 3) := by decide +kernel
theorem dX5_read_195 : decode cX5_read 195 = .ok (.goto (-139), 3) := by decide +kernel
theorem dX5_read_198 : decode cX5_read 198 = .ok (.aload_n 0, 1) := by decide +kernel
theorem dX5_read_199 : decode cX5_read 199 = .ok (.iload 5, 2) := by decide +kernel
theorem dX5_read_201 : decode cX5_read 201 = .ok (.putfield 257, 3) := by decide +kernel
theorem dX5_read_204 : decode cX5_read 204 = .ok (.iload 6, 2) := by decide +kernel
theorem dX5_read_206 : decode cX5_read 206 = .ok (.ireturn, 1) := by decide +kernel
theorem dX5_torn_0 : decode cX5_torn 0 = .ok (.aload_n 0, 1) := by decide +kernel
theorem dX5_torn_1 : decode cX5_torn 1 = .ok (.getfield 257, 3) := by decide +kernel
theorem dX5_torn_4 : decode cX5_torn 4 = .ok (.ireturn, 1) := by decide +kernel
theorem dX5_count_0 : decode cX5_count 0 = .ok (.iconst 0, 1) := by decide +kernel
theorem dX5_count_1 : decode cX5_count 1 = .ok (.istore_n 2, 1) := by decide +kernel
theorem dX5_count_2 : decode cX5_count 2 = .ok (.iconst 0, 1) := by decide +kernel
theorem dX5_count_3 : decode cX5_count 3 = .ok (.istore_n 3, 1) := by decide +kernel
theorem dX5_count_4 : decode cX5_count 4 = .ok (.iconst 0, 1) := by decide +kernel
theorem dX5_count_5 : decode cX5_count 5 = .ok (.istore 4, 2) := by decide +kernel
theorem dX5_count_7 : decode cX5_count 7 = .ok (.iload 4, 2) := by decide +kernel
theorem dX5_count_9 : decode cX5_count 9 = .ok (.aload_n 0, 1) := by decide +kernel
theorem dX5_count_10 : decode cX5_count 10 = .ok (.getfield 7, 3) := by decide +kernel
theorem dX5_count_13 : decode cX5_count 13 = .ok (.bipush 24, 2) := by decide +kernel
theorem dX5_count_15 : decode cX5_count 15 = .ok (.iaload, 1) := by decide +kernel
theorem dX5_count_16 : decode cX5_count 16 = .ok (.if_icmp .ge 35, 3) := by decide +kernel
theorem dX5_count_19 : decode cX5_count 19 = .ok (.iload_n 2, 1) := by decide +kernel
theorem dX5_count_20 : decode cX5_count 20 = .ok (.aload_n 0, 1) := by decide +kernel
theorem dX5_count_21 : decode cX5_count 21 = .ok (.getfield 7, 3) := by decide +kernel
theorem dX5_count_24 : decode cX5_count 24 = .ok (.bipush 8, 2) := by decide +kernel
theorem dX5_count_26 : decode cX5_count 26 = .ok (.iload 4, 2) := by decide +kernel
theorem dX5_count_28 : decode cX5_count 28 = .ok (.iadd, 1) := by decide +kernel
theorem dX5_count_29 : decode cX5_count 29 = .ok (.iaload, 1) := by decide +kernel
theorem dX5_count_30 : decode cX5_count 30 = .ok (.iadd, 1) := by decide +kernel
theorem dX5_count_31 : decode cX5_count 31 = .ok (.istore_n 2, 1) := by decide +kernel
theorem dX5_count_32 : decode cX5_count 32 = .ok (.iload_n 3, 1) := by decide +kernel
theorem dX5_count_33 : decode cX5_count 33 = .ok (.aload_n 0, 1) := by decide +kernel
theorem dX5_count_34 : decode cX5_count 34 = .ok (.getfield 7, 3) := by decide +kernel
theorem dX5_count_37 : decode cX5_count 37 = .ok (.bipush 12, 2) := by decide +kernel
theorem dX5_count_39 : decode cX5_count 39 = .ok (.iload 4, 2) := by decide +kernel
theorem dX5_count_41 : decode cX5_count 41 = .ok (.iadd, 1) := by decide +kernel
theorem dX5_count_42 : decode cX5_count 42 = .ok (.iaload, 1) := by decide +kernel
theorem dX5_count_43 : decode cX5_count 43 = .ok (.iadd, 1) := by decide +kernel
theorem dX5_count_44 : decode cX5_count 44 = .ok (.istore_n 3, 1) := by decide +kernel
theorem dX5_count_45 : decode cX5_count 45 = .ok (.iinc 4 1, 3) := by decide +kernel
theorem dX5_count_48 : decode cX5_count 48 = .ok (.goto (-41), 3) := by decide +kernel
theorem dX5_count_51 : decode cX5_count 51 = .ok (.iload_n 1, 1) := by decide +kernel
theorem dX5_count_52 : decode cX5_count 52 = .ok (.tableswitch 107 0 5 #[40, 45, 75, 80, 103, 105], 40) := by decide +kernel
theorem dX5_count_92 : decode cX5_count 92 = .ok (.aload_n 0, 1) := by decide +kernel
theorem dX5_count_93 : decode cX5_count 93 = .ok (.getfield 120, 3) := by decide +kernel
theorem dX5_count_96 : decode cX5_count 96 = .ok (.ireturn, 1) := by decide +kernel
theorem dX5_count_97 : decode cX5_count 97 = .ok (.aload_n 0, 1) := by decide +kernel
theorem dX5_count_98 : decode cX5_count 98 = .ok (.getfield 38, 3) := by decide +kernel
theorem dX5_count_101 : decode cX5_count 101 = .ok (.iconst 0, 1) := by decide +kernel
theorem dX5_count_102 : decode cX5_count 102 = .ok (.baload, 1) := by decide +kernel
theorem dX5_count_103 : decode cX5_count 103 = .ok (.ifCond .eq 7, 3) := by decide +kernel
theorem dX5_count_106 : decode cX5_count 106 = .ok (.iconst 1, 1) := by decide +kernel
theorem dX5_count_107 : decode cX5_count 107 = .ok (.goto 4, 3) := by decide +kernel
theorem dX5_count_110 : decode cX5_count 110 = .ok (.iconst 0, 1) := by decide +kernel
theorem dX5_count_111 : decode cX5_count 111 = .ok (.aload_n 0, 1) := by decide +kernel
theorem dX5_count_112 : decode cX5_count 112 = .ok (.getfield 38, 3) := by decide +kernel
theorem dX5_count_115 : decode cX5_count 115 = .ok (.iconst 1, 1) := by decide +kernel
theorem dX5_count_116 : decode cX5_count 116 = .ok (.baload, 1) := by decide +kernel
theorem dX5_count_117 : decode cX5_count 117 = .ok (.ifCond .eq 7, 3) := by decide +kernel
theorem dX5_count_120 : decode cX5_count 120 = .ok (.iconst 1, 1) := by decide +kernel
theorem dX5_count_121 : decode cX5_count 121 = .ok (.goto 4, 3) := by decide +kernel
theorem dX5_count_124 : decode cX5_count 124 = .ok (.iconst 0, 1) := by decide +kernel
theorem dX5_count_125 : decode cX5_count 125 = .ok (.iadd, 1) := by decide +kernel
theorem dX5_count_126 : decode cX5_count 126 = .ok (.ireturn, 1) := by decide +kernel
theorem dX5_count_127 : decode cX5_count 127 = .ok (.aload_n 0, 1) := by decide +kernel
theorem dX5_count_128 : decode cX5_count 128 = .ok (.getfield 57, 3) := by decide +kernel
theorem dX5_count_131 : decode cX5_count 131 = .ok (.ireturn, 1) := by decide +kernel
theorem dX5_count_132 : decode cX5_count 132 = .ok (.aload_n 0, 1) := by decide +kernel
theorem dX5_count_133 : decode cX5_count 133 = .ok (.getfield 42, 3) := by decide +kernel
theorem dX5_count_136 : decode cX5_count 136 = .ok (.iconst 0, 1) := by decide +kernel
theorem dX5_count_137 : decode cX5_count 137 = .ok (.iaload, 1) := by decide +kernel
theorem dX5_count_138 : decode cX5_count 138 = .ok (.bipush (-4), 2) := by decide +kernel
theorem dX5_count_140 : decode cX5_count 140 = .ok (.if_icmp .ne 8, 3) := by decide +kernel
theorem dX5_count_143 : decode cX5_count 143 = .ok (.bipush (-4), 2) := by decide +kernel
theorem dX5_count_145 : decode cX5_count 145 = .ok (.goto 9, 3) := by decide +kernel
theorem dX5_count_148 : decode cX5_count 148 = .ok (.aload_n 0, 1) := by decide +kernel
theorem dX5_count_149 : decode cX5_count 149 = .ok (.getfield 45, 3) := by decide +kernel
theorem dX5_count_152 : decode cX5_count 152 = .ok (.iconst 0, 1) := by decide +kernel
theorem dX5_count_153 : decode cX5_count 153 = .ok (.iaload, 1) := by decide +kernel
theorem dX5_count_154 : decode cX5_count 154 = .ok (.ireturn, 1) := by decide +kernel
theorem dX5_count_155 : decode cX5_count 155 = .ok (.iload_n 2, 1) := by decide +kernel
theorem dX5_count_156 : decode cX5_count 156 = .ok (.ireturn, 1) := by decide +kernel
theorem dX5_count_157 : decode cX5_count 157 = .ok (.iload_n 3, 1) := by decide +kernel
theorem dX5_count_158 : decode cX5_count 158 = .ok (.ireturn, 1) := by decide +kernel
theorem dX5_count_159 : decode cX5_count 159 = .ok (.iconst (-1), 1) := by decide +kernel
theorem dX5_count_160 : decode cX5_count 160 = .ok (.ireturn, 1) := by decide +kernel
end
section
theorem dL_law_0 : decode cL_law 0 = .ok (.new 7, 3) := by decide +kernel
theorem dL_law_3 : decode cL_law 3 = .ok (.dup, 1) := by decide +kernel
theorem dL_law_4 : decode cL_law 4 = .ok (.invokespecial 9, 3) := by decide +kernel
theorem dL_law_7 : decode cL_law 7 = .ok (.astore_n 1, 1) := by decide +kernel
theorem dL_law_8 : decode cL_law 8 = .ok (.new 10, 3) := by decide +kernel
theorem dL_law_11 : decode cL_law 11 = .ok (.dup, 1) := by decide +kernel
theorem dL_law_12 : decode cL_law 12 = .ok (.invokespecial 12, 3) := by decide +kernel
theorem dL_law_15 : decode cL_law 15 = .ok (.astore_n 2, 1) := by decide +kernel
theorem dL_law_16 : decode cL_law 16 = .ok (.iconst 0, 1) := by decide +kernel
theorem dL_law_17 : decode cL_law 17 = .ok (.istore_n 3, 1) := by decide +kernel
theorem dL_law_18 : decode cL_law 18 = .ok (.iload_n 3, 1) := by decide +kernel
theorem dL_law_19 : decode cL_law 19 = .ok (.aload_n 0, 1) := by decide +kernel
theorem dL_law_20 : decode cL_law 20 = .ok (.arraylength, 1) := by decide +kernel
theorem dL_law_21 : decode cL_law 21 = .ok (.iconst 5, 1) := by decide +kernel
theorem dL_law_22 : decode cL_law 22 = .ok (.isub, 1) := by decide +kernel
theorem dL_law_23 : decode cL_law 23 = .ok (.if_icmp .gt 1490, 3) := by decide +kernel
theorem dL_law_26 : decode cL_law 26 = .ok (.aload_n 0, 1) := by decide +kernel
theorem dL_law_27 : decode cL_law 27 = .ok (.iload_n 3, 1) := by decide +kernel
theorem dL_law_28 : decode cL_law 28 = .ok (.iaload, 1) := by decide +kernel
theorem dL_law_29 : decode cL_law 29 = .ok (.bipush 63, 2) := by decide +kernel
theorem dL_law_31 : decode cL_law 31 = .ok (.iand, 1) := by decide +kernel
theorem dL_law_32 : decode cL_law 32 = .ok (.tableswitch 1475 0 40 #[180, 203, 226, 239, 252, 275, 308, 341, 384, 407, 460, 483, 516, 549, 572, 585, 608, 641, 684, 717, 730, 773, 816, 859, 902, 935, 968, 1022, 1066, 1109, 1132, 1155, 1178, 1211, 1254, 1277, 1300, 1343, 1386, 1439, 1452], 180) := by decide +kernel
theorem dL_law_212 : decode cL_law 212 = .ok (.aload_n 1, 1) := by decide +kernel
theorem dL_law_213 : decode cL_law 213 = .ok (.aload_n 0, 1) := by decide +kernel
theorem dL_law_214 : decode cL_law 214 = .ok (.iload_n 3, 1) := by decide +kernel
theorem dL_law_215 : decode cL_law 215 = .ok (.iconst 1, 1) := by decide +kernel
theorem dL_law_216 : decode cL_law 216 = .ok (.iadd, 1) := by decide +kernel
theorem dL_law_217 : decode cL_law 217 = .ok (.iaload, 1) := by decide +kernel
theorem dL_law_218 : decode cL_law 218 = .ok (.invokevirtual 13, 3) := by decide +kernel
theorem dL_law_221 : decode cL_law 221 = .ok (.aload_n 2, 1) := by decide +kernel
theorem dL_law_222 : decode cL_law 222 = .ok (.aload_n 0, 1) := by decide +kernel
theorem dL_law_223 : decode cL_law 223 = .ok (.iload_n 3, 1) := by decide +kernel
theorem dL_law_224 : decode cL_law 224 = .ok (.iconst 1, 1) := by decide +kernel
theorem dL_law_225 : decode cL_law 225 = .ok (.iadd, 1) := by decide +kernel
theorem dL_law_226 : decode cL_law 226 = .ok (.iaload, 1) := by decide +kernel
theorem dL_law_227 : decode cL_law 227 = .ok (.invokevirtual 17, 3) := by decide +kernel
theorem dL_law_230 : decode cL_law 230 = .ok (.if_icmp .eq 1277, 3) := by decide +kernel
theorem dL_law_233 : decode cL_law 233 = .ok (.iconst 0, 1) := by decide +kernel
theorem dL_law_234 : decode cL_law 234 = .ok (.ireturn, 1) := by decide +kernel
theorem dL_law_235 : decode cL_law 235 = .ok (.aload_n 1, 1) := by decide +kernel
theorem dL_law_236 : decode cL_law 236 = .ok (.aload_n 0, 1) := by decide +kernel
theorem dL_law_237 : decode cL_law 237 = .ok (.iload_n 3, 1) := by decide +kernel
theorem dL_law_238 : decode cL_law 238 = .ok (.iconst 1, 1) := by decide +kernel
theorem dL_law_239 : decode cL_law 239 = .ok (.iadd, 1) := by decide +kernel
theorem dL_law_240 : decode cL_law 240 = .ok (.iaload, 1) := by decide +kernel
theorem dL_law_241 : decode cL_law 241 = .ok (.invokevirtual 18, 3) := by decide +kernel
theorem dL_law_244 : decode cL_law 244 = .ok (.aload_n 2, 1) := by decide +kernel
theorem dL_law_245 : decode cL_law 245 = .ok (.aload_n 0, 1) := by decide +kernel
theorem dL_law_246 : decode cL_law 246 = .ok (.iload_n 3, 1) := by decide +kernel
theorem dL_law_247 : decode cL_law 247 = .ok (.iconst 1, 1) := by decide +kernel
theorem dL_law_248 : decode cL_law 248 = .ok (.iadd, 1) := by decide +kernel
theorem dL_law_249 : decode cL_law 249 = .ok (.iaload, 1) := by decide +kernel
theorem dL_law_250 : decode cL_law 250 = .ok (.invokevirtual 21, 3) := by decide +kernel
theorem dL_law_253 : decode cL_law 253 = .ok (.if_icmp .eq 1254, 3) := by decide +kernel
theorem dL_law_256 : decode cL_law 256 = .ok (.iconst 0, 1) := by decide +kernel
theorem dL_law_257 : decode cL_law 257 = .ok (.ireturn, 1) := by decide +kernel
theorem dL_law_258 : decode cL_law 258 = .ok (.aload_n 1, 1) := by decide +kernel
theorem dL_law_259 : decode cL_law 259 = .ok (.invokevirtual 22, 3) := by decide +kernel
theorem dL_law_262 : decode cL_law 262 = .ok (.aload_n 2, 1) := by decide +kernel
theorem dL_law_263 : decode cL_law 263 = .ok (.invokevirtual 26, 3) := by decide +kernel
theorem dL_law_266 : decode cL_law 266 = .ok (.if_icmp .eq 1241, 3) := by decide +kernel
theorem dL_law_269 : decode cL_law 269 = .ok (.iconst 0, 1) := by decide +kernel
theorem dL_law_270 : decode cL_law 270 = .ok (.ireturn, 1) := by decide +kernel
theorem dL_law_271 : decode cL_law 271 = .ok (.aload_n 1, 1) := by decide +kernel
theorem dL_law_272 : decode cL_law 272 = .ok (.invokevirtual 27, 3) := by decide +kernel
theorem dL_law_275 : decode cL_law 275 = .ok (.aload_n 2, 1) := by decide +kernel
theorem dL_law_276 : decode cL_law 276 = .ok (.invokevirtual 30, 3) := by decide +kernel
theorem dL_law_279 : decode cL_law 279 = .ok (.if_icmp .eq 1228, 3) := by decide +kernel
theorem dL_law_282 : decode cL_law 282 = .ok (.iconst 0, 1) := by decide +kernel
theorem dL_law_283 : decode cL_law 283 = .ok (.ireturn, 1) := by decide +kernel
theorem dL_law_284 : decode cL_law 284 = .ok (.aload_n 1, 1) := by decide +kernel
theorem dL_law_285 : decode cL_law 285 = .ok (.aload_n 0, 1) := by decide +kernel
theorem dL_law_286 : decode cL_law 286 = .ok (.iload_n 3, 1) := by decide +kernel
theorem dL_law_287 : decode cL_law 287 = .ok (.iconst 1, 1) := by decide +kernel
theorem dL_law_288 : decode cL_law 288 = .ok (.iadd, 1) := by decide +kernel
theorem dL_law_289 : decode cL_law 289 = .ok (.iaload, 1) := by decide +kernel
theorem dL_law_290 : decode cL_law 290 = .ok (.invokevirtual 31, 3) := by decide +kernel
theorem dL_law_293 : decode cL_law 293 = .ok (.aload_n 2, 1) := by decide +kernel
theorem dL_law_294 : decode cL_law 294 = .ok (.aload_n 0, 1) := by decide +kernel
theorem dL_law_295 : decode cL_law 295 = .ok (.iload_n 3, 1) := by decide +kernel
theorem dL_law_296 : decode cL_law 296 = .ok (.iconst 1, 1) := by decide +kernel
theorem dL_law_297 : decode cL_law 297 = .ok (.iadd, 1) := by decide +kernel
theorem dL_law_298 : decode cL_law 298 = .ok (.iaload, 1) := by decide +kernel
theorem dL_law_299 : decode cL_law 299 = .ok (.invokevirtual 34, 3) := by decide +kernel
theorem dL_law_302 : decode cL_law 302 = .ok (.if_icmp .eq 1205, 3) := by decide +kernel
theorem dL_law_305 : decode cL_law 305 = .ok (.iconst 0, 1) := by decide +kernel
theorem dL_law_306 : decode cL_law 306 = .ok (.ireturn, 1) := by decide +kernel
theorem dL_law_307 : decode cL_law 307 = .ok (.aload_n 1, 1) := by decide +kernel
theorem dL_law_308 : decode cL_law 308 = .ok (.aload_n 0, 1) := by decide +kernel
theorem dL_law_309 : decode cL_law 309 = .ok (.iload_n 3, 1) := by decide +kernel
theorem dL_law_310 : decode cL_law 310 = .ok (.iconst 1, 1) := by decide +kernel
theorem dL_law_311 : decode cL_law 311 = .ok (.iadd, 1) := by decide +kernel
theorem dL_law_312 : decode cL_law 312 = .ok (.iaload, 1) := by decide +kernel
theorem dL_law_313 : decode cL_law 313 = .ok (.aload_n 0, 1) := by decide +kernel
theorem dL_law_314 : decode cL_law 314 = .ok (.iload_n 3, 1) := by decide +kernel
theorem dL_law_315 : decode cL_law 315 = .ok (.iconst 2, 1) := by decide +kernel
theorem dL_law_316 : decode cL_law 316 = .ok (.iadd, 1) := by decide +kernel
theorem dL_law_317 : decode cL_law 317 = .ok (.iaload, 1) := by decide +kernel
theorem dL_law_318 : decode cL_law 318 = .ok (.invokevirtual 35, 3) := by decide +kernel
theorem dL_law_321 : decode cL_law 321 = .ok (.aload_n 2, 1) := by decide +kernel
theorem dL_law_322 : decode cL_law 322 = .ok (.aload_n 0, 1) := by decide +kernel
theorem dL_law_323 : decode cL_law 323 = .ok (.iload_n 3, 1) := by decide +kernel
theorem dL_law_324 : decode cL_law 324 = .ok (.iconst 1, 1) := by decide +kernel
theorem dL_law_325 : decode cL_law 325 = .ok (.iadd, 1) := by decide +kernel
theorem dL_law_326 : decode cL_law 326 = .ok (.iaload, 1) := by decide +kernel
theorem dL_law_327 : decode cL_law 327 = .ok (.aload_n 0, 1) := by decide +kernel
theorem dL_law_328 : decode cL_law 328 = .ok (.iload_n 3, 1) := by decide +kernel
theorem dL_law_329 : decode cL_law 329 = .ok (.iconst 2, 1) := by decide +kernel
theorem dL_law_330 : decode cL_law 330 = .ok (.iadd, 1) := by decide +kernel
theorem dL_law_331 : decode cL_law 331 = .ok (.iaload, 1) := by decide +kernel
theorem dL_law_332 : decode cL_law 332 = .ok (.invokevirtual 39, 3) := by decide +kernel
theorem dL_law_335 : decode cL_law 335 = .ok (.if_icmp .eq 1172, 3) := by decide +kernel
theorem dL_law_338 : decode cL_law 338 = .ok (.iconst 0, 1) := by decide +kernel
theorem dL_law_339 : decode cL_law 339 = .ok (.ireturn, 1) := by decide +kernel
theorem dL_law_340 : decode cL_law 340 = .ok (.aload_n 1, 1) := by decide +kernel
theorem dL_law_341 : decode cL_law 341 = .ok (.aload_n 0, 1) := by decide +kernel
theorem dL_law_342 : decode cL_law 342 = .ok (.iload_n 3, 1) := by decide +kernel
theorem dL_law_343 : decode cL_law 343 = .ok (.iconst 1, 1) := by decide +kernel
theorem dL_law_344 : decode cL_law 344 = .ok (.iadd, 1) := by decide +kernel
theorem dL_law_345 : decode cL_law 345 = .ok (.iaload, 1) := by decide +kernel
theorem dL_law_346 : decode cL_law 346 = .ok (.aload_n 0, 1) := by decide +kernel
theorem dL_law_347 : decode cL_law 347 = .ok (.iload_n 3, 1) := by decide +kernel
theorem dL_law_348 : decode cL_law 348 = .ok (.iconst 2, 1) := by decide +kernel
theorem dL_law_349 : decode cL_law 349 = .ok (.iadd, 1) := by decide +kernel
theorem dL_law_350 : decode cL_law 350 = .ok (.iaload, 1) := by decide +kernel
theorem dL_law_351 : decode cL_law 351 = .ok (.invokevirtual 40, 3) := by decide +kernel
theorem dL_law_354 : decode cL_law 354 = .ok (.aload_n 2, 1) := by decide +kernel
theorem dL_law_355 : decode cL_law 355 = .ok (.aload_n 0, 1) := by decide +kernel
theorem dL_law_356 : decode cL_law 356 = .ok (.iload_n 3, 1) := by decide +kernel
theorem dL_law_357 : decode cL_law 357 = .ok (.iconst 1, 1) := by decide +kernel
theorem dL_law_358 : decode cL_law 358 = .ok (.iadd, 1) := by decide +kernel
theorem dL_law_359 : decode cL_law 359 = .ok (.iaload, 1) := by decide +kernel
theorem dL_law_360 : decode cL_law 360 = .ok (.aload_n 0, 1) := by decide +kernel
theorem dL_law_361 : decode cL_law 361 = .ok (.iload_n 3, 1) := by decide +kernel
theorem dL_law_362 : decode cL_law 362 = .ok (.iconst 2, 1) := by decide +kernel
theorem dL_law_363 : decode cL_law 363 = .ok (.iadd, 1) := by decide +kernel
theorem dL_law_364 : decode cL_law 364 = .ok (.iaload, 1) := by decide +kernel
theorem dL_law_365 : decode cL_law 365 = .ok (.invokevirtual 43, 3) := by decide +kernel
theorem dL_law_368 : decode cL_law 368 = .ok (.if_icmp .eq 1139, 3) := by decide +kernel
theorem dL_law_371 : decode cL_law 371 = .ok (.iconst 0, 1) := by decide +kernel
theorem dL_law_372 : decode cL_law 372 = .ok (.ireturn, 1) := by decide +kernel
theorem dL_law_373 : decode cL_law 373 = .ok (.aload_n 1, 1) := by decide +kernel
theorem dL_law_374 : decode cL_law 374 = .ok (.aload_n 0, 1) := by decide +kernel
theorem dL_law_375 : decode cL_law 375 = .ok (.iload_n 3, 1) := by decide +kernel
theorem dL_law_376 : decode cL_law 376 = .ok (.iconst 1, 1) := by decide +kernel
theorem dL_law_377 : decode cL_law 377 = .ok (.iadd, 1) := by decide +kernel
theorem dL_law_378 : decode cL_law 378 = .ok (.iaload, 1) := by decide +kernel
theorem dL_law_379 : decode cL_law 379 = .ok (.aload_n 0, 1) := by decide +kernel
theorem dL_law_380 : decode cL_law 380 = .ok (.iload_n 3, 1) := by decide +kernel
theorem dL_law_381 : decode cL_law 381 = .ok (.iconst 2, 1) := by decide +kernel
theorem dL_law_382 : decode cL_law 382 = .ok (.iadd, 1) := by decide +kernel
theorem dL_law_383 : decode cL_law 383 = .ok (.iaload, 1) := by decide +kernel
theorem dL_law_384 : decode cL_law 384 = .ok (.aload_n 0, 1) := by decide +kernel
theorem dL_law_385 : decode cL_law 385 = .ok (.iload_n 3, 1) := by decide +kernel
theorem dL_law_386 : decode cL_law 386 = .ok (.iconst 3, 1) := by decide +kernel
theorem dL_law_387 : decode cL_law 387 = .ok (.iadd, 1) := by decide +kernel
theorem dL_law_388 : decode cL_law 388 = .ok (.iaload, 1) := by decide +kernel
theorem dL_law_389 : decode cL_law 389 = .ok (.invokevirtual 44, 3) := by decide +kernel
theorem dL_law_392 : decode cL_law 392 = .ok (.aload_n 2, 1) := by decide +kernel
theorem dL_law_393 : decode cL_law 393 = .ok (.aload_n 0, 1) := by decide +kernel
theorem dL_law_394 : decode cL_law 394 = .ok (.iload_n 3, 1) := by decide +kernel
theorem dL_law_395 : decode cL_law 395 = .ok (.iconst 1, 1) := by decide +kernel
theorem dL_law_396 : decode cL_law 396 = .ok (.iadd, 1) := by decide +kernel
theorem dL_law_397 : decode cL_law 397 = .ok (.iaload, 1) := by decide +kernel
theorem dL_law_398 : decode cL_law 398 = .ok (.aload_n 0, 1) := by decide +kernel
theorem dL_law_399 : decode cL_law 399 = .ok (.iload_n 3, 1) := by decide +kernel
theorem dL_law_400 : decode cL_law 400 = .ok (.iconst 2, 1) := by decide +kernel
theorem dL_law_401 : decode cL_law 401 = .ok (.iadd, 1) := by decide +kernel
theorem dL_law_402 : decode cL_law 402 = .ok (.iaload, 1) := by decide +kernel
theorem dL_law_403 : decode cL_law 403 = .ok (.aload_n 0, 1) := by decide +kernel
theorem dL_law_404 : decode cL_law 404 = .ok (.iload_n 3, 1) := by decide +kernel
theorem dL_law_405 : decode cL_law 405 = .ok (.iconst 3, 1) := by decide +kernel
theorem dL_law_406 : decode cL_law 406 = .ok (.iadd, 1) := by decide +kernel
theorem dL_law_407 : decode cL_law 407 = .ok (.iaload, 1) := by decide +kernel
theorem dL_law_408 : decode cL_law 408 = .ok (.invokevirtual 48, 3) := by decide +kernel
theorem dL_law_411 : decode cL_law 411 = .ok (.if_icmp .eq 1096, 3) := by decide +kernel
theorem dL_law_414 : decode cL_law 414 = .ok (.iconst 0, 1) := by decide +kernel
theorem dL_law_415 : decode cL_law 415 = .ok (.ireturn, 1) := by decide +kernel
theorem dL_law_416 : decode cL_law 416 = .ok (.aload_n 1, 1) := by decide +kernel
theorem dL_law_417 : decode cL_law 417 = .ok (.aload_n 0, 1) := by decide +kernel
theorem dL_law_418 : decode cL_law 418 = .ok (.iload_n 3, 1) := by decide +kernel
theorem dL_law_419 : decode cL_law 419 = .ok (.iconst 1, 1) := by decide +kernel
theorem dL_law_420 : decode cL_law 420 = .ok (.iadd, 1) := by decide +kernel
theorem dL_law_421 : decode cL_law 421 = .ok (.iaload, 1) := by decide +kernel
theorem dL_law_422 : decode cL_law 422 = .ok (.invokevirtual 49, 3) := by decide +kernel
theorem dL_law_425 : decode cL_law 425 = .ok (.aload_n 2, 1) := by decide +kernel
theorem dL_law_426 : decode cL_law 426 = .ok (.aload_n 0, 1) := by decide +kernel
theorem dL_law_427 : decode cL_law 427 = .ok (.iload_n 3, 1) := by decide +kernel
theorem dL_law_428 : decode cL_law 428 = .ok (.iconst 1, 1) := by decide +kernel
theorem dL_law_429 : decode cL_law 429 = .ok (.iadd, 1) := by decide +kernel
theorem dL_law_430 : decode cL_law 430 = .ok (.iaload, 1) := by decide +kernel
theorem dL_law_431 : decode cL_law 431 = .ok (.invokevirtual 52, 3) := by decide +kernel
theorem dL_law_434 : decode cL_law 434 = .ok (.if_icmp .eq 1073, 3) := by decide +kernel
theorem dL_law_437 : decode cL_law 437 = .ok (.iconst 0, 1) := by decide +kernel
theorem dL_law_438 : decode cL_law 438 = .ok (.ireturn, 1) := by decide +kernel
theorem dL_law_439 : decode cL_law 439 = .ok (.aload_n 1, 1) := by decide +kernel
theorem dL_law_440 : decode cL_law 440 = .ok (.aload_n 0, 1) := by decide +kernel
theorem dL_law_441 : decode cL_law 441 = .ok (.iload_n 3, 1) := by decide +kernel
theorem dL_law_442 : decode cL_law 442 = .ok (.iconst 1, 1) := by decide +kernel
theorem dL_law_443 : decode cL_law 443 = .ok (.iadd, 1) := by decide +kernel
theorem dL_law_444 : decode cL_law 444 = .ok (.iaload, 1) := by decide +kernel
theorem dL_law_445 : decode cL_law 445 = .ok (.aload_n 0, 1) := by decide +kernel
theorem dL_law_446 : decode cL_law 446 = .ok (.iload_n 3, 1) := by decide +kernel
theorem dL_law_447 : decode cL_law 447 = .ok (.iconst 2, 1) := by decide +kernel
theorem dL_law_448 : decode cL_law 448 = .ok (.iadd, 1) := by decide +kernel
theorem dL_law_449 : decode cL_law 449 = .ok (.iaload, 1) := by decide +kernel
theorem dL_law_450 : decode cL_law 450 = .ok (.aload_n 0, 1) := by decide +kernel
theorem dL_law_451 : decode cL_law 451 = .ok (.iload_n 3, 1) := by decide +kernel
theorem dL_law_452 : decode cL_law 452 = .ok (.iconst 3, 1) := by decide +kernel
theorem dL_law_453 : decode cL_law 453 = .ok (.iadd, 1) := by decide +kernel
theorem dL_law_454 : decode cL_law 454 = .ok (.iaload, 1) := by decide +kernel
theorem dL_law_455 : decode cL_law 455 = .ok (.aload_n 0, 1) := by decide +kernel
theorem dL_law_456 : decode cL_law 456 = .ok (.iload_n 3, 1) := by decide +kernel
theorem dL_law_457 : decode cL_law 457 = .ok (.iconst 4, 1) := by decide +kernel
theorem dL_law_458 : decode cL_law 458 = .ok (.iadd, 1) := by decide +kernel
theorem dL_law_459 : decode cL_law 459 = .ok (.iaload, 1) := by decide +kernel
theorem dL_law_460 : decode cL_law 460 = .ok (.invokevirtual 53, 3) := by decide +kernel
theorem dL_law_463 : decode cL_law 463 = .ok (.aload_n 2, 1) := by decide +kernel
theorem dL_law_464 : decode cL_law 464 = .ok (.aload_n 0, 1) := by decide +kernel
theorem dL_law_465 : decode cL_law 465 = .ok (.iload_n 3, 1) := by decide +kernel
theorem dL_law_466 : decode cL_law 466 = .ok (.iconst 1, 1) := by decide +kernel
theorem dL_law_467 : decode cL_law 467 = .ok (.iadd, 1) := by decide +kernel
theorem dL_law_468 : decode cL_law 468 = .ok (.iaload, 1) := by decide +kernel
theorem dL_law_469 : decode cL_law 469 = .ok (.aload_n 0, 1) := by decide +kernel
theorem dL_law_470 : decode cL_law 470 = .ok (.iload_n 3, 1) := by decide +kernel
theorem dL_law_471 : decode cL_law 471 = .ok (.iconst 2, 1) := by decide +kernel
theorem dL_law_472 : decode cL_law 472 = .ok (.iadd, 1) := by decide +kernel
theorem dL_law_473 : decode cL_law 473 = .ok (.iaload, 1) := by decide +kernel
theorem dL_law_474 : decode cL_law 474 = .ok (.aload_n 0, 1) := by decide +kernel
theorem dL_law_475 : decode cL_law 475 = .ok (.iload_n 3, 1) := by decide +kernel
theorem dL_law_476 : decode cL_law 476 = .ok (.iconst 3, 1) := by decide +kernel
theorem dL_law_477 : decode cL_law 477 = .ok (.iadd, 1) := by decide +kernel
theorem dL_law_478 : decode cL_law 478 = .ok (.iaload, 1) := by decide +kernel
theorem dL_law_479 : decode cL_law 479 = .ok (.aload_n 0, 1) := by decide +kernel
theorem dL_law_480 : decode cL_law 480 = .ok (.iload_n 3, 1) := by decide +kernel
theorem dL_law_481 : decode cL_law 481 = .ok (.iconst 4, 1) := by decide +kernel
theorem dL_law_482 : decode cL_law 482 = .ok (.iadd, 1) := by decide +kernel
theorem dL_law_483 : decode cL_law 483 = .ok (.iaload, 1) := by decide +kernel
theorem dL_law_484 : decode cL_law 484 = .ok (.invokevirtual 57, 3) := by decide +kernel
theorem dL_law_487 : decode cL_law 487 = .ok (.if_icmp .eq 1020, 3) := by decide +kernel
theorem dL_law_490 : decode cL_law 490 = .ok (.iconst 0, 1) := by decide +kernel
theorem dL_law_491 : decode cL_law 491 = .ok (.ireturn, 1) := by decide +kernel
theorem dL_law_492 : decode cL_law 492 = .ok (.aload_n 1, 1) := by decide +kernel
theorem dL_law_493 : decode cL_law 493 = .ok (.aload_n 0, 1) := by decide +kernel
theorem dL_law_494 : decode cL_law 494 = .ok (.iload_n 3, 1) := by decide +kernel
theorem dL_law_495 : decode cL_law 495 = .ok (.iconst 1, 1) := by decide +kernel
theorem dL_law_496 : decode cL_law 496 = .ok (.iadd, 1) := by decide +kernel
theorem dL_law_497 : decode cL_law 497 = .ok (.iaload, 1) := by decide +kernel
theorem dL_law_498 : decode cL_law 498 = .ok (.invokevirtual 58, 3) := by decide +kernel
theorem dL_law_501 : decode cL_law 501 = .ok (.aload_n 2, 1) := by decide +kernel
theorem dL_law_502 : decode cL_law 502 = .ok (.aload_n 0, 1) := by decide +kernel
theorem dL_law_503 : decode cL_law 503 = .ok (.iload_n 3, 1) := by decide +kernel
theorem dL_law_504 : decode cL_law 504 = .ok (.iconst 1, 1) := by decide +kernel
theorem dL_law_505 : decode cL_law 505 = .ok (.iadd, 1) := by decide +kernel
theorem dL_law_506 : decode cL_law 506 = .ok (.iaload, 1) := by decide +kernel
theorem dL_law_507 : decode cL_law 507 = .ok (.invokevirtual 61, 3) := by decide +kernel
theorem dL_law_510 : decode cL_law 510 = .ok (.if_icmp .eq 997, 3) := by decide +kernel
theorem dL_law_513 : decode cL_law 513 = .ok (.iconst 0, 1) := by decide +kernel
theorem dL_law_514 : decode cL_law 514 = .ok (.ireturn, 1) := by decide +kernel
theorem dL_law_515 : decode cL_law 515 = .ok (.aload_n 1, 1) := by decide +kernel
theorem dL_law_516 : decode cL_law 516 = .ok (.aload_n 0, 1) := by decide +kernel
theorem dL_law_517 : decode cL_law 517 = .ok (.iload_n 3, 1) := by decide +kernel
theorem dL_law_518 : decode cL_law 518 = .ok (.iconst 1, 1) := by decide +kernel
theorem dL_law_519 : decode cL_law 519 = .ok (.iadd, 1) := by decide +kernel
theorem dL_law_520 : decode cL_law 520 = .ok (.iaload, 1) := by decide +kernel
theorem dL_law_521 : decode cL_law 521 = .ok (.aload_n 0, 1) := by decide +kernel
theorem dL_law_522 : decode cL_law 522 = .ok (.iload_n 3, 1) := by decide +kernel
theorem dL_law_523 : decode cL_law 523 = .ok (.iconst 2, 1) := by decide +kernel
theorem dL_law_524 : decode cL_law 524 = .ok (.iadd, 1) := by decide +kernel
theorem dL_law_525 : decode cL_law 525 = .ok (.iaload, 1) := by decide +kernel
theorem dL_law_526 : decode cL_law 526 = .ok (.invokevirtual 62, 3) := by decide +kernel
theorem dL_law_529 : decode cL_law 529 = .ok (.aload_n 2, 1) := by decide +kernel
theorem dL_law_530 : decode cL_law 530 = .ok (.aload_n 0, 1) := by decide +kernel
theorem dL_law_531 : decode cL_law 531 = .ok (.iload_n 3, 1) := by decide +kernel
theorem dL_law_532 : decode cL_law 532 = .ok (.iconst 1, 1) := by decide +kernel
theorem dL_law_533 : decode cL_law 533 = .ok (.iadd, 1) := by decide +kernel
theorem dL_law_534 : decode cL_law 534 = .ok (.iaload, 1) := by decide +kernel
theorem dL_law_535 : decode cL_law 535 = .ok (.aload_n 0, 1) := by decide +kernel
theorem dL_law_536 : decode cL_law 536 = .ok (.iload_n 3, 1) := by decide +kernel
theorem dL_law_537 : decode cL_law 537 = .ok (.iconst 2, 1) := by decide +kernel
theorem dL_law_538 : decode cL_law 538 = .ok (.iadd, 1) := by decide +kernel
theorem dL_law_539 : decode cL_law 539 = .ok (.iaload, 1) := by decide +kernel
theorem dL_law_540 : decode cL_law 540 = .ok (.invokevirtual 65, 3) := by decide +kernel
theorem dL_law_543 : decode cL_law 543 = .ok (.if_icmp .eq 964, 3) := by decide +kernel
theorem dL_law_546 : decode cL_law 546 = .ok (.iconst 0, 1) := by decide +kernel
theorem dL_law_547 : decode cL_law 547 = .ok (.ireturn, 1) := by decide +kernel
theorem dL_law_548 : decode cL_law 548 = .ok (.aload_n 1, 1) := by decide +kernel
theorem dL_law_549 : decode cL_law 549 = .ok (.aload_n 0, 1) := by decide +kernel
theorem dL_law_550 : decode cL_law 550 = .ok (.iload_n 3, 1) := by decide +kernel
theorem dL_law_551 : decode cL_law 551 = .ok (.iconst 1, 1) := by decide +kernel
theorem dL_law_552 : decode cL_law 552 = .ok (.iadd, 1) := by decide +kernel
theorem dL_law_553 : decode cL_law 553 = .ok (.iaload, 1) := by decide +kernel
theorem dL_law_554 : decode cL_law 554 = .ok (.aload_n 0, 1) := by decide +kernel
theorem dL_law_555 : decode cL_law 555 = .ok (.iload_n 3, 1) := by decide +kernel
theorem dL_law_556 : decode cL_law 556 = .ok (.iconst 2, 1) := by decide +kernel
theorem dL_law_557 : decode cL_law 557 = .ok (.iadd, 1) := by decide +kernel
theorem dL_law_558 : decode cL_law 558 = .ok (.iaload, 1) := by decide +kernel
theorem dL_law_559 : decode cL_law 559 = .ok (.invokevirtual 66, 3) := by decide +kernel
theorem dL_law_562 : decode cL_law 562 = .ok (.aload_n 2, 1) := by decide +kernel
theorem dL_law_563 : decode cL_law 563 = .ok (.aload_n 0, 1) := by decide +kernel
theorem dL_law_564 : decode cL_law 564 = .ok (.iload_n 3, 1) := by decide +kernel
theorem dL_law_565 : decode cL_law 565 = .ok (.iconst 1, 1) := by decide +kernel
theorem dL_law_566 : decode cL_law 566 = .ok (.iadd, 1) := by decide +kernel
theorem dL_law_567 : decode cL_law 567 = .ok (.iaload, 1) := by decide +kernel
theorem dL_law_568 : decode cL_law 568 = .ok (.aload_n 0, 1) := by decide +kernel
theorem dL_law_569 : decode cL_law 569 = .ok (.iload_n 3, 1) := by decide +kernel
theorem dL_law_570 : decode cL_law 570 = .ok (.iconst 2, 1) := by decide +kernel
theorem dL_law_571 : decode cL_law 571 = .ok (.iadd, 1) := by decide +kernel
theorem dL_law_572 : decode cL_law 572 = .ok (.iaload, 1) := by decide +kernel
theorem dL_law_573 : decode cL_law 573 = .ok (.invokevirtual 69, 3) := by decide +kernel
theorem dL_law_576 : decode cL_law 576 = .ok (.if_icmp .eq 931, 3) := by decide +kernel
theorem dL_law_579 : decode cL_law 579 = .ok (.iconst 0, 1) := by decide +kernel
theorem dL_law_580 : decode cL_law 580 = .ok (.ireturn, 1) := by decide +kernel
theorem dL_law_581 : decode cL_law 581 = .ok (.aload_n 1, 1) := by decide +kernel
theorem dL_law_582 : decode cL_law 582 = .ok (.aload_n 0, 1) := by decide +kernel
theorem dL_law_583 : decode cL_law 583 = .ok (.iload_n 3, 1) := by decide +kernel
theorem dL_law_584 : decode cL_law 584 = .ok (.iconst 1, 1) := by decide +kernel
theorem dL_law_585 : decode cL_law 585 = .ok (.iadd, 1) := by decide +kernel
theorem dL_law_586 : decode cL_law 586 = .ok (.iaload, 1) := by decide +kernel
theorem dL_law_587 : decode cL_law 587 = .ok (.invokevirtual 70, 3) := by decide +kernel
theorem dL_law_590 : decode cL_law 590 = .ok (.aload_n 2, 1) := by decide +kernel
theorem dL_law_591 : decode cL_law 591 = .ok (.aload_n 0, 1) := by decide +kernel
theorem dL_law_592 : decode cL_law 592 = .ok (.iload_n 3, 1) := by decide +kernel
theorem dL_law_593 : decode cL_law 593 = .ok (.iconst 1, 1) := by decide +kernel
theorem dL_law_594 : decode cL_law 594 = .ok (.iadd, 1) := by decide +kernel
theorem dL_law_595 : decode cL_law 595 = .ok (.iaload, 1) := by decide +kernel
theorem dL_law_596 : decode cL_law 596 = .ok (.invokevirtual 73, 3) := by decide +kernel
theorem dL_law_599 : decode cL_law 599 = .ok (.if_icmp .eq 908, 3) := by decide +kernel
theorem dL_law_602 : decode cL_law 602 = .ok (.iconst 0, 1) := by decide +kernel
theorem dL_law_603 : decode cL_law 603 = .ok (.ireturn, 1) := by decide +kernel
theorem dL_law_604 : decode cL_law 604 = .ok (.aload_n 1, 1) := by decide +kernel
theorem dL_law_605 : decode cL_law 605 = .ok (.invokevirtual 74, 3) := by decide +kernel
theorem dL_law_608 : decode cL_law 608 = .ok (.aload_n 2, 1) := by decide +kernel
theorem dL_law_609 : decode cL_law 609 = .ok (.invokevirtual 77, 3) := by decide +kernel
theorem dL_law_612 : decode cL_law 612 = .ok (.if_icmp .eq 895, 3) := by decide +kernel
theorem dL_law_615 : decode cL_law 615 = .ok (.iconst 0, 1) := by decide +kernel
theorem dL_law_616 : decode cL_law 616 = .ok (.ireturn, 1) := by decide +kernel
theorem dL_law_617 : decode cL_law 617 = .ok (.aload_n 1, 1) := by decide +kernel
theorem dL_law_618 : decode cL_law 618 = .ok (.aload_n 0, 1) := by decide +kernel
theorem dL_law_619 : decode cL_law 619 = .ok (.iload_n 3, 1) := by decide +kernel
theorem dL_law_620 : decode cL_law 620 = .ok (.iconst 1, 1) := by decide +kernel
theorem dL_law_621 : decode cL_law 621 = .ok (.iadd, 1) := by decide +kernel
theorem dL_law_622 : decode cL_law 622 = .ok (.iaload, 1) := by decide +kernel
theorem dL_law_623 : decode cL_law 623 = .ok (.invokevirtual 78, 3) := by decide +kernel
theorem dL_law_626 : decode cL_law 626 = .ok (.aload_n 2, 1) := by decide +kernel
theorem dL_law_627 : decode cL_law 627 = .ok (.aload_n 0, 1) := by decide +kernel
theorem dL_law_628 : decode cL_law 628 = .ok (.iload_n 3, 1) := by decide +kernel
theorem dL_law_629 : decode cL_law 629 = .ok (.iconst 1, 1) := by decide +kernel
theorem dL_law_630 : decode cL_law 630 = .ok (.iadd, 1) := by decide +kernel
theorem dL_law_631 : decode cL_law 631 = .ok (.iaload, 1) := by decide +kernel
theorem dL_law_632 : decode cL_law 632 = .ok (.invokevirtual 81, 3) := by decide +kernel
theorem dL_law_635 : decode cL_law 635 = .ok (.if_icmp .eq 872, 3) := by decide +kernel
theorem dL_law_638 : decode cL_law 638 = .ok (.iconst 0, 1) := by decide +kernel
theorem dL_law_639 : decode cL_law 639 = .ok (.ireturn, 1) := by decide +kernel
theorem dL_law_640 : decode cL_law 640 = .ok (.aload_n 1, 1) := by decide +kernel
theorem dL_law_641 : decode cL_law 641 = .ok (.aload_n 0, 1) := by decide +kernel
theorem dL_law_642 : decode cL_law 642 = .ok (.iload_n 3, 1) := by decide +kernel
theorem dL_law_643 : decode cL_law 643 = .ok (.iconst 1, 1) := by decide +kernel
theorem dL_law_644 : decode cL_law 644 = .ok (.iadd, 1) := by decide +kernel
theorem dL_law_645 : decode cL_law 645 = .ok (.iaload, 1) := by decide +kernel
theorem dL_law_646 : decode cL_law 646 = .ok (.aload_n 0, 1) := by decide +kernel
theorem dL_law_647 : decode cL_law 647 = .ok (.iload_n 3, 1) := by decide +kernel
theorem dL_law_648 : decode cL_law 648 = .ok (.iconst 2, 1) := by decide +kernel
theorem dL_law_649 : decode cL_law 649 = .ok (.iadd, 1) := by decide +kernel
theorem dL_law_650 : decode cL_law 650 = .ok (.iaload, 1) := by decide +kernel
theorem dL_law_651 : decode cL_law 651 = .ok (.invokevirtual 82, 3) := by decide +kernel
theorem dL_law_654 : decode cL_law 654 = .ok (.aload_n 2, 1) := by decide +kernel
theorem dL_law_655 : decode cL_law 655 = .ok (.aload_n 0, 1) := by decide +kernel
theorem dL_law_656 : decode cL_law 656 = .ok (.iload_n 3, 1) := by decide +kernel
theorem dL_law_657 : decode cL_law 657 = .ok (.iconst 1, 1) := by decide +kernel
theorem dL_law_658 : decode cL_law 658 = .ok (.iadd, 1) := by decide +kernel
theorem dL_law_659 : decode cL_law 659 = .ok (.iaload, 1) := by decide +kernel
theorem dL_law_660 : decode cL_law 660 = .ok (.aload_n 0, 1) := by decide +kernel
theorem dL_law_661 : decode cL_law 661 = .ok (.iload_n 3, 1) := by decide +kernel
theorem dL_law_662 : decode cL_law 662 = .ok (.iconst 2, 1) := by decide +kernel
theorem dL_law_663 : decode cL_law 663 = .ok (.iadd, 1) := by decide +kernel
theorem dL_law_664 : decode cL_law 664 = .ok (.iaload, 1) := by decide +kernel
theorem dL_law_665 : decode cL_law 665 = .ok (.invokevirtual 85, 3) := by decide +kernel
theorem dL_law_668 : decode cL_law 668 = .ok (.if_icmp .eq 839, 3) := by decide +kernel
theorem dL_law_671 : decode cL_law 671 = .ok (.iconst 0, 1) := by decide +kernel
theorem dL_law_672 : decode cL_law 672 = .ok (.ireturn, 1) := by decide +kernel
theorem dL_law_673 : decode cL_law 673 = .ok (.aload_n 1, 1) := by decide +kernel
theorem dL_law_674 : decode cL_law 674 = .ok (.aload_n 0, 1) := by decide +kernel
theorem dL_law_675 : decode cL_law 675 = .ok (.iload_n 3, 1) := by decide +kernel
theorem dL_law_676 : decode cL_law 676 = .ok (.iconst 1, 1) := by decide +kernel
theorem dL_law_677 : decode cL_law 677 = .ok (.iadd, 1) := by decide +kernel
theorem dL_law_678 : decode cL_law 678 = .ok (.iaload, 1) := by decide +kernel
theorem dL_law_679 : decode cL_law 679 = .ok (.aload_n 0, 1) := by decide +kernel
theorem dL_law_680 : decode cL_law 680 = .ok (.iload_n 3, 1) := by decide +kernel
theorem dL_law_681 : decode cL_law 681 = .ok (.iconst 2, 1) := by decide +kernel
theorem dL_law_682 : decode cL_law 682 = .ok (.iadd, 1) := by decide +kernel
theorem dL_law_683 : decode cL_law 683 = .ok (.iaload, 1) := by decide +kernel
theorem dL_law_684 : decode cL_law 684 = .ok (.aload_n 0, 1) := by decide +kernel
theorem dL_law_685 : decode cL_law 685 = .ok (.iload_n 3, 1) := by decide +kernel
theorem dL_law_686 : decode cL_law 686 = .ok (.iconst 3, 1) := by decide +kernel
theorem dL_law_687 : decode cL_law 687 = .ok (.iadd, 1) := by decide +kernel
theorem dL_law_688 : decode cL_law 688 = .ok (.iaload, 1) := by decide +kernel
theorem dL_law_689 : decode cL_law 689 = .ok (.invokevirtual 86, 3) := by decide +kernel
theorem dL_law_692 : decode cL_law 692 = .ok (.aload_n 2, 1) := by decide +kernel
theorem dL_law_693 : decode cL_law 693 = .ok (.aload_n 0, 1) := by decide +kernel
theorem dL_law_694 : decode cL_law 694 = .ok (.iload_n 3, 1) := by decide +kernel
theorem dL_law_695 : decode cL_law 695 = .ok (.iconst 1, 1) := by decide +kernel
theorem dL_law_696 : decode cL_law 696 = .ok (.iadd, 1) := by decide +kernel
theorem dL_law_697 : decode cL_law 697 = .ok (.iaload, 1) := by decide +kernel
theorem dL_law_698 : decode cL_law 698 = .ok (.aload_n 0, 1) := by decide +kernel
theorem dL_law_699 : decode cL_law 699 = .ok (.iload_n 3, 1) := by decide +kernel
theorem dL_law_700 : decode cL_law 700 = .ok (.iconst 2, 1) := by decide +kernel
theorem dL_law_701 : decode cL_law 701 = .ok (.iadd, 1) := by decide +kernel
theorem dL_law_702 : decode cL_law 702 = .ok (.iaload, 1) := by decide +kernel
theorem dL_law_703 : decode cL_law 703 = .ok (.aload_n 0, 1) := by decide +kernel
theorem dL_law_704 : decode cL_law 704 = .ok (.iload_n 3, 1) := by decide +kernel
theorem dL_law_705 : decode cL_law 705 = .ok (.iconst 3, 1) := by decide +kernel
theorem dL_law_706 : decode cL_law 706 = .ok (.iadd, 1) := by decide +kernel
theorem dL_law_707 : decode cL_law 707 = .ok (.iaload, 1) := by decide +kernel
theorem dL_law_708 : decode cL_law 708 = .ok (.invokevirtual 89, 3) := by decide +kernel
theorem dL_law_711 : decode cL_law 711 = .ok (.if_icmp .eq 796, 3) := by decide +kernel
theorem dL_law_714 : decode cL_law 714 = .ok (.iconst 0, 1) := by decide +kernel
theorem dL_law_715 : decode cL_law 715 = .ok (.ireturn, 1) := by decide +kernel
theorem dL_law_716 : decode cL_law 716 = .ok (.aload_n 1, 1) := by decide +kernel
theorem dL_law_717 : decode cL_law 717 = .ok (.aload_n 0, 1) := by decide +kernel
theorem dL_law_718 : decode cL_law 718 = .ok (.iload_n 3, 1) := by decide +kernel
theorem dL_law_719 : decode cL_law 719 = .ok (.iconst 1, 1) := by decide +kernel
theorem dL_law_720 : decode cL_law 720 = .ok (.iadd, 1) := by decide +kernel
theorem dL_law_721 : decode cL_law 721 = .ok (.iaload, 1) := by decide +kernel
theorem dL_law_722 : decode cL_law 722 = .ok (.aload_n 0, 1) := by decide +kernel
theorem dL_law_723 : decode cL_law 723 = .ok (.iload_n 3, 1) := by decide +kernel
theorem dL_law_724 : decode cL_law 724 = .ok (.iconst 2, 1) := by decide +kernel
theorem dL_law_725 : decode cL_law 725 = .ok (.iadd, 1) := by decide +kernel
theorem dL_law_726 : decode cL_law 726 = .ok (.iaload, 1) := by decide +kernel
theorem dL_law_727 : decode cL_law 727 = .ok (.invokevirtual 90, 3) := by decide +kernel
theorem dL_law_730 : decode cL_law 730 = .ok (.aload_n 2, 1) := by decide +kernel
theorem dL_law_731 : decode cL_law 731 = .ok (.aload_n 0, 1) := by decide +kernel
theorem dL_law_732 : decode cL_law 732 = .ok (.iload_n 3, 1) := by decide +kernel
theorem dL_law_733 : decode cL_law 733 = .ok (.iconst 1, 1) := by decide +kernel
theorem dL_law_734 : decode cL_law 734 = .ok (.iadd, 1) := by decide +kernel
theorem dL_law_735 : decode cL_law 735 = .ok (.iaload, 1) := by decide +kernel
theorem dL_law_736 : decode cL_law 736 = .ok (.aload_n 0, 1) := by decide +kernel
theorem dL_law_737 : decode cL_law 737 = .ok (.iload_n 3, 1) := by decide +kernel
theorem dL_law_738 : decode cL_law 738 = .ok (.iconst 2, 1) := by decide +kernel
theorem dL_law_739 : decode cL_law 739 = .ok (.iadd, 1) := by decide +kernel
theorem dL_law_740 : decode cL_law 740 = .ok (.iaload, 1) := by decide +kernel
theorem dL_law_741 : decode cL_law 741 = .ok (.invokevirtual 93, 3) := by decide +kernel
theorem dL_law_744 : decode cL_law 744 = .ok (.if_icmp .eq 763, 3) := by decide +kernel
theorem dL_law_747 : decode cL_law 747 = .ok (.iconst 0, 1) := by decide +kernel
theorem dL_law_748 : decode cL_law 748 = .ok (.ireturn, 1) := by decide +kernel
theorem dL_law_749 : decode cL_law 749 = .ok (.aload_n 1, 1) := by decide +kernel
theorem dL_law_750 : decode cL_law 750 = .ok (.invokevirtual 94, 3) := by decide +kernel
theorem dL_law_753 : decode cL_law 753 = .ok (.aload_n 2, 1) := by decide +kernel
theorem dL_law_754 : decode cL_law 754 = .ok (.invokevirtual 97, 3) := by decide +kernel
theorem dL_law_757 : decode cL_law 757 = .ok (.if_icmp .eq 750, 3) := by decide +kernel
theorem dL_law_760 : decode cL_law 760 = .ok (.iconst 0, 1) := by decide +kernel
theorem dL_law_761 : decode cL_law 761 = .ok (.ireturn, 1) := by decide +kernel
theorem dL_law_762 : decode cL_law 762 = .ok (.aload_n 1, 1) := by decide +kernel
theorem dL_law_763 : decode cL_law 763 = .ok (.aload_n 0, 1) := by decide +kernel
theorem dL_law_764 : decode cL_law 764 = .ok (.iload_n 3, 1) := by decide +kernel
theorem dL_law_765 : decode cL_law 765 = .ok (.iconst 1, 1) := by decide +kernel
theorem dL_law_766 : decode cL_law 766 = .ok (.iadd, 1) := by decide +kernel
theorem dL_law_767 : decode cL_law 767 = .ok (.iaload, 1) := by decide +kernel
theorem dL_law_768 : decode cL_law 768 = .ok (.aload_n 0, 1) := by decide +kernel
theorem dL_law_769 : decode cL_law 769 = .ok (.iload_n 3, 1) := by decide +kernel
theorem dL_law_770 : decode cL_law 770 = .ok (.iconst 2, 1) := by decide +kernel
theorem dL_law_771 : decode cL_law 771 = .ok (.iadd, 1) := by decide +kernel
theorem dL_law_772 : decode cL_law 772 = .ok (.iaload, 1) := by decide +kernel
theorem dL_law_773 : decode cL_law 773 = .ok (.aload_n 0, 1) := by decide +kernel
theorem dL_law_774 : decode cL_law 774 = .ok (.iload_n 3, 1) := by decide +kernel
theorem dL_law_775 : decode cL_law 775 = .ok (.iconst 3, 1) := by decide +kernel
theorem dL_law_776 : decode cL_law 776 = .ok (.iadd, 1) := by decide +kernel
theorem dL_law_777 : decode cL_law 777 = .ok (.iaload, 1) := by decide +kernel
theorem dL_law_778 : decode cL_law 778 = .ok (.invokevirtual 98, 3) := by decide +kernel
theorem dL_law_781 : decode cL_law 781 = .ok (.aload_n 2, 1) := by decide +kernel
theorem dL_law_782 : decode cL_law 782 = .ok (.aload_n 0, 1) := by decide +kernel
theorem dL_law_783 : decode cL_law 783 = .ok (.iload_n 3, 1) := by decide +kernel
theorem dL_law_784 : decode cL_law 784 = .ok (.iconst 1, 1) := by decide +kernel
theorem dL_law_785 : decode cL_law 785 = .ok (.iadd, 1) := by decide +kernel
theorem dL_law_786 : decode cL_law 786 = .ok (.iaload, 1) := by decide +kernel
theorem dL_law_787 : decode cL_law 787 = .ok (.aload_n 0, 1) := by decide +kernel
theorem dL_law_788 : decode cL_law 788 = .ok (.iload_n 3, 1) := by decide +kernel
theorem dL_law_789 : decode cL_law 789 = .ok (.iconst 2, 1) := by decide +kernel
theorem dL_law_790 : decode cL_law 790 = .ok (.iadd, 1) := by decide +kernel
theorem dL_law_791 : decode cL_law 791 = .ok (.iaload, 1) := by decide +kernel
theorem dL_law_792 : decode cL_law 792 = .ok (.aload_n 0, 1) := by decide +kernel
theorem dL_law_793 : decode cL_law 793 = .ok (.iload_n 3, 1) := by decide +kernel
theorem dL_law_794 : decode cL_law 794 = .ok (.iconst 3, 1) := by decide +kernel
theorem dL_law_795 : decode cL_law 795 = .ok (.iadd, 1) := by decide +kernel
theorem dL_law_796 : decode cL_law 796 = .ok (.iaload, 1) := by decide +kernel
theorem dL_law_797 : decode cL_law 797 = .ok (.invokevirtual 101, 3) := by decide +kernel
theorem dL_law_800 : decode cL_law 800 = .ok (.if_icmp .eq 707, 3) := by decide +kernel
theorem dL_law_803 : decode cL_law 803 = .ok (.iconst 0, 1) := by decide +kernel
theorem dL_law_804 : decode cL_law 804 = .ok (.ireturn, 1) := by decide +kernel
theorem dL_law_805 : decode cL_law 805 = .ok (.aload_n 1, 1) := by decide +kernel
theorem dL_law_806 : decode cL_law 806 = .ok (.aload_n 0, 1) := by decide +kernel
theorem dL_law_807 : decode cL_law 807 = .ok (.iload_n 3, 1) := by decide +kernel
theorem dL_law_808 : decode cL_law 808 = .ok (.iconst 1, 1) := by decide +kernel
theorem dL_law_809 : decode cL_law 809 = .ok (.iadd, 1) := by decide +kernel
theorem dL_law_810 : decode cL_law 810 = .ok (.iaload, 1) := by decide +kernel
theorem dL_law_811 : decode cL_law 811 = .ok (.aload_n 0, 1) := by decide +kernel
theorem dL_law_812 : decode cL_law 812 = .ok (.iload_n 3, 1) := by decide +kernel
theorem dL_law_813 : decode cL_law 813 = .ok (.iconst 2, 1) := by decide +kernel
theorem dL_law_814 : decode cL_law 814 = .ok (.iadd, 1) := by decide +kernel
theorem dL_law_815 : decode cL_law 815 = .ok (.iaload, 1) := by decide +kernel
theorem dL_law_816 : decode cL_law 816 = .ok (.aload_n 0, 1) := by decide +kernel
theorem dL_law_817 : decode cL_law 817 = .ok (.iload_n 3, 1) := by decide +kernel
theorem dL_law_818 : decode cL_law 818 = .ok (.iconst 3, 1) := by decide +kernel
theorem dL_law_819 : decode cL_law 819 = .ok (.iadd, 1) := by decide +kernel
theorem dL_law_820 : decode cL_law 820 = .ok (.iaload, 1) := by decide +kernel
theorem dL_law_821 : decode cL_law 821 = .ok (.invokevirtual 102, 3) := by decide +kernel
theorem dL_law_824 : decode cL_law 824 = .ok (.aload_n 2, 1) := by decide +kernel
theorem dL_law_825 : decode cL_law 825 = .ok (.aload_n 0, 1) := by decide +kernel
theorem dL_law_826 : decode cL_law 826 = .ok (.iload_n 3, 1) := by decide +kernel
theorem dL_law_827 : decode cL_law 827 = .ok (.iconst 1, 1) := by decide +kernel
theorem dL_law_828 : decode cL_law 828 = .ok (.iadd, 1) := by decide +kernel
theorem dL_law_829 : decode cL_law 829 = .ok (.iaload, 1) := by decide +kernel
theorem dL_law_830 : decode cL_law 830 = .ok (.aload_n 0, 1) := by decide +kernel
theorem dL_law_831 : decode cL_law 831 = .ok (.iload_n 3, 1) := by decide +kernel
theorem dL_law_832 : decode cL_law 832 = .ok (.iconst 2, 1) := by decide +kernel
theorem dL_law_833 : decode cL_law 833 = .ok (.iadd, 1) := by decide +kernel
theorem dL_law_834 : decode cL_law 834 = .ok (.iaload, 1) := by decide +kernel
theorem dL_law_835 : decode cL_law 835 = .ok (.aload_n 0, 1) := by decide +kernel
theorem dL_law_836 : decode cL_law 836 = .ok (.iload_n 3, 1) := by decide +kernel
theorem dL_law_837 : decode cL_law 837 = .ok (.iconst 3, 1) := by decide +kernel
theorem dL_law_838 : decode cL_law 838 = .ok (.iadd, 1) := by decide +kernel
theorem dL_law_839 : decode cL_law 839 = .ok (.iaload, 1) := by decide +kernel
theorem dL_law_840 : decode cL_law 840 = .ok (.invokevirtual 105, 3) := by decide +kernel
theorem dL_law_843 : decode cL_law 843 = .ok (.if_icmp .eq 664, 3) := by decide +kernel
theorem dL_law_846 : decode cL_law 846 = .ok (.iconst 0, 1) := by decide +kernel
theorem dL_law_847 : decode cL_law 847 = .ok (.ireturn, 1) := by decide +kernel
theorem dL_law_848 : decode cL_law 848 = .ok (.aload_n 1, 1) := by decide +kernel
theorem dL_law_849 : decode cL_law 849 = .ok (.aload_n 0, 1) := by decide +kernel
theorem dL_law_850 : decode cL_law 850 = .ok (.iload_n 3, 1) := by decide +kernel
theorem dL_law_851 : decode cL_law 851 = .ok (.iconst 1, 1) := by decide +kernel
theorem dL_law_852 : decode cL_law 852 = .ok (.iadd, 1) := by decide +kernel
theorem dL_law_853 : decode cL_law 853 = .ok (.iaload, 1) := by decide +kernel
theorem dL_law_854 : decode cL_law 854 = .ok (.aload_n 0, 1) := by decide +kernel
theorem dL_law_855 : decode cL_law 855 = .ok (.iload_n 3, 1) := by decide +kernel
theorem dL_law_856 : decode cL_law 856 = .ok (.iconst 2, 1) := by decide +kernel
theorem dL_law_857 : decode cL_law 857 = .ok (.iadd, 1) := by decide +kernel
theorem dL_law_858 : decode cL_law 858 = .ok (.iaload, 1) := by decide +kernel
theorem dL_law_859 : decode cL_law 859 = .ok (.aload_n 0, 1) := by decide +kernel
theorem dL_law_860 : decode cL_law 860 = .ok (.iload_n 3, 1) := by decide +kernel
theorem dL_law_861 : decode cL_law 861 = .ok (.iconst 3, 1) := by decide +kernel
theorem dL_law_862 : decode cL_law 862 = .ok (.iadd, 1) := by decide +kernel
theorem dL_law_863 : decode cL_law 863 = .ok (.iaload, 1) := by decide +kernel
theorem dL_law_864 : decode cL_law 864 = .ok (.invokevirtual 106, 3) := by decide +kernel
theorem dL_law_867 : decode cL_law 867 = .ok (.aload_n 2, 1) := by decide +kernel
theorem dL_law_868 : decode cL_law 868 = .ok (.aload_n 0, 1) := by decide +kernel
theorem dL_law_869 : decode cL_law 869 = .ok (.iload_n 3, 1) := by decide +kernel
theorem dL_law_870 : decode cL_law 870 = .ok (.iconst 1, 1) := by decide +kernel
theorem dL_law_871 : decode cL_law 871 = .ok (.iadd, 1) := by decide +kernel
theorem dL_law_872 : decode cL_law 872 = .ok (.iaload, 1) := by decide +kernel
theorem dL_law_873 : decode cL_law 873 = .ok (.aload_n 0, 1) := by decide +kernel
theorem dL_law_874 : decode cL_law 874 = .ok (.iload_n 3, 1) := by decide +kernel
theorem dL_law_875 : decode cL_law 875 = .ok (.iconst 2, 1) := by decide +kernel
theorem dL_law_876 : decode cL_law 876 = .ok (.iadd, 1) := by decide +kernel
theorem dL_law_877 : decode cL_law 877 = .ok (.iaload, 1) := by decide +kernel
theorem dL_law_878 : decode cL_law 878 = .ok (.aload_n 0, 1) := by decide +kernel
theorem dL_law_879 : decode cL_law 879 = .ok (.iload_n 3, 1) := by decide +kernel
theorem dL_law_880 : decode cL_law 880 = .ok (.iconst 3, 1) := by decide +kernel
theorem dL_law_881 : decode cL_law 881 = .ok (.iadd, 1) := by decide +kernel
theorem dL_law_882 : decode cL_law 882 = .ok (.iaload, 1) := by decide +kernel
theorem dL_law_883 : decode cL_law 883 = .ok (.invokevirtual 109, 3) := by decide +kernel
theorem dL_law_886 : decode cL_law 886 = .ok (.if_icmp .eq 621, 3) := by decide +kernel
theorem dL_law_889 : decode cL_law 889 = .ok (.iconst 0, 1) := by decide +kernel
theorem dL_law_890 : decode cL_law 890 = .ok (.ireturn, 1) := by decide +kernel
theorem dL_law_891 : decode cL_law 891 = .ok (.aload_n 1, 1) := by decide +kernel
theorem dL_law_892 : decode cL_law 892 = .ok (.aload_n 0, 1) := by decide +kernel
theorem dL_law_893 : decode cL_law 893 = .ok (.iload_n 3, 1) := by decide +kernel
theorem dL_law_894 : decode cL_law 894 = .ok (.iconst 1, 1) := by decide +kernel
theorem dL_law_895 : decode cL_law 895 = .ok (.iadd, 1) := by decide +kernel
theorem dL_law_896 : decode cL_law 896 = .ok (.iaload, 1) := by decide +kernel
theorem dL_law_897 : decode cL_law 897 = .ok (.aload_n 0, 1) := by decide +kernel
theorem dL_law_898 : decode cL_law 898 = .ok (.iload_n 3, 1) := by decide +kernel
theorem dL_law_899 : decode cL_law 899 = .ok (.iconst 2, 1) := by decide +kernel
theorem dL_law_900 : decode cL_law 900 = .ok (.iadd, 1) := by decide +kernel
theorem dL_law_901 : decode cL_law 901 = .ok (.iaload, 1) := by decide +kernel
theorem dL_law_902 : decode cL_law 902 = .ok (.aload_n 0, 1) := by decide +kernel
theorem dL_law_903 : decode cL_law 903 = .ok (.iload_n 3, 1) := by decide +kernel
theorem dL_law_904 : decode cL_law 904 = .ok (.iconst 3, 1) := by decide +kernel
theorem dL_law_905 : decode cL_law 905 = .ok (.iadd, 1) := by decide +kernel
theorem dL_law_906 : decode cL_law 906 = .ok (.iaload, 1) := by decide +kernel
theorem dL_law_907 : decode cL_law 907 = .ok (.invokevirtual 110, 3) := by decide +kernel
theorem dL_law_910 : decode cL_law 910 = .ok (.aload_n 2, 1) := by decide +kernel
theorem dL_law_911 : decode cL_law 911 = .ok (.aload_n 0, 1) := by decide +kernel
theorem dL_law_912 : decode cL_law 912 = .ok (.iload_n 3, 1) := by decide +kernel
theorem dL_law_913 : decode cL_law 913 = .ok (.iconst 1, 1) := by decide +kernel
theorem dL_law_914 : decode cL_law 914 = .ok (.iadd, 1) := by decide +kernel
theorem dL_law_915 : decode cL_law 915 = .ok (.iaload, 1) := by decide +kernel
theorem dL_law_916 : decode cL_law 916 = .ok (.aload_n 0, 1) := by decide +kernel
theorem dL_law_917 : decode cL_law 917 = .ok (.iload_n 3, 1) := by decide +kernel
theorem dL_law_918 : decode cL_law 918 = .ok (.iconst 2, 1) := by decide +kernel
theorem dL_law_919 : decode cL_law 919 = .ok (.iadd, 1) := by decide +kernel
theorem dL_law_920 : decode cL_law 920 = .ok (.iaload, 1) := by decide +kernel
theorem dL_law_921 : decode cL_law 921 = .ok (.aload_n 0, 1) := by decide +kernel
theorem dL_law_922 : decode cL_law 922 = .ok (.iload_n 3, 1) := by decide +kernel
theorem dL_law_923 : decode cL_law 923 = .ok (.iconst 3, 1) := by decide +kernel
theorem dL_law_924 : decode cL_law 924 = .ok (.iadd, 1) := by decide +kernel
theorem dL_law_925 : decode cL_law 925 = .ok (.iaload, 1) := by decide +kernel
theorem dL_law_926 : decode cL_law 926 = .ok (.invokevirtual 113, 3) := by decide +kernel
theorem dL_law_929 : decode cL_law 929 = .ok (.if_icmp .eq 578, 3) := by decide +kernel
theorem dL_law_932 : decode cL_law 932 = .ok (.iconst 0, 1) := by decide +kernel
theorem dL_law_933 : decode cL_law 933 = .ok (.ireturn, 1) := by decide +kernel
theorem dL_law_934 : decode cL_law 934 = .ok (.aload_n 1, 1) := by decide +kernel
theorem dL_law_935 : decode cL_law 935 = .ok (.aload_n 0, 1) := by decide +kernel
theorem dL_law_936 : decode cL_law 936 = .ok (.iload_n 3, 1) := by decide +kernel
theorem dL_law_937 : decode cL_law 937 = .ok (.iconst 1, 1) := by decide +kernel
theorem dL_law_938 : decode cL_law 938 = .ok (.iadd, 1) := by decide +kernel
theorem dL_law_939 : decode cL_law 939 = .ok (.iaload, 1) := by decide +kernel
theorem dL_law_940 : decode cL_law 940 = .ok (.aload_n 0, 1) := by decide +kernel
theorem dL_law_941 : decode cL_law 941 = .ok (.iload_n 3, 1) := by decide +kernel
theorem dL_law_942 : decode cL_law 942 = .ok (.iconst 2, 1) := by decide +kernel
theorem dL_law_943 : decode cL_law 943 = .ok (.iadd, 1) := by decide +kernel
theorem dL_law_944 : decode cL_law 944 = .ok (.iaload, 1) := by decide +kernel
theorem dL_law_945 : decode cL_law 945 = .ok (.invokevirtual 114, 3) := by decide +kernel
theorem dL_law_948 : decode cL_law 948 = .ok (.aload_n 2, 1) := by decide +kernel
theorem dL_law_949 : decode cL_law 949 = .ok (.aload_n 0, 1) := by decide +kernel
theorem dL_law_950 : decode cL_law 950 = .ok (.iload_n 3, 1) := by decide +kernel
theorem dL_law_951 : decode cL_law 951 = .ok (.iconst 1, 1) := by decide +kernel
theorem dL_law_952 : decode cL_law 952 = .ok (.iadd, 1) := by decide +kernel
theorem dL_law_953 : decode cL_law 953 = .ok (.iaload, 1) := by decide +kernel
theorem dL_law_954 : decode cL_law 954 = .ok (.aload_n 0, 1) := by decide +kernel
theorem dL_law_955 : decode cL_law 955 = .ok (.iload_n 3, 1) := by decide +kernel
theorem dL_law_956 : decode cL_law 956 = .ok (.iconst 2, 1) := by decide +kernel
theorem dL_law_957 : decode cL_law 957 = .ok (.iadd, 1) := by decide +kernel
theorem dL_law_958 : decode cL_law 958 = .ok (.iaload, 1) := by decide +kernel
theorem dL_law_959 : decode cL_law 959 = .ok (.invokevirtual 117, 3) := by decide +kernel
theorem dL_law_962 : decode cL_law 962 = .ok (.if_icmp .eq 545, 3) := by decide +kernel
theorem dL_law_965 : decode cL_law 965 = .ok (.iconst 0, 1) := by decide +kernel
theorem dL_law_966 : decode cL_law 966 = .ok (.ireturn, 1) := by decide +kernel
theorem dL_law_967 : decode cL_law 967 = .ok (.aload_n 1, 1) := by decide +kernel
theorem dL_law_968 : decode cL_law 968 = .ok (.aload_n 0, 1) := by decide +kernel
theorem dL_law_969 : decode cL_law 969 = .ok (.iload_n 3, 1) := by decide +kernel
theorem dL_law_970 : decode cL_law 970 = .ok (.iconst 1, 1) := by decide +kernel
theorem dL_law_971 : decode cL_law 971 = .ok (.iadd, 1) := by decide +kernel
theorem dL_law_972 : decode cL_law 972 = .ok (.iaload, 1) := by decide +kernel
theorem dL_law_973 : decode cL_law 973 = .ok (.aload_n 0, 1) := by decide +kernel
theorem dL_law_974 : decode cL_law 974 = .ok (.iload_n 3, 1) := by decide +kernel
theorem dL_law_975 : decode cL_law 975 = .ok (.iconst 2, 1) := by decide +kernel
theorem dL_law_976 : decode cL_law 976 = .ok (.iadd, 1) := by decide +kernel
theorem dL_law_977 : decode cL_law 977 = .ok (.iaload, 1) := by decide +kernel
theorem dL_law_978 : decode cL_law 978 = .ok (.invokevirtual 118, 3) := by decide +kernel
theorem dL_law_981 : decode cL_law 981 = .ok (.aload_n 2, 1) := by decide +kernel
theorem dL_law_982 : decode cL_law 982 = .ok (.aload_n 0, 1) := by decide +kernel
theorem dL_law_983 : decode cL_law 983 = .ok (.iload_n 3, 1) := by decide +kernel
theorem dL_law_984 : decode cL_law 984 = .ok (.iconst 1, 1) := by decide +kernel
theorem dL_law_985 : decode cL_law 985 = .ok (.iadd, 1) := by decide +kernel
theorem dL_law_986 : decode cL_law 986 = .ok (.iaload, 1) := by decide +kernel
theorem dL_law_987 : decode cL_law 987 = .ok (.aload_n 0, 1) := by decide +kernel
theorem dL_law_988 : decode cL_law 988 = .ok (.iload_n 3, 1) := by decide +kernel
theorem dL_law_989 : decode cL_law 989 = .ok (.iconst 2, 1) := by decide +kernel
theorem dL_law_990 : decode cL_law 990 = .ok (.iadd, 1) := by decide +kernel
theorem dL_law_991 : decode cL_law 991 = .ok (.iaload, 1) := by decide +kernel
theorem dL_law_992 : decode cL_law 992 = .ok (.invokevirtual 121, 3) := by decide +kernel
theorem dL_law_995 : decode cL_law 995 = .ok (.if_icmp .eq 512, 3) := by decide +kernel
theorem dL_law_998 : decode cL_law 998 = .ok (.iconst 0, 1) := by decide +kernel
theorem dL_law_999 : decode cL_law 999 = .ok (.ireturn, 1) := by decide +kernel
theorem dL_law_1000 : decode cL_law 1000 = .ok (.aload_n 1, 1) := by decide +kernel
theorem dL_law_1001 : decode cL_law 1001 = .ok (.aload_n 0, 1) := by decide +kernel
theorem dL_law_1002 : decode cL_law 1002 = .ok (.iload_n 3, 1) := by decide +kernel
theorem dL_law_1003 : decode cL_law 1003 = .ok (.iconst 1, 1) := by decide +kernel
theorem dL_law_1004 : decode cL_law 1004 = .ok (.iadd, 1) := by decide +kernel
theorem dL_law_1005 : decode cL_law 1005 = .ok (.iaload, 1) := by decide +kernel
theorem dL_law_1006 : decode cL_law 1006 = .ok (.aload_n 0, 1) := by decide +kernel
theorem dL_law_1007 : decode cL_law 1007 = .ok (.iload_n 3, 1) := by decide +kernel
theorem dL_law_1008 : decode cL_law 1008 = .ok (.iconst 2, 1) := by decide +kernel
theorem dL_law_1009 : decode cL_law 1009 = .ok (.iadd, 1) := by decide +kernel
theorem dL_law_1010 : decode cL_law 1010 = .ok (.iaload, 1) := by decide +kernel
theorem dL_law_1011 : decode cL_law 1011 = .ok (.aload_n 0, 1) := by decide +kernel
theorem dL_law_1012 : decode cL_law 1012 = .ok (.iload_n 3, 1) := by decide +kernel
theorem dL_law_1013 : decode cL_law 1013 = .ok (.iconst 3, 1) := by decide +kernel
theorem dL_law_1014 : decode cL_law 1014 = .ok (.iadd, 1) := by decide +kernel
theorem dL_law_1015 : decode cL_law 1015 = .ok (.iaload, 1) := by decide +kernel
theorem dL_law_1016 : decode cL_law 1016 = .ok (.aload_n 0, 1) := by decide +kernel
theorem dL_law_1017 : decode cL_law 1017 = .ok (.iload_n 3, 1) := by decide +kernel
theorem dL_law_1018 : decode cL_law 1018 = .ok (.iconst 4, 1) := by decide +kernel
theorem dL_law_1019 : decode cL_law 1019 = .ok (.iadd, 1) := by decide +kernel
theorem dL_law_1020 : decode cL_law 1020 = .ok (.iaload, 1) := by decide +kernel
theorem dL_law_1021 : decode cL_law 1021 = .ok (.invokevirtual 122, 3) := by decide +kernel
theorem dL_law_1024 : decode cL_law 1024 = .ok (.aload_n 2, 1) := by decide +kernel
theorem dL_law_1025 : decode cL_law 1025 = .ok (.aload_n 0, 1) := by decide +kernel
theorem dL_law_1026 : decode cL_law 1026 = .ok (.iload_n 3, 1) := by decide +kernel
theorem dL_law_1027 : decode cL_law 1027 = .ok (.iconst 1, 1) := by decide +kernel
theorem dL_law_1028 : decode cL_law 1028 = .ok (.iadd, 1) := by decide +kernel
theorem dL_law_1029 : decode cL_law 1029 = .ok (.iaload, 1) := by decide +kernel
theorem dL_law_1030 : decode cL_law 1030 = .ok (.aload_n 0, 1) := by decide +kernel
theorem dL_law_1031 : decode cL_law 1031 = .ok (.iload_n 3, 1) := by decide +kernel
theorem dL_law_1032 : decode cL_law 1032 = .ok (.iconst 2, 1) := by decide +kernel
theorem dL_law_1033 : decode cL_law 1033 = .ok (.iadd, 1) := by decide +kernel
theorem dL_law_1034 : decode cL_law 1034 = .ok (.iaload, 1) := by decide +kernel
theorem dL_law_1035 : decode cL_law 1035 = .ok (.aload_n 0, 1) := by decide +kernel
theorem dL_law_1036 : decode cL_law 1036 = .ok (.iload_n 3, 1) := by decide +kernel
theorem dL_law_1037 : decode cL_law 1037 = .ok (.iconst 3, 1) := by decide +kernel
theorem dL_law_1038 : decode cL_law 1038 = .ok (.iadd, 1) := by decide +kernel
theorem dL_law_1039 : decode cL_law 1039 = .ok (.iaload, 1) := by decide +kernel
theorem dL_law_1040 : decode cL_law 1040 = .ok (.aload_n 0, 1) := by decide +kernel
theorem dL_law_1041 : decode cL_law 1041 = .ok (.iload_n 3, 1) := by decide +kernel
theorem dL_law_1042 : decode cL_law 1042 = .ok (.iconst 4, 1) := by decide +kernel
theorem dL_law_1043 : decode cL_law 1043 = .ok (.iadd, 1) := by decide +kernel
theorem dL_law_1044 : decode cL_law 1044 = .ok (.iaload, 1) := by decide +kernel
theorem dL_law_1045 : decode cL_law 1045 = .ok (.invokevirtual 126, 3) := by decide +kernel
theorem dL_law_1048 : decode cL_law 1048 = .ok (.lcmp, 1) := by decide +kernel
theorem dL_law_1049 : decode cL_law 1049 = .ok (.ifCond .eq 458, 3) := by decide +kernel
theorem dL_law_1052 : decode cL_law 1052 = .ok (.iconst 0, 1) := by decide +kernel
theorem dL_law_1053 : decode cL_law 1053 = .ok (.ireturn, 1) := by decide +kernel
theorem dL_law_1054 : decode cL_law 1054 = .ok (.aload_n 1, 1) := by decide +kernel
theorem dL_law_1055 : decode cL_law 1055 = .ok (.aload_n 0, 1) := by decide +kernel
theorem dL_law_1056 : decode cL_law 1056 = .ok (.iload_n 3, 1) := by decide +kernel
theorem dL_law_1057 : decode cL_law 1057 = .ok (.iconst 1, 1) := by decide +kernel
theorem dL_law_1058 : decode cL_law 1058 = .ok (.iadd, 1) := by decide +kernel
theorem dL_law_1059 : decode cL_law 1059 = .ok (.iaload, 1) := by decide +kernel
theorem dL_law_1060 : decode cL_law 1060 = .ok (.aload_n 0, 1) := by decide +kernel
theorem dL_law_1061 : decode cL_law 1061 = .ok (.iload_n 3, 1) := by decide +kernel
theorem dL_law_1062 : decode cL_law 1062 = .ok (.iconst 2, 1) := by decide +kernel
theorem dL_law_1063 : decode cL_law 1063 = .ok (.iadd, 1) := by decide +kernel
theorem dL_law_1064 : decode cL_law 1064 = .ok (.iaload, 1) := by decide +kernel
theorem dL_law_1065 : decode cL_law 1065 = .ok (.aload_n 0, 1) := by decide +kernel
theorem dL_law_1066 : decode cL_law 1066 = .ok (.iload_n 3, 1) := by decide +kernel
theorem dL_law_1067 : decode cL_law 1067 = .ok (.iconst 3, 1) := by decide +kernel
theorem dL_law_1068 : decode cL_law 1068 = .ok (.iadd, 1) := by decide +kernel
theorem dL_law_1069 : decode cL_law 1069 = .ok (.iaload, 1) := by decide +kernel
theorem dL_law_1070 : decode cL_law 1070 = .ok (.invokevirtual 127, 3) := by decide +kernel
theorem dL_law_1073 : decode cL_law 1073 = .ok (.aload_n 2, 1) := by decide +kernel
theorem dL_law_1074 : decode cL_law 1074 = .ok (.aload_n 0, 1) := by decide +kernel
theorem dL_law_1075 : decode cL_law 1075 = .ok (.iload_n 3, 1) := by decide +kernel
theorem dL_law_1076 : decode cL_law 1076 = .ok (.iconst 1, 1) := by decide +kernel
theorem dL_law_1077 : decode cL_law 1077 = .ok (.iadd, 1) := by decide +kernel
theorem dL_law_1078 : decode cL_law 1078 = .ok (.iaload, 1) := by decide +kernel
theorem dL_law_1079 : decode cL_law 1079 = .ok (.aload_n 0, 1) := by decide +kernel
theorem dL_law_1080 : decode cL_law 1080 = .ok (.iload_n 3, 1) := by decide +kernel
theorem dL_law_1081 : decode cL_law 1081 = .ok (.iconst 2, 1) := by decide +kernel
theorem dL_law_1082 : decode cL_law 1082 = .ok (.iadd, 1) := by decide +kernel
theorem dL_law_1083 : decode cL_law 1083 = .ok (.iaload, 1) := by decide +kernel
theorem dL_law_1084 : decode cL_law 1084 = .ok (.aload_n 0, 1) := by decide +kernel
theorem dL_law_1085 : decode cL_law 1085 = .ok (.iload_n 3, 1) := by decide +kernel
theorem dL_law_1086 : decode cL_law 1086 = .ok (.iconst 3, 1) := by decide +kernel
theorem dL_law_1087 : decode cL_law 1087 = .ok (.iadd, 1) := by decide +kernel
theorem dL_law_1088 : decode cL_law 1088 = .ok (.iaload, 1) := by decide +kernel
theorem dL_law_1089 : decode cL_law 1089 = .ok (.invokevirtual 131, 3) := by decide +kernel
theorem dL_law_1092 : decode cL_law 1092 = .ok (.lcmp, 1) := by decide +kernel
theorem dL_law_1093 : decode cL_law 1093 = .ok (.ifCond .eq 414, 3) := by decide +kernel
theorem dL_law_1096 : decode cL_law 1096 = .ok (.iconst 0, 1) := by decide +kernel
theorem dL_law_1097 : decode cL_law 1097 = .ok (.ireturn, 1) := by decide +kernel
theorem dL_law_1098 : decode cL_law 1098 = .ok (.aload_n 1, 1) := by decide +kernel
theorem dL_law_1099 : decode cL_law 1099 = .ok (.aload_n 0, 1) := by decide +kernel
theorem dL_law_1100 : decode cL_law 1100 = .ok (.iload_n 3, 1) := by decide +kernel
theorem dL_law_1101 : decode cL_law 1101 = .ok (.iconst 1, 1) := by decide +kernel
theorem dL_law_1102 : decode cL_law 1102 = .ok (.iadd, 1) := by decide +kernel
theorem dL_law_1103 : decode cL_law 1103 = .ok (.iaload, 1) := by decide +kernel
theorem dL_law_1104 : decode cL_law 1104 = .ok (.aload_n 0, 1) := by decide +kernel
theorem dL_law_1105 : decode cL_law 1105 = .ok (.iload_n 3, 1) := by decide +kernel
theorem dL_law_1106 : decode cL_law 1106 = .ok (.iconst 2, 1) := by decide +kernel
theorem dL_law_1107 : decode cL_law 1107 = .ok (.iadd, 1) := by decide +kernel
theorem dL_law_1108 : decode cL_law 1108 = .ok (.iaload, 1) := by decide +kernel
theorem dL_law_1109 : decode cL_law 1109 = .ok (.aload_n 0, 1) := by decide +kernel
theorem dL_law_1110 : decode cL_law 1110 = .ok (.iload_n 3, 1) := by decide +kernel
theorem dL_law_1111 : decode cL_law 1111 = .ok (.iconst 3, 1) := by decide +kernel
theorem dL_law_1112 : decode cL_law 1112 = .ok (.iadd, 1) := by decide +kernel
theorem dL_law_1113 : decode cL_law 1113 = .ok (.iaload, 1) := by decide +kernel
theorem dL_law_1114 : decode cL_law 1114 = .ok (.invokevirtual 132, 3) := by decide +kernel
theorem dL_law_1117 : decode cL_law 1117 = .ok (.aload_n 2, 1) := by decide +kernel
theorem dL_law_1118 : decode cL_law 1118 = .ok (.aload_n 0, 1) := by decide +kernel
theorem dL_law_1119 : decode cL_law 1119 = .ok (.iload_n 3, 1) := by decide +kernel
theorem dL_law_1120 : decode cL_law 1120 = .ok (.iconst 1, 1) := by decide +kernel
theorem dL_law_1121 : decode cL_law 1121 = .ok (.iadd, 1) := by decide +kernel
theorem dL_law_1122 : decode cL_law 1122 = .ok (.iaload, 1) := by decide +kernel
theorem dL_law_1123 : decode cL_law 1123 = .ok (.aload_n 0, 1) := by decide +kernel
theorem dL_law_1124 : decode cL_law 1124 = .ok (.iload_n 3, 1) := by decide +kernel
theorem dL_law_1125 : decode cL_law 1125 = .ok (.iconst 2, 1) := by decide +kernel
theorem dL_law_1126 : decode cL_law 1126 = .ok (.iadd, 1) := by decide +kernel
theorem dL_law_1127 : decode cL_law 1127 = .ok (.iaload, 1) := by decide +kernel
theorem dL_law_1128 : decode cL_law 1128 = .ok (.aload_n 0, 1) := by decide +kernel
theorem dL_law_1129 : decode cL_law 1129 = .ok (.iload_n 3, 1) := by decide +kernel
theorem dL_law_1130 : decode cL_law 1130 = .ok (.iconst 3, 1) := by decide +kernel
theorem dL_law_1131 : decode cL_law 1131 = .ok (.iadd, 1) := by decide +kernel
theorem dL_law_1132 : decode cL_law 1132 = .ok (.iaload, 1) := by decide +kernel
theorem dL_law_1133 : decode cL_law 1133 = .ok (.invokevirtual 135, 3) := by decide +kernel
theorem dL_law_1136 : decode cL_law 1136 = .ok (.if_icmp .eq 371, 3) := by decide +kernel
theorem dL_law_1139 : decode cL_law 1139 = .ok (.iconst 0, 1) := by decide +kernel
theorem dL_law_1140 : decode cL_law 1140 = .ok (.ireturn, 1) := by decide +kernel
theorem dL_law_1141 : decode cL_law 1141 = .ok (.aload_n 1, 1) := by decide +kernel
theorem dL_law_1142 : decode cL_law 1142 = .ok (.aload_n 0, 1) := by decide +kernel
theorem dL_law_1143 : decode cL_law 1143 = .ok (.iload_n 3, 1) := by decide +kernel
theorem dL_law_1144 : decode cL_law 1144 = .ok (.iconst 1, 1) := by decide +kernel
theorem dL_law_1145 : decode cL_law 1145 = .ok (.iadd, 1) := by decide +kernel
theorem dL_law_1146 : decode cL_law 1146 = .ok (.iaload, 1) := by decide +kernel
theorem dL_law_1147 : decode cL_law 1147 = .ok (.invokevirtual 136, 3) := by decide +kernel
theorem dL_law_1150 : decode cL_law 1150 = .ok (.aload_n 2, 1) := by decide +kernel
theorem dL_law_1151 : decode cL_law 1151 = .ok (.aload_n 0, 1) := by decide +kernel
theorem dL_law_1152 : decode cL_law 1152 = .ok (.iload_n 3, 1) := by decide +kernel
theorem dL_law_1153 : decode cL_law 1153 = .ok (.iconst 1, 1) := by decide +kernel
theorem dL_law_1154 : decode cL_law 1154 = .ok (.iadd, 1) := by decide +kernel
theorem dL_law_1155 : decode cL_law 1155 = .ok (.iaload, 1) := by decide +kernel
theorem dL_law_1156 : decode cL_law 1156 = .ok (.invokevirtual 139, 3) := by decide +kernel
theorem dL_law_1159 : decode cL_law 1159 = .ok (.if_icmp .eq 348, 3) := by decide +kernel
theorem dL_law_1162 : decode cL_law 1162 = .ok (.iconst 0, 1) := by decide +kernel
theorem dL_law_1163 : decode cL_law 1163 = .ok (.ireturn, 1) := by decide +kernel
theorem dL_law_1164 : decode cL_law 1164 = .ok (.aload_n 1, 1) := by decide +kernel
theorem dL_law_1165 : decode cL_law 1165 = .ok (.aload_n 0, 1) := by decide +kernel
theorem dL_law_1166 : decode cL_law 1166 = .ok (.iload_n 3, 1) := by decide +kernel
theorem dL_law_1167 : decode cL_law 1167 = .ok (.iconst 1, 1) := by decide +kernel
theorem dL_law_1168 : decode cL_law 1168 = .ok (.iadd, 1) := by decide +kernel
theorem dL_law_1169 : decode cL_law 1169 = .ok (.iaload, 1) := by decide +kernel
theorem dL_law_1170 : decode cL_law 1170 = .ok (.invokevirtual 140, 3) := by decide +kernel
theorem dL_law_1173 : decode cL_law 1173 = .ok (.aload_n 2, 1) := by decide +kernel
theorem dL_law_1174 : decode cL_law 1174 = .ok (.aload_n 0, 1) := by decide +kernel
theorem dL_law_1175 : decode cL_law 1175 = .ok (.iload_n 3, 1) := by decide +kernel
theorem dL_law_1176 : decode cL_law 1176 = .ok (.iconst 1, 1) := by decide +kernel
theorem dL_law_1177 : decode cL_law 1177 = .ok (.iadd, 1) := by decide +kernel
theorem dL_law_1178 : decode cL_law 1178 = .ok (.iaload, 1) := by decide +kernel
theorem dL_law_1179 : decode cL_law 1179 = .ok (.invokevirtual 143, 3) := by decide +kernel
theorem dL_law_1182 : decode cL_law 1182 = .ok (.if_icmp .eq 325, 3) := by decide +kernel
theorem dL_law_1185 : decode cL_law 1185 = .ok (.iconst 0, 1) := by decide +kernel
theorem dL_law_1186 : decode cL_law 1186 = .ok (.ireturn, 1) := by decide +kernel
theorem dL_law_1187 : decode cL_law 1187 = .ok (.aload_n 1, 1) := by decide +kernel
theorem dL_law_1188 : decode cL_law 1188 = .ok (.aload_n 0, 1) := by decide +kernel
theorem dL_law_1189 : decode cL_law 1189 = .ok (.iload_n 3, 1) := by decide +kernel
theorem dL_law_1190 : decode cL_law 1190 = .ok (.iconst 1, 1) := by decide +kernel
theorem dL_law_1191 : decode cL_law 1191 = .ok (.iadd, 1) := by decide +kernel
theorem dL_law_1192 : decode cL_law 1192 = .ok (.iaload, 1) := by decide +kernel
theorem dL_law_1193 : decode cL_law 1193 = .ok (.invokevirtual 144, 3) := by decide +kernel
theorem dL_law_1196 : decode cL_law 1196 = .ok (.aload_n 2, 1) := by decide +kernel
theorem dL_law_1197 : decode cL_law 1197 = .ok (.aload_n 0, 1) := by decide +kernel
theorem dL_law_1198 : decode cL_law 1198 = .ok (.iload_n 3, 1) := by decide +kernel
theorem dL_law_1199 : decode cL_law 1199 = .ok (.iconst 1, 1) := by decide +kernel
theorem dL_law_1200 : decode cL_law 1200 = .ok (.iadd, 1) := by decide +kernel
theorem dL_law_1201 : decode cL_law 1201 = .ok (.iaload, 1) := by decide +kernel
theorem dL_law_1202 : decode cL_law 1202 = .ok (.invokevirtual 147, 3) := by decide +kernel
theorem dL_law_1205 : decode cL_law 1205 = .ok (.if_icmp .eq 302, 3) := by decide +kernel
theorem dL_law_1208 : decode cL_law 1208 = .ok (.iconst 0, 1) := by decide +kernel
theorem dL_law_1209 : decode cL_law 1209 = .ok (.ireturn, 1) := by decide +kernel
theorem dL_law_1210 : decode cL_law 1210 = .ok (.aload_n 1, 1) := by decide +kernel
theorem dL_law_1211 : decode cL_law 1211 = .ok (.aload_n 0, 1) := by decide +kernel
theorem dL_law_1212 : decode cL_law 1212 = .ok (.iload_n 3, 1) := by decide +kernel
theorem dL_law_1213 : decode cL_law 1213 = .ok (.iconst 1, 1) := by decide +kernel
theorem dL_law_1214 : decode cL_law 1214 = .ok (.iadd, 1) := by decide +kernel
theorem dL_law_1215 : decode cL_law 1215 = .ok (.iaload, 1) := by decide +kernel
theorem dL_law_1216 : decode cL_law 1216 = .ok (.aload_n 0, 1) := by decide +kernel
theorem dL_law_1217 : decode cL_law 1217 = .ok (.iload_n 3, 1) := by decide +kernel
theorem dL_law_1218 : decode cL_law 1218 = .ok (.iconst 2, 1) := by decide +kernel
theorem dL_law_1219 : decode cL_law 1219 = .ok (.iadd, 1) := by decide +kernel
theorem dL_law_1220 : decode cL_law 1220 = .ok (.iaload, 1) := by decide +kernel
theorem dL_law_1221 : decode cL_law 1221 = .ok (.invokevirtual 148, 3) := by decide +kernel
theorem dL_law_1224 : decode cL_law 1224 = .ok (.aload_n 2, 1) := by decide +kernel
theorem dL_law_1225 : decode cL_law 1225 = .ok (.aload_n 0, 1) := by decide +kernel
theorem dL_law_1226 : decode cL_law 1226 = .ok (.iload_n 3, 1) := by decide +kernel
theorem dL_law_1227 : decode cL_law 1227 = .ok (.iconst 1, 1) := by decide +kernel
theorem dL_law_1228 : decode cL_law 1228 = .ok (.iadd, 1) := by decide +kernel
theorem dL_law_1229 : decode cL_law 1229 = .ok (.iaload, 1) := by decide +kernel
theorem dL_law_1230 : decode cL_law 1230 = .ok (.aload_n 0, 1) := by decide +kernel
theorem dL_law_1231 : decode cL_law 1231 = .ok (.iload_n 3, 1) := by decide +kernel
theorem dL_law_1232 : decode cL_law 1232 = .ok (.iconst 2, 1) := by decide +kernel
theorem dL_law_1233 : decode cL_law 1233 = .ok (.iadd, 1) := by decide +kernel
theorem dL_law_1234 : decode cL_law 1234 = .ok (.iaload, 1) := by decide +kernel
theorem dL_law_1235 : decode cL_law 1235 = .ok (.invokevirtual 151, 3) := by decide +kernel
theorem dL_law_1238 : decode cL_law 1238 = .ok (.if_icmp .eq 269, 3) := by decide +kernel
theorem dL_law_1241 : decode cL_law 1241 = .ok (.iconst 0, 1) := by decide +kernel
theorem dL_law_1242 : decode cL_law 1242 = .ok (.ireturn, 1) := by decide +kernel
theorem dL_law_1243 : decode cL_law 1243 = .ok (.aload_n 1, 1) := by decide +kernel
theorem dL_law_1244 : decode cL_law 1244 = .ok (.aload_n 0, 1) := by decide +kernel
theorem dL_law_1245 : decode cL_law 1245 = .ok (.iload_n 3, 1) := by decide +kernel
theorem dL_law_1246 : decode cL_law 1246 = .ok (.iconst 1, 1) := by decide +kernel
theorem dL_law_1247 : decode cL_law 1247 = .ok (.iadd, 1) := by decide +kernel
theorem dL_law_1248 : decode cL_law 1248 = .ok (.iaload, 1) := by decide +kernel
theorem dL_law_1249 : decode cL_law 1249 = .ok (.aload_n 0, 1) := by decide +kernel
theorem dL_law_1250 : decode cL_law 1250 = .ok (.iload_n 3, 1) := by decide +kernel
theorem dL_law_1251 : decode cL_law 1251 = .ok (.iconst 2, 1) := by decide +kernel
theorem dL_law_1252 : decode cL_law 1252 = .ok (.iadd, 1) := by decide +kernel
theorem dL_law_1253 : decode cL_law 1253 = .ok (.iaload, 1) := by decide +kernel
theorem dL_law_1254 : decode cL_law 1254 = .ok (.aload_n 0, 1) := by decide +kernel
theorem dL_law_1255 : decode cL_law 1255 = .ok (.iload_n 3, 1) := by decide +kernel
theorem dL_law_1256 : decode cL_law 1256 = .ok (.iconst 3, 1) := by decide +kernel
theorem dL_law_1257 : decode cL_law 1257 = .ok (.iadd, 1) := by decide +kernel
theorem dL_law_1258 : decode cL_law 1258 = .ok (.iaload, 1) := by decide +kernel
theorem dL_law_1259 : decode cL_law 1259 = .ok (.invokevirtual 152, 3) := by decide +kernel
theorem dL_law_1262 : decode cL_law 1262 = .ok (.aload_n 2, 1) := by decide +kernel
theorem dL_law_1263 : decode cL_law 1263 = .ok (.aload_n 0, 1) := by decide +kernel
theorem dL_law_1264 : decode cL_law 1264 = .ok (.iload_n 3, 1) := by decide +kernel
theorem dL_law_1265 : decode cL_law 1265 = .ok (.iconst 1, 1) := by decide +kernel
theorem dL_law_1266 : decode cL_law 1266 = .ok (.iadd, 1) := by decide +kernel
theorem dL_law_1267 : decode cL_law 1267 = .ok (.iaload, 1) := by decide +kernel
theorem dL_law_1268 : decode cL_law 1268 = .ok (.aload_n 0, 1) := by decide +kernel
theorem dL_law_1269 : decode cL_law 1269 = .ok (.iload_n 3, 1) := by decide +kernel
theorem dL_law_1270 : decode cL_law 1270 = .ok (.iconst 2, 1) := by decide +kernel
theorem dL_law_1271 : decode cL_law 1271 = .ok (.iadd, 1) := by decide +kernel
theorem dL_law_1272 : decode cL_law 1272 = .ok (.iaload, 1) := by decide +kernel
theorem dL_law_1273 : decode cL_law 1273 = .ok (.aload_n 0, 1) := by decide +kernel
theorem dL_law_1274 : decode cL_law 1274 = .ok (.iload_n 3, 1) := by decide +kernel
theorem dL_law_1275 : decode cL_law 1275 = .ok (.iconst 3, 1) := by decide +kernel
theorem dL_law_1276 : decode cL_law 1276 = .ok (.iadd, 1) := by decide +kernel
theorem dL_law_1277 : decode cL_law 1277 = .ok (.iaload, 1) := by decide +kernel
theorem dL_law_1278 : decode cL_law 1278 = .ok (.invokevirtual 155, 3) := by decide +kernel
theorem dL_law_1281 : decode cL_law 1281 = .ok (.if_icmp .eq 226, 3) := by decide +kernel
theorem dL_law_1284 : decode cL_law 1284 = .ok (.iconst 0, 1) := by decide +kernel
theorem dL_law_1285 : decode cL_law 1285 = .ok (.ireturn, 1) := by decide +kernel
theorem dL_law_1286 : decode cL_law 1286 = .ok (.aload_n 1, 1) := by decide +kernel
theorem dL_law_1287 : decode cL_law 1287 = .ok (.aload_n 0, 1) := by decide +kernel
theorem dL_law_1288 : decode cL_law 1288 = .ok (.iload_n 3, 1) := by decide +kernel
theorem dL_law_1289 : decode cL_law 1289 = .ok (.iconst 1, 1) := by decide +kernel
theorem dL_law_1290 : decode cL_law 1290 = .ok (.iadd, 1) := by decide +kernel
theorem dL_law_1291 : decode cL_law 1291 = .ok (.iaload, 1) := by decide +kernel
theorem dL_law_1292 : decode cL_law 1292 = .ok (.invokevirtual 156, 3) := by decide +kernel
theorem dL_law_1295 : decode cL_law 1295 = .ok (.aload_n 2, 1) := by decide +kernel
theorem dL_law_1296 : decode cL_law 1296 = .ok (.aload_n 0, 1) := by decide +kernel
theorem dL_law_1297 : decode cL_law 1297 = .ok (.iload_n 3, 1) := by decide +kernel
theorem dL_law_1298 : decode cL_law 1298 = .ok (.iconst 1, 1) := by decide +kernel
theorem dL_law_1299 : decode cL_law 1299 = .ok (.iadd, 1) := by decide +kernel
theorem dL_law_1300 : decode cL_law 1300 = .ok (.iaload, 1) := by decide +kernel
theorem dL_law_1301 : decode cL_law 1301 = .ok (.invokevirtual 159, 3) := by decide +kernel
theorem dL_law_1304 : decode cL_law 1304 = .ok (.if_icmp .eq 203, 3) := by decide +kernel
theorem dL_law_1307 : decode cL_law 1307 = .ok (.iconst 0, 1) := by decide +kernel
theorem dL_law_1308 : decode cL_law 1308 = .ok (.ireturn, 1) := by decide +kernel
theorem dL_law_1309 : decode cL_law 1309 = .ok (.aload_n 1, 1) := by decide +kernel
theorem dL_law_1310 : decode cL_law 1310 = .ok (.aload_n 0, 1) := by decide +kernel
theorem dL_law_1311 : decode cL_law 1311 = .ok (.iload_n 3, 1) := by decide +kernel
theorem dL_law_1312 : decode cL_law 1312 = .ok (.iconst 1, 1) := by decide +kernel
theorem dL_law_1313 : decode cL_law 1313 = .ok (.iadd, 1) := by decide +kernel
theorem dL_law_1314 : decode cL_law 1314 = .ok (.iaload, 1) := by decide +kernel
theorem dL_law_1315 : decode cL_law 1315 = .ok (.invokevirtual 160, 3) := by decide +kernel
theorem dL_law_1318 : decode cL_law 1318 = .ok (.aload_n 2, 1) := by decide +kernel
theorem dL_law_1319 : decode cL_law 1319 = .ok (.aload_n 0, 1) := by decide +kernel
theorem dL_law_1320 : decode cL_law 1320 = .ok (.iload_n 3, 1) := by decide +kernel
theorem dL_law_1321 : decode cL_law 1321 = .ok (.iconst 1, 1) := by decide +kernel
theorem dL_law_1322 : decode cL_law 1322 = .ok (.iadd, 1) := by decide +kernel
theorem dL_law_1323 : decode cL_law 1323 = .ok (.iaload, 1) := by decide +kernel
theorem dL_law_1324 : decode cL_law 1324 = .ok (.invokevirtual 163, 3) := by decide +kernel
theorem dL_law_1327 : decode cL_law 1327 = .ok (.if_icmp .eq 180, 3) := by decide +kernel
theorem dL_law_1330 : decode cL_law 1330 = .ok (.iconst 0, 1) := by decide +kernel
theorem dL_law_1331 : decode cL_law 1331 = .ok (.ireturn, 1) := by decide +kernel
theorem dL_law_1332 : decode cL_law 1332 = .ok (.aload_n 1, 1) := by decide +kernel
theorem dL_law_1333 : decode cL_law 1333 = .ok (.aload_n 0, 1) := by decide +kernel
theorem dL_law_1334 : decode cL_law 1334 = .ok (.iload_n 3, 1) := by decide +kernel
theorem dL_law_1335 : decode cL_law 1335 = .ok (.iconst 1, 1) := by decide +kernel
theorem dL_law_1336 : decode cL_law 1336 = .ok (.iadd, 1) := by decide +kernel
theorem dL_law_1337 : decode cL_law 1337 = .ok (.iaload, 1) := by decide +kernel
theorem dL_law_1338 : decode cL_law 1338 = .ok (.aload_n 0, 1) := by decide +kernel
theorem dL_law_1339 : decode cL_law 1339 = .ok (.iload_n 3, 1) := by decide +kernel
theorem dL_law_1340 : decode cL_law 1340 = .ok (.iconst 2, 1) := by decide +kernel
theorem dL_law_1341 : decode cL_law 1341 = .ok (.iadd, 1) := by decide +kernel
theorem dL_law_1342 : decode cL_law 1342 = .ok (.iaload, 1) := by decide +kernel
theorem dL_law_1343 : decode cL_law 1343 = .ok (.aload_n 0, 1) := by decide +kernel
theorem dL_law_1344 : decode cL_law 1344 = .ok (.iload_n 3, 1) := by decide +kernel
theorem dL_law_1345 : decode cL_law 1345 = .ok (.iconst 3, 1) := by decide +kernel
theorem dL_law_1346 : decode cL_law 1346 = .ok (.iadd, 1) := by decide +kernel
theorem dL_law_1347 : decode cL_law 1347 = .ok (.iaload, 1) := by decide +kernel
theorem dL_law_1348 : decode cL_law 1348 = .ok (.invokevirtual 164, 3) := by decide +kernel
theorem dL_law_1351 : decode cL_law 1351 = .ok (.aload_n 2, 1) := by decide +kernel
theorem dL_law_1352 : decode cL_law 1352 = .ok (.aload_n 0, 1) := by decide +kernel
theorem dL_law_1353 : decode cL_law 1353 = .ok (.iload_n 3, 1) := by decide +kernel
theorem dL_law_1354 : decode cL_law 1354 = .ok (.iconst 1, 1) := by decide +kernel
theorem dL_law_1355 : decode cL_law 1355 = .ok (.iadd, 1) := by decide +kernel
theorem dL_law_1356 : decode cL_law 1356 = .ok (.iaload, 1) := by decide +kernel
theorem dL_law_1357 : decode cL_law 1357 = .ok (.aload_n 0, 1) := by decide +kernel
theorem dL_law_1358 : decode cL_law 1358 = .ok (.iload_n 3, 1) := by decide +kernel
theorem dL_law_1359 : decode cL_law 1359 = .ok (.iconst 2, 1) := by decide +kernel
theorem dL_law_1360 : decode cL_law 1360 = .ok (.iadd, 1) := by decide +kernel
theorem dL_law_1361 : decode cL_law 1361 = .ok (.iaload, 1) := by decide +kernel
theorem dL_law_1362 : decode cL_law 1362 = .ok (.aload_n 0, 1) := by decide +kernel
theorem dL_law_1363 : decode cL_law 1363 = .ok (.iload_n 3, 1) := by decide +kernel
theorem dL_law_1364 : decode cL_law 1364 = .ok (.iconst 3, 1) := by decide +kernel
theorem dL_law_1365 : decode cL_law 1365 = .ok (.iadd, 1) := by decide +kernel
theorem dL_law_1366 : decode cL_law 1366 = .ok (.iaload, 1) := by decide +kernel
theorem dL_law_1367 : decode cL_law 1367 = .ok (.invokevirtual 167, 3) := by decide +kernel
theorem dL_law_1370 : decode cL_law 1370 = .ok (.if_icmp .eq 137, 3) := by decide +kernel
theorem dL_law_1373 : decode cL_law 1373 = .ok (.iconst 0, 1) := by decide +kernel
theorem dL_law_1374 : decode cL_law 1374 = .ok (.ireturn, 1) := by decide +kernel
theorem dL_law_1375 : decode cL_law 1375 = .ok (.aload_n 1, 1) := by decide +kernel
theorem dL_law_1376 : decode cL_law 1376 = .ok (.aload_n 0, 1) := by decide +kernel
theorem dL_law_1377 : decode cL_law 1377 = .ok (.iload_n 3, 1) := by decide +kernel
theorem dL_law_1378 : decode cL_law 1378 = .ok (.iconst 1, 1) := by decide +kernel
theorem dL_law_1379 : decode cL_law 1379 = .ok (.iadd, 1) := by decide +kernel
theorem dL_law_1380 : decode cL_law 1380 = .ok (.iaload, 1) := by decide +kernel
theorem dL_law_1381 : decode cL_law 1381 = .ok (.aload_n 0, 1) := by decide +kernel
theorem dL_law_1382 : decode cL_law 1382 = .ok (.iload_n 3, 1) := by decide +kernel
theorem dL_law_1383 : decode cL_law 1383 = .ok (.iconst 2, 1) := by decide +kernel
theorem dL_law_1384 : decode cL_law 1384 = .ok (.iadd, 1) := by decide +kernel
theorem dL_law_1385 : decode cL_law 1385 = .ok (.iaload, 1) := by decide +kernel
theorem dL_law_1386 : decode cL_law 1386 = .ok (.aload_n 0, 1) := by decide +kernel
theorem dL_law_1387 : decode cL_law 1387 = .ok (.iload_n 3, 1) := by decide +kernel
theorem dL_law_1388 : decode cL_law 1388 = .ok (.iconst 3, 1) := by decide +kernel
theorem dL_law_1389 : decode cL_law 1389 = .ok (.iadd, 1) := by decide +kernel
theorem dL_law_1390 : decode cL_law 1390 = .ok (.iaload, 1) := by decide +kernel
theorem dL_law_1391 : decode cL_law 1391 = .ok (.invokevirtual 168, 3) := by decide +kernel
theorem dL_law_1394 : decode cL_law 1394 = .ok (.aload_n 2, 1) := by decide +kernel
theorem dL_law_1395 : decode cL_law 1395 = .ok (.aload_n 0, 1) := by decide +kernel
theorem dL_law_1396 : decode cL_law 1396 = .ok (.iload_n 3, 1) := by decide +kernel
theorem dL_law_1397 : decode cL_law 1397 = .ok (.iconst 1, 1) := by decide +kernel
theorem dL_law_1398 : decode cL_law 1398 = .ok (.iadd, 1) := by decide +kernel
theorem dL_law_1399 : decode cL_law 1399 = .ok (.iaload, 1) := by decide +kernel
theorem dL_law_1400 : decode cL_law 1400 = .ok (.aload_n 0, 1) := by decide +kernel
theorem dL_law_1401 : decode cL_law 1401 = .ok (.iload_n 3, 1) := by decide +kernel
theorem dL_law_1402 : decode cL_law 1402 = .ok (.iconst 2, 1) := by decide +kernel
theorem dL_law_1403 : decode cL_law 1403 = .ok (.iadd, 1) := by decide +kernel
theorem dL_law_1404 : decode cL_law 1404 = .ok (.iaload, 1) := by decide +kernel
theorem dL_law_1405 : decode cL_law 1405 = .ok (.aload_n 0, 1) := by decide +kernel
theorem dL_law_1406 : decode cL_law 1406 = .ok (.iload_n 3, 1) := by decide +kernel
theorem dL_law_1407 : decode cL_law 1407 = .ok (.iconst 3, 1) := by decide +kernel
theorem dL_law_1408 : decode cL_law 1408 = .ok (.iadd, 1) := by decide +kernel
theorem dL_law_1409 : decode cL_law 1409 = .ok (.iaload, 1) := by decide +kernel
theorem dL_law_1410 : decode cL_law 1410 = .ok (.invokevirtual 171, 3) := by decide +kernel
theorem dL_law_1413 : decode cL_law 1413 = .ok (.if_icmp .eq 94, 3) := by decide +kernel
theorem dL_law_1416 : decode cL_law 1416 = .ok (.iconst 0, 1) := by decide +kernel
theorem dL_law_1417 : decode cL_law 1417 = .ok (.ireturn, 1) := by decide +kernel
theorem dL_law_1418 : decode cL_law 1418 = .ok (.aload_n 1, 1) := by decide +kernel
theorem dL_law_1419 : decode cL_law 1419 = .ok (.aload_n 0, 1) := by decide +kernel
theorem dL_law_1420 : decode cL_law 1420 = .ok (.iload_n 3, 1) := by decide +kernel
theorem dL_law_1421 : decode cL_law 1421 = .ok (.iconst 1, 1) := by decide +kernel
theorem dL_law_1422 : decode cL_law 1422 = .ok (.iadd, 1) := by decide +kernel
theorem dL_law_1423 : decode cL_law 1423 = .ok (.iaload, 1) := by decide +kernel
theorem dL_law_1424 : decode cL_law 1424 = .ok (.aload_n 0, 1) := by decide +kernel
theorem dL_law_1425 : decode cL_law 1425 = .ok (.iload_n 3, 1) := by decide +kernel
theorem dL_law_1426 : decode cL_law 1426 = .ok (.iconst 2, 1) := by decide +kernel
theorem dL_law_1427 : decode cL_law 1427 = .ok (.iadd, 1) := by decide +kernel
theorem dL_law_1428 : decode cL_law 1428 = .ok (.iaload, 1) := by decide +kernel
theorem dL_law_1429 : decode cL_law 1429 = .ok (.aload_n 0, 1) := by decide +kernel
theorem dL_law_1430 : decode cL_law 1430 = .ok (.iload_n 3, 1) := by decide +kernel
theorem dL_law_1431 : decode cL_law 1431 = .ok (.iconst 3, 1) := by decide +kernel
theorem dL_law_1432 : decode cL_law 1432 = .ok (.iadd, 1) := by decide +kernel
theorem dL_law_1433 : decode cL_law 1433 = .ok (.iaload, 1) := by decide +kernel
theorem dL_law_1434 : decode cL_law 1434 = .ok (.aload_n 0, 1) := by decide +kernel
theorem dL_law_1435 : decode cL_law 1435 = .ok (.iload_n 3, 1) := by decide +kernel
theorem dL_law_1436 : decode cL_law 1436 = .ok (.iconst 4, 1) := by decide +kernel
theorem dL_law_1437 : decode cL_law 1437 = .ok (.iadd, 1) := by decide +kernel
theorem dL_law_1438 : decode cL_law 1438 = .ok (.iaload, 1) := by decide +kernel
theorem dL_law_1439 : decode cL_law 1439 = .ok (.invokevirtual 172, 3) := by decide +kernel
theorem dL_law_1442 : decode cL_law 1442 = .ok (.aload_n 2, 1) := by decide +kernel
theorem dL_law_1443 : decode cL_law 1443 = .ok (.aload_n 0, 1) := by decide +kernel
theorem dL_law_1444 : decode cL_law 1444 = .ok (.iload_n 3, 1) := by decide +kernel
theorem dL_law_1445 : decode cL_law 1445 = .ok (.iconst 1, 1) := by decide +kernel
theorem dL_law_1446 : decode cL_law 1446 = .ok (.iadd, 1) := by decide +kernel
theorem dL_law_1447 : decode cL_law 1447 = .ok (.iaload, 1) := by decide +kernel
theorem dL_law_1448 : decode cL_law 1448 = .ok (.aload_n 0, 1) := by decide +kernel
theorem dL_law_1449 : decode cL_law 1449 = .ok (.iload_n 3, 1) := by decide +kernel
theorem dL_law_1450 : decode cL_law 1450 = .ok (.iconst 2, 1) := by decide +kernel
theorem dL_law_1451 : decode cL_law 1451 = .ok (.iadd, 1) := by decide +kernel
theorem dL_law_1452 : decode cL_law 1452 = .ok (.iaload, 1) := by decide +kernel
theorem dL_law_1453 : decode cL_law 1453 = .ok (.aload_n 0, 1) := by decide +kernel
theorem dL_law_1454 : decode cL_law 1454 = .ok (.iload_n 3, 1) := by decide +kernel
theorem dL_law_1455 : decode cL_law 1455 = .ok (.iconst 3, 1) := by decide +kernel
theorem dL_law_1456 : decode cL_law 1456 = .ok (.iadd, 1) := by decide +kernel
theorem dL_law_1457 : decode cL_law 1457 = .ok (.iaload, 1) := by decide +kernel
theorem dL_law_1458 : decode cL_law 1458 = .ok (.aload_n 0, 1) := by decide +kernel
theorem dL_law_1459 : decode cL_law 1459 = .ok (.iload_n 3, 1) := by decide +kernel
theorem dL_law_1460 : decode cL_law 1460 = .ok (.iconst 4, 1) := by decide +kernel
theorem dL_law_1461 : decode cL_law 1461 = .ok (.iadd, 1) := by decide +kernel
theorem dL_law_1462 : decode cL_law 1462 = .ok (.iaload, 1) := by decide +kernel
theorem dL_law_1463 : decode cL_law 1463 = .ok (.invokevirtual 175, 3) := by decide +kernel
theorem dL_law_1466 : decode cL_law 1466 = .ok (.if_icmp .eq 41, 3) := by decide +kernel
theorem dL_law_1469 : decode cL_law 1469 = .ok (.iconst 0, 1) := by decide +kernel
theorem dL_law_1470 : decode cL_law 1470 = .ok (.ireturn, 1) := by decide +kernel
theorem dL_law_1471 : decode cL_law 1471 = .ok (.aload_n 1, 1) := by decide +kernel
theorem dL_law_1472 : decode cL_law 1472 = .ok (.invokevirtual 176, 3) := by decide +kernel
theorem dL_law_1475 : decode cL_law 1475 = .ok (.aload_n 2, 1) := by decide +kernel
theorem dL_law_1476 : decode cL_law 1476 = .ok (.invokevirtual 179, 3) := by decide +kernel
theorem dL_law_1479 : decode cL_law 1479 = .ok (.if_icmp .eq 28, 3) := by decide +kernel
theorem dL_law_1482 : decode cL_law 1482 = .ok (.iconst 0, 1) := by decide +kernel
theorem dL_law_1483 : decode cL_law 1483 = .ok (.ireturn, 1) := by decide +kernel
theorem dL_law_1484 : decode cL_law 1484 = .ok (.aload_n 1, 1) := by decide +kernel
theorem dL_law_1485 : decode cL_law 1485 = .ok (.aload_n 0, 1) := by decide +kernel
theorem dL_law_1486 : decode cL_law 1486 = .ok (.iload_n 3, 1) := by decide +kernel
theorem dL_law_1487 : decode cL_law 1487 = .ok (.iconst 1, 1) := by decide +kernel
theorem dL_law_1488 : decode cL_law 1488 = .ok (.iadd, 1) := by decide +kernel
theorem dL_law_1489 : decode cL_law 1489 = .ok (.iaload, 1) := by decide +kernel
theorem dL_law_1490 : decode cL_law 1490 = .ok (.invokevirtual 180, 3) := by decide +kernel
theorem dL_law_1493 : decode cL_law 1493 = .ok (.aload_n 2, 1) := by decide +kernel
theorem dL_law_1494 : decode cL_law 1494 = .ok (.aload_n 0, 1) := by decide +kernel
theorem dL_law_1495 : decode cL_law 1495 = .ok (.iload_n 3, 1) := by decide +kernel
theorem dL_law_1496 : decode cL_law 1496 = .ok (.iconst 1, 1) := by decide +kernel
theorem dL_law_1497 : decode cL_law 1497 = .ok (.iadd, 1) := by decide +kernel
theorem dL_law_1498 : decode cL_law 1498 = .ok (.iaload, 1) := by decide +kernel
theorem dL_law_1499 : decode cL_law 1499 = .ok (.invokevirtual 183, 3) := by decide +kernel
theorem dL_law_1502 : decode cL_law 1502 = .ok (.if_icmp .eq 5, 3) := by decide +kernel
theorem dL_law_1505 : decode cL_law 1505 = .ok (.iconst 0, 1) := by decide +kernel
theorem dL_law_1506 : decode cL_law 1506 = .ok (.ireturn, 1) := by decide +kernel
theorem dL_law_1507 : decode cL_law 1507 = .ok (.iinc 3 5, 3) := by decide +kernel
theorem dL_law_1510 : decode cL_law 1510 = .ok (.goto (-1492), 3) := by decide +kernel
theorem dL_law_1513 : decode cL_law 1513 = .ok (.iconst 1, 1) := by decide +kernel
theorem dL_law_1514 : decode cL_law 1514 = .ok (.ireturn, 1) := by decide +kernel
end

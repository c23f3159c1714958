/-! ===== the constructors: words of the tables ===== -/
def ic_tbl : List Cond := lw_tbl.filter goodWord
theorem iw_of {w : Cond} (h : w ∈ tables_1) (h2 : goodWord w = true) : w ∈ ic_tbl := List.mem_filter.mpr ⟨List.mem_append_right _ h, h2⟩
theorem iw_good {y : MethodName} {cc : ByteArray} {n : Nat} {ret : Option FieldType} (h : Cond.code y cc n ret ∈ ic_tbl) : GoodIn ic_tbl (Cond.code y cc n ret :: ic_tbl) := fun w hw => by
  rcases List.mem_cons.mp hw with rfl | hw
  · exact ⟨h, good_of_word (List.mem_filter.mp h).2⟩
  · exact ⟨hw, good_of_word (List.mem_filter.mp hw).2⟩
theorem iw_u {ci n : Nat} (h : ∀ w ∈ u_ws (pm_cn ci) (pm_T ci) n, w ∈ lw_tbl) : ∀ w ∈ u_ws (pm_cn ci) (pm_T ci) n, w ∈ ic_tbl := by
  intro w hw
  refine List.mem_filter.mpr ⟨h w hw, ?_⟩
  obtain ⟨k, -, rfl⟩ := List.mem_map.mp hw
  unfold u_lay
  split <;> rfl
def ic_nws : List Cond := [.methodLinkNest RX4 11 yX0_init RX4, .methodLinkNest RX4 31 yX3_init RX4, .methodLinkNest RX4 38 yX1_init RX4, .methodLinkNest RX4 45 yX2_init RX4]
theorem nw_11 : Cond.methodLinkNest RX4 11 yX0_init RX4 ∈ ic_nws := List.mem_of_getElem? (i := 0) rfl
theorem nw_31 : Cond.methodLinkNest RX4 31 yX3_init RX4 ∈ ic_nws := List.mem_of_getElem? (i := 1) rfl
theorem nw_38 : Cond.methodLinkNest RX4 38 yX1_init RX4 ∈ ic_nws := List.mem_of_getElem? (i := 2) rfl
theorem nw_45 : Cond.methodLinkNest RX4 45 yX2_init RX4 ∈ ic_nws := List.mem_of_getElem? (i := 3) rfl
theorem iw_2 : Cond.initialized RX0 ∈ ic_tbl := iw_of (List.mem_of_getElem? (i := 2) (by decide +kernel)) rfl
theorem iw_3 : Cond.initialized RX3 ∈ ic_tbl := iw_of (List.mem_of_getElem? (i := 3) (by decide +kernel)) rfl
theorem iw_4 : Cond.initialized RX1 ∈ ic_tbl := iw_of (List.mem_of_getElem? (i := 4) (by decide +kernel)) rfl
theorem iw_5 : Cond.initialized RX2 ∈ ic_tbl := iw_of (List.mem_of_getElem? (i := 5) (by decide +kernel)) rfl
theorem iw_18 : Cond.methodLink RX4 3 objectInit ∈ ic_tbl := iw_of (List.mem_of_getElem? (i := 18) (by decide +kernel)) rfl
theorem iw_19 : Cond.instanceMethod objectInit ∈ ic_tbl := iw_of (List.mem_of_getElem? (i := 19) (by decide +kernel)) rfl
theorem iw_20 : Cond.code objectInit object_method_1_code 1 none ∈ ic_tbl := iw_of (List.mem_of_getElem? (i := 20) (by decide +kernel)) rfl
theorem iw_21 : Cond.classLink RX4 9 RX0 ∈ ic_tbl := iw_of (List.mem_of_getElem? (i := 21) (by decide +kernel)) rfl
theorem iw_22 : Cond.instantiable RX0 16 ∈ ic_tbl := iw_of (List.mem_of_getElem? (i := 22) (by decide +kernel)) rfl
theorem iw_24 : Cond.instanceMethod yX0_init ∈ ic_tbl := iw_of (List.mem_of_getElem? (i := 24) (by decide +kernel)) rfl
theorem iw_25 : Cond.code yX0_init cX0_init 1 none ∈ ic_tbl := iw_of (List.mem_of_getElem? (i := 25) (by decide +kernel)) rfl
theorem iw_26 : Cond.methodLink RX0 3 objectInit ∈ ic_tbl := iw_of (List.mem_of_getElem? (i := 26) (by decide +kernel)) rfl
theorem iw_38 : Cond.fieldLink RX0 9 "SpringBeads$Chain" "kind" "[I" ∈ ic_tbl := iw_of (List.mem_of_getElem? (i := 38) (by decide +kernel)) rfl
theorem iw_39 : Cond.fieldLink RX0 15 "SpringBeads$Chain" "rest" "[I" ∈ ic_tbl := iw_of (List.mem_of_getElem? (i := 39) (by decide +kernel)) rfl
theorem iw_40 : Cond.fieldLink RX0 18 "SpringBeads$Chain" "stiff" "[I" ∈ ic_tbl := iw_of (List.mem_of_getElem? (i := 40) (by decide +kernel)) rfl
theorem iw_41 : Cond.fieldLink RX0 21 "SpringBeads$Chain" "mass" "[I" ∈ ic_tbl := iw_of (List.mem_of_getElem? (i := 41) (by decide +kernel)) rfl
theorem iw_42 : Cond.fieldLink RX0 24 "SpringBeads$Chain" "place" "[I" ∈ ic_tbl := iw_of (List.mem_of_getElem? (i := 42) (by decide +kernel)) rfl
theorem iw_45 : Cond.fieldLink RX0 27 "SpringBeads$Chain" "speed" "[I" ∈ ic_tbl := iw_of (List.mem_of_getElem? (i := 45) (by decide +kernel)) rfl
theorem iw_47 : Cond.fieldLink RX0 30 "SpringBeads$Chain" "knockBead" "[I" ∈ ic_tbl := iw_of (List.mem_of_getElem? (i := 47) (by decide +kernel)) rfl
theorem iw_49 : Cond.fieldLink RX0 33 "SpringBeads$Chain" "knockBy" "[I" ∈ ic_tbl := iw_of (List.mem_of_getElem? (i := 49) (by decide +kernel)) rfl
theorem iw_51 : Cond.fieldLink RX0 36 "SpringBeads$Chain" "pull" "[I" ∈ ic_tbl := iw_of (List.mem_of_getElem? (i := 51) (by decide +kernel)) rfl
theorem iw_91 : Cond.arrayClass .int ∈ ic_tbl := iw_of (List.mem_of_getElem? (i := 91) (by decide +kernel)) rfl
theorem iw_92 : Cond.classLink RX4 29 RX3 ∈ ic_tbl := iw_of (List.mem_of_getElem? (i := 92) (by decide +kernel)) rfl
theorem iw_93 : Cond.instantiable RX3 8 ∈ ic_tbl := iw_of (List.mem_of_getElem? (i := 93) (by decide +kernel)) rfl
theorem iw_95 : Cond.instanceMethod yX3_init ∈ ic_tbl := iw_of (List.mem_of_getElem? (i := 95) (by decide +kernel)) rfl
theorem iw_96 : Cond.code yX3_init cX3_init 1 none ∈ ic_tbl := iw_of (List.mem_of_getElem? (i := 96) (by decide +kernel)) rfl
theorem iw_97 : Cond.methodLink RX3 3 objectInit ∈ ic_tbl := iw_of (List.mem_of_getElem? (i := 97) (by decide +kernel)) rfl
theorem iw_98 : Cond.fieldLink RX3 11 "SpringBeads$Tape" "bytes" "[B" ∈ ic_tbl := iw_of (List.mem_of_getElem? (i := 98) (by decide +kernel)) rfl
theorem iw_126 : Cond.arrayClass .boolean ∈ ic_tbl := iw_of (List.mem_of_getElem? (i := 126) (by decide +kernel)) rfl
theorem iw_127 : Cond.arrayClass .byte ∈ ic_tbl := iw_of (List.mem_of_getElem? (i := 127) (by decide +kernel)) rfl
theorem iw_128 : Cond.classLink RX4 36 RX1 ∈ ic_tbl := iw_of (List.mem_of_getElem? (i := 128) (by decide +kernel)) rfl
theorem iw_129 : Cond.instantiable RX1 4 ∈ ic_tbl := iw_of (List.mem_of_getElem? (i := 129) (by decide +kernel)) rfl
theorem iw_131 : Cond.instanceMethod yX1_init ∈ ic_tbl := iw_of (List.mem_of_getElem? (i := 131) (by decide +kernel)) rfl
theorem iw_132 : Cond.code yX1_init cX1_init 1 none ∈ ic_tbl := iw_of (List.mem_of_getElem? (i := 132) (by decide +kernel)) rfl
theorem iw_133 : Cond.methodLink RX1 3 objectInit ∈ ic_tbl := iw_of (List.mem_of_getElem? (i := 133) (by decide +kernel)) rfl
theorem iw_136 : Cond.fieldLink RX1 9 "SpringBeads$Seen" "after" "[I" ∈ ic_tbl := iw_of (List.mem_of_getElem? (i := 136) (by decide +kernel)) rfl
theorem iw_137 : Cond.fieldLink RX1 15 "SpringBeads$Seen" "bead" "[I" ∈ ic_tbl := iw_of (List.mem_of_getElem? (i := 137) (by decide +kernel)) rfl
theorem iw_138 : Cond.fieldLink RX1 18 "SpringBeads$Seen" "place" "[I" ∈ ic_tbl := iw_of (List.mem_of_getElem? (i := 138) (by decide +kernel)) rfl
theorem iw_148 : Cond.classLink RX4 43 RX2 ∈ ic_tbl := iw_of (List.mem_of_getElem? (i := 148) (by decide +kernel)) rfl
theorem iw_149 : Cond.instantiable RX2 3 ∈ ic_tbl := iw_of (List.mem_of_getElem? (i := 149) (by decide +kernel)) rfl
theorem iw_151 : Cond.instanceMethod yX2_init ∈ ic_tbl := iw_of (List.mem_of_getElem? (i := 151) (by decide +kernel)) rfl
theorem iw_152 : Cond.code yX2_init cX2_init 1 none ∈ ic_tbl := iw_of (List.mem_of_getElem? (i := 152) (by decide +kernel)) rfl
theorem iw_153 : Cond.methodLink RX2 3 objectInit ∈ ic_tbl := iw_of (List.mem_of_getElem? (i := 153) (by decide +kernel)) rfl
theorem iw_154 : Cond.classLink RX2 9 "[[I" ∈ ic_tbl := iw_of (List.mem_of_getElem? (i := 154) (by decide +kernel)) rfl
theorem iw_156 : Cond.fieldLink RX2 11 "SpringBeads$Sheets" "cells" "[[I" ∈ ic_tbl := iw_of (List.mem_of_getElem? (i := 156) (by decide +kernel)) rfl
theorem iw_158 : Cond.fieldLink RX2 16 "SpringBeads$Sheets" "size" "[I" ∈ ic_tbl := iw_of (List.mem_of_getElem? (i := 158) (by decide +kernel)) rfl
theorem iw_160 : Cond.fieldLink RX2 20 "SpringBeads$Sheets" "laneOf" "[I" ∈ ic_tbl := iw_of (List.mem_of_getElem? (i := 160) (by decide +kernel)) rfl
theorem iw_168 : Cond.classLink RX4 50 "[[I" ∈ ic_tbl := iw_of (List.mem_of_getElem? (i := 168) (by decide +kernel)) rfl
theorem iw_169 : Cond.fieldLink RX4 12 "SpringBeads" "now" "LSpringBeads$Chain;" ∈ ic_tbl := iw_of (List.mem_of_getElem? (i := 169) (by decide +kernel)) rfl
theorem iw_170 : Cond.fieldLink RX4 16 "SpringBeads" "trial" "LSpringBeads$Chain;" ∈ ic_tbl := iw_of (List.mem_of_getElem? (i := 170) (by decide +kernel)) rfl
theorem iw_171 : Cond.fieldLink RX4 19 "SpringBeads" "firstImage" "LSpringBeads$Chain;" ∈ ic_tbl := iw_of (List.mem_of_getElem? (i := 171) (by decide +kernel)) rfl
theorem iw_172 : Cond.fieldLink RX4 22 "SpringBeads" "secondImage" "LSpringBeads$Chain;" ∈ ic_tbl := iw_of (List.mem_of_getElem? (i := 172) (by decide +kernel)) rfl
theorem iw_173 : Cond.fieldLink RX4 25 "SpringBeads" "kept" "[Z" ∈ ic_tbl := iw_of (List.mem_of_getElem? (i := 173) (by decide +kernel)) rfl
theorem iw_174 : Cond.fieldLink RX4 32 "SpringBeads" "tape" "LSpringBeads$Tape;" ∈ ic_tbl := iw_of (List.mem_of_getElem? (i := 174) (by decide +kernel)) rfl
theorem iw_175 : Cond.fieldLink RX4 39 "SpringBeads" "seen" "LSpringBeads$Seen;" ∈ ic_tbl := iw_of (List.mem_of_getElem? (i := 175) (by decide +kernel)) rfl
theorem iw_176 : Cond.fieldLink RX4 46 "SpringBeads" "sheets" "LSpringBeads$Sheets;" ∈ ic_tbl := iw_of (List.mem_of_getElem? (i := 176) (by decide +kernel)) rfl
theorem iw_177 : Cond.fieldLink RX4 52 "SpringBeads" "traces" "[[I" ∈ ic_tbl := iw_of (List.mem_of_getElem? (i := 177) (by decide +kernel)) rfl
theorem iw_178 : Cond.fieldLink RX4 55 "SpringBeads" "torn" "I" ∈ ic_tbl := iw_of (List.mem_of_getElem? (i := 178) (by decide +kernel)) rfl
theorem iw_703 : Cond.methodLink RX5 1 objectInit ∈ ic_tbl := iw_of (List.mem_of_getElem? (i := 703) (by decide +kernel)) rfl
theorem iw_704 : Cond.fieldLink RX5 7 "SpringBeadsModel" "state" "[I" ∈ ic_tbl := iw_of (List.mem_of_getElem? (i := 704) (by decide +kernel)) rfl
theorem iw_705 : Cond.fieldLink RX5 13 "SpringBeadsModel" "readPage" "[I" ∈ ic_tbl := iw_of (List.mem_of_getElem? (i := 705) (by decide +kernel)) rfl
theorem iw_707 : Cond.fieldLink RX5 16 "SpringBeadsModel" "tape" "[I" ∈ ic_tbl := iw_of (List.mem_of_getElem? (i := 707) (by decide +kernel)) rfl
theorem iw_716 : Cond.fieldLink RX5 19 "SpringBeadsModel" "ends" "[I" ∈ ic_tbl := iw_of (List.mem_of_getElem? (i := 716) (by decide +kernel)) rfl
theorem iw_717 : Cond.fieldLink RX5 22 "SpringBeadsModel" "letters" "[I" ∈ ic_tbl := iw_of (List.mem_of_getElem? (i := 717) (by decide +kernel)) rfl
theorem iw_721 : Cond.fieldLink RX5 25 "SpringBeadsModel" "speedWas" "[I" ∈ ic_tbl := iw_of (List.mem_of_getElem? (i := 721) (by decide +kernel)) rfl
theorem iw_723 : Cond.fieldLink RX5 28 "SpringBeadsModel" "lost" "I" ∈ ic_tbl := iw_of (List.mem_of_getElem? (i := 723) (by decide +kernel)) rfl
theorem iw_724 : Cond.fieldLink RX5 32 "SpringBeadsModel" "seen" "[I" ∈ ic_tbl := iw_of (List.mem_of_getElem? (i := 724) (by decide +kernel)) rfl
theorem iw_726 : Cond.fieldLink RX5 35 "SpringBeadsModel" "placeBy" "[I" ∈ ic_tbl := iw_of (List.mem_of_getElem? (i := 726) (by decide +kernel)) rfl
theorem iw_727 : Cond.fieldLink RX5 38 "SpringBeadsModel" "isKept" "[Z" ∈ ic_tbl := iw_of (List.mem_of_getElem? (i := 727) (by decide +kernel)) rfl
theorem iw_728 : Cond.fieldLink RX5 42 "SpringBeadsModel" "lanes" "[I" ∈ ic_tbl := iw_of (List.mem_of_getElem? (i := 728) (by decide +kernel)) rfl
theorem iw_729 : Cond.fieldLink RX5 45 "SpringBeadsModel" "lengths" "[I" ∈ ic_tbl := iw_of (List.mem_of_getElem? (i := 729) (by decide +kernel)) rfl
theorem iw_730 : Cond.fieldLink RX5 48 "SpringBeadsModel" "cells" "[I" ∈ ic_tbl := iw_of (List.mem_of_getElem? (i := 730) (by decide +kernel)) rfl

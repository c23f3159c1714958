/-! ===== every method of the small machine, so many calls deep ===== -/
section
variable {N d : Nat}
theorem K_put : sp_put (pm_D N (d + 1)) := t_put (N := N) (Ga := pm_D N (d + 0)) 
theorem K_c_feed : cs1 (pm_D N (d + 2)) 44 r_feed := t_c_feed (N := N) (Ga := pm_D N (d + 1)) K_within K_put
theorem K_c_end : cs1 (pm_D N (d + 2)) 45 r_end := t_c_end (N := N) (Ga := pm_D N (d + 1)) K_within
theorem K_c_fault : cs0 (pm_D N (d + 1)) 47 r_fault := t_c_fault (N := N) (Ga := pm_D N (d + 0)) 
theorem K_c_rule : cs1 (pm_D N (d + 2)) 48 r_rule := t_c_rule (N := N) (Ga := pm_D N (d + 1)) K_stillBits K_lastPlace
theorem K_c_drag : cs1 (pm_D N (d + 2)) 52 r_drag := t_c_drag (N := N) (Ga := pm_D N (d + 1)) K_within
theorem K_c_cut : cs1 (pm_D N (d + 2)) 54 r_cut := t_c_cut (N := N) (Ga := pm_D N (d + 1)) K_within
theorem K_c_drop : cs1 (pm_D N (d + 2)) 57 r_drop := t_c_drop (N := N) (Ga := pm_D N (d + 1)) K_within
theorem K_c_hit : cs2 (pm_D N (d + 3)) 55 r_hit := t_c_hit (N := N) (Ga := pm_D N (d + 2)) K_has K_within K_knockOnce
theorem K_c_add : cs2 (pm_D N (d + 2)) 56 r_add := t_c_add (N := N) (Ga := pm_D N (d + 1)) K_within K_addKnock
theorem K_c_bind : cs4 (pm_D N (d + 3)) 53 r_bind := t_c_bind (N := N) (Ga := pm_D N (d + 2)) K_within K_addBead
theorem K_c_knock : cs2 (pm_D N (d + 2)) 50 r_knock := t_c_knock (N := N) (Ga := pm_D N (d + 1)) K_within
theorem K_c_alter : cs3 (pm_D N (d + 2)) 51 r_alter := t_c_alter (N := N) (Ga := pm_D N (d + 1)) K_has K_within K_rowOf
theorem K_bitCount : sp_bitCount (pm_D N (d + 1)) := t_bitCount (N := N) (Ga := pm_D N (d + 0)) 
theorem K_c_calm : cs0 (pm_D N (d + 2)) 58 r_calm := t_c_calm (N := N) (Ga := pm_D N (d + 1)) K_stillBits K_bitCount
theorem K_m_feed : ms1 (pm_D N (d + 2)) 100 r_feed := t_m_feed (N := N) (Ga := pm_D N (d + 1)) K_in
theorem K_m_end : ms1 (pm_D N (d + 2)) 101 r_end := t_m_end (N := N) (Ga := pm_D N (d + 1)) K_in
theorem K_m_fault : ms0 (pm_D N (d + 1)) 110 r_fault := t_m_fault (N := N) (Ga := pm_D N (d + 0)) 
theorem K_puts : sp_puts (pm_D N (d + 1)) := t_puts (N := N) (Ga := pm_D N (d + 0)) 
theorem K_m_drag : ms1 (pm_D N (d + 2)) 129 r_drag := t_m_drag (N := N) (Ga := pm_D N (d + 1)) K_in K_puts
theorem K_m_cut : ms1 (pm_D N (d + 2)) 131 r_cut := t_m_cut (N := N) (Ga := pm_D N (d + 1)) K_in K_puts
theorem K_m_drop : ms1 (pm_D N (d + 2)) 135 r_drop := t_m_drop (N := N) (Ga := pm_D N (d + 1)) K_in K_puts
theorem K_isBead : sp_isBead (pm_D N (d + 2)) := t_isBead (N := N) (Ga := pm_D N (d + 1)) K_in
theorem K_m_hit : ms2 (pm_D N (d + 3)) 132 r_hit := t_m_hit (N := N) (Ga := pm_D N (d + 2)) K_isBead K_in K_knockOn
theorem K_m_adds : ms2 (pm_D N (d + 2)) 133 r_add := t_m_adds (N := N) (Ga := pm_D N (d + 1)) K_in
theorem K_m_add : ms2 (pm_D N (d + 3)) 134 r_add := t_m_add (N := N) (Ga := pm_D N (d + 2)) K_m_adds
theorem K_isKnock : sp_isKnock (pm_D N (d + 2)) := t_isKnock (N := N) (Ga := pm_D N (d + 1)) K_in
theorem K_m_knock : ms2 (pm_D N (d + 3)) 125 r_knock := t_m_knock (N := N) (Ga := pm_D N (d + 2)) K_isKnock K_in
theorem K_isGood : sp_isGood (pm_D N (d + 2)) := t_isGood (N := N) (Ga := pm_D N (d + 1)) K_in
theorem K_m_alter : ms3 (pm_D N (d + 3)) 128 r_alter := t_m_alter (N := N) (Ga := pm_D N (d + 2)) K_isBead K_isGood K_puts
theorem K_m_bead : ms2 (pm_D N (d + 3)) 124 r_bead := t_m_bead (N := N) (Ga := pm_D N (d + 2)) K_isBead K_in K_stretchOn K_pullOn
theorem K_m_rule : ms1 (pm_D N (d + 2)) 123 r_rule := t_m_rule (N := N) (Ga := pm_D N (d + 1)) K_lastOn
theorem K_m_calm : ms0 (pm_D N (d + 1)) 136 r_calm := t_m_calm (N := N) (Ga := pm_D N (d + 0)) 
theorem K_c_ticks : cs1 (pm_D N (d + 6)) 59 r_ticks := t_c_ticks (N := N) (Ga := pm_D N (d + 5)) K_within K_tickOften
theorem K_c_runs : cs2 (pm_D N (d + 6)) 60 r_runs := t_c_runs (N := N) (Ga := pm_D N (d + 5)) K_within K_becomeLike K_greatestSwing K_lastPlace
theorem K_c_ahead : cs3 (pm_D N (d + 6)) 61 r_ahead := t_c_ahead (N := N) (Ga := pm_D N (d + 5)) K_has K_within K_becomeLike K_tickOften
theorem K_c_rests : cs0 (pm_D N (d + 4)) 63 r_rests := t_c_rests (N := N) (Ga := pm_D N (d + 3)) K_becomeLike K_move
theorem K_compare : sp_compare (pm_D N (d + 1)) := t_compare (N := N) (Ga := pm_D N (d + 0)) 
theorem K_c_when : cs2 (pm_D N (d + 5)) 62 r_when := t_c_when (N := N) (Ga := pm_D N (d + 4)) K_has K_within K_compare K_becomeLike K_tickOnce
theorem K_m_ticks : ms1 (pm_D N (d + 6)) 137 r_ticks := t_m_ticks (N := N) (Ga := pm_D N (d + 5)) K_in K_tickOn
theorem K_isLong : sp_isLong (pm_D N (d + 2)) := t_isLong (N := N) (Ga := pm_D N (d + 1)) K_in
theorem K_m_runs : ms2 (pm_D N (d + 7)) 140 r_runs := t_m_runs (N := N) (Ga := pm_D N (d + 6)) K_isLong K_in K_ticksGo K_lastOn
theorem K_m_ahead : ms3 (pm_D N (d + 7)) 141 r_ahead := t_m_ahead (N := N) (Ga := pm_D N (d + 6)) K_isBead K_isLong K_in K_ticksGo
theorem K_m_when : ms2 (pm_D N (d + 6)) 142 r_when := t_m_when (N := N) (Ga := pm_D N (d + 5)) K_isBead K_in K_copies K_tickOn
theorem K_m_rests : ms0 (pm_D N (d + 5)) 143 r_rests := t_m_rests (N := N) (Ga := pm_D N (d + 4)) K_copies K_movesOn
theorem K_m_bind : ms4 (pm_D N (d + 3)) 130 r_bind := t_m_bind (N := N) (Ga := pm_D N (d + 2)) K_isGood K_lastOn
theorem K_tryWith : sp_tryWith (pm_D N (d + 2)) := t_tryWith (N := N) (Ga := pm_D N (d + 1)) K_becomeLike K_rowOf
theorem K_steadiest : sp_steadiest (pm_D N (d + 6)) := t_steadiest (N := N) (Ga := pm_D N (d + 5)) K_has K_within K_tryWith K_greatestSwing
theorem K_c_stiff : cs3 (pm_D N (d + 7)) 64 (r_best 2) := t_c_stiff (N := N) (Ga := pm_D N (d + 6)) K_steadiest
theorem K_c_rest : cs3 (pm_D N (d + 7)) 65 (r_best 1) := t_c_rest (N := N) (Ga := pm_D N (d + 6)) K_steadiest
theorem K_c_kind : cs3 (pm_D N (d + 7)) 66 (r_best 0) := t_c_kind (N := N) (Ga := pm_D N (d + 6)) K_steadiest
theorem K_c_mass : cs3 (pm_D N (d + 7)) 67 (r_best 3) := t_c_mass (N := N) (Ga := pm_D N (d + 6)) K_steadiest
theorem K_swingAsItIs : sp_swingAsItIs (pm_D N (d + 6)) := t_swingAsItIs (N := N) (Ga := pm_D N (d + 5)) K_becomeLike K_greatestSwing
theorem K_c_miss : cs2 (pm_D N (d + 7)) 69 r_miss := t_c_miss (N := N) (Ga := pm_D N (d + 6)) K_within K_swingAsItIs K_becomeLike K_greatestSwing
theorem K_c_swap : cs2 (pm_D N (d + 7)) 68 r_swap := t_c_swap (N := N) (Ga := pm_D N (d + 6)) K_within K_swingAsItIs K_becomeLike K_changePlaces K_greatestSwing
theorem K_isAsked : sp_isAsked (pm_D N (d + 3)) := t_isAsked (N := N) (Ga := pm_D N (d + 2)) K_isBead K_in
theorem K_leastAt : sp_leastAt (pm_D N (d + 7)) := t_leastAt (N := N) (Ga := pm_D N (d + 6)) K_copies K_ticksGo
theorem K_m_stiff : ms3 (pm_D N (d + 8)) 146 (r_best 2) := t_m_stiff (N := N) (Ga := pm_D N (d + 7)) K_isAsked K_leastAt
theorem K_m_rest : ms3 (pm_D N (d + 8)) 147 (r_best 1) := t_m_rest (N := N) (Ga := pm_D N (d + 7)) K_isAsked K_leastAt
theorem K_m_kind : ms3 (pm_D N (d + 8)) 148 (r_best 0) := t_m_kind (N := N) (Ga := pm_D N (d + 7)) K_isAsked K_leastAt
theorem K_m_mass : ms3 (pm_D N (d + 8)) 149 (r_best 3) := t_m_mass (N := N) (Ga := pm_D N (d + 7)) K_isAsked K_leastAt
theorem K_m_miss : ms2 (pm_D N (d + 7)) 151 r_miss := t_m_miss (N := N) (Ga := pm_D N (d + 6)) K_in K_ticksGo
theorem K_m_swap : ms2 (pm_D N (d + 7)) 150 r_swap := t_m_swap (N := N) (Ga := pm_D N (d + 6)) K_in K_copies K_ticksGo
theorem K_c_forget : cs1 (pm_D N (d + 2)) 81 r_forget := t_c_forget (N := N) (Ga := pm_D N (d + 1)) K_within
theorem K_note : sp_note (pm_D N (d + 1)) := t_note (N := N) (Ga := pm_D N (d + 0)) 
theorem K_c_see : cs3 (pm_D N (d + 2)) 80 r_see := t_c_see (N := N) (Ga := pm_D N (d + 1)) K_within K_has K_note
theorem K_c_torn : cs0 (pm_D N (d + 1)) 95 r_torn := t_c_torn (N := N) (Ga := pm_D N (d + 0)) 
theorem K_imageOf : sp_imageOf (pm_D N (d + 1)) := t_imageOf (N := N) (Ga := pm_D N (d + 0)) 
theorem K_c_keep : cs1 (pm_D N (d + 2)) 89 r_keep := t_c_keep (N := N) (Ga := pm_D N (d + 1)) K_within K_imageOf K_becomeLike
theorem K_c_back : cs1 (pm_D N (d + 2)) 90 r_back := t_c_back (N := N) (Ga := pm_D N (d + 1)) K_within K_imageOf K_becomeLike
theorem K_isNothing : sp_isNothing (pm_D N (d + 1)) := t_isNothing (N := N) (Ga := pm_D N (d + 0)) 
theorem K_c_count : cs1 (pm_D N (d + 3)) 96 r_count := t_c_count (N := N) (Ga := pm_D N (d + 2)) K_isNothing K_sumOf
theorem K_m_forget : ms1 (pm_D N (d + 2)) 157 r_forget := t_m_forget (N := N) (Ga := pm_D N (d + 1)) K_in
theorem K_m_torn : ms0 (pm_D N (d + 1)) 170 r_torn := t_m_torn (N := N) (Ga := pm_D N (d + 0)) 
theorem K_m_see : ms3 (pm_D N (d + 3)) 156 r_see := t_m_see (N := N) (Ga := pm_D N (d + 2)) K_in K_isBead
theorem K_m_keep : ms1 (pm_D N (d + 2)) 165 r_keep := t_m_keep (N := N) (Ga := pm_D N (d + 1)) K_in K_copies
theorem K_m_back : ms1 (pm_D N (d + 2)) 166 r_back := t_m_back (N := N) (Ga := pm_D N (d + 1)) K_in K_copies
theorem K_m_count : ms1 (pm_D N (d + 1)) 171 r_count := t_m_count (N := N) (Ga := pm_D N (d + 0)) 
theorem K_make : sp_make (pm_D N (d + 1)) := t_make (N := N) (Ga := pm_D N (d + 0)) 
theorem K_c_sheet : cs3 (pm_D N (d + 2)) 92 r_sheet := t_c_sheet (N := N) (Ga := pm_D N (d + 1)) K_within K_make
theorem K_faultAt : sp_faultAt (pm_D N (d + 2)) := t_faultAt (N := N) (Ga := pm_D N (d + 1)) K_within K_isNothing
theorem K_putS : sp_putS (pm_D N (d + 1)) := t_putS (N := N) (Ga := pm_D N (d + 0)) 
theorem K_c_lay : cs3 (pm_D N (d + 3)) 93 r_lay := t_c_lay (N := N) (Ga := pm_D N (d + 2)) K_within K_faultAt K_putS
theorem K_m_sheet : ms3 (pm_D N (d + 2)) 167 r_sheet := t_m_sheet (N := N) (Ga := pm_D N (d + 1)) K_in
theorem K_m_lay : ms3 (pm_D N (d + 2)) 168 r_lay := t_m_lay (N := N) (Ga := pm_D N (d + 1)) K_in
theorem K_c_drift : cs3 (pm_D N (d + 4)) 88 r_drift := t_c_drift (N := N) (Ga := pm_D N (d + 3)) K_within K_becomeLike K_knockOnce K_move K_lastPlace
theorem K_m_drift : ms3 (pm_D N (d + 5)) 164 r_drift := t_m_drift (N := N) (Ga := pm_D N (d + 4)) K_in K_copies K_knockOn K_movesOn K_lastOn
theorem K_faultAs : sp_faultAs (pm_D N (d + 2)) := t_faultAs (N := N) (Ga := pm_D N (d + 1)) K_isNothing
theorem K_fop : sp_fop (pm_D N (d + 3)) := t_fop (N := N) (Ga := pm_D N (d + 2)) K_faultAs K_faultAt
theorem K_c_read : cs4 (pm_D N (d + 4)) 94 r_read := t_c_read (N := N) (Ga := pm_D N (d + 3)) K_within K_fop K_c_add
theorem K_adds : sp_adds (pm_D N (d + 2)) := t_adds (N := N) (Ga := pm_D N (d + 1)) K_in
theorem K_m_read : ms4 (pm_D N (d + 3)) 169 r_read := t_m_read (N := N) (Ga := pm_D N (d + 2)) K_in K_copies K_adds
theorem K_latestTick : sp_latestTick (pm_D N (d + 1)) := t_latestTick (N := N) (Ga := pm_D N (d + 0)) 
theorem K_agrees : sp_agrees (pm_D N (d + 2)) := t_agrees (N := N) (Ga := pm_D N (d + 1)) K_has
theorem K_isSoOf : sp_isSoOf (pm_D N (d + 5)) := t_isSoOf (N := N) (Ga := pm_D N (d + 4)) K_latestTick K_agrees K_tickOnce
theorem K_asSeenBits : sp_asSeenBits (pm_D N (d + 6)) := t_asSeenBits (N := N) (Ga := pm_D N (d + 5)) K_tryWith K_isSoOf
theorem K_c_kinds : cs1 (pm_D N (d + 7)) 82 (r_bits 0 4) := t_c_kinds (N := N) (Ga := pm_D N (d + 6)) K_has K_asSeenBits
theorem K_c_stiffs : cs1 (pm_D N (d + 7)) 83 (r_bits 2 10) := t_c_stiffs (N := N) (Ga := pm_D N (d + 6)) K_has K_asSeenBits
theorem K_isAsSeen : sp_isAsSeen (pm_D N (d + 6)) := t_isAsSeen (N := N) (Ga := pm_D N (d + 5)) K_copies K_tickOn
theorem K_numbersAt : sp_numbersAt (pm_D N (d + 7)) := t_numbersAt (N := N) (Ga := pm_D N (d + 6)) K_copies K_isAsSeen
theorem K_m_kinds : ms1 (pm_D N (d + 8)) 160 (r_bits 0 4) := t_m_kinds (N := N) (Ga := pm_D N (d + 7)) K_isBead K_numbersAt
theorem K_m_stiffs : ms1 (pm_D N (d + 8)) 161 (r_bits 2 10) := t_m_stiffs (N := N) (Ga := pm_D N (d + 7)) K_isBead K_numbersAt
theorem K_traceStiffs : sp_traceStiffs (pm_D N (d + 5)) := t_traceStiffs (N := N) (Ga := pm_D N (d + 4)) K_tryWith K_tickOnce
theorem K_mostAlike : sp_mostAlike (pm_D N (d + 1)) := t_mostAlike (N := N) (Ga := pm_D N (d + 0)) 
theorem K_c_ask : cs2 (pm_D N (d + 7)) 84 r_ask := t_c_ask (N := N) (Ga := pm_D N (d + 6)) K_has K_within K_asSeenBits K_traceStiffs K_bitCount K_mostAlike
theorem K_worstAt : sp_worstAt (pm_D N (d + 1)) := t_worstAt (N := N) (Ga := pm_D N (d + 0)) 
theorem K_m_ask : ms2 (pm_D N (d + 8)) 163 r_ask := t_m_ask (N := N) (Ga := pm_D N (d + 7)) K_isBead K_in K_numbersAt K_worstAt
theorem K_runMissing : sp_runMissing (pm_D N (d + 4)) := t_runMissing (N := N) (Ga := pm_D N (d + 3)) K_becomeLike K_knockByPlan K_move
theorem K_power : sp_power (pm_D N (d + 1)) := t_power (N := N) (Ga := pm_D N (d + 0)) 
theorem K_weightOf : sp_weightOf (pm_D N (d + 2)) := t_weightOf (N := N) (Ga := pm_D N (d + 1)) K_bitCount K_power
theorem K_commonDivisor : sp_commonDivisor (pm_D N (d + 1)) := t_commonDivisor (N := N) (Ga := pm_D N (d + 0)) 
theorem K_partOfFraction : sp_partOfFraction (pm_D N (d + 2)) := t_partOfFraction (N := N) (Ga := pm_D N (d + 1)) K_commonDivisor
theorem K_c_luck : csl4 (pm_D N (d + 5)) 73 r_luck := t_c_luck (N := N) (Ga := pm_D N (d + 4)) K_within K_runMissing K_lastPlace K_weightOf K_power K_partOfFraction
theorem K_c_mean : csl3 (pm_D N (d + 5)) 74 r_mean := t_c_mean (N := N) (Ga := pm_D N (d + 4)) K_within K_runMissing K_lastPlace K_weightOf K_power K_partOfFraction
theorem K_lowest : sp_lowest (pm_D N (d + 1)) := t_lowest (N := N) (Ga := pm_D N (d + 0)) 
theorem K_byMisses : sp_byMisses (pm_D N (d + 6)) := t_byMisses (N := N) (Ga := pm_D N (d + 5)) K_copies K_tickOn K_lastOn K_amount K_lowest
theorem K_m_luck : msl4 (pm_D N (d + 7)) 154 r_luck := t_m_luck (N := N) (Ga := pm_D N (d + 6)) K_in K_byMisses
theorem K_m_mean : msl3 (pm_D N (d + 7)) 155 r_mean := t_m_mean (N := N) (Ga := pm_D N (d + 6)) K_in K_byMisses
theorem K_blame : sp_blame (pm_D N (d + 1)) := t_blame (N := N) (Ga := pm_D N (d + 0)) 
theorem K_runOf : sp_runOf (pm_D N (d + 1)) := t_runOf (N := N) (Ga := pm_D N (d + 0)) 
theorem K_readToken : sp_readToken (pm_D N (d + 2)) := t_readToken (N := N) (Ga := pm_D N (d + 1)) K_blame K_runOf
theorem K_numberRead : sp_numberRead (pm_D N (d + 1)) := t_numberRead (N := N) (Ga := pm_D N (d + 0)) 
theorem K_takeNumber : sp_takeNumber (pm_D N (d + 3)) := t_takeNumber (N := N) (Ga := pm_D N (d + 2)) K_readToken K_blame K_numberRead K_within
theorem K_takeSemicolon : sp_takeSemicolon (pm_D N (d + 3)) := t_takeSemicolon (N := N) (Ga := pm_D N (d + 2)) K_readToken K_blame
theorem K_takeDrag : sp_takeDrag (pm_D N (d + 4)) := t_takeDrag (N := N) (Ga := pm_D N (d + 3)) K_blame K_takeNumber K_takeSemicolon
theorem K_takeKnock : sp_takeKnock (pm_D N (d + 4)) := t_takeKnock (N := N) (Ga := pm_D N (d + 3)) K_blame K_takeNumber K_takeSemicolon K_addKnock
theorem K_takeBead : sp_takeBead (pm_D N (d + 4)) := t_takeBead (N := N) (Ga := pm_D N (d + 3)) K_blame K_takeNumber K_takeSemicolon K_addBead
theorem K_takeLine : sp_takeLine (pm_D N (d + 8)) := t_takeLine (N := N) (Ga := pm_D N (d + 7)) K_wordRead K_blame K_takeDrag K_takeKnock K_takeBead
theorem K_tellInto : sp_tellInto (pm_D N (d + 9)) := t_tellInto (N := N) (Ga := pm_D N (d + 8)) K_clear K_readToken K_takeLine
theorem K_c_text : cs0 (pm_D N (d + 10)) 46 r_text := t_c_text (N := N) (Ga := pm_D N (d + 9)) K_tellInto K_becomeLike
theorem K_byteAt : sp_byteAt (pm_D N (d + 1)) := t_byteAt (N := N) (Ga := pm_D N (d + 0)) 
theorem K_fails : sp_fails (pm_D N (d + 1)) := t_fails (N := N) (Ga := pm_D N (d + 0)) 
theorem K_readsOn : sp_readsOn (pm_D N (d + 2)) := t_readsOn (N := N) (Ga := pm_D N (d + 1)) K_byteAt K_in K_fails
theorem K_nameHere : sp_nameHere (pm_D N (d + 2)) := t_nameHere (N := N) (Ga := pm_D N (d + 1)) K_byteAt
theorem K_number : sp_number (pm_D N (d + 3)) := t_number (N := N) (Ga := pm_D N (d + 2)) K_fails K_in K_readsOn
theorem K_rmBead : sp_rmBead (pm_D N (d + 4)) := t_rmBead (N := N) (Ga := pm_D N (d + 3)) K_number
theorem K_rmDrag : sp_rmDrag (pm_D N (d + 4)) := t_rmDrag (N := N) (Ga := pm_D N (d + 3)) K_number
theorem K_rmKnock : sp_rmKnock (pm_D N (d + 4)) := t_rmKnock (N := N) (Ga := pm_D N (d + 3)) K_number
theorem K_readLine : sp_readLine (pm_D N (d + 5)) := t_readLine (N := N) (Ga := pm_D N (d + 4)) K_nameHere K_in K_fails K_readsOn K_rmBead K_rmDrag K_rmKnock
theorem K_m_text : ms0 (pm_D N (d + 6)) 109 r_text := t_m_text (N := N) (Ga := pm_D N (d + 5)) K_readsOn K_readLine
theorem K_c_bead : cs2 (pm_D N (d + 3)) 49 r_bead := t_c_bead (N := N) (Ga := pm_D N (d + 2)) K_has K_rowOf K_stretchOf K_pullOf
end

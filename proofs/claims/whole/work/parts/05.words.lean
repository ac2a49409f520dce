abbrev rm_X11_in : Room := { frames := 0, cells := 0, slots := 0, locals := 0 }
abbrev rm_X11_type : Room := { frames := 1, cells := 0, slots := 0, locals := 22 }
abbrev rm_X11_clear : Room := { frames := 0, cells := 0, slots := 0, locals := 0 }
abbrev rm_X11_isSuspect : Room := { frames := 1, cells := 0, slots := 0, locals := 22 }
abbrev rm_X11_hoursOf : Room := { frames := 1, cells := 0, slots := 0, locals := 22 }
abbrev rm_X11_heldBy : Room := { frames := 2, cells := 0, slots := 0, locals := 47 }
abbrev rm_X11_hold : Room := { frames := 3, cells := 0, slots := 0, locals := 71 }
abbrev rm_X11_serve : Room := { frames := 0, cells := 0, slots := 0, locals := 0 }
abbrev rm_X11_asNow : Room := { frames := 4, cells := 0, slots := 0, locals := 93 }
abbrev rm_X11_suspect : Room := { frames := 5, cells := 0, slots := 0, locals := 113 }
abbrev rm_X11_isFact : Room := { frames := 1, cells := 0, slots := 0, locals := 22 }
abbrev rm_X11_fact : Room := { frames := 2, cells := 0, slots := 0, locals := 43 }
abbrev rm_X11_moves : Room := { frames := 2, cells := 0, slots := 0, locals := 43 }
abbrev rm_X11_isAlibi : Room := { frames := 1, cells := 0, slots := 0, locals := 22 }
abbrev rm_X11_alibi : Room := { frames := 2, cells := 0, slots := 0, locals := 43 }
abbrev rm_X11_know : Room := { frames := 0, cells := 0, slots := 0, locals := 0 }
abbrev rm_X11_theCase : Room := { frames := 4, cells := 0, slots := 0, locals := 93 }
abbrev rm_X11_find : Room := { frames := 5, cells := 0, slots := 0, locals := 113 }
abbrev rm_X11_hear : Room := { frames := 5, cells := 0, slots := 0, locals := 113 }
abbrev rm_X11_days : Room := { frames := 1, cells := 0, slots := 0, locals := 22 }
abbrev rm_X11_undo : Room := { frames := 0, cells := 0, slots := 0, locals := 0 }
abbrev rm_X11_share : Room := { frames := 4, cells := 0, slots := 0, locals := 93 }
abbrev rm_X11_allServe : Room := { frames := 5, cells := 0, slots := 0, locals := 113 }
abbrev rm_X11_now : Room := { frames := 6, cells := 0, slots := 0, locals := 135 }
abbrev rm_X11_isShare : Room := { frames := 2, cells := 0, slots := 0, locals := 43 }
abbrev rm_X11_costOf : Room := { frames := 0, cells := 0, slots := 0, locals := 0 }
abbrev rm_X11_isSo : Room := { frames := 0, cells := 0, slots := 0, locals := 0 }
abbrev rm_X11_cheapest : Room := { frames := 4, cells := 0, slots := 0, locals := 93 }
abbrev rm_X11_proof : Room := { frames := 5, cells := 0, slots := 0, locals := 119 }
abbrev rm_X11_cleared : Room := { frames := 5, cells := 0, slots := 0, locals := 119 }
abbrev rm_X11_forged : Room := { frames := 4, cells := 0, slots := 0, locals := 93 }
abbrev rm_X11_manyOf : Room := { frames := 0, cells := 0, slots := 0, locals := 0 }
abbrev rm_X11_clashes : Room := { frames := 0, cells := 0, slots := 0, locals := 0 }
abbrev rm_X11_hasClash : Room := { frames := 1, cells := 0, slots := 0, locals := 22 }
abbrev rm_X11_clash : Room := { frames := 2, cells := 0, slots := 0, locals := 46 }
abbrev rm_X11_bandHeld : Room := { frames := 1, cells := 0, slots := 0, locals := 22 }
abbrev rm_X11_bandDays : Room := { frames := 2, cells := 0, slots := 0, locals := 46 }
abbrev rm_X11_firstWhoGains : Room := { frames := 3, cells := 0, slots := 0, locals := 70 }
abbrev rm_X11_rests : Room := { frames := 4, cells := 0, slots := 0, locals := 93 }
abbrev rm_X11_gains : Room := { frames := 4, cells := 0, slots := 0, locals := 93 }
abbrev rm_X11_fitsIn : Room := { frames := 0, cells := 0, slots := 0, locals := 0 }
abbrev rm_X11_cellsFor : Room := { frames := 6, cells := 0, slots := 0, locals := 135 }
abbrev rm_X11_sits : Room := { frames := 5, cells := 0, slots := 0, locals := 113 }
abbrev rm_X11_byOther : Room := { frames := 0, cells := 0, slots := 0, locals := 0 }
abbrev rm_X11_wronged : Room := { frames := 5, cells := 0, slots := 0, locals := 113 }
abbrev rm_X11_book : Room := { frames := 2, cells := 0, slots := 0, locals := 43 }
abbrev rm_X11_burn : Room := { frames := 0, cells := 0, slots := 0, locals := 0 }
abbrev rm_X11_books : Room := { frames := 4, cells := 0, slots := 0, locals := 93 }
abbrev rm_X11_innocent : Room := { frames := 3, cells := 0, slots := 0, locals := 71 }
abbrev rm_X11_copy : Room := { frames := 0, cells := 0, slots := 0, locals := 0 }
abbrev rm_X11_keep : Room := { frames := 5, cells := 0, slots := 0, locals := 113 }
abbrev rm_X11_back : Room := { frames := 5, cells := 0, slots := 0, locals := 113 }
abbrev rm_X11_count : Room := { frames := 0, cells := 0, slots := 0, locals := 0 }
abbrev rm_X11_trace : Room := { frames := 0, cells := 0, slots := 0, locals := 0 }
abbrev rm_X11_here : Room := { frames := 0, cells := 0, slots := 0, locals := 0 }
abbrev rm_X11_next : Room := { frames := 1, cells := 0, slots := 0, locals := 22 }
abbrev rm_X11_mayBe : Room := { frames := 0, cells := 0, slots := 0, locals := 0 }
abbrev rm_X11_due : Room := { frames := 2, cells := 0, slots := 0, locals := 43 }
abbrev rm_X11_number : Room := { frames := 3, cells := 0, slots := 0, locals := 65 }
abbrev rm_X11_readFact : Room := { frames := 4, cells := 0, slots := 0, locals := 87 }
abbrev rm_X11_readRow : Room := { frames := 5, cells := 0, slots := 0, locals := 109 }
abbrev rm_X11_take : Room := { frames := 0, cells := 0, slots := 0, locals := 0 }
abbrev rm_X11_court : Room := { frames := 6, cells := 0, slots := 0, locals := 131 }
abbrev rm_X11_mark : Room := { frames := 3, cells := 0, slots := 0, locals := 71 }
abbrev rm_X10_within : Room := { frames := 0, cells := 0, slots := 0, locals := 0 }
abbrev rm_X10_type : Room := { frames := 1, cells := 0, slots := 0, locals := 22 }
abbrev rm_X10_clear : Room := { frames := 0, cells := 0, slots := 0, locals := 0 }
abbrev rm_X10_isSuspect : Room := { frames := 1, cells := 0, slots := 0, locals := 22 }
abbrev rm_X5_hoursFromTo : Room := { frames := 0, cells := 0, slots := 0, locals := 0 }
abbrev rm_J6_bitCount_0f7a4 : Room := { frames := 0, cells := 0, slots := 0, locals := 0 }
abbrev rm_X10_bit : Room := { frames := 0, cells := 0, slots := 0, locals := 0 }
abbrev rm_X5_countHours : Room := { frames := 1, cells := 0, slots := 0, locals := 21 }
abbrev rm_X5_heldBy : Room := { frames := 1, cells := 0, slots := 0, locals := 24 }
abbrev rm_X5_weigh : Room := { frames := 2, cells := 0, slots := 0, locals := 49 }
abbrev rm_X5_giveOneDayMore : Room := { frames := 0, cells := 0, slots := 0, locals := 0 }
abbrev rm_X5_sentence : Room := { frames := 1, cells := 0, slots := 0, locals := 22 }
abbrev rm_X10_weighNow : Room := { frames := 3, cells := 0, slots := 0, locals := 72 }
abbrev rm_X10_suspect : Room := { frames := 4, cells := 0, slots := 0, locals := 92 }
abbrev rm_X10_isFact : Room := { frames := 1, cells := 0, slots := 0, locals := 22 }
abbrev rm_X10_fact : Room := { frames := 2, cells := 0, slots := 0, locals := 43 }
abbrev rm_X10_moves : Room := { frames := 2, cells := 0, slots := 0, locals := 43 }
abbrev rm_X10_isAlibi : Room := { frames := 1, cells := 0, slots := 0, locals := 22 }
abbrev rm_X10_alibi : Room := { frames := 2, cells := 0, slots := 0, locals := 43 }
abbrev rm_X6_remember : Room := { frames := 1, cells := 0, slots := 0, locals := 64 }
abbrev rm_X10_caseNow : Room := { frames := 4, cells := 0, slots := 0, locals := 92 }
abbrev rm_X10_find : Room := { frames := 5, cells := 0, slots := 0, locals := 112 }
abbrev rm_X10_hear : Room := { frames := 5, cells := 0, slots := 0, locals := 112 }
abbrev rm_X10_days : Room := { frames := 2, cells := 0, slots := 0, locals := 84 }
abbrev rm_X6_stepBack : Room := { frames := 0, cells := 0, slots := 0, locals := 0 }
abbrev rm_X10_undo : Room := { frames := 1, cells := 0, slots := 0, locals := 20 }
abbrev rm_X10_commonDivisor : Room := { frames := 1, cells := 0, slots := 0, locals := 24 }
abbrev rm_X10_share : Room := { frames := 4, cells := 0, slots := 0, locals := 92 }
abbrev rm_X5_allServe : Room := { frames := 0, cells := 0, slots := 0, locals := 0 }
abbrev rm_X10_now : Room := { frames := 5, cells := 0, slots := 0, locals := 112 }
abbrev rm_X10_isFraction : Room := { frames := 1, cells := 0, slots := 0, locals := 22 }
abbrev rm_X1_costOf : Room := { frames := 1, cells := 0, slots := 0, locals := 21 }
abbrev rm_X10_isNoMore : Room := { frames := 0, cells := 0, slots := 0, locals := 0 }
abbrev rm_X10_isNoLess : Room := { frames := 0, cells := 0, slots := 0, locals := 0 }
abbrev rm_X10_cheapest : Room := { frames := 3, cells := 0, slots := 0, locals := 72 }
abbrev rm_X10_costOrSet : Room := { frames := 2, cells := 0, slots := 0, locals := 44 }
abbrev rm_X10_proof : Room := { frames := 4, cells := 0, slots := 0, locals := 101 }
abbrev rm_X10_cleared : Room := { frames := 4, cells := 0, slots := 0, locals := 101 }
abbrev rm_X10_forged : Room := { frames := 4, cells := 0, slots := 0, locals := 92 }
abbrev rm_X1_doClash : Room := { frames := 0, cells := 0, slots := 0, locals := 0 }
abbrev rm_X10_matchClashers : Room := { frames := 1, cells := 0, slots := 0, locals := 22 }
abbrev rm_X10_leavesNoClash : Room := { frames := 1, cells := 0, slots := 0, locals := 21 }
abbrev rm_X10_fewestFalse : Room := { frames := 2, cells := 0, slots := 0, locals := 43 }
abbrev rm_X10_clash : Room := { frames := 3, cells := 0, slots := 0, locals := 65 }
abbrev rm_X10_bandHeld : Room := { frames := 1, cells := 0, slots := 0, locals := 21 }
abbrev rm_X10_bandDays : Room := { frames := 2, cells := 0, slots := 0, locals := 45 }
abbrev rm_X10_firstGainer : Room := { frames := 3, cells := 0, slots := 0, locals := 69 }
abbrev rm_X10_rests : Room := { frames := 4, cells := 0, slots := 0, locals := 92 }
abbrev rm_X10_gains : Room := { frames := 4, cells := 0, slots := 0, locals := 92 }
abbrev rm_X10_cellsNeeded : Room := { frames := 1, cells := 0, slots := 0, locals := 22 }
abbrev rm_X10_cellsFor : Room := { frames := 4, cells := 0, slots := 0, locals := 92 }
abbrev rm_X10_sits : Room := { frames := 4, cells := 0, slots := 0, locals := 92 }
abbrev rm_X10_wrongTo : Room := { frames := 1, cells := 0, slots := 0, locals := 24 }
abbrev rm_X10_wronged : Room := { frames := 4, cells := 0, slots := 0, locals := 92 }
abbrev rm_X10_book : Room := { frames := 2, cells := 0, slots := 0, locals := 43 }
abbrev rm_X10_burn : Room := { frames := 0, cells := 0, slots := 0, locals := 0 }
abbrev rm_X10_fitsBook : Room := { frames := 3, cells := 0, slots := 0, locals := 72 }
abbrev rm_X10_books : Room := { frames := 4, cells := 0, slots := 0, locals := 94 }
abbrev rm_X10_innocent : Room := { frames := 2, cells := 0, slots := 0, locals := 49 }
abbrev rm_X6_become : Room := { frames := 1, cells := 0, slots := 0, locals := 64 }
abbrev rm_X10_keep : Room := { frames := 5, cells := 0, slots := 0, locals := 112 }
abbrev rm_X10_back : Room := { frames := 5, cells := 0, slots := 0, locals := 112 }
abbrev rm_X10_count : Room := { frames := 0, cells := 0, slots := 0, locals := 0 }
abbrev rm_X10_trace : Room := { frames := 0, cells := 0, slots := 0, locals := 0 }
abbrev rm_X1_beginAnew : Room := { frames := 0, cells := 0, slots := 0, locals := 0 }
abbrev rm_X7_takeNumber : Room := { frames := 1, cells := 0, slots := 0, locals := 24 }
abbrev rm_X7_takeLetters : Room := { frames := 1, cells := 0, slots := 0, locals := 22 }
abbrev rm_X7_nextToken : Room := { frames := 2, cells := 0, slots := 0, locals := 46 }
abbrev rm_X7_mayBegin : Room := { frames := 0, cells := 0, slots := 0, locals := 0 }
abbrev rm_X7_numbersDue : Room := { frames := 0, cells := 0, slots := 0, locals := 0 }
abbrev rm_X1_addAlibi : Room := { frames := 0, cells := 0, slots := 0, locals := 0 }
abbrev rm_X1_addFact : Room := { frames := 0, cells := 0, slots := 0, locals := 0 }
abbrev rm_X1_addSuspect : Room := { frames := 0, cells := 0, slots := 0, locals := 0 }
abbrev rm_X7_addItem : Room := { frames := 1, cells := 0, slots := 0, locals := 23 }
abbrev rm_X7_least : Room := { frames := 0, cells := 0, slots := 0, locals := 0 }
abbrev rm_X7_most : Room := { frames := 0, cells := 0, slots := 0, locals := 0 }
abbrev rm_X7_readItem : Room := { frames := 3, cells := 0, slots := 0, locals := 66 }
abbrev rm_X7_readInto : Room := { frames := 4, cells := 0, slots := 0, locals := 90 }
abbrev rm_X6_beginAnew : Room := { frames := 0, cells := 0, slots := 0, locals := 0 }
abbrev rm_X10_court : Room := { frames := 5, cells := 0, slots := 0, locals := 112 }
abbrev rm_X0_markOf : Room := { frames := 0, cells := 0, slots := 0, locals := 0 }
abbrev rm_X8_markOf : Room := { frames := 1, cells := 0, slots := 0, locals := 22 }
abbrev rm_X9_markOf : Room := { frames := 1, cells := 0, slots := 0, locals := 22 }
abbrev rm_X2_markOf : Room := { frames := 2, cells := 0, slots := 0, locals := 44 }
abbrev rm_X3_markOf : Room := { frames := 2, cells := 0, slots := 0, locals := 46 }
abbrev rm_X4_markOf : Room := { frames := 1, cells := 0, slots := 0, locals := 22 }
abbrev rm_X10_mark : Room := { frames := 4, cells := 0, slots := 0, locals := 92 }
theorem w0 : Cond.selects RX7 yX7_nextToken yX7_nextToken ∈ zWs := z_at 0 (by decide +kernel) rfl
theorem w1 : Cond.selects RX7 yX7_takeLetters yX7_takeLetters ∈ zWs := z_at 1 (by decide +kernel) rfl
theorem w2 : Cond.selects RX7 yX7_takeNumber yX7_takeNumber ∈ zWs := z_at 2 (by decide +kernel) rfl
theorem w3 : Cond.selects RX7 yX7_readItem yX7_readItem ∈ zWs := z_at 3 (by decide +kernel) rfl
theorem w4 : Cond.selects RX7 yX7_mayBegin yX7_mayBegin ∈ zWs := z_at 4 (by decide +kernel) rfl
theorem w5 : Cond.selects RX7 yX7_least yX7_least ∈ zWs := z_at 5 (by decide +kernel) rfl
theorem w6 : Cond.selects RX7 yX7_addItem yX7_addItem ∈ zWs := z_at 6 (by decide +kernel) rfl
theorem w7 : Cond.selects RX10 yX10_isSuspect yX10_isSuspect ∈ zWs := z_at 7 (by decide +kernel) rfl
theorem w8 : Cond.selects RX10 yX10_weighNow yX10_weighNow ∈ zWs := z_at 8 (by decide +kernel) rfl
theorem w9 : Cond.selects RX5 yX5_giveOneDayMore yX5_giveOneDayMore ∈ zWs := z_at 9 (by decide +kernel) rfl
theorem w10 : Cond.selects RX10 yX10_isFact yX10_isFact ∈ zWs := z_at 10 (by decide +kernel) rfl
theorem w11 : Cond.selects RX10 yX10_isAlibi yX10_isAlibi ∈ zWs := z_at 11 (by decide +kernel) rfl
theorem w12 : Cond.selects RX10 yX10_caseNow yX10_caseNow ∈ zWs := z_at 12 (by decide +kernel) rfl
theorem w13 : Cond.selects RX10 yX10_cheapest yX10_cheapest ∈ zWs := z_at 13 (by decide +kernel) rfl
theorem w14 : Cond.selects RX10 yX10_costOrSet yX10_costOrSet ∈ zWs := z_at 14 (by decide +kernel) rfl
theorem w15 : Cond.selects RX10 yX10_matchClashers yX10_matchClashers ∈ zWs := z_at 15 (by decide +kernel) rfl
theorem w16 : Cond.selects RX10 yX10_fewestFalse yX10_fewestFalse ∈ zWs := z_at 16 (by decide +kernel) rfl
theorem w17 : Cond.selects RX10 yX10_leavesNoClash yX10_leavesNoClash ∈ zWs := z_at 17 (by decide +kernel) rfl
theorem w18 : Cond.selects RX10 yX10_firstGainer yX10_firstGainer ∈ zWs := z_at 18 (by decide +kernel) rfl
theorem w19 : Cond.selects RX10 yX10_bandDays yX10_bandDays ∈ zWs := z_at 19 (by decide +kernel) rfl
theorem w20 : Cond.selects RX10 yX10_bandHeld yX10_bandHeld ∈ zWs := z_at 20 (by decide +kernel) rfl
theorem w21 : Cond.selects RX10 yX10_cellsNeeded yX10_cellsNeeded ∈ zWs := z_at 21 (by decide +kernel) rfl
theorem w22 : Cond.selects RX10 yX10_wrongTo yX10_wrongTo ∈ zWs := z_at 22 (by decide +kernel) rfl
theorem w23 : Cond.selects RX10 yX10_fitsBook yX10_fitsBook ∈ zWs := z_at 23 (by decide +kernel) rfl
theorem w24 : Cond.selects RX11 yX11_next yX11_next ∈ zWs := z_at 24 (by decide +kernel) rfl
theorem w25 : Cond.selects RX11 yX11_here yX11_here ∈ zWs := z_at 25 (by decide +kernel) rfl
theorem w26 : Cond.selects RX11 yX11_mayBe yX11_mayBe ∈ zWs := z_at 26 (by decide +kernel) rfl
theorem w27 : Cond.selects RX11 yX11_due yX11_due ∈ zWs := z_at 27 (by decide +kernel) rfl
theorem w28 : Cond.selects RX11 yX11_readRow yX11_readRow ∈ zWs := z_at 28 (by decide +kernel) rfl
theorem w29 : Cond.selects RX11 yX11_number yX11_number ∈ zWs := z_at 29 (by decide +kernel) rfl
theorem w30 : Cond.selects RX11 yX11_readFact yX11_readFact ∈ zWs := z_at 30 (by decide +kernel) rfl
theorem w31 : Cond.selects RX11 yX11_take yX11_take ∈ zWs := z_at 31 (by decide +kernel) rfl
theorem w32 : Cond.selects RX11 yX11_isSuspect yX11_isSuspect ∈ zWs := z_at 32 (by decide +kernel) rfl
theorem w33 : Cond.selects RX11 yX11_asNow yX11_asNow ∈ zWs := z_at 33 (by decide +kernel) rfl
theorem w34 : Cond.selects RX11 yX11_hold yX11_hold ∈ zWs := z_at 34 (by decide +kernel) rfl
theorem w35 : Cond.selects RX11 yX11_heldBy yX11_heldBy ∈ zWs := z_at 35 (by decide +kernel) rfl
theorem w36 : Cond.selects RX11 yX11_hoursOf yX11_hoursOf ∈ zWs := z_at 36 (by decide +kernel) rfl
theorem w37 : Cond.selects RX11 yX11_serve yX11_serve ∈ zWs := z_at 37 (by decide +kernel) rfl
theorem w38 : Cond.selects RX11 yX11_isFact yX11_isFact ∈ zWs := z_at 38 (by decide +kernel) rfl
theorem w39 : Cond.selects RX11 yX11_isAlibi yX11_isAlibi ∈ zWs := z_at 39 (by decide +kernel) rfl
theorem w40 : Cond.selects RX11 yX11_know yX11_know ∈ zWs := z_at 40 (by decide +kernel) rfl
theorem w41 : Cond.selects RX11 yX11_theCase yX11_theCase ∈ zWs := z_at 41 (by decide +kernel) rfl
theorem w42 : Cond.selects RX11 yX11_allServe yX11_allServe ∈ zWs := z_at 42 (by decide +kernel) rfl
theorem w43 : Cond.selects RX11 yX11_isShare yX11_isShare ∈ zWs := z_at 43 (by decide +kernel) rfl
theorem w44 : Cond.selects RX11 yX11_cheapest yX11_cheapest ∈ zWs := z_at 44 (by decide +kernel) rfl
theorem w45 : Cond.selects RX11 yX11_costOf yX11_costOf ∈ zWs := z_at 45 (by decide +kernel) rfl
theorem w46 : Cond.selects RX11 yX11_isSo yX11_isSo ∈ zWs := z_at 46 (by decide +kernel) rfl
theorem w47 : Cond.selects RX11 yX11_clashes yX11_clashes ∈ zWs := z_at 47 (by decide +kernel) rfl
theorem w48 : Cond.selects RX11 yX11_hasClash yX11_hasClash ∈ zWs := z_at 48 (by decide +kernel) rfl
theorem w49 : Cond.selects RX11 yX11_firstWhoGains yX11_firstWhoGains ∈ zWs := z_at 49 (by decide +kernel) rfl
theorem w50 : Cond.selects RX11 yX11_bandDays yX11_bandDays ∈ zWs := z_at 50 (by decide +kernel) rfl
theorem w51 : Cond.selects RX11 yX11_bandHeld yX11_bandHeld ∈ zWs := z_at 51 (by decide +kernel) rfl
theorem w52 : Cond.selects RX11 yX11_fitsIn yX11_fitsIn ∈ zWs := z_at 52 (by decide +kernel) rfl
theorem w53 : Cond.selects RX11 yX11_byOther yX11_byOther ∈ zWs := z_at 53 (by decide +kernel) rfl
theorem w54 : Cond.selects RX11 yX11_copy yX11_copy ∈ zWs := z_at 54 (by decide +kernel) rfl
theorem w56 : Cond.initialized RX10 ∈ zWs := z_at 56 (by decide +kernel) rfl
theorem w57 : Cond.initialized RX7 ∈ zWs := z_at 57 (by decide +kernel) rfl
theorem w58 : Cond.initialized RX5 ∈ zWs := z_at 58 (by decide +kernel) rfl
theorem w59 : Cond.initialized RX6 ∈ zWs := z_at 59 (by decide +kernel) rfl
theorem w60 : Cond.initialized RX0 ∈ zWs := z_at 60 (by decide +kernel) rfl
theorem w61 : Cond.initialized RX8 ∈ zWs := z_at 61 (by decide +kernel) rfl
theorem w62 : Cond.initialized RX9 ∈ zWs := z_at 62 (by decide +kernel) rfl
theorem w63 : Cond.initialized RX2 ∈ zWs := z_at 63 (by decide +kernel) rfl
theorem w64 : Cond.initialized RX3 ∈ zWs := z_at 64 (by decide +kernel) rfl
theorem w65 : Cond.initialized RX4 ∈ zWs := z_at 65 (by decide +kernel) rfl
theorem w66 : Cond.initialized RX1 ∈ zWs := z_at 66 (by decide +kernel) rfl
theorem w67 : Cond.initialized RX11 ∈ zWs := z_at 67 (by decide +kernel) rfl
theorem w68 : Cond.initialized "java/lang/Math" ∈ zWs := z_at 68 (by decide +kernel) rfl
theorem w69 : Cond.initialized RJ6 ∈ zWs := z_at 69 (by decide +kernel) rfl
theorem w70 : Cond.initialized "java/lang/System" ∈ zWs := z_at 70 (by decide +kernel) rfl
theorem w71 : Cond.classLink RL 7 RX10 ∈ zWs := z_at 71 (by decide +kernel) rfl
theorem w72 : Cond.instantiable RX10 13 ∈ zWs := z_at 72 (by decide +kernel) rfl
theorem w73 : Cond.methodLink RL 9 yX10_init ∈ zWs := z_at 73 (by decide +kernel) rfl
theorem w74 : Cond.instanceMethod yX10_init ∈ zWs := z_at 74 (by decide +kernel) rfl
theorem w75 : Cond.code yX10_init cX10_init 1 none ∈ zWs := z_at 75 (by decide +kernel) rfl
theorem w76 : Cond.methodLink RX10 1 objectInit ∈ zWs := z_at 76 (by decide +kernel) rfl
theorem w77 : Cond.instanceMethod objectInit ∈ zWs := z_at 77 (by decide +kernel) rfl
theorem w78 : Cond.code objectInit ⟨#[0xb1]⟩ 1 none ∈ zWs := z_at 78 (by decide +kernel) rfl
theorem w79 : Cond.classLink RX10 7 RX7 ∈ zWs := z_at 79 (by decide +kernel) rfl
theorem w80 : Cond.instantiable RX7 9 ∈ zWs := z_at 80 (by decide +kernel) rfl
theorem w82 : Cond.instanceMethod yX7_init ∈ zWs := z_at 82 (by decide +kernel) rfl
theorem w83 : Cond.code yX7_init cX7_init 1 none ∈ zWs := z_at 83 (by decide +kernel) rfl
theorem w84 : Cond.methodLink RX7 3 objectInit ∈ zWs := z_at 84 (by decide +kernel) rfl
theorem w85 : Cond.fieldLink RX7 9 "FifthsOfGuilt$TextReader" "bytes" "[I" ∈ zWs := z_at 85 (by decide +kernel) rfl
theorem w86 : Cond.fieldLink RX10 97 "FifthsOfGuilt$TextReader" "bytes" "[I" ∈ zWs := z_at 86 (by decide +kernel) rfl
theorem w87 : Cond.fieldLink RX10 94 "FifthsOfGuilt$TextReader" "size" "I" ∈ zWs := z_at 87 (by decide +kernel) rfl
theorem w88 : Cond.fieldLink RX7 47 "FifthsOfGuilt$TextReader" "size" "I" ∈ zWs := z_at 88 (by decide +kernel) rfl
theorem w89 : Cond.fieldLink RX7 15 "FifthsOfGuilt$TextReader" "numbers" "[I" ∈ zWs := z_at 89 (by decide +kernel) rfl
theorem w90 : Cond.fieldLink RX7 23 "FifthsOfGuilt$TextReader" "place" "I" ∈ zWs := z_at 90 (by decide +kernel) rfl
theorem w91 : Cond.fieldLink RX7 37 "FifthsOfGuilt$TextReader" "token" "I" ∈ zWs := z_at 91 (by decide +kernel) rfl
theorem w92 : Cond.fieldLink RX7 44 "FifthsOfGuilt$TextReader" "tokenPlace" "I" ∈ zWs := z_at 92 (by decide +kernel) rfl
theorem w93 : Cond.fieldLink RX7 50 "FifthsOfGuilt$TextReader" "tokenValue" "I" ∈ zWs := z_at 93 (by decide +kernel) rfl
theorem w94 : Cond.fieldLink RX7 27 "FifthsOfGuilt$TextReader" "deedTold" "Z" ∈ zWs := z_at 94 (by decide +kernel) rfl
theorem w95 : Cond.fieldLink RX7 31 "FifthsOfGuilt$TextReader" "daysTold" "Z" ∈ zWs := z_at 95 (by decide +kernel) rfl
theorem w115 : Cond.arrayClass .int ∈ zWs := z_at 115 (by decide +kernel) rfl
theorem w116 : Cond.classLink RX10 16 RX5 ∈ zWs := z_at 116 (by decide +kernel) rfl
theorem w117 : Cond.instantiable RX5 6 ∈ zWs := z_at 117 (by decide +kernel) rfl
theorem w119 : Cond.instanceMethod yX5_init ∈ zWs := z_at 119 (by decide +kernel) rfl
theorem w120 : Cond.code yX5_init cX5_init 1 none ∈ zWs := z_at 120 (by decide +kernel) rfl
theorem w121 : Cond.methodLink RX5 3 objectInit ∈ zWs := z_at 121 (by decide +kernel) rfl
theorem w122 : Cond.fieldLink RX5 9 "FifthsOfGuilt$Scales" "held" "[I" ∈ zWs := z_at 122 (by decide +kernel) rfl
theorem w123 : Cond.fieldLink RX0 17 "FifthsOfGuilt$Scales" "held" "[I" ∈ zWs := z_at 123 (by decide +kernel) rfl
theorem w124 : Cond.fieldLink RX10 117 "FifthsOfGuilt$Scales" "held" "[I" ∈ zWs := z_at 124 (by decide +kernel) rfl
theorem w125 : Cond.fieldLink RX5 15 "FifthsOfGuilt$Scales" "serves" "[I" ∈ zWs := z_at 125 (by decide +kernel) rfl
theorem w126 : Cond.fieldLink RX10 120 "FifthsOfGuilt$Scales" "serves" "[I" ∈ zWs := z_at 126 (by decide +kernel) rfl
theorem w127 : Cond.fieldLink RX5 18 "FifthsOfGuilt$Scales" "hours" "[I" ∈ zWs := z_at 127 (by decide +kernel) rfl
theorem w128 : Cond.fieldLink RX10 123 "FifthsOfGuilt$Scales" "hours" "[I" ∈ zWs := z_at 128 (by decide +kernel) rfl
theorem w129 : Cond.fieldLink RX5 62 "FifthsOfGuilt$Scales" "all" "I" ∈ zWs := z_at 129 (by decide +kernel) rfl
theorem w130 : Cond.fieldLink RX10 178 "FifthsOfGuilt$Scales" "all" "I" ∈ zWs := z_at 130 (by decide +kernel) rfl
theorem w131 : Cond.fieldLink RX5 21 "FifthsOfGuilt$Scales" "rest" "[I" ∈ zWs := z_at 131 (by decide +kernel) rfl
theorem w132 : Cond.fieldLink RX5 30 "FifthsOfGuilt$Scales" "suspects" "I" ∈ zWs := z_at 132 (by decide +kernel) rfl
theorem w146 : Cond.classLink RX10 23 RX6 ∈ zWs := z_at 146 (by decide +kernel) rfl
theorem w147 : Cond.instantiable RX6 5 ∈ zWs := z_at 147 (by decide +kernel) rfl
theorem w149 : Cond.instanceMethod yX6_init ∈ zWs := z_at 149 (by decide +kernel) rfl
theorem w150 : Cond.code yX6_init cX6_init 1 none ∈ zWs := z_at 150 (by decide +kernel) rfl
theorem w151 : Cond.methodLink RX6 3 objectInit ∈ zWs := z_at 151 (by decide +kernel) rfl
theorem w152 : Cond.fieldLink RX6 15 "FifthsOfGuilt$Standing" "facts" "I" ∈ zWs := z_at 152 (by decide +kernel) rfl
theorem w153 : Cond.fieldLink RX4 23 "FifthsOfGuilt$Standing" "facts" "I" ∈ zWs := z_at 153 (by decide +kernel) rfl
theorem w154 : Cond.fieldLink RX10 135 "FifthsOfGuilt$Standing" "facts" "I" ∈ zWs := z_at 154 (by decide +kernel) rfl
theorem w155 : Cond.fieldLink RX6 19 "FifthsOfGuilt$Standing" "alibis" "I" ∈ zWs := z_at 155 (by decide +kernel) rfl
theorem w156 : Cond.fieldLink RX10 161 "FifthsOfGuilt$Standing" "alibis" "I" ∈ zWs := z_at 156 (by decide +kernel) rfl
theorem w157 : Cond.fieldLink RX6 22 "FifthsOfGuilt$Standing" "days" "I" ∈ zWs := z_at 157 (by decide +kernel) rfl
theorem w158 : Cond.fieldLink RX10 171 "FifthsOfGuilt$Standing" "days" "I" ∈ zWs := z_at 158 (by decide +kernel) rfl
theorem w159 : Cond.fieldLink RX6 25 "FifthsOfGuilt$Standing" "known" "I" ∈ zWs := z_at 159 (by decide +kernel) rfl
theorem w160 : Cond.fieldLink RX10 172 "FifthsOfGuilt$Standing" "known" "I" ∈ zWs := z_at 160 (by decide +kernel) rfl
theorem w161 : Cond.fieldLink RX6 9 "FifthsOfGuilt$Standing" "before" "[I" ∈ zWs := z_at 161 (by decide +kernel) rfl
theorem w174 : Cond.classLink RX10 38 RX0 ∈ zWs := z_at 174 (by decide +kernel) rfl
theorem w176 : Cond.instantiable RX0 0 ∈ zWs := z_at 176 (by decide +kernel) rfl
theorem w178 : Cond.instanceMethod yX0_init ∈ zWs := z_at 178 (by decide +kernel) rfl
theorem w179 : Cond.code yX0_init cX0_init 1 none ∈ zWs := z_at 179 (by decide +kernel) rfl
theorem w180 : Cond.methodLink RX0 1 objectInit ∈ zWs := z_at 180 (by decide +kernel) rfl
theorem w182 : Cond.arrayClass .boolean ∈ zWs := z_at 182 (by decide +kernel) rfl
theorem w183 : Cond.classLink RX10 41 RX8 ∈ zWs := z_at 183 (by decide +kernel) rfl
theorem w184 : Cond.instantiable RX8 0 ∈ zWs := z_at 184 (by decide +kernel) rfl
theorem w186 : Cond.instanceMethod yX8_init ∈ zWs := z_at 186 (by decide +kernel) rfl
theorem w187 : Cond.code yX8_init cX8_init 1 none ∈ zWs := z_at 187 (by decide +kernel) rfl
theorem w189 : Cond.superclass RX8 RX0 ∈ zWs := z_at 189 (by decide +kernel) rfl
theorem w190 : Cond.classLink RX10 44 RX9 ∈ zWs := z_at 190 (by decide +kernel) rfl
theorem w191 : Cond.instantiable RX9 0 ∈ zWs := z_at 191 (by decide +kernel) rfl
theorem w193 : Cond.instanceMethod yX9_init ∈ zWs := z_at 193 (by decide +kernel) rfl
theorem w194 : Cond.code yX9_init cX9_init 1 none ∈ zWs := z_at 194 (by decide +kernel) rfl
theorem w196 : Cond.superclass RX9 RX0 ∈ zWs := z_at 196 (by decide +kernel) rfl
theorem w197 : Cond.classLink RX10 47 RX2 ∈ zWs := z_at 197 (by decide +kernel) rfl
theorem w198 : Cond.instantiable RX2 0 ∈ zWs := z_at 198 (by decide +kernel) rfl
theorem w200 : Cond.instanceMethod yX2_init ∈ zWs := z_at 200 (by decide +kernel) rfl
theorem w201 : Cond.code yX2_init cX2_init 1 none ∈ zWs := z_at 201 (by decide +kernel) rfl
theorem w203 : Cond.superclass RX2 RX8 ∈ zWs := z_at 203 (by decide +kernel) rfl
theorem w204 : Cond.classLink RX10 50 RX3 ∈ zWs := z_at 204 (by decide +kernel) rfl
theorem w205 : Cond.instantiable RX3 0 ∈ zWs := z_at 205 (by decide +kernel) rfl
theorem w207 : Cond.instanceMethod yX3_init ∈ zWs := z_at 207 (by decide +kernel) rfl
theorem w208 : Cond.code yX3_init cX3_init 1 none ∈ zWs := z_at 208 (by decide +kernel) rfl
theorem w210 : Cond.superclass RX3 RX9 ∈ zWs := z_at 210 (by decide +kernel) rfl
theorem w211 : Cond.classLink RX10 53 RX4 ∈ zWs := z_at 211 (by decide +kernel) rfl
theorem w212 : Cond.instantiable RX4 0 ∈ zWs := z_at 212 (by decide +kernel) rfl
theorem w214 : Cond.instanceMethod yX4_init ∈ zWs := z_at 214 (by decide +kernel) rfl
theorem w215 : Cond.code yX4_init cX4_init 1 none ∈ zWs := z_at 215 (by decide +kernel) rfl
theorem w217 : Cond.superclass RX4 RX0 ∈ zWs := z_at 217 (by decide +kernel) rfl
theorem w218 : Cond.classLink RX10 70 RX1 ∈ zWs := z_at 218 (by decide +kernel) rfl
theorem w219 : Cond.instantiable RX1 15 ∈ zWs := z_at 219 (by decide +kernel) rfl
theorem w221 : Cond.instanceMethod yX1_init ∈ zWs := z_at 221 (by decide +kernel) rfl
theorem w222 : Cond.code yX1_init cX1_init 1 none ∈ zWs := z_at 222 (by decide +kernel) rfl
theorem w223 : Cond.methodLink RX1 3 objectInit ∈ zWs := z_at 223 (by decide +kernel) rfl
theorem w224 : Cond.fieldLink RX1 39 "FifthsOfGuilt$CaseFile" "suspects" "I" ∈ zWs := z_at 224 (by decide +kernel) rfl
theorem w225 : Cond.fieldLink RX5 24 "FifthsOfGuilt$CaseFile" "suspects" "I" ∈ zWs := z_at 225 (by decide +kernel) rfl
theorem w226 : Cond.fieldLink RX7 77 "FifthsOfGuilt$CaseFile" "suspects" "I" ∈ zWs := z_at 226 (by decide +kernel) rfl
theorem w227 : Cond.fieldLink RX10 219 "FifthsOfGuilt$CaseFile" "suspects" "I" ∈ zWs := z_at 227 (by decide +kernel) rfl
theorem w228 : Cond.fieldLink RX1 43 "FifthsOfGuilt$CaseFile" "facts" "I" ∈ zWs := z_at 228 (by decide +kernel) rfl
theorem w229 : Cond.fieldLink RX7 80 "FifthsOfGuilt$CaseFile" "facts" "I" ∈ zWs := z_at 229 (by decide +kernel) rfl
theorem w230 : Cond.fieldLink RX5 72 "FifthsOfGuilt$CaseFile" "facts" "I" ∈ zWs := z_at 230 (by decide +kernel) rfl
theorem w231 : Cond.fieldLink RX10 239 "FifthsOfGuilt$CaseFile" "facts" "I" ∈ zWs := z_at 231 (by decide +kernel) rfl
theorem w232 : Cond.fieldLink RX1 46 "FifthsOfGuilt$CaseFile" "alibis" "I" ∈ zWs := z_at 232 (by decide +kernel) rfl
theorem w233 : Cond.fieldLink RX9 19 "FifthsOfGuilt$CaseFile" "alibis" "I" ∈ zWs := z_at 233 (by decide +kernel) rfl
theorem w234 : Cond.fieldLink RX5 41 "FifthsOfGuilt$CaseFile" "alibis" "I" ∈ zWs := z_at 234 (by decide +kernel) rfl
theorem w235 : Cond.fieldLink RX7 83 "FifthsOfGuilt$CaseFile" "alibis" "I" ∈ zWs := z_at 235 (by decide +kernel) rfl
theorem w236 : Cond.fieldLink RX10 255 "FifthsOfGuilt$CaseFile" "alibis" "I" ∈ zWs := z_at 236 (by decide +kernel) rfl
theorem w237 : Cond.fieldLink RX5 31 "FifthsOfGuilt$CaseFile" "deedFrom" "I" ∈ zWs := z_at 237 (by decide +kernel) rfl
theorem w238 : Cond.fieldLink RX1 49 "FifthsOfGuilt$CaseFile" "deedFrom" "I" ∈ zWs := z_at 238 (by decide +kernel) rfl
theorem w239 : Cond.fieldLink RX7 97 "FifthsOfGuilt$CaseFile" "deedFrom" "I" ∈ zWs := z_at 239 (by decide +kernel) rfl
theorem w240 : Cond.fieldLink RX10 201 "FifthsOfGuilt$CaseFile" "deedFrom" "I" ∈ zWs := z_at 240 (by decide +kernel) rfl
theorem w241 : Cond.fieldLink RX5 34 "FifthsOfGuilt$CaseFile" "deedTo" "I" ∈ zWs := z_at 241 (by decide +kernel) rfl
theorem w242 : Cond.fieldLink RX1 52 "FifthsOfGuilt$CaseFile" "deedTo" "I" ∈ zWs := z_at 242 (by decide +kernel) rfl
theorem w243 : Cond.fieldLink RX7 100 "FifthsOfGuilt$CaseFile" "deedTo" "I" ∈ zWs := z_at 243 (by decide +kernel) rfl
theorem w244 : Cond.fieldLink RX10 198 "FifthsOfGuilt$CaseFile" "deedTo" "I" ∈ zWs := z_at 244 (by decide +kernel) rfl
theorem w245 : Cond.fieldLink RX10 83 "FifthsOfGuilt$CaseFile" "days" "I" ∈ zWs := z_at 245 (by decide +kernel) rfl
theorem w246 : Cond.fieldLink RX1 55 "FifthsOfGuilt$CaseFile" "days" "I" ∈ zWs := z_at 246 (by decide +kernel) rfl
theorem w247 : Cond.fieldLink RX7 103 "FifthsOfGuilt$CaseFile" "days" "I" ∈ zWs := z_at 247 (by decide +kernel) rfl
theorem w248 : Cond.fieldLink RX1 9 "FifthsOfGuilt$CaseFile" "grudge" "[I" ∈ zWs := z_at 248 (by decide +kernel) rfl
theorem w249 : Cond.fieldLink RX8 23 "FifthsOfGuilt$CaseFile" "grudge" "[I" ∈ zWs := z_at 249 (by decide +kernel) rfl
theorem w250 : Cond.fieldLink RX5 69 "FifthsOfGuilt$CaseFile" "grudge" "[I" ∈ zWs := z_at 250 (by decide +kernel) rfl
theorem w251 : Cond.fieldLink RX10 114 "FifthsOfGuilt$CaseFile" "grudge" "[I" ∈ zWs := z_at 251 (by decide +kernel) rfl
theorem w252 : Cond.fieldLink RX1 15 "FifthsOfGuilt$CaseFile" "cost" "[I" ∈ zWs := z_at 252 (by decide +kernel) rfl
theorem w253 : Cond.fieldLink RX10 129 "FifthsOfGuilt$CaseFile" "cost" "[I" ∈ zWs := z_at 253 (by decide +kernel) rfl
theorem w254 : Cond.fieldLink RX1 18 "FifthsOfGuilt$CaseFile" "trust" "[I" ∈ zWs := z_at 254 (by decide +kernel) rfl
theorem w255 : Cond.fieldLink RX10 132 "FifthsOfGuilt$CaseFile" "trust" "[I" ∈ zWs := z_at 255 (by decide +kernel) rfl
theorem w256 : Cond.fieldLink RX1 21 "FifthsOfGuilt$CaseFile" "moves" "[I" ∈ zWs := z_at 256 (by decide +kernel) rfl
theorem w257 : Cond.fieldLink RX10 143 "FifthsOfGuilt$CaseFile" "moves" "[I" ∈ zWs := z_at 257 (by decide +kernel) rfl
theorem w258 : Cond.fieldLink RX1 24 "FifthsOfGuilt$CaseFile" "trustedMoves" "[I" ∈ zWs := z_at 258 (by decide +kernel) rfl
theorem w259 : Cond.fieldLink RX5 75 "FifthsOfGuilt$CaseFile" "trustedMoves" "[I" ∈ zWs := z_at 259 (by decide +kernel) rfl
theorem w260 : Cond.fieldLink RX1 27 "FifthsOfGuilt$CaseFile" "alibiOf" "[I" ∈ zWs := z_at 260 (by decide +kernel) rfl
theorem w261 : Cond.fieldLink RX9 25 "FifthsOfGuilt$CaseFile" "alibiOf" "[I" ∈ zWs := z_at 261 (by decide +kernel) rfl
theorem w262 : Cond.fieldLink RX5 47 "FifthsOfGuilt$CaseFile" "alibiOf" "[I" ∈ zWs := z_at 262 (by decide +kernel) rfl
theorem w263 : Cond.fieldLink RX10 149 "FifthsOfGuilt$CaseFile" "alibiOf" "[I" ∈ zWs := z_at 263 (by decide +kernel) rfl
theorem w264 : Cond.fieldLink RX1 30 "FifthsOfGuilt$CaseFile" "place" "[I" ∈ zWs := z_at 264 (by decide +kernel) rfl
theorem w265 : Cond.fieldLink RX10 152 "FifthsOfGuilt$CaseFile" "place" "[I" ∈ zWs := z_at 265 (by decide +kernel) rfl
theorem w266 : Cond.fieldLink RX1 33 "FifthsOfGuilt$CaseFile" "from" "[I" ∈ zWs := z_at 266 (by decide +kernel) rfl
theorem w267 : Cond.fieldLink RX5 50 "FifthsOfGuilt$CaseFile" "from" "[I" ∈ zWs := z_at 267 (by decide +kernel) rfl
theorem w268 : Cond.fieldLink RX10 155 "FifthsOfGuilt$CaseFile" "from" "[I" ∈ zWs := z_at 268 (by decide +kernel) rfl
theorem w269 : Cond.fieldLink RX1 36 "FifthsOfGuilt$CaseFile" "to" "[I" ∈ zWs := z_at 269 (by decide +kernel) rfl
theorem w270 : Cond.fieldLink RX5 53 "FifthsOfGuilt$CaseFile" "to" "[I" ∈ zWs := z_at 270 (by decide +kernel) rfl
theorem w271 : Cond.fieldLink RX10 158 "FifthsOfGuilt$CaseFile" "to" "[I" ∈ zWs := z_at 271 (by decide +kernel) rfl
theorem w303 : Cond.methodLink RX10 80 yX1_beginAnew ∈ zWs := z_at 303 (by decide +kernel) rfl
theorem w304 : Cond.instanceMethod yX1_beginAnew ∈ zWs := z_at 304 (by decide +kernel) rfl
theorem w305 : Cond.selects RX1 yX1_beginAnew yX1_beginAnew ∈ zWs := z_at 305 (by decide +kernel) rfl
theorem w306 : Cond.code yX1_beginAnew cX1_beginAnew 1 none ∈ zWs := z_at 306 (by decide +kernel) rfl
theorem w307 : Cond.methodLink RX10 87 yX6_beginAnew ∈ zWs := z_at 307 (by decide +kernel) rfl
theorem w308 : Cond.instanceMethod yX6_beginAnew ∈ zWs := z_at 308 (by decide +kernel) rfl
theorem w309 : Cond.selects RX6 yX6_beginAnew yX6_beginAnew ∈ zWs := z_at 309 (by decide +kernel) rfl
theorem w310 : Cond.code yX6_beginAnew cX6_beginAnew 2 none ∈ zWs := z_at 310 (by decide +kernel) rfl
theorem w311 : Cond.fieldLink RX10 10 "FifthsOfGuilt" "text" "LFifthsOfGuilt$TextReader;" ∈ zWs := z_at 311 (by decide +kernel) rfl
theorem w312 : Cond.fieldLink RX10 19 "FifthsOfGuilt" "scales" "LFifthsOfGuilt$Scales;" ∈ zWs := z_at 312 (by decide +kernel) rfl
theorem w314 : Cond.fieldLink RX10 26 "FifthsOfGuilt" "present" "LFifthsOfGuilt$Standing;" ∈ zWs := z_at 314 (by decide +kernel) rfl
theorem w316 : Cond.fieldLink RX10 30 "FifthsOfGuilt" "images" "[LFifthsOfGuilt$Standing;" ∈ zWs := z_at 316 (by decide +kernel) rfl
theorem w317 : Cond.fieldLink RX10 34 "FifthsOfGuilt" "kept" "[Z" ∈ zWs := z_at 317 (by decide +kernel) rfl
theorem w318 : Cond.fieldLink RX10 56 "FifthsOfGuilt" "kinds" "[LFifthsOfGuilt$AnySuspect;" ∈ zWs := z_at 318 (by decide +kernel) rfl
theorem w319 : Cond.fieldLink RX10 60 "FifthsOfGuilt" "clashers" "[I" ∈ zWs := z_at 319 (by decide +kernel) rfl
theorem w320 : Cond.fieldLink RX10 64 "FifthsOfGuilt" "lineSuspect" "[I" ∈ zWs := z_at 320 (by decide +kernel) rfl
theorem w321 : Cond.fieldLink RX10 67 "FifthsOfGuilt" "lineDays" "[I" ∈ zWs := z_at 321 (by decide +kernel) rfl
theorem w322 : Cond.fieldLink RX10 104 "FifthsOfGuilt" "lines" "I" ∈ zWs := z_at 322 (by decide +kernel) rfl
theorem w329 : Cond.fieldLink RX10 256 "FifthsOfGuilt" "trace" "J" ∈ zWs := z_at 329 (by decide +kernel) rfl
theorem w330 : Cond.fieldLink RX10 73 "FifthsOfGuilt" "told" "LFifthsOfGuilt$CaseFile;" ∈ zWs := z_at 330 (by decide +kernel) rfl
theorem w333 : Cond.fieldLink RX10 77 "FifthsOfGuilt" "draft" "LFifthsOfGuilt$CaseFile;" ∈ zWs := z_at 333 (by decide +kernel) rfl
theorem w361 : Cond.methodLink RL 13 yX10_type ∈ zWs := z_at 361 (by decide +kernel) rfl
theorem w362 : Cond.instanceMethod yX10_type ∈ zWs := z_at 362 (by decide +kernel) rfl
theorem w363 : Cond.selects RX10 yX10_type yX10_type ∈ zWs := z_at 363 (by decide +kernel) rfl
theorem w364 : Cond.code yX10_type cX10_type 2 (some .int) ∈ zWs := z_at 364 (by decide +kernel) rfl
theorem w365 : Cond.methodLink RX10 90 yX10_within ∈ zWs := z_at 365 (by decide +kernel) rfl
theorem w366 : Cond.static yX10_within ∈ zWs := z_at 366 (by decide +kernel) rfl
theorem w367 : Cond.code yX10_within cX10_within 3 (some .boolean) ∈ zWs := z_at 367 (by decide +kernel) rfl
theorem w368 : Cond.methodLink RL 18 yX10_clear ∈ zWs := z_at 368 (by decide +kernel) rfl
theorem w369 : Cond.instanceMethod yX10_clear ∈ zWs := z_at 369 (by decide +kernel) rfl
theorem w370 : Cond.selects RX10 yX10_clear yX10_clear ∈ zWs := z_at 370 (by decide +kernel) rfl
theorem w371 : Cond.code yX10_clear cX10_clear 2 (some .int) ∈ zWs := z_at 371 (by decide +kernel) rfl
theorem w372 : Cond.methodLink RL 23 yX10_court ∈ zWs := z_at 372 (by decide +kernel) rfl
theorem w373 : Cond.instanceMethod yX10_court ∈ zWs := z_at 373 (by decide +kernel) rfl
theorem w374 : Cond.selects RX10 yX10_court yX10_court ∈ zWs := z_at 374 (by decide +kernel) rfl
theorem w375 : Cond.code yX10_court cX10_court 4 (some .int) ∈ zWs := z_at 375 (by decide +kernel) rfl
theorem w376 : Cond.methodLink RX10 100 yX7_readInto ∈ zWs := z_at 376 (by decide +kernel) rfl
theorem w377 : Cond.instanceMethod yX7_readInto ∈ zWs := z_at 377 (by decide +kernel) rfl
theorem w378 : Cond.selects RX7 yX7_readInto yX7_readInto ∈ zWs := z_at 378 (by decide +kernel) rfl
theorem w379 : Cond.code yX7_readInto cX7_readInto 3 (some .int) ∈ zWs := z_at 379 (by decide +kernel) rfl
theorem w380 : Cond.methodLink RX7 18 yX1_beginAnew ∈ zWs := z_at 380 (by decide +kernel) rfl
theorem w381 : Cond.methodLink RX7 34 yX7_nextToken ∈ zWs := z_at 381 (by decide +kernel) rfl
theorem w383 : Cond.instanceMethod yX7_nextToken ∈ zWs := z_at 383 (by decide +kernel) rfl
theorem w384 : Cond.code yX7_nextToken cX7_nextToken 1 none ∈ zWs := z_at 384 (by decide +kernel) rfl
theorem w386 : Cond.methodLink RX7 106 yX7_takeLetters ∈ zWs := z_at 386 (by decide +kernel) rfl
theorem w388 : Cond.instanceMethod yX7_takeLetters ∈ zWs := z_at 388 (by decide +kernel) rfl
theorem w389 : Cond.code yX7_takeLetters cX7_takeLetters 2 none ∈ zWs := z_at 389 (by decide +kernel) rfl
theorem w390 : Cond.methodLink RX7 109 yX7_takeNumber ∈ zWs := z_at 390 (by decide +kernel) rfl
theorem w392 : Cond.instanceMethod yX7_takeNumber ∈ zWs := z_at 392 (by decide +kernel) rfl
theorem w393 : Cond.code yX7_takeNumber cX7_takeNumber 3 none ∈ zWs := z_at 393 (by decide +kernel) rfl
theorem w394 : Cond.methodLink RX7 112 Lib.Math.min.name ∈ zWs := z_at 394 (by decide +kernel) rfl
theorem w395 : Cond.static Lib.Math.min.name ∈ zWs := z_at 395 (by decide +kernel) rfl
theorem w396 : Cond.code Lib.Math.min.name Lib.Math.min.code 2 (some .int) ∈ zWs := z_at 396 (by decide +kernel) rfl
theorem w397 : Cond.methodLink RX7 40 yX7_readItem ∈ zWs := z_at 397 (by decide +kernel) rfl
theorem w399 : Cond.instanceMethod yX7_readItem ∈ zWs := z_at 399 (by decide +kernel) rfl
theorem w400 : Cond.code yX7_readItem cX7_readItem 5 (some .boolean) ∈ zWs := z_at 400 (by decide +kernel) rfl
theorem w401 : Cond.methodLink RX7 53 yX7_mayBegin ∈ zWs := z_at 401 (by decide +kernel) rfl
theorem w403 : Cond.instanceMethod yX7_mayBegin ∈ zWs := z_at 403 (by decide +kernel) rfl
theorem w404 : Cond.code yX7_mayBegin cX7_mayBegin 3 (some .boolean) ∈ zWs := z_at 404 (by decide +kernel) rfl
theorem w405 : Cond.methodLink RX7 57 yX7_numbersDue ∈ zWs := z_at 405 (by decide +kernel) rfl
theorem w406 : Cond.static yX7_numbersDue ∈ zWs := z_at 406 (by decide +kernel) rfl
theorem w407 : Cond.code yX7_numbersDue cX7_numbersDue 2 (some .int) ∈ zWs := z_at 407 (by decide +kernel) rfl
theorem w408 : Cond.methodLink RX7 61 yX7_least ∈ zWs := z_at 408 (by decide +kernel) rfl
theorem w410 : Cond.instanceMethod yX7_least ∈ zWs := z_at 410 (by decide +kernel) rfl
theorem w411 : Cond.code yX7_least cX7_least 3 (some .int) ∈ zWs := z_at 411 (by decide +kernel) rfl
theorem w412 : Cond.methodLink RX7 65 yX7_most ∈ zWs := z_at 412 (by decide +kernel) rfl
theorem w413 : Cond.static yX7_most ∈ zWs := z_at 413 (by decide +kernel) rfl
theorem w414 : Cond.code yX7_most cX7_most 3 (some .int) ∈ zWs := z_at 414 (by decide +kernel) rfl
theorem w415 : Cond.methodLink RX7 73 yX7_addItem ∈ zWs := z_at 415 (by decide +kernel) rfl
theorem w417 : Cond.instanceMethod yX7_addItem ∈ zWs := z_at 417 (by decide +kernel) rfl
theorem w418 : Cond.code yX7_addItem cX7_addItem 3 none ∈ zWs := z_at 418 (by decide +kernel) rfl
theorem w419 : Cond.methodLink RX7 86 yX1_addSuspect ∈ zWs := z_at 419 (by decide +kernel) rfl
theorem w420 : Cond.instanceMethod yX1_addSuspect ∈ zWs := z_at 420 (by decide +kernel) rfl
theorem w421 : Cond.selects RX1 yX1_addSuspect yX1_addSuspect ∈ zWs := z_at 421 (by decide +kernel) rfl
theorem w422 : Cond.code yX1_addSuspect cX1_addSuspect 2 none ∈ zWs := z_at 422 (by decide +kernel) rfl
theorem w423 : Cond.methodLink RX7 90 yX1_addFact ∈ zWs := z_at 423 (by decide +kernel) rfl
theorem w424 : Cond.instanceMethod yX1_addFact ∈ zWs := z_at 424 (by decide +kernel) rfl
theorem w425 : Cond.selects RX1 yX1_addFact yX1_addFact ∈ zWs := z_at 425 (by decide +kernel) rfl
theorem w426 : Cond.code yX1_addFact cX1_addFact 4 none ∈ zWs := z_at 426 (by decide +kernel) rfl
theorem w427 : Cond.methodLink RX7 94 yX1_addAlibi ∈ zWs := z_at 427 (by decide +kernel) rfl
theorem w428 : Cond.instanceMethod yX1_addAlibi ∈ zWs := z_at 428 (by decide +kernel) rfl
theorem w429 : Cond.selects RX1 yX1_addAlibi yX1_addAlibi ∈ zWs := z_at 429 (by decide +kernel) rfl
theorem w430 : Cond.code yX1_addAlibi cX1_addAlibi 2 none ∈ zWs := z_at 430 (by decide +kernel) rfl
theorem w431 : Cond.methodLink RL 27 yX10_suspect ∈ zWs := z_at 431 (by decide +kernel) rfl
theorem w432 : Cond.instanceMethod yX10_suspect ∈ zWs := z_at 432 (by decide +kernel) rfl
theorem w433 : Cond.selects RX10 yX10_suspect yX10_suspect ∈ zWs := z_at 433 (by decide +kernel) rfl
theorem w434 : Cond.code yX10_suspect cX10_suspect 3 (some .int) ∈ zWs := z_at 434 (by decide +kernel) rfl
theorem w435 : Cond.methodLink RX10 107 yX10_isSuspect ∈ zWs := z_at 435 (by decide +kernel) rfl
theorem w437 : Cond.instanceMethod yX10_isSuspect ∈ zWs := z_at 437 (by decide +kernel) rfl
theorem w438 : Cond.code yX10_isSuspect cX10_isSuspect 2 (some .boolean) ∈ zWs := z_at 438 (by decide +kernel) rfl
theorem w439 : Cond.methodLink RX10 111 yX10_weighNow ∈ zWs := z_at 439 (by decide +kernel) rfl
theorem w441 : Cond.instanceMethod yX10_weighNow ∈ zWs := z_at 441 (by decide +kernel) rfl
theorem w442 : Cond.code yX10_weighNow cX10_weighNow 1 none ∈ zWs := z_at 442 (by decide +kernel) rfl
theorem w443 : Cond.methodLink RX10 235 yX5_countHours ∈ zWs := z_at 443 (by decide +kernel) rfl
theorem w444 : Cond.instanceMethod yX5_countHours ∈ zWs := z_at 444 (by decide +kernel) rfl
theorem w445 : Cond.selects RX5 yX5_countHours yX5_countHours ∈ zWs := z_at 445 (by decide +kernel) rfl
theorem w446 : Cond.code yX5_countHours cX5_countHours 7 none ∈ zWs := z_at 446 (by decide +kernel) rfl
theorem w447 : Cond.methodLink RX5 37 yX5_hoursFromTo ∈ zWs := z_at 447 (by decide +kernel) rfl
theorem w448 : Cond.static yX5_hoursFromTo ∈ zWs := z_at 448 (by decide +kernel) rfl
theorem w449 : Cond.code yX5_hoursFromTo cX5_hoursFromTo 2 (some .int) ∈ zWs := z_at 449 (by decide +kernel) rfl
theorem w451 : Cond.static yX10_bit ∈ zWs := z_at 451 (by decide +kernel) rfl
theorem w452 : Cond.code yX10_bit cX10_bit 2 (some .int) ∈ zWs := z_at 452 (by decide +kernel) rfl
theorem w453 : Cond.methodLink RX5 56 yJ6_bitCount_0f7a4 ∈ zWs := z_at 453 (by decide +kernel) rfl
theorem w454 : Cond.static yJ6_bitCount_0f7a4 ∈ zWs := z_at 454 (by decide +kernel) rfl
theorem w455 : Cond.code yJ6_bitCount_0f7a4 cJ6_bitCount_0f7a4 1 (some .int) ∈ zWs := z_at 455 (by decide +kernel) rfl
theorem w456 : Cond.constant RJ6 265 (1431655765) ∈ zWs := z_at 456 (by decide +kernel) rfl
theorem w457 : Cond.constant RJ6 266 (858993459) ∈ zWs := z_at 457 (by decide +kernel) rfl
theorem w458 : Cond.constant RJ6 267 (252645135) ∈ zWs := z_at 458 (by decide +kernel) rfl
theorem w459 : Cond.methodLink RX10 260 yX5_weigh ∈ zWs := z_at 459 (by decide +kernel) rfl
theorem w460 : Cond.instanceMethod yX5_weigh ∈ zWs := z_at 460 (by decide +kernel) rfl
theorem w461 : Cond.selects RX5 yX5_weigh yX5_weigh ∈ zWs := z_at 461 (by decide +kernel) rfl
theorem w462 : Cond.code yX5_weigh cX5_weigh 4 none ∈ zWs := z_at 462 (by decide +kernel) rfl
theorem w463 : Cond.methodLink RX5 65 yX5_heldBy ∈ zWs := z_at 463 (by decide +kernel) rfl
theorem w464 : Cond.instanceMethod yX5_heldBy ∈ zWs := z_at 464 (by decide +kernel) rfl
theorem w465 : Cond.selects RX5 yX5_heldBy yX5_heldBy ∈ zWs := z_at 465 (by decide +kernel) rfl
theorem w466 : Cond.code yX5_heldBy cX5_heldBy 6 (some .int) ∈ zWs := z_at 466 (by decide +kernel) rfl
theorem w467 : Cond.methodLink RX5 78 Lib.Math.max.name ∈ zWs := z_at 467 (by decide +kernel) rfl
theorem w468 : Cond.static Lib.Math.max.name ∈ zWs := z_at 468 (by decide +kernel) rfl
theorem w469 : Cond.code Lib.Math.max.name Lib.Math.max.code 2 (some .int) ∈ zWs := z_at 469 (by decide +kernel) rfl
theorem w470 : Cond.methodLink RX10 263 yX5_sentence ∈ zWs := z_at 470 (by decide +kernel) rfl
theorem w471 : Cond.instanceMethod yX5_sentence ∈ zWs := z_at 471 (by decide +kernel) rfl
theorem w472 : Cond.selects RX5 yX5_sentence yX5_sentence ∈ zWs := z_at 472 (by decide +kernel) rfl
theorem w473 : Cond.code yX5_sentence cX5_sentence 4 none ∈ zWs := z_at 473 (by decide +kernel) rfl
theorem w474 : Cond.methodLink RX5 83 yX5_giveOneDayMore ∈ zWs := z_at 474 (by decide +kernel) rfl
theorem w476 : Cond.instanceMethod yX5_giveOneDayMore ∈ zWs := z_at 476 (by decide +kernel) rfl
theorem w477 : Cond.code yX5_giveOneDayMore cX5_giveOneDayMore 3 none ∈ zWs := z_at 477 (by decide +kernel) rfl
theorem w478 : Cond.methodLink RL 32 yX10_fact ∈ zWs := z_at 478 (by decide +kernel) rfl
theorem w479 : Cond.instanceMethod yX10_fact ∈ zWs := z_at 479 (by decide +kernel) rfl
theorem w480 : Cond.selects RX10 yX10_fact yX10_fact ∈ zWs := z_at 480 (by decide +kernel) rfl
theorem w481 : Cond.code yX10_fact cX10_fact 3 (some .int) ∈ zWs := z_at 481 (by decide +kernel) rfl
theorem w482 : Cond.methodLink RX10 126 yX10_isFact ∈ zWs := z_at 482 (by decide +kernel) rfl
theorem w484 : Cond.instanceMethod yX10_isFact ∈ zWs := z_at 484 (by decide +kernel) rfl
theorem w485 : Cond.code yX10_isFact cX10_isFact 2 (some .boolean) ∈ zWs := z_at 485 (by decide +kernel) rfl
theorem w486 : Cond.methodLink RX10 138 yX10_bit ∈ zWs := z_at 486 (by decide +kernel) rfl
theorem w487 : Cond.methodLink RL 36 yX10_moves ∈ zWs := z_at 487 (by decide +kernel) rfl
theorem w488 : Cond.instanceMethod yX10_moves ∈ zWs := z_at 488 (by decide +kernel) rfl
theorem w489 : Cond.selects RX10 yX10_moves yX10_moves ∈ zWs := z_at 489 (by decide +kernel) rfl
theorem w490 : Cond.code yX10_moves cX10_moves 3 (some .int) ∈ zWs := z_at 490 (by decide +kernel) rfl
theorem w491 : Cond.constant RX10 142 (-1000000) ∈ zWs := z_at 491 (by decide +kernel) rfl
theorem w492 : Cond.methodLink RL 40 yX10_alibi ∈ zWs := z_at 492 (by decide +kernel) rfl
theorem w493 : Cond.instanceMethod yX10_alibi ∈ zWs := z_at 493 (by decide +kernel) rfl
theorem w494 : Cond.selects RX10 yX10_alibi yX10_alibi ∈ zWs := z_at 494 (by decide +kernel) rfl
theorem w495 : Cond.code yX10_alibi cX10_alibi 3 (some .int) ∈ zWs := z_at 495 (by decide +kernel) rfl
theorem w496 : Cond.methodLink RX10 146 yX10_isAlibi ∈ zWs := z_at 496 (by decide +kernel) rfl
theorem w498 : Cond.instanceMethod yX10_isAlibi ∈ zWs := z_at 498 (by decide +kernel) rfl
theorem w499 : Cond.code yX10_isAlibi cX10_isAlibi 2 (some .boolean) ∈ zWs := z_at 499 (by decide +kernel) rfl
theorem w500 : Cond.methodLink RL 44 yX10_find ∈ zWs := z_at 500 (by decide +kernel) rfl
theorem w501 : Cond.instanceMethod yX10_find ∈ zWs := z_at 501 (by decide +kernel) rfl
theorem w502 : Cond.selects RX10 yX10_find yX10_find ∈ zWs := z_at 502 (by decide +kernel) rfl
theorem w503 : Cond.code yX10_find cX10_find 3 (some .int) ∈ zWs := z_at 503 (by decide +kernel) rfl
theorem w504 : Cond.methodLink RX10 164 yX6_remember ∈ zWs := z_at 504 (by decide +kernel) rfl
theorem w505 : Cond.instanceMethod yX6_remember ∈ zWs := z_at 505 (by decide +kernel) rfl
theorem w506 : Cond.selects RX6 yX6_remember yX6_remember ∈ zWs := z_at 506 (by decide +kernel) rfl
theorem w507 : Cond.code yX6_remember cX6_remember 1 none ∈ zWs := z_at 507 (by decide +kernel) rfl
theorem w508 : Cond.methodLink RX6 28 arraycopyName ∈ zWs := z_at 508 (by decide +kernel) rfl
theorem w509 : Cond.static arraycopyName ∈ zWs := z_at 509 (by decide +kernel) rfl
theorem w510 : Cond.native arraycopyName ∈ zWs := z_at 510 (by decide +kernel) rfl
theorem w511 : Cond.methodLink RX10 167 yX10_caseNow ∈ zWs := z_at 511 (by decide +kernel) rfl
theorem w513 : Cond.instanceMethod yX10_caseNow ∈ zWs := z_at 513 (by decide +kernel) rfl
theorem w514 : Cond.code yX10_caseNow cX10_caseNow 1 (some .int) ∈ zWs := z_at 514 (by decide +kernel) rfl
theorem w515 : Cond.methodLink RL 48 yX10_hear ∈ zWs := z_at 515 (by decide +kernel) rfl
theorem w516 : Cond.instanceMethod yX10_hear ∈ zWs := z_at 516 (by decide +kernel) rfl
theorem w517 : Cond.selects RX10 yX10_hear yX10_hear ∈ zWs := z_at 517 (by decide +kernel) rfl
theorem w518 : Cond.code yX10_hear cX10_hear 3 (some .int) ∈ zWs := z_at 518 (by decide +kernel) rfl
theorem w519 : Cond.methodLink RL 52 yX10_days ∈ zWs := z_at 519 (by decide +kernel) rfl
theorem w520 : Cond.instanceMethod yX10_days ∈ zWs := z_at 520 (by decide +kernel) rfl
theorem w521 : Cond.selects RX10 yX10_days yX10_days ∈ zWs := z_at 521 (by decide +kernel) rfl
theorem w522 : Cond.code yX10_days cX10_days 3 (some .int) ∈ zWs := z_at 522 (by decide +kernel) rfl
theorem w523 : Cond.methodLink RL 56 yX10_undo ∈ zWs := z_at 523 (by decide +kernel) rfl
theorem w524 : Cond.instanceMethod yX10_undo ∈ zWs := z_at 524 (by decide +kernel) rfl
theorem w525 : Cond.selects RX10 yX10_undo yX10_undo ∈ zWs := z_at 525 (by decide +kernel) rfl
theorem w526 : Cond.code yX10_undo cX10_undo 1 (some .int) ∈ zWs := z_at 526 (by decide +kernel) rfl
theorem w527 : Cond.methodLink RX10 175 yX6_stepBack ∈ zWs := z_at 527 (by decide +kernel) rfl
theorem w528 : Cond.instanceMethod yX6_stepBack ∈ zWs := z_at 528 (by decide +kernel) rfl
theorem w529 : Cond.selects RX6 yX6_stepBack yX6_stepBack ∈ zWs := z_at 529 (by decide +kernel) rfl
theorem w530 : Cond.code yX6_stepBack cX6_stepBack 1 none ∈ zWs := z_at 530 (by decide +kernel) rfl
theorem w531 : Cond.methodLink RL 60 yX10_share ∈ zWs := z_at 531 (by decide +kernel) rfl
theorem w532 : Cond.instanceMethod yX10_share ∈ zWs := z_at 532 (by decide +kernel) rfl
theorem w533 : Cond.selects RX10 yX10_share yX10_share ∈ zWs := z_at 533 (by decide +kernel) rfl
theorem w534 : Cond.code yX10_share cX10_share 4 (some .int) ∈ zWs := z_at 534 (by decide +kernel) rfl
theorem w535 : Cond.methodLink RX10 181 yX10_commonDivisor ∈ zWs := z_at 535 (by decide +kernel) rfl
theorem w536 : Cond.static yX10_commonDivisor ∈ zWs := z_at 536 (by decide +kernel) rfl
theorem w537 : Cond.code yX10_commonDivisor cX10_commonDivisor 6 (some .int) ∈ zWs := z_at 537 (by decide +kernel) rfl
theorem w538 : Cond.methodLink RX10 204 Lib.Math.max.name ∈ zWs := z_at 538 (by decide +kernel) rfl
theorem w539 : Cond.methodLink RL 64 yX10_now ∈ zWs := z_at 539 (by decide +kernel) rfl
theorem w540 : Cond.instanceMethod yX10_now ∈ zWs := z_at 540 (by decide +kernel) rfl
theorem w541 : Cond.selects RX10 yX10_now yX10_now ∈ zWs := z_at 541 (by decide +kernel) rfl
theorem w542 : Cond.code yX10_now cX10_now 2 (some .int) ∈ zWs := z_at 542 (by decide +kernel) rfl
theorem w543 : Cond.methodLink RX10 184 yX5_allServe ∈ zWs := z_at 543 (by decide +kernel) rfl
theorem w544 : Cond.instanceMethod yX5_allServe ∈ zWs := z_at 544 (by decide +kernel) rfl
theorem w545 : Cond.selects RX5 yX5_allServe yX5_allServe ∈ zWs := z_at 545 (by decide +kernel) rfl
theorem w546 : Cond.code yX5_allServe cX5_allServe 3 (some .int) ∈ zWs := z_at 546 (by decide +kernel) rfl
theorem w547 : Cond.methodLink RL 68 yX10_proof ∈ zWs := z_at 547 (by decide +kernel) rfl
theorem w548 : Cond.instanceMethod yX10_proof ∈ zWs := z_at 548 (by decide +kernel) rfl
theorem w549 : Cond.selects RX10 yX10_proof yX10_proof ∈ zWs := z_at 549 (by decide +kernel) rfl
theorem w550 : Cond.code yX10_proof cX10_proof 5 (some .int) ∈ zWs := z_at 550 (by decide +kernel) rfl
theorem w551 : Cond.methodLink RX10 187 yX10_isFraction ∈ zWs := z_at 551 (by decide +kernel) rfl
theorem w552 : Cond.static yX10_isFraction ∈ zWs := z_at 552 (by decide +kernel) rfl
theorem w553 : Cond.code yX10_isFraction cX10_isFraction 2 (some .boolean) ∈ zWs := z_at 553 (by decide +kernel) rfl
theorem w554 : Cond.methodLink RX10 191 yX10_cheapest ∈ zWs := z_at 554 (by decide +kernel) rfl
theorem w556 : Cond.instanceMethod yX10_cheapest ∈ zWs := z_at 556 (by decide +kernel) rfl
theorem w557 : Cond.code yX10_cheapest cX10_cheapest 10 (some .int) ∈ zWs := z_at 557 (by decide +kernel) rfl
theorem w558 : Cond.methodLink RX10 266 yX1_costOf ∈ zWs := z_at 558 (by decide +kernel) rfl
theorem w559 : Cond.instanceMethod yX1_costOf ∈ zWs := z_at 559 (by decide +kernel) rfl
theorem w560 : Cond.selects RX1 yX1_costOf yX1_costOf ∈ zWs := z_at 560 (by decide +kernel) rfl
theorem w561 : Cond.code yX1_costOf cX1_costOf 4 (some .int) ∈ zWs := z_at 561 (by decide +kernel) rfl
theorem w563 : Cond.methodLink RX10 269 yX10_isNoLess ∈ zWs := z_at 563 (by decide +kernel) rfl
theorem w564 : Cond.static yX10_isNoLess ∈ zWs := z_at 564 (by decide +kernel) rfl
theorem w565 : Cond.code yX10_isNoLess cX10_isNoLess 4 (some .boolean) ∈ zWs := z_at 565 (by decide +kernel) rfl
theorem w566 : Cond.methodLink RX10 209 yX10_isNoMore ∈ zWs := z_at 566 (by decide +kernel) rfl
theorem w567 : Cond.static yX10_isNoMore ∈ zWs := z_at 567 (by decide +kernel) rfl
theorem w568 : Cond.code yX10_isNoMore cX10_isNoMore 4 (some .boolean) ∈ zWs := z_at 568 (by decide +kernel) rfl
theorem w569 : Cond.methodLink RX10 195 yX10_costOrSet ∈ zWs := z_at 569 (by decide +kernel) rfl
theorem w571 : Cond.instanceMethod yX10_costOrSet ∈ zWs := z_at 571 (by decide +kernel) rfl
theorem w572 : Cond.code yX10_costOrSet cX10_costOrSet 3 (some .int) ∈ zWs := z_at 572 (by decide +kernel) rfl
theorem w573 : Cond.methodLink RL 73 yX10_cleared ∈ zWs := z_at 573 (by decide +kernel) rfl
theorem w574 : Cond.instanceMethod yX10_cleared ∈ zWs := z_at 574 (by decide +kernel) rfl
theorem w575 : Cond.selects RX10 yX10_cleared yX10_cleared ∈ zWs := z_at 575 (by decide +kernel) rfl
theorem w576 : Cond.code yX10_cleared cX10_cleared 5 (some .int) ∈ zWs := z_at 576 (by decide +kernel) rfl
theorem w577 : Cond.methodLink RL 77 yX10_forged ∈ zWs := z_at 577 (by decide +kernel) rfl
theorem w578 : Cond.instanceMethod yX10_forged ∈ zWs := z_at 578 (by decide +kernel) rfl
theorem w579 : Cond.selects RX10 yX10_forged yX10_forged ∈ zWs := z_at 579 (by decide +kernel) rfl
theorem w580 : Cond.code yX10_forged cX10_forged 8 (some .int) ∈ zWs := z_at 580 (by decide +kernel) rfl
theorem w581 : Cond.methodLink RL 82 yX10_clash ∈ zWs := z_at 581 (by decide +kernel) rfl
theorem w582 : Cond.instanceMethod yX10_clash ∈ zWs := z_at 582 (by decide +kernel) rfl
theorem w583 : Cond.selects RX10 yX10_clash yX10_clash ∈ zWs := z_at 583 (by decide +kernel) rfl
theorem w584 : Cond.code yX10_clash cX10_clash 3 (some .int) ∈ zWs := z_at 584 (by decide +kernel) rfl
theorem w585 : Cond.methodLink RX10 213 yX10_matchClashers ∈ zWs := z_at 585 (by decide +kernel) rfl
theorem w587 : Cond.instanceMethod yX10_matchClashers ∈ zWs := z_at 587 (by decide +kernel) rfl
theorem w588 : Cond.code yX10_matchClashers cX10_matchClashers 4 (some .int) ∈ zWs := z_at 588 (by decide +kernel) rfl
theorem w589 : Cond.methodLink RX10 272 yX1_doClash ∈ zWs := z_at 589 (by decide +kernel) rfl
theorem w590 : Cond.instanceMethod yX1_doClash ∈ zWs := z_at 590 (by decide +kernel) rfl
theorem w591 : Cond.selects RX1 yX1_doClash yX1_doClash ∈ zWs := z_at 591 (by decide +kernel) rfl
theorem w592 : Cond.code yX1_doClash cX1_doClash 3 (some .boolean) ∈ zWs := z_at 592 (by decide +kernel) rfl
theorem w593 : Cond.methodLink RX10 216 yX10_fewestFalse ∈ zWs := z_at 593 (by decide +kernel) rfl
theorem w595 : Cond.instanceMethod yX10_fewestFalse ∈ zWs := z_at 595 (by decide +kernel) rfl
theorem w596 : Cond.code yX10_fewestFalse cX10_fewestFalse 3 (some .int) ∈ zWs := z_at 596 (by decide +kernel) rfl
theorem w597 : Cond.methodLink RX10 275 yJ6_bitCount_0f7a4 ∈ zWs := z_at 597 (by decide +kernel) rfl
theorem w598 : Cond.methodLink RX10 280 yX10_leavesNoClash ∈ zWs := z_at 598 (by decide +kernel) rfl
theorem w600 : Cond.instanceMethod yX10_leavesNoClash ∈ zWs := z_at 600 (by decide +kernel) rfl
theorem w601 : Cond.code yX10_leavesNoClash cX10_leavesNoClash 3 (some .boolean) ∈ zWs := z_at 601 (by decide +kernel) rfl
theorem w602 : Cond.methodLink RL 86 yX10_rests ∈ zWs := z_at 602 (by decide +kernel) rfl
theorem w603 : Cond.instanceMethod yX10_rests ∈ zWs := z_at 603 (by decide +kernel) rfl
theorem w604 : Cond.selects RX10 yX10_rests yX10_rests ∈ zWs := z_at 604 (by decide +kernel) rfl
theorem w605 : Cond.code yX10_rests cX10_rests 5 (some .int) ∈ zWs := z_at 605 (by decide +kernel) rfl
theorem w606 : Cond.methodLink RX10 222 yX10_firstGainer ∈ zWs := z_at 606 (by decide +kernel) rfl
theorem w608 : Cond.instanceMethod yX10_firstGainer ∈ zWs := z_at 608 (by decide +kernel) rfl
theorem w609 : Cond.code yX10_firstGainer cX10_firstGainer 3 (some .int) ∈ zWs := z_at 609 (by decide +kernel) rfl
theorem w610 : Cond.methodLink RX10 286 yX10_bandDays ∈ zWs := z_at 610 (by decide +kernel) rfl
theorem w612 : Cond.instanceMethod yX10_bandDays ∈ zWs := z_at 612 (by decide +kernel) rfl
theorem w613 : Cond.code yX10_bandDays cX10_bandDays 5 (some .int) ∈ zWs := z_at 613 (by decide +kernel) rfl
theorem w614 : Cond.methodLink RX10 283 yX10_bandHeld ∈ zWs := z_at 614 (by decide +kernel) rfl
theorem w616 : Cond.instanceMethod yX10_bandHeld ∈ zWs := z_at 616 (by decide +kernel) rfl
theorem w617 : Cond.code yX10_bandHeld cX10_bandHeld 5 (some .int) ∈ zWs := z_at 617 (by decide +kernel) rfl
theorem w618 : Cond.methodLink RL 90 yX10_gains ∈ zWs := z_at 618 (by decide +kernel) rfl
theorem w619 : Cond.instanceMethod yX10_gains ∈ zWs := z_at 619 (by decide +kernel) rfl
theorem w620 : Cond.selects RX10 yX10_gains yX10_gains ∈ zWs := z_at 620 (by decide +kernel) rfl
theorem w621 : Cond.code yX10_gains cX10_gains 2 (some .int) ∈ zWs := z_at 621 (by decide +kernel) rfl
theorem w622 : Cond.methodLink RL 94 yX10_cellsFor ∈ zWs := z_at 622 (by decide +kernel) rfl
theorem w623 : Cond.instanceMethod yX10_cellsFor ∈ zWs := z_at 623 (by decide +kernel) rfl
theorem w624 : Cond.selects RX10 yX10_cellsFor yX10_cellsFor ∈ zWs := z_at 624 (by decide +kernel) rfl
theorem w625 : Cond.code yX10_cellsFor cX10_cellsFor 2 (some .int) ∈ zWs := z_at 625 (by decide +kernel) rfl
theorem w626 : Cond.methodLink RX10 226 yX10_cellsNeeded ∈ zWs := z_at 626 (by decide +kernel) rfl
theorem w628 : Cond.instanceMethod yX10_cellsNeeded ∈ zWs := z_at 628 (by decide +kernel) rfl
theorem w629 : Cond.code yX10_cellsNeeded cX10_cellsNeeded 3 (some .int) ∈ zWs := z_at 629 (by decide +kernel) rfl
theorem w630 : Cond.methodLink RL 98 yX10_sits ∈ zWs := z_at 630 (by decide +kernel) rfl
theorem w631 : Cond.instanceMethod yX10_sits ∈ zWs := z_at 631 (by decide +kernel) rfl
theorem w632 : Cond.selects RX10 yX10_sits yX10_sits ∈ zWs := z_at 632 (by decide +kernel) rfl
theorem w633 : Cond.code yX10_sits cX10_sits 6 (some .int) ∈ zWs := z_at 633 (by decide +kernel) rfl
theorem w634 : Cond.methodLink RL 102 yX10_wronged ∈ zWs := z_at 634 (by decide +kernel) rfl
theorem w635 : Cond.instanceMethod yX10_wronged ∈ zWs := z_at 635 (by decide +kernel) rfl
theorem w636 : Cond.selects RX10 yX10_wronged yX10_wronged ∈ zWs := z_at 636 (by decide +kernel) rfl
theorem w637 : Cond.code yX10_wronged cX10_wronged 4 (some .int) ∈ zWs := z_at 637 (by decide +kernel) rfl
theorem w638 : Cond.methodLink RX10 229 yX10_wrongTo ∈ zWs := z_at 638 (by decide +kernel) rfl
theorem w640 : Cond.instanceMethod yX10_wrongTo ∈ zWs := z_at 640 (by decide +kernel) rfl
theorem w641 : Cond.code yX10_wrongTo cX10_wrongTo 3 (some .int) ∈ zWs := z_at 641 (by decide +kernel) rfl
theorem w642 : Cond.methodLink RX10 289 Lib.Math.min.name ∈ zWs := z_at 642 (by decide +kernel) rfl
theorem w643 : Cond.methodLink RX10 232 Lib.Math.abs.name ∈ zWs := z_at 643 (by decide +kernel) rfl
theorem w644 : Cond.static Lib.Math.abs.name ∈ zWs := z_at 644 (by decide +kernel) rfl
theorem w645 : Cond.code Lib.Math.abs.name Lib.Math.abs.code 1 (some .int) ∈ zWs := z_at 645 (by decide +kernel) rfl
theorem w646 : Cond.methodLink RL 106 yX10_book ∈ zWs := z_at 646 (by decide +kernel) rfl
theorem w647 : Cond.instanceMethod yX10_book ∈ zWs := z_at 647 (by decide +kernel) rfl
theorem w648 : Cond.selects RX10 yX10_book yX10_book ∈ zWs := z_at 648 (by decide +kernel) rfl
theorem w649 : Cond.code yX10_book cX10_book 3 (some .int) ∈ zWs := z_at 649 (by decide +kernel) rfl
theorem w650 : Cond.methodLink RL 110 yX10_burn ∈ zWs := z_at 650 (by decide +kernel) rfl
theorem w651 : Cond.instanceMethod yX10_burn ∈ zWs := z_at 651 (by decide +kernel) rfl
theorem w652 : Cond.selects RX10 yX10_burn yX10_burn ∈ zWs := z_at 652 (by decide +kernel) rfl
theorem w653 : Cond.code yX10_burn cX10_burn 2 (some .int) ∈ zWs := z_at 653 (by decide +kernel) rfl
theorem w654 : Cond.methodLink RL 114 yX10_books ∈ zWs := z_at 654 (by decide +kernel) rfl
theorem w655 : Cond.instanceMethod yX10_books ∈ zWs := z_at 655 (by decide +kernel) rfl
theorem w656 : Cond.selects RX10 yX10_books yX10_books ∈ zWs := z_at 656 (by decide +kernel) rfl
theorem w657 : Cond.code yX10_books cX10_books 6 (some .int) ∈ zWs := z_at 657 (by decide +kernel) rfl
theorem w658 : Cond.methodLink RX10 240 yX10_fitsBook ∈ zWs := z_at 658 (by decide +kernel) rfl
theorem w660 : Cond.instanceMethod yX10_fitsBook ∈ zWs := z_at 660 (by decide +kernel) rfl
theorem w661 : Cond.code yX10_fitsBook cX10_fitsBook 3 (some .boolean) ∈ zWs := z_at 661 (by decide +kernel) rfl
theorem w662 : Cond.methodLink RL 118 yX10_innocent ∈ zWs := z_at 662 (by decide +kernel) rfl
theorem w663 : Cond.instanceMethod yX10_innocent ∈ zWs := z_at 663 (by decide +kernel) rfl
theorem w664 : Cond.selects RX10 yX10_innocent yX10_innocent ∈ zWs := z_at 664 (by decide +kernel) rfl
theorem w665 : Cond.code yX10_innocent cX10_innocent 4 (some .int) ∈ zWs := z_at 665 (by decide +kernel) rfl
theorem w666 : Cond.methodLink RX10 243 yX5_heldBy ∈ zWs := z_at 666 (by decide +kernel) rfl
theorem w667 : Cond.methodLink RL 122 yX10_mark ∈ zWs := z_at 667 (by decide +kernel) rfl
theorem w668 : Cond.instanceMethod yX10_mark ∈ zWs := z_at 668 (by decide +kernel) rfl
theorem w669 : Cond.selects RX10 yX10_mark yX10_mark ∈ zWs := z_at 669 (by decide +kernel) rfl
theorem w670 : Cond.code yX10_mark cX10_mark 3 (some .int) ∈ zWs := z_at 670 (by decide +kernel) rfl
theorem w671 : Cond.methodLink RX10 247 yX0_markOf ∈ zWs := z_at 671 (by decide +kernel) rfl
theorem w672 : Cond.instanceMethod yX0_markOf ∈ zWs := z_at 672 (by decide +kernel) rfl
theorem w673 : Cond.selects RX0 yX0_markOf yX0_markOf ∈ zWs := z_at 673 (by decide +kernel) rfl
theorem w674 : Cond.sameMethod RX0 RX0 "markOf" "(LFifthsOfGuilt;I)I" ∈ zWs := z_at 674 (by decide +kernel) rfl
theorem w675 : Cond.selects RX2 yX0_markOf yX2_markOf ∈ zWs := z_at 675 (by decide +kernel) rfl
theorem w676 : Cond.instanceMethod yX2_markOf ∈ zWs := z_at 676 (by decide +kernel) rfl
theorem w677 : Cond.code yX2_markOf cX2_markOf 3 (some .int) ∈ zWs := z_at 677 (by decide +kernel) rfl
theorem w678 : Cond.constantLong RX2 13 (1000) ∈ zWs := z_at 678 (by decide +kernel) rfl
theorem w679 : Cond.methodLink RX2 15 yX8_markOf ∈ zWs := z_at 679 (by decide +kernel) rfl
theorem w680 : Cond.instanceMethod yX8_markOf ∈ zWs := z_at 680 (by decide +kernel) rfl
theorem w681 : Cond.code yX8_markOf cX8_markOf 3 (some .int) ∈ zWs := z_at 681 (by decide +kernel) rfl
theorem w682 : Cond.constantLong RX8 13 (10) ∈ zWs := z_at 682 (by decide +kernel) rfl
theorem w683 : Cond.methodLink RX8 15 yX0_markOf ∈ zWs := z_at 683 (by decide +kernel) rfl
theorem w684 : Cond.selects RX3 yX0_markOf yX3_markOf ∈ zWs := z_at 684 (by decide +kernel) rfl
theorem w685 : Cond.instanceMethod yX3_markOf ∈ zWs := z_at 685 (by decide +kernel) rfl
theorem w686 : Cond.code yX3_markOf cX3_markOf 3 (some .int) ∈ zWs := z_at 686 (by decide +kernel) rfl
theorem w687 : Cond.constantLong RX3 13 (10000) ∈ zWs := z_at 687 (by decide +kernel) rfl
theorem w688 : Cond.methodLink RX3 15 yX9_markOf ∈ zWs := z_at 688 (by decide +kernel) rfl
theorem w689 : Cond.instanceMethod yX9_markOf ∈ zWs := z_at 689 (by decide +kernel) rfl
theorem w690 : Cond.code yX9_markOf cX9_markOf 5 (some .int) ∈ zWs := z_at 690 (by decide +kernel) rfl
theorem w691 : Cond.constantLong RX9 13 (100) ∈ zWs := z_at 691 (by decide +kernel) rfl
theorem w692 : Cond.methodLink RX9 29 yX0_markOf ∈ zWs := z_at 692 (by decide +kernel) rfl
theorem w693 : Cond.selects RX4 yX0_markOf yX4_markOf ∈ zWs := z_at 693 (by decide +kernel) rfl
theorem w694 : Cond.instanceMethod yX4_markOf ∈ zWs := z_at 694 (by decide +kernel) rfl
theorem w695 : Cond.code yX4_markOf cX4_markOf 3 (some .int) ∈ zWs := z_at 695 (by decide +kernel) rfl
theorem w696 : Cond.constantLong RX4 13 (100000) ∈ zWs := z_at 696 (by decide +kernel) rfl
theorem w697 : Cond.methodLink RX4 15 yX0_markOf ∈ zWs := z_at 697 (by decide +kernel) rfl
theorem w698 : Cond.methodLink RX4 29 yJ6_bitCount_0f7a4 ∈ zWs := z_at 698 (by decide +kernel) rfl
theorem w699 : Cond.selects RX8 yX0_markOf yX8_markOf ∈ zWs := z_at 699 (by decide +kernel) rfl
theorem w700 : Cond.selects RX9 yX0_markOf yX9_markOf ∈ zWs := z_at 700 (by decide +kernel) rfl
theorem w701 : Cond.code yX0_markOf cX0_markOf 3 (some .int) ∈ zWs := z_at 701 (by decide +kernel) rfl
theorem w702 : Cond.methodLink RL 126 yX10_keep ∈ zWs := z_at 702 (by decide +kernel) rfl
theorem w703 : Cond.instanceMethod yX10_keep ∈ zWs := z_at 703 (by decide +kernel) rfl
theorem w704 : Cond.selects RX10 yX10_keep yX10_keep ∈ zWs := z_at 704 (by decide +kernel) rfl
theorem w705 : Cond.code yX10_keep cX10_keep 2 (some .int) ∈ zWs := z_at 705 (by decide +kernel) rfl
theorem w706 : Cond.methodLink RX10 251 yX6_become ∈ zWs := z_at 706 (by decide +kernel) rfl
theorem w707 : Cond.instanceMethod yX6_become ∈ zWs := z_at 707 (by decide +kernel) rfl
theorem w708 : Cond.selects RX6 yX6_become yX6_become ∈ zWs := z_at 708 (by decide +kernel) rfl
theorem w709 : Cond.code yX6_become cX6_become 2 none ∈ zWs := z_at 709 (by decide +kernel) rfl
theorem w710 : Cond.methodLink RL 130 yX10_back ∈ zWs := z_at 710 (by decide +kernel) rfl
theorem w711 : Cond.instanceMethod yX10_back ∈ zWs := z_at 711 (by decide +kernel) rfl
theorem w712 : Cond.selects RX10 yX10_back yX10_back ∈ zWs := z_at 712 (by decide +kernel) rfl
theorem w713 : Cond.code yX10_back cX10_back 2 (some .int) ∈ zWs := z_at 713 (by decide +kernel) rfl
theorem w714 : Cond.methodLink RL 134 yX10_count ∈ zWs := z_at 714 (by decide +kernel) rfl
theorem w715 : Cond.instanceMethod yX10_count ∈ zWs := z_at 715 (by decide +kernel) rfl
theorem w716 : Cond.selects RX10 yX10_count yX10_count ∈ zWs := z_at 716 (by decide +kernel) rfl
theorem w717 : Cond.code yX10_count cX10_count 2 (some .int) ∈ zWs := z_at 717 (by decide +kernel) rfl
theorem w718 : Cond.methodLink RL 138 yX10_trace ∈ zWs := z_at 718 (by decide +kernel) rfl
theorem w719 : Cond.instanceMethod yX10_trace ∈ zWs := z_at 719 (by decide +kernel) rfl
theorem w720 : Cond.selects RX10 yX10_trace yX10_trace ∈ zWs := z_at 720 (by decide +kernel) rfl
theorem w721 : Cond.code yX10_trace cX10_trace 1 (some .long) ∈ zWs := z_at 721 (by decide +kernel) rfl
theorem w722 : Cond.classLink RL 10 RX11 ∈ zWs := z_at 722 (by decide +kernel) rfl
theorem w723 : Cond.instantiable RX11 32 ∈ zWs := z_at 723 (by decide +kernel) rfl
theorem w724 : Cond.methodLink RL 12 yX11_init ∈ zWs := z_at 724 (by decide +kernel) rfl
theorem w725 : Cond.instanceMethod yX11_init ∈ zWs := z_at 725 (by decide +kernel) rfl
theorem w726 : Cond.code yX11_init cX11_init 1 none ∈ zWs := z_at 726 (by decide +kernel) rfl
theorem w727 : Cond.methodLink RX11 1 objectInit ∈ zWs := z_at 727 (by decide +kernel) rfl
theorem w728 : Cond.fieldLink RX11 214 "FifthsOfGuiltModel" "trace" "J" ∈ zWs := z_at 728 (by decide +kernel) rfl
theorem w729 : Cond.fieldLink RX11 7 "FifthsOfGuiltModel" "text" "[B" ∈ zWs := z_at 729 (by decide +kernel) rfl
theorem w730 : Cond.fieldLink RX11 76 "FifthsOfGuiltModel" "typed" "I" ∈ zWs := z_at 730 (by decide +kernel) rfl
theorem w731 : Cond.fieldLink RX11 13 "FifthsOfGuiltModel" "suspects" "[I" ∈ zWs := z_at 731 (by decide +kernel) rfl
theorem w732 : Cond.fieldLink RX11 17 "FifthsOfGuiltModel" "grudge" "[I" ∈ zWs := z_at 732 (by decide +kernel) rfl
theorem w733 : Cond.fieldLink RX11 20 "FifthsOfGuiltModel" "facts" "[I" ∈ zWs := z_at 733 (by decide +kernel) rfl
theorem w734 : Cond.fieldLink RX11 23 "FifthsOfGuiltModel" "cost" "[I" ∈ zWs := z_at 734 (by decide +kernel) rfl
theorem w735 : Cond.fieldLink RX11 26 "FifthsOfGuiltModel" "trust" "[I" ∈ zWs := z_at 735 (by decide +kernel) rfl
theorem w736 : Cond.fieldLink RX11 29 "FifthsOfGuiltModel" "moves" "[I" ∈ zWs := z_at 736 (by decide +kernel) rfl
theorem w737 : Cond.fieldLink RX11 32 "FifthsOfGuiltModel" "alibis" "[I" ∈ zWs := z_at 737 (by decide +kernel) rfl
theorem w738 : Cond.fieldLink RX11 35 "FifthsOfGuiltModel" "whose" "[I" ∈ zWs := z_at 738 (by decide +kernel) rfl
theorem w739 : Cond.fieldLink RX11 38 "FifthsOfGuiltModel" "where" "[I" ∈ zWs := z_at 739 (by decide +kernel) rfl
theorem w740 : Cond.fieldLink RX11 41 "FifthsOfGuiltModel" "from" "[I" ∈ zWs := z_at 740 (by decide +kernel) rfl
theorem w741 : Cond.fieldLink RX11 44 "FifthsOfGuiltModel" "to" "[I" ∈ zWs := z_at 741 (by decide +kernel) rfl
theorem w742 : Cond.fieldLink RX11 47 "FifthsOfGuiltModel" "deedFrom" "[I" ∈ zWs := z_at 742 (by decide +kernel) rfl
theorem w743 : Cond.fieldLink RX11 50 "FifthsOfGuiltModel" "deedTo" "[I" ∈ zWs := z_at 743 (by decide +kernel) rfl
theorem w744 : Cond.fieldLink RX11 80 "FifthsOfGuiltModel" "at" "I" ∈ zWs := z_at 744 (by decide +kernel) rfl
theorem w745 : Cond.fieldLink RX11 87 "FifthsOfGuiltModel" "start" "I" ∈ zWs := z_at 745 (by decide +kernel) rfl
theorem w746 : Cond.fieldLink RX11 93 "FifthsOfGuiltModel" "sort" "I" ∈ zWs := z_at 746 (by decide +kernel) rfl
theorem w747 : Cond.fieldLink RX11 90 "FifthsOfGuiltModel" "value" "I" ∈ zWs := z_at 747 (by decide +kernel) rfl
theorem w748 : Cond.fieldLink RX11 96 "FifthsOfGuiltModel" "fault" "I" ∈ zWs := z_at 748 (by decide +kernel) rfl
theorem w749 : Cond.fieldLink RX11 106 "FifthsOfGuiltModel" "hasDeed" "Z" ∈ zWs := z_at 749 (by decide +kernel) rfl
theorem w750 : Cond.fieldLink RX11 110 "FifthsOfGuiltModel" "hasDays" "Z" ∈ zWs := z_at 750 (by decide +kernel) rfl
theorem w751 : Cond.fieldLink RX11 120 "FifthsOfGuiltModel" "firstDays" "I" ∈ zWs := z_at 751 (by decide +kernel) rfl
theorem w752 : Cond.fieldLink RX11 53 "FifthsOfGuiltModel" "now" "[I" ∈ zWs := z_at 752 (by decide +kernel) rfl
theorem w753 : Cond.fieldLink RX11 56 "FifthsOfGuiltModel" "isKept" "[Z" ∈ zWs := z_at 753 (by decide +kernel) rfl
theorem w754 : Cond.fieldLink RX11 60 "FifthsOfGuiltModel" "held" "[I" ∈ zWs := z_at 754 (by decide +kernel) rfl
theorem w755 : Cond.fieldLink RX11 141 "FifthsOfGuiltModel" "whole" "I" ∈ zWs := z_at 755 (by decide +kernel) rfl
theorem w756 : Cond.fieldLink RX11 63 "FifthsOfGuiltModel" "serves" "[I" ∈ zWs := z_at 756 (by decide +kernel) rfl
theorem w757 : Cond.fieldLink RX11 66 "FifthsOfGuiltModel" "lineOf" "[I" ∈ zWs := z_at 757 (by decide +kernel) rfl
theorem w758 : Cond.fieldLink RX11 69 "FifthsOfGuiltModel" "lineDays" "[I" ∈ zWs := z_at 758 (by decide +kernel) rfl
theorem w759 : Cond.fieldLink RX11 134 "FifthsOfGuiltModel" "lines" "I" ∈ zWs := z_at 759 (by decide +kernel) rfl
theorem w825 : Cond.arrayClass .byte ∈ zWs := z_at 825 (by decide +kernel) rfl
theorem w826 : Cond.methodLink RL 17 yX11_type ∈ zWs := z_at 826 (by decide +kernel) rfl
theorem w827 : Cond.instanceMethod yX11_type ∈ zWs := z_at 827 (by decide +kernel) rfl
theorem w828 : Cond.selects RX11 yX11_type yX11_type ∈ zWs := z_at 828 (by decide +kernel) rfl
theorem w829 : Cond.code yX11_type cX11_type 2 (some .int) ∈ zWs := z_at 829 (by decide +kernel) rfl
theorem w830 : Cond.methodLink RX11 72 yX11_in ∈ zWs := z_at 830 (by decide +kernel) rfl
theorem w831 : Cond.static yX11_in ∈ zWs := z_at 831 (by decide +kernel) rfl
theorem w832 : Cond.code yX11_in cX11_in 3 (some .boolean) ∈ zWs := z_at 832 (by decide +kernel) rfl
theorem w833 : Cond.methodLink RL 22 yX11_clear ∈ zWs := z_at 833 (by decide +kernel) rfl
theorem w834 : Cond.instanceMethod yX11_clear ∈ zWs := z_at 834 (by decide +kernel) rfl
theorem w835 : Cond.selects RX11 yX11_clear yX11_clear ∈ zWs := z_at 835 (by decide +kernel) rfl
theorem w836 : Cond.code yX11_clear cX11_clear 2 (some .int) ∈ zWs := z_at 836 (by decide +kernel) rfl
theorem w837 : Cond.methodLink RL 26 yX11_court ∈ zWs := z_at 837 (by decide +kernel) rfl
theorem w838 : Cond.instanceMethod yX11_court ∈ zWs := z_at 838 (by decide +kernel) rfl
theorem w839 : Cond.selects RX11 yX11_court yX11_court ∈ zWs := z_at 839 (by decide +kernel) rfl
theorem w840 : Cond.code yX11_court cX11_court 3 (some .int) ∈ zWs := z_at 840 (by decide +kernel) rfl
theorem w841 : Cond.methodLink RX11 99 yX11_next ∈ zWs := z_at 841 (by decide +kernel) rfl
theorem w843 : Cond.instanceMethod yX11_next ∈ zWs := z_at 843 (by decide +kernel) rfl
theorem w844 : Cond.code yX11_next cX11_next 2 none ∈ zWs := z_at 844 (by decide +kernel) rfl
theorem w845 : Cond.methodLink RX11 83 yX11_here ∈ zWs := z_at 845 (by decide +kernel) rfl
theorem w847 : Cond.instanceMethod yX11_here ∈ zWs := z_at 847 (by decide +kernel) rfl
theorem w848 : Cond.code yX11_here cX11_here 1 (some .int) ∈ zWs := z_at 848 (by decide +kernel) rfl
theorem w849 : Cond.methodLink RX11 123 yX11_mayBe ∈ zWs := z_at 849 (by decide +kernel) rfl
theorem w851 : Cond.instanceMethod yX11_mayBe ∈ zWs := z_at 851 (by decide +kernel) rfl
theorem w852 : Cond.code yX11_mayBe cX11_mayBe 2 (some .boolean) ∈ zWs := z_at 852 (by decide +kernel) rfl
theorem w853 : Cond.methodLink RX11 102 yX11_due ∈ zWs := z_at 853 (by decide +kernel) rfl
theorem w855 : Cond.instanceMethod yX11_due ∈ zWs := z_at 855 (by decide +kernel) rfl
theorem w856 : Cond.code yX11_due cX11_due 3 (some .int) ∈ zWs := z_at 856 (by decide +kernel) rfl
theorem w857 : Cond.methodLink RX11 127 yX11_readRow ∈ zWs := z_at 857 (by decide +kernel) rfl
theorem w859 : Cond.instanceMethod yX11_readRow ∈ zWs := z_at 859 (by decide +kernel) rfl
theorem w860 : Cond.code yX11_readRow cX11_readRow 3 none ∈ zWs := z_at 860 (by decide +kernel) rfl
theorem w861 : Cond.methodLink RX11 113 yX11_number ∈ zWs := z_at 861 (by decide +kernel) rfl
theorem w863 : Cond.instanceMethod yX11_number ∈ zWs := z_at 863 (by decide +kernel) rfl
theorem w864 : Cond.code yX11_number cX11_number 3 (some .int) ∈ zWs := z_at 864 (by decide +kernel) rfl
theorem w865 : Cond.methodLink RX11 117 yX11_readFact ∈ zWs := z_at 865 (by decide +kernel) rfl
theorem w867 : Cond.instanceMethod yX11_readFact ∈ zWs := z_at 867 (by decide +kernel) rfl
theorem w868 : Cond.code yX11_readFact cX11_readFact 3 none ∈ zWs := z_at 868 (by decide +kernel) rfl
theorem w869 : Cond.methodLink RX11 131 yX11_take ∈ zWs := z_at 869 (by decide +kernel) rfl
theorem w871 : Cond.instanceMethod yX11_take ∈ zWs := z_at 871 (by decide +kernel) rfl
theorem w872 : Cond.code yX11_take cX11_take 3 none ∈ zWs := z_at 872 (by decide +kernel) rfl
theorem w873 : Cond.methodLink RL 31 yX11_suspect ∈ zWs := z_at 873 (by decide +kernel) rfl
theorem w874 : Cond.instanceMethod yX11_suspect ∈ zWs := z_at 874 (by decide +kernel) rfl
theorem w875 : Cond.selects RX11 yX11_suspect yX11_suspect ∈ zWs := z_at 875 (by decide +kernel) rfl
theorem w876 : Cond.code yX11_suspect cX11_suspect 3 (some .int) ∈ zWs := z_at 876 (by decide +kernel) rfl
theorem w877 : Cond.methodLink RX11 153 yX11_isSuspect ∈ zWs := z_at 877 (by decide +kernel) rfl
theorem w879 : Cond.instanceMethod yX11_isSuspect ∈ zWs := z_at 879 (by decide +kernel) rfl
theorem w880 : Cond.code yX11_isSuspect cX11_isSuspect 2 (some .boolean) ∈ zWs := z_at 880 (by decide +kernel) rfl
theorem w881 : Cond.methodLink RX11 156 yX11_asNow ∈ zWs := z_at 881 (by decide +kernel) rfl
theorem w883 : Cond.instanceMethod yX11_asNow ∈ zWs := z_at 883 (by decide +kernel) rfl
theorem w884 : Cond.code yX11_asNow cX11_asNow 1 none ∈ zWs := z_at 884 (by decide +kernel) rfl
theorem w885 : Cond.methodLink RX11 147 yX11_hold ∈ zWs := z_at 885 (by decide +kernel) rfl
theorem w887 : Cond.instanceMethod yX11_hold ∈ zWs := z_at 887 (by decide +kernel) rfl
theorem w888 : Cond.code yX11_hold cX11_hold 3 none ∈ zWs := z_at 888 (by decide +kernel) rfl
theorem w889 : Cond.methodLink RX11 144 yX11_heldBy ∈ zWs := z_at 889 (by decide +kernel) rfl
theorem w891 : Cond.instanceMethod yX11_heldBy ∈ zWs := z_at 891 (by decide +kernel) rfl
theorem w892 : Cond.code yX11_heldBy cX11_heldBy 5 (some .int) ∈ zWs := z_at 892 (by decide +kernel) rfl
theorem w893 : Cond.methodLink RX11 137 yX11_hoursOf ∈ zWs := z_at 893 (by decide +kernel) rfl
theorem w895 : Cond.instanceMethod yX11_hoursOf ∈ zWs := z_at 895 (by decide +kernel) rfl
theorem w896 : Cond.code yX11_hoursOf cX11_hoursOf 6 (some .int) ∈ zWs := z_at 896 (by decide +kernel) rfl
theorem w897 : Cond.methodLink RX11 150 yX11_serve ∈ zWs := z_at 897 (by decide +kernel) rfl
theorem w899 : Cond.instanceMethod yX11_serve ∈ zWs := z_at 899 (by decide +kernel) rfl
theorem w900 : Cond.code yX11_serve cX11_serve 6 none ∈ zWs := z_at 900 (by decide +kernel) rfl
theorem w901 : Cond.methodLink RL 35 yX11_fact ∈ zWs := z_at 901 (by decide +kernel) rfl
theorem w902 : Cond.instanceMethod yX11_fact ∈ zWs := z_at 902 (by decide +kernel) rfl
theorem w903 : Cond.selects RX11 yX11_fact yX11_fact ∈ zWs := z_at 903 (by decide +kernel) rfl
theorem w904 : Cond.code yX11_fact cX11_fact 3 (some .int) ∈ zWs := z_at 904 (by decide +kernel) rfl
theorem w905 : Cond.methodLink RX11 159 yX11_isFact ∈ zWs := z_at 905 (by decide +kernel) rfl
theorem w907 : Cond.instanceMethod yX11_isFact ∈ zWs := z_at 907 (by decide +kernel) rfl
theorem w908 : Cond.code yX11_isFact cX11_isFact 2 (some .boolean) ∈ zWs := z_at 908 (by decide +kernel) rfl
theorem w909 : Cond.methodLink RL 39 yX11_moves ∈ zWs := z_at 909 (by decide +kernel) rfl
theorem w910 : Cond.instanceMethod yX11_moves ∈ zWs := z_at 910 (by decide +kernel) rfl
theorem w911 : Cond.selects RX11 yX11_moves yX11_moves ∈ zWs := z_at 911 (by decide +kernel) rfl
theorem w912 : Cond.code yX11_moves cX11_moves 3 (some .int) ∈ zWs := z_at 912 (by decide +kernel) rfl
theorem w913 : Cond.constant RX11 162 (-1000000) ∈ zWs := z_at 913 (by decide +kernel) rfl
theorem w914 : Cond.methodLink RL 43 yX11_alibi ∈ zWs := z_at 914 (by decide +kernel) rfl
theorem w915 : Cond.instanceMethod yX11_alibi ∈ zWs := z_at 915 (by decide +kernel) rfl
theorem w916 : Cond.selects RX11 yX11_alibi yX11_alibi ∈ zWs := z_at 916 (by decide +kernel) rfl
theorem w917 : Cond.code yX11_alibi cX11_alibi 3 (some .int) ∈ zWs := z_at 917 (by decide +kernel) rfl
theorem w918 : Cond.methodLink RX11 163 yX11_isAlibi ∈ zWs := z_at 918 (by decide +kernel) rfl
theorem w920 : Cond.instanceMethod yX11_isAlibi ∈ zWs := z_at 920 (by decide +kernel) rfl
theorem w921 : Cond.code yX11_isAlibi cX11_isAlibi 2 (some .boolean) ∈ zWs := z_at 921 (by decide +kernel) rfl
theorem w922 : Cond.methodLink RL 47 yX11_find ∈ zWs := z_at 922 (by decide +kernel) rfl
theorem w923 : Cond.instanceMethod yX11_find ∈ zWs := z_at 923 (by decide +kernel) rfl
theorem w924 : Cond.selects RX11 yX11_find yX11_find ∈ zWs := z_at 924 (by decide +kernel) rfl
theorem w925 : Cond.code yX11_find cX11_find 3 (some .int) ∈ zWs := z_at 925 (by decide +kernel) rfl
theorem w926 : Cond.methodLink RX11 166 yX11_know ∈ zWs := z_at 926 (by decide +kernel) rfl
theorem w928 : Cond.instanceMethod yX11_know ∈ zWs := z_at 928 (by decide +kernel) rfl
theorem w929 : Cond.code yX11_know cX11_know 2 none ∈ zWs := z_at 929 (by decide +kernel) rfl
theorem w930 : Cond.methodLink RX11 169 yX11_theCase ∈ zWs := z_at 930 (by decide +kernel) rfl
theorem w932 : Cond.instanceMethod yX11_theCase ∈ zWs := z_at 932 (by decide +kernel) rfl
theorem w933 : Cond.code yX11_theCase cX11_theCase 1 (some .int) ∈ zWs := z_at 933 (by decide +kernel) rfl
theorem w934 : Cond.methodLink RL 51 yX11_hear ∈ zWs := z_at 934 (by decide +kernel) rfl
theorem w935 : Cond.instanceMethod yX11_hear ∈ zWs := z_at 935 (by decide +kernel) rfl
theorem w936 : Cond.selects RX11 yX11_hear yX11_hear ∈ zWs := z_at 936 (by decide +kernel) rfl
theorem w937 : Cond.code yX11_hear cX11_hear 3 (some .int) ∈ zWs := z_at 937 (by decide +kernel) rfl
theorem w938 : Cond.methodLink RL 55 yX11_days ∈ zWs := z_at 938 (by decide +kernel) rfl
theorem w939 : Cond.instanceMethod yX11_days ∈ zWs := z_at 939 (by decide +kernel) rfl
theorem w940 : Cond.selects RX11 yX11_days yX11_days ∈ zWs := z_at 940 (by decide +kernel) rfl
theorem w941 : Cond.code yX11_days cX11_days 3 (some .int) ∈ zWs := z_at 941 (by decide +kernel) rfl
theorem w942 : Cond.methodLink RL 59 yX11_undo ∈ zWs := z_at 942 (by decide +kernel) rfl
theorem w943 : Cond.instanceMethod yX11_undo ∈ zWs := z_at 943 (by decide +kernel) rfl
theorem w944 : Cond.selects RX11 yX11_undo yX11_undo ∈ zWs := z_at 944 (by decide +kernel) rfl
theorem w945 : Cond.code yX11_undo cX11_undo 2 (some .int) ∈ zWs := z_at 945 (by decide +kernel) rfl
theorem w946 : Cond.methodLink RL 63 yX11_share ∈ zWs := z_at 946 (by decide +kernel) rfl
theorem w947 : Cond.instanceMethod yX11_share ∈ zWs := z_at 947 (by decide +kernel) rfl
theorem w948 : Cond.selects RX11 yX11_share yX11_share ∈ zWs := z_at 948 (by decide +kernel) rfl
theorem w949 : Cond.code yX11_share cX11_share 6 (some .int) ∈ zWs := z_at 949 (by decide +kernel) rfl
theorem w950 : Cond.methodLink RL 67 yX11_now ∈ zWs := z_at 950 (by decide +kernel) rfl
theorem w951 : Cond.instanceMethod yX11_now ∈ zWs := z_at 951 (by decide +kernel) rfl
theorem w952 : Cond.selects RX11 yX11_now yX11_now ∈ zWs := z_at 952 (by decide +kernel) rfl
theorem w953 : Cond.code yX11_now cX11_now 2 (some .int) ∈ zWs := z_at 953 (by decide +kernel) rfl
theorem w954 : Cond.methodLink RX11 172 yX11_allServe ∈ zWs := z_at 954 (by decide +kernel) rfl
theorem w956 : Cond.instanceMethod yX11_allServe ∈ zWs := z_at 956 (by decide +kernel) rfl
theorem w957 : Cond.code yX11_allServe cX11_allServe 3 (some .int) ∈ zWs := z_at 957 (by decide +kernel) rfl
theorem w958 : Cond.methodLink RL 72 yX11_proof ∈ zWs := z_at 958 (by decide +kernel) rfl
theorem w959 : Cond.instanceMethod yX11_proof ∈ zWs := z_at 959 (by decide +kernel) rfl
theorem w960 : Cond.selects RX11 yX11_proof yX11_proof ∈ zWs := z_at 960 (by decide +kernel) rfl
theorem w961 : Cond.code yX11_proof cX11_proof 6 (some .int) ∈ zWs := z_at 961 (by decide +kernel) rfl
theorem w962 : Cond.methodLink RX11 182 yX11_isShare ∈ zWs := z_at 962 (by decide +kernel) rfl
theorem w964 : Cond.instanceMethod yX11_isShare ∈ zWs := z_at 964 (by decide +kernel) rfl
theorem w965 : Cond.code yX11_isShare cX11_isShare 4 (some .boolean) ∈ zWs := z_at 965 (by decide +kernel) rfl
theorem w966 : Cond.methodLink RX11 185 yX11_cheapest ∈ zWs := z_at 966 (by decide +kernel) rfl
theorem w968 : Cond.instanceMethod yX11_cheapest ∈ zWs := z_at 968 (by decide +kernel) rfl
theorem w969 : Cond.code yX11_cheapest cX11_cheapest 7 (some .int) ∈ zWs := z_at 969 (by decide +kernel) rfl
theorem w970 : Cond.methodLink RX11 175 yX11_costOf ∈ zWs := z_at 970 (by decide +kernel) rfl
theorem w972 : Cond.instanceMethod yX11_costOf ∈ zWs := z_at 972 (by decide +kernel) rfl
theorem w973 : Cond.code yX11_costOf cX11_costOf 4 (some .int) ∈ zWs := z_at 973 (by decide +kernel) rfl
theorem w974 : Cond.methodLink RX11 178 yX11_isSo ∈ zWs := z_at 974 (by decide +kernel) rfl
theorem w976 : Cond.instanceMethod yX11_isSo ∈ zWs := z_at 976 (by decide +kernel) rfl
theorem w977 : Cond.code yX11_isSo cX11_isSo 5 (some .boolean) ∈ zWs := z_at 977 (by decide +kernel) rfl
theorem w978 : Cond.methodLink RL 76 yX11_cleared ∈ zWs := z_at 978 (by decide +kernel) rfl
theorem w979 : Cond.instanceMethod yX11_cleared ∈ zWs := z_at 979 (by decide +kernel) rfl
theorem w980 : Cond.selects RX11 yX11_cleared yX11_cleared ∈ zWs := z_at 980 (by decide +kernel) rfl
theorem w981 : Cond.code yX11_cleared cX11_cleared 6 (some .int) ∈ zWs := z_at 981 (by decide +kernel) rfl
theorem w982 : Cond.methodLink RL 81 yX11_forged ∈ zWs := z_at 982 (by decide +kernel) rfl
theorem w983 : Cond.instanceMethod yX11_forged ∈ zWs := z_at 983 (by decide +kernel) rfl
theorem w984 : Cond.selects RX11 yX11_forged yX11_forged ∈ zWs := z_at 984 (by decide +kernel) rfl
theorem w985 : Cond.code yX11_forged cX11_forged 8 (some .int) ∈ zWs := z_at 985 (by decide +kernel) rfl
theorem w986 : Cond.methodLink RL 85 yX11_clash ∈ zWs := z_at 986 (by decide +kernel) rfl
theorem w987 : Cond.instanceMethod yX11_clash ∈ zWs := z_at 987 (by decide +kernel) rfl
theorem w988 : Cond.selects RX11 yX11_clash yX11_clash ∈ zWs := z_at 988 (by decide +kernel) rfl
theorem w989 : Cond.code yX11_clash cX11_clash 5 (some .int) ∈ zWs := z_at 989 (by decide +kernel) rfl
theorem w990 : Cond.methodLink RX11 189 yX11_clashes ∈ zWs := z_at 990 (by decide +kernel) rfl
theorem w992 : Cond.instanceMethod yX11_clashes ∈ zWs := z_at 992 (by decide +kernel) rfl
theorem w993 : Cond.code yX11_clashes cX11_clashes 3 (some .boolean) ∈ zWs := z_at 993 (by decide +kernel) rfl
theorem w994 : Cond.methodLink RX11 193 yX11_manyOf ∈ zWs := z_at 994 (by decide +kernel) rfl
theorem w995 : Cond.static yX11_manyOf ∈ zWs := z_at 995 (by decide +kernel) rfl
theorem w996 : Cond.code yX11_manyOf cX11_manyOf 3 (some .int) ∈ zWs := z_at 996 (by decide +kernel) rfl
theorem w997 : Cond.methodLink RX11 196 yX11_hasClash ∈ zWs := z_at 997 (by decide +kernel) rfl
theorem w999 : Cond.instanceMethod yX11_hasClash ∈ zWs := z_at 999 (by decide +kernel) rfl
theorem w1000 : Cond.code yX11_hasClash cX11_hasClash 5 (some .boolean) ∈ zWs := z_at 1000 (by decide +kernel) rfl
theorem w1001 : Cond.methodLink RL 89 yX11_rests ∈ zWs := z_at 1001 (by decide +kernel) rfl
theorem w1002 : Cond.instanceMethod yX11_rests ∈ zWs := z_at 1002 (by decide +kernel) rfl
theorem w1003 : Cond.selects RX11 yX11_rests yX11_rests ∈ zWs := z_at 1003 (by decide +kernel) rfl
theorem w1004 : Cond.code yX11_rests cX11_rests 6 (some .int) ∈ zWs := z_at 1004 (by decide +kernel) rfl
theorem w1005 : Cond.methodLink RX11 205 yX11_firstWhoGains ∈ zWs := z_at 1005 (by decide +kernel) rfl
theorem w1007 : Cond.instanceMethod yX11_firstWhoGains ∈ zWs := z_at 1007 (by decide +kernel) rfl
theorem w1008 : Cond.code yX11_firstWhoGains cX11_firstWhoGains 3 (some .int) ∈ zWs := z_at 1008 (by decide +kernel) rfl
theorem w1009 : Cond.methodLink RX11 202 yX11_bandDays ∈ zWs := z_at 1009 (by decide +kernel) rfl
theorem w1011 : Cond.instanceMethod yX11_bandDays ∈ zWs := z_at 1011 (by decide +kernel) rfl
theorem w1012 : Cond.code yX11_bandDays cX11_bandDays 5 (some .int) ∈ zWs := z_at 1012 (by decide +kernel) rfl
theorem w1013 : Cond.methodLink RX11 199 yX11_bandHeld ∈ zWs := z_at 1013 (by decide +kernel) rfl
theorem w1015 : Cond.instanceMethod yX11_bandHeld ∈ zWs := z_at 1015 (by decide +kernel) rfl
theorem w1016 : Cond.code yX11_bandHeld cX11_bandHeld 5 (some .int) ∈ zWs := z_at 1016 (by decide +kernel) rfl
theorem w1017 : Cond.methodLink RL 93 yX11_gains ∈ zWs := z_at 1017 (by decide +kernel) rfl
theorem w1018 : Cond.instanceMethod yX11_gains ∈ zWs := z_at 1018 (by decide +kernel) rfl
theorem w1019 : Cond.selects RX11 yX11_gains yX11_gains ∈ zWs := z_at 1019 (by decide +kernel) rfl
theorem w1020 : Cond.code yX11_gains cX11_gains 2 (some .int) ∈ zWs := z_at 1020 (by decide +kernel) rfl
theorem w1021 : Cond.methodLink RL 97 yX11_cellsFor ∈ zWs := z_at 1021 (by decide +kernel) rfl
theorem w1022 : Cond.instanceMethod yX11_cellsFor ∈ zWs := z_at 1022 (by decide +kernel) rfl
theorem w1023 : Cond.selects RX11 yX11_cellsFor yX11_cellsFor ∈ zWs := z_at 1023 (by decide +kernel) rfl
theorem w1024 : Cond.code yX11_cellsFor cX11_cellsFor 3 (some .int) ∈ zWs := z_at 1024 (by decide +kernel) rfl
theorem w1025 : Cond.methodLink RX11 208 yX11_fitsIn ∈ zWs := z_at 1025 (by decide +kernel) rfl
theorem w1027 : Cond.instanceMethod yX11_fitsIn ∈ zWs := z_at 1027 (by decide +kernel) rfl
theorem w1028 : Cond.code yX11_fitsIn cX11_fitsIn 4 (some .boolean) ∈ zWs := z_at 1028 (by decide +kernel) rfl
theorem w1029 : Cond.methodLink RL 101 yX11_sits ∈ zWs := z_at 1029 (by decide +kernel) rfl
theorem w1030 : Cond.instanceMethod yX11_sits ∈ zWs := z_at 1030 (by decide +kernel) rfl
theorem w1031 : Cond.selects RX11 yX11_sits yX11_sits ∈ zWs := z_at 1031 (by decide +kernel) rfl
theorem w1032 : Cond.code yX11_sits cX11_sits 6 (some .int) ∈ zWs := z_at 1032 (by decide +kernel) rfl
theorem w1033 : Cond.methodLink RL 105 yX11_wronged ∈ zWs := z_at 1033 (by decide +kernel) rfl
theorem w1034 : Cond.instanceMethod yX11_wronged ∈ zWs := z_at 1034 (by decide +kernel) rfl
theorem w1035 : Cond.selects RX11 yX11_wronged yX11_wronged ∈ zWs := z_at 1035 (by decide +kernel) rfl
theorem w1036 : Cond.code yX11_wronged cX11_wronged 5 (some .int) ∈ zWs := z_at 1036 (by decide +kernel) rfl
theorem w1037 : Cond.methodLink RX11 211 yX11_byOther ∈ zWs := z_at 1037 (by decide +kernel) rfl
theorem w1039 : Cond.instanceMethod yX11_byOther ∈ zWs := z_at 1039 (by decide +kernel) rfl
theorem w1040 : Cond.code yX11_byOther cX11_byOther 3 (some .int) ∈ zWs := z_at 1040 (by decide +kernel) rfl
theorem w1041 : Cond.methodLink RL 109 yX11_book ∈ zWs := z_at 1041 (by decide +kernel) rfl
theorem w1042 : Cond.instanceMethod yX11_book ∈ zWs := z_at 1042 (by decide +kernel) rfl
theorem w1043 : Cond.selects RX11 yX11_book yX11_book ∈ zWs := z_at 1043 (by decide +kernel) rfl
theorem w1044 : Cond.code yX11_book cX11_book 3 (some .int) ∈ zWs := z_at 1044 (by decide +kernel) rfl
theorem w1045 : Cond.methodLink RL 113 yX11_burn ∈ zWs := z_at 1045 (by decide +kernel) rfl
theorem w1046 : Cond.instanceMethod yX11_burn ∈ zWs := z_at 1046 (by decide +kernel) rfl
theorem w1047 : Cond.selects RX11 yX11_burn yX11_burn ∈ zWs := z_at 1047 (by decide +kernel) rfl
theorem w1048 : Cond.code yX11_burn cX11_burn 2 (some .int) ∈ zWs := z_at 1048 (by decide +kernel) rfl
theorem w1049 : Cond.methodLink RL 117 yX11_books ∈ zWs := z_at 1049 (by decide +kernel) rfl
theorem w1050 : Cond.instanceMethod yX11_books ∈ zWs := z_at 1050 (by decide +kernel) rfl
theorem w1051 : Cond.selects RX11 yX11_books yX11_books ∈ zWs := z_at 1051 (by decide +kernel) rfl
theorem w1052 : Cond.code yX11_books cX11_books 8 (some .int) ∈ zWs := z_at 1052 (by decide +kernel) rfl
theorem w1053 : Cond.methodLink RL 121 yX11_innocent ∈ zWs := z_at 1053 (by decide +kernel) rfl
theorem w1054 : Cond.instanceMethod yX11_innocent ∈ zWs := z_at 1054 (by decide +kernel) rfl
theorem w1055 : Cond.selects RX11 yX11_innocent yX11_innocent ∈ zWs := z_at 1055 (by decide +kernel) rfl
theorem w1056 : Cond.code yX11_innocent cX11_innocent 4 (some .int) ∈ zWs := z_at 1056 (by decide +kernel) rfl
theorem w1057 : Cond.methodLink RL 125 yX11_mark ∈ zWs := z_at 1057 (by decide +kernel) rfl
theorem w1058 : Cond.instanceMethod yX11_mark ∈ zWs := z_at 1058 (by decide +kernel) rfl
theorem w1059 : Cond.selects RX11 yX11_mark yX11_mark ∈ zWs := z_at 1059 (by decide +kernel) rfl
theorem w1060 : Cond.code yX11_mark cX11_mark 6 (some .int) ∈ zWs := z_at 1060 (by decide +kernel) rfl
theorem w1061 : Cond.constantLong RX11 218 (11) ∈ zWs := z_at 1061 (by decide +kernel) rfl
theorem w1062 : Cond.constantLong RX11 220 (101) ∈ zWs := z_at 1062 (by decide +kernel) rfl
theorem w1063 : Cond.constantLong RX11 222 (1011) ∈ zWs := z_at 1063 (by decide +kernel) rfl
theorem w1064 : Cond.constantLong RX11 224 (10101) ∈ zWs := z_at 1064 (by decide +kernel) rfl
theorem w1065 : Cond.constantLong RX11 226 (100001) ∈ zWs := z_at 1065 (by decide +kernel) rfl
theorem w1066 : Cond.methodLink RL 129 yX11_keep ∈ zWs := z_at 1066 (by decide +kernel) rfl
theorem w1067 : Cond.instanceMethod yX11_keep ∈ zWs := z_at 1067 (by decide +kernel) rfl
theorem w1068 : Cond.selects RX11 yX11_keep yX11_keep ∈ zWs := z_at 1068 (by decide +kernel) rfl
theorem w1069 : Cond.code yX11_keep cX11_keep 2 (some .int) ∈ zWs := z_at 1069 (by decide +kernel) rfl
theorem w1070 : Cond.methodLink RX11 228 yX11_copy ∈ zWs := z_at 1070 (by decide +kernel) rfl
theorem w1072 : Cond.instanceMethod yX11_copy ∈ zWs := z_at 1072 (by decide +kernel) rfl
theorem w1073 : Cond.code yX11_copy cX11_copy 4 none ∈ zWs := z_at 1073 (by decide +kernel) rfl
theorem w1074 : Cond.methodLink RL 133 yX11_back ∈ zWs := z_at 1074 (by decide +kernel) rfl
theorem w1075 : Cond.instanceMethod yX11_back ∈ zWs := z_at 1075 (by decide +kernel) rfl
theorem w1076 : Cond.selects RX11 yX11_back yX11_back ∈ zWs := z_at 1076 (by decide +kernel) rfl
theorem w1077 : Cond.code yX11_back cX11_back 2 (some .int) ∈ zWs := z_at 1077 (by decide +kernel) rfl
theorem w1078 : Cond.methodLink RL 137 yX11_count ∈ zWs := z_at 1078 (by decide +kernel) rfl
theorem w1079 : Cond.instanceMethod yX11_count ∈ zWs := z_at 1079 (by decide +kernel) rfl
theorem w1080 : Cond.selects RX11 yX11_count yX11_count ∈ zWs := z_at 1080 (by decide +kernel) rfl
theorem w1081 : Cond.code yX11_count cX11_count 2 (some .int) ∈ zWs := z_at 1081 (by decide +kernel) rfl
theorem w1082 : Cond.methodLink RL 142 yX11_trace ∈ zWs := z_at 1082 (by decide +kernel) rfl
theorem w1083 : Cond.instanceMethod yX11_trace ∈ zWs := z_at 1083 (by decide +kernel) rfl
theorem w1084 : Cond.selects RX11 yX11_trace yX11_trace ∈ zWs := z_at 1084 (by decide +kernel) rfl
theorem w1085 : Cond.code yX11_trace cX11_trace 1 (some .long) ∈ zWs := z_at 1085 (by decide +kernel) rfl
theorem w1086 : Cond.sameMethod RX8 RX8 "markOf" "(LFifthsOfGuilt;I)I" ∈ zWs := z_at 1086 (by decide +kernel) rfl
theorem w1087 : Cond.sameMethod RX9 RX9 "markOf" "(LFifthsOfGuilt;I)I" ∈ zWs := z_at 1087 (by decide +kernel) rfl
theorem gk_0_2 : gok (0 : Int32) 2 = true := by decide +kernel
theorem gk_0_6 : gok (0 : Int32) 6 = true := by decide +kernel
theorem gk_0_8 : gok (0 : Int32) 8 = true := by decide +kernel
theorem gk_0_102 : gok (0 : Int32) 102 = true := by decide +kernel
theorem gk_1_2 : gok (1 : Int32) 2 = true := by decide +kernel
theorem gk_1_6 : gok (1 : Int32) 6 = true := by decide +kernel
theorem gk_1_8 : gok (1 : Int32) 8 = true := by decide +kernel
theorem gk_1_102 : gok (1 : Int32) 102 = true := by decide +kernel
theorem gk_2_6 : gok (2 : Int32) 6 = true := by decide +kernel
theorem gk_2_8 : gok (2 : Int32) 8 = true := by decide +kernel
theorem gk_2_102 : gok (2 : Int32) 102 = true := by decide +kernel
theorem gk_3_6 : gok (3 : Int32) 6 = true := by decide +kernel
theorem gk_3_8 : gok (3 : Int32) 8 = true := by decide +kernel
theorem gk_3_102 : gok (3 : Int32) 102 = true := by decide +kernel
theorem gk_4_6 : gok (4 : Int32) 6 = true := by decide +kernel
theorem gk_5_6 : gok (5 : Int32) 6 = true := by decide +kernel
theorem nz_2 : ¬ (2 : Int32) = 0 := by decide
theorem nz_10 : ¬ (10 : Int32) = 0 := by decide
theorem nz_20 : ¬ (20 : Int32) = 0 := by decide
theorem cw_L_101 {R : Room} {s : State} {args : Array Value} (hz : ∀ w ∈ zWs, w.before args s = true) (hR : rm_X11_sits.frames + 1 ≤ R.frames ∧ 8 + (6 + 11) + rm_X11_sits.locals ≤ R.locals) : CallW R s args RL RX11 101 yX11_sits cX11_sits 6 (some .int) (.code yX11_sits cX11_sits 6 (some .int) :: zWs) rm_X11_sits 0 0 3 :=
  cwV 3 hz (z_gV w1029 w1030 w1031 w67 w1032) rfl rfl rfl (by decide +kernel) hR
theorem cw_L_102 {R : Room} {s : State} {args : Array Value} (hz : ∀ w ∈ zWs, w.before args s = true) (hR : rm_X10_wronged.frames + 1 ≤ R.frames ∧ 8 + (4 + 11) + rm_X10_wronged.locals ≤ R.locals) : CallW R s args RL RX10 102 yX10_wronged cX10_wronged 4 (some .int) (.code yX10_wronged cX10_wronged 4 (some .int) :: zWs) rm_X10_wronged 0 0 1 :=
  cwV 1 hz (z_gV w634 w635 w636 w56 w637) rfl rfl rfl (by decide +kernel) hR
theorem cw_L_105 {R : Room} {s : State} {args : Array Value} (hz : ∀ w ∈ zWs, w.before args s = true) (hR : rm_X11_wronged.frames + 1 ≤ R.frames ∧ 8 + (5 + 11) + rm_X11_wronged.locals ≤ R.locals) : CallW R s args RL RX11 105 yX11_wronged cX11_wronged 5 (some .int) (.code yX11_wronged cX11_wronged 5 (some .int) :: zWs) rm_X11_wronged 0 0 1 :=
  cwV 1 hz (z_gV w1033 w1034 w1035 w67 w1036) rfl rfl rfl (by decide +kernel) hR
theorem cw_L_106 {R : Room} {s : State} {args : Array Value} (hz : ∀ w ∈ zWs, w.before args s = true) (hR : rm_X10_book.frames + 1 ≤ R.frames ∧ 8 + (3 + 11) + rm_X10_book.locals ≤ R.locals) : CallW R s args RL RX10 106 yX10_book cX10_book 3 (some .int) (.code yX10_book cX10_book 3 (some .int) :: zWs) rm_X10_book 0 0 2 :=
  cwV 2 hz (z_gV w646 w647 w648 w56 w649) rfl rfl rfl (by decide +kernel) hR
theorem cw_L_109 {R : Room} {s : State} {args : Array Value} (hz : ∀ w ∈ zWs, w.before args s = true) (hR : rm_X11_book.frames + 1 ≤ R.frames ∧ 8 + (3 + 11) + rm_X11_book.locals ≤ R.locals) : CallW R s args RL RX11 109 yX11_book cX11_book 3 (some .int) (.code yX11_book cX11_book 3 (some .int) :: zWs) rm_X11_book 0 0 2 :=
  cwV 2 hz (z_gV w1041 w1042 w1043 w67 w1044) rfl rfl rfl (by decide +kernel) hR
theorem cw_L_110 {R : Room} {s : State} {args : Array Value} (hz : ∀ w ∈ zWs, w.before args s = true) (hR : rm_X10_burn.frames + 1 ≤ R.frames ∧ 8 + (2 + 11) + rm_X10_burn.locals ≤ R.locals) : CallW R s args RL RX10 110 yX10_burn cX10_burn 2 (some .int) (.code yX10_burn cX10_burn 2 (some .int) :: zWs) rm_X10_burn 0 0 0 :=
  cwV 0 hz (z_gV w650 w651 w652 w56 w653) rfl rfl rfl (by decide +kernel) hR
theorem cw_L_113 {R : Room} {s : State} {args : Array Value} (hz : ∀ w ∈ zWs, w.before args s = true) (hR : rm_X11_burn.frames + 1 ≤ R.frames ∧ 8 + (2 + 11) + rm_X11_burn.locals ≤ R.locals) : CallW R s args RL RX11 113 yX11_burn cX11_burn 2 (some .int) (.code yX11_burn cX11_burn 2 (some .int) :: zWs) rm_X11_burn 0 0 0 :=
  cwV 0 hz (z_gV w1045 w1046 w1047 w67 w1048) rfl rfl rfl (by decide +kernel) hR
theorem cw_L_114 {R : Room} {s : State} {args : Array Value} (hz : ∀ w ∈ zWs, w.before args s = true) (hR : rm_X10_books.frames + 1 ≤ R.frames ∧ 8 + (6 + 11) + rm_X10_books.locals ≤ R.locals) : CallW R s args RL RX10 114 yX10_books cX10_books 6 (some .int) (.code yX10_books cX10_books 6 (some .int) :: zWs) rm_X10_books 0 0 1 :=
  cwV 1 hz (z_gV w654 w655 w656 w56 w657) rfl rfl rfl (by decide +kernel) hR
theorem cw_L_117 {R : Room} {s : State} {args : Array Value} (hz : ∀ w ∈ zWs, w.before args s = true) (hR : rm_X11_books.frames + 1 ≤ R.frames ∧ 8 + (8 + 11) + rm_X11_books.locals ≤ R.locals) : CallW R s args RL RX11 117 yX11_books cX11_books 8 (some .int) (.code yX11_books cX11_books 8 (some .int) :: zWs) rm_X11_books 0 0 1 :=
  cwV 1 hz (z_gV w1049 w1050 w1051 w67 w1052) rfl rfl rfl (by decide +kernel) hR
theorem cw_L_118 {R : Room} {s : State} {args : Array Value} (hz : ∀ w ∈ zWs, w.before args s = true) (hR : rm_X10_innocent.frames + 1 ≤ R.frames ∧ 8 + (4 + 11) + rm_X10_innocent.locals ≤ R.locals) : CallW R s args RL RX10 118 yX10_innocent cX10_innocent 4 (some .int) (.code yX10_innocent cX10_innocent 4 (some .int) :: zWs) rm_X10_innocent 0 0 1 :=
  cwV 1 hz (z_gV w662 w663 w664 w56 w665) rfl rfl rfl (by decide +kernel) hR
theorem cw_L_121 {R : Room} {s : State} {args : Array Value} (hz : ∀ w ∈ zWs, w.before args s = true) (hR : rm_X11_innocent.frames + 1 ≤ R.frames ∧ 8 + (4 + 11) + rm_X11_innocent.locals ≤ R.locals) : CallW R s args RL RX11 121 yX11_innocent cX11_innocent 4 (some .int) (.code yX11_innocent cX11_innocent 4 (some .int) :: zWs) rm_X11_innocent 0 0 1 :=
  cwV 1 hz (z_gV w1053 w1054 w1055 w67 w1056) rfl rfl rfl (by decide +kernel) hR
theorem cw_L_122 {R : Room} {s : State} {args : Array Value} (hz : ∀ w ∈ zWs, w.before args s = true) (hR : rm_X10_mark.frames + 1 ≤ R.frames ∧ 8 + (3 + 11) + rm_X10_mark.locals ≤ R.locals) : CallW R s args RL RX10 122 yX10_mark cX10_mark 3 (some .int) (.code yX10_mark cX10_mark 3 (some .int) :: zWs) rm_X10_mark 0 0 2 :=
  cwV 2 hz (z_gV w667 w668 w669 w56 w670) rfl rfl rfl (by decide +kernel) hR
theorem cw_L_125 {R : Room} {s : State} {args : Array Value} (hz : ∀ w ∈ zWs, w.before args s = true) (hR : rm_X11_mark.frames + 1 ≤ R.frames ∧ 8 + (6 + 11) + rm_X11_mark.locals ≤ R.locals) : CallW R s args RL RX11 125 yX11_mark cX11_mark 6 (some .int) (.code yX11_mark cX11_mark 6 (some .int) :: zWs) rm_X11_mark 0 0 2 :=
  cwV 2 hz (z_gV w1057 w1058 w1059 w67 w1060) rfl rfl rfl (by decide +kernel) hR
theorem cw_L_126 {R : Room} {s : State} {args : Array Value} (hz : ∀ w ∈ zWs, w.before args s = true) (hR : rm_X10_keep.frames + 1 ≤ R.frames ∧ 8 + (2 + 11) + rm_X10_keep.locals ≤ R.locals) : CallW R s args RL RX10 126 yX10_keep cX10_keep 2 (some .int) (.code yX10_keep cX10_keep 2 (some .int) :: zWs) rm_X10_keep 0 0 1 :=
  cwV 1 hz (z_gV w702 w703 w704 w56 w705) rfl rfl rfl (by decide +kernel) hR
theorem cw_L_129 {R : Room} {s : State} {args : Array Value} (hz : ∀ w ∈ zWs, w.before args s = true) (hR : rm_X11_keep.frames + 1 ≤ R.frames ∧ 8 + (2 + 11) + rm_X11_keep.locals ≤ R.locals) : CallW R s args RL RX11 129 yX11_keep cX11_keep 2 (some .int) (.code yX11_keep cX11_keep 2 (some .int) :: zWs) rm_X11_keep 0 0 1 :=
  cwV 1 hz (z_gV w1066 w1067 w1068 w67 w1069) rfl rfl rfl (by decide +kernel) hR
theorem cw_L_13 {R : Room} {s : State} {args : Array Value} (hz : ∀ w ∈ zWs, w.before args s = true) (hR : rm_X10_type.frames + 1 ≤ R.frames ∧ 8 + (2 + 11) + rm_X10_type.locals ≤ R.locals) : CallW R s args RL RX10 13 yX10_type cX10_type 2 (some .int) (.code yX10_type cX10_type 2 (some .int) :: zWs) rm_X10_type 0 0 1 :=
  cwV 1 hz (z_gV w361 w362 w363 w56 w364) rfl rfl rfl (by decide +kernel) hR
theorem cw_L_130 {R : Room} {s : State} {args : Array Value} (hz : ∀ w ∈ zWs, w.before args s = true) (hR : rm_X10_back.frames + 1 ≤ R.frames ∧ 8 + (2 + 11) + rm_X10_back.locals ≤ R.locals) : CallW R s args RL RX10 130 yX10_back cX10_back 2 (some .int) (.code yX10_back cX10_back 2 (some .int) :: zWs) rm_X10_back 0 0 1 :=
  cwV 1 hz (z_gV w710 w711 w712 w56 w713) rfl rfl rfl (by decide +kernel) hR
theorem cw_L_133 {R : Room} {s : State} {args : Array Value} (hz : ∀ w ∈ zWs, w.before args s = true) (hR : rm_X11_back.frames + 1 ≤ R.frames ∧ 8 + (2 + 11) + rm_X11_back.locals ≤ R.locals) : CallW R s args RL RX11 133 yX11_back cX11_back 2 (some .int) (.code yX11_back cX11_back 2 (some .int) :: zWs) rm_X11_back 0 0 1 :=
  cwV 1 hz (z_gV w1074 w1075 w1076 w67 w1077) rfl rfl rfl (by decide +kernel) hR
theorem cw_L_134 {R : Room} {s : State} {args : Array Value} (hz : ∀ w ∈ zWs, w.before args s = true) (hR : rm_X10_count.frames + 1 ≤ R.frames ∧ 8 + (2 + 11) + rm_X10_count.locals ≤ R.locals) : CallW R s args RL RX10 134 yX10_count cX10_count 2 (some .int) (.code yX10_count cX10_count 2 (some .int) :: zWs) rm_X10_count 0 0 1 :=
  cwV 1 hz (z_gV w714 w715 w716 w56 w717) rfl rfl rfl (by decide +kernel) hR
theorem cw_L_137 {R : Room} {s : State} {args : Array Value} (hz : ∀ w ∈ zWs, w.before args s = true) (hR : rm_X11_count.frames + 1 ≤ R.frames ∧ 8 + (2 + 11) + rm_X11_count.locals ≤ R.locals) : CallW R s args RL RX11 137 yX11_count cX11_count 2 (some .int) (.code yX11_count cX11_count 2 (some .int) :: zWs) rm_X11_count 0 0 1 :=
  cwV 1 hz (z_gV w1078 w1079 w1080 w67 w1081) rfl rfl rfl (by decide +kernel) hR
theorem cw_L_138 {R : Room} {s : State} {args : Array Value} (hz : ∀ w ∈ zWs, w.before args s = true) (hR : rm_X10_trace.frames + 1 ≤ R.frames ∧ 8 + (1 + 11) + rm_X10_trace.locals ≤ R.locals) : CallW R s args RL RX10 138 yX10_trace cX10_trace 1 (some .long) (.code yX10_trace cX10_trace 1 (some .long) :: zWs) rm_X10_trace 0 0 0 :=
  cwV 0 hz (z_gV w718 w719 w720 w56 w721) rfl rfl rfl (by decide +kernel) hR
theorem cw_L_142 {R : Room} {s : State} {args : Array Value} (hz : ∀ w ∈ zWs, w.before args s = true) (hR : rm_X11_trace.frames + 1 ≤ R.frames ∧ 8 + (1 + 11) + rm_X11_trace.locals ≤ R.locals) : CallW R s args RL RX11 142 yX11_trace cX11_trace 1 (some .long) (.code yX11_trace cX11_trace 1 (some .long) :: zWs) rm_X11_trace 0 0 0 :=
  cwV 0 hz (z_gV w1082 w1083 w1084 w67 w1085) rfl rfl rfl (by decide +kernel) hR
theorem cw_L_17 {R : Room} {s : State} {args : Array Value} (hz : ∀ w ∈ zWs, w.before args s = true) (hR : rm_X11_type.frames + 1 ≤ R.frames ∧ 8 + (2 + 11) + rm_X11_type.locals ≤ R.locals) : CallW R s args RL RX11 17 yX11_type cX11_type 2 (some .int) (.code yX11_type cX11_type 2 (some .int) :: zWs) rm_X11_type 0 0 1 :=
  cwV 1 hz (z_gV w826 w827 w828 w67 w829) rfl rfl rfl (by decide +kernel) hR
theorem cw_L_18 {R : Room} {s : State} {args : Array Value} (hz : ∀ w ∈ zWs, w.before args s = true) (hR : rm_X10_clear.frames + 1 ≤ R.frames ∧ 8 + (2 + 11) + rm_X10_clear.locals ≤ R.locals) : CallW R s args RL RX10 18 yX10_clear cX10_clear 2 (some .int) (.code yX10_clear cX10_clear 2 (some .int) :: zWs) rm_X10_clear 0 0 0 :=
  cwV 0 hz (z_gV w368 w369 w370 w56 w371) rfl rfl rfl (by decide +kernel) hR
theorem cw_L_22 {R : Room} {s : State} {args : Array Value} (hz : ∀ w ∈ zWs, w.before args s = true) (hR : rm_X11_clear.frames + 1 ≤ R.frames ∧ 8 + (2 + 11) + rm_X11_clear.locals ≤ R.locals) : CallW R s args RL RX11 22 yX11_clear cX11_clear 2 (some .int) (.code yX11_clear cX11_clear 2 (some .int) :: zWs) rm_X11_clear 0 0 0 :=
  cwV 0 hz (z_gV w833 w834 w835 w67 w836) rfl rfl rfl (by decide +kernel) hR
theorem cw_L_23 {R : Room} {s : State} {args : Array Value} (hz : ∀ w ∈ zWs, w.before args s = true) (hR : rm_X10_court.frames + 1 ≤ R.frames ∧ 8 + (4 + 11) + rm_X10_court.locals ≤ R.locals) : CallW R s args RL RX10 23 yX10_court cX10_court 4 (some .int) (.code yX10_court cX10_court 4 (some .int) :: zWs) rm_X10_court 0 0 0 :=
  cwV 0 hz (z_gV w372 w373 w374 w56 w375) rfl rfl rfl (by decide +kernel) hR
theorem cw_L_26 {R : Room} {s : State} {args : Array Value} (hz : ∀ w ∈ zWs, w.before args s = true) (hR : rm_X11_court.frames + 1 ≤ R.frames ∧ 8 + (3 + 11) + rm_X11_court.locals ≤ R.locals) : CallW R s args RL RX11 26 yX11_court cX11_court 3 (some .int) (.code yX11_court cX11_court 3 (some .int) :: zWs) rm_X11_court 0 0 0 :=
  cwV 0 hz (z_gV w837 w838 w839 w67 w840) rfl rfl rfl (by decide +kernel) hR
theorem cw_L_27 {R : Room} {s : State} {args : Array Value} (hz : ∀ w ∈ zWs, w.before args s = true) (hR : rm_X10_suspect.frames + 1 ≤ R.frames ∧ 8 + (3 + 11) + rm_X10_suspect.locals ≤ R.locals) : CallW R s args RL RX10 27 yX10_suspect cX10_suspect 3 (some .int) (.code yX10_suspect cX10_suspect 3 (some .int) :: zWs) rm_X10_suspect 0 0 2 :=
  cwV 2 hz (z_gV w431 w432 w433 w56 w434) rfl rfl rfl (by decide +kernel) hR
theorem cw_L_31 {R : Room} {s : State} {args : Array Value} (hz : ∀ w ∈ zWs, w.before args s = true) (hR : rm_X11_suspect.frames + 1 ≤ R.frames ∧ 8 + (3 + 11) + rm_X11_suspect.locals ≤ R.locals) : CallW R s args RL RX11 31 yX11_suspect cX11_suspect 3 (some .int) (.code yX11_suspect cX11_suspect 3 (some .int) :: zWs) rm_X11_suspect 0 0 2 :=
  cwV 2 hz (z_gV w873 w874 w875 w67 w876) rfl rfl rfl (by decide +kernel) hR
theorem cw_L_32 {R : Room} {s : State} {args : Array Value} (hz : ∀ w ∈ zWs, w.before args s = true) (hR : rm_X10_fact.frames + 1 ≤ R.frames ∧ 8 + (3 + 11) + rm_X10_fact.locals ≤ R.locals) : CallW R s args RL RX10 32 yX10_fact cX10_fact 3 (some .int) (.code yX10_fact cX10_fact 3 (some .int) :: zWs) rm_X10_fact 0 0 2 :=
  cwV 2 hz (z_gV w478 w479 w480 w56 w481) rfl rfl rfl (by decide +kernel) hR
theorem cw_L_35 {R : Room} {s : State} {args : Array Value} (hz : ∀ w ∈ zWs, w.before args s = true) (hR : rm_X11_fact.frames + 1 ≤ R.frames ∧ 8 + (3 + 11) + rm_X11_fact.locals ≤ R.locals) : CallW R s args RL RX11 35 yX11_fact cX11_fact 3 (some .int) (.code yX11_fact cX11_fact 3 (some .int) :: zWs) rm_X11_fact 0 0 2 :=
  cwV 2 hz (z_gV w901 w902 w903 w67 w904) rfl rfl rfl (by decide +kernel) hR
theorem cw_L_36 {R : Room} {s : State} {args : Array Value} (hz : ∀ w ∈ zWs, w.before args s = true) (hR : rm_X10_moves.frames + 1 ≤ R.frames ∧ 8 + (3 + 11) + rm_X10_moves.locals ≤ R.locals) : CallW R s args RL RX10 36 yX10_moves cX10_moves 3 (some .int) (.code yX10_moves cX10_moves 3 (some .int) :: zWs) rm_X10_moves 0 0 2 :=
  cwV 2 hz (z_gV w487 w488 w489 w56 w490) rfl rfl rfl (by decide +kernel) hR
theorem cw_L_39 {R : Room} {s : State} {args : Array Value} (hz : ∀ w ∈ zWs, w.before args s = true) (hR : rm_X11_moves.frames + 1 ≤ R.frames ∧ 8 + (3 + 11) + rm_X11_moves.locals ≤ R.locals) : CallW R s args RL RX11 39 yX11_moves cX11_moves 3 (some .int) (.code yX11_moves cX11_moves 3 (some .int) :: zWs) rm_X11_moves 0 0 2 :=
  cwV 2 hz (z_gV w909 w910 w911 w67 w912) rfl rfl rfl (by decide +kernel) hR
theorem cw_L_40 {R : Room} {s : State} {args : Array Value} (hz : ∀ w ∈ zWs, w.before args s = true) (hR : rm_X10_alibi.frames + 1 ≤ R.frames ∧ 8 + (3 + 11) + rm_X10_alibi.locals ≤ R.locals) : CallW R s args RL RX10 40 yX10_alibi cX10_alibi 3 (some .int) (.code yX10_alibi cX10_alibi 3 (some .int) :: zWs) rm_X10_alibi 0 0 2 :=
  cwV 2 hz (z_gV w492 w493 w494 w56 w495) rfl rfl rfl (by decide +kernel) hR
theorem cw_L_43 {R : Room} {s : State} {args : Array Value} (hz : ∀ w ∈ zWs, w.before args s = true) (hR : rm_X11_alibi.frames + 1 ≤ R.frames ∧ 8 + (3 + 11) + rm_X11_alibi.locals ≤ R.locals) : CallW R s args RL RX11 43 yX11_alibi cX11_alibi 3 (some .int) (.code yX11_alibi cX11_alibi 3 (some .int) :: zWs) rm_X11_alibi 0 0 2 :=
  cwV 2 hz (z_gV w914 w915 w916 w67 w917) rfl rfl rfl (by decide +kernel) hR
theorem cw_L_44 {R : Room} {s : State} {args : Array Value} (hz : ∀ w ∈ zWs, w.before args s = true) (hR : rm_X10_find.frames + 1 ≤ R.frames ∧ 8 + (3 + 11) + rm_X10_find.locals ≤ R.locals) : CallW R s args RL RX10 44 yX10_find cX10_find 3 (some .int) (.code yX10_find cX10_find 3 (some .int) :: zWs) rm_X10_find 0 0 2 :=
  cwV 2 hz (z_gV w500 w501 w502 w56 w503) rfl rfl rfl (by decide +kernel) hR
theorem cw_L_47 {R : Room} {s : State} {args : Array Value} (hz : ∀ w ∈ zWs, w.before args s = true) (hR : rm_X11_find.frames + 1 ≤ R.frames ∧ 8 + (3 + 11) + rm_X11_find.locals ≤ R.locals) : CallW R s args RL RX11 47 yX11_find cX11_find 3 (some .int) (.code yX11_find cX11_find 3 (some .int) :: zWs) rm_X11_find 0 0 2 :=
  cwV 2 hz (z_gV w922 w923 w924 w67 w925) rfl rfl rfl (by decide +kernel) hR
theorem cw_L_48 {R : Room} {s : State} {args : Array Value} (hz : ∀ w ∈ zWs, w.before args s = true) (hR : rm_X10_hear.frames + 1 ≤ R.frames ∧ 8 + (3 + 11) + rm_X10_hear.locals ≤ R.locals) : CallW R s args RL RX10 48 yX10_hear cX10_hear 3 (some .int) (.code yX10_hear cX10_hear 3 (some .int) :: zWs) rm_X10_hear 0 0 2 :=
  cwV 2 hz (z_gV w515 w516 w517 w56 w518) rfl rfl rfl (by decide +kernel) hR
theorem cw_L_51 {R : Room} {s : State} {args : Array Value} (hz : ∀ w ∈ zWs, w.before args s = true) (hR : rm_X11_hear.frames + 1 ≤ R.frames ∧ 8 + (3 + 11) + rm_X11_hear.locals ≤ R.locals) : CallW R s args RL RX11 51 yX11_hear cX11_hear 3 (some .int) (.code yX11_hear cX11_hear 3 (some .int) :: zWs) rm_X11_hear 0 0 2 :=
  cwV 2 hz (z_gV w934 w935 w936 w67 w937) rfl rfl rfl (by decide +kernel) hR
theorem cw_L_52 {R : Room} {s : State} {args : Array Value} (hz : ∀ w ∈ zWs, w.before args s = true) (hR : rm_X10_days.frames + 1 ≤ R.frames ∧ 8 + (3 + 11) + rm_X10_days.locals ≤ R.locals) : CallW R s args RL RX10 52 yX10_days cX10_days 3 (some .int) (.code yX10_days cX10_days 3 (some .int) :: zWs) rm_X10_days 0 0 1 :=
  cwV 1 hz (z_gV w519 w520 w521 w56 w522) rfl rfl rfl (by decide +kernel) hR
theorem cw_L_55 {R : Room} {s : State} {args : Array Value} (hz : ∀ w ∈ zWs, w.before args s = true) (hR : rm_X11_days.frames + 1 ≤ R.frames ∧ 8 + (3 + 11) + rm_X11_days.locals ≤ R.locals) : CallW R s args RL RX11 55 yX11_days cX11_days 3 (some .int) (.code yX11_days cX11_days 3 (some .int) :: zWs) rm_X11_days 0 0 1 :=
  cwV 1 hz (z_gV w938 w939 w940 w67 w941) rfl rfl rfl (by decide +kernel) hR
theorem cw_L_56 {R : Room} {s : State} {args : Array Value} (hz : ∀ w ∈ zWs, w.before args s = true) (hR : rm_X10_undo.frames + 1 ≤ R.frames ∧ 8 + (1 + 11) + rm_X10_undo.locals ≤ R.locals) : CallW R s args RL RX10 56 yX10_undo cX10_undo 1 (some .int) (.code yX10_undo cX10_undo 1 (some .int) :: zWs) rm_X10_undo 0 0 0 :=
  cwV 0 hz (z_gV w523 w524 w525 w56 w526) rfl rfl rfl (by decide +kernel) hR
theorem cw_L_59 {R : Room} {s : State} {args : Array Value} (hz : ∀ w ∈ zWs, w.before args s = true) (hR : rm_X11_undo.frames + 1 ≤ R.frames ∧ 8 + (2 + 11) + rm_X11_undo.locals ≤ R.locals) : CallW R s args RL RX11 59 yX11_undo cX11_undo 2 (some .int) (.code yX11_undo cX11_undo 2 (some .int) :: zWs) rm_X11_undo 0 0 0 :=
  cwV 0 hz (z_gV w942 w943 w944 w67 w945) rfl rfl rfl (by decide +kernel) hR
theorem cw_L_60 {R : Room} {s : State} {args : Array Value} (hz : ∀ w ∈ zWs, w.before args s = true) (hR : rm_X10_share.frames + 1 ≤ R.frames ∧ 8 + (4 + 11) + rm_X10_share.locals ≤ R.locals) : CallW R s args RL RX10 60 yX10_share cX10_share 4 (some .int) (.code yX10_share cX10_share 4 (some .int) :: zWs) rm_X10_share 0 0 2 :=
  cwV 2 hz (z_gV w531 w532 w533 w56 w534) rfl rfl rfl (by decide +kernel) hR
theorem cw_L_63 {R : Room} {s : State} {args : Array Value} (hz : ∀ w ∈ zWs, w.before args s = true) (hR : rm_X11_share.frames + 1 ≤ R.frames ∧ 8 + (6 + 11) + rm_X11_share.locals ≤ R.locals) : CallW R s args RL RX11 63 yX11_share cX11_share 6 (some .int) (.code yX11_share cX11_share 6 (some .int) :: zWs) rm_X11_share 0 0 2 :=
  cwV 2 hz (z_gV w946 w947 w948 w67 w949) rfl rfl rfl (by decide +kernel) hR
theorem cw_L_64 {R : Room} {s : State} {args : Array Value} (hz : ∀ w ∈ zWs, w.before args s = true) (hR : rm_X10_now.frames + 1 ≤ R.frames ∧ 8 + (2 + 11) + rm_X10_now.locals ≤ R.locals) : CallW R s args RL RX10 64 yX10_now cX10_now 2 (some .int) (.code yX10_now cX10_now 2 (some .int) :: zWs) rm_X10_now 0 0 1 :=
  cwV 1 hz (z_gV w539 w540 w541 w56 w542) rfl rfl rfl (by decide +kernel) hR
theorem cw_L_67 {R : Room} {s : State} {args : Array Value} (hz : ∀ w ∈ zWs, w.before args s = true) (hR : rm_X11_now.frames + 1 ≤ R.frames ∧ 8 + (2 + 11) + rm_X11_now.locals ≤ R.locals) : CallW R s args RL RX11 67 yX11_now cX11_now 2 (some .int) (.code yX11_now cX11_now 2 (some .int) :: zWs) rm_X11_now 0 0 1 :=
  cwV 1 hz (z_gV w950 w951 w952 w67 w953) rfl rfl rfl (by decide +kernel) hR
theorem cw_L_68 {R : Room} {s : State} {args : Array Value} (hz : ∀ w ∈ zWs, w.before args s = true) (hR : rm_X10_proof.frames + 1 ≤ R.frames ∧ 8 + (5 + 11) + rm_X10_proof.locals ≤ R.locals) : CallW R s args RL RX10 68 yX10_proof cX10_proof 5 (some .int) (.code yX10_proof cX10_proof 5 (some .int) :: zWs) rm_X10_proof 0 0 4 :=
  cwV 4 hz (z_gV w547 w548 w549 w56 w550) rfl rfl rfl (by decide +kernel) hR
theorem cw_L_72 {R : Room} {s : State} {args : Array Value} (hz : ∀ w ∈ zWs, w.before args s = true) (hR : rm_X11_proof.frames + 1 ≤ R.frames ∧ 8 + (6 + 11) + rm_X11_proof.locals ≤ R.locals) : CallW R s args RL RX11 72 yX11_proof cX11_proof 6 (some .int) (.code yX11_proof cX11_proof 6 (some .int) :: zWs) rm_X11_proof 0 0 4 :=
  cwV 4 hz (z_gV w958 w959 w960 w67 w961) rfl rfl rfl (by decide +kernel) hR
theorem cw_L_73 {R : Room} {s : State} {args : Array Value} (hz : ∀ w ∈ zWs, w.before args s = true) (hR : rm_X10_cleared.frames + 1 ≤ R.frames ∧ 8 + (5 + 11) + rm_X10_cleared.locals ≤ R.locals) : CallW R s args RL RX10 73 yX10_cleared cX10_cleared 5 (some .int) (.code yX10_cleared cX10_cleared 5 (some .int) :: zWs) rm_X10_cleared 0 0 4 :=
  cwV 4 hz (z_gV w573 w574 w575 w56 w576) rfl rfl rfl (by decide +kernel) hR
theorem cw_L_76 {R : Room} {s : State} {args : Array Value} (hz : ∀ w ∈ zWs, w.before args s = true) (hR : rm_X11_cleared.frames + 1 ≤ R.frames ∧ 8 + (6 + 11) + rm_X11_cleared.locals ≤ R.locals) : CallW R s args RL RX11 76 yX11_cleared cX11_cleared 6 (some .int) (.code yX11_cleared cX11_cleared 6 (some .int) :: zWs) rm_X11_cleared 0 0 4 :=
  cwV 4 hz (z_gV w978 w979 w980 w67 w981) rfl rfl rfl (by decide +kernel) hR
theorem cw_L_77 {R : Room} {s : State} {args : Array Value} (hz : ∀ w ∈ zWs, w.before args s = true) (hR : rm_X10_forged.frames + 1 ≤ R.frames ∧ 8 + (8 + 11) + rm_X10_forged.locals ≤ R.locals) : CallW R s args RL RX10 77 yX10_forged cX10_forged 8 (some .int) (.code yX10_forged cX10_forged 8 (some .int) :: zWs) rm_X10_forged 0 0 3 :=
  cwV 3 hz (z_gV w577 w578 w579 w56 w580) rfl rfl rfl (by decide +kernel) hR
theorem cw_L_81 {R : Room} {s : State} {args : Array Value} (hz : ∀ w ∈ zWs, w.before args s = true) (hR : rm_X11_forged.frames + 1 ≤ R.frames ∧ 8 + (8 + 11) + rm_X11_forged.locals ≤ R.locals) : CallW R s args RL RX11 81 yX11_forged cX11_forged 8 (some .int) (.code yX11_forged cX11_forged 8 (some .int) :: zWs) rm_X11_forged 0 0 3 :=
  cwV 3 hz (z_gV w982 w983 w984 w67 w985) rfl rfl rfl (by decide +kernel) hR
theorem cw_L_82 {R : Room} {s : State} {args : Array Value} (hz : ∀ w ∈ zWs, w.before args s = true) (hR : rm_X10_clash.frames + 1 ≤ R.frames ∧ 8 + (3 + 11) + rm_X10_clash.locals ≤ R.locals) : CallW R s args RL RX10 82 yX10_clash cX10_clash 3 (some .int) (.code yX10_clash cX10_clash 3 (some .int) :: zWs) rm_X10_clash 0 0 1 :=
  cwV 1 hz (z_gV w581 w582 w583 w56 w584) rfl rfl rfl (by decide +kernel) hR
theorem cw_L_85 {R : Room} {s : State} {args : Array Value} (hz : ∀ w ∈ zWs, w.before args s = true) (hR : rm_X11_clash.frames + 1 ≤ R.frames ∧ 8 + (5 + 11) + rm_X11_clash.locals ≤ R.locals) : CallW R s args RL RX11 85 yX11_clash cX11_clash 5 (some .int) (.code yX11_clash cX11_clash 5 (some .int) :: zWs) rm_X11_clash 0 0 1 :=
  cwV 1 hz (z_gV w986 w987 w988 w67 w989) rfl rfl rfl (by decide +kernel) hR
theorem cw_L_86 {R : Room} {s : State} {args : Array Value} (hz : ∀ w ∈ zWs, w.before args s = true) (hR : rm_X10_rests.frames + 1 ≤ R.frames ∧ 8 + (5 + 11) + rm_X10_rests.locals ≤ R.locals) : CallW R s args RL RX10 86 yX10_rests cX10_rests 5 (some .int) (.code yX10_rests cX10_rests 5 (some .int) :: zWs) rm_X10_rests 0 0 1 :=
  cwV 1 hz (z_gV w602 w603 w604 w56 w605) rfl rfl rfl (by decide +kernel) hR
theorem cw_L_89 {R : Room} {s : State} {args : Array Value} (hz : ∀ w ∈ zWs, w.before args s = true) (hR : rm_X11_rests.frames + 1 ≤ R.frames ∧ 8 + (6 + 11) + rm_X11_rests.locals ≤ R.locals) : CallW R s args RL RX11 89 yX11_rests cX11_rests 6 (some .int) (.code yX11_rests cX11_rests 6 (some .int) :: zWs) rm_X11_rests 0 0 1 :=
  cwV 1 hz (z_gV w1001 w1002 w1003 w67 w1004) rfl rfl rfl (by decide +kernel) hR
theorem cw_L_90 {R : Room} {s : State} {args : Array Value} (hz : ∀ w ∈ zWs, w.before args s = true) (hR : rm_X10_gains.frames + 1 ≤ R.frames ∧ 8 + (2 + 11) + rm_X10_gains.locals ≤ R.locals) : CallW R s args RL RX10 90 yX10_gains cX10_gains 2 (some .int) (.code yX10_gains cX10_gains 2 (some .int) :: zWs) rm_X10_gains 0 0 1 :=
  cwV 1 hz (z_gV w618 w619 w620 w56 w621) rfl rfl rfl (by decide +kernel) hR
theorem cw_L_93 {R : Room} {s : State} {args : Array Value} (hz : ∀ w ∈ zWs, w.before args s = true) (hR : rm_X11_gains.frames + 1 ≤ R.frames ∧ 8 + (2 + 11) + rm_X11_gains.locals ≤ R.locals) : CallW R s args RL RX11 93 yX11_gains cX11_gains 2 (some .int) (.code yX11_gains cX11_gains 2 (some .int) :: zWs) rm_X11_gains 0 0 1 :=
  cwV 1 hz (z_gV w1017 w1018 w1019 w67 w1020) rfl rfl rfl (by decide +kernel) hR
theorem cw_L_94 {R : Room} {s : State} {args : Array Value} (hz : ∀ w ∈ zWs, w.before args s = true) (hR : rm_X10_cellsFor.frames + 1 ≤ R.frames ∧ 8 + (2 + 11) + rm_X10_cellsFor.locals ≤ R.locals) : CallW R s args RL RX10 94 yX10_cellsFor cX10_cellsFor 2 (some .int) (.code yX10_cellsFor cX10_cellsFor 2 (some .int) :: zWs) rm_X10_cellsFor 0 0 1 :=
  cwV 1 hz (z_gV w622 w623 w624 w56 w625) rfl rfl rfl (by decide +kernel) hR
theorem cw_L_97 {R : Room} {s : State} {args : Array Value} (hz : ∀ w ∈ zWs, w.before args s = true) (hR : rm_X11_cellsFor.frames + 1 ≤ R.frames ∧ 8 + (3 + 11) + rm_X11_cellsFor.locals ≤ R.locals) : CallW R s args RL RX11 97 yX11_cellsFor cX11_cellsFor 3 (some .int) (.code yX11_cellsFor cX11_cellsFor 3 (some .int) :: zWs) rm_X11_cellsFor 0 0 1 :=
  cwV 1 hz (z_gV w1021 w1022 w1023 w67 w1024) rfl rfl rfl (by decide +kernel) hR
theorem cw_L_98 {R : Room} {s : State} {args : Array Value} (hz : ∀ w ∈ zWs, w.before args s = true) (hR : rm_X10_sits.frames + 1 ≤ R.frames ∧ 8 + (6 + 11) + rm_X10_sits.locals ≤ R.locals) : CallW R s args RL RX10 98 yX10_sits cX10_sits 6 (some .int) (.code yX10_sits cX10_sits 6 (some .int) :: zWs) rm_X10_sits 0 0 3 :=
  cwV 3 hz (z_gV w630 w631 w632 w56 w633) rfl rfl rfl (by decide +kernel) hR
theorem cw_X10_100 {R : Room} {s : State} {args : Array Value} (hz : ∀ w ∈ zWs, w.before args s = true) (hR : rm_X7_readInto.frames + 1 ≤ R.frames ∧ 8 + (3 + 11) + rm_X7_readInto.locals ≤ R.locals) : CallW R s args RX10 RX7 100 yX7_readInto cX7_readInto 3 (some .int) (.code yX7_readInto cX7_readInto 3 (some .int) :: zWs) rm_X7_readInto 0 0 1 :=
  cwV 1 hz (z_gV w376 w377 w378 w57 w379) rfl rfl rfl (by decide +kernel) hR
theorem cw_X10_107 {R : Room} {s : State} {args : Array Value} (hz : ∀ w ∈ zWs, w.before args s = true) (hR : rm_X10_isSuspect.frames + 1 ≤ R.frames ∧ 8 + (2 + 11) + rm_X10_isSuspect.locals ≤ R.locals) : CallW R s args RX10 RX10 107 yX10_isSuspect cX10_isSuspect 2 (some .boolean) (.code yX10_isSuspect cX10_isSuspect 2 (some .boolean) :: zWs) rm_X10_isSuspect 0 0 1 :=
  cwV 1 hz (z_gV w435 w437 w7 w56 w438) rfl rfl rfl (by decide +kernel) hR
theorem cw_X10_111 {R : Room} {s : State} {args : Array Value} (hz : ∀ w ∈ zWs, w.before args s = true) (hR : rm_X10_weighNow.frames + 1 ≤ R.frames ∧ 8 + (1 + 11) + rm_X10_weighNow.locals ≤ R.locals) : CallW R s args RX10 RX10 111 yX10_weighNow cX10_weighNow 1 none (.code yX10_weighNow cX10_weighNow 1 none :: zWs) rm_X10_weighNow 0 0 0 :=
  cwV 0 hz (z_gV w439 w441 w8 w56 w442) rfl rfl rfl (by decide +kernel) hR
theorem cw_X10_126 {R : Room} {s : State} {args : Array Value} (hz : ∀ w ∈ zWs, w.before args s = true) (hR : rm_X10_isFact.frames + 1 ≤ R.frames ∧ 8 + (2 + 11) + rm_X10_isFact.locals ≤ R.locals) : CallW R s args RX10 RX10 126 yX10_isFact cX10_isFact 2 (some .boolean) (.code yX10_isFact cX10_isFact 2 (some .boolean) :: zWs) rm_X10_isFact 0 0 1 :=
  cwV 1 hz (z_gV w482 w484 w10 w56 w485) rfl rfl rfl (by decide +kernel) hR
theorem cw_X10_138 {R : Room} {s : State} {args : Array Value} (hz : ∀ w ∈ zWs, w.before args s = true) (hR : rm_X10_bit.frames + 1 ≤ R.frames ∧ 8 + (2 + 11) + rm_X10_bit.locals ≤ R.locals) : CallB R s args RX10 138 yX10_bit cX10_bit 2 (some .int) (.code yX10_bit cX10_bit 2 (some .int) :: zWs) rm_X10_bit 0 0 2 ∧ (Cond.static yX10_bit).before args s = true :=
  va_cwS 2 hz (z_gS w486 w451 w56 w452) rfl rfl rfl (by decide +kernel) hR
theorem cw_X10_146 {R : Room} {s : State} {args : Array Value} (hz : ∀ w ∈ zWs, w.before args s = true) (hR : rm_X10_isAlibi.frames + 1 ≤ R.frames ∧ 8 + (2 + 11) + rm_X10_isAlibi.locals ≤ R.locals) : CallW R s args RX10 RX10 146 yX10_isAlibi cX10_isAlibi 2 (some .boolean) (.code yX10_isAlibi cX10_isAlibi 2 (some .boolean) :: zWs) rm_X10_isAlibi 0 0 1 :=
  cwV 1 hz (z_gV w496 w498 w11 w56 w499) rfl rfl rfl (by decide +kernel) hR
theorem cw_X10_164 {R : Room} {s : State} {args : Array Value} (hz : ∀ w ∈ zWs, w.before args s = true) (hR : rm_X6_remember.frames + 1 ≤ R.frames ∧ 8 + (1 + 11) + rm_X6_remember.locals ≤ R.locals) : CallW R s args RX10 RX6 164 yX6_remember cX6_remember 1 none (.code yX6_remember cX6_remember 1 none :: zWs) rm_X6_remember 0 0 0 :=
  cwV 0 hz (z_gV w504 w505 w506 w59 w507) rfl rfl rfl (by decide +kernel) hR
theorem cw_X10_167 {R : Room} {s : State} {args : Array Value} (hz : ∀ w ∈ zWs, w.before args s = true) (hR : rm_X10_caseNow.frames + 1 ≤ R.frames ∧ 8 + (1 + 11) + rm_X10_caseNow.locals ≤ R.locals) : CallW R s args RX10 RX10 167 yX10_caseNow cX10_caseNow 1 (some .int) (.code yX10_caseNow cX10_caseNow 1 (some .int) :: zWs) rm_X10_caseNow 0 0 0 :=
  cwV 0 hz (z_gV w511 w513 w12 w56 w514) rfl rfl rfl (by decide +kernel) hR
theorem cw_X10_175 {R : Room} {s : State} {args : Array Value} (hz : ∀ w ∈ zWs, w.before args s = true) (hR : rm_X6_stepBack.frames + 1 ≤ R.frames ∧ 8 + (1 + 11) + rm_X6_stepBack.locals ≤ R.locals) : CallW R s args RX10 RX6 175 yX6_stepBack cX6_stepBack 1 none (.code yX6_stepBack cX6_stepBack 1 none :: zWs) rm_X6_stepBack 0 0 0 :=
  cwV 0 hz (z_gV w527 w528 w529 w59 w530) rfl rfl rfl (by decide +kernel) hR
theorem cw_X10_181 {R : Room} {s : State} {args : Array Value} (hz : ∀ w ∈ zWs, w.before args s = true) (hR : rm_X10_commonDivisor.frames + 1 ≤ R.frames ∧ 8 + (6 + 11) + rm_X10_commonDivisor.locals ≤ R.locals) : CallB R s args RX10 181 yX10_commonDivisor cX10_commonDivisor 6 (some .int) (.code yX10_commonDivisor cX10_commonDivisor 6 (some .int) :: zWs) rm_X10_commonDivisor 0 0 2 ∧ (Cond.static yX10_commonDivisor).before args s = true :=
  va_cwS 2 hz (z_gS w535 w536 w56 w537) rfl rfl rfl (by decide +kernel) hR
theorem cw_X10_184 {R : Room} {s : State} {args : Array Value} (hz : ∀ w ∈ zWs, w.before args s = true) (hR : rm_X5_allServe.frames + 1 ≤ R.frames ∧ 8 + (3 + 11) + rm_X5_allServe.locals ≤ R.locals) : CallW R s args RX10 RX5 184 yX5_allServe cX5_allServe 3 (some .int) (.code yX5_allServe cX5_allServe 3 (some .int) :: zWs) rm_X5_allServe 0 0 0 :=
  cwV 0 hz (z_gV w543 w544 w545 w58 w546) rfl rfl rfl (by decide +kernel) hR
theorem cw_X10_187 {R : Room} {s : State} {args : Array Value} (hz : ∀ w ∈ zWs, w.before args s = true) (hR : rm_X10_isFraction.frames + 1 ≤ R.frames ∧ 8 + (2 + 11) + rm_X10_isFraction.locals ≤ R.locals) : CallB R s args RX10 187 yX10_isFraction cX10_isFraction 2 (some .boolean) (.code yX10_isFraction cX10_isFraction 2 (some .boolean) :: zWs) rm_X10_isFraction 0 0 2 ∧ (Cond.static yX10_isFraction).before args s = true :=
  va_cwS 2 hz (z_gS w551 w552 w56 w553) rfl rfl rfl (by decide +kernel) hR
theorem cw_X10_191 {R : Room} {s : State} {args : Array Value} (hz : ∀ w ∈ zWs, w.before args s = true) (hR : rm_X10_cheapest.frames + 1 ≤ R.frames ∧ 8 + (10 + 11) + rm_X10_cheapest.locals ≤ R.locals) : CallW R s args RX10 RX10 191 yX10_cheapest cX10_cheapest 10 (some .int) (.code yX10_cheapest cX10_cheapest 10 (some .int) :: zWs) rm_X10_cheapest 0 0 4 :=
  cwV 4 hz (z_gV w554 w556 w13 w56 w557) rfl rfl rfl (by decide +kernel) hR
theorem cw_X10_195 {R : Room} {s : State} {args : Array Value} (hz : ∀ w ∈ zWs, w.before args s = true) (hR : rm_X10_costOrSet.frames + 1 ≤ R.frames ∧ 8 + (3 + 11) + rm_X10_costOrSet.locals ≤ R.locals) : CallW R s args RX10 RX10 195 yX10_costOrSet cX10_costOrSet 3 (some .int) (.code yX10_costOrSet cX10_costOrSet 3 (some .int) :: zWs) rm_X10_costOrSet 0 0 2 :=
  cwV 2 hz (z_gV w569 w571 w14 w56 w572) rfl rfl rfl (by decide +kernel) hR
theorem cw_X10_209 {R : Room} {s : State} {args : Array Value} (hz : ∀ w ∈ zWs, w.before args s = true) (hR : rm_X10_isNoMore.frames + 1 ≤ R.frames ∧ 8 + (4 + 11) + rm_X10_isNoMore.locals ≤ R.locals) : CallB R s args RX10 209 yX10_isNoMore cX10_isNoMore 4 (some .boolean) (.code yX10_isNoMore cX10_isNoMore 4 (some .boolean) :: zWs) rm_X10_isNoMore 0 0 4 ∧ (Cond.static yX10_isNoMore).before args s = true :=
  va_cwS 4 hz (z_gS w566 w567 w56 w568) rfl rfl rfl (by decide +kernel) hR
theorem cw_X10_213 {R : Room} {s : State} {args : Array Value} (hz : ∀ w ∈ zWs, w.before args s = true) (hR : rm_X10_matchClashers.frames + 1 ≤ R.frames ∧ 8 + (4 + 11) + rm_X10_matchClashers.locals ≤ R.locals) : CallW R s args RX10 RX10 213 yX10_matchClashers cX10_matchClashers 4 (some .int) (.code yX10_matchClashers cX10_matchClashers 4 (some .int) :: zWs) rm_X10_matchClashers 0 0 0 :=
  cwV 0 hz (z_gV w585 w587 w15 w56 w588) rfl rfl rfl (by decide +kernel) hR
theorem cw_X10_216 {R : Room} {s : State} {args : Array Value} (hz : ∀ w ∈ zWs, w.before args s = true) (hR : rm_X10_fewestFalse.frames + 1 ≤ R.frames ∧ 8 + (3 + 11) + rm_X10_fewestFalse.locals ≤ R.locals) : CallW R s args RX10 RX10 216 yX10_fewestFalse cX10_fewestFalse 3 (some .int) (.code yX10_fewestFalse cX10_fewestFalse 3 (some .int) :: zWs) rm_X10_fewestFalse 0 0 0 :=
  cwV 0 hz (z_gV w593 w595 w16 w56 w596) rfl rfl rfl (by decide +kernel) hR
theorem cw_X10_222 {R : Room} {s : State} {args : Array Value} (hz : ∀ w ∈ zWs, w.before args s = true) (hR : rm_X10_firstGainer.frames + 1 ≤ R.frames ∧ 8 + (3 + 11) + rm_X10_firstGainer.locals ≤ R.locals) : CallW R s args RX10 RX10 222 yX10_firstGainer cX10_firstGainer 3 (some .int) (.code yX10_firstGainer cX10_firstGainer 3 (some .int) :: zWs) rm_X10_firstGainer 0 0 1 :=
  cwV 1 hz (z_gV w606 w608 w18 w56 w609) rfl rfl rfl (by decide +kernel) hR
theorem cw_X10_226 {R : Room} {s : State} {args : Array Value} (hz : ∀ w ∈ zWs, w.before args s = true) (hR : rm_X10_cellsNeeded.frames + 1 ≤ R.frames ∧ 8 + (3 + 11) + rm_X10_cellsNeeded.locals ≤ R.locals) : CallW R s args RX10 RX10 226 yX10_cellsNeeded cX10_cellsNeeded 3 (some .int) (.code yX10_cellsNeeded cX10_cellsNeeded 3 (some .int) :: zWs) rm_X10_cellsNeeded 0 0 1 :=
  cwV 1 hz (z_gV w626 w628 w21 w56 w629) rfl rfl rfl (by decide +kernel) hR
theorem cw_X10_229 {R : Room} {s : State} {args : Array Value} (hz : ∀ w ∈ zWs, w.before args s = true) (hR : rm_X10_wrongTo.frames + 1 ≤ R.frames ∧ 8 + (3 + 11) + rm_X10_wrongTo.locals ≤ R.locals) : CallW R s args RX10 RX10 229 yX10_wrongTo cX10_wrongTo 3 (some .int) (.code yX10_wrongTo cX10_wrongTo 3 (some .int) :: zWs) rm_X10_wrongTo 0 0 1 :=
  cwV 1 hz (z_gV w638 w640 w22 w56 w641) rfl rfl rfl (by decide +kernel) hR
theorem cw_X10_235 {R : Room} {s : State} {args : Array Value} (hz : ∀ w ∈ zWs, w.before args s = true) (hR : rm_X5_countHours.frames + 1 ≤ R.frames ∧ 8 + (7 + 11) + rm_X5_countHours.locals ≤ R.locals) : CallW R s args RX10 RX5 235 yX5_countHours cX5_countHours 7 none (.code yX5_countHours cX5_countHours 7 none :: zWs) rm_X5_countHours 0 0 2 :=
  cwV 2 hz (z_gV w443 w444 w445 w58 w446) rfl rfl rfl (by decide +kernel) hR
theorem cw_X10_240 {R : Room} {s : State} {args : Array Value} (hz : ∀ w ∈ zWs, w.before args s = true) (hR : rm_X10_fitsBook.frames + 1 ≤ R.frames ∧ 8 + (3 + 11) + rm_X10_fitsBook.locals ≤ R.locals) : CallW R s args RX10 RX10 240 yX10_fitsBook cX10_fitsBook 3 (some .boolean) (.code yX10_fitsBook cX10_fitsBook 3 (some .boolean) :: zWs) rm_X10_fitsBook 0 0 1 :=
  cwV 1 hz (z_gV w658 w660 w23 w56 w661) rfl rfl rfl (by decide +kernel) hR
theorem cw_X10_243 {R : Room} {s : State} {args : Array Value} (hz : ∀ w ∈ zWs, w.before args s = true) (hR : rm_X5_heldBy.frames + 1 ≤ R.frames ∧ 8 + (6 + 11) + rm_X5_heldBy.locals ≤ R.locals) : CallW R s args RX10 RX5 243 yX5_heldBy cX5_heldBy 6 (some .int) (.code yX5_heldBy cX5_heldBy 6 (some .int) :: zWs) rm_X5_heldBy 0 0 3 :=
  cwV 3 hz (z_gV w666 w464 w465 w58 w466) rfl rfl rfl (by decide +kernel) hR
theorem cw_X10_247 {R : Room} {s : State} {args : Array Value} (hz : ∀ w ∈ zWs, w.before args s = true) (hR : rm_X0_markOf.frames + 1 ≤ R.frames ∧ 8 + (3 + 11) + rm_X0_markOf.locals ≤ R.locals) : CallW R s args RX10 RX0 247 yX0_markOf cX0_markOf 3 (some .int) (.code yX0_markOf cX0_markOf 3 (some .int) :: zWs) rm_X0_markOf 0 0 2 :=
  cwV 2 hz (z_gV w671 w672 w673 w60 w701) rfl rfl rfl (by decide +kernel) hR
theorem cw_X10_247_X2 {R : Room} {s : State} {args : Array Value} (hz : ∀ w ∈ zWs, w.before args s = true) (hR : rm_X2_markOf.frames + 1 ≤ R.frames ∧ 8 + (3 + 11) + rm_X2_markOf.locals ≤ R.locals) : va_CU R s args RX10 RX2 RX0 247 yX0_markOf yX2_markOf cX2_markOf 3 (some .int) (.code yX2_markOf cX2_markOf 3 (some .int) :: zWs) rm_X2_markOf 0 0 2 :=
  va_cwO 2 hz (z_gO (x := yX0_markOf) (owner := RX0) w671 w674 w672 w675 w676 w63 w677) rfl rfl rfl w701 (by decide +kernel) hR
theorem cw_X10_247_X3 {R : Room} {s : State} {args : Array Value} (hz : ∀ w ∈ zWs, w.before args s = true) (hR : rm_X3_markOf.frames + 1 ≤ R.frames ∧ 8 + (3 + 11) + rm_X3_markOf.locals ≤ R.locals) : va_CU R s args RX10 RX3 RX0 247 yX0_markOf yX3_markOf cX3_markOf 3 (some .int) (.code yX3_markOf cX3_markOf 3 (some .int) :: zWs) rm_X3_markOf 0 0 2 :=
  va_cwO 2 hz (z_gO (x := yX0_markOf) (owner := RX0) w671 w674 w672 w684 w685 w64 w686) rfl rfl rfl w701 (by decide +kernel) hR
theorem cw_X10_247_X4 {R : Room} {s : State} {args : Array Value} (hz : ∀ w ∈ zWs, w.before args s = true) (hR : rm_X4_markOf.frames + 1 ≤ R.frames ∧ 8 + (3 + 11) + rm_X4_markOf.locals ≤ R.locals) : va_CU R s args RX10 RX4 RX0 247 yX0_markOf yX4_markOf cX4_markOf 3 (some .int) (.code yX4_markOf cX4_markOf 3 (some .int) :: zWs) rm_X4_markOf 0 0 2 :=
  va_cwO 2 hz (z_gO (x := yX0_markOf) (owner := RX0) w671 w674 w672 w693 w694 w65 w695) rfl rfl rfl w701 (by decide +kernel) hR
theorem cw_X10_247_X8 {R : Room} {s : State} {args : Array Value} (hz : ∀ w ∈ zWs, w.before args s = true) (hR : rm_X8_markOf.frames + 1 ≤ R.frames ∧ 8 + (3 + 11) + rm_X8_markOf.locals ≤ R.locals) : va_CU R s args RX10 RX8 RX0 247 yX0_markOf yX8_markOf cX8_markOf 3 (some .int) (.code yX8_markOf cX8_markOf 3 (some .int) :: zWs) rm_X8_markOf 0 0 2 :=
  va_cwO 2 hz (z_gO (x := yX0_markOf) (owner := RX0) w671 w674 w672 w699 w680 w61 w681) rfl rfl rfl w701 (by decide +kernel) hR
theorem cw_X10_247_X9 {R : Room} {s : State} {args : Array Value} (hz : ∀ w ∈ zWs, w.before args s = true) (hR : rm_X9_markOf.frames + 1 ≤ R.frames ∧ 8 + (5 + 11) + rm_X9_markOf.locals ≤ R.locals) : va_CU R s args RX10 RX9 RX0 247 yX0_markOf yX9_markOf cX9_markOf 5 (some .int) (.code yX9_markOf cX9_markOf 5 (some .int) :: zWs) rm_X9_markOf 0 0 2 :=
  va_cwO 2 hz (z_gO (x := yX0_markOf) (owner := RX0) w671 w674 w672 w700 w689 w62 w690) rfl rfl rfl w701 (by decide +kernel) hR
theorem cw_X10_251 {R : Room} {s : State} {args : Array Value} (hz : ∀ w ∈ zWs, w.before args s = true) (hR : rm_X6_become.frames + 1 ≤ R.frames ∧ 8 + (2 + 11) + rm_X6_become.locals ≤ R.locals) : CallW R s args RX10 RX6 251 yX6_become cX6_become 2 none (.code yX6_become cX6_become 2 none :: zWs) rm_X6_become 0 0 1 :=
  cwV 1 hz (z_gV w706 w707 w708 w59 w709) rfl rfl rfl (by decide +kernel) hR
theorem cw_X10_260 {R : Room} {s : State} {args : Array Value} (hz : ∀ w ∈ zWs, w.before args s = true) (hR : rm_X5_weigh.frames + 1 ≤ R.frames ∧ 8 + (4 + 11) + rm_X5_weigh.locals ≤ R.locals) : CallW R s args RX10 RX5 260 yX5_weigh cX5_weigh 4 none (.code yX5_weigh cX5_weigh 4 none :: zWs) rm_X5_weigh 0 0 2 :=
  cwV 2 hz (z_gV w459 w460 w461 w58 w462) rfl rfl rfl (by decide +kernel) hR
theorem cw_X10_263 {R : Room} {s : State} {args : Array Value} (hz : ∀ w ∈ zWs, w.before args s = true) (hR : rm_X5_sentence.frames + 1 ≤ R.frames ∧ 8 + (4 + 11) + rm_X5_sentence.locals ≤ R.locals) : CallW R s args RX10 RX5 263 yX5_sentence cX5_sentence 4 none (.code yX5_sentence cX5_sentence 4 none :: zWs) rm_X5_sentence 0 0 1 :=
  cwV 1 hz (z_gV w470 w471 w472 w58 w473) rfl rfl rfl (by decide +kernel) hR
theorem cw_X10_266 {R : Room} {s : State} {args : Array Value} (hz : ∀ w ∈ zWs, w.before args s = true) (hR : rm_X1_costOf.frames + 1 ≤ R.frames ∧ 8 + (4 + 11) + rm_X1_costOf.locals ≤ R.locals) : CallW R s args RX10 RX1 266 yX1_costOf cX1_costOf 4 (some .int) (.code yX1_costOf cX1_costOf 4 (some .int) :: zWs) rm_X1_costOf 0 0 1 :=
  cwV 1 hz (z_gV w558 w559 w560 w66 w561) rfl rfl rfl (by decide +kernel) hR
theorem cw_X10_269 {R : Room} {s : State} {args : Array Value} (hz : ∀ w ∈ zWs, w.before args s = true) (hR : rm_X10_isNoLess.frames + 1 ≤ R.frames ∧ 8 + (4 + 11) + rm_X10_isNoLess.locals ≤ R.locals) : CallB R s args RX10 269 yX10_isNoLess cX10_isNoLess 4 (some .boolean) (.code yX10_isNoLess cX10_isNoLess 4 (some .boolean) :: zWs) rm_X10_isNoLess 0 0 4 ∧ (Cond.static yX10_isNoLess).before args s = true :=
  va_cwS 4 hz (z_gS w563 w564 w56 w565) rfl rfl rfl (by decide +kernel) hR
theorem cw_X10_272 {R : Room} {s : State} {args : Array Value} (hz : ∀ w ∈ zWs, w.before args s = true) (hR : rm_X1_doClash.frames + 1 ≤ R.frames ∧ 8 + (3 + 11) + rm_X1_doClash.locals ≤ R.locals) : CallW R s args RX10 RX1 272 yX1_doClash cX1_doClash 3 (some .boolean) (.code yX1_doClash cX1_doClash 3 (some .boolean) :: zWs) rm_X1_doClash 0 0 2 :=
  cwV 2 hz (z_gV w589 w590 w591 w66 w592) rfl rfl rfl (by decide +kernel) hR
theorem cw_X10_275 {R : Room} {s : State} {args : Array Value} (hz : ∀ w ∈ zWs, w.before args s = true) (hR : rm_J6_bitCount_0f7a4.frames + 1 ≤ R.frames ∧ 8 + (1 + 11) + rm_J6_bitCount_0f7a4.locals ≤ R.locals) : CallB R s args RX10 275 yJ6_bitCount_0f7a4 cJ6_bitCount_0f7a4 1 (some .int) (.code yJ6_bitCount_0f7a4 cJ6_bitCount_0f7a4 1 (some .int) :: zWs) rm_J6_bitCount_0f7a4 0 0 1 ∧ (Cond.static yJ6_bitCount_0f7a4).before args s = true :=
  va_cwS 1 hz (z_gS w597 w454 w69 w455) rfl rfl rfl (by decide +kernel) hR
theorem cw_X10_280 {R : Room} {s : State} {args : Array Value} (hz : ∀ w ∈ zWs, w.before args s = true) (hR : rm_X10_leavesNoClash.frames + 1 ≤ R.frames ∧ 8 + (3 + 11) + rm_X10_leavesNoClash.locals ≤ R.locals) : CallW R s args RX10 RX10 280 yX10_leavesNoClash cX10_leavesNoClash 3 (some .boolean) (.code yX10_leavesNoClash cX10_leavesNoClash 3 (some .boolean) :: zWs) rm_X10_leavesNoClash 0 0 1 :=
  cwV 1 hz (z_gV w598 w600 w17 w56 w601) rfl rfl rfl (by decide +kernel) hR
theorem cw_X10_283 {R : Room} {s : State} {args : Array Value} (hz : ∀ w ∈ zWs, w.before args s = true) (hR : rm_X10_bandHeld.frames + 1 ≤ R.frames ∧ 8 + (5 + 11) + rm_X10_bandHeld.locals ≤ R.locals) : CallW R s args RX10 RX10 283 yX10_bandHeld cX10_bandHeld 5 (some .int) (.code yX10_bandHeld cX10_bandHeld 5 (some .int) :: zWs) rm_X10_bandHeld 0 0 2 :=
  cwV 2 hz (z_gV w614 w616 w20 w56 w617) rfl rfl rfl (by decide +kernel) hR
theorem cw_X10_286 {R : Room} {s : State} {args : Array Value} (hz : ∀ w ∈ zWs, w.before args s = true) (hR : rm_X10_bandDays.frames + 1 ≤ R.frames ∧ 8 + (5 + 11) + rm_X10_bandDays.locals ≤ R.locals) : CallW R s args RX10 RX10 286 yX10_bandDays cX10_bandDays 5 (some .int) (.code yX10_bandDays cX10_bandDays 5 (some .int) :: zWs) rm_X10_bandDays 0 0 2 :=
  cwV 2 hz (z_gV w610 w612 w19 w56 w613) rfl rfl rfl (by decide +kernel) hR
theorem cw_X10_80 {R : Room} {s : State} {args : Array Value} (hz : ∀ w ∈ zWs, w.before args s = true) (hR : rm_X1_beginAnew.frames + 1 ≤ R.frames ∧ 8 + (1 + 11) + rm_X1_beginAnew.locals ≤ R.locals) : CallW R s args RX10 RX1 80 yX1_beginAnew cX1_beginAnew 1 none (.code yX1_beginAnew cX1_beginAnew 1 none :: zWs) rm_X1_beginAnew 0 0 0 :=
  cwV 0 hz (z_gV w303 w304 w305 w66 w306) rfl rfl rfl (by decide +kernel) hR
theorem cw_X10_87 {R : Room} {s : State} {args : Array Value} (hz : ∀ w ∈ zWs, w.before args s = true) (hR : rm_X6_beginAnew.frames + 1 ≤ R.frames ∧ 8 + (2 + 11) + rm_X6_beginAnew.locals ≤ R.locals) : CallW R s args RX10 RX6 87 yX6_beginAnew cX6_beginAnew 2 none (.code yX6_beginAnew cX6_beginAnew 2 none :: zWs) rm_X6_beginAnew 0 0 1 :=
  cwV 1 hz (z_gV w307 w308 w309 w59 w310) rfl rfl rfl (by decide +kernel) hR
theorem cw_X10_90 {R : Room} {s : State} {args : Array Value} (hz : ∀ w ∈ zWs, w.before args s = true) (hR : rm_X10_within.frames + 1 ≤ R.frames ∧ 8 + (3 + 11) + rm_X10_within.locals ≤ R.locals) : CallB R s args RX10 90 yX10_within cX10_within 3 (some .boolean) (.code yX10_within cX10_within 3 (some .boolean) :: zWs) rm_X10_within 0 0 3 ∧ (Cond.static yX10_within).before args s = true :=
  va_cwS 3 hz (z_gS w365 w366 w56 w367) rfl rfl rfl (by decide +kernel) hR
theorem cw_X11_102 {R : Room} {s : State} {args : Array Value} (hz : ∀ w ∈ zWs, w.before args s = true) (hR : rm_X11_due.frames + 1 ≤ R.frames ∧ 8 + (3 + 11) + rm_X11_due.locals ≤ R.locals) : CallW R s args RX11 RX11 102 yX11_due cX11_due 3 (some .int) (.code yX11_due cX11_due 3 (some .int) :: zWs) rm_X11_due 0 0 1 :=
  cwV 1 hz (z_gV w853 w855 w27 w67 w856) rfl rfl rfl (by decide +kernel) hR
theorem cw_X11_113 {R : Room} {s : State} {args : Array Value} (hz : ∀ w ∈ zWs, w.before args s = true) (hR : rm_X11_number.frames + 1 ≤ R.frames ∧ 8 + (3 + 11) + rm_X11_number.locals ≤ R.locals) : CallW R s args RX11 RX11 113 yX11_number cX11_number 3 (some .int) (.code yX11_number cX11_number 3 (some .int) :: zWs) rm_X11_number 0 0 2 :=
  cwV 2 hz (z_gV w861 w863 w29 w67 w864) rfl rfl rfl (by decide +kernel) hR
theorem cw_X11_117 {R : Room} {s : State} {args : Array Value} (hz : ∀ w ∈ zWs, w.before args s = true) (hR : rm_X11_readFact.frames + 1 ≤ R.frames ∧ 8 + (3 + 11) + rm_X11_readFact.locals ≤ R.locals) : CallW R s args RX11 RX11 117 yX11_readFact cX11_readFact 3 none (.code yX11_readFact cX11_readFact 3 none :: zWs) rm_X11_readFact 0 0 0 :=
  cwV 0 hz (z_gV w865 w867 w30 w67 w868) rfl rfl rfl (by decide +kernel) hR
theorem cw_X11_123 {R : Room} {s : State} {args : Array Value} (hz : ∀ w ∈ zWs, w.before args s = true) (hR : rm_X11_mayBe.frames + 1 ≤ R.frames ∧ 8 + (2 + 11) + rm_X11_mayBe.locals ≤ R.locals) : CallW R s args RX11 RX11 123 yX11_mayBe cX11_mayBe 2 (some .boolean) (.code yX11_mayBe cX11_mayBe 2 (some .boolean) :: zWs) rm_X11_mayBe 0 0 1 :=
  cwV 1 hz (z_gV w849 w851 w26 w67 w852) rfl rfl rfl (by decide +kernel) hR
theorem cw_X11_127 {R : Room} {s : State} {args : Array Value} (hz : ∀ w ∈ zWs, w.before args s = true) (hR : rm_X11_readRow.frames + 1 ≤ R.frames ∧ 8 + (3 + 11) + rm_X11_readRow.locals ≤ R.locals) : CallW R s args RX11 RX11 127 yX11_readRow cX11_readRow 3 none (.code yX11_readRow cX11_readRow 3 none :: zWs) rm_X11_readRow 0 0 1 :=
  cwV 1 hz (z_gV w857 w859 w28 w67 w860) rfl rfl rfl (by decide +kernel) hR
theorem cw_X11_131 {R : Room} {s : State} {args : Array Value} (hz : ∀ w ∈ zWs, w.before args s = true) (hR : rm_X11_take.frames + 1 ≤ R.frames ∧ 8 + (3 + 11) + rm_X11_take.locals ≤ R.locals) : CallW R s args RX11 RX11 131 yX11_take cX11_take 3 none (.code yX11_take cX11_take 3 none :: zWs) rm_X11_take 0 0 0 :=
  cwV 0 hz (z_gV w869 w871 w31 w67 w872) rfl rfl rfl (by decide +kernel) hR
theorem cw_X11_137 {R : Room} {s : State} {args : Array Value} (hz : ∀ w ∈ zWs, w.before args s = true) (hR : rm_X11_hoursOf.frames + 1 ≤ R.frames ∧ 8 + (6 + 11) + rm_X11_hoursOf.locals ≤ R.locals) : CallW R s args RX11 RX11 137 yX11_hoursOf cX11_hoursOf 6 (some .int) (.code yX11_hoursOf cX11_hoursOf 6 (some .int) :: zWs) rm_X11_hoursOf 0 0 1 :=
  cwV 1 hz (z_gV w893 w895 w36 w67 w896) rfl rfl rfl (by decide +kernel) hR
theorem cw_X11_144 {R : Room} {s : State} {args : Array Value} (hz : ∀ w ∈ zWs, w.before args s = true) (hR : rm_X11_heldBy.frames + 1 ≤ R.frames ∧ 8 + (5 + 11) + rm_X11_heldBy.locals ≤ R.locals) : CallW R s args RX11 RX11 144 yX11_heldBy cX11_heldBy 5 (some .int) (.code yX11_heldBy cX11_heldBy 5 (some .int) :: zWs) rm_X11_heldBy 0 0 2 :=
  cwV 2 hz (z_gV w889 w891 w35 w67 w892) rfl rfl rfl (by decide +kernel) hR
theorem cw_X11_147 {R : Room} {s : State} {args : Array Value} (hz : ∀ w ∈ zWs, w.before args s = true) (hR : rm_X11_hold.frames + 1 ≤ R.frames ∧ 8 + (3 + 11) + rm_X11_hold.locals ≤ R.locals) : CallW R s args RX11 RX11 147 yX11_hold cX11_hold 3 none (.code yX11_hold cX11_hold 3 none :: zWs) rm_X11_hold 0 0 1 :=
  cwV 1 hz (z_gV w885 w887 w34 w67 w888) rfl rfl rfl (by decide +kernel) hR
theorem cw_X11_150 {R : Room} {s : State} {args : Array Value} (hz : ∀ w ∈ zWs, w.before args s = true) (hR : rm_X11_serve.frames + 1 ≤ R.frames ∧ 8 + (6 + 11) + rm_X11_serve.locals ≤ R.locals) : CallW R s args RX11 RX11 150 yX11_serve cX11_serve 6 none (.code yX11_serve cX11_serve 6 none :: zWs) rm_X11_serve 0 0 0 :=
  cwV 0 hz (z_gV w897 w899 w37 w67 w900) rfl rfl rfl (by decide +kernel) hR
theorem cw_X11_153 {R : Room} {s : State} {args : Array Value} (hz : ∀ w ∈ zWs, w.before args s = true) (hR : rm_X11_isSuspect.frames + 1 ≤ R.frames ∧ 8 + (2 + 11) + rm_X11_isSuspect.locals ≤ R.locals) : CallW R s args RX11 RX11 153 yX11_isSuspect cX11_isSuspect 2 (some .boolean) (.code yX11_isSuspect cX11_isSuspect 2 (some .boolean) :: zWs) rm_X11_isSuspect 0 0 1 :=
  cwV 1 hz (z_gV w877 w879 w32 w67 w880) rfl rfl rfl (by decide +kernel) hR
theorem cw_X11_156 {R : Room} {s : State} {args : Array Value} (hz : ∀ w ∈ zWs, w.before args s = true) (hR : rm_X11_asNow.frames + 1 ≤ R.frames ∧ 8 + (1 + 11) + rm_X11_asNow.locals ≤ R.locals) : CallW R s args RX11 RX11 156 yX11_asNow cX11_asNow 1 none (.code yX11_asNow cX11_asNow 1 none :: zWs) rm_X11_asNow 0 0 0 :=
  cwV 0 hz (z_gV w881 w883 w33 w67 w884) rfl rfl rfl (by decide +kernel) hR
theorem cw_X11_159 {R : Room} {s : State} {args : Array Value} (hz : ∀ w ∈ zWs, w.before args s = true) (hR : rm_X11_isFact.frames + 1 ≤ R.frames ∧ 8 + (2 + 11) + rm_X11_isFact.locals ≤ R.locals) : CallW R s args RX11 RX11 159 yX11_isFact cX11_isFact 2 (some .boolean) (.code yX11_isFact cX11_isFact 2 (some .boolean) :: zWs) rm_X11_isFact 0 0 1 :=
  cwV 1 hz (z_gV w905 w907 w38 w67 w908) rfl rfl rfl (by decide +kernel) hR
theorem cw_X11_163 {R : Room} {s : State} {args : Array Value} (hz : ∀ w ∈ zWs, w.before args s = true) (hR : rm_X11_isAlibi.frames + 1 ≤ R.frames ∧ 8 + (2 + 11) + rm_X11_isAlibi.locals ≤ R.locals) : CallW R s args RX11 RX11 163 yX11_isAlibi cX11_isAlibi 2 (some .boolean) (.code yX11_isAlibi cX11_isAlibi 2 (some .boolean) :: zWs) rm_X11_isAlibi 0 0 1 :=
  cwV 1 hz (z_gV w918 w920 w39 w67 w921) rfl rfl rfl (by decide +kernel) hR
theorem cw_X11_166 {R : Room} {s : State} {args : Array Value} (hz : ∀ w ∈ zWs, w.before args s = true) (hR : rm_X11_know.frames + 1 ≤ R.frames ∧ 8 + (2 + 11) + rm_X11_know.locals ≤ R.locals) : CallW R s args RX11 RX11 166 yX11_know cX11_know 2 none (.code yX11_know cX11_know 2 none :: zWs) rm_X11_know 0 0 0 :=
  cwV 0 hz (z_gV w926 w928 w40 w67 w929) rfl rfl rfl (by decide +kernel) hR
theorem cw_X11_169 {R : Room} {s : State} {args : Array Value} (hz : ∀ w ∈ zWs, w.before args s = true) (hR : rm_X11_theCase.frames + 1 ≤ R.frames ∧ 8 + (1 + 11) + rm_X11_theCase.locals ≤ R.locals) : CallW R s args RX11 RX11 169 yX11_theCase cX11_theCase 1 (some .int) (.code yX11_theCase cX11_theCase 1 (some .int) :: zWs) rm_X11_theCase 0 0 0 :=
  cwV 0 hz (z_gV w930 w932 w41 w67 w933) rfl rfl rfl (by decide +kernel) hR
theorem cw_X11_172 {R : Room} {s : State} {args : Array Value} (hz : ∀ w ∈ zWs, w.before args s = true) (hR : rm_X11_allServe.frames + 1 ≤ R.frames ∧ 8 + (3 + 11) + rm_X11_allServe.locals ≤ R.locals) : CallW R s args RX11 RX11 172 yX11_allServe cX11_allServe 3 (some .int) (.code yX11_allServe cX11_allServe 3 (some .int) :: zWs) rm_X11_allServe 0 0 0 :=
  cwV 0 hz (z_gV w954 w956 w42 w67 w957) rfl rfl rfl (by decide +kernel) hR
theorem cw_X11_175 {R : Room} {s : State} {args : Array Value} (hz : ∀ w ∈ zWs, w.before args s = true) (hR : rm_X11_costOf.frames + 1 ≤ R.frames ∧ 8 + (4 + 11) + rm_X11_costOf.locals ≤ R.locals) : CallW R s args RX11 RX11 175 yX11_costOf cX11_costOf 4 (some .int) (.code yX11_costOf cX11_costOf 4 (some .int) :: zWs) rm_X11_costOf 0 0 1 :=
  cwV 1 hz (z_gV w970 w972 w45 w67 w973) rfl rfl rfl (by decide +kernel) hR
theorem cw_X11_178 {R : Room} {s : State} {args : Array Value} (hz : ∀ w ∈ zWs, w.before args s = true) (hR : rm_X11_isSo.frames + 1 ≤ R.frames ∧ 8 + (5 + 11) + rm_X11_isSo.locals ≤ R.locals) : CallW R s args RX11 RX11 178 yX11_isSo cX11_isSo 5 (some .boolean) (.code yX11_isSo cX11_isSo 5 (some .boolean) :: zWs) rm_X11_isSo 0 0 4 :=
  cwV 4 hz (z_gV w974 w976 w46 w67 w977) rfl rfl rfl (by decide +kernel) hR
theorem cw_X11_182 {R : Room} {s : State} {args : Array Value} (hz : ∀ w ∈ zWs, w.before args s = true) (hR : rm_X11_isShare.frames + 1 ≤ R.frames ∧ 8 + (4 + 11) + rm_X11_isShare.locals ≤ R.locals) : CallW R s args RX11 RX11 182 yX11_isShare cX11_isShare 4 (some .boolean) (.code yX11_isShare cX11_isShare 4 (some .boolean) :: zWs) rm_X11_isShare 0 0 3 :=
  cwV 3 hz (z_gV w962 w964 w43 w67 w965) rfl rfl rfl (by decide +kernel) hR
theorem cw_X11_185 {R : Room} {s : State} {args : Array Value} (hz : ∀ w ∈ zWs, w.before args s = true) (hR : rm_X11_cheapest.frames + 1 ≤ R.frames ∧ 8 + (7 + 11) + rm_X11_cheapest.locals ≤ R.locals) : CallW R s args RX11 RX11 185 yX11_cheapest cX11_cheapest 7 (some .int) (.code yX11_cheapest cX11_cheapest 7 (some .int) :: zWs) rm_X11_cheapest 0 0 4 :=
  cwV 4 hz (z_gV w966 w968 w44 w67 w969) rfl rfl rfl (by decide +kernel) hR
theorem cw_X11_189 {R : Room} {s : State} {args : Array Value} (hz : ∀ w ∈ zWs, w.before args s = true) (hR : rm_X11_clashes.frames + 1 ≤ R.frames ∧ 8 + (3 + 11) + rm_X11_clashes.locals ≤ R.locals) : CallW R s args RX11 RX11 189 yX11_clashes cX11_clashes 3 (some .boolean) (.code yX11_clashes cX11_clashes 3 (some .boolean) :: zWs) rm_X11_clashes 0 0 2 :=
  cwV 2 hz (z_gV w990 w992 w47 w67 w993) rfl rfl rfl (by decide +kernel) hR
theorem cw_X11_193 {R : Room} {s : State} {args : Array Value} (hz : ∀ w ∈ zWs, w.before args s = true) (hR : rm_X11_manyOf.frames + 1 ≤ R.frames ∧ 8 + (3 + 11) + rm_X11_manyOf.locals ≤ R.locals) : CallB R s args RX11 193 yX11_manyOf cX11_manyOf 3 (some .int) (.code yX11_manyOf cX11_manyOf 3 (some .int) :: zWs) rm_X11_manyOf 0 0 1 ∧ (Cond.static yX11_manyOf).before args s = true :=
  va_cwS 1 hz (z_gS w994 w995 w67 w996) rfl rfl rfl (by decide +kernel) hR
theorem cw_X11_196 {R : Room} {s : State} {args : Array Value} (hz : ∀ w ∈ zWs, w.before args s = true) (hR : rm_X11_hasClash.frames + 1 ≤ R.frames ∧ 8 + (5 + 11) + rm_X11_hasClash.locals ≤ R.locals) : CallW R s args RX11 RX11 196 yX11_hasClash cX11_hasClash 5 (some .boolean) (.code yX11_hasClash cX11_hasClash 5 (some .boolean) :: zWs) rm_X11_hasClash 0 0 1 :=
  cwV 1 hz (z_gV w997 w999 w48 w67 w1000) rfl rfl rfl (by decide +kernel) hR
theorem cw_X11_199 {R : Room} {s : State} {args : Array Value} (hz : ∀ w ∈ zWs, w.before args s = true) (hR : rm_X11_bandHeld.frames + 1 ≤ R.frames ∧ 8 + (5 + 11) + rm_X11_bandHeld.locals ≤ R.locals) : CallW R s args RX11 RX11 199 yX11_bandHeld cX11_bandHeld 5 (some .int) (.code yX11_bandHeld cX11_bandHeld 5 (some .int) :: zWs) rm_X11_bandHeld 0 0 2 :=
  cwV 2 hz (z_gV w1013 w1015 w51 w67 w1016) rfl rfl rfl (by decide +kernel) hR
theorem cw_X11_202 {R : Room} {s : State} {args : Array Value} (hz : ∀ w ∈ zWs, w.before args s = true) (hR : rm_X11_bandDays.frames + 1 ≤ R.frames ∧ 8 + (5 + 11) + rm_X11_bandDays.locals ≤ R.locals) : CallW R s args RX11 RX11 202 yX11_bandDays cX11_bandDays 5 (some .int) (.code yX11_bandDays cX11_bandDays 5 (some .int) :: zWs) rm_X11_bandDays 0 0 2 :=
  cwV 2 hz (z_gV w1009 w1011 w50 w67 w1012) rfl rfl rfl (by decide +kernel) hR
theorem cw_X11_205 {R : Room} {s : State} {args : Array Value} (hz : ∀ w ∈ zWs, w.before args s = true) (hR : rm_X11_firstWhoGains.frames + 1 ≤ R.frames ∧ 8 + (3 + 11) + rm_X11_firstWhoGains.locals ≤ R.locals) : CallW R s args RX11 RX11 205 yX11_firstWhoGains cX11_firstWhoGains 3 (some .int) (.code yX11_firstWhoGains cX11_firstWhoGains 3 (some .int) :: zWs) rm_X11_firstWhoGains 0 0 1 :=
  cwV 1 hz (z_gV w1005 w1007 w49 w67 w1008) rfl rfl rfl (by decide +kernel) hR
theorem cw_X11_208 {R : Room} {s : State} {args : Array Value} (hz : ∀ w ∈ zWs, w.before args s = true) (hR : rm_X11_fitsIn.frames + 1 ≤ R.frames ∧ 8 + (4 + 11) + rm_X11_fitsIn.locals ≤ R.locals) : CallW R s args RX11 RX11 208 yX11_fitsIn cX11_fitsIn 4 (some .boolean) (.code yX11_fitsIn cX11_fitsIn 4 (some .boolean) :: zWs) rm_X11_fitsIn 0 0 1 :=
  cwV 1 hz (z_gV w1025 w1027 w52 w67 w1028) rfl rfl rfl (by decide +kernel) hR
theorem cw_X11_211 {R : Room} {s : State} {args : Array Value} (hz : ∀ w ∈ zWs, w.before args s = true) (hR : rm_X11_byOther.frames + 1 ≤ R.frames ∧ 8 + (3 + 11) + rm_X11_byOther.locals ≤ R.locals) : CallW R s args RX11 RX11 211 yX11_byOther cX11_byOther 3 (some .int) (.code yX11_byOther cX11_byOther 3 (some .int) :: zWs) rm_X11_byOther 0 0 1 :=
  cwV 1 hz (z_gV w1037 w1039 w53 w67 w1040) rfl rfl rfl (by decide +kernel) hR
theorem cw_X11_228 {R : Room} {s : State} {args : Array Value} (hz : ∀ w ∈ zWs, w.before args s = true) (hR : rm_X11_copy.frames + 1 ≤ R.frames ∧ 8 + (4 + 11) + rm_X11_copy.locals ≤ R.locals) : CallW R s args RX11 RX11 228 yX11_copy cX11_copy 4 none (.code yX11_copy cX11_copy 4 none :: zWs) rm_X11_copy 0 0 2 :=
  cwV 2 hz (z_gV w1070 w1072 w54 w67 w1073) rfl rfl rfl (by decide +kernel) hR
theorem cw_X11_72 {R : Room} {s : State} {args : Array Value} (hz : ∀ w ∈ zWs, w.before args s = true) (hR : rm_X11_in.frames + 1 ≤ R.frames ∧ 8 + (3 + 11) + rm_X11_in.locals ≤ R.locals) : CallB R s args RX11 72 yX11_in cX11_in 3 (some .boolean) (.code yX11_in cX11_in 3 (some .boolean) :: zWs) rm_X11_in 0 0 3 ∧ (Cond.static yX11_in).before args s = true :=
  va_cwS 3 hz (z_gS w830 w831 w67 w832) rfl rfl rfl (by decide +kernel) hR
theorem cw_X11_83 {R : Room} {s : State} {args : Array Value} (hz : ∀ w ∈ zWs, w.before args s = true) (hR : rm_X11_here.frames + 1 ≤ R.frames ∧ 8 + (1 + 11) + rm_X11_here.locals ≤ R.locals) : CallW R s args RX11 RX11 83 yX11_here cX11_here 1 (some .int) (.code yX11_here cX11_here 1 (some .int) :: zWs) rm_X11_here 0 0 0 :=
  cwV 0 hz (z_gV w845 w847 w25 w67 w848) rfl rfl rfl (by decide +kernel) hR
theorem cw_X11_99 {R : Room} {s : State} {args : Array Value} (hz : ∀ w ∈ zWs, w.before args s = true) (hR : rm_X11_next.frames + 1 ≤ R.frames ∧ 8 + (2 + 11) + rm_X11_next.locals ≤ R.locals) : CallW R s args RX11 RX11 99 yX11_next cX11_next 2 none (.code yX11_next cX11_next 2 none :: zWs) rm_X11_next 0 0 0 :=
  cwV 0 hz (z_gV w841 w843 w24 w67 w844) rfl rfl rfl (by decide +kernel) hR
theorem cw_X1_58 {R : Room} {s : State} {args : Array Value} (hz : ∀ w ∈ zWs, w.before args s = true) (hN : zNw s) (hR : rm_X10_bit.frames + 1 ≤ R.frames ∧ 8 + (2 + 11) + rm_X10_bit.locals ≤ R.locals) : va_CN R s args RX1 58 yX10_bit "FifthsOfGuilt" cX10_bit 2 (some .int) (.code yX10_bit cX10_bit 2 (some .int) :: zWs) rm_X10_bit 0 0 2 ∧ (Cond.static yX10_bit).before args s = true ∧ True :=
  ⟨va_cnB 2 hz (z_gC w452) rfl rfl rfl (hN _ (by decide +kernel)) (hz _ w56) (by decide +kernel) hR, hz _ w451, trivial⟩
theorem cw_X2_15 {R : Room} {s : State} {args : Array Value} (hz : ∀ w ∈ zWs, w.before args s = true) (hR : rm_X8_markOf.frames + 1 ≤ R.frames ∧ 8 + (3 + 11) + rm_X8_markOf.locals ≤ R.locals) : va_CS R s args RX2 15 yX8_markOf cX8_markOf 3 (some .int) (.code yX8_markOf cX8_markOf 3 (some .int) :: zWs) rm_X8_markOf 0 0 2 :=
  va_cwSU 2 hz (z_gU w679 w1086 w203 w680 w61 w681) rfl rfl rfl (by decide +kernel) hR
theorem cw_X3_15 {R : Room} {s : State} {args : Array Value} (hz : ∀ w ∈ zWs, w.before args s = true) (hR : rm_X9_markOf.frames + 1 ≤ R.frames ∧ 8 + (5 + 11) + rm_X9_markOf.locals ≤ R.locals) : va_CS R s args RX3 15 yX9_markOf cX9_markOf 5 (some .int) (.code yX9_markOf cX9_markOf 5 (some .int) :: zWs) rm_X9_markOf 0 0 2 :=
  va_cwSU 2 hz (z_gU w688 w1087 w210 w689 w62 w690) rfl rfl rfl (by decide +kernel) hR
theorem cw_X4_15 {R : Room} {s : State} {args : Array Value} (hz : ∀ w ∈ zWs, w.before args s = true) (hR : rm_X0_markOf.frames + 1 ≤ R.frames ∧ 8 + (3 + 11) + rm_X0_markOf.locals ≤ R.locals) : va_CS R s args RX4 15 yX0_markOf cX0_markOf 3 (some .int) (.code yX0_markOf cX0_markOf 3 (some .int) :: zWs) rm_X0_markOf 0 0 2 :=
  va_cwSU 2 hz (z_gU w697 w674 w217 w672 w60 w701) rfl rfl rfl (by decide +kernel) hR
theorem cw_X4_29 {R : Room} {s : State} {args : Array Value} (hz : ∀ w ∈ zWs, w.before args s = true) (hR : rm_J6_bitCount_0f7a4.frames + 1 ≤ R.frames ∧ 8 + (1 + 11) + rm_J6_bitCount_0f7a4.locals ≤ R.locals) : CallB R s args RX4 29 yJ6_bitCount_0f7a4 cJ6_bitCount_0f7a4 1 (some .int) (.code yJ6_bitCount_0f7a4 cJ6_bitCount_0f7a4 1 (some .int) :: zWs) rm_J6_bitCount_0f7a4 0 0 1 ∧ (Cond.static yJ6_bitCount_0f7a4).before args s = true :=
  va_cwS 1 hz (z_gS w698 w454 w69 w455) rfl rfl rfl (by decide +kernel) hR
theorem cw_X5_37 {R : Room} {s : State} {args : Array Value} (hz : ∀ w ∈ zWs, w.before args s = true) (hR : rm_X5_hoursFromTo.frames + 1 ≤ R.frames ∧ 8 + (2 + 11) + rm_X5_hoursFromTo.locals ≤ R.locals) : CallB R s args RX5 37 yX5_hoursFromTo cX5_hoursFromTo 2 (some .int) (.code yX5_hoursFromTo cX5_hoursFromTo 2 (some .int) :: zWs) rm_X5_hoursFromTo 0 0 2 ∧ (Cond.static yX5_hoursFromTo).before args s = true :=
  va_cwS 2 hz (z_gS w447 w448 w58 w449) rfl rfl rfl (by decide +kernel) hR
theorem cw_X5_44 {R : Room} {s : State} {args : Array Value} (hz : ∀ w ∈ zWs, w.before args s = true) (hN : zNw s) (hR : rm_X10_bit.frames + 1 ≤ R.frames ∧ 8 + (2 + 11) + rm_X10_bit.locals ≤ R.locals) : va_CN R s args RX5 44 yX10_bit "FifthsOfGuilt" cX10_bit 2 (some .int) (.code yX10_bit cX10_bit 2 (some .int) :: zWs) rm_X10_bit 0 0 2 ∧ (Cond.static yX10_bit).before args s = true ∧ True :=
  ⟨va_cnB 2 hz (z_gC w452) rfl rfl rfl (hN _ (by decide +kernel)) (hz _ w56) (by decide +kernel) hR, hz _ w451, trivial⟩
theorem cw_X5_56 {R : Room} {s : State} {args : Array Value} (hz : ∀ w ∈ zWs, w.before args s = true) (hR : rm_J6_bitCount_0f7a4.frames + 1 ≤ R.frames ∧ 8 + (1 + 11) + rm_J6_bitCount_0f7a4.locals ≤ R.locals) : CallB R s args RX5 56 yJ6_bitCount_0f7a4 cJ6_bitCount_0f7a4 1 (some .int) (.code yJ6_bitCount_0f7a4 cJ6_bitCount_0f7a4 1 (some .int) :: zWs) rm_J6_bitCount_0f7a4 0 0 1 ∧ (Cond.static yJ6_bitCount_0f7a4).before args s = true :=
  va_cwS 1 hz (z_gS w453 w454 w69 w455) rfl rfl rfl (by decide +kernel) hR
theorem cw_X5_65 {R : Room} {s : State} {args : Array Value} (hz : ∀ w ∈ zWs, w.before args s = true) (hR : rm_X5_heldBy.frames + 1 ≤ R.frames ∧ 8 + (6 + 11) + rm_X5_heldBy.locals ≤ R.locals) : CallW R s args RX5 RX5 65 yX5_heldBy cX5_heldBy 6 (some .int) (.code yX5_heldBy cX5_heldBy 6 (some .int) :: zWs) rm_X5_heldBy 0 0 3 :=
  cwV 3 hz (z_gV w463 w464 w465 w58 w466) rfl rfl rfl (by decide +kernel) hR
theorem cw_X5_83 {R : Room} {s : State} {args : Array Value} (hz : ∀ w ∈ zWs, w.before args s = true) (hR : rm_X5_giveOneDayMore.frames + 1 ≤ R.frames ∧ 8 + (3 + 11) + rm_X5_giveOneDayMore.locals ≤ R.locals) : CallW R s args RX5 RX5 83 yX5_giveOneDayMore cX5_giveOneDayMore 3 none (.code yX5_giveOneDayMore cX5_giveOneDayMore 3 none :: zWs) rm_X5_giveOneDayMore 0 0 0 :=
  cwV 0 hz (z_gV w474 w476 w9 w58 w477) rfl rfl rfl (by decide +kernel) hR
theorem cw_X7_106 {R : Room} {s : State} {args : Array Value} (hz : ∀ w ∈ zWs, w.before args s = true) (hR : rm_X7_takeLetters.frames + 1 ≤ R.frames ∧ 8 + (2 + 11) + rm_X7_takeLetters.locals ≤ R.locals) : CallW R s args RX7 RX7 106 yX7_takeLetters cX7_takeLetters 2 none (.code yX7_takeLetters cX7_takeLetters 2 none :: zWs) rm_X7_takeLetters 0 0 0 :=
  cwV 0 hz (z_gV w386 w388 w1 w57 w389) rfl rfl rfl (by decide +kernel) hR
theorem cw_X7_109 {R : Room} {s : State} {args : Array Value} (hz : ∀ w ∈ zWs, w.before args s = true) (hR : rm_X7_takeNumber.frames + 1 ≤ R.frames ∧ 8 + (3 + 11) + rm_X7_takeNumber.locals ≤ R.locals) : CallW R s args RX7 RX7 109 yX7_takeNumber cX7_takeNumber 3 none (.code yX7_takeNumber cX7_takeNumber 3 none :: zWs) rm_X7_takeNumber 0 0 0 :=
  cwV 0 hz (z_gV w390 w392 w2 w57 w393) rfl rfl rfl (by decide +kernel) hR
theorem cw_X7_18 {R : Room} {s : State} {args : Array Value} (hz : ∀ w ∈ zWs, w.before args s = true) (hR : rm_X1_beginAnew.frames + 1 ≤ R.frames ∧ 8 + (1 + 11) + rm_X1_beginAnew.locals ≤ R.locals) : CallW R s args RX7 RX1 18 yX1_beginAnew cX1_beginAnew 1 none (.code yX1_beginAnew cX1_beginAnew 1 none :: zWs) rm_X1_beginAnew 0 0 0 :=
  cwV 0 hz (z_gV w380 w304 w305 w66 w306) rfl rfl rfl (by decide +kernel) hR
theorem cw_X7_34 {R : Room} {s : State} {args : Array Value} (hz : ∀ w ∈ zWs, w.before args s = true) (hR : rm_X7_nextToken.frames + 1 ≤ R.frames ∧ 8 + (1 + 11) + rm_X7_nextToken.locals ≤ R.locals) : CallW R s args RX7 RX7 34 yX7_nextToken cX7_nextToken 1 none (.code yX7_nextToken cX7_nextToken 1 none :: zWs) rm_X7_nextToken 0 0 0 :=
  cwV 0 hz (z_gV w381 w383 w0 w57 w384) rfl rfl rfl (by decide +kernel) hR
theorem cw_X7_40 {R : Room} {s : State} {args : Array Value} (hz : ∀ w ∈ zWs, w.before args s = true) (hR : rm_X7_readItem.frames + 1 ≤ R.frames ∧ 8 + (5 + 11) + rm_X7_readItem.locals ≤ R.locals) : CallW R s args RX7 RX7 40 yX7_readItem cX7_readItem 5 (some .boolean) (.code yX7_readItem cX7_readItem 5 (some .boolean) :: zWs) rm_X7_readItem 0 0 1 :=
  cwV 1 hz (z_gV w397 w399 w3 w57 w400) rfl rfl rfl (by decide +kernel) hR
theorem cw_X7_53 {R : Room} {s : State} {args : Array Value} (hz : ∀ w ∈ zWs, w.before args s = true) (hR : rm_X7_mayBegin.frames + 1 ≤ R.frames ∧ 8 + (3 + 11) + rm_X7_mayBegin.locals ≤ R.locals) : CallW R s args RX7 RX7 53 yX7_mayBegin cX7_mayBegin 3 (some .boolean) (.code yX7_mayBegin cX7_mayBegin 3 (some .boolean) :: zWs) rm_X7_mayBegin 0 0 2 :=
  cwV 2 hz (z_gV w401 w403 w4 w57 w404) rfl rfl rfl (by decide +kernel) hR
theorem cw_X7_57 {R : Room} {s : State} {args : Array Value} (hz : ∀ w ∈ zWs, w.before args s = true) (hR : rm_X7_numbersDue.frames + 1 ≤ R.frames ∧ 8 + (2 + 11) + rm_X7_numbersDue.locals ≤ R.locals) : CallB R s args RX7 57 yX7_numbersDue cX7_numbersDue 2 (some .int) (.code yX7_numbersDue cX7_numbersDue 2 (some .int) :: zWs) rm_X7_numbersDue 0 0 2 ∧ (Cond.static yX7_numbersDue).before args s = true :=
  va_cwS 2 hz (z_gS w405 w406 w57 w407) rfl rfl rfl (by decide +kernel) hR
theorem cw_X7_61 {R : Room} {s : State} {args : Array Value} (hz : ∀ w ∈ zWs, w.before args s = true) (hR : rm_X7_least.frames + 1 ≤ R.frames ∧ 8 + (3 + 11) + rm_X7_least.locals ≤ R.locals) : CallW R s args RX7 RX7 61 yX7_least cX7_least 3 (some .int) (.code yX7_least cX7_least 3 (some .int) :: zWs) rm_X7_least 0 0 2 :=
  cwV 2 hz (z_gV w408 w410 w5 w57 w411) rfl rfl rfl (by decide +kernel) hR
theorem cw_X7_65 {R : Room} {s : State} {args : Array Value} (hz : ∀ w ∈ zWs, w.before args s = true) (hR : rm_X7_most.frames + 1 ≤ R.frames ∧ 8 + (3 + 11) + rm_X7_most.locals ≤ R.locals) : CallB R s args RX7 65 yX7_most cX7_most 3 (some .int) (.code yX7_most cX7_most 3 (some .int) :: zWs) rm_X7_most 0 0 3 ∧ (Cond.static yX7_most).before args s = true :=
  va_cwS 3 hz (z_gS w412 w413 w57 w414) rfl rfl rfl (by decide +kernel) hR
theorem cw_X7_69 {R : Room} {s : State} {args : Array Value} (hz : ∀ w ∈ zWs, w.before args s = true) (hN : zNw s) (hR : rm_X10_within.frames + 1 ≤ R.frames ∧ 8 + (3 + 11) + rm_X10_within.locals ≤ R.locals) : va_CN R s args RX7 69 yX10_within "FifthsOfGuilt" cX10_within 3 (some .boolean) (.code yX10_within cX10_within 3 (some .boolean) :: zWs) rm_X10_within 0 0 3 ∧ (Cond.static yX10_within).before args s = true ∧ True :=
  ⟨va_cnB 3 hz (z_gC w367) rfl rfl rfl (hN _ (by decide +kernel)) (hz _ w56) (by decide +kernel) hR, hz _ w366, trivial⟩
theorem cw_X7_73 {R : Room} {s : State} {args : Array Value} (hz : ∀ w ∈ zWs, w.before args s = true) (hR : rm_X7_addItem.frames + 1 ≤ R.frames ∧ 8 + (3 + 11) + rm_X7_addItem.locals ≤ R.locals) : CallW R s args RX7 RX7 73 yX7_addItem cX7_addItem 3 none (.code yX7_addItem cX7_addItem 3 none :: zWs) rm_X7_addItem 0 0 2 :=
  cwV 2 hz (z_gV w415 w417 w6 w57 w418) rfl rfl rfl (by decide +kernel) hR
theorem cw_X7_86 {R : Room} {s : State} {args : Array Value} (hz : ∀ w ∈ zWs, w.before args s = true) (hR : rm_X1_addSuspect.frames + 1 ≤ R.frames ∧ 8 + (2 + 11) + rm_X1_addSuspect.locals ≤ R.locals) : CallW R s args RX7 RX1 86 yX1_addSuspect cX1_addSuspect 2 none (.code yX1_addSuspect cX1_addSuspect 2 none :: zWs) rm_X1_addSuspect 0 0 1 :=
  cwV 1 hz (z_gV w419 w420 w421 w66 w422) rfl rfl rfl (by decide +kernel) hR
theorem cw_X7_90 {R : Room} {s : State} {args : Array Value} (hz : ∀ w ∈ zWs, w.before args s = true) (hR : rm_X1_addFact.frames + 1 ≤ R.frames ∧ 8 + (4 + 11) + rm_X1_addFact.locals ≤ R.locals) : CallW R s args RX7 RX1 90 yX1_addFact cX1_addFact 4 none (.code yX1_addFact cX1_addFact 4 none :: zWs) rm_X1_addFact 0 0 1 :=
  cwV 1 hz (z_gV w423 w424 w425 w66 w426) rfl rfl rfl (by decide +kernel) hR
theorem cw_X7_94 {R : Room} {s : State} {args : Array Value} (hz : ∀ w ∈ zWs, w.before args s = true) (hR : rm_X1_addAlibi.frames + 1 ≤ R.frames ∧ 8 + (2 + 11) + rm_X1_addAlibi.locals ≤ R.locals) : CallW R s args RX7 RX1 94 yX1_addAlibi cX1_addAlibi 2 none (.code yX1_addAlibi cX1_addAlibi 2 none :: zWs) rm_X1_addAlibi 0 0 1 :=
  cwV 1 hz (z_gV w427 w428 w429 w66 w430) rfl rfl rfl (by decide +kernel) hR
theorem cw_X8_15 {R : Room} {s : State} {args : Array Value} (hz : ∀ w ∈ zWs, w.before args s = true) (hR : rm_X0_markOf.frames + 1 ≤ R.frames ∧ 8 + (3 + 11) + rm_X0_markOf.locals ≤ R.locals) : va_CS R s args RX8 15 yX0_markOf cX0_markOf 3 (some .int) (.code yX0_markOf cX0_markOf 3 (some .int) :: zWs) rm_X0_markOf 0 0 2 :=
  va_cwSU 2 hz (z_gU w683 w674 w189 w672 w60 w701) rfl rfl rfl (by decide +kernel) hR
theorem cw_X9_29 {R : Room} {s : State} {args : Array Value} (hz : ∀ w ∈ zWs, w.before args s = true) (hR : rm_X0_markOf.frames + 1 ≤ R.frames ∧ 8 + (3 + 11) + rm_X0_markOf.locals ≤ R.locals) : va_CS R s args RX9 29 yX0_markOf cX0_markOf 3 (some .int) (.code yX0_markOf cX0_markOf 3 (some .int) :: zWs) rm_X0_markOf 0 0 2 :=
  va_cwSU 2 hz (z_gU w692 w674 w196 w672 w60 w701) rfl rfl rfl (by decide +kernel) hR

abbrev rm_X11_clear : Room := { frames := 0, cells := 0, slots := 0, locals := 0 }
abbrev rm_X11_in : Room := { frames := 0, cells := 0, slots := 0, locals := 0 }
abbrev rm_X11_isFact : Room := { frames := 1, cells := 0, slots := 0, locals := 22 }
abbrev rm_X11_fact : Room := { frames := 2, cells := 0, slots := 0, locals := 43 }
abbrev rm_X11_isSuspect : Room := { frames := 1, cells := 0, slots := 0, locals := 22 }
abbrev rm_X11_hoursOf : Room := { frames := 1, cells := 0, slots := 0, locals := 22 }
abbrev rm_X11_heldBy : Room := { frames := 2, cells := 0, slots := 0, locals := 47 }
abbrev rm_X11_hold : Room := { frames := 3, cells := 0, slots := 0, locals := 71 }
abbrev rm_X11_serve : Room := { frames := 0, cells := 0, slots := 0, locals := 0 }
abbrev rm_X11_asNow : Room := { frames := 4, cells := 0, slots := 0, locals := 93 }
abbrev rm_X11_suspect : Room := { frames := 5, cells := 0, slots := 0, locals := 113 }
abbrev rm_X10_clear : Room := { frames := 0, cells := 0, slots := 0, locals := 0 }
abbrev rm_X10_within : Room := { frames := 0, cells := 0, slots := 0, locals := 0 }
abbrev rm_X10_isFact : Room := { frames := 1, cells := 0, slots := 0, locals := 22 }
abbrev rm_X10_bit : Room := { frames := 0, cells := 0, slots := 0, locals := 0 }
abbrev rm_X10_fact : Room := { frames := 2, cells := 0, slots := 0, locals := 43 }
abbrev rm_X10_isAlibi : Room := { frames := 1, cells := 0, slots := 0, locals := 22 }
abbrev rm_X10_alibi : Room := { frames := 2, cells := 0, slots := 0, locals := 43 }
abbrev rm_X6_stepBack : Room := { frames := 0, cells := 0, slots := 0, locals := 0 }
abbrev rm_X10_undo : Room := { frames := 1, cells := 0, slots := 0, locals := 20 }
theorem w10 : Cond.selects RX10 yX10_isFact yX10_isFact ∈ zWs := z_at 10 (by decide +kernel) rfl
theorem w11 : Cond.selects RX10 yX10_isAlibi yX10_isAlibi ∈ zWs := z_at 11 (by decide +kernel) rfl
theorem w32 : Cond.selects RX11 yX11_isSuspect yX11_isSuspect ∈ zWs := z_at 32 (by decide +kernel) rfl
theorem w33 : Cond.selects RX11 yX11_asNow yX11_asNow ∈ zWs := z_at 33 (by decide +kernel) rfl
theorem w34 : Cond.selects RX11 yX11_hold yX11_hold ∈ zWs := z_at 34 (by decide +kernel) rfl
theorem w35 : Cond.selects RX11 yX11_heldBy yX11_heldBy ∈ zWs := z_at 35 (by decide +kernel) rfl
theorem w36 : Cond.selects RX11 yX11_hoursOf yX11_hoursOf ∈ zWs := z_at 36 (by decide +kernel) rfl
theorem w37 : Cond.selects RX11 yX11_serve yX11_serve ∈ zWs := z_at 37 (by decide +kernel) rfl
theorem w38 : Cond.selects RX11 yX11_isFact yX11_isFact ∈ zWs := z_at 38 (by decide +kernel) rfl
theorem w56 : Cond.initialized RX10 ∈ zWs := z_at 56 (by decide +kernel) rfl
theorem w59 : Cond.initialized RX6 ∈ zWs := z_at 59 (by decide +kernel) rfl
theorem w67 : Cond.initialized RX11 ∈ zWs := z_at 67 (by decide +kernel) rfl
theorem w87 : Cond.fieldLink RX10 94 "FifthsOfGuilt$TextReader" "size" "I" ∈ zWs := z_at 87 (by decide +kernel) rfl
theorem w152 : Cond.fieldLink RX6 15 "FifthsOfGuilt$Standing" "facts" "I" ∈ zWs := z_at 152 (by decide +kernel) rfl
theorem w154 : Cond.fieldLink RX10 135 "FifthsOfGuilt$Standing" "facts" "I" ∈ zWs := z_at 154 (by decide +kernel) rfl
theorem w155 : Cond.fieldLink RX6 19 "FifthsOfGuilt$Standing" "alibis" "I" ∈ zWs := z_at 155 (by decide +kernel) rfl
theorem w156 : Cond.fieldLink RX10 161 "FifthsOfGuilt$Standing" "alibis" "I" ∈ zWs := z_at 156 (by decide +kernel) rfl
theorem w157 : Cond.fieldLink RX6 22 "FifthsOfGuilt$Standing" "days" "I" ∈ zWs := z_at 157 (by decide +kernel) rfl
theorem w159 : Cond.fieldLink RX6 25 "FifthsOfGuilt$Standing" "known" "I" ∈ zWs := z_at 159 (by decide +kernel) rfl
theorem w160 : Cond.fieldLink RX10 172 "FifthsOfGuilt$Standing" "known" "I" ∈ zWs := z_at 160 (by decide +kernel) rfl
theorem w161 : Cond.fieldLink RX6 9 "FifthsOfGuilt$Standing" "before" "[I" ∈ zWs := z_at 161 (by decide +kernel) rfl
theorem w231 : Cond.fieldLink RX10 239 "FifthsOfGuilt$CaseFile" "facts" "I" ∈ zWs := z_at 231 (by decide +kernel) rfl
theorem w236 : Cond.fieldLink RX10 255 "FifthsOfGuilt$CaseFile" "alibis" "I" ∈ zWs := z_at 236 (by decide +kernel) rfl
theorem w253 : Cond.fieldLink RX10 129 "FifthsOfGuilt$CaseFile" "cost" "[I" ∈ zWs := z_at 253 (by decide +kernel) rfl
theorem w255 : Cond.fieldLink RX10 132 "FifthsOfGuilt$CaseFile" "trust" "[I" ∈ zWs := z_at 255 (by decide +kernel) rfl
theorem w263 : Cond.fieldLink RX10 149 "FifthsOfGuilt$CaseFile" "alibiOf" "[I" ∈ zWs := z_at 263 (by decide +kernel) rfl
theorem w265 : Cond.fieldLink RX10 152 "FifthsOfGuilt$CaseFile" "place" "[I" ∈ zWs := z_at 265 (by decide +kernel) rfl
theorem w268 : Cond.fieldLink RX10 155 "FifthsOfGuilt$CaseFile" "from" "[I" ∈ zWs := z_at 268 (by decide +kernel) rfl
theorem w271 : Cond.fieldLink RX10 158 "FifthsOfGuilt$CaseFile" "to" "[I" ∈ zWs := z_at 271 (by decide +kernel) rfl
theorem w311 : Cond.fieldLink RX10 10 "FifthsOfGuilt" "text" "LFifthsOfGuilt$TextReader;" ∈ zWs := z_at 311 (by decide +kernel) rfl
theorem w314 : Cond.fieldLink RX10 26 "FifthsOfGuilt" "present" "LFifthsOfGuilt$Standing;" ∈ zWs := z_at 314 (by decide +kernel) rfl
theorem w330 : Cond.fieldLink RX10 73 "FifthsOfGuilt" "told" "LFifthsOfGuilt$CaseFile;" ∈ zWs := z_at 330 (by decide +kernel) rfl
theorem w365 : Cond.methodLink RX10 90 yX10_within ∈ zWs := z_at 365 (by decide +kernel) rfl
theorem w366 : Cond.static yX10_within ∈ zWs := z_at 366 (by decide +kernel) rfl
theorem w367 : Cond.code yX10_within cX10_within 3 (some .boolean) ∈ zWs := z_at 367 (by decide +kernel) rfl
theorem w451 : Cond.static yX10_bit ∈ zWs := z_at 451 (by decide +kernel) rfl
theorem w452 : Cond.code yX10_bit cX10_bit 2 (some .int) ∈ zWs := z_at 452 (by decide +kernel) rfl
theorem w482 : Cond.methodLink RX10 126 yX10_isFact ∈ zWs := z_at 482 (by decide +kernel) rfl
theorem w484 : Cond.instanceMethod yX10_isFact ∈ zWs := z_at 484 (by decide +kernel) rfl
theorem w485 : Cond.code yX10_isFact cX10_isFact 2 (some .boolean) ∈ zWs := z_at 485 (by decide +kernel) rfl
theorem w486 : Cond.methodLink RX10 138 yX10_bit ∈ zWs := z_at 486 (by decide +kernel) rfl
theorem w496 : Cond.methodLink RX10 146 yX10_isAlibi ∈ zWs := z_at 496 (by decide +kernel) rfl
theorem w498 : Cond.instanceMethod yX10_isAlibi ∈ zWs := z_at 498 (by decide +kernel) rfl
theorem w499 : Cond.code yX10_isAlibi cX10_isAlibi 2 (some .boolean) ∈ zWs := z_at 499 (by decide +kernel) rfl
theorem w527 : Cond.methodLink RX10 175 yX6_stepBack ∈ zWs := z_at 527 (by decide +kernel) rfl
theorem w528 : Cond.instanceMethod yX6_stepBack ∈ zWs := z_at 528 (by decide +kernel) rfl
theorem w529 : Cond.selects RX6 yX6_stepBack yX6_stepBack ∈ zWs := z_at 529 (by decide +kernel) rfl
theorem w530 : Cond.code yX6_stepBack cX6_stepBack 1 none ∈ zWs := z_at 530 (by decide +kernel) rfl
theorem w730 : Cond.fieldLink RX11 76 "FifthsOfGuiltModel" "typed" "I" ∈ zWs := z_at 730 (by decide +kernel) rfl
theorem w731 : Cond.fieldLink RX11 13 "FifthsOfGuiltModel" "suspects" "[I" ∈ zWs := z_at 731 (by decide +kernel) rfl
theorem w732 : Cond.fieldLink RX11 17 "FifthsOfGuiltModel" "grudge" "[I" ∈ zWs := z_at 732 (by decide +kernel) rfl
theorem w733 : Cond.fieldLink RX11 20 "FifthsOfGuiltModel" "facts" "[I" ∈ zWs := z_at 733 (by decide +kernel) rfl
theorem w734 : Cond.fieldLink RX11 23 "FifthsOfGuiltModel" "cost" "[I" ∈ zWs := z_at 734 (by decide +kernel) rfl
theorem w735 : Cond.fieldLink RX11 26 "FifthsOfGuiltModel" "trust" "[I" ∈ zWs := z_at 735 (by decide +kernel) rfl
theorem w736 : Cond.fieldLink RX11 29 "FifthsOfGuiltModel" "moves" "[I" ∈ zWs := z_at 736 (by decide +kernel) rfl
theorem w737 : Cond.fieldLink RX11 32 "FifthsOfGuiltModel" "alibis" "[I" ∈ zWs := z_at 737 (by decide +kernel) rfl
theorem w738 : Cond.fieldLink RX11 35 "FifthsOfGuiltModel" "whose" "[I" ∈ zWs := z_at 738 (by decide +kernel) rfl
theorem w740 : Cond.fieldLink RX11 41 "FifthsOfGuiltModel" "from" "[I" ∈ zWs := z_at 740 (by decide +kernel) rfl
theorem w741 : Cond.fieldLink RX11 44 "FifthsOfGuiltModel" "to" "[I" ∈ zWs := z_at 741 (by decide +kernel) rfl
theorem w742 : Cond.fieldLink RX11 47 "FifthsOfGuiltModel" "deedFrom" "[I" ∈ zWs := z_at 742 (by decide +kernel) rfl
theorem w743 : Cond.fieldLink RX11 50 "FifthsOfGuiltModel" "deedTo" "[I" ∈ zWs := z_at 743 (by decide +kernel) rfl
theorem w752 : Cond.fieldLink RX11 53 "FifthsOfGuiltModel" "now" "[I" ∈ zWs := z_at 752 (by decide +kernel) rfl
theorem w754 : Cond.fieldLink RX11 60 "FifthsOfGuiltModel" "held" "[I" ∈ zWs := z_at 754 (by decide +kernel) rfl
theorem w755 : Cond.fieldLink RX11 141 "FifthsOfGuiltModel" "whole" "I" ∈ zWs := z_at 755 (by decide +kernel) rfl
theorem w756 : Cond.fieldLink RX11 63 "FifthsOfGuiltModel" "serves" "[I" ∈ zWs := z_at 756 (by decide +kernel) rfl
theorem w830 : Cond.methodLink RX11 72 yX11_in ∈ zWs := z_at 830 (by decide +kernel) rfl
theorem w831 : Cond.static yX11_in ∈ zWs := z_at 831 (by decide +kernel) rfl
theorem w832 : Cond.code yX11_in cX11_in 3 (some .boolean) ∈ zWs := z_at 832 (by decide +kernel) rfl
theorem w877 : Cond.methodLink RX11 153 yX11_isSuspect ∈ zWs := z_at 877 (by decide +kernel) rfl
theorem w879 : Cond.instanceMethod yX11_isSuspect ∈ zWs := z_at 879 (by decide +kernel) rfl
theorem w880 : Cond.code yX11_isSuspect cX11_isSuspect 2 (some .boolean) ∈ zWs := z_at 880 (by decide +kernel) rfl
theorem w881 : Cond.methodLink RX11 156 yX11_asNow ∈ zWs := z_at 881 (by decide +kernel) rfl
theorem w883 : Cond.instanceMethod yX11_asNow ∈ zWs := z_at 883 (by decide +kernel) rfl
theorem w884 : Cond.code yX11_asNow cX11_asNow 1 none ∈ zWs := z_at 884 (by decide +kernel) rfl
theorem w885 : Cond.methodLink RX11 147 yX11_hold ∈ zWs := z_at 885 (by decide +kernel) rfl
theorem w887 : Cond.instanceMethod yX11_hold ∈ zWs := z_at 887 (by decide +kernel) rfl
theorem w888 : Cond.code yX11_hold cX11_hold 3 none ∈ zWs := z_at 888 (by decide +kernel) rfl
theorem w889 : Cond.methodLink RX11 144 yX11_heldBy ∈ zWs := z_at 889 (by decide +kernel) rfl
theorem w891 : Cond.instanceMethod yX11_heldBy ∈ zWs := z_at 891 (by decide +kernel) rfl
theorem w892 : Cond.code yX11_heldBy cX11_heldBy 5 (some .int) ∈ zWs := z_at 892 (by decide +kernel) rfl
theorem w893 : Cond.methodLink RX11 137 yX11_hoursOf ∈ zWs := z_at 893 (by decide +kernel) rfl
theorem w895 : Cond.instanceMethod yX11_hoursOf ∈ zWs := z_at 895 (by decide +kernel) rfl
theorem w896 : Cond.code yX11_hoursOf cX11_hoursOf 6 (some .int) ∈ zWs := z_at 896 (by decide +kernel) rfl
theorem w897 : Cond.methodLink RX11 150 yX11_serve ∈ zWs := z_at 897 (by decide +kernel) rfl
theorem w899 : Cond.instanceMethod yX11_serve ∈ zWs := z_at 899 (by decide +kernel) rfl
theorem w900 : Cond.code yX11_serve cX11_serve 6 none ∈ zWs := z_at 900 (by decide +kernel) rfl
theorem w905 : Cond.methodLink RX11 159 yX11_isFact ∈ zWs := z_at 905 (by decide +kernel) rfl
theorem w907 : Cond.instanceMethod yX11_isFact ∈ zWs := z_at 907 (by decide +kernel) rfl
theorem w908 : Cond.code yX11_isFact cX11_isFact 2 (some .boolean) ∈ zWs := z_at 908 (by decide +kernel) rfl
theorem gk_0_2 : gok (0 : Int32) 2 = true := by decide +kernel
theorem gk_0_102 : gok (0 : Int32) 102 = true := by decide +kernel
theorem gk_1_102 : gok (1 : Int32) 102 = true := by decide +kernel
theorem gk_2_102 : gok (2 : Int32) 102 = true := by decide +kernel
theorem nz_10 : ¬ (10 : Int32) = 0 := by decide
theorem cw_X10_126 {R : Room} {s : State} {args : Array Value} (hz : ∀ w ∈ zWs, w.before args s = true) (hR : rm_X10_isFact.frames + 1 ≤ R.frames ∧ 8 + (2 + 11) + rm_X10_isFact.locals ≤ R.locals) : CallW R s args RX10 RX10 126 yX10_isFact cX10_isFact 2 (some .boolean) (.code yX10_isFact cX10_isFact 2 (some .boolean) :: zWs) rm_X10_isFact 0 0 1 :=
  cwV 1 hz (z_gV w482 w484 w10 w56 w485) rfl rfl rfl (by decide +kernel) hR
theorem cw_X10_138 {R : Room} {s : State} {args : Array Value} (hz : ∀ w ∈ zWs, w.before args s = true) (hR : rm_X10_bit.frames + 1 ≤ R.frames ∧ 8 + (2 + 11) + rm_X10_bit.locals ≤ R.locals) : CallB R s args RX10 138 yX10_bit cX10_bit 2 (some .int) (.code yX10_bit cX10_bit 2 (some .int) :: zWs) rm_X10_bit 0 0 2 ∧ (Cond.static yX10_bit).before args s = true :=
  va_cwS 2 hz (z_gS w486 w451 w56 w452) rfl rfl rfl (by decide +kernel) hR
theorem cw_X10_146 {R : Room} {s : State} {args : Array Value} (hz : ∀ w ∈ zWs, w.before args s = true) (hR : rm_X10_isAlibi.frames + 1 ≤ R.frames ∧ 8 + (2 + 11) + rm_X10_isAlibi.locals ≤ R.locals) : CallW R s args RX10 RX10 146 yX10_isAlibi cX10_isAlibi 2 (some .boolean) (.code yX10_isAlibi cX10_isAlibi 2 (some .boolean) :: zWs) rm_X10_isAlibi 0 0 1 :=
  cwV 1 hz (z_gV w496 w498 w11 w56 w499) rfl rfl rfl (by decide +kernel) hR
theorem cw_X10_175 {R : Room} {s : State} {args : Array Value} (hz : ∀ w ∈ zWs, w.before args s = true) (hR : rm_X6_stepBack.frames + 1 ≤ R.frames ∧ 8 + (1 + 11) + rm_X6_stepBack.locals ≤ R.locals) : CallW R s args RX10 RX6 175 yX6_stepBack cX6_stepBack 1 none (.code yX6_stepBack cX6_stepBack 1 none :: zWs) rm_X6_stepBack 0 0 0 :=
  cwV 0 hz (z_gV w527 w528 w529 w59 w530) rfl rfl rfl (by decide +kernel) hR
theorem cw_X10_90 {R : Room} {s : State} {args : Array Value} (hz : ∀ w ∈ zWs, w.before args s = true) (hR : rm_X10_within.frames + 1 ≤ R.frames ∧ 8 + (3 + 11) + rm_X10_within.locals ≤ R.locals) : CallB R s args RX10 90 yX10_within cX10_within 3 (some .boolean) (.code yX10_within cX10_within 3 (some .boolean) :: zWs) rm_X10_within 0 0 3 ∧ (Cond.static yX10_within).before args s = true :=
  va_cwS 3 hz (z_gS w365 w366 w56 w367) rfl rfl rfl (by decide +kernel) hR
theorem cw_X11_137 {R : Room} {s : State} {args : Array Value} (hz : ∀ w ∈ zWs, w.before args s = true) (hR : rm_X11_hoursOf.frames + 1 ≤ R.frames ∧ 8 + (6 + 11) + rm_X11_hoursOf.locals ≤ R.locals) : CallW R s args RX11 RX11 137 yX11_hoursOf cX11_hoursOf 6 (some .int) (.code yX11_hoursOf cX11_hoursOf 6 (some .int) :: zWs) rm_X11_hoursOf 0 0 1 :=
  cwV 1 hz (z_gV w893 w895 w36 w67 w896) rfl rfl rfl (by decide +kernel) hR
theorem cw_X11_144 {R : Room} {s : State} {args : Array Value} (hz : ∀ w ∈ zWs, w.before args s = true) (hR : rm_X11_heldBy.frames + 1 ≤ R.frames ∧ 8 + (5 + 11) + rm_X11_heldBy.locals ≤ R.locals) : CallW R s args RX11 RX11 144 yX11_heldBy cX11_heldBy 5 (some .int) (.code yX11_heldBy cX11_heldBy 5 (some .int) :: zWs) rm_X11_heldBy 0 0 2 :=
  cwV 2 hz (z_gV w889 w891 w35 w67 w892) rfl rfl rfl (by decide +kernel) hR
theorem cw_X11_147 {R : Room} {s : State} {args : Array Value} (hz : ∀ w ∈ zWs, w.before args s = true) (hR : rm_X11_hold.frames + 1 ≤ R.frames ∧ 8 + (3 + 11) + rm_X11_hold.locals ≤ R.locals) : CallW R s args RX11 RX11 147 yX11_hold cX11_hold 3 none (.code yX11_hold cX11_hold 3 none :: zWs) rm_X11_hold 0 0 1 :=
  cwV 1 hz (z_gV w885 w887 w34 w67 w888) rfl rfl rfl (by decide +kernel) hR
theorem cw_X11_150 {R : Room} {s : State} {args : Array Value} (hz : ∀ w ∈ zWs, w.before args s = true) (hR : rm_X11_serve.frames + 1 ≤ R.frames ∧ 8 + (6 + 11) + rm_X11_serve.locals ≤ R.locals) : CallW R s args RX11 RX11 150 yX11_serve cX11_serve 6 none (.code yX11_serve cX11_serve 6 none :: zWs) rm_X11_serve 0 0 0 :=
  cwV 0 hz (z_gV w897 w899 w37 w67 w900) rfl rfl rfl (by decide +kernel) hR
theorem cw_X11_153 {R : Room} {s : State} {args : Array Value} (hz : ∀ w ∈ zWs, w.before args s = true) (hR : rm_X11_isSuspect.frames + 1 ≤ R.frames ∧ 8 + (2 + 11) + rm_X11_isSuspect.locals ≤ R.locals) : CallW R s args RX11 RX11 153 yX11_isSuspect cX11_isSuspect 2 (some .boolean) (.code yX11_isSuspect cX11_isSuspect 2 (some .boolean) :: zWs) rm_X11_isSuspect 0 0 1 :=
  cwV 1 hz (z_gV w877 w879 w32 w67 w880) rfl rfl rfl (by decide +kernel) hR
theorem cw_X11_156 {R : Room} {s : State} {args : Array Value} (hz : ∀ w ∈ zWs, w.before args s = true) (hR : rm_X11_asNow.frames + 1 ≤ R.frames ∧ 8 + (1 + 11) + rm_X11_asNow.locals ≤ R.locals) : CallW R s args RX11 RX11 156 yX11_asNow cX11_asNow 1 none (.code yX11_asNow cX11_asNow 1 none :: zWs) rm_X11_asNow 0 0 0 :=
  cwV 0 hz (z_gV w881 w883 w33 w67 w884) rfl rfl rfl (by decide +kernel) hR
theorem cw_X11_159 {R : Room} {s : State} {args : Array Value} (hz : ∀ w ∈ zWs, w.before args s = true) (hR : rm_X11_isFact.frames + 1 ≤ R.frames ∧ 8 + (2 + 11) + rm_X11_isFact.locals ≤ R.locals) : CallW R s args RX11 RX11 159 yX11_isFact cX11_isFact 2 (some .boolean) (.code yX11_isFact cX11_isFact 2 (some .boolean) :: zWs) rm_X11_isFact 0 0 1 :=
  cwV 1 hz (z_gV w905 w907 w38 w67 w908) rfl rfl rfl (by decide +kernel) hR
theorem cw_X11_72 {R : Room} {s : State} {args : Array Value} (hz : ∀ w ∈ zWs, w.before args s = true) (hR : rm_X11_in.frames + 1 ≤ R.frames ∧ 8 + (3 + 11) + rm_X11_in.locals ≤ R.locals) : CallB R s args RX11 72 yX11_in cX11_in 3 (some .boolean) (.code yX11_in cX11_in 3 (some .boolean) :: zWs) rm_X11_in 0 0 3 ∧ (Cond.static yX11_in).before args s = true :=
  va_cwS 3 hz (z_gS w830 w831 w67 w832) rfl rfl rfl (by decide +kernel) hR

/-! words of the tables, by their places; printed by program -/
def sm_tbl : List Cond := lw_tbl.filter goodWord
theorem sm_in {w : Cond} (h : w ∈ lw_tbl) (g : goodWord w = true) : w ∈ sm_tbl := List.mem_filter.mpr ⟨h, g⟩
theorem sm_good {w : Cond} (h : w ∈ sm_tbl) : w ∈ lw_tbl ∧ goodWord w = true := List.mem_filter.mp h
theorem wm_0 : Cond.initialized RL ∈ sm_tbl := sm_in (List.mem_append_right _ (List.mem_of_getElem? (i := 0) (by decide +kernel))) rfl
theorem wm_1 : Cond.initialized RX7 ∈ sm_tbl := sm_in (List.mem_append_right _ (List.mem_of_getElem? (i := 1) (by decide +kernel))) rfl
theorem wm_2 : Cond.initialized RX0 ∈ sm_tbl := sm_in (List.mem_append_right _ (List.mem_of_getElem? (i := 2) (by decide +kernel))) rfl
theorem wm_3 : Cond.initialized RX2 ∈ sm_tbl := sm_in (List.mem_append_right _ (List.mem_of_getElem? (i := 3) (by decide +kernel))) rfl
theorem wm_4 : Cond.initialized RJ7 ∈ sm_tbl := sm_in (List.mem_append_right _ (List.mem_of_getElem? (i := 4) (by decide +kernel))) rfl
theorem wm_5 : Cond.initialized RX6 ∈ sm_tbl := sm_in (List.mem_append_right _ (List.mem_of_getElem? (i := 5) (by decide +kernel))) rfl
theorem wm_6 : Cond.initialized RX3 ∈ sm_tbl := sm_in (List.mem_append_right _ (List.mem_of_getElem? (i := 6) (by decide +kernel))) rfl
theorem wm_7 : Cond.initialized RX4 ∈ sm_tbl := sm_in (List.mem_append_right _ (List.mem_of_getElem? (i := 7) (by decide +kernel))) rfl
theorem wm_8 : Cond.initialized RX5 ∈ sm_tbl := sm_in (List.mem_append_right _ (List.mem_of_getElem? (i := 8) (by decide +kernel))) rfl
theorem wm_9 : Cond.initialized RX1 ∈ sm_tbl := sm_in (List.mem_append_right _ (List.mem_of_getElem? (i := 9) (by decide +kernel))) rfl
theorem wm_10 : Cond.initialized RX8 ∈ sm_tbl := sm_in (List.mem_append_right _ (List.mem_of_getElem? (i := 10) (by decide +kernel))) rfl
theorem wm_11 : Cond.initialized RJ10 ∈ sm_tbl := sm_in (List.mem_append_right _ (List.mem_of_getElem? (i := 11) (by decide +kernel))) rfl
theorem wm_12 : Cond.initialized RJ9 ∈ sm_tbl := sm_in (List.mem_append_right _ (List.mem_of_getElem? (i := 12) (by decide +kernel))) rfl
theorem wm_13 : Cond.classLink RL 7 RX7 ∈ sm_tbl := sm_in (List.mem_append_right _ (List.mem_of_getElem? (i := 13) (by decide +kernel))) rfl
theorem wm_14 : Cond.instantiable RX7 12 ∈ sm_tbl := sm_in (List.mem_append_right _ (List.mem_of_getElem? (i := 14) (by decide +kernel))) rfl
theorem wm_15 : Cond.methodLink RL 9 yX7_init ∈ sm_tbl := sm_in (List.mem_append_right _ (List.mem_of_getElem? (i := 15) (by decide +kernel))) rfl
theorem wm_16 : Cond.instanceMethod yX7_init ∈ sm_tbl := sm_in (List.mem_append_right _ (List.mem_of_getElem? (i := 16) (by decide +kernel))) rfl
theorem wm_17 : Cond.code yX7_init cX7_init 2 none ∈ sm_tbl := sm_in (List.mem_append_right _ (List.mem_of_getElem? (i := 17) (by decide +kernel))) rfl
theorem wm_19 : Cond.methodLink RX7 1 Lib.objectInit ∈ sm_tbl := sm_in (List.mem_append_right _ (List.mem_of_getElem? (i := 18) (by decide +kernel))) rfl
theorem wm_20 : Cond.instanceMethod Lib.objectInit ∈ sm_tbl := sm_in (List.mem_append_right _ (List.mem_of_getElem? (i := 19) (by decide +kernel))) rfl
theorem wm_21 : Cond.code Lib.objectInit ⟨#[0xb1]⟩ 1 none ∈ sm_tbl := sm_in (List.mem_append_right _ (List.mem_of_getElem? (i := 20) (by decide +kernel))) rfl
theorem wm_22 : Cond.classLink RX7 7 RX0 ∈ sm_tbl := sm_in (List.mem_append_right _ (List.mem_of_getElem? (i := 21) (by decide +kernel))) rfl
theorem wm_23 : Cond.instantiable RX0 11 ∈ sm_tbl := sm_in (List.mem_append_right _ (List.mem_of_getElem? (i := 22) (by decide +kernel))) rfl
theorem wm_24 : Cond.instanceMethod yX0_init ∈ sm_tbl := sm_in (List.mem_append_right _ (List.mem_of_getElem? (i := 24) (by decide +kernel))) rfl
theorem wm_25 : Cond.code yX0_init cX0_init 1 none ∈ sm_tbl := sm_in (List.mem_append_right _ (List.mem_of_getElem? (i := 25) (by decide +kernel))) rfl
theorem wm_27 : Cond.methodLink RX0 3 Lib.objectInit ∈ sm_tbl := sm_in (List.mem_append_right _ (List.mem_of_getElem? (i := 26) (by decide +kernel))) rfl
theorem wm_28 : Cond.classLink RX0 9 RX2 ∈ sm_tbl := sm_in (List.mem_append_right _ (List.mem_of_getElem? (i := 27) (by decide +kernel))) rfl
theorem wm_29 : Cond.instantiable RX2 9 ∈ sm_tbl := sm_in (List.mem_append_right _ (List.mem_of_getElem? (i := 28) (by decide +kernel))) rfl
theorem wm_30 : Cond.methodLink RX0 11 yX2_init ∈ sm_tbl := sm_in (List.mem_append_right _ (List.mem_of_getElem? (i := 29) (by decide +kernel))) rfl
theorem wm_31 : Cond.instanceMethod yX2_init ∈ sm_tbl := sm_in (List.mem_append_right _ (List.mem_of_getElem? (i := 30) (by decide +kernel))) rfl
theorem wm_32 : Cond.code yX2_init cX2_init 1 none ∈ sm_tbl := sm_in (List.mem_append_right _ (List.mem_of_getElem? (i := 31) (by decide +kernel))) rfl
theorem wm_34 : Cond.methodLink RX2 3 Lib.objectInit ∈ sm_tbl := sm_in (List.mem_append_right _ (List.mem_of_getElem? (i := 32) (by decide +kernel))) rfl
theorem wm_35 : Cond.methodLink RX2 33 yJ7_fill_53178 ∈ sm_tbl := sm_in (List.mem_append_right _ (List.mem_of_getElem? (i := 33) (by decide +kernel))) rfl
theorem wm_36 : Cond.static yJ7_fill_53178 ∈ sm_tbl := sm_in (List.mem_append_right _ (List.mem_of_getElem? (i := 34) (by decide +kernel))) rfl
theorem wm_37 : Cond.code yJ7_fill_53178 cJ7_fill_53178 4 none ∈ sm_tbl := sm_in (List.mem_append_right _ (List.mem_of_getElem? (i := 35) (by decide +kernel))) rfl
theorem wm_39 : Cond.fieldLink RX2 9 RX2 "tracksOf" "[I" ∈ sm_tbl := sm_in (List.mem_append_right _ (List.mem_of_getElem? (i := 36) (by decide +kernel))) rfl
theorem wm_40 : Cond.fieldLink RX0 127 RX2 "tracksOf" "[I" ∈ sm_tbl := sm_in (List.mem_append_right _ (List.mem_of_getElem? (i := 37) (by decide +kernel))) rfl
theorem wm_41 : Cond.fieldLink RX7 153 RX2 "tracksOf" "[I" ∈ sm_tbl := sm_in (List.mem_append_right _ (List.mem_of_getElem? (i := 38) (by decide +kernel))) rfl
theorem wm_42 : Cond.fieldLink RX2 15 RX2 "runningOf" "[I" ∈ sm_tbl := sm_in (List.mem_append_right _ (List.mem_of_getElem? (i := 39) (by decide +kernel))) rfl
theorem wm_43 : Cond.fieldLink RX7 157 RX2 "runningOf" "[I" ∈ sm_tbl := sm_in (List.mem_append_right _ (List.mem_of_getElem? (i := 40) (by decide +kernel))) rfl
theorem wm_44 : Cond.fieldLink RX0 133 RX2 "runningOf" "[I" ∈ sm_tbl := sm_in (List.mem_append_right _ (List.mem_of_getElem? (i := 41) (by decide +kernel))) rfl
theorem wm_45 : Cond.fieldLink RX2 18 RX2 "begin" "[I" ∈ sm_tbl := sm_in (List.mem_append_right _ (List.mem_of_getElem? (i := 42) (by decide +kernel))) rfl
theorem wm_46 : Cond.fieldLink RX0 80 RX2 "begin" "[I" ∈ sm_tbl := sm_in (List.mem_append_right _ (List.mem_of_getElem? (i := 43) (by decide +kernel))) rfl
theorem wm_47 : Cond.fieldLink RX2 21 RX2 "end" "[I" ∈ sm_tbl := sm_in (List.mem_append_right _ (List.mem_of_getElem? (i := 44) (by decide +kernel))) rfl
theorem wm_48 : Cond.fieldLink RX0 97 RX2 "end" "[I" ∈ sm_tbl := sm_in (List.mem_append_right _ (List.mem_of_getElem? (i := 45) (by decide +kernel))) rfl
theorem wm_49 : Cond.fieldLink RX2 24 RX2 "earliest" "[I" ∈ sm_tbl := sm_in (List.mem_append_right _ (List.mem_of_getElem? (i := 46) (by decide +kernel))) rfl
theorem wm_50 : Cond.fieldLink RX0 83 RX2 "earliest" "[I" ∈ sm_tbl := sm_in (List.mem_append_right _ (List.mem_of_getElem? (i := 47) (by decide +kernel))) rfl
theorem wm_51 : Cond.fieldLink RX2 27 RX2 "stop" "[I" ∈ sm_tbl := sm_in (List.mem_append_right _ (List.mem_of_getElem? (i := 48) (by decide +kernel))) rfl
theorem wm_52 : Cond.fieldLink RX0 106 RX2 "stop" "[I" ∈ sm_tbl := sm_in (List.mem_append_right _ (List.mem_of_getElem? (i := 49) (by decide +kernel))) rfl
theorem wm_53 : Cond.fieldLink RX2 30 RX2 "priority" "[I" ∈ sm_tbl := sm_in (List.mem_append_right _ (List.mem_of_getElem? (i := 50) (by decide +kernel))) rfl
theorem wm_54 : Cond.fieldLink RX4 42 RX2 "priority" "[I" ∈ sm_tbl := sm_in (List.mem_append_right _ (List.mem_of_getElem? (i := 51) (by decide +kernel))) rfl
theorem wm_55 : Cond.fieldLink RX0 130 RX2 "priority" "[I" ∈ sm_tbl := sm_in (List.mem_append_right _ (List.mem_of_getElem? (i := 52) (by decide +kernel))) rfl
theorem wm_56 : Cond.fieldLink RX4 24 RX2 "shuttles" "I" ∈ sm_tbl := sm_in (List.mem_append_right _ (List.mem_of_getElem? (i := 53) (by decide +kernel))) rfl
theorem wm_57 : Cond.fieldLink RX3 25 RX2 "shuttles" "I" ∈ sm_tbl := sm_in (List.mem_append_right _ (List.mem_of_getElem? (i := 54) (by decide +kernel))) rfl
theorem wm_58 : Cond.fieldLink RX2 45 RX2 "shuttles" "I" ∈ sm_tbl := sm_in (List.mem_append_right _ (List.mem_of_getElem? (i := 55) (by decide +kernel))) rfl
theorem wm_59 : Cond.fieldLink RX0 77 RX2 "shuttles" "I" ∈ sm_tbl := sm_in (List.mem_append_right _ (List.mem_of_getElem? (i := 56) (by decide +kernel))) rfl
theorem wm_60 : Cond.fieldLink RX6 50 RX2 "shuttles" "I" ∈ sm_tbl := sm_in (List.mem_append_right _ (List.mem_of_getElem? (i := 57) (by decide +kernel))) rfl
theorem wm_61 : Cond.fieldLink RX7 140 RX2 "shuttles" "I" ∈ sm_tbl := sm_in (List.mem_append_right _ (List.mem_of_getElem? (i := 58) (by decide +kernel))) rfl
theorem wm_62 : Cond.fieldLink RX4 39 RX2 "whoGoesFirst" "I" ∈ sm_tbl := sm_in (List.mem_append_right _ (List.mem_of_getElem? (i := 59) (by decide +kernel))) rfl
theorem wm_63 : Cond.fieldLink RX2 49 RX2 "whoGoesFirst" "I" ∈ sm_tbl := sm_in (List.mem_append_right _ (List.mem_of_getElem? (i := 60) (by decide +kernel))) rfl
theorem wm_64 : Cond.fieldLink RX0 90 RX2 "whoGoesFirst" "I" ∈ sm_tbl := sm_in (List.mem_append_right _ (List.mem_of_getElem? (i := 61) (by decide +kernel))) rfl
theorem wm_65 : Cond.fieldLink RX7 144 RX2 "whoGoesFirst" "I" ∈ sm_tbl := sm_in (List.mem_append_right _ (List.mem_of_getElem? (i := 62) (by decide +kernel))) rfl
theorem wm_66 : Cond.arrayClass .int ∈ sm_tbl := sm_in (List.mem_append_right _ (List.mem_of_getElem? (i := 82) (by decide +kernel))) rfl
theorem wm_67 : Cond.classLink RX0 18 "[[I" ∈ sm_tbl := sm_in (List.mem_append_right _ (List.mem_of_getElem? (i := 83) (by decide +kernel))) rfl
theorem wm_68 : Cond.fieldLink RX0 12 RX0 "line" "LPassingTrack$Line;" ∈ sm_tbl := sm_in (List.mem_append_right _ (List.mem_of_getElem? (i := 85) (by decide +kernel))) rfl
theorem wm_69 : Cond.fieldLink RX7 16 RX0 "line" "LPassingTrack$Line;" ∈ sm_tbl := sm_in (List.mem_append_right _ (List.mem_of_getElem? (i := 86) (by decide +kernel))) rfl
theorem wm_70 : Cond.fieldLink RX4 18 RX0 "line" "LPassingTrack$Line;" ∈ sm_tbl := sm_in (List.mem_append_right _ (List.mem_of_getElem? (i := 87) (by decide +kernel))) rfl
theorem wm_71 : Cond.fieldLink RX3 19 RX0 "line" "LPassingTrack$Line;" ∈ sm_tbl := sm_in (List.mem_append_right _ (List.mem_of_getElem? (i := 88) (by decide +kernel))) rfl
theorem wm_72 : Cond.fieldLink RX6 41 RX0 "line" "LPassingTrack$Line;" ∈ sm_tbl := sm_in (List.mem_append_right _ (List.mem_of_getElem? (i := 89) (by decide +kernel))) rfl
theorem wm_73 : Cond.fieldLink RX0 20 RX0 "comes" "[[I" ∈ sm_tbl := sm_in (List.mem_append_right _ (List.mem_of_getElem? (i := 90) (by decide +kernel))) rfl
theorem wm_74 : Cond.fieldLink RX3 42 RX0 "comes" "[[I" ∈ sm_tbl := sm_in (List.mem_append_right _ (List.mem_of_getElem? (i := 91) (by decide +kernel))) rfl
theorem wm_75 : Cond.fieldLink RX7 186 RX0 "comes" "[[I" ∈ sm_tbl := sm_in (List.mem_append_right _ (List.mem_of_getElem? (i := 92) (by decide +kernel))) rfl
theorem wm_76 : Cond.fieldLink RX0 23 RX0 "leaves" "[[I" ∈ sm_tbl := sm_in (List.mem_append_right _ (List.mem_of_getElem? (i := 93) (by decide +kernel))) rfl
theorem wm_77 : Cond.fieldLink RX3 60 RX0 "leaves" "[[I" ∈ sm_tbl := sm_in (List.mem_append_right _ (List.mem_of_getElem? (i := 94) (by decide +kernel))) rfl
theorem wm_78 : Cond.fieldLink RX7 190 RX0 "leaves" "[[I" ∈ sm_tbl := sm_in (List.mem_append_right _ (List.mem_of_getElem? (i := 95) (by decide +kernel))) rfl
theorem wm_79 : Cond.fieldLink RX0 49 RX0 "last" "I" ∈ sm_tbl := sm_in (List.mem_append_right _ (List.mem_of_getElem? (i := 96) (by decide +kernel))) rfl
theorem wm_80 : Cond.fieldLink RX7 160 RX0 "last" "I" ∈ sm_tbl := sm_in (List.mem_append_right _ (List.mem_of_getElem? (i := 97) (by decide +kernel))) rfl
theorem wm_81 : Cond.fieldLink RX0 68 RX0 "stuck" "I" ∈ sm_tbl := sm_in (List.mem_append_right _ (List.mem_of_getElem? (i := 98) (by decide +kernel))) rfl
theorem wm_82 : Cond.fieldLink RX7 166 RX0 "stuck" "I" ∈ sm_tbl := sm_in (List.mem_append_right _ (List.mem_of_getElem? (i := 99) (by decide +kernel))) rfl
theorem wm_83 : Cond.fieldLink RX0 26 RX0 "station" "[I" ∈ sm_tbl := sm_in (List.mem_append_right _ (List.mem_of_getElem? (i := 100) (by decide +kernel))) rfl
theorem wm_84 : Cond.fieldLink RX0 30 RX0 "rides" "[Z" ∈ sm_tbl := sm_in (List.mem_append_right _ (List.mem_of_getElem? (i := 101) (by decide +kernel))) rfl
theorem wm_85 : Cond.fieldLink RX0 34 RX0 "due" "[I" ∈ sm_tbl := sm_in (List.mem_append_right _ (List.mem_of_getElem? (i := 102) (by decide +kernel))) rfl
theorem wm_86 : Cond.fieldLink RX0 37 RX0 "urgency" "[I" ∈ sm_tbl := sm_in (List.mem_append_right _ (List.mem_of_getElem? (i := 103) (by decide +kernel))) rfl
theorem wm_87 : Cond.fieldLink RX0 40 RX0 "busy" "[Z" ∈ sm_tbl := sm_in (List.mem_append_right _ (List.mem_of_getElem? (i := 104) (by decide +kernel))) rfl
theorem wm_88 : Cond.fieldLink RX0 43 RX0 "held" "[I" ∈ sm_tbl := sm_in (List.mem_append_right _ (List.mem_of_getElem? (i := 105) (by decide +kernel))) rfl
theorem wm_89 : Cond.arrayClass .boolean ∈ sm_tbl := sm_in (List.mem_append_right _ (List.mem_of_getElem? (i := 129) (by decide +kernel))) rfl
theorem wm_90 : Cond.classLink RX7 27 RX2 ∈ sm_tbl := sm_in (List.mem_append_right _ (List.mem_of_getElem? (i := 130) (by decide +kernel))) rfl
theorem wm_91 : Cond.methodLink RX7 29 yX2_init ∈ sm_tbl := sm_in (List.mem_append_right _ (List.mem_of_getElem? (i := 131) (by decide +kernel))) rfl
theorem wm_92 : Cond.classLink RX7 33 RX6 ∈ sm_tbl := sm_in (List.mem_append_right _ (List.mem_of_getElem? (i := 132) (by decide +kernel))) rfl
theorem wm_93 : Cond.instantiable RX6 2 ∈ sm_tbl := sm_in (List.mem_append_right _ (List.mem_of_getElem? (i := 133) (by decide +kernel))) rfl
theorem wm_94 : Cond.instanceMethod yX6_init ∈ sm_tbl := sm_in (List.mem_append_right _ (List.mem_of_getElem? (i := 135) (by decide +kernel))) rfl
theorem wm_95 : Cond.code yX6_init cX6_init 1 none ∈ sm_tbl := sm_in (List.mem_append_right _ (List.mem_of_getElem? (i := 136) (by decide +kernel))) rfl
theorem wm_97 : Cond.methodLink RX6 3 Lib.objectInit ∈ sm_tbl := sm_in (List.mem_append_right _ (List.mem_of_getElem? (i := 137) (by decide +kernel))) rfl
theorem wm_98 : Cond.fieldLink RX6 9 RX6 "reasons" "[I" ∈ sm_tbl := sm_in (List.mem_append_right _ (List.mem_of_getElem? (i := 138) (by decide +kernel))) rfl
theorem wm_99 : Cond.fieldLink RX6 15 RX6 "blames" "[I" ∈ sm_tbl := sm_in (List.mem_append_right _ (List.mem_of_getElem? (i := 139) (by decide +kernel))) rfl
theorem wm_100 : Cond.classLink RX7 40 RX3 ∈ sm_tbl := sm_in (List.mem_append_right _ (List.mem_of_getElem? (i := 145) (by decide +kernel))) rfl
theorem wm_101 : Cond.instantiable RX3 2 ∈ sm_tbl := sm_in (List.mem_append_right _ (List.mem_of_getElem? (i := 146) (by decide +kernel))) rfl
theorem wm_102 : Cond.instanceMethod yX3_init ∈ sm_tbl := sm_in (List.mem_append_right _ (List.mem_of_getElem? (i := 148) (by decide +kernel))) rfl
theorem wm_103 : Cond.code yX3_init cX3_init 1 none ∈ sm_tbl := sm_in (List.mem_append_right _ (List.mem_of_getElem? (i := 149) (by decide +kernel))) rfl
theorem wm_105 : Cond.methodLink RX3 3 Lib.objectInit ∈ sm_tbl := sm_in (List.mem_append_right _ (List.mem_of_getElem? (i := 150) (by decide +kernel))) rfl
theorem wm_106 : Cond.fieldLink RX3 9 RX3 "rows" "[I" ∈ sm_tbl := sm_in (List.mem_append_right _ (List.mem_of_getElem? (i := 151) (by decide +kernel))) rfl
theorem wm_107 : Cond.fieldLink RX3 15 RX3 "number" "I" ∈ sm_tbl := sm_in (List.mem_append_right _ (List.mem_of_getElem? (i := 152) (by decide +kernel))) rfl
theorem wm_108 : Cond.fieldLink RX7 172 RX3 "number" "I" ∈ sm_tbl := sm_in (List.mem_append_right _ (List.mem_of_getElem? (i := 153) (by decide +kernel))) rfl
theorem wm_109 : Cond.classLink RX7 47 RX4 ∈ sm_tbl := sm_in (List.mem_append_right _ (List.mem_of_getElem? (i := 159) (by decide +kernel))) rfl
theorem wm_110 : Cond.instantiable RX4 3 ∈ sm_tbl := sm_in (List.mem_append_right _ (List.mem_of_getElem? (i := 160) (by decide +kernel))) rfl
theorem wm_111 : Cond.instanceMethod yX4_init ∈ sm_tbl := sm_in (List.mem_append_right _ (List.mem_of_getElem? (i := 162) (by decide +kernel))) rfl
theorem wm_112 : Cond.code yX4_init cX4_init 1 none ∈ sm_tbl := sm_in (List.mem_append_right _ (List.mem_of_getElem? (i := 163) (by decide +kernel))) rfl
theorem wm_114 : Cond.methodLink RX4 3 Lib.objectInit ∈ sm_tbl := sm_in (List.mem_append_right _ (List.mem_of_getElem? (i := 164) (by decide +kernel))) rfl
theorem wm_115 : Cond.fieldLink RX4 9 RX4 "best" "[I" ∈ sm_tbl := sm_in (List.mem_append_right _ (List.mem_of_getElem? (i := 165) (by decide +kernel))) rfl
theorem wm_116 : Cond.fieldLink RX7 208 RX4 "best" "[I" ∈ sm_tbl := sm_in (List.mem_append_right _ (List.mem_of_getElem? (i := 166) (by decide +kernel))) rfl
theorem wm_117 : Cond.fieldLink RX4 36 RX4 "bestDelay" "I" ∈ sm_tbl := sm_in (List.mem_append_right _ (List.mem_of_getElem? (i := 167) (by decide +kernel))) rfl
theorem wm_118 : Cond.fieldLink RX7 205 RX4 "bestDelay" "I" ∈ sm_tbl := sm_in (List.mem_append_right _ (List.mem_of_getElem? (i := 168) (by decide +kernel))) rfl
theorem wm_119 : Cond.fieldLink RX4 15 RX4 "order" "[I" ∈ sm_tbl := sm_in (List.mem_append_right _ (List.mem_of_getElem? (i := 169) (by decide +kernel))) rfl
theorem wm_120 : Cond.classLink RX7 54 RX5 ∈ sm_tbl := sm_in (List.mem_append_right _ (List.mem_of_getElem? (i := 177) (by decide +kernel))) rfl
theorem wm_121 : Cond.instantiable RX5 5 ∈ sm_tbl := sm_in (List.mem_append_right _ (List.mem_of_getElem? (i := 178) (by decide +kernel))) rfl
theorem wm_122 : Cond.instanceMethod yX5_init ∈ sm_tbl := sm_in (List.mem_append_right _ (List.mem_of_getElem? (i := 180) (by decide +kernel))) rfl
theorem wm_123 : Cond.code yX5_init cX5_init 1 none ∈ sm_tbl := sm_in (List.mem_append_right _ (List.mem_of_getElem? (i := 181) (by decide +kernel))) rfl
theorem wm_125 : Cond.methodLink RX5 3 Lib.objectInit ∈ sm_tbl := sm_in (List.mem_append_right _ (List.mem_of_getElem? (i := 182) (by decide +kernel))) rfl
theorem wm_126 : Cond.fieldLink RX5 25 RX5 "length" "I" ∈ sm_tbl := sm_in (List.mem_append_right _ (List.mem_of_getElem? (i := 183) (by decide +kernel))) rfl
theorem wm_127 : Cond.fieldLink RX7 147 RX5 "length" "I" ∈ sm_tbl := sm_in (List.mem_append_right _ (List.mem_of_getElem? (i := 184) (by decide +kernel))) rfl
theorem wm_128 : Cond.fieldLink RX5 9 RX5 "text" "[C" ∈ sm_tbl := sm_in (List.mem_append_right _ (List.mem_of_getElem? (i := 185) (by decide +kernel))) rfl
theorem wm_129 : Cond.fieldLink RX5 29 RX5 "next" "I" ∈ sm_tbl := sm_in (List.mem_append_right _ (List.mem_of_getElem? (i := 186) (by decide +kernel))) rfl
theorem wm_130 : Cond.fieldLink RX5 44 RX5 "kind" "I" ∈ sm_tbl := sm_in (List.mem_append_right _ (List.mem_of_getElem? (i := 187) (by decide +kernel))) rfl
theorem wm_131 : Cond.fieldLink RX5 15 RX5 "numbers" "[I" ∈ sm_tbl := sm_in (List.mem_append_right _ (List.mem_of_getElem? (i := 188) (by decide +kernel))) rfl
theorem wm_132 : Cond.arrayClass .char ∈ sm_tbl := sm_in (List.mem_append_right _ (List.mem_of_getElem? (i := 200) (by decide +kernel))) rfl
theorem wm_133 : Cond.classLink RX7 61 RX1 ∈ sm_tbl := sm_in (List.mem_append_right _ (List.mem_of_getElem? (i := 201) (by decide +kernel))) rfl
theorem wm_134 : Cond.instantiable RX1 2 ∈ sm_tbl := sm_in (List.mem_append_right _ (List.mem_of_getElem? (i := 202) (by decide +kernel))) rfl
theorem wm_135 : Cond.methodLink RX7 63 yX1_init ∈ sm_tbl := sm_in (List.mem_append_right _ (List.mem_of_getElem? (i := 203) (by decide +kernel))) rfl
theorem wm_136 : Cond.instanceMethod yX1_init ∈ sm_tbl := sm_in (List.mem_append_right _ (List.mem_of_getElem? (i := 204) (by decide +kernel))) rfl
theorem wm_137 : Cond.code yX1_init cX1_init 2 none ∈ sm_tbl := sm_in (List.mem_append_right _ (List.mem_of_getElem? (i := 205) (by decide +kernel))) rfl
theorem wm_139 : Cond.methodLink RX1 3 Lib.objectInit ∈ sm_tbl := sm_in (List.mem_append_right _ (List.mem_of_getElem? (i := 206) (by decide +kernel))) rfl
theorem wm_140 : Cond.classLink RX1 9 RX2 ∈ sm_tbl := sm_in (List.mem_append_right _ (List.mem_of_getElem? (i := 207) (by decide +kernel))) rfl
theorem wm_141 : Cond.methodLink RX1 17 yX2_init ∈ sm_tbl := sm_in (List.mem_append_right _ (List.mem_of_getElem? (i := 209) (by decide +kernel))) rfl
theorem wm_142 : Cond.fieldLink RX1 18 RX1 "kept" "I" ∈ sm_tbl := sm_in (List.mem_append_right _ (List.mem_of_getElem? (i := 210) (by decide +kernel))) rfl
theorem wm_143 : Cond.fieldLink RX7 150 RX1 "kept" "I" ∈ sm_tbl := sm_in (List.mem_append_right _ (List.mem_of_getElem? (i := 211) (by decide +kernel))) rfl
theorem wm_144 : Cond.fieldLink RX1 11 RX1 "states" "[LPassingTrack$Line;" ∈ sm_tbl := sm_in (List.mem_append_right _ (List.mem_of_getElem? (i := 212) (by decide +kernel))) rfl
theorem wm_145 : Cond.fieldLink RX7 10 RX7 "day" "LPassingTrack$Day;" ∈ sm_tbl := sm_in (List.mem_append_right _ (List.mem_of_getElem? (i := 218) (by decide +kernel))) rfl
theorem wm_146 : Cond.fieldLink RX7 20 RX7 "line" "LPassingTrack$Line;" ∈ sm_tbl := sm_in (List.mem_append_right _ (List.mem_of_getElem? (i := 219) (by decide +kernel))) rfl
theorem wm_147 : Cond.fieldLink RX7 21 RX7 "trialDay" "LPassingTrack$Day;" ∈ sm_tbl := sm_in (List.mem_append_right _ (List.mem_of_getElem? (i := 220) (by decide +kernel))) rfl
theorem wm_148 : Cond.fieldLink RX7 24 RX7 "trial" "LPassingTrack$Line;" ∈ sm_tbl := sm_in (List.mem_append_right _ (List.mem_of_getElem? (i := 221) (by decide +kernel))) rfl
theorem wm_149 : Cond.fieldLink RX7 30 RX7 "before" "LPassingTrack$Line;" ∈ sm_tbl := sm_in (List.mem_append_right _ (List.mem_of_getElem? (i := 222) (by decide +kernel))) rfl
theorem wm_150 : Cond.fieldLink RX7 36 RX7 "waits" "LPassingTrack$Waits;" ∈ sm_tbl := sm_in (List.mem_append_right _ (List.mem_of_getElem? (i := 223) (by decide +kernel))) rfl
theorem wm_151 : Cond.fieldLink RX7 43 RX7 "meetings" "LPassingTrack$Meetings;" ∈ sm_tbl := sm_in (List.mem_append_right _ (List.mem_of_getElem? (i := 224) (by decide +kernel))) rfl
theorem wm_152 : Cond.fieldLink RX7 50 RX7 "orders" "LPassingTrack$Orders;" ∈ sm_tbl := sm_in (List.mem_append_right _ (List.mem_of_getElem? (i := 225) (by decide +kernel))) rfl
theorem wm_153 : Cond.fieldLink RX7 57 RX7 "pad" "LPassingTrack$Pad;" ∈ sm_tbl := sm_in (List.mem_append_right _ (List.mem_of_getElem? (i := 226) (by decide +kernel))) rfl
theorem wm_154 : Cond.fieldLink RX7 64 RX7 "history" "LPassingTrack$History;" ∈ sm_tbl := sm_in (List.mem_append_right _ (List.mem_of_getElem? (i := 227) (by decide +kernel))) rfl
theorem wm_155 : Cond.fieldLink RX7 68 RX7 "slots" "[LPassingTrack$Line;" ∈ sm_tbl := sm_in (List.mem_append_right _ (List.mem_of_getElem? (i := 228) (by decide +kernel))) rfl
theorem wm_156 : Cond.fieldLink RX7 72 RX7 "saved" "[Z" ∈ sm_tbl := sm_in (List.mem_append_right _ (List.mem_of_getElem? (i := 229) (by decide +kernel))) rfl
theorem wm_157 : Cond.methodLink RL 13 yX7_first ∈ sm_tbl := sm_in (List.mem_append_right _ (List.mem_of_getElem? (i := 255) (by decide +kernel))) rfl
theorem wm_158 : Cond.instanceMethod yX7_first ∈ sm_tbl := sm_in (List.mem_append_right _ (List.mem_of_getElem? (i := 256) (by decide +kernel))) rfl
theorem wm_159 : Cond.selects RX7 yX7_first yX7_first ∈ sm_tbl := sm_in (List.mem_append_right _ (List.mem_of_getElem? (i := 257) (by decide +kernel))) rfl
theorem wm_160 : Cond.code yX7_first cX7_first 2 (some .int) ∈ sm_tbl := sm_in (List.mem_append_right _ (List.mem_of_getElem? (i := 258) (by decide +kernel))) rfl
theorem wm_162 : Cond.methodLink RX7 76 yX2_copyFrom ∈ sm_tbl := sm_in (List.mem_append_right _ (List.mem_of_getElem? (i := 259) (by decide +kernel))) rfl
theorem wm_163 : Cond.instanceMethod yX2_copyFrom ∈ sm_tbl := sm_in (List.mem_append_right _ (List.mem_of_getElem? (i := 260) (by decide +kernel))) rfl
theorem wm_164 : Cond.selects RX2 yX2_copyFrom yX2_copyFrom ∈ sm_tbl := sm_in (List.mem_append_right _ (List.mem_of_getElem? (i := 261) (by decide +kernel))) rfl
theorem wm_165 : Cond.code yX2_copyFrom cX2_copyFrom 2 none ∈ sm_tbl := sm_in (List.mem_append_right _ (List.mem_of_getElem? (i := 262) (by decide +kernel))) rfl
theorem wm_167 : Cond.methodLink RX2 39 arraycopyName ∈ sm_tbl := sm_in (List.mem_append_right _ (List.mem_of_getElem? (i := 263) (by decide +kernel))) rfl
theorem wm_168 : Cond.static arraycopyName ∈ sm_tbl := sm_in (List.mem_append_right _ (List.mem_of_getElem? (i := 264) (by decide +kernel))) rfl
theorem wm_169 : Cond.native arraycopyName ∈ sm_tbl := sm_in (List.mem_append_right _ (List.mem_of_getElem? (i := 265) (by decide +kernel))) rfl
theorem wm_170 : Cond.methodLink RX7 80 yX2_setFirst ∈ sm_tbl := sm_in (List.mem_append_right _ (List.mem_of_getElem? (i := 266) (by decide +kernel))) rfl
theorem wm_171 : Cond.instanceMethod yX2_setFirst ∈ sm_tbl := sm_in (List.mem_append_right _ (List.mem_of_getElem? (i := 267) (by decide +kernel))) rfl
theorem wm_172 : Cond.selects RX2 yX2_setFirst yX2_setFirst ∈ sm_tbl := sm_in (List.mem_append_right _ (List.mem_of_getElem? (i := 268) (by decide +kernel))) rfl
theorem wm_173 : Cond.code yX2_setFirst cX2_setFirst 3 (some .int) ∈ sm_tbl := sm_in (List.mem_append_right _ (List.mem_of_getElem? (i := 269) (by decide +kernel))) rfl
theorem wm_175 : Cond.methodLink RX7 84 yX7_changed ∈ sm_tbl := sm_in (List.mem_append_right _ (List.mem_of_getElem? (i := 270) (by decide +kernel))) rfl
theorem wm_176 : Cond.instanceMethod yX7_changed ∈ sm_tbl := sm_in (List.mem_append_right _ (List.mem_of_getElem? (i := 272) (by decide +kernel))) rfl
theorem wm_177 : Cond.code yX7_changed cX7_changed 2 (some .int) ∈ sm_tbl := sm_in (List.mem_append_right _ (List.mem_of_getElem? (i := 273) (by decide +kernel))) rfl
theorem wm_179 : Cond.methodLink RX7 107 yX1_keep ∈ sm_tbl := sm_in (List.mem_append_right _ (List.mem_of_getElem? (i := 274) (by decide +kernel))) rfl
theorem wm_180 : Cond.instanceMethod yX1_keep ∈ sm_tbl := sm_in (List.mem_append_right _ (List.mem_of_getElem? (i := 275) (by decide +kernel))) rfl
theorem wm_181 : Cond.selects RX1 yX1_keep yX1_keep ∈ sm_tbl := sm_in (List.mem_append_right _ (List.mem_of_getElem? (i := 276) (by decide +kernel))) rfl
theorem wm_182 : Cond.code yX1_keep cX1_keep 2 none ∈ sm_tbl := sm_in (List.mem_append_right _ (List.mem_of_getElem? (i := 277) (by decide +kernel))) rfl
theorem wm_184 : Cond.methodLink RX1 22 yX1_dropOldest ∈ sm_tbl := sm_in (List.mem_append_right _ (List.mem_of_getElem? (i := 278) (by decide +kernel))) rfl
theorem wm_185 : Cond.instanceMethod yX1_dropOldest ∈ sm_tbl := sm_in (List.mem_append_right _ (List.mem_of_getElem? (i := 280) (by decide +kernel))) rfl
theorem wm_186 : Cond.code yX1_dropOldest cX1_dropOldest 3 none ∈ sm_tbl := sm_in (List.mem_append_right _ (List.mem_of_getElem? (i := 281) (by decide +kernel))) rfl
theorem wm_188 : Cond.methodLink RX1 25 yX2_copyFrom ∈ sm_tbl := sm_in (List.mem_append_right _ (List.mem_of_getElem? (i := 282) (by decide +kernel))) rfl
theorem wm_189 : Cond.methodLink RL 18 yX7_tracks ∈ sm_tbl := sm_in (List.mem_append_right _ (List.mem_of_getElem? (i := 283) (by decide +kernel))) rfl
theorem wm_190 : Cond.instanceMethod yX7_tracks ∈ sm_tbl := sm_in (List.mem_append_right _ (List.mem_of_getElem? (i := 284) (by decide +kernel))) rfl
theorem wm_191 : Cond.selects RX7 yX7_tracks yX7_tracks ∈ sm_tbl := sm_in (List.mem_append_right _ (List.mem_of_getElem? (i := 285) (by decide +kernel))) rfl
theorem wm_192 : Cond.code yX7_tracks cX7_tracks 3 (some .int) ∈ sm_tbl := sm_in (List.mem_append_right _ (List.mem_of_getElem? (i := 286) (by decide +kernel))) rfl
theorem wm_194 : Cond.methodLink RX7 87 yX2_setTracks ∈ sm_tbl := sm_in (List.mem_append_right _ (List.mem_of_getElem? (i := 287) (by decide +kernel))) rfl
theorem wm_195 : Cond.instanceMethod yX2_setTracks ∈ sm_tbl := sm_in (List.mem_append_right _ (List.mem_of_getElem? (i := 288) (by decide +kernel))) rfl
theorem wm_196 : Cond.selects RX2 yX2_setTracks yX2_setTracks ∈ sm_tbl := sm_in (List.mem_append_right _ (List.mem_of_getElem? (i := 289) (by decide +kernel))) rfl
theorem wm_197 : Cond.code yX2_setTracks cX2_setTracks 4 (some .int) ∈ sm_tbl := sm_in (List.mem_append_right _ (List.mem_of_getElem? (i := 290) (by decide +kernel))) rfl
theorem wm_199 : Cond.static yX7_isStation ∈ sm_tbl := sm_in (List.mem_append_right _ (List.mem_of_getElem? (i := 292) (by decide +kernel))) rfl
theorem wm_200 : Cond.code yX7_isStation cX7_isStation 1 (some .boolean) ∈ sm_tbl := sm_in (List.mem_append_right _ (List.mem_of_getElem? (i := 293) (by decide +kernel))) rfl
theorem wm_202 : Cond.methodLink RL 23 yX7_running ∈ sm_tbl := sm_in (List.mem_append_right _ (List.mem_of_getElem? (i := 294) (by decide +kernel))) rfl
theorem wm_203 : Cond.instanceMethod yX7_running ∈ sm_tbl := sm_in (List.mem_append_right _ (List.mem_of_getElem? (i := 295) (by decide +kernel))) rfl
theorem wm_204 : Cond.selects RX7 yX7_running yX7_running ∈ sm_tbl := sm_in (List.mem_append_right _ (List.mem_of_getElem? (i := 296) (by decide +kernel))) rfl
theorem wm_205 : Cond.code yX7_running cX7_running 3 (some .int) ∈ sm_tbl := sm_in (List.mem_append_right _ (List.mem_of_getElem? (i := 297) (by decide +kernel))) rfl
theorem wm_207 : Cond.methodLink RX7 91 yX2_setRunning ∈ sm_tbl := sm_in (List.mem_append_right _ (List.mem_of_getElem? (i := 298) (by decide +kernel))) rfl
theorem wm_208 : Cond.instanceMethod yX2_setRunning ∈ sm_tbl := sm_in (List.mem_append_right _ (List.mem_of_getElem? (i := 299) (by decide +kernel))) rfl
theorem wm_209 : Cond.selects RX2 yX2_setRunning yX2_setRunning ∈ sm_tbl := sm_in (List.mem_append_right _ (List.mem_of_getElem? (i := 300) (by decide +kernel))) rfl
theorem wm_210 : Cond.code yX2_setRunning cX2_setRunning 4 (some .int) ∈ sm_tbl := sm_in (List.mem_append_right _ (List.mem_of_getElem? (i := 301) (by decide +kernel))) rfl
theorem wm_212 : Cond.static yX7_isStretch ∈ sm_tbl := sm_in (List.mem_append_right _ (List.mem_of_getElem? (i := 303) (by decide +kernel))) rfl
theorem wm_213 : Cond.code yX7_isStretch cX7_isStretch 1 (some .boolean) ∈ sm_tbl := sm_in (List.mem_append_right _ (List.mem_of_getElem? (i := 304) (by decide +kernel))) rfl
theorem wm_215 : Cond.methodLink RL 27 yX7_shuttle ∈ sm_tbl := sm_in (List.mem_append_right _ (List.mem_of_getElem? (i := 305) (by decide +kernel))) rfl
theorem wm_216 : Cond.instanceMethod yX7_shuttle ∈ sm_tbl := sm_in (List.mem_append_right _ (List.mem_of_getElem? (i := 306) (by decide +kernel))) rfl
theorem wm_217 : Cond.selects RX7 yX7_shuttle yX7_shuttle ∈ sm_tbl := sm_in (List.mem_append_right _ (List.mem_of_getElem? (i := 307) (by decide +kernel))) rfl
theorem wm_218 : Cond.code yX7_shuttle cX7_shuttle 6 (some .int) ∈ sm_tbl := sm_in (List.mem_append_right _ (List.mem_of_getElem? (i := 308) (by decide +kernel))) rfl
theorem wm_220 : Cond.methodLink RX7 94 yX2_addShuttle ∈ sm_tbl := sm_in (List.mem_append_right _ (List.mem_of_getElem? (i := 309) (by decide +kernel))) rfl
theorem wm_221 : Cond.instanceMethod yX2_addShuttle ∈ sm_tbl := sm_in (List.mem_append_right _ (List.mem_of_getElem? (i := 310) (by decide +kernel))) rfl
theorem wm_222 : Cond.selects RX2 yX2_addShuttle yX2_addShuttle ∈ sm_tbl := sm_in (List.mem_append_right _ (List.mem_of_getElem? (i := 311) (by decide +kernel))) rfl
theorem wm_223 : Cond.code yX2_addShuttle cX2_addShuttle 6 (some .int) ∈ sm_tbl := sm_in (List.mem_append_right _ (List.mem_of_getElem? (i := 312) (by decide +kernel))) rfl
theorem wm_225 : Cond.methodLink RL 32 yX7_late ∈ sm_tbl := sm_in (List.mem_append_right _ (List.mem_of_getElem? (i := 313) (by decide +kernel))) rfl
theorem wm_226 : Cond.instanceMethod yX7_late ∈ sm_tbl := sm_in (List.mem_append_right _ (List.mem_of_getElem? (i := 314) (by decide +kernel))) rfl
theorem wm_227 : Cond.selects RX7 yX7_late yX7_late ∈ sm_tbl := sm_in (List.mem_append_right _ (List.mem_of_getElem? (i := 315) (by decide +kernel))) rfl
theorem wm_228 : Cond.code yX7_late cX7_late 3 (some .int) ∈ sm_tbl := sm_in (List.mem_append_right _ (List.mem_of_getElem? (i := 316) (by decide +kernel))) rfl
theorem wm_230 : Cond.methodLink RX7 98 yX2_startLater ∈ sm_tbl := sm_in (List.mem_append_right _ (List.mem_of_getElem? (i := 317) (by decide +kernel))) rfl
theorem wm_231 : Cond.instanceMethod yX2_startLater ∈ sm_tbl := sm_in (List.mem_append_right _ (List.mem_of_getElem? (i := 318) (by decide +kernel))) rfl
theorem wm_232 : Cond.selects RX2 yX2_startLater yX2_startLater ∈ sm_tbl := sm_in (List.mem_append_right _ (List.mem_of_getElem? (i := 319) (by decide +kernel))) rfl
theorem wm_233 : Cond.code yX2_startLater cX2_startLater 3 (some .int) ∈ sm_tbl := sm_in (List.mem_append_right _ (List.mem_of_getElem? (i := 320) (by decide +kernel))) rfl
theorem wm_235 : Cond.methodLink RX2 59 yX2_hasShuttle ∈ sm_tbl := sm_in (List.mem_append_right _ (List.mem_of_getElem? (i := 321) (by decide +kernel))) rfl
theorem wm_236 : Cond.instanceMethod yX2_hasShuttle ∈ sm_tbl := sm_in (List.mem_append_right _ (List.mem_of_getElem? (i := 322) (by decide +kernel))) rfl
theorem wm_237 : Cond.selects RX2 yX2_hasShuttle yX2_hasShuttle ∈ sm_tbl := sm_in (List.mem_append_right _ (List.mem_of_getElem? (i := 323) (by decide +kernel))) rfl
theorem wm_238 : Cond.code yX2_hasShuttle cX2_hasShuttle 2 (some .boolean) ∈ sm_tbl := sm_in (List.mem_append_right _ (List.mem_of_getElem? (i := 324) (by decide +kernel))) rfl
theorem wm_240 : Cond.methodLink RL 36 yX7_prefer ∈ sm_tbl := sm_in (List.mem_append_right _ (List.mem_of_getElem? (i := 325) (by decide +kernel))) rfl
theorem wm_241 : Cond.instanceMethod yX7_prefer ∈ sm_tbl := sm_in (List.mem_append_right _ (List.mem_of_getElem? (i := 326) (by decide +kernel))) rfl
theorem wm_242 : Cond.selects RX7 yX7_prefer yX7_prefer ∈ sm_tbl := sm_in (List.mem_append_right _ (List.mem_of_getElem? (i := 327) (by decide +kernel))) rfl
theorem wm_243 : Cond.code yX7_prefer cX7_prefer 3 (some .int) ∈ sm_tbl := sm_in (List.mem_append_right _ (List.mem_of_getElem? (i := 328) (by decide +kernel))) rfl
theorem wm_245 : Cond.methodLink RX7 101 yX2_setPriority ∈ sm_tbl := sm_in (List.mem_append_right _ (List.mem_of_getElem? (i := 329) (by decide +kernel))) rfl
theorem wm_246 : Cond.instanceMethod yX2_setPriority ∈ sm_tbl := sm_in (List.mem_append_right _ (List.mem_of_getElem? (i := 330) (by decide +kernel))) rfl
theorem wm_247 : Cond.selects RX2 yX2_setPriority yX2_setPriority ∈ sm_tbl := sm_in (List.mem_append_right _ (List.mem_of_getElem? (i := 331) (by decide +kernel))) rfl
theorem wm_248 : Cond.code yX2_setPriority cX2_setPriority 4 (some .int) ∈ sm_tbl := sm_in (List.mem_append_right _ (List.mem_of_getElem? (i := 332) (by decide +kernel))) rfl
theorem wm_250 : Cond.methodLink RL 40 yX7_remove ∈ sm_tbl := sm_in (List.mem_append_right _ (List.mem_of_getElem? (i := 333) (by decide +kernel))) rfl
theorem wm_251 : Cond.instanceMethod yX7_remove ∈ sm_tbl := sm_in (List.mem_append_right _ (List.mem_of_getElem? (i := 334) (by decide +kernel))) rfl
theorem wm_252 : Cond.selects RX7 yX7_remove yX7_remove ∈ sm_tbl := sm_in (List.mem_append_right _ (List.mem_of_getElem? (i := 335) (by decide +kernel))) rfl
theorem wm_253 : Cond.code yX7_remove cX7_remove 2 (some .int) ∈ sm_tbl := sm_in (List.mem_append_right _ (List.mem_of_getElem? (i := 336) (by decide +kernel))) rfl
theorem wm_255 : Cond.methodLink RX7 104 yX2_takeAway ∈ sm_tbl := sm_in (List.mem_append_right _ (List.mem_of_getElem? (i := 337) (by decide +kernel))) rfl
theorem wm_256 : Cond.instanceMethod yX2_takeAway ∈ sm_tbl := sm_in (List.mem_append_right _ (List.mem_of_getElem? (i := 338) (by decide +kernel))) rfl
theorem wm_257 : Cond.selects RX2 yX2_takeAway yX2_takeAway ∈ sm_tbl := sm_in (List.mem_append_right _ (List.mem_of_getElem? (i := 339) (by decide +kernel))) rfl
theorem wm_258 : Cond.code yX2_takeAway cX2_takeAway 3 (some .int) ∈ sm_tbl := sm_in (List.mem_append_right _ (List.mem_of_getElem? (i := 340) (by decide +kernel))) rfl
theorem wm_260 : Cond.methodLink RL 44 yX7_ofShuttle ∈ sm_tbl := sm_in (List.mem_append_right _ (List.mem_of_getElem? (i := 341) (by decide +kernel))) rfl
theorem wm_261 : Cond.instanceMethod yX7_ofShuttle ∈ sm_tbl := sm_in (List.mem_append_right _ (List.mem_of_getElem? (i := 342) (by decide +kernel))) rfl
theorem wm_262 : Cond.selects RX7 yX7_ofShuttle yX7_ofShuttle ∈ sm_tbl := sm_in (List.mem_append_right _ (List.mem_of_getElem? (i := 343) (by decide +kernel))) rfl
theorem wm_263 : Cond.code yX7_ofShuttle cX7_ofShuttle 3 (some .int) ∈ sm_tbl := sm_in (List.mem_append_right _ (List.mem_of_getElem? (i := 344) (by decide +kernel))) rfl
theorem wm_265 : Cond.methodLink RX7 110 yX2_hasShuttle ∈ sm_tbl := sm_in (List.mem_append_right _ (List.mem_of_getElem? (i := 345) (by decide +kernel))) rfl
theorem wm_266 : Cond.methodLink RX7 114 yX2_number ∈ sm_tbl := sm_in (List.mem_append_right _ (List.mem_of_getElem? (i := 346) (by decide +kernel))) rfl
theorem wm_267 : Cond.instanceMethod yX2_number ∈ sm_tbl := sm_in (List.mem_append_right _ (List.mem_of_getElem? (i := 347) (by decide +kernel))) rfl
theorem wm_268 : Cond.selects RX2 yX2_number yX2_number ∈ sm_tbl := sm_in (List.mem_append_right _ (List.mem_of_getElem? (i := 348) (by decide +kernel))) rfl
theorem wm_269 : Cond.code yX2_number cX2_number 3 (some .int) ∈ sm_tbl := sm_in (List.mem_append_right _ (List.mem_of_getElem? (i := 349) (by decide +kernel))) rfl
theorem wm_271 : Cond.methodLink RX2 62 yX2_wayLeft ∈ sm_tbl := sm_in (List.mem_append_right _ (List.mem_of_getElem? (i := 350) (by decide +kernel))) rfl
theorem wm_272 : Cond.instanceMethod yX2_wayLeft ∈ sm_tbl := sm_in (List.mem_append_right _ (List.mem_of_getElem? (i := 351) (by decide +kernel))) rfl
theorem wm_273 : Cond.selects RX2 yX2_wayLeft yX2_wayLeft ∈ sm_tbl := sm_in (List.mem_append_right _ (List.mem_of_getElem? (i := 352) (by decide +kernel))) rfl
theorem wm_274 : Cond.code yX2_wayLeft cX2_wayLeft 7 (some .int) ∈ sm_tbl := sm_in (List.mem_append_right _ (List.mem_of_getElem? (i := 353) (by decide +kernel))) rfl
theorem wm_276 : Cond.methodLink RX2 69 yJ9_min_7cf53 ∈ sm_tbl := sm_in (List.mem_append_right _ (List.mem_of_getElem? (i := 354) (by decide +kernel))) rfl
theorem wm_277 : Cond.static yJ9_min_7cf53 ∈ sm_tbl := sm_in (List.mem_append_right _ (List.mem_of_getElem? (i := 355) (by decide +kernel))) rfl
theorem wm_278 : Cond.code yJ9_min_7cf53 cJ9_min_7cf53 2 (some .int) ∈ sm_tbl := sm_in (List.mem_append_right _ (List.mem_of_getElem? (i := 356) (by decide +kernel))) rfl
theorem wm_280 : Cond.methodLink RX2 74 yJ9_max_7cf53 ∈ sm_tbl := sm_in (List.mem_append_right _ (List.mem_of_getElem? (i := 357) (by decide +kernel))) rfl
theorem wm_281 : Cond.static yJ9_max_7cf53 ∈ sm_tbl := sm_in (List.mem_append_right _ (List.mem_of_getElem? (i := 358) (by decide +kernel))) rfl
theorem wm_282 : Cond.code yJ9_max_7cf53 cJ9_max_7cf53 2 (some .int) ∈ sm_tbl := sm_in (List.mem_append_right _ (List.mem_of_getElem? (i := 359) (by decide +kernel))) rfl
theorem wm_284 : Cond.methodLink RX7 117 yX0_run ∈ sm_tbl := sm_in (List.mem_append_right _ (List.mem_of_getElem? (i := 360) (by decide +kernel))) rfl
theorem wm_285 : Cond.instanceMethod yX0_run ∈ sm_tbl := sm_in (List.mem_append_right _ (List.mem_of_getElem? (i := 361) (by decide +kernel))) rfl
theorem wm_286 : Cond.selects RX0 yX0_run yX0_run ∈ sm_tbl := sm_in (List.mem_append_right _ (List.mem_of_getElem? (i := 362) (by decide +kernel))) rfl
theorem wm_287 : Cond.code yX0_run cX0_run 3 none ∈ sm_tbl := sm_in (List.mem_append_right _ (List.mem_of_getElem? (i := 363) (by decide +kernel))) rfl
theorem wm_289 : Cond.methodLink RX0 46 yX0_putOutside ∈ sm_tbl := sm_in (List.mem_append_right _ (List.mem_of_getElem? (i := 364) (by decide +kernel))) rfl
theorem wm_290 : Cond.instanceMethod yX0_putOutside ∈ sm_tbl := sm_in (List.mem_append_right _ (List.mem_of_getElem? (i := 366) (by decide +kernel))) rfl
theorem wm_291 : Cond.code yX0_putOutside cX0_putOutside 2 none ∈ sm_tbl := sm_in (List.mem_append_right _ (List.mem_of_getElem? (i := 367) (by decide +kernel))) rfl
theorem wm_293 : Cond.methodLink RX0 71 yJ7_fill_53178 ∈ sm_tbl := sm_in (List.mem_append_right _ (List.mem_of_getElem? (i := 368) (by decide +kernel))) rfl
theorem wm_294 : Cond.methodLink RX0 86 yX0_stand ∈ sm_tbl := sm_in (List.mem_append_right _ (List.mem_of_getElem? (i := 369) (by decide +kernel))) rfl
theorem wm_295 : Cond.instanceMethod yX0_stand ∈ sm_tbl := sm_in (List.mem_append_right _ (List.mem_of_getElem? (i := 371) (by decide +kernel))) rfl
theorem wm_296 : Cond.code yX0_stand cX0_stand 4 none ∈ sm_tbl := sm_in (List.mem_append_right _ (List.mem_of_getElem? (i := 372) (by decide +kernel))) rfl
theorem wm_298 : Cond.methodLink RX0 93 yX2_wayLeft ∈ sm_tbl := sm_in (List.mem_append_right _ (List.mem_of_getElem? (i := 373) (by decide +kernel))) rfl
theorem wm_299 : Cond.methodLink RX0 53 yX0_comeIn ∈ sm_tbl := sm_in (List.mem_append_right _ (List.mem_of_getElem? (i := 374) (by decide +kernel))) rfl
theorem wm_300 : Cond.instanceMethod yX0_comeIn ∈ sm_tbl := sm_in (List.mem_append_right _ (List.mem_of_getElem? (i := 376) (by decide +kernel))) rfl
theorem wm_301 : Cond.code yX0_comeIn cX0_comeIn 4 none ∈ sm_tbl := sm_in (List.mem_append_right _ (List.mem_of_getElem? (i := 377) (by decide +kernel))) rfl
theorem wm_303 : Cond.methodLink RX0 100 yX2_nextStation ∈ sm_tbl := sm_in (List.mem_append_right _ (List.mem_of_getElem? (i := 378) (by decide +kernel))) rfl
theorem wm_304 : Cond.instanceMethod yX2_nextStation ∈ sm_tbl := sm_in (List.mem_append_right _ (List.mem_of_getElem? (i := 379) (by decide +kernel))) rfl
theorem wm_305 : Cond.selects RX2 yX2_nextStation yX2_nextStation ∈ sm_tbl := sm_in (List.mem_append_right _ (List.mem_of_getElem? (i := 380) (by decide +kernel))) rfl
theorem wm_306 : Cond.code yX2_nextStation cX2_nextStation 3 (some .int) ∈ sm_tbl := sm_in (List.mem_append_right _ (List.mem_of_getElem? (i := 381) (by decide +kernel))) rfl
theorem wm_308 : Cond.methodLink RX2 66 yX2_goesUp ∈ sm_tbl := sm_in (List.mem_append_right _ (List.mem_of_getElem? (i := 382) (by decide +kernel))) rfl
theorem wm_309 : Cond.instanceMethod yX2_goesUp ∈ sm_tbl := sm_in (List.mem_append_right _ (List.mem_of_getElem? (i := 383) (by decide +kernel))) rfl
theorem wm_310 : Cond.selects RX2 yX2_goesUp yX2_goesUp ∈ sm_tbl := sm_in (List.mem_append_right _ (List.mem_of_getElem? (i := 384) (by decide +kernel))) rfl
theorem wm_311 : Cond.code yX2_goesUp cX2_goesUp 2 (some .boolean) ∈ sm_tbl := sm_in (List.mem_append_right _ (List.mem_of_getElem? (i := 385) (by decide +kernel))) rfl
theorem wm_313 : Cond.methodLink RX0 103 yX2_stretchAhead ∈ sm_tbl := sm_in (List.mem_append_right _ (List.mem_of_getElem? (i := 386) (by decide +kernel))) rfl
theorem wm_314 : Cond.instanceMethod yX2_stretchAhead ∈ sm_tbl := sm_in (List.mem_append_right _ (List.mem_of_getElem? (i := 387) (by decide +kernel))) rfl
theorem wm_315 : Cond.selects RX2 yX2_stretchAhead yX2_stretchAhead ∈ sm_tbl := sm_in (List.mem_append_right _ (List.mem_of_getElem? (i := 388) (by decide +kernel))) rfl
theorem wm_316 : Cond.code yX2_stretchAhead cX2_stretchAhead 3 (some .int) ∈ sm_tbl := sm_in (List.mem_append_right _ (List.mem_of_getElem? (i := 389) (by decide +kernel))) rfl
theorem wm_318 : Cond.methodLink RX0 57 yX0_letLeave ∈ sm_tbl := sm_in (List.mem_append_right _ (List.mem_of_getElem? (i := 390) (by decide +kernel))) rfl
theorem wm_319 : Cond.instanceMethod yX0_letLeave ∈ sm_tbl := sm_in (List.mem_append_right _ (List.mem_of_getElem? (i := 392) (by decide +kernel))) rfl
theorem wm_320 : Cond.code yX0_letLeave cX0_letLeave 4 none ∈ sm_tbl := sm_in (List.mem_append_right _ (List.mem_of_getElem? (i := 393) (by decide +kernel))) rfl
theorem wm_322 : Cond.methodLink RX0 109 yX0_firstToLeave ∈ sm_tbl := sm_in (List.mem_append_right _ (List.mem_of_getElem? (i := 394) (by decide +kernel))) rfl
theorem wm_323 : Cond.instanceMethod yX0_firstToLeave ∈ sm_tbl := sm_in (List.mem_append_right _ (List.mem_of_getElem? (i := 396) (by decide +kernel))) rfl
theorem wm_324 : Cond.code yX0_firstToLeave cX0_firstToLeave 4 (some .int) ∈ sm_tbl := sm_in (List.mem_append_right _ (List.mem_of_getElem? (i := 397) (by decide +kernel))) rfl
theorem wm_326 : Cond.methodLink RX0 116 yX0_canLeave ∈ sm_tbl := sm_in (List.mem_append_right _ (List.mem_of_getElem? (i := 398) (by decide +kernel))) rfl
theorem wm_327 : Cond.instanceMethod yX0_canLeave ∈ sm_tbl := sm_in (List.mem_append_right _ (List.mem_of_getElem? (i := 400) (by decide +kernel))) rfl
theorem wm_328 : Cond.code yX0_canLeave cX0_canLeave 4 (some .boolean) ∈ sm_tbl := sm_in (List.mem_append_right _ (List.mem_of_getElem? (i := 401) (by decide +kernel))) rfl
theorem wm_330 : Cond.methodLink RX0 123 yX0_isAtEnd ∈ sm_tbl := sm_in (List.mem_append_right _ (List.mem_of_getElem? (i := 402) (by decide +kernel))) rfl
theorem wm_331 : Cond.instanceMethod yX0_isAtEnd ∈ sm_tbl := sm_in (List.mem_append_right _ (List.mem_of_getElem? (i := 404) (by decide +kernel))) rfl
theorem wm_332 : Cond.code yX0_isAtEnd cX0_isAtEnd 2 (some .boolean) ∈ sm_tbl := sm_in (List.mem_append_right _ (List.mem_of_getElem? (i := 405) (by decide +kernel))) rfl
theorem wm_334 : Cond.methodLink RX0 120 yX0_goesBefore ∈ sm_tbl := sm_in (List.mem_append_right _ (List.mem_of_getElem? (i := 406) (by decide +kernel))) rfl
theorem wm_335 : Cond.instanceMethod yX0_goesBefore ∈ sm_tbl := sm_in (List.mem_append_right _ (List.mem_of_getElem? (i := 408) (by decide +kernel))) rfl
theorem wm_336 : Cond.code yX0_goesBefore cX0_goesBefore 3 (some .boolean) ∈ sm_tbl := sm_in (List.mem_append_right _ (List.mem_of_getElem? (i := 409) (by decide +kernel))) rfl
theorem wm_338 : Cond.methodLink RX0 112 yX0_leave ∈ sm_tbl := sm_in (List.mem_append_right _ (List.mem_of_getElem? (i := 410) (by decide +kernel))) rfl
theorem wm_339 : Cond.instanceMethod yX0_leave ∈ sm_tbl := sm_in (List.mem_append_right _ (List.mem_of_getElem? (i := 412) (by decide +kernel))) rfl
theorem wm_340 : Cond.code yX0_leave cX0_leave 6 none ∈ sm_tbl := sm_in (List.mem_append_right _ (List.mem_of_getElem? (i := 413) (by decide +kernel))) rfl
theorem wm_342 : Cond.methodLink RX0 60 yX0_nextEvent ∈ sm_tbl := sm_in (List.mem_append_right _ (List.mem_of_getElem? (i := 414) (by decide +kernel))) rfl
theorem wm_343 : Cond.instanceMethod yX0_nextEvent ∈ sm_tbl := sm_in (List.mem_append_right _ (List.mem_of_getElem? (i := 416) (by decide +kernel))) rfl
theorem wm_344 : Cond.code yX0_nextEvent cX0_nextEvent 4 (some .int) ∈ sm_tbl := sm_in (List.mem_append_right _ (List.mem_of_getElem? (i := 417) (by decide +kernel))) rfl
theorem wm_346 : Cond.methodLink RX0 64 yX0_notAtEnd ∈ sm_tbl := sm_in (List.mem_append_right _ (List.mem_of_getElem? (i := 418) (by decide +kernel))) rfl
theorem wm_347 : Cond.instanceMethod yX0_notAtEnd ∈ sm_tbl := sm_in (List.mem_append_right _ (List.mem_of_getElem? (i := 420) (by decide +kernel))) rfl
theorem wm_348 : Cond.code yX0_notAtEnd cX0_notAtEnd 3 (some .int) ∈ sm_tbl := sm_in (List.mem_append_right _ (List.mem_of_getElem? (i := 421) (by decide +kernel))) rfl
theorem wm_350 : Cond.methodLink RX7 120 yX0_endMinute ∈ sm_tbl := sm_in (List.mem_append_right _ (List.mem_of_getElem? (i := 422) (by decide +kernel))) rfl
theorem wm_351 : Cond.instanceMethod yX0_endMinute ∈ sm_tbl := sm_in (List.mem_append_right _ (List.mem_of_getElem? (i := 423) (by decide +kernel))) rfl
theorem wm_352 : Cond.selects RX0 yX0_endMinute yX0_endMinute ∈ sm_tbl := sm_in (List.mem_append_right _ (List.mem_of_getElem? (i := 424) (by decide +kernel))) rfl
theorem wm_353 : Cond.code yX0_endMinute cX0_endMinute 2 (some .int) ∈ sm_tbl := sm_in (List.mem_append_right _ (List.mem_of_getElem? (i := 425) (by decide +kernel))) rfl
theorem wm_355 : Cond.methodLink RX7 123 yX0_delayOf ∈ sm_tbl := sm_in (List.mem_append_right _ (List.mem_of_getElem? (i := 426) (by decide +kernel))) rfl
theorem wm_356 : Cond.instanceMethod yX0_delayOf ∈ sm_tbl := sm_in (List.mem_append_right _ (List.mem_of_getElem? (i := 427) (by decide +kernel))) rfl
theorem wm_357 : Cond.selects RX0 yX0_delayOf yX0_delayOf ∈ sm_tbl := sm_in (List.mem_append_right _ (List.mem_of_getElem? (i := 428) (by decide +kernel))) rfl
theorem wm_358 : Cond.code yX0_delayOf cX0_delayOf 3 (some .int) ∈ sm_tbl := sm_in (List.mem_append_right _ (List.mem_of_getElem? (i := 429) (by decide +kernel))) rfl
theorem wm_360 : Cond.methodLink RX0 136 yX0_endMinute ∈ sm_tbl := sm_in (List.mem_append_right _ (List.mem_of_getElem? (i := 430) (by decide +kernel))) rfl
theorem wm_361 : Cond.methodLink RX7 126 yX6_gather ∈ sm_tbl := sm_in (List.mem_append_right _ (List.mem_of_getElem? (i := 431) (by decide +kernel))) rfl
theorem wm_362 : Cond.instanceMethod yX6_gather ∈ sm_tbl := sm_in (List.mem_append_right _ (List.mem_of_getElem? (i := 432) (by decide +kernel))) rfl
theorem wm_363 : Cond.selects RX6 yX6_gather yX6_gather ∈ sm_tbl := sm_in (List.mem_append_right _ (List.mem_of_getElem? (i := 433) (by decide +kernel))) rfl
theorem wm_364 : Cond.code yX6_gather cX6_gather 4 none ∈ sm_tbl := sm_in (List.mem_append_right _ (List.mem_of_getElem? (i := 434) (by decide +kernel))) rfl
theorem wm_366 : Cond.methodLink RX6 18 yJ7_fill_53178 ∈ sm_tbl := sm_in (List.mem_append_right _ (List.mem_of_getElem? (i := 435) (by decide +kernel))) rfl
theorem wm_367 : Cond.methodLink RX6 24 yX0_stoodAt ∈ sm_tbl := sm_in (List.mem_append_right _ (List.mem_of_getElem? (i := 436) (by decide +kernel))) rfl
theorem wm_368 : Cond.instanceMethod yX0_stoodAt ∈ sm_tbl := sm_in (List.mem_append_right _ (List.mem_of_getElem? (i := 437) (by decide +kernel))) rfl
theorem wm_369 : Cond.selects RX0 yX0_stoodAt yX0_stoodAt ∈ sm_tbl := sm_in (List.mem_append_right _ (List.mem_of_getElem? (i := 438) (by decide +kernel))) rfl
theorem wm_370 : Cond.code yX0_stoodAt cX0_stoodAt 3 (some .boolean) ∈ sm_tbl := sm_in (List.mem_append_right _ (List.mem_of_getElem? (i := 439) (by decide +kernel))) rfl
theorem wm_372 : Cond.methodLink RX0 147 yX0_wasOnTrack ∈ sm_tbl := sm_in (List.mem_append_right _ (List.mem_of_getElem? (i := 440) (by decide +kernel))) rfl
theorem wm_373 : Cond.instanceMethod yX0_wasOnTrack ∈ sm_tbl := sm_in (List.mem_append_right _ (List.mem_of_getElem? (i := 441) (by decide +kernel))) rfl
theorem wm_374 : Cond.selects RX0 yX0_wasOnTrack yX0_wasOnTrack ∈ sm_tbl := sm_in (List.mem_append_right _ (List.mem_of_getElem? (i := 442) (by decide +kernel))) rfl
theorem wm_375 : Cond.code yX0_wasOnTrack cX0_wasOnTrack 3 (some .boolean) ∈ sm_tbl := sm_in (List.mem_append_right _ (List.mem_of_getElem? (i := 443) (by decide +kernel))) rfl
theorem wm_377 : Cond.methodLink RX6 30 yX6_gatherAt ∈ sm_tbl := sm_in (List.mem_append_right _ (List.mem_of_getElem? (i := 444) (by decide +kernel))) rfl
theorem wm_378 : Cond.instanceMethod yX6_gatherAt ∈ sm_tbl := sm_in (List.mem_append_right _ (List.mem_of_getElem? (i := 446) (by decide +kernel))) rfl
theorem wm_379 : Cond.code yX6_gatherAt cX6_gatherAt 10 none ∈ sm_tbl := sm_in (List.mem_append_right _ (List.mem_of_getElem? (i := 447) (by decide +kernel))) rfl
theorem wm_381 : Cond.methodLink RX6 34 yX0_readyAt ∈ sm_tbl := sm_in (List.mem_append_right _ (List.mem_of_getElem? (i := 448) (by decide +kernel))) rfl
theorem wm_382 : Cond.instanceMethod yX0_readyAt ∈ sm_tbl := sm_in (List.mem_append_right _ (List.mem_of_getElem? (i := 449) (by decide +kernel))) rfl
theorem wm_383 : Cond.selects RX0 yX0_readyAt yX0_readyAt ∈ sm_tbl := sm_in (List.mem_append_right _ (List.mem_of_getElem? (i := 450) (by decide +kernel))) rfl
theorem wm_384 : Cond.code yX0_readyAt cX0_readyAt 3 (some .int) ∈ sm_tbl := sm_in (List.mem_append_right _ (List.mem_of_getElem? (i := 451) (by decide +kernel))) rfl
theorem wm_386 : Cond.methodLink RX6 38 yX0_goneFrom ∈ sm_tbl := sm_in (List.mem_append_right _ (List.mem_of_getElem? (i := 452) (by decide +kernel))) rfl
theorem wm_387 : Cond.instanceMethod yX0_goneFrom ∈ sm_tbl := sm_in (List.mem_append_right _ (List.mem_of_getElem? (i := 453) (by decide +kernel))) rfl
theorem wm_388 : Cond.selects RX0 yX0_goneFrom yX0_goneFrom ∈ sm_tbl := sm_in (List.mem_append_right _ (List.mem_of_getElem? (i := 454) (by decide +kernel))) rfl
theorem wm_389 : Cond.code yX0_goneFrom cX0_goneFrom 3 (some .int) ∈ sm_tbl := sm_in (List.mem_append_right _ (List.mem_of_getElem? (i := 455) (by decide +kernel))) rfl
theorem wm_391 : Cond.methodLink RX6 45 yX2_stretchAhead ∈ sm_tbl := sm_in (List.mem_append_right _ (List.mem_of_getElem? (i := 456) (by decide +kernel))) rfl
theorem wm_392 : Cond.methodLink RX6 54 yX0_minutesOn ∈ sm_tbl := sm_in (List.mem_append_right _ (List.mem_of_getElem? (i := 457) (by decide +kernel))) rfl
theorem wm_393 : Cond.instanceMethod yX0_minutesOn ∈ sm_tbl := sm_in (List.mem_append_right _ (List.mem_of_getElem? (i := 458) (by decide +kernel))) rfl
theorem wm_394 : Cond.selects RX0 yX0_minutesOn yX0_minutesOn ∈ sm_tbl := sm_in (List.mem_append_right _ (List.mem_of_getElem? (i := 459) (by decide +kernel))) rfl
theorem wm_395 : Cond.code yX0_minutesOn cX0_minutesOn 8 (some .int) ∈ sm_tbl := sm_in (List.mem_append_right _ (List.mem_of_getElem? (i := 460) (by decide +kernel))) rfl
theorem wm_397 : Cond.methodLink RX0 172 yX2_goesUp ∈ sm_tbl := sm_in (List.mem_append_right _ (List.mem_of_getElem? (i := 461) (by decide +kernel))) rfl
theorem wm_398 : Cond.methodLink RX0 175 yJ9_min_7cf53 ∈ sm_tbl := sm_in (List.mem_append_right _ (List.mem_of_getElem? (i := 462) (by decide +kernel))) rfl
theorem wm_399 : Cond.methodLink RX0 142 yJ9_max_7cf53 ∈ sm_tbl := sm_in (List.mem_append_right _ (List.mem_of_getElem? (i := 463) (by decide +kernel))) rfl
theorem wm_400 : Cond.methodLink RX6 58 yX0_reasonFor ∈ sm_tbl := sm_in (List.mem_append_right _ (List.mem_of_getElem? (i := 464) (by decide +kernel))) rfl
theorem wm_401 : Cond.instanceMethod yX0_reasonFor ∈ sm_tbl := sm_in (List.mem_append_right _ (List.mem_of_getElem? (i := 465) (by decide +kernel))) rfl
theorem wm_402 : Cond.selects RX0 yX0_reasonFor yX0_reasonFor ∈ sm_tbl := sm_in (List.mem_append_right _ (List.mem_of_getElem? (i := 466) (by decide +kernel))) rfl
theorem wm_403 : Cond.code yX0_reasonFor cX0_reasonFor 3 (some .int) ∈ sm_tbl := sm_in (List.mem_append_right _ (List.mem_of_getElem? (i := 467) (by decide +kernel))) rfl
theorem wm_405 : Cond.methodLink RX7 130 yX6_total ∈ sm_tbl := sm_in (List.mem_append_right _ (List.mem_of_getElem? (i := 468) (by decide +kernel))) rfl
theorem wm_406 : Cond.instanceMethod yX6_total ∈ sm_tbl := sm_in (List.mem_append_right _ (List.mem_of_getElem? (i := 469) (by decide +kernel))) rfl
theorem wm_407 : Cond.selects RX6 yX6_total yX6_total ∈ sm_tbl := sm_in (List.mem_append_right _ (List.mem_of_getElem? (i := 470) (by decide +kernel))) rfl
theorem wm_408 : Cond.code yX6_total cX6_total 1 (some .int) ∈ sm_tbl := sm_in (List.mem_append_right _ (List.mem_of_getElem? (i := 471) (by decide +kernel))) rfl
theorem wm_410 : Cond.methodLink RX7 134 yX6_mostBlamed ∈ sm_tbl := sm_in (List.mem_append_right _ (List.mem_of_getElem? (i := 472) (by decide +kernel))) rfl
theorem wm_411 : Cond.instanceMethod yX6_mostBlamed ∈ sm_tbl := sm_in (List.mem_append_right _ (List.mem_of_getElem? (i := 473) (by decide +kernel))) rfl
theorem wm_412 : Cond.selects RX6 yX6_mostBlamed yX6_mostBlamed ∈ sm_tbl := sm_in (List.mem_append_right _ (List.mem_of_getElem? (i := 474) (by decide +kernel))) rfl
theorem wm_413 : Cond.code yX6_mostBlamed cX6_mostBlamed 3 (some .int) ∈ sm_tbl := sm_in (List.mem_append_right _ (List.mem_of_getElem? (i := 475) (by decide +kernel))) rfl
theorem wm_415 : Cond.methodLink RX7 137 yX6_forReason ∈ sm_tbl := sm_in (List.mem_append_right _ (List.mem_of_getElem? (i := 476) (by decide +kernel))) rfl
theorem wm_416 : Cond.instanceMethod yX6_forReason ∈ sm_tbl := sm_in (List.mem_append_right _ (List.mem_of_getElem? (i := 477) (by decide +kernel))) rfl
theorem wm_417 : Cond.selects RX6 yX6_forReason yX6_forReason ∈ sm_tbl := sm_in (List.mem_append_right _ (List.mem_of_getElem? (i := 478) (by decide +kernel))) rfl
theorem wm_418 : Cond.code yX6_forReason cX6_forReason 2 (some .int) ∈ sm_tbl := sm_in (List.mem_append_right _ (List.mem_of_getElem? (i := 479) (by decide +kernel))) rfl
theorem wm_420 : Cond.methodLink RL 48 yX7_count ∈ sm_tbl := sm_in (List.mem_append_right _ (List.mem_of_getElem? (i := 480) (by decide +kernel))) rfl
theorem wm_421 : Cond.instanceMethod yX7_count ∈ sm_tbl := sm_in (List.mem_append_right _ (List.mem_of_getElem? (i := 481) (by decide +kernel))) rfl
theorem wm_422 : Cond.selects RX7 yX7_count yX7_count ∈ sm_tbl := sm_in (List.mem_append_right _ (List.mem_of_getElem? (i := 482) (by decide +kernel))) rfl
theorem wm_423 : Cond.code yX7_count cX7_count 2 (some .int) ∈ sm_tbl := sm_in (List.mem_append_right _ (List.mem_of_getElem? (i := 483) (by decide +kernel))) rfl
theorem wm_425 : Cond.methodLink RL 52 yX7_day ∈ sm_tbl := sm_in (List.mem_append_right _ (List.mem_of_getElem? (i := 484) (by decide +kernel))) rfl
theorem wm_426 : Cond.instanceMethod yX7_day ∈ sm_tbl := sm_in (List.mem_append_right _ (List.mem_of_getElem? (i := 485) (by decide +kernel))) rfl
theorem wm_427 : Cond.selects RX7 yX7_day yX7_day ∈ sm_tbl := sm_in (List.mem_append_right _ (List.mem_of_getElem? (i := 486) (by decide +kernel))) rfl
theorem wm_428 : Cond.code yX7_day cX7_day 2 (some .int) ∈ sm_tbl := sm_in (List.mem_append_right _ (List.mem_of_getElem? (i := 487) (by decide +kernel))) rfl
theorem wm_430 : Cond.methodLink RX7 163 yX0_delay ∈ sm_tbl := sm_in (List.mem_append_right _ (List.mem_of_getElem? (i := 488) (by decide +kernel))) rfl
theorem wm_431 : Cond.instanceMethod yX0_delay ∈ sm_tbl := sm_in (List.mem_append_right _ (List.mem_of_getElem? (i := 489) (by decide +kernel))) rfl
theorem wm_432 : Cond.selects RX0 yX0_delay yX0_delay ∈ sm_tbl := sm_in (List.mem_append_right _ (List.mem_of_getElem? (i := 490) (by decide +kernel))) rfl
theorem wm_433 : Cond.code yX0_delay cX0_delay 3 (some .int) ∈ sm_tbl := sm_in (List.mem_append_right _ (List.mem_of_getElem? (i := 491) (by decide +kernel))) rfl
theorem wm_435 : Cond.methodLink RX0 139 yX0_delayOf ∈ sm_tbl := sm_in (List.mem_append_right _ (List.mem_of_getElem? (i := 492) (by decide +kernel))) rfl
theorem wm_436 : Cond.methodLink RX7 169 yX3_gather ∈ sm_tbl := sm_in (List.mem_append_right _ (List.mem_of_getElem? (i := 493) (by decide +kernel))) rfl
theorem wm_437 : Cond.instanceMethod yX3_gather ∈ sm_tbl := sm_in (List.mem_append_right _ (List.mem_of_getElem? (i := 494) (by decide +kernel))) rfl
theorem wm_438 : Cond.selects RX3 yX3_gather yX3_gather ∈ sm_tbl := sm_in (List.mem_append_right _ (List.mem_of_getElem? (i := 495) (by decide +kernel))) rfl
theorem wm_439 : Cond.code yX3_gather cX3_gather 4 none ∈ sm_tbl := sm_in (List.mem_append_right _ (List.mem_of_getElem? (i := 496) (by decide +kernel))) rfl
theorem wm_441 : Cond.methodLink RX3 30 yX2_goesUp ∈ sm_tbl := sm_in (List.mem_append_right _ (List.mem_of_getElem? (i := 497) (by decide +kernel))) rfl
theorem wm_442 : Cond.methodLink RX3 34 yX3_gatherPair ∈ sm_tbl := sm_in (List.mem_append_right _ (List.mem_of_getElem? (i := 498) (by decide +kernel))) rfl
theorem wm_443 : Cond.instanceMethod yX3_gatherPair ∈ sm_tbl := sm_in (List.mem_append_right _ (List.mem_of_getElem? (i := 500) (by decide +kernel))) rfl
theorem wm_444 : Cond.code yX3_gatherPair cX3_gatherPair 6 none ∈ sm_tbl := sm_in (List.mem_append_right _ (List.mem_of_getElem? (i := 501) (by decide +kernel))) rfl
theorem wm_446 : Cond.methodLink RX3 38 yX0_wasOnTrack ∈ sm_tbl := sm_in (List.mem_append_right _ (List.mem_of_getElem? (i := 502) (by decide +kernel))) rfl
theorem wm_447 : Cond.methodLink RX3 46 yJ9_max_7cf53 ∈ sm_tbl := sm_in (List.mem_append_right _ (List.mem_of_getElem? (i := 503) (by decide +kernel))) rfl
theorem wm_448 : Cond.methodLink RX3 52 yX3_isThere ∈ sm_tbl := sm_in (List.mem_append_right _ (List.mem_of_getElem? (i := 504) (by decide +kernel))) rfl
theorem wm_449 : Cond.static yX3_isThere ∈ sm_tbl := sm_in (List.mem_append_right _ (List.mem_of_getElem? (i := 505) (by decide +kernel))) rfl
theorem wm_450 : Cond.code yX3_isThere cX3_isThere 4 (some .boolean) ∈ sm_tbl := sm_in (List.mem_append_right _ (List.mem_of_getElem? (i := 506) (by decide +kernel))) rfl
theorem wm_452 : Cond.methodLink RX3 56 yX3_insert ∈ sm_tbl := sm_in (List.mem_append_right _ (List.mem_of_getElem? (i := 507) (by decide +kernel))) rfl
theorem wm_453 : Cond.instanceMethod yX3_insert ∈ sm_tbl := sm_in (List.mem_append_right _ (List.mem_of_getElem? (i := 509) (by decide +kernel))) rfl
theorem wm_454 : Cond.code yX3_insert cX3_insert 3 none ∈ sm_tbl := sm_in (List.mem_append_right _ (List.mem_of_getElem? (i := 510) (by decide +kernel))) rfl
theorem wm_456 : Cond.methodLink RX7 174 yX0_waitedMinutes ∈ sm_tbl := sm_in (List.mem_append_right _ (List.mem_of_getElem? (i := 511) (by decide +kernel))) rfl
theorem wm_457 : Cond.instanceMethod yX0_waitedMinutes ∈ sm_tbl := sm_in (List.mem_append_right _ (List.mem_of_getElem? (i := 512) (by decide +kernel))) rfl
theorem wm_458 : Cond.selects RX0 yX0_waitedMinutes yX0_waitedMinutes ∈ sm_tbl := sm_in (List.mem_append_right _ (List.mem_of_getElem? (i := 513) (by decide +kernel))) rfl
theorem wm_459 : Cond.code yX0_waitedMinutes cX0_waitedMinutes 4 (some .int) ∈ sm_tbl := sm_in (List.mem_append_right _ (List.mem_of_getElem? (i := 514) (by decide +kernel))) rfl
theorem wm_461 : Cond.methodLink RX0 150 yX0_stoodAt ∈ sm_tbl := sm_in (List.mem_append_right _ (List.mem_of_getElem? (i := 515) (by decide +kernel))) rfl
theorem wm_462 : Cond.methodLink RX0 153 yX0_goneFrom ∈ sm_tbl := sm_in (List.mem_append_right _ (List.mem_of_getElem? (i := 516) (by decide +kernel))) rfl
theorem wm_463 : Cond.methodLink RX0 156 yX0_readyAt ∈ sm_tbl := sm_in (List.mem_append_right _ (List.mem_of_getElem? (i := 517) (by decide +kernel))) rfl
theorem wm_464 : Cond.methodLink RX7 177 yX0_greatestDelay ∈ sm_tbl := sm_in (List.mem_append_right _ (List.mem_of_getElem? (i := 518) (by decide +kernel))) rfl
theorem wm_465 : Cond.instanceMethod yX0_greatestDelay ∈ sm_tbl := sm_in (List.mem_append_right _ (List.mem_of_getElem? (i := 519) (by decide +kernel))) rfl
theorem wm_466 : Cond.selects RX0 yX0_greatestDelay yX0_greatestDelay ∈ sm_tbl := sm_in (List.mem_append_right _ (List.mem_of_getElem? (i := 520) (by decide +kernel))) rfl
theorem wm_467 : Cond.code yX0_greatestDelay cX0_greatestDelay 3 (some .int) ∈ sm_tbl := sm_in (List.mem_append_right _ (List.mem_of_getElem? (i := 521) (by decide +kernel))) rfl
theorem wm_469 : Cond.methodLink RL 56 yX7_at ∈ sm_tbl := sm_in (List.mem_append_right _ (List.mem_of_getElem? (i := 522) (by decide +kernel))) rfl
theorem wm_470 : Cond.instanceMethod yX7_at ∈ sm_tbl := sm_in (List.mem_append_right _ (List.mem_of_getElem? (i := 523) (by decide +kernel))) rfl
theorem wm_471 : Cond.selects RX7 yX7_at yX7_at ∈ sm_tbl := sm_in (List.mem_append_right _ (List.mem_of_getElem? (i := 524) (by decide +kernel))) rfl
theorem wm_472 : Cond.code yX7_at cX7_at 3 (some .int) ∈ sm_tbl := sm_in (List.mem_append_right _ (List.mem_of_getElem? (i := 525) (by decide +kernel))) rfl
theorem wm_474 : Cond.methodLink RX7 180 yX0_placeAt ∈ sm_tbl := sm_in (List.mem_append_right _ (List.mem_of_getElem? (i := 526) (by decide +kernel))) rfl
theorem wm_475 : Cond.instanceMethod yX0_placeAt ∈ sm_tbl := sm_in (List.mem_append_right _ (List.mem_of_getElem? (i := 527) (by decide +kernel))) rfl
theorem wm_476 : Cond.selects RX0 yX0_placeAt yX0_placeAt ∈ sm_tbl := sm_in (List.mem_append_right _ (List.mem_of_getElem? (i := 528) (by decide +kernel))) rfl
theorem wm_477 : Cond.code yX0_placeAt cX0_placeAt 7 (some .int) ∈ sm_tbl := sm_in (List.mem_append_right _ (List.mem_of_getElem? (i := 529) (by decide +kernel))) rfl
theorem wm_479 : Cond.methodLink RX0 159 yJ9_abs_0f7a4 ∈ sm_tbl := sm_in (List.mem_append_right _ (List.mem_of_getElem? (i := 530) (by decide +kernel))) rfl
theorem wm_480 : Cond.static yJ9_abs_0f7a4 ∈ sm_tbl := sm_in (List.mem_append_right _ (List.mem_of_getElem? (i := 531) (by decide +kernel))) rfl
theorem wm_481 : Cond.code yJ9_abs_0f7a4 cJ9_abs_0f7a4 1 (some .int) ∈ sm_tbl := sm_in (List.mem_append_right _ (List.mem_of_getElem? (i := 532) (by decide +kernel))) rfl
theorem wm_483 : Cond.methodLink RL 60 yX7_when ∈ sm_tbl := sm_in (List.mem_append_right _ (List.mem_of_getElem? (i := 533) (by decide +kernel))) rfl
theorem wm_484 : Cond.instanceMethod yX7_when ∈ sm_tbl := sm_in (List.mem_append_right _ (List.mem_of_getElem? (i := 534) (by decide +kernel))) rfl
theorem wm_485 : Cond.selects RX7 yX7_when yX7_when ∈ sm_tbl := sm_in (List.mem_append_right _ (List.mem_of_getElem? (i := 535) (by decide +kernel))) rfl
theorem wm_486 : Cond.code yX7_when cX7_when 4 (some .int) ∈ sm_tbl := sm_in (List.mem_append_right _ (List.mem_of_getElem? (i := 536) (by decide +kernel))) rfl
theorem wm_488 : Cond.methodLink RX7 183 yX7_isStation ∈ sm_tbl := sm_in (List.mem_append_right _ (List.mem_of_getElem? (i := 537) (by decide +kernel))) rfl
theorem wm_489 : Cond.methodLink RL 65 yX7_why ∈ sm_tbl := sm_in (List.mem_append_right _ (List.mem_of_getElem? (i := 538) (by decide +kernel))) rfl
theorem wm_490 : Cond.instanceMethod yX7_why ∈ sm_tbl := sm_in (List.mem_append_right _ (List.mem_of_getElem? (i := 539) (by decide +kernel))) rfl
theorem wm_491 : Cond.selects RX7 yX7_why yX7_why ∈ sm_tbl := sm_in (List.mem_append_right _ (List.mem_of_getElem? (i := 540) (by decide +kernel))) rfl
theorem wm_492 : Cond.code yX7_why cX7_why 3 (some .int) ∈ sm_tbl := sm_in (List.mem_append_right _ (List.mem_of_getElem? (i := 541) (by decide +kernel))) rfl
theorem wm_494 : Cond.methodLink RX7 193 yX0_reasonAt ∈ sm_tbl := sm_in (List.mem_append_right _ (List.mem_of_getElem? (i := 542) (by decide +kernel))) rfl
theorem wm_495 : Cond.instanceMethod yX0_reasonAt ∈ sm_tbl := sm_in (List.mem_append_right _ (List.mem_of_getElem? (i := 543) (by decide +kernel))) rfl
theorem wm_496 : Cond.selects RX0 yX0_reasonAt yX0_reasonAt ∈ sm_tbl := sm_in (List.mem_append_right _ (List.mem_of_getElem? (i := 544) (by decide +kernel))) rfl
theorem wm_497 : Cond.code yX0_reasonAt cX0_reasonAt 7 (some .int) ∈ sm_tbl := sm_in (List.mem_append_right _ (List.mem_of_getElem? (i := 545) (by decide +kernel))) rfl
theorem wm_499 : Cond.methodLink RX0 162 yX0_placeAt ∈ sm_tbl := sm_in (List.mem_append_right _ (List.mem_of_getElem? (i := 546) (by decide +kernel))) rfl
theorem wm_500 : Cond.methodLink RX0 165 yX0_minutesOn ∈ sm_tbl := sm_in (List.mem_append_right _ (List.mem_of_getElem? (i := 547) (by decide +kernel))) rfl
theorem wm_501 : Cond.methodLink RX0 169 yX0_reasonFor ∈ sm_tbl := sm_in (List.mem_append_right _ (List.mem_of_getElem? (i := 548) (by decide +kernel))) rfl
theorem wm_502 : Cond.methodLink RL 69 yX7_meeting ∈ sm_tbl := sm_in (List.mem_append_right _ (List.mem_of_getElem? (i := 549) (by decide +kernel))) rfl
theorem wm_503 : Cond.instanceMethod yX7_meeting ∈ sm_tbl := sm_in (List.mem_append_right _ (List.mem_of_getElem? (i := 550) (by decide +kernel))) rfl
theorem wm_504 : Cond.selects RX7 yX7_meeting yX7_meeting ∈ sm_tbl := sm_in (List.mem_append_right _ (List.mem_of_getElem? (i := 551) (by decide +kernel))) rfl
theorem wm_505 : Cond.code yX7_meeting cX7_meeting 3 (some .int) ∈ sm_tbl := sm_in (List.mem_append_right _ (List.mem_of_getElem? (i := 552) (by decide +kernel))) rfl
theorem wm_507 : Cond.methodLink RX7 196 yX3_part ∈ sm_tbl := sm_in (List.mem_append_right _ (List.mem_of_getElem? (i := 553) (by decide +kernel))) rfl
theorem wm_508 : Cond.instanceMethod yX3_part ∈ sm_tbl := sm_in (List.mem_append_right _ (List.mem_of_getElem? (i := 554) (by decide +kernel))) rfl
theorem wm_509 : Cond.selects RX3 yX3_part yX3_part ∈ sm_tbl := sm_in (List.mem_append_right _ (List.mem_of_getElem? (i := 555) (by decide +kernel))) rfl
theorem wm_510 : Cond.code yX3_part cX3_part 4 (some .int) ∈ sm_tbl := sm_in (List.mem_append_right _ (List.mem_of_getElem? (i := 556) (by decide +kernel))) rfl
theorem wm_512 : Cond.methodLink RL 73 yX7_delayIfLate ∈ sm_tbl := sm_in (List.mem_append_right _ (List.mem_of_getElem? (i := 557) (by decide +kernel))) rfl
theorem wm_513 : Cond.instanceMethod yX7_delayIfLate ∈ sm_tbl := sm_in (List.mem_append_right _ (List.mem_of_getElem? (i := 558) (by decide +kernel))) rfl
theorem wm_514 : Cond.selects RX7 yX7_delayIfLate yX7_delayIfLate ∈ sm_tbl := sm_in (List.mem_append_right _ (List.mem_of_getElem? (i := 559) (by decide +kernel))) rfl
theorem wm_515 : Cond.code yX7_delayIfLate cX7_delayIfLate 4 (some .int) ∈ sm_tbl := sm_in (List.mem_append_right _ (List.mem_of_getElem? (i := 560) (by decide +kernel))) rfl
theorem wm_517 : Cond.methodLink RX7 199 yX7_trialDelay ∈ sm_tbl := sm_in (List.mem_append_right _ (List.mem_of_getElem? (i := 561) (by decide +kernel))) rfl
theorem wm_518 : Cond.instanceMethod yX7_trialDelay ∈ sm_tbl := sm_in (List.mem_append_right _ (List.mem_of_getElem? (i := 563) (by decide +kernel))) rfl
theorem wm_519 : Cond.code yX7_trialDelay cX7_trialDelay 1 (some .int) ∈ sm_tbl := sm_in (List.mem_append_right _ (List.mem_of_getElem? (i := 564) (by decide +kernel))) rfl
theorem wm_521 : Cond.methodLink RL 77 yX7_delayIfSlow ∈ sm_tbl := sm_in (List.mem_append_right _ (List.mem_of_getElem? (i := 565) (by decide +kernel))) rfl
theorem wm_522 : Cond.instanceMethod yX7_delayIfSlow ∈ sm_tbl := sm_in (List.mem_append_right _ (List.mem_of_getElem? (i := 566) (by decide +kernel))) rfl
theorem wm_523 : Cond.selects RX7 yX7_delayIfSlow yX7_delayIfSlow ∈ sm_tbl := sm_in (List.mem_append_right _ (List.mem_of_getElem? (i := 567) (by decide +kernel))) rfl
theorem wm_524 : Cond.code yX7_delayIfSlow cX7_delayIfSlow 4 (some .int) ∈ sm_tbl := sm_in (List.mem_append_right _ (List.mem_of_getElem? (i := 568) (by decide +kernel))) rfl
theorem wm_526 : Cond.methodLink RL 81 yX7_bestTrack ∈ sm_tbl := sm_in (List.mem_append_right _ (List.mem_of_getElem? (i := 569) (by decide +kernel))) rfl
theorem wm_527 : Cond.instanceMethod yX7_bestTrack ∈ sm_tbl := sm_in (List.mem_append_right _ (List.mem_of_getElem? (i := 570) (by decide +kernel))) rfl
theorem wm_528 : Cond.selects RX7 yX7_bestTrack yX7_bestTrack ∈ sm_tbl := sm_in (List.mem_append_right _ (List.mem_of_getElem? (i := 571) (by decide +kernel))) rfl
theorem wm_529 : Cond.code yX7_bestTrack cX7_bestTrack 7 (some .int) ∈ sm_tbl := sm_in (List.mem_append_right _ (List.mem_of_getElem? (i := 572) (by decide +kernel))) rfl
theorem wm_531 : Cond.methodLink RL 85 yX7_bestOrder ∈ sm_tbl := sm_in (List.mem_append_right _ (List.mem_of_getElem? (i := 573) (by decide +kernel))) rfl
theorem wm_532 : Cond.instanceMethod yX7_bestOrder ∈ sm_tbl := sm_in (List.mem_append_right _ (List.mem_of_getElem? (i := 574) (by decide +kernel))) rfl
theorem wm_533 : Cond.selects RX7 yX7_bestOrder yX7_bestOrder ∈ sm_tbl := sm_in (List.mem_append_right _ (List.mem_of_getElem? (i := 575) (by decide +kernel))) rfl
theorem wm_534 : Cond.code yX7_bestOrder cX7_bestOrder 2 (some .int) ∈ sm_tbl := sm_in (List.mem_append_right _ (List.mem_of_getElem? (i := 576) (by decide +kernel))) rfl
theorem wm_536 : Cond.methodLink RX7 202 yX4_tryAll ∈ sm_tbl := sm_in (List.mem_append_right _ (List.mem_of_getElem? (i := 577) (by decide +kernel))) rfl
theorem wm_537 : Cond.instanceMethod yX4_tryAll ∈ sm_tbl := sm_in (List.mem_append_right _ (List.mem_of_getElem? (i := 578) (by decide +kernel))) rfl
theorem wm_538 : Cond.selects RX4 yX4_tryAll yX4_tryAll ∈ sm_tbl := sm_in (List.mem_append_right _ (List.mem_of_getElem? (i := 579) (by decide +kernel))) rfl
theorem wm_539 : Cond.code yX4_tryAll cX4_tryAll 6 none ∈ sm_tbl := sm_in (List.mem_append_right _ (List.mem_of_getElem? (i := 580) (by decide +kernel))) rfl
theorem wm_541 : Cond.methodLink RX4 30 yJ9_min_7cf53 ∈ sm_tbl := sm_in (List.mem_append_right _ (List.mem_of_getElem? (i := 581) (by decide +kernel))) rfl
theorem wm_542 : Cond.methodLink RX4 45 yX0_run ∈ sm_tbl := sm_in (List.mem_append_right _ (List.mem_of_getElem? (i := 582) (by decide +kernel))) rfl
theorem wm_543 : Cond.methodLink RX4 48 yX0_delay ∈ sm_tbl := sm_in (List.mem_append_right _ (List.mem_of_getElem? (i := 583) (by decide +kernel))) rfl
theorem wm_544 : Cond.methodLink RX4 52 yX4_keepIfBetter ∈ sm_tbl := sm_in (List.mem_append_right _ (List.mem_of_getElem? (i := 584) (by decide +kernel))) rfl
theorem wm_545 : Cond.instanceMethod yX4_keepIfBetter ∈ sm_tbl := sm_in (List.mem_append_right _ (List.mem_of_getElem? (i := 586) (by decide +kernel))) rfl
theorem wm_546 : Cond.code yX4_keepIfBetter cX4_keepIfBetter 3 none ∈ sm_tbl := sm_in (List.mem_append_right _ (List.mem_of_getElem? (i := 587) (by decide +kernel))) rfl
theorem wm_548 : Cond.methodLink RX4 60 arraycopyName ∈ sm_tbl := sm_in (List.mem_append_right _ (List.mem_of_getElem? (i := 588) (by decide +kernel))) rfl
theorem wm_549 : Cond.methodLink RX4 56 yX4_nextOrder ∈ sm_tbl := sm_in (List.mem_append_right _ (List.mem_of_getElem? (i := 589) (by decide +kernel))) rfl
theorem wm_550 : Cond.instanceMethod yX4_nextOrder ∈ sm_tbl := sm_in (List.mem_append_right _ (List.mem_of_getElem? (i := 591) (by decide +kernel))) rfl
theorem wm_551 : Cond.code yX4_nextOrder cX4_nextOrder 6 (some .boolean) ∈ sm_tbl := sm_in (List.mem_append_right _ (List.mem_of_getElem? (i := 592) (by decide +kernel))) rfl
theorem wm_553 : Cond.methodLink RX4 66 yX4_swap ∈ sm_tbl := sm_in (List.mem_append_right _ (List.mem_of_getElem? (i := 593) (by decide +kernel))) rfl
theorem wm_554 : Cond.instanceMethod yX4_swap ∈ sm_tbl := sm_in (List.mem_append_right _ (List.mem_of_getElem? (i := 595) (by decide +kernel))) rfl
theorem wm_555 : Cond.code yX4_swap cX4_swap 4 none ∈ sm_tbl := sm_in (List.mem_append_right _ (List.mem_of_getElem? (i := 596) (by decide +kernel))) rfl
theorem wm_557 : Cond.methodLink RL 91 yX7_put ∈ sm_tbl := sm_in (List.mem_append_right _ (List.mem_of_getElem? (i := 597) (by decide +kernel))) rfl
theorem wm_558 : Cond.instanceMethod yX7_put ∈ sm_tbl := sm_in (List.mem_append_right _ (List.mem_of_getElem? (i := 598) (by decide +kernel))) rfl
theorem wm_559 : Cond.selects RX7 yX7_put yX7_put ∈ sm_tbl := sm_in (List.mem_append_right _ (List.mem_of_getElem? (i := 599) (by decide +kernel))) rfl
theorem wm_560 : Cond.code yX7_put cX7_put 4 (some .int) ∈ sm_tbl := sm_in (List.mem_append_right _ (List.mem_of_getElem? (i := 600) (by decide +kernel))) rfl
theorem wm_562 : Cond.methodLink RX7 211 yX5_charactersIn ∈ sm_tbl := sm_in (List.mem_append_right _ (List.mem_of_getElem? (i := 601) (by decide +kernel))) rfl
theorem wm_563 : Cond.static yX5_charactersIn ∈ sm_tbl := sm_in (List.mem_append_right _ (List.mem_of_getElem? (i := 602) (by decide +kernel))) rfl
theorem wm_564 : Cond.code yX5_charactersIn cX5_charactersIn 8 (some .int) ∈ sm_tbl := sm_in (List.mem_append_right _ (List.mem_of_getElem? (i := 603) (by decide +kernel))) rfl
theorem wm_566 : Cond.constantLong RX5 19 255 ∈ sm_tbl := sm_in (List.mem_append_right _ (List.mem_of_getElem? (i := 604) (by decide +kernel))) rfl
theorem wm_568 : Cond.constantLong RX5 21 33 ∈ sm_tbl := sm_in (List.mem_append_right _ (List.mem_of_getElem? (i := 605) (by decide +kernel))) rfl
theorem wm_570 : Cond.constantLong RX5 23 126 ∈ sm_tbl := sm_in (List.mem_append_right _ (List.mem_of_getElem? (i := 606) (by decide +kernel))) rfl
theorem wm_572 : Cond.methodLink RX7 215 yX5_append ∈ sm_tbl := sm_in (List.mem_append_right _ (List.mem_of_getElem? (i := 607) (by decide +kernel))) rfl
theorem wm_573 : Cond.instanceMethod yX5_append ∈ sm_tbl := sm_in (List.mem_append_right _ (List.mem_of_getElem? (i := 608) (by decide +kernel))) rfl
theorem wm_574 : Cond.selects RX5 yX5_append yX5_append ∈ sm_tbl := sm_in (List.mem_append_right _ (List.mem_of_getElem? (i := 609) (by decide +kernel))) rfl
theorem wm_575 : Cond.code yX5_append cX5_append 5 (some .int) ∈ sm_tbl := sm_in (List.mem_append_right _ (List.mem_of_getElem? (i := 610) (by decide +kernel))) rfl
theorem wm_577 : Cond.methodLink RL 96 yX7_wipe ∈ sm_tbl := sm_in (List.mem_append_right _ (List.mem_of_getElem? (i := 611) (by decide +kernel))) rfl
theorem wm_578 : Cond.instanceMethod yX7_wipe ∈ sm_tbl := sm_in (List.mem_append_right _ (List.mem_of_getElem? (i := 612) (by decide +kernel))) rfl
theorem wm_579 : Cond.selects RX7 yX7_wipe yX7_wipe ∈ sm_tbl := sm_in (List.mem_append_right _ (List.mem_of_getElem? (i := 613) (by decide +kernel))) rfl
theorem wm_580 : Cond.code yX7_wipe cX7_wipe 1 (some .int) ∈ sm_tbl := sm_in (List.mem_append_right _ (List.mem_of_getElem? (i := 614) (by decide +kernel))) rfl
theorem wm_582 : Cond.methodLink RX7 219 yX5_empty ∈ sm_tbl := sm_in (List.mem_append_right _ (List.mem_of_getElem? (i := 615) (by decide +kernel))) rfl
theorem wm_583 : Cond.instanceMethod yX5_empty ∈ sm_tbl := sm_in (List.mem_append_right _ (List.mem_of_getElem? (i := 616) (by decide +kernel))) rfl
theorem wm_584 : Cond.selects RX5 yX5_empty yX5_empty ∈ sm_tbl := sm_in (List.mem_append_right _ (List.mem_of_getElem? (i := 617) (by decide +kernel))) rfl
theorem wm_585 : Cond.code yX5_empty cX5_empty 2 (some .int) ∈ sm_tbl := sm_in (List.mem_append_right _ (List.mem_of_getElem? (i := 618) (by decide +kernel))) rfl
theorem wm_587 : Cond.methodLink RL 101 yX7_fault ∈ sm_tbl := sm_in (List.mem_append_right _ (List.mem_of_getElem? (i := 619) (by decide +kernel))) rfl
theorem wm_588 : Cond.instanceMethod yX7_fault ∈ sm_tbl := sm_in (List.mem_append_right _ (List.mem_of_getElem? (i := 620) (by decide +kernel))) rfl
theorem wm_589 : Cond.selects RX7 yX7_fault yX7_fault ∈ sm_tbl := sm_in (List.mem_append_right _ (List.mem_of_getElem? (i := 621) (by decide +kernel))) rfl
theorem wm_590 : Cond.code yX7_fault cX7_fault 1 (some .int) ∈ sm_tbl := sm_in (List.mem_append_right _ (List.mem_of_getElem? (i := 622) (by decide +kernel))) rfl
theorem wm_592 : Cond.methodLink RX7 222 yX5_findFault ∈ sm_tbl := sm_in (List.mem_append_right _ (List.mem_of_getElem? (i := 623) (by decide +kernel))) rfl
theorem wm_593 : Cond.instanceMethod yX5_findFault ∈ sm_tbl := sm_in (List.mem_append_right _ (List.mem_of_getElem? (i := 624) (by decide +kernel))) rfl
theorem wm_594 : Cond.selects RX5 yX5_findFault yX5_findFault ∈ sm_tbl := sm_in (List.mem_append_right _ (List.mem_of_getElem? (i := 625) (by decide +kernel))) rfl
theorem wm_595 : Cond.code yX5_findFault cX5_findFault 2 (some .int) ∈ sm_tbl := sm_in (List.mem_append_right _ (List.mem_of_getElem? (i := 626) (by decide +kernel))) rfl
theorem wm_597 : Cond.methodLink RX5 32 yX5_readOrder ∈ sm_tbl := sm_in (List.mem_append_right _ (List.mem_of_getElem? (i := 627) (by decide +kernel))) rfl
theorem wm_598 : Cond.instanceMethod yX5_readOrder ∈ sm_tbl := sm_in (List.mem_append_right _ (List.mem_of_getElem? (i := 629) (by decide +kernel))) rfl
theorem wm_599 : Cond.code yX5_readOrder cX5_readOrder 1 (some .boolean) ∈ sm_tbl := sm_in (List.mem_append_right _ (List.mem_of_getElem? (i := 630) (by decide +kernel))) rfl
theorem wm_601 : Cond.methodLink RX5 70 yJ7_fill_53178 ∈ sm_tbl := sm_in (List.mem_append_right _ (List.mem_of_getElem? (i := 631) (by decide +kernel))) rfl
theorem wm_602 : Cond.methodLink RX5 76 yX5_peek ∈ sm_tbl := sm_in (List.mem_append_right _ (List.mem_of_getElem? (i := 632) (by decide +kernel))) rfl
theorem wm_603 : Cond.instanceMethod yX5_peek ∈ sm_tbl := sm_in (List.mem_append_right _ (List.mem_of_getElem? (i := 634) (by decide +kernel))) rfl
theorem wm_604 : Cond.code yX5_peek cX5_peek 1 (some .int) ∈ sm_tbl := sm_in (List.mem_append_right _ (List.mem_of_getElem? (i := 635) (by decide +kernel))) rfl
theorem wm_606 : Cond.methodLink RX5 80 yX5_readShuttle ∈ sm_tbl := sm_in (List.mem_append_right _ (List.mem_of_getElem? (i := 636) (by decide +kernel))) rfl
theorem wm_607 : Cond.instanceMethod yX5_readShuttle ∈ sm_tbl := sm_in (List.mem_append_right _ (List.mem_of_getElem? (i := 638) (by decide +kernel))) rfl
theorem wm_608 : Cond.code yX5_readShuttle cX5_readShuttle 1 (some .boolean) ∈ sm_tbl := sm_in (List.mem_append_right _ (List.mem_of_getElem? (i := 639) (by decide +kernel))) rfl
theorem wm_610 : Cond.methodLink RX5 83 yX5_readDigit ∈ sm_tbl := sm_in (List.mem_append_right _ (List.mem_of_getElem? (i := 640) (by decide +kernel))) rfl
theorem wm_611 : Cond.instanceMethod yX5_readDigit ∈ sm_tbl := sm_in (List.mem_append_right _ (List.mem_of_getElem? (i := 642) (by decide +kernel))) rfl
theorem wm_612 : Cond.code yX5_readDigit cX5_readDigit 4 (some .boolean) ∈ sm_tbl := sm_in (List.mem_append_right _ (List.mem_of_getElem? (i := 643) (by decide +kernel))) rfl
theorem wm_614 : Cond.methodLink RX5 36 yX5_readSign ∈ sm_tbl := sm_in (List.mem_append_right _ (List.mem_of_getElem? (i := 644) (by decide +kernel))) rfl
theorem wm_615 : Cond.instanceMethod yX5_readSign ∈ sm_tbl := sm_in (List.mem_append_right _ (List.mem_of_getElem? (i := 646) (by decide +kernel))) rfl
theorem wm_616 : Cond.code yX5_readSign cX5_readSign 2 (some .boolean) ∈ sm_tbl := sm_in (List.mem_append_right _ (List.mem_of_getElem? (i := 647) (by decide +kernel))) rfl
theorem wm_618 : Cond.methodLink RX5 87 yX5_readNumber ∈ sm_tbl := sm_in (List.mem_append_right _ (List.mem_of_getElem? (i := 648) (by decide +kernel))) rfl
theorem wm_619 : Cond.instanceMethod yX5_readNumber ∈ sm_tbl := sm_in (List.mem_append_right _ (List.mem_of_getElem? (i := 650) (by decide +kernel))) rfl
theorem wm_620 : Cond.code yX5_readNumber cX5_readNumber 4 (some .boolean) ∈ sm_tbl := sm_in (List.mem_append_right _ (List.mem_of_getElem? (i := 651) (by decide +kernel))) rfl
theorem wm_622 : Cond.methodLink RL 105 yX7_carryOut ∈ sm_tbl := sm_in (List.mem_append_right _ (List.mem_of_getElem? (i := 652) (by decide +kernel))) rfl
theorem wm_623 : Cond.instanceMethod yX7_carryOut ∈ sm_tbl := sm_in (List.mem_append_right _ (List.mem_of_getElem? (i := 653) (by decide +kernel))) rfl
theorem wm_624 : Cond.selects RX7 yX7_carryOut yX7_carryOut ∈ sm_tbl := sm_in (List.mem_append_right _ (List.mem_of_getElem? (i := 654) (by decide +kernel))) rfl
theorem wm_625 : Cond.code yX7_carryOut cX7_carryOut 2 (some .int) ∈ sm_tbl := sm_in (List.mem_append_right _ (List.mem_of_getElem? (i := 655) (by decide +kernel))) rfl
theorem wm_627 : Cond.methodLink RX7 225 yX5_obey ∈ sm_tbl := sm_in (List.mem_append_right _ (List.mem_of_getElem? (i := 656) (by decide +kernel))) rfl
theorem wm_628 : Cond.instanceMethod yX5_obey ∈ sm_tbl := sm_in (List.mem_append_right _ (List.mem_of_getElem? (i := 657) (by decide +kernel))) rfl
theorem wm_629 : Cond.selects RX5 yX5_obey yX5_obey ∈ sm_tbl := sm_in (List.mem_append_right _ (List.mem_of_getElem? (i := 658) (by decide +kernel))) rfl
theorem wm_630 : Cond.code yX5_obey cX5_obey 4 (some .int) ∈ sm_tbl := sm_in (List.mem_append_right _ (List.mem_of_getElem? (i := 659) (by decide +kernel))) rfl
theorem wm_632 : Cond.methodLink RX5 40 yX5_obeyOrder ∈ sm_tbl := sm_in (List.mem_append_right _ (List.mem_of_getElem? (i := 660) (by decide +kernel))) rfl
theorem wm_633 : Cond.instanceMethod yX5_obeyOrder ∈ sm_tbl := sm_in (List.mem_append_right _ (List.mem_of_getElem? (i := 662) (by decide +kernel))) rfl
theorem wm_634 : Cond.code yX5_obeyOrder cX5_obeyOrder 2 (some .int) ∈ sm_tbl := sm_in (List.mem_append_right _ (List.mem_of_getElem? (i := 663) (by decide +kernel))) rfl
theorem wm_636 : Cond.methodLink RX5 47 yX2_addShuttle ∈ sm_tbl := sm_in (List.mem_append_right _ (List.mem_of_getElem? (i := 664) (by decide +kernel))) rfl
theorem wm_637 : Cond.methodLink RX5 53 yX2_startLater ∈ sm_tbl := sm_in (List.mem_append_right _ (List.mem_of_getElem? (i := 665) (by decide +kernel))) rfl
theorem wm_638 : Cond.methodLink RX5 57 yX2_setTracks ∈ sm_tbl := sm_in (List.mem_append_right _ (List.mem_of_getElem? (i := 666) (by decide +kernel))) rfl
theorem wm_639 : Cond.methodLink RX5 60 yX2_setRunning ∈ sm_tbl := sm_in (List.mem_append_right _ (List.mem_of_getElem? (i := 667) (by decide +kernel))) rfl
theorem wm_640 : Cond.methodLink RX5 63 yX2_setPriority ∈ sm_tbl := sm_in (List.mem_append_right _ (List.mem_of_getElem? (i := 668) (by decide +kernel))) rfl
theorem wm_641 : Cond.methodLink RX5 66 yX2_takeAway ∈ sm_tbl := sm_in (List.mem_append_right _ (List.mem_of_getElem? (i := 669) (by decide +kernel))) rfl
theorem wm_642 : Cond.methodLink RL 109 yX7_undo ∈ sm_tbl := sm_in (List.mem_append_right _ (List.mem_of_getElem? (i := 670) (by decide +kernel))) rfl
theorem wm_643 : Cond.instanceMethod yX7_undo ∈ sm_tbl := sm_in (List.mem_append_right _ (List.mem_of_getElem? (i := 671) (by decide +kernel))) rfl
theorem wm_644 : Cond.selects RX7 yX7_undo yX7_undo ∈ sm_tbl := sm_in (List.mem_append_right _ (List.mem_of_getElem? (i := 672) (by decide +kernel))) rfl
theorem wm_645 : Cond.code yX7_undo cX7_undo 1 (some .int) ∈ sm_tbl := sm_in (List.mem_append_right _ (List.mem_of_getElem? (i := 673) (by decide +kernel))) rfl
theorem wm_647 : Cond.methodLink RX7 229 yX1_giveBack ∈ sm_tbl := sm_in (List.mem_append_right _ (List.mem_of_getElem? (i := 674) (by decide +kernel))) rfl
theorem wm_648 : Cond.instanceMethod yX1_giveBack ∈ sm_tbl := sm_in (List.mem_append_right _ (List.mem_of_getElem? (i := 675) (by decide +kernel))) rfl
theorem wm_649 : Cond.selects RX1 yX1_giveBack yX1_giveBack ∈ sm_tbl := sm_in (List.mem_append_right _ (List.mem_of_getElem? (i := 676) (by decide +kernel))) rfl
theorem wm_650 : Cond.code yX1_giveBack cX1_giveBack 2 (some .int) ∈ sm_tbl := sm_in (List.mem_append_right _ (List.mem_of_getElem? (i := 677) (by decide +kernel))) rfl
theorem wm_652 : Cond.methodLink RL 113 yX7_save ∈ sm_tbl := sm_in (List.mem_append_right _ (List.mem_of_getElem? (i := 678) (by decide +kernel))) rfl
theorem wm_653 : Cond.instanceMethod yX7_save ∈ sm_tbl := sm_in (List.mem_append_right _ (List.mem_of_getElem? (i := 679) (by decide +kernel))) rfl
theorem wm_654 : Cond.selects RX7 yX7_save yX7_save ∈ sm_tbl := sm_in (List.mem_append_right _ (List.mem_of_getElem? (i := 680) (by decide +kernel))) rfl
theorem wm_655 : Cond.code yX7_save cX7_save 2 (some .int) ∈ sm_tbl := sm_in (List.mem_append_right _ (List.mem_of_getElem? (i := 681) (by decide +kernel))) rfl
theorem wm_657 : Cond.methodLink RX7 232 yX7_isSlot ∈ sm_tbl := sm_in (List.mem_append_right _ (List.mem_of_getElem? (i := 682) (by decide +kernel))) rfl
theorem wm_658 : Cond.static yX7_isSlot ∈ sm_tbl := sm_in (List.mem_append_right _ (List.mem_of_getElem? (i := 683) (by decide +kernel))) rfl
theorem wm_659 : Cond.code yX7_isSlot cX7_isSlot 1 (some .boolean) ∈ sm_tbl := sm_in (List.mem_append_right _ (List.mem_of_getElem? (i := 684) (by decide +kernel))) rfl
theorem wm_661 : Cond.methodLink RL 117 yX7_restore ∈ sm_tbl := sm_in (List.mem_append_right _ (List.mem_of_getElem? (i := 685) (by decide +kernel))) rfl
theorem wm_662 : Cond.instanceMethod yX7_restore ∈ sm_tbl := sm_in (List.mem_append_right _ (List.mem_of_getElem? (i := 686) (by decide +kernel))) rfl
theorem wm_663 : Cond.selects RX7 yX7_restore yX7_restore ∈ sm_tbl := sm_in (List.mem_append_right _ (List.mem_of_getElem? (i := 687) (by decide +kernel))) rfl
theorem wm_664 : Cond.code yX7_restore cX7_restore 2 (some .int) ∈ sm_tbl := sm_in (List.mem_append_right _ (List.mem_of_getElem? (i := 688) (by decide +kernel))) rfl
theorem wm_666 : Cond.classLink RL 10 RX8 ∈ sm_tbl := sm_in (List.mem_append_right _ (List.mem_of_getElem? (i := 689) (by decide +kernel))) rfl
theorem wm_667 : Cond.instantiable RX8 30 ∈ sm_tbl := sm_in (List.mem_append_right _ (List.mem_of_getElem? (i := 690) (by decide +kernel))) rfl
theorem wm_668 : Cond.methodLink RL 12 yX8_init ∈ sm_tbl := sm_in (List.mem_append_right _ (List.mem_of_getElem? (i := 691) (by decide +kernel))) rfl
theorem wm_669 : Cond.instanceMethod yX8_init ∈ sm_tbl := sm_in (List.mem_append_right _ (List.mem_of_getElem? (i := 692) (by decide +kernel))) rfl
theorem wm_670 : Cond.code yX8_init cX8_init 2 none ∈ sm_tbl := sm_in (List.mem_append_right _ (List.mem_of_getElem? (i := 693) (by decide +kernel))) rfl
theorem wm_672 : Cond.methodLink RX8 1 Lib.objectInit ∈ sm_tbl := sm_in (List.mem_append_right _ (List.mem_of_getElem? (i := 694) (by decide +kernel))) rfl
theorem wm_673 : Cond.fieldLink RX8 7 RX8 "at" "[I" ∈ sm_tbl := sm_in (List.mem_append_right _ (List.mem_of_getElem? (i := 695) (by decide +kernel))) rfl
theorem wm_674 : Cond.fieldLink RX8 13 RX8 "past" "[I" ∈ sm_tbl := sm_in (List.mem_append_right _ (List.mem_of_getElem? (i := 696) (by decide +kernel))) rfl
theorem wm_675 : Cond.fieldLink RX8 86 RX8 "pastFirst" "I" ∈ sm_tbl := sm_in (List.mem_append_right _ (List.mem_of_getElem? (i := 697) (by decide +kernel))) rfl
theorem wm_676 : Cond.fieldLink RX8 82 RX8 "pastMany" "I" ∈ sm_tbl := sm_in (List.mem_append_right _ (List.mem_of_getElem? (i := 698) (by decide +kernel))) rfl
theorem wm_677 : Cond.fieldLink RX8 16 RX8 "slots" "[I" ∈ sm_tbl := sm_in (List.mem_append_right _ (List.mem_of_getElem? (i := 699) (by decide +kernel))) rfl
theorem wm_678 : Cond.fieldLink RX8 19 RX8 "isSaved" "[Z" ∈ sm_tbl := sm_in (List.mem_append_right _ (List.mem_of_getElem? (i := 700) (by decide +kernel))) rfl
theorem wm_679 : Cond.fieldLink RX8 23 RX8 "aside" "[I" ∈ sm_tbl := sm_in (List.mem_append_right _ (List.mem_of_getElem? (i := 701) (by decide +kernel))) rfl
theorem wm_680 : Cond.fieldLink RX8 26 RX8 "where" "[I" ∈ sm_tbl := sm_in (List.mem_append_right _ (List.mem_of_getElem? (i := 702) (by decide +kernel))) rfl
theorem wm_681 : Cond.fieldLink RX8 29 RX8 "place" "[I" ∈ sm_tbl := sm_in (List.mem_append_right _ (List.mem_of_getElem? (i := 703) (by decide +kernel))) rfl
theorem wm_682 : Cond.fieldLink RX8 32 RX8 "since" "[I" ∈ sm_tbl := sm_in (List.mem_append_right _ (List.mem_of_getElem? (i := 704) (by decide +kernel))) rfl
theorem wm_683 : Cond.fieldLink RX8 35 RX8 "comes" "[I" ∈ sm_tbl := sm_in (List.mem_append_right _ (List.mem_of_getElem? (i := 705) (by decide +kernel))) rfl
theorem wm_684 : Cond.fieldLink RX8 38 RX8 "readies" "[I" ∈ sm_tbl := sm_in (List.mem_append_right _ (List.mem_of_getElem? (i := 706) (by decide +kernel))) rfl
theorem wm_685 : Cond.fieldLink RX8 41 RX8 "leaves" "[I" ∈ sm_tbl := sm_in (List.mem_append_right _ (List.mem_of_getElem? (i := 707) (by decide +kernel))) rfl
theorem wm_686 : Cond.fieldLink RX8 44 RX8 "meets" "[I" ∈ sm_tbl := sm_in (List.mem_append_right _ (List.mem_of_getElem? (i := 708) (by decide +kernel))) rfl
theorem wm_687 : Cond.fieldLink RX8 47 RX8 "meetsAt" "[I" ∈ sm_tbl := sm_in (List.mem_append_right _ (List.mem_of_getElem? (i := 709) (by decide +kernel))) rfl
theorem wm_688 : Cond.fieldLink RX8 50 RX8 "blames" "[I" ∈ sm_tbl := sm_in (List.mem_append_right _ (List.mem_of_getElem? (i := 710) (by decide +kernel))) rfl
theorem wm_689 : Cond.fieldLink RX8 53 RX8 "waits" "[I" ∈ sm_tbl := sm_in (List.mem_append_right _ (List.mem_of_getElem? (i := 711) (by decide +kernel))) rfl
theorem wm_690 : Cond.fieldLink RX8 158 RX8 "last" "I" ∈ sm_tbl := sm_in (List.mem_append_right _ (List.mem_of_getElem? (i := 712) (by decide +kernel))) rfl
theorem wm_691 : Cond.fieldLink RX8 92 RX8 "stuck" "I" ∈ sm_tbl := sm_in (List.mem_append_right _ (List.mem_of_getElem? (i := 713) (by decide +kernel))) rfl
theorem wm_692 : Cond.fieldLink RX8 56 RX8 "ran" "[I" ∈ sm_tbl := sm_in (List.mem_append_right _ (List.mem_of_getElem? (i := 714) (by decide +kernel))) rfl
theorem wm_693 : Cond.fieldLink RX8 130 RX8 "hasRun" "Z" ∈ sm_tbl := sm_in (List.mem_append_right _ (List.mem_of_getElem? (i := 715) (by decide +kernel))) rfl
theorem wm_694 : Cond.fieldLink RX8 59 RX8 "order" "[I" ∈ sm_tbl := sm_in (List.mem_append_right _ (List.mem_of_getElem? (i := 716) (by decide +kernel))) rfl
theorem wm_695 : Cond.fieldLink RX8 62 RX8 "bestOne" "[I" ∈ sm_tbl := sm_in (List.mem_append_right _ (List.mem_of_getElem? (i := 717) (by decide +kernel))) rfl
theorem wm_696 : Cond.fieldLink RX8 65 RX8 "pad" "[I" ∈ sm_tbl := sm_in (List.mem_append_right _ (List.mem_of_getElem? (i := 718) (by decide +kernel))) rfl
theorem wm_697 : Cond.fieldLink RX8 220 RX8 "padMany" "I" ∈ sm_tbl := sm_in (List.mem_append_right _ (List.mem_of_getElem? (i := 719) (by decide +kernel))) rfl
theorem wm_698 : Cond.fieldLink RX8 270 RX8 "spot" "I" ∈ sm_tbl := sm_in (List.mem_append_right _ (List.mem_of_getElem? (i := 720) (by decide +kernel))) rfl
theorem wm_699 : Cond.fieldLink RX8 273 RX8 "isWrong" "Z" ∈ sm_tbl := sm_in (List.mem_append_right _ (List.mem_of_getElem? (i := 721) (by decide +kernel))) rfl
theorem wm_700 : Cond.fieldLink RX8 279 RX8 "read" "I" ∈ sm_tbl := sm_in (List.mem_append_right _ (List.mem_of_getElem? (i := 722) (by decide +kernel))) rfl
theorem wm_701 : Cond.fieldLink RX8 68 RX8 "sort" "[I" ∈ sm_tbl := sm_in (List.mem_append_right _ (List.mem_of_getElem? (i := 723) (by decide +kernel))) rfl
theorem wm_702 : Cond.fieldLink RX8 71 RX8 "numbers" "[I" ∈ sm_tbl := sm_in (List.mem_append_right _ (List.mem_of_getElem? (i := 724) (by decide +kernel))) rfl
theorem wm_703 : Cond.methodLink RL 17 yX8_first ∈ sm_tbl := sm_in (List.mem_append_right _ (List.mem_of_getElem? (i := 786) (by decide +kernel))) rfl
theorem wm_704 : Cond.instanceMethod yX8_first ∈ sm_tbl := sm_in (List.mem_append_right _ (List.mem_of_getElem? (i := 787) (by decide +kernel))) rfl
theorem wm_705 : Cond.selects RX8 yX8_first yX8_first ∈ sm_tbl := sm_in (List.mem_append_right _ (List.mem_of_getElem? (i := 788) (by decide +kernel))) rfl
theorem wm_706 : Cond.code yX8_first cX8_first 3 (some .int) ∈ sm_tbl := sm_in (List.mem_append_right _ (List.mem_of_getElem? (i := 789) (by decide +kernel))) rfl
theorem wm_708 : Cond.methodLink RX8 74 yX8_in ∈ sm_tbl := sm_in (List.mem_append_right _ (List.mem_of_getElem? (i := 790) (by decide +kernel))) rfl
theorem wm_709 : Cond.static yX8_in ∈ sm_tbl := sm_in (List.mem_append_right _ (List.mem_of_getElem? (i := 791) (by decide +kernel))) rfl
theorem wm_710 : Cond.code yX8_in cX8_in 3 (some .boolean) ∈ sm_tbl := sm_in (List.mem_append_right _ (List.mem_of_getElem? (i := 792) (by decide +kernel))) rfl
theorem wm_712 : Cond.methodLink RX8 89 yX8_keep ∈ sm_tbl := sm_in (List.mem_append_right _ (List.mem_of_getElem? (i := 793) (by decide +kernel))) rfl
theorem wm_713 : Cond.instanceMethod yX8_keep ∈ sm_tbl := sm_in (List.mem_append_right _ (List.mem_of_getElem? (i := 795) (by decide +kernel))) rfl
theorem wm_714 : Cond.code yX8_keep cX8_keep 3 none ∈ sm_tbl := sm_in (List.mem_append_right _ (List.mem_of_getElem? (i := 796) (by decide +kernel))) rfl
theorem wm_716 : Cond.methodLink RL 22 yX8_tracks ∈ sm_tbl := sm_in (List.mem_append_right _ (List.mem_of_getElem? (i := 797) (by decide +kernel))) rfl
theorem wm_717 : Cond.instanceMethod yX8_tracks ∈ sm_tbl := sm_in (List.mem_append_right _ (List.mem_of_getElem? (i := 798) (by decide +kernel))) rfl
theorem wm_718 : Cond.selects RX8 yX8_tracks yX8_tracks ∈ sm_tbl := sm_in (List.mem_append_right _ (List.mem_of_getElem? (i := 799) (by decide +kernel))) rfl
theorem wm_719 : Cond.code yX8_tracks cX8_tracks 3 (some .int) ∈ sm_tbl := sm_in (List.mem_append_right _ (List.mem_of_getElem? (i := 800) (by decide +kernel))) rfl
theorem wm_721 : Cond.methodLink RX8 185 yX8_tryTracks ∈ sm_tbl := sm_in (List.mem_append_right _ (List.mem_of_getElem? (i := 801) (by decide +kernel))) rfl
theorem wm_722 : Cond.instanceMethod yX8_tryTracks ∈ sm_tbl := sm_in (List.mem_append_right _ (List.mem_of_getElem? (i := 803) (by decide +kernel))) rfl
theorem wm_723 : Cond.code yX8_tryTracks cX8_tryTracks 4 (some .int) ∈ sm_tbl := sm_in (List.mem_append_right _ (List.mem_of_getElem? (i := 804) (by decide +kernel))) rfl
theorem wm_725 : Cond.methodLink RX8 178 yX8_isStation ∈ sm_tbl := sm_in (List.mem_append_right _ (List.mem_of_getElem? (i := 805) (by decide +kernel))) rfl
theorem wm_726 : Cond.static yX8_isStation ∈ sm_tbl := sm_in (List.mem_append_right _ (List.mem_of_getElem? (i := 806) (by decide +kernel))) rfl
theorem wm_727 : Cond.code yX8_isStation cX8_isStation 1 (some .boolean) ∈ sm_tbl := sm_in (List.mem_append_right _ (List.mem_of_getElem? (i := 807) (by decide +kernel))) rfl
theorem wm_729 : Cond.methodLink RX8 181 yX8_change ∈ sm_tbl := sm_in (List.mem_append_right _ (List.mem_of_getElem? (i := 808) (by decide +kernel))) rfl
theorem wm_730 : Cond.instanceMethod yX8_change ∈ sm_tbl := sm_in (List.mem_append_right _ (List.mem_of_getElem? (i := 810) (by decide +kernel))) rfl
theorem wm_731 : Cond.code yX8_change cX8_change 5 (some .int) ∈ sm_tbl := sm_in (List.mem_append_right _ (List.mem_of_getElem? (i := 811) (by decide +kernel))) rfl
theorem wm_733 : Cond.methodLink RX8 174 yX8_keepIf ∈ sm_tbl := sm_in (List.mem_append_right _ (List.mem_of_getElem? (i := 812) (by decide +kernel))) rfl
theorem wm_734 : Cond.instanceMethod yX8_keepIf ∈ sm_tbl := sm_in (List.mem_append_right _ (List.mem_of_getElem? (i := 814) (by decide +kernel))) rfl
theorem wm_735 : Cond.code yX8_keepIf cX8_keepIf 2 none ∈ sm_tbl := sm_in (List.mem_append_right _ (List.mem_of_getElem? (i := 815) (by decide +kernel))) rfl
theorem wm_737 : Cond.methodLink RL 26 yX8_running ∈ sm_tbl := sm_in (List.mem_append_right _ (List.mem_of_getElem? (i := 816) (by decide +kernel))) rfl
theorem wm_738 : Cond.instanceMethod yX8_running ∈ sm_tbl := sm_in (List.mem_append_right _ (List.mem_of_getElem? (i := 817) (by decide +kernel))) rfl
theorem wm_739 : Cond.selects RX8 yX8_running yX8_running ∈ sm_tbl := sm_in (List.mem_append_right _ (List.mem_of_getElem? (i := 818) (by decide +kernel))) rfl
theorem wm_740 : Cond.code yX8_running cX8_running 3 (some .int) ∈ sm_tbl := sm_in (List.mem_append_right _ (List.mem_of_getElem? (i := 819) (by decide +kernel))) rfl
theorem wm_742 : Cond.methodLink RX8 191 yX8_tryRunning ∈ sm_tbl := sm_in (List.mem_append_right _ (List.mem_of_getElem? (i := 820) (by decide +kernel))) rfl
theorem wm_743 : Cond.instanceMethod yX8_tryRunning ∈ sm_tbl := sm_in (List.mem_append_right _ (List.mem_of_getElem? (i := 822) (by decide +kernel))) rfl
theorem wm_744 : Cond.code yX8_tryRunning cX8_tryRunning 5 (some .int) ∈ sm_tbl := sm_in (List.mem_append_right _ (List.mem_of_getElem? (i := 823) (by decide +kernel))) rfl
theorem wm_746 : Cond.methodLink RX8 188 yX8_whyNotRun ∈ sm_tbl := sm_in (List.mem_append_right _ (List.mem_of_getElem? (i := 824) (by decide +kernel))) rfl
theorem wm_747 : Cond.static yX8_whyNotRun ∈ sm_tbl := sm_in (List.mem_append_right _ (List.mem_of_getElem? (i := 825) (by decide +kernel))) rfl
theorem wm_748 : Cond.code yX8_whyNotRun cX8_whyNotRun 2 (some .int) ∈ sm_tbl := sm_in (List.mem_append_right _ (List.mem_of_getElem? (i := 826) (by decide +kernel))) rfl
theorem wm_750 : Cond.methodLink RL 31 yX8_shuttle ∈ sm_tbl := sm_in (List.mem_append_right _ (List.mem_of_getElem? (i := 827) (by decide +kernel))) rfl
theorem wm_751 : Cond.instanceMethod yX8_shuttle ∈ sm_tbl := sm_in (List.mem_append_right _ (List.mem_of_getElem? (i := 828) (by decide +kernel))) rfl
theorem wm_752 : Cond.selects RX8 yX8_shuttle yX8_shuttle ∈ sm_tbl := sm_in (List.mem_append_right _ (List.mem_of_getElem? (i := 829) (by decide +kernel))) rfl
theorem wm_753 : Cond.code yX8_shuttle cX8_shuttle 6 (some .int) ∈ sm_tbl := sm_in (List.mem_append_right _ (List.mem_of_getElem? (i := 830) (by decide +kernel))) rfl
theorem wm_755 : Cond.methodLink RX8 194 yX8_tryShuttle ∈ sm_tbl := sm_in (List.mem_append_right _ (List.mem_of_getElem? (i := 831) (by decide +kernel))) rfl
theorem wm_756 : Cond.instanceMethod yX8_tryShuttle ∈ sm_tbl := sm_in (List.mem_append_right _ (List.mem_of_getElem? (i := 833) (by decide +kernel))) rfl
theorem wm_757 : Cond.code yX8_tryShuttle cX8_tryShuttle 8 (some .int) ∈ sm_tbl := sm_in (List.mem_append_right _ (List.mem_of_getElem? (i := 834) (by decide +kernel))) rfl
theorem wm_759 : Cond.methodLink RL 35 yX8_late ∈ sm_tbl := sm_in (List.mem_append_right _ (List.mem_of_getElem? (i := 835) (by decide +kernel))) rfl
theorem wm_760 : Cond.instanceMethod yX8_late ∈ sm_tbl := sm_in (List.mem_append_right _ (List.mem_of_getElem? (i := 836) (by decide +kernel))) rfl
theorem wm_761 : Cond.selects RX8 yX8_late yX8_late ∈ sm_tbl := sm_in (List.mem_append_right _ (List.mem_of_getElem? (i := 837) (by decide +kernel))) rfl
theorem wm_762 : Cond.code yX8_late cX8_late 3 (some .int) ∈ sm_tbl := sm_in (List.mem_append_right _ (List.mem_of_getElem? (i := 838) (by decide +kernel))) rfl
theorem wm_764 : Cond.methodLink RX8 204 yX8_tryLate ∈ sm_tbl := sm_in (List.mem_append_right _ (List.mem_of_getElem? (i := 839) (by decide +kernel))) rfl
theorem wm_765 : Cond.instanceMethod yX8_tryLate ∈ sm_tbl := sm_in (List.mem_append_right _ (List.mem_of_getElem? (i := 841) (by decide +kernel))) rfl
theorem wm_766 : Cond.code yX8_tryLate cX8_tryLate 5 (some .int) ∈ sm_tbl := sm_in (List.mem_append_right _ (List.mem_of_getElem? (i := 842) (by decide +kernel))) rfl
theorem wm_768 : Cond.methodLink RX8 201 yX8_whyNotLate ∈ sm_tbl := sm_in (List.mem_append_right _ (List.mem_of_getElem? (i := 843) (by decide +kernel))) rfl
theorem wm_769 : Cond.instanceMethod yX8_whyNotLate ∈ sm_tbl := sm_in (List.mem_append_right _ (List.mem_of_getElem? (i := 845) (by decide +kernel))) rfl
theorem wm_770 : Cond.code yX8_whyNotLate cX8_whyNotLate 3 (some .int) ∈ sm_tbl := sm_in (List.mem_append_right _ (List.mem_of_getElem? (i := 846) (by decide +kernel))) rfl
theorem wm_772 : Cond.methodLink RX8 198 yX8_isShuttle ∈ sm_tbl := sm_in (List.mem_append_right _ (List.mem_of_getElem? (i := 847) (by decide +kernel))) rfl
theorem wm_773 : Cond.instanceMethod yX8_isShuttle ∈ sm_tbl := sm_in (List.mem_append_right _ (List.mem_of_getElem? (i := 849) (by decide +kernel))) rfl
theorem wm_774 : Cond.code yX8_isShuttle cX8_isShuttle 2 (some .boolean) ∈ sm_tbl := sm_in (List.mem_append_right _ (List.mem_of_getElem? (i := 850) (by decide +kernel))) rfl
theorem wm_776 : Cond.methodLink RX8 78 yX8_of ∈ sm_tbl := sm_in (List.mem_append_right _ (List.mem_of_getElem? (i := 851) (by decide +kernel))) rfl
theorem wm_777 : Cond.instanceMethod yX8_of ∈ sm_tbl := sm_in (List.mem_append_right _ (List.mem_of_getElem? (i := 853) (by decide +kernel))) rfl
theorem wm_778 : Cond.code yX8_of cX8_of 3 (some .int) ∈ sm_tbl := sm_in (List.mem_append_right _ (List.mem_of_getElem? (i := 854) (by decide +kernel))) rfl
theorem wm_780 : Cond.methodLink RL 39 yX8_prefer ∈ sm_tbl := sm_in (List.mem_append_right _ (List.mem_of_getElem? (i := 855) (by decide +kernel))) rfl
theorem wm_781 : Cond.instanceMethod yX8_prefer ∈ sm_tbl := sm_in (List.mem_append_right _ (List.mem_of_getElem? (i := 856) (by decide +kernel))) rfl
theorem wm_782 : Cond.selects RX8 yX8_prefer yX8_prefer ∈ sm_tbl := sm_in (List.mem_append_right _ (List.mem_of_getElem? (i := 857) (by decide +kernel))) rfl
theorem wm_783 : Cond.code yX8_prefer cX8_prefer 3 (some .int) ∈ sm_tbl := sm_in (List.mem_append_right _ (List.mem_of_getElem? (i := 858) (by decide +kernel))) rfl
theorem wm_785 : Cond.methodLink RX8 207 yX8_tryPrefer ∈ sm_tbl := sm_in (List.mem_append_right _ (List.mem_of_getElem? (i := 859) (by decide +kernel))) rfl
theorem wm_786 : Cond.instanceMethod yX8_tryPrefer ∈ sm_tbl := sm_in (List.mem_append_right _ (List.mem_of_getElem? (i := 861) (by decide +kernel))) rfl
theorem wm_787 : Cond.code yX8_tryPrefer cX8_tryPrefer 4 (some .int) ∈ sm_tbl := sm_in (List.mem_append_right _ (List.mem_of_getElem? (i := 862) (by decide +kernel))) rfl
theorem wm_789 : Cond.methodLink RL 43 yX8_remove ∈ sm_tbl := sm_in (List.mem_append_right _ (List.mem_of_getElem? (i := 863) (by decide +kernel))) rfl
theorem wm_790 : Cond.instanceMethod yX8_remove ∈ sm_tbl := sm_in (List.mem_append_right _ (List.mem_of_getElem? (i := 864) (by decide +kernel))) rfl
theorem wm_791 : Cond.selects RX8 yX8_remove yX8_remove ∈ sm_tbl := sm_in (List.mem_append_right _ (List.mem_of_getElem? (i := 865) (by decide +kernel))) rfl
theorem wm_792 : Cond.code yX8_remove cX8_remove 2 (some .int) ∈ sm_tbl := sm_in (List.mem_append_right _ (List.mem_of_getElem? (i := 866) (by decide +kernel))) rfl
theorem wm_794 : Cond.methodLink RX8 210 yX8_tryRemove ∈ sm_tbl := sm_in (List.mem_append_right _ (List.mem_of_getElem? (i := 867) (by decide +kernel))) rfl
theorem wm_795 : Cond.instanceMethod yX8_tryRemove ∈ sm_tbl := sm_in (List.mem_append_right _ (List.mem_of_getElem? (i := 869) (by decide +kernel))) rfl
theorem wm_796 : Cond.code yX8_tryRemove cX8_tryRemove 4 (some .int) ∈ sm_tbl := sm_in (List.mem_append_right _ (List.mem_of_getElem? (i := 870) (by decide +kernel))) rfl
theorem wm_798 : Cond.methodLink RL 47 yX8_ofShuttle ∈ sm_tbl := sm_in (List.mem_append_right _ (List.mem_of_getElem? (i := 871) (by decide +kernel))) rfl
theorem wm_799 : Cond.instanceMethod yX8_ofShuttle ∈ sm_tbl := sm_in (List.mem_append_right _ (List.mem_of_getElem? (i := 872) (by decide +kernel))) rfl
theorem wm_800 : Cond.selects RX8 yX8_ofShuttle yX8_ofShuttle ∈ sm_tbl := sm_in (List.mem_append_right _ (List.mem_of_getElem? (i := 873) (by decide +kernel))) rfl
theorem wm_801 : Cond.code yX8_ofShuttle cX8_ofShuttle 3 (some .int) ∈ sm_tbl := sm_in (List.mem_append_right _ (List.mem_of_getElem? (i := 874) (by decide +kernel))) rfl
theorem wm_803 : Cond.methodLink RX8 167 yX8_run ∈ sm_tbl := sm_in (List.mem_append_right _ (List.mem_of_getElem? (i := 875) (by decide +kernel))) rfl
theorem wm_804 : Cond.instanceMethod yX8_run ∈ sm_tbl := sm_in (List.mem_append_right _ (List.mem_of_getElem? (i := 877) (by decide +kernel))) rfl
theorem wm_805 : Cond.code yX8_run cX8_run 3 none ∈ sm_tbl := sm_in (List.mem_append_right _ (List.mem_of_getElem? (i := 878) (by decide +kernel))) rfl
theorem wm_807 : Cond.methodLink RX8 134 yX8_isAsRun ∈ sm_tbl := sm_in (List.mem_append_right _ (List.mem_of_getElem? (i := 879) (by decide +kernel))) rfl
theorem wm_808 : Cond.instanceMethod yX8_isAsRun ∈ sm_tbl := sm_in (List.mem_append_right _ (List.mem_of_getElem? (i := 881) (by decide +kernel))) rfl
theorem wm_809 : Cond.code yX8_isAsRun cX8_isAsRun 3 (some .boolean) ∈ sm_tbl := sm_in (List.mem_append_right _ (List.mem_of_getElem? (i := 882) (by decide +kernel))) rfl
theorem wm_811 : Cond.methodLink RX8 138 yX8_beginDay ∈ sm_tbl := sm_in (List.mem_append_right _ (List.mem_of_getElem? (i := 883) (by decide +kernel))) rfl
theorem wm_812 : Cond.instanceMethod yX8_beginDay ∈ sm_tbl := sm_in (List.mem_append_right _ (List.mem_of_getElem? (i := 885) (by decide +kernel))) rfl
theorem wm_813 : Cond.code yX8_beginDay cX8_beginDay 2 none ∈ sm_tbl := sm_in (List.mem_append_right _ (List.mem_of_getElem? (i := 886) (by decide +kernel))) rfl
theorem wm_815 : Cond.methodLink RX8 141 yX8_come ∈ sm_tbl := sm_in (List.mem_append_right _ (List.mem_of_getElem? (i := 887) (by decide +kernel))) rfl
theorem wm_816 : Cond.instanceMethod yX8_come ∈ sm_tbl := sm_in (List.mem_append_right _ (List.mem_of_getElem? (i := 889) (by decide +kernel))) rfl
theorem wm_817 : Cond.code yX8_come cX8_come 4 none ∈ sm_tbl := sm_in (List.mem_append_right _ (List.mem_of_getElem? (i := 890) (by decide +kernel))) rfl
theorem wm_819 : Cond.methodLink RX8 95 yX8_way ∈ sm_tbl := sm_in (List.mem_append_right _ (List.mem_of_getElem? (i := 891) (by decide +kernel))) rfl
theorem wm_820 : Cond.instanceMethod yX8_way ∈ sm_tbl := sm_in (List.mem_append_right _ (List.mem_of_getElem? (i := 893) (by decide +kernel))) rfl
theorem wm_821 : Cond.code yX8_way cX8_way 2 (some .int) ∈ sm_tbl := sm_in (List.mem_append_right _ (List.mem_of_getElem? (i := 894) (by decide +kernel))) rfl
theorem wm_823 : Cond.methodLink RX8 145 yX8_meet ∈ sm_tbl := sm_in (List.mem_append_right _ (List.mem_of_getElem? (i := 895) (by decide +kernel))) rfl
theorem wm_824 : Cond.instanceMethod yX8_meet ∈ sm_tbl := sm_in (List.mem_append_right _ (List.mem_of_getElem? (i := 897) (by decide +kernel))) rfl
theorem wm_825 : Cond.code yX8_meet cX8_meet 5 none ∈ sm_tbl := sm_in (List.mem_append_right _ (List.mem_of_getElem? (i := 898) (by decide +kernel))) rfl
theorem wm_827 : Cond.methodLink RX8 148 yX8_leave ∈ sm_tbl := sm_in (List.mem_append_right _ (List.mem_of_getElem? (i := 899) (by decide +kernel))) rfl
theorem wm_828 : Cond.instanceMethod yX8_leave ∈ sm_tbl := sm_in (List.mem_append_right _ (List.mem_of_getElem? (i := 901) (by decide +kernel))) rfl
theorem wm_829 : Cond.code yX8_leave cX8_leave 3 none ∈ sm_tbl := sm_in (List.mem_append_right _ (List.mem_of_getElem? (i := 902) (by decide +kernel))) rfl
theorem wm_831 : Cond.methodLink RX8 124 yX8_nextToLeave ∈ sm_tbl := sm_in (List.mem_append_right _ (List.mem_of_getElem? (i := 903) (by decide +kernel))) rfl
theorem wm_832 : Cond.instanceMethod yX8_nextToLeave ∈ sm_tbl := sm_in (List.mem_append_right _ (List.mem_of_getElem? (i := 905) (by decide +kernel))) rfl
theorem wm_833 : Cond.code yX8_nextToLeave cX8_nextToLeave 4 (some .int) ∈ sm_tbl := sm_in (List.mem_append_right _ (List.mem_of_getElem? (i := 906) (by decide +kernel))) rfl
theorem wm_835 : Cond.methodLink RX8 118 yX8_canLeave ∈ sm_tbl := sm_in (List.mem_append_right _ (List.mem_of_getElem? (i := 907) (by decide +kernel))) rfl
theorem wm_836 : Cond.instanceMethod yX8_canLeave ∈ sm_tbl := sm_in (List.mem_append_right _ (List.mem_of_getElem? (i := 909) (by decide +kernel))) rfl
theorem wm_837 : Cond.code yX8_canLeave cX8_canLeave 4 (some .boolean) ∈ sm_tbl := sm_in (List.mem_append_right _ (List.mem_of_getElem? (i := 910) (by decide +kernel))) rfl
theorem wm_839 : Cond.methodLink RX8 102 yX8_isReady ∈ sm_tbl := sm_in (List.mem_append_right _ (List.mem_of_getElem? (i := 911) (by decide +kernel))) rfl
theorem wm_840 : Cond.instanceMethod yX8_isReady ∈ sm_tbl := sm_in (List.mem_append_right _ (List.mem_of_getElem? (i := 913) (by decide +kernel))) rfl
theorem wm_841 : Cond.code yX8_isReady cX8_isReady 3 (some .boolean) ∈ sm_tbl := sm_in (List.mem_append_right _ (List.mem_of_getElem? (i := 914) (by decide +kernel))) rfl
theorem wm_843 : Cond.methodLink RX8 99 yX8_readyAt ∈ sm_tbl := sm_in (List.mem_append_right _ (List.mem_of_getElem? (i := 915) (by decide +kernel))) rfl
theorem wm_844 : Cond.instanceMethod yX8_readyAt ∈ sm_tbl := sm_in (List.mem_append_right _ (List.mem_of_getElem? (i := 917) (by decide +kernel))) rfl
theorem wm_845 : Cond.code yX8_readyAt cX8_readyAt 2 (some .int) ∈ sm_tbl := sm_in (List.mem_append_right _ (List.mem_of_getElem? (i := 918) (by decide +kernel))) rfl
theorem wm_847 : Cond.methodLink RX8 106 yX8_stretchFrom ∈ sm_tbl := sm_in (List.mem_append_right _ (List.mem_of_getElem? (i := 919) (by decide +kernel))) rfl
theorem wm_848 : Cond.static yX8_stretchFrom ∈ sm_tbl := sm_in (List.mem_append_right _ (List.mem_of_getElem? (i := 920) (by decide +kernel))) rfl
theorem wm_849 : Cond.code yX8_stretchFrom cX8_stretchFrom 2 (some .int) ∈ sm_tbl := sm_in (List.mem_append_right _ (List.mem_of_getElem? (i := 921) (by decide +kernel))) rfl
theorem wm_851 : Cond.methodLink RX8 109 yX8_whoIsOn ∈ sm_tbl := sm_in (List.mem_append_right _ (List.mem_of_getElem? (i := 922) (by decide +kernel))) rfl
theorem wm_852 : Cond.instanceMethod yX8_whoIsOn ∈ sm_tbl := sm_in (List.mem_append_right _ (List.mem_of_getElem? (i := 924) (by decide +kernel))) rfl
theorem wm_853 : Cond.code yX8_whoIsOn cX8_whoIsOn 4 (some .int) ∈ sm_tbl := sm_in (List.mem_append_right _ (List.mem_of_getElem? (i := 925) (by decide +kernel))) rfl
theorem wm_855 : Cond.methodLink RX8 112 yX8_taken ∈ sm_tbl := sm_in (List.mem_append_right _ (List.mem_of_getElem? (i := 926) (by decide +kernel))) rfl
theorem wm_856 : Cond.instanceMethod yX8_taken ∈ sm_tbl := sm_in (List.mem_append_right _ (List.mem_of_getElem? (i := 928) (by decide +kernel))) rfl
theorem wm_857 : Cond.code yX8_taken cX8_taken 5 (some .int) ∈ sm_tbl := sm_in (List.mem_append_right _ (List.mem_of_getElem? (i := 929) (by decide +kernel))) rfl
theorem wm_859 : Cond.methodLink RX8 121 yX8_goesAhead ∈ sm_tbl := sm_in (List.mem_append_right _ (List.mem_of_getElem? (i := 930) (by decide +kernel))) rfl
theorem wm_860 : Cond.instanceMethod yX8_goesAhead ∈ sm_tbl := sm_in (List.mem_append_right _ (List.mem_of_getElem? (i := 932) (by decide +kernel))) rfl
theorem wm_861 : Cond.code yX8_goesAhead cX8_goesAhead 4 (some .boolean) ∈ sm_tbl := sm_in (List.mem_append_right _ (List.mem_of_getElem? (i := 933) (by decide +kernel))) rfl
theorem wm_863 : Cond.methodLink RX8 115 yX8_timeOf ∈ sm_tbl := sm_in (List.mem_append_right _ (List.mem_of_getElem? (i := 934) (by decide +kernel))) rfl
theorem wm_864 : Cond.instanceMethod yX8_timeOf ∈ sm_tbl := sm_in (List.mem_append_right _ (List.mem_of_getElem? (i := 936) (by decide +kernel))) rfl
theorem wm_865 : Cond.code yX8_timeOf cX8_timeOf 5 (some .int) ∈ sm_tbl := sm_in (List.mem_append_right _ (List.mem_of_getElem? (i := 937) (by decide +kernel))) rfl
theorem wm_867 : Cond.methodLink RX8 151 yX8_waitAll ∈ sm_tbl := sm_in (List.mem_append_right _ (List.mem_of_getElem? (i := 938) (by decide +kernel))) rfl
theorem wm_868 : Cond.instanceMethod yX8_waitAll ∈ sm_tbl := sm_in (List.mem_append_right _ (List.mem_of_getElem? (i := 940) (by decide +kernel))) rfl
theorem wm_869 : Cond.code yX8_waitAll cX8_waitAll 4 none ∈ sm_tbl := sm_in (List.mem_append_right _ (List.mem_of_getElem? (i := 941) (by decide +kernel))) rfl
theorem wm_871 : Cond.methodLink RX8 127 yX8_reason ∈ sm_tbl := sm_in (List.mem_append_right _ (List.mem_of_getElem? (i := 942) (by decide +kernel))) rfl
theorem wm_872 : Cond.instanceMethod yX8_reason ∈ sm_tbl := sm_in (List.mem_append_right _ (List.mem_of_getElem? (i := 944) (by decide +kernel))) rfl
theorem wm_873 : Cond.code yX8_reason cX8_reason 3 (some .int) ∈ sm_tbl := sm_in (List.mem_append_right _ (List.mem_of_getElem? (i := 945) (by decide +kernel))) rfl
theorem wm_875 : Cond.methodLink RX8 154 yX8_ends ∈ sm_tbl := sm_in (List.mem_append_right _ (List.mem_of_getElem? (i := 946) (by decide +kernel))) rfl
theorem wm_876 : Cond.instanceMethod yX8_ends ∈ sm_tbl := sm_in (List.mem_append_right _ (List.mem_of_getElem? (i := 948) (by decide +kernel))) rfl
theorem wm_877 : Cond.code yX8_ends cX8_ends 4 (some .boolean) ∈ sm_tbl := sm_in (List.mem_append_right _ (List.mem_of_getElem? (i := 949) (by decide +kernel))) rfl
theorem wm_879 : Cond.methodLink RX8 161 yX8_endOf ∈ sm_tbl := sm_in (List.mem_append_right _ (List.mem_of_getElem? (i := 950) (by decide +kernel))) rfl
theorem wm_880 : Cond.instanceMethod yX8_endOf ∈ sm_tbl := sm_in (List.mem_append_right _ (List.mem_of_getElem? (i := 952) (by decide +kernel))) rfl
theorem wm_881 : Cond.code yX8_endOf cX8_endOf 2 (some .int) ∈ sm_tbl := sm_in (List.mem_append_right _ (List.mem_of_getElem? (i := 953) (by decide +kernel))) rfl
theorem wm_883 : Cond.methodLink RX8 164 yX8_delayOf ∈ sm_tbl := sm_in (List.mem_append_right _ (List.mem_of_getElem? (i := 954) (by decide +kernel))) rfl
theorem wm_884 : Cond.instanceMethod yX8_delayOf ∈ sm_tbl := sm_in (List.mem_append_right _ (List.mem_of_getElem? (i := 956) (by decide +kernel))) rfl
theorem wm_885 : Cond.code yX8_delayOf cX8_delayOf 2 (some .int) ∈ sm_tbl := sm_in (List.mem_append_right _ (List.mem_of_getElem? (i := 957) (by decide +kernel))) rfl
theorem wm_887 : Cond.methodLink RX8 214 yX8_waited ∈ sm_tbl := sm_in (List.mem_append_right _ (List.mem_of_getElem? (i := 958) (by decide +kernel))) rfl
theorem wm_888 : Cond.instanceMethod yX8_waited ∈ sm_tbl := sm_in (List.mem_append_right _ (List.mem_of_getElem? (i := 960) (by decide +kernel))) rfl
theorem wm_889 : Cond.code yX8_waited cX8_waited 2 (some .int) ∈ sm_tbl := sm_in (List.mem_append_right _ (List.mem_of_getElem? (i := 961) (by decide +kernel))) rfl
theorem wm_891 : Cond.methodLink RX8 217 yX8_blamed ∈ sm_tbl := sm_in (List.mem_append_right _ (List.mem_of_getElem? (i := 962) (by decide +kernel))) rfl
theorem wm_892 : Cond.instanceMethod yX8_blamed ∈ sm_tbl := sm_in (List.mem_append_right _ (List.mem_of_getElem? (i := 964) (by decide +kernel))) rfl
theorem wm_893 : Cond.code yX8_blamed cX8_blamed 5 (some .int) ∈ sm_tbl := sm_in (List.mem_append_right _ (List.mem_of_getElem? (i := 965) (by decide +kernel))) rfl
theorem wm_895 : Cond.methodLink RL 51 yX8_count ∈ sm_tbl := sm_in (List.mem_append_right _ (List.mem_of_getElem? (i := 966) (by decide +kernel))) rfl
theorem wm_896 : Cond.instanceMethod yX8_count ∈ sm_tbl := sm_in (List.mem_append_right _ (List.mem_of_getElem? (i := 967) (by decide +kernel))) rfl
theorem wm_897 : Cond.selects RX8 yX8_count yX8_count ∈ sm_tbl := sm_in (List.mem_append_right _ (List.mem_of_getElem? (i := 968) (by decide +kernel))) rfl
theorem wm_898 : Cond.code yX8_count cX8_count 2 (some .int) ∈ sm_tbl := sm_in (List.mem_append_right _ (List.mem_of_getElem? (i := 969) (by decide +kernel))) rfl
theorem wm_900 : Cond.methodLink RL 55 yX8_day ∈ sm_tbl := sm_in (List.mem_append_right _ (List.mem_of_getElem? (i := 970) (by decide +kernel))) rfl
theorem wm_901 : Cond.instanceMethod yX8_day ∈ sm_tbl := sm_in (List.mem_append_right _ (List.mem_of_getElem? (i := 971) (by decide +kernel))) rfl
theorem wm_902 : Cond.selects RX8 yX8_day yX8_day ∈ sm_tbl := sm_in (List.mem_append_right _ (List.mem_of_getElem? (i := 972) (by decide +kernel))) rfl
theorem wm_903 : Cond.code yX8_day cX8_day 2 (some .int) ∈ sm_tbl := sm_in (List.mem_append_right _ (List.mem_of_getElem? (i := 973) (by decide +kernel))) rfl
theorem wm_905 : Cond.methodLink RX8 170 yX8_delay ∈ sm_tbl := sm_in (List.mem_append_right _ (List.mem_of_getElem? (i := 974) (by decide +kernel))) rfl
theorem wm_906 : Cond.instanceMethod yX8_delay ∈ sm_tbl := sm_in (List.mem_append_right _ (List.mem_of_getElem? (i := 976) (by decide +kernel))) rfl
theorem wm_907 : Cond.code yX8_delay cX8_delay 3 (some .int) ∈ sm_tbl := sm_in (List.mem_append_right _ (List.mem_of_getElem? (i := 977) (by decide +kernel))) rfl
theorem wm_909 : Cond.methodLink RX8 223 yX8_meetings ∈ sm_tbl := sm_in (List.mem_append_right _ (List.mem_of_getElem? (i := 978) (by decide +kernel))) rfl
theorem wm_910 : Cond.instanceMethod yX8_meetings ∈ sm_tbl := sm_in (List.mem_append_right _ (List.mem_of_getElem? (i := 980) (by decide +kernel))) rfl
theorem wm_911 : Cond.code yX8_meetings cX8_meetings 3 (some .int) ∈ sm_tbl := sm_in (List.mem_append_right _ (List.mem_of_getElem? (i := 981) (by decide +kernel))) rfl
theorem wm_913 : Cond.methodLink RX8 226 yX8_allWaits ∈ sm_tbl := sm_in (List.mem_append_right _ (List.mem_of_getElem? (i := 982) (by decide +kernel))) rfl
theorem wm_914 : Cond.instanceMethod yX8_allWaits ∈ sm_tbl := sm_in (List.mem_append_right _ (List.mem_of_getElem? (i := 984) (by decide +kernel))) rfl
theorem wm_915 : Cond.code yX8_allWaits cX8_allWaits 3 (some .int) ∈ sm_tbl := sm_in (List.mem_append_right _ (List.mem_of_getElem? (i := 985) (by decide +kernel))) rfl
theorem wm_917 : Cond.methodLink RX8 229 yX8_greatestDelay ∈ sm_tbl := sm_in (List.mem_append_right _ (List.mem_of_getElem? (i := 986) (by decide +kernel))) rfl
theorem wm_918 : Cond.instanceMethod yX8_greatestDelay ∈ sm_tbl := sm_in (List.mem_append_right _ (List.mem_of_getElem? (i := 988) (by decide +kernel))) rfl
theorem wm_919 : Cond.code yX8_greatestDelay cX8_greatestDelay 3 (some .int) ∈ sm_tbl := sm_in (List.mem_append_right _ (List.mem_of_getElem? (i := 989) (by decide +kernel))) rfl
theorem wm_921 : Cond.methodLink RL 59 yX8_at ∈ sm_tbl := sm_in (List.mem_append_right _ (List.mem_of_getElem? (i := 990) (by decide +kernel))) rfl
theorem wm_922 : Cond.instanceMethod yX8_at ∈ sm_tbl := sm_in (List.mem_append_right _ (List.mem_of_getElem? (i := 991) (by decide +kernel))) rfl
theorem wm_923 : Cond.selects RX8 yX8_at yX8_at ∈ sm_tbl := sm_in (List.mem_append_right _ (List.mem_of_getElem? (i := 992) (by decide +kernel))) rfl
theorem wm_924 : Cond.code yX8_at cX8_at 3 (some .int) ∈ sm_tbl := sm_in (List.mem_append_right _ (List.mem_of_getElem? (i := 993) (by decide +kernel))) rfl
theorem wm_926 : Cond.methodLink RX8 238 yX8_placeIn ∈ sm_tbl := sm_in (List.mem_append_right _ (List.mem_of_getElem? (i := 994) (by decide +kernel))) rfl
theorem wm_927 : Cond.instanceMethod yX8_placeIn ∈ sm_tbl := sm_in (List.mem_append_right _ (List.mem_of_getElem? (i := 996) (by decide +kernel))) rfl
theorem wm_928 : Cond.code yX8_placeIn cX8_placeIn 4 (some .int) ∈ sm_tbl := sm_in (List.mem_append_right _ (List.mem_of_getElem? (i := 997) (by decide +kernel))) rfl
theorem wm_930 : Cond.methodLink RX8 232 yX8_stationIn ∈ sm_tbl := sm_in (List.mem_append_right _ (List.mem_of_getElem? (i := 998) (by decide +kernel))) rfl
theorem wm_931 : Cond.instanceMethod yX8_stationIn ∈ sm_tbl := sm_in (List.mem_append_right _ (List.mem_of_getElem? (i := 1000) (by decide +kernel))) rfl
theorem wm_932 : Cond.code yX8_stationIn cX8_stationIn 4 (some .int) ∈ sm_tbl := sm_in (List.mem_append_right _ (List.mem_of_getElem? (i := 1001) (by decide +kernel))) rfl
theorem wm_934 : Cond.methodLink RX8 235 yX8_hasLeft ∈ sm_tbl := sm_in (List.mem_append_right _ (List.mem_of_getElem? (i := 1002) (by decide +kernel))) rfl
theorem wm_935 : Cond.instanceMethod yX8_hasLeft ∈ sm_tbl := sm_in (List.mem_append_right _ (List.mem_of_getElem? (i := 1004) (by decide +kernel))) rfl
theorem wm_936 : Cond.code yX8_hasLeft cX8_hasLeft 4 (some .boolean) ∈ sm_tbl := sm_in (List.mem_append_right _ (List.mem_of_getElem? (i := 1005) (by decide +kernel))) rfl
theorem wm_938 : Cond.methodLink RL 64 yX8_when ∈ sm_tbl := sm_in (List.mem_append_right _ (List.mem_of_getElem? (i := 1006) (by decide +kernel))) rfl
theorem wm_939 : Cond.instanceMethod yX8_when ∈ sm_tbl := sm_in (List.mem_append_right _ (List.mem_of_getElem? (i := 1007) (by decide +kernel))) rfl
theorem wm_940 : Cond.selects RX8 yX8_when yX8_when ∈ sm_tbl := sm_in (List.mem_append_right _ (List.mem_of_getElem? (i := 1008) (by decide +kernel))) rfl
theorem wm_941 : Cond.code yX8_when cX8_when 4 (some .int) ∈ sm_tbl := sm_in (List.mem_append_right _ (List.mem_of_getElem? (i := 1009) (by decide +kernel))) rfl
theorem wm_943 : Cond.methodLink RL 68 yX8_why ∈ sm_tbl := sm_in (List.mem_append_right _ (List.mem_of_getElem? (i := 1010) (by decide +kernel))) rfl
theorem wm_944 : Cond.instanceMethod yX8_why ∈ sm_tbl := sm_in (List.mem_append_right _ (List.mem_of_getElem? (i := 1011) (by decide +kernel))) rfl
theorem wm_945 : Cond.selects RX8 yX8_why yX8_why ∈ sm_tbl := sm_in (List.mem_append_right _ (List.mem_of_getElem? (i := 1012) (by decide +kernel))) rfl
theorem wm_946 : Cond.code yX8_why cX8_why 3 (some .int) ∈ sm_tbl := sm_in (List.mem_append_right _ (List.mem_of_getElem? (i := 1013) (by decide +kernel))) rfl
theorem wm_948 : Cond.methodLink RX8 241 yX8_reasonIn ∈ sm_tbl := sm_in (List.mem_append_right _ (List.mem_of_getElem? (i := 1014) (by decide +kernel))) rfl
theorem wm_949 : Cond.instanceMethod yX8_reasonIn ∈ sm_tbl := sm_in (List.mem_append_right _ (List.mem_of_getElem? (i := 1016) (by decide +kernel))) rfl
theorem wm_950 : Cond.code yX8_reasonIn cX8_reasonIn 7 (some .int) ∈ sm_tbl := sm_in (List.mem_append_right _ (List.mem_of_getElem? (i := 1017) (by decide +kernel))) rfl
theorem wm_952 : Cond.methodLink RL 72 yX8_meeting ∈ sm_tbl := sm_in (List.mem_append_right _ (List.mem_of_getElem? (i := 1018) (by decide +kernel))) rfl
theorem wm_953 : Cond.instanceMethod yX8_meeting ∈ sm_tbl := sm_in (List.mem_append_right _ (List.mem_of_getElem? (i := 1019) (by decide +kernel))) rfl
theorem wm_954 : Cond.selects RX8 yX8_meeting yX8_meeting ∈ sm_tbl := sm_in (List.mem_append_right _ (List.mem_of_getElem? (i := 1020) (by decide +kernel))) rfl
theorem wm_955 : Cond.code yX8_meeting cX8_meeting 4 (some .int) ∈ sm_tbl := sm_in (List.mem_append_right _ (List.mem_of_getElem? (i := 1021) (by decide +kernel))) rfl
theorem wm_957 : Cond.methodLink RX8 247 yX8_ahead ∈ sm_tbl := sm_in (List.mem_append_right _ (List.mem_of_getElem? (i := 1022) (by decide +kernel))) rfl
theorem wm_958 : Cond.instanceMethod yX8_ahead ∈ sm_tbl := sm_in (List.mem_append_right _ (List.mem_of_getElem? (i := 1024) (by decide +kernel))) rfl
theorem wm_959 : Cond.code yX8_ahead cX8_ahead 4 (some .int) ∈ sm_tbl := sm_in (List.mem_append_right _ (List.mem_of_getElem? (i := 1025) (by decide +kernel))) rfl
theorem wm_961 : Cond.methodLink RX8 244 yX8_isAhead ∈ sm_tbl := sm_in (List.mem_append_right _ (List.mem_of_getElem? (i := 1026) (by decide +kernel))) rfl
theorem wm_962 : Cond.instanceMethod yX8_isAhead ∈ sm_tbl := sm_in (List.mem_append_right _ (List.mem_of_getElem? (i := 1028) (by decide +kernel))) rfl
theorem wm_963 : Cond.code yX8_isAhead cX8_isAhead 3 (some .boolean) ∈ sm_tbl := sm_in (List.mem_append_right _ (List.mem_of_getElem? (i := 1029) (by decide +kernel))) rfl
theorem wm_965 : Cond.methodLink RL 76 yX8_delayIfLate ∈ sm_tbl := sm_in (List.mem_append_right _ (List.mem_of_getElem? (i := 1030) (by decide +kernel))) rfl
theorem wm_966 : Cond.instanceMethod yX8_delayIfLate ∈ sm_tbl := sm_in (List.mem_append_right _ (List.mem_of_getElem? (i := 1031) (by decide +kernel))) rfl
theorem wm_967 : Cond.selects RX8 yX8_delayIfLate yX8_delayIfLate ∈ sm_tbl := sm_in (List.mem_append_right _ (List.mem_of_getElem? (i := 1032) (by decide +kernel))) rfl
theorem wm_968 : Cond.code yX8_delayIfLate cX8_delayIfLate 5 (some .int) ∈ sm_tbl := sm_in (List.mem_append_right _ (List.mem_of_getElem? (i := 1033) (by decide +kernel))) rfl
theorem wm_970 : Cond.methodLink RX8 250 yX8_layAside ∈ sm_tbl := sm_in (List.mem_append_right _ (List.mem_of_getElem? (i := 1034) (by decide +kernel))) rfl
theorem wm_971 : Cond.instanceMethod yX8_layAside ∈ sm_tbl := sm_in (List.mem_append_right _ (List.mem_of_getElem? (i := 1036) (by decide +kernel))) rfl
theorem wm_972 : Cond.code yX8_layAside cX8_layAside 2 none ∈ sm_tbl := sm_in (List.mem_append_right _ (List.mem_of_getElem? (i := 1037) (by decide +kernel))) rfl
theorem wm_974 : Cond.methodLink RX8 253 yX8_delayNow ∈ sm_tbl := sm_in (List.mem_append_right _ (List.mem_of_getElem? (i := 1038) (by decide +kernel))) rfl
theorem wm_975 : Cond.instanceMethod yX8_delayNow ∈ sm_tbl := sm_in (List.mem_append_right _ (List.mem_of_getElem? (i := 1040) (by decide +kernel))) rfl
theorem wm_976 : Cond.code yX8_delayNow cX8_delayNow 1 (some .int) ∈ sm_tbl := sm_in (List.mem_append_right _ (List.mem_of_getElem? (i := 1041) (by decide +kernel))) rfl
theorem wm_978 : Cond.methodLink RX8 256 yX8_layBack ∈ sm_tbl := sm_in (List.mem_append_right _ (List.mem_of_getElem? (i := 1042) (by decide +kernel))) rfl
theorem wm_979 : Cond.instanceMethod yX8_layBack ∈ sm_tbl := sm_in (List.mem_append_right _ (List.mem_of_getElem? (i := 1044) (by decide +kernel))) rfl
theorem wm_980 : Cond.code yX8_layBack cX8_layBack 2 none ∈ sm_tbl := sm_in (List.mem_append_right _ (List.mem_of_getElem? (i := 1045) (by decide +kernel))) rfl
theorem wm_982 : Cond.methodLink RL 80 yX8_delayIfSlow ∈ sm_tbl := sm_in (List.mem_append_right _ (List.mem_of_getElem? (i := 1046) (by decide +kernel))) rfl
theorem wm_983 : Cond.instanceMethod yX8_delayIfSlow ∈ sm_tbl := sm_in (List.mem_append_right _ (List.mem_of_getElem? (i := 1047) (by decide +kernel))) rfl
theorem wm_984 : Cond.selects RX8 yX8_delayIfSlow yX8_delayIfSlow ∈ sm_tbl := sm_in (List.mem_append_right _ (List.mem_of_getElem? (i := 1048) (by decide +kernel))) rfl
theorem wm_985 : Cond.code yX8_delayIfSlow cX8_delayIfSlow 5 (some .int) ∈ sm_tbl := sm_in (List.mem_append_right _ (List.mem_of_getElem? (i := 1049) (by decide +kernel))) rfl
theorem wm_987 : Cond.methodLink RL 84 yX8_bestTrack ∈ sm_tbl := sm_in (List.mem_append_right _ (List.mem_of_getElem? (i := 1050) (by decide +kernel))) rfl
theorem wm_988 : Cond.instanceMethod yX8_bestTrack ∈ sm_tbl := sm_in (List.mem_append_right _ (List.mem_of_getElem? (i := 1051) (by decide +kernel))) rfl
theorem wm_989 : Cond.selects RX8 yX8_bestTrack yX8_bestTrack ∈ sm_tbl := sm_in (List.mem_append_right _ (List.mem_of_getElem? (i := 1052) (by decide +kernel))) rfl
theorem wm_990 : Cond.code yX8_bestTrack cX8_bestTrack 6 (some .int) ∈ sm_tbl := sm_in (List.mem_append_right _ (List.mem_of_getElem? (i := 1053) (by decide +kernel))) rfl
theorem wm_992 : Cond.methodLink RL 88 yX8_bestOrder ∈ sm_tbl := sm_in (List.mem_append_right _ (List.mem_of_getElem? (i := 1054) (by decide +kernel))) rfl
theorem wm_993 : Cond.instanceMethod yX8_bestOrder ∈ sm_tbl := sm_in (List.mem_append_right _ (List.mem_of_getElem? (i := 1055) (by decide +kernel))) rfl
theorem wm_994 : Cond.selects RX8 yX8_bestOrder yX8_bestOrder ∈ sm_tbl := sm_in (List.mem_append_right _ (List.mem_of_getElem? (i := 1056) (by decide +kernel))) rfl
theorem wm_995 : Cond.code yX8_bestOrder cX8_bestOrder 6 (some .int) ∈ sm_tbl := sm_in (List.mem_append_right _ (List.mem_of_getElem? (i := 1057) (by decide +kernel))) rfl
theorem wm_997 : Cond.methodLink RX8 259 yX8_orders ∈ sm_tbl := sm_in (List.mem_append_right _ (List.mem_of_getElem? (i := 1058) (by decide +kernel))) rfl
theorem wm_998 : Cond.instanceMethod yX8_orders ∈ sm_tbl := sm_in (List.mem_append_right _ (List.mem_of_getElem? (i := 1060) (by decide +kernel))) rfl
theorem wm_999 : Cond.code yX8_orders cX8_orders 3 (some .int) ∈ sm_tbl := sm_in (List.mem_append_right _ (List.mem_of_getElem? (i := 1061) (by decide +kernel))) rfl
theorem wm_1001 : Cond.methodLink RX8 262 yX8_layOrder ∈ sm_tbl := sm_in (List.mem_append_right _ (List.mem_of_getElem? (i := 1062) (by decide +kernel))) rfl
theorem wm_1002 : Cond.instanceMethod yX8_layOrder ∈ sm_tbl := sm_in (List.mem_append_right _ (List.mem_of_getElem? (i := 1064) (by decide +kernel))) rfl
theorem wm_1003 : Cond.code yX8_layOrder cX8_layOrder 6 (some .boolean) ∈ sm_tbl := sm_in (List.mem_append_right _ (List.mem_of_getElem? (i := 1065) (by decide +kernel))) rfl
theorem wm_1005 : Cond.methodLink RX8 265 yX8_delayInOrder ∈ sm_tbl := sm_in (List.mem_append_right _ (List.mem_of_getElem? (i := 1066) (by decide +kernel))) rfl
theorem wm_1006 : Cond.instanceMethod yX8_delayInOrder ∈ sm_tbl := sm_in (List.mem_append_right _ (List.mem_of_getElem? (i := 1068) (by decide +kernel))) rfl
theorem wm_1007 : Cond.code yX8_delayInOrder cX8_delayInOrder 2 (some .int) ∈ sm_tbl := sm_in (List.mem_append_right _ (List.mem_of_getElem? (i := 1069) (by decide +kernel))) rfl
theorem wm_1009 : Cond.methodLink RL 95 yX8_put ∈ sm_tbl := sm_in (List.mem_append_right _ (List.mem_of_getElem? (i := 1070) (by decide +kernel))) rfl
theorem wm_1010 : Cond.instanceMethod yX8_put ∈ sm_tbl := sm_in (List.mem_append_right _ (List.mem_of_getElem? (i := 1071) (by decide +kernel))) rfl
theorem wm_1011 : Cond.selects RX8 yX8_put yX8_put ∈ sm_tbl := sm_in (List.mem_append_right _ (List.mem_of_getElem? (i := 1072) (by decide +kernel))) rfl
theorem wm_1012 : Cond.code yX8_put cX8_put 7 (some .int) ∈ sm_tbl := sm_in (List.mem_append_right _ (List.mem_of_getElem? (i := 1073) (by decide +kernel))) rfl
theorem wm_1014 : Cond.constantLong RX8 268 255 ∈ sm_tbl := sm_in (List.mem_append_right _ (List.mem_of_getElem? (i := 1074) (by decide +kernel))) rfl
theorem wm_1016 : Cond.methodLink RL 100 yX8_wipe ∈ sm_tbl := sm_in (List.mem_append_right _ (List.mem_of_getElem? (i := 1075) (by decide +kernel))) rfl
theorem wm_1017 : Cond.instanceMethod yX8_wipe ∈ sm_tbl := sm_in (List.mem_append_right _ (List.mem_of_getElem? (i := 1076) (by decide +kernel))) rfl
theorem wm_1018 : Cond.selects RX8 yX8_wipe yX8_wipe ∈ sm_tbl := sm_in (List.mem_append_right _ (List.mem_of_getElem? (i := 1077) (by decide +kernel))) rfl
theorem wm_1019 : Cond.code yX8_wipe cX8_wipe 2 (some .int) ∈ sm_tbl := sm_in (List.mem_append_right _ (List.mem_of_getElem? (i := 1078) (by decide +kernel))) rfl
theorem wm_1021 : Cond.methodLink RL 104 yX8_fault ∈ sm_tbl := sm_in (List.mem_append_right _ (List.mem_of_getElem? (i := 1079) (by decide +kernel))) rfl
theorem wm_1022 : Cond.instanceMethod yX8_fault ∈ sm_tbl := sm_in (List.mem_append_right _ (List.mem_of_getElem? (i := 1080) (by decide +kernel))) rfl
theorem wm_1023 : Cond.selects RX8 yX8_fault yX8_fault ∈ sm_tbl := sm_in (List.mem_append_right _ (List.mem_of_getElem? (i := 1081) (by decide +kernel))) rfl
theorem wm_1024 : Cond.code yX8_fault cX8_fault 1 (some .int) ∈ sm_tbl := sm_in (List.mem_append_right _ (List.mem_of_getElem? (i := 1082) (by decide +kernel))) rfl
theorem wm_1026 : Cond.methodLink RX8 295 yX8_takeOrder ∈ sm_tbl := sm_in (List.mem_append_right _ (List.mem_of_getElem? (i := 1083) (by decide +kernel))) rfl
theorem wm_1027 : Cond.instanceMethod yX8_takeOrder ∈ sm_tbl := sm_in (List.mem_append_right _ (List.mem_of_getElem? (i := 1085) (by decide +kernel))) rfl
theorem wm_1028 : Cond.code yX8_takeOrder cX8_takeOrder 2 none ∈ sm_tbl := sm_in (List.mem_append_right _ (List.mem_of_getElem? (i := 1086) (by decide +kernel))) rfl
theorem wm_1030 : Cond.methodLink RX8 276 yX8_next ∈ sm_tbl := sm_in (List.mem_append_right _ (List.mem_of_getElem? (i := 1087) (by decide +kernel))) rfl
theorem wm_1031 : Cond.instanceMethod yX8_next ∈ sm_tbl := sm_in (List.mem_append_right _ (List.mem_of_getElem? (i := 1089) (by decide +kernel))) rfl
theorem wm_1032 : Cond.code yX8_next cX8_next 1 (some .int) ∈ sm_tbl := sm_in (List.mem_append_right _ (List.mem_of_getElem? (i := 1090) (by decide +kernel))) rfl
theorem wm_1034 : Cond.methodLink RX8 292 yX8_takeShuttle ∈ sm_tbl := sm_in (List.mem_append_right _ (List.mem_of_getElem? (i := 1091) (by decide +kernel))) rfl
theorem wm_1035 : Cond.instanceMethod yX8_takeShuttle ∈ sm_tbl := sm_in (List.mem_append_right _ (List.mem_of_getElem? (i := 1093) (by decide +kernel))) rfl
theorem wm_1036 : Cond.code yX8_takeShuttle cX8_takeShuttle 1 none ∈ sm_tbl := sm_in (List.mem_append_right _ (List.mem_of_getElem? (i := 1094) (by decide +kernel))) rfl
theorem wm_1038 : Cond.methodLink RX8 282 yX8_takeOne ∈ sm_tbl := sm_in (List.mem_append_right _ (List.mem_of_getElem? (i := 1095) (by decide +kernel))) rfl
theorem wm_1039 : Cond.instanceMethod yX8_takeOne ∈ sm_tbl := sm_in (List.mem_append_right _ (List.mem_of_getElem? (i := 1097) (by decide +kernel))) rfl
theorem wm_1040 : Cond.code yX8_takeOne cX8_takeOne 3 none ∈ sm_tbl := sm_in (List.mem_append_right _ (List.mem_of_getElem? (i := 1098) (by decide +kernel))) rfl
theorem wm_1042 : Cond.methodLink RX8 286 yX8_takeSign ∈ sm_tbl := sm_in (List.mem_append_right _ (List.mem_of_getElem? (i := 1099) (by decide +kernel))) rfl
theorem wm_1043 : Cond.instanceMethod yX8_takeSign ∈ sm_tbl := sm_in (List.mem_append_right _ (List.mem_of_getElem? (i := 1101) (by decide +kernel))) rfl
theorem wm_1044 : Cond.code yX8_takeSign cX8_takeSign 2 none ∈ sm_tbl := sm_in (List.mem_append_right _ (List.mem_of_getElem? (i := 1102) (by decide +kernel))) rfl
theorem wm_1046 : Cond.methodLink RX8 289 yX8_takeNumber ∈ sm_tbl := sm_in (List.mem_append_right _ (List.mem_of_getElem? (i := 1103) (by decide +kernel))) rfl
theorem wm_1047 : Cond.instanceMethod yX8_takeNumber ∈ sm_tbl := sm_in (List.mem_append_right _ (List.mem_of_getElem? (i := 1105) (by decide +kernel))) rfl
theorem wm_1048 : Cond.code yX8_takeNumber cX8_takeNumber 3 none ∈ sm_tbl := sm_in (List.mem_append_right _ (List.mem_of_getElem? (i := 1106) (by decide +kernel))) rfl
theorem wm_1050 : Cond.methodLink RL 108 yX8_carryOut ∈ sm_tbl := sm_in (List.mem_append_right _ (List.mem_of_getElem? (i := 1107) (by decide +kernel))) rfl
theorem wm_1051 : Cond.instanceMethod yX8_carryOut ∈ sm_tbl := sm_in (List.mem_append_right _ (List.mem_of_getElem? (i := 1108) (by decide +kernel))) rfl
theorem wm_1052 : Cond.selects RX8 yX8_carryOut yX8_carryOut ∈ sm_tbl := sm_in (List.mem_append_right _ (List.mem_of_getElem? (i := 1109) (by decide +kernel))) rfl
theorem wm_1053 : Cond.code yX8_carryOut cX8_carryOut 2 (some .int) ∈ sm_tbl := sm_in (List.mem_append_right _ (List.mem_of_getElem? (i := 1110) (by decide +kernel))) rfl
theorem wm_1055 : Cond.methodLink RX8 298 yX8_fault ∈ sm_tbl := sm_in (List.mem_append_right _ (List.mem_of_getElem? (i := 1111) (by decide +kernel))) rfl
theorem wm_1056 : Cond.methodLink RX8 301 yX8_carry ∈ sm_tbl := sm_in (List.mem_append_right _ (List.mem_of_getElem? (i := 1112) (by decide +kernel))) rfl
theorem wm_1057 : Cond.instanceMethod yX8_carry ∈ sm_tbl := sm_in (List.mem_append_right _ (List.mem_of_getElem? (i := 1114) (by decide +kernel))) rfl
theorem wm_1058 : Cond.code yX8_carry cX8_carry 3 (some .int) ∈ sm_tbl := sm_in (List.mem_append_right _ (List.mem_of_getElem? (i := 1115) (by decide +kernel))) rfl
theorem wm_1060 : Cond.methodLink RL 112 yX8_undo ∈ sm_tbl := sm_in (List.mem_append_right _ (List.mem_of_getElem? (i := 1116) (by decide +kernel))) rfl
theorem wm_1061 : Cond.instanceMethod yX8_undo ∈ sm_tbl := sm_in (List.mem_append_right _ (List.mem_of_getElem? (i := 1117) (by decide +kernel))) rfl
theorem wm_1062 : Cond.selects RX8 yX8_undo yX8_undo ∈ sm_tbl := sm_in (List.mem_append_right _ (List.mem_of_getElem? (i := 1118) (by decide +kernel))) rfl
theorem wm_1063 : Cond.code yX8_undo cX8_undo 3 (some .int) ∈ sm_tbl := sm_in (List.mem_append_right _ (List.mem_of_getElem? (i := 1119) (by decide +kernel))) rfl
theorem wm_1065 : Cond.methodLink RL 116 yX8_save ∈ sm_tbl := sm_in (List.mem_append_right _ (List.mem_of_getElem? (i := 1120) (by decide +kernel))) rfl
theorem wm_1066 : Cond.instanceMethod yX8_save ∈ sm_tbl := sm_in (List.mem_append_right _ (List.mem_of_getElem? (i := 1121) (by decide +kernel))) rfl
theorem wm_1067 : Cond.selects RX8 yX8_save yX8_save ∈ sm_tbl := sm_in (List.mem_append_right _ (List.mem_of_getElem? (i := 1122) (by decide +kernel))) rfl
theorem wm_1068 : Cond.code yX8_save cX8_save 3 (some .int) ∈ sm_tbl := sm_in (List.mem_append_right _ (List.mem_of_getElem? (i := 1123) (by decide +kernel))) rfl
theorem wm_1070 : Cond.methodLink RL 120 yX8_restore ∈ sm_tbl := sm_in (List.mem_append_right _ (List.mem_of_getElem? (i := 1124) (by decide +kernel))) rfl
theorem wm_1071 : Cond.instanceMethod yX8_restore ∈ sm_tbl := sm_in (List.mem_append_right _ (List.mem_of_getElem? (i := 1125) (by decide +kernel))) rfl
theorem wm_1072 : Cond.selects RX8 yX8_restore yX8_restore ∈ sm_tbl := sm_in (List.mem_append_right _ (List.mem_of_getElem? (i := 1126) (by decide +kernel))) rfl
theorem wm_1073 : Cond.code yX8_restore cX8_restore 3 (some .int) ∈ sm_tbl := sm_in (List.mem_append_right _ (List.mem_of_getElem? (i := 1127) (by decide +kernel))) rfl
theorem wm_1075 : Cond.constantLong RL 89 4294967295 ∈ sm_tbl := sm_in (List.mem_append_right _ (List.mem_of_getElem? (i := 1128) (by decide +kernel))) rfl
theorem wm_1077 : Cond.selects RX7 yX7_changed yX7_changed ∈ sm_tbl := sm_in (List.mem_append_left _ (List.mem_of_getElem? (i := 0) (by decide +kernel))) rfl
theorem wm_1078 : Cond.selects RX1 yX1_dropOldest yX1_dropOldest ∈ sm_tbl := sm_in (List.mem_append_left _ (List.mem_of_getElem? (i := 1) (by decide +kernel))) rfl
theorem wm_1079 : Cond.selects RX0 yX0_putOutside yX0_putOutside ∈ sm_tbl := sm_in (List.mem_append_left _ (List.mem_of_getElem? (i := 2) (by decide +kernel))) rfl
theorem wm_1080 : Cond.selects RX0 yX0_stand yX0_stand ∈ sm_tbl := sm_in (List.mem_append_left _ (List.mem_of_getElem? (i := 3) (by decide +kernel))) rfl
theorem wm_1081 : Cond.selects RX0 yX0_comeIn yX0_comeIn ∈ sm_tbl := sm_in (List.mem_append_left _ (List.mem_of_getElem? (i := 4) (by decide +kernel))) rfl
theorem wm_1082 : Cond.selects RX0 yX0_letLeave yX0_letLeave ∈ sm_tbl := sm_in (List.mem_append_left _ (List.mem_of_getElem? (i := 5) (by decide +kernel))) rfl
theorem wm_1083 : Cond.selects RX0 yX0_firstToLeave yX0_firstToLeave ∈ sm_tbl := sm_in (List.mem_append_left _ (List.mem_of_getElem? (i := 6) (by decide +kernel))) rfl
theorem wm_1084 : Cond.selects RX0 yX0_canLeave yX0_canLeave ∈ sm_tbl := sm_in (List.mem_append_left _ (List.mem_of_getElem? (i := 7) (by decide +kernel))) rfl
theorem wm_1085 : Cond.selects RX0 yX0_isAtEnd yX0_isAtEnd ∈ sm_tbl := sm_in (List.mem_append_left _ (List.mem_of_getElem? (i := 8) (by decide +kernel))) rfl
theorem wm_1086 : Cond.selects RX0 yX0_goesBefore yX0_goesBefore ∈ sm_tbl := sm_in (List.mem_append_left _ (List.mem_of_getElem? (i := 9) (by decide +kernel))) rfl
theorem wm_1087 : Cond.selects RX0 yX0_leave yX0_leave ∈ sm_tbl := sm_in (List.mem_append_left _ (List.mem_of_getElem? (i := 10) (by decide +kernel))) rfl
theorem wm_1088 : Cond.selects RX0 yX0_nextEvent yX0_nextEvent ∈ sm_tbl := sm_in (List.mem_append_left _ (List.mem_of_getElem? (i := 11) (by decide +kernel))) rfl
theorem wm_1089 : Cond.selects RX0 yX0_notAtEnd yX0_notAtEnd ∈ sm_tbl := sm_in (List.mem_append_left _ (List.mem_of_getElem? (i := 12) (by decide +kernel))) rfl
theorem wm_1090 : Cond.selects RX6 yX6_gatherAt yX6_gatherAt ∈ sm_tbl := sm_in (List.mem_append_left _ (List.mem_of_getElem? (i := 13) (by decide +kernel))) rfl
theorem wm_1091 : Cond.selects RX3 yX3_gatherPair yX3_gatherPair ∈ sm_tbl := sm_in (List.mem_append_left _ (List.mem_of_getElem? (i := 14) (by decide +kernel))) rfl
theorem wm_1092 : Cond.selects RX3 yX3_insert yX3_insert ∈ sm_tbl := sm_in (List.mem_append_left _ (List.mem_of_getElem? (i := 15) (by decide +kernel))) rfl
theorem wm_1093 : Cond.selects RX7 yX7_trialDelay yX7_trialDelay ∈ sm_tbl := sm_in (List.mem_append_left _ (List.mem_of_getElem? (i := 16) (by decide +kernel))) rfl
theorem wm_1094 : Cond.selects RX4 yX4_keepIfBetter yX4_keepIfBetter ∈ sm_tbl := sm_in (List.mem_append_left _ (List.mem_of_getElem? (i := 17) (by decide +kernel))) rfl
theorem wm_1095 : Cond.selects RX4 yX4_nextOrder yX4_nextOrder ∈ sm_tbl := sm_in (List.mem_append_left _ (List.mem_of_getElem? (i := 18) (by decide +kernel))) rfl
theorem wm_1096 : Cond.selects RX4 yX4_swap yX4_swap ∈ sm_tbl := sm_in (List.mem_append_left _ (List.mem_of_getElem? (i := 19) (by decide +kernel))) rfl
theorem wm_1097 : Cond.selects RX5 yX5_readOrder yX5_readOrder ∈ sm_tbl := sm_in (List.mem_append_left _ (List.mem_of_getElem? (i := 20) (by decide +kernel))) rfl
theorem wm_1098 : Cond.selects RX5 yX5_peek yX5_peek ∈ sm_tbl := sm_in (List.mem_append_left _ (List.mem_of_getElem? (i := 21) (by decide +kernel))) rfl
theorem wm_1099 : Cond.selects RX5 yX5_readShuttle yX5_readShuttle ∈ sm_tbl := sm_in (List.mem_append_left _ (List.mem_of_getElem? (i := 22) (by decide +kernel))) rfl
theorem wm_1100 : Cond.selects RX5 yX5_readDigit yX5_readDigit ∈ sm_tbl := sm_in (List.mem_append_left _ (List.mem_of_getElem? (i := 23) (by decide +kernel))) rfl
theorem wm_1101 : Cond.selects RX5 yX5_readSign yX5_readSign ∈ sm_tbl := sm_in (List.mem_append_left _ (List.mem_of_getElem? (i := 24) (by decide +kernel))) rfl
theorem wm_1102 : Cond.selects RX5 yX5_readNumber yX5_readNumber ∈ sm_tbl := sm_in (List.mem_append_left _ (List.mem_of_getElem? (i := 25) (by decide +kernel))) rfl
theorem wm_1103 : Cond.selects RX5 yX5_obeyOrder yX5_obeyOrder ∈ sm_tbl := sm_in (List.mem_append_left _ (List.mem_of_getElem? (i := 26) (by decide +kernel))) rfl
theorem wm_1104 : Cond.selects RX8 yX8_keep yX8_keep ∈ sm_tbl := sm_in (List.mem_append_left _ (List.mem_of_getElem? (i := 27) (by decide +kernel))) rfl
theorem wm_1105 : Cond.selects RX8 yX8_tryTracks yX8_tryTracks ∈ sm_tbl := sm_in (List.mem_append_left _ (List.mem_of_getElem? (i := 28) (by decide +kernel))) rfl
theorem wm_1106 : Cond.selects RX8 yX8_change yX8_change ∈ sm_tbl := sm_in (List.mem_append_left _ (List.mem_of_getElem? (i := 29) (by decide +kernel))) rfl
theorem wm_1107 : Cond.selects RX8 yX8_keepIf yX8_keepIf ∈ sm_tbl := sm_in (List.mem_append_left _ (List.mem_of_getElem? (i := 30) (by decide +kernel))) rfl
theorem wm_1108 : Cond.selects RX8 yX8_tryRunning yX8_tryRunning ∈ sm_tbl := sm_in (List.mem_append_left _ (List.mem_of_getElem? (i := 31) (by decide +kernel))) rfl
theorem wm_1109 : Cond.selects RX8 yX8_tryShuttle yX8_tryShuttle ∈ sm_tbl := sm_in (List.mem_append_left _ (List.mem_of_getElem? (i := 32) (by decide +kernel))) rfl
theorem wm_1110 : Cond.selects RX8 yX8_tryLate yX8_tryLate ∈ sm_tbl := sm_in (List.mem_append_left _ (List.mem_of_getElem? (i := 33) (by decide +kernel))) rfl
theorem wm_1111 : Cond.selects RX8 yX8_whyNotLate yX8_whyNotLate ∈ sm_tbl := sm_in (List.mem_append_left _ (List.mem_of_getElem? (i := 34) (by decide +kernel))) rfl
theorem wm_1112 : Cond.selects RX8 yX8_isShuttle yX8_isShuttle ∈ sm_tbl := sm_in (List.mem_append_left _ (List.mem_of_getElem? (i := 35) (by decide +kernel))) rfl
theorem wm_1113 : Cond.selects RX8 yX8_of yX8_of ∈ sm_tbl := sm_in (List.mem_append_left _ (List.mem_of_getElem? (i := 36) (by decide +kernel))) rfl
theorem wm_1114 : Cond.selects RX8 yX8_tryPrefer yX8_tryPrefer ∈ sm_tbl := sm_in (List.mem_append_left _ (List.mem_of_getElem? (i := 37) (by decide +kernel))) rfl
theorem wm_1115 : Cond.selects RX8 yX8_tryRemove yX8_tryRemove ∈ sm_tbl := sm_in (List.mem_append_left _ (List.mem_of_getElem? (i := 38) (by decide +kernel))) rfl
theorem wm_1116 : Cond.selects RX8 yX8_run yX8_run ∈ sm_tbl := sm_in (List.mem_append_left _ (List.mem_of_getElem? (i := 39) (by decide +kernel))) rfl
theorem wm_1117 : Cond.selects RX8 yX8_isAsRun yX8_isAsRun ∈ sm_tbl := sm_in (List.mem_append_left _ (List.mem_of_getElem? (i := 40) (by decide +kernel))) rfl
theorem wm_1118 : Cond.selects RX8 yX8_beginDay yX8_beginDay ∈ sm_tbl := sm_in (List.mem_append_left _ (List.mem_of_getElem? (i := 41) (by decide +kernel))) rfl
theorem wm_1119 : Cond.selects RX8 yX8_come yX8_come ∈ sm_tbl := sm_in (List.mem_append_left _ (List.mem_of_getElem? (i := 42) (by decide +kernel))) rfl
theorem wm_1120 : Cond.selects RX8 yX8_way yX8_way ∈ sm_tbl := sm_in (List.mem_append_left _ (List.mem_of_getElem? (i := 43) (by decide +kernel))) rfl
theorem wm_1121 : Cond.selects RX8 yX8_meet yX8_meet ∈ sm_tbl := sm_in (List.mem_append_left _ (List.mem_of_getElem? (i := 44) (by decide +kernel))) rfl
theorem wm_1122 : Cond.selects RX8 yX8_leave yX8_leave ∈ sm_tbl := sm_in (List.mem_append_left _ (List.mem_of_getElem? (i := 45) (by decide +kernel))) rfl
theorem wm_1123 : Cond.selects RX8 yX8_nextToLeave yX8_nextToLeave ∈ sm_tbl := sm_in (List.mem_append_left _ (List.mem_of_getElem? (i := 46) (by decide +kernel))) rfl
theorem wm_1124 : Cond.selects RX8 yX8_canLeave yX8_canLeave ∈ sm_tbl := sm_in (List.mem_append_left _ (List.mem_of_getElem? (i := 47) (by decide +kernel))) rfl
theorem wm_1125 : Cond.selects RX8 yX8_isReady yX8_isReady ∈ sm_tbl := sm_in (List.mem_append_left _ (List.mem_of_getElem? (i := 48) (by decide +kernel))) rfl
theorem wm_1126 : Cond.selects RX8 yX8_readyAt yX8_readyAt ∈ sm_tbl := sm_in (List.mem_append_left _ (List.mem_of_getElem? (i := 49) (by decide +kernel))) rfl
theorem wm_1127 : Cond.selects RX8 yX8_whoIsOn yX8_whoIsOn ∈ sm_tbl := sm_in (List.mem_append_left _ (List.mem_of_getElem? (i := 50) (by decide +kernel))) rfl
theorem wm_1128 : Cond.selects RX8 yX8_taken yX8_taken ∈ sm_tbl := sm_in (List.mem_append_left _ (List.mem_of_getElem? (i := 51) (by decide +kernel))) rfl
theorem wm_1129 : Cond.selects RX8 yX8_goesAhead yX8_goesAhead ∈ sm_tbl := sm_in (List.mem_append_left _ (List.mem_of_getElem? (i := 52) (by decide +kernel))) rfl
theorem wm_1130 : Cond.selects RX8 yX8_timeOf yX8_timeOf ∈ sm_tbl := sm_in (List.mem_append_left _ (List.mem_of_getElem? (i := 53) (by decide +kernel))) rfl
theorem wm_1131 : Cond.selects RX8 yX8_waitAll yX8_waitAll ∈ sm_tbl := sm_in (List.mem_append_left _ (List.mem_of_getElem? (i := 54) (by decide +kernel))) rfl
theorem wm_1132 : Cond.selects RX8 yX8_reason yX8_reason ∈ sm_tbl := sm_in (List.mem_append_left _ (List.mem_of_getElem? (i := 55) (by decide +kernel))) rfl
theorem wm_1133 : Cond.selects RX8 yX8_ends yX8_ends ∈ sm_tbl := sm_in (List.mem_append_left _ (List.mem_of_getElem? (i := 56) (by decide +kernel))) rfl
theorem wm_1134 : Cond.selects RX8 yX8_endOf yX8_endOf ∈ sm_tbl := sm_in (List.mem_append_left _ (List.mem_of_getElem? (i := 57) (by decide +kernel))) rfl
theorem wm_1135 : Cond.selects RX8 yX8_delayOf yX8_delayOf ∈ sm_tbl := sm_in (List.mem_append_left _ (List.mem_of_getElem? (i := 58) (by decide +kernel))) rfl
theorem wm_1136 : Cond.selects RX8 yX8_waited yX8_waited ∈ sm_tbl := sm_in (List.mem_append_left _ (List.mem_of_getElem? (i := 59) (by decide +kernel))) rfl
theorem wm_1137 : Cond.selects RX8 yX8_blamed yX8_blamed ∈ sm_tbl := sm_in (List.mem_append_left _ (List.mem_of_getElem? (i := 60) (by decide +kernel))) rfl
theorem wm_1138 : Cond.selects RX8 yX8_delay yX8_delay ∈ sm_tbl := sm_in (List.mem_append_left _ (List.mem_of_getElem? (i := 61) (by decide +kernel))) rfl
theorem wm_1139 : Cond.selects RX8 yX8_meetings yX8_meetings ∈ sm_tbl := sm_in (List.mem_append_left _ (List.mem_of_getElem? (i := 62) (by decide +kernel))) rfl
theorem wm_1140 : Cond.selects RX8 yX8_allWaits yX8_allWaits ∈ sm_tbl := sm_in (List.mem_append_left _ (List.mem_of_getElem? (i := 63) (by decide +kernel))) rfl
theorem wm_1141 : Cond.selects RX8 yX8_greatestDelay yX8_greatestDelay ∈ sm_tbl := sm_in (List.mem_append_left _ (List.mem_of_getElem? (i := 64) (by decide +kernel))) rfl
theorem wm_1142 : Cond.selects RX8 yX8_placeIn yX8_placeIn ∈ sm_tbl := sm_in (List.mem_append_left _ (List.mem_of_getElem? (i := 65) (by decide +kernel))) rfl
theorem wm_1143 : Cond.selects RX8 yX8_stationIn yX8_stationIn ∈ sm_tbl := sm_in (List.mem_append_left _ (List.mem_of_getElem? (i := 66) (by decide +kernel))) rfl
theorem wm_1144 : Cond.selects RX8 yX8_hasLeft yX8_hasLeft ∈ sm_tbl := sm_in (List.mem_append_left _ (List.mem_of_getElem? (i := 67) (by decide +kernel))) rfl
theorem wm_1145 : Cond.selects RX8 yX8_reasonIn yX8_reasonIn ∈ sm_tbl := sm_in (List.mem_append_left _ (List.mem_of_getElem? (i := 68) (by decide +kernel))) rfl
theorem wm_1146 : Cond.selects RX8 yX8_ahead yX8_ahead ∈ sm_tbl := sm_in (List.mem_append_left _ (List.mem_of_getElem? (i := 69) (by decide +kernel))) rfl
theorem wm_1147 : Cond.selects RX8 yX8_isAhead yX8_isAhead ∈ sm_tbl := sm_in (List.mem_append_left _ (List.mem_of_getElem? (i := 70) (by decide +kernel))) rfl
theorem wm_1148 : Cond.selects RX8 yX8_layAside yX8_layAside ∈ sm_tbl := sm_in (List.mem_append_left _ (List.mem_of_getElem? (i := 71) (by decide +kernel))) rfl
theorem wm_1149 : Cond.selects RX8 yX8_delayNow yX8_delayNow ∈ sm_tbl := sm_in (List.mem_append_left _ (List.mem_of_getElem? (i := 72) (by decide +kernel))) rfl
theorem wm_1150 : Cond.selects RX8 yX8_layBack yX8_layBack ∈ sm_tbl := sm_in (List.mem_append_left _ (List.mem_of_getElem? (i := 73) (by decide +kernel))) rfl
theorem wm_1151 : Cond.selects RX8 yX8_orders yX8_orders ∈ sm_tbl := sm_in (List.mem_append_left _ (List.mem_of_getElem? (i := 74) (by decide +kernel))) rfl
theorem wm_1152 : Cond.selects RX8 yX8_layOrder yX8_layOrder ∈ sm_tbl := sm_in (List.mem_append_left _ (List.mem_of_getElem? (i := 75) (by decide +kernel))) rfl
theorem wm_1153 : Cond.selects RX8 yX8_delayInOrder yX8_delayInOrder ∈ sm_tbl := sm_in (List.mem_append_left _ (List.mem_of_getElem? (i := 76) (by decide +kernel))) rfl
theorem wm_1154 : Cond.selects RX8 yX8_takeOrder yX8_takeOrder ∈ sm_tbl := sm_in (List.mem_append_left _ (List.mem_of_getElem? (i := 77) (by decide +kernel))) rfl
theorem wm_1155 : Cond.selects RX8 yX8_next yX8_next ∈ sm_tbl := sm_in (List.mem_append_left _ (List.mem_of_getElem? (i := 78) (by decide +kernel))) rfl
theorem wm_1156 : Cond.selects RX8 yX8_takeShuttle yX8_takeShuttle ∈ sm_tbl := sm_in (List.mem_append_left _ (List.mem_of_getElem? (i := 79) (by decide +kernel))) rfl
theorem wm_1157 : Cond.selects RX8 yX8_takeOne yX8_takeOne ∈ sm_tbl := sm_in (List.mem_append_left _ (List.mem_of_getElem? (i := 80) (by decide +kernel))) rfl
theorem wm_1158 : Cond.selects RX8 yX8_takeSign yX8_takeSign ∈ sm_tbl := sm_in (List.mem_append_left _ (List.mem_of_getElem? (i := 81) (by decide +kernel))) rfl
theorem wm_1159 : Cond.selects RX8 yX8_takeNumber yX8_takeNumber ∈ sm_tbl := sm_in (List.mem_append_left _ (List.mem_of_getElem? (i := 82) (by decide +kernel))) rfl
theorem wm_1160 : Cond.selects RX8 yX8_carry yX8_carry ∈ sm_tbl := sm_in (List.mem_append_left _ (List.mem_of_getElem? (i := 83) (by decide +kernel))) rfl

theorem ic_X7 : Cond.initialized RX7 ∈ WT := WT_1 1 rfl rfl
theorem ic_X0 : Cond.initialized RX0 ∈ WT := WT_1 5 rfl rfl
theorem ic_X1 : Cond.initialized RX1 ∈ WT := WT_1 3 rfl rfl
theorem ic_X2 : Cond.initialized RX2 ∈ WT := WT_1 4 rfl rfl
theorem ic_X3 : Cond.initialized RX3 ∈ WT := WT_1 7 rfl rfl
theorem ic_X4 : Cond.initialized RX4 ∈ WT := WT_1 8 rfl rfl
theorem ic_X5 : Cond.initialized RX5 ∈ WT := WT_1 6 rfl rfl
theorem ic_X6 : Cond.initialized RX6 ∈ WT := WT_1 2 rfl rfl
theorem ic_L : Cond.initialized RL ∈ WT := WT_1 0 rfl rfl
theorem ic_X8 : Cond.initialized RX8 ∈ WT := WT_1 9 rfl rfl
theorem ic_J6 : Cond.initialized RJ6 ∈ WT := WT_1 16 rfl rfl
theorem ic_J9 : Cond.initialized RJ9 ∈ WT := WT_1 14 rfl rfl
theorem ic_J0 : Cond.initialized RJ0 ∈ WT := WT_1 10 rfl rfl
theorem ic_J1 : Cond.initialized RJ1 ∈ WT := WT_1 11 rfl rfl
theorem ic_J2 : Cond.initialized RJ2 ∈ WT := WT_1 13 rfl rfl
theorem ic_J10 : Cond.initialized RJ10 ∈ WT := WT_1 15 rfl rfl
theorem ic_J3 : Cond.initialized RJ3 ∈ WT := WT_1 12 rfl rfl
theorem fl_X7_12 : Cond.fieldLink RX7 12 "SharedBorders" "tape" "LSharedBorders$Tape;" ∈ WT := WT_2 12 rfl rfl
theorem fl_X7_19 : Cond.fieldLink RX7 19 "SharedBorders" "land" "LSharedBorders$Land;" ∈ WT := WT_2 13 rfl rfl
theorem fl_X7_23 : Cond.fieldLink RX7 23 "SharedBorders" "draft" "LSharedBorders$Land;" ∈ WT := WT_2 14 rfl rfl
theorem fl_X7_26 : Cond.fieldLink RX7 26 "SharedBorders" "before" "LSharedBorders$Land;" ∈ WT := WT_2 15 rfl rfl
theorem fl_X7_34 : Cond.fieldLink RX7 34 "SharedBorders" "reader" "LSharedBorders$Reader;" ∈ WT := WT_2 16 rfl rfl
theorem fl_X7_43 : Cond.fieldLink RX7 43 "SharedBorders" "arcs" "LSharedBorders$Arcs;" ∈ WT := WT_2 17 rfl rfl
theorem fl_X7_50 : Cond.fieldLink RX7 50 "SharedBorders" "stages" "LSharedBorders$Stages;" ∈ WT := WT_2 18 rfl rfl
theorem fl_X7_54 : Cond.fieldLink RX7 54 "SharedBorders" "stored" "[Z" ∈ WT := WT_2 20 rfl rfl
theorem fl_X7_58 : Cond.fieldLink RX7 58 "SharedBorders" "images" "[LSharedBorders$Land;" ∈ WT := WT_2 19 rfl rfl
theorem fl_X7_64 : Cond.fieldLink RX7 64 "SharedBorders" "sheets" "[LSharedBorders$Sheet;" ∈ WT := WT_2 21 rfl rfl
theorem fl_X7_73 : Cond.fieldLink RX7 73 "SharedBorders$Tape" "length" "I" ∈ WT := WT_1 34 rfl rfl
theorem fl_X7_88 : Cond.fieldLink RX7 88 "SharedBorders$Reader" "fault" "I" ∈ WT := WT_1 123 rfl rfl
theorem fl_X7_91 : Cond.fieldLink RX7 91 "SharedBorders" "textFault" "I" ∈ WT := WT_2 22 rfl rfl
theorem fl_X7_94 : Cond.fieldLink RX7 94 "SharedBorders$Reader" "faultPlace" "I" ∈ WT := WT_1 125 rfl rfl
theorem fl_X7_106 : Cond.fieldLink RX7 106 "SharedBorders$Reader" "lines" "I" ∈ WT := WT_1 127 rfl rfl
theorem fl_X7_109 : Cond.fieldLink RX7 109 "SharedBorders$Land" "points" "I" ∈ WT := WT_1 74 rfl rfl
theorem fl_X7_112 : Cond.fieldLink RX7 112 "SharedBorders$Land" "rings" "I" ∈ WT := WT_1 79 rfl rfl
theorem fl_X7_115 : Cond.fieldLink RX7 115 "SharedBorders$Land" "edges" "I" ∈ WT := WT_1 82 rfl rfl
theorem fl_X7_122 : Cond.fieldLink RX7 122 "SharedBorders$Arcs" "amount" "I" ∈ WT := WT_1 163 rfl rfl
theorem fl_X7_125 : Cond.fieldLink RX7 125 "SharedBorders$Stages" "last" "I" ∈ WT := WT_1 217 rfl rfl
theorem fl_X7_134 : Cond.fieldLink RX7 134 "SharedBorders$Land" "xs" "[I" ∈ WT := WT_1 51 rfl rfl
theorem fl_X7_138 : Cond.fieldLink RX7 138 "SharedBorders$Land" "ys" "[I" ∈ WT := WT_1 54 rfl rfl
theorem fl_X7_141 : Cond.fieldLink RX7 141 "SharedBorders$Land" "degrees" "[I" ∈ WT := WT_1 70 rfl rfl
theorem fl_X7_148 : Cond.fieldLink RX7 148 "SharedBorders$Arcs" "arcOf" "[I" ∈ WT := WT_1 160 rfl rfl
theorem fl_X7_151 : Cond.fieldLink RX7 151 "SharedBorders$Stages" "goneAt" "[I" ∈ WT := WT_1 215 rfl rfl
theorem fl_X7_154 : Cond.fieldLink RX7 154 "SharedBorders$Stages" "triangles" "[I" ∈ WT := WT_1 213 rfl rfl
theorem fl_X7_157 : Cond.fieldLink RX7 157 "SharedBorders$Land" "pins" "[Z" ∈ WT := WT_1 57 rfl rfl
theorem fl_X7_167 : Cond.fieldLink RX7 167 "SharedBorders$Scene" "counts" "[I" ∈ WT := WT_1 194 rfl rfl
theorem fl_X7_179 : Cond.fieldLink RX7 179 "SharedBorders$Scene" "rows" "[[I" ∈ WT := WT_1 192 rfl rfl
theorem fl_X7_183 : Cond.fieldLink RX7 183 "SharedBorders$Arcs" "lengths" "[I" ∈ WT := WT_1 158 rfl rfl
theorem fl_X7_199 : Cond.fieldLink RX7 199 "SharedBorders$Arcs" "rows" "[[I" ∈ WT := WT_1 156 rfl rfl
theorem fl_X7_200 : Cond.fieldLink RX7 200 "SharedBorders$Stages" "order" "[I" ∈ WT := WT_1 211 rfl rfl
theorem fl_X7_209 : Cond.fieldLink RX7 209 "SharedBorders$Scene" "there" "[Z" ∈ WT := WT_1 196 rfl rfl
theorem fl_X7_242 : Cond.fieldLink RX7 242 "SharedBorders$Sheet" "length" "I" ∈ WT := WT_2 4 rfl rfl
theorem fl_X7_252 : Cond.fieldLink RX7 252 "SharedBorders$Sheet" "cells" "[I" ∈ WT := WT_2 1 rfl rfl
theorem fl_X7_255 : Cond.fieldLink RX7 255 "SharedBorders" "readFault" "I" ∈ WT := WT_2 23 rfl rfl
theorem fl_X0_11 : Cond.fieldLink RX0 11 "SharedBorders$Arcs" "rows" "[[I" ∈ WT := WT_1 155 rfl rfl
theorem fl_X0_16 : Cond.fieldLink RX0 16 "SharedBorders$Arcs" "lengths" "[I" ∈ WT := WT_1 157 rfl rfl
theorem fl_X0_20 : Cond.fieldLink RX0 20 "SharedBorders$Arcs" "arcOf" "[I" ∈ WT := WT_1 159 rfl rfl
theorem fl_X0_23 : Cond.fieldLink RX0 23 "SharedBorders$Arcs" "taken" "[Z" ∈ WT := WT_1 161 rfl rfl
theorem fl_X0_27 : Cond.fieldLink RX0 27 "SharedBorders$Arcs" "land" "LSharedBorders$Land;" ∈ WT := WT_1 154 rfl rfl
theorem fl_X0_31 : Cond.fieldLink RX0 31 "SharedBorders$Arcs" "amount" "I" ∈ WT := WT_1 162 rfl rfl
theorem fl_X0_35 : Cond.fieldLink RX0 35 "SharedBorders$Land" "rings" "I" ∈ WT := WT_1 78 rfl rfl
theorem fl_X0_40 : Cond.fieldLink RX0 40 "SharedBorders$Land" "lengths" "[I" ∈ WT := WT_1 64 rfl rfl
theorem fl_X0_49 : Cond.fieldLink RX0 49 "SharedBorders$Land" "corners" "[[I" ∈ WT := WT_1 61 rfl rfl
theorem fl_X0_72 : Cond.fieldLink RX0 72 "SharedBorders$Land" "uses" "[I" ∈ WT := WT_1 68 rfl rfl
theorem fl_X1_9 : Cond.fieldLink RX1 9 "SharedBorders$Land" "xs" "[I" ∈ WT := WT_1 50 rfl rfl
theorem fl_X1_15 : Cond.fieldLink RX1 15 "SharedBorders$Land" "ys" "[I" ∈ WT := WT_1 53 rfl rfl
theorem fl_X1_18 : Cond.fieldLink RX1 18 "SharedBorders$Land" "pins" "[Z" ∈ WT := WT_1 56 rfl rfl
theorem fl_X1_24 : Cond.fieldLink RX1 24 "SharedBorders$Land" "corners" "[[I" ∈ WT := WT_1 59 rfl rfl
theorem fl_X1_27 : Cond.fieldLink RX1 27 "SharedBorders$Land" "lengths" "[I" ∈ WT := WT_1 62 rfl rfl
theorem fl_X1_30 : Cond.fieldLink RX1 30 "SharedBorders$Land" "firsts" "[I" ∈ WT := WT_1 65 rfl rfl
theorem fl_X1_33 : Cond.fieldLink RX1 33 "SharedBorders$Land" "seconds" "[I" ∈ WT := WT_1 66 rfl rfl
theorem fl_X1_36 : Cond.fieldLink RX1 36 "SharedBorders$Land" "uses" "[I" ∈ WT := WT_1 67 rfl rfl
theorem fl_X1_39 : Cond.fieldLink RX1 39 "SharedBorders$Land" "degrees" "[I" ∈ WT := WT_1 69 rfl rfl
theorem fl_X1_42 : Cond.fieldLink RX1 42 "SharedBorders$Land" "points" "I" ∈ WT := WT_1 71 rfl rfl
theorem fl_X1_46 : Cond.fieldLink RX1 46 "SharedBorders$Land" "rings" "I" ∈ WT := WT_1 76 rfl rfl
theorem fl_X1_49 : Cond.fieldLink RX1 49 "SharedBorders$Land" "edges" "I" ∈ WT := WT_1 81 rfl rfl
theorem fl_X2_9 : Cond.fieldLink RX2 9 "SharedBorders$Reader" "tape" "LSharedBorders$Tape;" ∈ WT := WT_1 116 rfl rfl
theorem fl_X2_15 : Cond.fieldLink RX2 15 "SharedBorders$Reader" "draft" "LSharedBorders$Land;" ∈ WT := WT_1 117 rfl rfl
theorem fl_X2_24 : Cond.fieldLink RX2 24 "SharedBorders$Reader" "place" "I" ∈ WT := WT_1 118 rfl rfl
theorem fl_X2_28 : Cond.fieldLink RX2 28 "SharedBorders$Reader" "fault" "I" ∈ WT := WT_1 122 rfl rfl
theorem fl_X2_31 : Cond.fieldLink RX2 31 "SharedBorders$Reader" "faultPlace" "I" ∈ WT := WT_1 124 rfl rfl
theorem fl_X2_34 : Cond.fieldLink RX2 34 "SharedBorders$Reader" "lines" "I" ∈ WT := WT_1 126 rfl rfl
theorem fl_X2_40 : Cond.fieldLink RX2 40 "SharedBorders$Reader" "kind" "I" ∈ WT := WT_1 119 rfl rfl
theorem fl_X2_50 : Cond.fieldLink RX2 50 "SharedBorders$Tape" "length" "I" ∈ WT := WT_1 35 rfl rfl
theorem fl_X2_65 : Cond.fieldLink RX2 65 "SharedBorders$Reader" "start" "I" ∈ WT := WT_1 120 rfl rfl
theorem fl_X2_90 : Cond.fieldLink RX2 90 "SharedBorders$Land" "points" "I" ∈ WT := WT_1 75 rfl rfl
theorem fl_X2_97 : Cond.fieldLink RX2 97 "SharedBorders$Reader" "value" "I" ∈ WT := WT_1 121 rfl rfl
theorem fl_X2_107 : Cond.fieldLink RX2 107 "SharedBorders$Land" "rings" "I" ∈ WT := WT_1 80 rfl rfl
theorem fl_X2_126 : Cond.fieldLink RX2 126 "SharedBorders$Land" "pins" "[Z" ∈ WT := WT_1 58 rfl rfl
theorem fl_X2_130 : Cond.fieldLink RX2 130 "SharedBorders$Tape" "bytes" "[B" ∈ WT := WT_1 32 rfl rfl
theorem fl_X3_11 : Cond.fieldLink RX3 11 "SharedBorders$Scene" "rows" "[[I" ∈ WT := WT_1 191 rfl rfl
theorem fl_X3_16 : Cond.fieldLink RX3 16 "SharedBorders$Scene" "counts" "[I" ∈ WT := WT_1 193 rfl rfl
theorem fl_X3_20 : Cond.fieldLink RX3 20 "SharedBorders$Scene" "there" "[Z" ∈ WT := WT_1 195 rfl rfl
theorem fl_X3_24 : Cond.fieldLink RX3 24 "SharedBorders$Scene" "spare" "[I" ∈ WT := WT_1 197 rfl rfl
theorem fl_X3_27 : Cond.fieldLink RX3 27 "SharedBorders$Scene" "land" "LSharedBorders$Land;" ∈ WT := WT_1 190 rfl rfl
theorem fl_X3_31 : Cond.fieldLink RX3 31 "SharedBorders$Land" "rings" "I" ∈ WT := WT_1 77 rfl rfl
theorem fl_X3_37 : Cond.fieldLink RX3 37 "SharedBorders$Land" "lengths" "[I" ∈ WT := WT_1 63 rfl rfl
theorem fl_X3_40 : Cond.fieldLink RX3 40 "SharedBorders$Land" "corners" "[[I" ∈ WT := WT_1 60 rfl rfl
theorem fl_X3_49 : Cond.fieldLink RX3 49 "SharedBorders$Land" "points" "I" ∈ WT := WT_1 73 rfl rfl
theorem fl_X3_88 : Cond.fieldLink RX3 88 "SharedBorders$Land" "xs" "[I" ∈ WT := WT_1 52 rfl rfl
theorem fl_X3_91 : Cond.fieldLink RX3 91 "SharedBorders$Land" "ys" "[I" ∈ WT := WT_1 55 rfl rfl
theorem fl_X4_9 : Cond.fieldLink RX4 9 "SharedBorders$Sheet" "cells" "[I" ∈ WT := WT_2 0 rfl rfl
theorem fl_X4_15 : Cond.fieldLink RX4 15 "SharedBorders$Sheet" "lane" "I" ∈ WT := WT_2 2 rfl rfl
theorem fl_X4_19 : Cond.fieldLink RX4 19 "SharedBorders$Sheet" "length" "I" ∈ WT := WT_2 3 rfl rfl
theorem fl_X5_9 : Cond.fieldLink RX5 9 "SharedBorders$Stages" "order" "[I" ∈ WT := WT_1 210 rfl rfl
theorem fl_X5_15 : Cond.fieldLink RX5 15 "SharedBorders$Stages" "triangles" "[I" ∈ WT := WT_1 212 rfl rfl
theorem fl_X5_18 : Cond.fieldLink RX5 18 "SharedBorders$Stages" "goneAt" "[I" ∈ WT := WT_1 214 rfl rfl
theorem fl_X5_21 : Cond.fieldLink RX5 21 "SharedBorders$Stages" "land" "LSharedBorders$Land;" ∈ WT := WT_1 209 rfl rfl
theorem fl_X5_30 : Cond.fieldLink RX5 30 "SharedBorders$Stages" "scene" "LSharedBorders$Scene;" ∈ WT := WT_1 218 rfl rfl
theorem fl_X5_34 : Cond.fieldLink RX5 34 "SharedBorders$Stages" "last" "I" ∈ WT := WT_1 216 rfl rfl
theorem fl_X5_41 : Cond.fieldLink RX5 41 "SharedBorders$Land" "points" "I" ∈ WT := WT_1 72 rfl rfl
theorem fl_X6_9 : Cond.fieldLink RX6 9 "SharedBorders$Tape" "bytes" "[B" ∈ WT := WT_1 31 rfl rfl
theorem fl_X6_15 : Cond.fieldLink RX6 15 "SharedBorders$Tape" "length" "I" ∈ WT := WT_1 33 rfl rfl
theorem fl_X8_7 : Cond.fieldLink RX8 7 "SharedBordersModel" "state" "[I" ∈ WT := WT_4 119 rfl rfl
theorem fl_X8_13 : Cond.fieldLink RX8 13 "SharedBordersModel" "tape" "[I" ∈ WT := WT_4 120 rfl rfl
theorem fl_X8_16 : Cond.fieldLink RX8 16 "SharedBordersModel" "ends" "[I" ∈ WT := WT_4 129 rfl rfl
theorem fl_X8_19 : Cond.fieldLink RX8 19 "SharedBordersModel" "letters" "[I" ∈ WT := WT_4 130 rfl rfl
theorem fl_X8_22 : Cond.fieldLink RX8 22 "SharedBordersModel" "goneAt" "[I" ∈ WT := WT_4 132 rfl rfl
theorem fl_X8_25 : Cond.fieldLink RX8 25 "SharedBordersModel" "goneSize" "[I" ∈ WT := WT_4 133 rfl rfl
theorem fl_X8_28 : Cond.fieldLink RX8 28 "SharedBordersModel" "goneBy" "[I" ∈ WT := WT_4 134 rfl rfl
theorem fl_X8_31 : Cond.fieldLink RX8 31 "SharedBordersModel" "degrees" "[I" ∈ WT := WT_4 137 rfl rfl
theorem fl_X8_34 : Cond.fieldLink RX8 34 "SharedBordersModel" "loop" "[I" ∈ WT := WT_4 138 rfl rfl
theorem fl_X8_37 : Cond.fieldLink RX8 37 "SharedBordersModel" "arcRing" "[I" ∈ WT := WT_4 139 rfl rfl
theorem fl_X8_40 : Cond.fieldLink RX8 40 "SharedBordersModel" "arcFrom" "[I" ∈ WT := WT_4 140 rfl rfl
theorem fl_X8_43 : Cond.fieldLink RX8 43 "SharedBordersModel" "arcMany" "[I" ∈ WT := WT_4 141 rfl rfl
theorem fl_X8_46 : Cond.fieldLink RX8 46 "SharedBordersModel" "isClosed" "[Z" ∈ WT := WT_4 142 rfl rfl
theorem fl_X8_50 : Cond.fieldLink RX8 50 "SharedBordersModel" "other" "[I" ∈ WT := WT_4 144 rfl rfl
theorem fl_X8_53 : Cond.fieldLink RX8 53 "SharedBordersModel" "isKept" "[Z" ∈ WT := WT_4 145 rfl rfl
theorem fl_X8_56 : Cond.fieldLink RX8 56 "SharedBordersModel" "lanes" "[I" ∈ WT := WT_4 146 rfl rfl
theorem fl_X8_59 : Cond.fieldLink RX8 59 "SharedBordersModel" "lengths" "[I" ∈ WT := WT_4 147 rfl rfl
theorem fl_X8_62 : Cond.fieldLink RX8 62 "SharedBordersModel" "cells" "[I" ∈ WT := WT_4 148 rfl rfl
theorem fl_X8_71 : Cond.fieldLink RX8 71 "SharedBordersModel" "taped" "I" ∈ WT := WT_4 121 rfl rfl
theorem fl_X8_75 : Cond.fieldLink RX8 75 "SharedBordersModel" "broken" "I" ∈ WT := WT_4 123 rfl rfl
theorem fl_X8_78 : Cond.fieldLink RX8 78 "SharedBordersModel" "here" "I" ∈ WT := WT_4 126 rfl rfl
theorem fl_X8_81 : Cond.fieldLink RX8 81 "SharedBordersModel" "brokenAt" "I" ∈ WT := WT_4 124 rfl rfl
theorem fl_X8_84 : Cond.fieldLink RX8 84 "SharedBordersModel" "token" "I" ∈ WT := WT_4 127 rfl rfl
theorem fl_X8_87 : Cond.fieldLink RX8 87 "SharedBordersModel" "spot" "I" ∈ WT := WT_4 125 rfl rfl
theorem fl_X8_94 : Cond.fieldLink RX8 94 "SharedBordersModel" "value" "I" ∈ WT := WT_4 128 rfl rfl
theorem fl_X8_128 : Cond.fieldLink RX8 128 "SharedBordersModel" "pinned" "I" ∈ WT := WT_4 131 rfl rfl
theorem fl_X8_142 : Cond.fieldLink RX8 142 "SharedBordersModel" "fault" "I" ∈ WT := WT_4 122 rfl rfl
theorem fl_X8_149 : Cond.fieldLink RX8 149 "SharedBordersModel" "isMade" "Z" ∈ WT := WT_4 136 rfl rfl
theorem fl_X8_227 : Cond.fieldLink RX8 227 "SharedBordersModel" "stages" "I" ∈ WT := WT_4 135 rfl rfl
theorem fl_X8_245 : Cond.fieldLink RX8 245 "SharedBordersModel" "arcMost" "I" ∈ WT := WT_4 143 rfl rfl
theorem fl_X8_313 : Cond.fieldLink RX8 313 "SharedBordersModel" "torn" "I" ∈ WT := WT_4 149 rfl rfl
theorem fl_J0_9 : Cond.fieldLink RJ0 9 "java/lang/String" "value" "[B" ∈ WT := WT_6 84 rfl rfl
theorem fl_J0_15 : Cond.fieldLink RJ0 15 "java/lang/String" "coder" "B" ∈ WT := WT_6 85 rfl rfl
theorem fl_J0_38 : Cond.fieldLink RJ0 38 "java/lang/String" "COMPACT_STRINGS" "Z" ∈ WT := WT_2 104 rfl rfl
theorem fl_J0_1053 : Cond.fieldLink RJ0 1053 "jdk/internal/util/Preconditions" "SIOOBE_FORMATTER" "Ljava/util/function/BiFunction;" ∈ WT := WT_2 120 rfl rfl
theorem fl_J2_44 : Cond.fieldLink RJ2 44 "java/lang/StringUTF16" "$assertionsDisabled" "Z" ∈ WT := WT_2 138 rfl rfl
theorem fl_J2_59 : Cond.fieldLink RJ2 59 "java/lang/StringUTF16" "HI_BYTE_SHIFT" "I" ∈ WT := WT_2 140 rfl rfl
theorem fl_J2_63 : Cond.fieldLink RJ2 63 "java/lang/StringUTF16" "LO_BYTE_SHIFT" "I" ∈ WT := WT_2 142 rfl rfl
theorem ml_X7_3 : Cond.methodLink RX7 3 objectInit ∈ WT := WT_1 22 rfl rfl
theorem ml_X7_31 : Cond.methodLink RX7 31 yX2_init ∈ WT := WT_1 112 rfl rfl
theorem ml_X7_40 : Cond.methodLink RX7 40 yX0_init ∈ WT := WT_1 149 rfl rfl
theorem ml_X7_49 : Cond.methodLink RX7 49 yX5_init ∈ WT := WT_1 179 rfl rfl
theorem ml_X7_69 : Cond.methodLink RX7 69 yX7_isBelow ∈ WT := WT_2 53 rfl rfl
theorem ml_X7_77 : Cond.methodLink RX7 77 yX6_append ∈ WT := WT_2 56 rfl rfl
theorem ml_X7_81 : Cond.methodLink RX7 81 yX2_readAll ∈ WT := WT_2 68 rfl rfl
theorem ml_X7_85 : Cond.methodLink RX7 85 yX2_judgeAll ∈ WT := WT_2 195 rfl rfl
theorem ml_X7_97 : Cond.methodLink RX7 97 yX1_copyFrom ∈ WT := WT_3 23 rfl rfl
theorem ml_X7_100 : Cond.methodLink RX7 100 yX7_forgetImages ∈ WT := WT_3 30 rfl rfl
theorem ml_X7_103 : Cond.methodLink RX7 103 yX7_refresh ∈ WT := WT_3 34 rfl rfl
theorem ml_X7_118 : Cond.methodLink RX7 118 yX1_nodesWithEdges ∈ WT := WT_3 158 rfl rfl
theorem ml_X7_128 : Cond.methodLink RX7 128 yX1_pointsWithEdges ∈ WT := WT_3 163 rfl rfl
theorem ml_X7_131 : Cond.methodLink RX7 131 yX1_pinned ∈ WT := WT_3 167 rfl rfl
theorem ml_X7_144 : Cond.methodLink RX7 144 yX1_isNode ∈ WT := WT_3 175 rfl rfl
theorem ml_X7_160 : Cond.methodLink RX7 160 yX7_isStage ∈ WT := WT_3 180 rfl rfl
theorem ml_X7_163 : Cond.methodLink RX7 163 yX5_sceneAt ∈ WT := WT_3 184 rfl rfl
theorem ml_X7_172 : Cond.methodLink RX7 172 yX3_areaOf ∈ WT := WT_3 188 rfl rfl
theorem ml_X7_176 : Cond.methodLink RX7 176 yX3_neighboursOf ∈ WT := WT_3 192 rfl rfl
theorem ml_X7_186 : Cond.methodLink RX7 186 yX0_firstOf ∈ WT := WT_3 208 rfl rfl
theorem ml_X7_189 : Cond.methodLink RX7 189 yX0_lastOf ∈ WT := WT_3 212 rfl rfl
theorem ml_X7_192 : Cond.methodLink RX7 192 yX0_ringsOf ∈ WT := WT_3 216 rfl rfl
theorem ml_X7_195 : Cond.methodLink RX7 195 yX0_ringOf ∈ WT := WT_3 224 rfl rfl
theorem ml_X7_203 : Cond.methodLink RX7 203 yX3_usesOf ∈ WT := WT_4 5 rfl rfl
theorem ml_X7_206 : Cond.methodLink RX7 206 yX3_reasonOf ∈ WT := WT_4 10 rfl rfl
theorem ml_X7_212 : Cond.methodLink RX7 212 yX3_triangleOf ∈ WT := WT_4 15 rfl rfl
theorem ml_X7_215 : Cond.methodLink RX7 215 Lib.Math.max.name ∈ WT := WT_4 20 rfl rfl
theorem ml_X7_220 : Cond.methodLink RX7 220 yX7_isPlace ∈ WT := WT_4 29 rfl rfl
theorem ml_X7_223 : Cond.methodLink RX7 223 yX3_isOnBorder ∈ WT := WT_4 32 rfl rfl
theorem ml_X7_227 : Cond.methodLink RX7 227 yX3_holds ∈ WT := WT_4 37 rfl rfl
theorem ml_X7_230 : Cond.methodLink RX7 230 yX7_shift ∈ WT := WT_4 45 rfl rfl
theorem ml_X7_235 : Cond.methodLink RX7 235 yX4_renew ∈ WT := WT_4 74 rfl rfl
theorem ml_X7_239 : Cond.methodLink RX7 239 yX4_isNothing ∈ WT := WT_4 82 rfl rfl
theorem ml_X7_243 : Cond.methodLink RX7 243 yX4_put ∈ WT := WT_4 86 rfl rfl
theorem ml_X7_248 : Cond.methodLink RX7 248 yX4_faultOfThree ∈ WT := WT_4 95 rfl rfl
theorem ml_X7_258 : Cond.methodLink RX7 258 yX1_sumOf ∈ WT := WT_4 109 rfl rfl
theorem ml_X7_262 : Cond.methodLink RX7 262 yX7_following ∈ WT := WT_3 114 rfl rfl
theorem ml_X7_265 : Cond.methodLink RX7 265 yX0_trace ∈ WT := WT_3 38 rfl rfl
theorem ml_X7_268 : Cond.methodLink RX7 268 yX5_thin ∈ WT := WT_3 67 rfl rfl
theorem ml_X7_271 : Cond.methodLink RX7 271 yX1_shiftIfFair ∈ WT := WT_4 49 rfl rfl
theorem ml_X0_3 : Cond.methodLink RX0 3 objectInit ∈ WT := WT_1 152 rfl rfl
theorem ml_X0_41 : Cond.methodLink RX0 41 yX0_edgeBehind ∈ WT := WT_3 42 rfl rfl
theorem ml_X0_45 : Cond.methodLink RX0 45 yX0_traceArc ∈ WT := WT_3 48 rfl rfl
theorem ml_X0_55 : Cond.methodLink RX0 55 yX1_edgeBetween ∈ WT := WT_3 47 rfl rfl
theorem ml_X0_58 : Cond.methodLink RX0 58 yX0_nodeAhead ∈ WT := WT_3 52 rfl rfl
theorem ml_X0_61 : Cond.methodLink RX0 61 yX0_append ∈ WT := WT_3 63 rfl rfl
theorem ml_X0_65 : Cond.methodLink RX0 65 yX1_isNode ∈ WT := WT_3 56 rfl rfl
theorem ml_X0_75 : Cond.methodLink RX0 75 yX0_ringHas ∈ WT := WT_3 228 rfl rfl
theorem ml_X1_3 : Cond.methodLink RX1 3 objectInit ∈ WT := WT_1 47 rfl rfl
theorem ml_X1_52 : Cond.methodLink RX1 52 arraycopyName ∈ WT := WT_3 27 rfl rfl
theorem ml_X1_62 : Cond.methodLink RX1 62 yX1_noteEdge ∈ WT := WT_2 210 rfl rfl
theorem ml_X1_66 : Cond.methodLink RX1 66 yX1_edgeBetween ∈ WT := WT_2 214 rfl rfl
theorem ml_X1_69 : Cond.methodLink RX1 69 yX1_isNode ∈ WT := WT_3 162 rfl rfl
theorem ml_X1_73 : Cond.methodLink RX1 73 yX1_isFairAround ∈ WT := WT_2 222 rfl rfl
theorem ml_X1_76 : Cond.methodLink RX1 76 yX1_areasStand ∈ WT := WT_3 15 rfl rfl
theorem ml_X1_80 : Cond.methodLink RX1 80 yX1_areaOf ∈ WT := WT_3 19 rfl rfl
theorem ml_X1_84 : Cond.methodLink RX1 84 yX1_ends ∈ WT := WT_2 226 rfl rfl
theorem ml_X1_88 : Cond.methodLink RX1 88 yX1_isClear ∈ WT := WT_2 230 rfl rfl
theorem ml_X1_91 : Cond.methodLink RX1 91 yX1_isOn ∈ WT := WT_2 234 rfl rfl
theorem ml_X1_95 : Cond.methodLink RX1 95 yX1_cross ∈ WT := WT_3 8 rfl rfl
theorem ml_X1_98 : Cond.methodLink RX1 98 yX1_sideOf ∈ WT := WT_2 238 rfl rfl
theorem ml_X1_102 : Cond.methodLink RX1 102 Lib.Math.min.name ∈ WT := WT_3 2 rfl rfl
theorem ml_X1_107 : Cond.methodLink RX1 107 Lib.Math.max.name ∈ WT := WT_3 5 rfl rfl
theorem ml_X1_110 : Cond.methodLink RX1 110 yX1_areOpposite ∈ WT := WT_3 12 rfl rfl
theorem ml_X1_113 : Cond.methodLink RX1 113 yX1_isInFrame ∈ WT := WT_3 127 rfl rfl
theorem ml_X2_3 : Cond.methodLink RX2 3 objectInit ∈ WT := WT_1 115 rfl rfl
theorem ml_X2_19 : Cond.methodLink RX2 19 yX1_clear ∈ WT := WT_2 72 rfl rfl
theorem ml_X2_37 : Cond.methodLink RX2 37 yX2_nextToken ∈ WT := WT_2 76 rfl rfl
theorem ml_X2_43 : Cond.methodLink RX2 43 yX2_readLine ∈ WT := WT_2 87 rfl rfl
theorem ml_X2_47 : Cond.methodLink RX2 47 yX1_isWhole ∈ WT := WT_2 199 rfl rfl
theorem ml_X2_55 : Cond.methodLink RX2 55 yX2_refuse ∈ WT := WT_2 148 rfl rfl
theorem ml_X2_59 : Cond.methodLink RX2 59 yX1_gatherEdges ∈ WT := WT_2 203 rfl rfl
theorem ml_X2_62 : Cond.methodLink RX2 62 yX1_isFair ∈ WT := WT_2 218 rfl rfl
theorem ml_X2_70 : Cond.methodLink RX2 70 yX2_nameIs ∈ WT := WT_2 92 rfl rfl
theorem ml_X2_74 : Cond.methodLink RX2 74 yX2_readPoint ∈ WT := WT_2 144 rfl rfl
theorem ml_X2_79 : Cond.methodLink RX2 79 yX2_readRing ∈ WT := WT_2 169 rfl rfl
theorem ml_X2_84 : Cond.methodLink RX2 84 yX2_readPin ∈ WT := WT_2 190 rfl rfl
theorem ml_X2_87 : Cond.methodLink RX2 87 yX2_refuseToken ∈ WT := WT_2 156 rfl rfl
theorem ml_X2_93 : Cond.methodLink RX2 93 yX2_readNumber ∈ WT := WT_2 152 rfl rfl
theorem ml_X2_100 : Cond.methodLink RX2 100 yX1_addPoint ∈ WT := WT_2 160 rfl rfl
theorem ml_X2_104 : Cond.methodLink RX2 104 yX2_readSemicolon ∈ WT := WT_2 164 rfl rfl
theorem ml_X2_110 : Cond.methodLink RX2 110 yX1_openRing ∈ WT := WT_2 173 rfl rfl
theorem ml_X2_113 : Cond.methodLink RX2 113 yX2_takeCorner ∈ WT := WT_2 177 rfl rfl
theorem ml_X2_116 : Cond.methodLink RX2 116 yX1_newestRingHas ∈ WT := WT_2 181 rfl rfl
theorem ml_X2_119 : Cond.methodLink RX2 119 yX1_addCorner ∈ WT := WT_2 185 rfl rfl
theorem ml_X2_134 : Cond.methodLink RX2 134 yX2_kindOf ∈ WT := WT_2 80 rfl rfl
theorem ml_X2_138 : Cond.methodLink RX2 138 yX2_weighNumber ∈ WT := WT_2 83 rfl rfl
theorem ml_X2_141 : Cond.methodLink RX2 141 yJ0_length_8abf5 ∈ WT := WT_2 96 rfl rfl
theorem ml_X2_146 : Cond.methodLink RX2 146 yJ0_charAt_5068e ∈ WT := WT_2 106 rfl rfl
theorem ml_X3_3 : Cond.methodLink RX3 3 objectInit ∈ WT := WT_1 188 rfl rfl
theorem ml_X3_43 : Cond.methodLink RX3 43 arraycopyName ∈ WT := WT_3 75 rfl rfl
theorem ml_X3_52 : Cond.methodLink RX3 52 yX3_copyWithout ∈ WT := WT_3 134 rfl rfl
theorem ml_X3_56 : Cond.methodLink RX3 56 yX3_indexIn ∈ WT := WT_3 88 rfl rfl
theorem ml_X3_60 : Cond.methodLink RX3 60 yX1_areaOf ∈ WT := WT_3 138 rfl rfl
theorem ml_X3_68 : Cond.methodLink RX3 68 yX3_shareEdge ∈ WT := WT_3 196 rfl rfl
theorem ml_X3_75 : Cond.methodLink RX3 75 yX3_ringWith ∈ WT := WT_3 84 rfl rfl
theorem ml_X3_82 : Cond.methodLink RX3 82 yX3_ahead ∈ WT := WT_3 80 rfl rfl
theorem ml_X3_85 : Cond.methodLink RX3 85 yX3_behind ∈ WT := WT_3 93 rfl rfl
theorem ml_X3_94 : Cond.methodLink RX3 94 yX1_sideOf ∈ WT := WT_3 98 rfl rfl
theorem ml_X3_98 : Cond.methodLink RX3 98 Lib.Math.abs.name ∈ WT := WT_3 99 rfl rfl
theorem ml_X3_103 : Cond.methodLink RX3 103 yX1_isNode ∈ WT := WT_3 106 rfl rfl
theorem ml_X3_107 : Cond.methodLink RX3 107 yX3_usesOf ∈ WT := WT_3 107 rfl rfl
theorem ml_X3_110 : Cond.methodLink RX3 110 yX3_isInLeastRing ∈ WT := WT_3 115 rfl rfl
theorem ml_X3_113 : Cond.methodLink RX3 113 yX3_someoneLiesIn ∈ WT := WT_3 119 rfl rfl
theorem ml_X3_117 : Cond.methodLink RX3 117 yX3_wouldTurnOver ∈ WT := WT_3 130 rfl rfl
theorem ml_X3_120 : Cond.methodLink RX3 120 yX1_isInTriangle ∈ WT := WT_3 123 rfl rfl
theorem ml_X3_124 : Cond.methodLink RX3 124 yJ6_signum_0f7a4 ∈ WT := WT_3 139 rfl rfl
theorem ml_X3_129 : Cond.methodLink RX3 129 yX1_isOn ∈ WT := WT_4 36 rfl rfl
theorem ml_X4_3 : Cond.methodLink RX4 3 objectInit ∈ WT := WT_1 239 rfl rfl
theorem ml_X4_22 : Cond.methodLink RX4 22 yX4_isNothing ∈ WT := WT_4 99 rfl rfl
theorem ml_X5_3 : Cond.methodLink RX5 3 objectInit ∈ WT := WT_1 182 rfl rfl
theorem ml_X5_27 : Cond.methodLink RX5 27 yX3_init ∈ WT := WT_1 185 rfl rfl
theorem ml_X5_38 : Cond.methodLink RX5 38 yX3_showAll ∈ WT := WT_3 71 rfl rfl
theorem ml_X5_46 : Cond.methodLink RX5 46 yX3_triangleOf ∈ WT := WT_3 76 rfl rfl
theorem ml_X5_50 : Cond.methodLink RX5 50 yX3_reasonOf ∈ WT := WT_3 102 rfl rfl
theorem ml_X5_53 : Cond.methodLink RX5 53 yX5_noteGone ∈ WT := WT_3 142 rfl rfl
theorem ml_X5_57 : Cond.methodLink RX5 57 yX3_dropPoint ∈ WT := WT_3 146 rfl rfl
theorem ml_X6_3 : Cond.methodLink RX6 3 objectInit ∈ WT := WT_1 30 rfl rfl
theorem ml_L_9 : Cond.methodLink RL 9 yX7_init ∈ WT := WT_1 19 rfl rfl
theorem ml_L_12 : Cond.methodLink RL 12 yX8_init ∈ WT := WT_4 115 rfl rfl
theorem ml_L_13 : Cond.methodLink RL 13 yX7_feed ∈ WT := WT_2 49 rfl rfl
theorem ml_L_17 : Cond.methodLink RL 17 yX8_feed ∈ WT := WT_4 213 rfl rfl
theorem ml_L_18 : Cond.methodLink RL 18 yX7_end ∈ WT := WT_2 60 rfl rfl
theorem ml_L_21 : Cond.methodLink RL 21 yX8_end ∈ WT := WT_4 221 rfl rfl
theorem ml_L_22 : Cond.methodLink RL 22 yX7_text ∈ WT := WT_2 64 rfl rfl
theorem ml_L_26 : Cond.methodLink RL 26 yX8_text ∈ WT := WT_4 225 rfl rfl
theorem ml_L_27 : Cond.methodLink RL 27 yX7_fault ∈ WT := WT_3 150 rfl rfl
theorem ml_L_30 : Cond.methodLink RL 30 yX8_fault ∈ WT := WT_5 78 rfl rfl
theorem ml_L_31 : Cond.methodLink RL 31 yX7_rule ∈ WT := WT_3 154 rfl rfl
theorem ml_L_34 : Cond.methodLink RL 34 yX8_rule ∈ WT := WT_5 82 rfl rfl
theorem ml_L_35 : Cond.methodLink RL 35 yX7_point ∈ WT := WT_3 171 rfl rfl
theorem ml_L_39 : Cond.methodLink RL 39 yX8_point ∈ WT := WT_5 178 rfl rfl
theorem ml_L_40 : Cond.methodLink RL 40 yX7_ring ∈ WT := WT_3 176 rfl rfl
theorem ml_L_44 : Cond.methodLink RL 44 yX8_ring ∈ WT := WT_5 190 rfl rfl
theorem ml_L_45 : Cond.methodLink RL 45 yX7_corner ∈ WT := WT_3 200 rfl rfl
theorem ml_L_48 : Cond.methodLink RL 48 yX8_corner ∈ WT := WT_5 211 rfl rfl
theorem ml_L_49 : Cond.methodLink RL 49 yX7_arc ∈ WT := WT_3 204 rfl rfl
theorem ml_L_52 : Cond.methodLink RL 52 yX8_arc ∈ WT := WT_5 215 rfl rfl
theorem ml_L_53 : Cond.methodLink RL 53 yX7_along ∈ WT := WT_3 220 rfl rfl
theorem ml_L_56 : Cond.methodLink RL 56 yX8_along ∈ WT := WT_5 227 rfl rfl
theorem ml_L_57 : Cond.methodLink RL 57 yX7_gone ∈ WT := WT_3 233 rfl rfl
theorem ml_L_60 : Cond.methodLink RL 60 yX8_gone ∈ WT := WT_5 231 rfl rfl
theorem ml_L_61 : Cond.methodLink RL 61 yX7_left ∈ WT := WT_3 237 rfl rfl
theorem ml_L_64 : Cond.methodLink RL 64 yX8_left ∈ WT := WT_5 235 rfl rfl
theorem ml_L_65 : Cond.methodLink RL 65 yX7_edge ∈ WT := WT_4 1 rfl rfl
theorem ml_L_68 : Cond.methodLink RL 68 yX8_edge ∈ WT := WT_6 3 rfl rfl
theorem ml_L_69 : Cond.methodLink RL 69 yX7_why ∈ WT := WT_4 6 rfl rfl
theorem ml_L_72 : Cond.methodLink RL 72 yX8_why ∈ WT := WT_6 7 rfl rfl
theorem ml_L_73 : Cond.methodLink RL 73 yX7_size ∈ WT := WT_4 11 rfl rfl
theorem ml_L_76 : Cond.methodLink RL 76 yX8_size ∈ WT := WT_6 11 rfl rfl
theorem ml_L_77 : Cond.methodLink RL 77 yX7_keep ∈ WT := WT_4 16 rfl rfl
theorem ml_L_80 : Cond.methodLink RL 80 yX8_keep ∈ WT := WT_6 15 rfl rfl
theorem ml_L_81 : Cond.methodLink RL 81 yX7_limit ∈ WT := WT_4 21 rfl rfl
theorem ml_L_84 : Cond.methodLink RL 84 yX8_limit ∈ WT := WT_6 19 rfl rfl
theorem ml_L_85 : Cond.methodLink RL 85 yX7_within ∈ WT := WT_4 25 rfl rfl
theorem ml_L_88 : Cond.methodLink RL 88 yX8_within ∈ WT := WT_6 23 rfl rfl
theorem ml_L_89 : Cond.methodLink RL 89 yX7_move ∈ WT := WT_4 41 rfl rfl
theorem ml_L_92 : Cond.methodLink RL 92 yX8_move ∈ WT := WT_6 36 rfl rfl
theorem ml_L_93 : Cond.methodLink RL 93 yX7_pin ∈ WT := WT_4 53 rfl rfl
theorem ml_L_96 : Cond.methodLink RL 96 yX8_pin ∈ WT := WT_6 44 rfl rfl
theorem ml_L_97 : Cond.methodLink RL 97 yX7_shake ∈ WT := WT_4 57 rfl rfl
theorem ml_L_100 : Cond.methodLink RL 100 yX8_shake ∈ WT := WT_6 48 rfl rfl
theorem ml_L_101 : Cond.methodLink RL 101 yX7_store ∈ WT := WT_4 62 rfl rfl
theorem ml_L_104 : Cond.methodLink RL 104 yX8_store ∈ WT := WT_6 54 rfl rfl
theorem ml_L_105 : Cond.methodLink RL 105 yX7_back ∈ WT := WT_4 66 rfl rfl
theorem ml_L_108 : Cond.methodLink RL 108 yX8_back ∈ WT := WT_6 58 rfl rfl
theorem ml_L_109 : Cond.methodLink RL 109 yX7_sheet ∈ WT := WT_4 70 rfl rfl
theorem ml_L_112 : Cond.methodLink RL 112 yX8_sheet ∈ WT := WT_6 62 rfl rfl
theorem ml_L_113 : Cond.methodLink RL 113 yX7_lay ∈ WT := WT_4 78 rfl rfl
theorem ml_L_116 : Cond.methodLink RL 116 yX8_lay ∈ WT := WT_6 67 rfl rfl
theorem ml_L_117 : Cond.methodLink RL 117 yX7_read ∈ WT := WT_4 90 rfl rfl
theorem ml_L_121 : Cond.methodLink RL 121 yX8_read ∈ WT := WT_6 71 rfl rfl
theorem ml_L_122 : Cond.methodLink RL 122 yX7_torn ∈ WT := WT_4 101 rfl rfl
theorem ml_L_125 : Cond.methodLink RL 125 yX8_torn ∈ WT := WT_6 76 rfl rfl
theorem ml_L_126 : Cond.methodLink RL 126 yX7_count ∈ WT := WT_4 105 rfl rfl
theorem ml_L_129 : Cond.methodLink RL 129 yX8_count ∈ WT := WT_6 80 rfl rfl
theorem ml_X8_1 : Cond.methodLink RX8 1 objectInit ∈ WT := WT_4 118 rfl rfl
theorem ml_X8_67 : Cond.methodLink RX8 67 yX8_in ∈ WT := WT_4 218 rfl rfl
theorem ml_X8_90 : Cond.methodLink RX8 90 yX8_byteAt ∈ WT := WT_4 233 rfl rfl
theorem ml_X8_105 : Cond.methodLink RX8 105 yX8_fails ∈ WT := WT_5 1 rfl rfl
theorem ml_X8_109 : Cond.methodLink RX8 109 yX8_readsOn ∈ WT := WT_4 229 rfl rfl
theorem ml_X8_112 : Cond.methodLink RX8 112 yX8_numberRead ∈ WT := WT_5 17 rfl rfl
theorem ml_X8_115 : Cond.methodLink RX8 115 yX8_readCorner ∈ WT := WT_5 25 rfl rfl
theorem ml_X8_118 : Cond.methodLink RX8 118 yX8_nameHere ∈ WT := WT_5 9 rfl rfl
theorem ml_X8_122 : Cond.methodLink RX8 122 yX8_readPoint ∈ WT := WT_5 13 rfl rfl
theorem ml_X8_125 : Cond.methodLink RX8 125 yX8_readRing ∈ WT := WT_5 21 rfl rfl
theorem ml_X8_131 : Cond.methodLink RX8 131 yX8_isFair ∈ WT := WT_5 33 rfl rfl
theorem ml_X8_135 : Cond.methodLink RX8 135 yX8_readLine ∈ WT := WT_5 5 rfl rfl
theorem ml_X8_138 : Cond.methodLink RX8 138 yX8_isWhole ∈ WT := WT_5 29 rfl rfl
theorem ml_X8_145 : Cond.methodLink RX8 145 yX8_copies ∈ WT := WT_5 74 rfl rfl
theorem ml_X8_153 : Cond.methodLink RX8 153 yX8_cross ∈ WT := WT_5 61 rfl rfl
theorem ml_X8_157 : Cond.methodLink RX8 157 yX8_turned ∈ WT := WT_5 57 rfl rfl
theorem ml_X8_161 : Cond.methodLink RX8 161 yX8_isBetween ∈ WT := WT_5 64 rfl rfl
theorem ml_X8_165 : Cond.methodLink RX8 165 yX8_signOf ∈ WT := WT_5 71 rfl rfl
theorem ml_X8_168 : Cond.methodLink RX8 168 yX8_cornerOf ∈ WT := WT_5 41 rfl rfl
theorem ml_X8_172 : Cond.methodLink RX8 172 yX8_edgesOf ∈ WT := WT_5 49 rfl rfl
theorem ml_X8_175 : Cond.methodLink RX8 175 yX8_isOn ∈ WT := WT_5 53 rfl rfl
theorem ml_X8_179 : Cond.methodLink RX8 179 yX8_isCrossing ∈ WT := WT_5 67 rfl rfl
theorem ml_X8_183 : Cond.methodLink RX8 183 yX8_areaOf ∈ WT := WT_5 37 rfl rfl
theorem ml_X8_187 : Cond.methodLink RX8 187 yX8_isEdgeFair ∈ WT := WT_5 45 rfl rfl
theorem ml_X8_190 : Cond.methodLink RX8 190 yX8_isThere ∈ WT := WT_5 110 rfl rfl
theorem ml_X8_194 : Cond.methodLink RX8 194 yX8_rings ∈ WT := WT_5 118 rfl rfl
theorem ml_X8_197 : Cond.methodLink RX8 197 yX8_ringAt ∈ WT := WT_5 122 rfl rfl
theorem ml_X8_200 : Cond.methodLink RX8 200 yX8_placeIn ∈ WT := WT_5 126 rfl rfl
theorem ml_X8_203 : Cond.methodLink RX8 203 yX8_neighbour ∈ WT := WT_5 114 rfl rfl
theorem ml_X8_206 : Cond.methodLink RX8 206 yX8_points ∈ WT := WT_5 90 rfl rfl
theorem ml_X8_209 : Cond.methodLink RX8 209 yX8_isInTriangle ∈ WT := WT_5 146 rfl rfl
theorem ml_X8_212 : Cond.methodLink RX8 212 yX8_ringArea ∈ WT := WT_5 138 rfl rfl
theorem ml_X8_215 : Cond.methodLink RX8 215 yX8_isNode ∈ WT := WT_5 106 rfl rfl
theorem ml_X8_218 : Cond.methodLink RX8 218 yX8_edgesAt ∈ WT := WT_5 130 rfl rfl
theorem ml_X8_221 : Cond.methodLink RX8 221 yX8_ringsWhy ∈ WT := WT_5 134 rfl rfl
theorem ml_X8_224 : Cond.methodLink RX8 224 yX8_isEmpty ∈ WT := WT_5 142 rfl rfl
theorem ml_X8_230 : Cond.methodLink RX8 230 yX8_degreeOf ∈ WT := WT_5 94 rfl rfl
theorem ml_X8_233 : Cond.methodLink RX8 233 yX8_least ∈ WT := WT_5 98 rfl rfl
theorem ml_X8_236 : Cond.methodLink RX8 236 yX8_sizeOf ∈ WT := WT_5 150 rfl rfl
theorem ml_X8_239 : Cond.methodLink RX8 239 yX8_arcs ∈ WT := WT_5 154 rfl rfl
theorem ml_X8_242 : Cond.methodLink RX8 242 yX8_whyNot ∈ WT := WT_5 102 rfl rfl
theorem ml_X8_248 : Cond.methodLink RX8 248 yX8_arcPoint ∈ WT := WT_5 162 rfl rfl
theorem ml_X8_251 : Cond.methodLink RX8 251 yX8_isInArc ∈ WT := WT_5 158 rfl rfl
theorem ml_X8_254 : Cond.methodLink RX8 254 yX8_arcOf ∈ WT := WT_5 166 rfl rfl
theorem ml_X8_257 : Cond.methodLink RX8 257 yX8_makes ∈ WT := WT_5 86 rfl rfl
theorem ml_X8_260 : Cond.methodLink RX8 260 yX8_edges ∈ WT := WT_5 170 rfl rfl
theorem ml_X8_263 : Cond.methodLink RX8 263 yX8_ofPoints ∈ WT := WT_5 174 rfl rfl
theorem ml_X8_266 : Cond.methodLink RX8 266 yX8_isPoint ∈ WT := WT_5 182 rfl rfl
theorem ml_X8_269 : Cond.methodLink RX8 269 yX8_arcOfPoint ∈ WT := WT_5 186 rfl rfl
theorem ml_X8_272 : Cond.methodLink RX8 272 yX8_isSharing ∈ WT := WT_5 207 rfl rfl
theorem ml_X8_275 : Cond.methodLink RX8 275 yX8_isRing ∈ WT := WT_5 194 rfl rfl
theorem ml_X8_278 : Cond.methodLink RX8 278 yX8_isStage ∈ WT := WT_5 198 rfl rfl
theorem ml_X8_283 : Cond.methodLink RX8 283 yX8_sharing ∈ WT := WT_5 203 rfl rfl
theorem ml_X8_286 : Cond.methodLink RX8 286 yX8_isArc ∈ WT := WT_5 219 rfl rfl
theorem ml_X8_289 : Cond.methodLink RX8 289 yX8_ringsOfArc ∈ WT := WT_5 223 rfl rfl
theorem ml_X8_292 : Cond.methodLink RX8 292 yX8_leftAt ∈ WT := WT_5 239 rfl rfl
theorem ml_X8_295 : Cond.methodLink RX8 295 yX8_isOnPlace ∈ WT := WT_6 32 rfl rfl
theorem ml_X8_300 : Cond.methodLink RX8 300 yX8_lies ∈ WT := WT_6 28 rfl rfl
theorem ml_X8_303 : Cond.methodLink RX8 303 yX8_moves ∈ WT := WT_6 40 rfl rfl
theorem ml_J0_335 : Cond.methodLink RJ0 335 yJ0_coder_7d493 ∈ WT := WT_2 100 rfl rfl
theorem ml_J0_492 : Cond.methodLink RJ0 492 yJ0_isLatin1_aae02 ∈ WT := WT_2 110 rfl rfl
theorem ml_J0_495 : Cond.methodLink RJ0 495 yJ1_charAt_3b067 ∈ WT := WT_2 114 rfl rfl
theorem ml_J0_498 : Cond.methodLink RJ0 498 yJ2_charAt_3b067 ∈ WT := WT_2 125 rfl rfl
theorem ml_J0_1059 : Cond.methodLink RJ0 1059 yJ3_checkIndex_8e157 ∈ WT := WT_2 122 rfl rfl
theorem ml_J1_9 : Cond.methodLink RJ1 9 yJ0_checkIndex_df160 ∈ WT := WT_2 117 rfl rfl
theorem ml_J2_48 : Cond.methodLink RJ2 48 yJ2_length_9d52b ∈ WT := WT_2 131 rfl rfl
theorem ml_J2_67 : Cond.methodLink RJ2 67 yJ2_checkIndex_2214a ∈ WT := WT_2 128 rfl rfl
theorem ml_J2_71 : Cond.methodLink RJ2 71 yJ2_getChar_3b067 ∈ WT := WT_2 135 rfl rfl
theorem ml_J2_414 : Cond.methodLink RJ2 414 yJ0_checkIndex_df160 ∈ WT := WT_2 134 rfl rfl
theorem cd_X7_init : Cond.code yX7_init cX7_init 2 none ∈ WT := WT_1 21 rfl rfl
theorem im_X7_init : Cond.instanceMethod yX7_init ∈ WT := WT_1 20 rfl rfl
theorem yk_X7_init : yOk yX7_init 0 := by decide +kernel
theorem cd_obj : Cond.code objectInit ⟨#[0xb1]⟩ 1 none ∈ WT := WT_1 24 rfl rfl
theorem im_obj : Cond.instanceMethod objectInit ∈ WT := WT_1 23 rfl rfl
theorem cd_X6_init : Cond.code yX6_init cX6_init 1 none ∈ WT := WT_1 29 rfl rfl
theorem im_X6_init : Cond.instanceMethod yX6_init ∈ WT := WT_1 28 rfl rfl
theorem yk_X6_init : yOk yX6_init 0 := by decide +kernel
theorem cd_X1_init : Cond.code yX1_init cX1_init 1 none ∈ WT := WT_1 46 rfl rfl
theorem im_X1_init : Cond.instanceMethod yX1_init ∈ WT := WT_1 45 rfl rfl
theorem yk_X1_init : yOk yX1_init 0 := by decide +kernel
theorem cd_X2_init : Cond.code yX2_init cX2_init 3 none ∈ WT := WT_1 114 rfl rfl
theorem im_X2_init : Cond.instanceMethod yX2_init ∈ WT := WT_1 113 rfl rfl
theorem yk_X2_init : yOk yX2_init 2 := by decide +kernel
theorem cd_X0_init : Cond.code yX0_init cX0_init 2 none ∈ WT := WT_1 151 rfl rfl
theorem im_X0_init : Cond.instanceMethod yX0_init ∈ WT := WT_1 150 rfl rfl
theorem yk_X0_init : yOk yX0_init 1 := by decide +kernel
theorem cd_X5_init : Cond.code yX5_init cX5_init 2 none ∈ WT := WT_1 181 rfl rfl
theorem im_X5_init : Cond.instanceMethod yX5_init ∈ WT := WT_1 180 rfl rfl
theorem yk_X5_init : yOk yX5_init 1 := by decide +kernel
theorem cd_X3_init : Cond.code yX3_init cX3_init 2 none ∈ WT := WT_1 187 rfl rfl
theorem im_X3_init : Cond.instanceMethod yX3_init ∈ WT := WT_1 186 rfl rfl
theorem yk_X3_init : yOk yX3_init 1 := by decide +kernel
theorem cd_X4_init : Cond.code yX4_init cX4_init 1 none ∈ WT := WT_1 238 rfl rfl
theorem im_X4_init : Cond.instanceMethod yX4_init ∈ WT := WT_1 237 rfl rfl
theorem yk_X4_init : yOk yX4_init 0 := by decide +kernel
theorem cd_X7_feed : Cond.code yX7_feed cX7_feed 2 (some .int) ∈ WT := WT_2 52 rfl rfl
theorem im_X7_feed : Cond.instanceMethod yX7_feed ∈ WT := WT_2 50 rfl rfl
theorem se_X7_feed : Cond.selects RX7 yX7_feed yX7_feed ∈ WT := WT_2 51 rfl rfl
theorem yk_X7_feed : yOk yX7_feed 1 := by decide +kernel
theorem cd_X7_isBelow : Cond.code yX7_isBelow cX7_isBelow 2 (some .boolean) ∈ WT := WT_2 55 rfl rfl
theorem sm_X7_isBelow : Cond.static yX7_isBelow ∈ WT := WT_2 54 rfl rfl
theorem yk_X7_isBelow : yOk yX7_isBelow 2 := by decide +kernel
theorem cd_X6_append : Cond.code yX6_append cX6_append 2 none ∈ WT := WT_2 59 rfl rfl
theorem im_X6_append : Cond.instanceMethod yX6_append ∈ WT := WT_2 57 rfl rfl
theorem se_X6_append : Cond.selects RX6 yX6_append yX6_append ∈ WT := WT_2 58 rfl rfl
theorem yk_X6_append : yOk yX6_append 1 := by decide +kernel
theorem cd_X7_end : Cond.code yX7_end cX7_end 3 (some .int) ∈ WT := WT_2 63 rfl rfl
theorem im_X7_end : Cond.instanceMethod yX7_end ∈ WT := WT_2 61 rfl rfl
theorem se_X7_end : Cond.selects RX7 yX7_end yX7_end ∈ WT := WT_2 62 rfl rfl
theorem yk_X7_end : yOk yX7_end 1 := by decide +kernel
theorem cd_X7_text : Cond.code yX7_text cX7_text 2 (some .int) ∈ WT := WT_2 67 rfl rfl
theorem im_X7_text : Cond.instanceMethod yX7_text ∈ WT := WT_2 65 rfl rfl
theorem se_X7_text : Cond.selects RX7 yX7_text yX7_text ∈ WT := WT_2 66 rfl rfl
theorem yk_X7_text : yOk yX7_text 0 := by decide +kernel
theorem cd_X2_readAll : Cond.code yX2_readAll cX2_readAll 2 (some .boolean) ∈ WT := WT_2 71 rfl rfl
theorem im_X2_readAll : Cond.instanceMethod yX2_readAll ∈ WT := WT_2 69 rfl rfl
theorem se_X2_readAll : Cond.selects RX2 yX2_readAll yX2_readAll ∈ WT := WT_2 70 rfl rfl
theorem yk_X2_readAll : yOk yX2_readAll 0 := by decide +kernel
theorem cd_X1_clear : Cond.code yX1_clear cX1_clear 2 none ∈ WT := WT_2 75 rfl rfl
theorem im_X1_clear : Cond.instanceMethod yX1_clear ∈ WT := WT_2 73 rfl rfl
theorem se_X1_clear : Cond.selects RX1 yX1_clear yX1_clear ∈ WT := WT_2 74 rfl rfl
theorem yk_X1_clear : yOk yX1_clear 0 := by decide +kernel
theorem cd_X2_nextToken : Cond.code yX2_nextToken cX2_nextToken 1 none ∈ WT := WT_2 79 rfl rfl
theorem im_X2_nextToken : Cond.instanceMethod yX2_nextToken ∈ WT := WT_2 78 rfl rfl
theorem se_X2_nextToken : Cond.selects RX2 yX2_nextToken yX2_nextToken ∈ WT := WT_p (y := yX2_nextToken) (n := 9) (List.mem_append_left _ (List.mem_of_getElem? (l := lw_privs_1) (i := 0) rfl))
theorem yk_X2_nextToken : yOk yX2_nextToken 0 := by decide +kernel
theorem cd_X2_kindOf : Cond.code yX2_kindOf cX2_kindOf 1 (some .int) ∈ WT := WT_2 82 rfl rfl
theorem sm_X2_kindOf : Cond.static yX2_kindOf ∈ WT := WT_2 81 rfl rfl
theorem yk_X2_kindOf : yOk yX2_kindOf 1 := by decide +kernel
theorem cd_X2_weighNumber : Cond.code yX2_weighNumber cX2_weighNumber 2 none ∈ WT := WT_2 86 rfl rfl
theorem im_X2_weighNumber : Cond.instanceMethod yX2_weighNumber ∈ WT := WT_2 85 rfl rfl
theorem se_X2_weighNumber : Cond.selects RX2 yX2_weighNumber yX2_weighNumber ∈ WT := WT_p (y := yX2_weighNumber) (n := 9) (List.mem_append_left _ (List.mem_of_getElem? (l := lw_privs_1) (i := 1) rfl))
theorem yk_X2_weighNumber : yOk yX2_weighNumber 0 := by decide +kernel
theorem cd_X2_readLine : Cond.code yX2_readLine cX2_readLine 1 (some .boolean) ∈ WT := WT_2 90 rfl rfl
theorem im_X2_readLine : Cond.instanceMethod yX2_readLine ∈ WT := WT_2 89 rfl rfl
theorem se_X2_readLine : Cond.selects RX2 yX2_readLine yX2_readLine ∈ WT := WT_p (y := yX2_readLine) (n := 9) (List.mem_append_left _ (List.mem_of_getElem? (l := lw_privs_1) (i := 2) rfl))
theorem yk_X2_readLine : yOk yX2_readLine 0 := by decide +kernel
theorem cd_X2_nameIs : Cond.code yX2_nameIs cX2_nameIs 3 (some .boolean) ∈ WT := WT_2 95 rfl rfl
theorem im_X2_nameIs : Cond.instanceMethod yX2_nameIs ∈ WT := WT_2 94 rfl rfl
theorem se_X2_nameIs : Cond.selects RX2 yX2_nameIs yX2_nameIs ∈ WT := WT_p (y := yX2_nameIs) (n := 9) (List.mem_append_left _ (List.mem_of_getElem? (l := lw_privs_1) (i := 3) rfl))
theorem yk_X2_nameIs : yOk yX2_nameIs 1 := by decide +kernel
theorem cd_J0_length_8abf5 : Cond.code yJ0_length_8abf5 cJ0_length_8abf5 1 (some .int) ∈ WT := WT_2 99 rfl rfl
theorem im_J0_length_8abf5 : Cond.instanceMethod yJ0_length_8abf5 ∈ WT := WT_2 97 rfl rfl
theorem se_J0_length_8abf5 : Cond.selects RJ0 yJ0_length_8abf5 yJ0_length_8abf5 ∈ WT := WT_2 98 rfl rfl
theorem yk_J0_length_8abf5 : yOk yJ0_length_8abf5 0 := by decide +kernel
theorem cd_J0_coder_7d493 : Cond.code yJ0_coder_7d493 cJ0_coder_7d493 1 (some .byte) ∈ WT := WT_2 103 rfl rfl
theorem im_J0_coder_7d493 : Cond.instanceMethod yJ0_coder_7d493 ∈ WT := WT_2 101 rfl rfl
theorem se_J0_coder_7d493 : Cond.selects RJ0 yJ0_coder_7d493 yJ0_coder_7d493 ∈ WT := WT_2 102 rfl rfl
theorem yk_J0_coder_7d493 : yOk yJ0_coder_7d493 0 := by decide +kernel
theorem cd_J0_charAt_5068e : Cond.code yJ0_charAt_5068e cJ0_charAt_5068e 2 (some .char) ∈ WT := WT_2 109 rfl rfl
theorem im_J0_charAt_5068e : Cond.instanceMethod yJ0_charAt_5068e ∈ WT := WT_2 107 rfl rfl
theorem se_J0_charAt_5068e : Cond.selects RJ0 yJ0_charAt_5068e yJ0_charAt_5068e ∈ WT := WT_2 108 rfl rfl
theorem yk_J0_charAt_5068e : yOk yJ0_charAt_5068e 1 := by decide +kernel
theorem cd_J0_isLatin1_aae02 : Cond.code yJ0_isLatin1_aae02 cJ0_isLatin1_aae02 1 (some .boolean) ∈ WT := WT_2 113 rfl rfl
theorem im_J0_isLatin1_aae02 : Cond.instanceMethod yJ0_isLatin1_aae02 ∈ WT := WT_2 111 rfl rfl
theorem se_J0_isLatin1_aae02 : Cond.selects RJ0 yJ0_isLatin1_aae02 yJ0_isLatin1_aae02 ∈ WT := WT_2 112 rfl rfl
theorem yk_J0_isLatin1_aae02 : yOk yJ0_isLatin1_aae02 0 := by decide +kernel
theorem cd_J1_charAt_3b067 : Cond.code yJ1_charAt_3b067 cJ1_charAt_3b067 2 (some .char) ∈ WT := WT_2 116 rfl rfl
theorem sm_J1_charAt_3b067 : Cond.static yJ1_charAt_3b067 ∈ WT := WT_2 115 rfl rfl
theorem yk_J1_charAt_3b067 : yOk yJ1_charAt_3b067 2 := by decide +kernel
theorem cd_J0_checkIndex_df160 : Cond.code yJ0_checkIndex_df160 cJ0_checkIndex_df160 2 none ∈ WT := WT_2 119 rfl rfl
theorem sm_J0_checkIndex_df160 : Cond.static yJ0_checkIndex_df160 ∈ WT := WT_2 118 rfl rfl
theorem yk_J0_checkIndex_df160 : yOk yJ0_checkIndex_df160 2 := by decide +kernel
theorem cd_J3_checkIndex_8e157 : Cond.code yJ3_checkIndex_8e157 cJ3_checkIndex_8e157 3 (some .int) ∈ WT := WT_2 124 rfl rfl
theorem sm_J3_checkIndex_8e157 : Cond.static yJ3_checkIndex_8e157 ∈ WT := WT_2 123 rfl rfl
theorem yk_J3_checkIndex_8e157 : yOk yJ3_checkIndex_8e157 3 := by decide +kernel
theorem cd_J2_charAt_3b067 : Cond.code yJ2_charAt_3b067 cJ2_charAt_3b067 2 (some .char) ∈ WT := WT_2 127 rfl rfl
theorem sm_J2_charAt_3b067 : Cond.static yJ2_charAt_3b067 ∈ WT := WT_2 126 rfl rfl
theorem yk_J2_charAt_3b067 : yOk yJ2_charAt_3b067 2 := by decide +kernel
theorem cd_J2_checkIndex_2214a : Cond.code yJ2_checkIndex_2214a cJ2_checkIndex_2214a 2 none ∈ WT := WT_2 130 rfl rfl
theorem sm_J2_checkIndex_2214a : Cond.static yJ2_checkIndex_2214a ∈ WT := WT_2 129 rfl rfl
theorem yk_J2_checkIndex_2214a : yOk yJ2_checkIndex_2214a 2 := by decide +kernel
theorem cd_J2_length_9d52b : Cond.code yJ2_length_9d52b cJ2_length_9d52b 1 (some .int) ∈ WT := WT_2 133 rfl rfl
theorem sm_J2_length_9d52b : Cond.static yJ2_length_9d52b ∈ WT := WT_2 132 rfl rfl
theorem yk_J2_length_9d52b : yOk yJ2_length_9d52b 1 := by decide +kernel
theorem cd_J2_getChar_3b067 : Cond.code yJ2_getChar_3b067 cJ2_getChar_3b067 2 (some .char) ∈ WT := WT_2 137 rfl rfl
theorem sm_J2_getChar_3b067 : Cond.static yJ2_getChar_3b067 ∈ WT := WT_2 136 rfl rfl
theorem yk_J2_getChar_3b067 : yOk yJ2_getChar_3b067 2 := by decide +kernel
theorem cd_X2_readPoint : Cond.code yX2_readPoint cX2_readPoint 2 (some .boolean) ∈ WT := WT_2 147 rfl rfl
theorem im_X2_readPoint : Cond.instanceMethod yX2_readPoint ∈ WT := WT_2 146 rfl rfl
theorem se_X2_readPoint : Cond.selects RX2 yX2_readPoint yX2_readPoint ∈ WT := WT_p (y := yX2_readPoint) (n := 9) (List.mem_append_left _ (List.mem_of_getElem? (l := lw_privs_1) (i := 4) rfl))
theorem yk_X2_readPoint : yOk yX2_readPoint 0 := by decide +kernel
theorem cd_X2_refuse : Cond.code yX2_refuse cX2_refuse 3 (some .boolean) ∈ WT := WT_2 151 rfl rfl
theorem im_X2_refuse : Cond.instanceMethod yX2_refuse ∈ WT := WT_2 150 rfl rfl
theorem se_X2_refuse : Cond.selects RX2 yX2_refuse yX2_refuse ∈ WT := WT_p (y := yX2_refuse) (n := 9) (List.mem_append_left _ (List.mem_of_getElem? (l := lw_privs_1) (i := 5) rfl))
theorem yk_X2_refuse : yOk yX2_refuse 2 := by decide +kernel
theorem cd_X2_readNumber : Cond.code yX2_readNumber cX2_readNumber 2 (some .boolean) ∈ WT := WT_2 155 rfl rfl
theorem im_X2_readNumber : Cond.instanceMethod yX2_readNumber ∈ WT := WT_2 154 rfl rfl
theorem se_X2_readNumber : Cond.selects RX2 yX2_readNumber yX2_readNumber ∈ WT := WT_p (y := yX2_readNumber) (n := 9) (List.mem_append_left _ (List.mem_of_getElem? (l := lw_privs_1) (i := 6) rfl))
theorem yk_X2_readNumber : yOk yX2_readNumber 1 := by decide +kernel
theorem cd_X2_refuseToken : Cond.code yX2_refuseToken cX2_refuseToken 1 (some .boolean) ∈ WT := WT_2 159 rfl rfl
theorem im_X2_refuseToken : Cond.instanceMethod yX2_refuseToken ∈ WT := WT_2 158 rfl rfl
theorem se_X2_refuseToken : Cond.selects RX2 yX2_refuseToken yX2_refuseToken ∈ WT := WT_p (y := yX2_refuseToken) (n := 9) (List.mem_append_left _ (List.mem_of_getElem? (l := lw_privs_1) (i := 7) rfl))
theorem yk_X2_refuseToken : yOk yX2_refuseToken 0 := by decide +kernel
theorem cd_X1_addPoint : Cond.code yX1_addPoint cX1_addPoint 3 none ∈ WT := WT_2 163 rfl rfl
theorem im_X1_addPoint : Cond.instanceMethod yX1_addPoint ∈ WT := WT_2 161 rfl rfl
theorem se_X1_addPoint : Cond.selects RX1 yX1_addPoint yX1_addPoint ∈ WT := WT_2 162 rfl rfl
theorem yk_X1_addPoint : yOk yX1_addPoint 2 := by decide +kernel
theorem cd_X2_readSemicolon : Cond.code yX2_readSemicolon cX2_readSemicolon 1 (some .boolean) ∈ WT := WT_2 167 rfl rfl
theorem im_X2_readSemicolon : Cond.instanceMethod yX2_readSemicolon ∈ WT := WT_2 166 rfl rfl
theorem se_X2_readSemicolon : Cond.selects RX2 yX2_readSemicolon yX2_readSemicolon ∈ WT := WT_p (y := yX2_readSemicolon) (n := 9) (List.mem_append_left _ (List.mem_of_getElem? (l := lw_privs_1) (i := 8) rfl))
theorem yk_X2_readSemicolon : yOk yX2_readSemicolon 0 := by decide +kernel
theorem cd_X2_readRing : Cond.code yX2_readRing cX2_readRing 2 (some .boolean) ∈ WT := WT_2 172 rfl rfl
theorem im_X2_readRing : Cond.instanceMethod yX2_readRing ∈ WT := WT_2 171 rfl rfl
theorem se_X2_readRing : Cond.selects RX2 yX2_readRing yX2_readRing ∈ WT := WT_p (y := yX2_readRing) (n := 9) (List.mem_append_left _ (List.mem_of_getElem? (l := lw_privs_1) (i := 9) rfl))
theorem yk_X2_readRing : yOk yX2_readRing 0 := by decide +kernel
theorem cd_X1_openRing : Cond.code yX1_openRing cX1_openRing 1 none ∈ WT := WT_2 176 rfl rfl
theorem im_X1_openRing : Cond.instanceMethod yX1_openRing ∈ WT := WT_2 174 rfl rfl
theorem se_X1_openRing : Cond.selects RX1 yX1_openRing yX1_openRing ∈ WT := WT_2 175 rfl rfl
theorem yk_X1_openRing : yOk yX1_openRing 0 := by decide +kernel
theorem cd_X2_takeCorner : Cond.code yX2_takeCorner cX2_takeCorner 2 (some .boolean) ∈ WT := WT_2 180 rfl rfl
theorem im_X2_takeCorner : Cond.instanceMethod yX2_takeCorner ∈ WT := WT_2 179 rfl rfl
theorem se_X2_takeCorner : Cond.selects RX2 yX2_takeCorner yX2_takeCorner ∈ WT := WT_p (y := yX2_takeCorner) (n := 9) (List.mem_append_left _ (List.mem_of_getElem? (l := lw_privs_1) (i := 10) rfl))
theorem yk_X2_takeCorner : yOk yX2_takeCorner 1 := by decide +kernel
theorem cd_X1_newestRingHas : Cond.code yX1_newestRingHas cX1_newestRingHas 4 (some .boolean) ∈ WT := WT_2 184 rfl rfl
theorem im_X1_newestRingHas : Cond.instanceMethod yX1_newestRingHas ∈ WT := WT_2 182 rfl rfl
theorem se_X1_newestRingHas : Cond.selects RX1 yX1_newestRingHas yX1_newestRingHas ∈ WT := WT_2 183 rfl rfl
theorem yk_X1_newestRingHas : yOk yX1_newestRingHas 1 := by decide +kernel
theorem cd_X1_addCorner : Cond.code yX1_addCorner cX1_addCorner 3 none ∈ WT := WT_2 188 rfl rfl
theorem im_X1_addCorner : Cond.instanceMethod yX1_addCorner ∈ WT := WT_2 186 rfl rfl
theorem se_X1_addCorner : Cond.selects RX1 yX1_addCorner yX1_addCorner ∈ WT := WT_2 187 rfl rfl
theorem yk_X1_addCorner : yOk yX1_addCorner 1 := by decide +kernel
theorem cd_X2_readPin : Cond.code yX2_readPin cX2_readPin 1 (some .boolean) ∈ WT := WT_2 193 rfl rfl
theorem im_X2_readPin : Cond.instanceMethod yX2_readPin ∈ WT := WT_2 192 rfl rfl
theorem se_X2_readPin : Cond.selects RX2 yX2_readPin yX2_readPin ∈ WT := WT_p (y := yX2_readPin) (n := 9) (List.mem_append_left _ (List.mem_of_getElem? (l := lw_privs_1) (i := 11) rfl))
theorem yk_X2_readPin : yOk yX2_readPin 0 := by decide +kernel
theorem cd_X2_judgeAll : Cond.code yX2_judgeAll cX2_judgeAll 1 (some .boolean) ∈ WT := WT_2 198 rfl rfl
theorem im_X2_judgeAll : Cond.instanceMethod yX2_judgeAll ∈ WT := WT_2 196 rfl rfl
theorem se_X2_judgeAll : Cond.selects RX2 yX2_judgeAll yX2_judgeAll ∈ WT := WT_2 197 rfl rfl
theorem yk_X2_judgeAll : yOk yX2_judgeAll 0 := by decide +kernel
theorem cd_X1_isWhole : Cond.code yX1_isWhole cX1_isWhole 3 (some .boolean) ∈ WT := WT_2 202 rfl rfl
theorem im_X1_isWhole : Cond.instanceMethod yX1_isWhole ∈ WT := WT_2 200 rfl rfl
theorem se_X1_isWhole : Cond.selects RX1 yX1_isWhole yX1_isWhole ∈ WT := WT_2 201 rfl rfl
theorem yk_X1_isWhole : yOk yX1_isWhole 0 := by decide +kernel
theorem cd_X1_gatherEdges : Cond.code yX1_gatherEdges cX1_gatherEdges 3 none ∈ WT := WT_2 206 rfl rfl
theorem im_X1_gatherEdges : Cond.instanceMethod yX1_gatherEdges ∈ WT := WT_2 204 rfl rfl
theorem se_X1_gatherEdges : Cond.selects RX1 yX1_gatherEdges yX1_gatherEdges ∈ WT := WT_2 205 rfl rfl
theorem yk_X1_gatherEdges : yOk yX1_gatherEdges 0 := by decide +kernel
theorem cd_X7_following : Cond.code yX7_following cX7_following 2 (some .int) ∈ WT := WT_2 209 rfl rfl
theorem sm_X7_following : Cond.static yX7_following ∈ WT := WT_2 208 rfl rfl
theorem yk_X7_following : yOk yX7_following 2 := by decide +kernel
theorem cd_X1_noteEdge : Cond.code yX1_noteEdge cX1_noteEdge 4 none ∈ WT := WT_2 213 rfl rfl
theorem im_X1_noteEdge : Cond.instanceMethod yX1_noteEdge ∈ WT := WT_2 212 rfl rfl
theorem se_X1_noteEdge : Cond.selects RX1 yX1_noteEdge yX1_noteEdge ∈ WT := WT_p (y := yX1_noteEdge) (n := 12) (List.mem_append_left _ (List.mem_of_getElem? (l := lw_privs_1) (i := 12) rfl))
theorem yk_X1_noteEdge : yOk yX1_noteEdge 2 := by decide +kernel
theorem cd_X1_edgeBetween : Cond.code yX1_edgeBetween cX1_edgeBetween 4 (some .int) ∈ WT := WT_2 217 rfl rfl
theorem im_X1_edgeBetween : Cond.instanceMethod yX1_edgeBetween ∈ WT := WT_2 215 rfl rfl
theorem se_X1_edgeBetween : Cond.selects RX1 yX1_edgeBetween yX1_edgeBetween ∈ WT := WT_2 216 rfl rfl
theorem yk_X1_edgeBetween : yOk yX1_edgeBetween 2 := by decide +kernel
theorem cd_X1_isFair : Cond.code yX1_isFair cX1_isFair 2 (some .boolean) ∈ WT := WT_2 221 rfl rfl
theorem im_X1_isFair : Cond.instanceMethod yX1_isFair ∈ WT := WT_2 219 rfl rfl
theorem se_X1_isFair : Cond.selects RX1 yX1_isFair yX1_isFair ∈ WT := WT_2 220 rfl rfl
theorem yk_X1_isFair : yOk yX1_isFair 0 := by decide +kernel
theorem cd_X1_isFairAround : Cond.code yX1_isFairAround cX1_isFairAround 3 (some .boolean) ∈ WT := WT_2 225 rfl rfl
theorem im_X1_isFairAround : Cond.instanceMethod yX1_isFairAround ∈ WT := WT_2 224 rfl rfl
theorem se_X1_isFairAround : Cond.selects RX1 yX1_isFairAround yX1_isFairAround ∈ WT := WT_p (y := yX1_isFairAround) (n := 12) (List.mem_append_left _ (List.mem_of_getElem? (l := lw_privs_1) (i := 13) rfl))
theorem yk_X1_isFairAround : yOk yX1_isFairAround 1 := by decide +kernel
theorem cd_X1_ends : Cond.code yX1_ends cX1_ends 3 (some .boolean) ∈ WT := WT_2 229 rfl rfl
theorem im_X1_ends : Cond.instanceMethod yX1_ends ∈ WT := WT_2 228 rfl rfl
theorem se_X1_ends : Cond.selects RX1 yX1_ends yX1_ends ∈ WT := WT_p (y := yX1_ends) (n := 12) (List.mem_append_left _ (List.mem_of_getElem? (l := lw_privs_1) (i := 14) rfl))
theorem yk_X1_ends : yOk yX1_ends 2 := by decide +kernel
theorem cd_X1_isClear : Cond.code yX1_isClear cX1_isClear 5 (some .boolean) ∈ WT := WT_2 233 rfl rfl
theorem im_X1_isClear : Cond.instanceMethod yX1_isClear ∈ WT := WT_2 232 rfl rfl
theorem se_X1_isClear : Cond.selects RX1 yX1_isClear yX1_isClear ∈ WT := WT_p (y := yX1_isClear) (n := 12) (List.mem_append_left _ (List.mem_of_getElem? (l := lw_privs_1) (i := 15) rfl))
theorem yk_X1_isClear : yOk yX1_isClear 1 := by decide +kernel
theorem cd_X1_isOn : Cond.code yX1_isOn cX1_isOn 5 (some .boolean) ∈ WT := WT_2 237 rfl rfl
theorem im_X1_isOn : Cond.instanceMethod yX1_isOn ∈ WT := WT_2 235 rfl rfl
theorem se_X1_isOn : Cond.selects RX1 yX1_isOn yX1_isOn ∈ WT := WT_2 236 rfl rfl
theorem yk_X1_isOn : yOk yX1_isOn 4 := by decide +kernel
theorem cd_X1_sideOf : Cond.code yX1_sideOf cX1_sideOf 5 (some .int) ∈ WT := WT_3 1 rfl rfl
theorem im_X1_sideOf : Cond.instanceMethod yX1_sideOf ∈ WT := WT_2 239 rfl rfl
theorem se_X1_sideOf : Cond.selects RX1 yX1_sideOf yX1_sideOf ∈ WT := WT_3 0 rfl rfl
theorem yk_X1_sideOf : yOk yX1_sideOf 4 := by decide +kernel
theorem cd_J9_min_7cf53 : Cond.code Lib.Math.min.name Lib.Math.min.code 2 (some .int) ∈ WT := WT_3 4 rfl rfl
theorem sm_J9_min_7cf53 : Cond.static Lib.Math.min.name ∈ WT := WT_3 3 rfl rfl
theorem yk_J9_min_7cf53 : yOk Lib.Math.min.name 2 := by decide +kernel
theorem cd_J9_max_7cf53 : Cond.code Lib.Math.max.name Lib.Math.max.code 2 (some .int) ∈ WT := WT_3 7 rfl rfl
theorem sm_J9_max_7cf53 : Cond.static Lib.Math.max.name ∈ WT := WT_3 6 rfl rfl
theorem yk_J9_max_7cf53 : yOk Lib.Math.max.name 2 := by decide +kernel
theorem cd_X1_cross : Cond.code yX1_cross cX1_cross 5 (some .boolean) ∈ WT := WT_3 11 rfl rfl
theorem im_X1_cross : Cond.instanceMethod yX1_cross ∈ WT := WT_3 10 rfl rfl
theorem se_X1_cross : Cond.selects RX1 yX1_cross yX1_cross ∈ WT := WT_p (y := yX1_cross) (n := 12) (List.mem_append_right _ (List.mem_append_left _ (List.mem_of_getElem? (l := lw_privs_2) (i := 0) rfl)))
theorem yk_X1_cross : yOk yX1_cross 4 := by decide +kernel
theorem cd_X1_areOpposite : Cond.code yX1_areOpposite cX1_areOpposite 2 (some .boolean) ∈ WT := WT_3 14 rfl rfl
theorem sm_X1_areOpposite : Cond.static yX1_areOpposite ∈ WT := WT_3 13 rfl rfl
theorem yk_X1_areOpposite : yOk yX1_areOpposite 2 := by decide +kernel
theorem cd_X1_areasStand : Cond.code yX1_areasStand cX1_areasStand 2 (some .boolean) ∈ WT := WT_3 18 rfl rfl
theorem im_X1_areasStand : Cond.instanceMethod yX1_areasStand ∈ WT := WT_3 17 rfl rfl
theorem se_X1_areasStand : Cond.selects RX1 yX1_areasStand yX1_areasStand ∈ WT := WT_p (y := yX1_areasStand) (n := 12) (List.mem_append_right _ (List.mem_append_left _ (List.mem_of_getElem? (l := lw_privs_2) (i := 1) rfl)))
theorem yk_X1_areasStand : yOk yX1_areasStand 0 := by decide +kernel
theorem cd_X1_areaOf : Cond.code yX1_areaOf cX1_areaOf 7 (some .int) ∈ WT := WT_3 22 rfl rfl
theorem im_X1_areaOf : Cond.instanceMethod yX1_areaOf ∈ WT := WT_3 20 rfl rfl
theorem se_X1_areaOf : Cond.selects RX1 yX1_areaOf yX1_areaOf ∈ WT := WT_3 21 rfl rfl
theorem yk_X1_areaOf : yOk yX1_areaOf 2 := by decide +kernel
theorem cd_X1_copyFrom : Cond.code yX1_copyFrom cX1_copyFrom 3 none ∈ WT := WT_3 26 rfl rfl
theorem im_X1_copyFrom : Cond.instanceMethod yX1_copyFrom ∈ WT := WT_3 24 rfl rfl
theorem se_X1_copyFrom : Cond.selects RX1 yX1_copyFrom yX1_copyFrom ∈ WT := WT_3 25 rfl rfl
theorem yk_X1_copyFrom : yOk yX1_copyFrom 1 := by decide +kernel
theorem cd_X7_forgetImages : Cond.code yX7_forgetImages cX7_forgetImages 2 none ∈ WT := WT_3 33 rfl rfl
theorem im_X7_forgetImages : Cond.instanceMethod yX7_forgetImages ∈ WT := WT_3 32 rfl rfl
theorem se_X7_forgetImages : Cond.selects RX7 yX7_forgetImages yX7_forgetImages ∈ WT := WT_p (y := yX7_forgetImages) (n := 12) (List.mem_append_right _ (List.mem_append_left _ (List.mem_of_getElem? (l := lw_privs_2) (i := 2) rfl)))
theorem yk_X7_forgetImages : yOk yX7_forgetImages 0 := by decide +kernel
theorem cd_X7_refresh : Cond.code yX7_refresh cX7_refresh 1 none ∈ WT := WT_3 37 rfl rfl
theorem im_X7_refresh : Cond.instanceMethod yX7_refresh ∈ WT := WT_3 36 rfl rfl
theorem se_X7_refresh : Cond.selects RX7 yX7_refresh yX7_refresh ∈ WT := WT_p (y := yX7_refresh) (n := 12) (List.mem_append_right _ (List.mem_append_left _ (List.mem_of_getElem? (l := lw_privs_2) (i := 3) rfl)))
theorem yk_X7_refresh : yOk yX7_refresh 0 := by decide +kernel
theorem cd_X0_trace : Cond.code yX0_trace cX0_trace 4 none ∈ WT := WT_3 41 rfl rfl
theorem im_X0_trace : Cond.instanceMethod yX0_trace ∈ WT := WT_3 39 rfl rfl
theorem se_X0_trace : Cond.selects RX0 yX0_trace yX0_trace ∈ WT := WT_3 40 rfl rfl
theorem yk_X0_trace : yOk yX0_trace 0 := by decide +kernel
theorem cd_X0_edgeBehind : Cond.code yX0_edgeBehind cX0_edgeBehind 4 (some .int) ∈ WT := WT_3 45 rfl rfl
theorem im_X0_edgeBehind : Cond.instanceMethod yX0_edgeBehind ∈ WT := WT_3 44 rfl rfl
theorem se_X0_edgeBehind : Cond.selects RX0 yX0_edgeBehind yX0_edgeBehind ∈ WT := WT_p (y := yX0_edgeBehind) (n := 6) (List.mem_append_right _ (List.mem_append_left _ (List.mem_of_getElem? (l := lw_privs_2) (i := 4) rfl)))
theorem yk_X0_edgeBehind : yOk yX0_edgeBehind 2 := by decide +kernel
theorem cd_X0_traceArc : Cond.code yX0_traceArc cX0_traceArc 9 none ∈ WT := WT_3 51 rfl rfl
theorem im_X0_traceArc : Cond.instanceMethod yX0_traceArc ∈ WT := WT_3 50 rfl rfl
theorem se_X0_traceArc : Cond.selects RX0 yX0_traceArc yX0_traceArc ∈ WT := WT_p (y := yX0_traceArc) (n := 6) (List.mem_append_right _ (List.mem_append_left _ (List.mem_of_getElem? (l := lw_privs_2) (i := 5) rfl)))
theorem yk_X0_traceArc : yOk yX0_traceArc 2 := by decide +kernel
theorem cd_X0_nodeAhead : Cond.code yX0_nodeAhead cX0_nodeAhead 5 (some .int) ∈ WT := WT_3 55 rfl rfl
theorem im_X0_nodeAhead : Cond.instanceMethod yX0_nodeAhead ∈ WT := WT_3 54 rfl rfl
theorem se_X0_nodeAhead : Cond.selects RX0 yX0_nodeAhead yX0_nodeAhead ∈ WT := WT_p (y := yX0_nodeAhead) (n := 6) (List.mem_append_right _ (List.mem_append_left _ (List.mem_of_getElem? (l := lw_privs_2) (i := 6) rfl)))
theorem yk_X0_nodeAhead : yOk yX0_nodeAhead 2 := by decide +kernel
theorem cd_X1_isNode : Cond.code yX1_isNode cX1_isNode 2 (some .boolean) ∈ WT := WT_3 59 rfl rfl
theorem im_X1_isNode : Cond.instanceMethod yX1_isNode ∈ WT := WT_3 57 rfl rfl
theorem se_X1_isNode : Cond.selects RX1 yX1_isNode yX1_isNode ∈ WT := WT_3 58 rfl rfl
theorem yk_X1_isNode : yOk yX1_isNode 1 := by decide +kernel
theorem cd_X7_preceding : Cond.code yX7_preceding cX7_preceding 2 (some .int) ∈ WT := WT_3 62 rfl rfl
theorem sm_X7_preceding : Cond.static yX7_preceding ∈ WT := WT_3 61 rfl rfl
theorem yk_X7_preceding : yOk yX7_preceding 2 := by decide +kernel
theorem cd_X0_append : Cond.code yX0_append cX0_append 2 none ∈ WT := WT_3 66 rfl rfl
theorem im_X0_append : Cond.instanceMethod yX0_append ∈ WT := WT_3 65 rfl rfl
theorem se_X0_append : Cond.selects RX0 yX0_append yX0_append ∈ WT := WT_p (y := yX0_append) (n := 6) (List.mem_append_right _ (List.mem_append_left _ (List.mem_of_getElem? (l := lw_privs_2) (i := 7) rfl)))
theorem yk_X0_append : yOk yX0_append 1 := by decide +kernel
theorem cd_X5_thin : Cond.code yX5_thin cX5_thin 6 none ∈ WT := WT_3 70 rfl rfl
theorem im_X5_thin : Cond.instanceMethod yX5_thin ∈ WT := WT_3 68 rfl rfl
theorem se_X5_thin : Cond.selects RX5 yX5_thin yX5_thin ∈ WT := WT_3 69 rfl rfl
theorem yk_X5_thin : yOk yX5_thin 0 := by decide +kernel
theorem cd_X3_showAll : Cond.code yX3_showAll cX3_showAll 2 none ∈ WT := WT_3 74 rfl rfl
theorem im_X3_showAll : Cond.instanceMethod yX3_showAll ∈ WT := WT_3 72 rfl rfl
theorem se_X3_showAll : Cond.selects RX3 yX3_showAll yX3_showAll ∈ WT := WT_3 73 rfl rfl
theorem yk_X3_showAll : yOk yX3_showAll 0 := by decide +kernel
theorem cd_X3_triangleOf : Cond.code yX3_triangleOf cX3_triangleOf 4 (some .int) ∈ WT := WT_3 79 rfl rfl
theorem im_X3_triangleOf : Cond.instanceMethod yX3_triangleOf ∈ WT := WT_3 77 rfl rfl
theorem se_X3_triangleOf : Cond.selects RX3 yX3_triangleOf yX3_triangleOf ∈ WT := WT_3 78 rfl rfl
theorem yk_X3_triangleOf : yOk yX3_triangleOf 1 := by decide +kernel
theorem cd_X3_ahead : Cond.code yX3_ahead cX3_ahead 3 (some .int) ∈ WT := WT_3 83 rfl rfl
theorem im_X3_ahead : Cond.instanceMethod yX3_ahead ∈ WT := WT_3 82 rfl rfl
theorem se_X3_ahead : Cond.selects RX3 yX3_ahead yX3_ahead ∈ WT := WT_p (y := yX3_ahead) (n := 5) (List.mem_append_right _ (List.mem_append_left _ (List.mem_of_getElem? (l := lw_privs_2) (i := 8) rfl)))
theorem yk_X3_ahead : yOk yX3_ahead 1 := by decide +kernel
theorem cd_X3_ringWith : Cond.code yX3_ringWith cX3_ringWith 3 (some .int) ∈ WT := WT_3 87 rfl rfl
theorem im_X3_ringWith : Cond.instanceMethod yX3_ringWith ∈ WT := WT_3 86 rfl rfl
theorem se_X3_ringWith : Cond.selects RX3 yX3_ringWith yX3_ringWith ∈ WT := WT_p (y := yX3_ringWith) (n := 5) (List.mem_append_right _ (List.mem_append_left _ (List.mem_of_getElem? (l := lw_privs_2) (i := 9) rfl)))
theorem yk_X3_ringWith : yOk yX3_ringWith 1 := by decide +kernel
theorem cd_X3_indexIn : Cond.code yX3_indexIn cX3_indexIn 4 (some .int) ∈ WT := WT_3 91 rfl rfl
theorem im_X3_indexIn : Cond.instanceMethod yX3_indexIn ∈ WT := WT_3 90 rfl rfl
theorem se_X3_indexIn : Cond.selects RX3 yX3_indexIn yX3_indexIn ∈ WT := WT_p (y := yX3_indexIn) (n := 5) (List.mem_append_right _ (List.mem_append_left _ (List.mem_of_getElem? (l := lw_privs_2) (i := 10) rfl)))
theorem yk_X3_indexIn : yOk yX3_indexIn 2 := by decide +kernel
theorem cd_X3_behind : Cond.code yX3_behind cX3_behind 3 (some .int) ∈ WT := WT_3 96 rfl rfl
theorem im_X3_behind : Cond.instanceMethod yX3_behind ∈ WT := WT_3 95 rfl rfl
theorem se_X3_behind : Cond.selects RX3 yX3_behind yX3_behind ∈ WT := WT_p (y := yX3_behind) (n := 5) (List.mem_append_right _ (List.mem_append_left _ (List.mem_of_getElem? (l := lw_privs_2) (i := 11) rfl)))
theorem yk_X3_behind : yOk yX3_behind 1 := by decide +kernel
theorem cd_J9_abs_0f7a4 : Cond.code Lib.Math.abs.name Lib.Math.abs.code 1 (some .int) ∈ WT := WT_3 101 rfl rfl
theorem sm_J9_abs_0f7a4 : Cond.static Lib.Math.abs.name ∈ WT := WT_3 100 rfl rfl
theorem yk_J9_abs_0f7a4 : yOk Lib.Math.abs.name 1 := by decide +kernel
theorem cd_X3_reasonOf : Cond.code yX3_reasonOf cX3_reasonOf 4 (some .int) ∈ WT := WT_3 105 rfl rfl
theorem im_X3_reasonOf : Cond.instanceMethod yX3_reasonOf ∈ WT := WT_3 103 rfl rfl
theorem se_X3_reasonOf : Cond.selects RX3 yX3_reasonOf yX3_reasonOf ∈ WT := WT_3 104 rfl rfl
theorem yk_X3_reasonOf : yOk yX3_reasonOf 1 := by decide +kernel
theorem cd_X3_usesOf : Cond.code yX3_usesOf cX3_usesOf 5 (some .int) ∈ WT := WT_3 110 rfl rfl
theorem im_X3_usesOf : Cond.instanceMethod yX3_usesOf ∈ WT := WT_3 108 rfl rfl
theorem se_X3_usesOf : Cond.selects RX3 yX3_usesOf yX3_usesOf ∈ WT := WT_3 109 rfl rfl
theorem yk_X3_usesOf : yOk yX3_usesOf 2 := by decide +kernel
theorem cd_X7_areNext : Cond.code yX7_areNext cX7_areNext 6 (some .boolean) ∈ WT := WT_3 113 rfl rfl
theorem sm_X7_areNext : Cond.static yX7_areNext ∈ WT := WT_3 112 rfl rfl
theorem yk_X7_areNext : yOk yX7_areNext 4 := by decide +kernel
theorem cd_X3_isInLeastRing : Cond.code yX3_isInLeastRing cX3_isInLeastRing 3 (some .boolean) ∈ WT := WT_3 118 rfl rfl
theorem im_X3_isInLeastRing : Cond.instanceMethod yX3_isInLeastRing ∈ WT := WT_3 117 rfl rfl
theorem se_X3_isInLeastRing : Cond.selects RX3 yX3_isInLeastRing yX3_isInLeastRing ∈ WT := WT_p (y := yX3_isInLeastRing) (n := 5) (List.mem_append_right _ (List.mem_append_left _ (List.mem_of_getElem? (l := lw_privs_2) (i := 12) rfl)))
theorem yk_X3_isInLeastRing : yOk yX3_isInLeastRing 1 := by decide +kernel
theorem cd_X3_someoneLiesIn : Cond.code yX3_someoneLiesIn cX3_someoneLiesIn 5 (some .boolean) ∈ WT := WT_3 122 rfl rfl
theorem im_X3_someoneLiesIn : Cond.instanceMethod yX3_someoneLiesIn ∈ WT := WT_3 121 rfl rfl
theorem se_X3_someoneLiesIn : Cond.selects RX3 yX3_someoneLiesIn yX3_someoneLiesIn ∈ WT := WT_p (y := yX3_someoneLiesIn) (n := 5) (List.mem_append_right _ (List.mem_append_left _ (List.mem_of_getElem? (l := lw_privs_2) (i := 13) rfl)))
theorem yk_X3_someoneLiesIn : yOk yX3_someoneLiesIn 3 := by decide +kernel
theorem cd_X1_isInTriangle : Cond.code yX1_isInTriangle cX1_isInTriangle 10 (some .boolean) ∈ WT := WT_3 126 rfl rfl
theorem im_X1_isInTriangle : Cond.instanceMethod yX1_isInTriangle ∈ WT := WT_3 124 rfl rfl
theorem se_X1_isInTriangle : Cond.selects RX1 yX1_isInTriangle yX1_isInTriangle ∈ WT := WT_3 125 rfl rfl
theorem yk_X1_isInTriangle : yOk yX1_isInTriangle 5 := by decide +kernel
theorem cd_X1_isInFrame : Cond.code yX1_isInFrame cX1_isInFrame 4 (some .boolean) ∈ WT := WT_3 129 rfl rfl
theorem sm_X1_isInFrame : Cond.static yX1_isInFrame ∈ WT := WT_3 128 rfl rfl
theorem yk_X1_isInFrame : yOk yX1_isInFrame 4 := by decide +kernel
theorem cd_X3_wouldTurnOver : Cond.code yX3_wouldTurnOver cX3_wouldTurnOver 4 (some .boolean) ∈ WT := WT_3 133 rfl rfl
theorem im_X3_wouldTurnOver : Cond.instanceMethod yX3_wouldTurnOver ∈ WT := WT_3 132 rfl rfl
theorem se_X3_wouldTurnOver : Cond.selects RX3 yX3_wouldTurnOver yX3_wouldTurnOver ∈ WT := WT_p (y := yX3_wouldTurnOver) (n := 5) (List.mem_append_right _ (List.mem_append_left _ (List.mem_of_getElem? (l := lw_privs_2) (i := 14) rfl)))
theorem yk_X3_wouldTurnOver : yOk yX3_wouldTurnOver 1 := by decide +kernel
theorem cd_X3_copyWithout : Cond.code yX3_copyWithout cX3_copyWithout 6 (some .int) ∈ WT := WT_3 137 rfl rfl
theorem im_X3_copyWithout : Cond.instanceMethod yX3_copyWithout ∈ WT := WT_3 136 rfl rfl
theorem se_X3_copyWithout : Cond.selects RX3 yX3_copyWithout yX3_copyWithout ∈ WT := WT_p (y := yX3_copyWithout) (n := 5) (List.mem_append_right _ (List.mem_append_left _ (List.mem_of_getElem? (l := lw_privs_2) (i := 15) rfl)))
theorem yk_X3_copyWithout : yOk yX3_copyWithout 3 := by decide +kernel
theorem cd_J6_signum_0f7a4 : Cond.code yJ6_signum_0f7a4 cJ6_signum_0f7a4 1 (some .int) ∈ WT := WT_3 141 rfl rfl
theorem sm_J6_signum_0f7a4 : Cond.static yJ6_signum_0f7a4 ∈ WT := WT_3 140 rfl rfl
theorem yk_J6_signum_0f7a4 : yOk yJ6_signum_0f7a4 1 := by decide +kernel
theorem cd_X5_noteGone : Cond.code yX5_noteGone cX5_noteGone 4 none ∈ WT := WT_3 145 rfl rfl
theorem im_X5_noteGone : Cond.instanceMethod yX5_noteGone ∈ WT := WT_3 144 rfl rfl
theorem se_X5_noteGone : Cond.selects RX5 yX5_noteGone yX5_noteGone ∈ WT := WT_p (y := yX5_noteGone) (n := 6) (List.mem_append_right _ (List.mem_append_right _ (List.mem_append_left _ (List.mem_of_getElem? (l := lw_privs_3) (i := 0) rfl))))
theorem yk_X5_noteGone : yOk yX5_noteGone 3 := by decide +kernel
theorem cd_X3_dropPoint : Cond.code yX3_dropPoint cX3_dropPoint 3 none ∈ WT := WT_3 149 rfl rfl
theorem im_X3_dropPoint : Cond.instanceMethod yX3_dropPoint ∈ WT := WT_3 147 rfl rfl
theorem se_X3_dropPoint : Cond.selects RX3 yX3_dropPoint yX3_dropPoint ∈ WT := WT_3 148 rfl rfl
theorem yk_X3_dropPoint : yOk yX3_dropPoint 1 := by decide +kernel
theorem cd_X7_fault : Cond.code yX7_fault cX7_fault 1 (some .int) ∈ WT := WT_3 153 rfl rfl
theorem im_X7_fault : Cond.instanceMethod yX7_fault ∈ WT := WT_3 151 rfl rfl
theorem se_X7_fault : Cond.selects RX7 yX7_fault yX7_fault ∈ WT := WT_3 152 rfl rfl
theorem yk_X7_fault : yOk yX7_fault 0 := by decide +kernel
theorem cd_X7_rule : Cond.code yX7_rule cX7_rule 2 (some .int) ∈ WT := WT_3 157 rfl rfl
theorem im_X7_rule : Cond.instanceMethod yX7_rule ∈ WT := WT_3 155 rfl rfl
theorem se_X7_rule : Cond.selects RX7 yX7_rule yX7_rule ∈ WT := WT_3 156 rfl rfl
theorem yk_X7_rule : yOk yX7_rule 1 := by decide +kernel
theorem cd_X1_nodesWithEdges : Cond.code yX1_nodesWithEdges cX1_nodesWithEdges 3 (some .int) ∈ WT := WT_3 161 rfl rfl
theorem im_X1_nodesWithEdges : Cond.instanceMethod yX1_nodesWithEdges ∈ WT := WT_3 159 rfl rfl
theorem se_X1_nodesWithEdges : Cond.selects RX1 yX1_nodesWithEdges yX1_nodesWithEdges ∈ WT := WT_3 160 rfl rfl
theorem yk_X1_nodesWithEdges : yOk yX1_nodesWithEdges 0 := by decide +kernel
theorem cd_X1_pointsWithEdges : Cond.code yX1_pointsWithEdges cX1_pointsWithEdges 3 (some .int) ∈ WT := WT_3 166 rfl rfl
theorem im_X1_pointsWithEdges : Cond.instanceMethod yX1_pointsWithEdges ∈ WT := WT_3 164 rfl rfl
theorem se_X1_pointsWithEdges : Cond.selects RX1 yX1_pointsWithEdges yX1_pointsWithEdges ∈ WT := WT_3 165 rfl rfl
theorem yk_X1_pointsWithEdges : yOk yX1_pointsWithEdges 0 := by decide +kernel
theorem cd_X1_pinned : Cond.code yX1_pinned cX1_pinned 3 (some .int) ∈ WT := WT_3 170 rfl rfl
theorem im_X1_pinned : Cond.instanceMethod yX1_pinned ∈ WT := WT_3 168 rfl rfl
theorem se_X1_pinned : Cond.selects RX1 yX1_pinned yX1_pinned ∈ WT := WT_3 169 rfl rfl
theorem yk_X1_pinned : yOk yX1_pinned 0 := by decide +kernel
theorem cd_X7_point : Cond.code yX7_point cX7_point 3 (some .int) ∈ WT := WT_3 174 rfl rfl
theorem im_X7_point : Cond.instanceMethod yX7_point ∈ WT := WT_3 172 rfl rfl
theorem se_X7_point : Cond.selects RX7 yX7_point yX7_point ∈ WT := WT_3 173 rfl rfl
theorem yk_X7_point : yOk yX7_point 2 := by decide +kernel
theorem cd_X7_ring : Cond.code yX7_ring cX7_ring 5 (some .int) ∈ WT := WT_3 179 rfl rfl
theorem im_X7_ring : Cond.instanceMethod yX7_ring ∈ WT := WT_3 177 rfl rfl
theorem se_X7_ring : Cond.selects RX7 yX7_ring yX7_ring ∈ WT := WT_3 178 rfl rfl
theorem yk_X7_ring : yOk yX7_ring 3 := by decide +kernel
theorem cd_X7_isStage : Cond.code yX7_isStage cX7_isStage 2 (some .boolean) ∈ WT := WT_3 183 rfl rfl
theorem im_X7_isStage : Cond.instanceMethod yX7_isStage ∈ WT := WT_3 182 rfl rfl
theorem se_X7_isStage : Cond.selects RX7 yX7_isStage yX7_isStage ∈ WT := WT_p (y := yX7_isStage) (n := 12) (List.mem_append_right _ (List.mem_append_right _ (List.mem_append_left _ (List.mem_of_getElem? (l := lw_privs_3) (i := 1) rfl))))
theorem yk_X7_isStage : yOk yX7_isStage 1 := by decide +kernel
theorem cd_X5_sceneAt : Cond.code yX5_sceneAt cX5_sceneAt 3 (some (.object "SharedBorders$Scene")) ∈ WT := WT_3 187 rfl rfl
theorem im_X5_sceneAt : Cond.instanceMethod yX5_sceneAt ∈ WT := WT_3 185 rfl rfl
theorem se_X5_sceneAt : Cond.selects RX5 yX5_sceneAt yX5_sceneAt ∈ WT := WT_3 186 rfl rfl
theorem yk_X5_sceneAt : yOk yX5_sceneAt 1 := by decide +kernel
theorem cd_X3_areaOf : Cond.code yX3_areaOf cX3_areaOf 2 (some .int) ∈ WT := WT_3 191 rfl rfl
theorem im_X3_areaOf : Cond.instanceMethod yX3_areaOf ∈ WT := WT_3 189 rfl rfl
theorem se_X3_areaOf : Cond.selects RX3 yX3_areaOf yX3_areaOf ∈ WT := WT_3 190 rfl rfl
theorem yk_X3_areaOf : yOk yX3_areaOf 1 := by decide +kernel
theorem cd_X3_neighboursOf : Cond.code yX3_neighboursOf cX3_neighboursOf 4 (some .int) ∈ WT := WT_3 195 rfl rfl
theorem im_X3_neighboursOf : Cond.instanceMethod yX3_neighboursOf ∈ WT := WT_3 193 rfl rfl
theorem se_X3_neighboursOf : Cond.selects RX3 yX3_neighboursOf yX3_neighboursOf ∈ WT := WT_3 194 rfl rfl
theorem yk_X3_neighboursOf : yOk yX3_neighboursOf 1 := by decide +kernel
theorem cd_X3_shareEdge : Cond.code yX3_shareEdge cX3_shareEdge 5 (some .boolean) ∈ WT := WT_3 199 rfl rfl
theorem im_X3_shareEdge : Cond.instanceMethod yX3_shareEdge ∈ WT := WT_3 198 rfl rfl
theorem se_X3_shareEdge : Cond.selects RX3 yX3_shareEdge yX3_shareEdge ∈ WT := WT_p (y := yX3_shareEdge) (n := 5) (List.mem_append_right _ (List.mem_append_right _ (List.mem_append_left _ (List.mem_of_getElem? (l := lw_privs_3) (i := 2) rfl))))
theorem yk_X3_shareEdge : yOk yX3_shareEdge 2 := by decide +kernel
theorem cd_X7_corner : Cond.code yX7_corner cX7_corner 5 (some .int) ∈ WT := WT_3 203 rfl rfl
theorem im_X7_corner : Cond.instanceMethod yX7_corner ∈ WT := WT_3 201 rfl rfl
theorem se_X7_corner : Cond.selects RX7 yX7_corner yX7_corner ∈ WT := WT_3 202 rfl rfl
theorem yk_X7_corner : yOk yX7_corner 3 := by decide +kernel
theorem cd_X7_arc : Cond.code yX7_arc cX7_arc 3 (some .int) ∈ WT := WT_3 207 rfl rfl
theorem im_X7_arc : Cond.instanceMethod yX7_arc ∈ WT := WT_3 205 rfl rfl
theorem se_X7_arc : Cond.selects RX7 yX7_arc yX7_arc ∈ WT := WT_3 206 rfl rfl
theorem yk_X7_arc : yOk yX7_arc 2 := by decide +kernel
theorem cd_X0_firstOf : Cond.code yX0_firstOf cX0_firstOf 2 (some .int) ∈ WT := WT_3 211 rfl rfl
theorem im_X0_firstOf : Cond.instanceMethod yX0_firstOf ∈ WT := WT_3 209 rfl rfl
theorem se_X0_firstOf : Cond.selects RX0 yX0_firstOf yX0_firstOf ∈ WT := WT_3 210 rfl rfl
theorem yk_X0_firstOf : yOk yX0_firstOf 1 := by decide +kernel
theorem cd_X0_lastOf : Cond.code yX0_lastOf cX0_lastOf 3 (some .int) ∈ WT := WT_3 215 rfl rfl
theorem im_X0_lastOf : Cond.instanceMethod yX0_lastOf ∈ WT := WT_3 213 rfl rfl
theorem se_X0_lastOf : Cond.selects RX0 yX0_lastOf yX0_lastOf ∈ WT := WT_3 214 rfl rfl
theorem yk_X0_lastOf : yOk yX0_lastOf 1 := by decide +kernel
theorem cd_X0_ringsOf : Cond.code yX0_ringsOf cX0_ringsOf 3 (some .int) ∈ WT := WT_3 219 rfl rfl
theorem im_X0_ringsOf : Cond.instanceMethod yX0_ringsOf ∈ WT := WT_3 217 rfl rfl
theorem se_X0_ringsOf : Cond.selects RX0 yX0_ringsOf yX0_ringsOf ∈ WT := WT_3 218 rfl rfl
theorem yk_X0_ringsOf : yOk yX0_ringsOf 1 := by decide +kernel
theorem cd_X7_along : Cond.code yX7_along cX7_along 4 (some .int) ∈ WT := WT_3 223 rfl rfl
theorem im_X7_along : Cond.instanceMethod yX7_along ∈ WT := WT_3 221 rfl rfl
theorem se_X7_along : Cond.selects RX7 yX7_along yX7_along ∈ WT := WT_3 222 rfl rfl
theorem yk_X7_along : yOk yX7_along 3 := by decide +kernel
theorem cd_X0_ringOf : Cond.code yX0_ringOf cX0_ringOf 5 (some .int) ∈ WT := WT_3 227 rfl rfl
theorem im_X0_ringOf : Cond.instanceMethod yX0_ringOf ∈ WT := WT_3 225 rfl rfl
theorem se_X0_ringOf : Cond.selects RX0 yX0_ringOf yX0_ringOf ∈ WT := WT_3 226 rfl rfl
theorem yk_X0_ringOf : yOk yX0_ringOf 2 := by decide +kernel
theorem cd_X0_ringHas : Cond.code yX0_ringHas cX0_ringHas 4 (some .boolean) ∈ WT := WT_3 231 rfl rfl
theorem im_X0_ringHas : Cond.instanceMethod yX0_ringHas ∈ WT := WT_3 230 rfl rfl
theorem se_X0_ringHas : Cond.selects RX0 yX0_ringHas yX0_ringHas ∈ WT := WT_p (y := yX0_ringHas) (n := 6) (List.mem_append_right _ (List.mem_append_right _ (List.mem_append_left _ (List.mem_of_getElem? (l := lw_privs_3) (i := 3) rfl))))
theorem yk_X0_ringHas : yOk yX0_ringHas 3 := by decide +kernel
theorem cd_X7_gone : Cond.code yX7_gone cX7_gone 2 (some .int) ∈ WT := WT_3 236 rfl rfl
theorem im_X7_gone : Cond.instanceMethod yX7_gone ∈ WT := WT_3 234 rfl rfl
theorem se_X7_gone : Cond.selects RX7 yX7_gone yX7_gone ∈ WT := WT_3 235 rfl rfl
theorem yk_X7_gone : yOk yX7_gone 1 := by decide +kernel
theorem cd_X7_left : Cond.code yX7_left cX7_left 2 (some .int) ∈ WT := WT_4 0 rfl rfl
theorem im_X7_left : Cond.instanceMethod yX7_left ∈ WT := WT_3 238 rfl rfl
theorem se_X7_left : Cond.selects RX7 yX7_left yX7_left ∈ WT := WT_3 239 rfl rfl
theorem yk_X7_left : yOk yX7_left 1 := by decide +kernel
theorem cd_X7_edge : Cond.code yX7_edge cX7_edge 4 (some .int) ∈ WT := WT_4 4 rfl rfl
theorem im_X7_edge : Cond.instanceMethod yX7_edge ∈ WT := WT_4 2 rfl rfl
theorem se_X7_edge : Cond.selects RX7 yX7_edge yX7_edge ∈ WT := WT_4 3 rfl rfl
theorem yk_X7_edge : yOk yX7_edge 3 := by decide +kernel
theorem cd_X7_why : Cond.code yX7_why cX7_why 3 (some .int) ∈ WT := WT_4 9 rfl rfl
theorem im_X7_why : Cond.instanceMethod yX7_why ∈ WT := WT_4 7 rfl rfl
theorem se_X7_why : Cond.selects RX7 yX7_why yX7_why ∈ WT := WT_4 8 rfl rfl
theorem yk_X7_why : yOk yX7_why 2 := by decide +kernel
theorem cd_X7_size : Cond.code yX7_size cX7_size 4 (some .int) ∈ WT := WT_4 14 rfl rfl
theorem im_X7_size : Cond.instanceMethod yX7_size ∈ WT := WT_4 12 rfl rfl
theorem se_X7_size : Cond.selects RX7 yX7_size yX7_size ∈ WT := WT_4 13 rfl rfl
theorem yk_X7_size : yOk yX7_size 2 := by decide +kernel
theorem cd_X7_keep : Cond.code yX7_keep cX7_keep 3 (some .int) ∈ WT := WT_4 19 rfl rfl
theorem im_X7_keep : Cond.instanceMethod yX7_keep ∈ WT := WT_4 17 rfl rfl
theorem se_X7_keep : Cond.selects RX7 yX7_keep yX7_keep ∈ WT := WT_4 18 rfl rfl
theorem yk_X7_keep : yOk yX7_keep 1 := by decide +kernel
theorem cd_X7_limit : Cond.code yX7_limit cX7_limit 3 (some .int) ∈ WT := WT_4 24 rfl rfl
theorem im_X7_limit : Cond.instanceMethod yX7_limit ∈ WT := WT_4 22 rfl rfl
theorem se_X7_limit : Cond.selects RX7 yX7_limit yX7_limit ∈ WT := WT_4 23 rfl rfl
theorem yk_X7_limit : yOk yX7_limit 1 := by decide +kernel
theorem cd_X7_within : Cond.code yX7_within cX7_within 6 (some .int) ∈ WT := WT_4 28 rfl rfl
theorem im_X7_within : Cond.instanceMethod yX7_within ∈ WT := WT_4 26 rfl rfl
theorem se_X7_within : Cond.selects RX7 yX7_within yX7_within ∈ WT := WT_4 27 rfl rfl
theorem yk_X7_within : yOk yX7_within 3 := by decide +kernel
theorem cd_X7_isPlace : Cond.code yX7_isPlace cX7_isPlace 2 (some .boolean) ∈ WT := WT_4 31 rfl rfl
theorem sm_X7_isPlace : Cond.static yX7_isPlace ∈ WT := WT_4 30 rfl rfl
theorem yk_X7_isPlace : yOk yX7_isPlace 2 := by decide +kernel
theorem cd_X3_isOnBorder : Cond.code yX3_isOnBorder cX3_isOnBorder 5 (some .boolean) ∈ WT := WT_4 35 rfl rfl
theorem im_X3_isOnBorder : Cond.instanceMethod yX3_isOnBorder ∈ WT := WT_4 33 rfl rfl
theorem se_X3_isOnBorder : Cond.selects RX3 yX3_isOnBorder yX3_isOnBorder ∈ WT := WT_4 34 rfl rfl
theorem yk_X3_isOnBorder : yOk yX3_isOnBorder 3 := by decide +kernel
theorem cd_X3_holds : Cond.code yX3_holds cX3_holds 11 (some .boolean) ∈ WT := WT_4 40 rfl rfl
theorem im_X3_holds : Cond.instanceMethod yX3_holds ∈ WT := WT_4 38 rfl rfl
theorem se_X3_holds : Cond.selects RX3 yX3_holds yX3_holds ∈ WT := WT_4 39 rfl rfl
theorem yk_X3_holds : yOk yX3_holds 3 := by decide +kernel
theorem cd_X7_move : Cond.code yX7_move cX7_move 5 (some .int) ∈ WT := WT_4 44 rfl rfl
theorem im_X7_move : Cond.instanceMethod yX7_move ∈ WT := WT_4 42 rfl rfl
theorem se_X7_move : Cond.selects RX7 yX7_move yX7_move ∈ WT := WT_4 43 rfl rfl
theorem yk_X7_move : yOk yX7_move 3 := by decide +kernel
theorem cd_X7_shift : Cond.code yX7_shift cX7_shift 4 (some .int) ∈ WT := WT_4 48 rfl rfl
theorem im_X7_shift : Cond.instanceMethod yX7_shift ∈ WT := WT_4 47 rfl rfl
theorem se_X7_shift : Cond.selects RX7 yX7_shift yX7_shift ∈ WT := WT_p (y := yX7_shift) (n := 12) (List.mem_append_right _ (List.mem_append_right _ (List.mem_append_left _ (List.mem_of_getElem? (l := lw_privs_3) (i := 4) rfl))))
theorem yk_X7_shift : yOk yX7_shift 3 := by decide +kernel
theorem cd_X1_shiftIfFair : Cond.code yX1_shiftIfFair cX1_shiftIfFair 6 (some .boolean) ∈ WT := WT_4 52 rfl rfl
theorem im_X1_shiftIfFair : Cond.instanceMethod yX1_shiftIfFair ∈ WT := WT_4 50 rfl rfl
theorem se_X1_shiftIfFair : Cond.selects RX1 yX1_shiftIfFair yX1_shiftIfFair ∈ WT := WT_4 51 rfl rfl
theorem yk_X1_shiftIfFair : yOk yX1_shiftIfFair 3 := by decide +kernel
theorem cd_X7_pin : Cond.code yX7_pin cX7_pin 4 (some .int) ∈ WT := WT_4 56 rfl rfl
theorem im_X7_pin : Cond.instanceMethod yX7_pin ∈ WT := WT_4 54 rfl rfl
theorem se_X7_pin : Cond.selects RX7 yX7_pin yX7_pin ∈ WT := WT_4 55 rfl rfl
theorem yk_X7_pin : yOk yX7_pin 2 := by decide +kernel
theorem cd_X7_shake : Cond.code yX7_shake cX7_shake 10 (some .int) ∈ WT := WT_4 60 rfl rfl
theorem im_X7_shake : Cond.instanceMethod yX7_shake ∈ WT := WT_4 58 rfl rfl
theorem se_X7_shake : Cond.selects RX7 yX7_shake yX7_shake ∈ WT := WT_4 59 rfl rfl
theorem yk_X7_shake : yOk yX7_shake 2 := by decide +kernel
theorem cd_X7_store : Cond.code yX7_store cX7_store 3 (some .int) ∈ WT := WT_4 65 rfl rfl
theorem im_X7_store : Cond.instanceMethod yX7_store ∈ WT := WT_4 63 rfl rfl
theorem se_X7_store : Cond.selects RX7 yX7_store yX7_store ∈ WT := WT_4 64 rfl rfl
theorem yk_X7_store : yOk yX7_store 1 := by decide +kernel
theorem cd_X7_back : Cond.code yX7_back cX7_back 2 (some .int) ∈ WT := WT_4 69 rfl rfl
theorem im_X7_back : Cond.instanceMethod yX7_back ∈ WT := WT_4 67 rfl rfl
theorem se_X7_back : Cond.selects RX7 yX7_back yX7_back ∈ WT := WT_4 68 rfl rfl
theorem yk_X7_back : yOk yX7_back 1 := by decide +kernel
theorem cd_X7_sheet : Cond.code yX7_sheet cX7_sheet 4 (some .int) ∈ WT := WT_4 73 rfl rfl
theorem im_X7_sheet : Cond.instanceMethod yX7_sheet ∈ WT := WT_4 71 rfl rfl
theorem se_X7_sheet : Cond.selects RX7 yX7_sheet yX7_sheet ∈ WT := WT_4 72 rfl rfl
theorem yk_X7_sheet : yOk yX7_sheet 3 := by decide +kernel
theorem cd_X4_renew : Cond.code yX4_renew cX4_renew 4 none ∈ WT := WT_4 77 rfl rfl
theorem im_X4_renew : Cond.instanceMethod yX4_renew ∈ WT := WT_4 75 rfl rfl
theorem se_X4_renew : Cond.selects RX4 yX4_renew yX4_renew ∈ WT := WT_4 76 rfl rfl
theorem yk_X4_renew : yOk yX4_renew 2 := by decide +kernel
theorem cd_X7_lay : Cond.code yX7_lay cX7_lay 5 (some .int) ∈ WT := WT_4 81 rfl rfl
theorem im_X7_lay : Cond.instanceMethod yX7_lay ∈ WT := WT_4 79 rfl rfl
theorem se_X7_lay : Cond.selects RX7 yX7_lay yX7_lay ∈ WT := WT_4 80 rfl rfl
theorem yk_X7_lay : yOk yX7_lay 3 := by decide +kernel
theorem cd_X4_isNothing : Cond.code yX4_isNothing cX4_isNothing 1 (some .boolean) ∈ WT := WT_4 85 rfl rfl
theorem im_X4_isNothing : Cond.instanceMethod yX4_isNothing ∈ WT := WT_4 83 rfl rfl
theorem se_X4_isNothing : Cond.selects RX4 yX4_isNothing yX4_isNothing ∈ WT := WT_4 84 rfl rfl
theorem yk_X4_isNothing : yOk yX4_isNothing 0 := by decide +kernel
theorem cd_X4_put : Cond.code yX4_put cX4_put 3 none ∈ WT := WT_4 89 rfl rfl
theorem im_X4_put : Cond.instanceMethod yX4_put ∈ WT := WT_4 87 rfl rfl
theorem se_X4_put : Cond.selects RX4 yX4_put yX4_put ∈ WT := WT_4 88 rfl rfl
theorem yk_X4_put : yOk yX4_put 2 := by decide +kernel
theorem cd_X7_read : Cond.code yX7_read cX7_read 12 (some .int) ∈ WT := WT_4 93 rfl rfl
theorem im_X7_read : Cond.instanceMethod yX7_read ∈ WT := WT_4 91 rfl rfl
theorem se_X7_read : Cond.selects RX7 yX7_read yX7_read ∈ WT := WT_4 92 rfl rfl
theorem yk_X7_read : yOk yX7_read 4 := by decide +kernel
theorem cd_X4_faultOfThree : Cond.code yX4_faultOfThree cX4_faultOfThree 4 (some .int) ∈ WT := WT_4 98 rfl rfl
theorem im_X4_faultOfThree : Cond.instanceMethod yX4_faultOfThree ∈ WT := WT_4 96 rfl rfl
theorem se_X4_faultOfThree : Cond.selects RX4 yX4_faultOfThree yX4_faultOfThree ∈ WT := WT_4 97 rfl rfl
theorem yk_X4_faultOfThree : yOk yX4_faultOfThree 2 := by decide +kernel
theorem cd_X7_torn : Cond.code yX7_torn cX7_torn 1 (some .int) ∈ WT := WT_4 104 rfl rfl
theorem im_X7_torn : Cond.instanceMethod yX7_torn ∈ WT := WT_4 102 rfl rfl
theorem se_X7_torn : Cond.selects RX7 yX7_torn yX7_torn ∈ WT := WT_4 103 rfl rfl
theorem yk_X7_torn : yOk yX7_torn 0 := by decide +kernel
theorem cd_X7_count : Cond.code yX7_count cX7_count 2 (some .int) ∈ WT := WT_4 108 rfl rfl
theorem im_X7_count : Cond.instanceMethod yX7_count ∈ WT := WT_4 106 rfl rfl
theorem se_X7_count : Cond.selects RX7 yX7_count yX7_count ∈ WT := WT_4 107 rfl rfl
theorem yk_X7_count : yOk yX7_count 1 := by decide +kernel
theorem cd_X1_sumOf : Cond.code yX1_sumOf cX1_sumOf 4 (some .int) ∈ WT := WT_4 112 rfl rfl
theorem im_X1_sumOf : Cond.instanceMethod yX1_sumOf ∈ WT := WT_4 110 rfl rfl
theorem se_X1_sumOf : Cond.selects RX1 yX1_sumOf yX1_sumOf ∈ WT := WT_4 111 rfl rfl
theorem yk_X1_sumOf : yOk yX1_sumOf 1 := by decide +kernel
theorem cd_X8_init : Cond.code yX8_init cX8_init 1 none ∈ WT := WT_4 117 rfl rfl
theorem im_X8_init : Cond.instanceMethod yX8_init ∈ WT := WT_4 116 rfl rfl
theorem yk_X8_init : yOk yX8_init 0 := by decide +kernel
theorem cd_X8_feed : Cond.code yX8_feed cX8_feed 2 (some .int) ∈ WT := WT_4 216 rfl rfl
theorem im_X8_feed : Cond.instanceMethod yX8_feed ∈ WT := WT_4 214 rfl rfl
theorem se_X8_feed : Cond.selects RX8 yX8_feed yX8_feed ∈ WT := WT_4 215 rfl rfl
theorem yk_X8_feed : yOk yX8_feed 1 := by decide +kernel
theorem cd_X8_in : Cond.code yX8_in cX8_in 6 (some .boolean) ∈ WT := WT_4 220 rfl rfl
theorem sm_X8_in : Cond.static yX8_in ∈ WT := WT_4 219 rfl rfl
theorem yk_X8_in : yOk yX8_in 3 := by decide +kernel
theorem cd_X8_end : Cond.code yX8_end cX8_end 3 (some .int) ∈ WT := WT_4 224 rfl rfl
theorem im_X8_end : Cond.instanceMethod yX8_end ∈ WT := WT_4 222 rfl rfl
theorem se_X8_end : Cond.selects RX8 yX8_end yX8_end ∈ WT := WT_4 223 rfl rfl
theorem yk_X8_end : yOk yX8_end 1 := by decide +kernel
theorem cd_X8_text : Cond.code yX8_text cX8_text 3 (some .int) ∈ WT := WT_4 228 rfl rfl
theorem im_X8_text : Cond.instanceMethod yX8_text ∈ WT := WT_4 226 rfl rfl
theorem se_X8_text : Cond.selects RX8 yX8_text yX8_text ∈ WT := WT_4 227 rfl rfl
theorem yk_X8_text : yOk yX8_text 0 := by decide +kernel
theorem cd_X8_readsOn : Cond.code yX8_readsOn cX8_readsOn 2 none ∈ WT := WT_4 232 rfl rfl
theorem im_X8_readsOn : Cond.instanceMethod yX8_readsOn ∈ WT := WT_4 231 rfl rfl
theorem se_X8_readsOn : Cond.selects RX8 yX8_readsOn yX8_readsOn ∈ WT := WT_p (y := yX8_readsOn) (n := 31) (List.mem_append_right _ (List.mem_append_right _ (List.mem_append_left _ (List.mem_of_getElem? (l := lw_privs_3) (i := 5) rfl))))
theorem yk_X8_readsOn : yOk yX8_readsOn 0 := by decide +kernel
theorem cd_X8_byteAt : Cond.code yX8_byteAt cX8_byteAt 2 (some .int) ∈ WT := WT_4 236 rfl rfl
theorem im_X8_byteAt : Cond.instanceMethod yX8_byteAt ∈ WT := WT_4 235 rfl rfl
theorem se_X8_byteAt : Cond.selects RX8 yX8_byteAt yX8_byteAt ∈ WT := WT_p (y := yX8_byteAt) (n := 31) (List.mem_append_right _ (List.mem_append_right _ (List.mem_append_left _ (List.mem_of_getElem? (l := lw_privs_3) (i := 6) rfl))))
theorem yk_X8_byteAt : yOk yX8_byteAt 1 := by decide +kernel
theorem cd_X8_fails : Cond.code yX8_fails cX8_fails 2 none ∈ WT := WT_5 4 rfl rfl
theorem im_X8_fails : Cond.instanceMethod yX8_fails ∈ WT := WT_5 3 rfl rfl
theorem se_X8_fails : Cond.selects RX8 yX8_fails yX8_fails ∈ WT := WT_p (y := yX8_fails) (n := 31) (List.mem_append_right _ (List.mem_append_right _ (List.mem_append_left _ (List.mem_of_getElem? (l := lw_privs_3) (i := 7) rfl))))
theorem yk_X8_fails : yOk yX8_fails 1 := by decide +kernel
theorem cd_X8_readLine : Cond.code yX8_readLine cX8_readLine 3 none ∈ WT := WT_5 8 rfl rfl
theorem im_X8_readLine : Cond.instanceMethod yX8_readLine ∈ WT := WT_5 7 rfl rfl
theorem se_X8_readLine : Cond.selects RX8 yX8_readLine yX8_readLine ∈ WT := WT_p (y := yX8_readLine) (n := 31) (List.mem_append_right _ (List.mem_append_right _ (List.mem_append_left _ (List.mem_of_getElem? (l := lw_privs_3) (i := 8) rfl))))
theorem yk_X8_readLine : yOk yX8_readLine 0 := by decide +kernel
theorem cd_X8_nameHere : Cond.code yX8_nameHere cX8_nameHere 4 (some .int) ∈ WT := WT_5 12 rfl rfl
theorem im_X8_nameHere : Cond.instanceMethod yX8_nameHere ∈ WT := WT_5 11 rfl rfl
theorem se_X8_nameHere : Cond.selects RX8 yX8_nameHere yX8_nameHere ∈ WT := WT_p (y := yX8_nameHere) (n := 31) (List.mem_append_right _ (List.mem_append_right _ (List.mem_append_left _ (List.mem_of_getElem? (l := lw_privs_3) (i := 9) rfl))))
theorem yk_X8_nameHere : yOk yX8_nameHere 0 := by decide +kernel
theorem cd_X8_readPoint : Cond.code yX8_readPoint cX8_readPoint 2 none ∈ WT := WT_5 16 rfl rfl
theorem im_X8_readPoint : Cond.instanceMethod yX8_readPoint ∈ WT := WT_5 15 rfl rfl
theorem se_X8_readPoint : Cond.selects RX8 yX8_readPoint yX8_readPoint ∈ WT := WT_p (y := yX8_readPoint) (n := 31) (List.mem_append_right _ (List.mem_append_right _ (List.mem_append_left _ (List.mem_of_getElem? (l := lw_privs_3) (i := 10) rfl))))
theorem yk_X8_readPoint : yOk yX8_readPoint 0 := by decide +kernel
theorem cd_X8_numberRead : Cond.code yX8_numberRead cX8_numberRead 3 (some .int) ∈ WT := WT_5 20 rfl rfl
theorem im_X8_numberRead : Cond.instanceMethod yX8_numberRead ∈ WT := WT_5 19 rfl rfl
theorem se_X8_numberRead : Cond.selects RX8 yX8_numberRead yX8_numberRead ∈ WT := WT_p (y := yX8_numberRead) (n := 31) (List.mem_append_right _ (List.mem_append_right _ (List.mem_append_left _ (List.mem_of_getElem? (l := lw_privs_3) (i := 11) rfl))))
theorem yk_X8_numberRead : yOk yX8_numberRead 1 := by decide +kernel
theorem cd_X8_readRing : Cond.code yX8_readRing cX8_readRing 2 none ∈ WT := WT_5 24 rfl rfl
theorem im_X8_readRing : Cond.instanceMethod yX8_readRing ∈ WT := WT_5 23 rfl rfl
theorem se_X8_readRing : Cond.selects RX8 yX8_readRing yX8_readRing ∈ WT := WT_p (y := yX8_readRing) (n := 31) (List.mem_append_right _ (List.mem_append_right _ (List.mem_append_left _ (List.mem_of_getElem? (l := lw_privs_3) (i := 12) rfl))))
theorem yk_X8_readRing : yOk yX8_readRing 0 := by decide +kernel
theorem cd_X8_readCorner : Cond.code yX8_readCorner cX8_readCorner 4 none ∈ WT := WT_5 28 rfl rfl
theorem im_X8_readCorner : Cond.instanceMethod yX8_readCorner ∈ WT := WT_5 27 rfl rfl
theorem se_X8_readCorner : Cond.selects RX8 yX8_readCorner yX8_readCorner ∈ WT := WT_p (y := yX8_readCorner) (n := 31) (List.mem_append_right _ (List.mem_append_right _ (List.mem_append_left _ (List.mem_of_getElem? (l := lw_privs_3) (i := 13) rfl))))
theorem yk_X8_readCorner : yOk yX8_readCorner 1 := by decide +kernel
theorem cd_X8_isWhole : Cond.code yX8_isWhole cX8_isWhole 5 (some .boolean) ∈ WT := WT_5 32 rfl rfl
theorem im_X8_isWhole : Cond.instanceMethod yX8_isWhole ∈ WT := WT_5 31 rfl rfl
theorem se_X8_isWhole : Cond.selects RX8 yX8_isWhole yX8_isWhole ∈ WT := WT_p (y := yX8_isWhole) (n := 31) (List.mem_append_right _ (List.mem_append_right _ (List.mem_append_left _ (List.mem_of_getElem? (l := lw_privs_3) (i := 14) rfl))))
theorem yk_X8_isWhole : yOk yX8_isWhole 0 := by decide +kernel
theorem cd_X8_isFair : Cond.code yX8_isFair cX8_isFair 5 (some .boolean) ∈ WT := WT_5 36 rfl rfl
theorem im_X8_isFair : Cond.instanceMethod yX8_isFair ∈ WT := WT_5 35 rfl rfl
theorem se_X8_isFair : Cond.selects RX8 yX8_isFair yX8_isFair ∈ WT := WT_p (y := yX8_isFair) (n := 31) (List.mem_append_right _ (List.mem_append_right _ (List.mem_append_left _ (List.mem_of_getElem? (l := lw_privs_3) (i := 15) rfl))))
theorem yk_X8_isFair : yOk yX8_isFair 1 := by decide +kernel
theorem cd_X8_areaOf : Cond.code yX8_areaOf cX8_areaOf 7 (some .int) ∈ WT := WT_5 40 rfl rfl
theorem im_X8_areaOf : Cond.instanceMethod yX8_areaOf ∈ WT := WT_5 39 rfl rfl
theorem se_X8_areaOf : Cond.selects RX8 yX8_areaOf yX8_areaOf ∈ WT := WT_p (y := yX8_areaOf) (n := 31) (List.mem_append_right _ (List.mem_append_right _ (List.mem_append_right _ (List.mem_append_left _ (List.mem_of_getElem? (l := lw_privs_4) (i := 0) rfl)))))
theorem yk_X8_areaOf : yOk yX8_areaOf 2 := by decide +kernel
theorem cd_X8_cornerOf : Cond.code yX8_cornerOf cX8_cornerOf 4 (some .int) ∈ WT := WT_5 44 rfl rfl
theorem im_X8_cornerOf : Cond.instanceMethod yX8_cornerOf ∈ WT := WT_5 43 rfl rfl
theorem se_X8_cornerOf : Cond.selects RX8 yX8_cornerOf yX8_cornerOf ∈ WT := WT_p (y := yX8_cornerOf) (n := 31) (List.mem_append_right _ (List.mem_append_right _ (List.mem_append_right _ (List.mem_append_left _ (List.mem_of_getElem? (l := lw_privs_4) (i := 1) rfl)))))
theorem yk_X8_cornerOf : yOk yX8_cornerOf 3 := by decide +kernel
theorem cd_X8_isEdgeFair : Cond.code yX8_isEdgeFair cX8_isEdgeFair 6 (some .boolean) ∈ WT := WT_5 48 rfl rfl
theorem im_X8_isEdgeFair : Cond.instanceMethod yX8_isEdgeFair ∈ WT := WT_5 47 rfl rfl
theorem se_X8_isEdgeFair : Cond.selects RX8 yX8_isEdgeFair yX8_isEdgeFair ∈ WT := WT_p (y := yX8_isEdgeFair) (n := 31) (List.mem_append_right _ (List.mem_append_right _ (List.mem_append_right _ (List.mem_append_left _ (List.mem_of_getElem? (l := lw_privs_4) (i := 2) rfl)))))
theorem yk_X8_isEdgeFair : yOk yX8_isEdgeFair 3 := by decide +kernel
theorem cd_X8_edgesOf : Cond.code yX8_edgesOf cX8_edgesOf 9 (some .int) ∈ WT := WT_5 52 rfl rfl
theorem im_X8_edgesOf : Cond.instanceMethod yX8_edgesOf ∈ WT := WT_5 51 rfl rfl
theorem se_X8_edgesOf : Cond.selects RX8 yX8_edgesOf yX8_edgesOf ∈ WT := WT_p (y := yX8_edgesOf) (n := 31) (List.mem_append_right _ (List.mem_append_right _ (List.mem_append_right _ (List.mem_append_left _ (List.mem_of_getElem? (l := lw_privs_4) (i := 3) rfl)))))
theorem yk_X8_edgesOf : yOk yX8_edgesOf 3 := by decide +kernel
theorem cd_X8_isOn : Cond.code yX8_isOn cX8_isOn 5 (some .boolean) ∈ WT := WT_5 56 rfl rfl
theorem im_X8_isOn : Cond.instanceMethod yX8_isOn ∈ WT := WT_5 55 rfl rfl
theorem se_X8_isOn : Cond.selects RX8 yX8_isOn yX8_isOn ∈ WT := WT_p (y := yX8_isOn) (n := 31) (List.mem_append_right _ (List.mem_append_right _ (List.mem_append_right _ (List.mem_append_left _ (List.mem_of_getElem? (l := lw_privs_4) (i := 4) rfl)))))
theorem yk_X8_isOn : yOk yX8_isOn 4 := by decide +kernel
theorem cd_X8_turned : Cond.code yX8_turned cX8_turned 5 (some .int) ∈ WT := WT_5 60 rfl rfl
theorem im_X8_turned : Cond.instanceMethod yX8_turned ∈ WT := WT_5 59 rfl rfl
theorem se_X8_turned : Cond.selects RX8 yX8_turned yX8_turned ∈ WT := WT_p (y := yX8_turned) (n := 31) (List.mem_append_right _ (List.mem_append_right _ (List.mem_append_right _ (List.mem_append_left _ (List.mem_of_getElem? (l := lw_privs_4) (i := 5) rfl)))))
theorem yk_X8_turned : yOk yX8_turned 4 := by decide +kernel
theorem cd_X8_cross : Cond.code yX8_cross cX8_cross 6 (some .int) ∈ WT := WT_5 63 rfl rfl
theorem sm_X8_cross : Cond.static yX8_cross ∈ WT := WT_5 62 rfl rfl
theorem yk_X8_cross : yOk yX8_cross 6 := by decide +kernel
theorem cd_X8_isBetween : Cond.code yX8_isBetween cX8_isBetween 3 (some .boolean) ∈ WT := WT_5 66 rfl rfl
theorem sm_X8_isBetween : Cond.static yX8_isBetween ∈ WT := WT_5 65 rfl rfl
theorem yk_X8_isBetween : yOk yX8_isBetween 3 := by decide +kernel
theorem cd_X8_isCrossing : Cond.code yX8_isCrossing cX8_isCrossing 6 (some .boolean) ∈ WT := WT_5 70 rfl rfl
theorem im_X8_isCrossing : Cond.instanceMethod yX8_isCrossing ∈ WT := WT_5 69 rfl rfl
theorem se_X8_isCrossing : Cond.selects RX8 yX8_isCrossing yX8_isCrossing ∈ WT := WT_p (y := yX8_isCrossing) (n := 31) (List.mem_append_right _ (List.mem_append_right _ (List.mem_append_right _ (List.mem_append_left _ (List.mem_of_getElem? (l := lw_privs_4) (i := 6) rfl)))))
theorem yk_X8_isCrossing : yOk yX8_isCrossing 5 := by decide +kernel
theorem cd_X8_signOf : Cond.code yX8_signOf cX8_signOf 1 (some .int) ∈ WT := WT_5 73 rfl rfl
theorem sm_X8_signOf : Cond.static yX8_signOf ∈ WT := WT_5 72 rfl rfl
theorem yk_X8_signOf : yOk yX8_signOf 1 := by decide +kernel
theorem cd_X8_copies : Cond.code yX8_copies cX8_copies 4 none ∈ WT := WT_5 77 rfl rfl
theorem im_X8_copies : Cond.instanceMethod yX8_copies ∈ WT := WT_5 76 rfl rfl
theorem se_X8_copies : Cond.selects RX8 yX8_copies yX8_copies ∈ WT := WT_p (y := yX8_copies) (n := 31) (List.mem_append_right _ (List.mem_append_right _ (List.mem_append_right _ (List.mem_append_left _ (List.mem_of_getElem? (l := lw_privs_4) (i := 7) rfl)))))
theorem yk_X8_copies : yOk yX8_copies 2 := by decide +kernel
theorem cd_X8_fault : Cond.code yX8_fault cX8_fault 1 (some .int) ∈ WT := WT_5 81 rfl rfl
theorem im_X8_fault : Cond.instanceMethod yX8_fault ∈ WT := WT_5 79 rfl rfl
theorem se_X8_fault : Cond.selects RX8 yX8_fault yX8_fault ∈ WT := WT_5 80 rfl rfl
theorem yk_X8_fault : yOk yX8_fault 0 := by decide +kernel
theorem cd_X8_rule : Cond.code yX8_rule cX8_rule 2 (some .int) ∈ WT := WT_5 85 rfl rfl
theorem im_X8_rule : Cond.instanceMethod yX8_rule ∈ WT := WT_5 83 rfl rfl
theorem se_X8_rule : Cond.selects RX8 yX8_rule yX8_rule ∈ WT := WT_5 84 rfl rfl
theorem yk_X8_rule : yOk yX8_rule 1 := by decide +kernel
theorem cd_X8_makes : Cond.code yX8_makes cX8_makes 2 none ∈ WT := WT_5 89 rfl rfl
theorem im_X8_makes : Cond.instanceMethod yX8_makes ∈ WT := WT_5 88 rfl rfl
theorem se_X8_makes : Cond.selects RX8 yX8_makes yX8_makes ∈ WT := WT_p (y := yX8_makes) (n := 31) (List.mem_append_right _ (List.mem_append_right _ (List.mem_append_right _ (List.mem_append_left _ (List.mem_of_getElem? (l := lw_privs_4) (i := 8) rfl)))))
theorem yk_X8_makes : yOk yX8_makes 0 := by decide +kernel
theorem cd_X8_points : Cond.code yX8_points cX8_points 1 (some .int) ∈ WT := WT_5 93 rfl rfl
theorem im_X8_points : Cond.instanceMethod yX8_points ∈ WT := WT_5 92 rfl rfl
theorem se_X8_points : Cond.selects RX8 yX8_points yX8_points ∈ WT := WT_p (y := yX8_points) (n := 31) (List.mem_append_right _ (List.mem_append_right _ (List.mem_append_right _ (List.mem_append_left _ (List.mem_of_getElem? (l := lw_privs_4) (i := 9) rfl)))))
theorem yk_X8_points : yOk yX8_points 0 := by decide +kernel
theorem cd_X8_degreeOf : Cond.code yX8_degreeOf cX8_degreeOf 4 (some .int) ∈ WT := WT_5 97 rfl rfl
theorem im_X8_degreeOf : Cond.instanceMethod yX8_degreeOf ∈ WT := WT_5 96 rfl rfl
theorem se_X8_degreeOf : Cond.selects RX8 yX8_degreeOf yX8_degreeOf ∈ WT := WT_p (y := yX8_degreeOf) (n := 31) (List.mem_append_right _ (List.mem_append_right _ (List.mem_append_right _ (List.mem_append_left _ (List.mem_of_getElem? (l := lw_privs_4) (i := 10) rfl)))))
theorem yk_X8_degreeOf : yOk yX8_degreeOf 1 := by decide +kernel
theorem cd_X8_least : Cond.code yX8_least cX8_least 7 (some .int) ∈ WT := WT_5 101 rfl rfl
theorem im_X8_least : Cond.instanceMethod yX8_least ∈ WT := WT_5 100 rfl rfl
theorem se_X8_least : Cond.selects RX8 yX8_least yX8_least ∈ WT := WT_p (y := yX8_least) (n := 31) (List.mem_append_right _ (List.mem_append_right _ (List.mem_append_right _ (List.mem_append_left _ (List.mem_of_getElem? (l := lw_privs_4) (i := 11) rfl)))))
theorem yk_X8_least : yOk yX8_least 1 := by decide +kernel
theorem cd_X8_whyNot : Cond.code yX8_whyNot cX8_whyNot 5 (some .int) ∈ WT := WT_5 105 rfl rfl
theorem im_X8_whyNot : Cond.instanceMethod yX8_whyNot ∈ WT := WT_5 104 rfl rfl
theorem se_X8_whyNot : Cond.selects RX8 yX8_whyNot yX8_whyNot ∈ WT := WT_p (y := yX8_whyNot) (n := 31) (List.mem_append_right _ (List.mem_append_right _ (List.mem_append_right _ (List.mem_append_left _ (List.mem_of_getElem? (l := lw_privs_4) (i := 12) rfl)))))
theorem yk_X8_whyNot : yOk yX8_whyNot 2 := by decide +kernel
theorem cd_X8_isNode : Cond.code yX8_isNode cX8_isNode 2 (some .boolean) ∈ WT := WT_5 109 rfl rfl
theorem im_X8_isNode : Cond.instanceMethod yX8_isNode ∈ WT := WT_5 108 rfl rfl
theorem se_X8_isNode : Cond.selects RX8 yX8_isNode yX8_isNode ∈ WT := WT_p (y := yX8_isNode) (n := 31) (List.mem_append_right _ (List.mem_append_right _ (List.mem_append_right _ (List.mem_append_left _ (List.mem_of_getElem? (l := lw_privs_4) (i := 13) rfl)))))
theorem yk_X8_isNode : yOk yX8_isNode 1 := by decide +kernel
theorem cd_X8_isThere : Cond.code yX8_isThere cX8_isThere 3 (some .boolean) ∈ WT := WT_5 113 rfl rfl
theorem im_X8_isThere : Cond.instanceMethod yX8_isThere ∈ WT := WT_5 112 rfl rfl
theorem se_X8_isThere : Cond.selects RX8 yX8_isThere yX8_isThere ∈ WT := WT_p (y := yX8_isThere) (n := 31) (List.mem_append_right _ (List.mem_append_right _ (List.mem_append_right _ (List.mem_append_left _ (List.mem_of_getElem? (l := lw_privs_4) (i := 14) rfl)))))
theorem yk_X8_isThere : yOk yX8_isThere 2 := by decide +kernel
theorem cd_X8_neighbour : Cond.code yX8_neighbour cX8_neighbour 7 (some .int) ∈ WT := WT_5 117 rfl rfl
theorem im_X8_neighbour : Cond.instanceMethod yX8_neighbour ∈ WT := WT_5 116 rfl rfl
theorem se_X8_neighbour : Cond.selects RX8 yX8_neighbour yX8_neighbour ∈ WT := WT_p (y := yX8_neighbour) (n := 31) (List.mem_append_right _ (List.mem_append_right _ (List.mem_append_right _ (List.mem_append_left _ (List.mem_of_getElem? (l := lw_privs_4) (i := 15) rfl)))))
theorem yk_X8_neighbour : yOk yX8_neighbour 3 := by decide +kernel
theorem cd_X8_rings : Cond.code yX8_rings cX8_rings 1 (some .int) ∈ WT := WT_5 121 rfl rfl
theorem im_X8_rings : Cond.instanceMethod yX8_rings ∈ WT := WT_5 120 rfl rfl
theorem se_X8_rings : Cond.selects RX8 yX8_rings yX8_rings ∈ WT := WT_p (y := yX8_rings) (n := 31) (List.mem_append_right _ (List.mem_append_right _ (List.mem_append_right _ (List.mem_append_right _ (List.mem_append_left _ (List.mem_of_getElem? (l := lw_privs_5) (i := 0) rfl))))))
theorem yk_X8_rings : yOk yX8_rings 0 := by decide +kernel
theorem cd_X8_ringAt : Cond.code yX8_ringAt cX8_ringAt 6 (some .int) ∈ WT := WT_5 125 rfl rfl
theorem im_X8_ringAt : Cond.instanceMethod yX8_ringAt ∈ WT := WT_5 124 rfl rfl
theorem se_X8_ringAt : Cond.selects RX8 yX8_ringAt yX8_ringAt ∈ WT := WT_p (y := yX8_ringAt) (n := 31) (List.mem_append_right _ (List.mem_append_right _ (List.mem_append_right _ (List.mem_append_right _ (List.mem_append_left _ (List.mem_of_getElem? (l := lw_privs_5) (i := 1) rfl))))))
theorem yk_X8_ringAt : yOk yX8_ringAt 2 := by decide +kernel
theorem cd_X8_placeIn : Cond.code yX8_placeIn cX8_placeIn 5 (some .int) ∈ WT := WT_5 129 rfl rfl
theorem im_X8_placeIn : Cond.instanceMethod yX8_placeIn ∈ WT := WT_5 128 rfl rfl
theorem se_X8_placeIn : Cond.selects RX8 yX8_placeIn yX8_placeIn ∈ WT := WT_p (y := yX8_placeIn) (n := 31) (List.mem_append_right _ (List.mem_append_right _ (List.mem_append_right _ (List.mem_append_right _ (List.mem_append_left _ (List.mem_of_getElem? (l := lw_privs_5) (i := 2) rfl))))))
theorem yk_X8_placeIn : yOk yX8_placeIn 2 := by decide +kernel
theorem cd_X8_edgesAt : Cond.code yX8_edgesAt cX8_edgesAt 10 (some .int) ∈ WT := WT_5 133 rfl rfl
theorem im_X8_edgesAt : Cond.instanceMethod yX8_edgesAt ∈ WT := WT_5 132 rfl rfl
theorem se_X8_edgesAt : Cond.selects RX8 yX8_edgesAt yX8_edgesAt ∈ WT := WT_p (y := yX8_edgesAt) (n := 31) (List.mem_append_right _ (List.mem_append_right _ (List.mem_append_right _ (List.mem_append_right _ (List.mem_append_left _ (List.mem_of_getElem? (l := lw_privs_5) (i := 3) rfl))))))
theorem yk_X8_edgesAt : yOk yX8_edgesAt 3 := by decide +kernel
theorem cd_X8_ringsWhy : Cond.code yX8_ringsWhy cX8_ringsWhy 9 (some .int) ∈ WT := WT_5 137 rfl rfl
theorem im_X8_ringsWhy : Cond.instanceMethod yX8_ringsWhy ∈ WT := WT_5 136 rfl rfl
theorem se_X8_ringsWhy : Cond.selects RX8 yX8_ringsWhy yX8_ringsWhy ∈ WT := WT_p (y := yX8_ringsWhy) (n := 31) (List.mem_append_right _ (List.mem_append_right _ (List.mem_append_right _ (List.mem_append_right _ (List.mem_append_left _ (List.mem_of_getElem? (l := lw_privs_5) (i := 4) rfl))))))
theorem yk_X8_ringsWhy : yOk yX8_ringsWhy 3 := by decide +kernel
theorem cd_X8_ringArea : Cond.code yX8_ringArea cX8_ringArea 6 (some .int) ∈ WT := WT_5 141 rfl rfl
theorem im_X8_ringArea : Cond.instanceMethod yX8_ringArea ∈ WT := WT_5 140 rfl rfl
theorem se_X8_ringArea : Cond.selects RX8 yX8_ringArea yX8_ringArea ∈ WT := WT_p (y := yX8_ringArea) (n := 31) (List.mem_append_right _ (List.mem_append_right _ (List.mem_append_right _ (List.mem_append_right _ (List.mem_append_left _ (List.mem_of_getElem? (l := lw_privs_5) (i := 5) rfl))))))
theorem yk_X8_ringArea : yOk yX8_ringArea 1 := by decide +kernel
theorem cd_X8_isEmpty : Cond.code yX8_isEmpty cX8_isEmpty 6 (some .boolean) ∈ WT := WT_5 145 rfl rfl
theorem im_X8_isEmpty : Cond.instanceMethod yX8_isEmpty ∈ WT := WT_5 144 rfl rfl
theorem se_X8_isEmpty : Cond.selects RX8 yX8_isEmpty yX8_isEmpty ∈ WT := WT_p (y := yX8_isEmpty) (n := 31) (List.mem_append_right _ (List.mem_append_right _ (List.mem_append_right _ (List.mem_append_right _ (List.mem_append_left _ (List.mem_of_getElem? (l := lw_privs_5) (i := 6) rfl))))))
theorem yk_X8_isEmpty : yOk yX8_isEmpty 4 := by decide +kernel
theorem cd_X8_isInTriangle : Cond.code yX8_isInTriangle cX8_isInTriangle 9 (some .boolean) ∈ WT := WT_5 149 rfl rfl
theorem im_X8_isInTriangle : Cond.instanceMethod yX8_isInTriangle ∈ WT := WT_5 148 rfl rfl
theorem se_X8_isInTriangle : Cond.selects RX8 yX8_isInTriangle yX8_isInTriangle ∈ WT := WT_p (y := yX8_isInTriangle) (n := 31) (List.mem_append_right _ (List.mem_append_right _ (List.mem_append_right _ (List.mem_append_right _ (List.mem_append_left _ (List.mem_of_getElem? (l := lw_privs_5) (i := 7) rfl))))))
theorem yk_X8_isInTriangle : yOk yX8_isInTriangle 4 := by decide +kernel
theorem cd_X8_sizeOf : Cond.code yX8_sizeOf cX8_sizeOf 4 (some .int) ∈ WT := WT_5 153 rfl rfl
theorem im_X8_sizeOf : Cond.instanceMethod yX8_sizeOf ∈ WT := WT_5 152 rfl rfl
theorem se_X8_sizeOf : Cond.selects RX8 yX8_sizeOf yX8_sizeOf ∈ WT := WT_p (y := yX8_sizeOf) (n := 31) (List.mem_append_right _ (List.mem_append_right _ (List.mem_append_right _ (List.mem_append_right _ (List.mem_append_left _ (List.mem_of_getElem? (l := lw_privs_5) (i := 8) rfl))))))
theorem yk_X8_sizeOf : yOk yX8_sizeOf 2 := by decide +kernel
theorem cd_X8_arcs : Cond.code yX8_arcs cX8_arcs 3 none ∈ WT := WT_5 157 rfl rfl
theorem im_X8_arcs : Cond.instanceMethod yX8_arcs ∈ WT := WT_5 156 rfl rfl
theorem se_X8_arcs : Cond.selects RX8 yX8_arcs yX8_arcs ∈ WT := WT_p (y := yX8_arcs) (n := 31) (List.mem_append_right _ (List.mem_append_right _ (List.mem_append_right _ (List.mem_append_right _ (List.mem_append_left _ (List.mem_of_getElem? (l := lw_privs_5) (i := 9) rfl))))))
theorem yk_X8_arcs : yOk yX8_arcs 0 := by decide +kernel
theorem cd_X8_isInArc : Cond.code yX8_isInArc cX8_isInArc 8 (some .boolean) ∈ WT := WT_5 161 rfl rfl
theorem im_X8_isInArc : Cond.instanceMethod yX8_isInArc ∈ WT := WT_5 160 rfl rfl
theorem se_X8_isInArc : Cond.selects RX8 yX8_isInArc yX8_isInArc ∈ WT := WT_p (y := yX8_isInArc) (n := 31) (List.mem_append_right _ (List.mem_append_right _ (List.mem_append_right _ (List.mem_append_right _ (List.mem_append_left _ (List.mem_of_getElem? (l := lw_privs_5) (i := 10) rfl))))))
theorem yk_X8_isInArc : yOk yX8_isInArc 2 := by decide +kernel
theorem cd_X8_arcPoint : Cond.code yX8_arcPoint cX8_arcPoint 3 (some .int) ∈ WT := WT_5 165 rfl rfl
theorem im_X8_arcPoint : Cond.instanceMethod yX8_arcPoint ∈ WT := WT_5 164 rfl rfl
theorem se_X8_arcPoint : Cond.selects RX8 yX8_arcPoint yX8_arcPoint ∈ WT := WT_p (y := yX8_arcPoint) (n := 31) (List.mem_append_right _ (List.mem_append_right _ (List.mem_append_right _ (List.mem_append_right _ (List.mem_append_left _ (List.mem_of_getElem? (l := lw_privs_5) (i := 11) rfl))))))
theorem yk_X8_arcPoint : yOk yX8_arcPoint 2 := by decide +kernel
theorem cd_X8_arcOf : Cond.code yX8_arcOf cX8_arcOf 7 none ∈ WT := WT_5 169 rfl rfl
theorem im_X8_arcOf : Cond.instanceMethod yX8_arcOf ∈ WT := WT_5 168 rfl rfl
theorem se_X8_arcOf : Cond.selects RX8 yX8_arcOf yX8_arcOf ∈ WT := WT_p (y := yX8_arcOf) (n := 31) (List.mem_append_right _ (List.mem_append_right _ (List.mem_append_right _ (List.mem_append_right _ (List.mem_append_left _ (List.mem_of_getElem? (l := lw_privs_5) (i := 12) rfl))))))
theorem yk_X8_arcOf : yOk yX8_arcOf 2 := by decide +kernel
theorem cd_X8_edges : Cond.code yX8_edges cX8_edges 3 (some .int) ∈ WT := WT_5 173 rfl rfl
theorem im_X8_edges : Cond.instanceMethod yX8_edges ∈ WT := WT_5 172 rfl rfl
theorem se_X8_edges : Cond.selects RX8 yX8_edges yX8_edges ∈ WT := WT_p (y := yX8_edges) (n := 31) (List.mem_append_right _ (List.mem_append_right _ (List.mem_append_right _ (List.mem_append_right _ (List.mem_append_left _ (List.mem_of_getElem? (l := lw_privs_5) (i := 13) rfl))))))
theorem yk_X8_edges : yOk yX8_edges 0 := by decide +kernel
theorem cd_X8_ofPoints : Cond.code yX8_ofPoints cX8_ofPoints 5 (some .int) ∈ WT := WT_5 177 rfl rfl
theorem im_X8_ofPoints : Cond.instanceMethod yX8_ofPoints ∈ WT := WT_5 176 rfl rfl
theorem se_X8_ofPoints : Cond.selects RX8 yX8_ofPoints yX8_ofPoints ∈ WT := WT_p (y := yX8_ofPoints) (n := 31) (List.mem_append_right _ (List.mem_append_right _ (List.mem_append_right _ (List.mem_append_right _ (List.mem_append_left _ (List.mem_of_getElem? (l := lw_privs_5) (i := 14) rfl))))))
theorem yk_X8_ofPoints : yOk yX8_ofPoints 1 := by decide +kernel
theorem cd_X8_point : Cond.code yX8_point cX8_point 3 (some .int) ∈ WT := WT_5 181 rfl rfl
theorem im_X8_point : Cond.instanceMethod yX8_point ∈ WT := WT_5 179 rfl rfl
theorem se_X8_point : Cond.selects RX8 yX8_point yX8_point ∈ WT := WT_5 180 rfl rfl
theorem yk_X8_point : yOk yX8_point 2 := by decide +kernel
theorem cd_X8_isPoint : Cond.code yX8_isPoint cX8_isPoint 2 (some .boolean) ∈ WT := WT_5 185 rfl rfl
theorem im_X8_isPoint : Cond.instanceMethod yX8_isPoint ∈ WT := WT_5 184 rfl rfl
theorem se_X8_isPoint : Cond.selects RX8 yX8_isPoint yX8_isPoint ∈ WT := WT_p (y := yX8_isPoint) (n := 31) (List.mem_append_right _ (List.mem_append_right _ (List.mem_append_right _ (List.mem_append_right _ (List.mem_append_left _ (List.mem_of_getElem? (l := lw_privs_5) (i := 15) rfl))))))
theorem yk_X8_isPoint : yOk yX8_isPoint 1 := by decide +kernel
theorem cd_X8_arcOfPoint : Cond.code yX8_arcOfPoint cX8_arcOfPoint 4 (some .int) ∈ WT := WT_5 189 rfl rfl
theorem im_X8_arcOfPoint : Cond.instanceMethod yX8_arcOfPoint ∈ WT := WT_5 188 rfl rfl
theorem se_X8_arcOfPoint : Cond.selects RX8 yX8_arcOfPoint yX8_arcOfPoint ∈ WT := WT_p (y := yX8_arcOfPoint) (n := 31) (List.mem_append_right _ (List.mem_append_right _ (List.mem_append_right _ (List.mem_append_right _ (List.mem_append_right _ (List.mem_of_getElem? (l := lw_privs_6) (i := 0) rfl))))))
theorem yk_X8_arcOfPoint : yOk yX8_arcOfPoint 1 := by decide +kernel
theorem cd_X8_ring : Cond.code yX8_ring cX8_ring 5 (some .int) ∈ WT := WT_5 193 rfl rfl
theorem im_X8_ring : Cond.instanceMethod yX8_ring ∈ WT := WT_5 191 rfl rfl
theorem se_X8_ring : Cond.selects RX8 yX8_ring yX8_ring ∈ WT := WT_5 192 rfl rfl
theorem yk_X8_ring : yOk yX8_ring 3 := by decide +kernel
theorem cd_X8_isRing : Cond.code yX8_isRing cX8_isRing 2 (some .boolean) ∈ WT := WT_5 197 rfl rfl
theorem im_X8_isRing : Cond.instanceMethod yX8_isRing ∈ WT := WT_5 196 rfl rfl
theorem se_X8_isRing : Cond.selects RX8 yX8_isRing yX8_isRing ∈ WT := WT_p (y := yX8_isRing) (n := 31) (List.mem_append_right _ (List.mem_append_right _ (List.mem_append_right _ (List.mem_append_right _ (List.mem_append_right _ (List.mem_of_getElem? (l := lw_privs_6) (i := 1) rfl))))))
theorem yk_X8_isRing : yOk yX8_isRing 1 := by decide +kernel
theorem cd_X8_isStage : Cond.code yX8_isStage cX8_isStage 2 (some .boolean) ∈ WT := WT_5 201 rfl rfl
theorem im_X8_isStage : Cond.instanceMethod yX8_isStage ∈ WT := WT_5 200 rfl rfl
theorem se_X8_isStage : Cond.selects RX8 yX8_isStage yX8_isStage ∈ WT := WT_p (y := yX8_isStage) (n := 31) (List.mem_append_right _ (List.mem_append_right _ (List.mem_append_right _ (List.mem_append_right _ (List.mem_append_right _ (List.mem_of_getElem? (l := lw_privs_6) (i := 2) rfl))))))
theorem yk_X8_isStage : yOk yX8_isStage 1 := by decide +kernel
theorem cd_X8_sharing : Cond.code yX8_sharing cX8_sharing 5 (some .int) ∈ WT := WT_5 206 rfl rfl
theorem im_X8_sharing : Cond.instanceMethod yX8_sharing ∈ WT := WT_5 205 rfl rfl
theorem se_X8_sharing : Cond.selects RX8 yX8_sharing yX8_sharing ∈ WT := WT_p (y := yX8_sharing) (n := 31) (List.mem_append_right _ (List.mem_append_right _ (List.mem_append_right _ (List.mem_append_right _ (List.mem_append_right _ (List.mem_of_getElem? (l := lw_privs_6) (i := 3) rfl))))))
theorem yk_X8_sharing : yOk yX8_sharing 2 := by decide +kernel
theorem cd_X8_isSharing : Cond.code yX8_isSharing cX8_isSharing 14 (some .boolean) ∈ WT := WT_5 210 rfl rfl
theorem im_X8_isSharing : Cond.instanceMethod yX8_isSharing ∈ WT := WT_5 209 rfl rfl
theorem se_X8_isSharing : Cond.selects RX8 yX8_isSharing yX8_isSharing ∈ WT := WT_p (y := yX8_isSharing) (n := 31) (List.mem_append_right _ (List.mem_append_right _ (List.mem_append_right _ (List.mem_append_right _ (List.mem_append_right _ (List.mem_of_getElem? (l := lw_privs_6) (i := 4) rfl))))))
theorem yk_X8_isSharing : yOk yX8_isSharing 3 := by decide +kernel
theorem cd_X8_corner : Cond.code yX8_corner cX8_corner 5 (some .int) ∈ WT := WT_5 214 rfl rfl
theorem im_X8_corner : Cond.instanceMethod yX8_corner ∈ WT := WT_5 212 rfl rfl
theorem se_X8_corner : Cond.selects RX8 yX8_corner yX8_corner ∈ WT := WT_5 213 rfl rfl
theorem yk_X8_corner : yOk yX8_corner 3 := by decide +kernel
theorem cd_X8_arc : Cond.code yX8_arc cX8_arc 3 (some .int) ∈ WT := WT_5 218 rfl rfl
theorem im_X8_arc : Cond.instanceMethod yX8_arc ∈ WT := WT_5 216 rfl rfl
theorem se_X8_arc : Cond.selects RX8 yX8_arc yX8_arc ∈ WT := WT_5 217 rfl rfl
theorem yk_X8_arc : yOk yX8_arc 2 := by decide +kernel
theorem cd_X8_isArc : Cond.code yX8_isArc cX8_isArc 2 (some .boolean) ∈ WT := WT_5 222 rfl rfl
theorem im_X8_isArc : Cond.instanceMethod yX8_isArc ∈ WT := WT_5 221 rfl rfl
theorem se_X8_isArc : Cond.selects RX8 yX8_isArc yX8_isArc ∈ WT := WT_p (y := yX8_isArc) (n := 31) (List.mem_append_right _ (List.mem_append_right _ (List.mem_append_right _ (List.mem_append_right _ (List.mem_append_right _ (List.mem_of_getElem? (l := lw_privs_6) (i := 5) rfl))))))
theorem yk_X8_isArc : yOk yX8_isArc 1 := by decide +kernel
theorem cd_X8_ringsOfArc : Cond.code yX8_ringsOfArc cX8_ringsOfArc 9 (some .int) ∈ WT := WT_5 226 rfl rfl
theorem im_X8_ringsOfArc : Cond.instanceMethod yX8_ringsOfArc ∈ WT := WT_5 225 rfl rfl
theorem se_X8_ringsOfArc : Cond.selects RX8 yX8_ringsOfArc yX8_ringsOfArc ∈ WT := WT_p (y := yX8_ringsOfArc) (n := 31) (List.mem_append_right _ (List.mem_append_right _ (List.mem_append_right _ (List.mem_append_right _ (List.mem_append_right _ (List.mem_of_getElem? (l := lw_privs_6) (i := 6) rfl))))))
theorem yk_X8_ringsOfArc : yOk yX8_ringsOfArc 2 := by decide +kernel
theorem cd_X8_along : Cond.code yX8_along cX8_along 4 (some .int) ∈ WT := WT_5 230 rfl rfl
theorem im_X8_along : Cond.instanceMethod yX8_along ∈ WT := WT_5 228 rfl rfl
theorem se_X8_along : Cond.selects RX8 yX8_along yX8_along ∈ WT := WT_5 229 rfl rfl
theorem yk_X8_along : yOk yX8_along 3 := by decide +kernel
theorem cd_X8_gone : Cond.code yX8_gone cX8_gone 2 (some .int) ∈ WT := WT_5 234 rfl rfl
theorem im_X8_gone : Cond.instanceMethod yX8_gone ∈ WT := WT_5 232 rfl rfl
theorem se_X8_gone : Cond.selects RX8 yX8_gone yX8_gone ∈ WT := WT_5 233 rfl rfl
theorem yk_X8_gone : yOk yX8_gone 1 := by decide +kernel
theorem cd_X8_left : Cond.code yX8_left cX8_left 2 (some .int) ∈ WT := WT_5 238 rfl rfl
theorem im_X8_left : Cond.instanceMethod yX8_left ∈ WT := WT_5 236 rfl rfl
theorem se_X8_left : Cond.selects RX8 yX8_left yX8_left ∈ WT := WT_5 237 rfl rfl
theorem yk_X8_left : yOk yX8_left 1 := by decide +kernel
theorem cd_X8_leftAt : Cond.code yX8_leftAt cX8_leftAt 4 (some .int) ∈ WT := WT_6 2 rfl rfl
theorem im_X8_leftAt : Cond.instanceMethod yX8_leftAt ∈ WT := WT_6 1 rfl rfl
theorem se_X8_leftAt : Cond.selects RX8 yX8_leftAt yX8_leftAt ∈ WT := WT_p (y := yX8_leftAt) (n := 31) (List.mem_append_right _ (List.mem_append_right _ (List.mem_append_right _ (List.mem_append_right _ (List.mem_append_right _ (List.mem_of_getElem? (l := lw_privs_6) (i := 7) rfl))))))
theorem yk_X8_leftAt : yOk yX8_leftAt 1 := by decide +kernel
theorem cd_X8_edge : Cond.code yX8_edge cX8_edge 4 (some .int) ∈ WT := WT_6 6 rfl rfl
theorem im_X8_edge : Cond.instanceMethod yX8_edge ∈ WT := WT_6 4 rfl rfl
theorem se_X8_edge : Cond.selects RX8 yX8_edge yX8_edge ∈ WT := WT_6 5 rfl rfl
theorem yk_X8_edge : yOk yX8_edge 3 := by decide +kernel
theorem cd_X8_why : Cond.code yX8_why cX8_why 3 (some .int) ∈ WT := WT_6 10 rfl rfl
theorem im_X8_why : Cond.instanceMethod yX8_why ∈ WT := WT_6 8 rfl rfl
theorem se_X8_why : Cond.selects RX8 yX8_why yX8_why ∈ WT := WT_6 9 rfl rfl
theorem yk_X8_why : yOk yX8_why 2 := by decide +kernel
theorem cd_X8_size : Cond.code yX8_size cX8_size 3 (some .int) ∈ WT := WT_6 14 rfl rfl
theorem im_X8_size : Cond.instanceMethod yX8_size ∈ WT := WT_6 12 rfl rfl
theorem se_X8_size : Cond.selects RX8 yX8_size yX8_size ∈ WT := WT_6 13 rfl rfl
theorem yk_X8_size : yOk yX8_size 2 := by decide +kernel
theorem cd_X8_keep : Cond.code yX8_keep cX8_keep 3 (some .int) ∈ WT := WT_6 18 rfl rfl
theorem im_X8_keep : Cond.instanceMethod yX8_keep ∈ WT := WT_6 16 rfl rfl
theorem se_X8_keep : Cond.selects RX8 yX8_keep yX8_keep ∈ WT := WT_6 17 rfl rfl
theorem yk_X8_keep : yOk yX8_keep 1 := by decide +kernel
theorem cd_X8_limit : Cond.code yX8_limit cX8_limit 3 (some .int) ∈ WT := WT_6 22 rfl rfl
theorem im_X8_limit : Cond.instanceMethod yX8_limit ∈ WT := WT_6 20 rfl rfl
theorem se_X8_limit : Cond.selects RX8 yX8_limit yX8_limit ∈ WT := WT_6 21 rfl rfl
theorem yk_X8_limit : yOk yX8_limit 1 := by decide +kernel
theorem cd_X8_within : Cond.code yX8_within cX8_within 8 (some .int) ∈ WT := WT_6 26 rfl rfl
theorem im_X8_within : Cond.instanceMethod yX8_within ∈ WT := WT_6 24 rfl rfl
theorem se_X8_within : Cond.selects RX8 yX8_within yX8_within ∈ WT := WT_6 25 rfl rfl
theorem yk_X8_within : yOk yX8_within 3 := by decide +kernel
theorem cd_X8_lies : Cond.code yX8_lies cX8_lies 11 (some .int) ∈ WT := WT_6 31 rfl rfl
theorem im_X8_lies : Cond.instanceMethod yX8_lies ∈ WT := WT_6 30 rfl rfl
theorem se_X8_lies : Cond.selects RX8 yX8_lies yX8_lies ∈ WT := WT_p (y := yX8_lies) (n := 31) (List.mem_append_right _ (List.mem_append_right _ (List.mem_append_right _ (List.mem_append_right _ (List.mem_append_right _ (List.mem_of_getElem? (l := lw_privs_6) (i := 8) rfl))))))
theorem yk_X8_lies : yOk yX8_lies 3 := by decide +kernel
theorem cd_X8_isOnPlace : Cond.code yX8_isOnPlace cX8_isOnPlace 5 (some .boolean) ∈ WT := WT_6 35 rfl rfl
theorem im_X8_isOnPlace : Cond.instanceMethod yX8_isOnPlace ∈ WT := WT_6 34 rfl rfl
theorem se_X8_isOnPlace : Cond.selects RX8 yX8_isOnPlace yX8_isOnPlace ∈ WT := WT_p (y := yX8_isOnPlace) (n := 31) (List.mem_append_right _ (List.mem_append_right _ (List.mem_append_right _ (List.mem_append_right _ (List.mem_append_right _ (List.mem_of_getElem? (l := lw_privs_6) (i := 9) rfl))))))
theorem yk_X8_isOnPlace : yOk yX8_isOnPlace 4 := by decide +kernel
theorem cd_X8_move : Cond.code yX8_move cX8_move 4 (some .int) ∈ WT := WT_6 39 rfl rfl
theorem im_X8_move : Cond.instanceMethod yX8_move ∈ WT := WT_6 37 rfl rfl
theorem se_X8_move : Cond.selects RX8 yX8_move yX8_move ∈ WT := WT_6 38 rfl rfl
theorem yk_X8_move : yOk yX8_move 3 := by decide +kernel
theorem cd_X8_moves : Cond.code yX8_moves cX8_moves 6 (some .int) ∈ WT := WT_6 43 rfl rfl
theorem im_X8_moves : Cond.instanceMethod yX8_moves ∈ WT := WT_6 42 rfl rfl
theorem se_X8_moves : Cond.selects RX8 yX8_moves yX8_moves ∈ WT := WT_p (y := yX8_moves) (n := 31) (List.mem_append_right _ (List.mem_append_right _ (List.mem_append_right _ (List.mem_append_right _ (List.mem_append_right _ (List.mem_of_getElem? (l := lw_privs_6) (i := 10) rfl))))))
theorem yk_X8_moves : yOk yX8_moves 3 := by decide +kernel
theorem cd_X8_pin : Cond.code yX8_pin cX8_pin 4 (some .int) ∈ WT := WT_6 47 rfl rfl
theorem im_X8_pin : Cond.instanceMethod yX8_pin ∈ WT := WT_6 45 rfl rfl
theorem se_X8_pin : Cond.selects RX8 yX8_pin yX8_pin ∈ WT := WT_6 46 rfl rfl
theorem yk_X8_pin : yOk yX8_pin 2 := by decide +kernel
theorem cd_X8_shake : Cond.code yX8_shake cX8_shake 8 (some .int) ∈ WT := WT_6 51 rfl rfl
theorem im_X8_shake : Cond.instanceMethod yX8_shake ∈ WT := WT_6 49 rfl rfl
theorem se_X8_shake : Cond.selects RX8 yX8_shake yX8_shake ∈ WT := WT_6 50 rfl rfl
theorem yk_X8_shake : yOk yX8_shake 2 := by decide +kernel
theorem cd_X8_store : Cond.code yX8_store cX8_store 3 (some .int) ∈ WT := WT_6 57 rfl rfl
theorem im_X8_store : Cond.instanceMethod yX8_store ∈ WT := WT_6 55 rfl rfl
theorem se_X8_store : Cond.selects RX8 yX8_store yX8_store ∈ WT := WT_6 56 rfl rfl
theorem yk_X8_store : yOk yX8_store 1 := by decide +kernel
theorem cd_X8_back : Cond.code yX8_back cX8_back 2 (some .int) ∈ WT := WT_6 61 rfl rfl
theorem im_X8_back : Cond.instanceMethod yX8_back ∈ WT := WT_6 59 rfl rfl
theorem se_X8_back : Cond.selects RX8 yX8_back yX8_back ∈ WT := WT_6 60 rfl rfl
theorem yk_X8_back : yOk yX8_back 1 := by decide +kernel
theorem cd_X8_sheet : Cond.code yX8_sheet cX8_sheet 5 (some .int) ∈ WT := WT_6 65 rfl rfl
theorem im_X8_sheet : Cond.instanceMethod yX8_sheet ∈ WT := WT_6 63 rfl rfl
theorem se_X8_sheet : Cond.selects RX8 yX8_sheet yX8_sheet ∈ WT := WT_6 64 rfl rfl
theorem yk_X8_sheet : yOk yX8_sheet 3 := by decide +kernel
theorem cd_X8_lay : Cond.code yX8_lay cX8_lay 4 (some .int) ∈ WT := WT_6 70 rfl rfl
theorem im_X8_lay : Cond.instanceMethod yX8_lay ∈ WT := WT_6 68 rfl rfl
theorem se_X8_lay : Cond.selects RX8 yX8_lay yX8_lay ∈ WT := WT_6 69 rfl rfl
theorem yk_X8_lay : yOk yX8_lay 3 := by decide +kernel
theorem cd_X8_read : Cond.code yX8_read cX8_read 11 (some .int) ∈ WT := WT_6 74 rfl rfl
theorem im_X8_read : Cond.instanceMethod yX8_read ∈ WT := WT_6 72 rfl rfl
theorem se_X8_read : Cond.selects RX8 yX8_read yX8_read ∈ WT := WT_6 73 rfl rfl
theorem yk_X8_read : yOk yX8_read 4 := by decide +kernel
theorem cd_X8_torn : Cond.code yX8_torn cX8_torn 1 (some .int) ∈ WT := WT_6 79 rfl rfl
theorem im_X8_torn : Cond.instanceMethod yX8_torn ∈ WT := WT_6 77 rfl rfl
theorem se_X8_torn : Cond.selects RX8 yX8_torn yX8_torn ∈ WT := WT_6 78 rfl rfl
theorem yk_X8_torn : yOk yX8_torn 0 := by decide +kernel
theorem cd_X8_count : Cond.code yX8_count cX8_count 5 (some .int) ∈ WT := WT_6 83 rfl rfl
theorem im_X8_count : Cond.instanceMethod yX8_count ∈ WT := WT_6 81 rfl rfl
theorem se_X8_count : Cond.selects RX8 yX8_count yX8_count ∈ WT := WT_6 82 rfl rfl
theorem yk_X8_count : yOk yX8_count 1 := by decide +kernel
theorem sm_ac : Cond.static arraycopyName ∈ WT := WT_3 28 rfl rfl
theorem na_ac : Cond.native arraycopyName ∈ WT := WT_3 29 rfl rfl
theorem kc_X7_234 : Jvm.Cond.constant RX7 234 1103515245 ∈ WT := WT_4 61 rfl rfl
theorem kc_X8_308 : Jvm.Cond.constant RX8 308 1103515245 ∈ WT := WT_6 53 rfl rfl
theorem kc_X7_246 : Jvm.Cond.constantLong RX7 246 3 ∈ WT := WT_4 94 rfl rfl
theorem kc_X4_26 : Jvm.Cond.constantLong RX4 26 2 ∈ WT := WT_4 100 rfl rfl
theorem kc_X8_65 : Jvm.Cond.constantLong RX8 65 127 ∈ WT := WT_4 217 rfl rfl
theorem kc_X8_97 : Jvm.Cond.constantLong RX8 97 97 ∈ WT := WT_4 237 rfl rfl
theorem kc_X8_99 : Jvm.Cond.constantLong RX8 99 122 ∈ WT := WT_4 238 rfl rfl
theorem kc_X8_101 : Jvm.Cond.constantLong RX8 101 48 ∈ WT := WT_4 239 rfl rfl
theorem kc_X8_103 : Jvm.Cond.constantLong RX8 103 57 ∈ WT := WT_5 0 rfl rfl
theorem kc_X8_281 : Jvm.Cond.constantLong RX8 281 2 ∈ WT := WT_5 202 rfl rfl
theorem kc_X8_298 : Jvm.Cond.constantLong RX8 298 199 ∈ WT := WT_6 27 rfl rfl
theorem kc_X8_306 : Jvm.Cond.constantLong RX8 306 40 ∈ WT := WT_6 52 rfl rfl
theorem kc_X8_309 : Jvm.Cond.constantLong RX8 309 3 ∈ WT := WT_6 66 rfl rfl
theorem kc_X8_311 : Jvm.Cond.constantLong RX8 311 13 ∈ WT := WT_6 75 rfl rfl
theorem inX0 : ∀ w ∈ u_ws RX0 TX0 6, w ∈ WT := by
  intro w h
  obtain ⟨k, hk, rfl⟩ := List.mem_map.mp h
  have hk := List.mem_range.mp hk
  rcases (show k = 0 ∨ k = 1 ∨ k = 2 ∨ k = 3 ∨ k = 4 ∨ k = 5 by omega) with rfl | rfl | rfl | rfl | rfl | rfl
  · exact WT_1 164 rfl rfl
  · exact WT_1 166 rfl rfl
  · exact WT_1 168 rfl rfl
  · exact WT_1 170 rfl rfl
  · exact WT_1 172 rfl rfl
  · exact WT_1 174 rfl rfl
theorem inX1 : ∀ w ∈ u_ws RX1 TX1 12, w ∈ WT := by
  intro w h
  obtain ⟨k, hk, rfl⟩ := List.mem_map.mp h
  have hk := List.mem_range.mp hk
  rcases (show k = 0 ∨ k = 1 ∨ k = 2 ∨ k = 3 ∨ k = 4 ∨ k = 5 ∨ k = 6 ∨ k = 7 ∨ k = 8 ∨ k = 9 ∨ k = 10 ∨ k = 11 by omega) with rfl | rfl | rfl | rfl | rfl | rfl | rfl | rfl | rfl | rfl | rfl | rfl
  · exact WT_1 83 rfl rfl
  · exact WT_1 85 rfl rfl
  · exact WT_1 87 rfl rfl
  · exact WT_1 89 rfl rfl
  · exact WT_1 91 rfl rfl
  · exact WT_1 93 rfl rfl
  · exact WT_1 95 rfl rfl
  · exact WT_1 97 rfl rfl
  · exact WT_1 99 rfl rfl
  · exact WT_1 101 rfl rfl
  · exact WT_1 103 rfl rfl
  · exact WT_1 105 rfl rfl
theorem inX2 : ∀ w ∈ u_ws RX2 TX2 9, w ∈ WT := by
  intro w h
  obtain ⟨k, hk, rfl⟩ := List.mem_map.mp h
  have hk := List.mem_range.mp hk
  rcases (show k = 0 ∨ k = 1 ∨ k = 2 ∨ k = 3 ∨ k = 4 ∨ k = 5 ∨ k = 6 ∨ k = 7 ∨ k = 8 by omega) with rfl | rfl | rfl | rfl | rfl | rfl | rfl | rfl | rfl
  · exact WT_1 128 rfl rfl
  · exact WT_1 130 rfl rfl
  · exact WT_1 132 rfl rfl
  · exact WT_1 134 rfl rfl
  · exact WT_1 136 rfl rfl
  · exact WT_1 138 rfl rfl
  · exact WT_1 140 rfl rfl
  · exact WT_1 142 rfl rfl
  · exact WT_1 144 rfl rfl
theorem inX3 : ∀ w ∈ u_ws RX3 TX3 5, w ∈ WT := by
  intro w h
  obtain ⟨k, hk, rfl⟩ := List.mem_map.mp h
  have hk := List.mem_range.mp hk
  rcases (show k = 0 ∨ k = 1 ∨ k = 2 ∨ k = 3 ∨ k = 4 by omega) with rfl | rfl | rfl | rfl | rfl
  · exact WT_1 198 rfl rfl
  · exact WT_1 200 rfl rfl
  · exact WT_1 202 rfl rfl
  · exact WT_1 204 rfl rfl
  · exact WT_1 206 rfl rfl
theorem inX4 : ∀ w ∈ u_ws RX4 TX4 3, w ∈ WT := by
  intro w h
  obtain ⟨k, hk, rfl⟩ := List.mem_map.mp h
  have hk := List.mem_range.mp hk
  rcases (show k = 0 ∨ k = 1 ∨ k = 2 by omega) with rfl | rfl | rfl
  · exact WT_2 5 rfl rfl
  · exact WT_2 7 rfl rfl
  · exact WT_2 9 rfl rfl
theorem inX5 : ∀ w ∈ u_ws RX5 TX5 6, w ∈ WT := by
  intro w h
  obtain ⟨k, hk, rfl⟩ := List.mem_map.mp h
  have hk := List.mem_range.mp hk
  rcases (show k = 0 ∨ k = 1 ∨ k = 2 ∨ k = 3 ∨ k = 4 ∨ k = 5 by omega) with rfl | rfl | rfl | rfl | rfl | rfl
  · exact WT_1 219 rfl rfl
  · exact WT_1 221 rfl rfl
  · exact WT_1 223 rfl rfl
  · exact WT_1 225 rfl rfl
  · exact WT_1 227 rfl rfl
  · exact WT_1 229 rfl rfl
theorem inX6 : ∀ w ∈ u_ws RX6 TX6 2, w ∈ WT := by
  intro w h
  obtain ⟨k, hk, rfl⟩ := List.mem_map.mp h
  have hk := List.mem_range.mp hk
  rcases (show k = 0 ∨ k = 1 by omega) with rfl | rfl
  · exact WT_1 36 rfl rfl
  · exact WT_1 38 rfl rfl
theorem inX7 : ∀ w ∈ u_ws RX7 TX7 12, w ∈ WT := by
  intro w h
  obtain ⟨k, hk, rfl⟩ := List.mem_map.mp h
  have hk := List.mem_range.mp hk
  rcases (show k = 0 ∨ k = 1 ∨ k = 2 ∨ k = 3 ∨ k = 4 ∨ k = 5 ∨ k = 6 ∨ k = 7 ∨ k = 8 ∨ k = 9 ∨ k = 10 ∨ k = 11 by omega) with rfl | rfl | rfl | rfl | rfl | rfl | rfl | rfl | rfl | rfl | rfl | rfl
  · exact WT_2 24 rfl rfl
  · exact WT_2 26 rfl rfl
  · exact WT_2 28 rfl rfl
  · exact WT_2 30 rfl rfl
  · exact WT_2 32 rfl rfl
  · exact WT_2 34 rfl rfl
  · exact WT_2 36 rfl rfl
  · exact WT_2 38 rfl rfl
  · exact WT_2 40 rfl rfl
  · exact WT_2 42 rfl rfl
  · exact WT_2 44 rfl rfl
  · exact WT_2 46 rfl rfl
theorem inX8 : ∀ w ∈ u_ws RX8 TX8 31, w ∈ WT := by
  intro w h
  obtain ⟨k, hk, rfl⟩ := List.mem_map.mp h
  have hk := List.mem_range.mp hk
  rcases (show k = 0 ∨ k = 1 ∨ k = 2 ∨ k = 3 ∨ k = 4 ∨ k = 5 ∨ k = 6 ∨ k = 7 ∨ k = 8 ∨ k = 9 ∨ k = 10 ∨ k = 11 ∨ k = 12 ∨ k = 13 ∨ k = 14 ∨ k = 15 ∨ k = 16 ∨ k = 17 ∨ k = 18 ∨ k = 19 ∨ k = 20 ∨ k = 21 ∨ k = 22 ∨ k = 23 ∨ k = 24 ∨ k = 25 ∨ k = 26 ∨ k = 27 ∨ k = 28 ∨ k = 29 ∨ k = 30 by omega) with rfl | rfl | rfl | rfl | rfl | rfl | rfl | rfl | rfl | rfl | rfl | rfl | rfl | rfl | rfl | rfl | rfl | rfl | rfl | rfl | rfl | rfl | rfl | rfl | rfl | rfl | rfl | rfl | rfl | rfl | rfl
  · exact WT_4 150 rfl rfl
  · exact WT_4 152 rfl rfl
  · exact WT_4 154 rfl rfl
  · exact WT_4 156 rfl rfl
  · exact WT_4 158 rfl rfl
  · exact WT_4 160 rfl rfl
  · exact WT_4 162 rfl rfl
  · exact WT_4 164 rfl rfl
  · exact WT_4 166 rfl rfl
  · exact WT_4 168 rfl rfl
  · exact WT_4 170 rfl rfl
  · exact WT_4 172 rfl rfl
  · exact WT_4 174 rfl rfl
  · exact WT_4 176 rfl rfl
  · exact WT_4 178 rfl rfl
  · exact WT_4 180 rfl rfl
  · exact WT_4 182 rfl rfl
  · exact WT_4 184 rfl rfl
  · exact WT_4 186 rfl rfl
  · exact WT_4 188 rfl rfl
  · exact WT_4 190 rfl rfl
  · exact WT_4 192 rfl rfl
  · exact WT_4 194 rfl rfl
  · exact WT_4 196 rfl rfl
  · exact WT_4 198 rfl rfl
  · exact WT_4 200 rfl rfl
  · exact WT_4 202 rfl rfl
  · exact WT_4 204 rfl rfl
  · exact WT_4 206 rfl rfl
  · exact WT_4 208 rfl rfl
  · exact WT_4 210 rfl rfl

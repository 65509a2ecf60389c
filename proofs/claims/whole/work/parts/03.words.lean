theorem wn_R_law : (.initialized R_law : Cond) ∈ lwg := mem_lwg (i := 62) (by decide +kernel) rfl
theorem wn_RX9 : (.initialized RX9 : Cond) ∈ lwg := mem_lwg (i := 63) (by decide +kernel) rfl
theorem wn_RX8 : (.initialized RX8 : Cond) ∈ lwg := mem_lwg (i := 64) (by decide +kernel) rfl
theorem wn_RX1 : (.initialized RX1 : Cond) ∈ lwg := mem_lwg (i := 65) (by decide +kernel) rfl
theorem wn_RX0 : (.initialized RX0 : Cond) ∈ lwg := mem_lwg (i := 66) (by decide +kernel) rfl
theorem wn_RX3 : (.initialized RX3 : Cond) ∈ lwg := mem_lwg (i := 67) (by decide +kernel) rfl
theorem wn_RJ9 : (.initialized RJ9 : Cond) ∈ lwg := mem_lwg (i := 68) (by decide +kernel) rfl
theorem wn_RX4 : (.initialized RX4 : Cond) ∈ lwg := mem_lwg (i := 69) (by decide +kernel) rfl
theorem wn_RX5 : (.initialized RX5 : Cond) ∈ lwg := mem_lwg (i := 70) (by decide +kernel) rfl
theorem wn_RX2 : (.initialized RX2 : Cond) ∈ lwg := mem_lwg (i := 71) (by decide +kernel) rfl
theorem wn_RX7 : (.initialized RX7 : Cond) ∈ lwg := mem_lwg (i := 72) (by decide +kernel) rfl
theorem wn_RX6 : (.initialized RX6 : Cond) ∈ lwg := mem_lwg (i := 73) (by decide +kernel) rfl
theorem wn_RX10 : (.initialized RX10 : Cond) ∈ lwg := mem_lwg (i := 74) (by decide +kernel) rfl
theorem wn_RJ6 : (.initialized RJ6 : Cond) ∈ lwg := mem_lwg (i := 75) (by decide +kernel) rfl
theorem wn_RJ10 : (.initialized RJ10 : Cond) ∈ lwg := mem_lwg (i := 76) (by decide +kernel) rfl
theorem wl_R_law_7 : (.classLink R_law 7 RX9 : Cond) ∈ lwg := mem_lwg (i := 77) (by decide +kernel) rfl
theorem wq_RX9 : (.instantiable RX9 8 : Cond) ∈ lwg := mem_lwg (i := 78) (by decide +kernel) rfl
theorem wm_R_law_9 : (.methodLink R_law 9 yX9_init : Cond) ∈ lwg := mem_lwg (i := 79) (by decide +kernel) rfl
theorem wi_yX9_init : (.instanceMethod yX9_init : Cond) ∈ lwg := mem_lwg (i := 80) (by decide +kernel) rfl
theorem wc_yX9_init : (.code yX9_init cX9_init 2 none : Cond) ∈ lwg := mem_lwg (i := 81) (by decide +kernel) rfl
theorem wm_RX9_1 : (.methodLink RX9 1 objectInit : Cond) ∈ lwg := mem_lwg (i := 82) (by decide +kernel) rfl
theorem wi_objectInit : (.instanceMethod objectInit : Cond) ∈ lwg := mem_lwg (i := 83) (by decide +kernel) rfl
theorem wc_objectInit : (.code objectInit ⟨#[0xb1]⟩ 1 none : Cond) ∈ lwg := mem_lwg (i := 84) (by decide +kernel) rfl
theorem wl_RX9_7 : (.classLink RX9 7 RX8 : Cond) ∈ lwg := mem_lwg (i := 85) (by decide +kernel) rfl
theorem wq_RX8 : (.instantiable RX8 4 : Cond) ∈ lwg := mem_lwg (i := 86) (by decide +kernel) rfl
theorem wi_yX8_init : (.instanceMethod yX8_init : Cond) ∈ lwg := mem_lwg (i := 88) (by decide +kernel) rfl
theorem wc_yX8_init : (.code yX8_init cX8_init 1 none : Cond) ∈ lwg := mem_lwg (i := 89) (by decide +kernel) rfl
theorem wm_RX8_3 : (.methodLink RX8 3 objectInit : Cond) ∈ lwg := mem_lwg (i := 90) (by decide +kernel) rfl
theorem wl_RX8_9 : (.classLink RX8 9 RX1 : Cond) ∈ lwg := mem_lwg (i := 91) (by decide +kernel) rfl
theorem wq_RX1 : (.instantiable RX1 9 : Cond) ∈ lwg := mem_lwg (i := 92) (by decide +kernel) rfl
theorem wm_RX8_11 : (.methodLink RX8 11 yX1_init : Cond) ∈ lwg := mem_lwg (i := 93) (by decide +kernel) rfl
theorem wi_yX1_init : (.instanceMethod yX1_init : Cond) ∈ lwg := mem_lwg (i := 94) (by decide +kernel) rfl
theorem wc_yX1_init : (.code yX1_init cX1_init 2 none : Cond) ∈ lwg := mem_lwg (i := 95) (by decide +kernel) rfl
theorem wm_RX1_3 : (.methodLink RX1 3 objectInit : Cond) ∈ lwg := mem_lwg (i := 96) (by decide +kernel) rfl
theorem wl_RX1_9 : (.classLink RX1 9 RX0 : Cond) ∈ lwg := mem_lwg (i := 97) (by decide +kernel) rfl
theorem wq_RX0 : (.instantiable RX0 3 : Cond) ∈ lwg := mem_lwg (i := 98) (by decide +kernel) rfl
theorem wm_RX1_11 : (.methodLink RX1 11 yX0_init : Cond) ∈ lwg := mem_lwg (i := 99) (by decide +kernel) rfl
theorem wi_yX0_init : (.instanceMethod yX0_init : Cond) ∈ lwg := mem_lwg (i := 100) (by decide +kernel) rfl
theorem wc_yX0_init : (.code yX0_init cX0_init 2 none : Cond) ∈ lwg := mem_lwg (i := 101) (by decide +kernel) rfl
theorem wm_RX0_3 : (.methodLink RX0 3 objectInit : Cond) ∈ lwg := mem_lwg (i := 102) (by decide +kernel) rfl
theorem wl_RX0_9 : (.classLink RX0 9 RX3 : Cond) ∈ lwg := mem_lwg (i := 103) (by decide +kernel) rfl
theorem wq_RX3 : (.instantiable RX3 2 : Cond) ∈ lwg := mem_lwg (i := 104) (by decide +kernel) rfl
theorem wm_RX0_11 : (.methodLink RX0 11 yX3_init : Cond) ∈ lwg := mem_lwg (i := 105) (by decide +kernel) rfl
theorem wi_yX3_init : (.instanceMethod yX3_init : Cond) ∈ lwg := mem_lwg (i := 106) (by decide +kernel) rfl
theorem wc_yX3_init : (.code yX3_init cX3_init 2 none : Cond) ∈ lwg := mem_lwg (i := 107) (by decide +kernel) rfl
theorem wm_RX3_1 : (.methodLink RX3 1 objectInit : Cond) ∈ lwg := mem_lwg (i := 108) (by decide +kernel) rfl
theorem wm_RX3_7 : (.methodLink RX3 7 yJ9_max_7cf53 : Cond) ∈ lwg := mem_lwg (i := 109) (by decide +kernel) rfl
theorem wt_yJ9_max_7cf53 : (.static yJ9_max_7cf53 : Cond) ∈ lwg := mem_lwg (i := 110) (by decide +kernel) rfl
theorem wc_yJ9_max_7cf53 : (.code yJ9_max_7cf53 cJ9_max_7cf53 2 (some .int) : Cond) ∈ lwg := mem_lwg (i := 111) (by decide +kernel) rfl
theorem wf_RX3_13 : (.fieldLink RX3 13 "RaddleMarks$Row" "items" "[I" : Cond) ∈ lwg := mem_lwg (i := 112) (by decide +kernel) rfl
theorem wf_RX0_27 : (.fieldLink RX0 27 "RaddleMarks$Row" "size" "I" : Cond) ∈ lwg := mem_lwg (i := 113) (by decide +kernel) rfl
theorem wf_RX3_19 : (.fieldLink RX3 19 "RaddleMarks$Row" "size" "I" : Cond) ∈ lwg := mem_lwg (i := 114) (by decide +kernel) rfl
theorem wf_RX2_41 : (.fieldLink RX2 41 "RaddleMarks$Row" "size" "I" : Cond) ∈ lwg := mem_lwg (i := 115) (by decide +kernel) rfl
theorem wf_RX9_153 : (.fieldLink RX9 153 "RaddleMarks$Row" "size" "I" : Cond) ∈ lwg := mem_lwg (i := 116) (by decide +kernel) rfl
theorem wa_60 : (.arrayClass .int : Cond) ∈ lwg := mem_lwg (i := 122) (by decide +kernel) rfl
theorem wf_RX0_23 : (.fieldLink RX0 23 "RaddleMarks$Law" "most" "I" : Cond) ∈ lwg := mem_lwg (i := 123) (by decide +kernel) rfl
theorem wf_RX0_14 : (.fieldLink RX0 14 "RaddleMarks$Law" "code" "LRaddleMarks$Row;" : Cond) ∈ lwg := mem_lwg (i := 124) (by decide +kernel) rfl
theorem wf_RX1_48 : (.fieldLink RX1 48 "RaddleMarks$Law" "code" "LRaddleMarks$Row;" : Cond) ∈ lwg := mem_lwg (i := 125) (by decide +kernel) rfl
theorem wf_RX9_175 : (.fieldLink RX9 175 "RaddleMarks$Law" "code" "LRaddleMarks$Row;" : Cond) ∈ lwg := mem_lwg (i := 126) (by decide +kernel) rfl
theorem wf_RX0_20 : (.fieldLink RX0 20 "RaddleMarks$Law" "open" "LRaddleMarks$Row;" : Cond) ∈ lwg := mem_lwg (i := 127) (by decide +kernel) rfl
theorem wl_RX1_27 : (.classLink RX1 27 RX4 : Cond) ∈ lwg := mem_lwg (i := 135) (by decide +kernel) rfl
theorem wl_RX1_33 : (.classLink RX1 33 RX5 : Cond) ∈ lwg := mem_lwg (i := 137) (by decide +kernel) rfl
theorem wl_RX1_39 : (.classLink RX1 39 RX3 : Cond) ∈ lwg := mem_lwg (i := 139) (by decide +kernel) rfl
theorem wm_RX1_41 : (.methodLink RX1 41 yX3_init : Cond) ∈ lwg := mem_lwg (i := 140) (by decide +kernel) rfl
theorem wq_RX4 : (.instantiable RX4 2 : Cond) ∈ lwg := mem_lwg (i := 141) (by decide +kernel) rfl
theorem wi_yX4_init : (.instanceMethod yX4_init : Cond) ∈ lwg := mem_lwg (i := 143) (by decide +kernel) rfl
theorem wc_yX4_init : (.code yX4_init cX4_init 1 none : Cond) ∈ lwg := mem_lwg (i := 144) (by decide +kernel) rfl
theorem wm_RX4_1 : (.methodLink RX4 1 objectInit : Cond) ∈ lwg := mem_lwg (i := 145) (by decide +kernel) rfl
theorem wf_RX4_7 : (.fieldLink RX4 7 "RaddleMarks$Seeker" "at" "I" : Cond) ∈ lwg := mem_lwg (i := 146) (by decide +kernel) rfl
theorem wf_RX9_83 : (.fieldLink RX9 83 "RaddleMarks$Seeker" "at" "I" : Cond) ∈ lwg := mem_lwg (i := 147) (by decide +kernel) rfl
theorem wf_RX1_91 : (.fieldLink RX1 91 "RaddleMarks$Seeker" "at" "I" : Cond) ∈ lwg := mem_lwg (i := 148) (by decide +kernel) rfl
theorem wf_RX4_13 : (.fieldLink RX4 13 "RaddleMarks$Seeker" "strength" "I" : Cond) ∈ lwg := mem_lwg (i := 149) (by decide +kernel) rfl
theorem wf_RX9_88 : (.fieldLink RX9 88 "RaddleMarks$Seeker" "strength" "I" : Cond) ∈ lwg := mem_lwg (i := 150) (by decide +kernel) rfl
theorem wf_RX1_144 : (.fieldLink RX1 144 "RaddleMarks$Seeker" "strength" "I" : Cond) ∈ lwg := mem_lwg (i := 151) (by decide +kernel) rfl
theorem wq_RX5 : (.instantiable RX5 6 : Cond) ∈ lwg := mem_lwg (i := 157) (by decide +kernel) rfl
theorem wi_yX5_init : (.instanceMethod yX5_init : Cond) ∈ lwg := mem_lwg (i := 159) (by decide +kernel) rfl
theorem wc_yX5_init : (.code yX5_init cX5_init 1 none : Cond) ∈ lwg := mem_lwg (i := 160) (by decide +kernel) rfl
theorem wm_RX5_3 : (.methodLink RX5 3 objectInit : Cond) ∈ lwg := mem_lwg (i := 161) (by decide +kernel) rfl
theorem wf_RX5_9 : (.fieldLink RX5 9 "RaddleMarks$Sheep" "kind" "I" : Cond) ∈ lwg := mem_lwg (i := 162) (by decide +kernel) rfl
theorem wf_RX9_110 : (.fieldLink RX9 110 "RaddleMarks$Sheep" "kind" "I" : Cond) ∈ lwg := mem_lwg (i := 163) (by decide +kernel) rfl
theorem wf_RX5_15 : (.fieldLink RX5 15 "RaddleMarks$Sheep" "m" "I" : Cond) ∈ lwg := mem_lwg (i := 164) (by decide +kernel) rfl
theorem wf_RX9_115 : (.fieldLink RX9 115 "RaddleMarks$Sheep" "m" "I" : Cond) ∈ lwg := mem_lwg (i := 165) (by decide +kernel) rfl
theorem wf_RX1_117 : (.fieldLink RX1 117 "RaddleMarks$Sheep" "m" "I" : Cond) ∈ lwg := mem_lwg (i := 166) (by decide +kernel) rfl
theorem wf_RX5_18 : (.fieldLink RX5 18 "RaddleMarks$Sheep" "cell" "I" : Cond) ∈ lwg := mem_lwg (i := 167) (by decide +kernel) rfl
theorem wf_RX9_118 : (.fieldLink RX9 118 "RaddleMarks$Sheep" "cell" "I" : Cond) ∈ lwg := mem_lwg (i := 168) (by decide +kernel) rfl
theorem wf_RX1_94 : (.fieldLink RX1 94 "RaddleMarks$Sheep" "cell" "I" : Cond) ∈ lwg := mem_lwg (i := 169) (by decide +kernel) rfl
theorem wf_RX5_21 : (.fieldLink RX5 21 "RaddleMarks$Sheep" "warmth" "I" : Cond) ∈ lwg := mem_lwg (i := 170) (by decide +kernel) rfl
theorem wf_RX9_121 : (.fieldLink RX9 121 "RaddleMarks$Sheep" "warmth" "I" : Cond) ∈ lwg := mem_lwg (i := 171) (by decide +kernel) rfl
theorem wf_RX1_114 : (.fieldLink RX1 114 "RaddleMarks$Sheep" "warmth" "I" : Cond) ∈ lwg := mem_lwg (i := 172) (by decide +kernel) rfl
theorem wf_RX5_24 : (.fieldLink RX5 24 "RaddleMarks$Sheep" "mark" "I" : Cond) ∈ lwg := mem_lwg (i := 173) (by decide +kernel) rfl
theorem wf_RX9_124 : (.fieldLink RX9 124 "RaddleMarks$Sheep" "mark" "I" : Cond) ∈ lwg := mem_lwg (i := 174) (by decide +kernel) rfl
theorem wf_RX1_108 : (.fieldLink RX1 108 "RaddleMarks$Sheep" "mark" "I" : Cond) ∈ lwg := mem_lwg (i := 175) (by decide +kernel) rfl
theorem wf_RX5_27 : (.fieldLink RX5 27 "RaddleMarks$Sheep" "found" "Z" : Cond) ∈ lwg := mem_lwg (i := 176) (by decide +kernel) rfl
theorem wf_RX9_127 : (.fieldLink RX9 127 "RaddleMarks$Sheep" "found" "Z" : Cond) ∈ lwg := mem_lwg (i := 177) (by decide +kernel) rfl
theorem wf_RX1_97 : (.fieldLink RX1 97 "RaddleMarks$Sheep" "found" "Z" : Cond) ∈ lwg := mem_lwg (i := 178) (by decide +kernel) rfl
theorem wf_RX1_14 : (.fieldLink RX1 14 "RaddleMarks$Moor" "falls" "LRaddleMarks$Law;" : Cond) ∈ lwg := mem_lwg (i := 192) (by decide +kernel) rfl
theorem wf_RX1_20 : (.fieldLink RX1 20 "RaddleMarks$Moor" "goesOut" "LRaddleMarks$Law;" : Cond) ∈ lwg := mem_lwg (i := 193) (by decide +kernel) rfl
theorem wf_RX1_23 : (.fieldLink RX1 23 "RaddleMarks$Moor" "snow" "[I" : Cond) ∈ lwg := mem_lwg (i := 194) (by decide +kernel) rfl
theorem wf_RX9_66 : (.fieldLink RX9 66 "RaddleMarks$Moor" "snow" "[I" : Cond) ∈ lwg := mem_lwg (i := 195) (by decide +kernel) rfl
theorem wf_RX1_29 : (.fieldLink RX1 29 "RaddleMarks$Moor" "seekers" "[LRaddleMarks$Seeker;" : Cond) ∈ lwg := mem_lwg (i := 196) (by decide +kernel) rfl
theorem wf_RX9_79 : (.fieldLink RX9 79 "RaddleMarks$Moor" "seekers" "[LRaddleMarks$Seeker;" : Cond) ∈ lwg := mem_lwg (i := 197) (by decide +kernel) rfl
theorem wf_RX1_35 : (.fieldLink RX1 35 "RaddleMarks$Moor" "flock" "[LRaddleMarks$Sheep;" : Cond) ∈ lwg := mem_lwg (i := 198) (by decide +kernel) rfl
theorem wf_RX9_106 : (.fieldLink RX9 106 "RaddleMarks$Moor" "flock" "[LRaddleMarks$Sheep;" : Cond) ∈ lwg := mem_lwg (i := 199) (by decide +kernel) rfl
theorem wf_RX1_42 : (.fieldLink RX1 42 "RaddleMarks$Moor" "finds" "LRaddleMarks$Row;" : Cond) ∈ lwg := mem_lwg (i := 200) (by decide +kernel) rfl
theorem wf_RX9_235 : (.fieldLink RX9 235 "RaddleMarks$Moor" "finds" "LRaddleMarks$Row;" : Cond) ∈ lwg := mem_lwg (i := 201) (by decide +kernel) rfl
theorem wf_RX1_55 : (.fieldLink RX1 55 "RaddleMarks$Moor" "seekerCount" "I" : Cond) ∈ lwg := mem_lwg (i := 202) (by decide +kernel) rfl
theorem wf_RX9_75 : (.fieldLink RX9 75 "RaddleMarks$Moor" "seekerCount" "I" : Cond) ∈ lwg := mem_lwg (i := 203) (by decide +kernel) rfl
theorem wf_RX1_68 : (.fieldLink RX1 68 "RaddleMarks$Moor" "sheepCount" "I" : Cond) ∈ lwg := mem_lwg (i := 204) (by decide +kernel) rfl
theorem wf_RX9_103 : (.fieldLink RX9 103 "RaddleMarks$Moor" "sheepCount" "I" : Cond) ∈ lwg := mem_lwg (i := 205) (by decide +kernel) rfl
theorem wf_RX1_74 : (.fieldLink RX1 74 "RaddleMarks$Moor" "hour" "I" : Cond) ∈ lwg := mem_lwg (i := 206) (by decide +kernel) rfl
theorem wf_RX9_134 : (.fieldLink RX9 134 "RaddleMarks$Moor" "hour" "I" : Cond) ∈ lwg := mem_lwg (i := 207) (by decide +kernel) rfl
theorem wl_RX8_18 : (.classLink RX8 18 RX3 : Cond) ∈ lwg := mem_lwg (i := 227) (by decide +kernel) rfl
theorem wm_RX8_20 : (.methodLink RX8 20 yX3_init : Cond) ∈ lwg := mem_lwg (i := 228) (by decide +kernel) rfl
theorem wf_RX8_12 : (.fieldLink RX8 12 "RaddleMarks$World" "moor" "LRaddleMarks$Moor;" : Cond) ∈ lwg := mem_lwg (i := 229) (by decide +kernel) rfl
theorem wf_RX9_63 : (.fieldLink RX9 63 "RaddleMarks$World" "moor" "LRaddleMarks$Moor;" : Cond) ∈ lwg := mem_lwg (i := 230) (by decide +kernel) rfl
theorem wf_RX8_23 : (.fieldLink RX8 23 "RaddleMarks$World" "tape" "LRaddleMarks$Row;" : Cond) ∈ lwg := mem_lwg (i := 231) (by decide +kernel) rfl
theorem wf_RX9_149 : (.fieldLink RX9 149 "RaddleMarks$World" "tape" "LRaddleMarks$Row;" : Cond) ∈ lwg := mem_lwg (i := 232) (by decide +kernel) rfl
theorem wf_RX8_27 : (.fieldLink RX8 27 "RaddleMarks$World" "waiting" "LRaddleMarks$Row;" : Cond) ∈ lwg := mem_lwg (i := 233) (by decide +kernel) rfl
theorem wf_RX9_288 : (.fieldLink RX9 288 "RaddleMarks$World" "waiting" "LRaddleMarks$Row;" : Cond) ∈ lwg := mem_lwg (i := 234) (by decide +kernel) rfl
theorem wf_RX8_30 : (.fieldLink RX8 30 "RaddleMarks$World" "z" "I" : Cond) ∈ lwg := mem_lwg (i := 235) (by decide +kernel) rfl
theorem wf_RX9_244 : (.fieldLink RX9 244 "RaddleMarks$World" "z" "I" : Cond) ∈ lwg := mem_lwg (i := 236) (by decide +kernel) rfl
theorem wl_RX9_19 : (.classLink RX9 19 RX1 : Cond) ∈ lwg := mem_lwg (i := 246) (by decide +kernel) rfl
theorem wm_RX9_21 : (.methodLink RX9 21 yX1_init : Cond) ∈ lwg := mem_lwg (i := 247) (by decide +kernel) rfl
theorem wl_RX9_26 : (.classLink RX9 26 RX2 : Cond) ∈ lwg := mem_lwg (i := 248) (by decide +kernel) rfl
theorem wq_RX2 : (.instantiable RX2 4 : Cond) ∈ lwg := mem_lwg (i := 249) (by decide +kernel) rfl
theorem wi_yX2_init : (.instanceMethod yX2_init : Cond) ∈ lwg := mem_lwg (i := 251) (by decide +kernel) rfl
theorem wc_yX2_init : (.code yX2_init cX2_init 1 none : Cond) ∈ lwg := mem_lwg (i := 252) (by decide +kernel) rfl
theorem wm_RX2_3 : (.methodLink RX2 3 objectInit : Cond) ∈ lwg := mem_lwg (i := 253) (by decide +kernel) rfl
theorem wl_RX2_9 : (.classLink RX2 9 RX3 : Cond) ∈ lwg := mem_lwg (i := 254) (by decide +kernel) rfl
theorem wm_RX2_11 : (.methodLink RX2 11 yX3_init : Cond) ∈ lwg := mem_lwg (i := 255) (by decide +kernel) rfl
theorem wf_RX2_14 : (.fieldLink RX2 14 "RaddleMarks$Reader" "bytes" "LRaddleMarks$Row;" : Cond) ∈ lwg := mem_lwg (i := 256) (by decide +kernel) rfl
theorem wf_RX2_20 : (.fieldLink RX2 20 "RaddleMarks$Reader" "code" "LRaddleMarks$Row;" : Cond) ∈ lwg := mem_lwg (i := 257) (by decide +kernel) rfl
theorem wf_RX9_180 : (.fieldLink RX9 180 "RaddleMarks$Reader" "code" "LRaddleMarks$Row;" : Cond) ∈ lwg := mem_lwg (i := 258) (by decide +kernel) rfl
theorem wf_RX2_27 : (.fieldLink RX2 27 "RaddleMarks$Reader" "use" "I" : Cond) ∈ lwg := mem_lwg (i := 259) (by decide +kernel) rfl
theorem wf_RX2_31 : (.fieldLink RX2 31 "RaddleMarks$Reader" "place" "I" : Cond) ∈ lwg := mem_lwg (i := 260) (by decide +kernel) rfl
theorem wf_RX9_168 : (.fieldLink RX9 168 "RaddleMarks$Reader" "place" "I" : Cond) ∈ lwg := mem_lwg (i := 261) (by decide +kernel) rfl
theorem wl_RX9_33 : (.classLink RX9 33 RX7 : Cond) ∈ lwg := mem_lwg (i := 271) (by decide +kernel) rfl
theorem wq_RX7 : (.instantiable RX7 4 : Cond) ∈ lwg := mem_lwg (i := 272) (by decide +kernel) rfl
theorem wi_yX7_init : (.instanceMethod yX7_init : Cond) ∈ lwg := mem_lwg (i := 274) (by decide +kernel) rfl
theorem wc_yX7_init : (.code yX7_init cX7_init 1 none : Cond) ∈ lwg := mem_lwg (i := 275) (by decide +kernel) rfl
theorem wm_RX7_3 : (.methodLink RX7 3 objectInit : Cond) ∈ lwg := mem_lwg (i := 276) (by decide +kernel) rfl
theorem wl_RX7_9 : (.classLink RX7 9 RX3 : Cond) ∈ lwg := mem_lwg (i := 277) (by decide +kernel) rfl
theorem wm_RX7_11 : (.methodLink RX7 11 yX3_init : Cond) ∈ lwg := mem_lwg (i := 278) (by decide +kernel) rfl
theorem wf_RX7_14 : (.fieldLink RX7 14 "RaddleMarks$Voices" "trace" "LRaddleMarks$Row;" : Cond) ∈ lwg := mem_lwg (i := 279) (by decide +kernel) rfl
theorem wf_RX9_251 : (.fieldLink RX9 251 "RaddleMarks$Voices" "trace" "LRaddleMarks$Row;" : Cond) ∈ lwg := mem_lwg (i := 280) (by decide +kernel) rfl
theorem wf_RX7_20 : (.fieldLink RX7 20 "RaddleMarks$Voices" "kind" "I" : Cond) ∈ lwg := mem_lwg (i := 281) (by decide +kernel) rfl
theorem wf_RX7_24 : (.fieldLink RX7 24 "RaddleMarks$Voices" "n" "I" : Cond) ∈ lwg := mem_lwg (i := 282) (by decide +kernel) rfl
theorem wf_RX7_27 : (.fieldLink RX7 27 "RaddleMarks$Voices" "m" "I" : Cond) ∈ lwg := mem_lwg (i := 283) (by decide +kernel) rfl
theorem wl_RX9_40 : (.classLink RX9 40 RX6 : Cond) ∈ lwg := mem_lwg (i := 293) (by decide +kernel) rfl
theorem wq_RX6 : (.instantiable RX6 2 : Cond) ∈ lwg := mem_lwg (i := 295) (by decide +kernel) rfl
theorem wi_yX6_init : (.instanceMethod yX6_init : Cond) ∈ lwg := mem_lwg (i := 297) (by decide +kernel) rfl
theorem wc_yX6_init : (.code yX6_init cX6_init 1 none : Cond) ∈ lwg := mem_lwg (i := 298) (by decide +kernel) rfl
theorem wm_RX6_3 : (.methodLink RX6 3 objectInit : Cond) ∈ lwg := mem_lwg (i := 299) (by decide +kernel) rfl
theorem wl_RX6_9 : (.classLink RX6 9 RX3 : Cond) ∈ lwg := mem_lwg (i := 300) (by decide +kernel) rfl
theorem wm_RX6_11 : (.methodLink RX6 11 yX3_init : Cond) ∈ lwg := mem_lwg (i := 301) (by decide +kernel) rfl
theorem wf_RX6_14 : (.fieldLink RX6 14 "RaddleMarks$Sheet" "numbers" "LRaddleMarks$Row;" : Cond) ∈ lwg := mem_lwg (i := 302) (by decide +kernel) rfl
theorem wf_RX9_228 : (.fieldLink RX9 228 "RaddleMarks$Sheet" "numbers" "LRaddleMarks$Row;" : Cond) ∈ lwg := mem_lwg (i := 303) (by decide +kernel) rfl
theorem wf_RX6_20 : (.fieldLink RX6 20 "RaddleMarks$Sheet" "bits" "I" : Cond) ∈ lwg := mem_lwg (i := 304) (by decide +kernel) rfl
theorem wf_RX9_267 : (.fieldLink RX9 267 "RaddleMarks$Sheet" "bits" "I" : Cond) ∈ lwg := mem_lwg (i := 305) (by decide +kernel) rfl
theorem wf_RX9_10 : (.fieldLink RX9 10 "RaddleMarks" "now" "LRaddleMarks$World;" : Cond) ∈ lwg := mem_lwg (i := 311) (by decide +kernel) rfl
theorem wf_RX9_16 : (.fieldLink RX9 16 "RaddleMarks" "kept" "LRaddleMarks$World;" : Cond) ∈ lwg := mem_lwg (i := 312) (by decide +kernel) rfl
theorem wf_RX9_22 : (.fieldLink RX9 22 "RaddleMarks" "thought" "LRaddleMarks$Moor;" : Cond) ∈ lwg := mem_lwg (i := 313) (by decide +kernel) rfl
theorem wf_RX9_29 : (.fieldLink RX9 29 "RaddleMarks" "reader" "LRaddleMarks$Reader;" : Cond) ∈ lwg := mem_lwg (i := 314) (by decide +kernel) rfl
theorem wf_RX9_36 : (.fieldLink RX9 36 "RaddleMarks" "voices" "LRaddleMarks$Voices;" : Cond) ∈ lwg := mem_lwg (i := 315) (by decide +kernel) rfl
theorem wf_RX9_42 : (.fieldLink RX9 42 "RaddleMarks" "sheets" "[LRaddleMarks$Sheet;" : Cond) ∈ lwg := mem_lwg (i := 316) (by decide +kernel) rfl
theorem wf_RX9_46 : (.fieldLink RX9 46 "RaddleMarks" "refusals" "[I" : Cond) ∈ lwg := mem_lwg (i := 317) (by decide +kernel) rfl
theorem wf_RX9_285 : (.fieldLink RX9 285 "RaddleMarks" "images" "I" : Cond) ∈ lwg := mem_lwg (i := 318) (by decide +kernel) rfl
theorem wm_R_law_13 : (.methodLink R_law 13 yX9_snow : Cond) ∈ lwg := mem_lwg (i := 336) (by decide +kernel) rfl
theorem wi_yX9_snow : (.instanceMethod yX9_snow : Cond) ∈ lwg := mem_lwg (i := 337) (by decide +kernel) rfl
theorem wv_yX9_snow : (.selects RX9 yX9_snow yX9_snow : Cond) ∈ lwg := mem_lwg (i := 338) (by decide +kernel) rfl
theorem wc_yX9_snow : (.code yX9_snow cX9_snow 4 (some .int) : Cond) ∈ lwg := mem_lwg (i := 339) (by decide +kernel) rfl
theorem wm_RX9_51 : (.methodLink RX9 51 yX9_isCell : Cond) ∈ lwg := mem_lwg (i := 340) (by decide +kernel) rfl
theorem wt_yX9_isCell : (.static yX9_isCell : Cond) ∈ lwg := mem_lwg (i := 341) (by decide +kernel) rfl
theorem wc_yX9_isCell : (.code yX9_isCell cX9_isCell 1 (some .boolean) : Cond) ∈ lwg := mem_lwg (i := 342) (by decide +kernel) rfl
theorem wm_RX9_55 : (.methodLink RX9 55 yX9_isWithin : Cond) ∈ lwg := mem_lwg (i := 343) (by decide +kernel) rfl
theorem wt_yX9_isWithin : (.static yX9_isWithin : Cond) ∈ lwg := mem_lwg (i := 344) (by decide +kernel) rfl
theorem wc_yX9_isWithin : (.code yX9_isWithin cX9_isWithin 2 (some .boolean) : Cond) ∈ lwg := mem_lwg (i := 345) (by decide +kernel) rfl
theorem wm_RX9_59 : (.methodLink RX9 59 yX9_refuse : Cond) ∈ lwg := mem_lwg (i := 346) (by decide +kernel) rfl
theorem wi_yX9_refuse : (.instanceMethod yX9_refuse : Cond) ∈ lwg := mem_lwg (i := 348) (by decide +kernel) rfl
theorem wc_yX9_refuse : (.code yX9_refuse cX9_refuse 2 (some .int) : Cond) ∈ lwg := mem_lwg (i := 349) (by decide +kernel) rfl
theorem wk_RX9_297 : (.constant RX9 297 (-1000000000) : Cond) ∈ lwg := mem_lwg (i := 350) (by decide +kernel) rfl
theorem wm_R_law_18 : (.methodLink R_law 18 yX9_ofCell : Cond) ∈ lwg := mem_lwg (i := 351) (by decide +kernel) rfl
theorem wi_yX9_ofCell : (.instanceMethod yX9_ofCell : Cond) ∈ lwg := mem_lwg (i := 352) (by decide +kernel) rfl
theorem wv_yX9_ofCell : (.selects RX9 yX9_ofCell yX9_ofCell : Cond) ∈ lwg := mem_lwg (i := 353) (by decide +kernel) rfl
theorem wc_yX9_ofCell : (.code yX9_ofCell cX9_ofCell 3 (some .int) : Cond) ∈ lwg := mem_lwg (i := 354) (by decide +kernel) rfl
theorem wm_RX9_69 : (.methodLink RX9 69 yX1_seekersAt : Cond) ∈ lwg := mem_lwg (i := 355) (by decide +kernel) rfl
theorem wi_yX1_seekersAt : (.instanceMethod yX1_seekersAt : Cond) ∈ lwg := mem_lwg (i := 356) (by decide +kernel) rfl
theorem wv_yX1_seekersAt : (.selects RX1 yX1_seekersAt yX1_seekersAt : Cond) ∈ lwg := mem_lwg (i := 357) (by decide +kernel) rfl
theorem wc_yX1_seekersAt : (.code yX1_seekersAt cX1_seekersAt 4 (some .int) : Cond) ∈ lwg := mem_lwg (i := 358) (by decide +kernel) rfl
theorem wm_RX9_72 : (.methodLink RX9 72 yX1_sheepIn : Cond) ∈ lwg := mem_lwg (i := 359) (by decide +kernel) rfl
theorem wi_yX1_sheepIn : (.instanceMethod yX1_sheepIn : Cond) ∈ lwg := mem_lwg (i := 360) (by decide +kernel) rfl
theorem wv_yX1_sheepIn : (.selects RX1 yX1_sheepIn yX1_sheepIn : Cond) ∈ lwg := mem_lwg (i := 361) (by decide +kernel) rfl
theorem wc_yX1_sheepIn : (.code yX1_sheepIn cX1_sheepIn 4 (some .int) : Cond) ∈ lwg := mem_lwg (i := 362) (by decide +kernel) rfl
theorem wm_R_law_22 : (.methodLink R_law 22 yX9_seeker : Cond) ∈ lwg := mem_lwg (i := 363) (by decide +kernel) rfl
theorem wi_yX9_seeker : (.instanceMethod yX9_seeker : Cond) ∈ lwg := mem_lwg (i := 364) (by decide +kernel) rfl
theorem wv_yX9_seeker : (.selects RX9 yX9_seeker yX9_seeker : Cond) ∈ lwg := mem_lwg (i := 365) (by decide +kernel) rfl
theorem wc_yX9_seeker : (.code yX9_seeker cX9_seeker 4 (some .int) : Cond) ∈ lwg := mem_lwg (i := 366) (by decide +kernel) rfl
theorem wm_R_law_26 : (.methodLink R_law 26 yX9_ofSeeker : Cond) ∈ lwg := mem_lwg (i := 367) (by decide +kernel) rfl
theorem wi_yX9_ofSeeker : (.instanceMethod yX9_ofSeeker : Cond) ∈ lwg := mem_lwg (i := 368) (by decide +kernel) rfl
theorem wv_yX9_ofSeeker : (.selects RX9 yX9_ofSeeker yX9_ofSeeker : Cond) ∈ lwg := mem_lwg (i := 369) (by decide +kernel) rfl
theorem wc_yX9_ofSeeker : (.code yX9_ofSeeker cX9_ofSeeker 3 (some .int) : Cond) ∈ lwg := mem_lwg (i := 370) (by decide +kernel) rfl
theorem wm_RX9_91 : (.methodLink RX9 91 yX9_isSeeker : Cond) ∈ lwg := mem_lwg (i := 371) (by decide +kernel) rfl
theorem wi_yX9_isSeeker : (.instanceMethod yX9_isSeeker : Cond) ∈ lwg := mem_lwg (i := 373) (by decide +kernel) rfl
theorem wc_yX9_isSeeker : (.code yX9_isSeeker cX9_isSeeker 2 (some .boolean) : Cond) ∈ lwg := mem_lwg (i := 374) (by decide +kernel) rfl
theorem wm_RX9_94 : (.methodLink RX9 94 yX1_outFor : Cond) ∈ lwg := mem_lwg (i := 375) (by decide +kernel) rfl
theorem wi_yX1_outFor : (.instanceMethod yX1_outFor : Cond) ∈ lwg := mem_lwg (i := 376) (by decide +kernel) rfl
theorem wv_yX1_outFor : (.selects RX1 yX1_outFor yX1_outFor : Cond) ∈ lwg := mem_lwg (i := 377) (by decide +kernel) rfl
theorem wc_yX1_outFor : (.code yX1_outFor cX1_outFor 8 (some .int) : Cond) ∈ lwg := mem_lwg (i := 378) (by decide +kernel) rfl
theorem wm_RX1_111 : (.methodLink RX1 111 yJ9_abs_0f7a4 : Cond) ∈ lwg := mem_lwg (i := 379) (by decide +kernel) rfl
theorem wt_yJ9_abs_0f7a4 : (.static yJ9_abs_0f7a4 : Cond) ∈ lwg := mem_lwg (i := 380) (by decide +kernel) rfl
theorem wc_yJ9_abs_0f7a4 : (.code yJ9_abs_0f7a4 cJ9_abs_0f7a4 1 (some .int) : Cond) ∈ lwg := mem_lwg (i := 381) (by decide +kernel) rfl
theorem wm_RX1_105 : (.methodLink RX1 105 yX5_isSought : Cond) ∈ lwg := mem_lwg (i := 382) (by decide +kernel) rfl
theorem wi_yX5_isSought : (.instanceMethod yX5_isSought : Cond) ∈ lwg := mem_lwg (i := 383) (by decide +kernel) rfl
theorem wv_yX5_isSought : (.selects RX5 yX5_isSought yX5_isSought : Cond) ∈ lwg := mem_lwg (i := 384) (by decide +kernel) rfl
theorem wc_yX5_isSought : (.code yX5_isSought cX5_isSought 1 (some .boolean) : Cond) ∈ lwg := mem_lwg (i := 385) (by decide +kernel) rfl
theorem wm_RX1_120 : (.methodLink RX1 120 yX0_gives : Cond) ∈ lwg := mem_lwg (i := 386) (by decide +kernel) rfl
theorem wi_yX0_gives : (.instanceMethod yX0_gives : Cond) ∈ lwg := mem_lwg (i := 387) (by decide +kernel) rfl
theorem wv_yX0_gives : (.selects RX0 yX0_gives yX0_gives : Cond) ∈ lwg := mem_lwg (i := 388) (by decide +kernel) rfl
theorem wc_yX0_gives : (.code yX0_gives cX0_gives 4 (some .int) : Cond) ∈ lwg := mem_lwg (i := 389) (by decide +kernel) rfl
theorem wm_RX0_30 : (.methodLink RX0 30 yX0_workOut : Cond) ∈ lwg := mem_lwg (i := 390) (by decide +kernel) rfl
theorem wi_yX0_workOut : (.instanceMethod yX0_workOut : Cond) ∈ lwg := mem_lwg (i := 392) (by decide +kernel) rfl
theorem wc_yX0_workOut : (.code yX0_workOut cX0_workOut 8 (some .int) : Cond) ∈ lwg := mem_lwg (i := 393) (by decide +kernel) rfl
theorem wm_RX0_43 : (.methodLink RX0 43 yX3_clear : Cond) ∈ lwg := mem_lwg (i := 394) (by decide +kernel) rfl
theorem wi_yX3_clear : (.instanceMethod yX3_clear : Cond) ∈ lwg := mem_lwg (i := 395) (by decide +kernel) rfl
theorem wv_yX3_clear : (.selects RX3 yX3_clear yX3_clear : Cond) ∈ lwg := mem_lwg (i := 396) (by decide +kernel) rfl
theorem wc_yX3_clear : (.code yX3_clear cX3_clear 1 none : Cond) ∈ lwg := mem_lwg (i := 397) (by decide +kernel) rfl
theorem wm_RX0_46 : (.methodLink RX0 46 yX3_get : Cond) ∈ lwg := mem_lwg (i := 398) (by decide +kernel) rfl
theorem wi_yX3_get : (.instanceMethod yX3_get : Cond) ∈ lwg := mem_lwg (i := 399) (by decide +kernel) rfl
theorem wv_yX3_get : (.selects RX3 yX3_get yX3_get : Cond) ∈ lwg := mem_lwg (i := 400) (by decide +kernel) rfl
theorem wc_yX3_get : (.code yX3_get cX3_get 2 (some .int) : Cond) ∈ lwg := mem_lwg (i := 401) (by decide +kernel) rfl
theorem wm_RX0_50 : (.methodLink RX0 50 yX3_append : Cond) ∈ lwg := mem_lwg (i := 402) (by decide +kernel) rfl
theorem wi_yX3_append : (.instanceMethod yX3_append : Cond) ∈ lwg := mem_lwg (i := 403) (by decide +kernel) rfl
theorem wv_yX3_append : (.selects RX3 yX3_append yX3_append : Cond) ∈ lwg := mem_lwg (i := 404) (by decide +kernel) rfl
theorem wc_yX3_append : (.code yX3_append cX3_append 2 (some .boolean) : Cond) ∈ lwg := mem_lwg (i := 405) (by decide +kernel) rfl
theorem wm_RX0_54 : (.methodLink RX0 54 yX3_takeLast : Cond) ∈ lwg := mem_lwg (i := 406) (by decide +kernel) rfl
theorem wi_yX3_takeLast : (.instanceMethod yX3_takeLast : Cond) ∈ lwg := mem_lwg (i := 407) (by decide +kernel) rfl
theorem wv_yX3_takeLast : (.selects RX3 yX3_takeLast yX3_takeLast : Cond) ∈ lwg := mem_lwg (i := 408) (by decide +kernel) rfl
theorem wc_yX3_takeLast : (.code yX3_takeLast cX3_takeLast 1 (some .int) : Cond) ∈ lwg := mem_lwg (i := 409) (by decide +kernel) rfl
theorem wm_RX0_58 : (.methodLink RX0 58 yX0_join : Cond) ∈ lwg := mem_lwg (i := 410) (by decide +kernel) rfl
theorem wt_yX0_join : (.static yX0_join : Cond) ∈ lwg := mem_lwg (i := 411) (by decide +kernel) rfl
theorem wc_yX0_join : (.code yX0_join cX0_join 3 (some .int) : Cond) ∈ lwg := mem_lwg (i := 412) (by decide +kernel) rfl
theorem wm_RX0_34 : (.methodLink RX0 34 yJ9_min_7cf53 : Cond) ∈ lwg := mem_lwg (i := 413) (by decide +kernel) rfl
theorem wt_yJ9_min_7cf53 : (.static yJ9_min_7cf53 : Cond) ∈ lwg := mem_lwg (i := 414) (by decide +kernel) rfl
theorem wc_yJ9_min_7cf53 : (.code yJ9_min_7cf53 cJ9_min_7cf53 2 (some .int) : Cond) ∈ lwg := mem_lwg (i := 415) (by decide +kernel) rfl
theorem wm_RX0_40 : (.methodLink RX0 40 yJ9_max_7cf53 : Cond) ∈ lwg := mem_lwg (i := 416) (by decide +kernel) rfl
theorem wm_R_law_30 : (.methodLink R_law 30 yX9_send : Cond) ∈ lwg := mem_lwg (i := 417) (by decide +kernel) rfl
theorem wi_yX9_send : (.instanceMethod yX9_send : Cond) ∈ lwg := mem_lwg (i := 418) (by decide +kernel) rfl
theorem wv_yX9_send : (.selects RX9 yX9_send yX9_send : Cond) ∈ lwg := mem_lwg (i := 419) (by decide +kernel) rfl
theorem wc_yX9_send : (.code yX9_send cX9_send 6 (some .int) : Cond) ∈ lwg := mem_lwg (i := 420) (by decide +kernel) rfl
theorem wm_R_law_35 : (.methodLink R_law 35 yX9_sheep : Cond) ∈ lwg := mem_lwg (i := 421) (by decide +kernel) rfl
theorem wi_yX9_sheep : (.instanceMethod yX9_sheep : Cond) ∈ lwg := mem_lwg (i := 422) (by decide +kernel) rfl
theorem wv_yX9_sheep : (.selects RX9 yX9_sheep yX9_sheep : Cond) ∈ lwg := mem_lwg (i := 423) (by decide +kernel) rfl
theorem wc_yX9_sheep : (.code yX9_sheep cX9_sheep 7 (some .int) : Cond) ∈ lwg := mem_lwg (i := 424) (by decide +kernel) rfl
theorem wm_RX9_97 : (.methodLink RX9 97 yX9_isKindWithM : Cond) ∈ lwg := mem_lwg (i := 425) (by decide +kernel) rfl
theorem wt_yX9_isKindWithM : (.static yX9_isKindWithM : Cond) ∈ lwg := mem_lwg (i := 426) (by decide +kernel) rfl
theorem wc_yX9_isKindWithM : (.code yX9_isKindWithM cX9_isKindWithM 1 (some .boolean) : Cond) ∈ lwg := mem_lwg (i := 427) (by decide +kernel) rfl
theorem wm_RX9_100 : (.methodLink RX9 100 yX9_isMark : Cond) ∈ lwg := mem_lwg (i := 428) (by decide +kernel) rfl
theorem wi_yX9_isMark : (.instanceMethod yX9_isMark : Cond) ∈ lwg := mem_lwg (i := 430) (by decide +kernel) rfl
theorem wc_yX9_isMark : (.code yX9_isMark cX9_isMark 2 (some .boolean) : Cond) ∈ lwg := mem_lwg (i := 431) (by decide +kernel) rfl
theorem wm_R_law_40 : (.methodLink R_law 40 yX9_ofSheep : Cond) ∈ lwg := mem_lwg (i := 432) (by decide +kernel) rfl
theorem wi_yX9_ofSheep : (.instanceMethod yX9_ofSheep : Cond) ∈ lwg := mem_lwg (i := 433) (by decide +kernel) rfl
theorem wv_yX9_ofSheep : (.selects RX9 yX9_ofSheep yX9_ofSheep : Cond) ∈ lwg := mem_lwg (i := 434) (by decide +kernel) rfl
theorem wc_yX9_ofSheep : (.code yX9_ofSheep cX9_ofSheep 4 (some .int) : Cond) ∈ lwg := mem_lwg (i := 435) (by decide +kernel) rfl
theorem wm_RX9_131 : (.methodLink RX9 131 yX9_isSheep : Cond) ∈ lwg := mem_lwg (i := 436) (by decide +kernel) rfl
theorem wi_yX9_isSheep : (.instanceMethod yX9_isSheep : Cond) ∈ lwg := mem_lwg (i := 438) (by decide +kernel) rfl
theorem wc_yX9_isSheep : (.code yX9_isSheep cX9_isSheep 2 (some .boolean) : Cond) ∈ lwg := mem_lwg (i := 439) (by decide +kernel) rfl
theorem wm_RX9_137 : (.methodLink RX9 137 yX5_heard : Cond) ∈ lwg := mem_lwg (i := 440) (by decide +kernel) rfl
theorem wi_yX5_heard : (.instanceMethod yX5_heard : Cond) ∈ lwg := mem_lwg (i := 441) (by decide +kernel) rfl
theorem wv_yX5_heard : (.selects RX5 yX5_heard yX5_heard : Cond) ∈ lwg := mem_lwg (i := 442) (by decide +kernel) rfl
theorem wc_yX5_heard : (.code yX5_heard cX5_heard 2 (some .int) : Cond) ∈ lwg := mem_lwg (i := 443) (by decide +kernel) rfl
theorem wm_RX5_31 : (.methodLink RX5 31 yX5_heardAsLamb : Cond) ∈ lwg := mem_lwg (i := 444) (by decide +kernel) rfl
theorem wi_yX5_heardAsLamb : (.instanceMethod yX5_heardAsLamb : Cond) ∈ lwg := mem_lwg (i := 446) (by decide +kernel) rfl
theorem wc_yX5_heardAsLamb : (.code yX5_heardAsLamb cX5_heardAsLamb 1 (some .int) : Cond) ∈ lwg := mem_lwg (i := 447) (by decide +kernel) rfl
theorem wm_RX5_41 : (.methodLink RX5 41 yJ9_max_7cf53 : Cond) ∈ lwg := mem_lwg (i := 448) (by decide +kernel) rfl
theorem wm_RX5_35 : (.methodLink RX5 35 yJ6_bitCount_0f7a4 : Cond) ∈ lwg := mem_lwg (i := 449) (by decide +kernel) rfl
theorem wt_yJ6_bitCount_0f7a4 : (.static yJ6_bitCount_0f7a4 : Cond) ∈ lwg := mem_lwg (i := 450) (by decide +kernel) rfl
theorem wc_yJ6_bitCount_0f7a4 : (.code yJ6_bitCount_0f7a4 cJ6_bitCount_0f7a4 1 (some .int) : Cond) ∈ lwg := mem_lwg (i := 451) (by decide +kernel) rfl
theorem wk_RJ6_265 : (.constant RJ6 265 (1431655765) : Cond) ∈ lwg := mem_lwg (i := 452) (by decide +kernel) rfl
theorem wk_RJ6_266 : (.constant RJ6 266 (858993459) : Cond) ∈ lwg := mem_lwg (i := 453) (by decide +kernel) rfl
theorem wk_RJ6_267 : (.constant RJ6 267 (252645135) : Cond) ∈ lwg := mem_lwg (i := 454) (by decide +kernel) rfl
theorem wm_RX9_140 : (.methodLink RX9 140 yX5_cold : Cond) ∈ lwg := mem_lwg (i := 455) (by decide +kernel) rfl
theorem wi_yX5_cold : (.instanceMethod yX5_cold : Cond) ∈ lwg := mem_lwg (i := 456) (by decide +kernel) rfl
theorem wv_yX5_cold : (.selects RX5 yX5_cold yX5_cold : Cond) ∈ lwg := mem_lwg (i := 457) (by decide +kernel) rfl
theorem wc_yX5_cold : (.code yX5_cold cX5_cold 2 (some .int) : Cond) ∈ lwg := mem_lwg (i := 458) (by decide +kernel) rfl
theorem wm_R_law_44 : (.methodLink R_law 44 yX9_change : Cond) ∈ lwg := mem_lwg (i := 459) (by decide +kernel) rfl
theorem wi_yX9_change : (.instanceMethod yX9_change : Cond) ∈ lwg := mem_lwg (i := 460) (by decide +kernel) rfl
theorem wv_yX9_change : (.selects RX9 yX9_change yX9_change : Cond) ∈ lwg := mem_lwg (i := 461) (by decide +kernel) rfl
theorem wc_yX9_change : (.code yX9_change cX9_change 6 (some .int) : Cond) ∈ lwg := mem_lwg (i := 462) (by decide +kernel) rfl
theorem wm_RX9_143 : (.methodLink RX9 143 yX9_isChange : Cond) ∈ lwg := mem_lwg (i := 463) (by decide +kernel) rfl
theorem wi_yX9_isChange : (.instanceMethod yX9_isChange : Cond) ∈ lwg := mem_lwg (i := 465) (by decide +kernel) rfl
theorem wc_yX9_isChange : (.code yX9_isChange cX9_isChange 3 (some .boolean) : Cond) ∈ lwg := mem_lwg (i := 466) (by decide +kernel) rfl
theorem wm_R_law_48 : (.methodLink R_law 48 yX9_become : Cond) ∈ lwg := mem_lwg (i := 467) (by decide +kernel) rfl
theorem wi_yX9_become : (.instanceMethod yX9_become : Cond) ∈ lwg := mem_lwg (i := 468) (by decide +kernel) rfl
theorem wv_yX9_become : (.selects RX9 yX9_become yX9_become : Cond) ∈ lwg := mem_lwg (i := 469) (by decide +kernel) rfl
theorem wc_yX9_become : (.code yX9_become cX9_become 5 (some .int) : Cond) ∈ lwg := mem_lwg (i := 470) (by decide +kernel) rfl
theorem wm_R_law_52 : (.methodLink R_law 52 yX9_as : Cond) ∈ lwg := mem_lwg (i := 471) (by decide +kernel) rfl
theorem wi_yX9_as : (.instanceMethod yX9_as : Cond) ∈ lwg := mem_lwg (i := 472) (by decide +kernel) rfl
theorem wv_yX9_as : (.selects RX9 yX9_as yX9_as : Cond) ∈ lwg := mem_lwg (i := 473) (by decide +kernel) rfl
theorem wc_yX9_as : (.code yX9_as cX9_as 4 (some .int) : Cond) ∈ lwg := mem_lwg (i := 474) (by decide +kernel) rfl
theorem wm_RX9_146 : (.methodLink RX9 146 yX9_isOfKind : Cond) ∈ lwg := mem_lwg (i := 475) (by decide +kernel) rfl
theorem wt_yX9_isOfKind : (.static yX9_isOfKind : Cond) ∈ lwg := mem_lwg (i := 476) (by decide +kernel) rfl
theorem wc_yX9_isOfKind : (.code yX9_isOfKind cX9_isOfKind 4 (some .boolean) : Cond) ∈ lwg := mem_lwg (i := 477) (by decide +kernel) rfl
theorem wf_RX9_298 : (.fieldLink RX9 298 "RaddleMarks" "KIND_ABOVE" "[I" : Cond) ∈ lwg := mem_lwg (i := 478) (by decide +kernel) rfl
theorem wm_R_law_58 : (.methodLink R_law 58 yX9_feed : Cond) ∈ lwg := mem_lwg (i := 480) (by decide +kernel) rfl
theorem wi_yX9_feed : (.instanceMethod yX9_feed : Cond) ∈ lwg := mem_lwg (i := 481) (by decide +kernel) rfl
theorem wv_yX9_feed : (.selects RX9 yX9_feed yX9_feed : Cond) ∈ lwg := mem_lwg (i := 482) (by decide +kernel) rfl
theorem wc_yX9_feed : (.code yX9_feed cX9_feed 5 (some .int) : Cond) ∈ lwg := mem_lwg (i := 483) (by decide +kernel) rfl
theorem wm_RX9_158 : (.methodLink RX9 158 yX3_append : Cond) ∈ lwg := mem_lwg (i := 484) (by decide +kernel) rfl
theorem wm_R_law_63 : (.methodLink R_law 63 yX9_text : Cond) ∈ lwg := mem_lwg (i := 485) (by decide +kernel) rfl
theorem wi_yX9_text : (.instanceMethod yX9_text : Cond) ∈ lwg := mem_lwg (i := 486) (by decide +kernel) rfl
theorem wv_yX9_text : (.selects RX9 yX9_text yX9_text : Cond) ∈ lwg := mem_lwg (i := 487) (by decide +kernel) rfl
theorem wc_yX9_text : (.code yX9_text cX9_text 3 (some .int) : Cond) ∈ lwg := mem_lwg (i := 488) (by decide +kernel) rfl
theorem wm_RX9_161 : (.methodLink RX9 161 yX2_read : Cond) ∈ lwg := mem_lwg (i := 489) (by decide +kernel) rfl
theorem wi_yX2_read : (.instanceMethod yX2_read : Cond) ∈ lwg := mem_lwg (i := 490) (by decide +kernel) rfl
theorem wv_yX2_read : (.selects RX2 yX2_read yX2_read : Cond) ∈ lwg := mem_lwg (i := 491) (by decide +kernel) rfl
theorem wc_yX2_read : (.code yX2_read cX2_read 3 (some .boolean) : Cond) ∈ lwg := mem_lwg (i := 492) (by decide +kernel) rfl
theorem wm_RX2_23 : (.methodLink RX2 23 yX3_copyFrom : Cond) ∈ lwg := mem_lwg (i := 493) (by decide +kernel) rfl
theorem wi_yX3_copyFrom : (.instanceMethod yX3_copyFrom : Cond) ∈ lwg := mem_lwg (i := 494) (by decide +kernel) rfl
theorem wv_yX3_copyFrom : (.selects RX3 yX3_copyFrom yX3_copyFrom : Cond) ∈ lwg := mem_lwg (i := 495) (by decide +kernel) rfl
theorem wc_yX3_copyFrom : (.code yX3_copyFrom cX3_copyFrom 2 none : Cond) ∈ lwg := mem_lwg (i := 496) (by decide +kernel) rfl
theorem wm_RX3_37 : (.methodLink RX3 37 yJ9_min_7cf53 : Cond) ∈ lwg := mem_lwg (i := 497) (by decide +kernel) rfl
theorem wm_RX2_34 : (.methodLink RX2 34 yX3_clear : Cond) ∈ lwg := mem_lwg (i := 501) (by decide +kernel) rfl
theorem wm_RX2_37 : (.methodLink RX2 37 yX2_readLevel : Cond) ∈ lwg := mem_lwg (i := 502) (by decide +kernel) rfl
theorem wi_yX2_readLevel : (.instanceMethod yX2_readLevel : Cond) ∈ lwg := mem_lwg (i := 504) (by decide +kernel) rfl
theorem wc_yX2_readLevel : (.code yX2_readLevel cX2_readLevel 6 (some .boolean) : Cond) ∈ lwg := mem_lwg (i := 505) (by decide +kernel) rfl
theorem wm_RX2_44 : (.methodLink RX2 44 yX2_readFactor : Cond) ∈ lwg := mem_lwg (i := 506) (by decide +kernel) rfl
theorem wi_yX2_readFactor : (.instanceMethod yX2_readFactor : Cond) ∈ lwg := mem_lwg (i := 508) (by decide +kernel) rfl
theorem wc_yX2_readFactor : (.code yX2_readFactor cX2_readFactor 4 (some .boolean) : Cond) ∈ lwg := mem_lwg (i := 509) (by decide +kernel) rfl
theorem wm_RX2_48 : (.methodLink RX2 48 yX2_next : Cond) ∈ lwg := mem_lwg (i := 510) (by decide +kernel) rfl
theorem wi_yX2_next : (.instanceMethod yX2_next : Cond) ∈ lwg := mem_lwg (i := 512) (by decide +kernel) rfl
theorem wc_yX2_next : (.code yX2_next cX2_next 1 (some .int) : Cond) ∈ lwg := mem_lwg (i := 513) (by decide +kernel) rfl
theorem wm_RX2_74 : (.methodLink RX2 74 yX3_holds : Cond) ∈ lwg := mem_lwg (i := 514) (by decide +kernel) rfl
theorem wi_yX3_holds : (.instanceMethod yX3_holds : Cond) ∈ lwg := mem_lwg (i := 515) (by decide +kernel) rfl
theorem wv_yX3_holds : (.selects RX3 yX3_holds yX3_holds : Cond) ∈ lwg := mem_lwg (i := 516) (by decide +kernel) rfl
theorem wc_yX3_holds : (.code yX3_holds cX3_holds 2 (some .boolean) : Cond) ∈ lwg := mem_lwg (i := 517) (by decide +kernel) rfl
theorem wm_RX2_77 : (.methodLink RX2 77 yX3_get : Cond) ∈ lwg := mem_lwg (i := 518) (by decide +kernel) rfl
theorem wm_RX2_59 : (.methodLink RX2 59 yX2_isDigit : Cond) ∈ lwg := mem_lwg (i := 519) (by decide +kernel) rfl
theorem wt_yX2_isDigit : (.static yX2_isDigit : Cond) ∈ lwg := mem_lwg (i := 520) (by decide +kernel) rfl
theorem wc_yX2_isDigit : (.code yX2_isDigit cX2_isDigit 1 (some .boolean) : Cond) ∈ lwg := mem_lwg (i := 521) (by decide +kernel) rfl
theorem wm_RX2_62 : (.methodLink RX2 62 yX2_readNumber : Cond) ∈ lwg := mem_lwg (i := 522) (by decide +kernel) rfl
theorem wi_yX2_readNumber : (.instanceMethod yX2_readNumber : Cond) ∈ lwg := mem_lwg (i := 524) (by decide +kernel) rfl
theorem wc_yX2_readNumber : (.code yX2_readNumber cX2_readNumber 3 none : Cond) ∈ lwg := mem_lwg (i := 525) (by decide +kernel) rfl
theorem wm_RX2_56 : (.methodLink RX2 56 yX3_append : Cond) ∈ lwg := mem_lwg (i := 526) (by decide +kernel) rfl
theorem wm_RX2_65 : (.methodLink RX2 65 yX2_nameOf : Cond) ∈ lwg := mem_lwg (i := 527) (by decide +kernel) rfl
theorem wi_yX2_nameOf : (.instanceMethod yX2_nameOf : Cond) ∈ lwg := mem_lwg (i := 529) (by decide +kernel) rfl
theorem wc_yX2_nameOf : (.code yX2_nameOf cX2_nameOf 4 (some .int) : Cond) ∈ lwg := mem_lwg (i := 530) (by decide +kernel) rfl
theorem wm_RX2_68 : (.methodLink RX2 68 yX2_readDenied : Cond) ∈ lwg := mem_lwg (i := 533) (by decide +kernel) rfl
theorem wi_yX2_readDenied : (.instanceMethod yX2_readDenied : Cond) ∈ lwg := mem_lwg (i := 535) (by decide +kernel) rfl
theorem wc_yX2_readDenied : (.code yX2_readDenied cX2_readDenied 2 (some .boolean) : Cond) ∈ lwg := mem_lwg (i := 536) (by decide +kernel) rfl
theorem wm_RX2_71 : (.methodLink RX2 71 yX2_readEnclosed : Cond) ∈ lwg := mem_lwg (i := 537) (by decide +kernel) rfl
theorem wi_yX2_readEnclosed : (.instanceMethod yX2_readEnclosed : Cond) ∈ lwg := mem_lwg (i := 539) (by decide +kernel) rfl
theorem wc_yX2_readEnclosed : (.code yX2_readEnclosed cX2_readEnclosed 2 (some .boolean) : Cond) ∈ lwg := mem_lwg (i := 540) (by decide +kernel) rfl
theorem wm_RX2_52 : (.methodLink RX2 52 yX2_levelOf : Cond) ∈ lwg := mem_lwg (i := 541) (by decide +kernel) rfl
theorem wt_yX2_levelOf : (.static yX2_levelOf : Cond) ∈ lwg := mem_lwg (i := 542) (by decide +kernel) rfl
theorem wc_yX2_levelOf : (.code yX2_levelOf cX2_levelOf 1 (some .int) : Cond) ∈ lwg := mem_lwg (i := 543) (by decide +kernel) rfl
theorem wm_RX9_165 : (.methodLink RX9 165 yX3_clear : Cond) ∈ lwg := mem_lwg (i := 544) (by decide +kernel) rfl
theorem wm_RX9_171 : (.methodLink RX9 171 yX1_lawOf : Cond) ∈ lwg := mem_lwg (i := 545) (by decide +kernel) rfl
theorem wi_yX1_lawOf : (.instanceMethod yX1_lawOf : Cond) ∈ lwg := mem_lwg (i := 546) (by decide +kernel) rfl
theorem wv_yX1_lawOf : (.selects RX1 yX1_lawOf yX1_lawOf : Cond) ∈ lwg := mem_lwg (i := 547) (by decide +kernel) rfl
theorem wc_yX1_lawOf : (.code yX1_lawOf cX1_lawOf 2 (some (.object "RaddleMarks$Law")) : Cond) ∈ lwg := mem_lwg (i := 548) (by decide +kernel) rfl
theorem wm_RX9_181 : (.methodLink RX9 181 yX3_copyFrom : Cond) ∈ lwg := mem_lwg (i := 549) (by decide +kernel) rfl
theorem wm_R_law_68 : (.methodLink R_law 68 yX9_law : Cond) ∈ lwg := mem_lwg (i := 550) (by decide +kernel) rfl
theorem wi_yX9_law : (.instanceMethod yX9_law : Cond) ∈ lwg := mem_lwg (i := 551) (by decide +kernel) rfl
theorem wv_yX9_law : (.selects RX9 yX9_law yX9_law : Cond) ∈ lwg := mem_lwg (i := 552) (by decide +kernel) rfl
theorem wc_yX9_law : (.code yX9_law cX9_law 5 (some .int) : Cond) ∈ lwg := mem_lwg (i := 553) (by decide +kernel) rfl
theorem wm_RX9_185 : (.methodLink RX9 185 yX0_gives : Cond) ∈ lwg := mem_lwg (i := 554) (by decide +kernel) rfl
theorem wm_R_law_72 : (.methodLink R_law 72 yX9_hours : Cond) ∈ lwg := mem_lwg (i := 555) (by decide +kernel) rfl
theorem wi_yX9_hours : (.instanceMethod yX9_hours : Cond) ∈ lwg := mem_lwg (i := 556) (by decide +kernel) rfl
theorem wv_yX9_hours : (.selects RX9 yX9_hours yX9_hours : Cond) ∈ lwg := mem_lwg (i := 557) (by decide +kernel) rfl
theorem wc_yX9_hours : (.code yX9_hours cX9_hours 2 (some .int) : Cond) ∈ lwg := mem_lwg (i := 558) (by decide +kernel) rfl
theorem wm_RX9_189 : (.methodLink RX9 189 yX1_passHours : Cond) ∈ lwg := mem_lwg (i := 559) (by decide +kernel) rfl
theorem wi_yX1_passHours : (.instanceMethod yX1_passHours : Cond) ∈ lwg := mem_lwg (i := 560) (by decide +kernel) rfl
theorem wv_yX1_passHours : (.selects RX1 yX1_passHours yX1_passHours : Cond) ∈ lwg := mem_lwg (i := 561) (by decide +kernel) rfl
theorem wc_yX1_passHours : (.code yX1_passHours cX1_passHours 3 none : Cond) ∈ lwg := mem_lwg (i := 562) (by decide +kernel) rfl
theorem wm_RX1_124 : (.methodLink RX1 124 yX3_clear : Cond) ∈ lwg := mem_lwg (i := 563) (by decide +kernel) rfl
theorem wm_RX1_127 : (.methodLink RX1 127 yX1_passOneHour : Cond) ∈ lwg := mem_lwg (i := 564) (by decide +kernel) rfl
theorem wi_yX1_passOneHour : (.instanceMethod yX1_passOneHour : Cond) ∈ lwg := mem_lwg (i := 566) (by decide +kernel) rfl
theorem wc_yX1_passOneHour : (.code yX1_passOneHour cX1_passOneHour 2 none : Cond) ∈ lwg := mem_lwg (i := 567) (by decide +kernel) rfl
theorem wm_RX1_130 : (.methodLink RX1 130 yX1_dropSnow : Cond) ∈ lwg := mem_lwg (i := 568) (by decide +kernel) rfl
theorem wi_yX1_dropSnow : (.instanceMethod yX1_dropSnow : Cond) ∈ lwg := mem_lwg (i := 569) (by decide +kernel) rfl
theorem wv_yX1_dropSnow : (.selects RX1 yX1_dropSnow yX1_dropSnow : Cond) ∈ lwg := mem_lwg (i := 570) (by decide +kernel) rfl
theorem wc_yX1_dropSnow : (.code yX1_dropSnow cX1_dropSnow 3 none : Cond) ∈ lwg := mem_lwg (i := 571) (by decide +kernel) rfl
theorem wm_RX1_59 : (.methodLink RX1 59 yJ9_min_7cf53 : Cond) ∈ lwg := mem_lwg (i := 573) (by decide +kernel) rfl
theorem wm_RX1_81 : (.methodLink RX1 81 yJ9_max_7cf53 : Cond) ∈ lwg := mem_lwg (i := 574) (by decide +kernel) rfl
theorem wm_RX1_134 : (.methodLink RX1 134 yX1_outFor : Cond) ∈ lwg := mem_lwg (i := 575) (by decide +kernel) rfl
theorem wm_RX1_137 : (.methodLink RX1 137 yX1_seek : Cond) ∈ lwg := mem_lwg (i := 576) (by decide +kernel) rfl
theorem wi_yX1_seek : (.instanceMethod yX1_seek : Cond) ∈ lwg := mem_lwg (i := 578) (by decide +kernel) rfl
theorem wc_yX1_seek : (.code yX1_seek cX1_seek 4 none : Cond) ∈ lwg := mem_lwg (i := 579) (by decide +kernel) rfl
theorem wm_RX1_147 : (.methodLink RX1 147 yX1_snowAt : Cond) ∈ lwg := mem_lwg (i := 580) (by decide +kernel) rfl
theorem wi_yX1_snowAt : (.instanceMethod yX1_snowAt : Cond) ∈ lwg := mem_lwg (i := 581) (by decide +kernel) rfl
theorem wv_yX1_snowAt : (.selects RX1 yX1_snowAt yX1_snowAt : Cond) ∈ lwg := mem_lwg (i := 582) (by decide +kernel) rfl
theorem wc_yX1_snowAt : (.code yX1_snowAt cX1_snowAt 2 (some .int) : Cond) ∈ lwg := mem_lwg (i := 583) (by decide +kernel) rfl
theorem wm_RX1_150 : (.methodLink RX1 150 yX5_heard : Cond) ∈ lwg := mem_lwg (i := 584) (by decide +kernel) rfl
theorem wm_RX1_153 : (.methodLink RX1 153 yX3_append : Cond) ∈ lwg := mem_lwg (i := 585) (by decide +kernel) rfl
theorem wm_RX1_141 : (.methodLink RX1 141 yX1_freeze : Cond) ∈ lwg := mem_lwg (i := 586) (by decide +kernel) rfl
theorem wi_yX1_freeze : (.instanceMethod yX1_freeze : Cond) ∈ lwg := mem_lwg (i := 588) (by decide +kernel) rfl
theorem wc_yX1_freeze : (.code yX1_freeze cX1_freeze 2 none : Cond) ∈ lwg := mem_lwg (i := 589) (by decide +kernel) rfl
theorem wm_RX1_156 : (.methodLink RX1 156 yX5_cold : Cond) ∈ lwg := mem_lwg (i := 590) (by decide +kernel) rfl
theorem wm_RX9_193 : (.methodLink RX9 193 yX1_foundSet : Cond) ∈ lwg := mem_lwg (i := 591) (by decide +kernel) rfl
theorem wi_yX1_foundSet : (.instanceMethod yX1_foundSet : Cond) ∈ lwg := mem_lwg (i := 592) (by decide +kernel) rfl
theorem wv_yX1_foundSet : (.selects RX1 yX1_foundSet yX1_foundSet : Cond) ∈ lwg := mem_lwg (i := 593) (by decide +kernel) rfl
theorem wc_yX1_foundSet : (.code yX1_foundSet cX1_foundSet 3 (some .int) : Cond) ∈ lwg := mem_lwg (i := 594) (by decide +kernel) rfl
theorem wm_R_law_76 : (.methodLink R_law 76 yX9_loose : Cond) ∈ lwg := mem_lwg (i := 595) (by decide +kernel) rfl
theorem wi_yX9_loose : (.instanceMethod yX9_loose : Cond) ∈ lwg := mem_lwg (i := 596) (by decide +kernel) rfl
theorem wv_yX9_loose : (.selects RX9 yX9_loose yX9_loose : Cond) ∈ lwg := mem_lwg (i := 597) (by decide +kernel) rfl
theorem wc_yX9_loose : (.code yX9_loose cX9_loose 3 (some .int) : Cond) ∈ lwg := mem_lwg (i := 598) (by decide +kernel) rfl
theorem wm_RX9_197 : (.methodLink RX9 197 yX8_drift : Cond) ∈ lwg := mem_lwg (i := 599) (by decide +kernel) rfl
theorem wi_yX8_drift : (.instanceMethod yX8_drift : Cond) ∈ lwg := mem_lwg (i := 600) (by decide +kernel) rfl
theorem wv_yX8_drift : (.selects RX8 yX8_drift yX8_drift : Cond) ∈ lwg := mem_lwg (i := 601) (by decide +kernel) rfl
theorem wc_yX8_drift : (.code yX8_drift cX8_drift 2 none : Cond) ∈ lwg := mem_lwg (i := 602) (by decide +kernel) rfl
theorem wk_RX8_34 : (.constant RX8 34 (1103515245) : Cond) ∈ lwg := mem_lwg (i := 603) (by decide +kernel) rfl
theorem wm_RX8_35 : (.methodLink RX8 35 yX1_dropSnow : Cond) ∈ lwg := mem_lwg (i := 604) (by decide +kernel) rfl
theorem wm_R_law_80 : (.methodLink R_law 80 yX9_then : Cond) ∈ lwg := mem_lwg (i := 605) (by decide +kernel) rfl
theorem wi_yX9_then : (.instanceMethod yX9_then : Cond) ∈ lwg := mem_lwg (i := 606) (by decide +kernel) rfl
theorem wv_yX9_then : (.selects RX9 yX9_then yX9_then : Cond) ∈ lwg := mem_lwg (i := 607) (by decide +kernel) rfl
theorem wc_yX9_then : (.code yX9_then cX9_then 5 (some .int) : Cond) ∈ lwg := mem_lwg (i := 608) (by decide +kernel) rfl
theorem wm_RX9_200 : (.methodLink RX9 200 yX9_thinkFromNow : Cond) ∈ lwg := mem_lwg (i := 609) (by decide +kernel) rfl
theorem wi_yX9_thinkFromNow : (.instanceMethod yX9_thinkFromNow : Cond) ∈ lwg := mem_lwg (i := 611) (by decide +kernel) rfl
theorem wc_yX9_thinkFromNow : (.code yX9_thinkFromNow cX9_thinkFromNow 1 none : Cond) ∈ lwg := mem_lwg (i := 612) (by decide +kernel) rfl
theorem wm_RX9_301 : (.methodLink RX9 301 yX1_copyFrom : Cond) ∈ lwg := mem_lwg (i := 613) (by decide +kernel) rfl
theorem wi_yX1_copyFrom : (.instanceMethod yX1_copyFrom : Cond) ∈ lwg := mem_lwg (i := 614) (by decide +kernel) rfl
theorem wv_yX1_copyFrom : (.selects RX1 yX1_copyFrom yX1_copyFrom : Cond) ∈ lwg := mem_lwg (i := 615) (by decide +kernel) rfl
theorem wc_yX1_copyFrom : (.code yX1_copyFrom cX1_copyFrom 3 none : Cond) ∈ lwg := mem_lwg (i := 616) (by decide +kernel) rfl
theorem wm_RX1_51 : (.methodLink RX1 51 yX3_copyFrom : Cond) ∈ lwg := mem_lwg (i := 617) (by decide +kernel) rfl
theorem wm_RX1_65 : (.methodLink RX1 65 yX4_copyFrom : Cond) ∈ lwg := mem_lwg (i := 618) (by decide +kernel) rfl
theorem wi_yX4_copyFrom : (.instanceMethod yX4_copyFrom : Cond) ∈ lwg := mem_lwg (i := 619) (by decide +kernel) rfl
theorem wv_yX4_copyFrom : (.selects RX4 yX4_copyFrom yX4_copyFrom : Cond) ∈ lwg := mem_lwg (i := 620) (by decide +kernel) rfl
theorem wc_yX4_copyFrom : (.code yX4_copyFrom cX4_copyFrom 2 none : Cond) ∈ lwg := mem_lwg (i := 621) (by decide +kernel) rfl
theorem wm_RX1_71 : (.methodLink RX1 71 yX5_copyFrom : Cond) ∈ lwg := mem_lwg (i := 622) (by decide +kernel) rfl
theorem wi_yX5_copyFrom : (.instanceMethod yX5_copyFrom : Cond) ∈ lwg := mem_lwg (i := 623) (by decide +kernel) rfl
theorem wv_yX5_copyFrom : (.selects RX5 yX5_copyFrom yX5_copyFrom : Cond) ∈ lwg := mem_lwg (i := 624) (by decide +kernel) rfl
theorem wc_yX5_copyFrom : (.code yX5_copyFrom cX5_copyFrom 2 none : Cond) ∈ lwg := mem_lwg (i := 625) (by decide +kernel) rfl
theorem wm_RX9_203 : (.methodLink RX9 203 yX1_snowAt : Cond) ∈ lwg := mem_lwg (i := 626) (by decide +kernel) rfl
theorem wm_R_law_84 : (.methodLink R_law 84 yX9_when : Cond) ∈ lwg := mem_lwg (i := 627) (by decide +kernel) rfl
theorem wi_yX9_when : (.instanceMethod yX9_when : Cond) ∈ lwg := mem_lwg (i := 628) (by decide +kernel) rfl
theorem wv_yX9_when : (.selects RX9 yX9_when yX9_when : Cond) ∈ lwg := mem_lwg (i := 629) (by decide +kernel) rfl
theorem wc_yX9_when : (.code yX9_when cX9_when 3 (some .int) : Cond) ∈ lwg := mem_lwg (i := 630) (by decide +kernel) rfl
theorem wm_RX9_206 : (.methodLink RX9 206 yX1_passHoursFor : Cond) ∈ lwg := mem_lwg (i := 631) (by decide +kernel) rfl
theorem wi_yX1_passHoursFor : (.instanceMethod yX1_passHoursFor : Cond) ∈ lwg := mem_lwg (i := 632) (by decide +kernel) rfl
theorem wv_yX1_passHoursFor : (.selects RX1 yX1_passHoursFor yX1_passHoursFor : Cond) ∈ lwg := mem_lwg (i := 633) (by decide +kernel) rfl
theorem wc_yX1_passHoursFor : (.code yX1_passHoursFor cX1_passHoursFor 4 (some .int) : Cond) ∈ lwg := mem_lwg (i := 634) (by decide +kernel) rfl
theorem wm_R_law_88 : (.methodLink R_law 88 yX9_saved : Cond) ∈ lwg := mem_lwg (i := 635) (by decide +kernel) rfl
theorem wi_yX9_saved : (.instanceMethod yX9_saved : Cond) ∈ lwg := mem_lwg (i := 636) (by decide +kernel) rfl
theorem wv_yX9_saved : (.selects RX9 yX9_saved yX9_saved : Cond) ∈ lwg := mem_lwg (i := 637) (by decide +kernel) rfl
theorem wc_yX9_saved : (.code yX9_saved cX9_saved 1 (some .int) : Cond) ∈ lwg := mem_lwg (i := 638) (by decide +kernel) rfl
theorem wm_R_law_93 : (.methodLink R_law 93 yX9_add : Cond) ∈ lwg := mem_lwg (i := 639) (by decide +kernel) rfl
theorem wi_yX9_add : (.instanceMethod yX9_add : Cond) ∈ lwg := mem_lwg (i := 640) (by decide +kernel) rfl
theorem wv_yX9_add : (.selects RX9 yX9_add yX9_add : Cond) ∈ lwg := mem_lwg (i := 641) (by decide +kernel) rfl
theorem wc_yX9_add : (.code yX9_add cX9_add 8 (some .int) : Cond) ∈ lwg := mem_lwg (i := 642) (by decide +kernel) rfl
theorem wm_RX9_210 : (.methodLink RX9 210 yJ6_bitCount_0f7a4 : Cond) ∈ lwg := mem_lwg (i := 643) (by decide +kernel) rfl
theorem wm_R_law_97 : (.methodLink R_law 97 yX9_start : Cond) ∈ lwg := mem_lwg (i := 644) (by decide +kernel) rfl
theorem wi_yX9_start : (.instanceMethod yX9_start : Cond) ∈ lwg := mem_lwg (i := 645) (by decide +kernel) rfl
theorem wv_yX9_start : (.selects RX9 yX9_start yX9_start : Cond) ∈ lwg := mem_lwg (i := 646) (by decide +kernel) rfl
theorem wc_yX9_start : (.code yX9_start cX9_start 8 (some .int) : Cond) ∈ lwg := mem_lwg (i := 647) (by decide +kernel) rfl
theorem wm_R_law_101 : (.methodLink R_law 101 yX9_missed : Cond) ∈ lwg := mem_lwg (i := 648) (by decide +kernel) rfl
theorem wi_yX9_missed : (.instanceMethod yX9_missed : Cond) ∈ lwg := mem_lwg (i := 649) (by decide +kernel) rfl
theorem wv_yX9_missed : (.selects RX9 yX9_missed yX9_missed : Cond) ∈ lwg := mem_lwg (i := 650) (by decide +kernel) rfl
theorem wc_yX9_missed : (.code yX9_missed cX9_missed 7 (some .int) : Cond) ∈ lwg := mem_lwg (i := 651) (by decide +kernel) rfl
theorem wm_RX9_215 : (.methodLink RX9 215 yX1_takeFromMarks : Cond) ∈ lwg := mem_lwg (i := 652) (by decide +kernel) rfl
theorem wi_yX1_takeFromMarks : (.instanceMethod yX1_takeFromMarks : Cond) ∈ lwg := mem_lwg (i := 653) (by decide +kernel) rfl
theorem wv_yX1_takeFromMarks : (.selects RX1 yX1_takeFromMarks yX1_takeFromMarks : Cond) ∈ lwg := mem_lwg (i := 654) (by decide +kernel) rfl
theorem wc_yX1_takeFromMarks : (.code yX1_takeFromMarks cX1_takeFromMarks 3 none : Cond) ∈ lwg := mem_lwg (i := 655) (by decide +kernel) rfl
theorem wm_R_law_105 : (.methodLink R_law 105 yX9_nobody : Cond) ∈ lwg := mem_lwg (i := 656) (by decide +kernel) rfl
theorem wi_yX9_nobody : (.instanceMethod yX9_nobody : Cond) ∈ lwg := mem_lwg (i := 657) (by decide +kernel) rfl
theorem wv_yX9_nobody : (.selects RX9 yX9_nobody yX9_nobody : Cond) ∈ lwg := mem_lwg (i := 658) (by decide +kernel) rfl
theorem wc_yX9_nobody : (.code yX9_nobody cX9_nobody 4 (some .int) : Cond) ∈ lwg := mem_lwg (i := 659) (by decide +kernel) rfl
theorem wm_RX9_218 : (.methodLink RX9 218 yX1_soughtSet : Cond) ∈ lwg := mem_lwg (i := 660) (by decide +kernel) rfl
theorem wi_yX1_soughtSet : (.instanceMethod yX1_soughtSet : Cond) ∈ lwg := mem_lwg (i := 661) (by decide +kernel) rfl
theorem wv_yX1_soughtSet : (.selects RX1 yX1_soughtSet yX1_soughtSet : Cond) ∈ lwg := mem_lwg (i := 662) (by decide +kernel) rfl
theorem wc_yX1_soughtSet : (.code yX1_soughtSet cX1_soughtSet 3 (some .int) : Cond) ∈ lwg := mem_lwg (i := 663) (by decide +kernel) rfl
theorem wm_R_law_109 : (.methodLink R_law 109 yX9_lies : Cond) ∈ lwg := mem_lwg (i := 664) (by decide +kernel) rfl
theorem wi_yX9_lies : (.instanceMethod yX9_lies : Cond) ∈ lwg := mem_lwg (i := 665) (by decide +kernel) rfl
theorem wv_yX9_lies : (.selects RX9 yX9_lies yX9_lies : Cond) ∈ lwg := mem_lwg (i := 666) (by decide +kernel) rfl
theorem wc_yX9_lies : (.code yX9_lies cX9_lies 7 (some .int) : Cond) ∈ lwg := mem_lwg (i := 667) (by decide +kernel) rfl
theorem wm_RX9_221 : (.methodLink RX9 221 yX9_isSheet : Cond) ∈ lwg := mem_lwg (i := 668) (by decide +kernel) rfl
theorem wt_yX9_isSheet : (.static yX9_isSheet : Cond) ∈ lwg := mem_lwg (i := 669) (by decide +kernel) rfl
theorem wc_yX9_isSheet : (.code yX9_isSheet cX9_isSheet 1 (some .boolean) : Cond) ∈ lwg := mem_lwg (i := 670) (by decide +kernel) rfl
theorem wm_RX9_224 : (.methodLink RX9 224 yX6_isMissing : Cond) ∈ lwg := mem_lwg (i := 671) (by decide +kernel) rfl
theorem wi_yX6_isMissing : (.instanceMethod yX6_isMissing : Cond) ∈ lwg := mem_lwg (i := 672) (by decide +kernel) rfl
theorem wv_yX6_isMissing : (.selects RX6 yX6_isMissing yX6_isMissing : Cond) ∈ lwg := mem_lwg (i := 673) (by decide +kernel) rfl
theorem wc_yX6_isMissing : (.code yX6_isMissing cX6_isMissing 1 (some .boolean) : Cond) ∈ lwg := mem_lwg (i := 674) (by decide +kernel) rfl
theorem wm_RX9_231 : (.methodLink RX9 231 yX1_hasSnowAs : Cond) ∈ lwg := mem_lwg (i := 675) (by decide +kernel) rfl
theorem wi_yX1_hasSnowAs : (.instanceMethod yX1_hasSnowAs : Cond) ∈ lwg := mem_lwg (i := 676) (by decide +kernel) rfl
theorem wv_yX1_hasSnowAs : (.selects RX1 yX1_hasSnowAs yX1_hasSnowAs : Cond) ∈ lwg := mem_lwg (i := 677) (by decide +kernel) rfl
theorem wc_yX1_hasSnowAs : (.code yX1_hasSnowAs cX1_hasSnowAs 3 (some .boolean) : Cond) ∈ lwg := mem_lwg (i := 678) (by decide +kernel) rfl
theorem wm_RX1_84 : (.methodLink RX1 84 yX3_holds : Cond) ∈ lwg := mem_lwg (i := 679) (by decide +kernel) rfl
theorem wm_RX1_87 : (.methodLink RX1 87 yX3_get : Cond) ∈ lwg := mem_lwg (i := 680) (by decide +kernel) rfl
theorem wm_R_law_113 : (.methodLink R_law 113 yX9_order : Cond) ∈ lwg := mem_lwg (i := 681) (by decide +kernel) rfl
theorem wi_yX9_order : (.instanceMethod yX9_order : Cond) ∈ lwg := mem_lwg (i := 682) (by decide +kernel) rfl
theorem wv_yX9_order : (.selects RX9 yX9_order yX9_order : Cond) ∈ lwg := mem_lwg (i := 683) (by decide +kernel) rfl
theorem wc_yX9_order : (.code yX9_order cX9_order 5 (some .int) : Cond) ∈ lwg := mem_lwg (i := 684) (by decide +kernel) rfl
theorem wm_RX9_238 : (.methodLink RX9 238 yX3_get : Cond) ∈ lwg := mem_lwg (i := 685) (by decide +kernel) rfl
theorem wm_R_law_117 : (.methodLink R_law 117 yX9_strong : Cond) ∈ lwg := mem_lwg (i := 686) (by decide +kernel) rfl
theorem wi_yX9_strong : (.instanceMethod yX9_strong : Cond) ∈ lwg := mem_lwg (i := 687) (by decide +kernel) rfl
theorem wv_yX9_strong : (.selects RX9 yX9_strong yX9_strong : Cond) ∈ lwg := mem_lwg (i := 688) (by decide +kernel) rfl
theorem wc_yX9_strong : (.code yX9_strong cX9_strong 5 (some .int) : Cond) ∈ lwg := mem_lwg (i := 689) (by decide +kernel) rfl
theorem wm_R_law_121 : (.methodLink R_law 121 yX9_odds : Cond) ∈ lwg := mem_lwg (i := 690) (by decide +kernel) rfl
theorem wi_yX9_odds : (.instanceMethod yX9_odds : Cond) ∈ lwg := mem_lwg (i := 691) (by decide +kernel) rfl
theorem wv_yX9_odds : (.selects RX9 yX9_odds yX9_odds : Cond) ∈ lwg := mem_lwg (i := 692) (by decide +kernel) rfl
theorem wc_yX9_odds : (.code yX9_odds cX9_odds 6 (some .int) : Cond) ∈ lwg := mem_lwg (i := 693) (by decide +kernel) rfl
theorem wm_RX9_241 : (.methodLink RX9 241 yX9_partOfFraction : Cond) ∈ lwg := mem_lwg (i := 694) (by decide +kernel) rfl
theorem wt_yX9_partOfFraction : (.static yX9_partOfFraction : Cond) ∈ lwg := mem_lwg (i := 695) (by decide +kernel) rfl
theorem wc_yX9_partOfFraction : (.code yX9_partOfFraction cX9_partOfFraction 4 (some .int) : Cond) ∈ lwg := mem_lwg (i := 696) (by decide +kernel) rfl
theorem wm_R_law_125 : (.methodLink R_law 125 yX9_seed : Cond) ∈ lwg := mem_lwg (i := 697) (by decide +kernel) rfl
theorem wi_yX9_seed : (.instanceMethod yX9_seed : Cond) ∈ lwg := mem_lwg (i := 698) (by decide +kernel) rfl
theorem wv_yX9_seed : (.selects RX9 yX9_seed yX9_seed : Cond) ∈ lwg := mem_lwg (i := 699) (by decide +kernel) rfl
theorem wc_yX9_seed : (.code yX9_seed cX9_seed 3 (some .int) : Cond) ∈ lwg := mem_lwg (i := 700) (by decide +kernel) rfl
theorem wm_R_law_129 : (.methodLink R_law 129 yX9_voice : Cond) ∈ lwg := mem_lwg (i := 701) (by decide +kernel) rfl
theorem wi_yX9_voice : (.instanceMethod yX9_voice : Cond) ∈ lwg := mem_lwg (i := 702) (by decide +kernel) rfl
theorem wv_yX9_voice : (.selects RX9 yX9_voice yX9_voice : Cond) ∈ lwg := mem_lwg (i := 703) (by decide +kernel) rfl
theorem wc_yX9_voice : (.code yX9_voice cX9_voice 5 (some .int) : Cond) ∈ lwg := mem_lwg (i := 704) (by decide +kernel) rfl
theorem wm_RX9_247 : (.methodLink RX9 247 yX7_raise : Cond) ∈ lwg := mem_lwg (i := 705) (by decide +kernel) rfl
theorem wi_yX7_raise : (.instanceMethod yX7_raise : Cond) ∈ lwg := mem_lwg (i := 706) (by decide +kernel) rfl
theorem wv_yX7_raise : (.selects RX7 yX7_raise yX7_raise : Cond) ∈ lwg := mem_lwg (i := 707) (by decide +kernel) rfl
theorem wc_yX7_raise : (.code yX7_raise cX7_raise 6 (some .int) : Cond) ∈ lwg := mem_lwg (i := 708) (by decide +kernel) rfl
theorem wm_RX7_30 : (.methodLink RX7 30 yX3_clear : Cond) ∈ lwg := mem_lwg (i := 709) (by decide +kernel) rfl
theorem wm_RX7_33 : (.methodLink RX7 33 yX7_speak : Cond) ∈ lwg := mem_lwg (i := 710) (by decide +kernel) rfl
theorem wi_yX7_speak : (.instanceMethod yX7_speak : Cond) ∈ lwg := mem_lwg (i := 712) (by decide +kernel) rfl
theorem wc_yX7_speak : (.code yX7_speak cX7_speak 6 (some .int) : Cond) ∈ lwg := mem_lwg (i := 713) (by decide +kernel) rfl
theorem wm_RX7_45 : (.methodLink RX7 45 yX7_bodyFrom : Cond) ∈ lwg := mem_lwg (i := 714) (by decide +kernel) rfl
theorem wt_yX7_bodyFrom : (.static yX7_bodyFrom : Cond) ∈ lwg := mem_lwg (i := 715) (by decide +kernel) rfl
theorem wc_yX7_bodyFrom : (.code yX7_bodyFrom cX7_bodyFrom 4 (some .int) : Cond) ∈ lwg := mem_lwg (i := 716) (by decide +kernel) rfl
theorem wm_RX7_49 : (.methodLink RX7 49 yX3_append : Cond) ∈ lwg := mem_lwg (i := 721) (by decide +kernel) rfl
theorem wm_RX7_53 : (.methodLink RX7 53 yX7_workOut : Cond) ∈ lwg := mem_lwg (i := 722) (by decide +kernel) rfl
theorem wi_yX7_workOut : (.instanceMethod yX7_workOut : Cond) ∈ lwg := mem_lwg (i := 724) (by decide +kernel) rfl
theorem wc_yX7_workOut : (.code yX7_workOut cX7_workOut 4 (some .int) : Cond) ∈ lwg := mem_lwg (i := 725) (by decide +kernel) rfl
theorem wm_RX7_60 : (.methodLink RX7 60 yX7_own : Cond) ∈ lwg := mem_lwg (i := 726) (by decide +kernel) rfl
theorem wi_yX7_own : (.instanceMethod yX7_own : Cond) ∈ lwg := mem_lwg (i := 728) (by decide +kernel) rfl
theorem wc_yX7_own : (.code yX7_own cX7_own 4 (some .int) : Cond) ∈ lwg := mem_lwg (i := 729) (by decide +kernel) rfl
theorem wm_RX7_63 : (.methodLink RX7 63 yX7_above : Cond) ∈ lwg := mem_lwg (i := 730) (by decide +kernel) rfl
theorem wi_yX7_above : (.instanceMethod yX7_above : Cond) ∈ lwg := mem_lwg (i := 732) (by decide +kernel) rfl
theorem wc_yX7_above : (.code yX7_above cX7_above 5 (some .int) : Cond) ∈ lwg := mem_lwg (i := 733) (by decide +kernel) rfl
theorem wm_R_law_133 : (.methodLink R_law 133 yX9_trace : Cond) ∈ lwg := mem_lwg (i := 734) (by decide +kernel) rfl
theorem wi_yX9_trace : (.instanceMethod yX9_trace : Cond) ∈ lwg := mem_lwg (i := 735) (by decide +kernel) rfl
theorem wv_yX9_trace : (.selects RX9 yX9_trace yX9_trace : Cond) ∈ lwg := mem_lwg (i := 736) (by decide +kernel) rfl
theorem wc_yX9_trace : (.code yX9_trace cX9_trace 2 (some .int) : Cond) ∈ lwg := mem_lwg (i := 737) (by decide +kernel) rfl
theorem wm_RX9_254 : (.methodLink RX9 254 yX3_holds : Cond) ∈ lwg := mem_lwg (i := 738) (by decide +kernel) rfl
theorem wm_R_law_137 : (.methodLink R_law 137 yX9_sheet : Cond) ∈ lwg := mem_lwg (i := 739) (by decide +kernel) rfl
theorem wi_yX9_sheet : (.instanceMethod yX9_sheet : Cond) ∈ lwg := mem_lwg (i := 740) (by decide +kernel) rfl
theorem wv_yX9_sheet : (.selects RX9 yX9_sheet yX9_sheet : Cond) ∈ lwg := mem_lwg (i := 741) (by decide +kernel) rfl
theorem wc_yX9_sheet : (.code yX9_sheet cX9_sheet 4 (some .int) : Cond) ∈ lwg := mem_lwg (i := 742) (by decide +kernel) rfl
theorem wm_RX9_257 : (.methodLink RX9 257 yX6_begin : Cond) ∈ lwg := mem_lwg (i := 743) (by decide +kernel) rfl
theorem wi_yX6_begin : (.instanceMethod yX6_begin : Cond) ∈ lwg := mem_lwg (i := 744) (by decide +kernel) rfl
theorem wv_yX6_begin : (.selects RX6 yX6_begin yX6_begin : Cond) ∈ lwg := mem_lwg (i := 745) (by decide +kernel) rfl
theorem wc_yX6_begin : (.code yX6_begin cX6_begin 3 none : Cond) ∈ lwg := mem_lwg (i := 746) (by decide +kernel) rfl
theorem wm_RX6_24 : (.methodLink RX6 24 yX3_fillWithZeros : Cond) ∈ lwg := mem_lwg (i := 747) (by decide +kernel) rfl
theorem wi_yX3_fillWithZeros : (.instanceMethod yX3_fillWithZeros : Cond) ∈ lwg := mem_lwg (i := 748) (by decide +kernel) rfl
theorem wv_yX3_fillWithZeros : (.selects RX3 yX3_fillWithZeros yX3_fillWithZeros : Cond) ∈ lwg := mem_lwg (i := 749) (by decide +kernel) rfl
theorem wc_yX3_fillWithZeros : (.code yX3_fillWithZeros cX3_fillWithZeros 3 none : Cond) ∈ lwg := mem_lwg (i := 750) (by decide +kernel) rfl
theorem wm_R_law_141 : (.methodLink R_law 141 yX9_put : Cond) ∈ lwg := mem_lwg (i := 751) (by decide +kernel) rfl
theorem wi_yX9_put : (.instanceMethod yX9_put : Cond) ∈ lwg := mem_lwg (i := 752) (by decide +kernel) rfl
theorem wv_yX9_put : (.selects RX9 yX9_put yX9_put : Cond) ∈ lwg := mem_lwg (i := 753) (by decide +kernel) rfl
theorem wc_yX9_put : (.code yX9_put cX9_put 5 (some .int) : Cond) ∈ lwg := mem_lwg (i := 754) (by decide +kernel) rfl
theorem wm_RX9_261 : (.methodLink RX9 261 yX6_lowestBits : Cond) ∈ lwg := mem_lwg (i := 755) (by decide +kernel) rfl
theorem wi_yX6_lowestBits : (.instanceMethod yX6_lowestBits : Cond) ∈ lwg := mem_lwg (i := 756) (by decide +kernel) rfl
theorem wv_yX6_lowestBits : (.selects RX6 yX6_lowestBits yX6_lowestBits : Cond) ∈ lwg := mem_lwg (i := 757) (by decide +kernel) rfl
theorem wc_yX6_lowestBits : (.code yX6_lowestBits cX6_lowestBits 2 (some .int) : Cond) ∈ lwg := mem_lwg (i := 758) (by decide +kernel) rfl
theorem wm_RX9_264 : (.methodLink RX9 264 yX3_replace : Cond) ∈ lwg := mem_lwg (i := 759) (by decide +kernel) rfl
theorem wi_yX3_replace : (.instanceMethod yX3_replace : Cond) ∈ lwg := mem_lwg (i := 760) (by decide +kernel) rfl
theorem wv_yX3_replace : (.selects RX3 yX3_replace yX3_replace : Cond) ∈ lwg := mem_lwg (i := 761) (by decide +kernel) rfl
theorem wc_yX3_replace : (.code yX3_replace cX3_replace 3 none : Cond) ∈ lwg := mem_lwg (i := 762) (by decide +kernel) rfl
theorem wm_RX3_23 : (.methodLink RX3 23 yX3_holds : Cond) ∈ lwg := mem_lwg (i := 763) (by decide +kernel) rfl
theorem wm_R_law_145 : (.methodLink R_law 145 yX9_move : Cond) ∈ lwg := mem_lwg (i := 764) (by decide +kernel) rfl
theorem wi_yX9_move : (.instanceMethod yX9_move : Cond) ∈ lwg := mem_lwg (i := 765) (by decide +kernel) rfl
theorem wv_yX9_move : (.selects RX9 yX9_move yX9_move : Cond) ∈ lwg := mem_lwg (i := 766) (by decide +kernel) rfl
theorem wc_yX9_move : (.code yX9_move cX9_move 8 (some .int) : Cond) ∈ lwg := mem_lwg (i := 767) (by decide +kernel) rfl
theorem wm_RX9_270 : (.methodLink RX9 270 yX3_holdsRun : Cond) ∈ lwg := mem_lwg (i := 768) (by decide +kernel) rfl
theorem wi_yX3_holdsRun : (.instanceMethod yX3_holdsRun : Cond) ∈ lwg := mem_lwg (i := 769) (by decide +kernel) rfl
theorem wv_yX3_holdsRun : (.selects RX3 yX3_holdsRun yX3_holdsRun : Cond) ∈ lwg := mem_lwg (i := 770) (by decide +kernel) rfl
theorem wc_yX3_holdsRun : (.code yX3_holdsRun cX3_holdsRun 3 (some .boolean) : Cond) ∈ lwg := mem_lwg (i := 771) (by decide +kernel) rfl
theorem wm_RX9_273 : (.methodLink RX9 273 yX3_replaceRun : Cond) ∈ lwg := mem_lwg (i := 772) (by decide +kernel) rfl
theorem wi_yX3_replaceRun : (.instanceMethod yX3_replaceRun : Cond) ∈ lwg := mem_lwg (i := 773) (by decide +kernel) rfl
theorem wv_yX3_replaceRun : (.selects RX3 yX3_replaceRun yX3_replaceRun : Cond) ∈ lwg := mem_lwg (i := 774) (by decide +kernel) rfl
theorem wc_yX3_replaceRun : (.code yX3_replaceRun cX3_replaceRun 5 none : Cond) ∈ lwg := mem_lwg (i := 775) (by decide +kernel) rfl
theorem wm_RX3_27 : (.methodLink RX3 27 yX3_holdsRun : Cond) ∈ lwg := mem_lwg (i := 776) (by decide +kernel) rfl
theorem wm_R_law_150 : (.methodLink R_law 150 yX9_snows : Cond) ∈ lwg := mem_lwg (i := 777) (by decide +kernel) rfl
theorem wi_yX9_snows : (.instanceMethod yX9_snows : Cond) ∈ lwg := mem_lwg (i := 778) (by decide +kernel) rfl
theorem wv_yX9_snows : (.selects RX9 yX9_snows yX9_snows : Cond) ∈ lwg := mem_lwg (i := 779) (by decide +kernel) rfl
theorem wc_yX9_snows : (.code yX9_snows cX9_snows 4 (some .int) : Cond) ∈ lwg := mem_lwg (i := 780) (by decide +kernel) rfl
theorem wm_R_law_154 : (.methodLink R_law 154 yX9_judge : Cond) ∈ lwg := mem_lwg (i := 781) (by decide +kernel) rfl
theorem wi_yX9_judge : (.instanceMethod yX9_judge : Cond) ∈ lwg := mem_lwg (i := 782) (by decide +kernel) rfl
theorem wv_yX9_judge : (.selects RX9 yX9_judge yX9_judge : Cond) ∈ lwg := mem_lwg (i := 783) (by decide +kernel) rfl
theorem wc_yX9_judge : (.code yX9_judge cX9_judge 5 (some .int) : Cond) ∈ lwg := mem_lwg (i := 784) (by decide +kernel) rfl
theorem wm_RX9_277 : (.methodLink RX9 277 yJ9_min_7cf53 : Cond) ∈ lwg := mem_lwg (i := 785) (by decide +kernel) rfl
theorem wm_R_law_158 : (.methodLink R_law 158 yX9_image : Cond) ∈ lwg := mem_lwg (i := 786) (by decide +kernel) rfl
theorem wi_yX9_image : (.instanceMethod yX9_image : Cond) ∈ lwg := mem_lwg (i := 787) (by decide +kernel) rfl
theorem wv_yX9_image : (.selects RX9 yX9_image yX9_image : Cond) ∈ lwg := mem_lwg (i := 788) (by decide +kernel) rfl
theorem wc_yX9_image : (.code yX9_image cX9_image 1 (some .int) : Cond) ∈ lwg := mem_lwg (i := 789) (by decide +kernel) rfl
theorem wm_RX9_282 : (.methodLink RX9 282 yX8_copyFrom : Cond) ∈ lwg := mem_lwg (i := 790) (by decide +kernel) rfl
theorem wi_yX8_copyFrom : (.instanceMethod yX8_copyFrom : Cond) ∈ lwg := mem_lwg (i := 791) (by decide +kernel) rfl
theorem wv_yX8_copyFrom : (.selects RX8 yX8_copyFrom yX8_copyFrom : Cond) ∈ lwg := mem_lwg (i := 792) (by decide +kernel) rfl
theorem wc_yX8_copyFrom : (.code yX8_copyFrom cX8_copyFrom 2 none : Cond) ∈ lwg := mem_lwg (i := 793) (by decide +kernel) rfl
theorem wm_RX8_39 : (.methodLink RX8 39 yX1_copyFrom : Cond) ∈ lwg := mem_lwg (i := 794) (by decide +kernel) rfl
theorem wm_RX8_43 : (.methodLink RX8 43 yX3_copyFrom : Cond) ∈ lwg := mem_lwg (i := 795) (by decide +kernel) rfl
theorem wm_R_law_162 : (.methodLink R_law 162 yX9_restore : Cond) ∈ lwg := mem_lwg (i := 796) (by decide +kernel) rfl
theorem wi_yX9_restore : (.instanceMethod yX9_restore : Cond) ∈ lwg := mem_lwg (i := 797) (by decide +kernel) rfl
theorem wv_yX9_restore : (.selects RX9 yX9_restore yX9_restore : Cond) ∈ lwg := mem_lwg (i := 798) (by decide +kernel) rfl
theorem wc_yX9_restore : (.code yX9_restore cX9_restore 1 (some .int) : Cond) ∈ lwg := mem_lwg (i := 799) (by decide +kernel) rfl
theorem wm_R_law_166 : (.methodLink R_law 166 yX9_tell : Cond) ∈ lwg := mem_lwg (i := 800) (by decide +kernel) rfl
theorem wi_yX9_tell : (.instanceMethod yX9_tell : Cond) ∈ lwg := mem_lwg (i := 801) (by decide +kernel) rfl
theorem wv_yX9_tell : (.selects RX9 yX9_tell yX9_tell : Cond) ∈ lwg := mem_lwg (i := 802) (by decide +kernel) rfl
theorem wc_yX9_tell : (.code yX9_tell cX9_tell 2 (some .int) : Cond) ∈ lwg := mem_lwg (i := 803) (by decide +kernel) rfl
theorem wm_R_law_170 : (.methodLink R_law 170 yX9_check : Cond) ∈ lwg := mem_lwg (i := 804) (by decide +kernel) rfl
theorem wi_yX9_check : (.instanceMethod yX9_check : Cond) ∈ lwg := mem_lwg (i := 805) (by decide +kernel) rfl
theorem wv_yX9_check : (.selects RX9 yX9_check yX9_check : Cond) ∈ lwg := mem_lwg (i := 806) (by decide +kernel) rfl
theorem wc_yX9_check : (.code yX9_check cX9_check 3 (some .int) : Cond) ∈ lwg := mem_lwg (i := 807) (by decide +kernel) rfl
theorem wm_R_law_174 : (.methodLink R_law 174 yX9_count : Cond) ∈ lwg := mem_lwg (i := 808) (by decide +kernel) rfl
theorem wi_yX9_count : (.instanceMethod yX9_count : Cond) ∈ lwg := mem_lwg (i := 809) (by decide +kernel) rfl
theorem wv_yX9_count : (.selects RX9 yX9_count yX9_count : Cond) ∈ lwg := mem_lwg (i := 810) (by decide +kernel) rfl
theorem wc_yX9_count : (.code yX9_count cX9_count 2 (some .int) : Cond) ∈ lwg := mem_lwg (i := 811) (by decide +kernel) rfl
theorem wm_RX9_291 : (.methodLink RX9 291 yX1_snowInAll : Cond) ∈ lwg := mem_lwg (i := 812) (by decide +kernel) rfl
theorem wi_yX1_snowInAll : (.instanceMethod yX1_snowInAll : Cond) ∈ lwg := mem_lwg (i := 813) (by decide +kernel) rfl
theorem wv_yX1_snowInAll : (.selects RX1 yX1_snowInAll yX1_snowInAll : Cond) ∈ lwg := mem_lwg (i := 814) (by decide +kernel) rfl
theorem wc_yX1_snowInAll : (.code yX1_snowInAll cX1_snowInAll 3 (some .int) : Cond) ∈ lwg := mem_lwg (i := 815) (by decide +kernel) rfl
theorem wm_RX9_294 : (.methodLink RX9 294 yX1_lostSet : Cond) ∈ lwg := mem_lwg (i := 816) (by decide +kernel) rfl
theorem wi_yX1_lostSet : (.instanceMethod yX1_lostSet : Cond) ∈ lwg := mem_lwg (i := 817) (by decide +kernel) rfl
theorem wv_yX1_lostSet : (.selects RX1 yX1_lostSet yX1_lostSet : Cond) ∈ lwg := mem_lwg (i := 818) (by decide +kernel) rfl
theorem wc_yX1_lostSet : (.code yX1_lostSet cX1_lostSet 3 (some .int) : Cond) ∈ lwg := mem_lwg (i := 819) (by decide +kernel) rfl
theorem wm_RX1_101 : (.methodLink RX1 101 yX5_isLost : Cond) ∈ lwg := mem_lwg (i := 820) (by decide +kernel) rfl
theorem wi_yX5_isLost : (.instanceMethod yX5_isLost : Cond) ∈ lwg := mem_lwg (i := 821) (by decide +kernel) rfl
theorem wv_yX5_isLost : (.selects RX5 yX5_isLost yX5_isLost : Cond) ∈ lwg := mem_lwg (i := 822) (by decide +kernel) rfl
theorem wc_yX5_isLost : (.code yX5_isLost cX5_isLost 1 (some .boolean) : Cond) ∈ lwg := mem_lwg (i := 823) (by decide +kernel) rfl
theorem wm_R_law_178 : (.methodLink R_law 178 yX9_told : Cond) ∈ lwg := mem_lwg (i := 824) (by decide +kernel) rfl
theorem wi_yX9_told : (.instanceMethod yX9_told : Cond) ∈ lwg := mem_lwg (i := 825) (by decide +kernel) rfl
theorem wv_yX9_told : (.selects RX9 yX9_told yX9_told : Cond) ∈ lwg := mem_lwg (i := 826) (by decide +kernel) rfl
theorem wc_yX9_told : (.code yX9_told cX9_told 2 (some .int) : Cond) ∈ lwg := mem_lwg (i := 827) (by decide +kernel) rfl
theorem wl_R_law_10 : (.classLink R_law 10 RX10 : Cond) ∈ lwg := mem_lwg (i := 828) (by decide +kernel) rfl
theorem wq_RX10 : (.instantiable RX10 25 : Cond) ∈ lwg := mem_lwg (i := 829) (by decide +kernel) rfl
theorem wm_R_law_12 : (.methodLink R_law 12 yX10_init : Cond) ∈ lwg := mem_lwg (i := 830) (by decide +kernel) rfl
theorem wi_yX10_init : (.instanceMethod yX10_init : Cond) ∈ lwg := mem_lwg (i := 831) (by decide +kernel) rfl
theorem wc_yX10_init : (.code yX10_init cX10_init 1 none : Cond) ∈ lwg := mem_lwg (i := 832) (by decide +kernel) rfl
theorem wm_RX10_1 : (.methodLink RX10 1 objectInit : Cond) ∈ lwg := mem_lwg (i := 833) (by decide +kernel) rfl
theorem wf_RX10_7 : (.fieldLink RX10 7 "RaddleMarksModel" "row" "[I" : Cond) ∈ lwg := mem_lwg (i := 834) (by decide +kernel) rfl
theorem wf_RX10_13 : (.fieldLink RX10 13 "RaddleMarksModel" "kept" "[I" : Cond) ∈ lwg := mem_lwg (i := 835) (by decide +kernel) rfl
theorem wf_RX10_16 : (.fieldLink RX10 16 "RaddleMarksModel" "tried" "[I" : Cond) ∈ lwg := mem_lwg (i := 836) (by decide +kernel) rfl
theorem wf_RX10_247 : (.fieldLink RX10 247 "RaddleMarksModel" "isKept" "Z" : Cond) ∈ lwg := mem_lwg (i := 837) (by decide +kernel) rfl
theorem wf_RX10_250 : (.fieldLink RX10 250 "RaddleMarksModel" "images" "I" : Cond) ∈ lwg := mem_lwg (i := 838) (by decide +kernel) rfl
theorem wf_RX10_19 : (.fieldLink RX10 19 "RaddleMarksModel" "found" "[I" : Cond) ∈ lwg := mem_lwg (i := 839) (by decide +kernel) rfl
theorem wf_RX10_127 : (.fieldLink RX10 127 "RaddleMarksModel" "use" "I" : Cond) ∈ lwg := mem_lwg (i := 840) (by decide +kernel) rfl
theorem wf_RX10_115 : (.fieldLink RX10 115 "RaddleMarksModel" "at" "I" : Cond) ∈ lwg := mem_lwg (i := 841) (by decide +kernel) rfl
theorem wf_RX10_104 : (.fieldLink RX10 104 "RaddleMarksModel" "end" "I" : Cond) ∈ lwg := mem_lwg (i := 842) (by decide +kernel) rfl
theorem wf_RX10_136 : (.fieldLink RX10 136 "RaddleMarksModel" "open" "I" : Cond) ∈ lwg := mem_lwg (i := 843) (by decide +kernel) rfl
theorem wf_RX10_112 : (.fieldLink RX10 112 "RaddleMarksModel" "steps" "I" : Cond) ∈ lwg := mem_lwg (i := 844) (by decide +kernel) rfl
theorem wf_RX10_108 : (.fieldLink RX10 108 "RaddleMarksModel" "good" "Z" : Cond) ∈ lwg := mem_lwg (i := 845) (by decide +kernel) rfl
theorem wf_RX10_22 : (.fieldLink RX10 22 "RaddleMarksModel" "made" "[I" : Cond) ∈ lwg := mem_lwg (i := 846) (by decide +kernel) rfl
theorem wf_RX10_25 : (.fieldLink RX10 25 "RaddleMarksModel" "pile" "[I" : Cond) ∈ lwg := mem_lwg (i := 847) (by decide +kernel) rfl
theorem wf_RX10_28 : (.fieldLink RX10 28 "RaddleMarksModel" "names" "[I" : Cond) ∈ lwg := mem_lwg (i := 848) (by decide +kernel) rfl
theorem wf_RX10_31 : (.fieldLink RX10 31 "RaddleMarksModel" "finds" "[I" : Cond) ∈ lwg := mem_lwg (i := 849) (by decide +kernel) rfl
theorem wf_RX10_34 : (.fieldLink RX10 34 "RaddleMarksModel" "bitsOf" "[I" : Cond) ∈ lwg := mem_lwg (i := 850) (by decide +kernel) rfl
theorem wf_RX10_37 : (.fieldLink RX10 37 "RaddleMarksModel" "sizeOf" "[I" : Cond) ∈ lwg := mem_lwg (i := 851) (by decide +kernel) rfl
theorem wf_RX10_40 : (.fieldLink RX10 40 "RaddleMarksModel" "sheets" "[I" : Cond) ∈ lwg := mem_lwg (i := 852) (by decide +kernel) rfl
theorem wf_RX10_43 : (.fieldLink RX10 43 "RaddleMarksModel" "moved" "[I" : Cond) ∈ lwg := mem_lwg (i := 853) (by decide +kernel) rfl
theorem wf_RX10_46 : (.fieldLink RX10 46 "RaddleMarksModel" "traced" "[I" : Cond) ∈ lwg := mem_lwg (i := 854) (by decide +kernel) rfl
theorem wf_RX10_217 : (.fieldLink RX10 217 "RaddleMarksModel" "tracedMany" "I" : Cond) ∈ lwg := mem_lwg (i := 855) (by decide +kernel) rfl
theorem wf_RX10_235 : (.fieldLink RX10 235 "RaddleMarksModel" "voiceKind" "I" : Cond) ∈ lwg := mem_lwg (i := 856) (by decide +kernel) rfl
theorem wf_RX10_223 : (.fieldLink RX10 223 "RaddleMarksModel" "voiceN" "I" : Cond) ∈ lwg := mem_lwg (i := 857) (by decide +kernel) rfl
theorem wf_RX10_229 : (.fieldLink RX10 229 "RaddleMarksModel" "voiceM" "I" : Cond) ∈ lwg := mem_lwg (i := 858) (by decide +kernel) rfl
theorem wm_R_law_17 : (.methodLink R_law 17 yX10_snow : Cond) ∈ lwg := mem_lwg (i := 910) (by decide +kernel) rfl
theorem wi_yX10_snow : (.instanceMethod yX10_snow : Cond) ∈ lwg := mem_lwg (i := 911) (by decide +kernel) rfl
theorem wv_yX10_snow : (.selects RX10 yX10_snow yX10_snow : Cond) ∈ lwg := mem_lwg (i := 912) (by decide +kernel) rfl
theorem wc_yX10_snow : (.code yX10_snow cX10_snow 3 (some .int) : Cond) ∈ lwg := mem_lwg (i := 913) (by decide +kernel) rfl
theorem wm_RX10_54 : (.methodLink RX10 54 yX10_isCell : Cond) ∈ lwg := mem_lwg (i := 914) (by decide +kernel) rfl
theorem wt_yX10_isCell : (.static yX10_isCell : Cond) ∈ lwg := mem_lwg (i := 915) (by decide +kernel) rfl
theorem wc_yX10_isCell : (.code yX10_isCell cX10_isCell 1 (some .boolean) : Cond) ∈ lwg := mem_lwg (i := 916) (by decide +kernel) rfl
theorem wm_RX10_50 : (.methodLink RX10 50 yX10_in : Cond) ∈ lwg := mem_lwg (i := 917) (by decide +kernel) rfl
theorem wt_yX10_in : (.static yX10_in : Cond) ∈ lwg := mem_lwg (i := 918) (by decide +kernel) rfl
theorem wc_yX10_in : (.code yX10_in cX10_in 3 (some .boolean) : Cond) ∈ lwg := mem_lwg (i := 919) (by decide +kernel) rfl
theorem wm_RX10_58 : (.methodLink RX10 58 yX10_becomes : Cond) ∈ lwg := mem_lwg (i := 920) (by decide +kernel) rfl
theorem wi_yX10_becomes : (.instanceMethod yX10_becomes : Cond) ∈ lwg := mem_lwg (i := 922) (by decide +kernel) rfl
theorem wc_yX10_becomes : (.code yX10_becomes cX10_becomes 4 (some .int) : Cond) ∈ lwg := mem_lwg (i := 923) (by decide +kernel) rfl
theorem wk_RX10_62 : (.constant RX10 62 (-1000000001) : Cond) ∈ lwg := mem_lwg (i := 924) (by decide +kernel) rfl
theorem wm_RX10_63 : (.methodLink RX10 63 yX10_errs : Cond) ∈ lwg := mem_lwg (i := 925) (by decide +kernel) rfl
theorem wi_yX10_errs : (.instanceMethod yX10_errs : Cond) ∈ lwg := mem_lwg (i := 927) (by decide +kernel) rfl
theorem wc_yX10_errs : (.code yX10_errs cX10_errs 2 (some .int) : Cond) ∈ lwg := mem_lwg (i := 928) (by decide +kernel) rfl
theorem wk_RX10_49 : (.constant RX10 49 (-1000000000) : Cond) ∈ lwg := mem_lwg (i := 929) (by decide +kernel) rfl
theorem wm_R_law_21 : (.methodLink R_law 21 yX10_ofCell : Cond) ∈ lwg := mem_lwg (i := 930) (by decide +kernel) rfl
theorem wi_yX10_ofCell : (.instanceMethod yX10_ofCell : Cond) ∈ lwg := mem_lwg (i := 931) (by decide +kernel) rfl
theorem wv_yX10_ofCell : (.selects RX10 yX10_ofCell yX10_ofCell : Cond) ∈ lwg := mem_lwg (i := 932) (by decide +kernel) rfl
theorem wc_yX10_ofCell : (.code yX10_ofCell cX10_ofCell 3 (some .int) : Cond) ∈ lwg := mem_lwg (i := 933) (by decide +kernel) rfl
theorem wm_RX10_73 : (.methodLink RX10 73 yX10_thereIn : Cond) ∈ lwg := mem_lwg (i := 934) (by decide +kernel) rfl
theorem wi_yX10_thereIn : (.instanceMethod yX10_thereIn : Cond) ∈ lwg := mem_lwg (i := 936) (by decide +kernel) rfl
theorem wc_yX10_thereIn : (.code yX10_thereIn cX10_thereIn 5 (some .int) : Cond) ∈ lwg := mem_lwg (i := 937) (by decide +kernel) rfl
theorem wm_RX10_67 : (.methodLink RX10 67 yX10_its : Cond) ∈ lwg := mem_lwg (i := 938) (by decide +kernel) rfl
theorem wi_yX10_its : (.instanceMethod yX10_its : Cond) ∈ lwg := mem_lwg (i := 940) (by decide +kernel) rfl
theorem wc_yX10_its : (.code yX10_its cX10_its 3 (some .int) : Cond) ∈ lwg := mem_lwg (i := 941) (by decide +kernel) rfl
theorem wm_RX10_70 : (.methodLink RX10 70 yX10_at : Cond) ∈ lwg := mem_lwg (i := 942) (by decide +kernel) rfl
theorem wi_yX10_at : (.instanceMethod yX10_at : Cond) ∈ lwg := mem_lwg (i := 944) (by decide +kernel) rfl
theorem wc_yX10_at : (.code yX10_at cX10_at 2 (some .int) : Cond) ∈ lwg := mem_lwg (i := 945) (by decide +kernel) rfl
theorem wm_R_law_25 : (.methodLink R_law 25 yX10_seeker : Cond) ∈ lwg := mem_lwg (i := 946) (by decide +kernel) rfl
theorem wi_yX10_seeker : (.instanceMethod yX10_seeker : Cond) ∈ lwg := mem_lwg (i := 947) (by decide +kernel) rfl
theorem wv_yX10_seeker : (.selects RX10 yX10_seeker yX10_seeker : Cond) ∈ lwg := mem_lwg (i := 948) (by decide +kernel) rfl
theorem wc_yX10_seeker : (.code yX10_seeker cX10_seeker 4 (some .int) : Cond) ∈ lwg := mem_lwg (i := 949) (by decide +kernel) rfl
theorem wk_RX10_77 : (.constant RX10 77 (-1000000004) : Cond) ∈ lwg := mem_lwg (i := 950) (by decide +kernel) rfl
theorem wm_R_law_29 : (.methodLink R_law 29 yX10_ofSeeker : Cond) ∈ lwg := mem_lwg (i := 951) (by decide +kernel) rfl
theorem wi_yX10_ofSeeker : (.instanceMethod yX10_ofSeeker : Cond) ∈ lwg := mem_lwg (i := 952) (by decide +kernel) rfl
theorem wv_yX10_ofSeeker : (.selects RX10 yX10_ofSeeker yX10_ofSeeker : Cond) ∈ lwg := mem_lwg (i := 953) (by decide +kernel) rfl
theorem wc_yX10_ofSeeker : (.code yX10_ofSeeker cX10_ofSeeker 3 (some .int) : Cond) ∈ lwg := mem_lwg (i := 954) (by decide +kernel) rfl
theorem wm_RX10_78 : (.methodLink RX10 78 yX10_isSeeker : Cond) ∈ lwg := mem_lwg (i := 955) (by decide +kernel) rfl
theorem wi_yX10_isSeeker : (.instanceMethod yX10_isSeeker : Cond) ∈ lwg := mem_lwg (i := 957) (by decide +kernel) rfl
theorem wc_yX10_isSeeker : (.code yX10_isSeeker cX10_isSeeker 2 (some .boolean) : Cond) ∈ lwg := mem_lwg (i := 958) (by decide +kernel) rfl
theorem wm_RX10_81 : (.methodLink RX10 81 yX10_outFor : Cond) ∈ lwg := mem_lwg (i := 959) (by decide +kernel) rfl
theorem wi_yX10_outFor : (.instanceMethod yX10_outFor : Cond) ∈ lwg := mem_lwg (i := 961) (by decide +kernel) rfl
theorem wc_yX10_outFor : (.code yX10_outFor cX10_outFor 6 (some .int) : Cond) ∈ lwg := mem_lwg (i := 962) (by decide +kernel) rfl
theorem wm_RX10_176 : (.methodLink RX10 176 yX10_apart : Cond) ∈ lwg := mem_lwg (i := 963) (by decide +kernel) rfl
theorem wt_yX10_apart : (.static yX10_apart : Cond) ∈ lwg := mem_lwg (i := 964) (by decide +kernel) rfl
theorem wc_yX10_apart : (.code yX10_apart cX10_apart 2 (some .int) : Cond) ∈ lwg := mem_lwg (i := 965) (by decide +kernel) rfl
theorem wm_RX10_179 : (.methodLink RX10 179 yX10_isLost : Cond) ∈ lwg := mem_lwg (i := 966) (by decide +kernel) rfl
theorem wi_yX10_isLost : (.instanceMethod yX10_isLost : Cond) ∈ lwg := mem_lwg (i := 968) (by decide +kernel) rfl
theorem wc_yX10_isLost : (.code yX10_isLost cX10_isLost 2 (some .boolean) : Cond) ∈ lwg := mem_lwg (i := 969) (by decide +kernel) rfl
theorem wm_RX10_168 : (.methodLink RX10 168 yX10_lawOf : Cond) ∈ lwg := mem_lwg (i := 970) (by decide +kernel) rfl
theorem wi_yX10_lawOf : (.instanceMethod yX10_lawOf : Cond) ∈ lwg := mem_lwg (i := 972) (by decide +kernel) rfl
theorem wc_yX10_lawOf : (.code yX10_lawOf cX10_lawOf 6 (some .int) : Cond) ∈ lwg := mem_lwg (i := 973) (by decide +kernel) rfl
theorem wm_RX10_161 : (.methodLink RX10 161 yX10_walks : Cond) ∈ lwg := mem_lwg (i := 974) (by decide +kernel) rfl
theorem wi_yX10_walks : (.instanceMethod yX10_walks : Cond) ∈ lwg := mem_lwg (i := 976) (by decide +kernel) rfl
theorem wc_yX10_walks : (.code yX10_walks cX10_walks 9 (some .int) : Cond) ∈ lwg := mem_lwg (i := 977) (by decide +kernel) rfl
theorem wm_RX10_157 : (.methodLink RX10 157 yX10_workedOut : Cond) ∈ lwg := mem_lwg (i := 978) (by decide +kernel) rfl
theorem wt_yX10_workedOut : (.static yX10_workedOut : Cond) ∈ lwg := mem_lwg (i := 979) (by decide +kernel) rfl
theorem wc_yX10_workedOut : (.code yX10_workedOut cX10_workedOut 3 (some .int) : Cond) ∈ lwg := mem_lwg (i := 980) (by decide +kernel) rfl
theorem wm_RX10_165 : (.methodLink RX10 165 yX10_held : Cond) ∈ lwg := mem_lwg (i := 981) (by decide +kernel) rfl
theorem wt_yX10_held : (.static yX10_held : Cond) ∈ lwg := mem_lwg (i := 982) (by decide +kernel) rfl
theorem wc_yX10_held : (.code yX10_held cX10_held 3 (some .int) : Cond) ∈ lwg := mem_lwg (i := 983) (by decide +kernel) rfl
theorem wm_R_law_34 : (.methodLink R_law 34 yX10_send : Cond) ∈ lwg := mem_lwg (i := 984) (by decide +kernel) rfl
theorem wi_yX10_send : (.instanceMethod yX10_send : Cond) ∈ lwg := mem_lwg (i := 985) (by decide +kernel) rfl
theorem wv_yX10_send : (.selects RX10 yX10_send yX10_send : Cond) ∈ lwg := mem_lwg (i := 986) (by decide +kernel) rfl
theorem wc_yX10_send : (.code yX10_send cX10_send 5 (some .int) : Cond) ∈ lwg := mem_lwg (i := 987) (by decide +kernel) rfl
theorem wm_R_law_39 : (.methodLink R_law 39 yX10_sheep : Cond) ∈ lwg := mem_lwg (i := 988) (by decide +kernel) rfl
theorem wi_yX10_sheep : (.instanceMethod yX10_sheep : Cond) ∈ lwg := mem_lwg (i := 989) (by decide +kernel) rfl
theorem wv_yX10_sheep : (.selects RX10 yX10_sheep yX10_sheep : Cond) ∈ lwg := mem_lwg (i := 990) (by decide +kernel) rfl
theorem wc_yX10_sheep : (.code yX10_sheep cX10_sheep 6 (some .int) : Cond) ∈ lwg := mem_lwg (i := 991) (by decide +kernel) rfl
theorem wm_RX10_84 : (.methodLink RX10 84 yX10_isMark : Cond) ∈ lwg := mem_lwg (i := 992) (by decide +kernel) rfl
theorem wi_yX10_isMark : (.instanceMethod yX10_isMark : Cond) ∈ lwg := mem_lwg (i := 994) (by decide +kernel) rfl
theorem wc_yX10_isMark : (.code yX10_isMark cX10_isMark 2 (some .boolean) : Cond) ∈ lwg := mem_lwg (i := 995) (by decide +kernel) rfl
theorem wm_RX10_87 : (.methodLink RX10 87 yX10_gets : Cond) ∈ lwg := mem_lwg (i := 996) (by decide +kernel) rfl
theorem wi_yX10_gets : (.instanceMethod yX10_gets : Cond) ∈ lwg := mem_lwg (i := 998) (by decide +kernel) rfl
theorem wc_yX10_gets : (.code yX10_gets cX10_gets 4 none : Cond) ∈ lwg := mem_lwg (i := 999) (by decide +kernel) rfl
theorem wm_R_law_43 : (.methodLink R_law 43 yX10_ofSheep : Cond) ∈ lwg := mem_lwg (i := 1000) (by decide +kernel) rfl
theorem wi_yX10_ofSheep : (.instanceMethod yX10_ofSheep : Cond) ∈ lwg := mem_lwg (i := 1001) (by decide +kernel) rfl
theorem wv_yX10_ofSheep : (.selects RX10 yX10_ofSheep yX10_ofSheep : Cond) ∈ lwg := mem_lwg (i := 1002) (by decide +kernel) rfl
theorem wc_yX10_ofSheep : (.code yX10_ofSheep cX10_ofSheep 3 (some .int) : Cond) ∈ lwg := mem_lwg (i := 1003) (by decide +kernel) rfl
theorem wm_RX10_91 : (.methodLink RX10 91 yX10_isSheep : Cond) ∈ lwg := mem_lwg (i := 1004) (by decide +kernel) rfl
theorem wi_yX10_isSheep : (.instanceMethod yX10_isSheep : Cond) ∈ lwg := mem_lwg (i := 1006) (by decide +kernel) rfl
theorem wc_yX10_isSheep : (.code yX10_isSheep cX10_isSheep 2 (some .boolean) : Cond) ∈ lwg := mem_lwg (i := 1007) (by decide +kernel) rfl
theorem wm_RX10_94 : (.methodLink RX10 94 yX10_heard : Cond) ∈ lwg := mem_lwg (i := 1008) (by decide +kernel) rfl
theorem wi_yX10_heard : (.instanceMethod yX10_heard : Cond) ∈ lwg := mem_lwg (i := 1010) (by decide +kernel) rfl
theorem wc_yX10_heard : (.code yX10_heard cX10_heard 3 (some .int) : Cond) ∈ lwg := mem_lwg (i := 1011) (by decide +kernel) rfl
theorem wm_RX10_173 : (.methodLink RX10 173 yX10_bits : Cond) ∈ lwg := mem_lwg (i := 1012) (by decide +kernel) rfl
theorem wt_yX10_bits : (.static yX10_bits : Cond) ∈ lwg := mem_lwg (i := 1013) (by decide +kernel) rfl
theorem wc_yX10_bits : (.code yX10_bits cX10_bits 3 (some .int) : Cond) ∈ lwg := mem_lwg (i := 1014) (by decide +kernel) rfl
theorem wm_RX10_97 : (.methodLink RX10 97 yX10_cold : Cond) ∈ lwg := mem_lwg (i := 1015) (by decide +kernel) rfl
theorem wi_yX10_cold : (.instanceMethod yX10_cold : Cond) ∈ lwg := mem_lwg (i := 1017) (by decide +kernel) rfl
theorem wc_yX10_cold : (.code yX10_cold cX10_cold 2 (some .int) : Cond) ∈ lwg := mem_lwg (i := 1018) (by decide +kernel) rfl
theorem wm_R_law_47 : (.methodLink R_law 47 yX10_change : Cond) ∈ lwg := mem_lwg (i := 1019) (by decide +kernel) rfl
theorem wi_yX10_change : (.instanceMethod yX10_change : Cond) ∈ lwg := mem_lwg (i := 1020) (by decide +kernel) rfl
theorem wv_yX10_change : (.selects RX10 yX10_change yX10_change : Cond) ∈ lwg := mem_lwg (i := 1021) (by decide +kernel) rfl
theorem wc_yX10_change : (.code yX10_change cX10_change 5 (some .int) : Cond) ∈ lwg := mem_lwg (i := 1022) (by decide +kernel) rfl
theorem wm_R_law_51 : (.methodLink R_law 51 yX10_become : Cond) ∈ lwg := mem_lwg (i := 1023) (by decide +kernel) rfl
theorem wi_yX10_become : (.instanceMethod yX10_become : Cond) ∈ lwg := mem_lwg (i := 1024) (by decide +kernel) rfl
theorem wv_yX10_become : (.selects RX10 yX10_become yX10_become : Cond) ∈ lwg := mem_lwg (i := 1025) (by decide +kernel) rfl
theorem wc_yX10_become : (.code yX10_become cX10_become 3 (some .int) : Cond) ∈ lwg := mem_lwg (i := 1026) (by decide +kernel) rfl
theorem wm_R_law_55 : (.methodLink R_law 55 yX10_as : Cond) ∈ lwg := mem_lwg (i := 1027) (by decide +kernel) rfl
theorem wi_yX10_as : (.instanceMethod yX10_as : Cond) ∈ lwg := mem_lwg (i := 1028) (by decide +kernel) rfl
theorem wv_yX10_as : (.selects RX10 yX10_as yX10_as : Cond) ∈ lwg := mem_lwg (i := 1029) (by decide +kernel) rfl
theorem wc_yX10_as : (.code yX10_as cX10_as 4 (some .int) : Cond) ∈ lwg := mem_lwg (i := 1030) (by decide +kernel) rfl
theorem wm_RX10_100 : (.methodLink RX10 100 yX10_above : Cond) ∈ lwg := mem_lwg (i := 1031) (by decide +kernel) rfl
theorem wt_yX10_above : (.static yX10_above : Cond) ∈ lwg := mem_lwg (i := 1032) (by decide +kernel) rfl
theorem wc_yX10_above : (.code yX10_above cX10_above 1 (some .int) : Cond) ∈ lwg := mem_lwg (i := 1033) (by decide +kernel) rfl
theorem wk_RX10_103 : (.constant RX10 103 (-1000000005) : Cond) ∈ lwg := mem_lwg (i := 1034) (by decide +kernel) rfl
theorem wm_R_law_71 : (.methodLink R_law 71 yX10_law : Cond) ∈ lwg := mem_lwg (i := 1035) (by decide +kernel) rfl
theorem wi_yX10_law : (.instanceMethod yX10_law : Cond) ∈ lwg := mem_lwg (i := 1036) (by decide +kernel) rfl
theorem wv_yX10_law : (.selects RX10 yX10_law yX10_law : Cond) ∈ lwg := mem_lwg (i := 1037) (by decide +kernel) rfl
theorem wc_yX10_law : (.code yX10_law cX10_law 5 (some .int) : Cond) ∈ lwg := mem_lwg (i := 1038) (by decide +kernel) rfl
theorem wm_R_law_62 : (.methodLink R_law 62 yX10_feed : Cond) ∈ lwg := mem_lwg (i := 1039) (by decide +kernel) rfl
theorem wi_yX10_feed : (.instanceMethod yX10_feed : Cond) ∈ lwg := mem_lwg (i := 1040) (by decide +kernel) rfl
theorem wv_yX10_feed : (.selects RX10 yX10_feed yX10_feed : Cond) ∈ lwg := mem_lwg (i := 1041) (by decide +kernel) rfl
theorem wc_yX10_feed : (.code yX10_feed cX10_feed 5 (some .int) : Cond) ∈ lwg := mem_lwg (i := 1042) (by decide +kernel) rfl
theorem wk_RX10_171 : (.constantLong RX10 171 (255) : Cond) ∈ lwg := mem_lwg (i := 1043) (by decide +kernel) rfl
theorem wm_R_law_67 : (.methodLink R_law 67 yX10_text : Cond) ∈ lwg := mem_lwg (i := 1044) (by decide +kernel) rfl
theorem wi_yX10_text : (.instanceMethod yX10_text : Cond) ∈ lwg := mem_lwg (i := 1045) (by decide +kernel) rfl
theorem wv_yX10_text : (.selects RX10 yX10_text yX10_text : Cond) ∈ lwg := mem_lwg (i := 1046) (by decide +kernel) rfl
theorem wc_yX10_text : (.code yX10_text cX10_text 3 (some .int) : Cond) ∈ lwg := mem_lwg (i := 1047) (by decide +kernel) rfl
theorem wm_RX10_142 : (.methodLink RX10 142 yX10_whole : Cond) ∈ lwg := mem_lwg (i := 1048) (by decide +kernel) rfl
theorem wi_yX10_whole : (.instanceMethod yX10_whole : Cond) ∈ lwg := mem_lwg (i := 1050) (by decide +kernel) rfl
theorem wc_yX10_whole : (.code yX10_whole cX10_whole 1 none : Cond) ∈ lwg := mem_lwg (i := 1051) (by decide +kernel) rfl
theorem wm_RX10_154 : (.methodLink RX10 154 yX10_both : Cond) ∈ lwg := mem_lwg (i := 1052) (by decide +kernel) rfl
theorem wi_yX10_both : (.instanceMethod yX10_both : Cond) ∈ lwg := mem_lwg (i := 1054) (by decide +kernel) rfl
theorem wc_yX10_both : (.code yX10_both cX10_both 1 none : Cond) ∈ lwg := mem_lwg (i := 1055) (by decide +kernel) rfl
theorem wm_RX10_151 : (.methodLink RX10 151 yX10_compared : Cond) ∈ lwg := mem_lwg (i := 1056) (by decide +kernel) rfl
theorem wi_yX10_compared : (.instanceMethod yX10_compared : Cond) ∈ lwg := mem_lwg (i := 1058) (by decide +kernel) rfl
theorem wc_yX10_compared : (.code yX10_compared cX10_compared 2 none : Cond) ∈ lwg := mem_lwg (i := 1059) (by decide +kernel) rfl
theorem wm_RX10_148 : (.methodLink RX10 148 yX10_sum : Cond) ∈ lwg := mem_lwg (i := 1060) (by decide +kernel) rfl
theorem wi_yX10_sum : (.instanceMethod yX10_sum : Cond) ∈ lwg := mem_lwg (i := 1062) (by decide +kernel) rfl
theorem wc_yX10_sum : (.code yX10_sum cX10_sum 2 none : Cond) ∈ lwg := mem_lwg (i := 1063) (by decide +kernel) rfl
theorem wm_RX10_145 : (.methodLink RX10 145 yX10_product : Cond) ∈ lwg := mem_lwg (i := 1064) (by decide +kernel) rfl
theorem wi_yX10_product : (.instanceMethod yX10_product : Cond) ∈ lwg := mem_lwg (i := 1066) (by decide +kernel) rfl
theorem wc_yX10_product : (.code yX10_product cX10_product 2 none : Cond) ∈ lwg := mem_lwg (i := 1067) (by decide +kernel) rfl
theorem wm_RX10_139 : (.methodLink RX10 139 yX10_factor : Cond) ∈ lwg := mem_lwg (i := 1068) (by decide +kernel) rfl
theorem wi_yX10_factor : (.instanceMethod yX10_factor : Cond) ∈ lwg := mem_lwg (i := 1070) (by decide +kernel) rfl
theorem wc_yX10_factor : (.code yX10_factor cX10_factor 2 none : Cond) ∈ lwg := mem_lwg (i := 1071) (by decide +kernel) rfl
theorem wm_RX10_117 : (.methodLink RX10 117 yX10_byteAt : Cond) ∈ lwg := mem_lwg (i := 1072) (by decide +kernel) rfl
theorem wi_yX10_byteAt : (.instanceMethod yX10_byteAt : Cond) ∈ lwg := mem_lwg (i := 1074) (by decide +kernel) rfl
theorem wc_yX10_byteAt : (.code yX10_byteAt cX10_byteAt 2 (some .int) : Cond) ∈ lwg := mem_lwg (i := 1075) (by decide +kernel) rfl
theorem wm_RX10_120 : (.methodLink RX10 120 yX10_isDigit : Cond) ∈ lwg := mem_lwg (i := 1076) (by decide +kernel) rfl
theorem wt_yX10_isDigit : (.static yX10_isDigit : Cond) ∈ lwg := mem_lwg (i := 1077) (by decide +kernel) rfl
theorem wc_yX10_isDigit : (.code yX10_isDigit cX10_isDigit 1 (some .boolean) : Cond) ∈ lwg := mem_lwg (i := 1078) (by decide +kernel) rfl
theorem wm_RX10_130 : (.methodLink RX10 130 yX10_number : Cond) ∈ lwg := mem_lwg (i := 1079) (by decide +kernel) rfl
theorem wi_yX10_number : (.instanceMethod yX10_number : Cond) ∈ lwg := mem_lwg (i := 1081) (by decide +kernel) rfl
theorem wc_yX10_number : (.code yX10_number cX10_number 3 none : Cond) ∈ lwg := mem_lwg (i := 1082) (by decide +kernel) rfl
theorem wm_RX10_123 : (.methodLink RX10 123 yX10_adds : Cond) ∈ lwg := mem_lwg (i := 1083) (by decide +kernel) rfl
theorem wi_yX10_adds : (.instanceMethod yX10_adds : Cond) ∈ lwg := mem_lwg (i := 1085) (by decide +kernel) rfl
theorem wc_yX10_adds : (.code yX10_adds cX10_adds 2 none : Cond) ∈ lwg := mem_lwg (i := 1086) (by decide +kernel) rfl
theorem wm_RX10_133 : (.methodLink RX10 133 yX10_named : Cond) ∈ lwg := mem_lwg (i := 1087) (by decide +kernel) rfl
theorem wi_yX10_named : (.instanceMethod yX10_named : Cond) ∈ lwg := mem_lwg (i := 1089) (by decide +kernel) rfl
theorem wc_yX10_named : (.code yX10_named cX10_named 5 none : Cond) ∈ lwg := mem_lwg (i := 1090) (by decide +kernel) rfl
theorem wm_R_law_75 : (.methodLink R_law 75 yX10_hours : Cond) ∈ lwg := mem_lwg (i := 1091) (by decide +kernel) rfl
theorem wi_yX10_hours : (.instanceMethod yX10_hours : Cond) ∈ lwg := mem_lwg (i := 1092) (by decide +kernel) rfl
theorem wv_yX10_hours : (.selects RX10 yX10_hours yX10_hours : Cond) ∈ lwg := mem_lwg (i := 1093) (by decide +kernel) rfl
theorem wc_yX10_hours : (.code yX10_hours cX10_hours 2 (some .int) : Cond) ∈ lwg := mem_lwg (i := 1094) (by decide +kernel) rfl
theorem wk_RX10_199 : (.constant RX10 199 (-1000000003) : Cond) ∈ lwg := mem_lwg (i := 1095) (by decide +kernel) rfl
theorem wm_RX10_192 : (.methodLink RX10 192 yX10_passes : Cond) ∈ lwg := mem_lwg (i := 1096) (by decide +kernel) rfl
theorem wi_yX10_passes : (.instanceMethod yX10_passes : Cond) ∈ lwg := mem_lwg (i := 1098) (by decide +kernel) rfl
theorem wc_yX10_passes : (.code yX10_passes cX10_passes 3 none : Cond) ∈ lwg := mem_lwg (i := 1099) (by decide +kernel) rfl
theorem wm_RX10_185 : (.methodLink RX10 185 yX10_oneHour : Cond) ∈ lwg := mem_lwg (i := 1100) (by decide +kernel) rfl
theorem wi_yX10_oneHour : (.instanceMethod yX10_oneHour : Cond) ∈ lwg := mem_lwg (i := 1102) (by decide +kernel) rfl
theorem wc_yX10_oneHour : (.code yX10_oneHour cX10_oneHour 2 none : Cond) ∈ lwg := mem_lwg (i := 1103) (by decide +kernel) rfl
theorem wm_RX10_182 : (.methodLink RX10 182 yX10_seeks : Cond) ∈ lwg := mem_lwg (i := 1104) (by decide +kernel) rfl
theorem wi_yX10_seeks : (.instanceMethod yX10_seeks : Cond) ∈ lwg := mem_lwg (i := 1106) (by decide +kernel) rfl
theorem wc_yX10_seeks : (.code yX10_seeks cX10_seeks 4 none : Cond) ∈ lwg := mem_lwg (i := 1107) (by decide +kernel) rfl
theorem wm_RX10_195 : (.methodLink RX10 195 yX10_foundSet : Cond) ∈ lwg := mem_lwg (i := 1108) (by decide +kernel) rfl
theorem wi_yX10_foundSet : (.instanceMethod yX10_foundSet : Cond) ∈ lwg := mem_lwg (i := 1110) (by decide +kernel) rfl
theorem wc_yX10_foundSet : (.code yX10_foundSet cX10_foundSet 3 (some .int) : Cond) ∈ lwg := mem_lwg (i := 1111) (by decide +kernel) rfl
theorem wm_R_law_79 : (.methodLink R_law 79 yX10_loose : Cond) ∈ lwg := mem_lwg (i := 1112) (by decide +kernel) rfl
theorem wi_yX10_loose : (.instanceMethod yX10_loose : Cond) ∈ lwg := mem_lwg (i := 1113) (by decide +kernel) rfl
theorem wv_yX10_loose : (.selects RX10 yX10_loose yX10_loose : Cond) ∈ lwg := mem_lwg (i := 1114) (by decide +kernel) rfl
theorem wc_yX10_loose : (.code yX10_loose cX10_loose 5 (some .int) : Cond) ∈ lwg := mem_lwg (i := 1115) (by decide +kernel) rfl
theorem wm_RX10_201 : (.methodLink RX10 201 yX10_drawn : Cond) ∈ lwg := mem_lwg (i := 1116) (by decide +kernel) rfl
theorem wi_yX10_drawn : (.instanceMethod yX10_drawn : Cond) ∈ lwg := mem_lwg (i := 1118) (by decide +kernel) rfl
theorem wc_yX10_drawn : (.code yX10_drawn cX10_drawn 1 (some .int) : Cond) ∈ lwg := mem_lwg (i := 1119) (by decide +kernel) rfl
theorem wk_RX10_200 : (.constant RX10 200 (1103515245) : Cond) ∈ lwg := mem_lwg (i := 1120) (by decide +kernel) rfl
theorem wm_R_law_83 : (.methodLink R_law 83 yX10_then : Cond) ∈ lwg := mem_lwg (i := 1121) (by decide +kernel) rfl
theorem wi_yX10_then : (.instanceMethod yX10_then : Cond) ∈ lwg := mem_lwg (i := 1122) (by decide +kernel) rfl
theorem wv_yX10_then : (.selects RX10 yX10_then yX10_then : Cond) ∈ lwg := mem_lwg (i := 1123) (by decide +kernel) rfl
theorem wc_yX10_then : (.code yX10_then cX10_then 5 (some .int) : Cond) ∈ lwg := mem_lwg (i := 1124) (by decide +kernel) rfl
theorem wm_RX10_188 : (.methodLink RX10 188 yX10_moveAll : Cond) ∈ lwg := mem_lwg (i := 1125) (by decide +kernel) rfl
theorem wi_yX10_moveAll : (.instanceMethod yX10_moveAll : Cond) ∈ lwg := mem_lwg (i := 1127) (by decide +kernel) rfl
theorem wc_yX10_moveAll : (.code yX10_moveAll cX10_moveAll 4 none : Cond) ∈ lwg := mem_lwg (i := 1128) (by decide +kernel) rfl
theorem wm_R_law_87 : (.methodLink R_law 87 yX10_when : Cond) ∈ lwg := mem_lwg (i := 1129) (by decide +kernel) rfl
theorem wi_yX10_when : (.instanceMethod yX10_when : Cond) ∈ lwg := mem_lwg (i := 1130) (by decide +kernel) rfl
theorem wv_yX10_when : (.selects RX10 yX10_when yX10_when : Cond) ∈ lwg := mem_lwg (i := 1131) (by decide +kernel) rfl
theorem wc_yX10_when : (.code yX10_when cX10_when 3 (some .int) : Cond) ∈ lwg := mem_lwg (i := 1132) (by decide +kernel) rfl
theorem wk_RX10_204 : (.constant RX10 204 (-1000000002) : Cond) ∈ lwg := mem_lwg (i := 1133) (by decide +kernel) rfl
theorem wm_R_law_92 : (.methodLink R_law 92 yX10_saved : Cond) ∈ lwg := mem_lwg (i := 1134) (by decide +kernel) rfl
theorem wi_yX10_saved : (.instanceMethod yX10_saved : Cond) ∈ lwg := mem_lwg (i := 1135) (by decide +kernel) rfl
theorem wv_yX10_saved : (.selects RX10 yX10_saved yX10_saved : Cond) ∈ lwg := mem_lwg (i := 1136) (by decide +kernel) rfl
theorem wc_yX10_saved : (.code yX10_saved cX10_saved 1 (some .int) : Cond) ∈ lwg := mem_lwg (i := 1137) (by decide +kernel) rfl
theorem wm_RX10_205 : (.methodLink RX10 205 yX10_foundBehind : Cond) ∈ lwg := mem_lwg (i := 1138) (by decide +kernel) rfl
theorem wi_yX10_foundBehind : (.instanceMethod yX10_foundBehind : Cond) ∈ lwg := mem_lwg (i := 1140) (by decide +kernel) rfl
theorem wc_yX10_foundBehind : (.code yX10_foundBehind cX10_foundBehind 3 (some .int) : Cond) ∈ lwg := mem_lwg (i := 1141) (by decide +kernel) rfl
theorem wm_R_law_96 : (.methodLink R_law 96 yX10_add : Cond) ∈ lwg := mem_lwg (i := 1142) (by decide +kernel) rfl
theorem wi_yX10_add : (.instanceMethod yX10_add : Cond) ∈ lwg := mem_lwg (i := 1143) (by decide +kernel) rfl
theorem wv_yX10_add : (.selects RX10 yX10_add yX10_add : Cond) ∈ lwg := mem_lwg (i := 1144) (by decide +kernel) rfl
theorem wc_yX10_add : (.code yX10_add cX10_add 6 (some .int) : Cond) ∈ lwg := mem_lwg (i := 1145) (by decide +kernel) rfl
theorem wm_R_law_100 : (.methodLink R_law 100 yX10_start : Cond) ∈ lwg := mem_lwg (i := 1146) (by decide +kernel) rfl
theorem wi_yX10_start : (.instanceMethod yX10_start : Cond) ∈ lwg := mem_lwg (i := 1147) (by decide +kernel) rfl
theorem wv_yX10_start : (.selects RX10 yX10_start yX10_start : Cond) ∈ lwg := mem_lwg (i := 1148) (by decide +kernel) rfl
theorem wc_yX10_start : (.code yX10_start cX10_start 9 (some .int) : Cond) ∈ lwg := mem_lwg (i := 1149) (by decide +kernel) rfl
theorem wm_R_law_104 : (.methodLink R_law 104 yX10_missed : Cond) ∈ lwg := mem_lwg (i := 1150) (by decide +kernel) rfl
theorem wi_yX10_missed : (.instanceMethod yX10_missed : Cond) ∈ lwg := mem_lwg (i := 1151) (by decide +kernel) rfl
theorem wv_yX10_missed : (.selects RX10 yX10_missed yX10_missed : Cond) ∈ lwg := mem_lwg (i := 1152) (by decide +kernel) rfl
theorem wc_yX10_missed : (.code yX10_missed cX10_missed 7 (some .int) : Cond) ∈ lwg := mem_lwg (i := 1153) (by decide +kernel) rfl
theorem wm_R_law_108 : (.methodLink R_law 108 yX10_nobody : Cond) ∈ lwg := mem_lwg (i := 1154) (by decide +kernel) rfl
theorem wi_yX10_nobody : (.instanceMethod yX10_nobody : Cond) ∈ lwg := mem_lwg (i := 1155) (by decide +kernel) rfl
theorem wv_yX10_nobody : (.selects RX10 yX10_nobody yX10_nobody : Cond) ∈ lwg := mem_lwg (i := 1156) (by decide +kernel) rfl
theorem wc_yX10_nobody : (.code yX10_nobody cX10_nobody 4 (some .int) : Cond) ∈ lwg := mem_lwg (i := 1157) (by decide +kernel) rfl
theorem wm_R_law_112 : (.methodLink R_law 112 yX10_lies : Cond) ∈ lwg := mem_lwg (i := 1158) (by decide +kernel) rfl
theorem wi_yX10_lies : (.instanceMethod yX10_lies : Cond) ∈ lwg := mem_lwg (i := 1159) (by decide +kernel) rfl
theorem wv_yX10_lies : (.selects RX10 yX10_lies yX10_lies : Cond) ∈ lwg := mem_lwg (i := 1160) (by decide +kernel) rfl
theorem wc_yX10_lies : (.code yX10_lies cX10_lies 7 (some .int) : Cond) ∈ lwg := mem_lwg (i := 1161) (by decide +kernel) rfl
theorem wm_RX10_208 : (.methodLink RX10 208 yX10_isSheet : Cond) ∈ lwg := mem_lwg (i := 1162) (by decide +kernel) rfl
theorem wt_yX10_isSheet : (.static yX10_isSheet : Cond) ∈ lwg := mem_lwg (i := 1163) (by decide +kernel) rfl
theorem wc_yX10_isSheet : (.code yX10_isSheet cX10_isSheet 1 (some .boolean) : Cond) ∈ lwg := mem_lwg (i := 1164) (by decide +kernel) rfl
theorem wm_RX10_211 : (.methodLink RX10 211 yX10_isSnowSo : Cond) ∈ lwg := mem_lwg (i := 1165) (by decide +kernel) rfl
theorem wi_yX10_isSnowSo : (.instanceMethod yX10_isSnowSo : Cond) ∈ lwg := mem_lwg (i := 1167) (by decide +kernel) rfl
theorem wc_yX10_isSnowSo : (.code yX10_isSnowSo cX10_isSnowSo 4 (some .boolean) : Cond) ∈ lwg := mem_lwg (i := 1168) (by decide +kernel) rfl
theorem wm_R_law_116 : (.methodLink R_law 116 yX10_order : Cond) ∈ lwg := mem_lwg (i := 1169) (by decide +kernel) rfl
theorem wi_yX10_order : (.instanceMethod yX10_order : Cond) ∈ lwg := mem_lwg (i := 1170) (by decide +kernel) rfl
theorem wv_yX10_order : (.selects RX10 yX10_order yX10_order : Cond) ∈ lwg := mem_lwg (i := 1171) (by decide +kernel) rfl
theorem wc_yX10_order : (.code yX10_order cX10_order 6 (some .int) : Cond) ∈ lwg := mem_lwg (i := 1172) (by decide +kernel) rfl
theorem wm_R_law_120 : (.methodLink R_law 120 yX10_strong : Cond) ∈ lwg := mem_lwg (i := 1173) (by decide +kernel) rfl
theorem wi_yX10_strong : (.instanceMethod yX10_strong : Cond) ∈ lwg := mem_lwg (i := 1174) (by decide +kernel) rfl
theorem wv_yX10_strong : (.selects RX10 yX10_strong yX10_strong : Cond) ∈ lwg := mem_lwg (i := 1175) (by decide +kernel) rfl
theorem wc_yX10_strong : (.code yX10_strong cX10_strong 8 (some .int) : Cond) ∈ lwg := mem_lwg (i := 1176) (by decide +kernel) rfl
theorem wm_R_law_124 : (.methodLink R_law 124 yX10_odds : Cond) ∈ lwg := mem_lwg (i := 1177) (by decide +kernel) rfl
theorem wi_yX10_odds : (.instanceMethod yX10_odds : Cond) ∈ lwg := mem_lwg (i := 1178) (by decide +kernel) rfl
theorem wv_yX10_odds : (.selects RX10 yX10_odds yX10_odds : Cond) ∈ lwg := mem_lwg (i := 1179) (by decide +kernel) rfl
theorem wc_yX10_odds : (.code yX10_odds cX10_odds 7 (some .int) : Cond) ∈ lwg := mem_lwg (i := 1180) (by decide +kernel) rfl
theorem wm_RX10_214 : (.methodLink RX10 214 yX10_divisor : Cond) ∈ lwg := mem_lwg (i := 1181) (by decide +kernel) rfl
theorem wt_yX10_divisor : (.static yX10_divisor : Cond) ∈ lwg := mem_lwg (i := 1182) (by decide +kernel) rfl
theorem wc_yX10_divisor : (.code yX10_divisor cX10_divisor 5 (some .int) : Cond) ∈ lwg := mem_lwg (i := 1183) (by decide +kernel) rfl
theorem wm_R_law_128 : (.methodLink R_law 128 yX10_seed : Cond) ∈ lwg := mem_lwg (i := 1184) (by decide +kernel) rfl
theorem wi_yX10_seed : (.instanceMethod yX10_seed : Cond) ∈ lwg := mem_lwg (i := 1185) (by decide +kernel) rfl
theorem wv_yX10_seed : (.selects RX10 yX10_seed yX10_seed : Cond) ∈ lwg := mem_lwg (i := 1186) (by decide +kernel) rfl
theorem wc_yX10_seed : (.code yX10_seed cX10_seed 3 (some .int) : Cond) ∈ lwg := mem_lwg (i := 1187) (by decide +kernel) rfl
theorem wm_R_law_132 : (.methodLink R_law 132 yX10_voice : Cond) ∈ lwg := mem_lwg (i := 1188) (by decide +kernel) rfl
theorem wi_yX10_voice : (.instanceMethod yX10_voice : Cond) ∈ lwg := mem_lwg (i := 1189) (by decide +kernel) rfl
theorem wv_yX10_voice : (.selects RX10 yX10_voice yX10_voice : Cond) ∈ lwg := mem_lwg (i := 1190) (by decide +kernel) rfl
theorem wc_yX10_voice : (.code yX10_voice cX10_voice 4 (some .int) : Cond) ∈ lwg := mem_lwg (i := 1191) (by decide +kernel) rfl
theorem wm_RX10_226 : (.methodLink RX10 226 yX10_bleatsIn : Cond) ∈ lwg := mem_lwg (i := 1192) (by decide +kernel) rfl
theorem wi_yX10_bleatsIn : (.instanceMethod yX10_bleatsIn : Cond) ∈ lwg := mem_lwg (i := 1194) (by decide +kernel) rfl
theorem wc_yX10_bleatsIn : (.code yX10_bleatsIn cX10_bleatsIn 3 (some .int) : Cond) ∈ lwg := mem_lwg (i := 1195) (by decide +kernel) rfl
theorem wm_RX10_220 : (.methodLink RX10 220 yX10_ran : Cond) ∈ lwg := mem_lwg (i := 1196) (by decide +kernel) rfl
theorem wi_yX10_ran : (.instanceMethod yX10_ran : Cond) ∈ lwg := mem_lwg (i := 1198) (by decide +kernel) rfl
theorem wc_yX10_ran : (.code yX10_ran cX10_ran 2 none : Cond) ∈ lwg := mem_lwg (i := 1199) (by decide +kernel) rfl
theorem wm_RX10_238 : (.methodLink RX10 238 yX10_waitsIn : Cond) ∈ lwg := mem_lwg (i := 1200) (by decide +kernel) rfl
theorem wi_yX10_waitsIn : (.instanceMethod yX10_waitsIn : Cond) ∈ lwg := mem_lwg (i := 1202) (by decide +kernel) rfl
theorem wc_yX10_waitsIn : (.code yX10_waitsIn cX10_waitsIn 4 (some .int) : Cond) ∈ lwg := mem_lwg (i := 1203) (by decide +kernel) rfl
theorem wm_RX10_232 : (.methodLink RX10 232 yX10_shiversIn : Cond) ∈ lwg := mem_lwg (i := 1204) (by decide +kernel) rfl
theorem wi_yX10_shiversIn : (.instanceMethod yX10_shiversIn : Cond) ∈ lwg := mem_lwg (i := 1206) (by decide +kernel) rfl
theorem wc_yX10_shiversIn : (.code yX10_shiversIn cX10_shiversIn 3 (some .int) : Cond) ∈ lwg := mem_lwg (i := 1207) (by decide +kernel) rfl
theorem wm_RX10_241 : (.methodLink RX10 241 yX10_tellsIn : Cond) ∈ lwg := mem_lwg (i := 1208) (by decide +kernel) rfl
theorem wi_yX10_tellsIn : (.instanceMethod yX10_tellsIn : Cond) ∈ lwg := mem_lwg (i := 1210) (by decide +kernel) rfl
theorem wc_yX10_tellsIn : (.code yX10_tellsIn cX10_tellsIn 4 (some .int) : Cond) ∈ lwg := mem_lwg (i := 1211) (by decide +kernel) rfl
theorem wm_R_law_136 : (.methodLink R_law 136 yX10_trace : Cond) ∈ lwg := mem_lwg (i := 1212) (by decide +kernel) rfl
theorem wi_yX10_trace : (.instanceMethod yX10_trace : Cond) ∈ lwg := mem_lwg (i := 1213) (by decide +kernel) rfl
theorem wv_yX10_trace : (.selects RX10 yX10_trace yX10_trace : Cond) ∈ lwg := mem_lwg (i := 1214) (by decide +kernel) rfl
theorem wc_yX10_trace : (.code yX10_trace cX10_trace 2 (some .int) : Cond) ∈ lwg := mem_lwg (i := 1215) (by decide +kernel) rfl
theorem wm_R_law_140 : (.methodLink R_law 140 yX10_sheet : Cond) ∈ lwg := mem_lwg (i := 1216) (by decide +kernel) rfl
theorem wi_yX10_sheet : (.instanceMethod yX10_sheet : Cond) ∈ lwg := mem_lwg (i := 1217) (by decide +kernel) rfl
theorem wv_yX10_sheet : (.selects RX10 yX10_sheet yX10_sheet : Cond) ∈ lwg := mem_lwg (i := 1218) (by decide +kernel) rfl
theorem wc_yX10_sheet : (.code yX10_sheet cX10_sheet 5 (some .int) : Cond) ∈ lwg := mem_lwg (i := 1219) (by decide +kernel) rfl
theorem wm_R_law_144 : (.methodLink R_law 144 yX10_put : Cond) ∈ lwg := mem_lwg (i := 1220) (by decide +kernel) rfl
theorem wi_yX10_put : (.instanceMethod yX10_put : Cond) ∈ lwg := mem_lwg (i := 1221) (by decide +kernel) rfl
theorem wv_yX10_put : (.selects RX10 yX10_put yX10_put : Cond) ∈ lwg := mem_lwg (i := 1222) (by decide +kernel) rfl
theorem wc_yX10_put : (.code yX10_put cX10_put 4 (some .int) : Cond) ∈ lwg := mem_lwg (i := 1223) (by decide +kernel) rfl
theorem wm_RX10_244 : (.methodLink RX10 244 yX10_narrow : Cond) ∈ lwg := mem_lwg (i := 1224) (by decide +kernel) rfl
theorem wt_yX10_narrow : (.static yX10_narrow : Cond) ∈ lwg := mem_lwg (i := 1225) (by decide +kernel) rfl
theorem wc_yX10_narrow : (.code yX10_narrow cX10_narrow 2 (some .int) : Cond) ∈ lwg := mem_lwg (i := 1226) (by decide +kernel) rfl
theorem wm_R_law_149 : (.methodLink R_law 149 yX10_move : Cond) ∈ lwg := mem_lwg (i := 1227) (by decide +kernel) rfl
theorem wi_yX10_move : (.instanceMethod yX10_move : Cond) ∈ lwg := mem_lwg (i := 1228) (by decide +kernel) rfl
theorem wv_yX10_move : (.selects RX10 yX10_move yX10_move : Cond) ∈ lwg := mem_lwg (i := 1229) (by decide +kernel) rfl
theorem wc_yX10_move : (.code yX10_move cX10_move 7 (some .int) : Cond) ∈ lwg := mem_lwg (i := 1230) (by decide +kernel) rfl
theorem wm_R_law_153 : (.methodLink R_law 153 yX10_snows : Cond) ∈ lwg := mem_lwg (i := 1231) (by decide +kernel) rfl
theorem wi_yX10_snows : (.instanceMethod yX10_snows : Cond) ∈ lwg := mem_lwg (i := 1232) (by decide +kernel) rfl
theorem wv_yX10_snows : (.selects RX10 yX10_snows yX10_snows : Cond) ∈ lwg := mem_lwg (i := 1233) (by decide +kernel) rfl
theorem wc_yX10_snows : (.code yX10_snows cX10_snows 3 (some .int) : Cond) ∈ lwg := mem_lwg (i := 1234) (by decide +kernel) rfl
theorem wm_R_law_157 : (.methodLink R_law 157 yX10_judge : Cond) ∈ lwg := mem_lwg (i := 1235) (by decide +kernel) rfl
theorem wi_yX10_judge : (.instanceMethod yX10_judge : Cond) ∈ lwg := mem_lwg (i := 1236) (by decide +kernel) rfl
theorem wv_yX10_judge : (.selects RX10 yX10_judge yX10_judge : Cond) ∈ lwg := mem_lwg (i := 1237) (by decide +kernel) rfl
theorem wc_yX10_judge : (.code yX10_judge cX10_judge 3 (some .int) : Cond) ∈ lwg := mem_lwg (i := 1238) (by decide +kernel) rfl
theorem wm_R_law_161 : (.methodLink R_law 161 yX10_image : Cond) ∈ lwg := mem_lwg (i := 1239) (by decide +kernel) rfl
theorem wi_yX10_image : (.instanceMethod yX10_image : Cond) ∈ lwg := mem_lwg (i := 1240) (by decide +kernel) rfl
theorem wv_yX10_image : (.selects RX10 yX10_image yX10_image : Cond) ∈ lwg := mem_lwg (i := 1241) (by decide +kernel) rfl
theorem wc_yX10_image : (.code yX10_image cX10_image 1 (some .int) : Cond) ∈ lwg := mem_lwg (i := 1242) (by decide +kernel) rfl
theorem wm_R_law_165 : (.methodLink R_law 165 yX10_restore : Cond) ∈ lwg := mem_lwg (i := 1243) (by decide +kernel) rfl
theorem wi_yX10_restore : (.instanceMethod yX10_restore : Cond) ∈ lwg := mem_lwg (i := 1244) (by decide +kernel) rfl
theorem wv_yX10_restore : (.selects RX10 yX10_restore yX10_restore : Cond) ∈ lwg := mem_lwg (i := 1245) (by decide +kernel) rfl
theorem wc_yX10_restore : (.code yX10_restore cX10_restore 1 (some .int) : Cond) ∈ lwg := mem_lwg (i := 1246) (by decide +kernel) rfl
theorem wm_R_law_169 : (.methodLink R_law 169 yX10_tell : Cond) ∈ lwg := mem_lwg (i := 1247) (by decide +kernel) rfl
theorem wi_yX10_tell : (.instanceMethod yX10_tell : Cond) ∈ lwg := mem_lwg (i := 1248) (by decide +kernel) rfl
theorem wv_yX10_tell : (.selects RX10 yX10_tell yX10_tell : Cond) ∈ lwg := mem_lwg (i := 1249) (by decide +kernel) rfl
theorem wc_yX10_tell : (.code yX10_tell cX10_tell 2 (some .int) : Cond) ∈ lwg := mem_lwg (i := 1250) (by decide +kernel) rfl
theorem wm_R_law_173 : (.methodLink R_law 173 yX10_check : Cond) ∈ lwg := mem_lwg (i := 1251) (by decide +kernel) rfl
theorem wi_yX10_check : (.instanceMethod yX10_check : Cond) ∈ lwg := mem_lwg (i := 1252) (by decide +kernel) rfl
theorem wv_yX10_check : (.selects RX10 yX10_check yX10_check : Cond) ∈ lwg := mem_lwg (i := 1253) (by decide +kernel) rfl
theorem wc_yX10_check : (.code yX10_check cX10_check 4 (some .int) : Cond) ∈ lwg := mem_lwg (i := 1254) (by decide +kernel) rfl
theorem wm_R_law_177 : (.methodLink R_law 177 yX10_count : Cond) ∈ lwg := mem_lwg (i := 1255) (by decide +kernel) rfl
theorem wi_yX10_count : (.instanceMethod yX10_count : Cond) ∈ lwg := mem_lwg (i := 1256) (by decide +kernel) rfl
theorem wv_yX10_count : (.selects RX10 yX10_count yX10_count : Cond) ∈ lwg := mem_lwg (i := 1257) (by decide +kernel) rfl
theorem wc_yX10_count : (.code yX10_count cX10_count 2 (some .int) : Cond) ∈ lwg := mem_lwg (i := 1258) (by decide +kernel) rfl
theorem wm_RX10_253 : (.methodLink RX10 253 yX10_snowOfAll : Cond) ∈ lwg := mem_lwg (i := 1259) (by decide +kernel) rfl
theorem wi_yX10_snowOfAll : (.instanceMethod yX10_snowOfAll : Cond) ∈ lwg := mem_lwg (i := 1261) (by decide +kernel) rfl
theorem wc_yX10_snowOfAll : (.code yX10_snowOfAll cX10_snowOfAll 3 (some .int) : Cond) ∈ lwg := mem_lwg (i := 1262) (by decide +kernel) rfl
theorem wm_RX10_256 : (.methodLink RX10 256 yX10_lostSet : Cond) ∈ lwg := mem_lwg (i := 1263) (by decide +kernel) rfl
theorem wi_yX10_lostSet : (.instanceMethod yX10_lostSet : Cond) ∈ lwg := mem_lwg (i := 1265) (by decide +kernel) rfl
theorem wc_yX10_lostSet : (.code yX10_lostSet cX10_lostSet 3 (some .int) : Cond) ∈ lwg := mem_lwg (i := 1266) (by decide +kernel) rfl
theorem wm_R_law_181 : (.methodLink R_law 181 yX10_told : Cond) ∈ lwg := mem_lwg (i := 1267) (by decide +kernel) rfl
theorem wi_yX10_told : (.instanceMethod yX10_told : Cond) ∈ lwg := mem_lwg (i := 1268) (by decide +kernel) rfl
theorem wv_yX10_told : (.selects RX10 yX10_told yX10_told : Cond) ∈ lwg := mem_lwg (i := 1269) (by decide +kernel) rfl
theorem wc_yX10_told : (.code yX10_told cX10_told 2 (some .int) : Cond) ∈ lwg := mem_lwg (i := 1270) (by decide +kernel) rfl
theorem wk_R_law_56 : (.constantLong R_law 56 (4294967295) : Cond) ∈ lwg := mem_lwg (i := 1271) (by decide +kernel) rfl
theorem wa_1210 : (.arrayClass .char : Cond) ∈ lwg := mem_lwg (i := 1272) (by decide +kernel) rfl
theorem wv_yX9_refuse : (.selects RX9 yX9_refuse yX9_refuse : Cond) ∈ lwg := mem_lwg (i := 0) (by decide +kernel) rfl
theorem wv_yX9_isSeeker : (.selects RX9 yX9_isSeeker yX9_isSeeker : Cond) ∈ lwg := mem_lwg (i := 1) (by decide +kernel) rfl
theorem wv_yX0_workOut : (.selects RX0 yX0_workOut yX0_workOut : Cond) ∈ lwg := mem_lwg (i := 2) (by decide +kernel) rfl
theorem wv_yX9_isMark : (.selects RX9 yX9_isMark yX9_isMark : Cond) ∈ lwg := mem_lwg (i := 3) (by decide +kernel) rfl
theorem wv_yX9_isSheep : (.selects RX9 yX9_isSheep yX9_isSheep : Cond) ∈ lwg := mem_lwg (i := 4) (by decide +kernel) rfl
theorem wv_yX5_heardAsLamb : (.selects RX5 yX5_heardAsLamb yX5_heardAsLamb : Cond) ∈ lwg := mem_lwg (i := 5) (by decide +kernel) rfl
theorem wv_yX9_isChange : (.selects RX9 yX9_isChange yX9_isChange : Cond) ∈ lwg := mem_lwg (i := 6) (by decide +kernel) rfl
theorem wv_yX2_readLevel : (.selects RX2 yX2_readLevel yX2_readLevel : Cond) ∈ lwg := mem_lwg (i := 7) (by decide +kernel) rfl
theorem wv_yX2_readFactor : (.selects RX2 yX2_readFactor yX2_readFactor : Cond) ∈ lwg := mem_lwg (i := 8) (by decide +kernel) rfl
theorem wv_yX2_next : (.selects RX2 yX2_next yX2_next : Cond) ∈ lwg := mem_lwg (i := 9) (by decide +kernel) rfl
theorem wv_yX2_readNumber : (.selects RX2 yX2_readNumber yX2_readNumber : Cond) ∈ lwg := mem_lwg (i := 10) (by decide +kernel) rfl
theorem wv_yX2_nameOf : (.selects RX2 yX2_nameOf yX2_nameOf : Cond) ∈ lwg := mem_lwg (i := 11) (by decide +kernel) rfl
theorem wv_yX2_readDenied : (.selects RX2 yX2_readDenied yX2_readDenied : Cond) ∈ lwg := mem_lwg (i := 12) (by decide +kernel) rfl
theorem wv_yX2_readEnclosed : (.selects RX2 yX2_readEnclosed yX2_readEnclosed : Cond) ∈ lwg := mem_lwg (i := 13) (by decide +kernel) rfl
theorem wv_yX1_passOneHour : (.selects RX1 yX1_passOneHour yX1_passOneHour : Cond) ∈ lwg := mem_lwg (i := 14) (by decide +kernel) rfl
theorem wv_yX1_seek : (.selects RX1 yX1_seek yX1_seek : Cond) ∈ lwg := mem_lwg (i := 15) (by decide +kernel) rfl
theorem wv_yX1_freeze : (.selects RX1 yX1_freeze yX1_freeze : Cond) ∈ lwg := mem_lwg (i := 16) (by decide +kernel) rfl
theorem wv_yX9_thinkFromNow : (.selects RX9 yX9_thinkFromNow yX9_thinkFromNow : Cond) ∈ lwg := mem_lwg (i := 17) (by decide +kernel) rfl
theorem wv_yX7_speak : (.selects RX7 yX7_speak yX7_speak : Cond) ∈ lwg := mem_lwg (i := 18) (by decide +kernel) rfl
theorem wv_yX7_workOut : (.selects RX7 yX7_workOut yX7_workOut : Cond) ∈ lwg := mem_lwg (i := 19) (by decide +kernel) rfl
theorem wv_yX7_own : (.selects RX7 yX7_own yX7_own : Cond) ∈ lwg := mem_lwg (i := 20) (by decide +kernel) rfl
theorem wv_yX7_above : (.selects RX7 yX7_above yX7_above : Cond) ∈ lwg := mem_lwg (i := 21) (by decide +kernel) rfl
theorem wv_yX10_becomes : (.selects RX10 yX10_becomes yX10_becomes : Cond) ∈ lwg := mem_lwg (i := 22) (by decide +kernel) rfl
theorem wv_yX10_errs : (.selects RX10 yX10_errs yX10_errs : Cond) ∈ lwg := mem_lwg (i := 23) (by decide +kernel) rfl
theorem wv_yX10_thereIn : (.selects RX10 yX10_thereIn yX10_thereIn : Cond) ∈ lwg := mem_lwg (i := 24) (by decide +kernel) rfl
theorem wv_yX10_its : (.selects RX10 yX10_its yX10_its : Cond) ∈ lwg := mem_lwg (i := 25) (by decide +kernel) rfl
theorem wv_yX10_at : (.selects RX10 yX10_at yX10_at : Cond) ∈ lwg := mem_lwg (i := 26) (by decide +kernel) rfl
theorem wv_yX10_isSeeker : (.selects RX10 yX10_isSeeker yX10_isSeeker : Cond) ∈ lwg := mem_lwg (i := 27) (by decide +kernel) rfl
theorem wv_yX10_outFor : (.selects RX10 yX10_outFor yX10_outFor : Cond) ∈ lwg := mem_lwg (i := 28) (by decide +kernel) rfl
theorem wv_yX10_isLost : (.selects RX10 yX10_isLost yX10_isLost : Cond) ∈ lwg := mem_lwg (i := 29) (by decide +kernel) rfl
theorem wv_yX10_lawOf : (.selects RX10 yX10_lawOf yX10_lawOf : Cond) ∈ lwg := mem_lwg (i := 30) (by decide +kernel) rfl
theorem wv_yX10_walks : (.selects RX10 yX10_walks yX10_walks : Cond) ∈ lwg := mem_lwg (i := 31) (by decide +kernel) rfl
theorem wv_yX10_isMark : (.selects RX10 yX10_isMark yX10_isMark : Cond) ∈ lwg := mem_lwg (i := 32) (by decide +kernel) rfl
theorem wv_yX10_gets : (.selects RX10 yX10_gets yX10_gets : Cond) ∈ lwg := mem_lwg (i := 33) (by decide +kernel) rfl
theorem wv_yX10_isSheep : (.selects RX10 yX10_isSheep yX10_isSheep : Cond) ∈ lwg := mem_lwg (i := 34) (by decide +kernel) rfl
theorem wv_yX10_heard : (.selects RX10 yX10_heard yX10_heard : Cond) ∈ lwg := mem_lwg (i := 35) (by decide +kernel) rfl
theorem wv_yX10_cold : (.selects RX10 yX10_cold yX10_cold : Cond) ∈ lwg := mem_lwg (i := 36) (by decide +kernel) rfl
theorem wv_yX10_whole : (.selects RX10 yX10_whole yX10_whole : Cond) ∈ lwg := mem_lwg (i := 37) (by decide +kernel) rfl
theorem wv_yX10_both : (.selects RX10 yX10_both yX10_both : Cond) ∈ lwg := mem_lwg (i := 38) (by decide +kernel) rfl
theorem wv_yX10_compared : (.selects RX10 yX10_compared yX10_compared : Cond) ∈ lwg := mem_lwg (i := 39) (by decide +kernel) rfl
theorem wv_yX10_sum : (.selects RX10 yX10_sum yX10_sum : Cond) ∈ lwg := mem_lwg (i := 40) (by decide +kernel) rfl
theorem wv_yX10_product : (.selects RX10 yX10_product yX10_product : Cond) ∈ lwg := mem_lwg (i := 41) (by decide +kernel) rfl
theorem wv_yX10_factor : (.selects RX10 yX10_factor yX10_factor : Cond) ∈ lwg := mem_lwg (i := 42) (by decide +kernel) rfl
theorem wv_yX10_byteAt : (.selects RX10 yX10_byteAt yX10_byteAt : Cond) ∈ lwg := mem_lwg (i := 43) (by decide +kernel) rfl
theorem wv_yX10_number : (.selects RX10 yX10_number yX10_number : Cond) ∈ lwg := mem_lwg (i := 44) (by decide +kernel) rfl
theorem wv_yX10_adds : (.selects RX10 yX10_adds yX10_adds : Cond) ∈ lwg := mem_lwg (i := 45) (by decide +kernel) rfl
theorem wv_yX10_named : (.selects RX10 yX10_named yX10_named : Cond) ∈ lwg := mem_lwg (i := 46) (by decide +kernel) rfl
theorem wv_yX10_passes : (.selects RX10 yX10_passes yX10_passes : Cond) ∈ lwg := mem_lwg (i := 47) (by decide +kernel) rfl
theorem wv_yX10_oneHour : (.selects RX10 yX10_oneHour yX10_oneHour : Cond) ∈ lwg := mem_lwg (i := 48) (by decide +kernel) rfl
theorem wv_yX10_seeks : (.selects RX10 yX10_seeks yX10_seeks : Cond) ∈ lwg := mem_lwg (i := 49) (by decide +kernel) rfl
theorem wv_yX10_foundSet : (.selects RX10 yX10_foundSet yX10_foundSet : Cond) ∈ lwg := mem_lwg (i := 50) (by decide +kernel) rfl
theorem wv_yX10_drawn : (.selects RX10 yX10_drawn yX10_drawn : Cond) ∈ lwg := mem_lwg (i := 51) (by decide +kernel) rfl
theorem wv_yX10_moveAll : (.selects RX10 yX10_moveAll yX10_moveAll : Cond) ∈ lwg := mem_lwg (i := 52) (by decide +kernel) rfl
theorem wv_yX10_foundBehind : (.selects RX10 yX10_foundBehind yX10_foundBehind : Cond) ∈ lwg := mem_lwg (i := 53) (by decide +kernel) rfl
theorem wv_yX10_isSnowSo : (.selects RX10 yX10_isSnowSo yX10_isSnowSo : Cond) ∈ lwg := mem_lwg (i := 54) (by decide +kernel) rfl
theorem wv_yX10_bleatsIn : (.selects RX10 yX10_bleatsIn yX10_bleatsIn : Cond) ∈ lwg := mem_lwg (i := 55) (by decide +kernel) rfl
theorem wv_yX10_ran : (.selects RX10 yX10_ran yX10_ran : Cond) ∈ lwg := mem_lwg (i := 56) (by decide +kernel) rfl
theorem wv_yX10_waitsIn : (.selects RX10 yX10_waitsIn yX10_waitsIn : Cond) ∈ lwg := mem_lwg (i := 57) (by decide +kernel) rfl
theorem wv_yX10_shiversIn : (.selects RX10 yX10_shiversIn yX10_shiversIn : Cond) ∈ lwg := mem_lwg (i := 58) (by decide +kernel) rfl
theorem wv_yX10_tellsIn : (.selects RX10 yX10_tellsIn yX10_tellsIn : Cond) ∈ lwg := mem_lwg (i := 59) (by decide +kernel) rfl
theorem wv_yX10_snowOfAll : (.selects RX10 yX10_snowOfAll yX10_snowOfAll : Cond) ∈ lwg := mem_lwg (i := 60) (by decide +kernel) rfl
theorem wv_yX10_lostSet : (.selects RX10 yX10_lostSet yX10_lostSet : Cond) ∈ lwg := mem_lwg (i := 61) (by decide +kernel) rfl
theorem inX0 : ∀ w ∈ u_ws RX0 TX0 3, w ∈ lwg := by decide +kernel
theorem inX1 : ∀ w ∈ u_ws RX1 TX1 9, w ∈ lwg := by decide +kernel
theorem inX2 : ∀ w ∈ u_ws RX2 TX2 4, w ∈ lwg := by decide +kernel
theorem inX3 : ∀ w ∈ u_ws RX3 TX3 2, w ∈ lwg := by decide +kernel
theorem inX4 : ∀ w ∈ u_ws RX4 TX4 2, w ∈ lwg := by decide +kernel
theorem inX5 : ∀ w ∈ u_ws RX5 TX5 6, w ∈ lwg := by decide +kernel
theorem inX6 : ∀ w ∈ u_ws RX6 TX6 2, w ∈ lwg := by decide +kernel
theorem inX7 : ∀ w ∈ u_ws RX7 TX7 4, w ∈ lwg := by decide +kernel
theorem inX8 : ∀ w ∈ u_ws RX8 TX8 4, w ∈ lwg := by decide +kernel
theorem inX9 : ∀ w ∈ u_ws RX9 TX9 8, w ∈ lwg := by decide +kernel
theorem inX10 : ∀ w ∈ u_ws RX10 TX10 25, w ∈ lwg := by decide +kernel

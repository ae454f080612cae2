theorem wi_RL : Cond.initialized RL ∈ Wall := wall_of (List.mem_of_getElem? (i := 38) (by decide +kernel)) (by decide +kernel)
theorem wi_RX6 : Cond.initialized RX6 ∈ Wall := wall_of (List.mem_of_getElem? (i := 39) (by decide +kernel)) (by decide +kernel)
theorem wi_RX0 : Cond.initialized RX0 ∈ Wall := wall_of (List.mem_of_getElem? (i := 40) (by decide +kernel)) (by decide +kernel)
theorem wi_RX1 : Cond.initialized RX1 ∈ Wall := wall_of (List.mem_of_getElem? (i := 41) (by decide +kernel)) (by decide +kernel)
theorem wi_RX5 : Cond.initialized RX5 ∈ Wall := wall_of (List.mem_of_getElem? (i := 42) (by decide +kernel)) (by decide +kernel)
theorem wi_RX2 : Cond.initialized RX2 ∈ Wall := wall_of (List.mem_of_getElem? (i := 43) (by decide +kernel)) (by decide +kernel)
theorem wi_RX3 : Cond.initialized RX3 ∈ Wall := wall_of (List.mem_of_getElem? (i := 44) (by decide +kernel)) (by decide +kernel)
theorem wi_RX4 : Cond.initialized RX4 ∈ Wall := wall_of (List.mem_of_getElem? (i := 45) (by decide +kernel)) (by decide +kernel)
theorem wi_RX7 : Cond.initialized RX7 ∈ Wall := wall_of (List.mem_of_getElem? (i := 46) (by decide +kernel)) (by decide +kernel)
theorem wi_RJ10 : Cond.initialized RJ10 ∈ Wall := wall_of (List.mem_of_getElem? (i := 51) (by decide +kernel)) (by decide +kernel)
theorem wi_RJ9 : Cond.initialized RJ9 ∈ Wall := wall_of (List.mem_of_getElem? (i := 54) (by decide +kernel)) (by decide +kernel)
theorem wl_L_8 : Cond.classLink RL 8 RX6 ∈ Wall := wall_of (List.mem_of_getElem? (i := 55) (by decide +kernel)) (by decide +kernel)
theorem wt_X6 : Cond.instantiable RX6 4 ∈ Wall := wall_of (List.mem_of_getElem? (i := 56) (by decide +kernel)) (by decide +kernel)
theorem wm_L_63 : Cond.methodLink RL 63 yX6_init ∈ Wall := wall_of (List.mem_of_getElem? (i := 57) (by decide +kernel)) (by decide +kernel)
theorem wn_X6_init : Cond.instanceMethod yX6_init ∈ Wall := wall_of (List.mem_of_getElem? (i := 58) (by decide +kernel)) (by decide +kernel)
theorem wc_X6_init : Cond.code yX6_init cX6_init 2 none ∈ Wall := wall_of (List.mem_of_getElem? (i := 59) (by decide +kernel)) (by decide +kernel)
theorem wm_X6_1 : Cond.methodLink RX6 1 objectInit ∈ Wall := wall_of (List.mem_of_getElem? (i := 60) (by decide +kernel)) (by decide +kernel)
theorem wn_objectInit : Cond.instanceMethod objectInit ∈ Wall := wall_of (List.mem_of_getElem? (i := 61) (by decide +kernel)) (by decide +kernel)
theorem wc_objectInit : Cond.code objectInit ⟨#[0xb1]⟩ 1 none ∈ Wall := wall_of (List.mem_of_getElem? (i := 62) (by decide +kernel)) (by decide +kernel)
theorem wl_X6_7 : Cond.classLink RX6 7 RX0 ∈ Wall := wall_of (List.mem_of_getElem? (i := 63) (by decide +kernel)) (by decide +kernel)
theorem wt_X0 : Cond.instantiable RX0 9 ∈ Wall := wall_of (List.mem_of_getElem? (i := 64) (by decide +kernel)) (by decide +kernel)
theorem wm_X6_9 : Cond.methodLink RX6 9 yX0_init ∈ Wall := wall_of (List.mem_of_getElem? (i := 65) (by decide +kernel)) (by decide +kernel)
theorem wn_X0_init : Cond.instanceMethod yX0_init ∈ Wall := wall_of (List.mem_of_getElem? (i := 66) (by decide +kernel)) (by decide +kernel)
theorem wc_X0_init : Cond.code yX0_init cX0_init 1 none ∈ Wall := wall_of (List.mem_of_getElem? (i := 67) (by decide +kernel)) (by decide +kernel)
theorem wm_X0_3 : Cond.methodLink RX0 3 objectInit ∈ Wall := wall_of (List.mem_of_getElem? (i := 68) (by decide +kernel)) (by decide +kernel)
theorem wl_X0_9 : Cond.classLink RX0 9 RX1 ∈ Wall := wall_of (List.mem_of_getElem? (i := 69) (by decide +kernel)) (by decide +kernel)
theorem wt_X1 : Cond.instantiable RX1 8 ∈ Wall := wall_of (List.mem_of_getElem? (i := 70) (by decide +kernel)) (by decide +kernel)
theorem wm_X0_11 : Cond.methodLink RX0 11 yX1_init ∈ Wall := wall_of (List.mem_of_getElem? (i := 71) (by decide +kernel)) (by decide +kernel)
theorem wn_X1_init : Cond.instanceMethod yX1_init ∈ Wall := wall_of (List.mem_of_getElem? (i := 72) (by decide +kernel)) (by decide +kernel)
theorem wc_X1_init : Cond.code yX1_init cX1_init 2 none ∈ Wall := wall_of (List.mem_of_getElem? (i := 73) (by decide +kernel)) (by decide +kernel)
theorem wm_X1_3 : Cond.methodLink RX1 3 objectInit ∈ Wall := wall_of (List.mem_of_getElem? (i := 74) (by decide +kernel)) (by decide +kernel)
theorem wl_X1_9 : Cond.classLink RX1 9 RX5 ∈ Wall := wall_of (List.mem_of_getElem? (i := 75) (by decide +kernel)) (by decide +kernel)
theorem wt_X5 : Cond.instantiable RX5 16 ∈ Wall := wall_of (List.mem_of_getElem? (i := 77) (by decide +kernel)) (by decide +kernel)
theorem wm_X1_17 : Cond.methodLink RX1 17 yX5_init ∈ Wall := wall_of (List.mem_of_getElem? (i := 78) (by decide +kernel)) (by decide +kernel)
theorem wn_X5_init : Cond.instanceMethod yX5_init ∈ Wall := wall_of (List.mem_of_getElem? (i := 79) (by decide +kernel)) (by decide +kernel)
theorem wc_X5_init : Cond.code yX5_init cX5_init 1 none ∈ Wall := wall_of (List.mem_of_getElem? (i := 80) (by decide +kernel)) (by decide +kernel)
theorem wm_X5_3 : Cond.methodLink RX5 3 objectInit ∈ Wall := wall_of (List.mem_of_getElem? (i := 81) (by decide +kernel)) (by decide +kernel)
theorem wf_X5_36 : Cond.fieldLink RX5 36 (TX5 0).1 (TX5 0).2.1 (TX5 0).2.2.1 ∈ Wall := wall_of (List.mem_of_getElem? (i := 82) (by decide +kernel)) (by decide +kernel)
theorem wf_X0_150 : Cond.fieldLink RX0 150 (TX5 0).1 (TX5 0).2.1 (TX5 0).2.2.1 ∈ Wall := wall_of (List.mem_of_getElem? (i := 83) (by decide +kernel)) (by decide +kernel)
theorem wf_X5_39 : Cond.fieldLink RX5 39 (TX5 1).1 (TX5 1).2.1 (TX5 1).2.2.1 ∈ Wall := wall_of (List.mem_of_getElem? (i := 84) (by decide +kernel)) (by decide +kernel)
theorem wf_X0_151 : Cond.fieldLink RX0 151 (TX5 1).1 (TX5 1).2.1 (TX5 1).2.2.1 ∈ Wall := wall_of (List.mem_of_getElem? (i := 85) (by decide +kernel)) (by decide +kernel)
theorem wf_X1_159 : Cond.fieldLink RX1 159 (TX5 1).1 (TX5 1).2.1 (TX5 1).2.2.1 ∈ Wall := wall_of (List.mem_of_getElem? (i := 86) (by decide +kernel)) (by decide +kernel)
theorem wf_X5_42 : Cond.fieldLink RX5 42 (TX5 2).1 (TX5 2).2.1 (TX5 2).2.2.1 ∈ Wall := wall_of (List.mem_of_getElem? (i := 87) (by decide +kernel)) (by decide +kernel)
theorem wf_X0_154 : Cond.fieldLink RX0 154 (TX5 2).1 (TX5 2).2.1 (TX5 2).2.2.1 ∈ Wall := wall_of (List.mem_of_getElem? (i := 88) (by decide +kernel)) (by decide +kernel)
theorem wf_X1_156 : Cond.fieldLink RX1 156 (TX5 2).1 (TX5 2).2.1 (TX5 2).2.2.1 ∈ Wall := wall_of (List.mem_of_getElem? (i := 89) (by decide +kernel)) (by decide +kernel)
theorem wf_X5_45 : Cond.fieldLink RX5 45 (TX5 3).1 (TX5 3).2.1 (TX5 3).2.2.1 ∈ Wall := wall_of (List.mem_of_getElem? (i := 90) (by decide +kernel)) (by decide +kernel)
theorem wf_X0_157 : Cond.fieldLink RX0 157 (TX5 3).1 (TX5 3).2.1 (TX5 3).2.2.1 ∈ Wall := wall_of (List.mem_of_getElem? (i := 91) (by decide +kernel)) (by decide +kernel)
theorem wf_X1_165 : Cond.fieldLink RX1 165 (TX5 3).1 (TX5 3).2.1 (TX5 3).2.2.1 ∈ Wall := wall_of (List.mem_of_getElem? (i := 92) (by decide +kernel)) (by decide +kernel)
theorem wf_X5_19 : Cond.fieldLink RX5 19 (TX5 4).1 (TX5 4).2.1 (TX5 4).2.2.1 ∈ Wall := wall_of (List.mem_of_getElem? (i := 93) (by decide +kernel)) (by decide +kernel)
theorem wf_X0_160 : Cond.fieldLink RX0 160 (TX5 4).1 (TX5 4).2.1 (TX5 4).2.2.1 ∈ Wall := wall_of (List.mem_of_getElem? (i := 94) (by decide +kernel)) (by decide +kernel)
theorem wf_X5_23 : Cond.fieldLink RX5 23 (TX5 5).1 (TX5 5).2.1 (TX5 5).2.2.1 ∈ Wall := wall_of (List.mem_of_getElem? (i := 95) (by decide +kernel)) (by decide +kernel)
theorem wf_X0_163 : Cond.fieldLink RX0 163 (TX5 5).1 (TX5 5).2.1 (TX5 5).2.2.1 ∈ Wall := wall_of (List.mem_of_getElem? (i := 96) (by decide +kernel)) (by decide +kernel)
theorem wf_X5_26 : Cond.fieldLink RX5 26 (TX5 6).1 (TX5 6).2.1 (TX5 6).2.2.1 ∈ Wall := wall_of (List.mem_of_getElem? (i := 97) (by decide +kernel)) (by decide +kernel)
theorem wf_X0_166 : Cond.fieldLink RX0 166 (TX5 6).1 (TX5 6).2.1 (TX5 6).2.2.1 ∈ Wall := wall_of (List.mem_of_getElem? (i := 98) (by decide +kernel)) (by decide +kernel)
theorem wf_X5_48 : Cond.fieldLink RX5 48 (TX5 7).1 (TX5 7).2.1 (TX5 7).2.2.1 ∈ Wall := wall_of (List.mem_of_getElem? (i := 99) (by decide +kernel)) (by decide +kernel)
theorem wf_X1_96 : Cond.fieldLink RX1 96 (TX5 7).1 (TX5 7).2.1 (TX5 7).2.2.1 ∈ Wall := wall_of (List.mem_of_getElem? (i := 100) (by decide +kernel)) (by decide +kernel)
theorem wf_X0_172 : Cond.fieldLink RX0 172 (TX5 7).1 (TX5 7).2.1 (TX5 7).2.2.1 ∈ Wall := wall_of (List.mem_of_getElem? (i := 101) (by decide +kernel)) (by decide +kernel)
theorem wf_X5_29 : Cond.fieldLink RX5 29 (TX5 8).1 (TX5 8).2.1 (TX5 8).2.2.1 ∈ Wall := wall_of (List.mem_of_getElem? (i := 102) (by decide +kernel)) (by decide +kernel)
theorem wf_X1_93 : Cond.fieldLink RX1 93 (TX5 8).1 (TX5 8).2.1 (TX5 8).2.2.1 ∈ Wall := wall_of (List.mem_of_getElem? (i := 103) (by decide +kernel)) (by decide +kernel)
theorem wf_X0_169 : Cond.fieldLink RX0 169 (TX5 8).1 (TX5 8).2.1 (TX5 8).2.2.1 ∈ Wall := wall_of (List.mem_of_getElem? (i := 104) (by decide +kernel)) (by decide +kernel)
theorem wf_X5_33 : Cond.fieldLink RX5 33 (TX5 9).1 (TX5 9).2.1 (TX5 9).2.2.1 ∈ Wall := wall_of (List.mem_of_getElem? (i := 105) (by decide +kernel)) (by decide +kernel)
theorem wf_X6_116 : Cond.fieldLink RX6 116 (TX5 9).1 (TX5 9).2.1 (TX5 9).2.2.1 ∈ Wall := wall_of (List.mem_of_getElem? (i := 106) (by decide +kernel)) (by decide +kernel)
theorem wf_X0_202 : Cond.fieldLink RX0 202 (TX5 9).1 (TX5 9).2.1 (TX5 9).2.2.1 ∈ Wall := wall_of (List.mem_of_getElem? (i := 107) (by decide +kernel)) (by decide +kernel)
theorem wf_X5_11 : Cond.fieldLink RX5 11 (TX5 10).1 (TX5 10).2.1 (TX5 10).2.2.1 ∈ Wall := wall_of (List.mem_of_getElem? (i := 108) (by decide +kernel)) (by decide +kernel)
theorem wf_X5_51 : Cond.fieldLink RX5 51 (TX5 11).1 (TX5 11).2.1 (TX5 11).2.2.1 ∈ Wall := wall_of (List.mem_of_getElem? (i := 109) (by decide +kernel)) (by decide +kernel)
theorem wf_X5_54 : Cond.fieldLink RX5 54 (TX5 12).1 (TX5 12).2.1 (TX5 12).2.2.1 ∈ Wall := wall_of (List.mem_of_getElem? (i := 110) (by decide +kernel)) (by decide +kernel)
theorem wf_X0_178 : Cond.fieldLink RX0 178 (TX5 12).1 (TX5 12).2.1 (TX5 12).2.2.1 ∈ Wall := wall_of (List.mem_of_getElem? (i := 111) (by decide +kernel)) (by decide +kernel)
theorem wf_X1_153 : Cond.fieldLink RX1 153 (TX5 12).1 (TX5 12).2.1 (TX5 12).2.2.1 ∈ Wall := wall_of (List.mem_of_getElem? (i := 112) (by decide +kernel)) (by decide +kernel)
theorem wf_X5_57 : Cond.fieldLink RX5 57 (TX5 13).1 (TX5 13).2.1 (TX5 13).2.2.1 ∈ Wall := wall_of (List.mem_of_getElem? (i := 113) (by decide +kernel)) (by decide +kernel)
theorem wf_X0_175 : Cond.fieldLink RX0 175 (TX5 13).1 (TX5 13).2.1 (TX5 13).2.2.1 ∈ Wall := wall_of (List.mem_of_getElem? (i := 114) (by decide +kernel)) (by decide +kernel)
theorem wf_X1_150 : Cond.fieldLink RX1 150 (TX5 13).1 (TX5 13).2.1 (TX5 13).2.2.1 ∈ Wall := wall_of (List.mem_of_getElem? (i := 115) (by decide +kernel)) (by decide +kernel)
theorem wf_X5_72 : Cond.fieldLink RX5 72 (TX5 14).1 (TX5 14).2.1 (TX5 14).2.2.1 ∈ Wall := wall_of (List.mem_of_getElem? (i := 116) (by decide +kernel)) (by decide +kernel)
theorem wf_X0_113 : Cond.fieldLink RX0 113 (TX5 14).1 (TX5 14).2.1 (TX5 14).2.2.1 ∈ Wall := wall_of (List.mem_of_getElem? (i := 117) (by decide +kernel)) (by decide +kernel)
theorem wf_X1_139 : Cond.fieldLink RX1 139 (TX5 15).1 (TX5 15).2.1 (TX5 15).2.2.1 ∈ Wall := wall_of (List.mem_of_getElem? (i := 118) (by decide +kernel)) (by decide +kernel)
theorem wa_int : Cond.arrayClass .int ∈ Wall := wall_of (List.mem_of_getElem? (i := 152) (by decide +kernel)) (by decide +kernel)
theorem wl_X1_18 : Cond.classLink RX1 18 RX2 ∈ Wall := wall_of (List.mem_of_getElem? (i := 153) (by decide +kernel)) (by decide +kernel)
theorem wt_X2 : Cond.instantiable RX2 5 ∈ Wall := wall_of (List.mem_of_getElem? (i := 154) (by decide +kernel)) (by decide +kernel)
theorem wm_X1_20 : Cond.methodLink RX1 20 yX2_init ∈ Wall := wall_of (List.mem_of_getElem? (i := 155) (by decide +kernel)) (by decide +kernel)
theorem wn_X2_init : Cond.instanceMethod yX2_init ∈ Wall := wall_of (List.mem_of_getElem? (i := 156) (by decide +kernel)) (by decide +kernel)
theorem wc_X2_init : Cond.code yX2_init cX2_init 1 none ∈ Wall := wall_of (List.mem_of_getElem? (i := 157) (by decide +kernel)) (by decide +kernel)
theorem wm_X2_1 : Cond.methodLink RX2 1 objectInit ∈ Wall := wall_of (List.mem_of_getElem? (i := 158) (by decide +kernel)) (by decide +kernel)
theorem wf_X2_9 : Cond.fieldLink RX2 9 (TX2 0).1 (TX2 0).2.1 (TX2 0).2.2.1 ∈ Wall := wall_of (List.mem_of_getElem? (i := 159) (by decide +kernel)) (by decide +kernel)
theorem wf_X2_13 : Cond.fieldLink RX2 13 (TX2 1).1 (TX2 1).2.1 (TX2 1).2.2.1 ∈ Wall := wall_of (List.mem_of_getElem? (i := 160) (by decide +kernel)) (by decide +kernel)
theorem wf_X2_16 : Cond.fieldLink RX2 16 (TX2 2).1 (TX2 2).2.1 (TX2 2).2.2.1 ∈ Wall := wall_of (List.mem_of_getElem? (i := 161) (by decide +kernel)) (by decide +kernel)
theorem wf_X2_19 : Cond.fieldLink RX2 19 (TX2 3).1 (TX2 3).2.1 (TX2 3).2.2.1 ∈ Wall := wall_of (List.mem_of_getElem? (i := 162) (by decide +kernel)) (by decide +kernel)
theorem wf_X2_23 : Cond.fieldLink RX2 23 (TX2 4).1 (TX2 4).2.1 (TX2 4).2.2.1 ∈ Wall := wall_of (List.mem_of_getElem? (i := 163) (by decide +kernel)) (by decide +kernel)
theorem wf_X6_176 : Cond.fieldLink RX6 176 (TX2 4).1 (TX2 4).2.1 (TX2 4).2.2.1 ∈ Wall := wall_of (List.mem_of_getElem? (i := 164) (by decide +kernel)) (by decide +kernel)
theorem wf_X1_11 : Cond.fieldLink RX1 11 (TX1 0).1 (TX1 0).2.1 (TX1 0).2.2.1 ∈ Wall := wall_of (List.mem_of_getElem? (i := 176) (by decide +kernel)) (by decide +kernel)
theorem wf_X0_18 : Cond.fieldLink RX0 18 (TX1 0).1 (TX1 0).2.1 (TX1 0).2.2.1 ∈ Wall := wall_of (List.mem_of_getElem? (i := 177) (by decide +kernel)) (by decide +kernel)
theorem wf_X0_23 : Cond.fieldLink RX0 23 (TX1 1).1 (TX1 1).2.1 (TX1 1).2.2.1 ∈ Wall := wall_of (List.mem_of_getElem? (i := 178) (by decide +kernel)) (by decide +kernel)
theorem wf_X1_21 : Cond.fieldLink RX1 21 (TX1 1).1 (TX1 1).2.1 (TX1 1).2.2.1 ∈ Wall := wall_of (List.mem_of_getElem? (i := 179) (by decide +kernel)) (by decide +kernel)
theorem wf_X1_33 : Cond.fieldLink RX1 33 (TX1 2).1 (TX1 2).2.1 (TX1 2).2.2.1 ∈ Wall := wall_of (List.mem_of_getElem? (i := 180) (by decide +kernel)) (by decide +kernel)
theorem wf_X6_126 : Cond.fieldLink RX6 126 (TX1 2).1 (TX1 2).2.1 (TX1 2).2.2.1 ∈ Wall := wall_of (List.mem_of_getElem? (i := 181) (by decide +kernel)) (by decide +kernel)
theorem wf_X0_146 : Cond.fieldLink RX0 146 (TX1 2).1 (TX1 2).2.1 (TX1 2).2.2.1 ∈ Wall := wall_of (List.mem_of_getElem? (i := 182) (by decide +kernel)) (by decide +kernel)
theorem wf_X1_42 : Cond.fieldLink RX1 42 (TX1 3).1 (TX1 3).2.1 (TX1 3).2.2.1 ∈ Wall := wall_of (List.mem_of_getElem? (i := 183) (by decide +kernel)) (by decide +kernel)
theorem wf_X0_126 : Cond.fieldLink RX0 126 (TX1 3).1 (TX1 3).2.1 (TX1 3).2.2.1 ∈ Wall := wall_of (List.mem_of_getElem? (i := 184) (by decide +kernel)) (by decide +kernel)
theorem wf_X1_45 : Cond.fieldLink RX1 45 (TX1 4).1 (TX1 4).2.1 (TX1 4).2.2.1 ∈ Wall := wall_of (List.mem_of_getElem? (i := 185) (by decide +kernel)) (by decide +kernel)
theorem wf_X0_129 : Cond.fieldLink RX0 129 (TX1 4).1 (TX1 4).2.1 (TX1 4).2.2.1 ∈ Wall := wall_of (List.mem_of_getElem? (i := 186) (by decide +kernel)) (by decide +kernel)
theorem wf_X1_37 : Cond.fieldLink RX1 37 (TX1 5).1 (TX1 5).2.1 (TX1 5).2.2.1 ∈ Wall := wall_of (List.mem_of_getElem? (i := 187) (by decide +kernel)) (by decide +kernel)
theorem wf_X0_132 : Cond.fieldLink RX0 132 (TX1 5).1 (TX1 5).2.1 (TX1 5).2.2.1 ∈ Wall := wall_of (List.mem_of_getElem? (i := 188) (by decide +kernel)) (by decide +kernel)
theorem wf_X1_48 : Cond.fieldLink RX1 48 (TX1 6).1 (TX1 6).2.1 (TX1 6).2.2.1 ∈ Wall := wall_of (List.mem_of_getElem? (i := 189) (by decide +kernel)) (by decide +kernel)
theorem wf_X0_135 : Cond.fieldLink RX0 135 (TX1 6).1 (TX1 6).2.1 (TX1 6).2.2.1 ∈ Wall := wall_of (List.mem_of_getElem? (i := 190) (by decide +kernel)) (by decide +kernel)
theorem wf_X1_51 : Cond.fieldLink RX1 51 (TX1 7).1 (TX1 7).2.1 (TX1 7).2.2.1 ∈ Wall := wall_of (List.mem_of_getElem? (i := 191) (by decide +kernel)) (by decide +kernel)
theorem wl_X0_28 : Cond.classLink RX0 28 RX3 ∈ Wall := wall_of (List.mem_of_getElem? (i := 209) (by decide +kernel)) (by decide +kernel)
theorem wt_X3 : Cond.instantiable RX3 4 ∈ Wall := wall_of (List.mem_of_getElem? (i := 210) (by decide +kernel)) (by decide +kernel)
theorem wm_X0_30 : Cond.methodLink RX0 30 yX3_init ∈ Wall := wall_of (List.mem_of_getElem? (i := 211) (by decide +kernel)) (by decide +kernel)
theorem wn_X3_init : Cond.instanceMethod yX3_init ∈ Wall := wall_of (List.mem_of_getElem? (i := 212) (by decide +kernel)) (by decide +kernel)
theorem wc_X3_init : Cond.code yX3_init cX3_init 1 none ∈ Wall := wall_of (List.mem_of_getElem? (i := 213) (by decide +kernel)) (by decide +kernel)
theorem wm_X3_3 : Cond.methodLink RX3 3 objectInit ∈ Wall := wall_of (List.mem_of_getElem? (i := 214) (by decide +kernel)) (by decide +kernel)
theorem wf_X3_11 : Cond.fieldLink RX3 11 (TX3 0).1 (TX3 0).2.1 (TX3 0).2.2.1 ∈ Wall := wall_of (List.mem_of_getElem? (i := 215) (by decide +kernel)) (by decide +kernel)
theorem wf_X3_15 : Cond.fieldLink RX3 15 (TX3 1).1 (TX3 1).2.1 (TX3 1).2.2.1 ∈ Wall := wall_of (List.mem_of_getElem? (i := 216) (by decide +kernel)) (by decide +kernel)
theorem wf_X3_18 : Cond.fieldLink RX3 18 (TX3 2).1 (TX3 2).2.1 (TX3 2).2.2.1 ∈ Wall := wall_of (List.mem_of_getElem? (i := 217) (by decide +kernel)) (by decide +kernel)
theorem wf_X3_25 : Cond.fieldLink RX3 25 (TX3 3).1 (TX3 3).2.1 (TX3 3).2.2.1 ∈ Wall := wall_of (List.mem_of_getElem? (i := 218) (by decide +kernel)) (by decide +kernel)
theorem wf_X6_77 : Cond.fieldLink RX6 77 (TX3 3).1 (TX3 3).2.1 (TX3 3).2.2.1 ∈ Wall := wall_of (List.mem_of_getElem? (i := 219) (by decide +kernel)) (by decide +kernel)
theorem wl_X0_35 : Cond.classLink RX0 35 RX4 ∈ Wall := wall_of (List.mem_of_getElem? (i := 229) (by decide +kernel)) (by decide +kernel)
theorem wt_X4 : Cond.instantiable RX4 3 ∈ Wall := wall_of (List.mem_of_getElem? (i := 230) (by decide +kernel)) (by decide +kernel)
theorem wm_X0_37 : Cond.methodLink RX0 37 yX4_init ∈ Wall := wall_of (List.mem_of_getElem? (i := 231) (by decide +kernel)) (by decide +kernel)
theorem wn_X4_init : Cond.instanceMethod yX4_init ∈ Wall := wall_of (List.mem_of_getElem? (i := 232) (by decide +kernel)) (by decide +kernel)
theorem wc_X4_init : Cond.code yX4_init cX4_init 1 none ∈ Wall := wall_of (List.mem_of_getElem? (i := 233) (by decide +kernel)) (by decide +kernel)
theorem wm_X4_1 : Cond.methodLink RX4 1 objectInit ∈ Wall := wall_of (List.mem_of_getElem? (i := 234) (by decide +kernel)) (by decide +kernel)
theorem wf_X4_9 : Cond.fieldLink RX4 9 (TX4 0).1 (TX4 0).2.1 (TX4 0).2.2.1 ∈ Wall := wall_of (List.mem_of_getElem? (i := 235) (by decide +kernel)) (by decide +kernel)
theorem wf_X4_13 : Cond.fieldLink RX4 13 (TX4 1).1 (TX4 1).2.1 (TX4 1).2.2.1 ∈ Wall := wall_of (List.mem_of_getElem? (i := 236) (by decide +kernel)) (by decide +kernel)
theorem wf_X4_16 : Cond.fieldLink RX4 16 (TX4 2).1 (TX4 2).2.1 (TX4 2).2.2.1 ∈ Wall := wall_of (List.mem_of_getElem? (i := 237) (by decide +kernel)) (by decide +kernel)
theorem wf_X6_103 : Cond.fieldLink RX6 103 (TX4 2).1 (TX4 2).2.1 (TX4 2).2.2.1 ∈ Wall := wall_of (List.mem_of_getElem? (i := 238) (by decide +kernel)) (by decide +kernel)
theorem wm_X0_42 : Cond.methodLink RX0 42 yX0_clear ∈ Wall := wall_of (List.mem_of_getElem? (i := 246) (by decide +kernel)) (by decide +kernel)
theorem wn_X0_clear : Cond.instanceMethod yX0_clear ∈ Wall := wall_of (List.mem_of_getElem? (i := 247) (by decide +kernel)) (by decide +kernel)
theorem we_X0_clear : Cond.selects RX0 yX0_clear yX0_clear ∈ Wall := wall_of (List.mem_of_getElem? (i := 248) (by decide +kernel)) (by decide +kernel)
theorem wc_X0_clear : Cond.code yX0_clear cX0_clear 1 none ∈ Wall := wall_of (List.mem_of_getElem? (i := 249) (by decide +kernel)) (by decide +kernel)
theorem wm_X0_45 : Cond.methodLink RX0 45 yX1_clear ∈ Wall := wall_of (List.mem_of_getElem? (i := 250) (by decide +kernel)) (by decide +kernel)
theorem wn_X1_clear : Cond.instanceMethod yX1_clear ∈ Wall := wall_of (List.mem_of_getElem? (i := 251) (by decide +kernel)) (by decide +kernel)
theorem we_X1_clear : Cond.selects RX1 yX1_clear yX1_clear ∈ Wall := wall_of (List.mem_of_getElem? (i := 252) (by decide +kernel)) (by decide +kernel)
theorem wc_X1_clear : Cond.code yX1_clear cX1_clear 2 none ∈ Wall := wall_of (List.mem_of_getElem? (i := 253) (by decide +kernel)) (by decide +kernel)
theorem wm_X1_25 : Cond.methodLink RX1 25 yX5_clear ∈ Wall := wall_of (List.mem_of_getElem? (i := 254) (by decide +kernel)) (by decide +kernel)
theorem wn_X5_clear : Cond.instanceMethod yX5_clear ∈ Wall := wall_of (List.mem_of_getElem? (i := 255) (by decide +kernel)) (by decide +kernel)
theorem we_X5_clear : Cond.selects RX5 yX5_clear yX5_clear ∈ Wall := wall_of (List.mem_of_getElem? (i := 256) (by decide +kernel)) (by decide +kernel)
theorem wc_X5_clear : Cond.code yX5_clear cX5_clear 1 none ∈ Wall := wall_of (List.mem_of_getElem? (i := 257) (by decide +kernel)) (by decide +kernel)
theorem wm_X5_15 : Cond.methodLink RX5 15 yX5_startAt ∈ Wall := wall_of (List.mem_of_getElem? (i := 258) (by decide +kernel)) (by decide +kernel)
theorem wn_X5_startAt : Cond.instanceMethod yX5_startAt ∈ Wall := wall_of (List.mem_of_getElem? (i := 259) (by decide +kernel)) (by decide +kernel)
theorem we_X5_startAt : Cond.selects RX5 yX5_startAt yX5_startAt ∈ Wall := wall_of (List.mem_of_getElem? (i := 260) (by decide +kernel)) (by decide +kernel)
theorem wc_X5_startAt : Cond.code yX5_startAt cX5_startAt 2 none ∈ Wall := wall_of (List.mem_of_getElem? (i := 261) (by decide +kernel)) (by decide +kernel)
theorem wm_X1_28 : Cond.methodLink RX1 28 yX2_clear ∈ Wall := wall_of (List.mem_of_getElem? (i := 262) (by decide +kernel)) (by decide +kernel)
theorem wn_X2_clear : Cond.instanceMethod yX2_clear ∈ Wall := wall_of (List.mem_of_getElem? (i := 263) (by decide +kernel)) (by decide +kernel)
theorem we_X2_clear : Cond.selects RX2 yX2_clear yX2_clear ∈ Wall := wall_of (List.mem_of_getElem? (i := 264) (by decide +kernel)) (by decide +kernel)
theorem wc_X2_clear : Cond.code yX2_clear cX2_clear 1 none ∈ Wall := wall_of (List.mem_of_getElem? (i := 265) (by decide +kernel)) (by decide +kernel)
theorem wm_X1_29 : Cond.methodLink RX1 29 yX1_startAt ∈ Wall := wall_of (List.mem_of_getElem? (i := 266) (by decide +kernel)) (by decide +kernel)
theorem wn_X1_startAt : Cond.instanceMethod yX1_startAt ∈ Wall := wall_of (List.mem_of_getElem? (i := 267) (by decide +kernel)) (by decide +kernel)
theorem we_X1_startAt : Cond.selects RX1 yX1_startAt yX1_startAt ∈ Wall := wall_of (List.mem_of_getElem? (i := 268) (by decide +kernel)) (by decide +kernel)
theorem wc_X1_startAt : Cond.code yX1_startAt cX1_startAt 3 none ∈ Wall := wall_of (List.mem_of_getElem? (i := 269) (by decide +kernel)) (by decide +kernel)
theorem wm_X1_41 : Cond.methodLink RX1 41 yX5_startAt ∈ Wall := wall_of (List.mem_of_getElem? (i := 270) (by decide +kernel)) (by decide +kernel)
theorem wm_X0_46 : Cond.methodLink RX0 46 yX3_clear ∈ Wall := wall_of (List.mem_of_getElem? (i := 271) (by decide +kernel)) (by decide +kernel)
theorem wn_X3_clear : Cond.instanceMethod yX3_clear ∈ Wall := wall_of (List.mem_of_getElem? (i := 272) (by decide +kernel)) (by decide +kernel)
theorem we_X3_clear : Cond.selects RX3 yX3_clear yX3_clear ∈ Wall := wall_of (List.mem_of_getElem? (i := 273) (by decide +kernel)) (by decide +kernel)
theorem wc_X3_clear : Cond.code yX3_clear cX3_clear 1 none ∈ Wall := wall_of (List.mem_of_getElem? (i := 274) (by decide +kernel)) (by decide +kernel)
theorem wm_X3_21 : Cond.methodLink RX3 21 yX3_setRow ∈ Wall := wall_of (List.mem_of_getElem? (i := 275) (by decide +kernel)) (by decide +kernel)
theorem wn_X3_setRow : Cond.instanceMethod yX3_setRow ∈ Wall := wall_of (List.mem_of_getElem? (i := 276) (by decide +kernel)) (by decide +kernel)
theorem we_X3_setRow : Cond.selects RX3 yX3_setRow yX3_setRow ∈ Wall := wall_of (List.mem_of_getElem? (i := 277) (by decide +kernel)) (by decide +kernel)
theorem wc_X3_setRow : Cond.code yX3_setRow cX3_setRow 5 none ∈ Wall := wall_of (List.mem_of_getElem? (i := 278) (by decide +kernel)) (by decide +kernel)
theorem wm_X0_47 : Cond.methodLink RX0 47 yX4_clear ∈ Wall := wall_of (List.mem_of_getElem? (i := 279) (by decide +kernel)) (by decide +kernel)
theorem wn_X4_clear : Cond.instanceMethod yX4_clear ∈ Wall := wall_of (List.mem_of_getElem? (i := 280) (by decide +kernel)) (by decide +kernel)
theorem we_X4_clear : Cond.selects RX4 yX4_clear yX4_clear ∈ Wall := wall_of (List.mem_of_getElem? (i := 281) (by decide +kernel)) (by decide +kernel)
theorem wc_X4_clear : Cond.code yX4_clear cX4_clear 1 none ∈ Wall := wall_of (List.mem_of_getElem? (i := 282) (by decide +kernel)) (by decide +kernel)
theorem wf_X0_12 : Cond.fieldLink RX0 12 (TX0 0).1 (TX0 0).2.1 (TX0 0).2.2.1 ∈ Wall := wall_of (List.mem_of_getElem? (i := 283) (by decide +kernel)) (by decide +kernel)
theorem wf_X6_122 : Cond.fieldLink RX6 122 (TX0 0).1 (TX0 0).2.1 (TX0 0).2.2.1 ∈ Wall := wall_of (List.mem_of_getElem? (i := 284) (by decide +kernel)) (by decide +kernel)
theorem wf_X0_22 : Cond.fieldLink RX0 22 (TX0 1).1 (TX0 1).2.1 (TX0 1).2.2.1 ∈ Wall := wall_of (List.mem_of_getElem? (i := 285) (by decide +kernel)) (by decide +kernel)
theorem wf_X6_112 : Cond.fieldLink RX6 112 (TX0 1).1 (TX0 1).2.1 (TX0 1).2.2.1 ∈ Wall := wall_of (List.mem_of_getElem? (i := 286) (by decide +kernel)) (by decide +kernel)
theorem wf_X0_27 : Cond.fieldLink RX0 27 (TX0 2).1 (TX0 2).2.1 (TX0 2).2.2.1 ∈ Wall := wall_of (List.mem_of_getElem? (i := 287) (by decide +kernel)) (by decide +kernel)
theorem wf_X6_172 : Cond.fieldLink RX6 172 (TX0 2).1 (TX0 2).2.1 (TX0 2).2.2.1 ∈ Wall := wall_of (List.mem_of_getElem? (i := 288) (by decide +kernel)) (by decide +kernel)
theorem wf_X0_31 : Cond.fieldLink RX0 31 (TX0 3).1 (TX0 3).2.1 (TX0 3).2.2.1 ∈ Wall := wall_of (List.mem_of_getElem? (i := 289) (by decide +kernel)) (by decide +kernel)
theorem wf_X6_59 : Cond.fieldLink RX6 59 (TX0 3).1 (TX0 3).2.1 (TX0 3).2.2.1 ∈ Wall := wall_of (List.mem_of_getElem? (i := 290) (by decide +kernel)) (by decide +kernel)
theorem wf_X0_38 : Cond.fieldLink RX0 38 (TX0 4).1 (TX0 4).2.1 (TX0 4).2.2.1 ∈ Wall := wall_of (List.mem_of_getElem? (i := 291) (by decide +kernel)) (by decide +kernel)
theorem wf_X6_85 : Cond.fieldLink RX6 85 (TX0 4).1 (TX0 4).2.1 (TX0 4).2.2.1 ∈ Wall := wall_of (List.mem_of_getElem? (i := 292) (by decide +kernel)) (by decide +kernel)
theorem wf_X0_48 : Cond.fieldLink RX0 48 (TX0 5).1 (TX0 5).2.1 (TX0 5).2.2.1 ∈ Wall := wall_of (List.mem_of_getElem? (i := 293) (by decide +kernel)) (by decide +kernel)
theorem wf_X6_42 : Cond.fieldLink RX6 42 (TX0 5).1 (TX0 5).2.1 (TX0 5).2.2.1 ∈ Wall := wall_of (List.mem_of_getElem? (i := 294) (by decide +kernel)) (by decide +kernel)
theorem wf_X0_52 : Cond.fieldLink RX0 52 (TX0 6).1 (TX0 6).2.1 (TX0 6).2.2.1 ∈ Wall := wall_of (List.mem_of_getElem? (i := 295) (by decide +kernel)) (by decide +kernel)
theorem wf_X6_49 : Cond.fieldLink RX6 49 (TX0 6).1 (TX0 6).2.1 (TX0 6).2.2.1 ∈ Wall := wall_of (List.mem_of_getElem? (i := 296) (by decide +kernel)) (by decide +kernel)
theorem wf_X0_55 : Cond.fieldLink RX0 55 (TX0 7).1 (TX0 7).2.1 (TX0 7).2.2.1 ∈ Wall := wall_of (List.mem_of_getElem? (i := 297) (by decide +kernel)) (by decide +kernel)
theorem wf_X6_97 : Cond.fieldLink RX6 97 (TX0 7).1 (TX0 7).2.1 (TX0 7).2.2.1 ∈ Wall := wall_of (List.mem_of_getElem? (i := 298) (by decide +kernel)) (by decide +kernel)
theorem wf_X0_58 : Cond.fieldLink RX0 58 (TX0 8).1 (TX0 8).2.1 (TX0 8).2.2.1 ∈ Wall := wall_of (List.mem_of_getElem? (i := 299) (by decide +kernel)) (by decide +kernel)
theorem wf_X6_82 : Cond.fieldLink RX6 82 (TX0 8).1 (TX0 8).2.1 (TX0 8).2.2.1 ∈ Wall := wall_of (List.mem_of_getElem? (i := 300) (by decide +kernel)) (by decide +kernel)
theorem wf_X6_10 : Cond.fieldLink RX6 10 (TX6 0).1 (TX6 0).2.1 (TX6 0).2.2.1 ∈ Wall := wall_of (List.mem_of_getElem? (i := 321) (by decide +kernel)) (by decide +kernel)
theorem wf_X6_16 : Cond.fieldLink RX6 16 (TX6 1).1 (TX6 1).2.1 (TX6 1).2.2.1 ∈ Wall := wall_of (List.mem_of_getElem? (i := 322) (by decide +kernel)) (by decide +kernel)
theorem wf_X6_19 : Cond.fieldLink RX6 19 (TX6 2).1 (TX6 2).2.1 (TX6 2).2.2.1 ∈ Wall := wall_of (List.mem_of_getElem? (i := 323) (by decide +kernel)) (by decide +kernel)
theorem wf_X6_23 : Cond.fieldLink RX6 23 (TX6 3).1 (TX6 3).2.1 (TX6 3).2.2.1 ∈ Wall := wall_of (List.mem_of_getElem? (i := 324) (by decide +kernel)) (by decide +kernel)
theorem wm_L_91 : Cond.methodLink RL 91 yX6_setOn ∈ Wall := wall_of (List.mem_of_getElem? (i := 334) (by decide +kernel)) (by decide +kernel)
theorem wn_X6_setOn : Cond.instanceMethod yX6_setOn ∈ Wall := wall_of (List.mem_of_getElem? (i := 335) (by decide +kernel)) (by decide +kernel)
theorem we_X6_setOn : Cond.selects RX6 yX6_setOn yX6_setOn ∈ Wall := wall_of (List.mem_of_getElem? (i := 336) (by decide +kernel)) (by decide +kernel)
theorem wc_X6_setOn : Cond.code yX6_setOn cX6_setOn 3 (some .boolean) ∈ Wall := wall_of (List.mem_of_getElem? (i := 337) (by decide +kernel)) (by decide +kernel)
theorem wm_X6_39 : Cond.methodLink RX6 39 yX6_saveState ∈ Wall := wall_of (List.mem_of_getElem? (i := 338) (by decide +kernel)) (by decide +kernel)
theorem wn_X6_saveState : Cond.instanceMethod yX6_saveState ∈ Wall := wall_of (List.mem_of_getElem? (i := 340) (by decide +kernel)) (by decide +kernel)
theorem wc_X6_saveState : Cond.code yX6_saveState cX6_saveState 1 none ∈ Wall := wall_of (List.mem_of_getElem? (i := 341) (by decide +kernel)) (by decide +kernel)
theorem wm_X6_198 : Cond.methodLink RX6 198 yX6_dropOldestSaved ∈ Wall := wall_of (List.mem_of_getElem? (i := 342) (by decide +kernel)) (by decide +kernel)
theorem wn_X6_dropOldestSaved : Cond.instanceMethod yX6_dropOldestSaved ∈ Wall := wall_of (List.mem_of_getElem? (i := 344) (by decide +kernel)) (by decide +kernel)
theorem wc_X6_dropOldestSaved : Cond.code yX6_dropOldestSaved cX6_dropOldestSaved 3 none ∈ Wall := wall_of (List.mem_of_getElem? (i := 345) (by decide +kernel)) (by decide +kernel)
theorem wm_X6_184 : Cond.methodLink RX6 184 yX0_copyFrom ∈ Wall := wall_of (List.mem_of_getElem? (i := 346) (by decide +kernel)) (by decide +kernel)
theorem wn_X0_copyFrom : Cond.instanceMethod yX0_copyFrom ∈ Wall := wall_of (List.mem_of_getElem? (i := 347) (by decide +kernel)) (by decide +kernel)
theorem we_X0_copyFrom : Cond.selects RX0 yX0_copyFrom yX0_copyFrom ∈ Wall := wall_of (List.mem_of_getElem? (i := 348) (by decide +kernel)) (by decide +kernel)
theorem wc_X0_copyFrom : Cond.code yX0_copyFrom cX0_copyFrom 2 none ∈ Wall := wall_of (List.mem_of_getElem? (i := 349) (by decide +kernel)) (by decide +kernel)
theorem wm_X0_61 : Cond.methodLink RX0 61 yX1_copyFrom ∈ Wall := wall_of (List.mem_of_getElem? (i := 350) (by decide +kernel)) (by decide +kernel)
theorem wn_X1_copyFrom : Cond.instanceMethod yX1_copyFrom ∈ Wall := wall_of (List.mem_of_getElem? (i := 351) (by decide +kernel)) (by decide +kernel)
theorem we_X1_copyFrom : Cond.selects RX1 yX1_copyFrom yX1_copyFrom ∈ Wall := wall_of (List.mem_of_getElem? (i := 352) (by decide +kernel)) (by decide +kernel)
theorem wc_X1_copyFrom : Cond.code yX1_copyFrom cX1_copyFrom 3 none ∈ Wall := wall_of (List.mem_of_getElem? (i := 353) (by decide +kernel)) (by decide +kernel)
theorem wm_X1_54 : Cond.methodLink RX1 54 yX5_copyFrom ∈ Wall := wall_of (List.mem_of_getElem? (i := 354) (by decide +kernel)) (by decide +kernel)
theorem wn_X5_copyFrom : Cond.instanceMethod yX5_copyFrom ∈ Wall := wall_of (List.mem_of_getElem? (i := 355) (by decide +kernel)) (by decide +kernel)
theorem we_X5_copyFrom : Cond.selects RX5 yX5_copyFrom yX5_copyFrom ∈ Wall := wall_of (List.mem_of_getElem? (i := 356) (by decide +kernel)) (by decide +kernel)
theorem wc_X5_copyFrom : Cond.code yX5_copyFrom cX5_copyFrom 2 none ∈ Wall := wall_of (List.mem_of_getElem? (i := 357) (by decide +kernel)) (by decide +kernel)
theorem wm_X5_60 : Cond.methodLink RX5 60 arraycopyName ∈ Wall := wall_of (List.mem_of_getElem? (i := 358) (by decide +kernel)) (by decide +kernel)
theorem ws_arraycopyName : Cond.static arraycopyName ∈ Wall := wall_of (List.mem_of_getElem? (i := 359) (by decide +kernel)) (by decide +kernel)
theorem wv_arraycopyName : Cond.native arraycopyName ∈ Wall := wall_of (List.mem_of_getElem? (i := 360) (by decide +kernel)) (by decide +kernel)
theorem wm_X1_58 : Cond.methodLink RX1 58 yX2_copyFrom ∈ Wall := wall_of (List.mem_of_getElem? (i := 361) (by decide +kernel)) (by decide +kernel)
theorem wn_X2_copyFrom : Cond.instanceMethod yX2_copyFrom ∈ Wall := wall_of (List.mem_of_getElem? (i := 362) (by decide +kernel)) (by decide +kernel)
theorem we_X2_copyFrom : Cond.selects RX2 yX2_copyFrom yX2_copyFrom ∈ Wall := wall_of (List.mem_of_getElem? (i := 363) (by decide +kernel)) (by decide +kernel)
theorem wc_X2_copyFrom : Cond.code yX2_copyFrom cX2_copyFrom 2 none ∈ Wall := wall_of (List.mem_of_getElem? (i := 364) (by decide +kernel)) (by decide +kernel)
theorem wm_X2_26 : Cond.methodLink RX2 26 arraycopyName ∈ Wall := wall_of (List.mem_of_getElem? (i := 365) (by decide +kernel)) (by decide +kernel)
theorem wm_X0_65 : Cond.methodLink RX0 65 yX3_copyFrom ∈ Wall := wall_of (List.mem_of_getElem? (i := 366) (by decide +kernel)) (by decide +kernel)
theorem wn_X3_copyFrom : Cond.instanceMethod yX3_copyFrom ∈ Wall := wall_of (List.mem_of_getElem? (i := 367) (by decide +kernel)) (by decide +kernel)
theorem we_X3_copyFrom : Cond.selects RX3 yX3_copyFrom yX3_copyFrom ∈ Wall := wall_of (List.mem_of_getElem? (i := 368) (by decide +kernel)) (by decide +kernel)
theorem wc_X3_copyFrom : Cond.code yX3_copyFrom cX3_copyFrom 2 none ∈ Wall := wall_of (List.mem_of_getElem? (i := 369) (by decide +kernel)) (by decide +kernel)
theorem wm_X3_29 : Cond.methodLink RX3 29 arraycopyName ∈ Wall := wall_of (List.mem_of_getElem? (i := 370) (by decide +kernel)) (by decide +kernel)
theorem wm_X0_68 : Cond.methodLink RX0 68 yX4_copyFrom ∈ Wall := wall_of (List.mem_of_getElem? (i := 371) (by decide +kernel)) (by decide +kernel)
theorem wn_X4_copyFrom : Cond.instanceMethod yX4_copyFrom ∈ Wall := wall_of (List.mem_of_getElem? (i := 372) (by decide +kernel)) (by decide +kernel)
theorem we_X4_copyFrom : Cond.selects RX4 yX4_copyFrom yX4_copyFrom ∈ Wall := wall_of (List.mem_of_getElem? (i := 373) (by decide +kernel)) (by decide +kernel)
theorem wc_X4_copyFrom : Cond.code yX4_copyFrom cX4_copyFrom 2 none ∈ Wall := wall_of (List.mem_of_getElem? (i := 374) (by decide +kernel)) (by decide +kernel)
theorem wm_X4_20 : Cond.methodLink RX4 20 arraycopyName ∈ Wall := wall_of (List.mem_of_getElem? (i := 375) (by decide +kernel)) (by decide +kernel)
theorem wm_L_96 : Cond.methodLink RL 96 yX6_repair ∈ Wall := wall_of (List.mem_of_getElem? (i := 376) (by decide +kernel)) (by decide +kernel)
theorem wn_X6_repair : Cond.instanceMethod yX6_repair ∈ Wall := wall_of (List.mem_of_getElem? (i := 377) (by decide +kernel)) (by decide +kernel)
theorem we_X6_repair : Cond.selects RX6 yX6_repair yX6_repair ∈ Wall := wall_of (List.mem_of_getElem? (i := 378) (by decide +kernel)) (by decide +kernel)
theorem wc_X6_repair : Cond.code yX6_repair cX6_repair 1 (some .int) ∈ Wall := wall_of (List.mem_of_getElem? (i := 379) (by decide +kernel)) (by decide +kernel)
theorem wm_X6_131 : Cond.methodLink RX6 131 yX1_takeBackWheels ∈ Wall := wall_of (List.mem_of_getElem? (i := 380) (by decide +kernel)) (by decide +kernel)
theorem wn_X1_takeBackWheels : Cond.instanceMethod yX1_takeBackWheels ∈ Wall := wall_of (List.mem_of_getElem? (i := 381) (by decide +kernel)) (by decide +kernel)
theorem we_X1_takeBackWheels : Cond.selects RX1 yX1_takeBackWheels yX1_takeBackWheels ∈ Wall := wall_of (List.mem_of_getElem? (i := 382) (by decide +kernel)) (by decide +kernel)
theorem wc_X1_takeBackWheels : Cond.code yX1_takeBackWheels cX1_takeBackWheels 3 (some .int) ∈ Wall := wall_of (List.mem_of_getElem? (i := 383) (by decide +kernel)) (by decide +kernel)
theorem wm_X1_89 : Cond.methodLink RX1 89 yX1_excludedWheels ∈ Wall := wall_of (List.mem_of_getElem? (i := 384) (by decide +kernel)) (by decide +kernel)
theorem wn_X1_excludedWheels : Cond.instanceMethod yX1_excludedWheels ∈ Wall := wall_of (List.mem_of_getElem? (i := 385) (by decide +kernel)) (by decide +kernel)
theorem we_X1_excludedWheels : Cond.selects RX1 yX1_excludedWheels yX1_excludedWheels ∈ Wall := wall_of (List.mem_of_getElem? (i := 386) (by decide +kernel)) (by decide +kernel)
theorem wc_X1_excludedWheels : Cond.code yX1_excludedWheels cX1_excludedWheels 3 (some .int) ∈ Wall := wall_of (List.mem_of_getElem? (i := 387) (by decide +kernel)) (by decide +kernel)
theorem wm_L_103 : Cond.methodLink RL 103 yX6_stop ∈ Wall := wall_of (List.mem_of_getElem? (i := 388) (by decide +kernel)) (by decide +kernel)
theorem wn_X6_stop : Cond.instanceMethod yX6_stop ∈ Wall := wall_of (List.mem_of_getElem? (i := 389) (by decide +kernel)) (by decide +kernel)
theorem we_X6_stop : Cond.selects RX6 yX6_stop yX6_stop ∈ Wall := wall_of (List.mem_of_getElem? (i := 390) (by decide +kernel)) (by decide +kernel)
theorem wc_X6_stop : Cond.code yX6_stop cX6_stop 1 (some .int) ∈ Wall := wall_of (List.mem_of_getElem? (i := 391) (by decide +kernel)) (by decide +kernel)
theorem wm_X6_140 : Cond.methodLink RX6 140 yX0_tickUntilStill ∈ Wall := wall_of (List.mem_of_getElem? (i := 392) (by decide +kernel)) (by decide +kernel)
theorem wn_X0_tickUntilStill : Cond.instanceMethod yX0_tickUntilStill ∈ Wall := wall_of (List.mem_of_getElem? (i := 393) (by decide +kernel)) (by decide +kernel)
theorem we_X0_tickUntilStill : Cond.selects RX0 yX0_tickUntilStill yX0_tickUntilStill ∈ Wall := wall_of (List.mem_of_getElem? (i := 394) (by decide +kernel)) (by decide +kernel)
theorem wc_X0_tickUntilStill : Cond.code yX0_tickUntilStill cX0_tickUntilStill 2 (some .int) ∈ Wall := wall_of (List.mem_of_getElem? (i := 395) (by decide +kernel)) (by decide +kernel)
theorem wm_X0_106 : Cond.methodLink RX0 106 yX0_tick ∈ Wall := wall_of (List.mem_of_getElem? (i := 396) (by decide +kernel)) (by decide +kernel)
theorem wn_X0_tick : Cond.instanceMethod yX0_tick ∈ Wall := wall_of (List.mem_of_getElem? (i := 397) (by decide +kernel)) (by decide +kernel)
theorem we_X0_tick : Cond.selects RX0 yX0_tick yX0_tick ∈ Wall := wall_of (List.mem_of_getElem? (i := 398) (by decide +kernel)) (by decide +kernel)
theorem wc_X0_tick : Cond.code yX0_tick cX0_tick 3 none ∈ Wall := wall_of (List.mem_of_getElem? (i := 399) (by decide +kernel)) (by decide +kernel)
theorem wm_X0_75 : Cond.methodLink RX0 75 yX4_takeDemand ∈ Wall := wall_of (List.mem_of_getElem? (i := 400) (by decide +kernel)) (by decide +kernel)
theorem wn_X4_takeDemand : Cond.instanceMethod yX4_takeDemand ∈ Wall := wall_of (List.mem_of_getElem? (i := 401) (by decide +kernel)) (by decide +kernel)
theorem we_X4_takeDemand : Cond.selects RX4 yX4_takeDemand yX4_takeDemand ∈ Wall := wall_of (List.mem_of_getElem? (i := 402) (by decide +kernel)) (by decide +kernel)
theorem wc_X4_takeDemand : Cond.code yX4_takeDemand cX4_takeDemand 5 (some .int) ∈ Wall := wall_of (List.mem_of_getElem? (i := 403) (by decide +kernel)) (by decide +kernel)
theorem wm_X4_30 : Cond.methodLink RX4 30 yX4_entriesUntil ∈ Wall := wall_of (List.mem_of_getElem? (i := 404) (by decide +kernel)) (by decide +kernel)
theorem wn_X4_entriesUntil : Cond.instanceMethod yX4_entriesUntil ∈ Wall := wall_of (List.mem_of_getElem? (i := 405) (by decide +kernel)) (by decide +kernel)
theorem we_X4_entriesUntil : Cond.selects RX4 yX4_entriesUntil yX4_entriesUntil ∈ Wall := wall_of (List.mem_of_getElem? (i := 406) (by decide +kernel)) (by decide +kernel)
theorem wc_X4_entriesUntil : Cond.code yX4_entriesUntil cX4_entriesUntil 3 (some .int) ∈ Wall := wall_of (List.mem_of_getElem? (i := 407) (by decide +kernel)) (by decide +kernel)
theorem wm_X4_34 : Cond.methodLink RX4 34 yX4_shift ∈ Wall := wall_of (List.mem_of_getElem? (i := 408) (by decide +kernel)) (by decide +kernel)
theorem wn_X4_shift : Cond.instanceMethod yX4_shift ∈ Wall := wall_of (List.mem_of_getElem? (i := 409) (by decide +kernel)) (by decide +kernel)
theorem we_X4_shift : Cond.selects RX4 yX4_shift yX4_shift ∈ Wall := wall_of (List.mem_of_getElem? (i := 410) (by decide +kernel)) (by decide +kernel)
theorem wc_X4_shift : Cond.code yX4_shift cX4_shift 4 none ∈ Wall := wall_of (List.mem_of_getElem? (i := 411) (by decide +kernel)) (by decide +kernel)
theorem wm_X0_79 : Cond.methodLink RX0 79 yX0_findGrips ∈ Wall := wall_of (List.mem_of_getElem? (i := 412) (by decide +kernel)) (by decide +kernel)
theorem wn_X0_findGrips : Cond.instanceMethod yX0_findGrips ∈ Wall := wall_of (List.mem_of_getElem? (i := 413) (by decide +kernel)) (by decide +kernel)
theorem we_X0_findGrips : Cond.selects RX0 yX0_findGrips yX0_findGrips ∈ Wall := wall_of (List.mem_of_getElem? (i := 414) (by decide +kernel)) (by decide +kernel)
theorem wc_X0_findGrips : Cond.code yX0_findGrips cX0_findGrips 3 (some .int) ∈ Wall := wall_of (List.mem_of_getElem? (i := 415) (by decide +kernel)) (by decide +kernel)
theorem wm_X0_109 : Cond.methodLink RX0 109 yX0_gripOfWheel ∈ Wall := wall_of (List.mem_of_getElem? (i := 416) (by decide +kernel)) (by decide +kernel)
theorem wn_X0_gripOfWheel : Cond.instanceMethod yX0_gripOfWheel ∈ Wall := wall_of (List.mem_of_getElem? (i := 417) (by decide +kernel)) (by decide +kernel)
theorem we_X0_gripOfWheel : Cond.selects RX0 yX0_gripOfWheel yX0_gripOfWheel ∈ Wall := wall_of (List.mem_of_getElem? (i := 418) (by decide +kernel)) (by decide +kernel)
theorem wc_X0_gripOfWheel : Cond.code yX0_gripOfWheel cX0_gripOfWheel 3 (some .int) ∈ Wall := wall_of (List.mem_of_getElem? (i := 419) (by decide +kernel)) (by decide +kernel)
theorem wm_X0_116 : Cond.methodLink RX0 116 yX3_surfaceAt ∈ Wall := wall_of (List.mem_of_getElem? (i := 420) (by decide +kernel)) (by decide +kernel)
theorem wn_X3_surfaceAt : Cond.instanceMethod yX3_surfaceAt ∈ Wall := wall_of (List.mem_of_getElem? (i := 421) (by decide +kernel)) (by decide +kernel)
theorem we_X3_surfaceAt : Cond.selects RX3 yX3_surfaceAt yX3_surfaceAt ∈ Wall := wall_of (List.mem_of_getElem? (i := 422) (by decide +kernel)) (by decide +kernel)
theorem wc_X3_surfaceAt : Cond.code yX3_surfaceAt cX3_surfaceAt 4 (some .int) ∈ Wall := wall_of (List.mem_of_getElem? (i := 423) (by decide +kernel)) (by decide +kernel)
theorem wm_X3_35 : Cond.methodLink RX3 35 yX3_present ∈ Wall := wall_of (List.mem_of_getElem? (i := 424) (by decide +kernel)) (by decide +kernel)
theorem wn_X3_present : Cond.instanceMethod yX3_present ∈ Wall := wall_of (List.mem_of_getElem? (i := 425) (by decide +kernel)) (by decide +kernel)
theorem we_X3_present : Cond.selects RX3 yX3_present yX3_present ∈ Wall := wall_of (List.mem_of_getElem? (i := 426) (by decide +kernel)) (by decide +kernel)
theorem wc_X3_present : Cond.code yX3_present cX3_present 3 (some .int) ∈ Wall := wall_of (List.mem_of_getElem? (i := 427) (by decide +kernel)) (by decide +kernel)
theorem wm_X0_120 : Cond.methodLink RX0 120 yX5_slip ∈ Wall := wall_of (List.mem_of_getElem? (i := 428) (by decide +kernel)) (by decide +kernel)
theorem wn_X5_slip : Cond.instanceMethod yX5_slip ∈ Wall := wall_of (List.mem_of_getElem? (i := 429) (by decide +kernel)) (by decide +kernel)
theorem we_X5_slip : Cond.selects RX5 yX5_slip yX5_slip ∈ Wall := wall_of (List.mem_of_getElem? (i := 430) (by decide +kernel)) (by decide +kernel)
theorem wc_X5_slip : Cond.code yX5_slip cX5_slip 2 (some .int) ∈ Wall := wall_of (List.mem_of_getElem? (i := 431) (by decide +kernel)) (by decide +kernel)
theorem wm_X5_66 : Cond.methodLink RX5 66 yJ9_floorDiv_7cf53 ∈ Wall := wall_of (List.mem_of_getElem? (i := 432) (by decide +kernel)) (by decide +kernel)
theorem ws_J9_floorDiv_7cf53 : Cond.static yJ9_floorDiv_7cf53 ∈ Wall := wall_of (List.mem_of_getElem? (i := 433) (by decide +kernel)) (by decide +kernel)
theorem wc_J9_floorDiv_7cf53 : Cond.code yJ9_floorDiv_7cf53 cJ9_floorDiv_7cf53 3 (some .int) ∈ Wall := wall_of (List.mem_of_getElem? (i := 434) (by decide +kernel)) (by decide +kernel)
theorem ws_X6_gripFor : Cond.static yX6_gripFor ∈ Wall := wall_of (List.mem_of_getElem? (i := 436) (by decide +kernel)) (by decide +kernel)
theorem wc_X6_gripFor : Cond.code yX6_gripFor cX6_gripFor 3 (some .int) ∈ Wall := wall_of (List.mem_of_getElem? (i := 437) (by decide +kernel)) (by decide +kernel)
theorem wm_X6_201 : Cond.methodLink RX6 201 yX6_peakOf ∈ Wall := wall_of (List.mem_of_getElem? (i := 438) (by decide +kernel)) (by decide +kernel)
theorem ws_X6_peakOf : Cond.static yX6_peakOf ∈ Wall := wall_of (List.mem_of_getElem? (i := 439) (by decide +kernel)) (by decide +kernel)
theorem wc_X6_peakOf : Cond.code yX6_peakOf cX6_peakOf 1 (some .int) ∈ Wall := wall_of (List.mem_of_getElem? (i := 440) (by decide +kernel)) (by decide +kernel)
theorem wm_X6_204 : Cond.methodLink RX6 204 yJ9_floorDiv_7cf53 ∈ Wall := wall_of (List.mem_of_getElem? (i := 441) (by decide +kernel)) (by decide +kernel)
theorem wm_X6_209 : Cond.methodLink RX6 209 yX6_slideShareOf ∈ Wall := wall_of (List.mem_of_getElem? (i := 442) (by decide +kernel)) (by decide +kernel)
theorem ws_X6_slideShareOf : Cond.static yX6_slideShareOf ∈ Wall := wall_of (List.mem_of_getElem? (i := 443) (by decide +kernel)) (by decide +kernel)
theorem wc_X6_slideShareOf : Cond.code yX6_slideShareOf cX6_slideShareOf 1 (some .int) ∈ Wall := wall_of (List.mem_of_getElem? (i := 444) (by decide +kernel)) (by decide +kernel)
theorem wk_X6_212 : Cond.constant RX6 212 850000 ∈ Wall := wall_of (List.mem_of_getElem? (i := 445) (by decide +kernel)) (by decide +kernel)
theorem wm_X0_83 : Cond.methodLink RX0 83 yJ9_floorDiv_7cf53 ∈ Wall := wall_of (List.mem_of_getElem? (i := 446) (by decide +kernel)) (by decide +kernel)
theorem wm_X0_88 : Cond.methodLink RX0 88 Lib.Math.max.name ∈ Wall := wall_of (List.mem_of_getElem? (i := 447) (by decide +kernel)) (by decide +kernel)
theorem ws_J9_max_7cf53 : Cond.static Lib.Math.max.name ∈ Wall := wall_of (List.mem_of_getElem? (i := 448) (by decide +kernel)) (by decide +kernel)
theorem wc_J9_max_7cf53 : Cond.code Lib.Math.max.name Lib.Math.max.code 2 (some .int) ∈ Wall := wall_of (List.mem_of_getElem? (i := 449) (by decide +kernel)) (by decide +kernel)
theorem wm_X0_91 : Cond.methodLink RX0 91 yX5_turn ∈ Wall := wall_of (List.mem_of_getElem? (i := 450) (by decide +kernel)) (by decide +kernel)
theorem wn_X5_turn : Cond.instanceMethod yX5_turn ∈ Wall := wall_of (List.mem_of_getElem? (i := 451) (by decide +kernel)) (by decide +kernel)
theorem we_X5_turn : Cond.selects RX5 yX5_turn yX5_turn ∈ Wall := wall_of (List.mem_of_getElem? (i := 452) (by decide +kernel)) (by decide +kernel)
theorem wc_X5_turn : Cond.code yX5_turn cX5_turn 2 none ∈ Wall := wall_of (List.mem_of_getElem? (i := 453) (by decide +kernel)) (by decide +kernel)
theorem wm_X5_75 : Cond.methodLink RX5 75 Lib.Math.max.name ∈ Wall := wall_of (List.mem_of_getElem? (i := 454) (by decide +kernel)) (by decide +kernel)
theorem wm_X5_78 : Cond.methodLink RX5 78 Lib.Math.min.name ∈ Wall := wall_of (List.mem_of_getElem? (i := 455) (by decide +kernel)) (by decide +kernel)
theorem ws_J9_min_7cf53 : Cond.static Lib.Math.min.name ∈ Wall := wall_of (List.mem_of_getElem? (i := 456) (by decide +kernel)) (by decide +kernel)
theorem wc_J9_min_7cf53 : Cond.code Lib.Math.min.name Lib.Math.min.code 2 (some .int) ∈ Wall := wall_of (List.mem_of_getElem? (i := 457) (by decide +kernel)) (by decide +kernel)
theorem wm_X0_96 : Cond.methodLink RX0 96 yX3_dropPassed ∈ Wall := wall_of (List.mem_of_getElem? (i := 458) (by decide +kernel)) (by decide +kernel)
theorem wn_X3_dropPassed : Cond.instanceMethod yX3_dropPassed ∈ Wall := wall_of (List.mem_of_getElem? (i := 459) (by decide +kernel)) (by decide +kernel)
theorem we_X3_dropPassed : Cond.selects RX3 yX3_dropPassed yX3_dropPassed ∈ Wall := wall_of (List.mem_of_getElem? (i := 460) (by decide +kernel)) (by decide +kernel)
theorem wc_X3_dropPassed : Cond.code yX3_dropPassed cX3_dropPassed 3 none ∈ Wall := wall_of (List.mem_of_getElem? (i := 461) (by decide +kernel)) (by decide +kernel)
theorem wm_X3_46 : Cond.methodLink RX3 46 yX3_shift ∈ Wall := wall_of (List.mem_of_getElem? (i := 462) (by decide +kernel)) (by decide +kernel)
theorem wn_X3_shift : Cond.instanceMethod yX3_shift ∈ Wall := wall_of (List.mem_of_getElem? (i := 463) (by decide +kernel)) (by decide +kernel)
theorem we_X3_shift : Cond.selects RX3 yX3_shift yX3_shift ∈ Wall := wall_of (List.mem_of_getElem? (i := 464) (by decide +kernel)) (by decide +kernel)
theorem wc_X3_shift : Cond.code yX3_shift cX3_shift 4 none ∈ Wall := wall_of (List.mem_of_getElem? (i := 465) (by decide +kernel)) (by decide +kernel)
theorem wm_X0_99 : Cond.methodLink RX0 99 yX1_act ∈ Wall := wall_of (List.mem_of_getElem? (i := 466) (by decide +kernel)) (by decide +kernel)
theorem wn_X1_act : Cond.instanceMethod yX1_act ∈ Wall := wall_of (List.mem_of_getElem? (i := 467) (by decide +kernel)) (by decide +kernel)
theorem we_X1_act : Cond.selects RX1 yX1_act yX1_act ∈ Wall := wall_of (List.mem_of_getElem? (i := 468) (by decide +kernel)) (by decide +kernel)
theorem wc_X1_act : Cond.code yX1_act cX1_act 3 none ∈ Wall := wall_of (List.mem_of_getElem? (i := 469) (by decide +kernel)) (by decide +kernel)
theorem wm_X1_61 : Cond.methodLink RX1 61 yX1_measureWheels ∈ Wall := wall_of (List.mem_of_getElem? (i := 470) (by decide +kernel)) (by decide +kernel)
theorem wn_X1_measureWheels : Cond.instanceMethod yX1_measureWheels ∈ Wall := wall_of (List.mem_of_getElem? (i := 471) (by decide +kernel)) (by decide +kernel)
theorem we_X1_measureWheels : Cond.selects RX1 yX1_measureWheels yX1_measureWheels ∈ Wall := wall_of (List.mem_of_getElem? (i := 472) (by decide +kernel)) (by decide +kernel)
theorem wc_X1_measureWheels : Cond.code yX1_measureWheels cX1_measureWheels 2 none ∈ Wall := wall_of (List.mem_of_getElem? (i := 473) (by decide +kernel)) (by decide +kernel)
theorem wm_X1_99 : Cond.methodLink RX1 99 yX5_measure ∈ Wall := wall_of (List.mem_of_getElem? (i := 474) (by decide +kernel)) (by decide +kernel)
theorem wn_X5_measure : Cond.instanceMethod yX5_measure ∈ Wall := wall_of (List.mem_of_getElem? (i := 475) (by decide +kernel)) (by decide +kernel)
theorem we_X5_measure : Cond.selects RX5 yX5_measure yX5_measure ∈ Wall := wall_of (List.mem_of_getElem? (i := 476) (by decide +kernel)) (by decide +kernel)
theorem wc_X5_measure : Cond.code yX5_measure cX5_measure 1 none ∈ Wall := wall_of (List.mem_of_getElem? (i := 477) (by decide +kernel)) (by decide +kernel)
theorem wm_X5_81 : Cond.methodLink RX5 81 yX5_forgetOldest ∈ Wall := wall_of (List.mem_of_getElem? (i := 478) (by decide +kernel)) (by decide +kernel)
theorem wn_X5_forgetOldest : Cond.instanceMethod yX5_forgetOldest ∈ Wall := wall_of (List.mem_of_getElem? (i := 479) (by decide +kernel)) (by decide +kernel)
theorem we_X5_forgetOldest : Cond.selects RX5 yX5_forgetOldest yX5_forgetOldest ∈ Wall := wall_of (List.mem_of_getElem? (i := 480) (by decide +kernel)) (by decide +kernel)
theorem wc_X5_forgetOldest : Cond.code yX5_forgetOldest cX5_forgetOldest 1 none ∈ Wall := wall_of (List.mem_of_getElem? (i := 481) (by decide +kernel)) (by decide +kernel)
theorem wm_X5_84 : Cond.methodLink RX5 84 yX5_latest ∈ Wall := wall_of (List.mem_of_getElem? (i := 482) (by decide +kernel)) (by decide +kernel)
theorem wn_X5_latest : Cond.instanceMethod yX5_latest ∈ Wall := wall_of (List.mem_of_getElem? (i := 483) (by decide +kernel)) (by decide +kernel)
theorem we_X5_latest : Cond.selects RX5 yX5_latest yX5_latest ∈ Wall := wall_of (List.mem_of_getElem? (i := 484) (by decide +kernel)) (by decide +kernel)
theorem wc_X5_latest : Cond.code yX5_latest cX5_latest 1 (some .int) ∈ Wall := wall_of (List.mem_of_getElem? (i := 485) (by decide +kernel)) (by decide +kernel)
theorem wm_X1_64 : Cond.methodLink RX1 64 yX1_followReference ∈ Wall := wall_of (List.mem_of_getElem? (i := 486) (by decide +kernel)) (by decide +kernel)
theorem wn_X1_followReference : Cond.instanceMethod yX1_followReference ∈ Wall := wall_of (List.mem_of_getElem? (i := 487) (by decide +kernel)) (by decide +kernel)
theorem we_X1_followReference : Cond.selects RX1 yX1_followReference yX1_followReference ∈ Wall := wall_of (List.mem_of_getElem? (i := 488) (by decide +kernel)) (by decide +kernel)
theorem wc_X1_followReference : Cond.code yX1_followReference cX1_followReference 3 none ∈ Wall := wall_of (List.mem_of_getElem? (i := 489) (by decide +kernel)) (by decide +kernel)
theorem wm_X1_102 : Cond.methodLink RX1 102 yX5_latest ∈ Wall := wall_of (List.mem_of_getElem? (i := 490) (by decide +kernel)) (by decide +kernel)
theorem wm_X1_105 : Cond.methodLink RX1 105 Lib.Math.max.name ∈ Wall := wall_of (List.mem_of_getElem? (i := 491) (by decide +kernel)) (by decide +kernel)
theorem wm_X1_111 : Cond.methodLink RX1 111 Lib.Math.min.name ∈ Wall := wall_of (List.mem_of_getElem? (i := 492) (by decide +kernel)) (by decide +kernel)
theorem wm_X1_67 : Cond.methodLink RX1 67 yX1_estimateSlips ∈ Wall := wall_of (List.mem_of_getElem? (i := 493) (by decide +kernel)) (by decide +kernel)
theorem wn_X1_estimateSlips : Cond.instanceMethod yX1_estimateSlips ∈ Wall := wall_of (List.mem_of_getElem? (i := 494) (by decide +kernel)) (by decide +kernel)
theorem we_X1_estimateSlips : Cond.selects RX1 yX1_estimateSlips yX1_estimateSlips ∈ Wall := wall_of (List.mem_of_getElem? (i := 495) (by decide +kernel)) (by decide +kernel)
theorem wc_X1_estimateSlips : Cond.code yX1_estimateSlips cX1_estimateSlips 2 none ∈ Wall := wall_of (List.mem_of_getElem? (i := 496) (by decide +kernel)) (by decide +kernel)
theorem wm_X1_114 : Cond.methodLink RX1 114 yX5_estimateSlip ∈ Wall := wall_of (List.mem_of_getElem? (i := 497) (by decide +kernel)) (by decide +kernel)
theorem wn_X5_estimateSlip : Cond.instanceMethod yX5_estimateSlip ∈ Wall := wall_of (List.mem_of_getElem? (i := 498) (by decide +kernel)) (by decide +kernel)
theorem we_X5_estimateSlip : Cond.selects RX5 yX5_estimateSlip yX5_estimateSlip ∈ Wall := wall_of (List.mem_of_getElem? (i := 499) (by decide +kernel)) (by decide +kernel)
theorem wc_X5_estimateSlip : Cond.code yX5_estimateSlip cX5_estimateSlip 3 none ∈ Wall := wall_of (List.mem_of_getElem? (i := 500) (by decide +kernel)) (by decide +kernel)
theorem wm_X1_70 : Cond.methodLink RX1 70 yX1_suspectWheels ∈ Wall := wall_of (List.mem_of_getElem? (i := 501) (by decide +kernel)) (by decide +kernel)
theorem wn_X1_suspectWheels : Cond.instanceMethod yX1_suspectWheels ∈ Wall := wall_of (List.mem_of_getElem? (i := 502) (by decide +kernel)) (by decide +kernel)
theorem we_X1_suspectWheels : Cond.selects RX1 yX1_suspectWheels yX1_suspectWheels ∈ Wall := wall_of (List.mem_of_getElem? (i := 503) (by decide +kernel)) (by decide +kernel)
theorem wc_X1_suspectWheels : Cond.code yX1_suspectWheels cX1_suspectWheels 3 none ∈ Wall := wall_of (List.mem_of_getElem? (i := 504) (by decide +kernel)) (by decide +kernel)
theorem wm_X1_117 : Cond.methodLink RX1 117 yX1_suspect ∈ Wall := wall_of (List.mem_of_getElem? (i := 505) (by decide +kernel)) (by decide +kernel)
theorem wn_X1_suspect : Cond.instanceMethod yX1_suspect ∈ Wall := wall_of (List.mem_of_getElem? (i := 506) (by decide +kernel)) (by decide +kernel)
theorem we_X1_suspect : Cond.selects RX1 yX1_suspect yX1_suspect ∈ Wall := wall_of (List.mem_of_getElem? (i := 507) (by decide +kernel)) (by decide +kernel)
theorem wc_X1_suspect : Cond.code yX1_suspect cX1_suspect 5 none ∈ Wall := wall_of (List.mem_of_getElem? (i := 508) (by decide +kernel)) (by decide +kernel)
theorem wm_X1_120 : Cond.methodLink RX1 120 yX2_add ∈ Wall := wall_of (List.mem_of_getElem? (i := 509) (by decide +kernel)) (by decide +kernel)
theorem wn_X2_add : Cond.instanceMethod yX2_add ∈ Wall := wall_of (List.mem_of_getElem? (i := 510) (by decide +kernel)) (by decide +kernel)
theorem we_X2_add : Cond.selects RX2 yX2_add yX2_add ∈ Wall := wall_of (List.mem_of_getElem? (i := 511) (by decide +kernel)) (by decide +kernel)
theorem wc_X2_add : Cond.code yX2_add cX2_add 5 none ∈ Wall := wall_of (List.mem_of_getElem? (i := 512) (by decide +kernel)) (by decide +kernel)
theorem wm_X1_73 : Cond.methodLink RX1 73 yX1_choosePhases ∈ Wall := wall_of (List.mem_of_getElem? (i := 513) (by decide +kernel)) (by decide +kernel)
theorem wn_X1_choosePhases : Cond.instanceMethod yX1_choosePhases ∈ Wall := wall_of (List.mem_of_getElem? (i := 514) (by decide +kernel)) (by decide +kernel)
theorem we_X1_choosePhases : Cond.selects RX1 yX1_choosePhases yX1_choosePhases ∈ Wall := wall_of (List.mem_of_getElem? (i := 515) (by decide +kernel)) (by decide +kernel)
theorem wc_X1_choosePhases : Cond.code yX1_choosePhases cX1_choosePhases 7 none ∈ Wall := wall_of (List.mem_of_getElem? (i := 516) (by decide +kernel)) (by decide +kernel)
theorem wm_X1_124 : Cond.methodLink RX1 124 yX1_isActive ∈ Wall := wall_of (List.mem_of_getElem? (i := 517) (by decide +kernel)) (by decide +kernel)
theorem wn_X1_isActive : Cond.instanceMethod yX1_isActive ∈ Wall := wall_of (List.mem_of_getElem? (i := 518) (by decide +kernel)) (by decide +kernel)
theorem we_X1_isActive : Cond.selects RX1 yX1_isActive yX1_isActive ∈ Wall := wall_of (List.mem_of_getElem? (i := 519) (by decide +kernel)) (by decide +kernel)
theorem wc_X1_isActive : Cond.code yX1_isActive cX1_isActive 2 (some .boolean) ∈ Wall := wall_of (List.mem_of_getElem? (i := 520) (by decide +kernel)) (by decide +kernel)
theorem wm_X1_128 : Cond.methodLink RX1 128 yX1_isFrontExcluded ∈ Wall := wall_of (List.mem_of_getElem? (i := 521) (by decide +kernel)) (by decide +kernel)
theorem wn_X1_isFrontExcluded : Cond.instanceMethod yX1_isFrontExcluded ∈ Wall := wall_of (List.mem_of_getElem? (i := 522) (by decide +kernel)) (by decide +kernel)
theorem we_X1_isFrontExcluded : Cond.selects RX1 yX1_isFrontExcluded yX1_isFrontExcluded ∈ Wall := wall_of (List.mem_of_getElem? (i := 523) (by decide +kernel)) (by decide +kernel)
theorem wc_X1_isFrontExcluded : Cond.code yX1_isFrontExcluded cX1_isFrontExcluded 1 (some .boolean) ∈ Wall := wall_of (List.mem_of_getElem? (i := 524) (by decide +kernel)) (by decide +kernel)
theorem wm_X1_132 : Cond.methodLink RX1 132 yX1_isRearExcluded ∈ Wall := wall_of (List.mem_of_getElem? (i := 525) (by decide +kernel)) (by decide +kernel)
theorem wn_X1_isRearExcluded : Cond.instanceMethod yX1_isRearExcluded ∈ Wall := wall_of (List.mem_of_getElem? (i := 526) (by decide +kernel)) (by decide +kernel)
theorem we_X1_isRearExcluded : Cond.selects RX1 yX1_isRearExcluded yX1_isRearExcluded ∈ Wall := wall_of (List.mem_of_getElem? (i := 527) (by decide +kernel)) (by decide +kernel)
theorem wc_X1_isRearExcluded : Cond.code yX1_isRearExcluded cX1_isRearExcluded 1 (some .boolean) ∈ Wall := wall_of (List.mem_of_getElem? (i := 528) (by decide +kernel)) (by decide +kernel)
theorem wm_X1_135 : Cond.methodLink RX1 135 yX1_phaseAfter ∈ Wall := wall_of (List.mem_of_getElem? (i := 529) (by decide +kernel)) (by decide +kernel)
theorem ws_X1_phaseAfter : Cond.static yX1_phaseAfter ∈ Wall := wall_of (List.mem_of_getElem? (i := 530) (by decide +kernel)) (by decide +kernel)
theorem wc_X1_phaseAfter : Cond.code yX1_phaseAfter cX1_phaseAfter 5 (some .int) ∈ Wall := wall_of (List.mem_of_getElem? (i := 531) (by decide +kernel)) (by decide +kernel)
theorem wm_X1_142 : Cond.methodLink RX1 142 yX1_selectLow ∈ Wall := wall_of (List.mem_of_getElem? (i := 532) (by decide +kernel)) (by decide +kernel)
theorem wn_X1_selectLow : Cond.instanceMethod yX1_selectLow ∈ Wall := wall_of (List.mem_of_getElem? (i := 533) (by decide +kernel)) (by decide +kernel)
theorem we_X1_selectLow : Cond.selects RX1 yX1_selectLow yX1_selectLow ∈ Wall := wall_of (List.mem_of_getElem? (i := 534) (by decide +kernel)) (by decide +kernel)
theorem wc_X1_selectLow : Cond.code yX1_selectLow cX1_selectLow 4 none ∈ Wall := wall_of (List.mem_of_getElem? (i := 535) (by decide +kernel)) (by decide +kernel)
theorem wm_X1_146 : Cond.methodLink RX1 146 yX1_urgency ∈ Wall := wall_of (List.mem_of_getElem? (i := 536) (by decide +kernel)) (by decide +kernel)
theorem ws_X1_urgency : Cond.static yX1_urgency ∈ Wall := wall_of (List.mem_of_getElem? (i := 537) (by decide +kernel)) (by decide +kernel)
theorem wc_X1_urgency : Cond.code yX1_urgency cX1_urgency 1 (some .int) ∈ Wall := wall_of (List.mem_of_getElem? (i := 538) (by decide +kernel)) (by decide +kernel)
theorem wm_X1_76 : Cond.methodLink RX1 76 yX1_enterPhases ∈ Wall := wall_of (List.mem_of_getElem? (i := 539) (by decide +kernel)) (by decide +kernel)
theorem wn_X1_enterPhases : Cond.instanceMethod yX1_enterPhases ∈ Wall := wall_of (List.mem_of_getElem? (i := 540) (by decide +kernel)) (by decide +kernel)
theorem we_X1_enterPhases : Cond.selects RX1 yX1_enterPhases yX1_enterPhases ∈ Wall := wall_of (List.mem_of_getElem? (i := 541) (by decide +kernel)) (by decide +kernel)
theorem wc_X1_enterPhases : Cond.code yX1_enterPhases cX1_enterPhases 4 none ∈ Wall := wall_of (List.mem_of_getElem? (i := 542) (by decide +kernel)) (by decide +kernel)
theorem wm_X1_162 : Cond.methodLink RX1 162 yX5_enter ∈ Wall := wall_of (List.mem_of_getElem? (i := 543) (by decide +kernel)) (by decide +kernel)
theorem wn_X5_enter : Cond.instanceMethod yX5_enter ∈ Wall := wall_of (List.mem_of_getElem? (i := 544) (by decide +kernel)) (by decide +kernel)
theorem we_X5_enter : Cond.selects RX5 yX5_enter yX5_enter ∈ Wall := wall_of (List.mem_of_getElem? (i := 545) (by decide +kernel)) (by decide +kernel)
theorem wc_X5_enter : Cond.code yX5_enter cX5_enter 2 none ∈ Wall := wall_of (List.mem_of_getElem? (i := 546) (by decide +kernel)) (by decide +kernel)
theorem wm_X1_79 : Cond.methodLink RX1 79 yX1_movePressures ∈ Wall := wall_of (List.mem_of_getElem? (i := 547) (by decide +kernel)) (by decide +kernel)
theorem wn_X1_movePressures : Cond.instanceMethod yX1_movePressures ∈ Wall := wall_of (List.mem_of_getElem? (i := 548) (by decide +kernel)) (by decide +kernel)
theorem we_X1_movePressures : Cond.selects RX1 yX1_movePressures yX1_movePressures ∈ Wall := wall_of (List.mem_of_getElem? (i := 549) (by decide +kernel)) (by decide +kernel)
theorem wc_X1_movePressures : Cond.code yX1_movePressures cX1_movePressures 5 none ∈ Wall := wall_of (List.mem_of_getElem? (i := 550) (by decide +kernel)) (by decide +kernel)
theorem wm_X1_168 : Cond.methodLink RX1 168 yX1_dump ∈ Wall := wall_of (List.mem_of_getElem? (i := 551) (by decide +kernel)) (by decide +kernel)
theorem wn_X1_dump : Cond.instanceMethod yX1_dump ∈ Wall := wall_of (List.mem_of_getElem? (i := 552) (by decide +kernel)) (by decide +kernel)
theorem we_X1_dump : Cond.selects RX1 yX1_dump yX1_dump ∈ Wall := wall_of (List.mem_of_getElem? (i := 553) (by decide +kernel)) (by decide +kernel)
theorem wc_X1_dump : Cond.code yX1_dump cX1_dump 5 none ∈ Wall := wall_of (List.mem_of_getElem? (i := 554) (by decide +kernel)) (by decide +kernel)
theorem wm_X1_171 : Cond.methodLink RX1 171 yX5_movePressure ∈ Wall := wall_of (List.mem_of_getElem? (i := 555) (by decide +kernel)) (by decide +kernel)
theorem wn_X5_movePressure : Cond.instanceMethod yX5_movePressure ∈ Wall := wall_of (List.mem_of_getElem? (i := 556) (by decide +kernel)) (by decide +kernel)
theorem we_X5_movePressure : Cond.selects RX5 yX5_movePressure yX5_movePressure ∈ Wall := wall_of (List.mem_of_getElem? (i := 557) (by decide +kernel)) (by decide +kernel)
theorem wc_X5_movePressure : Cond.code yX5_movePressure cX5_movePressure 2 none ∈ Wall := wall_of (List.mem_of_getElem? (i := 558) (by decide +kernel)) (by decide +kernel)
theorem wm_X1_83 : Cond.methodLink RX1 83 yX1_limitYaw ∈ Wall := wall_of (List.mem_of_getElem? (i := 559) (by decide +kernel)) (by decide +kernel)
theorem wn_X1_limitYaw : Cond.instanceMethod yX1_limitYaw ∈ Wall := wall_of (List.mem_of_getElem? (i := 560) (by decide +kernel)) (by decide +kernel)
theorem we_X1_limitYaw : Cond.selects RX1 yX1_limitYaw yX1_limitYaw ∈ Wall := wall_of (List.mem_of_getElem? (i := 561) (by decide +kernel)) (by decide +kernel)
theorem wc_X1_limitYaw : Cond.code yX1_limitYaw cX1_limitYaw 4 none ∈ Wall := wall_of (List.mem_of_getElem? (i := 562) (by decide +kernel)) (by decide +kernel)
theorem wm_X1_86 : Cond.methodLink RX1 86 yX1_pump ∈ Wall := wall_of (List.mem_of_getElem? (i := 563) (by decide +kernel)) (by decide +kernel)
theorem wn_X1_pump : Cond.instanceMethod yX1_pump ∈ Wall := wall_of (List.mem_of_getElem? (i := 564) (by decide +kernel)) (by decide +kernel)
theorem we_X1_pump : Cond.selects RX1 yX1_pump yX1_pump ∈ Wall := wall_of (List.mem_of_getElem? (i := 565) (by decide +kernel)) (by decide +kernel)
theorem wc_X1_pump : Cond.code yX1_pump cX1_pump 1 none ∈ Wall := wall_of (List.mem_of_getElem? (i := 566) (by decide +kernel)) (by decide +kernel)
theorem wm_X0_103 : Cond.methodLink RX0 103 yX5_countLocked ∈ Wall := wall_of (List.mem_of_getElem? (i := 567) (by decide +kernel)) (by decide +kernel)
theorem wn_X5_countLocked : Cond.instanceMethod yX5_countLocked ∈ Wall := wall_of (List.mem_of_getElem? (i := 568) (by decide +kernel)) (by decide +kernel)
theorem we_X5_countLocked : Cond.selects RX5 yX5_countLocked yX5_countLocked ∈ Wall := wall_of (List.mem_of_getElem? (i := 569) (by decide +kernel)) (by decide +kernel)
theorem wc_X5_countLocked : Cond.code yX5_countLocked cX5_countLocked 2 none ∈ Wall := wall_of (List.mem_of_getElem? (i := 570) (by decide +kernel)) (by decide +kernel)
theorem wm_L_123 : Cond.methodLink RL 123 yX6_segments ∈ Wall := wall_of (List.mem_of_getElem? (i := 571) (by decide +kernel)) (by decide +kernel)
theorem wn_X6_segments : Cond.instanceMethod yX6_segments ∈ Wall := wall_of (List.mem_of_getElem? (i := 572) (by decide +kernel)) (by decide +kernel)
theorem we_X6_segments : Cond.selects RX6 yX6_segments yX6_segments ∈ Wall := wall_of (List.mem_of_getElem? (i := 573) (by decide +kernel)) (by decide +kernel)
theorem wc_X6_segments : Cond.code yX6_segments cX6_segments 1 (some .int) ∈ Wall := wall_of (List.mem_of_getElem? (i := 574) (by decide +kernel)) (by decide +kernel)
theorem wm_L_130 : Cond.methodLink RL 130 yX6_planned ∈ Wall := wall_of (List.mem_of_getElem? (i := 575) (by decide +kernel)) (by decide +kernel)
theorem wn_X6_planned : Cond.instanceMethod yX6_planned ∈ Wall := wall_of (List.mem_of_getElem? (i := 576) (by decide +kernel)) (by decide +kernel)
theorem we_X6_planned : Cond.selects RX6 yX6_planned yX6_planned ∈ Wall := wall_of (List.mem_of_getElem? (i := 577) (by decide +kernel)) (by decide +kernel)
theorem wc_X6_planned : Cond.code yX6_planned cX6_planned 1 (some .int) ∈ Wall := wall_of (List.mem_of_getElem? (i := 578) (by decide +kernel)) (by decide +kernel)
theorem wm_L_134 : Cond.methodLink RL 134 yX6_events ∈ Wall := wall_of (List.mem_of_getElem? (i := 579) (by decide +kernel)) (by decide +kernel)
theorem wn_X6_events : Cond.instanceMethod yX6_events ∈ Wall := wall_of (List.mem_of_getElem? (i := 580) (by decide +kernel)) (by decide +kernel)
theorem we_X6_events : Cond.selects RX6 yX6_events yX6_events ∈ Wall := wall_of (List.mem_of_getElem? (i := 581) (by decide +kernel)) (by decide +kernel)
theorem wc_X6_events : Cond.code yX6_events cX6_events 1 (some .int) ∈ Wall := wall_of (List.mem_of_getElem? (i := 582) (by decide +kernel)) (by decide +kernel)
theorem wm_L_145 : Cond.methodLink RL 145 yX6_digest ∈ Wall := wall_of (List.mem_of_getElem? (i := 583) (by decide +kernel)) (by decide +kernel)
theorem wn_X6_digest : Cond.instanceMethod yX6_digest ∈ Wall := wall_of (List.mem_of_getElem? (i := 584) (by decide +kernel)) (by decide +kernel)
theorem we_X6_digest : Cond.selects RX6 yX6_digest yX6_digest ∈ Wall := wall_of (List.mem_of_getElem? (i := 585) (by decide +kernel)) (by decide +kernel)
theorem wc_X6_digest : Cond.code yX6_digest cX6_digest 1 (some .long) ∈ Wall := wall_of (List.mem_of_getElem? (i := 586) (by decide +kernel)) (by decide +kernel)
theorem wk_X6_188 : Cond.constantLong RX6 188 19707 ∈ Wall := wall_of (List.mem_of_getElem? (i := 587) (by decide +kernel)) (by decide +kernel)
theorem wm_X6_190 : Cond.methodLink RX6 190 yX6_mix ∈ Wall := wall_of (List.mem_of_getElem? (i := 588) (by decide +kernel)) (by decide +kernel)
theorem ws_X6_mix : Cond.static yX6_mix ∈ Wall := wall_of (List.mem_of_getElem? (i := 589) (by decide +kernel)) (by decide +kernel)
theorem wc_X6_mix : Cond.code yX6_mix cX6_mix 3 (some .long) ∈ Wall := wall_of (List.mem_of_getElem? (i := 590) (by decide +kernel)) (by decide +kernel)
theorem wk_X6_213 : Cond.constantLong RX6 213 31 ∈ Wall := wall_of (List.mem_of_getElem? (i := 591) (by decide +kernel)) (by decide +kernel)
theorem wm_X6_194 : Cond.methodLink RX6 194 yX0_mixInto ∈ Wall := wall_of (List.mem_of_getElem? (i := 592) (by decide +kernel)) (by decide +kernel)
theorem wn_X0_mixInto : Cond.instanceMethod yX0_mixInto ∈ Wall := wall_of (List.mem_of_getElem? (i := 593) (by decide +kernel)) (by decide +kernel)
theorem we_X0_mixInto : Cond.selects RX0 yX0_mixInto yX0_mixInto ∈ Wall := wall_of (List.mem_of_getElem? (i := 594) (by decide +kernel)) (by decide +kernel)
theorem wc_X0_mixInto : Cond.code yX0_mixInto cX0_mixInto 6 (some .long) ∈ Wall := wall_of (List.mem_of_getElem? (i := 595) (by decide +kernel)) (by decide +kernel)
theorem wm_X0_181 : Cond.methodLink RX0 181 yX0_carValue ∈ Wall := wall_of (List.mem_of_getElem? (i := 596) (by decide +kernel)) (by decide +kernel)
theorem wn_X0_carValue : Cond.instanceMethod yX0_carValue ∈ Wall := wall_of (List.mem_of_getElem? (i := 597) (by decide +kernel)) (by decide +kernel)
theorem we_X0_carValue : Cond.selects RX0 yX0_carValue yX0_carValue ∈ Wall := wall_of (List.mem_of_getElem? (i := 598) (by decide +kernel)) (by decide +kernel)
theorem wc_X0_carValue : Cond.code yX0_carValue cX0_carValue 2 (some .int) ∈ Wall := wall_of (List.mem_of_getElem? (i := 599) (by decide +kernel)) (by decide +kernel)
theorem wm_X0_138 : Cond.methodLink RX0 138 yX1_isActive ∈ Wall := wall_of (List.mem_of_getElem? (i := 600) (by decide +kernel)) (by decide +kernel)
theorem ws_X6_asNumber : Cond.static yX6_asNumber ∈ Wall := wall_of (List.mem_of_getElem? (i := 602) (by decide +kernel)) (by decide +kernel)
theorem wc_X6_asNumber : Cond.code yX6_asNumber cX6_asNumber 1 (some .int) ∈ Wall := wall_of (List.mem_of_getElem? (i := 603) (by decide +kernel)) (by decide +kernel)
theorem wm_X0_188 : Cond.methodLink RX0 188 yX0_mixWheel ∈ Wall := wall_of (List.mem_of_getElem? (i := 605) (by decide +kernel)) (by decide +kernel)
theorem wn_X0_mixWheel : Cond.instanceMethod yX0_mixWheel ∈ Wall := wall_of (List.mem_of_getElem? (i := 606) (by decide +kernel)) (by decide +kernel)
theorem we_X0_mixWheel : Cond.selects RX0 yX0_mixWheel yX0_mixWheel ∈ Wall := wall_of (List.mem_of_getElem? (i := 607) (by decide +kernel)) (by decide +kernel)
theorem wc_X0_mixWheel : Cond.code yX0_mixWheel cX0_mixWheel 7 (some .long) ∈ Wall := wall_of (List.mem_of_getElem? (i := 608) (by decide +kernel)) (by decide +kernel)
theorem wm_X0_199 : Cond.methodLink RX0 199 yX0_wheelValue ∈ Wall := wall_of (List.mem_of_getElem? (i := 609) (by decide +kernel)) (by decide +kernel)
theorem wn_X0_wheelValue : Cond.instanceMethod yX0_wheelValue ∈ Wall := wall_of (List.mem_of_getElem? (i := 610) (by decide +kernel)) (by decide +kernel)
theorem we_X0_wheelValue : Cond.selects RX0 yX0_wheelValue yX0_wheelValue ∈ Wall := wall_of (List.mem_of_getElem? (i := 611) (by decide +kernel)) (by decide +kernel)
theorem wc_X0_wheelValue : Cond.code yX0_wheelValue cX0_wheelValue 4 (some .int) ∈ Wall := wall_of (List.mem_of_getElem? (i := 612) (by decide +kernel)) (by decide +kernel)
theorem wm_X0_191 : Cond.methodLink RX0 191 yX3_mixInto ∈ Wall := wall_of (List.mem_of_getElem? (i := 613) (by decide +kernel)) (by decide +kernel)
theorem wn_X3_mixInto : Cond.instanceMethod yX3_mixInto ∈ Wall := wall_of (List.mem_of_getElem? (i := 614) (by decide +kernel)) (by decide +kernel)
theorem we_X3_mixInto : Cond.selects RX3 yX3_mixInto yX3_mixInto ∈ Wall := wall_of (List.mem_of_getElem? (i := 615) (by decide +kernel)) (by decide +kernel)
theorem wc_X3_mixInto : Cond.code yX3_mixInto cX3_mixInto 6 (some .long) ∈ Wall := wall_of (List.mem_of_getElem? (i := 616) (by decide +kernel)) (by decide +kernel)
theorem wm_X0_195 : Cond.methodLink RX0 195 yX4_mixInto ∈ Wall := wall_of (List.mem_of_getElem? (i := 618) (by decide +kernel)) (by decide +kernel)
theorem wn_X4_mixInto : Cond.instanceMethod yX4_mixInto ∈ Wall := wall_of (List.mem_of_getElem? (i := 619) (by decide +kernel)) (by decide +kernel)
theorem we_X4_mixInto : Cond.selects RX4 yX4_mixInto yX4_mixInto ∈ Wall := wall_of (List.mem_of_getElem? (i := 620) (by decide +kernel)) (by decide +kernel)
theorem wc_X4_mixInto : Cond.code yX4_mixInto cX4_mixInto 6 (some .long) ∈ Wall := wall_of (List.mem_of_getElem? (i := 621) (by decide +kernel)) (by decide +kernel)
theorem wm_X0_196 : Cond.methodLink RX0 196 yX2_mixInto ∈ Wall := wall_of (List.mem_of_getElem? (i := 623) (by decide +kernel)) (by decide +kernel)
theorem wn_X2_mixInto : Cond.instanceMethod yX2_mixInto ∈ Wall := wall_of (List.mem_of_getElem? (i := 624) (by decide +kernel)) (by decide +kernel)
theorem we_X2_mixInto : Cond.selects RX2 yX2_mixInto yX2_mixInto ∈ Wall := wall_of (List.mem_of_getElem? (i := 625) (by decide +kernel)) (by decide +kernel)
theorem wc_X2_mixInto : Cond.code yX2_mixInto cX2_mixInto 7 (some .long) ∈ Wall := wall_of (List.mem_of_getElem? (i := 626) (by decide +kernel)) (by decide +kernel)
theorem wm_X2_32 : Cond.methodLink RX2 32 yX2_rowOf ∈ Wall := wall_of (List.mem_of_getElem? (i := 628) (by decide +kernel)) (by decide +kernel)
theorem wn_X2_rowOf : Cond.instanceMethod yX2_rowOf ∈ Wall := wall_of (List.mem_of_getElem? (i := 629) (by decide +kernel)) (by decide +kernel)
theorem we_X2_rowOf : Cond.selects RX2 yX2_rowOf yX2_rowOf ∈ Wall := wall_of (List.mem_of_getElem? (i := 630) (by decide +kernel)) (by decide +kernel)
theorem wc_X2_rowOf : Cond.code yX2_rowOf cX2_rowOf 2 (some .int) ∈ Wall := wall_of (List.mem_of_getElem? (i := 631) (by decide +kernel)) (by decide +kernel)
theorem wm_L_67 : Cond.methodLink RL 67 yL_setSpeed ∈ Wall := wall_of (List.mem_of_getElem? (i := 632) (by decide +kernel)) (by decide +kernel)
theorem ws_L_setSpeed : Cond.static yL_setSpeed ∈ Wall := wall_of (List.mem_of_getElem? (i := 633) (by decide +kernel)) (by decide +kernel)
theorem wm_L_7 : Cond.methodLink RL 7 yX6_setSpeed ∈ Wall := wall_of (List.mem_of_getElem? (i := 636) (by decide +kernel)) (by decide +kernel)
theorem wn_X6_setSpeed : Cond.instanceMethod yX6_setSpeed ∈ Wall := wall_of (List.mem_of_getElem? (i := 637) (by decide +kernel)) (by decide +kernel)
theorem we_X6_setSpeed : Cond.selects RX6 yX6_setSpeed yX6_setSpeed ∈ Wall := wall_of (List.mem_of_getElem? (i := 638) (by decide +kernel)) (by decide +kernel)
theorem wc_X6_setSpeed : Cond.code yX6_setSpeed cX6_setSpeed 3 (some .int) ∈ Wall := wall_of (List.mem_of_getElem? (i := 639) (by decide +kernel)) (by decide +kernel)
theorem wk_X6_27 : Cond.constant RX6 27 60000 ∈ Wall := wall_of (List.mem_of_getElem? (i := 640) (by decide +kernel)) (by decide +kernel)
theorem wm_X6_28 : Cond.methodLink RX6 28 yX6_isWithin ∈ Wall := wall_of (List.mem_of_getElem? (i := 641) (by decide +kernel)) (by decide +kernel)
theorem ws_X6_isWithin : Cond.static yX6_isWithin ∈ Wall := wall_of (List.mem_of_getElem? (i := 642) (by decide +kernel)) (by decide +kernel)
theorem wc_X6_isWithin : Cond.code yX6_isWithin cX6_isWithin 3 (some .boolean) ∈ Wall := wall_of (List.mem_of_getElem? (i := 643) (by decide +kernel)) (by decide +kernel)
theorem wm_X6_45 : Cond.methodLink RX6 45 yX0_startAt ∈ Wall := wall_of (List.mem_of_getElem? (i := 712) (by decide +kernel)) (by decide +kernel)
theorem wn_X0_startAt : Cond.instanceMethod yX0_startAt ∈ Wall := wall_of (List.mem_of_getElem? (i := 713) (by decide +kernel)) (by decide +kernel)
theorem we_X0_startAt : Cond.selects RX0 yX0_startAt yX0_startAt ∈ Wall := wall_of (List.mem_of_getElem? (i := 714) (by decide +kernel)) (by decide +kernel)
theorem wc_X0_startAt : Cond.code yX0_startAt cX0_startAt 2 none ∈ Wall := wall_of (List.mem_of_getElem? (i := 715) (by decide +kernel)) (by decide +kernel)
theorem wm_X0_71 : Cond.methodLink RX0 71 yX1_startAt ∈ Wall := wall_of (List.mem_of_getElem? (i := 716) (by decide +kernel)) (by decide +kernel)
theorem wm_L_76 : Cond.methodLink RL 76 yL_addSegment ∈ Wall := wall_of (List.mem_of_getElem? (i := 717) (by decide +kernel)) (by decide +kernel)
theorem ws_L_addSegment : Cond.static yL_addSegment ∈ Wall := wall_of (List.mem_of_getElem? (i := 718) (by decide +kernel)) (by decide +kernel)
theorem wm_L_15 : Cond.methodLink RL 15 yX6_addSegment ∈ Wall := wall_of (List.mem_of_getElem? (i := 721) (by decide +kernel)) (by decide +kernel)
theorem wn_X6_addSegment : Cond.instanceMethod yX6_addSegment ∈ Wall := wall_of (List.mem_of_getElem? (i := 722) (by decide +kernel)) (by decide +kernel)
theorem we_X6_addSegment : Cond.selects RX6 yX6_addSegment yX6_addSegment ∈ Wall := wall_of (List.mem_of_getElem? (i := 723) (by decide +kernel)) (by decide +kernel)
theorem wc_X6_addSegment : Cond.code yX6_addSegment cX6_addSegment 4 (some .int) ∈ Wall := wall_of (List.mem_of_getElem? (i := 724) (by decide +kernel)) (by decide +kernel)
theorem wk_X6_52 : Cond.constant RX6 52 100000000 ∈ Wall := wall_of (List.mem_of_getElem? (i := 725) (by decide +kernel)) (by decide +kernel)
theorem wm_X6_53 : Cond.methodLink RX6 53 yX6_isSurface ∈ Wall := wall_of (List.mem_of_getElem? (i := 726) (by decide +kernel)) (by decide +kernel)
theorem ws_X6_isSurface : Cond.static yX6_isSurface ∈ Wall := wall_of (List.mem_of_getElem? (i := 727) (by decide +kernel)) (by decide +kernel)
theorem wc_X6_isSurface : Cond.code yX6_isSurface cX6_isSurface 1 (some .boolean) ∈ Wall := wall_of (List.mem_of_getElem? (i := 728) (by decide +kernel)) (by decide +kernel)
theorem wm_X6_63 : Cond.methodLink RX6 63 yX3_hasRoomFor ∈ Wall := wall_of (List.mem_of_getElem? (i := 730) (by decide +kernel)) (by decide +kernel)
theorem wn_X3_hasRoomFor : Cond.instanceMethod yX3_hasRoomFor ∈ Wall := wall_of (List.mem_of_getElem? (i := 731) (by decide +kernel)) (by decide +kernel)
theorem we_X3_hasRoomFor : Cond.selects RX3 yX3_hasRoomFor yX3_hasRoomFor ∈ Wall := wall_of (List.mem_of_getElem? (i := 732) (by decide +kernel)) (by decide +kernel)
theorem wc_X3_hasRoomFor : Cond.code yX3_hasRoomFor cX3_hasRoomFor 2 (some .boolean) ∈ Wall := wall_of (List.mem_of_getElem? (i := 733) (by decide +kernel)) (by decide +kernel)
theorem wm_X3_39 : Cond.methodLink RX3 39 yX3_placeOf ∈ Wall := wall_of (List.mem_of_getElem? (i := 734) (by decide +kernel)) (by decide +kernel)
theorem wn_X3_placeOf : Cond.instanceMethod yX3_placeOf ∈ Wall := wall_of (List.mem_of_getElem? (i := 735) (by decide +kernel)) (by decide +kernel)
theorem we_X3_placeOf : Cond.selects RX3 yX3_placeOf yX3_placeOf ∈ Wall := wall_of (List.mem_of_getElem? (i := 736) (by decide +kernel)) (by decide +kernel)
theorem wc_X3_placeOf : Cond.code yX3_placeOf cX3_placeOf 3 (some .int) ∈ Wall := wall_of (List.mem_of_getElem? (i := 737) (by decide +kernel)) (by decide +kernel)
theorem wm_X3_42 : Cond.methodLink RX3 42 yX3_isStart ∈ Wall := wall_of (List.mem_of_getElem? (i := 738) (by decide +kernel)) (by decide +kernel)
theorem wn_X3_isStart : Cond.instanceMethod yX3_isStart ∈ Wall := wall_of (List.mem_of_getElem? (i := 739) (by decide +kernel)) (by decide +kernel)
theorem we_X3_isStart : Cond.selects RX3 yX3_isStart yX3_isStart ∈ Wall := wall_of (List.mem_of_getElem? (i := 740) (by decide +kernel)) (by decide +kernel)
theorem wc_X3_isStart : Cond.code yX3_isStart cX3_isStart 3 (some .boolean) ∈ Wall := wall_of (List.mem_of_getElem? (i := 741) (by decide +kernel)) (by decide +kernel)
theorem wm_X6_73 : Cond.methodLink RX6 73 yX3_put ∈ Wall := wall_of (List.mem_of_getElem? (i := 758) (by decide +kernel)) (by decide +kernel)
theorem wn_X3_put : Cond.instanceMethod yX3_put ∈ Wall := wall_of (List.mem_of_getElem? (i := 759) (by decide +kernel)) (by decide +kernel)
theorem we_X3_put : Cond.selects RX3 yX3_put yX3_put ∈ Wall := wall_of (List.mem_of_getElem? (i := 760) (by decide +kernel)) (by decide +kernel)
theorem wc_X3_put : Cond.code yX3_put cX3_put 5 none ∈ Wall := wall_of (List.mem_of_getElem? (i := 761) (by decide +kernel)) (by decide +kernel)
theorem wm_L_80 : Cond.methodLink RL 80 yL_setDemand ∈ Wall := wall_of (List.mem_of_getElem? (i := 762) (by decide +kernel)) (by decide +kernel)
theorem ws_L_setDemand : Cond.static yL_setDemand ∈ Wall := wall_of (List.mem_of_getElem? (i := 763) (by decide +kernel)) (by decide +kernel)
theorem wm_L_21 : Cond.methodLink RL 21 yX6_setDemand ∈ Wall := wall_of (List.mem_of_getElem? (i := 765) (by decide +kernel)) (by decide +kernel)
theorem wn_X6_setDemand : Cond.instanceMethod yX6_setDemand ∈ Wall := wall_of (List.mem_of_getElem? (i := 766) (by decide +kernel)) (by decide +kernel)
theorem we_X6_setDemand : Cond.selects RX6 yX6_setDemand yX6_setDemand ∈ Wall := wall_of (List.mem_of_getElem? (i := 767) (by decide +kernel)) (by decide +kernel)
theorem wc_X6_setDemand : Cond.code yX6_setDemand cX6_setDemand 3 (some .int) ∈ Wall := wall_of (List.mem_of_getElem? (i := 768) (by decide +kernel)) (by decide +kernel)
theorem wm_L_83 : Cond.methodLink RL 83 yL_plan ∈ Wall := wall_of (List.mem_of_getElem? (i := 770) (by decide +kernel)) (by decide +kernel)
theorem ws_L_plan : Cond.static yL_plan ∈ Wall := wall_of (List.mem_of_getElem? (i := 771) (by decide +kernel)) (by decide +kernel)
theorem wm_L_24 : Cond.methodLink RL 24 yX6_plan ∈ Wall := wall_of (List.mem_of_getElem? (i := 773) (by decide +kernel)) (by decide +kernel)
theorem wn_X6_plan : Cond.instanceMethod yX6_plan ∈ Wall := wall_of (List.mem_of_getElem? (i := 774) (by decide +kernel)) (by decide +kernel)
theorem we_X6_plan : Cond.selects RX6 yX6_plan yX6_plan ∈ Wall := wall_of (List.mem_of_getElem? (i := 775) (by decide +kernel)) (by decide +kernel)
theorem wc_X6_plan : Cond.code yX6_plan cX6_plan 3 (some .int) ∈ Wall := wall_of (List.mem_of_getElem? (i := 776) (by decide +kernel)) (by decide +kernel)
theorem wm_X6_89 : Cond.methodLink RX6 89 yX4_isFull ∈ Wall := wall_of (List.mem_of_getElem? (i := 777) (by decide +kernel)) (by decide +kernel)
theorem wn_X4_isFull : Cond.instanceMethod yX4_isFull ∈ Wall := wall_of (List.mem_of_getElem? (i := 778) (by decide +kernel)) (by decide +kernel)
theorem we_X4_isFull : Cond.selects RX4 yX4_isFull yX4_isFull ∈ Wall := wall_of (List.mem_of_getElem? (i := 779) (by decide +kernel)) (by decide +kernel)
theorem wc_X4_isFull : Cond.code yX4_isFull cX4_isFull 1 (some .boolean) ∈ Wall := wall_of (List.mem_of_getElem? (i := 780) (by decide +kernel)) (by decide +kernel)
theorem wm_X6_100 : Cond.methodLink RX6 100 yX4_put ∈ Wall := wall_of (List.mem_of_getElem? (i := 782) (by decide +kernel)) (by decide +kernel)
theorem wn_X4_put : Cond.instanceMethod yX4_put ∈ Wall := wall_of (List.mem_of_getElem? (i := 783) (by decide +kernel)) (by decide +kernel)
theorem we_X4_put : Cond.selects RX4 yX4_put yX4_put ∈ Wall := wall_of (List.mem_of_getElem? (i := 784) (by decide +kernel)) (by decide +kernel)
theorem wc_X4_put : Cond.code yX4_put cX4_put 4 none ∈ Wall := wall_of (List.mem_of_getElem? (i := 785) (by decide +kernel)) (by decide +kernel)
theorem wm_X4_26 : Cond.methodLink RX4 26 yX4_isFull ∈ Wall := wall_of (List.mem_of_getElem? (i := 786) (by decide +kernel)) (by decide +kernel)
theorem wm_L_87 : Cond.methodLink RL 87 yL_setFault ∈ Wall := wall_of (List.mem_of_getElem? (i := 787) (by decide +kernel)) (by decide +kernel)
theorem ws_L_setFault : Cond.static yL_setFault ∈ Wall := wall_of (List.mem_of_getElem? (i := 788) (by decide +kernel)) (by decide +kernel)
theorem wm_L_28 : Cond.methodLink RL 28 yX6_setFault ∈ Wall := wall_of (List.mem_of_getElem? (i := 791) (by decide +kernel)) (by decide +kernel)
theorem wn_X6_setFault : Cond.instanceMethod yX6_setFault ∈ Wall := wall_of (List.mem_of_getElem? (i := 792) (by decide +kernel)) (by decide +kernel)
theorem we_X6_setFault : Cond.selects RX6 yX6_setFault yX6_setFault ∈ Wall := wall_of (List.mem_of_getElem? (i := 793) (by decide +kernel)) (by decide +kernel)
theorem wc_X6_setFault : Cond.code yX6_setFault cX6_setFault 4 (some .boolean) ∈ Wall := wall_of (List.mem_of_getElem? (i := 794) (by decide +kernel)) (by decide +kernel)
theorem wm_X6_104 : Cond.methodLink RX6 104 yX6_isWheel ∈ Wall := wall_of (List.mem_of_getElem? (i := 795) (by decide +kernel)) (by decide +kernel)
theorem ws_X6_isWheel : Cond.static yX6_isWheel ∈ Wall := wall_of (List.mem_of_getElem? (i := 796) (by decide +kernel)) (by decide +kernel)
theorem wc_X6_isWheel : Cond.code yX6_isWheel cX6_isWheel 1 (some .boolean) ∈ Wall := wall_of (List.mem_of_getElem? (i := 797) (by decide +kernel)) (by decide +kernel)
theorem wm_L_100 : Cond.methodLink RL 100 yL_run ∈ Wall := wall_of (List.mem_of_getElem? (i := 814) (by decide +kernel)) (by decide +kernel)
theorem ws_L_run : Cond.static yL_run ∈ Wall := wall_of (List.mem_of_getElem? (i := 815) (by decide +kernel)) (by decide +kernel)
theorem wm_L_34 : Cond.methodLink RL 34 yX6_run ∈ Wall := wall_of (List.mem_of_getElem? (i := 817) (by decide +kernel)) (by decide +kernel)
theorem wn_X6_run : Cond.instanceMethod yX6_run ∈ Wall := wall_of (List.mem_of_getElem? (i := 818) (by decide +kernel)) (by decide +kernel)
theorem we_X6_run : Cond.selects RX6 yX6_run yX6_run ∈ Wall := wall_of (List.mem_of_getElem? (i := 819) (by decide +kernel)) (by decide +kernel)
theorem wc_X6_run : Cond.code yX6_run cX6_run 3 (some .int) ∈ Wall := wall_of (List.mem_of_getElem? (i := 820) (by decide +kernel)) (by decide +kernel)
theorem wm_X6_137 : Cond.methodLink RX6 137 yX0_tick ∈ Wall := wall_of (List.mem_of_getElem? (i := 822) (by decide +kernel)) (by decide +kernel)
theorem wm_L_107 : Cond.methodLink RL 107 yL_stopDistance ∈ Wall := wall_of (List.mem_of_getElem? (i := 823) (by decide +kernel)) (by decide +kernel)
theorem ws_L_stopDistance : Cond.static yL_stopDistance ∈ Wall := wall_of (List.mem_of_getElem? (i := 824) (by decide +kernel)) (by decide +kernel)
theorem wm_L_37 : Cond.methodLink RL 37 yX6_stopDistance ∈ Wall := wall_of (List.mem_of_getElem? (i := 826) (by decide +kernel)) (by decide +kernel)
theorem wn_X6_stopDistance : Cond.instanceMethod yX6_stopDistance ∈ Wall := wall_of (List.mem_of_getElem? (i := 827) (by decide +kernel)) (by decide +kernel)
theorem we_X6_stopDistance : Cond.selects RX6 yX6_stopDistance yX6_stopDistance ∈ Wall := wall_of (List.mem_of_getElem? (i := 828) (by decide +kernel)) (by decide +kernel)
theorem wc_X6_stopDistance : Cond.code yX6_stopDistance cX6_stopDistance 5 (some .int) ∈ Wall := wall_of (List.mem_of_getElem? (i := 829) (by decide +kernel)) (by decide +kernel)
theorem wm_X6_143 : Cond.methodLink RX6 143 yX6_isSurfacePair ∈ Wall := wall_of (List.mem_of_getElem? (i := 830) (by decide +kernel)) (by decide +kernel)
theorem ws_X6_isSurfacePair : Cond.static yX6_isSurfacePair ∈ Wall := wall_of (List.mem_of_getElem? (i := 831) (by decide +kernel)) (by decide +kernel)
theorem wc_X6_isSurfacePair : Cond.code yX6_isSurfacePair cX6_isSurfacePair 1 (some .boolean) ∈ Wall := wall_of (List.mem_of_getElem? (i := 832) (by decide +kernel)) (by decide +kernel)
theorem wm_X6_148 : Cond.methodLink RX6 148 yX0_clear ∈ Wall := wall_of (List.mem_of_getElem? (i := 834) (by decide +kernel)) (by decide +kernel)
theorem wm_L_111 : Cond.methodLink RL 111 yL_car ∈ Wall := wall_of (List.mem_of_getElem? (i := 835) (by decide +kernel)) (by decide +kernel)
theorem ws_L_car : Cond.static yL_car ∈ Wall := wall_of (List.mem_of_getElem? (i := 836) (by decide +kernel)) (by decide +kernel)
theorem wm_L_41 : Cond.methodLink RL 41 yX6_car ∈ Wall := wall_of (List.mem_of_getElem? (i := 838) (by decide +kernel)) (by decide +kernel)
theorem wn_X6_car : Cond.instanceMethod yX6_car ∈ Wall := wall_of (List.mem_of_getElem? (i := 839) (by decide +kernel)) (by decide +kernel)
theorem we_X6_car : Cond.selects RX6 yX6_car yX6_car ∈ Wall := wall_of (List.mem_of_getElem? (i := 840) (by decide +kernel)) (by decide +kernel)
theorem wc_X6_car : Cond.code yX6_car cX6_car 2 (some .int) ∈ Wall := wall_of (List.mem_of_getElem? (i := 841) (by decide +kernel)) (by decide +kernel)
theorem wm_X6_153 : Cond.methodLink RX6 153 yX0_carValue ∈ Wall := wall_of (List.mem_of_getElem? (i := 843) (by decide +kernel)) (by decide +kernel)
theorem wm_L_114 : Cond.methodLink RL 114 yL_wheel ∈ Wall := wall_of (List.mem_of_getElem? (i := 844) (by decide +kernel)) (by decide +kernel)
theorem ws_L_wheel : Cond.static yL_wheel ∈ Wall := wall_of (List.mem_of_getElem? (i := 845) (by decide +kernel)) (by decide +kernel)
theorem wm_L_44 : Cond.methodLink RL 44 yX6_wheel ∈ Wall := wall_of (List.mem_of_getElem? (i := 847) (by decide +kernel)) (by decide +kernel)
theorem wn_X6_wheel : Cond.instanceMethod yX6_wheel ∈ Wall := wall_of (List.mem_of_getElem? (i := 848) (by decide +kernel)) (by decide +kernel)
theorem we_X6_wheel : Cond.selects RX6 yX6_wheel yX6_wheel ∈ Wall := wall_of (List.mem_of_getElem? (i := 849) (by decide +kernel)) (by decide +kernel)
theorem wc_X6_wheel : Cond.code yX6_wheel cX6_wheel 3 (some .int) ∈ Wall := wall_of (List.mem_of_getElem? (i := 850) (by decide +kernel)) (by decide +kernel)
theorem wm_X6_157 : Cond.methodLink RX6 157 yX0_wheelValue ∈ Wall := wall_of (List.mem_of_getElem? (i := 851) (by decide +kernel)) (by decide +kernel)
theorem wm_L_117 : Cond.methodLink RL 117 yL_friction ∈ Wall := wall_of (List.mem_of_getElem? (i := 852) (by decide +kernel)) (by decide +kernel)
theorem ws_L_friction : Cond.static yL_friction ∈ Wall := wall_of (List.mem_of_getElem? (i := 853) (by decide +kernel)) (by decide +kernel)
theorem wm_L_47 : Cond.methodLink RL 47 yX6_friction ∈ Wall := wall_of (List.mem_of_getElem? (i := 855) (by decide +kernel)) (by decide +kernel)
theorem wn_X6_friction : Cond.instanceMethod yX6_friction ∈ Wall := wall_of (List.mem_of_getElem? (i := 856) (by decide +kernel)) (by decide +kernel)
theorem we_X6_friction : Cond.selects RX6 yX6_friction yX6_friction ∈ Wall := wall_of (List.mem_of_getElem? (i := 857) (by decide +kernel)) (by decide +kernel)
theorem wc_X6_friction : Cond.code yX6_friction cX6_friction 2 (some .int) ∈ Wall := wall_of (List.mem_of_getElem? (i := 858) (by decide +kernel)) (by decide +kernel)
theorem wm_X6_161 : Cond.methodLink RX6 161 yX0_gripOfWheel ∈ Wall := wall_of (List.mem_of_getElem? (i := 859) (by decide +kernel)) (by decide +kernel)
theorem wm_L_120 : Cond.methodLink RL 120 yL_frictionFor ∈ Wall := wall_of (List.mem_of_getElem? (i := 860) (by decide +kernel)) (by decide +kernel)
theorem ws_L_frictionFor : Cond.static yL_frictionFor ∈ Wall := wall_of (List.mem_of_getElem? (i := 861) (by decide +kernel)) (by decide +kernel)
theorem wm_L_50 : Cond.methodLink RL 50 yX6_frictionFor ∈ Wall := wall_of (List.mem_of_getElem? (i := 863) (by decide +kernel)) (by decide +kernel)
theorem wn_X6_frictionFor : Cond.instanceMethod yX6_frictionFor ∈ Wall := wall_of (List.mem_of_getElem? (i := 864) (by decide +kernel)) (by decide +kernel)
theorem we_X6_frictionFor : Cond.selects RX6 yX6_frictionFor yX6_frictionFor ∈ Wall := wall_of (List.mem_of_getElem? (i := 865) (by decide +kernel)) (by decide +kernel)
theorem wc_X6_frictionFor : Cond.code yX6_frictionFor cX6_frictionFor 3 (some .int) ∈ Wall := wall_of (List.mem_of_getElem? (i := 866) (by decide +kernel)) (by decide +kernel)
theorem wm_X6_164 : Cond.methodLink RX6 164 yX6_gripFor ∈ Wall := wall_of (List.mem_of_getElem? (i := 867) (by decide +kernel)) (by decide +kernel)
theorem wm_L_127 : Cond.methodLink RL 127 yL_segment ∈ Wall := wall_of (List.mem_of_getElem? (i := 868) (by decide +kernel)) (by decide +kernel)
theorem ws_L_segment : Cond.static yL_segment ∈ Wall := wall_of (List.mem_of_getElem? (i := 869) (by decide +kernel)) (by decide +kernel)
theorem wm_L_53 : Cond.methodLink RL 53 yX6_segment ∈ Wall := wall_of (List.mem_of_getElem? (i := 871) (by decide +kernel)) (by decide +kernel)
theorem wn_X6_segment : Cond.instanceMethod yX6_segment ∈ Wall := wall_of (List.mem_of_getElem? (i := 872) (by decide +kernel)) (by decide +kernel)
theorem we_X6_segment : Cond.selects RX6 yX6_segment yX6_segment ∈ Wall := wall_of (List.mem_of_getElem? (i := 873) (by decide +kernel)) (by decide +kernel)
theorem wc_X6_segment : Cond.code yX6_segment cX6_segment 3 (some .int) ∈ Wall := wall_of (List.mem_of_getElem? (i := 874) (by decide +kernel)) (by decide +kernel)
theorem wm_X6_169 : Cond.methodLink RX6 169 yX3_value ∈ Wall := wall_of (List.mem_of_getElem? (i := 876) (by decide +kernel)) (by decide +kernel)
theorem wn_X3_value : Cond.instanceMethod yX3_value ∈ Wall := wall_of (List.mem_of_getElem? (i := 877) (by decide +kernel)) (by decide +kernel)
theorem we_X3_value : Cond.selects RX3 yX3_value yX3_value ∈ Wall := wall_of (List.mem_of_getElem? (i := 878) (by decide +kernel)) (by decide +kernel)
theorem wc_X3_value : Cond.code yX3_value cX3_value 3 (some .int) ∈ Wall := wall_of (List.mem_of_getElem? (i := 879) (by decide +kernel)) (by decide +kernel)
theorem wm_L_138 : Cond.methodLink RL 138 yL_event ∈ Wall := wall_of (List.mem_of_getElem? (i := 880) (by decide +kernel)) (by decide +kernel)
theorem ws_L_event : Cond.static yL_event ∈ Wall := wall_of (List.mem_of_getElem? (i := 881) (by decide +kernel)) (by decide +kernel)
theorem wm_L_56 : Cond.methodLink RL 56 yX6_event ∈ Wall := wall_of (List.mem_of_getElem? (i := 883) (by decide +kernel)) (by decide +kernel)
theorem wn_X6_event : Cond.instanceMethod yX6_event ∈ Wall := wall_of (List.mem_of_getElem? (i := 884) (by decide +kernel)) (by decide +kernel)
theorem we_X6_event : Cond.selects RX6 yX6_event yX6_event ∈ Wall := wall_of (List.mem_of_getElem? (i := 885) (by decide +kernel)) (by decide +kernel)
theorem wc_X6_event : Cond.code yX6_event cX6_event 3 (some .int) ∈ Wall := wall_of (List.mem_of_getElem? (i := 886) (by decide +kernel)) (by decide +kernel)
theorem wm_X6_181 : Cond.methodLink RX6 181 yX2_value ∈ Wall := wall_of (List.mem_of_getElem? (i := 888) (by decide +kernel)) (by decide +kernel)
theorem wn_X2_value : Cond.instanceMethod yX2_value ∈ Wall := wall_of (List.mem_of_getElem? (i := 889) (by decide +kernel)) (by decide +kernel)
theorem we_X2_value : Cond.selects RX2 yX2_value yX2_value ∈ Wall := wall_of (List.mem_of_getElem? (i := 890) (by decide +kernel)) (by decide +kernel)
theorem wc_X2_value : Cond.code yX2_value cX2_value 4 (some .int) ∈ Wall := wall_of (List.mem_of_getElem? (i := 891) (by decide +kernel)) (by decide +kernel)
theorem wm_L_141 : Cond.methodLink RL 141 yL_undo ∈ Wall := wall_of (List.mem_of_getElem? (i := 892) (by decide +kernel)) (by decide +kernel)
theorem ws_L_undo : Cond.static yL_undo ∈ Wall := wall_of (List.mem_of_getElem? (i := 893) (by decide +kernel)) (by decide +kernel)
theorem wm_L_59 : Cond.methodLink RL 59 yX6_undo ∈ Wall := wall_of (List.mem_of_getElem? (i := 895) (by decide +kernel)) (by decide +kernel)
theorem wn_X6_undo : Cond.instanceMethod yX6_undo ∈ Wall := wall_of (List.mem_of_getElem? (i := 896) (by decide +kernel)) (by decide +kernel)
theorem we_X6_undo : Cond.selects RX6 yX6_undo yX6_undo ∈ Wall := wall_of (List.mem_of_getElem? (i := 897) (by decide +kernel)) (by decide +kernel)
theorem wc_X6_undo : Cond.code yX6_undo cX6_undo 1 (some .int) ∈ Wall := wall_of (List.mem_of_getElem? (i := 898) (by decide +kernel)) (by decide +kernel)
theorem wl_L_64 : Cond.classLink RL 64 RX7 ∈ Wall := wall_of (List.mem_of_getElem? (i := 900) (by decide +kernel)) (by decide +kernel)
theorem wt_X7 : Cond.instantiable RX7 6 ∈ Wall := wall_of (List.mem_of_getElem? (i := 901) (by decide +kernel)) (by decide +kernel)
theorem wm_L_66 : Cond.methodLink RL 66 yX7_init ∈ Wall := wall_of (List.mem_of_getElem? (i := 902) (by decide +kernel)) (by decide +kernel)
theorem wn_X7_init : Cond.instanceMethod yX7_init ∈ Wall := wall_of (List.mem_of_getElem? (i := 903) (by decide +kernel)) (by decide +kernel)
theorem wc_X7_init : Cond.code yX7_init cX7_init 1 none ∈ Wall := wall_of (List.mem_of_getElem? (i := 904) (by decide +kernel)) (by decide +kernel)
theorem wm_X7_1 : Cond.methodLink RX7 1 objectInit ∈ Wall := wall_of (List.mem_of_getElem? (i := 905) (by decide +kernel)) (by decide +kernel)
theorem wm_X7_19 : Cond.methodLink RX7 19 yX7_begins ∈ Wall := wall_of (List.mem_of_getElem? (i := 906) (by decide +kernel)) (by decide +kernel)
theorem wn_X7_begins : Cond.instanceMethod yX7_begins ∈ Wall := wall_of (List.mem_of_getElem? (i := 908) (by decide +kernel)) (by decide +kernel)
theorem wc_X7_begins : Cond.code yX7_begins cX7_begins 2 none ∈ Wall := wall_of (List.mem_of_getElem? (i := 909) (by decide +kernel)) (by decide +kernel)
theorem wf_X7_7 : Cond.fieldLink RX7 7 (TX7 0).1 (TX7 0).2.1 (TX7 0).2.2.1 ∈ Wall := wall_of (List.mem_of_getElem? (i := 910) (by decide +kernel)) (by decide +kernel)
theorem wf_X7_13 : Cond.fieldLink RX7 13 (TX7 1).1 (TX7 1).2.1 (TX7 1).2.2.1 ∈ Wall := wall_of (List.mem_of_getElem? (i := 911) (by decide +kernel)) (by decide +kernel)
theorem wf_X7_16 : Cond.fieldLink RX7 16 (TX7 2).1 (TX7 2).2.1 (TX7 2).2.2.1 ∈ Wall := wall_of (List.mem_of_getElem? (i := 912) (by decide +kernel)) (by decide +kernel)
theorem wf_X7_26 : Cond.fieldLink RX7 26 (TX7 3).1 (TX7 3).2.1 (TX7 3).2.2.1 ∈ Wall := wall_of (List.mem_of_getElem? (i := 913) (by decide +kernel)) (by decide +kernel)
theorem wf_X7_22 : Cond.fieldLink RX7 22 (TX7 4).1 (TX7 4).2.1 (TX7 4).2.2.1 ∈ Wall := wall_of (List.mem_of_getElem? (i := 914) (by decide +kernel)) (by decide +kernel)
theorem wf_X7_170 : Cond.fieldLink RX7 170 (TX7 5).1 (TX7 5).2.1 (TX7 5).2.2.1 ∈ Wall := wall_of (List.mem_of_getElem? (i := 915) (by decide +kernel)) (by decide +kernel)
theorem wm_L_73 : Cond.methodLink RL 73 yX7_thrown ∈ Wall := wall_of (List.mem_of_getElem? (i := 929) (by decide +kernel)) (by decide +kernel)
theorem wn_X7_thrown : Cond.instanceMethod yX7_thrown ∈ Wall := wall_of (List.mem_of_getElem? (i := 930) (by decide +kernel)) (by decide +kernel)
theorem we_X7_thrown : Cond.selects RX7 yX7_thrown yX7_thrown ∈ Wall := wall_of (List.mem_of_getElem? (i := 931) (by decide +kernel)) (by decide +kernel)
theorem wc_X7_thrown : Cond.code yX7_thrown cX7_thrown 1 (some .int) ∈ Wall := wall_of (List.mem_of_getElem? (i := 932) (by decide +kernel)) (by decide +kernel)
theorem wm_L_144 : Cond.methodLink RL 144 yX7_undo ∈ Wall := wall_of (List.mem_of_getElem? (i := 933) (by decide +kernel)) (by decide +kernel)
theorem wn_X7_undo : Cond.instanceMethod yX7_undo ∈ Wall := wall_of (List.mem_of_getElem? (i := 934) (by decide +kernel)) (by decide +kernel)
theorem we_X7_undo : Cond.selects RX7 yX7_undo yX7_undo ∈ Wall := wall_of (List.mem_of_getElem? (i := 935) (by decide +kernel)) (by decide +kernel)
theorem wc_X7_undo : Cond.code yX7_undo cX7_undo 2 (some .int) ∈ Wall := wall_of (List.mem_of_getElem? (i := 936) (by decide +kernel)) (by decide +kernel)
theorem wm_X7_29 : Cond.methodLink RX7 29 yX7_refused ∈ Wall := wall_of (List.mem_of_getElem? (i := 937) (by decide +kernel)) (by decide +kernel)
theorem wn_X7_refused : Cond.instanceMethod yX7_refused ∈ Wall := wall_of (List.mem_of_getElem? (i := 939) (by decide +kernel)) (by decide +kernel)
theorem wc_X7_refused : Cond.code yX7_refused cX7_refused 2 (some .boolean) ∈ Wall := wall_of (List.mem_of_getElem? (i := 940) (by decide +kernel)) (by decide +kernel)
theorem wm_L_72 : Cond.methodLink RL 72 yX7_setSpeed ∈ Wall := wall_of (List.mem_of_getElem? (i := 941) (by decide +kernel)) (by decide +kernel)
theorem wn_X7_setSpeed : Cond.instanceMethod yX7_setSpeed ∈ Wall := wall_of (List.mem_of_getElem? (i := 942) (by decide +kernel)) (by decide +kernel)
theorem we_X7_setSpeed : Cond.selects RX7 yX7_setSpeed yX7_setSpeed ∈ Wall := wall_of (List.mem_of_getElem? (i := 943) (by decide +kernel)) (by decide +kernel)
theorem wc_X7_setSpeed : Cond.code yX7_setSpeed cX7_setSpeed 3 (some .int) ∈ Wall := wall_of (List.mem_of_getElem? (i := 944) (by decide +kernel)) (by decide +kernel)
theorem wk_X7_142 : Cond.constant RX7 142 60000 ∈ Wall := wall_of (List.mem_of_getElem? (i := 945) (by decide +kernel)) (by decide +kernel)
theorem wm_X7_37 : Cond.methodLink RX7 37 yX7_within ∈ Wall := wall_of (List.mem_of_getElem? (i := 946) (by decide +kernel)) (by decide +kernel)
theorem ws_X7_within : Cond.static yX7_within ∈ Wall := wall_of (List.mem_of_getElem? (i := 947) (by decide +kernel)) (by decide +kernel)
theorem wc_X7_within : Cond.code yX7_within cX7_within 3 (some .boolean) ∈ Wall := wall_of (List.mem_of_getElem? (i := 948) (by decide +kernel)) (by decide +kernel)
theorem wm_X7_143 : Cond.methodLink RX7 143 yX7_saves ∈ Wall := wall_of (List.mem_of_getElem? (i := 949) (by decide +kernel)) (by decide +kernel)
theorem wn_X7_saves : Cond.instanceMethod yX7_saves ∈ Wall := wall_of (List.mem_of_getElem? (i := 951) (by decide +kernel)) (by decide +kernel)
theorem wc_X7_saves : Cond.code yX7_saves cX7_saves 2 none ∈ Wall := wall_of (List.mem_of_getElem? (i := 952) (by decide +kernel)) (by decide +kernel)
theorem wm_X7_146 : Cond.methodLink RX7 146 yX7_speeds ∈ Wall := wall_of (List.mem_of_getElem? (i := 953) (by decide +kernel)) (by decide +kernel)
theorem wn_X7_speeds : Cond.instanceMethod yX7_speeds ∈ Wall := wall_of (List.mem_of_getElem? (i := 955) (by decide +kernel)) (by decide +kernel)
theorem wc_X7_speeds : Cond.code yX7_speeds cX7_speeds 3 none ∈ Wall := wall_of (List.mem_of_getElem? (i := 956) (by decide +kernel)) (by decide +kernel)
theorem wm_X7_59 : Cond.methodLink RX7 59 yX7_sets ∈ Wall := wall_of (List.mem_of_getElem? (i := 957) (by decide +kernel)) (by decide +kernel)
theorem wn_X7_sets : Cond.instanceMethod yX7_sets ∈ Wall := wall_of (List.mem_of_getElem? (i := 959) (by decide +kernel)) (by decide +kernel)
theorem wc_X7_sets : Cond.code yX7_sets cX7_sets 4 none ∈ Wall := wall_of (List.mem_of_getElem? (i := 960) (by decide +kernel)) (by decide +kernel)
theorem wm_X7_33 : Cond.methodLink RX7 33 yX7_at ∈ Wall := wall_of (List.mem_of_getElem? (i := 961) (by decide +kernel)) (by decide +kernel)
theorem ws_X7_at : Cond.static yX7_at ∈ Wall := wall_of (List.mem_of_getElem? (i := 962) (by decide +kernel)) (by decide +kernel)
theorem wc_X7_at : Cond.code yX7_at cX7_at 2 (some .int) ∈ Wall := wall_of (List.mem_of_getElem? (i := 963) (by decide +kernel)) (by decide +kernel)
theorem wm_L_79 : Cond.methodLink RL 79 yX7_addSegment ∈ Wall := wall_of (List.mem_of_getElem? (i := 964) (by decide +kernel)) (by decide +kernel)
theorem wn_X7_addSegment : Cond.instanceMethod yX7_addSegment ∈ Wall := wall_of (List.mem_of_getElem? (i := 965) (by decide +kernel)) (by decide +kernel)
theorem we_X7_addSegment : Cond.selects RX7 yX7_addSegment yX7_addSegment ∈ Wall := wall_of (List.mem_of_getElem? (i := 966) (by decide +kernel)) (by decide +kernel)
theorem wc_X7_addSegment : Cond.code yX7_addSegment cX7_addSegment 8 (some .int) ∈ Wall := wall_of (List.mem_of_getElem? (i := 967) (by decide +kernel)) (by decide +kernel)
theorem wk_X7_149 : Cond.constant RX7 149 100000000 ∈ Wall := wall_of (List.mem_of_getElem? (i := 968) (by decide +kernel)) (by decide +kernel)
theorem wm_X7_150 : Cond.methodLink RX7 150 yX7_isSurface ∈ Wall := wall_of (List.mem_of_getElem? (i := 969) (by decide +kernel)) (by decide +kernel)
theorem ws_X7_isSurface : Cond.static yX7_isSurface ∈ Wall := wall_of (List.mem_of_getElem? (i := 970) (by decide +kernel)) (by decide +kernel)
theorem wc_X7_isSurface : Cond.code yX7_isSurface cX7_isSurface 1 (some .boolean) ∈ Wall := wall_of (List.mem_of_getElem? (i := 971) (by decide +kernel)) (by decide +kernel)
theorem wm_L_82 : Cond.methodLink RL 82 yX7_setDemand ∈ Wall := wall_of (List.mem_of_getElem? (i := 972) (by decide +kernel)) (by decide +kernel)
theorem wn_X7_setDemand : Cond.instanceMethod yX7_setDemand ∈ Wall := wall_of (List.mem_of_getElem? (i := 973) (by decide +kernel)) (by decide +kernel)
theorem we_X7_setDemand : Cond.selects RX7 yX7_setDemand yX7_setDemand ∈ Wall := wall_of (List.mem_of_getElem? (i := 974) (by decide +kernel)) (by decide +kernel)
theorem wc_X7_setDemand : Cond.code yX7_setDemand cX7_setDemand 3 (some .int) ∈ Wall := wall_of (List.mem_of_getElem? (i := 975) (by decide +kernel)) (by decide +kernel)
theorem wm_L_86 : Cond.methodLink RL 86 yX7_plan ∈ Wall := wall_of (List.mem_of_getElem? (i := 976) (by decide +kernel)) (by decide +kernel)
theorem wn_X7_plan : Cond.instanceMethod yX7_plan ∈ Wall := wall_of (List.mem_of_getElem? (i := 977) (by decide +kernel)) (by decide +kernel)
theorem we_X7_plan : Cond.selects RX7 yX7_plan yX7_plan ∈ Wall := wall_of (List.mem_of_getElem? (i := 978) (by decide +kernel)) (by decide +kernel)
theorem wc_X7_plan : Cond.code yX7_plan cX7_plan 6 (some .int) ∈ Wall := wall_of (List.mem_of_getElem? (i := 979) (by decide +kernel)) (by decide +kernel)
theorem wm_L_90 : Cond.methodLink RL 90 yX7_setFault ∈ Wall := wall_of (List.mem_of_getElem? (i := 980) (by decide +kernel)) (by decide +kernel)
theorem wn_X7_setFault : Cond.instanceMethod yX7_setFault ∈ Wall := wall_of (List.mem_of_getElem? (i := 981) (by decide +kernel)) (by decide +kernel)
theorem we_X7_setFault : Cond.selects RX7 yX7_setFault yX7_setFault ∈ Wall := wall_of (List.mem_of_getElem? (i := 982) (by decide +kernel)) (by decide +kernel)
theorem wc_X7_setFault : Cond.code yX7_setFault cX7_setFault 4 (some .boolean) ∈ Wall := wall_of (List.mem_of_getElem? (i := 983) (by decide +kernel)) (by decide +kernel)
theorem wm_X7_153 : Cond.methodLink RX7 153 yX7_isWheel ∈ Wall := wall_of (List.mem_of_getElem? (i := 984) (by decide +kernel)) (by decide +kernel)
theorem ws_X7_isWheel : Cond.static yX7_isWheel ∈ Wall := wall_of (List.mem_of_getElem? (i := 985) (by decide +kernel)) (by decide +kernel)
theorem wc_X7_isWheel : Cond.code yX7_isWheel cX7_isWheel 1 (some .boolean) ∈ Wall := wall_of (List.mem_of_getElem? (i := 986) (by decide +kernel)) (by decide +kernel)
theorem wm_X7_45 : Cond.methodLink RX7 45 yX7_get ∈ Wall := wall_of (List.mem_of_getElem? (i := 987) (by decide +kernel)) (by decide +kernel)
theorem wn_X7_get : Cond.instanceMethod yX7_get ∈ Wall := wall_of (List.mem_of_getElem? (i := 989) (by decide +kernel)) (by decide +kernel)
theorem wc_X7_get : Cond.code yX7_get cX7_get 3 (some .int) ∈ Wall := wall_of (List.mem_of_getElem? (i := 990) (by decide +kernel)) (by decide +kernel)
theorem wm_L_95 : Cond.methodLink RL 95 yX7_setOn ∈ Wall := wall_of (List.mem_of_getElem? (i := 991) (by decide +kernel)) (by decide +kernel)
theorem wn_X7_setOn : Cond.instanceMethod yX7_setOn ∈ Wall := wall_of (List.mem_of_getElem? (i := 992) (by decide +kernel)) (by decide +kernel)
theorem we_X7_setOn : Cond.selects RX7 yX7_setOn yX7_setOn ∈ Wall := wall_of (List.mem_of_getElem? (i := 993) (by decide +kernel)) (by decide +kernel)
theorem wc_X7_setOn : Cond.code yX7_setOn cX7_setOn 3 (some .boolean) ∈ Wall := wall_of (List.mem_of_getElem? (i := 994) (by decide +kernel)) (by decide +kernel)
theorem wm_L_99 : Cond.methodLink RL 99 yX7_repair ∈ Wall := wall_of (List.mem_of_getElem? (i := 995) (by decide +kernel)) (by decide +kernel)
theorem wn_X7_repair : Cond.instanceMethod yX7_repair ∈ Wall := wall_of (List.mem_of_getElem? (i := 996) (by decide +kernel)) (by decide +kernel)
theorem we_X7_repair : Cond.selects RX7 yX7_repair yX7_repair ∈ Wall := wall_of (List.mem_of_getElem? (i := 997) (by decide +kernel)) (by decide +kernel)
theorem wc_X7_repair : Cond.code yX7_repair cX7_repair 3 (some .int) ∈ Wall := wall_of (List.mem_of_getElem? (i := 998) (by decide +kernel)) (by decide +kernel)
theorem wm_X7_80 : Cond.methodLink RX7 80 yX7_outs ∈ Wall := wall_of (List.mem_of_getElem? (i := 999) (by decide +kernel)) (by decide +kernel)
theorem wn_X7_outs : Cond.instanceMethod yX7_outs ∈ Wall := wall_of (List.mem_of_getElem? (i := 1001) (by decide +kernel)) (by decide +kernel)
theorem wc_X7_outs : Cond.code yX7_outs cX7_outs 1 (some .int) ∈ Wall := wall_of (List.mem_of_getElem? (i := 1002) (by decide +kernel)) (by decide +kernel)
theorem wm_L_102 : Cond.methodLink RL 102 yX7_run ∈ Wall := wall_of (List.mem_of_getElem? (i := 1003) (by decide +kernel)) (by decide +kernel)
theorem wn_X7_run : Cond.instanceMethod yX7_run ∈ Wall := wall_of (List.mem_of_getElem? (i := 1004) (by decide +kernel)) (by decide +kernel)
theorem we_X7_run : Cond.selects RX7 yX7_run yX7_run ∈ Wall := wall_of (List.mem_of_getElem? (i := 1005) (by decide +kernel)) (by decide +kernel)
theorem wc_X7_run : Cond.code yX7_run cX7_run 3 (some .int) ∈ Wall := wall_of (List.mem_of_getElem? (i := 1006) (by decide +kernel)) (by decide +kernel)
theorem wm_X7_156 : Cond.methodLink RX7 156 yX7_tickOn ∈ Wall := wall_of (List.mem_of_getElem? (i := 1007) (by decide +kernel)) (by decide +kernel)
theorem wn_X7_tickOn : Cond.instanceMethod yX7_tickOn ∈ Wall := wall_of (List.mem_of_getElem? (i := 1009) (by decide +kernel)) (by decide +kernel)
theorem wc_X7_tickOn : Cond.code yX7_tickOn cX7_tickOn 8 none ∈ Wall := wall_of (List.mem_of_getElem? (i := 1010) (by decide +kernel)) (by decide +kernel)
theorem wm_X7_130 : Cond.methodLink RX7 130 yX7_followsPlan ∈ Wall := wall_of (List.mem_of_getElem? (i := 1011) (by decide +kernel)) (by decide +kernel)
theorem wn_X7_followsPlan : Cond.instanceMethod yX7_followsPlan ∈ Wall := wall_of (List.mem_of_getElem? (i := 1013) (by decide +kernel)) (by decide +kernel)
theorem wc_X7_followsPlan : Cond.code yX7_followsPlan cX7_followsPlan 2 none ∈ Wall := wall_of (List.mem_of_getElem? (i := 1014) (by decide +kernel)) (by decide +kernel)
theorem wm_X7_133 : Cond.methodLink RX7 133 yX7_frictionAt ∈ Wall := wall_of (List.mem_of_getElem? (i := 1015) (by decide +kernel)) (by decide +kernel)
theorem wn_X7_frictionAt : Cond.instanceMethod yX7_frictionAt ∈ Wall := wall_of (List.mem_of_getElem? (i := 1017) (by decide +kernel)) (by decide +kernel)
theorem wc_X7_frictionAt : Cond.code yX7_frictionAt cX7_frictionAt 2 (some .int) ∈ Wall := wall_of (List.mem_of_getElem? (i := 1018) (by decide +kernel)) (by decide +kernel)
theorem wm_X7_48 : Cond.methodLink RX7 48 yX7_present ∈ Wall := wall_of (List.mem_of_getElem? (i := 1019) (by decide +kernel)) (by decide +kernel)
theorem wn_X7_present : Cond.instanceMethod yX7_present ∈ Wall := wall_of (List.mem_of_getElem? (i := 1021) (by decide +kernel)) (by decide +kernel)
theorem wc_X7_present : Cond.code yX7_present cX7_present 3 (some .int) ∈ Wall := wall_of (List.mem_of_getElem? (i := 1022) (by decide +kernel)) (by decide +kernel)
theorem wm_X7_52 : Cond.methodLink RX7 52 yX7_slipOf ∈ Wall := wall_of (List.mem_of_getElem? (i := 1023) (by decide +kernel)) (by decide +kernel)
theorem wn_X7_slipOf : Cond.instanceMethod yX7_slipOf ∈ Wall := wall_of (List.mem_of_getElem? (i := 1025) (by decide +kernel)) (by decide +kernel)
theorem wc_X7_slipOf : Cond.code yX7_slipOf cX7_slipOf 2 (some .int) ∈ Wall := wall_of (List.mem_of_getElem? (i := 1026) (by decide +kernel)) (by decide +kernel)
theorem wk_X7_43 : Cond.constantLong RX7 43 1000 ∈ Wall := wall_of (List.mem_of_getElem? (i := 1027) (by decide +kernel)) (by decide +kernel)
theorem wm_X7_56 : Cond.methodLink RX7 56 yX7_frictionOf ∈ Wall := wall_of (List.mem_of_getElem? (i := 1028) (by decide +kernel)) (by decide +kernel)
theorem ws_X7_frictionOf : Cond.static yX7_frictionOf ∈ Wall := wall_of (List.mem_of_getElem? (i := 1029) (by decide +kernel)) (by decide +kernel)
theorem wc_X7_frictionOf : Cond.code yX7_frictionOf cX7_frictionOf 4 (some .int) ∈ Wall := wall_of (List.mem_of_getElem? (i := 1030) (by decide +kernel)) (by decide +kernel)
theorem wk_X7_41 : Cond.constantLong RX7 41 850000 ∈ Wall := wall_of (List.mem_of_getElem? (i := 1031) (by decide +kernel)) (by decide +kernel)
theorem wm_X7_70 : Cond.methodLink RX7 70 yX7_greater ∈ Wall := wall_of (List.mem_of_getElem? (i := 1032) (by decide +kernel)) (by decide +kernel)
theorem ws_X7_greater : Cond.static yX7_greater ∈ Wall := wall_of (List.mem_of_getElem? (i := 1033) (by decide +kernel)) (by decide +kernel)
theorem wc_X7_greater : Cond.code yX7_greater cX7_greater 2 (some .int) ∈ Wall := wall_of (List.mem_of_getElem? (i := 1034) (by decide +kernel)) (by decide +kernel)
theorem wm_X7_73 : Cond.methodLink RX7 73 yX7_lesser ∈ Wall := wall_of (List.mem_of_getElem? (i := 1035) (by decide +kernel)) (by decide +kernel)
theorem ws_X7_lesser : Cond.static yX7_lesser ∈ Wall := wall_of (List.mem_of_getElem? (i := 1036) (by decide +kernel)) (by decide +kernel)
theorem wc_X7_lesser : Cond.code yX7_lesser cX7_lesser 2 (some .int) ∈ Wall := wall_of (List.mem_of_getElem? (i := 1037) (by decide +kernel)) (by decide +kernel)
theorem wm_X7_136 : Cond.methodLink RX7 136 yX7_dropsSegments ∈ Wall := wall_of (List.mem_of_getElem? (i := 1038) (by decide +kernel)) (by decide +kernel)
theorem wn_X7_dropsSegments : Cond.instanceMethod yX7_dropsSegments ∈ Wall := wall_of (List.mem_of_getElem? (i := 1040) (by decide +kernel)) (by decide +kernel)
theorem wc_X7_dropsSegments : Cond.code yX7_dropsSegments cX7_dropsSegments 3 none ∈ Wall := wall_of (List.mem_of_getElem? (i := 1041) (by decide +kernel)) (by decide +kernel)
theorem wm_X7_139 : Cond.methodLink RX7 139 yX7_controls ∈ Wall := wall_of (List.mem_of_getElem? (i := 1042) (by decide +kernel)) (by decide +kernel)
theorem wn_X7_controls : Cond.instanceMethod yX7_controls ∈ Wall := wall_of (List.mem_of_getElem? (i := 1044) (by decide +kernel)) (by decide +kernel)
theorem wc_X7_controls : Cond.code yX7_controls cX7_controls 2 none ∈ Wall := wall_of (List.mem_of_getElem? (i := 1045) (by decide +kernel)) (by decide +kernel)
theorem wm_X7_112 : Cond.methodLink RX7 112 yX7_measures ∈ Wall := wall_of (List.mem_of_getElem? (i := 1046) (by decide +kernel)) (by decide +kernel)
theorem wn_X7_measures : Cond.instanceMethod yX7_measures ∈ Wall := wall_of (List.mem_of_getElem? (i := 1048) (by decide +kernel)) (by decide +kernel)
theorem wc_X7_measures : Cond.code yX7_measures cX7_measures 3 none ∈ Wall := wall_of (List.mem_of_getElem? (i := 1049) (by decide +kernel)) (by decide +kernel)
theorem wm_X7_115 : Cond.methodLink RX7 115 yX7_refers ∈ Wall := wall_of (List.mem_of_getElem? (i := 1050) (by decide +kernel)) (by decide +kernel)
theorem wn_X7_refers : Cond.instanceMethod yX7_refers ∈ Wall := wall_of (List.mem_of_getElem? (i := 1052) (by decide +kernel)) (by decide +kernel)
theorem wc_X7_refers : Cond.code yX7_refers cX7_refers 3 none ∈ Wall := wall_of (List.mem_of_getElem? (i := 1053) (by decide +kernel)) (by decide +kernel)
theorem wm_X7_63 : Cond.methodLink RX7 63 yX7_measured ∈ Wall := wall_of (List.mem_of_getElem? (i := 1054) (by decide +kernel)) (by decide +kernel)
theorem wn_X7_measured : Cond.instanceMethod yX7_measured ∈ Wall := wall_of (List.mem_of_getElem? (i := 1056) (by decide +kernel)) (by decide +kernel)
theorem wc_X7_measured : Cond.code yX7_measured cX7_measured 2 (some .int) ∈ Wall := wall_of (List.mem_of_getElem? (i := 1057) (by decide +kernel)) (by decide +kernel)
theorem wm_X7_118 : Cond.methodLink RX7 118 yX7_suspects ∈ Wall := wall_of (List.mem_of_getElem? (i := 1058) (by decide +kernel)) (by decide +kernel)
theorem wn_X7_suspects : Cond.instanceMethod yX7_suspects ∈ Wall := wall_of (List.mem_of_getElem? (i := 1060) (by decide +kernel)) (by decide +kernel)
theorem wc_X7_suspects : Cond.code yX7_suspects cX7_suspects 2 none ∈ Wall := wall_of (List.mem_of_getElem? (i := 1061) (by decide +kernel)) (by decide +kernel)
theorem wm_X7_76 : Cond.methodLink RX7 76 yX7_logs ∈ Wall := wall_of (List.mem_of_getElem? (i := 1062) (by decide +kernel)) (by decide +kernel)
theorem wn_X7_logs : Cond.instanceMethod yX7_logs ∈ Wall := wall_of (List.mem_of_getElem? (i := 1064) (by decide +kernel)) (by decide +kernel)
theorem wc_X7_logs : Cond.code yX7_logs cX7_logs 4 none ∈ Wall := wall_of (List.mem_of_getElem? (i := 1065) (by decide +kernel)) (by decide +kernel)
theorem wm_X7_121 : Cond.methodLink RX7 121 yX7_phases ∈ Wall := wall_of (List.mem_of_getElem? (i := 1066) (by decide +kernel)) (by decide +kernel)
theorem wn_X7_phases : Cond.instanceMethod yX7_phases ∈ Wall := wall_of (List.mem_of_getElem? (i := 1068) (by decide +kernel)) (by decide +kernel)
theorem wc_X7_phases : Cond.code yX7_phases cX7_phases 5 none ∈ Wall := wall_of (List.mem_of_getElem? (i := 1069) (by decide +kernel)) (by decide +kernel)
theorem wm_X7_99 : Cond.methodLink RX7 99 yX7_nextOf ∈ Wall := wall_of (List.mem_of_getElem? (i := 1070) (by decide +kernel)) (by decide +kernel)
theorem wn_X7_nextOf : Cond.instanceMethod yX7_nextOf ∈ Wall := wall_of (List.mem_of_getElem? (i := 1072) (by decide +kernel)) (by decide +kernel)
theorem wc_X7_nextOf : Cond.code yX7_nextOf cX7_nextOf 5 (some .int) ∈ Wall := wall_of (List.mem_of_getElem? (i := 1073) (by decide +kernel)) (by decide +kernel)
theorem wm_X7_90 : Cond.methodLink RX7 90 yX7_isControlled ∈ Wall := wall_of (List.mem_of_getElem? (i := 1074) (by decide +kernel)) (by decide +kernel)
theorem wn_X7_isControlled : Cond.instanceMethod yX7_isControlled ∈ Wall := wall_of (List.mem_of_getElem? (i := 1076) (by decide +kernel)) (by decide +kernel)
theorem wc_X7_isControlled : Cond.code yX7_isControlled cX7_isControlled 2 (some .boolean) ∈ Wall := wall_of (List.mem_of_getElem? (i := 1077) (by decide +kernel)) (by decide +kernel)
theorem wm_X7_83 : Cond.methodLink RX7 83 yX7_isActive ∈ Wall := wall_of (List.mem_of_getElem? (i := 1078) (by decide +kernel)) (by decide +kernel)
theorem wn_X7_isActive : Cond.instanceMethod yX7_isActive ∈ Wall := wall_of (List.mem_of_getElem? (i := 1080) (by decide +kernel)) (by decide +kernel)
theorem wc_X7_isActive : Cond.code yX7_isActive cX7_isActive 1 (some .boolean) ∈ Wall := wall_of (List.mem_of_getElem? (i := 1081) (by decide +kernel)) (by decide +kernel)
theorem wm_X7_87 : Cond.methodLink RX7 87 yX7_isAxleOut ∈ Wall := wall_of (List.mem_of_getElem? (i := 1082) (by decide +kernel)) (by decide +kernel)
theorem wn_X7_isAxleOut : Cond.instanceMethod yX7_isAxleOut ∈ Wall := wall_of (List.mem_of_getElem? (i := 1084) (by decide +kernel)) (by decide +kernel)
theorem wc_X7_isAxleOut : Cond.code yX7_isAxleOut cX7_isAxleOut 3 (some .boolean) ∈ Wall := wall_of (List.mem_of_getElem? (i := 1085) (by decide +kernel)) (by decide +kernel)
theorem wm_X7_93 : Cond.methodLink RX7 93 yX7_estimated ∈ Wall := wall_of (List.mem_of_getElem? (i := 1086) (by decide +kernel)) (by decide +kernel)
theorem wn_X7_estimated : Cond.instanceMethod yX7_estimated ∈ Wall := wall_of (List.mem_of_getElem? (i := 1088) (by decide +kernel)) (by decide +kernel)
theorem wc_X7_estimated : Cond.code yX7_estimated cX7_estimated 2 (some .int) ∈ Wall := wall_of (List.mem_of_getElem? (i := 1089) (by decide +kernel)) (by decide +kernel)
theorem wm_X7_96 : Cond.methodLink RX7 96 yX7_acceleration ∈ Wall := wall_of (List.mem_of_getElem? (i := 1090) (by decide +kernel)) (by decide +kernel)
theorem wn_X7_acceleration : Cond.instanceMethod yX7_acceleration ∈ Wall := wall_of (List.mem_of_getElem? (i := 1092) (by decide +kernel)) (by decide +kernel)
theorem wc_X7_acceleration : Cond.code yX7_acceleration cX7_acceleration 3 (some .int) ∈ Wall := wall_of (List.mem_of_getElem? (i := 1093) (by decide +kernel)) (by decide +kernel)
theorem wm_X7_66 : Cond.methodLink RX7 66 yX7_floor ∈ Wall := wall_of (List.mem_of_getElem? (i := 1094) (by decide +kernel)) (by decide +kernel)
theorem ws_X7_floor : Cond.static yX7_floor ∈ Wall := wall_of (List.mem_of_getElem? (i := 1095) (by decide +kernel)) (by decide +kernel)
theorem wc_X7_floor : Cond.code yX7_floor cX7_floor 6 (some .int) ∈ Wall := wall_of (List.mem_of_getElem? (i := 1096) (by decide +kernel)) (by decide +kernel)
theorem wm_X7_102 : Cond.methodLink RX7 102 yX7_rank ∈ Wall := wall_of (List.mem_of_getElem? (i := 1097) (by decide +kernel)) (by decide +kernel)
theorem ws_X7_rank : Cond.static yX7_rank ∈ Wall := wall_of (List.mem_of_getElem? (i := 1098) (by decide +kernel)) (by decide +kernel)
theorem wc_X7_rank : Cond.code yX7_rank cX7_rank 1 (some .int) ∈ Wall := wall_of (List.mem_of_getElem? (i := 1099) (by decide +kernel)) (by decide +kernel)
theorem wm_X7_105 : Cond.methodLink RX7 105 yX7_becomes ∈ Wall := wall_of (List.mem_of_getElem? (i := 1100) (by decide +kernel)) (by decide +kernel)
theorem wn_X7_becomes : Cond.instanceMethod yX7_becomes ∈ Wall := wall_of (List.mem_of_getElem? (i := 1102) (by decide +kernel)) (by decide +kernel)
theorem wc_X7_becomes : Cond.code yX7_becomes cX7_becomes 3 none ∈ Wall := wall_of (List.mem_of_getElem? (i := 1103) (by decide +kernel)) (by decide +kernel)
theorem wm_X7_124 : Cond.methodLink RX7 124 yX7_presses ∈ Wall := wall_of (List.mem_of_getElem? (i := 1104) (by decide +kernel)) (by decide +kernel)
theorem wn_X7_presses : Cond.instanceMethod yX7_presses ∈ Wall := wall_of (List.mem_of_getElem? (i := 1106) (by decide +kernel)) (by decide +kernel)
theorem wc_X7_presses : Cond.code yX7_presses cX7_presses 4 none ∈ Wall := wall_of (List.mem_of_getElem? (i := 1107) (by decide +kernel)) (by decide +kernel)
theorem wm_X7_108 : Cond.methodLink RX7 108 yX7_dumps ∈ Wall := wall_of (List.mem_of_getElem? (i := 1108) (by decide +kernel)) (by decide +kernel)
theorem wn_X7_dumps : Cond.instanceMethod yX7_dumps ∈ Wall := wall_of (List.mem_of_getElem? (i := 1110) (by decide +kernel)) (by decide +kernel)
theorem wc_X7_dumps : Cond.code yX7_dumps cX7_dumps 3 none ∈ Wall := wall_of (List.mem_of_getElem? (i := 1111) (by decide +kernel)) (by decide +kernel)
theorem wm_X7_127 : Cond.methodLink RX7 127 yX7_yaws ∈ Wall := wall_of (List.mem_of_getElem? (i := 1112) (by decide +kernel)) (by decide +kernel)
theorem wn_X7_yaws : Cond.instanceMethod yX7_yaws ∈ Wall := wall_of (List.mem_of_getElem? (i := 1114) (by decide +kernel)) (by decide +kernel)
theorem wc_X7_yaws : Cond.code yX7_yaws cX7_yaws 3 none ∈ Wall := wall_of (List.mem_of_getElem? (i := 1115) (by decide +kernel)) (by decide +kernel)
theorem wm_L_106 : Cond.methodLink RL 106 yX7_stop ∈ Wall := wall_of (List.mem_of_getElem? (i := 1116) (by decide +kernel)) (by decide +kernel)
theorem wn_X7_stop : Cond.instanceMethod yX7_stop ∈ Wall := wall_of (List.mem_of_getElem? (i := 1117) (by decide +kernel)) (by decide +kernel)
theorem we_X7_stop : Cond.selects RX7 yX7_stop yX7_stop ∈ Wall := wall_of (List.mem_of_getElem? (i := 1118) (by decide +kernel)) (by decide +kernel)
theorem wc_X7_stop : Cond.code yX7_stop cX7_stop 1 (some .int) ∈ Wall := wall_of (List.mem_of_getElem? (i := 1119) (by decide +kernel)) (by decide +kernel)
theorem wm_X7_159 : Cond.methodLink RX7 159 yX7_stops ∈ Wall := wall_of (List.mem_of_getElem? (i := 1120) (by decide +kernel)) (by decide +kernel)
theorem wn_X7_stops : Cond.instanceMethod yX7_stops ∈ Wall := wall_of (List.mem_of_getElem? (i := 1122) (by decide +kernel)) (by decide +kernel)
theorem wc_X7_stops : Cond.code yX7_stops cX7_stops 2 (some .int) ∈ Wall := wall_of (List.mem_of_getElem? (i := 1123) (by decide +kernel)) (by decide +kernel)
theorem wm_L_110 : Cond.methodLink RL 110 yX7_stopDistance ∈ Wall := wall_of (List.mem_of_getElem? (i := 1124) (by decide +kernel)) (by decide +kernel)
theorem wn_X7_stopDistance : Cond.instanceMethod yX7_stopDistance ∈ Wall := wall_of (List.mem_of_getElem? (i := 1125) (by decide +kernel)) (by decide +kernel)
theorem we_X7_stopDistance : Cond.selects RX7 yX7_stopDistance yX7_stopDistance ∈ Wall := wall_of (List.mem_of_getElem? (i := 1126) (by decide +kernel)) (by decide +kernel)
theorem wc_X7_stopDistance : Cond.code yX7_stopDistance cX7_stopDistance 8 (some .int) ∈ Wall := wall_of (List.mem_of_getElem? (i := 1127) (by decide +kernel)) (by decide +kernel)
theorem wm_L_113 : Cond.methodLink RL 113 yX7_car ∈ Wall := wall_of (List.mem_of_getElem? (i := 1128) (by decide +kernel)) (by decide +kernel)
theorem wn_X7_car : Cond.instanceMethod yX7_car ∈ Wall := wall_of (List.mem_of_getElem? (i := 1129) (by decide +kernel)) (by decide +kernel)
theorem we_X7_car : Cond.selects RX7 yX7_car yX7_car ∈ Wall := wall_of (List.mem_of_getElem? (i := 1130) (by decide +kernel)) (by decide +kernel)
theorem wc_X7_car : Cond.code yX7_car cX7_car 2 (some .int) ∈ Wall := wall_of (List.mem_of_getElem? (i := 1131) (by decide +kernel)) (by decide +kernel)
theorem wm_X7_162 : Cond.methodLink RX7 162 yX7_tellCar ∈ Wall := wall_of (List.mem_of_getElem? (i := 1132) (by decide +kernel)) (by decide +kernel)
theorem wn_X7_tellCar : Cond.instanceMethod yX7_tellCar ∈ Wall := wall_of (List.mem_of_getElem? (i := 1134) (by decide +kernel)) (by decide +kernel)
theorem wc_X7_tellCar : Cond.code yX7_tellCar cX7_tellCar 2 (some .int) ∈ Wall := wall_of (List.mem_of_getElem? (i := 1135) (by decide +kernel)) (by decide +kernel)
theorem wm_L_116 : Cond.methodLink RL 116 yX7_wheel ∈ Wall := wall_of (List.mem_of_getElem? (i := 1136) (by decide +kernel)) (by decide +kernel)
theorem wn_X7_wheel : Cond.instanceMethod yX7_wheel ∈ Wall := wall_of (List.mem_of_getElem? (i := 1137) (by decide +kernel)) (by decide +kernel)
theorem we_X7_wheel : Cond.selects RX7 yX7_wheel yX7_wheel ∈ Wall := wall_of (List.mem_of_getElem? (i := 1138) (by decide +kernel)) (by decide +kernel)
theorem wc_X7_wheel : Cond.code yX7_wheel cX7_wheel 3 (some .int) ∈ Wall := wall_of (List.mem_of_getElem? (i := 1139) (by decide +kernel)) (by decide +kernel)
theorem wm_X7_165 : Cond.methodLink RX7 165 yX7_tellWheel ∈ Wall := wall_of (List.mem_of_getElem? (i := 1140) (by decide +kernel)) (by decide +kernel)
theorem wn_X7_tellWheel : Cond.instanceMethod yX7_tellWheel ∈ Wall := wall_of (List.mem_of_getElem? (i := 1142) (by decide +kernel)) (by decide +kernel)
theorem wc_X7_tellWheel : Cond.code yX7_tellWheel cX7_tellWheel 3 (some .int) ∈ Wall := wall_of (List.mem_of_getElem? (i := 1143) (by decide +kernel)) (by decide +kernel)
theorem wm_L_119 : Cond.methodLink RL 119 yX7_friction ∈ Wall := wall_of (List.mem_of_getElem? (i := 1144) (by decide +kernel)) (by decide +kernel)
theorem wn_X7_friction : Cond.instanceMethod yX7_friction ∈ Wall := wall_of (List.mem_of_getElem? (i := 1145) (by decide +kernel)) (by decide +kernel)
theorem we_X7_friction : Cond.selects RX7 yX7_friction yX7_friction ∈ Wall := wall_of (List.mem_of_getElem? (i := 1146) (by decide +kernel)) (by decide +kernel)
theorem wc_X7_friction : Cond.code yX7_friction cX7_friction 2 (some .int) ∈ Wall := wall_of (List.mem_of_getElem? (i := 1147) (by decide +kernel)) (by decide +kernel)
theorem wm_L_122 : Cond.methodLink RL 122 yX7_frictionFor ∈ Wall := wall_of (List.mem_of_getElem? (i := 1148) (by decide +kernel)) (by decide +kernel)
theorem wn_X7_frictionFor : Cond.instanceMethod yX7_frictionFor ∈ Wall := wall_of (List.mem_of_getElem? (i := 1149) (by decide +kernel)) (by decide +kernel)
theorem we_X7_frictionFor : Cond.selects RX7 yX7_frictionFor yX7_frictionFor ∈ Wall := wall_of (List.mem_of_getElem? (i := 1150) (by decide +kernel)) (by decide +kernel)
theorem wc_X7_frictionFor : Cond.code yX7_frictionFor cX7_frictionFor 3 (some .int) ∈ Wall := wall_of (List.mem_of_getElem? (i := 1151) (by decide +kernel)) (by decide +kernel)
theorem wm_L_126 : Cond.methodLink RL 126 yX7_segments ∈ Wall := wall_of (List.mem_of_getElem? (i := 1152) (by decide +kernel)) (by decide +kernel)
theorem wn_X7_segments : Cond.instanceMethod yX7_segments ∈ Wall := wall_of (List.mem_of_getElem? (i := 1153) (by decide +kernel)) (by decide +kernel)
theorem we_X7_segments : Cond.selects RX7 yX7_segments yX7_segments ∈ Wall := wall_of (List.mem_of_getElem? (i := 1154) (by decide +kernel)) (by decide +kernel)
theorem wc_X7_segments : Cond.code yX7_segments cX7_segments 1 (some .int) ∈ Wall := wall_of (List.mem_of_getElem? (i := 1155) (by decide +kernel)) (by decide +kernel)
theorem wm_L_129 : Cond.methodLink RL 129 yX7_segment ∈ Wall := wall_of (List.mem_of_getElem? (i := 1156) (by decide +kernel)) (by decide +kernel)
theorem wn_X7_segment : Cond.instanceMethod yX7_segment ∈ Wall := wall_of (List.mem_of_getElem? (i := 1157) (by decide +kernel)) (by decide +kernel)
theorem we_X7_segment : Cond.selects RX7 yX7_segment yX7_segment ∈ Wall := wall_of (List.mem_of_getElem? (i := 1158) (by decide +kernel)) (by decide +kernel)
theorem wc_X7_segment : Cond.code yX7_segment cX7_segment 3 (some .int) ∈ Wall := wall_of (List.mem_of_getElem? (i := 1159) (by decide +kernel)) (by decide +kernel)
theorem wm_L_133 : Cond.methodLink RL 133 yX7_planned ∈ Wall := wall_of (List.mem_of_getElem? (i := 1160) (by decide +kernel)) (by decide +kernel)
theorem wn_X7_planned : Cond.instanceMethod yX7_planned ∈ Wall := wall_of (List.mem_of_getElem? (i := 1161) (by decide +kernel)) (by decide +kernel)
theorem we_X7_planned : Cond.selects RX7 yX7_planned yX7_planned ∈ Wall := wall_of (List.mem_of_getElem? (i := 1162) (by decide +kernel)) (by decide +kernel)
theorem wc_X7_planned : Cond.code yX7_planned cX7_planned 1 (some .int) ∈ Wall := wall_of (List.mem_of_getElem? (i := 1163) (by decide +kernel)) (by decide +kernel)
theorem wm_L_137 : Cond.methodLink RL 137 yX7_events ∈ Wall := wall_of (List.mem_of_getElem? (i := 1164) (by decide +kernel)) (by decide +kernel)
theorem wn_X7_events : Cond.instanceMethod yX7_events ∈ Wall := wall_of (List.mem_of_getElem? (i := 1165) (by decide +kernel)) (by decide +kernel)
theorem we_X7_events : Cond.selects RX7 yX7_events yX7_events ∈ Wall := wall_of (List.mem_of_getElem? (i := 1166) (by decide +kernel)) (by decide +kernel)
theorem wc_X7_events : Cond.code yX7_events cX7_events 1 (some .int) ∈ Wall := wall_of (List.mem_of_getElem? (i := 1167) (by decide +kernel)) (by decide +kernel)
theorem wm_L_140 : Cond.methodLink RL 140 yX7_event ∈ Wall := wall_of (List.mem_of_getElem? (i := 1168) (by decide +kernel)) (by decide +kernel)
theorem wn_X7_event : Cond.instanceMethod yX7_event ∈ Wall := wall_of (List.mem_of_getElem? (i := 1169) (by decide +kernel)) (by decide +kernel)
theorem we_X7_event : Cond.selects RX7 yX7_event yX7_event ∈ Wall := wall_of (List.mem_of_getElem? (i := 1170) (by decide +kernel)) (by decide +kernel)
theorem wc_X7_event : Cond.code yX7_event cX7_event 3 (some .int) ∈ Wall := wall_of (List.mem_of_getElem? (i := 1171) (by decide +kernel)) (by decide +kernel)
theorem wm_L_149 : Cond.methodLink RL 149 yX7_digest ∈ Wall := wall_of (List.mem_of_getElem? (i := 1172) (by decide +kernel)) (by decide +kernel)
theorem wn_X7_digest : Cond.instanceMethod yX7_digest ∈ Wall := wall_of (List.mem_of_getElem? (i := 1173) (by decide +kernel)) (by decide +kernel)
theorem we_X7_digest : Cond.selects RX7 yX7_digest yX7_digest ∈ Wall := wall_of (List.mem_of_getElem? (i := 1174) (by decide +kernel)) (by decide +kernel)
theorem wc_X7_digest : Cond.code yX7_digest cX7_digest 3 (some .long) ∈ Wall := wall_of (List.mem_of_getElem? (i := 1175) (by decide +kernel)) (by decide +kernel)
theorem wk_X7_177 : Cond.constantLong RX7 177 19707 ∈ Wall := wall_of (List.mem_of_getElem? (i := 1176) (by decide +kernel)) (by decide +kernel)
theorem wm_X7_174 : Cond.methodLink RX7 174 yX7_mix ∈ Wall := wall_of (List.mem_of_getElem? (i := 1177) (by decide +kernel)) (by decide +kernel)
theorem wn_X7_mix : Cond.instanceMethod yX7_mix ∈ Wall := wall_of (List.mem_of_getElem? (i := 1179) (by decide +kernel)) (by decide +kernel)
theorem wc_X7_mix : Cond.code yX7_mix cX7_mix 2 none ∈ Wall := wall_of (List.mem_of_getElem? (i := 1180) (by decide +kernel)) (by decide +kernel)
theorem wk_X7_168 : Cond.constantLong RX7 168 31 ∈ Wall := wall_of (List.mem_of_getElem? (i := 1181) (by decide +kernel)) (by decide +kernel)
theorem wm_X7_179 : Cond.methodLink RX7 179 yX7_mixAll ∈ Wall := wall_of (List.mem_of_getElem? (i := 1182) (by decide +kernel)) (by decide +kernel)
theorem wn_X7_mixAll : Cond.instanceMethod yX7_mixAll ∈ Wall := wall_of (List.mem_of_getElem? (i := 1184) (by decide +kernel)) (by decide +kernel)
theorem wc_X7_mixAll : Cond.code yX7_mixAll cX7_mixAll 4 none ∈ Wall := wall_of (List.mem_of_getElem? (i := 1185) (by decide +kernel)) (by decide +kernel)
theorem wa_long : Cond.arrayClass .long ∈ Wall := wall_of (List.mem_of_getElem? (i := 1186) (by decide +kernel)) (by decide +kernel)
theorem we_X6_saveState : Cond.selects RX6 yX6_saveState yX6_saveState ∈ Wall := wall_of (List.mem_of_getElem? (i := 0) (by decide +kernel)) (by decide +kernel)
theorem we_X6_dropOldestSaved : Cond.selects RX6 yX6_dropOldestSaved yX6_dropOldestSaved ∈ Wall := wall_of (List.mem_of_getElem? (i := 1) (by decide +kernel)) (by decide +kernel)
theorem we_X7_begins : Cond.selects RX7 yX7_begins yX7_begins ∈ Wall := wall_of (List.mem_of_getElem? (i := 3) (by decide +kernel)) (by decide +kernel)
theorem we_X7_refused : Cond.selects RX7 yX7_refused yX7_refused ∈ Wall := wall_of (List.mem_of_getElem? (i := 4) (by decide +kernel)) (by decide +kernel)
theorem we_X7_saves : Cond.selects RX7 yX7_saves yX7_saves ∈ Wall := wall_of (List.mem_of_getElem? (i := 5) (by decide +kernel)) (by decide +kernel)
theorem we_X7_speeds : Cond.selects RX7 yX7_speeds yX7_speeds ∈ Wall := wall_of (List.mem_of_getElem? (i := 6) (by decide +kernel)) (by decide +kernel)
theorem we_X7_sets : Cond.selects RX7 yX7_sets yX7_sets ∈ Wall := wall_of (List.mem_of_getElem? (i := 7) (by decide +kernel)) (by decide +kernel)
theorem we_X7_get : Cond.selects RX7 yX7_get yX7_get ∈ Wall := wall_of (List.mem_of_getElem? (i := 8) (by decide +kernel)) (by decide +kernel)
theorem we_X7_outs : Cond.selects RX7 yX7_outs yX7_outs ∈ Wall := wall_of (List.mem_of_getElem? (i := 9) (by decide +kernel)) (by decide +kernel)
theorem we_X7_tickOn : Cond.selects RX7 yX7_tickOn yX7_tickOn ∈ Wall := wall_of (List.mem_of_getElem? (i := 10) (by decide +kernel)) (by decide +kernel)
theorem we_X7_followsPlan : Cond.selects RX7 yX7_followsPlan yX7_followsPlan ∈ Wall := wall_of (List.mem_of_getElem? (i := 11) (by decide +kernel)) (by decide +kernel)
theorem we_X7_frictionAt : Cond.selects RX7 yX7_frictionAt yX7_frictionAt ∈ Wall := wall_of (List.mem_of_getElem? (i := 12) (by decide +kernel)) (by decide +kernel)
theorem we_X7_present : Cond.selects RX7 yX7_present yX7_present ∈ Wall := wall_of (List.mem_of_getElem? (i := 13) (by decide +kernel)) (by decide +kernel)
theorem we_X7_slipOf : Cond.selects RX7 yX7_slipOf yX7_slipOf ∈ Wall := wall_of (List.mem_of_getElem? (i := 14) (by decide +kernel)) (by decide +kernel)
theorem we_X7_dropsSegments : Cond.selects RX7 yX7_dropsSegments yX7_dropsSegments ∈ Wall := wall_of (List.mem_of_getElem? (i := 15) (by decide +kernel)) (by decide +kernel)
theorem we_X7_controls : Cond.selects RX7 yX7_controls yX7_controls ∈ Wall := wall_of (List.mem_of_getElem? (i := 16) (by decide +kernel)) (by decide +kernel)
theorem we_X7_measures : Cond.selects RX7 yX7_measures yX7_measures ∈ Wall := wall_of (List.mem_of_getElem? (i := 17) (by decide +kernel)) (by decide +kernel)
theorem we_X7_refers : Cond.selects RX7 yX7_refers yX7_refers ∈ Wall := wall_of (List.mem_of_getElem? (i := 18) (by decide +kernel)) (by decide +kernel)
theorem we_X7_measured : Cond.selects RX7 yX7_measured yX7_measured ∈ Wall := wall_of (List.mem_of_getElem? (i := 19) (by decide +kernel)) (by decide +kernel)
theorem we_X7_suspects : Cond.selects RX7 yX7_suspects yX7_suspects ∈ Wall := wall_of (List.mem_of_getElem? (i := 20) (by decide +kernel)) (by decide +kernel)
theorem we_X7_logs : Cond.selects RX7 yX7_logs yX7_logs ∈ Wall := wall_of (List.mem_of_getElem? (i := 21) (by decide +kernel)) (by decide +kernel)
theorem we_X7_phases : Cond.selects RX7 yX7_phases yX7_phases ∈ Wall := wall_of (List.mem_of_getElem? (i := 22) (by decide +kernel)) (by decide +kernel)
theorem we_X7_nextOf : Cond.selects RX7 yX7_nextOf yX7_nextOf ∈ Wall := wall_of (List.mem_of_getElem? (i := 23) (by decide +kernel)) (by decide +kernel)
theorem we_X7_isControlled : Cond.selects RX7 yX7_isControlled yX7_isControlled ∈ Wall := wall_of (List.mem_of_getElem? (i := 24) (by decide +kernel)) (by decide +kernel)
theorem we_X7_isActive : Cond.selects RX7 yX7_isActive yX7_isActive ∈ Wall := wall_of (List.mem_of_getElem? (i := 25) (by decide +kernel)) (by decide +kernel)
theorem we_X7_isAxleOut : Cond.selects RX7 yX7_isAxleOut yX7_isAxleOut ∈ Wall := wall_of (List.mem_of_getElem? (i := 26) (by decide +kernel)) (by decide +kernel)
theorem we_X7_estimated : Cond.selects RX7 yX7_estimated yX7_estimated ∈ Wall := wall_of (List.mem_of_getElem? (i := 27) (by decide +kernel)) (by decide +kernel)
theorem we_X7_acceleration : Cond.selects RX7 yX7_acceleration yX7_acceleration ∈ Wall := wall_of (List.mem_of_getElem? (i := 28) (by decide +kernel)) (by decide +kernel)
theorem we_X7_becomes : Cond.selects RX7 yX7_becomes yX7_becomes ∈ Wall := wall_of (List.mem_of_getElem? (i := 29) (by decide +kernel)) (by decide +kernel)
theorem we_X7_presses : Cond.selects RX7 yX7_presses yX7_presses ∈ Wall := wall_of (List.mem_of_getElem? (i := 30) (by decide +kernel)) (by decide +kernel)
theorem we_X7_dumps : Cond.selects RX7 yX7_dumps yX7_dumps ∈ Wall := wall_of (List.mem_of_getElem? (i := 31) (by decide +kernel)) (by decide +kernel)
theorem we_X7_yaws : Cond.selects RX7 yX7_yaws yX7_yaws ∈ Wall := wall_of (List.mem_of_getElem? (i := 32) (by decide +kernel)) (by decide +kernel)
theorem we_X7_stops : Cond.selects RX7 yX7_stops yX7_stops ∈ Wall := wall_of (List.mem_of_getElem? (i := 33) (by decide +kernel)) (by decide +kernel)
theorem we_X7_tellCar : Cond.selects RX7 yX7_tellCar yX7_tellCar ∈ Wall := wall_of (List.mem_of_getElem? (i := 34) (by decide +kernel)) (by decide +kernel)
theorem we_X7_tellWheel : Cond.selects RX7 yX7_tellWheel yX7_tellWheel ∈ Wall := wall_of (List.mem_of_getElem? (i := 35) (by decide +kernel)) (by decide +kernel)
theorem we_X7_mix : Cond.selects RX7 yX7_mix yX7_mix ∈ Wall := wall_of (List.mem_of_getElem? (i := 36) (by decide +kernel)) (by decide +kernel)
theorem we_X7_mixAll : Cond.selects RX7 yX7_mixAll yX7_mixAll ∈ Wall := wall_of (List.mem_of_getElem? (i := 37) (by decide +kernel)) (by decide +kernel)
theorem wX0 : ∀ w ∈ u_ws RX0 TX0 9, w ∈ Wall := fun w h => wall_of ((goodIn_r (big := lw_tbl) (u_ws RX0 TX0 9) [301, 303, 305, 307, 309, 311, 313, 315, 317] (by decide +kernel) (by decide +kernel)) w h).1 ((List.all_eq_true.mp (show (u_ws RX0 TX0 9).all goodWord = true by decide +kernel)) w h)
theorem wX1 : ∀ w ∈ u_ws RX1 TX1 8, w ∈ Wall := fun w h => wall_of ((goodIn_r (big := lw_tbl) (u_ws RX1 TX1 8) [192, 194, 196, 198, 200, 202, 204, 206] (by decide +kernel) (by decide +kernel)) w h).1 ((List.all_eq_true.mp (show (u_ws RX1 TX1 8).all goodWord = true by decide +kernel)) w h)
theorem wX2 : ∀ w ∈ u_ws RX2 TX2 5, w ∈ Wall := fun w h => wall_of ((goodIn_r (big := lw_tbl) (u_ws RX2 TX2 5) [165, 167, 169, 171, 173] (by decide +kernel) (by decide +kernel)) w h).1 ((List.all_eq_true.mp (show (u_ws RX2 TX2 5).all goodWord = true by decide +kernel)) w h)
theorem wX3 : ∀ w ∈ u_ws RX3 TX3 4, w ∈ Wall := fun w h => wall_of ((goodIn_r (big := lw_tbl) (u_ws RX3 TX3 4) [220, 222, 224, 226] (by decide +kernel) (by decide +kernel)) w h).1 ((List.all_eq_true.mp (show (u_ws RX3 TX3 4).all goodWord = true by decide +kernel)) w h)
theorem wX4 : ∀ w ∈ u_ws RX4 TX4 3, w ∈ Wall := fun w h => wall_of ((goodIn_r (big := lw_tbl) (u_ws RX4 TX4 3) [239, 241, 243] (by decide +kernel) (by decide +kernel)) w h).1 ((List.all_eq_true.mp (show (u_ws RX4 TX4 3).all goodWord = true by decide +kernel)) w h)
theorem wX5 : ∀ w ∈ u_ws RX5 TX5 16, w ∈ Wall := fun w h => wall_of ((goodIn_r (big := lw_tbl) (u_ws RX5 TX5 16) [119, 121, 123, 125, 127, 129, 131, 133, 135, 137, 139, 141, 143, 145, 147, 149] (by decide +kernel) (by decide +kernel)) w h).1 ((List.all_eq_true.mp (show (u_ws RX5 TX5 16).all goodWord = true by decide +kernel)) w h)
theorem wX6 : ∀ w ∈ u_ws RX6 TX6 4, w ∈ Wall := fun w h => wall_of ((goodIn_r (big := lw_tbl) (u_ws RX6 TX6 4) [325, 327, 329, 331] (by decide +kernel) (by decide +kernel)) w h).1 ((List.all_eq_true.mp (show (u_ws RX6 TX6 4).all goodWord = true by decide +kernel)) w h)
theorem wX7 : ∀ w ∈ u_ws RX7 TX7 6, w ∈ Wall := fun w h => wall_of ((goodIn_r (big := lw_tbl) (u_ws RX7 TX7 6) [916, 918, 920, 922, 924, 926] (by decide +kernel) (by decide +kernel)) w h).1 ((List.all_eq_true.mp (show (u_ws RX7 TX7 6).all goodWord = true by decide +kernel)) w h)
theorem fl_X0_12 : FL RX0 12 0 0 := ⟨RX0, TX0, 9, rfl, wX0, by decide, wf_X0_12⟩
theorem fl_X0_18 : FL RX0 18 1 0 := ⟨RX1, TX1, 8, rfl, wX1, by decide, wf_X0_18⟩
theorem fl_X0_22 : FL RX0 22 0 1 := ⟨RX0, TX0, 9, rfl, wX0, by decide, wf_X0_22⟩
theorem fl_X0_23 : FL RX0 23 1 1 := ⟨RX1, TX1, 8, rfl, wX1, by decide, wf_X0_23⟩
theorem fl_X0_27 : FL RX0 27 0 2 := ⟨RX0, TX0, 9, rfl, wX0, by decide, wf_X0_27⟩
theorem fl_X0_31 : FL RX0 31 0 3 := ⟨RX0, TX0, 9, rfl, wX0, by decide, wf_X0_31⟩
theorem fl_X0_38 : FL RX0 38 0 4 := ⟨RX0, TX0, 9, rfl, wX0, by decide, wf_X0_38⟩
theorem fl_X0_48 : FL RX0 48 0 5 := ⟨RX0, TX0, 9, rfl, wX0, by decide, wf_X0_48⟩
theorem pl_X0_48 : PL RX0 48 0 5 .int := ⟨RX0, TX0, 9, tyX0, rfl, wX0, tyX0_ok, nmX0, by decide, wf_X0_48, rfl, by decide +kernel⟩
theorem fl_X0_52 : FL RX0 52 0 6 := ⟨RX0, TX0, 9, rfl, wX0, by decide, wf_X0_52⟩
theorem pl_X0_52 : PL RX0 52 0 6 .int := ⟨RX0, TX0, 9, tyX0, rfl, wX0, tyX0_ok, nmX0, by decide, wf_X0_52, rfl, by decide +kernel⟩
theorem fl_X0_55 : FL RX0 55 0 7 := ⟨RX0, TX0, 9, rfl, wX0, by decide, wf_X0_55⟩
theorem pl_X0_55 : PL RX0 55 0 7 .int := ⟨RX0, TX0, 9, tyX0, rfl, wX0, tyX0_ok, nmX0, by decide, wf_X0_55, rfl, by decide +kernel⟩
theorem fl_X0_58 : FL RX0 58 0 8 := ⟨RX0, TX0, 9, rfl, wX0, by decide, wf_X0_58⟩
theorem pl_X0_58 : PL RX0 58 0 8 .int := ⟨RX0, TX0, 9, tyX0, rfl, wX0, tyX0_ok, nmX0, by decide, wf_X0_58, rfl, by decide +kernel⟩
theorem fl_X0_113 : FL RX0 113 5 14 := ⟨RX5, TX5, 16, rfl, wX5, by decide, wf_X0_113⟩
theorem pl_X0_113 : PL RX0 113 5 14 .int := ⟨RX5, TX5, 16, tyX5, rfl, wX5, tyX5_ok, nmX5, by decide, wf_X0_113, rfl, by decide +kernel⟩
theorem fl_X0_126 : FL RX0 126 1 3 := ⟨RX1, TX1, 8, rfl, wX1, by decide, wf_X0_126⟩
theorem pl_X0_126 : PL RX0 126 1 3 .int := ⟨RX1, TX1, 8, tyX1, rfl, wX1, tyX1_ok, nmX1, by decide, wf_X0_126, rfl, by decide +kernel⟩
theorem fl_X0_129 : FL RX0 129 1 4 := ⟨RX1, TX1, 8, rfl, wX1, by decide, wf_X0_129⟩
theorem pl_X0_129 : PL RX0 129 1 4 .int := ⟨RX1, TX1, 8, tyX1, rfl, wX1, tyX1_ok, nmX1, by decide, wf_X0_129, rfl, by decide +kernel⟩
theorem fl_X0_132 : FL RX0 132 1 5 := ⟨RX1, TX1, 8, rfl, wX1, by decide, wf_X0_132⟩
theorem pl_X0_132 : PL RX0 132 1 5 .int := ⟨RX1, TX1, 8, tyX1, rfl, wX1, tyX1_ok, nmX1, by decide, wf_X0_132, rfl, by decide +kernel⟩
theorem fl_X0_135 : FL RX0 135 1 6 := ⟨RX1, TX1, 8, rfl, wX1, by decide, wf_X0_135⟩
theorem pl_X0_135 : PL RX0 135 1 6 .int := ⟨RX1, TX1, 8, tyX1, rfl, wX1, tyX1_ok, nmX1, by decide, wf_X0_135, rfl, by decide +kernel⟩
theorem fl_X0_146 : FL RX0 146 1 2 := ⟨RX1, TX1, 8, rfl, wX1, by decide, wf_X0_146⟩
theorem pl_X0_146 : PL RX0 146 1 2 .boolean := ⟨RX1, TX1, 8, tyX1, rfl, wX1, tyX1_ok, nmX1, by decide, wf_X0_146, rfl, by decide +kernel⟩
theorem fl_X0_150 : FL RX0 150 5 0 := ⟨RX5, TX5, 16, rfl, wX5, by decide, wf_X0_150⟩
theorem pl_X0_150 : PL RX0 150 5 0 .int := ⟨RX5, TX5, 16, tyX5, rfl, wX5, tyX5_ok, nmX5, by decide, wf_X0_150, rfl, by decide +kernel⟩
theorem fl_X0_151 : FL RX0 151 5 1 := ⟨RX5, TX5, 16, rfl, wX5, by decide, wf_X0_151⟩
theorem pl_X0_151 : PL RX0 151 5 1 .int := ⟨RX5, TX5, 16, tyX5, rfl, wX5, tyX5_ok, nmX5, by decide, wf_X0_151, rfl, by decide +kernel⟩
theorem fl_X0_154 : FL RX0 154 5 2 := ⟨RX5, TX5, 16, rfl, wX5, by decide, wf_X0_154⟩
theorem pl_X0_154 : PL RX0 154 5 2 .int := ⟨RX5, TX5, 16, tyX5, rfl, wX5, tyX5_ok, nmX5, by decide, wf_X0_154, rfl, by decide +kernel⟩
theorem fl_X0_157 : FL RX0 157 5 3 := ⟨RX5, TX5, 16, rfl, wX5, by decide, wf_X0_157⟩
theorem pl_X0_157 : PL RX0 157 5 3 .int := ⟨RX5, TX5, 16, tyX5, rfl, wX5, tyX5_ok, nmX5, by decide, wf_X0_157, rfl, by decide +kernel⟩
theorem fl_X0_160 : FL RX0 160 5 4 := ⟨RX5, TX5, 16, rfl, wX5, by decide, wf_X0_160⟩
theorem pl_X0_160 : PL RX0 160 5 4 .int := ⟨RX5, TX5, 16, tyX5, rfl, wX5, tyX5_ok, nmX5, by decide, wf_X0_160, rfl, by decide +kernel⟩
theorem fl_X0_163 : FL RX0 163 5 5 := ⟨RX5, TX5, 16, rfl, wX5, by decide, wf_X0_163⟩
theorem pl_X0_163 : PL RX0 163 5 5 .int := ⟨RX5, TX5, 16, tyX5, rfl, wX5, tyX5_ok, nmX5, by decide, wf_X0_163, rfl, by decide +kernel⟩
theorem fl_X0_166 : FL RX0 166 5 6 := ⟨RX5, TX5, 16, rfl, wX5, by decide, wf_X0_166⟩
theorem pl_X0_166 : PL RX0 166 5 6 .int := ⟨RX5, TX5, 16, tyX5, rfl, wX5, tyX5_ok, nmX5, by decide, wf_X0_166, rfl, by decide +kernel⟩
theorem fl_X0_169 : FL RX0 169 5 8 := ⟨RX5, TX5, 16, rfl, wX5, by decide, wf_X0_169⟩
theorem pl_X0_169 : PL RX0 169 5 8 .boolean := ⟨RX5, TX5, 16, tyX5, rfl, wX5, tyX5_ok, nmX5, by decide, wf_X0_169, rfl, by decide +kernel⟩
theorem fl_X0_172 : FL RX0 172 5 7 := ⟨RX5, TX5, 16, rfl, wX5, by decide, wf_X0_172⟩
theorem pl_X0_172 : PL RX0 172 5 7 .int := ⟨RX5, TX5, 16, tyX5, rfl, wX5, tyX5_ok, nmX5, by decide, wf_X0_172, rfl, by decide +kernel⟩
theorem fl_X0_175 : FL RX0 175 5 13 := ⟨RX5, TX5, 16, rfl, wX5, by decide, wf_X0_175⟩
theorem pl_X0_175 : PL RX0 175 5 13 .int := ⟨RX5, TX5, 16, tyX5, rfl, wX5, tyX5_ok, nmX5, by decide, wf_X0_175, rfl, by decide +kernel⟩
theorem fl_X0_178 : FL RX0 178 5 12 := ⟨RX5, TX5, 16, rfl, wX5, by decide, wf_X0_178⟩
theorem pl_X0_178 : PL RX0 178 5 12 .int := ⟨RX5, TX5, 16, tyX5, rfl, wX5, tyX5_ok, nmX5, by decide, wf_X0_178, rfl, by decide +kernel⟩
theorem fl_X0_202 : FL RX0 202 5 9 := ⟨RX5, TX5, 16, rfl, wX5, by decide, wf_X0_202⟩
theorem pl_X0_202 : PL RX0 202 5 9 .boolean := ⟨RX5, TX5, 16, tyX5, rfl, wX5, tyX5_ok, nmX5, by decide, wf_X0_202, rfl, by decide +kernel⟩
theorem fl_X1_11 : FL RX1 11 1 0 := ⟨RX1, TX1, 8, rfl, wX1, by decide, wf_X1_11⟩
theorem fl_X1_21 : FL RX1 21 1 1 := ⟨RX1, TX1, 8, rfl, wX1, by decide, wf_X1_21⟩
theorem fl_X1_33 : FL RX1 33 1 2 := ⟨RX1, TX1, 8, rfl, wX1, by decide, wf_X1_33⟩
theorem pl_X1_33 : PL RX1 33 1 2 .boolean := ⟨RX1, TX1, 8, tyX1, rfl, wX1, tyX1_ok, nmX1, by decide, wf_X1_33, rfl, by decide +kernel⟩
theorem fl_X1_37 : FL RX1 37 1 5 := ⟨RX1, TX1, 8, rfl, wX1, by decide, wf_X1_37⟩
theorem pl_X1_37 : PL RX1 37 1 5 .int := ⟨RX1, TX1, 8, tyX1, rfl, wX1, tyX1_ok, nmX1, by decide, wf_X1_37, rfl, by decide +kernel⟩
theorem fl_X1_42 : FL RX1 42 1 3 := ⟨RX1, TX1, 8, rfl, wX1, by decide, wf_X1_42⟩
theorem pl_X1_42 : PL RX1 42 1 3 .int := ⟨RX1, TX1, 8, tyX1, rfl, wX1, tyX1_ok, nmX1, by decide, wf_X1_42, rfl, by decide +kernel⟩
theorem fl_X1_45 : FL RX1 45 1 4 := ⟨RX1, TX1, 8, rfl, wX1, by decide, wf_X1_45⟩
theorem pl_X1_45 : PL RX1 45 1 4 .int := ⟨RX1, TX1, 8, tyX1, rfl, wX1, tyX1_ok, nmX1, by decide, wf_X1_45, rfl, by decide +kernel⟩
theorem fl_X1_48 : FL RX1 48 1 6 := ⟨RX1, TX1, 8, rfl, wX1, by decide, wf_X1_48⟩
theorem pl_X1_48 : PL RX1 48 1 6 .int := ⟨RX1, TX1, 8, tyX1, rfl, wX1, tyX1_ok, nmX1, by decide, wf_X1_48, rfl, by decide +kernel⟩
theorem fl_X1_51 : FL RX1 51 1 7 := ⟨RX1, TX1, 8, rfl, wX1, by decide, wf_X1_51⟩
theorem pl_X1_51 : PL RX1 51 1 7 .boolean := ⟨RX1, TX1, 8, tyX1, rfl, wX1, tyX1_ok, nmX1, by decide, wf_X1_51, rfl, by decide +kernel⟩
theorem fl_X1_93 : FL RX1 93 5 8 := ⟨RX5, TX5, 16, rfl, wX5, by decide, wf_X1_93⟩
theorem pl_X1_93 : PL RX1 93 5 8 .boolean := ⟨RX5, TX5, 16, tyX5, rfl, wX5, tyX5_ok, nmX5, by decide, wf_X1_93, rfl, by decide +kernel⟩
theorem fl_X1_96 : FL RX1 96 5 7 := ⟨RX5, TX5, 16, rfl, wX5, by decide, wf_X1_96⟩
theorem pl_X1_96 : PL RX1 96 5 7 .int := ⟨RX5, TX5, 16, tyX5, rfl, wX5, tyX5_ok, nmX5, by decide, wf_X1_96, rfl, by decide +kernel⟩
theorem fl_X1_139 : FL RX1 139 5 15 := ⟨RX5, TX5, 16, rfl, wX5, by decide, wf_X1_139⟩
theorem pl_X1_139 : PL RX1 139 5 15 .int := ⟨RX5, TX5, 16, tyX5, rfl, wX5, tyX5_ok, nmX5, by decide, wf_X1_139, rfl, by decide +kernel⟩
theorem fl_X1_150 : FL RX1 150 5 13 := ⟨RX5, TX5, 16, rfl, wX5, by decide, wf_X1_150⟩
theorem pl_X1_150 : PL RX1 150 5 13 .int := ⟨RX5, TX5, 16, tyX5, rfl, wX5, tyX5_ok, nmX5, by decide, wf_X1_150, rfl, by decide +kernel⟩
theorem fl_X1_153 : FL RX1 153 5 12 := ⟨RX5, TX5, 16, rfl, wX5, by decide, wf_X1_153⟩
theorem pl_X1_153 : PL RX1 153 5 12 .int := ⟨RX5, TX5, 16, tyX5, rfl, wX5, tyX5_ok, nmX5, by decide, wf_X1_153, rfl, by decide +kernel⟩
theorem fl_X1_156 : FL RX1 156 5 2 := ⟨RX5, TX5, 16, rfl, wX5, by decide, wf_X1_156⟩
theorem pl_X1_156 : PL RX1 156 5 2 .int := ⟨RX5, TX5, 16, tyX5, rfl, wX5, tyX5_ok, nmX5, by decide, wf_X1_156, rfl, by decide +kernel⟩
theorem fl_X1_159 : FL RX1 159 5 1 := ⟨RX5, TX5, 16, rfl, wX5, by decide, wf_X1_159⟩
theorem pl_X1_159 : PL RX1 159 5 1 .int := ⟨RX5, TX5, 16, tyX5, rfl, wX5, tyX5_ok, nmX5, by decide, wf_X1_159, rfl, by decide +kernel⟩
theorem fl_X1_165 : FL RX1 165 5 3 := ⟨RX5, TX5, 16, rfl, wX5, by decide, wf_X1_165⟩
theorem pl_X1_165 : PL RX1 165 5 3 .int := ⟨RX5, TX5, 16, tyX5, rfl, wX5, tyX5_ok, nmX5, by decide, wf_X1_165, rfl, by decide +kernel⟩
theorem fl_X2_9 : FL RX2 9 2 0 := ⟨RX2, TX2, 5, rfl, wX2, by decide, wf_X2_9⟩
theorem fl_X2_13 : FL RX2 13 2 1 := ⟨RX2, TX2, 5, rfl, wX2, by decide, wf_X2_13⟩
theorem fl_X2_16 : FL RX2 16 2 2 := ⟨RX2, TX2, 5, rfl, wX2, by decide, wf_X2_16⟩
theorem fl_X2_19 : FL RX2 19 2 3 := ⟨RX2, TX2, 5, rfl, wX2, by decide, wf_X2_19⟩
theorem pl_X2_19 : PL RX2 19 2 3 .int := ⟨RX2, TX2, 5, tyX2, rfl, wX2, tyX2_ok, nmX2, by decide, wf_X2_19, rfl, by decide +kernel⟩
theorem fl_X2_23 : FL RX2 23 2 4 := ⟨RX2, TX2, 5, rfl, wX2, by decide, wf_X2_23⟩
theorem pl_X2_23 : PL RX2 23 2 4 .int := ⟨RX2, TX2, 5, tyX2, rfl, wX2, tyX2_ok, nmX2, by decide, wf_X2_23, rfl, by decide +kernel⟩
theorem fl_X3_11 : FL RX3 11 3 0 := ⟨RX3, TX3, 4, rfl, wX3, by decide, wf_X3_11⟩
theorem fl_X3_15 : FL RX3 15 3 1 := ⟨RX3, TX3, 4, rfl, wX3, by decide, wf_X3_15⟩
theorem fl_X3_18 : FL RX3 18 3 2 := ⟨RX3, TX3, 4, rfl, wX3, by decide, wf_X3_18⟩
theorem fl_X3_25 : FL RX3 25 3 3 := ⟨RX3, TX3, 4, rfl, wX3, by decide, wf_X3_25⟩
theorem pl_X3_25 : PL RX3 25 3 3 .int := ⟨RX3, TX3, 4, tyX3, rfl, wX3, tyX3_ok, nmX3, by decide, wf_X3_25, rfl, by decide +kernel⟩
theorem fl_X4_9 : FL RX4 9 4 0 := ⟨RX4, TX4, 3, rfl, wX4, by decide, wf_X4_9⟩
theorem fl_X4_13 : FL RX4 13 4 1 := ⟨RX4, TX4, 3, rfl, wX4, by decide, wf_X4_13⟩
theorem fl_X4_16 : FL RX4 16 4 2 := ⟨RX4, TX4, 3, rfl, wX4, by decide, wf_X4_16⟩
theorem pl_X4_16 : PL RX4 16 4 2 .int := ⟨RX4, TX4, 3, tyX4, rfl, wX4, tyX4_ok, nmX4, by decide, wf_X4_16, rfl, by decide +kernel⟩
theorem fl_X5_11 : FL RX5 11 5 10 := ⟨RX5, TX5, 16, rfl, wX5, by decide, wf_X5_11⟩
theorem fl_X5_19 : FL RX5 19 5 4 := ⟨RX5, TX5, 16, rfl, wX5, by decide, wf_X5_19⟩
theorem pl_X5_19 : PL RX5 19 5 4 .int := ⟨RX5, TX5, 16, tyX5, rfl, wX5, tyX5_ok, nmX5, by decide, wf_X5_19, rfl, by decide +kernel⟩
theorem fl_X5_23 : FL RX5 23 5 5 := ⟨RX5, TX5, 16, rfl, wX5, by decide, wf_X5_23⟩
theorem pl_X5_23 : PL RX5 23 5 5 .int := ⟨RX5, TX5, 16, tyX5, rfl, wX5, tyX5_ok, nmX5, by decide, wf_X5_23, rfl, by decide +kernel⟩
theorem fl_X5_26 : FL RX5 26 5 6 := ⟨RX5, TX5, 16, rfl, wX5, by decide, wf_X5_26⟩
theorem pl_X5_26 : PL RX5 26 5 6 .int := ⟨RX5, TX5, 16, tyX5, rfl, wX5, tyX5_ok, nmX5, by decide, wf_X5_26, rfl, by decide +kernel⟩
theorem fl_X5_29 : FL RX5 29 5 8 := ⟨RX5, TX5, 16, rfl, wX5, by decide, wf_X5_29⟩
theorem pl_X5_29 : PL RX5 29 5 8 .boolean := ⟨RX5, TX5, 16, tyX5, rfl, wX5, tyX5_ok, nmX5, by decide, wf_X5_29, rfl, by decide +kernel⟩
theorem fl_X5_33 : FL RX5 33 5 9 := ⟨RX5, TX5, 16, rfl, wX5, by decide, wf_X5_33⟩
theorem pl_X5_33 : PL RX5 33 5 9 .boolean := ⟨RX5, TX5, 16, tyX5, rfl, wX5, tyX5_ok, nmX5, by decide, wf_X5_33, rfl, by decide +kernel⟩
theorem fl_X5_36 : FL RX5 36 5 0 := ⟨RX5, TX5, 16, rfl, wX5, by decide, wf_X5_36⟩
theorem pl_X5_36 : PL RX5 36 5 0 .int := ⟨RX5, TX5, 16, tyX5, rfl, wX5, tyX5_ok, nmX5, by decide, wf_X5_36, rfl, by decide +kernel⟩
theorem fl_X5_39 : FL RX5 39 5 1 := ⟨RX5, TX5, 16, rfl, wX5, by decide, wf_X5_39⟩
theorem pl_X5_39 : PL RX5 39 5 1 .int := ⟨RX5, TX5, 16, tyX5, rfl, wX5, tyX5_ok, nmX5, by decide, wf_X5_39, rfl, by decide +kernel⟩
theorem fl_X5_42 : FL RX5 42 5 2 := ⟨RX5, TX5, 16, rfl, wX5, by decide, wf_X5_42⟩
theorem pl_X5_42 : PL RX5 42 5 2 .int := ⟨RX5, TX5, 16, tyX5, rfl, wX5, tyX5_ok, nmX5, by decide, wf_X5_42, rfl, by decide +kernel⟩
theorem fl_X5_45 : FL RX5 45 5 3 := ⟨RX5, TX5, 16, rfl, wX5, by decide, wf_X5_45⟩
theorem pl_X5_45 : PL RX5 45 5 3 .int := ⟨RX5, TX5, 16, tyX5, rfl, wX5, tyX5_ok, nmX5, by decide, wf_X5_45, rfl, by decide +kernel⟩
theorem fl_X5_48 : FL RX5 48 5 7 := ⟨RX5, TX5, 16, rfl, wX5, by decide, wf_X5_48⟩
theorem pl_X5_48 : PL RX5 48 5 7 .int := ⟨RX5, TX5, 16, tyX5, rfl, wX5, tyX5_ok, nmX5, by decide, wf_X5_48, rfl, by decide +kernel⟩
theorem fl_X5_51 : FL RX5 51 5 11 := ⟨RX5, TX5, 16, rfl, wX5, by decide, wf_X5_51⟩
theorem pl_X5_51 : PL RX5 51 5 11 .int := ⟨RX5, TX5, 16, tyX5, rfl, wX5, tyX5_ok, nmX5, by decide, wf_X5_51, rfl, by decide +kernel⟩
theorem fl_X5_54 : FL RX5 54 5 12 := ⟨RX5, TX5, 16, rfl, wX5, by decide, wf_X5_54⟩
theorem pl_X5_54 : PL RX5 54 5 12 .int := ⟨RX5, TX5, 16, tyX5, rfl, wX5, tyX5_ok, nmX5, by decide, wf_X5_54, rfl, by decide +kernel⟩
theorem fl_X5_57 : FL RX5 57 5 13 := ⟨RX5, TX5, 16, rfl, wX5, by decide, wf_X5_57⟩
theorem pl_X5_57 : PL RX5 57 5 13 .int := ⟨RX5, TX5, 16, tyX5, rfl, wX5, tyX5_ok, nmX5, by decide, wf_X5_57, rfl, by decide +kernel⟩
theorem fl_X5_72 : FL RX5 72 5 14 := ⟨RX5, TX5, 16, rfl, wX5, by decide, wf_X5_72⟩
theorem pl_X5_72 : PL RX5 72 5 14 .int := ⟨RX5, TX5, 16, tyX5, rfl, wX5, tyX5_ok, nmX5, by decide, wf_X5_72, rfl, by decide +kernel⟩
theorem fl_X6_10 : FL RX6 10 6 0 := ⟨RX6, TX6, 4, rfl, wX6, by decide, wf_X6_10⟩
theorem fl_X6_16 : FL RX6 16 6 1 := ⟨RX6, TX6, 4, rfl, wX6, by decide, wf_X6_16⟩
theorem fl_X6_19 : FL RX6 19 6 2 := ⟨RX6, TX6, 4, rfl, wX6, by decide, wf_X6_19⟩
theorem fl_X6_23 : FL RX6 23 6 3 := ⟨RX6, TX6, 4, rfl, wX6, by decide, wf_X6_23⟩
theorem pl_X6_23 : PL RX6 23 6 3 .int := ⟨RX6, TX6, 4, tyX6, rfl, wX6, tyX6_ok, nmX6, by decide, wf_X6_23, rfl, by decide +kernel⟩
theorem fl_X6_42 : FL RX6 42 0 5 := ⟨RX0, TX0, 9, rfl, wX0, by decide, wf_X6_42⟩
theorem pl_X6_42 : PL RX6 42 0 5 .int := ⟨RX0, TX0, 9, tyX0, rfl, wX0, tyX0_ok, nmX0, by decide, wf_X6_42, rfl, by decide +kernel⟩
theorem fl_X6_49 : FL RX6 49 0 6 := ⟨RX0, TX0, 9, rfl, wX0, by decide, wf_X6_49⟩
theorem pl_X6_49 : PL RX6 49 0 6 .int := ⟨RX0, TX0, 9, tyX0, rfl, wX0, tyX0_ok, nmX0, by decide, wf_X6_49, rfl, by decide +kernel⟩
theorem fl_X6_59 : FL RX6 59 0 3 := ⟨RX0, TX0, 9, rfl, wX0, by decide, wf_X6_59⟩
theorem fl_X6_77 : FL RX6 77 3 3 := ⟨RX3, TX3, 4, rfl, wX3, by decide, wf_X6_77⟩
theorem pl_X6_77 : PL RX6 77 3 3 .int := ⟨RX3, TX3, 4, tyX3, rfl, wX3, tyX3_ok, nmX3, by decide, wf_X6_77, rfl, by decide +kernel⟩
theorem fl_X6_82 : FL RX6 82 0 8 := ⟨RX0, TX0, 9, rfl, wX0, by decide, wf_X6_82⟩
theorem pl_X6_82 : PL RX6 82 0 8 .int := ⟨RX0, TX0, 9, tyX0, rfl, wX0, tyX0_ok, nmX0, by decide, wf_X6_82, rfl, by decide +kernel⟩
theorem fl_X6_85 : FL RX6 85 0 4 := ⟨RX0, TX0, 9, rfl, wX0, by decide, wf_X6_85⟩
theorem fl_X6_97 : FL RX6 97 0 7 := ⟨RX0, TX0, 9, rfl, wX0, by decide, wf_X6_97⟩
theorem pl_X6_97 : PL RX6 97 0 7 .int := ⟨RX0, TX0, 9, tyX0, rfl, wX0, tyX0_ok, nmX0, by decide, wf_X6_97, rfl, by decide +kernel⟩
theorem fl_X6_103 : FL RX6 103 4 2 := ⟨RX4, TX4, 3, rfl, wX4, by decide, wf_X6_103⟩
theorem pl_X6_103 : PL RX6 103 4 2 .int := ⟨RX4, TX4, 3, tyX4, rfl, wX4, tyX4_ok, nmX4, by decide, wf_X6_103, rfl, by decide +kernel⟩
theorem fl_X6_112 : FL RX6 112 0 1 := ⟨RX0, TX0, 9, rfl, wX0, by decide, wf_X6_112⟩
theorem fl_X6_116 : FL RX6 116 5 9 := ⟨RX5, TX5, 16, rfl, wX5, by decide, wf_X6_116⟩
theorem pl_X6_116 : PL RX6 116 5 9 .boolean := ⟨RX5, TX5, 16, tyX5, rfl, wX5, tyX5_ok, nmX5, by decide, wf_X6_116, rfl, by decide +kernel⟩
theorem fl_X6_122 : FL RX6 122 0 0 := ⟨RX0, TX0, 9, rfl, wX0, by decide, wf_X6_122⟩
theorem fl_X6_126 : FL RX6 126 1 2 := ⟨RX1, TX1, 8, rfl, wX1, by decide, wf_X6_126⟩
theorem pl_X6_126 : PL RX6 126 1 2 .boolean := ⟨RX1, TX1, 8, tyX1, rfl, wX1, tyX1_ok, nmX1, by decide, wf_X6_126, rfl, by decide +kernel⟩
theorem fl_X6_172 : FL RX6 172 0 2 := ⟨RX0, TX0, 9, rfl, wX0, by decide, wf_X6_172⟩
theorem fl_X6_176 : FL RX6 176 2 4 := ⟨RX2, TX2, 5, rfl, wX2, by decide, wf_X6_176⟩
theorem pl_X6_176 : PL RX6 176 2 4 .int := ⟨RX2, TX2, 5, tyX2, rfl, wX2, tyX2_ok, nmX2, by decide, wf_X6_176, rfl, by decide +kernel⟩
theorem fl_X7_7 : FL RX7 7 7 0 := ⟨RX7, TX7, 6, rfl, wX7, by decide, wf_X7_7⟩
theorem fl_X7_13 : FL RX7 13 7 1 := ⟨RX7, TX7, 6, rfl, wX7, by decide, wf_X7_13⟩
theorem fl_X7_16 : FL RX7 16 7 2 := ⟨RX7, TX7, 6, rfl, wX7, by decide, wf_X7_16⟩
theorem fl_X7_22 : FL RX7 22 7 4 := ⟨RX7, TX7, 6, rfl, wX7, by decide, wf_X7_22⟩
theorem pl_X7_22 : PL RX7 22 7 4 .int := ⟨RX7, TX7, 6, tyX7, rfl, wX7, tyX7_ok, nmX7, by decide, wf_X7_22, rfl, by decide +kernel⟩
theorem fl_X7_26 : FL RX7 26 7 3 := ⟨RX7, TX7, 6, rfl, wX7, by decide, wf_X7_26⟩
theorem pl_X7_26 : PL RX7 26 7 3 .int := ⟨RX7, TX7, 6, tyX7, rfl, wX7, tyX7_ok, nmX7, by decide, wf_X7_26, rfl, by decide +kernel⟩
theorem fl_X7_170 : FL RX7 170 7 5 := ⟨RX7, TX7, 6, rfl, wX7, by decide, wf_X7_170⟩
theorem pl_X7_170 : PL RX7 170 7 5 .long := ⟨RX7, TX7, 6, tyX7, rfl, wX7, tyX7_ok, nmX7, by decide, wf_X7_170, rfl, by decide +kernel⟩
theorem sl_J9_floorDiv_7cf53 : SL yJ9_floorDiv_7cf53 cJ9_floorDiv_7cf53 3 (some .int) 2 := ⟨ws_J9_floorDiv_7cf53, wi_RJ9, wc_J9_floorDiv_7cf53, by decide +kernel, by decide +kernel, by decide +kernel⟩
theorem ml_X0_carValue : ML yX0_carValue cX0_carValue 2 (some .int) 1 := ⟨wn_X0_carValue, we_X0_carValue, wi_RX0, wc_X0_carValue, by decide +kernel, by decide +kernel, by decide +kernel⟩
theorem ml_X0_clear : ML yX0_clear cX0_clear 1 none 0 := ⟨wn_X0_clear, we_X0_clear, wi_RX0, wc_X0_clear, by decide +kernel, by decide +kernel, by decide +kernel⟩
theorem ml_X0_copyFrom : ML yX0_copyFrom cX0_copyFrom 2 none 1 := ⟨wn_X0_copyFrom, we_X0_copyFrom, wi_RX0, wc_X0_copyFrom, by decide +kernel, by decide +kernel, by decide +kernel⟩
theorem ml_X0_findGrips : ML yX0_findGrips cX0_findGrips 3 (some .int) 0 := ⟨wn_X0_findGrips, we_X0_findGrips, wi_RX0, wc_X0_findGrips, by decide +kernel, by decide +kernel, by decide +kernel⟩
theorem ml_X0_gripOfWheel : ML yX0_gripOfWheel cX0_gripOfWheel 3 (some .int) 1 := ⟨wn_X0_gripOfWheel, we_X0_gripOfWheel, wi_RX0, wc_X0_gripOfWheel, by decide +kernel, by decide +kernel, by decide +kernel⟩
theorem ml_X0_mixInto : ML yX0_mixInto cX0_mixInto 6 (some .long) 1 := ⟨wn_X0_mixInto, we_X0_mixInto, wi_RX0, wc_X0_mixInto, by decide +kernel, by decide +kernel, by decide +kernel⟩
theorem ml_X0_mixWheel : ML yX0_mixWheel cX0_mixWheel 7 (some .long) 2 := ⟨wn_X0_mixWheel, we_X0_mixWheel, wi_RX0, wc_X0_mixWheel, by decide +kernel, by decide +kernel, by decide +kernel⟩
theorem ml_X0_startAt : ML yX0_startAt cX0_startAt 2 none 1 := ⟨wn_X0_startAt, we_X0_startAt, wi_RX0, wc_X0_startAt, by decide +kernel, by decide +kernel, by decide +kernel⟩
theorem ml_X0_tick : ML yX0_tick cX0_tick 3 none 0 := ⟨wn_X0_tick, we_X0_tick, wi_RX0, wc_X0_tick, by decide +kernel, by decide +kernel, by decide +kernel⟩
theorem ml_X0_tickUntilStill : ML yX0_tickUntilStill cX0_tickUntilStill 2 (some .int) 0 := ⟨wn_X0_tickUntilStill, we_X0_tickUntilStill, wi_RX0, wc_X0_tickUntilStill, by decide +kernel, by decide +kernel, by decide +kernel⟩
theorem ml_X0_wheelValue : ML yX0_wheelValue cX0_wheelValue 4 (some .int) 2 := ⟨wn_X0_wheelValue, we_X0_wheelValue, wi_RX0, wc_X0_wheelValue, by decide +kernel, by decide +kernel, by decide +kernel⟩
theorem ml_X1_act : ML yX1_act cX1_act 3 none 2 := ⟨wn_X1_act, we_X1_act, wi_RX1, wc_X1_act, by decide +kernel, by decide +kernel, by decide +kernel⟩
theorem ml_X1_choosePhases : ML yX1_choosePhases cX1_choosePhases 7 none 1 := ⟨wn_X1_choosePhases, we_X1_choosePhases, wi_RX1, wc_X1_choosePhases, by decide +kernel, by decide +kernel, by decide +kernel⟩
theorem ml_X1_clear : ML yX1_clear cX1_clear 2 none 0 := ⟨wn_X1_clear, we_X1_clear, wi_RX1, wc_X1_clear, by decide +kernel, by decide +kernel, by decide +kernel⟩
theorem ml_X1_copyFrom : ML yX1_copyFrom cX1_copyFrom 3 none 1 := ⟨wn_X1_copyFrom, we_X1_copyFrom, wi_RX1, wc_X1_copyFrom, by decide +kernel, by decide +kernel, by decide +kernel⟩
theorem ml_X1_dump : ML yX1_dump cX1_dump 5 none 2 := ⟨wn_X1_dump, we_X1_dump, wi_RX1, wc_X1_dump, by decide +kernel, by decide +kernel, by decide +kernel⟩
theorem ml_X1_enterPhases : ML yX1_enterPhases cX1_enterPhases 4 none 1 := ⟨wn_X1_enterPhases, we_X1_enterPhases, wi_RX1, wc_X1_enterPhases, by decide +kernel, by decide +kernel, by decide +kernel⟩
theorem ml_X1_estimateSlips : ML yX1_estimateSlips cX1_estimateSlips 2 none 0 := ⟨wn_X1_estimateSlips, we_X1_estimateSlips, wi_RX1, wc_X1_estimateSlips, by decide +kernel, by decide +kernel, by decide +kernel⟩
theorem ml_X1_excludedWheels : ML yX1_excludedWheels cX1_excludedWheels 3 (some .int) 0 := ⟨wn_X1_excludedWheels, we_X1_excludedWheels, wi_RX1, wc_X1_excludedWheels, by decide +kernel, by decide +kernel, by decide +kernel⟩
theorem ml_X1_followReference : ML yX1_followReference cX1_followReference 3 none 0 := ⟨wn_X1_followReference, we_X1_followReference, wi_RX1, wc_X1_followReference, by decide +kernel, by decide +kernel, by decide +kernel⟩
theorem ml_X1_isActive : ML yX1_isActive cX1_isActive 2 (some .boolean) 1 := ⟨wn_X1_isActive, we_X1_isActive, wi_RX1, wc_X1_isActive, by decide +kernel, by decide +kernel, by decide +kernel⟩
theorem ml_X1_isFrontExcluded : ML yX1_isFrontExcluded cX1_isFrontExcluded 1 (some .boolean) 0 := ⟨wn_X1_isFrontExcluded, we_X1_isFrontExcluded, wi_RX1, wc_X1_isFrontExcluded, by decide +kernel, by decide +kernel, by decide +kernel⟩
theorem ml_X1_isRearExcluded : ML yX1_isRearExcluded cX1_isRearExcluded 1 (some .boolean) 0 := ⟨wn_X1_isRearExcluded, we_X1_isRearExcluded, wi_RX1, wc_X1_isRearExcluded, by decide +kernel, by decide +kernel, by decide +kernel⟩
theorem ml_X1_limitYaw : ML yX1_limitYaw cX1_limitYaw 4 none 0 := ⟨wn_X1_limitYaw, we_X1_limitYaw, wi_RX1, wc_X1_limitYaw, by decide +kernel, by decide +kernel, by decide +kernel⟩
theorem ml_X1_measureWheels : ML yX1_measureWheels cX1_measureWheels 2 none 0 := ⟨wn_X1_measureWheels, we_X1_measureWheels, wi_RX1, wc_X1_measureWheels, by decide +kernel, by decide +kernel, by decide +kernel⟩
theorem ml_X1_movePressures : ML yX1_movePressures cX1_movePressures 5 none 2 := ⟨wn_X1_movePressures, we_X1_movePressures, wi_RX1, wc_X1_movePressures, by decide +kernel, by decide +kernel, by decide +kernel⟩
theorem sl_X1_phaseAfter : SL yX1_phaseAfter cX1_phaseAfter 5 (some .int) 2 := ⟨ws_X1_phaseAfter, wi_RX1, wc_X1_phaseAfter, by decide +kernel, by decide +kernel, by decide +kernel⟩
theorem ml_X1_pump : ML yX1_pump cX1_pump 1 none 0 := ⟨wn_X1_pump, we_X1_pump, wi_RX1, wc_X1_pump, by decide +kernel, by decide +kernel, by decide +kernel⟩
theorem ml_X1_selectLow : ML yX1_selectLow cX1_selectLow 4 none 2 := ⟨wn_X1_selectLow, we_X1_selectLow, wi_RX1, wc_X1_selectLow, by decide +kernel, by decide +kernel, by decide +kernel⟩
theorem ml_X1_startAt : ML yX1_startAt cX1_startAt 3 none 1 := ⟨wn_X1_startAt, we_X1_startAt, wi_RX1, wc_X1_startAt, by decide +kernel, by decide +kernel, by decide +kernel⟩
theorem ml_X1_suspect : ML yX1_suspect cX1_suspect 5 none 2 := ⟨wn_X1_suspect, we_X1_suspect, wi_RX1, wc_X1_suspect, by decide +kernel, by decide +kernel, by decide +kernel⟩
theorem ml_X1_suspectWheels : ML yX1_suspectWheels cX1_suspectWheels 3 none 1 := ⟨wn_X1_suspectWheels, we_X1_suspectWheels, wi_RX1, wc_X1_suspectWheels, by decide +kernel, by decide +kernel, by decide +kernel⟩
theorem ml_X1_takeBackWheels : ML yX1_takeBackWheels cX1_takeBackWheels 3 (some .int) 0 := ⟨wn_X1_takeBackWheels, we_X1_takeBackWheels, wi_RX1, wc_X1_takeBackWheels, by decide +kernel, by decide +kernel, by decide +kernel⟩
theorem sl_X1_urgency : SL yX1_urgency cX1_urgency 1 (some .int) 1 := ⟨ws_X1_urgency, wi_RX1, wc_X1_urgency, by decide +kernel, by decide +kernel, by decide +kernel⟩
theorem ml_X2_add : ML yX2_add cX2_add 5 none 3 := ⟨wn_X2_add, we_X2_add, wi_RX2, wc_X2_add, by decide +kernel, by decide +kernel, by decide +kernel⟩
theorem ml_X2_clear : ML yX2_clear cX2_clear 1 none 0 := ⟨wn_X2_clear, we_X2_clear, wi_RX2, wc_X2_clear, by decide +kernel, by decide +kernel, by decide +kernel⟩
theorem ml_X2_copyFrom : ML yX2_copyFrom cX2_copyFrom 2 none 1 := ⟨wn_X2_copyFrom, we_X2_copyFrom, wi_RX2, wc_X2_copyFrom, by decide +kernel, by decide +kernel, by decide +kernel⟩
theorem ml_X2_mixInto : ML yX2_mixInto cX2_mixInto 7 (some .long) 1 := ⟨wn_X2_mixInto, we_X2_mixInto, wi_RX2, wc_X2_mixInto, by decide +kernel, by decide +kernel, by decide +kernel⟩
theorem ml_X2_rowOf : ML yX2_rowOf cX2_rowOf 2 (some .int) 1 := ⟨wn_X2_rowOf, we_X2_rowOf, wi_RX2, wc_X2_rowOf, by decide +kernel, by decide +kernel, by decide +kernel⟩
theorem ml_X2_value : ML yX2_value cX2_value 4 (some .int) 2 := ⟨wn_X2_value, we_X2_value, wi_RX2, wc_X2_value, by decide +kernel, by decide +kernel, by decide +kernel⟩
theorem ml_X3_clear : ML yX3_clear cX3_clear 1 none 0 := ⟨wn_X3_clear, we_X3_clear, wi_RX3, wc_X3_clear, by decide +kernel, by decide +kernel, by decide +kernel⟩
theorem ml_X3_copyFrom : ML yX3_copyFrom cX3_copyFrom 2 none 1 := ⟨wn_X3_copyFrom, we_X3_copyFrom, wi_RX3, wc_X3_copyFrom, by decide +kernel, by decide +kernel, by decide +kernel⟩
theorem ml_X3_dropPassed : ML yX3_dropPassed cX3_dropPassed 3 none 1 := ⟨wn_X3_dropPassed, we_X3_dropPassed, wi_RX3, wc_X3_dropPassed, by decide +kernel, by decide +kernel, by decide +kernel⟩
theorem ml_X3_hasRoomFor : ML yX3_hasRoomFor cX3_hasRoomFor 2 (some .boolean) 1 := ⟨wn_X3_hasRoomFor, we_X3_hasRoomFor, wi_RX3, wc_X3_hasRoomFor, by decide +kernel, by decide +kernel, by decide +kernel⟩
theorem ml_X3_isStart : ML yX3_isStart cX3_isStart 3 (some .boolean) 2 := ⟨wn_X3_isStart, we_X3_isStart, wi_RX3, wc_X3_isStart, by decide +kernel, by decide +kernel, by decide +kernel⟩
theorem ml_X3_mixInto : ML yX3_mixInto cX3_mixInto 6 (some .long) 1 := ⟨wn_X3_mixInto, we_X3_mixInto, wi_RX3, wc_X3_mixInto, by decide +kernel, by decide +kernel, by decide +kernel⟩
theorem ml_X3_placeOf : ML yX3_placeOf cX3_placeOf 3 (some .int) 1 := ⟨wn_X3_placeOf, we_X3_placeOf, wi_RX3, wc_X3_placeOf, by decide +kernel, by decide +kernel, by decide +kernel⟩
theorem ml_X3_present : ML yX3_present cX3_present 3 (some .int) 1 := ⟨wn_X3_present, we_X3_present, wi_RX3, wc_X3_present, by decide +kernel, by decide +kernel, by decide +kernel⟩
theorem ml_X3_put : ML yX3_put cX3_put 5 none 3 := ⟨wn_X3_put, we_X3_put, wi_RX3, wc_X3_put, by decide +kernel, by decide +kernel, by decide +kernel⟩
theorem ml_X3_setRow : ML yX3_setRow cX3_setRow 5 none 4 := ⟨wn_X3_setRow, we_X3_setRow, wi_RX3, wc_X3_setRow, by decide +kernel, by decide +kernel, by decide +kernel⟩
theorem ml_X3_shift : ML yX3_shift cX3_shift 4 none 3 := ⟨wn_X3_shift, we_X3_shift, wi_RX3, wc_X3_shift, by decide +kernel, by decide +kernel, by decide +kernel⟩
theorem ml_X3_surfaceAt : ML yX3_surfaceAt cX3_surfaceAt 4 (some .int) 2 := ⟨wn_X3_surfaceAt, we_X3_surfaceAt, wi_RX3, wc_X3_surfaceAt, by decide +kernel, by decide +kernel, by decide +kernel⟩
theorem ml_X3_value : ML yX3_value cX3_value 3 (some .int) 2 := ⟨wn_X3_value, we_X3_value, wi_RX3, wc_X3_value, by decide +kernel, by decide +kernel, by decide +kernel⟩
theorem ml_X4_clear : ML yX4_clear cX4_clear 1 none 0 := ⟨wn_X4_clear, we_X4_clear, wi_RX4, wc_X4_clear, by decide +kernel, by decide +kernel, by decide +kernel⟩
theorem ml_X4_copyFrom : ML yX4_copyFrom cX4_copyFrom 2 none 1 := ⟨wn_X4_copyFrom, we_X4_copyFrom, wi_RX4, wc_X4_copyFrom, by decide +kernel, by decide +kernel, by decide +kernel⟩
theorem ml_X4_entriesUntil : ML yX4_entriesUntil cX4_entriesUntil 3 (some .int) 1 := ⟨wn_X4_entriesUntil, we_X4_entriesUntil, wi_RX4, wc_X4_entriesUntil, by decide +kernel, by decide +kernel, by decide +kernel⟩
theorem ml_X4_isFull : ML yX4_isFull cX4_isFull 1 (some .boolean) 0 := ⟨wn_X4_isFull, we_X4_isFull, wi_RX4, wc_X4_isFull, by decide +kernel, by decide +kernel, by decide +kernel⟩
theorem ml_X4_mixInto : ML yX4_mixInto cX4_mixInto 6 (some .long) 1 := ⟨wn_X4_mixInto, we_X4_mixInto, wi_RX4, wc_X4_mixInto, by decide +kernel, by decide +kernel, by decide +kernel⟩
theorem ml_X4_put : ML yX4_put cX4_put 4 none 2 := ⟨wn_X4_put, we_X4_put, wi_RX4, wc_X4_put, by decide +kernel, by decide +kernel, by decide +kernel⟩
theorem ml_X4_shift : ML yX4_shift cX4_shift 4 none 3 := ⟨wn_X4_shift, we_X4_shift, wi_RX4, wc_X4_shift, by decide +kernel, by decide +kernel, by decide +kernel⟩
theorem ml_X4_takeDemand : ML yX4_takeDemand cX4_takeDemand 5 (some .int) 2 := ⟨wn_X4_takeDemand, we_X4_takeDemand, wi_RX4, wc_X4_takeDemand, by decide +kernel, by decide +kernel, by decide +kernel⟩
theorem ml_X5_clear : ML yX5_clear cX5_clear 1 none 0 := ⟨wn_X5_clear, we_X5_clear, wi_RX5, wc_X5_clear, by decide +kernel, by decide +kernel, by decide +kernel⟩
theorem ml_X5_copyFrom : ML yX5_copyFrom cX5_copyFrom 2 none 1 := ⟨wn_X5_copyFrom, we_X5_copyFrom, wi_RX5, wc_X5_copyFrom, by decide +kernel, by decide +kernel, by decide +kernel⟩
theorem ml_X5_countLocked : ML yX5_countLocked cX5_countLocked 2 none 1 := ⟨wn_X5_countLocked, we_X5_countLocked, wi_RX5, wc_X5_countLocked, by decide +kernel, by decide +kernel, by decide +kernel⟩
theorem ml_X5_enter : ML yX5_enter cX5_enter 2 none 1 := ⟨wn_X5_enter, we_X5_enter, wi_RX5, wc_X5_enter, by decide +kernel, by decide +kernel, by decide +kernel⟩
theorem ml_X5_estimateSlip : ML yX5_estimateSlip cX5_estimateSlip 3 none 1 := ⟨wn_X5_estimateSlip, we_X5_estimateSlip, wi_RX5, wc_X5_estimateSlip, by decide +kernel, by decide +kernel, by decide +kernel⟩
theorem ml_X5_forgetOldest : ML yX5_forgetOldest cX5_forgetOldest 1 none 0 := ⟨wn_X5_forgetOldest, we_X5_forgetOldest, wi_RX5, wc_X5_forgetOldest, by decide +kernel, by decide +kernel, by decide +kernel⟩
theorem ml_X5_latest : ML yX5_latest cX5_latest 1 (some .int) 0 := ⟨wn_X5_latest, we_X5_latest, wi_RX5, wc_X5_latest, by decide +kernel, by decide +kernel, by decide +kernel⟩
theorem ml_X5_measure : ML yX5_measure cX5_measure 1 none 0 := ⟨wn_X5_measure, we_X5_measure, wi_RX5, wc_X5_measure, by decide +kernel, by decide +kernel, by decide +kernel⟩
theorem ml_X5_movePressure : ML yX5_movePressure cX5_movePressure 2 none 1 := ⟨wn_X5_movePressure, we_X5_movePressure, wi_RX5, wc_X5_movePressure, by decide +kernel, by decide +kernel, by decide +kernel⟩
theorem ml_X5_slip : ML yX5_slip cX5_slip 2 (some .int) 1 := ⟨wn_X5_slip, we_X5_slip, wi_RX5, wc_X5_slip, by decide +kernel, by decide +kernel, by decide +kernel⟩
theorem ml_X5_startAt : ML yX5_startAt cX5_startAt 2 none 1 := ⟨wn_X5_startAt, we_X5_startAt, wi_RX5, wc_X5_startAt, by decide +kernel, by decide +kernel, by decide +kernel⟩
theorem ml_X5_turn : ML yX5_turn cX5_turn 2 none 1 := ⟨wn_X5_turn, we_X5_turn, wi_RX5, wc_X5_turn, by decide +kernel, by decide +kernel, by decide +kernel⟩
theorem ml_X6_addSegment : ML yX6_addSegment cX6_addSegment 4 (some .int) 3 := ⟨wn_X6_addSegment, we_X6_addSegment, wi_RX6, wc_X6_addSegment, by decide +kernel, by decide +kernel, by decide +kernel⟩
theorem sl_X6_asNumber : SL yX6_asNumber cX6_asNumber 1 (some .int) 1 := ⟨ws_X6_asNumber, wi_RX6, wc_X6_asNumber, by decide +kernel, by decide +kernel, by decide +kernel⟩
theorem ml_X6_car : ML yX6_car cX6_car 2 (some .int) 1 := ⟨wn_X6_car, we_X6_car, wi_RX6, wc_X6_car, by decide +kernel, by decide +kernel, by decide +kernel⟩
theorem ml_X6_digest : ML yX6_digest cX6_digest 1 (some .long) 0 := ⟨wn_X6_digest, we_X6_digest, wi_RX6, wc_X6_digest, by decide +kernel, by decide +kernel, by decide +kernel⟩
theorem ml_X6_dropOldestSaved : ML yX6_dropOldestSaved cX6_dropOldestSaved 3 none 0 := ⟨wn_X6_dropOldestSaved, we_X6_dropOldestSaved, wi_RX6, wc_X6_dropOldestSaved, by decide +kernel, by decide +kernel, by decide +kernel⟩
theorem ml_X6_event : ML yX6_event cX6_event 3 (some .int) 2 := ⟨wn_X6_event, we_X6_event, wi_RX6, wc_X6_event, by decide +kernel, by decide +kernel, by decide +kernel⟩
theorem ml_X6_events : ML yX6_events cX6_events 1 (some .int) 0 := ⟨wn_X6_events, we_X6_events, wi_RX6, wc_X6_events, by decide +kernel, by decide +kernel, by decide +kernel⟩
theorem ml_X6_friction : ML yX6_friction cX6_friction 2 (some .int) 1 := ⟨wn_X6_friction, we_X6_friction, wi_RX6, wc_X6_friction, by decide +kernel, by decide +kernel, by decide +kernel⟩
theorem ml_X6_frictionFor : ML yX6_frictionFor cX6_frictionFor 3 (some .int) 2 := ⟨wn_X6_frictionFor, we_X6_frictionFor, wi_RX6, wc_X6_frictionFor, by decide +kernel, by decide +kernel, by decide +kernel⟩
theorem sl_X6_gripFor : SL yX6_gripFor cX6_gripFor 3 (some .int) 2 := ⟨ws_X6_gripFor, wi_RX6, wc_X6_gripFor, by decide +kernel, by decide +kernel, by decide +kernel⟩
theorem sl_X6_isSurface : SL yX6_isSurface cX6_isSurface 1 (some .boolean) 1 := ⟨ws_X6_isSurface, wi_RX6, wc_X6_isSurface, by decide +kernel, by decide +kernel, by decide +kernel⟩
theorem sl_X6_isSurfacePair : SL yX6_isSurfacePair cX6_isSurfacePair 1 (some .boolean) 1 := ⟨ws_X6_isSurfacePair, wi_RX6, wc_X6_isSurfacePair, by decide +kernel, by decide +kernel, by decide +kernel⟩
theorem sl_X6_isWheel : SL yX6_isWheel cX6_isWheel 1 (some .boolean) 1 := ⟨ws_X6_isWheel, wi_RX6, wc_X6_isWheel, by decide +kernel, by decide +kernel, by decide +kernel⟩
theorem sl_X6_isWithin : SL yX6_isWithin cX6_isWithin 3 (some .boolean) 3 := ⟨ws_X6_isWithin, wi_RX6, wc_X6_isWithin, by decide +kernel, by decide +kernel, by decide +kernel⟩
theorem sl_X6_mix : SL yX6_mix cX6_mix 3 (some .long) 2 := ⟨ws_X6_mix, wi_RX6, wc_X6_mix, by decide +kernel, by decide +kernel, by decide +kernel⟩
theorem sl_X6_peakOf : SL yX6_peakOf cX6_peakOf 1 (some .int) 1 := ⟨ws_X6_peakOf, wi_RX6, wc_X6_peakOf, by decide +kernel, by decide +kernel, by decide +kernel⟩
theorem ml_X6_plan : ML yX6_plan cX6_plan 3 (some .int) 2 := ⟨wn_X6_plan, we_X6_plan, wi_RX6, wc_X6_plan, by decide +kernel, by decide +kernel, by decide +kernel⟩
theorem ml_X6_planned : ML yX6_planned cX6_planned 1 (some .int) 0 := ⟨wn_X6_planned, we_X6_planned, wi_RX6, wc_X6_planned, by decide +kernel, by decide +kernel, by decide +kernel⟩
theorem ml_X6_repair : ML yX6_repair cX6_repair 1 (some .int) 0 := ⟨wn_X6_repair, we_X6_repair, wi_RX6, wc_X6_repair, by decide +kernel, by decide +kernel, by decide +kernel⟩
theorem ml_X6_run : ML yX6_run cX6_run 3 (some .int) 1 := ⟨wn_X6_run, we_X6_run, wi_RX6, wc_X6_run, by decide +kernel, by decide +kernel, by decide +kernel⟩
theorem ml_X6_saveState : ML yX6_saveState cX6_saveState 1 none 0 := ⟨wn_X6_saveState, we_X6_saveState, wi_RX6, wc_X6_saveState, by decide +kernel, by decide +kernel, by decide +kernel⟩
theorem ml_X6_segment : ML yX6_segment cX6_segment 3 (some .int) 2 := ⟨wn_X6_segment, we_X6_segment, wi_RX6, wc_X6_segment, by decide +kernel, by decide +kernel, by decide +kernel⟩
theorem ml_X6_segments : ML yX6_segments cX6_segments 1 (some .int) 0 := ⟨wn_X6_segments, we_X6_segments, wi_RX6, wc_X6_segments, by decide +kernel, by decide +kernel, by decide +kernel⟩
theorem ml_X6_setDemand : ML yX6_setDemand cX6_setDemand 3 (some .int) 1 := ⟨wn_X6_setDemand, we_X6_setDemand, wi_RX6, wc_X6_setDemand, by decide +kernel, by decide +kernel, by decide +kernel⟩
theorem ml_X6_setFault : ML yX6_setFault cX6_setFault 4 (some .boolean) 2 := ⟨wn_X6_setFault, we_X6_setFault, wi_RX6, wc_X6_setFault, by decide +kernel, by decide +kernel, by decide +kernel⟩
theorem ml_X6_setOn : ML yX6_setOn cX6_setOn 3 (some .boolean) 1 := ⟨wn_X6_setOn, we_X6_setOn, wi_RX6, wc_X6_setOn, by decide +kernel, by decide +kernel, by decide +kernel⟩
theorem ml_X6_setSpeed : ML yX6_setSpeed cX6_setSpeed 3 (some .int) 1 := ⟨wn_X6_setSpeed, we_X6_setSpeed, wi_RX6, wc_X6_setSpeed, by decide +kernel, by decide +kernel, by decide +kernel⟩
theorem sl_X6_slideShareOf : SL yX6_slideShareOf cX6_slideShareOf 1 (some .int) 1 := ⟨ws_X6_slideShareOf, wi_RX6, wc_X6_slideShareOf, by decide +kernel, by decide +kernel, by decide +kernel⟩
theorem ml_X6_stop : ML yX6_stop cX6_stop 1 (some .int) 0 := ⟨wn_X6_stop, we_X6_stop, wi_RX6, wc_X6_stop, by decide +kernel, by decide +kernel, by decide +kernel⟩
theorem ml_X6_stopDistance : ML yX6_stopDistance cX6_stopDistance 5 (some .int) 4 := ⟨wn_X6_stopDistance, we_X6_stopDistance, wi_RX6, wc_X6_stopDistance, by decide +kernel, by decide +kernel, by decide +kernel⟩
theorem ml_X6_undo : ML yX6_undo cX6_undo 1 (some .int) 0 := ⟨wn_X6_undo, we_X6_undo, wi_RX6, wc_X6_undo, by decide +kernel, by decide +kernel, by decide +kernel⟩
theorem ml_X6_wheel : ML yX6_wheel cX6_wheel 3 (some .int) 2 := ⟨wn_X6_wheel, we_X6_wheel, wi_RX6, wc_X6_wheel, by decide +kernel, by decide +kernel, by decide +kernel⟩
theorem ml_X7_acceleration : ML yX7_acceleration cX7_acceleration 3 (some .int) 1 := ⟨wn_X7_acceleration, we_X7_acceleration, wi_RX7, wc_X7_acceleration, by decide +kernel, by decide +kernel, by decide +kernel⟩
theorem ml_X7_addSegment : ML yX7_addSegment cX7_addSegment 8 (some .int) 3 := ⟨wn_X7_addSegment, we_X7_addSegment, wi_RX7, wc_X7_addSegment, by decide +kernel, by decide +kernel, by decide +kernel⟩
theorem sl_X7_at : SL yX7_at cX7_at 2 (some .int) 2 := ⟨ws_X7_at, wi_RX7, wc_X7_at, by decide +kernel, by decide +kernel, by decide +kernel⟩
theorem ml_X7_becomes : ML yX7_becomes cX7_becomes 3 none 2 := ⟨wn_X7_becomes, we_X7_becomes, wi_RX7, wc_X7_becomes, by decide +kernel, by decide +kernel, by decide +kernel⟩
theorem ml_X7_begins : ML yX7_begins cX7_begins 2 none 0 := ⟨wn_X7_begins, we_X7_begins, wi_RX7, wc_X7_begins, by decide +kernel, by decide +kernel, by decide +kernel⟩
theorem ml_X7_car : ML yX7_car cX7_car 2 (some .int) 1 := ⟨wn_X7_car, we_X7_car, wi_RX7, wc_X7_car, by decide +kernel, by decide +kernel, by decide +kernel⟩
theorem ml_X7_controls : ML yX7_controls cX7_controls 2 none 0 := ⟨wn_X7_controls, we_X7_controls, wi_RX7, wc_X7_controls, by decide +kernel, by decide +kernel, by decide +kernel⟩
theorem ml_X7_digest : ML yX7_digest cX7_digest 3 (some .long) 0 := ⟨wn_X7_digest, we_X7_digest, wi_RX7, wc_X7_digest, by decide +kernel, by decide +kernel, by decide +kernel⟩
theorem ml_X7_dropsSegments : ML yX7_dropsSegments cX7_dropsSegments 3 none 0 := ⟨wn_X7_dropsSegments, we_X7_dropsSegments, wi_RX7, wc_X7_dropsSegments, by decide +kernel, by decide +kernel, by decide +kernel⟩
theorem ml_X7_dumps : ML yX7_dumps cX7_dumps 3 none 1 := ⟨wn_X7_dumps, we_X7_dumps, wi_RX7, wc_X7_dumps, by decide +kernel, by decide +kernel, by decide +kernel⟩
theorem ml_X7_estimated : ML yX7_estimated cX7_estimated 2 (some .int) 1 := ⟨wn_X7_estimated, we_X7_estimated, wi_RX7, wc_X7_estimated, by decide +kernel, by decide +kernel, by decide +kernel⟩
theorem ml_X7_event : ML yX7_event cX7_event 3 (some .int) 2 := ⟨wn_X7_event, we_X7_event, wi_RX7, wc_X7_event, by decide +kernel, by decide +kernel, by decide +kernel⟩
theorem ml_X7_events : ML yX7_events cX7_events 1 (some .int) 0 := ⟨wn_X7_events, we_X7_events, wi_RX7, wc_X7_events, by decide +kernel, by decide +kernel, by decide +kernel⟩
theorem sl_X7_floor : SL yX7_floor cX7_floor 6 (some .int) 2 := ⟨ws_X7_floor, wi_RX7, wc_X7_floor, by decide +kernel, by decide +kernel, by decide +kernel⟩
theorem ml_X7_followsPlan : ML yX7_followsPlan cX7_followsPlan 2 none 0 := ⟨wn_X7_followsPlan, we_X7_followsPlan, wi_RX7, wc_X7_followsPlan, by decide +kernel, by decide +kernel, by decide +kernel⟩
theorem ml_X7_friction : ML yX7_friction cX7_friction 2 (some .int) 1 := ⟨wn_X7_friction, we_X7_friction, wi_RX7, wc_X7_friction, by decide +kernel, by decide +kernel, by decide +kernel⟩
theorem ml_X7_frictionAt : ML yX7_frictionAt cX7_frictionAt 2 (some .int) 1 := ⟨wn_X7_frictionAt, we_X7_frictionAt, wi_RX7, wc_X7_frictionAt, by decide +kernel, by decide +kernel, by decide +kernel⟩
theorem ml_X7_frictionFor : ML yX7_frictionFor cX7_frictionFor 3 (some .int) 2 := ⟨wn_X7_frictionFor, we_X7_frictionFor, wi_RX7, wc_X7_frictionFor, by decide +kernel, by decide +kernel, by decide +kernel⟩
theorem sl_X7_frictionOf : SL yX7_frictionOf cX7_frictionOf 4 (some .int) 2 := ⟨ws_X7_frictionOf, wi_RX7, wc_X7_frictionOf, by decide +kernel, by decide +kernel, by decide +kernel⟩
theorem ml_X7_get : ML yX7_get cX7_get 3 (some .int) 2 := ⟨wn_X7_get, we_X7_get, wi_RX7, wc_X7_get, by decide +kernel, by decide +kernel, by decide +kernel⟩
theorem sl_X7_greater : SL yX7_greater cX7_greater 2 (some .int) 2 := ⟨ws_X7_greater, wi_RX7, wc_X7_greater, by decide +kernel, by decide +kernel, by decide +kernel⟩
theorem ml_X7_isActive : ML yX7_isActive cX7_isActive 1 (some .boolean) 0 := ⟨wn_X7_isActive, we_X7_isActive, wi_RX7, wc_X7_isActive, by decide +kernel, by decide +kernel, by decide +kernel⟩
theorem ml_X7_isAxleOut : ML yX7_isAxleOut cX7_isAxleOut 3 (some .boolean) 1 := ⟨wn_X7_isAxleOut, we_X7_isAxleOut, wi_RX7, wc_X7_isAxleOut, by decide +kernel, by decide +kernel, by decide +kernel⟩
theorem ml_X7_isControlled : ML yX7_isControlled cX7_isControlled 2 (some .boolean) 1 := ⟨wn_X7_isControlled, we_X7_isControlled, wi_RX7, wc_X7_isControlled, by decide +kernel, by decide +kernel, by decide +kernel⟩
theorem sl_X7_isSurface : SL yX7_isSurface cX7_isSurface 1 (some .boolean) 1 := ⟨ws_X7_isSurface, wi_RX7, wc_X7_isSurface, by decide +kernel, by decide +kernel, by decide +kernel⟩
theorem sl_X7_isWheel : SL yX7_isWheel cX7_isWheel 1 (some .boolean) 1 := ⟨ws_X7_isWheel, wi_RX7, wc_X7_isWheel, by decide +kernel, by decide +kernel, by decide +kernel⟩
theorem sl_X7_lesser : SL yX7_lesser cX7_lesser 2 (some .int) 2 := ⟨ws_X7_lesser, wi_RX7, wc_X7_lesser, by decide +kernel, by decide +kernel, by decide +kernel⟩
theorem ml_X7_logs : ML yX7_logs cX7_logs 4 none 2 := ⟨wn_X7_logs, we_X7_logs, wi_RX7, wc_X7_logs, by decide +kernel, by decide +kernel, by decide +kernel⟩
theorem ml_X7_measured : ML yX7_measured cX7_measured 2 (some .int) 1 := ⟨wn_X7_measured, we_X7_measured, wi_RX7, wc_X7_measured, by decide +kernel, by decide +kernel, by decide +kernel⟩
theorem ml_X7_measures : ML yX7_measures cX7_measures 3 none 1 := ⟨wn_X7_measures, we_X7_measures, wi_RX7, wc_X7_measures, by decide +kernel, by decide +kernel, by decide +kernel⟩
theorem ml_X7_mix : ML yX7_mix cX7_mix 2 none 1 := ⟨wn_X7_mix, we_X7_mix, wi_RX7, wc_X7_mix, by decide +kernel, by decide +kernel, by decide +kernel⟩
theorem ml_X7_mixAll : ML yX7_mixAll cX7_mixAll 4 none 2 := ⟨wn_X7_mixAll, we_X7_mixAll, wi_RX7, wc_X7_mixAll, by decide +kernel, by decide +kernel, by decide +kernel⟩
theorem ml_X7_nextOf : ML yX7_nextOf cX7_nextOf 5 (some .int) 1 := ⟨wn_X7_nextOf, we_X7_nextOf, wi_RX7, wc_X7_nextOf, by decide +kernel, by decide +kernel, by decide +kernel⟩
theorem ml_X7_outs : ML yX7_outs cX7_outs 1 (some .int) 0 := ⟨wn_X7_outs, we_X7_outs, wi_RX7, wc_X7_outs, by decide +kernel, by decide +kernel, by decide +kernel⟩
theorem ml_X7_phases : ML yX7_phases cX7_phases 5 none 0 := ⟨wn_X7_phases, we_X7_phases, wi_RX7, wc_X7_phases, by decide +kernel, by decide +kernel, by decide +kernel⟩
theorem ml_X7_plan : ML yX7_plan cX7_plan 6 (some .int) 2 := ⟨wn_X7_plan, we_X7_plan, wi_RX7, wc_X7_plan, by decide +kernel, by decide +kernel, by decide +kernel⟩
theorem ml_X7_planned : ML yX7_planned cX7_planned 1 (some .int) 0 := ⟨wn_X7_planned, we_X7_planned, wi_RX7, wc_X7_planned, by decide +kernel, by decide +kernel, by decide +kernel⟩
theorem ml_X7_present : ML yX7_present cX7_present 3 (some .int) 0 := ⟨wn_X7_present, we_X7_present, wi_RX7, wc_X7_present, by decide +kernel, by decide +kernel, by decide +kernel⟩
theorem ml_X7_presses : ML yX7_presses cX7_presses 4 none 1 := ⟨wn_X7_presses, we_X7_presses, wi_RX7, wc_X7_presses, by decide +kernel, by decide +kernel, by decide +kernel⟩
theorem sl_X7_rank : SL yX7_rank cX7_rank 1 (some .int) 1 := ⟨ws_X7_rank, wi_RX7, wc_X7_rank, by decide +kernel, by decide +kernel, by decide +kernel⟩
theorem ml_X7_refers : ML yX7_refers cX7_refers 3 none 0 := ⟨wn_X7_refers, we_X7_refers, wi_RX7, wc_X7_refers, by decide +kernel, by decide +kernel, by decide +kernel⟩
theorem ml_X7_refused : ML yX7_refused cX7_refused 2 (some .boolean) 1 := ⟨wn_X7_refused, we_X7_refused, wi_RX7, wc_X7_refused, by decide +kernel, by decide +kernel, by decide +kernel⟩
theorem ml_X7_repair : ML yX7_repair cX7_repair 3 (some .int) 0 := ⟨wn_X7_repair, we_X7_repair, wi_RX7, wc_X7_repair, by decide +kernel, by decide +kernel, by decide +kernel⟩
theorem ml_X7_run : ML yX7_run cX7_run 3 (some .int) 1 := ⟨wn_X7_run, we_X7_run, wi_RX7, wc_X7_run, by decide +kernel, by decide +kernel, by decide +kernel⟩
theorem ml_X7_saves : ML yX7_saves cX7_saves 2 none 0 := ⟨wn_X7_saves, we_X7_saves, wi_RX7, wc_X7_saves, by decide +kernel, by decide +kernel, by decide +kernel⟩
theorem ml_X7_segment : ML yX7_segment cX7_segment 3 (some .int) 2 := ⟨wn_X7_segment, we_X7_segment, wi_RX7, wc_X7_segment, by decide +kernel, by decide +kernel, by decide +kernel⟩
theorem ml_X7_segments : ML yX7_segments cX7_segments 1 (some .int) 0 := ⟨wn_X7_segments, we_X7_segments, wi_RX7, wc_X7_segments, by decide +kernel, by decide +kernel, by decide +kernel⟩
theorem ml_X7_setDemand : ML yX7_setDemand cX7_setDemand 3 (some .int) 1 := ⟨wn_X7_setDemand, we_X7_setDemand, wi_RX7, wc_X7_setDemand, by decide +kernel, by decide +kernel, by decide +kernel⟩
theorem ml_X7_setFault : ML yX7_setFault cX7_setFault 4 (some .boolean) 2 := ⟨wn_X7_setFault, we_X7_setFault, wi_RX7, wc_X7_setFault, by decide +kernel, by decide +kernel, by decide +kernel⟩
theorem ml_X7_setOn : ML yX7_setOn cX7_setOn 3 (some .boolean) 1 := ⟨wn_X7_setOn, we_X7_setOn, wi_RX7, wc_X7_setOn, by decide +kernel, by decide +kernel, by decide +kernel⟩
theorem ml_X7_setSpeed : ML yX7_setSpeed cX7_setSpeed 3 (some .int) 1 := ⟨wn_X7_setSpeed, we_X7_setSpeed, wi_RX7, wc_X7_setSpeed, by decide +kernel, by decide +kernel, by decide +kernel⟩
theorem ml_X7_sets : ML yX7_sets cX7_sets 4 none 3 := ⟨wn_X7_sets, we_X7_sets, wi_RX7, wc_X7_sets, by decide +kernel, by decide +kernel, by decide +kernel⟩
theorem ml_X7_slipOf : ML yX7_slipOf cX7_slipOf 2 (some .int) 1 := ⟨wn_X7_slipOf, we_X7_slipOf, wi_RX7, wc_X7_slipOf, by decide +kernel, by decide +kernel, by decide +kernel⟩
theorem ml_X7_speeds : ML yX7_speeds cX7_speeds 3 none 1 := ⟨wn_X7_speeds, we_X7_speeds, wi_RX7, wc_X7_speeds, by decide +kernel, by decide +kernel, by decide +kernel⟩
theorem ml_X7_stop : ML yX7_stop cX7_stop 1 (some .int) 0 := ⟨wn_X7_stop, we_X7_stop, wi_RX7, wc_X7_stop, by decide +kernel, by decide +kernel, by decide +kernel⟩
theorem ml_X7_stopDistance : ML yX7_stopDistance cX7_stopDistance 8 (some .int) 4 := ⟨wn_X7_stopDistance, we_X7_stopDistance, wi_RX7, wc_X7_stopDistance, by decide +kernel, by decide +kernel, by decide +kernel⟩
theorem ml_X7_stops : ML yX7_stops cX7_stops 2 (some .int) 0 := ⟨wn_X7_stops, we_X7_stops, wi_RX7, wc_X7_stops, by decide +kernel, by decide +kernel, by decide +kernel⟩
theorem ml_X7_suspects : ML yX7_suspects cX7_suspects 2 none 1 := ⟨wn_X7_suspects, we_X7_suspects, wi_RX7, wc_X7_suspects, by decide +kernel, by decide +kernel, by decide +kernel⟩
theorem ml_X7_tellCar : ML yX7_tellCar cX7_tellCar 2 (some .int) 1 := ⟨wn_X7_tellCar, we_X7_tellCar, wi_RX7, wc_X7_tellCar, by decide +kernel, by decide +kernel, by decide +kernel⟩
theorem ml_X7_tellWheel : ML yX7_tellWheel cX7_tellWheel 3 (some .int) 2 := ⟨wn_X7_tellWheel, we_X7_tellWheel, wi_RX7, wc_X7_tellWheel, by decide +kernel, by decide +kernel, by decide +kernel⟩
theorem ml_X7_thrown : ML yX7_thrown cX7_thrown 1 (some .int) 0 := ⟨wn_X7_thrown, we_X7_thrown, wi_RX7, wc_X7_thrown, by decide +kernel, by decide +kernel, by decide +kernel⟩
theorem ml_X7_tickOn : ML yX7_tickOn cX7_tickOn 8 none 0 := ⟨wn_X7_tickOn, we_X7_tickOn, wi_RX7, wc_X7_tickOn, by decide +kernel, by decide +kernel, by decide +kernel⟩
theorem ml_X7_undo : ML yX7_undo cX7_undo 2 (some .int) 0 := ⟨wn_X7_undo, we_X7_undo, wi_RX7, wc_X7_undo, by decide +kernel, by decide +kernel, by decide +kernel⟩
theorem ml_X7_wheel : ML yX7_wheel cX7_wheel 3 (some .int) 2 := ⟨wn_X7_wheel, we_X7_wheel, wi_RX7, wc_X7_wheel, by decide +kernel, by decide +kernel, by decide +kernel⟩
theorem sl_X7_within : SL yX7_within cX7_within 3 (some .boolean) 3 := ⟨ws_X7_within, wi_RX7, wc_X7_within, by decide +kernel, by decide +kernel, by decide +kernel⟩
theorem ml_X7_yaws : ML yX7_yaws cX7_yaws 3 none 0 := ⟨wn_X7_yaws, we_X7_yaws, wi_RX7, wc_X7_yaws, by decide +kernel, by decide +kernel, by decide +kernel⟩

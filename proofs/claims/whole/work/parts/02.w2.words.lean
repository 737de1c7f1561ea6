theorem co_yX7_goes : Cond.code yX7_goes cX7_goes 3 none ∈ WS := WS_in (tb_5 (List.mem_of_getElem? (i := 52) (by decide +kernel))) rfl
theorem mk_L_79 : Cond.methodLink RL 79 yX7_loose ∈ WS := WS_in (tb_5 (List.mem_of_getElem? (i := 53) (by decide +kernel))) rfl
theorem im_yX7_loose : Cond.instanceMethod yX7_loose ∈ WS := WS_in (tb_5 (List.mem_of_getElem? (i := 54) (by decide +kernel))) rfl
theorem se_yX7_loose : Cond.selects RX7 yX7_loose yX7_loose ∈ WS := WS_in (tb_5 (List.mem_of_getElem? (i := 55) (by decide +kernel))) rfl
theorem co_yX7_loose : Cond.code yX7_loose cX7_loose 4 (some .int) ∈ WS := WS_in (tb_5 (List.mem_of_getElem? (i := 56) (by decide +kernel))) rfl
theorem mk_X7_183 : Cond.methodLink RX7 183 yX7_drawn ∈ WS := WS_in (tb_5 (List.mem_of_getElem? (i := 57) (by decide +kernel))) rfl
theorem im_yX7_drawn : Cond.instanceMethod yX7_drawn ∈ WS := WS_in (tb_5 (List.mem_of_getElem? (i := 59) (by decide +kernel))) rfl
theorem co_yX7_drawn : Cond.code yX7_drawn cX7_drawn 4 (some .int) ∈ WS := WS_in (tb_5 (List.mem_of_getElem? (i := 60) (by decide +kernel))) rfl
theorem mk_X7_180 : Cond.methodLink RX7 180 yX7_draw ∈ WS := WS_in (tb_5 (List.mem_of_getElem? (i := 61) (by decide +kernel))) rfl
theorem im_yX7_draw : Cond.instanceMethod yX7_draw ∈ WS := WS_in (tb_5 (List.mem_of_getElem? (i := 63) (by decide +kernel))) rfl
theorem co_yX7_draw : Cond.code yX7_draw cX7_draw 1 (some .int) ∈ WS := WS_in (tb_5 (List.mem_of_getElem? (i := 64) (by decide +kernel))) rfl
theorem kn_X7_179 : Cond.constant RX7 179 1103515245 ∈ WS := WS_in (tb_5 (List.mem_of_getElem? (i := 65) (by decide +kernel))) rfl
theorem mk_L_83 : Cond.methodLink RL 83 yX7_seed ∈ WS := WS_in (tb_5 (List.mem_of_getElem? (i := 66) (by decide +kernel))) rfl
theorem im_yX7_seed : Cond.instanceMethod yX7_seed ∈ WS := WS_in (tb_5 (List.mem_of_getElem? (i := 67) (by decide +kernel))) rfl
theorem se_yX7_seed : Cond.selects RX7 yX7_seed yX7_seed ∈ WS := WS_in (tb_5 (List.mem_of_getElem? (i := 68) (by decide +kernel))) rfl
theorem co_yX7_seed : Cond.code yX7_seed cX7_seed 2 (some .int) ∈ WS := WS_in (tb_5 (List.mem_of_getElem? (i := 69) (by decide +kernel))) rfl
theorem mk_L_87 : Cond.methodLink RL 87 yX7_joined ∈ WS := WS_in (tb_5 (List.mem_of_getElem? (i := 70) (by decide +kernel))) rfl
theorem im_yX7_joined : Cond.instanceMethod yX7_joined ∈ WS := WS_in (tb_5 (List.mem_of_getElem? (i := 71) (by decide +kernel))) rfl
theorem se_yX7_joined : Cond.selects RX7 yX7_joined yX7_joined ∈ WS := WS_in (tb_5 (List.mem_of_getElem? (i := 72) (by decide +kernel))) rfl
theorem co_yX7_joined : Cond.code yX7_joined cX7_joined 3 (some .int) ∈ WS := WS_in (tb_5 (List.mem_of_getElem? (i := 73) (by decide +kernel))) rfl
theorem mk_X7_189 : Cond.methodLink RX7 189 yX7_findBearing ∈ WS := WS_in (tb_5 (List.mem_of_getElem? (i := 74) (by decide +kernel))) rfl
theorem im_yX7_findBearing : Cond.instanceMethod yX7_findBearing ∈ WS := WS_in (tb_5 (List.mem_of_getElem? (i := 76) (by decide +kernel))) rfl
theorem co_yX7_findBearing : Cond.code yX7_findBearing cX7_findBearing 2 none ∈ WS := WS_in (tb_5 (List.mem_of_getElem? (i := 77) (by decide +kernel))) rfl
theorem mk_X7_186 : Cond.methodLink RX7 186 yX7_joinedBy ∈ WS := WS_in (tb_5 (List.mem_of_getElem? (i := 78) (by decide +kernel))) rfl
theorem im_yX7_joinedBy : Cond.instanceMethod yX7_joinedBy ∈ WS := WS_in (tb_5 (List.mem_of_getElem? (i := 80) (by decide +kernel))) rfl
theorem co_yX7_joinedBy : Cond.code yX7_joinedBy cX7_joinedBy 7 (some .int) ∈ WS := WS_in (tb_5 (List.mem_of_getElem? (i := 81) (by decide +kernel))) rfl
theorem mk_L_91 : Cond.methodLink RL 91 yX7_load ∈ WS := WS_in (tb_5 (List.mem_of_getElem? (i := 82) (by decide +kernel))) rfl
theorem im_yX7_load : Cond.instanceMethod yX7_load ∈ WS := WS_in (tb_5 (List.mem_of_getElem? (i := 83) (by decide +kernel))) rfl
theorem se_yX7_load : Cond.selects RX7 yX7_load yX7_load ∈ WS := WS_in (tb_5 (List.mem_of_getElem? (i := 84) (by decide +kernel))) rfl
theorem co_yX7_load : Cond.code yX7_load cX7_load 4 (some .int) ∈ WS := WS_in (tb_5 (List.mem_of_getElem? (i := 85) (by decide +kernel))) rfl
theorem mk_X7_192 : Cond.methodLink RX7 192 yX7_areJoinedBy ∈ WS := WS_in (tb_5 (List.mem_of_getElem? (i := 86) (by decide +kernel))) rfl
theorem im_yX7_areJoinedBy : Cond.instanceMethod yX7_areJoinedBy ∈ WS := WS_in (tb_5 (List.mem_of_getElem? (i := 88) (by decide +kernel))) rfl
theorem co_yX7_areJoinedBy : Cond.code yX7_areJoinedBy cX7_areJoinedBy 4 (some .boolean) ∈ WS := WS_in (tb_5 (List.mem_of_getElem? (i := 89) (by decide +kernel))) rfl
theorem kn_X7_195 : Cond.constant RX7 195 (-1000000002) ∈ WS := WS_in (tb_5 (List.mem_of_getElem? (i := 90) (by decide +kernel))) rfl
theorem mk_L_95 : Cond.methodLink RL 95 yX7_baking ∈ WS := WS_in (tb_5 (List.mem_of_getElem? (i := 91) (by decide +kernel))) rfl
theorem im_yX7_baking : Cond.instanceMethod yX7_baking ∈ WS := WS_in (tb_5 (List.mem_of_getElem? (i := 92) (by decide +kernel))) rfl
theorem se_yX7_baking : Cond.selects RX7 yX7_baking yX7_baking ∈ WS := WS_in (tb_5 (List.mem_of_getElem? (i := 93) (by decide +kernel))) rfl
theorem co_yX7_baking : Cond.code yX7_baking cX7_baking 10 (some .int) ∈ WS := WS_in (tb_5 (List.mem_of_getElem? (i := 94) (by decide +kernel))) rfl
theorem mk_X7_196 : Cond.methodLink RX7 196 yX7_flourFor ∈ WS := WS_in (tb_5 (List.mem_of_getElem? (i := 95) (by decide +kernel))) rfl
theorem im_yX7_flourFor : Cond.instanceMethod yX7_flourFor ∈ WS := WS_in (tb_5 (List.mem_of_getElem? (i := 97) (by decide +kernel))) rfl
theorem co_yX7_flourFor : Cond.code yX7_flourFor cX7_flourFor 4 (some .int) ∈ WS := WS_in (tb_5 (List.mem_of_getElem? (i := 98) (by decide +kernel))) rfl
theorem mk_L_99 : Cond.methodLink RL 99 yX7_eating ∈ WS := WS_in (tb_5 (List.mem_of_getElem? (i := 99) (by decide +kernel))) rfl
theorem im_yX7_eating : Cond.instanceMethod yX7_eating ∈ WS := WS_in (tb_5 (List.mem_of_getElem? (i := 100) (by decide +kernel))) rfl
theorem se_yX7_eating : Cond.selects RX7 yX7_eating yX7_eating ∈ WS := WS_in (tb_5 (List.mem_of_getElem? (i := 101) (by decide +kernel))) rfl
theorem co_yX7_eating : Cond.code yX7_eating cX7_eating 8 (some .int) ∈ WS := WS_in (tb_5 (List.mem_of_getElem? (i := 102) (by decide +kernel))) rfl
theorem mk_X7_199 : Cond.methodLink RX7 199 yX7_bits ∈ WS := WS_in (tb_5 (List.mem_of_getElem? (i := 103) (by decide +kernel))) rfl
theorem st_yX7_bits : Cond.static yX7_bits ∈ WS := WS_in (tb_5 (List.mem_of_getElem? (i := 104) (by decide +kernel))) rfl
theorem co_yX7_bits : Cond.code yX7_bits cX7_bits 3 (some .int) ∈ WS := WS_in (tb_5 (List.mem_of_getElem? (i := 105) (by decide +kernel))) rfl
theorem mk_L_103 : Cond.methodLink RL 103 yX7_lasts ∈ WS := WS_in (tb_5 (List.mem_of_getElem? (i := 106) (by decide +kernel))) rfl
theorem im_yX7_lasts : Cond.instanceMethod yX7_lasts ∈ WS := WS_in (tb_5 (List.mem_of_getElem? (i := 107) (by decide +kernel))) rfl
theorem se_yX7_lasts : Cond.selects RX7 yX7_lasts yX7_lasts ∈ WS := WS_in (tb_5 (List.mem_of_getElem? (i := 108) (by decide +kernel))) rfl
theorem co_yX7_lasts : Cond.code yX7_lasts cX7_lasts 5 (some .int) ∈ WS := WS_in (tb_5 (List.mem_of_getElem? (i := 109) (by decide +kernel))) rfl
theorem mk_X7_202 : Cond.methodLink RX7 202 yX7_thinks ∈ WS := WS_in (tb_5 (List.mem_of_getElem? (i := 110) (by decide +kernel))) rfl
theorem im_yX7_thinks : Cond.instanceMethod yX7_thinks ∈ WS := WS_in (tb_5 (List.mem_of_getElem? (i := 112) (by decide +kernel))) rfl
theorem co_yX7_thinks : Cond.code yX7_thinks cX7_thinks 1 none ∈ WS := WS_in (tb_5 (List.mem_of_getElem? (i := 113) (by decide +kernel))) rfl
theorem mk_X7_50 : Cond.methodLink RX7 50 yX7_copyAll ∈ WS := WS_in (tb_5 (List.mem_of_getElem? (i := 114) (by decide +kernel))) rfl
theorem st_yX7_copyAll : Cond.static yX7_copyAll ∈ WS := WS_in (tb_5 (List.mem_of_getElem? (i := 115) (by decide +kernel))) rfl
theorem co_yX7_copyAll : Cond.code yX7_copyAll cX7_copyAll 3 none ∈ WS := WS_in (tb_5 (List.mem_of_getElem? (i := 116) (by decide +kernel))) rfl
theorem mk_X7_205 : Cond.methodLink RX7 205 yX7_areJoined ∈ WS := WS_in (tb_5 (List.mem_of_getElem? (i := 117) (by decide +kernel))) rfl
theorem im_yX7_areJoined : Cond.instanceMethod yX7_areJoined ∈ WS := WS_in (tb_5 (List.mem_of_getElem? (i := 119) (by decide +kernel))) rfl
theorem co_yX7_areJoined : Cond.code yX7_areJoined cX7_areJoined 4 (some .boolean) ∈ WS := WS_in (tb_5 (List.mem_of_getElem? (i := 120) (by decide +kernel))) rfl
theorem mk_X7_208 : Cond.methodLink RX7 208 yX7_putsBack ∈ WS := WS_in (tb_5 (List.mem_of_getElem? (i := 121) (by decide +kernel))) rfl
theorem im_yX7_putsBack : Cond.instanceMethod yX7_putsBack ∈ WS := WS_in (tb_5 (List.mem_of_getElem? (i := 123) (by decide +kernel))) rfl
theorem co_yX7_putsBack : Cond.code yX7_putsBack cX7_putsBack 1 none ∈ WS := WS_in (tb_5 (List.mem_of_getElem? (i := 124) (by decide +kernel))) rfl
theorem mk_L_107 : Cond.methodLink RL 107 yX7_then ∈ WS := WS_in (tb_5 (List.mem_of_getElem? (i := 125) (by decide +kernel))) rfl
theorem im_yX7_then : Cond.instanceMethod yX7_then ∈ WS := WS_in (tb_5 (List.mem_of_getElem? (i := 126) (by decide +kernel))) rfl
theorem se_yX7_then : Cond.selects RX7 yX7_then yX7_then ∈ WS := WS_in (tb_5 (List.mem_of_getElem? (i := 127) (by decide +kernel))) rfl
theorem co_yX7_then : Cond.code yX7_then cX7_then 4 (some .int) ∈ WS := WS_in (tb_5 (List.mem_of_getElem? (i := 128) (by decide +kernel))) rfl
theorem mk_L_111 : Cond.methodLink RL 111 yX7_odds ∈ WS := WS_in (tb_5 (List.mem_of_getElem? (i := 129) (by decide +kernel))) rfl
theorem im_yX7_odds : Cond.instanceMethod yX7_odds ∈ WS := WS_in (tb_5 (List.mem_of_getElem? (i := 130) (by decide +kernel))) rfl
theorem se_yX7_odds : Cond.selects RX7 yX7_odds yX7_odds ∈ WS := WS_in (tb_5 (List.mem_of_getElem? (i := 131) (by decide +kernel))) rfl
theorem co_yX7_odds : Cond.code yX7_odds cX7_odds 8 (some .int) ∈ WS := WS_in (tb_5 (List.mem_of_getElem? (i := 132) (by decide +kernel))) rfl
theorem mk_L_115 : Cond.methodLink RL 115 yX7_fits ∈ WS := WS_in (tb_5 (List.mem_of_getElem? (i := 133) (by decide +kernel))) rfl
theorem im_yX7_fits : Cond.instanceMethod yX7_fits ∈ WS := WS_in (tb_5 (List.mem_of_getElem? (i := 134) (by decide +kernel))) rfl
theorem se_yX7_fits : Cond.selects RX7 yX7_fits yX7_fits ∈ WS := WS_in (tb_5 (List.mem_of_getElem? (i := 135) (by decide +kernel))) rfl
theorem co_yX7_fits : Cond.code yX7_fits cX7_fits 4 (some .int) ∈ WS := WS_in (tb_5 (List.mem_of_getElem? (i := 136) (by decide +kernel))) rfl
theorem mk_X7_211 : Cond.methodLink RX7 211 yX7_notThere ∈ WS := WS_in (tb_5 (List.mem_of_getElem? (i := 137) (by decide +kernel))) rfl
theorem im_yX7_notThere : Cond.instanceMethod yX7_notThere ∈ WS := WS_in (tb_5 (List.mem_of_getElem? (i := 139) (by decide +kernel))) rfl
theorem co_yX7_notThere : Cond.code yX7_notThere cX7_notThere 2 (some .int) ∈ WS := WS_in (tb_5 (List.mem_of_getElem? (i := 140) (by decide +kernel))) rfl
theorem mk_X7_257 : Cond.methodLink RX7 257 yX7_isSheet ∈ WS := WS_in (tb_5 (List.mem_of_getElem? (i := 141) (by decide +kernel))) rfl
theorem st_yX7_isSheet : Cond.static yX7_isSheet ∈ WS := WS_in (tb_5 (List.mem_of_getElem? (i := 142) (by decide +kernel))) rfl
theorem co_yX7_isSheet : Cond.code yX7_isSheet cX7_isSheet 1 (some .boolean) ∈ WS := WS_in (tb_5 (List.mem_of_getElem? (i := 143) (by decide +kernel))) rfl
theorem mk_X7_214 : Cond.methodLink RX7 214 yX7_rightOf ∈ WS := WS_in (tb_5 (List.mem_of_getElem? (i := 144) (by decide +kernel))) rfl
theorem im_yX7_rightOf : Cond.instanceMethod yX7_rightOf ∈ WS := WS_in (tb_5 (List.mem_of_getElem? (i := 146) (by decide +kernel))) rfl
theorem co_yX7_rightOf : Cond.code yX7_rightOf cX7_rightOf 3 (some .int) ∈ WS := WS_in (tb_5 (List.mem_of_getElem? (i := 147) (by decide +kernel))) rfl
theorem mk_L_119 : Cond.methodLink RL 119 yX7_voice ∈ WS := WS_in (tb_5 (List.mem_of_getElem? (i := 148) (by decide +kernel))) rfl
theorem im_yX7_voice : Cond.instanceMethod yX7_voice ∈ WS := WS_in (tb_5 (List.mem_of_getElem? (i := 149) (by decide +kernel))) rfl
theorem se_yX7_voice : Cond.selects RX7 yX7_voice yX7_voice ∈ WS := WS_in (tb_5 (List.mem_of_getElem? (i := 150) (by decide +kernel))) rfl
theorem co_yX7_voice : Cond.code yX7_voice cX7_voice 5 (some .int) ∈ WS := WS_in (tb_5 (List.mem_of_getElem? (i := 151) (by decide +kernel))) rfl
theorem mk_X7_229 : Cond.methodLink RX7 229 yX7_crusts ∈ WS := WS_in (tb_5 (List.mem_of_getElem? (i := 152) (by decide +kernel))) rfl
theorem im_yX7_crusts : Cond.instanceMethod yX7_crusts ∈ WS := WS_in (tb_5 (List.mem_of_getElem? (i := 154) (by decide +kernel))) rfl
theorem co_yX7_crusts : Cond.code yX7_crusts cX7_crusts 3 (some .int) ∈ WS := WS_in (tb_5 (List.mem_of_getElem? (i := 155) (by decide +kernel))) rfl
theorem mk_X7_226 : Cond.methodLink RX7 226 yX7_ryeCrusts ∈ WS := WS_in (tb_5 (List.mem_of_getElem? (i := 156) (by decide +kernel))) rfl
theorem im_yX7_ryeCrusts : Cond.instanceMethod yX7_ryeCrusts ∈ WS := WS_in (tb_5 (List.mem_of_getElem? (i := 158) (by decide +kernel))) rfl
theorem co_yX7_ryeCrusts : Cond.code yX7_ryeCrusts cX7_ryeCrusts 3 (some .int) ∈ WS := WS_in (tb_5 (List.mem_of_getElem? (i := 159) (by decide +kernel))) rfl
theorem mk_X7_220 : Cond.methodLink RX7 220 yX7_begins ∈ WS := WS_in (tb_5 (List.mem_of_getElem? (i := 160) (by decide +kernel))) rfl
theorem im_yX7_begins : Cond.instanceMethod yX7_begins ∈ WS := WS_in (tb_5 (List.mem_of_getElem? (i := 162) (by decide +kernel))) rfl
theorem co_yX7_begins : Cond.code yX7_begins cX7_begins 2 none ∈ WS := WS_in (tb_5 (List.mem_of_getElem? (i := 163) (by decide +kernel))) rfl
theorem mk_X7_223 : Cond.methodLink RX7 223 yX7_plainCrusts ∈ WS := WS_in (tb_5 (List.mem_of_getElem? (i := 164) (by decide +kernel))) rfl
theorem im_yX7_plainCrusts : Cond.instanceMethod yX7_plainCrusts ∈ WS := WS_in (tb_5 (List.mem_of_getElem? (i := 166) (by decide +kernel))) rfl
theorem co_yX7_plainCrusts : Cond.code yX7_plainCrusts cX7_plainCrusts 3 (some .int) ∈ WS := WS_in (tb_5 (List.mem_of_getElem? (i := 167) (by decide +kernel))) rfl
theorem mk_X7_238 : Cond.methodLink RX7 238 yX7_steams ∈ WS := WS_in (tb_5 (List.mem_of_getElem? (i := 168) (by decide +kernel))) rfl
theorem im_yX7_steams : Cond.instanceMethod yX7_steams ∈ WS := WS_in (tb_5 (List.mem_of_getElem? (i := 170) (by decide +kernel))) rfl
theorem co_yX7_steams : Cond.code yX7_steams cX7_steams 3 (some .int) ∈ WS := WS_in (tb_5 (List.mem_of_getElem? (i := 171) (by decide +kernel))) rfl
theorem mk_X7_235 : Cond.methodLink RX7 235 yX7_briocheSteams ∈ WS := WS_in (tb_5 (List.mem_of_getElem? (i := 172) (by decide +kernel))) rfl
theorem im_yX7_briocheSteams : Cond.instanceMethod yX7_briocheSteams ∈ WS := WS_in (tb_5 (List.mem_of_getElem? (i := 174) (by decide +kernel))) rfl
theorem co_yX7_briocheSteams : Cond.code yX7_briocheSteams cX7_briocheSteams 3 (some .int) ∈ WS := WS_in (tb_5 (List.mem_of_getElem? (i := 175) (by decide +kernel))) rfl
theorem mk_X7_232 : Cond.methodLink RX7 232 yX7_plainSteams ∈ WS := WS_in (tb_5 (List.mem_of_getElem? (i := 176) (by decide +kernel))) rfl
theorem im_yX7_plainSteams : Cond.instanceMethod yX7_plainSteams ∈ WS := WS_in (tb_5 (List.mem_of_getElem? (i := 178) (by decide +kernel))) rfl
theorem co_yX7_plainSteams : Cond.code yX7_plainSteams cX7_plainSteams 3 (some .int) ∈ WS := WS_in (tb_5 (List.mem_of_getElem? (i := 179) (by decide +kernel))) rfl
theorem mk_X7_250 : Cond.methodLink RX7 250 yX7_crumbles ∈ WS := WS_in (tb_5 (List.mem_of_getElem? (i := 180) (by decide +kernel))) rfl
theorem im_yX7_crumbles : Cond.instanceMethod yX7_crumbles ∈ WS := WS_in (tb_5 (List.mem_of_getElem? (i := 182) (by decide +kernel))) rfl
theorem co_yX7_crumbles : Cond.code yX7_crumbles cX7_crumbles 3 (some .int) ∈ WS := WS_in (tb_5 (List.mem_of_getElem? (i := 183) (by decide +kernel))) rfl
theorem mk_X7_241 : Cond.methodLink RX7 241 yX7_plainCrumbles ∈ WS := WS_in (tb_5 (List.mem_of_getElem? (i := 184) (by decide +kernel))) rfl
theorem im_yX7_plainCrumbles : Cond.instanceMethod yX7_plainCrumbles ∈ WS := WS_in (tb_5 (List.mem_of_getElem? (i := 186) (by decide +kernel))) rfl
theorem co_yX7_plainCrumbles : Cond.code yX7_plainCrumbles cX7_plainCrumbles 3 (some .int) ∈ WS := WS_in (tb_5 (List.mem_of_getElem? (i := 187) (by decide +kernel))) rfl
theorem mk_X7_253 : Cond.methodLink RX7 253 yX7_partsBy ∈ WS := WS_in (tb_5 (List.mem_of_getElem? (i := 188) (by decide +kernel))) rfl
theorem im_yX7_partsBy : Cond.instanceMethod yX7_partsBy ∈ WS := WS_in (tb_5 (List.mem_of_getElem? (i := 190) (by decide +kernel))) rfl
theorem co_yX7_partsBy : Cond.code yX7_partsBy cX7_partsBy 4 (some .int) ∈ WS := WS_in (tb_5 (List.mem_of_getElem? (i := 191) (by decide +kernel))) rfl
theorem mk_X7_247 : Cond.methodLink RX7 247 yX7_plainParts ∈ WS := WS_in (tb_5 (List.mem_of_getElem? (i := 192) (by decide +kernel))) rfl
theorem im_yX7_plainParts : Cond.instanceMethod yX7_plainParts ∈ WS := WS_in (tb_5 (List.mem_of_getElem? (i := 194) (by decide +kernel))) rfl
theorem co_yX7_plainParts : Cond.code yX7_plainParts cX7_plainParts 4 (some .int) ∈ WS := WS_in (tb_5 (List.mem_of_getElem? (i := 195) (by decide +kernel))) rfl
theorem kn_X7_256 : Cond.constant RX7 256 (-1000000006) ∈ WS := WS_in (tb_5 (List.mem_of_getElem? (i := 196) (by decide +kernel))) rfl
theorem mk_L_123 : Cond.methodLink RL 123 yX7_body ∈ WS := WS_in (tb_5 (List.mem_of_getElem? (i := 197) (by decide +kernel))) rfl
theorem im_yX7_body : Cond.instanceMethod yX7_body ∈ WS := WS_in (tb_5 (List.mem_of_getElem? (i := 198) (by decide +kernel))) rfl
theorem se_yX7_body : Cond.selects RX7 yX7_body yX7_body ∈ WS := WS_in (tb_5 (List.mem_of_getElem? (i := 199) (by decide +kernel))) rfl
theorem co_yX7_body : Cond.code yX7_body cX7_body 2 (some .int) ∈ WS := WS_in (tb_5 (List.mem_of_getElem? (i := 200) (by decide +kernel))) rfl
theorem mk_L_127 : Cond.methodLink RL 127 yX7_sheet ∈ WS := WS_in (tb_5 (List.mem_of_getElem? (i := 201) (by decide +kernel))) rfl
theorem im_yX7_sheet : Cond.instanceMethod yX7_sheet ∈ WS := WS_in (tb_5 (List.mem_of_getElem? (i := 202) (by decide +kernel))) rfl
theorem se_yX7_sheet : Cond.selects RX7 yX7_sheet yX7_sheet ∈ WS := WS_in (tb_5 (List.mem_of_getElem? (i := 203) (by decide +kernel))) rfl
theorem co_yX7_sheet : Cond.code yX7_sheet cX7_sheet 5 (some .int) ∈ WS := WS_in (tb_5 (List.mem_of_getElem? (i := 204) (by decide +kernel))) rfl
theorem mk_L_131 : Cond.methodLink RL 131 yX7_put ∈ WS := WS_in (tb_5 (List.mem_of_getElem? (i := 205) (by decide +kernel))) rfl
theorem im_yX7_put : Cond.instanceMethod yX7_put ∈ WS := WS_in (tb_5 (List.mem_of_getElem? (i := 206) (by decide +kernel))) rfl
theorem se_yX7_put : Cond.selects RX7 yX7_put yX7_put ∈ WS := WS_in (tb_5 (List.mem_of_getElem? (i := 207) (by decide +kernel))) rfl
theorem co_yX7_put : Cond.code yX7_put cX7_put 5 (some .int) ∈ WS := WS_in (tb_5 (List.mem_of_getElem? (i := 208) (by decide +kernel))) rfl
theorem mk_L_136 : Cond.methodLink RL 136 yX7_move ∈ WS := WS_in (tb_5 (List.mem_of_getElem? (i := 209) (by decide +kernel))) rfl
theorem im_yX7_move : Cond.instanceMethod yX7_move ∈ WS := WS_in (tb_5 (List.mem_of_getElem? (i := 210) (by decide +kernel))) rfl
theorem se_yX7_move : Cond.selects RX7 yX7_move yX7_move ∈ WS := WS_in (tb_5 (List.mem_of_getElem? (i := 211) (by decide +kernel))) rfl
theorem co_yX7_move : Cond.code yX7_move cX7_move 9 (some .int) ∈ WS := WS_in (tb_5 (List.mem_of_getElem? (i := 212) (by decide +kernel))) rfl
theorem mk_X7_260 : Cond.methodLink RX7 260 yX7_notMoved ∈ WS := WS_in (tb_5 (List.mem_of_getElem? (i := 213) (by decide +kernel))) rfl
theorem im_yX7_notMoved : Cond.instanceMethod yX7_notMoved ∈ WS := WS_in (tb_5 (List.mem_of_getElem? (i := 215) (by decide +kernel))) rfl
theorem co_yX7_notMoved : Cond.code yX7_notMoved cX7_notMoved 7 (some .int) ∈ WS := WS_in (tb_5 (List.mem_of_getElem? (i := 216) (by decide +kernel))) rfl
theorem mk_L_140 : Cond.methodLink RL 140 yX7_soaks ∈ WS := WS_in (tb_5 (List.mem_of_getElem? (i := 217) (by decide +kernel))) rfl
theorem im_yX7_soaks : Cond.instanceMethod yX7_soaks ∈ WS := WS_in (tb_5 (List.mem_of_getElem? (i := 218) (by decide +kernel))) rfl
theorem se_yX7_soaks : Cond.selects RX7 yX7_soaks yX7_soaks ∈ WS := WS_in (tb_5 (List.mem_of_getElem? (i := 219) (by decide +kernel))) rfl
theorem co_yX7_soaks : Cond.code yX7_soaks cX7_soaks 4 (some .int) ∈ WS := WS_in (tb_5 (List.mem_of_getElem? (i := 220) (by decide +kernel))) rfl
theorem mk_L_144 : Cond.methodLink RL 144 yX7_judge ∈ WS := WS_in (tb_5 (List.mem_of_getElem? (i := 221) (by decide +kernel))) rfl
theorem im_yX7_judge : Cond.instanceMethod yX7_judge ∈ WS := WS_in (tb_5 (List.mem_of_getElem? (i := 222) (by decide +kernel))) rfl
theorem se_yX7_judge : Cond.selects RX7 yX7_judge yX7_judge ∈ WS := WS_in (tb_5 (List.mem_of_getElem? (i := 223) (by decide +kernel))) rfl
theorem co_yX7_judge : Cond.code yX7_judge cX7_judge 3 (some .int) ∈ WS := WS_in (tb_5 (List.mem_of_getElem? (i := 224) (by decide +kernel))) rfl
theorem mk_L_149 : Cond.methodLink RL 149 yX7_image ∈ WS := WS_in (tb_5 (List.mem_of_getElem? (i := 225) (by decide +kernel))) rfl
theorem im_yX7_image : Cond.instanceMethod yX7_image ∈ WS := WS_in (tb_5 (List.mem_of_getElem? (i := 226) (by decide +kernel))) rfl
theorem se_yX7_image : Cond.selects RX7 yX7_image yX7_image ∈ WS := WS_in (tb_5 (List.mem_of_getElem? (i := 227) (by decide +kernel))) rfl
theorem co_yX7_image : Cond.code yX7_image cX7_image 1 (some .int) ∈ WS := WS_in (tb_5 (List.mem_of_getElem? (i := 228) (by decide +kernel))) rfl
theorem mk_L_153 : Cond.methodLink RL 153 yX7_restore ∈ WS := WS_in (tb_5 (List.mem_of_getElem? (i := 229) (by decide +kernel))) rfl
theorem im_yX7_restore : Cond.instanceMethod yX7_restore ∈ WS := WS_in (tb_5 (List.mem_of_getElem? (i := 230) (by decide +kernel))) rfl
theorem se_yX7_restore : Cond.selects RX7 yX7_restore yX7_restore ∈ WS := WS_in (tb_5 (List.mem_of_getElem? (i := 231) (by decide +kernel))) rfl
theorem co_yX7_restore : Cond.code yX7_restore cX7_restore 1 (some .int) ∈ WS := WS_in (tb_5 (List.mem_of_getElem? (i := 232) (by decide +kernel))) rfl
theorem mk_L_157 : Cond.methodLink RL 157 yX7_tell ∈ WS := WS_in (tb_5 (List.mem_of_getElem? (i := 233) (by decide +kernel))) rfl
theorem im_yX7_tell : Cond.instanceMethod yX7_tell ∈ WS := WS_in (tb_5 (List.mem_of_getElem? (i := 234) (by decide +kernel))) rfl
theorem se_yX7_tell : Cond.selects RX7 yX7_tell yX7_tell ∈ WS := WS_in (tb_5 (List.mem_of_getElem? (i := 235) (by decide +kernel))) rfl
theorem co_yX7_tell : Cond.code yX7_tell cX7_tell 2 (some .int) ∈ WS := WS_in (tb_5 (List.mem_of_getElem? (i := 236) (by decide +kernel))) rfl
theorem mk_L_161 : Cond.methodLink RL 161 yX7_check ∈ WS := WS_in (tb_5 (List.mem_of_getElem? (i := 237) (by decide +kernel))) rfl
theorem im_yX7_check : Cond.instanceMethod yX7_check ∈ WS := WS_in (tb_5 (List.mem_of_getElem? (i := 238) (by decide +kernel))) rfl
theorem se_yX7_check : Cond.selects RX7 yX7_check yX7_check ∈ WS := WS_in (tb_5 (List.mem_of_getElem? (i := 239) (by decide +kernel))) rfl
theorem co_yX7_check : Cond.code yX7_check cX7_check 3 (some .int) ∈ WS := WS_in (tb_6 (List.mem_of_getElem? (i := 0) (by decide +kernel))) rfl
theorem mk_L_165 : Cond.methodLink RL 165 yX7_count ∈ WS := WS_in (tb_6 (List.mem_of_getElem? (i := 1) (by decide +kernel))) rfl
theorem im_yX7_count : Cond.instanceMethod yX7_count ∈ WS := WS_in (tb_6 (List.mem_of_getElem? (i := 2) (by decide +kernel))) rfl
theorem se_yX7_count : Cond.selects RX7 yX7_count yX7_count ∈ WS := WS_in (tb_6 (List.mem_of_getElem? (i := 3) (by decide +kernel))) rfl
theorem co_yX7_count : Cond.code yX7_count cX7_count 2 (some .int) ∈ WS := WS_in (tb_6 (List.mem_of_getElem? (i := 4) (by decide +kernel))) rfl
theorem mk_L_169 : Cond.methodLink RL 169 yX7_told ∈ WS := WS_in (tb_6 (List.mem_of_getElem? (i := 5) (by decide +kernel))) rfl
theorem im_yX7_told : Cond.instanceMethod yX7_told ∈ WS := WS_in (tb_6 (List.mem_of_getElem? (i := 6) (by decide +kernel))) rfl
theorem se_yX7_told : Cond.selects RX7 yX7_told yX7_told ∈ WS := WS_in (tb_6 (List.mem_of_getElem? (i := 7) (by decide +kernel))) rfl
theorem co_yX7_told : Cond.code yX7_told cX7_told 2 (some .int) ∈ WS := WS_in (tb_6 (List.mem_of_getElem? (i := 8) (by decide +kernel))) rfl
theorem kn_L_52 : Cond.constantLong RL 52 4294967295 ∈ WS := WS_in (tb_6 (List.mem_of_getElem? (i := 9) (by decide +kernel))) rfl
theorem fk_J0_15 : Cond.fieldLink RJ0 15 "java/lang/String" "coder" "B" ∈ WS := WS_in (tb_6 (List.mem_of_getElem? (i := 10) (by decide +kernel))) rfl
theorem fk_J0_9 : Cond.fieldLink RJ0 9 "java/lang/String" "value" "[B" ∈ WS := WS_in (tb_6 (List.mem_of_getElem? (i := 11) (by decide +kernel))) rfl
theorem se_yX6_error : Cond.selects RX6 yX6_error yX6_error ∈ WS := WS_in (tb_p (List.mem_of_getElem? (i := 0) (by decide +kernel))) rfl
theorem se_yX4_bearsAsRye : Cond.selects RX4 yX4_bearsAsRye yX4_bearsAsRye ∈ WS := WS_in (tb_p (List.mem_of_getElem? (i := 1) (by decide +kernel))) rfl
theorem se_yX4_bearsAsLoaf : Cond.selects RX4 yX4_bearsAsLoaf yX4_bearsAsLoaf ∈ WS := WS_in (tb_p (List.mem_of_getElem? (i := 2) (by decide +kernel))) rfl
theorem se_yX4_bearsAsBrioche : Cond.selects RX4 yX4_bearsAsBrioche yX4_bearsAsBrioche ∈ WS := WS_in (tb_p (List.mem_of_getElem? (i := 3) (by decide +kernel))) rfl
theorem se_yX2_readAny : Cond.selects RX2 yX2_readAny yX2_readAny ∈ WS := WS_in (tb_p (List.mem_of_getElem? (i := 4) (by decide +kernel))) rfl
theorem se_yX2_readAll : Cond.selects RX2 yX2_readAll yX2_readAll ∈ WS := WS_in (tb_p (List.mem_of_getElem? (i := 5) (by decide +kernel))) rfl
theorem se_yX2_readCompared : Cond.selects RX2 yX2_readCompared yX2_readCompared ∈ WS := WS_in (tb_p (List.mem_of_getElem? (i := 6) (by decide +kernel))) rfl
theorem se_yX2_readSum : Cond.selects RX2 yX2_readSum yX2_readSum ∈ WS := WS_in (tb_p (List.mem_of_getElem? (i := 7) (by decide +kernel))) rfl
theorem se_yX2_readProduct : Cond.selects RX2 yX2_readProduct yX2_readProduct ∈ WS := WS_in (tb_p (List.mem_of_getElem? (i := 8) (by decide +kernel))) rfl
theorem se_yX2_readOne : Cond.selects RX2 yX2_readOne yX2_readOne ∈ WS := WS_in (tb_p (List.mem_of_getElem? (i := 9) (by decide +kernel))) rfl
theorem se_yX2_ahead : Cond.selects RX2 yX2_ahead yX2_ahead ∈ WS := WS_in (tb_p (List.mem_of_getElem? (i := 10) (by decide +kernel))) rfl
theorem se_yX2_readNot : Cond.selects RX2 yX2_readNot yX2_readNot ∈ WS := WS_in (tb_p (List.mem_of_getElem? (i := 11) (by decide +kernel))) rfl
theorem se_yX2_make : Cond.selects RX2 yX2_make yX2_make ∈ WS := WS_in (tb_p (List.mem_of_getElem? (i := 12) (by decide +kernel))) rfl
theorem se_yX2_readWithin : Cond.selects RX2 yX2_readWithin yX2_readWithin ∈ WS := WS_in (tb_p (List.mem_of_getElem? (i := 13) (by decide +kernel))) rfl
theorem se_yX2_readNumber : Cond.selects RX2 yX2_readNumber yX2_readNumber ∈ WS := WS_in (tb_p (List.mem_of_getElem? (i := 14) (by decide +kernel))) rfl
theorem se_yX0_draw : Cond.selects RX0 yX0_draw yX0_draw ∈ WS := WS_in (tb_p (List.mem_of_getElem? (i := 15) (by decide +kernel))) rfl
theorem se_yX5_say : Cond.selects RX5 yX5_say yX5_say ∈ WS := WS_in (tb_p (List.mem_of_getElem? (i := 16) (by decide +kernel))) rfl
theorem se_yX5_begin : Cond.selects RX5 yX5_begin yX5_begin ∈ WS := WS_in (tb_p (List.mem_of_getElem? (i := 17) (by decide +kernel))) rfl
theorem se_yX5_part : Cond.selects RX5 yX5_part yX5_part ∈ WS := WS_in (tb_p (List.mem_of_getElem? (i := 18) (by decide +kernel))) rfl
theorem se_yX7_error : Cond.selects RX7 yX7_error yX7_error ∈ WS := WS_in (tb_p (List.mem_of_getElem? (i := 19) (by decide +kernel))) rfl
theorem se_yX7_lets : Cond.selects RX7 yX7_lets yX7_lets ∈ WS := WS_in (tb_p (List.mem_of_getElem? (i := 20) (by decide +kernel))) rfl
theorem se_yX7_isSpan : Cond.selects RX7 yX7_isSpan yX7_isSpan ∈ WS := WS_in (tb_p (List.mem_of_getElem? (i := 21) (by decide +kernel))) rfl
theorem se_yX7_of : Cond.selects RX7 yX7_of yX7_of ∈ WS := WS_in (tb_p (List.mem_of_getElem? (i := 22) (by decide +kernel))) rfl
theorem se_yX7_bearsOf : Cond.selects RX7 yX7_bearsOf yX7_bearsOf ∈ WS := WS_in (tb_p (List.mem_of_getElem? (i := 23) (by decide +kernel))) rfl
theorem se_yX7_bearsBy : Cond.selects RX7 yX7_bearsBy yX7_bearsBy ∈ WS := WS_in (tb_p (List.mem_of_getElem? (i := 24) (by decide +kernel))) rfl
theorem se_yX7_takesOf : Cond.selects RX7 yX7_takesOf yX7_takesOf ∈ WS := WS_in (tb_p (List.mem_of_getElem? (i := 25) (by decide +kernel))) rfl
theorem se_yX7_becomes : Cond.selects RX7 yX7_becomes yX7_becomes ∈ WS := WS_in (tb_p (List.mem_of_getElem? (i := 26) (by decide +kernel))) rfl
theorem se_yX7_crosses : Cond.selects RX7 yX7_crosses yX7_crosses ∈ WS := WS_in (tb_p (List.mem_of_getElem? (i := 27) (by decide +kernel))) rfl
theorem se_yX7_gives : Cond.selects RX7 yX7_gives yX7_gives ∈ WS := WS_in (tb_p (List.mem_of_getElem? (i := 28) (by decide +kernel))) rfl
theorem se_yX7_works : Cond.selects RX7 yX7_works yX7_works ∈ WS := WS_in (tb_p (List.mem_of_getElem? (i := 29) (by decide +kernel))) rfl
theorem se_yX7_any : Cond.selects RX7 yX7_any yX7_any ∈ WS := WS_in (tb_p (List.mem_of_getElem? (i := 30) (by decide +kernel))) rfl
theorem se_yX7_all : Cond.selects RX7 yX7_all yX7_all ∈ WS := WS_in (tb_p (List.mem_of_getElem? (i := 31) (by decide +kernel))) rfl
theorem se_yX7_compares : Cond.selects RX7 yX7_compares yX7_compares ∈ WS := WS_in (tb_p (List.mem_of_getElem? (i := 32) (by decide +kernel))) rfl
theorem se_yX7_sum : Cond.selects RX7 yX7_sum yX7_sum ∈ WS := WS_in (tb_p (List.mem_of_getElem? (i := 33) (by decide +kernel))) rfl
theorem se_yX7_times : Cond.selects RX7 yX7_times yX7_times ∈ WS := WS_in (tb_p (List.mem_of_getElem? (i := 34) (by decide +kernel))) rfl
theorem se_yX7_one : Cond.selects RX7 yX7_one yX7_one ∈ WS := WS_in (tb_p (List.mem_of_getElem? (i := 35) (by decide +kernel))) rfl
theorem se_yX7_look : Cond.selects RX7 yX7_look yX7_look ∈ WS := WS_in (tb_p (List.mem_of_getElem? (i := 36) (by decide +kernel))) rfl
theorem se_yX7_nameOf : Cond.selects RX7 yX7_nameOf yX7_nameOf ∈ WS := WS_in (tb_p (List.mem_of_getElem? (i := 37) (by decide +kernel))) rfl
theorem se_yX7_step : Cond.selects RX7 yX7_step yX7_step ∈ WS := WS_in (tb_p (List.mem_of_getElem? (i := 38) (by decide +kernel))) rfl
theorem se_yX7_opens : Cond.selects RX7 yX7_opens yX7_opens ∈ WS := WS_in (tb_p (List.mem_of_getElem? (i := 39) (by decide +kernel))) rfl
theorem se_yX7_number : Cond.selects RX7 yX7_number yX7_number ∈ WS := WS_in (tb_p (List.mem_of_getElem? (i := 40) (by decide +kernel))) rfl
theorem se_yX7_goes : Cond.selects RX7 yX7_goes yX7_goes ∈ WS := WS_in (tb_p (List.mem_of_getElem? (i := 41) (by decide +kernel))) rfl
theorem se_yX7_drawn : Cond.selects RX7 yX7_drawn yX7_drawn ∈ WS := WS_in (tb_p (List.mem_of_getElem? (i := 42) (by decide +kernel))) rfl
theorem se_yX7_draw : Cond.selects RX7 yX7_draw yX7_draw ∈ WS := WS_in (tb_p (List.mem_of_getElem? (i := 43) (by decide +kernel))) rfl
theorem se_yX7_findBearing : Cond.selects RX7 yX7_findBearing yX7_findBearing ∈ WS := WS_in (tb_p (List.mem_of_getElem? (i := 44) (by decide +kernel))) rfl
theorem se_yX7_joinedBy : Cond.selects RX7 yX7_joinedBy yX7_joinedBy ∈ WS := WS_in (tb_p (List.mem_of_getElem? (i := 45) (by decide +kernel))) rfl
theorem se_yX7_areJoinedBy : Cond.selects RX7 yX7_areJoinedBy yX7_areJoinedBy ∈ WS := WS_in (tb_p (List.mem_of_getElem? (i := 46) (by decide +kernel))) rfl
theorem se_yX7_flourFor : Cond.selects RX7 yX7_flourFor yX7_flourFor ∈ WS := WS_in (tb_p (List.mem_of_getElem? (i := 47) (by decide +kernel))) rfl
theorem se_yX7_thinks : Cond.selects RX7 yX7_thinks yX7_thinks ∈ WS := WS_in (tb_p (List.mem_of_getElem? (i := 48) (by decide +kernel))) rfl
theorem se_yX7_areJoined : Cond.selects RX7 yX7_areJoined yX7_areJoined ∈ WS := WS_in (tb_p (List.mem_of_getElem? (i := 49) (by decide +kernel))) rfl
theorem se_yX7_putsBack : Cond.selects RX7 yX7_putsBack yX7_putsBack ∈ WS := WS_in (tb_p (List.mem_of_getElem? (i := 50) (by decide +kernel))) rfl
theorem se_yX7_notThere : Cond.selects RX7 yX7_notThere yX7_notThere ∈ WS := WS_in (tb_p (List.mem_of_getElem? (i := 51) (by decide +kernel))) rfl
theorem se_yX7_rightOf : Cond.selects RX7 yX7_rightOf yX7_rightOf ∈ WS := WS_in (tb_p (List.mem_of_getElem? (i := 52) (by decide +kernel))) rfl
theorem se_yX7_crusts : Cond.selects RX7 yX7_crusts yX7_crusts ∈ WS := WS_in (tb_p (List.mem_of_getElem? (i := 53) (by decide +kernel))) rfl
theorem se_yX7_ryeCrusts : Cond.selects RX7 yX7_ryeCrusts yX7_ryeCrusts ∈ WS := WS_in (tb_p (List.mem_of_getElem? (i := 54) (by decide +kernel))) rfl
theorem se_yX7_begins : Cond.selects RX7 yX7_begins yX7_begins ∈ WS := WS_in (tb_p (List.mem_of_getElem? (i := 55) (by decide +kernel))) rfl
theorem se_yX7_plainCrusts : Cond.selects RX7 yX7_plainCrusts yX7_plainCrusts ∈ WS := WS_in (tb_p (List.mem_of_getElem? (i := 56) (by decide +kernel))) rfl
theorem se_yX7_steams : Cond.selects RX7 yX7_steams yX7_steams ∈ WS := WS_in (tb_p (List.mem_of_getElem? (i := 57) (by decide +kernel))) rfl
theorem se_yX7_briocheSteams : Cond.selects RX7 yX7_briocheSteams yX7_briocheSteams ∈ WS := WS_in (tb_p (List.mem_of_getElem? (i := 58) (by decide +kernel))) rfl
theorem se_yX7_plainSteams : Cond.selects RX7 yX7_plainSteams yX7_plainSteams ∈ WS := WS_in (tb_p (List.mem_of_getElem? (i := 59) (by decide +kernel))) rfl
theorem se_yX7_crumbles : Cond.selects RX7 yX7_crumbles yX7_crumbles ∈ WS := WS_in (tb_p (List.mem_of_getElem? (i := 60) (by decide +kernel))) rfl
theorem se_yX7_plainCrumbles : Cond.selects RX7 yX7_plainCrumbles yX7_plainCrumbles ∈ WS := WS_in (tb_p (List.mem_of_getElem? (i := 61) (by decide +kernel))) rfl
theorem se_yX7_partsBy : Cond.selects RX7 yX7_partsBy yX7_partsBy ∈ WS := WS_in (tb_p (List.mem_of_getElem? (i := 62) (by decide +kernel))) rfl
theorem se_yX7_plainParts : Cond.selects RX7 yX7_plainParts yX7_plainParts ∈ WS := WS_in (tb_p (List.mem_of_getElem? (i := 63) (by decide +kernel))) rfl
theorem se_yX7_notMoved : Cond.selects RX7 yX7_notMoved yX7_notMoved ∈ WS := WS_in (tb_p (List.mem_of_getElem? (i := 64) (by decide +kernel))) rfl

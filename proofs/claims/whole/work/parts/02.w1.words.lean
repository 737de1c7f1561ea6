theorem co_yJ11_highSurrogate_5068e : Cond.code yJ11_highSurrogate_5068e cJ11_highSurrogate_5068e 1 (some .char) ∈ WS := WS_in (tb_3 (List.mem_of_getElem? (i := 57) (by decide +kernel))) rfl
theorem kn_J11_110 : Cond.constant RJ11 110 55232 ∈ WS := WS_in (tb_3 (List.mem_of_getElem? (i := 58) (by decide +kernel))) rfl
theorem mk_J2_161 : Cond.methodLink RJ2 161 yJ11_lowSurrogate_5068e ∈ WS := WS_in (tb_3 (List.mem_of_getElem? (i := 59) (by decide +kernel))) rfl
theorem st_yJ11_lowSurrogate_5068e : Cond.static yJ11_lowSurrogate_5068e ∈ WS := WS_in (tb_3 (List.mem_of_getElem? (i := 60) (by decide +kernel))) rfl
theorem co_yJ11_lowSurrogate_5068e : Cond.code yJ11_lowSurrogate_5068e cJ11_lowSurrogate_5068e 1 (some .char) ∈ WS := WS_in (tb_3 (List.mem_of_getElem? (i := 61) (by decide +kernel))) rfl
theorem kn_J11_76 : Cond.constant RJ11 76 56320 ∈ WS := WS_in (tb_3 (List.mem_of_getElem? (i := 62) (by decide +kernel))) rfl
theorem mk_X2_80 : Cond.methodLink RX2 80 yX2_isOfProducts ∈ WS := WS_in (tb_3 (List.mem_of_getElem? (i := 63) (by decide +kernel))) rfl
theorem st_yX2_isOfProducts : Cond.static yX2_isOfProducts ∈ WS := WS_in (tb_3 (List.mem_of_getElem? (i := 64) (by decide +kernel))) rfl
theorem co_yX2_isOfProducts : Cond.code yX2_isOfProducts cX2_isOfProducts 1 (some .boolean) ∈ WS := WS_in (tb_3 (List.mem_of_getElem? (i := 65) (by decide +kernel))) rfl
theorem mk_X6_165 : Cond.methodLink RX6 165 yX1_write ∈ WS := WS_in (tb_3 (List.mem_of_getElem? (i := 66) (by decide +kernel))) rfl
theorem im_yX1_write : Cond.instanceMethod yX1_write ∈ WS := WS_in (tb_3 (List.mem_of_getElem? (i := 67) (by decide +kernel))) rfl
theorem se_yX1_write : Cond.selects RX1 yX1_write yX1_write ∈ WS := WS_in (tb_3 (List.mem_of_getElem? (i := 68) (by decide +kernel))) rfl
theorem co_yX1_write : Cond.code yX1_write cX1_write 3 none ∈ WS := WS_in (tb_3 (List.mem_of_getElem? (i := 69) (by decide +kernel))) rfl
theorem mk_X1_30 : Cond.methodLink RX1 30 arraycopyName ∈ WS := WS_in (tb_3 (List.mem_of_getElem? (i := 71) (by decide +kernel))) rfl
theorem mk_L_63 : Cond.methodLink RL 63 yX6_untell ∈ WS := WS_in (tb_3 (List.mem_of_getElem? (i := 72) (by decide +kernel))) rfl
theorem im_yX6_untell : Cond.instanceMethod yX6_untell ∈ WS := WS_in (tb_3 (List.mem_of_getElem? (i := 73) (by decide +kernel))) rfl
theorem se_yX6_untell : Cond.selects RX6 yX6_untell yX6_untell ∈ WS := WS_in (tb_3 (List.mem_of_getElem? (i := 74) (by decide +kernel))) rfl
theorem co_yX6_untell : Cond.code yX6_untell cX6_untell 3 (some .int) ∈ WS := WS_in (tb_3 (List.mem_of_getElem? (i := 75) (by decide +kernel))) rfl
theorem mk_L_67 : Cond.methodLink RL 67 yX6_law ∈ WS := WS_in (tb_3 (List.mem_of_getElem? (i := 76) (by decide +kernel))) rfl
theorem im_yX6_law : Cond.instanceMethod yX6_law ∈ WS := WS_in (tb_3 (List.mem_of_getElem? (i := 77) (by decide +kernel))) rfl
theorem se_yX6_law : Cond.selects RX6 yX6_law yX6_law ∈ WS := WS_in (tb_3 (List.mem_of_getElem? (i := 78) (by decide +kernel))) rfl
theorem co_yX6_law : Cond.code yX6_law cX6_law 5 (some .int) ∈ WS := WS_in (tb_3 (List.mem_of_getElem? (i := 79) (by decide +kernel))) rfl
theorem mk_X6_174 : Cond.methodLink RX6 174 yX0_gives ∈ WS := WS_in (tb_3 (List.mem_of_getElem? (i := 80) (by decide +kernel))) rfl
theorem mk_L_72 : Cond.methodLink RL 72 yX6_days ∈ WS := WS_in (tb_3 (List.mem_of_getElem? (i := 81) (by decide +kernel))) rfl
theorem im_yX6_days : Cond.instanceMethod yX6_days ∈ WS := WS_in (tb_3 (List.mem_of_getElem? (i := 82) (by decide +kernel))) rfl
theorem se_yX6_days : Cond.selects RX6 yX6_days yX6_days ∈ WS := WS_in (tb_3 (List.mem_of_getElem? (i := 83) (by decide +kernel))) rfl
theorem co_yX6_days : Cond.code yX6_days cX6_days 3 (some .int) ∈ WS := WS_in (tb_3 (List.mem_of_getElem? (i := 84) (by decide +kernel))) rfl
theorem mk_X6_178 : Cond.methodLink RX6 178 yX0_passDay ∈ WS := WS_in (tb_3 (List.mem_of_getElem? (i := 85) (by decide +kernel))) rfl
theorem im_yX0_passDay : Cond.instanceMethod yX0_passDay ∈ WS := WS_in (tb_3 (List.mem_of_getElem? (i := 86) (by decide +kernel))) rfl
theorem se_yX0_passDay : Cond.selects RX0 yX0_passDay yX0_passDay ∈ WS := WS_in (tb_3 (List.mem_of_getElem? (i := 87) (by decide +kernel))) rfl
theorem co_yX0_passDay : Cond.code yX0_passDay cX0_passDay 3 none ∈ WS := WS_in (tb_3 (List.mem_of_getElem? (i := 88) (by decide +kernel))) rfl
theorem mk_L_76 : Cond.methodLink RL 76 yX6_loose ∈ WS := WS_in (tb_3 (List.mem_of_getElem? (i := 89) (by decide +kernel))) rfl
theorem im_yX6_loose : Cond.instanceMethod yX6_loose ∈ WS := WS_in (tb_3 (List.mem_of_getElem? (i := 90) (by decide +kernel))) rfl
theorem se_yX6_loose : Cond.selects RX6 yX6_loose yX6_loose ∈ WS := WS_in (tb_3 (List.mem_of_getElem? (i := 91) (by decide +kernel))) rfl
theorem co_yX6_loose : Cond.code yX6_loose cX6_loose 4 (some .int) ∈ WS := WS_in (tb_3 (List.mem_of_getElem? (i := 92) (by decide +kernel))) rfl
theorem mk_X6_181 : Cond.methodLink RX6 181 yX0_passDayByDraws ∈ WS := WS_in (tb_3 (List.mem_of_getElem? (i := 93) (by decide +kernel))) rfl
theorem im_yX0_passDayByDraws : Cond.instanceMethod yX0_passDayByDraws ∈ WS := WS_in (tb_3 (List.mem_of_getElem? (i := 94) (by decide +kernel))) rfl
theorem se_yX0_passDayByDraws : Cond.selects RX0 yX0_passDayByDraws yX0_passDayByDraws ∈ WS := WS_in (tb_3 (List.mem_of_getElem? (i := 95) (by decide +kernel))) rfl
theorem co_yX0_passDayByDraws : Cond.code yX0_passDayByDraws cX0_passDayByDraws 4 (some .int) ∈ WS := WS_in (tb_3 (List.mem_of_getElem? (i := 96) (by decide +kernel))) rfl
theorem mk_X0_130 : Cond.methodLink RX0 130 yX0_draw ∈ WS := WS_in (tb_3 (List.mem_of_getElem? (i := 97) (by decide +kernel))) rfl
theorem im_yX0_draw : Cond.instanceMethod yX0_draw ∈ WS := WS_in (tb_3 (List.mem_of_getElem? (i := 99) (by decide +kernel))) rfl
theorem co_yX0_draw : Cond.code yX0_draw cX0_draw 1 (some .int) ∈ WS := WS_in (tb_3 (List.mem_of_getElem? (i := 100) (by decide +kernel))) rfl
theorem kn_X0_144 : Cond.constant RX0 144 1103515245 ∈ WS := WS_in (tb_3 (List.mem_of_getElem? (i := 101) (by decide +kernel))) rfl
theorem mk_X0_134 : Cond.methodLink RX0 134 yJ9_max_7cf53 ∈ WS := WS_in (tb_3 (List.mem_of_getElem? (i := 102) (by decide +kernel))) rfl
theorem mk_X0_137 : Cond.methodLink RX0 137 yX0_carryOver ∈ WS := WS_in (tb_3 (List.mem_of_getElem? (i := 103) (by decide +kernel))) rfl
theorem mk_X0_141 : Cond.methodLink RX0 141 yX0_passDay ∈ WS := WS_in (tb_3 (List.mem_of_getElem? (i := 104) (by decide +kernel))) rfl
theorem mk_L_80 : Cond.methodLink RL 80 yX6_seed ∈ WS := WS_in (tb_3 (List.mem_of_getElem? (i := 105) (by decide +kernel))) rfl
theorem im_yX6_seed : Cond.instanceMethod yX6_seed ∈ WS := WS_in (tb_3 (List.mem_of_getElem? (i := 106) (by decide +kernel))) rfl
theorem se_yX6_seed : Cond.selects RX6 yX6_seed yX6_seed ∈ WS := WS_in (tb_3 (List.mem_of_getElem? (i := 107) (by decide +kernel))) rfl
theorem co_yX6_seed : Cond.code yX6_seed cX6_seed 3 (some .int) ∈ WS := WS_in (tb_3 (List.mem_of_getElem? (i := 108) (by decide +kernel))) rfl
theorem mk_L_84 : Cond.methodLink RL 84 yX6_joined ∈ WS := WS_in (tb_3 (List.mem_of_getElem? (i := 109) (by decide +kernel))) rfl
theorem im_yX6_joined : Cond.instanceMethod yX6_joined ∈ WS := WS_in (tb_3 (List.mem_of_getElem? (i := 110) (by decide +kernel))) rfl
theorem se_yX6_joined : Cond.selects RX6 yX6_joined yX6_joined ∈ WS := WS_in (tb_3 (List.mem_of_getElem? (i := 111) (by decide +kernel))) rfl
theorem co_yX6_joined : Cond.code yX6_joined cX6_joined 3 (some .int) ∈ WS := WS_in (tb_3 (List.mem_of_getElem? (i := 112) (by decide +kernel))) rfl
theorem mk_X6_190 : Cond.methodLink RX6 190 yX0_bearing ∈ WS := WS_in (tb_3 (List.mem_of_getElem? (i := 113) (by decide +kernel))) rfl
theorem im_yX0_bearing : Cond.instanceMethod yX0_bearing ∈ WS := WS_in (tb_3 (List.mem_of_getElem? (i := 114) (by decide +kernel))) rfl
theorem se_yX0_bearing : Cond.selects RX0 yX0_bearing yX0_bearing ∈ WS := WS_in (tb_3 (List.mem_of_getElem? (i := 115) (by decide +kernel))) rfl
theorem co_yX0_bearing : Cond.code yX0_bearing cX0_bearing 4 (some .int) ∈ WS := WS_in (tb_3 (List.mem_of_getElem? (i := 116) (by decide +kernel))) rfl
theorem mk_X6_193 : Cond.methodLink RX6 193 yX0_reachOver ∈ WS := WS_in (tb_3 (List.mem_of_getElem? (i := 117) (by decide +kernel))) rfl
theorem im_yX0_reachOver : Cond.instanceMethod yX0_reachOver ∈ WS := WS_in (tb_3 (List.mem_of_getElem? (i := 118) (by decide +kernel))) rfl
theorem se_yX0_reachOver : Cond.selects RX0 yX0_reachOver yX0_reachOver ∈ WS := WS_in (tb_3 (List.mem_of_getElem? (i := 119) (by decide +kernel))) rfl
theorem co_yX0_reachOver : Cond.code yX0_reachOver cX0_reachOver 8 (some .int) ∈ WS := WS_in (tb_3 (List.mem_of_getElem? (i := 120) (by decide +kernel))) rfl
theorem mk_X0_145 : Cond.methodLink RX0 145 yX4_ends ∈ WS := WS_in (tb_3 (List.mem_of_getElem? (i := 121) (by decide +kernel))) rfl
theorem im_yX4_ends : Cond.instanceMethod yX4_ends ∈ WS := WS_in (tb_3 (List.mem_of_getElem? (i := 122) (by decide +kernel))) rfl
theorem se_yX4_ends : Cond.selects RX4 yX4_ends yX4_ends ∈ WS := WS_in (tb_3 (List.mem_of_getElem? (i := 123) (by decide +kernel))) rfl
theorem co_yX4_ends : Cond.code yX4_ends cX4_ends 1 (some .int) ∈ WS := WS_in (tb_3 (List.mem_of_getElem? (i := 124) (by decide +kernel))) rfl
theorem mk_L_88 : Cond.methodLink RL 88 yX6_load ∈ WS := WS_in (tb_3 (List.mem_of_getElem? (i := 125) (by decide +kernel))) rfl
theorem im_yX6_load : Cond.instanceMethod yX6_load ∈ WS := WS_in (tb_3 (List.mem_of_getElem? (i := 126) (by decide +kernel))) rfl
theorem se_yX6_load : Cond.selects RX6 yX6_load yX6_load ∈ WS := WS_in (tb_3 (List.mem_of_getElem? (i := 127) (by decide +kernel))) rfl
theorem co_yX6_load : Cond.code yX6_load cX6_load 4 (some .int) ∈ WS := WS_in (tb_3 (List.mem_of_getElem? (i := 128) (by decide +kernel))) rfl
theorem mk_X6_197 : Cond.methodLink RX6 197 yX0_joins ∈ WS := WS_in (tb_3 (List.mem_of_getElem? (i := 129) (by decide +kernel))) rfl
theorem im_yX0_joins : Cond.instanceMethod yX0_joins ∈ WS := WS_in (tb_3 (List.mem_of_getElem? (i := 130) (by decide +kernel))) rfl
theorem se_yX0_joins : Cond.selects RX0 yX0_joins yX0_joins ∈ WS := WS_in (tb_3 (List.mem_of_getElem? (i := 131) (by decide +kernel))) rfl
theorem co_yX0_joins : Cond.code yX0_joins cX0_joins 4 (some .boolean) ∈ WS := WS_in (tb_3 (List.mem_of_getElem? (i := 132) (by decide +kernel))) rfl
theorem mk_X0_148 : Cond.methodLink RX0 148 yX0_reachOver ∈ WS := WS_in (tb_3 (List.mem_of_getElem? (i := 133) (by decide +kernel))) rfl
theorem mk_L_92 : Cond.methodLink RL 92 yX6_baking ∈ WS := WS_in (tb_3 (List.mem_of_getElem? (i := 134) (by decide +kernel))) rfl
theorem im_yX6_baking : Cond.instanceMethod yX6_baking ∈ WS := WS_in (tb_3 (List.mem_of_getElem? (i := 135) (by decide +kernel))) rfl
theorem se_yX6_baking : Cond.selects RX6 yX6_baking yX6_baking ∈ WS := WS_in (tb_3 (List.mem_of_getElem? (i := 136) (by decide +kernel))) rfl
theorem co_yX6_baking : Cond.code yX6_baking cX6_baking 11 (some .int) ∈ WS := WS_in (tb_3 (List.mem_of_getElem? (i := 137) (by decide +kernel))) rfl
theorem mk_X6_200 : Cond.methodLink RX6 200 yX0_takeFrom ∈ WS := WS_in (tb_3 (List.mem_of_getElem? (i := 138) (by decide +kernel))) rfl
theorem im_yX0_takeFrom : Cond.instanceMethod yX0_takeFrom ∈ WS := WS_in (tb_3 (List.mem_of_getElem? (i := 139) (by decide +kernel))) rfl
theorem se_yX0_takeFrom : Cond.selects RX0 yX0_takeFrom yX0_takeFrom ∈ WS := WS_in (tb_3 (List.mem_of_getElem? (i := 140) (by decide +kernel))) rfl
theorem co_yX0_takeFrom : Cond.code yX0_takeFrom cX0_takeFrom 3 none ∈ WS := WS_in (tb_3 (List.mem_of_getElem? (i := 141) (by decide +kernel))) rfl
theorem mk_X0_61 : Cond.methodLink RX0 61 yX4_takeFrom ∈ WS := WS_in (tb_3 (List.mem_of_getElem? (i := 142) (by decide +kernel))) rfl
theorem im_yX4_takeFrom : Cond.instanceMethod yX4_takeFrom ∈ WS := WS_in (tb_3 (List.mem_of_getElem? (i := 143) (by decide +kernel))) rfl
theorem se_yX4_takeFrom : Cond.selects RX4 yX4_takeFrom yX4_takeFrom ∈ WS := WS_in (tb_3 (List.mem_of_getElem? (i := 144) (by decide +kernel))) rfl
theorem co_yX4_takeFrom : Cond.code yX4_takeFrom cX4_takeFrom 2 none ∈ WS := WS_in (tb_3 (List.mem_of_getElem? (i := 145) (by decide +kernel))) rfl
theorem mk_X0_65 : Cond.methodLink RX0 65 yX1_takeFrom ∈ WS := WS_in (tb_3 (List.mem_of_getElem? (i := 146) (by decide +kernel))) rfl
theorem im_yX1_takeFrom : Cond.instanceMethod yX1_takeFrom ∈ WS := WS_in (tb_3 (List.mem_of_getElem? (i := 147) (by decide +kernel))) rfl
theorem se_yX1_takeFrom : Cond.selects RX1 yX1_takeFrom yX1_takeFrom ∈ WS := WS_in (tb_3 (List.mem_of_getElem? (i := 148) (by decide +kernel))) rfl
theorem co_yX1_takeFrom : Cond.code yX1_takeFrom cX1_takeFrom 2 none ∈ WS := WS_in (tb_3 (List.mem_of_getElem? (i := 149) (by decide +kernel))) rfl
theorem mk_X1_36 : Cond.methodLink RX1 36 yX1_write ∈ WS := WS_in (tb_3 (List.mem_of_getElem? (i := 150) (by decide +kernel))) rfl
theorem mk_X0_68 : Cond.methodLink RX0 68 arraycopyName ∈ WS := WS_in (tb_3 (List.mem_of_getElem? (i := 151) (by decide +kernel))) rfl
theorem mk_X6_204 : Cond.methodLink RX6 204 yX0_bakeAllAnew ∈ WS := WS_in (tb_3 (List.mem_of_getElem? (i := 152) (by decide +kernel))) rfl
theorem im_yX0_bakeAllAnew : Cond.instanceMethod yX0_bakeAllAnew ∈ WS := WS_in (tb_3 (List.mem_of_getElem? (i := 153) (by decide +kernel))) rfl
theorem se_yX0_bakeAllAnew : Cond.selects RX0 yX0_bakeAllAnew yX0_bakeAllAnew ∈ WS := WS_in (tb_3 (List.mem_of_getElem? (i := 154) (by decide +kernel))) rfl
theorem co_yX0_bakeAllAnew : Cond.code yX0_bakeAllAnew cX0_bakeAllAnew 2 none ∈ WS := WS_in (tb_3 (List.mem_of_getElem? (i := 155) (by decide +kernel))) rfl
theorem mk_X6_207 : Cond.methodLink RX6 207 yX0_flourFor ∈ WS := WS_in (tb_3 (List.mem_of_getElem? (i := 156) (by decide +kernel))) rfl
theorem im_yX0_flourFor : Cond.instanceMethod yX0_flourFor ∈ WS := WS_in (tb_3 (List.mem_of_getElem? (i := 157) (by decide +kernel))) rfl
theorem se_yX0_flourFor : Cond.selects RX0 yX0_flourFor yX0_flourFor ∈ WS := WS_in (tb_3 (List.mem_of_getElem? (i := 158) (by decide +kernel))) rfl
theorem co_yX0_flourFor : Cond.code yX0_flourFor cX0_flourFor 4 (some .int) ∈ WS := WS_in (tb_3 (List.mem_of_getElem? (i := 159) (by decide +kernel))) rfl
theorem mk_X0_151 : Cond.methodLink RX0 151 yX4_takes ∈ WS := WS_in (tb_3 (List.mem_of_getElem? (i := 160) (by decide +kernel))) rfl
theorem mk_L_96 : Cond.methodLink RL 96 yX6_eating ∈ WS := WS_in (tb_3 (List.mem_of_getElem? (i := 161) (by decide +kernel))) rfl
theorem im_yX6_eating : Cond.instanceMethod yX6_eating ∈ WS := WS_in (tb_3 (List.mem_of_getElem? (i := 162) (by decide +kernel))) rfl
theorem se_yX6_eating : Cond.selects RX6 yX6_eating yX6_eating ∈ WS := WS_in (tb_3 (List.mem_of_getElem? (i := 163) (by decide +kernel))) rfl
theorem co_yX6_eating : Cond.code yX6_eating cX6_eating 10 (some .int) ∈ WS := WS_in (tb_3 (List.mem_of_getElem? (i := 164) (by decide +kernel))) rfl
theorem mk_X6_210 : Cond.methodLink RX6 210 yJ6_bitCount_0f7a4 ∈ WS := WS_in (tb_3 (List.mem_of_getElem? (i := 165) (by decide +kernel))) rfl
theorem st_yJ6_bitCount_0f7a4 : Cond.static yJ6_bitCount_0f7a4 ∈ WS := WS_in (tb_3 (List.mem_of_getElem? (i := 166) (by decide +kernel))) rfl
theorem co_yJ6_bitCount_0f7a4 : Cond.code yJ6_bitCount_0f7a4 cJ6_bitCount_0f7a4 1 (some .int) ∈ WS := WS_in (tb_3 (List.mem_of_getElem? (i := 167) (by decide +kernel))) rfl
theorem kn_J6_265 : Cond.constant RJ6 265 1431655765 ∈ WS := WS_in (tb_3 (List.mem_of_getElem? (i := 168) (by decide +kernel))) rfl
theorem kn_J6_266 : Cond.constant RJ6 266 858993459 ∈ WS := WS_in (tb_3 (List.mem_of_getElem? (i := 169) (by decide +kernel))) rfl
theorem kn_J6_267 : Cond.constant RJ6 267 252645135 ∈ WS := WS_in (tb_3 (List.mem_of_getElem? (i := 170) (by decide +kernel))) rfl
theorem mk_L_100 : Cond.methodLink RL 100 yX6_lasts ∈ WS := WS_in (tb_3 (List.mem_of_getElem? (i := 171) (by decide +kernel))) rfl
theorem im_yX6_lasts : Cond.instanceMethod yX6_lasts ∈ WS := WS_in (tb_3 (List.mem_of_getElem? (i := 172) (by decide +kernel))) rfl
theorem se_yX6_lasts : Cond.selects RX6 yX6_lasts yX6_lasts ∈ WS := WS_in (tb_3 (List.mem_of_getElem? (i := 173) (by decide +kernel))) rfl
theorem co_yX6_lasts : Cond.code yX6_lasts cX6_lasts 5 (some .int) ∈ WS := WS_in (tb_3 (List.mem_of_getElem? (i := 174) (by decide +kernel))) rfl
theorem mk_L_104 : Cond.methodLink RL 104 yX6_then ∈ WS := WS_in (tb_3 (List.mem_of_getElem? (i := 175) (by decide +kernel))) rfl
theorem im_yX6_then : Cond.instanceMethod yX6_then ∈ WS := WS_in (tb_3 (List.mem_of_getElem? (i := 176) (by decide +kernel))) rfl
theorem se_yX6_then : Cond.selects RX6 yX6_then yX6_then ∈ WS := WS_in (tb_3 (List.mem_of_getElem? (i := 177) (by decide +kernel))) rfl
theorem co_yX6_then : Cond.code yX6_then cX6_then 4 (some .int) ∈ WS := WS_in (tb_3 (List.mem_of_getElem? (i := 178) (by decide +kernel))) rfl
theorem mk_L_108 : Cond.methodLink RL 108 yX6_odds ∈ WS := WS_in (tb_3 (List.mem_of_getElem? (i := 179) (by decide +kernel))) rfl
theorem im_yX6_odds : Cond.instanceMethod yX6_odds ∈ WS := WS_in (tb_3 (List.mem_of_getElem? (i := 180) (by decide +kernel))) rfl
theorem se_yX6_odds : Cond.selects RX6 yX6_odds yX6_odds ∈ WS := WS_in (tb_3 (List.mem_of_getElem? (i := 181) (by decide +kernel))) rfl
theorem co_yX6_odds : Cond.code yX6_odds cX6_odds 8 (some .int) ∈ WS := WS_in (tb_3 (List.mem_of_getElem? (i := 182) (by decide +kernel))) rfl
theorem mk_X6_215 : Cond.methodLink RX6 215 yX6_greatestCommon ∈ WS := WS_in (tb_3 (List.mem_of_getElem? (i := 183) (by decide +kernel))) rfl
theorem st_yX6_greatestCommon : Cond.static yX6_greatestCommon ∈ WS := WS_in (tb_3 (List.mem_of_getElem? (i := 184) (by decide +kernel))) rfl
theorem co_yX6_greatestCommon : Cond.code yX6_greatestCommon cX6_greatestCommon 3 (some .int) ∈ WS := WS_in (tb_3 (List.mem_of_getElem? (i := 185) (by decide +kernel))) rfl
theorem mk_L_112 : Cond.methodLink RL 112 yX6_fits ∈ WS := WS_in (tb_3 (List.mem_of_getElem? (i := 186) (by decide +kernel))) rfl
theorem im_yX6_fits : Cond.instanceMethod yX6_fits ∈ WS := WS_in (tb_3 (List.mem_of_getElem? (i := 187) (by decide +kernel))) rfl
theorem se_yX6_fits : Cond.selects RX6 yX6_fits yX6_fits ∈ WS := WS_in (tb_3 (List.mem_of_getElem? (i := 188) (by decide +kernel))) rfl
theorem co_yX6_fits : Cond.code yX6_fits cX6_fits 4 (some .int) ∈ WS := WS_in (tb_3 (List.mem_of_getElem? (i := 189) (by decide +kernel))) rfl
theorem mk_X6_223 : Cond.methodLink RX6 223 yX6_isSheet ∈ WS := WS_in (tb_3 (List.mem_of_getElem? (i := 190) (by decide +kernel))) rfl
theorem st_yX6_isSheet : Cond.static yX6_isSheet ∈ WS := WS_in (tb_3 (List.mem_of_getElem? (i := 191) (by decide +kernel))) rfl
theorem co_yX6_isSheet : Cond.code yX6_isSheet cX6_isSheet 1 (some .boolean) ∈ WS := WS_in (tb_3 (List.mem_of_getElem? (i := 192) (by decide +kernel))) rfl
theorem mk_X6_226 : Cond.methodLink RX6 226 yX3_isMissing ∈ WS := WS_in (tb_3 (List.mem_of_getElem? (i := 193) (by decide +kernel))) rfl
theorem im_yX3_isMissing : Cond.instanceMethod yX3_isMissing ∈ WS := WS_in (tb_3 (List.mem_of_getElem? (i := 194) (by decide +kernel))) rfl
theorem se_yX3_isMissing : Cond.selects RX3 yX3_isMissing yX3_isMissing ∈ WS := WS_in (tb_3 (List.mem_of_getElem? (i := 195) (by decide +kernel))) rfl
theorem co_yX3_isMissing : Cond.code yX3_isMissing cX3_isMissing 1 (some .boolean) ∈ WS := WS_in (tb_3 (List.mem_of_getElem? (i := 196) (by decide +kernel))) rfl
theorem mk_X6_230 : Cond.methodLink RX6 230 yX0_rightOnes ∈ WS := WS_in (tb_3 (List.mem_of_getElem? (i := 197) (by decide +kernel))) rfl
theorem im_yX0_rightOnes : Cond.instanceMethod yX0_rightOnes ∈ WS := WS_in (tb_3 (List.mem_of_getElem? (i := 198) (by decide +kernel))) rfl
theorem se_yX0_rightOnes : Cond.selects RX0 yX0_rightOnes yX0_rightOnes ∈ WS := WS_in (tb_3 (List.mem_of_getElem? (i := 199) (by decide +kernel))) rfl
theorem co_yX0_rightOnes : Cond.code yX0_rightOnes cX0_rightOnes 3 (some .int) ∈ WS := WS_in (tb_3 (List.mem_of_getElem? (i := 200) (by decide +kernel))) rfl
theorem mk_X0_159 : Cond.methodLink RX0 159 yX0_hasSpan ∈ WS := WS_in (tb_3 (List.mem_of_getElem? (i := 201) (by decide +kernel))) rfl
theorem mk_L_116 : Cond.methodLink RL 116 yX6_voice ∈ WS := WS_in (tb_3 (List.mem_of_getElem? (i := 202) (by decide +kernel))) rfl
theorem im_yX6_voice : Cond.instanceMethod yX6_voice ∈ WS := WS_in (tb_3 (List.mem_of_getElem? (i := 203) (by decide +kernel))) rfl
theorem se_yX6_voice : Cond.selects RX6 yX6_voice yX6_voice ∈ WS := WS_in (tb_3 (List.mem_of_getElem? (i := 204) (by decide +kernel))) rfl
theorem co_yX6_voice : Cond.code yX6_voice cX6_voice 5 (some .int) ∈ WS := WS_in (tb_3 (List.mem_of_getElem? (i := 205) (by decide +kernel))) rfl
theorem mk_X6_237 : Cond.methodLink RX6 237 yX5_speak ∈ WS := WS_in (tb_3 (List.mem_of_getElem? (i := 206) (by decide +kernel))) rfl
theorem im_yX5_speak : Cond.instanceMethod yX5_speak ∈ WS := WS_in (tb_3 (List.mem_of_getElem? (i := 207) (by decide +kernel))) rfl
theorem se_yX5_speak : Cond.selects RX5 yX5_speak yX5_speak ∈ WS := WS_in (tb_3 (List.mem_of_getElem? (i := 208) (by decide +kernel))) rfl
theorem co_yX5_speak : Cond.code yX5_speak cX5_speak 5 (some .int) ∈ WS := WS_in (tb_3 (List.mem_of_getElem? (i := 209) (by decide +kernel))) rfl
theorem mk_X5_36 : Cond.methodLink RX5 36 yX5_say ∈ WS := WS_in (tb_3 (List.mem_of_getElem? (i := 210) (by decide +kernel))) rfl
theorem im_yX5_say : Cond.instanceMethod yX5_say ∈ WS := WS_in (tb_3 (List.mem_of_getElem? (i := 212) (by decide +kernel))) rfl
theorem co_yX5_say : Cond.code yX5_say cX5_say 8 (some .int) ∈ WS := WS_in (tb_3 (List.mem_of_getElem? (i := 213) (by decide +kernel))) rfl
theorem mk_X5_51 : Cond.methodLink RX5 51 yX5_begin ∈ WS := WS_in (tb_3 (List.mem_of_getElem? (i := 218) (by decide +kernel))) rfl
theorem im_yX5_begin : Cond.instanceMethod yX5_begin ∈ WS := WS_in (tb_3 (List.mem_of_getElem? (i := 220) (by decide +kernel))) rfl
theorem co_yX5_begin : Cond.code yX5_begin cX5_begin 6 (some .int) ∈ WS := WS_in (tb_3 (List.mem_of_getElem? (i := 221) (by decide +kernel))) rfl
theorem mk_X5_54 : Cond.methodLink RX5 54 yX5_part ∈ WS := WS_in (tb_3 (List.mem_of_getElem? (i := 222) (by decide +kernel))) rfl
theorem im_yX5_part : Cond.instanceMethod yX5_part ∈ WS := WS_in (tb_3 (List.mem_of_getElem? (i := 224) (by decide +kernel))) rfl
theorem co_yX5_part : Cond.code yX5_part cX5_part 3 (some .int) ∈ WS := WS_in (tb_3 (List.mem_of_getElem? (i := 225) (by decide +kernel))) rfl
theorem mk_L_120 : Cond.methodLink RL 120 yX6_body ∈ WS := WS_in (tb_3 (List.mem_of_getElem? (i := 226) (by decide +kernel))) rfl
theorem im_yX6_body : Cond.instanceMethod yX6_body ∈ WS := WS_in (tb_3 (List.mem_of_getElem? (i := 227) (by decide +kernel))) rfl
theorem se_yX6_body : Cond.selects RX6 yX6_body yX6_body ∈ WS := WS_in (tb_3 (List.mem_of_getElem? (i := 228) (by decide +kernel))) rfl
theorem co_yX6_body : Cond.code yX6_body cX6_body 2 (some .int) ∈ WS := WS_in (tb_3 (List.mem_of_getElem? (i := 229) (by decide +kernel))) rfl
theorem mk_L_124 : Cond.methodLink RL 124 yX6_sheet ∈ WS := WS_in (tb_3 (List.mem_of_getElem? (i := 230) (by decide +kernel))) rfl
theorem im_yX6_sheet : Cond.instanceMethod yX6_sheet ∈ WS := WS_in (tb_3 (List.mem_of_getElem? (i := 231) (by decide +kernel))) rfl
theorem se_yX6_sheet : Cond.selects RX6 yX6_sheet yX6_sheet ∈ WS := WS_in (tb_3 (List.mem_of_getElem? (i := 232) (by decide +kernel))) rfl
theorem co_yX6_sheet : Cond.code yX6_sheet cX6_sheet 4 (some .int) ∈ WS := WS_in (tb_3 (List.mem_of_getElem? (i := 233) (by decide +kernel))) rfl
theorem mk_X6_250 : Cond.methodLink RX6 250 yX3_renew ∈ WS := WS_in (tb_3 (List.mem_of_getElem? (i := 234) (by decide +kernel))) rfl
theorem im_yX3_renew : Cond.instanceMethod yX3_renew ∈ WS := WS_in (tb_3 (List.mem_of_getElem? (i := 235) (by decide +kernel))) rfl
theorem se_yX3_renew : Cond.selects RX3 yX3_renew yX3_renew ∈ WS := WS_in (tb_3 (List.mem_of_getElem? (i := 236) (by decide +kernel))) rfl
theorem co_yX3_renew : Cond.code yX3_renew cX3_renew 4 none ∈ WS := WS_in (tb_3 (List.mem_of_getElem? (i := 237) (by decide +kernel))) rfl
theorem mk_L_128 : Cond.methodLink RL 128 yX6_put ∈ WS := WS_in (tb_3 (List.mem_of_getElem? (i := 238) (by decide +kernel))) rfl
theorem im_yX6_put : Cond.instanceMethod yX6_put ∈ WS := WS_in (tb_3 (List.mem_of_getElem? (i := 239) (by decide +kernel))) rfl
theorem se_yX6_put : Cond.selects RX6 yX6_put yX6_put ∈ WS := WS_in (tb_4 (List.mem_of_getElem? (i := 0) (by decide +kernel))) rfl
theorem co_yX6_put : Cond.code yX6_put cX6_put 5 (some .int) ∈ WS := WS_in (tb_4 (List.mem_of_getElem? (i := 1) (by decide +kernel))) rfl
theorem mk_X6_254 : Cond.methodLink RX6 254 yX3_write ∈ WS := WS_in (tb_4 (List.mem_of_getElem? (i := 2) (by decide +kernel))) rfl
theorem im_yX3_write : Cond.instanceMethod yX3_write ∈ WS := WS_in (tb_4 (List.mem_of_getElem? (i := 3) (by decide +kernel))) rfl
theorem se_yX3_write : Cond.selects RX3 yX3_write yX3_write ∈ WS := WS_in (tb_4 (List.mem_of_getElem? (i := 4) (by decide +kernel))) rfl
theorem co_yX3_write : Cond.code yX3_write cX3_write 3 none ∈ WS := WS_in (tb_4 (List.mem_of_getElem? (i := 5) (by decide +kernel))) rfl
theorem mk_L_132 : Cond.methodLink RL 132 yX6_move ∈ WS := WS_in (tb_4 (List.mem_of_getElem? (i := 6) (by decide +kernel))) rfl
theorem im_yX6_move : Cond.instanceMethod yX6_move ∈ WS := WS_in (tb_4 (List.mem_of_getElem? (i := 7) (by decide +kernel))) rfl
theorem se_yX6_move : Cond.selects RX6 yX6_move yX6_move ∈ WS := WS_in (tb_4 (List.mem_of_getElem? (i := 8) (by decide +kernel))) rfl
theorem co_yX6_move : Cond.code yX6_move cX6_move 8 (some .int) ∈ WS := WS_in (tb_4 (List.mem_of_getElem? (i := 9) (by decide +kernel))) rfl
theorem mk_X6_259 : Cond.methodLink RX6 259 yX3_hasRow ∈ WS := WS_in (tb_4 (List.mem_of_getElem? (i := 10) (by decide +kernel))) rfl
theorem im_yX3_hasRow : Cond.instanceMethod yX3_hasRow ∈ WS := WS_in (tb_4 (List.mem_of_getElem? (i := 11) (by decide +kernel))) rfl
theorem se_yX3_hasRow : Cond.selects RX3 yX3_hasRow yX3_hasRow ∈ WS := WS_in (tb_4 (List.mem_of_getElem? (i := 12) (by decide +kernel))) rfl
theorem co_yX3_hasRow : Cond.code yX3_hasRow cX3_hasRow 3 (some .boolean) ∈ WS := WS_in (tb_4 (List.mem_of_getElem? (i := 13) (by decide +kernel))) rfl
theorem mk_X6_265 : Cond.methodLink RX6 265 arraycopyName ∈ WS := WS_in (tb_4 (List.mem_of_getElem? (i := 14) (by decide +kernel))) rfl
theorem mk_L_137 : Cond.methodLink RL 137 yX6_soaks ∈ WS := WS_in (tb_4 (List.mem_of_getElem? (i := 15) (by decide +kernel))) rfl
theorem im_yX6_soaks : Cond.instanceMethod yX6_soaks ∈ WS := WS_in (tb_4 (List.mem_of_getElem? (i := 16) (by decide +kernel))) rfl
theorem se_yX6_soaks : Cond.selects RX6 yX6_soaks yX6_soaks ∈ WS := WS_in (tb_4 (List.mem_of_getElem? (i := 17) (by decide +kernel))) rfl
theorem co_yX6_soaks : Cond.code yX6_soaks cX6_soaks 5 (some .int) ∈ WS := WS_in (tb_4 (List.mem_of_getElem? (i := 18) (by decide +kernel))) rfl
theorem mk_L_141 : Cond.methodLink RL 141 yX6_judge ∈ WS := WS_in (tb_4 (List.mem_of_getElem? (i := 19) (by decide +kernel))) rfl
theorem im_yX6_judge : Cond.instanceMethod yX6_judge ∈ WS := WS_in (tb_4 (List.mem_of_getElem? (i := 20) (by decide +kernel))) rfl
theorem se_yX6_judge : Cond.selects RX6 yX6_judge yX6_judge ∈ WS := WS_in (tb_4 (List.mem_of_getElem? (i := 21) (by decide +kernel))) rfl
theorem co_yX6_judge : Cond.code yX6_judge cX6_judge 3 (some .int) ∈ WS := WS_in (tb_4 (List.mem_of_getElem? (i := 22) (by decide +kernel))) rfl
theorem mk_L_145 : Cond.methodLink RL 145 yX6_image ∈ WS := WS_in (tb_4 (List.mem_of_getElem? (i := 23) (by decide +kernel))) rfl
theorem im_yX6_image : Cond.instanceMethod yX6_image ∈ WS := WS_in (tb_4 (List.mem_of_getElem? (i := 24) (by decide +kernel))) rfl
theorem se_yX6_image : Cond.selects RX6 yX6_image yX6_image ∈ WS := WS_in (tb_4 (List.mem_of_getElem? (i := 25) (by decide +kernel))) rfl
theorem co_yX6_image : Cond.code yX6_image cX6_image 1 (some .int) ∈ WS := WS_in (tb_4 (List.mem_of_getElem? (i := 26) (by decide +kernel))) rfl
theorem mk_L_150 : Cond.methodLink RL 150 yX6_restore ∈ WS := WS_in (tb_4 (List.mem_of_getElem? (i := 27) (by decide +kernel))) rfl
theorem im_yX6_restore : Cond.instanceMethod yX6_restore ∈ WS := WS_in (tb_4 (List.mem_of_getElem? (i := 28) (by decide +kernel))) rfl
theorem se_yX6_restore : Cond.selects RX6 yX6_restore yX6_restore ∈ WS := WS_in (tb_4 (List.mem_of_getElem? (i := 29) (by decide +kernel))) rfl
theorem co_yX6_restore : Cond.code yX6_restore cX6_restore 1 (some .int) ∈ WS := WS_in (tb_4 (List.mem_of_getElem? (i := 30) (by decide +kernel))) rfl
theorem mk_L_154 : Cond.methodLink RL 154 yX6_tell ∈ WS := WS_in (tb_4 (List.mem_of_getElem? (i := 31) (by decide +kernel))) rfl
theorem im_yX6_tell : Cond.instanceMethod yX6_tell ∈ WS := WS_in (tb_4 (List.mem_of_getElem? (i := 32) (by decide +kernel))) rfl
theorem se_yX6_tell : Cond.selects RX6 yX6_tell yX6_tell ∈ WS := WS_in (tb_4 (List.mem_of_getElem? (i := 33) (by decide +kernel))) rfl
theorem co_yX6_tell : Cond.code yX6_tell cX6_tell 2 (some .int) ∈ WS := WS_in (tb_4 (List.mem_of_getElem? (i := 34) (by decide +kernel))) rfl
theorem mk_L_158 : Cond.methodLink RL 158 yX6_check ∈ WS := WS_in (tb_4 (List.mem_of_getElem? (i := 35) (by decide +kernel))) rfl
theorem im_yX6_check : Cond.instanceMethod yX6_check ∈ WS := WS_in (tb_4 (List.mem_of_getElem? (i := 36) (by decide +kernel))) rfl
theorem se_yX6_check : Cond.selects RX6 yX6_check yX6_check ∈ WS := WS_in (tb_4 (List.mem_of_getElem? (i := 37) (by decide +kernel))) rfl
theorem co_yX6_check : Cond.code yX6_check cX6_check 3 (some .int) ∈ WS := WS_in (tb_4 (List.mem_of_getElem? (i := 38) (by decide +kernel))) rfl
theorem mk_L_162 : Cond.methodLink RL 162 yX6_count ∈ WS := WS_in (tb_4 (List.mem_of_getElem? (i := 39) (by decide +kernel))) rfl
theorem im_yX6_count : Cond.instanceMethod yX6_count ∈ WS := WS_in (tb_4 (List.mem_of_getElem? (i := 40) (by decide +kernel))) rfl
theorem se_yX6_count : Cond.selects RX6 yX6_count yX6_count ∈ WS := WS_in (tb_4 (List.mem_of_getElem? (i := 41) (by decide +kernel))) rfl
theorem co_yX6_count : Cond.code yX6_count cX6_count 2 (some .int) ∈ WS := WS_in (tb_4 (List.mem_of_getElem? (i := 42) (by decide +kernel))) rfl
theorem mk_L_166 : Cond.methodLink RL 166 yX6_told ∈ WS := WS_in (tb_4 (List.mem_of_getElem? (i := 43) (by decide +kernel))) rfl
theorem im_yX6_told : Cond.instanceMethod yX6_told ∈ WS := WS_in (tb_4 (List.mem_of_getElem? (i := 44) (by decide +kernel))) rfl
theorem se_yX6_told : Cond.selects RX6 yX6_told yX6_told ∈ WS := WS_in (tb_4 (List.mem_of_getElem? (i := 45) (by decide +kernel))) rfl
theorem co_yX6_told : Cond.code yX6_told cX6_told 2 (some .int) ∈ WS := WS_in (tb_4 (List.mem_of_getElem? (i := 46) (by decide +kernel))) rfl
theorem ck_L_10 : Cond.classLink RL 10 RX7 ∈ WS := WS_in (tb_4 (List.mem_of_getElem? (i := 47) (by decide +kernel))) rfl
theorem it_X7 : Cond.instantiable RX7 21 ∈ WS := WS_in (tb_4 (List.mem_of_getElem? (i := 48) (by decide +kernel))) rfl
theorem mk_L_12 : Cond.methodLink RL 12 yX7_init ∈ WS := WS_in (tb_4 (List.mem_of_getElem? (i := 49) (by decide +kernel))) rfl
theorem im_yX7_init : Cond.instanceMethod yX7_init ∈ WS := WS_in (tb_4 (List.mem_of_getElem? (i := 50) (by decide +kernel))) rfl
theorem co_yX7_init : Cond.code yX7_init cX7_init 1 none ∈ WS := WS_in (tb_4 (List.mem_of_getElem? (i := 51) (by decide +kernel))) rfl
theorem mk_X7_3 : Cond.methodLink RX7 3 objectInit ∈ WS := WS_in (tb_4 (List.mem_of_getElem? (i := 52) (by decide +kernel))) rfl
theorem fk_X7_9 : Cond.fieldLink RX7 9 "BreadSpansModel" "row" "[I" ∈ WS := WS_in (tb_4 (List.mem_of_getElem? (i := 53) (by decide +kernel))) rfl
theorem fk_X7_13 : Cond.fieldLink RX7 13 "BreadSpansModel" "kept" "[I" ∈ WS := WS_in (tb_4 (List.mem_of_getElem? (i := 54) (by decide +kernel))) rfl
theorem fk_X7_16 : Cond.fieldLink RX7 16 "BreadSpansModel" "before" "[I" ∈ WS := WS_in (tb_4 (List.mem_of_getElem? (i := 55) (by decide +kernel))) rfl
theorem fk_X7_264 : Cond.fieldLink RX7 264 "BreadSpansModel" "images" "I" ∈ WS := WS_in (tb_4 (List.mem_of_getElem? (i := 56) (by decide +kernel))) rfl
theorem fk_X7_19 : Cond.fieldLink RX7 19 "BreadSpansModel" "errors" "[I" ∈ WS := WS_in (tb_4 (List.mem_of_getElem? (i := 57) (by decide +kernel))) rfl
theorem fk_X7_22 : Cond.fieldLink RX7 22 "BreadSpansModel" "bitsOf" "[I" ∈ WS := WS_in (tb_4 (List.mem_of_getElem? (i := 58) (by decide +kernel))) rfl
theorem fk_X7_25 : Cond.fieldLink RX7 25 "BreadSpansModel" "sizeOf" "[I" ∈ WS := WS_in (tb_4 (List.mem_of_getElem? (i := 59) (by decide +kernel))) rfl
theorem fk_X7_28 : Cond.fieldLink RX7 28 "BreadSpansModel" "cells" "[I" ∈ WS := WS_in (tb_4 (List.mem_of_getElem? (i := 60) (by decide +kernel))) rfl
theorem fk_X7_31 : Cond.fieldLink RX7 31 "BreadSpansModel" "act" "[I" ∈ WS := WS_in (tb_4 (List.mem_of_getElem? (i := 61) (by decide +kernel))) rfl
theorem fk_X7_34 : Cond.fieldLink RX7 34 "BreadSpansModel" "with" "[I" ∈ WS := WS_in (tb_4 (List.mem_of_getElem? (i := 62) (by decide +kernel))) rfl
theorem fk_X7_37 : Cond.fieldLink RX7 37 "BreadSpansModel" "facts" "[I" ∈ WS := WS_in (tb_4 (List.mem_of_getElem? (i := 63) (by decide +kernel))) rfl
theorem fk_X7_40 : Cond.fieldLink RX7 40 "BreadSpansModel" "pile" "[I" ∈ WS := WS_in (tb_4 (List.mem_of_getElem? (i := 64) (by decide +kernel))) rfl
theorem fk_X7_121 : Cond.fieldLink RX7 121 "BreadSpansModel" "laid" "I" ∈ WS := WS_in (tb_4 (List.mem_of_getElem? (i := 65) (by decide +kernel))) rfl
theorem fk_X7_117 : Cond.fieldLink RX7 117 "BreadSpansModel" "here" "I" ∈ WS := WS_in (tb_4 (List.mem_of_getElem? (i := 66) (by decide +kernel))) rfl
theorem fk_X7_139 : Cond.fieldLink RX7 139 "BreadSpansModel" "opened" "I" ∈ WS := WS_in (tb_4 (List.mem_of_getElem? (i := 67) (by decide +kernel))) rfl
theorem fk_X7_131 : Cond.fieldLink RX7 131 "BreadSpansModel" "bad" "Z" ∈ WS := WS_in (tb_4 (List.mem_of_getElem? (i := 68) (by decide +kernel))) rfl
theorem fk_X7_124 : Cond.fieldLink RX7 124 "BreadSpansModel" "using" "I" ∈ WS := WS_in (tb_4 (List.mem_of_getElem? (i := 69) (by decide +kernel))) rfl
theorem fk_X7_43 : Cond.fieldLink RX7 43 "BreadSpansModel" "bearing" "[I" ∈ WS := WS_in (tb_4 (List.mem_of_getElem? (i := 70) (by decide +kernel))) rfl
theorem fk_X7_46 : Cond.fieldLink RX7 46 "BreadSpansModel" "trace" "[I" ∈ WS := WS_in (tb_4 (List.mem_of_getElem? (i := 71) (by decide +kernel))) rfl
theorem fk_X7_217 : Cond.fieldLink RX7 217 "BreadSpansModel" "traced" "I" ∈ WS := WS_in (tb_4 (List.mem_of_getElem? (i := 72) (by decide +kernel))) rfl
theorem fk_X7_244 : Cond.fieldLink RX7 244 "BreadSpansModel" "isParted" "Z" ∈ WS := WS_in (tb_4 (List.mem_of_getElem? (i := 73) (by decide +kernel))) rfl
theorem mk_L_17 : Cond.methodLink RL 17 yX7_span ∈ WS := WS_in (tb_4 (List.mem_of_getElem? (i := 117) (by decide +kernel))) rfl
theorem im_yX7_span : Cond.instanceMethod yX7_span ∈ WS := WS_in (tb_4 (List.mem_of_getElem? (i := 118) (by decide +kernel))) rfl
theorem se_yX7_span : Cond.selects RX7 yX7_span yX7_span ∈ WS := WS_in (tb_4 (List.mem_of_getElem? (i := 119) (by decide +kernel))) rfl
theorem co_yX7_span : Cond.code yX7_span cX7_span 5 (some .int) ∈ WS := WS_in (tb_4 (List.mem_of_getElem? (i := 120) (by decide +kernel))) rfl
theorem mk_X7_73 : Cond.methodLink RX7 73 yX7_isKm ∈ WS := WS_in (tb_4 (List.mem_of_getElem? (i := 121) (by decide +kernel))) rfl
theorem st_yX7_isKm : Cond.static yX7_isKm ∈ WS := WS_in (tb_4 (List.mem_of_getElem? (i := 122) (by decide +kernel))) rfl
theorem co_yX7_isKm : Cond.code yX7_isKm cX7_isKm 1 (some .boolean) ∈ WS := WS_in (tb_4 (List.mem_of_getElem? (i := 123) (by decide +kernel))) rfl
theorem mk_X7_54 : Cond.methodLink RX7 54 yX7_in ∈ WS := WS_in (tb_4 (List.mem_of_getElem? (i := 124) (by decide +kernel))) rfl
theorem st_yX7_in : Cond.static yX7_in ∈ WS := WS_in (tb_4 (List.mem_of_getElem? (i := 125) (by decide +kernel))) rfl
theorem co_yX7_in : Cond.code yX7_in cX7_in 3 (some .boolean) ∈ WS := WS_in (tb_4 (List.mem_of_getElem? (i := 126) (by decide +kernel))) rfl
theorem mk_X7_76 : Cond.methodLink RX7 76 yX7_areTwo ∈ WS := WS_in (tb_4 (List.mem_of_getElem? (i := 127) (by decide +kernel))) rfl
theorem st_yX7_areTwo : Cond.static yX7_areTwo ∈ WS := WS_in (tb_4 (List.mem_of_getElem? (i := 128) (by decide +kernel))) rfl
theorem co_yX7_areTwo : Cond.code yX7_areTwo cX7_areTwo 2 (some .boolean) ∈ WS := WS_in (tb_4 (List.mem_of_getElem? (i := 129) (by decide +kernel))) rfl
theorem mk_X7_58 : Cond.methodLink RX7 58 yX7_isPlace ∈ WS := WS_in (tb_4 (List.mem_of_getElem? (i := 130) (by decide +kernel))) rfl
theorem st_yX7_isPlace : Cond.static yX7_isPlace ∈ WS := WS_in (tb_4 (List.mem_of_getElem? (i := 131) (by decide +kernel))) rfl
theorem co_yX7_isPlace : Cond.code yX7_isPlace cX7_isPlace 1 (some .boolean) ∈ WS := WS_in (tb_4 (List.mem_of_getElem? (i := 132) (by decide +kernel))) rfl
theorem kn_X7_80 : Cond.constant RX7 80 (-1000000001) ∈ WS := WS_in (tb_4 (List.mem_of_getElem? (i := 133) (by decide +kernel))) rfl
theorem mk_X7_81 : Cond.methodLink RX7 81 yX7_error ∈ WS := WS_in (tb_4 (List.mem_of_getElem? (i := 134) (by decide +kernel))) rfl
theorem im_yX7_error : Cond.instanceMethod yX7_error ∈ WS := WS_in (tb_4 (List.mem_of_getElem? (i := 136) (by decide +kernel))) rfl
theorem co_yX7_error : Cond.code yX7_error cX7_error 2 (some .int) ∈ WS := WS_in (tb_4 (List.mem_of_getElem? (i := 137) (by decide +kernel))) rfl
theorem kn_X7_49 : Cond.constant RX7 49 (-1000000000) ∈ WS := WS_in (tb_4 (List.mem_of_getElem? (i := 138) (by decide +kernel))) rfl
theorem kn_X7_85 : Cond.constant RX7 85 (-1000000004) ∈ WS := WS_in (tb_4 (List.mem_of_getElem? (i := 139) (by decide +kernel))) rfl
theorem mk_X7_86 : Cond.methodLink RX7 86 yX7_lets ∈ WS := WS_in (tb_4 (List.mem_of_getElem? (i := 140) (by decide +kernel))) rfl
theorem im_yX7_lets : Cond.instanceMethod yX7_lets ∈ WS := WS_in (tb_4 (List.mem_of_getElem? (i := 142) (by decide +kernel))) rfl
theorem co_yX7_lets : Cond.code yX7_lets cX7_lets 4 none ∈ WS := WS_in (tb_4 (List.mem_of_getElem? (i := 143) (by decide +kernel))) rfl
theorem mk_L_22 : Cond.methodLink RL 22 yX7_spanIs ∈ WS := WS_in (tb_4 (List.mem_of_getElem? (i := 144) (by decide +kernel))) rfl
theorem im_yX7_spanIs : Cond.instanceMethod yX7_spanIs ∈ WS := WS_in (tb_4 (List.mem_of_getElem? (i := 145) (by decide +kernel))) rfl
theorem se_yX7_spanIs : Cond.selects RX7 yX7_spanIs yX7_spanIs ∈ WS := WS_in (tb_4 (List.mem_of_getElem? (i := 146) (by decide +kernel))) rfl
theorem co_yX7_spanIs : Cond.code yX7_spanIs cX7_spanIs 3 (some .int) ∈ WS := WS_in (tb_4 (List.mem_of_getElem? (i := 147) (by decide +kernel))) rfl
theorem mk_X7_90 : Cond.methodLink RX7 90 yX7_isSpan ∈ WS := WS_in (tb_4 (List.mem_of_getElem? (i := 148) (by decide +kernel))) rfl
theorem im_yX7_isSpan : Cond.instanceMethod yX7_isSpan ∈ WS := WS_in (tb_4 (List.mem_of_getElem? (i := 150) (by decide +kernel))) rfl
theorem co_yX7_isSpan : Cond.code yX7_isSpan cX7_isSpan 2 (some .boolean) ∈ WS := WS_in (tb_4 (List.mem_of_getElem? (i := 151) (by decide +kernel))) rfl
theorem mk_X7_62 : Cond.methodLink RX7 62 yX7_of ∈ WS := WS_in (tb_4 (List.mem_of_getElem? (i := 152) (by decide +kernel))) rfl
theorem im_yX7_of : Cond.instanceMethod yX7_of ∈ WS := WS_in (tb_4 (List.mem_of_getElem? (i := 154) (by decide +kernel))) rfl
theorem co_yX7_of : Cond.code yX7_of cX7_of 3 (some .int) ∈ WS := WS_in (tb_4 (List.mem_of_getElem? (i := 155) (by decide +kernel))) rfl
theorem mk_X7_93 : Cond.methodLink RX7 93 yX7_bearsOf ∈ WS := WS_in (tb_4 (List.mem_of_getElem? (i := 156) (by decide +kernel))) rfl
theorem im_yX7_bearsOf : Cond.instanceMethod yX7_bearsOf ∈ WS := WS_in (tb_4 (List.mem_of_getElem? (i := 158) (by decide +kernel))) rfl
theorem co_yX7_bearsOf : Cond.code yX7_bearsOf cX7_bearsOf 2 (some .int) ∈ WS := WS_in (tb_4 (List.mem_of_getElem? (i := 159) (by decide +kernel))) rfl
theorem mk_X7_70 : Cond.methodLink RX7 70 yX7_bearsBy ∈ WS := WS_in (tb_4 (List.mem_of_getElem? (i := 160) (by decide +kernel))) rfl
theorem im_yX7_bearsBy : Cond.instanceMethod yX7_bearsBy ∈ WS := WS_in (tb_4 (List.mem_of_getElem? (i := 162) (by decide +kernel))) rfl
theorem co_yX7_bearsBy : Cond.code yX7_bearsBy cX7_bearsBy 7 (some .int) ∈ WS := WS_in (tb_4 (List.mem_of_getElem? (i := 163) (by decide +kernel))) rfl
theorem mk_X7_66 : Cond.methodLink RX7 66 yX7_held ∈ WS := WS_in (tb_4 (List.mem_of_getElem? (i := 164) (by decide +kernel))) rfl
theorem st_yX7_held : Cond.static yX7_held ∈ WS := WS_in (tb_4 (List.mem_of_getElem? (i := 165) (by decide +kernel))) rfl
theorem co_yX7_held : Cond.code yX7_held cX7_held 3 (some .int) ∈ WS := WS_in (tb_4 (List.mem_of_getElem? (i := 166) (by decide +kernel))) rfl
theorem mk_X7_96 : Cond.methodLink RX7 96 yX7_takesOf ∈ WS := WS_in (tb_4 (List.mem_of_getElem? (i := 167) (by decide +kernel))) rfl
theorem im_yX7_takesOf : Cond.instanceMethod yX7_takesOf ∈ WS := WS_in (tb_4 (List.mem_of_getElem? (i := 169) (by decide +kernel))) rfl
theorem co_yX7_takesOf : Cond.code yX7_takesOf cX7_takesOf 3 (some .int) ∈ WS := WS_in (tb_4 (List.mem_of_getElem? (i := 170) (by decide +kernel))) rfl
theorem mk_L_26 : Cond.methodLink RL 26 yX7_become ∈ WS := WS_in (tb_4 (List.mem_of_getElem? (i := 171) (by decide +kernel))) rfl
theorem im_yX7_become : Cond.instanceMethod yX7_become ∈ WS := WS_in (tb_4 (List.mem_of_getElem? (i := 172) (by decide +kernel))) rfl
theorem se_yX7_become : Cond.selects RX7 yX7_become yX7_become ∈ WS := WS_in (tb_4 (List.mem_of_getElem? (i := 173) (by decide +kernel))) rfl
theorem co_yX7_become : Cond.code yX7_become cX7_become 3 (some .int) ∈ WS := WS_in (tb_4 (List.mem_of_getElem? (i := 174) (by decide +kernel))) rfl
theorem mk_X7_99 : Cond.methodLink RX7 99 yX7_becomes ∈ WS := WS_in (tb_4 (List.mem_of_getElem? (i := 175) (by decide +kernel))) rfl
theorem im_yX7_becomes : Cond.instanceMethod yX7_becomes ∈ WS := WS_in (tb_4 (List.mem_of_getElem? (i := 177) (by decide +kernel))) rfl
theorem co_yX7_becomes : Cond.code yX7_becomes cX7_becomes 4 (some .int) ∈ WS := WS_in (tb_4 (List.mem_of_getElem? (i := 178) (by decide +kernel))) rfl
theorem mk_L_30 : Cond.methodLink RL 30 yX7_as ∈ WS := WS_in (tb_4 (List.mem_of_getElem? (i := 179) (by decide +kernel))) rfl
theorem im_yX7_as : Cond.instanceMethod yX7_as ∈ WS := WS_in (tb_4 (List.mem_of_getElem? (i := 180) (by decide +kernel))) rfl
theorem se_yX7_as : Cond.selects RX7 yX7_as yX7_as ∈ WS := WS_in (tb_4 (List.mem_of_getElem? (i := 181) (by decide +kernel))) rfl
theorem co_yX7_as : Cond.code yX7_as cX7_as 5 (some .int) ∈ WS := WS_in (tb_4 (List.mem_of_getElem? (i := 182) (by decide +kernel))) rfl
theorem kn_X7_102 : Cond.constant RX7 102 (-1000000005) ∈ WS := WS_in (tb_4 (List.mem_of_getElem? (i := 183) (by decide +kernel))) rfl
theorem mk_L_34 : Cond.methodLink RL 34 yX7_soak ∈ WS := WS_in (tb_4 (List.mem_of_getElem? (i := 184) (by decide +kernel))) rfl
theorem im_yX7_soak : Cond.instanceMethod yX7_soak ∈ WS := WS_in (tb_4 (List.mem_of_getElem? (i := 185) (by decide +kernel))) rfl
theorem se_yX7_soak : Cond.selects RX7 yX7_soak yX7_soak ∈ WS := WS_in (tb_4 (List.mem_of_getElem? (i := 186) (by decide +kernel))) rfl
theorem co_yX7_soak : Cond.code yX7_soak cX7_soak 3 (some .int) ∈ WS := WS_in (tb_4 (List.mem_of_getElem? (i := 187) (by decide +kernel))) rfl
theorem mk_L_39 : Cond.methodLink RL 39 yX7_bakes ∈ WS := WS_in (tb_4 (List.mem_of_getElem? (i := 188) (by decide +kernel))) rfl
theorem im_yX7_bakes : Cond.instanceMethod yX7_bakes ∈ WS := WS_in (tb_4 (List.mem_of_getElem? (i := 189) (by decide +kernel))) rfl
theorem se_yX7_bakes : Cond.selects RX7 yX7_bakes yX7_bakes ∈ WS := WS_in (tb_4 (List.mem_of_getElem? (i := 190) (by decide +kernel))) rfl
theorem co_yX7_bakes : Cond.code yX7_bakes cX7_bakes 3 (some .int) ∈ WS := WS_in (tb_4 (List.mem_of_getElem? (i := 191) (by decide +kernel))) rfl
theorem kn_X7_103 : Cond.constant RX7 103 (-1000000003) ∈ WS := WS_in (tb_4 (List.mem_of_getElem? (i := 192) (by decide +kernel))) rfl
theorem mk_L_43 : Cond.methodLink RL 43 yX7_eat ∈ WS := WS_in (tb_4 (List.mem_of_getElem? (i := 193) (by decide +kernel))) rfl
theorem im_yX7_eat : Cond.instanceMethod yX7_eat ∈ WS := WS_in (tb_4 (List.mem_of_getElem? (i := 194) (by decide +kernel))) rfl
theorem se_yX7_eat : Cond.selects RX7 yX7_eat yX7_eat ∈ WS := WS_in (tb_4 (List.mem_of_getElem? (i := 195) (by decide +kernel))) rfl
theorem co_yX7_eat : Cond.code yX7_eat cX7_eat 2 (some .int) ∈ WS := WS_in (tb_4 (List.mem_of_getElem? (i := 196) (by decide +kernel))) rfl
theorem mk_L_47 : Cond.methodLink RL 47 yX7_store ∈ WS := WS_in (tb_4 (List.mem_of_getElem? (i := 197) (by decide +kernel))) rfl
theorem im_yX7_store : Cond.instanceMethod yX7_store ∈ WS := WS_in (tb_4 (List.mem_of_getElem? (i := 198) (by decide +kernel))) rfl
theorem se_yX7_store : Cond.selects RX7 yX7_store yX7_store ∈ WS := WS_in (tb_4 (List.mem_of_getElem? (i := 199) (by decide +kernel))) rfl
theorem co_yX7_store : Cond.code yX7_store cX7_store 4 (some .int) ∈ WS := WS_in (tb_4 (List.mem_of_getElem? (i := 200) (by decide +kernel))) rfl
theorem mk_L_51 : Cond.methodLink RL 51 yX7_cross ∈ WS := WS_in (tb_4 (List.mem_of_getElem? (i := 201) (by decide +kernel))) rfl
theorem im_yX7_cross : Cond.instanceMethod yX7_cross ∈ WS := WS_in (tb_4 (List.mem_of_getElem? (i := 202) (by decide +kernel))) rfl
theorem se_yX7_cross : Cond.selects RX7 yX7_cross yX7_cross ∈ WS := WS_in (tb_4 (List.mem_of_getElem? (i := 203) (by decide +kernel))) rfl
theorem co_yX7_cross : Cond.code yX7_cross cX7_cross 3 (some .int) ∈ WS := WS_in (tb_4 (List.mem_of_getElem? (i := 204) (by decide +kernel))) rfl
theorem mk_X7_109 : Cond.methodLink RX7 109 yX7_isLoad ∈ WS := WS_in (tb_4 (List.mem_of_getElem? (i := 205) (by decide +kernel))) rfl
theorem st_yX7_isLoad : Cond.static yX7_isLoad ∈ WS := WS_in (tb_4 (List.mem_of_getElem? (i := 206) (by decide +kernel))) rfl
theorem co_yX7_isLoad : Cond.code yX7_isLoad cX7_isLoad 1 (some .boolean) ∈ WS := WS_in (tb_4 (List.mem_of_getElem? (i := 207) (by decide +kernel))) rfl
theorem mk_X7_112 : Cond.methodLink RX7 112 yX7_crosses ∈ WS := WS_in (tb_4 (List.mem_of_getElem? (i := 208) (by decide +kernel))) rfl
theorem im_yX7_crosses : Cond.instanceMethod yX7_crosses ∈ WS := WS_in (tb_4 (List.mem_of_getElem? (i := 210) (by decide +kernel))) rfl
theorem co_yX7_crosses : Cond.code yX7_crosses cX7_crosses 5 (some .int) ∈ WS := WS_in (tb_4 (List.mem_of_getElem? (i := 211) (by decide +kernel))) rfl
theorem kn_X7_104 : Cond.constant RX7 104 99999 ∈ WS := WS_in (tb_4 (List.mem_of_getElem? (i := 212) (by decide +kernel))) rfl
theorem mk_X7_105 : Cond.methodLink RX7 105 yX7_gives ∈ WS := WS_in (tb_4 (List.mem_of_getElem? (i := 213) (by decide +kernel))) rfl
theorem im_yX7_gives : Cond.instanceMethod yX7_gives ∈ WS := WS_in (tb_4 (List.mem_of_getElem? (i := 215) (by decide +kernel))) rfl
theorem co_yX7_gives : Cond.code yX7_gives cX7_gives 7 (some .int) ∈ WS := WS_in (tb_4 (List.mem_of_getElem? (i := 216) (by decide +kernel))) rfl
theorem mk_X7_173 : Cond.methodLink RX7 173 yX7_works ∈ WS := WS_in (tb_4 (List.mem_of_getElem? (i := 217) (by decide +kernel))) rfl
theorem im_yX7_works : Cond.instanceMethod yX7_works ∈ WS := WS_in (tb_4 (List.mem_of_getElem? (i := 219) (by decide +kernel))) rfl
theorem co_yX7_works : Cond.code yX7_works cX7_works 5 (some .int) ∈ WS := WS_in (tb_4 (List.mem_of_getElem? (i := 220) (by decide +kernel))) rfl
theorem mk_X7_170 : Cond.methodLink RX7 170 yX7_twoOf ∈ WS := WS_in (tb_4 (List.mem_of_getElem? (i := 221) (by decide +kernel))) rfl
theorem st_yX7_twoOf : Cond.static yX7_twoOf ∈ WS := WS_in (tb_4 (List.mem_of_getElem? (i := 222) (by decide +kernel))) rfl
theorem co_yX7_twoOf : Cond.code yX7_twoOf cX7_twoOf 3 (some .int) ∈ WS := WS_in (tb_4 (List.mem_of_getElem? (i := 223) (by decide +kernel))) rfl
theorem mk_L_58 : Cond.methodLink RL 58 yX7_feed ∈ WS := WS_in (tb_4 (List.mem_of_getElem? (i := 224) (by decide +kernel))) rfl
theorem im_yX7_feed : Cond.instanceMethod yX7_feed ∈ WS := WS_in (tb_4 (List.mem_of_getElem? (i := 225) (by decide +kernel))) rfl
theorem se_yX7_feed : Cond.selects RX7 yX7_feed yX7_feed ∈ WS := WS_in (tb_4 (List.mem_of_getElem? (i := 226) (by decide +kernel))) rfl
theorem co_yX7_feed : Cond.code yX7_feed cX7_feed 5 (some .int) ∈ WS := WS_in (tb_4 (List.mem_of_getElem? (i := 227) (by decide +kernel))) rfl
theorem kn_X7_115 : Cond.constantLong RX7 115 255 ∈ WS := WS_in (tb_4 (List.mem_of_getElem? (i := 228) (by decide +kernel))) rfl
theorem mk_L_62 : Cond.methodLink RL 62 yX7_text ∈ WS := WS_in (tb_4 (List.mem_of_getElem? (i := 229) (by decide +kernel))) rfl
theorem im_yX7_text : Cond.instanceMethod yX7_text ∈ WS := WS_in (tb_4 (List.mem_of_getElem? (i := 230) (by decide +kernel))) rfl
theorem se_yX7_text : Cond.selects RX7 yX7_text yX7_text ∈ WS := WS_in (tb_4 (List.mem_of_getElem? (i := 231) (by decide +kernel))) rfl
theorem co_yX7_text : Cond.code yX7_text cX7_text 4 (some .int) ∈ WS := WS_in (tb_4 (List.mem_of_getElem? (i := 232) (by decide +kernel))) rfl
theorem mk_X7_145 : Cond.methodLink RX7 145 yX7_any ∈ WS := WS_in (tb_4 (List.mem_of_getElem? (i := 233) (by decide +kernel))) rfl
theorem im_yX7_any : Cond.instanceMethod yX7_any ∈ WS := WS_in (tb_4 (List.mem_of_getElem? (i := 235) (by decide +kernel))) rfl
theorem co_yX7_any : Cond.code yX7_any cX7_any 1 none ∈ WS := WS_in (tb_4 (List.mem_of_getElem? (i := 236) (by decide +kernel))) rfl
theorem mk_X7_167 : Cond.methodLink RX7 167 yX7_all ∈ WS := WS_in (tb_4 (List.mem_of_getElem? (i := 237) (by decide +kernel))) rfl
theorem im_yX7_all : Cond.instanceMethod yX7_all ∈ WS := WS_in (tb_4 (List.mem_of_getElem? (i := 239) (by decide +kernel))) rfl
theorem co_yX7_all : Cond.code yX7_all cX7_all 1 none ∈ WS := WS_in (tb_5 (List.mem_of_getElem? (i := 0) (by decide +kernel))) rfl
theorem mk_X7_164 : Cond.methodLink RX7 164 yX7_compares ∈ WS := WS_in (tb_5 (List.mem_of_getElem? (i := 1) (by decide +kernel))) rfl
theorem im_yX7_compares : Cond.instanceMethod yX7_compares ∈ WS := WS_in (tb_5 (List.mem_of_getElem? (i := 3) (by decide +kernel))) rfl
theorem co_yX7_compares : Cond.code yX7_compares cX7_compares 2 none ∈ WS := WS_in (tb_5 (List.mem_of_getElem? (i := 4) (by decide +kernel))) rfl
theorem mk_X7_161 : Cond.methodLink RX7 161 yX7_sum ∈ WS := WS_in (tb_5 (List.mem_of_getElem? (i := 5) (by decide +kernel))) rfl
theorem im_yX7_sum : Cond.instanceMethod yX7_sum ∈ WS := WS_in (tb_5 (List.mem_of_getElem? (i := 7) (by decide +kernel))) rfl
theorem co_yX7_sum : Cond.code yX7_sum cX7_sum 2 none ∈ WS := WS_in (tb_5 (List.mem_of_getElem? (i := 8) (by decide +kernel))) rfl
theorem mk_X7_158 : Cond.methodLink RX7 158 yX7_times ∈ WS := WS_in (tb_5 (List.mem_of_getElem? (i := 9) (by decide +kernel))) rfl
theorem im_yX7_times : Cond.instanceMethod yX7_times ∈ WS := WS_in (tb_5 (List.mem_of_getElem? (i := 11) (by decide +kernel))) rfl
theorem co_yX7_times : Cond.code yX7_times cX7_times 2 none ∈ WS := WS_in (tb_5 (List.mem_of_getElem? (i := 12) (by decide +kernel))) rfl
theorem mk_X7_142 : Cond.methodLink RX7 142 yX7_one ∈ WS := WS_in (tb_5 (List.mem_of_getElem? (i := 13) (by decide +kernel))) rfl
theorem im_yX7_one : Cond.instanceMethod yX7_one ∈ WS := WS_in (tb_5 (List.mem_of_getElem? (i := 15) (by decide +kernel))) rfl
theorem co_yX7_one : Cond.code yX7_one cX7_one 3 none ∈ WS := WS_in (tb_5 (List.mem_of_getElem? (i := 16) (by decide +kernel))) rfl
theorem mk_X7_127 : Cond.methodLink RX7 127 yX7_look ∈ WS := WS_in (tb_5 (List.mem_of_getElem? (i := 17) (by decide +kernel))) rfl
theorem im_yX7_look : Cond.instanceMethod yX7_look ∈ WS := WS_in (tb_5 (List.mem_of_getElem? (i := 19) (by decide +kernel))) rfl
theorem co_yX7_look : Cond.code yX7_look cX7_look 1 (some .int) ∈ WS := WS_in (tb_5 (List.mem_of_getElem? (i := 20) (by decide +kernel))) rfl
theorem mk_X7_148 : Cond.methodLink RX7 148 yX7_nameOf ∈ WS := WS_in (tb_5 (List.mem_of_getElem? (i := 21) (by decide +kernel))) rfl
theorem im_yX7_nameOf : Cond.instanceMethod yX7_nameOf ∈ WS := WS_in (tb_5 (List.mem_of_getElem? (i := 23) (by decide +kernel))) rfl
theorem co_yX7_nameOf : Cond.code yX7_nameOf cX7_nameOf 2 (some .int) ∈ WS := WS_in (tb_5 (List.mem_of_getElem? (i := 24) (by decide +kernel))) rfl
theorem mk_X7_135 : Cond.methodLink RX7 135 yX7_step ∈ WS := WS_in (tb_5 (List.mem_of_getElem? (i := 25) (by decide +kernel))) rfl
theorem im_yX7_step : Cond.instanceMethod yX7_step ∈ WS := WS_in (tb_5 (List.mem_of_getElem? (i := 27) (by decide +kernel))) rfl
theorem co_yX7_step : Cond.code yX7_step cX7_step 3 none ∈ WS := WS_in (tb_5 (List.mem_of_getElem? (i := 28) (by decide +kernel))) rfl
theorem mk_X7_151 : Cond.methodLink RX7 151 yX7_opens ∈ WS := WS_in (tb_5 (List.mem_of_getElem? (i := 29) (by decide +kernel))) rfl
theorem im_yX7_opens : Cond.instanceMethod yX7_opens ∈ WS := WS_in (tb_5 (List.mem_of_getElem? (i := 31) (by decide +kernel))) rfl
theorem co_yX7_opens : Cond.code yX7_opens cX7_opens 2 none ∈ WS := WS_in (tb_5 (List.mem_of_getElem? (i := 32) (by decide +kernel))) rfl
theorem mk_X7_155 : Cond.methodLink RX7 155 yX7_number ∈ WS := WS_in (tb_5 (List.mem_of_getElem? (i := 33) (by decide +kernel))) rfl
theorem im_yX7_number : Cond.instanceMethod yX7_number ∈ WS := WS_in (tb_5 (List.mem_of_getElem? (i := 35) (by decide +kernel))) rfl
theorem co_yX7_number : Cond.code yX7_number cX7_number 3 none ∈ WS := WS_in (tb_5 (List.mem_of_getElem? (i := 36) (by decide +kernel))) rfl
theorem mk_L_66 : Cond.methodLink RL 66 yX7_untell ∈ WS := WS_in (tb_5 (List.mem_of_getElem? (i := 37) (by decide +kernel))) rfl
theorem im_yX7_untell : Cond.instanceMethod yX7_untell ∈ WS := WS_in (tb_5 (List.mem_of_getElem? (i := 38) (by decide +kernel))) rfl
theorem se_yX7_untell : Cond.selects RX7 yX7_untell yX7_untell ∈ WS := WS_in (tb_5 (List.mem_of_getElem? (i := 39) (by decide +kernel))) rfl
theorem co_yX7_untell : Cond.code yX7_untell cX7_untell 2 (some .int) ∈ WS := WS_in (tb_5 (List.mem_of_getElem? (i := 40) (by decide +kernel))) rfl
theorem mk_L_71 : Cond.methodLink RL 71 yX7_law ∈ WS := WS_in (tb_5 (List.mem_of_getElem? (i := 41) (by decide +kernel))) rfl
theorem im_yX7_law : Cond.instanceMethod yX7_law ∈ WS := WS_in (tb_5 (List.mem_of_getElem? (i := 42) (by decide +kernel))) rfl
theorem se_yX7_law : Cond.selects RX7 yX7_law yX7_law ∈ WS := WS_in (tb_5 (List.mem_of_getElem? (i := 43) (by decide +kernel))) rfl
theorem co_yX7_law : Cond.code yX7_law cX7_law 5 (some .int) ∈ WS := WS_in (tb_5 (List.mem_of_getElem? (i := 44) (by decide +kernel))) rfl
theorem mk_L_75 : Cond.methodLink RL 75 yX7_days ∈ WS := WS_in (tb_5 (List.mem_of_getElem? (i := 45) (by decide +kernel))) rfl
theorem im_yX7_days : Cond.instanceMethod yX7_days ∈ WS := WS_in (tb_5 (List.mem_of_getElem? (i := 46) (by decide +kernel))) rfl
theorem se_yX7_days : Cond.selects RX7 yX7_days yX7_days ∈ WS := WS_in (tb_5 (List.mem_of_getElem? (i := 47) (by decide +kernel))) rfl
theorem co_yX7_days : Cond.code yX7_days cX7_days 3 (some .int) ∈ WS := WS_in (tb_5 (List.mem_of_getElem? (i := 48) (by decide +kernel))) rfl
theorem mk_X7_176 : Cond.methodLink RX7 176 yX7_goes ∈ WS := WS_in (tb_5 (List.mem_of_getElem? (i := 49) (by decide +kernel))) rfl
theorem im_yX7_goes : Cond.instanceMethod yX7_goes ∈ WS := WS_in (tb_5 (List.mem_of_getElem? (i := 51) (by decide +kernel))) rfl

theorem pwi {w : Cond} (h : w ∈ lw_tbl) (hg : goodWord w = true) : w ∈ pTb := List.mem_filter.mpr ⟨h, hg⟩
theorem tk1 {w : Cond} (h : w ∈ tables_1_1) : w ∈ lw_tbl := List.mem_append_right _ (List.mem_append_left _ h)
theorem tk2 {w : Cond} (h : w ∈ tables_1_2) : w ∈ lw_tbl := List.mem_append_right _ (List.mem_append_right _ (List.mem_append_left _ h))
theorem tk3 {w : Cond} (h : w ∈ tables_1_3) : w ∈ lw_tbl := List.mem_append_right _ (List.mem_append_right _ (List.mem_append_right _ (List.mem_append_left _ h)))
theorem tk4 {w : Cond} (h : w ∈ tables_1_4) : w ∈ lw_tbl := List.mem_append_right _ (List.mem_append_right _ (List.mem_append_right _ (List.mem_append_right _ (List.mem_append_left _ h))))
theorem tk5 {w : Cond} (h : w ∈ tables_1_5) : w ∈ lw_tbl := List.mem_append_right _ (List.mem_append_right _ (List.mem_append_right _ (List.mem_append_right _ (List.mem_append_right _ (List.mem_append_left _ h)))))
theorem tk6 {w : Cond} (h : w ∈ tables_1_6) : w ∈ lw_tbl := List.mem_append_right _ (List.mem_append_right _ (List.mem_append_right _ (List.mem_append_right _ (List.mem_append_right _ (List.mem_append_right _ (List.mem_append_left _ h))))))
theorem tk7 {w : Cond} (h : w ∈ tables_1_7) : w ∈ lw_tbl := List.mem_append_right _ (List.mem_append_right _ (List.mem_append_right _ (List.mem_append_right _ (List.mem_append_right _ (List.mem_append_right _ (List.mem_append_right _ (List.mem_append_left _ h)))))))
theorem tk8 {w : Cond} (h : w ∈ tables_1_8) : w ∈ lw_tbl := List.mem_append_right _ (List.mem_append_right _ (List.mem_append_right _ (List.mem_append_right _ (List.mem_append_right _ (List.mem_append_right _ (List.mem_append_right _ (List.mem_append_right _ (h))))))))
theorem tkp {q : MethodName × Nat} (h : q ∈ lw_privs) : Cond.selects q.1.cls q.1 q.1 ∈ lw_tbl := List.mem_append_left _ (List.mem_map.mpr ⟨q, h, rfl⟩)
theorem w_X9_m3 : Cond.methodLink RX9 3 objectInit ∈ pTb := pwi (tk1 (List.mem_of_getElem? (i := 27) rfl)) rfl
theorem w_X9_k9 : Cond.classLink RX9 9 RX6 ∈ pTb := pwi (tk1 (List.mem_of_getElem? (i := 30) rfl)) rfl
theorem w_X9_f12 : Cond.fieldLink RX9 12 (TX9 0).1 (TX9 0).2.1 (TX9 0).2.2.1 ∈ pTb := pwi (tk3 (List.mem_of_getElem? (i := 13) rfl)) rfl
theorem w_X9_k16 : Cond.classLink RX9 16 RX1 ∈ pTb := pwi (tk1 (List.mem_of_getElem? (i := 98) rfl)) rfl
theorem w_X9_f19 : Cond.fieldLink RX9 19 (TX9 1).1 (TX9 1).2.1 (TX9 1).2.2.1 ∈ pTb := pwi (tk3 (List.mem_of_getElem? (i := 14) rfl)) rfl
theorem w_X9_k23 : Cond.classLink RX9 23 RX4 ∈ pTb := pwi (tk1 (List.mem_of_getElem? (i := 136) rfl)) rfl
theorem w_X9_f26 : Cond.fieldLink RX9 26 (TX9 2).1 (TX9 2).2.1 (TX9 2).2.2.1 ∈ pTb := pwi (tk3 (List.mem_of_getElem? (i := 15) rfl)) rfl
theorem w_X9_k30 : Cond.classLink RX9 30 RX3 ∈ pTb := pwi (tk1 (List.mem_of_getElem? (i := 177) rfl)) rfl
theorem w_X9_m32 : Cond.methodLink RX9 32 yX3_init ∈ pTb := pwi (tk1 (List.mem_of_getElem? (i := 179) rfl)) rfl
theorem w_X9_f35 : Cond.fieldLink RX9 35 (TX9 3).1 (TX9 3).2.1 (TX9 3).2.2.1 ∈ pTb := pwi (tk3 (List.mem_of_getElem? (i := 16) rfl)) rfl
theorem w_X9_k39 : Cond.classLink RX9 39 RX5 ∈ pTb := pwi (tk1 (List.mem_of_getElem? (i := 219) rfl)) rfl
theorem w_X9_m41 : Cond.methodLink RX9 41 yX5_init ∈ pTb := pwi (tk1 (List.mem_of_getElem? (i := 221) rfl)) rfl
theorem w_X9_f44 : Cond.fieldLink RX9 44 (TX9 4).1 (TX9 4).2.1 (TX9 4).2.2.1 ∈ pTb := pwi (tk3 (List.mem_of_getElem? (i := 17) rfl)) rfl
theorem w_X9_k48 : Cond.classLink RX9 48 RX7 ∈ pTb := pwi (tk2 (List.mem_of_getElem? (i := 45) rfl)) rfl
theorem w_X9_m50 : Cond.methodLink RX9 50 yX7_init ∈ pTb := pwi (tk2 (List.mem_of_getElem? (i := 47) rfl)) rfl
theorem w_X9_f51 : Cond.fieldLink RX9 51 (TX9 5).1 (TX9 5).2.1 (TX9 5).2.2.1 ∈ pTb := pwi (tk3 (List.mem_of_getElem? (i := 18) rfl)) rfl
theorem w_X9_k55 : Cond.classLink RX9 55 RX0 ∈ pTb := pwi (tk2 (List.mem_of_getElem? (i := 147) rfl)) rfl
theorem w_X9_m57 : Cond.methodLink RX9 57 yX0_init ∈ pTb := pwi (tk2 (List.mem_of_getElem? (i := 149) rfl)) rfl
theorem w_X9_f60 : Cond.fieldLink RX9 60 (TX9 6).1 (TX9 6).2.1 (TX9 6).2.2.1 ∈ pTb := pwi (tk3 (List.mem_of_getElem? (i := 19) rfl)) rfl
theorem w_X9_k64 : Cond.classLink RX9 64 RX2 ∈ pTb := pwi (tk2 (List.mem_of_getElem? (i := 190) rfl)) rfl
theorem w_X9_m66 : Cond.methodLink RX9 66 yX2_init ∈ pTb := pwi (tk2 (List.mem_of_getElem? (i := 192) rfl)) rfl
theorem w_X9_f69 : Cond.fieldLink RX9 69 (TX9 7).1 (TX9 7).2.1 (TX9 7).2.2.1 ∈ pTb := pwi (tk3 (List.mem_of_getElem? (i := 20) rfl)) rfl
theorem w_X9_m73 : Cond.methodLink RX9 73 yX9_within ∈ pTb := pwi (tk3 (List.mem_of_getElem? (i := 51) rfl)) rfl
theorem w_X9_within_st : Cond.static yX9_within ∈ pTb := pwi (tk3 (List.mem_of_getElem? (i := 52) rfl)) rfl
theorem w_X9_within_co : Cond.code yX9_within cX9_within 3 (some .boolean) ∈ pTb := pwi (tk3 (List.mem_of_getElem? (i := 53) rfl)) rfl
theorem w_X9_within_in : Cond.initialized yX9_within.cls ∈ pTb := pwi (tk1 (List.mem_of_getElem? (i := 1) rfl)) rfl
theorem pl_X9_within : plain yX9_within 3 := ⟨by decide +kernel, by decide +kernel, by decide +kernel⟩
theorem w_X9_f77 : Cond.fieldLink RX9 77 (TX9 8).1 (TX9 8).2.1 (TX9 8).2.2.1 ∈ pTb := pwi (tk3 (List.mem_of_getElem? (i := 21) rfl)) rfl
theorem w_X9_f81 : Cond.fieldLink RX9 81 (TX6 0).1 (TX6 0).2.1 (TX6 0).2.2.1 ∈ pTb := pwi (tk1 (List.mem_of_getElem? (i := 38) rfl)) rfl
theorem w_X9_f84 : Cond.fieldLink RX9 84 (TX6 1).1 (TX6 1).2.1 (TX6 1).2.2.1 ∈ pTb := pwi (tk1 (List.mem_of_getElem? (i := 42) rfl)) rfl
theorem w_X9_f88 : Cond.fieldLink RX9 88 (TX6 2).1 (TX6 2).2.1 (TX6 2).2.2.1 ∈ pTb := pwi (tk1 (List.mem_of_getElem? (i := 45) rfl)) rfl
theorem w_X9_f91 : Cond.fieldLink RX9 91 (TX6 3).1 (TX6 3).2.1 (TX6 3).2.2.1 ∈ pTb := pwi (tk1 (List.mem_of_getElem? (i := 48) rfl)) rfl
theorem w_X9_f94 : Cond.fieldLink RX9 94 (TX6 4).1 (TX6 4).2.1 (TX6 4).2.2.1 ∈ pTb := pwi (tk1 (List.mem_of_getElem? (i := 52) rfl)) rfl
theorem w_X9_f97 : Cond.fieldLink RX9 97 (TX6 5).1 (TX6 5).2.1 (TX6 5).2.2.1 ∈ pTb := pwi (tk1 (List.mem_of_getElem? (i := 56) rfl)) rfl
theorem w_X9_m100 : Cond.methodLink RX9 100 yX9_regroup ∈ pTb := pwi (tk3 (List.mem_of_getElem? (i := 58) rfl)) rfl
theorem w_X9_regroup_im : Cond.instanceMethod yX9_regroup ∈ pTb := pwi (tk3 (List.mem_of_getElem? (i := 60) rfl)) rfl
theorem w_X9_regroup_se : Cond.selects yX9_regroup.cls yX9_regroup yX9_regroup ∈ pTb := pwi (tkp (q := lw_privs[0]) (List.getElem_mem _)) rfl
theorem w_X9_regroup_co : Cond.code yX9_regroup cX9_regroup 1 none ∈ pTb := pwi (tk3 (List.mem_of_getElem? (i := 61) rfl)) rfl
theorem w_X9_regroup_in : Cond.initialized yX9_regroup.cls ∈ pTb := pwi (tk1 (List.mem_of_getElem? (i := 1) rfl)) rfl
theorem pl_X9_regroup : plain yX9_regroup 0 := ⟨by decide +kernel, by decide +kernel, by decide +kernel⟩
theorem w_X9_m103 : Cond.methodLink RX9 103 yX6_has ∈ pTb := pwi (tk3 (List.mem_of_getElem? (i := 118) rfl)) rfl
theorem w_X9_f107 : Cond.fieldLink RX9 107 (TX6 6).1 (TX6 6).2.1 (TX6 6).2.2.1 ∈ pTb := pwi (tk1 (List.mem_of_getElem? (i := 60) rfl)) rfl
theorem w_X9_f110 : Cond.fieldLink RX9 110 (TX6 7).1 (TX6 7).2.1 (TX6 7).2.2.1 ∈ pTb := pwi (tk1 (List.mem_of_getElem? (i := 63) rfl)) rfl
theorem w_X9_f113 : Cond.fieldLink RX9 113 (TX6 8).1 (TX6 8).2.1 (TX6 8).2.2.1 ∈ pTb := pwi (tk1 (List.mem_of_getElem? (i := 66) rfl)) rfl
theorem w_X9_f116 : Cond.fieldLink RX9 116 (TX6 9).1 (TX6 9).2.1 (TX6 9).2.2.1 ∈ pTb := pwi (tk1 (List.mem_of_getElem? (i := 70) rfl)) rfl
theorem w_X9_f119 : Cond.fieldLink RX9 119 (TX6 10).1 (TX6 10).2.1 (TX6 10).2.2.1 ∈ pTb := pwi (tk1 (List.mem_of_getElem? (i := 72) rfl)) rfl
theorem w_X9_m122 : Cond.methodLink RX9 122 yX1_rimFits ∈ pTb := pwi (tk3 (List.mem_of_getElem? (i := 126) rfl)) rfl
theorem w_X9_m126 : Cond.methodLink RX9 126 yX1_hasBelly ∈ pTb := pwi (tk3 (List.mem_of_getElem? (i := 133) rfl)) rfl
theorem w_X9_m129 : Cond.methodLink RX9 129 yX1_add ∈ pTb := pwi (tk3 (List.mem_of_getElem? (i := 137) rfl)) rfl
theorem w_X9_m133 : Cond.methodLink RX9 133 yX0_forget ∈ pTb := pwi (tk3 (List.mem_of_getElem? (i := 106) rfl)) rfl
theorem w_X9_m136 : Cond.methodLink RX9 136 yX7_take8 ∈ pTb := pwi (tk3 (List.mem_of_getElem? (i := 145) rfl)) rfl
theorem w_X9_f140 : Cond.fieldLink RX9 140 (TX7 0).1 (TX7 0).2.1 (TX7 0).2.2.1 ∈ pTb := pwi (tk2 (List.mem_of_getElem? (i := 108) rfl)) rfl
theorem w_X9_f143 : Cond.fieldLink RX9 143 (TX5 4).1 (TX5 4).2.1 (TX5 4).2.2.1 ∈ pTb := pwi (tk2 (List.mem_of_getElem? (i := 30) rfl)) rfl
theorem w_X9_m147 : Cond.methodLink RX9 147 yX7_read ∈ pTb := pwi (tk3 (List.mem_of_getElem? (i := 155) rfl)) rfl
theorem w_X9_m151 : Cond.methodLink RX9 151 yX5_takeDraft ∈ pTb := pwi (tk4 (List.mem_of_getElem? (i := 42) rfl)) rfl
theorem w_X9_f154 : Cond.fieldLink RX9 154 (TX5 2).1 (TX5 2).2.1 (TX5 2).2.2.1 ∈ pTb := pwi (tk2 (List.mem_of_getElem? (i := 26) rfl)) rfl
theorem w_X9_m157 : Cond.methodLink RX9 157 yX1_has ∈ pTb := pwi (tk4 (List.mem_of_getElem? (i := 54) rfl)) rfl
theorem w_X9_m165 : Cond.methodLink RX9 165 yX1_fit ∈ pTb := pwi (tk4 (List.mem_of_getElem? (i := 132) rfl)) rfl
theorem w_X9_m169 : Cond.methodLink RX9 169 yX5_mayMeet ∈ pTb := pwi (tk4 (List.mem_of_getElem? (i := 58) rfl)) rfl
theorem w_X9_m173 : Cond.methodLink RX9 173 yX5_doubtOf ∈ pTb := pwi (tk5 (List.mem_of_getElem? (i := 143) rfl)) rfl
theorem w_X9_f178 : Cond.fieldLink RX9 178 (TX4 0).1 (TX4 0).2.1 (TX4 0).2.2.1 ∈ pTb := pwi (tk1 (List.mem_of_getElem? (i := 144) rfl)) rfl
theorem w_X9_f179 : Cond.fieldLink RX9 179 (TX1 4).1 (TX1 4).2.1 (TX1 4).2.2.1 ∈ pTb := pwi (tk1 (List.mem_of_getElem? (i := 114) rfl)) rfl
theorem w_X9_m182 : Cond.methodLink RX9 182 yX4_add ∈ pTb := pwi (tk4 (List.mem_of_getElem? (i := 133) rfl)) rfl
theorem w_X9_f185 : Cond.fieldLink RX9 185 (TX4 6).1 (TX4 6).2.1 (TX4 6).2.2.1 ∈ pTb := pwi (tk1 (List.mem_of_getElem? (i := 160) rfl)) rfl
theorem w_X9_f189 : Cond.fieldLink RX9 189 (TX1 1).1 (TX1 1).2.1 (TX1 1).2.2.1 ∈ pTb := pwi (tk1 (List.mem_of_getElem? (i := 109) rfl)) rfl
theorem w_X9_m192 : Cond.methodLink RX9 192 yX4_stands ∈ pTb := pwi (tk4 (List.mem_of_getElem? (i := 141) rfl)) rfl
theorem w_X9_f195 : Cond.fieldLink RX9 195 (TX4 5).1 (TX4 5).2.1 (TX4 5).2.2.1 ∈ pTb := pwi (tk1 (List.mem_of_getElem? (i := 157) rfl)) rfl
theorem w_X9_f198 : Cond.fieldLink RX9 198 (TX4 1).1 (TX4 1).2.1 (TX4 1).2.2.1 ∈ pTb := pwi (tk1 (List.mem_of_getElem? (i := 147) rfl)) rfl
theorem w_X9_f201 : Cond.fieldLink RX9 201 (TX4 2).1 (TX4 2).2.1 (TX4 2).2.2.1 ∈ pTb := pwi (tk1 (List.mem_of_getElem? (i := 150) rfl)) rfl
theorem w_X9_m204 : Cond.methodLink RX9 204 yX4_has ∈ pTb := pwi (tk5 (List.mem_of_getElem? (i := 159) rfl)) rfl
theorem w_X9_f207 : Cond.fieldLink RX9 207 (TX4 3).1 (TX4 3).2.1 (TX4 3).2.2.1 ∈ pTb := pwi (tk1 (List.mem_of_getElem? (i := 153) rfl)) rfl
theorem w_X9_f210 : Cond.fieldLink RX9 210 (TX4 4).1 (TX4 4).2.1 (TX4 4).2.2.1 ∈ pTb := pwi (tk1 (List.mem_of_getElem? (i := 155) rfl)) rfl
theorem w_X9_m213 : Cond.methodLink RX9 213 yX3_isOpen ∈ pTb := pwi (tk5 (List.mem_of_getElem? (i := 161) rfl)) rfl
theorem w_X9_m216 : Cond.methodLink RX9 216 yX9_rivals ∈ pTb := pwi (tk5 (List.mem_of_getElem? (i := 162) rfl)) rfl
theorem w_X9_rivals_im : Cond.instanceMethod yX9_rivals ∈ pTb := pwi (tk5 (List.mem_of_getElem? (i := 164) rfl)) rfl
theorem w_X9_rivals_se : Cond.selects yX9_rivals.cls yX9_rivals yX9_rivals ∈ pTb := pwi (tkp (q := lw_privs[42]) (List.getElem_mem _)) rfl
theorem w_X9_rivals_co : Cond.code yX9_rivals cX9_rivals 5 (some .int) ∈ pTb := pwi (tk5 (List.mem_of_getElem? (i := 165) rfl)) rfl
theorem w_X9_rivals_in : Cond.initialized yX9_rivals.cls ∈ pTb := pwi (tk1 (List.mem_of_getElem? (i := 1) rfl)) rfl
theorem pl_X9_rivals : plain yX9_rivals 2 := ⟨by decide +kernel, by decide +kernel, by decide +kernel⟩
theorem w_X9_m223 : Cond.methodLink RX9 223 yX5_stoneOf ∈ pTb := pwi (tk5 (List.mem_of_getElem? (i := 175) rfl)) rfl
theorem w_X9_f227 : Cond.fieldLink RX9 227 (TX3 2).1 (TX3 2).2.1 (TX3 2).2.2.1 ∈ pTb := pwi (tk1 (List.mem_of_getElem? (i := 188) rfl)) rfl
theorem w_X9_f230 : Cond.fieldLink RX9 230 (TX3 3).1 (TX3 3).2.1 (TX3 3).2.2.1 ∈ pTb := pwi (tk1 (List.mem_of_getElem? (i := 191) rfl)) rfl
theorem w_X9_f233 : Cond.fieldLink RX9 233 (TX3 4).1 (TX3 4).2.1 (TX3 4).2.2.1 ∈ pTb := pwi (tk1 (List.mem_of_getElem? (i := 193) rfl)) rfl
theorem w_X9_f236 : Cond.fieldLink RX9 236 (TX1 0).1 (TX1 0).2.1 (TX1 0).2.2.1 ∈ pTb := pwi (tk1 (List.mem_of_getElem? (i := 105) rfl)) rfl
theorem w_X9_m238 : Cond.methodLink RX9 238 yX2_isLeftAlone ∈ pTb := pwi (tk5 (List.mem_of_getElem? (i := 176) rfl)) rfl
theorem w_X9_m241 : Cond.methodLink RX9 241 yX2_walk ∈ pTb := pwi (tk5 (List.mem_of_getElem? (i := 222) rfl)) rfl
theorem w_X9_f245 : Cond.fieldLink RX9 245 (TX2 15).1 (TX2 15).2.1 (TX2 15).2.2.1 ∈ pTb := pwi (tk2 (List.mem_of_getElem? (i := 215) rfl)) rfl
theorem w_X9_f248 : Cond.fieldLink RX9 248 (TX2 16).1 (TX2 16).2.1 (TX2 16).2.2.1 ∈ pTb := pwi (tk2 (List.mem_of_getElem? (i := 217) rfl)) rfl
theorem w_X9_m251 : Cond.methodLink RX9 251 yX6_loose ∈ pTb := pwi (tk5 (List.mem_of_getElem? (i := 223) rfl)) rfl
theorem w_X9_m258 : Cond.methodLink RX9 258 yX4_partner ∈ pTb := pwi (tk5 (List.mem_of_getElem? (i := 233) rfl)) rfl
theorem w_X9_m261 : Cond.methodLink RX9 261 yX0_blowOf ∈ pTb := pwi (tk5 (List.mem_of_getElem? (i := 234) rfl)) rfl
theorem w_X9_m264 : Cond.methodLink RX9 264 yX0_isHole ∈ pTb := pwi (tk5 (List.mem_of_getElem? (i := 235) rfl)) rfl
theorem w_X9_m267 : Cond.methodLink RX9 267 yX1_rimSum ∈ pTb := pwi (tk5 (List.mem_of_getElem? (i := 236) rfl)) rfl
theorem w_X9_m270 : Cond.methodLink RX9 270 yJ9_max_7cf53 ∈ pTb := pwi (tk6 (List.mem_of_getElem? (i := 0) rfl)) rfl
theorem w_X9_m277 : Cond.methodLink RX9 277 yX3_cobbleAsOf ∈ pTb := pwi (tk4 (List.mem_of_getElem? (i := 146) rfl)) rfl
theorem w_X9_m280 : Cond.methodLink RX9 280 yX1_tellCut ∈ pTb := pwi (tk4 (List.mem_of_getElem? (i := 154) rfl)) rfl
theorem w_X9_f284 : Cond.fieldLink RX9 284 (TX3 5).1 (TX3 5).2.1 (TX3 5).2.2.1 ∈ pTb := pwi (tk1 (List.mem_of_getElem? (i := 196) rfl)) rfl
theorem w_X9_m287 : Cond.methodLink RX9 287 yX3_wholesIn ∈ pTb := pwi (tk6 (List.mem_of_getElem? (i := 9) rfl)) rfl
theorem w_X9_m290 : Cond.methodLink RX9 290 yX0_holesIn ∈ pTb := pwi (tk6 (List.mem_of_getElem? (i := 10) rfl)) rfl
theorem w_X9_m293 : Cond.methodLink RX9 293 yX3_openIn ∈ pTb := pwi (tk6 (List.mem_of_getElem? (i := 14) rfl)) rfl
theorem w_X9_m296 : Cond.methodLink RX9 296 yX0_leastQuarrel ∈ pTb := pwi (tk6 (List.mem_of_getElem? (i := 18) rfl)) rfl
theorem w_X9_m299 : Cond.methodLink RX9 299 yX0_isRing ∈ pTb := pwi (tk6 (List.mem_of_getElem? (i := 22) rfl)) rfl
theorem w_X9_m302 : Cond.methodLink RX9 302 yX0_changeOf ∈ pTb := pwi (tk6 (List.mem_of_getElem? (i := 26) rfl)) rfl
theorem w_X9_m305 : Cond.methodLink RX9 305 yX3_faultsIn ∈ pTb := pwi (tk6 (List.mem_of_getElem? (i := 38) rfl)) rfl
theorem w_X9_m310 : Cond.methodLink RX9 310 yX0_inOrder ∈ pTb := pwi (tk4 (List.mem_of_getElem? (i := 166) rfl)) rfl
theorem w_X9_m315 : Cond.methodLink RX9 315 yX2_findSeats ∈ pTb := pwi (tk6 (List.mem_of_getElem? (i := 48) rfl)) rfl
theorem w_X9_f319 : Cond.fieldLink RX9 319 (TX2 12).1 (TX2 12).2.1 (TX2 12).2.2.1 ∈ pTb := pwi (tk2 (List.mem_of_getElem? (i := 209) rfl)) rfl
theorem w_X9_f322 : Cond.fieldLink RX9 322 (TX2 13).1 (TX2 13).2.1 (TX2 13).2.2.1 ∈ pTb := pwi (tk2 (List.mem_of_getElem? (i := 211) rfl)) rfl
theorem w_X9_f325 : Cond.fieldLink RX9 325 (TX2 14).1 (TX2 14).2.1 (TX2 14).2.2.1 ∈ pTb := pwi (tk2 (List.mem_of_getElem? (i := 213) rfl)) rfl
theorem w_X9_m328 : Cond.methodLink RX9 328 yX2_addFoot ∈ pTb := pwi (tk5 (List.mem_of_getElem? (i := 9) rfl)) rfl
theorem w_X9_m332 : Cond.methodLink RX9 332 yX3_hourOf ∈ pTb := pwi (tk5 (List.mem_of_getElem? (i := 17) rfl)) rfl
theorem w_X9_m335 : Cond.methodLink RX9 335 yX3_areTwoHands ∈ pTb := pwi (tk5 (List.mem_of_getElem? (i := 25) rfl)) rfl
theorem w_X9_f338 : Cond.fieldLink RX9 338 (TX9 9).1 (TX9 9).2.1 (TX9 9).2.2.1 ∈ pTb := pwi (tk3 (List.mem_of_getElem? (i := 22) rfl)) rfl
theorem w_X9_f341 : Cond.fieldLink RX9 341 (TX9 10).1 (TX9 10).2.1 (TX9 10).2.2.1 ∈ pTb := pwi (tk3 (List.mem_of_getElem? (i := 23) rfl)) rfl
theorem w_X9_m344 : Cond.methodLink RX9 344 yX4_standing ∈ pTb := pwi (tk5 (List.mem_of_getElem? (i := 49) rfl)) rfl
theorem w_X9_m348 : Cond.methodLink RX9 348 yX3_greatCobbles ∈ pTb := pwi (tk5 (List.mem_of_getElem? (i := 53) rfl)) rfl
theorem w_X9_m351 : Cond.methodLink RX9 351 yX3_openJoins ∈ pTb := pwi (tk5 (List.mem_of_getElem? (i := 57) rfl)) rfl
theorem w_X9_f354 : Cond.fieldLink RX9 354 (TX5 3).1 (TX5 3).2.1 (TX5 3).2.2.1 ∈ pTb := pwi (tk2 (List.mem_of_getElem? (i := 28) rfl)) rfl
theorem w_X9_f357 : Cond.fieldLink RX9 357 (TX8 0).1 (TX8 0).2.1 (TX8 0).2.2.1 ∈ pTb := pwi (tk1 (List.mem_of_getElem? (i := 233) rfl)) rfl
theorem w_X9_m362 : Cond.methodLink RX9 362 yX1_cutsTold ∈ pTb := pwi (tk5 (List.mem_of_getElem? (i := 65) rfl)) rfl
theorem w_X9_f365 : Cond.fieldLink RX9 365 (TX8 1).1 (TX8 1).2.1 (TX8 1).2.2.1 ∈ pTb := pwi (tk1 (List.mem_of_getElem? (i := 236) rfl)) rfl
theorem w_X9_m368 : Cond.methodLink RX9 368 yX3_regroup ∈ pTb := pwi (tk3 (List.mem_of_getElem? (i := 62) rfl)) rfl
theorem w_X9_m369 : Cond.methodLink RX9 369 yX2_forget ∈ pTb := pwi (tk3 (List.mem_of_getElem? (i := 110) rfl)) rfl
theorem w_X9_byteOf_st : Cond.static yX9_byteOf ∈ pTb := pwi (tk3 (List.mem_of_getElem? (i := 131) rfl)) rfl
theorem w_X9_byteOf_co : Cond.code yX9_byteOf cX9_byteOf 3 (some .int) ∈ pTb := pwi (tk3 (List.mem_of_getElem? (i := 132) rfl)) rfl
theorem w_X9_byteOf_in : Cond.initialized yX9_byteOf.cls ∈ pTb := pwi (tk1 (List.mem_of_getElem? (i := 1) rfl)) rfl
theorem pl_X9_byteOf : plain yX9_byteOf 2 := ⟨by decide +kernel, by decide +kernel, by decide +kernel⟩
theorem w_X9_modEight_st : Cond.static yX9_modEight ∈ pTb := pwi (tk3 (List.mem_of_getElem? (i := 104) rfl)) rfl
theorem w_X9_modEight_co : Cond.code yX9_modEight cX9_modEight 1 (some .int) ∈ pTb := pwi (tk3 (List.mem_of_getElem? (i := 105) rfl)) rfl
theorem w_X9_modEight_in : Cond.initialized yX9_modEight.cls ∈ pTb := pwi (tk1 (List.mem_of_getElem? (i := 1) rfl)) rfl
theorem pl_X9_modEight : plain yX9_modEight 1 := ⟨by decide +kernel, by decide +kernel, by decide +kernel⟩
theorem w_X9_apart_st : Cond.static yX9_apart ∈ pTb := pwi (tk4 (List.mem_of_getElem? (i := 73) rfl)) rfl
theorem w_X9_apart_co : Cond.code yX9_apart cX9_apart 2 (some .int) ∈ pTb := pwi (tk4 (List.mem_of_getElem? (i := 74) rfl)) rfl
theorem w_X9_apart_in : Cond.initialized yX9_apart.cls ∈ pTb := pwi (tk1 (List.mem_of_getElem? (i := 1) rfl)) rfl
theorem pl_X9_apart : plain yX9_apart 2 := ⟨by decide +kernel, by decide +kernel, by decide +kernel⟩
theorem w_X6_ins : Cond.instantiable RX6 11 ∈ pTb := pwi (tk1 (List.mem_of_getElem? (i := 31) rfl)) rfl
theorem w_X6_ini : Cond.initialized RX6 ∈ pTb := pwi (tk1 (List.mem_of_getElem? (i := 2) rfl)) rfl
theorem w_X6_init_im : Cond.instanceMethod yX6_init ∈ pTb := pwi (tk1 (List.mem_of_getElem? (i := 33) rfl)) rfl
theorem w_X6_init_co : Cond.code yX6_init cX6_init 1 none ∈ pTb := pwi (tk1 (List.mem_of_getElem? (i := 34) rfl)) rfl
theorem w_X6_init_in : Cond.initialized yX6_init.cls ∈ pTb := pwi (tk1 (List.mem_of_getElem? (i := 2) rfl)) rfl
theorem pl_X6_init : plain yX6_init 0 := ⟨by decide +kernel, by decide +kernel, by decide +kernel⟩
theorem w_X6_has_im : Cond.instanceMethod yX6_has ∈ pTb := pwi (tk3 (List.mem_of_getElem? (i := 119) rfl)) rfl
theorem w_X6_has_se : Cond.selects yX6_has.cls yX6_has yX6_has ∈ pTb := pwi (tk3 (List.mem_of_getElem? (i := 120) rfl)) rfl
theorem w_X6_has_co : Cond.code yX6_has cX6_has 2 (some .boolean) ∈ pTb := pwi (tk3 (List.mem_of_getElem? (i := 121) rfl)) rfl
theorem w_X6_has_in : Cond.initialized yX6_has.cls ∈ pTb := pwi (tk1 (List.mem_of_getElem? (i := 2) rfl)) rfl
theorem pl_X6_has : plain yX6_has 1 := ⟨by decide +kernel, by decide +kernel, by decide +kernel⟩
theorem w_X6_loose_im : Cond.instanceMethod yX6_loose ∈ pTb := pwi (tk5 (List.mem_of_getElem? (i := 197) rfl)) rfl
theorem w_X6_loose_se : Cond.selects yX6_loose.cls yX6_loose yX6_loose ∈ pTb := pwi (tk5 (List.mem_of_getElem? (i := 198) rfl)) rfl
theorem w_X6_loose_co : Cond.code yX6_loose cX6_loose 2 (some .int) ∈ pTb := pwi (tk5 (List.mem_of_getElem? (i := 199) rfl)) rfl
theorem w_X6_loose_in : Cond.initialized yX6_loose.cls ∈ pTb := pwi (tk1 (List.mem_of_getElem? (i := 2) rfl)) rfl
theorem pl_X6_loose : plain yX6_loose 1 := ⟨by decide +kernel, by decide +kernel, by decide +kernel⟩
theorem w_X6_stride_im : Cond.instanceMethod yX6_stride ∈ pTb := pwi (tk5 (List.mem_of_getElem? (i := 216) rfl)) rfl
theorem w_X6_stride_se : Cond.selects yX6_stride.cls yX6_stride yX6_stride ∈ pTb := pwi (tk5 (List.mem_of_getElem? (i := 217) rfl)) rfl
theorem w_X6_stride_co : Cond.code yX6_stride cX6_stride 3 (some .int) ∈ pTb := pwi (tk5 (List.mem_of_getElem? (i := 218) rfl)) rfl
theorem w_X6_stride_in : Cond.initialized yX6_stride.cls ∈ pTb := pwi (tk1 (List.mem_of_getElem? (i := 2) rfl)) rfl
theorem pl_X6_stride : plain yX6_stride 2 := ⟨by decide +kernel, by decide +kernel, by decide +kernel⟩
theorem w_X6_m3 : Cond.methodLink RX6 3 objectInit ∈ pTb := pwi (tk1 (List.mem_of_getElem? (i := 35) rfl)) rfl
theorem w_X6_f9 : Cond.fieldLink RX6 9 (TX6 1).1 (TX6 1).2.1 (TX6 1).2.2.1 ∈ pTb := pwi (tk1 (List.mem_of_getElem? (i := 41) rfl)) rfl
theorem w_X6_f15 : Cond.fieldLink RX6 15 (TX6 2).1 (TX6 2).2.1 (TX6 2).2.2.1 ∈ pTb := pwi (tk1 (List.mem_of_getElem? (i := 44) rfl)) rfl
theorem w_X6_f18 : Cond.fieldLink RX6 18 (TX6 3).1 (TX6 3).2.1 (TX6 3).2.2.1 ∈ pTb := pwi (tk1 (List.mem_of_getElem? (i := 47) rfl)) rfl
theorem w_X6_f21 : Cond.fieldLink RX6 21 (TX6 4).1 (TX6 4).2.1 (TX6 4).2.2.1 ∈ pTb := pwi (tk1 (List.mem_of_getElem? (i := 51) rfl)) rfl
theorem w_X6_f24 : Cond.fieldLink RX6 24 (TX6 5).1 (TX6 5).2.1 (TX6 5).2.2.1 ∈ pTb := pwi (tk1 (List.mem_of_getElem? (i := 55) rfl)) rfl
theorem w_X6_f27 : Cond.fieldLink RX6 27 (TX6 6).1 (TX6 6).2.1 (TX6 6).2.2.1 ∈ pTb := pwi (tk1 (List.mem_of_getElem? (i := 59) rfl)) rfl
theorem w_X6_f30 : Cond.fieldLink RX6 30 (TX6 7).1 (TX6 7).2.1 (TX6 7).2.2.1 ∈ pTb := pwi (tk1 (List.mem_of_getElem? (i := 62) rfl)) rfl
theorem w_X6_f33 : Cond.fieldLink RX6 33 (TX6 8).1 (TX6 8).2.1 (TX6 8).2.2.1 ∈ pTb := pwi (tk1 (List.mem_of_getElem? (i := 65) rfl)) rfl
theorem w_X6_f36 : Cond.fieldLink RX6 36 (TX6 9).1 (TX6 9).2.1 (TX6 9).2.2.1 ∈ pTb := pwi (tk1 (List.mem_of_getElem? (i := 68) rfl)) rfl
theorem w_X6_f39 : Cond.fieldLink RX6 39 (TX6 10).1 (TX6 10).2.1 (TX6 10).2.2.1 ∈ pTb := pwi (tk1 (List.mem_of_getElem? (i := 71) rfl)) rfl
theorem w_X6_f42 : Cond.fieldLink RX6 42 (TX6 0).1 (TX6 0).2.1 (TX6 0).2.2.1 ∈ pTb := pwi (tk1 (List.mem_of_getElem? (i := 36) rfl)) rfl
theorem w_X1_ins : Cond.instantiable RX1 8 ∈ pTb := pwi (tk1 (List.mem_of_getElem? (i := 99) rfl)) rfl
theorem w_X1_ini : Cond.initialized RX1 ∈ pTb := pwi (tk1 (List.mem_of_getElem? (i := 3) rfl)) rfl
theorem w_X1_init_im : Cond.instanceMethod yX1_init ∈ pTb := pwi (tk1 (List.mem_of_getElem? (i := 101) rfl)) rfl
theorem w_X1_init_co : Cond.code yX1_init cX1_init 1 none ∈ pTb := pwi (tk1 (List.mem_of_getElem? (i := 102) rfl)) rfl
theorem w_X1_init_in : Cond.initialized yX1_init.cls ∈ pTb := pwi (tk1 (List.mem_of_getElem? (i := 3) rfl)) rfl
theorem pl_X1_init : plain yX1_init 0 := ⟨by decide +kernel, by decide +kernel, by decide +kernel⟩
theorem w_X1_rimFits_im : Cond.instanceMethod yX1_rimFits ∈ pTb := pwi (tk3 (List.mem_of_getElem? (i := 127) rfl)) rfl
theorem w_X1_rimFits_se : Cond.selects yX1_rimFits.cls yX1_rimFits yX1_rimFits ∈ pTb := pwi (tk3 (List.mem_of_getElem? (i := 128) rfl)) rfl
theorem w_X1_rimFits_co : Cond.code yX1_rimFits cX1_rimFits 4 (some .boolean) ∈ pTb := pwi (tk3 (List.mem_of_getElem? (i := 129) rfl)) rfl
theorem w_X1_rimFits_in : Cond.initialized yX1_rimFits.cls ∈ pTb := pwi (tk1 (List.mem_of_getElem? (i := 3) rfl)) rfl
theorem pl_X1_rimFits : plain yX1_rimFits 1 := ⟨by decide +kernel, by decide +kernel, by decide +kernel⟩
theorem w_X1_hasBelly_im : Cond.instanceMethod yX1_hasBelly ∈ pTb := pwi (tk3 (List.mem_of_getElem? (i := 134) rfl)) rfl
theorem w_X1_hasBelly_se : Cond.selects yX1_hasBelly.cls yX1_hasBelly yX1_hasBelly ∈ pTb := pwi (tk3 (List.mem_of_getElem? (i := 135) rfl)) rfl
theorem w_X1_hasBelly_co : Cond.code yX1_hasBelly cX1_hasBelly 3 (some .boolean) ∈ pTb := pwi (tk3 (List.mem_of_getElem? (i := 136) rfl)) rfl
theorem w_X1_hasBelly_in : Cond.initialized yX1_hasBelly.cls ∈ pTb := pwi (tk1 (List.mem_of_getElem? (i := 3) rfl)) rfl
theorem pl_X1_hasBelly : plain yX1_hasBelly 1 := ⟨by decide +kernel, by decide +kernel, by decide +kernel⟩
theorem w_X1_add_im : Cond.instanceMethod yX1_add ∈ pTb := pwi (tk3 (List.mem_of_getElem? (i := 138) rfl)) rfl
theorem w_X1_add_se : Cond.selects yX1_add.cls yX1_add yX1_add ∈ pTb := pwi (tk3 (List.mem_of_getElem? (i := 139) rfl)) rfl
theorem w_X1_add_co : Cond.code yX1_add cX1_add 8 (some .int) ∈ pTb := pwi (tk3 (List.mem_of_getElem? (i := 140) rfl)) rfl
theorem w_X1_add_in : Cond.initialized yX1_add.cls ∈ pTb := pwi (tk1 (List.mem_of_getElem? (i := 3) rfl)) rfl
theorem pl_X1_add : plain yX1_add 4 := ⟨by decide +kernel, by decide +kernel, by decide +kernel⟩
theorem w_X1_has_im : Cond.instanceMethod yX1_has ∈ pTb := pwi (tk4 (List.mem_of_getElem? (i := 55) rfl)) rfl
theorem w_X1_has_se : Cond.selects yX1_has.cls yX1_has yX1_has ∈ pTb := pwi (tk4 (List.mem_of_getElem? (i := 56) rfl)) rfl
theorem w_X1_has_co : Cond.code yX1_has cX1_has 2 (some .boolean) ∈ pTb := pwi (tk4 (List.mem_of_getElem? (i := 57) rfl)) rfl
theorem w_X1_has_in : Cond.initialized yX1_has.cls ∈ pTb := pwi (tk1 (List.mem_of_getElem? (i := 3) rfl)) rfl
theorem pl_X1_has : plain yX1_has 1 := ⟨by decide +kernel, by decide +kernel, by decide +kernel⟩
theorem w_X1_fit_im : Cond.instanceMethod yX1_fit ∈ pTb := pwi (tk4 (List.mem_of_getElem? (i := 66) rfl)) rfl
theorem w_X1_fit_se : Cond.selects yX1_fit.cls yX1_fit yX1_fit ∈ pTb := pwi (tk4 (List.mem_of_getElem? (i := 67) rfl)) rfl
theorem w_X1_fit_co : Cond.code yX1_fit cX1_fit 8 (some .int) ∈ pTb := pwi (tk4 (List.mem_of_getElem? (i := 68) rfl)) rfl
theorem w_X1_fit_in : Cond.initialized yX1_fit.cls ∈ pTb := pwi (tk1 (List.mem_of_getElem? (i := 3) rfl)) rfl
theorem pl_X1_fit : plain yX1_fit 2 := ⟨by decide +kernel, by decide +kernel, by decide +kernel⟩
theorem w_X1_rimSum_im : Cond.instanceMethod yX1_rimSum ∈ pTb := pwi (tk5 (List.mem_of_getElem? (i := 237) rfl)) rfl
theorem w_X1_rimSum_se : Cond.selects yX1_rimSum.cls yX1_rimSum yX1_rimSum ∈ pTb := pwi (tk5 (List.mem_of_getElem? (i := 238) rfl)) rfl
theorem w_X1_rimSum_co : Cond.code yX1_rimSum cX1_rimSum 4 (some .int) ∈ pTb := pwi (tk5 (List.mem_of_getElem? (i := 239) rfl)) rfl
theorem w_X1_rimSum_in : Cond.initialized yX1_rimSum.cls ∈ pTb := pwi (tk1 (List.mem_of_getElem? (i := 3) rfl)) rfl
theorem pl_X1_rimSum : plain yX1_rimSum 1 := ⟨by decide +kernel, by decide +kernel, by decide +kernel⟩
theorem w_X1_tellCut_im : Cond.instanceMethod yX1_tellCut ∈ pTb := pwi (tk4 (List.mem_of_getElem? (i := 155) rfl)) rfl
theorem w_X1_tellCut_se : Cond.selects yX1_tellCut.cls yX1_tellCut yX1_tellCut ∈ pTb := pwi (tk4 (List.mem_of_getElem? (i := 156) rfl)) rfl
theorem w_X1_tellCut_co : Cond.code yX1_tellCut cX1_tellCut 4 none ∈ pTb := pwi (tk4 (List.mem_of_getElem? (i := 157) rfl)) rfl
theorem w_X1_tellCut_in : Cond.initialized yX1_tellCut.cls ∈ pTb := pwi (tk1 (List.mem_of_getElem? (i := 3) rfl)) rfl
theorem pl_X1_tellCut : plain yX1_tellCut 3 := ⟨by decide +kernel, by decide +kernel, by decide +kernel⟩
theorem w_X1_cutsTold_im : Cond.instanceMethod yX1_cutsTold ∈ pTb := pwi (tk5 (List.mem_of_getElem? (i := 66) rfl)) rfl
theorem w_X1_cutsTold_se : Cond.selects yX1_cutsTold.cls yX1_cutsTold yX1_cutsTold ∈ pTb := pwi (tk5 (List.mem_of_getElem? (i := 67) rfl)) rfl
theorem w_X1_cutsTold_co : Cond.code yX1_cutsTold cX1_cutsTold 4 (some .int) ∈ pTb := pwi (tk5 (List.mem_of_getElem? (i := 68) rfl)) rfl
theorem w_X1_cutsTold_in : Cond.initialized yX1_cutsTold.cls ∈ pTb := pwi (tk1 (List.mem_of_getElem? (i := 3) rfl)) rfl
theorem pl_X1_cutsTold : plain yX1_cutsTold 0 := ⟨by decide +kernel, by decide +kernel, by decide +kernel⟩
theorem w_X1_cutWeight_im : Cond.instanceMethod yX1_cutWeight ∈ pTb := pwi (tk4 (List.mem_of_getElem? (i := 220) rfl)) rfl
theorem w_X1_cutWeight_se : Cond.selects yX1_cutWeight.cls yX1_cutWeight yX1_cutWeight ∈ pTb := pwi (tk4 (List.mem_of_getElem? (i := 221) rfl)) rfl
theorem w_X1_cutWeight_co : Cond.code yX1_cutWeight cX1_cutWeight 3 (some .int) ∈ pTb := pwi (tk4 (List.mem_of_getElem? (i := 222) rfl)) rfl
theorem w_X1_cutWeight_in : Cond.initialized yX1_cutWeight.cls ∈ pTb := pwi (tk1 (List.mem_of_getElem? (i := 3) rfl)) rfl
theorem pl_X1_cutWeight : plain yX1_cutWeight 2 := ⟨by decide +kernel, by decide +kernel, by decide +kernel⟩
theorem w_X1_m3 : Cond.methodLink RX1 3 objectInit ∈ pTb := pwi (tk1 (List.mem_of_getElem? (i := 103) rfl)) rfl
theorem w_X1_f9 : Cond.fieldLink RX1 9 (TX1 0).1 (TX1 0).2.1 (TX1 0).2.2.1 ∈ pTb := pwi (tk1 (List.mem_of_getElem? (i := 104) rfl)) rfl
theorem w_X1_f15 : Cond.fieldLink RX1 15 (TX1 1).1 (TX1 1).2.1 (TX1 1).2.2.1 ∈ pTb := pwi (tk1 (List.mem_of_getElem? (i := 106) rfl)) rfl
theorem w_X1_f18 : Cond.fieldLink RX1 18 (TX1 2).1 (TX1 2).2.1 (TX1 2).2.2.1 ∈ pTb := pwi (tk1 (List.mem_of_getElem? (i := 110) rfl)) rfl
theorem w_X1_f22 : Cond.fieldLink RX1 22 (TX1 3).1 (TX1 3).2.1 (TX1 3).2.2.1 ∈ pTb := pwi (tk1 (List.mem_of_getElem? (i := 111) rfl)) rfl
theorem w_X1_f25 : Cond.fieldLink RX1 25 (TX1 4).1 (TX1 4).2.1 (TX1 4).2.2.1 ∈ pTb := pwi (tk1 (List.mem_of_getElem? (i := 112) rfl)) rfl
theorem w_X1_f28 : Cond.fieldLink RX1 28 (TX1 5).1 (TX1 5).2.1 (TX1 5).2.2.1 ∈ pTb := pwi (tk1 (List.mem_of_getElem? (i := 115) rfl)) rfl
theorem w_X1_f31 : Cond.fieldLink RX1 31 (TX1 6).1 (TX1 6).2.1 (TX1 6).2.2.1 ∈ pTb := pwi (tk1 (List.mem_of_getElem? (i := 116) rfl)) rfl
theorem w_X1_f34 : Cond.fieldLink RX1 34 (TX1 7).1 (TX1 7).2.1 (TX1 7).2.2.1 ∈ pTb := pwi (tk1 (List.mem_of_getElem? (i := 117) rfl)) rfl
theorem w_X1_c41 : Cond.constant RX1 41 (i32 (1000000)) ∈ pTb := pwi (tk4 (List.mem_of_getElem? (i := 69) rfl)) rfl
theorem w_X1_m46 : Cond.methodLink RX1 46 yJ9_min_7cf53 ∈ pTb := pwi (tk4 (List.mem_of_getElem? (i := 71) rfl)) rfl
theorem w_X1_m55 : Cond.methodLink RX1 55 yX1_setCut ∈ pTb := pwi (tk4 (List.mem_of_getElem? (i := 158) rfl)) rfl
theorem w_X1_setCut_im : Cond.instanceMethod yX1_setCut ∈ pTb := pwi (tk4 (List.mem_of_getElem? (i := 160) rfl)) rfl
theorem w_X1_setCut_se : Cond.selects yX1_setCut.cls yX1_setCut yX1_setCut ∈ pTb := pwi (tkp (q := lw_privs[26]) (List.getElem_mem _)) rfl
theorem w_X1_setCut_co : Cond.code yX1_setCut cX1_setCut 5 none ∈ pTb := pwi (tk4 (List.mem_of_getElem? (i := 161) rfl)) rfl
theorem w_X1_setCut_in : Cond.initialized yX1_setCut.cls ∈ pTb := pwi (tk1 (List.mem_of_getElem? (i := 3) rfl)) rfl
theorem pl_X1_setCut : plain yX1_setCut 3 := ⟨by decide +kernel, by decide +kernel, by decide +kernel⟩
theorem w_X1_m59 : Cond.methodLink RX1 59 yX1_cutWeight ∈ pTb := pwi (tk5 (List.mem_of_getElem? (i := 69) rfl)) rfl
theorem w_X4_ins : Cond.instantiable RX4 7 ∈ pTb := pwi (tk1 (List.mem_of_getElem? (i := 137) rfl)) rfl
theorem w_X4_ini : Cond.initialized RX4 ∈ pTb := pwi (tk1 (List.mem_of_getElem? (i := 4) rfl)) rfl
theorem w_X4_init_im : Cond.instanceMethod yX4_init ∈ pTb := pwi (tk1 (List.mem_of_getElem? (i := 139) rfl)) rfl
theorem w_X4_init_co : Cond.code yX4_init cX4_init 1 none ∈ pTb := pwi (tk1 (List.mem_of_getElem? (i := 140) rfl)) rfl
theorem w_X4_init_in : Cond.initialized yX4_init.cls ∈ pTb := pwi (tk1 (List.mem_of_getElem? (i := 4) rfl)) rfl
theorem pl_X4_init : plain yX4_init 0 := ⟨by decide +kernel, by decide +kernel, by decide +kernel⟩
theorem w_X4_add_im : Cond.instanceMethod yX4_add ∈ pTb := pwi (tk4 (List.mem_of_getElem? (i := 134) rfl)) rfl
theorem w_X4_add_se : Cond.selects yX4_add.cls yX4_add yX4_add ∈ pTb := pwi (tk4 (List.mem_of_getElem? (i := 135) rfl)) rfl
theorem w_X4_add_co : Cond.code yX4_add cX4_add 6 (some .int) ∈ pTb := pwi (tk4 (List.mem_of_getElem? (i := 136) rfl)) rfl
theorem w_X4_add_in : Cond.initialized yX4_add.cls ∈ pTb := pwi (tk1 (List.mem_of_getElem? (i := 4) rfl)) rfl
theorem pl_X4_add : plain yX4_add 4 := ⟨by decide +kernel, by decide +kernel, by decide +kernel⟩
theorem w_X4_stands_im : Cond.instanceMethod yX4_stands ∈ pTb := pwi (tk3 (List.mem_of_getElem? (i := 92) rfl)) rfl
theorem w_X4_stands_se : Cond.selects yX4_stands.cls yX4_stands yX4_stands ∈ pTb := pwi (tk3 (List.mem_of_getElem? (i := 93) rfl)) rfl
theorem w_X4_stands_co : Cond.code yX4_stands cX4_stands 2 (some .boolean) ∈ pTb := pwi (tk3 (List.mem_of_getElem? (i := 94) rfl)) rfl
theorem w_X4_stands_in : Cond.initialized yX4_stands.cls ∈ pTb := pwi (tk1 (List.mem_of_getElem? (i := 4) rfl)) rfl
theorem pl_X4_stands : plain yX4_stands 1 := ⟨by decide +kernel, by decide +kernel, by decide +kernel⟩
theorem w_X4_has_im : Cond.instanceMethod yX4_has ∈ pTb := pwi (tk3 (List.mem_of_getElem? (i := 96) rfl)) rfl
theorem w_X4_has_se : Cond.selects yX4_has.cls yX4_has yX4_has ∈ pTb := pwi (tk3 (List.mem_of_getElem? (i := 97) rfl)) rfl
theorem w_X4_has_co : Cond.code yX4_has cX4_has 2 (some .boolean) ∈ pTb := pwi (tk3 (List.mem_of_getElem? (i := 98) rfl)) rfl
theorem w_X4_has_in : Cond.initialized yX4_has.cls ∈ pTb := pwi (tk1 (List.mem_of_getElem? (i := 4) rfl)) rfl
theorem pl_X4_has : plain yX4_has 1 := ⟨by decide +kernel, by decide +kernel, by decide +kernel⟩
theorem w_X4_partner_im : Cond.instanceMethod yX4_partner ∈ pTb := pwi (tk4 (List.mem_of_getElem? (i := 212) rfl)) rfl
theorem w_X4_partner_se : Cond.selects yX4_partner.cls yX4_partner yX4_partner ∈ pTb := pwi (tk4 (List.mem_of_getElem? (i := 213) rfl)) rfl
theorem w_X4_partner_co : Cond.code yX4_partner cX4_partner 3 (some .int) ∈ pTb := pwi (tk4 (List.mem_of_getElem? (i := 214) rfl)) rfl
theorem w_X4_partner_in : Cond.initialized yX4_partner.cls ∈ pTb := pwi (tk1 (List.mem_of_getElem? (i := 4) rfl)) rfl
theorem pl_X4_partner : plain yX4_partner 2 := ⟨by decide +kernel, by decide +kernel, by decide +kernel⟩
theorem w_X4_standing_im : Cond.instanceMethod yX4_standing ∈ pTb := pwi (tk5 (List.mem_of_getElem? (i := 50) rfl)) rfl
theorem w_X4_standing_se : Cond.selects yX4_standing.cls yX4_standing yX4_standing ∈ pTb := pwi (tk5 (List.mem_of_getElem? (i := 51) rfl)) rfl
theorem w_X4_standing_co : Cond.code yX4_standing cX4_standing 3 (some .int) ∈ pTb := pwi (tk5 (List.mem_of_getElem? (i := 52) rfl)) rfl
theorem w_X4_standing_in : Cond.initialized yX4_standing.cls ∈ pTb := pwi (tk1 (List.mem_of_getElem? (i := 4) rfl)) rfl
theorem pl_X4_standing : plain yX4_standing 0 := ⟨by decide +kernel, by decide +kernel, by decide +kernel⟩
theorem w_X4_stoodOn_im : Cond.instanceMethod yX4_stoodOn ∈ pTb := pwi (tk3 (List.mem_of_getElem? (i := 71) rfl)) rfl
theorem w_X4_stoodOn_se : Cond.selects yX4_stoodOn.cls yX4_stoodOn yX4_stoodOn ∈ pTb := pwi (tk3 (List.mem_of_getElem? (i := 72) rfl)) rfl
theorem w_X4_stoodOn_co : Cond.code yX4_stoodOn cX4_stoodOn 3 (some .boolean) ∈ pTb := pwi (tk3 (List.mem_of_getElem? (i := 73) rfl)) rfl
theorem w_X4_stoodOn_in : Cond.initialized yX4_stoodOn.cls ∈ pTb := pwi (tk1 (List.mem_of_getElem? (i := 4) rfl)) rfl
theorem pl_X4_stoodOn : plain yX4_stoodOn 2 := ⟨by decide +kernel, by decide +kernel, by decide +kernel⟩
theorem w_X4_neighbour_im : Cond.instanceMethod yX4_neighbour ∈ pTb := pwi (tk3 (List.mem_of_getElem? (i := 100) rfl)) rfl
theorem w_X4_neighbour_se : Cond.selects yX4_neighbour.cls yX4_neighbour yX4_neighbour ∈ pTb := pwi (tk3 (List.mem_of_getElem? (i := 101) rfl)) rfl
theorem w_X4_neighbour_co : Cond.code yX4_neighbour cX4_neighbour 3 (some .int) ∈ pTb := pwi (tk3 (List.mem_of_getElem? (i := 102) rfl)) rfl
theorem w_X4_neighbour_in : Cond.initialized yX4_neighbour.cls ∈ pTb := pwi (tk1 (List.mem_of_getElem? (i := 4) rfl)) rfl
theorem pl_X4_neighbour : plain yX4_neighbour 2 := ⟨by decide +kernel, by decide +kernel, by decide +kernel⟩
theorem w_X4_m3 : Cond.methodLink RX4 3 objectInit ∈ pTb := pwi (tk1 (List.mem_of_getElem? (i := 141) rfl)) rfl
theorem w_X4_f11 : Cond.fieldLink RX4 11 (TX4 1).1 (TX4 1).2.1 (TX4 1).2.2.1 ∈ pTb := pwi (tk1 (List.mem_of_getElem? (i := 145) rfl)) rfl
theorem w_X4_f15 : Cond.fieldLink RX4 15 (TX4 2).1 (TX4 2).2.1 (TX4 2).2.2.1 ∈ pTb := pwi (tk1 (List.mem_of_getElem? (i := 148) rfl)) rfl
theorem w_X4_f18 : Cond.fieldLink RX4 18 (TX4 3).1 (TX4 3).2.1 (TX4 3).2.2.1 ∈ pTb := pwi (tk1 (List.mem_of_getElem? (i := 151) rfl)) rfl
theorem w_X4_f21 : Cond.fieldLink RX4 21 (TX4 4).1 (TX4 4).2.1 (TX4 4).2.2.1 ∈ pTb := pwi (tk1 (List.mem_of_getElem? (i := 154) rfl)) rfl
theorem w_X4_f24 : Cond.fieldLink RX4 24 (TX4 5).1 (TX4 5).2.1 (TX4 5).2.2.1 ∈ pTb := pwi (tk1 (List.mem_of_getElem? (i := 156) rfl)) rfl
theorem w_X4_f27 : Cond.fieldLink RX4 27 (TX4 6).1 (TX4 6).2.1 (TX4 6).2.2.1 ∈ pTb := pwi (tk1 (List.mem_of_getElem? (i := 158) rfl)) rfl
theorem w_X4_f31 : Cond.fieldLink RX4 31 (TX4 0).1 (TX4 0).2.1 (TX4 0).2.2.1 ∈ pTb := pwi (tk1 (List.mem_of_getElem? (i := 142) rfl)) rfl
theorem w_X4_m35 : Cond.methodLink RX4 35 yX4_has ∈ pTb := pwi (tk3 (List.mem_of_getElem? (i := 95) rfl)) rfl
theorem w_X3_ins : Cond.instantiable RX3 9 ∈ pTb := pwi (tk1 (List.mem_of_getElem? (i := 178) rfl)) rfl
theorem w_X3_ini : Cond.initialized RX3 ∈ pTb := pwi (tk1 (List.mem_of_getElem? (i := 5) rfl)) rfl
theorem w_X3_init_im : Cond.instanceMethod yX3_init ∈ pTb := pwi (tk1 (List.mem_of_getElem? (i := 180) rfl)) rfl
theorem w_X3_init_co : Cond.code yX3_init cX3_init 3 none ∈ pTb := pwi (tk1 (List.mem_of_getElem? (i := 181) rfl)) rfl
theorem w_X3_init_in : Cond.initialized yX3_init.cls ∈ pTb := pwi (tk1 (List.mem_of_getElem? (i := 5) rfl)) rfl
theorem pl_X3_init : plain yX3_init 2 := ⟨by decide +kernel, by decide +kernel, by decide +kernel⟩
theorem w_X3_isOpen_im : Cond.instanceMethod yX3_isOpen ∈ pTb := pwi (tk5 (List.mem_of_getElem? (i := 62) rfl)) rfl
theorem w_X3_isOpen_se : Cond.selects yX3_isOpen.cls yX3_isOpen yX3_isOpen ∈ pTb := pwi (tk5 (List.mem_of_getElem? (i := 63) rfl)) rfl
theorem w_X3_isOpen_co : Cond.code yX3_isOpen cX3_isOpen 3 (some .boolean) ∈ pTb := pwi (tk5 (List.mem_of_getElem? (i := 64) rfl)) rfl
theorem w_X3_isOpen_in : Cond.initialized yX3_isOpen.cls ∈ pTb := pwi (tk1 (List.mem_of_getElem? (i := 5) rfl)) rfl
theorem pl_X3_isOpen : plain yX3_isOpen 1 := ⟨by decide +kernel, by decide +kernel, by decide +kernel⟩
theorem w_X3_cobbleAsOf_im : Cond.instanceMethod yX3_cobbleAsOf ∈ pTb := pwi (tk4 (List.mem_of_getElem? (i := 147) rfl)) rfl
theorem w_X3_cobbleAsOf_se : Cond.selects yX3_cobbleAsOf.cls yX3_cobbleAsOf yX3_cobbleAsOf ∈ pTb := pwi (tk4 (List.mem_of_getElem? (i := 148) rfl)) rfl
theorem w_X3_cobbleAsOf_co : Cond.code yX3_cobbleAsOf cX3_cobbleAsOf 3 (some .int) ∈ pTb := pwi (tk4 (List.mem_of_getElem? (i := 149) rfl)) rfl
theorem w_X3_cobbleAsOf_in : Cond.initialized yX3_cobbleAsOf.cls ∈ pTb := pwi (tk1 (List.mem_of_getElem? (i := 5) rfl)) rfl
theorem pl_X3_cobbleAsOf : plain yX3_cobbleAsOf 2 := ⟨by decide +kernel, by decide +kernel, by decide +kernel⟩
theorem w_X3_wholesIn_im : Cond.instanceMethod yX3_wholesIn ∈ pTb := pwi (tk5 (List.mem_of_getElem? (i := 30) rfl)) rfl
theorem w_X3_wholesIn_se : Cond.selects yX3_wholesIn.cls yX3_wholesIn yX3_wholesIn ∈ pTb := pwi (tk5 (List.mem_of_getElem? (i := 31) rfl)) rfl
theorem w_X3_wholesIn_co : Cond.code yX3_wholesIn cX3_wholesIn 4 (some .int) ∈ pTb := pwi (tk5 (List.mem_of_getElem? (i := 32) rfl)) rfl
theorem w_X3_wholesIn_in : Cond.initialized yX3_wholesIn.cls ∈ pTb := pwi (tk1 (List.mem_of_getElem? (i := 5) rfl)) rfl
theorem pl_X3_wholesIn : plain yX3_wholesIn 1 := ⟨by decide +kernel, by decide +kernel, by decide +kernel⟩
theorem w_X3_openIn_im : Cond.instanceMethod yX3_openIn ∈ pTb := pwi (tk6 (List.mem_of_getElem? (i := 15) rfl)) rfl
theorem w_X3_openIn_se : Cond.selects yX3_openIn.cls yX3_openIn yX3_openIn ∈ pTb := pwi (tk6 (List.mem_of_getElem? (i := 16) rfl)) rfl
theorem w_X3_openIn_co : Cond.code yX3_openIn cX3_openIn 4 (some .int) ∈ pTb := pwi (tk6 (List.mem_of_getElem? (i := 17) rfl)) rfl
theorem w_X3_openIn_in : Cond.initialized yX3_openIn.cls ∈ pTb := pwi (tk1 (List.mem_of_getElem? (i := 5) rfl)) rfl
theorem pl_X3_openIn : plain yX3_openIn 1 := ⟨by decide +kernel, by decide +kernel, by decide +kernel⟩
theorem w_X3_faultsIn_im : Cond.instanceMethod yX3_faultsIn ∈ pTb := pwi (tk5 (List.mem_of_getElem? (i := 34) rfl)) rfl
theorem w_X3_faultsIn_se : Cond.selects yX3_faultsIn.cls yX3_faultsIn yX3_faultsIn ∈ pTb := pwi (tk5 (List.mem_of_getElem? (i := 35) rfl)) rfl
theorem w_X3_faultsIn_co : Cond.code yX3_faultsIn cX3_faultsIn 4 (some .int) ∈ pTb := pwi (tk5 (List.mem_of_getElem? (i := 36) rfl)) rfl
theorem w_X3_faultsIn_in : Cond.initialized yX3_faultsIn.cls ∈ pTb := pwi (tk1 (List.mem_of_getElem? (i := 5) rfl)) rfl
theorem pl_X3_faultsIn : plain yX3_faultsIn 1 := ⟨by decide +kernel, by decide +kernel, by decide +kernel⟩
theorem w_X3_hourOf_im : Cond.instanceMethod yX3_hourOf ∈ pTb := pwi (tk5 (List.mem_of_getElem? (i := 18) rfl)) rfl
theorem w_X3_hourOf_se : Cond.selects yX3_hourOf.cls yX3_hourOf yX3_hourOf ∈ pTb := pwi (tk5 (List.mem_of_getElem? (i := 19) rfl)) rfl
theorem w_X3_hourOf_co : Cond.code yX3_hourOf cX3_hourOf 5 (some .int) ∈ pTb := pwi (tk5 (List.mem_of_getElem? (i := 20) rfl)) rfl
theorem w_X3_hourOf_in : Cond.initialized yX3_hourOf.cls ∈ pTb := pwi (tk1 (List.mem_of_getElem? (i := 5) rfl)) rfl
theorem pl_X3_hourOf : plain yX3_hourOf 1 := ⟨by decide +kernel, by decide +kernel, by decide +kernel⟩
theorem w_X3_areTwoHands_im : Cond.instanceMethod yX3_areTwoHands ∈ pTb := pwi (tk5 (List.mem_of_getElem? (i := 26) rfl)) rfl
theorem w_X3_areTwoHands_se : Cond.selects yX3_areTwoHands.cls yX3_areTwoHands yX3_areTwoHands ∈ pTb := pwi (tk5 (List.mem_of_getElem? (i := 27) rfl)) rfl
theorem w_X3_areTwoHands_co : Cond.code yX3_areTwoHands cX3_areTwoHands 7 (some .boolean) ∈ pTb := pwi (tk5 (List.mem_of_getElem? (i := 28) rfl)) rfl
theorem w_X3_areTwoHands_in : Cond.initialized yX3_areTwoHands.cls ∈ pTb := pwi (tk1 (List.mem_of_getElem? (i := 5) rfl)) rfl
theorem pl_X3_areTwoHands : plain yX3_areTwoHands 2 := ⟨by decide +kernel, by decide +kernel, by decide +kernel⟩
theorem w_X3_greatCobbles_im : Cond.instanceMethod yX3_greatCobbles ∈ pTb := pwi (tk5 (List.mem_of_getElem? (i := 54) rfl)) rfl
theorem w_X3_greatCobbles_se : Cond.selects yX3_greatCobbles.cls yX3_greatCobbles yX3_greatCobbles ∈ pTb := pwi (tk5 (List.mem_of_getElem? (i := 55) rfl)) rfl
theorem w_X3_greatCobbles_co : Cond.code yX3_greatCobbles cX3_greatCobbles 3 (some .int) ∈ pTb := pwi (tk5 (List.mem_of_getElem? (i := 56) rfl)) rfl
theorem w_X3_greatCobbles_in : Cond.initialized yX3_greatCobbles.cls ∈ pTb := pwi (tk1 (List.mem_of_getElem? (i := 5) rfl)) rfl
theorem pl_X3_greatCobbles : plain yX3_greatCobbles 0 := ⟨by decide +kernel, by decide +kernel, by decide +kernel⟩
theorem w_X3_openJoins_im : Cond.instanceMethod yX3_openJoins ∈ pTb := pwi (tk5 (List.mem_of_getElem? (i := 58) rfl)) rfl
theorem w_X3_openJoins_se : Cond.selects yX3_openJoins.cls yX3_openJoins yX3_openJoins ∈ pTb := pwi (tk5 (List.mem_of_getElem? (i := 59) rfl)) rfl
theorem w_X3_openJoins_co : Cond.code yX3_openJoins cX3_openJoins 3 (some .int) ∈ pTb := pwi (tk5 (List.mem_of_getElem? (i := 60) rfl)) rfl
theorem w_X3_openJoins_in : Cond.initialized yX3_openJoins.cls ∈ pTb := pwi (tk1 (List.mem_of_getElem? (i := 5) rfl)) rfl
theorem pl_X3_openJoins : plain yX3_openJoins 0 := ⟨by decide +kernel, by decide +kernel, by decide +kernel⟩
theorem w_X3_regroup_im : Cond.instanceMethod yX3_regroup ∈ pTb := pwi (tk3 (List.mem_of_getElem? (i := 63) rfl)) rfl
theorem w_X3_regroup_se : Cond.selects yX3_regroup.cls yX3_regroup yX3_regroup ∈ pTb := pwi (tk3 (List.mem_of_getElem? (i := 64) rfl)) rfl
theorem w_X3_regroup_co : Cond.code yX3_regroup cX3_regroup 2 none ∈ pTb := pwi (tk3 (List.mem_of_getElem? (i := 65) rfl)) rfl
theorem w_X3_regroup_in : Cond.initialized yX3_regroup.cls ∈ pTb := pwi (tk1 (List.mem_of_getElem? (i := 5) rfl)) rfl
theorem pl_X3_regroup : plain yX3_regroup 0 := ⟨by decide +kernel, by decide +kernel, by decide +kernel⟩
theorem w_X3_faultsOfWhole_im : Cond.instanceMethod yX3_faultsOfWhole ∈ pTb := pwi (tk6 (List.mem_of_getElem? (i := 33) rfl)) rfl
theorem w_X3_faultsOfWhole_se : Cond.selects yX3_faultsOfWhole.cls yX3_faultsOfWhole yX3_faultsOfWhole ∈ pTb := pwi (tk6 (List.mem_of_getElem? (i := 34) rfl)) rfl
theorem w_X3_faultsOfWhole_co : Cond.code yX3_faultsOfWhole cX3_faultsOfWhole 4 (some .int) ∈ pTb := pwi (tk6 (List.mem_of_getElem? (i := 35) rfl)) rfl
theorem w_X3_faultsOfWhole_in : Cond.initialized yX3_faultsOfWhole.cls ∈ pTb := pwi (tk1 (List.mem_of_getElem? (i := 5) rfl)) rfl
theorem pl_X3_faultsOfWhole : plain yX3_faultsOfWhole 1 := ⟨by decide +kernel, by decide +kernel, by decide +kernel⟩
theorem w_X3_way_st : Cond.static yX3_way ∈ pTb := pwi (tk5 (List.mem_of_getElem? (i := 38) rfl)) rfl
theorem w_X3_way_co : Cond.code yX3_way cX3_way 6 (some .long) ∈ pTb := pwi (tk5 (List.mem_of_getElem? (i := 39) rfl)) rfl
theorem w_X3_way_in : Cond.initialized yX3_way.cls ∈ pTb := pwi (tk1 (List.mem_of_getElem? (i := 5) rfl)) rfl
theorem pl_X3_way : plain yX3_way 4 := ⟨by decide +kernel, by decide +kernel, by decide +kernel⟩
theorem w_X3_m3 : Cond.methodLink RX3 3 objectInit ∈ pTb := pwi (tk1 (List.mem_of_getElem? (i := 182) rfl)) rfl
theorem w_X3_f9 : Cond.fieldLink RX3 9 (TX3 2).1 (TX3 2).2.1 (TX3 2).2.2.1 ∈ pTb := pwi (tk1 (List.mem_of_getElem? (i := 185) rfl)) rfl
theorem w_X3_f15 : Cond.fieldLink RX3 15 (TX3 3).1 (TX3 3).2.1 (TX3 3).2.2.1 ∈ pTb := pwi (tk1 (List.mem_of_getElem? (i := 189) rfl)) rfl
theorem w_X3_f18 : Cond.fieldLink RX3 18 (TX3 4).1 (TX3 4).2.1 (TX3 4).2.2.1 ∈ pTb := pwi (tk1 (List.mem_of_getElem? (i := 192) rfl)) rfl
theorem w_X3_f21 : Cond.fieldLink RX3 21 (TX3 5).1 (TX3 5).2.1 (TX3 5).2.2.1 ∈ pTb := pwi (tk1 (List.mem_of_getElem? (i := 194) rfl)) rfl
theorem w_X3_f24 : Cond.fieldLink RX3 24 (TX3 6).1 (TX3 6).2.1 (TX3 6).2.2.1 ∈ pTb := pwi (tk1 (List.mem_of_getElem? (i := 197) rfl)) rfl
theorem w_X3_f27 : Cond.fieldLink RX3 27 (TX3 7).1 (TX3 7).2.1 (TX3 7).2.2.1 ∈ pTb := pwi (tk1 (List.mem_of_getElem? (i := 198) rfl)) rfl
theorem w_X3_f30 : Cond.fieldLink RX3 30 (TX3 8).1 (TX3 8).2.1 (TX3 8).2.2.1 ∈ pTb := pwi (tk1 (List.mem_of_getElem? (i := 199) rfl)) rfl
theorem w_X3_f33 : Cond.fieldLink RX3 33 (TX3 0).1 (TX3 0).2.1 (TX3 0).2.2.1 ∈ pTb := pwi (tk1 (List.mem_of_getElem? (i := 183) rfl)) rfl
theorem w_X3_f37 : Cond.fieldLink RX3 37 (TX3 1).1 (TX3 1).2.1 (TX3 1).2.2.1 ∈ pTb := pwi (tk1 (List.mem_of_getElem? (i := 184) rfl)) rfl
theorem w_X3_m41 : Cond.methodLink RX3 41 yX3_hang ∈ pTb := pwi (tk3 (List.mem_of_getElem? (i := 66) rfl)) rfl
theorem w_X3_hang_im : Cond.instanceMethod yX3_hang ∈ pTb := pwi (tk3 (List.mem_of_getElem? (i := 68) rfl)) rfl
theorem w_X3_hang_se : Cond.selects yX3_hang.cls yX3_hang yX3_hang ∈ pTb := pwi (tkp (q := lw_privs[1]) (List.getElem_mem _)) rfl
theorem w_X3_hang_co : Cond.code yX3_hang cX3_hang 5 none ∈ pTb := pwi (tk3 (List.mem_of_getElem? (i := 69) rfl)) rfl
theorem w_X3_hang_in : Cond.initialized yX3_hang.cls ∈ pTb := pwi (tk1 (List.mem_of_getElem? (i := 5) rfl)) rfl
theorem pl_X3_hang : plain yX3_hang 3 := ⟨by decide +kernel, by decide +kernel, by decide +kernel⟩
theorem w_X3_f45 : Cond.fieldLink RX3 45 (TX6 0).1 (TX6 0).2.1 (TX6 0).2.2.1 ∈ pTb := pwi (tk1 (List.mem_of_getElem? (i := 37) rfl)) rfl
theorem w_X3_m51 : Cond.methodLink RX3 51 yX3_set ∈ pTb := pwi (tk3 (List.mem_of_getElem? (i := 83) rfl)) rfl
theorem w_X3_set_im : Cond.instanceMethod yX3_set ∈ pTb := pwi (tk3 (List.mem_of_getElem? (i := 85) rfl)) rfl
theorem w_X3_set_se : Cond.selects yX3_set.cls yX3_set yX3_set ∈ pTb := pwi (tkp (q := lw_privs[2]) (List.getElem_mem _)) rfl
theorem w_X3_set_co : Cond.code yX3_set cX3_set 4 none ∈ pTb := pwi (tk3 (List.mem_of_getElem? (i := 86) rfl)) rfl
theorem w_X3_set_in : Cond.initialized yX3_set.cls ∈ pTb := pwi (tk1 (List.mem_of_getElem? (i := 5) rfl)) rfl
theorem pl_X3_set : plain yX3_set 1 := ⟨by decide +kernel, by decide +kernel, by decide +kernel⟩
theorem w_X3_f55 : Cond.fieldLink RX3 55 (TX4 0).1 (TX4 0).2.1 (TX4 0).2.2.1 ∈ pTb := pwi (tk1 (List.mem_of_getElem? (i := 143) rfl)) rfl
theorem w_X3_m58 : Cond.methodLink RX3 58 yX4_stoodOn ∈ pTb := pwi (tk3 (List.mem_of_getElem? (i := 70) rfl)) rfl
theorem w_X3_f62 : Cond.fieldLink RX3 62 (TX4 6).1 (TX4 6).2.1 (TX4 6).2.2.1 ∈ pTb := pwi (tk1 (List.mem_of_getElem? (i := 159) rfl)) rfl
theorem w_X3_f66 : Cond.fieldLink RX3 66 (TX4 1).1 (TX4 1).2.1 (TX4 1).2.2.1 ∈ pTb := pwi (tk1 (List.mem_of_getElem? (i := 146) rfl)) rfl
theorem w_X3_f69 : Cond.fieldLink RX3 69 (TX4 2).1 (TX4 2).2.1 (TX4 2).2.2.1 ∈ pTb := pwi (tk1 (List.mem_of_getElem? (i := 149) rfl)) rfl
theorem w_X3_m72 : Cond.methodLink RX3 72 yX3_merge ∈ pTb := pwi (tk3 (List.mem_of_getElem? (i := 74) rfl)) rfl
theorem w_X3_merge_st : Cond.static yX3_merge ∈ pTb := pwi (tk3 (List.mem_of_getElem? (i := 75) rfl)) rfl
theorem w_X3_merge_co : Cond.code yX3_merge cX3_merge 7 none ∈ pTb := pwi (tk3 (List.mem_of_getElem? (i := 76) rfl)) rfl
theorem w_X3_merge_in : Cond.initialized yX3_merge.cls ∈ pTb := pwi (tk1 (List.mem_of_getElem? (i := 5) rfl)) rfl
theorem pl_X3_merge : plain yX3_merge 4 := ⟨by decide +kernel, by decide +kernel, by decide +kernel⟩
theorem w_X3_m76 : Cond.methodLink RX3 76 yJ9_min_7cf53 ∈ pTb := pwi (tk3 (List.mem_of_getElem? (i := 77) rfl)) rfl
theorem w_X3_m82 : Cond.methodLink RX3 82 yJ9_max_7cf53 ∈ pTb := pwi (tk3 (List.mem_of_getElem? (i := 80) rfl)) rfl
theorem w_X3_m85 : Cond.methodLink RX3 85 yX3_setNeighbours ∈ pTb := pwi (tk3 (List.mem_of_getElem? (i := 87) rfl)) rfl
theorem w_X3_setNeighbours_im : Cond.instanceMethod yX3_setNeighbours ∈ pTb := pwi (tk3 (List.mem_of_getElem? (i := 89) rfl)) rfl
theorem w_X3_setNeighbours_se : Cond.selects yX3_setNeighbours.cls yX3_setNeighbours yX3_setNeighbours ∈ pTb := pwi (tkp (q := lw_privs[3]) (List.getElem_mem _)) rfl
theorem w_X3_setNeighbours_co : Cond.code yX3_setNeighbours cX3_setNeighbours 6 (some .int) ∈ pTb := pwi (tk3 (List.mem_of_getElem? (i := 90) rfl)) rfl
theorem w_X3_setNeighbours_in : Cond.initialized yX3_setNeighbours.cls ∈ pTb := pwi (tk1 (List.mem_of_getElem? (i := 5) rfl)) rfl
theorem pl_X3_setNeighbours : plain yX3_setNeighbours 2 := ⟨by decide +kernel, by decide +kernel, by decide +kernel⟩
theorem w_X3_m88 : Cond.methodLink RX3 88 yX4_stands ∈ pTb := pwi (tk3 (List.mem_of_getElem? (i := 91) rfl)) rfl
theorem w_X3_m92 : Cond.methodLink RX3 92 yX4_neighbour ∈ pTb := pwi (tk3 (List.mem_of_getElem? (i := 99) rfl)) rfl
theorem w_X3_f95 : Cond.fieldLink RX3 95 (TX4 3).1 (TX4 3).2.1 (TX4 3).2.2.1 ∈ pTb := pwi (tk1 (List.mem_of_getElem? (i := 152) rfl)) rfl
theorem w_X3_m102 : Cond.methodLink RX3 102 yX3_isOpen ∈ pTb := pwi (tk5 (List.mem_of_getElem? (i := 61) rfl)) rfl
theorem w_X3_f105 : Cond.fieldLink RX3 105 (TX6 10).1 (TX6 10).2.1 (TX6 10).2.2.1 ∈ pTb := pwi (tk1 (List.mem_of_getElem? (i := 73) rfl)) rfl
theorem w_X3_f108 : Cond.fieldLink RX3 108 (TX6 5).1 (TX6 5).2.1 (TX6 5).2.2.1 ∈ pTb := pwi (tk1 (List.mem_of_getElem? (i := 58) rfl)) rfl
theorem w_X3_m111 : Cond.methodLink RX3 111 yX3_wholesIn ∈ pTb := pwi (tk5 (List.mem_of_getElem? (i := 29) rfl)) rfl
theorem w_X3_m114 : Cond.methodLink RX3 114 yX3_faultsIn ∈ pTb := pwi (tk5 (List.mem_of_getElem? (i := 33) rfl)) rfl
theorem w_X3_m117 : Cond.methodLink RX3 117 yX3_way ∈ pTb := pwi (tk5 (List.mem_of_getElem? (i := 37) rfl)) rfl
theorem w_X3_c121 : Cond.constantLong RX3 121 (i64 (4)) ∈ pTb := pwi (tk5 (List.mem_of_getElem? (i := 40) rfl)) rfl
theorem w_X5_ins : Cond.instantiable RX5 6 ∈ pTb := pwi (tk1 (List.mem_of_getElem? (i := 220) rfl)) rfl
theorem w_X5_ini : Cond.initialized RX5 ∈ pTb := pwi (tk1 (List.mem_of_getElem? (i := 6) rfl)) rfl
theorem w_X5_init_im : Cond.instanceMethod yX5_init ∈ pTb := pwi (tk1 (List.mem_of_getElem? (i := 222) rfl)) rfl
theorem w_X5_init_co : Cond.code yX5_init cX5_init 3 none ∈ pTb := pwi (tk1 (List.mem_of_getElem? (i := 223) rfl)) rfl
theorem w_X5_init_in : Cond.initialized yX5_init.cls ∈ pTb := pwi (tk1 (List.mem_of_getElem? (i := 6) rfl)) rfl
theorem pl_X5_init : plain yX5_init 2 := ⟨by decide +kernel, by decide +kernel, by decide +kernel⟩
theorem w_X5_takeDraft_im : Cond.instanceMethod yX5_takeDraft ∈ pTb := pwi (tk4 (List.mem_of_getElem? (i := 43) rfl)) rfl
theorem w_X5_takeDraft_se : Cond.selects yX5_takeDraft.cls yX5_takeDraft yX5_takeDraft ∈ pTb := pwi (tk4 (List.mem_of_getElem? (i := 44) rfl)) rfl
theorem w_X5_takeDraft_co : Cond.code yX5_takeDraft cX5_takeDraft 2 none ∈ pTb := pwi (tk4 (List.mem_of_getElem? (i := 45) rfl)) rfl
theorem w_X5_takeDraft_in : Cond.initialized yX5_takeDraft.cls ∈ pTb := pwi (tk1 (List.mem_of_getElem? (i := 6) rfl)) rfl
theorem pl_X5_takeDraft : plain yX5_takeDraft 0 := ⟨by decide +kernel, by decide +kernel, by decide +kernel⟩
theorem w_X5_mayMeet_im : Cond.instanceMethod yX5_mayMeet ∈ pTb := pwi (tk4 (List.mem_of_getElem? (i := 59) rfl)) rfl
theorem w_X5_mayMeet_se : Cond.selects yX5_mayMeet.cls yX5_mayMeet yX5_mayMeet ∈ pTb := pwi (tk4 (List.mem_of_getElem? (i := 60) rfl)) rfl
theorem w_X5_mayMeet_co : Cond.code yX5_mayMeet cX5_mayMeet 7 (some .boolean) ∈ pTb := pwi (tk4 (List.mem_of_getElem? (i := 61) rfl)) rfl
theorem w_X5_mayMeet_in : Cond.initialized yX5_mayMeet.cls ∈ pTb := pwi (tk1 (List.mem_of_getElem? (i := 6) rfl)) rfl
theorem pl_X5_mayMeet : plain yX5_mayMeet 2 := ⟨by decide +kernel, by decide +kernel, by decide +kernel⟩
theorem w_X5_doubtOf_im : Cond.instanceMethod yX5_doubtOf ∈ pTb := pwi (tk5 (List.mem_of_getElem? (i := 144) rfl)) rfl
theorem w_X5_doubtOf_se : Cond.selects yX5_doubtOf.cls yX5_doubtOf yX5_doubtOf ∈ pTb := pwi (tk5 (List.mem_of_getElem? (i := 145) rfl)) rfl
theorem w_X5_doubtOf_co : Cond.code yX5_doubtOf cX5_doubtOf 3 (some .int) ∈ pTb := pwi (tk5 (List.mem_of_getElem? (i := 146) rfl)) rfl
theorem w_X5_doubtOf_in : Cond.initialized yX5_doubtOf.cls ∈ pTb := pwi (tk1 (List.mem_of_getElem? (i := 6) rfl)) rfl
theorem pl_X5_doubtOf : plain yX5_doubtOf 2 := ⟨by decide +kernel, by decide +kernel, by decide +kernel⟩
theorem w_X5_stoneOf_im : Cond.instanceMethod yX5_stoneOf ∈ pTb := pwi (tk4 (List.mem_of_getElem? (i := 76) rfl)) rfl
theorem w_X5_stoneOf_se : Cond.selects yX5_stoneOf.cls yX5_stoneOf yX5_stoneOf ∈ pTb := pwi (tk4 (List.mem_of_getElem? (i := 77) rfl)) rfl
theorem w_X5_stoneOf_co : Cond.code yX5_stoneOf cX5_stoneOf 2 (some .int) ∈ pTb := pwi (tk4 (List.mem_of_getElem? (i := 78) rfl)) rfl
theorem w_X5_stoneOf_in : Cond.initialized yX5_stoneOf.cls ∈ pTb := pwi (tk1 (List.mem_of_getElem? (i := 6) rfl)) rfl
theorem pl_X5_stoneOf : plain yX5_stoneOf 1 := ⟨by decide +kernel, by decide +kernel, by decide +kernel⟩
theorem w_X5_m3 : Cond.methodLink RX5 3 objectInit ∈ pTb := pwi (tk1 (List.mem_of_getElem? (i := 224) rfl)) rfl
theorem w_X5_f9 : Cond.fieldLink RX5 9 (TX5 2).1 (TX5 2).2.1 (TX5 2).2.2.1 ∈ pTb := pwi (tk2 (List.mem_of_getElem? (i := 25) rfl)) rfl
theorem w_X5_k15 : Cond.classLink RX5 15 RX8 ∈ pTb := pwi (tk1 (List.mem_of_getElem? (i := 225) rfl)) rfl
theorem w_X5_f18 : Cond.fieldLink RX5 18 (TX5 3).1 (TX5 3).2.1 (TX5 3).2.2.1 ∈ pTb := pwi (tk2 (List.mem_of_getElem? (i := 27) rfl)) rfl
theorem w_X5_f22 : Cond.fieldLink RX5 22 (TX5 4).1 (TX5 4).2.1 (TX5 4).2.2.1 ∈ pTb := pwi (tk2 (List.mem_of_getElem? (i := 29) rfl)) rfl
theorem w_X5_f25 : Cond.fieldLink RX5 25 (TX5 5).1 (TX5 5).2.1 (TX5 5).2.2.1 ∈ pTb := pwi (tk2 (List.mem_of_getElem? (i := 31) rfl)) rfl
theorem w_X5_f29 : Cond.fieldLink RX5 29 (TX5 0).1 (TX5 0).2.1 (TX5 0).2.2.1 ∈ pTb := pwi (tk2 (List.mem_of_getElem? (i := 23) rfl)) rfl
theorem w_X5_f33 : Cond.fieldLink RX5 33 (TX5 1).1 (TX5 1).2.1 (TX5 1).2.2.1 ∈ pTb := pwi (tk2 (List.mem_of_getElem? (i := 24) rfl)) rfl
theorem w_X5_f37 : Cond.fieldLink RX5 37 (TX1 1).1 (TX1 1).2.1 (TX1 1).2.2.1 ∈ pTb := pwi (tk1 (List.mem_of_getElem? (i := 107) rfl)) rfl
theorem w_X5_m42 : Cond.methodLink RX5 42 yX5_sortsMeet ∈ pTb := pwi (tk4 (List.mem_of_getElem? (i := 62) rfl)) rfl
theorem w_X5_sortsMeet_st : Cond.static yX5_sortsMeet ∈ pTb := pwi (tk4 (List.mem_of_getElem? (i := 63) rfl)) rfl
theorem w_X5_sortsMeet_co : Cond.code yX5_sortsMeet cX5_sortsMeet 2 (some .boolean) ∈ pTb := pwi (tk4 (List.mem_of_getElem? (i := 64) rfl)) rfl
theorem w_X5_sortsMeet_in : Cond.initialized yX5_sortsMeet.cls ∈ pTb := pwi (tk1 (List.mem_of_getElem? (i := 6) rfl)) rfl
theorem pl_X5_sortsMeet : plain yX5_sortsMeet 2 := ⟨by decide +kernel, by decide +kernel, by decide +kernel⟩
theorem w_X5_m46 : Cond.methodLink RX5 46 yX1_fit ∈ pTb := pwi (tk4 (List.mem_of_getElem? (i := 65) rfl)) rfl
theorem w_X5_f50 : Cond.fieldLink RX5 50 (TX6 9).1 (TX6 9).2.1 (TX6 9).2.2.1 ∈ pTb := pwi (tk1 (List.mem_of_getElem? (i := 69) rfl)) rfl
theorem w_X5_m55 : Cond.methodLink RX5 55 yX5_stoneOf ∈ pTb := pwi (tk4 (List.mem_of_getElem? (i := 75) rfl)) rfl
theorem w_X5_m59 : Cond.methodLink RX5 59 yX5_stonesMeet ∈ pTb := pwi (tk4 (List.mem_of_getElem? (i := 115) rfl)) rfl
theorem w_X5_stonesMeet_st : Cond.static yX5_stonesMeet ∈ pTb := pwi (tk4 (List.mem_of_getElem? (i := 116) rfl)) rfl
theorem w_X5_stonesMeet_co : Cond.code yX5_stonesMeet cX5_stonesMeet 2 (some .boolean) ∈ pTb := pwi (tk4 (List.mem_of_getElem? (i := 117) rfl)) rfl
theorem w_X5_stonesMeet_in : Cond.initialized yX5_stonesMeet.cls ∈ pTb := pwi (tk1 (List.mem_of_getElem? (i := 6) rfl)) rfl
theorem pl_X5_stonesMeet : plain yX5_stonesMeet 2 := ⟨by decide +kernel, by decide +kernel, by decide +kernel⟩
theorem w_X5_m62 : Cond.methodLink RX5 62 yX5_tellMeeting ∈ pTb := pwi (tk4 (List.mem_of_getElem? (i := 118) rfl)) rfl
theorem w_X5_tellMeeting_im : Cond.instanceMethod yX5_tellMeeting ∈ pTb := pwi (tk4 (List.mem_of_getElem? (i := 120) rfl)) rfl
theorem w_X5_tellMeeting_se : Cond.selects yX5_tellMeeting.cls yX5_tellMeeting yX5_tellMeeting ∈ pTb := pwi (tkp (q := lw_privs[24]) (List.getElem_mem _)) rfl
theorem w_X5_tellMeeting_co : Cond.code yX5_tellMeeting cX5_tellMeeting 6 none ∈ pTb := pwi (tk4 (List.mem_of_getElem? (i := 121) rfl)) rfl
theorem w_X5_tellMeeting_in : Cond.initialized yX5_tellMeeting.cls ∈ pTb := pwi (tk1 (List.mem_of_getElem? (i := 6) rfl)) rfl
theorem pl_X5_tellMeeting : plain yX5_tellMeeting 3 := ⟨by decide +kernel, by decide +kernel, by decide +kernel⟩
theorem w_X5_m66 : Cond.methodLink RX5 66 yX8_firstThatHolds ∈ pTb := pwi (tk4 (List.mem_of_getElem? (i := 83) rfl)) rfl
theorem w_X5_f70 : Cond.fieldLink RX5 70 (TX6 1).1 (TX6 1).2.1 (TX6 1).2.2.1 ∈ pTb := pwi (tk1 (List.mem_of_getElem? (i := 43) rfl)) rfl
theorem w_X5_m73 : Cond.methodLink RX5 73 yX5_tellPiece ∈ pTb := pwi (tk4 (List.mem_of_getElem? (i := 79) rfl)) rfl
theorem w_X5_tellPiece_im : Cond.instanceMethod yX5_tellPiece ∈ pTb := pwi (tk4 (List.mem_of_getElem? (i := 81) rfl)) rfl
theorem w_X5_tellPiece_se : Cond.selects yX5_tellPiece.cls yX5_tellPiece yX5_tellPiece ∈ pTb := pwi (tkp (q := lw_privs[17]) (List.getElem_mem _)) rfl
theorem w_X5_tellPiece_co : Cond.code yX5_tellPiece cX5_tellPiece 3 none ∈ pTb := pwi (tk4 (List.mem_of_getElem? (i := 82) rfl)) rfl
theorem w_X5_tellPiece_in : Cond.initialized yX5_tellPiece.cls ∈ pTb := pwi (tk1 (List.mem_of_getElem? (i := 6) rfl)) rfl
theorem pl_X5_tellPiece : plain yX5_tellPiece 1 := ⟨by decide +kernel, by decide +kernel, by decide +kernel⟩
theorem w_X5_m77 : Cond.methodLink RX5 77 yX8_sumOfDoubt ∈ pTb := pwi (tk5 (List.mem_of_getElem? (i := 147) rfl)) rfl
theorem w_X5_f81 : Cond.fieldLink RX5 81 (TX6 6).1 (TX6 6).2.1 (TX6 6).2.2.1 ∈ pTb := pwi (tk1 (List.mem_of_getElem? (i := 61) rfl)) rfl
theorem w_X5_f84 : Cond.fieldLink RX5 84 (TX6 7).1 (TX6 7).2.1 (TX6 7).2.2.1 ∈ pTb := pwi (tk1 (List.mem_of_getElem? (i := 64) rfl)) rfl
theorem w_X5_f87 : Cond.fieldLink RX5 87 (TX6 8).1 (TX6 8).2.1 (TX6 8).2.2.1 ∈ pTb := pwi (tk1 (List.mem_of_getElem? (i := 67) rfl)) rfl
theorem w_X5_f90 : Cond.fieldLink RX5 90 (TX6 2).1 (TX6 2).2.1 (TX6 2).2.2.1 ∈ pTb := pwi (tk1 (List.mem_of_getElem? (i := 46) rfl)) rfl
theorem w_X5_f93 : Cond.fieldLink RX5 93 (TX6 3).1 (TX6 3).2.1 (TX6 3).2.2.1 ∈ pTb := pwi (tk1 (List.mem_of_getElem? (i := 50) rfl)) rfl
theorem w_X5_f99 : Cond.fieldLink RX5 99 (TX6 4).1 (TX6 4).2.1 (TX6 4).2.2.1 ∈ pTb := pwi (tk1 (List.mem_of_getElem? (i := 54) rfl)) rfl
theorem w_X5_m102 : Cond.methodLink RX5 102 yJ9_max_7cf53 ∈ pTb := pwi (tk4 (List.mem_of_getElem? (i := 123) rfl)) rfl
theorem w_X5_f107 : Cond.fieldLink RX5 107 (TX6 5).1 (TX6 5).2.1 (TX6 5).2.2.1 ∈ pTb := pwi (tk1 (List.mem_of_getElem? (i := 57) rfl)) rfl
theorem w_X5_m110 : Cond.methodLink RX5 110 yX5_tellSizes ∈ pTb := pwi (tk4 (List.mem_of_getElem? (i := 124) rfl)) rfl
theorem w_X5_tellSizes_im : Cond.instanceMethod yX5_tellSizes ∈ pTb := pwi (tk4 (List.mem_of_getElem? (i := 126) rfl)) rfl
theorem w_X5_tellSizes_se : Cond.selects yX5_tellSizes.cls yX5_tellSizes yX5_tellSizes ∈ pTb := pwi (tkp (q := lw_privs[25]) (List.getElem_mem _)) rfl
theorem w_X5_tellSizes_co : Cond.code yX5_tellSizes cX5_tellSizes 5 none ∈ pTb := pwi (tk4 (List.mem_of_getElem? (i := 127) rfl)) rfl
theorem w_X5_tellSizes_in : Cond.initialized yX5_tellSizes.cls ∈ pTb := pwi (tk1 (List.mem_of_getElem? (i := 6) rfl)) rfl
theorem pl_X5_tellSizes : plain yX5_tellSizes 3 := ⟨by decide +kernel, by decide +kernel, by decide +kernel⟩
theorem w_X7_ins : Cond.instantiable RX7 12 ∈ pTb := pwi (tk2 (List.mem_of_getElem? (i := 46) rfl)) rfl
theorem w_X7_ini : Cond.initialized RX7 ∈ pTb := pwi (tk1 (List.mem_of_getElem? (i := 8) rfl)) rfl
theorem w_X7_init_im : Cond.instanceMethod yX7_init ∈ pTb := pwi (tk2 (List.mem_of_getElem? (i := 48) rfl)) rfl
theorem w_X7_init_co : Cond.code yX7_init cX7_init 1 none ∈ pTb := pwi (tk2 (List.mem_of_getElem? (i := 49) rfl)) rfl
theorem w_X7_init_in : Cond.initialized yX7_init.cls ∈ pTb := pwi (tk1 (List.mem_of_getElem? (i := 8) rfl)) rfl
theorem pl_X7_init : plain yX7_init 0 := ⟨by decide +kernel, by decide +kernel, by decide +kernel⟩
theorem w_X7_take8_im : Cond.instanceMethod yX7_take8 ∈ pTb := pwi (tk3 (List.mem_of_getElem? (i := 146) rfl)) rfl
theorem w_X7_take8_se : Cond.selects yX7_take8.cls yX7_take8 yX7_take8 ∈ pTb := pwi (tk3 (List.mem_of_getElem? (i := 147) rfl)) rfl
theorem w_X7_take8_co : Cond.code yX7_take8 cX7_take8 5 none ∈ pTb := pwi (tk3 (List.mem_of_getElem? (i := 148) rfl)) rfl
theorem w_X7_take8_in : Cond.initialized yX7_take8.cls ∈ pTb := pwi (tk1 (List.mem_of_getElem? (i := 8) rfl)) rfl
theorem pl_X7_take8 : plain yX7_take8 1 := ⟨by decide +kernel, by decide +kernel, by decide +kernel⟩
theorem w_X7_read_im : Cond.instanceMethod yX7_read ∈ pTb := pwi (tk3 (List.mem_of_getElem? (i := 156) rfl)) rfl
theorem w_X7_read_se : Cond.selects yX7_read.cls yX7_read yX7_read ∈ pTb := pwi (tk3 (List.mem_of_getElem? (i := 157) rfl)) rfl
theorem w_X7_read_co : Cond.code yX7_read cX7_read 3 (some .int) ∈ pTb := pwi (tk3 (List.mem_of_getElem? (i := 158) rfl)) rfl
theorem w_X7_read_in : Cond.initialized yX7_read.cls ∈ pTb := pwi (tk1 (List.mem_of_getElem? (i := 8) rfl)) rfl
theorem pl_X7_read : plain yX7_read 1 := ⟨by decide +kernel, by decide +kernel, by decide +kernel⟩
theorem w_X7_m3 : Cond.methodLink RX7 3 objectInit ∈ pTb := pwi (tk2 (List.mem_of_getElem? (i := 50) rfl)) rfl
theorem w_X7_f11 : Cond.fieldLink RX7 11 (TX7 1).1 (TX7 1).2.1 (TX7 1).2.2.1 ∈ pTb := pwi (tk2 (List.mem_of_getElem? (i := 109) rfl)) rfl
theorem w_X7_f15 : Cond.fieldLink RX7 15 (TX7 9).1 (TX7 9).2.1 (TX7 9).2.2.1 ∈ pTb := pwi (tk2 (List.mem_of_getElem? (i := 117) rfl)) rfl
theorem w_X7_f21 : Cond.fieldLink RX7 21 (TX7 10).1 (TX7 10).2.1 (TX7 10).2.2.1 ∈ pTb := pwi (tk2 (List.mem_of_getElem? (i := 118) rfl)) rfl
theorem w_X7_f26 : Cond.fieldLink RX7 26 (TX7 11).1 (TX7 11).2.1 (TX7 11).2.2.1 ∈ pTb := pwi (tk2 (List.mem_of_getElem? (i := 119) rfl)) rfl
theorem w_X7_m31 : Cond.methodLink RX7 31 yX7_spell ∈ pTb := pwi (tk2 (List.mem_of_getElem? (i := 52) rfl)) rfl
theorem w_X7_spell_st : Cond.static yX7_spell ∈ pTb := pwi (tk2 (List.mem_of_getElem? (i := 53) rfl)) rfl
theorem w_X7_spell_co : Cond.code yX7_spell cX7_spell 4 none ∈ pTb := pwi (tk2 (List.mem_of_getElem? (i := 54) rfl)) rfl
theorem w_X7_spell_in : Cond.initialized yX7_spell.cls ∈ pTb := pwi (tk1 (List.mem_of_getElem? (i := 8) rfl)) rfl
theorem pl_X7_spell : plain yX7_spell 2 := ⟨by decide +kernel, by decide +kernel, by decide +kernel⟩
theorem w_X7_m37 : Cond.methodLink RX7 37 yJ0_length_8abf5 ∈ pTb := pwi (tk2 (List.mem_of_getElem? (i := 55) rfl)) rfl
theorem w_X7_m43 : Cond.methodLink RX7 43 yJ0_charAt_5068e ∈ pTb := pwi (tk2 (List.mem_of_getElem? (i := 65) rfl)) rfl
theorem w_X7_m47 : Cond.methodLink RX7 47 yX7_withLetter ∈ pTb := pwi (tk2 (List.mem_of_getElem? (i := 103) rfl)) rfl
theorem w_X7_withLetter_st : Cond.static yX7_withLetter ∈ pTb := pwi (tk2 (List.mem_of_getElem? (i := 104) rfl)) rfl
theorem w_X7_withLetter_co : Cond.code yX7_withLetter cX7_withLetter 3 (some .long) ∈ pTb := pwi (tk2 (List.mem_of_getElem? (i := 105) rfl)) rfl
theorem w_X7_withLetter_in : Cond.initialized yX7_withLetter.cls ∈ pTb := pwi (tk1 (List.mem_of_getElem? (i := 8) rfl)) rfl
theorem pl_X7_withLetter : plain yX7_withLetter 2 := ⟨by decide +kernel, by decide +kernel, by decide +kernel⟩
theorem w_X7_f59 : Cond.fieldLink RX7 59 (TX7 0).1 (TX7 0).2.1 (TX7 0).2.2.1 ∈ pTb := pwi (tk2 (List.mem_of_getElem? (i := 107) rfl)) rfl
theorem w_X7_f62 : Cond.fieldLink RX7 62 (TX7 2).1 (TX7 2).2.1 (TX7 2).2.2.1 ∈ pTb := pwi (tk2 (List.mem_of_getElem? (i := 110) rfl)) rfl
theorem w_X7_m66 : Cond.methodLink RX7 66 yX8_clear ∈ pTb := pwi (tk3 (List.mem_of_getElem? (i := 159) rfl)) rfl
theorem w_X7_f69 : Cond.fieldLink RX7 69 (TX7 3).1 (TX7 3).2.1 (TX7 3).2.2.1 ∈ pTb := pwi (tk2 (List.mem_of_getElem? (i := 111) rfl)) rfl
theorem w_X7_f72 : Cond.fieldLink RX7 72 (TX7 6).1 (TX7 6).2.1 (TX7 6).2.2.1 ∈ pTb := pwi (tk2 (List.mem_of_getElem? (i := 114) rfl)) rfl
theorem w_X7_m75 : Cond.methodLink RX7 75 yX7_advance ∈ pTb := pwi (tk3 (List.mem_of_getElem? (i := 163) rfl)) rfl
theorem w_X7_advance_im : Cond.instanceMethod yX7_advance ∈ pTb := pwi (tk3 (List.mem_of_getElem? (i := 165) rfl)) rfl
theorem w_X7_advance_se : Cond.selects yX7_advance.cls yX7_advance yX7_advance ∈ pTb := pwi (tkp (q := lw_privs[4]) (List.getElem_mem _)) rfl
theorem w_X7_advance_co : Cond.code yX7_advance cX7_advance 2 none ∈ pTb := pwi (tk3 (List.mem_of_getElem? (i := 166) rfl)) rfl
theorem w_X7_advance_in : Cond.initialized yX7_advance.cls ∈ pTb := pwi (tk1 (List.mem_of_getElem? (i := 8) rfl)) rfl
theorem pl_X7_advance : plain yX7_advance 0 := ⟨by decide +kernel, by decide +kernel, by decide +kernel⟩
theorem w_X7_f78 : Cond.fieldLink RX7 78 (TX7 4).1 (TX7 4).2.1 (TX7 4).2.2.1 ∈ pTb := pwi (tk2 (List.mem_of_getElem? (i := 112) rfl)) rfl
theorem w_X7_m81 : Cond.methodLink RX7 81 yX7_readLine ∈ pTb := pwi (tk3 (List.mem_of_getElem? (i := 239) rfl)) rfl
theorem w_X7_readLine_im : Cond.instanceMethod yX7_readLine ∈ pTb := pwi (tk4 (List.mem_of_getElem? (i := 1) rfl)) rfl
theorem w_X7_readLine_se : Cond.selects yX7_readLine.cls yX7_readLine yX7_readLine ∈ pTb := pwi (tkp (q := lw_privs[9]) (List.getElem_mem _)) rfl
theorem w_X7_readLine_co : Cond.code yX7_readLine cX7_readLine 3 none ∈ pTb := pwi (tk4 (List.mem_of_getElem? (i := 2) rfl)) rfl
theorem w_X7_readLine_in : Cond.initialized yX7_readLine.cls ∈ pTb := pwi (tk1 (List.mem_of_getElem? (i := 8) rfl)) rfl
theorem pl_X7_readLine : plain yX7_readLine 0 := ⟨by decide +kernel, by decide +kernel, by decide +kernel⟩
theorem w_X7_f84 : Cond.fieldLink RX7 84 (TX7 5).1 (TX7 5).2.1 (TX7 5).2.2.1 ∈ pTb := pwi (tk2 (List.mem_of_getElem? (i := 113) rfl)) rfl
theorem w_X7_m87 : Cond.methodLink RX7 87 yX7_refuse ∈ pTb := pwi (tk4 (List.mem_of_getElem? (i := 3) rfl)) rfl
theorem w_X7_refuse_im : Cond.instanceMethod yX7_refuse ∈ pTb := pwi (tk4 (List.mem_of_getElem? (i := 5) rfl)) rfl
theorem w_X7_refuse_se : Cond.selects yX7_refuse.cls yX7_refuse yX7_refuse ∈ pTb := pwi (tkp (q := lw_privs[10]) (List.getElem_mem _)) rfl
theorem w_X7_refuse_co : Cond.code yX7_refuse cX7_refuse 2 (some .boolean) ∈ pTb := pwi (tk4 (List.mem_of_getElem? (i := 6) rfl)) rfl
theorem w_X7_refuse_in : Cond.initialized yX7_refuse.cls ∈ pTb := pwi (tk1 (List.mem_of_getElem? (i := 8) rfl)) rfl
theorem pl_X7_refuse : plain yX7_refuse 1 := ⟨by decide +kernel, by decide +kernel, by decide +kernel⟩
theorem w_X7_f91 : Cond.fieldLink RX7 91 (TX8 0).1 (TX8 0).2.1 (TX8 0).2.2.1 ∈ pTb := pwi (tk1 (List.mem_of_getElem? (i := 232) rfl)) rfl
theorem w_X7_f94 : Cond.fieldLink RX7 94 (TX7 7).1 (TX7 7).2.1 (TX7 7).2.2.1 ∈ pTb := pwi (tk2 (List.mem_of_getElem? (i := 115) rfl)) rfl
theorem w_X7_m97 : Cond.methodLink RX7 97 yX7_readHead ∈ pTb := pwi (tk4 (List.mem_of_getElem? (i := 7) rfl)) rfl
theorem w_X7_readHead_im : Cond.instanceMethod yX7_readHead ∈ pTb := pwi (tk4 (List.mem_of_getElem? (i := 9) rfl)) rfl
theorem w_X7_readHead_se : Cond.selects yX7_readHead.cls yX7_readHead yX7_readHead ∈ pTb := pwi (tkp (q := lw_privs[11]) (List.getElem_mem _)) rfl
theorem w_X7_readHead_co : Cond.code yX7_readHead cX7_readHead 2 (some .boolean) ∈ pTb := pwi (tk4 (List.mem_of_getElem? (i := 10) rfl)) rfl
theorem w_X7_readHead_in : Cond.initialized yX7_readHead.cls ∈ pTb := pwi (tk1 (List.mem_of_getElem? (i := 8) rfl)) rfl
theorem pl_X7_readHead : plain yX7_readHead 1 := ⟨by decide +kernel, by decide +kernel, by decide +kernel⟩
theorem w_X7_m100 : Cond.methodLink RX7 100 yX7_readChain ∈ pTb := pwi (tk4 (List.mem_of_getElem? (i := 23) rfl)) rfl
theorem w_X7_readChain_im : Cond.instanceMethod yX7_readChain ∈ pTb := pwi (tk4 (List.mem_of_getElem? (i := 25) rfl)) rfl
theorem w_X7_readChain_se : Cond.selects yX7_readChain.cls yX7_readChain yX7_readChain ∈ pTb := pwi (tkp (q := lw_privs[15]) (List.getElem_mem _)) rfl
theorem w_X7_readChain_co : Cond.code yX7_readChain cX7_readChain 6 (some .boolean) ∈ pTb := pwi (tk4 (List.mem_of_getElem? (i := 26) rfl)) rfl
theorem w_X7_readChain_in : Cond.initialized yX7_readChain.cls ∈ pTb := pwi (tk1 (List.mem_of_getElem? (i := 8) rfl)) rfl
theorem pl_X7_readChain : plain yX7_readChain 2 := ⟨by decide +kernel, by decide +kernel, by decide +kernel⟩
theorem w_X7_m104 : Cond.methodLink RX7 104 yX7_accept ∈ pTb := pwi (tk4 (List.mem_of_getElem? (i := 15) rfl)) rfl
theorem w_X7_accept_im : Cond.instanceMethod yX7_accept ∈ pTb := pwi (tk4 (List.mem_of_getElem? (i := 17) rfl)) rfl
theorem w_X7_accept_se : Cond.selects yX7_accept.cls yX7_accept yX7_accept ∈ pTb := pwi (tkp (q := lw_privs[13]) (List.getElem_mem _)) rfl
theorem w_X7_accept_co : Cond.code yX7_accept cX7_accept 2 (some .boolean) ∈ pTb := pwi (tk4 (List.mem_of_getElem? (i := 18) rfl)) rfl
theorem w_X7_accept_in : Cond.initialized yX7_accept.cls ∈ pTb := pwi (tk1 (List.mem_of_getElem? (i := 8) rfl)) rfl
theorem pl_X7_accept : plain yX7_accept 1 := ⟨by decide +kernel, by decide +kernel, by decide +kernel⟩
theorem w_X7_m107 : Cond.methodLink RX7 107 yX8_endLine ∈ pTb := pwi (tk4 (List.mem_of_getElem? (i := 38) rfl)) rfl
theorem w_X7_m111 : Cond.methodLink RX7 111 yX7_readNewName ∈ pTb := pwi (tk4 (List.mem_of_getElem? (i := 11) rfl)) rfl
theorem w_X7_readNewName_im : Cond.instanceMethod yX7_readNewName ∈ pTb := pwi (tk4 (List.mem_of_getElem? (i := 13) rfl)) rfl
theorem w_X7_readNewName_se : Cond.selects yX7_readNewName.cls yX7_readNewName yX7_readNewName ∈ pTb := pwi (tkp (q := lw_privs[12]) (List.getElem_mem _)) rfl
theorem w_X7_readNewName_co : Cond.code yX7_readNewName cX7_readNewName 1 (some .boolean) ∈ pTb := pwi (tk4 (List.mem_of_getElem? (i := 14) rfl)) rfl
theorem w_X7_readNewName_in : Cond.initialized yX7_readNewName.cls ∈ pTb := pwi (tk1 (List.mem_of_getElem? (i := 8) rfl)) rfl
theorem pl_X7_readNewName : plain yX7_readNewName 0 := ⟨by decide +kernel, by decide +kernel, by decide +kernel⟩
theorem w_X7_m115 : Cond.methodLink RX7 115 yX7_readNumber ∈ pTb := pwi (tk4 (List.mem_of_getElem? (i := 19) rfl)) rfl
theorem w_X7_readNumber_im : Cond.instanceMethod yX7_readNumber ∈ pTb := pwi (tk4 (List.mem_of_getElem? (i := 21) rfl)) rfl
theorem w_X7_readNumber_se : Cond.selects yX7_readNumber.cls yX7_readNumber yX7_readNumber ∈ pTb := pwi (tkp (q := lw_privs[14]) (List.getElem_mem _)) rfl
theorem w_X7_readNumber_co : Cond.code yX7_readNumber cX7_readNumber 3 (some .boolean) ∈ pTb := pwi (tk4 (List.mem_of_getElem? (i := 22) rfl)) rfl
theorem w_X7_readNumber_in : Cond.initialized yX7_readNumber.cls ∈ pTb := pwi (tk1 (List.mem_of_getElem? (i := 8) rfl)) rfl
theorem pl_X7_readNumber : plain yX7_readNumber 2 := ⟨by decide +kernel, by decide +kernel, by decide +kernel⟩
theorem w_X7_f118 : Cond.fieldLink RX7 118 (TX8 1).1 (TX8 1).2.1 (TX8 1).2.2.1 ∈ pTb := pwi (tk1 (List.mem_of_getElem? (i := 235) rfl)) rfl
theorem w_X7_f120 : Cond.fieldLink RX7 120 (TX7 8).1 (TX7 8).2.1 (TX7 8).2.2.1 ∈ pTb := pwi (tk2 (List.mem_of_getElem? (i := 116) rfl)) rfl
theorem w_X7_m124 : Cond.methodLink RX7 124 yX7_readPart ∈ pTb := pwi (tk4 (List.mem_of_getElem? (i := 27) rfl)) rfl
theorem w_X7_readPart_im : Cond.instanceMethod yX7_readPart ∈ pTb := pwi (tk4 (List.mem_of_getElem? (i := 29) rfl)) rfl
theorem w_X7_readPart_se : Cond.selects yX7_readPart.cls yX7_readPart yX7_readPart ∈ pTb := pwi (tkp (q := lw_privs[16]) (List.getElem_mem _)) rfl
theorem w_X7_readPart_co : Cond.code yX7_readPart cX7_readPart 5 (some .boolean) ∈ pTb := pwi (tk4 (List.mem_of_getElem? (i := 30) rfl)) rfl
theorem w_X7_readPart_in : Cond.initialized yX7_readPart.cls ∈ pTb := pwi (tk1 (List.mem_of_getElem? (i := 8) rfl)) rfl
theorem pl_X7_readPart : plain yX7_readPart 1 := ⟨by decide +kernel, by decide +kernel, by decide +kernel⟩
theorem w_X7_m127 : Cond.methodLink RX7 127 yX7_levelOf ∈ pTb := pwi (tk4 (List.mem_of_getElem? (i := 35) rfl)) rfl
theorem w_X7_levelOf_st : Cond.static yX7_levelOf ∈ pTb := pwi (tk4 (List.mem_of_getElem? (i := 36) rfl)) rfl
theorem w_X7_levelOf_co : Cond.code yX7_levelOf cX7_levelOf 1 (some .int) ∈ pTb := pwi (tk4 (List.mem_of_getElem? (i := 37) rfl)) rfl
theorem w_X7_levelOf_in : Cond.initialized yX7_levelOf.cls ∈ pTb := pwi (tk1 (List.mem_of_getElem? (i := 8) rfl)) rfl
theorem pl_X7_levelOf : plain yX7_levelOf 1 := ⟨by decide +kernel, by decide +kernel, by decide +kernel⟩
theorem w_X7_m131 : Cond.methodLink RX7 131 yX8_write ∈ pTb := pwi (tk4 (List.mem_of_getElem? (i := 31) rfl)) rfl
theorem w_X7_m134 : Cond.methodLink RX7 134 yX7_runEnd ∈ pTb := pwi (tk3 (List.mem_of_getElem? (i := 167) rfl)) rfl
theorem w_X7_runEnd_im : Cond.instanceMethod yX7_runEnd ∈ pTb := pwi (tk3 (List.mem_of_getElem? (i := 169) rfl)) rfl
theorem w_X7_runEnd_se : Cond.selects yX7_runEnd.cls yX7_runEnd yX7_runEnd ∈ pTb := pwi (tkp (q := lw_privs[5]) (List.getElem_mem _)) rfl
theorem w_X7_runEnd_co : Cond.code yX7_runEnd cX7_runEnd 5 (some .int) ∈ pTb := pwi (tk3 (List.mem_of_getElem? (i := 170) rfl)) rfl
theorem w_X7_runEnd_in : Cond.initialized yX7_runEnd.cls ∈ pTb := pwi (tk1 (List.mem_of_getElem? (i := 8) rfl)) rfl
theorem pl_X7_runEnd : plain yX7_runEnd 3 := ⟨by decide +kernel, by decide +kernel, by decide +kernel⟩
theorem w_X7_m138 : Cond.methodLink RX7 138 yX7_takeWord ∈ pTb := pwi (tk3 (List.mem_of_getElem? (i := 171) rfl)) rfl
theorem w_X7_takeWord_im : Cond.instanceMethod yX7_takeWord ∈ pTb := pwi (tk3 (List.mem_of_getElem? (i := 173) rfl)) rfl
theorem w_X7_takeWord_se : Cond.selects yX7_takeWord.cls yX7_takeWord yX7_takeWord ∈ pTb := pwi (tkp (q := lw_privs[6]) (List.getElem_mem _)) rfl
theorem w_X7_takeWord_co : Cond.code yX7_takeWord cX7_takeWord 3 none ∈ pTb := pwi (tk3 (List.mem_of_getElem? (i := 174) rfl)) rfl
theorem w_X7_takeWord_in : Cond.initialized yX7_takeWord.cls ∈ pTb := pwi (tk1 (List.mem_of_getElem? (i := 8) rfl)) rfl
theorem pl_X7_takeWord : plain yX7_takeWord 0 := ⟨by decide +kernel, by decide +kernel, by decide +kernel⟩
theorem w_X7_m141 : Cond.methodLink RX7 141 yX7_takeNumber ∈ pTb := pwi (tk3 (List.mem_of_getElem? (i := 179) rfl)) rfl
theorem w_X7_takeNumber_im : Cond.instanceMethod yX7_takeNumber ∈ pTb := pwi (tk3 (List.mem_of_getElem? (i := 181) rfl)) rfl
theorem w_X7_takeNumber_se : Cond.selects yX7_takeNumber.cls yX7_takeNumber yX7_takeNumber ∈ pTb := pwi (tkp (q := lw_privs[8]) (List.getElem_mem _)) rfl
theorem w_X7_takeNumber_co : Cond.code yX7_takeNumber cX7_takeNumber 2 none ∈ pTb := pwi (tk3 (List.mem_of_getElem? (i := 182) rfl)) rfl
theorem w_X7_takeNumber_in : Cond.initialized yX7_takeNumber.cls ∈ pTb := pwi (tk1 (List.mem_of_getElem? (i := 8) rfl)) rfl
theorem pl_X7_takeNumber : plain yX7_takeNumber 0 := ⟨by decide +kernel, by decide +kernel, by decide +kernel⟩
theorem w_X7_m146 : Cond.methodLink RX7 146 yJ0_indexOf_0f7a4 ∈ pTb := pwi (tk3 (List.mem_of_getElem? (i := 184) rfl)) rfl
theorem w_X7_m149 : Cond.methodLink RX7 149 yX7_find ∈ pTb := pwi (tk3 (List.mem_of_getElem? (i := 175) rfl)) rfl
theorem w_X7_find_im : Cond.instanceMethod yX7_find ∈ pTb := pwi (tk3 (List.mem_of_getElem? (i := 177) rfl)) rfl
theorem w_X7_find_se : Cond.selects yX7_find.cls yX7_find yX7_find ∈ pTb := pwi (tkp (q := lw_privs[7]) (List.getElem_mem _)) rfl
theorem w_X7_find_co : Cond.code yX7_find cX7_find 4 (some .int) ∈ pTb := pwi (tk3 (List.mem_of_getElem? (i := 178) rfl)) rfl
theorem w_X7_find_in : Cond.initialized yX7_find.cls ∈ pTb := pwi (tk1 (List.mem_of_getElem? (i := 8) rfl)) rfl
theorem pl_X7_find : plain yX7_find 2 := ⟨by decide +kernel, by decide +kernel, by decide +kernel⟩
theorem w_X0_ins : Cond.instantiable RX0 12 ∈ pTb := pwi (tk2 (List.mem_of_getElem? (i := 148) rfl)) rfl
theorem w_X0_ini : Cond.initialized RX0 ∈ pTb := pwi (tk1 (List.mem_of_getElem? (i := 13) rfl)) rfl
theorem w_X0_init_im : Cond.instanceMethod yX0_init ∈ pTb := pwi (tk2 (List.mem_of_getElem? (i := 150) rfl)) rfl
theorem w_X0_init_co : Cond.code yX0_init cX0_init 5 none ∈ pTb := pwi (tk2 (List.mem_of_getElem? (i := 151) rfl)) rfl
theorem w_X0_init_in : Cond.initialized yX0_init.cls ∈ pTb := pwi (tk1 (List.mem_of_getElem? (i := 13) rfl)) rfl
theorem pl_X0_init : plain yX0_init 4 := ⟨by decide +kernel, by decide +kernel, by decide +kernel⟩
theorem w_X0_forget_im : Cond.instanceMethod yX0_forget ∈ pTb := pwi (tk3 (List.mem_of_getElem? (i := 107) rfl)) rfl
theorem w_X0_forget_se : Cond.selects yX0_forget.cls yX0_forget yX0_forget ∈ pTb := pwi (tk3 (List.mem_of_getElem? (i := 108) rfl)) rfl
theorem w_X0_forget_co : Cond.code yX0_forget cX0_forget 1 none ∈ pTb := pwi (tk3 (List.mem_of_getElem? (i := 109) rfl)) rfl
theorem w_X0_forget_in : Cond.initialized yX0_forget.cls ∈ pTb := pwi (tk1 (List.mem_of_getElem? (i := 13) rfl)) rfl
theorem pl_X0_forget : plain yX0_forget 0 := ⟨by decide +kernel, by decide +kernel, by decide +kernel⟩
theorem w_X0_blowOf_im : Cond.instanceMethod yX0_blowOf ∈ pTb := pwi (tk4 (List.mem_of_getElem? (i := 208) rfl)) rfl
theorem w_X0_blowOf_se : Cond.selects yX0_blowOf.cls yX0_blowOf yX0_blowOf ∈ pTb := pwi (tk4 (List.mem_of_getElem? (i := 209) rfl)) rfl
theorem w_X0_blowOf_co : Cond.code yX0_blowOf cX0_blowOf 3 (some .int) ∈ pTb := pwi (tk4 (List.mem_of_getElem? (i := 210) rfl)) rfl
theorem w_X0_blowOf_in : Cond.initialized yX0_blowOf.cls ∈ pTb := pwi (tk1 (List.mem_of_getElem? (i := 13) rfl)) rfl
theorem pl_X0_blowOf : plain yX0_blowOf 1 := ⟨by decide +kernel, by decide +kernel, by decide +kernel⟩
theorem w_X0_isHole_im : Cond.instanceMethod yX0_isHole ∈ pTb := pwi (tk4 (List.mem_of_getElem? (i := 188) rfl)) rfl
theorem w_X0_isHole_se : Cond.selects yX0_isHole.cls yX0_isHole yX0_isHole ∈ pTb := pwi (tk4 (List.mem_of_getElem? (i := 189) rfl)) rfl
theorem w_X0_isHole_co : Cond.code yX0_isHole cX0_isHole 2 (some .boolean) ∈ pTb := pwi (tk4 (List.mem_of_getElem? (i := 190) rfl)) rfl
theorem w_X0_isHole_in : Cond.initialized yX0_isHole.cls ∈ pTb := pwi (tk1 (List.mem_of_getElem? (i := 13) rfl)) rfl
theorem pl_X0_isHole : plain yX0_isHole 1 := ⟨by decide +kernel, by decide +kernel, by decide +kernel⟩
theorem w_X0_holesIn_im : Cond.instanceMethod yX0_holesIn ∈ pTb := pwi (tk6 (List.mem_of_getElem? (i := 11) rfl)) rfl
theorem w_X0_holesIn_se : Cond.selects yX0_holesIn.cls yX0_holesIn yX0_holesIn ∈ pTb := pwi (tk6 (List.mem_of_getElem? (i := 12) rfl)) rfl
theorem w_X0_holesIn_co : Cond.code yX0_holesIn cX0_holesIn 4 (some .int) ∈ pTb := pwi (tk6 (List.mem_of_getElem? (i := 13) rfl)) rfl
theorem w_X0_holesIn_in : Cond.initialized yX0_holesIn.cls ∈ pTb := pwi (tk1 (List.mem_of_getElem? (i := 13) rfl)) rfl
theorem pl_X0_holesIn : plain yX0_holesIn 1 := ⟨by decide +kernel, by decide +kernel, by decide +kernel⟩
theorem w_X0_leastQuarrel_im : Cond.instanceMethod yX0_leastQuarrel ∈ pTb := pwi (tk6 (List.mem_of_getElem? (i := 19) rfl)) rfl
theorem w_X0_leastQuarrel_se : Cond.selects yX0_leastQuarrel.cls yX0_leastQuarrel yX0_leastQuarrel ∈ pTb := pwi (tk6 (List.mem_of_getElem? (i := 20) rfl)) rfl
theorem w_X0_leastQuarrel_co : Cond.code yX0_leastQuarrel cX0_leastQuarrel 2 (some .int) ∈ pTb := pwi (tk6 (List.mem_of_getElem? (i := 21) rfl)) rfl
theorem w_X0_leastQuarrel_in : Cond.initialized yX0_leastQuarrel.cls ∈ pTb := pwi (tk1 (List.mem_of_getElem? (i := 13) rfl)) rfl
theorem pl_X0_leastQuarrel : plain yX0_leastQuarrel 1 := ⟨by decide +kernel, by decide +kernel, by decide +kernel⟩
theorem w_X0_isRing_im : Cond.instanceMethod yX0_isRing ∈ pTb := pwi (tk6 (List.mem_of_getElem? (i := 23) rfl)) rfl
theorem w_X0_isRing_se : Cond.selects yX0_isRing.cls yX0_isRing yX0_isRing ∈ pTb := pwi (tk6 (List.mem_of_getElem? (i := 24) rfl)) rfl
theorem w_X0_isRing_co : Cond.code yX0_isRing cX0_isRing 2 (some .boolean) ∈ pTb := pwi (tk6 (List.mem_of_getElem? (i := 25) rfl)) rfl
theorem w_X0_isRing_in : Cond.initialized yX0_isRing.cls ∈ pTb := pwi (tk1 (List.mem_of_getElem? (i := 13) rfl)) rfl
theorem pl_X0_isRing : plain yX0_isRing 1 := ⟨by decide +kernel, by decide +kernel, by decide +kernel⟩
theorem w_X0_changeOf_im : Cond.instanceMethod yX0_changeOf ∈ pTb := pwi (tk6 (List.mem_of_getElem? (i := 27) rfl)) rfl
theorem w_X0_changeOf_se : Cond.selects yX0_changeOf.cls yX0_changeOf yX0_changeOf ∈ pTb := pwi (tk6 (List.mem_of_getElem? (i := 28) rfl)) rfl
theorem w_X0_changeOf_co : Cond.code yX0_changeOf cX0_changeOf 18 (some .int) ∈ pTb := pwi (tk6 (List.mem_of_getElem? (i := 29) rfl)) rfl
theorem w_X0_changeOf_in : Cond.initialized yX0_changeOf.cls ∈ pTb := pwi (tk1 (List.mem_of_getElem? (i := 13) rfl)) rfl
theorem pl_X0_changeOf : plain yX0_changeOf 1 := ⟨by decide +kernel, by decide +kernel, by decide +kernel⟩
theorem w_X0_inOrder_im : Cond.instanceMethod yX0_inOrder ∈ pTb := pwi (tk4 (List.mem_of_getElem? (i := 167) rfl)) rfl
theorem w_X0_inOrder_se : Cond.selects yX0_inOrder.cls yX0_inOrder yX0_inOrder ∈ pTb := pwi (tk4 (List.mem_of_getElem? (i := 168) rfl)) rfl
theorem w_X0_inOrder_co : Cond.code yX0_inOrder cX0_inOrder 3 (some .int) ∈ pTb := pwi (tk4 (List.mem_of_getElem? (i := 169) rfl)) rfl
theorem w_X0_inOrder_in : Cond.initialized yX0_inOrder.cls ∈ pTb := pwi (tk1 (List.mem_of_getElem? (i := 13) rfl)) rfl
theorem pl_X0_inOrder : plain yX0_inOrder 2 := ⟨by decide +kernel, by decide +kernel, by decide +kernel⟩
theorem w_X0_m3 : Cond.methodLink RX0 3 objectInit ∈ pTb := pwi (tk2 (List.mem_of_getElem? (i := 152) rfl)) rfl
theorem w_X0_f9 : Cond.fieldLink RX0 9 (TX0 4).1 (TX0 4).2.1 (TX0 4).2.2.1 ∈ pTb := pwi (tk2 (List.mem_of_getElem? (i := 157) rfl)) rfl
theorem w_X0_f15 : Cond.fieldLink RX0 15 (TX0 6).1 (TX0 6).2.1 (TX0 6).2.2.1 ∈ pTb := pwi (tk2 (List.mem_of_getElem? (i := 159) rfl)) rfl
theorem w_X0_f19 : Cond.fieldLink RX0 19 (TX0 7).1 (TX0 7).2.1 (TX0 7).2.2.1 ∈ pTb := pwi (tk2 (List.mem_of_getElem? (i := 160) rfl)) rfl
theorem w_X0_f22 : Cond.fieldLink RX0 22 (TX0 8).1 (TX0 8).2.1 (TX0 8).2.2.1 ∈ pTb := pwi (tk2 (List.mem_of_getElem? (i := 161) rfl)) rfl
theorem w_X0_f25 : Cond.fieldLink RX0 25 (TX0 9).1 (TX0 9).2.1 (TX0 9).2.2.1 ∈ pTb := pwi (tk2 (List.mem_of_getElem? (i := 162) rfl)) rfl
theorem w_X0_f28 : Cond.fieldLink RX0 28 (TX0 10).1 (TX0 10).2.1 (TX0 10).2.2.1 ∈ pTb := pwi (tk2 (List.mem_of_getElem? (i := 163) rfl)) rfl
theorem w_X0_f31 : Cond.fieldLink RX0 31 (TX0 11).1 (TX0 11).2.1 (TX0 11).2.2.1 ∈ pTb := pwi (tk2 (List.mem_of_getElem? (i := 164) rfl)) rfl
theorem w_X0_f34 : Cond.fieldLink RX0 34 (TX0 0).1 (TX0 0).2.1 (TX0 0).2.2.1 ∈ pTb := pwi (tk2 (List.mem_of_getElem? (i := 153) rfl)) rfl
theorem w_X0_f38 : Cond.fieldLink RX0 38 (TX0 1).1 (TX0 1).2.1 (TX0 1).2.2.1 ∈ pTb := pwi (tk2 (List.mem_of_getElem? (i := 154) rfl)) rfl
theorem w_X0_f42 : Cond.fieldLink RX0 42 (TX0 2).1 (TX0 2).2.1 (TX0 2).2.2.1 ∈ pTb := pwi (tk2 (List.mem_of_getElem? (i := 155) rfl)) rfl
theorem w_X0_f46 : Cond.fieldLink RX0 46 (TX0 3).1 (TX0 3).2.1 (TX0 3).2.2.1 ∈ pTb := pwi (tk2 (List.mem_of_getElem? (i := 156) rfl)) rfl
theorem w_X0_m50 : Cond.methodLink RX0 50 yX0_arrange ∈ pTb := pwi (tk4 (List.mem_of_getElem? (i := 170) rfl)) rfl
theorem w_X0_arrange_im : Cond.instanceMethod yX0_arrange ∈ pTb := pwi (tk4 (List.mem_of_getElem? (i := 172) rfl)) rfl
theorem w_X0_arrange_se : Cond.selects yX0_arrange.cls yX0_arrange yX0_arrange ∈ pTb := pwi (tkp (q := lw_privs[27]) (List.getElem_mem _)) rfl
theorem w_X0_arrange_co : Cond.code yX0_arrange cX0_arrange 2 none ∈ pTb := pwi (tk4 (List.mem_of_getElem? (i := 173) rfl)) rfl
theorem w_X0_arrange_in : Cond.initialized yX0_arrange.cls ∈ pTb := pwi (tk1 (List.mem_of_getElem? (i := 13) rfl)) rfl
theorem pl_X0_arrange : plain yX0_arrange 1 := ⟨by decide +kernel, by decide +kernel, by decide +kernel⟩
theorem w_X0_m54 : Cond.methodLink RX0 54 yX0_hasOrder ∈ pTb := pwi (tk4 (List.mem_of_getElem? (i := 237) rfl)) rfl
theorem w_X0_hasOrder_im : Cond.instanceMethod yX0_hasOrder ∈ pTb := pwi (tk4 (List.mem_of_getElem? (i := 239) rfl)) rfl
theorem w_X0_hasOrder_se : Cond.selects yX0_hasOrder.cls yX0_hasOrder yX0_hasOrder ∈ pTb := pwi (tkp (q := lw_privs[39]) (List.getElem_mem _)) rfl
theorem w_X0_hasOrder_co : Cond.code yX0_hasOrder cX0_hasOrder 1 (some .boolean) ∈ pTb := pwi (tk5 (List.mem_of_getElem? (i := 0) rfl)) rfl
theorem w_X0_hasOrder_in : Cond.initialized yX0_hasOrder.cls ∈ pTb := pwi (tk1 (List.mem_of_getElem? (i := 13) rfl)) rfl
theorem pl_X0_hasOrder : plain yX0_hasOrder 0 := ⟨by decide +kernel, by decide +kernel, by decide +kernel⟩
theorem w_X0_f58 : Cond.fieldLink RX0 58 (TX0 5).1 (TX0 5).2.1 (TX0 5).2.2.1 ∈ pTb := pwi (tk2 (List.mem_of_getElem? (i := 158) rfl)) rfl
theorem w_X0_f61 : Cond.fieldLink RX0 61 (TX1 1).1 (TX1 1).2.1 (TX1 1).2.2.1 ∈ pTb := pwi (tk1 (List.mem_of_getElem? (i := 108) rfl)) rfl
theorem w_X0_f66 : Cond.fieldLink RX0 66 (TX1 4).1 (TX1 4).2.1 (TX1 4).2.2.1 ∈ pTb := pwi (tk1 (List.mem_of_getElem? (i := 113) rfl)) rfl
theorem w_X0_m69 : Cond.methodLink RX0 69 yX0_isOfGreatCobble ∈ pTb := pwi (tk4 (List.mem_of_getElem? (i := 191) rfl)) rfl
theorem w_X0_isOfGreatCobble_im : Cond.instanceMethod yX0_isOfGreatCobble ∈ pTb := pwi (tk4 (List.mem_of_getElem? (i := 193) rfl)) rfl
theorem w_X0_isOfGreatCobble_se : Cond.selects yX0_isOfGreatCobble.cls yX0_isOfGreatCobble yX0_isOfGreatCobble ∈ pTb := pwi (tkp (q := lw_privs[31]) (List.getElem_mem _)) rfl
theorem w_X0_isOfGreatCobble_co : Cond.code yX0_isOfGreatCobble cX0_isOfGreatCobble 2 (some .boolean) ∈ pTb := pwi (tk4 (List.mem_of_getElem? (i := 194) rfl)) rfl
theorem w_X0_isOfGreatCobble_in : Cond.initialized yX0_isOfGreatCobble.cls ∈ pTb := pwi (tk1 (List.mem_of_getElem? (i := 13) rfl)) rfl
theorem pl_X0_isOfGreatCobble : plain yX0_isOfGreatCobble 1 := ⟨by decide +kernel, by decide +kernel, by decide +kernel⟩
theorem w_X0_f73 : Cond.fieldLink RX0 73 (TX3 5).1 (TX3 5).2.1 (TX3 5).2.2.1 ∈ pTb := pwi (tk1 (List.mem_of_getElem? (i := 195) rfl)) rfl
theorem w_X0_f78 : Cond.fieldLink RX0 78 (TX3 2).1 (TX3 2).2.1 (TX3 2).2.2.1 ∈ pTb := pwi (tk1 (List.mem_of_getElem? (i := 187) rfl)) rfl
theorem w_X0_m81 : Cond.methodLink RX0 81 yX4_partner ∈ pTb := pwi (tk4 (List.mem_of_getElem? (i := 211) rfl)) rfl
theorem w_X0_f87 : Cond.fieldLink RX0 87 (TX3 3).1 (TX3 3).2.1 (TX3 3).2.2.1 ∈ pTb := pwi (tk1 (List.mem_of_getElem? (i := 190) rfl)) rfl
theorem w_X0_f90 : Cond.fieldLink RX0 90 (TX6 0).1 (TX6 0).2.1 (TX6 0).2.2.1 ∈ pTb := pwi (tk1 (List.mem_of_getElem? (i := 40) rfl)) rfl
theorem w_X0_m93 : Cond.methodLink RX0 93 yX0_isFaceOf ∈ pTb := pwi (tk4 (List.mem_of_getElem? (i := 182) rfl)) rfl
theorem w_X0_isFaceOf_im : Cond.instanceMethod yX0_isFaceOf ∈ pTb := pwi (tk4 (List.mem_of_getElem? (i := 184) rfl)) rfl
theorem w_X0_isFaceOf_se : Cond.selects yX0_isFaceOf.cls yX0_isFaceOf yX0_isFaceOf ∈ pTb := pwi (tkp (q := lw_privs[30]) (List.getElem_mem _)) rfl
theorem w_X0_isFaceOf_co : Cond.code yX0_isFaceOf cX0_isFaceOf 3 (some .boolean) ∈ pTb := pwi (tk4 (List.mem_of_getElem? (i := 185) rfl)) rfl
theorem w_X0_isFaceOf_in : Cond.initialized yX0_isFaceOf.cls ∈ pTb := pwi (tk1 (List.mem_of_getElem? (i := 13) rfl)) rfl
theorem pl_X0_isFaceOf : plain yX0_isFaceOf 2 := ⟨by decide +kernel, by decide +kernel, by decide +kernel⟩
theorem w_X0_m97 : Cond.methodLink RX0 97 yX0_isHole ∈ pTb := pwi (tk4 (List.mem_of_getElem? (i := 187) rfl)) rfl
theorem w_X0_m100 : Cond.methodLink RX0 100 yX1_has ∈ pTb := pwi (tk4 (List.mem_of_getElem? (i := 186) rfl)) rfl
theorem w_X0_c103 : Cond.constant RX0 103 (i32 (1000000)) ∈ pTb := pwi (tk4 (List.mem_of_getElem? (i := 231) rfl)) rfl
theorem w_X0_m104 : Cond.methodLink RX0 104 yX0_gather ∈ pTb := pwi (tk4 (List.mem_of_getElem? (i := 174) rfl)) rfl
theorem w_X0_gather_im : Cond.instanceMethod yX0_gather ∈ pTb := pwi (tk4 (List.mem_of_getElem? (i := 176) rfl)) rfl
theorem w_X0_gather_se : Cond.selects yX0_gather.cls yX0_gather yX0_gather ∈ pTb := pwi (tkp (q := lw_privs[28]) (List.getElem_mem _)) rfl
theorem w_X0_gather_co : Cond.code yX0_gather cX0_gather 3 none ∈ pTb := pwi (tk4 (List.mem_of_getElem? (i := 177) rfl)) rfl
theorem w_X0_gather_in : Cond.initialized yX0_gather.cls ∈ pTb := pwi (tk1 (List.mem_of_getElem? (i := 13) rfl)) rfl
theorem pl_X0_gather : plain yX0_gather 1 := ⟨by decide +kernel, by decide +kernel, by decide +kernel⟩
theorem w_X0_m107 : Cond.methodLink RX0 107 yX0_tellSure ∈ pTb := pwi (tk4 (List.mem_of_getElem? (i := 195) rfl)) rfl
theorem w_X0_tellSure_im : Cond.instanceMethod yX0_tellSure ∈ pTb := pwi (tk4 (List.mem_of_getElem? (i := 197) rfl)) rfl
theorem w_X0_tellSure_se : Cond.selects yX0_tellSure.cls yX0_tellSure yX0_tellSure ∈ pTb := pwi (tkp (q := lw_privs[32]) (List.getElem_mem _)) rfl
theorem w_X0_tellSure_co : Cond.code yX0_tellSure cX0_tellSure 6 none ∈ pTb := pwi (tk4 (List.mem_of_getElem? (i := 198) rfl)) rfl
theorem w_X0_tellSure_in : Cond.initialized yX0_tellSure.cls ∈ pTb := pwi (tk1 (List.mem_of_getElem? (i := 13) rfl)) rfl
theorem pl_X0_tellSure : plain yX0_tellSure 1 := ⟨by decide +kernel, by decide +kernel, by decide +kernel⟩
theorem w_X0_m110 : Cond.methodLink RX0 110 yX0_tellCuts ∈ pTb := pwi (tk4 (List.mem_of_getElem? (i := 215) rfl)) rfl
theorem w_X0_tellCuts_im : Cond.instanceMethod yX0_tellCuts ∈ pTb := pwi (tk4 (List.mem_of_getElem? (i := 217) rfl)) rfl
theorem w_X0_tellCuts_se : Cond.selects yX0_tellCuts.cls yX0_tellCuts yX0_tellCuts ∈ pTb := pwi (tkp (q := lw_privs[35]) (List.getElem_mem _)) rfl
theorem w_X0_tellCuts_co : Cond.code yX0_tellCuts cX0_tellCuts 5 none ∈ pTb := pwi (tk4 (List.mem_of_getElem? (i := 218) rfl)) rfl
theorem w_X0_tellCuts_in : Cond.initialized yX0_tellCuts.cls ∈ pTb := pwi (tk1 (List.mem_of_getElem? (i := 13) rfl)) rfl
theorem pl_X0_tellCuts : plain yX0_tellCuts 1 := ⟨by decide +kernel, by decide +kernel, by decide +kernel⟩
theorem w_X0_m113 : Cond.methodLink RX0 113 yX0_weighAll ∈ pTb := pwi (tk4 (List.mem_of_getElem? (i := 227) rfl)) rfl
theorem w_X0_weighAll_im : Cond.instanceMethod yX0_weighAll ∈ pTb := pwi (tk4 (List.mem_of_getElem? (i := 229) rfl)) rfl
theorem w_X0_weighAll_se : Cond.selects yX0_weighAll.cls yX0_weighAll yX0_weighAll ∈ pTb := pwi (tkp (q := lw_privs[37]) (List.getElem_mem _)) rfl
theorem w_X0_weighAll_co : Cond.code yX0_weighAll cX0_weighAll 5 none ∈ pTb := pwi (tk4 (List.mem_of_getElem? (i := 230) rfl)) rfl
theorem w_X0_weighAll_in : Cond.initialized yX0_weighAll.cls ∈ pTb := pwi (tk1 (List.mem_of_getElem? (i := 13) rfl)) rfl
theorem pl_X0_weighAll : plain yX0_weighAll 0 := ⟨by decide +kernel, by decide +kernel, by decide +kernel⟩
theorem w_X0_m116 : Cond.methodLink RX0 116 yX0_putInOrder ∈ pTb := pwi (tk5 (List.mem_of_getElem? (i := 1) rfl)) rfl
theorem w_X0_putInOrder_im : Cond.instanceMethod yX0_putInOrder ∈ pTb := pwi (tk5 (List.mem_of_getElem? (i := 3) rfl)) rfl
theorem w_X0_putInOrder_se : Cond.selects yX0_putInOrder.cls yX0_putInOrder yX0_putInOrder ∈ pTb := pwi (tkp (q := lw_privs[40]) (List.getElem_mem _)) rfl
theorem w_X0_putInOrder_co : Cond.code yX0_putInOrder cX0_putInOrder 4 none ∈ pTb := pwi (tk5 (List.mem_of_getElem? (i := 4) rfl)) rfl
theorem w_X0_putInOrder_in : Cond.initialized yX0_putInOrder.cls ∈ pTb := pwi (tk1 (List.mem_of_getElem? (i := 13) rfl)) rfl
theorem pl_X0_putInOrder : plain yX0_putInOrder 0 := ⟨by decide +kernel, by decide +kernel, by decide +kernel⟩
theorem w_X0_m119 : Cond.methodLink RX0 119 yX0_addBlow ∈ pTb := pwi (tk4 (List.mem_of_getElem? (i := 178) rfl)) rfl
theorem w_X0_addBlow_im : Cond.instanceMethod yX0_addBlow ∈ pTb := pwi (tk4 (List.mem_of_getElem? (i := 180) rfl)) rfl
theorem w_X0_addBlow_se : Cond.selects yX0_addBlow.cls yX0_addBlow yX0_addBlow ∈ pTb := pwi (tkp (q := lw_privs[29]) (List.getElem_mem _)) rfl
theorem w_X0_addBlow_co : Cond.code yX0_addBlow cX0_addBlow 2 none ∈ pTb := pwi (tk4 (List.mem_of_getElem? (i := 181) rfl)) rfl
theorem w_X0_addBlow_in : Cond.initialized yX0_addBlow.cls ∈ pTb := pwi (tk1 (List.mem_of_getElem? (i := 13) rfl)) rfl
theorem pl_X0_addBlow : plain yX0_addBlow 1 := ⟨by decide +kernel, by decide +kernel, by decide +kernel⟩
theorem w_X0_m122 : Cond.methodLink RX0 122 yX0_placesStruck ∈ pTb := pwi (tk4 (List.mem_of_getElem? (i := 199) rfl)) rfl
theorem w_X0_placesStruck_im : Cond.instanceMethod yX0_placesStruck ∈ pTb := pwi (tk4 (List.mem_of_getElem? (i := 201) rfl)) rfl
theorem w_X0_placesStruck_se : Cond.selects yX0_placesStruck.cls yX0_placesStruck yX0_placesStruck ∈ pTb := pwi (tkp (q := lw_privs[33]) (List.getElem_mem _)) rfl
theorem w_X0_placesStruck_co : Cond.code yX0_placesStruck cX0_placesStruck 5 (some .int) ∈ pTb := pwi (tk4 (List.mem_of_getElem? (i := 202) rfl)) rfl
theorem w_X0_placesStruck_in : Cond.initialized yX0_placesStruck.cls ∈ pTb := pwi (tk1 (List.mem_of_getElem? (i := 13) rfl)) rfl
theorem pl_X0_placesStruck : plain yX0_placesStruck 1 := ⟨by decide +kernel, by decide +kernel, by decide +kernel⟩
theorem w_X0_m126 : Cond.methodLink RX0 126 yX0_placeOf ∈ pTb := pwi (tk4 (List.mem_of_getElem? (i := 203) rfl)) rfl
theorem w_X0_placeOf_im : Cond.instanceMethod yX0_placeOf ∈ pTb := pwi (tk4 (List.mem_of_getElem? (i := 205) rfl)) rfl
theorem w_X0_placeOf_se : Cond.selects yX0_placeOf.cls yX0_placeOf yX0_placeOf ∈ pTb := pwi (tkp (q := lw_privs[34]) (List.getElem_mem _)) rfl
theorem w_X0_placeOf_co : Cond.code yX0_placeOf cX0_placeOf 3 (some .int) ∈ pTb := pwi (tk4 (List.mem_of_getElem? (i := 206) rfl)) rfl
theorem w_X0_placeOf_in : Cond.initialized yX0_placeOf.cls ∈ pTb := pwi (tk1 (List.mem_of_getElem? (i := 13) rfl)) rfl
theorem pl_X0_placeOf : plain yX0_placeOf 1 := ⟨by decide +kernel, by decide +kernel, by decide +kernel⟩
theorem w_X0_m129 : Cond.methodLink RX0 129 yX0_blowOf ∈ pTb := pwi (tk4 (List.mem_of_getElem? (i := 207) rfl)) rfl
theorem w_X0_m132 : Cond.methodLink RX0 132 yX1_cutWeight ∈ pTb := pwi (tk4 (List.mem_of_getElem? (i := 219) rfl)) rfl
theorem w_X0_m135 : Cond.methodLink RX0 135 yX0_addCut ∈ pTb := pwi (tk4 (List.mem_of_getElem? (i := 223) rfl)) rfl
theorem w_X0_addCut_im : Cond.instanceMethod yX0_addCut ∈ pTb := pwi (tk4 (List.mem_of_getElem? (i := 225) rfl)) rfl
theorem w_X0_addCut_se : Cond.selects yX0_addCut.cls yX0_addCut yX0_addCut ∈ pTb := pwi (tkp (q := lw_privs[36]) (List.getElem_mem _)) rfl
theorem w_X0_addCut_co : Cond.code yX0_addCut cX0_addCut 6 none ∈ pTb := pwi (tk4 (List.mem_of_getElem? (i := 226) rfl)) rfl
theorem w_X0_addCut_in : Cond.initialized yX0_addCut.cls ∈ pTb := pwi (tk1 (List.mem_of_getElem? (i := 13) rfl)) rfl
theorem pl_X0_addCut : plain yX0_addCut 3 := ⟨by decide +kernel, by decide +kernel, by decide +kernel⟩
theorem w_X0_m139 : Cond.methodLink RX0 139 yX0_weigh ∈ pTb := pwi (tk4 (List.mem_of_getElem? (i := 232) rfl)) rfl
theorem w_X0_weigh_im : Cond.instanceMethod yX0_weigh ∈ pTb := pwi (tk4 (List.mem_of_getElem? (i := 234) rfl)) rfl
theorem w_X0_weigh_se : Cond.selects yX0_weigh.cls yX0_weigh yX0_weigh ∈ pTb := pwi (tkp (q := lw_privs[38]) (List.getElem_mem _)) rfl
theorem w_X0_weigh_co : Cond.code yX0_weigh cX0_weigh 6 (some .int) ∈ pTb := pwi (tk4 (List.mem_of_getElem? (i := 235) rfl)) rfl
theorem w_X0_weigh_in : Cond.initialized yX0_weigh.cls ∈ pTb := pwi (tk1 (List.mem_of_getElem? (i := 13) rfl)) rfl
theorem pl_X0_weigh : plain yX0_weigh 2 := ⟨by decide +kernel, by decide +kernel, by decide +kernel⟩
theorem w_X0_m142 : Cond.methodLink RX0 142 yJ9_min_7cf53 ∈ pTb := pwi (tk4 (List.mem_of_getElem? (i := 236) rfl)) rfl
theorem w_X0_m147 : Cond.methodLink RX0 147 yX3_wholesIn ∈ pTb := pwi (tk6 (List.mem_of_getElem? (i := 30) rfl)) rfl
theorem w_X0_m150 : Cond.methodLink RX0 150 yX3_faultsIn ∈ pTb := pwi (tk6 (List.mem_of_getElem? (i := 31) rfl)) rfl
theorem w_X0_m153 : Cond.methodLink RX0 153 yX3_faultsOfWhole ∈ pTb := pwi (tk6 (List.mem_of_getElem? (i := 32) rfl)) rfl
theorem w_X0_m156 : Cond.methodLink RX0 156 yX3_way ∈ pTb := pwi (tk6 (List.mem_of_getElem? (i := 36) rfl)) rfl
theorem w_X0_c160 : Cond.constantLong RX0 160 (i64 (4)) ∈ pTb := pwi (tk6 (List.mem_of_getElem? (i := 37) rfl)) rfl
theorem w_X2_ins : Cond.instantiable RX2 17 ∈ pTb := pwi (tk2 (List.mem_of_getElem? (i := 191) rfl)) rfl
theorem w_X2_ini : Cond.initialized RX2 ∈ pTb := pwi (tk1 (List.mem_of_getElem? (i := 14) rfl)) rfl
theorem w_X2_init_im : Cond.instanceMethod yX2_init ∈ pTb := pwi (tk2 (List.mem_of_getElem? (i := 193) rfl)) rfl
theorem w_X2_init_co : Cond.code yX2_init cX2_init 3 none ∈ pTb := pwi (tk2 (List.mem_of_getElem? (i := 194) rfl)) rfl
theorem w_X2_init_in : Cond.initialized yX2_init.cls ∈ pTb := pwi (tk1 (List.mem_of_getElem? (i := 14) rfl)) rfl
theorem pl_X2_init : plain yX2_init 2 := ⟨by decide +kernel, by decide +kernel, by decide +kernel⟩
theorem w_X2_isLeftAlone_im : Cond.instanceMethod yX2_isLeftAlone ∈ pTb := pwi (tk5 (List.mem_of_getElem? (i := 177) rfl)) rfl
theorem w_X2_isLeftAlone_se : Cond.selects yX2_isLeftAlone.cls yX2_isLeftAlone yX2_isLeftAlone ∈ pTb := pwi (tk5 (List.mem_of_getElem? (i := 178) rfl)) rfl
theorem w_X2_isLeftAlone_co : Cond.code yX2_isLeftAlone cX2_isLeftAlone 3 (some .boolean) ∈ pTb := pwi (tk5 (List.mem_of_getElem? (i := 179) rfl)) rfl
theorem w_X2_isLeftAlone_in : Cond.initialized yX2_isLeftAlone.cls ∈ pTb := pwi (tk1 (List.mem_of_getElem? (i := 14) rfl)) rfl
theorem pl_X2_isLeftAlone : plain yX2_isLeftAlone 1 := ⟨by decide +kernel, by decide +kernel, by decide +kernel⟩
theorem w_X2_walk_im : Cond.instanceMethod yX2_walk ∈ pTb := pwi (tk5 (List.mem_of_getElem? (i := 181) rfl)) rfl
theorem w_X2_walk_se : Cond.selects yX2_walk.cls yX2_walk yX2_walk ∈ pTb := pwi (tk5 (List.mem_of_getElem? (i := 182) rfl)) rfl
theorem w_X2_walk_co : Cond.code yX2_walk cX2_walk 4 none ∈ pTb := pwi (tk5 (List.mem_of_getElem? (i := 183) rfl)) rfl
theorem w_X2_walk_in : Cond.initialized yX2_walk.cls ∈ pTb := pwi (tk1 (List.mem_of_getElem? (i := 14) rfl)) rfl
theorem pl_X2_walk : plain yX2_walk 1 := ⟨by decide +kernel, by decide +kernel, by decide +kernel⟩
theorem w_X2_findSeats_im : Cond.instanceMethod yX2_findSeats ∈ pTb := pwi (tk5 (List.mem_of_getElem? (i := 185) rfl)) rfl
theorem w_X2_findSeats_se : Cond.selects yX2_findSeats.cls yX2_findSeats yX2_findSeats ∈ pTb := pwi (tk5 (List.mem_of_getElem? (i := 186) rfl)) rfl
theorem w_X2_findSeats_co : Cond.code yX2_findSeats cX2_findSeats 7 none ∈ pTb := pwi (tk5 (List.mem_of_getElem? (i := 187) rfl)) rfl
theorem w_X2_findSeats_in : Cond.initialized yX2_findSeats.cls ∈ pTb := pwi (tk1 (List.mem_of_getElem? (i := 14) rfl)) rfl
theorem pl_X2_findSeats : plain yX2_findSeats 2 := ⟨by decide +kernel, by decide +kernel, by decide +kernel⟩
theorem w_X2_addFoot_im : Cond.instanceMethod yX2_addFoot ∈ pTb := pwi (tk5 (List.mem_of_getElem? (i := 10) rfl)) rfl
theorem w_X2_addFoot_se : Cond.selects yX2_addFoot.cls yX2_addFoot yX2_addFoot ∈ pTb := pwi (tk5 (List.mem_of_getElem? (i := 11) rfl)) rfl
theorem w_X2_addFoot_co : Cond.code yX2_addFoot cX2_addFoot 4 (some .int) ∈ pTb := pwi (tk5 (List.mem_of_getElem? (i := 12) rfl)) rfl
theorem w_X2_addFoot_in : Cond.initialized yX2_addFoot.cls ∈ pTb := pwi (tk1 (List.mem_of_getElem? (i := 14) rfl)) rfl
theorem pl_X2_addFoot : plain yX2_addFoot 3 := ⟨by decide +kernel, by decide +kernel, by decide +kernel⟩
theorem w_X2_forget_im : Cond.instanceMethod yX2_forget ∈ pTb := pwi (tk3 (List.mem_of_getElem? (i := 111) rfl)) rfl
theorem w_X2_forget_se : Cond.selects yX2_forget.cls yX2_forget yX2_forget ∈ pTb := pwi (tk3 (List.mem_of_getElem? (i := 112) rfl)) rfl
theorem w_X2_forget_co : Cond.code yX2_forget cX2_forget 1 none ∈ pTb := pwi (tk3 (List.mem_of_getElem? (i := 113) rfl)) rfl
theorem w_X2_forget_in : Cond.initialized yX2_forget.cls ∈ pTb := pwi (tk1 (List.mem_of_getElem? (i := 14) rfl)) rfl
theorem pl_X2_forget : plain yX2_forget 0 := ⟨by decide +kernel, by decide +kernel, by decide +kernel⟩
theorem w_X2_m5 : Cond.methodLink RX2 5 objectInit ∈ pTb := pwi (tk2 (List.mem_of_getElem? (i := 195) rfl)) rfl
theorem w_X2_f11 : Cond.fieldLink RX2 11 (TX2 3).1 (TX2 3).2.1 (TX2 3).2.2.1 ∈ pTb := pwi (tk2 (List.mem_of_getElem? (i := 199) rfl)) rfl
theorem w_X2_f15 : Cond.fieldLink RX2 15 (TX2 4).1 (TX2 4).2.1 (TX2 4).2.2.1 ∈ pTb := pwi (tk2 (List.mem_of_getElem? (i := 200) rfl)) rfl
theorem w_X2_f18 : Cond.fieldLink RX2 18 (TX2 5).1 (TX2 5).2.1 (TX2 5).2.2.1 ∈ pTb := pwi (tk2 (List.mem_of_getElem? (i := 201) rfl)) rfl
theorem w_X2_f21 : Cond.fieldLink RX2 21 (TX2 6).1 (TX2 6).2.1 (TX2 6).2.2.1 ∈ pTb := pwi (tk2 (List.mem_of_getElem? (i := 202) rfl)) rfl
theorem w_X2_f24 : Cond.fieldLink RX2 24 (TX2 7).1 (TX2 7).2.1 (TX2 7).2.2.1 ∈ pTb := pwi (tk2 (List.mem_of_getElem? (i := 203) rfl)) rfl
theorem w_X2_f27 : Cond.fieldLink RX2 27 (TX2 8).1 (TX2 8).2.1 (TX2 8).2.2.1 ∈ pTb := pwi (tk2 (List.mem_of_getElem? (i := 204) rfl)) rfl
theorem w_X2_f30 : Cond.fieldLink RX2 30 (TX2 10).1 (TX2 10).2.1 (TX2 10).2.2.1 ∈ pTb := pwi (tk2 (List.mem_of_getElem? (i := 206) rfl)) rfl
theorem w_X2_f34 : Cond.fieldLink RX2 34 (TX2 0).1 (TX2 0).2.1 (TX2 0).2.2.1 ∈ pTb := pwi (tk2 (List.mem_of_getElem? (i := 196) rfl)) rfl
theorem w_X2_f38 : Cond.fieldLink RX2 38 (TX2 1).1 (TX2 1).2.1 (TX2 1).2.2.1 ∈ pTb := pwi (tk2 (List.mem_of_getElem? (i := 197) rfl)) rfl
theorem w_X2_f42 : Cond.fieldLink RX2 42 (TX2 2).1 (TX2 2).2.1 (TX2 2).2.2.1 ∈ pTb := pwi (tk2 (List.mem_of_getElem? (i := 198) rfl)) rfl
theorem w_X2_f45 : Cond.fieldLink RX2 45 (TX2 11).1 (TX2 11).2.1 (TX2 11).2.2.1 ∈ pTb := pwi (tk2 (List.mem_of_getElem? (i := 207) rfl)) rfl
theorem w_X2_m48 : Cond.methodLink RX2 48 yX2_measure ∈ pTb := pwi (tk5 (List.mem_of_getElem? (i := 188) rfl)) rfl
theorem w_X2_measure_im : Cond.instanceMethod yX2_measure ∈ pTb := pwi (tk5 (List.mem_of_getElem? (i := 190) rfl)) rfl
theorem w_X2_measure_se : Cond.selects yX2_measure.cls yX2_measure yX2_measure ∈ pTb := pwi (tkp (q := lw_privs[43]) (List.getElem_mem _)) rfl
theorem w_X2_measure_co : Cond.code yX2_measure cX2_measure 3 none ∈ pTb := pwi (tk5 (List.mem_of_getElem? (i := 191) rfl)) rfl
theorem w_X2_measure_in : Cond.initialized yX2_measure.cls ∈ pTb := pwi (tk1 (List.mem_of_getElem? (i := 14) rfl)) rfl
theorem pl_X2_measure : plain yX2_measure 1 := ⟨by decide +kernel, by decide +kernel, by decide +kernel⟩
theorem w_X2_c52 : Cond.constant RX2 52 (i32 (1000000)) ∈ pTb := pwi (tk5 (List.mem_of_getElem? (i := 205) rfl)) rfl
theorem w_X2_f53 : Cond.fieldLink RX2 53 (TX2 12).1 (TX2 12).2.1 (TX2 12).2.2.1 ∈ pTb := pwi (tk2 (List.mem_of_getElem? (i := 208) rfl)) rfl
theorem w_X2_f56 : Cond.fieldLink RX2 56 (TX2 9).1 (TX2 9).2.1 (TX2 9).2.2.1 ∈ pTb := pwi (tk2 (List.mem_of_getElem? (i := 205) rfl)) rfl
theorem w_X2_m59 : Cond.methodLink RX2 59 yX2_above ∈ pTb := pwi (tk5 (List.mem_of_getElem? (i := 206) rfl)) rfl
theorem w_X2_above_im : Cond.instanceMethod yX2_above ∈ pTb := pwi (tk5 (List.mem_of_getElem? (i := 208) rfl)) rfl
theorem w_X2_above_se : Cond.selects yX2_above.cls yX2_above yX2_above ∈ pTb := pwi (tkp (q := lw_privs[45]) (List.getElem_mem _)) rfl
theorem w_X2_above_co : Cond.code yX2_above cX2_above 5 (some .int) ∈ pTb := pwi (tk5 (List.mem_of_getElem? (i := 209) rfl)) rfl
theorem w_X2_above_in : Cond.initialized yX2_above.cls ∈ pTb := pwi (tk1 (List.mem_of_getElem? (i := 14) rfl)) rfl
theorem pl_X2_above : plain yX2_above 2 := ⟨by decide +kernel, by decide +kernel, by decide +kernel⟩
theorem w_X2_m63 : Cond.methodLink RX2 63 yX2_tryOut ∈ pTb := pwi (tk5 (List.mem_of_getElem? (i := 210) rfl)) rfl
theorem w_X2_tryOut_im : Cond.instanceMethod yX2_tryOut ∈ pTb := pwi (tk5 (List.mem_of_getElem? (i := 212) rfl)) rfl
theorem w_X2_tryOut_se : Cond.selects yX2_tryOut.cls yX2_tryOut yX2_tryOut ∈ pTb := pwi (tkp (q := lw_privs[46]) (List.getElem_mem _)) rfl
theorem w_X2_tryOut_co : Cond.code yX2_tryOut cX2_tryOut 5 none ∈ pTb := pwi (tk5 (List.mem_of_getElem? (i := 213) rfl)) rfl
theorem w_X2_tryOut_in : Cond.initialized yX2_tryOut.cls ∈ pTb := pwi (tk1 (List.mem_of_getElem? (i := 14) rfl)) rfl
theorem pl_X2_tryOut : plain yX2_tryOut 2 := ⟨by decide +kernel, by decide +kernel, by decide +kernel⟩
theorem w_X2_f67 : Cond.fieldLink RX2 67 (TX6 0).1 (TX6 0).2.1 (TX6 0).2.2.1 ∈ pTb := pwi (tk1 (List.mem_of_getElem? (i := 39) rfl)) rfl
theorem w_X2_f72 : Cond.fieldLink RX2 72 (TX3 2).1 (TX3 2).2.1 (TX3 2).2.2.1 ∈ pTb := pwi (tk1 (List.mem_of_getElem? (i := 186) rfl)) rfl
theorem w_X2_m77 : Cond.methodLink RX2 77 yX2_measurePiece ∈ pTb := pwi (tk5 (List.mem_of_getElem? (i := 192) rfl)) rfl
theorem w_X2_measurePiece_im : Cond.instanceMethod yX2_measurePiece ∈ pTb := pwi (tk5 (List.mem_of_getElem? (i := 194) rfl)) rfl
theorem w_X2_measurePiece_se : Cond.selects yX2_measurePiece.cls yX2_measurePiece yX2_measurePiece ∈ pTb := pwi (tkp (q := lw_privs[44]) (List.getElem_mem _)) rfl
theorem w_X2_measurePiece_co : Cond.code yX2_measurePiece cX2_measurePiece 5 none ∈ pTb := pwi (tk5 (List.mem_of_getElem? (i := 195) rfl)) rfl
theorem w_X2_measurePiece_in : Cond.initialized yX2_measurePiece.cls ∈ pTb := pwi (tk1 (List.mem_of_getElem? (i := 14) rfl)) rfl
theorem pl_X2_measurePiece : plain yX2_measurePiece 1 := ⟨by decide +kernel, by decide +kernel, by decide +kernel⟩
theorem w_X2_m80 : Cond.methodLink RX2 80 yX6_loose ∈ pTb := pwi (tk5 (List.mem_of_getElem? (i := 196) rfl)) rfl
theorem w_X2_f84 : Cond.fieldLink RX2 84 (TX6 3).1 (TX6 3).2.1 (TX6 3).2.2.1 ∈ pTb := pwi (tk1 (List.mem_of_getElem? (i := 49) rfl)) rfl
theorem w_X2_m87 : Cond.methodLink RX2 87 yX2_middle ∈ pTb := pwi (tk5 (List.mem_of_getElem? (i := 200) rfl)) rfl
theorem w_X2_middle_st : Cond.static yX2_middle ∈ pTb := pwi (tk5 (List.mem_of_getElem? (i := 201) rfl)) rfl
theorem w_X2_middle_co : Cond.code yX2_middle cX2_middle 1 (some .int) ∈ pTb := pwi (tk5 (List.mem_of_getElem? (i := 202) rfl)) rfl
theorem w_X2_middle_in : Cond.initialized yX2_middle.cls ∈ pTb := pwi (tk1 (List.mem_of_getElem? (i := 14) rfl)) rfl
theorem pl_X2_middle : plain yX2_middle 1 := ⟨by decide +kernel, by decide +kernel, by decide +kernel⟩
theorem w_X2_m93 : Cond.methodLink RX2 93 yJ9_max_7cf53 ∈ pTb := pwi (tk5 (List.mem_of_getElem? (i := 204) rfl)) rfl
theorem w_X2_f98 : Cond.fieldLink RX2 98 (TX6 4).1 (TX6 4).2.1 (TX6 4).2.2.1 ∈ pTb := pwi (tk1 (List.mem_of_getElem? (i := 53) rfl)) rfl
theorem w_X2_m101 : Cond.methodLink RX2 101 yJ9_min_7cf53 ∈ pTb := pwi (tk5 (List.mem_of_getElem? (i := 214) rfl)) rfl
theorem w_X2_f104 : Cond.fieldLink RX2 104 (TX2 13).1 (TX2 13).2.1 (TX2 13).2.2.1 ∈ pTb := pwi (tk2 (List.mem_of_getElem? (i := 210) rfl)) rfl
theorem w_X2_f107 : Cond.fieldLink RX2 107 (TX2 14).1 (TX2 14).2.1 (TX2 14).2.2.1 ∈ pTb := pwi (tk2 (List.mem_of_getElem? (i := 212) rfl)) rfl
theorem w_X2_m110 : Cond.methodLink RX2 110 yX2_findSeats ∈ pTb := pwi (tk5 (List.mem_of_getElem? (i := 184) rfl)) rfl
theorem w_X2_f113 : Cond.fieldLink RX2 113 (TX2 15).1 (TX2 15).2.1 (TX2 15).2.2.1 ∈ pTb := pwi (tk2 (List.mem_of_getElem? (i := 214) rfl)) rfl
theorem w_X2_f116 : Cond.fieldLink RX2 116 (TX2 16).1 (TX2 16).2.1 (TX2 16).2.2.1 ∈ pTb := pwi (tk2 (List.mem_of_getElem? (i := 216) rfl)) rfl
theorem w_X2_m119 : Cond.methodLink RX2 119 yX6_stride ∈ pTb := pwi (tk5 (List.mem_of_getElem? (i := 215) rfl)) rfl
theorem w_X2_m122 : Cond.methodLink RX2 122 yX2_away ∈ pTb := pwi (tk5 (List.mem_of_getElem? (i := 219) rfl)) rfl
theorem w_X2_away_st : Cond.static yX2_away ∈ pTb := pwi (tk5 (List.mem_of_getElem? (i := 220) rfl)) rfl
theorem w_X2_away_co : Cond.code yX2_away cX2_away 3 (some .int) ∈ pTb := pwi (tk5 (List.mem_of_getElem? (i := 221) rfl)) rfl
theorem w_X2_away_in : Cond.initialized yX2_away.cls ∈ pTb := pwi (tk1 (List.mem_of_getElem? (i := 14) rfl)) rfl
theorem pl_X2_away : plain yX2_away 3 := ⟨by decide +kernel, by decide +kernel, by decide +kernel⟩
theorem w_X2_m126 : Cond.methodLink RX2 126 yX2_walk ∈ pTb := pwi (tk5 (List.mem_of_getElem? (i := 180) rfl)) rfl
theorem w_J9_max_7cf53_st : Cond.static yJ9_max_7cf53 ∈ pTb := pwi (tk3 (List.mem_of_getElem? (i := 81) rfl)) rfl
theorem w_J9_max_7cf53_co : Cond.code yJ9_max_7cf53 cJ9_max_7cf53 2 (some .int) ∈ pTb := pwi (tk3 (List.mem_of_getElem? (i := 82) rfl)) rfl
theorem w_J9_max_7cf53_in : Cond.initialized yJ9_max_7cf53.cls ∈ pTb := pwi (tk1 (List.mem_of_getElem? (i := 16) rfl)) rfl
theorem pl_J9_max_7cf53 : plain yJ9_max_7cf53 2 := ⟨by decide +kernel, by decide +kernel, by decide +kernel⟩
theorem w_J9_min_7cf53_st : Cond.static yJ9_min_7cf53 ∈ pTb := pwi (tk3 (List.mem_of_getElem? (i := 78) rfl)) rfl
theorem w_J9_min_7cf53_co : Cond.code yJ9_min_7cf53 cJ9_min_7cf53 2 (some .int) ∈ pTb := pwi (tk3 (List.mem_of_getElem? (i := 79) rfl)) rfl
theorem w_J9_min_7cf53_in : Cond.initialized yJ9_min_7cf53.cls ∈ pTb := pwi (tk1 (List.mem_of_getElem? (i := 16) rfl)) rfl
theorem pl_J9_min_7cf53 : plain yJ9_min_7cf53 2 := ⟨by decide +kernel, by decide +kernel, by decide +kernel⟩
theorem w_X10_f1 : Cond.fieldLink RX10 1 (TX10 0).1 (TX10 0).2.1 (TX10 0).2.2.1 ∈ pTb := pwi (tk6 (List.mem_of_getElem? (i := 87) rfl)) rfl
theorem w_X10_m7 : Cond.methodLink RX10 7 yX10_lay ∈ pTb := pwi (tk6 (List.mem_of_getElem? (i := 57) rfl)) rfl
theorem w_X10_lay_im : Cond.instanceMethod yX10_lay ∈ pTb := pwi (tk6 (List.mem_of_getElem? (i := 59) rfl)) rfl
theorem w_X10_lay_se : Cond.selects yX10_lay.cls yX10_lay yX10_lay ∈ pTb := pwi (tkp (q := lw_privs[47]) (List.getElem_mem _)) rfl
theorem w_X10_lay_co : Cond.code yX10_lay cX10_lay 5 none ∈ pTb := pwi (tk6 (List.mem_of_getElem? (i := 61) rfl)) rfl
theorem w_X10_lay_in : Cond.initialized yX10_lay.cls ∈ pTb := pwi (tk1 (List.mem_of_getElem? (i := 15) rfl)) rfl
theorem pl_X10_lay : plain yX10_lay 1 := ⟨by decide +kernel, by decide +kernel, by decide +kernel⟩
theorem w_X10_f11 : Cond.fieldLink RX10 11 (TX10 2).1 (TX10 2).2.1 (TX10 2).2.2.1 ∈ pTb := pwi (tk6 (List.mem_of_getElem? (i := 89) rfl)) rfl
theorem w_X10_f14 : Cond.fieldLink RX10 14 (TX10 1).1 (TX10 1).2.1 (TX10 1).2.2.1 ∈ pTb := pwi (tk6 (List.mem_of_getElem? (i := 88) rfl)) rfl
theorem w_X10_m18 : Cond.methodLink RX10 18 objectInit ∈ pTb := pwi (tk6 (List.mem_of_getElem? (i := 66) rfl)) rfl
theorem w_X10_f24 : Cond.fieldLink RX10 24 (TX10 4).1 (TX10 4).2.1 (TX10 4).2.2.1 ∈ pTb := pwi (tk6 (List.mem_of_getElem? (i := 91) rfl)) rfl
theorem w_X10_f27 : Cond.fieldLink RX10 27 (TX10 5).1 (TX10 5).2.1 (TX10 5).2.2.1 ∈ pTb := pwi (tk6 (List.mem_of_getElem? (i := 92) rfl)) rfl
theorem w_X10_f30 : Cond.fieldLink RX10 30 (TX10 6).1 (TX10 6).2.1 (TX10 6).2.2.1 ∈ pTb := pwi (tk6 (List.mem_of_getElem? (i := 93) rfl)) rfl
theorem w_X10_c34 : Cond.constantLong RX10 34 (i64 (16633)) ∈ pTb := pwi (tk6 (List.mem_of_getElem? (i := 67) rfl)) rfl
theorem w_X10_c36 : Cond.constantLong RX10 36 (i64 (2793)) ∈ pTb := pwi (tk6 (List.mem_of_getElem? (i := 68) rfl)) rfl
theorem w_X10_c38 : Cond.constantLong RX10 38 (i64 (8285282)) ∈ pTb := pwi (tk6 (List.mem_of_getElem? (i := 69) rfl)) rfl
theorem w_X10_c40 : Cond.constantLong RX10 40 (i64 (36643177)) ∈ pTb := pwi (tk6 (List.mem_of_getElem? (i := 70) rfl)) rfl
theorem w_X10_c42 : Cond.constantLong RX10 42 (i64 (1176170)) ∈ pTb := pwi (tk6 (List.mem_of_getElem? (i := 71) rfl)) rfl
theorem w_X10_c44 : Cond.constantLong RX10 44 (i64 (1891)) ∈ pTb := pwi (tk6 (List.mem_of_getElem? (i := 72) rfl)) rfl
theorem w_X10_c46 : Cond.constantLong RX10 46 (i64 (573)) ∈ pTb := pwi (tk6 (List.mem_of_getElem? (i := 73) rfl)) rfl
theorem w_X10_c48 : Cond.constantLong RX10 48 (i64 (19741)) ∈ pTb := pwi (tk6 (List.mem_of_getElem? (i := 74) rfl)) rfl
theorem w_X10_c50 : Cond.constantLong RX10 50 (i64 (9636)) ∈ pTb := pwi (tk6 (List.mem_of_getElem? (i := 75) rfl)) rfl
theorem w_X10_c52 : Cond.constantLong RX10 52 (i64 (36269373)) ∈ pTb := pwi (tk6 (List.mem_of_getElem? (i := 76) rfl)) rfl
theorem w_X10_c54 : Cond.constantLong RX10 54 (i64 (14037783)) ∈ pTb := pwi (tk6 (List.mem_of_getElem? (i := 77) rfl)) rfl
theorem w_X10_c56 : Cond.constantLong RX10 56 (i64 (8269)) ∈ pTb := pwi (tk6 (List.mem_of_getElem? (i := 78) rfl)) rfl
theorem w_X10_c58 : Cond.constantLong RX10 58 (i64 (835275500)) ∈ pTb := pwi (tk6 (List.mem_of_getElem? (i := 79) rfl)) rfl
theorem w_X10_c60 : Cond.constantLong RX10 60 (i64 (4837215)) ∈ pTb := pwi (tk6 (List.mem_of_getElem? (i := 80) rfl)) rfl
theorem w_X10_c62 : Cond.constantLong RX10 62 (i64 (172677872)) ∈ pTb := pwi (tk6 (List.mem_of_getElem? (i := 81) rfl)) rfl
theorem w_X10_c64 : Cond.constantLong RX10 64 (i64 (236773452)) ∈ pTb := pwi (tk6 (List.mem_of_getElem? (i := 82) rfl)) rfl
theorem w_X10_c66 : Cond.constantLong RX10 66 (i64 (14032597)) ∈ pTb := pwi (tk6 (List.mem_of_getElem? (i := 83) rfl)) rfl
theorem w_X10_c68 : Cond.constantLong RX10 68 (i64 (36440801)) ∈ pTb := pwi (tk6 (List.mem_of_getElem? (i := 84) rfl)) rfl
theorem w_X10_c70 : Cond.constantLong RX10 70 (i64 (316910)) ∈ pTb := pwi (tk6 (List.mem_of_getElem? (i := 85) rfl)) rfl
theorem w_X10_c72 : Cond.constantLong RX10 72 (i64 (975695)) ∈ pTb := pwi (tk6 (List.mem_of_getElem? (i := 86) rfl)) rfl
theorem w_X10_f74 : Cond.fieldLink RX10 74 (TX10 9).1 (TX10 9).2.1 (TX10 9).2.2.1 ∈ pTb := pwi (tk6 (List.mem_of_getElem? (i := 96) rfl)) rfl
theorem w_X10_f77 : Cond.fieldLink RX10 77 (TX10 12).1 (TX10 12).2.1 (TX10 12).2.2.1 ∈ pTb := pwi (tk6 (List.mem_of_getElem? (i := 99) rfl)) rfl
theorem w_X10_f80 : Cond.fieldLink RX10 80 (TX10 13).1 (TX10 13).2.1 (TX10 13).2.2.1 ∈ pTb := pwi (tk6 (List.mem_of_getElem? (i := 100) rfl)) rfl
theorem w_X10_f83 : Cond.fieldLink RX10 83 (TX10 14).1 (TX10 14).2.1 (TX10 14).2.2.1 ∈ pTb := pwi (tk6 (List.mem_of_getElem? (i := 101) rfl)) rfl
theorem w_X10_f86 : Cond.fieldLink RX10 86 (TX10 15).1 (TX10 15).2.1 (TX10 15).2.2.1 ∈ pTb := pwi (tk6 (List.mem_of_getElem? (i := 102) rfl)) rfl
theorem w_X10_f89 : Cond.fieldLink RX10 89 (TX10 16).1 (TX10 16).2.1 (TX10 16).2.2.1 ∈ pTb := pwi (tk6 (List.mem_of_getElem? (i := 103) rfl)) rfl
theorem w_X10_f92 : Cond.fieldLink RX10 92 (TX10 17).1 (TX10 17).2.1 (TX10 17).2.2.1 ∈ pTb := pwi (tk6 (List.mem_of_getElem? (i := 104) rfl)) rfl
theorem w_X10_f95 : Cond.fieldLink RX10 95 (TX10 19).1 (TX10 19).2.1 (TX10 19).2.2.1 ∈ pTb := pwi (tk6 (List.mem_of_getElem? (i := 106) rfl)) rfl
theorem w_X10_f98 : Cond.fieldLink RX10 98 (TX10 20).1 (TX10 20).2.1 (TX10 20).2.2.1 ∈ pTb := pwi (tk6 (List.mem_of_getElem? (i := 107) rfl)) rfl
theorem w_X10_f101 : Cond.fieldLink RX10 101 (TX10 21).1 (TX10 21).2.1 (TX10 21).2.2.1 ∈ pTb := pwi (tk6 (List.mem_of_getElem? (i := 108) rfl)) rfl
theorem w_X10_f104 : Cond.fieldLink RX10 104 (TX10 22).1 (TX10 22).2.1 (TX10 22).2.2.1 ∈ pTb := pwi (tk6 (List.mem_of_getElem? (i := 109) rfl)) rfl
theorem w_X10_f107 : Cond.fieldLink RX10 107 (TX10 23).1 (TX10 23).2.1 (TX10 23).2.2.1 ∈ pTb := pwi (tk6 (List.mem_of_getElem? (i := 110) rfl)) rfl
theorem w_X10_f110 : Cond.fieldLink RX10 110 (TX10 27).1 (TX10 27).2.1 (TX10 27).2.2.1 ∈ pTb := pwi (tk6 (List.mem_of_getElem? (i := 114) rfl)) rfl
theorem w_X10_f113 : Cond.fieldLink RX10 113 (TX10 28).1 (TX10 28).2.1 (TX10 28).2.2.1 ∈ pTb := pwi (tk6 (List.mem_of_getElem? (i := 115) rfl)) rfl
theorem w_X10_f116 : Cond.fieldLink RX10 116 (TX10 29).1 (TX10 29).2.1 (TX10 29).2.2.1 ∈ pTb := pwi (tk6 (List.mem_of_getElem? (i := 116) rfl)) rfl
theorem w_X10_f119 : Cond.fieldLink RX10 119 (TX10 30).1 (TX10 30).2.1 (TX10 30).2.2.1 ∈ pTb := pwi (tk6 (List.mem_of_getElem? (i := 117) rfl)) rfl
theorem w_X10_f122 : Cond.fieldLink RX10 122 (TX10 31).1 (TX10 31).2.1 (TX10 31).2.2.1 ∈ pTb := pwi (tk6 (List.mem_of_getElem? (i := 118) rfl)) rfl
theorem w_X10_f125 : Cond.fieldLink RX10 125 (TX10 32).1 (TX10 32).2.1 (TX10 32).2.2.1 ∈ pTb := pwi (tk6 (List.mem_of_getElem? (i := 119) rfl)) rfl
theorem w_X10_f128 : Cond.fieldLink RX10 128 (TX10 33).1 (TX10 33).2.1 (TX10 33).2.2.1 ∈ pTb := pwi (tk6 (List.mem_of_getElem? (i := 120) rfl)) rfl
theorem w_X10_f131 : Cond.fieldLink RX10 131 (TX10 34).1 (TX10 34).2.1 (TX10 34).2.2.1 ∈ pTb := pwi (tk6 (List.mem_of_getElem? (i := 121) rfl)) rfl
theorem w_X10_f134 : Cond.fieldLink RX10 134 (TX10 35).1 (TX10 35).2.1 (TX10 35).2.2.1 ∈ pTb := pwi (tk6 (List.mem_of_getElem? (i := 122) rfl)) rfl
theorem w_X10_f138 : Cond.fieldLink RX10 138 (TX10 36).1 (TX10 36).2.1 (TX10 36).2.2.1 ∈ pTb := pwi (tk6 (List.mem_of_getElem? (i := 123) rfl)) rfl
theorem w_X10_f141 : Cond.fieldLink RX10 141 (TX10 37).1 (TX10 37).2.1 (TX10 37).2.2.1 ∈ pTb := pwi (tk6 (List.mem_of_getElem? (i := 124) rfl)) rfl
theorem w_X10_f144 : Cond.fieldLink RX10 144 (TX10 38).1 (TX10 38).2.1 (TX10 38).2.2.1 ∈ pTb := pwi (tk6 (List.mem_of_getElem? (i := 125) rfl)) rfl
theorem w_X10_f147 : Cond.fieldLink RX10 147 (TX10 39).1 (TX10 39).2.1 (TX10 39).2.2.1 ∈ pTb := pwi (tk6 (List.mem_of_getElem? (i := 126) rfl)) rfl
theorem w_X10_f150 : Cond.fieldLink RX10 150 (TX10 40).1 (TX10 40).2.1 (TX10 40).2.2.1 ∈ pTb := pwi (tk6 (List.mem_of_getElem? (i := 127) rfl)) rfl
theorem w_X10_f153 : Cond.fieldLink RX10 153 (TX10 44).1 (TX10 44).2.1 (TX10 44).2.2.1 ∈ pTb := pwi (tk6 (List.mem_of_getElem? (i := 131) rfl)) rfl
theorem w_X10_f156 : Cond.fieldLink RX10 156 (TX10 45).1 (TX10 45).2.1 (TX10 45).2.2.1 ∈ pTb := pwi (tk6 (List.mem_of_getElem? (i := 132) rfl)) rfl
theorem w_X10_f159 : Cond.fieldLink RX10 159 (TX10 46).1 (TX10 46).2.1 (TX10 46).2.2.1 ∈ pTb := pwi (tk6 (List.mem_of_getElem? (i := 133) rfl)) rfl
theorem w_X10_f162 : Cond.fieldLink RX10 162 (TX10 47).1 (TX10 47).2.1 (TX10 47).2.2.1 ∈ pTb := pwi (tk6 (List.mem_of_getElem? (i := 134) rfl)) rfl
theorem w_X10_f165 : Cond.fieldLink RX10 165 (TX10 48).1 (TX10 48).2.1 (TX10 48).2.2.1 ∈ pTb := pwi (tk6 (List.mem_of_getElem? (i := 135) rfl)) rfl
theorem w_X10_f168 : Cond.fieldLink RX10 168 (TX10 49).1 (TX10 49).2.1 (TX10 49).2.2.1 ∈ pTb := pwi (tk6 (List.mem_of_getElem? (i := 136) rfl)) rfl
theorem w_X10_f171 : Cond.fieldLink RX10 171 (TX10 50).1 (TX10 50).2.1 (TX10 50).2.2.1 ∈ pTb := pwi (tk6 (List.mem_of_getElem? (i := 137) rfl)) rfl
theorem w_X10_f174 : Cond.fieldLink RX10 174 (TX10 51).1 (TX10 51).2.1 (TX10 51).2.2.1 ∈ pTb := pwi (tk6 (List.mem_of_getElem? (i := 138) rfl)) rfl
theorem w_X10_f177 : Cond.fieldLink RX10 177 (TX10 52).1 (TX10 52).2.1 (TX10 52).2.2.1 ∈ pTb := pwi (tk6 (List.mem_of_getElem? (i := 139) rfl)) rfl
theorem w_X10_f180 : Cond.fieldLink RX10 180 (TX10 53).1 (TX10 53).2.1 (TX10 53).2.2.1 ∈ pTb := pwi (tk6 (List.mem_of_getElem? (i := 140) rfl)) rfl
theorem w_X10_f183 : Cond.fieldLink RX10 183 (TX10 54).1 (TX10 54).2.1 (TX10 54).2.2.1 ∈ pTb := pwi (tk6 (List.mem_of_getElem? (i := 141) rfl)) rfl
theorem w_X10_f186 : Cond.fieldLink RX10 186 (TX10 56).1 (TX10 56).2.1 (TX10 56).2.2.1 ∈ pTb := pwi (tk6 (List.mem_of_getElem? (i := 143) rfl)) rfl
theorem w_X10_f189 : Cond.fieldLink RX10 189 (TX10 57).1 (TX10 57).2.1 (TX10 57).2.2.1 ∈ pTb := pwi (tk6 (List.mem_of_getElem? (i := 144) rfl)) rfl
theorem w_X10_f192 : Cond.fieldLink RX10 192 (TX10 58).1 (TX10 58).2.1 (TX10 58).2.2.1 ∈ pTb := pwi (tk6 (List.mem_of_getElem? (i := 145) rfl)) rfl
theorem w_X10_f195 : Cond.fieldLink RX10 195 (TX10 59).1 (TX10 59).2.1 (TX10 59).2.2.1 ∈ pTb := pwi (tk6 (List.mem_of_getElem? (i := 146) rfl)) rfl
theorem w_X10_f198 : Cond.fieldLink RX10 198 (TX10 60).1 (TX10 60).2.1 (TX10 60).2.2.1 ∈ pTb := pwi (tk6 (List.mem_of_getElem? (i := 147) rfl)) rfl
theorem w_X10_f201 : Cond.fieldLink RX10 201 (TX10 61).1 (TX10 61).2.1 (TX10 61).2.2.1 ∈ pTb := pwi (tk6 (List.mem_of_getElem? (i := 148) rfl)) rfl
theorem w_X10_f204 : Cond.fieldLink RX10 204 (TX10 66).1 (TX10 66).2.1 (TX10 66).2.2.1 ∈ pTb := pwi (tk6 (List.mem_of_getElem? (i := 153) rfl)) rfl
theorem w_X10_f207 : Cond.fieldLink RX10 207 (TX10 67).1 (TX10 67).2.1 (TX10 67).2.2.1 ∈ pTb := pwi (tk6 (List.mem_of_getElem? (i := 154) rfl)) rfl
theorem w_X10_f210 : Cond.fieldLink RX10 210 (TX10 68).1 (TX10 68).2.1 (TX10 68).2.2.1 ∈ pTb := pwi (tk6 (List.mem_of_getElem? (i := 155) rfl)) rfl
theorem w_X10_f213 : Cond.fieldLink RX10 213 (TX10 25).1 (TX10 25).2.1 (TX10 25).2.2.1 ∈ pTb := pwi (tk6 (List.mem_of_getElem? (i := 112) rfl)) rfl
theorem w_X10_m216 : Cond.methodLink RX10 216 yX10_isLetter ∈ pTb := pwi (tk7 (List.mem_of_getElem? (i := 75) rfl)) rfl
theorem w_X10_isLetter_st : Cond.static yX10_isLetter ∈ pTb := pwi (tk7 (List.mem_of_getElem? (i := 76) rfl)) rfl
theorem w_X10_isLetter_co : Cond.code yX10_isLetter cX10_isLetter 1 (some .boolean) ∈ pTb := pwi (tk7 (List.mem_of_getElem? (i := 77) rfl)) rfl
theorem w_X10_isLetter_in : Cond.initialized yX10_isLetter.cls ∈ pTb := pwi (tk1 (List.mem_of_getElem? (i := 15) rfl)) rfl
theorem pl_X10_isLetter : plain yX10_isLetter 1 := ⟨by decide +kernel, by decide +kernel, by decide +kernel⟩
theorem w_X10_f220 : Cond.fieldLink RX10 220 (TX10 3).1 (TX10 3).2.1 (TX10 3).2.2.1 ∈ pTb := pwi (tk6 (List.mem_of_getElem? (i := 90) rfl)) rfl
theorem w_X10_c223 : Cond.constantLong RX10 223 (i64 (37)) ∈ pTb := pwi (tk7 (List.mem_of_getElem? (i := 78) rfl)) rfl
theorem w_X10_m225 : Cond.methodLink RX10 225 yX10_rank ∈ pTb := pwi (tk7 (List.mem_of_getElem? (i := 79) rfl)) rfl
theorem w_X10_rank_st : Cond.static yX10_rank ∈ pTb := pwi (tk7 (List.mem_of_getElem? (i := 80) rfl)) rfl
theorem w_X10_rank_co : Cond.code yX10_rank cX10_rank 1 (some .int) ∈ pTb := pwi (tk7 (List.mem_of_getElem? (i := 81) rfl)) rfl
theorem w_X10_rank_in : Cond.initialized yX10_rank.cls ∈ pTb := pwi (tk1 (List.mem_of_getElem? (i := 15) rfl)) rfl
theorem pl_X10_rank : plain yX10_rank 1 := ⟨by decide +kernel, by decide +kernel, by decide +kernel⟩
theorem w_X10_m229 : Cond.methodLink RX10 229 yX10_isDigit ∈ pTb := pwi (tk7 (List.mem_of_getElem? (i := 82) rfl)) rfl
theorem w_X10_isDigit_st : Cond.static yX10_isDigit ∈ pTb := pwi (tk7 (List.mem_of_getElem? (i := 83) rfl)) rfl
theorem w_X10_isDigit_co : Cond.code yX10_isDigit cX10_isDigit 1 (some .boolean) ∈ pTb := pwi (tk7 (List.mem_of_getElem? (i := 84) rfl)) rfl
theorem w_X10_isDigit_in : Cond.initialized yX10_isDigit.cls ∈ pTb := pwi (tk1 (List.mem_of_getElem? (i := 15) rfl)) rfl
theorem pl_X10_isDigit : plain yX10_isDigit 1 := ⟨by decide +kernel, by decide +kernel, by decide +kernel⟩
theorem w_X10_c232 : Cond.constantLong RX10 232 (i64 (10)) ∈ pTb := pwi (tk7 (List.mem_of_getElem? (i := 85) rfl)) rfl
theorem w_X10_c234 : Cond.constantLong RX10 234 (i64 (48)) ∈ pTb := pwi (tk7 (List.mem_of_getElem? (i := 86) rfl)) rfl
theorem w_X10_m236 : Cond.methodLink RX10 236 yX10_isSignOf ∈ pTb := pwi (tk7 (List.mem_of_getElem? (i := 87) rfl)) rfl
theorem w_X10_isSignOf_st : Cond.static yX10_isSignOf ∈ pTb := pwi (tk7 (List.mem_of_getElem? (i := 88) rfl)) rfl
theorem w_X10_isSignOf_co : Cond.code yX10_isSignOf cX10_isSignOf 1 (some .boolean) ∈ pTb := pwi (tk7 (List.mem_of_getElem? (i := 89) rfl)) rfl
theorem w_X10_isSignOf_in : Cond.initialized yX10_isSignOf.cls ∈ pTb := pwi (tk1 (List.mem_of_getElem? (i := 15) rfl)) rfl
theorem pl_X10_isSignOf : plain yX10_isSignOf 1 := ⟨by decide +kernel, by decide +kernel, by decide +kernel⟩
theorem w_X10_f239 : Cond.fieldLink RX10 239 (TX10 7).1 (TX10 7).2.1 (TX10 7).2.2.1 ∈ pTb := pwi (tk6 (List.mem_of_getElem? (i := 94) rfl)) rfl
theorem w_X10_f242 : Cond.fieldLink RX10 242 (TX10 8).1 (TX10 8).2.1 (TX10 8).2.2.1 ∈ pTb := pwi (tk6 (List.mem_of_getElem? (i := 95) rfl)) rfl
theorem w_X10_m245 : Cond.methodLink RX10 245 yX10_isSign ∈ pTb := pwi (tk7 (List.mem_of_getElem? (i := 122) rfl)) rfl
theorem w_X10_isSign_im : Cond.instanceMethod yX10_isSign ∈ pTb := pwi (tk7 (List.mem_of_getElem? (i := 124) rfl)) rfl
theorem w_X10_isSign_se : Cond.selects yX10_isSign.cls yX10_isSign yX10_isSign ∈ pTb := pwi (tkp (q := lw_privs[57]) (List.getElem_mem _)) rfl
theorem w_X10_isSign_co : Cond.code yX10_isSign cX10_isSign 2 (some .boolean) ∈ pTb := pwi (tk7 (List.mem_of_getElem? (i := 125) rfl)) rfl
theorem w_X10_isSign_in : Cond.initialized yX10_isSign.cls ∈ pTb := pwi (tk1 (List.mem_of_getElem? (i := 15) rfl)) rfl
theorem pl_X10_isSign : plain yX10_isSign 1 := ⟨by decide +kernel, by decide +kernel, by decide +kernel⟩
theorem w_X10_m248 : Cond.methodLink RX10 248 yX10_wrong ∈ pTb := pwi (tk7 (List.mem_of_getElem? (i := 102) rfl)) rfl
theorem w_X10_wrong_im : Cond.instanceMethod yX10_wrong ∈ pTb := pwi (tk7 (List.mem_of_getElem? (i := 104) rfl)) rfl
theorem w_X10_wrong_se : Cond.selects yX10_wrong.cls yX10_wrong yX10_wrong ∈ pTb := pwi (tkp (q := lw_privs[52]) (List.getElem_mem _)) rfl
theorem w_X10_wrong_co : Cond.code yX10_wrong cX10_wrong 2 none ∈ pTb := pwi (tk7 (List.mem_of_getElem? (i := 105) rfl)) rfl
theorem w_X10_wrong_in : Cond.initialized yX10_wrong.cls ∈ pTb := pwi (tk1 (List.mem_of_getElem? (i := 15) rfl)) rfl
theorem pl_X10_wrong : plain yX10_wrong 1 := ⟨by decide +kernel, by decide +kernel, by decide +kernel⟩
theorem w_X10_m252 : Cond.methodLink RX10 252 yX10_isWord ∈ pTb := pwi (tk7 (List.mem_of_getElem? (i := 98) rfl)) rfl
theorem w_X10_isWord_im : Cond.instanceMethod yX10_isWord ∈ pTb := pwi (tk7 (List.mem_of_getElem? (i := 100) rfl)) rfl
theorem w_X10_isWord_se : Cond.selects yX10_isWord.cls yX10_isWord yX10_isWord ∈ pTb := pwi (tkp (q := lw_privs[51]) (List.getElem_mem _)) rfl
theorem w_X10_isWord_co : Cond.code yX10_isWord cX10_isWord 2 (some .boolean) ∈ pTb := pwi (tk7 (List.mem_of_getElem? (i := 101) rfl)) rfl
theorem w_X10_isWord_in : Cond.initialized yX10_isWord.cls ∈ pTb := pwi (tk1 (List.mem_of_getElem? (i := 15) rfl)) rfl
theorem pl_X10_isWord : plain yX10_isWord 1 := ⟨by decide +kernel, by decide +kernel, by decide +kernel⟩
theorem w_X10_m255 : Cond.methodLink RX10 255 yX10_hasWord ∈ pTb := pwi (tk7 (List.mem_of_getElem? (i := 134) rfl)) rfl
theorem w_X10_hasWord_im : Cond.instanceMethod yX10_hasWord ∈ pTb := pwi (tk7 (List.mem_of_getElem? (i := 136) rfl)) rfl
theorem w_X10_hasWord_se : Cond.selects yX10_hasWord.cls yX10_hasWord yX10_hasWord ∈ pTb := pwi (tkp (q := lw_privs[60]) (List.getElem_mem _)) rfl
theorem w_X10_hasWord_co : Cond.code yX10_hasWord cX10_hasWord 3 (some .boolean) ∈ pTb := pwi (tk7 (List.mem_of_getElem? (i := 137) rfl)) rfl
theorem w_X10_hasWord_in : Cond.initialized yX10_hasWord.cls ∈ pTb := pwi (tk1 (List.mem_of_getElem? (i := 15) rfl)) rfl
theorem pl_X10_hasWord : plain yX10_hasWord 1 := ⟨by decide +kernel, by decide +kernel, by decide +kernel⟩
theorem w_X10_f258 : Cond.fieldLink RX10 258 (TX10 11).1 (TX10 11).2.1 (TX10 11).2.2.1 ∈ pTb := pwi (tk6 (List.mem_of_getElem? (i := 98) rfl)) rfl
theorem w_X10_f261 : Cond.fieldLink RX10 261 (TX10 18).1 (TX10 18).2.1 (TX10 18).2.2.1 ∈ pTb := pwi (tk6 (List.mem_of_getElem? (i := 105) rfl)) rfl
theorem w_X10_m264 : Cond.methodLink RX10 264 yX10_cutAll ∈ pTb := pwi (tk7 (List.mem_of_getElem? (i := 71) rfl)) rfl
theorem w_X10_cutAll_im : Cond.instanceMethod yX10_cutAll ∈ pTb := pwi (tk7 (List.mem_of_getElem? (i := 73) rfl)) rfl
theorem w_X10_cutAll_se : Cond.selects yX10_cutAll.cls yX10_cutAll yX10_cutAll ∈ pTb := pwi (tkp (q := lw_privs[48]) (List.getElem_mem _)) rfl
theorem w_X10_cutAll_co : Cond.code yX10_cutAll cX10_cutAll 7 none ∈ pTb := pwi (tk7 (List.mem_of_getElem? (i := 74) rfl)) rfl
theorem w_X10_cutAll_in : Cond.initialized yX10_cutAll.cls ∈ pTb := pwi (tk1 (List.mem_of_getElem? (i := 15) rfl)) rfl
theorem pl_X10_cutAll : plain yX10_cutAll 0 := ⟨by decide +kernel, by decide +kernel, by decide +kernel⟩
theorem w_X10_f267 : Cond.fieldLink RX10 267 (TX10 10).1 (TX10 10).2.1 (TX10 10).2.2.1 ∈ pTb := pwi (tk6 (List.mem_of_getElem? (i := 97) rfl)) rfl
theorem w_X10_m270 : Cond.methodLink RX10 270 yX10_line ∈ pTb := pwi (tk7 (List.mem_of_getElem? (i := 90) rfl)) rfl
theorem w_X10_line_im : Cond.instanceMethod yX10_line ∈ pTb := pwi (tk7 (List.mem_of_getElem? (i := 92) rfl)) rfl
theorem w_X10_line_se : Cond.selects yX10_line.cls yX10_line yX10_line ∈ pTb := pwi (tkp (q := lw_privs[49]) (List.getElem_mem _)) rfl
theorem w_X10_line_co : Cond.code yX10_line cX10_line 5 none ∈ pTb := pwi (tk7 (List.mem_of_getElem? (i := 93) rfl)) rfl
theorem w_X10_line_in : Cond.initialized yX10_line.cls ∈ pTb := pwi (tk1 (List.mem_of_getElem? (i := 15) rfl)) rfl
theorem pl_X10_line : plain yX10_line 0 := ⟨by decide +kernel, by decide +kernel, by decide +kernel⟩
theorem w_X10_m273 : Cond.methodLink RX10 273 yX10_lineWord ∈ pTb := pwi (tk7 (List.mem_of_getElem? (i := 94) rfl)) rfl
theorem w_X10_lineWord_im : Cond.instanceMethod yX10_lineWord ∈ pTb := pwi (tk7 (List.mem_of_getElem? (i := 96) rfl)) rfl
theorem w_X10_lineWord_se : Cond.selects yX10_lineWord.cls yX10_lineWord yX10_lineWord ∈ pTb := pwi (tkp (q := lw_privs[50]) (List.getElem_mem _)) rfl
theorem w_X10_lineWord_co : Cond.code yX10_lineWord cX10_lineWord 2 (some .int) ∈ pTb := pwi (tk7 (List.mem_of_getElem? (i := 97) rfl)) rfl
theorem w_X10_lineWord_in : Cond.initialized yX10_lineWord.cls ∈ pTb := pwi (tk1 (List.mem_of_getElem? (i := 15) rfl)) rfl
theorem pl_X10_lineWord : plain yX10_lineWord 0 := ⟨by decide +kernel, by decide +kernel, by decide +kernel⟩
theorem w_X10_m277 : Cond.methodLink RX10 277 yX10_takeNewName ∈ pTb := pwi (tk7 (List.mem_of_getElem? (i := 106) rfl)) rfl
theorem w_X10_takeNewName_im : Cond.instanceMethod yX10_takeNewName ∈ pTb := pwi (tk7 (List.mem_of_getElem? (i := 108) rfl)) rfl
theorem w_X10_takeNewName_se : Cond.selects yX10_takeNewName.cls yX10_takeNewName yX10_takeNewName ∈ pTb := pwi (tkp (q := lw_privs[53]) (List.getElem_mem _)) rfl
theorem w_X10_takeNewName_co : Cond.code yX10_takeNewName cX10_takeNewName 1 (some .long) ∈ pTb := pwi (tk7 (List.mem_of_getElem? (i := 109) rfl)) rfl
theorem w_X10_takeNewName_in : Cond.initialized yX10_takeNewName.cls ∈ pTb := pwi (tk1 (List.mem_of_getElem? (i := 15) rfl)) rfl
theorem pl_X10_takeNewName : plain yX10_takeNewName 0 := ⟨by decide +kernel, by decide +kernel, by decide +kernel⟩
theorem w_X10_m281 : Cond.methodLink RX10 281 yX10_takeSign ∈ pTb := pwi (tk7 (List.mem_of_getElem? (i := 118) rfl)) rfl
theorem w_X10_takeSign_im : Cond.instanceMethod yX10_takeSign ∈ pTb := pwi (tk7 (List.mem_of_getElem? (i := 120) rfl)) rfl
theorem w_X10_takeSign_se : Cond.selects yX10_takeSign.cls yX10_takeSign yX10_takeSign ∈ pTb := pwi (tkp (q := lw_privs[56]) (List.getElem_mem _)) rfl
theorem w_X10_takeSign_co : Cond.code yX10_takeSign cX10_takeSign 2 none ∈ pTb := pwi (tk7 (List.mem_of_getElem? (i := 121) rfl)) rfl
theorem w_X10_takeSign_in : Cond.initialized yX10_takeSign.cls ∈ pTb := pwi (tk1 (List.mem_of_getElem? (i := 15) rfl)) rfl
theorem pl_X10_takeSign : plain yX10_takeSign 1 := ⟨by decide +kernel, by decide +kernel, by decide +kernel⟩
theorem w_X10_m284 : Cond.methodLink RX10 284 yX10_takeNumber ∈ pTb := pwi (tk7 (List.mem_of_getElem? (i := 126) rfl)) rfl
theorem w_X10_takeNumber_im : Cond.instanceMethod yX10_takeNumber ∈ pTb := pwi (tk7 (List.mem_of_getElem? (i := 128) rfl)) rfl
theorem w_X10_takeNumber_se : Cond.selects yX10_takeNumber.cls yX10_takeNumber yX10_takeNumber ∈ pTb := pwi (tkp (q := lw_privs[58]) (List.getElem_mem _)) rfl
theorem w_X10_takeNumber_co : Cond.code yX10_takeNumber cX10_takeNumber 3 (some .int) ∈ pTb := pwi (tk7 (List.mem_of_getElem? (i := 129) rfl)) rfl
theorem w_X10_takeNumber_in : Cond.initialized yX10_takeNumber.cls ∈ pTb := pwi (tk1 (List.mem_of_getElem? (i := 15) rfl)) rfl
theorem pl_X10_takeNumber : plain yX10_takeNumber 2 := ⟨by decide +kernel, by decide +kernel, by decide +kernel⟩
theorem w_X10_m288 : Cond.methodLink RX10 288 yX10_takeWord ∈ pTb := pwi (tk7 (List.mem_of_getElem? (i := 130) rfl)) rfl
theorem w_X10_takeWord_im : Cond.instanceMethod yX10_takeWord ∈ pTb := pwi (tk7 (List.mem_of_getElem? (i := 132) rfl)) rfl
theorem w_X10_takeWord_se : Cond.selects yX10_takeWord.cls yX10_takeWord yX10_takeWord ∈ pTb := pwi (tkp (q := lw_privs[59]) (List.getElem_mem _)) rfl
theorem w_X10_takeWord_co : Cond.code yX10_takeWord cX10_takeWord 2 none ∈ pTb := pwi (tk7 (List.mem_of_getElem? (i := 133) rfl)) rfl
theorem w_X10_takeWord_in : Cond.initialized yX10_takeWord.cls ∈ pTb := pwi (tk1 (List.mem_of_getElem? (i := 15) rfl)) rfl
theorem pl_X10_takeWord : plain yX10_takeWord 1 := ⟨by decide +kernel, by decide +kernel, by decide +kernel⟩
theorem w_X10_m291 : Cond.methodLink RX10 291 yX10_all ∈ pTb := pwi (tk7 (List.mem_of_getElem? (i := 138) rfl)) rfl
theorem w_X10_all_im : Cond.instanceMethod yX10_all ∈ pTb := pwi (tk7 (List.mem_of_getElem? (i := 140) rfl)) rfl
theorem w_X10_all_se : Cond.selects yX10_all.cls yX10_all yX10_all ∈ pTb := pwi (tkp (q := lw_privs[61]) (List.getElem_mem _)) rfl
theorem w_X10_all_co : Cond.code yX10_all cX10_all 3 none ∈ pTb := pwi (tk7 (List.mem_of_getElem? (i := 141) rfl)) rfl
theorem w_X10_all_in : Cond.initialized yX10_all.cls ∈ pTb := pwi (tk1 (List.mem_of_getElem? (i := 15) rfl)) rfl
theorem pl_X10_all : plain yX10_all 1 := ⟨by decide +kernel, by decide +kernel, by decide +kernel⟩
theorem w_X10_m294 : Cond.methodLink RX10 294 yX10_emit ∈ pTb := pwi (tk7 (List.mem_of_getElem? (i := 158) rfl)) rfl
theorem w_X10_emit_im : Cond.instanceMethod yX10_emit ∈ pTb := pwi (tk7 (List.mem_of_getElem? (i := 160) rfl)) rfl
theorem w_X10_emit_se : Cond.selects yX10_emit.cls yX10_emit yX10_emit ∈ pTb := pwi (tkp (q := lw_privs[66]) (List.getElem_mem _)) rfl
theorem w_X10_emit_co : Cond.code yX10_emit cX10_emit 3 none ∈ pTb := pwi (tk7 (List.mem_of_getElem? (i := 161) rfl)) rfl
theorem w_X10_emit_in : Cond.initialized yX10_emit.cls ∈ pTb := pwi (tk1 (List.mem_of_getElem? (i := 15) rfl)) rfl
theorem pl_X10_emit : plain yX10_emit 2 := ⟨by decide +kernel, by decide +kernel, by decide +kernel⟩
theorem w_X10_m298 : Cond.methodLink RX10 298 yX10_isKept ∈ pTb := pwi (tk7 (List.mem_of_getElem? (i := 110) rfl)) rfl
theorem w_X10_isKept_im : Cond.instanceMethod yX10_isKept ∈ pTb := pwi (tk7 (List.mem_of_getElem? (i := 112) rfl)) rfl
theorem w_X10_isKept_se : Cond.selects yX10_isKept.cls yX10_isKept yX10_isKept ∈ pTb := pwi (tkp (q := lw_privs[54]) (List.getElem_mem _)) rfl
theorem w_X10_isKept_co : Cond.code yX10_isKept cX10_isKept 3 (some .boolean) ∈ pTb := pwi (tk7 (List.mem_of_getElem? (i := 113) rfl)) rfl
theorem w_X10_isKept_in : Cond.initialized yX10_isKept.cls ∈ pTb := pwi (tk1 (List.mem_of_getElem? (i := 15) rfl)) rfl
theorem pl_X10_isKept : plain yX10_isKept 0 := ⟨by decide +kernel, by decide +kernel, by decide +kernel⟩
theorem w_X10_m302 : Cond.methodLink RX10 302 yX10_findName ∈ pTb := pwi (tk7 (List.mem_of_getElem? (i := 114) rfl)) rfl
theorem w_X10_findName_im : Cond.instanceMethod yX10_findName ∈ pTb := pwi (tk7 (List.mem_of_getElem? (i := 116) rfl)) rfl
theorem w_X10_findName_se : Cond.selects yX10_findName.cls yX10_findName yX10_findName ∈ pTb := pwi (tkp (q := lw_privs[55]) (List.getElem_mem _)) rfl
theorem w_X10_findName_co : Cond.code yX10_findName cX10_findName 3 (some .int) ∈ pTb := pwi (tk7 (List.mem_of_getElem? (i := 117) rfl)) rfl
theorem w_X10_findName_in : Cond.initialized yX10_findName.cls ∈ pTb := pwi (tk1 (List.mem_of_getElem? (i := 15) rfl)) rfl
theorem pl_X10_findName : plain yX10_findName 0 := ⟨by decide +kernel, by decide +kernel, by decide +kernel⟩
theorem w_X10_m305 : Cond.methodLink RX10 305 yX10_test ∈ pTb := pwi (tk7 (List.mem_of_getElem? (i := 142) rfl)) rfl
theorem w_X10_test_im : Cond.instanceMethod yX10_test ∈ pTb := pwi (tk7 (List.mem_of_getElem? (i := 144) rfl)) rfl
theorem w_X10_test_se : Cond.selects yX10_test.cls yX10_test yX10_test ∈ pTb := pwi (tkp (q := lw_privs[62]) (List.getElem_mem _)) rfl
theorem w_X10_test_co : Cond.code yX10_test cX10_test 3 none ∈ pTb := pwi (tk7 (List.mem_of_getElem? (i := 145) rfl)) rfl
theorem w_X10_test_in : Cond.initialized yX10_test.cls ∈ pTb := pwi (tk1 (List.mem_of_getElem? (i := 15) rfl)) rfl
theorem pl_X10_test : plain yX10_test 1 := ⟨by decide +kernel, by decide +kernel, by decide +kernel⟩
theorem w_X10_m308 : Cond.methodLink RX10 308 yX10_sum ∈ pTb := pwi (tk7 (List.mem_of_getElem? (i := 146) rfl)) rfl
theorem w_X10_sum_im : Cond.instanceMethod yX10_sum ∈ pTb := pwi (tk7 (List.mem_of_getElem? (i := 148) rfl)) rfl
theorem w_X10_sum_se : Cond.selects yX10_sum.cls yX10_sum yX10_sum ∈ pTb := pwi (tkp (q := lw_privs[63]) (List.getElem_mem _)) rfl
theorem w_X10_sum_co : Cond.code yX10_sum cX10_sum 3 none ∈ pTb := pwi (tk7 (List.mem_of_getElem? (i := 149) rfl)) rfl
theorem w_X10_sum_in : Cond.initialized yX10_sum.cls ∈ pTb := pwi (tk1 (List.mem_of_getElem? (i := 15) rfl)) rfl
theorem pl_X10_sum : plain yX10_sum 1 := ⟨by decide +kernel, by decide +kernel, by decide +kernel⟩
theorem w_X10_m311 : Cond.methodLink RX10 311 yX10_hasSign ∈ pTb := pwi (tk7 (List.mem_of_getElem? (i := 162) rfl)) rfl
theorem w_X10_hasSign_im : Cond.instanceMethod yX10_hasSign ∈ pTb := pwi (tk7 (List.mem_of_getElem? (i := 164) rfl)) rfl
theorem w_X10_hasSign_se : Cond.selects yX10_hasSign.cls yX10_hasSign yX10_hasSign ∈ pTb := pwi (tkp (q := lw_privs[67]) (List.getElem_mem _)) rfl
theorem w_X10_hasSign_co : Cond.code yX10_hasSign cX10_hasSign 3 (some .boolean) ∈ pTb := pwi (tk7 (List.mem_of_getElem? (i := 165) rfl)) rfl
theorem w_X10_hasSign_in : Cond.initialized yX10_hasSign.cls ∈ pTb := pwi (tk1 (List.mem_of_getElem? (i := 15) rfl)) rfl
theorem pl_X10_hasSign : plain yX10_hasSign 1 := ⟨by decide +kernel, by decide +kernel, by decide +kernel⟩
theorem w_X10_m314 : Cond.methodLink RX10 314 yX10_term ∈ pTb := pwi (tk7 (List.mem_of_getElem? (i := 150) rfl)) rfl
theorem w_X10_term_im : Cond.instanceMethod yX10_term ∈ pTb := pwi (tk7 (List.mem_of_getElem? (i := 152) rfl)) rfl
theorem w_X10_term_se : Cond.selects yX10_term.cls yX10_term yX10_term ∈ pTb := pwi (tkp (q := lw_privs[64]) (List.getElem_mem _)) rfl
theorem w_X10_term_co : Cond.code yX10_term cX10_term 2 none ∈ pTb := pwi (tk7 (List.mem_of_getElem? (i := 153) rfl)) rfl
theorem w_X10_term_in : Cond.initialized yX10_term.cls ∈ pTb := pwi (tk1 (List.mem_of_getElem? (i := 15) rfl)) rfl
theorem pl_X10_term : plain yX10_term 1 := ⟨by decide +kernel, by decide +kernel, by decide +kernel⟩
theorem w_X10_m317 : Cond.methodLink RX10 317 yX10_takePart ∈ pTb := pwi (tk7 (List.mem_of_getElem? (i := 154) rfl)) rfl
theorem w_X10_takePart_im : Cond.instanceMethod yX10_takePart ∈ pTb := pwi (tk7 (List.mem_of_getElem? (i := 156) rfl)) rfl
theorem w_X10_takePart_se : Cond.selects yX10_takePart.cls yX10_takePart yX10_takePart ∈ pTb := pwi (tkp (q := lw_privs[65]) (List.getElem_mem _)) rfl
theorem w_X10_takePart_co : Cond.code yX10_takePart cX10_takePart 7 none ∈ pTb := pwi (tk7 (List.mem_of_getElem? (i := 157) rfl)) rfl
theorem w_X10_takePart_in : Cond.initialized yX10_takePart.cls ∈ pTb := pwi (tk1 (List.mem_of_getElem? (i := 15) rfl)) rfl
theorem pl_X10_takePart : plain yX10_takePart 1 := ⟨by decide +kernel, by decide +kernel, by decide +kernel⟩
theorem w_X10_m320 : Cond.methodLink RX10 320 yX10_both ∈ pTb := pwi (tk7 (List.mem_of_getElem? (i := 226) rfl)) rfl
theorem w_X10_both_st : Cond.static yX10_both ∈ pTb := pwi (tk7 (List.mem_of_getElem? (i := 227) rfl)) rfl
theorem w_X10_both_co : Cond.code yX10_both cX10_both 3 (some .int) ∈ pTb := pwi (tk7 (List.mem_of_getElem? (i := 228) rfl)) rfl
theorem w_X10_both_in : Cond.initialized yX10_both.cls ∈ pTb := pwi (tk1 (List.mem_of_getElem? (i := 15) rfl)) rfl
theorem pl_X10_both : plain yX10_both 3 := ⟨by decide +kernel, by decide +kernel, by decide +kernel⟩
theorem w_X10_m324 : Cond.methodLink RX10 324 yX10_worth ∈ pTb := pwi (tk7 (List.mem_of_getElem? (i := 222) rfl)) rfl
theorem w_X10_worth_im : Cond.instanceMethod yX10_worth ∈ pTb := pwi (tk7 (List.mem_of_getElem? (i := 224) rfl)) rfl
theorem w_X10_worth_se : Cond.selects yX10_worth.cls yX10_worth yX10_worth ∈ pTb := pwi (tkp (q := lw_privs[74]) (List.getElem_mem _)) rfl
theorem w_X10_worth_co : Cond.code yX10_worth cX10_worth 5 (some .int) ∈ pTb := pwi (tk7 (List.mem_of_getElem? (i := 225) rfl)) rfl
theorem w_X10_worth_in : Cond.initialized yX10_worth.cls ∈ pTb := pwi (tk1 (List.mem_of_getElem? (i := 15) rfl)) rfl
theorem pl_X10_worth : plain yX10_worth 1 := ⟨by decide +kernel, by decide +kernel, by decide +kernel⟩
theorem w_X10_m327 : Cond.methodLink RX10 327 yX10_within ∈ pTb := pwi (tk7 (List.mem_of_getElem? (i := 170) rfl)) rfl
theorem w_X10_within_st : Cond.static yX10_within ∈ pTb := pwi (tk7 (List.mem_of_getElem? (i := 171) rfl)) rfl
theorem w_X10_within_co : Cond.code yX10_within cX10_within 3 (some .boolean) ∈ pTb := pwi (tk7 (List.mem_of_getElem? (i := 172) rfl)) rfl
theorem w_X10_within_in : Cond.initialized yX10_within.cls ∈ pTb := pwi (tk1 (List.mem_of_getElem? (i := 15) rfl)) rfl
theorem pl_X10_within : plain yX10_within 3 := ⟨by decide +kernel, by decide +kernel, by decide +kernel⟩
theorem w_X10_f331 : Cond.fieldLink RX10 331 (TX10 24).1 (TX10 24).2.1 (TX10 24).2.2.1 ∈ pTb := pwi (tk6 (List.mem_of_getElem? (i := 111) rfl)) rfl
theorem w_X10_f334 : Cond.fieldLink RX10 334 (TX10 26).1 (TX10 26).2.1 (TX10 26).2.2.1 ∈ pTb := pwi (tk6 (List.mem_of_getElem? (i := 113) rfl)) rfl
theorem w_X10_m337 : Cond.methodLink RX10 337 yX10_isPiece ∈ pTb := pwi (tk7 (List.mem_of_getElem? (i := 181) rfl)) rfl
theorem w_X10_isPiece_im : Cond.instanceMethod yX10_isPiece ∈ pTb := pwi (tk7 (List.mem_of_getElem? (i := 183) rfl)) rfl
theorem w_X10_isPiece_se : Cond.selects yX10_isPiece.cls yX10_isPiece yX10_isPiece ∈ pTb := pwi (tkp (q := lw_privs[68]) (List.getElem_mem _)) rfl
theorem w_X10_isPiece_co : Cond.code yX10_isPiece cX10_isPiece 2 (some .boolean) ∈ pTb := pwi (tk7 (List.mem_of_getElem? (i := 184) rfl)) rfl
theorem w_X10_isPiece_in : Cond.initialized yX10_isPiece.cls ∈ pTb := pwi (tk1 (List.mem_of_getElem? (i := 15) rfl)) rfl
theorem pl_X10_isPiece : plain yX10_isPiece 1 := ⟨by decide +kernel, by decide +kernel, by decide +kernel⟩
theorem w_X10_c340 : Cond.constantLong RX10 340 (i64 (255)) ∈ pTb := pwi (tk7 (List.mem_of_getElem? (i := 189) rfl)) rfl
theorem w_X10_c342 : Cond.constantLong RX10 342 (i64 (99)) ∈ pTb := pwi (tk7 (List.mem_of_getElem? (i := 190) rfl)) rfl
theorem w_X10_f344 : Cond.fieldLink RX10 344 (TX10 41).1 (TX10 41).2.1 (TX10 41).2.2.1 ∈ pTb := pwi (tk6 (List.mem_of_getElem? (i := 128) rfl)) rfl
theorem w_X10_m347 : Cond.methodLink RX10 347 yX10_far ∈ pTb := pwi (tk7 (List.mem_of_getElem? (i := 207) rfl)) rfl
theorem w_X10_far_st : Cond.static yX10_far ∈ pTb := pwi (tk7 (List.mem_of_getElem? (i := 208) rfl)) rfl
theorem w_X10_far_co : Cond.code yX10_far cX10_far 2 (some .int) ∈ pTb := pwi (tk7 (List.mem_of_getElem? (i := 209) rfl)) rfl
theorem w_X10_far_in : Cond.initialized yX10_far.cls ∈ pTb := pwi (tk1 (List.mem_of_getElem? (i := 15) rfl)) rfl
theorem pl_X10_far : plain yX10_far 2 := ⟨by decide +kernel, by decide +kernel, by decide +kernel⟩
theorem w_X10_f350 : Cond.fieldLink RX10 350 (TX10 42).1 (TX10 42).2.1 (TX10 42).2.2.1 ∈ pTb := pwi (tk6 (List.mem_of_getElem? (i := 129) rfl)) rfl
theorem w_X10_m353 : Cond.methodLink RX10 353 yX10_tellsNames ∈ pTb := pwi (tk7 (List.mem_of_getElem? (i := 218) rfl)) rfl
theorem w_X10_tellsNames_im : Cond.instanceMethod yX10_tellsNames ∈ pTb := pwi (tk7 (List.mem_of_getElem? (i := 220) rfl)) rfl
theorem w_X10_tellsNames_se : Cond.selects yX10_tellsNames.cls yX10_tellsNames yX10_tellsNames ∈ pTb := pwi (tkp (q := lw_privs[73]) (List.getElem_mem _)) rfl
theorem w_X10_tellsNames_co : Cond.code yX10_tellsNames cX10_tellsNames 2 none ∈ pTb := pwi (tk7 (List.mem_of_getElem? (i := 221) rfl)) rfl
theorem w_X10_tellsNames_in : Cond.initialized yX10_tellsNames.cls ∈ pTb := pwi (tk1 (List.mem_of_getElem? (i := 15) rfl)) rfl
theorem pl_X10_tellsNames : plain yX10_tellsNames 0 := ⟨by decide +kernel, by decide +kernel, by decide +kernel⟩
theorem w_X10_m356 : Cond.methodLink RX10 356 yX10_isSo ∈ pTb := pwi (tk7 (List.mem_of_getElem? (i := 229) rfl)) rfl
theorem w_X10_isSo_im : Cond.instanceMethod yX10_isSo ∈ pTb := pwi (tk7 (List.mem_of_getElem? (i := 231) rfl)) rfl
theorem w_X10_isSo_se : Cond.selects yX10_isSo.cls yX10_isSo yX10_isSo ∈ pTb := pwi (tkp (q := lw_privs[75]) (List.getElem_mem _)) rfl
theorem w_X10_isSo_co : Cond.code yX10_isSo cX10_isSo 3 (some .boolean) ∈ pTb := pwi (tk7 (List.mem_of_getElem? (i := 232) rfl)) rfl
theorem w_X10_isSo_in : Cond.initialized yX10_isSo.cls ∈ pTb := pwi (tk1 (List.mem_of_getElem? (i := 15) rfl)) rfl
theorem pl_X10_isSo : plain yX10_isSo 2 := ⟨by decide +kernel, by decide +kernel, by decide +kernel⟩
theorem w_X10_m360 : Cond.methodLink RX10 360 yX10_measures ∈ pTb := pwi (tk7 (List.mem_of_getElem? (i := 203) rfl)) rfl
theorem w_X10_measures_im : Cond.instanceMethod yX10_measures ∈ pTb := pwi (tk7 (List.mem_of_getElem? (i := 205) rfl)) rfl
theorem w_X10_measures_se : Cond.selects yX10_measures.cls yX10_measures yX10_measures ∈ pTb := pwi (tkp (q := lw_privs[70]) (List.getElem_mem _)) rfl
theorem w_X10_measures_co : Cond.code yX10_measures cX10_measures 6 none ∈ pTb := pwi (tk7 (List.mem_of_getElem? (i := 206) rfl)) rfl
theorem w_X10_measures_in : Cond.initialized yX10_measures.cls ∈ pTb := pwi (tk1 (List.mem_of_getElem? (i := 15) rfl)) rfl
theorem pl_X10_measures : plain yX10_measures 2 := ⟨by decide +kernel, by decide +kernel, by decide +kernel⟩
theorem w_X10_m363 : Cond.methodLink RX10 363 yX10_stoneOf ∈ pTb := pwi (tk7 (List.mem_of_getElem? (i := 214) rfl)) rfl
theorem w_X10_stoneOf_im : Cond.instanceMethod yX10_stoneOf ∈ pTb := pwi (tk7 (List.mem_of_getElem? (i := 216) rfl)) rfl
theorem w_X10_stoneOf_se : Cond.selects yX10_stoneOf.cls yX10_stoneOf yX10_stoneOf ∈ pTb := pwi (tkp (q := lw_privs[72]) (List.getElem_mem _)) rfl
theorem w_X10_stoneOf_co : Cond.code yX10_stoneOf cX10_stoneOf 3 (some .int) ∈ pTb := pwi (tk7 (List.mem_of_getElem? (i := 217) rfl)) rfl
theorem w_X10_stoneOf_in : Cond.initialized yX10_stoneOf.cls ∈ pTb := pwi (tk1 (List.mem_of_getElem? (i := 15) rfl)) rfl
theorem pl_X10_stoneOf : plain yX10_stoneOf 1 := ⟨by decide +kernel, by decide +kernel, by decide +kernel⟩
theorem w_X10_m366 : Cond.methodLink RX10 366 yX10_meets ∈ pTb := pwi (tk7 (List.mem_of_getElem? (i := 233) rfl)) rfl
theorem w_X10_meets_im : Cond.instanceMethod yX10_meets ∈ pTb := pwi (tk7 (List.mem_of_getElem? (i := 235) rfl)) rfl
theorem w_X10_meets_se : Cond.selects yX10_meets.cls yX10_meets yX10_meets ∈ pTb := pwi (tkp (q := lw_privs[76]) (List.getElem_mem _)) rfl
theorem w_X10_meets_co : Cond.code yX10_meets cX10_meets 9 none ∈ pTb := pwi (tk7 (List.mem_of_getElem? (i := 236) rfl)) rfl
theorem w_X10_meets_in : Cond.initialized yX10_meets.cls ∈ pTb := pwi (tk1 (List.mem_of_getElem? (i := 15) rfl)) rfl
theorem pl_X10_meets : plain yX10_meets 2 := ⟨by decide +kernel, by decide +kernel, by decide +kernel⟩
theorem w_X10_m369 : Cond.methodLink RX10 369 yX10_isFace ∈ pTb := pwi (tk7 (List.mem_of_getElem? (i := 199) rfl)) rfl
theorem w_X10_isFace_im : Cond.instanceMethod yX10_isFace ∈ pTb := pwi (tk7 (List.mem_of_getElem? (i := 201) rfl)) rfl
theorem w_X10_isFace_se : Cond.selects yX10_isFace.cls yX10_isFace yX10_isFace ∈ pTb := pwi (tkp (q := lw_privs[69]) (List.getElem_mem _)) rfl
theorem w_X10_isFace_co : Cond.code yX10_isFace cX10_isFace 2 (some .boolean) ∈ pTb := pwi (tk7 (List.mem_of_getElem? (i := 202) rfl)) rfl
theorem w_X10_isFace_in : Cond.initialized yX10_isFace.cls ∈ pTb := pwi (tk1 (List.mem_of_getElem? (i := 15) rfl)) rfl
theorem pl_X10_isFace : plain yX10_isFace 1 := ⟨by decide +kernel, by decide +kernel, by decide +kernel⟩
theorem w_X10_m372 : Cond.methodLink RX10 372 yX10_mayMeet ∈ pTb := pwi (tk7 (List.mem_of_getElem? (i := 210) rfl)) rfl
theorem w_X10_mayMeet_im : Cond.instanceMethod yX10_mayMeet ∈ pTb := pwi (tk7 (List.mem_of_getElem? (i := 212) rfl)) rfl
theorem w_X10_mayMeet_se : Cond.selects yX10_mayMeet.cls yX10_mayMeet yX10_mayMeet ∈ pTb := pwi (tkp (q := lw_privs[71]) (List.getElem_mem _)) rfl
theorem w_X10_mayMeet_co : Cond.code yX10_mayMeet cX10_mayMeet 7 (some .boolean) ∈ pTb := pwi (tk7 (List.mem_of_getElem? (i := 213) rfl)) rfl
theorem w_X10_mayMeet_in : Cond.initialized yX10_mayMeet.cls ∈ pTb := pwi (tk1 (List.mem_of_getElem? (i := 15) rfl)) rfl
theorem pl_X10_mayMeet : plain yX10_mayMeet 2 := ⟨by decide +kernel, by decide +kernel, by decide +kernel⟩
theorem w_X10_m375 : Cond.methodLink RX10 375 yX10_doubts ∈ pTb := pwi (tk7 (List.mem_of_getElem? (i := 237) rfl)) rfl
theorem w_X10_doubts_im : Cond.instanceMethod yX10_doubts ∈ pTb := pwi (tk7 (List.mem_of_getElem? (i := 239) rfl)) rfl
theorem w_X10_doubts_se : Cond.selects yX10_doubts.cls yX10_doubts yX10_doubts ∈ pTb := pwi (tkp (q := lw_privs[77]) (List.getElem_mem _)) rfl
theorem w_X10_doubts_co : Cond.code yX10_doubts cX10_doubts 5 (some .int) ∈ pTb := pwi (tk8 (List.mem_of_getElem? (i := 0) rfl)) rfl
theorem w_X10_doubts_in : Cond.initialized yX10_doubts.cls ∈ pTb := pwi (tk1 (List.mem_of_getElem? (i := 15) rfl)) rfl
theorem pl_X10_doubts : plain yX10_doubts 2 := ⟨by decide +kernel, by decide +kernel, by decide +kernel⟩
theorem w_X10_f378 : Cond.fieldLink RX10 378 (TX10 43).1 (TX10 43).2.1 (TX10 43).2.2.1 ∈ pTb := pwi (tk6 (List.mem_of_getElem? (i := 130) rfl)) rfl
theorem w_X10_m381 : Cond.methodLink RX10 381 yX10_isOn ∈ pTb := pwi (tk8 (List.mem_of_getElem? (i := 13) rfl)) rfl
theorem w_X10_isOn_im : Cond.instanceMethod yX10_isOn ∈ pTb := pwi (tk8 (List.mem_of_getElem? (i := 15) rfl)) rfl
theorem w_X10_isOn_se : Cond.selects yX10_isOn.cls yX10_isOn yX10_isOn ∈ pTb := pwi (tkp (q := lw_privs[79]) (List.getElem_mem _)) rfl
theorem w_X10_isOn_co : Cond.code yX10_isOn cX10_isOn 2 (some .boolean) ∈ pTb := pwi (tk8 (List.mem_of_getElem? (i := 16) rfl)) rfl
theorem w_X10_isOn_in : Cond.initialized yX10_isOn.cls ∈ pTb := pwi (tk1 (List.mem_of_getElem? (i := 15) rfl)) rfl
theorem pl_X10_isOn : plain yX10_isOn 1 := ⟨by decide +kernel, by decide +kernel, by decide +kernel⟩
theorem w_X10_m384 : Cond.methodLink RX10 384 yX10_mate ∈ pTb := pwi (tk8 (List.mem_of_getElem? (i := 9) rfl)) rfl
theorem w_X10_mate_im : Cond.instanceMethod yX10_mate ∈ pTb := pwi (tk8 (List.mem_of_getElem? (i := 11) rfl)) rfl
theorem w_X10_mate_se : Cond.selects yX10_mate.cls yX10_mate yX10_mate ∈ pTb := pwi (tkp (q := lw_privs[78]) (List.getElem_mem _)) rfl
theorem w_X10_mate_co : Cond.code yX10_mate cX10_mate 4 (some .int) ∈ pTb := pwi (tk8 (List.mem_of_getElem? (i := 12) rfl)) rfl
theorem w_X10_mate_in : Cond.initialized yX10_mate.cls ∈ pTb := pwi (tk1 (List.mem_of_getElem? (i := 15) rfl)) rfl
theorem pl_X10_mate : plain yX10_mate 1 := ⟨by decide +kernel, by decide +kernel, by decide +kernel⟩
theorem w_X10_m387 : Cond.methodLink RX10 387 yX10_hangs ∈ pTb := pwi (tk8 (List.mem_of_getElem? (i := 25) rfl)) rfl
theorem w_X10_hangs_im : Cond.instanceMethod yX10_hangs ∈ pTb := pwi (tk8 (List.mem_of_getElem? (i := 27) rfl)) rfl
theorem w_X10_hangs_se : Cond.selects yX10_hangs.cls yX10_hangs yX10_hangs ∈ pTb := pwi (tkp (q := lw_privs[80]) (List.getElem_mem _)) rfl
theorem w_X10_hangs_co : Cond.code yX10_hangs cX10_hangs 9 none ∈ pTb := pwi (tk8 (List.mem_of_getElem? (i := 28) rfl)) rfl
theorem w_X10_hangs_in : Cond.initialized yX10_hangs.cls ∈ pTb := pwi (tk1 (List.mem_of_getElem? (i := 15) rfl)) rfl
theorem pl_X10_hangs : plain yX10_hangs 2 := ⟨by decide +kernel, by decide +kernel, by decide +kernel⟩
theorem w_X10_m391 : Cond.methodLink RX10 391 yX10_cobbleOf ∈ pTb := pwi (tk8 (List.mem_of_getElem? (i := 37) rfl)) rfl
theorem w_X10_cobbleOf_im : Cond.instanceMethod yX10_cobbleOf ∈ pTb := pwi (tk8 (List.mem_of_getElem? (i := 39) rfl)) rfl
theorem w_X10_cobbleOf_se : Cond.selects yX10_cobbleOf.cls yX10_cobbleOf yX10_cobbleOf ∈ pTb := pwi (tkp (q := lw_privs[82]) (List.getElem_mem _)) rfl
theorem w_X10_cobbleOf_co : Cond.code yX10_cobbleOf cX10_cobbleOf 2 (some .int) ∈ pTb := pwi (tk8 (List.mem_of_getElem? (i := 40) rfl)) rfl
theorem w_X10_cobbleOf_in : Cond.initialized yX10_cobbleOf.cls ∈ pTb := pwi (tk1 (List.mem_of_getElem? (i := 15) rfl)) rfl
theorem pl_X10_cobbleOf : plain yX10_cobbleOf 1 := ⟨by decide +kernel, by decide +kernel, by decide +kernel⟩
theorem w_X10_m394 : Cond.methodLink RX10 394 yX10_sets ∈ pTb := pwi (tk8 (List.mem_of_getElem? (i := 41) rfl)) rfl
theorem w_X10_sets_im : Cond.instanceMethod yX10_sets ∈ pTb := pwi (tk8 (List.mem_of_getElem? (i := 43) rfl)) rfl
theorem w_X10_sets_se : Cond.selects yX10_sets.cls yX10_sets yX10_sets ∈ pTb := pwi (tkp (q := lw_privs[83]) (List.getElem_mem _)) rfl
theorem w_X10_sets_co : Cond.code yX10_sets cX10_sets 8 none ∈ pTb := pwi (tk8 (List.mem_of_getElem? (i := 44) rfl)) rfl
theorem w_X10_sets_in : Cond.initialized yX10_sets.cls ∈ pTb := pwi (tk1 (List.mem_of_getElem? (i := 15) rfl)) rfl
theorem pl_X10_sets : plain yX10_sets 1 := ⟨by decide +kernel, by decide +kernel, by decide +kernel⟩
theorem w_X10_m397 : Cond.methodLink RX10 397 yX10_isOpen ∈ pTb := pwi (tk8 (List.mem_of_getElem? (i := 33) rfl)) rfl
theorem w_X10_isOpen_im : Cond.instanceMethod yX10_isOpen ∈ pTb := pwi (tk8 (List.mem_of_getElem? (i := 35) rfl)) rfl
theorem w_X10_isOpen_se : Cond.selects yX10_isOpen.cls yX10_isOpen yX10_isOpen ∈ pTb := pwi (tkp (q := lw_privs[81]) (List.getElem_mem _)) rfl
theorem w_X10_isOpen_co : Cond.code yX10_isOpen cX10_isOpen 2 (some .boolean) ∈ pTb := pwi (tk8 (List.mem_of_getElem? (i := 36) rfl)) rfl
theorem w_X10_isOpen_in : Cond.initialized yX10_isOpen.cls ∈ pTb := pwi (tk1 (List.mem_of_getElem? (i := 15) rfl)) rfl
theorem pl_X10_isOpen : plain yX10_isOpen 1 := ⟨by decide +kernel, by decide +kernel, by decide +kernel⟩
theorem w_X10_m400 : Cond.methodLink RX10 400 yX10_rivals ∈ pTb := pwi (tk8 (List.mem_of_getElem? (i := 45) rfl)) rfl
theorem w_X10_rivals_im : Cond.instanceMethod yX10_rivals ∈ pTb := pwi (tk8 (List.mem_of_getElem? (i := 47) rfl)) rfl
theorem w_X10_rivals_se : Cond.selects yX10_rivals.cls yX10_rivals yX10_rivals ∈ pTb := pwi (tkp (q := lw_privs[84]) (List.getElem_mem _)) rfl
theorem w_X10_rivals_co : Cond.code yX10_rivals cX10_rivals 5 (some .int) ∈ pTb := pwi (tk8 (List.mem_of_getElem? (i := 48) rfl)) rfl
theorem w_X10_rivals_in : Cond.initialized yX10_rivals.cls ∈ pTb := pwi (tk1 (List.mem_of_getElem? (i := 15) rfl)) rfl
theorem pl_X10_rivals : plain yX10_rivals 1 := ⟨by decide +kernel, by decide +kernel, by decide +kernel⟩
theorem w_X10_m403 : Cond.methodLink RX10 403 yX10_manyOf ∈ pTb := pwi (tk8 (List.mem_of_getElem? (i := 89) rfl)) rfl
theorem w_X10_manyOf_im : Cond.instanceMethod yX10_manyOf ∈ pTb := pwi (tk8 (List.mem_of_getElem? (i := 91) rfl)) rfl
theorem w_X10_manyOf_se : Cond.selects yX10_manyOf.cls yX10_manyOf yX10_manyOf ∈ pTb := pwi (tkp (q := lw_privs[91]) (List.getElem_mem _)) rfl
theorem w_X10_manyOf_co : Cond.code yX10_manyOf cX10_manyOf 4 (some .int) ∈ pTb := pwi (tk8 (List.mem_of_getElem? (i := 92) rfl)) rfl
theorem w_X10_manyOf_in : Cond.initialized yX10_manyOf.cls ∈ pTb := pwi (tk1 (List.mem_of_getElem? (i := 15) rfl)) rfl
theorem pl_X10_manyOf : plain yX10_manyOf 1 := ⟨by decide +kernel, by decide +kernel, by decide +kernel⟩
theorem w_X10_m406 : Cond.methodLink RX10 406 yX10_findHeaps ∈ pTb := pwi (tk8 (List.mem_of_getElem? (i := 57) rfl)) rfl
theorem w_X10_findHeaps_im : Cond.instanceMethod yX10_findHeaps ∈ pTb := pwi (tk8 (List.mem_of_getElem? (i := 59) rfl)) rfl
theorem w_X10_findHeaps_se : Cond.selects yX10_findHeaps.cls yX10_findHeaps yX10_findHeaps ∈ pTb := pwi (tkp (q := lw_privs[85]) (List.getElem_mem _)) rfl
theorem w_X10_findHeaps_co : Cond.code yX10_findHeaps cX10_findHeaps 2 none ∈ pTb := pwi (tk8 (List.mem_of_getElem? (i := 60) rfl)) rfl
theorem w_X10_findHeaps_in : Cond.initialized yX10_findHeaps.cls ∈ pTb := pwi (tk1 (List.mem_of_getElem? (i := 15) rfl)) rfl
theorem pl_X10_findHeaps : plain yX10_findHeaps 0 := ⟨by decide +kernel, by decide +kernel, by decide +kernel⟩
theorem w_X10_f409 : Cond.fieldLink RX10 409 (TX10 55).1 (TX10 55).2.1 (TX10 55).2.2.1 ∈ pTb := pwi (tk6 (List.mem_of_getElem? (i := 142) rfl)) rfl
theorem w_X10_m412 : Cond.methodLink RX10 412 yX10_blowOf ∈ pTb := pwi (tk8 (List.mem_of_getElem? (i := 85) rfl)) rfl
theorem w_X10_blowOf_im : Cond.instanceMethod yX10_blowOf ∈ pTb := pwi (tk8 (List.mem_of_getElem? (i := 87) rfl)) rfl
theorem w_X10_blowOf_se : Cond.selects yX10_blowOf.cls yX10_blowOf yX10_blowOf ∈ pTb := pwi (tkp (q := lw_privs[90]) (List.getElem_mem _)) rfl
theorem w_X10_blowOf_co : Cond.code yX10_blowOf cX10_blowOf 3 (some .int) ∈ pTb := pwi (tk8 (List.mem_of_getElem? (i := 88) rfl)) rfl
theorem w_X10_blowOf_in : Cond.initialized yX10_blowOf.cls ∈ pTb := pwi (tk1 (List.mem_of_getElem? (i := 15) rfl)) rfl
theorem pl_X10_blowOf : plain yX10_blowOf 1 := ⟨by decide +kernel, by decide +kernel, by decide +kernel⟩
theorem w_X10_m415 : Cond.methodLink RX10 415 yX10_hasStruckBelly ∈ pTb := pwi (tk8 (List.mem_of_getElem? (i := 97) rfl)) rfl
theorem w_X10_hasStruckBelly_im : Cond.instanceMethod yX10_hasStruckBelly ∈ pTb := pwi (tk8 (List.mem_of_getElem? (i := 99) rfl)) rfl
theorem w_X10_hasStruckBelly_se : Cond.selects yX10_hasStruckBelly.cls yX10_hasStruckBelly yX10_hasStruckBelly ∈ pTb := pwi (tkp (q := lw_privs[93]) (List.getElem_mem _)) rfl
theorem w_X10_hasStruckBelly_co : Cond.code yX10_hasStruckBelly cX10_hasStruckBelly 4 (some .boolean) ∈ pTb := pwi (tk8 (List.mem_of_getElem? (i := 100) rfl)) rfl
theorem w_X10_hasStruckBelly_in : Cond.initialized yX10_hasStruckBelly.cls ∈ pTb := pwi (tk1 (List.mem_of_getElem? (i := 15) rfl)) rfl
theorem pl_X10_hasStruckBelly : plain yX10_hasStruckBelly 1 := ⟨by decide +kernel, by decide +kernel, by decide +kernel⟩
theorem w_X10_m418 : Cond.methodLink RX10 418 yX10_indexOf ∈ pTb := pwi (tk8 (List.mem_of_getElem? (i := 101) rfl)) rfl
theorem w_X10_indexOf_im : Cond.instanceMethod yX10_indexOf ∈ pTb := pwi (tk8 (List.mem_of_getElem? (i := 103) rfl)) rfl
theorem w_X10_indexOf_se : Cond.selects yX10_indexOf.cls yX10_indexOf yX10_indexOf ∈ pTb := pwi (tkp (q := lw_privs[94]) (List.getElem_mem _)) rfl
theorem w_X10_indexOf_co : Cond.code yX10_indexOf cX10_indexOf 4 (some .int) ∈ pTb := pwi (tk8 (List.mem_of_getElem? (i := 104) rfl)) rfl
theorem w_X10_indexOf_in : Cond.initialized yX10_indexOf.cls ∈ pTb := pwi (tk1 (List.mem_of_getElem? (i := 15) rfl)) rfl
theorem pl_X10_indexOf : plain yX10_indexOf 1 := ⟨by decide +kernel, by decide +kernel, by decide +kernel⟩
theorem w_X10_m421 : Cond.methodLink RX10 421 yX10_findBlows ∈ pTb := pwi (tk8 (List.mem_of_getElem? (i := 81) rfl)) rfl
theorem w_X10_findBlows_im : Cond.instanceMethod yX10_findBlows ∈ pTb := pwi (tk8 (List.mem_of_getElem? (i := 83) rfl)) rfl
theorem w_X10_findBlows_se : Cond.selects yX10_findBlows.cls yX10_findBlows yX10_findBlows ∈ pTb := pwi (tkp (q := lw_privs[89]) (List.getElem_mem _)) rfl
theorem w_X10_findBlows_co : Cond.code yX10_findBlows cX10_findBlows 3 none ∈ pTb := pwi (tk8 (List.mem_of_getElem? (i := 84) rfl)) rfl
theorem w_X10_findBlows_in : Cond.initialized yX10_findBlows.cls ∈ pTb := pwi (tk1 (List.mem_of_getElem? (i := 15) rfl)) rfl
theorem pl_X10_findBlows : plain yX10_findBlows 1 := ⟨by decide +kernel, by decide +kernel, by decide +kernel⟩
theorem w_X10_m424 : Cond.methodLink RX10 424 yX10_findSure ∈ pTb := pwi (tk8 (List.mem_of_getElem? (i := 93) rfl)) rfl
theorem w_X10_findSure_im : Cond.instanceMethod yX10_findSure ∈ pTb := pwi (tk8 (List.mem_of_getElem? (i := 95) rfl)) rfl
theorem w_X10_findSure_se : Cond.selects yX10_findSure.cls yX10_findSure yX10_findSure ∈ pTb := pwi (tkp (q := lw_privs[92]) (List.getElem_mem _)) rfl
theorem w_X10_findSure_co : Cond.code yX10_findSure cX10_findSure 4 none ∈ pTb := pwi (tk8 (List.mem_of_getElem? (i := 96) rfl)) rfl
theorem w_X10_findSure_in : Cond.initialized yX10_findSure.cls ∈ pTb := pwi (tk1 (List.mem_of_getElem? (i := 15) rfl)) rfl
theorem pl_X10_findSure : plain yX10_findSure 0 := ⟨by decide +kernel, by decide +kernel, by decide +kernel⟩
theorem w_X10_m427 : Cond.methodLink RX10 427 yX10_findWeights ∈ pTb := pwi (tk8 (List.mem_of_getElem? (i := 105) rfl)) rfl
theorem w_X10_findWeights_im : Cond.instanceMethod yX10_findWeights ∈ pTb := pwi (tk8 (List.mem_of_getElem? (i := 107) rfl)) rfl
theorem w_X10_findWeights_se : Cond.selects yX10_findWeights.cls yX10_findWeights yX10_findWeights ∈ pTb := pwi (tkp (q := lw_privs[95]) (List.getElem_mem _)) rfl
theorem w_X10_findWeights_co : Cond.code yX10_findWeights cX10_findWeights 7 none ∈ pTb := pwi (tk8 (List.mem_of_getElem? (i := 108) rfl)) rfl
theorem w_X10_findWeights_in : Cond.initialized yX10_findWeights.cls ∈ pTb := pwi (tk1 (List.mem_of_getElem? (i := 15) rfl)) rfl
theorem pl_X10_findWeights : plain yX10_findWeights 1 := ⟨by decide +kernel, by decide +kernel, by decide +kernel⟩
theorem w_X10_m430 : Cond.methodLink RX10 430 yX10_mayCome ∈ pTb := pwi (tk8 (List.mem_of_getElem? (i := 109) rfl)) rfl
theorem w_X10_mayCome_im : Cond.instanceMethod yX10_mayCome ∈ pTb := pwi (tk8 (List.mem_of_getElem? (i := 111) rfl)) rfl
theorem w_X10_mayCome_se : Cond.selects yX10_mayCome.cls yX10_mayCome yX10_mayCome ∈ pTb := pwi (tkp (q := lw_privs[96]) (List.getElem_mem _)) rfl
theorem w_X10_mayCome_co : Cond.code yX10_mayCome cX10_mayCome 3 (some .boolean) ∈ pTb := pwi (tk8 (List.mem_of_getElem? (i := 112) rfl)) rfl
theorem w_X10_mayCome_in : Cond.initialized yX10_mayCome.cls ∈ pTb := pwi (tk1 (List.mem_of_getElem? (i := 15) rfl)) rfl
theorem pl_X10_mayCome : plain yX10_mayCome 2 := ⟨by decide +kernel, by decide +kernel, by decide +kernel⟩
theorem w_X10_m433 : Cond.methodLink RX10 433 yX10_loses ∈ pTb := pwi (tk8 (List.mem_of_getElem? (i := 113) rfl)) rfl
theorem w_X10_loses_im : Cond.instanceMethod yX10_loses ∈ pTb := pwi (tk8 (List.mem_of_getElem? (i := 115) rfl)) rfl
theorem w_X10_loses_se : Cond.selects yX10_loses.cls yX10_loses yX10_loses ∈ pTb := pwi (tkp (q := lw_privs[97]) (List.getElem_mem _)) rfl
theorem w_X10_loses_co : Cond.code yX10_loses cX10_loses 5 (some .int) ∈ pTb := pwi (tk8 (List.mem_of_getElem? (i := 116) rfl)) rfl
theorem w_X10_loses_in : Cond.initialized yX10_loses.cls ∈ pTb := pwi (tk1 (List.mem_of_getElem? (i := 15) rfl)) rfl
theorem pl_X10_loses : plain yX10_loses 2 := ⟨by decide +kernel, by decide +kernel, by decide +kernel⟩
theorem w_X10_c436 : Cond.constantLong RX10 436 (i64 (4)) ∈ pTb := pwi (tk8 (List.mem_of_getElem? (i := 72) rfl)) rfl
theorem w_X10_m438 : Cond.methodLink RX10 438 yX10_wholesOf ∈ pTb := pwi (tk8 (List.mem_of_getElem? (i := 65) rfl)) rfl
theorem w_X10_wholesOf_im : Cond.instanceMethod yX10_wholesOf ∈ pTb := pwi (tk8 (List.mem_of_getElem? (i := 67) rfl)) rfl
theorem w_X10_wholesOf_se : Cond.selects yX10_wholesOf.cls yX10_wholesOf yX10_wholesOf ∈ pTb := pwi (tkp (q := lw_privs[87]) (List.getElem_mem _)) rfl
theorem w_X10_wholesOf_co : Cond.code yX10_wholesOf cX10_wholesOf 4 (some .int) ∈ pTb := pwi (tk8 (List.mem_of_getElem? (i := 68) rfl)) rfl
theorem w_X10_wholesOf_in : Cond.initialized yX10_wholesOf.cls ∈ pTb := pwi (tk1 (List.mem_of_getElem? (i := 15) rfl)) rfl
theorem pl_X10_wholesOf : plain yX10_wholesOf 1 := ⟨by decide +kernel, by decide +kernel, by decide +kernel⟩
theorem w_X10_m441 : Cond.methodLink RX10 441 yX10_faultsOf ∈ pTb := pwi (tk8 (List.mem_of_getElem? (i := 61) rfl)) rfl
theorem w_X10_faultsOf_im : Cond.instanceMethod yX10_faultsOf ∈ pTb := pwi (tk8 (List.mem_of_getElem? (i := 63) rfl)) rfl
theorem w_X10_faultsOf_se : Cond.selects yX10_faultsOf.cls yX10_faultsOf yX10_faultsOf ∈ pTb := pwi (tkp (q := lw_privs[86]) (List.getElem_mem _)) rfl
theorem w_X10_faultsOf_co : Cond.code yX10_faultsOf cX10_faultsOf 4 (some .int) ∈ pTb := pwi (tk8 (List.mem_of_getElem? (i := 64) rfl)) rfl
theorem w_X10_faultsOf_in : Cond.initialized yX10_faultsOf.cls ∈ pTb := pwi (tk1 (List.mem_of_getElem? (i := 15) rfl)) rfl
theorem pl_X10_faultsOf : plain yX10_faultsOf 1 := ⟨by decide +kernel, by decide +kernel, by decide +kernel⟩
theorem w_X10_m444 : Cond.methodLink RX10 444 yX10_areTwo ∈ pTb := pwi (tk8 (List.mem_of_getElem? (i := 69) rfl)) rfl
theorem w_X10_areTwo_st : Cond.static yX10_areTwo ∈ pTb := pwi (tk8 (List.mem_of_getElem? (i := 70) rfl)) rfl
theorem w_X10_areTwo_co : Cond.code yX10_areTwo cX10_areTwo 6 (some .boolean) ∈ pTb := pwi (tk8 (List.mem_of_getElem? (i := 71) rfl)) rfl
theorem w_X10_areTwo_in : Cond.initialized yX10_areTwo.cls ∈ pTb := pwi (tk1 (List.mem_of_getElem? (i := 15) rfl)) rfl
theorem pl_X10_areTwo : plain yX10_areTwo 4 := ⟨by decide +kernel, by decide +kernel, by decide +kernel⟩
theorem w_X10_m448 : Cond.methodLink RX10 448 yX10_quarrel ∈ pTb := pwi (tk8 (List.mem_of_getElem? (i := 77) rfl)) rfl
theorem w_X10_quarrel_im : Cond.instanceMethod yX10_quarrel ∈ pTb := pwi (tk8 (List.mem_of_getElem? (i := 79) rfl)) rfl
theorem w_X10_quarrel_se : Cond.selects yX10_quarrel.cls yX10_quarrel yX10_quarrel ∈ pTb := pwi (tkp (q := lw_privs[88]) (List.getElem_mem _)) rfl
theorem w_X10_quarrel_co : Cond.code yX10_quarrel cX10_quarrel 7 (some .int) ∈ pTb := pwi (tk8 (List.mem_of_getElem? (i := 80) rfl)) rfl
theorem w_X10_quarrel_in : Cond.initialized yX10_quarrel.cls ∈ pTb := pwi (tk1 (List.mem_of_getElem? (i := 15) rfl)) rfl
theorem pl_X10_quarrel : plain yX10_quarrel 1 := ⟨by decide +kernel, by decide +kernel, by decide +kernel⟩
theorem w_X10_m451 : Cond.methodLink RX10 451 yX10_openIn ∈ pTb := pwi (tk8 (List.mem_of_getElem? (i := 117) rfl)) rfl
theorem w_X10_openIn_im : Cond.instanceMethod yX10_openIn ∈ pTb := pwi (tk8 (List.mem_of_getElem? (i := 119) rfl)) rfl
theorem w_X10_openIn_se : Cond.selects yX10_openIn.cls yX10_openIn yX10_openIn ∈ pTb := pwi (tkp (q := lw_privs[98]) (List.getElem_mem _)) rfl
theorem w_X10_openIn_co : Cond.code yX10_openIn cX10_openIn 4 (some .int) ∈ pTb := pwi (tk8 (List.mem_of_getElem? (i := 120) rfl)) rfl
theorem w_X10_openIn_in : Cond.initialized yX10_openIn.cls ∈ pTb := pwi (tk1 (List.mem_of_getElem? (i := 15) rfl)) rfl
theorem pl_X10_openIn : plain yX10_openIn 1 := ⟨by decide +kernel, by decide +kernel, by decide +kernel⟩
theorem w_X10_m454 : Cond.methodLink RX10 454 yX10_change ∈ pTb := pwi (tk8 (List.mem_of_getElem? (i := 121) rfl)) rfl
theorem w_X10_change_im : Cond.instanceMethod yX10_change ∈ pTb := pwi (tk8 (List.mem_of_getElem? (i := 123) rfl)) rfl
theorem w_X10_change_se : Cond.selects yX10_change.cls yX10_change yX10_change ∈ pTb := pwi (tkp (q := lw_privs[99]) (List.getElem_mem _)) rfl
theorem w_X10_change_co : Cond.code yX10_change cX10_change 16 (some .int) ∈ pTb := pwi (tk8 (List.mem_of_getElem? (i := 124) rfl)) rfl
theorem w_X10_change_in : Cond.initialized yX10_change.cls ∈ pTb := pwi (tk1 (List.mem_of_getElem? (i := 15) rfl)) rfl
theorem pl_X10_change : plain yX10_change 1 := ⟨by decide +kernel, by decide +kernel, by decide +kernel⟩
theorem w_X10_m457 : Cond.methodLink RX10 457 yX10_wayTo ∈ pTb := pwi (tk8 (List.mem_of_getElem? (i := 145) rfl)) rfl
theorem w_X10_wayTo_im : Cond.instanceMethod yX10_wayTo ∈ pTb := pwi (tk8 (List.mem_of_getElem? (i := 147) rfl)) rfl
theorem w_X10_wayTo_se : Cond.selects yX10_wayTo.cls yX10_wayTo yX10_wayTo ∈ pTb := pwi (tkp (q := lw_privs[102]) (List.getElem_mem _)) rfl
theorem w_X10_wayTo_co : Cond.code yX10_wayTo cX10_wayTo 5 (some .int) ∈ pTb := pwi (tk8 (List.mem_of_getElem? (i := 148) rfl)) rfl
theorem w_X10_wayTo_in : Cond.initialized yX10_wayTo.cls ∈ pTb := pwi (tk1 (List.mem_of_getElem? (i := 15) rfl)) rfl
theorem pl_X10_wayTo : plain yX10_wayTo 2 := ⟨by decide +kernel, by decide +kernel, by decide +kernel⟩
theorem w_X10_m460 : Cond.methodLink RX10 460 yX10_loose ∈ pTb := pwi (tk8 (List.mem_of_getElem? (i := 149) rfl)) rfl
theorem w_X10_loose_im : Cond.instanceMethod yX10_loose ∈ pTb := pwi (tk8 (List.mem_of_getElem? (i := 151) rfl)) rfl
theorem w_X10_loose_se : Cond.selects yX10_loose.cls yX10_loose yX10_loose ∈ pTb := pwi (tkp (q := lw_privs[103]) (List.getElem_mem _)) rfl
theorem w_X10_loose_co : Cond.code yX10_loose cX10_loose 2 (some .int) ∈ pTb := pwi (tk8 (List.mem_of_getElem? (i := 152) rfl)) rfl
theorem w_X10_loose_in : Cond.initialized yX10_loose.cls ∈ pTb := pwi (tk1 (List.mem_of_getElem? (i := 15) rfl)) rfl
theorem pl_X10_loose : plain yX10_loose 1 := ⟨by decide +kernel, by decide +kernel, by decide +kernel⟩
theorem w_X10_f463 : Cond.fieldLink RX10 463 (TX10 62).1 (TX10 62).2.1 (TX10 62).2.2.1 ∈ pTb := pwi (tk6 (List.mem_of_getElem? (i := 149) rfl)) rfl
theorem w_X10_m466 : Cond.methodLink RX10 466 yX10_costs ∈ pTb := pwi (tk8 (List.mem_of_getElem? (i := 141) rfl)) rfl
theorem w_X10_costs_im : Cond.instanceMethod yX10_costs ∈ pTb := pwi (tk8 (List.mem_of_getElem? (i := 143) rfl)) rfl
theorem w_X10_costs_se : Cond.selects yX10_costs.cls yX10_costs yX10_costs ∈ pTb := pwi (tkp (q := lw_privs[101]) (List.getElem_mem _)) rfl
theorem w_X10_costs_co : Cond.code yX10_costs cX10_costs 7 (some .int) ∈ pTb := pwi (tk8 (List.mem_of_getElem? (i := 144) rfl)) rfl
theorem w_X10_costs_in : Cond.initialized yX10_costs.cls ∈ pTb := pwi (tk1 (List.mem_of_getElem? (i := 15) rfl)) rfl
theorem pl_X10_costs : plain yX10_costs 3 := ⟨by decide +kernel, by decide +kernel, by decide +kernel⟩
theorem w_X10_f469 : Cond.fieldLink RX10 469 (TX10 63).1 (TX10 63).2.1 (TX10 63).2.2.1 ∈ pTb := pwi (tk6 (List.mem_of_getElem? (i := 150) rfl)) rfl
theorem w_X10_f472 : Cond.fieldLink RX10 472 (TX10 64).1 (TX10 64).2.1 (TX10 64).2.2.1 ∈ pTb := pwi (tk6 (List.mem_of_getElem? (i := 151) rfl)) rfl
theorem w_X10_m475 : Cond.methodLink RX10 475 yX10_findSeats ∈ pTb := pwi (tk8 (List.mem_of_getElem? (i := 137) rfl)) rfl
theorem w_X10_findSeats_im : Cond.instanceMethod yX10_findSeats ∈ pTb := pwi (tk8 (List.mem_of_getElem? (i := 139) rfl)) rfl
theorem w_X10_findSeats_se : Cond.selects yX10_findSeats.cls yX10_findSeats yX10_findSeats ∈ pTb := pwi (tkp (q := lw_privs[100]) (List.getElem_mem _)) rfl
theorem w_X10_findSeats_co : Cond.code yX10_findSeats cX10_findSeats 6 none ∈ pTb := pwi (tk8 (List.mem_of_getElem? (i := 140) rfl)) rfl
theorem w_X10_findSeats_in : Cond.initialized yX10_findSeats.cls ∈ pTb := pwi (tk1 (List.mem_of_getElem? (i := 15) rfl)) rfl
theorem pl_X10_findSeats : plain yX10_findSeats 2 := ⟨by decide +kernel, by decide +kernel, by decide +kernel⟩
theorem w_X10_f478 : Cond.fieldLink RX10 478 (TX10 65).1 (TX10 65).2.1 (TX10 65).2.2.1 ∈ pTb := pwi (tk6 (List.mem_of_getElem? (i := 152) rfl)) rfl
theorem w_X10_f481 : Cond.fieldLink RX10 481 (TX10 69).1 (TX10 69).2.1 (TX10 69).2.2.1 ∈ pTb := pwi (tk6 (List.mem_of_getElem? (i := 156) rfl)) rfl
theorem w_X10_f484 : Cond.fieldLink RX10 484 (TX10 70).1 (TX10 70).2.1 (TX10 70).2.2.1 ∈ pTb := pwi (tk6 (List.mem_of_getElem? (i := 157) rfl)) rfl
theorem w_X10_m487 : Cond.methodLink RX10 487 yX10_pushed ∈ pTb := pwi (tk8 (List.mem_of_getElem? (i := 165) rfl)) rfl
theorem w_X10_pushed_st : Cond.static yX10_pushed ∈ pTb := pwi (tk8 (List.mem_of_getElem? (i := 166) rfl)) rfl
theorem w_X10_pushed_co : Cond.code yX10_pushed cX10_pushed 4 (some .int) ∈ pTb := pwi (tk8 (List.mem_of_getElem? (i := 167) rfl)) rfl
theorem w_X10_pushed_in : Cond.initialized yX10_pushed.cls ∈ pTb := pwi (tk1 (List.mem_of_getElem? (i := 15) rfl)) rfl
theorem pl_X10_pushed : plain yX10_pushed 3 := ⟨by decide +kernel, by decide +kernel, by decide +kernel⟩
theorem w_X10_m490 : Cond.methodLink RX10 490 yX10_goes ∈ pTb := pwi (tk8 (List.mem_of_getElem? (i := 161) rfl)) rfl
theorem w_X10_goes_im : Cond.instanceMethod yX10_goes ∈ pTb := pwi (tk8 (List.mem_of_getElem? (i := 163) rfl)) rfl
theorem w_X10_goes_se : Cond.selects yX10_goes.cls yX10_goes yX10_goes ∈ pTb := pwi (tkp (q := lw_privs[104]) (List.getElem_mem _)) rfl
theorem w_X10_goes_co : Cond.code yX10_goes cX10_goes 4 none ∈ pTb := pwi (tk8 (List.mem_of_getElem? (i := 164) rfl)) rfl
theorem w_X10_goes_in : Cond.initialized yX10_goes.cls ∈ pTb := pwi (tk1 (List.mem_of_getElem? (i := 15) rfl)) rfl
theorem pl_X10_goes : plain yX10_goes 1 := ⟨by decide +kernel, by decide +kernel, by decide +kernel⟩
theorem w_X10_f493 : Cond.fieldLink RX10 493 (TX10 71).1 (TX10 71).2.1 (TX10 71).2.2.1 ∈ pTb := pwi (tk6 (List.mem_of_getElem? (i := 158) rfl)) rfl
theorem w_X10_f496 : Cond.fieldLink RX10 496 (TX10 72).1 (TX10 72).2.1 (TX10 72).2.2.1 ∈ pTb := pwi (tk6 (List.mem_of_getElem? (i := 159) rfl)) rfl
theorem w_X10_m499 : Cond.methodLink RX10 499 yX10_joinsOn ∈ pTb := pwi (tk8 (List.mem_of_getElem? (i := 180) rfl)) rfl
theorem w_X10_joinsOn_im : Cond.instanceMethod yX10_joinsOn ∈ pTb := pwi (tk8 (List.mem_of_getElem? (i := 182) rfl)) rfl
theorem w_X10_joinsOn_se : Cond.selects yX10_joinsOn.cls yX10_joinsOn yX10_joinsOn ∈ pTb := pwi (tkp (q := lw_privs[105]) (List.getElem_mem _)) rfl
theorem w_X10_joinsOn_co : Cond.code yX10_joinsOn cX10_joinsOn 3 (some .int) ∈ pTb := pwi (tk8 (List.mem_of_getElem? (i := 183) rfl)) rfl
theorem w_X10_joinsOn_in : Cond.initialized yX10_joinsOn.cls ∈ pTb := pwi (tk1 (List.mem_of_getElem? (i := 15) rfl)) rfl
theorem pl_X10_joinsOn : plain yX10_joinsOn 0 := ⟨by decide +kernel, by decide +kernel, by decide +kernel⟩
theorem w_X10_m502 : Cond.methodLink RX10 502 yX10_cobblesOfTwo ∈ pTb := pwi (tk8 (List.mem_of_getElem? (i := 184) rfl)) rfl
theorem w_X10_cobblesOfTwo_im : Cond.instanceMethod yX10_cobblesOfTwo ∈ pTb := pwi (tk8 (List.mem_of_getElem? (i := 186) rfl)) rfl
theorem w_X10_cobblesOfTwo_se : Cond.selects yX10_cobblesOfTwo.cls yX10_cobblesOfTwo yX10_cobblesOfTwo ∈ pTb := pwi (tkp (q := lw_privs[106]) (List.getElem_mem _)) rfl
theorem w_X10_cobblesOfTwo_co : Cond.code yX10_cobblesOfTwo cX10_cobblesOfTwo 3 (some .int) ∈ pTb := pwi (tk8 (List.mem_of_getElem? (i := 187) rfl)) rfl
theorem w_X10_cobblesOfTwo_in : Cond.initialized yX10_cobblesOfTwo.cls ∈ pTb := pwi (tk1 (List.mem_of_getElem? (i := 15) rfl)) rfl
theorem pl_X10_cobblesOfTwo : plain yX10_cobblesOfTwo 0 := ⟨by decide +kernel, by decide +kernel, by decide +kernel⟩
theorem w_X10_m505 : Cond.methodLink RX10 505 yX10_openJoins ∈ pTb := pwi (tk8 (List.mem_of_getElem? (i := 188) rfl)) rfl
theorem w_X10_openJoins_im : Cond.instanceMethod yX10_openJoins ∈ pTb := pwi (tk8 (List.mem_of_getElem? (i := 190) rfl)) rfl
theorem w_X10_openJoins_se : Cond.selects yX10_openJoins.cls yX10_openJoins yX10_openJoins ∈ pTb := pwi (tkp (q := lw_privs[107]) (List.getElem_mem _)) rfl
theorem w_X10_openJoins_co : Cond.code yX10_openJoins cX10_openJoins 3 (some .int) ∈ pTb := pwi (tk8 (List.mem_of_getElem? (i := 191) rfl)) rfl
theorem w_X10_openJoins_in : Cond.initialized yX10_openJoins.cls ∈ pTb := pwi (tk1 (List.mem_of_getElem? (i := 15) rfl)) rfl
theorem pl_X10_openJoins : plain yX10_openJoins 0 := ⟨by decide +kernel, by decide +kernel, by decide +kernel⟩
theorem w_X10_m508 : Cond.methodLink RX10 508 yX10_cutsTold ∈ pTb := pwi (tk8 (List.mem_of_getElem? (i := 192) rfl)) rfl
theorem w_X10_cutsTold_im : Cond.instanceMethod yX10_cutsTold ∈ pTb := pwi (tk8 (List.mem_of_getElem? (i := 194) rfl)) rfl
theorem w_X10_cutsTold_se : Cond.selects yX10_cutsTold.cls yX10_cutsTold yX10_cutsTold ∈ pTb := pwi (tkp (q := lw_privs[108]) (List.getElem_mem _)) rfl
theorem w_X10_cutsTold_co : Cond.code yX10_cutsTold cX10_cutsTold 3 (some .int) ∈ pTb := pwi (tk8 (List.mem_of_getElem? (i := 195) rfl)) rfl
theorem w_X10_cutsTold_in : Cond.initialized yX10_cutsTold.cls ∈ pTb := pwi (tk1 (List.mem_of_getElem? (i := 15) rfl)) rfl
theorem pl_X10_cutsTold : plain yX10_cutsTold 0 := ⟨by decide +kernel, by decide +kernel, by decide +kernel⟩
theorem w_X8_ins : Cond.instantiable RX8 9 ∈ pTb := pwi (tk1 (List.mem_of_getElem? (i := 226) rfl)) rfl
theorem w_X8_ini : Cond.initialized RX8 ∈ pTb := pwi (tk1 (List.mem_of_getElem? (i := 7) rfl)) rfl
theorem w_X8_init_im : Cond.instanceMethod yX8_init ∈ pTb := pwi (tk1 (List.mem_of_getElem? (i := 228) rfl)) rfl
theorem w_X8_init_co : Cond.code yX8_init cX8_init 1 none ∈ pTb := pwi (tk1 (List.mem_of_getElem? (i := 229) rfl)) rfl
theorem w_X8_init_in : Cond.initialized yX8_init.cls ∈ pTb := pwi (tk1 (List.mem_of_getElem? (i := 7) rfl)) rfl
theorem pl_X8_init : plain yX8_init 0 := ⟨by decide +kernel, by decide +kernel, by decide +kernel⟩
theorem w_X8_firstThatHolds_im : Cond.instanceMethod yX8_firstThatHolds ∈ pTb := pwi (tk4 (List.mem_of_getElem? (i := 84) rfl)) rfl
theorem w_X8_firstThatHolds_se : Cond.selects yX8_firstThatHolds.cls yX8_firstThatHolds yX8_firstThatHolds ∈ pTb := pwi (tk4 (List.mem_of_getElem? (i := 85) rfl)) rfl
theorem w_X8_firstThatHolds_co : Cond.code yX8_firstThatHolds cX8_firstThatHolds 4 (some .int) ∈ pTb := pwi (tk4 (List.mem_of_getElem? (i := 86) rfl)) rfl
theorem w_X8_firstThatHolds_in : Cond.initialized yX8_firstThatHolds.cls ∈ pTb := pwi (tk1 (List.mem_of_getElem? (i := 7) rfl)) rfl
theorem pl_X8_firstThatHolds : plain yX8_firstThatHolds 2 := ⟨by decide +kernel, by decide +kernel, by decide +kernel⟩
theorem w_X8_sumOfDoubt_im : Cond.instanceMethod yX8_sumOfDoubt ∈ pTb := pwi (tk5 (List.mem_of_getElem? (i := 148) rfl)) rfl
theorem w_X8_sumOfDoubt_se : Cond.selects yX8_sumOfDoubt.cls yX8_sumOfDoubt yX8_sumOfDoubt ∈ pTb := pwi (tk5 (List.mem_of_getElem? (i := 149) rfl)) rfl
theorem w_X8_sumOfDoubt_co : Cond.code yX8_sumOfDoubt cX8_sumOfDoubt 4 (some .int) ∈ pTb := pwi (tk5 (List.mem_of_getElem? (i := 150) rfl)) rfl
theorem w_X8_sumOfDoubt_in : Cond.initialized yX8_sumOfDoubt.cls ∈ pTb := pwi (tk1 (List.mem_of_getElem? (i := 7) rfl)) rfl
theorem pl_X8_sumOfDoubt : plain yX8_sumOfDoubt 1 := ⟨by decide +kernel, by decide +kernel, by decide +kernel⟩
theorem w_X8_clear_im : Cond.instanceMethod yX8_clear ∈ pTb := pwi (tk3 (List.mem_of_getElem? (i := 160) rfl)) rfl
theorem w_X8_clear_se : Cond.selects yX8_clear.cls yX8_clear yX8_clear ∈ pTb := pwi (tk3 (List.mem_of_getElem? (i := 161) rfl)) rfl
theorem w_X8_clear_co : Cond.code yX8_clear cX8_clear 1 none ∈ pTb := pwi (tk3 (List.mem_of_getElem? (i := 162) rfl)) rfl
theorem w_X8_clear_in : Cond.initialized yX8_clear.cls ∈ pTb := pwi (tk1 (List.mem_of_getElem? (i := 7) rfl)) rfl
theorem pl_X8_clear : plain yX8_clear 0 := ⟨by decide +kernel, by decide +kernel, by decide +kernel⟩
theorem w_X8_endLine_im : Cond.instanceMethod yX8_endLine ∈ pTb := pwi (tk4 (List.mem_of_getElem? (i := 39) rfl)) rfl
theorem w_X8_endLine_se : Cond.selects yX8_endLine.cls yX8_endLine yX8_endLine ∈ pTb := pwi (tk4 (List.mem_of_getElem? (i := 40) rfl)) rfl
theorem w_X8_endLine_co : Cond.code yX8_endLine cX8_endLine 3 none ∈ pTb := pwi (tk4 (List.mem_of_getElem? (i := 41) rfl)) rfl
theorem w_X8_endLine_in : Cond.initialized yX8_endLine.cls ∈ pTb := pwi (tk1 (List.mem_of_getElem? (i := 7) rfl)) rfl
theorem pl_X8_endLine : plain yX8_endLine 2 := ⟨by decide +kernel, by decide +kernel, by decide +kernel⟩
theorem w_X8_write_im : Cond.instanceMethod yX8_write ∈ pTb := pwi (tk4 (List.mem_of_getElem? (i := 32) rfl)) rfl
theorem w_X8_write_se : Cond.selects yX8_write.cls yX8_write yX8_write ∈ pTb := pwi (tk4 (List.mem_of_getElem? (i := 33) rfl)) rfl
theorem w_X8_write_co : Cond.code yX8_write cX8_write 3 none ∈ pTb := pwi (tk4 (List.mem_of_getElem? (i := 34) rfl)) rfl
theorem w_X8_write_in : Cond.initialized yX8_write.cls ∈ pTb := pwi (tk1 (List.mem_of_getElem? (i := 7) rfl)) rfl
theorem pl_X8_write : plain yX8_write 2 := ⟨by decide +kernel, by decide +kernel, by decide +kernel⟩
theorem w_X8_m5 : Cond.methodLink RX8 5 objectInit ∈ pTb := pwi (tk1 (List.mem_of_getElem? (i := 230) rfl)) rfl
theorem w_X8_f13 : Cond.fieldLink RX8 13 (TX8 3).1 (TX8 3).2.1 (TX8 3).2.2.1 ∈ pTb := pwi (tk1 (List.mem_of_getElem? (i := 238) rfl)) rfl
theorem w_X8_f17 : Cond.fieldLink RX8 17 (TX8 4).1 (TX8 4).2.1 (TX8 4).2.2.1 ∈ pTb := pwi (tk1 (List.mem_of_getElem? (i := 239) rfl)) rfl
theorem w_X8_f20 : Cond.fieldLink RX8 20 (TX8 5).1 (TX8 5).2.1 (TX8 5).2.2.1 ∈ pTb := pwi (tk2 (List.mem_of_getElem? (i := 0) rfl)) rfl
theorem w_X8_f23 : Cond.fieldLink RX8 23 (TX8 6).1 (TX8 6).2.1 (TX8 6).2.2.1 ∈ pTb := pwi (tk2 (List.mem_of_getElem? (i := 1) rfl)) rfl
theorem w_X8_f26 : Cond.fieldLink RX8 26 (TX8 7).1 (TX8 7).2.1 (TX8 7).2.2.1 ∈ pTb := pwi (tk2 (List.mem_of_getElem? (i := 2) rfl)) rfl
theorem w_X8_f29 : Cond.fieldLink RX8 29 (TX8 8).1 (TX8 8).2.1 (TX8 8).2.2.1 ∈ pTb := pwi (tk2 (List.mem_of_getElem? (i := 3) rfl)) rfl
theorem w_X8_f32 : Cond.fieldLink RX8 32 (TX8 0).1 (TX8 0).2.1 (TX8 0).2.2.1 ∈ pTb := pwi (tk1 (List.mem_of_getElem? (i := 231) rfl)) rfl
theorem w_X8_f36 : Cond.fieldLink RX8 36 (TX8 1).1 (TX8 1).2.1 (TX8 1).2.2.1 ∈ pTb := pwi (tk1 (List.mem_of_getElem? (i := 234) rfl)) rfl
theorem w_X8_f39 : Cond.fieldLink RX8 39 (TX8 2).1 (TX8 2).2.1 (TX8 2).2.2.1 ∈ pTb := pwi (tk1 (List.mem_of_getElem? (i := 237) rfl)) rfl
theorem w_X8_m42 : Cond.methodLink RX8 42 yX8_isNeeded ∈ pTb := pwi (tk4 (List.mem_of_getElem? (i := 87) rfl)) rfl
theorem w_X8_isNeeded_im : Cond.instanceMethod yX8_isNeeded ∈ pTb := pwi (tk4 (List.mem_of_getElem? (i := 89) rfl)) rfl
theorem w_X8_isNeeded_se : Cond.selects yX8_isNeeded.cls yX8_isNeeded yX8_isNeeded ∈ pTb := pwi (tkp (q := lw_privs[18]) (List.getElem_mem _)) rfl
theorem w_X8_isNeeded_co : Cond.code yX8_isNeeded cX8_isNeeded 3 (some .boolean) ∈ pTb := pwi (tk4 (List.mem_of_getElem? (i := 90) rfl)) rfl
theorem w_X8_isNeeded_in : Cond.initialized yX8_isNeeded.cls ∈ pTb := pwi (tk1 (List.mem_of_getElem? (i := 7) rfl)) rfl
theorem pl_X8_isNeeded : plain yX8_isNeeded 2 := ⟨by decide +kernel, by decide +kernel, by decide +kernel⟩
theorem w_X8_m46 : Cond.methodLink RX8 46 yX8_reckon ∈ pTb := pwi (tk4 (List.mem_of_getElem? (i := 91) rfl)) rfl
theorem w_X8_reckon_im : Cond.instanceMethod yX8_reckon ∈ pTb := pwi (tk4 (List.mem_of_getElem? (i := 93) rfl)) rfl
theorem w_X8_reckon_se : Cond.selects yX8_reckon.cls yX8_reckon yX8_reckon ∈ pTb := pwi (tkp (q := lw_privs[19]) (List.getElem_mem _)) rfl
theorem w_X8_reckon_co : Cond.code yX8_reckon cX8_reckon 7 (some .int) ∈ pTb := pwi (tk4 (List.mem_of_getElem? (i := 94) rfl)) rfl
theorem w_X8_reckon_in : Cond.initialized yX8_reckon.cls ∈ pTb := pwi (tk1 (List.mem_of_getElem? (i := 7) rfl)) rfl
theorem pl_X8_reckon : plain yX8_reckon 2 := ⟨by decide +kernel, by decide +kernel, by decide +kernel⟩
theorem w_X8_m50 : Cond.methodLink RX8 50 yX8_turnRound ∈ pTb := pwi (tk4 (List.mem_of_getElem? (i := 95) rfl)) rfl
theorem w_X8_turnRound_im : Cond.instanceMethod yX8_turnRound ∈ pTb := pwi (tk4 (List.mem_of_getElem? (i := 97) rfl)) rfl
theorem w_X8_turnRound_se : Cond.selects yX8_turnRound.cls yX8_turnRound yX8_turnRound ∈ pTb := pwi (tkp (q := lw_privs[20]) (List.getElem_mem _)) rfl
theorem w_X8_turnRound_co : Cond.code yX8_turnRound cX8_turnRound 2 none ∈ pTb := pwi (tk4 (List.mem_of_getElem? (i := 98) rfl)) rfl
theorem w_X8_turnRound_in : Cond.initialized yX8_turnRound.cls ∈ pTb := pwi (tk1 (List.mem_of_getElem? (i := 7) rfl)) rfl
theorem pl_X8_turnRound : plain yX8_turnRound 1 := ⟨by decide +kernel, by decide +kernel, by decide +kernel⟩
theorem w_X8_m54 : Cond.methodLink RX8 54 yX8_plainWorth ∈ pTb := pwi (tk4 (List.mem_of_getElem? (i := 99) rfl)) rfl
theorem w_X8_plainWorth_im : Cond.instanceMethod yX8_plainWorth ∈ pTb := pwi (tk4 (List.mem_of_getElem? (i := 101) rfl)) rfl
theorem w_X8_plainWorth_se : Cond.selects yX8_plainWorth.cls yX8_plainWorth yX8_plainWorth ∈ pTb := pwi (tkp (q := lw_privs[21]) (List.getElem_mem _)) rfl
theorem w_X8_plainWorth_co : Cond.code yX8_plainWorth cX8_plainWorth 4 (some .int) ∈ pTb := pwi (tk4 (List.mem_of_getElem? (i := 102) rfl)) rfl
theorem w_X8_plainWorth_in : Cond.initialized yX8_plainWorth.cls ∈ pTb := pwi (tk1 (List.mem_of_getElem? (i := 7) rfl)) rfl
theorem pl_X8_plainWorth : plain yX8_plainWorth 3 := ⟨by decide +kernel, by decide +kernel, by decide +kernel⟩
theorem w_X8_m58 : Cond.methodLink RX8 58 yX8_put ∈ pTb := pwi (tk4 (List.mem_of_getElem? (i := 103) rfl)) rfl
theorem w_X8_put_im : Cond.instanceMethod yX8_put ∈ pTb := pwi (tk4 (List.mem_of_getElem? (i := 105) rfl)) rfl
theorem w_X8_put_se : Cond.selects yX8_put.cls yX8_put yX8_put ∈ pTb := pwi (tkp (q := lw_privs[22]) (List.getElem_mem _)) rfl
theorem w_X8_put_co : Cond.code yX8_put cX8_put 3 (some .int) ∈ pTb := pwi (tk4 (List.mem_of_getElem? (i := 106) rfl)) rfl
theorem w_X8_put_in : Cond.initialized yX8_put.cls ∈ pTb := pwi (tk1 (List.mem_of_getElem? (i := 7) rfl)) rfl
theorem pl_X8_put : plain yX8_put 2 := ⟨by decide +kernel, by decide +kernel, by decide +kernel⟩
theorem w_X8_m62 : Cond.methodLink RX8 62 yX8_putTogether ∈ pTb := pwi (tk4 (List.mem_of_getElem? (i := 107) rfl)) rfl
theorem w_X8_putTogether_im : Cond.instanceMethod yX8_putTogether ∈ pTb := pwi (tk4 (List.mem_of_getElem? (i := 109) rfl)) rfl
theorem w_X8_putTogether_se : Cond.selects yX8_putTogether.cls yX8_putTogether yX8_putTogether ∈ pTb := pwi (tkp (q := lw_privs[23]) (List.getElem_mem _)) rfl
theorem w_X8_putTogether_co : Cond.code yX8_putTogether cX8_putTogether 3 (some .int) ∈ pTb := pwi (tk4 (List.mem_of_getElem? (i := 110) rfl)) rfl
theorem w_X8_putTogether_in : Cond.initialized yX8_putTogether.cls ∈ pTb := pwi (tk1 (List.mem_of_getElem? (i := 7) rfl)) rfl
theorem pl_X8_putTogether : plain yX8_putTogether 2 := ⟨by decide +kernel, by decide +kernel, by decide +kernel⟩
theorem w_X8_m69 : Cond.methodLink RX8 69 yX8_together ∈ pTb := pwi (tk4 (List.mem_of_getElem? (i := 111) rfl)) rfl
theorem w_X8_together_st : Cond.static yX8_together ∈ pTb := pwi (tk4 (List.mem_of_getElem? (i := 112) rfl)) rfl
theorem w_X8_together_co : Cond.code yX8_together cX8_together 3 (some .int) ∈ pTb := pwi (tk4 (List.mem_of_getElem? (i := 113) rfl)) rfl
theorem w_X8_together_in : Cond.initialized yX8_together.cls ∈ pTb := pwi (tk1 (List.mem_of_getElem? (i := 7) rfl)) rfl
theorem pl_X8_together : plain yX8_together 3 := ⟨by decide +kernel, by decide +kernel, by decide +kernel⟩
theorem w_J0_length_8abf5_im : Cond.instanceMethod yJ0_length_8abf5 ∈ pTb := pwi (tk2 (List.mem_of_getElem? (i := 56) rfl)) rfl
theorem w_J0_length_8abf5_se : Cond.selects yJ0_length_8abf5.cls yJ0_length_8abf5 yJ0_length_8abf5 ∈ pTb := pwi (tk2 (List.mem_of_getElem? (i := 57) rfl)) rfl
theorem w_J0_length_8abf5_co : Cond.code yJ0_length_8abf5 cJ0_length_8abf5 1 (some .int) ∈ pTb := pwi (tk2 (List.mem_of_getElem? (i := 58) rfl)) rfl
theorem w_J0_length_8abf5_in : Cond.initialized yJ0_length_8abf5.cls ∈ pTb := pwi (tk1 (List.mem_of_getElem? (i := 9) rfl)) rfl
theorem pl_J0_length_8abf5 : plain yJ0_length_8abf5 0 := ⟨by decide +kernel, by decide +kernel, by decide +kernel⟩
theorem w_J0_charAt_5068e_im : Cond.instanceMethod yJ0_charAt_5068e ∈ pTb := pwi (tk2 (List.mem_of_getElem? (i := 66) rfl)) rfl
theorem w_J0_charAt_5068e_se : Cond.selects yJ0_charAt_5068e.cls yJ0_charAt_5068e yJ0_charAt_5068e ∈ pTb := pwi (tk2 (List.mem_of_getElem? (i := 67) rfl)) rfl
theorem w_J0_charAt_5068e_co : Cond.code yJ0_charAt_5068e cJ0_charAt_5068e 2 (some .char) ∈ pTb := pwi (tk2 (List.mem_of_getElem? (i := 68) rfl)) rfl
theorem w_J0_charAt_5068e_in : Cond.initialized yJ0_charAt_5068e.cls ∈ pTb := pwi (tk1 (List.mem_of_getElem? (i := 9) rfl)) rfl
theorem pl_J0_charAt_5068e : plain yJ0_charAt_5068e 1 := ⟨by decide +kernel, by decide +kernel, by decide +kernel⟩
theorem w_J0_indexOf_0f7a4_im : Cond.instanceMethod yJ0_indexOf_0f7a4 ∈ pTb := pwi (tk3 (List.mem_of_getElem? (i := 185) rfl)) rfl
theorem w_J0_indexOf_0f7a4_se : Cond.selects yJ0_indexOf_0f7a4.cls yJ0_indexOf_0f7a4 yJ0_indexOf_0f7a4 ∈ pTb := pwi (tk3 (List.mem_of_getElem? (i := 186) rfl)) rfl
theorem w_J0_indexOf_0f7a4_co : Cond.code yJ0_indexOf_0f7a4 cJ0_indexOf_0f7a4 2 (some .int) ∈ pTb := pwi (tk3 (List.mem_of_getElem? (i := 187) rfl)) rfl
theorem w_J0_indexOf_0f7a4_in : Cond.initialized yJ0_indexOf_0f7a4.cls ∈ pTb := pwi (tk1 (List.mem_of_getElem? (i := 9) rfl)) rfl
theorem pl_J0_indexOf_0f7a4 : plain yJ0_indexOf_0f7a4 1 := ⟨by decide +kernel, by decide +kernel, by decide +kernel⟩
theorem w_J0_f9 : Cond.fieldLink RJ0 9 "java/lang/String" "value" "[B" ∈ pTb := pwi (tk8 (List.mem_of_getElem? (i := 212) rfl)) rfl
theorem w_J0_m335 : Cond.methodLink RJ0 335 yJ0_coder_7d493 ∈ pTb := pwi (tk2 (List.mem_of_getElem? (i := 59) rfl)) rfl
theorem w_J0_coder_7d493_im : Cond.instanceMethod yJ0_coder_7d493 ∈ pTb := pwi (tk2 (List.mem_of_getElem? (i := 60) rfl)) rfl
theorem w_J0_coder_7d493_se : Cond.selects yJ0_coder_7d493.cls yJ0_coder_7d493 yJ0_coder_7d493 ∈ pTb := pwi (tk2 (List.mem_of_getElem? (i := 61) rfl)) rfl
theorem w_J0_coder_7d493_co : Cond.code yJ0_coder_7d493 cJ0_coder_7d493 1 (some .byte) ∈ pTb := pwi (tk2 (List.mem_of_getElem? (i := 62) rfl)) rfl
theorem w_J0_coder_7d493_in : Cond.initialized yJ0_coder_7d493.cls ∈ pTb := pwi (tk1 (List.mem_of_getElem? (i := 9) rfl)) rfl
theorem pl_J0_coder_7d493 : plain yJ0_coder_7d493 0 := ⟨by decide +kernel, by decide +kernel, by decide +kernel⟩
theorem w_J0_f38 : Cond.fieldLink RJ0 38 "java/lang/String" "COMPACT_STRINGS" "Z" ∈ pTb := pwi (tk2 (List.mem_of_getElem? (i := 63) rfl)) rfl
theorem w_J0_f15 : Cond.fieldLink RJ0 15 "java/lang/String" "coder" "B" ∈ pTb := pwi (tk8 (List.mem_of_getElem? (i := 213) rfl)) rfl
theorem w_J0_m492 : Cond.methodLink RJ0 492 yJ0_isLatin1_aae02 ∈ pTb := pwi (tk2 (List.mem_of_getElem? (i := 69) rfl)) rfl
theorem w_J0_isLatin1_aae02_im : Cond.instanceMethod yJ0_isLatin1_aae02 ∈ pTb := pwi (tk2 (List.mem_of_getElem? (i := 70) rfl)) rfl
theorem w_J0_isLatin1_aae02_se : Cond.selects yJ0_isLatin1_aae02.cls yJ0_isLatin1_aae02 yJ0_isLatin1_aae02 ∈ pTb := pwi (tk2 (List.mem_of_getElem? (i := 71) rfl)) rfl
theorem w_J0_isLatin1_aae02_co : Cond.code yJ0_isLatin1_aae02 cJ0_isLatin1_aae02 1 (some .boolean) ∈ pTb := pwi (tk2 (List.mem_of_getElem? (i := 72) rfl)) rfl
theorem w_J0_isLatin1_aae02_in : Cond.initialized yJ0_isLatin1_aae02.cls ∈ pTb := pwi (tk1 (List.mem_of_getElem? (i := 9) rfl)) rfl
theorem pl_J0_isLatin1_aae02 : plain yJ0_isLatin1_aae02 0 := ⟨by decide +kernel, by decide +kernel, by decide +kernel⟩
theorem w_J0_m495 : Cond.methodLink RJ0 495 yJ1_charAt_3b067 ∈ pTb := pwi (tk2 (List.mem_of_getElem? (i := 73) rfl)) rfl
theorem w_J0_m633 : Cond.methodLink RJ0 633 yJ0_indexOf_7cf53 ∈ pTb := pwi (tk3 (List.mem_of_getElem? (i := 188) rfl)) rfl
theorem w_J0_indexOf_7cf53_im : Cond.instanceMethod yJ0_indexOf_7cf53 ∈ pTb := pwi (tk3 (List.mem_of_getElem? (i := 189) rfl)) rfl
theorem w_J0_indexOf_7cf53_se : Cond.selects yJ0_indexOf_7cf53.cls yJ0_indexOf_7cf53 yJ0_indexOf_7cf53 ∈ pTb := pwi (tk3 (List.mem_of_getElem? (i := 190) rfl)) rfl
theorem w_J0_indexOf_7cf53_co : Cond.code yJ0_indexOf_7cf53 cJ0_indexOf_7cf53 3 (some .int) ∈ pTb := pwi (tk3 (List.mem_of_getElem? (i := 191) rfl)) rfl
theorem w_J0_indexOf_7cf53_in : Cond.initialized yJ0_indexOf_7cf53.cls ∈ pTb := pwi (tk1 (List.mem_of_getElem? (i := 9) rfl)) rfl
theorem pl_J0_indexOf_7cf53 : plain yJ0_indexOf_7cf53 2 := ⟨by decide +kernel, by decide +kernel, by decide +kernel⟩
theorem w_J0_m505 : Cond.methodLink RJ0 505 yJ0_length_8abf5 ∈ pTb := pwi (tk3 (List.mem_of_getElem? (i := 192) rfl)) rfl
theorem w_J0_m637 : Cond.methodLink RJ0 637 yJ1_indexOf_4cfef ∈ pTb := pwi (tk3 (List.mem_of_getElem? (i := 193) rfl)) rfl
theorem w_J0_f1053 : Cond.fieldLink RJ0 1053 "jdk/internal/util/Preconditions" "SIOOBE_FORMATTER" "Ljava/util/function/BiFunction;" ∈ pTb := pwi (tk2 (List.mem_of_getElem? (i := 79) rfl)) rfl
theorem w_J0_m1059 : Cond.methodLink RJ0 1059 yJ3_checkIndex_8e157 ∈ pTb := pwi (tk2 (List.mem_of_getElem? (i := 81) rfl)) rfl
theorem w_J0_checkIndex_df160_st : Cond.static yJ0_checkIndex_df160 ∈ pTb := pwi (tk2 (List.mem_of_getElem? (i := 77) rfl)) rfl
theorem w_J0_checkIndex_df160_co : Cond.code yJ0_checkIndex_df160 cJ0_checkIndex_df160 2 none ∈ pTb := pwi (tk2 (List.mem_of_getElem? (i := 78) rfl)) rfl
theorem w_J0_checkIndex_df160_in : Cond.initialized yJ0_checkIndex_df160.cls ∈ pTb := pwi (tk1 (List.mem_of_getElem? (i := 9) rfl)) rfl
theorem pl_J0_checkIndex_df160 : plain yJ0_checkIndex_df160 2 := ⟨by decide +kernel, by decide +kernel, by decide +kernel⟩
theorem w_J1_charAt_3b067_st : Cond.static yJ1_charAt_3b067 ∈ pTb := pwi (tk2 (List.mem_of_getElem? (i := 74) rfl)) rfl
theorem w_J1_charAt_3b067_co : Cond.code yJ1_charAt_3b067 cJ1_charAt_3b067 2 (some .char) ∈ pTb := pwi (tk2 (List.mem_of_getElem? (i := 75) rfl)) rfl
theorem w_J1_charAt_3b067_in : Cond.initialized yJ1_charAt_3b067.cls ∈ pTb := pwi (tk1 (List.mem_of_getElem? (i := 10) rfl)) rfl
theorem pl_J1_charAt_3b067 : plain yJ1_charAt_3b067 2 := ⟨by decide +kernel, by decide +kernel, by decide +kernel⟩
theorem w_J1_indexOf_4cfef_st : Cond.static yJ1_indexOf_4cfef ∈ pTb := pwi (tk3 (List.mem_of_getElem? (i := 194) rfl)) rfl
theorem w_J1_indexOf_4cfef_co : Cond.code yJ1_indexOf_4cfef cJ1_indexOf_4cfef 4 (some .int) ∈ pTb := pwi (tk3 (List.mem_of_getElem? (i := 195) rfl)) rfl
theorem w_J1_indexOf_4cfef_in : Cond.initialized yJ1_indexOf_4cfef.cls ∈ pTb := pwi (tk1 (List.mem_of_getElem? (i := 10) rfl)) rfl
theorem pl_J1_indexOf_4cfef : plain yJ1_indexOf_4cfef 4 := ⟨by decide +kernel, by decide +kernel, by decide +kernel⟩
theorem w_J1_m9 : Cond.methodLink RJ1 9 yJ0_checkIndex_df160 ∈ pTb := pwi (tk2 (List.mem_of_getElem? (i := 76) rfl)) rfl
theorem w_J1_m88 : Cond.methodLink RJ1 88 yJ1_canEncode_9a6ad ∈ pTb := pwi (tk3 (List.mem_of_getElem? (i := 196) rfl)) rfl
theorem w_J1_canEncode_9a6ad_st : Cond.static yJ1_canEncode_9a6ad ∈ pTb := pwi (tk3 (List.mem_of_getElem? (i := 197) rfl)) rfl
theorem w_J1_canEncode_9a6ad_co : Cond.code yJ1_canEncode_9a6ad cJ1_canEncode_9a6ad 1 (some .boolean) ∈ pTb := pwi (tk3 (List.mem_of_getElem? (i := 198) rfl)) rfl
theorem w_J1_canEncode_9a6ad_in : Cond.initialized yJ1_canEncode_9a6ad.cls ∈ pTb := pwi (tk1 (List.mem_of_getElem? (i := 10) rfl)) rfl
theorem pl_J1_canEncode_9a6ad : plain yJ1_canEncode_9a6ad 1 := ⟨by decide +kernel, by decide +kernel, by decide +kernel⟩
theorem w_J1_m92 : Cond.methodLink RJ1 92 yJ9_max_7cf53 ∈ pTb := pwi (tk3 (List.mem_of_getElem? (i := 199) rfl)) rfl
theorem w_J1_m38 : Cond.methodLink RJ1 38 yJ9_min_7cf53 ∈ pTb := pwi (tk3 (List.mem_of_getElem? (i := 200) rfl)) rfl
theorem w_J1_m95 : Cond.methodLink RJ1 95 yJ1_indexOfChar_4cfef ∈ pTb := pwi (tk3 (List.mem_of_getElem? (i := 201) rfl)) rfl
theorem w_J1_indexOfChar_4cfef_st : Cond.static yJ1_indexOfChar_4cfef ∈ pTb := pwi (tk3 (List.mem_of_getElem? (i := 202) rfl)) rfl
theorem w_J1_indexOfChar_4cfef_co : Cond.code yJ1_indexOfChar_4cfef cJ1_indexOfChar_4cfef 6 (some .int) ∈ pTb := pwi (tk3 (List.mem_of_getElem? (i := 203) rfl)) rfl
theorem w_J1_indexOfChar_4cfef_in : Cond.initialized yJ1_indexOfChar_4cfef.cls ∈ pTb := pwi (tk1 (List.mem_of_getElem? (i := 10) rfl)) rfl
theorem pl_J1_indexOfChar_4cfef : plain yJ1_indexOfChar_4cfef 4 := ⟨by decide +kernel, by decide +kernel, by decide +kernel⟩
theorem w_J3_checkIndex_8e157_st : Cond.static yJ3_checkIndex_8e157 ∈ pTb := pwi (tk2 (List.mem_of_getElem? (i := 82) rfl)) rfl
theorem w_J3_checkIndex_8e157_co : Cond.code yJ3_checkIndex_8e157 cJ3_checkIndex_8e157 3 (some .int) ∈ pTb := pwi (tk2 (List.mem_of_getElem? (i := 83) rfl)) rfl
theorem w_J3_checkIndex_8e157_in : Cond.initialized yJ3_checkIndex_8e157.cls ∈ pTb := pwi (tk1 (List.mem_of_getElem? (i := 11) rfl)) rfl
theorem pl_J3_checkIndex_8e157 : plain yJ3_checkIndex_8e157 3 := ⟨by decide +kernel, by decide +kernel, by decide +kernel⟩
theorem w_oi1 : Cond.instanceMethod objectInit ∈ pTb := pwi (tk1 (List.mem_of_getElem? (i := 28) rfl)) rfl
theorem w_oi2 : Cond.code objectInit ⟨#[0xb1]⟩ 1 none ∈ pTb := pwi (tk1 (List.mem_of_getElem? (i := 29) rfl)) rfl
theorem w_ai : Cond.arrayClass .int ∈ pTb := pwi (tk1 (List.mem_of_getElem? (i := 97) rfl)) rfl
theorem w_al : Cond.arrayClass .long ∈ pTb := pwi (tk1 (List.mem_of_getElem? (i := 135) rfl)) rfl
theorem w_ac : Cond.arrayClass .char ∈ pTb := pwi (tk2 (List.mem_of_getElem? (i := 145) rfl)) rfl
theorem w_az : Cond.arrayClass .boolean ∈ pTb := pwi (tk1 (List.mem_of_getElem? (i := 176) rfl)) rfl
theorem W_X0 : ∀ w ∈ u_ws RX0 TX0 12, w ∈ pTb := List.forall_mem_cons.mpr ⟨pwi (tk2 (List.mem_of_getElem? (i := 165) rfl)) rfl, List.forall_mem_cons.mpr ⟨pwi (tk2 (List.mem_of_getElem? (i := 167) rfl)) rfl, List.forall_mem_cons.mpr ⟨pwi (tk2 (List.mem_of_getElem? (i := 169) rfl)) rfl, List.forall_mem_cons.mpr ⟨pwi (tk2 (List.mem_of_getElem? (i := 171) rfl)) rfl, List.forall_mem_cons.mpr ⟨pwi (tk2 (List.mem_of_getElem? (i := 173) rfl)) rfl, List.forall_mem_cons.mpr ⟨pwi (tk2 (List.mem_of_getElem? (i := 175) rfl)) rfl, List.forall_mem_cons.mpr ⟨pwi (tk2 (List.mem_of_getElem? (i := 177) rfl)) rfl, List.forall_mem_cons.mpr ⟨pwi (tk2 (List.mem_of_getElem? (i := 179) rfl)) rfl, List.forall_mem_cons.mpr ⟨pwi (tk2 (List.mem_of_getElem? (i := 181) rfl)) rfl, List.forall_mem_cons.mpr ⟨pwi (tk2 (List.mem_of_getElem? (i := 183) rfl)) rfl, List.forall_mem_cons.mpr ⟨pwi (tk2 (List.mem_of_getElem? (i := 185) rfl)) rfl, List.forall_mem_cons.mpr ⟨pwi (tk2 (List.mem_of_getElem? (i := 187) rfl)) rfl, fun _ h => absurd h List.not_mem_nil⟩⟩⟩⟩⟩⟩⟩⟩⟩⟩⟩⟩
theorem K_X0 : pCls 0 RX0 TX0 12 := ⟨rfl, W_X0, tyX0_ok, nmX0⟩
theorem T_X0 : ∀ j, j < 12 → defaultValue (tyOf 0 j) = (if pF 0 j = 0 then .int 0 else if pF 0 j = 1 then .long 0 else .null) := by decide +kernel
theorem W_X1 : ∀ w ∈ u_ws RX1 TX1 8, w ∈ pTb := List.forall_mem_cons.mpr ⟨pwi (tk1 (List.mem_of_getElem? (i := 118) rfl)) rfl, List.forall_mem_cons.mpr ⟨pwi (tk1 (List.mem_of_getElem? (i := 120) rfl)) rfl, List.forall_mem_cons.mpr ⟨pwi (tk1 (List.mem_of_getElem? (i := 122) rfl)) rfl, List.forall_mem_cons.mpr ⟨pwi (tk1 (List.mem_of_getElem? (i := 124) rfl)) rfl, List.forall_mem_cons.mpr ⟨pwi (tk1 (List.mem_of_getElem? (i := 126) rfl)) rfl, List.forall_mem_cons.mpr ⟨pwi (tk1 (List.mem_of_getElem? (i := 128) rfl)) rfl, List.forall_mem_cons.mpr ⟨pwi (tk1 (List.mem_of_getElem? (i := 130) rfl)) rfl, List.forall_mem_cons.mpr ⟨pwi (tk1 (List.mem_of_getElem? (i := 132) rfl)) rfl, fun _ h => absurd h List.not_mem_nil⟩⟩⟩⟩⟩⟩⟩⟩
theorem K_X1 : pCls 1 RX1 TX1 8 := ⟨rfl, W_X1, tyX1_ok, nmX1⟩
theorem T_X1 : ∀ j, j < 8 → defaultValue (tyOf 1 j) = (if pF 1 j = 0 then .int 0 else if pF 1 j = 1 then .long 0 else .null) := by decide +kernel
theorem W_X2 : ∀ w ∈ u_ws RX2 TX2 17, w ∈ pTb := List.forall_mem_cons.mpr ⟨pwi (tk2 (List.mem_of_getElem? (i := 218) rfl)) rfl, List.forall_mem_cons.mpr ⟨pwi (tk2 (List.mem_of_getElem? (i := 220) rfl)) rfl, List.forall_mem_cons.mpr ⟨pwi (tk2 (List.mem_of_getElem? (i := 222) rfl)) rfl, List.forall_mem_cons.mpr ⟨pwi (tk2 (List.mem_of_getElem? (i := 224) rfl)) rfl, List.forall_mem_cons.mpr ⟨pwi (tk2 (List.mem_of_getElem? (i := 226) rfl)) rfl, List.forall_mem_cons.mpr ⟨pwi (tk2 (List.mem_of_getElem? (i := 228) rfl)) rfl, List.forall_mem_cons.mpr ⟨pwi (tk2 (List.mem_of_getElem? (i := 230) rfl)) rfl, List.forall_mem_cons.mpr ⟨pwi (tk2 (List.mem_of_getElem? (i := 232) rfl)) rfl, List.forall_mem_cons.mpr ⟨pwi (tk2 (List.mem_of_getElem? (i := 234) rfl)) rfl, List.forall_mem_cons.mpr ⟨pwi (tk2 (List.mem_of_getElem? (i := 236) rfl)) rfl, List.forall_mem_cons.mpr ⟨pwi (tk2 (List.mem_of_getElem? (i := 238) rfl)) rfl, List.forall_mem_cons.mpr ⟨pwi (tk3 (List.mem_of_getElem? (i := 0) rfl)) rfl, List.forall_mem_cons.mpr ⟨pwi (tk3 (List.mem_of_getElem? (i := 2) rfl)) rfl, List.forall_mem_cons.mpr ⟨pwi (tk3 (List.mem_of_getElem? (i := 4) rfl)) rfl, List.forall_mem_cons.mpr ⟨pwi (tk3 (List.mem_of_getElem? (i := 6) rfl)) rfl, List.forall_mem_cons.mpr ⟨pwi (tk3 (List.mem_of_getElem? (i := 8) rfl)) rfl, List.forall_mem_cons.mpr ⟨pwi (tk3 (List.mem_of_getElem? (i := 10) rfl)) rfl, fun _ h => absurd h List.not_mem_nil⟩⟩⟩⟩⟩⟩⟩⟩⟩⟩⟩⟩⟩⟩⟩⟩⟩
theorem K_X2 : pCls 2 RX2 TX2 17 := ⟨rfl, W_X2, tyX2_ok, nmX2⟩
theorem T_X2 : ∀ j, j < 17 → defaultValue (tyOf 2 j) = (if pF 2 j = 0 then .int 0 else if pF 2 j = 1 then .long 0 else .null) := by decide +kernel
theorem W_X3 : ∀ w ∈ u_ws RX3 TX3 9, w ∈ pTb := List.forall_mem_cons.mpr ⟨pwi (tk1 (List.mem_of_getElem? (i := 200) rfl)) rfl, List.forall_mem_cons.mpr ⟨pwi (tk1 (List.mem_of_getElem? (i := 202) rfl)) rfl, List.forall_mem_cons.mpr ⟨pwi (tk1 (List.mem_of_getElem? (i := 204) rfl)) rfl, List.forall_mem_cons.mpr ⟨pwi (tk1 (List.mem_of_getElem? (i := 206) rfl)) rfl, List.forall_mem_cons.mpr ⟨pwi (tk1 (List.mem_of_getElem? (i := 208) rfl)) rfl, List.forall_mem_cons.mpr ⟨pwi (tk1 (List.mem_of_getElem? (i := 210) rfl)) rfl, List.forall_mem_cons.mpr ⟨pwi (tk1 (List.mem_of_getElem? (i := 212) rfl)) rfl, List.forall_mem_cons.mpr ⟨pwi (tk1 (List.mem_of_getElem? (i := 214) rfl)) rfl, List.forall_mem_cons.mpr ⟨pwi (tk1 (List.mem_of_getElem? (i := 216) rfl)) rfl, fun _ h => absurd h List.not_mem_nil⟩⟩⟩⟩⟩⟩⟩⟩⟩
theorem K_X3 : pCls 3 RX3 TX3 9 := ⟨rfl, W_X3, tyX3_ok, nmX3⟩
theorem T_X3 : ∀ j, j < 9 → defaultValue (tyOf 3 j) = (if pF 3 j = 0 then .int 0 else if pF 3 j = 1 then .long 0 else .null) := by decide +kernel
theorem W_X4 : ∀ w ∈ u_ws RX4 TX4 7, w ∈ pTb := List.forall_mem_cons.mpr ⟨pwi (tk1 (List.mem_of_getElem? (i := 161) rfl)) rfl, List.forall_mem_cons.mpr ⟨pwi (tk1 (List.mem_of_getElem? (i := 163) rfl)) rfl, List.forall_mem_cons.mpr ⟨pwi (tk1 (List.mem_of_getElem? (i := 165) rfl)) rfl, List.forall_mem_cons.mpr ⟨pwi (tk1 (List.mem_of_getElem? (i := 167) rfl)) rfl, List.forall_mem_cons.mpr ⟨pwi (tk1 (List.mem_of_getElem? (i := 169) rfl)) rfl, List.forall_mem_cons.mpr ⟨pwi (tk1 (List.mem_of_getElem? (i := 171) rfl)) rfl, List.forall_mem_cons.mpr ⟨pwi (tk1 (List.mem_of_getElem? (i := 173) rfl)) rfl, fun _ h => absurd h List.not_mem_nil⟩⟩⟩⟩⟩⟩⟩
theorem K_X4 : pCls 4 RX4 TX4 7 := ⟨rfl, W_X4, tyX4_ok, nmX4⟩
theorem T_X4 : ∀ j, j < 7 → defaultValue (tyOf 4 j) = (if pF 4 j = 0 then .int 0 else if pF 4 j = 1 then .long 0 else .null) := by decide +kernel
theorem W_X5 : ∀ w ∈ u_ws RX5 TX5 6, w ∈ pTb := List.forall_mem_cons.mpr ⟨pwi (tk2 (List.mem_of_getElem? (i := 32) rfl)) rfl, List.forall_mem_cons.mpr ⟨pwi (tk2 (List.mem_of_getElem? (i := 34) rfl)) rfl, List.forall_mem_cons.mpr ⟨pwi (tk2 (List.mem_of_getElem? (i := 36) rfl)) rfl, List.forall_mem_cons.mpr ⟨pwi (tk2 (List.mem_of_getElem? (i := 38) rfl)) rfl, List.forall_mem_cons.mpr ⟨pwi (tk2 (List.mem_of_getElem? (i := 40) rfl)) rfl, List.forall_mem_cons.mpr ⟨pwi (tk2 (List.mem_of_getElem? (i := 42) rfl)) rfl, fun _ h => absurd h List.not_mem_nil⟩⟩⟩⟩⟩⟩
theorem K_X5 : pCls 5 RX5 TX5 6 := ⟨rfl, W_X5, tyX5_ok, nmX5⟩
theorem T_X5 : ∀ j, j < 6 → defaultValue (tyOf 5 j) = (if pF 5 j = 0 then .int 0 else if pF 5 j = 1 then .long 0 else .null) := by decide +kernel
theorem W_X6 : ∀ w ∈ u_ws RX6 TX6 11, w ∈ pTb := List.forall_mem_cons.mpr ⟨pwi (tk1 (List.mem_of_getElem? (i := 74) rfl)) rfl, List.forall_mem_cons.mpr ⟨pwi (tk1 (List.mem_of_getElem? (i := 76) rfl)) rfl, List.forall_mem_cons.mpr ⟨pwi (tk1 (List.mem_of_getElem? (i := 78) rfl)) rfl, List.forall_mem_cons.mpr ⟨pwi (tk1 (List.mem_of_getElem? (i := 80) rfl)) rfl, List.forall_mem_cons.mpr ⟨pwi (tk1 (List.mem_of_getElem? (i := 82) rfl)) rfl, List.forall_mem_cons.mpr ⟨pwi (tk1 (List.mem_of_getElem? (i := 84) rfl)) rfl, List.forall_mem_cons.mpr ⟨pwi (tk1 (List.mem_of_getElem? (i := 86) rfl)) rfl, List.forall_mem_cons.mpr ⟨pwi (tk1 (List.mem_of_getElem? (i := 88) rfl)) rfl, List.forall_mem_cons.mpr ⟨pwi (tk1 (List.mem_of_getElem? (i := 90) rfl)) rfl, List.forall_mem_cons.mpr ⟨pwi (tk1 (List.mem_of_getElem? (i := 92) rfl)) rfl, List.forall_mem_cons.mpr ⟨pwi (tk1 (List.mem_of_getElem? (i := 94) rfl)) rfl, fun _ h => absurd h List.not_mem_nil⟩⟩⟩⟩⟩⟩⟩⟩⟩⟩⟩
theorem K_X6 : pCls 6 RX6 TX6 11 := ⟨rfl, W_X6, tyX6_ok, nmX6⟩
theorem T_X6 : ∀ j, j < 11 → defaultValue (tyOf 6 j) = (if pF 6 j = 0 then .int 0 else if pF 6 j = 1 then .long 0 else .null) := by decide +kernel
theorem W_X7 : ∀ w ∈ u_ws RX7 TX7 12, w ∈ pTb := List.forall_mem_cons.mpr ⟨pwi (tk2 (List.mem_of_getElem? (i := 120) rfl)) rfl, List.forall_mem_cons.mpr ⟨pwi (tk2 (List.mem_of_getElem? (i := 122) rfl)) rfl, List.forall_mem_cons.mpr ⟨pwi (tk2 (List.mem_of_getElem? (i := 124) rfl)) rfl, List.forall_mem_cons.mpr ⟨pwi (tk2 (List.mem_of_getElem? (i := 126) rfl)) rfl, List.forall_mem_cons.mpr ⟨pwi (tk2 (List.mem_of_getElem? (i := 128) rfl)) rfl, List.forall_mem_cons.mpr ⟨pwi (tk2 (List.mem_of_getElem? (i := 130) rfl)) rfl, List.forall_mem_cons.mpr ⟨pwi (tk2 (List.mem_of_getElem? (i := 132) rfl)) rfl, List.forall_mem_cons.mpr ⟨pwi (tk2 (List.mem_of_getElem? (i := 134) rfl)) rfl, List.forall_mem_cons.mpr ⟨pwi (tk2 (List.mem_of_getElem? (i := 136) rfl)) rfl, List.forall_mem_cons.mpr ⟨pwi (tk2 (List.mem_of_getElem? (i := 138) rfl)) rfl, List.forall_mem_cons.mpr ⟨pwi (tk2 (List.mem_of_getElem? (i := 140) rfl)) rfl, List.forall_mem_cons.mpr ⟨pwi (tk2 (List.mem_of_getElem? (i := 142) rfl)) rfl, fun _ h => absurd h List.not_mem_nil⟩⟩⟩⟩⟩⟩⟩⟩⟩⟩⟩⟩
theorem K_X7 : pCls 7 RX7 TX7 12 := ⟨rfl, W_X7, tyX7_ok, nmX7⟩
theorem T_X7 : ∀ j, j < 12 → defaultValue (tyOf 7 j) = (if pF 7 j = 0 then .int 0 else if pF 7 j = 1 then .long 0 else .null) := by decide +kernel
theorem W_X8 : ∀ w ∈ u_ws RX8 TX8 9, w ∈ pTb := List.forall_mem_cons.mpr ⟨pwi (tk2 (List.mem_of_getElem? (i := 4) rfl)) rfl, List.forall_mem_cons.mpr ⟨pwi (tk2 (List.mem_of_getElem? (i := 6) rfl)) rfl, List.forall_mem_cons.mpr ⟨pwi (tk2 (List.mem_of_getElem? (i := 8) rfl)) rfl, List.forall_mem_cons.mpr ⟨pwi (tk2 (List.mem_of_getElem? (i := 10) rfl)) rfl, List.forall_mem_cons.mpr ⟨pwi (tk2 (List.mem_of_getElem? (i := 12) rfl)) rfl, List.forall_mem_cons.mpr ⟨pwi (tk2 (List.mem_of_getElem? (i := 14) rfl)) rfl, List.forall_mem_cons.mpr ⟨pwi (tk2 (List.mem_of_getElem? (i := 16) rfl)) rfl, List.forall_mem_cons.mpr ⟨pwi (tk2 (List.mem_of_getElem? (i := 18) rfl)) rfl, List.forall_mem_cons.mpr ⟨pwi (tk2 (List.mem_of_getElem? (i := 20) rfl)) rfl, fun _ h => absurd h List.not_mem_nil⟩⟩⟩⟩⟩⟩⟩⟩⟩
theorem K_X8 : pCls 8 RX8 TX8 9 := ⟨rfl, W_X8, tyX8_ok, nmX8⟩
theorem T_X8 : ∀ j, j < 9 → defaultValue (tyOf 8 j) = (if pF 8 j = 0 then .int 0 else if pF 8 j = 1 then .long 0 else .null) := by decide +kernel
theorem W_X9 : ∀ w ∈ u_ws RX9 TX9 11, w ∈ pTb := List.forall_mem_cons.mpr ⟨pwi (tk3 (List.mem_of_getElem? (i := 24) rfl)) rfl, List.forall_mem_cons.mpr ⟨pwi (tk3 (List.mem_of_getElem? (i := 26) rfl)) rfl, List.forall_mem_cons.mpr ⟨pwi (tk3 (List.mem_of_getElem? (i := 28) rfl)) rfl, List.forall_mem_cons.mpr ⟨pwi (tk3 (List.mem_of_getElem? (i := 30) rfl)) rfl, List.forall_mem_cons.mpr ⟨pwi (tk3 (List.mem_of_getElem? (i := 32) rfl)) rfl, List.forall_mem_cons.mpr ⟨pwi (tk3 (List.mem_of_getElem? (i := 34) rfl)) rfl, List.forall_mem_cons.mpr ⟨pwi (tk3 (List.mem_of_getElem? (i := 36) rfl)) rfl, List.forall_mem_cons.mpr ⟨pwi (tk3 (List.mem_of_getElem? (i := 38) rfl)) rfl, List.forall_mem_cons.mpr ⟨pwi (tk3 (List.mem_of_getElem? (i := 40) rfl)) rfl, List.forall_mem_cons.mpr ⟨pwi (tk3 (List.mem_of_getElem? (i := 42) rfl)) rfl, List.forall_mem_cons.mpr ⟨pwi (tk3 (List.mem_of_getElem? (i := 44) rfl)) rfl, fun _ h => absurd h List.not_mem_nil⟩⟩⟩⟩⟩⟩⟩⟩⟩⟩⟩
theorem K_X9 : pCls 9 RX9 TX9 11 := ⟨rfl, W_X9, tyX9_ok, nmX9⟩
theorem T_X9 : ∀ j, j < 11 → defaultValue (tyOf 9 j) = (if pF 9 j = 0 then .int 0 else if pF 9 j = 1 then .long 0 else .null) := by decide +kernel
theorem W_X10 : ∀ w ∈ u_ws RX10 TX10 73, w ∈ pTb := List.forall_mem_cons.mpr ⟨pwi (tk6 (List.mem_of_getElem? (i := 160) rfl)) rfl, List.forall_mem_cons.mpr ⟨pwi (tk6 (List.mem_of_getElem? (i := 162) rfl)) rfl, List.forall_mem_cons.mpr ⟨pwi (tk6 (List.mem_of_getElem? (i := 164) rfl)) rfl, List.forall_mem_cons.mpr ⟨pwi (tk6 (List.mem_of_getElem? (i := 166) rfl)) rfl, List.forall_mem_cons.mpr ⟨pwi (tk6 (List.mem_of_getElem? (i := 168) rfl)) rfl, List.forall_mem_cons.mpr ⟨pwi (tk6 (List.mem_of_getElem? (i := 170) rfl)) rfl, List.forall_mem_cons.mpr ⟨pwi (tk6 (List.mem_of_getElem? (i := 172) rfl)) rfl, List.forall_mem_cons.mpr ⟨pwi (tk6 (List.mem_of_getElem? (i := 174) rfl)) rfl, List.forall_mem_cons.mpr ⟨pwi (tk6 (List.mem_of_getElem? (i := 176) rfl)) rfl, List.forall_mem_cons.mpr ⟨pwi (tk6 (List.mem_of_getElem? (i := 178) rfl)) rfl, List.forall_mem_cons.mpr ⟨pwi (tk6 (List.mem_of_getElem? (i := 180) rfl)) rfl, List.forall_mem_cons.mpr ⟨pwi (tk6 (List.mem_of_getElem? (i := 182) rfl)) rfl, List.forall_mem_cons.mpr ⟨pwi (tk6 (List.mem_of_getElem? (i := 184) rfl)) rfl, List.forall_mem_cons.mpr ⟨pwi (tk6 (List.mem_of_getElem? (i := 186) rfl)) rfl, List.forall_mem_cons.mpr ⟨pwi (tk6 (List.mem_of_getElem? (i := 188) rfl)) rfl, List.forall_mem_cons.mpr ⟨pwi (tk6 (List.mem_of_getElem? (i := 190) rfl)) rfl, List.forall_mem_cons.mpr ⟨pwi (tk6 (List.mem_of_getElem? (i := 192) rfl)) rfl, List.forall_mem_cons.mpr ⟨pwi (tk6 (List.mem_of_getElem? (i := 194) rfl)) rfl, List.forall_mem_cons.mpr ⟨pwi (tk6 (List.mem_of_getElem? (i := 196) rfl)) rfl, List.forall_mem_cons.mpr ⟨pwi (tk6 (List.mem_of_getElem? (i := 198) rfl)) rfl, List.forall_mem_cons.mpr ⟨pwi (tk6 (List.mem_of_getElem? (i := 200) rfl)) rfl, List.forall_mem_cons.mpr ⟨pwi (tk6 (List.mem_of_getElem? (i := 202) rfl)) rfl, List.forall_mem_cons.mpr ⟨pwi (tk6 (List.mem_of_getElem? (i := 204) rfl)) rfl, List.forall_mem_cons.mpr ⟨pwi (tk6 (List.mem_of_getElem? (i := 206) rfl)) rfl, List.forall_mem_cons.mpr ⟨pwi (tk6 (List.mem_of_getElem? (i := 208) rfl)) rfl, List.forall_mem_cons.mpr ⟨pwi (tk6 (List.mem_of_getElem? (i := 210) rfl)) rfl, List.forall_mem_cons.mpr ⟨pwi (tk6 (List.mem_of_getElem? (i := 212) rfl)) rfl, List.forall_mem_cons.mpr ⟨pwi (tk6 (List.mem_of_getElem? (i := 214) rfl)) rfl, List.forall_mem_cons.mpr ⟨pwi (tk6 (List.mem_of_getElem? (i := 216) rfl)) rfl, List.forall_mem_cons.mpr ⟨pwi (tk6 (List.mem_of_getElem? (i := 218) rfl)) rfl, List.forall_mem_cons.mpr ⟨pwi (tk6 (List.mem_of_getElem? (i := 220) rfl)) rfl, List.forall_mem_cons.mpr ⟨pwi (tk6 (List.mem_of_getElem? (i := 222) rfl)) rfl, List.forall_mem_cons.mpr ⟨pwi (tk6 (List.mem_of_getElem? (i := 224) rfl)) rfl, List.forall_mem_cons.mpr ⟨pwi (tk6 (List.mem_of_getElem? (i := 226) rfl)) rfl, List.forall_mem_cons.mpr ⟨pwi (tk6 (List.mem_of_getElem? (i := 228) rfl)) rfl, List.forall_mem_cons.mpr ⟨pwi (tk6 (List.mem_of_getElem? (i := 230) rfl)) rfl, List.forall_mem_cons.mpr ⟨pwi (tk6 (List.mem_of_getElem? (i := 232) rfl)) rfl, List.forall_mem_cons.mpr ⟨pwi (tk6 (List.mem_of_getElem? (i := 234) rfl)) rfl, List.forall_mem_cons.mpr ⟨pwi (tk6 (List.mem_of_getElem? (i := 236) rfl)) rfl, List.forall_mem_cons.mpr ⟨pwi (tk6 (List.mem_of_getElem? (i := 238) rfl)) rfl, List.forall_mem_cons.mpr ⟨pwi (tk7 (List.mem_of_getElem? (i := 0) rfl)) rfl, List.forall_mem_cons.mpr ⟨pwi (tk7 (List.mem_of_getElem? (i := 2) rfl)) rfl, List.forall_mem_cons.mpr ⟨pwi (tk7 (List.mem_of_getElem? (i := 4) rfl)) rfl, List.forall_mem_cons.mpr ⟨pwi (tk7 (List.mem_of_getElem? (i := 6) rfl)) rfl, List.forall_mem_cons.mpr ⟨pwi (tk7 (List.mem_of_getElem? (i := 8) rfl)) rfl, List.forall_mem_cons.mpr ⟨pwi (tk7 (List.mem_of_getElem? (i := 10) rfl)) rfl, List.forall_mem_cons.mpr ⟨pwi (tk7 (List.mem_of_getElem? (i := 12) rfl)) rfl, List.forall_mem_cons.mpr ⟨pwi (tk7 (List.mem_of_getElem? (i := 14) rfl)) rfl, List.forall_mem_cons.mpr ⟨pwi (tk7 (List.mem_of_getElem? (i := 16) rfl)) rfl, List.forall_mem_cons.mpr ⟨pwi (tk7 (List.mem_of_getElem? (i := 18) rfl)) rfl, List.forall_mem_cons.mpr ⟨pwi (tk7 (List.mem_of_getElem? (i := 20) rfl)) rfl, List.forall_mem_cons.mpr ⟨pwi (tk7 (List.mem_of_getElem? (i := 22) rfl)) rfl, List.forall_mem_cons.mpr ⟨pwi (tk7 (List.mem_of_getElem? (i := 24) rfl)) rfl, List.forall_mem_cons.mpr ⟨pwi (tk7 (List.mem_of_getElem? (i := 26) rfl)) rfl, List.forall_mem_cons.mpr ⟨pwi (tk7 (List.mem_of_getElem? (i := 28) rfl)) rfl, List.forall_mem_cons.mpr ⟨pwi (tk7 (List.mem_of_getElem? (i := 30) rfl)) rfl, List.forall_mem_cons.mpr ⟨pwi (tk7 (List.mem_of_getElem? (i := 32) rfl)) rfl, List.forall_mem_cons.mpr ⟨pwi (tk7 (List.mem_of_getElem? (i := 34) rfl)) rfl, List.forall_mem_cons.mpr ⟨pwi (tk7 (List.mem_of_getElem? (i := 36) rfl)) rfl, List.forall_mem_cons.mpr ⟨pwi (tk7 (List.mem_of_getElem? (i := 38) rfl)) rfl, List.forall_mem_cons.mpr ⟨pwi (tk7 (List.mem_of_getElem? (i := 40) rfl)) rfl, List.forall_mem_cons.mpr ⟨pwi (tk7 (List.mem_of_getElem? (i := 42) rfl)) rfl, List.forall_mem_cons.mpr ⟨pwi (tk7 (List.mem_of_getElem? (i := 44) rfl)) rfl, List.forall_mem_cons.mpr ⟨pwi (tk7 (List.mem_of_getElem? (i := 46) rfl)) rfl, List.forall_mem_cons.mpr ⟨pwi (tk7 (List.mem_of_getElem? (i := 48) rfl)) rfl, List.forall_mem_cons.mpr ⟨pwi (tk7 (List.mem_of_getElem? (i := 50) rfl)) rfl, List.forall_mem_cons.mpr ⟨pwi (tk7 (List.mem_of_getElem? (i := 52) rfl)) rfl, List.forall_mem_cons.mpr ⟨pwi (tk7 (List.mem_of_getElem? (i := 54) rfl)) rfl, List.forall_mem_cons.mpr ⟨pwi (tk7 (List.mem_of_getElem? (i := 56) rfl)) rfl, List.forall_mem_cons.mpr ⟨pwi (tk7 (List.mem_of_getElem? (i := 58) rfl)) rfl, List.forall_mem_cons.mpr ⟨pwi (tk7 (List.mem_of_getElem? (i := 60) rfl)) rfl, List.forall_mem_cons.mpr ⟨pwi (tk7 (List.mem_of_getElem? (i := 62) rfl)) rfl, List.forall_mem_cons.mpr ⟨pwi (tk7 (List.mem_of_getElem? (i := 64) rfl)) rfl, fun _ h => absurd h List.not_mem_nil⟩⟩⟩⟩⟩⟩⟩⟩⟩⟩⟩⟩⟩⟩⟩⟩⟩⟩⟩⟩⟩⟩⟩⟩⟩⟩⟩⟩⟩⟩⟩⟩⟩⟩⟩⟩⟩⟩⟩⟩⟩⟩⟩⟩⟩⟩⟩⟩⟩⟩⟩⟩⟩⟩⟩⟩⟩⟩⟩⟩⟩⟩⟩⟩⟩⟩⟩⟩⟩⟩⟩⟩⟩
theorem K_X10 : pCls 10 RX10 TX10 73 := ⟨rfl, W_X10, tyX10_ok, nmX10⟩
theorem T_X10 : ∀ j, j < 73 → defaultValue (tyOf 10 j) = (if pF 10 j = 0 then .int 0 else if pF 10 j = 1 then .long 0 else .null) := by decide +kernel
section PS
variable {p : Program} {l : Launch} {e : Env} {R : Room} {s : State} {m : MethodId} {args : Array Value} {below : List Frame} {meth : Method} {c : Code} {Q : State → Prop} {cc : ByteArray} {nL : Nat} {own : String} {g : pg} {A : Nat → Prop} {f : (Nat → Nat) × pW} {wE : pW} {k0 : Nat × Nat} {Φ : pC} {E : pE} {pc nx : Nat} {L S : List pV} {w : pW}
theorem s_newaint (C : pCtx p s m args c cc nL own g A) (hR : wE.1.length - f.2.1.length + k0.1 ≤ R.cells ∧ nS wE - nS f.2 + k0.2 ≤ R.slots) (d : decode cc pc = .ok (.newarray .int, 2)) : i_newa 0 (pc + 2) Φ (pX p l e R s m args below meth c Q g nL A f wE k0) E L S w → pX p l e R s m args below meth c Q g nL A f wE k0 pc L S w := s_newa C (ty := .int) (by omega) rfl rfl w_ai (fun _ h => h) (by decide) (fun _ _ => rfl) hR d
theorem s_newalong (C : pCtx p s m args c cc nL own g A) (hR : wE.1.length - f.2.1.length + k0.1 ≤ R.cells ∧ nS wE - nS f.2 + k0.2 ≤ R.slots) (d : decode cc pc = .ok (.newarray .long, 2)) : i_newa 1 (pc + 2) Φ (pX p l e R s m args below meth c Q g nL A f wE k0) E L S w → pX p l e R s m args below meth c Q g nL A f wE k0 pc L S w := s_newa C (ty := .long) (by omega) rfl rfl w_al (fun _ h => h) (by decide) (fun _ _ => rfl) hR d
theorem s_newachar (C : pCtx p s m args c cc nL own g A) (hR : wE.1.length - f.2.1.length + k0.1 ≤ R.cells ∧ nS wE - nS f.2 + k0.2 ≤ R.slots) (d : decode cc pc = .ok (.newarray .char, 2)) : i_newa 2 (pc + 2) Φ (pX p l e R s m args below meth c Q g nL A f wE k0) E L S w → pX p l e R s m args below meth c Q g nL A f wE k0 pc L S w := s_newa C (ty := .char) (by omega) rfl rfl w_ac (fun _ h => h) (by decide) (fun _ _ => rfl) hR d
theorem s_newaboolean (C : pCtx p s m args c cc nL own g A) (hR : wE.1.length - f.2.1.length + k0.1 ≤ R.cells ∧ nS wE - nS f.2 + k0.2 ≤ R.slots) (d : decode cc pc = .ok (.newarray .boolean, 2)) : i_newa 3 (pc + 2) Φ (pX p l e R s m args below meth c Q g nL A f wE k0) E L S w → pX p l e R s m args below meth c Q g nL A f wE k0 pc L S w := s_newa C (ty := .boolean) (by omega) rfl rfl w_az (fun _ h => h) (by decide) (fun _ _ => rfl) hR d
theorem s_bad : i_bad Φ (pX p l e R s m args below meth c Q g nL A f wE k0) E L S w → pX p l e R s m args below meth c Q g nL A f wE k0 pc L S w := fun h => h.elim
end PS

theorem ds_X6_heldIfSwapped : Ds yX6_heldIfSwapped 3 := ⟨by decide +kernel, by decide +kernel, by decide +kernel⟩
theorem lk_X6_198 : LkV RX6 198 yX6_heldIfSwapped cX6_heldIfSwapped 4 (some .int) := ⟨gt_mem (tm3 (List.mem_of_getElem? (i := 115) rfl)) rfl, gt_mem (tm3 (List.mem_of_getElem? (i := 117) rfl)) rfl, gt_sel (List.mem_of_getElem? (i := 3) rfl) rfl, gt_mem (tm1 (List.mem_of_getElem? (i := 1) rfl)) rfl, gt_mem (tm3 (List.mem_of_getElem? (i := 118) rfl)) rfl⟩
theorem ds_X6_heldIfBlown : Ds yX6_heldIfBlown 4 := ⟨by decide +kernel, by decide +kernel, by decide +kernel⟩
theorem lk_X6_202 : LkV RX6 202 yX6_heldIfBlown cX6_heldIfBlown 5 (some .int) := ⟨gt_mem (tm3 (List.mem_of_getElem? (i := 123) rfl)) rfl, gt_mem (tm3 (List.mem_of_getElem? (i := 125) rfl)) rfl, gt_sel (List.mem_of_getElem? (i := 4) rfl) rfl, gt_mem (tm1 (List.mem_of_getElem? (i := 1) rfl)) rfl, gt_mem (tm3 (List.mem_of_getElem? (i := 126) rfl)) rfl⟩
theorem ds_X6_areOdds : Ds yX6_areOdds 4 := ⟨by decide +kernel, by decide +kernel, by decide +kernel⟩
theorem lk_X6_206 : LkV RX6 206 yX6_areOdds cX6_areOdds 5 (some .boolean) := ⟨gt_mem (tm3 (List.mem_of_getElem? (i := 131) rfl)) rfl, gt_mem (tm3 (List.mem_of_getElem? (i := 133) rfl)) rfl, gt_sel (List.mem_of_getElem? (i := 5) rfl) rfl, gt_mem (tm1 (List.mem_of_getElem? (i := 1) rfl)) rfl, gt_mem (tm3 (List.mem_of_getElem? (i := 134) rfl)) rfl⟩
theorem fl_X6_48 : Cond.fieldLink RX6 48 (TX6 6).1 (TX6 6).2.1 (TX6 6).2.2.1 ∈ gt := gt_mem (tm2 (List.mem_of_getElem? (i := 3) rfl)) rfl
theorem ds_X1_weigh : Ds yX1_weigh 5 := ⟨by decide +kernel, by decide +kernel, by decide +kernel⟩
theorem lk_X6_211 : LkV RX6 211 yX1_weigh cX1_weigh 6 none := ⟨gt_mem (tm3 (List.mem_of_getElem? (i := 136) rfl)) rfl, gt_mem (tm3 (List.mem_of_getElem? (i := 137) rfl)) rfl, gt_mem (tm3 (List.mem_of_getElem? (i := 138) rfl)) rfl, gt_mem (tm1 (List.mem_of_getElem? (i := 5) rfl)) rfl, gt_mem (tm3 (List.mem_of_getElem? (i := 139) rfl)) rfl⟩
theorem fl_X6_219 : Cond.fieldLink RX6 219 (TX1 6).1 (TX1 6).2.1 (TX1 6).2.2.1 ∈ gt := gt_mem (tm1 (List.mem_of_getElem? (i := 181) rfl)) rfl
theorem fl_X6_215 : Cond.fieldLink RX6 215 (TX1 5).1 (TX1 5).2.1 (TX1 5).2.2.1 ∈ gt := gt_mem (tm1 (List.mem_of_getElem? (i := 179) rfl)) rfl
theorem ml_X6_209 : Cond.constantLong RX6 209 (-1) ∈ gt := gt_mem (tm3 (List.mem_of_getElem? (i := 135) rfl)) rfl
theorem ds_X3_put : Ds yX3_put 4 := ⟨by decide +kernel, by decide +kernel, by decide +kernel⟩
theorem lk_X6_222 : LkV RX6 222 yX3_put cX3_put 5 (some .boolean) := ⟨gt_mem (tm3 (List.mem_of_getElem? (i := 176) rfl)) rfl, gt_mem (tm3 (List.mem_of_getElem? (i := 177) rfl)) rfl, gt_mem (tm3 (List.mem_of_getElem? (i := 178) rfl)) rfl, gt_mem (tm1 (List.mem_of_getElem? (i := 3) rfl)) rfl, gt_mem (tm3 (List.mem_of_getElem? (i := 179) rfl)) rfl⟩
theorem ds_X3_farthest : Ds yX3_farthest 0 := ⟨by decide +kernel, by decide +kernel, by decide +kernel⟩
theorem lk_X6_224 : LkV RX6 224 yX3_farthest cX3_farthest 3 (some .int) := ⟨gt_mem (tm3 (List.mem_of_getElem? (i := 188) rfl)) rfl, gt_mem (tm3 (List.mem_of_getElem? (i := 189) rfl)) rfl, gt_mem (tm3 (List.mem_of_getElem? (i := 190) rfl)) rfl, gt_mem (tm1 (List.mem_of_getElem? (i := 3) rfl)) rfl, gt_mem (tm3 (List.mem_of_getElem? (i := 191) rfl)) rfl⟩
theorem ds_X3_fits : Ds yX3_fits 2 := ⟨by decide +kernel, by decide +kernel, by decide +kernel⟩
theorem lk_X6_227 : LkV RX6 227 yX3_fits cX3_fits 4 (some .boolean) := ⟨gt_mem (tm3 (List.mem_of_getElem? (i := 195) rfl)) rfl, gt_mem (tm3 (List.mem_of_getElem? (i := 196) rfl)) rfl, gt_mem (tm3 (List.mem_of_getElem? (i := 197) rfl)) rfl, gt_mem (tm1 (List.mem_of_getElem? (i := 3) rfl)) rfl, gt_mem (tm3 (List.mem_of_getElem? (i := 198) rfl)) rfl⟩
theorem ds_X6_isFrom : Ds yX6_isFrom 3 := ⟨by decide +kernel, by decide +kernel, by decide +kernel⟩
theorem lk_X6_231 : LkV RX6 231 yX6_isFrom cX6_isFrom 4 (some .boolean) := ⟨gt_mem (tm3 (List.mem_of_getElem? (i := 210) rfl)) rfl, gt_mem (tm3 (List.mem_of_getElem? (i := 212) rfl)) rfl, gt_sel (List.mem_of_getElem? (i := 9) rfl) rfl, gt_mem (tm1 (List.mem_of_getElem? (i := 1) rfl)) rfl, gt_mem (tm3 (List.mem_of_getElem? (i := 213) rfl)) rfl⟩
theorem fl_X6_52 : Cond.fieldLink RX6 52 (TX6 7).1 (TX6 7).2.1 (TX6 7).2.2.1 ∈ gt := gt_mem (tm2 (List.mem_of_getElem? (i := 4) rfl)) rfl
theorem ml_X6_240 : Cond.methodLink RX6 240 Lib.Math.max.name ∈ gt := gt_mem (tm3 (List.mem_of_getElem? (i := 226) rfl)) rfl
theorem ds_X6_gatherAnswers : Ds yX6_gatherAnswers 1 := ⟨by decide +kernel, by decide +kernel, by decide +kernel⟩
theorem lk_X6_234 : LkV RX6 234 yX6_gatherAnswers cX6_gatherAnswers 5 (some .int) := ⟨gt_mem (tm3 (List.mem_of_getElem? (i := 218) rfl)) rfl, gt_mem (tm3 (List.mem_of_getElem? (i := 220) rfl)) rfl, gt_sel (List.mem_of_getElem? (i := 10) rfl) rfl, gt_mem (tm1 (List.mem_of_getElem? (i := 1) rfl)) rfl, gt_mem (tm3 (List.mem_of_getElem? (i := 221) rfl)) rfl⟩
theorem ds_X6_mostAlike : Ds yX6_mostAlike 2 := ⟨by decide +kernel, by decide +kernel, by decide +kernel⟩
theorem lk_X6_237 : LkV RX6 237 yX6_mostAlike cX6_mostAlike 7 (some .int) := ⟨gt_mem (tm3 (List.mem_of_getElem? (i := 222) rfl)) rfl, gt_mem (tm3 (List.mem_of_getElem? (i := 224) rfl)) rfl, gt_sel (List.mem_of_getElem? (i := 11) rfl) rfl, gt_mem (tm1 (List.mem_of_getElem? (i := 1) rfl)) rfl, gt_mem (tm3 (List.mem_of_getElem? (i := 225) rfl)) rfl⟩
theorem ml_X6_245 : Cond.constant RX6 245 (nI 1103515245) ∈ gt := gt_mem (tm3 (List.mem_of_getElem? (i := 231) rfl)) rfl
theorem lk_X6_246 : LkV RX6 246 yX2_pass cX2_pass 3 (some .int) := ⟨gt_mem (tm3 (List.mem_of_getElem? (i := 232) rfl)) rfl, gt_mem (tm3 (List.mem_of_getElem? (i := 38) rfl)) rfl, gt_mem (tm3 (List.mem_of_getElem? (i := 39) rfl)) rfl, gt_mem (tm1 (List.mem_of_getElem? (i := 2) rfl)) rfl, gt_mem (tm3 (List.mem_of_getElem? (i := 40) rfl)) rfl⟩
theorem fl_X6_249 : Cond.fieldLink RX6 249 (TX0 1).1 (TX0 1).2.1 (TX0 1).2.2.1 ∈ gt := gt_mem (tm1 (List.mem_of_getElem? (i := 209) rfl)) rfl
theorem fl_X6_252 : Cond.fieldLink RX6 252 (TX0 2).1 (TX0 2).2.1 (TX0 2).2.2.1 ∈ gt := gt_mem (tm1 (List.mem_of_getElem? (i := 211) rfl)) rfl
theorem ds_X3_copyOf : Ds yX3_copyOf 1 := ⟨by decide +kernel, by decide +kernel, by decide +kernel⟩
theorem lk_X6_253 : LkV RX6 253 yX3_copyOf cX3_copyOf 2 none := ⟨gt_mem (tm3 (List.mem_of_getElem? (i := 237) rfl)) rfl, gt_mem (tm3 (List.mem_of_getElem? (i := 238) rfl)) rfl, gt_mem (tm3 (List.mem_of_getElem? (i := 239) rfl)) rfl, gt_mem (tm1 (List.mem_of_getElem? (i := 3) rfl)) rfl, gt_mem (tm4 (List.mem_of_getElem? (i := 0) rfl)) rfl⟩
theorem ds_X6_isSheet : Ds yX6_isSheet 1 := ⟨by decide +kernel, by decide +kernel, by decide +kernel⟩
theorem lk_X6_256 : LkS RX6 256 yX6_isSheet cX6_isSheet 1 (some .boolean) := ⟨gt_mem (tm4 (List.mem_of_getElem? (i := 10) rfl)) rfl, gt_mem (tm4 (List.mem_of_getElem? (i := 11) rfl)) rfl, gt_mem (tm1 (List.mem_of_getElem? (i := 1) rfl)) rfl, gt_mem (tm4 (List.mem_of_getElem? (i := 12) rfl)) rfl⟩
theorem ds_X6_isLane : Ds yX6_isLane 1 := ⟨by decide +kernel, by decide +kernel, by decide +kernel⟩
theorem lk_X6_259 : LkS RX6 259 yX6_isLane cX6_isLane 1 (some .boolean) := ⟨gt_mem (tm4 (List.mem_of_getElem? (i := 13) rfl)) rfl, gt_mem (tm4 (List.mem_of_getElem? (i := 14) rfl)) rfl, gt_mem (tm1 (List.mem_of_getElem? (i := 1) rfl)) rfl, gt_mem (tm4 (List.mem_of_getElem? (i := 15) rfl)) rfl⟩
theorem fl_X6_41 : Cond.fieldLink RX6 41 (TX6 5).1 (TX6 5).2.1 (TX6 5).2.2.1 ∈ gt := gt_mem (tm2 (List.mem_of_getElem? (i := 2) rfl)) rfl
theorem ds_X4_renew : Ds yX4_renew 2 := ⟨by decide +kernel, by decide +kernel, by decide +kernel⟩
theorem lk_X6_262 : LkV RX6 262 yX4_renew cX4_renew 3 none := ⟨gt_mem (tm4 (List.mem_of_getElem? (i := 16) rfl)) rfl, gt_mem (tm4 (List.mem_of_getElem? (i := 17) rfl)) rfl, gt_mem (tm4 (List.mem_of_getElem? (i := 18) rfl)) rfl, gt_mem (tm1 (List.mem_of_getElem? (i := 7) rfl)) rfl, gt_mem (tm4 (List.mem_of_getElem? (i := 19) rfl)) rfl⟩
theorem fl_X6_266 : Cond.fieldLink RX6 266 (TX4 0).1 (TX4 0).2.1 (TX4 0).2.2.1 ∈ gt := gt_mem (tm1 (List.mem_of_getElem? (i := 225) rfl)) rfl
theorem lk_X6_269 : LkV RX6 269 yX4_faultAt cX4_faultAt 3 (some .int) := ⟨gt_mem (tm4 (List.mem_of_getElem? (i := 25) rfl)) rfl, gt_mem (tm4 (List.mem_of_getElem? (i := 26) rfl)) rfl, gt_mem (tm4 (List.mem_of_getElem? (i := 27) rfl)) rfl, gt_mem (tm1 (List.mem_of_getElem? (i := 7) rfl)) rfl, gt_mem (tm4 (List.mem_of_getElem? (i := 28) rfl)) rfl⟩
theorem ds_X4_put : Ds yX4_put 2 := ⟨by decide +kernel, by decide +kernel, by decide +kernel⟩
theorem lk_X6_272 : LkV RX6 272 yX4_put cX4_put 3 none := ⟨gt_mem (tm4 (List.mem_of_getElem? (i := 33) rfl)) rfl, gt_mem (tm4 (List.mem_of_getElem? (i := 34) rfl)) rfl, gt_mem (tm4 (List.mem_of_getElem? (i := 35) rfl)) rfl, gt_mem (tm1 (List.mem_of_getElem? (i := 7) rfl)) rfl, gt_mem (tm4 (List.mem_of_getElem? (i := 36) rfl)) rfl⟩
theorem fl_X6_281 : Cond.fieldLink RX6 281 (TX4 2).1 (TX4 2).2.1 (TX4 2).2.2.1 ∈ gt := gt_mem (tm1 (List.mem_of_getElem? (i := 229) rfl)) rfl
theorem ds_X4_faultOfPair : Ds yX4_faultOfPair 2 := ⟨by decide +kernel, by decide +kernel, by decide +kernel⟩
theorem lk_X6_274 : LkV RX6 274 yX4_faultOfPair cX4_faultOfPair 4 (some .int) := ⟨gt_mem (tm4 (List.mem_of_getElem? (i := 41) rfl)) rfl, gt_mem (tm4 (List.mem_of_getElem? (i := 42) rfl)) rfl, gt_mem (tm4 (List.mem_of_getElem? (i := 43) rfl)) rfl, gt_mem (tm1 (List.mem_of_getElem? (i := 7) rfl)) rfl, gt_mem (tm4 (List.mem_of_getElem? (i := 44) rfl)) rfl⟩
theorem ds_X6_isRefused : Ds yX6_isRefused 3 := ⟨by decide +kernel, by decide +kernel, by decide +kernel⟩
theorem lk_X6_277 : LkV RX6 277 yX6_isRefused cX6_isRefused 4 (some .boolean) := ⟨gt_mem (tm4 (List.mem_of_getElem? (i := 46) rfl)) rfl, gt_mem (tm4 (List.mem_of_getElem? (i := 48) rfl)) rfl, gt_sel (List.mem_of_getElem? (i := 12) rfl) rfl, gt_mem (tm1 (List.mem_of_getElem? (i := 1) rfl)) rfl, gt_mem (tm4 (List.mem_of_getElem? (i := 49) rfl)) rfl⟩
theorem fl_X6_56 : Cond.fieldLink RX6 56 (TX6 8).1 (TX6 8).2.1 (TX6 8).2.2.1 ∈ gt := gt_mem (tm2 (List.mem_of_getElem? (i := 5) rfl)) rfl
theorem lk_X6_284 : LkV RX6 284 yX4_isNothing cX4_isNothing 1 (some .boolean) := ⟨gt_mem (tm4 (List.mem_of_getElem? (i := 58) rfl)) rfl, gt_mem (tm4 (List.mem_of_getElem? (i := 30) rfl)) rfl, gt_mem (tm4 (List.mem_of_getElem? (i := 31) rfl)) rfl, gt_mem (tm1 (List.mem_of_getElem? (i := 7) rfl)) rfl, gt_mem (tm4 (List.mem_of_getElem? (i := 32) rfl)) rfl⟩
theorem fl_X6_287 : Cond.fieldLink RX6 287 (TX4 1).1 (TX4 1).2.1 (TX4 1).2.2.1 ∈ gt := gt_mem (tm1 (List.mem_of_getElem? (i := 227) rfl)) rfl
theorem ds_X2_pricesOfSitters : Ds yX2_pricesOfSitters 0 := ⟨by decide +kernel, by decide +kernel, by decide +kernel⟩
theorem lk_X6_290 : LkV RX6 290 yX2_pricesOfSitters cX2_pricesOfSitters 3 (some .int) := ⟨gt_mem (tm4 (List.mem_of_getElem? (i := 59) rfl)) rfl, gt_mem (tm4 (List.mem_of_getElem? (i := 60) rfl)) rfl, gt_mem (tm4 (List.mem_of_getElem? (i := 61) rfl)) rfl, gt_mem (tm1 (List.mem_of_getElem? (i := 2) rfl)) rfl, gt_mem (tm4 (List.mem_of_getElem? (i := 62) rfl)) rfl⟩
theorem kdc_35 : kd 35 = 13 := by decide +kernel
theorem pwI_6_8 (Γ : Gm) (k : Nat) (f : Nat → Int32) (g : Nat → Int64) (x : Int32) : (flds Γ 6 k f g).set 8 (.int x) = flds Γ 6 k (upd f 8 x) g := by simp [flds, entK, upd]
theorem dX6_clean_0 : decode cX6_clean 0 = .ok (.aload_n 0, 1) := by decide +kernel
theorem dX6_clean_1 : decode cX6_clean 1 = .ok (.getfield 10, 3) := by decide +kernel
theorem dX6_clean_4 : decode cX6_clean 4 = .ok (.iload_n 1, 1) := by decide +kernel
theorem dX6_clean_5 : decode cX6_clean 5 = .ok (.invokevirtual 139, 3) := by decide +kernel
theorem dX6_clean_8 : decode cX6_clean 8 = .ok (.ifCond .eq 22, 3) := by decide +kernel
theorem dX6_clean_11 : decode cX6_clean 11 = .ok (.iload_n 2, 1) := by decide +kernel
theorem dX6_clean_12 : decode cX6_clean 12 = .ok (.iconst 0, 1) := by decide +kernel
theorem dX6_clean_13 : decode cX6_clean 13 = .ok (.bipush 60, 2) := by decide +kernel
theorem dX6_clean_15 : decode cX6_clean 15 = .ok (.invokestatic 62, 3) := by decide +kernel
theorem dX6_clean_18 : decode cX6_clean 18 = .ok (.ifCond .eq 12, 3) := by decide +kernel
theorem dX6_clean_21 : decode cX6_clean 21 = .ok (.iload_n 3, 1) := by decide +kernel
theorem dX6_clean_22 : decode cX6_clean 22 = .ok (.iconst 0, 1) := by decide +kernel
theorem dX6_clean_23 : decode cX6_clean 23 = .ok (.iconst 1, 1) := by decide +kernel
theorem dX6_clean_24 : decode cX6_clean 24 = .ok (.invokestatic 62, 3) := by decide +kernel
theorem dX6_clean_27 : decode cX6_clean 27 = .ok (.ifCond .ne 5, 3) := by decide +kernel
theorem dX6_clean_30 : decode cX6_clean 30 = .ok (.iconst (-1), 1) := by decide +kernel
theorem dX6_clean_31 : decode cX6_clean 31 = .ok (.ireturn, 1) := by decide +kernel
theorem dX6_clean_32 : decode cX6_clean 32 = .ok (.sipush 541, 3) := by decide +kernel
theorem dX6_clean_35 : decode cX6_clean 35 = .ok (.istore 4, 2) := by decide +kernel
theorem dX6_clean_37 : decode cX6_clean 37 = .ok (.iconst 0, 1) := by decide +kernel
theorem dX6_clean_38 : decode cX6_clean 38 = .ok (.istore 5, 2) := by decide +kernel
theorem dX6_clean_40 : decode cX6_clean 40 = .ok (.iconst 0, 1) := by decide +kernel
theorem dX6_clean_41 : decode cX6_clean 41 = .ok (.istore 6, 2) := by decide +kernel
theorem dX6_clean_43 : decode cX6_clean 43 = .ok (.iload 6, 2) := by decide +kernel
theorem dX6_clean_45 : decode cX6_clean 45 = .ok (.bipush 20, 2) := by decide +kernel
theorem dX6_clean_47 : decode cX6_clean 47 = .ok (.if_icmp .ge 51, 3) := by decide +kernel
theorem dX6_clean_50 : decode cX6_clean 50 = .ok (.aload_n 0, 1) := by decide +kernel
theorem dX6_clean_51 : decode cX6_clean 51 = .ok (.iload_n 1, 1) := by decide +kernel
theorem dX6_clean_52 : decode cX6_clean 52 = .ok (.iload 6, 2) := by decide +kernel
theorem dX6_clean_54 : decode cX6_clean 54 = .ok (.iload_n 2, 1) := by decide +kernel
theorem dX6_clean_55 : decode cX6_clean 55 = .ok (.invokevirtual 190, 3) := by decide +kernel
theorem dX6_clean_58 : decode cX6_clean 58 = .ok (.aload_n 0, 1) := by decide +kernel
theorem dX6_clean_59 : decode cX6_clean 59 = .ok (.getfield 16, 3) := by decide +kernel
theorem dX6_clean_62 : decode cX6_clean 62 = .ok (.iload_n 1, 1) := by decide +kernel
theorem dX6_clean_63 : decode cX6_clean 63 = .ok (.invokevirtual 148, 3) := by decide +kernel
theorem dX6_clean_66 : decode cX6_clean 66 = .ok (.aload_n 0, 1) := by decide +kernel
theorem dX6_clean_67 : decode cX6_clean 67 = .ok (.getfield 10, 3) := by decide +kernel
theorem dX6_clean_70 : decode cX6_clean 70 = .ok (.iload_n 1, 1) := by decide +kernel
theorem dX6_clean_71 : decode cX6_clean 71 = .ok (.invokevirtual 148, 3) := by decide +kernel
theorem dX6_clean_74 : decode cX6_clean 74 = .ok (.isub, 1) := by decide +kernel
theorem dX6_clean_75 : decode cX6_clean 75 = .ok (.istore 7, 2) := by decide +kernel
theorem dX6_clean_77 : decode cX6_clean 77 = .ok (.iload 7, 2) := by decide +kernel
theorem dX6_clean_79 : decode cX6_clean 79 = .ok (.iload 4, 2) := by decide +kernel
theorem dX6_clean_81 : decode cX6_clean 81 = .ok (.if_icmp .ge 11, 3) := by decide +kernel
theorem dX6_clean_84 : decode cX6_clean 84 = .ok (.iload 7, 2) := by decide +kernel
theorem dX6_clean_86 : decode cX6_clean 86 = .ok (.istore 4, 2) := by decide +kernel
theorem dX6_clean_88 : decode cX6_clean 88 = .ok (.iload 6, 2) := by decide +kernel
theorem dX6_clean_90 : decode cX6_clean 90 = .ok (.istore 5, 2) := by decide +kernel
theorem dX6_clean_92 : decode cX6_clean 92 = .ok (.iinc 6 1, 3) := by decide +kernel
theorem dX6_clean_95 : decode cX6_clean 95 = .ok (.goto (-52), 3) := by decide +kernel
theorem dX6_clean_98 : decode cX6_clean 98 = .ok (.iload_n 3, 1) := by decide +kernel
theorem dX6_clean_99 : decode cX6_clean 99 = .ok (.ifCond .ne 11, 3) := by decide +kernel
theorem dX6_clean_102 : decode cX6_clean 102 = .ok (.iload 5, 2) := by decide +kernel
theorem dX6_clean_104 : decode cX6_clean 104 = .ok (.invokestatic 126, 3) := by decide +kernel
theorem dX6_clean_107 : decode cX6_clean 107 = .ok (.goto 5, 3) := by decide +kernel
theorem dX6_clean_110 : decode cX6_clean 110 = .ok (.iload 4, 2) := by decide +kernel
theorem dX6_clean_112 : decode cX6_clean 112 = .ok (.ireturn, 1) := by decide +kernel
def f_X6_clean_L43 (v1 : Int32) (v2 : Int32) (v3 : Int32) (v4 : Int32) (v5 : Int32) (v6 : Int32) (s : St) : Option ((Int32 × Int32 × Int32 × St) ⊕ (Int32 × St)) := if (nI 20) ≤ v6 then (if ¬ v3 = 0 then (some (Sum.inr ((v4, s)))) else (cl (f_X6_nameOf v5 s) (fun x13 s12 => some (Sum.inr ((x13, s12)))))) else (cl (f_X6_sitThere v1 v6 v2 s) (fun x15 s14 => cl (f_X2_heldBy 14 v1 s14) (fun x17 s16 => cl (f_X2_heldBy 1 v1 s16) (fun x19 s18 => bd (x17 - x19) (fun x20 => if v4 ≤ x20 then (some (Sum.inl (v4, v5, (v6 + (nI 1)), s18))) else (some (Sum.inl (x20, v6, (v6 + (nI 1)), s18))))))))
def f_X6_clean (a1 : Int32) (a2 : Int32) (a3 : Int32) (s : St) : Option (Int32 × St) := cl (f_X2_isSitter 1 a1 s) (fun x2 s1 => if x2 = 0 then (some (((-1), s1))) else (cl (f_X6_isWithin a2 (nI 0) (nI 60) s1) (fun x5 s4 => if x5 = 0 then (some (((-1), s4))) else (cl (f_X6_isWithin a3 (nI 0) (nI 1) s4) (fun x8 s7 => if ¬ x8 = 0 then (lp (fun q : Int32 × Int32 × Int32 × St => f_X6_clean_L43 a1 a2 a3 q.1 q.2.1 q.2.2.1 q.2.2.2) Fu ((nI 541), (nI 0), (nI 0), s7)) else (some (((-1), s7))))))))
set_option maxHeartbeats 4000000 in
set_option maxRecDepth 100000 in
theorem e_X6_clean_L43 {X : Cx} {Γ : Gm} {r0 : Rb} (hX : Amb X Γ cX6_clean RX6 8 (some .int) 6) {v1 : Int32} {v2 : Int32} {v3 : Int32} {v4 : Int32} {v5 : Int32} {v6 : Int32} {s : St} {t : (Int32 × Int32 × Int32 × St) ⊕ (Int32 × St)} (h : f_X6_clean_L43 v1 v2 v3 v4 v5 v6 s = some t) (hk : (Sum.elim (fun q : Int32 × Int32 × Int32 × St => Zw X Γ 8 r0 q.2.2.2 43 [(0, .ref (gL Γ (0))), (1, .int v1), (2, .int v2), (3, .int v3), (4, .int q.1), (5, .int q.2.1), (6, .int q.2.2.1)] []) (fun t : Int32 × St => Rt X Γ r0 (some (Value.int t.1), t.2))) t) : Zw X Γ 8 r0 s 43 [(0, .ref (gL Γ (0))), (1, .int v1), (2, .int v2), (3, .int v3), (4, .int v4), (5, .int v5), (6, .int v6)] [] := by
  unfold f_X6_clean_L43 at h
  refine z_iload hX dX6_clean_43 6 rfl 45 rfl ?_
  refine z_bipush hX (v := (nI 20)) dX6_clean_45 (by decide) 47 rfl ?_
  refine z_icmp_ge hX 98 dX6_clean_47 (by decide) 50 rfl (fun c10 => ?_) (fun c10 => ?_)
  · replace h := br_pos h c10
    refine z_iload_n hX dX6_clean_98 3 rfl 99 rfl ?_
    refine z_if_ne hX 110 dX6_clean_99 (by decide) 102 rfl (fun c11 => ?_) (fun c11 => ?_)
    · replace h := br_pos h c11
      refine z_iload hX dX6_clean_110 4 rfl 112 rfl ?_
      replace h := Option.some.inj h
      subst h
      exact z_iret hX dX6_clean_112 rfl hk
    · replace h := br_neg h c11
      refine z_iload hX dX6_clean_102 5 rfl 104 rfl ?_
      replace h := cl_elim h
      obtain ⟨x13, s12, hx13, h⟩ := h
      refine z_cSi hX (As := [.int v5]) (c_X6_nameOf hx13) lk_X6_126 ds_X6_nameOf rfl (by decide) (by decide) (by decide) dX6_clean_104 rfl 107 rfl ?_
      refine z_goto hX 112 dX6_clean_107 (by decide) ?_
      replace h := Option.some.inj h
      subst h
      exact z_iret hX dX6_clean_112 rfl hk
  · replace h := br_neg h c10
    refine z_aload_n hX dX6_clean_50 0 rfl 51 rfl ?_
    refine z_iload_n hX dX6_clean_51 1 rfl 52 rfl ?_
    refine z_iload hX dX6_clean_52 6 rfl 54 rfl ?_
    refine z_iload_n hX dX6_clean_54 2 rfl 55 rfl ?_
    replace h := cl_elim h
    obtain ⟨x15, s14, hx15, h⟩ := h
    refine z_cV6v hX (b := 0) (As := [.int v1, .int v6, .int v2]) (c_X6_sitThere hx15) lk_X6_190 rfl kdc_0 ds_X6_sitThere rfl (by decide) (by decide) (by decide) dX6_clean_55 rfl 58 rfl ?_
    refine z_aload_n hX dX6_clean_58 0 rfl 59 rfl ?_
    refine z_get6 hX (k := 0) (j := 1) (v := .ref (gL Γ (14))) kdc_0 (by decide) rfl dX6_clean_59 fl_X6_16 62 rfl ?_
    refine z_iload_n hX dX6_clean_62 1 rfl 63 rfl ?_
    replace h := cl_elim h
    obtain ⟨x17, s16, hx17, h⟩ := h
    refine z_cV2i hX (b := 14) (As := [.int v1]) (c_X2_heldBy hx17) lk_X6_148 rfl kdc_14 ds_X2_heldBy rfl (by decide) (by decide) (by decide) dX6_clean_63 rfl 66 rfl ?_
    refine z_aload_n hX dX6_clean_66 0 rfl 67 rfl ?_
    refine z_get6 hX (k := 0) (j := 0) (v := .ref (gL Γ (1))) kdc_0 (by decide) rfl dX6_clean_67 fl_X6_10 70 rfl ?_
    refine z_iload_n hX dX6_clean_70 1 rfl 71 rfl ?_
    replace h := cl_elim h
    obtain ⟨x19, s18, hx19, h⟩ := h
    refine z_cV2i hX (b := 1) (As := [.int v1]) (c_X2_heldBy hx19) lk_X6_148 rfl kdc_1 ds_X2_heldBy rfl (by decide) (by decide) (Nat.le_of_ble_eq_true rfl) dX6_clean_71 rfl 74 rfl ?_
    refine z_isub hX dX6_clean_74 75 rfl ?_
    replace h := bd_elim h
    obtain ⟨x20, ex20, h⟩ := h
    refine z_nm ex20 ?_
    refine z_istore hX (lv2 := [(7, .int x20), (0, .ref (gL Γ (0))), (1, .int v1), (2, .int v2), (3, .int v3), (4, .int v4), (5, .int v5), (6, .int v6)]) dX6_clean_75 (by decide) rfl 77 rfl ?_
    refine z_iload hX dX6_clean_77 0 rfl 79 rfl ?_
    refine z_iload hX dX6_clean_79 5 rfl 81 rfl ?_
    refine z_icmp_ge hX 92 dX6_clean_81 (by decide) 84 rfl (fun c21 => ?_) (fun c21 => ?_)
    · replace h := br_pos h c21
      refine z_iinc hX (v := (v6 + (nI 1))) (lv2 := [(6, .int ((v6 + (nI 1)))), (7, .int x20), (0, .ref (gL Γ (0))), (1, .int v1), (2, .int v2), (3, .int v3), (4, .int v4), (5, .int v5)]) dX6_clean_92 7 rfl rfl (by decide) rfl 95 rfl ?_
      refine z_goto hX 43 dX6_clean_95 (by decide) ?_
      replace h := Option.some.inj h
      subst h
      exact z_sub [2, 3, 4, 5, 6, 7, 0] rfl hk
    · replace h := br_neg h c21
      refine z_iload hX dX6_clean_84 0 rfl 86 rfl ?_
      refine z_istore hX (lv2 := [(4, .int x20), (7, .int x20), (0, .ref (gL Γ (0))), (1, .int v1), (2, .int v2), (3, .int v3), (5, .int v5), (6, .int v6)]) dX6_clean_86 (by decide) rfl 88 rfl ?_
      refine z_iload hX dX6_clean_88 7 rfl 90 rfl ?_
      refine z_istore hX (lv2 := [(5, .int v6), (4, .int x20), (7, .int x20), (0, .ref (gL Γ (0))), (1, .int v1), (2, .int v2), (3, .int v3), (6, .int v6)]) dX6_clean_90 (by decide) rfl 92 rfl ?_
      refine z_iinc hX (v := (v6 + (nI 1))) (lv2 := [(6, .int ((v6 + (nI 1)))), (5, .int v6), (4, .int x20), (7, .int x20), (0, .ref (gL Γ (0))), (1, .int v1), (2, .int v2), (3, .int v3)]) dX6_clean_92 7 rfl rfl (by decide) rfl 95 rfl ?_
      refine z_goto hX 43 dX6_clean_95 (by decide) ?_
      replace h := Option.some.inj h
      subst h
      exact z_sub [4, 5, 6, 7, 2, 1, 0] rfl hk
set_option maxHeartbeats 4000000 in
set_option maxRecDepth 100000 in
theorem e_X6_clean {X : Cx} {Γ : Gm} {r0 : Rb} (hX : Amb X Γ cX6_clean RX6 8 (some .int) 6) {a1 : Int32} {a2 : Int32} {a3 : Int32} {s : St} {t : Int32 × St} (h : f_X6_clean a1 a2 a3 s = some t) (hk : (fun t : Int32 × St => Rt X Γ r0 (some (Value.int t.1), t.2)) t) : Zw X Γ 8 r0 s 0 [(0, .ref (gL Γ (0))), (1, .int a1), (2, .int a2), (3, .int a3)] [] := by
  unfold f_X6_clean at h
  refine z_aload_n hX dX6_clean_0 0 rfl 1 rfl ?_
  refine z_get6 hX (k := 0) (j := 0) (v := .ref (gL Γ (1))) kdc_0 (by decide) rfl dX6_clean_1 fl_X6_10 4 rfl ?_
  refine z_iload_n hX dX6_clean_4 1 rfl 5 rfl ?_
  replace h := cl_elim h
  obtain ⟨x2, s1, hx2, h⟩ := h
  refine z_cV2i hX (b := 1) (As := [.int a1]) (c_X2_isSitter hx2) lk_X6_139 rfl kdc_1 ds_X2_isSitter rfl (by decide) (by decide) (by decide) dX6_clean_5 rfl 8 rfl ?_
  refine z_if_eq hX 30 dX6_clean_8 (by decide) 11 rfl (fun c3 => ?_) (fun c3 => ?_)
  · replace h := br_pos h c3
    refine z_iconst hX (v := (-1)) dX6_clean_30 rfl 31 rfl ?_
    replace h := Option.some.inj h
    subst h
    exact z_iret hX dX6_clean_31 rfl hk
  · replace h := br_neg h c3
    refine z_iload_n hX dX6_clean_11 2 rfl 12 rfl ?_
    refine z_iconst hX (v := (nI 0)) dX6_clean_12 rfl 13 rfl ?_
    refine z_bipush hX (v := (nI 60)) dX6_clean_13 (by decide) 15 rfl ?_
    replace h := cl_elim h
    obtain ⟨x5, s4, hx5, h⟩ := h
    refine z_cSi hX (As := [.int a2, .int ((nI 0)), .int ((nI 60))]) (c_X6_isWithin hx5) lk_X6_62 ds_X6_isWithin rfl (by decide) (by decide) (by decide) dX6_clean_15 rfl 18 rfl ?_
    refine z_if_eq hX 30 dX6_clean_18 (by decide) 21 rfl (fun c6 => ?_) (fun c6 => ?_)
    · replace h := br_pos h c6
      refine z_iconst hX (v := (-1)) dX6_clean_30 rfl 31 rfl ?_
      replace h := Option.some.inj h
      subst h
      exact z_iret hX dX6_clean_31 rfl hk
    · replace h := br_neg h c6
      refine z_iload_n hX dX6_clean_21 3 rfl 22 rfl ?_
      refine z_iconst hX (v := (nI 0)) dX6_clean_22 rfl 23 rfl ?_
      refine z_iconst hX (v := (nI 1)) dX6_clean_23 rfl 24 rfl ?_
      replace h := cl_elim h
      obtain ⟨x8, s7, hx8, h⟩ := h
      refine z_cSi hX (As := [.int a3, .int ((nI 0)), .int ((nI 1))]) (c_X6_isWithin hx8) lk_X6_62 ds_X6_isWithin rfl (by decide) (by decide) (by decide) dX6_clean_24 rfl 27 rfl ?_
      refine z_if_ne hX 32 dX6_clean_27 (by decide) 30 rfl (fun c9 => ?_) (fun c9 => ?_)
      · replace h := br_pos h c9
        refine z_sipush hX (v := (nI 541)) dX6_clean_32 (by decide) 35 rfl ?_
        refine z_istore hX (lv2 := [(4, .int ((nI 541))), (0, .ref (gL Γ (0))), (1, .int a1), (2, .int a2), (3, .int a3)]) dX6_clean_35 (by decide) rfl 37 rfl ?_
        refine z_iconst hX (v := (nI 0)) dX6_clean_37 rfl 38 rfl ?_
        refine z_istore hX (lv2 := [(5, .int ((nI 0))), (4, .int ((nI 541))), (0, .ref (gL Γ (0))), (1, .int a1), (2, .int a2), (3, .int a3)]) dX6_clean_38 (by decide) rfl 40 rfl ?_
        refine z_iconst hX (v := (nI 0)) dX6_clean_40 rfl 41 rfl ?_
        refine z_istore hX (lv2 := [(6, .int ((nI 0))), (5, .int ((nI 0))), (4, .int ((nI 541))), (0, .ref (gL Γ (0))), (1, .int a1), (2, .int a2), (3, .int a3)]) dX6_clean_41 (by decide) rfl 43 rfl ?_
        exact z_sub [3, 4, 5, 6, 2, 1, 0] rfl (lp_ok (Z := fun q : Int32 × Int32 × Int32 × St => Zw X Γ 8 r0 q.2.2.2 43 [(0, .ref (gL Γ (0))), (1, .int a1), (2, .int a2), (3, .int a3), (4, .int q.1), (5, .int q.2.1), (6, .int q.2.2.1)] []) (fun q t h hk => e_X6_clean_L43 hX h hk) Fu _ _ h hk)
      · replace h := br_neg h c9
        refine z_iconst hX (v := (-1)) dX6_clean_30 rfl 31 rfl ?_
        replace h := Option.some.inj h
        subst h
        exact z_iret hX dX6_clean_31 rfl hk
theorem c_X6_clean {lc : Launch} {Γ : Gm} {a1 : Int32} {a2 : Int32} {a3 : Int32} {s s2 : St} {v : Int32} (h : f_X6_clean a1 a2 a3 s = some (v, s2)) : Ct lc Γ yX6_clean cX6_clean 8 (some .int) 6 [.ref (gL Γ (0)), .int a1, .int a2, .int a3] s (some (.int v), s2) := Ct.of (by decide +kernel) (Nat.le_of_ble_eq_true rfl) (fun X hl hX => e_X6_clean hX h rfl)
theorem dX6_need_0 : decode cX6_need 0 = .ok (.aload_n 0, 1) := by decide +kernel
theorem dX6_need_1 : decode cX6_need 1 = .ok (.getfield 10, 3) := by decide +kernel
theorem dX6_need_4 : decode cX6_need 4 = .ok (.iload_n 1, 1) := by decide +kernel
theorem dX6_need_5 : decode cX6_need 5 = .ok (.invokevirtual 139, 3) := by decide +kernel
theorem dX6_need_8 : decode cX6_need 8 = .ok (.ifCond .eq 25, 3) := by decide +kernel
theorem dX6_need_11 : decode cX6_need 11 = .ok (.aload_n 0, 1) := by decide +kernel
theorem dX6_need_12 : decode cX6_need 12 = .ok (.getfield 10, 3) := by decide +kernel
theorem dX6_need_15 : decode cX6_need 15 = .ok (.iload_n 2, 1) := by decide +kernel
theorem dX6_need_16 : decode cX6_need 16 = .ok (.invokevirtual 117, 3) := by decide +kernel
theorem dX6_need_19 : decode cX6_need 19 = .ok (.ifCond .eq 14, 3) := by decide +kernel
theorem dX6_need_22 : decode cX6_need 22 = .ok (.iload_n 3, 1) := by decide +kernel
theorem dX6_need_23 : decode cX6_need 23 = .ok (.iconst 1, 1) := by decide +kernel
theorem dX6_need_24 : decode cX6_need 24 = .ok (.sipush 999, 3) := by decide +kernel
theorem dX6_need_27 : decode cX6_need 27 = .ok (.invokestatic 62, 3) := by decide +kernel
theorem dX6_need_30 : decode cX6_need 30 = .ok (.ifCond .ne 5, 3) := by decide +kernel
theorem dX6_need_33 : decode cX6_need 33 = .ok (.iconst (-1), 1) := by decide +kernel
theorem dX6_need_34 : decode cX6_need 34 = .ok (.ireturn, 1) := by decide +kernel
theorem dX6_need_35 : decode cX6_need 35 = .ok (.iconst 0, 1) := by decide +kernel
theorem dX6_need_36 : decode cX6_need 36 = .ok (.istore 4, 2) := by decide +kernel
theorem dX6_need_38 : decode cX6_need 38 = .ok (.iload 4, 2) := by decide +kernel
theorem dX6_need_40 : decode cX6_need 40 = .ok (.bipush 9, 2) := by decide +kernel
theorem dX6_need_42 : decode cX6_need 42 = .ok (.if_icmp .gt 57, 3) := by decide +kernel
theorem dX6_need_45 : decode cX6_need 45 = .ok (.aload_n 0, 1) := by decide +kernel
theorem dX6_need_46 : decode cX6_need 46 = .ok (.getfield 16, 3) := by decide +kernel
theorem dX6_need_49 : decode cX6_need 49 = .ok (.aload_n 0, 1) := by decide +kernel
theorem dX6_need_50 : decode cX6_need 50 = .ok (.getfield 10, 3) := by decide +kernel
theorem dX6_need_53 : decode cX6_need 53 = .ok (.invokevirtual 83, 3) := by decide +kernel
theorem dX6_need_56 : decode cX6_need 56 = .ok (.aload_n 0, 1) := by decide +kernel
theorem dX6_need_57 : decode cX6_need 57 = .ok (.getfield 16, 3) := by decide +kernel
theorem dX6_need_60 : decode cX6_need 60 = .ok (.getfield 145, 3) := by decide +kernel
theorem dX6_need_63 : decode cX6_need 63 = .ok (.iload_n 1, 1) := by decide +kernel
theorem dX6_need_64 : decode cX6_need 64 = .ok (.iload 4, 2) := by decide +kernel
theorem dX6_need_66 : decode cX6_need 66 = .ok (.iastore, 1) := by decide +kernel
theorem dX6_need_67 : decode cX6_need 67 = .ok (.aload_n 0, 1) := by decide +kernel
theorem dX6_need_68 : decode cX6_need 68 = .ok (.getfield 16, 3) := by decide +kernel
theorem dX6_need_71 : decode cX6_need 71 = .ok (.bipush 30, 2) := by decide +kernel
theorem dX6_need_73 : decode cX6_need 73 = .ok (.invokevirtual 180, 3) := by decide +kernel
theorem dX6_need_76 : decode cX6_need 76 = .ok (.pop, 1) := by decide +kernel
theorem dX6_need_77 : decode cX6_need 77 = .ok (.aload_n 0, 1) := by decide +kernel
theorem dX6_need_78 : decode cX6_need 78 = .ok (.getfield 16, 3) := by decide +kernel
theorem dX6_need_81 : decode cX6_need 81 = .ok (.iload_n 1, 1) := by decide +kernel
theorem dX6_need_82 : decode cX6_need 82 = .ok (.iload_n 2, 1) := by decide +kernel
theorem dX6_need_83 : decode cX6_need 83 = .ok (.invokevirtual 157, 3) := by decide +kernel
theorem dX6_need_86 : decode cX6_need 86 = .ok (.iload_n 3, 1) := by decide +kernel
theorem dX6_need_87 : decode cX6_need 87 = .ok (.if_icmp .lt 6, 3) := by decide +kernel
theorem dX6_need_90 : decode cX6_need 90 = .ok (.iload 4, 2) := by decide +kernel
theorem dX6_need_92 : decode cX6_need 92 = .ok (.ireturn, 1) := by decide +kernel
theorem dX6_need_93 : decode cX6_need 93 = .ok (.iinc 4 1, 3) := by decide +kernel
theorem dX6_need_96 : decode cX6_need 96 = .ok (.goto (-58), 3) := by decide +kernel
theorem dX6_need_99 : decode cX6_need 99 = .ok (.bipush (-4), 2) := by decide +kernel
theorem dX6_need_101 : decode cX6_need 101 = .ok (.ireturn, 1) := by decide +kernel
def f_X6_need_L38 (v1 : Int32) (v2 : Int32) (v3 : Int32) (v4 : Int32) (s : St) : Option ((Int32 × St) ⊕ (Int32 × St)) := if (nI 9) < v4 then (some (Sum.inr (((-4), s)))) else (cl (f_X2_copyOf 14 1 s) (fun x12 s11 => if inb v1 (lnI 23) = true then bd (wI s11 23 (v1).toNatClampNeg v4) (fun s14 => cl (f_X2_goOn 14 (nI 30) s14) (fun x16 s15 => cl (f_X2_held 14 v1 v2 s15) (fun x18 s17 => if x18 < v3 then (some (Sum.inl ((v4 + (nI 1)), s17))) else (some (Sum.inr ((v4, s17))))))) else none))
def f_X6_need (a1 : Int32) (a2 : Int32) (a3 : Int32) (s : St) : Option (Int32 × St) := cl (f_X2_isSitter 1 a1 s) (fun x2 s1 => if x2 = 0 then (some (((-1), s1))) else (cl (f_X2_isLife 1 a2 s1) (fun x5 s4 => if x5 = 0 then (some (((-1), s4))) else (cl (f_X6_isWithin a3 (nI 1) (nI 999) s4) (fun x8 s7 => if ¬ x8 = 0 then (lp (fun q : Int32 × St => f_X6_need_L38 a1 a2 a3 q.1 q.2) Fu ((nI 0), s7)) else (some (((-1), s7))))))))
set_option maxHeartbeats 4000000 in
set_option maxRecDepth 100000 in
theorem e_X6_need_L38 {X : Cx} {Γ : Gm} {r0 : Rb} (hX : Amb X Γ cX6_need RX6 5 (some .int) 5) {v1 : Int32} {v2 : Int32} {v3 : Int32} {v4 : Int32} {s : St} {t : (Int32 × St) ⊕ (Int32 × St)} (h : f_X6_need_L38 v1 v2 v3 v4 s = some t) (hk : (Sum.elim (fun q : Int32 × St => Zw X Γ 5 r0 q.2 38 [(0, .ref (gL Γ (0))), (1, .int v1), (2, .int v2), (3, .int v3), (4, .int q.1)] []) (fun t : Int32 × St => Rt X Γ r0 (some (Value.int t.1), t.2))) t) : Zw X Γ 5 r0 s 38 [(0, .ref (gL Γ (0))), (1, .int v1), (2, .int v2), (3, .int v3), (4, .int v4)] [] := by
  unfold f_X6_need_L38 at h
  refine z_iload hX dX6_need_38 4 rfl 40 rfl ?_
  refine z_bipush hX (v := (nI 9)) dX6_need_40 (by decide) 42 rfl ?_
  refine z_icmp_gt hX 99 dX6_need_42 (by decide) 45 rfl (fun c10 => ?_) (fun c10 => ?_)
  · replace h := br_pos h c10
    refine z_bipush hX (v := (-4)) dX6_need_99 (by decide) 101 rfl ?_
    replace h := Option.some.inj h
    subst h
    exact z_iret hX dX6_need_101 rfl hk
  · replace h := br_neg h c10
    refine z_aload_n hX dX6_need_45 0 rfl 46 rfl ?_
    refine z_get6 hX (k := 0) (j := 1) (v := .ref (gL Γ (14))) kdc_0 (by decide) rfl dX6_need_46 fl_X6_16 49 rfl ?_
    refine z_aload_n hX dX6_need_49 0 rfl 50 rfl ?_
    refine z_get6 hX (k := 0) (j := 0) (v := .ref (gL Γ (1))) kdc_0 (by decide) rfl dX6_need_50 fl_X6_10 53 rfl ?_
    replace h := cl_elim h
    obtain ⟨x12, s11, hx12, h⟩ := h
    refine z_cV2v hX (b := 14) (As := [.ref (gL Γ (1))]) (c_X2_copyOf hx12) lk_X6_83 rfl kdc_14 ds_X2_copyOf rfl (by decide) (by decide) (by decide) dX6_need_53 rfl 56 rfl ?_
    refine z_aload_n hX dX6_need_56 0 rfl 57 rfl ?_
    refine z_get6 hX (k := 0) (j := 1) (v := .ref (gL Γ (14))) kdc_0 (by decide) rfl dX6_need_57 fl_X6_16 60 rfl ?_
    refine z_get2 hX (k := 14) (j := 11) (v := .ref (gL Γ (23))) kdc_14 (by decide) rfl dX6_need_60 fl_X6_145 63 rfl ?_
    refine z_iload_n hX dX6_need_63 1 rfl 64 rfl ?_
    refine z_iload hX dX6_need_64 4 rfl 66 rfl ?_
    replace h := gd_elim h
    obtain ⟨g13, h⟩ := h
    replace h := bd_elim h
    obtain ⟨s14, es14, h⟩ := h
    refine z_iast hX (inb_vp g13) dX6_need_66 es14 67 rfl ?_
    refine z_aload_n hX dX6_need_67 0 rfl 68 rfl ?_
    refine z_get6 hX (k := 0) (j := 1) (v := .ref (gL Γ (14))) kdc_0 (by decide) rfl dX6_need_68 fl_X6_16 71 rfl ?_
    refine z_bipush hX (v := (nI 30)) dX6_need_71 (by decide) 73 rfl ?_
    replace h := cl_elim h
    obtain ⟨x16, s15, hx16, h⟩ := h
    refine z_cV2i hX (b := 14) (As := [.int ((nI 30))]) (c_X2_goOn hx16) lk_X6_180 rfl kdc_14 ds_X2_goOn rfl (by decide) (by decide) (by decide) dX6_need_73 rfl 76 rfl ?_
    refine z_pop hX dX6_need_76 rfl 77 rfl ?_
    refine z_aload_n hX dX6_need_77 0 rfl 78 rfl ?_
    refine z_get6 hX (k := 0) (j := 1) (v := .ref (gL Γ (14))) kdc_0 (by decide) rfl dX6_need_78 fl_X6_16 81 rfl ?_
    refine z_iload_n hX dX6_need_81 1 rfl 82 rfl ?_
    refine z_iload_n hX dX6_need_82 2 rfl 83 rfl ?_
    replace h := cl_elim h
    obtain ⟨x18, s17, hx18, h⟩ := h
    refine z_cV2i hX (b := 14) (As := [.int v1, .int v2]) (c_X2_held hx18) lk_X6_157 rfl kdc_14 ds_X2_held rfl (by decide) (by decide) (by decide) dX6_need_83 rfl 86 rfl ?_
    refine z_iload_n hX dX6_need_86 3 rfl 87 rfl ?_
    refine z_icmp_lt hX 93 dX6_need_87 (by decide) 90 rfl (fun c19 => ?_) (fun c19 => ?_)
    · replace h := br_pos h c19
      refine z_iinc hX (v := (v4 + (nI 1))) (lv2 := [(4, .int ((v4 + (nI 1)))), (0, .ref (gL Γ (0))), (1, .int v1), (2, .int v2), (3, .int v3)]) dX6_need_93 4 rfl rfl (by decide) rfl 96 rfl ?_
      refine z_goto hX 38 dX6_need_96 (by decide) ?_
      replace h := Option.some.inj h
      subst h
      exact z_sub [1, 2, 3, 4, 0] rfl hk
    · replace h := br_neg h c19
      refine z_iload hX dX6_need_90 4 rfl 92 rfl ?_
      replace h := Option.some.inj h
      subst h
      exact z_iret hX dX6_need_92 rfl hk
set_option maxHeartbeats 4000000 in
set_option maxRecDepth 100000 in
theorem e_X6_need {X : Cx} {Γ : Gm} {r0 : Rb} (hX : Amb X Γ cX6_need RX6 5 (some .int) 5) {a1 : Int32} {a2 : Int32} {a3 : Int32} {s : St} {t : Int32 × St} (h : f_X6_need a1 a2 a3 s = some t) (hk : (fun t : Int32 × St => Rt X Γ r0 (some (Value.int t.1), t.2)) t) : Zw X Γ 5 r0 s 0 [(0, .ref (gL Γ (0))), (1, .int a1), (2, .int a2), (3, .int a3)] [] := by
  unfold f_X6_need at h
  refine z_aload_n hX dX6_need_0 0 rfl 1 rfl ?_
  refine z_get6 hX (k := 0) (j := 0) (v := .ref (gL Γ (1))) kdc_0 (by decide) rfl dX6_need_1 fl_X6_10 4 rfl ?_
  refine z_iload_n hX dX6_need_4 1 rfl 5 rfl ?_
  replace h := cl_elim h
  obtain ⟨x2, s1, hx2, h⟩ := h
  refine z_cV2i hX (b := 1) (As := [.int a1]) (c_X2_isSitter hx2) lk_X6_139 rfl kdc_1 ds_X2_isSitter rfl (by decide) (by decide) (by decide) dX6_need_5 rfl 8 rfl ?_
  refine z_if_eq hX 33 dX6_need_8 (by decide) 11 rfl (fun c3 => ?_) (fun c3 => ?_)
  · replace h := br_pos h c3
    refine z_iconst hX (v := (-1)) dX6_need_33 rfl 34 rfl ?_
    replace h := Option.some.inj h
    subst h
    exact z_iret hX dX6_need_34 rfl hk
  · replace h := br_neg h c3
    refine z_aload_n hX dX6_need_11 0 rfl 12 rfl ?_
    refine z_get6 hX (k := 0) (j := 0) (v := .ref (gL Γ (1))) kdc_0 (by decide) rfl dX6_need_12 fl_X6_10 15 rfl ?_
    refine z_iload_n hX dX6_need_15 2 rfl 16 rfl ?_
    replace h := cl_elim h
    obtain ⟨x5, s4, hx5, h⟩ := h
    refine z_cV2i hX (b := 1) (As := [.int a2]) (c_X2_isLife hx5) lk_X6_117 rfl kdc_1 ds_X2_isLife rfl (by decide) (by decide) (by decide) dX6_need_16 rfl 19 rfl ?_
    refine z_if_eq hX 33 dX6_need_19 (by decide) 22 rfl (fun c6 => ?_) (fun c6 => ?_)
    · replace h := br_pos h c6
      refine z_iconst hX (v := (-1)) dX6_need_33 rfl 34 rfl ?_
      replace h := Option.some.inj h
      subst h
      exact z_iret hX dX6_need_34 rfl hk
    · replace h := br_neg h c6
      refine z_iload_n hX dX6_need_22 3 rfl 23 rfl ?_
      refine z_iconst hX (v := (nI 1)) dX6_need_23 rfl 24 rfl ?_
      refine z_sipush hX (v := (nI 999)) dX6_need_24 (by decide) 27 rfl ?_
      replace h := cl_elim h
      obtain ⟨x8, s7, hx8, h⟩ := h
      refine z_cSi hX (As := [.int a3, .int ((nI 1)), .int ((nI 999))]) (c_X6_isWithin hx8) lk_X6_62 ds_X6_isWithin rfl (by decide) (by decide) (by decide) dX6_need_27 rfl 30 rfl ?_
      refine z_if_ne hX 35 dX6_need_30 (by decide) 33 rfl (fun c9 => ?_) (fun c9 => ?_)
      · replace h := br_pos h c9
        refine z_iconst hX (v := (nI 0)) dX6_need_35 rfl 36 rfl ?_
        refine z_istore hX (lv2 := [(4, .int ((nI 0))), (0, .ref (gL Γ (0))), (1, .int a1), (2, .int a2), (3, .int a3)]) dX6_need_36 (by decide) rfl 38 rfl ?_
        exact z_sub [1, 2, 3, 4, 0] rfl (lp_ok (Z := fun q : Int32 × St => Zw X Γ 5 r0 q.2 38 [(0, .ref (gL Γ (0))), (1, .int a1), (2, .int a2), (3, .int a3), (4, .int q.1)] []) (fun q t h hk => e_X6_need_L38 hX h hk) Fu _ _ h hk)
      · replace h := br_neg h c9
        refine z_iconst hX (v := (-1)) dX6_need_33 rfl 34 rfl ?_
        replace h := Option.some.inj h
        subst h
        exact z_iret hX dX6_need_34 rfl hk
theorem c_X6_need {lc : Launch} {Γ : Gm} {a1 : Int32} {a2 : Int32} {a3 : Int32} {s s2 : St} {v : Int32} (h : f_X6_need a1 a2 a3 s = some (v, s2)) : Ct lc Γ yX6_need cX6_need 5 (some .int) 5 [.ref (gL Γ (0)), .int a1, .int a2, .int a3] s (some (.int v), s2) := Ct.of (by decide +kernel) (Nat.le_of_ble_eq_true rfl) (fun X hl hX => e_X6_need hX h rfl)
theorem dX6_heldIfSwapped_0 : decode cX6_heldIfSwapped 0 = .ok (.aload_n 0, 1) := by decide +kernel
theorem dX6_heldIfSwapped_1 : decode cX6_heldIfSwapped 1 = .ok (.getfield 16, 3) := by decide +kernel
theorem dX6_heldIfSwapped_4 : decode cX6_heldIfSwapped 4 = .ok (.aload_n 0, 1) := by decide +kernel
theorem dX6_heldIfSwapped_5 : decode cX6_heldIfSwapped 5 = .ok (.getfield 10, 3) := by decide +kernel
theorem dX6_heldIfSwapped_8 : decode cX6_heldIfSwapped 8 = .ok (.invokevirtual 83, 3) := by decide +kernel
theorem dX6_heldIfSwapped_11 : decode cX6_heldIfSwapped 11 = .ok (.aload_n 0, 1) := by decide +kernel
theorem dX6_heldIfSwapped_12 : decode cX6_heldIfSwapped 12 = .ok (.getfield 16, 3) := by decide +kernel
theorem dX6_heldIfSwapped_15 : decode cX6_heldIfSwapped 15 = .ok (.getfield 142, 3) := by decide +kernel
theorem dX6_heldIfSwapped_18 : decode cX6_heldIfSwapped 18 = .ok (.iload_n 1, 1) := by decide +kernel
theorem dX6_heldIfSwapped_19 : decode cX6_heldIfSwapped 19 = .ok (.aload_n 0, 1) := by decide +kernel
theorem dX6_heldIfSwapped_20 : decode cX6_heldIfSwapped 20 = .ok (.getfield 10, 3) := by decide +kernel
theorem dX6_heldIfSwapped_23 : decode cX6_heldIfSwapped 23 = .ok (.getfield 142, 3) := by decide +kernel
theorem dX6_heldIfSwapped_26 : decode cX6_heldIfSwapped 26 = .ok (.iload_n 2, 1) := by decide +kernel
theorem dX6_heldIfSwapped_27 : decode cX6_heldIfSwapped 27 = .ok (.iaload, 1) := by decide +kernel
theorem dX6_heldIfSwapped_28 : decode cX6_heldIfSwapped 28 = .ok (.iastore, 1) := by decide +kernel
theorem dX6_heldIfSwapped_29 : decode cX6_heldIfSwapped 29 = .ok (.aload_n 0, 1) := by decide +kernel
theorem dX6_heldIfSwapped_30 : decode cX6_heldIfSwapped 30 = .ok (.getfield 16, 3) := by decide +kernel
theorem dX6_heldIfSwapped_33 : decode cX6_heldIfSwapped 33 = .ok (.getfield 142, 3) := by decide +kernel
theorem dX6_heldIfSwapped_36 : decode cX6_heldIfSwapped 36 = .ok (.iload_n 2, 1) := by decide +kernel
theorem dX6_heldIfSwapped_37 : decode cX6_heldIfSwapped 37 = .ok (.aload_n 0, 1) := by decide +kernel
theorem dX6_heldIfSwapped_38 : decode cX6_heldIfSwapped 38 = .ok (.getfield 10, 3) := by decide +kernel
theorem dX6_heldIfSwapped_41 : decode cX6_heldIfSwapped 41 = .ok (.getfield 142, 3) := by decide +kernel
theorem dX6_heldIfSwapped_44 : decode cX6_heldIfSwapped 44 = .ok (.iload_n 1, 1) := by decide +kernel
theorem dX6_heldIfSwapped_45 : decode cX6_heldIfSwapped 45 = .ok (.iaload, 1) := by decide +kernel
theorem dX6_heldIfSwapped_46 : decode cX6_heldIfSwapped 46 = .ok (.iastore, 1) := by decide +kernel
theorem dX6_heldIfSwapped_47 : decode cX6_heldIfSwapped 47 = .ok (.aload_n 0, 1) := by decide +kernel
theorem dX6_heldIfSwapped_48 : decode cX6_heldIfSwapped 48 = .ok (.getfield 16, 3) := by decide +kernel
theorem dX6_heldIfSwapped_51 : decode cX6_heldIfSwapped 51 = .ok (.iload_n 3, 1) := by decide +kernel
theorem dX6_heldIfSwapped_52 : decode cX6_heldIfSwapped 52 = .ok (.invokevirtual 180, 3) := by decide +kernel
theorem dX6_heldIfSwapped_55 : decode cX6_heldIfSwapped 55 = .ok (.pop, 1) := by decide +kernel
theorem dX6_heldIfSwapped_56 : decode cX6_heldIfSwapped 56 = .ok (.aload_n 0, 1) := by decide +kernel
theorem dX6_heldIfSwapped_57 : decode cX6_heldIfSwapped 57 = .ok (.getfield 16, 3) := by decide +kernel
theorem dX6_heldIfSwapped_60 : decode cX6_heldIfSwapped 60 = .ok (.invokevirtual 113, 3) := by decide +kernel
theorem dX6_heldIfSwapped_63 : decode cX6_heldIfSwapped 63 = .ok (.ireturn, 1) := by decide +kernel
def f_X6_heldIfSwapped (a1 : Int32) (a2 : Int32) (a3 : Int32) (s : St) : Option (Int32 × St) := cl (f_X2_copyOf 14 1 s) (fun x2 s1 => if inb a2 (lnI 9) = true then if inb a1 (lnI 22) = true then bd (wI s1 22 (a1).toNatClampNeg (s1.1 9 (a2).toNatClampNeg)) (fun s5 => if inb a1 (lnI 9) = true then if inb a2 (lnI 22) = true then bd (wI s5 22 (a2).toNatClampNeg (s5.1 9 (a1).toNatClampNeg)) (fun s8 => cl (f_X2_goOn 14 a3 s8) (fun x10 s9 => cl (f_X2_heldByAll 14 s9) (fun x12 s11 => some ((x12, s11))))) else none else none) else none else none)
set_option maxHeartbeats 4000000 in
set_option maxRecDepth 100000 in
theorem e_X6_heldIfSwapped {X : Cx} {Γ : Gm} {r0 : Rb} (hX : Amb X Γ cX6_heldIfSwapped RX6 4 (some .int) 5) {a1 : Int32} {a2 : Int32} {a3 : Int32} {s : St} {t : Int32 × St} (h : f_X6_heldIfSwapped a1 a2 a3 s = some t) (hk : (fun t : Int32 × St => Rt X Γ r0 (some (Value.int t.1), t.2)) t) : Zw X Γ 4 r0 s 0 [(0, .ref (gL Γ (0))), (1, .int a1), (2, .int a2), (3, .int a3)] [] := by
  unfold f_X6_heldIfSwapped at h
  refine z_aload_n hX dX6_heldIfSwapped_0 0 rfl 1 rfl ?_
  refine z_get6 hX (k := 0) (j := 1) (v := .ref (gL Γ (14))) kdc_0 (by decide) rfl dX6_heldIfSwapped_1 fl_X6_16 4 rfl ?_
  refine z_aload_n hX dX6_heldIfSwapped_4 0 rfl 5 rfl ?_
  refine z_get6 hX (k := 0) (j := 0) (v := .ref (gL Γ (1))) kdc_0 (by decide) rfl dX6_heldIfSwapped_5 fl_X6_10 8 rfl ?_
  replace h := cl_elim h
  obtain ⟨x2, s1, hx2, h⟩ := h
  refine z_cV2v hX (b := 14) (As := [.ref (gL Γ (1))]) (c_X2_copyOf hx2) lk_X6_83 rfl kdc_14 ds_X2_copyOf rfl (by decide) (by decide) (by decide) dX6_heldIfSwapped_8 rfl 11 rfl ?_
  refine z_aload_n hX dX6_heldIfSwapped_11 0 rfl 12 rfl ?_
  refine z_get6 hX (k := 0) (j := 1) (v := .ref (gL Γ (14))) kdc_0 (by decide) rfl dX6_heldIfSwapped_12 fl_X6_16 15 rfl ?_
  refine z_get2 hX (k := 14) (j := 10) (v := .ref (gL Γ (22))) kdc_14 (by decide) rfl dX6_heldIfSwapped_15 fl_X6_142 18 rfl ?_
  refine z_iload_n hX dX6_heldIfSwapped_18 1 rfl 19 rfl ?_
  refine z_aload_n hX dX6_heldIfSwapped_19 0 rfl 20 rfl ?_
  refine z_get6 hX (k := 0) (j := 0) (v := .ref (gL Γ (1))) kdc_0 (by decide) rfl dX6_heldIfSwapped_20 fl_X6_10 23 rfl ?_
  refine z_get2 hX (k := 1) (j := 10) (v := .ref (gL Γ (9))) kdc_1 (by decide) rfl dX6_heldIfSwapped_23 fl_X6_142 26 rfl ?_
  refine z_iload_n hX dX6_heldIfSwapped_26 2 rfl 27 rfl ?_
  replace h := gd_elim h
  obtain ⟨g3, h⟩ := h
  refine z_iald hX (inb_vp g3) dX6_heldIfSwapped_27 28 rfl ?_
  replace h := gd_elim h
  obtain ⟨g4, h⟩ := h
  replace h := bd_elim h
  obtain ⟨s5, es5, h⟩ := h
  refine z_iast hX (inb_vp g4) dX6_heldIfSwapped_28 es5 29 rfl ?_
  refine z_aload_n hX dX6_heldIfSwapped_29 0 rfl 30 rfl ?_
  refine z_get6 hX (k := 0) (j := 1) (v := .ref (gL Γ (14))) kdc_0 (by decide) rfl dX6_heldIfSwapped_30 fl_X6_16 33 rfl ?_
  refine z_get2 hX (k := 14) (j := 10) (v := .ref (gL Γ (22))) kdc_14 (by decide) rfl dX6_heldIfSwapped_33 fl_X6_142 36 rfl ?_
  refine z_iload_n hX dX6_heldIfSwapped_36 2 rfl 37 rfl ?_
  refine z_aload_n hX dX6_heldIfSwapped_37 0 rfl 38 rfl ?_
  refine z_get6 hX (k := 0) (j := 0) (v := .ref (gL Γ (1))) kdc_0 (by decide) rfl dX6_heldIfSwapped_38 fl_X6_10 41 rfl ?_
  refine z_get2 hX (k := 1) (j := 10) (v := .ref (gL Γ (9))) kdc_1 (by decide) rfl dX6_heldIfSwapped_41 fl_X6_142 44 rfl ?_
  refine z_iload_n hX dX6_heldIfSwapped_44 1 rfl 45 rfl ?_
  replace h := gd_elim h
  obtain ⟨g6, h⟩ := h
  refine z_iald hX (inb_vp g6) dX6_heldIfSwapped_45 46 rfl ?_
  replace h := gd_elim h
  obtain ⟨g7, h⟩ := h
  replace h := bd_elim h
  obtain ⟨s8, es8, h⟩ := h
  refine z_iast hX (inb_vp g7) dX6_heldIfSwapped_46 es8 47 rfl ?_
  refine z_aload_n hX dX6_heldIfSwapped_47 0 rfl 48 rfl ?_
  refine z_get6 hX (k := 0) (j := 1) (v := .ref (gL Γ (14))) kdc_0 (by decide) rfl dX6_heldIfSwapped_48 fl_X6_16 51 rfl ?_
  refine z_iload_n hX dX6_heldIfSwapped_51 3 rfl 52 rfl ?_
  replace h := cl_elim h
  obtain ⟨x10, s9, hx10, h⟩ := h
  refine z_cV2i hX (b := 14) (As := [.int a3]) (c_X2_goOn hx10) lk_X6_180 rfl kdc_14 ds_X2_goOn rfl (by decide) (by decide) (by decide) dX6_heldIfSwapped_52 rfl 55 rfl ?_
  refine z_pop hX dX6_heldIfSwapped_55 rfl 56 rfl ?_
  refine z_aload_n hX dX6_heldIfSwapped_56 0 rfl 57 rfl ?_
  refine z_get6 hX (k := 0) (j := 1) (v := .ref (gL Γ (14))) kdc_0 (by decide) rfl dX6_heldIfSwapped_57 fl_X6_16 60 rfl ?_
  replace h := cl_elim h
  obtain ⟨x12, s11, hx12, h⟩ := h
  refine z_cV2i hX (b := 14) (As := []) (c_X2_heldByAll hx12) lk_X6_113 rfl kdc_14 ds_X2_heldByAll rfl (by decide) (by decide) (by decide) dX6_heldIfSwapped_60 rfl 63 rfl ?_
  replace h := Option.some.inj h
  subst h
  exact z_iret hX dX6_heldIfSwapped_63 rfl hk
theorem c_X6_heldIfSwapped {lc : Launch} {Γ : Gm} {a1 : Int32} {a2 : Int32} {a3 : Int32} {s s2 : St} {v : Int32} (h : f_X6_heldIfSwapped a1 a2 a3 s = some (v, s2)) : Ct lc Γ yX6_heldIfSwapped cX6_heldIfSwapped 4 (some .int) 5 [.ref (gL Γ (0)), .int a1, .int a2, .int a3] s (some (.int v), s2) := Ct.of (by decide +kernel) (Nat.le_of_ble_eq_true rfl) (fun X hl hX => e_X6_heldIfSwapped hX h rfl)
theorem dX6_swap_0 : decode cX6_swap 0 = .ok (.iload_n 1, 1) := by decide +kernel
theorem dX6_swap_1 : decode cX6_swap 1 = .ok (.iconst 0, 1) := by decide +kernel
theorem dX6_swap_2 : decode cX6_swap 2 = .ok (.bipush 60, 2) := by decide +kernel
theorem dX6_swap_4 : decode cX6_swap 4 = .ok (.invokestatic 62, 3) := by decide +kernel
theorem dX6_swap_7 : decode cX6_swap 7 = .ok (.ifCond .eq 12, 3) := by decide +kernel
theorem dX6_swap_10 : decode cX6_swap 10 = .ok (.iload_n 2, 1) := by decide +kernel
theorem dX6_swap_11 : decode cX6_swap 11 = .ok (.iconst 0, 1) := by decide +kernel
theorem dX6_swap_12 : decode cX6_swap 12 = .ok (.iconst 1, 1) := by decide +kernel
theorem dX6_swap_13 : decode cX6_swap 13 = .ok (.invokestatic 62, 3) := by decide +kernel
theorem dX6_swap_16 : decode cX6_swap 16 = .ok (.ifCond .ne 5, 3) := by decide +kernel
theorem dX6_swap_19 : decode cX6_swap 19 = .ok (.iconst (-1), 1) := by decide +kernel
theorem dX6_swap_20 : decode cX6_swap 20 = .ok (.ireturn, 1) := by decide +kernel
theorem dX6_swap_21 : decode cX6_swap 21 = .ok (.aload_n 0, 1) := by decide +kernel
theorem dX6_swap_22 : decode cX6_swap 22 = .ok (.getfield 16, 3) := by decide +kernel
theorem dX6_swap_25 : decode cX6_swap 25 = .ok (.aload_n 0, 1) := by decide +kernel
theorem dX6_swap_26 : decode cX6_swap 26 = .ok (.getfield 10, 3) := by decide +kernel
theorem dX6_swap_29 : decode cX6_swap 29 = .ok (.invokevirtual 83, 3) := by decide +kernel
theorem dX6_swap_32 : decode cX6_swap 32 = .ok (.aload_n 0, 1) := by decide +kernel
theorem dX6_swap_33 : decode cX6_swap 33 = .ok (.getfield 16, 3) := by decide +kernel
theorem dX6_swap_36 : decode cX6_swap 36 = .ok (.iload_n 1, 1) := by decide +kernel
theorem dX6_swap_37 : decode cX6_swap 37 = .ok (.invokevirtual 180, 3) := by decide +kernel
theorem dX6_swap_40 : decode cX6_swap 40 = .ok (.pop, 1) := by decide +kernel
theorem dX6_swap_41 : decode cX6_swap 41 = .ok (.aload_n 0, 1) := by decide +kernel
theorem dX6_swap_42 : decode cX6_swap 42 = .ok (.getfield 16, 3) := by decide +kernel
theorem dX6_swap_45 : decode cX6_swap 45 = .ok (.invokevirtual 113, 3) := by decide +kernel
theorem dX6_swap_48 : decode cX6_swap 48 = .ok (.istore_n 3, 1) := by decide +kernel
theorem dX6_swap_49 : decode cX6_swap 49 = .ok (.bipush (-4), 2) := by decide +kernel
theorem dX6_swap_51 : decode cX6_swap 51 = .ok (.istore 4, 2) := by decide +kernel
theorem dX6_swap_53 : decode cX6_swap 53 = .ok (.iconst 0, 1) := by decide +kernel
theorem dX6_swap_54 : decode cX6_swap 54 = .ok (.istore 5, 2) := by decide +kernel
theorem dX6_swap_56 : decode cX6_swap 56 = .ok (.iload 5, 2) := by decide +kernel
theorem dX6_swap_58 : decode cX6_swap 58 = .ok (.aload_n 0, 1) := by decide +kernel
theorem dX6_swap_59 : decode cX6_swap 59 = .ok (.getfield 10, 3) := by decide +kernel
theorem dX6_swap_62 : decode cX6_swap 62 = .ok (.getfield 97, 3) := by decide +kernel
theorem dX6_swap_65 : decode cX6_swap 65 = .ok (.if_icmp .ge 63, 3) := by decide +kernel
theorem dX6_swap_68 : decode cX6_swap 68 = .ok (.iload 5, 2) := by decide +kernel
theorem dX6_swap_70 : decode cX6_swap 70 = .ok (.iconst 1, 1) := by decide +kernel
theorem dX6_swap_71 : decode cX6_swap 71 = .ok (.iadd, 1) := by decide +kernel
theorem dX6_swap_72 : decode cX6_swap 72 = .ok (.istore 6, 2) := by decide +kernel
theorem dX6_swap_74 : decode cX6_swap 74 = .ok (.iload 6, 2) := by decide +kernel
theorem dX6_swap_76 : decode cX6_swap 76 = .ok (.aload_n 0, 1) := by decide +kernel
theorem dX6_swap_77 : decode cX6_swap 77 = .ok (.getfield 10, 3) := by decide +kernel
theorem dX6_swap_80 : decode cX6_swap 80 = .ok (.getfield 97, 3) := by decide +kernel
theorem dX6_swap_83 : decode cX6_swap 83 = .ok (.if_icmp .ge 39, 3) := by decide +kernel
theorem dX6_swap_86 : decode cX6_swap 86 = .ok (.aload_n 0, 1) := by decide +kernel
theorem dX6_swap_87 : decode cX6_swap 87 = .ok (.iload 5, 2) := by decide +kernel
theorem dX6_swap_89 : decode cX6_swap 89 = .ok (.iload 6, 2) := by decide +kernel
theorem dX6_swap_91 : decode cX6_swap 91 = .ok (.iload_n 1, 1) := by decide +kernel
theorem dX6_swap_92 : decode cX6_swap 92 = .ok (.invokevirtual 198, 3) := by decide +kernel
theorem dX6_swap_95 : decode cX6_swap 95 = .ok (.istore 7, 2) := by decide +kernel
theorem dX6_swap_97 : decode cX6_swap 97 = .ok (.iload 7, 2) := by decide +kernel
theorem dX6_swap_99 : decode cX6_swap 99 = .ok (.iload_n 3, 1) := by decide +kernel
theorem dX6_swap_100 : decode cX6_swap 100 = .ok (.if_icmp .le 16, 3) := by decide +kernel
theorem dX6_swap_103 : decode cX6_swap 103 = .ok (.iload 7, 2) := by decide +kernel
theorem dX6_swap_105 : decode cX6_swap 105 = .ok (.istore_n 3, 1) := by decide +kernel
theorem dX6_swap_106 : decode cX6_swap 106 = .ok (.bipush 10, 2) := by decide +kernel
theorem dX6_swap_108 : decode cX6_swap 108 = .ok (.iload 5, 2) := by decide +kernel
theorem dX6_swap_110 : decode cX6_swap 110 = .ok (.imul, 1) := by decide +kernel
theorem dX6_swap_111 : decode cX6_swap 111 = .ok (.iload 6, 2) := by decide +kernel
theorem dX6_swap_113 : decode cX6_swap 113 = .ok (.iadd, 1) := by decide +kernel
theorem dX6_swap_114 : decode cX6_swap 114 = .ok (.istore 4, 2) := by decide +kernel
theorem dX6_swap_116 : decode cX6_swap 116 = .ok (.iinc 6 1, 3) := by decide +kernel
theorem dX6_swap_119 : decode cX6_swap 119 = .ok (.goto (-45), 3) := by decide +kernel
theorem dX6_swap_122 : decode cX6_swap 122 = .ok (.iinc 5 1, 3) := by decide +kernel
theorem dX6_swap_125 : decode cX6_swap 125 = .ok (.goto (-69), 3) := by decide +kernel
theorem dX6_swap_128 : decode cX6_swap 128 = .ok (.iload 4, 2) := by decide +kernel
theorem dX6_swap_130 : decode cX6_swap 130 = .ok (.bipush (-4), 2) := by decide +kernel
theorem dX6_swap_132 : decode cX6_swap 132 = .ok (.if_icmp .eq 7, 3) := by decide +kernel
theorem dX6_swap_135 : decode cX6_swap 135 = .ok (.iload_n 2, 1) := by decide +kernel
theorem dX6_swap_136 : decode cX6_swap 136 = .ok (.ifCond .ne 8, 3) := by decide +kernel
theorem dX6_swap_139 : decode cX6_swap 139 = .ok (.iload 4, 2) := by decide +kernel
theorem dX6_swap_141 : decode cX6_swap 141 = .ok (.goto 4, 3) := by decide +kernel
theorem dX6_swap_144 : decode cX6_swap 144 = .ok (.iload_n 3, 1) := by decide +kernel
theorem dX6_swap_145 : decode cX6_swap 145 = .ok (.ireturn, 1) := by decide +kernel
def f_X6_swap_L74 (v1 : Int32) (v2 : Int32) (v5 : Int32) (v3 : Int32) (v4 : Int32) (v6 : Int32) (s : St) : Option ((Int32 × Int32 × Int32 × St) ⊕ ((Int32 × Int32 × Int32 × St) ⊕ (Int32 × St))) := if (s.1 1 1) ≤ v6 then (some (Sum.inr (Sum.inl (v3, v4, (v5 + (nI 1)), s)))) else (cl (f_X6_heldIfSwapped v5 v6 v1 s) (fun x19 s18 => if x19 ≤ v3 then (some (Sum.inl (v3, v4, (v6 + (nI 1)), s18))) else (bd (((nI 10) * v5) + v6) (fun x21 => some (Sum.inl (x19, x21, (v6 + (nI 1)), s18))))))
def f_X6_swap_L56 (v1 : Int32) (v2 : Int32) (v3 : Int32) (v4 : Int32) (v5 : Int32) (s : St) : Option ((Int32 × Int32 × Int32 × St) ⊕ (Int32 × St)) := if (s.1 1 1) ≤ v5 then (if v4 = (-4) then (some (Sum.inr ((v4, s)))) else (if ¬ v2 = 0 then (some (Sum.inr ((v3, s)))) else (some (Sum.inr ((v4, s)))))) else (bd (v5 + (nI 1)) (fun x16 => lp (fun q : Int32 × Int32 × Int32 × St => f_X6_swap_L74 v1 v2 v5 q.1 q.2.1 q.2.2.1 q.2.2.2) Fu (v3, v4, x16, s)))
def f_X6_swap (a1 : Int32) (a2 : Int32) (s : St) : Option (Int32 × St) := cl (f_X6_isWithin a1 (nI 0) (nI 60) s) (fun x2 s1 => if x2 = 0 then (some (((-1), s1))) else (cl (f_X6_isWithin a2 (nI 0) (nI 1) s1) (fun x5 s4 => if ¬ x5 = 0 then (cl (f_X2_copyOf 14 1 s4) (fun x8 s7 => cl (f_X2_goOn 14 a1 s7) (fun x10 s9 => cl (f_X2_heldByAll 14 s9) (fun x12 s11 => lp (fun q : Int32 × Int32 × Int32 × St => f_X6_swap_L56 a1 a2 q.1 q.2.1 q.2.2.1 q.2.2.2) Fu (x12, (-4), (nI 0), s11))))) else (some (((-1), s4))))))
set_option maxHeartbeats 4000000 in
set_option maxRecDepth 100000 in
theorem e_X6_swap_L74 {X : Cx} {Γ : Gm} {r0 : Rb} (hX : Amb X Γ cX6_swap RX6 8 (some .int) 6) {v1 : Int32} {v2 : Int32} {v5 : Int32} {v3 : Int32} {v4 : Int32} {v6 : Int32} {s : St} {t : (Int32 × Int32 × Int32 × St) ⊕ ((Int32 × Int32 × Int32 × St) ⊕ (Int32 × St))} (h : f_X6_swap_L74 v1 v2 v5 v3 v4 v6 s = some t) (hk : (Sum.elim (fun q : Int32 × Int32 × Int32 × St => Zw X Γ 8 r0 q.2.2.2 74 [(0, .ref (gL Γ (0))), (1, .int v1), (2, .int v2), (3, .int q.1), (4, .int q.2.1), (5, .int v5), (6, .int q.2.2.1)] []) (Sum.elim (fun q : Int32 × Int32 × Int32 × St => Zw X Γ 8 r0 q.2.2.2 56 [(0, .ref (gL Γ (0))), (1, .int v1), (2, .int v2), (3, .int q.1), (4, .int q.2.1), (5, .int q.2.2.1)] []) (fun t : Int32 × St => Rt X Γ r0 (some (Value.int t.1), t.2)))) t) : Zw X Γ 8 r0 s 74 [(0, .ref (gL Γ (0))), (1, .int v1), (2, .int v2), (3, .int v3), (4, .int v4), (5, .int v5), (6, .int v6)] [] := by
  unfold f_X6_swap_L74 at h
  refine z_iload hX dX6_swap_74 6 rfl 76 rfl ?_
  refine z_aload_n hX dX6_swap_76 0 rfl 77 rfl ?_
  refine z_get6 hX (k := 0) (j := 0) (v := .ref (gL Γ (1))) kdc_0 (by decide) rfl dX6_swap_77 fl_X6_10 80 rfl ?_
  refine z_get2 hX (k := 1) (j := 1) (v := .int ((s.1 1 1))) kdc_1 (by decide) rfl dX6_swap_80 fl_X6_97 83 rfl ?_
  refine z_icmp_ge hX 122 dX6_swap_83 (by decide) 86 rfl (fun c17 => ?_) (fun c17 => ?_)
  · replace h := br_pos h c17
    refine z_iinc hX (v := (v5 + (nI 1))) (lv2 := [(5, .int ((v5 + (nI 1)))), (0, .ref (gL Γ (0))), (1, .int v1), (2, .int v2), (3, .int v3), (4, .int v4), (6, .int v6)]) dX6_swap_122 5 rfl rfl (by decide) rfl 125 rfl ?_
    refine z_goto hX 56 dX6_swap_125 (by decide) ?_
    replace h := Option.some.inj h
    subst h
    exact z_sub [1, 2, 3, 4, 5, 0] rfl hk
  · replace h := br_neg h c17
    refine z_aload_n hX dX6_swap_86 0 rfl 87 rfl ?_
    refine z_iload hX dX6_swap_87 5 rfl 89 rfl ?_
    refine z_iload hX dX6_swap_89 6 rfl 91 rfl ?_
    refine z_iload_n hX dX6_swap_91 1 rfl 92 rfl ?_
    replace h := cl_elim h
    obtain ⟨x19, s18, hx19, h⟩ := h
    refine z_cV6i hX (b := 0) (As := [.int v5, .int v6, .int v1]) (c_X6_heldIfSwapped hx19) lk_X6_198 rfl kdc_0 ds_X6_heldIfSwapped rfl (by decide) (by decide) (by decide) dX6_swap_92 rfl 95 rfl ?_
    refine z_istore hX (lv2 := [(7, .int x19), (0, .ref (gL Γ (0))), (1, .int v1), (2, .int v2), (3, .int v3), (4, .int v4), (5, .int v5), (6, .int v6)]) dX6_swap_95 (by decide) rfl 97 rfl ?_
    refine z_iload hX dX6_swap_97 0 rfl 99 rfl ?_
    refine z_iload_n hX dX6_swap_99 4 rfl 100 rfl ?_
    refine z_icmp_le hX 116 dX6_swap_100 (by decide) 103 rfl (fun c20 => ?_) (fun c20 => ?_)
    · replace h := br_pos h c20
      refine z_iinc hX (v := (v6 + (nI 1))) (lv2 := [(6, .int ((v6 + (nI 1)))), (7, .int x19), (0, .ref (gL Γ (0))), (1, .int v1), (2, .int v2), (3, .int v3), (4, .int v4), (5, .int v5)]) dX6_swap_116 7 rfl rfl (by decide) rfl 119 rfl ?_
      refine z_goto hX 74 dX6_swap_119 (by decide) ?_
      replace h := Option.some.inj h
      subst h
      exact z_sub [2, 3, 4, 5, 6, 7, 0] rfl hk
    · replace h := br_neg h c20
      refine z_iload hX dX6_swap_103 0 rfl 105 rfl ?_
      refine z_istore_n hX (lv2 := [(3, .int x19), (7, .int x19), (0, .ref (gL Γ (0))), (1, .int v1), (2, .int v2), (4, .int v4), (5, .int v5), (6, .int v6)]) dX6_swap_105 (by decide) rfl 106 rfl ?_
      refine z_bipush hX (v := (nI 10)) dX6_swap_106 (by decide) 108 rfl ?_
      refine z_iload hX dX6_swap_108 6 rfl 110 rfl ?_
      refine z_imul hX dX6_swap_110 111 rfl ?_
      refine z_iload hX dX6_swap_111 7 rfl 113 rfl ?_
      refine z_iadd hX dX6_swap_113 114 rfl ?_
      replace h := bd_elim h
      obtain ⟨x21, ex21, h⟩ := h
      refine z_nm ex21 ?_
      refine z_istore hX (lv2 := [(4, .int x21), (3, .int x19), (7, .int x19), (0, .ref (gL Γ (0))), (1, .int v1), (2, .int v2), (5, .int v5), (6, .int v6)]) dX6_swap_114 (by decide) rfl 116 rfl ?_
      refine z_iinc hX (v := (v6 + (nI 1))) (lv2 := [(6, .int ((v6 + (nI 1)))), (4, .int x21), (3, .int x19), (7, .int x19), (0, .ref (gL Γ (0))), (1, .int v1), (2, .int v2), (5, .int v5)]) dX6_swap_116 7 rfl rfl (by decide) rfl 119 rfl ?_
      refine z_goto hX 74 dX6_swap_119 (by decide) ?_
      replace h := Option.some.inj h
      subst h
      exact z_sub [4, 5, 6, 2, 1, 7, 0] rfl hk
set_option maxHeartbeats 4000000 in
set_option maxRecDepth 100000 in
theorem e_X6_swap_L56 {X : Cx} {Γ : Gm} {r0 : Rb} (hX : Amb X Γ cX6_swap RX6 8 (some .int) 6) {v1 : Int32} {v2 : Int32} {v3 : Int32} {v4 : Int32} {v5 : Int32} {s : St} {t : (Int32 × Int32 × Int32 × St) ⊕ (Int32 × St)} (h : f_X6_swap_L56 v1 v2 v3 v4 v5 s = some t) (hk : (Sum.elim (fun q : Int32 × Int32 × Int32 × St => Zw X Γ 8 r0 q.2.2.2 56 [(0, .ref (gL Γ (0))), (1, .int v1), (2, .int v2), (3, .int q.1), (4, .int q.2.1), (5, .int q.2.2.1)] []) (fun t : Int32 × St => Rt X Γ r0 (some (Value.int t.1), t.2))) t) : Zw X Γ 8 r0 s 56 [(0, .ref (gL Γ (0))), (1, .int v1), (2, .int v2), (3, .int v3), (4, .int v4), (5, .int v5)] [] := by
  unfold f_X6_swap_L56 at h
  refine z_iload hX dX6_swap_56 5 rfl 58 rfl ?_
  refine z_aload_n hX dX6_swap_58 0 rfl 59 rfl ?_
  refine z_get6 hX (k := 0) (j := 0) (v := .ref (gL Γ (1))) kdc_0 (by decide) rfl dX6_swap_59 fl_X6_10 62 rfl ?_
  refine z_get2 hX (k := 1) (j := 1) (v := .int ((s.1 1 1))) kdc_1 (by decide) rfl dX6_swap_62 fl_X6_97 65 rfl ?_
  refine z_icmp_ge hX 128 dX6_swap_65 (by decide) 68 rfl (fun c13 => ?_) (fun c13 => ?_)
  · replace h := br_pos h c13
    refine z_iload hX dX6_swap_128 4 rfl 130 rfl ?_
    refine z_bipush hX (v := (-4)) dX6_swap_130 (by decide) 132 rfl ?_
    refine z_icmp_eq hX 139 dX6_swap_132 (by decide) 135 rfl (fun c14 => ?_) (fun c14 => ?_)
    · replace h := br_pos h c14
      refine z_iload hX dX6_swap_139 4 rfl 141 rfl ?_
      refine z_goto hX 145 dX6_swap_141 (by decide) ?_
      replace h := Option.some.inj h
      subst h
      exact z_iret hX dX6_swap_145 rfl hk
    · replace h := br_neg h c14
      refine z_iload_n hX dX6_swap_135 2 rfl 136 rfl ?_
      refine z_if_ne hX 144 dX6_swap_136 (by decide) 139 rfl (fun c15 => ?_) (fun c15 => ?_)
      · replace h := br_pos h c15
        refine z_iload_n hX dX6_swap_144 3 rfl 145 rfl ?_
        replace h := Option.some.inj h
        subst h
        exact z_iret hX dX6_swap_145 rfl hk
      · replace h := br_neg h c15
        refine z_iload hX dX6_swap_139 4 rfl 141 rfl ?_
        refine z_goto hX 145 dX6_swap_141 (by decide) ?_
        replace h := Option.some.inj h
        subst h
        exact z_iret hX dX6_swap_145 rfl hk
  · replace h := br_neg h c13
    refine z_iload hX dX6_swap_68 5 rfl 70 rfl ?_
    refine z_iconst hX (v := (nI 1)) dX6_swap_70 rfl 71 rfl ?_
    refine z_iadd hX dX6_swap_71 72 rfl ?_
    replace h := bd_elim h
    obtain ⟨x16, ex16, h⟩ := h
    refine z_nm ex16 ?_
    refine z_istore hX (lv2 := [(6, .int x16), (0, .ref (gL Γ (0))), (1, .int v1), (2, .int v2), (3, .int v3), (4, .int v4), (5, .int v5)]) dX6_swap_72 (by decide) rfl 74 rfl ?_
    exact z_sub [1, 2, 3, 4, 5, 6, 0] rfl (lp_ok (Z := fun q : Int32 × Int32 × Int32 × St => Zw X Γ 8 r0 q.2.2.2 74 [(0, .ref (gL Γ (0))), (1, .int v1), (2, .int v2), (3, .int q.1), (4, .int q.2.1), (5, .int v5), (6, .int q.2.2.1)] []) (fun q t h hk => e_X6_swap_L74 hX h hk) Fu _ _ h hk)
set_option maxHeartbeats 4000000 in
set_option maxRecDepth 100000 in
theorem e_X6_swap {X : Cx} {Γ : Gm} {r0 : Rb} (hX : Amb X Γ cX6_swap RX6 8 (some .int) 6) {a1 : Int32} {a2 : Int32} {s : St} {t : Int32 × St} (h : f_X6_swap a1 a2 s = some t) (hk : (fun t : Int32 × St => Rt X Γ r0 (some (Value.int t.1), t.2)) t) : Zw X Γ 8 r0 s 0 [(0, .ref (gL Γ (0))), (1, .int a1), (2, .int a2)] [] := by
  unfold f_X6_swap at h
  refine z_iload_n hX dX6_swap_0 1 rfl 1 rfl ?_
  refine z_iconst hX (v := (nI 0)) dX6_swap_1 rfl 2 rfl ?_
  refine z_bipush hX (v := (nI 60)) dX6_swap_2 (by decide) 4 rfl ?_
  replace h := cl_elim h
  obtain ⟨x2, s1, hx2, h⟩ := h
  refine z_cSi hX (As := [.int a1, .int ((nI 0)), .int ((nI 60))]) (c_X6_isWithin hx2) lk_X6_62 ds_X6_isWithin rfl (by decide) (by decide) (by decide) dX6_swap_4 rfl 7 rfl ?_
  refine z_if_eq hX 19 dX6_swap_7 (by decide) 10 rfl (fun c3 => ?_) (fun c3 => ?_)
  · replace h := br_pos h c3
    refine z_iconst hX (v := (-1)) dX6_swap_19 rfl 20 rfl ?_
    replace h := Option.some.inj h
    subst h
    exact z_iret hX dX6_swap_20 rfl hk
  · replace h := br_neg h c3
    refine z_iload_n hX dX6_swap_10 2 rfl 11 rfl ?_
    refine z_iconst hX (v := (nI 0)) dX6_swap_11 rfl 12 rfl ?_
    refine z_iconst hX (v := (nI 1)) dX6_swap_12 rfl 13 rfl ?_
    replace h := cl_elim h
    obtain ⟨x5, s4, hx5, h⟩ := h
    refine z_cSi hX (As := [.int a2, .int ((nI 0)), .int ((nI 1))]) (c_X6_isWithin hx5) lk_X6_62 ds_X6_isWithin rfl (by decide) (by decide) (by decide) dX6_swap_13 rfl 16 rfl ?_
    refine z_if_ne hX 21 dX6_swap_16 (by decide) 19 rfl (fun c6 => ?_) (fun c6 => ?_)
    · replace h := br_pos h c6
      refine z_aload_n hX dX6_swap_21 0 rfl 22 rfl ?_
      refine z_get6 hX (k := 0) (j := 1) (v := .ref (gL Γ (14))) kdc_0 (by decide) rfl dX6_swap_22 fl_X6_16 25 rfl ?_
      refine z_aload_n hX dX6_swap_25 0 rfl 26 rfl ?_
      refine z_get6 hX (k := 0) (j := 0) (v := .ref (gL Γ (1))) kdc_0 (by decide) rfl dX6_swap_26 fl_X6_10 29 rfl ?_
      replace h := cl_elim h
      obtain ⟨x8, s7, hx8, h⟩ := h
      refine z_cV2v hX (b := 14) (As := [.ref (gL Γ (1))]) (c_X2_copyOf hx8) lk_X6_83 rfl kdc_14 ds_X2_copyOf rfl (by decide) (by decide) (by decide) dX6_swap_29 rfl 32 rfl ?_
      refine z_aload_n hX dX6_swap_32 0 rfl 33 rfl ?_
      refine z_get6 hX (k := 0) (j := 1) (v := .ref (gL Γ (14))) kdc_0 (by decide) rfl dX6_swap_33 fl_X6_16 36 rfl ?_
      refine z_iload_n hX dX6_swap_36 1 rfl 37 rfl ?_
      replace h := cl_elim h
      obtain ⟨x10, s9, hx10, h⟩ := h
      refine z_cV2i hX (b := 14) (As := [.int a1]) (c_X2_goOn hx10) lk_X6_180 rfl kdc_14 ds_X2_goOn rfl (by decide) (by decide) (by decide) dX6_swap_37 rfl 40 rfl ?_
      refine z_pop hX dX6_swap_40 rfl 41 rfl ?_
      refine z_aload_n hX dX6_swap_41 0 rfl 42 rfl ?_
      refine z_get6 hX (k := 0) (j := 1) (v := .ref (gL Γ (14))) kdc_0 (by decide) rfl dX6_swap_42 fl_X6_16 45 rfl ?_
      replace h := cl_elim h
      obtain ⟨x12, s11, hx12, h⟩ := h
      refine z_cV2i hX (b := 14) (As := []) (c_X2_heldByAll hx12) lk_X6_113 rfl kdc_14 ds_X2_heldByAll rfl (by decide) (by decide) (by decide) dX6_swap_45 rfl 48 rfl ?_
      refine z_istore_n hX (lv2 := [(3, .int x12), (0, .ref (gL Γ (0))), (1, .int a1), (2, .int a2)]) dX6_swap_48 (by decide) rfl 49 rfl ?_
      refine z_bipush hX (v := (-4)) dX6_swap_49 (by decide) 51 rfl ?_
      refine z_istore hX (lv2 := [(4, .int ((-4))), (3, .int x12), (0, .ref (gL Γ (0))), (1, .int a1), (2, .int a2)]) dX6_swap_51 (by decide) rfl 53 rfl ?_
      refine z_iconst hX (v := (nI 0)) dX6_swap_53 rfl 54 rfl ?_
      refine z_istore hX (lv2 := [(5, .int ((nI 0))), (4, .int ((-4))), (3, .int x12), (0, .ref (gL Γ (0))), (1, .int a1), (2, .int a2)]) dX6_swap_54 (by decide) rfl 56 rfl ?_
      exact z_sub [3, 4, 5, 2, 1, 0] rfl (lp_ok (Z := fun q : Int32 × Int32 × Int32 × St => Zw X Γ 8 r0 q.2.2.2 56 [(0, .ref (gL Γ (0))), (1, .int a1), (2, .int a2), (3, .int q.1), (4, .int q.2.1), (5, .int q.2.2.1)] []) (fun q t h hk => e_X6_swap_L56 hX h hk) Fu _ _ h hk)
    · replace h := br_neg h c6
      refine z_iconst hX (v := (-1)) dX6_swap_19 rfl 20 rfl ?_
      replace h := Option.some.inj h
      subst h
      exact z_iret hX dX6_swap_20 rfl hk
theorem c_X6_swap {lc : Launch} {Γ : Gm} {a1 : Int32} {a2 : Int32} {s s2 : St} {v : Int32} (h : f_X6_swap a1 a2 s = some (v, s2)) : Ct lc Γ yX6_swap cX6_swap 8 (some .int) 6 [.ref (gL Γ (0)), .int a1, .int a2] s (some (.int v), s2) := Ct.of (by decide +kernel) (Nat.le_of_ble_eq_true rfl) (fun X hl hX => e_X6_swap hX h rfl)
theorem dX6_heldIfBlown_0 : decode cX6_heldIfBlown 0 = .ok (.aload_n 0, 1) := by decide +kernel
theorem dX6_heldIfBlown_1 : decode cX6_heldIfBlown 1 = .ok (.getfield 16, 3) := by decide +kernel
theorem dX6_heldIfBlown_4 : decode cX6_heldIfBlown 4 = .ok (.aload_n 0, 1) := by decide +kernel
theorem dX6_heldIfBlown_5 : decode cX6_heldIfBlown 5 = .ok (.getfield 10, 3) := by decide +kernel
theorem dX6_heldIfBlown_8 : decode cX6_heldIfBlown 8 = .ok (.invokevirtual 83, 3) := by decide +kernel
theorem dX6_heldIfBlown_11 : decode cX6_heldIfBlown 11 = .ok (.aload_n 0, 1) := by decide +kernel
theorem dX6_heldIfBlown_12 : decode cX6_heldIfBlown 12 = .ok (.getfield 16, 3) := by decide +kernel
theorem dX6_heldIfBlown_15 : decode cX6_heldIfBlown 15 = .ok (.getfield 167, 3) := by decide +kernel
theorem dX6_heldIfBlown_18 : decode cX6_heldIfBlown 18 = .ok (.iload_n 2, 1) := by decide +kernel
theorem dX6_heldIfBlown_19 : decode cX6_heldIfBlown 19 = .ok (.iload_n 3, 1) := by decide +kernel
theorem dX6_heldIfBlown_20 : decode cX6_heldIfBlown 20 = .ok (.iastore, 1) := by decide +kernel
theorem dX6_heldIfBlown_21 : decode cX6_heldIfBlown 21 = .ok (.aload_n 0, 1) := by decide +kernel
theorem dX6_heldIfBlown_22 : decode cX6_heldIfBlown 22 = .ok (.getfield 16, 3) := by decide +kernel
theorem dX6_heldIfBlown_25 : decode cX6_heldIfBlown 25 = .ok (.iload 4, 2) := by decide +kernel
theorem dX6_heldIfBlown_27 : decode cX6_heldIfBlown 27 = .ok (.invokevirtual 180, 3) := by decide +kernel
theorem dX6_heldIfBlown_30 : decode cX6_heldIfBlown 30 = .ok (.pop, 1) := by decide +kernel
theorem dX6_heldIfBlown_31 : decode cX6_heldIfBlown 31 = .ok (.aload_n 0, 1) := by decide +kernel
theorem dX6_heldIfBlown_32 : decode cX6_heldIfBlown 32 = .ok (.getfield 16, 3) := by decide +kernel
theorem dX6_heldIfBlown_35 : decode cX6_heldIfBlown 35 = .ok (.iload_n 1, 1) := by decide +kernel
theorem dX6_heldIfBlown_36 : decode cX6_heldIfBlown 36 = .ok (.invokevirtual 148, 3) := by decide +kernel
theorem dX6_heldIfBlown_39 : decode cX6_heldIfBlown 39 = .ok (.ireturn, 1) := by decide +kernel
def f_X6_heldIfBlown (a1 : Int32) (a2 : Int32) (a3 : Int32) (a4 : Int32) (s : St) : Option (Int32 × St) := cl (f_X2_copyOf 14 1 s) (fun x2 s1 => if inb a2 (lnI 25) = true then bd (wI s1 25 (a2).toNatClampNeg a3) (fun s4 => cl (f_X2_goOn 14 a4 s4) (fun x6 s5 => cl (f_X2_heldBy 14 a1 s5) (fun x8 s7 => some ((x8, s7))))) else none)
set_option maxHeartbeats 4000000 in
set_option maxRecDepth 100000 in
theorem e_X6_heldIfBlown {X : Cx} {Γ : Gm} {r0 : Rb} (hX : Amb X Γ cX6_heldIfBlown RX6 5 (some .int) 5) {a1 : Int32} {a2 : Int32} {a3 : Int32} {a4 : Int32} {s : St} {t : Int32 × St} (h : f_X6_heldIfBlown a1 a2 a3 a4 s = some t) (hk : (fun t : Int32 × St => Rt X Γ r0 (some (Value.int t.1), t.2)) t) : Zw X Γ 5 r0 s 0 [(0, .ref (gL Γ (0))), (1, .int a1), (2, .int a2), (3, .int a3), (4, .int a4)] [] := by
  unfold f_X6_heldIfBlown at h
  refine z_aload_n hX dX6_heldIfBlown_0 0 rfl 1 rfl ?_
  refine z_get6 hX (k := 0) (j := 1) (v := .ref (gL Γ (14))) kdc_0 (by decide) rfl dX6_heldIfBlown_1 fl_X6_16 4 rfl ?_
  refine z_aload_n hX dX6_heldIfBlown_4 0 rfl 5 rfl ?_
  refine z_get6 hX (k := 0) (j := 0) (v := .ref (gL Γ (1))) kdc_0 (by decide) rfl dX6_heldIfBlown_5 fl_X6_10 8 rfl ?_
  replace h := cl_elim h
  obtain ⟨x2, s1, hx2, h⟩ := h
  refine z_cV2v hX (b := 14) (As := [.ref (gL Γ (1))]) (c_X2_copyOf hx2) lk_X6_83 rfl kdc_14 ds_X2_copyOf rfl (by decide) (by decide) (by decide) dX6_heldIfBlown_8 rfl 11 rfl ?_
  refine z_aload_n hX dX6_heldIfBlown_11 0 rfl 12 rfl ?_
  refine z_get6 hX (k := 0) (j := 1) (v := .ref (gL Γ (14))) kdc_0 (by decide) rfl dX6_heldIfBlown_12 fl_X6_16 15 rfl ?_
  refine z_get2 hX (k := 14) (j := 13) (v := .ref (gL Γ (25))) kdc_14 (by decide) rfl dX6_heldIfBlown_15 fl_X6_167 18 rfl ?_
  refine z_iload_n hX dX6_heldIfBlown_18 2 rfl 19 rfl ?_
  refine z_iload_n hX dX6_heldIfBlown_19 3 rfl 20 rfl ?_
  replace h := gd_elim h
  obtain ⟨g3, h⟩ := h
  replace h := bd_elim h
  obtain ⟨s4, es4, h⟩ := h
  refine z_iast hX (inb_vp g3) dX6_heldIfBlown_20 es4 21 rfl ?_
  refine z_aload_n hX dX6_heldIfBlown_21 0 rfl 22 rfl ?_
  refine z_get6 hX (k := 0) (j := 1) (v := .ref (gL Γ (14))) kdc_0 (by decide) rfl dX6_heldIfBlown_22 fl_X6_16 25 rfl ?_
  refine z_iload hX dX6_heldIfBlown_25 4 rfl 27 rfl ?_
  replace h := cl_elim h
  obtain ⟨x6, s5, hx6, h⟩ := h
  refine z_cV2i hX (b := 14) (As := [.int a4]) (c_X2_goOn hx6) lk_X6_180 rfl kdc_14 ds_X2_goOn rfl (by decide) (by decide) (by decide) dX6_heldIfBlown_27 rfl 30 rfl ?_
  refine z_pop hX dX6_heldIfBlown_30 rfl 31 rfl ?_
  refine z_aload_n hX dX6_heldIfBlown_31 0 rfl 32 rfl ?_
  refine z_get6 hX (k := 0) (j := 1) (v := .ref (gL Γ (14))) kdc_0 (by decide) rfl dX6_heldIfBlown_32 fl_X6_16 35 rfl ?_
  refine z_iload_n hX dX6_heldIfBlown_35 1 rfl 36 rfl ?_
  replace h := cl_elim h
  obtain ⟨x8, s7, hx8, h⟩ := h
  refine z_cV2i hX (b := 14) (As := [.int a1]) (c_X2_heldBy hx8) lk_X6_148 rfl kdc_14 ds_X2_heldBy rfl (by decide) (by decide) (by decide) dX6_heldIfBlown_36 rfl 39 rfl ?_
  replace h := Option.some.inj h
  subst h
  exact z_iret hX dX6_heldIfBlown_39 rfl hk
theorem c_X6_heldIfBlown {lc : Launch} {Γ : Gm} {a1 : Int32} {a2 : Int32} {a3 : Int32} {a4 : Int32} {s s2 : St} {v : Int32} (h : f_X6_heldIfBlown a1 a2 a3 a4 s = some (v, s2)) : Ct lc Γ yX6_heldIfBlown cX6_heldIfBlown 5 (some .int) 5 [.ref (gL Γ (0)), .int a1, .int a2, .int a3, .int a4] s (some (.int v), s2) := Ct.of (by decide +kernel) (Nat.le_of_ble_eq_true rfl) (fun X hl hX => e_X6_heldIfBlown hX h rfl)
theorem dX6_fan_0 : decode cX6_fan 0 = .ok (.aload_n 0, 1) := by decide +kernel
theorem dX6_fan_1 : decode cX6_fan 1 = .ok (.getfield 10, 3) := by decide +kernel
theorem dX6_fan_4 : decode cX6_fan 4 = .ok (.iload_n 1, 1) := by decide +kernel
theorem dX6_fan_5 : decode cX6_fan 5 = .ok (.invokevirtual 139, 3) := by decide +kernel
theorem dX6_fan_8 : decode cX6_fan 8 = .ok (.ifCond .eq 22, 3) := by decide +kernel
theorem dX6_fan_11 : decode cX6_fan 11 = .ok (.iload_n 2, 1) := by decide +kernel
theorem dX6_fan_12 : decode cX6_fan 12 = .ok (.iconst 0, 1) := by decide +kernel
theorem dX6_fan_13 : decode cX6_fan 13 = .ok (.bipush 60, 2) := by decide +kernel
theorem dX6_fan_15 : decode cX6_fan 15 = .ok (.invokestatic 62, 3) := by decide +kernel
theorem dX6_fan_18 : decode cX6_fan 18 = .ok (.ifCond .eq 12, 3) := by decide +kernel
theorem dX6_fan_21 : decode cX6_fan 21 = .ok (.iload_n 3, 1) := by decide +kernel
theorem dX6_fan_22 : decode cX6_fan 22 = .ok (.iconst 0, 1) := by decide +kernel
theorem dX6_fan_23 : decode cX6_fan 23 = .ok (.iconst 1, 1) := by decide +kernel
theorem dX6_fan_24 : decode cX6_fan 24 = .ok (.invokestatic 62, 3) := by decide +kernel
theorem dX6_fan_27 : decode cX6_fan 27 = .ok (.ifCond .ne 5, 3) := by decide +kernel
theorem dX6_fan_30 : decode cX6_fan 30 = .ok (.iconst (-1), 1) := by decide +kernel
theorem dX6_fan_31 : decode cX6_fan 31 = .ok (.ireturn, 1) := by decide +kernel
theorem dX6_fan_32 : decode cX6_fan 32 = .ok (.aload_n 0, 1) := by decide +kernel
theorem dX6_fan_33 : decode cX6_fan 33 = .ok (.getfield 16, 3) := by decide +kernel
theorem dX6_fan_36 : decode cX6_fan 36 = .ok (.aload_n 0, 1) := by decide +kernel
theorem dX6_fan_37 : decode cX6_fan 37 = .ok (.getfield 10, 3) := by decide +kernel
theorem dX6_fan_40 : decode cX6_fan 40 = .ok (.invokevirtual 83, 3) := by decide +kernel
theorem dX6_fan_43 : decode cX6_fan 43 = .ok (.aload_n 0, 1) := by decide +kernel
theorem dX6_fan_44 : decode cX6_fan 44 = .ok (.getfield 16, 3) := by decide +kernel
theorem dX6_fan_47 : decode cX6_fan 47 = .ok (.iload_n 2, 1) := by decide +kernel
theorem dX6_fan_48 : decode cX6_fan 48 = .ok (.invokevirtual 180, 3) := by decide +kernel
theorem dX6_fan_51 : decode cX6_fan 51 = .ok (.pop, 1) := by decide +kernel
theorem dX6_fan_52 : decode cX6_fan 52 = .ok (.aload_n 0, 1) := by decide +kernel
theorem dX6_fan_53 : decode cX6_fan 53 = .ok (.getfield 16, 3) := by decide +kernel
theorem dX6_fan_56 : decode cX6_fan 56 = .ok (.iload_n 1, 1) := by decide +kernel
theorem dX6_fan_57 : decode cX6_fan 57 = .ok (.invokevirtual 148, 3) := by decide +kernel
theorem dX6_fan_60 : decode cX6_fan 60 = .ok (.istore 4, 2) := by decide +kernel
theorem dX6_fan_62 : decode cX6_fan 62 = .ok (.bipush (-4), 2) := by decide +kernel
theorem dX6_fan_64 : decode cX6_fan 64 = .ok (.istore 5, 2) := by decide +kernel
theorem dX6_fan_66 : decode cX6_fan 66 = .ok (.iconst 0, 1) := by decide +kernel
theorem dX6_fan_67 : decode cX6_fan 67 = .ok (.istore 6, 2) := by decide +kernel
theorem dX6_fan_69 : decode cX6_fan 69 = .ok (.iload 6, 2) := by decide +kernel
theorem dX6_fan_71 : decode cX6_fan 71 = .ok (.bipush 6, 2) := by decide +kernel
theorem dX6_fan_73 : decode cX6_fan 73 = .ok (.if_icmp .ge 76, 3) := by decide +kernel
theorem dX6_fan_76 : decode cX6_fan 76 = .ok (.iconst 0, 1) := by decide +kernel
theorem dX6_fan_77 : decode cX6_fan 77 = .ok (.istore 7, 2) := by decide +kernel
theorem dX6_fan_79 : decode cX6_fan 79 = .ok (.iload 7, 2) := by decide +kernel
theorem dX6_fan_81 : decode cX6_fan 81 = .ok (.iconst 4, 1) := by decide +kernel
theorem dX6_fan_82 : decode cX6_fan 82 = .ok (.if_icmp .gt 61, 3) := by decide +kernel
theorem dX6_fan_85 : decode cX6_fan 85 = .ok (.iload 7, 2) := by decide +kernel
theorem dX6_fan_87 : decode cX6_fan 87 = .ok (.aload_n 0, 1) := by decide +kernel
theorem dX6_fan_88 : decode cX6_fan 88 = .ok (.getfield 10, 3) := by decide +kernel
theorem dX6_fan_91 : decode cX6_fan 91 = .ok (.getfield 167, 3) := by decide +kernel
theorem dX6_fan_94 : decode cX6_fan 94 = .ok (.iload 6, 2) := by decide +kernel
theorem dX6_fan_96 : decode cX6_fan 96 = .ok (.iaload, 1) := by decide +kernel
theorem dX6_fan_97 : decode cX6_fan 97 = .ok (.if_icmp .ne 7, 3) := by decide +kernel
theorem dX6_fan_100 : decode cX6_fan 100 = .ok (.iconst (-1), 1) := by decide +kernel
theorem dX6_fan_101 : decode cX6_fan 101 = .ok (.goto 13, 3) := by decide +kernel
theorem dX6_fan_104 : decode cX6_fan 104 = .ok (.aload_n 0, 1) := by decide +kernel
theorem dX6_fan_105 : decode cX6_fan 105 = .ok (.iload_n 1, 1) := by decide +kernel
theorem dX6_fan_106 : decode cX6_fan 106 = .ok (.iload 6, 2) := by decide +kernel
theorem dX6_fan_108 : decode cX6_fan 108 = .ok (.iload 7, 2) := by decide +kernel
theorem dX6_fan_110 : decode cX6_fan 110 = .ok (.iload_n 2, 1) := by decide +kernel
theorem dX6_fan_111 : decode cX6_fan 111 = .ok (.invokevirtual 202, 3) := by decide +kernel
theorem dX6_fan_114 : decode cX6_fan 114 = .ok (.istore 8, 2) := by decide +kernel
theorem dX6_fan_116 : decode cX6_fan 116 = .ok (.iload 8, 2) := by decide +kernel
theorem dX6_fan_118 : decode cX6_fan 118 = .ok (.iload 4, 2) := by decide +kernel
theorem dX6_fan_120 : decode cX6_fan 120 = .ok (.if_icmp .le 17, 3) := by decide +kernel
theorem dX6_fan_123 : decode cX6_fan 123 = .ok (.iload 8, 2) := by decide +kernel
theorem dX6_fan_125 : decode cX6_fan 125 = .ok (.istore 4, 2) := by decide +kernel
theorem dX6_fan_127 : decode cX6_fan 127 = .ok (.bipush 10, 2) := by decide +kernel
theorem dX6_fan_129 : decode cX6_fan 129 = .ok (.iload 6, 2) := by decide +kernel
theorem dX6_fan_131 : decode cX6_fan 131 = .ok (.imul, 1) := by decide +kernel
theorem dX6_fan_132 : decode cX6_fan 132 = .ok (.iload 7, 2) := by decide +kernel
theorem dX6_fan_134 : decode cX6_fan 134 = .ok (.iadd, 1) := by decide +kernel
theorem dX6_fan_135 : decode cX6_fan 135 = .ok (.istore 5, 2) := by decide +kernel
theorem dX6_fan_137 : decode cX6_fan 137 = .ok (.iinc 7 1, 3) := by decide +kernel
theorem dX6_fan_140 : decode cX6_fan 140 = .ok (.goto (-61), 3) := by decide +kernel
theorem dX6_fan_143 : decode cX6_fan 143 = .ok (.iinc 6 1, 3) := by decide +kernel
theorem dX6_fan_146 : decode cX6_fan 146 = .ok (.goto (-77), 3) := by decide +kernel
theorem dX6_fan_149 : decode cX6_fan 149 = .ok (.iload 5, 2) := by decide +kernel
theorem dX6_fan_151 : decode cX6_fan 151 = .ok (.bipush (-4), 2) := by decide +kernel
theorem dX6_fan_153 : decode cX6_fan 153 = .ok (.if_icmp .eq 7, 3) := by decide +kernel
theorem dX6_fan_156 : decode cX6_fan 156 = .ok (.iload_n 3, 1) := by decide +kernel
theorem dX6_fan_157 : decode cX6_fan 157 = .ok (.ifCond .ne 8, 3) := by decide +kernel
theorem dX6_fan_160 : decode cX6_fan 160 = .ok (.iload 5, 2) := by decide +kernel
theorem dX6_fan_162 : decode cX6_fan 162 = .ok (.goto 5, 3) := by decide +kernel
theorem dX6_fan_165 : decode cX6_fan 165 = .ok (.iload 4, 2) := by decide +kernel
theorem dX6_fan_167 : decode cX6_fan 167 = .ok (.ireturn, 1) := by decide +kernel
def f_X6_fan_J114 (v1 : Int32) (v2 : Int32) (v3 : Int32) (v4 : Int32) (v5 : Int32) (v6 : Int32) (v7 : Int32) (k0 : Int32) (s : St) : Option ((Int32 × Int32 × Int32 × St) ⊕ ((Int32 × Int32 × Int32 × St) ⊕ (Int32 × St))) := if k0 ≤ v4 then (some (Sum.inl (v4, v5, (v7 + (nI 1)), s))) else (bd (((nI 10) * v6) + v7) (fun x25 => some (Sum.inl (k0, x25, (v7 + (nI 1)), s))))
def f_X6_fan_L79 (v1 : Int32) (v2 : Int32) (v3 : Int32) (v6 : Int32) (v4 : Int32) (v5 : Int32) (v7 : Int32) (s : St) : Option ((Int32 × Int32 × Int32 × St) ⊕ ((Int32 × Int32 × Int32 × St) ⊕ (Int32 × St))) := if (nI 4) < v7 then (some (Sum.inr (Sum.inl (v4, v5, (v6 + (nI 1)), s)))) else (if inb v6 (lnI 12) = true then if ¬ v7 = (s.1 12 (v6).toNatClampNeg) then (cl (f_X6_heldIfBlown v1 v6 v7 v2 s) (fun x23 s22 => f_X6_fan_J114 v1 v2 v3 v4 v5 v6 v7 x23 s22)) else (f_X6_fan_J114 v1 v2 v3 v4 v5 v6 v7 (-1) s) else none)
def f_X6_fan_L69 (v1 : Int32) (v2 : Int32) (v3 : Int32) (v4 : Int32) (v5 : Int32) (v6 : Int32) (s : St) : Option ((Int32 × Int32 × Int32 × St) ⊕ (Int32 × St)) := if (nI 6) ≤ v6 then (if v5 = (-4) then (some (Sum.inr ((v5, s)))) else (if ¬ v3 = 0 then (some (Sum.inr ((v4, s)))) else (some (Sum.inr ((v5, s)))))) else (lp (fun q : Int32 × Int32 × Int32 × St => f_X6_fan_L79 v1 v2 v3 v6 q.1 q.2.1 q.2.2.1 q.2.2.2) Fu (v4, v5, (nI 0), s))
def f_X6_fan (a1 : Int32) (a2 : Int32) (a3 : Int32) (s : St) : Option (Int32 × St) := cl (f_X2_isSitter 1 a1 s) (fun x2 s1 => if x2 = 0 then (some (((-1), s1))) else (cl (f_X6_isWithin a2 (nI 0) (nI 60) s1) (fun x5 s4 => if x5 = 0 then (some (((-1), s4))) else (cl (f_X6_isWithin a3 (nI 0) (nI 1) s4) (fun x8 s7 => if ¬ x8 = 0 then (cl (f_X2_copyOf 14 1 s7) (fun x11 s10 => cl (f_X2_goOn 14 a2 s10) (fun x13 s12 => cl (f_X2_heldBy 14 a1 s12) (fun x15 s14 => lp (fun q : Int32 × Int32 × Int32 × St => f_X6_fan_L69 a1 a2 a3 q.1 q.2.1 q.2.2.1 q.2.2.2) Fu (x15, (-4), (nI 0), s14))))) else (some (((-1), s7))))))))
set_option maxHeartbeats 4000000 in
set_option maxRecDepth 100000 in
theorem e_X6_fan_J114 {X : Cx} {Γ : Gm} {r0 : Rb} (hX : Amb X Γ cX6_fan RX6 9 (some .int) 6) {v1 : Int32} {v2 : Int32} {v3 : Int32} {v4 : Int32} {v5 : Int32} {v6 : Int32} {v7 : Int32} {k0 : Int32} {s : St} {t : (Int32 × Int32 × Int32 × St) ⊕ ((Int32 × Int32 × Int32 × St) ⊕ (Int32 × St))} (h : f_X6_fan_J114 v1 v2 v3 v4 v5 v6 v7 k0 s = some t) (hk : (Sum.elim (fun q : Int32 × Int32 × Int32 × St => Zw X Γ 9 r0 q.2.2.2 79 [(0, .ref (gL Γ (0))), (1, .int v1), (2, .int v2), (3, .int v3), (4, .int q.1), (5, .int q.2.1), (6, .int v6), (7, .int q.2.2.1)] []) (Sum.elim (fun q : Int32 × Int32 × Int32 × St => Zw X Γ 9 r0 q.2.2.2 69 [(0, .ref (gL Γ (0))), (1, .int v1), (2, .int v2), (3, .int v3), (4, .int q.1), (5, .int q.2.1), (6, .int q.2.2.1)] []) (fun t : Int32 × St => Rt X Γ r0 (some (Value.int t.1), t.2)))) t) : Zw X Γ 9 r0 s 114 [(0, .ref (gL Γ (0))), (1, .int v1), (2, .int v2), (3, .int v3), (4, .int v4), (5, .int v5), (6, .int v6), (7, .int v7)] [.int k0] := by
  unfold f_X6_fan_J114 at h
  refine z_istore hX (lv2 := [(8, .int k0), (0, .ref (gL Γ (0))), (1, .int v1), (2, .int v2), (3, .int v3), (4, .int v4), (5, .int v5), (6, .int v6), (7, .int v7)]) dX6_fan_114 (by decide) rfl 116 rfl ?_
  refine z_iload hX dX6_fan_116 0 rfl 118 rfl ?_
  refine z_iload hX dX6_fan_118 5 rfl 120 rfl ?_
  refine z_icmp_le hX 137 dX6_fan_120 (by decide) 123 rfl (fun c24 => ?_) (fun c24 => ?_)
  · replace h := br_pos h c24
    refine z_iinc hX (v := (v7 + (nI 1))) (lv2 := [(7, .int ((v7 + (nI 1)))), (8, .int k0), (0, .ref (gL Γ (0))), (1, .int v1), (2, .int v2), (3, .int v3), (4, .int v4), (5, .int v5), (6, .int v6)]) dX6_fan_137 8 rfl rfl (by decide) rfl 140 rfl ?_
    refine z_goto hX 79 dX6_fan_140 (by decide) ?_
    replace h := Option.some.inj h
    subst h
    exact z_sub [2, 3, 4, 5, 6, 7, 8, 0] rfl hk
  · replace h := br_neg h c24
    refine z_iload hX dX6_fan_123 0 rfl 125 rfl ?_
    refine z_istore hX (lv2 := [(4, .int k0), (8, .int k0), (0, .ref (gL Γ (0))), (1, .int v1), (2, .int v2), (3, .int v3), (5, .int v5), (6, .int v6), (7, .int v7)]) dX6_fan_125 (by decide) rfl 127 rfl ?_
    refine z_bipush hX (v := (nI 10)) dX6_fan_127 (by decide) 129 rfl ?_
    refine z_iload hX dX6_fan_129 7 rfl 131 rfl ?_
    refine z_imul hX dX6_fan_131 132 rfl ?_
    refine z_iload hX dX6_fan_132 8 rfl 134 rfl ?_
    refine z_iadd hX dX6_fan_134 135 rfl ?_
    replace h := bd_elim h
    obtain ⟨x25, ex25, h⟩ := h
    refine z_nm ex25 ?_
    refine z_istore hX (lv2 := [(5, .int x25), (4, .int k0), (8, .int k0), (0, .ref (gL Γ (0))), (1, .int v1), (2, .int v2), (3, .int v3), (6, .int v6), (7, .int v7)]) dX6_fan_135 (by decide) rfl 137 rfl ?_
    refine z_iinc hX (v := (v7 + (nI 1))) (lv2 := [(7, .int ((v7 + (nI 1)))), (5, .int x25), (4, .int k0), (8, .int k0), (0, .ref (gL Γ (0))), (1, .int v1), (2, .int v2), (3, .int v3), (6, .int v6)]) dX6_fan_137 8 rfl rfl (by decide) rfl 140 rfl ?_
    refine z_goto hX 79 dX6_fan_140 (by decide) ?_
    replace h := Option.some.inj h
    subst h
    exact z_sub [4, 5, 6, 7, 2, 1, 8, 0] rfl hk
set_option maxHeartbeats 4000000 in
set_option maxRecDepth 100000 in
theorem e_X6_fan_L79 {X : Cx} {Γ : Gm} {r0 : Rb} (hX : Amb X Γ cX6_fan RX6 9 (some .int) 6) {v1 : Int32} {v2 : Int32} {v3 : Int32} {v6 : Int32} {v4 : Int32} {v5 : Int32} {v7 : Int32} {s : St} {t : (Int32 × Int32 × Int32 × St) ⊕ ((Int32 × Int32 × Int32 × St) ⊕ (Int32 × St))} (h : f_X6_fan_L79 v1 v2 v3 v6 v4 v5 v7 s = some t) (hk : (Sum.elim (fun q : Int32 × Int32 × Int32 × St => Zw X Γ 9 r0 q.2.2.2 79 [(0, .ref (gL Γ (0))), (1, .int v1), (2, .int v2), (3, .int v3), (4, .int q.1), (5, .int q.2.1), (6, .int v6), (7, .int q.2.2.1)] []) (Sum.elim (fun q : Int32 × Int32 × Int32 × St => Zw X Γ 9 r0 q.2.2.2 69 [(0, .ref (gL Γ (0))), (1, .int v1), (2, .int v2), (3, .int v3), (4, .int q.1), (5, .int q.2.1), (6, .int q.2.2.1)] []) (fun t : Int32 × St => Rt X Γ r0 (some (Value.int t.1), t.2)))) t) : Zw X Γ 9 r0 s 79 [(0, .ref (gL Γ (0))), (1, .int v1), (2, .int v2), (3, .int v3), (4, .int v4), (5, .int v5), (6, .int v6), (7, .int v7)] [] := by
  unfold f_X6_fan_L79 at h
  refine z_iload hX dX6_fan_79 7 rfl 81 rfl ?_
  refine z_iconst hX (v := (nI 4)) dX6_fan_81 rfl 82 rfl ?_
  refine z_icmp_gt hX 143 dX6_fan_82 (by decide) 85 rfl (fun c19 => ?_) (fun c19 => ?_)
  · replace h := br_pos h c19
    refine z_iinc hX (v := (v6 + (nI 1))) (lv2 := [(6, .int ((v6 + (nI 1)))), (0, .ref (gL Γ (0))), (1, .int v1), (2, .int v2), (3, .int v3), (4, .int v4), (5, .int v5), (7, .int v7)]) dX6_fan_143 6 rfl rfl (by decide) rfl 146 rfl ?_
    refine z_goto hX 69 dX6_fan_146 (by decide) ?_
    replace h := Option.some.inj h
    subst h
    exact z_sub [1, 2, 3, 4, 5, 6, 0] rfl hk
  · replace h := br_neg h c19
    refine z_iload hX dX6_fan_85 7 rfl 87 rfl ?_
    refine z_aload_n hX dX6_fan_87 0 rfl 88 rfl ?_
    refine z_get6 hX (k := 0) (j := 0) (v := .ref (gL Γ (1))) kdc_0 (by decide) rfl dX6_fan_88 fl_X6_10 91 rfl ?_
    refine z_get2 hX (k := 1) (j := 13) (v := .ref (gL Γ (12))) kdc_1 (by decide) rfl dX6_fan_91 fl_X6_167 94 rfl ?_
    refine z_iload hX dX6_fan_94 6 rfl 96 rfl ?_
    replace h := gd_elim h
    obtain ⟨g20, h⟩ := h
    refine z_iald hX (inb_vp g20) dX6_fan_96 97 rfl ?_
    refine z_icmp_ne hX 104 dX6_fan_97 (by decide) 100 rfl (fun c21 => ?_) (fun c21 => ?_)
    · replace h := br_pos h c21
      refine z_aload_n hX dX6_fan_104 0 rfl 105 rfl ?_
      refine z_iload_n hX dX6_fan_105 1 rfl 106 rfl ?_
      refine z_iload hX dX6_fan_106 6 rfl 108 rfl ?_
      refine z_iload hX dX6_fan_108 7 rfl 110 rfl ?_
      refine z_iload_n hX dX6_fan_110 2 rfl 111 rfl ?_
      replace h := cl_elim h
      obtain ⟨x23, s22, hx23, h⟩ := h
      refine z_cV6i hX (b := 0) (As := [.int v1, .int v6, .int v7, .int v2]) (c_X6_heldIfBlown hx23) lk_X6_202 rfl kdc_0 ds_X6_heldIfBlown rfl (by decide) (by decide) (by decide) dX6_fan_111 rfl 114 rfl ?_
      exact z_sub [0, 1, 2, 3, 4, 5, 6, 7] rfl (e_X6_fan_J114 hX h hk)
    · replace h := br_neg h c21
      refine z_iconst hX (v := (-1)) dX6_fan_100 rfl 101 rfl ?_
      refine z_goto hX 114 dX6_fan_101 (by decide) ?_
      exact z_sub [0, 1, 2, 3, 4, 5, 6, 7] rfl (e_X6_fan_J114 hX h hk)
set_option maxHeartbeats 4000000 in
set_option maxRecDepth 100000 in
theorem e_X6_fan_L69 {X : Cx} {Γ : Gm} {r0 : Rb} (hX : Amb X Γ cX6_fan RX6 9 (some .int) 6) {v1 : Int32} {v2 : Int32} {v3 : Int32} {v4 : Int32} {v5 : Int32} {v6 : Int32} {s : St} {t : (Int32 × Int32 × Int32 × St) ⊕ (Int32 × St)} (h : f_X6_fan_L69 v1 v2 v3 v4 v5 v6 s = some t) (hk : (Sum.elim (fun q : Int32 × Int32 × Int32 × St => Zw X Γ 9 r0 q.2.2.2 69 [(0, .ref (gL Γ (0))), (1, .int v1), (2, .int v2), (3, .int v3), (4, .int q.1), (5, .int q.2.1), (6, .int q.2.2.1)] []) (fun t : Int32 × St => Rt X Γ r0 (some (Value.int t.1), t.2))) t) : Zw X Γ 9 r0 s 69 [(0, .ref (gL Γ (0))), (1, .int v1), (2, .int v2), (3, .int v3), (4, .int v4), (5, .int v5), (6, .int v6)] [] := by
  unfold f_X6_fan_L69 at h
  refine z_iload hX dX6_fan_69 6 rfl 71 rfl ?_
  refine z_bipush hX (v := (nI 6)) dX6_fan_71 (by decide) 73 rfl ?_
  refine z_icmp_ge hX 149 dX6_fan_73 (by decide) 76 rfl (fun c16 => ?_) (fun c16 => ?_)
  · replace h := br_pos h c16
    refine z_iload hX dX6_fan_149 5 rfl 151 rfl ?_
    refine z_bipush hX (v := (-4)) dX6_fan_151 (by decide) 153 rfl ?_
    refine z_icmp_eq hX 160 dX6_fan_153 (by decide) 156 rfl (fun c17 => ?_) (fun c17 => ?_)
    · replace h := br_pos h c17
      refine z_iload hX dX6_fan_160 5 rfl 162 rfl ?_
      refine z_goto hX 167 dX6_fan_162 (by decide) ?_
      replace h := Option.some.inj h
      subst h
      exact z_iret hX dX6_fan_167 rfl hk
    · replace h := br_neg h c17
      refine z_iload_n hX dX6_fan_156 3 rfl 157 rfl ?_
      refine z_if_ne hX 165 dX6_fan_157 (by decide) 160 rfl (fun c18 => ?_) (fun c18 => ?_)
      · replace h := br_pos h c18
        refine z_iload hX dX6_fan_165 4 rfl 167 rfl ?_
        replace h := Option.some.inj h
        subst h
        exact z_iret hX dX6_fan_167 rfl hk
      · replace h := br_neg h c18
        refine z_iload hX dX6_fan_160 5 rfl 162 rfl ?_
        refine z_goto hX 167 dX6_fan_162 (by decide) ?_
        replace h := Option.some.inj h
        subst h
        exact z_iret hX dX6_fan_167 rfl hk
  · replace h := br_neg h c16
    refine z_iconst hX (v := (nI 0)) dX6_fan_76 rfl 77 rfl ?_
    refine z_istore hX (lv2 := [(7, .int ((nI 0))), (0, .ref (gL Γ (0))), (1, .int v1), (2, .int v2), (3, .int v3), (4, .int v4), (5, .int v5), (6, .int v6)]) dX6_fan_77 (by decide) rfl 79 rfl ?_
    exact z_sub [1, 2, 3, 4, 5, 6, 7, 0] rfl (lp_ok (Z := fun q : Int32 × Int32 × Int32 × St => Zw X Γ 9 r0 q.2.2.2 79 [(0, .ref (gL Γ (0))), (1, .int v1), (2, .int v2), (3, .int v3), (4, .int q.1), (5, .int q.2.1), (6, .int v6), (7, .int q.2.2.1)] []) (fun q t h hk => e_X6_fan_L79 hX h hk) Fu _ _ h hk)
set_option maxHeartbeats 4000000 in
set_option maxRecDepth 100000 in
theorem e_X6_fan {X : Cx} {Γ : Gm} {r0 : Rb} (hX : Amb X Γ cX6_fan RX6 9 (some .int) 6) {a1 : Int32} {a2 : Int32} {a3 : Int32} {s : St} {t : Int32 × St} (h : f_X6_fan a1 a2 a3 s = some t) (hk : (fun t : Int32 × St => Rt X Γ r0 (some (Value.int t.1), t.2)) t) : Zw X Γ 9 r0 s 0 [(0, .ref (gL Γ (0))), (1, .int a1), (2, .int a2), (3, .int a3)] [] := by
  unfold f_X6_fan at h
  refine z_aload_n hX dX6_fan_0 0 rfl 1 rfl ?_
  refine z_get6 hX (k := 0) (j := 0) (v := .ref (gL Γ (1))) kdc_0 (by decide) rfl dX6_fan_1 fl_X6_10 4 rfl ?_
  refine z_iload_n hX dX6_fan_4 1 rfl 5 rfl ?_
  replace h := cl_elim h
  obtain ⟨x2, s1, hx2, h⟩ := h
  refine z_cV2i hX (b := 1) (As := [.int a1]) (c_X2_isSitter hx2) lk_X6_139 rfl kdc_1 ds_X2_isSitter rfl (by decide) (by decide) (by decide) dX6_fan_5 rfl 8 rfl ?_
  refine z_if_eq hX 30 dX6_fan_8 (by decide) 11 rfl (fun c3 => ?_) (fun c3 => ?_)
  · replace h := br_pos h c3
    refine z_iconst hX (v := (-1)) dX6_fan_30 rfl 31 rfl ?_
    replace h := Option.some.inj h
    subst h
    exact z_iret hX dX6_fan_31 rfl hk
  · replace h := br_neg h c3
    refine z_iload_n hX dX6_fan_11 2 rfl 12 rfl ?_
    refine z_iconst hX (v := (nI 0)) dX6_fan_12 rfl 13 rfl ?_
    refine z_bipush hX (v := (nI 60)) dX6_fan_13 (by decide) 15 rfl ?_
    replace h := cl_elim h
    obtain ⟨x5, s4, hx5, h⟩ := h
    refine z_cSi hX (As := [.int a2, .int ((nI 0)), .int ((nI 60))]) (c_X6_isWithin hx5) lk_X6_62 ds_X6_isWithin rfl (by decide) (by decide) (by decide) dX6_fan_15 rfl 18 rfl ?_
    refine z_if_eq hX 30 dX6_fan_18 (by decide) 21 rfl (fun c6 => ?_) (fun c6 => ?_)
    · replace h := br_pos h c6
      refine z_iconst hX (v := (-1)) dX6_fan_30 rfl 31 rfl ?_
      replace h := Option.some.inj h
      subst h
      exact z_iret hX dX6_fan_31 rfl hk
    · replace h := br_neg h c6
      refine z_iload_n hX dX6_fan_21 3 rfl 22 rfl ?_
      refine z_iconst hX (v := (nI 0)) dX6_fan_22 rfl 23 rfl ?_
      refine z_iconst hX (v := (nI 1)) dX6_fan_23 rfl 24 rfl ?_
      replace h := cl_elim h
      obtain ⟨x8, s7, hx8, h⟩ := h
      refine z_cSi hX (As := [.int a3, .int ((nI 0)), .int ((nI 1))]) (c_X6_isWithin hx8) lk_X6_62 ds_X6_isWithin rfl (by decide) (by decide) (by decide) dX6_fan_24 rfl 27 rfl ?_
      refine z_if_ne hX 32 dX6_fan_27 (by decide) 30 rfl (fun c9 => ?_) (fun c9 => ?_)
      · replace h := br_pos h c9
        refine z_aload_n hX dX6_fan_32 0 rfl 33 rfl ?_
        refine z_get6 hX (k := 0) (j := 1) (v := .ref (gL Γ (14))) kdc_0 (by decide) rfl dX6_fan_33 fl_X6_16 36 rfl ?_
        refine z_aload_n hX dX6_fan_36 0 rfl 37 rfl ?_
        refine z_get6 hX (k := 0) (j := 0) (v := .ref (gL Γ (1))) kdc_0 (by decide) rfl dX6_fan_37 fl_X6_10 40 rfl ?_
        replace h := cl_elim h
        obtain ⟨x11, s10, hx11, h⟩ := h
        refine z_cV2v hX (b := 14) (As := [.ref (gL Γ (1))]) (c_X2_copyOf hx11) lk_X6_83 rfl kdc_14 ds_X2_copyOf rfl (by decide) (by decide) (by decide) dX6_fan_40 rfl 43 rfl ?_
        refine z_aload_n hX dX6_fan_43 0 rfl 44 rfl ?_
        refine z_get6 hX (k := 0) (j := 1) (v := .ref (gL Γ (14))) kdc_0 (by decide) rfl dX6_fan_44 fl_X6_16 47 rfl ?_
        refine z_iload_n hX dX6_fan_47 2 rfl 48 rfl ?_
        replace h := cl_elim h
        obtain ⟨x13, s12, hx13, h⟩ := h
        refine z_cV2i hX (b := 14) (As := [.int a2]) (c_X2_goOn hx13) lk_X6_180 rfl kdc_14 ds_X2_goOn rfl (by decide) (by decide) (by decide) dX6_fan_48 rfl 51 rfl ?_
        refine z_pop hX dX6_fan_51 rfl 52 rfl ?_
        refine z_aload_n hX dX6_fan_52 0 rfl 53 rfl ?_
        refine z_get6 hX (k := 0) (j := 1) (v := .ref (gL Γ (14))) kdc_0 (by decide) rfl dX6_fan_53 fl_X6_16 56 rfl ?_
        refine z_iload_n hX dX6_fan_56 1 rfl 57 rfl ?_
        replace h := cl_elim h
        obtain ⟨x15, s14, hx15, h⟩ := h
        refine z_cV2i hX (b := 14) (As := [.int a1]) (c_X2_heldBy hx15) lk_X6_148 rfl kdc_14 ds_X2_heldBy rfl (by decide) (by decide) (by decide) dX6_fan_57 rfl 60 rfl ?_
        refine z_istore hX (lv2 := [(4, .int x15), (0, .ref (gL Γ (0))), (1, .int a1), (2, .int a2), (3, .int a3)]) dX6_fan_60 (by decide) rfl 62 rfl ?_
        refine z_bipush hX (v := (-4)) dX6_fan_62 (by decide) 64 rfl ?_
        refine z_istore hX (lv2 := [(5, .int ((-4))), (4, .int x15), (0, .ref (gL Γ (0))), (1, .int a1), (2, .int a2), (3, .int a3)]) dX6_fan_64 (by decide) rfl 66 rfl ?_
        refine z_iconst hX (v := (nI 0)) dX6_fan_66 rfl 67 rfl ?_
        refine z_istore hX (lv2 := [(6, .int ((nI 0))), (5, .int ((-4))), (4, .int x15), (0, .ref (gL Γ (0))), (1, .int a1), (2, .int a2), (3, .int a3)]) dX6_fan_67 (by decide) rfl 69 rfl ?_
        exact z_sub [3, 4, 5, 6, 2, 1, 0] rfl (lp_ok (Z := fun q : Int32 × Int32 × Int32 × St => Zw X Γ 9 r0 q.2.2.2 69 [(0, .ref (gL Γ (0))), (1, .int a1), (2, .int a2), (3, .int a3), (4, .int q.1), (5, .int q.2.1), (6, .int q.2.2.1)] []) (fun q t h hk => e_X6_fan_L69 hX h hk) Fu _ _ h hk)
      · replace h := br_neg h c9
        refine z_iconst hX (v := (-1)) dX6_fan_30 rfl 31 rfl ?_
        replace h := Option.some.inj h
        subst h
        exact z_iret hX dX6_fan_31 rfl hk
theorem c_X6_fan {lc : Launch} {Γ : Gm} {a1 : Int32} {a2 : Int32} {a3 : Int32} {s s2 : St} {v : Int32} (h : f_X6_fan a1 a2 a3 s = some (v, s2)) : Ct lc Γ yX6_fan cX6_fan 9 (some .int) 6 [.ref (gL Γ (0)), .int a1, .int a2, .int a3] s (some (.int v), s2) := Ct.of (by decide +kernel) (Nat.le_of_ble_eq_true rfl) (fun X hl hX => e_X6_fan hX h rfl)
theorem dX6_areOdds_0 : decode cX6_areOdds 0 = .ok (.iload_n 1, 1) := by decide +kernel
theorem dX6_areOdds_1 : decode cX6_areOdds 1 = .ok (.iconst 0, 1) := by decide +kernel
theorem dX6_areOdds_2 : decode cX6_areOdds 2 = .ok (.bipush 10, 2) := by decide +kernel
theorem dX6_areOdds_4 : decode cX6_areOdds 4 = .ok (.invokestatic 62, 3) := by decide +kernel
theorem dX6_areOdds_7 : decode cX6_areOdds 7 = .ok (.ifCond .eq 38, 3) := by decide +kernel
theorem dX6_areOdds_10 : decode cX6_areOdds 10 = .ok (.aload_n 0, 1) := by decide +kernel
theorem dX6_areOdds_11 : decode cX6_areOdds 11 = .ok (.getfield 10, 3) := by decide +kernel
theorem dX6_areOdds_14 : decode cX6_areOdds 14 = .ok (.iload_n 2, 1) := by decide +kernel
theorem dX6_areOdds_15 : decode cX6_areOdds 15 = .ok (.invokevirtual 139, 3) := by decide +kernel
theorem dX6_areOdds_18 : decode cX6_areOdds 18 = .ok (.ifCond .eq 27, 3) := by decide +kernel
theorem dX6_areOdds_21 : decode cX6_areOdds 21 = .ok (.iload_n 3, 1) := by decide +kernel
theorem dX6_areOdds_22 : decode cX6_areOdds 22 = .ok (.iconst 0, 1) := by decide +kernel
theorem dX6_areOdds_23 : decode cX6_areOdds 23 = .ok (.bipush 8, 2) := by decide +kernel
theorem dX6_areOdds_25 : decode cX6_areOdds 25 = .ok (.invokestatic 62, 3) := by decide +kernel
theorem dX6_areOdds_28 : decode cX6_areOdds 28 = .ok (.ifCond .eq 17, 3) := by decide +kernel
theorem dX6_areOdds_31 : decode cX6_areOdds 31 = .ok (.iload 4, 2) := by decide +kernel
theorem dX6_areOdds_33 : decode cX6_areOdds 33 = .ok (.iconst 0, 1) := by decide +kernel
theorem dX6_areOdds_34 : decode cX6_areOdds 34 = .ok (.iconst 1, 1) := by decide +kernel
theorem dX6_areOdds_35 : decode cX6_areOdds 35 = .ok (.invokestatic 62, 3) := by decide +kernel
theorem dX6_areOdds_38 : decode cX6_areOdds 38 = .ok (.ifCond .eq 7, 3) := by decide +kernel
theorem dX6_areOdds_41 : decode cX6_areOdds 41 = .ok (.iconst 1, 1) := by decide +kernel
theorem dX6_areOdds_42 : decode cX6_areOdds 42 = .ok (.goto 4, 3) := by decide +kernel
theorem dX6_areOdds_45 : decode cX6_areOdds 45 = .ok (.iconst 0, 1) := by decide +kernel
theorem dX6_areOdds_46 : decode cX6_areOdds 46 = .ok (.ireturn, 1) := by decide +kernel
def f_X6_areOdds (a1 : Int32) (a2 : Int32) (a3 : Int32) (a4 : Int32) (s : St) : Option (Int32 × St) := cl (f_X6_isWithin a1 (nI 0) (nI 10) s) (fun x2 s1 => if x2 = 0 then (some (((nI 0), s1))) else (cl (f_X2_isSitter 1 a2 s1) (fun x5 s4 => if x5 = 0 then (some (((nI 0), s4))) else (cl (f_X6_isWithin a3 (nI 0) (nI 8) s4) (fun x8 s7 => if x8 = 0 then (some (((nI 0), s7))) else (cl (f_X6_isWithin a4 (nI 0) (nI 1) s7) (fun x11 s10 => if x11 = 0 then (some (((nI 0), s10))) else (some (((nI 1), s10))))))))))
set_option maxHeartbeats 4000000 in
set_option maxRecDepth 100000 in
theorem e_X6_areOdds {X : Cx} {Γ : Gm} {r0 : Rb} (hX : Amb X Γ cX6_areOdds RX6 5 (some .boolean) 1) {a1 : Int32} {a2 : Int32} {a3 : Int32} {a4 : Int32} {s : St} {t : Int32 × St} (h : f_X6_areOdds a1 a2 a3 a4 s = some t) (hk : (fun t : Int32 × St => Rt X Γ r0 (some (Value.int t.1), t.2)) t) : Zw X Γ 5 r0 s 0 [(0, .ref (gL Γ (0))), (1, .int a1), (2, .int a2), (3, .int a3), (4, .int a4)] [] := by
  unfold f_X6_areOdds at h
  refine z_iload_n hX dX6_areOdds_0 1 rfl 1 rfl ?_
  refine z_iconst hX (v := (nI 0)) dX6_areOdds_1 rfl 2 rfl ?_
  refine z_bipush hX (v := (nI 10)) dX6_areOdds_2 (by decide) 4 rfl ?_
  replace h := cl_elim h
  obtain ⟨x2, s1, hx2, h⟩ := h
  refine z_cSi hX (As := [.int a1, .int ((nI 0)), .int ((nI 10))]) (c_X6_isWithin hx2) lk_X6_62 ds_X6_isWithin rfl (by decide) (by decide) (by decide) dX6_areOdds_4 rfl 7 rfl ?_
  refine z_if_eq hX 45 dX6_areOdds_7 (by decide) 10 rfl (fun c3 => ?_) (fun c3 => ?_)
  · replace h := br_pos h c3
    refine z_iconst hX (v := (nI 0)) dX6_areOdds_45 rfl 46 rfl ?_
    replace h := Option.some.inj h
    subst h
    exact z_zret hX dX6_areOdds_46 rfl (by decide) hk
  · replace h := br_neg h c3
    refine z_aload_n hX dX6_areOdds_10 0 rfl 11 rfl ?_
    refine z_get6 hX (k := 0) (j := 0) (v := .ref (gL Γ (1))) kdc_0 (by decide) rfl dX6_areOdds_11 fl_X6_10 14 rfl ?_
    refine z_iload_n hX dX6_areOdds_14 2 rfl 15 rfl ?_
    replace h := cl_elim h
    obtain ⟨x5, s4, hx5, h⟩ := h
    refine z_cV2i hX (b := 1) (As := [.int a2]) (c_X2_isSitter hx5) lk_X6_139 rfl kdc_1 ds_X2_isSitter rfl (by decide) (by decide) (by decide) dX6_areOdds_15 rfl 18 rfl ?_
    refine z_if_eq hX 45 dX6_areOdds_18 (by decide) 21 rfl (fun c6 => ?_) (fun c6 => ?_)
    · replace h := br_pos h c6
      refine z_iconst hX (v := (nI 0)) dX6_areOdds_45 rfl 46 rfl ?_
      replace h := Option.some.inj h
      subst h
      exact z_zret hX dX6_areOdds_46 rfl (by decide) hk
    · replace h := br_neg h c6
      refine z_iload_n hX dX6_areOdds_21 3 rfl 22 rfl ?_
      refine z_iconst hX (v := (nI 0)) dX6_areOdds_22 rfl 23 rfl ?_
      refine z_bipush hX (v := (nI 8)) dX6_areOdds_23 (by decide) 25 rfl ?_
      replace h := cl_elim h
      obtain ⟨x8, s7, hx8, h⟩ := h
      refine z_cSi hX (As := [.int a3, .int ((nI 0)), .int ((nI 8))]) (c_X6_isWithin hx8) lk_X6_62 ds_X6_isWithin rfl (by decide) (by decide) (by decide) dX6_areOdds_25 rfl 28 rfl ?_
      refine z_if_eq hX 45 dX6_areOdds_28 (by decide) 31 rfl (fun c9 => ?_) (fun c9 => ?_)
      · replace h := br_pos h c9
        refine z_iconst hX (v := (nI 0)) dX6_areOdds_45 rfl 46 rfl ?_
        replace h := Option.some.inj h
        subst h
        exact z_zret hX dX6_areOdds_46 rfl (by decide) hk
      · replace h := br_neg h c9
        refine z_iload hX dX6_areOdds_31 4 rfl 33 rfl ?_
        refine z_iconst hX (v := (nI 0)) dX6_areOdds_33 rfl 34 rfl ?_
        refine z_iconst hX (v := (nI 1)) dX6_areOdds_34 rfl 35 rfl ?_
        replace h := cl_elim h
        obtain ⟨x11, s10, hx11, h⟩ := h
        refine z_cSi hX (As := [.int a4, .int ((nI 0)), .int ((nI 1))]) (c_X6_isWithin hx11) lk_X6_62 ds_X6_isWithin rfl (by decide) (by decide) (by decide) dX6_areOdds_35 rfl 38 rfl ?_
        refine z_if_eq hX 45 dX6_areOdds_38 (by decide) 41 rfl (fun c12 => ?_) (fun c12 => ?_)
        · replace h := br_pos h c12
          refine z_iconst hX (v := (nI 0)) dX6_areOdds_45 rfl 46 rfl ?_
          replace h := Option.some.inj h
          subst h
          exact z_zret hX dX6_areOdds_46 rfl (by decide) hk
        · replace h := br_neg h c12
          refine z_iconst hX (v := (nI 1)) dX6_areOdds_41 rfl 42 rfl ?_
          refine z_goto hX 46 dX6_areOdds_42 (by decide) ?_
          replace h := Option.some.inj h
          subst h
          exact z_zret hX dX6_areOdds_46 rfl (by decide) hk
theorem c_X6_areOdds {lc : Launch} {Γ : Gm} {a1 : Int32} {a2 : Int32} {a3 : Int32} {a4 : Int32} {s s2 : St} {v : Int32} (h : f_X6_areOdds a1 a2 a3 a4 s = some (v, s2)) : Ct lc Γ yX6_areOdds cX6_areOdds 5 (some .boolean) 1 [.ref (gL Γ (0)), .int a1, .int a2, .int a3, .int a4] s (some (.int v), s2) := Ct.of (by decide +kernel) (Nat.le_of_ble_eq_true rfl) (fun X hl hX => e_X6_areOdds hX h rfl)
theorem dX6_luck_0 : decode cX6_luck 0 = .ok (.aload_n 0, 1) := by decide +kernel
theorem dX6_luck_1 : decode cX6_luck 1 = .ok (.iload_n 1, 1) := by decide +kernel
theorem dX6_luck_2 : decode cX6_luck 2 = .ok (.iload_n 2, 1) := by decide +kernel
theorem dX6_luck_3 : decode cX6_luck 3 = .ok (.iload_n 3, 1) := by decide +kernel
theorem dX6_luck_4 : decode cX6_luck 4 = .ok (.iload 4, 2) := by decide +kernel
theorem dX6_luck_6 : decode cX6_luck 6 = .ok (.invokevirtual 206, 3) := by decide +kernel
theorem dX6_luck_9 : decode cX6_luck 9 = .ok (.ifCond .ne 7, 3) := by decide +kernel
theorem dX6_luck_12 : decode cX6_luck 12 = .ok (.ldc2_w 209, 3) := by decide +kernel
theorem dX6_luck_15 : decode cX6_luck 15 = .ok (.lreturn, 1) := by decide +kernel
theorem dX6_luck_16 : decode cX6_luck 16 = .ok (.aload_n 0, 1) := by decide +kernel
theorem dX6_luck_17 : decode cX6_luck 17 = .ok (.getfield 48, 3) := by decide +kernel
theorem dX6_luck_20 : decode cX6_luck 20 = .ok (.aload_n 0, 1) := by decide +kernel
theorem dX6_luck_21 : decode cX6_luck 21 = .ok (.getfield 10, 3) := by decide +kernel
theorem dX6_luck_24 : decode cX6_luck 24 = .ok (.iload_n 1, 1) := by decide +kernel
theorem dX6_luck_25 : decode cX6_luck 25 = .ok (.iload_n 2, 1) := by decide +kernel
theorem dX6_luck_26 : decode cX6_luck 26 = .ok (.iload_n 3, 1) := by decide +kernel
theorem dX6_luck_27 : decode cX6_luck 27 = .ok (.iconst 0, 1) := by decide +kernel
theorem dX6_luck_28 : decode cX6_luck 28 = .ok (.invokevirtual 211, 3) := by decide +kernel
theorem dX6_luck_31 : decode cX6_luck 31 = .ok (.iload 4, 2) := by decide +kernel
theorem dX6_luck_33 : decode cX6_luck 33 = .ok (.ifCond .ne 13, 3) := by decide +kernel
theorem dX6_luck_36 : decode cX6_luck 36 = .ok (.aload_n 0, 1) := by decide +kernel
theorem dX6_luck_37 : decode cX6_luck 37 = .ok (.getfield 48, 3) := by decide +kernel
theorem dX6_luck_40 : decode cX6_luck 40 = .ok (.getfield 215, 3) := by decide +kernel
theorem dX6_luck_43 : decode cX6_luck 43 = .ok (.goto 10, 3) := by decide +kernel
theorem dX6_luck_46 : decode cX6_luck 46 = .ok (.aload_n 0, 1) := by decide +kernel
theorem dX6_luck_47 : decode cX6_luck 47 = .ok (.getfield 48, 3) := by decide +kernel
theorem dX6_luck_50 : decode cX6_luck 50 = .ok (.getfield 219, 3) := by decide +kernel
theorem dX6_luck_53 : decode cX6_luck 53 = .ok (.lreturn, 1) := by decide +kernel
def f_X6_luck (a1 : Int32) (a2 : Int32) (a3 : Int32) (a4 : Int32) (s : St) : Option (Int64 × St) := cl (f_X6_areOdds a1 a2 a3 a4 s) (fun x2 s1 => if ¬ x2 = 0 then (cl (f_X1_weigh 1 a1 a2 a3 (nI 0) s1) (fun x5 s4 => if ¬ a4 = 0 then (some (((s4.2 36 6), s4))) else (some (((s4.2 36 5), s4))))) else (some (((-1), s1))))
set_option maxHeartbeats 4000000 in
set_option maxRecDepth 100000 in
theorem e_X6_luck {X : Cx} {Γ : Gm} {r0 : Rb} (hX : Amb X Γ cX6_luck RX6 5 (some .long) 200) {a1 : Int32} {a2 : Int32} {a3 : Int32} {a4 : Int32} {s : St} {t : Int64 × St} (h : f_X6_luck a1 a2 a3 a4 s = some t) (hk : (fun t : Int64 × St => Rt X Γ r0 (some (Value.long t.1), t.2)) t) : Zw X Γ 5 r0 s 0 [(0, .ref (gL Γ (0))), (1, .int a1), (2, .int a2), (3, .int a3), (4, .int a4)] [] := by
  unfold f_X6_luck at h
  refine z_aload_n hX dX6_luck_0 0 rfl 1 rfl ?_
  refine z_iload_n hX dX6_luck_1 1 rfl 2 rfl ?_
  refine z_iload_n hX dX6_luck_2 2 rfl 3 rfl ?_
  refine z_iload_n hX dX6_luck_3 3 rfl 4 rfl ?_
  refine z_iload hX dX6_luck_4 4 rfl 6 rfl ?_
  replace h := cl_elim h
  obtain ⟨x2, s1, hx2, h⟩ := h
  refine z_cV6i hX (b := 0) (As := [.int a1, .int a2, .int a3, .int a4]) (c_X6_areOdds hx2) lk_X6_206 rfl kdc_0 ds_X6_areOdds rfl (by decide) (by decide) (by decide) dX6_luck_6 rfl 9 rfl ?_
  refine z_if_ne hX 16 dX6_luck_9 (by decide) 12 rfl (fun c3 => ?_) (fun c3 => ?_)
  · replace h := br_pos h c3
    refine z_aload_n hX dX6_luck_16 0 rfl 17 rfl ?_
    refine z_get6 hX (k := 0) (j := 6) (v := .ref (gL Γ (36))) kdc_0 (by decide) rfl dX6_luck_17 fl_X6_48 20 rfl ?_
    refine z_aload_n hX dX6_luck_20 0 rfl 21 rfl ?_
    refine z_get6 hX (k := 0) (j := 0) (v := .ref (gL Γ (1))) kdc_0 (by decide) rfl dX6_luck_21 fl_X6_10 24 rfl ?_
    refine z_iload_n hX dX6_luck_24 1 rfl 25 rfl ?_
    refine z_iload_n hX dX6_luck_25 2 rfl 26 rfl ?_
    refine z_iload_n hX dX6_luck_26 3 rfl 27 rfl ?_
    refine z_iconst hX (v := (nI 0)) dX6_luck_27 rfl 28 rfl ?_
    replace h := cl_elim h
    obtain ⟨x5, s4, hx5, h⟩ := h
    refine z_cV1v hX (b := 36) (As := [.ref (gL Γ (1)), .int a1, .int a2, .int a3, .int ((nI 0))]) (c_X1_weigh hx5) lk_X6_211 rfl kdc_36 ds_X1_weigh rfl (by decide) (by decide) (by decide) dX6_luck_28 rfl 31 rfl ?_
    refine z_iload hX dX6_luck_31 4 rfl 33 rfl ?_
    refine z_if_ne hX 46 dX6_luck_33 (by decide) 36 rfl (fun c6 => ?_) (fun c6 => ?_)
    · replace h := br_pos h c6
      refine z_aload_n hX dX6_luck_46 0 rfl 47 rfl ?_
      refine z_get6 hX (k := 0) (j := 6) (v := .ref (gL Γ (36))) kdc_0 (by decide) rfl dX6_luck_47 fl_X6_48 50 rfl ?_
      refine z_get1 hX (k := 36) (j := 6) (v := .long ((s4.2 36 6))) kdc_36 (by decide) rfl dX6_luck_50 fl_X6_219 53 rfl ?_
      replace h := Option.some.inj h
      subst h
      exact z_lret hX dX6_luck_53 rfl hk
    · replace h := br_neg h c6
      refine z_aload_n hX dX6_luck_36 0 rfl 37 rfl ?_
      refine z_get6 hX (k := 0) (j := 6) (v := .ref (gL Γ (36))) kdc_0 (by decide) rfl dX6_luck_37 fl_X6_48 40 rfl ?_
      refine z_get1 hX (k := 36) (j := 5) (v := .long ((s4.2 36 5))) kdc_36 (by decide) rfl dX6_luck_40 fl_X6_215 43 rfl ?_
      refine z_goto hX 53 dX6_luck_43 (by decide) ?_
      replace h := Option.some.inj h
      subst h
      exact z_lret hX dX6_luck_53 rfl hk
  · replace h := br_neg h c3
    refine z_ldc2 hX (v := (-1)) dX6_luck_12 ml_X6_209 15 rfl ?_
    replace h := Option.some.inj h
    subst h
    exact z_lret hX dX6_luck_15 rfl hk
theorem c_X6_luck {lc : Launch} {Γ : Gm} {a1 : Int32} {a2 : Int32} {a3 : Int32} {a4 : Int32} {s s2 : St} {v : Int64} (h : f_X6_luck a1 a2 a3 a4 s = some (v, s2)) : Ct lc Γ yX6_luck cX6_luck 5 (some .long) 200 [.ref (gL Γ (0)), .int a1, .int a2, .int a3, .int a4] s (some (.long v), s2) := Ct.of (by decide +kernel) (Nat.le_of_ble_eq_true rfl) (fun X hl hX => e_X6_luck hX h rfl)
theorem dX6_mean_0 : decode cX6_mean 0 = .ok (.aload_n 0, 1) := by decide +kernel
theorem dX6_mean_1 : decode cX6_mean 1 = .ok (.iload_n 1, 1) := by decide +kernel
theorem dX6_mean_2 : decode cX6_mean 2 = .ok (.iload_n 2, 1) := by decide +kernel
theorem dX6_mean_3 : decode cX6_mean 3 = .ok (.iload_n 3, 1) := by decide +kernel
theorem dX6_mean_4 : decode cX6_mean 4 = .ok (.iload 4, 2) := by decide +kernel
theorem dX6_mean_6 : decode cX6_mean 6 = .ok (.invokevirtual 206, 3) := by decide +kernel
theorem dX6_mean_9 : decode cX6_mean 9 = .ok (.ifCond .ne 7, 3) := by decide +kernel
theorem dX6_mean_12 : decode cX6_mean 12 = .ok (.ldc2_w 209, 3) := by decide +kernel
theorem dX6_mean_15 : decode cX6_mean 15 = .ok (.lreturn, 1) := by decide +kernel
theorem dX6_mean_16 : decode cX6_mean 16 = .ok (.aload_n 0, 1) := by decide +kernel
theorem dX6_mean_17 : decode cX6_mean 17 = .ok (.getfield 48, 3) := by decide +kernel
theorem dX6_mean_20 : decode cX6_mean 20 = .ok (.aload_n 0, 1) := by decide +kernel
theorem dX6_mean_21 : decode cX6_mean 21 = .ok (.getfield 10, 3) := by decide +kernel
theorem dX6_mean_24 : decode cX6_mean 24 = .ok (.iload_n 1, 1) := by decide +kernel
theorem dX6_mean_25 : decode cX6_mean 25 = .ok (.iload_n 2, 1) := by decide +kernel
theorem dX6_mean_26 : decode cX6_mean 26 = .ok (.iload_n 3, 1) := by decide +kernel
theorem dX6_mean_27 : decode cX6_mean 27 = .ok (.iconst 1, 1) := by decide +kernel
theorem dX6_mean_28 : decode cX6_mean 28 = .ok (.invokevirtual 211, 3) := by decide +kernel
theorem dX6_mean_31 : decode cX6_mean 31 = .ok (.iload 4, 2) := by decide +kernel
theorem dX6_mean_33 : decode cX6_mean 33 = .ok (.ifCond .ne 13, 3) := by decide +kernel
theorem dX6_mean_36 : decode cX6_mean 36 = .ok (.aload_n 0, 1) := by decide +kernel
theorem dX6_mean_37 : decode cX6_mean 37 = .ok (.getfield 48, 3) := by decide +kernel
theorem dX6_mean_40 : decode cX6_mean 40 = .ok (.getfield 215, 3) := by decide +kernel
theorem dX6_mean_43 : decode cX6_mean 43 = .ok (.goto 10, 3) := by decide +kernel
theorem dX6_mean_46 : decode cX6_mean 46 = .ok (.aload_n 0, 1) := by decide +kernel
theorem dX6_mean_47 : decode cX6_mean 47 = .ok (.getfield 48, 3) := by decide +kernel
theorem dX6_mean_50 : decode cX6_mean 50 = .ok (.getfield 219, 3) := by decide +kernel
theorem dX6_mean_53 : decode cX6_mean 53 = .ok (.lreturn, 1) := by decide +kernel
def f_X6_mean (a1 : Int32) (a2 : Int32) (a3 : Int32) (a4 : Int32) (s : St) : Option (Int64 × St) := cl (f_X6_areOdds a1 a2 a3 a4 s) (fun x2 s1 => if ¬ x2 = 0 then (cl (f_X1_weigh 1 a1 a2 a3 (nI 1) s1) (fun x5 s4 => if ¬ a4 = 0 then (some (((s4.2 36 6), s4))) else (some (((s4.2 36 5), s4))))) else (some (((-1), s1))))
set_option maxHeartbeats 4000000 in
set_option maxRecDepth 100000 in
theorem e_X6_mean {X : Cx} {Γ : Gm} {r0 : Rb} (hX : Amb X Γ cX6_mean RX6 5 (some .long) 200) {a1 : Int32} {a2 : Int32} {a3 : Int32} {a4 : Int32} {s : St} {t : Int64 × St} (h : f_X6_mean a1 a2 a3 a4 s = some t) (hk : (fun t : Int64 × St => Rt X Γ r0 (some (Value.long t.1), t.2)) t) : Zw X Γ 5 r0 s 0 [(0, .ref (gL Γ (0))), (1, .int a1), (2, .int a2), (3, .int a3), (4, .int a4)] [] := by
  unfold f_X6_mean at h
  refine z_aload_n hX dX6_mean_0 0 rfl 1 rfl ?_
  refine z_iload_n hX dX6_mean_1 1 rfl 2 rfl ?_
  refine z_iload_n hX dX6_mean_2 2 rfl 3 rfl ?_
  refine z_iload_n hX dX6_mean_3 3 rfl 4 rfl ?_
  refine z_iload hX dX6_mean_4 4 rfl 6 rfl ?_
  replace h := cl_elim h
  obtain ⟨x2, s1, hx2, h⟩ := h
  refine z_cV6i hX (b := 0) (As := [.int a1, .int a2, .int a3, .int a4]) (c_X6_areOdds hx2) lk_X6_206 rfl kdc_0 ds_X6_areOdds rfl (by decide) (by decide) (by decide) dX6_mean_6 rfl 9 rfl ?_
  refine z_if_ne hX 16 dX6_mean_9 (by decide) 12 rfl (fun c3 => ?_) (fun c3 => ?_)
  · replace h := br_pos h c3
    refine z_aload_n hX dX6_mean_16 0 rfl 17 rfl ?_
    refine z_get6 hX (k := 0) (j := 6) (v := .ref (gL Γ (36))) kdc_0 (by decide) rfl dX6_mean_17 fl_X6_48 20 rfl ?_
    refine z_aload_n hX dX6_mean_20 0 rfl 21 rfl ?_
    refine z_get6 hX (k := 0) (j := 0) (v := .ref (gL Γ (1))) kdc_0 (by decide) rfl dX6_mean_21 fl_X6_10 24 rfl ?_
    refine z_iload_n hX dX6_mean_24 1 rfl 25 rfl ?_
    refine z_iload_n hX dX6_mean_25 2 rfl 26 rfl ?_
    refine z_iload_n hX dX6_mean_26 3 rfl 27 rfl ?_
    refine z_iconst hX (v := (nI 1)) dX6_mean_27 rfl 28 rfl ?_
    replace h := cl_elim h
    obtain ⟨x5, s4, hx5, h⟩ := h
    refine z_cV1v hX (b := 36) (As := [.ref (gL Γ (1)), .int a1, .int a2, .int a3, .int ((nI 1))]) (c_X1_weigh hx5) lk_X6_211 rfl kdc_36 ds_X1_weigh rfl (by decide) (by decide) (by decide) dX6_mean_28 rfl 31 rfl ?_
    refine z_iload hX dX6_mean_31 4 rfl 33 rfl ?_
    refine z_if_ne hX 46 dX6_mean_33 (by decide) 36 rfl (fun c6 => ?_) (fun c6 => ?_)
    · replace h := br_pos h c6
      refine z_aload_n hX dX6_mean_46 0 rfl 47 rfl ?_
      refine z_get6 hX (k := 0) (j := 6) (v := .ref (gL Γ (36))) kdc_0 (by decide) rfl dX6_mean_47 fl_X6_48 50 rfl ?_
      refine z_get1 hX (k := 36) (j := 6) (v := .long ((s4.2 36 6))) kdc_36 (by decide) rfl dX6_mean_50 fl_X6_219 53 rfl ?_
      replace h := Option.some.inj h
      subst h
      exact z_lret hX dX6_mean_53 rfl hk
    · replace h := br_neg h c6
      refine z_aload_n hX dX6_mean_36 0 rfl 37 rfl ?_
      refine z_get6 hX (k := 0) (j := 6) (v := .ref (gL Γ (36))) kdc_0 (by decide) rfl dX6_mean_37 fl_X6_48 40 rfl ?_
      refine z_get1 hX (k := 36) (j := 5) (v := .long ((s4.2 36 5))) kdc_36 (by decide) rfl dX6_mean_40 fl_X6_215 43 rfl ?_
      refine z_goto hX 53 dX6_mean_43 (by decide) ?_
      replace h := Option.some.inj h
      subst h
      exact z_lret hX dX6_mean_53 rfl hk
  · replace h := br_neg h c3
    refine z_ldc2 hX (v := (-1)) dX6_mean_12 ml_X6_209 15 rfl ?_
    replace h := Option.some.inj h
    subst h
    exact z_lret hX dX6_mean_15 rfl hk
theorem c_X6_mean {lc : Launch} {Γ : Gm} {a1 : Int32} {a2 : Int32} {a3 : Int32} {a4 : Int32} {s s2 : St} {v : Int64} (h : f_X6_mean a1 a2 a3 a4 s = some (v, s2)) : Ct lc Γ yX6_mean cX6_mean 5 (some .long) 200 [.ref (gL Γ (0)), .int a1, .int a2, .int a3, .int a4] s (some (.long v), s2) := Ct.of (by decide +kernel) (Nat.le_of_ble_eq_true rfl) (fun X hl hX => e_X6_mean hX h rfl)
theorem dX6_see_0 : decode cX6_see 0 = .ok (.aload_n 0, 1) := by decide +kernel
theorem dX6_see_1 : decode cX6_see 1 = .ok (.getfield 10, 3) := by decide +kernel
theorem dX6_see_4 : decode cX6_see 4 = .ok (.iload_n 1, 1) := by decide +kernel
theorem dX6_see_5 : decode cX6_see 5 = .ok (.invokevirtual 139, 3) := by decide +kernel
theorem dX6_see_8 : decode cX6_see 8 = .ok (.ifCond .eq 36, 3) := by decide +kernel
theorem dX6_see_11 : decode cX6_see 11 = .ok (.aload_n 0, 1) := by decide +kernel
theorem dX6_see_12 : decode cX6_see 12 = .ok (.getfield 10, 3) := by decide +kernel
theorem dX6_see_15 : decode cX6_see 15 = .ok (.iload_n 2, 1) := by decide +kernel
theorem dX6_see_16 : decode cX6_see 16 = .ok (.invokevirtual 117, 3) := by decide +kernel
theorem dX6_see_19 : decode cX6_see 19 = .ok (.ifCond .eq 25, 3) := by decide +kernel
theorem dX6_see_22 : decode cX6_see 22 = .ok (.iload_n 3, 1) := by decide +kernel
theorem dX6_see_23 : decode cX6_see 23 = .ok (.iconst 0, 1) := by decide +kernel
theorem dX6_see_24 : decode cX6_see 24 = .ok (.bipush 30, 2) := by decide +kernel
theorem dX6_see_26 : decode cX6_see 26 = .ok (.invokestatic 62, 3) := by decide +kernel
theorem dX6_see_29 : decode cX6_see 29 = .ok (.ifCond .eq 15, 3) := by decide +kernel
theorem dX6_see_32 : decode cX6_see 32 = .ok (.iload 4, 2) := by decide +kernel
theorem dX6_see_34 : decode cX6_see 34 = .ok (.iconst 0, 1) := by decide +kernel
theorem dX6_see_35 : decode cX6_see 35 = .ok (.sipush 999, 3) := by decide +kernel
theorem dX6_see_38 : decode cX6_see 38 = .ok (.invokestatic 62, 3) := by decide +kernel
theorem dX6_see_41 : decode cX6_see 41 = .ok (.ifCond .ne 5, 3) := by decide +kernel
theorem dX6_see_44 : decode cX6_see 44 = .ok (.iconst (-1), 1) := by decide +kernel
theorem dX6_see_45 : decode cX6_see 45 = .ok (.ireturn, 1) := by decide +kernel
theorem dX6_see_46 : decode cX6_see 46 = .ok (.aload_n 0, 1) := by decide +kernel
theorem dX6_see_47 : decode cX6_see 47 = .ok (.getfield 22, 3) := by decide +kernel
theorem dX6_see_50 : decode cX6_see 50 = .ok (.iload_n 1, 1) := by decide +kernel
theorem dX6_see_51 : decode cX6_see 51 = .ok (.iload_n 2, 1) := by decide +kernel
theorem dX6_see_52 : decode cX6_see 52 = .ok (.iload_n 3, 1) := by decide +kernel
theorem dX6_see_53 : decode cX6_see 53 = .ok (.iload 4, 2) := by decide +kernel
theorem dX6_see_55 : decode cX6_see 55 = .ok (.invokevirtual 222, 3) := by decide +kernel
theorem dX6_see_58 : decode cX6_see 58 = .ok (.ifCond .eq 13, 3) := by decide +kernel
theorem dX6_see_61 : decode cX6_see 61 = .ok (.aload_n 0, 1) := by decide +kernel
theorem dX6_see_62 : decode cX6_see 62 = .ok (.getfield 22, 3) := by decide +kernel
theorem dX6_see_65 : decode cX6_see 65 = .ok (.getfield 87, 3) := by decide +kernel
theorem dX6_see_68 : decode cX6_see 68 = .ok (.goto 5, 3) := by decide +kernel
theorem dX6_see_71 : decode cX6_see 71 = .ok (.bipush (-3), 2) := by decide +kernel
theorem dX6_see_73 : decode cX6_see 73 = .ok (.ireturn, 1) := by decide +kernel
def f_X6_see (a1 : Int32) (a2 : Int32) (a3 : Int32) (a4 : Int32) (s : St) : Option (Int32 × St) := cl (f_X2_isSitter 1 a1 s) (fun x2 s1 => if x2 = 0 then (some (((-1), s1))) else (cl (f_X2_isLife 1 a2 s1) (fun x5 s4 => if x5 = 0 then (some (((-1), s4))) else (cl (f_X6_isWithin a3 (nI 0) (nI 30) s4) (fun x8 s7 => if x8 = 0 then (some (((-1), s7))) else (cl (f_X6_isWithin a4 (nI 0) (nI 999) s7) (fun x11 s10 => if ¬ x11 = 0 then (cl (f_X3_put 27 a1 a2 a3 a4 s10) (fun x14 s13 => if x14 = 0 then (some (((-3), s13))) else (some (((s13.1 27 0), s13))))) else (some (((-1), s10))))))))))
set_option maxHeartbeats 4000000 in
set_option maxRecDepth 100000 in
theorem e_X6_see {X : Cx} {Γ : Gm} {r0 : Rb} (hX : Amb X Γ cX6_see RX6 5 (some .int) 1) {a1 : Int32} {a2 : Int32} {a3 : Int32} {a4 : Int32} {s : St} {t : Int32 × St} (h : f_X6_see a1 a2 a3 a4 s = some t) (hk : (fun t : Int32 × St => Rt X Γ r0 (some (Value.int t.1), t.2)) t) : Zw X Γ 5 r0 s 0 [(0, .ref (gL Γ (0))), (1, .int a1), (2, .int a2), (3, .int a3), (4, .int a4)] [] := by
  unfold f_X6_see at h
  refine z_aload_n hX dX6_see_0 0 rfl 1 rfl ?_
  refine z_get6 hX (k := 0) (j := 0) (v := .ref (gL Γ (1))) kdc_0 (by decide) rfl dX6_see_1 fl_X6_10 4 rfl ?_
  refine z_iload_n hX dX6_see_4 1 rfl 5 rfl ?_
  replace h := cl_elim h
  obtain ⟨x2, s1, hx2, h⟩ := h
  refine z_cV2i hX (b := 1) (As := [.int a1]) (c_X2_isSitter hx2) lk_X6_139 rfl kdc_1 ds_X2_isSitter rfl (by decide) (by decide) (by decide) dX6_see_5 rfl 8 rfl ?_
  refine z_if_eq hX 44 dX6_see_8 (by decide) 11 rfl (fun c3 => ?_) (fun c3 => ?_)
  · replace h := br_pos h c3
    refine z_iconst hX (v := (-1)) dX6_see_44 rfl 45 rfl ?_
    replace h := Option.some.inj h
    subst h
    exact z_iret hX dX6_see_45 rfl hk
  · replace h := br_neg h c3
    refine z_aload_n hX dX6_see_11 0 rfl 12 rfl ?_
    refine z_get6 hX (k := 0) (j := 0) (v := .ref (gL Γ (1))) kdc_0 (by decide) rfl dX6_see_12 fl_X6_10 15 rfl ?_
    refine z_iload_n hX dX6_see_15 2 rfl 16 rfl ?_
    replace h := cl_elim h
    obtain ⟨x5, s4, hx5, h⟩ := h
    refine z_cV2i hX (b := 1) (As := [.int a2]) (c_X2_isLife hx5) lk_X6_117 rfl kdc_1 ds_X2_isLife rfl (by decide) (by decide) (by decide) dX6_see_16 rfl 19 rfl ?_
    refine z_if_eq hX 44 dX6_see_19 (by decide) 22 rfl (fun c6 => ?_) (fun c6 => ?_)
    · replace h := br_pos h c6
      refine z_iconst hX (v := (-1)) dX6_see_44 rfl 45 rfl ?_
      replace h := Option.some.inj h
      subst h
      exact z_iret hX dX6_see_45 rfl hk
    · replace h := br_neg h c6
      refine z_iload_n hX dX6_see_22 3 rfl 23 rfl ?_
      refine z_iconst hX (v := (nI 0)) dX6_see_23 rfl 24 rfl ?_
      refine z_bipush hX (v := (nI 30)) dX6_see_24 (by decide) 26 rfl ?_
      replace h := cl_elim h
      obtain ⟨x8, s7, hx8, h⟩ := h
      refine z_cSi hX (As := [.int a3, .int ((nI 0)), .int ((nI 30))]) (c_X6_isWithin hx8) lk_X6_62 ds_X6_isWithin rfl (by decide) (by decide) (by decide) dX6_see_26 rfl 29 rfl ?_
      refine z_if_eq hX 44 dX6_see_29 (by decide) 32 rfl (fun c9 => ?_) (fun c9 => ?_)
      · replace h := br_pos h c9
        refine z_iconst hX (v := (-1)) dX6_see_44 rfl 45 rfl ?_
        replace h := Option.some.inj h
        subst h
        exact z_iret hX dX6_see_45 rfl hk
      · replace h := br_neg h c9
        refine z_iload hX dX6_see_32 4 rfl 34 rfl ?_
        refine z_iconst hX (v := (nI 0)) dX6_see_34 rfl 35 rfl ?_
        refine z_sipush hX (v := (nI 999)) dX6_see_35 (by decide) 38 rfl ?_
        replace h := cl_elim h
        obtain ⟨x11, s10, hx11, h⟩ := h
        refine z_cSi hX (As := [.int a4, .int ((nI 0)), .int ((nI 999))]) (c_X6_isWithin hx11) lk_X6_62 ds_X6_isWithin rfl (by decide) (by decide) (by decide) dX6_see_38 rfl 41 rfl ?_
        refine z_if_ne hX 46 dX6_see_41 (by decide) 44 rfl (fun c12 => ?_) (fun c12 => ?_)
        · replace h := br_pos h c12
          refine z_aload_n hX dX6_see_46 0 rfl 47 rfl ?_
          refine z_get6 hX (k := 0) (j := 2) (v := .ref (gL Γ (27))) kdc_0 (by decide) rfl dX6_see_47 fl_X6_22 50 rfl ?_
          refine z_iload_n hX dX6_see_50 1 rfl 51 rfl ?_
          refine z_iload_n hX dX6_see_51 2 rfl 52 rfl ?_
          refine z_iload_n hX dX6_see_52 3 rfl 53 rfl ?_
          refine z_iload hX dX6_see_53 4 rfl 55 rfl ?_
          replace h := cl_elim h
          obtain ⟨x14, s13, hx14, h⟩ := h
          refine z_cV3i hX (b := 27) (As := [.int a1, .int a2, .int a3, .int a4]) (c_X3_put hx14) lk_X6_222 rfl kdc_27 ds_X3_put rfl (by decide) (by decide) (by decide) dX6_see_55 rfl 58 rfl ?_
          refine z_if_eq hX 71 dX6_see_58 (by decide) 61 rfl (fun c15 => ?_) (fun c15 => ?_)
          · replace h := br_pos h c15
            refine z_bipush hX (v := (-3)) dX6_see_71 (by decide) 73 rfl ?_
            replace h := Option.some.inj h
            subst h
            exact z_iret hX dX6_see_73 rfl hk
          · replace h := br_neg h c15
            refine z_aload_n hX dX6_see_61 0 rfl 62 rfl ?_
            refine z_get6 hX (k := 0) (j := 2) (v := .ref (gL Γ (27))) kdc_0 (by decide) rfl dX6_see_62 fl_X6_22 65 rfl ?_
            refine z_get3 hX (k := 27) (j := 0) (v := .int ((s13.1 27 0))) kdc_27 (by decide) rfl dX6_see_65 fl_X6_87 68 rfl ?_
            refine z_goto hX 73 dX6_see_68 (by decide) ?_
            replace h := Option.some.inj h
            subst h
            exact z_iret hX dX6_see_73 rfl hk
        · replace h := br_neg h c12
          refine z_iconst hX (v := (-1)) dX6_see_44 rfl 45 rfl ?_
          replace h := Option.some.inj h
          subst h
          exact z_iret hX dX6_see_45 rfl hk
theorem c_X6_see {lc : Launch} {Γ : Gm} {a1 : Int32} {a2 : Int32} {a3 : Int32} {a4 : Int32} {s s2 : St} {v : Int32} (h : f_X6_see a1 a2 a3 a4 s = some (v, s2)) : Ct lc Γ yX6_see cX6_see 5 (some .int) 1 [.ref (gL Γ (0)), .int a1, .int a2, .int a3, .int a4] s (some (.int v), s2) := Ct.of (by decide +kernel) (Nat.le_of_ble_eq_true rfl) (fun X hl hX => e_X6_see hX h rfl)
theorem dX6_forget_0 : decode cX6_forget 0 = .ok (.iload_n 1, 1) := by decide +kernel
theorem dX6_forget_1 : decode cX6_forget 1 = .ok (.iconst 0, 1) := by decide +kernel
theorem dX6_forget_2 : decode cX6_forget 2 = .ok (.aload_n 0, 1) := by decide +kernel
theorem dX6_forget_3 : decode cX6_forget 3 = .ok (.getfield 22, 3) := by decide +kernel
theorem dX6_forget_6 : decode cX6_forget 6 = .ok (.getfield 87, 3) := by decide +kernel
theorem dX6_forget_9 : decode cX6_forget 9 = .ok (.invokestatic 62, 3) := by decide +kernel
theorem dX6_forget_12 : decode cX6_forget 12 = .ok (.ifCond .ne 5, 3) := by decide +kernel
theorem dX6_forget_15 : decode cX6_forget 15 = .ok (.iconst (-1), 1) := by decide +kernel
theorem dX6_forget_16 : decode cX6_forget 16 = .ok (.ireturn, 1) := by decide +kernel
theorem dX6_forget_17 : decode cX6_forget 17 = .ok (.aload_n 0, 1) := by decide +kernel
theorem dX6_forget_18 : decode cX6_forget 18 = .ok (.getfield 22, 3) := by decide +kernel
theorem dX6_forget_21 : decode cX6_forget 21 = .ok (.getfield 87, 3) := by decide +kernel
theorem dX6_forget_24 : decode cX6_forget 24 = .ok (.istore_n 2, 1) := by decide +kernel
theorem dX6_forget_25 : decode cX6_forget 25 = .ok (.aload_n 0, 1) := by decide +kernel
theorem dX6_forget_26 : decode cX6_forget 26 = .ok (.getfield 22, 3) := by decide +kernel
theorem dX6_forget_29 : decode cX6_forget 29 = .ok (.iload_n 1, 1) := by decide +kernel
theorem dX6_forget_30 : decode cX6_forget 30 = .ok (.putfield 87, 3) := by decide +kernel
theorem dX6_forget_33 : decode cX6_forget 33 = .ok (.iload_n 2, 1) := by decide +kernel
theorem dX6_forget_34 : decode cX6_forget 34 = .ok (.ireturn, 1) := by decide +kernel
def f_X6_forget (a1 : Int32) (s : St) : Option (Int32 × St) := cl (f_X6_isWithin a1 (nI 0) (s.1 27 0) s) (fun x2 s1 => if ¬ x2 = 0 then (bd (s1.1 27 0) (fun x4 => bd (wI s1 27 0 a1) (fun s5 => some ((x4, s5))))) else (some (((-1), s1))))
set_option maxHeartbeats 4000000 in
set_option maxRecDepth 100000 in
theorem e_X6_forget {X : Cx} {Γ : Gm} {r0 : Rb} (hX : Amb X Γ cX6_forget RX6 3 (some .int) 1) {a1 : Int32} {s : St} {t : Int32 × St} (h : f_X6_forget a1 s = some t) (hk : (fun t : Int32 × St => Rt X Γ r0 (some (Value.int t.1), t.2)) t) : Zw X Γ 3 r0 s 0 [(0, .ref (gL Γ (0))), (1, .int a1)] [] := by
  unfold f_X6_forget at h
  refine z_iload_n hX dX6_forget_0 1 rfl 1 rfl ?_
  refine z_iconst hX (v := (nI 0)) dX6_forget_1 rfl 2 rfl ?_
  refine z_aload_n hX dX6_forget_2 0 rfl 3 rfl ?_
  refine z_get6 hX (k := 0) (j := 2) (v := .ref (gL Γ (27))) kdc_0 (by decide) rfl dX6_forget_3 fl_X6_22 6 rfl ?_
  refine z_get3 hX (k := 27) (j := 0) (v := .int ((s.1 27 0))) kdc_27 (by decide) rfl dX6_forget_6 fl_X6_87 9 rfl ?_
  replace h := cl_elim h
  obtain ⟨x2, s1, hx2, h⟩ := h
  refine z_cSi hX (As := [.int a1, .int ((nI 0)), .int ((s.1 27 0))]) (c_X6_isWithin hx2) lk_X6_62 ds_X6_isWithin rfl (by decide) (by decide) (by decide) dX6_forget_9 rfl 12 rfl ?_
  refine z_if_ne hX 17 dX6_forget_12 (by decide) 15 rfl (fun c3 => ?_) (fun c3 => ?_)
  · replace h := br_pos h c3
    refine z_aload_n hX dX6_forget_17 0 rfl 18 rfl ?_
    refine z_get6 hX (k := 0) (j := 2) (v := .ref (gL Γ (27))) kdc_0 (by decide) rfl dX6_forget_18 fl_X6_22 21 rfl ?_
    refine z_get3 hX (k := 27) (j := 0) (v := .int ((s1.1 27 0))) kdc_27 (by decide) rfl dX6_forget_21 fl_X6_87 24 rfl ?_
    replace h := bd_elim h
    obtain ⟨x4, ex4, h⟩ := h
    refine z_nm ex4 ?_
    refine z_istore_n hX (lv2 := [(2, .int x4), (0, .ref (gL Γ (0))), (1, .int a1)]) dX6_forget_24 (by decide) rfl 25 rfl ?_
    refine z_aload_n hX dX6_forget_25 1 rfl 26 rfl ?_
    refine z_get6 hX (k := 0) (j := 2) (v := .ref (gL Γ (27))) kdc_0 (by decide) rfl dX6_forget_26 fl_X6_22 29 rfl ?_
    refine z_iload_n hX dX6_forget_29 2 rfl 30 rfl ?_
    replace h := bd_elim h
    obtain ⟨s5, es5, h⟩ := h
    refine z_putI3 hX (k := 27) (j := 0) kdc_27 (by decide) rfl (by decide +kernel) (pwI_3_0 ..) dX6_forget_30 fl_X6_87 es5 33 rfl ?_
    refine z_iload_n hX dX6_forget_33 0 rfl 34 rfl ?_
    replace h := Option.some.inj h
    subst h
    exact z_iret hX dX6_forget_34 rfl hk
  · replace h := br_neg h c3
    refine z_iconst hX (v := (-1)) dX6_forget_15 rfl 16 rfl ?_
    replace h := Option.some.inj h
    subst h
    exact z_iret hX dX6_forget_16 rfl hk
theorem c_X6_forget {lc : Launch} {Γ : Gm} {a1 : Int32} {s s2 : St} {v : Int32} (h : f_X6_forget a1 s = some (v, s2)) : Ct lc Γ yX6_forget cX6_forget 3 (some .int) 1 [.ref (gL Γ (0)), .int a1] s (some (.int v), s2) := Ct.of (by decide +kernel) (Nat.le_of_ble_eq_true rfl) (fun X hl hX => e_X6_forget hX h rfl)
theorem dX6_kinds_0 : decode cX6_kinds 0 = .ok (.aload_n 0, 1) := by decide +kernel
theorem dX6_kinds_1 : decode cX6_kinds 1 = .ok (.getfield 10, 3) := by decide +kernel
theorem dX6_kinds_4 : decode cX6_kinds 4 = .ok (.iload_n 1, 1) := by decide +kernel
theorem dX6_kinds_5 : decode cX6_kinds 5 = .ok (.invokevirtual 117, 3) := by decide +kernel
theorem dX6_kinds_8 : decode cX6_kinds 8 = .ok (.ifCond .ne 5, 3) := by decide +kernel
theorem dX6_kinds_11 : decode cX6_kinds 11 = .ok (.iconst (-1), 1) := by decide +kernel
theorem dX6_kinds_12 : decode cX6_kinds 12 = .ok (.ireturn, 1) := by decide +kernel
theorem dX6_kinds_13 : decode cX6_kinds 13 = .ok (.iconst 0, 1) := by decide +kernel
theorem dX6_kinds_14 : decode cX6_kinds 14 = .ok (.istore_n 2, 1) := by decide +kernel
theorem dX6_kinds_15 : decode cX6_kinds 15 = .ok (.iconst 0, 1) := by decide +kernel
theorem dX6_kinds_16 : decode cX6_kinds 16 = .ok (.istore_n 3, 1) := by decide +kernel
theorem dX6_kinds_17 : decode cX6_kinds 17 = .ok (.iload_n 3, 1) := by decide +kernel
theorem dX6_kinds_18 : decode cX6_kinds 18 = .ok (.iconst 3, 1) := by decide +kernel
theorem dX6_kinds_19 : decode cX6_kinds 19 = .ok (.if_icmp .gt 57, 3) := by decide +kernel
theorem dX6_kinds_22 : decode cX6_kinds 22 = .ok (.aload_n 0, 1) := by decide +kernel
theorem dX6_kinds_23 : decode cX6_kinds 23 = .ok (.getfield 16, 3) := by decide +kernel
theorem dX6_kinds_26 : decode cX6_kinds 26 = .ok (.aload_n 0, 1) := by decide +kernel
theorem dX6_kinds_27 : decode cX6_kinds 27 = .ok (.getfield 10, 3) := by decide +kernel
theorem dX6_kinds_30 : decode cX6_kinds 30 = .ok (.invokevirtual 83, 3) := by decide +kernel
theorem dX6_kinds_33 : decode cX6_kinds 33 = .ok (.aload_n 0, 1) := by decide +kernel
theorem dX6_kinds_34 : decode cX6_kinds 34 = .ok (.getfield 16, 3) := by decide +kernel
theorem dX6_kinds_37 : decode cX6_kinds 37 = .ok (.getfield 120, 3) := by decide +kernel
theorem dX6_kinds_40 : decode cX6_kinds 40 = .ok (.iload_n 1, 1) := by decide +kernel
theorem dX6_kinds_41 : decode cX6_kinds 41 = .ok (.iload_n 3, 1) := by decide +kernel
theorem dX6_kinds_42 : decode cX6_kinds 42 = .ok (.iastore, 1) := by decide +kernel
theorem dX6_kinds_43 : decode cX6_kinds 43 = .ok (.aload_n 0, 1) := by decide +kernel
theorem dX6_kinds_44 : decode cX6_kinds 44 = .ok (.getfield 22, 3) := by decide +kernel
theorem dX6_kinds_47 : decode cX6_kinds 47 = .ok (.aload_n 0, 1) := by decide +kernel
theorem dX6_kinds_48 : decode cX6_kinds 48 = .ok (.getfield 16, 3) := by decide +kernel
theorem dX6_kinds_51 : decode cX6_kinds 51 = .ok (.aload_n 0, 1) := by decide +kernel
theorem dX6_kinds_52 : decode cX6_kinds 52 = .ok (.getfield 22, 3) := by decide +kernel
theorem dX6_kinds_55 : decode cX6_kinds 55 = .ok (.invokevirtual 224, 3) := by decide +kernel
theorem dX6_kinds_58 : decode cX6_kinds 58 = .ok (.invokevirtual 227, 3) := by decide +kernel
theorem dX6_kinds_61 : decode cX6_kinds 61 = .ok (.ifCond .eq 9, 3) := by decide +kernel
theorem dX6_kinds_64 : decode cX6_kinds 64 = .ok (.iload_n 2, 1) := by decide +kernel
theorem dX6_kinds_65 : decode cX6_kinds 65 = .ok (.iconst 1, 1) := by decide +kernel
theorem dX6_kinds_66 : decode cX6_kinds 66 = .ok (.iload_n 3, 1) := by decide +kernel
theorem dX6_kinds_67 : decode cX6_kinds 67 = .ok (.ishl, 1) := by decide +kernel
theorem dX6_kinds_68 : decode cX6_kinds 68 = .ok (.ior, 1) := by decide +kernel
theorem dX6_kinds_69 : decode cX6_kinds 69 = .ok (.istore_n 2, 1) := by decide +kernel
theorem dX6_kinds_70 : decode cX6_kinds 70 = .ok (.iinc 3 1, 3) := by decide +kernel
theorem dX6_kinds_73 : decode cX6_kinds 73 = .ok (.goto (-56), 3) := by decide +kernel
theorem dX6_kinds_76 : decode cX6_kinds 76 = .ok (.iload_n 2, 1) := by decide +kernel
theorem dX6_kinds_77 : decode cX6_kinds 77 = .ok (.ireturn, 1) := by decide +kernel
def f_X6_kinds_L17 (v1 : Int32) (v2 : Int32) (v3 : Int32) (s : St) : Option ((Int32 × Int32 × St) ⊕ (Int32 × St)) := if (nI 3) < v3 then (some (Sum.inr ((v2, s)))) else (cl (f_X2_copyOf 14 1 s) (fun x6 s5 => if inb v1 (lnI 15) = true then bd (wI s5 15 (v1).toNatClampNeg v3) (fun s8 => cl (f_X3_farthest 27 s8) (fun x10 s9 => cl (f_X3_fits 27 14 x10 s9) (fun x12 s11 => if x12 = 0 then (some (Sum.inl (v2, (v3 + (nI 1)), s11))) else (bd (v2 ||| ((nI 1) <<< (v3 &&& 31))) (fun x14 => some (Sum.inl (x14, (v3 + (nI 1)), s11))))))) else none))
def f_X6_kinds (a1 : Int32) (s : St) : Option (Int32 × St) := cl (f_X2_isLife 1 a1 s) (fun x2 s1 => if ¬ x2 = 0 then (lp (fun q : Int32 × Int32 × St => f_X6_kinds_L17 a1 q.1 q.2.1 q.2.2) Fu ((nI 0), (nI 0), s1)) else (some (((-1), s1))))
set_option maxHeartbeats 4000000 in
set_option maxRecDepth 100000 in
theorem e_X6_kinds_L17 {X : Cx} {Γ : Gm} {r0 : Rb} (hX : Amb X Γ cX6_kinds RX6 4 (some .int) 5) {v1 : Int32} {v2 : Int32} {v3 : Int32} {s : St} {t : (Int32 × Int32 × St) ⊕ (Int32 × St)} (h : f_X6_kinds_L17 v1 v2 v3 s = some t) (hk : (Sum.elim (fun q : Int32 × Int32 × St => Zw X Γ 4 r0 q.2.2 17 [(0, .ref (gL Γ (0))), (1, .int v1), (2, .int q.1), (3, .int q.2.1)] []) (fun t : Int32 × St => Rt X Γ r0 (some (Value.int t.1), t.2))) t) : Zw X Γ 4 r0 s 17 [(0, .ref (gL Γ (0))), (1, .int v1), (2, .int v2), (3, .int v3)] [] := by
  unfold f_X6_kinds_L17 at h
  refine z_iload_n hX dX6_kinds_17 3 rfl 18 rfl ?_
  refine z_iconst hX (v := (nI 3)) dX6_kinds_18 rfl 19 rfl ?_
  refine z_icmp_gt hX 76 dX6_kinds_19 (by decide) 22 rfl (fun c4 => ?_) (fun c4 => ?_)
  · replace h := br_pos h c4
    refine z_iload_n hX dX6_kinds_76 2 rfl 77 rfl ?_
    replace h := Option.some.inj h
    subst h
    exact z_iret hX dX6_kinds_77 rfl hk
  · replace h := br_neg h c4
    refine z_aload_n hX dX6_kinds_22 0 rfl 23 rfl ?_
    refine z_get6 hX (k := 0) (j := 1) (v := .ref (gL Γ (14))) kdc_0 (by decide) rfl dX6_kinds_23 fl_X6_16 26 rfl ?_
    refine z_aload_n hX dX6_kinds_26 0 rfl 27 rfl ?_
    refine z_get6 hX (k := 0) (j := 0) (v := .ref (gL Γ (1))) kdc_0 (by decide) rfl dX6_kinds_27 fl_X6_10 30 rfl ?_
    replace h := cl_elim h
    obtain ⟨x6, s5, hx6, h⟩ := h
    refine z_cV2v hX (b := 14) (As := [.ref (gL Γ (1))]) (c_X2_copyOf hx6) lk_X6_83 rfl kdc_14 ds_X2_copyOf rfl (by decide) (by decide) (by decide) dX6_kinds_30 rfl 33 rfl ?_
    refine z_aload_n hX dX6_kinds_33 0 rfl 34 rfl ?_
    refine z_get6 hX (k := 0) (j := 1) (v := .ref (gL Γ (14))) kdc_0 (by decide) rfl dX6_kinds_34 fl_X6_16 37 rfl ?_
    refine z_get2 hX (k := 14) (j := 3) (v := .ref (gL Γ (15))) kdc_14 (by decide) rfl dX6_kinds_37 fl_X6_120 40 rfl ?_
    refine z_iload_n hX dX6_kinds_40 1 rfl 41 rfl ?_
    refine z_iload_n hX dX6_kinds_41 3 rfl 42 rfl ?_
    replace h := gd_elim h
    obtain ⟨g7, h⟩ := h
    replace h := bd_elim h
    obtain ⟨s8, es8, h⟩ := h
    refine z_iast hX (inb_vp g7) dX6_kinds_42 es8 43 rfl ?_
    refine z_aload_n hX dX6_kinds_43 0 rfl 44 rfl ?_
    refine z_get6 hX (k := 0) (j := 2) (v := .ref (gL Γ (27))) kdc_0 (by decide) rfl dX6_kinds_44 fl_X6_22 47 rfl ?_
    refine z_aload_n hX dX6_kinds_47 0 rfl 48 rfl ?_
    refine z_get6 hX (k := 0) (j := 1) (v := .ref (gL Γ (14))) kdc_0 (by decide) rfl dX6_kinds_48 fl_X6_16 51 rfl ?_
    refine z_aload_n hX dX6_kinds_51 0 rfl 52 rfl ?_
    refine z_get6 hX (k := 0) (j := 2) (v := .ref (gL Γ (27))) kdc_0 (by decide) rfl dX6_kinds_52 fl_X6_22 55 rfl ?_
    replace h := cl_elim h
    obtain ⟨x10, s9, hx10, h⟩ := h
    refine z_cV3i hX (b := 27) (As := []) (c_X3_farthest hx10) lk_X6_224 rfl kdc_27 ds_X3_farthest rfl (by decide) (by decide) (Nat.le_of_ble_eq_true rfl) dX6_kinds_55 rfl 58 rfl ?_
    replace h := cl_elim h
    obtain ⟨x12, s11, hx12, h⟩ := h
    refine z_cV3i hX (b := 27) (As := [.ref (gL Γ (14)), .int x10]) (c_X3_fits hx12) lk_X6_227 rfl kdc_27 ds_X3_fits rfl (by decide) (by decide) (by decide) dX6_kinds_58 rfl 61 rfl ?_
    refine z_if_eq hX 70 dX6_kinds_61 (by decide) 64 rfl (fun c13 => ?_) (fun c13 => ?_)
    · replace h := br_pos h c13
      refine z_iinc hX (v := (v3 + (nI 1))) (lv2 := [(3, .int ((v3 + (nI 1)))), (0, .ref (gL Γ (0))), (1, .int v1), (2, .int v2)]) dX6_kinds_70 3 rfl rfl (by decide) rfl 73 rfl ?_
      refine z_goto hX 17 dX6_kinds_73 (by decide) ?_
      replace h := Option.some.inj h
      subst h
      exact z_sub [1, 2, 3, 0] rfl hk
    · replace h := br_neg h c13
      refine z_iload_n hX dX6_kinds_64 2 rfl 65 rfl ?_
      refine z_iconst hX (v := (nI 1)) dX6_kinds_65 rfl 66 rfl ?_
      refine z_iload_n hX dX6_kinds_66 3 rfl 67 rfl ?_
      refine z_ishl hX dX6_kinds_67 68 rfl ?_
      refine z_ior hX dX6_kinds_68 69 rfl ?_
      replace h := bd_elim h
      obtain ⟨x14, ex14, h⟩ := h
      refine z_nm ex14 ?_
      refine z_istore_n hX (lv2 := [(2, .int x14), (0, .ref (gL Γ (0))), (1, .int v1), (3, .int v3)]) dX6_kinds_69 (by decide) rfl 70 rfl ?_
      refine z_iinc hX (v := (v3 + (nI 1))) (lv2 := [(3, .int ((v3 + (nI 1)))), (2, .int x14), (0, .ref (gL Γ (0))), (1, .int v1)]) dX6_kinds_70 3 rfl rfl (by decide) rfl 73 rfl ?_
      refine z_goto hX 17 dX6_kinds_73 (by decide) ?_
      replace h := Option.some.inj h
      subst h
      exact z_sub [2, 3, 1, 0] rfl hk
set_option maxHeartbeats 4000000 in
set_option maxRecDepth 100000 in
theorem e_X6_kinds {X : Cx} {Γ : Gm} {r0 : Rb} (hX : Amb X Γ cX6_kinds RX6 4 (some .int) 5) {a1 : Int32} {s : St} {t : Int32 × St} (h : f_X6_kinds a1 s = some t) (hk : (fun t : Int32 × St => Rt X Γ r0 (some (Value.int t.1), t.2)) t) : Zw X Γ 4 r0 s 0 [(0, .ref (gL Γ (0))), (1, .int a1)] [] := by
  unfold f_X6_kinds at h
  refine z_aload_n hX dX6_kinds_0 0 rfl 1 rfl ?_
  refine z_get6 hX (k := 0) (j := 0) (v := .ref (gL Γ (1))) kdc_0 (by decide) rfl dX6_kinds_1 fl_X6_10 4 rfl ?_
  refine z_iload_n hX dX6_kinds_4 1 rfl 5 rfl ?_
  replace h := cl_elim h
  obtain ⟨x2, s1, hx2, h⟩ := h
  refine z_cV2i hX (b := 1) (As := [.int a1]) (c_X2_isLife hx2) lk_X6_117 rfl kdc_1 ds_X2_isLife rfl (by decide) (by decide) (by decide) dX6_kinds_5 rfl 8 rfl ?_
  refine z_if_ne hX 13 dX6_kinds_8 (by decide) 11 rfl (fun c3 => ?_) (fun c3 => ?_)
  · replace h := br_pos h c3
    refine z_iconst hX (v := (nI 0)) dX6_kinds_13 rfl 14 rfl ?_
    refine z_istore_n hX (lv2 := [(2, .int ((nI 0))), (0, .ref (gL Γ (0))), (1, .int a1)]) dX6_kinds_14 (by decide) rfl 15 rfl ?_
    refine z_iconst hX (v := (nI 0)) dX6_kinds_15 rfl 16 rfl ?_
    refine z_istore_n hX (lv2 := [(3, .int ((nI 0))), (2, .int ((nI 0))), (0, .ref (gL Γ (0))), (1, .int a1)]) dX6_kinds_16 (by decide) rfl 17 rfl ?_
    exact z_sub [2, 3, 1, 0] rfl (lp_ok (Z := fun q : Int32 × Int32 × St => Zw X Γ 4 r0 q.2.2 17 [(0, .ref (gL Γ (0))), (1, .int a1), (2, .int q.1), (3, .int q.2.1)] []) (fun q t h hk => e_X6_kinds_L17 hX h hk) Fu _ _ h hk)
  · replace h := br_neg h c3
    refine z_iconst hX (v := (-1)) dX6_kinds_11 rfl 12 rfl ?_
    replace h := Option.some.inj h
    subst h
    exact z_iret hX dX6_kinds_12 rfl hk
theorem c_X6_kinds {lc : Launch} {Γ : Gm} {a1 : Int32} {s s2 : St} {v : Int32} (h : f_X6_kinds a1 s = some (v, s2)) : Ct lc Γ yX6_kinds cX6_kinds 4 (some .int) 5 [.ref (gL Γ (0)), .int a1] s (some (.int v), s2) := Ct.of (by decide +kernel) (Nat.le_of_ble_eq_true rfl) (fun X hl hX => e_X6_kinds hX h rfl)
theorem dX6_isFrom_0 : decode cX6_isFrom 0 = .ok (.aload_n 0, 1) := by decide +kernel
theorem dX6_isFrom_1 : decode cX6_isFrom 1 = .ok (.getfield 16, 3) := by decide +kernel
theorem dX6_isFrom_4 : decode cX6_isFrom 4 = .ok (.aload_n 0, 1) := by decide +kernel
theorem dX6_isFrom_5 : decode cX6_isFrom 5 = .ok (.getfield 10, 3) := by decide +kernel
theorem dX6_isFrom_8 : decode cX6_isFrom 8 = .ok (.invokevirtual 83, 3) := by decide +kernel
theorem dX6_isFrom_11 : decode cX6_isFrom 11 = .ok (.aload_n 0, 1) := by decide +kernel
theorem dX6_isFrom_12 : decode cX6_isFrom 12 = .ok (.getfield 16, 3) := by decide +kernel
theorem dX6_isFrom_15 : decode cX6_isFrom 15 = .ok (.getfield 123, 3) := by decide +kernel
theorem dX6_isFrom_18 : decode cX6_isFrom 18 = .ok (.iload_n 1, 1) := by decide +kernel
theorem dX6_isFrom_19 : decode cX6_isFrom 19 = .ok (.iload_n 2, 1) := by decide +kernel
theorem dX6_isFrom_20 : decode cX6_isFrom 20 = .ok (.iastore, 1) := by decide +kernel
theorem dX6_isFrom_21 : decode cX6_isFrom 21 = .ok (.aload_n 0, 1) := by decide +kernel
theorem dX6_isFrom_22 : decode cX6_isFrom 22 = .ok (.getfield 22, 3) := by decide +kernel
theorem dX6_isFrom_25 : decode cX6_isFrom 25 = .ok (.aload_n 0, 1) := by decide +kernel
theorem dX6_isFrom_26 : decode cX6_isFrom 26 = .ok (.getfield 16, 3) := by decide +kernel
theorem dX6_isFrom_29 : decode cX6_isFrom 29 = .ok (.iload_n 3, 1) := by decide +kernel
theorem dX6_isFrom_30 : decode cX6_isFrom 30 = .ok (.invokevirtual 227, 3) := by decide +kernel
theorem dX6_isFrom_33 : decode cX6_isFrom 33 = .ok (.ireturn, 1) := by decide +kernel
def f_X6_isFrom (a1 : Int32) (a2 : Int32) (a3 : Int32) (s : St) : Option (Int32 × St) := cl (f_X2_copyOf 14 1 s) (fun x2 s1 => if inb a1 (lnI 16) = true then bd (wI s1 16 (a1).toNatClampNeg a2) (fun s4 => cl (f_X3_fits 27 14 a3 s4) (fun x6 s5 => if x6 = 0 ∨ x6 = 1 then some ((x6, s5)) else none)) else none)
set_option maxHeartbeats 4000000 in
set_option maxRecDepth 100000 in
theorem e_X6_isFrom {X : Cx} {Γ : Gm} {r0 : Rb} (hX : Amb X Γ cX6_isFrom RX6 4 (some .boolean) 5) {a1 : Int32} {a2 : Int32} {a3 : Int32} {s : St} {t : Int32 × St} (h : f_X6_isFrom a1 a2 a3 s = some t) (hk : (fun t : Int32 × St => Rt X Γ r0 (some (Value.int t.1), t.2)) t) : Zw X Γ 4 r0 s 0 [(0, .ref (gL Γ (0))), (1, .int a1), (2, .int a2), (3, .int a3)] [] := by
  unfold f_X6_isFrom at h
  refine z_aload_n hX dX6_isFrom_0 0 rfl 1 rfl ?_
  refine z_get6 hX (k := 0) (j := 1) (v := .ref (gL Γ (14))) kdc_0 (by decide) rfl dX6_isFrom_1 fl_X6_16 4 rfl ?_
  refine z_aload_n hX dX6_isFrom_4 0 rfl 5 rfl ?_
  refine z_get6 hX (k := 0) (j := 0) (v := .ref (gL Γ (1))) kdc_0 (by decide) rfl dX6_isFrom_5 fl_X6_10 8 rfl ?_
  replace h := cl_elim h
  obtain ⟨x2, s1, hx2, h⟩ := h
  refine z_cV2v hX (b := 14) (As := [.ref (gL Γ (1))]) (c_X2_copyOf hx2) lk_X6_83 rfl kdc_14 ds_X2_copyOf rfl (by decide) (by decide) (by decide) dX6_isFrom_8 rfl 11 rfl ?_
  refine z_aload_n hX dX6_isFrom_11 0 rfl 12 rfl ?_
  refine z_get6 hX (k := 0) (j := 1) (v := .ref (gL Γ (14))) kdc_0 (by decide) rfl dX6_isFrom_12 fl_X6_16 15 rfl ?_
  refine z_get2 hX (k := 14) (j := 4) (v := .ref (gL Γ (16))) kdc_14 (by decide) rfl dX6_isFrom_15 fl_X6_123 18 rfl ?_
  refine z_iload_n hX dX6_isFrom_18 1 rfl 19 rfl ?_
  refine z_iload_n hX dX6_isFrom_19 2 rfl 20 rfl ?_
  replace h := gd_elim h
  obtain ⟨g3, h⟩ := h
  replace h := bd_elim h
  obtain ⟨s4, es4, h⟩ := h
  refine z_iast hX (inb_vp g3) dX6_isFrom_20 es4 21 rfl ?_
  refine z_aload_n hX dX6_isFrom_21 0 rfl 22 rfl ?_
  refine z_get6 hX (k := 0) (j := 2) (v := .ref (gL Γ (27))) kdc_0 (by decide) rfl dX6_isFrom_22 fl_X6_22 25 rfl ?_
  refine z_aload_n hX dX6_isFrom_25 0 rfl 26 rfl ?_
  refine z_get6 hX (k := 0) (j := 1) (v := .ref (gL Γ (14))) kdc_0 (by decide) rfl dX6_isFrom_26 fl_X6_16 29 rfl ?_
  refine z_iload_n hX dX6_isFrom_29 3 rfl 30 rfl ?_
  replace h := cl_elim h
  obtain ⟨x6, s5, hx6, h⟩ := h
  refine z_cV3i hX (b := 27) (As := [.ref (gL Γ (14)), .int a3]) (c_X3_fits hx6) lk_X6_227 rfl kdc_27 ds_X3_fits rfl (by decide) (by decide) (by decide) dX6_isFrom_30 rfl 33 rfl ?_
  replace h := gd_elim h
  obtain ⟨g7, h⟩ := h
  replace h := Option.some.inj h
  subst h
  exact z_zret hX dX6_isFrom_33 rfl g7 hk
theorem c_X6_isFrom {lc : Launch} {Γ : Gm} {a1 : Int32} {a2 : Int32} {a3 : Int32} {s s2 : St} {v : Int32} (h : f_X6_isFrom a1 a2 a3 s = some (v, s2)) : Ct lc Γ yX6_isFrom cX6_isFrom 4 (some .boolean) 5 [.ref (gL Γ (0)), .int a1, .int a2, .int a3] s (some (.int v), s2) := Ct.of (by decide +kernel) (Nat.le_of_ble_eq_true rfl) (fun X hl hX => e_X6_isFrom hX h rfl)
theorem dX6_froms_0 : decode cX6_froms 0 = .ok (.aload_n 0, 1) := by decide +kernel
theorem dX6_froms_1 : decode cX6_froms 1 = .ok (.getfield 10, 3) := by decide +kernel
theorem dX6_froms_4 : decode cX6_froms 4 = .ok (.iload_n 1, 1) := by decide +kernel
theorem dX6_froms_5 : decode cX6_froms 5 = .ok (.invokevirtual 117, 3) := by decide +kernel
theorem dX6_froms_8 : decode cX6_froms 8 = .ok (.ifCond .eq 12, 3) := by decide +kernel
theorem dX6_froms_11 : decode cX6_froms 11 = .ok (.iload_n 2, 1) := by decide +kernel
theorem dX6_froms_12 : decode cX6_froms 12 = .ok (.iconst 0, 1) := by decide +kernel
theorem dX6_froms_13 : decode cX6_froms 13 = .ok (.iconst 1, 1) := by decide +kernel
theorem dX6_froms_14 : decode cX6_froms 14 = .ok (.invokestatic 62, 3) := by decide +kernel
theorem dX6_froms_17 : decode cX6_froms 17 = .ok (.ifCond .ne 5, 3) := by decide +kernel
theorem dX6_froms_20 : decode cX6_froms 20 = .ok (.iconst (-1), 1) := by decide +kernel
theorem dX6_froms_21 : decode cX6_froms 21 = .ok (.ireturn, 1) := by decide +kernel
theorem dX6_froms_22 : decode cX6_froms 22 = .ok (.bipush (-4), 2) := by decide +kernel
theorem dX6_froms_24 : decode cX6_froms 24 = .ok (.istore_n 3, 1) := by decide +kernel
theorem dX6_froms_25 : decode cX6_froms 25 = .ok (.iconst 0, 1) := by decide +kernel
theorem dX6_froms_26 : decode cX6_froms 26 = .ok (.istore 4, 2) := by decide +kernel
theorem dX6_froms_28 : decode cX6_froms 28 = .ok (.iconst 0, 1) := by decide +kernel
theorem dX6_froms_29 : decode cX6_froms 29 = .ok (.istore 5, 2) := by decide +kernel
theorem dX6_froms_31 : decode cX6_froms 31 = .ok (.iload 5, 2) := by decide +kernel
theorem dX6_froms_33 : decode cX6_froms 33 = .ok (.bipush 20, 2) := by decide +kernel
theorem dX6_froms_35 : decode cX6_froms 35 = .ok (.if_icmp .ge 44, 3) := by decide +kernel
theorem dX6_froms_38 : decode cX6_froms 38 = .ok (.aload_n 0, 1) := by decide +kernel
theorem dX6_froms_39 : decode cX6_froms 39 = .ok (.iload_n 1, 1) := by decide +kernel
theorem dX6_froms_40 : decode cX6_froms 40 = .ok (.iload 5, 2) := by decide +kernel
theorem dX6_froms_42 : decode cX6_froms 42 = .ok (.aload_n 0, 1) := by decide +kernel
theorem dX6_froms_43 : decode cX6_froms 43 = .ok (.getfield 22, 3) := by decide +kernel
theorem dX6_froms_46 : decode cX6_froms 46 = .ok (.invokevirtual 224, 3) := by decide +kernel
theorem dX6_froms_49 : decode cX6_froms 49 = .ok (.invokevirtual 231, 3) := by decide +kernel
theorem dX6_froms_52 : decode cX6_froms 52 = .ok (.ifCond .eq 21, 3) := by decide +kernel
theorem dX6_froms_55 : decode cX6_froms 55 = .ok (.iload 4, 2) := by decide +kernel
theorem dX6_froms_57 : decode cX6_froms 57 = .ok (.ifCond .ne 11, 3) := by decide +kernel
theorem dX6_froms_60 : decode cX6_froms 60 = .ok (.iload 5, 2) := by decide +kernel
theorem dX6_froms_62 : decode cX6_froms 62 = .ok (.invokestatic 126, 3) := by decide +kernel
theorem dX6_froms_65 : decode cX6_froms 65 = .ok (.goto 4, 3) := by decide +kernel
theorem dX6_froms_68 : decode cX6_froms 68 = .ok (.iload_n 3, 1) := by decide +kernel
theorem dX6_froms_69 : decode cX6_froms 69 = .ok (.istore_n 3, 1) := by decide +kernel
theorem dX6_froms_70 : decode cX6_froms 70 = .ok (.iinc 4 1, 3) := by decide +kernel
theorem dX6_froms_73 : decode cX6_froms 73 = .ok (.iinc 5 1, 3) := by decide +kernel
theorem dX6_froms_76 : decode cX6_froms 76 = .ok (.goto (-45), 3) := by decide +kernel
theorem dX6_froms_79 : decode cX6_froms 79 = .ok (.iload_n 2, 1) := by decide +kernel
theorem dX6_froms_80 : decode cX6_froms 80 = .ok (.ifCond .ne 8, 3) := by decide +kernel
theorem dX6_froms_83 : decode cX6_froms 83 = .ok (.iload 4, 2) := by decide +kernel
theorem dX6_froms_85 : decode cX6_froms 85 = .ok (.goto 4, 3) := by decide +kernel
theorem dX6_froms_88 : decode cX6_froms 88 = .ok (.iload_n 3, 1) := by decide +kernel
theorem dX6_froms_89 : decode cX6_froms 89 = .ok (.ireturn, 1) := by decide +kernel
def f_X6_froms_L31 (v1 : Int32) (v2 : Int32) (v3 : Int32) (v4 : Int32) (v5 : Int32) (s : St) : Option ((Int32 × Int32 × Int32 × St) ⊕ (Int32 × St)) := if (nI 20) ≤ v5 then (if ¬ v2 = 0 then (some (Sum.inr ((v3, s)))) else (some (Sum.inr ((v4, s))))) else (cl (f_X3_farthest 27 s) (fun x10 s9 => cl (f_X6_isFrom v1 v5 x10 s9) (fun x12 s11 => if x12 = 0 then (some (Sum.inl (v3, v4, (v5 + (nI 1)), s11))) else (if ¬ v4 = 0 then (some (Sum.inl (v3, (v4 + (nI 1)), (v5 + (nI 1)), s11))) else (cl (f_X6_nameOf v5 s11) (fun x16 s15 => some (Sum.inl (x16, (v4 + (nI 1)), (v5 + (nI 1)), s15))))))))
def f_X6_froms (a1 : Int32) (a2 : Int32) (s : St) : Option (Int32 × St) := cl (f_X2_isLife 1 a1 s) (fun x2 s1 => if x2 = 0 then (some (((-1), s1))) else (cl (f_X6_isWithin a2 (nI 0) (nI 1) s1) (fun x5 s4 => if ¬ x5 = 0 then (lp (fun q : Int32 × Int32 × Int32 × St => f_X6_froms_L31 a1 a2 q.1 q.2.1 q.2.2.1 q.2.2.2) Fu ((-4), (nI 0), (nI 0), s4)) else (some (((-1), s4))))))
set_option maxHeartbeats 4000000 in
set_option maxRecDepth 100000 in
theorem e_X6_froms_L31 {X : Cx} {Γ : Gm} {r0 : Rb} (hX : Amb X Γ cX6_froms RX6 6 (some .int) 6) {v1 : Int32} {v2 : Int32} {v3 : Int32} {v4 : Int32} {v5 : Int32} {s : St} {t : (Int32 × Int32 × Int32 × St) ⊕ (Int32 × St)} (h : f_X6_froms_L31 v1 v2 v3 v4 v5 s = some t) (hk : (Sum.elim (fun q : Int32 × Int32 × Int32 × St => Zw X Γ 6 r0 q.2.2.2 31 [(0, .ref (gL Γ (0))), (1, .int v1), (2, .int v2), (3, .int q.1), (4, .int q.2.1), (5, .int q.2.2.1)] []) (fun t : Int32 × St => Rt X Γ r0 (some (Value.int t.1), t.2))) t) : Zw X Γ 6 r0 s 31 [(0, .ref (gL Γ (0))), (1, .int v1), (2, .int v2), (3, .int v3), (4, .int v4), (5, .int v5)] [] := by
  unfold f_X6_froms_L31 at h
  refine z_iload hX dX6_froms_31 5 rfl 33 rfl ?_
  refine z_bipush hX (v := (nI 20)) dX6_froms_33 (by decide) 35 rfl ?_
  refine z_icmp_ge hX 79 dX6_froms_35 (by decide) 38 rfl (fun c7 => ?_) (fun c7 => ?_)
  · replace h := br_pos h c7
    refine z_iload_n hX dX6_froms_79 2 rfl 80 rfl ?_
    refine z_if_ne hX 88 dX6_froms_80 (by decide) 83 rfl (fun c8 => ?_) (fun c8 => ?_)
    · replace h := br_pos h c8
      refine z_iload_n hX dX6_froms_88 3 rfl 89 rfl ?_
      replace h := Option.some.inj h
      subst h
      exact z_iret hX dX6_froms_89 rfl hk
    · replace h := br_neg h c8
      refine z_iload hX dX6_froms_83 4 rfl 85 rfl ?_
      refine z_goto hX 89 dX6_froms_85 (by decide) ?_
      replace h := Option.some.inj h
      subst h
      exact z_iret hX dX6_froms_89 rfl hk
  · replace h := br_neg h c7
    refine z_aload_n hX dX6_froms_38 0 rfl 39 rfl ?_
    refine z_iload_n hX dX6_froms_39 1 rfl 40 rfl ?_
    refine z_iload hX dX6_froms_40 5 rfl 42 rfl ?_
    refine z_aload_n hX dX6_froms_42 0 rfl 43 rfl ?_
    refine z_get6 hX (k := 0) (j := 2) (v := .ref (gL Γ (27))) kdc_0 (by decide) rfl dX6_froms_43 fl_X6_22 46 rfl ?_
    replace h := cl_elim h
    obtain ⟨x10, s9, hx10, h⟩ := h
    refine z_cV3i hX (b := 27) (As := []) (c_X3_farthest hx10) lk_X6_224 rfl kdc_27 ds_X3_farthest rfl (by decide) (by decide) (Nat.le_of_ble_eq_true rfl) dX6_froms_46 rfl 49 rfl ?_
    replace h := cl_elim h
    obtain ⟨x12, s11, hx12, h⟩ := h
    refine z_cV6i hX (b := 0) (As := [.int v1, .int v5, .int x10]) (c_X6_isFrom hx12) lk_X6_231 rfl kdc_0 ds_X6_isFrom rfl (by decide) (by decide) (by decide) dX6_froms_49 rfl 52 rfl ?_
    refine z_if_eq hX 73 dX6_froms_52 (by decide) 55 rfl (fun c13 => ?_) (fun c13 => ?_)
    · replace h := br_pos h c13
      refine z_iinc hX (v := (v5 + (nI 1))) (lv2 := [(5, .int ((v5 + (nI 1)))), (0, .ref (gL Γ (0))), (1, .int v1), (2, .int v2), (3, .int v3), (4, .int v4)]) dX6_froms_73 5 rfl rfl (by decide) rfl 76 rfl ?_
      refine z_goto hX 31 dX6_froms_76 (by decide) ?_
      replace h := Option.some.inj h
      subst h
      exact z_sub [1, 2, 3, 4, 5, 0] rfl hk
    · replace h := br_neg h c13
      refine z_iload hX dX6_froms_55 4 rfl 57 rfl ?_
      refine z_if_ne hX 68 dX6_froms_57 (by decide) 60 rfl (fun c14 => ?_) (fun c14 => ?_)
      · replace h := br_pos h c14
        refine z_iload_n hX dX6_froms_68 3 rfl 69 rfl ?_
        refine z_istore_n hX (lv2 := [(3, .int v3), (0, .ref (gL Γ (0))), (1, .int v1), (2, .int v2), (4, .int v4), (5, .int v5)]) dX6_froms_69 (by decide) rfl 70 rfl ?_
        refine z_iinc hX (v := (v4 + (nI 1))) (lv2 := [(4, .int ((v4 + (nI 1)))), (3, .int v3), (0, .ref (gL Γ (0))), (1, .int v1), (2, .int v2), (5, .int v5)]) dX6_froms_70 4 rfl rfl (by decide) rfl 73 rfl ?_
        refine z_iinc hX (v := (v5 + (nI 1))) (lv2 := [(5, .int ((v5 + (nI 1)))), (4, .int ((v4 + (nI 1)))), (3, .int v3), (0, .ref (gL Γ (0))), (1, .int v1), (2, .int v2)]) dX6_froms_73 5 rfl rfl (by decide) rfl 76 rfl ?_
        refine z_goto hX 31 dX6_froms_76 (by decide) ?_
        replace h := Option.some.inj h
        subst h
        exact z_sub [3, 4, 5, 2, 1, 0] rfl hk
      · replace h := br_neg h c14
        refine z_iload hX dX6_froms_60 5 rfl 62 rfl ?_
        replace h := cl_elim h
        obtain ⟨x16, s15, hx16, h⟩ := h
        refine z_cSi hX (As := [.int v5]) (c_X6_nameOf hx16) lk_X6_126 ds_X6_nameOf rfl (by decide) (by decide) (by decide) dX6_froms_62 rfl 65 rfl ?_
        refine z_goto hX 69 dX6_froms_65 (by decide) ?_
        refine z_istore_n hX (lv2 := [(3, .int x16), (0, .ref (gL Γ (0))), (1, .int v1), (2, .int v2), (4, .int v4), (5, .int v5)]) dX6_froms_69 (by decide) rfl 70 rfl ?_
        refine z_iinc hX (v := (v4 + (nI 1))) (lv2 := [(4, .int ((v4 + (nI 1)))), (3, .int x16), (0, .ref (gL Γ (0))), (1, .int v1), (2, .int v2), (5, .int v5)]) dX6_froms_70 4 rfl rfl (by decide) rfl 73 rfl ?_
        refine z_iinc hX (v := (v5 + (nI 1))) (lv2 := [(5, .int ((v5 + (nI 1)))), (4, .int ((v4 + (nI 1)))), (3, .int x16), (0, .ref (gL Γ (0))), (1, .int v1), (2, .int v2)]) dX6_froms_73 5 rfl rfl (by decide) rfl 76 rfl ?_
        refine z_goto hX 31 dX6_froms_76 (by decide) ?_
        replace h := Option.some.inj h
        subst h
        exact z_sub [3, 4, 5, 2, 1, 0] rfl hk
set_option maxHeartbeats 4000000 in
set_option maxRecDepth 100000 in
theorem e_X6_froms {X : Cx} {Γ : Gm} {r0 : Rb} (hX : Amb X Γ cX6_froms RX6 6 (some .int) 6) {a1 : Int32} {a2 : Int32} {s : St} {t : Int32 × St} (h : f_X6_froms a1 a2 s = some t) (hk : (fun t : Int32 × St => Rt X Γ r0 (some (Value.int t.1), t.2)) t) : Zw X Γ 6 r0 s 0 [(0, .ref (gL Γ (0))), (1, .int a1), (2, .int a2)] [] := by
  unfold f_X6_froms at h
  refine z_aload_n hX dX6_froms_0 0 rfl 1 rfl ?_
  refine z_get6 hX (k := 0) (j := 0) (v := .ref (gL Γ (1))) kdc_0 (by decide) rfl dX6_froms_1 fl_X6_10 4 rfl ?_
  refine z_iload_n hX dX6_froms_4 1 rfl 5 rfl ?_
  replace h := cl_elim h
  obtain ⟨x2, s1, hx2, h⟩ := h
  refine z_cV2i hX (b := 1) (As := [.int a1]) (c_X2_isLife hx2) lk_X6_117 rfl kdc_1 ds_X2_isLife rfl (by decide) (by decide) (by decide) dX6_froms_5 rfl 8 rfl ?_
  refine z_if_eq hX 20 dX6_froms_8 (by decide) 11 rfl (fun c3 => ?_) (fun c3 => ?_)
  · replace h := br_pos h c3
    refine z_iconst hX (v := (-1)) dX6_froms_20 rfl 21 rfl ?_
    replace h := Option.some.inj h
    subst h
    exact z_iret hX dX6_froms_21 rfl hk
  · replace h := br_neg h c3
    refine z_iload_n hX dX6_froms_11 2 rfl 12 rfl ?_
    refine z_iconst hX (v := (nI 0)) dX6_froms_12 rfl 13 rfl ?_
    refine z_iconst hX (v := (nI 1)) dX6_froms_13 rfl 14 rfl ?_
    replace h := cl_elim h
    obtain ⟨x5, s4, hx5, h⟩ := h
    refine z_cSi hX (As := [.int a2, .int ((nI 0)), .int ((nI 1))]) (c_X6_isWithin hx5) lk_X6_62 ds_X6_isWithin rfl (by decide) (by decide) (by decide) dX6_froms_14 rfl 17 rfl ?_
    refine z_if_ne hX 22 dX6_froms_17 (by decide) 20 rfl (fun c6 => ?_) (fun c6 => ?_)
    · replace h := br_pos h c6
      refine z_bipush hX (v := (-4)) dX6_froms_22 (by decide) 24 rfl ?_
      refine z_istore_n hX (lv2 := [(3, .int ((-4))), (0, .ref (gL Γ (0))), (1, .int a1), (2, .int a2)]) dX6_froms_24 (by decide) rfl 25 rfl ?_
      refine z_iconst hX (v := (nI 0)) dX6_froms_25 rfl 26 rfl ?_
      refine z_istore hX (lv2 := [(4, .int ((nI 0))), (3, .int ((-4))), (0, .ref (gL Γ (0))), (1, .int a1), (2, .int a2)]) dX6_froms_26 (by decide) rfl 28 rfl ?_
      refine z_iconst hX (v := (nI 0)) dX6_froms_28 rfl 29 rfl ?_
      refine z_istore hX (lv2 := [(5, .int ((nI 0))), (4, .int ((nI 0))), (3, .int ((-4))), (0, .ref (gL Γ (0))), (1, .int a1), (2, .int a2)]) dX6_froms_29 (by decide) rfl 31 rfl ?_
      exact z_sub [3, 4, 5, 2, 1, 0] rfl (lp_ok (Z := fun q : Int32 × Int32 × Int32 × St => Zw X Γ 6 r0 q.2.2.2 31 [(0, .ref (gL Γ (0))), (1, .int a1), (2, .int a2), (3, .int q.1), (4, .int q.2.1), (5, .int q.2.2.1)] []) (fun q t h hk => e_X6_froms_L31 hX h hk) Fu _ _ h hk)
    · replace h := br_neg h c6
      refine z_iconst hX (v := (-1)) dX6_froms_20 rfl 21 rfl ?_
      replace h := Option.some.inj h
      subst h
      exact z_iret hX dX6_froms_21 rfl hk
theorem c_X6_froms {lc : Launch} {Γ : Gm} {a1 : Int32} {a2 : Int32} {s s2 : St} {v : Int32} (h : f_X6_froms a1 a2 s = some (v, s2)) : Ct lc Γ yX6_froms cX6_froms 6 (some .int) 6 [.ref (gL Γ (0)), .int a1, .int a2] s (some (.int v), s2) := Ct.of (by decide +kernel) (Nat.le_of_ble_eq_true rfl) (fun X hl hX => e_X6_froms hX h rfl)
theorem dX6_gatherAnswers_0 : decode cX6_gatherAnswers 0 = .ok (.iconst 0, 1) := by decide +kernel
theorem dX6_gatherAnswers_1 : decode cX6_gatherAnswers 1 = .ok (.istore_n 2, 1) := by decide +kernel
theorem dX6_gatherAnswers_2 : decode cX6_gatherAnswers 2 = .ok (.iconst 0, 1) := by decide +kernel
theorem dX6_gatherAnswers_3 : decode cX6_gatherAnswers 3 = .ok (.istore_n 3, 1) := by decide +kernel
theorem dX6_gatherAnswers_4 : decode cX6_gatherAnswers 4 = .ok (.iload_n 3, 1) := by decide +kernel
theorem dX6_gatherAnswers_5 : decode cX6_gatherAnswers 5 = .ok (.bipush 20, 2) := by decide +kernel
theorem dX6_gatherAnswers_7 : decode cX6_gatherAnswers 7 = .ok (.if_icmp .ge 66, 3) := by decide +kernel
theorem dX6_gatherAnswers_10 : decode cX6_gatherAnswers 10 = .ok (.aload_n 0, 1) := by decide +kernel
theorem dX6_gatherAnswers_11 : decode cX6_gatherAnswers 11 = .ok (.iload_n 1, 1) := by decide +kernel
theorem dX6_gatherAnswers_12 : decode cX6_gatherAnswers 12 = .ok (.iload_n 3, 1) := by decide +kernel
theorem dX6_gatherAnswers_13 : decode cX6_gatherAnswers 13 = .ok (.bipush 30, 2) := by decide +kernel
theorem dX6_gatherAnswers_15 : decode cX6_gatherAnswers 15 = .ok (.invokevirtual 231, 3) := by decide +kernel
theorem dX6_gatherAnswers_18 : decode cX6_gatherAnswers 18 = .ok (.ifCond .eq 49, 3) := by decide +kernel
theorem dX6_gatherAnswers_21 : decode cX6_gatherAnswers 21 = .ok (.iconst 0, 1) := by decide +kernel
theorem dX6_gatherAnswers_22 : decode cX6_gatherAnswers 22 = .ok (.istore 4, 2) := by decide +kernel
theorem dX6_gatherAnswers_24 : decode cX6_gatherAnswers 24 = .ok (.iload 4, 2) := by decide +kernel
theorem dX6_gatherAnswers_26 : decode cX6_gatherAnswers 26 = .ok (.aload_n 0, 1) := by decide +kernel
theorem dX6_gatherAnswers_27 : decode cX6_gatherAnswers 27 = .ok (.getfield 10, 3) := by decide +kernel
theorem dX6_gatherAnswers_30 : decode cX6_gatherAnswers 30 = .ok (.getfield 97, 3) := by decide +kernel
theorem dX6_gatherAnswers_33 : decode cX6_gatherAnswers 33 = .ok (.if_icmp .ge 31, 3) := by decide +kernel
theorem dX6_gatherAnswers_36 : decode cX6_gatherAnswers 36 = .ok (.aload_n 0, 1) := by decide +kernel
theorem dX6_gatherAnswers_37 : decode cX6_gatherAnswers 37 = .ok (.getfield 52, 3) := by decide +kernel
theorem dX6_gatherAnswers_40 : decode cX6_gatherAnswers 40 = .ok (.iload 4, 2) := by decide +kernel
theorem dX6_gatherAnswers_42 : decode cX6_gatherAnswers 42 = .ok (.bipush 20, 2) := by decide +kernel
theorem dX6_gatherAnswers_44 : decode cX6_gatherAnswers 44 = .ok (.imul, 1) := by decide +kernel
theorem dX6_gatherAnswers_45 : decode cX6_gatherAnswers 45 = .ok (.iload_n 2, 1) := by decide +kernel
theorem dX6_gatherAnswers_46 : decode cX6_gatherAnswers 46 = .ok (.iadd, 1) := by decide +kernel
theorem dX6_gatherAnswers_47 : decode cX6_gatherAnswers 47 = .ok (.aload_n 0, 1) := by decide +kernel
theorem dX6_gatherAnswers_48 : decode cX6_gatherAnswers 48 = .ok (.getfield 16, 3) := by decide +kernel
theorem dX6_gatherAnswers_51 : decode cX6_gatherAnswers 51 = .ok (.iload 4, 2) := by decide +kernel
theorem dX6_gatherAnswers_53 : decode cX6_gatherAnswers 53 = .ok (.iload_n 1, 1) := by decide +kernel
theorem dX6_gatherAnswers_54 : decode cX6_gatherAnswers 54 = .ok (.invokevirtual 157, 3) := by decide +kernel
theorem dX6_gatherAnswers_57 : decode cX6_gatherAnswers 57 = .ok (.iastore, 1) := by decide +kernel
theorem dX6_gatherAnswers_58 : decode cX6_gatherAnswers 58 = .ok (.iinc 4 1, 3) := by decide +kernel
theorem dX6_gatherAnswers_61 : decode cX6_gatherAnswers 61 = .ok (.goto (-37), 3) := by decide +kernel
theorem dX6_gatherAnswers_64 : decode cX6_gatherAnswers 64 = .ok (.iinc 2 1, 3) := by decide +kernel
theorem dX6_gatherAnswers_67 : decode cX6_gatherAnswers 67 = .ok (.iinc 3 1, 3) := by decide +kernel
theorem dX6_gatherAnswers_70 : decode cX6_gatherAnswers 70 = .ok (.goto (-66), 3) := by decide +kernel
theorem dX6_gatherAnswers_73 : decode cX6_gatherAnswers 73 = .ok (.iload_n 2, 1) := by decide +kernel
theorem dX6_gatherAnswers_74 : decode cX6_gatherAnswers 74 = .ok (.ireturn, 1) := by decide +kernel
def f_X6_gatherAnswers_L24 (v1 : Int32) (v2 : Int32) (v3 : Int32) (v4 : Int32) (s : St) : Option ((Int32 × St) ⊕ ((Int32 × Int32 × St) ⊕ (Int32 × St))) := if (s.1 1 1) ≤ v4 then (some (Sum.inr (Sum.inl ((v2 + (nI 1)), (v3 + (nI 1)), s)))) else (cl (f_X2_held 14 v4 v1 s) (fun x7 s6 => if inb ((v4 * (nI 20)) + v2) (lnI 142) = true then bd (wI s6 142 (((v4 * (nI 20)) + v2)).toNatClampNeg x7) (fun s9 => some (Sum.inl ((v4 + (nI 1)), s9))) else none))
def f_X6_gatherAnswers_L4 (v1 : Int32) (v2 : Int32) (v3 : Int32) (s : St) : Option ((Int32 × Int32 × St) ⊕ (Int32 × St)) := if (nI 20) ≤ v3 then (some (Sum.inr ((v2, s)))) else (cl (f_X6_isFrom v1 v3 (nI 30) s) (fun x3 s2 => if x3 = 0 then (some (Sum.inl (v2, (v3 + (nI 1)), s2))) else (lp (fun q : Int32 × St => f_X6_gatherAnswers_L24 v1 v2 v3 q.1 q.2) Fu ((nI 0), s2))))
def f_X6_gatherAnswers (a1 : Int32) (s : St) : Option (Int32 × St) := lp (fun q : Int32 × Int32 × St => f_X6_gatherAnswers_L4 a1 q.1 q.2.1 q.2.2) Fu ((nI 0), (nI 0), s)
set_option maxHeartbeats 4000000 in
set_option maxRecDepth 100000 in
theorem e_X6_gatherAnswers_L24 {X : Cx} {Γ : Gm} {r0 : Rb} (hX : Amb X Γ cX6_gatherAnswers RX6 5 (some .int) 6) {v1 : Int32} {v2 : Int32} {v3 : Int32} {v4 : Int32} {s : St} {t : (Int32 × St) ⊕ ((Int32 × Int32 × St) ⊕ (Int32 × St))} (h : f_X6_gatherAnswers_L24 v1 v2 v3 v4 s = some t) (hk : (Sum.elim (fun q : Int32 × St => Zw X Γ 5 r0 q.2 24 [(0, .ref (gL Γ (0))), (1, .int v1), (2, .int v2), (3, .int v3), (4, .int q.1)] []) (Sum.elim (fun q : Int32 × Int32 × St => Zw X Γ 5 r0 q.2.2 4 [(0, .ref (gL Γ (0))), (1, .int v1), (2, .int q.1), (3, .int q.2.1)] []) (fun t : Int32 × St => Rt X Γ r0 (some (Value.int t.1), t.2)))) t) : Zw X Γ 5 r0 s 24 [(0, .ref (gL Γ (0))), (1, .int v1), (2, .int v2), (3, .int v3), (4, .int v4)] [] := by
  unfold f_X6_gatherAnswers_L24 at h
  refine z_iload hX dX6_gatherAnswers_24 4 rfl 26 rfl ?_
  refine z_aload_n hX dX6_gatherAnswers_26 0 rfl 27 rfl ?_
  refine z_get6 hX (k := 0) (j := 0) (v := .ref (gL Γ (1))) kdc_0 (by decide) rfl dX6_gatherAnswers_27 fl_X6_10 30 rfl ?_
  refine z_get2 hX (k := 1) (j := 1) (v := .int ((s.1 1 1))) kdc_1 (by decide) rfl dX6_gatherAnswers_30 fl_X6_97 33 rfl ?_
  refine z_icmp_ge hX 64 dX6_gatherAnswers_33 (by decide) 36 rfl (fun c5 => ?_) (fun c5 => ?_)
  · replace h := br_pos h c5
    refine z_iinc hX (v := (v2 + (nI 1))) (lv2 := [(2, .int ((v2 + (nI 1)))), (0, .ref (gL Γ (0))), (1, .int v1), (3, .int v3), (4, .int v4)]) dX6_gatherAnswers_64 2 rfl rfl (by decide) rfl 67 rfl ?_
    refine z_iinc hX (v := (v3 + (nI 1))) (lv2 := [(3, .int ((v3 + (nI 1)))), (2, .int ((v2 + (nI 1)))), (0, .ref (gL Γ (0))), (1, .int v1), (4, .int v4)]) dX6_gatherAnswers_67 3 rfl rfl (by decide) rfl 70 rfl ?_
    refine z_goto hX 4 dX6_gatherAnswers_70 (by decide) ?_
    replace h := Option.some.inj h
    subst h
    exact z_sub [2, 3, 1, 0] rfl hk
  · replace h := br_neg h c5
    refine z_aload_n hX dX6_gatherAnswers_36 0 rfl 37 rfl ?_
    refine z_get6 hX (k := 0) (j := 7) (v := .ref (gL Γ (142))) kdc_0 (by decide) rfl dX6_gatherAnswers_37 fl_X6_52 40 rfl ?_
    refine z_iload hX dX6_gatherAnswers_40 4 rfl 42 rfl ?_
    refine z_bipush hX (v := (nI 20)) dX6_gatherAnswers_42 (by decide) 44 rfl ?_
    refine z_imul hX dX6_gatherAnswers_44 45 rfl ?_
    refine z_iload_n hX dX6_gatherAnswers_45 2 rfl 46 rfl ?_
    refine z_iadd hX dX6_gatherAnswers_46 47 rfl ?_
    refine z_aload_n hX dX6_gatherAnswers_47 0 rfl 48 rfl ?_
    refine z_get6 hX (k := 0) (j := 1) (v := .ref (gL Γ (14))) kdc_0 (by decide) rfl dX6_gatherAnswers_48 fl_X6_16 51 rfl ?_
    refine z_iload hX dX6_gatherAnswers_51 4 rfl 53 rfl ?_
    refine z_iload_n hX dX6_gatherAnswers_53 1 rfl 54 rfl ?_
    replace h := cl_elim h
    obtain ⟨x7, s6, hx7, h⟩ := h
    refine z_cV2i hX (b := 14) (As := [.int v4, .int v1]) (c_X2_held hx7) lk_X6_157 rfl kdc_14 ds_X2_held rfl (by decide) (by decide) (Nat.le_of_ble_eq_true rfl) dX6_gatherAnswers_54 rfl 57 rfl ?_
    replace h := gd_elim h
    obtain ⟨g8, h⟩ := h
    replace h := bd_elim h
    obtain ⟨s9, es9, h⟩ := h
    refine z_iast hX (inb_vp g8) dX6_gatherAnswers_57 es9 58 rfl ?_
    refine z_iinc hX (v := (v4 + (nI 1))) (lv2 := [(4, .int ((v4 + (nI 1)))), (0, .ref (gL Γ (0))), (1, .int v1), (2, .int v2), (3, .int v3)]) dX6_gatherAnswers_58 4 rfl rfl (by decide) rfl 61 rfl ?_
    refine z_goto hX 24 dX6_gatherAnswers_61 (by decide) ?_
    replace h := Option.some.inj h
    subst h
    exact z_sub [1, 2, 3, 4, 0] rfl hk
set_option maxHeartbeats 4000000 in
set_option maxRecDepth 100000 in
theorem e_X6_gatherAnswers_L4 {X : Cx} {Γ : Gm} {r0 : Rb} (hX : Amb X Γ cX6_gatherAnswers RX6 5 (some .int) 6) {v1 : Int32} {v2 : Int32} {v3 : Int32} {s : St} {t : (Int32 × Int32 × St) ⊕ (Int32 × St)} (h : f_X6_gatherAnswers_L4 v1 v2 v3 s = some t) (hk : (Sum.elim (fun q : Int32 × Int32 × St => Zw X Γ 5 r0 q.2.2 4 [(0, .ref (gL Γ (0))), (1, .int v1), (2, .int q.1), (3, .int q.2.1)] []) (fun t : Int32 × St => Rt X Γ r0 (some (Value.int t.1), t.2))) t) : Zw X Γ 5 r0 s 4 [(0, .ref (gL Γ (0))), (1, .int v1), (2, .int v2), (3, .int v3)] [] := by
  unfold f_X6_gatherAnswers_L4 at h
  refine z_iload_n hX dX6_gatherAnswers_4 3 rfl 5 rfl ?_
  refine z_bipush hX (v := (nI 20)) dX6_gatherAnswers_5 (by decide) 7 rfl ?_
  refine z_icmp_ge hX 73 dX6_gatherAnswers_7 (by decide) 10 rfl (fun c1 => ?_) (fun c1 => ?_)
  · replace h := br_pos h c1
    refine z_iload_n hX dX6_gatherAnswers_73 2 rfl 74 rfl ?_
    replace h := Option.some.inj h
    subst h
    exact z_iret hX dX6_gatherAnswers_74 rfl hk
  · replace h := br_neg h c1
    refine z_aload_n hX dX6_gatherAnswers_10 0 rfl 11 rfl ?_
    refine z_iload_n hX dX6_gatherAnswers_11 1 rfl 12 rfl ?_
    refine z_iload_n hX dX6_gatherAnswers_12 3 rfl 13 rfl ?_
    refine z_bipush hX (v := (nI 30)) dX6_gatherAnswers_13 (by decide) 15 rfl ?_
    replace h := cl_elim h
    obtain ⟨x3, s2, hx3, h⟩ := h
    refine z_cV6i hX (b := 0) (As := [.int v1, .int v3, .int ((nI 30))]) (c_X6_isFrom hx3) lk_X6_231 rfl kdc_0 ds_X6_isFrom rfl (by decide) (by decide) (by decide) dX6_gatherAnswers_15 rfl 18 rfl ?_
    refine z_if_eq hX 67 dX6_gatherAnswers_18 (by decide) 21 rfl (fun c4 => ?_) (fun c4 => ?_)
    · replace h := br_pos h c4
      refine z_iinc hX (v := (v3 + (nI 1))) (lv2 := [(3, .int ((v3 + (nI 1)))), (0, .ref (gL Γ (0))), (1, .int v1), (2, .int v2)]) dX6_gatherAnswers_67 3 rfl rfl (by decide) rfl 70 rfl ?_
      refine z_goto hX 4 dX6_gatherAnswers_70 (by decide) ?_
      replace h := Option.some.inj h
      subst h
      exact z_sub [1, 2, 3, 0] rfl hk
    · replace h := br_neg h c4
      refine z_iconst hX (v := (nI 0)) dX6_gatherAnswers_21 rfl 22 rfl ?_
      refine z_istore hX (lv2 := [(4, .int ((nI 0))), (0, .ref (gL Γ (0))), (1, .int v1), (2, .int v2), (3, .int v3)]) dX6_gatherAnswers_22 (by decide) rfl 24 rfl ?_
      exact z_sub [1, 2, 3, 4, 0] rfl (lp_ok (Z := fun q : Int32 × St => Zw X Γ 5 r0 q.2 24 [(0, .ref (gL Γ (0))), (1, .int v1), (2, .int v2), (3, .int v3), (4, .int q.1)] []) (fun q t h hk => e_X6_gatherAnswers_L24 hX h hk) Fu _ _ h hk)
set_option maxHeartbeats 4000000 in
set_option maxRecDepth 100000 in
theorem e_X6_gatherAnswers {X : Cx} {Γ : Gm} {r0 : Rb} (hX : Amb X Γ cX6_gatherAnswers RX6 5 (some .int) 6) {a1 : Int32} {s : St} {t : Int32 × St} (h : f_X6_gatherAnswers a1 s = some t) (hk : (fun t : Int32 × St => Rt X Γ r0 (some (Value.int t.1), t.2)) t) : Zw X Γ 5 r0 s 0 [(0, .ref (gL Γ (0))), (1, .int a1)] [] := by
  unfold f_X6_gatherAnswers at h
  refine z_iconst hX (v := (nI 0)) dX6_gatherAnswers_0 rfl 1 rfl ?_
  refine z_istore_n hX (lv2 := [(2, .int ((nI 0))), (0, .ref (gL Γ (0))), (1, .int a1)]) dX6_gatherAnswers_1 (by decide) rfl 2 rfl ?_
  refine z_iconst hX (v := (nI 0)) dX6_gatherAnswers_2 rfl 3 rfl ?_
  refine z_istore_n hX (lv2 := [(3, .int ((nI 0))), (2, .int ((nI 0))), (0, .ref (gL Γ (0))), (1, .int a1)]) dX6_gatherAnswers_3 (by decide) rfl 4 rfl ?_
  exact z_sub [2, 3, 1, 0] rfl (lp_ok (Z := fun q : Int32 × Int32 × St => Zw X Γ 5 r0 q.2.2 4 [(0, .ref (gL Γ (0))), (1, .int a1), (2, .int q.1), (3, .int q.2.1)] []) (fun q t h hk => e_X6_gatherAnswers_L4 hX h hk) Fu _ _ h hk)
theorem c_X6_gatherAnswers {lc : Launch} {Γ : Gm} {a1 : Int32} {s s2 : St} {v : Int32} (h : f_X6_gatherAnswers a1 s = some (v, s2)) : Ct lc Γ yX6_gatherAnswers cX6_gatherAnswers 5 (some .int) 6 [.ref (gL Γ (0)), .int a1] s (some (.int v), s2) := Ct.of (by decide +kernel) (Nat.le_of_ble_eq_true rfl) (fun X hl hX => e_X6_gatherAnswers hX h rfl)
theorem dX6_mostAlike_0 : decode cX6_mostAlike 0 = .ok (.iconst 0, 1) := by decide +kernel
theorem dX6_mostAlike_1 : decode cX6_mostAlike 1 = .ok (.istore_n 3, 1) := by decide +kernel
theorem dX6_mostAlike_2 : decode cX6_mostAlike 2 = .ok (.iconst 0, 1) := by decide +kernel
theorem dX6_mostAlike_3 : decode cX6_mostAlike 3 = .ok (.istore 4, 2) := by decide +kernel
theorem dX6_mostAlike_5 : decode cX6_mostAlike 5 = .ok (.iload 4, 2) := by decide +kernel
theorem dX6_mostAlike_7 : decode cX6_mostAlike 7 = .ok (.iload_n 2, 1) := by decide +kernel
theorem dX6_mostAlike_8 : decode cX6_mostAlike 8 = .ok (.if_icmp .ge 64, 3) := by decide +kernel
theorem dX6_mostAlike_11 : decode cX6_mostAlike 11 = .ok (.iconst 0, 1) := by decide +kernel
theorem dX6_mostAlike_12 : decode cX6_mostAlike 12 = .ok (.istore 5, 2) := by decide +kernel
theorem dX6_mostAlike_14 : decode cX6_mostAlike 14 = .ok (.iconst 0, 1) := by decide +kernel
theorem dX6_mostAlike_15 : decode cX6_mostAlike 15 = .ok (.istore 6, 2) := by decide +kernel
theorem dX6_mostAlike_17 : decode cX6_mostAlike 17 = .ok (.iload 6, 2) := by decide +kernel
theorem dX6_mostAlike_19 : decode cX6_mostAlike 19 = .ok (.iload_n 2, 1) := by decide +kernel
theorem dX6_mostAlike_20 : decode cX6_mostAlike 20 = .ok (.if_icmp .ge 39, 3) := by decide +kernel
theorem dX6_mostAlike_23 : decode cX6_mostAlike 23 = .ok (.aload_n 0, 1) := by decide +kernel
theorem dX6_mostAlike_24 : decode cX6_mostAlike 24 = .ok (.getfield 52, 3) := by decide +kernel
theorem dX6_mostAlike_27 : decode cX6_mostAlike 27 = .ok (.iload_n 1, 1) := by decide +kernel
theorem dX6_mostAlike_28 : decode cX6_mostAlike 28 = .ok (.bipush 20, 2) := by decide +kernel
theorem dX6_mostAlike_30 : decode cX6_mostAlike 30 = .ok (.imul, 1) := by decide +kernel
theorem dX6_mostAlike_31 : decode cX6_mostAlike 31 = .ok (.iload 4, 2) := by decide +kernel
theorem dX6_mostAlike_33 : decode cX6_mostAlike 33 = .ok (.iadd, 1) := by decide +kernel
theorem dX6_mostAlike_34 : decode cX6_mostAlike 34 = .ok (.iaload, 1) := by decide +kernel
theorem dX6_mostAlike_35 : decode cX6_mostAlike 35 = .ok (.aload_n 0, 1) := by decide +kernel
theorem dX6_mostAlike_36 : decode cX6_mostAlike 36 = .ok (.getfield 52, 3) := by decide +kernel
theorem dX6_mostAlike_39 : decode cX6_mostAlike 39 = .ok (.iload_n 1, 1) := by decide +kernel
theorem dX6_mostAlike_40 : decode cX6_mostAlike 40 = .ok (.bipush 20, 2) := by decide +kernel
theorem dX6_mostAlike_42 : decode cX6_mostAlike 42 = .ok (.imul, 1) := by decide +kernel
theorem dX6_mostAlike_43 : decode cX6_mostAlike 43 = .ok (.iload 6, 2) := by decide +kernel
theorem dX6_mostAlike_45 : decode cX6_mostAlike 45 = .ok (.iadd, 1) := by decide +kernel
theorem dX6_mostAlike_46 : decode cX6_mostAlike 46 = .ok (.iaload, 1) := by decide +kernel
theorem dX6_mostAlike_47 : decode cX6_mostAlike 47 = .ok (.if_icmp .ne 6, 3) := by decide +kernel
theorem dX6_mostAlike_50 : decode cX6_mostAlike 50 = .ok (.iinc 5 1, 3) := by decide +kernel
theorem dX6_mostAlike_53 : decode cX6_mostAlike 53 = .ok (.iinc 6 1, 3) := by decide +kernel
theorem dX6_mostAlike_56 : decode cX6_mostAlike 56 = .ok (.goto (-39), 3) := by decide +kernel
theorem dX6_mostAlike_59 : decode cX6_mostAlike 59 = .ok (.iload_n 3, 1) := by decide +kernel
theorem dX6_mostAlike_60 : decode cX6_mostAlike 60 = .ok (.iload 5, 2) := by decide +kernel
theorem dX6_mostAlike_62 : decode cX6_mostAlike 62 = .ok (.invokestatic 240, 3) := by decide +kernel
theorem dX6_mostAlike_65 : decode cX6_mostAlike 65 = .ok (.istore_n 3, 1) := by decide +kernel
theorem dX6_mostAlike_66 : decode cX6_mostAlike 66 = .ok (.iinc 4 1, 3) := by decide +kernel
theorem dX6_mostAlike_69 : decode cX6_mostAlike 69 = .ok (.goto (-64), 3) := by decide +kernel
theorem dX6_mostAlike_72 : decode cX6_mostAlike 72 = .ok (.iload_n 3, 1) := by decide +kernel
theorem dX6_mostAlike_73 : decode cX6_mostAlike 73 = .ok (.ireturn, 1) := by decide +kernel
def f_X6_mostAlike_L17 (v1 : Int32) (v2 : Int32) (v3 : Int32) (v4 : Int32) (v5 : Int32) (v6 : Int32) (s : St) : Option ((Int32 × Int32 × St) ⊕ ((Int32 × Int32 × St) ⊕ (Int32 × St))) := if v2 ≤ v6 then (bd (if v3 < v5 then v5 else v3) (fun x3 => some (Sum.inr (Sum.inl (x3, (v4 + (nI 1)), s))))) else (if inb ((v1 * (nI 20)) + v4) (lnI 142) = true then if inb ((v1 * (nI 20)) + v6) (lnI 142) = true then if ¬ (s.1 142 (((v1 * (nI 20)) + v4)).toNatClampNeg) = (s.1 142 (((v1 * (nI 20)) + v6)).toNatClampNeg) then (some (Sum.inl (v5, (v6 + (nI 1)), s))) else (some (Sum.inl ((v5 + (nI 1)), (v6 + (nI 1)), s))) else none else none)
def f_X6_mostAlike_L5 (v1 : Int32) (v2 : Int32) (v3 : Int32) (v4 : Int32) (s : St) : Option ((Int32 × Int32 × St) ⊕ (Int32 × St)) := if v2 ≤ v4 then (some (Sum.inr ((v3, s)))) else (lp (fun q : Int32 × Int32 × St => f_X6_mostAlike_L17 v1 v2 v3 v4 q.1 q.2.1 q.2.2) Fu ((nI 0), (nI 0), s))
def f_X6_mostAlike (a1 : Int32) (a2 : Int32) (s : St) : Option (Int32 × St) := lp (fun q : Int32 × Int32 × St => f_X6_mostAlike_L5 a1 a2 q.1 q.2.1 q.2.2) Fu ((nI 0), (nI 0), s)
set_option maxHeartbeats 4000000 in
set_option maxRecDepth 100000 in
theorem e_X6_mostAlike_L17 {X : Cx} {Γ : Gm} {r0 : Rb} (hX : Amb X Γ cX6_mostAlike RX6 7 (some .int) 1) {v1 : Int32} {v2 : Int32} {v3 : Int32} {v4 : Int32} {v5 : Int32} {v6 : Int32} {s : St} {t : (Int32 × Int32 × St) ⊕ ((Int32 × Int32 × St) ⊕ (Int32 × St))} (h : f_X6_mostAlike_L17 v1 v2 v3 v4 v5 v6 s = some t) (hk : (Sum.elim (fun q : Int32 × Int32 × St => Zw X Γ 7 r0 q.2.2 17 [(0, .ref (gL Γ (0))), (1, .int v1), (2, .int v2), (3, .int v3), (4, .int v4), (5, .int q.1), (6, .int q.2.1)] []) (Sum.elim (fun q : Int32 × Int32 × St => Zw X Γ 7 r0 q.2.2 5 [(0, .ref (gL Γ (0))), (1, .int v1), (2, .int v2), (3, .int q.1), (4, .int q.2.1)] []) (fun t : Int32 × St => Rt X Γ r0 (some (Value.int t.1), t.2)))) t) : Zw X Γ 7 r0 s 17 [(0, .ref (gL Γ (0))), (1, .int v1), (2, .int v2), (3, .int v3), (4, .int v4), (5, .int v5), (6, .int v6)] [] := by
  unfold f_X6_mostAlike_L17 at h
  refine z_iload hX dX6_mostAlike_17 6 rfl 19 rfl ?_
  refine z_iload_n hX dX6_mostAlike_19 2 rfl 20 rfl ?_
  refine z_icmp_ge hX 59 dX6_mostAlike_20 (by decide) 23 rfl (fun c2 => ?_) (fun c2 => ?_)
  · replace h := br_pos h c2
    refine z_iload_n hX dX6_mostAlike_59 3 rfl 60 rfl ?_
    refine z_iload hX dX6_mostAlike_60 5 rfl 62 rfl ?_
    refine z_mmax hX ml_X6_240 st_max in_Math co_max (by decide) (by decide) dX6_mostAlike_62 65 rfl ?_
    replace h := bd_elim h
    obtain ⟨x3, ex3, h⟩ := h
    refine z_nm ex3 ?_
    refine z_istore_n hX (lv2 := [(3, .int x3), (0, .ref (gL Γ (0))), (1, .int v1), (2, .int v2), (4, .int v4), (5, .int v5), (6, .int v6)]) dX6_mostAlike_65 (by decide) rfl 66 rfl ?_
    refine z_iinc hX (v := (v4 + (nI 1))) (lv2 := [(4, .int ((v4 + (nI 1)))), (3, .int x3), (0, .ref (gL Γ (0))), (1, .int v1), (2, .int v2), (5, .int v5), (6, .int v6)]) dX6_mostAlike_66 4 rfl rfl (by decide) rfl 69 rfl ?_
    refine z_goto hX 5 dX6_mostAlike_69 (by decide) ?_
    replace h := Option.some.inj h
    subst h
    exact z_sub [2, 3, 4, 1, 0] rfl hk
  · replace h := br_neg h c2
    refine z_aload_n hX dX6_mostAlike_23 0 rfl 24 rfl ?_
    refine z_get6 hX (k := 0) (j := 7) (v := .ref (gL Γ (142))) kdc_0 (by decide) rfl dX6_mostAlike_24 fl_X6_52 27 rfl ?_
    refine z_iload_n hX dX6_mostAlike_27 1 rfl 28 rfl ?_
    refine z_bipush hX (v := (nI 20)) dX6_mostAlike_28 (by decide) 30 rfl ?_
    refine z_imul hX dX6_mostAlike_30 31 rfl ?_
    refine z_iload hX dX6_mostAlike_31 4 rfl 33 rfl ?_
    refine z_iadd hX dX6_mostAlike_33 34 rfl ?_
    replace h := gd_elim h
    obtain ⟨g4, h⟩ := h
    refine z_iald hX (inb_vp g4) dX6_mostAlike_34 35 rfl ?_
    refine z_aload_n hX dX6_mostAlike_35 0 rfl 36 rfl ?_
    refine z_get6 hX (k := 0) (j := 7) (v := .ref (gL Γ (142))) kdc_0 (by decide) rfl dX6_mostAlike_36 fl_X6_52 39 rfl ?_
    refine z_iload_n hX dX6_mostAlike_39 1 rfl 40 rfl ?_
    refine z_bipush hX (v := (nI 20)) dX6_mostAlike_40 (by decide) 42 rfl ?_
    refine z_imul hX dX6_mostAlike_42 43 rfl ?_
    refine z_iload hX dX6_mostAlike_43 6 rfl 45 rfl ?_
    refine z_iadd hX dX6_mostAlike_45 46 rfl ?_
    replace h := gd_elim h
    obtain ⟨g5, h⟩ := h
    refine z_iald hX (inb_vp g5) dX6_mostAlike_46 47 rfl ?_
    refine z_icmp_ne hX 53 dX6_mostAlike_47 (by decide) 50 rfl (fun c6 => ?_) (fun c6 => ?_)
    · replace h := br_pos h c6
      refine z_iinc hX (v := (v6 + (nI 1))) (lv2 := [(6, .int ((v6 + (nI 1)))), (0, .ref (gL Γ (0))), (1, .int v1), (2, .int v2), (3, .int v3), (4, .int v4), (5, .int v5)]) dX6_mostAlike_53 6 rfl rfl (by decide) rfl 56 rfl ?_
      refine z_goto hX 17 dX6_mostAlike_56 (by decide) ?_
      replace h := Option.some.inj h
      subst h
      exact z_sub [1, 2, 3, 4, 5, 6, 0] rfl hk
    · replace h := br_neg h c6
      refine z_iinc hX (v := (v5 + (nI 1))) (lv2 := [(5, .int ((v5 + (nI 1)))), (0, .ref (gL Γ (0))), (1, .int v1), (2, .int v2), (3, .int v3), (4, .int v4), (6, .int v6)]) dX6_mostAlike_50 5 rfl rfl (by decide) rfl 53 rfl ?_
      refine z_iinc hX (v := (v6 + (nI 1))) (lv2 := [(6, .int ((v6 + (nI 1)))), (5, .int ((v5 + (nI 1)))), (0, .ref (gL Γ (0))), (1, .int v1), (2, .int v2), (3, .int v3), (4, .int v4)]) dX6_mostAlike_53 6 rfl rfl (by decide) rfl 56 rfl ?_
      refine z_goto hX 17 dX6_mostAlike_56 (by decide) ?_
      replace h := Option.some.inj h
      subst h
      exact z_sub [2, 3, 4, 5, 6, 1, 0] rfl hk
set_option maxHeartbeats 4000000 in
set_option maxRecDepth 100000 in
theorem e_X6_mostAlike_L5 {X : Cx} {Γ : Gm} {r0 : Rb} (hX : Amb X Γ cX6_mostAlike RX6 7 (some .int) 1) {v1 : Int32} {v2 : Int32} {v3 : Int32} {v4 : Int32} {s : St} {t : (Int32 × Int32 × St) ⊕ (Int32 × St)} (h : f_X6_mostAlike_L5 v1 v2 v3 v4 s = some t) (hk : (Sum.elim (fun q : Int32 × Int32 × St => Zw X Γ 7 r0 q.2.2 5 [(0, .ref (gL Γ (0))), (1, .int v1), (2, .int v2), (3, .int q.1), (4, .int q.2.1)] []) (fun t : Int32 × St => Rt X Γ r0 (some (Value.int t.1), t.2))) t) : Zw X Γ 7 r0 s 5 [(0, .ref (gL Γ (0))), (1, .int v1), (2, .int v2), (3, .int v3), (4, .int v4)] [] := by
  unfold f_X6_mostAlike_L5 at h
  refine z_iload hX dX6_mostAlike_5 4 rfl 7 rfl ?_
  refine z_iload_n hX dX6_mostAlike_7 2 rfl 8 rfl ?_
  refine z_icmp_ge hX 72 dX6_mostAlike_8 (by decide) 11 rfl (fun c1 => ?_) (fun c1 => ?_)
  · replace h := br_pos h c1
    refine z_iload_n hX dX6_mostAlike_72 3 rfl 73 rfl ?_
    replace h := Option.some.inj h
    subst h
    exact z_iret hX dX6_mostAlike_73 rfl hk
  · replace h := br_neg h c1
    refine z_iconst hX (v := (nI 0)) dX6_mostAlike_11 rfl 12 rfl ?_
    refine z_istore hX (lv2 := [(5, .int ((nI 0))), (0, .ref (gL Γ (0))), (1, .int v1), (2, .int v2), (3, .int v3), (4, .int v4)]) dX6_mostAlike_12 (by decide) rfl 14 rfl ?_
    refine z_iconst hX (v := (nI 0)) dX6_mostAlike_14 rfl 15 rfl ?_
    refine z_istore hX (lv2 := [(6, .int ((nI 0))), (5, .int ((nI 0))), (0, .ref (gL Γ (0))), (1, .int v1), (2, .int v2), (3, .int v3), (4, .int v4)]) dX6_mostAlike_15 (by decide) rfl 17 rfl ?_
    exact z_sub [2, 3, 4, 5, 6, 1, 0] rfl (lp_ok (Z := fun q : Int32 × Int32 × St => Zw X Γ 7 r0 q.2.2 17 [(0, .ref (gL Γ (0))), (1, .int v1), (2, .int v2), (3, .int v3), (4, .int v4), (5, .int q.1), (6, .int q.2.1)] []) (fun q t h hk => e_X6_mostAlike_L17 hX h hk) Fu _ _ h hk)
set_option maxHeartbeats 4000000 in
set_option maxRecDepth 100000 in
theorem e_X6_mostAlike {X : Cx} {Γ : Gm} {r0 : Rb} (hX : Amb X Γ cX6_mostAlike RX6 7 (some .int) 1) {a1 : Int32} {a2 : Int32} {s : St} {t : Int32 × St} (h : f_X6_mostAlike a1 a2 s = some t) (hk : (fun t : Int32 × St => Rt X Γ r0 (some (Value.int t.1), t.2)) t) : Zw X Γ 7 r0 s 0 [(0, .ref (gL Γ (0))), (1, .int a1), (2, .int a2)] [] := by
  unfold f_X6_mostAlike at h
  refine z_iconst hX (v := (nI 0)) dX6_mostAlike_0 rfl 1 rfl ?_
  refine z_istore_n hX (lv2 := [(3, .int ((nI 0))), (0, .ref (gL Γ (0))), (1, .int a1), (2, .int a2)]) dX6_mostAlike_1 (by decide) rfl 2 rfl ?_
  refine z_iconst hX (v := (nI 0)) dX6_mostAlike_2 rfl 3 rfl ?_
  refine z_istore hX (lv2 := [(4, .int ((nI 0))), (3, .int ((nI 0))), (0, .ref (gL Γ (0))), (1, .int a1), (2, .int a2)]) dX6_mostAlike_3 (by decide) rfl 5 rfl ?_
  exact z_sub [2, 3, 4, 1, 0] rfl (lp_ok (Z := fun q : Int32 × Int32 × St => Zw X Γ 7 r0 q.2.2 5 [(0, .ref (gL Γ (0))), (1, .int a1), (2, .int a2), (3, .int q.1), (4, .int q.2.1)] []) (fun q t h hk => e_X6_mostAlike_L5 hX h hk) Fu _ _ h hk)
theorem c_X6_mostAlike {lc : Launch} {Γ : Gm} {a1 : Int32} {a2 : Int32} {s s2 : St} {v : Int32} (h : f_X6_mostAlike a1 a2 s = some (v, s2)) : Ct lc Γ yX6_mostAlike cX6_mostAlike 7 (some .int) 1 [.ref (gL Γ (0)), .int a1, .int a2] s (some (.int v), s2) := Ct.of (by decide +kernel) (Nat.le_of_ble_eq_true rfl) (fun X hl hX => e_X6_mostAlike hX h rfl)
theorem dX6_ask_0 : decode cX6_ask 0 = .ok (.aload_n 0, 1) := by decide +kernel
theorem dX6_ask_1 : decode cX6_ask 1 = .ok (.getfield 10, 3) := by decide +kernel
theorem dX6_ask_4 : decode cX6_ask 4 = .ok (.iload_n 1, 1) := by decide +kernel
theorem dX6_ask_5 : decode cX6_ask 5 = .ok (.invokevirtual 117, 3) := by decide +kernel
theorem dX6_ask_8 : decode cX6_ask 8 = .ok (.ifCond .eq 12, 3) := by decide +kernel
theorem dX6_ask_11 : decode cX6_ask 11 = .ok (.iload_n 2, 1) := by decide +kernel
theorem dX6_ask_12 : decode cX6_ask 12 = .ok (.iconst 0, 1) := by decide +kernel
theorem dX6_ask_13 : decode cX6_ask 13 = .ok (.iconst 1, 1) := by decide +kernel
theorem dX6_ask_14 : decode cX6_ask 14 = .ok (.invokestatic 62, 3) := by decide +kernel
theorem dX6_ask_17 : decode cX6_ask 17 = .ok (.ifCond .ne 5, 3) := by decide +kernel
theorem dX6_ask_20 : decode cX6_ask 20 = .ok (.iconst (-1), 1) := by decide +kernel
theorem dX6_ask_21 : decode cX6_ask 21 = .ok (.ireturn, 1) := by decide +kernel
theorem dX6_ask_22 : decode cX6_ask 22 = .ok (.aload_n 0, 1) := by decide +kernel
theorem dX6_ask_23 : decode cX6_ask 23 = .ok (.iload_n 1, 1) := by decide +kernel
theorem dX6_ask_24 : decode cX6_ask 24 = .ok (.invokevirtual 234, 3) := by decide +kernel
theorem dX6_ask_27 : decode cX6_ask 27 = .ok (.istore_n 3, 1) := by decide +kernel
theorem dX6_ask_28 : decode cX6_ask 28 = .ok (.iload_n 3, 1) := by decide +kernel
theorem dX6_ask_29 : decode cX6_ask 29 = .ok (.istore 4, 2) := by decide +kernel
theorem dX6_ask_31 : decode cX6_ask 31 = .ok (.bipush (-4), 2) := by decide +kernel
theorem dX6_ask_33 : decode cX6_ask 33 = .ok (.istore 5, 2) := by decide +kernel
theorem dX6_ask_35 : decode cX6_ask 35 = .ok (.iconst 0, 1) := by decide +kernel
theorem dX6_ask_36 : decode cX6_ask 36 = .ok (.istore 6, 2) := by decide +kernel
theorem dX6_ask_38 : decode cX6_ask 38 = .ok (.iload 6, 2) := by decide +kernel
theorem dX6_ask_40 : decode cX6_ask 40 = .ok (.aload_n 0, 1) := by decide +kernel
theorem dX6_ask_41 : decode cX6_ask 41 = .ok (.getfield 10, 3) := by decide +kernel
theorem dX6_ask_44 : decode cX6_ask 44 = .ok (.getfield 97, 3) := by decide +kernel
theorem dX6_ask_47 : decode cX6_ask 47 = .ok (.if_icmp .ge 33, 3) := by decide +kernel
theorem dX6_ask_50 : decode cX6_ask 50 = .ok (.aload_n 0, 1) := by decide +kernel
theorem dX6_ask_51 : decode cX6_ask 51 = .ok (.iload 6, 2) := by decide +kernel
theorem dX6_ask_53 : decode cX6_ask 53 = .ok (.iload_n 3, 1) := by decide +kernel
theorem dX6_ask_54 : decode cX6_ask 54 = .ok (.invokevirtual 237, 3) := by decide +kernel
theorem dX6_ask_57 : decode cX6_ask 57 = .ok (.istore 7, 2) := by decide +kernel
theorem dX6_ask_59 : decode cX6_ask 59 = .ok (.iload 7, 2) := by decide +kernel
theorem dX6_ask_61 : decode cX6_ask 61 = .ok (.iload 4, 2) := by decide +kernel
theorem dX6_ask_63 : decode cX6_ask 63 = .ok (.if_icmp .ge 11, 3) := by decide +kernel
theorem dX6_ask_66 : decode cX6_ask 66 = .ok (.iload 7, 2) := by decide +kernel
theorem dX6_ask_68 : decode cX6_ask 68 = .ok (.istore 4, 2) := by decide +kernel
theorem dX6_ask_70 : decode cX6_ask 70 = .ok (.iload 6, 2) := by decide +kernel
theorem dX6_ask_72 : decode cX6_ask 72 = .ok (.istore 5, 2) := by decide +kernel
theorem dX6_ask_74 : decode cX6_ask 74 = .ok (.iinc 6 1, 3) := by decide +kernel
theorem dX6_ask_77 : decode cX6_ask 77 = .ok (.goto (-39), 3) := by decide +kernel
theorem dX6_ask_80 : decode cX6_ask 80 = .ok (.iload 5, 2) := by decide +kernel
theorem dX6_ask_82 : decode cX6_ask 82 = .ok (.bipush (-4), 2) := by decide +kernel
theorem dX6_ask_84 : decode cX6_ask 84 = .ok (.if_icmp .eq 7, 3) := by decide +kernel
theorem dX6_ask_87 : decode cX6_ask 87 = .ok (.iload_n 2, 1) := by decide +kernel
theorem dX6_ask_88 : decode cX6_ask 88 = .ok (.ifCond .ne 8, 3) := by decide +kernel
theorem dX6_ask_91 : decode cX6_ask 91 = .ok (.iload 5, 2) := by decide +kernel
theorem dX6_ask_93 : decode cX6_ask 93 = .ok (.goto 5, 3) := by decide +kernel
theorem dX6_ask_96 : decode cX6_ask 96 = .ok (.iload 4, 2) := by decide +kernel
theorem dX6_ask_98 : decode cX6_ask 98 = .ok (.ireturn, 1) := by decide +kernel
def f_X6_ask_L38 (v2 : Int32) (v3 : Int32) (v4 : Int32) (v5 : Int32) (v6 : Int32) (s : St) : Option ((Int32 × Int32 × Int32 × St) ⊕ (Int32 × St)) := if (s.1 1 1) ≤ v6 then (if v5 = (-4) then (some (Sum.inr ((v5, s)))) else (if ¬ v2 = 0 then (some (Sum.inr ((v4, s)))) else (some (Sum.inr ((v5, s)))))) else (cl (f_X6_mostAlike v6 v3 s) (fun x13 s12 => if v4 ≤ x13 then (some (Sum.inl (v4, v5, (v6 + (nI 1)), s12))) else (some (Sum.inl (x13, v6, (v6 + (nI 1)), s12)))))
def f_X6_ask (a1 : Int32) (a2 : Int32) (s : St) : Option (Int32 × St) := cl (f_X2_isLife 1 a1 s) (fun x2 s1 => if x2 = 0 then (some (((-1), s1))) else (cl (f_X6_isWithin a2 (nI 0) (nI 1) s1) (fun x5 s4 => if ¬ x5 = 0 then (cl (f_X6_gatherAnswers a1 s4) (fun x8 s7 => lp (fun q : Int32 × Int32 × Int32 × St => f_X6_ask_L38 a2 x8 q.1 q.2.1 q.2.2.1 q.2.2.2) Fu (x8, (-4), (nI 0), s7))) else (some (((-1), s4))))))
set_option maxHeartbeats 4000000 in
set_option maxRecDepth 100000 in
theorem e_X6_ask_L38 {X : Cx} {Γ : Gm} {r0 : Rb} (hX : Amb X Γ cX6_ask RX6 8 (some .int) 7) {v2 : Int32} {v3 : Int32} {v4 : Int32} {v5 : Int32} {v6 : Int32} {s : St} {t : (Int32 × Int32 × Int32 × St) ⊕ (Int32 × St)} (h : f_X6_ask_L38 v2 v3 v4 v5 v6 s = some t) (hk : (Sum.elim (fun q : Int32 × Int32 × Int32 × St => Zw X Γ 8 r0 q.2.2.2 38 [(0, .ref (gL Γ (0))), (2, .int v2), (3, .int v3), (4, .int q.1), (5, .int q.2.1), (6, .int q.2.2.1)] []) (fun t : Int32 × St => Rt X Γ r0 (some (Value.int t.1), t.2))) t) : Zw X Γ 8 r0 s 38 [(0, .ref (gL Γ (0))), (2, .int v2), (3, .int v3), (4, .int v4), (5, .int v5), (6, .int v6)] [] := by
  unfold f_X6_ask_L38 at h
  refine z_iload hX dX6_ask_38 5 rfl 40 rfl ?_
  refine z_aload_n hX dX6_ask_40 0 rfl 41 rfl ?_
  refine z_get6 hX (k := 0) (j := 0) (v := .ref (gL Γ (1))) kdc_0 (by decide) rfl dX6_ask_41 fl_X6_10 44 rfl ?_
  refine z_get2 hX (k := 1) (j := 1) (v := .int ((s.1 1 1))) kdc_1 (by decide) rfl dX6_ask_44 fl_X6_97 47 rfl ?_
  refine z_icmp_ge hX 80 dX6_ask_47 (by decide) 50 rfl (fun c9 => ?_) (fun c9 => ?_)
  · replace h := br_pos h c9
    refine z_iload hX dX6_ask_80 4 rfl 82 rfl ?_
    refine z_bipush hX (v := (-4)) dX6_ask_82 (by decide) 84 rfl ?_
    refine z_icmp_eq hX 91 dX6_ask_84 (by decide) 87 rfl (fun c10 => ?_) (fun c10 => ?_)
    · replace h := br_pos h c10
      refine z_iload hX dX6_ask_91 4 rfl 93 rfl ?_
      refine z_goto hX 98 dX6_ask_93 (by decide) ?_
      replace h := Option.some.inj h
      subst h
      exact z_iret hX dX6_ask_98 rfl hk
    · replace h := br_neg h c10
      refine z_iload_n hX dX6_ask_87 1 rfl 88 rfl ?_
      refine z_if_ne hX 96 dX6_ask_88 (by decide) 91 rfl (fun c11 => ?_) (fun c11 => ?_)
      · replace h := br_pos h c11
        refine z_iload hX dX6_ask_96 3 rfl 98 rfl ?_
        replace h := Option.some.inj h
        subst h
        exact z_iret hX dX6_ask_98 rfl hk
      · replace h := br_neg h c11
        refine z_iload hX dX6_ask_91 4 rfl 93 rfl ?_
        refine z_goto hX 98 dX6_ask_93 (by decide) ?_
        replace h := Option.some.inj h
        subst h
        exact z_iret hX dX6_ask_98 rfl hk
  · replace h := br_neg h c9
    refine z_aload_n hX dX6_ask_50 0 rfl 51 rfl ?_
    refine z_iload hX dX6_ask_51 5 rfl 53 rfl ?_
    refine z_iload_n hX dX6_ask_53 2 rfl 54 rfl ?_
    replace h := cl_elim h
    obtain ⟨x13, s12, hx13, h⟩ := h
    refine z_cV6i hX (b := 0) (As := [.int v6, .int v3]) (c_X6_mostAlike hx13) lk_X6_237 rfl kdc_0 ds_X6_mostAlike rfl (by decide) (by decide) (by decide) dX6_ask_54 rfl 57 rfl ?_
    refine z_istore hX (lv2 := [(7, .int x13), (0, .ref (gL Γ (0))), (2, .int v2), (3, .int v3), (4, .int v4), (5, .int v5), (6, .int v6)]) dX6_ask_57 (by decide) rfl 59 rfl ?_
    refine z_iload hX dX6_ask_59 0 rfl 61 rfl ?_
    refine z_iload hX dX6_ask_61 4 rfl 63 rfl ?_
    refine z_icmp_ge hX 74 dX6_ask_63 (by decide) 66 rfl (fun c14 => ?_) (fun c14 => ?_)
    · replace h := br_pos h c14
      refine z_iinc hX (v := (v6 + (nI 1))) (lv2 := [(6, .int ((v6 + (nI 1)))), (7, .int x13), (0, .ref (gL Γ (0))), (2, .int v2), (3, .int v3), (4, .int v4), (5, .int v5)]) dX6_ask_74 6 rfl rfl (by decide) rfl 77 rfl ?_
      refine z_goto hX 38 dX6_ask_77 (by decide) ?_
      replace h := Option.some.inj h
      subst h
      exact z_sub [2, 3, 4, 5, 6, 0] rfl hk
    · replace h := br_neg h c14
      refine z_iload hX dX6_ask_66 0 rfl 68 rfl ?_
      refine z_istore hX (lv2 := [(4, .int x13), (7, .int x13), (0, .ref (gL Γ (0))), (2, .int v2), (3, .int v3), (5, .int v5), (6, .int v6)]) dX6_ask_68 (by decide) rfl 70 rfl ?_
      refine z_iload hX dX6_ask_70 6 rfl 72 rfl ?_
      refine z_istore hX (lv2 := [(5, .int v6), (4, .int x13), (7, .int x13), (0, .ref (gL Γ (0))), (2, .int v2), (3, .int v3), (6, .int v6)]) dX6_ask_72 (by decide) rfl 74 rfl ?_
      refine z_iinc hX (v := (v6 + (nI 1))) (lv2 := [(6, .int ((v6 + (nI 1)))), (5, .int v6), (4, .int x13), (7, .int x13), (0, .ref (gL Γ (0))), (2, .int v2), (3, .int v3)]) dX6_ask_74 6 rfl rfl (by decide) rfl 77 rfl ?_
      refine z_goto hX 38 dX6_ask_77 (by decide) ?_
      replace h := Option.some.inj h
      subst h
      exact z_sub [4, 5, 6, 2, 1, 0] rfl hk
set_option maxHeartbeats 4000000 in
set_option maxRecDepth 100000 in
theorem e_X6_ask {X : Cx} {Γ : Gm} {r0 : Rb} (hX : Amb X Γ cX6_ask RX6 8 (some .int) 7) {a1 : Int32} {a2 : Int32} {s : St} {t : Int32 × St} (h : f_X6_ask a1 a2 s = some t) (hk : (fun t : Int32 × St => Rt X Γ r0 (some (Value.int t.1), t.2)) t) : Zw X Γ 8 r0 s 0 [(0, .ref (gL Γ (0))), (1, .int a1), (2, .int a2)] [] := by
  unfold f_X6_ask at h
  refine z_aload_n hX dX6_ask_0 0 rfl 1 rfl ?_
  refine z_get6 hX (k := 0) (j := 0) (v := .ref (gL Γ (1))) kdc_0 (by decide) rfl dX6_ask_1 fl_X6_10 4 rfl ?_
  refine z_iload_n hX dX6_ask_4 1 rfl 5 rfl ?_
  replace h := cl_elim h
  obtain ⟨x2, s1, hx2, h⟩ := h
  refine z_cV2i hX (b := 1) (As := [.int a1]) (c_X2_isLife hx2) lk_X6_117 rfl kdc_1 ds_X2_isLife rfl (by decide) (by decide) (by decide) dX6_ask_5 rfl 8 rfl ?_
  refine z_if_eq hX 20 dX6_ask_8 (by decide) 11 rfl (fun c3 => ?_) (fun c3 => ?_)
  · replace h := br_pos h c3
    refine z_iconst hX (v := (-1)) dX6_ask_20 rfl 21 rfl ?_
    replace h := Option.some.inj h
    subst h
    exact z_iret hX dX6_ask_21 rfl hk
  · replace h := br_neg h c3
    refine z_iload_n hX dX6_ask_11 2 rfl 12 rfl ?_
    refine z_iconst hX (v := (nI 0)) dX6_ask_12 rfl 13 rfl ?_
    refine z_iconst hX (v := (nI 1)) dX6_ask_13 rfl 14 rfl ?_
    replace h := cl_elim h
    obtain ⟨x5, s4, hx5, h⟩ := h
    refine z_cSi hX (As := [.int a2, .int ((nI 0)), .int ((nI 1))]) (c_X6_isWithin hx5) lk_X6_62 ds_X6_isWithin rfl (by decide) (by decide) (by decide) dX6_ask_14 rfl 17 rfl ?_
    refine z_if_ne hX 22 dX6_ask_17 (by decide) 20 rfl (fun c6 => ?_) (fun c6 => ?_)
    · replace h := br_pos h c6
      refine z_aload_n hX dX6_ask_22 0 rfl 23 rfl ?_
      refine z_iload_n hX dX6_ask_23 1 rfl 24 rfl ?_
      replace h := cl_elim h
      obtain ⟨x8, s7, hx8, h⟩ := h
      refine z_cV6i hX (b := 0) (As := [.int a1]) (c_X6_gatherAnswers hx8) lk_X6_234 rfl kdc_0 ds_X6_gatherAnswers rfl (by decide) (by decide) (by decide) dX6_ask_24 rfl 27 rfl ?_
      refine z_istore_n hX (lv2 := [(3, .int x8), (0, .ref (gL Γ (0))), (1, .int a1), (2, .int a2)]) dX6_ask_27 (by decide) rfl 28 rfl ?_
      refine z_iload_n hX dX6_ask_28 0 rfl 29 rfl ?_
      refine z_istore hX (lv2 := [(4, .int x8), (3, .int x8), (0, .ref (gL Γ (0))), (1, .int a1), (2, .int a2)]) dX6_ask_29 (by decide) rfl 31 rfl ?_
      refine z_bipush hX (v := (-4)) dX6_ask_31 (by decide) 33 rfl ?_
      refine z_istore hX (lv2 := [(5, .int ((-4))), (4, .int x8), (3, .int x8), (0, .ref (gL Γ (0))), (1, .int a1), (2, .int a2)]) dX6_ask_33 (by decide) rfl 35 rfl ?_
      refine z_iconst hX (v := (nI 0)) dX6_ask_35 rfl 36 rfl ?_
      refine z_istore hX (lv2 := [(6, .int ((nI 0))), (5, .int ((-4))), (4, .int x8), (3, .int x8), (0, .ref (gL Γ (0))), (1, .int a1), (2, .int a2)]) dX6_ask_36 (by decide) rfl 38 rfl ?_
      exact z_sub [4, 6, 3, 2, 1, 0] rfl (lp_ok (Z := fun q : Int32 × Int32 × Int32 × St => Zw X Γ 8 r0 q.2.2.2 38 [(0, .ref (gL Γ (0))), (2, .int a2), (3, .int x8), (4, .int q.1), (5, .int q.2.1), (6, .int q.2.2.1)] []) (fun q t h hk => e_X6_ask_L38 hX h hk) Fu _ _ h hk)
    · replace h := br_neg h c6
      refine z_iconst hX (v := (-1)) dX6_ask_20 rfl 21 rfl ?_
      replace h := Option.some.inj h
      subst h
      exact z_iret hX dX6_ask_21 rfl hk
theorem c_X6_ask {lc : Launch} {Γ : Gm} {a1 : Int32} {a2 : Int32} {s s2 : St} {v : Int32} (h : f_X6_ask a1 a2 s = some (v, s2)) : Ct lc Γ yX6_ask cX6_ask 8 (some .int) 7 [.ref (gL Γ (0)), .int a1, .int a2] s (some (.int v), s2) := Ct.of (by decide +kernel) (Nat.le_of_ble_eq_true rfl) (fun X hl hX => e_X6_ask hX h rfl)
theorem dX6_drift_0 : decode cX6_drift 0 = .ok (.iload_n 2, 1) := by decide +kernel
theorem dX6_drift_1 : decode cX6_drift 1 = .ok (.iconst 1, 1) := by decide +kernel
theorem dX6_drift_2 : decode cX6_drift 2 = .ok (.bipush 60, 2) := by decide +kernel
theorem dX6_drift_4 : decode cX6_drift 4 = .ok (.invokestatic 62, 3) := by decide +kernel
theorem dX6_drift_7 : decode cX6_drift 7 = .ok (.ifCond .eq 12, 3) := by decide +kernel
theorem dX6_drift_10 : decode cX6_drift 10 = .ok (.iload_n 3, 1) := by decide +kernel
theorem dX6_drift_11 : decode cX6_drift 11 = .ok (.iconst 0, 1) := by decide +kernel
theorem dX6_drift_12 : decode cX6_drift 12 = .ok (.iconst 1, 1) := by decide +kernel
theorem dX6_drift_13 : decode cX6_drift 13 = .ok (.invokestatic 62, 3) := by decide +kernel
theorem dX6_drift_16 : decode cX6_drift 16 = .ok (.ifCond .ne 5, 3) := by decide +kernel
theorem dX6_drift_19 : decode cX6_drift 19 = .ok (.iconst (-1), 1) := by decide +kernel
theorem dX6_drift_20 : decode cX6_drift 20 = .ok (.ireturn, 1) := by decide +kernel
theorem dX6_drift_21 : decode cX6_drift 21 = .ok (.aload_n 0, 1) := by decide +kernel
theorem dX6_drift_22 : decode cX6_drift 22 = .ok (.getfield 10, 3) := by decide +kernel
theorem dX6_drift_25 : decode cX6_drift 25 = .ok (.getfield 94, 3) := by decide +kernel
theorem dX6_drift_28 : decode cX6_drift 28 = .ok (.ifCond .ne 6, 3) := by decide +kernel
theorem dX6_drift_31 : decode cX6_drift 31 = .ok (.bipush (-2), 2) := by decide +kernel
theorem dX6_drift_33 : decode cX6_drift 33 = .ok (.ireturn, 1) := by decide +kernel
theorem dX6_drift_34 : decode cX6_drift 34 = .ok (.aload_n 0, 1) := by decide +kernel
theorem dX6_drift_35 : decode cX6_drift 35 = .ok (.getfield 16, 3) := by decide +kernel
theorem dX6_drift_38 : decode cX6_drift 38 = .ok (.aload_n 0, 1) := by decide +kernel
theorem dX6_drift_39 : decode cX6_drift 39 = .ok (.getfield 10, 3) := by decide +kernel
theorem dX6_drift_42 : decode cX6_drift 42 = .ok (.invokevirtual 83, 3) := by decide +kernel
theorem dX6_drift_45 : decode cX6_drift 45 = .ok (.iconst 0, 1) := by decide +kernel
theorem dX6_drift_46 : decode cX6_drift 46 = .ok (.istore 4, 2) := by decide +kernel
theorem dX6_drift_48 : decode cX6_drift 48 = .ok (.iload_n 1, 1) := by decide +kernel
theorem dX6_drift_49 : decode cX6_drift 49 = .ok (.istore 5, 2) := by decide +kernel
theorem dX6_drift_51 : decode cX6_drift 51 = .ok (.iconst 0, 1) := by decide +kernel
theorem dX6_drift_52 : decode cX6_drift 52 = .ok (.istore 6, 2) := by decide +kernel
theorem dX6_drift_54 : decode cX6_drift 54 = .ok (.iload 6, 2) := by decide +kernel
theorem dX6_drift_56 : decode cX6_drift 56 = .ok (.iload_n 2, 1) := by decide +kernel
theorem dX6_drift_57 : decode cX6_drift 57 = .ok (.if_icmp .ge 43, 3) := by decide +kernel
theorem dX6_drift_60 : decode cX6_drift 60 = .ok (.iload 5, 2) := by decide +kernel
theorem dX6_drift_62 : decode cX6_drift 62 = .ok (.ldc 245, 2) := by decide +kernel
theorem dX6_drift_64 : decode cX6_drift 64 = .ok (.imul, 1) := by decide +kernel
theorem dX6_drift_65 : decode cX6_drift 65 = .ok (.sipush 12345, 3) := by decide +kernel
theorem dX6_drift_68 : decode cX6_drift 68 = .ok (.iadd, 1) := by decide +kernel
theorem dX6_drift_69 : decode cX6_drift 69 = .ok (.istore 5, 2) := by decide +kernel
theorem dX6_drift_71 : decode cX6_drift 71 = .ok (.iload 4, 2) := by decide +kernel
theorem dX6_drift_73 : decode cX6_drift 73 = .ok (.aload_n 0, 1) := by decide +kernel
theorem dX6_drift_74 : decode cX6_drift 74 = .ok (.getfield 16, 3) := by decide +kernel
theorem dX6_drift_77 : decode cX6_drift 77 = .ok (.iload 5, 2) := by decide +kernel
theorem dX6_drift_79 : decode cX6_drift 79 = .ok (.bipush 16, 2) := by decide +kernel
theorem dX6_drift_81 : decode cX6_drift 81 = .ok (.iushr, 1) := by decide +kernel
theorem dX6_drift_82 : decode cX6_drift 82 = .ok (.sipush 32767, 3) := by decide +kernel
theorem dX6_drift_85 : decode cX6_drift 85 = .ok (.iand, 1) := by decide +kernel
theorem dX6_drift_86 : decode cX6_drift 86 = .ok (.iconst 5, 1) := by decide +kernel
theorem dX6_drift_87 : decode cX6_drift 87 = .ok (.irem, 1) := by decide +kernel
theorem dX6_drift_88 : decode cX6_drift 88 = .ok (.invokevirtual 246, 3) := by decide +kernel
theorem dX6_drift_91 : decode cX6_drift 91 = .ok (.iadd, 1) := by decide +kernel
theorem dX6_drift_92 : decode cX6_drift 92 = .ok (.istore 4, 2) := by decide +kernel
theorem dX6_drift_94 : decode cX6_drift 94 = .ok (.iinc 6 1, 3) := by decide +kernel
theorem dX6_drift_97 : decode cX6_drift 97 = .ok (.goto (-43), 3) := by decide +kernel
theorem dX6_drift_100 : decode cX6_drift 100 = .ok (.iload_n 3, 1) := by decide +kernel
theorem dX6_drift_101 : decode cX6_drift 101 = .ok (.ifCond .ne 8, 3) := by decide +kernel
theorem dX6_drift_104 : decode cX6_drift 104 = .ok (.iload 4, 2) := by decide +kernel
theorem dX6_drift_106 : decode cX6_drift 106 = .ok (.goto 32, 3) := by decide +kernel
theorem dX6_drift_109 : decode cX6_drift 109 = .ok (.aload_n 0, 1) := by decide +kernel
theorem dX6_drift_110 : decode cX6_drift 110 = .ok (.getfield 16, 3) := by decide +kernel
theorem dX6_drift_113 : decode cX6_drift 113 = .ok (.aload_n 0, 1) := by decide +kernel
theorem dX6_drift_114 : decode cX6_drift 114 = .ok (.getfield 16, 3) := by decide +kernel
theorem dX6_drift_117 : decode cX6_drift 117 = .ok (.getfield 110, 3) := by decide +kernel
theorem dX6_drift_120 : decode cX6_drift 120 = .ok (.invokevirtual 106, 3) := by decide +kernel
theorem dX6_drift_123 : decode cX6_drift 123 = .ok (.aload_n 0, 1) := by decide +kernel
theorem dX6_drift_124 : decode cX6_drift 124 = .ok (.getfield 10, 3) := by decide +kernel
theorem dX6_drift_127 : decode cX6_drift 127 = .ok (.aload_n 0, 1) := by decide +kernel
theorem dX6_drift_128 : decode cX6_drift 128 = .ok (.getfield 10, 3) := by decide +kernel
theorem dX6_drift_131 : decode cX6_drift 131 = .ok (.getfield 110, 3) := by decide +kernel
theorem dX6_drift_134 : decode cX6_drift 134 = .ok (.invokevirtual 106, 3) := by decide +kernel
theorem dX6_drift_137 : decode cX6_drift 137 = .ok (.isub, 1) := by decide +kernel
theorem dX6_drift_138 : decode cX6_drift 138 = .ok (.ireturn, 1) := by decide +kernel
def f_X6_drift_L54 (v2 : Int32) (v3 : Int32) (v4 : Int32) (v5 : Int32) (v6 : Int32) (s : St) : Option ((Int32 × Int32 × Int32 × St) ⊕ (Int32 × St)) := if v2 ≤ v6 then (if ¬ v3 = 0 then (cl (f_X2_sumOfLives 14 19 s) (fun x13 s12 => cl (f_X2_sumOfLives 1 6 s12) (fun x15 s14 => some (Sum.inr (((x13 - x15), s14)))))) else (some (Sum.inr ((v4, s))))) else (bd ((v5 * (nI 1103515245)) + (nI 12345)) (fun x16 => cl (f_X2_pass 14 ((((x16).toUInt32 >>> (((nI 16)).toUInt32 &&& Int32.toUInt32 31)).toInt32 &&& (nI 32767)) - (((x16).toUInt32 >>> (((nI 16)).toUInt32 &&& Int32.toUInt32 31)).toInt32 &&& (nI 32767)) / (nI 5) * (nI 5)) s) (fun x18 s17 => bd (v4 + x18) (fun x19 => some (Sum.inl (x19, x16, (v6 + (nI 1)), s17))))))
def f_X6_drift (a1 : Int32) (a2 : Int32) (a3 : Int32) (s : St) : Option (Int32 × St) := cl (f_X6_isWithin a2 (nI 1) (nI 60) s) (fun x2 s1 => if x2 = 0 then (some (((-1), s1))) else (cl (f_X6_isWithin a3 (nI 0) (nI 1) s1) (fun x5 s4 => if ¬ x5 = 0 then (if ¬ (s4.1 1 0) = 0 then (cl (f_X2_copyOf 14 1 s4) (fun x9 s8 => lp (fun q : Int32 × Int32 × Int32 × St => f_X6_drift_L54 a2 a3 q.1 q.2.1 q.2.2.1 q.2.2.2) Fu ((nI 0), a1, (nI 0), s8))) else (some (((-2), s4)))) else (some (((-1), s4))))))
set_option maxHeartbeats 4000000 in
set_option maxRecDepth 100000 in
theorem e_X6_drift_L54 {X : Cx} {Γ : Gm} {r0 : Rb} (hX : Amb X Γ cX6_drift RX6 7 (some .int) 4) {v2 : Int32} {v3 : Int32} {v4 : Int32} {v5 : Int32} {v6 : Int32} {s : St} {t : (Int32 × Int32 × Int32 × St) ⊕ (Int32 × St)} (h : f_X6_drift_L54 v2 v3 v4 v5 v6 s = some t) (hk : (Sum.elim (fun q : Int32 × Int32 × Int32 × St => Zw X Γ 7 r0 q.2.2.2 54 [(0, .ref (gL Γ (0))), (2, .int v2), (3, .int v3), (4, .int q.1), (5, .int q.2.1), (6, .int q.2.2.1)] []) (fun t : Int32 × St => Rt X Γ r0 (some (Value.int t.1), t.2))) t) : Zw X Γ 7 r0 s 54 [(0, .ref (gL Γ (0))), (2, .int v2), (3, .int v3), (4, .int v4), (5, .int v5), (6, .int v6)] [] := by
  unfold f_X6_drift_L54 at h
  refine z_iload hX dX6_drift_54 5 rfl 56 rfl ?_
  refine z_iload_n hX dX6_drift_56 1 rfl 57 rfl ?_
  refine z_icmp_ge hX 100 dX6_drift_57 (by decide) 60 rfl (fun c10 => ?_) (fun c10 => ?_)
  · replace h := br_pos h c10
    refine z_iload_n hX dX6_drift_100 2 rfl 101 rfl ?_
    refine z_if_ne hX 109 dX6_drift_101 (by decide) 104 rfl (fun c11 => ?_) (fun c11 => ?_)
    · replace h := br_pos h c11
      refine z_aload_n hX dX6_drift_109 0 rfl 110 rfl ?_
      refine z_get6 hX (k := 0) (j := 1) (v := .ref (gL Γ (14))) kdc_0 (by decide) rfl dX6_drift_110 fl_X6_16 113 rfl ?_
      refine z_aload_n hX dX6_drift_113 0 rfl 114 rfl ?_
      refine z_get6 hX (k := 0) (j := 1) (v := .ref (gL Γ (14))) kdc_0 (by decide) rfl dX6_drift_114 fl_X6_16 117 rfl ?_
      refine z_get2 hX (k := 14) (j := 7) (v := .ref (gL Γ (19))) kdc_14 (by decide) rfl dX6_drift_117 fl_X6_110 120 rfl ?_
      replace h := cl_elim h
      obtain ⟨x13, s12, hx13, h⟩ := h
      refine z_cV2i hX (b := 14) (As := [.ref (gL Γ (19))]) (c_X2_sumOfLives hx13) lk_X6_106 rfl kdc_14 ds_X2_sumOfLives rfl (by decide) (by decide) (by decide) dX6_drift_120 rfl 123 rfl ?_
      refine z_aload_n hX dX6_drift_123 0 rfl 124 rfl ?_
      refine z_get6 hX (k := 0) (j := 0) (v := .ref (gL Γ (1))) kdc_0 (by decide) rfl dX6_drift_124 fl_X6_10 127 rfl ?_
      refine z_aload_n hX dX6_drift_127 0 rfl 128 rfl ?_
      refine z_get6 hX (k := 0) (j := 0) (v := .ref (gL Γ (1))) kdc_0 (by decide) rfl dX6_drift_128 fl_X6_10 131 rfl ?_
      refine z_get2 hX (k := 1) (j := 7) (v := .ref (gL Γ (6))) kdc_1 (by decide) rfl dX6_drift_131 fl_X6_110 134 rfl ?_
      replace h := cl_elim h
      obtain ⟨x15, s14, hx15, h⟩ := h
      refine z_cV2i hX (b := 1) (As := [.ref (gL Γ (6))]) (c_X2_sumOfLives hx15) lk_X6_106 rfl kdc_1 ds_X2_sumOfLives rfl (by decide) (by decide) (Nat.le_of_ble_eq_true rfl) dX6_drift_134 rfl 137 rfl ?_
      refine z_isub hX dX6_drift_137 138 rfl ?_
      replace h := Option.some.inj h
      subst h
      exact z_iret hX dX6_drift_138 rfl hk
    · replace h := br_neg h c11
      refine z_iload hX dX6_drift_104 3 rfl 106 rfl ?_
      refine z_goto hX 138 dX6_drift_106 (by decide) ?_
      replace h := Option.some.inj h
      subst h
      exact z_iret hX dX6_drift_138 rfl hk
  · replace h := br_neg h c10
    refine z_iload hX dX6_drift_60 4 rfl 62 rfl ?_
    refine z_ldc hX (v := (nI 1103515245)) dX6_drift_62 ml_X6_245 64 rfl ?_
    refine z_imul hX dX6_drift_64 65 rfl ?_
    refine z_sipush hX (v := (nI 12345)) dX6_drift_65 (by decide) 68 rfl ?_
    refine z_iadd hX dX6_drift_68 69 rfl ?_
    replace h := bd_elim h
    obtain ⟨x16, ex16, h⟩ := h
    refine z_nm ex16 ?_
    refine z_istore hX (lv2 := [(5, .int x16), (0, .ref (gL Γ (0))), (2, .int v2), (3, .int v3), (4, .int v4), (6, .int v6)]) dX6_drift_69 (by decide) rfl 71 rfl ?_
    refine z_iload hX dX6_drift_71 4 rfl 73 rfl ?_
    refine z_aload_n hX dX6_drift_73 1 rfl 74 rfl ?_
    refine z_get6 hX (k := 0) (j := 1) (v := .ref (gL Γ (14))) kdc_0 (by decide) rfl dX6_drift_74 fl_X6_16 77 rfl ?_
    refine z_iload hX dX6_drift_77 0 rfl 79 rfl ?_
    refine z_bipush hX (v := (nI 16)) dX6_drift_79 (by decide) 81 rfl ?_
    refine z_iushr hX dX6_drift_81 82 rfl ?_
    refine z_sipush hX (v := (nI 32767)) dX6_drift_82 (by decide) 85 rfl ?_
    refine z_iand hX dX6_drift_85 86 rfl ?_
    refine z_iconst hX (v := (nI 5)) dX6_drift_86 rfl 87 rfl ?_
    refine z_irem hX dX6_drift_87 (by decide) 88 rfl ?_
    replace h := cl_elim h
    obtain ⟨x18, s17, hx18, h⟩ := h
    refine z_cV2i hX (b := 14) (As := [.int (((((x16).toUInt32 >>> (((nI 16)).toUInt32 &&& Int32.toUInt32 31)).toInt32 &&& (nI 32767)) - (((x16).toUInt32 >>> (((nI 16)).toUInt32 &&& Int32.toUInt32 31)).toInt32 &&& (nI 32767)) / (nI 5) * (nI 5)))]) (c_X2_pass hx18) lk_X6_246 rfl kdc_14 ds_X2_pass rfl (by decide) (by decide) (Nat.le_of_ble_eq_true rfl) dX6_drift_88 rfl 91 rfl ?_
    refine z_iadd hX dX6_drift_91 92 rfl ?_
    replace h := bd_elim h
    obtain ⟨x19, ex19, h⟩ := h
    refine z_nm ex19 ?_
    refine z_istore hX (lv2 := [(4, .int x19), (5, .int x16), (0, .ref (gL Γ (0))), (2, .int v2), (3, .int v3), (6, .int v6)]) dX6_drift_92 (by decide) rfl 94 rfl ?_
    refine z_iinc hX (v := (v6 + (nI 1))) (lv2 := [(6, .int ((v6 + (nI 1)))), (4, .int x19), (5, .int x16), (0, .ref (gL Γ (0))), (2, .int v2), (3, .int v3)]) dX6_drift_94 5 rfl rfl (by decide) rfl 97 rfl ?_
    refine z_goto hX 54 dX6_drift_97 (by decide) ?_
    replace h := Option.some.inj h
    subst h
    exact z_sub [3, 4, 5, 1, 2, 0] rfl hk
set_option maxHeartbeats 4000000 in
set_option maxRecDepth 100000 in
theorem e_X6_drift {X : Cx} {Γ : Gm} {r0 : Rb} (hX : Amb X Γ cX6_drift RX6 7 (some .int) 4) {a1 : Int32} {a2 : Int32} {a3 : Int32} {s : St} {t : Int32 × St} (h : f_X6_drift a1 a2 a3 s = some t) (hk : (fun t : Int32 × St => Rt X Γ r0 (some (Value.int t.1), t.2)) t) : Zw X Γ 7 r0 s 0 [(0, .ref (gL Γ (0))), (1, .int a1), (2, .int a2), (3, .int a3)] [] := by
  unfold f_X6_drift at h
  refine z_iload_n hX dX6_drift_0 2 rfl 1 rfl ?_
  refine z_iconst hX (v := (nI 1)) dX6_drift_1 rfl 2 rfl ?_
  refine z_bipush hX (v := (nI 60)) dX6_drift_2 (by decide) 4 rfl ?_
  replace h := cl_elim h
  obtain ⟨x2, s1, hx2, h⟩ := h
  refine z_cSi hX (As := [.int a2, .int ((nI 1)), .int ((nI 60))]) (c_X6_isWithin hx2) lk_X6_62 ds_X6_isWithin rfl (by decide) (by decide) (by decide) dX6_drift_4 rfl 7 rfl ?_
  refine z_if_eq hX 19 dX6_drift_7 (by decide) 10 rfl (fun c3 => ?_) (fun c3 => ?_)
  · replace h := br_pos h c3
    refine z_iconst hX (v := (-1)) dX6_drift_19 rfl 20 rfl ?_
    replace h := Option.some.inj h
    subst h
    exact z_iret hX dX6_drift_20 rfl hk
  · replace h := br_neg h c3
    refine z_iload_n hX dX6_drift_10 3 rfl 11 rfl ?_
    refine z_iconst hX (v := (nI 0)) dX6_drift_11 rfl 12 rfl ?_
    refine z_iconst hX (v := (nI 1)) dX6_drift_12 rfl 13 rfl ?_
    replace h := cl_elim h
    obtain ⟨x5, s4, hx5, h⟩ := h
    refine z_cSi hX (As := [.int a3, .int ((nI 0)), .int ((nI 1))]) (c_X6_isWithin hx5) lk_X6_62 ds_X6_isWithin rfl (by decide) (by decide) (by decide) dX6_drift_13 rfl 16 rfl ?_
    refine z_if_ne hX 21 dX6_drift_16 (by decide) 19 rfl (fun c6 => ?_) (fun c6 => ?_)
    · replace h := br_pos h c6
      refine z_aload_n hX dX6_drift_21 0 rfl 22 rfl ?_
      refine z_get6 hX (k := 0) (j := 0) (v := .ref (gL Γ (1))) kdc_0 (by decide) rfl dX6_drift_22 fl_X6_10 25 rfl ?_
      refine z_get2 hX (k := 1) (j := 0) (v := .int ((s4.1 1 0))) kdc_1 (by decide) rfl dX6_drift_25 fl_X6_94 28 rfl ?_
      refine z_if_ne hX 34 dX6_drift_28 (by decide) 31 rfl (fun c7 => ?_) (fun c7 => ?_)
      · replace h := br_pos h c7
        refine z_aload_n hX dX6_drift_34 0 rfl 35 rfl ?_
        refine z_get6 hX (k := 0) (j := 1) (v := .ref (gL Γ (14))) kdc_0 (by decide) rfl dX6_drift_35 fl_X6_16 38 rfl ?_
        refine z_aload_n hX dX6_drift_38 0 rfl 39 rfl ?_
        refine z_get6 hX (k := 0) (j := 0) (v := .ref (gL Γ (1))) kdc_0 (by decide) rfl dX6_drift_39 fl_X6_10 42 rfl ?_
        replace h := cl_elim h
        obtain ⟨x9, s8, hx9, h⟩ := h
        refine z_cV2v hX (b := 14) (As := [.ref (gL Γ (1))]) (c_X2_copyOf hx9) lk_X6_83 rfl kdc_14 ds_X2_copyOf rfl (by decide) (by decide) (by decide) dX6_drift_42 rfl 45 rfl ?_
        refine z_iconst hX (v := (nI 0)) dX6_drift_45 rfl 46 rfl ?_
        refine z_istore hX (lv2 := [(4, .int ((nI 0))), (0, .ref (gL Γ (0))), (1, .int a1), (2, .int a2), (3, .int a3)]) dX6_drift_46 (by decide) rfl 48 rfl ?_
        refine z_iload_n hX dX6_drift_48 2 rfl 49 rfl ?_
        refine z_istore hX (lv2 := [(5, .int a1), (4, .int ((nI 0))), (0, .ref (gL Γ (0))), (1, .int a1), (2, .int a2), (3, .int a3)]) dX6_drift_49 (by decide) rfl 51 rfl ?_
        refine z_iconst hX (v := (nI 0)) dX6_drift_51 rfl 52 rfl ?_
        refine z_istore hX (lv2 := [(6, .int ((nI 0))), (5, .int a1), (4, .int ((nI 0))), (0, .ref (gL Γ (0))), (1, .int a1), (2, .int a2), (3, .int a3)]) dX6_drift_52 (by decide) rfl 54 rfl ?_
        exact z_sub [3, 5, 6, 2, 1, 0] rfl (lp_ok (Z := fun q : Int32 × Int32 × Int32 × St => Zw X Γ 7 r0 q.2.2.2 54 [(0, .ref (gL Γ (0))), (2, .int a2), (3, .int a3), (4, .int q.1), (5, .int q.2.1), (6, .int q.2.2.1)] []) (fun q t h hk => e_X6_drift_L54 hX h hk) Fu _ _ h hk)
      · replace h := br_neg h c7
        refine z_bipush hX (v := (-2)) dX6_drift_31 (by decide) 33 rfl ?_
        replace h := Option.some.inj h
        subst h
        exact z_iret hX dX6_drift_33 rfl hk
    · replace h := br_neg h c6
      refine z_iconst hX (v := (-1)) dX6_drift_19 rfl 20 rfl ?_
      replace h := Option.some.inj h
      subst h
      exact z_iret hX dX6_drift_20 rfl hk
theorem c_X6_drift {lc : Launch} {Γ : Gm} {a1 : Int32} {a2 : Int32} {a3 : Int32} {s s2 : St} {v : Int32} (h : f_X6_drift a1 a2 a3 s = some (v, s2)) : Ct lc Γ yX6_drift cX6_drift 7 (some .int) 4 [.ref (gL Γ (0)), .int a1, .int a2, .int a3] s (some (.int v), s2) := Ct.of (by decide +kernel) (Nat.le_of_ble_eq_true rfl) (fun X hl hX => e_X6_drift hX h rfl)
theorem dX6_keep_0 : decode cX6_keep 0 = .ok (.iload_n 1, 1) := by decide +kernel
theorem dX6_keep_1 : decode cX6_keep 1 = .ok (.iconst 0, 1) := by decide +kernel
theorem dX6_keep_2 : decode cX6_keep 2 = .ok (.iconst 1, 1) := by decide +kernel
theorem dX6_keep_3 : decode cX6_keep 3 = .ok (.invokestatic 62, 3) := by decide +kernel
theorem dX6_keep_6 : decode cX6_keep 6 = .ok (.ifCond .ne 5, 3) := by decide +kernel
theorem dX6_keep_9 : decode cX6_keep 9 = .ok (.iconst (-1), 1) := by decide +kernel
theorem dX6_keep_10 : decode cX6_keep 10 = .ok (.ireturn, 1) := by decide +kernel
theorem dX6_keep_11 : decode cX6_keep 11 = .ok (.aload_n 0, 1) := by decide +kernel
theorem dX6_keep_12 : decode cX6_keep 12 = .ok (.getfield 28, 3) := by decide +kernel
theorem dX6_keep_15 : decode cX6_keep 15 = .ok (.iload_n 1, 1) := by decide +kernel
theorem dX6_keep_16 : decode cX6_keep 16 = .ok (.aaload, 1) := by decide +kernel
theorem dX6_keep_17 : decode cX6_keep 17 = .ok (.astore_n 2, 1) := by decide +kernel
theorem dX6_keep_18 : decode cX6_keep 18 = .ok (.aload_n 2, 1) := by decide +kernel
theorem dX6_keep_19 : decode cX6_keep 19 = .ok (.getfield 90, 3) := by decide +kernel
theorem dX6_keep_22 : decode cX6_keep 22 = .ok (.ifCond .eq 7, 3) := by decide +kernel
theorem dX6_keep_25 : decode cX6_keep 25 = .ok (.iconst 1, 1) := by decide +kernel
theorem dX6_keep_26 : decode cX6_keep 26 = .ok (.goto 4, 3) := by decide +kernel
theorem dX6_keep_29 : decode cX6_keep 29 = .ok (.iconst 0, 1) := by decide +kernel
theorem dX6_keep_30 : decode cX6_keep 30 = .ok (.istore_n 3, 1) := by decide +kernel
theorem dX6_keep_31 : decode cX6_keep 31 = .ok (.aload_n 2, 1) := by decide +kernel
theorem dX6_keep_32 : decode cX6_keep 32 = .ok (.iconst 1, 1) := by decide +kernel
theorem dX6_keep_33 : decode cX6_keep 33 = .ok (.putfield 90, 3) := by decide +kernel
theorem dX6_keep_36 : decode cX6_keep 36 = .ok (.aload_n 2, 1) := by decide +kernel
theorem dX6_keep_37 : decode cX6_keep 37 = .ok (.getfield 249, 3) := by decide +kernel
theorem dX6_keep_40 : decode cX6_keep 40 = .ok (.aload_n 0, 1) := by decide +kernel
theorem dX6_keep_41 : decode cX6_keep 41 = .ok (.getfield 10, 3) := by decide +kernel
theorem dX6_keep_44 : decode cX6_keep 44 = .ok (.invokevirtual 83, 3) := by decide +kernel
theorem dX6_keep_47 : decode cX6_keep 47 = .ok (.aload_n 2, 1) := by decide +kernel
theorem dX6_keep_48 : decode cX6_keep 48 = .ok (.getfield 252, 3) := by decide +kernel
theorem dX6_keep_51 : decode cX6_keep 51 = .ok (.aload_n 0, 1) := by decide +kernel
theorem dX6_keep_52 : decode cX6_keep 52 = .ok (.getfield 22, 3) := by decide +kernel
theorem dX6_keep_55 : decode cX6_keep 55 = .ok (.invokevirtual 253, 3) := by decide +kernel
theorem dX6_keep_58 : decode cX6_keep 58 = .ok (.iload_n 3, 1) := by decide +kernel
theorem dX6_keep_59 : decode cX6_keep 59 = .ok (.ireturn, 1) := by decide +kernel
def f_X6_keep_J30 (v2 : Nat) (k0 : Int32) (s : St) : Option (Int32 × St) := if kd (v2) = 0 then bd (wI s v2 0 (nI 1)) (fun s9 => if kd (v2 + 1) = 2 then cl (f_X2_copyOf (v2 + 1) 1 s9) (fun x11 s10 => if kd (v2 + 14) = 3 then cl (f_X3_copyOf (v2 + 14) 27 s10) (fun x14 s13 => some ((k0, s13))) else none) else none) else none
def f_X6_keep (a1 : Int32) (s : St) : Option (Int32 × St) := cl (f_X6_isWithin a1 (nI 0) (nI 1) s) (fun x2 s1 => if ¬ x2 = 0 then (if inb a1 (ln 32) = true then bd (143 + 19 * (a1).toNatClampNeg) (fun y5 => if kd (y5) = 0 then if (s1.1 y5 0) = 0 then (f_X6_keep_J30 y5 (nI 0) s1) else (f_X6_keep_J30 y5 (nI 1) s1) else none) else none) else (some (((-1), s1))))
set_option maxHeartbeats 4000000 in
set_option maxRecDepth 100000 in
theorem e_X6_keep_J30 {X : Cx} {Γ : Gm} {r0 : Rb} (hX : Amb X Γ cX6_keep RX6 4 (some .int) 2) {v2 : Nat} {k0 : Int32} {s : St} {t : Int32 × St} (h : f_X6_keep_J30 v2 k0 s = some t) (hk : (fun t : Int32 × St => Rt X Γ r0 (some (Value.int t.1), t.2)) t) : Zw X Γ 4 r0 s 30 [(0, .ref (gL Γ (0))), (2, .ref (gL Γ (v2)))] [.int k0] := by
  unfold f_X6_keep_J30 at h
  refine z_istore_n hX (lv2 := [(3, .int k0), (0, .ref (gL Γ (0))), (2, .ref (gL Γ (v2)))]) dX6_keep_30 (by decide) rfl 31 rfl ?_
  refine z_aload_n hX dX6_keep_31 2 rfl 32 rfl ?_
  refine z_iconst hX (v := (nI 1)) dX6_keep_32 rfl 33 rfl ?_
  replace h := gd_elim h
  obtain ⟨g8, h⟩ := h
  replace h := bd_elim h
  obtain ⟨s9, es9, h⟩ := h
  refine z_putZ0 hX (k := v2) (j := 0) g8 (by decide) rfl (by decide +kernel) (by decide) (pwI_0_0 ..) dX6_keep_33 fl_X6_90 es9 36 rfl ?_
  refine z_aload_n hX dX6_keep_36 2 rfl 37 rfl ?_
  refine z_get0 hX (k := v2) (j := 1) (v := .ref (gL Γ (v2 + 1))) g8 (by decide) rfl dX6_keep_37 fl_X6_249 40 rfl ?_
  refine z_aload_n hX dX6_keep_40 1 rfl 41 rfl ?_
  refine z_get6 hX (k := 0) (j := 0) (v := .ref (gL Γ (1))) kdc_0 (by decide) rfl dX6_keep_41 fl_X6_10 44 rfl ?_
  replace h := gd_elim h
  obtain ⟨g12, h⟩ := h
  replace h := cl_elim h
  obtain ⟨x11, s10, hx11, h⟩ := h
  refine z_cV2v hX (b := v2 + 1) (As := [.ref (gL Γ (1))]) (c_X2_copyOf hx11) lk_X6_83 rfl g12 ds_X2_copyOf rfl (by decide) (by decide) (by decide) dX6_keep_44 rfl 47 rfl ?_
  refine z_aload_n hX dX6_keep_47 2 rfl 48 rfl ?_
  refine z_get0 hX (k := v2) (j := 2) (v := .ref (gL Γ (v2 + 14))) g8 (by decide) rfl dX6_keep_48 fl_X6_252 51 rfl ?_
  refine z_aload_n hX dX6_keep_51 1 rfl 52 rfl ?_
  refine z_get6 hX (k := 0) (j := 2) (v := .ref (gL Γ (27))) kdc_0 (by decide) rfl dX6_keep_52 fl_X6_22 55 rfl ?_
  replace h := gd_elim h
  obtain ⟨g15, h⟩ := h
  replace h := cl_elim h
  obtain ⟨x14, s13, hx14, h⟩ := h
  refine z_cV3v hX (b := v2 + 14) (As := [.ref (gL Γ (27))]) (c_X3_copyOf hx14) lk_X6_253 rfl g15 ds_X3_copyOf rfl (by decide) (by decide) (by decide) dX6_keep_55 rfl 58 rfl ?_
  refine z_iload_n hX dX6_keep_58 0 rfl 59 rfl ?_
  replace h := Option.some.inj h
  subst h
  exact z_iret hX dX6_keep_59 rfl hk
set_option maxHeartbeats 4000000 in
set_option maxRecDepth 100000 in
theorem e_X6_keep {X : Cx} {Γ : Gm} {r0 : Rb} (hX : Amb X Γ cX6_keep RX6 4 (some .int) 2) {a1 : Int32} {s : St} {t : Int32 × St} (h : f_X6_keep a1 s = some t) (hk : (fun t : Int32 × St => Rt X Γ r0 (some (Value.int t.1), t.2)) t) : Zw X Γ 4 r0 s 0 [(0, .ref (gL Γ (0))), (1, .int a1)] [] := by
  unfold f_X6_keep at h
  refine z_iload_n hX dX6_keep_0 1 rfl 1 rfl ?_
  refine z_iconst hX (v := (nI 0)) dX6_keep_1 rfl 2 rfl ?_
  refine z_iconst hX (v := (nI 1)) dX6_keep_2 rfl 3 rfl ?_
  replace h := cl_elim h
  obtain ⟨x2, s1, hx2, h⟩ := h
  refine z_cSi hX (As := [.int a1, .int ((nI 0)), .int ((nI 1))]) (c_X6_isWithin hx2) lk_X6_62 ds_X6_isWithin rfl (by decide) (by decide) (by decide) dX6_keep_3 rfl 6 rfl ?_
  refine z_if_ne hX 11 dX6_keep_6 (by decide) 9 rfl (fun c3 => ?_) (fun c3 => ?_)
  · replace h := br_pos h c3
    refine z_aload_n hX dX6_keep_11 0 rfl 12 rfl ?_
    refine z_get6 hX (k := 0) (j := 3) (v := .ref (gL Γ (32))) kdc_0 (by decide) rfl dX6_keep_12 fl_X6_28 15 rfl ?_
    refine z_iload_n hX dX6_keep_15 1 rfl 16 rfl ?_
    replace h := gd_elim h
    obtain ⟨g4, h⟩ := h
    refine z_aald11 hX kdc_32 (inb_vp g4) dX6_keep_16 17 rfl ?_
    replace h := bd_elim h
    obtain ⟨y5, ey5, h⟩ := h
    refine z_nmR ey5 ?_
    refine z_astore_n hX (lv2 := [(2, .ref (gL Γ (y5))), (0, .ref (gL Γ (0))), (1, .int a1)]) dX6_keep_17 (by decide) rfl 18 rfl ?_
    refine z_aload_n hX dX6_keep_18 0 rfl 19 rfl ?_
    replace h := gd_elim h
    obtain ⟨g6, h⟩ := h
    refine z_get0 hX (k := y5) (j := 0) (v := .int ((s1.1 y5 0))) g6 (by decide) rfl dX6_keep_19 fl_X6_90 22 rfl ?_
    refine z_if_eq hX 29 dX6_keep_22 (by decide) 25 rfl (fun c7 => ?_) (fun c7 => ?_)
    · replace h := br_pos h c7
      refine z_iconst hX (v := (nI 0)) dX6_keep_29 rfl 30 rfl ?_
      exact z_sub [1, 0] rfl (e_X6_keep_J30 hX h hk)
    · replace h := br_neg h c7
      refine z_iconst hX (v := (nI 1)) dX6_keep_25 rfl 26 rfl ?_
      refine z_goto hX 30 dX6_keep_26 (by decide) ?_
      exact z_sub [1, 0] rfl (e_X6_keep_J30 hX h hk)
  · replace h := br_neg h c3
    refine z_iconst hX (v := (-1)) dX6_keep_9 rfl 10 rfl ?_
    replace h := Option.some.inj h
    subst h
    exact z_iret hX dX6_keep_10 rfl hk
theorem c_X6_keep {lc : Launch} {Γ : Gm} {a1 : Int32} {s s2 : St} {v : Int32} (h : f_X6_keep a1 s = some (v, s2)) : Ct lc Γ yX6_keep cX6_keep 4 (some .int) 2 [.ref (gL Γ (0)), .int a1] s (some (.int v), s2) := Ct.of (by decide +kernel) (Nat.le_of_ble_eq_true rfl) (fun X hl hX => e_X6_keep hX h rfl)
theorem dX6_back_0 : decode cX6_back 0 = .ok (.iload_n 1, 1) := by decide +kernel
theorem dX6_back_1 : decode cX6_back 1 = .ok (.iconst 0, 1) := by decide +kernel
theorem dX6_back_2 : decode cX6_back 2 = .ok (.iconst 1, 1) := by decide +kernel
theorem dX6_back_3 : decode cX6_back 3 = .ok (.invokestatic 62, 3) := by decide +kernel
theorem dX6_back_6 : decode cX6_back 6 = .ok (.ifCond .ne 5, 3) := by decide +kernel
theorem dX6_back_9 : decode cX6_back 9 = .ok (.iconst (-1), 1) := by decide +kernel
theorem dX6_back_10 : decode cX6_back 10 = .ok (.ireturn, 1) := by decide +kernel
theorem dX6_back_11 : decode cX6_back 11 = .ok (.aload_n 0, 1) := by decide +kernel
theorem dX6_back_12 : decode cX6_back 12 = .ok (.getfield 28, 3) := by decide +kernel
theorem dX6_back_15 : decode cX6_back 15 = .ok (.iload_n 1, 1) := by decide +kernel
theorem dX6_back_16 : decode cX6_back 16 = .ok (.aaload, 1) := by decide +kernel
theorem dX6_back_17 : decode cX6_back 17 = .ok (.astore_n 2, 1) := by decide +kernel
theorem dX6_back_18 : decode cX6_back 18 = .ok (.aload_n 2, 1) := by decide +kernel
theorem dX6_back_19 : decode cX6_back 19 = .ok (.getfield 90, 3) := by decide +kernel
theorem dX6_back_22 : decode cX6_back 22 = .ok (.ifCond .ne 6, 3) := by decide +kernel
theorem dX6_back_25 : decode cX6_back 25 = .ok (.bipush (-2), 2) := by decide +kernel
theorem dX6_back_27 : decode cX6_back 27 = .ok (.ireturn, 1) := by decide +kernel
theorem dX6_back_28 : decode cX6_back 28 = .ok (.aload_n 0, 1) := by decide +kernel
theorem dX6_back_29 : decode cX6_back 29 = .ok (.getfield 10, 3) := by decide +kernel
theorem dX6_back_32 : decode cX6_back 32 = .ok (.aload_n 2, 1) := by decide +kernel
theorem dX6_back_33 : decode cX6_back 33 = .ok (.getfield 249, 3) := by decide +kernel
theorem dX6_back_36 : decode cX6_back 36 = .ok (.invokevirtual 83, 3) := by decide +kernel
theorem dX6_back_39 : decode cX6_back 39 = .ok (.aload_n 0, 1) := by decide +kernel
theorem dX6_back_40 : decode cX6_back 40 = .ok (.getfield 22, 3) := by decide +kernel
theorem dX6_back_43 : decode cX6_back 43 = .ok (.aload_n 2, 1) := by decide +kernel
theorem dX6_back_44 : decode cX6_back 44 = .ok (.getfield 252, 3) := by decide +kernel
theorem dX6_back_47 : decode cX6_back 47 = .ok (.invokevirtual 253, 3) := by decide +kernel
theorem dX6_back_50 : decode cX6_back 50 = .ok (.aload_n 0, 1) := by decide +kernel
theorem dX6_back_51 : decode cX6_back 51 = .ok (.getfield 10, 3) := by decide +kernel
theorem dX6_back_54 : decode cX6_back 54 = .ok (.getfield 100, 3) := by decide +kernel
theorem dX6_back_57 : decode cX6_back 57 = .ok (.ireturn, 1) := by decide +kernel
def f_X6_back (a1 : Int32) (s : St) : Option (Int32 × St) := cl (f_X6_isWithin a1 (nI 0) (nI 1) s) (fun x2 s1 => if ¬ x2 = 0 then (if inb a1 (ln 32) = true then bd (143 + 19 * (a1).toNatClampNeg) (fun y5 => if kd (y5) = 0 then if ¬ (s1.1 y5 0) = 0 then (cl (f_X2_copyOf 1 (y5 + 1) s1) (fun x9 s8 => cl (f_X3_copyOf 27 (y5 + 14) s8) (fun x11 s10 => some (((s10.1 1 2), s10))))) else (some (((-2), s1))) else none) else none) else (some (((-1), s1))))
set_option maxHeartbeats 4000000 in
set_option maxRecDepth 100000 in
theorem e_X6_back {X : Cx} {Γ : Gm} {r0 : Rb} (hX : Amb X Γ cX6_back RX6 3 (some .int) 2) {a1 : Int32} {s : St} {t : Int32 × St} (h : f_X6_back a1 s = some t) (hk : (fun t : Int32 × St => Rt X Γ r0 (some (Value.int t.1), t.2)) t) : Zw X Γ 3 r0 s 0 [(0, .ref (gL Γ (0))), (1, .int a1)] [] := by
  unfold f_X6_back at h
  refine z_iload_n hX dX6_back_0 1 rfl 1 rfl ?_
  refine z_iconst hX (v := (nI 0)) dX6_back_1 rfl 2 rfl ?_
  refine z_iconst hX (v := (nI 1)) dX6_back_2 rfl 3 rfl ?_
  replace h := cl_elim h
  obtain ⟨x2, s1, hx2, h⟩ := h
  refine z_cSi hX (As := [.int a1, .int ((nI 0)), .int ((nI 1))]) (c_X6_isWithin hx2) lk_X6_62 ds_X6_isWithin rfl (by decide) (by decide) (by decide) dX6_back_3 rfl 6 rfl ?_
  refine z_if_ne hX 11 dX6_back_6 (by decide) 9 rfl (fun c3 => ?_) (fun c3 => ?_)
  · replace h := br_pos h c3
    refine z_aload_n hX dX6_back_11 0 rfl 12 rfl ?_
    refine z_get6 hX (k := 0) (j := 3) (v := .ref (gL Γ (32))) kdc_0 (by decide) rfl dX6_back_12 fl_X6_28 15 rfl ?_
    refine z_iload_n hX dX6_back_15 1 rfl 16 rfl ?_
    replace h := gd_elim h
    obtain ⟨g4, h⟩ := h
    refine z_aald11 hX kdc_32 (inb_vp g4) dX6_back_16 17 rfl ?_
    replace h := bd_elim h
    obtain ⟨y5, ey5, h⟩ := h
    refine z_nmR ey5 ?_
    refine z_astore_n hX (lv2 := [(2, .ref (gL Γ (y5))), (0, .ref (gL Γ (0))), (1, .int a1)]) dX6_back_17 (by decide) rfl 18 rfl ?_
    refine z_aload_n hX dX6_back_18 0 rfl 19 rfl ?_
    replace h := gd_elim h
    obtain ⟨g6, h⟩ := h
    refine z_get0 hX (k := y5) (j := 0) (v := .int ((s1.1 y5 0))) g6 (by decide) rfl dX6_back_19 fl_X6_90 22 rfl ?_
    refine z_if_ne hX 28 dX6_back_22 (by decide) 25 rfl (fun c7 => ?_) (fun c7 => ?_)
    · replace h := br_pos h c7
      refine z_aload_n hX dX6_back_28 1 rfl 29 rfl ?_
      refine z_get6 hX (k := 0) (j := 0) (v := .ref (gL Γ (1))) kdc_0 (by decide) rfl dX6_back_29 fl_X6_10 32 rfl ?_
      refine z_aload_n hX dX6_back_32 0 rfl 33 rfl ?_
      refine z_get0 hX (k := y5) (j := 1) (v := .ref (gL Γ (y5 + 1))) g6 (by decide) rfl dX6_back_33 fl_X6_249 36 rfl ?_
      replace h := cl_elim h
      obtain ⟨x9, s8, hx9, h⟩ := h
      refine z_cV2v hX (b := 1) (As := [.ref (gL Γ (y5 + 1))]) (c_X2_copyOf hx9) lk_X6_83 rfl kdc_1 ds_X2_copyOf rfl (by decide) (by decide) (by decide) dX6_back_36 rfl 39 rfl ?_
      refine z_aload_n hX dX6_back_39 1 rfl 40 rfl ?_
      refine z_get6 hX (k := 0) (j := 2) (v := .ref (gL Γ (27))) kdc_0 (by decide) rfl dX6_back_40 fl_X6_22 43 rfl ?_
      refine z_aload_n hX dX6_back_43 0 rfl 44 rfl ?_
      refine z_get0 hX (k := y5) (j := 2) (v := .ref (gL Γ (y5 + 14))) g6 (by decide) rfl dX6_back_44 fl_X6_252 47 rfl ?_
      replace h := cl_elim h
      obtain ⟨x11, s10, hx11, h⟩ := h
      refine z_cV3v hX (b := 27) (As := [.ref (gL Γ (y5 + 14))]) (c_X3_copyOf hx11) lk_X6_253 rfl kdc_27 ds_X3_copyOf rfl (by decide) (by decide) (by decide) dX6_back_47 rfl 50 rfl ?_
      refine z_aload_n hX dX6_back_50 1 rfl 51 rfl ?_
      refine z_get6 hX (k := 0) (j := 0) (v := .ref (gL Γ (1))) kdc_0 (by decide) rfl dX6_back_51 fl_X6_10 54 rfl ?_
      refine z_get2 hX (k := 1) (j := 2) (v := .int ((s10.1 1 2))) kdc_1 (by decide) rfl dX6_back_54 fl_X6_100 57 rfl ?_
      replace h := Option.some.inj h
      subst h
      exact z_iret hX dX6_back_57 rfl hk
    · replace h := br_neg h c7
      refine z_bipush hX (v := (-2)) dX6_back_25 (by decide) 27 rfl ?_
      replace h := Option.some.inj h
      subst h
      exact z_iret hX dX6_back_27 rfl hk
  · replace h := br_neg h c3
    refine z_iconst hX (v := (-1)) dX6_back_9 rfl 10 rfl ?_
    replace h := Option.some.inj h
    subst h
    exact z_iret hX dX6_back_10 rfl hk
theorem c_X6_back {lc : Launch} {Γ : Gm} {a1 : Int32} {s s2 : St} {v : Int32} (h : f_X6_back a1 s = some (v, s2)) : Ct lc Γ yX6_back cX6_back 3 (some .int) 2 [.ref (gL Γ (0)), .int a1] s (some (.int v), s2) := Ct.of (by decide +kernel) (Nat.le_of_ble_eq_true rfl) (fun X hl hX => e_X6_back hX h rfl)
theorem dX6_sheet_0 : decode cX6_sheet 0 = .ok (.iload_n 1, 1) := by decide +kernel
theorem dX6_sheet_1 : decode cX6_sheet 1 = .ok (.invokestatic 256, 3) := by decide +kernel
theorem dX6_sheet_4 : decode cX6_sheet 4 = .ok (.ifCond .eq 16, 3) := by decide +kernel
theorem dX6_sheet_7 : decode cX6_sheet 7 = .ok (.iload_n 2, 1) := by decide +kernel
theorem dX6_sheet_8 : decode cX6_sheet 8 = .ok (.invokestatic 259, 3) := by decide +kernel
theorem dX6_sheet_11 : decode cX6_sheet 11 = .ok (.ifCond .eq 9, 3) := by decide +kernel
theorem dX6_sheet_14 : decode cX6_sheet 14 = .ok (.iload_n 3, 1) := by decide +kernel
theorem dX6_sheet_15 : decode cX6_sheet 15 = .ok (.bipush 40, 2) := by decide +kernel
theorem dX6_sheet_17 : decode cX6_sheet 17 = .ok (.if_icmp .le 5, 3) := by decide +kernel
theorem dX6_sheet_20 : decode cX6_sheet 20 = .ok (.iconst (-1), 1) := by decide +kernel
theorem dX6_sheet_21 : decode cX6_sheet 21 = .ok (.ireturn, 1) := by decide +kernel
theorem dX6_sheet_22 : decode cX6_sheet 22 = .ok (.iload_n 3, 1) := by decide +kernel
theorem dX6_sheet_23 : decode cX6_sheet 23 = .ok (.ifCond .ge 6, 3) := by decide +kernel
theorem dX6_sheet_26 : decode cX6_sheet 26 = .ok (.bipush (-14), 2) := by decide +kernel
theorem dX6_sheet_28 : decode cX6_sheet 28 = .ok (.ireturn, 1) := by decide +kernel
theorem dX6_sheet_29 : decode cX6_sheet 29 = .ok (.aload_n 0, 1) := by decide +kernel
theorem dX6_sheet_30 : decode cX6_sheet 30 = .ok (.getfield 41, 3) := by decide +kernel
theorem dX6_sheet_33 : decode cX6_sheet 33 = .ok (.iload_n 1, 1) := by decide +kernel
theorem dX6_sheet_34 : decode cX6_sheet 34 = .ok (.aaload, 1) := by decide +kernel
theorem dX6_sheet_35 : decode cX6_sheet 35 = .ok (.iload_n 2, 1) := by decide +kernel
theorem dX6_sheet_36 : decode cX6_sheet 36 = .ok (.iload_n 3, 1) := by decide +kernel
theorem dX6_sheet_37 : decode cX6_sheet 37 = .ok (.invokevirtual 262, 3) := by decide +kernel
theorem dX6_sheet_40 : decode cX6_sheet 40 = .ok (.iconst 1, 1) := by decide +kernel
theorem dX6_sheet_41 : decode cX6_sheet 41 = .ok (.ireturn, 1) := by decide +kernel
def f_X6_sheet (a1 : Int32) (a2 : Int32) (a3 : Int32) (s : St) : Option (Int32 × St) := cl (f_X6_isSheet a1 s) (fun x2 s1 => if x2 = 0 then (some (((-1), s1))) else (cl (f_X6_isLane a2 s1) (fun x5 s4 => if x5 = 0 then (some (((-1), s4))) else (if a3 ≤ (nI 40) then (if 0 ≤ a3 then (if inb a1 (ln 35) = true then bd (181 + 2 * (a1).toNatClampNeg) (fun y10 => if kd (y10) = 4 then cl (f_X4_renew y10 a2 a3 s4) (fun x12 s11 => some (((nI 1), s11))) else none) else none) else (some (((-14), s4)))) else (some (((-1), s4)))))))
set_option maxHeartbeats 4000000 in
set_option maxRecDepth 100000 in
theorem e_X6_sheet {X : Cx} {Γ : Gm} {r0 : Rb} (hX : Amb X Γ cX6_sheet RX6 4 (some .int) 2) {a1 : Int32} {a2 : Int32} {a3 : Int32} {s : St} {t : Int32 × St} (h : f_X6_sheet a1 a2 a3 s = some t) (hk : (fun t : Int32 × St => Rt X Γ r0 (some (Value.int t.1), t.2)) t) : Zw X Γ 4 r0 s 0 [(0, .ref (gL Γ (0))), (1, .int a1), (2, .int a2), (3, .int a3)] [] := by
  unfold f_X6_sheet at h
  refine z_iload_n hX dX6_sheet_0 1 rfl 1 rfl ?_
  replace h := cl_elim h
  obtain ⟨x2, s1, hx2, h⟩ := h
  refine z_cSi hX (As := [.int a1]) (c_X6_isSheet hx2) lk_X6_256 ds_X6_isSheet rfl (by decide) (by decide) (by decide) dX6_sheet_1 rfl 4 rfl ?_
  refine z_if_eq hX 20 dX6_sheet_4 (by decide) 7 rfl (fun c3 => ?_) (fun c3 => ?_)
  · replace h := br_pos h c3
    refine z_iconst hX (v := (-1)) dX6_sheet_20 rfl 21 rfl ?_
    replace h := Option.some.inj h
    subst h
    exact z_iret hX dX6_sheet_21 rfl hk
  · replace h := br_neg h c3
    refine z_iload_n hX dX6_sheet_7 2 rfl 8 rfl ?_
    replace h := cl_elim h
    obtain ⟨x5, s4, hx5, h⟩ := h
    refine z_cSi hX (As := [.int a2]) (c_X6_isLane hx5) lk_X6_259 ds_X6_isLane rfl (by decide) (by decide) (by decide) dX6_sheet_8 rfl 11 rfl ?_
    refine z_if_eq hX 20 dX6_sheet_11 (by decide) 14 rfl (fun c6 => ?_) (fun c6 => ?_)
    · replace h := br_pos h c6
      refine z_iconst hX (v := (-1)) dX6_sheet_20 rfl 21 rfl ?_
      replace h := Option.some.inj h
      subst h
      exact z_iret hX dX6_sheet_21 rfl hk
    · replace h := br_neg h c6
      refine z_iload_n hX dX6_sheet_14 3 rfl 15 rfl ?_
      refine z_bipush hX (v := (nI 40)) dX6_sheet_15 (by decide) 17 rfl ?_
      refine z_icmp_le hX 22 dX6_sheet_17 (by decide) 20 rfl (fun c7 => ?_) (fun c7 => ?_)
      · replace h := br_pos h c7
        refine z_iload_n hX dX6_sheet_22 3 rfl 23 rfl ?_
        refine z_if_ge hX 29 dX6_sheet_23 (by decide) 26 rfl (fun c8 => ?_) (fun c8 => ?_)
        · replace h := br_pos h c8
          refine z_aload_n hX dX6_sheet_29 0 rfl 30 rfl ?_
          refine z_get6 hX (k := 0) (j := 5) (v := .ref (gL Γ (35))) kdc_0 (by decide) rfl dX6_sheet_30 fl_X6_41 33 rfl ?_
          refine z_iload_n hX dX6_sheet_33 1 rfl 34 rfl ?_
          replace h := gd_elim h
          obtain ⟨g9, h⟩ := h
          refine z_aald13 hX kdc_35 (inb_vp g9) dX6_sheet_34 35 rfl ?_
          replace h := bd_elim h
          obtain ⟨y10, ey10, h⟩ := h
          refine z_nmR ey10 ?_
          refine z_iload_n hX dX6_sheet_35 2 rfl 36 rfl ?_
          refine z_iload_n hX dX6_sheet_36 3 rfl 37 rfl ?_
          replace h := gd_elim h
          obtain ⟨g13, h⟩ := h
          replace h := cl_elim h
          obtain ⟨x12, s11, hx12, h⟩ := h
          refine z_cV4v hX (b := y10) (As := [.int a2, .int a3]) (c_X4_renew hx12) lk_X6_262 rfl g13 ds_X4_renew rfl (by decide) (by decide) (by decide) dX6_sheet_37 rfl 40 rfl ?_
          refine z_iconst hX (v := (nI 1)) dX6_sheet_40 rfl 41 rfl ?_
          replace h := Option.some.inj h
          subst h
          exact z_iret hX dX6_sheet_41 rfl hk
        · replace h := br_neg h c8
          refine z_bipush hX (v := (-14)) dX6_sheet_26 (by decide) 28 rfl ?_
          replace h := Option.some.inj h
          subst h
          exact z_iret hX dX6_sheet_28 rfl hk
      · replace h := br_neg h c7
        refine z_iconst hX (v := (-1)) dX6_sheet_20 rfl 21 rfl ?_
        replace h := Option.some.inj h
        subst h
        exact z_iret hX dX6_sheet_21 rfl hk
theorem c_X6_sheet {lc : Launch} {Γ : Gm} {a1 : Int32} {a2 : Int32} {a3 : Int32} {s s2 : St} {v : Int32} (h : f_X6_sheet a1 a2 a3 s = some (v, s2)) : Ct lc Γ yX6_sheet cX6_sheet 4 (some .int) 2 [.ref (gL Γ (0)), .int a1, .int a2, .int a3] s (some (.int v), s2) := Ct.of (by decide +kernel) (Nat.le_of_ble_eq_true rfl) (fun X hl hX => e_X6_sheet hX h rfl)
theorem dX6_lay_0 : decode cX6_lay 0 = .ok (.iload_n 1, 1) := by decide +kernel
theorem dX6_lay_1 : decode cX6_lay 1 = .ok (.invokestatic 256, 3) := by decide +kernel
theorem dX6_lay_4 : decode cX6_lay 4 = .ok (.ifCond .ne 5, 3) := by decide +kernel
theorem dX6_lay_7 : decode cX6_lay 7 = .ok (.iconst (-1), 1) := by decide +kernel
theorem dX6_lay_8 : decode cX6_lay 8 = .ok (.ireturn, 1) := by decide +kernel
theorem dX6_lay_9 : decode cX6_lay 9 = .ok (.aload_n 0, 1) := by decide +kernel
theorem dX6_lay_10 : decode cX6_lay 10 = .ok (.getfield 41, 3) := by decide +kernel
theorem dX6_lay_13 : decode cX6_lay 13 = .ok (.iload_n 1, 1) := by decide +kernel
theorem dX6_lay_14 : decode cX6_lay 14 = .ok (.aaload, 1) := by decide +kernel
theorem dX6_lay_15 : decode cX6_lay 15 = .ok (.astore 4, 2) := by decide +kernel
theorem dX6_lay_17 : decode cX6_lay 17 = .ok (.aload 4, 2) := by decide +kernel
theorem dX6_lay_19 : decode cX6_lay 19 = .ok (.aload 4, 2) := by decide +kernel
theorem dX6_lay_21 : decode cX6_lay 21 = .ok (.getfield 266, 3) := by decide +kernel
theorem dX6_lay_24 : decode cX6_lay 24 = .ok (.iload_n 2, 1) := by decide +kernel
theorem dX6_lay_25 : decode cX6_lay 25 = .ok (.invokevirtual 269, 3) := by decide +kernel
theorem dX6_lay_28 : decode cX6_lay 28 = .ok (.istore 5, 2) := by decide +kernel
theorem dX6_lay_30 : decode cX6_lay 30 = .ok (.iload 5, 2) := by decide +kernel
theorem dX6_lay_32 : decode cX6_lay 32 = .ok (.ifCond .eq 9, 3) := by decide +kernel
theorem dX6_lay_35 : decode cX6_lay 35 = .ok (.bipush (-10), 2) := by decide +kernel
theorem dX6_lay_37 : decode cX6_lay 37 = .ok (.iload 5, 2) := by decide +kernel
theorem dX6_lay_39 : decode cX6_lay 39 = .ok (.isub, 1) := by decide +kernel
theorem dX6_lay_40 : decode cX6_lay 40 = .ok (.ireturn, 1) := by decide +kernel
theorem dX6_lay_41 : decode cX6_lay 41 = .ok (.aload 4, 2) := by decide +kernel
theorem dX6_lay_43 : decode cX6_lay 43 = .ok (.iload_n 2, 1) := by decide +kernel
theorem dX6_lay_44 : decode cX6_lay 44 = .ok (.iload_n 3, 1) := by decide +kernel
theorem dX6_lay_45 : decode cX6_lay 45 = .ok (.invokevirtual 272, 3) := by decide +kernel
theorem dX6_lay_48 : decode cX6_lay 48 = .ok (.iconst 1, 1) := by decide +kernel
theorem dX6_lay_49 : decode cX6_lay 49 = .ok (.ireturn, 1) := by decide +kernel
def f_X6_lay (a1 : Int32) (a2 : Int32) (a3 : Int32) (s : St) : Option (Int32 × St) := cl (f_X6_isSheet a1 s) (fun x2 s1 => if ¬ x2 = 0 then (if inb a1 (ln 35) = true then bd (181 + 2 * (a1).toNatClampNeg) (fun y5 => if kd (y5) = 4 then cl (f_X4_faultAt y5 (s1.1 y5 0) a2 s1) (fun x8 s7 => if x8 = 0 then (cl (f_X4_put y5 a2 a3 s7) (fun x11 s10 => some (((nI 1), s10)))) else (some ((((-10) - x8), s7)))) else none) else none) else (some (((-1), s1))))
set_option maxHeartbeats 4000000 in
set_option maxRecDepth 100000 in
theorem e_X6_lay {X : Cx} {Γ : Gm} {r0 : Rb} (hX : Amb X Γ cX6_lay RX6 6 (some .int) 2) {a1 : Int32} {a2 : Int32} {a3 : Int32} {s : St} {t : Int32 × St} (h : f_X6_lay a1 a2 a3 s = some t) (hk : (fun t : Int32 × St => Rt X Γ r0 (some (Value.int t.1), t.2)) t) : Zw X Γ 6 r0 s 0 [(0, .ref (gL Γ (0))), (1, .int a1), (2, .int a2), (3, .int a3)] [] := by
  unfold f_X6_lay at h
  refine z_iload_n hX dX6_lay_0 1 rfl 1 rfl ?_
  replace h := cl_elim h
  obtain ⟨x2, s1, hx2, h⟩ := h
  refine z_cSi hX (As := [.int a1]) (c_X6_isSheet hx2) lk_X6_256 ds_X6_isSheet rfl (by decide) (by decide) (by decide) dX6_lay_1 rfl 4 rfl ?_
  refine z_if_ne hX 9 dX6_lay_4 (by decide) 7 rfl (fun c3 => ?_) (fun c3 => ?_)
  · replace h := br_pos h c3
    refine z_aload_n hX dX6_lay_9 0 rfl 10 rfl ?_
    refine z_get6 hX (k := 0) (j := 5) (v := .ref (gL Γ (35))) kdc_0 (by decide) rfl dX6_lay_10 fl_X6_41 13 rfl ?_
    refine z_iload_n hX dX6_lay_13 1 rfl 14 rfl ?_
    replace h := gd_elim h
    obtain ⟨g4, h⟩ := h
    refine z_aald13 hX kdc_35 (inb_vp g4) dX6_lay_14 15 rfl ?_
    replace h := bd_elim h
    obtain ⟨y5, ey5, h⟩ := h
    refine z_nmR ey5 ?_
    refine z_astore hX (lv2 := [(4, .ref (gL Γ (y5))), (0, .ref (gL Γ (0))), (1, .int a1), (2, .int a2), (3, .int a3)]) dX6_lay_15 (by decide) rfl 17 rfl ?_
    refine z_aload hX dX6_lay_17 0 rfl 19 rfl ?_
    refine z_aload hX dX6_lay_19 0 rfl 21 rfl ?_
    replace h := gd_elim h
    obtain ⟨g6, h⟩ := h
    refine z_get4 hX (k := y5) (j := 0) (v := .int ((s1.1 y5 0))) g6 (by decide) rfl dX6_lay_21 fl_X6_266 24 rfl ?_
    refine z_iload_n hX dX6_lay_24 3 rfl 25 rfl ?_
    replace h := cl_elim h
    obtain ⟨x8, s7, hx8, h⟩ := h
    refine z_cV4i hX (b := y5) (As := [.int ((s1.1 y5 0)), .int a2]) (c_X4_faultAt hx8) lk_X6_269 rfl g6 ds_X4_faultAt rfl (by decide) (by decide) (by decide) dX6_lay_25 rfl 28 rfl ?_
    refine z_istore hX (lv2 := [(5, .int x8), (4, .ref (gL Γ (y5))), (0, .ref (gL Γ (0))), (1, .int a1), (2, .int a2), (3, .int a3)]) dX6_lay_28 (by decide) rfl 30 rfl ?_
    refine z_iload hX dX6_lay_30 0 rfl 32 rfl ?_
    refine z_if_eq hX 41 dX6_lay_32 (by decide) 35 rfl (fun c9 => ?_) (fun c9 => ?_)
    · replace h := br_pos h c9
      refine z_aload hX dX6_lay_41 1 rfl 43 rfl ?_
      refine z_iload_n hX dX6_lay_43 4 rfl 44 rfl ?_
      refine z_iload_n hX dX6_lay_44 5 rfl 45 rfl ?_
      replace h := cl_elim h
      obtain ⟨x11, s10, hx11, h⟩ := h
      refine z_cV4v hX (b := y5) (As := [.int a2, .int a3]) (c_X4_put hx11) lk_X6_272 rfl g6 ds_X4_put rfl (by decide) (by decide) (by decide) dX6_lay_45 rfl 48 rfl ?_
      refine z_iconst hX (v := (nI 1)) dX6_lay_48 rfl 49 rfl ?_
      replace h := Option.some.inj h
      subst h
      exact z_iret hX dX6_lay_49 rfl hk
    · replace h := br_neg h c9
      refine z_bipush hX (v := (-10)) dX6_lay_35 (by decide) 37 rfl ?_
      refine z_iload hX dX6_lay_37 0 rfl 39 rfl ?_
      refine z_isub hX dX6_lay_39 40 rfl ?_
      replace h := Option.some.inj h
      subst h
      exact z_iret hX dX6_lay_40 rfl hk
  · replace h := br_neg h c3
    refine z_iconst hX (v := (-1)) dX6_lay_7 rfl 8 rfl ?_
    replace h := Option.some.inj h
    subst h
    exact z_iret hX dX6_lay_8 rfl hk
theorem c_X6_lay {lc : Launch} {Γ : Gm} {a1 : Int32} {a2 : Int32} {a3 : Int32} {s s2 : St} {v : Int32} (h : f_X6_lay a1 a2 a3 s = some (v, s2)) : Ct lc Γ yX6_lay cX6_lay 6 (some .int) 2 [.ref (gL Γ (0)), .int a1, .int a2, .int a3] s (some (.int v), s2) := Ct.of (by decide +kernel) (Nat.le_of_ble_eq_true rfl) (fun X hl hX => e_X6_lay hX h rfl)
theorem dX6_isRefused_0 : decode cX6_isRefused 0 = .ok (.aload_n 0, 1) := by decide +kernel
theorem dX6_isRefused_1 : decode cX6_isRefused 1 = .ok (.getfield 10, 3) := by decide +kernel
theorem dX6_isRefused_4 : decode cX6_isRefused 4 = .ok (.aload_n 1, 1) := by decide +kernel
theorem dX6_isRefused_5 : decode cX6_isRefused 5 = .ok (.getfield 281, 3) := by decide +kernel
theorem dX6_isRefused_8 : decode cX6_isRefused 8 = .ok (.iload_n 2, 1) := by decide +kernel
theorem dX6_isRefused_9 : decode cX6_isRefused 9 = .ok (.iaload, 1) := by decide +kernel
theorem dX6_isRefused_10 : decode cX6_isRefused 10 = .ok (.invokevirtual 139, 3) := by decide +kernel
theorem dX6_isRefused_13 : decode cX6_isRefused 13 = .ok (.ifCond .eq 24, 3) := by decide +kernel
theorem dX6_isRefused_16 : decode cX6_isRefused 16 = .ok (.aload_n 1, 1) := by decide +kernel
theorem dX6_isRefused_17 : decode cX6_isRefused 17 = .ok (.getfield 281, 3) := by decide +kernel
theorem dX6_isRefused_20 : decode cX6_isRefused 20 = .ok (.iload_n 2, 1) := by decide +kernel
theorem dX6_isRefused_21 : decode cX6_isRefused 21 = .ok (.iconst 1, 1) := by decide +kernel
theorem dX6_isRefused_22 : decode cX6_isRefused 22 = .ok (.iadd, 1) := by decide +kernel
theorem dX6_isRefused_23 : decode cX6_isRefused 23 = .ok (.iaload, 1) := by decide +kernel
theorem dX6_isRefused_24 : decode cX6_isRefused 24 = .ok (.invokestatic 174, 3) := by decide +kernel
theorem dX6_isRefused_27 : decode cX6_isRefused 27 = .ok (.ifCond .eq 10, 3) := by decide +kernel
theorem dX6_isRefused_30 : decode cX6_isRefused 30 = .ok (.iload_n 3, 1) := by decide +kernel
theorem dX6_isRefused_31 : decode cX6_isRefused 31 = .ok (.sipush 999, 3) := by decide +kernel
theorem dX6_isRefused_34 : decode cX6_isRefused 34 = .ok (.if_icmp .lt 7, 3) := by decide +kernel
theorem dX6_isRefused_37 : decode cX6_isRefused 37 = .ok (.iconst 1, 1) := by decide +kernel
theorem dX6_isRefused_38 : decode cX6_isRefused 38 = .ok (.goto 4, 3) := by decide +kernel
theorem dX6_isRefused_41 : decode cX6_isRefused 41 = .ok (.iconst 0, 1) := by decide +kernel
theorem dX6_isRefused_42 : decode cX6_isRefused 42 = .ok (.ireturn, 1) := by decide +kernel
def f_X6_isRefused (a1 : Nat) (a2 : Int32) (a3 : Int32) (s : St) : Option (Int32 × St) := if kd (a1) = 4 then if inb a2 (lnI (a1 + 1)) = true then cl (f_X2_isSitter 1 (s.1 (a1 + 1) (a2).toNatClampNeg) s) (fun x4 s3 => if x4 = 0 then (some (((nI 1), s3))) else (if inb (a2 + (nI 1)) (lnI (a1 + 1)) = true then cl (f_X6_isCell (s3.1 (a1 + 1) ((a2 + (nI 1))).toNatClampNeg) s3) (fun x8 s7 => if x8 = 0 then (some (((nI 1), s7))) else (if a3 < (nI 999) then (some (((nI 0), s7))) else (some (((nI 1), s7))))) else none)) else none else none
set_option maxHeartbeats 4000000 in
set_option maxRecDepth 100000 in
theorem e_X6_isRefused {X : Cx} {Γ : Gm} {r0 : Rb} (hX : Amb X Γ cX6_isRefused RX6 4 (some .boolean) 2) {a1 : Nat} {a2 : Int32} {a3 : Int32} {s : St} {t : Int32 × St} (h : f_X6_isRefused a1 a2 a3 s = some t) (hk : (fun t : Int32 × St => Rt X Γ r0 (some (Value.int t.1), t.2)) t) : Zw X Γ 4 r0 s 0 [(0, .ref (gL Γ (0))), (1, .ref (gL Γ (a1))), (2, .int a2), (3, .int a3)] [] := by
  unfold f_X6_isRefused at h
  refine z_aload_n hX dX6_isRefused_0 0 rfl 1 rfl ?_
  refine z_get6 hX (k := 0) (j := 0) (v := .ref (gL Γ (1))) kdc_0 (by decide) rfl dX6_isRefused_1 fl_X6_10 4 rfl ?_
  refine z_aload_n hX dX6_isRefused_4 1 rfl 5 rfl ?_
  replace h := gd_elim h
  obtain ⟨g1, h⟩ := h
  refine z_get4 hX (k := a1) (j := 2) (v := .ref (gL Γ (a1 + 1))) g1 (by decide) rfl dX6_isRefused_5 fl_X6_281 8 rfl ?_
  refine z_iload_n hX dX6_isRefused_8 2 rfl 9 rfl ?_
  replace h := gd_elim h
  obtain ⟨g2, h⟩ := h
  refine z_iald hX (inb_vp g2) dX6_isRefused_9 10 rfl ?_
  replace h := cl_elim h
  obtain ⟨x4, s3, hx4, h⟩ := h
  refine z_cV2i hX (b := 1) (As := [.int ((s.1 (a1 + 1) (a2).toNatClampNeg))]) (c_X2_isSitter hx4) lk_X6_139 rfl kdc_1 ds_X2_isSitter rfl (by decide) (by decide) (by decide) dX6_isRefused_10 rfl 13 rfl ?_
  refine z_if_eq hX 37 dX6_isRefused_13 (by decide) 16 rfl (fun c5 => ?_) (fun c5 => ?_)
  · replace h := br_pos h c5
    refine z_iconst hX (v := (nI 1)) dX6_isRefused_37 rfl 38 rfl ?_
    refine z_goto hX 42 dX6_isRefused_38 (by decide) ?_
    replace h := Option.some.inj h
    subst h
    exact z_zret hX dX6_isRefused_42 rfl (by decide) hk
  · replace h := br_neg h c5
    refine z_aload_n hX dX6_isRefused_16 1 rfl 17 rfl ?_
    refine z_get4 hX (k := a1) (j := 2) (v := .ref (gL Γ (a1 + 1))) g1 (by decide) rfl dX6_isRefused_17 fl_X6_281 20 rfl ?_
    refine z_iload_n hX dX6_isRefused_20 2 rfl 21 rfl ?_
    refine z_iconst hX (v := (nI 1)) dX6_isRefused_21 rfl 22 rfl ?_
    refine z_iadd hX dX6_isRefused_22 23 rfl ?_
    replace h := gd_elim h
    obtain ⟨g6, h⟩ := h
    refine z_iald hX (inb_vp g6) dX6_isRefused_23 24 rfl ?_
    replace h := cl_elim h
    obtain ⟨x8, s7, hx8, h⟩ := h
    refine z_cSi hX (As := [.int ((s3.1 (a1 + 1) ((a2 + (nI 1))).toNatClampNeg))]) (c_X6_isCell hx8) lk_X6_174 ds_X6_isCell rfl (by decide) (by decide) (by decide) dX6_isRefused_24 rfl 27 rfl ?_
    refine z_if_eq hX 37 dX6_isRefused_27 (by decide) 30 rfl (fun c9 => ?_) (fun c9 => ?_)
    · replace h := br_pos h c9
      refine z_iconst hX (v := (nI 1)) dX6_isRefused_37 rfl 38 rfl ?_
      refine z_goto hX 42 dX6_isRefused_38 (by decide) ?_
      replace h := Option.some.inj h
      subst h
      exact z_zret hX dX6_isRefused_42 rfl (by decide) hk
    · replace h := br_neg h c9
      refine z_iload_n hX dX6_isRefused_30 3 rfl 31 rfl ?_
      refine z_sipush hX (v := (nI 999)) dX6_isRefused_31 (by decide) 34 rfl ?_
      refine z_icmp_lt hX 41 dX6_isRefused_34 (by decide) 37 rfl (fun c10 => ?_) (fun c10 => ?_)
      · replace h := br_pos h c10
        refine z_iconst hX (v := (nI 0)) dX6_isRefused_41 rfl 42 rfl ?_
        replace h := Option.some.inj h
        subst h
        exact z_zret hX dX6_isRefused_42 rfl (by decide) hk
      · replace h := br_neg h c10
        refine z_iconst hX (v := (nI 1)) dX6_isRefused_37 rfl 38 rfl ?_
        refine z_goto hX 42 dX6_isRefused_38 (by decide) ?_
        replace h := Option.some.inj h
        subst h
        exact z_zret hX dX6_isRefused_42 rfl (by decide) hk
theorem c_X6_isRefused {lc : Launch} {Γ : Gm} {a1 : Nat} {a2 : Int32} {a3 : Int32} {s s2 : St} {v : Int32} (h : f_X6_isRefused a1 a2 a3 s = some (v, s2)) : Ct lc Γ yX6_isRefused cX6_isRefused 4 (some .boolean) 2 [.ref (gL Γ (0)), .ref (gL Γ (a1)), .int a2, .int a3] s (some (.int v), s2) := Ct.of (by decide +kernel) (Nat.le_of_ble_eq_true rfl) (fun X hl hX => e_X6_isRefused hX h rfl)
theorem dX6_read_0 : decode cX6_read 0 = .ok (.iload_n 1, 1) := by decide +kernel
theorem dX6_read_1 : decode cX6_read 1 = .ok (.invokestatic 256, 3) := by decide +kernel
theorem dX6_read_4 : decode cX6_read 4 = .ok (.ifCond .eq 21, 3) := by decide +kernel
theorem dX6_read_7 : decode cX6_read 7 = .ok (.iload_n 2, 1) := by decide +kernel
theorem dX6_read_8 : decode cX6_read 8 = .ok (.invokestatic 259, 3) := by decide +kernel
theorem dX6_read_11 : decode cX6_read 11 = .ok (.ifCond .eq 14, 3) := by decide +kernel
theorem dX6_read_14 : decode cX6_read 14 = .ok (.iload 4, 2) := by decide +kernel
theorem dX6_read_16 : decode cX6_read 16 = .ok (.iconst 0, 1) := by decide +kernel
theorem dX6_read_17 : decode cX6_read 17 = .ok (.bipush 20, 2) := by decide +kernel
theorem dX6_read_19 : decode cX6_read 19 = .ok (.invokestatic 62, 3) := by decide +kernel
theorem dX6_read_22 : decode cX6_read 22 = .ok (.ifCond .ne 5, 3) := by decide +kernel
theorem dX6_read_25 : decode cX6_read 25 = .ok (.iconst (-1), 1) := by decide +kernel
theorem dX6_read_26 : decode cX6_read 26 = .ok (.ireturn, 1) := by decide +kernel
theorem dX6_read_27 : decode cX6_read 27 = .ok (.aload_n 0, 1) := by decide +kernel
theorem dX6_read_28 : decode cX6_read 28 = .ok (.getfield 41, 3) := by decide +kernel
theorem dX6_read_31 : decode cX6_read 31 = .ok (.iload_n 1, 1) := by decide +kernel
theorem dX6_read_32 : decode cX6_read 32 = .ok (.aaload, 1) := by decide +kernel
theorem dX6_read_33 : decode cX6_read 33 = .ok (.astore 5, 2) := by decide +kernel
theorem dX6_read_35 : decode cX6_read 35 = .ok (.iconst 0, 1) := by decide +kernel
theorem dX6_read_36 : decode cX6_read 36 = .ok (.istore 6, 2) := by decide +kernel
theorem dX6_read_38 : decode cX6_read 38 = .ok (.iconst 0, 1) := by decide +kernel
theorem dX6_read_39 : decode cX6_read 39 = .ok (.istore 7, 2) := by decide +kernel
theorem dX6_read_41 : decode cX6_read 41 = .ok (.iconst 0, 1) := by decide +kernel
theorem dX6_read_42 : decode cX6_read 42 = .ok (.istore 8, 2) := by decide +kernel
theorem dX6_read_44 : decode cX6_read 44 = .ok (.iload 8, 2) := by decide +kernel
theorem dX6_read_46 : decode cX6_read 46 = .ok (.iload 4, 2) := by decide +kernel
theorem dX6_read_48 : decode cX6_read 48 = .ok (.if_icmp .ge 67, 3) := by decide +kernel
theorem dX6_read_51 : decode cX6_read 51 = .ok (.iload 7, 2) := by decide +kernel
theorem dX6_read_53 : decode cX6_read 53 = .ok (.ifCond .ne 62, 3) := by decide +kernel
theorem dX6_read_56 : decode cX6_read 56 = .ok (.aload 5, 2) := by decide +kernel
theorem dX6_read_58 : decode cX6_read 58 = .ok (.iload_n 2, 1) := by decide +kernel
theorem dX6_read_59 : decode cX6_read 59 = .ok (.iload_n 3, 1) := by decide +kernel
theorem dX6_read_60 : decode cX6_read 60 = .ok (.iconst 2, 1) := by decide +kernel
theorem dX6_read_61 : decode cX6_read 61 = .ok (.iload 8, 2) := by decide +kernel
theorem dX6_read_63 : decode cX6_read 63 = .ok (.imul, 1) := by decide +kernel
theorem dX6_read_64 : decode cX6_read 64 = .ok (.iadd, 1) := by decide +kernel
theorem dX6_read_65 : decode cX6_read 65 = .ok (.invokevirtual 274, 3) := by decide +kernel
theorem dX6_read_68 : decode cX6_read 68 = .ok (.istore 7, 2) := by decide +kernel
theorem dX6_read_70 : decode cX6_read 70 = .ok (.iload 7, 2) := by decide +kernel
theorem dX6_read_72 : decode cX6_read 72 = .ok (.ifCond .ne 37, 3) := by decide +kernel
theorem dX6_read_75 : decode cX6_read 75 = .ok (.aload_n 0, 1) := by decide +kernel
theorem dX6_read_76 : decode cX6_read 76 = .ok (.aload 5, 2) := by decide +kernel
theorem dX6_read_78 : decode cX6_read 78 = .ok (.iload_n 3, 1) := by decide +kernel
theorem dX6_read_79 : decode cX6_read 79 = .ok (.iconst 2, 1) := by decide +kernel
theorem dX6_read_80 : decode cX6_read 80 = .ok (.iload 8, 2) := by decide +kernel
theorem dX6_read_82 : decode cX6_read 82 = .ok (.imul, 1) := by decide +kernel
theorem dX6_read_83 : decode cX6_read 83 = .ok (.iadd, 1) := by decide +kernel
theorem dX6_read_84 : decode cX6_read 84 = .ok (.aload_n 0, 1) := by decide +kernel
theorem dX6_read_85 : decode cX6_read 85 = .ok (.getfield 10, 3) := by decide +kernel
theorem dX6_read_88 : decode cX6_read 88 = .ok (.getfield 100, 3) := by decide +kernel
theorem dX6_read_91 : decode cX6_read 91 = .ok (.iload 8, 2) := by decide +kernel
theorem dX6_read_93 : decode cX6_read 93 = .ok (.iadd, 1) := by decide +kernel
theorem dX6_read_94 : decode cX6_read 94 = .ok (.invokevirtual 277, 3) := by decide +kernel
theorem dX6_read_97 : decode cX6_read 97 = .ok (.ifCond .eq 9, 3) := by decide +kernel
theorem dX6_read_100 : decode cX6_read 100 = .ok (.bipush (-20), 2) := by decide +kernel
theorem dX6_read_102 : decode cX6_read 102 = .ok (.iload 8, 2) := by decide +kernel
theorem dX6_read_104 : decode cX6_read 104 = .ok (.isub, 1) := by decide +kernel
theorem dX6_read_105 : decode cX6_read 105 = .ok (.ireturn, 1) := by decide +kernel
theorem dX6_read_106 : decode cX6_read 106 = .ok (.iinc 6 1, 3) := by decide +kernel
theorem dX6_read_109 : decode cX6_read 109 = .ok (.iinc 8 1, 3) := by decide +kernel
theorem dX6_read_112 : decode cX6_read 112 = .ok (.goto (-68), 3) := by decide +kernel
theorem dX6_read_115 : decode cX6_read 115 = .ok (.iconst 0, 1) := by decide +kernel
theorem dX6_read_116 : decode cX6_read 116 = .ok (.istore 8, 2) := by decide +kernel
theorem dX6_read_118 : decode cX6_read 118 = .ok (.iload 8, 2) := by decide +kernel
theorem dX6_read_120 : decode cX6_read 120 = .ok (.iload 6, 2) := by decide +kernel
theorem dX6_read_122 : decode cX6_read 122 = .ok (.if_icmp .ge 55, 3) := by decide +kernel
theorem dX6_read_125 : decode cX6_read 125 = .ok (.aload_n 0, 1) := by decide +kernel
theorem dX6_read_126 : decode cX6_read 126 = .ok (.getfield 10, 3) := by decide +kernel
theorem dX6_read_129 : decode cX6_read 129 = .ok (.getfield 142, 3) := by decide +kernel
theorem dX6_read_132 : decode cX6_read 132 = .ok (.aload 5, 2) := by decide +kernel
theorem dX6_read_134 : decode cX6_read 134 = .ok (.getfield 281, 3) := by decide +kernel
theorem dX6_read_137 : decode cX6_read 137 = .ok (.iload_n 3, 1) := by decide +kernel
theorem dX6_read_138 : decode cX6_read 138 = .ok (.iconst 2, 1) := by decide +kernel
theorem dX6_read_139 : decode cX6_read 139 = .ok (.iload 8, 2) := by decide +kernel
theorem dX6_read_141 : decode cX6_read 141 = .ok (.imul, 1) := by decide +kernel
theorem dX6_read_142 : decode cX6_read 142 = .ok (.iadd, 1) := by decide +kernel
theorem dX6_read_143 : decode cX6_read 143 = .ok (.iaload, 1) := by decide +kernel
theorem dX6_read_144 : decode cX6_read 144 = .ok (.aload 5, 2) := by decide +kernel
theorem dX6_read_146 : decode cX6_read 146 = .ok (.getfield 281, 3) := by decide +kernel
theorem dX6_read_149 : decode cX6_read 149 = .ok (.iload_n 3, 1) := by decide +kernel
theorem dX6_read_150 : decode cX6_read 150 = .ok (.iconst 2, 1) := by decide +kernel
theorem dX6_read_151 : decode cX6_read 151 = .ok (.iload 8, 2) := by decide +kernel
theorem dX6_read_153 : decode cX6_read 153 = .ok (.imul, 1) := by decide +kernel
theorem dX6_read_154 : decode cX6_read 154 = .ok (.iadd, 1) := by decide +kernel
theorem dX6_read_155 : decode cX6_read 155 = .ok (.iconst 1, 1) := by decide +kernel
theorem dX6_read_156 : decode cX6_read 156 = .ok (.iadd, 1) := by decide +kernel
theorem dX6_read_157 : decode cX6_read 157 = .ok (.iaload, 1) := by decide +kernel
theorem dX6_read_158 : decode cX6_read 158 = .ok (.invokestatic 161, 3) := by decide +kernel
theorem dX6_read_161 : decode cX6_read 161 = .ok (.iastore, 1) := by decide +kernel
theorem dX6_read_162 : decode cX6_read 162 = .ok (.aload_n 0, 1) := by decide +kernel
theorem dX6_read_163 : decode cX6_read 163 = .ok (.getfield 10, 3) := by decide +kernel
theorem dX6_read_166 : decode cX6_read 166 = .ok (.iconst 1, 1) := by decide +kernel
theorem dX6_read_167 : decode cX6_read 167 = .ok (.invokevirtual 180, 3) := by decide +kernel
theorem dX6_read_170 : decode cX6_read 170 = .ok (.pop, 1) := by decide +kernel
theorem dX6_read_171 : decode cX6_read 171 = .ok (.iinc 8 1, 3) := by decide +kernel
theorem dX6_read_174 : decode cX6_read 174 = .ok (.goto (-56), 3) := by decide +kernel
theorem dX6_read_177 : decode cX6_read 177 = .ok (.aload_n 0, 1) := by decide +kernel
theorem dX6_read_178 : decode cX6_read 178 = .ok (.iload 7, 2) := by decide +kernel
theorem dX6_read_180 : decode cX6_read 180 = .ok (.putfield 56, 3) := by decide +kernel
theorem dX6_read_183 : decode cX6_read 183 = .ok (.iload 6, 2) := by decide +kernel
theorem dX6_read_185 : decode cX6_read 185 = .ok (.ireturn, 1) := by decide +kernel
def f_X6_read_L118 (v3 : Int32) (v5 : Nat) (v6 : Int32) (v7 : Int32) (v8 : Int32) (s : St) : Option ((Int32 × St) ⊕ (Int32 × St)) := if v6 ≤ v8 then (bd (wI s 0 8 v7) (fun s22 => some (Sum.inr ((v6, s22))))) else (if kd (v5) = 4 then if inb (v3 + ((nI 2) * v8)) (lnI (v5 + 1)) = true then if inb ((v3 + ((nI 2) * v8)) + (nI 1)) (lnI (v5 + 1)) = true then cl (f_X6_cellOf (s.1 (v5 + 1) (((v3 + ((nI 2) * v8)) + (nI 1))).toNatClampNeg) s) (fun x27 s26 => if inb (s.1 (v5 + 1) ((v3 + ((nI 2) * v8))).toNatClampNeg) (lnI 9) = true then bd (wI s26 9 ((s.1 (v5 + 1) ((v3 + ((nI 2) * v8))).toNatClampNeg)).toNatClampNeg x27) (fun s29 => cl (f_X2_goOn 1 (nI 1) s29) (fun x31 s30 => some (Sum.inl ((v8 + (nI 1)), s30)))) else none) else none else none else none)
def f_X6_read_L44 (v2 : Int32) (v3 : Int32) (v4 : Int32) (v5 : Nat) (v6 : Int32) (v7 : Int32) (v8 : Int32) (s : St) : Option ((Int32 × Int32 × Int32 × St) ⊕ (Int32 × St)) := if v4 ≤ v8 then (ox (lp (fun q : Int32 × St => f_X6_read_L118 v3 v5 v6 v7 q.1 q.2) Fu ((nI 0), s))) else (if ¬ v7 = 0 then (ox (lp (fun q : Int32 × St => f_X6_read_L118 v3 v5 v6 v7 q.1 q.2) Fu ((nI 0), s))) else (if kd (v5) = 4 then cl (f_X4_faultOfPair v5 v2 (v3 + ((nI 2) * v8)) s) (fun x15 s14 => if ¬ x15 = 0 then (some (Sum.inl (v6, x15, (v8 + (nI 1)), s14))) else (cl (f_X6_isRefused v5 (v3 + ((nI 2) * v8)) ((s14.1 1 2) + v8) s14) (fun x19 s18 => if x19 = 0 then (some (Sum.inl ((v6 + (nI 1)), x15, (v8 + (nI 1)), s18))) else (some (Sum.inr ((((-20) - v8), s18))))))) else none))
def f_X6_read (a1 : Int32) (a2 : Int32) (a3 : Int32) (a4 : Int32) (s : St) : Option (Int32 × St) := cl (f_X6_isSheet a1 s) (fun x2 s1 => if x2 = 0 then (some (((-1), s1))) else (cl (f_X6_isLane a2 s1) (fun x5 s4 => if x5 = 0 then (some (((-1), s4))) else (cl (f_X6_isWithin a4 (nI 0) (nI 20) s4) (fun x8 s7 => if ¬ x8 = 0 then (if inb a1 (ln 35) = true then bd (181 + 2 * (a1).toNatClampNeg) (fun y11 => lp (fun q : Int32 × Int32 × Int32 × St => f_X6_read_L44 a2 a3 a4 y11 q.1 q.2.1 q.2.2.1 q.2.2.2) Fu ((nI 0), (nI 0), (nI 0), s7)) else none) else (some (((-1), s7))))))))
set_option maxHeartbeats 4000000 in
set_option maxRecDepth 100000 in
theorem e_X6_read_L118 {X : Cx} {Γ : Gm} {r0 : Rb} (hX : Amb X Γ cX6_read RX6 9 (some .int) 5) {v3 : Int32} {v5 : Nat} {v6 : Int32} {v7 : Int32} {v8 : Int32} {s : St} {t : (Int32 × St) ⊕ (Int32 × St)} (h : f_X6_read_L118 v3 v5 v6 v7 v8 s = some t) (hk : (Sum.elim (fun q : Int32 × St => Zw X Γ 9 r0 q.2 118 [(0, .ref (gL Γ (0))), (3, .int v3), (5, .ref (gL Γ (v5))), (6, .int v6), (7, .int v7), (8, .int q.1)] []) (fun t : Int32 × St => Rt X Γ r0 (some (Value.int t.1), t.2))) t) : Zw X Γ 9 r0 s 118 [(0, .ref (gL Γ (0))), (3, .int v3), (5, .ref (gL Γ (v5))), (6, .int v6), (7, .int v7), (8, .int v8)] [] := by
  unfold f_X6_read_L118 at h
  refine z_iload hX dX6_read_118 5 rfl 120 rfl ?_
  refine z_iload hX dX6_read_120 3 rfl 122 rfl ?_
  refine z_icmp_ge hX 177 dX6_read_122 (by decide) 125 rfl (fun c21 => ?_) (fun c21 => ?_)
  · replace h := br_pos h c21
    refine z_aload_n hX dX6_read_177 0 rfl 178 rfl ?_
    refine z_iload hX dX6_read_178 4 rfl 180 rfl ?_
    replace h := bd_elim h
    obtain ⟨s22, es22, h⟩ := h
    refine z_putI6 hX (k := 0) (j := 8) kdc_0 (by decide) rfl (by decide +kernel) (pwI_6_8 ..) dX6_read_180 fl_X6_56 es22 183 rfl ?_
    refine z_iload hX dX6_read_183 3 rfl 185 rfl ?_
    replace h := Option.some.inj h
    subst h
    exact z_iret hX dX6_read_185 rfl hk
  · replace h := br_neg h c21
    refine z_aload_n hX dX6_read_125 0 rfl 126 rfl ?_
    refine z_get6 hX (k := 0) (j := 0) (v := .ref (gL Γ (1))) kdc_0 (by decide) rfl dX6_read_126 fl_X6_10 129 rfl ?_
    refine z_get2 hX (k := 1) (j := 10) (v := .ref (gL Γ (9))) kdc_1 (by decide) rfl dX6_read_129 fl_X6_142 132 rfl ?_
    refine z_aload hX dX6_read_132 2 rfl 134 rfl ?_
    replace h := gd_elim h
    obtain ⟨g23, h⟩ := h
    refine z_get4 hX (k := v5) (j := 2) (v := .ref (gL Γ (v5 + 1))) g23 (by decide) rfl dX6_read_134 fl_X6_281 137 rfl ?_
    refine z_iload_n hX dX6_read_137 1 rfl 138 rfl ?_
    refine z_iconst hX (v := (nI 2)) dX6_read_138 rfl 139 rfl ?_
    refine z_iload hX dX6_read_139 5 rfl 141 rfl ?_
    refine z_imul hX dX6_read_141 142 rfl ?_
    refine z_iadd hX dX6_read_142 143 rfl ?_
    replace h := gd_elim h
    obtain ⟨g24, h⟩ := h
    refine z_iald hX (inb_vp g24) dX6_read_143 144 rfl ?_
    refine z_aload hX dX6_read_144 2 rfl 146 rfl ?_
    refine z_get4 hX (k := v5) (j := 2) (v := .ref (gL Γ (v5 + 1))) g23 (by decide) rfl dX6_read_146 fl_X6_281 149 rfl ?_
    refine z_iload_n hX dX6_read_149 1 rfl 150 rfl ?_
    refine z_iconst hX (v := (nI 2)) dX6_read_150 rfl 151 rfl ?_
    refine z_iload hX dX6_read_151 5 rfl 153 rfl ?_
    refine z_imul hX dX6_read_153 154 rfl ?_
    refine z_iadd hX dX6_read_154 155 rfl ?_
    refine z_iconst hX (v := (nI 1)) dX6_read_155 rfl 156 rfl ?_
    refine z_iadd hX dX6_read_156 157 rfl ?_
    replace h := gd_elim h
    obtain ⟨g25, h⟩ := h
    refine z_iald hX (inb_vp g25) dX6_read_157 158 rfl ?_
    replace h := cl_elim h
    obtain ⟨x27, s26, hx27, h⟩ := h
    refine z_cSi hX (As := [.int ((s.1 (v5 + 1) (((v3 + ((nI 2) * v8)) + (nI 1))).toNatClampNeg))]) (c_X6_cellOf hx27) lk_X6_161 ds_X6_cellOf rfl (by decide) (by decide) (Nat.le_of_ble_eq_true rfl) dX6_read_158 rfl 161 rfl ?_
    replace h := gd_elim h
    obtain ⟨g28, h⟩ := h
    replace h := bd_elim h
    obtain ⟨s29, es29, h⟩ := h
    refine z_iast hX (inb_vp g28) dX6_read_161 es29 162 rfl ?_
    refine z_aload_n hX dX6_read_162 0 rfl 163 rfl ?_
    refine z_get6 hX (k := 0) (j := 0) (v := .ref (gL Γ (1))) kdc_0 (by decide) rfl dX6_read_163 fl_X6_10 166 rfl ?_
    refine z_iconst hX (v := (nI 1)) dX6_read_166 rfl 167 rfl ?_
    replace h := cl_elim h
    obtain ⟨x31, s30, hx31, h⟩ := h
    refine z_cV2i hX (b := 1) (As := [.int ((nI 1))]) (c_X2_goOn hx31) lk_X6_180 rfl kdc_1 ds_X2_goOn rfl (by decide) (by decide) (by decide) dX6_read_167 rfl 170 rfl ?_
    refine z_pop hX dX6_read_170 rfl 171 rfl ?_
    refine z_iinc hX (v := (v8 + (nI 1))) (lv2 := [(8, .int ((v8 + (nI 1)))), (0, .ref (gL Γ (0))), (3, .int v3), (5, .ref (gL Γ (v5))), (6, .int v6), (7, .int v7)]) dX6_read_171 5 rfl rfl (by decide) rfl 174 rfl ?_
    refine z_goto hX 118 dX6_read_174 (by decide) ?_
    replace h := Option.some.inj h
    subst h
    exact z_sub [1, 2, 3, 4, 5, 0] rfl hk
set_option maxHeartbeats 4000000 in
set_option maxRecDepth 100000 in
theorem e_X6_read_L44 {X : Cx} {Γ : Gm} {r0 : Rb} (hX : Amb X Γ cX6_read RX6 9 (some .int) 5) {v2 : Int32} {v3 : Int32} {v4 : Int32} {v5 : Nat} {v6 : Int32} {v7 : Int32} {v8 : Int32} {s : St} {t : (Int32 × Int32 × Int32 × St) ⊕ (Int32 × St)} (h : f_X6_read_L44 v2 v3 v4 v5 v6 v7 v8 s = some t) (hk : (Sum.elim (fun q : Int32 × Int32 × Int32 × St => Zw X Γ 9 r0 q.2.2.2 44 [(0, .ref (gL Γ (0))), (2, .int v2), (3, .int v3), (4, .int v4), (5, .ref (gL Γ (v5))), (6, .int q.1), (7, .int q.2.1), (8, .int q.2.2.1)] []) (fun t : Int32 × St => Rt X Γ r0 (some (Value.int t.1), t.2))) t) : Zw X Γ 9 r0 s 44 [(0, .ref (gL Γ (0))), (2, .int v2), (3, .int v3), (4, .int v4), (5, .ref (gL Γ (v5))), (6, .int v6), (7, .int v7), (8, .int v8)] [] := by
  unfold f_X6_read_L44 at h
  refine z_iload hX dX6_read_44 7 rfl 46 rfl ?_
  refine z_iload hX dX6_read_46 3 rfl 48 rfl ?_
  refine z_icmp_ge hX 115 dX6_read_48 (by decide) 51 rfl (fun c12 => ?_) (fun c12 => ?_)
  · replace h := br_pos h c12
    refine z_iconst hX (v := (nI 0)) dX6_read_115 rfl 116 rfl ?_
    refine z_istore hX (lv2 := [(8, .int ((nI 0))), (0, .ref (gL Γ (0))), (2, .int v2), (3, .int v3), (4, .int v4), (5, .ref (gL Γ (v5))), (6, .int v6), (7, .int v7)]) dX6_read_116 (by decide) rfl 118 rfl ?_
    replace h := ox_elim h
    obtain ⟨u, rfl, h⟩ := h
    exact z_sub [1, 3, 5, 6, 7, 0] rfl (lp_ok (Z := fun q : Int32 × St => Zw X Γ 9 r0 q.2 118 [(0, .ref (gL Γ (0))), (3, .int v3), (5, .ref (gL Γ (v5))), (6, .int v6), (7, .int v7), (8, .int q.1)] []) (fun q t h hk => e_X6_read_L118 hX h hk) Fu _ _ h hk)
  · replace h := br_neg h c12
    refine z_iload hX dX6_read_51 6 rfl 53 rfl ?_
    refine z_if_ne hX 115 dX6_read_53 (by decide) 56 rfl (fun c13 => ?_) (fun c13 => ?_)
    · replace h := br_pos h c13
      refine z_iconst hX (v := (nI 0)) dX6_read_115 rfl 116 rfl ?_
      refine z_istore hX (lv2 := [(8, .int ((nI 0))), (0, .ref (gL Γ (0))), (2, .int v2), (3, .int v3), (4, .int v4), (5, .ref (gL Γ (v5))), (6, .int v6), (7, .int v7)]) dX6_read_116 (by decide) rfl 118 rfl ?_
      replace h := ox_elim h
      obtain ⟨u, rfl, h⟩ := h
      exact z_sub [1, 3, 5, 6, 7, 0] rfl (lp_ok (Z := fun q : Int32 × St => Zw X Γ 9 r0 q.2 118 [(0, .ref (gL Γ (0))), (3, .int v3), (5, .ref (gL Γ (v5))), (6, .int v6), (7, .int v7), (8, .int q.1)] []) (fun q t h hk => e_X6_read_L118 hX h hk) Fu _ _ h hk)
    · replace h := br_neg h c13
      refine z_aload hX dX6_read_56 4 rfl 58 rfl ?_
      refine z_iload_n hX dX6_read_58 1 rfl 59 rfl ?_
      refine z_iload_n hX dX6_read_59 2 rfl 60 rfl ?_
      refine z_iconst hX (v := (nI 2)) dX6_read_60 rfl 61 rfl ?_
      refine z_iload hX dX6_read_61 7 rfl 63 rfl ?_
      refine z_imul hX dX6_read_63 64 rfl ?_
      refine z_iadd hX dX6_read_64 65 rfl ?_
      replace h := gd_elim h
      obtain ⟨g16, h⟩ := h
      replace h := cl_elim h
      obtain ⟨x15, s14, hx15, h⟩ := h
      refine z_cV4i hX (b := v5) (As := [.int v2, .int ((v3 + ((nI 2) * v8)))]) (c_X4_faultOfPair hx15) lk_X6_274 rfl g16 ds_X4_faultOfPair rfl (by decide) (by decide) (by decide) dX6_read_65 rfl 68 rfl ?_
      refine z_istore hX (lv2 := [(7, .int x15), (0, .ref (gL Γ (0))), (2, .int v2), (3, .int v3), (4, .int v4), (5, .ref (gL Γ (v5))), (6, .int v6), (8, .int v8)]) dX6_read_68 (by decide) rfl 70 rfl ?_
      refine z_iload hX dX6_read_70 0 rfl 72 rfl ?_
      refine z_if_ne hX 109 dX6_read_72 (by decide) 75 rfl (fun c17 => ?_) (fun c17 => ?_)
      · replace h := br_pos h c17
        refine z_iinc hX (v := (v8 + (nI 1))) (lv2 := [(8, .int ((v8 + (nI 1)))), (7, .int x15), (0, .ref (gL Γ (0))), (2, .int v2), (3, .int v3), (4, .int v4), (5, .ref (gL Γ (v5))), (6, .int v6)]) dX6_read_109 7 rfl rfl (by decide) rfl 112 rfl ?_
        refine z_goto hX 44 dX6_read_112 (by decide) ?_
        replace h := Option.some.inj h
        subst h
        exact z_sub [2, 3, 4, 5, 6, 7, 1, 0] rfl hk
      · replace h := br_neg h c17
        refine z_aload_n hX dX6_read_75 1 rfl 76 rfl ?_
        refine z_aload hX dX6_read_76 5 rfl 78 rfl ?_
        refine z_iload_n hX dX6_read_78 3 rfl 79 rfl ?_
        refine z_iconst hX (v := (nI 2)) dX6_read_79 rfl 80 rfl ?_
        refine z_iload hX dX6_read_80 7 rfl 82 rfl ?_
        refine z_imul hX dX6_read_82 83 rfl ?_
        refine z_iadd hX dX6_read_83 84 rfl ?_
        refine z_aload_n hX dX6_read_84 1 rfl 85 rfl ?_
        refine z_get6 hX (k := 0) (j := 0) (v := .ref (gL Γ (1))) kdc_0 (by decide) rfl dX6_read_85 fl_X6_10 88 rfl ?_
        refine z_get2 hX (k := 1) (j := 2) (v := .int ((s14.1 1 2))) kdc_1 (by decide) rfl dX6_read_88 fl_X6_100 91 rfl ?_
        refine z_iload hX dX6_read_91 7 rfl 93 rfl ?_
        refine z_iadd hX dX6_read_93 94 rfl ?_
        replace h := cl_elim h
        obtain ⟨x19, s18, hx19, h⟩ := h
        refine z_cV6i hX (b := 0) (As := [.ref (gL Γ (v5)), .int ((v3 + ((nI 2) * v8))), .int (((s14.1 1 2) + v8))]) (c_X6_isRefused hx19) lk_X6_277 rfl kdc_0 ds_X6_isRefused rfl (by decide) (by decide) (by decide) dX6_read_94 rfl 97 rfl ?_
        refine z_if_eq hX 106 dX6_read_97 (by decide) 100 rfl (fun c20 => ?_) (fun c20 => ?_)
        · replace h := br_pos h c20
          refine z_iinc hX (v := (v6 + (nI 1))) (lv2 := [(6, .int ((v6 + (nI 1)))), (7, .int x15), (0, .ref (gL Γ (0))), (2, .int v2), (3, .int v3), (4, .int v4), (5, .ref (gL Γ (v5))), (8, .int v8)]) dX6_read_106 6 rfl rfl (by decide) rfl 109 rfl ?_
          refine z_iinc hX (v := (v8 + (nI 1))) (lv2 := [(8, .int ((v8 + (nI 1)))), (6, .int ((v6 + (nI 1)))), (7, .int x15), (0, .ref (gL Γ (0))), (2, .int v2), (3, .int v3), (4, .int v4), (5, .ref (gL Γ (v5)))]) dX6_read_109 7 rfl rfl (by decide) rfl 112 rfl ?_
          refine z_goto hX 44 dX6_read_112 (by decide) ?_
          replace h := Option.some.inj h
          subst h
          exact z_sub [3, 4, 5, 6, 7, 1, 2, 0] rfl hk
        · replace h := br_neg h c20
          refine z_bipush hX (v := (-20)) dX6_read_100 (by decide) 102 rfl ?_
          refine z_iload hX dX6_read_102 7 rfl 104 rfl ?_
          refine z_isub hX dX6_read_104 105 rfl ?_
          replace h := Option.some.inj h
          subst h
          exact z_iret hX dX6_read_105 rfl hk
set_option maxHeartbeats 4000000 in
set_option maxRecDepth 100000 in
theorem e_X6_read {X : Cx} {Γ : Gm} {r0 : Rb} (hX : Amb X Γ cX6_read RX6 9 (some .int) 5) {a1 : Int32} {a2 : Int32} {a3 : Int32} {a4 : Int32} {s : St} {t : Int32 × St} (h : f_X6_read a1 a2 a3 a4 s = some t) (hk : (fun t : Int32 × St => Rt X Γ r0 (some (Value.int t.1), t.2)) t) : Zw X Γ 9 r0 s 0 [(0, .ref (gL Γ (0))), (1, .int a1), (2, .int a2), (3, .int a3), (4, .int a4)] [] := by
  unfold f_X6_read at h
  refine z_iload_n hX dX6_read_0 1 rfl 1 rfl ?_
  replace h := cl_elim h
  obtain ⟨x2, s1, hx2, h⟩ := h
  refine z_cSi hX (As := [.int a1]) (c_X6_isSheet hx2) lk_X6_256 ds_X6_isSheet rfl (by decide) (by decide) (by decide) dX6_read_1 rfl 4 rfl ?_
  refine z_if_eq hX 25 dX6_read_4 (by decide) 7 rfl (fun c3 => ?_) (fun c3 => ?_)
  · replace h := br_pos h c3
    refine z_iconst hX (v := (-1)) dX6_read_25 rfl 26 rfl ?_
    replace h := Option.some.inj h
    subst h
    exact z_iret hX dX6_read_26 rfl hk
  · replace h := br_neg h c3
    refine z_iload_n hX dX6_read_7 2 rfl 8 rfl ?_
    replace h := cl_elim h
    obtain ⟨x5, s4, hx5, h⟩ := h
    refine z_cSi hX (As := [.int a2]) (c_X6_isLane hx5) lk_X6_259 ds_X6_isLane rfl (by decide) (by decide) (by decide) dX6_read_8 rfl 11 rfl ?_
    refine z_if_eq hX 25 dX6_read_11 (by decide) 14 rfl (fun c6 => ?_) (fun c6 => ?_)
    · replace h := br_pos h c6
      refine z_iconst hX (v := (-1)) dX6_read_25 rfl 26 rfl ?_
      replace h := Option.some.inj h
      subst h
      exact z_iret hX dX6_read_26 rfl hk
    · replace h := br_neg h c6
      refine z_iload hX dX6_read_14 4 rfl 16 rfl ?_
      refine z_iconst hX (v := (nI 0)) dX6_read_16 rfl 17 rfl ?_
      refine z_bipush hX (v := (nI 20)) dX6_read_17 (by decide) 19 rfl ?_
      replace h := cl_elim h
      obtain ⟨x8, s7, hx8, h⟩ := h
      refine z_cSi hX (As := [.int a4, .int ((nI 0)), .int ((nI 20))]) (c_X6_isWithin hx8) lk_X6_62 ds_X6_isWithin rfl (by decide) (by decide) (by decide) dX6_read_19 rfl 22 rfl ?_
      refine z_if_ne hX 27 dX6_read_22 (by decide) 25 rfl (fun c9 => ?_) (fun c9 => ?_)
      · replace h := br_pos h c9
        refine z_aload_n hX dX6_read_27 0 rfl 28 rfl ?_
        refine z_get6 hX (k := 0) (j := 5) (v := .ref (gL Γ (35))) kdc_0 (by decide) rfl dX6_read_28 fl_X6_41 31 rfl ?_
        refine z_iload_n hX dX6_read_31 1 rfl 32 rfl ?_
        replace h := gd_elim h
        obtain ⟨g10, h⟩ := h
        refine z_aald13 hX kdc_35 (inb_vp g10) dX6_read_32 33 rfl ?_
        replace h := bd_elim h
        obtain ⟨y11, ey11, h⟩ := h
        refine z_nmR ey11 ?_
        refine z_astore hX (lv2 := [(5, .ref (gL Γ (y11))), (0, .ref (gL Γ (0))), (1, .int a1), (2, .int a2), (3, .int a3), (4, .int a4)]) dX6_read_33 (by decide) rfl 35 rfl ?_
        refine z_iconst hX (v := (nI 0)) dX6_read_35 rfl 36 rfl ?_
        refine z_istore hX (lv2 := [(6, .int ((nI 0))), (5, .ref (gL Γ (y11))), (0, .ref (gL Γ (0))), (1, .int a1), (2, .int a2), (3, .int a3), (4, .int a4)]) dX6_read_36 (by decide) rfl 38 rfl ?_
        refine z_iconst hX (v := (nI 0)) dX6_read_38 rfl 39 rfl ?_
        refine z_istore hX (lv2 := [(7, .int ((nI 0))), (6, .int ((nI 0))), (5, .ref (gL Γ (y11))), (0, .ref (gL Γ (0))), (1, .int a1), (2, .int a2), (3, .int a3), (4, .int a4)]) dX6_read_39 (by decide) rfl 41 rfl ?_
        refine z_iconst hX (v := (nI 0)) dX6_read_41 rfl 42 rfl ?_
        refine z_istore hX (lv2 := [(8, .int ((nI 0))), (7, .int ((nI 0))), (6, .int ((nI 0))), (5, .ref (gL Γ (y11))), (0, .ref (gL Γ (0))), (1, .int a1), (2, .int a2), (3, .int a3), (4, .int a4)]) dX6_read_42 (by decide) rfl 44 rfl ?_
        exact z_sub [4, 6, 7, 8, 3, 2, 1, 0] rfl (lp_ok (Z := fun q : Int32 × Int32 × Int32 × St => Zw X Γ 9 r0 q.2.2.2 44 [(0, .ref (gL Γ (0))), (2, .int a2), (3, .int a3), (4, .int a4), (5, .ref (gL Γ (y11))), (6, .int q.1), (7, .int q.2.1), (8, .int q.2.2.1)] []) (fun q t h hk => e_X6_read_L44 hX h hk) Fu _ _ h hk)
      · replace h := br_neg h c9
        refine z_iconst hX (v := (-1)) dX6_read_25 rfl 26 rfl ?_
        replace h := Option.some.inj h
        subst h
        exact z_iret hX dX6_read_26 rfl hk
theorem c_X6_read {lc : Launch} {Γ : Gm} {a1 : Int32} {a2 : Int32} {a3 : Int32} {a4 : Int32} {s s2 : St} {v : Int32} (h : f_X6_read a1 a2 a3 a4 s = some (v, s2)) : Ct lc Γ yX6_read cX6_read 9 (some .int) 5 [.ref (gL Γ (0)), .int a1, .int a2, .int a3, .int a4] s (some (.int v), s2) := Ct.of (by decide +kernel) (Nat.le_of_ble_eq_true rfl) (fun X hl hX => e_X6_read hX h rfl)
theorem dX6_torn_0 : decode cX6_torn 0 = .ok (.aload_n 0, 1) := by decide +kernel
theorem dX6_torn_1 : decode cX6_torn 1 = .ok (.getfield 56, 3) := by decide +kernel
theorem dX6_torn_4 : decode cX6_torn 4 = .ok (.ireturn, 1) := by decide +kernel
def f_X6_torn (s : St) : Option (Int32 × St) := some (((s.1 0 8), s))
set_option maxHeartbeats 4000000 in
set_option maxRecDepth 100000 in
theorem e_X6_torn {X : Cx} {Γ : Gm} {r0 : Rb} (hX : Amb X Γ cX6_torn RX6 1 (some .int) 0) {s : St} {t : Int32 × St} (h : f_X6_torn s = some t) (hk : (fun t : Int32 × St => Rt X Γ r0 (some (Value.int t.1), t.2)) t) : Zw X Γ 1 r0 s 0 [(0, .ref (gL Γ (0)))] [] := by
  unfold f_X6_torn at h
  refine z_aload_n hX dX6_torn_0 0 rfl 1 rfl ?_
  refine z_get6 hX (k := 0) (j := 8) (v := .int ((s.1 0 8))) kdc_0 (by decide) rfl dX6_torn_1 fl_X6_56 4 rfl ?_
  replace h := Option.some.inj h
  subst h
  exact z_iret hX dX6_torn_4 rfl hk
theorem c_X6_torn {lc : Launch} {Γ : Gm} {s s2 : St} {v : Int32} (h : f_X6_torn s = some (v, s2)) : Ct lc Γ yX6_torn cX6_torn 1 (some .int) 0 [.ref (gL Γ (0))] s (some (.int v), s2) := Ct.of (by decide +kernel) (Nat.le_of_ble_eq_true rfl) (fun X hl hX => e_X6_torn hX h rfl)
theorem dX6_count_0 : decode cX6_count 0 = .ok (.iload_n 1, 1) := by decide +kernel
theorem dX6_count_1 : decode cX6_count 1 = .ok (.tableswitch 141 0 5 #[39, 47, 83, 91, 118, 133], 39) := by decide +kernel
theorem dX6_count_40 : decode cX6_count 40 = .ok (.aload_n 0, 1) := by decide +kernel
theorem dX6_count_41 : decode cX6_count 41 = .ok (.getfield 22, 3) := by decide +kernel
theorem dX6_count_44 : decode cX6_count 44 = .ok (.getfield 87, 3) := by decide +kernel
theorem dX6_count_47 : decode cX6_count 47 = .ok (.ireturn, 1) := by decide +kernel
theorem dX6_count_48 : decode cX6_count 48 = .ok (.aload_n 0, 1) := by decide +kernel
theorem dX6_count_49 : decode cX6_count 49 = .ok (.getfield 28, 3) := by decide +kernel
theorem dX6_count_52 : decode cX6_count 52 = .ok (.iconst 0, 1) := by decide +kernel
theorem dX6_count_53 : decode cX6_count 53 = .ok (.aaload, 1) := by decide +kernel
theorem dX6_count_54 : decode cX6_count 54 = .ok (.getfield 90, 3) := by decide +kernel
theorem dX6_count_57 : decode cX6_count 57 = .ok (.ifCond .eq 7, 3) := by decide +kernel
theorem dX6_count_60 : decode cX6_count 60 = .ok (.iconst 1, 1) := by decide +kernel
theorem dX6_count_61 : decode cX6_count 61 = .ok (.goto 4, 3) := by decide +kernel
theorem dX6_count_64 : decode cX6_count 64 = .ok (.iconst 0, 1) := by decide +kernel
theorem dX6_count_65 : decode cX6_count 65 = .ok (.aload_n 0, 1) := by decide +kernel
theorem dX6_count_66 : decode cX6_count 66 = .ok (.getfield 28, 3) := by decide +kernel
theorem dX6_count_69 : decode cX6_count 69 = .ok (.iconst 1, 1) := by decide +kernel
theorem dX6_count_70 : decode cX6_count 70 = .ok (.aaload, 1) := by decide +kernel
theorem dX6_count_71 : decode cX6_count 71 = .ok (.getfield 90, 3) := by decide +kernel
theorem dX6_count_74 : decode cX6_count 74 = .ok (.ifCond .eq 7, 3) := by decide +kernel
theorem dX6_count_77 : decode cX6_count 77 = .ok (.iconst 1, 1) := by decide +kernel
theorem dX6_count_78 : decode cX6_count 78 = .ok (.goto 4, 3) := by decide +kernel
theorem dX6_count_81 : decode cX6_count 81 = .ok (.iconst 0, 1) := by decide +kernel
theorem dX6_count_82 : decode cX6_count 82 = .ok (.iadd, 1) := by decide +kernel
theorem dX6_count_83 : decode cX6_count 83 = .ok (.ireturn, 1) := by decide +kernel
theorem dX6_count_84 : decode cX6_count 84 = .ok (.aload_n 0, 1) := by decide +kernel
theorem dX6_count_85 : decode cX6_count 85 = .ok (.getfield 35, 3) := by decide +kernel
theorem dX6_count_88 : decode cX6_count 88 = .ok (.getfield 70, 3) := by decide +kernel
theorem dX6_count_91 : decode cX6_count 91 = .ok (.ireturn, 1) := by decide +kernel
theorem dX6_count_92 : decode cX6_count 92 = .ok (.aload_n 0, 1) := by decide +kernel
theorem dX6_count_93 : decode cX6_count 93 = .ok (.getfield 41, 3) := by decide +kernel
theorem dX6_count_96 : decode cX6_count 96 = .ok (.iconst 0, 1) := by decide +kernel
theorem dX6_count_97 : decode cX6_count 97 = .ok (.aaload, 1) := by decide +kernel
theorem dX6_count_98 : decode cX6_count 98 = .ok (.invokevirtual 284, 3) := by decide +kernel
theorem dX6_count_101 : decode cX6_count 101 = .ok (.ifCond .eq 8, 3) := by decide +kernel
theorem dX6_count_104 : decode cX6_count 104 = .ok (.bipush (-4), 2) := by decide +kernel
theorem dX6_count_106 : decode cX6_count 106 = .ok (.goto 12, 3) := by decide +kernel
theorem dX6_count_109 : decode cX6_count 109 = .ok (.aload_n 0, 1) := by decide +kernel
theorem dX6_count_110 : decode cX6_count 110 = .ok (.getfield 41, 3) := by decide +kernel
theorem dX6_count_113 : decode cX6_count 113 = .ok (.iconst 0, 1) := by decide +kernel
theorem dX6_count_114 : decode cX6_count 114 = .ok (.aaload, 1) := by decide +kernel
theorem dX6_count_115 : decode cX6_count 115 = .ok (.getfield 287, 3) := by decide +kernel
theorem dX6_count_118 : decode cX6_count 118 = .ok (.ireturn, 1) := by decide +kernel
theorem dX6_count_119 : decode cX6_count 119 = .ok (.aload_n 0, 1) := by decide +kernel
theorem dX6_count_120 : decode cX6_count 120 = .ok (.getfield 10, 3) := by decide +kernel
theorem dX6_count_123 : decode cX6_count 123 = .ok (.aload_n 0, 1) := by decide +kernel
theorem dX6_count_124 : decode cX6_count 124 = .ok (.getfield 10, 3) := by decide +kernel
theorem dX6_count_127 : decode cX6_count 127 = .ok (.getfield 133, 3) := by decide +kernel
theorem dX6_count_130 : decode cX6_count 130 = .ok (.invokevirtual 106, 3) := by decide +kernel
theorem dX6_count_133 : decode cX6_count 133 = .ok (.ireturn, 1) := by decide +kernel
theorem dX6_count_134 : decode cX6_count 134 = .ok (.aload_n 0, 1) := by decide +kernel
theorem dX6_count_135 : decode cX6_count 135 = .ok (.getfield 10, 3) := by decide +kernel
theorem dX6_count_138 : decode cX6_count 138 = .ok (.invokevirtual 290, 3) := by decide +kernel
theorem dX6_count_141 : decode cX6_count 141 = .ok (.ireturn, 1) := by decide +kernel
theorem dX6_count_142 : decode cX6_count 142 = .ok (.iconst (-1), 1) := by decide +kernel
theorem dX6_count_143 : decode cX6_count 143 = .ok (.ireturn, 1) := by decide +kernel
def f_X6_count_J65 (k0 : Int32) (s : St) : Option (Int32 × St) := if inb (nI 1) (ln 32) = true then bd (143 + 19 * ((nI 1)).toNatClampNeg) (fun y25 => if kd (y25) = 0 then if (s.1 y25 0) = 0 then (some (((k0 + (nI 0)), s))) else (some (((k0 + (nI 1)), s))) else none) else none
def f_X6_count (a1 : Int32) (s : St) : Option (Int32 × St) := if a1 = (nI 0) then (some (((s.1 27 0), s))) else (if a1 = (nI 1) then (if inb (nI 0) (ln 32) = true then bd (143 + 19 * ((nI 0)).toNatClampNeg) (fun y4 => if kd (y4) = 0 then if (s.1 y4 0) = 0 then (f_X6_count_J65 (nI 0) s) else (f_X6_count_J65 (nI 1) s) else none) else none) else (if a1 = (nI 2) then (some (((s.1 33 1), s))) else (if a1 = (nI 3) then (if inb (nI 0) (ln 35) = true then bd (181 + 2 * ((nI 0)).toNatClampNeg) (fun y10 => if kd (y10) = 4 then cl (f_X4_isNothing y10 s) (fun x12 s11 => if x12 = 0 then (bd (181 + 2 * ((nI 0)).toNatClampNeg) (fun y15 => if kd (y15) = 4 then some (((s11.1 y15 1), s11)) else none)) else (some (((-4), s11)))) else none) else none) else (if a1 = (nI 4) then (cl (f_X2_sumOfLives 1 5 s) (fun x19 s18 => some ((x19, s18)))) else (if a1 = (nI 5) then (cl (f_X2_pricesOfSitters 1 s) (fun x22 s21 => some ((x22, s21)))) else (if (a1).toInt < 0 ∨ 5 < (a1).toInt then (some (((-1), s))) else none))))))
set_option maxHeartbeats 4000000 in
set_option maxRecDepth 100000 in
theorem e_X6_count_J65 {X : Cx} {Γ : Gm} {r0 : Rb} (hX : Amb X Γ cX6_count RX6 2 (some .int) 2) {k0 : Int32} {s : St} {t : Int32 × St} (h : f_X6_count_J65 k0 s = some t) (hk : (fun t : Int32 × St => Rt X Γ r0 (some (Value.int t.1), t.2)) t) : Zw X Γ 2 r0 s 65 [(0, .ref (gL Γ (0)))] [.int k0] := by
  unfold f_X6_count_J65 at h
  refine z_aload_n hX dX6_count_65 0 rfl 66 rfl ?_
  refine z_get6 hX (k := 0) (j := 3) (v := .ref (gL Γ (32))) kdc_0 (by decide) rfl dX6_count_66 fl_X6_28 69 rfl ?_
  refine z_iconst hX (v := (nI 1)) dX6_count_69 rfl 70 rfl ?_
  replace h := gd_elim h
  obtain ⟨g24, h⟩ := h
  refine z_aald11 hX kdc_32 (inb_vp g24) dX6_count_70 71 rfl ?_
  replace h := bd_elim h
  obtain ⟨y25, ey25, h⟩ := h
  refine z_nmR ey25 ?_
  replace h := gd_elim h
  obtain ⟨g26, h⟩ := h
  refine z_get0 hX (k := y25) (j := 0) (v := .int ((s.1 y25 0))) g26 (by decide) rfl dX6_count_71 fl_X6_90 74 rfl ?_
  refine z_if_eq hX 81 dX6_count_74 (by decide) 77 rfl (fun c27 => ?_) (fun c27 => ?_)
  · replace h := br_pos h c27
    refine z_iconst hX (v := (nI 0)) dX6_count_81 rfl 82 rfl ?_
    refine z_iadd hX dX6_count_82 83 rfl ?_
    replace h := Option.some.inj h
    subst h
    exact z_iret hX dX6_count_83 rfl hk
  · replace h := br_neg h c27
    refine z_iconst hX (v := (nI 1)) dX6_count_77 rfl 78 rfl ?_
    refine z_goto hX 82 dX6_count_78 (by decide) ?_
    refine z_iadd hX dX6_count_82 83 rfl ?_
    replace h := Option.some.inj h
    subst h
    exact z_iret hX dX6_count_83 rfl hk
set_option maxHeartbeats 4000000 in
set_option maxRecDepth 100000 in
theorem e_X6_count {X : Cx} {Γ : Gm} {r0 : Rb} (hX : Amb X Γ cX6_count RX6 2 (some .int) 2) {a1 : Int32} {s : St} {t : Int32 × St} (h : f_X6_count a1 s = some t) (hk : (fun t : Int32 × St => Rt X Γ r0 (some (Value.int t.1), t.2)) t) : Zw X Γ 2 r0 s 0 [(0, .ref (gL Γ (0))), (1, .int a1)] [] := by
  unfold f_X6_count at h
  refine z_iload_n hX dX6_count_0 1 rfl 1 rfl ?_
  by_cases c1 : a1 = (nI 0)
  · replace h := br_pos h c1
    refine z_tcase hX (off := 39) 40 dX6_count_1 (nI 0) c1 (by decide) (by decide) ?_
    refine z_aload_n hX dX6_count_40 0 rfl 41 rfl ?_
    refine z_get6 hX (k := 0) (j := 2) (v := .ref (gL Γ (27))) kdc_0 (by decide) rfl dX6_count_41 fl_X6_22 44 rfl ?_
    refine z_get3 hX (k := 27) (j := 0) (v := .int ((s.1 27 0))) kdc_27 (by decide) rfl dX6_count_44 fl_X6_87 47 rfl ?_
    replace h := Option.some.inj h
    subst h
    exact z_iret hX dX6_count_47 rfl hk
  replace h := br_neg h c1
  by_cases c2 : a1 = (nI 1)
  · replace h := br_pos h c2
    refine z_tcase hX (off := 47) 48 dX6_count_1 (nI 1) c2 (by decide) (by decide) ?_
    refine z_aload_n hX dX6_count_48 0 rfl 49 rfl ?_
    refine z_get6 hX (k := 0) (j := 3) (v := .ref (gL Γ (32))) kdc_0 (by decide) rfl dX6_count_49 fl_X6_28 52 rfl ?_
    refine z_iconst hX (v := (nI 0)) dX6_count_52 rfl 53 rfl ?_
    replace h := gd_elim h
    obtain ⟨g3, h⟩ := h
    refine z_aald11 hX kdc_32 (inb_vp g3) dX6_count_53 54 rfl ?_
    replace h := bd_elim h
    obtain ⟨y4, ey4, h⟩ := h
    refine z_nmR ey4 ?_
    replace h := gd_elim h
    obtain ⟨g5, h⟩ := h
    refine z_get0 hX (k := y4) (j := 0) (v := .int ((s.1 y4 0))) g5 (by decide) rfl dX6_count_54 fl_X6_90 57 rfl ?_
    refine z_if_eq hX 64 dX6_count_57 (by decide) 60 rfl (fun c6 => ?_) (fun c6 => ?_)
    · replace h := br_pos h c6
      refine z_iconst hX (v := (nI 0)) dX6_count_64 rfl 65 rfl ?_
      exact z_sub [0] rfl (e_X6_count_J65 hX h hk)
    · replace h := br_neg h c6
      refine z_iconst hX (v := (nI 1)) dX6_count_60 rfl 61 rfl ?_
      refine z_goto hX 65 dX6_count_61 (by decide) ?_
      exact z_sub [0] rfl (e_X6_count_J65 hX h hk)
  replace h := br_neg h c2
  by_cases c7 : a1 = (nI 2)
  · replace h := br_pos h c7
    refine z_tcase hX (off := 83) 84 dX6_count_1 (nI 2) c7 (by decide) (by decide) ?_
    refine z_aload_n hX dX6_count_84 0 rfl 85 rfl ?_
    refine z_get6 hX (k := 0) (j := 4) (v := .ref (gL Γ (33))) kdc_0 (by decide) rfl dX6_count_85 fl_X6_35 88 rfl ?_
    refine z_get5 hX (k := 33) (j := 1) (v := .int ((s.1 33 1))) kdc_33 (by decide) rfl dX6_count_88 fl_X6_70 91 rfl ?_
    replace h := Option.some.inj h
    subst h
    exact z_iret hX dX6_count_91 rfl hk
  replace h := br_neg h c7
  by_cases c8 : a1 = (nI 3)
  · replace h := br_pos h c8
    refine z_tcase hX (off := 91) 92 dX6_count_1 (nI 3) c8 (by decide) (by decide) ?_
    refine z_aload_n hX dX6_count_92 0 rfl 93 rfl ?_
    refine z_get6 hX (k := 0) (j := 5) (v := .ref (gL Γ (35))) kdc_0 (by decide) rfl dX6_count_93 fl_X6_41 96 rfl ?_
    refine z_iconst hX (v := (nI 0)) dX6_count_96 rfl 97 rfl ?_
    replace h := gd_elim h
    obtain ⟨g9, h⟩ := h
    refine z_aald13 hX kdc_35 (inb_vp g9) dX6_count_97 98 rfl ?_
    replace h := bd_elim h
    obtain ⟨y10, ey10, h⟩ := h
    refine z_nmR ey10 ?_
    replace h := gd_elim h
    obtain ⟨g13, h⟩ := h
    replace h := cl_elim h
    obtain ⟨x12, s11, hx12, h⟩ := h
    refine z_cV4i hX (b := y10) (As := []) (c_X4_isNothing hx12) lk_X6_284 rfl g13 ds_X4_isNothing rfl (by decide) (by decide) (by decide) dX6_count_98 rfl 101 rfl ?_
    refine z_if_eq hX 109 dX6_count_101 (by decide) 104 rfl (fun c14 => ?_) (fun c14 => ?_)
    · replace h := br_pos h c14
      refine z_aload_n hX dX6_count_109 0 rfl 110 rfl ?_
      refine z_get6 hX (k := 0) (j := 5) (v := .ref (gL Γ (35))) kdc_0 (by decide) rfl dX6_count_110 fl_X6_41 113 rfl ?_
      refine z_iconst hX (v := (nI 0)) dX6_count_113 rfl 114 rfl ?_
      refine z_aald13 hX kdc_35 (inb_vp g9) dX6_count_114 115 rfl ?_
      replace h := bd_elim h
      obtain ⟨y15, ey15, h⟩ := h
      refine z_nmR ey15 ?_
      replace h := gd_elim h
      obtain ⟨g16, h⟩ := h
      refine z_get4 hX (k := y15) (j := 1) (v := .int ((s11.1 y15 1))) g16 (by decide) rfl dX6_count_115 fl_X6_287 118 rfl ?_
      replace h := Option.some.inj h
      subst h
      exact z_iret hX dX6_count_118 rfl hk
    · replace h := br_neg h c14
      refine z_bipush hX (v := (-4)) dX6_count_104 (by decide) 106 rfl ?_
      refine z_goto hX 118 dX6_count_106 (by decide) ?_
      replace h := Option.some.inj h
      subst h
      exact z_iret hX dX6_count_118 rfl hk
  replace h := br_neg h c8
  by_cases c17 : a1 = (nI 4)
  · replace h := br_pos h c17
    refine z_tcase hX (off := 118) 119 dX6_count_1 (nI 4) c17 (by decide) (by decide) ?_
    refine z_aload_n hX dX6_count_119 0 rfl 120 rfl ?_
    refine z_get6 hX (k := 0) (j := 0) (v := .ref (gL Γ (1))) kdc_0 (by decide) rfl dX6_count_120 fl_X6_10 123 rfl ?_
    refine z_aload_n hX dX6_count_123 0 rfl 124 rfl ?_
    refine z_get6 hX (k := 0) (j := 0) (v := .ref (gL Γ (1))) kdc_0 (by decide) rfl dX6_count_124 fl_X6_10 127 rfl ?_
    refine z_get2 hX (k := 1) (j := 6) (v := .ref (gL Γ (5))) kdc_1 (by decide) rfl dX6_count_127 fl_X6_133 130 rfl ?_
    replace h := cl_elim h
    obtain ⟨x19, s18, hx19, h⟩ := h
    refine z_cV2i hX (b := 1) (As := [.ref (gL Γ (5))]) (c_X2_sumOfLives hx19) lk_X6_106 rfl kdc_1 ds_X2_sumOfLives rfl (by decide) (by decide) (by decide) dX6_count_130 rfl 133 rfl ?_
    replace h := Option.some.inj h
    subst h
    exact z_iret hX dX6_count_133 rfl hk
  replace h := br_neg h c17
  by_cases c20 : a1 = (nI 5)
  · replace h := br_pos h c20
    refine z_tcase hX (off := 133) 134 dX6_count_1 (nI 5) c20 (by decide) (by decide) ?_
    refine z_aload_n hX dX6_count_134 0 rfl 135 rfl ?_
    refine z_get6 hX (k := 0) (j := 0) (v := .ref (gL Γ (1))) kdc_0 (by decide) rfl dX6_count_135 fl_X6_10 138 rfl ?_
    replace h := cl_elim h
    obtain ⟨x22, s21, hx22, h⟩ := h
    refine z_cV2i hX (b := 1) (As := []) (c_X2_pricesOfSitters hx22) lk_X6_290 rfl kdc_1 ds_X2_pricesOfSitters rfl (by decide) (by decide) (by decide) dX6_count_138 rfl 141 rfl ?_
    replace h := Option.some.inj h
    subst h
    exact z_iret hX dX6_count_141 rfl hk
  replace h := br_neg h c20
  replace h := gd_elim h
  obtain ⟨g23, h⟩ := h
  refine z_tdef hX 142 dX6_count_1 g23 (by decide) ?_
  refine z_iconst hX (v := (-1)) dX6_count_142 rfl 143 rfl ?_
  replace h := Option.some.inj h
  subst h
  exact z_iret hX dX6_count_143 rfl hk
theorem c_X6_count {lc : Launch} {Γ : Gm} {a1 : Int32} {s s2 : St} {v : Int32} (h : f_X6_count a1 s = some (v, s2)) : Ct lc Γ yX6_count cX6_count 2 (some .int) 2 [.ref (gL Γ (0)), .int a1] s (some (.int v), s2) := Ct.of (by decide +kernel) (Nat.le_of_ble_eq_true rfl) (fun X hl hX => e_X6_count hX h rfl)

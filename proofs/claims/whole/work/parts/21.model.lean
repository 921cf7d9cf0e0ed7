theorem ml_X7_159 : Cond.constantLong RX7 159 (lN 4) ∈ gt := gt_mem (tm5 (List.mem_of_getElem? (i := 92) rfl)) rfl
theorem ml_X7_161 : Cond.constantLong RX7 161 (lN 3) ∈ gt := gt_mem (tm5 (List.mem_of_getElem? (i := 77) rfl)) rfl
theorem fl_X7_26 : Cond.fieldLink RX7 26 (TX7 18).1 (TX7 18).2.1 (TX7 18).2.2.1 ∈ gt := gt_mem (tm4 (List.mem_of_getElem? (i := 96) rfl)) rfl
theorem ds_X7_moves : Ds yX7_moves 2 := ⟨by decide +kernel, by decide +kernel, by decide +kernel⟩
theorem lk_X7_163 : LkS RX7 163 yX7_moves cX7_moves 4 (some .int) := ⟨gt_mem (tm5 (List.mem_of_getElem? (i := 129) rfl)) rfl, gt_mem (tm5 (List.mem_of_getElem? (i := 130) rfl)) rfl, gt_mem (tm1 (List.mem_of_getElem? (i := 8) rfl)) rfl, gt_mem (tm5 (List.mem_of_getElem? (i := 131) rfl)) rfl⟩
theorem ds_X7_nextCell : Ds yX7_nextCell 2 := ⟨by decide +kernel, by decide +kernel, by decide +kernel⟩
theorem lk_X7_166 : LkS RX7 166 yX7_nextCell cX7_nextCell 4 (some .int) := ⟨gt_mem (tm5 (List.mem_of_getElem? (i := 132) rfl)) rfl, gt_mem (tm5 (List.mem_of_getElem? (i := 133) rfl)) rfl, gt_mem (tm1 (List.mem_of_getElem? (i := 8) rfl)) rfl, gt_mem (tm5 (List.mem_of_getElem? (i := 134) rfl)) rfl⟩
theorem ds_X7_isTold : Ds yX7_isTold 0 := ⟨by decide +kernel, by decide +kernel, by decide +kernel⟩
theorem lk_X7_169 : LkV RX7 169 yX7_isTold cX7_isTold 4 none := ⟨gt_mem (tm5 (List.mem_of_getElem? (i := 114) rfl)) rfl, gt_mem (tm5 (List.mem_of_getElem? (i := 116) rfl)) rfl, gt_sel (List.mem_of_getElem? (i := 39) rfl) rfl, gt_mem (tm1 (List.mem_of_getElem? (i := 8) rfl)) rfl, gt_mem (tm5 (List.mem_of_getElem? (i := 117) rfl)) rfl⟩
theorem ds_X7_isTaken : Ds yX7_isTaken 0 := ⟨by decide +kernel, by decide +kernel, by decide +kernel⟩
theorem lk_X7_172 : LkV RX7 172 yX7_isTaken cX7_isTaken 6 none := ⟨gt_mem (tm5 (List.mem_of_getElem? (i := 121) rfl)) rfl, gt_mem (tm5 (List.mem_of_getElem? (i := 123) rfl)) rfl, gt_sel (List.mem_of_getElem? (i := 40) rfl) rfl, gt_mem (tm1 (List.mem_of_getElem? (i := 8) rfl)) rfl, gt_mem (tm5 (List.mem_of_getElem? (i := 124) rfl)) rfl⟩
theorem ds_X7_drifts : Ds yX7_drifts 1 := ⟨by decide +kernel, by decide +kernel, by decide +kernel⟩
theorem lk_X7_175 : LkV RX7 175 yX7_drifts cX7_drifts 6 none := ⟨gt_mem (tm5 (List.mem_of_getElem? (i := 125) rfl)) rfl, gt_mem (tm5 (List.mem_of_getElem? (i := 127) rfl)) rfl, gt_sel (List.mem_of_getElem? (i := 41) rfl) rfl, gt_mem (tm1 (List.mem_of_getElem? (i := 8) rfl)) rfl, gt_mem (tm5 (List.mem_of_getElem? (i := 128) rfl)) rfl⟩
theorem ds_X7_stepGoes : Ds yX7_stepGoes 1 := ⟨by decide +kernel, by decide +kernel, by decide +kernel⟩
theorem lk_X7_178 : LkV RX7 178 yX7_stepGoes cX7_stepGoes 3 none := ⟨gt_mem (tm5 (List.mem_of_getElem? (i := 110) rfl)) rfl, gt_mem (tm5 (List.mem_of_getElem? (i := 112) rfl)) rfl, gt_sel (List.mem_of_getElem? (i := 38) rfl) rfl, gt_mem (tm1 (List.mem_of_getElem? (i := 8) rfl)) rfl, gt_mem (tm5 (List.mem_of_getElem? (i := 113) rfl)) rfl⟩
theorem ds_X7_inRoom : Ds yX7_inRoom 1 := ⟨by decide +kernel, by decide +kernel, by decide +kernel⟩
theorem lk_X7_182 : LkV RX7 182 yX7_inRoom cX7_inRoom 4 (some .int) := ⟨gt_mem (tm5 (List.mem_of_getElem? (i := 15) rfl)) rfl, gt_mem (tm5 (List.mem_of_getElem? (i := 17) rfl)) rfl, gt_sel (List.mem_of_getElem? (i := 29) rfl) rfl, gt_mem (tm1 (List.mem_of_getElem? (i := 8) rfl)) rfl, gt_mem (tm5 (List.mem_of_getElem? (i := 18) rfl)) rfl⟩
theorem ds_X7_hadOf : Ds yX7_hadOf 1 := ⟨by decide +kernel, by decide +kernel, by decide +kernel⟩
theorem lk_X7_185 : LkV RX7 185 yX7_hadOf cX7_hadOf 4 (some .int) := ⟨gt_mem (tm5 (List.mem_of_getElem? (i := 27) rfl)) rfl, gt_mem (tm5 (List.mem_of_getElem? (i := 29) rfl)) rfl, gt_sel (List.mem_of_getElem? (i := 32) rfl) rfl, gt_mem (tm1 (List.mem_of_getElem? (i := 8) rfl)) rfl, gt_mem (tm5 (List.mem_of_getElem? (i := 30) rfl)) rfl⟩
theorem ds_X7_starts : Ds yX7_starts 0 := ⟨by decide +kernel, by decide +kernel, by decide +kernel⟩
theorem lk_X7_188 : LkV RX7 188 yX7_starts cX7_starts 2 none := ⟨gt_mem (tm5 (List.mem_of_getElem? (i := 7) rfl)) rfl, gt_mem (tm5 (List.mem_of_getElem? (i := 9) rfl)) rfl, gt_sel (List.mem_of_getElem? (i := 27) rfl) rfl, gt_mem (tm1 (List.mem_of_getElem? (i := 8) rfl)) rfl, gt_mem (tm5 (List.mem_of_getElem? (i := 10) rfl)) rfl⟩
theorem ds_X7_allIn : Ds yX7_allIn 0 := ⟨by decide +kernel, by decide +kernel, by decide +kernel⟩
theorem lk_X7_191 : LkV RX7 191 yX7_allIn cX7_allIn 1 (some .int) := ⟨gt_mem (tm5 (List.mem_of_getElem? (i := 11) rfl)) rfl, gt_mem (tm5 (List.mem_of_getElem? (i := 13) rfl)) rfl, gt_sel (List.mem_of_getElem? (i := 28) rfl) rfl, gt_mem (tm1 (List.mem_of_getElem? (i := 8) rfl)) rfl, gt_mem (tm5 (List.mem_of_getElem? (i := 14) rfl)) rfl⟩
theorem ds_X7_allLost : Ds yX7_allLost 0 := ⟨by decide +kernel, by decide +kernel, by decide +kernel⟩
theorem lk_X7_194 : LkV RX7 194 yX7_allLost cX7_allLost 1 (some .int) := ⟨gt_mem (tm5 (List.mem_of_getElem? (i := 19) rfl)) rfl, gt_mem (tm5 (List.mem_of_getElem? (i := 21) rfl)) rfl, gt_sel (List.mem_of_getElem? (i := 30) rfl) rfl, gt_mem (tm1 (List.mem_of_getElem? (i := 8) rfl)) rfl, gt_mem (tm5 (List.mem_of_getElem? (i := 22) rfl)) rfl⟩
theorem ds_X7_allHad : Ds yX7_allHad 0 := ⟨by decide +kernel, by decide +kernel, by decide +kernel⟩
theorem lk_X7_197 : LkV RX7 197 yX7_allHad cX7_allHad 1 (some .int) := ⟨gt_mem (tm5 (List.mem_of_getElem? (i := 23) rfl)) rfl, gt_mem (tm5 (List.mem_of_getElem? (i := 25) rfl)) rfl, gt_sel (List.mem_of_getElem? (i := 31) rfl) rfl, gt_mem (tm1 (List.mem_of_getElem? (i := 8) rfl)) rfl, gt_mem (tm5 (List.mem_of_getElem? (i := 26) rfl)) rfl⟩
theorem ds_X7_nameOf : Ds yX7_nameOf 1 := ⟨by decide +kernel, by decide +kernel, by decide +kernel⟩
theorem lk_X7_200 : LkS RX7 200 yX7_nameOf cX7_nameOf 1 (some .int) := ⟨gt_mem (tm5 (List.mem_of_getElem? (i := 42) rfl)) rfl, gt_mem (tm5 (List.mem_of_getElem? (i := 43) rfl)) rfl, gt_mem (tm1 (List.mem_of_getElem? (i := 8) rfl)) rfl, gt_mem (tm5 (List.mem_of_getElem? (i := 44) rfl)) rfl⟩
theorem ds_X7_isLife : Ds yX7_isLife 1 := ⟨by decide +kernel, by decide +kernel, by decide +kernel⟩
theorem lk_X7_203 : LkV RX7 203 yX7_isLife cX7_isLife 2 (some .boolean) := ⟨gt_mem (tm5 (List.mem_of_getElem? (i := 35) rfl)) rfl, gt_mem (tm5 (List.mem_of_getElem? (i := 37) rfl)) rfl, gt_sel (List.mem_of_getElem? (i := 33) rfl) rfl, gt_mem (tm1 (List.mem_of_getElem? (i := 8) rfl)) rfl, gt_mem (tm5 (List.mem_of_getElem? (i := 38) rfl)) rfl⟩
theorem ds_X7_asTold : Ds yX7_asTold 2 := ⟨by decide +kernel, by decide +kernel, by decide +kernel⟩
theorem lk_X7_206 : LkS RX7 206 yX7_asTold cX7_asTold 2 (some .int) := ⟨gt_mem (tm5 (List.mem_of_getElem? (i := 39) rfl)) rfl, gt_mem (tm5 (List.mem_of_getElem? (i := 40) rfl)) rfl, gt_mem (tm1 (List.mem_of_getElem? (i := 8) rfl)) rfl, gt_mem (tm5 (List.mem_of_getElem? (i := 41) rfl)) rfl⟩
theorem ds_X7_isSitter : Ds yX7_isSitter 1 := ⟨by decide +kernel, by decide +kernel, by decide +kernel⟩
theorem lk_X7_209 : LkV RX7 209 yX7_isSitter cX7_isSitter 2 (some .boolean) := ⟨gt_mem (tm5 (List.mem_of_getElem? (i := 49) rfl)) rfl, gt_mem (tm5 (List.mem_of_getElem? (i := 51) rfl)) rfl, gt_sel (List.mem_of_getElem? (i := 34) rfl) rfl, gt_mem (tm1 (List.mem_of_getElem? (i := 8) rfl)) rfl, gt_mem (tm5 (List.mem_of_getElem? (i := 52) rfl)) rfl⟩
theorem ds_X7_hadBy : Ds yX7_hadBy 1 := ⟨by decide +kernel, by decide +kernel, by decide +kernel⟩
theorem lk_X7_212 : LkV RX7 212 yX7_hadBy cX7_hadBy 4 (some .int) := ⟨gt_mem (tm5 (List.mem_of_getElem? (i := 53) rfl)) rfl, gt_mem (tm5 (List.mem_of_getElem? (i := 55) rfl)) rfl, gt_sel (List.mem_of_getElem? (i := 35) rfl) rfl, gt_mem (tm1 (List.mem_of_getElem? (i := 8) rfl)) rfl, gt_mem (tm5 (List.mem_of_getElem? (i := 56) rfl)) rfl⟩
theorem ml_X7_215 : Cond.constantLong RX7 215 (lN 5) ∈ gt := gt_mem (tm5 (List.mem_of_getElem? (i := 69) rfl)) rfl
theorem ml_X7_217 : Cond.constantLong RX7 217 (lN 9) ∈ gt := gt_mem (tm5 (List.mem_of_getElem? (i := 78) rfl)) rfl
theorem ml_X7_219 : Cond.constantLong RX7 219 (lN 99) ∈ gt := gt_mem (tm5 (List.mem_of_getElem? (i := 79) rfl)) rfl
theorem ds_X7_canBe : Ds yX7_canBe 2 := ⟨by decide +kernel, by decide +kernel, by decide +kernel⟩
theorem lk_X7_221 : LkS RX7 221 yX7_canBe cX7_canBe 2 (some .boolean) := ⟨gt_mem (tm5 (List.mem_of_getElem? (i := 74) rfl)) rfl, gt_mem (tm5 (List.mem_of_getElem? (i := 75) rfl)) rfl, gt_mem (tm1 (List.mem_of_getElem? (i := 8) rfl)) rfl, gt_mem (tm5 (List.mem_of_getElem? (i := 76) rfl)) rfl⟩
theorem ds_X7_becomes : Ds yX7_becomes 2 := ⟨by decide +kernel, by decide +kernel, by decide +kernel⟩
theorem lk_X7_225 : LkV RX7 225 yX7_becomes cX7_becomes 4 (some .int) := ⟨gt_mem (tm5 (List.mem_of_getElem? (i := 80) rfl)) rfl, gt_mem (tm5 (List.mem_of_getElem? (i := 82) rfl)) rfl, gt_sel (List.mem_of_getElem? (i := 36) rfl) rfl, gt_mem (tm1 (List.mem_of_getElem? (i := 8) rfl)) rfl, gt_mem (tm5 (List.mem_of_getElem? (i := 83) rfl)) rfl⟩
theorem ml_X7_228 : Cond.constantLong RX7 228 (lN 30) ∈ gt := gt_mem (tm5 (List.mem_of_getElem? (i := 105) rfl)) rfl
theorem ds_X7_stepsGo : Ds yX7_stepsGo 1 := ⟨by decide +kernel, by decide +kernel, by decide +kernel⟩
theorem lk_X7_230 : LkV RX7 230 yX7_stepsGo cX7_stepsGo 3 none := ⟨gt_mem (tm5 (List.mem_of_getElem? (i := 106) rfl)) rfl, gt_mem (tm5 (List.mem_of_getElem? (i := 108) rfl)) rfl, gt_sel (List.mem_of_getElem? (i := 37) rfl) rfl, gt_mem (tm1 (List.mem_of_getElem? (i := 8) rfl)) rfl, gt_mem (tm5 (List.mem_of_getElem? (i := 109) rfl)) rfl⟩
theorem ds_X7_settles : Ds yX7_settles 0 := ⟨by decide +kernel, by decide +kernel, by decide +kernel⟩
theorem lk_X7_233 : LkV RX7 233 yX7_settles cX7_settles 2 none := ⟨gt_mem (tm5 (List.mem_of_getElem? (i := 135) rfl)) rfl, gt_mem (tm5 (List.mem_of_getElem? (i := 137) rfl)) rfl, gt_sel (List.mem_of_getElem? (i := 42) rfl) rfl, gt_mem (tm1 (List.mem_of_getElem? (i := 8) rfl)) rfl, gt_mem (tm5 (List.mem_of_getElem? (i := 138) rfl)) rfl⟩
theorem ml_X7_236 : Cond.constantLong RX7 236 (lN 60) ∈ gt := gt_mem (tm5 (List.mem_of_getElem? (i := 146) rfl)) rfl
theorem ds_X7_isFar : Ds yX7_isFar 1 := ⟨by decide +kernel, by decide +kernel, by decide +kernel⟩
theorem lk_X7_238 : LkS RX7 238 yX7_isFar cX7_isFar 1 (some .boolean) := ⟨gt_mem (tm5 (List.mem_of_getElem? (i := 143) rfl)) rfl, gt_mem (tm5 (List.mem_of_getElem? (i := 144) rfl)) rfl, gt_mem (tm1 (List.mem_of_getElem? (i := 8) rfl)) rfl, gt_mem (tm5 (List.mem_of_getElem? (i := 145) rfl)) rfl⟩
theorem dX7_isTold_0 : decode cX7_isTold 0 = .ok (.iconst 0, 1) := by decide +kernel
theorem dX7_isTold_1 : decode cX7_isTold 1 = .ok (.istore_n 1, 1) := by decide +kernel
theorem dX7_isTold_2 : decode cX7_isTold 2 = .ok (.iload_n 1, 1) := by decide +kernel
theorem dX7_isTold_3 : decode cX7_isTold 3 = .ok (.aload_n 0, 1) := by decide +kernel
theorem dX7_isTold_4 : decode cX7_isTold 4 = .ok (.getfield 69, 3) := by decide +kernel
theorem dX7_isTold_7 : decode cX7_isTold 7 = .ok (.if_icmp .ge 70, 3) := by decide +kernel
theorem dX7_isTold_10 : decode cX7_isTold 10 = .ok (.iconst 4, 1) := by decide +kernel
theorem dX7_isTold_11 : decode cX7_isTold 11 = .ok (.iload_n 1, 1) := by decide +kernel
theorem dX7_isTold_12 : decode cX7_isTold 12 = .ok (.imul, 1) := by decide +kernel
theorem dX7_isTold_13 : decode cX7_isTold 13 = .ok (.istore_n 2, 1) := by decide +kernel
theorem dX7_isTold_14 : decode cX7_isTold 14 = .ok (.aload_n 0, 1) := by decide +kernel
theorem dX7_isTold_15 : decode cX7_isTold 15 = .ok (.getfield 13, 3) := by decide +kernel
theorem dX7_isTold_18 : decode cX7_isTold 18 = .ok (.iload_n 2, 1) := by decide +kernel
theorem dX7_isTold_19 : decode cX7_isTold 19 = .ok (.iconst 2, 1) := by decide +kernel
theorem dX7_isTold_20 : decode cX7_isTold 20 = .ok (.iadd, 1) := by decide +kernel
theorem dX7_isTold_21 : decode cX7_isTold 21 = .ok (.iaload, 1) := by decide +kernel
theorem dX7_isTold_22 : decode cX7_isTold 22 = .ok (.aload_n 0, 1) := by decide +kernel
theorem dX7_isTold_23 : decode cX7_isTold 23 = .ok (.getfield 13, 3) := by decide +kernel
theorem dX7_isTold_26 : decode cX7_isTold 26 = .ok (.iload_n 2, 1) := by decide +kernel
theorem dX7_isTold_27 : decode cX7_isTold 27 = .ok (.iconst 3, 1) := by decide +kernel
theorem dX7_isTold_28 : decode cX7_isTold 28 = .ok (.iadd, 1) := by decide +kernel
theorem dX7_isTold_29 : decode cX7_isTold 29 = .ok (.iaload, 1) := by decide +kernel
theorem dX7_isTold_30 : decode cX7_isTold 30 = .ok (.invokestatic 156, 3) := by decide +kernel
theorem dX7_isTold_33 : decode cX7_isTold 33 = .ok (.istore_n 3, 1) := by decide +kernel
theorem dX7_isTold_34 : decode cX7_isTold 34 = .ok (.aload_n 0, 1) := by decide +kernel
theorem dX7_isTold_35 : decode cX7_isTold 35 = .ok (.getfield 13, 3) := by decide +kernel
theorem dX7_isTold_38 : decode cX7_isTold 38 = .ok (.iload_n 2, 1) := by decide +kernel
theorem dX7_isTold_39 : decode cX7_isTold 39 = .ok (.iconst 3, 1) := by decide +kernel
theorem dX7_isTold_40 : decode cX7_isTold 40 = .ok (.iadd, 1) := by decide +kernel
theorem dX7_isTold_41 : decode cX7_isTold 41 = .ok (.dup2, 1) := by decide +kernel
theorem dX7_isTold_42 : decode cX7_isTold 42 = .ok (.iaload, 1) := by decide +kernel
theorem dX7_isTold_43 : decode cX7_isTold 43 = .ok (.iload_n 3, 1) := by decide +kernel
theorem dX7_isTold_44 : decode cX7_isTold 44 = .ok (.isub, 1) := by decide +kernel
theorem dX7_isTold_45 : decode cX7_isTold 45 = .ok (.iastore, 1) := by decide +kernel
theorem dX7_isTold_46 : decode cX7_isTold 46 = .ok (.aload_n 0, 1) := by decide +kernel
theorem dX7_isTold_47 : decode cX7_isTold 47 = .ok (.getfield 13, 3) := by decide +kernel
theorem dX7_isTold_50 : decode cX7_isTold 50 = .ok (.bipush 43, 2) := by decide +kernel
theorem dX7_isTold_52 : decode cX7_isTold 52 = .ok (.bipush 20, 2) := by decide +kernel
theorem dX7_isTold_54 : decode cX7_isTold 54 = .ok (.iload_n 1, 1) := by decide +kernel
theorem dX7_isTold_55 : decode cX7_isTold 55 = .ok (.imul, 1) := by decide +kernel
theorem dX7_isTold_56 : decode cX7_isTold 56 = .ok (.iadd, 1) := by decide +kernel
theorem dX7_isTold_57 : decode cX7_isTold 57 = .ok (.aload_n 0, 1) := by decide +kernel
theorem dX7_isTold_58 : decode cX7_isTold 58 = .ok (.getfield 13, 3) := by decide +kernel
theorem dX7_isTold_61 : decode cX7_isTold 61 = .ok (.iload_n 2, 1) := by decide +kernel
theorem dX7_isTold_62 : decode cX7_isTold 62 = .ok (.iconst 1, 1) := by decide +kernel
theorem dX7_isTold_63 : decode cX7_isTold 63 = .ok (.iadd, 1) := by decide +kernel
theorem dX7_isTold_64 : decode cX7_isTold 64 = .ok (.iaload, 1) := by decide +kernel
theorem dX7_isTold_65 : decode cX7_isTold 65 = .ok (.iadd, 1) := by decide +kernel
theorem dX7_isTold_66 : decode cX7_isTold 66 = .ok (.dup2, 1) := by decide +kernel
theorem dX7_isTold_67 : decode cX7_isTold 67 = .ok (.iaload, 1) := by decide +kernel
theorem dX7_isTold_68 : decode cX7_isTold 68 = .ok (.iload_n 3, 1) := by decide +kernel
theorem dX7_isTold_69 : decode cX7_isTold 69 = .ok (.iadd, 1) := by decide +kernel
theorem dX7_isTold_70 : decode cX7_isTold 70 = .ok (.iastore, 1) := by decide +kernel
theorem dX7_isTold_71 : decode cX7_isTold 71 = .ok (.iinc 1 1, 3) := by decide +kernel
theorem dX7_isTold_74 : decode cX7_isTold 74 = .ok (.goto (-72), 3) := by decide +kernel
theorem dX7_isTold_77 : decode cX7_isTold 77 = .ok (.return_, 1) := by decide +kernel
def f_X7_isTold_L2 (v1 : Int32) (s : St) : Option ((Int32 × St) ⊕ (Unit × St)) := if (s.1 189 3) ≤ v1 then (some (Sum.inr (((), s)))) else (bd ((nI 4) * v1) (fun x2 => if inb (x2 + (nI 2)) (lnI 191) = true then if inb (x2 + (nI 3)) (lnI 191) = true then cl (f_X7_lesser (s.1 191 ((x2 + (nI 2))).toNatClampNeg) (s.1 191 ((x2 + (nI 3))).toNatClampNeg) s) (fun x6 s5 => bd (wI s5 191 ((x2 + (nI 3))).toNatClampNeg ((s5.1 191 ((x2 + (nI 3))).toNatClampNeg) - x6)) (fun s7 => if inb (x2 + (nI 1)) (lnI 191) = true then if inb (((nI 43) + ((nI 20) * v1)) + (s7.1 191 ((x2 + (nI 1))).toNatClampNeg)) (lnI 191) = true then bd (wI s7 191 ((((nI 43) + ((nI 20) * v1)) + (s7.1 191 ((x2 + (nI 1))).toNatClampNeg))).toNatClampNeg ((s7.1 191 ((((nI 43) + ((nI 20) * v1)) + (s7.1 191 ((x2 + (nI 1))).toNatClampNeg))).toNatClampNeg) + x6)) (fun s10 => some (Sum.inl ((v1 + (nI 1)), s10))) else none else none)) else none else none))
def f_X7_isTold (s : St) : Option (Unit × St) := lp (fun q : Int32 × St => f_X7_isTold_L2 q.1 q.2) Fu ((nI 0), s)
set_option maxHeartbeats 4000000 in
set_option maxRecDepth 100000 in
theorem e_X7_isTold_L2 {X : Cx} {Γ : Gm} {r0 : Rb} (hX : Amb X Γ cX7_isTold RX7 4 none 1) {v1 : Int32} {s : St} {t : (Int32 × St) ⊕ (Unit × St)} (h : f_X7_isTold_L2 v1 s = some t) (hk : (Sum.elim (fun q : Int32 × St => Zw X Γ 4 r0 q.2 2 [(0, .ref (gL Γ (189))), (1, .int q.1)] []) (fun t : Unit × St => Rt X Γ r0 (none, t.2))) t) : Zw X Γ 4 r0 s 2 [(0, .ref (gL Γ (189))), (1, .int v1)] [] := by
  unfold f_X7_isTold_L2 at h
  refine z_iload_n hX dX7_isTold_2 1 rfl 3 rfl ?_
  refine z_aload_n hX dX7_isTold_3 0 rfl 4 rfl ?_
  refine z_get7 hX (k := 189) (j := 3) (v := .int ((s.1 189 3))) kdc_189 (by decide) rfl dX7_isTold_4 fl_X7_69 7 rfl ?_
  refine z_icmp_ge hX 77 dX7_isTold_7 (by decide) 10 rfl (fun c1 => ?_) (fun c1 => ?_)
  · replace h := br_pos h c1
    replace h := Option.some.inj h
    subst h
    exact z_vret hX dX7_isTold_77 rfl hk
  · replace h := br_neg h c1
    refine z_iconst hX (v := (nI 4)) dX7_isTold_10 rfl 11 rfl ?_
    refine z_iload_n hX dX7_isTold_11 1 rfl 12 rfl ?_
    refine z_imul hX dX7_isTold_12 13 rfl ?_
    replace h := bd_elim h
    obtain ⟨x2, ex2, h⟩ := h
    refine z_nm ex2 ?_
    refine z_istore_n hX (lv2 := [(2, .int x2), (0, .ref (gL Γ (189))), (1, .int v1)]) dX7_isTold_13 (by decide) rfl 14 rfl ?_
    refine z_aload_n hX dX7_isTold_14 1 rfl 15 rfl ?_
    refine z_get7 hX (k := 189) (j := 1) (v := .ref (gL Γ (191))) kdc_189 (by decide) rfl dX7_isTold_15 fl_X7_13 18 rfl ?_
    refine z_iload_n hX dX7_isTold_18 0 rfl 19 rfl ?_
    refine z_iconst hX (v := (nI 2)) dX7_isTold_19 rfl 20 rfl ?_
    refine z_iadd hX dX7_isTold_20 21 rfl ?_
    replace h := gd_elim h
    obtain ⟨g3, h⟩ := h
    refine z_iald hX (inb_vp g3) dX7_isTold_21 22 rfl ?_
    refine z_aload_n hX dX7_isTold_22 1 rfl 23 rfl ?_
    refine z_get7 hX (k := 189) (j := 1) (v := .ref (gL Γ (191))) kdc_189 (by decide) rfl dX7_isTold_23 fl_X7_13 26 rfl ?_
    refine z_iload_n hX dX7_isTold_26 0 rfl 27 rfl ?_
    refine z_iconst hX (v := (nI 3)) dX7_isTold_27 rfl 28 rfl ?_
    refine z_iadd hX dX7_isTold_28 29 rfl ?_
    replace h := gd_elim h
    obtain ⟨g4, h⟩ := h
    refine z_iald hX (inb_vp g4) dX7_isTold_29 30 rfl ?_
    replace h := cl_elim h
    obtain ⟨x6, s5, hx6, h⟩ := h
    refine z_cSi hX (As := [.int ((s.1 191 ((x2 + (nI 2))).toNatClampNeg)), .int ((s.1 191 ((x2 + (nI 3))).toNatClampNeg))]) (c_X7_lesser hx6) lk_X7_156 ds_X7_lesser rfl (by decide) (by decide) (by decide) dX7_isTold_30 rfl 33 rfl ?_
    refine z_istore_n hX (lv2 := [(3, .int x6), (2, .int x2), (0, .ref (gL Γ (189))), (1, .int v1)]) dX7_isTold_33 (by decide) rfl 34 rfl ?_
    refine z_aload_n hX dX7_isTold_34 2 rfl 35 rfl ?_
    refine z_get7 hX (k := 189) (j := 1) (v := .ref (gL Γ (191))) kdc_189 (by decide) rfl dX7_isTold_35 fl_X7_13 38 rfl ?_
    refine z_iload_n hX dX7_isTold_38 1 rfl 39 rfl ?_
    refine z_iconst hX (v := (nI 3)) dX7_isTold_39 rfl 40 rfl ?_
    refine z_iadd hX dX7_isTold_40 41 rfl ?_
    refine z_dup2 hX dX7_isTold_41 rfl rfl 42 rfl ?_
    refine z_iald hX (inb_vp g4) dX7_isTold_42 43 rfl ?_
    refine z_iload_n hX dX7_isTold_43 0 rfl 44 rfl ?_
    refine z_isub hX dX7_isTold_44 45 rfl ?_
    replace h := bd_elim h
    obtain ⟨s7, es7, h⟩ := h
    refine z_iast hX (inb_vp g4) dX7_isTold_45 es7 46 rfl ?_
    refine z_aload_n hX dX7_isTold_46 2 rfl 47 rfl ?_
    refine z_get7 hX (k := 189) (j := 1) (v := .ref (gL Γ (191))) kdc_189 (by decide) rfl dX7_isTold_47 fl_X7_13 50 rfl ?_
    refine z_bipush hX (v := (nI 43)) dX7_isTold_50 (by decide) 52 rfl ?_
    refine z_bipush hX (v := (nI 20)) dX7_isTold_52 (by decide) 54 rfl ?_
    refine z_iload_n hX dX7_isTold_54 3 rfl 55 rfl ?_
    refine z_imul hX dX7_isTold_55 56 rfl ?_
    refine z_iadd hX dX7_isTold_56 57 rfl ?_
    refine z_aload_n hX dX7_isTold_57 2 rfl 58 rfl ?_
    refine z_get7 hX (k := 189) (j := 1) (v := .ref (gL Γ (191))) kdc_189 (by decide) rfl dX7_isTold_58 fl_X7_13 61 rfl ?_
    refine z_iload_n hX dX7_isTold_61 1 rfl 62 rfl ?_
    refine z_iconst hX (v := (nI 1)) dX7_isTold_62 rfl 63 rfl ?_
    refine z_iadd hX dX7_isTold_63 64 rfl ?_
    replace h := gd_elim h
    obtain ⟨g8, h⟩ := h
    refine z_iald hX (inb_vp g8) dX7_isTold_64 65 rfl ?_
    refine z_iadd hX dX7_isTold_65 66 rfl ?_
    refine z_dup2 hX dX7_isTold_66 rfl rfl 67 rfl ?_
    replace h := gd_elim h
    obtain ⟨g9, h⟩ := h
    refine z_iald hX (inb_vp g9) dX7_isTold_67 68 rfl ?_
    refine z_iload_n hX dX7_isTold_68 0 rfl 69 rfl ?_
    refine z_iadd hX dX7_isTold_69 70 rfl ?_
    replace h := bd_elim h
    obtain ⟨s10, es10, h⟩ := h
    refine z_iast hX (inb_vp g9) dX7_isTold_70 es10 71 rfl ?_
    refine z_iinc hX (v := (v1 + (nI 1))) (lv2 := [(1, .int ((v1 + (nI 1)))), (3, .int x6), (2, .int x2), (0, .ref (gL Γ (189)))]) dX7_isTold_71 3 rfl rfl (by decide) rfl 74 rfl ?_
    refine z_goto hX 2 dX7_isTold_74 (by decide) ?_
    replace h := Option.some.inj h
    subst h
    exact z_sub [3, 0] rfl hk
set_option maxHeartbeats 4000000 in
set_option maxRecDepth 100000 in
theorem e_X7_isTold {X : Cx} {Γ : Gm} {r0 : Rb} (hX : Amb X Γ cX7_isTold RX7 4 none 1) {s : St} {t : Unit × St} (h : f_X7_isTold s = some t) (hk : (fun t : Unit × St => Rt X Γ r0 (none, t.2)) t) : Zw X Γ 4 r0 s 0 [(0, .ref (gL Γ (189)))] [] := by
  unfold f_X7_isTold at h
  refine z_iconst hX (v := (nI 0)) dX7_isTold_0 rfl 1 rfl ?_
  refine z_istore_n hX (lv2 := [(1, .int ((nI 0))), (0, .ref (gL Γ (189)))]) dX7_isTold_1 (by decide) rfl 2 rfl ?_
  exact z_sub [1, 0] rfl (lp_ok (Z := fun q : Int32 × St => Zw X Γ 4 r0 q.2 2 [(0, .ref (gL Γ (189))), (1, .int q.1)] []) (fun q t h hk => e_X7_isTold_L2 hX h hk) Fu _ _ h hk)
theorem c_X7_isTold {lc : Launch} {Γ : Gm} {s s2 : St} {v : Unit} (h : f_X7_isTold s = some (v, s2)) : Ct lc Γ yX7_isTold cX7_isTold 4 none 1 [.ref (gL Γ (189))] s (none, s2) := Ct.of (by decide +kernel) (Nat.le_of_ble_eq_true rfl) (fun X hl hX => e_X7_isTold hX h rfl)
theorem dX7_isTaken_0 : decode cX7_isTaken 0 = .ok (.iconst 0, 1) := by decide +kernel
theorem dX7_isTaken_1 : decode cX7_isTaken 1 = .ok (.istore_n 1, 1) := by decide +kernel
theorem dX7_isTaken_2 : decode cX7_isTaken 2 = .ok (.iload_n 1, 1) := by decide +kernel
theorem dX7_isTaken_3 : decode cX7_isTaken 3 = .ok (.aload_n 0, 1) := by decide +kernel
theorem dX7_isTaken_4 : decode cX7_isTaken 4 = .ok (.getfield 72, 3) := by decide +kernel
theorem dX7_isTaken_7 : decode cX7_isTaken 7 = .ok (.if_icmp .ge 108, 3) := by decide +kernel
theorem dX7_isTaken_10 : decode cX7_isTaken 10 = .ok (.aload_n 0, 1) := by decide +kernel
theorem dX7_isTaken_11 : decode cX7_isTaken 11 = .ok (.getfield 13, 3) := by decide +kernel
theorem dX7_isTaken_14 : decode cX7_isTaken 14 = .ok (.bipush 12, 2) := by decide +kernel
theorem dX7_isTaken_16 : decode cX7_isTaken 16 = .ok (.iconst 2, 1) := by decide +kernel
theorem dX7_isTaken_17 : decode cX7_isTaken 17 = .ok (.iload_n 1, 1) := by decide +kernel
theorem dX7_isTaken_18 : decode cX7_isTaken 18 = .ok (.imul, 1) := by decide +kernel
theorem dX7_isTaken_19 : decode cX7_isTaken 19 = .ok (.iadd, 1) := by decide +kernel
theorem dX7_isTaken_20 : decode cX7_isTaken 20 = .ok (.iconst 1, 1) := by decide +kernel
theorem dX7_isTaken_21 : decode cX7_isTaken 21 = .ok (.iadd, 1) := by decide +kernel
theorem dX7_isTaken_22 : decode cX7_isTaken 22 = .ok (.iaload, 1) := by decide +kernel
theorem dX7_isTaken_23 : decode cX7_isTaken 23 = .ok (.istore_n 2, 1) := by decide +kernel
theorem dX7_isTaken_24 : decode cX7_isTaken 24 = .ok (.iconst 0, 1) := by decide +kernel
theorem dX7_isTaken_25 : decode cX7_isTaken 25 = .ok (.istore_n 3, 1) := by decide +kernel
theorem dX7_isTaken_26 : decode cX7_isTaken 26 = .ok (.iload_n 3, 1) := by decide +kernel
theorem dX7_isTaken_27 : decode cX7_isTaken 27 = .ok (.aload_n 0, 1) := by decide +kernel
theorem dX7_isTaken_28 : decode cX7_isTaken 28 = .ok (.getfield 69, 3) := by decide +kernel
theorem dX7_isTaken_31 : decode cX7_isTaken 31 = .ok (.if_icmp .ge 78, 3) := by decide +kernel
theorem dX7_isTaken_34 : decode cX7_isTaken 34 = .ok (.bipush 43, 2) := by decide +kernel
theorem dX7_isTaken_36 : decode cX7_isTaken 36 = .ok (.bipush 20, 2) := by decide +kernel
theorem dX7_isTaken_38 : decode cX7_isTaken 38 = .ok (.iload_n 3, 1) := by decide +kernel
theorem dX7_isTaken_39 : decode cX7_isTaken 39 = .ok (.imul, 1) := by decide +kernel
theorem dX7_isTaken_40 : decode cX7_isTaken 40 = .ok (.iadd, 1) := by decide +kernel
theorem dX7_isTaken_41 : decode cX7_isTaken 41 = .ok (.aload_n 0, 1) := by decide +kernel
theorem dX7_isTaken_42 : decode cX7_isTaken 42 = .ok (.getfield 13, 3) := by decide +kernel
theorem dX7_isTaken_45 : decode cX7_isTaken 45 = .ok (.bipush 12, 2) := by decide +kernel
theorem dX7_isTaken_47 : decode cX7_isTaken 47 = .ok (.iconst 2, 1) := by decide +kernel
theorem dX7_isTaken_48 : decode cX7_isTaken 48 = .ok (.iload_n 1, 1) := by decide +kernel
theorem dX7_isTaken_49 : decode cX7_isTaken 49 = .ok (.imul, 1) := by decide +kernel
theorem dX7_isTaken_50 : decode cX7_isTaken 50 = .ok (.iadd, 1) := by decide +kernel
theorem dX7_isTaken_51 : decode cX7_isTaken 51 = .ok (.iaload, 1) := by decide +kernel
theorem dX7_isTaken_52 : decode cX7_isTaken 52 = .ok (.iadd, 1) := by decide +kernel
theorem dX7_isTaken_53 : decode cX7_isTaken 53 = .ok (.istore 4, 2) := by decide +kernel
theorem dX7_isTaken_55 : decode cX7_isTaken 55 = .ok (.iload_n 2, 1) := by decide +kernel
theorem dX7_isTaken_56 : decode cX7_isTaken 56 = .ok (.aload_n 0, 1) := by decide +kernel
theorem dX7_isTaken_57 : decode cX7_isTaken 57 = .ok (.getfield 13, 3) := by decide +kernel
theorem dX7_isTaken_60 : decode cX7_isTaken 60 = .ok (.iload 4, 2) := by decide +kernel
theorem dX7_isTaken_62 : decode cX7_isTaken 62 = .ok (.iaload, 1) := by decide +kernel
theorem dX7_isTaken_63 : decode cX7_isTaken 63 = .ok (.invokestatic 156, 3) := by decide +kernel
theorem dX7_isTaken_66 : decode cX7_isTaken 66 = .ok (.istore 5, 2) := by decide +kernel
theorem dX7_isTaken_68 : decode cX7_isTaken 68 = .ok (.aload_n 0, 1) := by decide +kernel
theorem dX7_isTaken_69 : decode cX7_isTaken 69 = .ok (.getfield 13, 3) := by decide +kernel
theorem dX7_isTaken_72 : decode cX7_isTaken 72 = .ok (.iload 4, 2) := by decide +kernel
theorem dX7_isTaken_74 : decode cX7_isTaken 74 = .ok (.dup2, 1) := by decide +kernel
theorem dX7_isTaken_75 : decode cX7_isTaken 75 = .ok (.iaload, 1) := by decide +kernel
theorem dX7_isTaken_76 : decode cX7_isTaken 76 = .ok (.iload 5, 2) := by decide +kernel
theorem dX7_isTaken_78 : decode cX7_isTaken 78 = .ok (.isub, 1) := by decide +kernel
theorem dX7_isTaken_79 : decode cX7_isTaken 79 = .ok (.iastore, 1) := by decide +kernel
theorem dX7_isTaken_80 : decode cX7_isTaken 80 = .ok (.aload_n 0, 1) := by decide +kernel
theorem dX7_isTaken_81 : decode cX7_isTaken 81 = .ok (.getfield 13, 3) := by decide +kernel
theorem dX7_isTaken_84 : decode cX7_isTaken 84 = .ok (.bipush 20, 2) := by decide +kernel
theorem dX7_isTaken_86 : decode cX7_isTaken 86 = .ok (.iconst 3, 1) := by decide +kernel
theorem dX7_isTaken_87 : decode cX7_isTaken 87 = .ok (.iload_n 1, 1) := by decide +kernel
theorem dX7_isTaken_88 : decode cX7_isTaken 88 = .ok (.imul, 1) := by decide +kernel
theorem dX7_isTaken_89 : decode cX7_isTaken 89 = .ok (.iadd, 1) := by decide +kernel
theorem dX7_isTaken_90 : decode cX7_isTaken 90 = .ok (.iload_n 3, 1) := by decide +kernel
theorem dX7_isTaken_91 : decode cX7_isTaken 91 = .ok (.iadd, 1) := by decide +kernel
theorem dX7_isTaken_92 : decode cX7_isTaken 92 = .ok (.dup2, 1) := by decide +kernel
theorem dX7_isTaken_93 : decode cX7_isTaken 93 = .ok (.iaload, 1) := by decide +kernel
theorem dX7_isTaken_94 : decode cX7_isTaken 94 = .ok (.iload 5, 2) := by decide +kernel
theorem dX7_isTaken_96 : decode cX7_isTaken 96 = .ok (.iadd, 1) := by decide +kernel
theorem dX7_isTaken_97 : decode cX7_isTaken 97 = .ok (.iastore, 1) := by decide +kernel
theorem dX7_isTaken_98 : decode cX7_isTaken 98 = .ok (.iload_n 2, 1) := by decide +kernel
theorem dX7_isTaken_99 : decode cX7_isTaken 99 = .ok (.iload 5, 2) := by decide +kernel
theorem dX7_isTaken_101 : decode cX7_isTaken 101 = .ok (.isub, 1) := by decide +kernel
theorem dX7_isTaken_102 : decode cX7_isTaken 102 = .ok (.istore_n 2, 1) := by decide +kernel
theorem dX7_isTaken_103 : decode cX7_isTaken 103 = .ok (.iinc 3 1, 3) := by decide +kernel
theorem dX7_isTaken_106 : decode cX7_isTaken 106 = .ok (.goto (-80), 3) := by decide +kernel
theorem dX7_isTaken_109 : decode cX7_isTaken 109 = .ok (.iinc 1 1, 3) := by decide +kernel
theorem dX7_isTaken_112 : decode cX7_isTaken 112 = .ok (.goto (-110), 3) := by decide +kernel
theorem dX7_isTaken_115 : decode cX7_isTaken 115 = .ok (.return_, 1) := by decide +kernel
def f_X7_isTaken_L26 (v1 : Int32) (v2 : Int32) (v3 : Int32) (s : St) : Option ((Int32 × Int32 × St) ⊕ ((Int32 × St) ⊕ (Unit × St))) := if (s.1 189 3) ≤ v3 then (some (Sum.inr (Sum.inl ((v1 + (nI 1)), s)))) else (if inb ((nI 12) + ((nI 2) * v1)) (lnI 191) = true then bd (((nI 43) + ((nI 20) * v3)) + (s.1 191 (((nI 12) + ((nI 2) * v1))).toNatClampNeg)) (fun x6 => if inb x6 (lnI 191) = true then cl (f_X7_lesser v2 (s.1 191 (x6).toNatClampNeg) s) (fun x9 s8 => bd (wI s8 191 (x6).toNatClampNeg ((s8.1 191 (x6).toNatClampNeg) - x9)) (fun s10 => if inb (((nI 20) + ((nI 3) * v1)) + v3) (lnI 191) = true then bd (wI s10 191 ((((nI 20) + ((nI 3) * v1)) + v3)).toNatClampNeg ((s10.1 191 ((((nI 20) + ((nI 3) * v1)) + v3)).toNatClampNeg) + x9)) (fun s12 => bd (v2 - x9) (fun x13 => some (Sum.inl (x13, (v3 + (nI 1)), s12)))) else none)) else none) else none)
def f_X7_isTaken_L2 (v1 : Int32) (s : St) : Option ((Int32 × St) ⊕ (Unit × St)) := if (s.1 189 4) ≤ v1 then (some (Sum.inr (((), s)))) else (if inb (((nI 12) + ((nI 2) * v1)) + (nI 1)) (lnI 191) = true then bd (s.1 191 ((((nI 12) + ((nI 2) * v1)) + (nI 1))).toNatClampNeg) (fun x3 => lp (fun q : Int32 × Int32 × St => f_X7_isTaken_L26 v1 q.1 q.2.1 q.2.2) Fu (x3, (nI 0), s)) else none)
def f_X7_isTaken (s : St) : Option (Unit × St) := lp (fun q : Int32 × St => f_X7_isTaken_L2 q.1 q.2) Fu ((nI 0), s)
set_option maxHeartbeats 4000000 in
set_option maxRecDepth 100000 in
theorem e_X7_isTaken_L26 {X : Cx} {Γ : Gm} {r0 : Rb} (hX : Amb X Γ cX7_isTaken RX7 6 none 1) {v1 : Int32} {v2 : Int32} {v3 : Int32} {s : St} {t : (Int32 × Int32 × St) ⊕ ((Int32 × St) ⊕ (Unit × St))} (h : f_X7_isTaken_L26 v1 v2 v3 s = some t) (hk : (Sum.elim (fun q : Int32 × Int32 × St => Zw X Γ 6 r0 q.2.2 26 [(0, .ref (gL Γ (189))), (1, .int v1), (2, .int q.1), (3, .int q.2.1)] []) (Sum.elim (fun q : Int32 × St => Zw X Γ 6 r0 q.2 2 [(0, .ref (gL Γ (189))), (1, .int q.1)] []) (fun t : Unit × St => Rt X Γ r0 (none, t.2)))) t) : Zw X Γ 6 r0 s 26 [(0, .ref (gL Γ (189))), (1, .int v1), (2, .int v2), (3, .int v3)] [] := by
  unfold f_X7_isTaken_L26 at h
  refine z_iload_n hX dX7_isTaken_26 3 rfl 27 rfl ?_
  refine z_aload_n hX dX7_isTaken_27 0 rfl 28 rfl ?_
  refine z_get7 hX (k := 189) (j := 3) (v := .int ((s.1 189 3))) kdc_189 (by decide) rfl dX7_isTaken_28 fl_X7_69 31 rfl ?_
  refine z_icmp_ge hX 109 dX7_isTaken_31 (by decide) 34 rfl (fun c4 => ?_) (fun c4 => ?_)
  · replace h := br_pos h c4
    refine z_iinc hX (v := (v1 + (nI 1))) (lv2 := [(1, .int ((v1 + (nI 1)))), (0, .ref (gL Γ (189))), (2, .int v2), (3, .int v3)]) dX7_isTaken_109 1 rfl rfl (by decide) rfl 112 rfl ?_
    refine z_goto hX 2 dX7_isTaken_112 (by decide) ?_
    replace h := Option.some.inj h
    subst h
    exact z_sub [1, 0] rfl hk
  · replace h := br_neg h c4
    refine z_bipush hX (v := (nI 43)) dX7_isTaken_34 (by decide) 36 rfl ?_
    refine z_bipush hX (v := (nI 20)) dX7_isTaken_36 (by decide) 38 rfl ?_
    refine z_iload_n hX dX7_isTaken_38 3 rfl 39 rfl ?_
    refine z_imul hX dX7_isTaken_39 40 rfl ?_
    refine z_iadd hX dX7_isTaken_40 41 rfl ?_
    refine z_aload_n hX dX7_isTaken_41 0 rfl 42 rfl ?_
    refine z_get7 hX (k := 189) (j := 1) (v := .ref (gL Γ (191))) kdc_189 (by decide) rfl dX7_isTaken_42 fl_X7_13 45 rfl ?_
    refine z_bipush hX (v := (nI 12)) dX7_isTaken_45 (by decide) 47 rfl ?_
    refine z_iconst hX (v := (nI 2)) dX7_isTaken_47 rfl 48 rfl ?_
    refine z_iload_n hX dX7_isTaken_48 1 rfl 49 rfl ?_
    refine z_imul hX dX7_isTaken_49 50 rfl ?_
    refine z_iadd hX dX7_isTaken_50 51 rfl ?_
    replace h := gd_elim h
    obtain ⟨g5, h⟩ := h
    refine z_iald hX (inb_vp g5) dX7_isTaken_51 52 rfl ?_
    refine z_iadd hX dX7_isTaken_52 53 rfl ?_
    replace h := bd_elim h
    obtain ⟨x6, ex6, h⟩ := h
    refine z_nm ex6 ?_
    refine z_istore hX (lv2 := [(4, .int x6), (0, .ref (gL Γ (189))), (1, .int v1), (2, .int v2), (3, .int v3)]) dX7_isTaken_53 (by decide) rfl 55 rfl ?_
    refine z_iload_n hX dX7_isTaken_55 3 rfl 56 rfl ?_
    refine z_aload_n hX dX7_isTaken_56 1 rfl 57 rfl ?_
    refine z_get7 hX (k := 189) (j := 1) (v := .ref (gL Γ (191))) kdc_189 (by decide) rfl dX7_isTaken_57 fl_X7_13 60 rfl ?_
    refine z_iload hX dX7_isTaken_60 0 rfl 62 rfl ?_
    replace h := gd_elim h
    obtain ⟨g7, h⟩ := h
    refine z_iald hX (inb_vp g7) dX7_isTaken_62 63 rfl ?_
    replace h := cl_elim h
    obtain ⟨x9, s8, hx9, h⟩ := h
    refine z_cSi hX (As := [.int v2, .int ((s.1 191 (x6).toNatClampNeg))]) (c_X7_lesser hx9) lk_X7_156 ds_X7_lesser rfl (by decide) (by decide) (by decide) dX7_isTaken_63 rfl 66 rfl ?_
    refine z_istore hX (lv2 := [(5, .int x9), (4, .int x6), (0, .ref (gL Γ (189))), (1, .int v1), (2, .int v2), (3, .int v3)]) dX7_isTaken_66 (by decide) rfl 68 rfl ?_
    refine z_aload_n hX dX7_isTaken_68 2 rfl 69 rfl ?_
    refine z_get7 hX (k := 189) (j := 1) (v := .ref (gL Γ (191))) kdc_189 (by decide) rfl dX7_isTaken_69 fl_X7_13 72 rfl ?_
    refine z_iload hX dX7_isTaken_72 1 rfl 74 rfl ?_
    refine z_dup2 hX dX7_isTaken_74 rfl rfl 75 rfl ?_
    refine z_iald hX (inb_vp g7) dX7_isTaken_75 76 rfl ?_
    refine z_iload hX dX7_isTaken_76 0 rfl 78 rfl ?_
    refine z_isub hX dX7_isTaken_78 79 rfl ?_
    replace h := bd_elim h
    obtain ⟨s10, es10, h⟩ := h
    refine z_iast hX (inb_vp g7) dX7_isTaken_79 es10 80 rfl ?_
    refine z_aload_n hX dX7_isTaken_80 2 rfl 81 rfl ?_
    refine z_get7 hX (k := 189) (j := 1) (v := .ref (gL Γ (191))) kdc_189 (by decide) rfl dX7_isTaken_81 fl_X7_13 84 rfl ?_
    refine z_bipush hX (v := (nI 20)) dX7_isTaken_84 (by decide) 86 rfl ?_
    refine z_iconst hX (v := (nI 3)) dX7_isTaken_86 rfl 87 rfl ?_
    refine z_iload_n hX dX7_isTaken_87 3 rfl 88 rfl ?_
    refine z_imul hX dX7_isTaken_88 89 rfl ?_
    refine z_iadd hX dX7_isTaken_89 90 rfl ?_
    refine z_iload_n hX dX7_isTaken_90 5 rfl 91 rfl ?_
    refine z_iadd hX dX7_isTaken_91 92 rfl ?_
    refine z_dup2 hX dX7_isTaken_92 rfl rfl 93 rfl ?_
    replace h := gd_elim h
    obtain ⟨g11, h⟩ := h
    refine z_iald hX (inb_vp g11) dX7_isTaken_93 94 rfl ?_
    refine z_iload hX dX7_isTaken_94 0 rfl 96 rfl ?_
    refine z_iadd hX dX7_isTaken_96 97 rfl ?_
    replace h := bd_elim h
    obtain ⟨s12, es12, h⟩ := h
    refine z_iast hX (inb_vp g11) dX7_isTaken_97 es12 98 rfl ?_
    refine z_iload_n hX dX7_isTaken_98 4 rfl 99 rfl ?_
    refine z_iload hX dX7_isTaken_99 0 rfl 101 rfl ?_
    refine z_isub hX dX7_isTaken_101 102 rfl ?_
    replace h := bd_elim h
    obtain ⟨x13, ex13, h⟩ := h
    refine z_nm ex13 ?_
    refine z_istore_n hX (lv2 := [(2, .int x13), (5, .int x9), (4, .int x6), (0, .ref (gL Γ (189))), (1, .int v1), (3, .int v3)]) dX7_isTaken_102 (by decide) rfl 103 rfl ?_
    refine z_iinc hX (v := (v3 + (nI 1))) (lv2 := [(3, .int ((v3 + (nI 1)))), (2, .int x13), (5, .int x9), (4, .int x6), (0, .ref (gL Γ (189))), (1, .int v1)]) dX7_isTaken_103 5 rfl rfl (by decide) rfl 106 rfl ?_
    refine z_goto hX 26 dX7_isTaken_106 (by decide) ?_
    replace h := Option.some.inj h
    subst h
    exact z_sub [4, 5, 1, 0] rfl hk
set_option maxHeartbeats 4000000 in
set_option maxRecDepth 100000 in
theorem e_X7_isTaken_L2 {X : Cx} {Γ : Gm} {r0 : Rb} (hX : Amb X Γ cX7_isTaken RX7 6 none 1) {v1 : Int32} {s : St} {t : (Int32 × St) ⊕ (Unit × St)} (h : f_X7_isTaken_L2 v1 s = some t) (hk : (Sum.elim (fun q : Int32 × St => Zw X Γ 6 r0 q.2 2 [(0, .ref (gL Γ (189))), (1, .int q.1)] []) (fun t : Unit × St => Rt X Γ r0 (none, t.2))) t) : Zw X Γ 6 r0 s 2 [(0, .ref (gL Γ (189))), (1, .int v1)] [] := by
  unfold f_X7_isTaken_L2 at h
  refine z_iload_n hX dX7_isTaken_2 1 rfl 3 rfl ?_
  refine z_aload_n hX dX7_isTaken_3 0 rfl 4 rfl ?_
  refine z_get7 hX (k := 189) (j := 4) (v := .int ((s.1 189 4))) kdc_189 (by decide) rfl dX7_isTaken_4 fl_X7_72 7 rfl ?_
  refine z_icmp_ge hX 115 dX7_isTaken_7 (by decide) 10 rfl (fun c1 => ?_) (fun c1 => ?_)
  · replace h := br_pos h c1
    replace h := Option.some.inj h
    subst h
    exact z_vret hX dX7_isTaken_115 rfl hk
  · replace h := br_neg h c1
    refine z_aload_n hX dX7_isTaken_10 0 rfl 11 rfl ?_
    refine z_get7 hX (k := 189) (j := 1) (v := .ref (gL Γ (191))) kdc_189 (by decide) rfl dX7_isTaken_11 fl_X7_13 14 rfl ?_
    refine z_bipush hX (v := (nI 12)) dX7_isTaken_14 (by decide) 16 rfl ?_
    refine z_iconst hX (v := (nI 2)) dX7_isTaken_16 rfl 17 rfl ?_
    refine z_iload_n hX dX7_isTaken_17 1 rfl 18 rfl ?_
    refine z_imul hX dX7_isTaken_18 19 rfl ?_
    refine z_iadd hX dX7_isTaken_19 20 rfl ?_
    refine z_iconst hX (v := (nI 1)) dX7_isTaken_20 rfl 21 rfl ?_
    refine z_iadd hX dX7_isTaken_21 22 rfl ?_
    replace h := gd_elim h
    obtain ⟨g2, h⟩ := h
    refine z_iald hX (inb_vp g2) dX7_isTaken_22 23 rfl ?_
    replace h := bd_elim h
    obtain ⟨x3, ex3, h⟩ := h
    refine z_nm ex3 ?_
    refine z_istore_n hX (lv2 := [(2, .int x3), (0, .ref (gL Γ (189))), (1, .int v1)]) dX7_isTaken_23 (by decide) rfl 24 rfl ?_
    refine z_iconst hX (v := (nI 0)) dX7_isTaken_24 rfl 25 rfl ?_
    refine z_istore_n hX (lv2 := [(3, .int ((nI 0))), (2, .int x3), (0, .ref (gL Γ (189))), (1, .int v1)]) dX7_isTaken_25 (by decide) rfl 26 rfl ?_
    exact z_sub [2, 3, 1, 0] rfl (lp_ok (Z := fun q : Int32 × Int32 × St => Zw X Γ 6 r0 q.2.2 26 [(0, .ref (gL Γ (189))), (1, .int v1), (2, .int q.1), (3, .int q.2.1)] []) (fun q t h hk => e_X7_isTaken_L26 hX h hk) Fu _ _ h hk)
set_option maxHeartbeats 4000000 in
set_option maxRecDepth 100000 in
theorem e_X7_isTaken {X : Cx} {Γ : Gm} {r0 : Rb} (hX : Amb X Γ cX7_isTaken RX7 6 none 1) {s : St} {t : Unit × St} (h : f_X7_isTaken s = some t) (hk : (fun t : Unit × St => Rt X Γ r0 (none, t.2)) t) : Zw X Γ 6 r0 s 0 [(0, .ref (gL Γ (189)))] [] := by
  unfold f_X7_isTaken at h
  refine z_iconst hX (v := (nI 0)) dX7_isTaken_0 rfl 1 rfl ?_
  refine z_istore_n hX (lv2 := [(1, .int ((nI 0))), (0, .ref (gL Γ (189)))]) dX7_isTaken_1 (by decide) rfl 2 rfl ?_
  exact z_sub [1, 0] rfl (lp_ok (Z := fun q : Int32 × St => Zw X Γ 6 r0 q.2 2 [(0, .ref (gL Γ (189))), (1, .int q.1)] []) (fun q t h hk => e_X7_isTaken_L2 hX h hk) Fu _ _ h hk)
theorem c_X7_isTaken {lc : Launch} {Γ : Gm} {s s2 : St} {v : Unit} (h : f_X7_isTaken s = some (v, s2)) : Ct lc Γ yX7_isTaken cX7_isTaken 6 none 1 [.ref (gL Γ (189))] s (none, s2) := Ct.of (by decide +kernel) (Nat.le_of_ble_eq_true rfl) (fun X hl hX => e_X7_isTaken hX h rfl)
theorem dX7_nextCell_0 : decode cX7_nextCell 0 = .ok (.iload_n 0, 1) := by decide +kernel
theorem dX7_nextCell_1 : decode cX7_nextCell 1 = .ok (.iconst 4, 1) := by decide +kernel
theorem dX7_nextCell_2 : decode cX7_nextCell 2 = .ok (.idiv, 1) := by decide +kernel
theorem dX7_nextCell_3 : decode cX7_nextCell 3 = .ok (.iload_n 1, 1) := by decide +kernel
theorem dX7_nextCell_4 : decode cX7_nextCell 4 = .ok (.iconst 1, 1) := by decide +kernel
theorem dX7_nextCell_5 : decode cX7_nextCell 5 = .ok (.if_icmp .ne 7, 3) := by decide +kernel
theorem dX7_nextCell_8 : decode cX7_nextCell 8 = .ok (.iconst 1, 1) := by decide +kernel
theorem dX7_nextCell_9 : decode cX7_nextCell 9 = .ok (.goto 13, 3) := by decide +kernel
theorem dX7_nextCell_12 : decode cX7_nextCell 12 = .ok (.iload_n 1, 1) := by decide +kernel
theorem dX7_nextCell_13 : decode cX7_nextCell 13 = .ok (.iconst 2, 1) := by decide +kernel
theorem dX7_nextCell_14 : decode cX7_nextCell 14 = .ok (.if_icmp .ne 7, 3) := by decide +kernel
theorem dX7_nextCell_17 : decode cX7_nextCell 17 = .ok (.iconst (-1), 1) := by decide +kernel
theorem dX7_nextCell_18 : decode cX7_nextCell 18 = .ok (.goto 4, 3) := by decide +kernel
theorem dX7_nextCell_21 : decode cX7_nextCell 21 = .ok (.iconst 0, 1) := by decide +kernel
theorem dX7_nextCell_22 : decode cX7_nextCell 22 = .ok (.iadd, 1) := by decide +kernel
theorem dX7_nextCell_23 : decode cX7_nextCell 23 = .ok (.istore_n 2, 1) := by decide +kernel
theorem dX7_nextCell_24 : decode cX7_nextCell 24 = .ok (.iload_n 0, 1) := by decide +kernel
theorem dX7_nextCell_25 : decode cX7_nextCell 25 = .ok (.iconst 4, 1) := by decide +kernel
theorem dX7_nextCell_26 : decode cX7_nextCell 26 = .ok (.irem, 1) := by decide +kernel
theorem dX7_nextCell_27 : decode cX7_nextCell 27 = .ok (.iload_n 1, 1) := by decide +kernel
theorem dX7_nextCell_28 : decode cX7_nextCell 28 = .ok (.iconst 3, 1) := by decide +kernel
theorem dX7_nextCell_29 : decode cX7_nextCell 29 = .ok (.if_icmp .ne 7, 3) := by decide +kernel
theorem dX7_nextCell_32 : decode cX7_nextCell 32 = .ok (.iconst 1, 1) := by decide +kernel
theorem dX7_nextCell_33 : decode cX7_nextCell 33 = .ok (.goto 13, 3) := by decide +kernel
theorem dX7_nextCell_36 : decode cX7_nextCell 36 = .ok (.iload_n 1, 1) := by decide +kernel
theorem dX7_nextCell_37 : decode cX7_nextCell 37 = .ok (.iconst 4, 1) := by decide +kernel
theorem dX7_nextCell_38 : decode cX7_nextCell 38 = .ok (.if_icmp .ne 7, 3) := by decide +kernel
theorem dX7_nextCell_41 : decode cX7_nextCell 41 = .ok (.iconst (-1), 1) := by decide +kernel
theorem dX7_nextCell_42 : decode cX7_nextCell 42 = .ok (.goto 4, 3) := by decide +kernel
theorem dX7_nextCell_45 : decode cX7_nextCell 45 = .ok (.iconst 0, 1) := by decide +kernel
theorem dX7_nextCell_46 : decode cX7_nextCell 46 = .ok (.iadd, 1) := by decide +kernel
theorem dX7_nextCell_47 : decode cX7_nextCell 47 = .ok (.istore_n 3, 1) := by decide +kernel
theorem dX7_nextCell_48 : decode cX7_nextCell 48 = .ok (.iload_n 2, 1) := by decide +kernel
theorem dX7_nextCell_49 : decode cX7_nextCell 49 = .ok (.i2l, 1) := by decide +kernel
theorem dX7_nextCell_50 : decode cX7_nextCell 50 = .ok (.lconst 0, 1) := by decide +kernel
theorem dX7_nextCell_51 : decode cX7_nextCell 51 = .ok (.ldc2_w 159, 3) := by decide +kernel
theorem dX7_nextCell_54 : decode cX7_nextCell 54 = .ok (.invokestatic 52, 3) := by decide +kernel
theorem dX7_nextCell_57 : decode cX7_nextCell 57 = .ok (.ifCond .eq 23, 3) := by decide +kernel
theorem dX7_nextCell_60 : decode cX7_nextCell 60 = .ok (.iload_n 3, 1) := by decide +kernel
theorem dX7_nextCell_61 : decode cX7_nextCell 61 = .ok (.i2l, 1) := by decide +kernel
theorem dX7_nextCell_62 : decode cX7_nextCell 62 = .ok (.lconst 0, 1) := by decide +kernel
theorem dX7_nextCell_63 : decode cX7_nextCell 63 = .ok (.ldc2_w 161, 3) := by decide +kernel
theorem dX7_nextCell_66 : decode cX7_nextCell 66 = .ok (.invokestatic 52, 3) := by decide +kernel
theorem dX7_nextCell_69 : decode cX7_nextCell 69 = .ok (.ifCond .eq 11, 3) := by decide +kernel
theorem dX7_nextCell_72 : decode cX7_nextCell 72 = .ok (.iconst 4, 1) := by decide +kernel
theorem dX7_nextCell_73 : decode cX7_nextCell 73 = .ok (.iload_n 2, 1) := by decide +kernel
theorem dX7_nextCell_74 : decode cX7_nextCell 74 = .ok (.imul, 1) := by decide +kernel
theorem dX7_nextCell_75 : decode cX7_nextCell 75 = .ok (.iload_n 3, 1) := by decide +kernel
theorem dX7_nextCell_76 : decode cX7_nextCell 76 = .ok (.iadd, 1) := by decide +kernel
theorem dX7_nextCell_77 : decode cX7_nextCell 77 = .ok (.goto 5, 3) := by decide +kernel
theorem dX7_nextCell_80 : decode cX7_nextCell 80 = .ok (.bipush (-4), 2) := by decide +kernel
theorem dX7_nextCell_82 : decode cX7_nextCell 82 = .ok (.ireturn, 1) := by decide +kernel
def f_X7_nextCell_J46 (v2 : Int32) (k0 : Int32) (k1 : Int32) (s : St) : Option (Int32 × St) := bd (k1 + k0) (fun x6 => cl (f_X7_within ((v2).toInt64) (lN 0) (lN 4) s) (fun x8 s7 => if x8 = 0 then (some (((-4), s7))) else (cl (f_X7_within ((x6).toInt64) (lN 0) (lN 3) s7) (fun x11 s10 => if x11 = 0 then (some (((-4), s10))) else (some (((((nI 4) * v2) + x6), s10)))))))
def f_X7_nextCell_J22 (v0 : Int32) (v1 : Int32) (k0 : Int32) (k1 : Int32) (s : St) : Option (Int32 × St) := bd (k1 + k0) (fun x3 => if ¬ v1 = (nI 3) then (if ¬ v1 = (nI 4) then (f_X7_nextCell_J46 x3 (nI 0) (v0 - v0 / (nI 4) * (nI 4)) s) else (f_X7_nextCell_J46 x3 (-1) (v0 - v0 / (nI 4) * (nI 4)) s)) else (f_X7_nextCell_J46 x3 (nI 1) (v0 - v0 / (nI 4) * (nI 4)) s))
def f_X7_nextCell (a0 : Int32) (a1 : Int32) (s : St) : Option (Int32 × St) := if ¬ a1 = (nI 1) then (if ¬ a1 = (nI 2) then (f_X7_nextCell_J22 a0 a1 (nI 0) (a0 / (nI 4)) s) else (f_X7_nextCell_J22 a0 a1 (-1) (a0 / (nI 4)) s)) else (f_X7_nextCell_J22 a0 a1 (nI 1) (a0 / (nI 4)) s)
set_option maxHeartbeats 4000000 in
set_option maxRecDepth 100000 in
theorem e_X7_nextCell_J46 {X : Cx} {Γ : Gm} {r0 : Rb} (hX : Amb X Γ cX7_nextCell RX7 4 (some .int) 1) {v2 : Int32} {k0 : Int32} {k1 : Int32} {s : St} {t : Int32 × St} (h : f_X7_nextCell_J46 v2 k0 k1 s = some t) (hk : (fun t : Int32 × St => Rt X Γ r0 (some (Value.int t.1), t.2)) t) : Zw X Γ 4 r0 s 46 [(2, .int v2)] [.int k0, .int k1] := by
  unfold f_X7_nextCell_J46 at h
  refine z_iadd hX dX7_nextCell_46 47 rfl ?_
  replace h := bd_elim h
  obtain ⟨x6, ex6, h⟩ := h
  refine z_nm ex6 ?_
  refine z_istore_n hX (lv2 := [(3, .int x6), (2, .int v2)]) dX7_nextCell_47 (by decide) rfl 48 rfl ?_
  refine z_iload_n hX dX7_nextCell_48 1 rfl 49 rfl ?_
  refine z_i2l hX dX7_nextCell_49 50 rfl ?_
  refine z_lconst hX (v := (lN 0)) dX7_nextCell_50 rfl 51 rfl ?_
  refine z_ldc2 hX (v := (lN 4)) dX7_nextCell_51 ml_X7_159 54 rfl ?_
  replace h := cl_elim h
  obtain ⟨x8, s7, hx8, h⟩ := h
  refine z_cSi hX (As := [.long ((v2).toInt64), .long ((lN 0)), .long ((lN 4))]) (c_X7_within hx8) lk_X7_52 ds_X7_within rfl (by decide) (by decide) (by decide) dX7_nextCell_54 rfl 57 rfl ?_
  refine z_if_eq hX 80 dX7_nextCell_57 (by decide) 60 rfl (fun c9 => ?_) (fun c9 => ?_)
  · replace h := br_pos h c9
    refine z_bipush hX (v := (-4)) dX7_nextCell_80 (by decide) 82 rfl ?_
    replace h := Option.some.inj h
    subst h
    exact z_iret hX dX7_nextCell_82 rfl hk
  · replace h := br_neg h c9
    refine z_iload_n hX dX7_nextCell_60 0 rfl 61 rfl ?_
    refine z_i2l hX dX7_nextCell_61 62 rfl ?_
    refine z_lconst hX (v := (lN 0)) dX7_nextCell_62 rfl 63 rfl ?_
    refine z_ldc2 hX (v := (lN 3)) dX7_nextCell_63 ml_X7_161 66 rfl ?_
    replace h := cl_elim h
    obtain ⟨x11, s10, hx11, h⟩ := h
    refine z_cSi hX (As := [.long ((x6).toInt64), .long ((lN 0)), .long ((lN 3))]) (c_X7_within hx11) lk_X7_52 ds_X7_within rfl (by decide) (by decide) (by decide) dX7_nextCell_66 rfl 69 rfl ?_
    refine z_if_eq hX 80 dX7_nextCell_69 (by decide) 72 rfl (fun c12 => ?_) (fun c12 => ?_)
    · replace h := br_pos h c12
      refine z_bipush hX (v := (-4)) dX7_nextCell_80 (by decide) 82 rfl ?_
      replace h := Option.some.inj h
      subst h
      exact z_iret hX dX7_nextCell_82 rfl hk
    · replace h := br_neg h c12
      refine z_iconst hX (v := (nI 4)) dX7_nextCell_72 rfl 73 rfl ?_
      refine z_iload_n hX dX7_nextCell_73 1 rfl 74 rfl ?_
      refine z_imul hX dX7_nextCell_74 75 rfl ?_
      refine z_iload_n hX dX7_nextCell_75 0 rfl 76 rfl ?_
      refine z_iadd hX dX7_nextCell_76 77 rfl ?_
      refine z_goto hX 82 dX7_nextCell_77 (by decide) ?_
      replace h := Option.some.inj h
      subst h
      exact z_iret hX dX7_nextCell_82 rfl hk
set_option maxHeartbeats 4000000 in
set_option maxRecDepth 100000 in
theorem e_X7_nextCell_J22 {X : Cx} {Γ : Gm} {r0 : Rb} (hX : Amb X Γ cX7_nextCell RX7 4 (some .int) 1) {v0 : Int32} {v1 : Int32} {k0 : Int32} {k1 : Int32} {s : St} {t : Int32 × St} (h : f_X7_nextCell_J22 v0 v1 k0 k1 s = some t) (hk : (fun t : Int32 × St => Rt X Γ r0 (some (Value.int t.1), t.2)) t) : Zw X Γ 4 r0 s 22 [(0, .int v0), (1, .int v1)] [.int k0, .int k1] := by
  unfold f_X7_nextCell_J22 at h
  refine z_iadd hX dX7_nextCell_22 23 rfl ?_
  replace h := bd_elim h
  obtain ⟨x3, ex3, h⟩ := h
  refine z_nm ex3 ?_
  refine z_istore_n hX (lv2 := [(2, .int x3), (0, .int v0), (1, .int v1)]) dX7_nextCell_23 (by decide) rfl 24 rfl ?_
  refine z_iload_n hX dX7_nextCell_24 1 rfl 25 rfl ?_
  refine z_iconst hX (v := (nI 4)) dX7_nextCell_25 rfl 26 rfl ?_
  refine z_irem hX dX7_nextCell_26 (by decide) 27 rfl ?_
  refine z_iload_n hX dX7_nextCell_27 2 rfl 28 rfl ?_
  refine z_iconst hX (v := (nI 3)) dX7_nextCell_28 rfl 29 rfl ?_
  refine z_icmp_ne hX 36 dX7_nextCell_29 (by decide) 32 rfl (fun c4 => ?_) (fun c4 => ?_)
  · replace h := br_pos h c4
    refine z_iload_n hX dX7_nextCell_36 2 rfl 37 rfl ?_
    refine z_iconst hX (v := (nI 4)) dX7_nextCell_37 rfl 38 rfl ?_
    refine z_icmp_ne hX 45 dX7_nextCell_38 (by decide) 41 rfl (fun c5 => ?_) (fun c5 => ?_)
    · replace h := br_pos h c5
      refine z_iconst hX (v := (nI 0)) dX7_nextCell_45 rfl 46 rfl ?_
      exact z_sub [0] rfl (e_X7_nextCell_J46 hX h hk)
    · replace h := br_neg h c5
      refine z_iconst hX (v := (-1)) dX7_nextCell_41 rfl 42 rfl ?_
      refine z_goto hX 46 dX7_nextCell_42 (by decide) ?_
      exact z_sub [0] rfl (e_X7_nextCell_J46 hX h hk)
  · replace h := br_neg h c4
    refine z_iconst hX (v := (nI 1)) dX7_nextCell_32 rfl 33 rfl ?_
    refine z_goto hX 46 dX7_nextCell_33 (by decide) ?_
    exact z_sub [0] rfl (e_X7_nextCell_J46 hX h hk)
set_option maxHeartbeats 4000000 in
set_option maxRecDepth 100000 in
theorem e_X7_nextCell {X : Cx} {Γ : Gm} {r0 : Rb} (hX : Amb X Γ cX7_nextCell RX7 4 (some .int) 1) {a0 : Int32} {a1 : Int32} {s : St} {t : Int32 × St} (h : f_X7_nextCell a0 a1 s = some t) (hk : (fun t : Int32 × St => Rt X Γ r0 (some (Value.int t.1), t.2)) t) : Zw X Γ 4 r0 s 0 [(0, .int a0), (1, .int a1)] [] := by
  unfold f_X7_nextCell at h
  refine z_iload_n hX dX7_nextCell_0 0 rfl 1 rfl ?_
  refine z_iconst hX (v := (nI 4)) dX7_nextCell_1 rfl 2 rfl ?_
  refine z_idiv hX dX7_nextCell_2 (by decide) 3 rfl ?_
  refine z_iload_n hX dX7_nextCell_3 1 rfl 4 rfl ?_
  refine z_iconst hX (v := (nI 1)) dX7_nextCell_4 rfl 5 rfl ?_
  refine z_icmp_ne hX 12 dX7_nextCell_5 (by decide) 8 rfl (fun c1 => ?_) (fun c1 => ?_)
  · replace h := br_pos h c1
    refine z_iload_n hX dX7_nextCell_12 1 rfl 13 rfl ?_
    refine z_iconst hX (v := (nI 2)) dX7_nextCell_13 rfl 14 rfl ?_
    refine z_icmp_ne hX 21 dX7_nextCell_14 (by decide) 17 rfl (fun c2 => ?_) (fun c2 => ?_)
    · replace h := br_pos h c2
      refine z_iconst hX (v := (nI 0)) dX7_nextCell_21 rfl 22 rfl ?_
      exact z_sub [0, 1] rfl (e_X7_nextCell_J22 hX h hk)
    · replace h := br_neg h c2
      refine z_iconst hX (v := (-1)) dX7_nextCell_17 rfl 18 rfl ?_
      refine z_goto hX 22 dX7_nextCell_18 (by decide) ?_
      exact z_sub [0, 1] rfl (e_X7_nextCell_J22 hX h hk)
  · replace h := br_neg h c1
    refine z_iconst hX (v := (nI 1)) dX7_nextCell_8 rfl 9 rfl ?_
    refine z_goto hX 22 dX7_nextCell_9 (by decide) ?_
    exact z_sub [0, 1] rfl (e_X7_nextCell_J22 hX h hk)
theorem c_X7_nextCell {lc : Launch} {Γ : Gm} {a0 : Int32} {a1 : Int32} {s s2 : St} {v : Int32} (h : f_X7_nextCell a0 a1 s = some (v, s2)) : Ct lc Γ yX7_nextCell cX7_nextCell 4 (some .int) 1 [.int a0, .int a1] s (some (.int v), s2) := Ct.of (by decide +kernel) (Nat.le_of_ble_eq_true rfl) (fun X hl hX => e_X7_nextCell hX h rfl)
theorem dX7_drifts_0 : decode cX7_drifts 0 = .ok (.iconst 0, 1) := by decide +kernel
theorem dX7_drifts_1 : decode cX7_drifts 1 = .ok (.istore_n 2, 1) := by decide +kernel
theorem dX7_drifts_2 : decode cX7_drifts 2 = .ok (.iload_n 2, 1) := by decide +kernel
theorem dX7_drifts_3 : decode cX7_drifts 3 = .ok (.aload_n 0, 1) := by decide +kernel
theorem dX7_drifts_4 : decode cX7_drifts 4 = .ok (.getfield 69, 3) := by decide +kernel
theorem dX7_drifts_7 : decode cX7_drifts 7 = .ok (.if_icmp .ge 153, 3) := by decide +kernel
theorem dX7_drifts_10 : decode cX7_drifts 10 = .ok (.bipush 43, 2) := by decide +kernel
theorem dX7_drifts_12 : decode cX7_drifts 12 = .ok (.bipush 20, 2) := by decide +kernel
theorem dX7_drifts_14 : decode cX7_drifts 14 = .ok (.iload_n 2, 1) := by decide +kernel
theorem dX7_drifts_15 : decode cX7_drifts 15 = .ok (.imul, 1) := by decide +kernel
theorem dX7_drifts_16 : decode cX7_drifts 16 = .ok (.iadd, 1) := by decide +kernel
theorem dX7_drifts_17 : decode cX7_drifts 17 = .ok (.istore_n 3, 1) := by decide +kernel
theorem dX7_drifts_18 : decode cX7_drifts 18 = .ok (.iconst 0, 1) := by decide +kernel
theorem dX7_drifts_19 : decode cX7_drifts 19 = .ok (.istore 4, 2) := by decide +kernel
theorem dX7_drifts_21 : decode cX7_drifts 21 = .ok (.iload 4, 2) := by decide +kernel
theorem dX7_drifts_23 : decode cX7_drifts 23 = .ok (.bipush 20, 2) := by decide +kernel
theorem dX7_drifts_25 : decode cX7_drifts 25 = .ok (.if_icmp .ge 38, 3) := by decide +kernel
theorem dX7_drifts_28 : decode cX7_drifts 28 = .ok (.aload_n 0, 1) := by decide +kernel
theorem dX7_drifts_29 : decode cX7_drifts 29 = .ok (.getfield 26, 3) := by decide +kernel
theorem dX7_drifts_32 : decode cX7_drifts 32 = .ok (.iload 4, 2) := by decide +kernel
theorem dX7_drifts_34 : decode cX7_drifts 34 = .ok (.aload_n 0, 1) := by decide +kernel
theorem dX7_drifts_35 : decode cX7_drifts 35 = .ok (.getfield 13, 3) := by decide +kernel
theorem dX7_drifts_38 : decode cX7_drifts 38 = .ok (.iconst 4, 1) := by decide +kernel
theorem dX7_drifts_39 : decode cX7_drifts 39 = .ok (.iload_n 2, 1) := by decide +kernel
theorem dX7_drifts_40 : decode cX7_drifts 40 = .ok (.imul, 1) := by decide +kernel
theorem dX7_drifts_41 : decode cX7_drifts 41 = .ok (.iconst 0, 1) := by decide +kernel
theorem dX7_drifts_42 : decode cX7_drifts 42 = .ok (.iadd, 1) := by decide +kernel
theorem dX7_drifts_43 : decode cX7_drifts 43 = .ok (.iaload, 1) := by decide +kernel
theorem dX7_drifts_44 : decode cX7_drifts 44 = .ok (.aload_n 0, 1) := by decide +kernel
theorem dX7_drifts_45 : decode cX7_drifts 45 = .ok (.getfield 13, 3) := by decide +kernel
theorem dX7_drifts_48 : decode cX7_drifts 48 = .ok (.iload_n 3, 1) := by decide +kernel
theorem dX7_drifts_49 : decode cX7_drifts 49 = .ok (.iload 4, 2) := by decide +kernel
theorem dX7_drifts_51 : decode cX7_drifts 51 = .ok (.iadd, 1) := by decide +kernel
theorem dX7_drifts_52 : decode cX7_drifts 52 = .ok (.iaload, 1) := by decide +kernel
theorem dX7_drifts_53 : decode cX7_drifts 53 = .ok (.invokestatic 163, 3) := by decide +kernel
theorem dX7_drifts_56 : decode cX7_drifts 56 = .ok (.iastore, 1) := by decide +kernel
theorem dX7_drifts_57 : decode cX7_drifts 57 = .ok (.iinc 4 1, 3) := by decide +kernel
theorem dX7_drifts_60 : decode cX7_drifts 60 = .ok (.goto (-39), 3) := by decide +kernel
theorem dX7_drifts_63 : decode cX7_drifts 63 = .ok (.iconst 0, 1) := by decide +kernel
theorem dX7_drifts_64 : decode cX7_drifts 64 = .ok (.istore 4, 2) := by decide +kernel
theorem dX7_drifts_66 : decode cX7_drifts 66 = .ok (.iload 4, 2) := by decide +kernel
theorem dX7_drifts_68 : decode cX7_drifts 68 = .ok (.bipush 20, 2) := by decide +kernel
theorem dX7_drifts_70 : decode cX7_drifts 70 = .ok (.if_icmp .ge 84, 3) := by decide +kernel
theorem dX7_drifts_73 : decode cX7_drifts 73 = .ok (.iload 4, 2) := by decide +kernel
theorem dX7_drifts_75 : decode cX7_drifts 75 = .ok (.iload_n 1, 1) := by decide +kernel
theorem dX7_drifts_76 : decode cX7_drifts 76 = .ok (.invokestatic 166, 3) := by decide +kernel
theorem dX7_drifts_79 : decode cX7_drifts 79 = .ok (.istore 5, 2) := by decide +kernel
theorem dX7_drifts_81 : decode cX7_drifts 81 = .ok (.aload_n 0, 1) := by decide +kernel
theorem dX7_drifts_82 : decode cX7_drifts 82 = .ok (.getfield 13, 3) := by decide +kernel
theorem dX7_drifts_85 : decode cX7_drifts 85 = .ok (.iload_n 3, 1) := by decide +kernel
theorem dX7_drifts_86 : decode cX7_drifts 86 = .ok (.iload 4, 2) := by decide +kernel
theorem dX7_drifts_88 : decode cX7_drifts 88 = .ok (.iadd, 1) := by decide +kernel
theorem dX7_drifts_89 : decode cX7_drifts 89 = .ok (.dup2, 1) := by decide +kernel
theorem dX7_drifts_90 : decode cX7_drifts 90 = .ok (.iaload, 1) := by decide +kernel
theorem dX7_drifts_91 : decode cX7_drifts 91 = .ok (.aload_n 0, 1) := by decide +kernel
theorem dX7_drifts_92 : decode cX7_drifts 92 = .ok (.getfield 26, 3) := by decide +kernel
theorem dX7_drifts_95 : decode cX7_drifts 95 = .ok (.iload 4, 2) := by decide +kernel
theorem dX7_drifts_97 : decode cX7_drifts 97 = .ok (.iaload, 1) := by decide +kernel
theorem dX7_drifts_98 : decode cX7_drifts 98 = .ok (.isub, 1) := by decide +kernel
theorem dX7_drifts_99 : decode cX7_drifts 99 = .ok (.iastore, 1) := by decide +kernel
theorem dX7_drifts_100 : decode cX7_drifts 100 = .ok (.iload 5, 2) := by decide +kernel
theorem dX7_drifts_102 : decode cX7_drifts 102 = .ok (.bipush (-4), 2) := by decide +kernel
theorem dX7_drifts_104 : decode cX7_drifts 104 = .ok (.if_icmp .ne 25, 3) := by decide +kernel
theorem dX7_drifts_107 : decode cX7_drifts 107 = .ok (.aload_n 0, 1) := by decide +kernel
theorem dX7_drifts_108 : decode cX7_drifts 108 = .ok (.getfield 13, 3) := by decide +kernel
theorem dX7_drifts_111 : decode cX7_drifts 111 = .ok (.bipush 103, 2) := by decide +kernel
theorem dX7_drifts_113 : decode cX7_drifts 113 = .ok (.iload_n 2, 1) := by decide +kernel
theorem dX7_drifts_114 : decode cX7_drifts 114 = .ok (.iadd, 1) := by decide +kernel
theorem dX7_drifts_115 : decode cX7_drifts 115 = .ok (.dup2, 1) := by decide +kernel
theorem dX7_drifts_116 : decode cX7_drifts 116 = .ok (.iaload, 1) := by decide +kernel
theorem dX7_drifts_117 : decode cX7_drifts 117 = .ok (.aload_n 0, 1) := by decide +kernel
theorem dX7_drifts_118 : decode cX7_drifts 118 = .ok (.getfield 26, 3) := by decide +kernel
theorem dX7_drifts_121 : decode cX7_drifts 121 = .ok (.iload 4, 2) := by decide +kernel
theorem dX7_drifts_123 : decode cX7_drifts 123 = .ok (.iaload, 1) := by decide +kernel
theorem dX7_drifts_124 : decode cX7_drifts 124 = .ok (.iadd, 1) := by decide +kernel
theorem dX7_drifts_125 : decode cX7_drifts 125 = .ok (.iastore, 1) := by decide +kernel
theorem dX7_drifts_126 : decode cX7_drifts 126 = .ok (.goto 22, 3) := by decide +kernel
theorem dX7_drifts_129 : decode cX7_drifts 129 = .ok (.aload_n 0, 1) := by decide +kernel
theorem dX7_drifts_130 : decode cX7_drifts 130 = .ok (.getfield 13, 3) := by decide +kernel
theorem dX7_drifts_133 : decode cX7_drifts 133 = .ok (.iload_n 3, 1) := by decide +kernel
theorem dX7_drifts_134 : decode cX7_drifts 134 = .ok (.iload 5, 2) := by decide +kernel
theorem dX7_drifts_136 : decode cX7_drifts 136 = .ok (.iadd, 1) := by decide +kernel
theorem dX7_drifts_137 : decode cX7_drifts 137 = .ok (.dup2, 1) := by decide +kernel
theorem dX7_drifts_138 : decode cX7_drifts 138 = .ok (.iaload, 1) := by decide +kernel
theorem dX7_drifts_139 : decode cX7_drifts 139 = .ok (.aload_n 0, 1) := by decide +kernel
theorem dX7_drifts_140 : decode cX7_drifts 140 = .ok (.getfield 26, 3) := by decide +kernel
theorem dX7_drifts_143 : decode cX7_drifts 143 = .ok (.iload 4, 2) := by decide +kernel
theorem dX7_drifts_145 : decode cX7_drifts 145 = .ok (.iaload, 1) := by decide +kernel
theorem dX7_drifts_146 : decode cX7_drifts 146 = .ok (.iadd, 1) := by decide +kernel
theorem dX7_drifts_147 : decode cX7_drifts 147 = .ok (.iastore, 1) := by decide +kernel
theorem dX7_drifts_148 : decode cX7_drifts 148 = .ok (.iinc 4 1, 3) := by decide +kernel
theorem dX7_drifts_151 : decode cX7_drifts 151 = .ok (.goto (-85), 3) := by decide +kernel
theorem dX7_drifts_154 : decode cX7_drifts 154 = .ok (.iinc 2 1, 3) := by decide +kernel
theorem dX7_drifts_157 : decode cX7_drifts 157 = .ok (.goto (-155), 3) := by decide +kernel
theorem dX7_drifts_160 : decode cX7_drifts 160 = .ok (.return_, 1) := by decide +kernel
def f_X7_drifts_L66 (v1 : Int32) (v2 : Int32) (v3 : Int32) (v4 : Int32) (s : St) : Option ((Int32 × St) ⊕ ((Int32 × St) ⊕ (Unit × St))) := if (nI 20) ≤ v4 then (some (Sum.inr (Sum.inl ((v2 + (nI 1)), s)))) else (cl (f_X7_nextCell v4 v1 s) (fun x12 s11 => if inb (v3 + v4) (lnI 191) = true then if inb v4 (lnI 195) = true then bd (wI s11 191 ((v3 + v4)).toNatClampNeg ((s11.1 191 ((v3 + v4)).toNatClampNeg) - (s11.1 195 (v4).toNatClampNeg))) (fun s15 => if ¬ x12 = (-4) then (if inb (v3 + x12) (lnI 191) = true then bd (wI s15 191 ((v3 + x12)).toNatClampNeg ((s15.1 191 ((v3 + x12)).toNatClampNeg) + (s15.1 195 (v4).toNatClampNeg))) (fun s18 => some (Sum.inl ((v4 + (nI 1)), s18))) else none) else (if inb ((nI 103) + v2) (lnI 191) = true then bd (wI s15 191 (((nI 103) + v2)).toNatClampNeg ((s15.1 191 (((nI 103) + v2)).toNatClampNeg) + (s15.1 195 (v4).toNatClampNeg))) (fun s20 => some (Sum.inl ((v4 + (nI 1)), s20))) else none)) else none else none))
def f_X7_drifts_L21 (v1 : Int32) (v2 : Int32) (v3 : Int32) (v4 : Int32) (s : St) : Option ((Int32 × St) ⊕ ((Int32 × St) ⊕ (Unit × St))) := if (nI 20) ≤ v4 then (ox (lp (fun q : Int32 × St => f_X7_drifts_L66 v1 v2 v3 q.1 q.2) Fu ((nI 0), s))) else (if inb (((nI 4) * v2) + (nI 0)) (lnI 191) = true then if inb (v3 + v4) (lnI 191) = true then cl (f_X7_moves (s.1 191 ((((nI 4) * v2) + (nI 0))).toNatClampNeg) (s.1 191 ((v3 + v4)).toNatClampNeg) s) (fun x7 s6 => if inb v4 (lnI 195) = true then bd (wI s6 195 (v4).toNatClampNeg x7) (fun s9 => some (Sum.inl ((v4 + (nI 1)), s9))) else none) else none else none)
def f_X7_drifts_L2 (v1 : Int32) (v2 : Int32) (s : St) : Option ((Int32 × St) ⊕ (Unit × St)) := if (s.1 189 3) ≤ v2 then (some (Sum.inr (((), s)))) else (bd ((nI 43) + ((nI 20) * v2)) (fun x2 => lp (fun q : Int32 × St => f_X7_drifts_L21 v1 v2 x2 q.1 q.2) Fu ((nI 0), s)))
def f_X7_drifts (a1 : Int32) (s : St) : Option (Unit × St) := lp (fun q : Int32 × St => f_X7_drifts_L2 a1 q.1 q.2) Fu ((nI 0), s)
set_option maxHeartbeats 4000000 in
set_option maxRecDepth 100000 in
theorem e_X7_drifts_L66 {X : Cx} {Γ : Gm} {r0 : Rb} (hX : Amb X Γ cX7_drifts RX7 6 none 2) {v1 : Int32} {v2 : Int32} {v3 : Int32} {v4 : Int32} {s : St} {t : (Int32 × St) ⊕ ((Int32 × St) ⊕ (Unit × St))} (h : f_X7_drifts_L66 v1 v2 v3 v4 s = some t) (hk : (Sum.elim (fun q : Int32 × St => Zw X Γ 6 r0 q.2 66 [(0, .ref (gL Γ (189))), (1, .int v1), (2, .int v2), (3, .int v3), (4, .int q.1)] []) (Sum.elim (fun q : Int32 × St => Zw X Γ 6 r0 q.2 2 [(0, .ref (gL Γ (189))), (1, .int v1), (2, .int q.1)] []) (fun t : Unit × St => Rt X Γ r0 (none, t.2)))) t) : Zw X Γ 6 r0 s 66 [(0, .ref (gL Γ (189))), (1, .int v1), (2, .int v2), (3, .int v3), (4, .int v4)] [] := by
  unfold f_X7_drifts_L66 at h
  refine z_iload hX dX7_drifts_66 4 rfl 68 rfl ?_
  refine z_bipush hX (v := (nI 20)) dX7_drifts_68 (by decide) 70 rfl ?_
  refine z_icmp_ge hX 154 dX7_drifts_70 (by decide) 73 rfl (fun c10 => ?_) (fun c10 => ?_)
  · replace h := br_pos h c10
    refine z_iinc hX (v := (v2 + (nI 1))) (lv2 := [(2, .int ((v2 + (nI 1)))), (0, .ref (gL Γ (189))), (1, .int v1), (3, .int v3), (4, .int v4)]) dX7_drifts_154 2 rfl rfl (by decide) rfl 157 rfl ?_
    refine z_goto hX 2 dX7_drifts_157 (by decide) ?_
    replace h := Option.some.inj h
    subst h
    exact z_sub [1, 2, 0] rfl hk
  · replace h := br_neg h c10
    refine z_iload hX dX7_drifts_73 4 rfl 75 rfl ?_
    refine z_iload_n hX dX7_drifts_75 1 rfl 76 rfl ?_
    replace h := cl_elim h
    obtain ⟨x12, s11, hx12, h⟩ := h
    refine z_cSi hX (As := [.int v4, .int v1]) (c_X7_nextCell hx12) lk_X7_166 ds_X7_nextCell rfl (by decide) (by decide) (by decide) dX7_drifts_76 rfl 79 rfl ?_
    refine z_istore hX (lv2 := [(5, .int x12), (0, .ref (gL Γ (189))), (1, .int v1), (2, .int v2), (3, .int v3), (4, .int v4)]) dX7_drifts_79 (by decide) rfl 81 rfl ?_
    refine z_aload_n hX dX7_drifts_81 1 rfl 82 rfl ?_
    refine z_get7 hX (k := 189) (j := 1) (v := .ref (gL Γ (191))) kdc_189 (by decide) rfl dX7_drifts_82 fl_X7_13 85 rfl ?_
    refine z_iload_n hX dX7_drifts_85 4 rfl 86 rfl ?_
    refine z_iload hX dX7_drifts_86 5 rfl 88 rfl ?_
    refine z_iadd hX dX7_drifts_88 89 rfl ?_
    refine z_dup2 hX dX7_drifts_89 rfl rfl 90 rfl ?_
    replace h := gd_elim h
    obtain ⟨g13, h⟩ := h
    refine z_iald hX (inb_vp g13) dX7_drifts_90 91 rfl ?_
    refine z_aload_n hX dX7_drifts_91 1 rfl 92 rfl ?_
    refine z_get7 hX (k := 189) (j := 18) (v := .ref (gL Γ (195))) kdc_189 (by decide) rfl dX7_drifts_92 fl_X7_26 95 rfl ?_
    refine z_iload hX dX7_drifts_95 5 rfl 97 rfl ?_
    replace h := gd_elim h
    obtain ⟨g14, h⟩ := h
    refine z_iald hX (inb_vp g14) dX7_drifts_97 98 rfl ?_
    refine z_isub hX dX7_drifts_98 99 rfl ?_
    replace h := bd_elim h
    obtain ⟨s15, es15, h⟩ := h
    refine z_iast hX (inb_vp g13) dX7_drifts_99 es15 100 rfl ?_
    refine z_iload hX dX7_drifts_100 0 rfl 102 rfl ?_
    refine z_bipush hX (v := (-4)) dX7_drifts_102 (by decide) 104 rfl ?_
    refine z_icmp_ne hX 129 dX7_drifts_104 (by decide) 107 rfl (fun c16 => ?_) (fun c16 => ?_)
    · replace h := br_pos h c16
      refine z_aload_n hX dX7_drifts_129 1 rfl 130 rfl ?_
      refine z_get7 hX (k := 189) (j := 1) (v := .ref (gL Γ (191))) kdc_189 (by decide) rfl dX7_drifts_130 fl_X7_13 133 rfl ?_
      refine z_iload_n hX dX7_drifts_133 4 rfl 134 rfl ?_
      refine z_iload hX dX7_drifts_134 0 rfl 136 rfl ?_
      refine z_iadd hX dX7_drifts_136 137 rfl ?_
      refine z_dup2 hX dX7_drifts_137 rfl rfl 138 rfl ?_
      replace h := gd_elim h
      obtain ⟨g17, h⟩ := h
      refine z_iald hX (inb_vp g17) dX7_drifts_138 139 rfl ?_
      refine z_aload_n hX dX7_drifts_139 1 rfl 140 rfl ?_
      refine z_get7 hX (k := 189) (j := 18) (v := .ref (gL Γ (195))) kdc_189 (by decide) rfl dX7_drifts_140 fl_X7_26 143 rfl ?_
      refine z_iload hX dX7_drifts_143 5 rfl 145 rfl ?_
      refine z_iald hX (inb_vp g14) dX7_drifts_145 146 rfl ?_
      refine z_iadd hX dX7_drifts_146 147 rfl ?_
      replace h := bd_elim h
      obtain ⟨s18, es18, h⟩ := h
      refine z_iast hX (inb_vp g17) dX7_drifts_147 es18 148 rfl ?_
      refine z_iinc hX (v := (v4 + (nI 1))) (lv2 := [(4, .int ((v4 + (nI 1)))), (5, .int x12), (0, .ref (gL Γ (189))), (1, .int v1), (2, .int v2), (3, .int v3)]) dX7_drifts_148 5 rfl rfl (by decide) rfl 151 rfl ?_
      refine z_goto hX 66 dX7_drifts_151 (by decide) ?_
      replace h := Option.some.inj h
      subst h
      exact z_sub [2, 3, 4, 5, 0] rfl hk
    · replace h := br_neg h c16
      refine z_aload_n hX dX7_drifts_107 1 rfl 108 rfl ?_
      refine z_get7 hX (k := 189) (j := 1) (v := .ref (gL Γ (191))) kdc_189 (by decide) rfl dX7_drifts_108 fl_X7_13 111 rfl ?_
      refine z_bipush hX (v := (nI 103)) dX7_drifts_111 (by decide) 113 rfl ?_
      refine z_iload_n hX dX7_drifts_113 3 rfl 114 rfl ?_
      refine z_iadd hX dX7_drifts_114 115 rfl ?_
      refine z_dup2 hX dX7_drifts_115 rfl rfl 116 rfl ?_
      replace h := gd_elim h
      obtain ⟨g19, h⟩ := h
      refine z_iald hX (inb_vp g19) dX7_drifts_116 117 rfl ?_
      refine z_aload_n hX dX7_drifts_117 1 rfl 118 rfl ?_
      refine z_get7 hX (k := 189) (j := 18) (v := .ref (gL Γ (195))) kdc_189 (by decide) rfl dX7_drifts_118 fl_X7_26 121 rfl ?_
      refine z_iload hX dX7_drifts_121 5 rfl 123 rfl ?_
      refine z_iald hX (inb_vp g14) dX7_drifts_123 124 rfl ?_
      refine z_iadd hX dX7_drifts_124 125 rfl ?_
      replace h := bd_elim h
      obtain ⟨s20, es20, h⟩ := h
      refine z_iast hX (inb_vp g19) dX7_drifts_125 es20 126 rfl ?_
      refine z_goto hX 148 dX7_drifts_126 (by decide) ?_
      refine z_iinc hX (v := (v4 + (nI 1))) (lv2 := [(4, .int ((v4 + (nI 1)))), (5, .int x12), (0, .ref (gL Γ (189))), (1, .int v1), (2, .int v2), (3, .int v3)]) dX7_drifts_148 5 rfl rfl (by decide) rfl 151 rfl ?_
      refine z_goto hX 66 dX7_drifts_151 (by decide) ?_
      replace h := Option.some.inj h
      subst h
      exact z_sub [2, 3, 4, 5, 0] rfl hk
set_option maxHeartbeats 4000000 in
set_option maxRecDepth 100000 in
theorem e_X7_drifts_L21 {X : Cx} {Γ : Gm} {r0 : Rb} (hX : Amb X Γ cX7_drifts RX7 6 none 2) {v1 : Int32} {v2 : Int32} {v3 : Int32} {v4 : Int32} {s : St} {t : (Int32 × St) ⊕ ((Int32 × St) ⊕ (Unit × St))} (h : f_X7_drifts_L21 v1 v2 v3 v4 s = some t) (hk : (Sum.elim (fun q : Int32 × St => Zw X Γ 6 r0 q.2 21 [(0, .ref (gL Γ (189))), (1, .int v1), (2, .int v2), (3, .int v3), (4, .int q.1)] []) (Sum.elim (fun q : Int32 × St => Zw X Γ 6 r0 q.2 2 [(0, .ref (gL Γ (189))), (1, .int v1), (2, .int q.1)] []) (fun t : Unit × St => Rt X Γ r0 (none, t.2)))) t) : Zw X Γ 6 r0 s 21 [(0, .ref (gL Γ (189))), (1, .int v1), (2, .int v2), (3, .int v3), (4, .int v4)] [] := by
  unfold f_X7_drifts_L21 at h
  refine z_iload hX dX7_drifts_21 4 rfl 23 rfl ?_
  refine z_bipush hX (v := (nI 20)) dX7_drifts_23 (by decide) 25 rfl ?_
  refine z_icmp_ge hX 63 dX7_drifts_25 (by decide) 28 rfl (fun c3 => ?_) (fun c3 => ?_)
  · replace h := br_pos h c3
    refine z_iconst hX (v := (nI 0)) dX7_drifts_63 rfl 64 rfl ?_
    refine z_istore hX (lv2 := [(4, .int ((nI 0))), (0, .ref (gL Γ (189))), (1, .int v1), (2, .int v2), (3, .int v3)]) dX7_drifts_64 (by decide) rfl 66 rfl ?_
    replace h := ox_elim h
    obtain ⟨u, rfl, h⟩ := h
    exact z_sub [1, 2, 3, 4, 0] rfl (lp_ok (Z := fun q : Int32 × St => Zw X Γ 6 r0 q.2 66 [(0, .ref (gL Γ (189))), (1, .int v1), (2, .int v2), (3, .int v3), (4, .int q.1)] []) (fun q t h hk => e_X7_drifts_L66 hX h hk) Fu _ _ h hk)
  · replace h := br_neg h c3
    refine z_aload_n hX dX7_drifts_28 0 rfl 29 rfl ?_
    refine z_get7 hX (k := 189) (j := 18) (v := .ref (gL Γ (195))) kdc_189 (by decide) rfl dX7_drifts_29 fl_X7_26 32 rfl ?_
    refine z_iload hX dX7_drifts_32 4 rfl 34 rfl ?_
    refine z_aload_n hX dX7_drifts_34 0 rfl 35 rfl ?_
    refine z_get7 hX (k := 189) (j := 1) (v := .ref (gL Γ (191))) kdc_189 (by decide) rfl dX7_drifts_35 fl_X7_13 38 rfl ?_
    refine z_iconst hX (v := (nI 4)) dX7_drifts_38 rfl 39 rfl ?_
    refine z_iload_n hX dX7_drifts_39 2 rfl 40 rfl ?_
    refine z_imul hX dX7_drifts_40 41 rfl ?_
    refine z_iconst hX (v := (nI 0)) dX7_drifts_41 rfl 42 rfl ?_
    refine z_iadd hX dX7_drifts_42 43 rfl ?_
    replace h := gd_elim h
    obtain ⟨g4, h⟩ := h
    refine z_iald hX (inb_vp g4) dX7_drifts_43 44 rfl ?_
    refine z_aload_n hX dX7_drifts_44 0 rfl 45 rfl ?_
    refine z_get7 hX (k := 189) (j := 1) (v := .ref (gL Γ (191))) kdc_189 (by decide) rfl dX7_drifts_45 fl_X7_13 48 rfl ?_
    refine z_iload_n hX dX7_drifts_48 3 rfl 49 rfl ?_
    refine z_iload hX dX7_drifts_49 4 rfl 51 rfl ?_
    refine z_iadd hX dX7_drifts_51 52 rfl ?_
    replace h := gd_elim h
    obtain ⟨g5, h⟩ := h
    refine z_iald hX (inb_vp g5) dX7_drifts_52 53 rfl ?_
    replace h := cl_elim h
    obtain ⟨x7, s6, hx7, h⟩ := h
    refine z_cSi hX (As := [.int ((s.1 191 ((((nI 4) * v2) + (nI 0))).toNatClampNeg)), .int ((s.1 191 ((v3 + v4)).toNatClampNeg))]) (c_X7_moves hx7) lk_X7_163 ds_X7_moves rfl (by decide) (by decide) (Nat.le_of_ble_eq_true rfl) dX7_drifts_53 rfl 56 rfl ?_
    replace h := gd_elim h
    obtain ⟨g8, h⟩ := h
    replace h := bd_elim h
    obtain ⟨s9, es9, h⟩ := h
    refine z_iast hX (inb_vp g8) dX7_drifts_56 es9 57 rfl ?_
    refine z_iinc hX (v := (v4 + (nI 1))) (lv2 := [(4, .int ((v4 + (nI 1)))), (0, .ref (gL Γ (189))), (1, .int v1), (2, .int v2), (3, .int v3)]) dX7_drifts_57 4 rfl rfl (by decide) rfl 60 rfl ?_
    refine z_goto hX 21 dX7_drifts_60 (by decide) ?_
    replace h := Option.some.inj h
    subst h
    exact z_sub [1, 2, 3, 4, 0] rfl hk
set_option maxHeartbeats 4000000 in
set_option maxRecDepth 100000 in
theorem e_X7_drifts_L2 {X : Cx} {Γ : Gm} {r0 : Rb} (hX : Amb X Γ cX7_drifts RX7 6 none 2) {v1 : Int32} {v2 : Int32} {s : St} {t : (Int32 × St) ⊕ (Unit × St)} (h : f_X7_drifts_L2 v1 v2 s = some t) (hk : (Sum.elim (fun q : Int32 × St => Zw X Γ 6 r0 q.2 2 [(0, .ref (gL Γ (189))), (1, .int v1), (2, .int q.1)] []) (fun t : Unit × St => Rt X Γ r0 (none, t.2))) t) : Zw X Γ 6 r0 s 2 [(0, .ref (gL Γ (189))), (1, .int v1), (2, .int v2)] [] := by
  unfold f_X7_drifts_L2 at h
  refine z_iload_n hX dX7_drifts_2 2 rfl 3 rfl ?_
  refine z_aload_n hX dX7_drifts_3 0 rfl 4 rfl ?_
  refine z_get7 hX (k := 189) (j := 3) (v := .int ((s.1 189 3))) kdc_189 (by decide) rfl dX7_drifts_4 fl_X7_69 7 rfl ?_
  refine z_icmp_ge hX 160 dX7_drifts_7 (by decide) 10 rfl (fun c1 => ?_) (fun c1 => ?_)
  · replace h := br_pos h c1
    replace h := Option.some.inj h
    subst h
    exact z_vret hX dX7_drifts_160 rfl hk
  · replace h := br_neg h c1
    refine z_bipush hX (v := (nI 43)) dX7_drifts_10 (by decide) 12 rfl ?_
    refine z_bipush hX (v := (nI 20)) dX7_drifts_12 (by decide) 14 rfl ?_
    refine z_iload_n hX dX7_drifts_14 2 rfl 15 rfl ?_
    refine z_imul hX dX7_drifts_15 16 rfl ?_
    refine z_iadd hX dX7_drifts_16 17 rfl ?_
    replace h := bd_elim h
    obtain ⟨x2, ex2, h⟩ := h
    refine z_nm ex2 ?_
    refine z_istore_n hX (lv2 := [(3, .int x2), (0, .ref (gL Γ (189))), (1, .int v1), (2, .int v2)]) dX7_drifts_17 (by decide) rfl 18 rfl ?_
    refine z_iconst hX (v := (nI 0)) dX7_drifts_18 rfl 19 rfl ?_
    refine z_istore hX (lv2 := [(4, .int ((nI 0))), (3, .int x2), (0, .ref (gL Γ (189))), (1, .int v1), (2, .int v2)]) dX7_drifts_19 (by decide) rfl 21 rfl ?_
    exact z_sub [2, 3, 4, 1, 0] rfl (lp_ok (Z := fun q : Int32 × St => Zw X Γ 6 r0 q.2 21 [(0, .ref (gL Γ (189))), (1, .int v1), (2, .int v2), (3, .int x2), (4, .int q.1)] []) (fun q t h hk => e_X7_drifts_L21 hX h hk) Fu _ _ h hk)
set_option maxHeartbeats 4000000 in
set_option maxRecDepth 100000 in
theorem e_X7_drifts {X : Cx} {Γ : Gm} {r0 : Rb} (hX : Amb X Γ cX7_drifts RX7 6 none 2) {a1 : Int32} {s : St} {t : Unit × St} (h : f_X7_drifts a1 s = some t) (hk : (fun t : Unit × St => Rt X Γ r0 (none, t.2)) t) : Zw X Γ 6 r0 s 0 [(0, .ref (gL Γ (189))), (1, .int a1)] [] := by
  unfold f_X7_drifts at h
  refine z_iconst hX (v := (nI 0)) dX7_drifts_0 rfl 1 rfl ?_
  refine z_istore_n hX (lv2 := [(2, .int ((nI 0))), (0, .ref (gL Γ (189))), (1, .int a1)]) dX7_drifts_1 (by decide) rfl 2 rfl ?_
  exact z_sub [1, 2, 0] rfl (lp_ok (Z := fun q : Int32 × St => Zw X Γ 6 r0 q.2 2 [(0, .ref (gL Γ (189))), (1, .int a1), (2, .int q.1)] []) (fun q t h hk => e_X7_drifts_L2 hX h hk) Fu _ _ h hk)
theorem c_X7_drifts {lc : Launch} {Γ : Gm} {a1 : Int32} {s s2 : St} {v : Unit} (h : f_X7_drifts a1 s = some (v, s2)) : Ct lc Γ yX7_drifts cX7_drifts 6 none 2 [.ref (gL Γ (189)), .int a1] s (none, s2) := Ct.of (by decide +kernel) (Nat.le_of_ble_eq_true rfl) (fun X hl hX => e_X7_drifts hX h rfl)
theorem dX7_stepGoes_0 : decode cX7_stepGoes 0 = .ok (.aload_n 0, 1) := by decide +kernel
theorem dX7_stepGoes_1 : decode cX7_stepGoes 1 = .ok (.invokevirtual 169, 3) := by decide +kernel
theorem dX7_stepGoes_4 : decode cX7_stepGoes 4 = .ok (.aload_n 0, 1) := by decide +kernel
theorem dX7_stepGoes_5 : decode cX7_stepGoes 5 = .ok (.invokevirtual 172, 3) := by decide +kernel
theorem dX7_stepGoes_8 : decode cX7_stepGoes 8 = .ok (.aload_n 0, 1) := by decide +kernel
theorem dX7_stepGoes_9 : decode cX7_stepGoes 9 = .ok (.getfield 13, 3) := by decide +kernel
theorem dX7_stepGoes_12 : decode cX7_stepGoes 12 = .ok (.bipush 32, 2) := by decide +kernel
theorem dX7_stepGoes_14 : decode cX7_stepGoes 14 = .ok (.aload_n 0, 1) := by decide +kernel
theorem dX7_stepGoes_15 : decode cX7_stepGoes 15 = .ok (.getfield 13, 3) := by decide +kernel
theorem dX7_stepGoes_18 : decode cX7_stepGoes 18 = .ok (.bipush 42, 2) := by decide +kernel
theorem dX7_stepGoes_20 : decode cX7_stepGoes 20 = .ok (.iaload, 1) := by decide +kernel
theorem dX7_stepGoes_21 : decode cX7_stepGoes 21 = .ok (.bipush 6, 2) := by decide +kernel
theorem dX7_stepGoes_23 : decode cX7_stepGoes 23 = .ok (.irem, 1) := by decide +kernel
theorem dX7_stepGoes_24 : decode cX7_stepGoes 24 = .ok (.iadd, 1) := by decide +kernel
theorem dX7_stepGoes_25 : decode cX7_stepGoes 25 = .ok (.iaload, 1) := by decide +kernel
theorem dX7_stepGoes_26 : decode cX7_stepGoes 26 = .ok (.istore_n 2, 1) := by decide +kernel
theorem dX7_stepGoes_27 : decode cX7_stepGoes 27 = .ok (.iload_n 2, 1) := by decide +kernel
theorem dX7_stepGoes_28 : decode cX7_stepGoes 28 = .ok (.ifCond .eq 12, 3) := by decide +kernel
theorem dX7_stepGoes_31 : decode cX7_stepGoes 31 = .ok (.iload_n 1, 1) := by decide +kernel
theorem dX7_stepGoes_32 : decode cX7_stepGoes 32 = .ok (.ifCond .ne 8, 3) := by decide +kernel
theorem dX7_stepGoes_35 : decode cX7_stepGoes 35 = .ok (.aload_n 0, 1) := by decide +kernel
theorem dX7_stepGoes_36 : decode cX7_stepGoes 36 = .ok (.iload_n 2, 1) := by decide +kernel
theorem dX7_stepGoes_37 : decode cX7_stepGoes 37 = .ok (.invokevirtual 175, 3) := by decide +kernel
theorem dX7_stepGoes_40 : decode cX7_stepGoes 40 = .ok (.aload_n 0, 1) := by decide +kernel
theorem dX7_stepGoes_41 : decode cX7_stepGoes 41 = .ok (.getfield 13, 3) := by decide +kernel
theorem dX7_stepGoes_44 : decode cX7_stepGoes 44 = .ok (.bipush 42, 2) := by decide +kernel
theorem dX7_stepGoes_46 : decode cX7_stepGoes 46 = .ok (.dup2, 1) := by decide +kernel
theorem dX7_stepGoes_47 : decode cX7_stepGoes 47 = .ok (.iaload, 1) := by decide +kernel
theorem dX7_stepGoes_48 : decode cX7_stepGoes 48 = .ok (.iconst 1, 1) := by decide +kernel
theorem dX7_stepGoes_49 : decode cX7_stepGoes 49 = .ok (.iadd, 1) := by decide +kernel
theorem dX7_stepGoes_50 : decode cX7_stepGoes 50 = .ok (.iastore, 1) := by decide +kernel
theorem dX7_stepGoes_51 : decode cX7_stepGoes 51 = .ok (.return_, 1) := by decide +kernel
def f_X7_stepGoes_J40 (s : St) : Option (Unit × St) := if inb (nI 42) (lnI 191) = true then bd (wI s 191 ((nI 42)).toNatClampNeg ((s.1 191 ((nI 42)).toNatClampNeg) + (nI 1))) (fun s13 => some (((), s13))) else none
def f_X7_stepGoes (a1 : Int32) (s : St) : Option (Unit × St) := cl (f_X7_isTold s) (fun x2 s1 => cl (f_X7_isTaken s1) (fun x4 s3 => if inb (nI 42) (lnI 191) = true then if inb ((nI 32) + ((s3.1 191 ((nI 42)).toNatClampNeg) - (s3.1 191 ((nI 42)).toNatClampNeg) / (nI 6) * (nI 6))) (lnI 191) = true then bd (s3.1 191 (((nI 32) + ((s3.1 191 ((nI 42)).toNatClampNeg) - (s3.1 191 ((nI 42)).toNatClampNeg) / (nI 6) * (nI 6)))).toNatClampNeg) (fun x7 => if x7 = 0 then (f_X7_stepGoes_J40 s3) else (if ¬ a1 = 0 then (f_X7_stepGoes_J40 s3) else (cl (f_X7_drifts x7 s3) (fun x11 s10 => f_X7_stepGoes_J40 s10)))) else none else none))
set_option maxHeartbeats 4000000 in
set_option maxRecDepth 100000 in
theorem e_X7_stepGoes_J40 {X : Cx} {Γ : Gm} {r0 : Rb} (hX : Amb X Γ cX7_stepGoes RX7 3 none 3) {s : St} {t : Unit × St} (h : f_X7_stepGoes_J40 s = some t) (hk : (fun t : Unit × St => Rt X Γ r0 (none, t.2)) t) : Zw X Γ 3 r0 s 40 [(0, .ref (gL Γ (189)))] [] := by
  unfold f_X7_stepGoes_J40 at h
  refine z_aload_n hX dX7_stepGoes_40 0 rfl 41 rfl ?_
  refine z_get7 hX (k := 189) (j := 1) (v := .ref (gL Γ (191))) kdc_189 (by decide) rfl dX7_stepGoes_41 fl_X7_13 44 rfl ?_
  refine z_bipush hX (v := (nI 42)) dX7_stepGoes_44 (by decide) 46 rfl ?_
  refine z_dup2 hX dX7_stepGoes_46 rfl rfl 47 rfl ?_
  replace h := gd_elim h
  obtain ⟨g12, h⟩ := h
  refine z_iald hX (inb_vp g12) dX7_stepGoes_47 48 rfl ?_
  refine z_iconst hX (v := (nI 1)) dX7_stepGoes_48 rfl 49 rfl ?_
  refine z_iadd hX dX7_stepGoes_49 50 rfl ?_
  replace h := bd_elim h
  obtain ⟨s13, es13, h⟩ := h
  refine z_iast hX (inb_vp g12) dX7_stepGoes_50 es13 51 rfl ?_
  replace h := Option.some.inj h
  subst h
  exact z_vret hX dX7_stepGoes_51 rfl hk
set_option maxHeartbeats 4000000 in
set_option maxRecDepth 100000 in
theorem e_X7_stepGoes {X : Cx} {Γ : Gm} {r0 : Rb} (hX : Amb X Γ cX7_stepGoes RX7 3 none 3) {a1 : Int32} {s : St} {t : Unit × St} (h : f_X7_stepGoes a1 s = some t) (hk : (fun t : Unit × St => Rt X Γ r0 (none, t.2)) t) : Zw X Γ 3 r0 s 0 [(0, .ref (gL Γ (189))), (1, .int a1)] [] := by
  unfold f_X7_stepGoes at h
  refine z_aload_n hX dX7_stepGoes_0 0 rfl 1 rfl ?_
  replace h := cl_elim h
  obtain ⟨x2, s1, hx2, h⟩ := h
  refine z_cV7v hX (b := 189) (As := []) (c_X7_isTold hx2) lk_X7_169 rfl kdc_189 ds_X7_isTold rfl (by decide) (by decide) (by decide) dX7_stepGoes_1 rfl 4 rfl ?_
  refine z_aload_n hX dX7_stepGoes_4 0 rfl 5 rfl ?_
  replace h := cl_elim h
  obtain ⟨x4, s3, hx4, h⟩ := h
  refine z_cV7v hX (b := 189) (As := []) (c_X7_isTaken hx4) lk_X7_172 rfl kdc_189 ds_X7_isTaken rfl (by decide) (by decide) (by decide) dX7_stepGoes_5 rfl 8 rfl ?_
  refine z_aload_n hX dX7_stepGoes_8 0 rfl 9 rfl ?_
  refine z_get7 hX (k := 189) (j := 1) (v := .ref (gL Γ (191))) kdc_189 (by decide) rfl dX7_stepGoes_9 fl_X7_13 12 rfl ?_
  refine z_bipush hX (v := (nI 32)) dX7_stepGoes_12 (by decide) 14 rfl ?_
  refine z_aload_n hX dX7_stepGoes_14 0 rfl 15 rfl ?_
  refine z_get7 hX (k := 189) (j := 1) (v := .ref (gL Γ (191))) kdc_189 (by decide) rfl dX7_stepGoes_15 fl_X7_13 18 rfl ?_
  refine z_bipush hX (v := (nI 42)) dX7_stepGoes_18 (by decide) 20 rfl ?_
  replace h := gd_elim h
  obtain ⟨g5, h⟩ := h
  refine z_iald hX (inb_vp g5) dX7_stepGoes_20 21 rfl ?_
  refine z_bipush hX (v := (nI 6)) dX7_stepGoes_21 (by decide) 23 rfl ?_
  refine z_irem hX dX7_stepGoes_23 (by decide) 24 rfl ?_
  refine z_iadd hX dX7_stepGoes_24 25 rfl ?_
  replace h := gd_elim h
  obtain ⟨g6, h⟩ := h
  refine z_iald hX (inb_vp g6) dX7_stepGoes_25 26 rfl ?_
  replace h := bd_elim h
  obtain ⟨x7, ex7, h⟩ := h
  refine z_nm ex7 ?_
  refine z_istore_n hX (lv2 := [(2, .int x7), (0, .ref (gL Γ (189))), (1, .int a1)]) dX7_stepGoes_26 (by decide) rfl 27 rfl ?_
  refine z_iload_n hX dX7_stepGoes_27 0 rfl 28 rfl ?_
  refine z_if_eq hX 40 dX7_stepGoes_28 (by decide) 31 rfl (fun c8 => ?_) (fun c8 => ?_)
  · replace h := br_pos h c8
    exact z_sub [1] rfl (e_X7_stepGoes_J40 hX h hk)
  · replace h := br_neg h c8
    refine z_iload_n hX dX7_stepGoes_31 2 rfl 32 rfl ?_
    refine z_if_ne hX 40 dX7_stepGoes_32 (by decide) 35 rfl (fun c9 => ?_) (fun c9 => ?_)
    · replace h := br_pos h c9
      exact z_sub [1] rfl (e_X7_stepGoes_J40 hX h hk)
    · replace h := br_neg h c9
      refine z_aload_n hX dX7_stepGoes_35 1 rfl 36 rfl ?_
      refine z_iload_n hX dX7_stepGoes_36 0 rfl 37 rfl ?_
      replace h := cl_elim h
      obtain ⟨x11, s10, hx11, h⟩ := h
      refine z_cV7v hX (b := 189) (As := [.int x7]) (c_X7_drifts hx11) lk_X7_175 rfl kdc_189 ds_X7_drifts rfl (by decide) (by decide) (by decide) dX7_stepGoes_37 rfl 40 rfl ?_
      exact z_sub [1] rfl (e_X7_stepGoes_J40 hX h hk)
theorem c_X7_stepGoes {lc : Launch} {Γ : Gm} {a1 : Int32} {s s2 : St} {v : Unit} (h : f_X7_stepGoes a1 s = some (v, s2)) : Ct lc Γ yX7_stepGoes cX7_stepGoes 3 none 3 [.ref (gL Γ (189)), .int a1] s (none, s2) := Ct.of (by decide +kernel) (Nat.le_of_ble_eq_true rfl) (fun X hl hX => e_X7_stepGoes hX h rfl)
theorem dX7_stepsGo_0 : decode cX7_stepsGo 0 = .ok (.iconst 0, 1) := by decide +kernel
theorem dX7_stepsGo_1 : decode cX7_stepsGo 1 = .ok (.istore_n 2, 1) := by decide +kernel
theorem dX7_stepsGo_2 : decode cX7_stepsGo 2 = .ok (.iload_n 2, 1) := by decide +kernel
theorem dX7_stepsGo_3 : decode cX7_stepsGo 3 = .ok (.iload_n 1, 1) := by decide +kernel
theorem dX7_stepsGo_4 : decode cX7_stepsGo 4 = .ok (.if_icmp .ge 14, 3) := by decide +kernel
theorem dX7_stepsGo_7 : decode cX7_stepsGo 7 = .ok (.aload_n 0, 1) := by decide +kernel
theorem dX7_stepsGo_8 : decode cX7_stepsGo 8 = .ok (.iconst 0, 1) := by decide +kernel
theorem dX7_stepsGo_9 : decode cX7_stepsGo 9 = .ok (.invokevirtual 178, 3) := by decide +kernel
theorem dX7_stepsGo_12 : decode cX7_stepsGo 12 = .ok (.iinc 2 1, 3) := by decide +kernel
theorem dX7_stepsGo_15 : decode cX7_stepsGo 15 = .ok (.goto (-13), 3) := by decide +kernel
theorem dX7_stepsGo_18 : decode cX7_stepsGo 18 = .ok (.return_, 1) := by decide +kernel
def f_X7_stepsGo_L2 (v1 : Int32) (v2 : Int32) (s : St) : Option ((Int32 × St) ⊕ (Unit × St)) := if v1 ≤ v2 then (some (Sum.inr (((), s)))) else (cl (f_X7_stepGoes (nI 0) s) (fun x3 s2 => some (Sum.inl ((v2 + (nI 1)), s2))))
def f_X7_stepsGo (a1 : Int32) (s : St) : Option (Unit × St) := lp (fun q : Int32 × St => f_X7_stepsGo_L2 a1 q.1 q.2) Fu ((nI 0), s)
set_option maxHeartbeats 4000000 in
set_option maxRecDepth 100000 in
theorem e_X7_stepsGo_L2 {X : Cx} {Γ : Gm} {r0 : Rb} (hX : Amb X Γ cX7_stepsGo RX7 3 none 4) {v1 : Int32} {v2 : Int32} {s : St} {t : (Int32 × St) ⊕ (Unit × St)} (h : f_X7_stepsGo_L2 v1 v2 s = some t) (hk : (Sum.elim (fun q : Int32 × St => Zw X Γ 3 r0 q.2 2 [(0, .ref (gL Γ (189))), (1, .int v1), (2, .int q.1)] []) (fun t : Unit × St => Rt X Γ r0 (none, t.2))) t) : Zw X Γ 3 r0 s 2 [(0, .ref (gL Γ (189))), (1, .int v1), (2, .int v2)] [] := by
  unfold f_X7_stepsGo_L2 at h
  refine z_iload_n hX dX7_stepsGo_2 2 rfl 3 rfl ?_
  refine z_iload_n hX dX7_stepsGo_3 1 rfl 4 rfl ?_
  refine z_icmp_ge hX 18 dX7_stepsGo_4 (by decide) 7 rfl (fun c1 => ?_) (fun c1 => ?_)
  · replace h := br_pos h c1
    replace h := Option.some.inj h
    subst h
    exact z_vret hX dX7_stepsGo_18 rfl hk
  · replace h := br_neg h c1
    refine z_aload_n hX dX7_stepsGo_7 0 rfl 8 rfl ?_
    refine z_iconst hX (v := (nI 0)) dX7_stepsGo_8 rfl 9 rfl ?_
    replace h := cl_elim h
    obtain ⟨x3, s2, hx3, h⟩ := h
    refine z_cV7v hX (b := 189) (As := [.int ((nI 0))]) (c_X7_stepGoes hx3) lk_X7_178 rfl kdc_189 ds_X7_stepGoes rfl (by decide) (by decide) (by decide) dX7_stepsGo_9 rfl 12 rfl ?_
    refine z_iinc hX (v := (v2 + (nI 1))) (lv2 := [(2, .int ((v2 + (nI 1)))), (0, .ref (gL Γ (189))), (1, .int v1)]) dX7_stepsGo_12 2 rfl rfl (by decide) rfl 15 rfl ?_
    refine z_goto hX 2 dX7_stepsGo_15 (by decide) ?_
    replace h := Option.some.inj h
    subst h
    exact z_sub [1, 2, 0] rfl hk
set_option maxHeartbeats 4000000 in
set_option maxRecDepth 100000 in
theorem e_X7_stepsGo {X : Cx} {Γ : Gm} {r0 : Rb} (hX : Amb X Γ cX7_stepsGo RX7 3 none 4) {a1 : Int32} {s : St} {t : Unit × St} (h : f_X7_stepsGo a1 s = some t) (hk : (fun t : Unit × St => Rt X Γ r0 (none, t.2)) t) : Zw X Γ 3 r0 s 0 [(0, .ref (gL Γ (189))), (1, .int a1)] [] := by
  unfold f_X7_stepsGo at h
  refine z_iconst hX (v := (nI 0)) dX7_stepsGo_0 rfl 1 rfl ?_
  refine z_istore_n hX (lv2 := [(2, .int ((nI 0))), (0, .ref (gL Γ (189))), (1, .int a1)]) dX7_stepsGo_1 (by decide) rfl 2 rfl ?_
  exact z_sub [1, 2, 0] rfl (lp_ok (Z := fun q : Int32 × St => Zw X Γ 3 r0 q.2 2 [(0, .ref (gL Γ (189))), (1, .int a1), (2, .int q.1)] []) (fun q t h hk => e_X7_stepsGo_L2 hX h hk) Fu _ _ h hk)
theorem c_X7_stepsGo {lc : Launch} {Γ : Gm} {a1 : Int32} {s s2 : St} {v : Unit} (h : f_X7_stepsGo a1 s = some (v, s2)) : Ct lc Γ yX7_stepsGo cX7_stepsGo 3 none 4 [.ref (gL Γ (189)), .int a1] s (none, s2) := Ct.of (by decide +kernel) (Nat.le_of_ble_eq_true rfl) (fun X hl hX => e_X7_stepsGo hX h rfl)
theorem dX7_inRoom_0 : decode cX7_inRoom 0 = .ok (.iconst 0, 1) := by decide +kernel
theorem dX7_inRoom_1 : decode cX7_inRoom 1 = .ok (.istore_n 2, 1) := by decide +kernel
theorem dX7_inRoom_2 : decode cX7_inRoom 2 = .ok (.iconst 0, 1) := by decide +kernel
theorem dX7_inRoom_3 : decode cX7_inRoom 3 = .ok (.istore_n 3, 1) := by decide +kernel
theorem dX7_inRoom_4 : decode cX7_inRoom 4 = .ok (.iload_n 3, 1) := by decide +kernel
theorem dX7_inRoom_5 : decode cX7_inRoom 5 = .ok (.bipush 20, 2) := by decide +kernel
theorem dX7_inRoom_7 : decode cX7_inRoom 7 = .ok (.if_icmp .ge 26, 3) := by decide +kernel
theorem dX7_inRoom_10 : decode cX7_inRoom 10 = .ok (.iload_n 2, 1) := by decide +kernel
theorem dX7_inRoom_11 : decode cX7_inRoom 11 = .ok (.aload_n 0, 1) := by decide +kernel
theorem dX7_inRoom_12 : decode cX7_inRoom 12 = .ok (.getfield 13, 3) := by decide +kernel
theorem dX7_inRoom_15 : decode cX7_inRoom 15 = .ok (.bipush 43, 2) := by decide +kernel
theorem dX7_inRoom_17 : decode cX7_inRoom 17 = .ok (.bipush 20, 2) := by decide +kernel
theorem dX7_inRoom_19 : decode cX7_inRoom 19 = .ok (.iload_n 1, 1) := by decide +kernel
theorem dX7_inRoom_20 : decode cX7_inRoom 20 = .ok (.imul, 1) := by decide +kernel
theorem dX7_inRoom_21 : decode cX7_inRoom 21 = .ok (.iadd, 1) := by decide +kernel
theorem dX7_inRoom_22 : decode cX7_inRoom 22 = .ok (.iload_n 3, 1) := by decide +kernel
theorem dX7_inRoom_23 : decode cX7_inRoom 23 = .ok (.iadd, 1) := by decide +kernel
theorem dX7_inRoom_24 : decode cX7_inRoom 24 = .ok (.iaload, 1) := by decide +kernel
theorem dX7_inRoom_25 : decode cX7_inRoom 25 = .ok (.iadd, 1) := by decide +kernel
theorem dX7_inRoom_26 : decode cX7_inRoom 26 = .ok (.istore_n 2, 1) := by decide +kernel
theorem dX7_inRoom_27 : decode cX7_inRoom 27 = .ok (.iinc 3 1, 3) := by decide +kernel
theorem dX7_inRoom_30 : decode cX7_inRoom 30 = .ok (.goto (-26), 3) := by decide +kernel
theorem dX7_inRoom_33 : decode cX7_inRoom 33 = .ok (.iload_n 2, 1) := by decide +kernel
theorem dX7_inRoom_34 : decode cX7_inRoom 34 = .ok (.ireturn, 1) := by decide +kernel
def f_X7_inRoom_L4 (v1 : Int32) (v2 : Int32) (v3 : Int32) (s : St) : Option ((Int32 × Int32 × St) ⊕ (Int32 × St)) := if (nI 20) ≤ v3 then (some (Sum.inr ((v2, s)))) else (if inb (((nI 43) + ((nI 20) * v1)) + v3) (lnI 191) = true then bd (v2 + (s.1 191 ((((nI 43) + ((nI 20) * v1)) + v3)).toNatClampNeg)) (fun x3 => some (Sum.inl (x3, (v3 + (nI 1)), s))) else none)
def f_X7_inRoom (a1 : Int32) (s : St) : Option (Int32 × St) := lp (fun q : Int32 × Int32 × St => f_X7_inRoom_L4 a1 q.1 q.2.1 q.2.2) Fu ((nI 0), (nI 0), s)
set_option maxHeartbeats 4000000 in
set_option maxRecDepth 100000 in
theorem e_X7_inRoom_L4 {X : Cx} {Γ : Gm} {r0 : Rb} (hX : Amb X Γ cX7_inRoom RX7 4 (some .int) 0) {v1 : Int32} {v2 : Int32} {v3 : Int32} {s : St} {t : (Int32 × Int32 × St) ⊕ (Int32 × St)} (h : f_X7_inRoom_L4 v1 v2 v3 s = some t) (hk : (Sum.elim (fun q : Int32 × Int32 × St => Zw X Γ 4 r0 q.2.2 4 [(0, .ref (gL Γ (189))), (1, .int v1), (2, .int q.1), (3, .int q.2.1)] []) (fun t : Int32 × St => Rt X Γ r0 (some (Value.int t.1), t.2))) t) : Zw X Γ 4 r0 s 4 [(0, .ref (gL Γ (189))), (1, .int v1), (2, .int v2), (3, .int v3)] [] := by
  unfold f_X7_inRoom_L4 at h
  refine z_iload_n hX dX7_inRoom_4 3 rfl 5 rfl ?_
  refine z_bipush hX (v := (nI 20)) dX7_inRoom_5 (by decide) 7 rfl ?_
  refine z_icmp_ge hX 33 dX7_inRoom_7 (by decide) 10 rfl (fun c1 => ?_) (fun c1 => ?_)
  · replace h := br_pos h c1
    refine z_iload_n hX dX7_inRoom_33 2 rfl 34 rfl ?_
    replace h := Option.some.inj h
    subst h
    exact z_iret hX dX7_inRoom_34 rfl hk
  · replace h := br_neg h c1
    refine z_iload_n hX dX7_inRoom_10 2 rfl 11 rfl ?_
    refine z_aload_n hX dX7_inRoom_11 0 rfl 12 rfl ?_
    refine z_get7 hX (k := 189) (j := 1) (v := .ref (gL Γ (191))) kdc_189 (by decide) rfl dX7_inRoom_12 fl_X7_13 15 rfl ?_
    refine z_bipush hX (v := (nI 43)) dX7_inRoom_15 (by decide) 17 rfl ?_
    refine z_bipush hX (v := (nI 20)) dX7_inRoom_17 (by decide) 19 rfl ?_
    refine z_iload_n hX dX7_inRoom_19 1 rfl 20 rfl ?_
    refine z_imul hX dX7_inRoom_20 21 rfl ?_
    refine z_iadd hX dX7_inRoom_21 22 rfl ?_
    refine z_iload_n hX dX7_inRoom_22 3 rfl 23 rfl ?_
    refine z_iadd hX dX7_inRoom_23 24 rfl ?_
    replace h := gd_elim h
    obtain ⟨g2, h⟩ := h
    refine z_iald hX (inb_vp g2) dX7_inRoom_24 25 rfl ?_
    refine z_iadd hX dX7_inRoom_25 26 rfl ?_
    replace h := bd_elim h
    obtain ⟨x3, ex3, h⟩ := h
    refine z_nm ex3 ?_
    refine z_istore_n hX (lv2 := [(2, .int x3), (0, .ref (gL Γ (189))), (1, .int v1), (3, .int v3)]) dX7_inRoom_26 (by decide) rfl 27 rfl ?_
    refine z_iinc hX (v := (v3 + (nI 1))) (lv2 := [(3, .int ((v3 + (nI 1)))), (2, .int x3), (0, .ref (gL Γ (189))), (1, .int v1)]) dX7_inRoom_27 3 rfl rfl (by decide) rfl 30 rfl ?_
    refine z_goto hX 4 dX7_inRoom_30 (by decide) ?_
    replace h := Option.some.inj h
    subst h
    exact z_sub [2, 3, 1, 0] rfl hk
set_option maxHeartbeats 4000000 in
set_option maxRecDepth 100000 in
theorem e_X7_inRoom {X : Cx} {Γ : Gm} {r0 : Rb} (hX : Amb X Γ cX7_inRoom RX7 4 (some .int) 0) {a1 : Int32} {s : St} {t : Int32 × St} (h : f_X7_inRoom a1 s = some t) (hk : (fun t : Int32 × St => Rt X Γ r0 (some (Value.int t.1), t.2)) t) : Zw X Γ 4 r0 s 0 [(0, .ref (gL Γ (189))), (1, .int a1)] [] := by
  unfold f_X7_inRoom at h
  refine z_iconst hX (v := (nI 0)) dX7_inRoom_0 rfl 1 rfl ?_
  refine z_istore_n hX (lv2 := [(2, .int ((nI 0))), (0, .ref (gL Γ (189))), (1, .int a1)]) dX7_inRoom_1 (by decide) rfl 2 rfl ?_
  refine z_iconst hX (v := (nI 0)) dX7_inRoom_2 rfl 3 rfl ?_
  refine z_istore_n hX (lv2 := [(3, .int ((nI 0))), (2, .int ((nI 0))), (0, .ref (gL Γ (189))), (1, .int a1)]) dX7_inRoom_3 (by decide) rfl 4 rfl ?_
  exact z_sub [2, 3, 1, 0] rfl (lp_ok (Z := fun q : Int32 × Int32 × St => Zw X Γ 4 r0 q.2.2 4 [(0, .ref (gL Γ (189))), (1, .int a1), (2, .int q.1), (3, .int q.2.1)] []) (fun q t h hk => e_X7_inRoom_L4 hX h hk) Fu _ _ h hk)
theorem c_X7_inRoom {lc : Launch} {Γ : Gm} {a1 : Int32} {s s2 : St} {v : Int32} (h : f_X7_inRoom a1 s = some (v, s2)) : Ct lc Γ yX7_inRoom cX7_inRoom 4 (some .int) 0 [.ref (gL Γ (189)), .int a1] s (some (.int v), s2) := Ct.of (by decide +kernel) (Nat.le_of_ble_eq_true rfl) (fun X hl hX => e_X7_inRoom hX h rfl)
theorem dX7_hadBy_0 : decode cX7_hadBy 0 = .ok (.iconst 0, 1) := by decide +kernel
theorem dX7_hadBy_1 : decode cX7_hadBy 1 = .ok (.istore_n 2, 1) := by decide +kernel
theorem dX7_hadBy_2 : decode cX7_hadBy 2 = .ok (.iconst 0, 1) := by decide +kernel
theorem dX7_hadBy_3 : decode cX7_hadBy 3 = .ok (.istore_n 3, 1) := by decide +kernel
theorem dX7_hadBy_4 : decode cX7_hadBy 4 = .ok (.iload_n 3, 1) := by decide +kernel
theorem dX7_hadBy_5 : decode cX7_hadBy 5 = .ok (.iconst 3, 1) := by decide +kernel
theorem dX7_hadBy_6 : decode cX7_hadBy 6 = .ok (.if_icmp .ge 25, 3) := by decide +kernel
theorem dX7_hadBy_9 : decode cX7_hadBy 9 = .ok (.iload_n 2, 1) := by decide +kernel
theorem dX7_hadBy_10 : decode cX7_hadBy 10 = .ok (.aload_n 0, 1) := by decide +kernel
theorem dX7_hadBy_11 : decode cX7_hadBy 11 = .ok (.getfield 13, 3) := by decide +kernel
theorem dX7_hadBy_14 : decode cX7_hadBy 14 = .ok (.bipush 20, 2) := by decide +kernel
theorem dX7_hadBy_16 : decode cX7_hadBy 16 = .ok (.iconst 3, 1) := by decide +kernel
theorem dX7_hadBy_17 : decode cX7_hadBy 17 = .ok (.iload_n 1, 1) := by decide +kernel
theorem dX7_hadBy_18 : decode cX7_hadBy 18 = .ok (.imul, 1) := by decide +kernel
theorem dX7_hadBy_19 : decode cX7_hadBy 19 = .ok (.iadd, 1) := by decide +kernel
theorem dX7_hadBy_20 : decode cX7_hadBy 20 = .ok (.iload_n 3, 1) := by decide +kernel
theorem dX7_hadBy_21 : decode cX7_hadBy 21 = .ok (.iadd, 1) := by decide +kernel
theorem dX7_hadBy_22 : decode cX7_hadBy 22 = .ok (.iaload, 1) := by decide +kernel
theorem dX7_hadBy_23 : decode cX7_hadBy 23 = .ok (.iadd, 1) := by decide +kernel
theorem dX7_hadBy_24 : decode cX7_hadBy 24 = .ok (.istore_n 2, 1) := by decide +kernel
theorem dX7_hadBy_25 : decode cX7_hadBy 25 = .ok (.iinc 3 1, 3) := by decide +kernel
theorem dX7_hadBy_28 : decode cX7_hadBy 28 = .ok (.goto (-24), 3) := by decide +kernel
theorem dX7_hadBy_31 : decode cX7_hadBy 31 = .ok (.iload_n 2, 1) := by decide +kernel
theorem dX7_hadBy_32 : decode cX7_hadBy 32 = .ok (.ireturn, 1) := by decide +kernel
def f_X7_hadBy_L4 (v1 : Int32) (v2 : Int32) (v3 : Int32) (s : St) : Option ((Int32 × Int32 × St) ⊕ (Int32 × St)) := if (nI 3) ≤ v3 then (some (Sum.inr ((v2, s)))) else (if inb (((nI 20) + ((nI 3) * v1)) + v3) (lnI 191) = true then bd (v2 + (s.1 191 ((((nI 20) + ((nI 3) * v1)) + v3)).toNatClampNeg)) (fun x3 => some (Sum.inl (x3, (v3 + (nI 1)), s))) else none)
def f_X7_hadBy (a1 : Int32) (s : St) : Option (Int32 × St) := lp (fun q : Int32 × Int32 × St => f_X7_hadBy_L4 a1 q.1 q.2.1 q.2.2) Fu ((nI 0), (nI 0), s)
set_option maxHeartbeats 4000000 in
set_option maxRecDepth 100000 in
theorem e_X7_hadBy_L4 {X : Cx} {Γ : Gm} {r0 : Rb} (hX : Amb X Γ cX7_hadBy RX7 4 (some .int) 0) {v1 : Int32} {v2 : Int32} {v3 : Int32} {s : St} {t : (Int32 × Int32 × St) ⊕ (Int32 × St)} (h : f_X7_hadBy_L4 v1 v2 v3 s = some t) (hk : (Sum.elim (fun q : Int32 × Int32 × St => Zw X Γ 4 r0 q.2.2 4 [(0, .ref (gL Γ (189))), (1, .int v1), (2, .int q.1), (3, .int q.2.1)] []) (fun t : Int32 × St => Rt X Γ r0 (some (Value.int t.1), t.2))) t) : Zw X Γ 4 r0 s 4 [(0, .ref (gL Γ (189))), (1, .int v1), (2, .int v2), (3, .int v3)] [] := by
  unfold f_X7_hadBy_L4 at h
  refine z_iload_n hX dX7_hadBy_4 3 rfl 5 rfl ?_
  refine z_iconst hX (v := (nI 3)) dX7_hadBy_5 rfl 6 rfl ?_
  refine z_icmp_ge hX 31 dX7_hadBy_6 (by decide) 9 rfl (fun c1 => ?_) (fun c1 => ?_)
  · replace h := br_pos h c1
    refine z_iload_n hX dX7_hadBy_31 2 rfl 32 rfl ?_
    replace h := Option.some.inj h
    subst h
    exact z_iret hX dX7_hadBy_32 rfl hk
  · replace h := br_neg h c1
    refine z_iload_n hX dX7_hadBy_9 2 rfl 10 rfl ?_
    refine z_aload_n hX dX7_hadBy_10 0 rfl 11 rfl ?_
    refine z_get7 hX (k := 189) (j := 1) (v := .ref (gL Γ (191))) kdc_189 (by decide) rfl dX7_hadBy_11 fl_X7_13 14 rfl ?_
    refine z_bipush hX (v := (nI 20)) dX7_hadBy_14 (by decide) 16 rfl ?_
    refine z_iconst hX (v := (nI 3)) dX7_hadBy_16 rfl 17 rfl ?_
    refine z_iload_n hX dX7_hadBy_17 1 rfl 18 rfl ?_
    refine z_imul hX dX7_hadBy_18 19 rfl ?_
    refine z_iadd hX dX7_hadBy_19 20 rfl ?_
    refine z_iload_n hX dX7_hadBy_20 3 rfl 21 rfl ?_
    refine z_iadd hX dX7_hadBy_21 22 rfl ?_
    replace h := gd_elim h
    obtain ⟨g2, h⟩ := h
    refine z_iald hX (inb_vp g2) dX7_hadBy_22 23 rfl ?_
    refine z_iadd hX dX7_hadBy_23 24 rfl ?_
    replace h := bd_elim h
    obtain ⟨x3, ex3, h⟩ := h
    refine z_nm ex3 ?_
    refine z_istore_n hX (lv2 := [(2, .int x3), (0, .ref (gL Γ (189))), (1, .int v1), (3, .int v3)]) dX7_hadBy_24 (by decide) rfl 25 rfl ?_
    refine z_iinc hX (v := (v3 + (nI 1))) (lv2 := [(3, .int ((v3 + (nI 1)))), (2, .int x3), (0, .ref (gL Γ (189))), (1, .int v1)]) dX7_hadBy_25 3 rfl rfl (by decide) rfl 28 rfl ?_
    refine z_goto hX 4 dX7_hadBy_28 (by decide) ?_
    replace h := Option.some.inj h
    subst h
    exact z_sub [2, 3, 1, 0] rfl hk
set_option maxHeartbeats 4000000 in
set_option maxRecDepth 100000 in
theorem e_X7_hadBy {X : Cx} {Γ : Gm} {r0 : Rb} (hX : Amb X Γ cX7_hadBy RX7 4 (some .int) 0) {a1 : Int32} {s : St} {t : Int32 × St} (h : f_X7_hadBy a1 s = some t) (hk : (fun t : Int32 × St => Rt X Γ r0 (some (Value.int t.1), t.2)) t) : Zw X Γ 4 r0 s 0 [(0, .ref (gL Γ (189))), (1, .int a1)] [] := by
  unfold f_X7_hadBy at h
  refine z_iconst hX (v := (nI 0)) dX7_hadBy_0 rfl 1 rfl ?_
  refine z_istore_n hX (lv2 := [(2, .int ((nI 0))), (0, .ref (gL Γ (189))), (1, .int a1)]) dX7_hadBy_1 (by decide) rfl 2 rfl ?_
  refine z_iconst hX (v := (nI 0)) dX7_hadBy_2 rfl 3 rfl ?_
  refine z_istore_n hX (lv2 := [(3, .int ((nI 0))), (2, .int ((nI 0))), (0, .ref (gL Γ (189))), (1, .int a1)]) dX7_hadBy_3 (by decide) rfl 4 rfl ?_
  exact z_sub [2, 3, 1, 0] rfl (lp_ok (Z := fun q : Int32 × Int32 × St => Zw X Γ 4 r0 q.2.2 4 [(0, .ref (gL Γ (189))), (1, .int a1), (2, .int q.1), (3, .int q.2.1)] []) (fun q t h hk => e_X7_hadBy_L4 hX h hk) Fu _ _ h hk)
theorem c_X7_hadBy {lc : Launch} {Γ : Gm} {a1 : Int32} {s s2 : St} {v : Int32} (h : f_X7_hadBy a1 s = some (v, s2)) : Ct lc Γ yX7_hadBy cX7_hadBy 4 (some .int) 0 [.ref (gL Γ (189)), .int a1] s (some (.int v), s2) := Ct.of (by decide +kernel) (Nat.le_of_ble_eq_true rfl) (fun X hl hX => e_X7_hadBy hX h rfl)
theorem dX7_hadOf_0 : decode cX7_hadOf 0 = .ok (.iconst 0, 1) := by decide +kernel
theorem dX7_hadOf_1 : decode cX7_hadOf 1 = .ok (.istore_n 2, 1) := by decide +kernel
theorem dX7_hadOf_2 : decode cX7_hadOf 2 = .ok (.iconst 0, 1) := by decide +kernel
theorem dX7_hadOf_3 : decode cX7_hadOf 3 = .ok (.istore_n 3, 1) := by decide +kernel
theorem dX7_hadOf_4 : decode cX7_hadOf 4 = .ok (.iload_n 3, 1) := by decide +kernel
theorem dX7_hadOf_5 : decode cX7_hadOf 5 = .ok (.iconst 4, 1) := by decide +kernel
theorem dX7_hadOf_6 : decode cX7_hadOf 6 = .ok (.if_icmp .ge 25, 3) := by decide +kernel
theorem dX7_hadOf_9 : decode cX7_hadOf 9 = .ok (.iload_n 2, 1) := by decide +kernel
theorem dX7_hadOf_10 : decode cX7_hadOf 10 = .ok (.aload_n 0, 1) := by decide +kernel
theorem dX7_hadOf_11 : decode cX7_hadOf 11 = .ok (.getfield 13, 3) := by decide +kernel
theorem dX7_hadOf_14 : decode cX7_hadOf 14 = .ok (.bipush 20, 2) := by decide +kernel
theorem dX7_hadOf_16 : decode cX7_hadOf 16 = .ok (.iconst 3, 1) := by decide +kernel
theorem dX7_hadOf_17 : decode cX7_hadOf 17 = .ok (.iload_n 3, 1) := by decide +kernel
theorem dX7_hadOf_18 : decode cX7_hadOf 18 = .ok (.imul, 1) := by decide +kernel
theorem dX7_hadOf_19 : decode cX7_hadOf 19 = .ok (.iadd, 1) := by decide +kernel
theorem dX7_hadOf_20 : decode cX7_hadOf 20 = .ok (.iload_n 1, 1) := by decide +kernel
theorem dX7_hadOf_21 : decode cX7_hadOf 21 = .ok (.iadd, 1) := by decide +kernel
theorem dX7_hadOf_22 : decode cX7_hadOf 22 = .ok (.iaload, 1) := by decide +kernel
theorem dX7_hadOf_23 : decode cX7_hadOf 23 = .ok (.iadd, 1) := by decide +kernel
theorem dX7_hadOf_24 : decode cX7_hadOf 24 = .ok (.istore_n 2, 1) := by decide +kernel
theorem dX7_hadOf_25 : decode cX7_hadOf 25 = .ok (.iinc 3 1, 3) := by decide +kernel
theorem dX7_hadOf_28 : decode cX7_hadOf 28 = .ok (.goto (-24), 3) := by decide +kernel
theorem dX7_hadOf_31 : decode cX7_hadOf 31 = .ok (.iload_n 2, 1) := by decide +kernel
theorem dX7_hadOf_32 : decode cX7_hadOf 32 = .ok (.ireturn, 1) := by decide +kernel
def f_X7_hadOf_L4 (v1 : Int32) (v2 : Int32) (v3 : Int32) (s : St) : Option ((Int32 × Int32 × St) ⊕ (Int32 × St)) := if (nI 4) ≤ v3 then (some (Sum.inr ((v2, s)))) else (if inb (((nI 20) + ((nI 3) * v3)) + v1) (lnI 191) = true then bd (v2 + (s.1 191 ((((nI 20) + ((nI 3) * v3)) + v1)).toNatClampNeg)) (fun x3 => some (Sum.inl (x3, (v3 + (nI 1)), s))) else none)
def f_X7_hadOf (a1 : Int32) (s : St) : Option (Int32 × St) := lp (fun q : Int32 × Int32 × St => f_X7_hadOf_L4 a1 q.1 q.2.1 q.2.2) Fu ((nI 0), (nI 0), s)
set_option maxHeartbeats 4000000 in
set_option maxRecDepth 100000 in
theorem e_X7_hadOf_L4 {X : Cx} {Γ : Gm} {r0 : Rb} (hX : Amb X Γ cX7_hadOf RX7 4 (some .int) 0) {v1 : Int32} {v2 : Int32} {v3 : Int32} {s : St} {t : (Int32 × Int32 × St) ⊕ (Int32 × St)} (h : f_X7_hadOf_L4 v1 v2 v3 s = some t) (hk : (Sum.elim (fun q : Int32 × Int32 × St => Zw X Γ 4 r0 q.2.2 4 [(0, .ref (gL Γ (189))), (1, .int v1), (2, .int q.1), (3, .int q.2.1)] []) (fun t : Int32 × St => Rt X Γ r0 (some (Value.int t.1), t.2))) t) : Zw X Γ 4 r0 s 4 [(0, .ref (gL Γ (189))), (1, .int v1), (2, .int v2), (3, .int v3)] [] := by
  unfold f_X7_hadOf_L4 at h
  refine z_iload_n hX dX7_hadOf_4 3 rfl 5 rfl ?_
  refine z_iconst hX (v := (nI 4)) dX7_hadOf_5 rfl 6 rfl ?_
  refine z_icmp_ge hX 31 dX7_hadOf_6 (by decide) 9 rfl (fun c1 => ?_) (fun c1 => ?_)
  · replace h := br_pos h c1
    refine z_iload_n hX dX7_hadOf_31 2 rfl 32 rfl ?_
    replace h := Option.some.inj h
    subst h
    exact z_iret hX dX7_hadOf_32 rfl hk
  · replace h := br_neg h c1
    refine z_iload_n hX dX7_hadOf_9 2 rfl 10 rfl ?_
    refine z_aload_n hX dX7_hadOf_10 0 rfl 11 rfl ?_
    refine z_get7 hX (k := 189) (j := 1) (v := .ref (gL Γ (191))) kdc_189 (by decide) rfl dX7_hadOf_11 fl_X7_13 14 rfl ?_
    refine z_bipush hX (v := (nI 20)) dX7_hadOf_14 (by decide) 16 rfl ?_
    refine z_iconst hX (v := (nI 3)) dX7_hadOf_16 rfl 17 rfl ?_
    refine z_iload_n hX dX7_hadOf_17 3 rfl 18 rfl ?_
    refine z_imul hX dX7_hadOf_18 19 rfl ?_
    refine z_iadd hX dX7_hadOf_19 20 rfl ?_
    refine z_iload_n hX dX7_hadOf_20 1 rfl 21 rfl ?_
    refine z_iadd hX dX7_hadOf_21 22 rfl ?_
    replace h := gd_elim h
    obtain ⟨g2, h⟩ := h
    refine z_iald hX (inb_vp g2) dX7_hadOf_22 23 rfl ?_
    refine z_iadd hX dX7_hadOf_23 24 rfl ?_
    replace h := bd_elim h
    obtain ⟨x3, ex3, h⟩ := h
    refine z_nm ex3 ?_
    refine z_istore_n hX (lv2 := [(2, .int x3), (0, .ref (gL Γ (189))), (1, .int v1), (3, .int v3)]) dX7_hadOf_24 (by decide) rfl 25 rfl ?_
    refine z_iinc hX (v := (v3 + (nI 1))) (lv2 := [(3, .int ((v3 + (nI 1)))), (2, .int x3), (0, .ref (gL Γ (189))), (1, .int v1)]) dX7_hadOf_25 3 rfl rfl (by decide) rfl 28 rfl ?_
    refine z_goto hX 4 dX7_hadOf_28 (by decide) ?_
    replace h := Option.some.inj h
    subst h
    exact z_sub [2, 3, 1, 0] rfl hk
set_option maxHeartbeats 4000000 in
set_option maxRecDepth 100000 in
theorem e_X7_hadOf {X : Cx} {Γ : Gm} {r0 : Rb} (hX : Amb X Γ cX7_hadOf RX7 4 (some .int) 0) {a1 : Int32} {s : St} {t : Int32 × St} (h : f_X7_hadOf a1 s = some t) (hk : (fun t : Int32 × St => Rt X Γ r0 (some (Value.int t.1), t.2)) t) : Zw X Γ 4 r0 s 0 [(0, .ref (gL Γ (189))), (1, .int a1)] [] := by
  unfold f_X7_hadOf at h
  refine z_iconst hX (v := (nI 0)) dX7_hadOf_0 rfl 1 rfl ?_
  refine z_istore_n hX (lv2 := [(2, .int ((nI 0))), (0, .ref (gL Γ (189))), (1, .int a1)]) dX7_hadOf_1 (by decide) rfl 2 rfl ?_
  refine z_iconst hX (v := (nI 0)) dX7_hadOf_2 rfl 3 rfl ?_
  refine z_istore_n hX (lv2 := [(3, .int ((nI 0))), (2, .int ((nI 0))), (0, .ref (gL Γ (189))), (1, .int a1)]) dX7_hadOf_3 (by decide) rfl 4 rfl ?_
  exact z_sub [2, 3, 1, 0] rfl (lp_ok (Z := fun q : Int32 × Int32 × St => Zw X Γ 4 r0 q.2.2 4 [(0, .ref (gL Γ (189))), (1, .int a1), (2, .int q.1), (3, .int q.2.1)] []) (fun q t h hk => e_X7_hadOf_L4 hX h hk) Fu _ _ h hk)
theorem c_X7_hadOf {lc : Launch} {Γ : Gm} {a1 : Int32} {s s2 : St} {v : Int32} (h : f_X7_hadOf a1 s = some (v, s2)) : Ct lc Γ yX7_hadOf cX7_hadOf 4 (some .int) 0 [.ref (gL Γ (189)), .int a1] s (some (.int v), s2) := Ct.of (by decide +kernel) (Nat.le_of_ble_eq_true rfl) (fun X hl hX => e_X7_hadOf hX h rfl)
theorem dX7_allIn_0 : decode cX7_allIn 0 = .ok (.aload_n 0, 1) := by decide +kernel
theorem dX7_allIn_1 : decode cX7_allIn 1 = .ok (.iconst 0, 1) := by decide +kernel
theorem dX7_allIn_2 : decode cX7_allIn 2 = .ok (.invokevirtual 182, 3) := by decide +kernel
theorem dX7_allIn_5 : decode cX7_allIn 5 = .ok (.aload_n 0, 1) := by decide +kernel
theorem dX7_allIn_6 : decode cX7_allIn 6 = .ok (.iconst 1, 1) := by decide +kernel
theorem dX7_allIn_7 : decode cX7_allIn 7 = .ok (.invokevirtual 182, 3) := by decide +kernel
theorem dX7_allIn_10 : decode cX7_allIn 10 = .ok (.iadd, 1) := by decide +kernel
theorem dX7_allIn_11 : decode cX7_allIn 11 = .ok (.aload_n 0, 1) := by decide +kernel
theorem dX7_allIn_12 : decode cX7_allIn 12 = .ok (.iconst 2, 1) := by decide +kernel
theorem dX7_allIn_13 : decode cX7_allIn 13 = .ok (.invokevirtual 182, 3) := by decide +kernel
theorem dX7_allIn_16 : decode cX7_allIn 16 = .ok (.iadd, 1) := by decide +kernel
theorem dX7_allIn_17 : decode cX7_allIn 17 = .ok (.ireturn, 1) := by decide +kernel
def f_X7_allIn (s : St) : Option (Int32 × St) := cl (f_X7_inRoom (nI 0) s) (fun x2 s1 => cl (f_X7_inRoom (nI 1) s1) (fun x4 s3 => cl (f_X7_inRoom (nI 2) s3) (fun x6 s5 => some ((((x2 + x4) + x6), s5)))))
set_option maxHeartbeats 4000000 in
set_option maxRecDepth 100000 in
theorem e_X7_allIn {X : Cx} {Γ : Gm} {r0 : Rb} (hX : Amb X Γ cX7_allIn RX7 1 (some .int) 1) {s : St} {t : Int32 × St} (h : f_X7_allIn s = some t) (hk : (fun t : Int32 × St => Rt X Γ r0 (some (Value.int t.1), t.2)) t) : Zw X Γ 1 r0 s 0 [(0, .ref (gL Γ (189)))] [] := by
  unfold f_X7_allIn at h
  refine z_aload_n hX dX7_allIn_0 0 rfl 1 rfl ?_
  refine z_iconst hX (v := (nI 0)) dX7_allIn_1 rfl 2 rfl ?_
  replace h := cl_elim h
  obtain ⟨x2, s1, hx2, h⟩ := h
  refine z_cV7i hX (b := 189) (As := [.int ((nI 0))]) (c_X7_inRoom hx2) lk_X7_182 rfl kdc_189 ds_X7_inRoom rfl (by decide) (by decide) (by decide) dX7_allIn_2 rfl 5 rfl ?_
  refine z_aload_n hX dX7_allIn_5 0 rfl 6 rfl ?_
  refine z_iconst hX (v := (nI 1)) dX7_allIn_6 rfl 7 rfl ?_
  replace h := cl_elim h
  obtain ⟨x4, s3, hx4, h⟩ := h
  refine z_cV7i hX (b := 189) (As := [.int ((nI 1))]) (c_X7_inRoom hx4) lk_X7_182 rfl kdc_189 ds_X7_inRoom rfl (by decide) (by decide) (Nat.le_of_ble_eq_true rfl) dX7_allIn_7 rfl 10 rfl ?_
  refine z_iadd hX dX7_allIn_10 11 rfl ?_
  refine z_aload_n hX dX7_allIn_11 0 rfl 12 rfl ?_
  refine z_iconst hX (v := (nI 2)) dX7_allIn_12 rfl 13 rfl ?_
  replace h := cl_elim h
  obtain ⟨x6, s5, hx6, h⟩ := h
  refine z_cV7i hX (b := 189) (As := [.int ((nI 2))]) (c_X7_inRoom hx6) lk_X7_182 rfl kdc_189 ds_X7_inRoom rfl (by decide) (by decide) (Nat.le_of_ble_eq_true rfl) dX7_allIn_13 rfl 16 rfl ?_
  refine z_iadd hX dX7_allIn_16 17 rfl ?_
  replace h := Option.some.inj h
  subst h
  exact z_iret hX dX7_allIn_17 rfl hk
theorem c_X7_allIn {lc : Launch} {Γ : Gm} {s s2 : St} {v : Int32} (h : f_X7_allIn s = some (v, s2)) : Ct lc Γ yX7_allIn cX7_allIn 1 (some .int) 1 [.ref (gL Γ (189))] s (some (.int v), s2) := Ct.of (by decide +kernel) (Nat.le_of_ble_eq_true rfl) (fun X hl hX => e_X7_allIn hX h rfl)
theorem dX7_allLost_0 : decode cX7_allLost 0 = .ok (.aload_n 0, 1) := by decide +kernel
theorem dX7_allLost_1 : decode cX7_allLost 1 = .ok (.getfield 13, 3) := by decide +kernel
theorem dX7_allLost_4 : decode cX7_allLost 4 = .ok (.bipush 103, 2) := by decide +kernel
theorem dX7_allLost_6 : decode cX7_allLost 6 = .ok (.iaload, 1) := by decide +kernel
theorem dX7_allLost_7 : decode cX7_allLost 7 = .ok (.aload_n 0, 1) := by decide +kernel
theorem dX7_allLost_8 : decode cX7_allLost 8 = .ok (.getfield 13, 3) := by decide +kernel
theorem dX7_allLost_11 : decode cX7_allLost 11 = .ok (.bipush 104, 2) := by decide +kernel
theorem dX7_allLost_13 : decode cX7_allLost 13 = .ok (.iaload, 1) := by decide +kernel
theorem dX7_allLost_14 : decode cX7_allLost 14 = .ok (.iadd, 1) := by decide +kernel
theorem dX7_allLost_15 : decode cX7_allLost 15 = .ok (.aload_n 0, 1) := by decide +kernel
theorem dX7_allLost_16 : decode cX7_allLost 16 = .ok (.getfield 13, 3) := by decide +kernel
theorem dX7_allLost_19 : decode cX7_allLost 19 = .ok (.bipush 105, 2) := by decide +kernel
theorem dX7_allLost_21 : decode cX7_allLost 21 = .ok (.iaload, 1) := by decide +kernel
theorem dX7_allLost_22 : decode cX7_allLost 22 = .ok (.iadd, 1) := by decide +kernel
theorem dX7_allLost_23 : decode cX7_allLost 23 = .ok (.ireturn, 1) := by decide +kernel
def f_X7_allLost (s : St) : Option (Int32 × St) := if inb (nI 103) (lnI 191) = true then if inb (nI 104) (lnI 191) = true then if inb (nI 105) (lnI 191) = true then some (((((s.1 191 ((nI 103)).toNatClampNeg) + (s.1 191 ((nI 104)).toNatClampNeg)) + (s.1 191 ((nI 105)).toNatClampNeg)), s)) else none else none else none
set_option maxHeartbeats 4000000 in
set_option maxRecDepth 100000 in
theorem e_X7_allLost {X : Cx} {Γ : Gm} {r0 : Rb} (hX : Amb X Γ cX7_allLost RX7 1 (some .int) 0) {s : St} {t : Int32 × St} (h : f_X7_allLost s = some t) (hk : (fun t : Int32 × St => Rt X Γ r0 (some (Value.int t.1), t.2)) t) : Zw X Γ 1 r0 s 0 [(0, .ref (gL Γ (189)))] [] := by
  unfold f_X7_allLost at h
  refine z_aload_n hX dX7_allLost_0 0 rfl 1 rfl ?_
  refine z_get7 hX (k := 189) (j := 1) (v := .ref (gL Γ (191))) kdc_189 (by decide) rfl dX7_allLost_1 fl_X7_13 4 rfl ?_
  refine z_bipush hX (v := (nI 103)) dX7_allLost_4 (by decide) 6 rfl ?_
  replace h := gd_elim h
  obtain ⟨g1, h⟩ := h
  refine z_iald hX (inb_vp g1) dX7_allLost_6 7 rfl ?_
  refine z_aload_n hX dX7_allLost_7 0 rfl 8 rfl ?_
  refine z_get7 hX (k := 189) (j := 1) (v := .ref (gL Γ (191))) kdc_189 (by decide) rfl dX7_allLost_8 fl_X7_13 11 rfl ?_
  refine z_bipush hX (v := (nI 104)) dX7_allLost_11 (by decide) 13 rfl ?_
  replace h := gd_elim h
  obtain ⟨g2, h⟩ := h
  refine z_iald hX (inb_vp g2) dX7_allLost_13 14 rfl ?_
  refine z_iadd hX dX7_allLost_14 15 rfl ?_
  refine z_aload_n hX dX7_allLost_15 0 rfl 16 rfl ?_
  refine z_get7 hX (k := 189) (j := 1) (v := .ref (gL Γ (191))) kdc_189 (by decide) rfl dX7_allLost_16 fl_X7_13 19 rfl ?_
  refine z_bipush hX (v := (nI 105)) dX7_allLost_19 (by decide) 21 rfl ?_
  replace h := gd_elim h
  obtain ⟨g3, h⟩ := h
  refine z_iald hX (inb_vp g3) dX7_allLost_21 22 rfl ?_
  refine z_iadd hX dX7_allLost_22 23 rfl ?_
  replace h := Option.some.inj h
  subst h
  exact z_iret hX dX7_allLost_23 rfl hk
theorem c_X7_allLost {lc : Launch} {Γ : Gm} {s s2 : St} {v : Int32} (h : f_X7_allLost s = some (v, s2)) : Ct lc Γ yX7_allLost cX7_allLost 1 (some .int) 0 [.ref (gL Γ (189))] s (some (.int v), s2) := Ct.of (by decide +kernel) (Nat.le_of_ble_eq_true rfl) (fun X hl hX => e_X7_allLost hX h rfl)
theorem dX7_allHad_0 : decode cX7_allHad 0 = .ok (.aload_n 0, 1) := by decide +kernel
theorem dX7_allHad_1 : decode cX7_allHad 1 = .ok (.iconst 0, 1) := by decide +kernel
theorem dX7_allHad_2 : decode cX7_allHad 2 = .ok (.invokevirtual 185, 3) := by decide +kernel
theorem dX7_allHad_5 : decode cX7_allHad 5 = .ok (.aload_n 0, 1) := by decide +kernel
theorem dX7_allHad_6 : decode cX7_allHad 6 = .ok (.iconst 1, 1) := by decide +kernel
theorem dX7_allHad_7 : decode cX7_allHad 7 = .ok (.invokevirtual 185, 3) := by decide +kernel
theorem dX7_allHad_10 : decode cX7_allHad 10 = .ok (.iadd, 1) := by decide +kernel
theorem dX7_allHad_11 : decode cX7_allHad 11 = .ok (.aload_n 0, 1) := by decide +kernel
theorem dX7_allHad_12 : decode cX7_allHad 12 = .ok (.iconst 2, 1) := by decide +kernel
theorem dX7_allHad_13 : decode cX7_allHad 13 = .ok (.invokevirtual 185, 3) := by decide +kernel
theorem dX7_allHad_16 : decode cX7_allHad 16 = .ok (.iadd, 1) := by decide +kernel
theorem dX7_allHad_17 : decode cX7_allHad 17 = .ok (.ireturn, 1) := by decide +kernel
def f_X7_allHad (s : St) : Option (Int32 × St) := cl (f_X7_hadOf (nI 0) s) (fun x2 s1 => cl (f_X7_hadOf (nI 1) s1) (fun x4 s3 => cl (f_X7_hadOf (nI 2) s3) (fun x6 s5 => some ((((x2 + x4) + x6), s5)))))
set_option maxHeartbeats 4000000 in
set_option maxRecDepth 100000 in
theorem e_X7_allHad {X : Cx} {Γ : Gm} {r0 : Rb} (hX : Amb X Γ cX7_allHad RX7 1 (some .int) 1) {s : St} {t : Int32 × St} (h : f_X7_allHad s = some t) (hk : (fun t : Int32 × St => Rt X Γ r0 (some (Value.int t.1), t.2)) t) : Zw X Γ 1 r0 s 0 [(0, .ref (gL Γ (189)))] [] := by
  unfold f_X7_allHad at h
  refine z_aload_n hX dX7_allHad_0 0 rfl 1 rfl ?_
  refine z_iconst hX (v := (nI 0)) dX7_allHad_1 rfl 2 rfl ?_
  replace h := cl_elim h
  obtain ⟨x2, s1, hx2, h⟩ := h
  refine z_cV7i hX (b := 189) (As := [.int ((nI 0))]) (c_X7_hadOf hx2) lk_X7_185 rfl kdc_189 ds_X7_hadOf rfl (by decide) (by decide) (by decide) dX7_allHad_2 rfl 5 rfl ?_
  refine z_aload_n hX dX7_allHad_5 0 rfl 6 rfl ?_
  refine z_iconst hX (v := (nI 1)) dX7_allHad_6 rfl 7 rfl ?_
  replace h := cl_elim h
  obtain ⟨x4, s3, hx4, h⟩ := h
  refine z_cV7i hX (b := 189) (As := [.int ((nI 1))]) (c_X7_hadOf hx4) lk_X7_185 rfl kdc_189 ds_X7_hadOf rfl (by decide) (by decide) (Nat.le_of_ble_eq_true rfl) dX7_allHad_7 rfl 10 rfl ?_
  refine z_iadd hX dX7_allHad_10 11 rfl ?_
  refine z_aload_n hX dX7_allHad_11 0 rfl 12 rfl ?_
  refine z_iconst hX (v := (nI 2)) dX7_allHad_12 rfl 13 rfl ?_
  replace h := cl_elim h
  obtain ⟨x6, s5, hx6, h⟩ := h
  refine z_cV7i hX (b := 189) (As := [.int ((nI 2))]) (c_X7_hadOf hx6) lk_X7_185 rfl kdc_189 ds_X7_hadOf rfl (by decide) (by decide) (Nat.le_of_ble_eq_true rfl) dX7_allHad_13 rfl 16 rfl ?_
  refine z_iadd hX dX7_allHad_16 17 rfl ?_
  replace h := Option.some.inj h
  subst h
  exact z_iret hX dX7_allHad_17 rfl hk
theorem c_X7_allHad {lc : Launch} {Γ : Gm} {s s2 : St} {v : Int32} (h : f_X7_allHad s = some (v, s2)) : Ct lc Γ yX7_allHad cX7_allHad 1 (some .int) 1 [.ref (gL Γ (189))] s (some (.int v), s2) := Ct.of (by decide +kernel) (Nat.le_of_ble_eq_true rfl) (fun X hl hX => e_X7_allHad hX h rfl)
theorem dX7_rule_0 : decode cX7_rule 0 = .ok (.aload_n 0, 1) := by decide +kernel
theorem dX7_rule_1 : decode cX7_rule 1 = .ok (.invokevirtual 188, 3) := by decide +kernel
theorem dX7_rule_4 : decode cX7_rule 4 = .ok (.iload_n 1, 1) := by decide +kernel
theorem dX7_rule_5 : decode cX7_rule 5 = .ok (.tableswitch 72 0 5 #[39, 44, 49, 57, 62, 67], 39) := by decide +kernel
theorem dX7_rule_44 : decode cX7_rule 44 = .ok (.aload_n 0, 1) := by decide +kernel
theorem dX7_rule_45 : decode cX7_rule 45 = .ok (.getfield 69, 3) := by decide +kernel
theorem dX7_rule_48 : decode cX7_rule 48 = .ok (.ireturn, 1) := by decide +kernel
theorem dX7_rule_49 : decode cX7_rule 49 = .ok (.aload_n 0, 1) := by decide +kernel
theorem dX7_rule_50 : decode cX7_rule 50 = .ok (.getfield 72, 3) := by decide +kernel
theorem dX7_rule_53 : decode cX7_rule 53 = .ok (.ireturn, 1) := by decide +kernel
theorem dX7_rule_54 : decode cX7_rule 54 = .ok (.aload_n 0, 1) := by decide +kernel
theorem dX7_rule_55 : decode cX7_rule 55 = .ok (.getfield 7, 3) := by decide +kernel
theorem dX7_rule_58 : decode cX7_rule 58 = .ok (.bipush 42, 2) := by decide +kernel
theorem dX7_rule_60 : decode cX7_rule 60 = .ok (.iaload, 1) := by decide +kernel
theorem dX7_rule_61 : decode cX7_rule 61 = .ok (.ireturn, 1) := by decide +kernel
theorem dX7_rule_62 : decode cX7_rule 62 = .ok (.aload_n 0, 1) := by decide +kernel
theorem dX7_rule_63 : decode cX7_rule 63 = .ok (.invokevirtual 191, 3) := by decide +kernel
theorem dX7_rule_66 : decode cX7_rule 66 = .ok (.ireturn, 1) := by decide +kernel
theorem dX7_rule_67 : decode cX7_rule 67 = .ok (.aload_n 0, 1) := by decide +kernel
theorem dX7_rule_68 : decode cX7_rule 68 = .ok (.invokevirtual 194, 3) := by decide +kernel
theorem dX7_rule_71 : decode cX7_rule 71 = .ok (.ireturn, 1) := by decide +kernel
theorem dX7_rule_72 : decode cX7_rule 72 = .ok (.aload_n 0, 1) := by decide +kernel
theorem dX7_rule_73 : decode cX7_rule 73 = .ok (.invokevirtual 197, 3) := by decide +kernel
theorem dX7_rule_76 : decode cX7_rule 76 = .ok (.ireturn, 1) := by decide +kernel
theorem dX7_rule_77 : decode cX7_rule 77 = .ok (.iconst (-1), 1) := by decide +kernel
theorem dX7_rule_78 : decode cX7_rule 78 = .ok (.ireturn, 1) := by decide +kernel
def f_X7_rule (a1 : Int32) (s : St) : Option (Int32 × St) := cl (f_X7_starts s) (fun x2 s1 => if a1 = (nI 0) then (some (((s1.1 189 3), s1))) else (if a1 = (nI 1) then (some (((s1.1 189 4), s1))) else (if a1 = (nI 2) then (if inb (nI 42) (lnI 190) = true then some (((s1.1 190 ((nI 42)).toNatClampNeg), s1)) else none) else (if a1 = (nI 3) then (cl (f_X7_allIn s1) (fun x9 s8 => some ((x9, s8)))) else (if a1 = (nI 4) then (cl (f_X7_allLost s1) (fun x12 s11 => some ((x12, s11)))) else (if a1 = (nI 5) then (cl (f_X7_allHad s1) (fun x15 s14 => some ((x15, s14)))) else (if (a1).toInt < 0 ∨ 5 < (a1).toInt then (some (((-1), s1))) else none)))))))
set_option maxHeartbeats 4000000 in
set_option maxRecDepth 100000 in
theorem e_X7_rule {X : Cx} {Γ : Gm} {r0 : Rb} (hX : Amb X Γ cX7_rule RX7 2 (some .int) 2) {a1 : Int32} {s : St} {t : Int32 × St} (h : f_X7_rule a1 s = some t) (hk : (fun t : Int32 × St => Rt X Γ r0 (some (Value.int t.1), t.2)) t) : Zw X Γ 2 r0 s 0 [(0, .ref (gL Γ (189))), (1, .int a1)] [] := by
  unfold f_X7_rule at h
  refine z_aload_n hX dX7_rule_0 0 rfl 1 rfl ?_
  replace h := cl_elim h
  obtain ⟨x2, s1, hx2, h⟩ := h
  refine z_cV7v hX (b := 189) (As := []) (c_X7_starts hx2) lk_X7_188 rfl kdc_189 ds_X7_starts rfl (by decide) (by decide) (by decide) dX7_rule_1 rfl 4 rfl ?_
  refine z_iload_n hX dX7_rule_4 1 rfl 5 rfl ?_
  by_cases c3 : a1 = (nI 0)
  · replace h := br_pos h c3
    refine z_tcase hX (off := 39) 44 dX7_rule_5 (nI 0) c3 (by decide) (by decide) ?_
    refine z_aload_n hX dX7_rule_44 0 rfl 45 rfl ?_
    refine z_get7 hX (k := 189) (j := 3) (v := .int ((s1.1 189 3))) kdc_189 (by decide) rfl dX7_rule_45 fl_X7_69 48 rfl ?_
    replace h := Option.some.inj h
    subst h
    exact z_iret hX dX7_rule_48 rfl hk
  replace h := br_neg h c3
  by_cases c4 : a1 = (nI 1)
  · replace h := br_pos h c4
    refine z_tcase hX (off := 44) 49 dX7_rule_5 (nI 1) c4 (by decide) (by decide) ?_
    refine z_aload_n hX dX7_rule_49 0 rfl 50 rfl ?_
    refine z_get7 hX (k := 189) (j := 4) (v := .int ((s1.1 189 4))) kdc_189 (by decide) rfl dX7_rule_50 fl_X7_72 53 rfl ?_
    replace h := Option.some.inj h
    subst h
    exact z_iret hX dX7_rule_53 rfl hk
  replace h := br_neg h c4
  by_cases c5 : a1 = (nI 2)
  · replace h := br_pos h c5
    refine z_tcase hX (off := 49) 54 dX7_rule_5 (nI 2) c5 (by decide) (by decide) ?_
    refine z_aload_n hX dX7_rule_54 0 rfl 55 rfl ?_
    refine z_get7 hX (k := 189) (j := 0) (v := .ref (gL Γ (190))) kdc_189 (by decide) rfl dX7_rule_55 fl_X7_7 58 rfl ?_
    refine z_bipush hX (v := (nI 42)) dX7_rule_58 (by decide) 60 rfl ?_
    replace h := gd_elim h
    obtain ⟨g6, h⟩ := h
    refine z_iald hX (inb_vp g6) dX7_rule_60 61 rfl ?_
    replace h := Option.some.inj h
    subst h
    exact z_iret hX dX7_rule_61 rfl hk
  replace h := br_neg h c5
  by_cases c7 : a1 = (nI 3)
  · replace h := br_pos h c7
    refine z_tcase hX (off := 57) 62 dX7_rule_5 (nI 3) c7 (by decide) (by decide) ?_
    refine z_aload_n hX dX7_rule_62 0 rfl 63 rfl ?_
    replace h := cl_elim h
    obtain ⟨x9, s8, hx9, h⟩ := h
    refine z_cV7i hX (b := 189) (As := []) (c_X7_allIn hx9) lk_X7_191 rfl kdc_189 ds_X7_allIn rfl (by decide) (by decide) (by decide) dX7_rule_63 rfl 66 rfl ?_
    replace h := Option.some.inj h
    subst h
    exact z_iret hX dX7_rule_66 rfl hk
  replace h := br_neg h c7
  by_cases c10 : a1 = (nI 4)
  · replace h := br_pos h c10
    refine z_tcase hX (off := 62) 67 dX7_rule_5 (nI 4) c10 (by decide) (by decide) ?_
    refine z_aload_n hX dX7_rule_67 0 rfl 68 rfl ?_
    replace h := cl_elim h
    obtain ⟨x12, s11, hx12, h⟩ := h
    refine z_cV7i hX (b := 189) (As := []) (c_X7_allLost hx12) lk_X7_194 rfl kdc_189 ds_X7_allLost rfl (by decide) (by decide) (by decide) dX7_rule_68 rfl 71 rfl ?_
    replace h := Option.some.inj h
    subst h
    exact z_iret hX dX7_rule_71 rfl hk
  replace h := br_neg h c10
  by_cases c13 : a1 = (nI 5)
  · replace h := br_pos h c13
    refine z_tcase hX (off := 67) 72 dX7_rule_5 (nI 5) c13 (by decide) (by decide) ?_
    refine z_aload_n hX dX7_rule_72 0 rfl 73 rfl ?_
    replace h := cl_elim h
    obtain ⟨x15, s14, hx15, h⟩ := h
    refine z_cV7i hX (b := 189) (As := []) (c_X7_allHad hx15) lk_X7_197 rfl kdc_189 ds_X7_allHad rfl (by decide) (by decide) (by decide) dX7_rule_73 rfl 76 rfl ?_
    replace h := Option.some.inj h
    subst h
    exact z_iret hX dX7_rule_76 rfl hk
  replace h := br_neg h c13
  replace h := gd_elim h
  obtain ⟨g16, h⟩ := h
  refine z_tdef hX 77 dX7_rule_5 g16 (by decide) ?_
  refine z_iconst hX (v := (-1)) dX7_rule_77 rfl 78 rfl ?_
  replace h := Option.some.inj h
  subst h
  exact z_iret hX dX7_rule_78 rfl hk
theorem c_X7_rule {lc : Launch} {Γ : Gm} {a1 : Int32} {s s2 : St} {v : Int32} (h : f_X7_rule a1 s = some (v, s2)) : Ct lc Γ yX7_rule cX7_rule 2 (some .int) 2 [.ref (gL Γ (189)), .int a1] s (some (.int v), s2) := Ct.of (by decide +kernel) (Nat.le_of_ble_eq_true rfl) (fun X hl hX => e_X7_rule hX h rfl)
theorem dX7_asTold_0 : decode cX7_asTold 0 = .ok (.iload_n 0, 1) := by decide +kernel
theorem dX7_asTold_1 : decode cX7_asTold 1 = .ok (.iconst 1, 1) := by decide +kernel
theorem dX7_asTold_2 : decode cX7_asTold 2 = .ok (.if_icmp .ne 10, 3) := by decide +kernel
theorem dX7_asTold_5 : decode cX7_asTold 5 = .ok (.iload_n 1, 1) := by decide +kernel
theorem dX7_asTold_6 : decode cX7_asTold 6 = .ok (.invokestatic 200, 3) := by decide +kernel
theorem dX7_asTold_9 : decode cX7_asTold 9 = .ok (.goto 4, 3) := by decide +kernel
theorem dX7_asTold_12 : decode cX7_asTold 12 = .ok (.iload_n 1, 1) := by decide +kernel
theorem dX7_asTold_13 : decode cX7_asTold 13 = .ok (.ireturn, 1) := by decide +kernel
def f_X7_asTold (a0 : Int32) (a1 : Int32) (s : St) : Option (Int32 × St) := if ¬ a0 = (nI 1) then (some ((a1, s))) else (cl (f_X7_nameOf a1 s) (fun x3 s2 => some ((x3, s2))))
set_option maxHeartbeats 4000000 in
set_option maxRecDepth 100000 in
theorem e_X7_asTold {X : Cx} {Γ : Gm} {r0 : Rb} (hX : Amb X Γ cX7_asTold RX7 2 (some .int) 1) {a0 : Int32} {a1 : Int32} {s : St} {t : Int32 × St} (h : f_X7_asTold a0 a1 s = some t) (hk : (fun t : Int32 × St => Rt X Γ r0 (some (Value.int t.1), t.2)) t) : Zw X Γ 2 r0 s 0 [(0, .int a0), (1, .int a1)] [] := by
  unfold f_X7_asTold at h
  refine z_iload_n hX dX7_asTold_0 0 rfl 1 rfl ?_
  refine z_iconst hX (v := (nI 1)) dX7_asTold_1 rfl 2 rfl ?_
  refine z_icmp_ne hX 12 dX7_asTold_2 (by decide) 5 rfl (fun c1 => ?_) (fun c1 => ?_)
  · replace h := br_pos h c1
    refine z_iload_n hX dX7_asTold_12 1 rfl 13 rfl ?_
    replace h := Option.some.inj h
    subst h
    exact z_iret hX dX7_asTold_13 rfl hk
  · replace h := br_neg h c1
    refine z_iload_n hX dX7_asTold_5 1 rfl 6 rfl ?_
    replace h := cl_elim h
    obtain ⟨x3, s2, hx3, h⟩ := h
    refine z_cSi hX (As := [.int a1]) (c_X7_nameOf hx3) lk_X7_200 ds_X7_nameOf rfl (by decide) (by decide) (by decide) dX7_asTold_6 rfl 9 rfl ?_
    refine z_goto hX 13 dX7_asTold_9 (by decide) ?_
    replace h := Option.some.inj h
    subst h
    exact z_iret hX dX7_asTold_13 rfl hk
theorem c_X7_asTold {lc : Launch} {Γ : Gm} {a0 : Int32} {a1 : Int32} {s s2 : St} {v : Int32} (h : f_X7_asTold a0 a1 s = some (v, s2)) : Ct lc Γ yX7_asTold cX7_asTold 2 (some .int) 1 [.int a0, .int a1] s (some (.int v), s2) := Ct.of (by decide +kernel) (Nat.le_of_ble_eq_true rfl) (fun X hl hX => e_X7_asTold hX h rfl)
theorem dX7_life_0 : decode cX7_life 0 = .ok (.aload_n 0, 1) := by decide +kernel
theorem dX7_life_1 : decode cX7_life 1 = .ok (.iload_n 1, 1) := by decide +kernel
theorem dX7_life_2 : decode cX7_life 2 = .ok (.invokevirtual 203, 3) := by decide +kernel
theorem dX7_life_5 : decode cX7_life 5 = .ok (.ifCond .ne 5, 3) := by decide +kernel
theorem dX7_life_8 : decode cX7_life 8 = .ok (.iconst (-1), 1) := by decide +kernel
theorem dX7_life_9 : decode cX7_life 9 = .ok (.ireturn, 1) := by decide +kernel
theorem dX7_life_10 : decode cX7_life 10 = .ok (.aload_n 0, 1) := by decide +kernel
theorem dX7_life_11 : decode cX7_life 11 = .ok (.invokevirtual 188, 3) := by decide +kernel
theorem dX7_life_14 : decode cX7_life 14 = .ok (.iload_n 2, 1) := by decide +kernel
theorem dX7_life_15 : decode cX7_life 15 = .ok (.tableswitch 78 0 6 #[41, 41, 41, 41, 56, 62, 72], 41) := by decide +kernel
theorem dX7_life_56 : decode cX7_life 56 = .ok (.iload_n 2, 1) := by decide +kernel
theorem dX7_life_57 : decode cX7_life 57 = .ok (.aload_n 0, 1) := by decide +kernel
theorem dX7_life_58 : decode cX7_life 58 = .ok (.getfield 7, 3) := by decide +kernel
theorem dX7_life_61 : decode cX7_life 61 = .ok (.iconst 4, 1) := by decide +kernel
theorem dX7_life_62 : decode cX7_life 62 = .ok (.iload_n 1, 1) := by decide +kernel
theorem dX7_life_63 : decode cX7_life 63 = .ok (.imul, 1) := by decide +kernel
theorem dX7_life_64 : decode cX7_life 64 = .ok (.iload_n 2, 1) := by decide +kernel
theorem dX7_life_65 : decode cX7_life 65 = .ok (.iadd, 1) := by decide +kernel
theorem dX7_life_66 : decode cX7_life 66 = .ok (.iaload, 1) := by decide +kernel
theorem dX7_life_67 : decode cX7_life 67 = .ok (.invokestatic 206, 3) := by decide +kernel
theorem dX7_life_70 : decode cX7_life 70 = .ok (.ireturn, 1) := by decide +kernel
theorem dX7_life_71 : decode cX7_life 71 = .ok (.aload_n 0, 1) := by decide +kernel
theorem dX7_life_72 : decode cX7_life 72 = .ok (.iload_n 1, 1) := by decide +kernel
theorem dX7_life_73 : decode cX7_life 73 = .ok (.invokevirtual 182, 3) := by decide +kernel
theorem dX7_life_76 : decode cX7_life 76 = .ok (.ireturn, 1) := by decide +kernel
theorem dX7_life_77 : decode cX7_life 77 = .ok (.aload_n 0, 1) := by decide +kernel
theorem dX7_life_78 : decode cX7_life 78 = .ok (.getfield 7, 3) := by decide +kernel
theorem dX7_life_81 : decode cX7_life 81 = .ok (.bipush 103, 2) := by decide +kernel
theorem dX7_life_83 : decode cX7_life 83 = .ok (.iload_n 1, 1) := by decide +kernel
theorem dX7_life_84 : decode cX7_life 84 = .ok (.iadd, 1) := by decide +kernel
theorem dX7_life_85 : decode cX7_life 85 = .ok (.iaload, 1) := by decide +kernel
theorem dX7_life_86 : decode cX7_life 86 = .ok (.ireturn, 1) := by decide +kernel
theorem dX7_life_87 : decode cX7_life 87 = .ok (.aload_n 0, 1) := by decide +kernel
theorem dX7_life_88 : decode cX7_life 88 = .ok (.iload_n 1, 1) := by decide +kernel
theorem dX7_life_89 : decode cX7_life 89 = .ok (.invokevirtual 185, 3) := by decide +kernel
theorem dX7_life_92 : decode cX7_life 92 = .ok (.ireturn, 1) := by decide +kernel
theorem dX7_life_93 : decode cX7_life 93 = .ok (.iconst (-1), 1) := by decide +kernel
theorem dX7_life_94 : decode cX7_life 94 = .ok (.ireturn, 1) := by decide +kernel
def f_X7_life (a1 : Int32) (a2 : Int32) (s : St) : Option (Int32 × St) := cl (f_X7_isLife a1 s) (fun x2 s1 => if ¬ x2 = 0 then (cl (f_X7_starts s1) (fun x5 s4 => if a2 = (nI 0) then (if inb (((nI 4) * a1) + a2) (lnI 190) = true then cl (f_X7_asTold a2 (s4.1 190 ((((nI 4) * a1) + a2)).toNatClampNeg) s4) (fun x9 s8 => some ((x9, s8))) else none) else (if a2 = (nI 1) then (if inb (((nI 4) * a1) + a2) (lnI 190) = true then cl (f_X7_asTold a2 (s4.1 190 ((((nI 4) * a1) + a2)).toNatClampNeg) s4) (fun x13 s12 => some ((x13, s12))) else none) else (if a2 = (nI 2) then (if inb (((nI 4) * a1) + a2) (lnI 190) = true then cl (f_X7_asTold a2 (s4.1 190 ((((nI 4) * a1) + a2)).toNatClampNeg) s4) (fun x17 s16 => some ((x17, s16))) else none) else (if a2 = (nI 3) then (if inb (((nI 4) * a1) + a2) (lnI 190) = true then cl (f_X7_asTold a2 (s4.1 190 ((((nI 4) * a1) + a2)).toNatClampNeg) s4) (fun x21 s20 => some ((x21, s20))) else none) else (if a2 = (nI 4) then (cl (f_X7_inRoom a1 s4) (fun x24 s23 => some ((x24, s23)))) else (if a2 = (nI 5) then (if inb ((nI 103) + a1) (lnI 190) = true then some (((s4.1 190 (((nI 103) + a1)).toNatClampNeg), s4)) else none) else (if a2 = (nI 6) then (cl (f_X7_hadOf a1 s4) (fun x29 s28 => some ((x29, s28)))) else (if (a2).toInt < 0 ∨ 6 < (a2).toInt then (some (((-1), s4))) else none))))))))) else (some (((-1), s1))))
set_option maxHeartbeats 4000000 in
set_option maxRecDepth 100000 in
theorem e_X7_life {X : Cx} {Γ : Gm} {r0 : Rb} (hX : Amb X Γ cX7_life RX7 3 (some .int) 2) {a1 : Int32} {a2 : Int32} {s : St} {t : Int32 × St} (h : f_X7_life a1 a2 s = some t) (hk : (fun t : Int32 × St => Rt X Γ r0 (some (Value.int t.1), t.2)) t) : Zw X Γ 3 r0 s 0 [(0, .ref (gL Γ (189))), (1, .int a1), (2, .int a2)] [] := by
  unfold f_X7_life at h
  refine z_aload_n hX dX7_life_0 0 rfl 1 rfl ?_
  refine z_iload_n hX dX7_life_1 1 rfl 2 rfl ?_
  replace h := cl_elim h
  obtain ⟨x2, s1, hx2, h⟩ := h
  refine z_cV7i hX (b := 189) (As := [.int a1]) (c_X7_isLife hx2) lk_X7_203 rfl kdc_189 ds_X7_isLife rfl (by decide) (by decide) (by decide) dX7_life_2 rfl 5 rfl ?_
  refine z_if_ne hX 10 dX7_life_5 (by decide) 8 rfl (fun c3 => ?_) (fun c3 => ?_)
  · replace h := br_pos h c3
    refine z_aload_n hX dX7_life_10 0 rfl 11 rfl ?_
    replace h := cl_elim h
    obtain ⟨x5, s4, hx5, h⟩ := h
    refine z_cV7v hX (b := 189) (As := []) (c_X7_starts hx5) lk_X7_188 rfl kdc_189 ds_X7_starts rfl (by decide) (by decide) (by decide) dX7_life_11 rfl 14 rfl ?_
    refine z_iload_n hX dX7_life_14 2 rfl 15 rfl ?_
    by_cases c6 : a2 = (nI 0)
    · replace h := br_pos h c6
      refine z_tcase hX (off := 41) 56 dX7_life_15 (nI 0) c6 (by decide) (by decide) ?_
      refine z_iload_n hX dX7_life_56 2 rfl 57 rfl ?_
      refine z_aload_n hX dX7_life_57 0 rfl 58 rfl ?_
      refine z_get7 hX (k := 189) (j := 0) (v := .ref (gL Γ (190))) kdc_189 (by decide) rfl dX7_life_58 fl_X7_7 61 rfl ?_
      refine z_iconst hX (v := (nI 4)) dX7_life_61 rfl 62 rfl ?_
      refine z_iload_n hX dX7_life_62 1 rfl 63 rfl ?_
      refine z_imul hX dX7_life_63 64 rfl ?_
      refine z_iload_n hX dX7_life_64 2 rfl 65 rfl ?_
      refine z_iadd hX dX7_life_65 66 rfl ?_
      replace h := gd_elim h
      obtain ⟨g7, h⟩ := h
      refine z_iald hX (inb_vp g7) dX7_life_66 67 rfl ?_
      replace h := cl_elim h
      obtain ⟨x9, s8, hx9, h⟩ := h
      refine z_cSi hX (As := [.int a2, .int ((s4.1 190 ((((nI 4) * a1) + a2)).toNatClampNeg))]) (c_X7_asTold hx9) lk_X7_206 ds_X7_asTold rfl (by decide) (by decide) (by decide) dX7_life_67 rfl 70 rfl ?_
      replace h := Option.some.inj h
      subst h
      exact z_iret hX dX7_life_70 rfl hk
    replace h := br_neg h c6
    by_cases c10 : a2 = (nI 1)
    · replace h := br_pos h c10
      refine z_tcase hX (off := 41) 56 dX7_life_15 (nI 1) c10 (by decide) (by decide) ?_
      refine z_iload_n hX dX7_life_56 2 rfl 57 rfl ?_
      refine z_aload_n hX dX7_life_57 0 rfl 58 rfl ?_
      refine z_get7 hX (k := 189) (j := 0) (v := .ref (gL Γ (190))) kdc_189 (by decide) rfl dX7_life_58 fl_X7_7 61 rfl ?_
      refine z_iconst hX (v := (nI 4)) dX7_life_61 rfl 62 rfl ?_
      refine z_iload_n hX dX7_life_62 1 rfl 63 rfl ?_
      refine z_imul hX dX7_life_63 64 rfl ?_
      refine z_iload_n hX dX7_life_64 2 rfl 65 rfl ?_
      refine z_iadd hX dX7_life_65 66 rfl ?_
      replace h := gd_elim h
      obtain ⟨g11, h⟩ := h
      refine z_iald hX (inb_vp g11) dX7_life_66 67 rfl ?_
      replace h := cl_elim h
      obtain ⟨x13, s12, hx13, h⟩ := h
      refine z_cSi hX (As := [.int a2, .int ((s4.1 190 ((((nI 4) * a1) + a2)).toNatClampNeg))]) (c_X7_asTold hx13) lk_X7_206 ds_X7_asTold rfl (by decide) (by decide) (by decide) dX7_life_67 rfl 70 rfl ?_
      replace h := Option.some.inj h
      subst h
      exact z_iret hX dX7_life_70 rfl hk
    replace h := br_neg h c10
    by_cases c14 : a2 = (nI 2)
    · replace h := br_pos h c14
      refine z_tcase hX (off := 41) 56 dX7_life_15 (nI 2) c14 (by decide) (by decide) ?_
      refine z_iload_n hX dX7_life_56 2 rfl 57 rfl ?_
      refine z_aload_n hX dX7_life_57 0 rfl 58 rfl ?_
      refine z_get7 hX (k := 189) (j := 0) (v := .ref (gL Γ (190))) kdc_189 (by decide) rfl dX7_life_58 fl_X7_7 61 rfl ?_
      refine z_iconst hX (v := (nI 4)) dX7_life_61 rfl 62 rfl ?_
      refine z_iload_n hX dX7_life_62 1 rfl 63 rfl ?_
      refine z_imul hX dX7_life_63 64 rfl ?_
      refine z_iload_n hX dX7_life_64 2 rfl 65 rfl ?_
      refine z_iadd hX dX7_life_65 66 rfl ?_
      replace h := gd_elim h
      obtain ⟨g15, h⟩ := h
      refine z_iald hX (inb_vp g15) dX7_life_66 67 rfl ?_
      replace h := cl_elim h
      obtain ⟨x17, s16, hx17, h⟩ := h
      refine z_cSi hX (As := [.int a2, .int ((s4.1 190 ((((nI 4) * a1) + a2)).toNatClampNeg))]) (c_X7_asTold hx17) lk_X7_206 ds_X7_asTold rfl (by decide) (by decide) (by decide) dX7_life_67 rfl 70 rfl ?_
      replace h := Option.some.inj h
      subst h
      exact z_iret hX dX7_life_70 rfl hk
    replace h := br_neg h c14
    by_cases c18 : a2 = (nI 3)
    · replace h := br_pos h c18
      refine z_tcase hX (off := 41) 56 dX7_life_15 (nI 3) c18 (by decide) (by decide) ?_
      refine z_iload_n hX dX7_life_56 2 rfl 57 rfl ?_
      refine z_aload_n hX dX7_life_57 0 rfl 58 rfl ?_
      refine z_get7 hX (k := 189) (j := 0) (v := .ref (gL Γ (190))) kdc_189 (by decide) rfl dX7_life_58 fl_X7_7 61 rfl ?_
      refine z_iconst hX (v := (nI 4)) dX7_life_61 rfl 62 rfl ?_
      refine z_iload_n hX dX7_life_62 1 rfl 63 rfl ?_
      refine z_imul hX dX7_life_63 64 rfl ?_
      refine z_iload_n hX dX7_life_64 2 rfl 65 rfl ?_
      refine z_iadd hX dX7_life_65 66 rfl ?_
      replace h := gd_elim h
      obtain ⟨g19, h⟩ := h
      refine z_iald hX (inb_vp g19) dX7_life_66 67 rfl ?_
      replace h := cl_elim h
      obtain ⟨x21, s20, hx21, h⟩ := h
      refine z_cSi hX (As := [.int a2, .int ((s4.1 190 ((((nI 4) * a1) + a2)).toNatClampNeg))]) (c_X7_asTold hx21) lk_X7_206 ds_X7_asTold rfl (by decide) (by decide) (by decide) dX7_life_67 rfl 70 rfl ?_
      replace h := Option.some.inj h
      subst h
      exact z_iret hX dX7_life_70 rfl hk
    replace h := br_neg h c18
    by_cases c22 : a2 = (nI 4)
    · replace h := br_pos h c22
      refine z_tcase hX (off := 56) 71 dX7_life_15 (nI 4) c22 (by decide) (by decide) ?_
      refine z_aload_n hX dX7_life_71 0 rfl 72 rfl ?_
      refine z_iload_n hX dX7_life_72 1 rfl 73 rfl ?_
      replace h := cl_elim h
      obtain ⟨x24, s23, hx24, h⟩ := h
      refine z_cV7i hX (b := 189) (As := [.int a1]) (c_X7_inRoom hx24) lk_X7_182 rfl kdc_189 ds_X7_inRoom rfl (by decide) (by decide) (by decide) dX7_life_73 rfl 76 rfl ?_
      replace h := Option.some.inj h
      subst h
      exact z_iret hX dX7_life_76 rfl hk
    replace h := br_neg h c22
    by_cases c25 : a2 = (nI 5)
    · replace h := br_pos h c25
      refine z_tcase hX (off := 62) 77 dX7_life_15 (nI 5) c25 (by decide) (by decide) ?_
      refine z_aload_n hX dX7_life_77 0 rfl 78 rfl ?_
      refine z_get7 hX (k := 189) (j := 0) (v := .ref (gL Γ (190))) kdc_189 (by decide) rfl dX7_life_78 fl_X7_7 81 rfl ?_
      refine z_bipush hX (v := (nI 103)) dX7_life_81 (by decide) 83 rfl ?_
      refine z_iload_n hX dX7_life_83 1 rfl 84 rfl ?_
      refine z_iadd hX dX7_life_84 85 rfl ?_
      replace h := gd_elim h
      obtain ⟨g26, h⟩ := h
      refine z_iald hX (inb_vp g26) dX7_life_85 86 rfl ?_
      replace h := Option.some.inj h
      subst h
      exact z_iret hX dX7_life_86 rfl hk
    replace h := br_neg h c25
    by_cases c27 : a2 = (nI 6)
    · replace h := br_pos h c27
      refine z_tcase hX (off := 72) 87 dX7_life_15 (nI 6) c27 (by decide) (by decide) ?_
      refine z_aload_n hX dX7_life_87 0 rfl 88 rfl ?_
      refine z_iload_n hX dX7_life_88 1 rfl 89 rfl ?_
      replace h := cl_elim h
      obtain ⟨x29, s28, hx29, h⟩ := h
      refine z_cV7i hX (b := 189) (As := [.int a1]) (c_X7_hadOf hx29) lk_X7_185 rfl kdc_189 ds_X7_hadOf rfl (by decide) (by decide) (by decide) dX7_life_89 rfl 92 rfl ?_
      replace h := Option.some.inj h
      subst h
      exact z_iret hX dX7_life_92 rfl hk
    replace h := br_neg h c27
    replace h := gd_elim h
    obtain ⟨g30, h⟩ := h
    refine z_tdef hX 93 dX7_life_15 g30 (by decide) ?_
    refine z_iconst hX (v := (-1)) dX7_life_93 rfl 94 rfl ?_
    replace h := Option.some.inj h
    subst h
    exact z_iret hX dX7_life_94 rfl hk
  · replace h := br_neg h c3
    refine z_iconst hX (v := (-1)) dX7_life_8 rfl 9 rfl ?_
    replace h := Option.some.inj h
    subst h
    exact z_iret hX dX7_life_9 rfl hk
theorem c_X7_life {lc : Launch} {Γ : Gm} {a1 : Int32} {a2 : Int32} {s s2 : St} {v : Int32} (h : f_X7_life a1 a2 s = some (v, s2)) : Ct lc Γ yX7_life cX7_life 3 (some .int) 2 [.ref (gL Γ (189)), .int a1, .int a2] s (some (.int v), s2) := Ct.of (by decide +kernel) (Nat.le_of_ble_eq_true rfl) (fun X hl hX => e_X7_life hX h rfl)
theorem dX7_sitter_0 : decode cX7_sitter 0 = .ok (.aload_n 0, 1) := by decide +kernel
theorem dX7_sitter_1 : decode cX7_sitter 1 = .ok (.iload_n 1, 1) := by decide +kernel
theorem dX7_sitter_2 : decode cX7_sitter 2 = .ok (.invokevirtual 209, 3) := by decide +kernel
theorem dX7_sitter_5 : decode cX7_sitter 5 = .ok (.ifCond .ne 5, 3) := by decide +kernel
theorem dX7_sitter_8 : decode cX7_sitter 8 = .ok (.iconst (-1), 1) := by decide +kernel
theorem dX7_sitter_9 : decode cX7_sitter 9 = .ok (.ireturn, 1) := by decide +kernel
theorem dX7_sitter_10 : decode cX7_sitter 10 = .ok (.aload_n 0, 1) := by decide +kernel
theorem dX7_sitter_11 : decode cX7_sitter 11 = .ok (.invokevirtual 188, 3) := by decide +kernel
theorem dX7_sitter_14 : decode cX7_sitter 14 = .ok (.aload_n 0, 1) := by decide +kernel
theorem dX7_sitter_15 : decode cX7_sitter 15 = .ok (.getfield 7, 3) := by decide +kernel
theorem dX7_sitter_18 : decode cX7_sitter 18 = .ok (.bipush 12, 2) := by decide +kernel
theorem dX7_sitter_20 : decode cX7_sitter 20 = .ok (.iconst 2, 1) := by decide +kernel
theorem dX7_sitter_21 : decode cX7_sitter 21 = .ok (.iload_n 1, 1) := by decide +kernel
theorem dX7_sitter_22 : decode cX7_sitter 22 = .ok (.imul, 1) := by decide +kernel
theorem dX7_sitter_23 : decode cX7_sitter 23 = .ok (.iadd, 1) := by decide +kernel
theorem dX7_sitter_24 : decode cX7_sitter 24 = .ok (.iaload, 1) := by decide +kernel
theorem dX7_sitter_25 : decode cX7_sitter 25 = .ok (.istore_n 3, 1) := by decide +kernel
theorem dX7_sitter_26 : decode cX7_sitter 26 = .ok (.iload_n 2, 1) := by decide +kernel
theorem dX7_sitter_27 : decode cX7_sitter 27 = .ok (.tableswitch 66 0 3 #[29, 34, 48, 54], 29) := by decide +kernel
theorem dX7_sitter_56 : decode cX7_sitter 56 = .ok (.iload_n 3, 1) := by decide +kernel
theorem dX7_sitter_57 : decode cX7_sitter 57 = .ok (.invokestatic 200, 3) := by decide +kernel
theorem dX7_sitter_60 : decode cX7_sitter 60 = .ok (.ireturn, 1) := by decide +kernel
theorem dX7_sitter_61 : decode cX7_sitter 61 = .ok (.aload_n 0, 1) := by decide +kernel
theorem dX7_sitter_62 : decode cX7_sitter 62 = .ok (.getfield 7, 3) := by decide +kernel
theorem dX7_sitter_65 : decode cX7_sitter 65 = .ok (.bipush 12, 2) := by decide +kernel
theorem dX7_sitter_67 : decode cX7_sitter 67 = .ok (.iconst 2, 1) := by decide +kernel
theorem dX7_sitter_68 : decode cX7_sitter 68 = .ok (.iload_n 1, 1) := by decide +kernel
theorem dX7_sitter_69 : decode cX7_sitter 69 = .ok (.imul, 1) := by decide +kernel
theorem dX7_sitter_70 : decode cX7_sitter 70 = .ok (.iadd, 1) := by decide +kernel
theorem dX7_sitter_71 : decode cX7_sitter 71 = .ok (.iconst 1, 1) := by decide +kernel
theorem dX7_sitter_72 : decode cX7_sitter 72 = .ok (.iadd, 1) := by decide +kernel
theorem dX7_sitter_73 : decode cX7_sitter 73 = .ok (.iaload, 1) := by decide +kernel
theorem dX7_sitter_74 : decode cX7_sitter 74 = .ok (.ireturn, 1) := by decide +kernel
theorem dX7_sitter_75 : decode cX7_sitter 75 = .ok (.aload_n 0, 1) := by decide +kernel
theorem dX7_sitter_76 : decode cX7_sitter 76 = .ok (.iload_n 1, 1) := by decide +kernel
theorem dX7_sitter_77 : decode cX7_sitter 77 = .ok (.invokevirtual 212, 3) := by decide +kernel
theorem dX7_sitter_80 : decode cX7_sitter 80 = .ok (.ireturn, 1) := by decide +kernel
theorem dX7_sitter_81 : decode cX7_sitter 81 = .ok (.aload_n 0, 1) := by decide +kernel
theorem dX7_sitter_82 : decode cX7_sitter 82 = .ok (.getfield 7, 3) := by decide +kernel
theorem dX7_sitter_85 : decode cX7_sitter 85 = .ok (.bipush 38, 2) := by decide +kernel
theorem dX7_sitter_87 : decode cX7_sitter 87 = .ok (.iload_n 3, 1) := by decide +kernel
theorem dX7_sitter_88 : decode cX7_sitter 88 = .ok (.iconst 4, 1) := by decide +kernel
theorem dX7_sitter_89 : decode cX7_sitter 89 = .ok (.irem, 1) := by decide +kernel
theorem dX7_sitter_90 : decode cX7_sitter 90 = .ok (.iadd, 1) := by decide +kernel
theorem dX7_sitter_91 : decode cX7_sitter 91 = .ok (.iaload, 1) := by decide +kernel
theorem dX7_sitter_92 : decode cX7_sitter 92 = .ok (.ireturn, 1) := by decide +kernel
theorem dX7_sitter_93 : decode cX7_sitter 93 = .ok (.iconst (-1), 1) := by decide +kernel
theorem dX7_sitter_94 : decode cX7_sitter 94 = .ok (.ireturn, 1) := by decide +kernel
def f_X7_sitter (a1 : Int32) (a2 : Int32) (s : St) : Option (Int32 × St) := cl (f_X7_isSitter a1 s) (fun x2 s1 => if ¬ x2 = 0 then (cl (f_X7_starts s1) (fun x5 s4 => if inb ((nI 12) + ((nI 2) * a1)) (lnI 190) = true then bd (s4.1 190 (((nI 12) + ((nI 2) * a1))).toNatClampNeg) (fun x7 => if a2 = (nI 0) then (cl (f_X7_nameOf x7 s4) (fun x10 s9 => some ((x10, s9)))) else (if a2 = (nI 1) then (if inb (((nI 12) + ((nI 2) * a1)) + (nI 1)) (lnI 190) = true then some (((s4.1 190 ((((nI 12) + ((nI 2) * a1)) + (nI 1))).toNatClampNeg), s4)) else none) else (if a2 = (nI 2) then (cl (f_X7_hadBy a1 s4) (fun x15 s14 => some ((x15, s14)))) else (if a2 = (nI 3) then (if inb ((nI 38) + (x7 - x7 / (nI 4) * (nI 4))) (lnI 190) = true then some (((s4.1 190 (((nI 38) + (x7 - x7 / (nI 4) * (nI 4)))).toNatClampNeg), s4)) else none) else (if (a2).toInt < 0 ∨ 3 < (a2).toInt then (some (((-1), s4))) else none))))) else none)) else (some (((-1), s1))))
set_option maxHeartbeats 4000000 in
set_option maxRecDepth 100000 in
theorem e_X7_sitter {X : Cx} {Γ : Gm} {r0 : Rb} (hX : Amb X Γ cX7_sitter RX7 4 (some .int) 2) {a1 : Int32} {a2 : Int32} {s : St} {t : Int32 × St} (h : f_X7_sitter a1 a2 s = some t) (hk : (fun t : Int32 × St => Rt X Γ r0 (some (Value.int t.1), t.2)) t) : Zw X Γ 4 r0 s 0 [(0, .ref (gL Γ (189))), (1, .int a1), (2, .int a2)] [] := by
  unfold f_X7_sitter at h
  refine z_aload_n hX dX7_sitter_0 0 rfl 1 rfl ?_
  refine z_iload_n hX dX7_sitter_1 1 rfl 2 rfl ?_
  replace h := cl_elim h
  obtain ⟨x2, s1, hx2, h⟩ := h
  refine z_cV7i hX (b := 189) (As := [.int a1]) (c_X7_isSitter hx2) lk_X7_209 rfl kdc_189 ds_X7_isSitter rfl (by decide) (by decide) (by decide) dX7_sitter_2 rfl 5 rfl ?_
  refine z_if_ne hX 10 dX7_sitter_5 (by decide) 8 rfl (fun c3 => ?_) (fun c3 => ?_)
  · replace h := br_pos h c3
    refine z_aload_n hX dX7_sitter_10 0 rfl 11 rfl ?_
    replace h := cl_elim h
    obtain ⟨x5, s4, hx5, h⟩ := h
    refine z_cV7v hX (b := 189) (As := []) (c_X7_starts hx5) lk_X7_188 rfl kdc_189 ds_X7_starts rfl (by decide) (by decide) (by decide) dX7_sitter_11 rfl 14 rfl ?_
    refine z_aload_n hX dX7_sitter_14 0 rfl 15 rfl ?_
    refine z_get7 hX (k := 189) (j := 0) (v := .ref (gL Γ (190))) kdc_189 (by decide) rfl dX7_sitter_15 fl_X7_7 18 rfl ?_
    refine z_bipush hX (v := (nI 12)) dX7_sitter_18 (by decide) 20 rfl ?_
    refine z_iconst hX (v := (nI 2)) dX7_sitter_20 rfl 21 rfl ?_
    refine z_iload_n hX dX7_sitter_21 1 rfl 22 rfl ?_
    refine z_imul hX dX7_sitter_22 23 rfl ?_
    refine z_iadd hX dX7_sitter_23 24 rfl ?_
    replace h := gd_elim h
    obtain ⟨g6, h⟩ := h
    refine z_iald hX (inb_vp g6) dX7_sitter_24 25 rfl ?_
    replace h := bd_elim h
    obtain ⟨x7, ex7, h⟩ := h
    refine z_nm ex7 ?_
    refine z_istore_n hX (lv2 := [(3, .int x7), (0, .ref (gL Γ (189))), (1, .int a1), (2, .int a2)]) dX7_sitter_25 (by decide) rfl 26 rfl ?_
    refine z_iload_n hX dX7_sitter_26 3 rfl 27 rfl ?_
    by_cases c8 : a2 = (nI 0)
    · replace h := br_pos h c8
      refine z_tcase hX (off := 29) 56 dX7_sitter_27 (nI 0) c8 (by decide) (by decide) ?_
      refine z_iload_n hX dX7_sitter_56 0 rfl 57 rfl ?_
      replace h := cl_elim h
      obtain ⟨x10, s9, hx10, h⟩ := h
      refine z_cSi hX (As := [.int x7]) (c_X7_nameOf hx10) lk_X7_200 ds_X7_nameOf rfl (by decide) (by decide) (by decide) dX7_sitter_57 rfl 60 rfl ?_
      replace h := Option.some.inj h
      subst h
      exact z_iret hX dX7_sitter_60 rfl hk
    replace h := br_neg h c8
    by_cases c11 : a2 = (nI 1)
    · replace h := br_pos h c11
      refine z_tcase hX (off := 34) 61 dX7_sitter_27 (nI 1) c11 (by decide) (by decide) ?_
      refine z_aload_n hX dX7_sitter_61 1 rfl 62 rfl ?_
      refine z_get7 hX (k := 189) (j := 0) (v := .ref (gL Γ (190))) kdc_189 (by decide) rfl dX7_sitter_62 fl_X7_7 65 rfl ?_
      refine z_bipush hX (v := (nI 12)) dX7_sitter_65 (by decide) 67 rfl ?_
      refine z_iconst hX (v := (nI 2)) dX7_sitter_67 rfl 68 rfl ?_
      refine z_iload_n hX dX7_sitter_68 2 rfl 69 rfl ?_
      refine z_imul hX dX7_sitter_69 70 rfl ?_
      refine z_iadd hX dX7_sitter_70 71 rfl ?_
      refine z_iconst hX (v := (nI 1)) dX7_sitter_71 rfl 72 rfl ?_
      refine z_iadd hX dX7_sitter_72 73 rfl ?_
      replace h := gd_elim h
      obtain ⟨g12, h⟩ := h
      refine z_iald hX (inb_vp g12) dX7_sitter_73 74 rfl ?_
      replace h := Option.some.inj h
      subst h
      exact z_iret hX dX7_sitter_74 rfl hk
    replace h := br_neg h c11
    by_cases c13 : a2 = (nI 2)
    · replace h := br_pos h c13
      refine z_tcase hX (off := 48) 75 dX7_sitter_27 (nI 2) c13 (by decide) (by decide) ?_
      refine z_aload_n hX dX7_sitter_75 1 rfl 76 rfl ?_
      refine z_iload_n hX dX7_sitter_76 2 rfl 77 rfl ?_
      replace h := cl_elim h
      obtain ⟨x15, s14, hx15, h⟩ := h
      refine z_cV7i hX (b := 189) (As := [.int a1]) (c_X7_hadBy hx15) lk_X7_212 rfl kdc_189 ds_X7_hadBy rfl (by decide) (by decide) (by decide) dX7_sitter_77 rfl 80 rfl ?_
      replace h := Option.some.inj h
      subst h
      exact z_iret hX dX7_sitter_80 rfl hk
    replace h := br_neg h c13
    by_cases c16 : a2 = (nI 3)
    · replace h := br_pos h c16
      refine z_tcase hX (off := 54) 81 dX7_sitter_27 (nI 3) c16 (by decide) (by decide) ?_
      refine z_aload_n hX dX7_sitter_81 1 rfl 82 rfl ?_
      refine z_get7 hX (k := 189) (j := 0) (v := .ref (gL Γ (190))) kdc_189 (by decide) rfl dX7_sitter_82 fl_X7_7 85 rfl ?_
      refine z_bipush hX (v := (nI 38)) dX7_sitter_85 (by decide) 87 rfl ?_
      refine z_iload_n hX dX7_sitter_87 0 rfl 88 rfl ?_
      refine z_iconst hX (v := (nI 4)) dX7_sitter_88 rfl 89 rfl ?_
      refine z_irem hX dX7_sitter_89 (by decide) 90 rfl ?_
      refine z_iadd hX dX7_sitter_90 91 rfl ?_
      replace h := gd_elim h
      obtain ⟨g17, h⟩ := h
      refine z_iald hX (inb_vp g17) dX7_sitter_91 92 rfl ?_
      replace h := Option.some.inj h
      subst h
      exact z_iret hX dX7_sitter_92 rfl hk
    replace h := br_neg h c16
    replace h := gd_elim h
    obtain ⟨g18, h⟩ := h
    refine z_tdef hX 93 dX7_sitter_27 g18 (by decide) ?_
    refine z_iconst hX (v := (-1)) dX7_sitter_93 rfl 94 rfl ?_
    replace h := Option.some.inj h
    subst h
    exact z_iret hX dX7_sitter_94 rfl hk
  · replace h := br_neg h c3
    refine z_iconst hX (v := (-1)) dX7_sitter_8 rfl 9 rfl ?_
    replace h := Option.some.inj h
    subst h
    exact z_iret hX dX7_sitter_9 rfl hk
theorem c_X7_sitter {lc : Launch} {Γ : Gm} {a1 : Int32} {a2 : Int32} {s s2 : St} {v : Int32} (h : f_X7_sitter a1 a2 s = some (v, s2)) : Ct lc Γ yX7_sitter cX7_sitter 4 (some .int) 2 [.ref (gL Γ (189)), .int a1, .int a2] s (some (.int v), s2) := Ct.of (by decide +kernel) (Nat.le_of_ble_eq_true rfl) (fun X hl hX => e_X7_sitter hX h rfl)
theorem dX7_has_0 : decode cX7_has 0 = .ok (.aload_n 0, 1) := by decide +kernel
theorem dX7_has_1 : decode cX7_has 1 = .ok (.iload_n 1, 1) := by decide +kernel
theorem dX7_has_2 : decode cX7_has 2 = .ok (.invokevirtual 209, 3) := by decide +kernel
theorem dX7_has_5 : decode cX7_has 5 = .ok (.ifCond .eq 27, 3) := by decide +kernel
theorem dX7_has_8 : decode cX7_has 8 = .ok (.aload_n 0, 1) := by decide +kernel
theorem dX7_has_9 : decode cX7_has 9 = .ok (.iload_n 2, 1) := by decide +kernel
theorem dX7_has_10 : decode cX7_has 10 = .ok (.invokevirtual 203, 3) := by decide +kernel
theorem dX7_has_13 : decode cX7_has 13 = .ok (.ifCond .eq 19, 3) := by decide +kernel
theorem dX7_has_16 : decode cX7_has 16 = .ok (.aload_n 0, 1) := by decide +kernel
theorem dX7_has_17 : decode cX7_has 17 = .ok (.getfield 7, 3) := by decide +kernel
theorem dX7_has_20 : decode cX7_has 20 = .ok (.bipush 20, 2) := by decide +kernel
theorem dX7_has_22 : decode cX7_has 22 = .ok (.iconst 3, 1) := by decide +kernel
theorem dX7_has_23 : decode cX7_has 23 = .ok (.iload_n 1, 1) := by decide +kernel
theorem dX7_has_24 : decode cX7_has 24 = .ok (.imul, 1) := by decide +kernel
theorem dX7_has_25 : decode cX7_has 25 = .ok (.iadd, 1) := by decide +kernel
theorem dX7_has_26 : decode cX7_has 26 = .ok (.iload_n 2, 1) := by decide +kernel
theorem dX7_has_27 : decode cX7_has 27 = .ok (.iadd, 1) := by decide +kernel
theorem dX7_has_28 : decode cX7_has 28 = .ok (.iaload, 1) := by decide +kernel
theorem dX7_has_29 : decode cX7_has 29 = .ok (.goto 4, 3) := by decide +kernel
theorem dX7_has_32 : decode cX7_has 32 = .ok (.iconst (-1), 1) := by decide +kernel
theorem dX7_has_33 : decode cX7_has 33 = .ok (.ireturn, 1) := by decide +kernel
def f_X7_has (a1 : Int32) (a2 : Int32) (s : St) : Option (Int32 × St) := cl (f_X7_isSitter a1 s) (fun x2 s1 => if x2 = 0 then (some (((-1), s1))) else (cl (f_X7_isLife a2 s1) (fun x5 s4 => if x5 = 0 then (some (((-1), s4))) else (if inb (((nI 20) + ((nI 3) * a1)) + a2) (lnI 190) = true then some (((s4.1 190 ((((nI 20) + ((nI 3) * a1)) + a2)).toNatClampNeg), s4)) else none))))
set_option maxHeartbeats 4000000 in
set_option maxRecDepth 100000 in
theorem e_X7_has {X : Cx} {Γ : Gm} {r0 : Rb} (hX : Amb X Γ cX7_has RX7 3 (some .int) 2) {a1 : Int32} {a2 : Int32} {s : St} {t : Int32 × St} (h : f_X7_has a1 a2 s = some t) (hk : (fun t : Int32 × St => Rt X Γ r0 (some (Value.int t.1), t.2)) t) : Zw X Γ 3 r0 s 0 [(0, .ref (gL Γ (189))), (1, .int a1), (2, .int a2)] [] := by
  unfold f_X7_has at h
  refine z_aload_n hX dX7_has_0 0 rfl 1 rfl ?_
  refine z_iload_n hX dX7_has_1 1 rfl 2 rfl ?_
  replace h := cl_elim h
  obtain ⟨x2, s1, hx2, h⟩ := h
  refine z_cV7i hX (b := 189) (As := [.int a1]) (c_X7_isSitter hx2) lk_X7_209 rfl kdc_189 ds_X7_isSitter rfl (by decide) (by decide) (by decide) dX7_has_2 rfl 5 rfl ?_
  refine z_if_eq hX 32 dX7_has_5 (by decide) 8 rfl (fun c3 => ?_) (fun c3 => ?_)
  · replace h := br_pos h c3
    refine z_iconst hX (v := (-1)) dX7_has_32 rfl 33 rfl ?_
    replace h := Option.some.inj h
    subst h
    exact z_iret hX dX7_has_33 rfl hk
  · replace h := br_neg h c3
    refine z_aload_n hX dX7_has_8 0 rfl 9 rfl ?_
    refine z_iload_n hX dX7_has_9 2 rfl 10 rfl ?_
    replace h := cl_elim h
    obtain ⟨x5, s4, hx5, h⟩ := h
    refine z_cV7i hX (b := 189) (As := [.int a2]) (c_X7_isLife hx5) lk_X7_203 rfl kdc_189 ds_X7_isLife rfl (by decide) (by decide) (by decide) dX7_has_10 rfl 13 rfl ?_
    refine z_if_eq hX 32 dX7_has_13 (by decide) 16 rfl (fun c6 => ?_) (fun c6 => ?_)
    · replace h := br_pos h c6
      refine z_iconst hX (v := (-1)) dX7_has_32 rfl 33 rfl ?_
      replace h := Option.some.inj h
      subst h
      exact z_iret hX dX7_has_33 rfl hk
    · replace h := br_neg h c6
      refine z_aload_n hX dX7_has_16 0 rfl 17 rfl ?_
      refine z_get7 hX (k := 189) (j := 0) (v := .ref (gL Γ (190))) kdc_189 (by decide) rfl dX7_has_17 fl_X7_7 20 rfl ?_
      refine z_bipush hX (v := (nI 20)) dX7_has_20 (by decide) 22 rfl ?_
      refine z_iconst hX (v := (nI 3)) dX7_has_22 rfl 23 rfl ?_
      refine z_iload_n hX dX7_has_23 1 rfl 24 rfl ?_
      refine z_imul hX dX7_has_24 25 rfl ?_
      refine z_iadd hX dX7_has_25 26 rfl ?_
      refine z_iload_n hX dX7_has_26 2 rfl 27 rfl ?_
      refine z_iadd hX dX7_has_27 28 rfl ?_
      replace h := gd_elim h
      obtain ⟨g7, h⟩ := h
      refine z_iald hX (inb_vp g7) dX7_has_28 29 rfl ?_
      refine z_goto hX 33 dX7_has_29 (by decide) ?_
      replace h := Option.some.inj h
      subst h
      exact z_iret hX dX7_has_33 rfl hk
theorem c_X7_has {lc : Launch} {Γ : Gm} {a1 : Int32} {a2 : Int32} {s s2 : St} {v : Int32} (h : f_X7_has a1 a2 s = some (v, s2)) : Ct lc Γ yX7_has cX7_has 3 (some .int) 2 [.ref (gL Γ (189)), .int a1, .int a2] s (some (.int v), s2) := Ct.of (by decide +kernel) (Nat.le_of_ble_eq_true rfl) (fun X hl hX => e_X7_has hX h rfl)
theorem dX7_in_0 : decode cX7_in 0 = .ok (.iload_n 1, 1) := by decide +kernel
theorem dX7_in_1 : decode cX7_in 1 = .ok (.invokestatic 133, 3) := by decide +kernel
theorem dX7_in_4 : decode cX7_in 4 = .ok (.ifCond .eq 31, 3) := by decide +kernel
theorem dX7_in_7 : decode cX7_in 7 = .ok (.aload_n 0, 1) := by decide +kernel
theorem dX7_in_8 : decode cX7_in 8 = .ok (.iload_n 2, 1) := by decide +kernel
theorem dX7_in_9 : decode cX7_in 9 = .ok (.invokevirtual 203, 3) := by decide +kernel
theorem dX7_in_12 : decode cX7_in 12 = .ok (.ifCond .eq 23, 3) := by decide +kernel
theorem dX7_in_15 : decode cX7_in 15 = .ok (.aload_n 0, 1) := by decide +kernel
theorem dX7_in_16 : decode cX7_in 16 = .ok (.getfield 7, 3) := by decide +kernel
theorem dX7_in_19 : decode cX7_in 19 = .ok (.bipush 43, 2) := by decide +kernel
theorem dX7_in_21 : decode cX7_in 21 = .ok (.bipush 20, 2) := by decide +kernel
theorem dX7_in_23 : decode cX7_in 23 = .ok (.iload_n 2, 1) := by decide +kernel
theorem dX7_in_24 : decode cX7_in 24 = .ok (.imul, 1) := by decide +kernel
theorem dX7_in_25 : decode cX7_in 25 = .ok (.iadd, 1) := by decide +kernel
theorem dX7_in_26 : decode cX7_in 26 = .ok (.iload_n 1, 1) := by decide +kernel
theorem dX7_in_27 : decode cX7_in 27 = .ok (.invokestatic 137, 3) := by decide +kernel
theorem dX7_in_30 : decode cX7_in 30 = .ok (.iadd, 1) := by decide +kernel
theorem dX7_in_31 : decode cX7_in 31 = .ok (.iaload, 1) := by decide +kernel
theorem dX7_in_32 : decode cX7_in 32 = .ok (.goto 4, 3) := by decide +kernel
theorem dX7_in_35 : decode cX7_in 35 = .ok (.iconst (-1), 1) := by decide +kernel
theorem dX7_in_36 : decode cX7_in 36 = .ok (.ireturn, 1) := by decide +kernel
def f_X7_in (a1 : Int32) (a2 : Int32) (s : St) : Option (Int32 × St) := cl (f_X7_isCell a1 s) (fun x2 s1 => if x2 = 0 then (some (((-1), s1))) else (cl (f_X7_isLife a2 s1) (fun x5 s4 => if x5 = 0 then (some (((-1), s4))) else (cl (f_X7_cellOf a1 s4) (fun x8 s7 => if inb (((nI 43) + ((nI 20) * a2)) + x8) (lnI 190) = true then some (((s7.1 190 ((((nI 43) + ((nI 20) * a2)) + x8)).toNatClampNeg), s7)) else none)))))
set_option maxHeartbeats 4000000 in
set_option maxRecDepth 100000 in
theorem e_X7_in {X : Cx} {Γ : Gm} {r0 : Rb} (hX : Amb X Γ cX7_in RX7 3 (some .int) 2) {a1 : Int32} {a2 : Int32} {s : St} {t : Int32 × St} (h : f_X7_in a1 a2 s = some t) (hk : (fun t : Int32 × St => Rt X Γ r0 (some (Value.int t.1), t.2)) t) : Zw X Γ 3 r0 s 0 [(0, .ref (gL Γ (189))), (1, .int a1), (2, .int a2)] [] := by
  unfold f_X7_in at h
  refine z_iload_n hX dX7_in_0 1 rfl 1 rfl ?_
  replace h := cl_elim h
  obtain ⟨x2, s1, hx2, h⟩ := h
  refine z_cSi hX (As := [.int a1]) (c_X7_isCell hx2) lk_X7_133 ds_X7_isCell rfl (by decide) (by decide) (by decide) dX7_in_1 rfl 4 rfl ?_
  refine z_if_eq hX 35 dX7_in_4 (by decide) 7 rfl (fun c3 => ?_) (fun c3 => ?_)
  · replace h := br_pos h c3
    refine z_iconst hX (v := (-1)) dX7_in_35 rfl 36 rfl ?_
    replace h := Option.some.inj h
    subst h
    exact z_iret hX dX7_in_36 rfl hk
  · replace h := br_neg h c3
    refine z_aload_n hX dX7_in_7 0 rfl 8 rfl ?_
    refine z_iload_n hX dX7_in_8 2 rfl 9 rfl ?_
    replace h := cl_elim h
    obtain ⟨x5, s4, hx5, h⟩ := h
    refine z_cV7i hX (b := 189) (As := [.int a2]) (c_X7_isLife hx5) lk_X7_203 rfl kdc_189 ds_X7_isLife rfl (by decide) (by decide) (by decide) dX7_in_9 rfl 12 rfl ?_
    refine z_if_eq hX 35 dX7_in_12 (by decide) 15 rfl (fun c6 => ?_) (fun c6 => ?_)
    · replace h := br_pos h c6
      refine z_iconst hX (v := (-1)) dX7_in_35 rfl 36 rfl ?_
      replace h := Option.some.inj h
      subst h
      exact z_iret hX dX7_in_36 rfl hk
    · replace h := br_neg h c6
      refine z_aload_n hX dX7_in_15 0 rfl 16 rfl ?_
      refine z_get7 hX (k := 189) (j := 0) (v := .ref (gL Γ (190))) kdc_189 (by decide) rfl dX7_in_16 fl_X7_7 19 rfl ?_
      refine z_bipush hX (v := (nI 43)) dX7_in_19 (by decide) 21 rfl ?_
      refine z_bipush hX (v := (nI 20)) dX7_in_21 (by decide) 23 rfl ?_
      refine z_iload_n hX dX7_in_23 2 rfl 24 rfl ?_
      refine z_imul hX dX7_in_24 25 rfl ?_
      refine z_iadd hX dX7_in_25 26 rfl ?_
      refine z_iload_n hX dX7_in_26 1 rfl 27 rfl ?_
      replace h := cl_elim h
      obtain ⟨x8, s7, hx8, h⟩ := h
      refine z_cSi hX (As := [.int a1]) (c_X7_cellOf hx8) lk_X7_137 ds_X7_cellOf rfl (by decide) (by decide) (Nat.le_of_ble_eq_true rfl) dX7_in_27 rfl 30 rfl ?_
      refine z_iadd hX dX7_in_30 31 rfl ?_
      replace h := gd_elim h
      obtain ⟨g9, h⟩ := h
      refine z_iald hX (inb_vp g9) dX7_in_31 32 rfl ?_
      refine z_goto hX 36 dX7_in_32 (by decide) ?_
      replace h := Option.some.inj h
      subst h
      exact z_iret hX dX7_in_36 rfl hk
theorem c_X7_in {lc : Launch} {Γ : Gm} {a1 : Int32} {a2 : Int32} {s s2 : St} {v : Int32} (h : f_X7_in a1 a2 s = some (v, s2)) : Ct lc Γ yX7_in cX7_in 3 (some .int) 2 [.ref (gL Γ (189)), .int a1, .int a2] s (some (.int v), s2) := Ct.of (by decide +kernel) (Nat.le_of_ble_eq_true rfl) (fun X hl hX => e_X7_in hX h rfl)
theorem dX7_air_0 : decode cX7_air 0 = .ok (.iload_n 1, 1) := by decide +kernel
theorem dX7_air_1 : decode cX7_air 1 = .ok (.i2l, 1) := by decide +kernel
theorem dX7_air_2 : decode cX7_air 2 = .ok (.lconst 0, 1) := by decide +kernel
theorem dX7_air_3 : decode cX7_air 3 = .ok (.ldc2_w 215, 3) := by decide +kernel
theorem dX7_air_6 : decode cX7_air 6 = .ok (.invokestatic 52, 3) := by decide +kernel
theorem dX7_air_9 : decode cX7_air 9 = .ok (.ifCond .eq 15, 3) := by decide +kernel
theorem dX7_air_12 : decode cX7_air 12 = .ok (.aload_n 0, 1) := by decide +kernel
theorem dX7_air_13 : decode cX7_air 13 = .ok (.getfield 7, 3) := by decide +kernel
theorem dX7_air_16 : decode cX7_air 16 = .ok (.bipush 32, 2) := by decide +kernel
theorem dX7_air_18 : decode cX7_air 18 = .ok (.iload_n 1, 1) := by decide +kernel
theorem dX7_air_19 : decode cX7_air 19 = .ok (.iadd, 1) := by decide +kernel
theorem dX7_air_20 : decode cX7_air 20 = .ok (.iaload, 1) := by decide +kernel
theorem dX7_air_21 : decode cX7_air 21 = .ok (.goto 4, 3) := by decide +kernel
theorem dX7_air_24 : decode cX7_air 24 = .ok (.iconst (-1), 1) := by decide +kernel
theorem dX7_air_25 : decode cX7_air 25 = .ok (.ireturn, 1) := by decide +kernel
def f_X7_air (a1 : Int32) (s : St) : Option (Int32 × St) := cl (f_X7_within ((a1).toInt64) (lN 0) (lN 5) s) (fun x2 s1 => if x2 = 0 then (some (((-1), s1))) else (if inb ((nI 32) + a1) (lnI 190) = true then some (((s1.1 190 (((nI 32) + a1)).toNatClampNeg), s1)) else none))
set_option maxHeartbeats 4000000 in
set_option maxRecDepth 100000 in
theorem e_X7_air {X : Cx} {Γ : Gm} {r0 : Rb} (hX : Amb X Γ cX7_air RX7 2 (some .int) 1) {a1 : Int32} {s : St} {t : Int32 × St} (h : f_X7_air a1 s = some t) (hk : (fun t : Int32 × St => Rt X Γ r0 (some (Value.int t.1), t.2)) t) : Zw X Γ 2 r0 s 0 [(0, .ref (gL Γ (189))), (1, .int a1)] [] := by
  unfold f_X7_air at h
  refine z_iload_n hX dX7_air_0 1 rfl 1 rfl ?_
  refine z_i2l hX dX7_air_1 2 rfl ?_
  refine z_lconst hX (v := (lN 0)) dX7_air_2 rfl 3 rfl ?_
  refine z_ldc2 hX (v := (lN 5)) dX7_air_3 ml_X7_215 6 rfl ?_
  replace h := cl_elim h
  obtain ⟨x2, s1, hx2, h⟩ := h
  refine z_cSi hX (As := [.long ((a1).toInt64), .long ((lN 0)), .long ((lN 5))]) (c_X7_within hx2) lk_X7_52 ds_X7_within rfl (by decide) (by decide) (by decide) dX7_air_6 rfl 9 rfl ?_
  refine z_if_eq hX 24 dX7_air_9 (by decide) 12 rfl (fun c3 => ?_) (fun c3 => ?_)
  · replace h := br_pos h c3
    refine z_iconst hX (v := (-1)) dX7_air_24 rfl 25 rfl ?_
    replace h := Option.some.inj h
    subst h
    exact z_iret hX dX7_air_25 rfl hk
  · replace h := br_neg h c3
    refine z_aload_n hX dX7_air_12 0 rfl 13 rfl ?_
    refine z_get7 hX (k := 189) (j := 0) (v := .ref (gL Γ (190))) kdc_189 (by decide) rfl dX7_air_13 fl_X7_7 16 rfl ?_
    refine z_bipush hX (v := (nI 32)) dX7_air_16 (by decide) 18 rfl ?_
    refine z_iload_n hX dX7_air_18 1 rfl 19 rfl ?_
    refine z_iadd hX dX7_air_19 20 rfl ?_
    replace h := gd_elim h
    obtain ⟨g4, h⟩ := h
    refine z_iald hX (inb_vp g4) dX7_air_20 21 rfl ?_
    refine z_goto hX 25 dX7_air_21 (by decide) ?_
    replace h := Option.some.inj h
    subst h
    exact z_iret hX dX7_air_25 rfl hk
theorem c_X7_air {lc : Launch} {Γ : Gm} {a1 : Int32} {s s2 : St} {v : Int32} (h : f_X7_air a1 s = some (v, s2)) : Ct lc Γ yX7_air cX7_air 2 (some .int) 1 [.ref (gL Γ (189)), .int a1] s (some (.int v), s2) := Ct.of (by decide +kernel) (Nat.le_of_ble_eq_true rfl) (fun X hl hX => e_X7_air hX h rfl)
theorem dX7_becomes_0 : decode cX7_becomes 0 = .ok (.aload_n 0, 1) := by decide +kernel
theorem dX7_becomes_1 : decode cX7_becomes 1 = .ok (.getfield 7, 3) := by decide +kernel
theorem dX7_becomes_4 : decode cX7_becomes 4 = .ok (.iload_n 1, 1) := by decide +kernel
theorem dX7_becomes_5 : decode cX7_becomes 5 = .ok (.iaload, 1) := by decide +kernel
theorem dX7_becomes_6 : decode cX7_becomes 6 = .ok (.istore_n 3, 1) := by decide +kernel
theorem dX7_becomes_7 : decode cX7_becomes 7 = .ok (.aload_n 0, 1) := by decide +kernel
theorem dX7_becomes_8 : decode cX7_becomes 8 = .ok (.getfield 7, 3) := by decide +kernel
theorem dX7_becomes_11 : decode cX7_becomes 11 = .ok (.iload_n 1, 1) := by decide +kernel
theorem dX7_becomes_12 : decode cX7_becomes 12 = .ok (.iload_n 2, 1) := by decide +kernel
theorem dX7_becomes_13 : decode cX7_becomes 13 = .ok (.iastore, 1) := by decide +kernel
theorem dX7_becomes_14 : decode cX7_becomes 14 = .ok (.iload_n 3, 1) := by decide +kernel
theorem dX7_becomes_15 : decode cX7_becomes 15 = .ok (.ireturn, 1) := by decide +kernel
def f_X7_becomes (a1 : Int32) (a2 : Int32) (s : St) : Option (Int32 × St) := if inb a1 (lnI 190) = true then bd (s.1 190 (a1).toNatClampNeg) (fun x2 => bd (wI s 190 (a1).toNatClampNeg a2) (fun s3 => some ((x2, s3)))) else none
set_option maxHeartbeats 4000000 in
set_option maxRecDepth 100000 in
theorem e_X7_becomes {X : Cx} {Γ : Gm} {r0 : Rb} (hX : Amb X Γ cX7_becomes RX7 4 (some .int) 0) {a1 : Int32} {a2 : Int32} {s : St} {t : Int32 × St} (h : f_X7_becomes a1 a2 s = some t) (hk : (fun t : Int32 × St => Rt X Γ r0 (some (Value.int t.1), t.2)) t) : Zw X Γ 4 r0 s 0 [(0, .ref (gL Γ (189))), (1, .int a1), (2, .int a2)] [] := by
  unfold f_X7_becomes at h
  refine z_aload_n hX dX7_becomes_0 0 rfl 1 rfl ?_
  refine z_get7 hX (k := 189) (j := 0) (v := .ref (gL Γ (190))) kdc_189 (by decide) rfl dX7_becomes_1 fl_X7_7 4 rfl ?_
  refine z_iload_n hX dX7_becomes_4 1 rfl 5 rfl ?_
  replace h := gd_elim h
  obtain ⟨g1, h⟩ := h
  refine z_iald hX (inb_vp g1) dX7_becomes_5 6 rfl ?_
  replace h := bd_elim h
  obtain ⟨x2, ex2, h⟩ := h
  refine z_nm ex2 ?_
  refine z_istore_n hX (lv2 := [(3, .int x2), (0, .ref (gL Γ (189))), (1, .int a1), (2, .int a2)]) dX7_becomes_6 (by decide) rfl 7 rfl ?_
  refine z_aload_n hX dX7_becomes_7 1 rfl 8 rfl ?_
  refine z_get7 hX (k := 189) (j := 0) (v := .ref (gL Γ (190))) kdc_189 (by decide) rfl dX7_becomes_8 fl_X7_7 11 rfl ?_
  refine z_iload_n hX dX7_becomes_11 2 rfl 12 rfl ?_
  refine z_iload_n hX dX7_becomes_12 3 rfl 13 rfl ?_
  replace h := bd_elim h
  obtain ⟨s3, es3, h⟩ := h
  refine z_iast hX (inb_vp g1) dX7_becomes_13 es3 14 rfl ?_
  refine z_iload_n hX dX7_becomes_14 0 rfl 15 rfl ?_
  replace h := Option.some.inj h
  subst h
  exact z_iret hX dX7_becomes_15 rfl hk
theorem c_X7_becomes {lc : Launch} {Γ : Gm} {a1 : Int32} {a2 : Int32} {s s2 : St} {v : Int32} (h : f_X7_becomes a1 a2 s = some (v, s2)) : Ct lc Γ yX7_becomes cX7_becomes 4 (some .int) 0 [.ref (gL Γ (189)), .int a1, .int a2] s (some (.int v), s2) := Ct.of (by decide +kernel) (Nat.le_of_ble_eq_true rfl) (fun X hl hX => e_X7_becomes hX h rfl)
theorem dX7_canBe_0 : decode cX7_canBe 0 = .ok (.iload_n 0, 1) := by decide +kernel
theorem dX7_canBe_1 : decode cX7_canBe 1 = .ok (.tableswitch 66 0 3 #[31, 41, 46, 56], 31) := by decide +kernel
theorem dX7_canBe_32 : decode cX7_canBe 32 = .ok (.iload_n 1, 1) := by decide +kernel
theorem dX7_canBe_33 : decode cX7_canBe 33 = .ok (.i2l, 1) := by decide +kernel
theorem dX7_canBe_34 : decode cX7_canBe 34 = .ok (.lconst 0, 1) := by decide +kernel
theorem dX7_canBe_35 : decode cX7_canBe 35 = .ok (.ldc2_w 161, 3) := by decide +kernel
theorem dX7_canBe_38 : decode cX7_canBe 38 = .ok (.invokestatic 52, 3) := by decide +kernel
theorem dX7_canBe_41 : decode cX7_canBe 41 = .ok (.ireturn, 1) := by decide +kernel
theorem dX7_canBe_42 : decode cX7_canBe 42 = .ok (.iload_n 1, 1) := by decide +kernel
theorem dX7_canBe_43 : decode cX7_canBe 43 = .ok (.invokestatic 133, 3) := by decide +kernel
theorem dX7_canBe_46 : decode cX7_canBe 46 = .ok (.ireturn, 1) := by decide +kernel
theorem dX7_canBe_47 : decode cX7_canBe 47 = .ok (.iload_n 1, 1) := by decide +kernel
theorem dX7_canBe_48 : decode cX7_canBe 48 = .ok (.i2l, 1) := by decide +kernel
theorem dX7_canBe_49 : decode cX7_canBe 49 = .ok (.lconst 1, 1) := by decide +kernel
theorem dX7_canBe_50 : decode cX7_canBe 50 = .ok (.ldc2_w 217, 3) := by decide +kernel
theorem dX7_canBe_53 : decode cX7_canBe 53 = .ok (.invokestatic 52, 3) := by decide +kernel
theorem dX7_canBe_56 : decode cX7_canBe 56 = .ok (.ireturn, 1) := by decide +kernel
theorem dX7_canBe_57 : decode cX7_canBe 57 = .ok (.iload_n 1, 1) := by decide +kernel
theorem dX7_canBe_58 : decode cX7_canBe 58 = .ok (.i2l, 1) := by decide +kernel
theorem dX7_canBe_59 : decode cX7_canBe 59 = .ok (.lconst 0, 1) := by decide +kernel
theorem dX7_canBe_60 : decode cX7_canBe 60 = .ok (.ldc2_w 219, 3) := by decide +kernel
theorem dX7_canBe_63 : decode cX7_canBe 63 = .ok (.invokestatic 52, 3) := by decide +kernel
theorem dX7_canBe_66 : decode cX7_canBe 66 = .ok (.ireturn, 1) := by decide +kernel
theorem dX7_canBe_67 : decode cX7_canBe 67 = .ok (.iconst 0, 1) := by decide +kernel
theorem dX7_canBe_68 : decode cX7_canBe 68 = .ok (.ireturn, 1) := by decide +kernel
def f_X7_canBe (a0 : Int32) (a1 : Int32) (s : St) : Option (Int32 × St) := if a0 = (nI 0) then (cl (f_X7_within ((a1).toInt64) (lN 0) (lN 3) s) (fun x3 s2 => if x3 = 0 ∨ x3 = 1 then some ((x3, s2)) else none)) else (if a0 = (nI 1) then (cl (f_X7_isCell a1 s) (fun x7 s6 => if x7 = 0 ∨ x7 = 1 then some ((x7, s6)) else none)) else (if a0 = (nI 2) then (cl (f_X7_within ((a1).toInt64) (lN 1) (lN 9) s) (fun x11 s10 => if x11 = 0 ∨ x11 = 1 then some ((x11, s10)) else none)) else (if a0 = (nI 3) then (cl (f_X7_within ((a1).toInt64) (lN 0) (lN 99) s) (fun x15 s14 => if x15 = 0 ∨ x15 = 1 then some ((x15, s14)) else none)) else (if (a0).toInt < 0 ∨ 3 < (a0).toInt then (some (((nI 0), s))) else none))))
set_option maxHeartbeats 4000000 in
set_option maxRecDepth 100000 in
theorem e_X7_canBe {X : Cx} {Γ : Gm} {r0 : Rb} (hX : Amb X Γ cX7_canBe RX7 2 (some .boolean) 2) {a0 : Int32} {a1 : Int32} {s : St} {t : Int32 × St} (h : f_X7_canBe a0 a1 s = some t) (hk : (fun t : Int32 × St => Rt X Γ r0 (some (Value.int t.1), t.2)) t) : Zw X Γ 2 r0 s 0 [(0, .int a0), (1, .int a1)] [] := by
  unfold f_X7_canBe at h
  refine z_iload_n hX dX7_canBe_0 0 rfl 1 rfl ?_
  by_cases c1 : a0 = (nI 0)
  · replace h := br_pos h c1
    refine z_tcase hX (off := 31) 32 dX7_canBe_1 (nI 0) c1 (by decide) (by decide) ?_
    refine z_iload_n hX dX7_canBe_32 1 rfl 33 rfl ?_
    refine z_i2l hX dX7_canBe_33 34 rfl ?_
    refine z_lconst hX (v := (lN 0)) dX7_canBe_34 rfl 35 rfl ?_
    refine z_ldc2 hX (v := (lN 3)) dX7_canBe_35 ml_X7_161 38 rfl ?_
    replace h := cl_elim h
    obtain ⟨x3, s2, hx3, h⟩ := h
    refine z_cSi hX (As := [.long ((a1).toInt64), .long ((lN 0)), .long ((lN 3))]) (c_X7_within hx3) lk_X7_52 ds_X7_within rfl (by decide) (by decide) (by decide) dX7_canBe_38 rfl 41 rfl ?_
    replace h := gd_elim h
    obtain ⟨g4, h⟩ := h
    replace h := Option.some.inj h
    subst h
    exact z_zret hX dX7_canBe_41 rfl g4 hk
  replace h := br_neg h c1
  by_cases c5 : a0 = (nI 1)
  · replace h := br_pos h c5
    refine z_tcase hX (off := 41) 42 dX7_canBe_1 (nI 1) c5 (by decide) (by decide) ?_
    refine z_iload_n hX dX7_canBe_42 1 rfl 43 rfl ?_
    replace h := cl_elim h
    obtain ⟨x7, s6, hx7, h⟩ := h
    refine z_cSi hX (As := [.int a1]) (c_X7_isCell hx7) lk_X7_133 ds_X7_isCell rfl (by decide) (by decide) (by decide) dX7_canBe_43 rfl 46 rfl ?_
    replace h := gd_elim h
    obtain ⟨g8, h⟩ := h
    replace h := Option.some.inj h
    subst h
    exact z_zret hX dX7_canBe_46 rfl g8 hk
  replace h := br_neg h c5
  by_cases c9 : a0 = (nI 2)
  · replace h := br_pos h c9
    refine z_tcase hX (off := 46) 47 dX7_canBe_1 (nI 2) c9 (by decide) (by decide) ?_
    refine z_iload_n hX dX7_canBe_47 1 rfl 48 rfl ?_
    refine z_i2l hX dX7_canBe_48 49 rfl ?_
    refine z_lconst hX (v := (lN 1)) dX7_canBe_49 rfl 50 rfl ?_
    refine z_ldc2 hX (v := (lN 9)) dX7_canBe_50 ml_X7_217 53 rfl ?_
    replace h := cl_elim h
    obtain ⟨x11, s10, hx11, h⟩ := h
    refine z_cSi hX (As := [.long ((a1).toInt64), .long ((lN 1)), .long ((lN 9))]) (c_X7_within hx11) lk_X7_52 ds_X7_within rfl (by decide) (by decide) (by decide) dX7_canBe_53 rfl 56 rfl ?_
    replace h := gd_elim h
    obtain ⟨g12, h⟩ := h
    replace h := Option.some.inj h
    subst h
    exact z_zret hX dX7_canBe_56 rfl g12 hk
  replace h := br_neg h c9
  by_cases c13 : a0 = (nI 3)
  · replace h := br_pos h c13
    refine z_tcase hX (off := 56) 57 dX7_canBe_1 (nI 3) c13 (by decide) (by decide) ?_
    refine z_iload_n hX dX7_canBe_57 1 rfl 58 rfl ?_
    refine z_i2l hX dX7_canBe_58 59 rfl ?_
    refine z_lconst hX (v := (lN 0)) dX7_canBe_59 rfl 60 rfl ?_
    refine z_ldc2 hX (v := (lN 99)) dX7_canBe_60 ml_X7_219 63 rfl ?_
    replace h := cl_elim h
    obtain ⟨x15, s14, hx15, h⟩ := h
    refine z_cSi hX (As := [.long ((a1).toInt64), .long ((lN 0)), .long ((lN 99))]) (c_X7_within hx15) lk_X7_52 ds_X7_within rfl (by decide) (by decide) (by decide) dX7_canBe_63 rfl 66 rfl ?_
    replace h := gd_elim h
    obtain ⟨g16, h⟩ := h
    replace h := Option.some.inj h
    subst h
    exact z_zret hX dX7_canBe_66 rfl g16 hk
  replace h := br_neg h c13
  replace h := gd_elim h
  obtain ⟨g17, h⟩ := h
  refine z_tdef hX 67 dX7_canBe_1 g17 (by decide) ?_
  refine z_iconst hX (v := (nI 0)) dX7_canBe_67 rfl 68 rfl ?_
  replace h := Option.some.inj h
  subst h
  exact z_zret hX dX7_canBe_68 rfl (by decide) hk
theorem c_X7_canBe {lc : Launch} {Γ : Gm} {a0 : Int32} {a1 : Int32} {s s2 : St} {v : Int32} (h : f_X7_canBe a0 a1 s = some (v, s2)) : Ct lc Γ yX7_canBe cX7_canBe 2 (some .boolean) 2 [.int a0, .int a1] s (some (.int v), s2) := Ct.of (by decide +kernel) (Nat.le_of_ble_eq_true rfl) (fun X hl hX => e_X7_canBe hX h rfl)
theorem dX7_alter_0 : decode cX7_alter 0 = .ok (.aload_n 0, 1) := by decide +kernel
theorem dX7_alter_1 : decode cX7_alter 1 = .ok (.iload_n 1, 1) := by decide +kernel
theorem dX7_alter_2 : decode cX7_alter 2 = .ok (.invokevirtual 203, 3) := by decide +kernel
theorem dX7_alter_5 : decode cX7_alter 5 = .ok (.ifCond .eq 11, 3) := by decide +kernel
theorem dX7_alter_8 : decode cX7_alter 8 = .ok (.iload_n 2, 1) := by decide +kernel
theorem dX7_alter_9 : decode cX7_alter 9 = .ok (.iload_n 3, 1) := by decide +kernel
theorem dX7_alter_10 : decode cX7_alter 10 = .ok (.invokestatic 221, 3) := by decide +kernel
theorem dX7_alter_13 : decode cX7_alter 13 = .ok (.ifCond .ne 5, 3) := by decide +kernel
theorem dX7_alter_16 : decode cX7_alter 16 = .ok (.iconst (-1), 1) := by decide +kernel
theorem dX7_alter_17 : decode cX7_alter 17 = .ok (.ireturn, 1) := by decide +kernel
theorem dX7_alter_18 : decode cX7_alter 18 = .ok (.iload_n 2, 1) := by decide +kernel
theorem dX7_alter_19 : decode cX7_alter 19 = .ok (.aload_n 0, 1) := by decide +kernel
theorem dX7_alter_20 : decode cX7_alter 20 = .ok (.iconst 4, 1) := by decide +kernel
theorem dX7_alter_21 : decode cX7_alter 21 = .ok (.iload_n 1, 1) := by decide +kernel
theorem dX7_alter_22 : decode cX7_alter 22 = .ok (.imul, 1) := by decide +kernel
theorem dX7_alter_23 : decode cX7_alter 23 = .ok (.iload_n 2, 1) := by decide +kernel
theorem dX7_alter_24 : decode cX7_alter 24 = .ok (.iadd, 1) := by decide +kernel
theorem dX7_alter_25 : decode cX7_alter 25 = .ok (.iload_n 2, 1) := by decide +kernel
theorem dX7_alter_26 : decode cX7_alter 26 = .ok (.iconst 1, 1) := by decide +kernel
theorem dX7_alter_27 : decode cX7_alter 27 = .ok (.if_icmp .ne 10, 3) := by decide +kernel
theorem dX7_alter_30 : decode cX7_alter 30 = .ok (.iload_n 3, 1) := by decide +kernel
theorem dX7_alter_31 : decode cX7_alter 31 = .ok (.invokestatic 137, 3) := by decide +kernel
theorem dX7_alter_34 : decode cX7_alter 34 = .ok (.goto 4, 3) := by decide +kernel
theorem dX7_alter_37 : decode cX7_alter 37 = .ok (.iload_n 3, 1) := by decide +kernel
theorem dX7_alter_38 : decode cX7_alter 38 = .ok (.invokevirtual 225, 3) := by decide +kernel
theorem dX7_alter_41 : decode cX7_alter 41 = .ok (.invokestatic 206, 3) := by decide +kernel
theorem dX7_alter_44 : decode cX7_alter 44 = .ok (.ireturn, 1) := by decide +kernel
def f_X7_alter (a1 : Int32) (a2 : Int32) (a3 : Int32) (s : St) : Option (Int32 × St) := cl (f_X7_isLife a1 s) (fun x2 s1 => if x2 = 0 then (some (((-1), s1))) else (cl (f_X7_canBe a2 a3 s1) (fun x5 s4 => if ¬ x5 = 0 then (if ¬ a2 = (nI 1) then (cl (f_X7_becomes (((nI 4) * a1) + a2) a3 s4) (fun x9 s8 => cl (f_X7_asTold a2 x9 s8) (fun x11 s10 => some ((x11, s10))))) else (cl (f_X7_cellOf a3 s4) (fun x13 s12 => cl (f_X7_becomes (((nI 4) * a1) + a2) x13 s12) (fun x15 s14 => cl (f_X7_asTold a2 x15 s14) (fun x17 s16 => some ((x17, s16))))))) else (some (((-1), s4))))))
set_option maxHeartbeats 4000000 in
set_option maxRecDepth 100000 in
theorem e_X7_alter {X : Cx} {Γ : Gm} {r0 : Rb} (hX : Amb X Γ cX7_alter RX7 4 (some .int) 3) {a1 : Int32} {a2 : Int32} {a3 : Int32} {s : St} {t : Int32 × St} (h : f_X7_alter a1 a2 a3 s = some t) (hk : (fun t : Int32 × St => Rt X Γ r0 (some (Value.int t.1), t.2)) t) : Zw X Γ 4 r0 s 0 [(0, .ref (gL Γ (189))), (1, .int a1), (2, .int a2), (3, .int a3)] [] := by
  unfold f_X7_alter at h
  refine z_aload_n hX dX7_alter_0 0 rfl 1 rfl ?_
  refine z_iload_n hX dX7_alter_1 1 rfl 2 rfl ?_
  replace h := cl_elim h
  obtain ⟨x2, s1, hx2, h⟩ := h
  refine z_cV7i hX (b := 189) (As := [.int a1]) (c_X7_isLife hx2) lk_X7_203 rfl kdc_189 ds_X7_isLife rfl (by decide) (by decide) (by decide) dX7_alter_2 rfl 5 rfl ?_
  refine z_if_eq hX 16 dX7_alter_5 (by decide) 8 rfl (fun c3 => ?_) (fun c3 => ?_)
  · replace h := br_pos h c3
    refine z_iconst hX (v := (-1)) dX7_alter_16 rfl 17 rfl ?_
    replace h := Option.some.inj h
    subst h
    exact z_iret hX dX7_alter_17 rfl hk
  · replace h := br_neg h c3
    refine z_iload_n hX dX7_alter_8 2 rfl 9 rfl ?_
    refine z_iload_n hX dX7_alter_9 3 rfl 10 rfl ?_
    replace h := cl_elim h
    obtain ⟨x5, s4, hx5, h⟩ := h
    refine z_cSi hX (As := [.int a2, .int a3]) (c_X7_canBe hx5) lk_X7_221 ds_X7_canBe rfl (by decide) (by decide) (by decide) dX7_alter_10 rfl 13 rfl ?_
    refine z_if_ne hX 18 dX7_alter_13 (by decide) 16 rfl (fun c6 => ?_) (fun c6 => ?_)
    · replace h := br_pos h c6
      refine z_iload_n hX dX7_alter_18 2 rfl 19 rfl ?_
      refine z_aload_n hX dX7_alter_19 0 rfl 20 rfl ?_
      refine z_iconst hX (v := (nI 4)) dX7_alter_20 rfl 21 rfl ?_
      refine z_iload_n hX dX7_alter_21 1 rfl 22 rfl ?_
      refine z_imul hX dX7_alter_22 23 rfl ?_
      refine z_iload_n hX dX7_alter_23 2 rfl 24 rfl ?_
      refine z_iadd hX dX7_alter_24 25 rfl ?_
      refine z_iload_n hX dX7_alter_25 2 rfl 26 rfl ?_
      refine z_iconst hX (v := (nI 1)) dX7_alter_26 rfl 27 rfl ?_
      refine z_icmp_ne hX 37 dX7_alter_27 (by decide) 30 rfl (fun c7 => ?_) (fun c7 => ?_)
      · replace h := br_pos h c7
        refine z_iload_n hX dX7_alter_37 3 rfl 38 rfl ?_
        replace h := cl_elim h
        obtain ⟨x9, s8, hx9, h⟩ := h
        refine z_cV7i hX (b := 189) (As := [.int ((((nI 4) * a1) + a2)), .int a3]) (c_X7_becomes hx9) lk_X7_225 rfl kdc_189 ds_X7_becomes rfl (by decide) (by decide) (Nat.le_of_ble_eq_true rfl) dX7_alter_38 rfl 41 rfl ?_
        replace h := cl_elim h
        obtain ⟨x11, s10, hx11, h⟩ := h
        refine z_cSi hX (As := [.int a2, .int x9]) (c_X7_asTold hx11) lk_X7_206 ds_X7_asTold rfl (by decide) (by decide) (by decide) dX7_alter_41 rfl 44 rfl ?_
        replace h := Option.some.inj h
        subst h
        exact z_iret hX dX7_alter_44 rfl hk
      · replace h := br_neg h c7
        refine z_iload_n hX dX7_alter_30 3 rfl 31 rfl ?_
        replace h := cl_elim h
        obtain ⟨x13, s12, hx13, h⟩ := h
        refine z_cSi hX (As := [.int a3]) (c_X7_cellOf hx13) lk_X7_137 ds_X7_cellOf rfl (by decide) (by decide) (Nat.le_of_ble_eq_true rfl) dX7_alter_31 rfl 34 rfl ?_
        refine z_goto hX 38 dX7_alter_34 (by decide) ?_
        replace h := cl_elim h
        obtain ⟨x15, s14, hx15, h⟩ := h
        refine z_cV7i hX (b := 189) (As := [.int ((((nI 4) * a1) + a2)), .int x13]) (c_X7_becomes hx15) lk_X7_225 rfl kdc_189 ds_X7_becomes rfl (by decide) (by decide) (Nat.le_of_ble_eq_true rfl) dX7_alter_38 rfl 41 rfl ?_
        replace h := cl_elim h
        obtain ⟨x17, s16, hx17, h⟩ := h
        refine z_cSi hX (As := [.int a2, .int x15]) (c_X7_asTold hx17) lk_X7_206 ds_X7_asTold rfl (by decide) (by decide) (by decide) dX7_alter_41 rfl 44 rfl ?_
        replace h := Option.some.inj h
        subst h
        exact z_iret hX dX7_alter_44 rfl hk
    · replace h := br_neg h c6
      refine z_iconst hX (v := (-1)) dX7_alter_16 rfl 17 rfl ?_
      replace h := Option.some.inj h
      subst h
      exact z_iret hX dX7_alter_17 rfl hk
theorem c_X7_alter {lc : Launch} {Γ : Gm} {a1 : Int32} {a2 : Int32} {a3 : Int32} {s s2 : St} {v : Int32} (h : f_X7_alter a1 a2 a3 s = some (v, s2)) : Ct lc Γ yX7_alter cX7_alter 4 (some .int) 3 [.ref (gL Γ (189)), .int a1, .int a2, .int a3] s (some (.int v), s2) := Ct.of (by decide +kernel) (Nat.le_of_ble_eq_true rfl) (fun X hl hX => e_X7_alter hX h rfl)
theorem dX7_seat_0 : decode cX7_seat 0 = .ok (.aload_n 0, 1) := by decide +kernel
theorem dX7_seat_1 : decode cX7_seat 1 = .ok (.iload_n 1, 1) := by decide +kernel
theorem dX7_seat_2 : decode cX7_seat 2 = .ok (.invokevirtual 209, 3) := by decide +kernel
theorem dX7_seat_5 : decode cX7_seat 5 = .ok (.ifCond .eq 34, 3) := by decide +kernel
theorem dX7_seat_8 : decode cX7_seat 8 = .ok (.iload_n 2, 1) := by decide +kernel
theorem dX7_seat_9 : decode cX7_seat 9 = .ok (.ifCond .ne 13, 3) := by decide +kernel
theorem dX7_seat_12 : decode cX7_seat 12 = .ok (.iload_n 3, 1) := by decide +kernel
theorem dX7_seat_13 : decode cX7_seat 13 = .ok (.invokestatic 133, 3) := by decide +kernel
theorem dX7_seat_16 : decode cX7_seat 16 = .ok (.ifCond .eq 23, 3) := by decide +kernel
theorem dX7_seat_19 : decode cX7_seat 19 = .ok (.goto 22, 3) := by decide +kernel
theorem dX7_seat_22 : decode cX7_seat 22 = .ok (.iload_n 2, 1) := by decide +kernel
theorem dX7_seat_23 : decode cX7_seat 23 = .ok (.iconst 1, 1) := by decide +kernel
theorem dX7_seat_24 : decode cX7_seat 24 = .ok (.if_icmp .ne 15, 3) := by decide +kernel
theorem dX7_seat_27 : decode cX7_seat 27 = .ok (.iload_n 3, 1) := by decide +kernel
theorem dX7_seat_28 : decode cX7_seat 28 = .ok (.i2l, 1) := by decide +kernel
theorem dX7_seat_29 : decode cX7_seat 29 = .ok (.lconst 0, 1) := by decide +kernel
theorem dX7_seat_30 : decode cX7_seat 30 = .ok (.ldc2_w 217, 3) := by decide +kernel
theorem dX7_seat_33 : decode cX7_seat 33 = .ok (.invokestatic 52, 3) := by decide +kernel
theorem dX7_seat_36 : decode cX7_seat 36 = .ok (.ifCond .ne 5, 3) := by decide +kernel
theorem dX7_seat_39 : decode cX7_seat 39 = .ok (.iconst (-1), 1) := by decide +kernel
theorem dX7_seat_40 : decode cX7_seat 40 = .ok (.ireturn, 1) := by decide +kernel
theorem dX7_seat_41 : decode cX7_seat 41 = .ok (.iload_n 2, 1) := by decide +kernel
theorem dX7_seat_42 : decode cX7_seat 42 = .ok (.ifCond .ne 23, 3) := by decide +kernel
theorem dX7_seat_45 : decode cX7_seat 45 = .ok (.aload_n 0, 1) := by decide +kernel
theorem dX7_seat_46 : decode cX7_seat 46 = .ok (.bipush 12, 2) := by decide +kernel
theorem dX7_seat_48 : decode cX7_seat 48 = .ok (.iconst 2, 1) := by decide +kernel
theorem dX7_seat_49 : decode cX7_seat 49 = .ok (.iload_n 1, 1) := by decide +kernel
theorem dX7_seat_50 : decode cX7_seat 50 = .ok (.imul, 1) := by decide +kernel
theorem dX7_seat_51 : decode cX7_seat 51 = .ok (.iadd, 1) := by decide +kernel
theorem dX7_seat_52 : decode cX7_seat 52 = .ok (.iload_n 3, 1) := by decide +kernel
theorem dX7_seat_53 : decode cX7_seat 53 = .ok (.invokestatic 137, 3) := by decide +kernel
theorem dX7_seat_56 : decode cX7_seat 56 = .ok (.invokevirtual 225, 3) := by decide +kernel
theorem dX7_seat_59 : decode cX7_seat 59 = .ok (.invokestatic 200, 3) := by decide +kernel
theorem dX7_seat_62 : decode cX7_seat 62 = .ok (.goto 16, 3) := by decide +kernel
theorem dX7_seat_65 : decode cX7_seat 65 = .ok (.aload_n 0, 1) := by decide +kernel
theorem dX7_seat_66 : decode cX7_seat 66 = .ok (.bipush 12, 2) := by decide +kernel
theorem dX7_seat_68 : decode cX7_seat 68 = .ok (.iconst 2, 1) := by decide +kernel
theorem dX7_seat_69 : decode cX7_seat 69 = .ok (.iload_n 1, 1) := by decide +kernel
theorem dX7_seat_70 : decode cX7_seat 70 = .ok (.imul, 1) := by decide +kernel
theorem dX7_seat_71 : decode cX7_seat 71 = .ok (.iadd, 1) := by decide +kernel
theorem dX7_seat_72 : decode cX7_seat 72 = .ok (.iconst 1, 1) := by decide +kernel
theorem dX7_seat_73 : decode cX7_seat 73 = .ok (.iadd, 1) := by decide +kernel
theorem dX7_seat_74 : decode cX7_seat 74 = .ok (.iload_n 3, 1) := by decide +kernel
theorem dX7_seat_75 : decode cX7_seat 75 = .ok (.invokevirtual 225, 3) := by decide +kernel
theorem dX7_seat_78 : decode cX7_seat 78 = .ok (.ireturn, 1) := by decide +kernel
def f_X7_seat_J41 (v1 : Int32) (v2 : Int32) (v3 : Int32) (s : St) : Option (Int32 × St) := if ¬ v2 = 0 then (cl (f_X7_becomes (((nI 12) + ((nI 2) * v1)) + (nI 1)) v3 s) (fun x14 s13 => some ((x14, s13)))) else (cl (f_X7_cellOf v3 s) (fun x16 s15 => cl (f_X7_becomes ((nI 12) + ((nI 2) * v1)) x16 s15) (fun x18 s17 => cl (f_X7_nameOf x18 s17) (fun x20 s19 => some ((x20, s19))))))
def f_X7_seat (a1 : Int32) (a2 : Int32) (a3 : Int32) (s : St) : Option (Int32 × St) := cl (f_X7_isSitter a1 s) (fun x2 s1 => if x2 = 0 then (some (((-1), s1))) else (if ¬ a2 = 0 then (if ¬ a2 = (nI 1) then (some (((-1), s1))) else (cl (f_X7_within ((a3).toInt64) (lN 0) (lN 9) s1) (fun x7 s6 => if ¬ x7 = 0 then (f_X7_seat_J41 a1 a2 a3 s6) else (some (((-1), s6)))))) else (cl (f_X7_isCell a3 s1) (fun x10 s9 => if x10 = 0 then (some (((-1), s9))) else (f_X7_seat_J41 a1 a2 a3 s9)))))
set_option maxHeartbeats 4000000 in
set_option maxRecDepth 100000 in
theorem e_X7_seat_J41 {X : Cx} {Γ : Gm} {r0 : Rb} (hX : Amb X Γ cX7_seat RX7 4 (some .int) 2) {v1 : Int32} {v2 : Int32} {v3 : Int32} {s : St} {t : Int32 × St} (h : f_X7_seat_J41 v1 v2 v3 s = some t) (hk : (fun t : Int32 × St => Rt X Γ r0 (some (Value.int t.1), t.2)) t) : Zw X Γ 4 r0 s 41 [(0, .ref (gL Γ (189))), (1, .int v1), (2, .int v2), (3, .int v3)] [] := by
  unfold f_X7_seat_J41 at h
  refine z_iload_n hX dX7_seat_41 2 rfl 42 rfl ?_
  refine z_if_ne hX 65 dX7_seat_42 (by decide) 45 rfl (fun c12 => ?_) (fun c12 => ?_)
  · replace h := br_pos h c12
    refine z_aload_n hX dX7_seat_65 0 rfl 66 rfl ?_
    refine z_bipush hX (v := (nI 12)) dX7_seat_66 (by decide) 68 rfl ?_
    refine z_iconst hX (v := (nI 2)) dX7_seat_68 rfl 69 rfl ?_
    refine z_iload_n hX dX7_seat_69 1 rfl 70 rfl ?_
    refine z_imul hX dX7_seat_70 71 rfl ?_
    refine z_iadd hX dX7_seat_71 72 rfl ?_
    refine z_iconst hX (v := (nI 1)) dX7_seat_72 rfl 73 rfl ?_
    refine z_iadd hX dX7_seat_73 74 rfl ?_
    refine z_iload_n hX dX7_seat_74 3 rfl 75 rfl ?_
    replace h := cl_elim h
    obtain ⟨x14, s13, hx14, h⟩ := h
    refine z_cV7i hX (b := 189) (As := [.int ((((nI 12) + ((nI 2) * v1)) + (nI 1))), .int v3]) (c_X7_becomes hx14) lk_X7_225 rfl kdc_189 ds_X7_becomes rfl (by decide) (by decide) (by decide) dX7_seat_75 rfl 78 rfl ?_
    replace h := Option.some.inj h
    subst h
    exact z_iret hX dX7_seat_78 rfl hk
  · replace h := br_neg h c12
    refine z_aload_n hX dX7_seat_45 0 rfl 46 rfl ?_
    refine z_bipush hX (v := (nI 12)) dX7_seat_46 (by decide) 48 rfl ?_
    refine z_iconst hX (v := (nI 2)) dX7_seat_48 rfl 49 rfl ?_
    refine z_iload_n hX dX7_seat_49 1 rfl 50 rfl ?_
    refine z_imul hX dX7_seat_50 51 rfl ?_
    refine z_iadd hX dX7_seat_51 52 rfl ?_
    refine z_iload_n hX dX7_seat_52 3 rfl 53 rfl ?_
    replace h := cl_elim h
    obtain ⟨x16, s15, hx16, h⟩ := h
    refine z_cSi hX (As := [.int v3]) (c_X7_cellOf hx16) lk_X7_137 ds_X7_cellOf rfl (by decide) (by decide) (Nat.le_of_ble_eq_true rfl) dX7_seat_53 rfl 56 rfl ?_
    replace h := cl_elim h
    obtain ⟨x18, s17, hx18, h⟩ := h
    refine z_cV7i hX (b := 189) (As := [.int (((nI 12) + ((nI 2) * v1))), .int x16]) (c_X7_becomes hx18) lk_X7_225 rfl kdc_189 ds_X7_becomes rfl (by decide) (by decide) (by decide) dX7_seat_56 rfl 59 rfl ?_
    replace h := cl_elim h
    obtain ⟨x20, s19, hx20, h⟩ := h
    refine z_cSi hX (As := [.int x18]) (c_X7_nameOf hx20) lk_X7_200 ds_X7_nameOf rfl (by decide) (by decide) (by decide) dX7_seat_59 rfl 62 rfl ?_
    refine z_goto hX 78 dX7_seat_62 (by decide) ?_
    replace h := Option.some.inj h
    subst h
    exact z_iret hX dX7_seat_78 rfl hk
set_option maxHeartbeats 4000000 in
set_option maxRecDepth 100000 in
theorem e_X7_seat {X : Cx} {Γ : Gm} {r0 : Rb} (hX : Amb X Γ cX7_seat RX7 4 (some .int) 2) {a1 : Int32} {a2 : Int32} {a3 : Int32} {s : St} {t : Int32 × St} (h : f_X7_seat a1 a2 a3 s = some t) (hk : (fun t : Int32 × St => Rt X Γ r0 (some (Value.int t.1), t.2)) t) : Zw X Γ 4 r0 s 0 [(0, .ref (gL Γ (189))), (1, .int a1), (2, .int a2), (3, .int a3)] [] := by
  unfold f_X7_seat at h
  refine z_aload_n hX dX7_seat_0 0 rfl 1 rfl ?_
  refine z_iload_n hX dX7_seat_1 1 rfl 2 rfl ?_
  replace h := cl_elim h
  obtain ⟨x2, s1, hx2, h⟩ := h
  refine z_cV7i hX (b := 189) (As := [.int a1]) (c_X7_isSitter hx2) lk_X7_209 rfl kdc_189 ds_X7_isSitter rfl (by decide) (by decide) (by decide) dX7_seat_2 rfl 5 rfl ?_
  refine z_if_eq hX 39 dX7_seat_5 (by decide) 8 rfl (fun c3 => ?_) (fun c3 => ?_)
  · replace h := br_pos h c3
    refine z_iconst hX (v := (-1)) dX7_seat_39 rfl 40 rfl ?_
    replace h := Option.some.inj h
    subst h
    exact z_iret hX dX7_seat_40 rfl hk
  · replace h := br_neg h c3
    refine z_iload_n hX dX7_seat_8 2 rfl 9 rfl ?_
    refine z_if_ne hX 22 dX7_seat_9 (by decide) 12 rfl (fun c4 => ?_) (fun c4 => ?_)
    · replace h := br_pos h c4
      refine z_iload_n hX dX7_seat_22 2 rfl 23 rfl ?_
      refine z_iconst hX (v := (nI 1)) dX7_seat_23 rfl 24 rfl ?_
      refine z_icmp_ne hX 39 dX7_seat_24 (by decide) 27 rfl (fun c5 => ?_) (fun c5 => ?_)
      · replace h := br_pos h c5
        refine z_iconst hX (v := (-1)) dX7_seat_39 rfl 40 rfl ?_
        replace h := Option.some.inj h
        subst h
        exact z_iret hX dX7_seat_40 rfl hk
      · replace h := br_neg h c5
        refine z_iload_n hX dX7_seat_27 3 rfl 28 rfl ?_
        refine z_i2l hX dX7_seat_28 29 rfl ?_
        refine z_lconst hX (v := (lN 0)) dX7_seat_29 rfl 30 rfl ?_
        refine z_ldc2 hX (v := (lN 9)) dX7_seat_30 ml_X7_217 33 rfl ?_
        replace h := cl_elim h
        obtain ⟨x7, s6, hx7, h⟩ := h
        refine z_cSi hX (As := [.long ((a3).toInt64), .long ((lN 0)), .long ((lN 9))]) (c_X7_within hx7) lk_X7_52 ds_X7_within rfl (by decide) (by decide) (by decide) dX7_seat_33 rfl 36 rfl ?_
        refine z_if_ne hX 41 dX7_seat_36 (by decide) 39 rfl (fun c8 => ?_) (fun c8 => ?_)
        · replace h := br_pos h c8
          exact z_sub [0, 1, 2, 3] rfl (e_X7_seat_J41 hX h hk)
        · replace h := br_neg h c8
          refine z_iconst hX (v := (-1)) dX7_seat_39 rfl 40 rfl ?_
          replace h := Option.some.inj h
          subst h
          exact z_iret hX dX7_seat_40 rfl hk
    · replace h := br_neg h c4
      refine z_iload_n hX dX7_seat_12 3 rfl 13 rfl ?_
      replace h := cl_elim h
      obtain ⟨x10, s9, hx10, h⟩ := h
      refine z_cSi hX (As := [.int a3]) (c_X7_isCell hx10) lk_X7_133 ds_X7_isCell rfl (by decide) (by decide) (by decide) dX7_seat_13 rfl 16 rfl ?_
      refine z_if_eq hX 39 dX7_seat_16 (by decide) 19 rfl (fun c11 => ?_) (fun c11 => ?_)
      · replace h := br_pos h c11
        refine z_iconst hX (v := (-1)) dX7_seat_39 rfl 40 rfl ?_
        replace h := Option.some.inj h
        subst h
        exact z_iret hX dX7_seat_40 rfl hk
      · replace h := br_neg h c11
        refine z_goto hX 41 dX7_seat_19 (by decide) ?_
        exact z_sub [0, 1, 2, 3] rfl (e_X7_seat_J41 hX h hk)
theorem c_X7_seat {lc : Launch} {Γ : Gm} {a1 : Int32} {a2 : Int32} {a3 : Int32} {s s2 : St} {v : Int32} (h : f_X7_seat a1 a2 a3 s = some (v, s2)) : Ct lc Γ yX7_seat cX7_seat 4 (some .int) 2 [.ref (gL Γ (189)), .int a1, .int a2, .int a3] s (some (.int v), s2) := Ct.of (by decide +kernel) (Nat.le_of_ble_eq_true rfl) (fun X hl hX => e_X7_seat hX h rfl)
theorem dX7_blow_0 : decode cX7_blow 0 = .ok (.iload_n 1, 1) := by decide +kernel
theorem dX7_blow_1 : decode cX7_blow 1 = .ok (.i2l, 1) := by decide +kernel
theorem dX7_blow_2 : decode cX7_blow 2 = .ok (.lconst 0, 1) := by decide +kernel
theorem dX7_blow_3 : decode cX7_blow 3 = .ok (.ldc2_w 215, 3) := by decide +kernel
theorem dX7_blow_6 : decode cX7_blow 6 = .ok (.invokestatic 52, 3) := by decide +kernel
theorem dX7_blow_9 : decode cX7_blow 9 = .ok (.ifCond .eq 27, 3) := by decide +kernel
theorem dX7_blow_12 : decode cX7_blow 12 = .ok (.iload_n 2, 1) := by decide +kernel
theorem dX7_blow_13 : decode cX7_blow 13 = .ok (.i2l, 1) := by decide +kernel
theorem dX7_blow_14 : decode cX7_blow 14 = .ok (.lconst 0, 1) := by decide +kernel
theorem dX7_blow_15 : decode cX7_blow 15 = .ok (.ldc2_w 159, 3) := by decide +kernel
theorem dX7_blow_18 : decode cX7_blow 18 = .ok (.invokestatic 52, 3) := by decide +kernel
theorem dX7_blow_21 : decode cX7_blow 21 = .ok (.ifCond .eq 15, 3) := by decide +kernel
theorem dX7_blow_24 : decode cX7_blow 24 = .ok (.aload_n 0, 1) := by decide +kernel
theorem dX7_blow_25 : decode cX7_blow 25 = .ok (.bipush 32, 2) := by decide +kernel
theorem dX7_blow_27 : decode cX7_blow 27 = .ok (.iload_n 1, 1) := by decide +kernel
theorem dX7_blow_28 : decode cX7_blow 28 = .ok (.iadd, 1) := by decide +kernel
theorem dX7_blow_29 : decode cX7_blow 29 = .ok (.iload_n 2, 1) := by decide +kernel
theorem dX7_blow_30 : decode cX7_blow 30 = .ok (.invokevirtual 225, 3) := by decide +kernel
theorem dX7_blow_33 : decode cX7_blow 33 = .ok (.goto 4, 3) := by decide +kernel
theorem dX7_blow_36 : decode cX7_blow 36 = .ok (.iconst (-1), 1) := by decide +kernel
theorem dX7_blow_37 : decode cX7_blow 37 = .ok (.ireturn, 1) := by decide +kernel
def f_X7_blow (a1 : Int32) (a2 : Int32) (s : St) : Option (Int32 × St) := cl (f_X7_within ((a1).toInt64) (lN 0) (lN 5) s) (fun x2 s1 => if x2 = 0 then (some (((-1), s1))) else (cl (f_X7_within ((a2).toInt64) (lN 0) (lN 4) s1) (fun x5 s4 => if x5 = 0 then (some (((-1), s4))) else (cl (f_X7_becomes ((nI 32) + a1) a2 s4) (fun x8 s7 => some ((x8, s7)))))))
set_option maxHeartbeats 4000000 in
set_option maxRecDepth 100000 in
theorem e_X7_blow {X : Cx} {Γ : Gm} {r0 : Rb} (hX : Amb X Γ cX7_blow RX7 3 (some .int) 1) {a1 : Int32} {a2 : Int32} {s : St} {t : Int32 × St} (h : f_X7_blow a1 a2 s = some t) (hk : (fun t : Int32 × St => Rt X Γ r0 (some (Value.int t.1), t.2)) t) : Zw X Γ 3 r0 s 0 [(0, .ref (gL Γ (189))), (1, .int a1), (2, .int a2)] [] := by
  unfold f_X7_blow at h
  refine z_iload_n hX dX7_blow_0 1 rfl 1 rfl ?_
  refine z_i2l hX dX7_blow_1 2 rfl ?_
  refine z_lconst hX (v := (lN 0)) dX7_blow_2 rfl 3 rfl ?_
  refine z_ldc2 hX (v := (lN 5)) dX7_blow_3 ml_X7_215 6 rfl ?_
  replace h := cl_elim h
  obtain ⟨x2, s1, hx2, h⟩ := h
  refine z_cSi hX (As := [.long ((a1).toInt64), .long ((lN 0)), .long ((lN 5))]) (c_X7_within hx2) lk_X7_52 ds_X7_within rfl (by decide) (by decide) (by decide) dX7_blow_6 rfl 9 rfl ?_
  refine z_if_eq hX 36 dX7_blow_9 (by decide) 12 rfl (fun c3 => ?_) (fun c3 => ?_)
  · replace h := br_pos h c3
    refine z_iconst hX (v := (-1)) dX7_blow_36 rfl 37 rfl ?_
    replace h := Option.some.inj h
    subst h
    exact z_iret hX dX7_blow_37 rfl hk
  · replace h := br_neg h c3
    refine z_iload_n hX dX7_blow_12 2 rfl 13 rfl ?_
    refine z_i2l hX dX7_blow_13 14 rfl ?_
    refine z_lconst hX (v := (lN 0)) dX7_blow_14 rfl 15 rfl ?_
    refine z_ldc2 hX (v := (lN 4)) dX7_blow_15 ml_X7_159 18 rfl ?_
    replace h := cl_elim h
    obtain ⟨x5, s4, hx5, h⟩ := h
    refine z_cSi hX (As := [.long ((a2).toInt64), .long ((lN 0)), .long ((lN 4))]) (c_X7_within hx5) lk_X7_52 ds_X7_within rfl (by decide) (by decide) (by decide) dX7_blow_18 rfl 21 rfl ?_
    refine z_if_eq hX 36 dX7_blow_21 (by decide) 24 rfl (fun c6 => ?_) (fun c6 => ?_)
    · replace h := br_pos h c6
      refine z_iconst hX (v := (-1)) dX7_blow_36 rfl 37 rfl ?_
      replace h := Option.some.inj h
      subst h
      exact z_iret hX dX7_blow_37 rfl hk
    · replace h := br_neg h c6
      refine z_aload_n hX dX7_blow_24 0 rfl 25 rfl ?_
      refine z_bipush hX (v := (nI 32)) dX7_blow_25 (by decide) 27 rfl ?_
      refine z_iload_n hX dX7_blow_27 1 rfl 28 rfl ?_
      refine z_iadd hX dX7_blow_28 29 rfl ?_
      refine z_iload_n hX dX7_blow_29 2 rfl 30 rfl ?_
      replace h := cl_elim h
      obtain ⟨x8, s7, hx8, h⟩ := h
      refine z_cV7i hX (b := 189) (As := [.int (((nI 32) + a1)), .int a2]) (c_X7_becomes hx8) lk_X7_225 rfl kdc_189 ds_X7_becomes rfl (by decide) (by decide) (by decide) dX7_blow_30 rfl 33 rfl ?_
      refine z_goto hX 37 dX7_blow_33 (by decide) ?_
      replace h := Option.some.inj h
      subst h
      exact z_iret hX dX7_blow_37 rfl hk
theorem c_X7_blow {lc : Launch} {Γ : Gm} {a1 : Int32} {a2 : Int32} {s s2 : St} {v : Int32} (h : f_X7_blow a1 a2 s = some (v, s2)) : Ct lc Γ yX7_blow cX7_blow 3 (some .int) 1 [.ref (gL Γ (189)), .int a1, .int a2] s (some (.int v), s2) := Ct.of (by decide +kernel) (Nat.le_of_ble_eq_true rfl) (fun X hl hX => e_X7_blow hX h rfl)
theorem dX7_price_0 : decode cX7_price 0 = .ok (.iload_n 1, 1) := by decide +kernel
theorem dX7_price_1 : decode cX7_price 1 = .ok (.i2l, 1) := by decide +kernel
theorem dX7_price_2 : decode cX7_price 2 = .ok (.lconst 0, 1) := by decide +kernel
theorem dX7_price_3 : decode cX7_price 3 = .ok (.ldc2_w 161, 3) := by decide +kernel
theorem dX7_price_6 : decode cX7_price 6 = .ok (.invokestatic 52, 3) := by decide +kernel
theorem dX7_price_9 : decode cX7_price 9 = .ok (.ifCond .eq 27, 3) := by decide +kernel
theorem dX7_price_12 : decode cX7_price 12 = .ok (.iload_n 2, 1) := by decide +kernel
theorem dX7_price_13 : decode cX7_price 13 = .ok (.i2l, 1) := by decide +kernel
theorem dX7_price_14 : decode cX7_price 14 = .ok (.lconst 0, 1) := by decide +kernel
theorem dX7_price_15 : decode cX7_price 15 = .ok (.ldc2_w 217, 3) := by decide +kernel
theorem dX7_price_18 : decode cX7_price 18 = .ok (.invokestatic 52, 3) := by decide +kernel
theorem dX7_price_21 : decode cX7_price 21 = .ok (.ifCond .eq 15, 3) := by decide +kernel
theorem dX7_price_24 : decode cX7_price 24 = .ok (.aload_n 0, 1) := by decide +kernel
theorem dX7_price_25 : decode cX7_price 25 = .ok (.bipush 38, 2) := by decide +kernel
theorem dX7_price_27 : decode cX7_price 27 = .ok (.iload_n 1, 1) := by decide +kernel
theorem dX7_price_28 : decode cX7_price 28 = .ok (.iadd, 1) := by decide +kernel
theorem dX7_price_29 : decode cX7_price 29 = .ok (.iload_n 2, 1) := by decide +kernel
theorem dX7_price_30 : decode cX7_price 30 = .ok (.invokevirtual 225, 3) := by decide +kernel
theorem dX7_price_33 : decode cX7_price 33 = .ok (.goto 4, 3) := by decide +kernel
theorem dX7_price_36 : decode cX7_price 36 = .ok (.iconst (-1), 1) := by decide +kernel
theorem dX7_price_37 : decode cX7_price 37 = .ok (.ireturn, 1) := by decide +kernel
def f_X7_price (a1 : Int32) (a2 : Int32) (s : St) : Option (Int32 × St) := cl (f_X7_within ((a1).toInt64) (lN 0) (lN 3) s) (fun x2 s1 => if x2 = 0 then (some (((-1), s1))) else (cl (f_X7_within ((a2).toInt64) (lN 0) (lN 9) s1) (fun x5 s4 => if x5 = 0 then (some (((-1), s4))) else (cl (f_X7_becomes ((nI 38) + a1) a2 s4) (fun x8 s7 => some ((x8, s7)))))))
set_option maxHeartbeats 4000000 in
set_option maxRecDepth 100000 in
theorem e_X7_price {X : Cx} {Γ : Gm} {r0 : Rb} (hX : Amb X Γ cX7_price RX7 3 (some .int) 1) {a1 : Int32} {a2 : Int32} {s : St} {t : Int32 × St} (h : f_X7_price a1 a2 s = some t) (hk : (fun t : Int32 × St => Rt X Γ r0 (some (Value.int t.1), t.2)) t) : Zw X Γ 3 r0 s 0 [(0, .ref (gL Γ (189))), (1, .int a1), (2, .int a2)] [] := by
  unfold f_X7_price at h
  refine z_iload_n hX dX7_price_0 1 rfl 1 rfl ?_
  refine z_i2l hX dX7_price_1 2 rfl ?_
  refine z_lconst hX (v := (lN 0)) dX7_price_2 rfl 3 rfl ?_
  refine z_ldc2 hX (v := (lN 3)) dX7_price_3 ml_X7_161 6 rfl ?_
  replace h := cl_elim h
  obtain ⟨x2, s1, hx2, h⟩ := h
  refine z_cSi hX (As := [.long ((a1).toInt64), .long ((lN 0)), .long ((lN 3))]) (c_X7_within hx2) lk_X7_52 ds_X7_within rfl (by decide) (by decide) (by decide) dX7_price_6 rfl 9 rfl ?_
  refine z_if_eq hX 36 dX7_price_9 (by decide) 12 rfl (fun c3 => ?_) (fun c3 => ?_)
  · replace h := br_pos h c3
    refine z_iconst hX (v := (-1)) dX7_price_36 rfl 37 rfl ?_
    replace h := Option.some.inj h
    subst h
    exact z_iret hX dX7_price_37 rfl hk
  · replace h := br_neg h c3
    refine z_iload_n hX dX7_price_12 2 rfl 13 rfl ?_
    refine z_i2l hX dX7_price_13 14 rfl ?_
    refine z_lconst hX (v := (lN 0)) dX7_price_14 rfl 15 rfl ?_
    refine z_ldc2 hX (v := (lN 9)) dX7_price_15 ml_X7_217 18 rfl ?_
    replace h := cl_elim h
    obtain ⟨x5, s4, hx5, h⟩ := h
    refine z_cSi hX (As := [.long ((a2).toInt64), .long ((lN 0)), .long ((lN 9))]) (c_X7_within hx5) lk_X7_52 ds_X7_within rfl (by decide) (by decide) (by decide) dX7_price_18 rfl 21 rfl ?_
    refine z_if_eq hX 36 dX7_price_21 (by decide) 24 rfl (fun c6 => ?_) (fun c6 => ?_)
    · replace h := br_pos h c6
      refine z_iconst hX (v := (-1)) dX7_price_36 rfl 37 rfl ?_
      replace h := Option.some.inj h
      subst h
      exact z_iret hX dX7_price_37 rfl hk
    · replace h := br_neg h c6
      refine z_aload_n hX dX7_price_24 0 rfl 25 rfl ?_
      refine z_bipush hX (v := (nI 38)) dX7_price_25 (by decide) 27 rfl ?_
      refine z_iload_n hX dX7_price_27 1 rfl 28 rfl ?_
      refine z_iadd hX dX7_price_28 29 rfl ?_
      refine z_iload_n hX dX7_price_29 2 rfl 30 rfl ?_
      replace h := cl_elim h
      obtain ⟨x8, s7, hx8, h⟩ := h
      refine z_cV7i hX (b := 189) (As := [.int (((nI 38) + a1)), .int a2]) (c_X7_becomes hx8) lk_X7_225 rfl kdc_189 ds_X7_becomes rfl (by decide) (by decide) (by decide) dX7_price_30 rfl 33 rfl ?_
      refine z_goto hX 37 dX7_price_33 (by decide) ?_
      replace h := Option.some.inj h
      subst h
      exact z_iret hX dX7_price_37 rfl hk
theorem c_X7_price {lc : Launch} {Γ : Gm} {a1 : Int32} {a2 : Int32} {s s2 : St} {v : Int32} (h : f_X7_price a1 a2 s = some (v, s2)) : Ct lc Γ yX7_price cX7_price 3 (some .int) 1 [.ref (gL Γ (189)), .int a1, .int a2] s (some (.int v), s2) := Ct.of (by decide +kernel) (Nat.le_of_ble_eq_true rfl) (fun X hl hX => e_X7_price hX h rfl)
theorem dX7_open_0 : decode cX7_open 0 = .ok (.aload_n 0, 1) := by decide +kernel
theorem dX7_open_1 : decode cX7_open 1 = .ok (.invokevirtual 188, 3) := by decide +kernel
theorem dX7_open_4 : decode cX7_open 4 = .ok (.aload_n 0, 1) := by decide +kernel
theorem dX7_open_5 : decode cX7_open 5 = .ok (.invokevirtual 191, 3) := by decide +kernel
theorem dX7_open_8 : decode cX7_open 8 = .ok (.istore_n 1, 1) := by decide +kernel
theorem dX7_open_9 : decode cX7_open 9 = .ok (.iconst 0, 1) := by decide +kernel
theorem dX7_open_10 : decode cX7_open 10 = .ok (.istore_n 2, 1) := by decide +kernel
theorem dX7_open_11 : decode cX7_open 11 = .ok (.iload_n 2, 1) := by decide +kernel
theorem dX7_open_12 : decode cX7_open 12 = .ok (.iconst 3, 1) := by decide +kernel
theorem dX7_open_13 : decode cX7_open 13 = .ok (.if_icmp .ge 26, 3) := by decide +kernel
theorem dX7_open_16 : decode cX7_open 16 = .ok (.aload_n 0, 1) := by decide +kernel
theorem dX7_open_17 : decode cX7_open 17 = .ok (.getfield 7, 3) := by decide +kernel
theorem dX7_open_20 : decode cX7_open 20 = .ok (.bipush 103, 2) := by decide +kernel
theorem dX7_open_22 : decode cX7_open 22 = .ok (.iload_n 2, 1) := by decide +kernel
theorem dX7_open_23 : decode cX7_open 23 = .ok (.iadd, 1) := by decide +kernel
theorem dX7_open_24 : decode cX7_open 24 = .ok (.dup2, 1) := by decide +kernel
theorem dX7_open_25 : decode cX7_open 25 = .ok (.iaload, 1) := by decide +kernel
theorem dX7_open_26 : decode cX7_open 26 = .ok (.aload_n 0, 1) := by decide +kernel
theorem dX7_open_27 : decode cX7_open 27 = .ok (.iload_n 2, 1) := by decide +kernel
theorem dX7_open_28 : decode cX7_open 28 = .ok (.invokevirtual 182, 3) := by decide +kernel
theorem dX7_open_31 : decode cX7_open 31 = .ok (.iadd, 1) := by decide +kernel
theorem dX7_open_32 : decode cX7_open 32 = .ok (.iastore, 1) := by decide +kernel
theorem dX7_open_33 : decode cX7_open 33 = .ok (.iinc 2 1, 3) := by decide +kernel
theorem dX7_open_36 : decode cX7_open 36 = .ok (.goto (-25), 3) := by decide +kernel
theorem dX7_open_39 : decode cX7_open 39 = .ok (.iconst 0, 1) := by decide +kernel
theorem dX7_open_40 : decode cX7_open 40 = .ok (.istore_n 2, 1) := by decide +kernel
theorem dX7_open_41 : decode cX7_open 41 = .ok (.iload_n 2, 1) := by decide +kernel
theorem dX7_open_42 : decode cX7_open 42 = .ok (.bipush 60, 2) := by decide +kernel
theorem dX7_open_44 : decode cX7_open 44 = .ok (.if_icmp .ge 19, 3) := by decide +kernel
theorem dX7_open_47 : decode cX7_open 47 = .ok (.aload_n 0, 1) := by decide +kernel
theorem dX7_open_48 : decode cX7_open 48 = .ok (.getfield 7, 3) := by decide +kernel
theorem dX7_open_51 : decode cX7_open 51 = .ok (.bipush 43, 2) := by decide +kernel
theorem dX7_open_53 : decode cX7_open 53 = .ok (.iload_n 2, 1) := by decide +kernel
theorem dX7_open_54 : decode cX7_open 54 = .ok (.iadd, 1) := by decide +kernel
theorem dX7_open_55 : decode cX7_open 55 = .ok (.iconst 0, 1) := by decide +kernel
theorem dX7_open_56 : decode cX7_open 56 = .ok (.iastore, 1) := by decide +kernel
theorem dX7_open_57 : decode cX7_open 57 = .ok (.iinc 2 1, 3) := by decide +kernel
theorem dX7_open_60 : decode cX7_open 60 = .ok (.goto (-19), 3) := by decide +kernel
theorem dX7_open_63 : decode cX7_open 63 = .ok (.iload_n 1, 1) := by decide +kernel
theorem dX7_open_64 : decode cX7_open 64 = .ok (.ireturn, 1) := by decide +kernel
def f_X7_open_L41 (v1 : Int32) (v2 : Int32) (s : St) : Option ((Int32 × St) ⊕ (Int32 × St)) := if (nI 60) ≤ v2 then (some (Sum.inr ((v1, s)))) else (if inb ((nI 43) + v2) (lnI 190) = true then bd (wI s 190 (((nI 43) + v2)).toNatClampNeg (nI 0)) (fun s12 => some (Sum.inl ((v2 + (nI 1)), s12))) else none)
def f_X7_open_L11 (v1 : Int32) (v2 : Int32) (s : St) : Option ((Int32 × St) ⊕ (Int32 × St)) := if (nI 3) ≤ v2 then (ox (lp (fun q : Int32 × St => f_X7_open_L41 v1 q.1 q.2) Fu ((nI 0), s))) else (if inb ((nI 103) + v2) (lnI 190) = true then cl (f_X7_inRoom v2 s) (fun x8 s7 => bd (wI s7 190 (((nI 103) + v2)).toNatClampNeg ((s.1 190 (((nI 103) + v2)).toNatClampNeg) + x8)) (fun s9 => some (Sum.inl ((v2 + (nI 1)), s9)))) else none)
def f_X7_open (s : St) : Option (Int32 × St) := cl (f_X7_starts s) (fun x2 s1 => cl (f_X7_allIn s1) (fun x4 s3 => lp (fun q : Int32 × St => f_X7_open_L11 x4 q.1 q.2) Fu ((nI 0), s3)))
set_option maxHeartbeats 4000000 in
set_option maxRecDepth 100000 in
theorem e_X7_open_L41 {X : Cx} {Γ : Gm} {r0 : Rb} (hX : Amb X Γ cX7_open RX7 3 (some .int) 2) {v1 : Int32} {v2 : Int32} {s : St} {t : (Int32 × St) ⊕ (Int32 × St)} (h : f_X7_open_L41 v1 v2 s = some t) (hk : (Sum.elim (fun q : Int32 × St => Zw X Γ 3 r0 q.2 41 [(0, .ref (gL Γ (189))), (1, .int v1), (2, .int q.1)] []) (fun t : Int32 × St => Rt X Γ r0 (some (Value.int t.1), t.2))) t) : Zw X Γ 3 r0 s 41 [(0, .ref (gL Γ (189))), (1, .int v1), (2, .int v2)] [] := by
  unfold f_X7_open_L41 at h
  refine z_iload_n hX dX7_open_41 2 rfl 42 rfl ?_
  refine z_bipush hX (v := (nI 60)) dX7_open_42 (by decide) 44 rfl ?_
  refine z_icmp_ge hX 63 dX7_open_44 (by decide) 47 rfl (fun c10 => ?_) (fun c10 => ?_)
  · replace h := br_pos h c10
    refine z_iload_n hX dX7_open_63 1 rfl 64 rfl ?_
    replace h := Option.some.inj h
    subst h
    exact z_iret hX dX7_open_64 rfl hk
  · replace h := br_neg h c10
    refine z_aload_n hX dX7_open_47 0 rfl 48 rfl ?_
    refine z_get7 hX (k := 189) (j := 0) (v := .ref (gL Γ (190))) kdc_189 (by decide) rfl dX7_open_48 fl_X7_7 51 rfl ?_
    refine z_bipush hX (v := (nI 43)) dX7_open_51 (by decide) 53 rfl ?_
    refine z_iload_n hX dX7_open_53 2 rfl 54 rfl ?_
    refine z_iadd hX dX7_open_54 55 rfl ?_
    refine z_iconst hX (v := (nI 0)) dX7_open_55 rfl 56 rfl ?_
    replace h := gd_elim h
    obtain ⟨g11, h⟩ := h
    replace h := bd_elim h
    obtain ⟨s12, es12, h⟩ := h
    refine z_iast hX (inb_vp g11) dX7_open_56 es12 57 rfl ?_
    refine z_iinc hX (v := (v2 + (nI 1))) (lv2 := [(2, .int ((v2 + (nI 1)))), (0, .ref (gL Γ (189))), (1, .int v1)]) dX7_open_57 2 rfl rfl (by decide) rfl 60 rfl ?_
    refine z_goto hX 41 dX7_open_60 (by decide) ?_
    replace h := Option.some.inj h
    subst h
    exact z_sub [1, 2, 0] rfl hk
set_option maxHeartbeats 4000000 in
set_option maxRecDepth 100000 in
theorem e_X7_open_L11 {X : Cx} {Γ : Gm} {r0 : Rb} (hX : Amb X Γ cX7_open RX7 3 (some .int) 2) {v1 : Int32} {v2 : Int32} {s : St} {t : (Int32 × St) ⊕ (Int32 × St)} (h : f_X7_open_L11 v1 v2 s = some t) (hk : (Sum.elim (fun q : Int32 × St => Zw X Γ 3 r0 q.2 11 [(0, .ref (gL Γ (189))), (1, .int v1), (2, .int q.1)] []) (fun t : Int32 × St => Rt X Γ r0 (some (Value.int t.1), t.2))) t) : Zw X Γ 3 r0 s 11 [(0, .ref (gL Γ (189))), (1, .int v1), (2, .int v2)] [] := by
  unfold f_X7_open_L11 at h
  refine z_iload_n hX dX7_open_11 2 rfl 12 rfl ?_
  refine z_iconst hX (v := (nI 3)) dX7_open_12 rfl 13 rfl ?_
  refine z_icmp_ge hX 39 dX7_open_13 (by decide) 16 rfl (fun c5 => ?_) (fun c5 => ?_)
  · replace h := br_pos h c5
    refine z_iconst hX (v := (nI 0)) dX7_open_39 rfl 40 rfl ?_
    refine z_istore_n hX (lv2 := [(2, .int ((nI 0))), (0, .ref (gL Γ (189))), (1, .int v1)]) dX7_open_40 (by decide) rfl 41 rfl ?_
    replace h := ox_elim h
    obtain ⟨u, rfl, h⟩ := h
    exact z_sub [1, 2, 0] rfl (lp_ok (Z := fun q : Int32 × St => Zw X Γ 3 r0 q.2 41 [(0, .ref (gL Γ (189))), (1, .int v1), (2, .int q.1)] []) (fun q t h hk => e_X7_open_L41 hX h hk) Fu _ _ h hk)
  · replace h := br_neg h c5
    refine z_aload_n hX dX7_open_16 0 rfl 17 rfl ?_
    refine z_get7 hX (k := 189) (j := 0) (v := .ref (gL Γ (190))) kdc_189 (by decide) rfl dX7_open_17 fl_X7_7 20 rfl ?_
    refine z_bipush hX (v := (nI 103)) dX7_open_20 (by decide) 22 rfl ?_
    refine z_iload_n hX dX7_open_22 2 rfl 23 rfl ?_
    refine z_iadd hX dX7_open_23 24 rfl ?_
    refine z_dup2 hX dX7_open_24 rfl rfl 25 rfl ?_
    replace h := gd_elim h
    obtain ⟨g6, h⟩ := h
    refine z_iald hX (inb_vp g6) dX7_open_25 26 rfl ?_
    refine z_aload_n hX dX7_open_26 0 rfl 27 rfl ?_
    refine z_iload_n hX dX7_open_27 2 rfl 28 rfl ?_
    replace h := cl_elim h
    obtain ⟨x8, s7, hx8, h⟩ := h
    refine z_cV7i hX (b := 189) (As := [.int v2]) (c_X7_inRoom hx8) lk_X7_182 rfl kdc_189 ds_X7_inRoom rfl (by decide) (by decide) (Nat.le_of_ble_eq_true rfl) dX7_open_28 rfl 31 rfl ?_
    refine z_iadd hX dX7_open_31 32 rfl ?_
    replace h := bd_elim h
    obtain ⟨s9, es9, h⟩ := h
    refine z_iast hX (inb_vp g6) dX7_open_32 es9 33 rfl ?_
    refine z_iinc hX (v := (v2 + (nI 1))) (lv2 := [(2, .int ((v2 + (nI 1)))), (0, .ref (gL Γ (189))), (1, .int v1)]) dX7_open_33 2 rfl rfl (by decide) rfl 36 rfl ?_
    refine z_goto hX 11 dX7_open_36 (by decide) ?_
    replace h := Option.some.inj h
    subst h
    exact z_sub [1, 2, 0] rfl hk
set_option maxHeartbeats 4000000 in
set_option maxRecDepth 100000 in
theorem e_X7_open {X : Cx} {Γ : Gm} {r0 : Rb} (hX : Amb X Γ cX7_open RX7 3 (some .int) 2) {s : St} {t : Int32 × St} (h : f_X7_open s = some t) (hk : (fun t : Int32 × St => Rt X Γ r0 (some (Value.int t.1), t.2)) t) : Zw X Γ 3 r0 s 0 [(0, .ref (gL Γ (189)))] [] := by
  unfold f_X7_open at h
  refine z_aload_n hX dX7_open_0 0 rfl 1 rfl ?_
  replace h := cl_elim h
  obtain ⟨x2, s1, hx2, h⟩ := h
  refine z_cV7v hX (b := 189) (As := []) (c_X7_starts hx2) lk_X7_188 rfl kdc_189 ds_X7_starts rfl (by decide) (by decide) (by decide) dX7_open_1 rfl 4 rfl ?_
  refine z_aload_n hX dX7_open_4 0 rfl 5 rfl ?_
  replace h := cl_elim h
  obtain ⟨x4, s3, hx4, h⟩ := h
  refine z_cV7i hX (b := 189) (As := []) (c_X7_allIn hx4) lk_X7_191 rfl kdc_189 ds_X7_allIn rfl (by decide) (by decide) (by decide) dX7_open_5 rfl 8 rfl ?_
  refine z_istore_n hX (lv2 := [(1, .int x4), (0, .ref (gL Γ (189)))]) dX7_open_8 (by decide) rfl 9 rfl ?_
  refine z_iconst hX (v := (nI 0)) dX7_open_9 rfl 10 rfl ?_
  refine z_istore_n hX (lv2 := [(2, .int ((nI 0))), (1, .int x4), (0, .ref (gL Γ (189)))]) dX7_open_10 (by decide) rfl 11 rfl ?_
  exact z_sub [2, 1, 0] rfl (lp_ok (Z := fun q : Int32 × St => Zw X Γ 3 r0 q.2 11 [(0, .ref (gL Γ (189))), (1, .int x4), (2, .int q.1)] []) (fun q t h hk => e_X7_open_L11 hX h hk) Fu _ _ h hk)
theorem c_X7_open {lc : Launch} {Γ : Gm} {s s2 : St} {v : Int32} (h : f_X7_open s = some (v, s2)) : Ct lc Γ yX7_open cX7_open 3 (some .int) 2 [.ref (gL Γ (189))] s (some (.int v), s2) := Ct.of (by decide +kernel) (Nat.le_of_ble_eq_true rfl) (fun X hl hX => e_X7_open hX h rfl)
theorem dX7_steps_0 : decode cX7_steps 0 = .ok (.iload_n 1, 1) := by decide +kernel
theorem dX7_steps_1 : decode cX7_steps 1 = .ok (.i2l, 1) := by decide +kernel
theorem dX7_steps_2 : decode cX7_steps 2 = .ok (.lconst 0, 1) := by decide +kernel
theorem dX7_steps_3 : decode cX7_steps 3 = .ok (.ldc2_w 228, 3) := by decide +kernel
theorem dX7_steps_6 : decode cX7_steps 6 = .ok (.invokestatic 52, 3) := by decide +kernel
theorem dX7_steps_9 : decode cX7_steps 9 = .ok (.ifCond .ne 5, 3) := by decide +kernel
theorem dX7_steps_12 : decode cX7_steps 12 = .ok (.iconst (-1), 1) := by decide +kernel
theorem dX7_steps_13 : decode cX7_steps 13 = .ok (.ireturn, 1) := by decide +kernel
theorem dX7_steps_14 : decode cX7_steps 14 = .ok (.aload_n 0, 1) := by decide +kernel
theorem dX7_steps_15 : decode cX7_steps 15 = .ok (.getfield 7, 3) := by decide +kernel
theorem dX7_steps_18 : decode cX7_steps 18 = .ok (.bipush 42, 2) := by decide +kernel
theorem dX7_steps_20 : decode cX7_steps 20 = .ok (.iaload, 1) := by decide +kernel
theorem dX7_steps_21 : decode cX7_steps 21 = .ok (.iload_n 1, 1) := by decide +kernel
theorem dX7_steps_22 : decode cX7_steps 22 = .ok (.iadd, 1) := by decide +kernel
theorem dX7_steps_23 : decode cX7_steps 23 = .ok (.sipush 999, 3) := by decide +kernel
theorem dX7_steps_26 : decode cX7_steps 26 = .ok (.if_icmp .le 6, 3) := by decide +kernel
theorem dX7_steps_29 : decode cX7_steps 29 = .ok (.bipush (-3), 2) := by decide +kernel
theorem dX7_steps_31 : decode cX7_steps 31 = .ok (.ireturn, 1) := by decide +kernel
theorem dX7_steps_32 : decode cX7_steps 32 = .ok (.aload_n 0, 1) := by decide +kernel
theorem dX7_steps_33 : decode cX7_steps 33 = .ok (.invokevirtual 188, 3) := by decide +kernel
theorem dX7_steps_36 : decode cX7_steps 36 = .ok (.aload_n 0, 1) := by decide +kernel
theorem dX7_steps_37 : decode cX7_steps 37 = .ok (.invokevirtual 197, 3) := by decide +kernel
theorem dX7_steps_40 : decode cX7_steps 40 = .ok (.istore_n 2, 1) := by decide +kernel
theorem dX7_steps_41 : decode cX7_steps 41 = .ok (.aload_n 0, 1) := by decide +kernel
theorem dX7_steps_42 : decode cX7_steps 42 = .ok (.iload_n 1, 1) := by decide +kernel
theorem dX7_steps_43 : decode cX7_steps 43 = .ok (.invokevirtual 230, 3) := by decide +kernel
theorem dX7_steps_46 : decode cX7_steps 46 = .ok (.aload_n 0, 1) := by decide +kernel
theorem dX7_steps_47 : decode cX7_steps 47 = .ok (.invokevirtual 233, 3) := by decide +kernel
theorem dX7_steps_50 : decode cX7_steps 50 = .ok (.aload_n 0, 1) := by decide +kernel
theorem dX7_steps_51 : decode cX7_steps 51 = .ok (.invokevirtual 197, 3) := by decide +kernel
theorem dX7_steps_54 : decode cX7_steps 54 = .ok (.iload_n 2, 1) := by decide +kernel
theorem dX7_steps_55 : decode cX7_steps 55 = .ok (.isub, 1) := by decide +kernel
theorem dX7_steps_56 : decode cX7_steps 56 = .ok (.ireturn, 1) := by decide +kernel
def f_X7_steps (a1 : Int32) (s : St) : Option (Int32 × St) := cl (f_X7_within ((a1).toInt64) (lN 0) (lN 30) s) (fun x2 s1 => if ¬ x2 = 0 then (if inb (nI 42) (lnI 190) = true then if ((s1.1 190 ((nI 42)).toNatClampNeg) + a1) ≤ (nI 999) then (cl (f_X7_starts s1) (fun x7 s6 => cl (f_X7_allHad s6) (fun x9 s8 => cl (f_X7_stepsGo a1 s8) (fun x11 s10 => cl (f_X7_settles s10) (fun x13 s12 => cl (f_X7_allHad s12) (fun x15 s14 => some (((x15 - x9), s14)))))))) else (some (((-3), s1))) else none) else (some (((-1), s1))))
set_option maxHeartbeats 4000000 in
set_option maxRecDepth 100000 in
theorem e_X7_steps {X : Cx} {Γ : Gm} {r0 : Rb} (hX : Amb X Γ cX7_steps RX7 3 (some .int) 5) {a1 : Int32} {s : St} {t : Int32 × St} (h : f_X7_steps a1 s = some t) (hk : (fun t : Int32 × St => Rt X Γ r0 (some (Value.int t.1), t.2)) t) : Zw X Γ 3 r0 s 0 [(0, .ref (gL Γ (189))), (1, .int a1)] [] := by
  unfold f_X7_steps at h
  refine z_iload_n hX dX7_steps_0 1 rfl 1 rfl ?_
  refine z_i2l hX dX7_steps_1 2 rfl ?_
  refine z_lconst hX (v := (lN 0)) dX7_steps_2 rfl 3 rfl ?_
  refine z_ldc2 hX (v := (lN 30)) dX7_steps_3 ml_X7_228 6 rfl ?_
  replace h := cl_elim h
  obtain ⟨x2, s1, hx2, h⟩ := h
  refine z_cSi hX (As := [.long ((a1).toInt64), .long ((lN 0)), .long ((lN 30))]) (c_X7_within hx2) lk_X7_52 ds_X7_within rfl (by decide) (by decide) (by decide) dX7_steps_6 rfl 9 rfl ?_
  refine z_if_ne hX 14 dX7_steps_9 (by decide) 12 rfl (fun c3 => ?_) (fun c3 => ?_)
  · replace h := br_pos h c3
    refine z_aload_n hX dX7_steps_14 0 rfl 15 rfl ?_
    refine z_get7 hX (k := 189) (j := 0) (v := .ref (gL Γ (190))) kdc_189 (by decide) rfl dX7_steps_15 fl_X7_7 18 rfl ?_
    refine z_bipush hX (v := (nI 42)) dX7_steps_18 (by decide) 20 rfl ?_
    replace h := gd_elim h
    obtain ⟨g4, h⟩ := h
    refine z_iald hX (inb_vp g4) dX7_steps_20 21 rfl ?_
    refine z_iload_n hX dX7_steps_21 1 rfl 22 rfl ?_
    refine z_iadd hX dX7_steps_22 23 rfl ?_
    refine z_sipush hX (v := (nI 999)) dX7_steps_23 (by decide) 26 rfl ?_
    refine z_icmp_le hX 32 dX7_steps_26 (by decide) 29 rfl (fun c5 => ?_) (fun c5 => ?_)
    · replace h := br_pos h c5
      refine z_aload_n hX dX7_steps_32 0 rfl 33 rfl ?_
      replace h := cl_elim h
      obtain ⟨x7, s6, hx7, h⟩ := h
      refine z_cV7v hX (b := 189) (As := []) (c_X7_starts hx7) lk_X7_188 rfl kdc_189 ds_X7_starts rfl (by decide) (by decide) (by decide) dX7_steps_33 rfl 36 rfl ?_
      refine z_aload_n hX dX7_steps_36 0 rfl 37 rfl ?_
      replace h := cl_elim h
      obtain ⟨x9, s8, hx9, h⟩ := h
      refine z_cV7i hX (b := 189) (As := []) (c_X7_allHad hx9) lk_X7_197 rfl kdc_189 ds_X7_allHad rfl (by decide) (by decide) (by decide) dX7_steps_37 rfl 40 rfl ?_
      refine z_istore_n hX (lv2 := [(2, .int x9), (0, .ref (gL Γ (189))), (1, .int a1)]) dX7_steps_40 (by decide) rfl 41 rfl ?_
      refine z_aload_n hX dX7_steps_41 1 rfl 42 rfl ?_
      refine z_iload_n hX dX7_steps_42 2 rfl 43 rfl ?_
      replace h := cl_elim h
      obtain ⟨x11, s10, hx11, h⟩ := h
      refine z_cV7v hX (b := 189) (As := [.int a1]) (c_X7_stepsGo hx11) lk_X7_230 rfl kdc_189 ds_X7_stepsGo rfl (by decide) (by decide) (by decide) dX7_steps_43 rfl 46 rfl ?_
      refine z_aload_n hX dX7_steps_46 1 rfl 47 rfl ?_
      replace h := cl_elim h
      obtain ⟨x13, s12, hx13, h⟩ := h
      refine z_cV7v hX (b := 189) (As := []) (c_X7_settles hx13) lk_X7_233 rfl kdc_189 ds_X7_settles rfl (by decide) (by decide) (by decide) dX7_steps_47 rfl 50 rfl ?_
      refine z_aload_n hX dX7_steps_50 1 rfl 51 rfl ?_
      replace h := cl_elim h
      obtain ⟨x15, s14, hx15, h⟩ := h
      refine z_cV7i hX (b := 189) (As := []) (c_X7_allHad hx15) lk_X7_197 rfl kdc_189 ds_X7_allHad rfl (by decide) (by decide) (by decide) dX7_steps_51 rfl 54 rfl ?_
      refine z_iload_n hX dX7_steps_54 0 rfl 55 rfl ?_
      refine z_isub hX dX7_steps_55 56 rfl ?_
      replace h := Option.some.inj h
      subst h
      exact z_iret hX dX7_steps_56 rfl hk
    · replace h := br_neg h c5
      refine z_bipush hX (v := (-3)) dX7_steps_29 (by decide) 31 rfl ?_
      replace h := Option.some.inj h
      subst h
      exact z_iret hX dX7_steps_31 rfl hk
  · replace h := br_neg h c3
    refine z_iconst hX (v := (-1)) dX7_steps_12 rfl 13 rfl ?_
    replace h := Option.some.inj h
    subst h
    exact z_iret hX dX7_steps_13 rfl hk
theorem c_X7_steps {lc : Launch} {Γ : Gm} {a1 : Int32} {s s2 : St} {v : Int32} (h : f_X7_steps a1 s = some (v, s2)) : Ct lc Γ yX7_steps cX7_steps 3 (some .int) 5 [.ref (gL Γ (189)), .int a1] s (some (.int v), s2) := Ct.of (by decide +kernel) (Nat.le_of_ble_eq_true rfl) (fun X hl hX => e_X7_steps hX h rfl)
theorem dX7_isFar_0 : decode cX7_isFar 0 = .ok (.iload_n 0, 1) := by decide +kernel
theorem dX7_isFar_1 : decode cX7_isFar 1 = .ok (.i2l, 1) := by decide +kernel
theorem dX7_isFar_2 : decode cX7_isFar 2 = .ok (.lconst 0, 1) := by decide +kernel
theorem dX7_isFar_3 : decode cX7_isFar 3 = .ok (.ldc2_w 236, 3) := by decide +kernel
theorem dX7_isFar_6 : decode cX7_isFar 6 = .ok (.invokestatic 52, 3) := by decide +kernel
theorem dX7_isFar_9 : decode cX7_isFar 9 = .ok (.ireturn, 1) := by decide +kernel
def f_X7_isFar (a0 : Int32) (s : St) : Option (Int32 × St) := cl (f_X7_within ((a0).toInt64) (lN 0) (lN 60) s) (fun x2 s1 => if x2 = 0 ∨ x2 = 1 then some ((x2, s1)) else none)
set_option maxHeartbeats 4000000 in
set_option maxRecDepth 100000 in
theorem e_X7_isFar {X : Cx} {Γ : Gm} {r0 : Rb} (hX : Amb X Γ cX7_isFar RX7 1 (some .boolean) 1) {a0 : Int32} {s : St} {t : Int32 × St} (h : f_X7_isFar a0 s = some t) (hk : (fun t : Int32 × St => Rt X Γ r0 (some (Value.int t.1), t.2)) t) : Zw X Γ 1 r0 s 0 [(0, .int a0)] [] := by
  unfold f_X7_isFar at h
  refine z_iload_n hX dX7_isFar_0 0 rfl 1 rfl ?_
  refine z_i2l hX dX7_isFar_1 2 rfl ?_
  refine z_lconst hX (v := (lN 0)) dX7_isFar_2 rfl 3 rfl ?_
  refine z_ldc2 hX (v := (lN 60)) dX7_isFar_3 ml_X7_236 6 rfl ?_
  replace h := cl_elim h
  obtain ⟨x2, s1, hx2, h⟩ := h
  refine z_cSi hX (As := [.long ((a0).toInt64), .long ((lN 0)), .long ((lN 60))]) (c_X7_within hx2) lk_X7_52 ds_X7_within rfl (by decide) (by decide) (by decide) dX7_isFar_6 rfl 9 rfl ?_
  replace h := gd_elim h
  obtain ⟨g3, h⟩ := h
  replace h := Option.some.inj h
  subst h
  exact z_zret hX dX7_isFar_9 rfl g3 hk
theorem c_X7_isFar {lc : Launch} {Γ : Gm} {a0 : Int32} {s s2 : St} {v : Int32} (h : f_X7_isFar a0 s = some (v, s2)) : Ct lc Γ yX7_isFar cX7_isFar 1 (some .boolean) 1 [.int a0] s (some (.int v), s2) := Ct.of (by decide +kernel) (Nat.le_of_ble_eq_true rfl) (fun X hl hX => e_X7_isFar hX h rfl)
theorem dX7_runs_0 : decode cX7_runs 0 = .ok (.iload_n 1, 1) := by decide +kernel
theorem dX7_runs_1 : decode cX7_runs 1 = .ok (.invokestatic 238, 3) := by decide +kernel
theorem dX7_runs_4 : decode cX7_runs 4 = .ok (.ifCond .eq 15, 3) := by decide +kernel
theorem dX7_runs_7 : decode cX7_runs 7 = .ok (.iload_n 2, 1) := by decide +kernel
theorem dX7_runs_8 : decode cX7_runs 8 = .ok (.i2l, 1) := by decide +kernel
theorem dX7_runs_9 : decode cX7_runs 9 = .ok (.lconst 0, 1) := by decide +kernel
theorem dX7_runs_10 : decode cX7_runs 10 = .ok (.ldc2_w 161, 3) := by decide +kernel
theorem dX7_runs_13 : decode cX7_runs 13 = .ok (.invokestatic 52, 3) := by decide +kernel
theorem dX7_runs_16 : decode cX7_runs 16 = .ok (.ifCond .ne 5, 3) := by decide +kernel
theorem dX7_runs_19 : decode cX7_runs 19 = .ok (.iconst (-1), 1) := by decide +kernel
theorem dX7_runs_20 : decode cX7_runs 20 = .ok (.ireturn, 1) := by decide +kernel
theorem dX7_runs_21 : decode cX7_runs 21 = .ok (.bipush (-4), 2) := by decide +kernel
theorem dX7_runs_23 : decode cX7_runs 23 = .ok (.istore_n 3, 1) := by decide +kernel
theorem dX7_runs_24 : decode cX7_runs 24 = .ok (.aload_n 0, 1) := by decide +kernel
theorem dX7_runs_25 : decode cX7_runs 25 = .ok (.invokevirtual 188, 3) := by decide +kernel
theorem dX7_runs_28 : decode cX7_runs 28 = .ok (.aload_n 0, 1) := by decide +kernel
theorem dX7_runs_29 : decode cX7_runs 29 = .ok (.invokevirtual 197, 3) := by decide +kernel
theorem dX7_runs_32 : decode cX7_runs 32 = .ok (.istore 4, 2) := by decide +kernel
theorem dX7_runs_34 : decode cX7_runs 34 = .ok (.iconst 1, 1) := by decide +kernel
theorem dX7_runs_35 : decode cX7_runs 35 = .ok (.istore 5, 2) := by decide +kernel
theorem dX7_runs_37 : decode cX7_runs 37 = .ok (.iload 5, 2) := by decide +kernel
theorem dX7_runs_39 : decode cX7_runs 39 = .ok (.iload_n 1, 1) := by decide +kernel
theorem dX7_runs_40 : decode cX7_runs 40 = .ok (.if_icmp .gt 36, 3) := by decide +kernel
theorem dX7_runs_43 : decode cX7_runs 43 = .ok (.aload_n 0, 1) := by decide +kernel
theorem dX7_runs_44 : decode cX7_runs 44 = .ok (.iconst 0, 1) := by decide +kernel
theorem dX7_runs_45 : decode cX7_runs 45 = .ok (.invokevirtual 178, 3) := by decide +kernel
theorem dX7_runs_48 : decode cX7_runs 48 = .ok (.iload_n 3, 1) := by decide +kernel
theorem dX7_runs_49 : decode cX7_runs 49 = .ok (.bipush (-4), 2) := by decide +kernel
theorem dX7_runs_51 : decode cX7_runs 51 = .ok (.if_icmp .ne 17, 3) := by decide +kernel
theorem dX7_runs_54 : decode cX7_runs 54 = .ok (.aload_n 0, 1) := by decide +kernel
theorem dX7_runs_55 : decode cX7_runs 55 = .ok (.invokevirtual 197, 3) := by decide +kernel
theorem dX7_runs_58 : decode cX7_runs 58 = .ok (.iload 4, 2) := by decide +kernel
theorem dX7_runs_60 : decode cX7_runs 60 = .ok (.if_icmp .le 8, 3) := by decide +kernel
theorem dX7_runs_63 : decode cX7_runs 63 = .ok (.iload 5, 2) := by decide +kernel
theorem dX7_runs_65 : decode cX7_runs 65 = .ok (.goto 4, 3) := by decide +kernel
theorem dX7_runs_68 : decode cX7_runs 68 = .ok (.iload_n 3, 1) := by decide +kernel
theorem dX7_runs_69 : decode cX7_runs 69 = .ok (.istore_n 3, 1) := by decide +kernel
theorem dX7_runs_70 : decode cX7_runs 70 = .ok (.iinc 5 1, 3) := by decide +kernel
theorem dX7_runs_73 : decode cX7_runs 73 = .ok (.goto (-36), 3) := by decide +kernel
theorem dX7_runs_76 : decode cX7_runs 76 = .ok (.iload_n 2, 1) := by decide +kernel
theorem dX7_runs_77 : decode cX7_runs 77 = .ok (.ifCond .ne 10, 3) := by decide +kernel
theorem dX7_runs_80 : decode cX7_runs 80 = .ok (.aload_n 0, 1) := by decide +kernel
theorem dX7_runs_81 : decode cX7_runs 81 = .ok (.invokevirtual 197, 3) := by decide +kernel
theorem dX7_runs_84 : decode cX7_runs 84 = .ok (.goto 28, 3) := by decide +kernel
theorem dX7_runs_87 : decode cX7_runs 87 = .ok (.iload_n 2, 1) := by decide +kernel
theorem dX7_runs_88 : decode cX7_runs 88 = .ok (.iconst 1, 1) := by decide +kernel
theorem dX7_runs_89 : decode cX7_runs 89 = .ok (.if_icmp .ne 10, 3) := by decide +kernel
theorem dX7_runs_92 : decode cX7_runs 92 = .ok (.aload_n 0, 1) := by decide +kernel
theorem dX7_runs_93 : decode cX7_runs 93 = .ok (.invokevirtual 194, 3) := by decide +kernel
theorem dX7_runs_96 : decode cX7_runs 96 = .ok (.goto 16, 3) := by decide +kernel
theorem dX7_runs_99 : decode cX7_runs 99 = .ok (.iload_n 2, 1) := by decide +kernel
theorem dX7_runs_100 : decode cX7_runs 100 = .ok (.iconst 2, 1) := by decide +kernel
theorem dX7_runs_101 : decode cX7_runs 101 = .ok (.if_icmp .ne 10, 3) := by decide +kernel
theorem dX7_runs_104 : decode cX7_runs 104 = .ok (.aload_n 0, 1) := by decide +kernel
theorem dX7_runs_105 : decode cX7_runs 105 = .ok (.invokevirtual 191, 3) := by decide +kernel
theorem dX7_runs_108 : decode cX7_runs 108 = .ok (.goto 4, 3) := by decide +kernel
theorem dX7_runs_111 : decode cX7_runs 111 = .ok (.iload_n 3, 1) := by decide +kernel
theorem dX7_runs_112 : decode cX7_runs 112 = .ok (.ireturn, 1) := by decide +kernel
def f_X7_runs_L37 (v1 : Int32) (v2 : Int32) (v4 : Int32) (v3 : Int32) (v5 : Int32) (s : St) : Option ((Int32 × Int32 × St) ⊕ (Int32 × St)) := if v1 < v5 then (if ¬ v2 = 0 then (if ¬ v2 = (nI 1) then (if ¬ v2 = (nI 2) then (some (Sum.inr ((v3, s)))) else (cl (f_X7_allIn s) (fun x16 s15 => some (Sum.inr ((x16, s15)))))) else (cl (f_X7_allLost s) (fun x18 s17 => some (Sum.inr ((x18, s17)))))) else (cl (f_X7_allHad s) (fun x20 s19 => some (Sum.inr ((x20, s19)))))) else (cl (f_X7_stepGoes (nI 0) s) (fun x22 s21 => if ¬ v3 = (-4) then (some (Sum.inl (v3, (v5 + (nI 1)), s21))) else (cl (f_X7_allHad s21) (fun x25 s24 => if x25 ≤ v4 then (some (Sum.inl (v3, (v5 + (nI 1)), s24))) else (some (Sum.inl (v5, (v5 + (nI 1)), s24)))))))
def f_X7_runs (a1 : Int32) (a2 : Int32) (s : St) : Option (Int32 × St) := cl (f_X7_isFar a1 s) (fun x2 s1 => if x2 = 0 then (some (((-1), s1))) else (cl (f_X7_within ((a2).toInt64) (lN 0) (lN 3) s1) (fun x5 s4 => if ¬ x5 = 0 then (cl (f_X7_starts s4) (fun x8 s7 => cl (f_X7_allHad s7) (fun x10 s9 => lp (fun q : Int32 × Int32 × St => f_X7_runs_L37 a1 a2 x10 q.1 q.2.1 q.2.2) Fu ((-4), (nI 1), s9)))) else (some (((-1), s4))))))
set_option maxHeartbeats 4000000 in
set_option maxRecDepth 100000 in
theorem e_X7_runs_L37 {X : Cx} {Γ : Gm} {r0 : Rb} (hX : Amb X Γ cX7_runs RX7 6 (some .int) 4) {v1 : Int32} {v2 : Int32} {v4 : Int32} {v3 : Int32} {v5 : Int32} {s : St} {t : (Int32 × Int32 × St) ⊕ (Int32 × St)} (h : f_X7_runs_L37 v1 v2 v4 v3 v5 s = some t) (hk : (Sum.elim (fun q : Int32 × Int32 × St => Zw X Γ 6 r0 q.2.2 37 [(0, .ref (gL Γ (189))), (1, .int v1), (2, .int v2), (3, .int q.1), (4, .int v4), (5, .int q.2.1)] []) (fun t : Int32 × St => Rt X Γ r0 (some (Value.int t.1), t.2))) t) : Zw X Γ 6 r0 s 37 [(0, .ref (gL Γ (189))), (1, .int v1), (2, .int v2), (3, .int v3), (4, .int v4), (5, .int v5)] [] := by
  unfold f_X7_runs_L37 at h
  refine z_iload hX dX7_runs_37 5 rfl 39 rfl ?_
  refine z_iload_n hX dX7_runs_39 1 rfl 40 rfl ?_
  refine z_icmp_gt hX 76 dX7_runs_40 (by decide) 43 rfl (fun c11 => ?_) (fun c11 => ?_)
  · replace h := br_pos h c11
    refine z_iload_n hX dX7_runs_76 2 rfl 77 rfl ?_
    refine z_if_ne hX 87 dX7_runs_77 (by decide) 80 rfl (fun c12 => ?_) (fun c12 => ?_)
    · replace h := br_pos h c12
      refine z_iload_n hX dX7_runs_87 2 rfl 88 rfl ?_
      refine z_iconst hX (v := (nI 1)) dX7_runs_88 rfl 89 rfl ?_
      refine z_icmp_ne hX 99 dX7_runs_89 (by decide) 92 rfl (fun c13 => ?_) (fun c13 => ?_)
      · replace h := br_pos h c13
        refine z_iload_n hX dX7_runs_99 2 rfl 100 rfl ?_
        refine z_iconst hX (v := (nI 2)) dX7_runs_100 rfl 101 rfl ?_
        refine z_icmp_ne hX 111 dX7_runs_101 (by decide) 104 rfl (fun c14 => ?_) (fun c14 => ?_)
        · replace h := br_pos h c14
          refine z_iload_n hX dX7_runs_111 3 rfl 112 rfl ?_
          replace h := Option.some.inj h
          subst h
          exact z_iret hX dX7_runs_112 rfl hk
        · replace h := br_neg h c14
          refine z_aload_n hX dX7_runs_104 0 rfl 105 rfl ?_
          replace h := cl_elim h
          obtain ⟨x16, s15, hx16, h⟩ := h
          refine z_cV7i hX (b := 189) (As := []) (c_X7_allIn hx16) lk_X7_191 rfl kdc_189 ds_X7_allIn rfl (by decide) (by decide) (by decide) dX7_runs_105 rfl 108 rfl ?_
          refine z_goto hX 112 dX7_runs_108 (by decide) ?_
          replace h := Option.some.inj h
          subst h
          exact z_iret hX dX7_runs_112 rfl hk
      · replace h := br_neg h c13
        refine z_aload_n hX dX7_runs_92 0 rfl 93 rfl ?_
        replace h := cl_elim h
        obtain ⟨x18, s17, hx18, h⟩ := h
        refine z_cV7i hX (b := 189) (As := []) (c_X7_allLost hx18) lk_X7_194 rfl kdc_189 ds_X7_allLost rfl (by decide) (by decide) (by decide) dX7_runs_93 rfl 96 rfl ?_
        refine z_goto hX 112 dX7_runs_96 (by decide) ?_
        replace h := Option.some.inj h
        subst h
        exact z_iret hX dX7_runs_112 rfl hk
    · replace h := br_neg h c12
      refine z_aload_n hX dX7_runs_80 0 rfl 81 rfl ?_
      replace h := cl_elim h
      obtain ⟨x20, s19, hx20, h⟩ := h
      refine z_cV7i hX (b := 189) (As := []) (c_X7_allHad hx20) lk_X7_197 rfl kdc_189 ds_X7_allHad rfl (by decide) (by decide) (by decide) dX7_runs_81 rfl 84 rfl ?_
      refine z_goto hX 112 dX7_runs_84 (by decide) ?_
      replace h := Option.some.inj h
      subst h
      exact z_iret hX dX7_runs_112 rfl hk
  · replace h := br_neg h c11
    refine z_aload_n hX dX7_runs_43 0 rfl 44 rfl ?_
    refine z_iconst hX (v := (nI 0)) dX7_runs_44 rfl 45 rfl ?_
    replace h := cl_elim h
    obtain ⟨x22, s21, hx22, h⟩ := h
    refine z_cV7v hX (b := 189) (As := [.int ((nI 0))]) (c_X7_stepGoes hx22) lk_X7_178 rfl kdc_189 ds_X7_stepGoes rfl (by decide) (by decide) (by decide) dX7_runs_45 rfl 48 rfl ?_
    refine z_iload_n hX dX7_runs_48 3 rfl 49 rfl ?_
    refine z_bipush hX (v := (-4)) dX7_runs_49 (by decide) 51 rfl ?_
    refine z_icmp_ne hX 68 dX7_runs_51 (by decide) 54 rfl (fun c23 => ?_) (fun c23 => ?_)
    · replace h := br_pos h c23
      refine z_iload_n hX dX7_runs_68 3 rfl 69 rfl ?_
      refine z_istore_n hX (lv2 := [(3, .int v3), (0, .ref (gL Γ (189))), (1, .int v1), (2, .int v2), (4, .int v4), (5, .int v5)]) dX7_runs_69 (by decide) rfl 70 rfl ?_
      refine z_iinc hX (v := (v5 + (nI 1))) (lv2 := [(5, .int ((v5 + (nI 1)))), (3, .int v3), (0, .ref (gL Γ (189))), (1, .int v1), (2, .int v2), (4, .int v4)]) dX7_runs_70 5 rfl rfl (by decide) rfl 73 rfl ?_
      refine z_goto hX 37 dX7_runs_73 (by decide) ?_
      replace h := Option.some.inj h
      subst h
      exact z_sub [2, 3, 4, 1, 5, 0] rfl hk
    · replace h := br_neg h c23
      refine z_aload_n hX dX7_runs_54 0 rfl 55 rfl ?_
      replace h := cl_elim h
      obtain ⟨x25, s24, hx25, h⟩ := h
      refine z_cV7i hX (b := 189) (As := []) (c_X7_allHad hx25) lk_X7_197 rfl kdc_189 ds_X7_allHad rfl (by decide) (by decide) (by decide) dX7_runs_55 rfl 58 rfl ?_
      refine z_iload hX dX7_runs_58 4 rfl 60 rfl ?_
      refine z_icmp_le hX 68 dX7_runs_60 (by decide) 63 rfl (fun c26 => ?_) (fun c26 => ?_)
      · replace h := br_pos h c26
        refine z_iload_n hX dX7_runs_68 3 rfl 69 rfl ?_
        refine z_istore_n hX (lv2 := [(3, .int v3), (0, .ref (gL Γ (189))), (1, .int v1), (2, .int v2), (4, .int v4), (5, .int v5)]) dX7_runs_69 (by decide) rfl 70 rfl ?_
        refine z_iinc hX (v := (v5 + (nI 1))) (lv2 := [(5, .int ((v5 + (nI 1)))), (3, .int v3), (0, .ref (gL Γ (189))), (1, .int v1), (2, .int v2), (4, .int v4)]) dX7_runs_70 5 rfl rfl (by decide) rfl 73 rfl ?_
        refine z_goto hX 37 dX7_runs_73 (by decide) ?_
        replace h := Option.some.inj h
        subst h
        exact z_sub [2, 3, 4, 1, 5, 0] rfl hk
      · replace h := br_neg h c26
        refine z_iload hX dX7_runs_63 5 rfl 65 rfl ?_
        refine z_goto hX 69 dX7_runs_65 (by decide) ?_
        refine z_istore_n hX (lv2 := [(3, .int v5), (0, .ref (gL Γ (189))), (1, .int v1), (2, .int v2), (4, .int v4), (5, .int v5)]) dX7_runs_69 (by decide) rfl 70 rfl ?_
        refine z_iinc hX (v := (v5 + (nI 1))) (lv2 := [(5, .int ((v5 + (nI 1)))), (3, .int v5), (0, .ref (gL Γ (189))), (1, .int v1), (2, .int v2), (4, .int v4)]) dX7_runs_70 5 rfl rfl (by decide) rfl 73 rfl ?_
        refine z_goto hX 37 dX7_runs_73 (by decide) ?_
        replace h := Option.some.inj h
        subst h
        exact z_sub [2, 3, 4, 1, 5, 0] rfl hk
set_option maxHeartbeats 4000000 in
set_option maxRecDepth 100000 in
theorem e_X7_runs {X : Cx} {Γ : Gm} {r0 : Rb} (hX : Amb X Γ cX7_runs RX7 6 (some .int) 4) {a1 : Int32} {a2 : Int32} {s : St} {t : Int32 × St} (h : f_X7_runs a1 a2 s = some t) (hk : (fun t : Int32 × St => Rt X Γ r0 (some (Value.int t.1), t.2)) t) : Zw X Γ 6 r0 s 0 [(0, .ref (gL Γ (189))), (1, .int a1), (2, .int a2)] [] := by
  unfold f_X7_runs at h
  refine z_iload_n hX dX7_runs_0 1 rfl 1 rfl ?_
  replace h := cl_elim h
  obtain ⟨x2, s1, hx2, h⟩ := h
  refine z_cSi hX (As := [.int a1]) (c_X7_isFar hx2) lk_X7_238 ds_X7_isFar rfl (by decide) (by decide) (by decide) dX7_runs_1 rfl 4 rfl ?_
  refine z_if_eq hX 19 dX7_runs_4 (by decide) 7 rfl (fun c3 => ?_) (fun c3 => ?_)
  · replace h := br_pos h c3
    refine z_iconst hX (v := (-1)) dX7_runs_19 rfl 20 rfl ?_
    replace h := Option.some.inj h
    subst h
    exact z_iret hX dX7_runs_20 rfl hk
  · replace h := br_neg h c3
    refine z_iload_n hX dX7_runs_7 2 rfl 8 rfl ?_
    refine z_i2l hX dX7_runs_8 9 rfl ?_
    refine z_lconst hX (v := (lN 0)) dX7_runs_9 rfl 10 rfl ?_
    refine z_ldc2 hX (v := (lN 3)) dX7_runs_10 ml_X7_161 13 rfl ?_
    replace h := cl_elim h
    obtain ⟨x5, s4, hx5, h⟩ := h
    refine z_cSi hX (As := [.long ((a2).toInt64), .long ((lN 0)), .long ((lN 3))]) (c_X7_within hx5) lk_X7_52 ds_X7_within rfl (by decide) (by decide) (by decide) dX7_runs_13 rfl 16 rfl ?_
    refine z_if_ne hX 21 dX7_runs_16 (by decide) 19 rfl (fun c6 => ?_) (fun c6 => ?_)
    · replace h := br_pos h c6
      refine z_bipush hX (v := (-4)) dX7_runs_21 (by decide) 23 rfl ?_
      refine z_istore_n hX (lv2 := [(3, .int ((-4))), (0, .ref (gL Γ (189))), (1, .int a1), (2, .int a2)]) dX7_runs_23 (by decide) rfl 24 rfl ?_
      refine z_aload_n hX dX7_runs_24 1 rfl 25 rfl ?_
      replace h := cl_elim h
      obtain ⟨x8, s7, hx8, h⟩ := h
      refine z_cV7v hX (b := 189) (As := []) (c_X7_starts hx8) lk_X7_188 rfl kdc_189 ds_X7_starts rfl (by decide) (by decide) (by decide) dX7_runs_25 rfl 28 rfl ?_
      refine z_aload_n hX dX7_runs_28 1 rfl 29 rfl ?_
      replace h := cl_elim h
      obtain ⟨x10, s9, hx10, h⟩ := h
      refine z_cV7i hX (b := 189) (As := []) (c_X7_allHad hx10) lk_X7_197 rfl kdc_189 ds_X7_allHad rfl (by decide) (by decide) (by decide) dX7_runs_29 rfl 32 rfl ?_
      refine z_istore hX (lv2 := [(4, .int x10), (3, .int ((-4))), (0, .ref (gL Γ (189))), (1, .int a1), (2, .int a2)]) dX7_runs_32 (by decide) rfl 34 rfl ?_
      refine z_iconst hX (v := (nI 1)) dX7_runs_34 rfl 35 rfl ?_
      refine z_istore hX (lv2 := [(5, .int ((nI 1))), (4, .int x10), (3, .int ((-4))), (0, .ref (gL Γ (189))), (1, .int a1), (2, .int a2)]) dX7_runs_35 (by decide) rfl 37 rfl ?_
      exact z_sub [3, 4, 5, 2, 1, 0] rfl (lp_ok (Z := fun q : Int32 × Int32 × St => Zw X Γ 6 r0 q.2.2 37 [(0, .ref (gL Γ (189))), (1, .int a1), (2, .int a2), (3, .int q.1), (4, .int x10), (5, .int q.2.1)] []) (fun q t h hk => e_X7_runs_L37 hX h hk) Fu _ _ h hk)
    · replace h := br_neg h c6
      refine z_iconst hX (v := (-1)) dX7_runs_19 rfl 20 rfl ?_
      replace h := Option.some.inj h
      subst h
      exact z_iret hX dX7_runs_20 rfl hk
theorem c_X7_runs {lc : Launch} {Γ : Gm} {a1 : Int32} {a2 : Int32} {s s2 : St} {v : Int32} (h : f_X7_runs a1 a2 s = some (v, s2)) : Ct lc Γ yX7_runs cX7_runs 6 (some .int) 4 [.ref (gL Γ (189)), .int a1, .int a2] s (some (.int v), s2) := Ct.of (by decide +kernel) (Nat.le_of_ble_eq_true rfl) (fun X hl hX => e_X7_runs hX h rfl)
theorem dX7_ahead_0 : decode cX7_ahead 0 = .ok (.aload_n 0, 1) := by decide +kernel
theorem dX7_ahead_1 : decode cX7_ahead 1 = .ok (.iload_n 1, 1) := by decide +kernel
theorem dX7_ahead_2 : decode cX7_ahead 2 = .ok (.invokevirtual 209, 3) := by decide +kernel
theorem dX7_ahead_5 : decode cX7_ahead 5 = .ok (.ifCond .eq 18, 3) := by decide +kernel
theorem dX7_ahead_8 : decode cX7_ahead 8 = .ok (.aload_n 0, 1) := by decide +kernel
theorem dX7_ahead_9 : decode cX7_ahead 9 = .ok (.iload_n 2, 1) := by decide +kernel
theorem dX7_ahead_10 : decode cX7_ahead 10 = .ok (.invokevirtual 203, 3) := by decide +kernel
theorem dX7_ahead_13 : decode cX7_ahead 13 = .ok (.ifCond .eq 10, 3) := by decide +kernel
theorem dX7_ahead_16 : decode cX7_ahead 16 = .ok (.iload_n 3, 1) := by decide +kernel
theorem dX7_ahead_17 : decode cX7_ahead 17 = .ok (.invokestatic 238, 3) := by decide +kernel
theorem dX7_ahead_20 : decode cX7_ahead 20 = .ok (.ifCond .ne 5, 3) := by decide +kernel
theorem dX7_ahead_23 : decode cX7_ahead 23 = .ok (.iconst (-1), 1) := by decide +kernel
theorem dX7_ahead_24 : decode cX7_ahead 24 = .ok (.ireturn, 1) := by decide +kernel
theorem dX7_ahead_25 : decode cX7_ahead 25 = .ok (.aload_n 0, 1) := by decide +kernel
theorem dX7_ahead_26 : decode cX7_ahead 26 = .ok (.invokevirtual 188, 3) := by decide +kernel
theorem dX7_ahead_29 : decode cX7_ahead 29 = .ok (.aload_n 0, 1) := by decide +kernel
theorem dX7_ahead_30 : decode cX7_ahead 30 = .ok (.iload_n 3, 1) := by decide +kernel
theorem dX7_ahead_31 : decode cX7_ahead 31 = .ok (.invokevirtual 230, 3) := by decide +kernel
theorem dX7_ahead_34 : decode cX7_ahead 34 = .ok (.aload_n 0, 1) := by decide +kernel
theorem dX7_ahead_35 : decode cX7_ahead 35 = .ok (.getfield 13, 3) := by decide +kernel
theorem dX7_ahead_38 : decode cX7_ahead 38 = .ok (.bipush 20, 2) := by decide +kernel
theorem dX7_ahead_40 : decode cX7_ahead 40 = .ok (.iconst 3, 1) := by decide +kernel
theorem dX7_ahead_41 : decode cX7_ahead 41 = .ok (.iload_n 1, 1) := by decide +kernel
theorem dX7_ahead_42 : decode cX7_ahead 42 = .ok (.imul, 1) := by decide +kernel
theorem dX7_ahead_43 : decode cX7_ahead 43 = .ok (.iadd, 1) := by decide +kernel
theorem dX7_ahead_44 : decode cX7_ahead 44 = .ok (.iload_n 2, 1) := by decide +kernel
theorem dX7_ahead_45 : decode cX7_ahead 45 = .ok (.iadd, 1) := by decide +kernel
theorem dX7_ahead_46 : decode cX7_ahead 46 = .ok (.iaload, 1) := by decide +kernel
theorem dX7_ahead_47 : decode cX7_ahead 47 = .ok (.ireturn, 1) := by decide +kernel
def f_X7_ahead (a1 : Int32) (a2 : Int32) (a3 : Int32) (s : St) : Option (Int32 × St) := cl (f_X7_isSitter a1 s) (fun x2 s1 => if x2 = 0 then (some (((-1), s1))) else (cl (f_X7_isLife a2 s1) (fun x5 s4 => if x5 = 0 then (some (((-1), s4))) else (cl (f_X7_isFar a3 s4) (fun x8 s7 => if ¬ x8 = 0 then (cl (f_X7_starts s7) (fun x11 s10 => cl (f_X7_stepsGo a3 s10) (fun x13 s12 => if inb (((nI 20) + ((nI 3) * a1)) + a2) (lnI 191) = true then some (((s12.1 191 ((((nI 20) + ((nI 3) * a1)) + a2)).toNatClampNeg), s12)) else none))) else (some (((-1), s7))))))))
set_option maxHeartbeats 4000000 in
set_option maxRecDepth 100000 in
theorem e_X7_ahead {X : Cx} {Γ : Gm} {r0 : Rb} (hX : Amb X Γ cX7_ahead RX7 4 (some .int) 5) {a1 : Int32} {a2 : Int32} {a3 : Int32} {s : St} {t : Int32 × St} (h : f_X7_ahead a1 a2 a3 s = some t) (hk : (fun t : Int32 × St => Rt X Γ r0 (some (Value.int t.1), t.2)) t) : Zw X Γ 4 r0 s 0 [(0, .ref (gL Γ (189))), (1, .int a1), (2, .int a2), (3, .int a3)] [] := by
  unfold f_X7_ahead at h
  refine z_aload_n hX dX7_ahead_0 0 rfl 1 rfl ?_
  refine z_iload_n hX dX7_ahead_1 1 rfl 2 rfl ?_
  replace h := cl_elim h
  obtain ⟨x2, s1, hx2, h⟩ := h
  refine z_cV7i hX (b := 189) (As := [.int a1]) (c_X7_isSitter hx2) lk_X7_209 rfl kdc_189 ds_X7_isSitter rfl (by decide) (by decide) (by decide) dX7_ahead_2 rfl 5 rfl ?_
  refine z_if_eq hX 23 dX7_ahead_5 (by decide) 8 rfl (fun c3 => ?_) (fun c3 => ?_)
  · replace h := br_pos h c3
    refine z_iconst hX (v := (-1)) dX7_ahead_23 rfl 24 rfl ?_
    replace h := Option.some.inj h
    subst h
    exact z_iret hX dX7_ahead_24 rfl hk
  · replace h := br_neg h c3
    refine z_aload_n hX dX7_ahead_8 0 rfl 9 rfl ?_
    refine z_iload_n hX dX7_ahead_9 2 rfl 10 rfl ?_
    replace h := cl_elim h
    obtain ⟨x5, s4, hx5, h⟩ := h
    refine z_cV7i hX (b := 189) (As := [.int a2]) (c_X7_isLife hx5) lk_X7_203 rfl kdc_189 ds_X7_isLife rfl (by decide) (by decide) (by decide) dX7_ahead_10 rfl 13 rfl ?_
    refine z_if_eq hX 23 dX7_ahead_13 (by decide) 16 rfl (fun c6 => ?_) (fun c6 => ?_)
    · replace h := br_pos h c6
      refine z_iconst hX (v := (-1)) dX7_ahead_23 rfl 24 rfl ?_
      replace h := Option.some.inj h
      subst h
      exact z_iret hX dX7_ahead_24 rfl hk
    · replace h := br_neg h c6
      refine z_iload_n hX dX7_ahead_16 3 rfl 17 rfl ?_
      replace h := cl_elim h
      obtain ⟨x8, s7, hx8, h⟩ := h
      refine z_cSi hX (As := [.int a3]) (c_X7_isFar hx8) lk_X7_238 ds_X7_isFar rfl (by decide) (by decide) (by decide) dX7_ahead_17 rfl 20 rfl ?_
      refine z_if_ne hX 25 dX7_ahead_20 (by decide) 23 rfl (fun c9 => ?_) (fun c9 => ?_)
      · replace h := br_pos h c9
        refine z_aload_n hX dX7_ahead_25 0 rfl 26 rfl ?_
        replace h := cl_elim h
        obtain ⟨x11, s10, hx11, h⟩ := h
        refine z_cV7v hX (b := 189) (As := []) (c_X7_starts hx11) lk_X7_188 rfl kdc_189 ds_X7_starts rfl (by decide) (by decide) (by decide) dX7_ahead_26 rfl 29 rfl ?_
        refine z_aload_n hX dX7_ahead_29 0 rfl 30 rfl ?_
        refine z_iload_n hX dX7_ahead_30 3 rfl 31 rfl ?_
        replace h := cl_elim h
        obtain ⟨x13, s12, hx13, h⟩ := h
        refine z_cV7v hX (b := 189) (As := [.int a3]) (c_X7_stepsGo hx13) lk_X7_230 rfl kdc_189 ds_X7_stepsGo rfl (by decide) (by decide) (by decide) dX7_ahead_31 rfl 34 rfl ?_
        refine z_aload_n hX dX7_ahead_34 0 rfl 35 rfl ?_
        refine z_get7 hX (k := 189) (j := 1) (v := .ref (gL Γ (191))) kdc_189 (by decide) rfl dX7_ahead_35 fl_X7_13 38 rfl ?_
        refine z_bipush hX (v := (nI 20)) dX7_ahead_38 (by decide) 40 rfl ?_
        refine z_iconst hX (v := (nI 3)) dX7_ahead_40 rfl 41 rfl ?_
        refine z_iload_n hX dX7_ahead_41 1 rfl 42 rfl ?_
        refine z_imul hX dX7_ahead_42 43 rfl ?_
        refine z_iadd hX dX7_ahead_43 44 rfl ?_
        refine z_iload_n hX dX7_ahead_44 2 rfl 45 rfl ?_
        refine z_iadd hX dX7_ahead_45 46 rfl ?_
        replace h := gd_elim h
        obtain ⟨g14, h⟩ := h
        refine z_iald hX (inb_vp g14) dX7_ahead_46 47 rfl ?_
        replace h := Option.some.inj h
        subst h
        exact z_iret hX dX7_ahead_47 rfl hk
      · replace h := br_neg h c9
        refine z_iconst hX (v := (-1)) dX7_ahead_23 rfl 24 rfl ?_
        replace h := Option.some.inj h
        subst h
        exact z_iret hX dX7_ahead_24 rfl hk
theorem c_X7_ahead {lc : Launch} {Γ : Gm} {a1 : Int32} {a2 : Int32} {a3 : Int32} {s s2 : St} {v : Int32} (h : f_X7_ahead a1 a2 a3 s = some (v, s2)) : Ct lc Γ yX7_ahead cX7_ahead 4 (some .int) 5 [.ref (gL Γ (189)), .int a1, .int a2, .int a3] s (some (.int v), s2) := Ct.of (by decide +kernel) (Nat.le_of_ble_eq_true rfl) (fun X hl hX => e_X7_ahead hX h rfl)

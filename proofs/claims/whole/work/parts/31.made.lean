theorem ob_i : Cond.instanceMethod Lib.objectInit ∈ gt := gt_mem (tm1 (List.mem_of_getElem? (i := 22) rfl)) rfl
theorem ob_c : Cond.code Lib.objectInit ⟨#[0xb1]⟩ 1 none ∈ gt := gt_mem (tm1 (List.mem_of_getElem? (i := 23) rfl)) rfl
theorem ob_X2 : Cond.methodLink RX2 3 Lib.objectInit ∈ gt := gt_mem (tm1 (List.mem_of_getElem? (i := 29) rfl)) rfl
theorem fc_X2_9 : Cond.fieldLink RX2 9 (TX2 0).1 (TX2 0).2.1 (TX2 0).2.2.1 ∈ gt := gt_mem (tm1 (List.mem_of_getElem? (i := 30) rfl)) rfl
theorem fc_X2_15 : Cond.fieldLink RX2 15 (TX2 1).1 (TX2 1).2.1 (TX2 1).2.2.1 ∈ gt := gt_mem (tm1 (List.mem_of_getElem? (i := 33) rfl)) rfl
theorem fc_X2_18 : Cond.fieldLink RX2 18 (TX2 2).1 (TX2 2).2.1 (TX2 2).2.2.1 ∈ gt := gt_mem (tm1 (List.mem_of_getElem? (i := 36) rfl)) rfl
theorem ac_9 : Cond.arrayClass .int ∈ gt := gt_mem (tm1 (List.mem_of_getElem? (i := 101) rfl)) rfl
theorem fc_X2_21 : Cond.fieldLink RX2 21 (TX2 3).1 (TX2 3).2.1 (TX2 3).2.2.1 ∈ gt := gt_mem (tm1 (List.mem_of_getElem? (i := 39) rfl)) rfl
theorem fc_X2_25 : Cond.fieldLink RX2 25 (TX2 4).1 (TX2 4).2.1 (TX2 4).2.2.1 ∈ gt := gt_mem (tm1 (List.mem_of_getElem? (i := 42) rfl)) rfl
theorem fc_X2_28 : Cond.fieldLink RX2 28 (TX2 5).1 (TX2 5).2.1 (TX2 5).2.2.1 ∈ gt := gt_mem (tm1 (List.mem_of_getElem? (i := 45) rfl)) rfl
theorem fc_X2_31 : Cond.fieldLink RX2 31 (TX2 6).1 (TX2 6).2.1 (TX2 6).2.2.1 ∈ gt := gt_mem (tm1 (List.mem_of_getElem? (i := 48) rfl)) rfl
theorem fc_X2_34 : Cond.fieldLink RX2 34 (TX2 7).1 (TX2 7).2.1 (TX2 7).2.2.1 ∈ gt := gt_mem (tm1 (List.mem_of_getElem? (i := 51) rfl)) rfl
theorem fc_X2_37 : Cond.fieldLink RX2 37 (TX2 8).1 (TX2 8).2.1 (TX2 8).2.2.1 ∈ gt := gt_mem (tm1 (List.mem_of_getElem? (i := 53) rfl)) rfl
theorem fc_X2_40 : Cond.fieldLink RX2 40 (TX2 9).1 (TX2 9).2.1 (TX2 9).2.2.1 ∈ gt := gt_mem (tm1 (List.mem_of_getElem? (i := 55) rfl)) rfl
theorem fc_X2_43 : Cond.fieldLink RX2 43 (TX2 10).1 (TX2 10).2.1 (TX2 10).2.2.1 ∈ gt := gt_mem (tm1 (List.mem_of_getElem? (i := 57) rfl)) rfl
theorem fc_X2_46 : Cond.fieldLink RX2 46 (TX2 11).1 (TX2 11).2.1 (TX2 11).2.2.1 ∈ gt := gt_mem (tm1 (List.mem_of_getElem? (i := 60) rfl)) rfl
theorem fc_X2_49 : Cond.fieldLink RX2 49 (TX2 12).1 (TX2 12).2.1 (TX2 12).2.2.1 ∈ gt := gt_mem (tm1 (List.mem_of_getElem? (i := 63) rfl)) rfl
theorem fc_X2_52 : Cond.fieldLink RX2 52 (TX2 13).1 (TX2 13).2.1 (TX2 13).2.2.1 ∈ gt := gt_mem (tm1 (List.mem_of_getElem? (i := 64) rfl)) rfl
theorem fc_X2_55 : Cond.fieldLink RX2 55 (TX2 14).1 (TX2 14).2.1 (TX2 14).2.2.1 ∈ gt := gt_mem (tm1 (List.mem_of_getElem? (i := 67) rfl)) rfl
theorem ob_X3 : Cond.methodLink RX3 3 Lib.objectInit ∈ gt := gt_mem (tm1 (List.mem_of_getElem? (i := 107) rfl)) rfl
theorem fc_X3_9 : Cond.fieldLink RX3 9 (TX3 0).1 (TX3 0).2.1 (TX3 0).2.2.1 ∈ gt := gt_mem (tm1 (List.mem_of_getElem? (i := 108) rfl)) rfl
theorem fc_X3_15 : Cond.fieldLink RX3 15 (TX3 1).1 (TX3 1).2.1 (TX3 1).2.2.1 ∈ gt := gt_mem (tm1 (List.mem_of_getElem? (i := 110) rfl)) rfl
theorem fc_X3_19 : Cond.fieldLink RX3 19 (TX3 2).1 (TX3 2).2.1 (TX3 2).2.2.1 ∈ gt := gt_mem (tm1 (List.mem_of_getElem? (i := 111) rfl)) rfl
theorem fc_X3_22 : Cond.fieldLink RX3 22 (TX3 3).1 (TX3 3).2.1 (TX3 3).2.2.1 ∈ gt := gt_mem (tm1 (List.mem_of_getElem? (i := 112) rfl)) rfl
theorem fc_X3_25 : Cond.fieldLink RX3 25 (TX3 4).1 (TX3 4).2.1 (TX3 4).2.2.1 ∈ gt := gt_mem (tm1 (List.mem_of_getElem? (i := 113) rfl)) rfl
theorem ob_X4 : Cond.methodLink RX4 3 Lib.objectInit ∈ gt := gt_mem (tm1 (List.mem_of_getElem? (i := 223) rfl)) rfl
theorem fc_X4_11 : Cond.fieldLink RX4 11 (TX4 0).1 (TX4 0).2.1 (TX4 0).2.2.1 ∈ gt := gt_mem (tm1 (List.mem_of_getElem? (i := 224) rfl)) rfl
theorem fc_X4_15 : Cond.fieldLink RX4 15 (TX4 1).1 (TX4 1).2.1 (TX4 1).2.2.1 ∈ gt := gt_mem (tm1 (List.mem_of_getElem? (i := 226) rfl)) rfl
theorem fc_X4_18 : Cond.fieldLink RX4 18 (TX4 2).1 (TX4 2).2.1 (TX4 2).2.2.1 ∈ gt := gt_mem (tm1 (List.mem_of_getElem? (i := 228) rfl)) rfl
theorem ob_X5 : Cond.methodLink RX5 3 Lib.objectInit ∈ gt := gt_mem (tm1 (List.mem_of_getElem? (i := 132) rfl)) rfl
theorem ac_8 : Cond.arrayClass .byte ∈ gt := gt_mem (tm1 (List.mem_of_getElem? (i := 161) rfl)) rfl
theorem fc_X5_9 : Cond.fieldLink RX5 9 (TX5 0).1 (TX5 0).2.1 (TX5 0).2.2.1 ∈ gt := gt_mem (tm1 (List.mem_of_getElem? (i := 133) rfl)) rfl
theorem fc_X5_15 : Cond.fieldLink RX5 15 (TX5 1).1 (TX5 1).2.1 (TX5 1).2.2.1 ∈ gt := gt_mem (tm1 (List.mem_of_getElem? (i := 134) rfl)) rfl
theorem fc_X5_19 : Cond.fieldLink RX5 19 (TX5 2).1 (TX5 2).2.1 (TX5 2).2.2.1 ∈ gt := gt_mem (tm1 (List.mem_of_getElem? (i := 136) rfl)) rfl
theorem fc_X5_22 : Cond.fieldLink RX5 22 (TX5 3).1 (TX5 3).2.1 (TX5 3).2.2.1 ∈ gt := gt_mem (tm1 (List.mem_of_getElem? (i := 138) rfl)) rfl
theorem fc_X5_25 : Cond.fieldLink RX5 25 (TX5 4).1 (TX5 4).2.1 (TX5 4).2.2.1 ∈ gt := gt_mem (tm1 (List.mem_of_getElem? (i := 140) rfl)) rfl
theorem fc_X5_28 : Cond.fieldLink RX5 28 (TX5 5).1 (TX5 5).2.1 (TX5 5).2.2.1 ∈ gt := gt_mem (tm1 (List.mem_of_getElem? (i := 141) rfl)) rfl
theorem fc_X5_31 : Cond.fieldLink RX5 31 (TX5 6).1 (TX5 6).2.1 (TX5 6).2.2.1 ∈ gt := gt_mem (tm1 (List.mem_of_getElem? (i := 142) rfl)) rfl
theorem fc_X5_34 : Cond.fieldLink RX5 34 (TX5 7).1 (TX5 7).2.1 (TX5 7).2.2.1 ∈ gt := gt_mem (tm1 (List.mem_of_getElem? (i := 143) rfl)) rfl
theorem ob_X1 : Cond.methodLink RX1 3 Lib.objectInit ∈ gt := gt_mem (tm1 (List.mem_of_getElem? (i := 169) rfl)) rfl
theorem cl_X1_9 : Cond.classLink RX1 9 RX2 ∈ gt := gt_mem (tm1 (List.mem_of_getElem? (i := 170) rfl)) rfl
theorem fc_X1_11 : Cond.fieldLink RX1 11 (TX1 0).1 (TX1 0).2.1 (TX1 0).2.2.1 ∈ gt := gt_mem (tm1 (List.mem_of_getElem? (i := 173) rfl)) rfl
theorem fc_X1_17 : Cond.fieldLink RX1 17 (TX1 1).1 (TX1 1).2.1 (TX1 1).2.2.1 ∈ gt := gt_mem (tm1 (List.mem_of_getElem? (i := 174) rfl)) rfl
theorem fc_X1_21 : Cond.fieldLink RX1 21 (TX1 2).1 (TX1 2).2.1 (TX1 2).2.2.1 ∈ gt := gt_mem (tm1 (List.mem_of_getElem? (i := 175) rfl)) rfl
theorem fc_X1_24 : Cond.fieldLink RX1 24 (TX1 3).1 (TX1 3).2.1 (TX1 3).2.2.1 ∈ gt := gt_mem (tm1 (List.mem_of_getElem? (i := 176) rfl)) rfl
theorem fc_X1_27 : Cond.fieldLink RX1 27 (TX1 4).1 (TX1 4).2.1 (TX1 4).2.2.1 ∈ gt := gt_mem (tm1 (List.mem_of_getElem? (i := 177) rfl)) rfl
theorem fc_X1_31 : Cond.fieldLink RX1 31 (TX1 5).1 (TX1 5).2.1 (TX1 5).2.2.1 ∈ gt := gt_mem (tm1 (List.mem_of_getElem? (i := 178) rfl)) rfl
theorem fc_X1_35 : Cond.fieldLink RX1 35 (TX1 6).1 (TX1 6).2.1 (TX1 6).2.2.1 ∈ gt := gt_mem (tm1 (List.mem_of_getElem? (i := 180) rfl)) rfl
theorem is_2 : Cond.instantiable RX2 15 ∈ gt := gt_mem (tm1 (List.mem_of_getElem? (i := 25) rfl)) rfl
theorem ii_2 : Cond.initialized RX2 ∈ gt := gt_mem (tm1 (List.mem_of_getElem? (i := 2) rfl)) rfl
theorem li_X1_38 : LkI RX1 38 yX2_init cX2_init 1 := ⟨Or.inl (List.mem_filter.mpr ⟨tm1 (List.mem_of_getElem? (i := 172) rfl), rfl⟩), gt_mem (tm1 (List.mem_of_getElem? (i := 27) rfl)) rfl, gt_mem (tm1 (List.mem_of_getElem? (i := 2) rfl)) rfl, gt_mem (tm1 (List.mem_of_getElem? (i := 28) rfl)) rfl⟩
theorem di_X2_init : Ds yX2_init 0 := ⟨by decide +kernel, by decide +kernel, by decide +kernel⟩
theorem ob_X0 : Cond.methodLink RX0 1 Lib.objectInit ∈ gt := gt_mem (tm1 (List.mem_of_getElem? (i := 201) rfl)) rfl
theorem fc_X0_7 : Cond.fieldLink RX0 7 (TX0 0).1 (TX0 0).2.1 (TX0 0).2.2.1 ∈ gt := gt_mem (tm1 (List.mem_of_getElem? (i := 206) rfl)) rfl
theorem cl_X0_13 : Cond.classLink RX0 13 RX2 ∈ gt := gt_mem (tm1 (List.mem_of_getElem? (i := 202) rfl)) rfl
theorem li_X0_15 : LkI RX0 15 yX2_init cX2_init 1 := ⟨Or.inl (List.mem_filter.mpr ⟨tm1 (List.mem_of_getElem? (i := 203) rfl), rfl⟩), gt_mem (tm1 (List.mem_of_getElem? (i := 27) rfl)) rfl, gt_mem (tm1 (List.mem_of_getElem? (i := 2) rfl)) rfl, gt_mem (tm1 (List.mem_of_getElem? (i := 28) rfl)) rfl⟩
theorem fc_X0_16 : Cond.fieldLink RX0 16 (TX0 1).1 (TX0 1).2.1 (TX0 1).2.2.1 ∈ gt := gt_mem (tm1 (List.mem_of_getElem? (i := 208) rfl)) rfl
theorem cl_X0_20 : Cond.classLink RX0 20 RX3 ∈ gt := gt_mem (tm1 (List.mem_of_getElem? (i := 204) rfl)) rfl
theorem is_3 : Cond.instantiable RX3 5 ∈ gt := gt_mem (tm1 (List.mem_of_getElem? (i := 103) rfl)) rfl
theorem ii_3 : Cond.initialized RX3 ∈ gt := gt_mem (tm1 (List.mem_of_getElem? (i := 3) rfl)) rfl
theorem li_X0_22 : LkI RX0 22 yX3_init cX3_init 1 := ⟨Or.inl (List.mem_filter.mpr ⟨tm1 (List.mem_of_getElem? (i := 205) rfl), rfl⟩), gt_mem (tm1 (List.mem_of_getElem? (i := 105) rfl)) rfl, gt_mem (tm1 (List.mem_of_getElem? (i := 3) rfl)) rfl, gt_mem (tm1 (List.mem_of_getElem? (i := 106) rfl)) rfl⟩
theorem di_X3_init : Ds yX3_init 0 := ⟨by decide +kernel, by decide +kernel, by decide +kernel⟩
theorem fc_X0_23 : Cond.fieldLink RX0 23 (TX0 2).1 (TX0 2).2.1 (TX0 2).2.2.1 ∈ gt := gt_mem (tm1 (List.mem_of_getElem? (i := 210) rfl)) rfl
theorem ob_X6 : Cond.methodLink RX6 1 Lib.objectInit ∈ gt := gt_mem (tm1 (List.mem_of_getElem? (i := 21) rfl)) rfl
theorem cl_X6_7 : Cond.classLink RX6 7 RX2 ∈ gt := gt_mem (tm1 (List.mem_of_getElem? (i := 24) rfl)) rfl
theorem li_X6_9 : LkI RX6 9 yX2_init cX2_init 1 := ⟨Or.inl (List.mem_filter.mpr ⟨tm1 (List.mem_of_getElem? (i := 26) rfl), rfl⟩), gt_mem (tm1 (List.mem_of_getElem? (i := 27) rfl)) rfl, gt_mem (tm1 (List.mem_of_getElem? (i := 2) rfl)) rfl, gt_mem (tm1 (List.mem_of_getElem? (i := 28) rfl)) rfl⟩
theorem fc_X6_10 : Cond.fieldLink RX6 10 (TX6 0).1 (TX6 0).2.1 (TX6 0).2.2.1 ∈ gt := gt_mem (tm1 (List.mem_of_getElem? (i := 237) rfl)) rfl
theorem fc_X6_16 : Cond.fieldLink RX6 16 (TX6 1).1 (TX6 1).2.1 (TX6 1).2.2.1 ∈ gt := gt_mem (tm1 (List.mem_of_getElem? (i := 238) rfl)) rfl
theorem cl_X6_19 : Cond.classLink RX6 19 RX3 ∈ gt := gt_mem (tm1 (List.mem_of_getElem? (i := 102) rfl)) rfl
theorem li_X6_21 : LkI RX6 21 yX3_init cX3_init 1 := ⟨Or.inl (List.mem_filter.mpr ⟨tm1 (List.mem_of_getElem? (i := 104) rfl), rfl⟩), gt_mem (tm1 (List.mem_of_getElem? (i := 105) rfl)) rfl, gt_mem (tm1 (List.mem_of_getElem? (i := 3) rfl)) rfl, gt_mem (tm1 (List.mem_of_getElem? (i := 106) rfl)) rfl⟩
theorem fc_X6_22 : Cond.fieldLink RX6 22 (TX6 2).1 (TX6 2).2.1 (TX6 2).2.2.1 ∈ gt := gt_mem (tm1 (List.mem_of_getElem? (i := 239) rfl)) rfl
theorem cl_X6_26 : Cond.classLink RX6 26 RX0 ∈ gt := gt_mem (tm1 (List.mem_of_getElem? (i := 125) rfl)) rfl
theorem fc_X6_28 : Cond.fieldLink RX6 28 (TX6 3).1 (TX6 3).2.1 (TX6 3).2.2.1 ∈ gt := gt_mem (tm2 (List.mem_of_getElem? (i := 0) rfl)) rfl
theorem cl_X6_32 : Cond.classLink RX6 32 RX5 ∈ gt := gt_mem (tm1 (List.mem_of_getElem? (i := 127) rfl)) rfl
theorem is_5 : Cond.instantiable RX5 8 ∈ gt := gt_mem (tm1 (List.mem_of_getElem? (i := 128) rfl)) rfl
theorem ii_5 : Cond.initialized RX5 ∈ gt := gt_mem (tm1 (List.mem_of_getElem? (i := 4) rfl)) rfl
theorem li_X6_34 : LkI RX6 34 yX5_init cX5_init 1 := ⟨Or.inl (List.mem_filter.mpr ⟨tm1 (List.mem_of_getElem? (i := 129) rfl), rfl⟩), gt_mem (tm1 (List.mem_of_getElem? (i := 130) rfl)) rfl, gt_mem (tm1 (List.mem_of_getElem? (i := 4) rfl)) rfl, gt_mem (tm1 (List.mem_of_getElem? (i := 131) rfl)) rfl⟩
theorem di_X5_init : Ds yX5_init 0 := ⟨by decide +kernel, by decide +kernel, by decide +kernel⟩
theorem fc_X6_35 : Cond.fieldLink RX6 35 (TX6 4).1 (TX6 4).2.1 (TX6 4).2.2.1 ∈ gt := gt_mem (tm2 (List.mem_of_getElem? (i := 1) rfl)) rfl
theorem cl_X6_39 : Cond.classLink RX6 39 RX4 ∈ gt := gt_mem (tm1 (List.mem_of_getElem? (i := 162) rfl)) rfl
theorem fc_X6_41 : Cond.fieldLink RX6 41 (TX6 5).1 (TX6 5).2.1 (TX6 5).2.2.1 ∈ gt := gt_mem (tm2 (List.mem_of_getElem? (i := 2) rfl)) rfl
theorem cl_X6_45 : Cond.classLink RX6 45 RX1 ∈ gt := gt_mem (tm1 (List.mem_of_getElem? (i := 164) rfl)) rfl
theorem is_1 : Cond.instantiable RX1 7 ∈ gt := gt_mem (tm1 (List.mem_of_getElem? (i := 165) rfl)) rfl
theorem ii_1 : Cond.initialized RX1 ∈ gt := gt_mem (tm1 (List.mem_of_getElem? (i := 5) rfl)) rfl
theorem li_X6_47 : LkI RX6 47 yX1_init cX1_init 2 := ⟨Or.inr (gt_mem (tm1 (List.mem_of_getElem? (i := 166) rfl)) rfl), gt_mem (tm1 (List.mem_of_getElem? (i := 167) rfl)) rfl, gt_mem (tm1 (List.mem_of_getElem? (i := 5) rfl)) rfl, gt_mem (tm1 (List.mem_of_getElem? (i := 168) rfl)) rfl⟩
theorem di_X1_init : Ds yX1_init 0 := ⟨by decide +kernel, by decide +kernel, by decide +kernel⟩
theorem fc_X6_48 : Cond.fieldLink RX6 48 (TX6 6).1 (TX6 6).2.1 (TX6 6).2.2.1 ∈ gt := gt_mem (tm2 (List.mem_of_getElem? (i := 3) rfl)) rfl
theorem fc_X6_52 : Cond.fieldLink RX6 52 (TX6 7).1 (TX6 7).2.1 (TX6 7).2.2.1 ∈ gt := gt_mem (tm2 (List.mem_of_getElem? (i := 4) rfl)) rfl
theorem fc_X6_56 : Cond.fieldLink RX6 56 (TX6 8).1 (TX6 8).2.1 (TX6 8).2.2.1 ∈ gt := gt_mem (tm2 (List.mem_of_getElem? (i := 5) rfl)) rfl
theorem is_0 : Cond.instantiable RX0 3 ∈ gt := gt_mem (tm1 (List.mem_of_getElem? (i := 197) rfl)) rfl
theorem ii_0 : Cond.initialized RX0 ∈ gt := gt_mem (tm1 (List.mem_of_getElem? (i := 6) rfl)) rfl
theorem li_X6_60 : LkI RX6 60 yX0_init cX0_init 1 := ⟨Or.inl (List.mem_filter.mpr ⟨tm1 (List.mem_of_getElem? (i := 198) rfl), rfl⟩), gt_mem (tm1 (List.mem_of_getElem? (i := 199) rfl)) rfl, gt_mem (tm1 (List.mem_of_getElem? (i := 6) rfl)) rfl, gt_mem (tm1 (List.mem_of_getElem? (i := 200) rfl)) rfl⟩
theorem di_X0_init : Ds yX0_init 0 := ⟨by decide +kernel, by decide +kernel, by decide +kernel⟩
theorem is_4 : Cond.instantiable RX4 3 ∈ gt := gt_mem (tm1 (List.mem_of_getElem? (i := 219) rfl)) rfl
theorem ii_4 : Cond.initialized RX4 ∈ gt := gt_mem (tm1 (List.mem_of_getElem? (i := 7) rfl)) rfl
theorem li_X6_61 : LkI RX6 61 yX4_init cX4_init 1 := ⟨Or.inl (List.mem_filter.mpr ⟨tm1 (List.mem_of_getElem? (i := 220) rfl), rfl⟩), gt_mem (tm1 (List.mem_of_getElem? (i := 221) rfl)) rfl, gt_mem (tm1 (List.mem_of_getElem? (i := 7) rfl)) rfl, gt_mem (tm1 (List.mem_of_getElem? (i := 222) rfl)) rfl⟩
theorem di_X4_init : Ds yX4_init 0 := ⟨by decide +kernel, by decide +kernel, by decide +kernel⟩
theorem wI_1o {s : St} {k i a : Nat} {x : Int32} (h : a ≠ k) : (wI s k i x).1 a = s.1 a := if_neg h
theorem wI_2a {s : St} {k i : Nat} {x : Int32} : (wI s k i x).2 = s.2 := rfl
theorem wJ_1a {s : St} {k i : Nat} {x : Int64} : (wJ s k i x).1 = s.1 := rfl
theorem wJ_2o {s : St} {k i a : Nat} {x : Int64} (h : a ≠ k) : (wJ s k i x).2 a = s.2 a := if_neg h
theorem dX2_init_0 : decode cX2_init 0 = .ok (.aload_n 0, 1) := by decide +kernel
theorem dX2_init_1 : decode cX2_init 1 = .ok (.invokespecial 3, 3) := by decide +kernel
theorem dX2_init_4 : decode cX2_init 4 = .ok (.aload_n 0, 1) := by decide +kernel
theorem dX2_init_5 : decode cX2_init 5 = .ok (.iconst 0, 1) := by decide +kernel
theorem dX2_init_6 : decode cX2_init 6 = .ok (.putfield 9, 3) := by decide +kernel
theorem dX2_init_9 : decode cX2_init 9 = .ok (.aload_n 0, 1) := by decide +kernel
theorem dX2_init_10 : decode cX2_init 10 = .ok (.iconst 0, 1) := by decide +kernel
theorem dX2_init_11 : decode cX2_init 11 = .ok (.putfield 15, 3) := by decide +kernel
theorem dX2_init_14 : decode cX2_init 14 = .ok (.aload_n 0, 1) := by decide +kernel
theorem dX2_init_15 : decode cX2_init 15 = .ok (.iconst 0, 1) := by decide +kernel
theorem dX2_init_16 : decode cX2_init 16 = .ok (.putfield 18, 3) := by decide +kernel
theorem dX2_init_19 : decode cX2_init 19 = .ok (.aload_n 0, 1) := by decide +kernel
theorem dX2_init_20 : decode cX2_init 20 = .ok (.iconst 3, 1) := by decide +kernel
theorem dX2_init_21 : decode cX2_init 21 = .ok (.newarray .int, 2) := by decide +kernel
theorem dX2_init_23 : decode cX2_init 23 = .ok (.putfield 21, 3) := by decide +kernel
theorem dX2_init_26 : decode cX2_init 26 = .ok (.aload_n 0, 1) := by decide +kernel
theorem dX2_init_27 : decode cX2_init 27 = .ok (.iconst 3, 1) := by decide +kernel
theorem dX2_init_28 : decode cX2_init 28 = .ok (.newarray .int, 2) := by decide +kernel
theorem dX2_init_30 : decode cX2_init 30 = .ok (.putfield 25, 3) := by decide +kernel
theorem dX2_init_33 : decode cX2_init 33 = .ok (.aload_n 0, 1) := by decide +kernel
theorem dX2_init_34 : decode cX2_init 34 = .ok (.iconst 3, 1) := by decide +kernel
theorem dX2_init_35 : decode cX2_init 35 = .ok (.newarray .int, 2) := by decide +kernel
theorem dX2_init_37 : decode cX2_init 37 = .ok (.putfield 28, 3) := by decide +kernel
theorem dX2_init_40 : decode cX2_init 40 = .ok (.aload_n 0, 1) := by decide +kernel
theorem dX2_init_41 : decode cX2_init 41 = .ok (.iconst 3, 1) := by decide +kernel
theorem dX2_init_42 : decode cX2_init 42 = .ok (.newarray .int, 2) := by decide +kernel
theorem dX2_init_44 : decode cX2_init 44 = .ok (.putfield 31, 3) := by decide +kernel
theorem dX2_init_47 : decode cX2_init 47 = .ok (.aload_n 0, 1) := by decide +kernel
theorem dX2_init_48 : decode cX2_init 48 = .ok (.iconst 3, 1) := by decide +kernel
theorem dX2_init_49 : decode cX2_init 49 = .ok (.newarray .int, 2) := by decide +kernel
theorem dX2_init_51 : decode cX2_init 51 = .ok (.putfield 34, 3) := by decide +kernel
theorem dX2_init_54 : decode cX2_init 54 = .ok (.aload_n 0, 1) := by decide +kernel
theorem dX2_init_55 : decode cX2_init 55 = .ok (.iconst 3, 1) := by decide +kernel
theorem dX2_init_56 : decode cX2_init 56 = .ok (.newarray .int, 2) := by decide +kernel
theorem dX2_init_58 : decode cX2_init 58 = .ok (.putfield 37, 3) := by decide +kernel
theorem dX2_init_61 : decode cX2_init 61 = .ok (.aload_n 0, 1) := by decide +kernel
theorem dX2_init_62 : decode cX2_init 62 = .ok (.bipush 60, 2) := by decide +kernel
theorem dX2_init_64 : decode cX2_init 64 = .ok (.newarray .int, 2) := by decide +kernel
theorem dX2_init_66 : decode cX2_init 66 = .ok (.putfield 40, 3) := by decide +kernel
theorem dX2_init_69 : decode cX2_init 69 = .ok (.aload_n 0, 1) := by decide +kernel
theorem dX2_init_70 : decode cX2_init 70 = .ok (.iconst 4, 1) := by decide +kernel
theorem dX2_init_71 : decode cX2_init 71 = .ok (.newarray .int, 2) := by decide +kernel
theorem dX2_init_73 : decode cX2_init 73 = .ok (.putfield 43, 3) := by decide +kernel
theorem dX2_init_76 : decode cX2_init 76 = .ok (.aload_n 0, 1) := by decide +kernel
theorem dX2_init_77 : decode cX2_init 77 = .ok (.iconst 4, 1) := by decide +kernel
theorem dX2_init_78 : decode cX2_init 78 = .ok (.newarray .int, 2) := by decide +kernel
theorem dX2_init_80 : decode cX2_init 80 = .ok (.putfield 46, 3) := by decide +kernel
theorem dX2_init_83 : decode cX2_init 83 = .ok (.aload_n 0, 1) := by decide +kernel
theorem dX2_init_84 : decode cX2_init 84 = .ok (.bipush 12, 2) := by decide +kernel
theorem dX2_init_86 : decode cX2_init 86 = .ok (.newarray .int, 2) := by decide +kernel
theorem dX2_init_88 : decode cX2_init 88 = .ok (.putfield 49, 3) := by decide +kernel
theorem dX2_init_91 : decode cX2_init 91 = .ok (.aload_n 0, 1) := by decide +kernel
theorem dX2_init_92 : decode cX2_init 92 = .ok (.bipush 6, 2) := by decide +kernel
theorem dX2_init_94 : decode cX2_init 94 = .ok (.newarray .int, 2) := by decide +kernel
theorem dX2_init_96 : decode cX2_init 96 = .ok (.putfield 52, 3) := by decide +kernel
theorem dX2_init_99 : decode cX2_init 99 = .ok (.aload_n 0, 1) := by decide +kernel
theorem dX2_init_100 : decode cX2_init 100 = .ok (.iconst 4, 1) := by decide +kernel
theorem dX2_init_101 : decode cX2_init 101 = .ok (.newarray .int, 2) := by decide +kernel
theorem dX2_init_103 : decode cX2_init 103 = .ok (.putfield 55, 3) := by decide +kernel
theorem dX2_init_106 : decode cX2_init 106 = .ok (.return_, 1) := by decide +kernel
set_option maxHeartbeats 8000000 in
set_option maxRecDepth 100000 in
theorem c_X2_init {lc : Launch} {Γ : Gm} {B : Nat} {q : Nat} {N : Nat → Nat} {s : St} (hG : GB Γ B) (hF : ∀ i, i < 13 → kd (q + i) = ([2, 9, 9, 9, 9, 9, 9, 9, 9, 9, 9, 9, 9] : List Nat).getD i 0 ∧ ln (q + i) = ([0, 3, 3, 3, 3, 3, 3, 60, 4, 4, 12, 6, 4] : List Nat).getD i 0) (hz : ∀ k, q ≤ k → N k = 0 ∧ s.1 k = (fun _ => 0) ∧ s.2 k = (fun _ => 0)) : Ck lc Γ B yX2_init cX2_init 1 1 12 108 [.ref (gL Γ (q))] (q + 1, N, s) (q + 13, (nu N q 12), s) := Ck.of hG (by decide +kernel) rfl (Nat.le_of_ble_eq_true rfl) (fun X hl hX => by
  subst hl
  refine k_aload_n hX dX2_init_0 0 rfl 1 rfl ?_
  refine k_obj hX dX2_init_1 ob_X2 ob_i ob_c (Nat.le_of_ble_eq_true rfl) (by decide) 4 rfl ?_
  refine k_aload_n hX dX2_init_4 0 rfl 5 rfl ?_
  refine k_iconst hX (v := (nI 0)) dX2_init_5 rfl 6 rfl ?_
  refine k_put0_2 hX (k := q) (j := 0) (ty := .int) (hF 0 (by decide)).1 (show q < q + 1 by omega) (by decide) rfl (by decide +kernel) (by decide) (by decide) (by show some (Value.int (s.1 q 0)) = _; (try simp (disch := omega) only [nu_k, nu_o, wI_1o, wI_2a, wJ_1a, wJ_2o]); rw [(hz q (by omega)).2.1]; rfl) dX2_init_6 fc_X2_9 9 rfl ?_
  refine k_aload_n hX dX2_init_9 0 rfl 10 rfl ?_
  refine k_iconst hX (v := (nI 0)) dX2_init_10 rfl 11 rfl ?_
  refine k_put0_2 hX (k := q) (j := 1) (ty := .int) (hF 0 (by decide)).1 (show q < q + 1 by omega) (by decide) rfl (by decide +kernel) (by decide) (by decide) (by show some (Value.int (s.1 q 1)) = _; (try simp (disch := omega) only [nu_k, nu_o, wI_1o, wI_2a, wJ_1a, wJ_2o]); rw [(hz q (by omega)).2.1]; rfl) dX2_init_11 fc_X2_15 14 rfl ?_
  refine k_aload_n hX dX2_init_14 0 rfl 15 rfl ?_
  refine k_iconst hX (v := (nI 0)) dX2_init_15 rfl 16 rfl ?_
  refine k_put0_2 hX (k := q) (j := 2) (ty := .int) (hF 0 (by decide)).1 (show q < q + 1 by omega) (by decide) rfl (by decide +kernel) (by decide) (by decide) (by show some (Value.int (s.1 q 2)) = _; (try simp (disch := omega) only [nu_k, nu_o, wI_1o, wI_2a, wJ_1a, wJ_2o]); rw [(hz q (by omega)).2.1]; rfl) dX2_init_16 fc_X2_18 19 rfl ?_
  refine k_aload_n hX dX2_init_19 0 rfl 20 rfl ?_
  refine k_iconst hX (v := (nI 3)) dX2_init_20 rfl 21 rfl ?_
  refine k_arr9 hX 3 dX2_init_21 ac_9 (by decide) (by decide) (by decide) (hF 1 (by decide)).1 (hF 1 (by decide)).2 (show s.1 (q + 1) = (fun _ => 0) by (try simp (disch := omega) only [nu_k, nu_o, wI_1o, wI_2a, wJ_1a, wJ_2o]); exact (hz (q + 1) (by omega)).2.1) ⟨Nat.le_of_ble_eq_true rfl, Nat.le_of_ble_eq_true rfl⟩ 23 rfl (q + 2, N, s) rfl ((MQ (xb X) (Pk Γ B (q + 13, (nu N q 12), s)) (xa X) (xs X) 12 108 (gA Γ)), 1, 3) rfl ?_
  refine k_putR_2 hX (k := q) (j := 3) (t := q + 1) (ty := .array .int) 0 (q + 2, (nu N q 1), s) (hF 0 (by decide)).1 (show q < q + 2 by omega) (by (try simp (disch := omega) only [nu_k, nu_o, wI_1o, wI_2a, wJ_1a, wJ_2o]); exact (hz (q) (by omega)).1) (by decide) ⟨rfl, rfl⟩ (by decide +kernel) rfl rfl (fun f g => rfl) dX2_init_23 fc_X2_21 rfl 26 rfl ?_
  refine k_aload_n hX dX2_init_26 0 rfl 27 rfl ?_
  refine k_iconst hX (v := (nI 3)) dX2_init_27 rfl 28 rfl ?_
  refine k_arr9 hX 3 dX2_init_28 ac_9 (by decide) (by decide) (by decide) (hF 2 (by decide)).1 (hF 2 (by decide)).2 (show s.1 (q + 2) = (fun _ => 0) by (try simp (disch := omega) only [nu_k, nu_o, wI_1o, wI_2a, wJ_1a, wJ_2o]); exact (hz (q + 2) (by omega)).2.1) ⟨Nat.le_of_ble_eq_true rfl, Nat.le_of_ble_eq_true rfl⟩ 30 rfl (q + 3, (nu N q 1), s) rfl ((MQ (xb X) (Pk Γ B (q + 13, (nu N q 12), s)) (xa X) (xs X) 12 108 (gA Γ)), 2, 6) rfl ?_
  refine k_putR_2 hX (k := q) (j := 4) (t := q + 2) (ty := .array .int) 1 (q + 3, (nu N q 2), s) (hF 0 (by decide)).1 (show q < q + 3 by omega) (by simp (disch := omega) only [nu_k, nu_o, wI_1o, wI_2a, wJ_1a, wJ_2o]) (by decide) ⟨rfl, rfl⟩ (by decide +kernel) rfl rfl (fun f g => rfl) dX2_init_30 fc_X2_25 (by rw [nu_nu]) 33 rfl ?_
  refine k_aload_n hX dX2_init_33 0 rfl 34 rfl ?_
  refine k_iconst hX (v := (nI 3)) dX2_init_34 rfl 35 rfl ?_
  refine k_arr9 hX 3 dX2_init_35 ac_9 (by decide) (by decide) (by decide) (hF 3 (by decide)).1 (hF 3 (by decide)).2 (show s.1 (q + 3) = (fun _ => 0) by (try simp (disch := omega) only [nu_k, nu_o, wI_1o, wI_2a, wJ_1a, wJ_2o]); exact (hz (q + 3) (by omega)).2.1) ⟨Nat.le_of_ble_eq_true rfl, Nat.le_of_ble_eq_true rfl⟩ 37 rfl (q + 4, (nu N q 2), s) rfl ((MQ (xb X) (Pk Γ B (q + 13, (nu N q 12), s)) (xa X) (xs X) 12 108 (gA Γ)), 3, 9) rfl ?_
  refine k_putR_2 hX (k := q) (j := 5) (t := q + 3) (ty := .array .int) 2 (q + 4, (nu N q 3), s) (hF 0 (by decide)).1 (show q < q + 4 by omega) (by simp (disch := omega) only [nu_k, nu_o, wI_1o, wI_2a, wJ_1a, wJ_2o]) (by decide) ⟨rfl, rfl⟩ (by decide +kernel) rfl rfl (fun f g => rfl) dX2_init_37 fc_X2_28 (by rw [nu_nu]) 40 rfl ?_
  refine k_aload_n hX dX2_init_40 0 rfl 41 rfl ?_
  refine k_iconst hX (v := (nI 3)) dX2_init_41 rfl 42 rfl ?_
  refine k_arr9 hX 3 dX2_init_42 ac_9 (by decide) (by decide) (by decide) (hF 4 (by decide)).1 (hF 4 (by decide)).2 (show s.1 (q + 4) = (fun _ => 0) by (try simp (disch := omega) only [nu_k, nu_o, wI_1o, wI_2a, wJ_1a, wJ_2o]); exact (hz (q + 4) (by omega)).2.1) ⟨Nat.le_of_ble_eq_true rfl, Nat.le_of_ble_eq_true rfl⟩ 44 rfl (q + 5, (nu N q 3), s) rfl ((MQ (xb X) (Pk Γ B (q + 13, (nu N q 12), s)) (xa X) (xs X) 12 108 (gA Γ)), 4, 12) rfl ?_
  refine k_putR_2 hX (k := q) (j := 6) (t := q + 4) (ty := .array .int) 3 (q + 5, (nu N q 4), s) (hF 0 (by decide)).1 (show q < q + 5 by omega) (by simp (disch := omega) only [nu_k, nu_o, wI_1o, wI_2a, wJ_1a, wJ_2o]) (by decide) ⟨rfl, rfl⟩ (by decide +kernel) rfl rfl (fun f g => rfl) dX2_init_44 fc_X2_31 (by rw [nu_nu]) 47 rfl ?_
  refine k_aload_n hX dX2_init_47 0 rfl 48 rfl ?_
  refine k_iconst hX (v := (nI 3)) dX2_init_48 rfl 49 rfl ?_
  refine k_arr9 hX 3 dX2_init_49 ac_9 (by decide) (by decide) (by decide) (hF 5 (by decide)).1 (hF 5 (by decide)).2 (show s.1 (q + 5) = (fun _ => 0) by (try simp (disch := omega) only [nu_k, nu_o, wI_1o, wI_2a, wJ_1a, wJ_2o]); exact (hz (q + 5) (by omega)).2.1) ⟨Nat.le_of_ble_eq_true rfl, Nat.le_of_ble_eq_true rfl⟩ 51 rfl (q + 6, (nu N q 4), s) rfl ((MQ (xb X) (Pk Γ B (q + 13, (nu N q 12), s)) (xa X) (xs X) 12 108 (gA Γ)), 5, 15) rfl ?_
  refine k_putR_2 hX (k := q) (j := 7) (t := q + 5) (ty := .array .int) 4 (q + 6, (nu N q 5), s) (hF 0 (by decide)).1 (show q < q + 6 by omega) (by simp (disch := omega) only [nu_k, nu_o, wI_1o, wI_2a, wJ_1a, wJ_2o]) (by decide) ⟨rfl, rfl⟩ (by decide +kernel) rfl rfl (fun f g => rfl) dX2_init_51 fc_X2_34 (by rw [nu_nu]) 54 rfl ?_
  refine k_aload_n hX dX2_init_54 0 rfl 55 rfl ?_
  refine k_iconst hX (v := (nI 3)) dX2_init_55 rfl 56 rfl ?_
  refine k_arr9 hX 3 dX2_init_56 ac_9 (by decide) (by decide) (by decide) (hF 6 (by decide)).1 (hF 6 (by decide)).2 (show s.1 (q + 6) = (fun _ => 0) by (try simp (disch := omega) only [nu_k, nu_o, wI_1o, wI_2a, wJ_1a, wJ_2o]); exact (hz (q + 6) (by omega)).2.1) ⟨Nat.le_of_ble_eq_true rfl, Nat.le_of_ble_eq_true rfl⟩ 58 rfl (q + 7, (nu N q 5), s) rfl ((MQ (xb X) (Pk Γ B (q + 13, (nu N q 12), s)) (xa X) (xs X) 12 108 (gA Γ)), 6, 18) rfl ?_
  refine k_putR_2 hX (k := q) (j := 8) (t := q + 6) (ty := .array .int) 5 (q + 7, (nu N q 6), s) (hF 0 (by decide)).1 (show q < q + 7 by omega) (by simp (disch := omega) only [nu_k, nu_o, wI_1o, wI_2a, wJ_1a, wJ_2o]) (by decide) ⟨rfl, rfl⟩ (by decide +kernel) rfl rfl (fun f g => rfl) dX2_init_58 fc_X2_37 (by rw [nu_nu]) 61 rfl ?_
  refine k_aload_n hX dX2_init_61 0 rfl 62 rfl ?_
  refine k_bipush hX (v := (nI 60)) dX2_init_62 (by decide) 64 rfl ?_
  refine k_arr9 hX 60 dX2_init_64 ac_9 (by decide) (by decide) (by decide) (hF 7 (by decide)).1 (hF 7 (by decide)).2 (show s.1 (q + 7) = (fun _ => 0) by (try simp (disch := omega) only [nu_k, nu_o, wI_1o, wI_2a, wJ_1a, wJ_2o]); exact (hz (q + 7) (by omega)).2.1) ⟨Nat.le_of_ble_eq_true rfl, Nat.le_of_ble_eq_true rfl⟩ 66 rfl (q + 8, (nu N q 6), s) rfl ((MQ (xb X) (Pk Γ B (q + 13, (nu N q 12), s)) (xa X) (xs X) 12 108 (gA Γ)), 7, 78) rfl ?_
  refine k_putR_2 hX (k := q) (j := 9) (t := q + 7) (ty := .array .int) 6 (q + 8, (nu N q 7), s) (hF 0 (by decide)).1 (show q < q + 8 by omega) (by simp (disch := omega) only [nu_k, nu_o, wI_1o, wI_2a, wJ_1a, wJ_2o]) (by decide) ⟨rfl, rfl⟩ (by decide +kernel) rfl rfl (fun f g => rfl) dX2_init_66 fc_X2_40 (by rw [nu_nu]) 69 rfl ?_
  refine k_aload_n hX dX2_init_69 0 rfl 70 rfl ?_
  refine k_iconst hX (v := (nI 4)) dX2_init_70 rfl 71 rfl ?_
  refine k_arr9 hX 4 dX2_init_71 ac_9 (by decide) (by decide) (by decide) (hF 8 (by decide)).1 (hF 8 (by decide)).2 (show s.1 (q + 8) = (fun _ => 0) by (try simp (disch := omega) only [nu_k, nu_o, wI_1o, wI_2a, wJ_1a, wJ_2o]); exact (hz (q + 8) (by omega)).2.1) ⟨Nat.le_of_ble_eq_true rfl, Nat.le_of_ble_eq_true rfl⟩ 73 rfl (q + 9, (nu N q 7), s) rfl ((MQ (xb X) (Pk Γ B (q + 13, (nu N q 12), s)) (xa X) (xs X) 12 108 (gA Γ)), 8, 82) rfl ?_
  refine k_putR_2 hX (k := q) (j := 10) (t := q + 8) (ty := .array .int) 7 (q + 9, (nu N q 8), s) (hF 0 (by decide)).1 (show q < q + 9 by omega) (by simp (disch := omega) only [nu_k, nu_o, wI_1o, wI_2a, wJ_1a, wJ_2o]) (by decide) ⟨rfl, rfl⟩ (by decide +kernel) rfl rfl (fun f g => rfl) dX2_init_73 fc_X2_43 (by rw [nu_nu]) 76 rfl ?_
  refine k_aload_n hX dX2_init_76 0 rfl 77 rfl ?_
  refine k_iconst hX (v := (nI 4)) dX2_init_77 rfl 78 rfl ?_
  refine k_arr9 hX 4 dX2_init_78 ac_9 (by decide) (by decide) (by decide) (hF 9 (by decide)).1 (hF 9 (by decide)).2 (show s.1 (q + 9) = (fun _ => 0) by (try simp (disch := omega) only [nu_k, nu_o, wI_1o, wI_2a, wJ_1a, wJ_2o]); exact (hz (q + 9) (by omega)).2.1) ⟨Nat.le_of_ble_eq_true rfl, Nat.le_of_ble_eq_true rfl⟩ 80 rfl (q + 10, (nu N q 8), s) rfl ((MQ (xb X) (Pk Γ B (q + 13, (nu N q 12), s)) (xa X) (xs X) 12 108 (gA Γ)), 9, 86) rfl ?_
  refine k_putR_2 hX (k := q) (j := 11) (t := q + 9) (ty := .array .int) 8 (q + 10, (nu N q 9), s) (hF 0 (by decide)).1 (show q < q + 10 by omega) (by simp (disch := omega) only [nu_k, nu_o, wI_1o, wI_2a, wJ_1a, wJ_2o]) (by decide) ⟨rfl, rfl⟩ (by decide +kernel) rfl rfl (fun f g => rfl) dX2_init_80 fc_X2_46 (by rw [nu_nu]) 83 rfl ?_
  refine k_aload_n hX dX2_init_83 0 rfl 84 rfl ?_
  refine k_bipush hX (v := (nI 12)) dX2_init_84 (by decide) 86 rfl ?_
  refine k_arr9 hX 12 dX2_init_86 ac_9 (by decide) (by decide) (by decide) (hF 10 (by decide)).1 (hF 10 (by decide)).2 (show s.1 (q + 10) = (fun _ => 0) by (try simp (disch := omega) only [nu_k, nu_o, wI_1o, wI_2a, wJ_1a, wJ_2o]); exact (hz (q + 10) (by omega)).2.1) ⟨Nat.le_of_ble_eq_true rfl, Nat.le_of_ble_eq_true rfl⟩ 88 rfl (q + 11, (nu N q 9), s) rfl ((MQ (xb X) (Pk Γ B (q + 13, (nu N q 12), s)) (xa X) (xs X) 12 108 (gA Γ)), 10, 98) rfl ?_
  refine k_putR_2 hX (k := q) (j := 12) (t := q + 10) (ty := .array .int) 9 (q + 11, (nu N q 10), s) (hF 0 (by decide)).1 (show q < q + 11 by omega) (by simp (disch := omega) only [nu_k, nu_o, wI_1o, wI_2a, wJ_1a, wJ_2o]) (by decide) ⟨rfl, rfl⟩ (by decide +kernel) rfl rfl (fun f g => rfl) dX2_init_88 fc_X2_49 (by rw [nu_nu]) 91 rfl ?_
  refine k_aload_n hX dX2_init_91 0 rfl 92 rfl ?_
  refine k_bipush hX (v := (nI 6)) dX2_init_92 (by decide) 94 rfl ?_
  refine k_arr9 hX 6 dX2_init_94 ac_9 (by decide) (by decide) (by decide) (hF 11 (by decide)).1 (hF 11 (by decide)).2 (show s.1 (q + 11) = (fun _ => 0) by (try simp (disch := omega) only [nu_k, nu_o, wI_1o, wI_2a, wJ_1a, wJ_2o]); exact (hz (q + 11) (by omega)).2.1) ⟨Nat.le_of_ble_eq_true rfl, Nat.le_of_ble_eq_true rfl⟩ 96 rfl (q + 12, (nu N q 10), s) rfl ((MQ (xb X) (Pk Γ B (q + 13, (nu N q 12), s)) (xa X) (xs X) 12 108 (gA Γ)), 11, 104) rfl ?_
  refine k_putR_2 hX (k := q) (j := 13) (t := q + 11) (ty := .array .int) 10 (q + 12, (nu N q 11), s) (hF 0 (by decide)).1 (show q < q + 12 by omega) (by simp (disch := omega) only [nu_k, nu_o, wI_1o, wI_2a, wJ_1a, wJ_2o]) (by decide) ⟨rfl, rfl⟩ (by decide +kernel) rfl rfl (fun f g => rfl) dX2_init_96 fc_X2_52 (by rw [nu_nu]) 99 rfl ?_
  refine k_aload_n hX dX2_init_99 0 rfl 100 rfl ?_
  refine k_iconst hX (v := (nI 4)) dX2_init_100 rfl 101 rfl ?_
  refine k_arr9 hX 4 dX2_init_101 ac_9 (by decide) (by decide) (by decide) (hF 12 (by decide)).1 (hF 12 (by decide)).2 (show s.1 (q + 12) = (fun _ => 0) by (try simp (disch := omega) only [nu_k, nu_o, wI_1o, wI_2a, wJ_1a, wJ_2o]); exact (hz (q + 12) (by omega)).2.1) ⟨Nat.le_of_ble_eq_true rfl, Nat.le_of_ble_eq_true rfl⟩ 103 rfl (q + 13, (nu N q 11), s) rfl ((MQ (xb X) (Pk Γ B (q + 13, (nu N q 12), s)) (xa X) (xs X) 12 108 (gA Γ)), 12, 108) rfl ?_
  refine k_putR_2 hX (k := q) (j := 14) (t := q + 12) (ty := .array .int) 11 (q + 13, (nu N q 12), s) (hF 0 (by decide)).1 (show q < q + 13 by omega) (by simp (disch := omega) only [nu_k, nu_o, wI_1o, wI_2a, wJ_1a, wJ_2o]) (by decide) ⟨rfl, rfl⟩ (by decide +kernel) rfl rfl (fun f g => rfl) dX2_init_103 fc_X2_55 (by rw [nu_nu]) 106 rfl ?_
  exact k_ret hX dX2_init_106 rfl)
theorem dX3_init_0 : decode cX3_init 0 = .ok (.aload_n 0, 1) := by decide +kernel
theorem dX3_init_1 : decode cX3_init 1 = .ok (.invokespecial 3, 3) := by decide +kernel
theorem dX3_init_4 : decode cX3_init 4 = .ok (.aload_n 0, 1) := by decide +kernel
theorem dX3_init_5 : decode cX3_init 5 = .ok (.iconst 0, 1) := by decide +kernel
theorem dX3_init_6 : decode cX3_init 6 = .ok (.putfield 9, 3) := by decide +kernel
theorem dX3_init_9 : decode cX3_init 9 = .ok (.aload_n 0, 1) := by decide +kernel
theorem dX3_init_10 : decode cX3_init 10 = .ok (.bipush 6, 2) := by decide +kernel
theorem dX3_init_12 : decode cX3_init 12 = .ok (.newarray .int, 2) := by decide +kernel
theorem dX3_init_14 : decode cX3_init 14 = .ok (.putfield 15, 3) := by decide +kernel
theorem dX3_init_17 : decode cX3_init 17 = .ok (.aload_n 0, 1) := by decide +kernel
theorem dX3_init_18 : decode cX3_init 18 = .ok (.bipush 6, 2) := by decide +kernel
theorem dX3_init_20 : decode cX3_init 20 = .ok (.newarray .int, 2) := by decide +kernel
theorem dX3_init_22 : decode cX3_init 22 = .ok (.putfield 19, 3) := by decide +kernel
theorem dX3_init_25 : decode cX3_init 25 = .ok (.aload_n 0, 1) := by decide +kernel
theorem dX3_init_26 : decode cX3_init 26 = .ok (.bipush 6, 2) := by decide +kernel
theorem dX3_init_28 : decode cX3_init 28 = .ok (.newarray .int, 2) := by decide +kernel
theorem dX3_init_30 : decode cX3_init 30 = .ok (.putfield 22, 3) := by decide +kernel
theorem dX3_init_33 : decode cX3_init 33 = .ok (.aload_n 0, 1) := by decide +kernel
theorem dX3_init_34 : decode cX3_init 34 = .ok (.bipush 6, 2) := by decide +kernel
theorem dX3_init_36 : decode cX3_init 36 = .ok (.newarray .int, 2) := by decide +kernel
theorem dX3_init_38 : decode cX3_init 38 = .ok (.putfield 25, 3) := by decide +kernel
theorem dX3_init_41 : decode cX3_init 41 = .ok (.return_, 1) := by decide +kernel
set_option maxHeartbeats 8000000 in
set_option maxRecDepth 100000 in
theorem c_X3_init {lc : Launch} {Γ : Gm} {B : Nat} {q : Nat} {N : Nat → Nat} {s : St} (hG : GB Γ B) (hF : ∀ i, i < 5 → kd (q + i) = ([3, 9, 9, 9, 9] : List Nat).getD i 0 ∧ ln (q + i) = ([0, 6, 6, 6, 6] : List Nat).getD i 0) (hz : ∀ k, q ≤ k → N k = 0 ∧ s.1 k = (fun _ => 0) ∧ s.2 k = (fun _ => 0)) : Ck lc Γ B yX3_init cX3_init 1 1 4 24 [.ref (gL Γ (q))] (q + 1, N, s) (q + 5, (nu N q 4), s) := Ck.of hG (by decide +kernel) rfl (Nat.le_of_ble_eq_true rfl) (fun X hl hX => by
  subst hl
  refine k_aload_n hX dX3_init_0 0 rfl 1 rfl ?_
  refine k_obj hX dX3_init_1 ob_X3 ob_i ob_c (Nat.le_of_ble_eq_true rfl) (by decide) 4 rfl ?_
  refine k_aload_n hX dX3_init_4 0 rfl 5 rfl ?_
  refine k_iconst hX (v := (nI 0)) dX3_init_5 rfl 6 rfl ?_
  refine k_put0_3 hX (k := q) (j := 0) (ty := .int) (hF 0 (by decide)).1 (show q < q + 1 by omega) (by decide) rfl (by decide +kernel) (by decide) (by decide) (by show some (Value.int (s.1 q 0)) = _; (try simp (disch := omega) only [nu_k, nu_o, wI_1o, wI_2a, wJ_1a, wJ_2o]); rw [(hz q (by omega)).2.1]; rfl) dX3_init_6 fc_X3_9 9 rfl ?_
  refine k_aload_n hX dX3_init_9 0 rfl 10 rfl ?_
  refine k_bipush hX (v := (nI 6)) dX3_init_10 (by decide) 12 rfl ?_
  refine k_arr9 hX 6 dX3_init_12 ac_9 (by decide) (by decide) (by decide) (hF 1 (by decide)).1 (hF 1 (by decide)).2 (show s.1 (q + 1) = (fun _ => 0) by (try simp (disch := omega) only [nu_k, nu_o, wI_1o, wI_2a, wJ_1a, wJ_2o]); exact (hz (q + 1) (by omega)).2.1) ⟨Nat.le_of_ble_eq_true rfl, Nat.le_of_ble_eq_true rfl⟩ 14 rfl (q + 2, N, s) rfl ((MQ (xb X) (Pk Γ B (q + 5, (nu N q 4), s)) (xa X) (xs X) 4 24 (gA Γ)), 1, 6) rfl ?_
  refine k_putR_3 hX (k := q) (j := 1) (t := q + 1) (ty := .array .int) 0 (q + 2, (nu N q 1), s) (hF 0 (by decide)).1 (show q < q + 2 by omega) (by (try simp (disch := omega) only [nu_k, nu_o, wI_1o, wI_2a, wJ_1a, wJ_2o]); exact (hz (q) (by omega)).1) (by decide) ⟨rfl, rfl⟩ (by decide +kernel) rfl rfl (fun f g => rfl) dX3_init_14 fc_X3_15 rfl 17 rfl ?_
  refine k_aload_n hX dX3_init_17 0 rfl 18 rfl ?_
  refine k_bipush hX (v := (nI 6)) dX3_init_18 (by decide) 20 rfl ?_
  refine k_arr9 hX 6 dX3_init_20 ac_9 (by decide) (by decide) (by decide) (hF 2 (by decide)).1 (hF 2 (by decide)).2 (show s.1 (q + 2) = (fun _ => 0) by (try simp (disch := omega) only [nu_k, nu_o, wI_1o, wI_2a, wJ_1a, wJ_2o]); exact (hz (q + 2) (by omega)).2.1) ⟨Nat.le_of_ble_eq_true rfl, Nat.le_of_ble_eq_true rfl⟩ 22 rfl (q + 3, (nu N q 1), s) rfl ((MQ (xb X) (Pk Γ B (q + 5, (nu N q 4), s)) (xa X) (xs X) 4 24 (gA Γ)), 2, 12) rfl ?_
  refine k_putR_3 hX (k := q) (j := 2) (t := q + 2) (ty := .array .int) 1 (q + 3, (nu N q 2), s) (hF 0 (by decide)).1 (show q < q + 3 by omega) (by simp (disch := omega) only [nu_k, nu_o, wI_1o, wI_2a, wJ_1a, wJ_2o]) (by decide) ⟨rfl, rfl⟩ (by decide +kernel) rfl rfl (fun f g => rfl) dX3_init_22 fc_X3_19 (by rw [nu_nu]) 25 rfl ?_
  refine k_aload_n hX dX3_init_25 0 rfl 26 rfl ?_
  refine k_bipush hX (v := (nI 6)) dX3_init_26 (by decide) 28 rfl ?_
  refine k_arr9 hX 6 dX3_init_28 ac_9 (by decide) (by decide) (by decide) (hF 3 (by decide)).1 (hF 3 (by decide)).2 (show s.1 (q + 3) = (fun _ => 0) by (try simp (disch := omega) only [nu_k, nu_o, wI_1o, wI_2a, wJ_1a, wJ_2o]); exact (hz (q + 3) (by omega)).2.1) ⟨Nat.le_of_ble_eq_true rfl, Nat.le_of_ble_eq_true rfl⟩ 30 rfl (q + 4, (nu N q 2), s) rfl ((MQ (xb X) (Pk Γ B (q + 5, (nu N q 4), s)) (xa X) (xs X) 4 24 (gA Γ)), 3, 18) rfl ?_
  refine k_putR_3 hX (k := q) (j := 3) (t := q + 3) (ty := .array .int) 2 (q + 4, (nu N q 3), s) (hF 0 (by decide)).1 (show q < q + 4 by omega) (by simp (disch := omega) only [nu_k, nu_o, wI_1o, wI_2a, wJ_1a, wJ_2o]) (by decide) ⟨rfl, rfl⟩ (by decide +kernel) rfl rfl (fun f g => rfl) dX3_init_30 fc_X3_22 (by rw [nu_nu]) 33 rfl ?_
  refine k_aload_n hX dX3_init_33 0 rfl 34 rfl ?_
  refine k_bipush hX (v := (nI 6)) dX3_init_34 (by decide) 36 rfl ?_
  refine k_arr9 hX 6 dX3_init_36 ac_9 (by decide) (by decide) (by decide) (hF 4 (by decide)).1 (hF 4 (by decide)).2 (show s.1 (q + 4) = (fun _ => 0) by (try simp (disch := omega) only [nu_k, nu_o, wI_1o, wI_2a, wJ_1a, wJ_2o]); exact (hz (q + 4) (by omega)).2.1) ⟨Nat.le_of_ble_eq_true rfl, Nat.le_of_ble_eq_true rfl⟩ 38 rfl (q + 5, (nu N q 3), s) rfl ((MQ (xb X) (Pk Γ B (q + 5, (nu N q 4), s)) (xa X) (xs X) 4 24 (gA Γ)), 4, 24) rfl ?_
  refine k_putR_3 hX (k := q) (j := 4) (t := q + 4) (ty := .array .int) 3 (q + 5, (nu N q 4), s) (hF 0 (by decide)).1 (show q < q + 5 by omega) (by simp (disch := omega) only [nu_k, nu_o, wI_1o, wI_2a, wJ_1a, wJ_2o]) (by decide) ⟨rfl, rfl⟩ (by decide +kernel) rfl rfl (fun f g => rfl) dX3_init_38 fc_X3_25 (by rw [nu_nu]) 41 rfl ?_
  exact k_ret hX dX3_init_41 rfl)
theorem dX4_init_0 : decode cX4_init 0 = .ok (.aload_n 0, 1) := by decide +kernel
theorem dX4_init_1 : decode cX4_init 1 = .ok (.invokespecial 3, 3) := by decide +kernel
theorem dX4_init_4 : decode cX4_init 4 = .ok (.aload_n 0, 1) := by decide +kernel
theorem dX4_init_5 : decode cX4_init 5 = .ok (.iconst (-1), 1) := by decide +kernel
theorem dX4_init_6 : decode cX4_init 6 = .ok (.putfield 11, 3) := by decide +kernel
theorem dX4_init_9 : decode cX4_init 9 = .ok (.aload_n 0, 1) := by decide +kernel
theorem dX4_init_10 : decode cX4_init 10 = .ok (.iconst 0, 1) := by decide +kernel
theorem dX4_init_11 : decode cX4_init 11 = .ok (.putfield 15, 3) := by decide +kernel
theorem dX4_init_14 : decode cX4_init 14 = .ok (.aload_n 0, 1) := by decide +kernel
theorem dX4_init_15 : decode cX4_init 15 = .ok (.bipush 40, 2) := by decide +kernel
theorem dX4_init_17 : decode cX4_init 17 = .ok (.newarray .int, 2) := by decide +kernel
theorem dX4_init_19 : decode cX4_init 19 = .ok (.putfield 18, 3) := by decide +kernel
theorem dX4_init_22 : decode cX4_init 22 = .ok (.return_, 1) := by decide +kernel
set_option maxHeartbeats 8000000 in
set_option maxRecDepth 100000 in
theorem c_X4_init {lc : Launch} {Γ : Gm} {B : Nat} {q : Nat} {N : Nat → Nat} {s : St} (hG : GB Γ B) (hF : ∀ i, i < 2 → kd (q + i) = ([4, 9] : List Nat).getD i 0 ∧ ln (q + i) = ([0, 40] : List Nat).getD i 0) (hz : ∀ k, q ≤ k → N k = 0 ∧ s.1 k = (fun _ => 0) ∧ s.2 k = (fun _ => 0)) : Ck lc Γ B yX4_init cX4_init 1 1 1 40 [.ref (gL Γ (q))] (q + 1, N, s) (q + 2, (nu N q 1), (wI s q 0 (-1))) := Ck.of hG (by decide +kernel) rfl (Nat.le_of_ble_eq_true rfl) (fun X hl hX => by
  subst hl
  refine k_aload_n hX dX4_init_0 0 rfl 1 rfl ?_
  refine k_obj hX dX4_init_1 ob_X4 ob_i ob_c (Nat.le_of_ble_eq_true rfl) (by decide) 4 rfl ?_
  refine k_aload_n hX dX4_init_4 0 rfl 5 rfl ?_
  refine k_iconst hX (v := (-1)) dX4_init_5 rfl 6 rfl ?_
  refine k_putI_4 hX (k := q) (j := 0) (q + 1, N, (wI s q 0 (-1))) (hF 0 (by decide)).1 (show q < q + 1 by omega) (by decide) rfl (by decide +kernel) (fun n f g => by simp [flN, entN, upd]) dX4_init_6 fc_X4_11 rfl 9 rfl ?_
  refine k_aload_n hX dX4_init_9 0 rfl 10 rfl ?_
  refine k_iconst hX (v := (nI 0)) dX4_init_10 rfl 11 rfl ?_
  refine k_put0_4 hX (k := q) (j := 1) (ty := .int) (hF 0 (by decide)).1 (show q < q + 1 by omega) (by decide) rfl (by decide +kernel) (by decide) (by decide) (by show some (Value.int ((wI s q 0 (-1)).1 q 1)) = _; rw [wI_k]; show some (Value.int (s.1 q 1)) = _; rw [(hz q (by omega)).2.1]; rfl) dX4_init_11 fc_X4_15 14 rfl ?_
  refine k_aload_n hX dX4_init_14 0 rfl 15 rfl ?_
  refine k_bipush hX (v := (nI 40)) dX4_init_15 (by decide) 17 rfl ?_
  refine k_arr9 hX 40 dX4_init_17 ac_9 (by decide) (by decide) (by decide) (hF 1 (by decide)).1 (hF 1 (by decide)).2 (show (wI s q 0 (-1)).1 (q + 1) = (fun _ => 0) by (try simp (disch := omega) only [nu_k, nu_o, wI_1o, wI_2a, wJ_1a, wJ_2o]); exact (hz (q + 1) (by omega)).2.1) ⟨Nat.le_of_ble_eq_true rfl, Nat.le_of_ble_eq_true rfl⟩ 19 rfl (q + 2, N, (wI s q 0 (-1))) rfl ((MQ (xb X) (Pk Γ B (q + 2, (nu N q 1), (wI s q 0 (-1)))) (xa X) (xs X) 1 40 (gA Γ)), 1, 40) rfl ?_
  refine k_putR_4 hX (k := q) (j := 2) (t := q + 1) (ty := .array .int) 0 (q + 2, (nu N q 1), (wI s q 0 (-1))) (hF 0 (by decide)).1 (show q < q + 2 by omega) (by (try simp (disch := omega) only [nu_k, nu_o, wI_1o, wI_2a, wJ_1a, wJ_2o]); exact (hz (q) (by omega)).1) (by decide) ⟨rfl, rfl⟩ (by decide +kernel) rfl rfl (fun f g => rfl) dX4_init_19 fc_X4_18 rfl 22 rfl ?_
  exact k_ret hX dX4_init_22 rfl)
theorem dX5_init_0 : decode cX5_init 0 = .ok (.aload_n 0, 1) := by decide +kernel
theorem dX5_init_1 : decode cX5_init 1 = .ok (.invokespecial 3, 3) := by decide +kernel
theorem dX5_init_4 : decode cX5_init 4 = .ok (.aload_n 0, 1) := by decide +kernel
theorem dX5_init_5 : decode cX5_init 5 = .ok (.sipush 160, 3) := by decide +kernel
theorem dX5_init_8 : decode cX5_init 8 = .ok (.newarray .byte, 2) := by decide +kernel
theorem dX5_init_10 : decode cX5_init 10 = .ok (.putfield 9, 3) := by decide +kernel
theorem dX5_init_13 : decode cX5_init 13 = .ok (.aload_n 0, 1) := by decide +kernel
theorem dX5_init_14 : decode cX5_init 14 = .ok (.iconst 0, 1) := by decide +kernel
theorem dX5_init_15 : decode cX5_init 15 = .ok (.putfield 15, 3) := by decide +kernel
theorem dX5_init_18 : decode cX5_init 18 = .ok (.aload_n 0, 1) := by decide +kernel
theorem dX5_init_19 : decode cX5_init 19 = .ok (.iconst 0, 1) := by decide +kernel
theorem dX5_init_20 : decode cX5_init 20 = .ok (.putfield 19, 3) := by decide +kernel
theorem dX5_init_23 : decode cX5_init 23 = .ok (.aload_n 0, 1) := by decide +kernel
theorem dX5_init_24 : decode cX5_init 24 = .ok (.iconst 0, 1) := by decide +kernel
theorem dX5_init_25 : decode cX5_init 25 = .ok (.putfield 22, 3) := by decide +kernel
theorem dX5_init_28 : decode cX5_init 28 = .ok (.aload_n 0, 1) := by decide +kernel
theorem dX5_init_29 : decode cX5_init 29 = .ok (.iconst 0, 1) := by decide +kernel
theorem dX5_init_30 : decode cX5_init 30 = .ok (.putfield 25, 3) := by decide +kernel
theorem dX5_init_33 : decode cX5_init 33 = .ok (.aload_n 0, 1) := by decide +kernel
theorem dX5_init_34 : decode cX5_init 34 = .ok (.iconst 0, 1) := by decide +kernel
theorem dX5_init_35 : decode cX5_init 35 = .ok (.putfield 28, 3) := by decide +kernel
theorem dX5_init_38 : decode cX5_init 38 = .ok (.aload_n 0, 1) := by decide +kernel
theorem dX5_init_39 : decode cX5_init 39 = .ok (.iconst 0, 1) := by decide +kernel
theorem dX5_init_40 : decode cX5_init 40 = .ok (.putfield 31, 3) := by decide +kernel
theorem dX5_init_43 : decode cX5_init 43 = .ok (.aload_n 0, 1) := by decide +kernel
theorem dX5_init_44 : decode cX5_init 44 = .ok (.iconst 0, 1) := by decide +kernel
theorem dX5_init_45 : decode cX5_init 45 = .ok (.putfield 34, 3) := by decide +kernel
theorem dX5_init_48 : decode cX5_init 48 = .ok (.return_, 1) := by decide +kernel
set_option maxHeartbeats 8000000 in
set_option maxRecDepth 100000 in
theorem c_X5_init {lc : Launch} {Γ : Gm} {B : Nat} {N : Nat → Nat} {s : St} (hG : GB Γ B) (hz : ∀ k, 33 ≤ k → N k = 0 ∧ s.1 k = (fun _ => 0) ∧ s.2 k = (fun _ => 0)) : Ck lc Γ B yX5_init cX5_init 1 1 1 160 [.ref (gL Γ (33))] (34, N, s) (35, (nu N 33 1), s) := Ck.of hG (by decide +kernel) rfl (Nat.le_of_ble_eq_true rfl) (fun X hl hX => by
  subst hl
  refine k_aload_n hX dX5_init_0 0 rfl 1 rfl ?_
  refine k_obj hX dX5_init_1 ob_X5 ob_i ob_c (Nat.le_of_ble_eq_true rfl) (by decide) 4 rfl ?_
  refine k_aload_n hX dX5_init_4 0 rfl 5 rfl ?_
  refine k_sipush hX (v := (nI 160)) dX5_init_5 (by decide) 8 rfl ?_
  refine k_arr8 hX 160 dX5_init_8 ac_8 (by decide) (by decide) (by decide) (show kd 34 = 8 by decide +kernel) (show ln 34 = 160 by decide +kernel) (show s.1 34 = (fun _ => 0) by (try simp (disch := omega) only [nu_k, nu_o, wI_1o, wI_2a, wJ_1a, wJ_2o]); exact (hz 34 (by omega)).2.1) ⟨Nat.le_of_ble_eq_true rfl, Nat.le_of_ble_eq_true rfl⟩ 10 rfl (35, N, s) rfl ((MQ (xb X) (Pk Γ B (35, (nu N 33 1), s)) (xa X) (xs X) 1 160 (gA Γ)), 1, 160) rfl ?_
  refine k_putR_5 hX (k := 33) (j := 0) (t := 34) (ty := .array .byte) 0 (35, (nu N 33 1), s) (show kd 33 = 5 by decide +kernel) (show 33 < 35 by decide) (by (try simp (disch := omega) only [nu_k, nu_o, wI_1o, wI_2a, wJ_1a, wJ_2o]); exact (hz (33) (by omega)).1) (by decide) ⟨rfl, rfl⟩ (by decide +kernel) rfl rfl (fun f g => rfl) dX5_init_10 fc_X5_9 rfl 13 rfl ?_
  refine k_aload_n hX dX5_init_13 0 rfl 14 rfl ?_
  refine k_iconst hX (v := (nI 0)) dX5_init_14 rfl 15 rfl ?_
  refine k_put0_5 hX (k := 33) (j := 1) (ty := .int) (show kd 33 = 5 by decide +kernel) (show 33 < 35 by decide) (by decide) rfl (by decide +kernel) (by decide) (by decide) (by show some (Value.int (s.1 33 1)) = _; (try simp (disch := omega) only [nu_k, nu_o, wI_1o, wI_2a, wJ_1a, wJ_2o]); rw [(hz 33 (by omega)).2.1]; rfl) dX5_init_15 fc_X5_15 18 rfl ?_
  refine k_aload_n hX dX5_init_18 0 rfl 19 rfl ?_
  refine k_iconst hX (v := (nI 0)) dX5_init_19 rfl 20 rfl ?_
  refine k_put0_5 hX (k := 33) (j := 2) (ty := .int) (show kd 33 = 5 by decide +kernel) (show 33 < 35 by decide) (by decide) rfl (by decide +kernel) (by decide) (by decide) (by show some (Value.int (s.1 33 2)) = _; (try simp (disch := omega) only [nu_k, nu_o, wI_1o, wI_2a, wJ_1a, wJ_2o]); rw [(hz 33 (by omega)).2.1]; rfl) dX5_init_20 fc_X5_19 23 rfl ?_
  refine k_aload_n hX dX5_init_23 0 rfl 24 rfl ?_
  refine k_iconst hX (v := (nI 0)) dX5_init_24 rfl 25 rfl ?_
  refine k_put0_5 hX (k := 33) (j := 3) (ty := .int) (show kd 33 = 5 by decide +kernel) (show 33 < 35 by decide) (by decide) rfl (by decide +kernel) (by decide) (by decide) (by show some (Value.int (s.1 33 3)) = _; (try simp (disch := omega) only [nu_k, nu_o, wI_1o, wI_2a, wJ_1a, wJ_2o]); rw [(hz 33 (by omega)).2.1]; rfl) dX5_init_25 fc_X5_22 28 rfl ?_
  refine k_aload_n hX dX5_init_28 0 rfl 29 rfl ?_
  refine k_iconst hX (v := (nI 0)) dX5_init_29 rfl 30 rfl ?_
  refine k_put0_5 hX (k := 33) (j := 4) (ty := .int) (show kd 33 = 5 by decide +kernel) (show 33 < 35 by decide) (by decide) rfl (by decide +kernel) (by decide) (by decide) (by show some (Value.int (s.1 33 4)) = _; (try simp (disch := omega) only [nu_k, nu_o, wI_1o, wI_2a, wJ_1a, wJ_2o]); rw [(hz 33 (by omega)).2.1]; rfl) dX5_init_30 fc_X5_25 33 rfl ?_
  refine k_aload_n hX dX5_init_33 0 rfl 34 rfl ?_
  refine k_iconst hX (v := (nI 0)) dX5_init_34 rfl 35 rfl ?_
  refine k_put0_5 hX (k := 33) (j := 5) (ty := .int) (show kd 33 = 5 by decide +kernel) (show 33 < 35 by decide) (by decide) rfl (by decide +kernel) (by decide) (by decide) (by show some (Value.int (s.1 33 5)) = _; (try simp (disch := omega) only [nu_k, nu_o, wI_1o, wI_2a, wJ_1a, wJ_2o]); rw [(hz 33 (by omega)).2.1]; rfl) dX5_init_35 fc_X5_28 38 rfl ?_
  refine k_aload_n hX dX5_init_38 0 rfl 39 rfl ?_
  refine k_iconst hX (v := (nI 0)) dX5_init_39 rfl 40 rfl ?_
  refine k_put0_5 hX (k := 33) (j := 6) (ty := .int) (show kd 33 = 5 by decide +kernel) (show 33 < 35 by decide) (by decide) rfl (by decide +kernel) (by decide) (by decide) (by show some (Value.int (s.1 33 6)) = _; (try simp (disch := omega) only [nu_k, nu_o, wI_1o, wI_2a, wJ_1a, wJ_2o]); rw [(hz 33 (by omega)).2.1]; rfl) dX5_init_40 fc_X5_31 43 rfl ?_
  refine k_aload_n hX dX5_init_43 0 rfl 44 rfl ?_
  refine k_iconst hX (v := (nI 0)) dX5_init_44 rfl 45 rfl ?_
  refine k_put0_5 hX (k := 33) (j := 7) (ty := .int) (show kd 33 = 5 by decide +kernel) (show 33 < 35 by decide) (by decide) rfl (by decide +kernel) (by decide) (by decide) (by show some (Value.int (s.1 33 7)) = _; (try simp (disch := omega) only [nu_k, nu_o, wI_1o, wI_2a, wJ_1a, wJ_2o]); rw [(hz 33 (by omega)).2.1]; rfl) dX5_init_45 fc_X5_34 48 rfl ?_
  exact k_ret hX dX5_init_48 rfl)
theorem dX1_init_0 : decode cX1_init 0 = .ok (.aload_n 0, 1) := by decide +kernel
theorem dX1_init_1 : decode cX1_init 1 = .ok (.invokespecial 3, 3) := by decide +kernel
theorem dX1_init_4 : decode cX1_init 4 = .ok (.aload_n 0, 1) := by decide +kernel
theorem dX1_init_5 : decode cX1_init 5 = .ok (.bipush 8, 2) := by decide +kernel
theorem dX1_init_7 : decode cX1_init 7 = .ok (.anewarray 9, 3) := by decide +kernel
theorem dX1_init_10 : decode cX1_init 10 = .ok (.putfield 11, 3) := by decide +kernel
theorem dX1_init_13 : decode cX1_init 13 = .ok (.aload_n 0, 1) := by decide +kernel
theorem dX1_init_14 : decode cX1_init 14 = .ok (.iconst 0, 1) := by decide +kernel
theorem dX1_init_15 : decode cX1_init 15 = .ok (.putfield 17, 3) := by decide +kernel
theorem dX1_init_18 : decode cX1_init 18 = .ok (.aload_n 0, 1) := by decide +kernel
theorem dX1_init_19 : decode cX1_init 19 = .ok (.iconst 0, 1) := by decide +kernel
theorem dX1_init_20 : decode cX1_init 20 = .ok (.putfield 21, 3) := by decide +kernel
theorem dX1_init_23 : decode cX1_init 23 = .ok (.aload_n 0, 1) := by decide +kernel
theorem dX1_init_24 : decode cX1_init 24 = .ok (.iconst 0, 1) := by decide +kernel
theorem dX1_init_25 : decode cX1_init 25 = .ok (.putfield 24, 3) := by decide +kernel
theorem dX1_init_28 : decode cX1_init 28 = .ok (.aload_n 0, 1) := by decide +kernel
theorem dX1_init_29 : decode cX1_init 29 = .ok (.iconst 0, 1) := by decide +kernel
theorem dX1_init_30 : decode cX1_init 30 = .ok (.putfield 27, 3) := by decide +kernel
theorem dX1_init_33 : decode cX1_init 33 = .ok (.aload_n 0, 1) := by decide +kernel
theorem dX1_init_34 : decode cX1_init 34 = .ok (.lconst 0, 1) := by decide +kernel
theorem dX1_init_35 : decode cX1_init 35 = .ok (.putfield 31, 3) := by decide +kernel
theorem dX1_init_38 : decode cX1_init 38 = .ok (.aload_n 0, 1) := by decide +kernel
theorem dX1_init_39 : decode cX1_init 39 = .ok (.lconst 1, 1) := by decide +kernel
theorem dX1_init_40 : decode cX1_init 40 = .ok (.putfield 35, 3) := by decide +kernel
theorem dX1_init_43 : decode cX1_init 43 = .ok (.iconst 0, 1) := by decide +kernel
theorem dX1_init_44 : decode cX1_init 44 = .ok (.istore_n 1, 1) := by decide +kernel
theorem dX1_init_45 : decode cX1_init 45 = .ok (.iload_n 1, 1) := by decide +kernel
theorem dX1_init_46 : decode cX1_init 46 = .ok (.bipush 8, 2) := by decide +kernel
theorem dX1_init_48 : decode cX1_init 48 = .ok (.if_icmp .ge 22, 3) := by decide +kernel
theorem dX1_init_51 : decode cX1_init 51 = .ok (.aload_n 0, 1) := by decide +kernel
theorem dX1_init_52 : decode cX1_init 52 = .ok (.getfield 11, 3) := by decide +kernel
theorem dX1_init_55 : decode cX1_init 55 = .ok (.iload_n 1, 1) := by decide +kernel
theorem dX1_init_56 : decode cX1_init 56 = .ok (.new 9, 3) := by decide +kernel
theorem dX1_init_59 : decode cX1_init 59 = .ok (.dup, 1) := by decide +kernel
theorem dX1_init_60 : decode cX1_init 60 = .ok (.invokespecial 38, 3) := by decide +kernel
theorem dX1_init_63 : decode cX1_init 63 = .ok (.aastore, 1) := by decide +kernel
theorem dX1_init_64 : decode cX1_init 64 = .ok (.iinc 1 1, 3) := by decide +kernel
theorem dX1_init_67 : decode cX1_init 67 = .ok (.goto (-22), 3) := by decide +kernel
theorem dX1_init_70 : decode cX1_init 70 = .ok (.return_, 1) := by decide +kernel
set_option maxHeartbeats 8000000 in
set_option maxRecDepth 100000 in
theorem c_X1_init {lc : Launch} {Γ : Gm} {B : Nat} {N : Nat → Nat} {s : St} (hG : GB Γ B) (hz : ∀ k, 36 ≤ k → N k = 0 ∧ s.1 k = (fun _ => 0) ∧ s.2 k = (fun _ => 0)) : Ck lc Γ B yX1_init cX1_init 2 2 105 992 [.ref (gL Γ (36))] (37, N, s) (142, (nu (nu (nu (nu (nu (nu (nu (nu (nu (nu (nu (nu (nu (nu (nu (nu (nu N 36 1) 38 12) 37 1) 51 12) 37 2) 64 12) 37 3) 77 12) 37 4) 90 12) 37 5) 103 12) 37 6) 116 12) 37 7) 129 12) 37 8), (wJ s 36 6 (lN 1))) := Ck.of hG (by decide +kernel) rfl (Nat.le_of_ble_eq_true rfl) (fun X hl hX => by
  subst hl
  refine k_aload_n hX dX1_init_0 0 rfl 1 rfl ?_
  refine k_obj hX dX1_init_1 ob_X1 ob_i ob_c (Nat.le_of_ble_eq_true rfl) (by decide) 4 rfl ?_
  refine k_aload_n hX dX1_init_4 0 rfl 5 rfl ?_
  refine k_bipush hX (v := (nI 8)) dX1_init_5 (by decide) 7 rfl ?_
  refine k_anew12 hX 8 dX1_init_7 cl_X1_9 (by decide) (by decide) (by decide) (show kd 37 = 12 by decide +kernel) (show ln 37 = 8 by decide +kernel) (show N 37 = 0 by (try simp (disch := omega) only [nu_k, nu_o, wI_1o, wI_2a, wJ_1a, wJ_2o]); exact (hz 37 (by omega)).1) ⟨Nat.le_of_ble_eq_true rfl, Nat.le_of_ble_eq_true rfl⟩ 10 rfl (38, N, s) rfl ((MQ (xb X) (Pk Γ B (142, (nu (nu (nu (nu (nu (nu (nu (nu (nu (nu (nu (nu (nu (nu (nu (nu (nu N 36 1) 38 12) 37 1) 51 12) 37 2) 64 12) 37 3) 77 12) 37 4) 90 12) 37 5) 103 12) 37 6) 116 12) 37 7) 129 12) 37 8), (wJ s 36 6 (lN 1)))) (xa X) (xs X) 105 992 (gA Γ)), 1, 8) rfl ?_
  refine k_putR_1 hX (k := 36) (j := 0) (t := 37) (ty := .array (.object "SmokeSeats$Room")) 0 (38, (nu N 36 1), s) (show kd 36 = 1 by decide +kernel) (show 36 < 38 by decide) (by (try simp (disch := omega) only [nu_k, nu_o, wI_1o, wI_2a, wJ_1a, wJ_2o]); exact (hz (36) (by omega)).1) (by decide) ⟨rfl, rfl⟩ (by decide +kernel) rfl rfl (fun f g => rfl) dX1_init_10 fc_X1_11 rfl 13 rfl ?_
  refine k_aload_n hX dX1_init_13 0 rfl 14 rfl ?_
  refine k_iconst hX (v := (nI 0)) dX1_init_14 rfl 15 rfl ?_
  refine k_put0_1 hX (k := 36) (j := 1) (ty := .int) (show kd 36 = 1 by decide +kernel) (show 36 < 38 by decide) (by decide) rfl (by decide +kernel) (by decide) (by decide) (by show some (Value.int (s.1 36 1)) = _; (try simp (disch := omega) only [nu_k, nu_o, wI_1o, wI_2a, wJ_1a, wJ_2o]); rw [(hz 36 (by omega)).2.1]; rfl) dX1_init_15 fc_X1_17 18 rfl ?_
  refine k_aload_n hX dX1_init_18 0 rfl 19 rfl ?_
  refine k_iconst hX (v := (nI 0)) dX1_init_19 rfl 20 rfl ?_
  refine k_put0_1 hX (k := 36) (j := 2) (ty := .int) (show kd 36 = 1 by decide +kernel) (show 36 < 38 by decide) (by decide) rfl (by decide +kernel) (by decide) (by decide) (by show some (Value.int (s.1 36 2)) = _; (try simp (disch := omega) only [nu_k, nu_o, wI_1o, wI_2a, wJ_1a, wJ_2o]); rw [(hz 36 (by omega)).2.1]; rfl) dX1_init_20 fc_X1_21 23 rfl ?_
  refine k_aload_n hX dX1_init_23 0 rfl 24 rfl ?_
  refine k_iconst hX (v := (nI 0)) dX1_init_24 rfl 25 rfl ?_
  refine k_put0_1 hX (k := 36) (j := 3) (ty := .int) (show kd 36 = 1 by decide +kernel) (show 36 < 38 by decide) (by decide) rfl (by decide +kernel) (by decide) (by decide) (by show some (Value.int (s.1 36 3)) = _; (try simp (disch := omega) only [nu_k, nu_o, wI_1o, wI_2a, wJ_1a, wJ_2o]); rw [(hz 36 (by omega)).2.1]; rfl) dX1_init_25 fc_X1_24 28 rfl ?_
  refine k_aload_n hX dX1_init_28 0 rfl 29 rfl ?_
  refine k_iconst hX (v := (nI 0)) dX1_init_29 rfl 30 rfl ?_
  refine k_put0_1 hX (k := 36) (j := 4) (ty := .boolean) (show kd 36 = 1 by decide +kernel) (show 36 < 38 by decide) (by decide) rfl (by decide +kernel) (by decide) (by decide) (by show some (Value.int (s.1 36 4)) = _; (try simp (disch := omega) only [nu_k, nu_o, wI_1o, wI_2a, wJ_1a, wJ_2o]); rw [(hz 36 (by omega)).2.1]; rfl) dX1_init_30 fc_X1_27 33 rfl ?_
  refine k_aload_n hX dX1_init_33 0 rfl 34 rfl ?_
  refine k_lconst hX (v := (lN 0)) dX1_init_34 rfl 35 rfl ?_
  refine k_put0_1 hX (k := 36) (j := 5) (ty := .long) (show kd 36 = 1 by decide +kernel) (show 36 < 38 by decide) (by decide) rfl (by decide +kernel) (by decide) (by decide) (by show some (Value.long (s.2 36 5)) = _; (try simp (disch := omega) only [nu_k, nu_o, wI_1o, wI_2a, wJ_1a, wJ_2o]); rw [(hz 36 (by omega)).2.2]; rfl) dX1_init_35 fc_X1_31 38 rfl ?_
  refine k_aload_n hX dX1_init_38 0 rfl 39 rfl ?_
  refine k_lconst hX (v := (lN 1)) dX1_init_39 rfl 40 rfl ?_
  refine k_putJ_1 hX (k := 36) (j := 6) (38, (nu N 36 1), (wJ s 36 6 (lN 1))) (show kd 36 = 1 by decide +kernel) (show 36 < 38 by decide) (by decide) rfl (by decide +kernel) (fun n f g => by simp [flN, entN, vp_updL]) dX1_init_40 fc_X1_35 rfl 43 rfl ?_
  refine k_iconst hX (v := (nI 0)) dX1_init_43 rfl 44 rfl ?_
  refine k_istore_n hX (lv2 := [(1, .int (nI 0)), (0, .ref (gL Γ (36)))]) dX1_init_44 (by decide) rfl 45 rfl ?_
  refine k_iload_n hX dX1_init_45 0 rfl 46 rfl ?_
  refine k_bipush hX (v := (nI 8)) dX1_init_46 (by decide) 48 rfl ?_
  refine k_geN hX 70 dX1_init_48 (by decide) (by decide) 51 rfl ?_
  refine k_aload_n hX dX1_init_51 1 rfl 52 rfl ?_
  refine k_get_1 hX (k := 36) (j := 0) (v := .ref (gL Γ (37))) 1 (show kd 36 = 1 by decide +kernel) (show 36 < 38 by decide) (by simp (disch := omega) only [nu_k, nu_o, wI_1o, wI_2a, wJ_1a, wJ_2o]) (by decide) rfl dX1_init_52 fc_X1_11 55 rfl ?_
  refine k_iload_n hX dX1_init_55 0 rfl 56 rfl ?_
  refine k_new2 hX dX1_init_56 cl_X1_9 is_2 ii_2 (show kd 38 = 2 by decide +kernel) (by (try simp (disch := omega) only [nu_k, nu_o, wI_1o, wI_2a, wJ_1a, wJ_2o]); exact hz (38) (by omega)) ⟨Nat.le_of_ble_eq_true rfl, Nat.le_of_ble_eq_true rfl⟩ 59 rfl (39, (nu N 36 1), (wJ s 36 6 (lN 1))) rfl ((MQ (xb X) (Pk Γ B (142, (nu (nu (nu (nu (nu (nu (nu (nu (nu (nu (nu (nu (nu (nu (nu (nu (nu N 36 1) 38 12) 37 1) 51 12) 37 2) 64 12) 37 3) 77 12) 37 4) 90 12) 37 5) 103 12) 37 6) 116 12) 37 7) 129 12) 37 8), (wJ s 36 6 (lN 1)))) (xa X) (xs X) 105 992 (gA Γ)), 2, 23) rfl ?_
  refine k_dup hX dX1_init_59 rfl 60 rfl ?_
  refine k_call hX (b := 38) (w2 := (51, (nu (nu N 36 1) 38 12), (wJ s 36 6 (lN 1)))) (c_X2_init (q := 38) hG (by decide +kernel) (fun k hk => by (try simp (disch := omega) only [nu_k, nu_o, wI_1o, wI_2a, wJ_1a, wJ_2o]); exact hz k (by omega))) li_X1_38 rfl di_X2_init (by decide) (by decide) ⟨Nat.le_of_ble_eq_true rfl, Nat.le_of_ble_eq_true rfl⟩ (Nat.le_of_ble_eq_true rfl) dX1_init_60 63 rfl ((MQ (xb X) (Pk Γ B (142, (nu (nu (nu (nu (nu (nu (nu (nu (nu (nu (nu (nu (nu (nu (nu (nu (nu N 36 1) 38 12) 37 1) 51 12) 37 2) 64 12) 37 3) 77 12) 37 4) 90 12) 37 5) 103 12) 37 6) 116 12) 37 7) 129 12) 37 8), (wJ s 36 6 (lN 1)))) (xa X) (xs X) 105 992 (gA Γ)), 14, 131) rfl ?_
  refine k_aast12 hX (k := 37) (i := 0) (51, (nu (nu (nu N 36 1) 38 12) 37 1), (wJ s 36 6 (lN 1))) (show kd 37 = 12 by decide +kernel) (show 37 < 51 by decide) (by (try simp (disch := omega) only [nu_k, nu_o, wI_1o, wI_2a, wJ_1a, wJ_2o]); exact (hz (37) (by omega)).1) (by decide +kernel) (by decide) (show kd 38 = 2 by decide +kernel) (show 38 < 51 by decide) dX1_init_63 rfl 64 rfl ?_
  refine k_iinc hX (v := (nI 1)) (lv2 := [(1, .int (nI 1)), (0, .ref (gL Γ (36)))]) dX1_init_64 0 rfl (by decide) (by decide) rfl 67 rfl ?_
  refine k_goto hX 45 dX1_init_67 (by decide) ?_
  refine k_iload_n hX dX1_init_45 0 rfl 46 rfl ?_
  refine k_bipush hX (v := (nI 8)) dX1_init_46 (by decide) 48 rfl ?_
  refine k_geN hX 70 dX1_init_48 (by decide) (by decide) 51 rfl ?_
  refine k_aload_n hX dX1_init_51 1 rfl 52 rfl ?_
  refine k_get_1 hX (k := 36) (j := 0) (v := .ref (gL Γ (37))) 1 (show kd 36 = 1 by decide +kernel) (show 36 < 51 by decide) (by simp (disch := omega) only [nu_k, nu_o, wI_1o, wI_2a, wJ_1a, wJ_2o]) (by decide) rfl dX1_init_52 fc_X1_11 55 rfl ?_
  refine k_iload_n hX dX1_init_55 0 rfl 56 rfl ?_
  refine k_new2 hX dX1_init_56 cl_X1_9 is_2 ii_2 (show kd 51 = 2 by decide +kernel) (by (try simp (disch := omega) only [nu_k, nu_o, wI_1o, wI_2a, wJ_1a, wJ_2o]); exact hz (51) (by omega)) ⟨Nat.le_of_ble_eq_true rfl, Nat.le_of_ble_eq_true rfl⟩ 59 rfl (52, (nu (nu (nu N 36 1) 38 12) 37 1), (wJ s 36 6 (lN 1))) rfl ((MQ (xb X) (Pk Γ B (142, (nu (nu (nu (nu (nu (nu (nu (nu (nu (nu (nu (nu (nu (nu (nu (nu (nu N 36 1) 38 12) 37 1) 51 12) 37 2) 64 12) 37 3) 77 12) 37 4) 90 12) 37 5) 103 12) 37 6) 116 12) 37 7) 129 12) 37 8), (wJ s 36 6 (lN 1)))) (xa X) (xs X) 105 992 (gA Γ)), 15, 146) rfl ?_
  refine k_dup hX dX1_init_59 rfl 60 rfl ?_
  refine k_call hX (b := 51) (w2 := (64, (nu (nu (nu (nu N 36 1) 38 12) 37 1) 51 12), (wJ s 36 6 (lN 1)))) (c_X2_init (q := 51) hG (by decide +kernel) (fun k hk => by (try simp (disch := omega) only [nu_k, nu_o, wI_1o, wI_2a, wJ_1a, wJ_2o]); exact hz k (by omega))) li_X1_38 rfl di_X2_init (by decide) (by decide) ⟨Nat.le_of_ble_eq_true rfl, Nat.le_of_ble_eq_true rfl⟩ (Nat.le_of_ble_eq_true rfl) dX1_init_60 63 rfl ((MQ (xb X) (Pk Γ B (142, (nu (nu (nu (nu (nu (nu (nu (nu (nu (nu (nu (nu (nu (nu (nu (nu (nu N 36 1) 38 12) 37 1) 51 12) 37 2) 64 12) 37 3) 77 12) 37 4) 90 12) 37 5) 103 12) 37 6) 116 12) 37 7) 129 12) 37 8), (wJ s 36 6 (lN 1)))) (xa X) (xs X) 105 992 (gA Γ)), 27, 254) rfl ?_
  refine k_aast12 hX (k := 37) (i := 1) (64, (nu (nu (nu (nu (nu N 36 1) 38 12) 37 1) 51 12) 37 2), (wJ s 36 6 (lN 1))) (show kd 37 = 12 by decide +kernel) (show 37 < 64 by decide) (by simp (disch := omega) only [nu_k, nu_o, wI_1o, wI_2a, wJ_1a, wJ_2o]) (by decide +kernel) (by decide) (show kd 51 = 2 by decide +kernel) (show 51 < 64 by decide) dX1_init_63 rfl 64 rfl ?_
  refine k_iinc hX (v := (nI 2)) (lv2 := [(1, .int (nI 2)), (0, .ref (gL Γ (36)))]) dX1_init_64 0 rfl (by decide) (by decide) rfl 67 rfl ?_
  refine k_goto hX 45 dX1_init_67 (by decide) ?_
  refine k_iload_n hX dX1_init_45 0 rfl 46 rfl ?_
  refine k_bipush hX (v := (nI 8)) dX1_init_46 (by decide) 48 rfl ?_
  refine k_geN hX 70 dX1_init_48 (by decide) (by decide) 51 rfl ?_
  refine k_aload_n hX dX1_init_51 1 rfl 52 rfl ?_
  refine k_get_1 hX (k := 36) (j := 0) (v := .ref (gL Γ (37))) 1 (show kd 36 = 1 by decide +kernel) (show 36 < 64 by decide) (by simp (disch := omega) only [nu_k, nu_o, wI_1o, wI_2a, wJ_1a, wJ_2o]) (by decide) rfl dX1_init_52 fc_X1_11 55 rfl ?_
  refine k_iload_n hX dX1_init_55 0 rfl 56 rfl ?_
  refine k_new2 hX dX1_init_56 cl_X1_9 is_2 ii_2 (show kd 64 = 2 by decide +kernel) (by (try simp (disch := omega) only [nu_k, nu_o, wI_1o, wI_2a, wJ_1a, wJ_2o]); exact hz (64) (by omega)) ⟨Nat.le_of_ble_eq_true rfl, Nat.le_of_ble_eq_true rfl⟩ 59 rfl (65, (nu (nu (nu (nu (nu N 36 1) 38 12) 37 1) 51 12) 37 2), (wJ s 36 6 (lN 1))) rfl ((MQ (xb X) (Pk Γ B (142, (nu (nu (nu (nu (nu (nu (nu (nu (nu (nu (nu (nu (nu (nu (nu (nu (nu N 36 1) 38 12) 37 1) 51 12) 37 2) 64 12) 37 3) 77 12) 37 4) 90 12) 37 5) 103 12) 37 6) 116 12) 37 7) 129 12) 37 8), (wJ s 36 6 (lN 1)))) (xa X) (xs X) 105 992 (gA Γ)), 28, 269) rfl ?_
  refine k_dup hX dX1_init_59 rfl 60 rfl ?_
  refine k_call hX (b := 64) (w2 := (77, (nu (nu (nu (nu (nu (nu N 36 1) 38 12) 37 1) 51 12) 37 2) 64 12), (wJ s 36 6 (lN 1)))) (c_X2_init (q := 64) hG (by decide +kernel) (fun k hk => by (try simp (disch := omega) only [nu_k, nu_o, wI_1o, wI_2a, wJ_1a, wJ_2o]); exact hz k (by omega))) li_X1_38 rfl di_X2_init (by decide) (by decide) ⟨Nat.le_of_ble_eq_true rfl, Nat.le_of_ble_eq_true rfl⟩ (Nat.le_of_ble_eq_true rfl) dX1_init_60 63 rfl ((MQ (xb X) (Pk Γ B (142, (nu (nu (nu (nu (nu (nu (nu (nu (nu (nu (nu (nu (nu (nu (nu (nu (nu N 36 1) 38 12) 37 1) 51 12) 37 2) 64 12) 37 3) 77 12) 37 4) 90 12) 37 5) 103 12) 37 6) 116 12) 37 7) 129 12) 37 8), (wJ s 36 6 (lN 1)))) (xa X) (xs X) 105 992 (gA Γ)), 40, 377) rfl ?_
  refine k_aast12 hX (k := 37) (i := 2) (77, (nu (nu (nu (nu (nu (nu (nu N 36 1) 38 12) 37 1) 51 12) 37 2) 64 12) 37 3), (wJ s 36 6 (lN 1))) (show kd 37 = 12 by decide +kernel) (show 37 < 77 by decide) (by simp (disch := omega) only [nu_k, nu_o, wI_1o, wI_2a, wJ_1a, wJ_2o]) (by decide +kernel) (by decide) (show kd 64 = 2 by decide +kernel) (show 64 < 77 by decide) dX1_init_63 rfl 64 rfl ?_
  refine k_iinc hX (v := (nI 3)) (lv2 := [(1, .int (nI 3)), (0, .ref (gL Γ (36)))]) dX1_init_64 0 rfl (by decide) (by decide) rfl 67 rfl ?_
  refine k_goto hX 45 dX1_init_67 (by decide) ?_
  refine k_iload_n hX dX1_init_45 0 rfl 46 rfl ?_
  refine k_bipush hX (v := (nI 8)) dX1_init_46 (by decide) 48 rfl ?_
  refine k_geN hX 70 dX1_init_48 (by decide) (by decide) 51 rfl ?_
  refine k_aload_n hX dX1_init_51 1 rfl 52 rfl ?_
  refine k_get_1 hX (k := 36) (j := 0) (v := .ref (gL Γ (37))) 1 (show kd 36 = 1 by decide +kernel) (show 36 < 77 by decide) (by simp (disch := omega) only [nu_k, nu_o, wI_1o, wI_2a, wJ_1a, wJ_2o]) (by decide) rfl dX1_init_52 fc_X1_11 55 rfl ?_
  refine k_iload_n hX dX1_init_55 0 rfl 56 rfl ?_
  refine k_new2 hX dX1_init_56 cl_X1_9 is_2 ii_2 (show kd 77 = 2 by decide +kernel) (by (try simp (disch := omega) only [nu_k, nu_o, wI_1o, wI_2a, wJ_1a, wJ_2o]); exact hz (77) (by omega)) ⟨Nat.le_of_ble_eq_true rfl, Nat.le_of_ble_eq_true rfl⟩ 59 rfl (78, (nu (nu (nu (nu (nu (nu (nu N 36 1) 38 12) 37 1) 51 12) 37 2) 64 12) 37 3), (wJ s 36 6 (lN 1))) rfl ((MQ (xb X) (Pk Γ B (142, (nu (nu (nu (nu (nu (nu (nu (nu (nu (nu (nu (nu (nu (nu (nu (nu (nu N 36 1) 38 12) 37 1) 51 12) 37 2) 64 12) 37 3) 77 12) 37 4) 90 12) 37 5) 103 12) 37 6) 116 12) 37 7) 129 12) 37 8), (wJ s 36 6 (lN 1)))) (xa X) (xs X) 105 992 (gA Γ)), 41, 392) rfl ?_
  refine k_dup hX dX1_init_59 rfl 60 rfl ?_
  refine k_call hX (b := 77) (w2 := (90, (nu (nu (nu (nu (nu (nu (nu (nu N 36 1) 38 12) 37 1) 51 12) 37 2) 64 12) 37 3) 77 12), (wJ s 36 6 (lN 1)))) (c_X2_init (q := 77) hG (by decide +kernel) (fun k hk => by (try simp (disch := omega) only [nu_k, nu_o, wI_1o, wI_2a, wJ_1a, wJ_2o]); exact hz k (by omega))) li_X1_38 rfl di_X2_init (by decide) (by decide) ⟨Nat.le_of_ble_eq_true rfl, Nat.le_of_ble_eq_true rfl⟩ (Nat.le_of_ble_eq_true rfl) dX1_init_60 63 rfl ((MQ (xb X) (Pk Γ B (142, (nu (nu (nu (nu (nu (nu (nu (nu (nu (nu (nu (nu (nu (nu (nu (nu (nu N 36 1) 38 12) 37 1) 51 12) 37 2) 64 12) 37 3) 77 12) 37 4) 90 12) 37 5) 103 12) 37 6) 116 12) 37 7) 129 12) 37 8), (wJ s 36 6 (lN 1)))) (xa X) (xs X) 105 992 (gA Γ)), 53, 500) rfl ?_
  refine k_aast12 hX (k := 37) (i := 3) (90, (nu (nu (nu (nu (nu (nu (nu (nu (nu N 36 1) 38 12) 37 1) 51 12) 37 2) 64 12) 37 3) 77 12) 37 4), (wJ s 36 6 (lN 1))) (show kd 37 = 12 by decide +kernel) (show 37 < 90 by decide) (by simp (disch := omega) only [nu_k, nu_o, wI_1o, wI_2a, wJ_1a, wJ_2o]) (by decide +kernel) (by decide) (show kd 77 = 2 by decide +kernel) (show 77 < 90 by decide) dX1_init_63 rfl 64 rfl ?_
  refine k_iinc hX (v := (nI 4)) (lv2 := [(1, .int (nI 4)), (0, .ref (gL Γ (36)))]) dX1_init_64 0 rfl (by decide) (by decide) rfl 67 rfl ?_
  refine k_goto hX 45 dX1_init_67 (by decide) ?_
  refine k_iload_n hX dX1_init_45 0 rfl 46 rfl ?_
  refine k_bipush hX (v := (nI 8)) dX1_init_46 (by decide) 48 rfl ?_
  refine k_geN hX 70 dX1_init_48 (by decide) (by decide) 51 rfl ?_
  refine k_aload_n hX dX1_init_51 1 rfl 52 rfl ?_
  refine k_get_1 hX (k := 36) (j := 0) (v := .ref (gL Γ (37))) 1 (show kd 36 = 1 by decide +kernel) (show 36 < 90 by decide) (by simp (disch := omega) only [nu_k, nu_o, wI_1o, wI_2a, wJ_1a, wJ_2o]) (by decide) rfl dX1_init_52 fc_X1_11 55 rfl ?_
  refine k_iload_n hX dX1_init_55 0 rfl 56 rfl ?_
  refine k_new2 hX dX1_init_56 cl_X1_9 is_2 ii_2 (show kd 90 = 2 by decide +kernel) (by (try simp (disch := omega) only [nu_k, nu_o, wI_1o, wI_2a, wJ_1a, wJ_2o]); exact hz (90) (by omega)) ⟨Nat.le_of_ble_eq_true rfl, Nat.le_of_ble_eq_true rfl⟩ 59 rfl (91, (nu (nu (nu (nu (nu (nu (nu (nu (nu N 36 1) 38 12) 37 1) 51 12) 37 2) 64 12) 37 3) 77 12) 37 4), (wJ s 36 6 (lN 1))) rfl ((MQ (xb X) (Pk Γ B (142, (nu (nu (nu (nu (nu (nu (nu (nu (nu (nu (nu (nu (nu (nu (nu (nu (nu N 36 1) 38 12) 37 1) 51 12) 37 2) 64 12) 37 3) 77 12) 37 4) 90 12) 37 5) 103 12) 37 6) 116 12) 37 7) 129 12) 37 8), (wJ s 36 6 (lN 1)))) (xa X) (xs X) 105 992 (gA Γ)), 54, 515) rfl ?_
  refine k_dup hX dX1_init_59 rfl 60 rfl ?_
  refine k_call hX (b := 90) (w2 := (103, (nu (nu (nu (nu (nu (nu (nu (nu (nu (nu N 36 1) 38 12) 37 1) 51 12) 37 2) 64 12) 37 3) 77 12) 37 4) 90 12), (wJ s 36 6 (lN 1)))) (c_X2_init (q := 90) hG (by decide +kernel) (fun k hk => by (try simp (disch := omega) only [nu_k, nu_o, wI_1o, wI_2a, wJ_1a, wJ_2o]); exact hz k (by omega))) li_X1_38 rfl di_X2_init (by decide) (by decide) ⟨Nat.le_of_ble_eq_true rfl, Nat.le_of_ble_eq_true rfl⟩ (Nat.le_of_ble_eq_true rfl) dX1_init_60 63 rfl ((MQ (xb X) (Pk Γ B (142, (nu (nu (nu (nu (nu (nu (nu (nu (nu (nu (nu (nu (nu (nu (nu (nu (nu N 36 1) 38 12) 37 1) 51 12) 37 2) 64 12) 37 3) 77 12) 37 4) 90 12) 37 5) 103 12) 37 6) 116 12) 37 7) 129 12) 37 8), (wJ s 36 6 (lN 1)))) (xa X) (xs X) 105 992 (gA Γ)), 66, 623) rfl ?_
  refine k_aast12 hX (k := 37) (i := 4) (103, (nu (nu (nu (nu (nu (nu (nu (nu (nu (nu (nu N 36 1) 38 12) 37 1) 51 12) 37 2) 64 12) 37 3) 77 12) 37 4) 90 12) 37 5), (wJ s 36 6 (lN 1))) (show kd 37 = 12 by decide +kernel) (show 37 < 103 by decide) (by simp (disch := omega) only [nu_k, nu_o, wI_1o, wI_2a, wJ_1a, wJ_2o]) (by decide +kernel) (by decide) (show kd 90 = 2 by decide +kernel) (show 90 < 103 by decide) dX1_init_63 rfl 64 rfl ?_
  refine k_iinc hX (v := (nI 5)) (lv2 := [(1, .int (nI 5)), (0, .ref (gL Γ (36)))]) dX1_init_64 0 rfl (by decide) (by decide) rfl 67 rfl ?_
  refine k_goto hX 45 dX1_init_67 (by decide) ?_
  refine k_iload_n hX dX1_init_45 0 rfl 46 rfl ?_
  refine k_bipush hX (v := (nI 8)) dX1_init_46 (by decide) 48 rfl ?_
  refine k_geN hX 70 dX1_init_48 (by decide) (by decide) 51 rfl ?_
  refine k_aload_n hX dX1_init_51 1 rfl 52 rfl ?_
  refine k_get_1 hX (k := 36) (j := 0) (v := .ref (gL Γ (37))) 1 (show kd 36 = 1 by decide +kernel) (show 36 < 103 by decide) (by simp (disch := omega) only [nu_k, nu_o, wI_1o, wI_2a, wJ_1a, wJ_2o]) (by decide) rfl dX1_init_52 fc_X1_11 55 rfl ?_
  refine k_iload_n hX dX1_init_55 0 rfl 56 rfl ?_
  refine k_new2 hX dX1_init_56 cl_X1_9 is_2 ii_2 (show kd 103 = 2 by decide +kernel) (by (try simp (disch := omega) only [nu_k, nu_o, wI_1o, wI_2a, wJ_1a, wJ_2o]); exact hz (103) (by omega)) ⟨Nat.le_of_ble_eq_true rfl, Nat.le_of_ble_eq_true rfl⟩ 59 rfl (104, (nu (nu (nu (nu (nu (nu (nu (nu (nu (nu (nu N 36 1) 38 12) 37 1) 51 12) 37 2) 64 12) 37 3) 77 12) 37 4) 90 12) 37 5), (wJ s 36 6 (lN 1))) rfl ((MQ (xb X) (Pk Γ B (142, (nu (nu (nu (nu (nu (nu (nu (nu (nu (nu (nu (nu (nu (nu (nu (nu (nu N 36 1) 38 12) 37 1) 51 12) 37 2) 64 12) 37 3) 77 12) 37 4) 90 12) 37 5) 103 12) 37 6) 116 12) 37 7) 129 12) 37 8), (wJ s 36 6 (lN 1)))) (xa X) (xs X) 105 992 (gA Γ)), 67, 638) rfl ?_
  refine k_dup hX dX1_init_59 rfl 60 rfl ?_
  refine k_call hX (b := 103) (w2 := (116, (nu (nu (nu (nu (nu (nu (nu (nu (nu (nu (nu (nu N 36 1) 38 12) 37 1) 51 12) 37 2) 64 12) 37 3) 77 12) 37 4) 90 12) 37 5) 103 12), (wJ s 36 6 (lN 1)))) (c_X2_init (q := 103) hG (by decide +kernel) (fun k hk => by (try simp (disch := omega) only [nu_k, nu_o, wI_1o, wI_2a, wJ_1a, wJ_2o]); exact hz k (by omega))) li_X1_38 rfl di_X2_init (by decide) (by decide) ⟨Nat.le_of_ble_eq_true rfl, Nat.le_of_ble_eq_true rfl⟩ (Nat.le_of_ble_eq_true rfl) dX1_init_60 63 rfl ((MQ (xb X) (Pk Γ B (142, (nu (nu (nu (nu (nu (nu (nu (nu (nu (nu (nu (nu (nu (nu (nu (nu (nu N 36 1) 38 12) 37 1) 51 12) 37 2) 64 12) 37 3) 77 12) 37 4) 90 12) 37 5) 103 12) 37 6) 116 12) 37 7) 129 12) 37 8), (wJ s 36 6 (lN 1)))) (xa X) (xs X) 105 992 (gA Γ)), 79, 746) rfl ?_
  refine k_aast12 hX (k := 37) (i := 5) (116, (nu (nu (nu (nu (nu (nu (nu (nu (nu (nu (nu (nu (nu N 36 1) 38 12) 37 1) 51 12) 37 2) 64 12) 37 3) 77 12) 37 4) 90 12) 37 5) 103 12) 37 6), (wJ s 36 6 (lN 1))) (show kd 37 = 12 by decide +kernel) (show 37 < 116 by decide) (by simp (disch := omega) only [nu_k, nu_o, wI_1o, wI_2a, wJ_1a, wJ_2o]) (by decide +kernel) (by decide) (show kd 103 = 2 by decide +kernel) (show 103 < 116 by decide) dX1_init_63 rfl 64 rfl ?_
  refine k_iinc hX (v := (nI 6)) (lv2 := [(1, .int (nI 6)), (0, .ref (gL Γ (36)))]) dX1_init_64 0 rfl (by decide) (by decide) rfl 67 rfl ?_
  refine k_goto hX 45 dX1_init_67 (by decide) ?_
  refine k_iload_n hX dX1_init_45 0 rfl 46 rfl ?_
  refine k_bipush hX (v := (nI 8)) dX1_init_46 (by decide) 48 rfl ?_
  refine k_geN hX 70 dX1_init_48 (by decide) (by decide) 51 rfl ?_
  refine k_aload_n hX dX1_init_51 1 rfl 52 rfl ?_
  refine k_get_1 hX (k := 36) (j := 0) (v := .ref (gL Γ (37))) 1 (show kd 36 = 1 by decide +kernel) (show 36 < 116 by decide) (by simp (disch := omega) only [nu_k, nu_o, wI_1o, wI_2a, wJ_1a, wJ_2o]) (by decide) rfl dX1_init_52 fc_X1_11 55 rfl ?_
  refine k_iload_n hX dX1_init_55 0 rfl 56 rfl ?_
  refine k_new2 hX dX1_init_56 cl_X1_9 is_2 ii_2 (show kd 116 = 2 by decide +kernel) (by (try simp (disch := omega) only [nu_k, nu_o, wI_1o, wI_2a, wJ_1a, wJ_2o]); exact hz (116) (by omega)) ⟨Nat.le_of_ble_eq_true rfl, Nat.le_of_ble_eq_true rfl⟩ 59 rfl (117, (nu (nu (nu (nu (nu (nu (nu (nu (nu (nu (nu (nu (nu N 36 1) 38 12) 37 1) 51 12) 37 2) 64 12) 37 3) 77 12) 37 4) 90 12) 37 5) 103 12) 37 6), (wJ s 36 6 (lN 1))) rfl ((MQ (xb X) (Pk Γ B (142, (nu (nu (nu (nu (nu (nu (nu (nu (nu (nu (nu (nu (nu (nu (nu (nu (nu N 36 1) 38 12) 37 1) 51 12) 37 2) 64 12) 37 3) 77 12) 37 4) 90 12) 37 5) 103 12) 37 6) 116 12) 37 7) 129 12) 37 8), (wJ s 36 6 (lN 1)))) (xa X) (xs X) 105 992 (gA Γ)), 80, 761) rfl ?_
  refine k_dup hX dX1_init_59 rfl 60 rfl ?_
  refine k_call hX (b := 116) (w2 := (129, (nu (nu (nu (nu (nu (nu (nu (nu (nu (nu (nu (nu (nu (nu N 36 1) 38 12) 37 1) 51 12) 37 2) 64 12) 37 3) 77 12) 37 4) 90 12) 37 5) 103 12) 37 6) 116 12), (wJ s 36 6 (lN 1)))) (c_X2_init (q := 116) hG (by decide +kernel) (fun k hk => by (try simp (disch := omega) only [nu_k, nu_o, wI_1o, wI_2a, wJ_1a, wJ_2o]); exact hz k (by omega))) li_X1_38 rfl di_X2_init (by decide) (by decide) ⟨Nat.le_of_ble_eq_true rfl, Nat.le_of_ble_eq_true rfl⟩ (Nat.le_of_ble_eq_true rfl) dX1_init_60 63 rfl ((MQ (xb X) (Pk Γ B (142, (nu (nu (nu (nu (nu (nu (nu (nu (nu (nu (nu (nu (nu (nu (nu (nu (nu N 36 1) 38 12) 37 1) 51 12) 37 2) 64 12) 37 3) 77 12) 37 4) 90 12) 37 5) 103 12) 37 6) 116 12) 37 7) 129 12) 37 8), (wJ s 36 6 (lN 1)))) (xa X) (xs X) 105 992 (gA Γ)), 92, 869) rfl ?_
  refine k_aast12 hX (k := 37) (i := 6) (129, (nu (nu (nu (nu (nu (nu (nu (nu (nu (nu (nu (nu (nu (nu (nu N 36 1) 38 12) 37 1) 51 12) 37 2) 64 12) 37 3) 77 12) 37 4) 90 12) 37 5) 103 12) 37 6) 116 12) 37 7), (wJ s 36 6 (lN 1))) (show kd 37 = 12 by decide +kernel) (show 37 < 129 by decide) (by simp (disch := omega) only [nu_k, nu_o, wI_1o, wI_2a, wJ_1a, wJ_2o]) (by decide +kernel) (by decide) (show kd 116 = 2 by decide +kernel) (show 116 < 129 by decide) dX1_init_63 rfl 64 rfl ?_
  refine k_iinc hX (v := (nI 7)) (lv2 := [(1, .int (nI 7)), (0, .ref (gL Γ (36)))]) dX1_init_64 0 rfl (by decide) (by decide) rfl 67 rfl ?_
  refine k_goto hX 45 dX1_init_67 (by decide) ?_
  refine k_iload_n hX dX1_init_45 0 rfl 46 rfl ?_
  refine k_bipush hX (v := (nI 8)) dX1_init_46 (by decide) 48 rfl ?_
  refine k_geN hX 70 dX1_init_48 (by decide) (by decide) 51 rfl ?_
  refine k_aload_n hX dX1_init_51 1 rfl 52 rfl ?_
  refine k_get_1 hX (k := 36) (j := 0) (v := .ref (gL Γ (37))) 1 (show kd 36 = 1 by decide +kernel) (show 36 < 129 by decide) (by simp (disch := omega) only [nu_k, nu_o, wI_1o, wI_2a, wJ_1a, wJ_2o]) (by decide) rfl dX1_init_52 fc_X1_11 55 rfl ?_
  refine k_iload_n hX dX1_init_55 0 rfl 56 rfl ?_
  refine k_new2 hX dX1_init_56 cl_X1_9 is_2 ii_2 (show kd 129 = 2 by decide +kernel) (by (try simp (disch := omega) only [nu_k, nu_o, wI_1o, wI_2a, wJ_1a, wJ_2o]); exact hz (129) (by omega)) ⟨Nat.le_of_ble_eq_true rfl, Nat.le_of_ble_eq_true rfl⟩ 59 rfl (130, (nu (nu (nu (nu (nu (nu (nu (nu (nu (nu (nu (nu (nu (nu (nu N 36 1) 38 12) 37 1) 51 12) 37 2) 64 12) 37 3) 77 12) 37 4) 90 12) 37 5) 103 12) 37 6) 116 12) 37 7), (wJ s 36 6 (lN 1))) rfl ((MQ (xb X) (Pk Γ B (142, (nu (nu (nu (nu (nu (nu (nu (nu (nu (nu (nu (nu (nu (nu (nu (nu (nu N 36 1) 38 12) 37 1) 51 12) 37 2) 64 12) 37 3) 77 12) 37 4) 90 12) 37 5) 103 12) 37 6) 116 12) 37 7) 129 12) 37 8), (wJ s 36 6 (lN 1)))) (xa X) (xs X) 105 992 (gA Γ)), 93, 884) rfl ?_
  refine k_dup hX dX1_init_59 rfl 60 rfl ?_
  refine k_call hX (b := 129) (w2 := (142, (nu (nu (nu (nu (nu (nu (nu (nu (nu (nu (nu (nu (nu (nu (nu (nu N 36 1) 38 12) 37 1) 51 12) 37 2) 64 12) 37 3) 77 12) 37 4) 90 12) 37 5) 103 12) 37 6) 116 12) 37 7) 129 12), (wJ s 36 6 (lN 1)))) (c_X2_init (q := 129) hG (by decide +kernel) (fun k hk => by (try simp (disch := omega) only [nu_k, nu_o, wI_1o, wI_2a, wJ_1a, wJ_2o]); exact hz k (by omega))) li_X1_38 rfl di_X2_init (by decide) (by decide) ⟨Nat.le_of_ble_eq_true rfl, Nat.le_of_ble_eq_true rfl⟩ (Nat.le_of_ble_eq_true rfl) dX1_init_60 63 rfl ((MQ (xb X) (Pk Γ B (142, (nu (nu (nu (nu (nu (nu (nu (nu (nu (nu (nu (nu (nu (nu (nu (nu (nu N 36 1) 38 12) 37 1) 51 12) 37 2) 64 12) 37 3) 77 12) 37 4) 90 12) 37 5) 103 12) 37 6) 116 12) 37 7) 129 12) 37 8), (wJ s 36 6 (lN 1)))) (xa X) (xs X) 105 992 (gA Γ)), 105, 992) rfl ?_
  refine k_aast12 hX (k := 37) (i := 7) (142, (nu (nu (nu (nu (nu (nu (nu (nu (nu (nu (nu (nu (nu (nu (nu (nu (nu N 36 1) 38 12) 37 1) 51 12) 37 2) 64 12) 37 3) 77 12) 37 4) 90 12) 37 5) 103 12) 37 6) 116 12) 37 7) 129 12) 37 8), (wJ s 36 6 (lN 1))) (show kd 37 = 12 by decide +kernel) (show 37 < 142 by decide) (by simp (disch := omega) only [nu_k, nu_o, wI_1o, wI_2a, wJ_1a, wJ_2o]) (by decide +kernel) (by decide) (show kd 129 = 2 by decide +kernel) (show 129 < 142 by decide) dX1_init_63 rfl 64 rfl ?_
  refine k_iinc hX (v := (nI 8)) (lv2 := [(1, .int (nI 8)), (0, .ref (gL Γ (36)))]) dX1_init_64 0 rfl (by decide) (by decide) rfl 67 rfl ?_
  refine k_goto hX 45 dX1_init_67 (by decide) ?_
  refine k_iload_n hX dX1_init_45 0 rfl 46 rfl ?_
  refine k_bipush hX (v := (nI 8)) dX1_init_46 (by decide) 48 rfl ?_
  refine k_geY hX 70 dX1_init_48 (by decide) (by decide) ?_
  exact k_ret hX dX1_init_70 rfl)
theorem dX0_init_0 : decode cX0_init 0 = .ok (.aload_n 0, 1) := by decide +kernel
theorem dX0_init_1 : decode cX0_init 1 = .ok (.invokespecial 1, 3) := by decide +kernel
theorem dX0_init_4 : decode cX0_init 4 = .ok (.aload_n 0, 1) := by decide +kernel
theorem dX0_init_5 : decode cX0_init 5 = .ok (.iconst 0, 1) := by decide +kernel
theorem dX0_init_6 : decode cX0_init 6 = .ok (.putfield 7, 3) := by decide +kernel
theorem dX0_init_9 : decode cX0_init 9 = .ok (.aload_n 0, 1) := by decide +kernel
theorem dX0_init_10 : decode cX0_init 10 = .ok (.new 13, 3) := by decide +kernel
theorem dX0_init_13 : decode cX0_init 13 = .ok (.dup, 1) := by decide +kernel
theorem dX0_init_14 : decode cX0_init 14 = .ok (.invokespecial 15, 3) := by decide +kernel
theorem dX0_init_17 : decode cX0_init 17 = .ok (.putfield 16, 3) := by decide +kernel
theorem dX0_init_20 : decode cX0_init 20 = .ok (.aload_n 0, 1) := by decide +kernel
theorem dX0_init_21 : decode cX0_init 21 = .ok (.new 20, 3) := by decide +kernel
theorem dX0_init_24 : decode cX0_init 24 = .ok (.dup, 1) := by decide +kernel
theorem dX0_init_25 : decode cX0_init 25 = .ok (.invokespecial 22, 3) := by decide +kernel
theorem dX0_init_28 : decode cX0_init 28 = .ok (.putfield 23, 3) := by decide +kernel
theorem dX0_init_31 : decode cX0_init 31 = .ok (.return_, 1) := by decide +kernel
set_option maxHeartbeats 8000000 in
set_option maxRecDepth 100000 in
theorem c_X0_init_143 {lc : Launch} {Γ : Gm} {B : Nat} {N : Nat → Nat} {s : St} (hG : GB Γ B) (hz : ∀ k, 143 ≤ k → N k = 0 ∧ s.1 k = (fun _ => 0) ∧ s.2 k = (fun _ => 0)) : Ck lc Γ B yX0_init cX0_init 1 2 18 152 [.ref (gL Γ (143))] (144, N, s) (162, (nu (nu (nu (nu N 144 12) 143 1) 157 4) 143 2), s) := Ck.of hG (by decide +kernel) rfl (Nat.le_of_ble_eq_true rfl) (fun X hl hX => by
  subst hl
  refine k_aload_n hX dX0_init_0 0 rfl 1 rfl ?_
  refine k_obj hX dX0_init_1 ob_X0 ob_i ob_c (Nat.le_of_ble_eq_true rfl) (by decide) 4 rfl ?_
  refine k_aload_n hX dX0_init_4 0 rfl 5 rfl ?_
  refine k_iconst hX (v := (nI 0)) dX0_init_5 rfl 6 rfl ?_
  refine k_put0_0 hX (k := 143) (j := 0) (ty := .boolean) (show kd 143 = 0 by decide +kernel) (show 143 < 144 by decide) (by decide) rfl (by decide +kernel) (by decide) (by decide) (by show some (Value.int (s.1 143 0)) = _; (try simp (disch := omega) only [nu_k, nu_o, wI_1o, wI_2a, wJ_1a, wJ_2o]); rw [(hz 143 (by omega)).2.1]; rfl) dX0_init_6 fc_X0_7 9 rfl ?_
  refine k_aload_n hX dX0_init_9 0 rfl 10 rfl ?_
  refine k_new2 hX dX0_init_10 cl_X0_13 is_2 ii_2 (show kd 144 = 2 by decide +kernel) (by (try simp (disch := omega) only [nu_k, nu_o, wI_1o, wI_2a, wJ_1a, wJ_2o]); exact hz (144) (by omega)) ⟨Nat.le_of_ble_eq_true rfl, Nat.le_of_ble_eq_true rfl⟩ 13 rfl (145, N, s) rfl ((MQ (xb X) (Pk Γ B (162, (nu (nu (nu (nu N 144 12) 143 1) 157 4) 143 2), s)) (xa X) (xs X) 18 152 (gA Γ)), 1, 15) rfl ?_
  refine k_dup hX dX0_init_13 rfl 14 rfl ?_
  refine k_call hX (b := 144) (w2 := (157, (nu N 144 12), s)) (c_X2_init (q := 144) hG (by decide +kernel) (fun k hk => by (try simp (disch := omega) only [nu_k, nu_o, wI_1o, wI_2a, wJ_1a, wJ_2o]); exact hz k (by omega))) li_X0_15 rfl di_X2_init (by decide) (by decide) ⟨Nat.le_of_ble_eq_true rfl, Nat.le_of_ble_eq_true rfl⟩ (Nat.le_of_ble_eq_true rfl) dX0_init_14 17 rfl ((MQ (xb X) (Pk Γ B (162, (nu (nu (nu (nu N 144 12) 143 1) 157 4) 143 2), s)) (xa X) (xs X) 18 152 (gA Γ)), 13, 123) rfl ?_
  refine k_putR_0 hX (k := 143) (j := 1) (t := 144) (ty := .object "SmokeSeats$Room") 0 (157, (nu (nu N 144 12) 143 1), s) (show kd 143 = 0 by decide +kernel) (show 143 < 157 by decide) (by (try simp (disch := omega) only [nu_k, nu_o, wI_1o, wI_2a, wJ_1a, wJ_2o]); exact (hz (143) (by omega)).1) (by decide) ⟨rfl, rfl⟩ (by decide +kernel) rfl rfl (fun f g => rfl) dX0_init_17 fc_X0_16 rfl 20 rfl ?_
  refine k_aload_n hX dX0_init_20 0 rfl 21 rfl ?_
  refine k_new3 hX dX0_init_21 cl_X0_20 is_3 ii_3 (show kd 157 = 3 by decide +kernel) (by (try simp (disch := omega) only [nu_k, nu_o, wI_1o, wI_2a, wJ_1a, wJ_2o]); exact hz (157) (by omega)) ⟨Nat.le_of_ble_eq_true rfl, Nat.le_of_ble_eq_true rfl⟩ 24 rfl (158, (nu (nu N 144 12) 143 1), s) rfl ((MQ (xb X) (Pk Γ B (162, (nu (nu (nu (nu N 144 12) 143 1) 157 4) 143 2), s)) (xa X) (xs X) 18 152 (gA Γ)), 14, 128) rfl ?_
  refine k_dup hX dX0_init_24 rfl 25 rfl ?_
  refine k_call hX (b := 157) (w2 := (162, (nu (nu (nu N 144 12) 143 1) 157 4), s)) (c_X3_init (q := 157) hG (by decide +kernel) (fun k hk => by (try simp (disch := omega) only [nu_k, nu_o, wI_1o, wI_2a, wJ_1a, wJ_2o]); exact hz k (by omega))) li_X0_22 rfl di_X3_init (by decide) (by decide) ⟨Nat.le_of_ble_eq_true rfl, Nat.le_of_ble_eq_true rfl⟩ (Nat.le_of_ble_eq_true rfl) dX0_init_25 28 rfl ((MQ (xb X) (Pk Γ B (162, (nu (nu (nu (nu N 144 12) 143 1) 157 4) 143 2), s)) (xa X) (xs X) 18 152 (gA Γ)), 18, 152) rfl ?_
  refine k_putR_0 hX (k := 143) (j := 2) (t := 157) (ty := .object "SmokeSeats$Seen") 1 (162, (nu (nu (nu (nu N 144 12) 143 1) 157 4) 143 2), s) (show kd 143 = 0 by decide +kernel) (show 143 < 162 by decide) (by simp (disch := omega) only [nu_k, nu_o, wI_1o, wI_2a, wJ_1a, wJ_2o]) (by decide) ⟨rfl, rfl⟩ (by decide +kernel) rfl rfl (fun f g => rfl) dX0_init_28 fc_X0_23 rfl 31 rfl ?_
  exact k_ret hX dX0_init_31 rfl)
set_option maxHeartbeats 8000000 in
set_option maxRecDepth 100000 in
theorem c_X0_init_162 {lc : Launch} {Γ : Gm} {B : Nat} {N : Nat → Nat} {s : St} (hG : GB Γ B) (hz : ∀ k, 162 ≤ k → N k = 0 ∧ s.1 k = (fun _ => 0) ∧ s.2 k = (fun _ => 0)) : Ck lc Γ B yX0_init cX0_init 1 2 18 152 [.ref (gL Γ (162))] (163, N, s) (181, (nu (nu (nu (nu N 163 12) 162 1) 176 4) 162 2), s) := Ck.of hG (by decide +kernel) rfl (Nat.le_of_ble_eq_true rfl) (fun X hl hX => by
  subst hl
  refine k_aload_n hX dX0_init_0 0 rfl 1 rfl ?_
  refine k_obj hX dX0_init_1 ob_X0 ob_i ob_c (Nat.le_of_ble_eq_true rfl) (by decide) 4 rfl ?_
  refine k_aload_n hX dX0_init_4 0 rfl 5 rfl ?_
  refine k_iconst hX (v := (nI 0)) dX0_init_5 rfl 6 rfl ?_
  refine k_put0_0 hX (k := 162) (j := 0) (ty := .boolean) (show kd 162 = 0 by decide +kernel) (show 162 < 163 by decide) (by decide) rfl (by decide +kernel) (by decide) (by decide) (by show some (Value.int (s.1 162 0)) = _; (try simp (disch := omega) only [nu_k, nu_o, wI_1o, wI_2a, wJ_1a, wJ_2o]); rw [(hz 162 (by omega)).2.1]; rfl) dX0_init_6 fc_X0_7 9 rfl ?_
  refine k_aload_n hX dX0_init_9 0 rfl 10 rfl ?_
  refine k_new2 hX dX0_init_10 cl_X0_13 is_2 ii_2 (show kd 163 = 2 by decide +kernel) (by (try simp (disch := omega) only [nu_k, nu_o, wI_1o, wI_2a, wJ_1a, wJ_2o]); exact hz (163) (by omega)) ⟨Nat.le_of_ble_eq_true rfl, Nat.le_of_ble_eq_true rfl⟩ 13 rfl (164, N, s) rfl ((MQ (xb X) (Pk Γ B (181, (nu (nu (nu (nu N 163 12) 162 1) 176 4) 162 2), s)) (xa X) (xs X) 18 152 (gA Γ)), 1, 15) rfl ?_
  refine k_dup hX dX0_init_13 rfl 14 rfl ?_
  refine k_call hX (b := 163) (w2 := (176, (nu N 163 12), s)) (c_X2_init (q := 163) hG (by decide +kernel) (fun k hk => by (try simp (disch := omega) only [nu_k, nu_o, wI_1o, wI_2a, wJ_1a, wJ_2o]); exact hz k (by omega))) li_X0_15 rfl di_X2_init (by decide) (by decide) ⟨Nat.le_of_ble_eq_true rfl, Nat.le_of_ble_eq_true rfl⟩ (Nat.le_of_ble_eq_true rfl) dX0_init_14 17 rfl ((MQ (xb X) (Pk Γ B (181, (nu (nu (nu (nu N 163 12) 162 1) 176 4) 162 2), s)) (xa X) (xs X) 18 152 (gA Γ)), 13, 123) rfl ?_
  refine k_putR_0 hX (k := 162) (j := 1) (t := 163) (ty := .object "SmokeSeats$Room") 0 (176, (nu (nu N 163 12) 162 1), s) (show kd 162 = 0 by decide +kernel) (show 162 < 176 by decide) (by (try simp (disch := omega) only [nu_k, nu_o, wI_1o, wI_2a, wJ_1a, wJ_2o]); exact (hz (162) (by omega)).1) (by decide) ⟨rfl, rfl⟩ (by decide +kernel) rfl rfl (fun f g => rfl) dX0_init_17 fc_X0_16 rfl 20 rfl ?_
  refine k_aload_n hX dX0_init_20 0 rfl 21 rfl ?_
  refine k_new3 hX dX0_init_21 cl_X0_20 is_3 ii_3 (show kd 176 = 3 by decide +kernel) (by (try simp (disch := omega) only [nu_k, nu_o, wI_1o, wI_2a, wJ_1a, wJ_2o]); exact hz (176) (by omega)) ⟨Nat.le_of_ble_eq_true rfl, Nat.le_of_ble_eq_true rfl⟩ 24 rfl (177, (nu (nu N 163 12) 162 1), s) rfl ((MQ (xb X) (Pk Γ B (181, (nu (nu (nu (nu N 163 12) 162 1) 176 4) 162 2), s)) (xa X) (xs X) 18 152 (gA Γ)), 14, 128) rfl ?_
  refine k_dup hX dX0_init_24 rfl 25 rfl ?_
  refine k_call hX (b := 176) (w2 := (181, (nu (nu (nu N 163 12) 162 1) 176 4), s)) (c_X3_init (q := 176) hG (by decide +kernel) (fun k hk => by (try simp (disch := omega) only [nu_k, nu_o, wI_1o, wI_2a, wJ_1a, wJ_2o]); exact hz k (by omega))) li_X0_22 rfl di_X3_init (by decide) (by decide) ⟨Nat.le_of_ble_eq_true rfl, Nat.le_of_ble_eq_true rfl⟩ (Nat.le_of_ble_eq_true rfl) dX0_init_25 28 rfl ((MQ (xb X) (Pk Γ B (181, (nu (nu (nu (nu N 163 12) 162 1) 176 4) 162 2), s)) (xa X) (xs X) 18 152 (gA Γ)), 18, 152) rfl ?_
  refine k_putR_0 hX (k := 162) (j := 2) (t := 176) (ty := .object "SmokeSeats$Seen") 1 (181, (nu (nu (nu (nu N 163 12) 162 1) 176 4) 162 2), s) (show kd 162 = 0 by decide +kernel) (show 162 < 181 by decide) (by simp (disch := omega) only [nu_k, nu_o, wI_1o, wI_2a, wJ_1a, wJ_2o]) (by decide) ⟨rfl, rfl⟩ (by decide +kernel) rfl rfl (fun f g => rfl) dX0_init_28 fc_X0_23 rfl 31 rfl ?_
  exact k_ret hX dX0_init_31 rfl)
theorem dX6_init_0 : decode cX6_init 0 = .ok (.aload_n 0, 1) := by decide +kernel
theorem dX6_init_1 : decode cX6_init 1 = .ok (.invokespecial 1, 3) := by decide +kernel
theorem dX6_init_4 : decode cX6_init 4 = .ok (.aload_n 0, 1) := by decide +kernel
theorem dX6_init_5 : decode cX6_init 5 = .ok (.new 7, 3) := by decide +kernel
theorem dX6_init_8 : decode cX6_init 8 = .ok (.dup, 1) := by decide +kernel
theorem dX6_init_9 : decode cX6_init 9 = .ok (.invokespecial 9, 3) := by decide +kernel
theorem dX6_init_12 : decode cX6_init 12 = .ok (.putfield 10, 3) := by decide +kernel
theorem dX6_init_15 : decode cX6_init 15 = .ok (.aload_n 0, 1) := by decide +kernel
theorem dX6_init_16 : decode cX6_init 16 = .ok (.new 7, 3) := by decide +kernel
theorem dX6_init_19 : decode cX6_init 19 = .ok (.dup, 1) := by decide +kernel
theorem dX6_init_20 : decode cX6_init 20 = .ok (.invokespecial 9, 3) := by decide +kernel
theorem dX6_init_23 : decode cX6_init 23 = .ok (.putfield 16, 3) := by decide +kernel
theorem dX6_init_26 : decode cX6_init 26 = .ok (.aload_n 0, 1) := by decide +kernel
theorem dX6_init_27 : decode cX6_init 27 = .ok (.new 19, 3) := by decide +kernel
theorem dX6_init_30 : decode cX6_init 30 = .ok (.dup, 1) := by decide +kernel
theorem dX6_init_31 : decode cX6_init 31 = .ok (.invokespecial 21, 3) := by decide +kernel
theorem dX6_init_34 : decode cX6_init 34 = .ok (.putfield 22, 3) := by decide +kernel
theorem dX6_init_37 : decode cX6_init 37 = .ok (.aload_n 0, 1) := by decide +kernel
theorem dX6_init_38 : decode cX6_init 38 = .ok (.iconst 2, 1) := by decide +kernel
theorem dX6_init_39 : decode cX6_init 39 = .ok (.anewarray 26, 3) := by decide +kernel
theorem dX6_init_42 : decode cX6_init 42 = .ok (.putfield 28, 3) := by decide +kernel
theorem dX6_init_45 : decode cX6_init 45 = .ok (.aload_n 0, 1) := by decide +kernel
theorem dX6_init_46 : decode cX6_init 46 = .ok (.new 32, 3) := by decide +kernel
theorem dX6_init_49 : decode cX6_init 49 = .ok (.dup, 1) := by decide +kernel
theorem dX6_init_50 : decode cX6_init 50 = .ok (.invokespecial 34, 3) := by decide +kernel
theorem dX6_init_53 : decode cX6_init 53 = .ok (.putfield 35, 3) := by decide +kernel
theorem dX6_init_56 : decode cX6_init 56 = .ok (.aload_n 0, 1) := by decide +kernel
theorem dX6_init_57 : decode cX6_init 57 = .ok (.iconst 4, 1) := by decide +kernel
theorem dX6_init_58 : decode cX6_init 58 = .ok (.anewarray 39, 3) := by decide +kernel
theorem dX6_init_61 : decode cX6_init 61 = .ok (.putfield 41, 3) := by decide +kernel
theorem dX6_init_64 : decode cX6_init 64 = .ok (.aload_n 0, 1) := by decide +kernel
theorem dX6_init_65 : decode cX6_init 65 = .ok (.new 45, 3) := by decide +kernel
theorem dX6_init_68 : decode cX6_init 68 = .ok (.dup, 1) := by decide +kernel
theorem dX6_init_69 : decode cX6_init 69 = .ok (.invokespecial 47, 3) := by decide +kernel
theorem dX6_init_72 : decode cX6_init 72 = .ok (.putfield 48, 3) := by decide +kernel
theorem dX6_init_75 : decode cX6_init 75 = .ok (.aload_n 0, 1) := by decide +kernel
theorem dX6_init_76 : decode cX6_init 76 = .ok (.bipush 80, 2) := by decide +kernel
theorem dX6_init_78 : decode cX6_init 78 = .ok (.newarray .int, 2) := by decide +kernel
theorem dX6_init_80 : decode cX6_init 80 = .ok (.putfield 52, 3) := by decide +kernel
theorem dX6_init_83 : decode cX6_init 83 = .ok (.aload_n 0, 1) := by decide +kernel
theorem dX6_init_84 : decode cX6_init 84 = .ok (.iconst 0, 1) := by decide +kernel
theorem dX6_init_85 : decode cX6_init 85 = .ok (.putfield 56, 3) := by decide +kernel
theorem dX6_init_88 : decode cX6_init 88 = .ok (.iconst 0, 1) := by decide +kernel
theorem dX6_init_89 : decode cX6_init 89 = .ok (.istore_n 1, 1) := by decide +kernel
theorem dX6_init_90 : decode cX6_init 90 = .ok (.iload_n 1, 1) := by decide +kernel
theorem dX6_init_91 : decode cX6_init 91 = .ok (.iconst 2, 1) := by decide +kernel
theorem dX6_init_92 : decode cX6_init 92 = .ok (.if_icmp .ge 22, 3) := by decide +kernel
theorem dX6_init_95 : decode cX6_init 95 = .ok (.aload_n 0, 1) := by decide +kernel
theorem dX6_init_96 : decode cX6_init 96 = .ok (.getfield 28, 3) := by decide +kernel
theorem dX6_init_99 : decode cX6_init 99 = .ok (.iload_n 1, 1) := by decide +kernel
theorem dX6_init_100 : decode cX6_init 100 = .ok (.new 26, 3) := by decide +kernel
theorem dX6_init_103 : decode cX6_init 103 = .ok (.dup, 1) := by decide +kernel
theorem dX6_init_104 : decode cX6_init 104 = .ok (.invokespecial 60, 3) := by decide +kernel
theorem dX6_init_107 : decode cX6_init 107 = .ok (.aastore, 1) := by decide +kernel
theorem dX6_init_108 : decode cX6_init 108 = .ok (.iinc 1 1, 3) := by decide +kernel
theorem dX6_init_111 : decode cX6_init 111 = .ok (.goto (-21), 3) := by decide +kernel
theorem dX6_init_114 : decode cX6_init 114 = .ok (.iconst 0, 1) := by decide +kernel
theorem dX6_init_115 : decode cX6_init 115 = .ok (.istore_n 1, 1) := by decide +kernel
theorem dX6_init_116 : decode cX6_init 116 = .ok (.iload_n 1, 1) := by decide +kernel
theorem dX6_init_117 : decode cX6_init 117 = .ok (.iconst 4, 1) := by decide +kernel
theorem dX6_init_118 : decode cX6_init 118 = .ok (.if_icmp .ge 22, 3) := by decide +kernel
theorem dX6_init_121 : decode cX6_init 121 = .ok (.aload_n 0, 1) := by decide +kernel
theorem dX6_init_122 : decode cX6_init 122 = .ok (.getfield 41, 3) := by decide +kernel
theorem dX6_init_125 : decode cX6_init 125 = .ok (.iload_n 1, 1) := by decide +kernel
theorem dX6_init_126 : decode cX6_init 126 = .ok (.new 39, 3) := by decide +kernel
theorem dX6_init_129 : decode cX6_init 129 = .ok (.dup, 1) := by decide +kernel
theorem dX6_init_130 : decode cX6_init 130 = .ok (.invokespecial 61, 3) := by decide +kernel
theorem dX6_init_133 : decode cX6_init 133 = .ok (.aastore, 1) := by decide +kernel
theorem dX6_init_134 : decode cX6_init 134 = .ok (.iinc 1 1, 3) := by decide +kernel
theorem dX6_init_137 : decode cX6_init 137 = .ok (.goto (-21), 3) := by decide +kernel
theorem dX6_init_140 : decode cX6_init 140 = .ok (.return_, 1) := by decide +kernel
set_option maxHeartbeats 8000000 in
set_option maxRecDepth 100000 in
theorem c_X6_init {lc : Launch} {Γ : Gm} {B : Nat} {N : Nat → Nat} {s : St} (hG : GB Γ B) (hz : ∀ k, 0 ≤ k → N k = 0 ∧ s.1 k = (fun _ => 0) ∧ s.2 k = (fun _ => 0)) : Ck lc Γ B yX6_init cX6_init 2 3 188 2010 [.ref (gL Γ (0))] (1, N, s) (189, (nu (nu (nu (nu (nu (nu (nu (nu (nu (nu (nu (nu (nu (nu (nu (nu (nu (nu (nu (nu (nu (nu (nu (nu (nu (nu (nu (nu (nu (nu (nu (nu (nu (nu (nu (nu (nu (nu (nu (nu (nu (nu (nu (nu N 1 12) 0 1) 14 12) 0 2) 27 4) 0 4) 33 1) 0 6) 36 1) 38 12) 37 1) 51 12) 37 2) 64 12) 37 3) 77 12) 37 4) 90 12) 37 5) 103 12) 37 6) 116 12) 37 7) 129 12) 37 8) 0 8) 144 12) 143 1) 157 4) 143 2) 32 1) 163 12) 162 1) 176 4) 162 2) 32 2) 181 1) 35 1) 183 1) 35 2) 185 1) 35 3) 187 1) 35 4), (wI (wI (wI (wI (wJ s 36 6 (lN 1)) 181 0 (-1)) 183 0 (-1)) 185 0 (-1)) 187 0 (-1))) := Ck.of hG (by decide +kernel) rfl (Nat.le_of_ble_eq_true rfl) (fun X hl hX => by
  subst hl
  refine k_aload_n hX dX6_init_0 0 rfl 1 rfl ?_
  refine k_obj hX dX6_init_1 ob_X6 ob_i ob_c (Nat.le_of_ble_eq_true rfl) (by decide) 4 rfl ?_
  refine k_aload_n hX dX6_init_4 0 rfl 5 rfl ?_
  refine k_new2 hX dX6_init_5 cl_X6_7 is_2 ii_2 (show kd 1 = 2 by decide +kernel) (by (try simp (disch := omega) only [nu_k, nu_o, wI_1o, wI_2a, wJ_1a, wJ_2o]); exact hz (1) (by omega)) ⟨Nat.le_of_ble_eq_true rfl, Nat.le_of_ble_eq_true rfl⟩ 8 rfl (2, N, s) rfl ((MQ (xb X) (Pk Γ B (189, (nu (nu (nu (nu (nu (nu (nu (nu (nu (nu (nu (nu (nu (nu (nu (nu (nu (nu (nu (nu (nu (nu (nu (nu (nu (nu (nu (nu (nu (nu (nu (nu (nu (nu (nu (nu (nu (nu (nu (nu (nu (nu (nu (nu N 1 12) 0 1) 14 12) 0 2) 27 4) 0 4) 33 1) 0 6) 36 1) 38 12) 37 1) 51 12) 37 2) 64 12) 37 3) 77 12) 37 4) 90 12) 37 5) 103 12) 37 6) 116 12) 37 7) 129 12) 37 8) 0 8) 144 12) 143 1) 157 4) 143 2) 32 1) 163 12) 162 1) 176 4) 162 2) 32 2) 181 1) 35 1) 183 1) 35 2) 185 1) 35 3) 187 1) 35 4), (wI (wI (wI (wI (wJ s 36 6 (lN 1)) 181 0 (-1)) 183 0 (-1)) 185 0 (-1)) 187 0 (-1)))) (xa X) (xs X) 188 2010 (gA Γ)), 1, 15) rfl ?_
  refine k_dup hX dX6_init_8 rfl 9 rfl ?_
  refine k_call hX (b := 1) (w2 := (14, (nu N 1 12), s)) (c_X2_init (q := 1) hG (by decide +kernel) (fun k hk => by (try simp (disch := omega) only [nu_k, nu_o, wI_1o, wI_2a, wJ_1a, wJ_2o]); exact hz k (by omega))) li_X6_9 rfl di_X2_init (by decide) (by decide) ⟨Nat.le_of_ble_eq_true rfl, Nat.le_of_ble_eq_true rfl⟩ (Nat.le_of_ble_eq_true rfl) dX6_init_9 12 rfl ((MQ (xb X) (Pk Γ B (189, (nu (nu (nu (nu (nu (nu (nu (nu (nu (nu (nu (nu (nu (nu (nu (nu (nu (nu (nu (nu (nu (nu (nu (nu (nu (nu (nu (nu (nu (nu (nu (nu (nu (nu (nu (nu (nu (nu (nu (nu (nu (nu (nu (nu N 1 12) 0 1) 14 12) 0 2) 27 4) 0 4) 33 1) 0 6) 36 1) 38 12) 37 1) 51 12) 37 2) 64 12) 37 3) 77 12) 37 4) 90 12) 37 5) 103 12) 37 6) 116 12) 37 7) 129 12) 37 8) 0 8) 144 12) 143 1) 157 4) 143 2) 32 1) 163 12) 162 1) 176 4) 162 2) 32 2) 181 1) 35 1) 183 1) 35 2) 185 1) 35 3) 187 1) 35 4), (wI (wI (wI (wI (wJ s 36 6 (lN 1)) 181 0 (-1)) 183 0 (-1)) 185 0 (-1)) 187 0 (-1)))) (xa X) (xs X) 188 2010 (gA Γ)), 13, 123) rfl ?_
  refine k_putR_6 hX (k := 0) (j := 0) (t := 1) (ty := .object "SmokeSeats$Room") 0 (14, (nu (nu N 1 12) 0 1), s) (show kd 0 = 6 by decide +kernel) (show 0 < 14 by decide) (by (try simp (disch := omega) only [nu_k, nu_o, wI_1o, wI_2a, wJ_1a, wJ_2o]); exact (hz (0) (by omega)).1) (by decide) ⟨rfl, rfl⟩ (by decide +kernel) rfl rfl (fun f g => rfl) dX6_init_12 fc_X6_10 rfl 15 rfl ?_
  refine k_aload_n hX dX6_init_15 0 rfl 16 rfl ?_
  refine k_new2 hX dX6_init_16 cl_X6_7 is_2 ii_2 (show kd 14 = 2 by decide +kernel) (by (try simp (disch := omega) only [nu_k, nu_o, wI_1o, wI_2a, wJ_1a, wJ_2o]); exact hz (14) (by omega)) ⟨Nat.le_of_ble_eq_true rfl, Nat.le_of_ble_eq_true rfl⟩ 19 rfl (15, (nu (nu N 1 12) 0 1), s) rfl ((MQ (xb X) (Pk Γ B (189, (nu (nu (nu (nu (nu (nu (nu (nu (nu (nu (nu (nu (nu (nu (nu (nu (nu (nu (nu (nu (nu (nu (nu (nu (nu (nu (nu (nu (nu (nu (nu (nu (nu (nu (nu (nu (nu (nu (nu (nu (nu (nu (nu (nu N 1 12) 0 1) 14 12) 0 2) 27 4) 0 4) 33 1) 0 6) 36 1) 38 12) 37 1) 51 12) 37 2) 64 12) 37 3) 77 12) 37 4) 90 12) 37 5) 103 12) 37 6) 116 12) 37 7) 129 12) 37 8) 0 8) 144 12) 143 1) 157 4) 143 2) 32 1) 163 12) 162 1) 176 4) 162 2) 32 2) 181 1) 35 1) 183 1) 35 2) 185 1) 35 3) 187 1) 35 4), (wI (wI (wI (wI (wJ s 36 6 (lN 1)) 181 0 (-1)) 183 0 (-1)) 185 0 (-1)) 187 0 (-1)))) (xa X) (xs X) 188 2010 (gA Γ)), 14, 138) rfl ?_
  refine k_dup hX dX6_init_19 rfl 20 rfl ?_
  refine k_call hX (b := 14) (w2 := (27, (nu (nu (nu N 1 12) 0 1) 14 12), s)) (c_X2_init (q := 14) hG (by decide +kernel) (fun k hk => by (try simp (disch := omega) only [nu_k, nu_o, wI_1o, wI_2a, wJ_1a, wJ_2o]); exact hz k (by omega))) li_X6_9 rfl di_X2_init (by decide) (by decide) ⟨Nat.le_of_ble_eq_true rfl, Nat.le_of_ble_eq_true rfl⟩ (Nat.le_of_ble_eq_true rfl) dX6_init_20 23 rfl ((MQ (xb X) (Pk Γ B (189, (nu (nu (nu (nu (nu (nu (nu (nu (nu (nu (nu (nu (nu (nu (nu (nu (nu (nu (nu (nu (nu (nu (nu (nu (nu (nu (nu (nu (nu (nu (nu (nu (nu (nu (nu (nu (nu (nu (nu (nu (nu (nu (nu (nu N 1 12) 0 1) 14 12) 0 2) 27 4) 0 4) 33 1) 0 6) 36 1) 38 12) 37 1) 51 12) 37 2) 64 12) 37 3) 77 12) 37 4) 90 12) 37 5) 103 12) 37 6) 116 12) 37 7) 129 12) 37 8) 0 8) 144 12) 143 1) 157 4) 143 2) 32 1) 163 12) 162 1) 176 4) 162 2) 32 2) 181 1) 35 1) 183 1) 35 2) 185 1) 35 3) 187 1) 35 4), (wI (wI (wI (wI (wJ s 36 6 (lN 1)) 181 0 (-1)) 183 0 (-1)) 185 0 (-1)) 187 0 (-1)))) (xa X) (xs X) 188 2010 (gA Γ)), 26, 246) rfl ?_
  refine k_putR_6 hX (k := 0) (j := 1) (t := 14) (ty := .object "SmokeSeats$Room") 1 (27, (nu (nu (nu (nu N 1 12) 0 1) 14 12) 0 2), s) (show kd 0 = 6 by decide +kernel) (show 0 < 27 by decide) (by simp (disch := omega) only [nu_k, nu_o, wI_1o, wI_2a, wJ_1a, wJ_2o]) (by decide) ⟨rfl, rfl⟩ (by decide +kernel) rfl rfl (fun f g => rfl) dX6_init_23 fc_X6_16 rfl 26 rfl ?_
  refine k_aload_n hX dX6_init_26 0 rfl 27 rfl ?_
  refine k_new3 hX dX6_init_27 cl_X6_19 is_3 ii_3 (show kd 27 = 3 by decide +kernel) (by (try simp (disch := omega) only [nu_k, nu_o, wI_1o, wI_2a, wJ_1a, wJ_2o]); exact hz (27) (by omega)) ⟨Nat.le_of_ble_eq_true rfl, Nat.le_of_ble_eq_true rfl⟩ 30 rfl (28, (nu (nu (nu (nu N 1 12) 0 1) 14 12) 0 2), s) rfl ((MQ (xb X) (Pk Γ B (189, (nu (nu (nu (nu (nu (nu (nu (nu (nu (nu (nu (nu (nu (nu (nu (nu (nu (nu (nu (nu (nu (nu (nu (nu (nu (nu (nu (nu (nu (nu (nu (nu (nu (nu (nu (nu (nu (nu (nu (nu (nu (nu (nu (nu N 1 12) 0 1) 14 12) 0 2) 27 4) 0 4) 33 1) 0 6) 36 1) 38 12) 37 1) 51 12) 37 2) 64 12) 37 3) 77 12) 37 4) 90 12) 37 5) 103 12) 37 6) 116 12) 37 7) 129 12) 37 8) 0 8) 144 12) 143 1) 157 4) 143 2) 32 1) 163 12) 162 1) 176 4) 162 2) 32 2) 181 1) 35 1) 183 1) 35 2) 185 1) 35 3) 187 1) 35 4), (wI (wI (wI (wI (wJ s 36 6 (lN 1)) 181 0 (-1)) 183 0 (-1)) 185 0 (-1)) 187 0 (-1)))) (xa X) (xs X) 188 2010 (gA Γ)), 27, 251) rfl ?_
  refine k_dup hX dX6_init_30 rfl 31 rfl ?_
  refine k_call hX (b := 27) (w2 := (32, (nu (nu (nu (nu (nu N 1 12) 0 1) 14 12) 0 2) 27 4), s)) (c_X3_init (q := 27) hG (by decide +kernel) (fun k hk => by (try simp (disch := omega) only [nu_k, nu_o, wI_1o, wI_2a, wJ_1a, wJ_2o]); exact hz k (by omega))) li_X6_21 rfl di_X3_init (by decide) (by decide) ⟨Nat.le_of_ble_eq_true rfl, Nat.le_of_ble_eq_true rfl⟩ (Nat.le_of_ble_eq_true rfl) dX6_init_31 34 rfl ((MQ (xb X) (Pk Γ B (189, (nu (nu (nu (nu (nu (nu (nu (nu (nu (nu (nu (nu (nu (nu (nu (nu (nu (nu (nu (nu (nu (nu (nu (nu (nu (nu (nu (nu (nu (nu (nu (nu (nu (nu (nu (nu (nu (nu (nu (nu (nu (nu (nu (nu N 1 12) 0 1) 14 12) 0 2) 27 4) 0 4) 33 1) 0 6) 36 1) 38 12) 37 1) 51 12) 37 2) 64 12) 37 3) 77 12) 37 4) 90 12) 37 5) 103 12) 37 6) 116 12) 37 7) 129 12) 37 8) 0 8) 144 12) 143 1) 157 4) 143 2) 32 1) 163 12) 162 1) 176 4) 162 2) 32 2) 181 1) 35 1) 183 1) 35 2) 185 1) 35 3) 187 1) 35 4), (wI (wI (wI (wI (wJ s 36 6 (lN 1)) 181 0 (-1)) 183 0 (-1)) 185 0 (-1)) 187 0 (-1)))) (xa X) (xs X) 188 2010 (gA Γ)), 31, 275) rfl ?_
  refine k_putR_6 hX (k := 0) (j := 2) (t := 27) (ty := .object "SmokeSeats$Seen") 2 (32, (nu (nu (nu (nu (nu (nu N 1 12) 0 1) 14 12) 0 2) 27 4) 0 3), s) (show kd 0 = 6 by decide +kernel) (show 0 < 32 by decide) (by simp (disch := omega) only [nu_k, nu_o, wI_1o, wI_2a, wJ_1a, wJ_2o]) (by decide) ⟨rfl, rfl⟩ (by decide +kernel) rfl rfl (fun f g => rfl) dX6_init_34 fc_X6_22 rfl 37 rfl ?_
  refine k_aload_n hX dX6_init_37 0 rfl 38 rfl ?_
  refine k_iconst hX (v := (nI 2)) dX6_init_38 rfl 39 rfl ?_
  refine k_anew11 hX 2 dX6_init_39 cl_X6_26 (by decide) (by decide) (by decide) (show kd 32 = 11 by decide +kernel) (show ln 32 = 2 by decide +kernel) (show (nu (nu (nu (nu (nu (nu N 1 12) 0 1) 14 12) 0 2) 27 4) 0 3) 32 = 0 by (try simp (disch := omega) only [nu_k, nu_o, wI_1o, wI_2a, wJ_1a, wJ_2o]); exact (hz 32 (by omega)).1) ⟨Nat.le_of_ble_eq_true rfl, Nat.le_of_ble_eq_true rfl⟩ 42 rfl (33, (nu (nu (nu (nu (nu (nu N 1 12) 0 1) 14 12) 0 2) 27 4) 0 3), s) rfl ((MQ (xb X) (Pk Γ B (189, (nu (nu (nu (nu (nu (nu (nu (nu (nu (nu (nu (nu (nu (nu (nu (nu (nu (nu (nu (nu (nu (nu (nu (nu (nu (nu (nu (nu (nu (nu (nu (nu (nu (nu (nu (nu (nu (nu (nu (nu (nu (nu (nu (nu N 1 12) 0 1) 14 12) 0 2) 27 4) 0 4) 33 1) 0 6) 36 1) 38 12) 37 1) 51 12) 37 2) 64 12) 37 3) 77 12) 37 4) 90 12) 37 5) 103 12) 37 6) 116 12) 37 7) 129 12) 37 8) 0 8) 144 12) 143 1) 157 4) 143 2) 32 1) 163 12) 162 1) 176 4) 162 2) 32 2) 181 1) 35 1) 183 1) 35 2) 185 1) 35 3) 187 1) 35 4), (wI (wI (wI (wI (wJ s 36 6 (lN 1)) 181 0 (-1)) 183 0 (-1)) 185 0 (-1)) 187 0 (-1)))) (xa X) (xs X) 188 2010 (gA Γ)), 32, 277) rfl ?_
  refine k_putR_6 hX (k := 0) (j := 3) (t := 32) (ty := .array (.object "SmokeSeats$Image")) 3 (33, (nu (nu (nu (nu (nu (nu N 1 12) 0 1) 14 12) 0 2) 27 4) 0 4), s) (show kd 0 = 6 by decide +kernel) (show 0 < 33 by decide) (by simp (disch := omega) only [nu_k, nu_o, wI_1o, wI_2a, wJ_1a, wJ_2o]) (by decide) ⟨rfl, rfl⟩ (by decide +kernel) rfl rfl (fun f g => rfl) dX6_init_42 fc_X6_28 (by rw [nu_nu]) 45 rfl ?_
  refine k_aload_n hX dX6_init_45 0 rfl 46 rfl ?_
  refine k_new5 hX dX6_init_46 cl_X6_32 is_5 ii_5 (show kd 33 = 5 by decide +kernel) (by (try simp (disch := omega) only [nu_k, nu_o, wI_1o, wI_2a, wJ_1a, wJ_2o]); exact hz (33) (by omega)) ⟨Nat.le_of_ble_eq_true rfl, Nat.le_of_ble_eq_true rfl⟩ 49 rfl (34, (nu (nu (nu (nu (nu (nu N 1 12) 0 1) 14 12) 0 2) 27 4) 0 4), s) rfl ((MQ (xb X) (Pk Γ B (189, (nu (nu (nu (nu (nu (nu (nu (nu (nu (nu (nu (nu (nu (nu (nu (nu (nu (nu (nu (nu (nu (nu (nu (nu (nu (nu (nu (nu (nu (nu (nu (nu (nu (nu (nu (nu (nu (nu (nu (nu (nu (nu (nu (nu N 1 12) 0 1) 14 12) 0 2) 27 4) 0 4) 33 1) 0 6) 36 1) 38 12) 37 1) 51 12) 37 2) 64 12) 37 3) 77 12) 37 4) 90 12) 37 5) 103 12) 37 6) 116 12) 37 7) 129 12) 37 8) 0 8) 144 12) 143 1) 157 4) 143 2) 32 1) 163 12) 162 1) 176 4) 162 2) 32 2) 181 1) 35 1) 183 1) 35 2) 185 1) 35 3) 187 1) 35 4), (wI (wI (wI (wI (wJ s 36 6 (lN 1)) 181 0 (-1)) 183 0 (-1)) 185 0 (-1)) 187 0 (-1)))) (xa X) (xs X) 188 2010 (gA Γ)), 33, 285) rfl ?_
  refine k_dup hX dX6_init_49 rfl 50 rfl ?_
  refine k_call hX (b := 33) (w2 := (35, (nu (nu (nu (nu (nu (nu (nu N 1 12) 0 1) 14 12) 0 2) 27 4) 0 4) 33 1), s)) (c_X5_init (N := (nu (nu (nu (nu (nu (nu N 1 12) 0 1) 14 12) 0 2) 27 4) 0 4)) (s := s) hG (fun k hk => by (try simp (disch := omega) only [nu_k, nu_o, wI_1o, wI_2a, wJ_1a, wJ_2o]); exact hz k (by omega))) li_X6_34 rfl di_X5_init (by decide) (by decide) ⟨Nat.le_of_ble_eq_true rfl, Nat.le_of_ble_eq_true rfl⟩ (Nat.le_of_ble_eq_true rfl) dX6_init_50 53 rfl ((MQ (xb X) (Pk Γ B (189, (nu (nu (nu (nu (nu (nu (nu (nu (nu (nu (nu (nu (nu (nu (nu (nu (nu (nu (nu (nu (nu (nu (nu (nu (nu (nu (nu (nu (nu (nu (nu (nu (nu (nu (nu (nu (nu (nu (nu (nu (nu (nu (nu (nu N 1 12) 0 1) 14 12) 0 2) 27 4) 0 4) 33 1) 0 6) 36 1) 38 12) 37 1) 51 12) 37 2) 64 12) 37 3) 77 12) 37 4) 90 12) 37 5) 103 12) 37 6) 116 12) 37 7) 129 12) 37 8) 0 8) 144 12) 143 1) 157 4) 143 2) 32 1) 163 12) 162 1) 176 4) 162 2) 32 2) 181 1) 35 1) 183 1) 35 2) 185 1) 35 3) 187 1) 35 4), (wI (wI (wI (wI (wJ s 36 6 (lN 1)) 181 0 (-1)) 183 0 (-1)) 185 0 (-1)) 187 0 (-1)))) (xa X) (xs X) 188 2010 (gA Γ)), 34, 445) rfl ?_
  refine k_putR_6 hX (k := 0) (j := 4) (t := 33) (ty := .object "SmokeSeats$Tape") 4 (35, (nu (nu (nu (nu (nu (nu (nu (nu N 1 12) 0 1) 14 12) 0 2) 27 4) 0 4) 33 1) 0 5), s) (show kd 0 = 6 by decide +kernel) (show 0 < 35 by decide) (by simp (disch := omega) only [nu_k, nu_o, wI_1o, wI_2a, wJ_1a, wJ_2o]) (by decide) ⟨rfl, rfl⟩ (by decide +kernel) rfl rfl (fun f g => rfl) dX6_init_53 fc_X6_35 rfl 56 rfl ?_
  refine k_aload_n hX dX6_init_56 0 rfl 57 rfl ?_
  refine k_iconst hX (v := (nI 4)) dX6_init_57 rfl 58 rfl ?_
  refine k_anew13 hX 4 dX6_init_58 cl_X6_39 (by decide) (by decide) (by decide) (show kd 35 = 13 by decide +kernel) (show ln 35 = 4 by decide +kernel) (show (nu (nu (nu (nu (nu (nu (nu (nu N 1 12) 0 1) 14 12) 0 2) 27 4) 0 4) 33 1) 0 5) 35 = 0 by (try simp (disch := omega) only [nu_k, nu_o, wI_1o, wI_2a, wJ_1a, wJ_2o]); exact (hz 35 (by omega)).1) ⟨Nat.le_of_ble_eq_true rfl, Nat.le_of_ble_eq_true rfl⟩ 61 rfl (36, (nu (nu (nu (nu (nu (nu (nu (nu N 1 12) 0 1) 14 12) 0 2) 27 4) 0 4) 33 1) 0 5), s) rfl ((MQ (xb X) (Pk Γ B (189, (nu (nu (nu (nu (nu (nu (nu (nu (nu (nu (nu (nu (nu (nu (nu (nu (nu (nu (nu (nu (nu (nu (nu (nu (nu (nu (nu (nu (nu (nu (nu (nu (nu (nu (nu (nu (nu (nu (nu (nu (nu (nu (nu (nu N 1 12) 0 1) 14 12) 0 2) 27 4) 0 4) 33 1) 0 6) 36 1) 38 12) 37 1) 51 12) 37 2) 64 12) 37 3) 77 12) 37 4) 90 12) 37 5) 103 12) 37 6) 116 12) 37 7) 129 12) 37 8) 0 8) 144 12) 143 1) 157 4) 143 2) 32 1) 163 12) 162 1) 176 4) 162 2) 32 2) 181 1) 35 1) 183 1) 35 2) 185 1) 35 3) 187 1) 35 4), (wI (wI (wI (wI (wJ s 36 6 (lN 1)) 181 0 (-1)) 183 0 (-1)) 185 0 (-1)) 187 0 (-1)))) (xa X) (xs X) 188 2010 (gA Γ)), 35, 449) rfl ?_
  refine k_putR_6 hX (k := 0) (j := 5) (t := 35) (ty := .array (.object "SmokeSeats$Sheet")) 5 (36, (nu (nu (nu (nu (nu (nu (nu (nu N 1 12) 0 1) 14 12) 0 2) 27 4) 0 4) 33 1) 0 6), s) (show kd 0 = 6 by decide +kernel) (show 0 < 36 by decide) (by simp (disch := omega) only [nu_k, nu_o, wI_1o, wI_2a, wJ_1a, wJ_2o]) (by decide) ⟨rfl, rfl⟩ (by decide +kernel) rfl rfl (fun f g => rfl) dX6_init_61 fc_X6_41 (by rw [nu_nu]) 64 rfl ?_
  refine k_aload_n hX dX6_init_64 0 rfl 65 rfl ?_
  refine k_new1 hX dX6_init_65 cl_X6_45 is_1 ii_1 (show kd 36 = 1 by decide +kernel) (by (try simp (disch := omega) only [nu_k, nu_o, wI_1o, wI_2a, wJ_1a, wJ_2o]); exact hz (36) (by omega)) ⟨Nat.le_of_ble_eq_true rfl, Nat.le_of_ble_eq_true rfl⟩ 68 rfl (37, (nu (nu (nu (nu (nu (nu (nu (nu N 1 12) 0 1) 14 12) 0 2) 27 4) 0 4) 33 1) 0 6), s) rfl ((MQ (xb X) (Pk Γ B (189, (nu (nu (nu (nu (nu (nu (nu (nu (nu (nu (nu (nu (nu (nu (nu (nu (nu (nu (nu (nu (nu (nu (nu (nu (nu (nu (nu (nu (nu (nu (nu (nu (nu (nu (nu (nu (nu (nu (nu (nu (nu (nu (nu (nu N 1 12) 0 1) 14 12) 0 2) 27 4) 0 4) 33 1) 0 6) 36 1) 38 12) 37 1) 51 12) 37 2) 64 12) 37 3) 77 12) 37 4) 90 12) 37 5) 103 12) 37 6) 116 12) 37 7) 129 12) 37 8) 0 8) 144 12) 143 1) 157 4) 143 2) 32 1) 163 12) 162 1) 176 4) 162 2) 32 2) 181 1) 35 1) 183 1) 35 2) 185 1) 35 3) 187 1) 35 4), (wI (wI (wI (wI (wJ s 36 6 (lN 1)) 181 0 (-1)) 183 0 (-1)) 185 0 (-1)) 187 0 (-1)))) (xa X) (xs X) 188 2010 (gA Γ)), 36, 456) rfl ?_
  refine k_dup hX dX6_init_68 rfl 69 rfl ?_
  refine k_call hX (b := 36) (w2 := (142, (nu (nu (nu (nu (nu (nu (nu (nu (nu (nu (nu (nu (nu (nu (nu (nu (nu (nu (nu (nu (nu (nu (nu (nu (nu N 1 12) 0 1) 14 12) 0 2) 27 4) 0 4) 33 1) 0 6) 36 1) 38 12) 37 1) 51 12) 37 2) 64 12) 37 3) 77 12) 37 4) 90 12) 37 5) 103 12) 37 6) 116 12) 37 7) 129 12) 37 8), (wJ s 36 6 (lN 1)))) (c_X1_init (N := (nu (nu (nu (nu (nu (nu (nu (nu N 1 12) 0 1) 14 12) 0 2) 27 4) 0 4) 33 1) 0 6)) (s := s) hG (fun k hk => by (try simp (disch := omega) only [nu_k, nu_o, wI_1o, wI_2a, wJ_1a, wJ_2o]); exact hz k (by omega))) li_X6_47 rfl di_X1_init (by decide) (by decide) ⟨Nat.le_of_ble_eq_true rfl, Nat.le_of_ble_eq_true rfl⟩ (Nat.le_of_ble_eq_true rfl) dX6_init_69 72 rfl ((MQ (xb X) (Pk Γ B (189, (nu (nu (nu (nu (nu (nu (nu (nu (nu (nu (nu (nu (nu (nu (nu (nu (nu (nu (nu (nu (nu (nu (nu (nu (nu (nu (nu (nu (nu (nu (nu (nu (nu (nu (nu (nu (nu (nu (nu (nu (nu (nu (nu (nu N 1 12) 0 1) 14 12) 0 2) 27 4) 0 4) 33 1) 0 6) 36 1) 38 12) 37 1) 51 12) 37 2) 64 12) 37 3) 77 12) 37 4) 90 12) 37 5) 103 12) 37 6) 116 12) 37 7) 129 12) 37 8) 0 8) 144 12) 143 1) 157 4) 143 2) 32 1) 163 12) 162 1) 176 4) 162 2) 32 2) 181 1) 35 1) 183 1) 35 2) 185 1) 35 3) 187 1) 35 4), (wI (wI (wI (wI (wJ s 36 6 (lN 1)) 181 0 (-1)) 183 0 (-1)) 185 0 (-1)) 187 0 (-1)))) (xa X) (xs X) 188 2010 (gA Γ)), 141, 1448) rfl ?_
  refine k_putR_6 hX (k := 0) (j := 6) (t := 36) (ty := .object "SmokeSeats$Odds") 6 (142, (nu (nu (nu (nu (nu (nu (nu (nu (nu (nu (nu (nu (nu (nu (nu (nu (nu (nu (nu (nu (nu (nu (nu (nu (nu (nu N 1 12) 0 1) 14 12) 0 2) 27 4) 0 4) 33 1) 0 6) 36 1) 38 12) 37 1) 51 12) 37 2) 64 12) 37 3) 77 12) 37 4) 90 12) 37 5) 103 12) 37 6) 116 12) 37 7) 129 12) 37 8) 0 7), (wJ s 36 6 (lN 1))) (show kd 0 = 6 by decide +kernel) (show 0 < 142 by decide) (by simp (disch := omega) only [nu_k, nu_o, wI_1o, wI_2a, wJ_1a, wJ_2o]) (by decide) ⟨rfl, rfl⟩ (by decide +kernel) rfl rfl (fun f g => rfl) dX6_init_72 fc_X6_48 rfl 75 rfl ?_
  refine k_aload_n hX dX6_init_75 0 rfl 76 rfl ?_
  refine k_bipush hX (v := (nI 80)) dX6_init_76 (by decide) 78 rfl ?_
  refine k_arr9 hX 80 dX6_init_78 ac_9 (by decide) (by decide) (by decide) (show kd 142 = 9 by decide +kernel) (show ln 142 = 80 by decide +kernel) (show (wJ s 36 6 (lN 1)).1 142 = (fun _ => 0) by (try simp (disch := omega) only [nu_k, nu_o, wI_1o, wI_2a, wJ_1a, wJ_2o]); exact (hz 142 (by omega)).2.1) ⟨Nat.le_of_ble_eq_true rfl, Nat.le_of_ble_eq_true rfl⟩ 80 rfl (143, (nu (nu (nu (nu (nu (nu (nu (nu (nu (nu (nu (nu (nu (nu (nu (nu (nu (nu (nu (nu (nu (nu (nu (nu (nu (nu N 1 12) 0 1) 14 12) 0 2) 27 4) 0 4) 33 1) 0 6) 36 1) 38 12) 37 1) 51 12) 37 2) 64 12) 37 3) 77 12) 37 4) 90 12) 37 5) 103 12) 37 6) 116 12) 37 7) 129 12) 37 8) 0 7), (wJ s 36 6 (lN 1))) rfl ((MQ (xb X) (Pk Γ B (189, (nu (nu (nu (nu (nu (nu (nu (nu (nu (nu (nu (nu (nu (nu (nu (nu (nu (nu (nu (nu (nu (nu (nu (nu (nu (nu (nu (nu (nu (nu (nu (nu (nu (nu (nu (nu (nu (nu (nu (nu (nu (nu (nu (nu N 1 12) 0 1) 14 12) 0 2) 27 4) 0 4) 33 1) 0 6) 36 1) 38 12) 37 1) 51 12) 37 2) 64 12) 37 3) 77 12) 37 4) 90 12) 37 5) 103 12) 37 6) 116 12) 37 7) 129 12) 37 8) 0 8) 144 12) 143 1) 157 4) 143 2) 32 1) 163 12) 162 1) 176 4) 162 2) 32 2) 181 1) 35 1) 183 1) 35 2) 185 1) 35 3) 187 1) 35 4), (wI (wI (wI (wI (wJ s 36 6 (lN 1)) 181 0 (-1)) 183 0 (-1)) 185 0 (-1)) 187 0 (-1)))) (xa X) (xs X) 188 2010 (gA Γ)), 142, 1528) rfl ?_
  refine k_putR_6 hX (k := 0) (j := 7) (t := 142) (ty := .array .int) 7 (143, (nu (nu (nu (nu (nu (nu (nu (nu (nu (nu (nu (nu (nu (nu (nu (nu (nu (nu (nu (nu (nu (nu (nu (nu (nu (nu N 1 12) 0 1) 14 12) 0 2) 27 4) 0 4) 33 1) 0 6) 36 1) 38 12) 37 1) 51 12) 37 2) 64 12) 37 3) 77 12) 37 4) 90 12) 37 5) 103 12) 37 6) 116 12) 37 7) 129 12) 37 8) 0 8), (wJ s 36 6 (lN 1))) (show kd 0 = 6 by decide +kernel) (show 0 < 143 by decide) (by simp (disch := omega) only [nu_k, nu_o, wI_1o, wI_2a, wJ_1a, wJ_2o]) (by decide) ⟨rfl, rfl⟩ (by decide +kernel) rfl rfl (fun f g => rfl) dX6_init_80 fc_X6_52 (by rw [nu_nu]) 83 rfl ?_
  refine k_aload_n hX dX6_init_83 0 rfl 84 rfl ?_
  refine k_iconst hX (v := (nI 0)) dX6_init_84 rfl 85 rfl ?_
  refine k_put0_6 hX (k := 0) (j := 8) (ty := .int) (show kd 0 = 6 by decide +kernel) (show 0 < 143 by decide) (by decide) rfl (by decide +kernel) (by decide) (by decide) (by show some (Value.int ((wJ s 36 6 (lN 1)).1 0 8)) = _; (try simp (disch := omega) only [nu_k, nu_o, wI_1o, wI_2a, wJ_1a, wJ_2o]); rw [(hz 0 (by omega)).2.1]; rfl) dX6_init_85 fc_X6_56 88 rfl ?_
  refine k_iconst hX (v := (nI 0)) dX6_init_88 rfl 89 rfl ?_
  refine k_istore_n hX (lv2 := [(1, .int (nI 0)), (0, .ref (gL Γ (0)))]) dX6_init_89 (by decide) rfl 90 rfl ?_
  refine k_iload_n hX dX6_init_90 0 rfl 91 rfl ?_
  refine k_iconst hX (v := (nI 2)) dX6_init_91 rfl 92 rfl ?_
  refine k_geN hX 114 dX6_init_92 (by decide) (by decide) 95 rfl ?_
  refine k_aload_n hX dX6_init_95 1 rfl 96 rfl ?_
  refine k_get_6 hX (k := 0) (j := 3) (v := .ref (gL Γ (32))) 8 (show kd 0 = 6 by decide +kernel) (show 0 < 143 by decide) (by simp (disch := omega) only [nu_k, nu_o, wI_1o, wI_2a, wJ_1a, wJ_2o]) (by decide) rfl dX6_init_96 fc_X6_28 99 rfl ?_
  refine k_iload_n hX dX6_init_99 0 rfl 100 rfl ?_
  refine k_new0 hX dX6_init_100 cl_X6_26 is_0 ii_0 (show kd 143 = 0 by decide +kernel) (by (try simp (disch := omega) only [nu_k, nu_o, wI_1o, wI_2a, wJ_1a, wJ_2o]); exact hz (143) (by omega)) ⟨Nat.le_of_ble_eq_true rfl, Nat.le_of_ble_eq_true rfl⟩ 103 rfl (144, (nu (nu (nu (nu (nu (nu (nu (nu (nu (nu (nu (nu (nu (nu (nu (nu (nu (nu (nu (nu (nu (nu (nu (nu (nu (nu N 1 12) 0 1) 14 12) 0 2) 27 4) 0 4) 33 1) 0 6) 36 1) 38 12) 37 1) 51 12) 37 2) 64 12) 37 3) 77 12) 37 4) 90 12) 37 5) 103 12) 37 6) 116 12) 37 7) 129 12) 37 8) 0 8), (wJ s 36 6 (lN 1))) rfl ((MQ (xb X) (Pk Γ B (189, (nu (nu (nu (nu (nu (nu (nu (nu (nu (nu (nu (nu (nu (nu (nu (nu (nu (nu (nu (nu (nu (nu (nu (nu (nu (nu (nu (nu (nu (nu (nu (nu (nu (nu (nu (nu (nu (nu (nu (nu (nu (nu (nu (nu N 1 12) 0 1) 14 12) 0 2) 27 4) 0 4) 33 1) 0 6) 36 1) 38 12) 37 1) 51 12) 37 2) 64 12) 37 3) 77 12) 37 4) 90 12) 37 5) 103 12) 37 6) 116 12) 37 7) 129 12) 37 8) 0 8) 144 12) 143 1) 157 4) 143 2) 32 1) 163 12) 162 1) 176 4) 162 2) 32 2) 181 1) 35 1) 183 1) 35 2) 185 1) 35 3) 187 1) 35 4), (wI (wI (wI (wI (wJ s 36 6 (lN 1)) 181 0 (-1)) 183 0 (-1)) 185 0 (-1)) 187 0 (-1)))) (xa X) (xs X) 188 2010 (gA Γ)), 143, 1531) rfl ?_
  refine k_dup hX dX6_init_103 rfl 104 rfl ?_
  refine k_call hX (b := 143) (w2 := (162, (nu (nu (nu (nu (nu (nu (nu (nu (nu (nu (nu (nu (nu (nu (nu (nu (nu (nu (nu (nu (nu (nu (nu (nu (nu (nu (nu (nu (nu (nu N 1 12) 0 1) 14 12) 0 2) 27 4) 0 4) 33 1) 0 6) 36 1) 38 12) 37 1) 51 12) 37 2) 64 12) 37 3) 77 12) 37 4) 90 12) 37 5) 103 12) 37 6) 116 12) 37 7) 129 12) 37 8) 0 8) 144 12) 143 1) 157 4) 143 2), (wJ s 36 6 (lN 1)))) (c_X0_init_143 (N := (nu (nu (nu (nu (nu (nu (nu (nu (nu (nu (nu (nu (nu (nu (nu (nu (nu (nu (nu (nu (nu (nu (nu (nu (nu (nu N 1 12) 0 1) 14 12) 0 2) 27 4) 0 4) 33 1) 0 6) 36 1) 38 12) 37 1) 51 12) 37 2) 64 12) 37 3) 77 12) 37 4) 90 12) 37 5) 103 12) 37 6) 116 12) 37 7) 129 12) 37 8) 0 8)) (s := (wJ s 36 6 (lN 1))) hG (fun k hk => by (try simp (disch := omega) only [nu_k, nu_o, wI_1o, wI_2a, wJ_1a, wJ_2o]); exact hz k (by omega))) li_X6_60 rfl di_X0_init (by decide) (by decide) ⟨Nat.le_of_ble_eq_true rfl, Nat.le_of_ble_eq_true rfl⟩ (Nat.le_of_ble_eq_true rfl) dX6_init_104 107 rfl ((MQ (xb X) (Pk Γ B (189, (nu (nu (nu (nu (nu (nu (nu (nu (nu (nu (nu (nu (nu (nu (nu (nu (nu (nu (nu (nu (nu (nu (nu (nu (nu (nu (nu (nu (nu (nu (nu (nu (nu (nu (nu (nu (nu (nu (nu (nu (nu (nu (nu (nu N 1 12) 0 1) 14 12) 0 2) 27 4) 0 4) 33 1) 0 6) 36 1) 38 12) 37 1) 51 12) 37 2) 64 12) 37 3) 77 12) 37 4) 90 12) 37 5) 103 12) 37 6) 116 12) 37 7) 129 12) 37 8) 0 8) 144 12) 143 1) 157 4) 143 2) 32 1) 163 12) 162 1) 176 4) 162 2) 32 2) 181 1) 35 1) 183 1) 35 2) 185 1) 35 3) 187 1) 35 4), (wI (wI (wI (wI (wJ s 36 6 (lN 1)) 181 0 (-1)) 183 0 (-1)) 185 0 (-1)) 187 0 (-1)))) (xa X) (xs X) 188 2010 (gA Γ)), 161, 1683) rfl ?_
  refine k_aast11 hX (k := 32) (i := 0) (162, (nu (nu (nu (nu (nu (nu (nu (nu (nu (nu (nu (nu (nu (nu (nu (nu (nu (nu (nu (nu (nu (nu (nu (nu (nu (nu (nu (nu (nu (nu (nu N 1 12) 0 1) 14 12) 0 2) 27 4) 0 4) 33 1) 0 6) 36 1) 38 12) 37 1) 51 12) 37 2) 64 12) 37 3) 77 12) 37 4) 90 12) 37 5) 103 12) 37 6) 116 12) 37 7) 129 12) 37 8) 0 8) 144 12) 143 1) 157 4) 143 2) 32 1), (wJ s 36 6 (lN 1))) (show kd 32 = 11 by decide +kernel) (show 32 < 162 by decide) (by (try simp (disch := omega) only [nu_k, nu_o, wI_1o, wI_2a, wJ_1a, wJ_2o]); exact (hz (32) (by omega)).1) (by decide +kernel) (by decide) (show kd 143 = 0 by decide +kernel) (show 143 < 162 by decide) dX6_init_107 rfl 108 rfl ?_
  refine k_iinc hX (v := (nI 1)) (lv2 := [(1, .int (nI 1)), (0, .ref (gL Γ (0)))]) dX6_init_108 0 rfl (by decide) (by decide) rfl 111 rfl ?_
  refine k_goto hX 90 dX6_init_111 (by decide) ?_
  refine k_iload_n hX dX6_init_90 0 rfl 91 rfl ?_
  refine k_iconst hX (v := (nI 2)) dX6_init_91 rfl 92 rfl ?_
  refine k_geN hX 114 dX6_init_92 (by decide) (by decide) 95 rfl ?_
  refine k_aload_n hX dX6_init_95 1 rfl 96 rfl ?_
  refine k_get_6 hX (k := 0) (j := 3) (v := .ref (gL Γ (32))) 8 (show kd 0 = 6 by decide +kernel) (show 0 < 162 by decide) (by simp (disch := omega) only [nu_k, nu_o, wI_1o, wI_2a, wJ_1a, wJ_2o]) (by decide) rfl dX6_init_96 fc_X6_28 99 rfl ?_
  refine k_iload_n hX dX6_init_99 0 rfl 100 rfl ?_
  refine k_new0 hX dX6_init_100 cl_X6_26 is_0 ii_0 (show kd 162 = 0 by decide +kernel) (by (try simp (disch := omega) only [nu_k, nu_o, wI_1o, wI_2a, wJ_1a, wJ_2o]); exact hz (162) (by omega)) ⟨Nat.le_of_ble_eq_true rfl, Nat.le_of_ble_eq_true rfl⟩ 103 rfl (163, (nu (nu (nu (nu (nu (nu (nu (nu (nu (nu (nu (nu (nu (nu (nu (nu (nu (nu (nu (nu (nu (nu (nu (nu (nu (nu (nu (nu (nu (nu (nu N 1 12) 0 1) 14 12) 0 2) 27 4) 0 4) 33 1) 0 6) 36 1) 38 12) 37 1) 51 12) 37 2) 64 12) 37 3) 77 12) 37 4) 90 12) 37 5) 103 12) 37 6) 116 12) 37 7) 129 12) 37 8) 0 8) 144 12) 143 1) 157 4) 143 2) 32 1), (wJ s 36 6 (lN 1))) rfl ((MQ (xb X) (Pk Γ B (189, (nu (nu (nu (nu (nu (nu (nu (nu (nu (nu (nu (nu (nu (nu (nu (nu (nu (nu (nu (nu (nu (nu (nu (nu (nu (nu (nu (nu (nu (nu (nu (nu (nu (nu (nu (nu (nu (nu (nu (nu (nu (nu (nu (nu N 1 12) 0 1) 14 12) 0 2) 27 4) 0 4) 33 1) 0 6) 36 1) 38 12) 37 1) 51 12) 37 2) 64 12) 37 3) 77 12) 37 4) 90 12) 37 5) 103 12) 37 6) 116 12) 37 7) 129 12) 37 8) 0 8) 144 12) 143 1) 157 4) 143 2) 32 1) 163 12) 162 1) 176 4) 162 2) 32 2) 181 1) 35 1) 183 1) 35 2) 185 1) 35 3) 187 1) 35 4), (wI (wI (wI (wI (wJ s 36 6 (lN 1)) 181 0 (-1)) 183 0 (-1)) 185 0 (-1)) 187 0 (-1)))) (xa X) (xs X) 188 2010 (gA Γ)), 162, 1686) rfl ?_
  refine k_dup hX dX6_init_103 rfl 104 rfl ?_
  refine k_call hX (b := 162) (w2 := (181, (nu (nu (nu (nu (nu (nu (nu (nu (nu (nu (nu (nu (nu (nu (nu (nu (nu (nu (nu (nu (nu (nu (nu (nu (nu (nu (nu (nu (nu (nu (nu (nu (nu (nu (nu N 1 12) 0 1) 14 12) 0 2) 27 4) 0 4) 33 1) 0 6) 36 1) 38 12) 37 1) 51 12) 37 2) 64 12) 37 3) 77 12) 37 4) 90 12) 37 5) 103 12) 37 6) 116 12) 37 7) 129 12) 37 8) 0 8) 144 12) 143 1) 157 4) 143 2) 32 1) 163 12) 162 1) 176 4) 162 2), (wJ s 36 6 (lN 1)))) (c_X0_init_162 (N := (nu (nu (nu (nu (nu (nu (nu (nu (nu (nu (nu (nu (nu (nu (nu (nu (nu (nu (nu (nu (nu (nu (nu (nu (nu (nu (nu (nu (nu (nu (nu N 1 12) 0 1) 14 12) 0 2) 27 4) 0 4) 33 1) 0 6) 36 1) 38 12) 37 1) 51 12) 37 2) 64 12) 37 3) 77 12) 37 4) 90 12) 37 5) 103 12) 37 6) 116 12) 37 7) 129 12) 37 8) 0 8) 144 12) 143 1) 157 4) 143 2) 32 1)) (s := (wJ s 36 6 (lN 1))) hG (fun k hk => by (try simp (disch := omega) only [nu_k, nu_o, wI_1o, wI_2a, wJ_1a, wJ_2o]); exact hz k (by omega))) li_X6_60 rfl di_X0_init (by decide) (by decide) ⟨Nat.le_of_ble_eq_true rfl, Nat.le_of_ble_eq_true rfl⟩ (Nat.le_of_ble_eq_true rfl) dX6_init_104 107 rfl ((MQ (xb X) (Pk Γ B (189, (nu (nu (nu (nu (nu (nu (nu (nu (nu (nu (nu (nu (nu (nu (nu (nu (nu (nu (nu (nu (nu (nu (nu (nu (nu (nu (nu (nu (nu (nu (nu (nu (nu (nu (nu (nu (nu (nu (nu (nu (nu (nu (nu (nu N 1 12) 0 1) 14 12) 0 2) 27 4) 0 4) 33 1) 0 6) 36 1) 38 12) 37 1) 51 12) 37 2) 64 12) 37 3) 77 12) 37 4) 90 12) 37 5) 103 12) 37 6) 116 12) 37 7) 129 12) 37 8) 0 8) 144 12) 143 1) 157 4) 143 2) 32 1) 163 12) 162 1) 176 4) 162 2) 32 2) 181 1) 35 1) 183 1) 35 2) 185 1) 35 3) 187 1) 35 4), (wI (wI (wI (wI (wJ s 36 6 (lN 1)) 181 0 (-1)) 183 0 (-1)) 185 0 (-1)) 187 0 (-1)))) (xa X) (xs X) 188 2010 (gA Γ)), 180, 1838) rfl ?_
  refine k_aast11 hX (k := 32) (i := 1) (181, (nu (nu (nu (nu (nu (nu (nu (nu (nu (nu (nu (nu (nu (nu (nu (nu (nu (nu (nu (nu (nu (nu (nu (nu (nu (nu (nu (nu (nu (nu (nu (nu (nu (nu (nu (nu N 1 12) 0 1) 14 12) 0 2) 27 4) 0 4) 33 1) 0 6) 36 1) 38 12) 37 1) 51 12) 37 2) 64 12) 37 3) 77 12) 37 4) 90 12) 37 5) 103 12) 37 6) 116 12) 37 7) 129 12) 37 8) 0 8) 144 12) 143 1) 157 4) 143 2) 32 1) 163 12) 162 1) 176 4) 162 2) 32 2), (wJ s 36 6 (lN 1))) (show kd 32 = 11 by decide +kernel) (show 32 < 181 by decide) (by simp (disch := omega) only [nu_k, nu_o, wI_1o, wI_2a, wJ_1a, wJ_2o]) (by decide +kernel) (by decide) (show kd 162 = 0 by decide +kernel) (show 162 < 181 by decide) dX6_init_107 rfl 108 rfl ?_
  refine k_iinc hX (v := (nI 2)) (lv2 := [(1, .int (nI 2)), (0, .ref (gL Γ (0)))]) dX6_init_108 0 rfl (by decide) (by decide) rfl 111 rfl ?_
  refine k_goto hX 90 dX6_init_111 (by decide) ?_
  refine k_iload_n hX dX6_init_90 0 rfl 91 rfl ?_
  refine k_iconst hX (v := (nI 2)) dX6_init_91 rfl 92 rfl ?_
  refine k_geY hX 114 dX6_init_92 (by decide) (by decide) ?_
  refine k_iconst hX (v := (nI 0)) dX6_init_114 rfl 115 rfl ?_
  refine k_istore_n hX (lv2 := [(1, .int (nI 0)), (0, .ref (gL Γ (0)))]) dX6_init_115 (by decide) rfl 116 rfl ?_
  refine k_iload_n hX dX6_init_116 0 rfl 117 rfl ?_
  refine k_iconst hX (v := (nI 4)) dX6_init_117 rfl 118 rfl ?_
  refine k_geN hX 140 dX6_init_118 (by decide) (by decide) 121 rfl ?_
  refine k_aload_n hX dX6_init_121 1 rfl 122 rfl ?_
  refine k_get_6 hX (k := 0) (j := 5) (v := .ref (gL Γ (35))) 8 (show kd 0 = 6 by decide +kernel) (show 0 < 181 by decide) (by simp (disch := omega) only [nu_k, nu_o, wI_1o, wI_2a, wJ_1a, wJ_2o]) (by decide) rfl dX6_init_122 fc_X6_41 125 rfl ?_
  refine k_iload_n hX dX6_init_125 0 rfl 126 rfl ?_
  refine k_new4 hX dX6_init_126 cl_X6_39 is_4 ii_4 (show kd 181 = 4 by decide +kernel) (by (try simp (disch := omega) only [nu_k, nu_o, wI_1o, wI_2a, wJ_1a, wJ_2o]); exact hz (181) (by omega)) ⟨Nat.le_of_ble_eq_true rfl, Nat.le_of_ble_eq_true rfl⟩ 129 rfl (182, (nu (nu (nu (nu (nu (nu (nu (nu (nu (nu (nu (nu (nu (nu (nu (nu (nu (nu (nu (nu (nu (nu (nu (nu (nu (nu (nu (nu (nu (nu (nu (nu (nu (nu (nu (nu N 1 12) 0 1) 14 12) 0 2) 27 4) 0 4) 33 1) 0 6) 36 1) 38 12) 37 1) 51 12) 37 2) 64 12) 37 3) 77 12) 37 4) 90 12) 37 5) 103 12) 37 6) 116 12) 37 7) 129 12) 37 8) 0 8) 144 12) 143 1) 157 4) 143 2) 32 1) 163 12) 162 1) 176 4) 162 2) 32 2), (wJ s 36 6 (lN 1))) rfl ((MQ (xb X) (Pk Γ B (189, (nu (nu (nu (nu (nu (nu (nu (nu (nu (nu (nu (nu (nu (nu (nu (nu (nu (nu (nu (nu (nu (nu (nu (nu (nu (nu (nu (nu (nu (nu (nu (nu (nu (nu (nu (nu (nu (nu (nu (nu (nu (nu (nu (nu N 1 12) 0 1) 14 12) 0 2) 27 4) 0 4) 33 1) 0 6) 36 1) 38 12) 37 1) 51 12) 37 2) 64 12) 37 3) 77 12) 37 4) 90 12) 37 5) 103 12) 37 6) 116 12) 37 7) 129 12) 37 8) 0 8) 144 12) 143 1) 157 4) 143 2) 32 1) 163 12) 162 1) 176 4) 162 2) 32 2) 181 1) 35 1) 183 1) 35 2) 185 1) 35 3) 187 1) 35 4), (wI (wI (wI (wI (wJ s 36 6 (lN 1)) 181 0 (-1)) 183 0 (-1)) 185 0 (-1)) 187 0 (-1)))) (xa X) (xs X) 188 2010 (gA Γ)), 181, 1841) rfl ?_
  refine k_dup hX dX6_init_129 rfl 130 rfl ?_
  refine k_call hX (b := 181) (w2 := (183, (nu (nu (nu (nu (nu (nu (nu (nu (nu (nu (nu (nu (nu (nu (nu (nu (nu (nu (nu (nu (nu (nu (nu (nu (nu (nu (nu (nu (nu (nu (nu (nu (nu (nu (nu (nu (nu N 1 12) 0 1) 14 12) 0 2) 27 4) 0 4) 33 1) 0 6) 36 1) 38 12) 37 1) 51 12) 37 2) 64 12) 37 3) 77 12) 37 4) 90 12) 37 5) 103 12) 37 6) 116 12) 37 7) 129 12) 37 8) 0 8) 144 12) 143 1) 157 4) 143 2) 32 1) 163 12) 162 1) 176 4) 162 2) 32 2) 181 1), (wI (wJ s 36 6 (lN 1)) 181 0 (-1)))) (c_X4_init (q := 181) hG (by decide +kernel) (fun k hk => by (try simp (disch := omega) only [nu_k, nu_o, wI_1o, wI_2a, wJ_1a, wJ_2o]); exact hz k (by omega))) li_X6_61 rfl di_X4_init (by decide) (by decide) ⟨Nat.le_of_ble_eq_true rfl, Nat.le_of_ble_eq_true rfl⟩ (Nat.le_of_ble_eq_true rfl) dX6_init_130 133 rfl ((MQ (xb X) (Pk Γ B (189, (nu (nu (nu (nu (nu (nu (nu (nu (nu (nu (nu (nu (nu (nu (nu (nu (nu (nu (nu (nu (nu (nu (nu (nu (nu (nu (nu (nu (nu (nu (nu (nu (nu (nu (nu (nu (nu (nu (nu (nu (nu (nu (nu (nu N 1 12) 0 1) 14 12) 0 2) 27 4) 0 4) 33 1) 0 6) 36 1) 38 12) 37 1) 51 12) 37 2) 64 12) 37 3) 77 12) 37 4) 90 12) 37 5) 103 12) 37 6) 116 12) 37 7) 129 12) 37 8) 0 8) 144 12) 143 1) 157 4) 143 2) 32 1) 163 12) 162 1) 176 4) 162 2) 32 2) 181 1) 35 1) 183 1) 35 2) 185 1) 35 3) 187 1) 35 4), (wI (wI (wI (wI (wJ s 36 6 (lN 1)) 181 0 (-1)) 183 0 (-1)) 185 0 (-1)) 187 0 (-1)))) (xa X) (xs X) 188 2010 (gA Γ)), 182, 1881) rfl ?_
  refine k_aast13 hX (k := 35) (i := 0) (183, (nu (nu (nu (nu (nu (nu (nu (nu (nu (nu (nu (nu (nu (nu (nu (nu (nu (nu (nu (nu (nu (nu (nu (nu (nu (nu (nu (nu (nu (nu (nu (nu (nu (nu (nu (nu (nu (nu N 1 12) 0 1) 14 12) 0 2) 27 4) 0 4) 33 1) 0 6) 36 1) 38 12) 37 1) 51 12) 37 2) 64 12) 37 3) 77 12) 37 4) 90 12) 37 5) 103 12) 37 6) 116 12) 37 7) 129 12) 37 8) 0 8) 144 12) 143 1) 157 4) 143 2) 32 1) 163 12) 162 1) 176 4) 162 2) 32 2) 181 1) 35 1), (wI (wJ s 36 6 (lN 1)) 181 0 (-1))) (show kd 35 = 13 by decide +kernel) (show 35 < 183 by decide) (by (try simp (disch := omega) only [nu_k, nu_o, wI_1o, wI_2a, wJ_1a, wJ_2o]); exact (hz (35) (by omega)).1) (by decide +kernel) (by decide) (show kd 181 = 4 by decide +kernel) (show 181 < 183 by decide) dX6_init_133 rfl 134 rfl ?_
  refine k_iinc hX (v := (nI 1)) (lv2 := [(1, .int (nI 1)), (0, .ref (gL Γ (0)))]) dX6_init_134 0 rfl (by decide) (by decide) rfl 137 rfl ?_
  refine k_goto hX 116 dX6_init_137 (by decide) ?_
  refine k_iload_n hX dX6_init_116 0 rfl 117 rfl ?_
  refine k_iconst hX (v := (nI 4)) dX6_init_117 rfl 118 rfl ?_
  refine k_geN hX 140 dX6_init_118 (by decide) (by decide) 121 rfl ?_
  refine k_aload_n hX dX6_init_121 1 rfl 122 rfl ?_
  refine k_get_6 hX (k := 0) (j := 5) (v := .ref (gL Γ (35))) 8 (show kd 0 = 6 by decide +kernel) (show 0 < 183 by decide) (by simp (disch := omega) only [nu_k, nu_o, wI_1o, wI_2a, wJ_1a, wJ_2o]) (by decide) rfl dX6_init_122 fc_X6_41 125 rfl ?_
  refine k_iload_n hX dX6_init_125 0 rfl 126 rfl ?_
  refine k_new4 hX dX6_init_126 cl_X6_39 is_4 ii_4 (show kd 183 = 4 by decide +kernel) (by (try simp (disch := omega) only [nu_k, nu_o, wI_1o, wI_2a, wJ_1a, wJ_2o]); exact hz (183) (by omega)) ⟨Nat.le_of_ble_eq_true rfl, Nat.le_of_ble_eq_true rfl⟩ 129 rfl (184, (nu (nu (nu (nu (nu (nu (nu (nu (nu (nu (nu (nu (nu (nu (nu (nu (nu (nu (nu (nu (nu (nu (nu (nu (nu (nu (nu (nu (nu (nu (nu (nu (nu (nu (nu (nu (nu (nu N 1 12) 0 1) 14 12) 0 2) 27 4) 0 4) 33 1) 0 6) 36 1) 38 12) 37 1) 51 12) 37 2) 64 12) 37 3) 77 12) 37 4) 90 12) 37 5) 103 12) 37 6) 116 12) 37 7) 129 12) 37 8) 0 8) 144 12) 143 1) 157 4) 143 2) 32 1) 163 12) 162 1) 176 4) 162 2) 32 2) 181 1) 35 1), (wI (wJ s 36 6 (lN 1)) 181 0 (-1))) rfl ((MQ (xb X) (Pk Γ B (189, (nu (nu (nu (nu (nu (nu (nu (nu (nu (nu (nu (nu (nu (nu (nu (nu (nu (nu (nu (nu (nu (nu (nu (nu (nu (nu (nu (nu (nu (nu (nu (nu (nu (nu (nu (nu (nu (nu (nu (nu (nu (nu (nu (nu N 1 12) 0 1) 14 12) 0 2) 27 4) 0 4) 33 1) 0 6) 36 1) 38 12) 37 1) 51 12) 37 2) 64 12) 37 3) 77 12) 37 4) 90 12) 37 5) 103 12) 37 6) 116 12) 37 7) 129 12) 37 8) 0 8) 144 12) 143 1) 157 4) 143 2) 32 1) 163 12) 162 1) 176 4) 162 2) 32 2) 181 1) 35 1) 183 1) 35 2) 185 1) 35 3) 187 1) 35 4), (wI (wI (wI (wI (wJ s 36 6 (lN 1)) 181 0 (-1)) 183 0 (-1)) 185 0 (-1)) 187 0 (-1)))) (xa X) (xs X) 188 2010 (gA Γ)), 183, 1884) rfl ?_
  refine k_dup hX dX6_init_129 rfl 130 rfl ?_
  refine k_call hX (b := 183) (w2 := (185, (nu (nu (nu (nu (nu (nu (nu (nu (nu (nu (nu (nu (nu (nu (nu (nu (nu (nu (nu (nu (nu (nu (nu (nu (nu (nu (nu (nu (nu (nu (nu (nu (nu (nu (nu (nu (nu (nu (nu N 1 12) 0 1) 14 12) 0 2) 27 4) 0 4) 33 1) 0 6) 36 1) 38 12) 37 1) 51 12) 37 2) 64 12) 37 3) 77 12) 37 4) 90 12) 37 5) 103 12) 37 6) 116 12) 37 7) 129 12) 37 8) 0 8) 144 12) 143 1) 157 4) 143 2) 32 1) 163 12) 162 1) 176 4) 162 2) 32 2) 181 1) 35 1) 183 1), (wI (wI (wJ s 36 6 (lN 1)) 181 0 (-1)) 183 0 (-1)))) (c_X4_init (q := 183) hG (by decide +kernel) (fun k hk => by (try simp (disch := omega) only [nu_k, nu_o, wI_1o, wI_2a, wJ_1a, wJ_2o]); exact hz k (by omega))) li_X6_61 rfl di_X4_init (by decide) (by decide) ⟨Nat.le_of_ble_eq_true rfl, Nat.le_of_ble_eq_true rfl⟩ (Nat.le_of_ble_eq_true rfl) dX6_init_130 133 rfl ((MQ (xb X) (Pk Γ B (189, (nu (nu (nu (nu (nu (nu (nu (nu (nu (nu (nu (nu (nu (nu (nu (nu (nu (nu (nu (nu (nu (nu (nu (nu (nu (nu (nu (nu (nu (nu (nu (nu (nu (nu (nu (nu (nu (nu (nu (nu (nu (nu (nu (nu N 1 12) 0 1) 14 12) 0 2) 27 4) 0 4) 33 1) 0 6) 36 1) 38 12) 37 1) 51 12) 37 2) 64 12) 37 3) 77 12) 37 4) 90 12) 37 5) 103 12) 37 6) 116 12) 37 7) 129 12) 37 8) 0 8) 144 12) 143 1) 157 4) 143 2) 32 1) 163 12) 162 1) 176 4) 162 2) 32 2) 181 1) 35 1) 183 1) 35 2) 185 1) 35 3) 187 1) 35 4), (wI (wI (wI (wI (wJ s 36 6 (lN 1)) 181 0 (-1)) 183 0 (-1)) 185 0 (-1)) 187 0 (-1)))) (xa X) (xs X) 188 2010 (gA Γ)), 184, 1924) rfl ?_
  refine k_aast13 hX (k := 35) (i := 1) (185, (nu (nu (nu (nu (nu (nu (nu (nu (nu (nu (nu (nu (nu (nu (nu (nu (nu (nu (nu (nu (nu (nu (nu (nu (nu (nu (nu (nu (nu (nu (nu (nu (nu (nu (nu (nu (nu (nu (nu (nu N 1 12) 0 1) 14 12) 0 2) 27 4) 0 4) 33 1) 0 6) 36 1) 38 12) 37 1) 51 12) 37 2) 64 12) 37 3) 77 12) 37 4) 90 12) 37 5) 103 12) 37 6) 116 12) 37 7) 129 12) 37 8) 0 8) 144 12) 143 1) 157 4) 143 2) 32 1) 163 12) 162 1) 176 4) 162 2) 32 2) 181 1) 35 1) 183 1) 35 2), (wI (wI (wJ s 36 6 (lN 1)) 181 0 (-1)) 183 0 (-1))) (show kd 35 = 13 by decide +kernel) (show 35 < 185 by decide) (by simp (disch := omega) only [nu_k, nu_o, wI_1o, wI_2a, wJ_1a, wJ_2o]) (by decide +kernel) (by decide) (show kd 183 = 4 by decide +kernel) (show 183 < 185 by decide) dX6_init_133 rfl 134 rfl ?_
  refine k_iinc hX (v := (nI 2)) (lv2 := [(1, .int (nI 2)), (0, .ref (gL Γ (0)))]) dX6_init_134 0 rfl (by decide) (by decide) rfl 137 rfl ?_
  refine k_goto hX 116 dX6_init_137 (by decide) ?_
  refine k_iload_n hX dX6_init_116 0 rfl 117 rfl ?_
  refine k_iconst hX (v := (nI 4)) dX6_init_117 rfl 118 rfl ?_
  refine k_geN hX 140 dX6_init_118 (by decide) (by decide) 121 rfl ?_
  refine k_aload_n hX dX6_init_121 1 rfl 122 rfl ?_
  refine k_get_6 hX (k := 0) (j := 5) (v := .ref (gL Γ (35))) 8 (show kd 0 = 6 by decide +kernel) (show 0 < 185 by decide) (by simp (disch := omega) only [nu_k, nu_o, wI_1o, wI_2a, wJ_1a, wJ_2o]) (by decide) rfl dX6_init_122 fc_X6_41 125 rfl ?_
  refine k_iload_n hX dX6_init_125 0 rfl 126 rfl ?_
  refine k_new4 hX dX6_init_126 cl_X6_39 is_4 ii_4 (show kd 185 = 4 by decide +kernel) (by (try simp (disch := omega) only [nu_k, nu_o, wI_1o, wI_2a, wJ_1a, wJ_2o]); exact hz (185) (by omega)) ⟨Nat.le_of_ble_eq_true rfl, Nat.le_of_ble_eq_true rfl⟩ 129 rfl (186, (nu (nu (nu (nu (nu (nu (nu (nu (nu (nu (nu (nu (nu (nu (nu (nu (nu (nu (nu (nu (nu (nu (nu (nu (nu (nu (nu (nu (nu (nu (nu (nu (nu (nu (nu (nu (nu (nu (nu (nu N 1 12) 0 1) 14 12) 0 2) 27 4) 0 4) 33 1) 0 6) 36 1) 38 12) 37 1) 51 12) 37 2) 64 12) 37 3) 77 12) 37 4) 90 12) 37 5) 103 12) 37 6) 116 12) 37 7) 129 12) 37 8) 0 8) 144 12) 143 1) 157 4) 143 2) 32 1) 163 12) 162 1) 176 4) 162 2) 32 2) 181 1) 35 1) 183 1) 35 2), (wI (wI (wJ s 36 6 (lN 1)) 181 0 (-1)) 183 0 (-1))) rfl ((MQ (xb X) (Pk Γ B (189, (nu (nu (nu (nu (nu (nu (nu (nu (nu (nu (nu (nu (nu (nu (nu (nu (nu (nu (nu (nu (nu (nu (nu (nu (nu (nu (nu (nu (nu (nu (nu (nu (nu (nu (nu (nu (nu (nu (nu (nu (nu (nu (nu (nu N 1 12) 0 1) 14 12) 0 2) 27 4) 0 4) 33 1) 0 6) 36 1) 38 12) 37 1) 51 12) 37 2) 64 12) 37 3) 77 12) 37 4) 90 12) 37 5) 103 12) 37 6) 116 12) 37 7) 129 12) 37 8) 0 8) 144 12) 143 1) 157 4) 143 2) 32 1) 163 12) 162 1) 176 4) 162 2) 32 2) 181 1) 35 1) 183 1) 35 2) 185 1) 35 3) 187 1) 35 4), (wI (wI (wI (wI (wJ s 36 6 (lN 1)) 181 0 (-1)) 183 0 (-1)) 185 0 (-1)) 187 0 (-1)))) (xa X) (xs X) 188 2010 (gA Γ)), 185, 1927) rfl ?_
  refine k_dup hX dX6_init_129 rfl 130 rfl ?_
  refine k_call hX (b := 185) (w2 := (187, (nu (nu (nu (nu (nu (nu (nu (nu (nu (nu (nu (nu (nu (nu (nu (nu (nu (nu (nu (nu (nu (nu (nu (nu (nu (nu (nu (nu (nu (nu (nu (nu (nu (nu (nu (nu (nu (nu (nu (nu (nu N 1 12) 0 1) 14 12) 0 2) 27 4) 0 4) 33 1) 0 6) 36 1) 38 12) 37 1) 51 12) 37 2) 64 12) 37 3) 77 12) 37 4) 90 12) 37 5) 103 12) 37 6) 116 12) 37 7) 129 12) 37 8) 0 8) 144 12) 143 1) 157 4) 143 2) 32 1) 163 12) 162 1) 176 4) 162 2) 32 2) 181 1) 35 1) 183 1) 35 2) 185 1), (wI (wI (wI (wJ s 36 6 (lN 1)) 181 0 (-1)) 183 0 (-1)) 185 0 (-1)))) (c_X4_init (q := 185) hG (by decide +kernel) (fun k hk => by (try simp (disch := omega) only [nu_k, nu_o, wI_1o, wI_2a, wJ_1a, wJ_2o]); exact hz k (by omega))) li_X6_61 rfl di_X4_init (by decide) (by decide) ⟨Nat.le_of_ble_eq_true rfl, Nat.le_of_ble_eq_true rfl⟩ (Nat.le_of_ble_eq_true rfl) dX6_init_130 133 rfl ((MQ (xb X) (Pk Γ B (189, (nu (nu (nu (nu (nu (nu (nu (nu (nu (nu (nu (nu (nu (nu (nu (nu (nu (nu (nu (nu (nu (nu (nu (nu (nu (nu (nu (nu (nu (nu (nu (nu (nu (nu (nu (nu (nu (nu (nu (nu (nu (nu (nu (nu N 1 12) 0 1) 14 12) 0 2) 27 4) 0 4) 33 1) 0 6) 36 1) 38 12) 37 1) 51 12) 37 2) 64 12) 37 3) 77 12) 37 4) 90 12) 37 5) 103 12) 37 6) 116 12) 37 7) 129 12) 37 8) 0 8) 144 12) 143 1) 157 4) 143 2) 32 1) 163 12) 162 1) 176 4) 162 2) 32 2) 181 1) 35 1) 183 1) 35 2) 185 1) 35 3) 187 1) 35 4), (wI (wI (wI (wI (wJ s 36 6 (lN 1)) 181 0 (-1)) 183 0 (-1)) 185 0 (-1)) 187 0 (-1)))) (xa X) (xs X) 188 2010 (gA Γ)), 186, 1967) rfl ?_
  refine k_aast13 hX (k := 35) (i := 2) (187, (nu (nu (nu (nu (nu (nu (nu (nu (nu (nu (nu (nu (nu (nu (nu (nu (nu (nu (nu (nu (nu (nu (nu (nu (nu (nu (nu (nu (nu (nu (nu (nu (nu (nu (nu (nu (nu (nu (nu (nu (nu (nu N 1 12) 0 1) 14 12) 0 2) 27 4) 0 4) 33 1) 0 6) 36 1) 38 12) 37 1) 51 12) 37 2) 64 12) 37 3) 77 12) 37 4) 90 12) 37 5) 103 12) 37 6) 116 12) 37 7) 129 12) 37 8) 0 8) 144 12) 143 1) 157 4) 143 2) 32 1) 163 12) 162 1) 176 4) 162 2) 32 2) 181 1) 35 1) 183 1) 35 2) 185 1) 35 3), (wI (wI (wI (wJ s 36 6 (lN 1)) 181 0 (-1)) 183 0 (-1)) 185 0 (-1))) (show kd 35 = 13 by decide +kernel) (show 35 < 187 by decide) (by simp (disch := omega) only [nu_k, nu_o, wI_1o, wI_2a, wJ_1a, wJ_2o]) (by decide +kernel) (by decide) (show kd 185 = 4 by decide +kernel) (show 185 < 187 by decide) dX6_init_133 rfl 134 rfl ?_
  refine k_iinc hX (v := (nI 3)) (lv2 := [(1, .int (nI 3)), (0, .ref (gL Γ (0)))]) dX6_init_134 0 rfl (by decide) (by decide) rfl 137 rfl ?_
  refine k_goto hX 116 dX6_init_137 (by decide) ?_
  refine k_iload_n hX dX6_init_116 0 rfl 117 rfl ?_
  refine k_iconst hX (v := (nI 4)) dX6_init_117 rfl 118 rfl ?_
  refine k_geN hX 140 dX6_init_118 (by decide) (by decide) 121 rfl ?_
  refine k_aload_n hX dX6_init_121 1 rfl 122 rfl ?_
  refine k_get_6 hX (k := 0) (j := 5) (v := .ref (gL Γ (35))) 8 (show kd 0 = 6 by decide +kernel) (show 0 < 187 by decide) (by simp (disch := omega) only [nu_k, nu_o, wI_1o, wI_2a, wJ_1a, wJ_2o]) (by decide) rfl dX6_init_122 fc_X6_41 125 rfl ?_
  refine k_iload_n hX dX6_init_125 0 rfl 126 rfl ?_
  refine k_new4 hX dX6_init_126 cl_X6_39 is_4 ii_4 (show kd 187 = 4 by decide +kernel) (by (try simp (disch := omega) only [nu_k, nu_o, wI_1o, wI_2a, wJ_1a, wJ_2o]); exact hz (187) (by omega)) ⟨Nat.le_of_ble_eq_true rfl, Nat.le_of_ble_eq_true rfl⟩ 129 rfl (188, (nu (nu (nu (nu (nu (nu (nu (nu (nu (nu (nu (nu (nu (nu (nu (nu (nu (nu (nu (nu (nu (nu (nu (nu (nu (nu (nu (nu (nu (nu (nu (nu (nu (nu (nu (nu (nu (nu (nu (nu (nu (nu N 1 12) 0 1) 14 12) 0 2) 27 4) 0 4) 33 1) 0 6) 36 1) 38 12) 37 1) 51 12) 37 2) 64 12) 37 3) 77 12) 37 4) 90 12) 37 5) 103 12) 37 6) 116 12) 37 7) 129 12) 37 8) 0 8) 144 12) 143 1) 157 4) 143 2) 32 1) 163 12) 162 1) 176 4) 162 2) 32 2) 181 1) 35 1) 183 1) 35 2) 185 1) 35 3), (wI (wI (wI (wJ s 36 6 (lN 1)) 181 0 (-1)) 183 0 (-1)) 185 0 (-1))) rfl ((MQ (xb X) (Pk Γ B (189, (nu (nu (nu (nu (nu (nu (nu (nu (nu (nu (nu (nu (nu (nu (nu (nu (nu (nu (nu (nu (nu (nu (nu (nu (nu (nu (nu (nu (nu (nu (nu (nu (nu (nu (nu (nu (nu (nu (nu (nu (nu (nu (nu (nu N 1 12) 0 1) 14 12) 0 2) 27 4) 0 4) 33 1) 0 6) 36 1) 38 12) 37 1) 51 12) 37 2) 64 12) 37 3) 77 12) 37 4) 90 12) 37 5) 103 12) 37 6) 116 12) 37 7) 129 12) 37 8) 0 8) 144 12) 143 1) 157 4) 143 2) 32 1) 163 12) 162 1) 176 4) 162 2) 32 2) 181 1) 35 1) 183 1) 35 2) 185 1) 35 3) 187 1) 35 4), (wI (wI (wI (wI (wJ s 36 6 (lN 1)) 181 0 (-1)) 183 0 (-1)) 185 0 (-1)) 187 0 (-1)))) (xa X) (xs X) 188 2010 (gA Γ)), 187, 1970) rfl ?_
  refine k_dup hX dX6_init_129 rfl 130 rfl ?_
  refine k_call hX (b := 187) (w2 := (189, (nu (nu (nu (nu (nu (nu (nu (nu (nu (nu (nu (nu (nu (nu (nu (nu (nu (nu (nu (nu (nu (nu (nu (nu (nu (nu (nu (nu (nu (nu (nu (nu (nu (nu (nu (nu (nu (nu (nu (nu (nu (nu (nu N 1 12) 0 1) 14 12) 0 2) 27 4) 0 4) 33 1) 0 6) 36 1) 38 12) 37 1) 51 12) 37 2) 64 12) 37 3) 77 12) 37 4) 90 12) 37 5) 103 12) 37 6) 116 12) 37 7) 129 12) 37 8) 0 8) 144 12) 143 1) 157 4) 143 2) 32 1) 163 12) 162 1) 176 4) 162 2) 32 2) 181 1) 35 1) 183 1) 35 2) 185 1) 35 3) 187 1), (wI (wI (wI (wI (wJ s 36 6 (lN 1)) 181 0 (-1)) 183 0 (-1)) 185 0 (-1)) 187 0 (-1)))) (c_X4_init (q := 187) hG (by decide +kernel) (fun k hk => by (try simp (disch := omega) only [nu_k, nu_o, wI_1o, wI_2a, wJ_1a, wJ_2o]); exact hz k (by omega))) li_X6_61 rfl di_X4_init (by decide) (by decide) ⟨Nat.le_of_ble_eq_true rfl, Nat.le_of_ble_eq_true rfl⟩ (Nat.le_of_ble_eq_true rfl) dX6_init_130 133 rfl ((MQ (xb X) (Pk Γ B (189, (nu (nu (nu (nu (nu (nu (nu (nu (nu (nu (nu (nu (nu (nu (nu (nu (nu (nu (nu (nu (nu (nu (nu (nu (nu (nu (nu (nu (nu (nu (nu (nu (nu (nu (nu (nu (nu (nu (nu (nu (nu (nu (nu (nu N 1 12) 0 1) 14 12) 0 2) 27 4) 0 4) 33 1) 0 6) 36 1) 38 12) 37 1) 51 12) 37 2) 64 12) 37 3) 77 12) 37 4) 90 12) 37 5) 103 12) 37 6) 116 12) 37 7) 129 12) 37 8) 0 8) 144 12) 143 1) 157 4) 143 2) 32 1) 163 12) 162 1) 176 4) 162 2) 32 2) 181 1) 35 1) 183 1) 35 2) 185 1) 35 3) 187 1) 35 4), (wI (wI (wI (wI (wJ s 36 6 (lN 1)) 181 0 (-1)) 183 0 (-1)) 185 0 (-1)) 187 0 (-1)))) (xa X) (xs X) 188 2010 (gA Γ)), 188, 2010) rfl ?_
  refine k_aast13 hX (k := 35) (i := 3) (189, (nu (nu (nu (nu (nu (nu (nu (nu (nu (nu (nu (nu (nu (nu (nu (nu (nu (nu (nu (nu (nu (nu (nu (nu (nu (nu (nu (nu (nu (nu (nu (nu (nu (nu (nu (nu (nu (nu (nu (nu (nu (nu (nu (nu N 1 12) 0 1) 14 12) 0 2) 27 4) 0 4) 33 1) 0 6) 36 1) 38 12) 37 1) 51 12) 37 2) 64 12) 37 3) 77 12) 37 4) 90 12) 37 5) 103 12) 37 6) 116 12) 37 7) 129 12) 37 8) 0 8) 144 12) 143 1) 157 4) 143 2) 32 1) 163 12) 162 1) 176 4) 162 2) 32 2) 181 1) 35 1) 183 1) 35 2) 185 1) 35 3) 187 1) 35 4), (wI (wI (wI (wI (wJ s 36 6 (lN 1)) 181 0 (-1)) 183 0 (-1)) 185 0 (-1)) 187 0 (-1))) (show kd 35 = 13 by decide +kernel) (show 35 < 189 by decide) (by simp (disch := omega) only [nu_k, nu_o, wI_1o, wI_2a, wJ_1a, wJ_2o]) (by decide +kernel) (by decide) (show kd 187 = 4 by decide +kernel) (show 187 < 189 by decide) dX6_init_133 rfl 134 rfl ?_
  refine k_iinc hX (v := (nI 4)) (lv2 := [(1, .int (nI 4)), (0, .ref (gL Γ (0)))]) dX6_init_134 0 rfl (by decide) (by decide) rfl 137 rfl ?_
  refine k_goto hX 116 dX6_init_137 (by decide) ?_
  refine k_iload_n hX dX6_init_116 0 rfl 117 rfl ?_
  refine k_iconst hX (v := (nI 4)) dX6_init_117 rfl 118 rfl ?_
  refine k_geY hX 140 dX6_init_118 (by decide) (by decide) ?_
  exact k_ret hX dX6_init_140 rfl)

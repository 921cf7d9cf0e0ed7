theorem fl_X2_9 : Cond.fieldLink RX2 9 (TX2 0).1 (TX2 0).2.1 (TX2 0).2.2.1 ∈ gt := gt_mem (tm1 (List.mem_of_getElem? (i := 30) rfl)) rfl
theorem fl_X2_15 : Cond.fieldLink RX2 15 (TX2 1).1 (TX2 1).2.1 (TX2 1).2.2.1 ∈ gt := gt_mem (tm1 (List.mem_of_getElem? (i := 33) rfl)) rfl
theorem fl_X2_18 : Cond.fieldLink RX2 18 (TX2 2).1 (TX2 2).2.1 (TX2 2).2.2.1 ∈ gt := gt_mem (tm1 (List.mem_of_getElem? (i := 36) rfl)) rfl
theorem fl_X2_34 : Cond.fieldLink RX2 34 (TX2 7).1 (TX2 7).2.1 (TX2 7).2.2.1 ∈ gt := gt_mem (tm1 (List.mem_of_getElem? (i := 51) rfl)) rfl
theorem ds_J7_fill_53178 : Ds yJ7_fill_53178 2 := ⟨by decide +kernel, by decide +kernel, by decide +kernel⟩
theorem lk_X2_58 : LkS RX2 58 yJ7_fill_53178 cJ7_fill_53178 4 none := ⟨gt_mem (tm2 (List.mem_of_getElem? (i := 52) rfl)) rfl, gt_mem (tm2 (List.mem_of_getElem? (i := 53) rfl)) rfl, gt_mem (tm1 (List.mem_of_getElem? (i := 9) rfl)) rfl, gt_mem (tm2 (List.mem_of_getElem? (i := 54) rfl)) rfl⟩
theorem fl_X2_37 : Cond.fieldLink RX2 37 (TX2 8).1 (TX2 8).2.1 (TX2 8).2.2.1 ∈ gt := gt_mem (tm1 (List.mem_of_getElem? (i := 53) rfl)) rfl
theorem fl_X2_40 : Cond.fieldLink RX2 40 (TX2 9).1 (TX2 9).2.1 (TX2 9).2.2.1 ∈ gt := gt_mem (tm1 (List.mem_of_getElem? (i := 55) rfl)) rfl
theorem fl_X2_49 : Cond.fieldLink RX2 49 (TX2 12).1 (TX2 12).2.1 (TX2 12).2.2.1 ∈ gt := gt_mem (tm1 (List.mem_of_getElem? (i := 63) rfl)) rfl
theorem fl_X2_52 : Cond.fieldLink RX2 52 (TX2 13).1 (TX2 13).2.1 (TX2 13).2.2.1 ∈ gt := gt_mem (tm1 (List.mem_of_getElem? (i := 64) rfl)) rfl
theorem fl_X2_55 : Cond.fieldLink RX2 55 (TX2 14).1 (TX2 14).2.1 (TX2 14).2.2.1 ∈ gt := gt_mem (tm1 (List.mem_of_getElem? (i := 67) rfl)) rfl
theorem fl_X2_21 : Cond.fieldLink RX2 21 (TX2 3).1 (TX2 3).2.1 (TX2 3).2.2.1 ∈ gt := gt_mem (tm1 (List.mem_of_getElem? (i := 39) rfl)) rfl
theorem ml_X2_64 : Cond.methodLink RX2 64 arraycopyName ∈ gt := gt_mem (tm2 (List.mem_of_getElem? (i := 165) rfl)) rfl
theorem na_copy : Cond.native arraycopyName ∈ gt := gt_mem (tm2 (List.mem_of_getElem? (i := 167) rfl)) rfl
theorem st_copy : Cond.static arraycopyName ∈ gt := gt_mem (tm2 (List.mem_of_getElem? (i := 166) rfl)) rfl
theorem in_Sys : Cond.initialized "java/lang/System" ∈ gt := gt_mem (tm1 (List.mem_of_getElem? (i := 14) rfl)) rfl
theorem fl_X2_25 : Cond.fieldLink RX2 25 (TX2 4).1 (TX2 4).2.1 (TX2 4).2.2.1 ∈ gt := gt_mem (tm1 (List.mem_of_getElem? (i := 42) rfl)) rfl
theorem fl_X2_28 : Cond.fieldLink RX2 28 (TX2 5).1 (TX2 5).2.1 (TX2 5).2.2.1 ∈ gt := gt_mem (tm1 (List.mem_of_getElem? (i := 45) rfl)) rfl
theorem fl_X2_31 : Cond.fieldLink RX2 31 (TX2 6).1 (TX2 6).2.1 (TX2 6).2.2.1 ∈ gt := gt_mem (tm1 (List.mem_of_getElem? (i := 48) rfl)) rfl
theorem fl_X2_43 : Cond.fieldLink RX2 43 (TX2 10).1 (TX2 10).2.1 (TX2 10).2.2.1 ∈ gt := gt_mem (tm1 (List.mem_of_getElem? (i := 57) rfl)) rfl
theorem fl_X2_46 : Cond.fieldLink RX2 46 (TX2 11).1 (TX2 11).2.1 (TX2 11).2.2.1 ∈ gt := gt_mem (tm1 (List.mem_of_getElem? (i := 60) rfl)) rfl
theorem ds_X2_held : Ds yX2_held 2 := ⟨by decide +kernel, by decide +kernel, by decide +kernel⟩
theorem lk_X2_70 : LkV RX2 70 yX2_held cX2_held 3 (some .int) := ⟨gt_mem (tm2 (List.mem_of_getElem? (i := 188) rfl)) rfl, gt_mem (tm2 (List.mem_of_getElem? (i := 189) rfl)) rfl, gt_mem (tm2 (List.mem_of_getElem? (i := 190) rfl)) rfl, gt_mem (tm1 (List.mem_of_getElem? (i := 2) rfl)) rfl, gt_mem (tm2 (List.mem_of_getElem? (i := 191) rfl)) rfl⟩
theorem ds_X2_heldBy : Ds yX2_heldBy 1 := ⟨by decide +kernel, by decide +kernel, by decide +kernel⟩
theorem lk_X2_74 : LkV RX2 74 yX2_heldBy cX2_heldBy 4 (some .int) := ⟨gt_mem (tm2 (List.mem_of_getElem? (i := 184) rfl)) rfl, gt_mem (tm2 (List.mem_of_getElem? (i := 185) rfl)) rfl, gt_mem (tm2 (List.mem_of_getElem? (i := 186) rfl)) rfl, gt_mem (tm1 (List.mem_of_getElem? (i := 2) rfl)) rfl, gt_mem (tm2 (List.mem_of_getElem? (i := 187) rfl)) rfl⟩
theorem ds_X6_rowOf : Ds yX6_rowOf 1 := ⟨by decide +kernel, by decide +kernel, by decide +kernel⟩
theorem lk_X2_78 : LkN RX2 78 yX6_rowOf cX6_rowOf 1 (some .int) := ⟨List.mem_filter.mpr ⟨tm4 (List.mem_of_getElem? (i := 63) rfl), rfl⟩, gt_mem (tm2 (List.mem_of_getElem? (i := 217) rfl)) rfl, gt_mem (tm1 (List.mem_of_getElem? (i := 1) rfl)) rfl, gt_mem (tm2 (List.mem_of_getElem? (i := 218) rfl)) rfl⟩
theorem ds_X2_sumOfLives : Ds yX2_sumOfLives 1 := ⟨by decide +kernel, by decide +kernel, by decide +kernel⟩
theorem lk_X2_81 : LkV RX2 81 yX2_sumOfLives cX2_sumOfLives 4 (some .int) := ⟨gt_mem (tm3 (List.mem_of_getElem? (i := 32) rfl)) rfl, gt_mem (tm2 (List.mem_of_getElem? (i := 177) rfl)) rfl, gt_mem (tm2 (List.mem_of_getElem? (i := 178) rfl)) rfl, gt_mem (tm1 (List.mem_of_getElem? (i := 2) rfl)) rfl, gt_mem (tm2 (List.mem_of_getElem? (i := 179) rfl)) rfl⟩
theorem ml_X2_106 : Cond.methodLink RX2 106 Lib.Math.min.name ∈ gt := gt_mem (tm3 (List.mem_of_getElem? (i := 45) rfl)) rfl
theorem st_min : Cond.static Lib.Math.min.name ∈ gt := gt_mem (tm3 (List.mem_of_getElem? (i := 46) rfl)) rfl
theorem in_Math : Cond.initialized "java/lang/Math" ∈ gt := gt_mem (tm1 (List.mem_of_getElem? (i := 15) rfl)) rfl
theorem co_min : Cond.code Lib.Math.min.name Lib.Math.min.code 2 (some .int) ∈ gt := gt_mem (tm3 (List.mem_of_getElem? (i := 47) rfl)) rfl
theorem ds_X2_moved : Ds yX2_moved 2 := ⟨by decide +kernel, by decide +kernel, by decide +kernel⟩
theorem lk_X2_111 : LkS RX2 111 yX2_moved cX2_moved 3 (some .int) := ⟨gt_mem (tm3 (List.mem_of_getElem? (i := 56) rfl)) rfl, gt_mem (tm3 (List.mem_of_getElem? (i := 57) rfl)) rfl, gt_mem (tm1 (List.mem_of_getElem? (i := 2) rfl)) rfl, gt_mem (tm3 (List.mem_of_getElem? (i := 58) rfl)) rfl⟩
theorem ds_X2_beside : Ds yX2_beside 2 := ⟨by decide +kernel, by decide +kernel, by decide +kernel⟩
theorem lk_X2_114 : LkS RX2 114 yX2_beside cX2_beside 4 (some .int) := ⟨gt_mem (tm3 (List.mem_of_getElem? (i := 59) rfl)) rfl, gt_mem (tm3 (List.mem_of_getElem? (i := 60) rfl)) rfl, gt_mem (tm1 (List.mem_of_getElem? (i := 2) rfl)) rfl, gt_mem (tm3 (List.mem_of_getElem? (i := 61) rfl)) rfl⟩
theorem ds_X2_give : Ds yX2_give 3 := ⟨by decide +kernel, by decide +kernel, by decide +kernel⟩
theorem lk_X2_117 : LkV RX2 117 yX2_give cX2_give 4 none := ⟨gt_mem (tm3 (List.mem_of_getElem? (i := 62) rfl)) rfl, gt_mem (tm3 (List.mem_of_getElem? (i := 63) rfl)) rfl, gt_mem (tm3 (List.mem_of_getElem? (i := 64) rfl)) rfl, gt_mem (tm1 (List.mem_of_getElem? (i := 2) rfl)) rfl, gt_mem (tm3 (List.mem_of_getElem? (i := 65) rfl)) rfl⟩
theorem ds_X2_tellAll : Ds yX2_tellAll 0 := ⟨by decide +kernel, by decide +kernel, by decide +kernel⟩
theorem lk_X2_96 : LkV RX2 96 yX2_tellAll cX2_tellAll 3 none := ⟨gt_mem (tm3 (List.mem_of_getElem? (i := 41) rfl)) rfl, gt_mem (tm3 (List.mem_of_getElem? (i := 42) rfl)) rfl, gt_mem (tm3 (List.mem_of_getElem? (i := 43) rfl)) rfl, gt_mem (tm1 (List.mem_of_getElem? (i := 2) rfl)) rfl, gt_mem (tm3 (List.mem_of_getElem? (i := 44) rfl)) rfl⟩
theorem ds_X2_takeAll : Ds yX2_takeAll 0 := ⟨by decide +kernel, by decide +kernel, by decide +kernel⟩
theorem lk_X2_99 : LkV RX2 99 yX2_takeAll cX2_takeAll 6 (some .int) := ⟨gt_mem (tm3 (List.mem_of_getElem? (i := 48) rfl)) rfl, gt_mem (tm3 (List.mem_of_getElem? (i := 49) rfl)) rfl, gt_mem (tm3 (List.mem_of_getElem? (i := 50) rfl)) rfl, gt_mem (tm1 (List.mem_of_getElem? (i := 2) rfl)) rfl, gt_mem (tm3 (List.mem_of_getElem? (i := 51) rfl)) rfl⟩
theorem ds_X2_carry : Ds yX2_carry 1 := ⟨by decide +kernel, by decide +kernel, by decide +kernel⟩
theorem lk_X2_102 : LkV RX2 102 yX2_carry cX2_carry 9 none := ⟨gt_mem (tm3 (List.mem_of_getElem? (i := 52) rfl)) rfl, gt_mem (tm3 (List.mem_of_getElem? (i := 53) rfl)) rfl, gt_mem (tm3 (List.mem_of_getElem? (i := 54) rfl)) rfl, gt_mem (tm1 (List.mem_of_getElem? (i := 2) rfl)) rfl, gt_mem (tm3 (List.mem_of_getElem? (i := 55) rfl)) rfl⟩
theorem ds_X2_isOver : Ds yX2_isOver 0 := ⟨by decide +kernel, by decide +kernel, by decide +kernel⟩
theorem lk_X2_85 : LkV RX2 85 yX2_isOver cX2_isOver 1 (some .boolean) := ⟨gt_mem (tm3 (List.mem_of_getElem? (i := 28) rfl)) rfl, gt_mem (tm3 (List.mem_of_getElem? (i := 29) rfl)) rfl, gt_mem (tm3 (List.mem_of_getElem? (i := 30) rfl)) rfl, gt_mem (tm1 (List.mem_of_getElem? (i := 2) rfl)) rfl, gt_mem (tm3 (List.mem_of_getElem? (i := 31) rfl)) rfl⟩
theorem ds_X2_wayNow : Ds yX2_wayNow 0 := ⟨by decide +kernel, by decide +kernel, by decide +kernel⟩
theorem lk_X2_89 : LkV RX2 89 yX2_wayNow cX2_wayNow 1 (some .int) := ⟨gt_mem (tm3 (List.mem_of_getElem? (i := 33) rfl)) rfl, gt_mem (tm3 (List.mem_of_getElem? (i := 34) rfl)) rfl, gt_mem (tm3 (List.mem_of_getElem? (i := 35) rfl)) rfl, gt_mem (tm1 (List.mem_of_getElem? (i := 2) rfl)) rfl, gt_mem (tm3 (List.mem_of_getElem? (i := 36) rfl)) rfl⟩
theorem ds_X2_pass : Ds yX2_pass 1 := ⟨by decide +kernel, by decide +kernel, by decide +kernel⟩
theorem lk_X2_93 : LkV RX2 93 yX2_pass cX2_pass 3 (some .int) := ⟨gt_mem (tm3 (List.mem_of_getElem? (i := 37) rfl)) rfl, gt_mem (tm3 (List.mem_of_getElem? (i := 38) rfl)) rfl, gt_mem (tm3 (List.mem_of_getElem? (i := 39) rfl)) rfl, gt_mem (tm1 (List.mem_of_getElem? (i := 2) rfl)) rfl, gt_mem (tm3 (List.mem_of_getElem? (i := 40) rfl)) rfl⟩
theorem pwI_2_0 (Γ : Gm) (k : Nat) (f : Nat → Int32) (g : Nat → Int64) (x : Int32) : (flds Γ 2 k f g).set 0 (.int x) = flds Γ 2 k (upd f 0 x) g := by simp [flds, entK, upd]
theorem pwI_2_1 (Γ : Gm) (k : Nat) (f : Nat → Int32) (g : Nat → Int64) (x : Int32) : (flds Γ 2 k f g).set 1 (.int x) = flds Γ 2 k (upd f 1 x) g := by simp [flds, entK, upd]
theorem pwI_2_2 (Γ : Gm) (k : Nat) (f : Nat → Int32) (g : Nat → Int64) (x : Int32) : (flds Γ 2 k f g).set 2 (.int x) = flds Γ 2 k (upd f 2 x) g := by simp [flds, entK, upd]
theorem dX2_clear_0 : decode cX2_clear 0 = .ok (.aload_n 0, 1) := by decide +kernel
theorem dX2_clear_1 : decode cX2_clear 1 = .ok (.iconst 0, 1) := by decide +kernel
theorem dX2_clear_2 : decode cX2_clear 2 = .ok (.putfield 9, 3) := by decide +kernel
theorem dX2_clear_5 : decode cX2_clear 5 = .ok (.aload_n 0, 1) := by decide +kernel
theorem dX2_clear_6 : decode cX2_clear 6 = .ok (.iconst 0, 1) := by decide +kernel
theorem dX2_clear_7 : decode cX2_clear 7 = .ok (.putfield 15, 3) := by decide +kernel
theorem dX2_clear_10 : decode cX2_clear 10 = .ok (.aload_n 0, 1) := by decide +kernel
theorem dX2_clear_11 : decode cX2_clear 11 = .ok (.iconst 0, 1) := by decide +kernel
theorem dX2_clear_12 : decode cX2_clear 12 = .ok (.putfield 18, 3) := by decide +kernel
theorem dX2_clear_15 : decode cX2_clear 15 = .ok (.aload_n 0, 1) := by decide +kernel
theorem dX2_clear_16 : decode cX2_clear 16 = .ok (.getfield 34, 3) := by decide +kernel
theorem dX2_clear_19 : decode cX2_clear 19 = .ok (.iconst 0, 1) := by decide +kernel
theorem dX2_clear_20 : decode cX2_clear 20 = .ok (.invokestatic 58, 3) := by decide +kernel
theorem dX2_clear_23 : decode cX2_clear 23 = .ok (.aload_n 0, 1) := by decide +kernel
theorem dX2_clear_24 : decode cX2_clear 24 = .ok (.getfield 37, 3) := by decide +kernel
theorem dX2_clear_27 : decode cX2_clear 27 = .ok (.iconst 0, 1) := by decide +kernel
theorem dX2_clear_28 : decode cX2_clear 28 = .ok (.invokestatic 58, 3) := by decide +kernel
theorem dX2_clear_31 : decode cX2_clear 31 = .ok (.aload_n 0, 1) := by decide +kernel
theorem dX2_clear_32 : decode cX2_clear 32 = .ok (.getfield 40, 3) := by decide +kernel
theorem dX2_clear_35 : decode cX2_clear 35 = .ok (.iconst 0, 1) := by decide +kernel
theorem dX2_clear_36 : decode cX2_clear 36 = .ok (.invokestatic 58, 3) := by decide +kernel
theorem dX2_clear_39 : decode cX2_clear 39 = .ok (.aload_n 0, 1) := by decide +kernel
theorem dX2_clear_40 : decode cX2_clear 40 = .ok (.getfield 49, 3) := by decide +kernel
theorem dX2_clear_43 : decode cX2_clear 43 = .ok (.iconst 0, 1) := by decide +kernel
theorem dX2_clear_44 : decode cX2_clear 44 = .ok (.invokestatic 58, 3) := by decide +kernel
theorem dX2_clear_47 : decode cX2_clear 47 = .ok (.aload_n 0, 1) := by decide +kernel
theorem dX2_clear_48 : decode cX2_clear 48 = .ok (.getfield 52, 3) := by decide +kernel
theorem dX2_clear_51 : decode cX2_clear 51 = .ok (.iconst 0, 1) := by decide +kernel
theorem dX2_clear_52 : decode cX2_clear 52 = .ok (.invokestatic 58, 3) := by decide +kernel
theorem dX2_clear_55 : decode cX2_clear 55 = .ok (.aload_n 0, 1) := by decide +kernel
theorem dX2_clear_56 : decode cX2_clear 56 = .ok (.getfield 55, 3) := by decide +kernel
theorem dX2_clear_59 : decode cX2_clear 59 = .ok (.iconst 0, 1) := by decide +kernel
theorem dX2_clear_60 : decode cX2_clear 60 = .ok (.invokestatic 58, 3) := by decide +kernel
theorem dX2_clear_63 : decode cX2_clear 63 = .ok (.return_, 1) := by decide +kernel
def f_X2_clear (r : Nat) (s : St) : Option (Unit × St) := if kd (r) = 2 then bd (wI s r 0 (nI 0)) (fun s2 => bd (wI s2 r 1 (nI 0)) (fun s3 => bd (wI s3 r 2 (nI 0)) (fun s4 => cl (f_J7_fill_53178 (r + 5) (nI 0) s4) (fun x6 s5 => cl (f_J7_fill_53178 (r + 6) (nI 0) s5) (fun x8 s7 => cl (f_J7_fill_53178 (r + 7) (nI 0) s7) (fun x10 s9 => cl (f_J7_fill_53178 (r + 10) (nI 0) s9) (fun x12 s11 => cl (f_J7_fill_53178 (r + 11) (nI 0) s11) (fun x14 s13 => cl (f_J7_fill_53178 (r + 12) (nI 0) s13) (fun x16 s15 => some (((), s15))))))))))) else none
set_option maxHeartbeats 4000000 in
set_option maxRecDepth 100000 in
theorem e_X2_clear {X : Cx} {Γ : Gm} {r0 : Rb} (hX : Amb X Γ cX2_clear RX2 1 none 1) {r : Nat} {s : St} {t : Unit × St} (h : f_X2_clear r s = some t) (hk : (fun t : Unit × St => Rt X Γ r0 (none, t.2)) t) : Zw X Γ 1 r0 s 0 [(0, .ref (gL Γ (r)))] [] := by
  unfold f_X2_clear at h
  refine z_aload_n hX dX2_clear_0 0 rfl 1 rfl ?_
  refine z_iconst hX (v := (nI 0)) dX2_clear_1 rfl 2 rfl ?_
  replace h := gd_elim h
  obtain ⟨g1, h⟩ := h
  replace h := bd_elim h
  obtain ⟨s2, es2, h⟩ := h
  refine z_putI2 hX (k := r) (j := 0) g1 (by decide) rfl (by decide +kernel) (pwI_2_0 ..) dX2_clear_2 fl_X2_9 es2 5 rfl ?_
  refine z_aload_n hX dX2_clear_5 0 rfl 6 rfl ?_
  refine z_iconst hX (v := (nI 0)) dX2_clear_6 rfl 7 rfl ?_
  replace h := bd_elim h
  obtain ⟨s3, es3, h⟩ := h
  refine z_putI2 hX (k := r) (j := 1) g1 (by decide) rfl (by decide +kernel) (pwI_2_1 ..) dX2_clear_7 fl_X2_15 es3 10 rfl ?_
  refine z_aload_n hX dX2_clear_10 0 rfl 11 rfl ?_
  refine z_iconst hX (v := (nI 0)) dX2_clear_11 rfl 12 rfl ?_
  replace h := bd_elim h
  obtain ⟨s4, es4, h⟩ := h
  refine z_putI2 hX (k := r) (j := 2) g1 (by decide) rfl (by decide +kernel) (pwI_2_2 ..) dX2_clear_12 fl_X2_18 es4 15 rfl ?_
  refine z_aload_n hX dX2_clear_15 0 rfl 16 rfl ?_
  refine z_get2 hX (k := r) (j := 7) (v := .ref (gL Γ (r + 5))) g1 (by decide) rfl dX2_clear_16 fl_X2_34 19 rfl ?_
  refine z_iconst hX (v := (nI 0)) dX2_clear_19 rfl 20 rfl ?_
  replace h := cl_elim h
  obtain ⟨x6, s5, hx6, h⟩ := h
  refine z_cSv hX (As := [.ref (gL Γ (r + 5)), .int ((nI 0))]) (c_J7_fill_53178 hx6) lk_X2_58 ds_J7_fill_53178 rfl (by decide) (by decide) (by decide) dX2_clear_20 rfl 23 rfl ?_
  refine z_aload_n hX dX2_clear_23 0 rfl 24 rfl ?_
  refine z_get2 hX (k := r) (j := 8) (v := .ref (gL Γ (r + 6))) g1 (by decide) rfl dX2_clear_24 fl_X2_37 27 rfl ?_
  refine z_iconst hX (v := (nI 0)) dX2_clear_27 rfl 28 rfl ?_
  replace h := cl_elim h
  obtain ⟨x8, s7, hx8, h⟩ := h
  refine z_cSv hX (As := [.ref (gL Γ (r + 6)), .int ((nI 0))]) (c_J7_fill_53178 hx8) lk_X2_58 ds_J7_fill_53178 rfl (by decide) (by decide) (by decide) dX2_clear_28 rfl 31 rfl ?_
  refine z_aload_n hX dX2_clear_31 0 rfl 32 rfl ?_
  refine z_get2 hX (k := r) (j := 9) (v := .ref (gL Γ (r + 7))) g1 (by decide) rfl dX2_clear_32 fl_X2_40 35 rfl ?_
  refine z_iconst hX (v := (nI 0)) dX2_clear_35 rfl 36 rfl ?_
  replace h := cl_elim h
  obtain ⟨x10, s9, hx10, h⟩ := h
  refine z_cSv hX (As := [.ref (gL Γ (r + 7)), .int ((nI 0))]) (c_J7_fill_53178 hx10) lk_X2_58 ds_J7_fill_53178 rfl (by decide) (by decide) (by decide) dX2_clear_36 rfl 39 rfl ?_
  refine z_aload_n hX dX2_clear_39 0 rfl 40 rfl ?_
  refine z_get2 hX (k := r) (j := 12) (v := .ref (gL Γ (r + 10))) g1 (by decide) rfl dX2_clear_40 fl_X2_49 43 rfl ?_
  refine z_iconst hX (v := (nI 0)) dX2_clear_43 rfl 44 rfl ?_
  replace h := cl_elim h
  obtain ⟨x12, s11, hx12, h⟩ := h
  refine z_cSv hX (As := [.ref (gL Γ (r + 10)), .int ((nI 0))]) (c_J7_fill_53178 hx12) lk_X2_58 ds_J7_fill_53178 rfl (by decide) (by decide) (by decide) dX2_clear_44 rfl 47 rfl ?_
  refine z_aload_n hX dX2_clear_47 0 rfl 48 rfl ?_
  refine z_get2 hX (k := r) (j := 13) (v := .ref (gL Γ (r + 11))) g1 (by decide) rfl dX2_clear_48 fl_X2_52 51 rfl ?_
  refine z_iconst hX (v := (nI 0)) dX2_clear_51 rfl 52 rfl ?_
  replace h := cl_elim h
  obtain ⟨x14, s13, hx14, h⟩ := h
  refine z_cSv hX (As := [.ref (gL Γ (r + 11)), .int ((nI 0))]) (c_J7_fill_53178 hx14) lk_X2_58 ds_J7_fill_53178 rfl (by decide) (by decide) (by decide) dX2_clear_52 rfl 55 rfl ?_
  refine z_aload_n hX dX2_clear_55 0 rfl 56 rfl ?_
  refine z_get2 hX (k := r) (j := 14) (v := .ref (gL Γ (r + 12))) g1 (by decide) rfl dX2_clear_56 fl_X2_55 59 rfl ?_
  refine z_iconst hX (v := (nI 0)) dX2_clear_59 rfl 60 rfl ?_
  replace h := cl_elim h
  obtain ⟨x16, s15, hx16, h⟩ := h
  refine z_cSv hX (As := [.ref (gL Γ (r + 12)), .int ((nI 0))]) (c_J7_fill_53178 hx16) lk_X2_58 ds_J7_fill_53178 rfl (by decide) (by decide) (by decide) dX2_clear_60 rfl 63 rfl ?_
  replace h := Option.some.inj h
  subst h
  exact z_vret hX dX2_clear_63 rfl hk
theorem c_X2_clear {lc : Launch} {Γ : Gm} {r : Nat} {s s2 : St} {v : Unit} (h : f_X2_clear r s = some (v, s2)) : Ct lc Γ yX2_clear cX2_clear 1 none 1 [.ref (gL Γ (r))] s (none, s2) := Ct.of (by decide +kernel) (Nat.le_of_ble_eq_true rfl) (fun X hl hX => e_X2_clear hX h rfl)
theorem dX2_copyOf_0 : decode cX2_copyOf 0 = .ok (.aload_n 0, 1) := by decide +kernel
theorem dX2_copyOf_1 : decode cX2_copyOf 1 = .ok (.aload_n 1, 1) := by decide +kernel
theorem dX2_copyOf_2 : decode cX2_copyOf 2 = .ok (.getfield 9, 3) := by decide +kernel
theorem dX2_copyOf_5 : decode cX2_copyOf 5 = .ok (.putfield 9, 3) := by decide +kernel
theorem dX2_copyOf_8 : decode cX2_copyOf 8 = .ok (.aload_n 0, 1) := by decide +kernel
theorem dX2_copyOf_9 : decode cX2_copyOf 9 = .ok (.aload_n 1, 1) := by decide +kernel
theorem dX2_copyOf_10 : decode cX2_copyOf 10 = .ok (.getfield 15, 3) := by decide +kernel
theorem dX2_copyOf_13 : decode cX2_copyOf 13 = .ok (.putfield 15, 3) := by decide +kernel
theorem dX2_copyOf_16 : decode cX2_copyOf 16 = .ok (.aload_n 0, 1) := by decide +kernel
theorem dX2_copyOf_17 : decode cX2_copyOf 17 = .ok (.aload_n 1, 1) := by decide +kernel
theorem dX2_copyOf_18 : decode cX2_copyOf 18 = .ok (.getfield 18, 3) := by decide +kernel
theorem dX2_copyOf_21 : decode cX2_copyOf 21 = .ok (.putfield 18, 3) := by decide +kernel
theorem dX2_copyOf_24 : decode cX2_copyOf 24 = .ok (.aload_n 1, 1) := by decide +kernel
theorem dX2_copyOf_25 : decode cX2_copyOf 25 = .ok (.getfield 21, 3) := by decide +kernel
theorem dX2_copyOf_28 : decode cX2_copyOf 28 = .ok (.iconst 0, 1) := by decide +kernel
theorem dX2_copyOf_29 : decode cX2_copyOf 29 = .ok (.aload_n 0, 1) := by decide +kernel
theorem dX2_copyOf_30 : decode cX2_copyOf 30 = .ok (.getfield 21, 3) := by decide +kernel
theorem dX2_copyOf_33 : decode cX2_copyOf 33 = .ok (.iconst 0, 1) := by decide +kernel
theorem dX2_copyOf_34 : decode cX2_copyOf 34 = .ok (.iconst 3, 1) := by decide +kernel
theorem dX2_copyOf_35 : decode cX2_copyOf 35 = .ok (.invokestatic 64, 3) := by decide +kernel
theorem dX2_copyOf_38 : decode cX2_copyOf 38 = .ok (.aload_n 1, 1) := by decide +kernel
theorem dX2_copyOf_39 : decode cX2_copyOf 39 = .ok (.getfield 25, 3) := by decide +kernel
theorem dX2_copyOf_42 : decode cX2_copyOf 42 = .ok (.iconst 0, 1) := by decide +kernel
theorem dX2_copyOf_43 : decode cX2_copyOf 43 = .ok (.aload_n 0, 1) := by decide +kernel
theorem dX2_copyOf_44 : decode cX2_copyOf 44 = .ok (.getfield 25, 3) := by decide +kernel
theorem dX2_copyOf_47 : decode cX2_copyOf 47 = .ok (.iconst 0, 1) := by decide +kernel
theorem dX2_copyOf_48 : decode cX2_copyOf 48 = .ok (.iconst 3, 1) := by decide +kernel
theorem dX2_copyOf_49 : decode cX2_copyOf 49 = .ok (.invokestatic 64, 3) := by decide +kernel
theorem dX2_copyOf_52 : decode cX2_copyOf 52 = .ok (.aload_n 1, 1) := by decide +kernel
theorem dX2_copyOf_53 : decode cX2_copyOf 53 = .ok (.getfield 28, 3) := by decide +kernel
theorem dX2_copyOf_56 : decode cX2_copyOf 56 = .ok (.iconst 0, 1) := by decide +kernel
theorem dX2_copyOf_57 : decode cX2_copyOf 57 = .ok (.aload_n 0, 1) := by decide +kernel
theorem dX2_copyOf_58 : decode cX2_copyOf 58 = .ok (.getfield 28, 3) := by decide +kernel
theorem dX2_copyOf_61 : decode cX2_copyOf 61 = .ok (.iconst 0, 1) := by decide +kernel
theorem dX2_copyOf_62 : decode cX2_copyOf 62 = .ok (.iconst 3, 1) := by decide +kernel
theorem dX2_copyOf_63 : decode cX2_copyOf 63 = .ok (.invokestatic 64, 3) := by decide +kernel
theorem dX2_copyOf_66 : decode cX2_copyOf 66 = .ok (.aload_n 1, 1) := by decide +kernel
theorem dX2_copyOf_67 : decode cX2_copyOf 67 = .ok (.getfield 31, 3) := by decide +kernel
theorem dX2_copyOf_70 : decode cX2_copyOf 70 = .ok (.iconst 0, 1) := by decide +kernel
theorem dX2_copyOf_71 : decode cX2_copyOf 71 = .ok (.aload_n 0, 1) := by decide +kernel
theorem dX2_copyOf_72 : decode cX2_copyOf 72 = .ok (.getfield 31, 3) := by decide +kernel
theorem dX2_copyOf_75 : decode cX2_copyOf 75 = .ok (.iconst 0, 1) := by decide +kernel
theorem dX2_copyOf_76 : decode cX2_copyOf 76 = .ok (.iconst 3, 1) := by decide +kernel
theorem dX2_copyOf_77 : decode cX2_copyOf 77 = .ok (.invokestatic 64, 3) := by decide +kernel
theorem dX2_copyOf_80 : decode cX2_copyOf 80 = .ok (.aload_n 1, 1) := by decide +kernel
theorem dX2_copyOf_81 : decode cX2_copyOf 81 = .ok (.getfield 34, 3) := by decide +kernel
theorem dX2_copyOf_84 : decode cX2_copyOf 84 = .ok (.iconst 0, 1) := by decide +kernel
theorem dX2_copyOf_85 : decode cX2_copyOf 85 = .ok (.aload_n 0, 1) := by decide +kernel
theorem dX2_copyOf_86 : decode cX2_copyOf 86 = .ok (.getfield 34, 3) := by decide +kernel
theorem dX2_copyOf_89 : decode cX2_copyOf 89 = .ok (.iconst 0, 1) := by decide +kernel
theorem dX2_copyOf_90 : decode cX2_copyOf 90 = .ok (.iconst 3, 1) := by decide +kernel
theorem dX2_copyOf_91 : decode cX2_copyOf 91 = .ok (.invokestatic 64, 3) := by decide +kernel
theorem dX2_copyOf_94 : decode cX2_copyOf 94 = .ok (.aload_n 1, 1) := by decide +kernel
theorem dX2_copyOf_95 : decode cX2_copyOf 95 = .ok (.getfield 37, 3) := by decide +kernel
theorem dX2_copyOf_98 : decode cX2_copyOf 98 = .ok (.iconst 0, 1) := by decide +kernel
theorem dX2_copyOf_99 : decode cX2_copyOf 99 = .ok (.aload_n 0, 1) := by decide +kernel
theorem dX2_copyOf_100 : decode cX2_copyOf 100 = .ok (.getfield 37, 3) := by decide +kernel
theorem dX2_copyOf_103 : decode cX2_copyOf 103 = .ok (.iconst 0, 1) := by decide +kernel
theorem dX2_copyOf_104 : decode cX2_copyOf 104 = .ok (.iconst 3, 1) := by decide +kernel
theorem dX2_copyOf_105 : decode cX2_copyOf 105 = .ok (.invokestatic 64, 3) := by decide +kernel
theorem dX2_copyOf_108 : decode cX2_copyOf 108 = .ok (.aload_n 1, 1) := by decide +kernel
theorem dX2_copyOf_109 : decode cX2_copyOf 109 = .ok (.getfield 40, 3) := by decide +kernel
theorem dX2_copyOf_112 : decode cX2_copyOf 112 = .ok (.iconst 0, 1) := by decide +kernel
theorem dX2_copyOf_113 : decode cX2_copyOf 113 = .ok (.aload_n 0, 1) := by decide +kernel
theorem dX2_copyOf_114 : decode cX2_copyOf 114 = .ok (.getfield 40, 3) := by decide +kernel
theorem dX2_copyOf_117 : decode cX2_copyOf 117 = .ok (.iconst 0, 1) := by decide +kernel
theorem dX2_copyOf_118 : decode cX2_copyOf 118 = .ok (.bipush 60, 2) := by decide +kernel
theorem dX2_copyOf_120 : decode cX2_copyOf 120 = .ok (.invokestatic 64, 3) := by decide +kernel
theorem dX2_copyOf_123 : decode cX2_copyOf 123 = .ok (.aload_n 1, 1) := by decide +kernel
theorem dX2_copyOf_124 : decode cX2_copyOf 124 = .ok (.getfield 43, 3) := by decide +kernel
theorem dX2_copyOf_127 : decode cX2_copyOf 127 = .ok (.iconst 0, 1) := by decide +kernel
theorem dX2_copyOf_128 : decode cX2_copyOf 128 = .ok (.aload_n 0, 1) := by decide +kernel
theorem dX2_copyOf_129 : decode cX2_copyOf 129 = .ok (.getfield 43, 3) := by decide +kernel
theorem dX2_copyOf_132 : decode cX2_copyOf 132 = .ok (.iconst 0, 1) := by decide +kernel
theorem dX2_copyOf_133 : decode cX2_copyOf 133 = .ok (.iconst 4, 1) := by decide +kernel
theorem dX2_copyOf_134 : decode cX2_copyOf 134 = .ok (.invokestatic 64, 3) := by decide +kernel
theorem dX2_copyOf_137 : decode cX2_copyOf 137 = .ok (.aload_n 1, 1) := by decide +kernel
theorem dX2_copyOf_138 : decode cX2_copyOf 138 = .ok (.getfield 46, 3) := by decide +kernel
theorem dX2_copyOf_141 : decode cX2_copyOf 141 = .ok (.iconst 0, 1) := by decide +kernel
theorem dX2_copyOf_142 : decode cX2_copyOf 142 = .ok (.aload_n 0, 1) := by decide +kernel
theorem dX2_copyOf_143 : decode cX2_copyOf 143 = .ok (.getfield 46, 3) := by decide +kernel
theorem dX2_copyOf_146 : decode cX2_copyOf 146 = .ok (.iconst 0, 1) := by decide +kernel
theorem dX2_copyOf_147 : decode cX2_copyOf 147 = .ok (.iconst 4, 1) := by decide +kernel
theorem dX2_copyOf_148 : decode cX2_copyOf 148 = .ok (.invokestatic 64, 3) := by decide +kernel
theorem dX2_copyOf_151 : decode cX2_copyOf 151 = .ok (.aload_n 1, 1) := by decide +kernel
theorem dX2_copyOf_152 : decode cX2_copyOf 152 = .ok (.getfield 49, 3) := by decide +kernel
theorem dX2_copyOf_155 : decode cX2_copyOf 155 = .ok (.iconst 0, 1) := by decide +kernel
theorem dX2_copyOf_156 : decode cX2_copyOf 156 = .ok (.aload_n 0, 1) := by decide +kernel
theorem dX2_copyOf_157 : decode cX2_copyOf 157 = .ok (.getfield 49, 3) := by decide +kernel
theorem dX2_copyOf_160 : decode cX2_copyOf 160 = .ok (.iconst 0, 1) := by decide +kernel
theorem dX2_copyOf_161 : decode cX2_copyOf 161 = .ok (.bipush 12, 2) := by decide +kernel
theorem dX2_copyOf_163 : decode cX2_copyOf 163 = .ok (.invokestatic 64, 3) := by decide +kernel
theorem dX2_copyOf_166 : decode cX2_copyOf 166 = .ok (.aload_n 1, 1) := by decide +kernel
theorem dX2_copyOf_167 : decode cX2_copyOf 167 = .ok (.getfield 52, 3) := by decide +kernel
theorem dX2_copyOf_170 : decode cX2_copyOf 170 = .ok (.iconst 0, 1) := by decide +kernel
theorem dX2_copyOf_171 : decode cX2_copyOf 171 = .ok (.aload_n 0, 1) := by decide +kernel
theorem dX2_copyOf_172 : decode cX2_copyOf 172 = .ok (.getfield 52, 3) := by decide +kernel
theorem dX2_copyOf_175 : decode cX2_copyOf 175 = .ok (.iconst 0, 1) := by decide +kernel
theorem dX2_copyOf_176 : decode cX2_copyOf 176 = .ok (.bipush 6, 2) := by decide +kernel
theorem dX2_copyOf_178 : decode cX2_copyOf 178 = .ok (.invokestatic 64, 3) := by decide +kernel
theorem dX2_copyOf_181 : decode cX2_copyOf 181 = .ok (.aload_n 1, 1) := by decide +kernel
theorem dX2_copyOf_182 : decode cX2_copyOf 182 = .ok (.getfield 55, 3) := by decide +kernel
theorem dX2_copyOf_185 : decode cX2_copyOf 185 = .ok (.iconst 0, 1) := by decide +kernel
theorem dX2_copyOf_186 : decode cX2_copyOf 186 = .ok (.aload_n 0, 1) := by decide +kernel
theorem dX2_copyOf_187 : decode cX2_copyOf 187 = .ok (.getfield 55, 3) := by decide +kernel
theorem dX2_copyOf_190 : decode cX2_copyOf 190 = .ok (.iconst 0, 1) := by decide +kernel
theorem dX2_copyOf_191 : decode cX2_copyOf 191 = .ok (.iconst 4, 1) := by decide +kernel
theorem dX2_copyOf_192 : decode cX2_copyOf 192 = .ok (.invokestatic 64, 3) := by decide +kernel
theorem dX2_copyOf_195 : decode cX2_copyOf 195 = .ok (.return_, 1) := by decide +kernel
def f_X2_copyOf (r : Nat) (a1 : Nat) (s : St) : Option (Unit × St) := if kd (a1) = 2 then if kd (r) = 2 then bd (wI s r 0 (s.1 a1 0)) (fun s3 => bd (wI s3 r 1 (s3.1 a1 1)) (fun s4 => bd (wI s4 r 2 (s4.1 a1 2)) (fun s5 => if kd (a1 + 1) = 9 ∧ kd (r + 1) = 9 ∧ ¬ (nI 0) < 0 ∧ ¬ (nI 0) < 0 ∧ ¬ (nI 3) < 0 ∧ ((nI 0)).toNatClampNeg + ((nI 3)).toNatClampNeg ≤ ln (a1 + 1) ∧ ((nI 0)).toNatClampNeg + ((nI 3)).toNatClampNeg ≤ ln (r + 1) then bd (wR s5 (r + 1) (va_cpy (s5.1 (a1 + 1)) (s5.1 (r + 1)) ((nI 0)).toNatClampNeg ((nI 0)).toNatClampNeg ((nI 3)).toNatClampNeg)) (fun s7 => if kd (a1 + 2) = 9 ∧ kd (r + 2) = 9 ∧ ¬ (nI 0) < 0 ∧ ¬ (nI 0) < 0 ∧ ¬ (nI 3) < 0 ∧ ((nI 0)).toNatClampNeg + ((nI 3)).toNatClampNeg ≤ ln (a1 + 2) ∧ ((nI 0)).toNatClampNeg + ((nI 3)).toNatClampNeg ≤ ln (r + 2) then bd (wR s7 (r + 2) (va_cpy (s7.1 (a1 + 2)) (s7.1 (r + 2)) ((nI 0)).toNatClampNeg ((nI 0)).toNatClampNeg ((nI 3)).toNatClampNeg)) (fun s9 => if kd (a1 + 3) = 9 ∧ kd (r + 3) = 9 ∧ ¬ (nI 0) < 0 ∧ ¬ (nI 0) < 0 ∧ ¬ (nI 3) < 0 ∧ ((nI 0)).toNatClampNeg + ((nI 3)).toNatClampNeg ≤ ln (a1 + 3) ∧ ((nI 0)).toNatClampNeg + ((nI 3)).toNatClampNeg ≤ ln (r + 3) then bd (wR s9 (r + 3) (va_cpy (s9.1 (a1 + 3)) (s9.1 (r + 3)) ((nI 0)).toNatClampNeg ((nI 0)).toNatClampNeg ((nI 3)).toNatClampNeg)) (fun s11 => if kd (a1 + 4) = 9 ∧ kd (r + 4) = 9 ∧ ¬ (nI 0) < 0 ∧ ¬ (nI 0) < 0 ∧ ¬ (nI 3) < 0 ∧ ((nI 0)).toNatClampNeg + ((nI 3)).toNatClampNeg ≤ ln (a1 + 4) ∧ ((nI 0)).toNatClampNeg + ((nI 3)).toNatClampNeg ≤ ln (r + 4) then bd (wR s11 (r + 4) (va_cpy (s11.1 (a1 + 4)) (s11.1 (r + 4)) ((nI 0)).toNatClampNeg ((nI 0)).toNatClampNeg ((nI 3)).toNatClampNeg)) (fun s13 => if kd (a1 + 5) = 9 ∧ kd (r + 5) = 9 ∧ ¬ (nI 0) < 0 ∧ ¬ (nI 0) < 0 ∧ ¬ (nI 3) < 0 ∧ ((nI 0)).toNatClampNeg + ((nI 3)).toNatClampNeg ≤ ln (a1 + 5) ∧ ((nI 0)).toNatClampNeg + ((nI 3)).toNatClampNeg ≤ ln (r + 5) then bd (wR s13 (r + 5) (va_cpy (s13.1 (a1 + 5)) (s13.1 (r + 5)) ((nI 0)).toNatClampNeg ((nI 0)).toNatClampNeg ((nI 3)).toNatClampNeg)) (fun s15 => if kd (a1 + 6) = 9 ∧ kd (r + 6) = 9 ∧ ¬ (nI 0) < 0 ∧ ¬ (nI 0) < 0 ∧ ¬ (nI 3) < 0 ∧ ((nI 0)).toNatClampNeg + ((nI 3)).toNatClampNeg ≤ ln (a1 + 6) ∧ ((nI 0)).toNatClampNeg + ((nI 3)).toNatClampNeg ≤ ln (r + 6) then bd (wR s15 (r + 6) (va_cpy (s15.1 (a1 + 6)) (s15.1 (r + 6)) ((nI 0)).toNatClampNeg ((nI 0)).toNatClampNeg ((nI 3)).toNatClampNeg)) (fun s17 => if kd (a1 + 7) = 9 ∧ kd (r + 7) = 9 ∧ ¬ (nI 0) < 0 ∧ ¬ (nI 0) < 0 ∧ ¬ (nI 60) < 0 ∧ ((nI 0)).toNatClampNeg + ((nI 60)).toNatClampNeg ≤ ln (a1 + 7) ∧ ((nI 0)).toNatClampNeg + ((nI 60)).toNatClampNeg ≤ ln (r + 7) then bd (wR s17 (r + 7) (va_cpy (s17.1 (a1 + 7)) (s17.1 (r + 7)) ((nI 0)).toNatClampNeg ((nI 0)).toNatClampNeg ((nI 60)).toNatClampNeg)) (fun s19 => if kd (a1 + 8) = 9 ∧ kd (r + 8) = 9 ∧ ¬ (nI 0) < 0 ∧ ¬ (nI 0) < 0 ∧ ¬ (nI 4) < 0 ∧ ((nI 0)).toNatClampNeg + ((nI 4)).toNatClampNeg ≤ ln (a1 + 8) ∧ ((nI 0)).toNatClampNeg + ((nI 4)).toNatClampNeg ≤ ln (r + 8) then bd (wR s19 (r + 8) (va_cpy (s19.1 (a1 + 8)) (s19.1 (r + 8)) ((nI 0)).toNatClampNeg ((nI 0)).toNatClampNeg ((nI 4)).toNatClampNeg)) (fun s21 => if kd (a1 + 9) = 9 ∧ kd (r + 9) = 9 ∧ ¬ (nI 0) < 0 ∧ ¬ (nI 0) < 0 ∧ ¬ (nI 4) < 0 ∧ ((nI 0)).toNatClampNeg + ((nI 4)).toNatClampNeg ≤ ln (a1 + 9) ∧ ((nI 0)).toNatClampNeg + ((nI 4)).toNatClampNeg ≤ ln (r + 9) then bd (wR s21 (r + 9) (va_cpy (s21.1 (a1 + 9)) (s21.1 (r + 9)) ((nI 0)).toNatClampNeg ((nI 0)).toNatClampNeg ((nI 4)).toNatClampNeg)) (fun s23 => if kd (a1 + 10) = 9 ∧ kd (r + 10) = 9 ∧ ¬ (nI 0) < 0 ∧ ¬ (nI 0) < 0 ∧ ¬ (nI 12) < 0 ∧ ((nI 0)).toNatClampNeg + ((nI 12)).toNatClampNeg ≤ ln (a1 + 10) ∧ ((nI 0)).toNatClampNeg + ((nI 12)).toNatClampNeg ≤ ln (r + 10) then bd (wR s23 (r + 10) (va_cpy (s23.1 (a1 + 10)) (s23.1 (r + 10)) ((nI 0)).toNatClampNeg ((nI 0)).toNatClampNeg ((nI 12)).toNatClampNeg)) (fun s25 => if kd (a1 + 11) = 9 ∧ kd (r + 11) = 9 ∧ ¬ (nI 0) < 0 ∧ ¬ (nI 0) < 0 ∧ ¬ (nI 6) < 0 ∧ ((nI 0)).toNatClampNeg + ((nI 6)).toNatClampNeg ≤ ln (a1 + 11) ∧ ((nI 0)).toNatClampNeg + ((nI 6)).toNatClampNeg ≤ ln (r + 11) then bd (wR s25 (r + 11) (va_cpy (s25.1 (a1 + 11)) (s25.1 (r + 11)) ((nI 0)).toNatClampNeg ((nI 0)).toNatClampNeg ((nI 6)).toNatClampNeg)) (fun s27 => if kd (a1 + 12) = 9 ∧ kd (r + 12) = 9 ∧ ¬ (nI 0) < 0 ∧ ¬ (nI 0) < 0 ∧ ¬ (nI 4) < 0 ∧ ((nI 0)).toNatClampNeg + ((nI 4)).toNatClampNeg ≤ ln (a1 + 12) ∧ ((nI 0)).toNatClampNeg + ((nI 4)).toNatClampNeg ≤ ln (r + 12) then bd (wR s27 (r + 12) (va_cpy (s27.1 (a1 + 12)) (s27.1 (r + 12)) ((nI 0)).toNatClampNeg ((nI 0)).toNatClampNeg ((nI 4)).toNatClampNeg)) (fun s29 => some (((), s29))) else none) else none) else none) else none) else none) else none) else none) else none) else none) else none) else none) else none))) else none else none
set_option maxHeartbeats 4000000 in
set_option maxRecDepth 100000 in
theorem e_X2_copyOf {X : Cx} {Γ : Gm} {r0 : Rb} (hX : Amb X Γ cX2_copyOf RX2 2 none 1) {r : Nat} {a1 : Nat} {s : St} {t : Unit × St} (h : f_X2_copyOf r a1 s = some t) (hk : (fun t : Unit × St => Rt X Γ r0 (none, t.2)) t) : Zw X Γ 2 r0 s 0 [(0, .ref (gL Γ (r))), (1, .ref (gL Γ (a1)))] [] := by
  unfold f_X2_copyOf at h
  refine z_aload_n hX dX2_copyOf_0 0 rfl 1 rfl ?_
  refine z_aload_n hX dX2_copyOf_1 1 rfl 2 rfl ?_
  replace h := gd_elim h
  obtain ⟨g1, h⟩ := h
  refine z_get2 hX (k := a1) (j := 0) (v := .int ((s.1 a1 0))) g1 (by decide) rfl dX2_copyOf_2 fl_X2_9 5 rfl ?_
  replace h := gd_elim h
  obtain ⟨g2, h⟩ := h
  replace h := bd_elim h
  obtain ⟨s3, es3, h⟩ := h
  refine z_putI2 hX (k := r) (j := 0) g2 (by decide) rfl (by decide +kernel) (pwI_2_0 ..) dX2_copyOf_5 fl_X2_9 es3 8 rfl ?_
  refine z_aload_n hX dX2_copyOf_8 0 rfl 9 rfl ?_
  refine z_aload_n hX dX2_copyOf_9 1 rfl 10 rfl ?_
  refine z_get2 hX (k := a1) (j := 1) (v := .int ((s3.1 a1 1))) g1 (by decide) rfl dX2_copyOf_10 fl_X2_15 13 rfl ?_
  replace h := bd_elim h
  obtain ⟨s4, es4, h⟩ := h
  refine z_putI2 hX (k := r) (j := 1) g2 (by decide) rfl (by decide +kernel) (pwI_2_1 ..) dX2_copyOf_13 fl_X2_15 es4 16 rfl ?_
  refine z_aload_n hX dX2_copyOf_16 0 rfl 17 rfl ?_
  refine z_aload_n hX dX2_copyOf_17 1 rfl 18 rfl ?_
  refine z_get2 hX (k := a1) (j := 2) (v := .int ((s4.1 a1 2))) g1 (by decide) rfl dX2_copyOf_18 fl_X2_18 21 rfl ?_
  replace h := bd_elim h
  obtain ⟨s5, es5, h⟩ := h
  refine z_putI2 hX (k := r) (j := 2) g2 (by decide) rfl (by decide +kernel) (pwI_2_2 ..) dX2_copyOf_21 fl_X2_18 es5 24 rfl ?_
  refine z_aload_n hX dX2_copyOf_24 1 rfl 25 rfl ?_
  refine z_get2 hX (k := a1) (j := 3) (v := .ref (gL Γ (a1 + 1))) g1 (by decide) rfl dX2_copyOf_25 fl_X2_21 28 rfl ?_
  refine z_iconst hX (v := (nI 0)) dX2_copyOf_28 rfl 29 rfl ?_
  refine z_aload_n hX dX2_copyOf_29 0 rfl 30 rfl ?_
  refine z_get2 hX (k := r) (j := 3) (v := .ref (gL Γ (r + 1))) g2 (by decide) rfl dX2_copyOf_30 fl_X2_21 33 rfl ?_
  refine z_iconst hX (v := (nI 0)) dX2_copyOf_33 rfl 34 rfl ?_
  refine z_iconst hX (v := (nI 3)) dX2_copyOf_34 rfl 35 rfl ?_
  replace h := gd_elim h
  obtain ⟨g6, h⟩ := h
  replace h := bd_elim h
  obtain ⟨s7, es7, h⟩ := h
  refine z_copy hX ml_X2_64 na_copy st_copy in_Sys (by decide) (by decide) g6 dX2_copyOf_35 es7 38 rfl ?_
  refine z_aload_n hX dX2_copyOf_38 1 rfl 39 rfl ?_
  refine z_get2 hX (k := a1) (j := 4) (v := .ref (gL Γ (a1 + 2))) g1 (by decide) rfl dX2_copyOf_39 fl_X2_25 42 rfl ?_
  refine z_iconst hX (v := (nI 0)) dX2_copyOf_42 rfl 43 rfl ?_
  refine z_aload_n hX dX2_copyOf_43 0 rfl 44 rfl ?_
  refine z_get2 hX (k := r) (j := 4) (v := .ref (gL Γ (r + 2))) g2 (by decide) rfl dX2_copyOf_44 fl_X2_25 47 rfl ?_
  refine z_iconst hX (v := (nI 0)) dX2_copyOf_47 rfl 48 rfl ?_
  refine z_iconst hX (v := (nI 3)) dX2_copyOf_48 rfl 49 rfl ?_
  replace h := gd_elim h
  obtain ⟨g8, h⟩ := h
  replace h := bd_elim h
  obtain ⟨s9, es9, h⟩ := h
  refine z_copy hX ml_X2_64 na_copy st_copy in_Sys (by decide) (by decide) g8 dX2_copyOf_49 es9 52 rfl ?_
  refine z_aload_n hX dX2_copyOf_52 1 rfl 53 rfl ?_
  refine z_get2 hX (k := a1) (j := 5) (v := .ref (gL Γ (a1 + 3))) g1 (by decide) rfl dX2_copyOf_53 fl_X2_28 56 rfl ?_
  refine z_iconst hX (v := (nI 0)) dX2_copyOf_56 rfl 57 rfl ?_
  refine z_aload_n hX dX2_copyOf_57 0 rfl 58 rfl ?_
  refine z_get2 hX (k := r) (j := 5) (v := .ref (gL Γ (r + 3))) g2 (by decide) rfl dX2_copyOf_58 fl_X2_28 61 rfl ?_
  refine z_iconst hX (v := (nI 0)) dX2_copyOf_61 rfl 62 rfl ?_
  refine z_iconst hX (v := (nI 3)) dX2_copyOf_62 rfl 63 rfl ?_
  replace h := gd_elim h
  obtain ⟨g10, h⟩ := h
  replace h := bd_elim h
  obtain ⟨s11, es11, h⟩ := h
  refine z_copy hX ml_X2_64 na_copy st_copy in_Sys (by decide) (by decide) g10 dX2_copyOf_63 es11 66 rfl ?_
  refine z_aload_n hX dX2_copyOf_66 1 rfl 67 rfl ?_
  refine z_get2 hX (k := a1) (j := 6) (v := .ref (gL Γ (a1 + 4))) g1 (by decide) rfl dX2_copyOf_67 fl_X2_31 70 rfl ?_
  refine z_iconst hX (v := (nI 0)) dX2_copyOf_70 rfl 71 rfl ?_
  refine z_aload_n hX dX2_copyOf_71 0 rfl 72 rfl ?_
  refine z_get2 hX (k := r) (j := 6) (v := .ref (gL Γ (r + 4))) g2 (by decide) rfl dX2_copyOf_72 fl_X2_31 75 rfl ?_
  refine z_iconst hX (v := (nI 0)) dX2_copyOf_75 rfl 76 rfl ?_
  refine z_iconst hX (v := (nI 3)) dX2_copyOf_76 rfl 77 rfl ?_
  replace h := gd_elim h
  obtain ⟨g12, h⟩ := h
  replace h := bd_elim h
  obtain ⟨s13, es13, h⟩ := h
  refine z_copy hX ml_X2_64 na_copy st_copy in_Sys (by decide) (by decide) g12 dX2_copyOf_77 es13 80 rfl ?_
  refine z_aload_n hX dX2_copyOf_80 1 rfl 81 rfl ?_
  refine z_get2 hX (k := a1) (j := 7) (v := .ref (gL Γ (a1 + 5))) g1 (by decide) rfl dX2_copyOf_81 fl_X2_34 84 rfl ?_
  refine z_iconst hX (v := (nI 0)) dX2_copyOf_84 rfl 85 rfl ?_
  refine z_aload_n hX dX2_copyOf_85 0 rfl 86 rfl ?_
  refine z_get2 hX (k := r) (j := 7) (v := .ref (gL Γ (r + 5))) g2 (by decide) rfl dX2_copyOf_86 fl_X2_34 89 rfl ?_
  refine z_iconst hX (v := (nI 0)) dX2_copyOf_89 rfl 90 rfl ?_
  refine z_iconst hX (v := (nI 3)) dX2_copyOf_90 rfl 91 rfl ?_
  replace h := gd_elim h
  obtain ⟨g14, h⟩ := h
  replace h := bd_elim h
  obtain ⟨s15, es15, h⟩ := h
  refine z_copy hX ml_X2_64 na_copy st_copy in_Sys (by decide) (by decide) g14 dX2_copyOf_91 es15 94 rfl ?_
  refine z_aload_n hX dX2_copyOf_94 1 rfl 95 rfl ?_
  refine z_get2 hX (k := a1) (j := 8) (v := .ref (gL Γ (a1 + 6))) g1 (by decide) rfl dX2_copyOf_95 fl_X2_37 98 rfl ?_
  refine z_iconst hX (v := (nI 0)) dX2_copyOf_98 rfl 99 rfl ?_
  refine z_aload_n hX dX2_copyOf_99 0 rfl 100 rfl ?_
  refine z_get2 hX (k := r) (j := 8) (v := .ref (gL Γ (r + 6))) g2 (by decide) rfl dX2_copyOf_100 fl_X2_37 103 rfl ?_
  refine z_iconst hX (v := (nI 0)) dX2_copyOf_103 rfl 104 rfl ?_
  refine z_iconst hX (v := (nI 3)) dX2_copyOf_104 rfl 105 rfl ?_
  replace h := gd_elim h
  obtain ⟨g16, h⟩ := h
  replace h := bd_elim h
  obtain ⟨s17, es17, h⟩ := h
  refine z_copy hX ml_X2_64 na_copy st_copy in_Sys (by decide) (by decide) g16 dX2_copyOf_105 es17 108 rfl ?_
  refine z_aload_n hX dX2_copyOf_108 1 rfl 109 rfl ?_
  refine z_get2 hX (k := a1) (j := 9) (v := .ref (gL Γ (a1 + 7))) g1 (by decide) rfl dX2_copyOf_109 fl_X2_40 112 rfl ?_
  refine z_iconst hX (v := (nI 0)) dX2_copyOf_112 rfl 113 rfl ?_
  refine z_aload_n hX dX2_copyOf_113 0 rfl 114 rfl ?_
  refine z_get2 hX (k := r) (j := 9) (v := .ref (gL Γ (r + 7))) g2 (by decide) rfl dX2_copyOf_114 fl_X2_40 117 rfl ?_
  refine z_iconst hX (v := (nI 0)) dX2_copyOf_117 rfl 118 rfl ?_
  refine z_bipush hX (v := (nI 60)) dX2_copyOf_118 (by decide) 120 rfl ?_
  replace h := gd_elim h
  obtain ⟨g18, h⟩ := h
  replace h := bd_elim h
  obtain ⟨s19, es19, h⟩ := h
  refine z_copy hX ml_X2_64 na_copy st_copy in_Sys (by decide) (by decide) g18 dX2_copyOf_120 es19 123 rfl ?_
  refine z_aload_n hX dX2_copyOf_123 1 rfl 124 rfl ?_
  refine z_get2 hX (k := a1) (j := 10) (v := .ref (gL Γ (a1 + 8))) g1 (by decide) rfl dX2_copyOf_124 fl_X2_43 127 rfl ?_
  refine z_iconst hX (v := (nI 0)) dX2_copyOf_127 rfl 128 rfl ?_
  refine z_aload_n hX dX2_copyOf_128 0 rfl 129 rfl ?_
  refine z_get2 hX (k := r) (j := 10) (v := .ref (gL Γ (r + 8))) g2 (by decide) rfl dX2_copyOf_129 fl_X2_43 132 rfl ?_
  refine z_iconst hX (v := (nI 0)) dX2_copyOf_132 rfl 133 rfl ?_
  refine z_iconst hX (v := (nI 4)) dX2_copyOf_133 rfl 134 rfl ?_
  replace h := gd_elim h
  obtain ⟨g20, h⟩ := h
  replace h := bd_elim h
  obtain ⟨s21, es21, h⟩ := h
  refine z_copy hX ml_X2_64 na_copy st_copy in_Sys (by decide) (by decide) g20 dX2_copyOf_134 es21 137 rfl ?_
  refine z_aload_n hX dX2_copyOf_137 1 rfl 138 rfl ?_
  refine z_get2 hX (k := a1) (j := 11) (v := .ref (gL Γ (a1 + 9))) g1 (by decide) rfl dX2_copyOf_138 fl_X2_46 141 rfl ?_
  refine z_iconst hX (v := (nI 0)) dX2_copyOf_141 rfl 142 rfl ?_
  refine z_aload_n hX dX2_copyOf_142 0 rfl 143 rfl ?_
  refine z_get2 hX (k := r) (j := 11) (v := .ref (gL Γ (r + 9))) g2 (by decide) rfl dX2_copyOf_143 fl_X2_46 146 rfl ?_
  refine z_iconst hX (v := (nI 0)) dX2_copyOf_146 rfl 147 rfl ?_
  refine z_iconst hX (v := (nI 4)) dX2_copyOf_147 rfl 148 rfl ?_
  replace h := gd_elim h
  obtain ⟨g22, h⟩ := h
  replace h := bd_elim h
  obtain ⟨s23, es23, h⟩ := h
  refine z_copy hX ml_X2_64 na_copy st_copy in_Sys (by decide) (by decide) g22 dX2_copyOf_148 es23 151 rfl ?_
  refine z_aload_n hX dX2_copyOf_151 1 rfl 152 rfl ?_
  refine z_get2 hX (k := a1) (j := 12) (v := .ref (gL Γ (a1 + 10))) g1 (by decide) rfl dX2_copyOf_152 fl_X2_49 155 rfl ?_
  refine z_iconst hX (v := (nI 0)) dX2_copyOf_155 rfl 156 rfl ?_
  refine z_aload_n hX dX2_copyOf_156 0 rfl 157 rfl ?_
  refine z_get2 hX (k := r) (j := 12) (v := .ref (gL Γ (r + 10))) g2 (by decide) rfl dX2_copyOf_157 fl_X2_49 160 rfl ?_
  refine z_iconst hX (v := (nI 0)) dX2_copyOf_160 rfl 161 rfl ?_
  refine z_bipush hX (v := (nI 12)) dX2_copyOf_161 (by decide) 163 rfl ?_
  replace h := gd_elim h
  obtain ⟨g24, h⟩ := h
  replace h := bd_elim h
  obtain ⟨s25, es25, h⟩ := h
  refine z_copy hX ml_X2_64 na_copy st_copy in_Sys (by decide) (by decide) g24 dX2_copyOf_163 es25 166 rfl ?_
  refine z_aload_n hX dX2_copyOf_166 1 rfl 167 rfl ?_
  refine z_get2 hX (k := a1) (j := 13) (v := .ref (gL Γ (a1 + 11))) g1 (by decide) rfl dX2_copyOf_167 fl_X2_52 170 rfl ?_
  refine z_iconst hX (v := (nI 0)) dX2_copyOf_170 rfl 171 rfl ?_
  refine z_aload_n hX dX2_copyOf_171 0 rfl 172 rfl ?_
  refine z_get2 hX (k := r) (j := 13) (v := .ref (gL Γ (r + 11))) g2 (by decide) rfl dX2_copyOf_172 fl_X2_52 175 rfl ?_
  refine z_iconst hX (v := (nI 0)) dX2_copyOf_175 rfl 176 rfl ?_
  refine z_bipush hX (v := (nI 6)) dX2_copyOf_176 (by decide) 178 rfl ?_
  replace h := gd_elim h
  obtain ⟨g26, h⟩ := h
  replace h := bd_elim h
  obtain ⟨s27, es27, h⟩ := h
  refine z_copy hX ml_X2_64 na_copy st_copy in_Sys (by decide) (by decide) g26 dX2_copyOf_178 es27 181 rfl ?_
  refine z_aload_n hX dX2_copyOf_181 1 rfl 182 rfl ?_
  refine z_get2 hX (k := a1) (j := 14) (v := .ref (gL Γ (a1 + 12))) g1 (by decide) rfl dX2_copyOf_182 fl_X2_55 185 rfl ?_
  refine z_iconst hX (v := (nI 0)) dX2_copyOf_185 rfl 186 rfl ?_
  refine z_aload_n hX dX2_copyOf_186 0 rfl 187 rfl ?_
  refine z_get2 hX (k := r) (j := 14) (v := .ref (gL Γ (r + 12))) g2 (by decide) rfl dX2_copyOf_187 fl_X2_55 190 rfl ?_
  refine z_iconst hX (v := (nI 0)) dX2_copyOf_190 rfl 191 rfl ?_
  refine z_iconst hX (v := (nI 4)) dX2_copyOf_191 rfl 192 rfl ?_
  replace h := gd_elim h
  obtain ⟨g28, h⟩ := h
  replace h := bd_elim h
  obtain ⟨s29, es29, h⟩ := h
  refine z_copy hX ml_X2_64 na_copy st_copy in_Sys (by decide) (by decide) g28 dX2_copyOf_192 es29 195 rfl ?_
  replace h := Option.some.inj h
  subst h
  exact z_vret hX dX2_copyOf_195 rfl hk
theorem c_X2_copyOf {lc : Launch} {Γ : Gm} {r : Nat} {a1 : Nat} {s s2 : St} {v : Unit} (h : f_X2_copyOf r a1 s = some (v, s2)) : Ct lc Γ yX2_copyOf cX2_copyOf 2 none 1 [.ref (gL Γ (r)), .ref (gL Γ (a1))] s (none, s2) := Ct.of (by decide +kernel) (Nat.le_of_ble_eq_true rfl) (fun X hl hX => e_X2_copyOf hX h rfl)
theorem dX2_isLife_0 : decode cX2_isLife 0 = .ok (.iload_n 1, 1) := by decide +kernel
theorem dX2_isLife_1 : decode cX2_isLife 1 = .ok (.ifCond .lt 15, 3) := by decide +kernel
theorem dX2_isLife_4 : decode cX2_isLife 4 = .ok (.iload_n 1, 1) := by decide +kernel
theorem dX2_isLife_5 : decode cX2_isLife 5 = .ok (.aload_n 0, 1) := by decide +kernel
theorem dX2_isLife_6 : decode cX2_isLife 6 = .ok (.getfield 9, 3) := by decide +kernel
theorem dX2_isLife_9 : decode cX2_isLife 9 = .ok (.if_icmp .ge 7, 3) := by decide +kernel
theorem dX2_isLife_12 : decode cX2_isLife 12 = .ok (.iconst 1, 1) := by decide +kernel
theorem dX2_isLife_13 : decode cX2_isLife 13 = .ok (.goto 4, 3) := by decide +kernel
theorem dX2_isLife_16 : decode cX2_isLife 16 = .ok (.iconst 0, 1) := by decide +kernel
theorem dX2_isLife_17 : decode cX2_isLife 17 = .ok (.ireturn, 1) := by decide +kernel
def f_X2_isLife (r : Nat) (a1 : Int32) (s : St) : Option (Int32 × St) := if a1 < 0 then (some (((nI 0), s))) else (if kd (r) = 2 then if (s.1 r 0) ≤ a1 then (some (((nI 0), s))) else (some (((nI 1), s))) else none)
set_option maxHeartbeats 4000000 in
set_option maxRecDepth 100000 in
theorem e_X2_isLife {X : Cx} {Γ : Gm} {r0 : Rb} (hX : Amb X Γ cX2_isLife RX2 2 (some .boolean) 0) {r : Nat} {a1 : Int32} {s : St} {t : Int32 × St} (h : f_X2_isLife r a1 s = some t) (hk : (fun t : Int32 × St => Rt X Γ r0 (some (Value.int t.1), t.2)) t) : Zw X Γ 2 r0 s 0 [(0, .ref (gL Γ (r))), (1, .int a1)] [] := by
  unfold f_X2_isLife at h
  refine z_iload_n hX dX2_isLife_0 1 rfl 1 rfl ?_
  refine z_if_lt hX 16 dX2_isLife_1 (by decide) 4 rfl (fun c1 => ?_) (fun c1 => ?_)
  · replace h := br_pos h c1
    refine z_iconst hX (v := (nI 0)) dX2_isLife_16 rfl 17 rfl ?_
    replace h := Option.some.inj h
    subst h
    exact z_zret hX dX2_isLife_17 rfl (by decide) hk
  · replace h := br_neg h c1
    refine z_iload_n hX dX2_isLife_4 1 rfl 5 rfl ?_
    refine z_aload_n hX dX2_isLife_5 0 rfl 6 rfl ?_
    replace h := gd_elim h
    obtain ⟨g2, h⟩ := h
    refine z_get2 hX (k := r) (j := 0) (v := .int ((s.1 r 0))) g2 (by decide) rfl dX2_isLife_6 fl_X2_9 9 rfl ?_
    refine z_icmp_ge hX 16 dX2_isLife_9 (by decide) 12 rfl (fun c3 => ?_) (fun c3 => ?_)
    · replace h := br_pos h c3
      refine z_iconst hX (v := (nI 0)) dX2_isLife_16 rfl 17 rfl ?_
      replace h := Option.some.inj h
      subst h
      exact z_zret hX dX2_isLife_17 rfl (by decide) hk
    · replace h := br_neg h c3
      refine z_iconst hX (v := (nI 1)) dX2_isLife_12 rfl 13 rfl ?_
      refine z_goto hX 17 dX2_isLife_13 (by decide) ?_
      replace h := Option.some.inj h
      subst h
      exact z_zret hX dX2_isLife_17 rfl (by decide) hk
theorem c_X2_isLife {lc : Launch} {Γ : Gm} {r : Nat} {a1 : Int32} {s s2 : St} {v : Int32} (h : f_X2_isLife r a1 s = some (v, s2)) : Ct lc Γ yX2_isLife cX2_isLife 2 (some .boolean) 0 [.ref (gL Γ (r)), .int a1] s (some (.int v), s2) := Ct.of (by decide +kernel) (Nat.le_of_ble_eq_true rfl) (fun X hl hX => e_X2_isLife hX h rfl)
theorem dX2_isSitter_0 : decode cX2_isSitter 0 = .ok (.iload_n 1, 1) := by decide +kernel
theorem dX2_isSitter_1 : decode cX2_isSitter 1 = .ok (.ifCond .lt 15, 3) := by decide +kernel
theorem dX2_isSitter_4 : decode cX2_isSitter 4 = .ok (.iload_n 1, 1) := by decide +kernel
theorem dX2_isSitter_5 : decode cX2_isSitter 5 = .ok (.aload_n 0, 1) := by decide +kernel
theorem dX2_isSitter_6 : decode cX2_isSitter 6 = .ok (.getfield 15, 3) := by decide +kernel
theorem dX2_isSitter_9 : decode cX2_isSitter 9 = .ok (.if_icmp .ge 7, 3) := by decide +kernel
theorem dX2_isSitter_12 : decode cX2_isSitter 12 = .ok (.iconst 1, 1) := by decide +kernel
theorem dX2_isSitter_13 : decode cX2_isSitter 13 = .ok (.goto 4, 3) := by decide +kernel
theorem dX2_isSitter_16 : decode cX2_isSitter 16 = .ok (.iconst 0, 1) := by decide +kernel
theorem dX2_isSitter_17 : decode cX2_isSitter 17 = .ok (.ireturn, 1) := by decide +kernel
def f_X2_isSitter (r : Nat) (a1 : Int32) (s : St) : Option (Int32 × St) := if a1 < 0 then (some (((nI 0), s))) else (if kd (r) = 2 then if (s.1 r 1) ≤ a1 then (some (((nI 0), s))) else (some (((nI 1), s))) else none)
set_option maxHeartbeats 4000000 in
set_option maxRecDepth 100000 in
theorem e_X2_isSitter {X : Cx} {Γ : Gm} {r0 : Rb} (hX : Amb X Γ cX2_isSitter RX2 2 (some .boolean) 0) {r : Nat} {a1 : Int32} {s : St} {t : Int32 × St} (h : f_X2_isSitter r a1 s = some t) (hk : (fun t : Int32 × St => Rt X Γ r0 (some (Value.int t.1), t.2)) t) : Zw X Γ 2 r0 s 0 [(0, .ref (gL Γ (r))), (1, .int a1)] [] := by
  unfold f_X2_isSitter at h
  refine z_iload_n hX dX2_isSitter_0 1 rfl 1 rfl ?_
  refine z_if_lt hX 16 dX2_isSitter_1 (by decide) 4 rfl (fun c1 => ?_) (fun c1 => ?_)
  · replace h := br_pos h c1
    refine z_iconst hX (v := (nI 0)) dX2_isSitter_16 rfl 17 rfl ?_
    replace h := Option.some.inj h
    subst h
    exact z_zret hX dX2_isSitter_17 rfl (by decide) hk
  · replace h := br_neg h c1
    refine z_iload_n hX dX2_isSitter_4 1 rfl 5 rfl ?_
    refine z_aload_n hX dX2_isSitter_5 0 rfl 6 rfl ?_
    replace h := gd_elim h
    obtain ⟨g2, h⟩ := h
    refine z_get2 hX (k := r) (j := 1) (v := .int ((s.1 r 1))) g2 (by decide) rfl dX2_isSitter_6 fl_X2_15 9 rfl ?_
    refine z_icmp_ge hX 16 dX2_isSitter_9 (by decide) 12 rfl (fun c3 => ?_) (fun c3 => ?_)
    · replace h := br_pos h c3
      refine z_iconst hX (v := (nI 0)) dX2_isSitter_16 rfl 17 rfl ?_
      replace h := Option.some.inj h
      subst h
      exact z_zret hX dX2_isSitter_17 rfl (by decide) hk
    · replace h := br_neg h c3
      refine z_iconst hX (v := (nI 1)) dX2_isSitter_12 rfl 13 rfl ?_
      refine z_goto hX 17 dX2_isSitter_13 (by decide) ?_
      replace h := Option.some.inj h
      subst h
      exact z_zret hX dX2_isSitter_17 rfl (by decide) hk
theorem c_X2_isSitter {lc : Launch} {Γ : Gm} {r : Nat} {a1 : Int32} {s s2 : St} {v : Int32} (h : f_X2_isSitter r a1 s = some (v, s2)) : Ct lc Γ yX2_isSitter cX2_isSitter 2 (some .boolean) 0 [.ref (gL Γ (r)), .int a1] s (some (.int v), s2) := Ct.of (by decide +kernel) (Nat.le_of_ble_eq_true rfl) (fun X hl hX => e_X2_isSitter hX h rfl)
theorem dX2_held_0 : decode cX2_held 0 = .ok (.aload_n 0, 1) := by decide +kernel
theorem dX2_held_1 : decode cX2_held 1 = .ok (.getfield 49, 3) := by decide +kernel
theorem dX2_held_4 : decode cX2_held 4 = .ok (.iload_n 1, 1) := by decide +kernel
theorem dX2_held_5 : decode cX2_held 5 = .ok (.iconst 3, 1) := by decide +kernel
theorem dX2_held_6 : decode cX2_held 6 = .ok (.imul, 1) := by decide +kernel
theorem dX2_held_7 : decode cX2_held 7 = .ok (.iload_n 2, 1) := by decide +kernel
theorem dX2_held_8 : decode cX2_held 8 = .ok (.iadd, 1) := by decide +kernel
theorem dX2_held_9 : decode cX2_held 9 = .ok (.iaload, 1) := by decide +kernel
theorem dX2_held_10 : decode cX2_held 10 = .ok (.ireturn, 1) := by decide +kernel
def f_X2_held (r : Nat) (a1 : Int32) (a2 : Int32) (s : St) : Option (Int32 × St) := if kd (r) = 2 then if inb ((a1 * (nI 3)) + a2) (lnI (r + 10)) = true then some (((s.1 (r + 10) (((a1 * (nI 3)) + a2)).toNatClampNeg), s)) else none else none
set_option maxHeartbeats 4000000 in
set_option maxRecDepth 100000 in
theorem e_X2_held {X : Cx} {Γ : Gm} {r0 : Rb} (hX : Amb X Γ cX2_held RX2 3 (some .int) 0) {r : Nat} {a1 : Int32} {a2 : Int32} {s : St} {t : Int32 × St} (h : f_X2_held r a1 a2 s = some t) (hk : (fun t : Int32 × St => Rt X Γ r0 (some (Value.int t.1), t.2)) t) : Zw X Γ 3 r0 s 0 [(0, .ref (gL Γ (r))), (1, .int a1), (2, .int a2)] [] := by
  unfold f_X2_held at h
  refine z_aload_n hX dX2_held_0 0 rfl 1 rfl ?_
  replace h := gd_elim h
  obtain ⟨g1, h⟩ := h
  refine z_get2 hX (k := r) (j := 12) (v := .ref (gL Γ (r + 10))) g1 (by decide) rfl dX2_held_1 fl_X2_49 4 rfl ?_
  refine z_iload_n hX dX2_held_4 1 rfl 5 rfl ?_
  refine z_iconst hX (v := (nI 3)) dX2_held_5 rfl 6 rfl ?_
  refine z_imul hX dX2_held_6 7 rfl ?_
  refine z_iload_n hX dX2_held_7 2 rfl 8 rfl ?_
  refine z_iadd hX dX2_held_8 9 rfl ?_
  replace h := gd_elim h
  obtain ⟨g2, h⟩ := h
  refine z_iald hX (inb_vp g2) dX2_held_9 10 rfl ?_
  replace h := Option.some.inj h
  subst h
  exact z_iret hX dX2_held_10 rfl hk
theorem c_X2_held {lc : Launch} {Γ : Gm} {r : Nat} {a1 : Int32} {a2 : Int32} {s s2 : St} {v : Int32} (h : f_X2_held r a1 a2 s = some (v, s2)) : Ct lc Γ yX2_held cX2_held 3 (some .int) 0 [.ref (gL Γ (r)), .int a1, .int a2] s (some (.int v), s2) := Ct.of (by decide +kernel) (Nat.le_of_ble_eq_true rfl) (fun X hl hX => e_X2_held hX h rfl)
theorem dX2_heldBy_0 : decode cX2_heldBy 0 = .ok (.iconst 0, 1) := by decide +kernel
theorem dX2_heldBy_1 : decode cX2_heldBy 1 = .ok (.istore_n 2, 1) := by decide +kernel
theorem dX2_heldBy_2 : decode cX2_heldBy 2 = .ok (.iconst 0, 1) := by decide +kernel
theorem dX2_heldBy_3 : decode cX2_heldBy 3 = .ok (.istore_n 3, 1) := by decide +kernel
theorem dX2_heldBy_4 : decode cX2_heldBy 4 = .ok (.iload_n 3, 1) := by decide +kernel
theorem dX2_heldBy_5 : decode cX2_heldBy 5 = .ok (.aload_n 0, 1) := by decide +kernel
theorem dX2_heldBy_6 : decode cX2_heldBy 6 = .ok (.getfield 9, 3) := by decide +kernel
theorem dX2_heldBy_9 : decode cX2_heldBy 9 = .ok (.if_icmp .ge 18, 3) := by decide +kernel
theorem dX2_heldBy_12 : decode cX2_heldBy 12 = .ok (.iload_n 2, 1) := by decide +kernel
theorem dX2_heldBy_13 : decode cX2_heldBy 13 = .ok (.aload_n 0, 1) := by decide +kernel
theorem dX2_heldBy_14 : decode cX2_heldBy 14 = .ok (.iload_n 1, 1) := by decide +kernel
theorem dX2_heldBy_15 : decode cX2_heldBy 15 = .ok (.iload_n 3, 1) := by decide +kernel
theorem dX2_heldBy_16 : decode cX2_heldBy 16 = .ok (.invokevirtual 70, 3) := by decide +kernel
theorem dX2_heldBy_19 : decode cX2_heldBy 19 = .ok (.iadd, 1) := by decide +kernel
theorem dX2_heldBy_20 : decode cX2_heldBy 20 = .ok (.istore_n 2, 1) := by decide +kernel
theorem dX2_heldBy_21 : decode cX2_heldBy 21 = .ok (.iinc 3 1, 3) := by decide +kernel
theorem dX2_heldBy_24 : decode cX2_heldBy 24 = .ok (.goto (-20), 3) := by decide +kernel
theorem dX2_heldBy_27 : decode cX2_heldBy 27 = .ok (.iload_n 2, 1) := by decide +kernel
theorem dX2_heldBy_28 : decode cX2_heldBy 28 = .ok (.ireturn, 1) := by decide +kernel
def f_X2_heldBy_L4 (r : Nat) (v1 : Int32) (v2 : Int32) (v3 : Int32) (s : St) : Option ((Int32 × Int32 × St) ⊕ (Int32 × St)) := if kd (r) = 2 then if (s.1 r 0) ≤ v3 then (some (Sum.inr ((v2, s)))) else (cl (f_X2_held r v1 v3 s) (fun x4 s3 => bd (v2 + x4) (fun x5 => some (Sum.inl (x5, (v3 + (nI 1)), s3))))) else none
def f_X2_heldBy (r : Nat) (a1 : Int32) (s : St) : Option (Int32 × St) := lp (fun q : Int32 × Int32 × St => f_X2_heldBy_L4 r a1 q.1 q.2.1 q.2.2) Fu ((nI 0), (nI 0), s)
set_option maxHeartbeats 4000000 in
set_option maxRecDepth 100000 in
theorem e_X2_heldBy_L4 {X : Cx} {Γ : Gm} {r0 : Rb} (hX : Amb X Γ cX2_heldBy RX2 4 (some .int) 1) {r : Nat} {v1 : Int32} {v2 : Int32} {v3 : Int32} {s : St} {t : (Int32 × Int32 × St) ⊕ (Int32 × St)} (h : f_X2_heldBy_L4 r v1 v2 v3 s = some t) (hk : (Sum.elim (fun q : Int32 × Int32 × St => Zw X Γ 4 r0 q.2.2 4 [(0, .ref (gL Γ (r))), (1, .int v1), (2, .int q.1), (3, .int q.2.1)] []) (fun t : Int32 × St => Rt X Γ r0 (some (Value.int t.1), t.2))) t) : Zw X Γ 4 r0 s 4 [(0, .ref (gL Γ (r))), (1, .int v1), (2, .int v2), (3, .int v3)] [] := by
  unfold f_X2_heldBy_L4 at h
  refine z_iload_n hX dX2_heldBy_4 3 rfl 5 rfl ?_
  refine z_aload_n hX dX2_heldBy_5 0 rfl 6 rfl ?_
  replace h := gd_elim h
  obtain ⟨g1, h⟩ := h
  refine z_get2 hX (k := r) (j := 0) (v := .int ((s.1 r 0))) g1 (by decide) rfl dX2_heldBy_6 fl_X2_9 9 rfl ?_
  refine z_icmp_ge hX 27 dX2_heldBy_9 (by decide) 12 rfl (fun c2 => ?_) (fun c2 => ?_)
  · replace h := br_pos h c2
    refine z_iload_n hX dX2_heldBy_27 2 rfl 28 rfl ?_
    replace h := Option.some.inj h
    subst h
    exact z_iret hX dX2_heldBy_28 rfl hk
  · replace h := br_neg h c2
    refine z_iload_n hX dX2_heldBy_12 2 rfl 13 rfl ?_
    refine z_aload_n hX dX2_heldBy_13 0 rfl 14 rfl ?_
    refine z_iload_n hX dX2_heldBy_14 1 rfl 15 rfl ?_
    refine z_iload_n hX dX2_heldBy_15 3 rfl 16 rfl ?_
    replace h := cl_elim h
    obtain ⟨x4, s3, hx4, h⟩ := h
    refine z_cV2i hX (b := r) (As := [.int v1, .int v3]) (c_X2_held hx4) lk_X2_70 rfl g1 ds_X2_held rfl (by decide) (by decide) (Nat.le_of_ble_eq_true rfl) dX2_heldBy_16 rfl 19 rfl ?_
    refine z_iadd hX dX2_heldBy_19 20 rfl ?_
    replace h := bd_elim h
    obtain ⟨x5, ex5, h⟩ := h
    refine z_nm ex5 ?_
    refine z_istore_n hX (lv2 := [(2, .int x5), (0, .ref (gL Γ (r))), (1, .int v1), (3, .int v3)]) dX2_heldBy_20 (by decide) rfl 21 rfl ?_
    refine z_iinc hX (v := (v3 + (nI 1))) (lv2 := [(3, .int ((v3 + (nI 1)))), (2, .int x5), (0, .ref (gL Γ (r))), (1, .int v1)]) dX2_heldBy_21 3 rfl rfl (by decide) rfl 24 rfl ?_
    refine z_goto hX 4 dX2_heldBy_24 (by decide) ?_
    replace h := Option.some.inj h
    subst h
    exact z_sub [2, 3, 1, 0] rfl hk
set_option maxHeartbeats 4000000 in
set_option maxRecDepth 100000 in
theorem e_X2_heldBy {X : Cx} {Γ : Gm} {r0 : Rb} (hX : Amb X Γ cX2_heldBy RX2 4 (some .int) 1) {r : Nat} {a1 : Int32} {s : St} {t : Int32 × St} (h : f_X2_heldBy r a1 s = some t) (hk : (fun t : Int32 × St => Rt X Γ r0 (some (Value.int t.1), t.2)) t) : Zw X Γ 4 r0 s 0 [(0, .ref (gL Γ (r))), (1, .int a1)] [] := by
  unfold f_X2_heldBy at h
  refine z_iconst hX (v := (nI 0)) dX2_heldBy_0 rfl 1 rfl ?_
  refine z_istore_n hX (lv2 := [(2, .int ((nI 0))), (0, .ref (gL Γ (r))), (1, .int a1)]) dX2_heldBy_1 (by decide) rfl 2 rfl ?_
  refine z_iconst hX (v := (nI 0)) dX2_heldBy_2 rfl 3 rfl ?_
  refine z_istore_n hX (lv2 := [(3, .int ((nI 0))), (2, .int ((nI 0))), (0, .ref (gL Γ (r))), (1, .int a1)]) dX2_heldBy_3 (by decide) rfl 4 rfl ?_
  exact z_sub [2, 3, 1, 0] rfl (lp_ok (Z := fun q : Int32 × Int32 × St => Zw X Γ 4 r0 q.2.2 4 [(0, .ref (gL Γ (r))), (1, .int a1), (2, .int q.1), (3, .int q.2.1)] []) (fun q t h hk => e_X2_heldBy_L4 hX h hk) Fu _ _ h hk)
theorem c_X2_heldBy {lc : Launch} {Γ : Gm} {r : Nat} {a1 : Int32} {s s2 : St} {v : Int32} (h : f_X2_heldBy r a1 s = some (v, s2)) : Ct lc Γ yX2_heldBy cX2_heldBy 4 (some .int) 1 [.ref (gL Γ (r)), .int a1] s (some (.int v), s2) := Ct.of (by decide +kernel) (Nat.le_of_ble_eq_true rfl) (fun X hl hX => e_X2_heldBy hX h rfl)
theorem dX2_heldOf_0 : decode cX2_heldOf 0 = .ok (.iconst 0, 1) := by decide +kernel
theorem dX2_heldOf_1 : decode cX2_heldOf 1 = .ok (.istore_n 2, 1) := by decide +kernel
theorem dX2_heldOf_2 : decode cX2_heldOf 2 = .ok (.iconst 0, 1) := by decide +kernel
theorem dX2_heldOf_3 : decode cX2_heldOf 3 = .ok (.istore_n 3, 1) := by decide +kernel
theorem dX2_heldOf_4 : decode cX2_heldOf 4 = .ok (.iload_n 3, 1) := by decide +kernel
theorem dX2_heldOf_5 : decode cX2_heldOf 5 = .ok (.aload_n 0, 1) := by decide +kernel
theorem dX2_heldOf_6 : decode cX2_heldOf 6 = .ok (.getfield 15, 3) := by decide +kernel
theorem dX2_heldOf_9 : decode cX2_heldOf 9 = .ok (.if_icmp .ge 18, 3) := by decide +kernel
theorem dX2_heldOf_12 : decode cX2_heldOf 12 = .ok (.iload_n 2, 1) := by decide +kernel
theorem dX2_heldOf_13 : decode cX2_heldOf 13 = .ok (.aload_n 0, 1) := by decide +kernel
theorem dX2_heldOf_14 : decode cX2_heldOf 14 = .ok (.iload_n 3, 1) := by decide +kernel
theorem dX2_heldOf_15 : decode cX2_heldOf 15 = .ok (.iload_n 1, 1) := by decide +kernel
theorem dX2_heldOf_16 : decode cX2_heldOf 16 = .ok (.invokevirtual 70, 3) := by decide +kernel
theorem dX2_heldOf_19 : decode cX2_heldOf 19 = .ok (.iadd, 1) := by decide +kernel
theorem dX2_heldOf_20 : decode cX2_heldOf 20 = .ok (.istore_n 2, 1) := by decide +kernel
theorem dX2_heldOf_21 : decode cX2_heldOf 21 = .ok (.iinc 3 1, 3) := by decide +kernel
theorem dX2_heldOf_24 : decode cX2_heldOf 24 = .ok (.goto (-20), 3) := by decide +kernel
theorem dX2_heldOf_27 : decode cX2_heldOf 27 = .ok (.iload_n 2, 1) := by decide +kernel
theorem dX2_heldOf_28 : decode cX2_heldOf 28 = .ok (.ireturn, 1) := by decide +kernel
def f_X2_heldOf_L4 (r : Nat) (v1 : Int32) (v2 : Int32) (v3 : Int32) (s : St) : Option ((Int32 × Int32 × St) ⊕ (Int32 × St)) := if kd (r) = 2 then if (s.1 r 1) ≤ v3 then (some (Sum.inr ((v2, s)))) else (cl (f_X2_held r v3 v1 s) (fun x4 s3 => bd (v2 + x4) (fun x5 => some (Sum.inl (x5, (v3 + (nI 1)), s3))))) else none
def f_X2_heldOf (r : Nat) (a1 : Int32) (s : St) : Option (Int32 × St) := lp (fun q : Int32 × Int32 × St => f_X2_heldOf_L4 r a1 q.1 q.2.1 q.2.2) Fu ((nI 0), (nI 0), s)
set_option maxHeartbeats 4000000 in
set_option maxRecDepth 100000 in
theorem e_X2_heldOf_L4 {X : Cx} {Γ : Gm} {r0 : Rb} (hX : Amb X Γ cX2_heldOf RX2 4 (some .int) 1) {r : Nat} {v1 : Int32} {v2 : Int32} {v3 : Int32} {s : St} {t : (Int32 × Int32 × St) ⊕ (Int32 × St)} (h : f_X2_heldOf_L4 r v1 v2 v3 s = some t) (hk : (Sum.elim (fun q : Int32 × Int32 × St => Zw X Γ 4 r0 q.2.2 4 [(0, .ref (gL Γ (r))), (1, .int v1), (2, .int q.1), (3, .int q.2.1)] []) (fun t : Int32 × St => Rt X Γ r0 (some (Value.int t.1), t.2))) t) : Zw X Γ 4 r0 s 4 [(0, .ref (gL Γ (r))), (1, .int v1), (2, .int v2), (3, .int v3)] [] := by
  unfold f_X2_heldOf_L4 at h
  refine z_iload_n hX dX2_heldOf_4 3 rfl 5 rfl ?_
  refine z_aload_n hX dX2_heldOf_5 0 rfl 6 rfl ?_
  replace h := gd_elim h
  obtain ⟨g1, h⟩ := h
  refine z_get2 hX (k := r) (j := 1) (v := .int ((s.1 r 1))) g1 (by decide) rfl dX2_heldOf_6 fl_X2_15 9 rfl ?_
  refine z_icmp_ge hX 27 dX2_heldOf_9 (by decide) 12 rfl (fun c2 => ?_) (fun c2 => ?_)
  · replace h := br_pos h c2
    refine z_iload_n hX dX2_heldOf_27 2 rfl 28 rfl ?_
    replace h := Option.some.inj h
    subst h
    exact z_iret hX dX2_heldOf_28 rfl hk
  · replace h := br_neg h c2
    refine z_iload_n hX dX2_heldOf_12 2 rfl 13 rfl ?_
    refine z_aload_n hX dX2_heldOf_13 0 rfl 14 rfl ?_
    refine z_iload_n hX dX2_heldOf_14 3 rfl 15 rfl ?_
    refine z_iload_n hX dX2_heldOf_15 1 rfl 16 rfl ?_
    replace h := cl_elim h
    obtain ⟨x4, s3, hx4, h⟩ := h
    refine z_cV2i hX (b := r) (As := [.int v3, .int v1]) (c_X2_held hx4) lk_X2_70 rfl g1 ds_X2_held rfl (by decide) (by decide) (Nat.le_of_ble_eq_true rfl) dX2_heldOf_16 rfl 19 rfl ?_
    refine z_iadd hX dX2_heldOf_19 20 rfl ?_
    replace h := bd_elim h
    obtain ⟨x5, ex5, h⟩ := h
    refine z_nm ex5 ?_
    refine z_istore_n hX (lv2 := [(2, .int x5), (0, .ref (gL Γ (r))), (1, .int v1), (3, .int v3)]) dX2_heldOf_20 (by decide) rfl 21 rfl ?_
    refine z_iinc hX (v := (v3 + (nI 1))) (lv2 := [(3, .int ((v3 + (nI 1)))), (2, .int x5), (0, .ref (gL Γ (r))), (1, .int v1)]) dX2_heldOf_21 3 rfl rfl (by decide) rfl 24 rfl ?_
    refine z_goto hX 4 dX2_heldOf_24 (by decide) ?_
    replace h := Option.some.inj h
    subst h
    exact z_sub [2, 3, 1, 0] rfl hk
set_option maxHeartbeats 4000000 in
set_option maxRecDepth 100000 in
theorem e_X2_heldOf {X : Cx} {Γ : Gm} {r0 : Rb} (hX : Amb X Γ cX2_heldOf RX2 4 (some .int) 1) {r : Nat} {a1 : Int32} {s : St} {t : Int32 × St} (h : f_X2_heldOf r a1 s = some t) (hk : (fun t : Int32 × St => Rt X Γ r0 (some (Value.int t.1), t.2)) t) : Zw X Γ 4 r0 s 0 [(0, .ref (gL Γ (r))), (1, .int a1)] [] := by
  unfold f_X2_heldOf at h
  refine z_iconst hX (v := (nI 0)) dX2_heldOf_0 rfl 1 rfl ?_
  refine z_istore_n hX (lv2 := [(2, .int ((nI 0))), (0, .ref (gL Γ (r))), (1, .int a1)]) dX2_heldOf_1 (by decide) rfl 2 rfl ?_
  refine z_iconst hX (v := (nI 0)) dX2_heldOf_2 rfl 3 rfl ?_
  refine z_istore_n hX (lv2 := [(3, .int ((nI 0))), (2, .int ((nI 0))), (0, .ref (gL Γ (r))), (1, .int a1)]) dX2_heldOf_3 (by decide) rfl 4 rfl ?_
  exact z_sub [2, 3, 1, 0] rfl (lp_ok (Z := fun q : Int32 × Int32 × St => Zw X Γ 4 r0 q.2.2 4 [(0, .ref (gL Γ (r))), (1, .int a1), (2, .int q.1), (3, .int q.2.1)] []) (fun q t h hk => e_X2_heldOf_L4 hX h hk) Fu _ _ h hk)
theorem c_X2_heldOf {lc : Launch} {Γ : Gm} {r : Nat} {a1 : Int32} {s s2 : St} {v : Int32} (h : f_X2_heldOf r a1 s = some (v, s2)) : Ct lc Γ yX2_heldOf cX2_heldOf 4 (some .int) 1 [.ref (gL Γ (r)), .int a1] s (some (.int v), s2) := Ct.of (by decide +kernel) (Nat.le_of_ble_eq_true rfl) (fun X hl hX => e_X2_heldOf hX h rfl)
theorem dX2_heldByAll_0 : decode cX2_heldByAll 0 = .ok (.iconst 0, 1) := by decide +kernel
theorem dX2_heldByAll_1 : decode cX2_heldByAll 1 = .ok (.istore_n 1, 1) := by decide +kernel
theorem dX2_heldByAll_2 : decode cX2_heldByAll 2 = .ok (.iconst 0, 1) := by decide +kernel
theorem dX2_heldByAll_3 : decode cX2_heldByAll 3 = .ok (.istore_n 2, 1) := by decide +kernel
theorem dX2_heldByAll_4 : decode cX2_heldByAll 4 = .ok (.iload_n 2, 1) := by decide +kernel
theorem dX2_heldByAll_5 : decode cX2_heldByAll 5 = .ok (.aload_n 0, 1) := by decide +kernel
theorem dX2_heldByAll_6 : decode cX2_heldByAll 6 = .ok (.getfield 15, 3) := by decide +kernel
theorem dX2_heldByAll_9 : decode cX2_heldByAll 9 = .ok (.if_icmp .ge 17, 3) := by decide +kernel
theorem dX2_heldByAll_12 : decode cX2_heldByAll 12 = .ok (.iload_n 1, 1) := by decide +kernel
theorem dX2_heldByAll_13 : decode cX2_heldByAll 13 = .ok (.aload_n 0, 1) := by decide +kernel
theorem dX2_heldByAll_14 : decode cX2_heldByAll 14 = .ok (.iload_n 2, 1) := by decide +kernel
theorem dX2_heldByAll_15 : decode cX2_heldByAll 15 = .ok (.invokevirtual 74, 3) := by decide +kernel
theorem dX2_heldByAll_18 : decode cX2_heldByAll 18 = .ok (.iadd, 1) := by decide +kernel
theorem dX2_heldByAll_19 : decode cX2_heldByAll 19 = .ok (.istore_n 1, 1) := by decide +kernel
theorem dX2_heldByAll_20 : decode cX2_heldByAll 20 = .ok (.iinc 2 1, 3) := by decide +kernel
theorem dX2_heldByAll_23 : decode cX2_heldByAll 23 = .ok (.goto (-19), 3) := by decide +kernel
theorem dX2_heldByAll_26 : decode cX2_heldByAll 26 = .ok (.iload_n 1, 1) := by decide +kernel
theorem dX2_heldByAll_27 : decode cX2_heldByAll 27 = .ok (.ireturn, 1) := by decide +kernel
def f_X2_heldByAll_L4 (r : Nat) (v1 : Int32) (v2 : Int32) (s : St) : Option ((Int32 × Int32 × St) ⊕ (Int32 × St)) := if kd (r) = 2 then if (s.1 r 1) ≤ v2 then (some (Sum.inr ((v1, s)))) else (cl (f_X2_heldBy r v2 s) (fun x4 s3 => bd (v1 + x4) (fun x5 => some (Sum.inl (x5, (v2 + (nI 1)), s3))))) else none
def f_X2_heldByAll (r : Nat) (s : St) : Option (Int32 × St) := lp (fun q : Int32 × Int32 × St => f_X2_heldByAll_L4 r q.1 q.2.1 q.2.2) Fu ((nI 0), (nI 0), s)
set_option maxHeartbeats 4000000 in
set_option maxRecDepth 100000 in
theorem e_X2_heldByAll_L4 {X : Cx} {Γ : Gm} {r0 : Rb} (hX : Amb X Γ cX2_heldByAll RX2 3 (some .int) 2) {r : Nat} {v1 : Int32} {v2 : Int32} {s : St} {t : (Int32 × Int32 × St) ⊕ (Int32 × St)} (h : f_X2_heldByAll_L4 r v1 v2 s = some t) (hk : (Sum.elim (fun q : Int32 × Int32 × St => Zw X Γ 3 r0 q.2.2 4 [(0, .ref (gL Γ (r))), (1, .int q.1), (2, .int q.2.1)] []) (fun t : Int32 × St => Rt X Γ r0 (some (Value.int t.1), t.2))) t) : Zw X Γ 3 r0 s 4 [(0, .ref (gL Γ (r))), (1, .int v1), (2, .int v2)] [] := by
  unfold f_X2_heldByAll_L4 at h
  refine z_iload_n hX dX2_heldByAll_4 2 rfl 5 rfl ?_
  refine z_aload_n hX dX2_heldByAll_5 0 rfl 6 rfl ?_
  replace h := gd_elim h
  obtain ⟨g1, h⟩ := h
  refine z_get2 hX (k := r) (j := 1) (v := .int ((s.1 r 1))) g1 (by decide) rfl dX2_heldByAll_6 fl_X2_15 9 rfl ?_
  refine z_icmp_ge hX 26 dX2_heldByAll_9 (by decide) 12 rfl (fun c2 => ?_) (fun c2 => ?_)
  · replace h := br_pos h c2
    refine z_iload_n hX dX2_heldByAll_26 1 rfl 27 rfl ?_
    replace h := Option.some.inj h
    subst h
    exact z_iret hX dX2_heldByAll_27 rfl hk
  · replace h := br_neg h c2
    refine z_iload_n hX dX2_heldByAll_12 1 rfl 13 rfl ?_
    refine z_aload_n hX dX2_heldByAll_13 0 rfl 14 rfl ?_
    refine z_iload_n hX dX2_heldByAll_14 2 rfl 15 rfl ?_
    replace h := cl_elim h
    obtain ⟨x4, s3, hx4, h⟩ := h
    refine z_cV2i hX (b := r) (As := [.int v2]) (c_X2_heldBy hx4) lk_X2_74 rfl g1 ds_X2_heldBy rfl (by decide) (by decide) (Nat.le_of_ble_eq_true rfl) dX2_heldByAll_15 rfl 18 rfl ?_
    refine z_iadd hX dX2_heldByAll_18 19 rfl ?_
    replace h := bd_elim h
    obtain ⟨x5, ex5, h⟩ := h
    refine z_nm ex5 ?_
    refine z_istore_n hX (lv2 := [(1, .int x5), (0, .ref (gL Γ (r))), (2, .int v2)]) dX2_heldByAll_19 (by decide) rfl 20 rfl ?_
    refine z_iinc hX (v := (v2 + (nI 1))) (lv2 := [(2, .int ((v2 + (nI 1)))), (1, .int x5), (0, .ref (gL Γ (r)))]) dX2_heldByAll_20 2 rfl rfl (by decide) rfl 23 rfl ?_
    refine z_goto hX 4 dX2_heldByAll_23 (by decide) ?_
    replace h := Option.some.inj h
    subst h
    exact z_sub [2, 1, 0] rfl hk
set_option maxHeartbeats 4000000 in
set_option maxRecDepth 100000 in
theorem e_X2_heldByAll {X : Cx} {Γ : Gm} {r0 : Rb} (hX : Amb X Γ cX2_heldByAll RX2 3 (some .int) 2) {r : Nat} {s : St} {t : Int32 × St} (h : f_X2_heldByAll r s = some t) (hk : (fun t : Int32 × St => Rt X Γ r0 (some (Value.int t.1), t.2)) t) : Zw X Γ 3 r0 s 0 [(0, .ref (gL Γ (r)))] [] := by
  unfold f_X2_heldByAll at h
  refine z_iconst hX (v := (nI 0)) dX2_heldByAll_0 rfl 1 rfl ?_
  refine z_istore_n hX (lv2 := [(1, .int ((nI 0))), (0, .ref (gL Γ (r)))]) dX2_heldByAll_1 (by decide) rfl 2 rfl ?_
  refine z_iconst hX (v := (nI 0)) dX2_heldByAll_2 rfl 3 rfl ?_
  refine z_istore_n hX (lv2 := [(2, .int ((nI 0))), (1, .int ((nI 0))), (0, .ref (gL Γ (r)))]) dX2_heldByAll_3 (by decide) rfl 4 rfl ?_
  exact z_sub [2, 1, 0] rfl (lp_ok (Z := fun q : Int32 × Int32 × St => Zw X Γ 3 r0 q.2.2 4 [(0, .ref (gL Γ (r))), (1, .int q.1), (2, .int q.2.1)] []) (fun q t h hk => e_X2_heldByAll_L4 hX h hk) Fu _ _ h hk)
theorem c_X2_heldByAll {lc : Launch} {Γ : Gm} {r : Nat} {s s2 : St} {v : Int32} (h : f_X2_heldByAll r s = some (v, s2)) : Ct lc Γ yX2_heldByAll cX2_heldByAll 3 (some .int) 2 [.ref (gL Γ (r))] s (some (.int v), s2) := Ct.of (by decide +kernel) (Nat.le_of_ble_eq_true rfl) (fun X hl hX => e_X2_heldByAll hX h rfl)
theorem dX2_sumOfLives_0 : decode cX2_sumOfLives 0 = .ok (.iconst 0, 1) := by decide +kernel
theorem dX2_sumOfLives_1 : decode cX2_sumOfLives 1 = .ok (.istore_n 2, 1) := by decide +kernel
theorem dX2_sumOfLives_2 : decode cX2_sumOfLives 2 = .ok (.iconst 0, 1) := by decide +kernel
theorem dX2_sumOfLives_3 : decode cX2_sumOfLives 3 = .ok (.istore_n 3, 1) := by decide +kernel
theorem dX2_sumOfLives_4 : decode cX2_sumOfLives 4 = .ok (.iload_n 3, 1) := by decide +kernel
theorem dX2_sumOfLives_5 : decode cX2_sumOfLives 5 = .ok (.aload_n 0, 1) := by decide +kernel
theorem dX2_sumOfLives_6 : decode cX2_sumOfLives 6 = .ok (.getfield 9, 3) := by decide +kernel
theorem dX2_sumOfLives_9 : decode cX2_sumOfLives 9 = .ok (.if_icmp .ge 15, 3) := by decide +kernel
theorem dX2_sumOfLives_12 : decode cX2_sumOfLives 12 = .ok (.iload_n 2, 1) := by decide +kernel
theorem dX2_sumOfLives_13 : decode cX2_sumOfLives 13 = .ok (.aload_n 1, 1) := by decide +kernel
theorem dX2_sumOfLives_14 : decode cX2_sumOfLives 14 = .ok (.iload_n 3, 1) := by decide +kernel
theorem dX2_sumOfLives_15 : decode cX2_sumOfLives 15 = .ok (.iaload, 1) := by decide +kernel
theorem dX2_sumOfLives_16 : decode cX2_sumOfLives 16 = .ok (.iadd, 1) := by decide +kernel
theorem dX2_sumOfLives_17 : decode cX2_sumOfLives 17 = .ok (.istore_n 2, 1) := by decide +kernel
theorem dX2_sumOfLives_18 : decode cX2_sumOfLives 18 = .ok (.iinc 3 1, 3) := by decide +kernel
theorem dX2_sumOfLives_21 : decode cX2_sumOfLives 21 = .ok (.goto (-17), 3) := by decide +kernel
theorem dX2_sumOfLives_24 : decode cX2_sumOfLives 24 = .ok (.iload_n 2, 1) := by decide +kernel
theorem dX2_sumOfLives_25 : decode cX2_sumOfLives 25 = .ok (.ireturn, 1) := by decide +kernel
def f_X2_sumOfLives_L4 (r : Nat) (v1 : Nat) (v2 : Int32) (v3 : Int32) (s : St) : Option ((Int32 × Int32 × St) ⊕ (Int32 × St)) := if kd (r) = 2 then if (s.1 r 0) ≤ v3 then (some (Sum.inr ((v2, s)))) else (if inb v3 (lnI v1) = true then bd (v2 + (s.1 v1 (v3).toNatClampNeg)) (fun x4 => some (Sum.inl (x4, (v3 + (nI 1)), s))) else none) else none
def f_X2_sumOfLives (r : Nat) (a1 : Nat) (s : St) : Option (Int32 × St) := lp (fun q : Int32 × Int32 × St => f_X2_sumOfLives_L4 r a1 q.1 q.2.1 q.2.2) Fu ((nI 0), (nI 0), s)
set_option maxHeartbeats 4000000 in
set_option maxRecDepth 100000 in
theorem e_X2_sumOfLives_L4 {X : Cx} {Γ : Gm} {r0 : Rb} (hX : Amb X Γ cX2_sumOfLives RX2 4 (some .int) 0) {r : Nat} {v1 : Nat} {v2 : Int32} {v3 : Int32} {s : St} {t : (Int32 × Int32 × St) ⊕ (Int32 × St)} (h : f_X2_sumOfLives_L4 r v1 v2 v3 s = some t) (hk : (Sum.elim (fun q : Int32 × Int32 × St => Zw X Γ 4 r0 q.2.2 4 [(0, .ref (gL Γ (r))), (1, .ref (gL Γ (v1))), (2, .int q.1), (3, .int q.2.1)] []) (fun t : Int32 × St => Rt X Γ r0 (some (Value.int t.1), t.2))) t) : Zw X Γ 4 r0 s 4 [(0, .ref (gL Γ (r))), (1, .ref (gL Γ (v1))), (2, .int v2), (3, .int v3)] [] := by
  unfold f_X2_sumOfLives_L4 at h
  refine z_iload_n hX dX2_sumOfLives_4 3 rfl 5 rfl ?_
  refine z_aload_n hX dX2_sumOfLives_5 0 rfl 6 rfl ?_
  replace h := gd_elim h
  obtain ⟨g1, h⟩ := h
  refine z_get2 hX (k := r) (j := 0) (v := .int ((s.1 r 0))) g1 (by decide) rfl dX2_sumOfLives_6 fl_X2_9 9 rfl ?_
  refine z_icmp_ge hX 24 dX2_sumOfLives_9 (by decide) 12 rfl (fun c2 => ?_) (fun c2 => ?_)
  · replace h := br_pos h c2
    refine z_iload_n hX dX2_sumOfLives_24 2 rfl 25 rfl ?_
    replace h := Option.some.inj h
    subst h
    exact z_iret hX dX2_sumOfLives_25 rfl hk
  · replace h := br_neg h c2
    refine z_iload_n hX dX2_sumOfLives_12 2 rfl 13 rfl ?_
    refine z_aload_n hX dX2_sumOfLives_13 1 rfl 14 rfl ?_
    refine z_iload_n hX dX2_sumOfLives_14 3 rfl 15 rfl ?_
    replace h := gd_elim h
    obtain ⟨g3, h⟩ := h
    refine z_iald hX (inb_vp g3) dX2_sumOfLives_15 16 rfl ?_
    refine z_iadd hX dX2_sumOfLives_16 17 rfl ?_
    replace h := bd_elim h
    obtain ⟨x4, ex4, h⟩ := h
    refine z_nm ex4 ?_
    refine z_istore_n hX (lv2 := [(2, .int x4), (0, .ref (gL Γ (r))), (1, .ref (gL Γ (v1))), (3, .int v3)]) dX2_sumOfLives_17 (by decide) rfl 18 rfl ?_
    refine z_iinc hX (v := (v3 + (nI 1))) (lv2 := [(3, .int ((v3 + (nI 1)))), (2, .int x4), (0, .ref (gL Γ (r))), (1, .ref (gL Γ (v1)))]) dX2_sumOfLives_18 3 rfl rfl (by decide) rfl 21 rfl ?_
    refine z_goto hX 4 dX2_sumOfLives_21 (by decide) ?_
    replace h := Option.some.inj h
    subst h
    exact z_sub [2, 3, 1, 0] rfl hk
set_option maxHeartbeats 4000000 in
set_option maxRecDepth 100000 in
theorem e_X2_sumOfLives {X : Cx} {Γ : Gm} {r0 : Rb} (hX : Amb X Γ cX2_sumOfLives RX2 4 (some .int) 0) {r : Nat} {a1 : Nat} {s : St} {t : Int32 × St} (h : f_X2_sumOfLives r a1 s = some t) (hk : (fun t : Int32 × St => Rt X Γ r0 (some (Value.int t.1), t.2)) t) : Zw X Γ 4 r0 s 0 [(0, .ref (gL Γ (r))), (1, .ref (gL Γ (a1)))] [] := by
  unfold f_X2_sumOfLives at h
  refine z_iconst hX (v := (nI 0)) dX2_sumOfLives_0 rfl 1 rfl ?_
  refine z_istore_n hX (lv2 := [(2, .int ((nI 0))), (0, .ref (gL Γ (r))), (1, .ref (gL Γ (a1)))]) dX2_sumOfLives_1 (by decide) rfl 2 rfl ?_
  refine z_iconst hX (v := (nI 0)) dX2_sumOfLives_2 rfl 3 rfl ?_
  refine z_istore_n hX (lv2 := [(3, .int ((nI 0))), (2, .int ((nI 0))), (0, .ref (gL Γ (r))), (1, .ref (gL Γ (a1)))]) dX2_sumOfLives_3 (by decide) rfl 4 rfl ?_
  exact z_sub [2, 3, 1, 0] rfl (lp_ok (Z := fun q : Int32 × Int32 × St => Zw X Γ 4 r0 q.2.2 4 [(0, .ref (gL Γ (r))), (1, .ref (gL Γ (a1))), (2, .int q.1), (3, .int q.2.1)] []) (fun q t h hk => e_X2_sumOfLives_L4 hX h hk) Fu _ _ h hk)
theorem c_X2_sumOfLives {lc : Launch} {Γ : Gm} {r : Nat} {a1 : Nat} {s s2 : St} {v : Int32} (h : f_X2_sumOfLives r a1 s = some (v, s2)) : Ct lc Γ yX2_sumOfLives cX2_sumOfLives 4 (some .int) 0 [.ref (gL Γ (r)), .ref (gL Γ (a1))] s (some (.int v), s2) := Ct.of (by decide +kernel) (Nat.le_of_ble_eq_true rfl) (fun X hl hX => e_X2_sumOfLives hX h rfl)
theorem dX2_pricesOfSitters_0 : decode cX2_pricesOfSitters 0 = .ok (.iconst 0, 1) := by decide +kernel
theorem dX2_pricesOfSitters_1 : decode cX2_pricesOfSitters 1 = .ok (.istore_n 1, 1) := by decide +kernel
theorem dX2_pricesOfSitters_2 : decode cX2_pricesOfSitters 2 = .ok (.iconst 0, 1) := by decide +kernel
theorem dX2_pricesOfSitters_3 : decode cX2_pricesOfSitters 3 = .ok (.istore_n 2, 1) := by decide +kernel
theorem dX2_pricesOfSitters_4 : decode cX2_pricesOfSitters 4 = .ok (.iload_n 2, 1) := by decide +kernel
theorem dX2_pricesOfSitters_5 : decode cX2_pricesOfSitters 5 = .ok (.aload_n 0, 1) := by decide +kernel
theorem dX2_pricesOfSitters_6 : decode cX2_pricesOfSitters 6 = .ok (.getfield 15, 3) := by decide +kernel
theorem dX2_pricesOfSitters_9 : decode cX2_pricesOfSitters 9 = .ok (.if_icmp .ge 26, 3) := by decide +kernel
theorem dX2_pricesOfSitters_12 : decode cX2_pricesOfSitters 12 = .ok (.iload_n 1, 1) := by decide +kernel
theorem dX2_pricesOfSitters_13 : decode cX2_pricesOfSitters 13 = .ok (.aload_n 0, 1) := by decide +kernel
theorem dX2_pricesOfSitters_14 : decode cX2_pricesOfSitters 14 = .ok (.getfield 55, 3) := by decide +kernel
theorem dX2_pricesOfSitters_17 : decode cX2_pricesOfSitters 17 = .ok (.aload_n 0, 1) := by decide +kernel
theorem dX2_pricesOfSitters_18 : decode cX2_pricesOfSitters 18 = .ok (.getfield 43, 3) := by decide +kernel
theorem dX2_pricesOfSitters_21 : decode cX2_pricesOfSitters 21 = .ok (.iload_n 2, 1) := by decide +kernel
theorem dX2_pricesOfSitters_22 : decode cX2_pricesOfSitters 22 = .ok (.iaload, 1) := by decide +kernel
theorem dX2_pricesOfSitters_23 : decode cX2_pricesOfSitters 23 = .ok (.invokestatic 78, 3) := by decide +kernel
theorem dX2_pricesOfSitters_26 : decode cX2_pricesOfSitters 26 = .ok (.iaload, 1) := by decide +kernel
theorem dX2_pricesOfSitters_27 : decode cX2_pricesOfSitters 27 = .ok (.iadd, 1) := by decide +kernel
theorem dX2_pricesOfSitters_28 : decode cX2_pricesOfSitters 28 = .ok (.istore_n 1, 1) := by decide +kernel
theorem dX2_pricesOfSitters_29 : decode cX2_pricesOfSitters 29 = .ok (.iinc 2 1, 3) := by decide +kernel
theorem dX2_pricesOfSitters_32 : decode cX2_pricesOfSitters 32 = .ok (.goto (-28), 3) := by decide +kernel
theorem dX2_pricesOfSitters_35 : decode cX2_pricesOfSitters 35 = .ok (.iload_n 1, 1) := by decide +kernel
theorem dX2_pricesOfSitters_36 : decode cX2_pricesOfSitters 36 = .ok (.ireturn, 1) := by decide +kernel
def f_X2_pricesOfSitters_L4 (r : Nat) (v1 : Int32) (v2 : Int32) (s : St) : Option ((Int32 × Int32 × St) ⊕ (Int32 × St)) := if kd (r) = 2 then if (s.1 r 1) ≤ v2 then (some (Sum.inr ((v1, s)))) else (if inb v2 (lnI (r + 8)) = true then cl (f_X6_rowOf (s.1 (r + 8) (v2).toNatClampNeg) s) (fun x5 s4 => if inb x5 (lnI (r + 12)) = true then bd (v1 + (s4.1 (r + 12) (x5).toNatClampNeg)) (fun x7 => some (Sum.inl (x7, (v2 + (nI 1)), s4))) else none) else none) else none
def f_X2_pricesOfSitters (r : Nat) (s : St) : Option (Int32 × St) := lp (fun q : Int32 × Int32 × St => f_X2_pricesOfSitters_L4 r q.1 q.2.1 q.2.2) Fu ((nI 0), (nI 0), s)
set_option maxHeartbeats 4000000 in
set_option maxRecDepth 100000 in
theorem e_X2_pricesOfSitters_L4 {X : Cx} {Γ : Gm} {r0 : Rb} (hX : Amb X Γ cX2_pricesOfSitters RX2 3 (some .int) 1) {r : Nat} {v1 : Int32} {v2 : Int32} {s : St} {t : (Int32 × Int32 × St) ⊕ (Int32 × St)} (h : f_X2_pricesOfSitters_L4 r v1 v2 s = some t) (hk : (Sum.elim (fun q : Int32 × Int32 × St => Zw X Γ 3 r0 q.2.2 4 [(0, .ref (gL Γ (r))), (1, .int q.1), (2, .int q.2.1)] []) (fun t : Int32 × St => Rt X Γ r0 (some (Value.int t.1), t.2))) t) : Zw X Γ 3 r0 s 4 [(0, .ref (gL Γ (r))), (1, .int v1), (2, .int v2)] [] := by
  unfold f_X2_pricesOfSitters_L4 at h
  refine z_iload_n hX dX2_pricesOfSitters_4 2 rfl 5 rfl ?_
  refine z_aload_n hX dX2_pricesOfSitters_5 0 rfl 6 rfl ?_
  replace h := gd_elim h
  obtain ⟨g1, h⟩ := h
  refine z_get2 hX (k := r) (j := 1) (v := .int ((s.1 r 1))) g1 (by decide) rfl dX2_pricesOfSitters_6 fl_X2_15 9 rfl ?_
  refine z_icmp_ge hX 35 dX2_pricesOfSitters_9 (by decide) 12 rfl (fun c2 => ?_) (fun c2 => ?_)
  · replace h := br_pos h c2
    refine z_iload_n hX dX2_pricesOfSitters_35 1 rfl 36 rfl ?_
    replace h := Option.some.inj h
    subst h
    exact z_iret hX dX2_pricesOfSitters_36 rfl hk
  · replace h := br_neg h c2
    refine z_iload_n hX dX2_pricesOfSitters_12 1 rfl 13 rfl ?_
    refine z_aload_n hX dX2_pricesOfSitters_13 0 rfl 14 rfl ?_
    refine z_get2 hX (k := r) (j := 14) (v := .ref (gL Γ (r + 12))) g1 (by decide) rfl dX2_pricesOfSitters_14 fl_X2_55 17 rfl ?_
    refine z_aload_n hX dX2_pricesOfSitters_17 0 rfl 18 rfl ?_
    refine z_get2 hX (k := r) (j := 10) (v := .ref (gL Γ (r + 8))) g1 (by decide) rfl dX2_pricesOfSitters_18 fl_X2_43 21 rfl ?_
    refine z_iload_n hX dX2_pricesOfSitters_21 2 rfl 22 rfl ?_
    replace h := gd_elim h
    obtain ⟨g3, h⟩ := h
    refine z_iald hX (inb_vp g3) dX2_pricesOfSitters_22 23 rfl ?_
    replace h := cl_elim h
    obtain ⟨x5, s4, hx5, h⟩ := h
    refine z_cNi hX (As := [.int ((s.1 (r + 8) (v2).toNatClampNeg))]) (c_X6_rowOf hx5) lk_X2_78 ds_X6_rowOf rfl (by decide) (by decide) (Nat.le_of_ble_eq_true rfl) dX2_pricesOfSitters_23 rfl 26 rfl ?_
    replace h := gd_elim h
    obtain ⟨g6, h⟩ := h
    refine z_iald hX (inb_vp g6) dX2_pricesOfSitters_26 27 rfl ?_
    refine z_iadd hX dX2_pricesOfSitters_27 28 rfl ?_
    replace h := bd_elim h
    obtain ⟨x7, ex7, h⟩ := h
    refine z_nm ex7 ?_
    refine z_istore_n hX (lv2 := [(1, .int x7), (0, .ref (gL Γ (r))), (2, .int v2)]) dX2_pricesOfSitters_28 (by decide) rfl 29 rfl ?_
    refine z_iinc hX (v := (v2 + (nI 1))) (lv2 := [(2, .int ((v2 + (nI 1)))), (1, .int x7), (0, .ref (gL Γ (r)))]) dX2_pricesOfSitters_29 2 rfl rfl (by decide) rfl 32 rfl ?_
    refine z_goto hX 4 dX2_pricesOfSitters_32 (by decide) ?_
    replace h := Option.some.inj h
    subst h
    exact z_sub [2, 1, 0] rfl hk
set_option maxHeartbeats 4000000 in
set_option maxRecDepth 100000 in
theorem e_X2_pricesOfSitters {X : Cx} {Γ : Gm} {r0 : Rb} (hX : Amb X Γ cX2_pricesOfSitters RX2 3 (some .int) 1) {r : Nat} {s : St} {t : Int32 × St} (h : f_X2_pricesOfSitters r s = some t) (hk : (fun t : Int32 × St => Rt X Γ r0 (some (Value.int t.1), t.2)) t) : Zw X Γ 3 r0 s 0 [(0, .ref (gL Γ (r)))] [] := by
  unfold f_X2_pricesOfSitters at h
  refine z_iconst hX (v := (nI 0)) dX2_pricesOfSitters_0 rfl 1 rfl ?_
  refine z_istore_n hX (lv2 := [(1, .int ((nI 0))), (0, .ref (gL Γ (r)))]) dX2_pricesOfSitters_1 (by decide) rfl 2 rfl ?_
  refine z_iconst hX (v := (nI 0)) dX2_pricesOfSitters_2 rfl 3 rfl ?_
  refine z_istore_n hX (lv2 := [(2, .int ((nI 0))), (1, .int ((nI 0))), (0, .ref (gL Γ (r)))]) dX2_pricesOfSitters_3 (by decide) rfl 4 rfl ?_
  exact z_sub [2, 1, 0] rfl (lp_ok (Z := fun q : Int32 × Int32 × St => Zw X Γ 3 r0 q.2.2 4 [(0, .ref (gL Γ (r))), (1, .int q.1), (2, .int q.2.1)] []) (fun q t h hk => e_X2_pricesOfSitters_L4 hX h hk) Fu _ _ h hk)
theorem c_X2_pricesOfSitters {lc : Launch} {Γ : Gm} {r : Nat} {s s2 : St} {v : Int32} (h : f_X2_pricesOfSitters r s = some (v, s2)) : Ct lc Γ yX2_pricesOfSitters cX2_pricesOfSitters 3 (some .int) 1 [.ref (gL Γ (r))] s (some (.int v), s2) := Ct.of (by decide +kernel) (Nat.le_of_ble_eq_true rfl) (fun X hl hX => e_X2_pricesOfSitters hX h rfl)
theorem dX2_isOver_0 : decode cX2_isOver 0 = .ok (.aload_n 0, 1) := by decide +kernel
theorem dX2_isOver_1 : decode cX2_isOver 1 = .ok (.aload_n 0, 1) := by decide +kernel
theorem dX2_isOver_2 : decode cX2_isOver 2 = .ok (.getfield 37, 3) := by decide +kernel
theorem dX2_isOver_5 : decode cX2_isOver 5 = .ok (.invokevirtual 81, 3) := by decide +kernel
theorem dX2_isOver_8 : decode cX2_isOver 8 = .ok (.ifCond .ne 18, 3) := by decide +kernel
theorem dX2_isOver_11 : decode cX2_isOver 11 = .ok (.aload_n 0, 1) := by decide +kernel
theorem dX2_isOver_12 : decode cX2_isOver 12 = .ok (.aload_n 0, 1) := by decide +kernel
theorem dX2_isOver_13 : decode cX2_isOver 13 = .ok (.getfield 31, 3) := by decide +kernel
theorem dX2_isOver_16 : decode cX2_isOver 16 = .ok (.invokevirtual 81, 3) := by decide +kernel
theorem dX2_isOver_19 : decode cX2_isOver 19 = .ok (.ifCond .ne 7, 3) := by decide +kernel
theorem dX2_isOver_22 : decode cX2_isOver 22 = .ok (.iconst 1, 1) := by decide +kernel
theorem dX2_isOver_23 : decode cX2_isOver 23 = .ok (.goto 4, 3) := by decide +kernel
theorem dX2_isOver_26 : decode cX2_isOver 26 = .ok (.iconst 0, 1) := by decide +kernel
theorem dX2_isOver_27 : decode cX2_isOver 27 = .ok (.ireturn, 1) := by decide +kernel
def f_X2_isOver (r : Nat) (s : St) : Option (Int32 × St) := if kd (r) = 2 then cl (f_X2_sumOfLives r (r + 6) s) (fun x3 s2 => if ¬ x3 = 0 then (some (((nI 0), s2))) else (cl (f_X2_sumOfLives r (r + 4) s2) (fun x6 s5 => if ¬ x6 = 0 then (some (((nI 0), s5))) else (some (((nI 1), s5)))))) else none
set_option maxHeartbeats 4000000 in
set_option maxRecDepth 100000 in
theorem e_X2_isOver {X : Cx} {Γ : Gm} {r0 : Rb} (hX : Amb X Γ cX2_isOver RX2 1 (some .boolean) 1) {r : Nat} {s : St} {t : Int32 × St} (h : f_X2_isOver r s = some t) (hk : (fun t : Int32 × St => Rt X Γ r0 (some (Value.int t.1), t.2)) t) : Zw X Γ 1 r0 s 0 [(0, .ref (gL Γ (r)))] [] := by
  unfold f_X2_isOver at h
  refine z_aload_n hX dX2_isOver_0 0 rfl 1 rfl ?_
  refine z_aload_n hX dX2_isOver_1 0 rfl 2 rfl ?_
  replace h := gd_elim h
  obtain ⟨g1, h⟩ := h
  refine z_get2 hX (k := r) (j := 8) (v := .ref (gL Γ (r + 6))) g1 (by decide) rfl dX2_isOver_2 fl_X2_37 5 rfl ?_
  replace h := cl_elim h
  obtain ⟨x3, s2, hx3, h⟩ := h
  refine z_cV2i hX (b := r) (As := [.ref (gL Γ (r + 6))]) (c_X2_sumOfLives hx3) lk_X2_81 rfl g1 ds_X2_sumOfLives rfl (by decide) (by decide) (by decide) dX2_isOver_5 rfl 8 rfl ?_
  refine z_if_ne hX 26 dX2_isOver_8 (by decide) 11 rfl (fun c4 => ?_) (fun c4 => ?_)
  · replace h := br_pos h c4
    refine z_iconst hX (v := (nI 0)) dX2_isOver_26 rfl 27 rfl ?_
    replace h := Option.some.inj h
    subst h
    exact z_zret hX dX2_isOver_27 rfl (by decide) hk
  · replace h := br_neg h c4
    refine z_aload_n hX dX2_isOver_11 0 rfl 12 rfl ?_
    refine z_aload_n hX dX2_isOver_12 0 rfl 13 rfl ?_
    refine z_get2 hX (k := r) (j := 6) (v := .ref (gL Γ (r + 4))) g1 (by decide) rfl dX2_isOver_13 fl_X2_31 16 rfl ?_
    replace h := cl_elim h
    obtain ⟨x6, s5, hx6, h⟩ := h
    refine z_cV2i hX (b := r) (As := [.ref (gL Γ (r + 4))]) (c_X2_sumOfLives hx6) lk_X2_81 rfl g1 ds_X2_sumOfLives rfl (by decide) (by decide) (by decide) dX2_isOver_16 rfl 19 rfl ?_
    refine z_if_ne hX 26 dX2_isOver_19 (by decide) 22 rfl (fun c7 => ?_) (fun c7 => ?_)
    · replace h := br_pos h c7
      refine z_iconst hX (v := (nI 0)) dX2_isOver_26 rfl 27 rfl ?_
      replace h := Option.some.inj h
      subst h
      exact z_zret hX dX2_isOver_27 rfl (by decide) hk
    · replace h := br_neg h c7
      refine z_iconst hX (v := (nI 1)) dX2_isOver_22 rfl 23 rfl ?_
      refine z_goto hX 27 dX2_isOver_23 (by decide) ?_
      replace h := Option.some.inj h
      subst h
      exact z_zret hX dX2_isOver_27 rfl (by decide) hk
theorem c_X2_isOver {lc : Launch} {Γ : Gm} {r : Nat} {s s2 : St} {v : Int32} (h : f_X2_isOver r s = some (v, s2)) : Ct lc Γ yX2_isOver cX2_isOver 1 (some .boolean) 1 [.ref (gL Γ (r))] s (some (.int v), s2) := Ct.of (by decide +kernel) (Nat.le_of_ble_eq_true rfl) (fun X hl hX => e_X2_isOver hX h rfl)
theorem dX2_loseAll_0 : decode cX2_loseAll 0 = .ok (.iconst 0, 1) := by decide +kernel
theorem dX2_loseAll_1 : decode cX2_loseAll 1 = .ok (.istore_n 1, 1) := by decide +kernel
theorem dX2_loseAll_2 : decode cX2_loseAll 2 = .ok (.iload_n 1, 1) := by decide +kernel
theorem dX2_loseAll_3 : decode cX2_loseAll 3 = .ok (.aload_n 0, 1) := by decide +kernel
theorem dX2_loseAll_4 : decode cX2_loseAll 4 = .ok (.getfield 9, 3) := by decide +kernel
theorem dX2_loseAll_7 : decode cX2_loseAll 7 = .ok (.if_icmp .ge 31, 3) := by decide +kernel
theorem dX2_loseAll_10 : decode cX2_loseAll 10 = .ok (.aload_n 0, 1) := by decide +kernel
theorem dX2_loseAll_11 : decode cX2_loseAll 11 = .ok (.getfield 34, 3) := by decide +kernel
theorem dX2_loseAll_14 : decode cX2_loseAll 14 = .ok (.iload_n 1, 1) := by decide +kernel
theorem dX2_loseAll_15 : decode cX2_loseAll 15 = .ok (.dup2, 1) := by decide +kernel
theorem dX2_loseAll_16 : decode cX2_loseAll 16 = .ok (.iaload, 1) := by decide +kernel
theorem dX2_loseAll_17 : decode cX2_loseAll 17 = .ok (.aload_n 0, 1) := by decide +kernel
theorem dX2_loseAll_18 : decode cX2_loseAll 18 = .ok (.getfield 37, 3) := by decide +kernel
theorem dX2_loseAll_21 : decode cX2_loseAll 21 = .ok (.iload_n 1, 1) := by decide +kernel
theorem dX2_loseAll_22 : decode cX2_loseAll 22 = .ok (.iaload, 1) := by decide +kernel
theorem dX2_loseAll_23 : decode cX2_loseAll 23 = .ok (.iadd, 1) := by decide +kernel
theorem dX2_loseAll_24 : decode cX2_loseAll 24 = .ok (.iastore, 1) := by decide +kernel
theorem dX2_loseAll_25 : decode cX2_loseAll 25 = .ok (.aload_n 0, 1) := by decide +kernel
theorem dX2_loseAll_26 : decode cX2_loseAll 26 = .ok (.getfield 37, 3) := by decide +kernel
theorem dX2_loseAll_29 : decode cX2_loseAll 29 = .ok (.iload_n 1, 1) := by decide +kernel
theorem dX2_loseAll_30 : decode cX2_loseAll 30 = .ok (.iconst 0, 1) := by decide +kernel
theorem dX2_loseAll_31 : decode cX2_loseAll 31 = .ok (.iastore, 1) := by decide +kernel
theorem dX2_loseAll_32 : decode cX2_loseAll 32 = .ok (.iinc 1 1, 3) := by decide +kernel
theorem dX2_loseAll_35 : decode cX2_loseAll 35 = .ok (.goto (-33), 3) := by decide +kernel
theorem dX2_loseAll_38 : decode cX2_loseAll 38 = .ok (.aload_n 0, 1) := by decide +kernel
theorem dX2_loseAll_39 : decode cX2_loseAll 39 = .ok (.getfield 40, 3) := by decide +kernel
theorem dX2_loseAll_42 : decode cX2_loseAll 42 = .ok (.iconst 0, 1) := by decide +kernel
theorem dX2_loseAll_43 : decode cX2_loseAll 43 = .ok (.invokestatic 58, 3) := by decide +kernel
theorem dX2_loseAll_46 : decode cX2_loseAll 46 = .ok (.return_, 1) := by decide +kernel
def f_X2_loseAll_L2 (r : Nat) (v1 : Int32) (s : St) : Option ((Int32 × St) ⊕ (Unit × St)) := if kd (r) = 2 then if (s.1 r 0) ≤ v1 then (cl (f_J7_fill_53178 (r + 7) (nI 0) s) (fun x4 s3 => some (Sum.inr (((), s3))))) else (if inb v1 (lnI (r + 5)) = true then if inb v1 (lnI (r + 6)) = true then bd (wI s (r + 5) (v1).toNatClampNeg ((s.1 (r + 5) (v1).toNatClampNeg) + (s.1 (r + 6) (v1).toNatClampNeg))) (fun s7 => bd (wI s7 (r + 6) (v1).toNatClampNeg (nI 0)) (fun s8 => some (Sum.inl ((v1 + (nI 1)), s8)))) else none else none) else none
def f_X2_loseAll (r : Nat) (s : St) : Option (Unit × St) := lp (fun q : Int32 × St => f_X2_loseAll_L2 r q.1 q.2) Fu ((nI 0), s)
set_option maxHeartbeats 4000000 in
set_option maxRecDepth 100000 in
theorem e_X2_loseAll_L2 {X : Cx} {Γ : Gm} {r0 : Rb} (hX : Amb X Γ cX2_loseAll RX2 2 none 1) {r : Nat} {v1 : Int32} {s : St} {t : (Int32 × St) ⊕ (Unit × St)} (h : f_X2_loseAll_L2 r v1 s = some t) (hk : (Sum.elim (fun q : Int32 × St => Zw X Γ 2 r0 q.2 2 [(0, .ref (gL Γ (r))), (1, .int q.1)] []) (fun t : Unit × St => Rt X Γ r0 (none, t.2))) t) : Zw X Γ 2 r0 s 2 [(0, .ref (gL Γ (r))), (1, .int v1)] [] := by
  unfold f_X2_loseAll_L2 at h
  refine z_iload_n hX dX2_loseAll_2 1 rfl 3 rfl ?_
  refine z_aload_n hX dX2_loseAll_3 0 rfl 4 rfl ?_
  replace h := gd_elim h
  obtain ⟨g1, h⟩ := h
  refine z_get2 hX (k := r) (j := 0) (v := .int ((s.1 r 0))) g1 (by decide) rfl dX2_loseAll_4 fl_X2_9 7 rfl ?_
  refine z_icmp_ge hX 38 dX2_loseAll_7 (by decide) 10 rfl (fun c2 => ?_) (fun c2 => ?_)
  · replace h := br_pos h c2
    refine z_aload_n hX dX2_loseAll_38 0 rfl 39 rfl ?_
    refine z_get2 hX (k := r) (j := 9) (v := .ref (gL Γ (r + 7))) g1 (by decide) rfl dX2_loseAll_39 fl_X2_40 42 rfl ?_
    refine z_iconst hX (v := (nI 0)) dX2_loseAll_42 rfl 43 rfl ?_
    replace h := cl_elim h
    obtain ⟨x4, s3, hx4, h⟩ := h
    refine z_cSv hX (As := [.ref (gL Γ (r + 7)), .int ((nI 0))]) (c_J7_fill_53178 hx4) lk_X2_58 ds_J7_fill_53178 rfl (by decide) (by decide) (by decide) dX2_loseAll_43 rfl 46 rfl ?_
    replace h := Option.some.inj h
    subst h
    exact z_vret hX dX2_loseAll_46 rfl hk
  · replace h := br_neg h c2
    refine z_aload_n hX dX2_loseAll_10 0 rfl 11 rfl ?_
    refine z_get2 hX (k := r) (j := 7) (v := .ref (gL Γ (r + 5))) g1 (by decide) rfl dX2_loseAll_11 fl_X2_34 14 rfl ?_
    refine z_iload_n hX dX2_loseAll_14 1 rfl 15 rfl ?_
    refine z_dup2 hX dX2_loseAll_15 rfl rfl 16 rfl ?_
    replace h := gd_elim h
    obtain ⟨g5, h⟩ := h
    refine z_iald hX (inb_vp g5) dX2_loseAll_16 17 rfl ?_
    refine z_aload_n hX dX2_loseAll_17 0 rfl 18 rfl ?_
    refine z_get2 hX (k := r) (j := 8) (v := .ref (gL Γ (r + 6))) g1 (by decide) rfl dX2_loseAll_18 fl_X2_37 21 rfl ?_
    refine z_iload_n hX dX2_loseAll_21 1 rfl 22 rfl ?_
    replace h := gd_elim h
    obtain ⟨g6, h⟩ := h
    refine z_iald hX (inb_vp g6) dX2_loseAll_22 23 rfl ?_
    refine z_iadd hX dX2_loseAll_23 24 rfl ?_
    replace h := bd_elim h
    obtain ⟨s7, es7, h⟩ := h
    refine z_iast hX (inb_vp g5) dX2_loseAll_24 es7 25 rfl ?_
    refine z_aload_n hX dX2_loseAll_25 0 rfl 26 rfl ?_
    refine z_get2 hX (k := r) (j := 8) (v := .ref (gL Γ (r + 6))) g1 (by decide) rfl dX2_loseAll_26 fl_X2_37 29 rfl ?_
    refine z_iload_n hX dX2_loseAll_29 1 rfl 30 rfl ?_
    refine z_iconst hX (v := (nI 0)) dX2_loseAll_30 rfl 31 rfl ?_
    replace h := bd_elim h
    obtain ⟨s8, es8, h⟩ := h
    refine z_iast hX (inb_vp g6) dX2_loseAll_31 es8 32 rfl ?_
    refine z_iinc hX (v := (v1 + (nI 1))) (lv2 := [(1, .int ((v1 + (nI 1)))), (0, .ref (gL Γ (r)))]) dX2_loseAll_32 1 rfl rfl (by decide) rfl 35 rfl ?_
    refine z_goto hX 2 dX2_loseAll_35 (by decide) ?_
    replace h := Option.some.inj h
    subst h
    exact z_sub [1, 0] rfl hk
set_option maxHeartbeats 4000000 in
set_option maxRecDepth 100000 in
theorem e_X2_loseAll {X : Cx} {Γ : Gm} {r0 : Rb} (hX : Amb X Γ cX2_loseAll RX2 2 none 1) {r : Nat} {s : St} {t : Unit × St} (h : f_X2_loseAll r s = some t) (hk : (fun t : Unit × St => Rt X Γ r0 (none, t.2)) t) : Zw X Γ 2 r0 s 0 [(0, .ref (gL Γ (r)))] [] := by
  unfold f_X2_loseAll at h
  refine z_iconst hX (v := (nI 0)) dX2_loseAll_0 rfl 1 rfl ?_
  refine z_istore_n hX (lv2 := [(1, .int ((nI 0))), (0, .ref (gL Γ (r)))]) dX2_loseAll_1 (by decide) rfl 2 rfl ?_
  exact z_sub [1, 0] rfl (lp_ok (Z := fun q : Int32 × St => Zw X Γ 2 r0 q.2 2 [(0, .ref (gL Γ (r))), (1, .int q.1)] []) (fun q t h hk => e_X2_loseAll_L2 hX h hk) Fu _ _ h hk)
theorem c_X2_loseAll {lc : Launch} {Γ : Gm} {r : Nat} {s s2 : St} {v : Unit} (h : f_X2_loseAll r s = some (v, s2)) : Ct lc Γ yX2_loseAll cX2_loseAll 2 none 1 [.ref (gL Γ (r))] s (none, s2) := Ct.of (by decide +kernel) (Nat.le_of_ble_eq_true rfl) (fun X hl hX => e_X2_loseAll hX h rfl)
theorem dX2_wayNow_0 : decode cX2_wayNow 0 = .ok (.aload_n 0, 1) := by decide +kernel
theorem dX2_wayNow_1 : decode cX2_wayNow 1 = .ok (.getfield 52, 3) := by decide +kernel
theorem dX2_wayNow_4 : decode cX2_wayNow 4 = .ok (.aload_n 0, 1) := by decide +kernel
theorem dX2_wayNow_5 : decode cX2_wayNow 5 = .ok (.getfield 18, 3) := by decide +kernel
theorem dX2_wayNow_8 : decode cX2_wayNow 8 = .ok (.bipush 6, 2) := by decide +kernel
theorem dX2_wayNow_10 : decode cX2_wayNow 10 = .ok (.irem, 1) := by decide +kernel
theorem dX2_wayNow_11 : decode cX2_wayNow 11 = .ok (.iaload, 1) := by decide +kernel
theorem dX2_wayNow_12 : decode cX2_wayNow 12 = .ok (.ireturn, 1) := by decide +kernel
def f_X2_wayNow (r : Nat) (s : St) : Option (Int32 × St) := if kd (r) = 2 then if inb ((s.1 r 2) - (s.1 r 2) / (nI 6) * (nI 6)) (lnI (r + 11)) = true then some (((s.1 (r + 11) (((s.1 r 2) - (s.1 r 2) / (nI 6) * (nI 6))).toNatClampNeg), s)) else none else none
set_option maxHeartbeats 4000000 in
set_option maxRecDepth 100000 in
theorem e_X2_wayNow {X : Cx} {Γ : Gm} {r0 : Rb} (hX : Amb X Γ cX2_wayNow RX2 1 (some .int) 0) {r : Nat} {s : St} {t : Int32 × St} (h : f_X2_wayNow r s = some t) (hk : (fun t : Int32 × St => Rt X Γ r0 (some (Value.int t.1), t.2)) t) : Zw X Γ 1 r0 s 0 [(0, .ref (gL Γ (r)))] [] := by
  unfold f_X2_wayNow at h
  refine z_aload_n hX dX2_wayNow_0 0 rfl 1 rfl ?_
  replace h := gd_elim h
  obtain ⟨g1, h⟩ := h
  refine z_get2 hX (k := r) (j := 13) (v := .ref (gL Γ (r + 11))) g1 (by decide) rfl dX2_wayNow_1 fl_X2_52 4 rfl ?_
  refine z_aload_n hX dX2_wayNow_4 0 rfl 5 rfl ?_
  refine z_get2 hX (k := r) (j := 2) (v := .int ((s.1 r 2))) g1 (by decide) rfl dX2_wayNow_5 fl_X2_18 8 rfl ?_
  refine z_bipush hX (v := (nI 6)) dX2_wayNow_8 (by decide) 10 rfl ?_
  refine z_irem hX dX2_wayNow_10 (by decide) 11 rfl ?_
  replace h := gd_elim h
  obtain ⟨g2, h⟩ := h
  refine z_iald hX (inb_vp g2) dX2_wayNow_11 12 rfl ?_
  replace h := Option.some.inj h
  subst h
  exact z_iret hX dX2_wayNow_12 rfl hk
theorem c_X2_wayNow {lc : Launch} {Γ : Gm} {r : Nat} {s s2 : St} {v : Int32} (h : f_X2_wayNow r s = some (v, s2)) : Ct lc Γ yX2_wayNow cX2_wayNow 1 (some .int) 0 [.ref (gL Γ (r))] s (some (.int v), s2) := Ct.of (by decide +kernel) (Nat.le_of_ble_eq_true rfl) (fun X hl hX => e_X2_wayNow hX h rfl)
theorem dX2_tellAll_0 : decode cX2_tellAll 0 = .ok (.iconst 0, 1) := by decide +kernel
theorem dX2_tellAll_1 : decode cX2_tellAll 1 = .ok (.istore_n 1, 1) := by decide +kernel
theorem dX2_tellAll_2 : decode cX2_tellAll 2 = .ok (.iload_n 1, 1) := by decide +kernel
theorem dX2_tellAll_3 : decode cX2_tellAll 3 = .ok (.aload_n 0, 1) := by decide +kernel
theorem dX2_tellAll_4 : decode cX2_tellAll 4 = .ok (.getfield 9, 3) := by decide +kernel
theorem dX2_tellAll_7 : decode cX2_tellAll 7 = .ok (.if_icmp .ge 65, 3) := by decide +kernel
theorem dX2_tellAll_10 : decode cX2_tellAll 10 = .ok (.aload_n 0, 1) := by decide +kernel
theorem dX2_tellAll_11 : decode cX2_tellAll 11 = .ok (.getfield 28, 3) := by decide +kernel
theorem dX2_tellAll_14 : decode cX2_tellAll 14 = .ok (.iload_n 1, 1) := by decide +kernel
theorem dX2_tellAll_15 : decode cX2_tellAll 15 = .ok (.iaload, 1) := by decide +kernel
theorem dX2_tellAll_16 : decode cX2_tellAll 16 = .ok (.aload_n 0, 1) := by decide +kernel
theorem dX2_tellAll_17 : decode cX2_tellAll 17 = .ok (.getfield 31, 3) := by decide +kernel
theorem dX2_tellAll_20 : decode cX2_tellAll 20 = .ok (.iload_n 1, 1) := by decide +kernel
theorem dX2_tellAll_21 : decode cX2_tellAll 21 = .ok (.iaload, 1) := by decide +kernel
theorem dX2_tellAll_22 : decode cX2_tellAll 22 = .ok (.invokestatic 106, 3) := by decide +kernel
theorem dX2_tellAll_25 : decode cX2_tellAll 25 = .ok (.istore_n 2, 1) := by decide +kernel
theorem dX2_tellAll_26 : decode cX2_tellAll 26 = .ok (.aload_n 0, 1) := by decide +kernel
theorem dX2_tellAll_27 : decode cX2_tellAll 27 = .ok (.getfield 31, 3) := by decide +kernel
theorem dX2_tellAll_30 : decode cX2_tellAll 30 = .ok (.iload_n 1, 1) := by decide +kernel
theorem dX2_tellAll_31 : decode cX2_tellAll 31 = .ok (.dup2, 1) := by decide +kernel
theorem dX2_tellAll_32 : decode cX2_tellAll 32 = .ok (.iaload, 1) := by decide +kernel
theorem dX2_tellAll_33 : decode cX2_tellAll 33 = .ok (.iload_n 2, 1) := by decide +kernel
theorem dX2_tellAll_34 : decode cX2_tellAll 34 = .ok (.isub, 1) := by decide +kernel
theorem dX2_tellAll_35 : decode cX2_tellAll 35 = .ok (.iastore, 1) := by decide +kernel
theorem dX2_tellAll_36 : decode cX2_tellAll 36 = .ok (.aload_n 0, 1) := by decide +kernel
theorem dX2_tellAll_37 : decode cX2_tellAll 37 = .ok (.getfield 37, 3) := by decide +kernel
theorem dX2_tellAll_40 : decode cX2_tellAll 40 = .ok (.iload_n 1, 1) := by decide +kernel
theorem dX2_tellAll_41 : decode cX2_tellAll 41 = .ok (.dup2, 1) := by decide +kernel
theorem dX2_tellAll_42 : decode cX2_tellAll 42 = .ok (.iaload, 1) := by decide +kernel
theorem dX2_tellAll_43 : decode cX2_tellAll 43 = .ok (.iload_n 2, 1) := by decide +kernel
theorem dX2_tellAll_44 : decode cX2_tellAll 44 = .ok (.iadd, 1) := by decide +kernel
theorem dX2_tellAll_45 : decode cX2_tellAll 45 = .ok (.iastore, 1) := by decide +kernel
theorem dX2_tellAll_46 : decode cX2_tellAll 46 = .ok (.aload_n 0, 1) := by decide +kernel
theorem dX2_tellAll_47 : decode cX2_tellAll 47 = .ok (.getfield 40, 3) := by decide +kernel
theorem dX2_tellAll_50 : decode cX2_tellAll 50 = .ok (.iload_n 1, 1) := by decide +kernel
theorem dX2_tellAll_51 : decode cX2_tellAll 51 = .ok (.bipush 20, 2) := by decide +kernel
theorem dX2_tellAll_53 : decode cX2_tellAll 53 = .ok (.imul, 1) := by decide +kernel
theorem dX2_tellAll_54 : decode cX2_tellAll 54 = .ok (.aload_n 0, 1) := by decide +kernel
theorem dX2_tellAll_55 : decode cX2_tellAll 55 = .ok (.getfield 25, 3) := by decide +kernel
theorem dX2_tellAll_58 : decode cX2_tellAll 58 = .ok (.iload_n 1, 1) := by decide +kernel
theorem dX2_tellAll_59 : decode cX2_tellAll 59 = .ok (.iaload, 1) := by decide +kernel
theorem dX2_tellAll_60 : decode cX2_tellAll 60 = .ok (.iadd, 1) := by decide +kernel
theorem dX2_tellAll_61 : decode cX2_tellAll 61 = .ok (.dup2, 1) := by decide +kernel
theorem dX2_tellAll_62 : decode cX2_tellAll 62 = .ok (.iaload, 1) := by decide +kernel
theorem dX2_tellAll_63 : decode cX2_tellAll 63 = .ok (.iload_n 2, 1) := by decide +kernel
theorem dX2_tellAll_64 : decode cX2_tellAll 64 = .ok (.iadd, 1) := by decide +kernel
theorem dX2_tellAll_65 : decode cX2_tellAll 65 = .ok (.iastore, 1) := by decide +kernel
theorem dX2_tellAll_66 : decode cX2_tellAll 66 = .ok (.iinc 1 1, 3) := by decide +kernel
theorem dX2_tellAll_69 : decode cX2_tellAll 69 = .ok (.goto (-67), 3) := by decide +kernel
theorem dX2_tellAll_72 : decode cX2_tellAll 72 = .ok (.return_, 1) := by decide +kernel
def f_X2_tellAll_L2 (r : Nat) (v1 : Int32) (s : St) : Option ((Int32 × St) ⊕ (Unit × St)) := if kd (r) = 2 then if (s.1 r 0) ≤ v1 then (some (Sum.inr (((), s)))) else (if inb v1 (lnI (r + 3)) = true then if inb v1 (lnI (r + 4)) = true then bd (if (s.1 (r + 4) (v1).toNatClampNeg) < (s.1 (r + 3) (v1).toNatClampNeg) then (s.1 (r + 4) (v1).toNatClampNeg) else (s.1 (r + 3) (v1).toNatClampNeg)) (fun x5 => bd (wI s (r + 4) (v1).toNatClampNeg ((s.1 (r + 4) (v1).toNatClampNeg) - x5)) (fun s6 => if inb v1 (lnI (r + 6)) = true then bd (wI s6 (r + 6) (v1).toNatClampNeg ((s6.1 (r + 6) (v1).toNatClampNeg) + x5)) (fun s8 => if inb v1 (lnI (r + 2)) = true then if inb ((v1 * (nI 20)) + (s8.1 (r + 2) (v1).toNatClampNeg)) (lnI (r + 7)) = true then bd (wI s8 (r + 7) (((v1 * (nI 20)) + (s8.1 (r + 2) (v1).toNatClampNeg))).toNatClampNeg ((s8.1 (r + 7) (((v1 * (nI 20)) + (s8.1 (r + 2) (v1).toNatClampNeg))).toNatClampNeg) + x5)) (fun s11 => some (Sum.inl ((v1 + (nI 1)), s11))) else none else none) else none)) else none else none) else none
def f_X2_tellAll (r : Nat) (s : St) : Option (Unit × St) := lp (fun q : Int32 × St => f_X2_tellAll_L2 r q.1 q.2) Fu ((nI 0), s)
set_option maxHeartbeats 4000000 in
set_option maxRecDepth 100000 in
theorem e_X2_tellAll_L2 {X : Cx} {Γ : Gm} {r0 : Rb} (hX : Amb X Γ cX2_tellAll RX2 3 none 1) {r : Nat} {v1 : Int32} {s : St} {t : (Int32 × St) ⊕ (Unit × St)} (h : f_X2_tellAll_L2 r v1 s = some t) (hk : (Sum.elim (fun q : Int32 × St => Zw X Γ 3 r0 q.2 2 [(0, .ref (gL Γ (r))), (1, .int q.1)] []) (fun t : Unit × St => Rt X Γ r0 (none, t.2))) t) : Zw X Γ 3 r0 s 2 [(0, .ref (gL Γ (r))), (1, .int v1)] [] := by
  unfold f_X2_tellAll_L2 at h
  refine z_iload_n hX dX2_tellAll_2 1 rfl 3 rfl ?_
  refine z_aload_n hX dX2_tellAll_3 0 rfl 4 rfl ?_
  replace h := gd_elim h
  obtain ⟨g1, h⟩ := h
  refine z_get2 hX (k := r) (j := 0) (v := .int ((s.1 r 0))) g1 (by decide) rfl dX2_tellAll_4 fl_X2_9 7 rfl ?_
  refine z_icmp_ge hX 72 dX2_tellAll_7 (by decide) 10 rfl (fun c2 => ?_) (fun c2 => ?_)
  · replace h := br_pos h c2
    replace h := Option.some.inj h
    subst h
    exact z_vret hX dX2_tellAll_72 rfl hk
  · replace h := br_neg h c2
    refine z_aload_n hX dX2_tellAll_10 0 rfl 11 rfl ?_
    refine z_get2 hX (k := r) (j := 5) (v := .ref (gL Γ (r + 3))) g1 (by decide) rfl dX2_tellAll_11 fl_X2_28 14 rfl ?_
    refine z_iload_n hX dX2_tellAll_14 1 rfl 15 rfl ?_
    replace h := gd_elim h
    obtain ⟨g3, h⟩ := h
    refine z_iald hX (inb_vp g3) dX2_tellAll_15 16 rfl ?_
    refine z_aload_n hX dX2_tellAll_16 0 rfl 17 rfl ?_
    refine z_get2 hX (k := r) (j := 6) (v := .ref (gL Γ (r + 4))) g1 (by decide) rfl dX2_tellAll_17 fl_X2_31 20 rfl ?_
    refine z_iload_n hX dX2_tellAll_20 1 rfl 21 rfl ?_
    replace h := gd_elim h
    obtain ⟨g4, h⟩ := h
    refine z_iald hX (inb_vp g4) dX2_tellAll_21 22 rfl ?_
    refine z_mmin hX ml_X2_106 st_min in_Math co_min (by decide) (by decide) dX2_tellAll_22 25 rfl ?_
    replace h := bd_elim h
    obtain ⟨x5, ex5, h⟩ := h
    refine z_nm ex5 ?_
    refine z_istore_n hX (lv2 := [(2, .int x5), (0, .ref (gL Γ (r))), (1, .int v1)]) dX2_tellAll_25 (by decide) rfl 26 rfl ?_
    refine z_aload_n hX dX2_tellAll_26 1 rfl 27 rfl ?_
    refine z_get2 hX (k := r) (j := 6) (v := .ref (gL Γ (r + 4))) g1 (by decide) rfl dX2_tellAll_27 fl_X2_31 30 rfl ?_
    refine z_iload_n hX dX2_tellAll_30 2 rfl 31 rfl ?_
    refine z_dup2 hX dX2_tellAll_31 rfl rfl 32 rfl ?_
    refine z_iald hX (inb_vp g4) dX2_tellAll_32 33 rfl ?_
    refine z_iload_n hX dX2_tellAll_33 0 rfl 34 rfl ?_
    refine z_isub hX dX2_tellAll_34 35 rfl ?_
    replace h := bd_elim h
    obtain ⟨s6, es6, h⟩ := h
    refine z_iast hX (inb_vp g4) dX2_tellAll_35 es6 36 rfl ?_
    refine z_aload_n hX dX2_tellAll_36 1 rfl 37 rfl ?_
    refine z_get2 hX (k := r) (j := 8) (v := .ref (gL Γ (r + 6))) g1 (by decide) rfl dX2_tellAll_37 fl_X2_37 40 rfl ?_
    refine z_iload_n hX dX2_tellAll_40 2 rfl 41 rfl ?_
    refine z_dup2 hX dX2_tellAll_41 rfl rfl 42 rfl ?_
    replace h := gd_elim h
    obtain ⟨g7, h⟩ := h
    refine z_iald hX (inb_vp g7) dX2_tellAll_42 43 rfl ?_
    refine z_iload_n hX dX2_tellAll_43 0 rfl 44 rfl ?_
    refine z_iadd hX dX2_tellAll_44 45 rfl ?_
    replace h := bd_elim h
    obtain ⟨s8, es8, h⟩ := h
    refine z_iast hX (inb_vp g7) dX2_tellAll_45 es8 46 rfl ?_
    refine z_aload_n hX dX2_tellAll_46 1 rfl 47 rfl ?_
    refine z_get2 hX (k := r) (j := 9) (v := .ref (gL Γ (r + 7))) g1 (by decide) rfl dX2_tellAll_47 fl_X2_40 50 rfl ?_
    refine z_iload_n hX dX2_tellAll_50 2 rfl 51 rfl ?_
    refine z_bipush hX (v := (nI 20)) dX2_tellAll_51 (by decide) 53 rfl ?_
    refine z_imul hX dX2_tellAll_53 54 rfl ?_
    refine z_aload_n hX dX2_tellAll_54 1 rfl 55 rfl ?_
    refine z_get2 hX (k := r) (j := 4) (v := .ref (gL Γ (r + 2))) g1 (by decide) rfl dX2_tellAll_55 fl_X2_25 58 rfl ?_
    refine z_iload_n hX dX2_tellAll_58 2 rfl 59 rfl ?_
    replace h := gd_elim h
    obtain ⟨g9, h⟩ := h
    refine z_iald hX (inb_vp g9) dX2_tellAll_59 60 rfl ?_
    refine z_iadd hX dX2_tellAll_60 61 rfl ?_
    refine z_dup2 hX dX2_tellAll_61 rfl rfl 62 rfl ?_
    replace h := gd_elim h
    obtain ⟨g10, h⟩ := h
    refine z_iald hX (inb_vp g10) dX2_tellAll_62 63 rfl ?_
    refine z_iload_n hX dX2_tellAll_63 0 rfl 64 rfl ?_
    refine z_iadd hX dX2_tellAll_64 65 rfl ?_
    replace h := bd_elim h
    obtain ⟨s11, es11, h⟩ := h
    refine z_iast hX (inb_vp g10) dX2_tellAll_65 es11 66 rfl ?_
    refine z_iinc hX (v := (v1 + (nI 1))) (lv2 := [(1, .int ((v1 + (nI 1)))), (2, .int x5), (0, .ref (gL Γ (r)))]) dX2_tellAll_66 2 rfl rfl (by decide) rfl 69 rfl ?_
    refine z_goto hX 2 dX2_tellAll_69 (by decide) ?_
    replace h := Option.some.inj h
    subst h
    exact z_sub [2, 0] rfl hk
set_option maxHeartbeats 4000000 in
set_option maxRecDepth 100000 in
theorem e_X2_tellAll {X : Cx} {Γ : Gm} {r0 : Rb} (hX : Amb X Γ cX2_tellAll RX2 3 none 1) {r : Nat} {s : St} {t : Unit × St} (h : f_X2_tellAll r s = some t) (hk : (fun t : Unit × St => Rt X Γ r0 (none, t.2)) t) : Zw X Γ 3 r0 s 0 [(0, .ref (gL Γ (r)))] [] := by
  unfold f_X2_tellAll at h
  refine z_iconst hX (v := (nI 0)) dX2_tellAll_0 rfl 1 rfl ?_
  refine z_istore_n hX (lv2 := [(1, .int ((nI 0))), (0, .ref (gL Γ (r)))]) dX2_tellAll_1 (by decide) rfl 2 rfl ?_
  exact z_sub [1, 0] rfl (lp_ok (Z := fun q : Int32 × St => Zw X Γ 3 r0 q.2 2 [(0, .ref (gL Γ (r))), (1, .int q.1)] []) (fun q t h hk => e_X2_tellAll_L2 hX h hk) Fu _ _ h hk)
theorem c_X2_tellAll {lc : Launch} {Γ : Gm} {r : Nat} {s s2 : St} {v : Unit} (h : f_X2_tellAll r s = some (v, s2)) : Ct lc Γ yX2_tellAll cX2_tellAll 3 none 1 [.ref (gL Γ (r))] s (none, s2) := Ct.of (by decide +kernel) (Nat.le_of_ble_eq_true rfl) (fun X hl hX => e_X2_tellAll hX h rfl)
theorem dX2_takeAll_0 : decode cX2_takeAll 0 = .ok (.iconst 0, 1) := by decide +kernel
theorem dX2_takeAll_1 : decode cX2_takeAll 1 = .ok (.istore_n 1, 1) := by decide +kernel
theorem dX2_takeAll_2 : decode cX2_takeAll 2 = .ok (.iconst 0, 1) := by decide +kernel
theorem dX2_takeAll_3 : decode cX2_takeAll 3 = .ok (.istore_n 2, 1) := by decide +kernel
theorem dX2_takeAll_4 : decode cX2_takeAll 4 = .ok (.iload_n 2, 1) := by decide +kernel
theorem dX2_takeAll_5 : decode cX2_takeAll 5 = .ok (.aload_n 0, 1) := by decide +kernel
theorem dX2_takeAll_6 : decode cX2_takeAll 6 = .ok (.getfield 15, 3) := by decide +kernel
theorem dX2_takeAll_9 : decode cX2_takeAll 9 = .ok (.if_icmp .ge 127, 3) := by decide +kernel
theorem dX2_takeAll_12 : decode cX2_takeAll 12 = .ok (.aload_n 0, 1) := by decide +kernel
theorem dX2_takeAll_13 : decode cX2_takeAll 13 = .ok (.getfield 46, 3) := by decide +kernel
theorem dX2_takeAll_16 : decode cX2_takeAll 16 = .ok (.iload_n 2, 1) := by decide +kernel
theorem dX2_takeAll_17 : decode cX2_takeAll 17 = .ok (.iaload, 1) := by decide +kernel
theorem dX2_takeAll_18 : decode cX2_takeAll 18 = .ok (.istore_n 3, 1) := by decide +kernel
theorem dX2_takeAll_19 : decode cX2_takeAll 19 = .ok (.iconst 0, 1) := by decide +kernel
theorem dX2_takeAll_20 : decode cX2_takeAll 20 = .ok (.istore 4, 2) := by decide +kernel
theorem dX2_takeAll_22 : decode cX2_takeAll 22 = .ok (.iload 4, 2) := by decide +kernel
theorem dX2_takeAll_24 : decode cX2_takeAll 24 = .ok (.aload_n 0, 1) := by decide +kernel
theorem dX2_takeAll_25 : decode cX2_takeAll 25 = .ok (.getfield 9, 3) := by decide +kernel
theorem dX2_takeAll_28 : decode cX2_takeAll 28 = .ok (.if_icmp .ge 91, 3) := by decide +kernel
theorem dX2_takeAll_31 : decode cX2_takeAll 31 = .ok (.iload_n 3, 1) := by decide +kernel
theorem dX2_takeAll_32 : decode cX2_takeAll 32 = .ok (.ifCond .le 87, 3) := by decide +kernel
theorem dX2_takeAll_35 : decode cX2_takeAll 35 = .ok (.iload_n 3, 1) := by decide +kernel
theorem dX2_takeAll_36 : decode cX2_takeAll 36 = .ok (.aload_n 0, 1) := by decide +kernel
theorem dX2_takeAll_37 : decode cX2_takeAll 37 = .ok (.getfield 40, 3) := by decide +kernel
theorem dX2_takeAll_40 : decode cX2_takeAll 40 = .ok (.iload 4, 2) := by decide +kernel
theorem dX2_takeAll_42 : decode cX2_takeAll 42 = .ok (.bipush 20, 2) := by decide +kernel
theorem dX2_takeAll_44 : decode cX2_takeAll 44 = .ok (.imul, 1) := by decide +kernel
theorem dX2_takeAll_45 : decode cX2_takeAll 45 = .ok (.aload_n 0, 1) := by decide +kernel
theorem dX2_takeAll_46 : decode cX2_takeAll 46 = .ok (.getfield 43, 3) := by decide +kernel
theorem dX2_takeAll_49 : decode cX2_takeAll 49 = .ok (.iload_n 2, 1) := by decide +kernel
theorem dX2_takeAll_50 : decode cX2_takeAll 50 = .ok (.iaload, 1) := by decide +kernel
theorem dX2_takeAll_51 : decode cX2_takeAll 51 = .ok (.iadd, 1) := by decide +kernel
theorem dX2_takeAll_52 : decode cX2_takeAll 52 = .ok (.iaload, 1) := by decide +kernel
theorem dX2_takeAll_53 : decode cX2_takeAll 53 = .ok (.invokestatic 106, 3) := by decide +kernel
theorem dX2_takeAll_56 : decode cX2_takeAll 56 = .ok (.istore 5, 2) := by decide +kernel
theorem dX2_takeAll_58 : decode cX2_takeAll 58 = .ok (.aload_n 0, 1) := by decide +kernel
theorem dX2_takeAll_59 : decode cX2_takeAll 59 = .ok (.getfield 40, 3) := by decide +kernel
theorem dX2_takeAll_62 : decode cX2_takeAll 62 = .ok (.iload 4, 2) := by decide +kernel
theorem dX2_takeAll_64 : decode cX2_takeAll 64 = .ok (.bipush 20, 2) := by decide +kernel
theorem dX2_takeAll_66 : decode cX2_takeAll 66 = .ok (.imul, 1) := by decide +kernel
theorem dX2_takeAll_67 : decode cX2_takeAll 67 = .ok (.aload_n 0, 1) := by decide +kernel
theorem dX2_takeAll_68 : decode cX2_takeAll 68 = .ok (.getfield 43, 3) := by decide +kernel
theorem dX2_takeAll_71 : decode cX2_takeAll 71 = .ok (.iload_n 2, 1) := by decide +kernel
theorem dX2_takeAll_72 : decode cX2_takeAll 72 = .ok (.iaload, 1) := by decide +kernel
theorem dX2_takeAll_73 : decode cX2_takeAll 73 = .ok (.iadd, 1) := by decide +kernel
theorem dX2_takeAll_74 : decode cX2_takeAll 74 = .ok (.dup2, 1) := by decide +kernel
theorem dX2_takeAll_75 : decode cX2_takeAll 75 = .ok (.iaload, 1) := by decide +kernel
theorem dX2_takeAll_76 : decode cX2_takeAll 76 = .ok (.iload 5, 2) := by decide +kernel
theorem dX2_takeAll_78 : decode cX2_takeAll 78 = .ok (.isub, 1) := by decide +kernel
theorem dX2_takeAll_79 : decode cX2_takeAll 79 = .ok (.iastore, 1) := by decide +kernel
theorem dX2_takeAll_80 : decode cX2_takeAll 80 = .ok (.aload_n 0, 1) := by decide +kernel
theorem dX2_takeAll_81 : decode cX2_takeAll 81 = .ok (.getfield 37, 3) := by decide +kernel
theorem dX2_takeAll_84 : decode cX2_takeAll 84 = .ok (.iload 4, 2) := by decide +kernel
theorem dX2_takeAll_86 : decode cX2_takeAll 86 = .ok (.dup2, 1) := by decide +kernel
theorem dX2_takeAll_87 : decode cX2_takeAll 87 = .ok (.iaload, 1) := by decide +kernel
theorem dX2_takeAll_88 : decode cX2_takeAll 88 = .ok (.iload 5, 2) := by decide +kernel
theorem dX2_takeAll_90 : decode cX2_takeAll 90 = .ok (.isub, 1) := by decide +kernel
theorem dX2_takeAll_91 : decode cX2_takeAll 91 = .ok (.iastore, 1) := by decide +kernel
theorem dX2_takeAll_92 : decode cX2_takeAll 92 = .ok (.aload_n 0, 1) := by decide +kernel
theorem dX2_takeAll_93 : decode cX2_takeAll 93 = .ok (.getfield 49, 3) := by decide +kernel
theorem dX2_takeAll_96 : decode cX2_takeAll 96 = .ok (.iload_n 2, 1) := by decide +kernel
theorem dX2_takeAll_97 : decode cX2_takeAll 97 = .ok (.iconst 3, 1) := by decide +kernel
theorem dX2_takeAll_98 : decode cX2_takeAll 98 = .ok (.imul, 1) := by decide +kernel
theorem dX2_takeAll_99 : decode cX2_takeAll 99 = .ok (.iload 4, 2) := by decide +kernel
theorem dX2_takeAll_101 : decode cX2_takeAll 101 = .ok (.iadd, 1) := by decide +kernel
theorem dX2_takeAll_102 : decode cX2_takeAll 102 = .ok (.dup2, 1) := by decide +kernel
theorem dX2_takeAll_103 : decode cX2_takeAll 103 = .ok (.iaload, 1) := by decide +kernel
theorem dX2_takeAll_104 : decode cX2_takeAll 104 = .ok (.iload 5, 2) := by decide +kernel
theorem dX2_takeAll_106 : decode cX2_takeAll 106 = .ok (.iadd, 1) := by decide +kernel
theorem dX2_takeAll_107 : decode cX2_takeAll 107 = .ok (.iastore, 1) := by decide +kernel
theorem dX2_takeAll_108 : decode cX2_takeAll 108 = .ok (.iload_n 3, 1) := by decide +kernel
theorem dX2_takeAll_109 : decode cX2_takeAll 109 = .ok (.iload 5, 2) := by decide +kernel
theorem dX2_takeAll_111 : decode cX2_takeAll 111 = .ok (.isub, 1) := by decide +kernel
theorem dX2_takeAll_112 : decode cX2_takeAll 112 = .ok (.istore_n 3, 1) := by decide +kernel
theorem dX2_takeAll_113 : decode cX2_takeAll 113 = .ok (.iinc 4 1, 3) := by decide +kernel
theorem dX2_takeAll_116 : decode cX2_takeAll 116 = .ok (.goto (-94), 3) := by decide +kernel
theorem dX2_takeAll_119 : decode cX2_takeAll 119 = .ok (.iload_n 1, 1) := by decide +kernel
theorem dX2_takeAll_120 : decode cX2_takeAll 120 = .ok (.aload_n 0, 1) := by decide +kernel
theorem dX2_takeAll_121 : decode cX2_takeAll 121 = .ok (.getfield 46, 3) := by decide +kernel
theorem dX2_takeAll_124 : decode cX2_takeAll 124 = .ok (.iload_n 2, 1) := by decide +kernel
theorem dX2_takeAll_125 : decode cX2_takeAll 125 = .ok (.iaload, 1) := by decide +kernel
theorem dX2_takeAll_126 : decode cX2_takeAll 126 = .ok (.iload_n 3, 1) := by decide +kernel
theorem dX2_takeAll_127 : decode cX2_takeAll 127 = .ok (.isub, 1) := by decide +kernel
theorem dX2_takeAll_128 : decode cX2_takeAll 128 = .ok (.iadd, 1) := by decide +kernel
theorem dX2_takeAll_129 : decode cX2_takeAll 129 = .ok (.istore_n 1, 1) := by decide +kernel
theorem dX2_takeAll_130 : decode cX2_takeAll 130 = .ok (.iinc 2 1, 3) := by decide +kernel
theorem dX2_takeAll_133 : decode cX2_takeAll 133 = .ok (.goto (-129), 3) := by decide +kernel
theorem dX2_takeAll_136 : decode cX2_takeAll 136 = .ok (.iload_n 1, 1) := by decide +kernel
theorem dX2_takeAll_137 : decode cX2_takeAll 137 = .ok (.ireturn, 1) := by decide +kernel
def f_X2_takeAll_J119 (r : Nat) (v1 : Int32) (v2 : Int32) (v3 : Int32) (s : St) : Option ((Int32 × Int32 × St) ⊕ (Int32 × St)) := if kd (r) = 2 then if inb v2 (lnI (r + 9)) = true then bd (v1 + ((s.1 (r + 9) (v2).toNatClampNeg) - v3)) (fun x19 => some (Sum.inl (x19, (v2 + (nI 1)), s))) else none else none
def f_X2_takeAll_L22 (r : Nat) (v1 : Int32) (v2 : Int32) (v3 : Int32) (v4 : Int32) (s : St) : Option ((Int32 × Int32 × St) ⊕ ((Int32 × Int32 × St) ⊕ (Int32 × St))) := if kd (r) = 2 then if (s.1 r 0) ≤ v4 then (ox (f_X2_takeAll_J119 r v1 v2 v3 s)) else (if v3 ≤ 0 then (ox (f_X2_takeAll_J119 r v1 v2 v3 s)) else (if inb v2 (lnI (r + 8)) = true then if inb ((v4 * (nI 20)) + (s.1 (r + 8) (v2).toNatClampNeg)) (lnI (r + 7)) = true then bd (if (s.1 (r + 7) (((v4 * (nI 20)) + (s.1 (r + 8) (v2).toNatClampNeg))).toNatClampNeg) < v3 then (s.1 (r + 7) (((v4 * (nI 20)) + (s.1 (r + 8) (v2).toNatClampNeg))).toNatClampNeg) else v3) (fun x10 => bd (wI s (r + 7) (((v4 * (nI 20)) + (s.1 (r + 8) (v2).toNatClampNeg))).toNatClampNeg ((s.1 (r + 7) (((v4 * (nI 20)) + (s.1 (r + 8) (v2).toNatClampNeg))).toNatClampNeg) - x10)) (fun s11 => if inb v4 (lnI (r + 6)) = true then bd (wI s11 (r + 6) (v4).toNatClampNeg ((s11.1 (r + 6) (v4).toNatClampNeg) - x10)) (fun s13 => if inb ((v2 * (nI 3)) + v4) (lnI (r + 10)) = true then bd (wI s13 (r + 10) (((v2 * (nI 3)) + v4)).toNatClampNeg ((s13.1 (r + 10) (((v2 * (nI 3)) + v4)).toNatClampNeg) + x10)) (fun s15 => bd (v3 - x10) (fun x16 => some (Sum.inl (x16, (v4 + (nI 1)), s15)))) else none) else none)) else none else none)) else none
def f_X2_takeAll_L4 (r : Nat) (v1 : Int32) (v2 : Int32) (s : St) : Option ((Int32 × Int32 × St) ⊕ (Int32 × St)) := if kd (r) = 2 then if (s.1 r 1) ≤ v2 then (some (Sum.inr ((v1, s)))) else (if inb v2 (lnI (r + 9)) = true then bd (s.1 (r + 9) (v2).toNatClampNeg) (fun x4 => lp (fun q : Int32 × Int32 × St => f_X2_takeAll_L22 r v1 v2 q.1 q.2.1 q.2.2) Fu (x4, (nI 0), s)) else none) else none
def f_X2_takeAll (r : Nat) (s : St) : Option (Int32 × St) := lp (fun q : Int32 × Int32 × St => f_X2_takeAll_L4 r q.1 q.2.1 q.2.2) Fu ((nI 0), (nI 0), s)
set_option maxHeartbeats 4000000 in
set_option maxRecDepth 100000 in
theorem e_X2_takeAll_J119 {X : Cx} {Γ : Gm} {r0 : Rb} (hX : Amb X Γ cX2_takeAll RX2 6 (some .int) 1) {r : Nat} {v1 : Int32} {v2 : Int32} {v3 : Int32} {s : St} {t : (Int32 × Int32 × St) ⊕ (Int32 × St)} (h : f_X2_takeAll_J119 r v1 v2 v3 s = some t) (hk : (Sum.elim (fun q : Int32 × Int32 × St => Zw X Γ 6 r0 q.2.2 4 [(0, .ref (gL Γ (r))), (1, .int q.1), (2, .int q.2.1)] []) (fun t : Int32 × St => Rt X Γ r0 (some (Value.int t.1), t.2))) t) : Zw X Γ 6 r0 s 119 [(0, .ref (gL Γ (r))), (1, .int v1), (2, .int v2), (3, .int v3)] [] := by
  unfold f_X2_takeAll_J119 at h
  refine z_iload_n hX dX2_takeAll_119 1 rfl 120 rfl ?_
  refine z_aload_n hX dX2_takeAll_120 0 rfl 121 rfl ?_
  replace h := gd_elim h
  obtain ⟨g17, h⟩ := h
  refine z_get2 hX (k := r) (j := 11) (v := .ref (gL Γ (r + 9))) g17 (by decide) rfl dX2_takeAll_121 fl_X2_46 124 rfl ?_
  refine z_iload_n hX dX2_takeAll_124 2 rfl 125 rfl ?_
  replace h := gd_elim h
  obtain ⟨g18, h⟩ := h
  refine z_iald hX (inb_vp g18) dX2_takeAll_125 126 rfl ?_
  refine z_iload_n hX dX2_takeAll_126 3 rfl 127 rfl ?_
  refine z_isub hX dX2_takeAll_127 128 rfl ?_
  refine z_iadd hX dX2_takeAll_128 129 rfl ?_
  replace h := bd_elim h
  obtain ⟨x19, ex19, h⟩ := h
  refine z_nm ex19 ?_
  refine z_istore_n hX (lv2 := [(1, .int x19), (0, .ref (gL Γ (r))), (2, .int v2), (3, .int v3)]) dX2_takeAll_129 (by decide) rfl 130 rfl ?_
  refine z_iinc hX (v := (v2 + (nI 1))) (lv2 := [(2, .int ((v2 + (nI 1)))), (1, .int x19), (0, .ref (gL Γ (r))), (3, .int v3)]) dX2_takeAll_130 2 rfl rfl (by decide) rfl 133 rfl ?_
  refine z_goto hX 4 dX2_takeAll_133 (by decide) ?_
  replace h := Option.some.inj h
  subst h
  exact z_sub [2, 1, 0] rfl hk
set_option maxHeartbeats 4000000 in
set_option maxRecDepth 100000 in
theorem e_X2_takeAll_L22 {X : Cx} {Γ : Gm} {r0 : Rb} (hX : Amb X Γ cX2_takeAll RX2 6 (some .int) 1) {r : Nat} {v1 : Int32} {v2 : Int32} {v3 : Int32} {v4 : Int32} {s : St} {t : (Int32 × Int32 × St) ⊕ ((Int32 × Int32 × St) ⊕ (Int32 × St))} (h : f_X2_takeAll_L22 r v1 v2 v3 v4 s = some t) (hk : (Sum.elim (fun q : Int32 × Int32 × St => Zw X Γ 6 r0 q.2.2 22 [(0, .ref (gL Γ (r))), (1, .int v1), (2, .int v2), (3, .int q.1), (4, .int q.2.1)] []) (Sum.elim (fun q : Int32 × Int32 × St => Zw X Γ 6 r0 q.2.2 4 [(0, .ref (gL Γ (r))), (1, .int q.1), (2, .int q.2.1)] []) (fun t : Int32 × St => Rt X Γ r0 (some (Value.int t.1), t.2)))) t) : Zw X Γ 6 r0 s 22 [(0, .ref (gL Γ (r))), (1, .int v1), (2, .int v2), (3, .int v3), (4, .int v4)] [] := by
  unfold f_X2_takeAll_L22 at h
  refine z_iload hX dX2_takeAll_22 4 rfl 24 rfl ?_
  refine z_aload_n hX dX2_takeAll_24 0 rfl 25 rfl ?_
  replace h := gd_elim h
  obtain ⟨g5, h⟩ := h
  refine z_get2 hX (k := r) (j := 0) (v := .int ((s.1 r 0))) g5 (by decide) rfl dX2_takeAll_25 fl_X2_9 28 rfl ?_
  refine z_icmp_ge hX 119 dX2_takeAll_28 (by decide) 31 rfl (fun c6 => ?_) (fun c6 => ?_)
  · replace h := br_pos h c6
    replace h := ox_elim h
    obtain ⟨u, rfl, h⟩ := h
    exact z_sub [0, 1, 2, 3] rfl (e_X2_takeAll_J119 hX h hk)
  · replace h := br_neg h c6
    refine z_iload_n hX dX2_takeAll_31 3 rfl 32 rfl ?_
    refine z_if_le hX 119 dX2_takeAll_32 (by decide) 35 rfl (fun c7 => ?_) (fun c7 => ?_)
    · replace h := br_pos h c7
      replace h := ox_elim h
      obtain ⟨u, rfl, h⟩ := h
      exact z_sub [0, 1, 2, 3] rfl (e_X2_takeAll_J119 hX h hk)
    · replace h := br_neg h c7
      refine z_iload_n hX dX2_takeAll_35 3 rfl 36 rfl ?_
      refine z_aload_n hX dX2_takeAll_36 0 rfl 37 rfl ?_
      refine z_get2 hX (k := r) (j := 9) (v := .ref (gL Γ (r + 7))) g5 (by decide) rfl dX2_takeAll_37 fl_X2_40 40 rfl ?_
      refine z_iload hX dX2_takeAll_40 4 rfl 42 rfl ?_
      refine z_bipush hX (v := (nI 20)) dX2_takeAll_42 (by decide) 44 rfl ?_
      refine z_imul hX dX2_takeAll_44 45 rfl ?_
      refine z_aload_n hX dX2_takeAll_45 0 rfl 46 rfl ?_
      refine z_get2 hX (k := r) (j := 10) (v := .ref (gL Γ (r + 8))) g5 (by decide) rfl dX2_takeAll_46 fl_X2_43 49 rfl ?_
      refine z_iload_n hX dX2_takeAll_49 2 rfl 50 rfl ?_
      replace h := gd_elim h
      obtain ⟨g8, h⟩ := h
      refine z_iald hX (inb_vp g8) dX2_takeAll_50 51 rfl ?_
      refine z_iadd hX dX2_takeAll_51 52 rfl ?_
      replace h := gd_elim h
      obtain ⟨g9, h⟩ := h
      refine z_iald hX (inb_vp g9) dX2_takeAll_52 53 rfl ?_
      refine z_mmin hX ml_X2_106 st_min in_Math co_min (by decide) (by decide) dX2_takeAll_53 56 rfl ?_
      replace h := bd_elim h
      obtain ⟨x10, ex10, h⟩ := h
      refine z_nm ex10 ?_
      refine z_istore hX (lv2 := [(5, .int x10), (0, .ref (gL Γ (r))), (1, .int v1), (2, .int v2), (3, .int v3), (4, .int v4)]) dX2_takeAll_56 (by decide) rfl 58 rfl ?_
      refine z_aload_n hX dX2_takeAll_58 1 rfl 59 rfl ?_
      refine z_get2 hX (k := r) (j := 9) (v := .ref (gL Γ (r + 7))) g5 (by decide) rfl dX2_takeAll_59 fl_X2_40 62 rfl ?_
      refine z_iload hX dX2_takeAll_62 5 rfl 64 rfl ?_
      refine z_bipush hX (v := (nI 20)) dX2_takeAll_64 (by decide) 66 rfl ?_
      refine z_imul hX dX2_takeAll_66 67 rfl ?_
      refine z_aload_n hX dX2_takeAll_67 1 rfl 68 rfl ?_
      refine z_get2 hX (k := r) (j := 10) (v := .ref (gL Γ (r + 8))) g5 (by decide) rfl dX2_takeAll_68 fl_X2_43 71 rfl ?_
      refine z_iload_n hX dX2_takeAll_71 3 rfl 72 rfl ?_
      refine z_iald hX (inb_vp g8) dX2_takeAll_72 73 rfl ?_
      refine z_iadd hX dX2_takeAll_73 74 rfl ?_
      refine z_dup2 hX dX2_takeAll_74 rfl rfl 75 rfl ?_
      refine z_iald hX (inb_vp g9) dX2_takeAll_75 76 rfl ?_
      refine z_iload hX dX2_takeAll_76 0 rfl 78 rfl ?_
      refine z_isub hX dX2_takeAll_78 79 rfl ?_
      replace h := bd_elim h
      obtain ⟨s11, es11, h⟩ := h
      refine z_iast hX (inb_vp g9) dX2_takeAll_79 es11 80 rfl ?_
      refine z_aload_n hX dX2_takeAll_80 1 rfl 81 rfl ?_
      refine z_get2 hX (k := r) (j := 8) (v := .ref (gL Γ (r + 6))) g5 (by decide) rfl dX2_takeAll_81 fl_X2_37 84 rfl ?_
      refine z_iload hX dX2_takeAll_84 5 rfl 86 rfl ?_
      refine z_dup2 hX dX2_takeAll_86 rfl rfl 87 rfl ?_
      replace h := gd_elim h
      obtain ⟨g12, h⟩ := h
      refine z_iald hX (inb_vp g12) dX2_takeAll_87 88 rfl ?_
      refine z_iload hX dX2_takeAll_88 0 rfl 90 rfl ?_
      refine z_isub hX dX2_takeAll_90 91 rfl ?_
      replace h := bd_elim h
      obtain ⟨s13, es13, h⟩ := h
      refine z_iast hX (inb_vp g12) dX2_takeAll_91 es13 92 rfl ?_
      refine z_aload_n hX dX2_takeAll_92 1 rfl 93 rfl ?_
      refine z_get2 hX (k := r) (j := 12) (v := .ref (gL Γ (r + 10))) g5 (by decide) rfl dX2_takeAll_93 fl_X2_49 96 rfl ?_
      refine z_iload_n hX dX2_takeAll_96 3 rfl 97 rfl ?_
      refine z_iconst hX (v := (nI 3)) dX2_takeAll_97 rfl 98 rfl ?_
      refine z_imul hX dX2_takeAll_98 99 rfl ?_
      refine z_iload hX dX2_takeAll_99 5 rfl 101 rfl ?_
      refine z_iadd hX dX2_takeAll_101 102 rfl ?_
      refine z_dup2 hX dX2_takeAll_102 rfl rfl 103 rfl ?_
      replace h := gd_elim h
      obtain ⟨g14, h⟩ := h
      refine z_iald hX (inb_vp g14) dX2_takeAll_103 104 rfl ?_
      refine z_iload hX dX2_takeAll_104 0 rfl 106 rfl ?_
      refine z_iadd hX dX2_takeAll_106 107 rfl ?_
      replace h := bd_elim h
      obtain ⟨s15, es15, h⟩ := h
      refine z_iast hX (inb_vp g14) dX2_takeAll_107 es15 108 rfl ?_
      refine z_iload_n hX dX2_takeAll_108 4 rfl 109 rfl ?_
      refine z_iload hX dX2_takeAll_109 0 rfl 111 rfl ?_
      refine z_isub hX dX2_takeAll_111 112 rfl ?_
      replace h := bd_elim h
      obtain ⟨x16, ex16, h⟩ := h
      refine z_nm ex16 ?_
      refine z_istore_n hX (lv2 := [(3, .int x16), (5, .int x10), (0, .ref (gL Γ (r))), (1, .int v1), (2, .int v2), (4, .int v4)]) dX2_takeAll_112 (by decide) rfl 113 rfl ?_
      refine z_iinc hX (v := (v4 + (nI 1))) (lv2 := [(4, .int ((v4 + (nI 1)))), (3, .int x16), (5, .int x10), (0, .ref (gL Γ (r))), (1, .int v1), (2, .int v2)]) dX2_takeAll_113 5 rfl rfl (by decide) rfl 116 rfl ?_
      refine z_goto hX 22 dX2_takeAll_116 (by decide) ?_
      replace h := Option.some.inj h
      subst h
      exact z_sub [3, 4, 5, 1, 0] rfl hk
set_option maxHeartbeats 4000000 in
set_option maxRecDepth 100000 in
theorem e_X2_takeAll_L4 {X : Cx} {Γ : Gm} {r0 : Rb} (hX : Amb X Γ cX2_takeAll RX2 6 (some .int) 1) {r : Nat} {v1 : Int32} {v2 : Int32} {s : St} {t : (Int32 × Int32 × St) ⊕ (Int32 × St)} (h : f_X2_takeAll_L4 r v1 v2 s = some t) (hk : (Sum.elim (fun q : Int32 × Int32 × St => Zw X Γ 6 r0 q.2.2 4 [(0, .ref (gL Γ (r))), (1, .int q.1), (2, .int q.2.1)] []) (fun t : Int32 × St => Rt X Γ r0 (some (Value.int t.1), t.2))) t) : Zw X Γ 6 r0 s 4 [(0, .ref (gL Γ (r))), (1, .int v1), (2, .int v2)] [] := by
  unfold f_X2_takeAll_L4 at h
  refine z_iload_n hX dX2_takeAll_4 2 rfl 5 rfl ?_
  refine z_aload_n hX dX2_takeAll_5 0 rfl 6 rfl ?_
  replace h := gd_elim h
  obtain ⟨g1, h⟩ := h
  refine z_get2 hX (k := r) (j := 1) (v := .int ((s.1 r 1))) g1 (by decide) rfl dX2_takeAll_6 fl_X2_15 9 rfl ?_
  refine z_icmp_ge hX 136 dX2_takeAll_9 (by decide) 12 rfl (fun c2 => ?_) (fun c2 => ?_)
  · replace h := br_pos h c2
    refine z_iload_n hX dX2_takeAll_136 1 rfl 137 rfl ?_
    replace h := Option.some.inj h
    subst h
    exact z_iret hX dX2_takeAll_137 rfl hk
  · replace h := br_neg h c2
    refine z_aload_n hX dX2_takeAll_12 0 rfl 13 rfl ?_
    refine z_get2 hX (k := r) (j := 11) (v := .ref (gL Γ (r + 9))) g1 (by decide) rfl dX2_takeAll_13 fl_X2_46 16 rfl ?_
    refine z_iload_n hX dX2_takeAll_16 2 rfl 17 rfl ?_
    replace h := gd_elim h
    obtain ⟨g3, h⟩ := h
    refine z_iald hX (inb_vp g3) dX2_takeAll_17 18 rfl ?_
    replace h := bd_elim h
    obtain ⟨x4, ex4, h⟩ := h
    refine z_nm ex4 ?_
    refine z_istore_n hX (lv2 := [(3, .int x4), (0, .ref (gL Γ (r))), (1, .int v1), (2, .int v2)]) dX2_takeAll_18 (by decide) rfl 19 rfl ?_
    refine z_iconst hX (v := (nI 0)) dX2_takeAll_19 rfl 20 rfl ?_
    refine z_istore hX (lv2 := [(4, .int ((nI 0))), (3, .int x4), (0, .ref (gL Γ (r))), (1, .int v1), (2, .int v2)]) dX2_takeAll_20 (by decide) rfl 22 rfl ?_
    exact z_sub [2, 3, 4, 1, 0] rfl (lp_ok (Z := fun q : Int32 × Int32 × St => Zw X Γ 6 r0 q.2.2 22 [(0, .ref (gL Γ (r))), (1, .int v1), (2, .int v2), (3, .int q.1), (4, .int q.2.1)] []) (fun q t h hk => e_X2_takeAll_L22 hX h hk) Fu _ _ h hk)
set_option maxHeartbeats 4000000 in
set_option maxRecDepth 100000 in
theorem e_X2_takeAll {X : Cx} {Γ : Gm} {r0 : Rb} (hX : Amb X Γ cX2_takeAll RX2 6 (some .int) 1) {r : Nat} {s : St} {t : Int32 × St} (h : f_X2_takeAll r s = some t) (hk : (fun t : Int32 × St => Rt X Γ r0 (some (Value.int t.1), t.2)) t) : Zw X Γ 6 r0 s 0 [(0, .ref (gL Γ (r)))] [] := by
  unfold f_X2_takeAll at h
  refine z_iconst hX (v := (nI 0)) dX2_takeAll_0 rfl 1 rfl ?_
  refine z_istore_n hX (lv2 := [(1, .int ((nI 0))), (0, .ref (gL Γ (r)))]) dX2_takeAll_1 (by decide) rfl 2 rfl ?_
  refine z_iconst hX (v := (nI 0)) dX2_takeAll_2 rfl 3 rfl ?_
  refine z_istore_n hX (lv2 := [(2, .int ((nI 0))), (1, .int ((nI 0))), (0, .ref (gL Γ (r)))]) dX2_takeAll_3 (by decide) rfl 4 rfl ?_
  exact z_sub [2, 1, 0] rfl (lp_ok (Z := fun q : Int32 × Int32 × St => Zw X Γ 6 r0 q.2.2 4 [(0, .ref (gL Γ (r))), (1, .int q.1), (2, .int q.2.1)] []) (fun q t h hk => e_X2_takeAll_L4 hX h hk) Fu _ _ h hk)
theorem c_X2_takeAll {lc : Launch} {Γ : Gm} {r : Nat} {s s2 : St} {v : Int32} (h : f_X2_takeAll r s = some (v, s2)) : Ct lc Γ yX2_takeAll cX2_takeAll 6 (some .int) 1 [.ref (gL Γ (r))] s (some (.int v), s2) := Ct.of (by decide +kernel) (Nat.le_of_ble_eq_true rfl) (fun X hl hX => e_X2_takeAll hX h rfl)
theorem dX2_moved_0 : decode cX2_moved 0 = .ok (.iload_n 1, 1) := by decide +kernel
theorem dX2_moved_1 : decode cX2_moved 1 = .ok (.iconst 1, 1) := by decide +kernel
theorem dX2_moved_2 : decode cX2_moved 2 = .ok (.iadd, 1) := by decide +kernel
theorem dX2_moved_3 : decode cX2_moved 3 = .ok (.iconst 2, 1) := by decide +kernel
theorem dX2_moved_4 : decode cX2_moved 4 = .ok (.idiv, 1) := by decide +kernel
theorem dX2_moved_5 : decode cX2_moved 5 = .ok (.istore_n 2, 1) := by decide +kernel
theorem dX2_moved_6 : decode cX2_moved 6 = .ok (.iload_n 0, 1) := by decide +kernel
theorem dX2_moved_7 : decode cX2_moved 7 = .ok (.tableswitch 33 0 2 #[25, 27, 31], 25) := by decide +kernel
theorem dX2_moved_32 : decode cX2_moved 32 = .ok (.iload_n 2, 1) := by decide +kernel
theorem dX2_moved_33 : decode cX2_moved 33 = .ok (.ireturn, 1) := by decide +kernel
theorem dX2_moved_34 : decode cX2_moved 34 = .ok (.iload_n 2, 1) := by decide +kernel
theorem dX2_moved_35 : decode cX2_moved 35 = .ok (.iconst 2, 1) := by decide +kernel
theorem dX2_moved_36 : decode cX2_moved 36 = .ok (.idiv, 1) := by decide +kernel
theorem dX2_moved_37 : decode cX2_moved 37 = .ok (.ireturn, 1) := by decide +kernel
theorem dX2_moved_38 : decode cX2_moved 38 = .ok (.iload_n 1, 1) := by decide +kernel
theorem dX2_moved_39 : decode cX2_moved 39 = .ok (.ireturn, 1) := by decide +kernel
theorem dX2_moved_40 : decode cX2_moved 40 = .ok (.iload_n 1, 1) := by decide +kernel
theorem dX2_moved_41 : decode cX2_moved 41 = .ok (.iload_n 2, 1) := by decide +kernel
theorem dX2_moved_42 : decode cX2_moved 42 = .ok (.iconst 2, 1) := by decide +kernel
theorem dX2_moved_43 : decode cX2_moved 43 = .ok (.idiv, 1) := by decide +kernel
theorem dX2_moved_44 : decode cX2_moved 44 = .ok (.iconst 1, 1) := by decide +kernel
theorem dX2_moved_45 : decode cX2_moved 45 = .ok (.iadd, 1) := by decide +kernel
theorem dX2_moved_46 : decode cX2_moved 46 = .ok (.invokestatic 106, 3) := by decide +kernel
theorem dX2_moved_49 : decode cX2_moved 49 = .ok (.ireturn, 1) := by decide +kernel
def f_X2_moved (a0 : Int32) (a1 : Int32) (s : St) : Option (Int32 × St) := bd ((a1 + (nI 1)) / (nI 2)) (fun x1 => if a0 = (nI 0) then (some ((x1, s))) else (if a0 = (nI 1) then (some (((x1 / (nI 2)), s))) else (if a0 = (nI 2) then (some ((a1, s))) else (if (a0).toInt < 0 ∨ 2 < (a0).toInt then (some (((if ((x1 / (nI 2)) + (nI 1)) < a1 then ((x1 / (nI 2)) + (nI 1)) else a1), s))) else none))))
set_option maxHeartbeats 4000000 in
set_option maxRecDepth 100000 in
theorem e_X2_moved {X : Cx} {Γ : Gm} {r0 : Rb} (hX : Amb X Γ cX2_moved RX2 3 (some .int) 1) {a0 : Int32} {a1 : Int32} {s : St} {t : Int32 × St} (h : f_X2_moved a0 a1 s = some t) (hk : (fun t : Int32 × St => Rt X Γ r0 (some (Value.int t.1), t.2)) t) : Zw X Γ 3 r0 s 0 [(0, .int a0), (1, .int a1)] [] := by
  unfold f_X2_moved at h
  refine z_iload_n hX dX2_moved_0 1 rfl 1 rfl ?_
  refine z_iconst hX (v := (nI 1)) dX2_moved_1 rfl 2 rfl ?_
  refine z_iadd hX dX2_moved_2 3 rfl ?_
  refine z_iconst hX (v := (nI 2)) dX2_moved_3 rfl 4 rfl ?_
  refine z_idiv hX dX2_moved_4 (by decide) 5 rfl ?_
  replace h := bd_elim h
  obtain ⟨x1, ex1, h⟩ := h
  refine z_nm ex1 ?_
  refine z_istore_n hX (lv2 := [(2, .int x1), (0, .int a0), (1, .int a1)]) dX2_moved_5 (by decide) rfl 6 rfl ?_
  refine z_iload_n hX dX2_moved_6 1 rfl 7 rfl ?_
  by_cases c2 : a0 = (nI 0)
  · replace h := br_pos h c2
    refine z_tcase hX (off := 25) 32 dX2_moved_7 (nI 0) c2 (by decide) (by decide) ?_
    refine z_iload_n hX dX2_moved_32 0 rfl 33 rfl ?_
    replace h := Option.some.inj h
    subst h
    exact z_iret hX dX2_moved_33 rfl hk
  replace h := br_neg h c2
  by_cases c3 : a0 = (nI 1)
  · replace h := br_pos h c3
    refine z_tcase hX (off := 27) 34 dX2_moved_7 (nI 1) c3 (by decide) (by decide) ?_
    refine z_iload_n hX dX2_moved_34 0 rfl 35 rfl ?_
    refine z_iconst hX (v := (nI 2)) dX2_moved_35 rfl 36 rfl ?_
    refine z_idiv hX dX2_moved_36 (by decide) 37 rfl ?_
    replace h := Option.some.inj h
    subst h
    exact z_iret hX dX2_moved_37 rfl hk
  replace h := br_neg h c3
  by_cases c4 : a0 = (nI 2)
  · replace h := br_pos h c4
    refine z_tcase hX (off := 31) 38 dX2_moved_7 (nI 2) c4 (by decide) (by decide) ?_
    refine z_iload_n hX dX2_moved_38 2 rfl 39 rfl ?_
    replace h := Option.some.inj h
    subst h
    exact z_iret hX dX2_moved_39 rfl hk
  replace h := br_neg h c4
  replace h := gd_elim h
  obtain ⟨g5, h⟩ := h
  refine z_tdef hX 40 dX2_moved_7 g5 (by decide) ?_
  refine z_iload_n hX dX2_moved_40 2 rfl 41 rfl ?_
  refine z_iload_n hX dX2_moved_41 0 rfl 42 rfl ?_
  refine z_iconst hX (v := (nI 2)) dX2_moved_42 rfl 43 rfl ?_
  refine z_idiv hX dX2_moved_43 (by decide) 44 rfl ?_
  refine z_iconst hX (v := (nI 1)) dX2_moved_44 rfl 45 rfl ?_
  refine z_iadd hX dX2_moved_45 46 rfl ?_
  refine z_mmin hX ml_X2_106 st_min in_Math co_min (by decide) (by decide) dX2_moved_46 49 rfl ?_
  replace h := Option.some.inj h
  subst h
  exact z_iret hX dX2_moved_49 rfl hk
theorem c_X2_moved {lc : Launch} {Γ : Gm} {a0 : Int32} {a1 : Int32} {s s2 : St} {v : Int32} (h : f_X2_moved a0 a1 s = some (v, s2)) : Ct lc Γ yX2_moved cX2_moved 3 (some .int) 1 [.int a0, .int a1] s (some (.int v), s2) := Ct.of (by decide +kernel) (Nat.le_of_ble_eq_true rfl) (fun X hl hX => e_X2_moved hX h rfl)
theorem dX2_beside_0 : decode cX2_beside 0 = .ok (.iload_n 0, 1) := by decide +kernel
theorem dX2_beside_1 : decode cX2_beside 1 = .ok (.iconst 4, 1) := by decide +kernel
theorem dX2_beside_2 : decode cX2_beside 2 = .ok (.idiv, 1) := by decide +kernel
theorem dX2_beside_3 : decode cX2_beside 3 = .ok (.istore_n 2, 1) := by decide +kernel
theorem dX2_beside_4 : decode cX2_beside 4 = .ok (.iload_n 0, 1) := by decide +kernel
theorem dX2_beside_5 : decode cX2_beside 5 = .ok (.iconst 4, 1) := by decide +kernel
theorem dX2_beside_6 : decode cX2_beside 6 = .ok (.irem, 1) := by decide +kernel
theorem dX2_beside_7 : decode cX2_beside 7 = .ok (.istore_n 3, 1) := by decide +kernel
theorem dX2_beside_8 : decode cX2_beside 8 = .ok (.iload_n 1, 1) := by decide +kernel
theorem dX2_beside_9 : decode cX2_beside 9 = .ok (.tableswitch 81 1 4 #[31, 44, 56, 69], 31) := by decide +kernel
theorem dX2_beside_40 : decode cX2_beside 40 = .ok (.iload_n 2, 1) := by decide +kernel
theorem dX2_beside_41 : decode cX2_beside 41 = .ok (.iconst 4, 1) := by decide +kernel
theorem dX2_beside_42 : decode cX2_beside 42 = .ok (.if_icmp .ge 9, 3) := by decide +kernel
theorem dX2_beside_45 : decode cX2_beside 45 = .ok (.iload_n 0, 1) := by decide +kernel
theorem dX2_beside_46 : decode cX2_beside 46 = .ok (.iconst 4, 1) := by decide +kernel
theorem dX2_beside_47 : decode cX2_beside 47 = .ok (.iadd, 1) := by decide +kernel
theorem dX2_beside_48 : decode cX2_beside 48 = .ok (.goto 4, 3) := by decide +kernel
theorem dX2_beside_51 : decode cX2_beside 51 = .ok (.iconst (-1), 1) := by decide +kernel
theorem dX2_beside_52 : decode cX2_beside 52 = .ok (.ireturn, 1) := by decide +kernel
theorem dX2_beside_53 : decode cX2_beside 53 = .ok (.iload_n 2, 1) := by decide +kernel
theorem dX2_beside_54 : decode cX2_beside 54 = .ok (.ifCond .le 9, 3) := by decide +kernel
theorem dX2_beside_57 : decode cX2_beside 57 = .ok (.iload_n 0, 1) := by decide +kernel
theorem dX2_beside_58 : decode cX2_beside 58 = .ok (.iconst 4, 1) := by decide +kernel
theorem dX2_beside_59 : decode cX2_beside 59 = .ok (.isub, 1) := by decide +kernel
theorem dX2_beside_60 : decode cX2_beside 60 = .ok (.goto 4, 3) := by decide +kernel
theorem dX2_beside_63 : decode cX2_beside 63 = .ok (.iconst (-1), 1) := by decide +kernel
theorem dX2_beside_64 : decode cX2_beside 64 = .ok (.ireturn, 1) := by decide +kernel
theorem dX2_beside_65 : decode cX2_beside 65 = .ok (.iload_n 3, 1) := by decide +kernel
theorem dX2_beside_66 : decode cX2_beside 66 = .ok (.iconst 3, 1) := by decide +kernel
theorem dX2_beside_67 : decode cX2_beside 67 = .ok (.if_icmp .ge 9, 3) := by decide +kernel
theorem dX2_beside_70 : decode cX2_beside 70 = .ok (.iload_n 0, 1) := by decide +kernel
theorem dX2_beside_71 : decode cX2_beside 71 = .ok (.iconst 1, 1) := by decide +kernel
theorem dX2_beside_72 : decode cX2_beside 72 = .ok (.iadd, 1) := by decide +kernel
theorem dX2_beside_73 : decode cX2_beside 73 = .ok (.goto 4, 3) := by decide +kernel
theorem dX2_beside_76 : decode cX2_beside 76 = .ok (.iconst (-1), 1) := by decide +kernel
theorem dX2_beside_77 : decode cX2_beside 77 = .ok (.ireturn, 1) := by decide +kernel
theorem dX2_beside_78 : decode cX2_beside 78 = .ok (.iload_n 3, 1) := by decide +kernel
theorem dX2_beside_79 : decode cX2_beside 79 = .ok (.ifCond .le 9, 3) := by decide +kernel
theorem dX2_beside_82 : decode cX2_beside 82 = .ok (.iload_n 0, 1) := by decide +kernel
theorem dX2_beside_83 : decode cX2_beside 83 = .ok (.iconst 1, 1) := by decide +kernel
theorem dX2_beside_84 : decode cX2_beside 84 = .ok (.isub, 1) := by decide +kernel
theorem dX2_beside_85 : decode cX2_beside 85 = .ok (.goto 4, 3) := by decide +kernel
theorem dX2_beside_88 : decode cX2_beside 88 = .ok (.iconst (-1), 1) := by decide +kernel
theorem dX2_beside_89 : decode cX2_beside 89 = .ok (.ireturn, 1) := by decide +kernel
theorem dX2_beside_90 : decode cX2_beside 90 = .ok (.iload_n 0, 1) := by decide +kernel
theorem dX2_beside_91 : decode cX2_beside 91 = .ok (.ireturn, 1) := by decide +kernel
def f_X2_beside (a0 : Int32) (a1 : Int32) (s : St) : Option (Int32 × St) := bd (a0 / (nI 4)) (fun x1 => bd (a0 - a0 / (nI 4) * (nI 4)) (fun x2 => if a1 = (nI 1) then (if (nI 4) ≤ x1 then (some (((-1), s))) else (some (((a0 + (nI 4)), s)))) else (if a1 = (nI 2) then (if x1 ≤ 0 then (some (((-1), s))) else (some (((a0 - (nI 4)), s)))) else (if a1 = (nI 3) then (if (nI 3) ≤ x2 then (some (((-1), s))) else (some (((a0 + (nI 1)), s)))) else (if a1 = (nI 4) then (if x2 ≤ 0 then (some (((-1), s))) else (some (((a0 - (nI 1)), s)))) else (if (a1).toInt < 1 ∨ 4 < (a1).toInt then (some ((a0, s))) else none))))))
set_option maxHeartbeats 4000000 in
set_option maxRecDepth 100000 in
theorem e_X2_beside {X : Cx} {Γ : Gm} {r0 : Rb} (hX : Amb X Γ cX2_beside RX2 4 (some .int) 0) {a0 : Int32} {a1 : Int32} {s : St} {t : Int32 × St} (h : f_X2_beside a0 a1 s = some t) (hk : (fun t : Int32 × St => Rt X Γ r0 (some (Value.int t.1), t.2)) t) : Zw X Γ 4 r0 s 0 [(0, .int a0), (1, .int a1)] [] := by
  unfold f_X2_beside at h
  refine z_iload_n hX dX2_beside_0 0 rfl 1 rfl ?_
  refine z_iconst hX (v := (nI 4)) dX2_beside_1 rfl 2 rfl ?_
  refine z_idiv hX dX2_beside_2 (by decide) 3 rfl ?_
  replace h := bd_elim h
  obtain ⟨x1, ex1, h⟩ := h
  refine z_nm ex1 ?_
  refine z_istore_n hX (lv2 := [(2, .int x1), (0, .int a0), (1, .int a1)]) dX2_beside_3 (by decide) rfl 4 rfl ?_
  refine z_iload_n hX dX2_beside_4 1 rfl 5 rfl ?_
  refine z_iconst hX (v := (nI 4)) dX2_beside_5 rfl 6 rfl ?_
  refine z_irem hX dX2_beside_6 (by decide) 7 rfl ?_
  replace h := bd_elim h
  obtain ⟨x2, ex2, h⟩ := h
  refine z_nm ex2 ?_
  refine z_istore_n hX (lv2 := [(3, .int x2), (2, .int x1), (0, .int a0), (1, .int a1)]) dX2_beside_7 (by decide) rfl 8 rfl ?_
  refine z_iload_n hX dX2_beside_8 3 rfl 9 rfl ?_
  by_cases c3 : a1 = (nI 1)
  · replace h := br_pos h c3
    refine z_tcase hX (off := 31) 40 dX2_beside_9 (nI 1) c3 (by decide) (by decide) ?_
    refine z_iload_n hX dX2_beside_40 1 rfl 41 rfl ?_
    refine z_iconst hX (v := (nI 4)) dX2_beside_41 rfl 42 rfl ?_
    refine z_icmp_ge hX 51 dX2_beside_42 (by decide) 45 rfl (fun c4 => ?_) (fun c4 => ?_)
    · replace h := br_pos h c4
      refine z_iconst hX (v := (-1)) dX2_beside_51 rfl 52 rfl ?_
      replace h := Option.some.inj h
      subst h
      exact z_iret hX dX2_beside_52 rfl hk
    · replace h := br_neg h c4
      refine z_iload_n hX dX2_beside_45 2 rfl 46 rfl ?_
      refine z_iconst hX (v := (nI 4)) dX2_beside_46 rfl 47 rfl ?_
      refine z_iadd hX dX2_beside_47 48 rfl ?_
      refine z_goto hX 52 dX2_beside_48 (by decide) ?_
      replace h := Option.some.inj h
      subst h
      exact z_iret hX dX2_beside_52 rfl hk
  replace h := br_neg h c3
  by_cases c5 : a1 = (nI 2)
  · replace h := br_pos h c5
    refine z_tcase hX (off := 44) 53 dX2_beside_9 (nI 2) c5 (by decide) (by decide) ?_
    refine z_iload_n hX dX2_beside_53 1 rfl 54 rfl ?_
    refine z_if_le hX 63 dX2_beside_54 (by decide) 57 rfl (fun c6 => ?_) (fun c6 => ?_)
    · replace h := br_pos h c6
      refine z_iconst hX (v := (-1)) dX2_beside_63 rfl 64 rfl ?_
      replace h := Option.some.inj h
      subst h
      exact z_iret hX dX2_beside_64 rfl hk
    · replace h := br_neg h c6
      refine z_iload_n hX dX2_beside_57 2 rfl 58 rfl ?_
      refine z_iconst hX (v := (nI 4)) dX2_beside_58 rfl 59 rfl ?_
      refine z_isub hX dX2_beside_59 60 rfl ?_
      refine z_goto hX 64 dX2_beside_60 (by decide) ?_
      replace h := Option.some.inj h
      subst h
      exact z_iret hX dX2_beside_64 rfl hk
  replace h := br_neg h c5
  by_cases c7 : a1 = (nI 3)
  · replace h := br_pos h c7
    refine z_tcase hX (off := 56) 65 dX2_beside_9 (nI 3) c7 (by decide) (by decide) ?_
    refine z_iload_n hX dX2_beside_65 0 rfl 66 rfl ?_
    refine z_iconst hX (v := (nI 3)) dX2_beside_66 rfl 67 rfl ?_
    refine z_icmp_ge hX 76 dX2_beside_67 (by decide) 70 rfl (fun c8 => ?_) (fun c8 => ?_)
    · replace h := br_pos h c8
      refine z_iconst hX (v := (-1)) dX2_beside_76 rfl 77 rfl ?_
      replace h := Option.some.inj h
      subst h
      exact z_iret hX dX2_beside_77 rfl hk
    · replace h := br_neg h c8
      refine z_iload_n hX dX2_beside_70 2 rfl 71 rfl ?_
      refine z_iconst hX (v := (nI 1)) dX2_beside_71 rfl 72 rfl ?_
      refine z_iadd hX dX2_beside_72 73 rfl ?_
      refine z_goto hX 77 dX2_beside_73 (by decide) ?_
      replace h := Option.some.inj h
      subst h
      exact z_iret hX dX2_beside_77 rfl hk
  replace h := br_neg h c7
  by_cases c9 : a1 = (nI 4)
  · replace h := br_pos h c9
    refine z_tcase hX (off := 69) 78 dX2_beside_9 (nI 4) c9 (by decide) (by decide) ?_
    refine z_iload_n hX dX2_beside_78 0 rfl 79 rfl ?_
    refine z_if_le hX 88 dX2_beside_79 (by decide) 82 rfl (fun c10 => ?_) (fun c10 => ?_)
    · replace h := br_pos h c10
      refine z_iconst hX (v := (-1)) dX2_beside_88 rfl 89 rfl ?_
      replace h := Option.some.inj h
      subst h
      exact z_iret hX dX2_beside_89 rfl hk
    · replace h := br_neg h c10
      refine z_iload_n hX dX2_beside_82 2 rfl 83 rfl ?_
      refine z_iconst hX (v := (nI 1)) dX2_beside_83 rfl 84 rfl ?_
      refine z_isub hX dX2_beside_84 85 rfl ?_
      refine z_goto hX 89 dX2_beside_85 (by decide) ?_
      replace h := Option.some.inj h
      subst h
      exact z_iret hX dX2_beside_89 rfl hk
  replace h := br_neg h c9
  replace h := gd_elim h
  obtain ⟨g11, h⟩ := h
  refine z_tdef hX 90 dX2_beside_9 g11 (by decide) ?_
  refine z_iload_n hX dX2_beside_90 2 rfl 91 rfl ?_
  replace h := Option.some.inj h
  subst h
  exact z_iret hX dX2_beside_91 rfl hk
theorem c_X2_beside {lc : Launch} {Γ : Gm} {a0 : Int32} {a1 : Int32} {s s2 : St} {v : Int32} (h : f_X2_beside a0 a1 s = some (v, s2)) : Ct lc Γ yX2_beside cX2_beside 4 (some .int) 0 [.int a0, .int a1] s (some (.int v), s2) := Ct.of (by decide +kernel) (Nat.le_of_ble_eq_true rfl) (fun X hl hX => e_X2_beside hX h rfl)
theorem dX2_give_0 : decode cX2_give 0 = .ok (.iload_n 2, 1) := by decide +kernel
theorem dX2_give_1 : decode cX2_give 1 = .ok (.ifCond .ge 26, 3) := by decide +kernel
theorem dX2_give_4 : decode cX2_give 4 = .ok (.aload_n 0, 1) := by decide +kernel
theorem dX2_give_5 : decode cX2_give 5 = .ok (.getfield 34, 3) := by decide +kernel
theorem dX2_give_8 : decode cX2_give 8 = .ok (.iload_n 1, 1) := by decide +kernel
theorem dX2_give_9 : decode cX2_give 9 = .ok (.dup2, 1) := by decide +kernel
theorem dX2_give_10 : decode cX2_give 10 = .ok (.iaload, 1) := by decide +kernel
theorem dX2_give_11 : decode cX2_give 11 = .ok (.iload_n 3, 1) := by decide +kernel
theorem dX2_give_12 : decode cX2_give 12 = .ok (.iadd, 1) := by decide +kernel
theorem dX2_give_13 : decode cX2_give 13 = .ok (.iastore, 1) := by decide +kernel
theorem dX2_give_14 : decode cX2_give 14 = .ok (.aload_n 0, 1) := by decide +kernel
theorem dX2_give_15 : decode cX2_give 15 = .ok (.getfield 37, 3) := by decide +kernel
theorem dX2_give_18 : decode cX2_give 18 = .ok (.iload_n 1, 1) := by decide +kernel
theorem dX2_give_19 : decode cX2_give 19 = .ok (.dup2, 1) := by decide +kernel
theorem dX2_give_20 : decode cX2_give 20 = .ok (.iaload, 1) := by decide +kernel
theorem dX2_give_21 : decode cX2_give 21 = .ok (.iload_n 3, 1) := by decide +kernel
theorem dX2_give_22 : decode cX2_give 22 = .ok (.isub, 1) := by decide +kernel
theorem dX2_give_23 : decode cX2_give 23 = .ok (.iastore, 1) := by decide +kernel
theorem dX2_give_24 : decode cX2_give 24 = .ok (.goto 18, 3) := by decide +kernel
theorem dX2_give_27 : decode cX2_give 27 = .ok (.aload_n 0, 1) := by decide +kernel
theorem dX2_give_28 : decode cX2_give 28 = .ok (.getfield 40, 3) := by decide +kernel
theorem dX2_give_31 : decode cX2_give 31 = .ok (.iload_n 1, 1) := by decide +kernel
theorem dX2_give_32 : decode cX2_give 32 = .ok (.bipush 20, 2) := by decide +kernel
theorem dX2_give_34 : decode cX2_give 34 = .ok (.imul, 1) := by decide +kernel
theorem dX2_give_35 : decode cX2_give 35 = .ok (.iload_n 2, 1) := by decide +kernel
theorem dX2_give_36 : decode cX2_give 36 = .ok (.iadd, 1) := by decide +kernel
theorem dX2_give_37 : decode cX2_give 37 = .ok (.dup2, 1) := by decide +kernel
theorem dX2_give_38 : decode cX2_give 38 = .ok (.iaload, 1) := by decide +kernel
theorem dX2_give_39 : decode cX2_give 39 = .ok (.iload_n 3, 1) := by decide +kernel
theorem dX2_give_40 : decode cX2_give 40 = .ok (.iadd, 1) := by decide +kernel
theorem dX2_give_41 : decode cX2_give 41 = .ok (.iastore, 1) := by decide +kernel
theorem dX2_give_42 : decode cX2_give 42 = .ok (.return_, 1) := by decide +kernel
def f_X2_give (r : Nat) (a1 : Int32) (a2 : Int32) (a3 : Int32) (s : St) : Option (Unit × St) := if 0 ≤ a2 then (if kd (r) = 2 then if inb ((a1 * (nI 20)) + a2) (lnI (r + 7)) = true then bd (wI s (r + 7) (((a1 * (nI 20)) + a2)).toNatClampNeg ((s.1 (r + 7) (((a1 * (nI 20)) + a2)).toNatClampNeg) + a3)) (fun s4 => some (((), s4))) else none else none) else (if kd (r) = 2 then if inb a1 (lnI (r + 5)) = true then bd (wI s (r + 5) (a1).toNatClampNeg ((s.1 (r + 5) (a1).toNatClampNeg) + a3)) (fun s7 => if inb a1 (lnI (r + 6)) = true then bd (wI s7 (r + 6) (a1).toNatClampNeg ((s7.1 (r + 6) (a1).toNatClampNeg) - a3)) (fun s9 => some (((), s9))) else none) else none else none)
set_option maxHeartbeats 4000000 in
set_option maxRecDepth 100000 in
theorem e_X2_give {X : Cx} {Γ : Gm} {r0 : Rb} (hX : Amb X Γ cX2_give RX2 4 none 0) {r : Nat} {a1 : Int32} {a2 : Int32} {a3 : Int32} {s : St} {t : Unit × St} (h : f_X2_give r a1 a2 a3 s = some t) (hk : (fun t : Unit × St => Rt X Γ r0 (none, t.2)) t) : Zw X Γ 4 r0 s 0 [(0, .ref (gL Γ (r))), (1, .int a1), (2, .int a2), (3, .int a3)] [] := by
  unfold f_X2_give at h
  refine z_iload_n hX dX2_give_0 2 rfl 1 rfl ?_
  refine z_if_ge hX 27 dX2_give_1 (by decide) 4 rfl (fun c1 => ?_) (fun c1 => ?_)
  · replace h := br_pos h c1
    refine z_aload_n hX dX2_give_27 0 rfl 28 rfl ?_
    replace h := gd_elim h
    obtain ⟨g2, h⟩ := h
    refine z_get2 hX (k := r) (j := 9) (v := .ref (gL Γ (r + 7))) g2 (by decide) rfl dX2_give_28 fl_X2_40 31 rfl ?_
    refine z_iload_n hX dX2_give_31 1 rfl 32 rfl ?_
    refine z_bipush hX (v := (nI 20)) dX2_give_32 (by decide) 34 rfl ?_
    refine z_imul hX dX2_give_34 35 rfl ?_
    refine z_iload_n hX dX2_give_35 2 rfl 36 rfl ?_
    refine z_iadd hX dX2_give_36 37 rfl ?_
    refine z_dup2 hX dX2_give_37 rfl rfl 38 rfl ?_
    replace h := gd_elim h
    obtain ⟨g3, h⟩ := h
    refine z_iald hX (inb_vp g3) dX2_give_38 39 rfl ?_
    refine z_iload_n hX dX2_give_39 3 rfl 40 rfl ?_
    refine z_iadd hX dX2_give_40 41 rfl ?_
    replace h := bd_elim h
    obtain ⟨s4, es4, h⟩ := h
    refine z_iast hX (inb_vp g3) dX2_give_41 es4 42 rfl ?_
    replace h := Option.some.inj h
    subst h
    exact z_vret hX dX2_give_42 rfl hk
  · replace h := br_neg h c1
    refine z_aload_n hX dX2_give_4 0 rfl 5 rfl ?_
    replace h := gd_elim h
    obtain ⟨g5, h⟩ := h
    refine z_get2 hX (k := r) (j := 7) (v := .ref (gL Γ (r + 5))) g5 (by decide) rfl dX2_give_5 fl_X2_34 8 rfl ?_
    refine z_iload_n hX dX2_give_8 1 rfl 9 rfl ?_
    refine z_dup2 hX dX2_give_9 rfl rfl 10 rfl ?_
    replace h := gd_elim h
    obtain ⟨g6, h⟩ := h
    refine z_iald hX (inb_vp g6) dX2_give_10 11 rfl ?_
    refine z_iload_n hX dX2_give_11 3 rfl 12 rfl ?_
    refine z_iadd hX dX2_give_12 13 rfl ?_
    replace h := bd_elim h
    obtain ⟨s7, es7, h⟩ := h
    refine z_iast hX (inb_vp g6) dX2_give_13 es7 14 rfl ?_
    refine z_aload_n hX dX2_give_14 0 rfl 15 rfl ?_
    refine z_get2 hX (k := r) (j := 8) (v := .ref (gL Γ (r + 6))) g5 (by decide) rfl dX2_give_15 fl_X2_37 18 rfl ?_
    refine z_iload_n hX dX2_give_18 1 rfl 19 rfl ?_
    refine z_dup2 hX dX2_give_19 rfl rfl 20 rfl ?_
    replace h := gd_elim h
    obtain ⟨g8, h⟩ := h
    refine z_iald hX (inb_vp g8) dX2_give_20 21 rfl ?_
    refine z_iload_n hX dX2_give_21 3 rfl 22 rfl ?_
    refine z_isub hX dX2_give_22 23 rfl ?_
    replace h := bd_elim h
    obtain ⟨s9, es9, h⟩ := h
    refine z_iast hX (inb_vp g8) dX2_give_23 es9 24 rfl ?_
    refine z_goto hX 42 dX2_give_24 (by decide) ?_
    replace h := Option.some.inj h
    subst h
    exact z_vret hX dX2_give_42 rfl hk
theorem c_X2_give {lc : Launch} {Γ : Gm} {r : Nat} {a1 : Int32} {a2 : Int32} {a3 : Int32} {s s2 : St} {v : Unit} (h : f_X2_give r a1 a2 a3 s = some (v, s2)) : Ct lc Γ yX2_give cX2_give 4 none 0 [.ref (gL Γ (r)), .int a1, .int a2, .int a3] s (none, s2) := Ct.of (by decide +kernel) (Nat.le_of_ble_eq_true rfl) (fun X hl hX => e_X2_give hX h rfl)
theorem dX2_carry_0 : decode cX2_carry 0 = .ok (.iload_n 1, 1) := by decide +kernel
theorem dX2_carry_1 : decode cX2_carry 1 = .ok (.ifCond .ne 4, 3) := by decide +kernel
theorem dX2_carry_4 : decode cX2_carry 4 = .ok (.return_, 1) := by decide +kernel
theorem dX2_carry_5 : decode cX2_carry 5 = .ok (.iload_n 1, 1) := by decide +kernel
theorem dX2_carry_6 : decode cX2_carry 6 = .ok (.iconst 1, 1) := by decide +kernel
theorem dX2_carry_7 : decode cX2_carry 7 = .ok (.if_icmp .eq 8, 3) := by decide +kernel
theorem dX2_carry_10 : decode cX2_carry 10 = .ok (.iload_n 1, 1) := by decide +kernel
theorem dX2_carry_11 : decode cX2_carry 11 = .ok (.iconst 3, 1) := by decide +kernel
theorem dX2_carry_12 : decode cX2_carry 12 = .ok (.if_icmp .ne 7, 3) := by decide +kernel
theorem dX2_carry_15 : decode cX2_carry 15 = .ok (.iconst 1, 1) := by decide +kernel
theorem dX2_carry_16 : decode cX2_carry 16 = .ok (.goto 4, 3) := by decide +kernel
theorem dX2_carry_19 : decode cX2_carry 19 = .ok (.iconst 0, 1) := by decide +kernel
theorem dX2_carry_20 : decode cX2_carry 20 = .ok (.istore_n 2, 1) := by decide +kernel
theorem dX2_carry_21 : decode cX2_carry 21 = .ok (.iconst 0, 1) := by decide +kernel
theorem dX2_carry_22 : decode cX2_carry 22 = .ok (.istore_n 3, 1) := by decide +kernel
theorem dX2_carry_23 : decode cX2_carry 23 = .ok (.iload_n 3, 1) := by decide +kernel
theorem dX2_carry_24 : decode cX2_carry 24 = .ok (.aload_n 0, 1) := by decide +kernel
theorem dX2_carry_25 : decode cX2_carry 25 = .ok (.getfield 9, 3) := by decide +kernel
theorem dX2_carry_28 : decode cX2_carry 28 = .ok (.if_icmp .ge 132, 3) := by decide +kernel
theorem dX2_carry_31 : decode cX2_carry 31 = .ok (.aload_n 0, 1) := by decide +kernel
theorem dX2_carry_32 : decode cX2_carry 32 = .ok (.getfield 37, 3) := by decide +kernel
theorem dX2_carry_35 : decode cX2_carry 35 = .ok (.iload_n 3, 1) := by decide +kernel
theorem dX2_carry_36 : decode cX2_carry 36 = .ok (.iaload, 1) := by decide +kernel
theorem dX2_carry_37 : decode cX2_carry 37 = .ok (.istore 4, 2) := by decide +kernel
theorem dX2_carry_39 : decode cX2_carry 39 = .ok (.iconst 0, 1) := by decide +kernel
theorem dX2_carry_40 : decode cX2_carry 40 = .ok (.istore 5, 2) := by decide +kernel
theorem dX2_carry_42 : decode cX2_carry 42 = .ok (.iload 5, 2) := by decide +kernel
theorem dX2_carry_44 : decode cX2_carry 44 = .ok (.bipush 20, 2) := by decide +kernel
theorem dX2_carry_46 : decode cX2_carry 46 = .ok (.if_icmp .ge 108, 3) := by decide +kernel
theorem dX2_carry_49 : decode cX2_carry 49 = .ok (.iload 4, 2) := by decide +kernel
theorem dX2_carry_51 : decode cX2_carry 51 = .ok (.ifCond .le 103, 3) := by decide +kernel
theorem dX2_carry_54 : decode cX2_carry 54 = .ok (.iload_n 2, 1) := by decide +kernel
theorem dX2_carry_55 : decode cX2_carry 55 = .ok (.ifCond .eq 11, 3) := by decide +kernel
theorem dX2_carry_58 : decode cX2_carry 58 = .ok (.bipush 19, 2) := by decide +kernel
theorem dX2_carry_60 : decode cX2_carry 60 = .ok (.iload 5, 2) := by decide +kernel
theorem dX2_carry_62 : decode cX2_carry 62 = .ok (.isub, 1) := by decide +kernel
theorem dX2_carry_63 : decode cX2_carry 63 = .ok (.goto 5, 3) := by decide +kernel
theorem dX2_carry_66 : decode cX2_carry 66 = .ok (.iload 5, 2) := by decide +kernel
theorem dX2_carry_68 : decode cX2_carry 68 = .ok (.istore 6, 2) := by decide +kernel
theorem dX2_carry_70 : decode cX2_carry 70 = .ok (.aload_n 0, 1) := by decide +kernel
theorem dX2_carry_71 : decode cX2_carry 71 = .ok (.getfield 40, 3) := by decide +kernel
theorem dX2_carry_74 : decode cX2_carry 74 = .ok (.iload_n 3, 1) := by decide +kernel
theorem dX2_carry_75 : decode cX2_carry 75 = .ok (.bipush 20, 2) := by decide +kernel
theorem dX2_carry_77 : decode cX2_carry 77 = .ok (.imul, 1) := by decide +kernel
theorem dX2_carry_78 : decode cX2_carry 78 = .ok (.iload 6, 2) := by decide +kernel
theorem dX2_carry_80 : decode cX2_carry 80 = .ok (.iadd, 1) := by decide +kernel
theorem dX2_carry_81 : decode cX2_carry 81 = .ok (.iaload, 1) := by decide +kernel
theorem dX2_carry_82 : decode cX2_carry 82 = .ok (.istore 7, 2) := by decide +kernel
theorem dX2_carry_84 : decode cX2_carry 84 = .ok (.iload 7, 2) := by decide +kernel
theorem dX2_carry_86 : decode cX2_carry 86 = .ok (.ifCond .le 17, 3) := by decide +kernel
theorem dX2_carry_89 : decode cX2_carry 89 = .ok (.aload_n 0, 1) := by decide +kernel
theorem dX2_carry_90 : decode cX2_carry 90 = .ok (.getfield 21, 3) := by decide +kernel
theorem dX2_carry_93 : decode cX2_carry 93 = .ok (.iload_n 3, 1) := by decide +kernel
theorem dX2_carry_94 : decode cX2_carry 94 = .ok (.iaload, 1) := by decide +kernel
theorem dX2_carry_95 : decode cX2_carry 95 = .ok (.iload 7, 2) := by decide +kernel
theorem dX2_carry_97 : decode cX2_carry 97 = .ok (.invokestatic 111, 3) := by decide +kernel
theorem dX2_carry_100 : decode cX2_carry 100 = .ok (.goto 4, 3) := by decide +kernel
theorem dX2_carry_103 : decode cX2_carry 103 = .ok (.iconst 0, 1) := by decide +kernel
theorem dX2_carry_104 : decode cX2_carry 104 = .ok (.istore 8, 2) := by decide +kernel
theorem dX2_carry_106 : decode cX2_carry 106 = .ok (.iload 4, 2) := by decide +kernel
theorem dX2_carry_108 : decode cX2_carry 108 = .ok (.iload 7, 2) := by decide +kernel
theorem dX2_carry_110 : decode cX2_carry 110 = .ok (.isub, 1) := by decide +kernel
theorem dX2_carry_111 : decode cX2_carry 111 = .ok (.istore 4, 2) := by decide +kernel
theorem dX2_carry_113 : decode cX2_carry 113 = .ok (.iload 8, 2) := by decide +kernel
theorem dX2_carry_115 : decode cX2_carry 115 = .ok (.ifCond .le 33, 3) := by decide +kernel
theorem dX2_carry_118 : decode cX2_carry 118 = .ok (.aload_n 0, 1) := by decide +kernel
theorem dX2_carry_119 : decode cX2_carry 119 = .ok (.getfield 40, 3) := by decide +kernel
theorem dX2_carry_122 : decode cX2_carry 122 = .ok (.iload_n 3, 1) := by decide +kernel
theorem dX2_carry_123 : decode cX2_carry 123 = .ok (.bipush 20, 2) := by decide +kernel
theorem dX2_carry_125 : decode cX2_carry 125 = .ok (.imul, 1) := by decide +kernel
theorem dX2_carry_126 : decode cX2_carry 126 = .ok (.iload 6, 2) := by decide +kernel
theorem dX2_carry_128 : decode cX2_carry 128 = .ok (.iadd, 1) := by decide +kernel
theorem dX2_carry_129 : decode cX2_carry 129 = .ok (.dup2, 1) := by decide +kernel
theorem dX2_carry_130 : decode cX2_carry 130 = .ok (.iaload, 1) := by decide +kernel
theorem dX2_carry_131 : decode cX2_carry 131 = .ok (.iload 8, 2) := by decide +kernel
theorem dX2_carry_133 : decode cX2_carry 133 = .ok (.isub, 1) := by decide +kernel
theorem dX2_carry_134 : decode cX2_carry 134 = .ok (.iastore, 1) := by decide +kernel
theorem dX2_carry_135 : decode cX2_carry 135 = .ok (.aload_n 0, 1) := by decide +kernel
theorem dX2_carry_136 : decode cX2_carry 136 = .ok (.iload_n 3, 1) := by decide +kernel
theorem dX2_carry_137 : decode cX2_carry 137 = .ok (.iload 6, 2) := by decide +kernel
theorem dX2_carry_139 : decode cX2_carry 139 = .ok (.iload_n 1, 1) := by decide +kernel
theorem dX2_carry_140 : decode cX2_carry 140 = .ok (.invokestatic 114, 3) := by decide +kernel
theorem dX2_carry_143 : decode cX2_carry 143 = .ok (.iload 8, 2) := by decide +kernel
theorem dX2_carry_145 : decode cX2_carry 145 = .ok (.invokevirtual 117, 3) := by decide +kernel
theorem dX2_carry_148 : decode cX2_carry 148 = .ok (.iinc 5 1, 3) := by decide +kernel
theorem dX2_carry_151 : decode cX2_carry 151 = .ok (.goto (-109), 3) := by decide +kernel
theorem dX2_carry_154 : decode cX2_carry 154 = .ok (.iinc 3 1, 3) := by decide +kernel
theorem dX2_carry_157 : decode cX2_carry 157 = .ok (.goto (-134), 3) := by decide +kernel
theorem dX2_carry_160 : decode cX2_carry 160 = .ok (.return_, 1) := by decide +kernel
def f_X2_carry_J104 (r : Nat) (v1 : Int32) (v2 : Int32) (v3 : Int32) (v4 : Int32) (v5 : Int32) (v6 : Int32) (v7 : Int32) (k0 : Int32) (s : St) : Option ((Int32 × Int32 × St) ⊕ ((Int32 × St) ⊕ (Unit × St))) := bd (v4 - v7) (fun x18 => if k0 ≤ 0 then (some (Sum.inl (x18, (v5 + (nI 1)), s))) else (if kd (r) = 2 then if inb ((v3 * (nI 20)) + v6) (lnI (r + 7)) = true then bd (wI s (r + 7) (((v3 * (nI 20)) + v6)).toNatClampNeg ((s.1 (r + 7) (((v3 * (nI 20)) + v6)).toNatClampNeg) - k0)) (fun s22 => cl (f_X2_beside v6 v1 s22) (fun x24 s23 => cl (f_X2_give r v3 x24 k0 s23) (fun x26 s25 => some (Sum.inl (x18, (v5 + (nI 1)), s25))))) else none else none))
def f_X2_carry_J68 (r : Nat) (v1 : Int32) (v2 : Int32) (v3 : Int32) (v4 : Int32) (v5 : Int32) (k0 : Int32) (s : St) : Option ((Int32 × Int32 × St) ⊕ ((Int32 × St) ⊕ (Unit × St))) := if kd (r) = 2 then if inb ((v3 * (nI 20)) + k0) (lnI (r + 7)) = true then bd (s.1 (r + 7) (((v3 * (nI 20)) + k0)).toNatClampNeg) (fun x13 => if x13 ≤ 0 then (f_X2_carry_J104 r v1 v2 v3 v4 v5 k0 x13 (nI 0) s) else (if inb v3 (lnI (r + 1)) = true then cl (f_X2_moved (s.1 (r + 1) (v3).toNatClampNeg) x13 s) (fun x17 s16 => f_X2_carry_J104 r v1 v2 v3 v4 v5 k0 x13 x17 s16) else none)) else none else none
def f_X2_carry_L42 (r : Nat) (v1 : Int32) (v2 : Int32) (v3 : Int32) (v4 : Int32) (v5 : Int32) (s : St) : Option ((Int32 × Int32 × St) ⊕ ((Int32 × St) ⊕ (Unit × St))) := if (nI 20) ≤ v5 then (some (Sum.inr (Sum.inl ((v3 + (nI 1)), s)))) else (if v4 ≤ 0 then (some (Sum.inr (Sum.inl ((v3 + (nI 1)), s)))) else (if v2 = 0 then (f_X2_carry_J68 r v1 v2 v3 v4 v5 v5 s) else (f_X2_carry_J68 r v1 v2 v3 v4 v5 ((nI 19) - v5) s)))
def f_X2_carry_L23 (r : Nat) (v1 : Int32) (v2 : Int32) (v3 : Int32) (s : St) : Option ((Int32 × St) ⊕ (Unit × St)) := if kd (r) = 2 then if (s.1 r 0) ≤ v3 then (some (Sum.inr (((), s)))) else (if inb v3 (lnI (r + 6)) = true then bd (s.1 (r + 6) (v3).toNatClampNeg) (fun x7 => lp (fun q : Int32 × Int32 × St => f_X2_carry_L42 r v1 v2 v3 q.1 q.2.1 q.2.2) Fu (x7, (nI 0), s)) else none) else none
def f_X2_carry_J15 (r : Nat) (v1 : Int32) (s : St) : Option (Unit × St) := lp (fun q : Int32 × St => f_X2_carry_L23 r v1 (nI 1) q.1 q.2) Fu ((nI 0), s)
def f_X2_carry (r : Nat) (a1 : Int32) (s : St) : Option (Unit × St) := if ¬ a1 = 0 then (if a1 = (nI 1) then (f_X2_carry_J15 r a1 s) else (if ¬ a1 = (nI 3) then (lp (fun q : Int32 × St => f_X2_carry_L23 r a1 (nI 0) q.1 q.2) Fu ((nI 0), s)) else (f_X2_carry_J15 r a1 s))) else (some (((), s)))
set_option maxHeartbeats 4000000 in
set_option maxRecDepth 100000 in
theorem e_X2_carry_J104 {X : Cx} {Γ : Gm} {r0 : Rb} (hX : Amb X Γ cX2_carry RX2 9 none 2) {r : Nat} {v1 : Int32} {v2 : Int32} {v3 : Int32} {v4 : Int32} {v5 : Int32} {v6 : Int32} {v7 : Int32} {k0 : Int32} {s : St} {t : (Int32 × Int32 × St) ⊕ ((Int32 × St) ⊕ (Unit × St))} (h : f_X2_carry_J104 r v1 v2 v3 v4 v5 v6 v7 k0 s = some t) (hk : (Sum.elim (fun q : Int32 × Int32 × St => Zw X Γ 9 r0 q.2.2 42 [(0, .ref (gL Γ (r))), (1, .int v1), (2, .int v2), (3, .int v3), (4, .int q.1), (5, .int q.2.1)] []) (Sum.elim (fun q : Int32 × St => Zw X Γ 9 r0 q.2 23 [(0, .ref (gL Γ (r))), (1, .int v1), (2, .int v2), (3, .int q.1)] []) (fun t : Unit × St => Rt X Γ r0 (none, t.2)))) t) : Zw X Γ 9 r0 s 104 [(0, .ref (gL Γ (r))), (1, .int v1), (2, .int v2), (3, .int v3), (4, .int v4), (5, .int v5), (6, .int v6), (7, .int v7)] [.int k0] := by
  unfold f_X2_carry_J104 at h
  refine z_istore hX (lv2 := [(8, .int k0), (0, .ref (gL Γ (r))), (1, .int v1), (2, .int v2), (3, .int v3), (4, .int v4), (5, .int v5), (6, .int v6), (7, .int v7)]) dX2_carry_104 (by decide) rfl 106 rfl ?_
  refine z_iload hX dX2_carry_106 5 rfl 108 rfl ?_
  refine z_iload hX dX2_carry_108 8 rfl 110 rfl ?_
  refine z_isub hX dX2_carry_110 111 rfl ?_
  replace h := bd_elim h
  obtain ⟨x18, ex18, h⟩ := h
  refine z_nm ex18 ?_
  refine z_istore hX (lv2 := [(4, .int x18), (8, .int k0), (0, .ref (gL Γ (r))), (1, .int v1), (2, .int v2), (3, .int v3), (5, .int v5), (6, .int v6), (7, .int v7)]) dX2_carry_111 (by decide) rfl 113 rfl ?_
  refine z_iload hX dX2_carry_113 1 rfl 115 rfl ?_
  refine z_if_le hX 148 dX2_carry_115 (by decide) 118 rfl (fun c19 => ?_) (fun c19 => ?_)
  · replace h := br_pos h c19
    refine z_iinc hX (v := (v5 + (nI 1))) (lv2 := [(5, .int ((v5 + (nI 1)))), (4, .int x18), (8, .int k0), (0, .ref (gL Γ (r))), (1, .int v1), (2, .int v2), (3, .int v3), (6, .int v6), (7, .int v7)]) dX2_carry_148 6 rfl rfl (by decide) rfl 151 rfl ?_
    refine z_goto hX 42 dX2_carry_151 (by decide) ?_
    replace h := Option.some.inj h
    subst h
    exact z_sub [3, 4, 5, 6, 1, 0] rfl hk
  · replace h := br_neg h c19
    refine z_aload_n hX dX2_carry_118 2 rfl 119 rfl ?_
    replace h := gd_elim h
    obtain ⟨g20, h⟩ := h
    refine z_get2 hX (k := r) (j := 9) (v := .ref (gL Γ (r + 7))) g20 (by decide) rfl dX2_carry_119 fl_X2_40 122 rfl ?_
    refine z_iload_n hX dX2_carry_122 5 rfl 123 rfl ?_
    refine z_bipush hX (v := (nI 20)) dX2_carry_123 (by decide) 125 rfl ?_
    refine z_imul hX dX2_carry_125 126 rfl ?_
    refine z_iload hX dX2_carry_126 7 rfl 128 rfl ?_
    refine z_iadd hX dX2_carry_128 129 rfl ?_
    refine z_dup2 hX dX2_carry_129 rfl rfl 130 rfl ?_
    replace h := gd_elim h
    obtain ⟨g21, h⟩ := h
    refine z_iald hX (inb_vp g21) dX2_carry_130 131 rfl ?_
    refine z_iload hX dX2_carry_131 1 rfl 133 rfl ?_
    refine z_isub hX dX2_carry_133 134 rfl ?_
    replace h := bd_elim h
    obtain ⟨s22, es22, h⟩ := h
    refine z_iast hX (inb_vp g21) dX2_carry_134 es22 135 rfl ?_
    refine z_aload_n hX dX2_carry_135 2 rfl 136 rfl ?_
    refine z_iload_n hX dX2_carry_136 5 rfl 137 rfl ?_
    refine z_iload hX dX2_carry_137 7 rfl 139 rfl ?_
    refine z_iload_n hX dX2_carry_139 3 rfl 140 rfl ?_
    replace h := cl_elim h
    obtain ⟨x24, s23, hx24, h⟩ := h
    refine z_cSi hX (As := [.int v6, .int v1]) (c_X2_beside hx24) lk_X2_114 ds_X2_beside rfl (by decide) (by decide) (Nat.le_of_ble_eq_true rfl) dX2_carry_140 rfl 143 rfl ?_
    refine z_iload hX dX2_carry_143 1 rfl 145 rfl ?_
    replace h := cl_elim h
    obtain ⟨x26, s25, hx26, h⟩ := h
    refine z_cV2v hX (b := r) (As := [.int v3, .int x24, .int k0]) (c_X2_give hx26) lk_X2_117 rfl g20 ds_X2_give rfl (by decide) (by decide) (by decide) dX2_carry_145 rfl 148 rfl ?_
    refine z_iinc hX (v := (v5 + (nI 1))) (lv2 := [(5, .int ((v5 + (nI 1)))), (4, .int x18), (8, .int k0), (0, .ref (gL Γ (r))), (1, .int v1), (2, .int v2), (3, .int v3), (6, .int v6), (7, .int v7)]) dX2_carry_148 6 rfl rfl (by decide) rfl 151 rfl ?_
    refine z_goto hX 42 dX2_carry_151 (by decide) ?_
    replace h := Option.some.inj h
    subst h
    exact z_sub [3, 4, 5, 6, 1, 0] rfl hk
set_option maxHeartbeats 4000000 in
set_option maxRecDepth 100000 in
theorem e_X2_carry_J68 {X : Cx} {Γ : Gm} {r0 : Rb} (hX : Amb X Γ cX2_carry RX2 9 none 2) {r : Nat} {v1 : Int32} {v2 : Int32} {v3 : Int32} {v4 : Int32} {v5 : Int32} {k0 : Int32} {s : St} {t : (Int32 × Int32 × St) ⊕ ((Int32 × St) ⊕ (Unit × St))} (h : f_X2_carry_J68 r v1 v2 v3 v4 v5 k0 s = some t) (hk : (Sum.elim (fun q : Int32 × Int32 × St => Zw X Γ 9 r0 q.2.2 42 [(0, .ref (gL Γ (r))), (1, .int v1), (2, .int v2), (3, .int v3), (4, .int q.1), (5, .int q.2.1)] []) (Sum.elim (fun q : Int32 × St => Zw X Γ 9 r0 q.2 23 [(0, .ref (gL Γ (r))), (1, .int v1), (2, .int v2), (3, .int q.1)] []) (fun t : Unit × St => Rt X Γ r0 (none, t.2)))) t) : Zw X Γ 9 r0 s 68 [(0, .ref (gL Γ (r))), (1, .int v1), (2, .int v2), (3, .int v3), (4, .int v4), (5, .int v5)] [.int k0] := by
  unfold f_X2_carry_J68 at h
  refine z_istore hX (lv2 := [(6, .int k0), (0, .ref (gL Γ (r))), (1, .int v1), (2, .int v2), (3, .int v3), (4, .int v4), (5, .int v5)]) dX2_carry_68 (by decide) rfl 70 rfl ?_
  refine z_aload_n hX dX2_carry_70 1 rfl 71 rfl ?_
  replace h := gd_elim h
  obtain ⟨g11, h⟩ := h
  refine z_get2 hX (k := r) (j := 9) (v := .ref (gL Γ (r + 7))) g11 (by decide) rfl dX2_carry_71 fl_X2_40 74 rfl ?_
  refine z_iload_n hX dX2_carry_74 4 rfl 75 rfl ?_
  refine z_bipush hX (v := (nI 20)) dX2_carry_75 (by decide) 77 rfl ?_
  refine z_imul hX dX2_carry_77 78 rfl ?_
  refine z_iload hX dX2_carry_78 0 rfl 80 rfl ?_
  refine z_iadd hX dX2_carry_80 81 rfl ?_
  replace h := gd_elim h
  obtain ⟨g12, h⟩ := h
  refine z_iald hX (inb_vp g12) dX2_carry_81 82 rfl ?_
  replace h := bd_elim h
  obtain ⟨x13, ex13, h⟩ := h
  refine z_nm ex13 ?_
  refine z_istore hX (lv2 := [(7, .int x13), (6, .int k0), (0, .ref (gL Γ (r))), (1, .int v1), (2, .int v2), (3, .int v3), (4, .int v4), (5, .int v5)]) dX2_carry_82 (by decide) rfl 84 rfl ?_
  refine z_iload hX dX2_carry_84 0 rfl 86 rfl ?_
  refine z_if_le hX 103 dX2_carry_86 (by decide) 89 rfl (fun c14 => ?_) (fun c14 => ?_)
  · replace h := br_pos h c14
    refine z_iconst hX (v := (nI 0)) dX2_carry_103 rfl 104 rfl ?_
    exact z_sub [2, 3, 4, 5, 6, 7, 1, 0] rfl (e_X2_carry_J104 hX h hk)
  · replace h := br_neg h c14
    refine z_aload_n hX dX2_carry_89 2 rfl 90 rfl ?_
    refine z_get2 hX (k := r) (j := 3) (v := .ref (gL Γ (r + 1))) g11 (by decide) rfl dX2_carry_90 fl_X2_21 93 rfl ?_
    refine z_iload_n hX dX2_carry_93 5 rfl 94 rfl ?_
    replace h := gd_elim h
    obtain ⟨g15, h⟩ := h
    refine z_iald hX (inb_vp g15) dX2_carry_94 95 rfl ?_
    refine z_iload hX dX2_carry_95 0 rfl 97 rfl ?_
    replace h := cl_elim h
    obtain ⟨x17, s16, hx17, h⟩ := h
    refine z_cSi hX (As := [.int ((s.1 (r + 1) (v3).toNatClampNeg)), .int x13]) (c_X2_moved hx17) lk_X2_111 ds_X2_moved rfl (by decide) (by decide) (by decide) dX2_carry_97 rfl 100 rfl ?_
    refine z_goto hX 104 dX2_carry_100 (by decide) ?_
    exact z_sub [2, 3, 4, 5, 6, 7, 1, 0] rfl (e_X2_carry_J104 hX h hk)
set_option maxHeartbeats 4000000 in
set_option maxRecDepth 100000 in
theorem e_X2_carry_L42 {X : Cx} {Γ : Gm} {r0 : Rb} (hX : Amb X Γ cX2_carry RX2 9 none 2) {r : Nat} {v1 : Int32} {v2 : Int32} {v3 : Int32} {v4 : Int32} {v5 : Int32} {s : St} {t : (Int32 × Int32 × St) ⊕ ((Int32 × St) ⊕ (Unit × St))} (h : f_X2_carry_L42 r v1 v2 v3 v4 v5 s = some t) (hk : (Sum.elim (fun q : Int32 × Int32 × St => Zw X Γ 9 r0 q.2.2 42 [(0, .ref (gL Γ (r))), (1, .int v1), (2, .int v2), (3, .int v3), (4, .int q.1), (5, .int q.2.1)] []) (Sum.elim (fun q : Int32 × St => Zw X Γ 9 r0 q.2 23 [(0, .ref (gL Γ (r))), (1, .int v1), (2, .int v2), (3, .int q.1)] []) (fun t : Unit × St => Rt X Γ r0 (none, t.2)))) t) : Zw X Γ 9 r0 s 42 [(0, .ref (gL Γ (r))), (1, .int v1), (2, .int v2), (3, .int v3), (4, .int v4), (5, .int v5)] [] := by
  unfold f_X2_carry_L42 at h
  refine z_iload hX dX2_carry_42 5 rfl 44 rfl ?_
  refine z_bipush hX (v := (nI 20)) dX2_carry_44 (by decide) 46 rfl ?_
  refine z_icmp_ge hX 154 dX2_carry_46 (by decide) 49 rfl (fun c8 => ?_) (fun c8 => ?_)
  · replace h := br_pos h c8
    refine z_iinc hX (v := (v3 + (nI 1))) (lv2 := [(3, .int ((v3 + (nI 1)))), (0, .ref (gL Γ (r))), (1, .int v1), (2, .int v2), (4, .int v4), (5, .int v5)]) dX2_carry_154 3 rfl rfl (by decide) rfl 157 rfl ?_
    refine z_goto hX 23 dX2_carry_157 (by decide) ?_
    replace h := Option.some.inj h
    subst h
    exact z_sub [1, 2, 3, 0] rfl hk
  · replace h := br_neg h c8
    refine z_iload hX dX2_carry_49 4 rfl 51 rfl ?_
    refine z_if_le hX 154 dX2_carry_51 (by decide) 54 rfl (fun c9 => ?_) (fun c9 => ?_)
    · replace h := br_pos h c9
      refine z_iinc hX (v := (v3 + (nI 1))) (lv2 := [(3, .int ((v3 + (nI 1)))), (0, .ref (gL Γ (r))), (1, .int v1), (2, .int v2), (4, .int v4), (5, .int v5)]) dX2_carry_154 3 rfl rfl (by decide) rfl 157 rfl ?_
      refine z_goto hX 23 dX2_carry_157 (by decide) ?_
      replace h := Option.some.inj h
      subst h
      exact z_sub [1, 2, 3, 0] rfl hk
    · replace h := br_neg h c9
      refine z_iload_n hX dX2_carry_54 2 rfl 55 rfl ?_
      refine z_if_eq hX 66 dX2_carry_55 (by decide) 58 rfl (fun c10 => ?_) (fun c10 => ?_)
      · replace h := br_pos h c10
        refine z_iload hX dX2_carry_66 5 rfl 68 rfl ?_
        exact z_sub [0, 1, 2, 3, 4, 5] rfl (e_X2_carry_J68 hX h hk)
      · replace h := br_neg h c10
        refine z_bipush hX (v := (nI 19)) dX2_carry_58 (by decide) 60 rfl ?_
        refine z_iload hX dX2_carry_60 5 rfl 62 rfl ?_
        refine z_isub hX dX2_carry_62 63 rfl ?_
        refine z_goto hX 68 dX2_carry_63 (by decide) ?_
        exact z_sub [0, 1, 2, 3, 4, 5] rfl (e_X2_carry_J68 hX h hk)
set_option maxHeartbeats 4000000 in
set_option maxRecDepth 100000 in
theorem e_X2_carry_L23 {X : Cx} {Γ : Gm} {r0 : Rb} (hX : Amb X Γ cX2_carry RX2 9 none 2) {r : Nat} {v1 : Int32} {v2 : Int32} {v3 : Int32} {s : St} {t : (Int32 × St) ⊕ (Unit × St)} (h : f_X2_carry_L23 r v1 v2 v3 s = some t) (hk : (Sum.elim (fun q : Int32 × St => Zw X Γ 9 r0 q.2 23 [(0, .ref (gL Γ (r))), (1, .int v1), (2, .int v2), (3, .int q.1)] []) (fun t : Unit × St => Rt X Γ r0 (none, t.2))) t) : Zw X Γ 9 r0 s 23 [(0, .ref (gL Γ (r))), (1, .int v1), (2, .int v2), (3, .int v3)] [] := by
  unfold f_X2_carry_L23 at h
  refine z_iload_n hX dX2_carry_23 3 rfl 24 rfl ?_
  refine z_aload_n hX dX2_carry_24 0 rfl 25 rfl ?_
  replace h := gd_elim h
  obtain ⟨g4, h⟩ := h
  refine z_get2 hX (k := r) (j := 0) (v := .int ((s.1 r 0))) g4 (by decide) rfl dX2_carry_25 fl_X2_9 28 rfl ?_
  refine z_icmp_ge hX 160 dX2_carry_28 (by decide) 31 rfl (fun c5 => ?_) (fun c5 => ?_)
  · replace h := br_pos h c5
    replace h := Option.some.inj h
    subst h
    exact z_vret hX dX2_carry_160 rfl hk
  · replace h := br_neg h c5
    refine z_aload_n hX dX2_carry_31 0 rfl 32 rfl ?_
    refine z_get2 hX (k := r) (j := 8) (v := .ref (gL Γ (r + 6))) g4 (by decide) rfl dX2_carry_32 fl_X2_37 35 rfl ?_
    refine z_iload_n hX dX2_carry_35 3 rfl 36 rfl ?_
    replace h := gd_elim h
    obtain ⟨g6, h⟩ := h
    refine z_iald hX (inb_vp g6) dX2_carry_36 37 rfl ?_
    replace h := bd_elim h
    obtain ⟨x7, ex7, h⟩ := h
    refine z_nm ex7 ?_
    refine z_istore hX (lv2 := [(4, .int x7), (0, .ref (gL Γ (r))), (1, .int v1), (2, .int v2), (3, .int v3)]) dX2_carry_37 (by decide) rfl 39 rfl ?_
    refine z_iconst hX (v := (nI 0)) dX2_carry_39 rfl 40 rfl ?_
    refine z_istore hX (lv2 := [(5, .int ((nI 0))), (4, .int x7), (0, .ref (gL Γ (r))), (1, .int v1), (2, .int v2), (3, .int v3)]) dX2_carry_40 (by decide) rfl 42 rfl ?_
    exact z_sub [2, 3, 4, 5, 1, 0] rfl (lp_ok (Z := fun q : Int32 × Int32 × St => Zw X Γ 9 r0 q.2.2 42 [(0, .ref (gL Γ (r))), (1, .int v1), (2, .int v2), (3, .int v3), (4, .int q.1), (5, .int q.2.1)] []) (fun q t h hk => e_X2_carry_L42 hX h hk) Fu _ _ h hk)
set_option maxHeartbeats 4000000 in
set_option maxRecDepth 100000 in
theorem e_X2_carry_J15 {X : Cx} {Γ : Gm} {r0 : Rb} (hX : Amb X Γ cX2_carry RX2 9 none 2) {r : Nat} {v1 : Int32} {s : St} {t : Unit × St} (h : f_X2_carry_J15 r v1 s = some t) (hk : (fun t : Unit × St => Rt X Γ r0 (none, t.2)) t) : Zw X Γ 9 r0 s 15 [(0, .ref (gL Γ (r))), (1, .int v1)] [] := by
  unfold f_X2_carry_J15 at h
  refine z_iconst hX (v := (nI 1)) dX2_carry_15 rfl 16 rfl ?_
  refine z_goto hX 20 dX2_carry_16 (by decide) ?_
  refine z_istore_n hX (lv2 := [(2, .int ((nI 1))), (0, .ref (gL Γ (r))), (1, .int v1)]) dX2_carry_20 (by decide) rfl 21 rfl ?_
  refine z_iconst hX (v := (nI 0)) dX2_carry_21 rfl 22 rfl ?_
  refine z_istore_n hX (lv2 := [(3, .int ((nI 0))), (2, .int ((nI 1))), (0, .ref (gL Γ (r))), (1, .int v1)]) dX2_carry_22 (by decide) rfl 23 rfl ?_
  exact z_sub [2, 3, 1, 0] rfl (lp_ok (Z := fun q : Int32 × St => Zw X Γ 9 r0 q.2 23 [(0, .ref (gL Γ (r))), (1, .int v1), (2, .int ((nI 1))), (3, .int q.1)] []) (fun q t h hk => e_X2_carry_L23 hX h hk) Fu _ _ h hk)
set_option maxHeartbeats 4000000 in
set_option maxRecDepth 100000 in
theorem e_X2_carry {X : Cx} {Γ : Gm} {r0 : Rb} (hX : Amb X Γ cX2_carry RX2 9 none 2) {r : Nat} {a1 : Int32} {s : St} {t : Unit × St} (h : f_X2_carry r a1 s = some t) (hk : (fun t : Unit × St => Rt X Γ r0 (none, t.2)) t) : Zw X Γ 9 r0 s 0 [(0, .ref (gL Γ (r))), (1, .int a1)] [] := by
  unfold f_X2_carry at h
  refine z_iload_n hX dX2_carry_0 1 rfl 1 rfl ?_
  refine z_if_ne hX 5 dX2_carry_1 (by decide) 4 rfl (fun c1 => ?_) (fun c1 => ?_)
  · replace h := br_pos h c1
    refine z_iload_n hX dX2_carry_5 1 rfl 6 rfl ?_
    refine z_iconst hX (v := (nI 1)) dX2_carry_6 rfl 7 rfl ?_
    refine z_icmp_eq hX 15 dX2_carry_7 (by decide) 10 rfl (fun c2 => ?_) (fun c2 => ?_)
    · replace h := br_pos h c2
      exact z_sub [0, 1] rfl (e_X2_carry_J15 hX h hk)
    · replace h := br_neg h c2
      refine z_iload_n hX dX2_carry_10 1 rfl 11 rfl ?_
      refine z_iconst hX (v := (nI 3)) dX2_carry_11 rfl 12 rfl ?_
      refine z_icmp_ne hX 19 dX2_carry_12 (by decide) 15 rfl (fun c3 => ?_) (fun c3 => ?_)
      · replace h := br_pos h c3
        refine z_iconst hX (v := (nI 0)) dX2_carry_19 rfl 20 rfl ?_
        refine z_istore_n hX (lv2 := [(2, .int ((nI 0))), (0, .ref (gL Γ (r))), (1, .int a1)]) dX2_carry_20 (by decide) rfl 21 rfl ?_
        refine z_iconst hX (v := (nI 0)) dX2_carry_21 rfl 22 rfl ?_
        refine z_istore_n hX (lv2 := [(3, .int ((nI 0))), (2, .int ((nI 0))), (0, .ref (gL Γ (r))), (1, .int a1)]) dX2_carry_22 (by decide) rfl 23 rfl ?_
        exact z_sub [2, 3, 1, 0] rfl (lp_ok (Z := fun q : Int32 × St => Zw X Γ 9 r0 q.2 23 [(0, .ref (gL Γ (r))), (1, .int a1), (2, .int ((nI 0))), (3, .int q.1)] []) (fun q t h hk => e_X2_carry_L23 hX h hk) Fu _ _ h hk)
      · replace h := br_neg h c3
        exact z_sub [0, 1] rfl (e_X2_carry_J15 hX h hk)
  · replace h := br_neg h c1
    replace h := Option.some.inj h
    subst h
    exact z_vret hX dX2_carry_4 rfl hk
theorem c_X2_carry {lc : Launch} {Γ : Gm} {r : Nat} {a1 : Int32} {s s2 : St} {v : Unit} (h : f_X2_carry r a1 s = some (v, s2)) : Ct lc Γ yX2_carry cX2_carry 9 none 2 [.ref (gL Γ (r)), .int a1] s (none, s2) := Ct.of (by decide +kernel) (Nat.le_of_ble_eq_true rfl) (fun X hl hX => e_X2_carry hX h rfl)
theorem dX2_pass_0 : decode cX2_pass 0 = .ok (.aload_n 0, 1) := by decide +kernel
theorem dX2_pass_1 : decode cX2_pass 1 = .ok (.invokevirtual 96, 3) := by decide +kernel
theorem dX2_pass_4 : decode cX2_pass 4 = .ok (.aload_n 0, 1) := by decide +kernel
theorem dX2_pass_5 : decode cX2_pass 5 = .ok (.invokevirtual 99, 3) := by decide +kernel
theorem dX2_pass_8 : decode cX2_pass 8 = .ok (.istore_n 2, 1) := by decide +kernel
theorem dX2_pass_9 : decode cX2_pass 9 = .ok (.aload_n 0, 1) := by decide +kernel
theorem dX2_pass_10 : decode cX2_pass 10 = .ok (.iload_n 1, 1) := by decide +kernel
theorem dX2_pass_11 : decode cX2_pass 11 = .ok (.invokevirtual 102, 3) := by decide +kernel
theorem dX2_pass_14 : decode cX2_pass 14 = .ok (.aload_n 0, 1) := by decide +kernel
theorem dX2_pass_15 : decode cX2_pass 15 = .ok (.dup, 1) := by decide +kernel
theorem dX2_pass_16 : decode cX2_pass 16 = .ok (.getfield 18, 3) := by decide +kernel
theorem dX2_pass_19 : decode cX2_pass 19 = .ok (.iconst 1, 1) := by decide +kernel
theorem dX2_pass_20 : decode cX2_pass 20 = .ok (.iadd, 1) := by decide +kernel
theorem dX2_pass_21 : decode cX2_pass 21 = .ok (.putfield 18, 3) := by decide +kernel
theorem dX2_pass_24 : decode cX2_pass 24 = .ok (.iload_n 2, 1) := by decide +kernel
theorem dX2_pass_25 : decode cX2_pass 25 = .ok (.ireturn, 1) := by decide +kernel
def f_X2_pass (r : Nat) (a1 : Int32) (s : St) : Option (Int32 × St) := if kd (r) = 2 then cl (f_X2_tellAll r s) (fun x2 s1 => cl (f_X2_takeAll r s1) (fun x5 s4 => cl (f_X2_carry r a1 s4) (fun x7 s6 => bd (wI s6 r 2 ((s6.1 r 2) + (nI 1))) (fun s8 => some ((x5, s8)))))) else none
set_option maxHeartbeats 4000000 in
set_option maxRecDepth 100000 in
theorem e_X2_pass {X : Cx} {Γ : Gm} {r0 : Rb} (hX : Amb X Γ cX2_pass RX2 3 (some .int) 3) {r : Nat} {a1 : Int32} {s : St} {t : Int32 × St} (h : f_X2_pass r a1 s = some t) (hk : (fun t : Int32 × St => Rt X Γ r0 (some (Value.int t.1), t.2)) t) : Zw X Γ 3 r0 s 0 [(0, .ref (gL Γ (r))), (1, .int a1)] [] := by
  unfold f_X2_pass at h
  refine z_aload_n hX dX2_pass_0 0 rfl 1 rfl ?_
  replace h := gd_elim h
  obtain ⟨g3, h⟩ := h
  replace h := cl_elim h
  obtain ⟨x2, s1, hx2, h⟩ := h
  refine z_cV2v hX (b := r) (As := []) (c_X2_tellAll hx2) lk_X2_96 rfl g3 ds_X2_tellAll rfl (by decide) (by decide) (by decide) dX2_pass_1 rfl 4 rfl ?_
  refine z_aload_n hX dX2_pass_4 0 rfl 5 rfl ?_
  replace h := cl_elim h
  obtain ⟨x5, s4, hx5, h⟩ := h
  refine z_cV2i hX (b := r) (As := []) (c_X2_takeAll hx5) lk_X2_99 rfl g3 ds_X2_takeAll rfl (by decide) (by decide) (by decide) dX2_pass_5 rfl 8 rfl ?_
  refine z_istore_n hX (lv2 := [(2, .int x5), (0, .ref (gL Γ (r))), (1, .int a1)]) dX2_pass_8 (by decide) rfl 9 rfl ?_
  refine z_aload_n hX dX2_pass_9 1 rfl 10 rfl ?_
  refine z_iload_n hX dX2_pass_10 2 rfl 11 rfl ?_
  replace h := cl_elim h
  obtain ⟨x7, s6, hx7, h⟩ := h
  refine z_cV2v hX (b := r) (As := [.int a1]) (c_X2_carry hx7) lk_X2_102 rfl g3 ds_X2_carry rfl (by decide) (by decide) (by decide) dX2_pass_11 rfl 14 rfl ?_
  refine z_aload_n hX dX2_pass_14 1 rfl 15 rfl ?_
  refine z_dup hX dX2_pass_15 rfl 16 rfl ?_
  refine z_get2 hX (k := r) (j := 2) (v := .int ((s6.1 r 2))) g3 (by decide) rfl dX2_pass_16 fl_X2_18 19 rfl ?_
  refine z_iconst hX (v := (nI 1)) dX2_pass_19 rfl 20 rfl ?_
  refine z_iadd hX dX2_pass_20 21 rfl ?_
  replace h := bd_elim h
  obtain ⟨s8, es8, h⟩ := h
  refine z_putI2 hX (k := r) (j := 2) g3 (by decide) rfl (by decide +kernel) (pwI_2_2 ..) dX2_pass_21 fl_X2_18 es8 24 rfl ?_
  refine z_iload_n hX dX2_pass_24 0 rfl 25 rfl ?_
  replace h := Option.some.inj h
  subst h
  exact z_iret hX dX2_pass_25 rfl hk
theorem c_X2_pass {lc : Launch} {Γ : Gm} {r : Nat} {a1 : Int32} {s s2 : St} {v : Int32} (h : f_X2_pass r a1 s = some (v, s2)) : Ct lc Γ yX2_pass cX2_pass 3 (some .int) 3 [.ref (gL Γ (r)), .int a1] s (some (.int v), s2) := Ct.of (by decide +kernel) (Nat.le_of_ble_eq_true rfl) (fun X hl hX => e_X2_pass hX h rfl)
theorem dX2_goOn_0 : decode cX2_goOn 0 = .ok (.iconst 0, 1) := by decide +kernel
theorem dX2_goOn_1 : decode cX2_goOn 1 = .ok (.istore_n 2, 1) := by decide +kernel
theorem dX2_goOn_2 : decode cX2_goOn 2 = .ok (.iconst 0, 1) := by decide +kernel
theorem dX2_goOn_3 : decode cX2_goOn 3 = .ok (.istore_n 3, 1) := by decide +kernel
theorem dX2_goOn_4 : decode cX2_goOn 4 = .ok (.iload_n 3, 1) := by decide +kernel
theorem dX2_goOn_5 : decode cX2_goOn 5 = .ok (.iload_n 1, 1) := by decide +kernel
theorem dX2_goOn_6 : decode cX2_goOn 6 = .ok (.if_icmp .ge 27, 3) := by decide +kernel
theorem dX2_goOn_9 : decode cX2_goOn 9 = .ok (.aload_n 0, 1) := by decide +kernel
theorem dX2_goOn_10 : decode cX2_goOn 10 = .ok (.invokevirtual 85, 3) := by decide +kernel
theorem dX2_goOn_13 : decode cX2_goOn 13 = .ok (.ifCond .ne 20, 3) := by decide +kernel
theorem dX2_goOn_16 : decode cX2_goOn 16 = .ok (.iload_n 2, 1) := by decide +kernel
theorem dX2_goOn_17 : decode cX2_goOn 17 = .ok (.aload_n 0, 1) := by decide +kernel
theorem dX2_goOn_18 : decode cX2_goOn 18 = .ok (.aload_n 0, 1) := by decide +kernel
theorem dX2_goOn_19 : decode cX2_goOn 19 = .ok (.invokevirtual 89, 3) := by decide +kernel
theorem dX2_goOn_22 : decode cX2_goOn 22 = .ok (.invokevirtual 93, 3) := by decide +kernel
theorem dX2_goOn_25 : decode cX2_goOn 25 = .ok (.iadd, 1) := by decide +kernel
theorem dX2_goOn_26 : decode cX2_goOn 26 = .ok (.istore_n 2, 1) := by decide +kernel
theorem dX2_goOn_27 : decode cX2_goOn 27 = .ok (.iinc 3 1, 3) := by decide +kernel
theorem dX2_goOn_30 : decode cX2_goOn 30 = .ok (.goto (-26), 3) := by decide +kernel
theorem dX2_goOn_33 : decode cX2_goOn 33 = .ok (.aload_n 0, 1) := by decide +kernel
theorem dX2_goOn_34 : decode cX2_goOn 34 = .ok (.dup, 1) := by decide +kernel
theorem dX2_goOn_35 : decode cX2_goOn 35 = .ok (.getfield 18, 3) := by decide +kernel
theorem dX2_goOn_38 : decode cX2_goOn 38 = .ok (.iload_n 1, 1) := by decide +kernel
theorem dX2_goOn_39 : decode cX2_goOn 39 = .ok (.iload_n 3, 1) := by decide +kernel
theorem dX2_goOn_40 : decode cX2_goOn 40 = .ok (.isub, 1) := by decide +kernel
theorem dX2_goOn_41 : decode cX2_goOn 41 = .ok (.iadd, 1) := by decide +kernel
theorem dX2_goOn_42 : decode cX2_goOn 42 = .ok (.putfield 18, 3) := by decide +kernel
theorem dX2_goOn_45 : decode cX2_goOn 45 = .ok (.iload_n 2, 1) := by decide +kernel
theorem dX2_goOn_46 : decode cX2_goOn 46 = .ok (.ireturn, 1) := by decide +kernel
def f_X2_goOn_J33 (r : Nat) (v1 : Int32) (v2 : Int32) (v3 : Int32) (s : St) : Option (Int32 × St) := if kd (r) = 2 then bd (wI s r 2 ((s.1 r 2) + (v1 - v3))) (fun s12 => some ((v2, s12))) else none
def f_X2_goOn_L4 (r : Nat) (v1 : Int32) (v2 : Int32) (v3 : Int32) (s : St) : Option ((Int32 × Int32 × St) ⊕ (Int32 × St)) := if v1 ≤ v3 then (ox (f_X2_goOn_J33 r v1 v2 v3 s)) else (if kd (r) = 2 then cl (f_X2_isOver r s) (fun x3 s2 => if ¬ x3 = 0 then (ox (f_X2_goOn_J33 r v1 v2 v3 s2)) else (cl (f_X2_wayNow r s2) (fun x7 s6 => cl (f_X2_pass r x7 s6) (fun x9 s8 => bd (v2 + x9) (fun x10 => some (Sum.inl (x10, (v3 + (nI 1)), s8))))))) else none)
def f_X2_goOn (r : Nat) (a1 : Int32) (s : St) : Option (Int32 × St) := lp (fun q : Int32 × Int32 × St => f_X2_goOn_L4 r a1 q.1 q.2.1 q.2.2) Fu ((nI 0), (nI 0), s)
set_option maxHeartbeats 4000000 in
set_option maxRecDepth 100000 in
theorem e_X2_goOn_J33 {X : Cx} {Γ : Gm} {r0 : Rb} (hX : Amb X Γ cX2_goOn RX2 4 (some .int) 4) {r : Nat} {v1 : Int32} {v2 : Int32} {v3 : Int32} {s : St} {t : Int32 × St} (h : f_X2_goOn_J33 r v1 v2 v3 s = some t) (hk : (fun t : Int32 × St => Rt X Γ r0 (some (Value.int t.1), t.2)) t) : Zw X Γ 4 r0 s 33 [(0, .ref (gL Γ (r))), (1, .int v1), (2, .int v2), (3, .int v3)] [] := by
  unfold f_X2_goOn_J33 at h
  refine z_aload_n hX dX2_goOn_33 0 rfl 34 rfl ?_
  refine z_dup hX dX2_goOn_34 rfl 35 rfl ?_
  replace h := gd_elim h
  obtain ⟨g11, h⟩ := h
  refine z_get2 hX (k := r) (j := 2) (v := .int ((s.1 r 2))) g11 (by decide) rfl dX2_goOn_35 fl_X2_18 38 rfl ?_
  refine z_iload_n hX dX2_goOn_38 1 rfl 39 rfl ?_
  refine z_iload_n hX dX2_goOn_39 3 rfl 40 rfl ?_
  refine z_isub hX dX2_goOn_40 41 rfl ?_
  refine z_iadd hX dX2_goOn_41 42 rfl ?_
  replace h := bd_elim h
  obtain ⟨s12, es12, h⟩ := h
  refine z_putI2 hX (k := r) (j := 2) g11 (by decide) rfl (by decide +kernel) (pwI_2_2 ..) dX2_goOn_42 fl_X2_18 es12 45 rfl ?_
  refine z_iload_n hX dX2_goOn_45 2 rfl 46 rfl ?_
  replace h := Option.some.inj h
  subst h
  exact z_iret hX dX2_goOn_46 rfl hk
set_option maxHeartbeats 4000000 in
set_option maxRecDepth 100000 in
theorem e_X2_goOn_L4 {X : Cx} {Γ : Gm} {r0 : Rb} (hX : Amb X Γ cX2_goOn RX2 4 (some .int) 4) {r : Nat} {v1 : Int32} {v2 : Int32} {v3 : Int32} {s : St} {t : (Int32 × Int32 × St) ⊕ (Int32 × St)} (h : f_X2_goOn_L4 r v1 v2 v3 s = some t) (hk : (Sum.elim (fun q : Int32 × Int32 × St => Zw X Γ 4 r0 q.2.2 4 [(0, .ref (gL Γ (r))), (1, .int v1), (2, .int q.1), (3, .int q.2.1)] []) (fun t : Int32 × St => Rt X Γ r0 (some (Value.int t.1), t.2))) t) : Zw X Γ 4 r0 s 4 [(0, .ref (gL Γ (r))), (1, .int v1), (2, .int v2), (3, .int v3)] [] := by
  unfold f_X2_goOn_L4 at h
  refine z_iload_n hX dX2_goOn_4 3 rfl 5 rfl ?_
  refine z_iload_n hX dX2_goOn_5 1 rfl 6 rfl ?_
  refine z_icmp_ge hX 33 dX2_goOn_6 (by decide) 9 rfl (fun c1 => ?_) (fun c1 => ?_)
  · replace h := br_pos h c1
    replace h := ox_elim h
    obtain ⟨u, rfl, h⟩ := h
    exact z_sub [0, 1, 2, 3] rfl (e_X2_goOn_J33 hX h hk)
  · replace h := br_neg h c1
    refine z_aload_n hX dX2_goOn_9 0 rfl 10 rfl ?_
    replace h := gd_elim h
    obtain ⟨g4, h⟩ := h
    replace h := cl_elim h
    obtain ⟨x3, s2, hx3, h⟩ := h
    refine z_cV2i hX (b := r) (As := []) (c_X2_isOver hx3) lk_X2_85 rfl g4 ds_X2_isOver rfl (by decide) (by decide) (by decide) dX2_goOn_10 rfl 13 rfl ?_
    refine z_if_ne hX 33 dX2_goOn_13 (by decide) 16 rfl (fun c5 => ?_) (fun c5 => ?_)
    · replace h := br_pos h c5
      replace h := ox_elim h
      obtain ⟨u, rfl, h⟩ := h
      exact z_sub [0, 1, 2, 3] rfl (e_X2_goOn_J33 hX h hk)
    · replace h := br_neg h c5
      refine z_iload_n hX dX2_goOn_16 2 rfl 17 rfl ?_
      refine z_aload_n hX dX2_goOn_17 0 rfl 18 rfl ?_
      refine z_aload_n hX dX2_goOn_18 0 rfl 19 rfl ?_
      replace h := cl_elim h
      obtain ⟨x7, s6, hx7, h⟩ := h
      refine z_cV2i hX (b := r) (As := []) (c_X2_wayNow hx7) lk_X2_89 rfl g4 ds_X2_wayNow rfl (by decide) (by decide) (Nat.le_of_ble_eq_true rfl) dX2_goOn_19 rfl 22 rfl ?_
      replace h := cl_elim h
      obtain ⟨x9, s8, hx9, h⟩ := h
      refine z_cV2i hX (b := r) (As := [.int x7]) (c_X2_pass hx9) lk_X2_93 rfl g4 ds_X2_pass rfl (by decide) (by decide) (Nat.le_of_ble_eq_true rfl) dX2_goOn_22 rfl 25 rfl ?_
      refine z_iadd hX dX2_goOn_25 26 rfl ?_
      replace h := bd_elim h
      obtain ⟨x10, ex10, h⟩ := h
      refine z_nm ex10 ?_
      refine z_istore_n hX (lv2 := [(2, .int x10), (0, .ref (gL Γ (r))), (1, .int v1), (3, .int v3)]) dX2_goOn_26 (by decide) rfl 27 rfl ?_
      refine z_iinc hX (v := (v3 + (nI 1))) (lv2 := [(3, .int ((v3 + (nI 1)))), (2, .int x10), (0, .ref (gL Γ (r))), (1, .int v1)]) dX2_goOn_27 3 rfl rfl (by decide) rfl 30 rfl ?_
      refine z_goto hX 4 dX2_goOn_30 (by decide) ?_
      replace h := Option.some.inj h
      subst h
      exact z_sub [2, 3, 1, 0] rfl hk
set_option maxHeartbeats 4000000 in
set_option maxRecDepth 100000 in
theorem e_X2_goOn {X : Cx} {Γ : Gm} {r0 : Rb} (hX : Amb X Γ cX2_goOn RX2 4 (some .int) 4) {r : Nat} {a1 : Int32} {s : St} {t : Int32 × St} (h : f_X2_goOn r a1 s = some t) (hk : (fun t : Int32 × St => Rt X Γ r0 (some (Value.int t.1), t.2)) t) : Zw X Γ 4 r0 s 0 [(0, .ref (gL Γ (r))), (1, .int a1)] [] := by
  unfold f_X2_goOn at h
  refine z_iconst hX (v := (nI 0)) dX2_goOn_0 rfl 1 rfl ?_
  refine z_istore_n hX (lv2 := [(2, .int ((nI 0))), (0, .ref (gL Γ (r))), (1, .int a1)]) dX2_goOn_1 (by decide) rfl 2 rfl ?_
  refine z_iconst hX (v := (nI 0)) dX2_goOn_2 rfl 3 rfl ?_
  refine z_istore_n hX (lv2 := [(3, .int ((nI 0))), (2, .int ((nI 0))), (0, .ref (gL Γ (r))), (1, .int a1)]) dX2_goOn_3 (by decide) rfl 4 rfl ?_
  exact z_sub [2, 3, 1, 0] rfl (lp_ok (Z := fun q : Int32 × Int32 × St => Zw X Γ 4 r0 q.2.2 4 [(0, .ref (gL Γ (r))), (1, .int a1), (2, .int q.1), (3, .int q.2.1)] []) (fun q t h hk => e_X2_goOn_L4 hX h hk) Fu _ _ h hk)
theorem c_X2_goOn {lc : Launch} {Γ : Gm} {r : Nat} {a1 : Int32} {s s2 : St} {v : Int32} (h : f_X2_goOn r a1 s = some (v, s2)) : Ct lc Γ yX2_goOn cX2_goOn 4 (some .int) 4 [.ref (gL Γ (r)), .int a1] s (some (.int v), s2) := Ct.of (by decide +kernel) (Nat.le_of_ble_eq_true rfl) (fun X hl hX => e_X2_goOn hX h rfl)

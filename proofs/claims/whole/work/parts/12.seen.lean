theorem fl_X3_9 : Cond.fieldLink RX3 9 (TX3 0).1 (TX3 0).2.1 (TX3 0).2.2.1 ∈ gt := gt_mem (tm1 (List.mem_of_getElem? (i := 108) rfl)) rfl
theorem fl_X3_15 : Cond.fieldLink RX3 15 (TX3 1).1 (TX3 1).2.1 (TX3 1).2.2.1 ∈ gt := gt_mem (tm1 (List.mem_of_getElem? (i := 110) rfl)) rfl
theorem ml_X3_28 : Cond.methodLink RX3 28 arraycopyName ∈ gt := gt_mem (tm4 (List.mem_of_getElem? (i := 1) rfl)) rfl
theorem fl_X3_19 : Cond.fieldLink RX3 19 (TX3 2).1 (TX3 2).2.1 (TX3 2).2.2.1 ∈ gt := gt_mem (tm1 (List.mem_of_getElem? (i := 111) rfl)) rfl
theorem fl_X3_22 : Cond.fieldLink RX3 22 (TX3 3).1 (TX3 3).2.1 (TX3 3).2.2.1 ∈ gt := gt_mem (tm1 (List.mem_of_getElem? (i := 112) rfl)) rfl
theorem fl_X3_25 : Cond.fieldLink RX3 25 (TX3 4).1 (TX3 4).2.1 (TX3 4).2.2.1 ∈ gt := gt_mem (tm1 (List.mem_of_getElem? (i := 113) rfl)) rfl
theorem ml_X3_34 : Cond.methodLink RX3 34 Lib.Math.max.name ∈ gt := gt_mem (tm3 (List.mem_of_getElem? (i := 192) rfl)) rfl
theorem st_max : Cond.static Lib.Math.max.name ∈ gt := gt_mem (tm3 (List.mem_of_getElem? (i := 193) rfl)) rfl
theorem co_max : Cond.code Lib.Math.max.name Lib.Math.max.code 2 (some .int) ∈ gt := gt_mem (tm3 (List.mem_of_getElem? (i := 194) rfl)) rfl
theorem lk_X3_54 : LkV RX3 54 yX2_held cX2_held 3 (some .int) := ⟨gt_mem (tm3 (List.mem_of_getElem? (i := 203) rfl)) rfl, gt_mem (tm2 (List.mem_of_getElem? (i := 189) rfl)) rfl, gt_mem (tm2 (List.mem_of_getElem? (i := 190) rfl)) rfl, gt_mem (tm1 (List.mem_of_getElem? (i := 2) rfl)) rfl, gt_mem (tm2 (List.mem_of_getElem? (i := 191) rfl)) rfl⟩
theorem ds_X3_fitsBehind : Ds yX3_fitsBehind 2 := ⟨by decide +kernel, by decide +kernel, by decide +kernel⟩
theorem lk_X3_40 : LkV RX3 40 yX3_fitsBehind cX3_fitsBehind 4 (some .boolean) := ⟨gt_mem (tm3 (List.mem_of_getElem? (i := 199) rfl)) rfl, gt_mem (tm3 (List.mem_of_getElem? (i := 200) rfl)) rfl, gt_mem (tm3 (List.mem_of_getElem? (i := 201) rfl)) rfl, gt_mem (tm1 (List.mem_of_getElem? (i := 3) rfl)) rfl, gt_mem (tm3 (List.mem_of_getElem? (i := 202) rfl)) rfl⟩
theorem lk_X3_44 : LkV RX3 44 yX2_wayNow cX2_wayNow 1 (some .int) := ⟨gt_mem (tm3 (List.mem_of_getElem? (i := 204) rfl)) rfl, gt_mem (tm3 (List.mem_of_getElem? (i := 34) rfl)) rfl, gt_mem (tm3 (List.mem_of_getElem? (i := 35) rfl)) rfl, gt_mem (tm1 (List.mem_of_getElem? (i := 2) rfl)) rfl, gt_mem (tm3 (List.mem_of_getElem? (i := 36) rfl)) rfl⟩
theorem lk_X3_50 : LkV RX3 50 yX2_pass cX2_pass 3 (some .int) := ⟨gt_mem (tm3 (List.mem_of_getElem? (i := 205) rfl)) rfl, gt_mem (tm3 (List.mem_of_getElem? (i := 38) rfl)) rfl, gt_mem (tm3 (List.mem_of_getElem? (i := 39) rfl)) rfl, gt_mem (tm1 (List.mem_of_getElem? (i := 2) rfl)) rfl, gt_mem (tm3 (List.mem_of_getElem? (i := 40) rfl)) rfl⟩
theorem fl_X4_11 : Cond.fieldLink RX4 11 (TX4 0).1 (TX4 0).2.1 (TX4 0).2.2.1 ∈ gt := gt_mem (tm1 (List.mem_of_getElem? (i := 224) rfl)) rfl
theorem fl_X4_15 : Cond.fieldLink RX4 15 (TX4 1).1 (TX4 1).2.1 (TX4 1).2.2.1 ∈ gt := gt_mem (tm1 (List.mem_of_getElem? (i := 226) rfl)) rfl
theorem fl_X4_18 : Cond.fieldLink RX4 18 (TX4 2).1 (TX4 2).2.1 (TX4 2).2.2.1 ∈ gt := gt_mem (tm1 (List.mem_of_getElem? (i := 228) rfl)) rfl
theorem lk_X4_22 : LkS RX4 22 yJ7_fill_53178 cJ7_fill_53178 4 none := ⟨gt_mem (tm4 (List.mem_of_getElem? (i := 20) rfl)) rfl, gt_mem (tm2 (List.mem_of_getElem? (i := 53) rfl)) rfl, gt_mem (tm1 (List.mem_of_getElem? (i := 9) rfl)) rfl, gt_mem (tm2 (List.mem_of_getElem? (i := 54) rfl)) rfl⟩
theorem ds_X4_isNothing : Ds yX4_isNothing 0 := ⟨by decide +kernel, by decide +kernel, by decide +kernel⟩
theorem lk_X4_28 : LkV RX4 28 yX4_isNothing cX4_isNothing 1 (some .boolean) := ⟨gt_mem (tm4 (List.mem_of_getElem? (i := 29) rfl)) rfl, gt_mem (tm4 (List.mem_of_getElem? (i := 30) rfl)) rfl, gt_mem (tm4 (List.mem_of_getElem? (i := 31) rfl)) rfl, gt_mem (tm1 (List.mem_of_getElem? (i := 7) rfl)) rfl, gt_mem (tm4 (List.mem_of_getElem? (i := 32) rfl)) rfl⟩
theorem ds_X4_faultAt : Ds yX4_faultAt 2 := ⟨by decide +kernel, by decide +kernel, by decide +kernel⟩
theorem lk_X4_32 : LkV RX4 32 yX4_faultAt cX4_faultAt 3 (some .int) := ⟨gt_mem (tm4 (List.mem_of_getElem? (i := 45) rfl)) rfl, gt_mem (tm4 (List.mem_of_getElem? (i := 26) rfl)) rfl, gt_mem (tm4 (List.mem_of_getElem? (i := 27) rfl)) rfl, gt_mem (tm1 (List.mem_of_getElem? (i := 7) rfl)) rfl, gt_mem (tm4 (List.mem_of_getElem? (i := 28) rfl)) rfl⟩
theorem pwI_3_0 (Γ : Gm) (k : Nat) (f : Nat → Int32) (g : Nat → Int64) (x : Int32) : (flds Γ 3 k f g).set 0 (.int x) = flds Γ 3 k (upd f 0 x) g := by simp [flds, entK, upd]
theorem pwI_4_0 (Γ : Gm) (k : Nat) (f : Nat → Int32) (g : Nat → Int64) (x : Int32) : (flds Γ 4 k f g).set 0 (.int x) = flds Γ 4 k (upd f 0 x) g := by simp [flds, entK, upd]
theorem pwI_4_1 (Γ : Gm) (k : Nat) (f : Nat → Int32) (g : Nat → Int64) (x : Int32) : (flds Γ 4 k f g).set 1 (.int x) = flds Γ 4 k (upd f 1 x) g := by simp [flds, entK, upd]
theorem dX3_copyOf_0 : decode cX3_copyOf 0 = .ok (.aload_n 0, 1) := by decide +kernel
theorem dX3_copyOf_1 : decode cX3_copyOf 1 = .ok (.aload_n 1, 1) := by decide +kernel
theorem dX3_copyOf_2 : decode cX3_copyOf 2 = .ok (.getfield 9, 3) := by decide +kernel
theorem dX3_copyOf_5 : decode cX3_copyOf 5 = .ok (.putfield 9, 3) := by decide +kernel
theorem dX3_copyOf_8 : decode cX3_copyOf 8 = .ok (.aload_n 1, 1) := by decide +kernel
theorem dX3_copyOf_9 : decode cX3_copyOf 9 = .ok (.getfield 15, 3) := by decide +kernel
theorem dX3_copyOf_12 : decode cX3_copyOf 12 = .ok (.iconst 0, 1) := by decide +kernel
theorem dX3_copyOf_13 : decode cX3_copyOf 13 = .ok (.aload_n 0, 1) := by decide +kernel
theorem dX3_copyOf_14 : decode cX3_copyOf 14 = .ok (.getfield 15, 3) := by decide +kernel
theorem dX3_copyOf_17 : decode cX3_copyOf 17 = .ok (.iconst 0, 1) := by decide +kernel
theorem dX3_copyOf_18 : decode cX3_copyOf 18 = .ok (.bipush 6, 2) := by decide +kernel
theorem dX3_copyOf_20 : decode cX3_copyOf 20 = .ok (.invokestatic 28, 3) := by decide +kernel
theorem dX3_copyOf_23 : decode cX3_copyOf 23 = .ok (.aload_n 1, 1) := by decide +kernel
theorem dX3_copyOf_24 : decode cX3_copyOf 24 = .ok (.getfield 19, 3) := by decide +kernel
theorem dX3_copyOf_27 : decode cX3_copyOf 27 = .ok (.iconst 0, 1) := by decide +kernel
theorem dX3_copyOf_28 : decode cX3_copyOf 28 = .ok (.aload_n 0, 1) := by decide +kernel
theorem dX3_copyOf_29 : decode cX3_copyOf 29 = .ok (.getfield 19, 3) := by decide +kernel
theorem dX3_copyOf_32 : decode cX3_copyOf 32 = .ok (.iconst 0, 1) := by decide +kernel
theorem dX3_copyOf_33 : decode cX3_copyOf 33 = .ok (.bipush 6, 2) := by decide +kernel
theorem dX3_copyOf_35 : decode cX3_copyOf 35 = .ok (.invokestatic 28, 3) := by decide +kernel
theorem dX3_copyOf_38 : decode cX3_copyOf 38 = .ok (.aload_n 1, 1) := by decide +kernel
theorem dX3_copyOf_39 : decode cX3_copyOf 39 = .ok (.getfield 22, 3) := by decide +kernel
theorem dX3_copyOf_42 : decode cX3_copyOf 42 = .ok (.iconst 0, 1) := by decide +kernel
theorem dX3_copyOf_43 : decode cX3_copyOf 43 = .ok (.aload_n 0, 1) := by decide +kernel
theorem dX3_copyOf_44 : decode cX3_copyOf 44 = .ok (.getfield 22, 3) := by decide +kernel
theorem dX3_copyOf_47 : decode cX3_copyOf 47 = .ok (.iconst 0, 1) := by decide +kernel
theorem dX3_copyOf_48 : decode cX3_copyOf 48 = .ok (.bipush 6, 2) := by decide +kernel
theorem dX3_copyOf_50 : decode cX3_copyOf 50 = .ok (.invokestatic 28, 3) := by decide +kernel
theorem dX3_copyOf_53 : decode cX3_copyOf 53 = .ok (.aload_n 1, 1) := by decide +kernel
theorem dX3_copyOf_54 : decode cX3_copyOf 54 = .ok (.getfield 25, 3) := by decide +kernel
theorem dX3_copyOf_57 : decode cX3_copyOf 57 = .ok (.iconst 0, 1) := by decide +kernel
theorem dX3_copyOf_58 : decode cX3_copyOf 58 = .ok (.aload_n 0, 1) := by decide +kernel
theorem dX3_copyOf_59 : decode cX3_copyOf 59 = .ok (.getfield 25, 3) := by decide +kernel
theorem dX3_copyOf_62 : decode cX3_copyOf 62 = .ok (.iconst 0, 1) := by decide +kernel
theorem dX3_copyOf_63 : decode cX3_copyOf 63 = .ok (.bipush 6, 2) := by decide +kernel
theorem dX3_copyOf_65 : decode cX3_copyOf 65 = .ok (.invokestatic 28, 3) := by decide +kernel
theorem dX3_copyOf_68 : decode cX3_copyOf 68 = .ok (.return_, 1) := by decide +kernel
def f_X3_copyOf (r : Nat) (a1 : Nat) (s : St) : Option (Unit × St) := if kd (a1) = 3 then if kd (r) = 3 then bd (wI s r 0 (s.1 a1 0)) (fun s3 => if kd (a1 + 1) = 9 ∧ kd (r + 1) = 9 ∧ ¬ (nI 0) < 0 ∧ ¬ (nI 0) < 0 ∧ ¬ (nI 6) < 0 ∧ ((nI 0)).toNatClampNeg + ((nI 6)).toNatClampNeg ≤ ln (a1 + 1) ∧ ((nI 0)).toNatClampNeg + ((nI 6)).toNatClampNeg ≤ ln (r + 1) then bd (wR s3 (r + 1) (va_cpy (s3.1 (a1 + 1)) (s3.1 (r + 1)) ((nI 0)).toNatClampNeg ((nI 0)).toNatClampNeg ((nI 6)).toNatClampNeg)) (fun s5 => if kd (a1 + 2) = 9 ∧ kd (r + 2) = 9 ∧ ¬ (nI 0) < 0 ∧ ¬ (nI 0) < 0 ∧ ¬ (nI 6) < 0 ∧ ((nI 0)).toNatClampNeg + ((nI 6)).toNatClampNeg ≤ ln (a1 + 2) ∧ ((nI 0)).toNatClampNeg + ((nI 6)).toNatClampNeg ≤ ln (r + 2) then bd (wR s5 (r + 2) (va_cpy (s5.1 (a1 + 2)) (s5.1 (r + 2)) ((nI 0)).toNatClampNeg ((nI 0)).toNatClampNeg ((nI 6)).toNatClampNeg)) (fun s7 => if kd (a1 + 3) = 9 ∧ kd (r + 3) = 9 ∧ ¬ (nI 0) < 0 ∧ ¬ (nI 0) < 0 ∧ ¬ (nI 6) < 0 ∧ ((nI 0)).toNatClampNeg + ((nI 6)).toNatClampNeg ≤ ln (a1 + 3) ∧ ((nI 0)).toNatClampNeg + ((nI 6)).toNatClampNeg ≤ ln (r + 3) then bd (wR s7 (r + 3) (va_cpy (s7.1 (a1 + 3)) (s7.1 (r + 3)) ((nI 0)).toNatClampNeg ((nI 0)).toNatClampNeg ((nI 6)).toNatClampNeg)) (fun s9 => if kd (a1 + 4) = 9 ∧ kd (r + 4) = 9 ∧ ¬ (nI 0) < 0 ∧ ¬ (nI 0) < 0 ∧ ¬ (nI 6) < 0 ∧ ((nI 0)).toNatClampNeg + ((nI 6)).toNatClampNeg ≤ ln (a1 + 4) ∧ ((nI 0)).toNatClampNeg + ((nI 6)).toNatClampNeg ≤ ln (r + 4) then bd (wR s9 (r + 4) (va_cpy (s9.1 (a1 + 4)) (s9.1 (r + 4)) ((nI 0)).toNatClampNeg ((nI 0)).toNatClampNeg ((nI 6)).toNatClampNeg)) (fun s11 => some (((), s11))) else none) else none) else none) else none) else none else none
set_option maxHeartbeats 4000000 in
set_option maxRecDepth 100000 in
theorem e_X3_copyOf {X : Cx} {Γ : Gm} {r0 : Rb} (hX : Amb X Γ cX3_copyOf RX3 2 none 1) {r : Nat} {a1 : Nat} {s : St} {t : Unit × St} (h : f_X3_copyOf r a1 s = some t) (hk : (fun t : Unit × St => Rt X Γ r0 (none, t.2)) t) : Zw X Γ 2 r0 s 0 [(0, .ref (gL Γ (r))), (1, .ref (gL Γ (a1)))] [] := by
  unfold f_X3_copyOf at h
  refine z_aload_n hX dX3_copyOf_0 0 rfl 1 rfl ?_
  refine z_aload_n hX dX3_copyOf_1 1 rfl 2 rfl ?_
  replace h := gd_elim h
  obtain ⟨g1, h⟩ := h
  refine z_get3 hX (k := a1) (j := 0) (v := .int ((s.1 a1 0))) g1 (by decide) rfl dX3_copyOf_2 fl_X3_9 5 rfl ?_
  replace h := gd_elim h
  obtain ⟨g2, h⟩ := h
  replace h := bd_elim h
  obtain ⟨s3, es3, h⟩ := h
  refine z_putI3 hX (k := r) (j := 0) g2 (by decide) rfl (by decide +kernel) (pwI_3_0 ..) dX3_copyOf_5 fl_X3_9 es3 8 rfl ?_
  refine z_aload_n hX dX3_copyOf_8 1 rfl 9 rfl ?_
  refine z_get3 hX (k := a1) (j := 1) (v := .ref (gL Γ (a1 + 1))) g1 (by decide) rfl dX3_copyOf_9 fl_X3_15 12 rfl ?_
  refine z_iconst hX (v := (nI 0)) dX3_copyOf_12 rfl 13 rfl ?_
  refine z_aload_n hX dX3_copyOf_13 0 rfl 14 rfl ?_
  refine z_get3 hX (k := r) (j := 1) (v := .ref (gL Γ (r + 1))) g2 (by decide) rfl dX3_copyOf_14 fl_X3_15 17 rfl ?_
  refine z_iconst hX (v := (nI 0)) dX3_copyOf_17 rfl 18 rfl ?_
  refine z_bipush hX (v := (nI 6)) dX3_copyOf_18 (by decide) 20 rfl ?_
  replace h := gd_elim h
  obtain ⟨g4, h⟩ := h
  replace h := bd_elim h
  obtain ⟨s5, es5, h⟩ := h
  refine z_copy hX ml_X3_28 na_copy st_copy in_Sys (by decide) (by decide) g4 dX3_copyOf_20 es5 23 rfl ?_
  refine z_aload_n hX dX3_copyOf_23 1 rfl 24 rfl ?_
  refine z_get3 hX (k := a1) (j := 2) (v := .ref (gL Γ (a1 + 2))) g1 (by decide) rfl dX3_copyOf_24 fl_X3_19 27 rfl ?_
  refine z_iconst hX (v := (nI 0)) dX3_copyOf_27 rfl 28 rfl ?_
  refine z_aload_n hX dX3_copyOf_28 0 rfl 29 rfl ?_
  refine z_get3 hX (k := r) (j := 2) (v := .ref (gL Γ (r + 2))) g2 (by decide) rfl dX3_copyOf_29 fl_X3_19 32 rfl ?_
  refine z_iconst hX (v := (nI 0)) dX3_copyOf_32 rfl 33 rfl ?_
  refine z_bipush hX (v := (nI 6)) dX3_copyOf_33 (by decide) 35 rfl ?_
  replace h := gd_elim h
  obtain ⟨g6, h⟩ := h
  replace h := bd_elim h
  obtain ⟨s7, es7, h⟩ := h
  refine z_copy hX ml_X3_28 na_copy st_copy in_Sys (by decide) (by decide) g6 dX3_copyOf_35 es7 38 rfl ?_
  refine z_aload_n hX dX3_copyOf_38 1 rfl 39 rfl ?_
  refine z_get3 hX (k := a1) (j := 3) (v := .ref (gL Γ (a1 + 3))) g1 (by decide) rfl dX3_copyOf_39 fl_X3_22 42 rfl ?_
  refine z_iconst hX (v := (nI 0)) dX3_copyOf_42 rfl 43 rfl ?_
  refine z_aload_n hX dX3_copyOf_43 0 rfl 44 rfl ?_
  refine z_get3 hX (k := r) (j := 3) (v := .ref (gL Γ (r + 3))) g2 (by decide) rfl dX3_copyOf_44 fl_X3_22 47 rfl ?_
  refine z_iconst hX (v := (nI 0)) dX3_copyOf_47 rfl 48 rfl ?_
  refine z_bipush hX (v := (nI 6)) dX3_copyOf_48 (by decide) 50 rfl ?_
  replace h := gd_elim h
  obtain ⟨g8, h⟩ := h
  replace h := bd_elim h
  obtain ⟨s9, es9, h⟩ := h
  refine z_copy hX ml_X3_28 na_copy st_copy in_Sys (by decide) (by decide) g8 dX3_copyOf_50 es9 53 rfl ?_
  refine z_aload_n hX dX3_copyOf_53 1 rfl 54 rfl ?_
  refine z_get3 hX (k := a1) (j := 4) (v := .ref (gL Γ (a1 + 4))) g1 (by decide) rfl dX3_copyOf_54 fl_X3_25 57 rfl ?_
  refine z_iconst hX (v := (nI 0)) dX3_copyOf_57 rfl 58 rfl ?_
  refine z_aload_n hX dX3_copyOf_58 0 rfl 59 rfl ?_
  refine z_get3 hX (k := r) (j := 4) (v := .ref (gL Γ (r + 4))) g2 (by decide) rfl dX3_copyOf_59 fl_X3_25 62 rfl ?_
  refine z_iconst hX (v := (nI 0)) dX3_copyOf_62 rfl 63 rfl ?_
  refine z_bipush hX (v := (nI 6)) dX3_copyOf_63 (by decide) 65 rfl ?_
  replace h := gd_elim h
  obtain ⟨g10, h⟩ := h
  replace h := bd_elim h
  obtain ⟨s11, es11, h⟩ := h
  refine z_copy hX ml_X3_28 na_copy st_copy in_Sys (by decide) (by decide) g10 dX3_copyOf_65 es11 68 rfl ?_
  replace h := Option.some.inj h
  subst h
  exact z_vret hX dX3_copyOf_68 rfl hk
theorem c_X3_copyOf {lc : Launch} {Γ : Gm} {r : Nat} {a1 : Nat} {s s2 : St} {v : Unit} (h : f_X3_copyOf r a1 s = some (v, s2)) : Ct lc Γ yX3_copyOf cX3_copyOf 2 none 1 [.ref (gL Γ (r)), .ref (gL Γ (a1))] s (none, s2) := Ct.of (by decide +kernel) (Nat.le_of_ble_eq_true rfl) (fun X hl hX => e_X3_copyOf hX h rfl)
theorem dX3_put_0 : decode cX3_put 0 = .ok (.aload_n 0, 1) := by decide +kernel
theorem dX3_put_1 : decode cX3_put 1 = .ok (.getfield 9, 3) := by decide +kernel
theorem dX3_put_4 : decode cX3_put 4 = .ok (.bipush 6, 2) := by decide +kernel
theorem dX3_put_6 : decode cX3_put 6 = .ok (.if_icmp .lt 5, 3) := by decide +kernel
theorem dX3_put_9 : decode cX3_put 9 = .ok (.iconst 0, 1) := by decide +kernel
theorem dX3_put_10 : decode cX3_put 10 = .ok (.ireturn, 1) := by decide +kernel
theorem dX3_put_11 : decode cX3_put 11 = .ok (.aload_n 0, 1) := by decide +kernel
theorem dX3_put_12 : decode cX3_put 12 = .ok (.getfield 15, 3) := by decide +kernel
theorem dX3_put_15 : decode cX3_put 15 = .ok (.aload_n 0, 1) := by decide +kernel
theorem dX3_put_16 : decode cX3_put 16 = .ok (.getfield 9, 3) := by decide +kernel
theorem dX3_put_19 : decode cX3_put 19 = .ok (.iload_n 1, 1) := by decide +kernel
theorem dX3_put_20 : decode cX3_put 20 = .ok (.iastore, 1) := by decide +kernel
theorem dX3_put_21 : decode cX3_put 21 = .ok (.aload_n 0, 1) := by decide +kernel
theorem dX3_put_22 : decode cX3_put 22 = .ok (.getfield 19, 3) := by decide +kernel
theorem dX3_put_25 : decode cX3_put 25 = .ok (.aload_n 0, 1) := by decide +kernel
theorem dX3_put_26 : decode cX3_put 26 = .ok (.getfield 9, 3) := by decide +kernel
theorem dX3_put_29 : decode cX3_put 29 = .ok (.iload_n 2, 1) := by decide +kernel
theorem dX3_put_30 : decode cX3_put 30 = .ok (.iastore, 1) := by decide +kernel
theorem dX3_put_31 : decode cX3_put 31 = .ok (.aload_n 0, 1) := by decide +kernel
theorem dX3_put_32 : decode cX3_put 32 = .ok (.getfield 22, 3) := by decide +kernel
theorem dX3_put_35 : decode cX3_put 35 = .ok (.aload_n 0, 1) := by decide +kernel
theorem dX3_put_36 : decode cX3_put 36 = .ok (.getfield 9, 3) := by decide +kernel
theorem dX3_put_39 : decode cX3_put 39 = .ok (.iload_n 3, 1) := by decide +kernel
theorem dX3_put_40 : decode cX3_put 40 = .ok (.iastore, 1) := by decide +kernel
theorem dX3_put_41 : decode cX3_put 41 = .ok (.aload_n 0, 1) := by decide +kernel
theorem dX3_put_42 : decode cX3_put 42 = .ok (.getfield 25, 3) := by decide +kernel
theorem dX3_put_45 : decode cX3_put 45 = .ok (.aload_n 0, 1) := by decide +kernel
theorem dX3_put_46 : decode cX3_put 46 = .ok (.getfield 9, 3) := by decide +kernel
theorem dX3_put_49 : decode cX3_put 49 = .ok (.iload 4, 2) := by decide +kernel
theorem dX3_put_51 : decode cX3_put 51 = .ok (.iastore, 1) := by decide +kernel
theorem dX3_put_52 : decode cX3_put 52 = .ok (.aload_n 0, 1) := by decide +kernel
theorem dX3_put_53 : decode cX3_put 53 = .ok (.dup, 1) := by decide +kernel
theorem dX3_put_54 : decode cX3_put 54 = .ok (.getfield 9, 3) := by decide +kernel
theorem dX3_put_57 : decode cX3_put 57 = .ok (.iconst 1, 1) := by decide +kernel
theorem dX3_put_58 : decode cX3_put 58 = .ok (.iadd, 1) := by decide +kernel
theorem dX3_put_59 : decode cX3_put 59 = .ok (.putfield 9, 3) := by decide +kernel
theorem dX3_put_62 : decode cX3_put 62 = .ok (.iconst 1, 1) := by decide +kernel
theorem dX3_put_63 : decode cX3_put 63 = .ok (.ireturn, 1) := by decide +kernel
def f_X3_put (r : Nat) (a1 : Int32) (a2 : Int32) (a3 : Int32) (a4 : Int32) (s : St) : Option (Int32 × St) := if kd (r) = 3 then if (s.1 r 0) < (nI 6) then (if inb (s.1 r 0) (lnI (r + 1)) = true then bd (wI s (r + 1) ((s.1 r 0)).toNatClampNeg a1) (fun s4 => if inb (s4.1 r 0) (lnI (r + 2)) = true then bd (wI s4 (r + 2) ((s4.1 r 0)).toNatClampNeg a2) (fun s6 => if inb (s6.1 r 0) (lnI (r + 3)) = true then bd (wI s6 (r + 3) ((s6.1 r 0)).toNatClampNeg a3) (fun s8 => if inb (s8.1 r 0) (lnI (r + 4)) = true then bd (wI s8 (r + 4) ((s8.1 r 0)).toNatClampNeg a4) (fun s10 => bd (wI s10 r 0 ((s10.1 r 0) + (nI 1))) (fun s11 => some (((nI 1), s11)))) else none) else none) else none) else none) else (some (((nI 0), s))) else none
set_option maxHeartbeats 4000000 in
set_option maxRecDepth 100000 in
theorem e_X3_put {X : Cx} {Γ : Gm} {r0 : Rb} (hX : Amb X Γ cX3_put RX3 5 (some .boolean) 0) {r : Nat} {a1 : Int32} {a2 : Int32} {a3 : Int32} {a4 : Int32} {s : St} {t : Int32 × St} (h : f_X3_put r a1 a2 a3 a4 s = some t) (hk : (fun t : Int32 × St => Rt X Γ r0 (some (Value.int t.1), t.2)) t) : Zw X Γ 5 r0 s 0 [(0, .ref (gL Γ (r))), (1, .int a1), (2, .int a2), (3, .int a3), (4, .int a4)] [] := by
  unfold f_X3_put at h
  refine z_aload_n hX dX3_put_0 0 rfl 1 rfl ?_
  replace h := gd_elim h
  obtain ⟨g1, h⟩ := h
  refine z_get3 hX (k := r) (j := 0) (v := .int ((s.1 r 0))) g1 (by decide) rfl dX3_put_1 fl_X3_9 4 rfl ?_
  refine z_bipush hX (v := (nI 6)) dX3_put_4 (by decide) 6 rfl ?_
  refine z_icmp_lt hX 11 dX3_put_6 (by decide) 9 rfl (fun c2 => ?_) (fun c2 => ?_)
  · replace h := br_pos h c2
    refine z_aload_n hX dX3_put_11 0 rfl 12 rfl ?_
    refine z_get3 hX (k := r) (j := 1) (v := .ref (gL Γ (r + 1))) g1 (by decide) rfl dX3_put_12 fl_X3_15 15 rfl ?_
    refine z_aload_n hX dX3_put_15 0 rfl 16 rfl ?_
    refine z_get3 hX (k := r) (j := 0) (v := .int ((s.1 r 0))) g1 (by decide) rfl dX3_put_16 fl_X3_9 19 rfl ?_
    refine z_iload_n hX dX3_put_19 1 rfl 20 rfl ?_
    replace h := gd_elim h
    obtain ⟨g3, h⟩ := h
    replace h := bd_elim h
    obtain ⟨s4, es4, h⟩ := h
    refine z_iast hX (inb_vp g3) dX3_put_20 es4 21 rfl ?_
    refine z_aload_n hX dX3_put_21 0 rfl 22 rfl ?_
    refine z_get3 hX (k := r) (j := 2) (v := .ref (gL Γ (r + 2))) g1 (by decide) rfl dX3_put_22 fl_X3_19 25 rfl ?_
    refine z_aload_n hX dX3_put_25 0 rfl 26 rfl ?_
    refine z_get3 hX (k := r) (j := 0) (v := .int ((s4.1 r 0))) g1 (by decide) rfl dX3_put_26 fl_X3_9 29 rfl ?_
    refine z_iload_n hX dX3_put_29 2 rfl 30 rfl ?_
    replace h := gd_elim h
    obtain ⟨g5, h⟩ := h
    replace h := bd_elim h
    obtain ⟨s6, es6, h⟩ := h
    refine z_iast hX (inb_vp g5) dX3_put_30 es6 31 rfl ?_
    refine z_aload_n hX dX3_put_31 0 rfl 32 rfl ?_
    refine z_get3 hX (k := r) (j := 3) (v := .ref (gL Γ (r + 3))) g1 (by decide) rfl dX3_put_32 fl_X3_22 35 rfl ?_
    refine z_aload_n hX dX3_put_35 0 rfl 36 rfl ?_
    refine z_get3 hX (k := r) (j := 0) (v := .int ((s6.1 r 0))) g1 (by decide) rfl dX3_put_36 fl_X3_9 39 rfl ?_
    refine z_iload_n hX dX3_put_39 3 rfl 40 rfl ?_
    replace h := gd_elim h
    obtain ⟨g7, h⟩ := h
    replace h := bd_elim h
    obtain ⟨s8, es8, h⟩ := h
    refine z_iast hX (inb_vp g7) dX3_put_40 es8 41 rfl ?_
    refine z_aload_n hX dX3_put_41 0 rfl 42 rfl ?_
    refine z_get3 hX (k := r) (j := 4) (v := .ref (gL Γ (r + 4))) g1 (by decide) rfl dX3_put_42 fl_X3_25 45 rfl ?_
    refine z_aload_n hX dX3_put_45 0 rfl 46 rfl ?_
    refine z_get3 hX (k := r) (j := 0) (v := .int ((s8.1 r 0))) g1 (by decide) rfl dX3_put_46 fl_X3_9 49 rfl ?_
    refine z_iload hX dX3_put_49 4 rfl 51 rfl ?_
    replace h := gd_elim h
    obtain ⟨g9, h⟩ := h
    replace h := bd_elim h
    obtain ⟨s10, es10, h⟩ := h
    refine z_iast hX (inb_vp g9) dX3_put_51 es10 52 rfl ?_
    refine z_aload_n hX dX3_put_52 0 rfl 53 rfl ?_
    refine z_dup hX dX3_put_53 rfl 54 rfl ?_
    refine z_get3 hX (k := r) (j := 0) (v := .int ((s10.1 r 0))) g1 (by decide) rfl dX3_put_54 fl_X3_9 57 rfl ?_
    refine z_iconst hX (v := (nI 1)) dX3_put_57 rfl 58 rfl ?_
    refine z_iadd hX dX3_put_58 59 rfl ?_
    replace h := bd_elim h
    obtain ⟨s11, es11, h⟩ := h
    refine z_putI3 hX (k := r) (j := 0) g1 (by decide) rfl (by decide +kernel) (pwI_3_0 ..) dX3_put_59 fl_X3_9 es11 62 rfl ?_
    refine z_iconst hX (v := (nI 1)) dX3_put_62 rfl 63 rfl ?_
    replace h := Option.some.inj h
    subst h
    exact z_zret hX dX3_put_63 rfl (by decide) hk
  · replace h := br_neg h c2
    refine z_iconst hX (v := (nI 0)) dX3_put_9 rfl 10 rfl ?_
    replace h := Option.some.inj h
    subst h
    exact z_zret hX dX3_put_10 rfl (by decide) hk
theorem c_X3_put {lc : Launch} {Γ : Gm} {r : Nat} {a1 : Int32} {a2 : Int32} {a3 : Int32} {a4 : Int32} {s s2 : St} {v : Int32} (h : f_X3_put r a1 a2 a3 a4 s = some (v, s2)) : Ct lc Γ yX3_put cX3_put 5 (some .boolean) 0 [.ref (gL Γ (r)), .int a1, .int a2, .int a3, .int a4] s (some (.int v), s2) := Ct.of (by decide +kernel) (Nat.le_of_ble_eq_true rfl) (fun X hl hX => e_X3_put hX h rfl)
theorem dX3_farthest_0 : decode cX3_farthest 0 = .ok (.iconst 0, 1) := by decide +kernel
theorem dX3_farthest_1 : decode cX3_farthest 1 = .ok (.istore_n 1, 1) := by decide +kernel
theorem dX3_farthest_2 : decode cX3_farthest 2 = .ok (.iconst 0, 1) := by decide +kernel
theorem dX3_farthest_3 : decode cX3_farthest 3 = .ok (.istore_n 2, 1) := by decide +kernel
theorem dX3_farthest_4 : decode cX3_farthest 4 = .ok (.iload_n 2, 1) := by decide +kernel
theorem dX3_farthest_5 : decode cX3_farthest 5 = .ok (.aload_n 0, 1) := by decide +kernel
theorem dX3_farthest_6 : decode cX3_farthest 6 = .ok (.getfield 9, 3) := by decide +kernel
theorem dX3_farthest_9 : decode cX3_farthest 9 = .ok (.if_icmp .ge 20, 3) := by decide +kernel
theorem dX3_farthest_12 : decode cX3_farthest 12 = .ok (.iload_n 1, 1) := by decide +kernel
theorem dX3_farthest_13 : decode cX3_farthest 13 = .ok (.aload_n 0, 1) := by decide +kernel
theorem dX3_farthest_14 : decode cX3_farthest 14 = .ok (.getfield 22, 3) := by decide +kernel
theorem dX3_farthest_17 : decode cX3_farthest 17 = .ok (.iload_n 2, 1) := by decide +kernel
theorem dX3_farthest_18 : decode cX3_farthest 18 = .ok (.iaload, 1) := by decide +kernel
theorem dX3_farthest_19 : decode cX3_farthest 19 = .ok (.invokestatic 34, 3) := by decide +kernel
theorem dX3_farthest_22 : decode cX3_farthest 22 = .ok (.istore_n 1, 1) := by decide +kernel
theorem dX3_farthest_23 : decode cX3_farthest 23 = .ok (.iinc 2 1, 3) := by decide +kernel
theorem dX3_farthest_26 : decode cX3_farthest 26 = .ok (.goto (-22), 3) := by decide +kernel
theorem dX3_farthest_29 : decode cX3_farthest 29 = .ok (.iload_n 1, 1) := by decide +kernel
theorem dX3_farthest_30 : decode cX3_farthest 30 = .ok (.ireturn, 1) := by decide +kernel
def f_X3_farthest_L4 (r : Nat) (v1 : Int32) (v2 : Int32) (s : St) : Option ((Int32 × Int32 × St) ⊕ (Int32 × St)) := if kd (r) = 3 then if (s.1 r 0) ≤ v2 then (some (Sum.inr ((v1, s)))) else (if inb v2 (lnI (r + 3)) = true then bd (if v1 < (s.1 (r + 3) (v2).toNatClampNeg) then (s.1 (r + 3) (v2).toNatClampNeg) else v1) (fun x4 => some (Sum.inl (x4, (v2 + (nI 1)), s))) else none) else none
def f_X3_farthest (r : Nat) (s : St) : Option (Int32 × St) := lp (fun q : Int32 × Int32 × St => f_X3_farthest_L4 r q.1 q.2.1 q.2.2) Fu ((nI 0), (nI 0), s)
set_option maxHeartbeats 4000000 in
set_option maxRecDepth 100000 in
theorem e_X3_farthest_L4 {X : Cx} {Γ : Gm} {r0 : Rb} (hX : Amb X Γ cX3_farthest RX3 3 (some .int) 1) {r : Nat} {v1 : Int32} {v2 : Int32} {s : St} {t : (Int32 × Int32 × St) ⊕ (Int32 × St)} (h : f_X3_farthest_L4 r v1 v2 s = some t) (hk : (Sum.elim (fun q : Int32 × Int32 × St => Zw X Γ 3 r0 q.2.2 4 [(0, .ref (gL Γ (r))), (1, .int q.1), (2, .int q.2.1)] []) (fun t : Int32 × St => Rt X Γ r0 (some (Value.int t.1), t.2))) t) : Zw X Γ 3 r0 s 4 [(0, .ref (gL Γ (r))), (1, .int v1), (2, .int v2)] [] := by
  unfold f_X3_farthest_L4 at h
  refine z_iload_n hX dX3_farthest_4 2 rfl 5 rfl ?_
  refine z_aload_n hX dX3_farthest_5 0 rfl 6 rfl ?_
  replace h := gd_elim h
  obtain ⟨g1, h⟩ := h
  refine z_get3 hX (k := r) (j := 0) (v := .int ((s.1 r 0))) g1 (by decide) rfl dX3_farthest_6 fl_X3_9 9 rfl ?_
  refine z_icmp_ge hX 29 dX3_farthest_9 (by decide) 12 rfl (fun c2 => ?_) (fun c2 => ?_)
  · replace h := br_pos h c2
    refine z_iload_n hX dX3_farthest_29 1 rfl 30 rfl ?_
    replace h := Option.some.inj h
    subst h
    exact z_iret hX dX3_farthest_30 rfl hk
  · replace h := br_neg h c2
    refine z_iload_n hX dX3_farthest_12 1 rfl 13 rfl ?_
    refine z_aload_n hX dX3_farthest_13 0 rfl 14 rfl ?_
    refine z_get3 hX (k := r) (j := 3) (v := .ref (gL Γ (r + 3))) g1 (by decide) rfl dX3_farthest_14 fl_X3_22 17 rfl ?_
    refine z_iload_n hX dX3_farthest_17 2 rfl 18 rfl ?_
    replace h := gd_elim h
    obtain ⟨g3, h⟩ := h
    refine z_iald hX (inb_vp g3) dX3_farthest_18 19 rfl ?_
    refine z_mmax hX ml_X3_34 st_max in_Math co_max (by decide) (by decide) dX3_farthest_19 22 rfl ?_
    replace h := bd_elim h
    obtain ⟨x4, ex4, h⟩ := h
    refine z_nm ex4 ?_
    refine z_istore_n hX (lv2 := [(1, .int x4), (0, .ref (gL Γ (r))), (2, .int v2)]) dX3_farthest_22 (by decide) rfl 23 rfl ?_
    refine z_iinc hX (v := (v2 + (nI 1))) (lv2 := [(2, .int ((v2 + (nI 1)))), (1, .int x4), (0, .ref (gL Γ (r)))]) dX3_farthest_23 2 rfl rfl (by decide) rfl 26 rfl ?_
    refine z_goto hX 4 dX3_farthest_26 (by decide) ?_
    replace h := Option.some.inj h
    subst h
    exact z_sub [2, 1, 0] rfl hk
set_option maxHeartbeats 4000000 in
set_option maxRecDepth 100000 in
theorem e_X3_farthest {X : Cx} {Γ : Gm} {r0 : Rb} (hX : Amb X Γ cX3_farthest RX3 3 (some .int) 1) {r : Nat} {s : St} {t : Int32 × St} (h : f_X3_farthest r s = some t) (hk : (fun t : Int32 × St => Rt X Γ r0 (some (Value.int t.1), t.2)) t) : Zw X Γ 3 r0 s 0 [(0, .ref (gL Γ (r)))] [] := by
  unfold f_X3_farthest at h
  refine z_iconst hX (v := (nI 0)) dX3_farthest_0 rfl 1 rfl ?_
  refine z_istore_n hX (lv2 := [(1, .int ((nI 0))), (0, .ref (gL Γ (r)))]) dX3_farthest_1 (by decide) rfl 2 rfl ?_
  refine z_iconst hX (v := (nI 0)) dX3_farthest_2 rfl 3 rfl ?_
  refine z_istore_n hX (lv2 := [(2, .int ((nI 0))), (1, .int ((nI 0))), (0, .ref (gL Γ (r)))]) dX3_farthest_3 (by decide) rfl 4 rfl ?_
  exact z_sub [2, 1, 0] rfl (lp_ok (Z := fun q : Int32 × Int32 × St => Zw X Γ 3 r0 q.2.2 4 [(0, .ref (gL Γ (r))), (1, .int q.1), (2, .int q.2.1)] []) (fun q t h hk => e_X3_farthest_L4 hX h hk) Fu _ _ h hk)
theorem c_X3_farthest {lc : Launch} {Γ : Gm} {r : Nat} {s s2 : St} {v : Int32} (h : f_X3_farthest r s = some (v, s2)) : Ct lc Γ yX3_farthest cX3_farthest 3 (some .int) 1 [.ref (gL Γ (r))] s (some (.int v), s2) := Ct.of (by decide +kernel) (Nat.le_of_ble_eq_true rfl) (fun X hl hX => e_X3_farthest hX h rfl)
theorem dX3_fitsBehind_0 : decode cX3_fitsBehind 0 = .ok (.iconst 0, 1) := by decide +kernel
theorem dX3_fitsBehind_1 : decode cX3_fitsBehind 1 = .ok (.istore_n 3, 1) := by decide +kernel
theorem dX3_fitsBehind_2 : decode cX3_fitsBehind 2 = .ok (.iload_n 3, 1) := by decide +kernel
theorem dX3_fitsBehind_3 : decode cX3_fitsBehind 3 = .ok (.aload_n 0, 1) := by decide +kernel
theorem dX3_fitsBehind_4 : decode cX3_fitsBehind 4 = .ok (.getfield 9, 3) := by decide +kernel
theorem dX3_fitsBehind_7 : decode cX3_fitsBehind 7 = .ok (.if_icmp .ge 46, 3) := by decide +kernel
theorem dX3_fitsBehind_10 : decode cX3_fitsBehind 10 = .ok (.aload_n 0, 1) := by decide +kernel
theorem dX3_fitsBehind_11 : decode cX3_fitsBehind 11 = .ok (.getfield 22, 3) := by decide +kernel
theorem dX3_fitsBehind_14 : decode cX3_fitsBehind 14 = .ok (.iload_n 3, 1) := by decide +kernel
theorem dX3_fitsBehind_15 : decode cX3_fitsBehind 15 = .ok (.iaload, 1) := by decide +kernel
theorem dX3_fitsBehind_16 : decode cX3_fitsBehind 16 = .ok (.iload_n 2, 1) := by decide +kernel
theorem dX3_fitsBehind_17 : decode cX3_fitsBehind 17 = .ok (.if_icmp .ne 30, 3) := by decide +kernel
theorem dX3_fitsBehind_20 : decode cX3_fitsBehind 20 = .ok (.aload_n 1, 1) := by decide +kernel
theorem dX3_fitsBehind_21 : decode cX3_fitsBehind 21 = .ok (.aload_n 0, 1) := by decide +kernel
theorem dX3_fitsBehind_22 : decode cX3_fitsBehind 22 = .ok (.getfield 15, 3) := by decide +kernel
theorem dX3_fitsBehind_25 : decode cX3_fitsBehind 25 = .ok (.iload_n 3, 1) := by decide +kernel
theorem dX3_fitsBehind_26 : decode cX3_fitsBehind 26 = .ok (.iaload, 1) := by decide +kernel
theorem dX3_fitsBehind_27 : decode cX3_fitsBehind 27 = .ok (.aload_n 0, 1) := by decide +kernel
theorem dX3_fitsBehind_28 : decode cX3_fitsBehind 28 = .ok (.getfield 19, 3) := by decide +kernel
theorem dX3_fitsBehind_31 : decode cX3_fitsBehind 31 = .ok (.iload_n 3, 1) := by decide +kernel
theorem dX3_fitsBehind_32 : decode cX3_fitsBehind 32 = .ok (.iaload, 1) := by decide +kernel
theorem dX3_fitsBehind_33 : decode cX3_fitsBehind 33 = .ok (.invokevirtual 54, 3) := by decide +kernel
theorem dX3_fitsBehind_36 : decode cX3_fitsBehind 36 = .ok (.aload_n 0, 1) := by decide +kernel
theorem dX3_fitsBehind_37 : decode cX3_fitsBehind 37 = .ok (.getfield 25, 3) := by decide +kernel
theorem dX3_fitsBehind_40 : decode cX3_fitsBehind 40 = .ok (.iload_n 3, 1) := by decide +kernel
theorem dX3_fitsBehind_41 : decode cX3_fitsBehind 41 = .ok (.iaload, 1) := by decide +kernel
theorem dX3_fitsBehind_42 : decode cX3_fitsBehind 42 = .ok (.if_icmp .eq 5, 3) := by decide +kernel
theorem dX3_fitsBehind_45 : decode cX3_fitsBehind 45 = .ok (.iconst 0, 1) := by decide +kernel
theorem dX3_fitsBehind_46 : decode cX3_fitsBehind 46 = .ok (.ireturn, 1) := by decide +kernel
theorem dX3_fitsBehind_47 : decode cX3_fitsBehind 47 = .ok (.iinc 3 1, 3) := by decide +kernel
theorem dX3_fitsBehind_50 : decode cX3_fitsBehind 50 = .ok (.goto (-48), 3) := by decide +kernel
theorem dX3_fitsBehind_53 : decode cX3_fitsBehind 53 = .ok (.iconst 1, 1) := by decide +kernel
theorem dX3_fitsBehind_54 : decode cX3_fitsBehind 54 = .ok (.ireturn, 1) := by decide +kernel
def f_X3_fitsBehind_L2 (r : Nat) (v1 : Nat) (v2 : Int32) (v3 : Int32) (s : St) : Option ((Int32 × St) ⊕ (Int32 × St)) := if kd (r) = 3 then if (s.1 r 0) ≤ v3 then (some (Sum.inr (((nI 1), s)))) else (if inb v3 (lnI (r + 3)) = true then if ¬ (s.1 (r + 3) (v3).toNatClampNeg) = v2 then (some (Sum.inl ((v3 + (nI 1)), s))) else (if inb v3 (lnI (r + 1)) = true then if inb v3 (lnI (r + 2)) = true then if kd (v1) = 2 then cl (f_X2_held v1 (s.1 (r + 1) (v3).toNatClampNeg) (s.1 (r + 2) (v3).toNatClampNeg) s) (fun x8 s7 => if inb v3 (lnI (r + 4)) = true then if x8 = (s7.1 (r + 4) (v3).toNatClampNeg) then (some (Sum.inl ((v3 + (nI 1)), s7))) else (some (Sum.inr (((nI 0), s7)))) else none) else none else none else none) else none) else none
def f_X3_fitsBehind (r : Nat) (a1 : Nat) (a2 : Int32) (s : St) : Option (Int32 × St) := lp (fun q : Int32 × St => f_X3_fitsBehind_L2 r a1 a2 q.1 q.2) Fu ((nI 0), s)
set_option maxHeartbeats 4000000 in
set_option maxRecDepth 100000 in
theorem e_X3_fitsBehind_L2 {X : Cx} {Γ : Gm} {r0 : Rb} (hX : Amb X Γ cX3_fitsBehind RX3 4 (some .boolean) 1) {r : Nat} {v1 : Nat} {v2 : Int32} {v3 : Int32} {s : St} {t : (Int32 × St) ⊕ (Int32 × St)} (h : f_X3_fitsBehind_L2 r v1 v2 v3 s = some t) (hk : (Sum.elim (fun q : Int32 × St => Zw X Γ 4 r0 q.2 2 [(0, .ref (gL Γ (r))), (1, .ref (gL Γ (v1))), (2, .int v2), (3, .int q.1)] []) (fun t : Int32 × St => Rt X Γ r0 (some (Value.int t.1), t.2))) t) : Zw X Γ 4 r0 s 2 [(0, .ref (gL Γ (r))), (1, .ref (gL Γ (v1))), (2, .int v2), (3, .int v3)] [] := by
  unfold f_X3_fitsBehind_L2 at h
  refine z_iload_n hX dX3_fitsBehind_2 3 rfl 3 rfl ?_
  refine z_aload_n hX dX3_fitsBehind_3 0 rfl 4 rfl ?_
  replace h := gd_elim h
  obtain ⟨g1, h⟩ := h
  refine z_get3 hX (k := r) (j := 0) (v := .int ((s.1 r 0))) g1 (by decide) rfl dX3_fitsBehind_4 fl_X3_9 7 rfl ?_
  refine z_icmp_ge hX 53 dX3_fitsBehind_7 (by decide) 10 rfl (fun c2 => ?_) (fun c2 => ?_)
  · replace h := br_pos h c2
    refine z_iconst hX (v := (nI 1)) dX3_fitsBehind_53 rfl 54 rfl ?_
    replace h := Option.some.inj h
    subst h
    exact z_zret hX dX3_fitsBehind_54 rfl (by decide) hk
  · replace h := br_neg h c2
    refine z_aload_n hX dX3_fitsBehind_10 0 rfl 11 rfl ?_
    refine z_get3 hX (k := r) (j := 3) (v := .ref (gL Γ (r + 3))) g1 (by decide) rfl dX3_fitsBehind_11 fl_X3_22 14 rfl ?_
    refine z_iload_n hX dX3_fitsBehind_14 3 rfl 15 rfl ?_
    replace h := gd_elim h
    obtain ⟨g3, h⟩ := h
    refine z_iald hX (inb_vp g3) dX3_fitsBehind_15 16 rfl ?_
    refine z_iload_n hX dX3_fitsBehind_16 2 rfl 17 rfl ?_
    refine z_icmp_ne hX 47 dX3_fitsBehind_17 (by decide) 20 rfl (fun c4 => ?_) (fun c4 => ?_)
    · replace h := br_pos h c4
      refine z_iinc hX (v := (v3 + (nI 1))) (lv2 := [(3, .int ((v3 + (nI 1)))), (0, .ref (gL Γ (r))), (1, .ref (gL Γ (v1))), (2, .int v2)]) dX3_fitsBehind_47 3 rfl rfl (by decide) rfl 50 rfl ?_
      refine z_goto hX 2 dX3_fitsBehind_50 (by decide) ?_
      replace h := Option.some.inj h
      subst h
      exact z_sub [1, 2, 3, 0] rfl hk
    · replace h := br_neg h c4
      refine z_aload_n hX dX3_fitsBehind_20 1 rfl 21 rfl ?_
      refine z_aload_n hX dX3_fitsBehind_21 0 rfl 22 rfl ?_
      refine z_get3 hX (k := r) (j := 1) (v := .ref (gL Γ (r + 1))) g1 (by decide) rfl dX3_fitsBehind_22 fl_X3_15 25 rfl ?_
      refine z_iload_n hX dX3_fitsBehind_25 3 rfl 26 rfl ?_
      replace h := gd_elim h
      obtain ⟨g5, h⟩ := h
      refine z_iald hX (inb_vp g5) dX3_fitsBehind_26 27 rfl ?_
      refine z_aload_n hX dX3_fitsBehind_27 0 rfl 28 rfl ?_
      refine z_get3 hX (k := r) (j := 2) (v := .ref (gL Γ (r + 2))) g1 (by decide) rfl dX3_fitsBehind_28 fl_X3_19 31 rfl ?_
      refine z_iload_n hX dX3_fitsBehind_31 3 rfl 32 rfl ?_
      replace h := gd_elim h
      obtain ⟨g6, h⟩ := h
      refine z_iald hX (inb_vp g6) dX3_fitsBehind_32 33 rfl ?_
      replace h := gd_elim h
      obtain ⟨g9, h⟩ := h
      replace h := cl_elim h
      obtain ⟨x8, s7, hx8, h⟩ := h
      refine z_cV2i hX (b := v1) (As := [.int ((s.1 (r + 1) (v3).toNatClampNeg)), .int ((s.1 (r + 2) (v3).toNatClampNeg))]) (c_X2_held hx8) lk_X3_54 rfl g9 ds_X2_held rfl (by decide) (by decide) (by decide) dX3_fitsBehind_33 rfl 36 rfl ?_
      refine z_aload_n hX dX3_fitsBehind_36 0 rfl 37 rfl ?_
      refine z_get3 hX (k := r) (j := 4) (v := .ref (gL Γ (r + 4))) g1 (by decide) rfl dX3_fitsBehind_37 fl_X3_25 40 rfl ?_
      refine z_iload_n hX dX3_fitsBehind_40 3 rfl 41 rfl ?_
      replace h := gd_elim h
      obtain ⟨g10, h⟩ := h
      refine z_iald hX (inb_vp g10) dX3_fitsBehind_41 42 rfl ?_
      refine z_icmp_eq hX 47 dX3_fitsBehind_42 (by decide) 45 rfl (fun c11 => ?_) (fun c11 => ?_)
      · replace h := br_pos h c11
        refine z_iinc hX (v := (v3 + (nI 1))) (lv2 := [(3, .int ((v3 + (nI 1)))), (0, .ref (gL Γ (r))), (1, .ref (gL Γ (v1))), (2, .int v2)]) dX3_fitsBehind_47 3 rfl rfl (by decide) rfl 50 rfl ?_
        refine z_goto hX 2 dX3_fitsBehind_50 (by decide) ?_
        replace h := Option.some.inj h
        subst h
        exact z_sub [1, 2, 3, 0] rfl hk
      · replace h := br_neg h c11
        refine z_iconst hX (v := (nI 0)) dX3_fitsBehind_45 rfl 46 rfl ?_
        replace h := Option.some.inj h
        subst h
        exact z_zret hX dX3_fitsBehind_46 rfl (by decide) hk
set_option maxHeartbeats 4000000 in
set_option maxRecDepth 100000 in
theorem e_X3_fitsBehind {X : Cx} {Γ : Gm} {r0 : Rb} (hX : Amb X Γ cX3_fitsBehind RX3 4 (some .boolean) 1) {r : Nat} {a1 : Nat} {a2 : Int32} {s : St} {t : Int32 × St} (h : f_X3_fitsBehind r a1 a2 s = some t) (hk : (fun t : Int32 × St => Rt X Γ r0 (some (Value.int t.1), t.2)) t) : Zw X Γ 4 r0 s 0 [(0, .ref (gL Γ (r))), (1, .ref (gL Γ (a1))), (2, .int a2)] [] := by
  unfold f_X3_fitsBehind at h
  refine z_iconst hX (v := (nI 0)) dX3_fitsBehind_0 rfl 1 rfl ?_
  refine z_istore_n hX (lv2 := [(3, .int ((nI 0))), (0, .ref (gL Γ (r))), (1, .ref (gL Γ (a1))), (2, .int a2)]) dX3_fitsBehind_1 (by decide) rfl 2 rfl ?_
  exact z_sub [1, 2, 3, 0] rfl (lp_ok (Z := fun q : Int32 × St => Zw X Γ 4 r0 q.2 2 [(0, .ref (gL Γ (r))), (1, .ref (gL Γ (a1))), (2, .int a2), (3, .int q.1)] []) (fun q t h hk => e_X3_fitsBehind_L2 hX h hk) Fu _ _ h hk)
theorem c_X3_fitsBehind {lc : Launch} {Γ : Gm} {r : Nat} {a1 : Nat} {a2 : Int32} {s s2 : St} {v : Int32} (h : f_X3_fitsBehind r a1 a2 s = some (v, s2)) : Ct lc Γ yX3_fitsBehind cX3_fitsBehind 4 (some .boolean) 1 [.ref (gL Γ (r)), .ref (gL Γ (a1)), .int a2] s (some (.int v), s2) := Ct.of (by decide +kernel) (Nat.le_of_ble_eq_true rfl) (fun X hl hX => e_X3_fitsBehind hX h rfl)
theorem dX3_fits_0 : decode cX3_fits 0 = .ok (.iconst 0, 1) := by decide +kernel
theorem dX3_fits_1 : decode cX3_fits 1 = .ok (.istore_n 3, 1) := by decide +kernel
theorem dX3_fits_2 : decode cX3_fits 2 = .ok (.iload_n 3, 1) := by decide +kernel
theorem dX3_fits_3 : decode cX3_fits 3 = .ok (.iload_n 2, 1) := by decide +kernel
theorem dX3_fits_4 : decode cX3_fits 4 = .ok (.if_icmp .ge 29, 3) := by decide +kernel
theorem dX3_fits_7 : decode cX3_fits 7 = .ok (.aload_n 0, 1) := by decide +kernel
theorem dX3_fits_8 : decode cX3_fits 8 = .ok (.aload_n 1, 1) := by decide +kernel
theorem dX3_fits_9 : decode cX3_fits 9 = .ok (.iload_n 3, 1) := by decide +kernel
theorem dX3_fits_10 : decode cX3_fits 10 = .ok (.invokevirtual 40, 3) := by decide +kernel
theorem dX3_fits_13 : decode cX3_fits 13 = .ok (.ifCond .ne 5, 3) := by decide +kernel
theorem dX3_fits_16 : decode cX3_fits 16 = .ok (.iconst 0, 1) := by decide +kernel
theorem dX3_fits_17 : decode cX3_fits 17 = .ok (.ireturn, 1) := by decide +kernel
theorem dX3_fits_18 : decode cX3_fits 18 = .ok (.aload_n 1, 1) := by decide +kernel
theorem dX3_fits_19 : decode cX3_fits 19 = .ok (.aload_n 1, 1) := by decide +kernel
theorem dX3_fits_20 : decode cX3_fits 20 = .ok (.invokevirtual 44, 3) := by decide +kernel
theorem dX3_fits_23 : decode cX3_fits 23 = .ok (.invokevirtual 50, 3) := by decide +kernel
theorem dX3_fits_26 : decode cX3_fits 26 = .ok (.pop, 1) := by decide +kernel
theorem dX3_fits_27 : decode cX3_fits 27 = .ok (.iinc 3 1, 3) := by decide +kernel
theorem dX3_fits_30 : decode cX3_fits 30 = .ok (.goto (-28), 3) := by decide +kernel
theorem dX3_fits_33 : decode cX3_fits 33 = .ok (.aload_n 0, 1) := by decide +kernel
theorem dX3_fits_34 : decode cX3_fits 34 = .ok (.aload_n 1, 1) := by decide +kernel
theorem dX3_fits_35 : decode cX3_fits 35 = .ok (.iload_n 2, 1) := by decide +kernel
theorem dX3_fits_36 : decode cX3_fits 36 = .ok (.invokevirtual 40, 3) := by decide +kernel
theorem dX3_fits_39 : decode cX3_fits 39 = .ok (.ireturn, 1) := by decide +kernel
def f_X3_fits_L2 (r : Nat) (v1 : Nat) (v2 : Int32) (v3 : Int32) (s : St) : Option ((Int32 × St) ⊕ (Int32 × St)) := if v2 ≤ v3 then (if kd (r) = 3 then cl (f_X3_fitsBehind r v1 v2 s) (fun x3 s2 => if x3 = 0 ∨ x3 = 1 then some (Sum.inr ((x3, s2))) else none) else none) else (if kd (r) = 3 then cl (f_X3_fitsBehind r v1 v3 s) (fun x7 s6 => if ¬ x7 = 0 then (if kd (v1) = 2 then cl (f_X2_wayNow v1 s6) (fun x11 s10 => cl (f_X2_pass v1 x11 s10) (fun x14 s13 => some (Sum.inl ((v3 + (nI 1)), s13)))) else none) else (some (Sum.inr (((nI 0), s6))))) else none)
def f_X3_fits (r : Nat) (a1 : Nat) (a2 : Int32) (s : St) : Option (Int32 × St) := lp (fun q : Int32 × St => f_X3_fits_L2 r a1 a2 q.1 q.2) Fu ((nI 0), s)
set_option maxHeartbeats 4000000 in
set_option maxRecDepth 100000 in
theorem e_X3_fits_L2 {X : Cx} {Γ : Gm} {r0 : Rb} (hX : Amb X Γ cX3_fits RX3 4 (some .boolean) 4) {r : Nat} {v1 : Nat} {v2 : Int32} {v3 : Int32} {s : St} {t : (Int32 × St) ⊕ (Int32 × St)} (h : f_X3_fits_L2 r v1 v2 v3 s = some t) (hk : (Sum.elim (fun q : Int32 × St => Zw X Γ 4 r0 q.2 2 [(0, .ref (gL Γ (r))), (1, .ref (gL Γ (v1))), (2, .int v2), (3, .int q.1)] []) (fun t : Int32 × St => Rt X Γ r0 (some (Value.int t.1), t.2))) t) : Zw X Γ 4 r0 s 2 [(0, .ref (gL Γ (r))), (1, .ref (gL Γ (v1))), (2, .int v2), (3, .int v3)] [] := by
  unfold f_X3_fits_L2 at h
  refine z_iload_n hX dX3_fits_2 3 rfl 3 rfl ?_
  refine z_iload_n hX dX3_fits_3 2 rfl 4 rfl ?_
  refine z_icmp_ge hX 33 dX3_fits_4 (by decide) 7 rfl (fun c1 => ?_) (fun c1 => ?_)
  · replace h := br_pos h c1
    refine z_aload_n hX dX3_fits_33 0 rfl 34 rfl ?_
    refine z_aload_n hX dX3_fits_34 1 rfl 35 rfl ?_
    refine z_iload_n hX dX3_fits_35 2 rfl 36 rfl ?_
    replace h := gd_elim h
    obtain ⟨g4, h⟩ := h
    replace h := cl_elim h
    obtain ⟨x3, s2, hx3, h⟩ := h
    refine z_cV3i hX (b := r) (As := [.ref (gL Γ (v1)), .int v2]) (c_X3_fitsBehind hx3) lk_X3_40 rfl g4 ds_X3_fitsBehind rfl (by decide) (by decide) (by decide) dX3_fits_36 rfl 39 rfl ?_
    replace h := gd_elim h
    obtain ⟨g5, h⟩ := h
    replace h := Option.some.inj h
    subst h
    exact z_zret hX dX3_fits_39 rfl g5 hk
  · replace h := br_neg h c1
    refine z_aload_n hX dX3_fits_7 0 rfl 8 rfl ?_
    refine z_aload_n hX dX3_fits_8 1 rfl 9 rfl ?_
    refine z_iload_n hX dX3_fits_9 3 rfl 10 rfl ?_
    replace h := gd_elim h
    obtain ⟨g8, h⟩ := h
    replace h := cl_elim h
    obtain ⟨x7, s6, hx7, h⟩ := h
    refine z_cV3i hX (b := r) (As := [.ref (gL Γ (v1)), .int v3]) (c_X3_fitsBehind hx7) lk_X3_40 rfl g8 ds_X3_fitsBehind rfl (by decide) (by decide) (by decide) dX3_fits_10 rfl 13 rfl ?_
    refine z_if_ne hX 18 dX3_fits_13 (by decide) 16 rfl (fun c9 => ?_) (fun c9 => ?_)
    · replace h := br_pos h c9
      refine z_aload_n hX dX3_fits_18 1 rfl 19 rfl ?_
      refine z_aload_n hX dX3_fits_19 1 rfl 20 rfl ?_
      replace h := gd_elim h
      obtain ⟨g12, h⟩ := h
      replace h := cl_elim h
      obtain ⟨x11, s10, hx11, h⟩ := h
      refine z_cV2i hX (b := v1) (As := []) (c_X2_wayNow hx11) lk_X3_44 rfl g12 ds_X2_wayNow rfl (by decide) (by decide) (Nat.le_of_ble_eq_true rfl) dX3_fits_20 rfl 23 rfl ?_
      replace h := cl_elim h
      obtain ⟨x14, s13, hx14, h⟩ := h
      refine z_cV2i hX (b := v1) (As := [.int x11]) (c_X2_pass hx14) lk_X3_50 rfl g12 ds_X2_pass rfl (by decide) (by decide) (by decide) dX3_fits_23 rfl 26 rfl ?_
      refine z_pop hX dX3_fits_26 rfl 27 rfl ?_
      refine z_iinc hX (v := (v3 + (nI 1))) (lv2 := [(3, .int ((v3 + (nI 1)))), (0, .ref (gL Γ (r))), (1, .ref (gL Γ (v1))), (2, .int v2)]) dX3_fits_27 3 rfl rfl (by decide) rfl 30 rfl ?_
      refine z_goto hX 2 dX3_fits_30 (by decide) ?_
      replace h := Option.some.inj h
      subst h
      exact z_sub [1, 2, 3, 0] rfl hk
    · replace h := br_neg h c9
      refine z_iconst hX (v := (nI 0)) dX3_fits_16 rfl 17 rfl ?_
      replace h := Option.some.inj h
      subst h
      exact z_zret hX dX3_fits_17 rfl (by decide) hk
set_option maxHeartbeats 4000000 in
set_option maxRecDepth 100000 in
theorem e_X3_fits {X : Cx} {Γ : Gm} {r0 : Rb} (hX : Amb X Γ cX3_fits RX3 4 (some .boolean) 4) {r : Nat} {a1 : Nat} {a2 : Int32} {s : St} {t : Int32 × St} (h : f_X3_fits r a1 a2 s = some t) (hk : (fun t : Int32 × St => Rt X Γ r0 (some (Value.int t.1), t.2)) t) : Zw X Γ 4 r0 s 0 [(0, .ref (gL Γ (r))), (1, .ref (gL Γ (a1))), (2, .int a2)] [] := by
  unfold f_X3_fits at h
  refine z_iconst hX (v := (nI 0)) dX3_fits_0 rfl 1 rfl ?_
  refine z_istore_n hX (lv2 := [(3, .int ((nI 0))), (0, .ref (gL Γ (r))), (1, .ref (gL Γ (a1))), (2, .int a2)]) dX3_fits_1 (by decide) rfl 2 rfl ?_
  exact z_sub [1, 2, 3, 0] rfl (lp_ok (Z := fun q : Int32 × St => Zw X Γ 4 r0 q.2 2 [(0, .ref (gL Γ (r))), (1, .ref (gL Γ (a1))), (2, .int a2), (3, .int q.1)] []) (fun q t h hk => e_X3_fits_L2 hX h hk) Fu _ _ h hk)
theorem c_X3_fits {lc : Launch} {Γ : Gm} {r : Nat} {a1 : Nat} {a2 : Int32} {s s2 : St} {v : Int32} (h : f_X3_fits r a1 a2 s = some (v, s2)) : Ct lc Γ yX3_fits cX3_fits 4 (some .boolean) 4 [.ref (gL Γ (r)), .ref (gL Γ (a1)), .int a2] s (some (.int v), s2) := Ct.of (by decide +kernel) (Nat.le_of_ble_eq_true rfl) (fun X hl hX => e_X3_fits hX h rfl)
theorem dX4_isNothing_0 : decode cX4_isNothing 0 = .ok (.aload_n 0, 1) := by decide +kernel
theorem dX4_isNothing_1 : decode cX4_isNothing 1 = .ok (.getfield 11, 3) := by decide +kernel
theorem dX4_isNothing_4 : decode cX4_isNothing 4 = .ok (.iconst (-1), 1) := by decide +kernel
theorem dX4_isNothing_5 : decode cX4_isNothing 5 = .ok (.if_icmp .ne 7, 3) := by decide +kernel
theorem dX4_isNothing_8 : decode cX4_isNothing 8 = .ok (.iconst 1, 1) := by decide +kernel
theorem dX4_isNothing_9 : decode cX4_isNothing 9 = .ok (.goto 4, 3) := by decide +kernel
theorem dX4_isNothing_12 : decode cX4_isNothing 12 = .ok (.iconst 0, 1) := by decide +kernel
theorem dX4_isNothing_13 : decode cX4_isNothing 13 = .ok (.ireturn, 1) := by decide +kernel
def f_X4_isNothing (r : Nat) (s : St) : Option (Int32 × St) := if kd (r) = 4 then if ¬ (s.1 r 0) = (-1) then (some (((nI 0), s))) else (some (((nI 1), s))) else none
set_option maxHeartbeats 4000000 in
set_option maxRecDepth 100000 in
theorem e_X4_isNothing {X : Cx} {Γ : Gm} {r0 : Rb} (hX : Amb X Γ cX4_isNothing RX4 1 (some .boolean) 0) {r : Nat} {s : St} {t : Int32 × St} (h : f_X4_isNothing r s = some t) (hk : (fun t : Int32 × St => Rt X Γ r0 (some (Value.int t.1), t.2)) t) : Zw X Γ 1 r0 s 0 [(0, .ref (gL Γ (r)))] [] := by
  unfold f_X4_isNothing at h
  refine z_aload_n hX dX4_isNothing_0 0 rfl 1 rfl ?_
  replace h := gd_elim h
  obtain ⟨g1, h⟩ := h
  refine z_get4 hX (k := r) (j := 0) (v := .int ((s.1 r 0))) g1 (by decide) rfl dX4_isNothing_1 fl_X4_11 4 rfl ?_
  refine z_iconst hX (v := (-1)) dX4_isNothing_4 rfl 5 rfl ?_
  refine z_icmp_ne hX 12 dX4_isNothing_5 (by decide) 8 rfl (fun c2 => ?_) (fun c2 => ?_)
  · replace h := br_pos h c2
    refine z_iconst hX (v := (nI 0)) dX4_isNothing_12 rfl 13 rfl ?_
    replace h := Option.some.inj h
    subst h
    exact z_zret hX dX4_isNothing_13 rfl (by decide) hk
  · replace h := br_neg h c2
    refine z_iconst hX (v := (nI 1)) dX4_isNothing_8 rfl 9 rfl ?_
    refine z_goto hX 13 dX4_isNothing_9 (by decide) ?_
    replace h := Option.some.inj h
    subst h
    exact z_zret hX dX4_isNothing_13 rfl (by decide) hk
theorem c_X4_isNothing {lc : Launch} {Γ : Gm} {r : Nat} {s s2 : St} {v : Int32} (h : f_X4_isNothing r s = some (v, s2)) : Ct lc Γ yX4_isNothing cX4_isNothing 1 (some .boolean) 0 [.ref (gL Γ (r))] s (some (.int v), s2) := Ct.of (by decide +kernel) (Nat.le_of_ble_eq_true rfl) (fun X hl hX => e_X4_isNothing hX h rfl)
theorem dX4_renew_0 : decode cX4_renew 0 = .ok (.aload_n 0, 1) := by decide +kernel
theorem dX4_renew_1 : decode cX4_renew 1 = .ok (.iload_n 1, 1) := by decide +kernel
theorem dX4_renew_2 : decode cX4_renew 2 = .ok (.putfield 11, 3) := by decide +kernel
theorem dX4_renew_5 : decode cX4_renew 5 = .ok (.aload_n 0, 1) := by decide +kernel
theorem dX4_renew_6 : decode cX4_renew 6 = .ok (.iload_n 2, 1) := by decide +kernel
theorem dX4_renew_7 : decode cX4_renew 7 = .ok (.putfield 15, 3) := by decide +kernel
theorem dX4_renew_10 : decode cX4_renew 10 = .ok (.aload_n 0, 1) := by decide +kernel
theorem dX4_renew_11 : decode cX4_renew 11 = .ok (.getfield 18, 3) := by decide +kernel
theorem dX4_renew_14 : decode cX4_renew 14 = .ok (.iconst 0, 1) := by decide +kernel
theorem dX4_renew_15 : decode cX4_renew 15 = .ok (.invokestatic 22, 3) := by decide +kernel
theorem dX4_renew_18 : decode cX4_renew 18 = .ok (.return_, 1) := by decide +kernel
def f_X4_renew (r : Nat) (a1 : Int32) (a2 : Int32) (s : St) : Option (Unit × St) := if kd (r) = 4 then bd (wI s r 0 a1) (fun s2 => bd (wI s2 r 1 a2) (fun s3 => cl (f_J7_fill_53178 (r + 1) (nI 0) s3) (fun x5 s4 => some (((), s4))))) else none
set_option maxHeartbeats 4000000 in
set_option maxRecDepth 100000 in
theorem e_X4_renew {X : Cx} {Γ : Gm} {r0 : Rb} (hX : Amb X Γ cX4_renew RX4 3 none 1) {r : Nat} {a1 : Int32} {a2 : Int32} {s : St} {t : Unit × St} (h : f_X4_renew r a1 a2 s = some t) (hk : (fun t : Unit × St => Rt X Γ r0 (none, t.2)) t) : Zw X Γ 3 r0 s 0 [(0, .ref (gL Γ (r))), (1, .int a1), (2, .int a2)] [] := by
  unfold f_X4_renew at h
  refine z_aload_n hX dX4_renew_0 0 rfl 1 rfl ?_
  refine z_iload_n hX dX4_renew_1 1 rfl 2 rfl ?_
  replace h := gd_elim h
  obtain ⟨g1, h⟩ := h
  replace h := bd_elim h
  obtain ⟨s2, es2, h⟩ := h
  refine z_putI4 hX (k := r) (j := 0) g1 (by decide) rfl (by decide +kernel) (pwI_4_0 ..) dX4_renew_2 fl_X4_11 es2 5 rfl ?_
  refine z_aload_n hX dX4_renew_5 0 rfl 6 rfl ?_
  refine z_iload_n hX dX4_renew_6 2 rfl 7 rfl ?_
  replace h := bd_elim h
  obtain ⟨s3, es3, h⟩ := h
  refine z_putI4 hX (k := r) (j := 1) g1 (by decide) rfl (by decide +kernel) (pwI_4_1 ..) dX4_renew_7 fl_X4_15 es3 10 rfl ?_
  refine z_aload_n hX dX4_renew_10 0 rfl 11 rfl ?_
  refine z_get4 hX (k := r) (j := 2) (v := .ref (gL Γ (r + 1))) g1 (by decide) rfl dX4_renew_11 fl_X4_18 14 rfl ?_
  refine z_iconst hX (v := (nI 0)) dX4_renew_14 rfl 15 rfl ?_
  replace h := cl_elim h
  obtain ⟨x5, s4, hx5, h⟩ := h
  refine z_cSv hX (As := [.ref (gL Γ (r + 1)), .int ((nI 0))]) (c_J7_fill_53178 hx5) lk_X4_22 ds_J7_fill_53178 rfl (by decide) (by decide) (by decide) dX4_renew_15 rfl 18 rfl ?_
  replace h := Option.some.inj h
  subst h
  exact z_vret hX dX4_renew_18 rfl hk
theorem c_X4_renew {lc : Launch} {Γ : Gm} {r : Nat} {a1 : Int32} {a2 : Int32} {s s2 : St} {v : Unit} (h : f_X4_renew r a1 a2 s = some (v, s2)) : Ct lc Γ yX4_renew cX4_renew 3 none 1 [.ref (gL Γ (r)), .int a1, .int a2] s (none, s2) := Ct.of (by decide +kernel) (Nat.le_of_ble_eq_true rfl) (fun X hl hX => e_X4_renew hX h rfl)
theorem dX4_put_0 : decode cX4_put 0 = .ok (.aload_n 0, 1) := by decide +kernel
theorem dX4_put_1 : decode cX4_put 1 = .ok (.getfield 18, 3) := by decide +kernel
theorem dX4_put_4 : decode cX4_put 4 = .ok (.iload_n 1, 1) := by decide +kernel
theorem dX4_put_5 : decode cX4_put 5 = .ok (.aload_n 0, 1) := by decide +kernel
theorem dX4_put_6 : decode cX4_put 6 = .ok (.getfield 11, 3) := by decide +kernel
theorem dX4_put_9 : decode cX4_put 9 = .ok (.ifCond .ne 8, 3) := by decide +kernel
theorem dX4_put_12 : decode cX4_put 12 = .ok (.iload_n 2, 1) := by decide +kernel
theorem dX4_put_13 : decode cX4_put 13 = .ok (.i2b, 1) := by decide +kernel
theorem dX4_put_14 : decode cX4_put 14 = .ok (.goto 17, 3) := by decide +kernel
theorem dX4_put_17 : decode cX4_put 17 = .ok (.aload_n 0, 1) := by decide +kernel
theorem dX4_put_18 : decode cX4_put 18 = .ok (.getfield 11, 3) := by decide +kernel
theorem dX4_put_21 : decode cX4_put 21 = .ok (.iconst 1, 1) := by decide +kernel
theorem dX4_put_22 : decode cX4_put 22 = .ok (.if_icmp .ne 8, 3) := by decide +kernel
theorem dX4_put_25 : decode cX4_put 25 = .ok (.iload_n 2, 1) := by decide +kernel
theorem dX4_put_26 : decode cX4_put 26 = .ok (.i2s, 1) := by decide +kernel
theorem dX4_put_27 : decode cX4_put 27 = .ok (.goto 4, 3) := by decide +kernel
theorem dX4_put_30 : decode cX4_put 30 = .ok (.iload_n 2, 1) := by decide +kernel
theorem dX4_put_31 : decode cX4_put 31 = .ok (.iastore, 1) := by decide +kernel
theorem dX4_put_32 : decode cX4_put 32 = .ok (.return_, 1) := by decide +kernel
def f_X4_put (r : Nat) (a1 : Int32) (a2 : Int32) (s : St) : Option (Unit × St) := if kd (r) = 4 then if ¬ (s.1 r 0) = 0 then (if ¬ (s.1 r 0) = (nI 1) then (if inb a1 (lnI (r + 1)) = true then bd (wI s (r + 1) (a1).toNatClampNeg a2) (fun s5 => some (((), s5))) else none) else (if inb a1 (lnI (r + 1)) = true then bd (wI s (r + 1) (a1).toNatClampNeg ((a2).toInt16.toInt32)) (fun s7 => some (((), s7))) else none)) else (if inb a1 (lnI (r + 1)) = true then bd (wI s (r + 1) (a1).toNatClampNeg ((a2).toInt8.toInt32)) (fun s9 => some (((), s9))) else none) else none
set_option maxHeartbeats 4000000 in
set_option maxRecDepth 100000 in
theorem e_X4_put {X : Cx} {Γ : Gm} {r0 : Rb} (hX : Amb X Γ cX4_put RX4 3 none 0) {r : Nat} {a1 : Int32} {a2 : Int32} {s : St} {t : Unit × St} (h : f_X4_put r a1 a2 s = some t) (hk : (fun t : Unit × St => Rt X Γ r0 (none, t.2)) t) : Zw X Γ 3 r0 s 0 [(0, .ref (gL Γ (r))), (1, .int a1), (2, .int a2)] [] := by
  unfold f_X4_put at h
  refine z_aload_n hX dX4_put_0 0 rfl 1 rfl ?_
  replace h := gd_elim h
  obtain ⟨g1, h⟩ := h
  refine z_get4 hX (k := r) (j := 2) (v := .ref (gL Γ (r + 1))) g1 (by decide) rfl dX4_put_1 fl_X4_18 4 rfl ?_
  refine z_iload_n hX dX4_put_4 1 rfl 5 rfl ?_
  refine z_aload_n hX dX4_put_5 0 rfl 6 rfl ?_
  refine z_get4 hX (k := r) (j := 0) (v := .int ((s.1 r 0))) g1 (by decide) rfl dX4_put_6 fl_X4_11 9 rfl ?_
  refine z_if_ne hX 17 dX4_put_9 (by decide) 12 rfl (fun c2 => ?_) (fun c2 => ?_)
  · replace h := br_pos h c2
    refine z_aload_n hX dX4_put_17 0 rfl 18 rfl ?_
    refine z_get4 hX (k := r) (j := 0) (v := .int ((s.1 r 0))) g1 (by decide) rfl dX4_put_18 fl_X4_11 21 rfl ?_
    refine z_iconst hX (v := (nI 1)) dX4_put_21 rfl 22 rfl ?_
    refine z_icmp_ne hX 30 dX4_put_22 (by decide) 25 rfl (fun c3 => ?_) (fun c3 => ?_)
    · replace h := br_pos h c3
      refine z_iload_n hX dX4_put_30 2 rfl 31 rfl ?_
      replace h := gd_elim h
      obtain ⟨g4, h⟩ := h
      replace h := bd_elim h
      obtain ⟨s5, es5, h⟩ := h
      refine z_iast hX (inb_vp g4) dX4_put_31 es5 32 rfl ?_
      replace h := Option.some.inj h
      subst h
      exact z_vret hX dX4_put_32 rfl hk
    · replace h := br_neg h c3
      refine z_iload_n hX dX4_put_25 2 rfl 26 rfl ?_
      refine z_i2s hX dX4_put_26 27 rfl ?_
      refine z_goto hX 31 dX4_put_27 (by decide) ?_
      replace h := gd_elim h
      obtain ⟨g6, h⟩ := h
      replace h := bd_elim h
      obtain ⟨s7, es7, h⟩ := h
      refine z_iast hX (inb_vp g6) dX4_put_31 es7 32 rfl ?_
      replace h := Option.some.inj h
      subst h
      exact z_vret hX dX4_put_32 rfl hk
  · replace h := br_neg h c2
    refine z_iload_n hX dX4_put_12 2 rfl 13 rfl ?_
    refine z_i2b hX dX4_put_13 14 rfl ?_
    refine z_goto hX 31 dX4_put_14 (by decide) ?_
    replace h := gd_elim h
    obtain ⟨g8, h⟩ := h
    replace h := bd_elim h
    obtain ⟨s9, es9, h⟩ := h
    refine z_iast hX (inb_vp g8) dX4_put_31 es9 32 rfl ?_
    replace h := Option.some.inj h
    subst h
    exact z_vret hX dX4_put_32 rfl hk
theorem c_X4_put {lc : Launch} {Γ : Gm} {r : Nat} {a1 : Int32} {a2 : Int32} {s s2 : St} {v : Unit} (h : f_X4_put r a1 a2 s = some (v, s2)) : Ct lc Γ yX4_put cX4_put 3 none 0 [.ref (gL Γ (r)), .int a1, .int a2] s (none, s2) := Ct.of (by decide +kernel) (Nat.le_of_ble_eq_true rfl) (fun X hl hX => e_X4_put hX h rfl)
theorem dX4_faultAt_0 : decode cX4_faultAt 0 = .ok (.aload_n 0, 1) := by decide +kernel
theorem dX4_faultAt_1 : decode cX4_faultAt 1 = .ok (.invokevirtual 28, 3) := by decide +kernel
theorem dX4_faultAt_4 : decode cX4_faultAt 4 = .ok (.ifCond .eq 5, 3) := by decide +kernel
theorem dX4_faultAt_7 : decode cX4_faultAt 7 = .ok (.iconst 1, 1) := by decide +kernel
theorem dX4_faultAt_8 : decode cX4_faultAt 8 = .ok (.ireturn, 1) := by decide +kernel
theorem dX4_faultAt_9 : decode cX4_faultAt 9 = .ok (.aload_n 0, 1) := by decide +kernel
theorem dX4_faultAt_10 : decode cX4_faultAt 10 = .ok (.getfield 11, 3) := by decide +kernel
theorem dX4_faultAt_13 : decode cX4_faultAt 13 = .ok (.iload_n 1, 1) := by decide +kernel
theorem dX4_faultAt_14 : decode cX4_faultAt 14 = .ok (.if_icmp .eq 5, 3) := by decide +kernel
theorem dX4_faultAt_17 : decode cX4_faultAt 17 = .ok (.iconst 3, 1) := by decide +kernel
theorem dX4_faultAt_18 : decode cX4_faultAt 18 = .ok (.ireturn, 1) := by decide +kernel
theorem dX4_faultAt_19 : decode cX4_faultAt 19 = .ok (.iload_n 2, 1) := by decide +kernel
theorem dX4_faultAt_20 : decode cX4_faultAt 20 = .ok (.ifCond .lt 11, 3) := by decide +kernel
theorem dX4_faultAt_23 : decode cX4_faultAt 23 = .ok (.iload_n 2, 1) := by decide +kernel
theorem dX4_faultAt_24 : decode cX4_faultAt 24 = .ok (.aload_n 0, 1) := by decide +kernel
theorem dX4_faultAt_25 : decode cX4_faultAt 25 = .ok (.getfield 15, 3) := by decide +kernel
theorem dX4_faultAt_28 : decode cX4_faultAt 28 = .ok (.if_icmp .lt 7, 3) := by decide +kernel
theorem dX4_faultAt_31 : decode cX4_faultAt 31 = .ok (.iconst 2, 1) := by decide +kernel
theorem dX4_faultAt_32 : decode cX4_faultAt 32 = .ok (.goto 4, 3) := by decide +kernel
theorem dX4_faultAt_35 : decode cX4_faultAt 35 = .ok (.iconst 0, 1) := by decide +kernel
theorem dX4_faultAt_36 : decode cX4_faultAt 36 = .ok (.ireturn, 1) := by decide +kernel
def f_X4_faultAt (r : Nat) (a1 : Int32) (a2 : Int32) (s : St) : Option (Int32 × St) := if kd (r) = 4 then cl (f_X4_isNothing r s) (fun x2 s1 => if x2 = 0 then (if (s1.1 r 0) = a1 then (if a2 < 0 then (some (((nI 2), s1))) else (if a2 < (s1.1 r 1) then (some (((nI 0), s1))) else (some (((nI 2), s1))))) else (some (((nI 3), s1)))) else (some (((nI 1), s1)))) else none
set_option maxHeartbeats 4000000 in
set_option maxRecDepth 100000 in
theorem e_X4_faultAt {X : Cx} {Γ : Gm} {r0 : Rb} (hX : Amb X Γ cX4_faultAt RX4 3 (some .int) 1) {r : Nat} {a1 : Int32} {a2 : Int32} {s : St} {t : Int32 × St} (h : f_X4_faultAt r a1 a2 s = some t) (hk : (fun t : Int32 × St => Rt X Γ r0 (some (Value.int t.1), t.2)) t) : Zw X Γ 3 r0 s 0 [(0, .ref (gL Γ (r))), (1, .int a1), (2, .int a2)] [] := by
  unfold f_X4_faultAt at h
  refine z_aload_n hX dX4_faultAt_0 0 rfl 1 rfl ?_
  replace h := gd_elim h
  obtain ⟨g3, h⟩ := h
  replace h := cl_elim h
  obtain ⟨x2, s1, hx2, h⟩ := h
  refine z_cV4i hX (b := r) (As := []) (c_X4_isNothing hx2) lk_X4_28 rfl g3 ds_X4_isNothing rfl (by decide) (by decide) (by decide) dX4_faultAt_1 rfl 4 rfl ?_
  refine z_if_eq hX 9 dX4_faultAt_4 (by decide) 7 rfl (fun c4 => ?_) (fun c4 => ?_)
  · replace h := br_pos h c4
    refine z_aload_n hX dX4_faultAt_9 0 rfl 10 rfl ?_
    refine z_get4 hX (k := r) (j := 0) (v := .int ((s1.1 r 0))) g3 (by decide) rfl dX4_faultAt_10 fl_X4_11 13 rfl ?_
    refine z_iload_n hX dX4_faultAt_13 1 rfl 14 rfl ?_
    refine z_icmp_eq hX 19 dX4_faultAt_14 (by decide) 17 rfl (fun c5 => ?_) (fun c5 => ?_)
    · replace h := br_pos h c5
      refine z_iload_n hX dX4_faultAt_19 2 rfl 20 rfl ?_
      refine z_if_lt hX 31 dX4_faultAt_20 (by decide) 23 rfl (fun c6 => ?_) (fun c6 => ?_)
      · replace h := br_pos h c6
        refine z_iconst hX (v := (nI 2)) dX4_faultAt_31 rfl 32 rfl ?_
        refine z_goto hX 36 dX4_faultAt_32 (by decide) ?_
        replace h := Option.some.inj h
        subst h
        exact z_iret hX dX4_faultAt_36 rfl hk
      · replace h := br_neg h c6
        refine z_iload_n hX dX4_faultAt_23 2 rfl 24 rfl ?_
        refine z_aload_n hX dX4_faultAt_24 0 rfl 25 rfl ?_
        refine z_get4 hX (k := r) (j := 1) (v := .int ((s1.1 r 1))) g3 (by decide) rfl dX4_faultAt_25 fl_X4_15 28 rfl ?_
        refine z_icmp_lt hX 35 dX4_faultAt_28 (by decide) 31 rfl (fun c7 => ?_) (fun c7 => ?_)
        · replace h := br_pos h c7
          refine z_iconst hX (v := (nI 0)) dX4_faultAt_35 rfl 36 rfl ?_
          replace h := Option.some.inj h
          subst h
          exact z_iret hX dX4_faultAt_36 rfl hk
        · replace h := br_neg h c7
          refine z_iconst hX (v := (nI 2)) dX4_faultAt_31 rfl 32 rfl ?_
          refine z_goto hX 36 dX4_faultAt_32 (by decide) ?_
          replace h := Option.some.inj h
          subst h
          exact z_iret hX dX4_faultAt_36 rfl hk
    · replace h := br_neg h c5
      refine z_iconst hX (v := (nI 3)) dX4_faultAt_17 rfl 18 rfl ?_
      replace h := Option.some.inj h
      subst h
      exact z_iret hX dX4_faultAt_18 rfl hk
  · replace h := br_neg h c4
    refine z_iconst hX (v := (nI 1)) dX4_faultAt_7 rfl 8 rfl ?_
    replace h := Option.some.inj h
    subst h
    exact z_iret hX dX4_faultAt_8 rfl hk
theorem c_X4_faultAt {lc : Launch} {Γ : Gm} {r : Nat} {a1 : Int32} {a2 : Int32} {s s2 : St} {v : Int32} (h : f_X4_faultAt r a1 a2 s = some (v, s2)) : Ct lc Γ yX4_faultAt cX4_faultAt 3 (some .int) 1 [.ref (gL Γ (r)), .int a1, .int a2] s (some (.int v), s2) := Ct.of (by decide +kernel) (Nat.le_of_ble_eq_true rfl) (fun X hl hX => e_X4_faultAt hX h rfl)
theorem dX4_faultOfPair_0 : decode cX4_faultOfPair 0 = .ok (.aload_n 0, 1) := by decide +kernel
theorem dX4_faultOfPair_1 : decode cX4_faultOfPair 1 = .ok (.iload_n 1, 1) := by decide +kernel
theorem dX4_faultOfPair_2 : decode cX4_faultOfPair 2 = .ok (.iload_n 2, 1) := by decide +kernel
theorem dX4_faultOfPair_3 : decode cX4_faultOfPair 3 = .ok (.invokevirtual 32, 3) := by decide +kernel
theorem dX4_faultOfPair_6 : decode cX4_faultOfPair 6 = .ok (.istore_n 3, 1) := by decide +kernel
theorem dX4_faultOfPair_7 : decode cX4_faultOfPair 7 = .ok (.iload_n 3, 1) := by decide +kernel
theorem dX4_faultOfPair_8 : decode cX4_faultOfPair 8 = .ok (.ifCond .eq 7, 3) := by decide +kernel
theorem dX4_faultOfPair_11 : decode cX4_faultOfPair 11 = .ok (.iload_n 3, 1) := by decide +kernel
theorem dX4_faultOfPair_12 : decode cX4_faultOfPair 12 = .ok (.goto 11, 3) := by decide +kernel
theorem dX4_faultOfPair_15 : decode cX4_faultOfPair 15 = .ok (.aload_n 0, 1) := by decide +kernel
theorem dX4_faultOfPair_16 : decode cX4_faultOfPair 16 = .ok (.iload_n 1, 1) := by decide +kernel
theorem dX4_faultOfPair_17 : decode cX4_faultOfPair 17 = .ok (.iload_n 2, 1) := by decide +kernel
theorem dX4_faultOfPair_18 : decode cX4_faultOfPair 18 = .ok (.iconst 1, 1) := by decide +kernel
theorem dX4_faultOfPair_19 : decode cX4_faultOfPair 19 = .ok (.iadd, 1) := by decide +kernel
theorem dX4_faultOfPair_20 : decode cX4_faultOfPair 20 = .ok (.invokevirtual 32, 3) := by decide +kernel
theorem dX4_faultOfPair_23 : decode cX4_faultOfPair 23 = .ok (.ireturn, 1) := by decide +kernel
def f_X4_faultOfPair (r : Nat) (a1 : Int32) (a2 : Int32) (s : St) : Option (Int32 × St) := if kd (r) = 4 then cl (f_X4_faultAt r a1 a2 s) (fun x2 s1 => if x2 = 0 then (cl (f_X4_faultAt r a1 (a2 + (nI 1)) s1) (fun x6 s5 => some ((x6, s5)))) else (some ((x2, s1)))) else none
set_option maxHeartbeats 4000000 in
set_option maxRecDepth 100000 in
theorem e_X4_faultOfPair {X : Cx} {Γ : Gm} {r0 : Rb} (hX : Amb X Γ cX4_faultOfPair RX4 4 (some .int) 2) {r : Nat} {a1 : Int32} {a2 : Int32} {s : St} {t : Int32 × St} (h : f_X4_faultOfPair r a1 a2 s = some t) (hk : (fun t : Int32 × St => Rt X Γ r0 (some (Value.int t.1), t.2)) t) : Zw X Γ 4 r0 s 0 [(0, .ref (gL Γ (r))), (1, .int a1), (2, .int a2)] [] := by
  unfold f_X4_faultOfPair at h
  refine z_aload_n hX dX4_faultOfPair_0 0 rfl 1 rfl ?_
  refine z_iload_n hX dX4_faultOfPair_1 1 rfl 2 rfl ?_
  refine z_iload_n hX dX4_faultOfPair_2 2 rfl 3 rfl ?_
  replace h := gd_elim h
  obtain ⟨g3, h⟩ := h
  replace h := cl_elim h
  obtain ⟨x2, s1, hx2, h⟩ := h
  refine z_cV4i hX (b := r) (As := [.int a1, .int a2]) (c_X4_faultAt hx2) lk_X4_32 rfl g3 ds_X4_faultAt rfl (by decide) (by decide) (by decide) dX4_faultOfPair_3 rfl 6 rfl ?_
  refine z_istore_n hX (lv2 := [(3, .int x2), (0, .ref (gL Γ (r))), (1, .int a1), (2, .int a2)]) dX4_faultOfPair_6 (by decide) rfl 7 rfl ?_
  refine z_iload_n hX dX4_faultOfPair_7 0 rfl 8 rfl ?_
  refine z_if_eq hX 15 dX4_faultOfPair_8 (by decide) 11 rfl (fun c4 => ?_) (fun c4 => ?_)
  · replace h := br_pos h c4
    refine z_aload_n hX dX4_faultOfPair_15 1 rfl 16 rfl ?_
    refine z_iload_n hX dX4_faultOfPair_16 2 rfl 17 rfl ?_
    refine z_iload_n hX dX4_faultOfPair_17 3 rfl 18 rfl ?_
    refine z_iconst hX (v := (nI 1)) dX4_faultOfPair_18 rfl 19 rfl ?_
    refine z_iadd hX dX4_faultOfPair_19 20 rfl ?_
    replace h := cl_elim h
    obtain ⟨x6, s5, hx6, h⟩ := h
    refine z_cV4i hX (b := r) (As := [.int a1, .int ((a2 + (nI 1)))]) (c_X4_faultAt hx6) lk_X4_32 rfl g3 ds_X4_faultAt rfl (by decide) (by decide) (by decide) dX4_faultOfPair_20 rfl 23 rfl ?_
    replace h := Option.some.inj h
    subst h
    exact z_iret hX dX4_faultOfPair_23 rfl hk
  · replace h := br_neg h c4
    refine z_iload_n hX dX4_faultOfPair_11 0 rfl 12 rfl ?_
    refine z_goto hX 23 dX4_faultOfPair_12 (by decide) ?_
    replace h := Option.some.inj h
    subst h
    exact z_iret hX dX4_faultOfPair_23 rfl hk
theorem c_X4_faultOfPair {lc : Launch} {Γ : Gm} {r : Nat} {a1 : Int32} {a2 : Int32} {s s2 : St} {v : Int32} (h : f_X4_faultOfPair r a1 a2 s = some (v, s2)) : Ct lc Γ yX4_faultOfPair cX4_faultOfPair 4 (some .int) 2 [.ref (gL Γ (r)), .int a1, .int a2] s (some (.int v), s2) := Ct.of (by decide +kernel) (Nat.le_of_ble_eq_true rfl) (fun X hl hX => e_X4_faultOfPair hX h rfl)

theorem fl_X5_15 : Cond.fieldLink RX5 15 (TX5 1).1 (TX5 1).2.1 (TX5 1).2.2.1 ∈ gt := gt_mem (tm1 (List.mem_of_getElem? (i := 134) rfl)) rfl
theorem fl_X5_9 : Cond.fieldLink RX5 9 (TX5 0).1 (TX5 0).2.1 (TX5 0).2.2.1 ∈ gt := gt_mem (tm1 (List.mem_of_getElem? (i := 133) rfl)) rfl
theorem fl_X5_19 : Cond.fieldLink RX5 19 (TX5 2).1 (TX5 2).2.1 (TX5 2).2.2.1 ∈ gt := gt_mem (tm1 (List.mem_of_getElem? (i := 136) rfl)) rfl
theorem fl_X5_25 : Cond.fieldLink RX5 25 (TX5 4).1 (TX5 4).2.1 (TX5 4).2.2.1 ∈ gt := gt_mem (tm1 (List.mem_of_getElem? (i := 140) rfl)) rfl
theorem fl_X5_22 : Cond.fieldLink RX5 22 (TX5 3).1 (TX5 3).2.1 (TX5 3).2.2.1 ∈ gt := gt_mem (tm1 (List.mem_of_getElem? (i := 138) rfl)) rfl
theorem ds_X5_tokenOf : Ds yX5_tokenOf 1 := ⟨by decide +kernel, by decide +kernel, by decide +kernel⟩
theorem lk_X5_50 : LkS RX5 50 yX5_tokenOf cX5_tokenOf 1 (some .int) := ⟨gt_mem (tm2 (List.mem_of_getElem? (i := 59) rfl)) rfl, gt_mem (tm2 (List.mem_of_getElem? (i := 60) rfl)) rfl, gt_mem (tm1 (List.mem_of_getElem? (i := 4) rfl)) rfl, gt_mem (tm2 (List.mem_of_getElem? (i := 61) rfl)) rfl⟩
theorem fl_X5_28 : Cond.fieldLink RX5 28 (TX5 5).1 (TX5 5).2.1 (TX5 5).2.2.1 ∈ gt := gt_mem (tm1 (List.mem_of_getElem? (i := 141) rfl)) rfl
theorem ds_X5_refuse : Ds yX5_refuse 1 := ⟨by decide +kernel, by decide +kernel, by decide +kernel⟩
theorem lk_X5_54 : LkV RX5 54 yX5_refuse cX5_refuse 2 (some .boolean) := ⟨gt_mem (tm2 (List.mem_of_getElem? (i := 62) rfl)) rfl, gt_mem (tm2 (List.mem_of_getElem? (i := 63) rfl)) rfl, gt_mem (tm2 (List.mem_of_getElem? (i := 64) rfl)) rfl, gt_mem (tm1 (List.mem_of_getElem? (i := 4) rfl)) rfl, gt_mem (tm2 (List.mem_of_getElem? (i := 65) rfl)) rfl⟩
theorem ds_J0_length_8abf5 : Ds yJ0_length_8abf5 0 := ⟨by decide +kernel, by decide +kernel, by decide +kernel⟩
theorem lk_X5_98 : LkV RX5 98 yJ0_length_8abf5 cJ0_length_8abf5 1 (some .int) := ⟨gt_mem (tm2 (List.mem_of_getElem? (i := 79) rfl)) rfl, gt_mem (tm2 (List.mem_of_getElem? (i := 80) rfl)) rfl, gt_mem (tm2 (List.mem_of_getElem? (i := 81) rfl)) rfl, gt_mem (tm1 (List.mem_of_getElem? (i := 10) rfl)) rfl, gt_mem (tm2 (List.mem_of_getElem? (i := 82) rfl)) rfl⟩
theorem ds_J0_charAt_5068e : Ds yJ0_charAt_5068e 1 := ⟨by decide +kernel, by decide +kernel, by decide +kernel⟩
theorem lk_X5_102 : LkV RX5 102 yJ0_charAt_5068e cJ0_charAt_5068e 2 (some .char) := ⟨gt_mem (tm2 (List.mem_of_getElem? (i := 89) rfl)) rfl, gt_mem (tm2 (List.mem_of_getElem? (i := 90) rfl)) rfl, gt_mem (tm2 (List.mem_of_getElem? (i := 91) rfl)) rfl, gt_mem (tm1 (List.mem_of_getElem? (i := 10) rfl)) rfl, gt_mem (tm2 (List.mem_of_getElem? (i := 92) rfl)) rfl⟩
theorem ds_X5_isWord : Ds yX5_isWord 1 := ⟨by decide +kernel, by decide +kernel, by decide +kernel⟩
theorem lk_X5_82 : LkV RX5 82 yX5_isWord cX5_isWord 3 (some .boolean) := ⟨gt_mem (tm2 (List.mem_of_getElem? (i := 75) rfl)) rfl, gt_mem (tm2 (List.mem_of_getElem? (i := 76) rfl)) rfl, gt_mem (tm2 (List.mem_of_getElem? (i := 77) rfl)) rfl, gt_mem (tm1 (List.mem_of_getElem? (i := 4) rfl)) rfl, gt_mem (tm2 (List.mem_of_getElem? (i := 78) rfl)) rfl⟩
theorem ds_X5_readToken : Ds yX5_readToken 0 := ⟨by decide +kernel, by decide +kernel, by decide +kernel⟩
theorem lk_X5_42 : LkV RX5 42 yX5_readToken cX5_readToken 2 (some .boolean) := ⟨gt_mem (tm2 (List.mem_of_getElem? (i := 55) rfl)) rfl, gt_mem (tm2 (List.mem_of_getElem? (i := 56) rfl)) rfl, gt_mem (tm2 (List.mem_of_getElem? (i := 57) rfl)) rfl, gt_mem (tm1 (List.mem_of_getElem? (i := 4) rfl)) rfl, gt_mem (tm2 (List.mem_of_getElem? (i := 58) rfl)) rfl⟩
theorem fl_X5_31 : Cond.fieldLink RX5 31 (TX5 6).1 (TX5 6).2.1 (TX5 6).2.2.1 ∈ gt := gt_mem (tm1 (List.mem_of_getElem? (i := 142) rfl)) rfl
theorem lk_X5_144 : LkN RX5 144 yX6_isWithin cX6_isWithin 3 (some .boolean) := ⟨List.mem_filter.mpr ⟨tm2 (List.mem_of_getElem? (i := 141) rfl), rfl⟩, gt_mem (tm2 (List.mem_of_getElem? (i := 30) rfl)) rfl, gt_mem (tm1 (List.mem_of_getElem? (i := 1) rfl)) rfl, gt_mem (tm2 (List.mem_of_getElem? (i := 31) rfl)) rfl⟩
theorem ds_X6_isCell : Ds yX6_isCell 1 := ⟨by decide +kernel, by decide +kernel, by decide +kernel⟩
theorem lk_X5_141 : LkN RX5 141 yX6_isCell cX6_isCell 1 (some .boolean) := ⟨List.mem_filter.mpr ⟨tm2 (List.mem_of_getElem? (i := 146) rfl), rfl⟩, gt_mem (tm2 (List.mem_of_getElem? (i := 147) rfl)) rfl, gt_mem (tm1 (List.mem_of_getElem? (i := 1) rfl)) rfl, gt_mem (tm2 (List.mem_of_getElem? (i := 148) rfl)) rfl⟩
theorem fl_X5_132 : Cond.fieldLink RX5 132 (TX2 1).1 (TX2 1).2.1 (TX2 1).2.2.1 ∈ gt := gt_mem (tm1 (List.mem_of_getElem? (i := 35) rfl)) rfl
theorem ds_X5_readNumber : Ds yX5_readNumber 2 := ⟨by decide +kernel, by decide +kernel, by decide +kernel⟩
theorem lk_X5_112 : LkV RX5 112 yX5_readNumber cX5_readNumber 4 (some .boolean) := ⟨gt_mem (tm2 (List.mem_of_getElem? (i := 137) rfl)) rfl, gt_mem (tm2 (List.mem_of_getElem? (i := 138) rfl)) rfl, gt_mem (tm2 (List.mem_of_getElem? (i := 139) rfl)) rfl, gt_mem (tm1 (List.mem_of_getElem? (i := 4) rfl)) rfl, gt_mem (tm2 (List.mem_of_getElem? (i := 140) rfl)) rfl⟩
theorem ds_X5_namesCell : Ds yX5_namesCell 0 := ⟨by decide +kernel, by decide +kernel, by decide +kernel⟩
theorem lk_X5_116 : LkV RX5 116 yX5_namesCell cX5_namesCell 1 (some .boolean) := ⟨gt_mem (tm2 (List.mem_of_getElem? (i := 142) rfl)) rfl, gt_mem (tm2 (List.mem_of_getElem? (i := 143) rfl)) rfl, gt_mem (tm2 (List.mem_of_getElem? (i := 144) rfl)) rfl, gt_mem (tm1 (List.mem_of_getElem? (i := 4) rfl)) rfl, gt_mem (tm2 (List.mem_of_getElem? (i := 145) rfl)) rfl⟩
theorem fl_X5_135 : Cond.fieldLink RX5 135 (TX2 10).1 (TX2 10).2.1 (TX2 10).2.2.1 ∈ gt := gt_mem (tm1 (List.mem_of_getElem? (i := 59) rfl)) rfl
theorem lk_X5_122 : LkN RX5 122 yX6_cellOf cX6_cellOf 1 (some .int) := ⟨List.mem_filter.mpr ⟨tm2 (List.mem_of_getElem? (i := 152) rfl), rfl⟩, gt_mem (tm2 (List.mem_of_getElem? (i := 150) rfl)) rfl, gt_mem (tm1 (List.mem_of_getElem? (i := 1) rfl)) rfl, gt_mem (tm2 (List.mem_of_getElem? (i := 151) rfl)) rfl⟩
theorem fl_X5_138 : Cond.fieldLink RX5 138 (TX2 11).1 (TX2 11).2.1 (TX2 11).2.2.1 ∈ gt := gt_mem (tm1 (List.mem_of_getElem? (i := 62) rfl)) rfl
theorem fl_X5_34 : Cond.fieldLink RX5 34 (TX5 7).1 (TX5 7).2.1 (TX5 7).2.2.1 ∈ gt := gt_mem (tm1 (List.mem_of_getElem? (i := 143) rfl)) rfl
theorem fl_X5_106 : Cond.fieldLink RX5 106 (TX2 0).1 (TX2 0).2.1 (TX2 0).2.2.1 ∈ gt := gt_mem (tm1 (List.mem_of_getElem? (i := 32) rfl)) rfl
theorem fl_X5_109 : Cond.fieldLink RX5 109 (TX2 3).1 (TX2 3).2.1 (TX2 3).2.2.1 ∈ gt := gt_mem (tm1 (List.mem_of_getElem? (i := 41) rfl)) rfl
theorem fl_X5_119 : Cond.fieldLink RX5 119 (TX2 4).1 (TX2 4).2.1 (TX2 4).2.2.1 ∈ gt := gt_mem (tm1 (List.mem_of_getElem? (i := 44) rfl)) rfl
theorem fl_X5_126 : Cond.fieldLink RX5 126 (TX2 5).1 (TX2 5).2.1 (TX2 5).2.2.1 ∈ gt := gt_mem (tm1 (List.mem_of_getElem? (i := 47) rfl)) rfl
theorem fl_X5_129 : Cond.fieldLink RX5 129 (TX2 6).1 (TX2 6).2.1 (TX2 6).2.2.1 ∈ gt := gt_mem (tm1 (List.mem_of_getElem? (i := 50) rfl)) rfl
theorem ds_X5_wordRead : Ds yX5_wordRead 0 := ⟨by decide +kernel, by decide +kernel, by decide +kernel⟩
theorem lk_X5_58 : LkV RX5 58 yX5_wordRead cX5_wordRead 1 (some .int) := ⟨gt_mem (tm2 (List.mem_of_getElem? (i := 70) rfl)) rfl, gt_mem (tm2 (List.mem_of_getElem? (i := 71) rfl)) rfl, gt_mem (tm2 (List.mem_of_getElem? (i := 72) rfl)) rfl, gt_mem (tm1 (List.mem_of_getElem? (i := 4) rfl)) rfl, gt_mem (tm2 (List.mem_of_getElem? (i := 73) rfl)) rfl⟩
theorem ds_X5_readSitter : Ds yX5_readSitter 1 := ⟨by decide +kernel, by decide +kernel, by decide +kernel⟩
theorem lk_X5_62 : LkV RX5 62 yX5_readSitter cX5_readSitter 3 (some .boolean) := ⟨gt_mem (tm2 (List.mem_of_getElem? (i := 133) rfl)) rfl, gt_mem (tm2 (List.mem_of_getElem? (i := 134) rfl)) rfl, gt_mem (tm2 (List.mem_of_getElem? (i := 135) rfl)) rfl, gt_mem (tm1 (List.mem_of_getElem? (i := 4) rfl)) rfl, gt_mem (tm2 (List.mem_of_getElem? (i := 136) rfl)) rfl⟩
theorem fl_X5_65 : Cond.fieldLink RX5 65 (TX2 13).1 (TX2 13).2.1 (TX2 13).2.2.1 ∈ gt := gt_mem (tm1 (List.mem_of_getElem? (i := 65) rfl)) rfl
theorem ds_X5_readOnce : Ds yX5_readOnce 3 := ⟨by decide +kernel, by decide +kernel, by decide +kernel⟩
theorem lk_X5_69 : LkV RX5 69 yX5_readOnce cX5_readOnce 6 (some .boolean) := ⟨gt_mem (tm2 (List.mem_of_getElem? (i := 153) rfl)) rfl, gt_mem (tm2 (List.mem_of_getElem? (i := 154) rfl)) rfl, gt_mem (tm2 (List.mem_of_getElem? (i := 155) rfl)) rfl, gt_mem (tm1 (List.mem_of_getElem? (i := 4) rfl)) rfl, gt_mem (tm2 (List.mem_of_getElem? (i := 156) rfl)) rfl⟩
theorem fl_X5_73 : Cond.fieldLink RX5 73 (TX2 14).1 (TX2 14).2.1 (TX2 14).2.2.1 ∈ gt := gt_mem (tm1 (List.mem_of_getElem? (i := 68) rfl)) rfl
theorem ds_X5_readLife : Ds yX5_readLife 2 := ⟨by decide +kernel, by decide +kernel, by decide +kernel⟩
theorem lk_X5_76 : LkV RX5 76 yX5_readLife cX5_readLife 4 (some .boolean) := ⟨gt_mem (tm2 (List.mem_of_getElem? (i := 157) rfl)) rfl, gt_mem (tm2 (List.mem_of_getElem? (i := 158) rfl)) rfl, gt_mem (tm2 (List.mem_of_getElem? (i := 159) rfl)) rfl, gt_mem (tm1 (List.mem_of_getElem? (i := 4) rfl)) rfl, gt_mem (tm2 (List.mem_of_getElem? (i := 160) rfl)) rfl⟩
theorem ds_X2_clear : Ds yX2_clear 0 := ⟨by decide +kernel, by decide +kernel, by decide +kernel⟩
theorem lk_X5_37 : LkV RX5 37 yX2_clear cX2_clear 1 none := ⟨gt_mem (tm2 (List.mem_of_getElem? (i := 48) rfl)) rfl, gt_mem (tm2 (List.mem_of_getElem? (i := 49) rfl)) rfl, gt_mem (tm2 (List.mem_of_getElem? (i := 50) rfl)) rfl, gt_mem (tm1 (List.mem_of_getElem? (i := 2) rfl)) rfl, gt_mem (tm2 (List.mem_of_getElem? (i := 51) rfl)) rfl⟩
theorem ds_X5_readLine : Ds yX5_readLine 1 := ⟨by decide +kernel, by decide +kernel, by decide +kernel⟩
theorem lk_X5_46 : LkV RX5 46 yX5_readLine cX5_readLine 4 (some .boolean) := ⟨gt_mem (tm2 (List.mem_of_getElem? (i := 66) rfl)) rfl, gt_mem (tm2 (List.mem_of_getElem? (i := 67) rfl)) rfl, gt_mem (tm2 (List.mem_of_getElem? (i := 68) rfl)) rfl, gt_mem (tm1 (List.mem_of_getElem? (i := 4) rfl)) rfl, gt_mem (tm2 (List.mem_of_getElem? (i := 69) rfl)) rfl⟩
theorem kdc_33 : kd 33 = 5 := by decide +kernel
theorem pwI_5_1 (Γ : Gm) (k : Nat) (f : Nat → Int32) (g : Nat → Int64) (x : Int32) : (flds Γ 5 k f g).set 1 (.int x) = flds Γ 5 k (upd f 1 x) g := by simp [flds, entK, upd]
theorem pwI_5_2 (Γ : Gm) (k : Nat) (f : Nat → Int32) (g : Nat → Int64) (x : Int32) : (flds Γ 5 k f g).set 2 (.int x) = flds Γ 5 k (upd f 2 x) g := by simp [flds, entK, upd]
theorem pwI_5_3 (Γ : Gm) (k : Nat) (f : Nat → Int32) (g : Nat → Int64) (x : Int32) : (flds Γ 5 k f g).set 3 (.int x) = flds Γ 5 k (upd f 3 x) g := by simp [flds, entK, upd]
theorem pwI_5_4 (Γ : Gm) (k : Nat) (f : Nat → Int32) (g : Nat → Int64) (x : Int32) : (flds Γ 5 k f g).set 4 (.int x) = flds Γ 5 k (upd f 4 x) g := by simp [flds, entK, upd]
theorem pwI_5_5 (Γ : Gm) (k : Nat) (f : Nat → Int32) (g : Nat → Int64) (x : Int32) : (flds Γ 5 k f g).set 5 (.int x) = flds Γ 5 k (upd f 5 x) g := by simp [flds, entK, upd]
theorem pwI_5_6 (Γ : Gm) (k : Nat) (f : Nat → Int32) (g : Nat → Int64) (x : Int32) : (flds Γ 5 k f g).set 6 (.int x) = flds Γ 5 k (upd f 6 x) g := by simp [flds, entK, upd]
theorem pwI_5_7 (Γ : Gm) (k : Nat) (f : Nat → Int32) (g : Nat → Int64) (x : Int32) : (flds Γ 5 k f g).set 7 (.int x) = flds Γ 5 k (upd f 7 x) g := by simp [flds, entK, upd]
theorem dX5_put_0 : decode cX5_put 0 = .ok (.aload_n 0, 1) := by decide +kernel
theorem dX5_put_1 : decode cX5_put 1 = .ok (.getfield 15, 3) := by decide +kernel
theorem dX5_put_4 : decode cX5_put 4 = .ok (.sipush 160, 3) := by decide +kernel
theorem dX5_put_7 : decode cX5_put 7 = .ok (.if_icmp .lt 5, 3) := by decide +kernel
theorem dX5_put_10 : decode cX5_put 10 = .ok (.iconst 0, 1) := by decide +kernel
theorem dX5_put_11 : decode cX5_put 11 = .ok (.ireturn, 1) := by decide +kernel
theorem dX5_put_12 : decode cX5_put 12 = .ok (.aload_n 0, 1) := by decide +kernel
theorem dX5_put_13 : decode cX5_put 13 = .ok (.getfield 9, 3) := by decide +kernel
theorem dX5_put_16 : decode cX5_put 16 = .ok (.aload_n 0, 1) := by decide +kernel
theorem dX5_put_17 : decode cX5_put 17 = .ok (.getfield 15, 3) := by decide +kernel
theorem dX5_put_20 : decode cX5_put 20 = .ok (.iload_n 1, 1) := by decide +kernel
theorem dX5_put_21 : decode cX5_put 21 = .ok (.i2b, 1) := by decide +kernel
theorem dX5_put_22 : decode cX5_put 22 = .ok (.bastore, 1) := by decide +kernel
theorem dX5_put_23 : decode cX5_put 23 = .ok (.aload_n 0, 1) := by decide +kernel
theorem dX5_put_24 : decode cX5_put 24 = .ok (.dup, 1) := by decide +kernel
theorem dX5_put_25 : decode cX5_put 25 = .ok (.getfield 15, 3) := by decide +kernel
theorem dX5_put_28 : decode cX5_put 28 = .ok (.iconst 1, 1) := by decide +kernel
theorem dX5_put_29 : decode cX5_put 29 = .ok (.iadd, 1) := by decide +kernel
theorem dX5_put_30 : decode cX5_put 30 = .ok (.putfield 15, 3) := by decide +kernel
theorem dX5_put_33 : decode cX5_put 33 = .ok (.iconst 1, 1) := by decide +kernel
theorem dX5_put_34 : decode cX5_put 34 = .ok (.ireturn, 1) := by decide +kernel
def f_X5_put (a1 : Int32) (s : St) : Option (Int32 × St) := if (s.1 33 1) < (nI 160) then (if inb (s.1 33 1) (lnB 34) = true then bd (wI s 34 ((s.1 33 1)).toNatClampNeg (vp_nar .byte ((a1).toInt8.toInt32))) (fun s3 => bd (wI s3 33 1 ((s3.1 33 1) + (nI 1))) (fun s4 => some (((nI 1), s4)))) else none) else (some (((nI 0), s)))
set_option maxHeartbeats 4000000 in
set_option maxRecDepth 100000 in
theorem e_X5_put {X : Cx} {Γ : Gm} {r0 : Rb} (hX : Amb X Γ cX5_put RX5 2 (some .boolean) 0) {a1 : Int32} {s : St} {t : Int32 × St} (h : f_X5_put a1 s = some t) (hk : (fun t : Int32 × St => Rt X Γ r0 (some (Value.int t.1), t.2)) t) : Zw X Γ 2 r0 s 0 [(0, .ref (gL Γ (33))), (1, .int a1)] [] := by
  unfold f_X5_put at h
  refine z_aload_n hX dX5_put_0 0 rfl 1 rfl ?_
  refine z_get5 hX (k := 33) (j := 1) (v := .int ((s.1 33 1))) kdc_33 (by decide) rfl dX5_put_1 fl_X5_15 4 rfl ?_
  refine z_sipush hX (v := (nI 160)) dX5_put_4 (by decide) 7 rfl ?_
  refine z_icmp_lt hX 12 dX5_put_7 (by decide) 10 rfl (fun c1 => ?_) (fun c1 => ?_)
  · replace h := br_pos h c1
    refine z_aload_n hX dX5_put_12 0 rfl 13 rfl ?_
    refine z_get5 hX (k := 33) (j := 0) (v := .ref (gL Γ (34))) kdc_33 (by decide) rfl dX5_put_13 fl_X5_9 16 rfl ?_
    refine z_aload_n hX dX5_put_16 0 rfl 17 rfl ?_
    refine z_get5 hX (k := 33) (j := 1) (v := .int ((s.1 33 1))) kdc_33 (by decide) rfl dX5_put_17 fl_X5_15 20 rfl ?_
    refine z_iload_n hX dX5_put_20 1 rfl 21 rfl ?_
    refine z_i2b hX dX5_put_21 22 rfl ?_
    replace h := gd_elim h
    obtain ⟨g2, h⟩ := h
    replace h := bd_elim h
    obtain ⟨s3, es3, h⟩ := h
    refine z_bast hX (inb_vp g2) dX5_put_22 es3 23 rfl ?_
    refine z_aload_n hX dX5_put_23 0 rfl 24 rfl ?_
    refine z_dup hX dX5_put_24 rfl 25 rfl ?_
    refine z_get5 hX (k := 33) (j := 1) (v := .int ((s3.1 33 1))) kdc_33 (by decide) rfl dX5_put_25 fl_X5_15 28 rfl ?_
    refine z_iconst hX (v := (nI 1)) dX5_put_28 rfl 29 rfl ?_
    refine z_iadd hX dX5_put_29 30 rfl ?_
    replace h := bd_elim h
    obtain ⟨s4, es4, h⟩ := h
    refine z_putI5 hX (k := 33) (j := 1) kdc_33 (by decide) rfl (by decide +kernel) (pwI_5_1 ..) dX5_put_30 fl_X5_15 es4 33 rfl ?_
    refine z_iconst hX (v := (nI 1)) dX5_put_33 rfl 34 rfl ?_
    replace h := Option.some.inj h
    subst h
    exact z_zret hX dX5_put_34 rfl (by decide) hk
  · replace h := br_neg h c1
    refine z_iconst hX (v := (nI 0)) dX5_put_10 rfl 11 rfl ?_
    replace h := Option.some.inj h
    subst h
    exact z_zret hX dX5_put_11 rfl (by decide) hk
theorem c_X5_put {lc : Launch} {Γ : Gm} {a1 : Int32} {s s2 : St} {v : Int32} (h : f_X5_put a1 s = some (v, s2)) : Ct lc Γ yX5_put cX5_put 2 (some .boolean) 0 [.ref (gL Γ (33)), .int a1] s (some (.int v), s2) := Ct.of (by decide +kernel) (Nat.le_of_ble_eq_true rfl) (fun X hl hX => e_X5_put hX h rfl)
theorem dX5_tokenOf_0 : decode cX5_tokenOf 0 = .ok (.iload_n 0, 1) := by decide +kernel
theorem dX5_tokenOf_1 : decode cX5_tokenOf 1 = .ok (.bipush 97, 2) := by decide +kernel
theorem dX5_tokenOf_3 : decode cX5_tokenOf 3 = .ok (.if_icmp .lt 11, 3) := by decide +kernel
theorem dX5_tokenOf_6 : decode cX5_tokenOf 6 = .ok (.iload_n 0, 1) := by decide +kernel
theorem dX5_tokenOf_7 : decode cX5_tokenOf 7 = .ok (.bipush 122, 2) := by decide +kernel
theorem dX5_tokenOf_9 : decode cX5_tokenOf 9 = .ok (.if_icmp .gt 5, 3) := by decide +kernel
theorem dX5_tokenOf_12 : decode cX5_tokenOf 12 = .ok (.iconst 1, 1) := by decide +kernel
theorem dX5_tokenOf_13 : decode cX5_tokenOf 13 = .ok (.ireturn, 1) := by decide +kernel
theorem dX5_tokenOf_14 : decode cX5_tokenOf 14 = .ok (.iload_n 0, 1) := by decide +kernel
theorem dX5_tokenOf_15 : decode cX5_tokenOf 15 = .ok (.bipush 48, 2) := by decide +kernel
theorem dX5_tokenOf_17 : decode cX5_tokenOf 17 = .ok (.if_icmp .lt 11, 3) := by decide +kernel
theorem dX5_tokenOf_20 : decode cX5_tokenOf 20 = .ok (.iload_n 0, 1) := by decide +kernel
theorem dX5_tokenOf_21 : decode cX5_tokenOf 21 = .ok (.bipush 57, 2) := by decide +kernel
theorem dX5_tokenOf_23 : decode cX5_tokenOf 23 = .ok (.if_icmp .gt 5, 3) := by decide +kernel
theorem dX5_tokenOf_26 : decode cX5_tokenOf 26 = .ok (.iconst 2, 1) := by decide +kernel
theorem dX5_tokenOf_27 : decode cX5_tokenOf 27 = .ok (.ireturn, 1) := by decide +kernel
theorem dX5_tokenOf_28 : decode cX5_tokenOf 28 = .ok (.iload_n 0, 1) := by decide +kernel
theorem dX5_tokenOf_29 : decode cX5_tokenOf 29 = .ok (.bipush 59, 2) := by decide +kernel
theorem dX5_tokenOf_31 : decode cX5_tokenOf 31 = .ok (.if_icmp .ne 7, 3) := by decide +kernel
theorem dX5_tokenOf_34 : decode cX5_tokenOf 34 = .ok (.iconst 3, 1) := by decide +kernel
theorem dX5_tokenOf_35 : decode cX5_tokenOf 35 = .ok (.goto 4, 3) := by decide +kernel
theorem dX5_tokenOf_38 : decode cX5_tokenOf 38 = .ok (.iconst 4, 1) := by decide +kernel
theorem dX5_tokenOf_39 : decode cX5_tokenOf 39 = .ok (.ireturn, 1) := by decide +kernel
def f_X5_tokenOf_J28 (v0 : Int32) (s : St) : Option (Int32 × St) := if ¬ v0 = (nI 59) then (some (((nI 4), s))) else (some (((nI 3), s)))
def f_X5_tokenOf_J14 (v0 : Int32) (s : St) : Option (Int32 × St) := if v0 < (nI 48) then (f_X5_tokenOf_J28 v0 s) else (if (nI 57) < v0 then (f_X5_tokenOf_J28 v0 s) else (some (((nI 2), s))))
def f_X5_tokenOf (a0 : Int32) (s : St) : Option (Int32 × St) := if a0 < (nI 97) then (f_X5_tokenOf_J14 a0 s) else (if (nI 122) < a0 then (f_X5_tokenOf_J14 a0 s) else (some (((nI 1), s))))
set_option maxHeartbeats 4000000 in
set_option maxRecDepth 100000 in
theorem e_X5_tokenOf_J28 {X : Cx} {Γ : Gm} {r0 : Rb} (hX : Amb X Γ cX5_tokenOf RX5 1 (some .int) 0) {v0 : Int32} {s : St} {t : Int32 × St} (h : f_X5_tokenOf_J28 v0 s = some t) (hk : (fun t : Int32 × St => Rt X Γ r0 (some (Value.int t.1), t.2)) t) : Zw X Γ 1 r0 s 28 [(0, .int v0)] [] := by
  unfold f_X5_tokenOf_J28 at h
  refine z_iload_n hX dX5_tokenOf_28 0 rfl 29 rfl ?_
  refine z_bipush hX (v := (nI 59)) dX5_tokenOf_29 (by decide) 31 rfl ?_
  refine z_icmp_ne hX 38 dX5_tokenOf_31 (by decide) 34 rfl (fun c5 => ?_) (fun c5 => ?_)
  · replace h := br_pos h c5
    refine z_iconst hX (v := (nI 4)) dX5_tokenOf_38 rfl 39 rfl ?_
    replace h := Option.some.inj h
    subst h
    exact z_iret hX dX5_tokenOf_39 rfl hk
  · replace h := br_neg h c5
    refine z_iconst hX (v := (nI 3)) dX5_tokenOf_34 rfl 35 rfl ?_
    refine z_goto hX 39 dX5_tokenOf_35 (by decide) ?_
    replace h := Option.some.inj h
    subst h
    exact z_iret hX dX5_tokenOf_39 rfl hk
set_option maxHeartbeats 4000000 in
set_option maxRecDepth 100000 in
theorem e_X5_tokenOf_J14 {X : Cx} {Γ : Gm} {r0 : Rb} (hX : Amb X Γ cX5_tokenOf RX5 1 (some .int) 0) {v0 : Int32} {s : St} {t : Int32 × St} (h : f_X5_tokenOf_J14 v0 s = some t) (hk : (fun t : Int32 × St => Rt X Γ r0 (some (Value.int t.1), t.2)) t) : Zw X Γ 1 r0 s 14 [(0, .int v0)] [] := by
  unfold f_X5_tokenOf_J14 at h
  refine z_iload_n hX dX5_tokenOf_14 0 rfl 15 rfl ?_
  refine z_bipush hX (v := (nI 48)) dX5_tokenOf_15 (by decide) 17 rfl ?_
  refine z_icmp_lt hX 28 dX5_tokenOf_17 (by decide) 20 rfl (fun c3 => ?_) (fun c3 => ?_)
  · replace h := br_pos h c3
    exact z_sub [0] rfl (e_X5_tokenOf_J28 hX h hk)
  · replace h := br_neg h c3
    refine z_iload_n hX dX5_tokenOf_20 0 rfl 21 rfl ?_
    refine z_bipush hX (v := (nI 57)) dX5_tokenOf_21 (by decide) 23 rfl ?_
    refine z_icmp_gt hX 28 dX5_tokenOf_23 (by decide) 26 rfl (fun c4 => ?_) (fun c4 => ?_)
    · replace h := br_pos h c4
      exact z_sub [0] rfl (e_X5_tokenOf_J28 hX h hk)
    · replace h := br_neg h c4
      refine z_iconst hX (v := (nI 2)) dX5_tokenOf_26 rfl 27 rfl ?_
      replace h := Option.some.inj h
      subst h
      exact z_iret hX dX5_tokenOf_27 rfl hk
set_option maxHeartbeats 4000000 in
set_option maxRecDepth 100000 in
theorem e_X5_tokenOf {X : Cx} {Γ : Gm} {r0 : Rb} (hX : Amb X Γ cX5_tokenOf RX5 1 (some .int) 0) {a0 : Int32} {s : St} {t : Int32 × St} (h : f_X5_tokenOf a0 s = some t) (hk : (fun t : Int32 × St => Rt X Γ r0 (some (Value.int t.1), t.2)) t) : Zw X Γ 1 r0 s 0 [(0, .int a0)] [] := by
  unfold f_X5_tokenOf at h
  refine z_iload_n hX dX5_tokenOf_0 0 rfl 1 rfl ?_
  refine z_bipush hX (v := (nI 97)) dX5_tokenOf_1 (by decide) 3 rfl ?_
  refine z_icmp_lt hX 14 dX5_tokenOf_3 (by decide) 6 rfl (fun c1 => ?_) (fun c1 => ?_)
  · replace h := br_pos h c1
    exact z_sub [0] rfl (e_X5_tokenOf_J14 hX h hk)
  · replace h := br_neg h c1
    refine z_iload_n hX dX5_tokenOf_6 0 rfl 7 rfl ?_
    refine z_bipush hX (v := (nI 122)) dX5_tokenOf_7 (by decide) 9 rfl ?_
    refine z_icmp_gt hX 14 dX5_tokenOf_9 (by decide) 12 rfl (fun c2 => ?_) (fun c2 => ?_)
    · replace h := br_pos h c2
      exact z_sub [0] rfl (e_X5_tokenOf_J14 hX h hk)
    · replace h := br_neg h c2
      refine z_iconst hX (v := (nI 1)) dX5_tokenOf_12 rfl 13 rfl ?_
      replace h := Option.some.inj h
      subst h
      exact z_iret hX dX5_tokenOf_13 rfl hk
theorem c_X5_tokenOf {lc : Launch} {Γ : Gm} {a0 : Int32} {s s2 : St} {v : Int32} (h : f_X5_tokenOf a0 s = some (v, s2)) : Ct lc Γ yX5_tokenOf cX5_tokenOf 1 (some .int) 0 [.int a0] s (some (.int v), s2) := Ct.of (by decide +kernel) (Nat.le_of_ble_eq_true rfl) (fun X hl hX => e_X5_tokenOf hX h rfl)
theorem dX5_refuse_0 : decode cX5_refuse 0 = .ok (.aload_n 0, 1) := by decide +kernel
theorem dX5_refuse_1 : decode cX5_refuse 1 = .ok (.iload_n 1, 1) := by decide +kernel
theorem dX5_refuse_2 : decode cX5_refuse 2 = .ok (.putfield 19, 3) := by decide +kernel
theorem dX5_refuse_5 : decode cX5_refuse 5 = .ok (.iconst 0, 1) := by decide +kernel
theorem dX5_refuse_6 : decode cX5_refuse 6 = .ok (.ireturn, 1) := by decide +kernel
def f_X5_refuse (a1 : Int32) (s : St) : Option (Int32 × St) := bd (wI s 33 2 a1) (fun s1 => some (((nI 0), s1)))
set_option maxHeartbeats 4000000 in
set_option maxRecDepth 100000 in
theorem e_X5_refuse {X : Cx} {Γ : Gm} {r0 : Rb} (hX : Amb X Γ cX5_refuse RX5 2 (some .boolean) 0) {a1 : Int32} {s : St} {t : Int32 × St} (h : f_X5_refuse a1 s = some t) (hk : (fun t : Int32 × St => Rt X Γ r0 (some (Value.int t.1), t.2)) t) : Zw X Γ 2 r0 s 0 [(0, .ref (gL Γ (33))), (1, .int a1)] [] := by
  unfold f_X5_refuse at h
  refine z_aload_n hX dX5_refuse_0 0 rfl 1 rfl ?_
  refine z_iload_n hX dX5_refuse_1 1 rfl 2 rfl ?_
  replace h := bd_elim h
  obtain ⟨s1, es1, h⟩ := h
  refine z_putI5 hX (k := 33) (j := 2) kdc_33 (by decide) rfl (by decide +kernel) (pwI_5_2 ..) dX5_refuse_2 fl_X5_19 es1 5 rfl ?_
  refine z_iconst hX (v := (nI 0)) dX5_refuse_5 rfl 6 rfl ?_
  replace h := Option.some.inj h
  subst h
  exact z_zret hX dX5_refuse_6 rfl (by decide) hk
theorem c_X5_refuse {lc : Launch} {Γ : Gm} {a1 : Int32} {s s2 : St} {v : Int32} (h : f_X5_refuse a1 s = some (v, s2)) : Ct lc Γ yX5_refuse cX5_refuse 2 (some .boolean) 0 [.ref (gL Γ (33)), .int a1] s (some (.int v), s2) := Ct.of (by decide +kernel) (Nat.le_of_ble_eq_true rfl) (fun X hl hX => e_X5_refuse hX h rfl)
theorem dX5_readToken_0 : decode cX5_readToken 0 = .ok (.aload_n 0, 1) := by decide +kernel
theorem dX5_readToken_1 : decode cX5_readToken 1 = .ok (.getfield 25, 3) := by decide +kernel
theorem dX5_readToken_4 : decode cX5_readToken 4 = .ok (.aload_n 0, 1) := by decide +kernel
theorem dX5_readToken_5 : decode cX5_readToken 5 = .ok (.getfield 15, 3) := by decide +kernel
theorem dX5_readToken_8 : decode cX5_readToken 8 = .ok (.if_icmp .ge 30, 3) := by decide +kernel
theorem dX5_readToken_11 : decode cX5_readToken 11 = .ok (.aload_n 0, 1) := by decide +kernel
theorem dX5_readToken_12 : decode cX5_readToken 12 = .ok (.getfield 9, 3) := by decide +kernel
theorem dX5_readToken_15 : decode cX5_readToken 15 = .ok (.aload_n 0, 1) := by decide +kernel
theorem dX5_readToken_16 : decode cX5_readToken 16 = .ok (.getfield 25, 3) := by decide +kernel
theorem dX5_readToken_19 : decode cX5_readToken 19 = .ok (.baload, 1) := by decide +kernel
theorem dX5_readToken_20 : decode cX5_readToken 20 = .ok (.bipush 32, 2) := by decide +kernel
theorem dX5_readToken_22 : decode cX5_readToken 22 = .ok (.if_icmp .ne 16, 3) := by decide +kernel
theorem dX5_readToken_25 : decode cX5_readToken 25 = .ok (.aload_n 0, 1) := by decide +kernel
theorem dX5_readToken_26 : decode cX5_readToken 26 = .ok (.dup, 1) := by decide +kernel
theorem dX5_readToken_27 : decode cX5_readToken 27 = .ok (.getfield 25, 3) := by decide +kernel
theorem dX5_readToken_30 : decode cX5_readToken 30 = .ok (.iconst 1, 1) := by decide +kernel
theorem dX5_readToken_31 : decode cX5_readToken 31 = .ok (.iadd, 1) := by decide +kernel
theorem dX5_readToken_32 : decode cX5_readToken 32 = .ok (.putfield 25, 3) := by decide +kernel
theorem dX5_readToken_35 : decode cX5_readToken 35 = .ok (.goto (-35), 3) := by decide +kernel
theorem dX5_readToken_38 : decode cX5_readToken 38 = .ok (.aload_n 0, 1) := by decide +kernel
theorem dX5_readToken_39 : decode cX5_readToken 39 = .ok (.aload_n 0, 1) := by decide +kernel
theorem dX5_readToken_40 : decode cX5_readToken 40 = .ok (.getfield 25, 3) := by decide +kernel
theorem dX5_readToken_43 : decode cX5_readToken 43 = .ok (.putfield 22, 3) := by decide +kernel
theorem dX5_readToken_46 : decode cX5_readToken 46 = .ok (.aload_n 0, 1) := by decide +kernel
theorem dX5_readToken_47 : decode cX5_readToken 47 = .ok (.aload_n 0, 1) := by decide +kernel
theorem dX5_readToken_48 : decode cX5_readToken 48 = .ok (.getfield 25, 3) := by decide +kernel
theorem dX5_readToken_51 : decode cX5_readToken 51 = .ok (.aload_n 0, 1) := by decide +kernel
theorem dX5_readToken_52 : decode cX5_readToken 52 = .ok (.getfield 15, 3) := by decide +kernel
theorem dX5_readToken_55 : decode cX5_readToken 55 = .ok (.if_icmp .ge 18, 3) := by decide +kernel
theorem dX5_readToken_58 : decode cX5_readToken 58 = .ok (.aload_n 0, 1) := by decide +kernel
theorem dX5_readToken_59 : decode cX5_readToken 59 = .ok (.getfield 9, 3) := by decide +kernel
theorem dX5_readToken_62 : decode cX5_readToken 62 = .ok (.aload_n 0, 1) := by decide +kernel
theorem dX5_readToken_63 : decode cX5_readToken 63 = .ok (.getfield 25, 3) := by decide +kernel
theorem dX5_readToken_66 : decode cX5_readToken 66 = .ok (.baload, 1) := by decide +kernel
theorem dX5_readToken_67 : decode cX5_readToken 67 = .ok (.invokestatic 50, 3) := by decide +kernel
theorem dX5_readToken_70 : decode cX5_readToken 70 = .ok (.goto 4, 3) := by decide +kernel
theorem dX5_readToken_73 : decode cX5_readToken 73 = .ok (.iconst 0, 1) := by decide +kernel
theorem dX5_readToken_74 : decode cX5_readToken 74 = .ok (.putfield 28, 3) := by decide +kernel
theorem dX5_readToken_77 : decode cX5_readToken 77 = .ok (.aload_n 0, 1) := by decide +kernel
theorem dX5_readToken_78 : decode cX5_readToken 78 = .ok (.getfield 28, 3) := by decide +kernel
theorem dX5_readToken_81 : decode cX5_readToken 81 = .ok (.ifCond .ne 5, 3) := by decide +kernel
theorem dX5_readToken_84 : decode cX5_readToken 84 = .ok (.iconst 1, 1) := by decide +kernel
theorem dX5_readToken_85 : decode cX5_readToken 85 = .ok (.ireturn, 1) := by decide +kernel
theorem dX5_readToken_86 : decode cX5_readToken 86 = .ok (.aload_n 0, 1) := by decide +kernel
theorem dX5_readToken_87 : decode cX5_readToken 87 = .ok (.dup, 1) := by decide +kernel
theorem dX5_readToken_88 : decode cX5_readToken 88 = .ok (.getfield 25, 3) := by decide +kernel
theorem dX5_readToken_91 : decode cX5_readToken 91 = .ok (.iconst 1, 1) := by decide +kernel
theorem dX5_readToken_92 : decode cX5_readToken 92 = .ok (.iadd, 1) := by decide +kernel
theorem dX5_readToken_93 : decode cX5_readToken 93 = .ok (.putfield 25, 3) := by decide +kernel
theorem dX5_readToken_96 : decode cX5_readToken 96 = .ok (.aload_n 0, 1) := by decide +kernel
theorem dX5_readToken_97 : decode cX5_readToken 97 = .ok (.getfield 28, 3) := by decide +kernel
theorem dX5_readToken_100 : decode cX5_readToken 100 = .ok (.iconst 1, 1) := by decide +kernel
theorem dX5_readToken_101 : decode cX5_readToken 101 = .ok (.if_icmp .eq 11, 3) := by decide +kernel
theorem dX5_readToken_104 : decode cX5_readToken 104 = .ok (.aload_n 0, 1) := by decide +kernel
theorem dX5_readToken_105 : decode cX5_readToken 105 = .ok (.getfield 28, 3) := by decide +kernel
theorem dX5_readToken_108 : decode cX5_readToken 108 = .ok (.iconst 2, 1) := by decide +kernel
theorem dX5_readToken_109 : decode cX5_readToken 109 = .ok (.if_icmp .ne 7, 3) := by decide +kernel
theorem dX5_readToken_112 : decode cX5_readToken 112 = .ok (.iconst 1, 1) := by decide +kernel
theorem dX5_readToken_113 : decode cX5_readToken 113 = .ok (.goto 4, 3) := by decide +kernel
theorem dX5_readToken_116 : decode cX5_readToken 116 = .ok (.iconst 0, 1) := by decide +kernel
theorem dX5_readToken_117 : decode cX5_readToken 117 = .ok (.istore_n 1, 1) := by decide +kernel
theorem dX5_readToken_118 : decode cX5_readToken 118 = .ok (.iload_n 1, 1) := by decide +kernel
theorem dX5_readToken_119 : decode cX5_readToken 119 = .ok (.ifCond .eq 46, 3) := by decide +kernel
theorem dX5_readToken_122 : decode cX5_readToken 122 = .ok (.aload_n 0, 1) := by decide +kernel
theorem dX5_readToken_123 : decode cX5_readToken 123 = .ok (.getfield 25, 3) := by decide +kernel
theorem dX5_readToken_126 : decode cX5_readToken 126 = .ok (.aload_n 0, 1) := by decide +kernel
theorem dX5_readToken_127 : decode cX5_readToken 127 = .ok (.getfield 15, 3) := by decide +kernel
theorem dX5_readToken_130 : decode cX5_readToken 130 = .ok (.if_icmp .ge 35, 3) := by decide +kernel
theorem dX5_readToken_133 : decode cX5_readToken 133 = .ok (.aload_n 0, 1) := by decide +kernel
theorem dX5_readToken_134 : decode cX5_readToken 134 = .ok (.getfield 9, 3) := by decide +kernel
theorem dX5_readToken_137 : decode cX5_readToken 137 = .ok (.aload_n 0, 1) := by decide +kernel
theorem dX5_readToken_138 : decode cX5_readToken 138 = .ok (.getfield 25, 3) := by decide +kernel
theorem dX5_readToken_141 : decode cX5_readToken 141 = .ok (.baload, 1) := by decide +kernel
theorem dX5_readToken_142 : decode cX5_readToken 142 = .ok (.invokestatic 50, 3) := by decide +kernel
theorem dX5_readToken_145 : decode cX5_readToken 145 = .ok (.aload_n 0, 1) := by decide +kernel
theorem dX5_readToken_146 : decode cX5_readToken 146 = .ok (.getfield 28, 3) := by decide +kernel
theorem dX5_readToken_149 : decode cX5_readToken 149 = .ok (.if_icmp .ne 16, 3) := by decide +kernel
theorem dX5_readToken_152 : decode cX5_readToken 152 = .ok (.aload_n 0, 1) := by decide +kernel
theorem dX5_readToken_153 : decode cX5_readToken 153 = .ok (.dup, 1) := by decide +kernel
theorem dX5_readToken_154 : decode cX5_readToken 154 = .ok (.getfield 25, 3) := by decide +kernel
theorem dX5_readToken_157 : decode cX5_readToken 157 = .ok (.iconst 1, 1) := by decide +kernel
theorem dX5_readToken_158 : decode cX5_readToken 158 = .ok (.iadd, 1) := by decide +kernel
theorem dX5_readToken_159 : decode cX5_readToken 159 = .ok (.putfield 25, 3) := by decide +kernel
theorem dX5_readToken_162 : decode cX5_readToken 162 = .ok (.goto (-44), 3) := by decide +kernel
theorem dX5_readToken_165 : decode cX5_readToken 165 = .ok (.aload_n 0, 1) := by decide +kernel
theorem dX5_readToken_166 : decode cX5_readToken 166 = .ok (.getfield 28, 3) := by decide +kernel
theorem dX5_readToken_169 : decode cX5_readToken 169 = .ok (.iconst 4, 1) := by decide +kernel
theorem dX5_readToken_170 : decode cX5_readToken 170 = .ok (.if_icmp .eq 24, 3) := by decide +kernel
theorem dX5_readToken_173 : decode cX5_readToken 173 = .ok (.aload_n 0, 1) := by decide +kernel
theorem dX5_readToken_174 : decode cX5_readToken 174 = .ok (.getfield 28, 3) := by decide +kernel
theorem dX5_readToken_177 : decode cX5_readToken 177 = .ok (.iconst 2, 1) := by decide +kernel
theorem dX5_readToken_178 : decode cX5_readToken 178 = .ok (.if_icmp .ne 22, 3) := by decide +kernel
theorem dX5_readToken_181 : decode cX5_readToken 181 = .ok (.aload_n 0, 1) := by decide +kernel
theorem dX5_readToken_182 : decode cX5_readToken 182 = .ok (.getfield 25, 3) := by decide +kernel
theorem dX5_readToken_185 : decode cX5_readToken 185 = .ok (.aload_n 0, 1) := by decide +kernel
theorem dX5_readToken_186 : decode cX5_readToken 186 = .ok (.getfield 22, 3) := by decide +kernel
theorem dX5_readToken_189 : decode cX5_readToken 189 = .ok (.isub, 1) := by decide +kernel
theorem dX5_readToken_190 : decode cX5_readToken 190 = .ok (.iconst 2, 1) := by decide +kernel
theorem dX5_readToken_191 : decode cX5_readToken 191 = .ok (.if_icmp .le 9, 3) := by decide +kernel
theorem dX5_readToken_194 : decode cX5_readToken 194 = .ok (.aload_n 0, 1) := by decide +kernel
theorem dX5_readToken_195 : decode cX5_readToken 195 = .ok (.iconst 1, 1) := by decide +kernel
theorem dX5_readToken_196 : decode cX5_readToken 196 = .ok (.invokevirtual 54, 3) := by decide +kernel
theorem dX5_readToken_199 : decode cX5_readToken 199 = .ok (.ireturn, 1) := by decide +kernel
theorem dX5_readToken_200 : decode cX5_readToken 200 = .ok (.iconst 1, 1) := by decide +kernel
theorem dX5_readToken_201 : decode cX5_readToken 201 = .ok (.ireturn, 1) := by decide +kernel
def f_X5_readToken_J165 (s : St) : Option (Int32 × St) := if (s.1 33 5) = (nI 4) then (cl (f_X5_refuse (nI 1) s) (fun x24 s23 => if x24 = 0 ∨ x24 = 1 then some ((x24, s23)) else none)) else (if ¬ (s.1 33 5) = (nI 2) then (some (((nI 1), s))) else (if ((s.1 33 4) - (s.1 33 3)) ≤ (nI 2) then (some (((nI 1), s))) else (cl (f_X5_refuse (nI 1) s) (fun x29 s28 => if x29 = 0 ∨ x29 = 1 then some ((x29, s28)) else none))))
def f_X5_readToken_L118 (v1 : Int32) (s : St) : Option ((St) ⊕ (Int32 × St)) := if v1 = 0 then (ox (f_X5_readToken_J165 s)) else (if (s.1 33 1) ≤ (s.1 33 4) then (ox (f_X5_readToken_J165 s)) else (if inb (s.1 33 4) (lnB 34) = true then cl (f_X5_tokenOf (s.1 34 ((s.1 33 4)).toNatClampNeg) s) (fun x19 s18 => if ¬ x19 = (s18.1 33 5) then (ox (f_X5_readToken_J165 s18)) else (bd (wI s18 33 4 ((s18.1 33 4) + (nI 1))) (fun s21 => some (Sum.inl (s21))))) else none))
def f_X5_readToken_J74 (k0 : Int32) (s : St) : Option (Int32 × St) := bd (wI s 33 5 k0) (fun s10 => if ¬ (s10.1 33 5) = 0 then (bd (wI s10 33 4 ((s10.1 33 4) + (nI 1))) (fun s12 => if (s12.1 33 5) = (nI 1) then (lp (fun q : St => f_X5_readToken_L118 (nI 1) q) Fu s12) else (if ¬ (s12.1 33 5) = (nI 2) then (lp (fun q : St => f_X5_readToken_L118 (nI 0) q) Fu s12) else (lp (fun q : St => f_X5_readToken_L118 (nI 1) q) Fu s12)))) else (some (((nI 1), s10))))
def f_X5_readToken_J38 (s : St) : Option (Int32 × St) := bd (wI s 33 3 (s.1 33 4)) (fun s5 => if (s5.1 33 1) ≤ (s5.1 33 4) then (f_X5_readToken_J74 (nI 0) s5) else (if inb (s5.1 33 4) (lnB 34) = true then cl (f_X5_tokenOf (s5.1 34 ((s5.1 33 4)).toNatClampNeg) s5) (fun x9 s8 => f_X5_readToken_J74 x9 s8) else none))
def f_X5_readToken_L0 (s : St) : Option ((St) ⊕ (Int32 × St)) := if (s.1 33 1) ≤ (s.1 33 4) then (ox (f_X5_readToken_J38 s)) else (if inb (s.1 33 4) (lnB 34) = true then if ¬ (s.1 34 ((s.1 33 4)).toNatClampNeg) = (nI 32) then (ox (f_X5_readToken_J38 s)) else (bd (wI s 33 4 ((s.1 33 4) + (nI 1))) (fun s4 => some (Sum.inl (s4)))) else none)
def f_X5_readToken (s : St) : Option (Int32 × St) := lp (fun q : St => f_X5_readToken_L0 q) Fu s
set_option maxHeartbeats 4000000 in
set_option maxRecDepth 100000 in
theorem e_X5_readToken_J165 {X : Cx} {Γ : Gm} {r0 : Rb} (hX : Amb X Γ cX5_readToken RX5 2 (some .boolean) 1) {s : St} {t : Int32 × St} (h : f_X5_readToken_J165 s = some t) (hk : (fun t : Int32 × St => Rt X Γ r0 (some (Value.int t.1), t.2)) t) : Zw X Γ 2 r0 s 165 [(0, .ref (gL Γ (33)))] [] := by
  unfold f_X5_readToken_J165 at h
  refine z_aload_n hX dX5_readToken_165 0 rfl 166 rfl ?_
  refine z_get5 hX (k := 33) (j := 5) (v := .int ((s.1 33 5))) kdc_33 (by decide) rfl dX5_readToken_166 fl_X5_28 169 rfl ?_
  refine z_iconst hX (v := (nI 4)) dX5_readToken_169 rfl 170 rfl ?_
  refine z_icmp_eq hX 194 dX5_readToken_170 (by decide) 173 rfl (fun c22 => ?_) (fun c22 => ?_)
  · replace h := br_pos h c22
    refine z_aload_n hX dX5_readToken_194 0 rfl 195 rfl ?_
    refine z_iconst hX (v := (nI 1)) dX5_readToken_195 rfl 196 rfl ?_
    replace h := cl_elim h
    obtain ⟨x24, s23, hx24, h⟩ := h
    refine z_cV5i hX (b := 33) (As := [.int ((nI 1))]) (c_X5_refuse hx24) lk_X5_54 rfl kdc_33 ds_X5_refuse rfl (by decide) (by decide) (by decide) dX5_readToken_196 rfl 199 rfl ?_
    replace h := gd_elim h
    obtain ⟨g25, h⟩ := h
    replace h := Option.some.inj h
    subst h
    exact z_zret hX dX5_readToken_199 rfl g25 hk
  · replace h := br_neg h c22
    refine z_aload_n hX dX5_readToken_173 0 rfl 174 rfl ?_
    refine z_get5 hX (k := 33) (j := 5) (v := .int ((s.1 33 5))) kdc_33 (by decide) rfl dX5_readToken_174 fl_X5_28 177 rfl ?_
    refine z_iconst hX (v := (nI 2)) dX5_readToken_177 rfl 178 rfl ?_
    refine z_icmp_ne hX 200 dX5_readToken_178 (by decide) 181 rfl (fun c26 => ?_) (fun c26 => ?_)
    · replace h := br_pos h c26
      refine z_iconst hX (v := (nI 1)) dX5_readToken_200 rfl 201 rfl ?_
      replace h := Option.some.inj h
      subst h
      exact z_zret hX dX5_readToken_201 rfl (by decide) hk
    · replace h := br_neg h c26
      refine z_aload_n hX dX5_readToken_181 0 rfl 182 rfl ?_
      refine z_get5 hX (k := 33) (j := 4) (v := .int ((s.1 33 4))) kdc_33 (by decide) rfl dX5_readToken_182 fl_X5_25 185 rfl ?_
      refine z_aload_n hX dX5_readToken_185 0 rfl 186 rfl ?_
      refine z_get5 hX (k := 33) (j := 3) (v := .int ((s.1 33 3))) kdc_33 (by decide) rfl dX5_readToken_186 fl_X5_22 189 rfl ?_
      refine z_isub hX dX5_readToken_189 190 rfl ?_
      refine z_iconst hX (v := (nI 2)) dX5_readToken_190 rfl 191 rfl ?_
      refine z_icmp_le hX 200 dX5_readToken_191 (by decide) 194 rfl (fun c27 => ?_) (fun c27 => ?_)
      · replace h := br_pos h c27
        refine z_iconst hX (v := (nI 1)) dX5_readToken_200 rfl 201 rfl ?_
        replace h := Option.some.inj h
        subst h
        exact z_zret hX dX5_readToken_201 rfl (by decide) hk
      · replace h := br_neg h c27
        refine z_aload_n hX dX5_readToken_194 0 rfl 195 rfl ?_
        refine z_iconst hX (v := (nI 1)) dX5_readToken_195 rfl 196 rfl ?_
        replace h := cl_elim h
        obtain ⟨x29, s28, hx29, h⟩ := h
        refine z_cV5i hX (b := 33) (As := [.int ((nI 1))]) (c_X5_refuse hx29) lk_X5_54 rfl kdc_33 ds_X5_refuse rfl (by decide) (by decide) (by decide) dX5_readToken_196 rfl 199 rfl ?_
        replace h := gd_elim h
        obtain ⟨g30, h⟩ := h
        replace h := Option.some.inj h
        subst h
        exact z_zret hX dX5_readToken_199 rfl g30 hk
set_option maxHeartbeats 4000000 in
set_option maxRecDepth 100000 in
theorem e_X5_readToken_L118 {X : Cx} {Γ : Gm} {r0 : Rb} (hX : Amb X Γ cX5_readToken RX5 2 (some .boolean) 1) {v1 : Int32} {s : St} {t : (St) ⊕ (Int32 × St)} (h : f_X5_readToken_L118 v1 s = some t) (hk : (Sum.elim (fun q : St => Zw X Γ 2 r0 q 118 [(0, .ref (gL Γ (33))), (1, .int v1)] []) (fun t : Int32 × St => Rt X Γ r0 (some (Value.int t.1), t.2))) t) : Zw X Γ 2 r0 s 118 [(0, .ref (gL Γ (33))), (1, .int v1)] [] := by
  unfold f_X5_readToken_L118 at h
  refine z_iload_n hX dX5_readToken_118 1 rfl 119 rfl ?_
  refine z_if_eq hX 165 dX5_readToken_119 (by decide) 122 rfl (fun c15 => ?_) (fun c15 => ?_)
  · replace h := br_pos h c15
    replace h := ox_elim h
    obtain ⟨u, rfl, h⟩ := h
    exact z_sub [0] rfl (e_X5_readToken_J165 hX h hk)
  · replace h := br_neg h c15
    refine z_aload_n hX dX5_readToken_122 0 rfl 123 rfl ?_
    refine z_get5 hX (k := 33) (j := 4) (v := .int ((s.1 33 4))) kdc_33 (by decide) rfl dX5_readToken_123 fl_X5_25 126 rfl ?_
    refine z_aload_n hX dX5_readToken_126 0 rfl 127 rfl ?_
    refine z_get5 hX (k := 33) (j := 1) (v := .int ((s.1 33 1))) kdc_33 (by decide) rfl dX5_readToken_127 fl_X5_15 130 rfl ?_
    refine z_icmp_ge hX 165 dX5_readToken_130 (by decide) 133 rfl (fun c16 => ?_) (fun c16 => ?_)
    · replace h := br_pos h c16
      replace h := ox_elim h
      obtain ⟨u, rfl, h⟩ := h
      exact z_sub [0] rfl (e_X5_readToken_J165 hX h hk)
    · replace h := br_neg h c16
      refine z_aload_n hX dX5_readToken_133 0 rfl 134 rfl ?_
      refine z_get5 hX (k := 33) (j := 0) (v := .ref (gL Γ (34))) kdc_33 (by decide) rfl dX5_readToken_134 fl_X5_9 137 rfl ?_
      refine z_aload_n hX dX5_readToken_137 0 rfl 138 rfl ?_
      refine z_get5 hX (k := 33) (j := 4) (v := .int ((s.1 33 4))) kdc_33 (by decide) rfl dX5_readToken_138 fl_X5_25 141 rfl ?_
      replace h := gd_elim h
      obtain ⟨g17, h⟩ := h
      refine z_bald hX (inb_vp g17) dX5_readToken_141 142 rfl ?_
      replace h := cl_elim h
      obtain ⟨x19, s18, hx19, h⟩ := h
      refine z_cSi hX (As := [.int ((s.1 34 ((s.1 33 4)).toNatClampNeg))]) (c_X5_tokenOf hx19) lk_X5_50 ds_X5_tokenOf rfl (by decide) (by decide) (by decide) dX5_readToken_142 rfl 145 rfl ?_
      refine z_aload_n hX dX5_readToken_145 0 rfl 146 rfl ?_
      refine z_get5 hX (k := 33) (j := 5) (v := .int ((s18.1 33 5))) kdc_33 (by decide) rfl dX5_readToken_146 fl_X5_28 149 rfl ?_
      refine z_icmp_ne hX 165 dX5_readToken_149 (by decide) 152 rfl (fun c20 => ?_) (fun c20 => ?_)
      · replace h := br_pos h c20
        replace h := ox_elim h
        obtain ⟨u, rfl, h⟩ := h
        exact z_sub [0] rfl (e_X5_readToken_J165 hX h hk)
      · replace h := br_neg h c20
        refine z_aload_n hX dX5_readToken_152 0 rfl 153 rfl ?_
        refine z_dup hX dX5_readToken_153 rfl 154 rfl ?_
        refine z_get5 hX (k := 33) (j := 4) (v := .int ((s18.1 33 4))) kdc_33 (by decide) rfl dX5_readToken_154 fl_X5_25 157 rfl ?_
        refine z_iconst hX (v := (nI 1)) dX5_readToken_157 rfl 158 rfl ?_
        refine z_iadd hX dX5_readToken_158 159 rfl ?_
        replace h := bd_elim h
        obtain ⟨s21, es21, h⟩ := h
        refine z_putI5 hX (k := 33) (j := 4) kdc_33 (by decide) rfl (by decide +kernel) (pwI_5_4 ..) dX5_readToken_159 fl_X5_25 es21 162 rfl ?_
        refine z_goto hX 118 dX5_readToken_162 (by decide) ?_
        replace h := Option.some.inj h
        subst h
        exact z_sub [0, 1] rfl hk
set_option maxHeartbeats 4000000 in
set_option maxRecDepth 100000 in
theorem e_X5_readToken_J74 {X : Cx} {Γ : Gm} {r0 : Rb} (hX : Amb X Γ cX5_readToken RX5 2 (some .boolean) 1) {k0 : Int32} {s : St} {t : Int32 × St} (h : f_X5_readToken_J74 k0 s = some t) (hk : (fun t : Int32 × St => Rt X Γ r0 (some (Value.int t.1), t.2)) t) : Zw X Γ 2 r0 s 74 [(0, .ref (gL Γ (33)))] [.int k0, .ref (gL Γ (33))] := by
  unfold f_X5_readToken_J74 at h
  replace h := bd_elim h
  obtain ⟨s10, es10, h⟩ := h
  refine z_putI5 hX (k := 33) (j := 5) kdc_33 (by decide) rfl (by decide +kernel) (pwI_5_5 ..) dX5_readToken_74 fl_X5_28 es10 77 rfl ?_
  refine z_aload_n hX dX5_readToken_77 0 rfl 78 rfl ?_
  refine z_get5 hX (k := 33) (j := 5) (v := .int ((s10.1 33 5))) kdc_33 (by decide) rfl dX5_readToken_78 fl_X5_28 81 rfl ?_
  refine z_if_ne hX 86 dX5_readToken_81 (by decide) 84 rfl (fun c11 => ?_) (fun c11 => ?_)
  · replace h := br_pos h c11
    refine z_aload_n hX dX5_readToken_86 0 rfl 87 rfl ?_
    refine z_dup hX dX5_readToken_87 rfl 88 rfl ?_
    refine z_get5 hX (k := 33) (j := 4) (v := .int ((s10.1 33 4))) kdc_33 (by decide) rfl dX5_readToken_88 fl_X5_25 91 rfl ?_
    refine z_iconst hX (v := (nI 1)) dX5_readToken_91 rfl 92 rfl ?_
    refine z_iadd hX dX5_readToken_92 93 rfl ?_
    replace h := bd_elim h
    obtain ⟨s12, es12, h⟩ := h
    refine z_putI5 hX (k := 33) (j := 4) kdc_33 (by decide) rfl (by decide +kernel) (pwI_5_4 ..) dX5_readToken_93 fl_X5_25 es12 96 rfl ?_
    refine z_aload_n hX dX5_readToken_96 0 rfl 97 rfl ?_
    refine z_get5 hX (k := 33) (j := 5) (v := .int ((s12.1 33 5))) kdc_33 (by decide) rfl dX5_readToken_97 fl_X5_28 100 rfl ?_
    refine z_iconst hX (v := (nI 1)) dX5_readToken_100 rfl 101 rfl ?_
    refine z_icmp_eq hX 112 dX5_readToken_101 (by decide) 104 rfl (fun c13 => ?_) (fun c13 => ?_)
    · replace h := br_pos h c13
      refine z_iconst hX (v := (nI 1)) dX5_readToken_112 rfl 113 rfl ?_
      refine z_goto hX 117 dX5_readToken_113 (by decide) ?_
      refine z_istore_n hX (lv2 := [(1, .int ((nI 1))), (0, .ref (gL Γ (33)))]) dX5_readToken_117 (by decide) rfl 118 rfl ?_
      exact z_sub [1, 0] rfl (lp_ok (Z := fun q : St => Zw X Γ 2 r0 q 118 [(0, .ref (gL Γ (33))), (1, .int ((nI 1)))] []) (fun q t h hk => e_X5_readToken_L118 hX h hk) Fu _ _ h hk)
    · replace h := br_neg h c13
      refine z_aload_n hX dX5_readToken_104 0 rfl 105 rfl ?_
      refine z_get5 hX (k := 33) (j := 5) (v := .int ((s12.1 33 5))) kdc_33 (by decide) rfl dX5_readToken_105 fl_X5_28 108 rfl ?_
      refine z_iconst hX (v := (nI 2)) dX5_readToken_108 rfl 109 rfl ?_
      refine z_icmp_ne hX 116 dX5_readToken_109 (by decide) 112 rfl (fun c14 => ?_) (fun c14 => ?_)
      · replace h := br_pos h c14
        refine z_iconst hX (v := (nI 0)) dX5_readToken_116 rfl 117 rfl ?_
        refine z_istore_n hX (lv2 := [(1, .int ((nI 0))), (0, .ref (gL Γ (33)))]) dX5_readToken_117 (by decide) rfl 118 rfl ?_
        exact z_sub [1, 0] rfl (lp_ok (Z := fun q : St => Zw X Γ 2 r0 q 118 [(0, .ref (gL Γ (33))), (1, .int ((nI 0)))] []) (fun q t h hk => e_X5_readToken_L118 hX h hk) Fu _ _ h hk)
      · replace h := br_neg h c14
        refine z_iconst hX (v := (nI 1)) dX5_readToken_112 rfl 113 rfl ?_
        refine z_goto hX 117 dX5_readToken_113 (by decide) ?_
        refine z_istore_n hX (lv2 := [(1, .int ((nI 1))), (0, .ref (gL Γ (33)))]) dX5_readToken_117 (by decide) rfl 118 rfl ?_
        exact z_sub [1, 0] rfl (lp_ok (Z := fun q : St => Zw X Γ 2 r0 q 118 [(0, .ref (gL Γ (33))), (1, .int ((nI 1)))] []) (fun q t h hk => e_X5_readToken_L118 hX h hk) Fu _ _ h hk)
  · replace h := br_neg h c11
    refine z_iconst hX (v := (nI 1)) dX5_readToken_84 rfl 85 rfl ?_
    replace h := Option.some.inj h
    subst h
    exact z_zret hX dX5_readToken_85 rfl (by decide) hk
set_option maxHeartbeats 4000000 in
set_option maxRecDepth 100000 in
theorem e_X5_readToken_J38 {X : Cx} {Γ : Gm} {r0 : Rb} (hX : Amb X Γ cX5_readToken RX5 2 (some .boolean) 1) {s : St} {t : Int32 × St} (h : f_X5_readToken_J38 s = some t) (hk : (fun t : Int32 × St => Rt X Γ r0 (some (Value.int t.1), t.2)) t) : Zw X Γ 2 r0 s 38 [(0, .ref (gL Γ (33)))] [] := by
  unfold f_X5_readToken_J38 at h
  refine z_aload_n hX dX5_readToken_38 0 rfl 39 rfl ?_
  refine z_aload_n hX dX5_readToken_39 0 rfl 40 rfl ?_
  refine z_get5 hX (k := 33) (j := 4) (v := .int ((s.1 33 4))) kdc_33 (by decide) rfl dX5_readToken_40 fl_X5_25 43 rfl ?_
  replace h := bd_elim h
  obtain ⟨s5, es5, h⟩ := h
  refine z_putI5 hX (k := 33) (j := 3) kdc_33 (by decide) rfl (by decide +kernel) (pwI_5_3 ..) dX5_readToken_43 fl_X5_22 es5 46 rfl ?_
  refine z_aload_n hX dX5_readToken_46 0 rfl 47 rfl ?_
  refine z_aload_n hX dX5_readToken_47 0 rfl 48 rfl ?_
  refine z_get5 hX (k := 33) (j := 4) (v := .int ((s5.1 33 4))) kdc_33 (by decide) rfl dX5_readToken_48 fl_X5_25 51 rfl ?_
  refine z_aload_n hX dX5_readToken_51 0 rfl 52 rfl ?_
  refine z_get5 hX (k := 33) (j := 1) (v := .int ((s5.1 33 1))) kdc_33 (by decide) rfl dX5_readToken_52 fl_X5_15 55 rfl ?_
  refine z_icmp_ge hX 73 dX5_readToken_55 (by decide) 58 rfl (fun c6 => ?_) (fun c6 => ?_)
  · replace h := br_pos h c6
    refine z_iconst hX (v := (nI 0)) dX5_readToken_73 rfl 74 rfl ?_
    exact z_sub [0] rfl (e_X5_readToken_J74 hX h hk)
  · replace h := br_neg h c6
    refine z_aload_n hX dX5_readToken_58 0 rfl 59 rfl ?_
    refine z_get5 hX (k := 33) (j := 0) (v := .ref (gL Γ (34))) kdc_33 (by decide) rfl dX5_readToken_59 fl_X5_9 62 rfl ?_
    refine z_aload_n hX dX5_readToken_62 0 rfl 63 rfl ?_
    refine z_get5 hX (k := 33) (j := 4) (v := .int ((s5.1 33 4))) kdc_33 (by decide) rfl dX5_readToken_63 fl_X5_25 66 rfl ?_
    replace h := gd_elim h
    obtain ⟨g7, h⟩ := h
    refine z_bald hX (inb_vp g7) dX5_readToken_66 67 rfl ?_
    replace h := cl_elim h
    obtain ⟨x9, s8, hx9, h⟩ := h
    refine z_cSi hX (As := [.int ((s5.1 34 ((s5.1 33 4)).toNatClampNeg))]) (c_X5_tokenOf hx9) lk_X5_50 ds_X5_tokenOf rfl (by decide) (by decide) (Nat.le_of_ble_eq_true rfl) dX5_readToken_67 rfl 70 rfl ?_
    refine z_goto hX 74 dX5_readToken_70 (by decide) ?_
    exact z_sub [0] rfl (e_X5_readToken_J74 hX h hk)
set_option maxHeartbeats 4000000 in
set_option maxRecDepth 100000 in
theorem e_X5_readToken_L0 {X : Cx} {Γ : Gm} {r0 : Rb} (hX : Amb X Γ cX5_readToken RX5 2 (some .boolean) 1) {s : St} {t : (St) ⊕ (Int32 × St)} (h : f_X5_readToken_L0 s = some t) (hk : (Sum.elim (fun q : St => Zw X Γ 2 r0 q 0 [(0, .ref (gL Γ (33)))] []) (fun t : Int32 × St => Rt X Γ r0 (some (Value.int t.1), t.2))) t) : Zw X Γ 2 r0 s 0 [(0, .ref (gL Γ (33)))] [] := by
  unfold f_X5_readToken_L0 at h
  refine z_aload_n hX dX5_readToken_0 0 rfl 1 rfl ?_
  refine z_get5 hX (k := 33) (j := 4) (v := .int ((s.1 33 4))) kdc_33 (by decide) rfl dX5_readToken_1 fl_X5_25 4 rfl ?_
  refine z_aload_n hX dX5_readToken_4 0 rfl 5 rfl ?_
  refine z_get5 hX (k := 33) (j := 1) (v := .int ((s.1 33 1))) kdc_33 (by decide) rfl dX5_readToken_5 fl_X5_15 8 rfl ?_
  refine z_icmp_ge hX 38 dX5_readToken_8 (by decide) 11 rfl (fun c1 => ?_) (fun c1 => ?_)
  · replace h := br_pos h c1
    replace h := ox_elim h
    obtain ⟨u, rfl, h⟩ := h
    exact z_sub [0] rfl (e_X5_readToken_J38 hX h hk)
  · replace h := br_neg h c1
    refine z_aload_n hX dX5_readToken_11 0 rfl 12 rfl ?_
    refine z_get5 hX (k := 33) (j := 0) (v := .ref (gL Γ (34))) kdc_33 (by decide) rfl dX5_readToken_12 fl_X5_9 15 rfl ?_
    refine z_aload_n hX dX5_readToken_15 0 rfl 16 rfl ?_
    refine z_get5 hX (k := 33) (j := 4) (v := .int ((s.1 33 4))) kdc_33 (by decide) rfl dX5_readToken_16 fl_X5_25 19 rfl ?_
    replace h := gd_elim h
    obtain ⟨g2, h⟩ := h
    refine z_bald hX (inb_vp g2) dX5_readToken_19 20 rfl ?_
    refine z_bipush hX (v := (nI 32)) dX5_readToken_20 (by decide) 22 rfl ?_
    refine z_icmp_ne hX 38 dX5_readToken_22 (by decide) 25 rfl (fun c3 => ?_) (fun c3 => ?_)
    · replace h := br_pos h c3
      replace h := ox_elim h
      obtain ⟨u, rfl, h⟩ := h
      exact z_sub [0] rfl (e_X5_readToken_J38 hX h hk)
    · replace h := br_neg h c3
      refine z_aload_n hX dX5_readToken_25 0 rfl 26 rfl ?_
      refine z_dup hX dX5_readToken_26 rfl 27 rfl ?_
      refine z_get5 hX (k := 33) (j := 4) (v := .int ((s.1 33 4))) kdc_33 (by decide) rfl dX5_readToken_27 fl_X5_25 30 rfl ?_
      refine z_iconst hX (v := (nI 1)) dX5_readToken_30 rfl 31 rfl ?_
      refine z_iadd hX dX5_readToken_31 32 rfl ?_
      replace h := bd_elim h
      obtain ⟨s4, es4, h⟩ := h
      refine z_putI5 hX (k := 33) (j := 4) kdc_33 (by decide) rfl (by decide +kernel) (pwI_5_4 ..) dX5_readToken_32 fl_X5_25 es4 35 rfl ?_
      refine z_goto hX 0 dX5_readToken_35 (by decide) ?_
      replace h := Option.some.inj h
      subst h
      exact z_sub [0] rfl hk
set_option maxHeartbeats 4000000 in
set_option maxRecDepth 100000 in
theorem e_X5_readToken {X : Cx} {Γ : Gm} {r0 : Rb} (hX : Amb X Γ cX5_readToken RX5 2 (some .boolean) 1) {s : St} {t : Int32 × St} (h : f_X5_readToken s = some t) (hk : (fun t : Int32 × St => Rt X Γ r0 (some (Value.int t.1), t.2)) t) : Zw X Γ 2 r0 s 0 [(0, .ref (gL Γ (33)))] [] := by
  unfold f_X5_readToken at h
  exact z_sub [0] rfl (lp_ok (Z := fun q : St => Zw X Γ 2 r0 q 0 [(0, .ref (gL Γ (33)))] []) (fun q t h hk => e_X5_readToken_L0 hX h hk) Fu _ _ h hk)
theorem c_X5_readToken {lc : Launch} {Γ : Gm} {s s2 : St} {v : Int32} (h : f_X5_readToken s = some (v, s2)) : Ct lc Γ yX5_readToken cX5_readToken 2 (some .boolean) 1 [.ref (gL Γ (33))] s (some (.int v), s2) := Ct.of (by decide +kernel) (Nat.le_of_ble_eq_true rfl) (fun X hl hX => e_X5_readToken hX h rfl)
theorem dX5_isWord_0 : decode cX5_isWord 0 = .ok (.aload_n 0, 1) := by decide +kernel
theorem dX5_isWord_1 : decode cX5_isWord 1 = .ok (.getfield 25, 3) := by decide +kernel
theorem dX5_isWord_4 : decode cX5_isWord 4 = .ok (.aload_n 0, 1) := by decide +kernel
theorem dX5_isWord_5 : decode cX5_isWord 5 = .ok (.getfield 22, 3) := by decide +kernel
theorem dX5_isWord_8 : decode cX5_isWord 8 = .ok (.isub, 1) := by decide +kernel
theorem dX5_isWord_9 : decode cX5_isWord 9 = .ok (.aload_n 1, 1) := by decide +kernel
theorem dX5_isWord_10 : decode cX5_isWord 10 = .ok (.invokevirtual 98, 3) := by decide +kernel
theorem dX5_isWord_13 : decode cX5_isWord 13 = .ok (.if_icmp .eq 5, 3) := by decide +kernel
theorem dX5_isWord_16 : decode cX5_isWord 16 = .ok (.iconst 0, 1) := by decide +kernel
theorem dX5_isWord_17 : decode cX5_isWord 17 = .ok (.ireturn, 1) := by decide +kernel
theorem dX5_isWord_18 : decode cX5_isWord 18 = .ok (.iconst 0, 1) := by decide +kernel
theorem dX5_isWord_19 : decode cX5_isWord 19 = .ok (.istore_n 2, 1) := by decide +kernel
theorem dX5_isWord_20 : decode cX5_isWord 20 = .ok (.iload_n 2, 1) := by decide +kernel
theorem dX5_isWord_21 : decode cX5_isWord 21 = .ok (.aload_n 1, 1) := by decide +kernel
theorem dX5_isWord_22 : decode cX5_isWord 22 = .ok (.invokevirtual 98, 3) := by decide +kernel
theorem dX5_isWord_25 : decode cX5_isWord 25 = .ok (.if_icmp .ge 30, 3) := by decide +kernel
theorem dX5_isWord_28 : decode cX5_isWord 28 = .ok (.aload_n 0, 1) := by decide +kernel
theorem dX5_isWord_29 : decode cX5_isWord 29 = .ok (.getfield 9, 3) := by decide +kernel
theorem dX5_isWord_32 : decode cX5_isWord 32 = .ok (.aload_n 0, 1) := by decide +kernel
theorem dX5_isWord_33 : decode cX5_isWord 33 = .ok (.getfield 22, 3) := by decide +kernel
theorem dX5_isWord_36 : decode cX5_isWord 36 = .ok (.iload_n 2, 1) := by decide +kernel
theorem dX5_isWord_37 : decode cX5_isWord 37 = .ok (.iadd, 1) := by decide +kernel
theorem dX5_isWord_38 : decode cX5_isWord 38 = .ok (.baload, 1) := by decide +kernel
theorem dX5_isWord_39 : decode cX5_isWord 39 = .ok (.aload_n 1, 1) := by decide +kernel
theorem dX5_isWord_40 : decode cX5_isWord 40 = .ok (.iload_n 2, 1) := by decide +kernel
theorem dX5_isWord_41 : decode cX5_isWord 41 = .ok (.invokevirtual 102, 3) := by decide +kernel
theorem dX5_isWord_44 : decode cX5_isWord 44 = .ok (.if_icmp .eq 5, 3) := by decide +kernel
theorem dX5_isWord_47 : decode cX5_isWord 47 = .ok (.iconst 0, 1) := by decide +kernel
theorem dX5_isWord_48 : decode cX5_isWord 48 = .ok (.ireturn, 1) := by decide +kernel
theorem dX5_isWord_49 : decode cX5_isWord 49 = .ok (.iinc 2 1, 3) := by decide +kernel
theorem dX5_isWord_52 : decode cX5_isWord 52 = .ok (.goto (-32), 3) := by decide +kernel
theorem dX5_isWord_55 : decode cX5_isWord 55 = .ok (.iconst 1, 1) := by decide +kernel
theorem dX5_isWord_56 : decode cX5_isWord 56 = .ok (.ireturn, 1) := by decide +kernel
def f_X5_isWord_L20 (v1 : Nat) (v2 : Int32) (s : St) : Option ((Int32 × St) ⊕ (Int32 × St)) := cl (f_J0_length_8abf5 v1 s) (fun x5 s4 => if x5 ≤ v2 then (some (Sum.inr (((nI 1), s4)))) else (if inb ((s4.1 33 3) + v2) (lnB 34) = true then cl (f_J0_charAt_5068e v1 v2 s4) (fun x9 s8 => if (s4.1 34 (((s4.1 33 3) + v2)).toNatClampNeg) = x9 then (some (Sum.inl ((v2 + (nI 1)), s8))) else (some (Sum.inr (((nI 0), s8))))) else none))
def f_X5_isWord (a1 : Nat) (s : St) : Option (Int32 × St) := cl (f_J0_length_8abf5 a1 s) (fun x2 s1 => if ((s.1 33 4) - (s.1 33 3)) = x2 then (lp (fun q : Int32 × St => f_X5_isWord_L20 a1 q.1 q.2) Fu ((nI 0), s1)) else (some (((nI 0), s1))))
set_option maxHeartbeats 4000000 in
set_option maxRecDepth 100000 in
theorem e_X5_isWord_L20 {X : Cx} {Γ : Gm} {r0 : Rb} (hX : Amb X Γ cX5_isWord RX5 3 (some .boolean) 4) {v1 : Nat} {v2 : Int32} {s : St} {t : (Int32 × St) ⊕ (Int32 × St)} (h : f_X5_isWord_L20 v1 v2 s = some t) (hk : (Sum.elim (fun q : Int32 × St => Zw X Γ 3 r0 q.2 20 [(0, .ref (gL Γ (33))), (1, .ref (gK Γ v1)), (2, .int q.1)] []) (fun t : Int32 × St => Rt X Γ r0 (some (Value.int t.1), t.2))) t) : Zw X Γ 3 r0 s 20 [(0, .ref (gL Γ (33))), (1, .ref (gK Γ v1)), (2, .int v2)] [] := by
  unfold f_X5_isWord_L20 at h
  refine z_iload_n hX dX5_isWord_20 2 rfl 21 rfl ?_
  refine z_aload_n hX dX5_isWord_21 1 rfl 22 rfl ?_
  replace h := cl_elim h
  obtain ⟨x5, s4, hx5, h⟩ := h
  refine z_cSt hX (b := v1) (As := []) (c_J0_length_8abf5 hx5) lk_X5_98 rfl (f_J0_length_8abf5_lt hx5) ds_J0_length_8abf5 rfl (by decide) (by decide) (Nat.le_of_ble_eq_true rfl) dX5_isWord_22 rfl 25 rfl ?_
  refine z_icmp_ge hX 55 dX5_isWord_25 (by decide) 28 rfl (fun c6 => ?_) (fun c6 => ?_)
  · replace h := br_pos h c6
    refine z_iconst hX (v := (nI 1)) dX5_isWord_55 rfl 56 rfl ?_
    replace h := Option.some.inj h
    subst h
    exact z_zret hX dX5_isWord_56 rfl (by decide) hk
  · replace h := br_neg h c6
    refine z_aload_n hX dX5_isWord_28 0 rfl 29 rfl ?_
    refine z_get5 hX (k := 33) (j := 0) (v := .ref (gL Γ (34))) kdc_33 (by decide) rfl dX5_isWord_29 fl_X5_9 32 rfl ?_
    refine z_aload_n hX dX5_isWord_32 0 rfl 33 rfl ?_
    refine z_get5 hX (k := 33) (j := 3) (v := .int ((s4.1 33 3))) kdc_33 (by decide) rfl dX5_isWord_33 fl_X5_22 36 rfl ?_
    refine z_iload_n hX dX5_isWord_36 2 rfl 37 rfl ?_
    refine z_iadd hX dX5_isWord_37 38 rfl ?_
    replace h := gd_elim h
    obtain ⟨g7, h⟩ := h
    refine z_bald hX (inb_vp g7) dX5_isWord_38 39 rfl ?_
    refine z_aload_n hX dX5_isWord_39 1 rfl 40 rfl ?_
    refine z_iload_n hX dX5_isWord_40 2 rfl 41 rfl ?_
    replace h := cl_elim h
    obtain ⟨x9, s8, hx9, h⟩ := h
    refine z_cSt hX (b := v1) (As := [.int v2]) (c_J0_charAt_5068e hx9) lk_X5_102 rfl (f_J0_charAt_5068e_lt hx9) ds_J0_charAt_5068e rfl (by decide) (by decide) (Nat.le_of_ble_eq_true rfl) dX5_isWord_41 rfl 44 rfl ?_
    refine z_icmp_eq hX 49 dX5_isWord_44 (by decide) 47 rfl (fun c10 => ?_) (fun c10 => ?_)
    · replace h := br_pos h c10
      refine z_iinc hX (v := (v2 + (nI 1))) (lv2 := [(2, .int ((v2 + (nI 1)))), (0, .ref (gL Γ (33))), (1, .ref (gK Γ v1))]) dX5_isWord_49 2 rfl rfl (by decide) rfl 52 rfl ?_
      refine z_goto hX 20 dX5_isWord_52 (by decide) ?_
      replace h := Option.some.inj h
      subst h
      exact z_sub [1, 2, 0] rfl hk
    · replace h := br_neg h c10
      refine z_iconst hX (v := (nI 0)) dX5_isWord_47 rfl 48 rfl ?_
      replace h := Option.some.inj h
      subst h
      exact z_zret hX dX5_isWord_48 rfl (by decide) hk
set_option maxHeartbeats 4000000 in
set_option maxRecDepth 100000 in
theorem e_X5_isWord {X : Cx} {Γ : Gm} {r0 : Rb} (hX : Amb X Γ cX5_isWord RX5 3 (some .boolean) 4) {a1 : Nat} {s : St} {t : Int32 × St} (h : f_X5_isWord a1 s = some t) (hk : (fun t : Int32 × St => Rt X Γ r0 (some (Value.int t.1), t.2)) t) : Zw X Γ 3 r0 s 0 [(0, .ref (gL Γ (33))), (1, .ref (gK Γ a1))] [] := by
  unfold f_X5_isWord at h
  refine z_aload_n hX dX5_isWord_0 0 rfl 1 rfl ?_
  refine z_get5 hX (k := 33) (j := 4) (v := .int ((s.1 33 4))) kdc_33 (by decide) rfl dX5_isWord_1 fl_X5_25 4 rfl ?_
  refine z_aload_n hX dX5_isWord_4 0 rfl 5 rfl ?_
  refine z_get5 hX (k := 33) (j := 3) (v := .int ((s.1 33 3))) kdc_33 (by decide) rfl dX5_isWord_5 fl_X5_22 8 rfl ?_
  refine z_isub hX dX5_isWord_8 9 rfl ?_
  refine z_aload_n hX dX5_isWord_9 1 rfl 10 rfl ?_
  replace h := cl_elim h
  obtain ⟨x2, s1, hx2, h⟩ := h
  refine z_cSt hX (b := a1) (As := []) (c_J0_length_8abf5 hx2) lk_X5_98 rfl (f_J0_length_8abf5_lt hx2) ds_J0_length_8abf5 rfl (by decide) (by decide) (Nat.le_of_ble_eq_true rfl) dX5_isWord_10 rfl 13 rfl ?_
  refine z_icmp_eq hX 18 dX5_isWord_13 (by decide) 16 rfl (fun c3 => ?_) (fun c3 => ?_)
  · replace h := br_pos h c3
    refine z_iconst hX (v := (nI 0)) dX5_isWord_18 rfl 19 rfl ?_
    refine z_istore_n hX (lv2 := [(2, .int ((nI 0))), (0, .ref (gL Γ (33))), (1, .ref (gK Γ a1))]) dX5_isWord_19 (by decide) rfl 20 rfl ?_
    exact z_sub [1, 2, 0] rfl (lp_ok (Z := fun q : Int32 × St => Zw X Γ 3 r0 q.2 20 [(0, .ref (gL Γ (33))), (1, .ref (gK Γ a1)), (2, .int q.1)] []) (fun q t h hk => e_X5_isWord_L20 hX h hk) Fu _ _ h hk)
  · replace h := br_neg h c3
    refine z_iconst hX (v := (nI 0)) dX5_isWord_16 rfl 17 rfl ?_
    replace h := Option.some.inj h
    subst h
    exact z_zret hX dX5_isWord_17 rfl (by decide) hk
theorem c_X5_isWord {lc : Launch} {Γ : Gm} {a1 : Nat} {s s2 : St} {v : Int32} (h : f_X5_isWord a1 s = some (v, s2)) : Ct lc Γ yX5_isWord cX5_isWord 3 (some .boolean) 4 [.ref (gL Γ (33)), .ref (gK Γ a1)] s (some (.int v), s2) := Ct.of (by decide +kernel) (Nat.le_of_ble_eq_true rfl) (fun X hl hX => e_X5_isWord hX h rfl)
theorem dX5_wordRead_0 : decode cX5_wordRead 0 = .ok (.aload_n 0, 1) := by decide +kernel
theorem dX5_wordRead_1 : decode cX5_wordRead 1 = .ok (.ldc 80, 2) := by decide +kernel
theorem dX5_wordRead_3 : decode cX5_wordRead 3 = .ok (.invokevirtual 82, 3) := by decide +kernel
theorem dX5_wordRead_6 : decode cX5_wordRead 6 = .ok (.ifCond .eq 5, 3) := by decide +kernel
theorem dX5_wordRead_9 : decode cX5_wordRead 9 = .ok (.iconst 0, 1) := by decide +kernel
theorem dX5_wordRead_10 : decode cX5_wordRead 10 = .ok (.ireturn, 1) := by decide +kernel
theorem dX5_wordRead_11 : decode cX5_wordRead 11 = .ok (.aload_n 0, 1) := by decide +kernel
theorem dX5_wordRead_12 : decode cX5_wordRead 12 = .ok (.ldc 86, 2) := by decide +kernel
theorem dX5_wordRead_14 : decode cX5_wordRead 14 = .ok (.invokevirtual 82, 3) := by decide +kernel
theorem dX5_wordRead_17 : decode cX5_wordRead 17 = .ok (.ifCond .eq 5, 3) := by decide +kernel
theorem dX5_wordRead_20 : decode cX5_wordRead 20 = .ok (.iconst 1, 1) := by decide +kernel
theorem dX5_wordRead_21 : decode cX5_wordRead 21 = .ok (.ireturn, 1) := by decide +kernel
theorem dX5_wordRead_22 : decode cX5_wordRead 22 = .ok (.aload_n 0, 1) := by decide +kernel
theorem dX5_wordRead_23 : decode cX5_wordRead 23 = .ok (.ldc 88, 2) := by decide +kernel
theorem dX5_wordRead_25 : decode cX5_wordRead 25 = .ok (.invokevirtual 82, 3) := by decide +kernel
theorem dX5_wordRead_28 : decode cX5_wordRead 28 = .ok (.ifCond .eq 5, 3) := by decide +kernel
theorem dX5_wordRead_31 : decode cX5_wordRead 31 = .ok (.iconst 2, 1) := by decide +kernel
theorem dX5_wordRead_32 : decode cX5_wordRead 32 = .ok (.ireturn, 1) := by decide +kernel
theorem dX5_wordRead_33 : decode cX5_wordRead 33 = .ok (.aload_n 0, 1) := by decide +kernel
theorem dX5_wordRead_34 : decode cX5_wordRead 34 = .ok (.ldc 90, 2) := by decide +kernel
theorem dX5_wordRead_36 : decode cX5_wordRead 36 = .ok (.invokevirtual 82, 3) := by decide +kernel
theorem dX5_wordRead_39 : decode cX5_wordRead 39 = .ok (.ifCond .eq 5, 3) := by decide +kernel
theorem dX5_wordRead_42 : decode cX5_wordRead 42 = .ok (.iconst 3, 1) := by decide +kernel
theorem dX5_wordRead_43 : decode cX5_wordRead 43 = .ok (.ireturn, 1) := by decide +kernel
theorem dX5_wordRead_44 : decode cX5_wordRead 44 = .ok (.aload_n 0, 1) := by decide +kernel
theorem dX5_wordRead_45 : decode cX5_wordRead 45 = .ok (.ldc 92, 2) := by decide +kernel
theorem dX5_wordRead_47 : decode cX5_wordRead 47 = .ok (.invokevirtual 82, 3) := by decide +kernel
theorem dX5_wordRead_50 : decode cX5_wordRead 50 = .ok (.ifCond .eq 5, 3) := by decide +kernel
theorem dX5_wordRead_53 : decode cX5_wordRead 53 = .ok (.iconst 4, 1) := by decide +kernel
theorem dX5_wordRead_54 : decode cX5_wordRead 54 = .ok (.ireturn, 1) := by decide +kernel
theorem dX5_wordRead_55 : decode cX5_wordRead 55 = .ok (.aload_n 0, 1) := by decide +kernel
theorem dX5_wordRead_56 : decode cX5_wordRead 56 = .ok (.ldc 94, 2) := by decide +kernel
theorem dX5_wordRead_58 : decode cX5_wordRead 58 = .ok (.invokevirtual 82, 3) := by decide +kernel
theorem dX5_wordRead_61 : decode cX5_wordRead 61 = .ok (.ifCond .eq 5, 3) := by decide +kernel
theorem dX5_wordRead_64 : decode cX5_wordRead 64 = .ok (.iconst 5, 1) := by decide +kernel
theorem dX5_wordRead_65 : decode cX5_wordRead 65 = .ok (.ireturn, 1) := by decide +kernel
theorem dX5_wordRead_66 : decode cX5_wordRead 66 = .ok (.aload_n 0, 1) := by decide +kernel
theorem dX5_wordRead_67 : decode cX5_wordRead 67 = .ok (.ldc 96, 2) := by decide +kernel
theorem dX5_wordRead_69 : decode cX5_wordRead 69 = .ok (.invokevirtual 82, 3) := by decide +kernel
theorem dX5_wordRead_72 : decode cX5_wordRead 72 = .ok (.ifCond .eq 8, 3) := by decide +kernel
theorem dX5_wordRead_75 : decode cX5_wordRead 75 = .ok (.bipush 6, 2) := by decide +kernel
theorem dX5_wordRead_77 : decode cX5_wordRead 77 = .ok (.goto 5, 3) := by decide +kernel
theorem dX5_wordRead_80 : decode cX5_wordRead 80 = .ok (.bipush 7, 2) := by decide +kernel
theorem dX5_wordRead_82 : decode cX5_wordRead 82 = .ok (.ireturn, 1) := by decide +kernel
def f_X5_wordRead (s : St) : Option (Int32 × St) := cl (f_X5_isWord 0 s) (fun x2 s1 => if x2 = 0 then (cl (f_X5_isWord 1 s1) (fun x5 s4 => if x5 = 0 then (cl (f_X5_isWord 2 s4) (fun x8 s7 => if x8 = 0 then (cl (f_X5_isWord 3 s7) (fun x11 s10 => if x11 = 0 then (cl (f_X5_isWord 4 s10) (fun x14 s13 => if x14 = 0 then (cl (f_X5_isWord 5 s13) (fun x17 s16 => if x17 = 0 then (cl (f_X5_isWord 6 s16) (fun x20 s19 => if x20 = 0 then (some (((nI 7), s19))) else (some (((nI 6), s19))))) else (some (((nI 5), s16))))) else (some (((nI 4), s13))))) else (some (((nI 3), s10))))) else (some (((nI 2), s7))))) else (some (((nI 1), s4))))) else (some (((nI 0), s1))))
set_option maxHeartbeats 4000000 in
set_option maxRecDepth 100000 in
theorem e_X5_wordRead {X : Cx} {Γ : Gm} {r0 : Rb} (hX : Amb X Γ cX5_wordRead RX5 1 (some .int) 5) {s : St} {t : Int32 × St} (h : f_X5_wordRead s = some t) (hk : (fun t : Int32 × St => Rt X Γ r0 (some (Value.int t.1), t.2)) t) : Zw X Γ 1 r0 s 0 [(0, .ref (gL Γ (33)))] [] := by
  unfold f_X5_wordRead at h
  refine z_aload_n hX dX5_wordRead_0 0 rfl 1 rfl ?_
  refine z_ldcS hX 0 rfl rfl dX5_wordRead_1 3 rfl ?_
  replace h := cl_elim h
  obtain ⟨x2, s1, hx2, h⟩ := h
  refine z_cV5i hX (b := 33) (As := [.ref (gK Γ 0)]) (c_X5_isWord hx2) lk_X5_82 rfl kdc_33 ds_X5_isWord rfl (by decide) (by decide) (by decide) dX5_wordRead_3 rfl 6 rfl ?_
  refine z_if_eq hX 11 dX5_wordRead_6 (by decide) 9 rfl (fun c3 => ?_) (fun c3 => ?_)
  · replace h := br_pos h c3
    refine z_aload_n hX dX5_wordRead_11 0 rfl 12 rfl ?_
    refine z_ldcS hX 1 rfl rfl dX5_wordRead_12 14 rfl ?_
    replace h := cl_elim h
    obtain ⟨x5, s4, hx5, h⟩ := h
    refine z_cV5i hX (b := 33) (As := [.ref (gK Γ 1)]) (c_X5_isWord hx5) lk_X5_82 rfl kdc_33 ds_X5_isWord rfl (by decide) (by decide) (by decide) dX5_wordRead_14 rfl 17 rfl ?_
    refine z_if_eq hX 22 dX5_wordRead_17 (by decide) 20 rfl (fun c6 => ?_) (fun c6 => ?_)
    · replace h := br_pos h c6
      refine z_aload_n hX dX5_wordRead_22 0 rfl 23 rfl ?_
      refine z_ldcS hX 2 rfl rfl dX5_wordRead_23 25 rfl ?_
      replace h := cl_elim h
      obtain ⟨x8, s7, hx8, h⟩ := h
      refine z_cV5i hX (b := 33) (As := [.ref (gK Γ 2)]) (c_X5_isWord hx8) lk_X5_82 rfl kdc_33 ds_X5_isWord rfl (by decide) (by decide) (by decide) dX5_wordRead_25 rfl 28 rfl ?_
      refine z_if_eq hX 33 dX5_wordRead_28 (by decide) 31 rfl (fun c9 => ?_) (fun c9 => ?_)
      · replace h := br_pos h c9
        refine z_aload_n hX dX5_wordRead_33 0 rfl 34 rfl ?_
        refine z_ldcS hX 3 rfl rfl dX5_wordRead_34 36 rfl ?_
        replace h := cl_elim h
        obtain ⟨x11, s10, hx11, h⟩ := h
        refine z_cV5i hX (b := 33) (As := [.ref (gK Γ 3)]) (c_X5_isWord hx11) lk_X5_82 rfl kdc_33 ds_X5_isWord rfl (by decide) (by decide) (by decide) dX5_wordRead_36 rfl 39 rfl ?_
        refine z_if_eq hX 44 dX5_wordRead_39 (by decide) 42 rfl (fun c12 => ?_) (fun c12 => ?_)
        · replace h := br_pos h c12
          refine z_aload_n hX dX5_wordRead_44 0 rfl 45 rfl ?_
          refine z_ldcS hX 4 rfl rfl dX5_wordRead_45 47 rfl ?_
          replace h := cl_elim h
          obtain ⟨x14, s13, hx14, h⟩ := h
          refine z_cV5i hX (b := 33) (As := [.ref (gK Γ 4)]) (c_X5_isWord hx14) lk_X5_82 rfl kdc_33 ds_X5_isWord rfl (by decide) (by decide) (by decide) dX5_wordRead_47 rfl 50 rfl ?_
          refine z_if_eq hX 55 dX5_wordRead_50 (by decide) 53 rfl (fun c15 => ?_) (fun c15 => ?_)
          · replace h := br_pos h c15
            refine z_aload_n hX dX5_wordRead_55 0 rfl 56 rfl ?_
            refine z_ldcS hX 5 rfl rfl dX5_wordRead_56 58 rfl ?_
            replace h := cl_elim h
            obtain ⟨x17, s16, hx17, h⟩ := h
            refine z_cV5i hX (b := 33) (As := [.ref (gK Γ 5)]) (c_X5_isWord hx17) lk_X5_82 rfl kdc_33 ds_X5_isWord rfl (by decide) (by decide) (by decide) dX5_wordRead_58 rfl 61 rfl ?_
            refine z_if_eq hX 66 dX5_wordRead_61 (by decide) 64 rfl (fun c18 => ?_) (fun c18 => ?_)
            · replace h := br_pos h c18
              refine z_aload_n hX dX5_wordRead_66 0 rfl 67 rfl ?_
              refine z_ldcS hX 6 rfl rfl dX5_wordRead_67 69 rfl ?_
              replace h := cl_elim h
              obtain ⟨x20, s19, hx20, h⟩ := h
              refine z_cV5i hX (b := 33) (As := [.ref (gK Γ 6)]) (c_X5_isWord hx20) lk_X5_82 rfl kdc_33 ds_X5_isWord rfl (by decide) (by decide) (by decide) dX5_wordRead_69 rfl 72 rfl ?_
              refine z_if_eq hX 80 dX5_wordRead_72 (by decide) 75 rfl (fun c21 => ?_) (fun c21 => ?_)
              · replace h := br_pos h c21
                refine z_bipush hX (v := (nI 7)) dX5_wordRead_80 (by decide) 82 rfl ?_
                replace h := Option.some.inj h
                subst h
                exact z_iret hX dX5_wordRead_82 rfl hk
              · replace h := br_neg h c21
                refine z_bipush hX (v := (nI 6)) dX5_wordRead_75 (by decide) 77 rfl ?_
                refine z_goto hX 82 dX5_wordRead_77 (by decide) ?_
                replace h := Option.some.inj h
                subst h
                exact z_iret hX dX5_wordRead_82 rfl hk
            · replace h := br_neg h c18
              refine z_iconst hX (v := (nI 5)) dX5_wordRead_64 rfl 65 rfl ?_
              replace h := Option.some.inj h
              subst h
              exact z_iret hX dX5_wordRead_65 rfl hk
          · replace h := br_neg h c15
            refine z_iconst hX (v := (nI 4)) dX5_wordRead_53 rfl 54 rfl ?_
            replace h := Option.some.inj h
            subst h
            exact z_iret hX dX5_wordRead_54 rfl hk
        · replace h := br_neg h c12
          refine z_iconst hX (v := (nI 3)) dX5_wordRead_42 rfl 43 rfl ?_
          replace h := Option.some.inj h
          subst h
          exact z_iret hX dX5_wordRead_43 rfl hk
      · replace h := br_neg h c9
        refine z_iconst hX (v := (nI 2)) dX5_wordRead_31 rfl 32 rfl ?_
        replace h := Option.some.inj h
        subst h
        exact z_iret hX dX5_wordRead_32 rfl hk
    · replace h := br_neg h c6
      refine z_iconst hX (v := (nI 1)) dX5_wordRead_20 rfl 21 rfl ?_
      replace h := Option.some.inj h
      subst h
      exact z_iret hX dX5_wordRead_21 rfl hk
  · replace h := br_neg h c3
    refine z_iconst hX (v := (nI 0)) dX5_wordRead_9 rfl 10 rfl ?_
    replace h := Option.some.inj h
    subst h
    exact z_iret hX dX5_wordRead_10 rfl hk
theorem c_X5_wordRead {lc : Launch} {Γ : Gm} {s s2 : St} {v : Int32} (h : f_X5_wordRead s = some (v, s2)) : Ct lc Γ yX5_wordRead cX5_wordRead 1 (some .int) 5 [.ref (gL Γ (33))] s (some (.int v), s2) := Ct.of (by decide +kernel) (Nat.le_of_ble_eq_true rfl) (fun X hl hX => e_X5_wordRead hX h rfl)
theorem dX5_readNumber_0 : decode cX5_readNumber 0 = .ok (.aload_n 0, 1) := by decide +kernel
theorem dX5_readNumber_1 : decode cX5_readNumber 1 = .ok (.invokevirtual 42, 3) := by decide +kernel
theorem dX5_readNumber_4 : decode cX5_readNumber 4 = .ok (.ifCond .ne 5, 3) := by decide +kernel
theorem dX5_readNumber_7 : decode cX5_readNumber 7 = .ok (.iconst 0, 1) := by decide +kernel
theorem dX5_readNumber_8 : decode cX5_readNumber 8 = .ok (.ireturn, 1) := by decide +kernel
theorem dX5_readNumber_9 : decode cX5_readNumber 9 = .ok (.aload_n 0, 1) := by decide +kernel
theorem dX5_readNumber_10 : decode cX5_readNumber 10 = .ok (.getfield 28, 3) := by decide +kernel
theorem dX5_readNumber_13 : decode cX5_readNumber 13 = .ok (.iconst 2, 1) := by decide +kernel
theorem dX5_readNumber_14 : decode cX5_readNumber 14 = .ok (.if_icmp .eq 9, 3) := by decide +kernel
theorem dX5_readNumber_17 : decode cX5_readNumber 17 = .ok (.aload_n 0, 1) := by decide +kernel
theorem dX5_readNumber_18 : decode cX5_readNumber 18 = .ok (.iconst 2, 1) := by decide +kernel
theorem dX5_readNumber_19 : decode cX5_readNumber 19 = .ok (.invokevirtual 54, 3) := by decide +kernel
theorem dX5_readNumber_22 : decode cX5_readNumber 22 = .ok (.ireturn, 1) := by decide +kernel
theorem dX5_readNumber_23 : decode cX5_readNumber 23 = .ok (.aload_n 0, 1) := by decide +kernel
theorem dX5_readNumber_24 : decode cX5_readNumber 24 = .ok (.iconst 0, 1) := by decide +kernel
theorem dX5_readNumber_25 : decode cX5_readNumber 25 = .ok (.putfield 31, 3) := by decide +kernel
theorem dX5_readNumber_28 : decode cX5_readNumber 28 = .ok (.aload_n 0, 1) := by decide +kernel
theorem dX5_readNumber_29 : decode cX5_readNumber 29 = .ok (.getfield 22, 3) := by decide +kernel
theorem dX5_readNumber_32 : decode cX5_readNumber 32 = .ok (.istore_n 3, 1) := by decide +kernel
theorem dX5_readNumber_33 : decode cX5_readNumber 33 = .ok (.iload_n 3, 1) := by decide +kernel
theorem dX5_readNumber_34 : decode cX5_readNumber 34 = .ok (.aload_n 0, 1) := by decide +kernel
theorem dX5_readNumber_35 : decode cX5_readNumber 35 = .ok (.getfield 25, 3) := by decide +kernel
theorem dX5_readNumber_38 : decode cX5_readNumber 38 = .ok (.if_icmp .ge 30, 3) := by decide +kernel
theorem dX5_readNumber_41 : decode cX5_readNumber 41 = .ok (.aload_n 0, 1) := by decide +kernel
theorem dX5_readNumber_42 : decode cX5_readNumber 42 = .ok (.aload_n 0, 1) := by decide +kernel
theorem dX5_readNumber_43 : decode cX5_readNumber 43 = .ok (.getfield 31, 3) := by decide +kernel
theorem dX5_readNumber_46 : decode cX5_readNumber 46 = .ok (.bipush 10, 2) := by decide +kernel
theorem dX5_readNumber_48 : decode cX5_readNumber 48 = .ok (.imul, 1) := by decide +kernel
theorem dX5_readNumber_49 : decode cX5_readNumber 49 = .ok (.aload_n 0, 1) := by decide +kernel
theorem dX5_readNumber_50 : decode cX5_readNumber 50 = .ok (.getfield 9, 3) := by decide +kernel
theorem dX5_readNumber_53 : decode cX5_readNumber 53 = .ok (.iload_n 3, 1) := by decide +kernel
theorem dX5_readNumber_54 : decode cX5_readNumber 54 = .ok (.baload, 1) := by decide +kernel
theorem dX5_readNumber_55 : decode cX5_readNumber 55 = .ok (.iadd, 1) := by decide +kernel
theorem dX5_readNumber_56 : decode cX5_readNumber 56 = .ok (.bipush 48, 2) := by decide +kernel
theorem dX5_readNumber_58 : decode cX5_readNumber 58 = .ok (.isub, 1) := by decide +kernel
theorem dX5_readNumber_59 : decode cX5_readNumber 59 = .ok (.putfield 31, 3) := by decide +kernel
theorem dX5_readNumber_62 : decode cX5_readNumber 62 = .ok (.iinc 3 1, 3) := by decide +kernel
theorem dX5_readNumber_65 : decode cX5_readNumber 65 = .ok (.goto (-32), 3) := by decide +kernel
theorem dX5_readNumber_68 : decode cX5_readNumber 68 = .ok (.aload_n 0, 1) := by decide +kernel
theorem dX5_readNumber_69 : decode cX5_readNumber 69 = .ok (.getfield 31, 3) := by decide +kernel
theorem dX5_readNumber_72 : decode cX5_readNumber 72 = .ok (.iload_n 1, 1) := by decide +kernel
theorem dX5_readNumber_73 : decode cX5_readNumber 73 = .ok (.iload_n 2, 1) := by decide +kernel
theorem dX5_readNumber_74 : decode cX5_readNumber 74 = .ok (.invokestatic 144, 3) := by decide +kernel
theorem dX5_readNumber_77 : decode cX5_readNumber 77 = .ok (.ifCond .ne 11, 3) := by decide +kernel
theorem dX5_readNumber_80 : decode cX5_readNumber 80 = .ok (.aload_n 0, 1) := by decide +kernel
theorem dX5_readNumber_81 : decode cX5_readNumber 81 = .ok (.iconst 3, 1) := by decide +kernel
theorem dX5_readNumber_82 : decode cX5_readNumber 82 = .ok (.invokevirtual 54, 3) := by decide +kernel
theorem dX5_readNumber_85 : decode cX5_readNumber 85 = .ok (.ifCond .eq 7, 3) := by decide +kernel
theorem dX5_readNumber_88 : decode cX5_readNumber 88 = .ok (.iconst 1, 1) := by decide +kernel
theorem dX5_readNumber_89 : decode cX5_readNumber 89 = .ok (.goto 4, 3) := by decide +kernel
theorem dX5_readNumber_92 : decode cX5_readNumber 92 = .ok (.iconst 0, 1) := by decide +kernel
theorem dX5_readNumber_93 : decode cX5_readNumber 93 = .ok (.ireturn, 1) := by decide +kernel
def f_X5_readNumber_L33 (v1 : Int32) (v2 : Int32) (v3 : Int32) (s : St) : Option ((Int32 × St) ⊕ (Int32 × St)) := if (s.1 33 4) ≤ v3 then (cl (f_X6_isWithin (s.1 33 6) v1 v2 s) (fun x12 s11 => if ¬ x12 = 0 then (some (Sum.inr (((nI 1), s11)))) else (cl (f_X5_refuse (nI 3) s11) (fun x15 s14 => if x15 = 0 then (some (Sum.inr (((nI 0), s14)))) else (some (Sum.inr (((nI 1), s14)))))))) else (if inb v3 (lnB 34) = true then bd (wI s 33 6 ((((s.1 33 6) * (nI 10)) + (s.1 34 (v3).toNatClampNeg)) - (nI 48))) (fun s18 => some (Sum.inl ((v3 + (nI 1)), s18))) else none)
def f_X5_readNumber (a1 : Int32) (a2 : Int32) (s : St) : Option (Int32 × St) := cl (f_X5_readToken s) (fun x2 s1 => if ¬ x2 = 0 then (if (s1.1 33 5) = (nI 2) then (bd (wI s1 33 6 (nI 0)) (fun s5 => bd (s5.1 33 3) (fun x6 => lp (fun q : Int32 × St => f_X5_readNumber_L33 a1 a2 q.1 q.2) Fu (x6, s5)))) else (cl (f_X5_refuse (nI 2) s1) (fun x8 s7 => if x8 = 0 ∨ x8 = 1 then some ((x8, s7)) else none))) else (some (((nI 0), s1))))
set_option maxHeartbeats 4000000 in
set_option maxRecDepth 100000 in
theorem e_X5_readNumber_L33 {X : Cx} {Γ : Gm} {r0 : Rb} (hX : Amb X Γ cX5_readNumber RX5 4 (some .boolean) 2) {v1 : Int32} {v2 : Int32} {v3 : Int32} {s : St} {t : (Int32 × St) ⊕ (Int32 × St)} (h : f_X5_readNumber_L33 v1 v2 v3 s = some t) (hk : (Sum.elim (fun q : Int32 × St => Zw X Γ 4 r0 q.2 33 [(0, .ref (gL Γ (33))), (1, .int v1), (2, .int v2), (3, .int q.1)] []) (fun t : Int32 × St => Rt X Γ r0 (some (Value.int t.1), t.2))) t) : Zw X Γ 4 r0 s 33 [(0, .ref (gL Γ (33))), (1, .int v1), (2, .int v2), (3, .int v3)] [] := by
  unfold f_X5_readNumber_L33 at h
  refine z_iload_n hX dX5_readNumber_33 3 rfl 34 rfl ?_
  refine z_aload_n hX dX5_readNumber_34 0 rfl 35 rfl ?_
  refine z_get5 hX (k := 33) (j := 4) (v := .int ((s.1 33 4))) kdc_33 (by decide) rfl dX5_readNumber_35 fl_X5_25 38 rfl ?_
  refine z_icmp_ge hX 68 dX5_readNumber_38 (by decide) 41 rfl (fun c10 => ?_) (fun c10 => ?_)
  · replace h := br_pos h c10
    refine z_aload_n hX dX5_readNumber_68 0 rfl 69 rfl ?_
    refine z_get5 hX (k := 33) (j := 6) (v := .int ((s.1 33 6))) kdc_33 (by decide) rfl dX5_readNumber_69 fl_X5_31 72 rfl ?_
    refine z_iload_n hX dX5_readNumber_72 1 rfl 73 rfl ?_
    refine z_iload_n hX dX5_readNumber_73 2 rfl 74 rfl ?_
    replace h := cl_elim h
    obtain ⟨x12, s11, hx12, h⟩ := h
    refine z_cNi hX (As := [.int ((s.1 33 6)), .int v1, .int v2]) (c_X6_isWithin hx12) lk_X5_144 ds_X6_isWithin rfl (by decide) (by decide) (by decide) dX5_readNumber_74 rfl 77 rfl ?_
    refine z_if_ne hX 88 dX5_readNumber_77 (by decide) 80 rfl (fun c13 => ?_) (fun c13 => ?_)
    · replace h := br_pos h c13
      refine z_iconst hX (v := (nI 1)) dX5_readNumber_88 rfl 89 rfl ?_
      refine z_goto hX 93 dX5_readNumber_89 (by decide) ?_
      replace h := Option.some.inj h
      subst h
      exact z_zret hX dX5_readNumber_93 rfl (by decide) hk
    · replace h := br_neg h c13
      refine z_aload_n hX dX5_readNumber_80 0 rfl 81 rfl ?_
      refine z_iconst hX (v := (nI 3)) dX5_readNumber_81 rfl 82 rfl ?_
      replace h := cl_elim h
      obtain ⟨x15, s14, hx15, h⟩ := h
      refine z_cV5i hX (b := 33) (As := [.int ((nI 3))]) (c_X5_refuse hx15) lk_X5_54 rfl kdc_33 ds_X5_refuse rfl (by decide) (by decide) (by decide) dX5_readNumber_82 rfl 85 rfl ?_
      refine z_if_eq hX 92 dX5_readNumber_85 (by decide) 88 rfl (fun c16 => ?_) (fun c16 => ?_)
      · replace h := br_pos h c16
        refine z_iconst hX (v := (nI 0)) dX5_readNumber_92 rfl 93 rfl ?_
        replace h := Option.some.inj h
        subst h
        exact z_zret hX dX5_readNumber_93 rfl (by decide) hk
      · replace h := br_neg h c16
        refine z_iconst hX (v := (nI 1)) dX5_readNumber_88 rfl 89 rfl ?_
        refine z_goto hX 93 dX5_readNumber_89 (by decide) ?_
        replace h := Option.some.inj h
        subst h
        exact z_zret hX dX5_readNumber_93 rfl (by decide) hk
  · replace h := br_neg h c10
    refine z_aload_n hX dX5_readNumber_41 0 rfl 42 rfl ?_
    refine z_aload_n hX dX5_readNumber_42 0 rfl 43 rfl ?_
    refine z_get5 hX (k := 33) (j := 6) (v := .int ((s.1 33 6))) kdc_33 (by decide) rfl dX5_readNumber_43 fl_X5_31 46 rfl ?_
    refine z_bipush hX (v := (nI 10)) dX5_readNumber_46 (by decide) 48 rfl ?_
    refine z_imul hX dX5_readNumber_48 49 rfl ?_
    refine z_aload_n hX dX5_readNumber_49 0 rfl 50 rfl ?_
    refine z_get5 hX (k := 33) (j := 0) (v := .ref (gL Γ (34))) kdc_33 (by decide) rfl dX5_readNumber_50 fl_X5_9 53 rfl ?_
    refine z_iload_n hX dX5_readNumber_53 3 rfl 54 rfl ?_
    replace h := gd_elim h
    obtain ⟨g17, h⟩ := h
    refine z_bald hX (inb_vp g17) dX5_readNumber_54 55 rfl ?_
    refine z_iadd hX dX5_readNumber_55 56 rfl ?_
    refine z_bipush hX (v := (nI 48)) dX5_readNumber_56 (by decide) 58 rfl ?_
    refine z_isub hX dX5_readNumber_58 59 rfl ?_
    replace h := bd_elim h
    obtain ⟨s18, es18, h⟩ := h
    refine z_putI5 hX (k := 33) (j := 6) kdc_33 (by decide) rfl (by decide +kernel) (pwI_5_6 ..) dX5_readNumber_59 fl_X5_31 es18 62 rfl ?_
    refine z_iinc hX (v := (v3 + (nI 1))) (lv2 := [(3, .int ((v3 + (nI 1)))), (0, .ref (gL Γ (33))), (1, .int v1), (2, .int v2)]) dX5_readNumber_62 3 rfl rfl (by decide) rfl 65 rfl ?_
    refine z_goto hX 33 dX5_readNumber_65 (by decide) ?_
    replace h := Option.some.inj h
    subst h
    exact z_sub [1, 2, 3, 0] rfl hk
set_option maxHeartbeats 4000000 in
set_option maxRecDepth 100000 in
theorem e_X5_readNumber {X : Cx} {Γ : Gm} {r0 : Rb} (hX : Amb X Γ cX5_readNumber RX5 4 (some .boolean) 2) {a1 : Int32} {a2 : Int32} {s : St} {t : Int32 × St} (h : f_X5_readNumber a1 a2 s = some t) (hk : (fun t : Int32 × St => Rt X Γ r0 (some (Value.int t.1), t.2)) t) : Zw X Γ 4 r0 s 0 [(0, .ref (gL Γ (33))), (1, .int a1), (2, .int a2)] [] := by
  unfold f_X5_readNumber at h
  refine z_aload_n hX dX5_readNumber_0 0 rfl 1 rfl ?_
  replace h := cl_elim h
  obtain ⟨x2, s1, hx2, h⟩ := h
  refine z_cV5i hX (b := 33) (As := []) (c_X5_readToken hx2) lk_X5_42 rfl kdc_33 ds_X5_readToken rfl (by decide) (by decide) (by decide) dX5_readNumber_1 rfl 4 rfl ?_
  refine z_if_ne hX 9 dX5_readNumber_4 (by decide) 7 rfl (fun c3 => ?_) (fun c3 => ?_)
  · replace h := br_pos h c3
    refine z_aload_n hX dX5_readNumber_9 0 rfl 10 rfl ?_
    refine z_get5 hX (k := 33) (j := 5) (v := .int ((s1.1 33 5))) kdc_33 (by decide) rfl dX5_readNumber_10 fl_X5_28 13 rfl ?_
    refine z_iconst hX (v := (nI 2)) dX5_readNumber_13 rfl 14 rfl ?_
    refine z_icmp_eq hX 23 dX5_readNumber_14 (by decide) 17 rfl (fun c4 => ?_) (fun c4 => ?_)
    · replace h := br_pos h c4
      refine z_aload_n hX dX5_readNumber_23 0 rfl 24 rfl ?_
      refine z_iconst hX (v := (nI 0)) dX5_readNumber_24 rfl 25 rfl ?_
      replace h := bd_elim h
      obtain ⟨s5, es5, h⟩ := h
      refine z_putI5 hX (k := 33) (j := 6) kdc_33 (by decide) rfl (by decide +kernel) (pwI_5_6 ..) dX5_readNumber_25 fl_X5_31 es5 28 rfl ?_
      refine z_aload_n hX dX5_readNumber_28 0 rfl 29 rfl ?_
      refine z_get5 hX (k := 33) (j := 3) (v := .int ((s5.1 33 3))) kdc_33 (by decide) rfl dX5_readNumber_29 fl_X5_22 32 rfl ?_
      replace h := bd_elim h
      obtain ⟨x6, ex6, h⟩ := h
      refine z_nm ex6 ?_
      refine z_istore_n hX (lv2 := [(3, .int x6), (0, .ref (gL Γ (33))), (1, .int a1), (2, .int a2)]) dX5_readNumber_32 (by decide) rfl 33 rfl ?_
      exact z_sub [1, 2, 3, 0] rfl (lp_ok (Z := fun q : Int32 × St => Zw X Γ 4 r0 q.2 33 [(0, .ref (gL Γ (33))), (1, .int a1), (2, .int a2), (3, .int q.1)] []) (fun q t h hk => e_X5_readNumber_L33 hX h hk) Fu _ _ h hk)
    · replace h := br_neg h c4
      refine z_aload_n hX dX5_readNumber_17 0 rfl 18 rfl ?_
      refine z_iconst hX (v := (nI 2)) dX5_readNumber_18 rfl 19 rfl ?_
      replace h := cl_elim h
      obtain ⟨x8, s7, hx8, h⟩ := h
      refine z_cV5i hX (b := 33) (As := [.int ((nI 2))]) (c_X5_refuse hx8) lk_X5_54 rfl kdc_33 ds_X5_refuse rfl (by decide) (by decide) (by decide) dX5_readNumber_19 rfl 22 rfl ?_
      replace h := gd_elim h
      obtain ⟨g9, h⟩ := h
      replace h := Option.some.inj h
      subst h
      exact z_zret hX dX5_readNumber_22 rfl g9 hk
  · replace h := br_neg h c3
    refine z_iconst hX (v := (nI 0)) dX5_readNumber_7 rfl 8 rfl ?_
    replace h := Option.some.inj h
    subst h
    exact z_zret hX dX5_readNumber_8 rfl (by decide) hk
theorem c_X5_readNumber {lc : Launch} {Γ : Gm} {a1 : Int32} {a2 : Int32} {s s2 : St} {v : Int32} (h : f_X5_readNumber a1 a2 s = some (v, s2)) : Ct lc Γ yX5_readNumber cX5_readNumber 4 (some .boolean) 2 [.ref (gL Γ (33)), .int a1, .int a2] s (some (.int v), s2) := Ct.of (by decide +kernel) (Nat.le_of_ble_eq_true rfl) (fun X hl hX => e_X5_readNumber hX h rfl)
theorem dX5_namesCell_0 : decode cX5_namesCell 0 = .ok (.aload_n 0, 1) := by decide +kernel
theorem dX5_namesCell_1 : decode cX5_namesCell 1 = .ok (.getfield 31, 3) := by decide +kernel
theorem dX5_namesCell_4 : decode cX5_namesCell 4 = .ok (.invokestatic 141, 3) := by decide +kernel
theorem dX5_namesCell_7 : decode cX5_namesCell 7 = .ok (.ifCond .ne 11, 3) := by decide +kernel
theorem dX5_namesCell_10 : decode cX5_namesCell 10 = .ok (.aload_n 0, 1) := by decide +kernel
theorem dX5_namesCell_11 : decode cX5_namesCell 11 = .ok (.iconst 3, 1) := by decide +kernel
theorem dX5_namesCell_12 : decode cX5_namesCell 12 = .ok (.invokevirtual 54, 3) := by decide +kernel
theorem dX5_namesCell_15 : decode cX5_namesCell 15 = .ok (.ifCond .eq 7, 3) := by decide +kernel
theorem dX5_namesCell_18 : decode cX5_namesCell 18 = .ok (.iconst 1, 1) := by decide +kernel
theorem dX5_namesCell_19 : decode cX5_namesCell 19 = .ok (.goto 4, 3) := by decide +kernel
theorem dX5_namesCell_22 : decode cX5_namesCell 22 = .ok (.iconst 0, 1) := by decide +kernel
theorem dX5_namesCell_23 : decode cX5_namesCell 23 = .ok (.ireturn, 1) := by decide +kernel
def f_X5_namesCell (s : St) : Option (Int32 × St) := cl (f_X6_isCell (s.1 33 6) s) (fun x2 s1 => if ¬ x2 = 0 then (some (((nI 1), s1))) else (cl (f_X5_refuse (nI 3) s1) (fun x5 s4 => if x5 = 0 then (some (((nI 0), s4))) else (some (((nI 1), s4))))))
set_option maxHeartbeats 4000000 in
set_option maxRecDepth 100000 in
theorem e_X5_namesCell {X : Cx} {Γ : Gm} {r0 : Rb} (hX : Amb X Γ cX5_namesCell RX5 1 (some .boolean) 2) {s : St} {t : Int32 × St} (h : f_X5_namesCell s = some t) (hk : (fun t : Int32 × St => Rt X Γ r0 (some (Value.int t.1), t.2)) t) : Zw X Γ 1 r0 s 0 [(0, .ref (gL Γ (33)))] [] := by
  unfold f_X5_namesCell at h
  refine z_aload_n hX dX5_namesCell_0 0 rfl 1 rfl ?_
  refine z_get5 hX (k := 33) (j := 6) (v := .int ((s.1 33 6))) kdc_33 (by decide) rfl dX5_namesCell_1 fl_X5_31 4 rfl ?_
  replace h := cl_elim h
  obtain ⟨x2, s1, hx2, h⟩ := h
  refine z_cNi hX (As := [.int ((s.1 33 6))]) (c_X6_isCell hx2) lk_X5_141 ds_X6_isCell rfl (by decide) (by decide) (by decide) dX5_namesCell_4 rfl 7 rfl ?_
  refine z_if_ne hX 18 dX5_namesCell_7 (by decide) 10 rfl (fun c3 => ?_) (fun c3 => ?_)
  · replace h := br_pos h c3
    refine z_iconst hX (v := (nI 1)) dX5_namesCell_18 rfl 19 rfl ?_
    refine z_goto hX 23 dX5_namesCell_19 (by decide) ?_
    replace h := Option.some.inj h
    subst h
    exact z_zret hX dX5_namesCell_23 rfl (by decide) hk
  · replace h := br_neg h c3
    refine z_aload_n hX dX5_namesCell_10 0 rfl 11 rfl ?_
    refine z_iconst hX (v := (nI 3)) dX5_namesCell_11 rfl 12 rfl ?_
    replace h := cl_elim h
    obtain ⟨x5, s4, hx5, h⟩ := h
    refine z_cV5i hX (b := 33) (As := [.int ((nI 3))]) (c_X5_refuse hx5) lk_X5_54 rfl kdc_33 ds_X5_refuse rfl (by decide) (by decide) (by decide) dX5_namesCell_12 rfl 15 rfl ?_
    refine z_if_eq hX 22 dX5_namesCell_15 (by decide) 18 rfl (fun c6 => ?_) (fun c6 => ?_)
    · replace h := br_pos h c6
      refine z_iconst hX (v := (nI 0)) dX5_namesCell_22 rfl 23 rfl ?_
      replace h := Option.some.inj h
      subst h
      exact z_zret hX dX5_namesCell_23 rfl (by decide) hk
    · replace h := br_neg h c6
      refine z_iconst hX (v := (nI 1)) dX5_namesCell_18 rfl 19 rfl ?_
      refine z_goto hX 23 dX5_namesCell_19 (by decide) ?_
      replace h := Option.some.inj h
      subst h
      exact z_zret hX dX5_namesCell_23 rfl (by decide) hk
theorem c_X5_namesCell {lc : Launch} {Γ : Gm} {s s2 : St} {v : Int32} (h : f_X5_namesCell s = some (v, s2)) : Ct lc Γ yX5_namesCell cX5_namesCell 1 (some .boolean) 2 [.ref (gL Γ (33))] s (some (.int v), s2) := Ct.of (by decide +kernel) (Nat.le_of_ble_eq_true rfl) (fun X hl hX => e_X5_namesCell hX h rfl)
theorem dX5_readSitter_0 : decode cX5_readSitter 0 = .ok (.aload_n 1, 1) := by decide +kernel
theorem dX5_readSitter_1 : decode cX5_readSitter 1 = .ok (.getfield 132, 3) := by decide +kernel
theorem dX5_readSitter_4 : decode cX5_readSitter 4 = .ok (.istore_n 2, 1) := by decide +kernel
theorem dX5_readSitter_5 : decode cX5_readSitter 5 = .ok (.iload_n 2, 1) := by decide +kernel
theorem dX5_readSitter_6 : decode cX5_readSitter 6 = .ok (.iconst 4, 1) := by decide +kernel
theorem dX5_readSitter_7 : decode cX5_readSitter 7 = .ok (.if_icmp .lt 9, 3) := by decide +kernel
theorem dX5_readSitter_10 : decode cX5_readSitter 10 = .ok (.aload_n 0, 1) := by decide +kernel
theorem dX5_readSitter_11 : decode cX5_readSitter 11 = .ok (.iconst 5, 1) := by decide +kernel
theorem dX5_readSitter_12 : decode cX5_readSitter 12 = .ok (.invokevirtual 54, 3) := by decide +kernel
theorem dX5_readSitter_15 : decode cX5_readSitter 15 = .ok (.ireturn, 1) := by decide +kernel
theorem dX5_readSitter_16 : decode cX5_readSitter 16 = .ok (.aload_n 0, 1) := by decide +kernel
theorem dX5_readSitter_17 : decode cX5_readSitter 17 = .ok (.iconst 0, 1) := by decide +kernel
theorem dX5_readSitter_18 : decode cX5_readSitter 18 = .ok (.bipush 99, 2) := by decide +kernel
theorem dX5_readSitter_20 : decode cX5_readSitter 20 = .ok (.invokevirtual 112, 3) := by decide +kernel
theorem dX5_readSitter_23 : decode cX5_readSitter 23 = .ok (.ifCond .eq 10, 3) := by decide +kernel
theorem dX5_readSitter_26 : decode cX5_readSitter 26 = .ok (.aload_n 0, 1) := by decide +kernel
theorem dX5_readSitter_27 : decode cX5_readSitter 27 = .ok (.invokevirtual 116, 3) := by decide +kernel
theorem dX5_readSitter_30 : decode cX5_readSitter 30 = .ok (.ifCond .ne 5, 3) := by decide +kernel
theorem dX5_readSitter_33 : decode cX5_readSitter 33 = .ok (.iconst 0, 1) := by decide +kernel
theorem dX5_readSitter_34 : decode cX5_readSitter 34 = .ok (.ireturn, 1) := by decide +kernel
theorem dX5_readSitter_35 : decode cX5_readSitter 35 = .ok (.aload_n 1, 1) := by decide +kernel
theorem dX5_readSitter_36 : decode cX5_readSitter 36 = .ok (.getfield 135, 3) := by decide +kernel
theorem dX5_readSitter_39 : decode cX5_readSitter 39 = .ok (.iload_n 2, 1) := by decide +kernel
theorem dX5_readSitter_40 : decode cX5_readSitter 40 = .ok (.aload_n 0, 1) := by decide +kernel
theorem dX5_readSitter_41 : decode cX5_readSitter 41 = .ok (.getfield 31, 3) := by decide +kernel
theorem dX5_readSitter_44 : decode cX5_readSitter 44 = .ok (.invokestatic 122, 3) := by decide +kernel
theorem dX5_readSitter_47 : decode cX5_readSitter 47 = .ok (.iastore, 1) := by decide +kernel
theorem dX5_readSitter_48 : decode cX5_readSitter 48 = .ok (.aload_n 0, 1) := by decide +kernel
theorem dX5_readSitter_49 : decode cX5_readSitter 49 = .ok (.iconst 0, 1) := by decide +kernel
theorem dX5_readSitter_50 : decode cX5_readSitter 50 = .ok (.bipush 9, 2) := by decide +kernel
theorem dX5_readSitter_52 : decode cX5_readSitter 52 = .ok (.invokevirtual 112, 3) := by decide +kernel
theorem dX5_readSitter_55 : decode cX5_readSitter 55 = .ok (.ifCond .ne 5, 3) := by decide +kernel
theorem dX5_readSitter_58 : decode cX5_readSitter 58 = .ok (.iconst 0, 1) := by decide +kernel
theorem dX5_readSitter_59 : decode cX5_readSitter 59 = .ok (.ireturn, 1) := by decide +kernel
theorem dX5_readSitter_60 : decode cX5_readSitter 60 = .ok (.aload_n 1, 1) := by decide +kernel
theorem dX5_readSitter_61 : decode cX5_readSitter 61 = .ok (.getfield 138, 3) := by decide +kernel
theorem dX5_readSitter_64 : decode cX5_readSitter 64 = .ok (.iload_n 2, 1) := by decide +kernel
theorem dX5_readSitter_65 : decode cX5_readSitter 65 = .ok (.aload_n 0, 1) := by decide +kernel
theorem dX5_readSitter_66 : decode cX5_readSitter 66 = .ok (.getfield 31, 3) := by decide +kernel
theorem dX5_readSitter_69 : decode cX5_readSitter 69 = .ok (.iastore, 1) := by decide +kernel
theorem dX5_readSitter_70 : decode cX5_readSitter 70 = .ok (.aload_n 1, 1) := by decide +kernel
theorem dX5_readSitter_71 : decode cX5_readSitter 71 = .ok (.dup, 1) := by decide +kernel
theorem dX5_readSitter_72 : decode cX5_readSitter 72 = .ok (.getfield 132, 3) := by decide +kernel
theorem dX5_readSitter_75 : decode cX5_readSitter 75 = .ok (.iconst 1, 1) := by decide +kernel
theorem dX5_readSitter_76 : decode cX5_readSitter 76 = .ok (.iadd, 1) := by decide +kernel
theorem dX5_readSitter_77 : decode cX5_readSitter 77 = .ok (.putfield 132, 3) := by decide +kernel
theorem dX5_readSitter_80 : decode cX5_readSitter 80 = .ok (.iconst 1, 1) := by decide +kernel
theorem dX5_readSitter_81 : decode cX5_readSitter 81 = .ok (.ireturn, 1) := by decide +kernel
def f_X5_readSitter (a1 : Nat) (s : St) : Option (Int32 × St) := if kd (a1) = 2 then bd (s.1 a1 1) (fun x2 => if x2 < (nI 4) then (cl (f_X5_readNumber (nI 0) (nI 99) s) (fun x5 s4 => if x5 = 0 then (some (((nI 0), s4))) else (cl (f_X5_namesCell s4) (fun x8 s7 => if ¬ x8 = 0 then (cl (f_X6_cellOf (s7.1 33 6) s7) (fun x11 s10 => if inb x2 (lnI (a1 + 8)) = true then bd (wI s10 (a1 + 8) (x2).toNatClampNeg x11) (fun s13 => cl (f_X5_readNumber (nI 0) (nI 9) s13) (fun x15 s14 => if ¬ x15 = 0 then (if inb x2 (lnI (a1 + 9)) = true then bd (wI s14 (a1 + 9) (x2).toNatClampNeg (s14.1 33 6)) (fun s18 => bd (wI s18 a1 1 ((s18.1 a1 1) + (nI 1))) (fun s19 => some (((nI 1), s19)))) else none) else (some (((nI 0), s14))))) else none)) else (some (((nI 0), s7))))))) else (cl (f_X5_refuse (nI 5) s) (fun x21 s20 => if x21 = 0 ∨ x21 = 1 then some ((x21, s20)) else none))) else none
set_option maxHeartbeats 4000000 in
set_option maxRecDepth 100000 in
theorem e_X5_readSitter {X : Cx} {Γ : Gm} {r0 : Rb} (hX : Amb X Γ cX5_readSitter RX5 3 (some .boolean) 3) {a1 : Nat} {s : St} {t : Int32 × St} (h : f_X5_readSitter a1 s = some t) (hk : (fun t : Int32 × St => Rt X Γ r0 (some (Value.int t.1), t.2)) t) : Zw X Γ 3 r0 s 0 [(0, .ref (gL Γ (33))), (1, .ref (gL Γ (a1)))] [] := by
  unfold f_X5_readSitter at h
  refine z_aload_n hX dX5_readSitter_0 1 rfl 1 rfl ?_
  replace h := gd_elim h
  obtain ⟨g1, h⟩ := h
  refine z_get2 hX (k := a1) (j := 1) (v := .int ((s.1 a1 1))) g1 (by decide) rfl dX5_readSitter_1 fl_X5_132 4 rfl ?_
  replace h := bd_elim h
  obtain ⟨x2, ex2, h⟩ := h
  refine z_nm ex2 ?_
  refine z_istore_n hX (lv2 := [(2, .int x2), (0, .ref (gL Γ (33))), (1, .ref (gL Γ (a1)))]) dX5_readSitter_4 (by decide) rfl 5 rfl ?_
  refine z_iload_n hX dX5_readSitter_5 0 rfl 6 rfl ?_
  refine z_iconst hX (v := (nI 4)) dX5_readSitter_6 rfl 7 rfl ?_
  refine z_icmp_lt hX 16 dX5_readSitter_7 (by decide) 10 rfl (fun c3 => ?_) (fun c3 => ?_)
  · replace h := br_pos h c3
    refine z_aload_n hX dX5_readSitter_16 1 rfl 17 rfl ?_
    refine z_iconst hX (v := (nI 0)) dX5_readSitter_17 rfl 18 rfl ?_
    refine z_bipush hX (v := (nI 99)) dX5_readSitter_18 (by decide) 20 rfl ?_
    replace h := cl_elim h
    obtain ⟨x5, s4, hx5, h⟩ := h
    refine z_cV5i hX (b := 33) (As := [.int ((nI 0)), .int ((nI 99))]) (c_X5_readNumber hx5) lk_X5_112 rfl kdc_33 ds_X5_readNumber rfl (by decide) (by decide) (by decide) dX5_readSitter_20 rfl 23 rfl ?_
    refine z_if_eq hX 33 dX5_readSitter_23 (by decide) 26 rfl (fun c6 => ?_) (fun c6 => ?_)
    · replace h := br_pos h c6
      refine z_iconst hX (v := (nI 0)) dX5_readSitter_33 rfl 34 rfl ?_
      replace h := Option.some.inj h
      subst h
      exact z_zret hX dX5_readSitter_34 rfl (by decide) hk
    · replace h := br_neg h c6
      refine z_aload_n hX dX5_readSitter_26 1 rfl 27 rfl ?_
      replace h := cl_elim h
      obtain ⟨x8, s7, hx8, h⟩ := h
      refine z_cV5i hX (b := 33) (As := []) (c_X5_namesCell hx8) lk_X5_116 rfl kdc_33 ds_X5_namesCell rfl (by decide) (by decide) (by decide) dX5_readSitter_27 rfl 30 rfl ?_
      refine z_if_ne hX 35 dX5_readSitter_30 (by decide) 33 rfl (fun c9 => ?_) (fun c9 => ?_)
      · replace h := br_pos h c9
        refine z_aload_n hX dX5_readSitter_35 2 rfl 36 rfl ?_
        refine z_get2 hX (k := a1) (j := 10) (v := .ref (gL Γ (a1 + 8))) g1 (by decide) rfl dX5_readSitter_36 fl_X5_135 39 rfl ?_
        refine z_iload_n hX dX5_readSitter_39 0 rfl 40 rfl ?_
        refine z_aload_n hX dX5_readSitter_40 1 rfl 41 rfl ?_
        refine z_get5 hX (k := 33) (j := 6) (v := .int ((s7.1 33 6))) kdc_33 (by decide) rfl dX5_readSitter_41 fl_X5_31 44 rfl ?_
        replace h := cl_elim h
        obtain ⟨x11, s10, hx11, h⟩ := h
        refine z_cNi hX (As := [.int ((s7.1 33 6))]) (c_X6_cellOf hx11) lk_X5_122 ds_X6_cellOf rfl (by decide) (by decide) (Nat.le_of_ble_eq_true rfl) dX5_readSitter_44 rfl 47 rfl ?_
        replace h := gd_elim h
        obtain ⟨g12, h⟩ := h
        replace h := bd_elim h
        obtain ⟨s13, es13, h⟩ := h
        refine z_iast hX (inb_vp g12) dX5_readSitter_47 es13 48 rfl ?_
        refine z_aload_n hX dX5_readSitter_48 1 rfl 49 rfl ?_
        refine z_iconst hX (v := (nI 0)) dX5_readSitter_49 rfl 50 rfl ?_
        refine z_bipush hX (v := (nI 9)) dX5_readSitter_50 (by decide) 52 rfl ?_
        replace h := cl_elim h
        obtain ⟨x15, s14, hx15, h⟩ := h
        refine z_cV5i hX (b := 33) (As := [.int ((nI 0)), .int ((nI 9))]) (c_X5_readNumber hx15) lk_X5_112 rfl kdc_33 ds_X5_readNumber rfl (by decide) (by decide) (by decide) dX5_readSitter_52 rfl 55 rfl ?_
        refine z_if_ne hX 60 dX5_readSitter_55 (by decide) 58 rfl (fun c16 => ?_) (fun c16 => ?_)
        · replace h := br_pos h c16
          refine z_aload_n hX dX5_readSitter_60 2 rfl 61 rfl ?_
          refine z_get2 hX (k := a1) (j := 11) (v := .ref (gL Γ (a1 + 9))) g1 (by decide) rfl dX5_readSitter_61 fl_X5_138 64 rfl ?_
          refine z_iload_n hX dX5_readSitter_64 0 rfl 65 rfl ?_
          refine z_aload_n hX dX5_readSitter_65 1 rfl 66 rfl ?_
          refine z_get5 hX (k := 33) (j := 6) (v := .int ((s14.1 33 6))) kdc_33 (by decide) rfl dX5_readSitter_66 fl_X5_31 69 rfl ?_
          replace h := gd_elim h
          obtain ⟨g17, h⟩ := h
          replace h := bd_elim h
          obtain ⟨s18, es18, h⟩ := h
          refine z_iast hX (inb_vp g17) dX5_readSitter_69 es18 70 rfl ?_
          refine z_aload_n hX dX5_readSitter_70 2 rfl 71 rfl ?_
          refine z_dup hX dX5_readSitter_71 rfl 72 rfl ?_
          refine z_get2 hX (k := a1) (j := 1) (v := .int ((s18.1 a1 1))) g1 (by decide) rfl dX5_readSitter_72 fl_X5_132 75 rfl ?_
          refine z_iconst hX (v := (nI 1)) dX5_readSitter_75 rfl 76 rfl ?_
          refine z_iadd hX dX5_readSitter_76 77 rfl ?_
          replace h := bd_elim h
          obtain ⟨s19, es19, h⟩ := h
          refine z_putI2 hX (k := a1) (j := 1) g1 (by decide) rfl (by decide +kernel) (pwI_2_1 ..) dX5_readSitter_77 fl_X5_132 es19 80 rfl ?_
          refine z_iconst hX (v := (nI 1)) dX5_readSitter_80 rfl 81 rfl ?_
          replace h := Option.some.inj h
          subst h
          exact z_zret hX dX5_readSitter_81 rfl (by decide) hk
        · replace h := br_neg h c16
          refine z_iconst hX (v := (nI 0)) dX5_readSitter_58 rfl 59 rfl ?_
          replace h := Option.some.inj h
          subst h
          exact z_zret hX dX5_readSitter_59 rfl (by decide) hk
      · replace h := br_neg h c9
        refine z_iconst hX (v := (nI 0)) dX5_readSitter_33 rfl 34 rfl ?_
        replace h := Option.some.inj h
        subst h
        exact z_zret hX dX5_readSitter_34 rfl (by decide) hk
  · replace h := br_neg h c3
    refine z_aload_n hX dX5_readSitter_10 1 rfl 11 rfl ?_
    refine z_iconst hX (v := (nI 5)) dX5_readSitter_11 rfl 12 rfl ?_
    replace h := cl_elim h
    obtain ⟨x21, s20, hx21, h⟩ := h
    refine z_cV5i hX (b := 33) (As := [.int ((nI 5))]) (c_X5_refuse hx21) lk_X5_54 rfl kdc_33 ds_X5_refuse rfl (by decide) (by decide) (by decide) dX5_readSitter_12 rfl 15 rfl ?_
    replace h := gd_elim h
    obtain ⟨g22, h⟩ := h
    replace h := Option.some.inj h
    subst h
    exact z_zret hX dX5_readSitter_15 rfl g22 hk
theorem c_X5_readSitter {lc : Launch} {Γ : Gm} {a1 : Nat} {s s2 : St} {v : Int32} (h : f_X5_readSitter a1 s = some (v, s2)) : Ct lc Γ yX5_readSitter cX5_readSitter 3 (some .boolean) 3 [.ref (gL Γ (33)), .ref (gL Γ (a1))] s (some (.int v), s2) := Ct.of (by decide +kernel) (Nat.le_of_ble_eq_true rfl) (fun X hl hX => e_X5_readSitter hX h rfl)
theorem dX5_readOnce_0 : decode cX5_readOnce 0 = .ok (.aload_n 0, 1) := by decide +kernel
theorem dX5_readOnce_1 : decode cX5_readOnce 1 = .ok (.iconst 0, 1) := by decide +kernel
theorem dX5_readOnce_2 : decode cX5_readOnce 2 = .ok (.aload_n 1, 1) := by decide +kernel
theorem dX5_readOnce_3 : decode cX5_readOnce 3 = .ok (.arraylength, 1) := by decide +kernel
theorem dX5_readOnce_4 : decode cX5_readOnce 4 = .ok (.iconst 1, 1) := by decide +kernel
theorem dX5_readOnce_5 : decode cX5_readOnce 5 = .ok (.isub, 1) := by decide +kernel
theorem dX5_readOnce_6 : decode cX5_readOnce 6 = .ok (.invokevirtual 112, 3) := by decide +kernel
theorem dX5_readOnce_9 : decode cX5_readOnce 9 = .ok (.ifCond .ne 5, 3) := by decide +kernel
theorem dX5_readOnce_12 : decode cX5_readOnce 12 = .ok (.iconst 0, 1) := by decide +kernel
theorem dX5_readOnce_13 : decode cX5_readOnce 13 = .ok (.ireturn, 1) := by decide +kernel
theorem dX5_readOnce_14 : decode cX5_readOnce 14 = .ok (.aload_n 0, 1) := by decide +kernel
theorem dX5_readOnce_15 : decode cX5_readOnce 15 = .ok (.getfield 31, 3) := by decide +kernel
theorem dX5_readOnce_18 : decode cX5_readOnce 18 = .ok (.istore 4, 2) := by decide +kernel
theorem dX5_readOnce_20 : decode cX5_readOnce 20 = .ok (.iconst 1, 1) := by decide +kernel
theorem dX5_readOnce_21 : decode cX5_readOnce 21 = .ok (.iload_n 2, 1) := by decide +kernel
theorem dX5_readOnce_22 : decode cX5_readOnce 22 = .ok (.iload 4, 2) := by decide +kernel
theorem dX5_readOnce_24 : decode cX5_readOnce 24 = .ok (.iadd, 1) := by decide +kernel
theorem dX5_readOnce_25 : decode cX5_readOnce 25 = .ok (.ishl, 1) := by decide +kernel
theorem dX5_readOnce_26 : decode cX5_readOnce 26 = .ok (.istore 5, 2) := by decide +kernel
theorem dX5_readOnce_28 : decode cX5_readOnce 28 = .ok (.aload_n 0, 1) := by decide +kernel
theorem dX5_readOnce_29 : decode cX5_readOnce 29 = .ok (.getfield 34, 3) := by decide +kernel
theorem dX5_readOnce_32 : decode cX5_readOnce 32 = .ok (.iload 5, 2) := by decide +kernel
theorem dX5_readOnce_34 : decode cX5_readOnce 34 = .ok (.iand, 1) := by decide +kernel
theorem dX5_readOnce_35 : decode cX5_readOnce 35 = .ok (.ifCond .eq 9, 3) := by decide +kernel
theorem dX5_readOnce_38 : decode cX5_readOnce 38 = .ok (.aload_n 0, 1) := by decide +kernel
theorem dX5_readOnce_39 : decode cX5_readOnce 39 = .ok (.iconst 4, 1) := by decide +kernel
theorem dX5_readOnce_40 : decode cX5_readOnce 40 = .ok (.invokevirtual 54, 3) := by decide +kernel
theorem dX5_readOnce_43 : decode cX5_readOnce 43 = .ok (.ireturn, 1) := by decide +kernel
theorem dX5_readOnce_44 : decode cX5_readOnce 44 = .ok (.aload_n 0, 1) := by decide +kernel
theorem dX5_readOnce_45 : decode cX5_readOnce 45 = .ok (.dup, 1) := by decide +kernel
theorem dX5_readOnce_46 : decode cX5_readOnce 46 = .ok (.getfield 34, 3) := by decide +kernel
theorem dX5_readOnce_49 : decode cX5_readOnce 49 = .ok (.iload 5, 2) := by decide +kernel
theorem dX5_readOnce_51 : decode cX5_readOnce 51 = .ok (.ior, 1) := by decide +kernel
theorem dX5_readOnce_52 : decode cX5_readOnce 52 = .ok (.putfield 34, 3) := by decide +kernel
theorem dX5_readOnce_55 : decode cX5_readOnce 55 = .ok (.aload_n 0, 1) := by decide +kernel
theorem dX5_readOnce_56 : decode cX5_readOnce 56 = .ok (.iconst 0, 1) := by decide +kernel
theorem dX5_readOnce_57 : decode cX5_readOnce 57 = .ok (.iload_n 3, 1) := by decide +kernel
theorem dX5_readOnce_58 : decode cX5_readOnce 58 = .ok (.invokevirtual 112, 3) := by decide +kernel
theorem dX5_readOnce_61 : decode cX5_readOnce 61 = .ok (.ifCond .ne 5, 3) := by decide +kernel
theorem dX5_readOnce_64 : decode cX5_readOnce 64 = .ok (.iconst 0, 1) := by decide +kernel
theorem dX5_readOnce_65 : decode cX5_readOnce 65 = .ok (.ireturn, 1) := by decide +kernel
theorem dX5_readOnce_66 : decode cX5_readOnce 66 = .ok (.aload_n 1, 1) := by decide +kernel
theorem dX5_readOnce_67 : decode cX5_readOnce 67 = .ok (.iload 4, 2) := by decide +kernel
theorem dX5_readOnce_69 : decode cX5_readOnce 69 = .ok (.aload_n 0, 1) := by decide +kernel
theorem dX5_readOnce_70 : decode cX5_readOnce 70 = .ok (.getfield 31, 3) := by decide +kernel
theorem dX5_readOnce_73 : decode cX5_readOnce 73 = .ok (.iastore, 1) := by decide +kernel
theorem dX5_readOnce_74 : decode cX5_readOnce 74 = .ok (.iconst 1, 1) := by decide +kernel
theorem dX5_readOnce_75 : decode cX5_readOnce 75 = .ok (.ireturn, 1) := by decide +kernel
def f_X5_readOnce (a1 : Nat) (a2 : Int32) (a3 : Int32) (s : St) : Option (Int32 × St) := if kd (a1) = 9 then cl (f_X5_readNumber (nI 0) ((nI (ln a1)) - (nI 1)) s) (fun x3 s2 => if ¬ x3 = 0 then (bd (s2.1 33 6) (fun x5 => bd ((nI 1) <<< ((a2 + x5) &&& 31)) (fun x6 => if ((s2.1 33 7) &&& x6) = 0 then (bd (wI s2 33 7 ((s2.1 33 7) ||| x6)) (fun s8 => cl (f_X5_readNumber (nI 0) a3 s8) (fun x10 s9 => if ¬ x10 = 0 then (if inb x5 (lnI a1) = true then bd (wI s9 a1 (x5).toNatClampNeg (s9.1 33 6)) (fun s13 => some (((nI 1), s13))) else none) else (some (((nI 0), s9)))))) else (cl (f_X5_refuse (nI 4) s2) (fun x15 s14 => if x15 = 0 ∨ x15 = 1 then some ((x15, s14)) else none))))) else (some (((nI 0), s2)))) else none
set_option maxHeartbeats 4000000 in
set_option maxRecDepth 100000 in
theorem e_X5_readOnce {X : Cx} {Γ : Gm} {r0 : Rb} (hX : Amb X Γ cX5_readOnce RX5 6 (some .boolean) 3) {a1 : Nat} {a2 : Int32} {a3 : Int32} {s : St} {t : Int32 × St} (h : f_X5_readOnce a1 a2 a3 s = some t) (hk : (fun t : Int32 × St => Rt X Γ r0 (some (Value.int t.1), t.2)) t) : Zw X Γ 6 r0 s 0 [(0, .ref (gL Γ (33))), (1, .ref (gL Γ (a1))), (2, .int a2), (3, .int a3)] [] := by
  unfold f_X5_readOnce at h
  refine z_aload_n hX dX5_readOnce_0 0 rfl 1 rfl ?_
  refine z_iconst hX (v := (nI 0)) dX5_readOnce_1 rfl 2 rfl ?_
  refine z_aload_n hX dX5_readOnce_2 1 rfl 3 rfl ?_
  replace h := gd_elim h
  obtain ⟨g1, h⟩ := h
  refine z_alenI hX g1 dX5_readOnce_3 4 rfl ?_
  refine z_iconst hX (v := (nI 1)) dX5_readOnce_4 rfl 5 rfl ?_
  refine z_isub hX dX5_readOnce_5 6 rfl ?_
  replace h := cl_elim h
  obtain ⟨x3, s2, hx3, h⟩ := h
  refine z_cV5i hX (b := 33) (As := [.int ((nI 0)), .int (((nI (ln a1)) - (nI 1)))]) (c_X5_readNumber hx3) lk_X5_112 rfl kdc_33 ds_X5_readNumber rfl (by decide) (by decide) (by decide) dX5_readOnce_6 rfl 9 rfl ?_
  refine z_if_ne hX 14 dX5_readOnce_9 (by decide) 12 rfl (fun c4 => ?_) (fun c4 => ?_)
  · replace h := br_pos h c4
    refine z_aload_n hX dX5_readOnce_14 0 rfl 15 rfl ?_
    refine z_get5 hX (k := 33) (j := 6) (v := .int ((s2.1 33 6))) kdc_33 (by decide) rfl dX5_readOnce_15 fl_X5_31 18 rfl ?_
    replace h := bd_elim h
    obtain ⟨x5, ex5, h⟩ := h
    refine z_nm ex5 ?_
    refine z_istore hX (lv2 := [(4, .int x5), (0, .ref (gL Γ (33))), (1, .ref (gL Γ (a1))), (2, .int a2), (3, .int a3)]) dX5_readOnce_18 (by decide) rfl 20 rfl ?_
    refine z_iconst hX (v := (nI 1)) dX5_readOnce_20 rfl 21 rfl ?_
    refine z_iload_n hX dX5_readOnce_21 3 rfl 22 rfl ?_
    refine z_iload hX dX5_readOnce_22 0 rfl 24 rfl ?_
    refine z_iadd hX dX5_readOnce_24 25 rfl ?_
    refine z_ishl hX dX5_readOnce_25 26 rfl ?_
    replace h := bd_elim h
    obtain ⟨x6, ex6, h⟩ := h
    refine z_nm ex6 ?_
    refine z_istore hX (lv2 := [(5, .int x6), (4, .int x5), (0, .ref (gL Γ (33))), (1, .ref (gL Γ (a1))), (2, .int a2), (3, .int a3)]) dX5_readOnce_26 (by decide) rfl 28 rfl ?_
    refine z_aload_n hX dX5_readOnce_28 2 rfl 29 rfl ?_
    refine z_get5 hX (k := 33) (j := 7) (v := .int ((s2.1 33 7))) kdc_33 (by decide) rfl dX5_readOnce_29 fl_X5_34 32 rfl ?_
    refine z_iload hX dX5_readOnce_32 0 rfl 34 rfl ?_
    refine z_iand hX dX5_readOnce_34 35 rfl ?_
    refine z_if_eq hX 44 dX5_readOnce_35 (by decide) 38 rfl (fun c7 => ?_) (fun c7 => ?_)
    · replace h := br_pos h c7
      refine z_aload_n hX dX5_readOnce_44 2 rfl 45 rfl ?_
      refine z_dup hX dX5_readOnce_45 rfl 46 rfl ?_
      refine z_get5 hX (k := 33) (j := 7) (v := .int ((s2.1 33 7))) kdc_33 (by decide) rfl dX5_readOnce_46 fl_X5_34 49 rfl ?_
      refine z_iload hX dX5_readOnce_49 0 rfl 51 rfl ?_
      refine z_ior hX dX5_readOnce_51 52 rfl ?_
      replace h := bd_elim h
      obtain ⟨s8, es8, h⟩ := h
      refine z_putI5 hX (k := 33) (j := 7) kdc_33 (by decide) rfl (by decide +kernel) (pwI_5_7 ..) dX5_readOnce_52 fl_X5_34 es8 55 rfl ?_
      refine z_aload_n hX dX5_readOnce_55 2 rfl 56 rfl ?_
      refine z_iconst hX (v := (nI 0)) dX5_readOnce_56 rfl 57 rfl ?_
      refine z_iload_n hX dX5_readOnce_57 5 rfl 58 rfl ?_
      replace h := cl_elim h
      obtain ⟨x10, s9, hx10, h⟩ := h
      refine z_cV5i hX (b := 33) (As := [.int ((nI 0)), .int a3]) (c_X5_readNumber hx10) lk_X5_112 rfl kdc_33 ds_X5_readNumber rfl (by decide) (by decide) (by decide) dX5_readOnce_58 rfl 61 rfl ?_
      refine z_if_ne hX 66 dX5_readOnce_61 (by decide) 64 rfl (fun c11 => ?_) (fun c11 => ?_)
      · replace h := br_pos h c11
        refine z_aload_n hX dX5_readOnce_66 3 rfl 67 rfl ?_
        refine z_iload hX dX5_readOnce_67 1 rfl 69 rfl ?_
        refine z_aload_n hX dX5_readOnce_69 2 rfl 70 rfl ?_
        refine z_get5 hX (k := 33) (j := 6) (v := .int ((s9.1 33 6))) kdc_33 (by decide) rfl dX5_readOnce_70 fl_X5_31 73 rfl ?_
        replace h := gd_elim h
        obtain ⟨g12, h⟩ := h
        replace h := bd_elim h
        obtain ⟨s13, es13, h⟩ := h
        refine z_iast hX (inb_vp g12) dX5_readOnce_73 es13 74 rfl ?_
        refine z_iconst hX (v := (nI 1)) dX5_readOnce_74 rfl 75 rfl ?_
        replace h := Option.some.inj h
        subst h
        exact z_zret hX dX5_readOnce_75 rfl (by decide) hk
      · replace h := br_neg h c11
        refine z_iconst hX (v := (nI 0)) dX5_readOnce_64 rfl 65 rfl ?_
        replace h := Option.some.inj h
        subst h
        exact z_zret hX dX5_readOnce_65 rfl (by decide) hk
    · replace h := br_neg h c7
      refine z_aload_n hX dX5_readOnce_38 2 rfl 39 rfl ?_
      refine z_iconst hX (v := (nI 4)) dX5_readOnce_39 rfl 40 rfl ?_
      replace h := cl_elim h
      obtain ⟨x15, s14, hx15, h⟩ := h
      refine z_cV5i hX (b := 33) (As := [.int ((nI 4))]) (c_X5_refuse hx15) lk_X5_54 rfl kdc_33 ds_X5_refuse rfl (by decide) (by decide) (by decide) dX5_readOnce_40 rfl 43 rfl ?_
      replace h := gd_elim h
      obtain ⟨g16, h⟩ := h
      replace h := Option.some.inj h
      subst h
      exact z_zret hX dX5_readOnce_43 rfl g16 hk
  · replace h := br_neg h c4
    refine z_iconst hX (v := (nI 0)) dX5_readOnce_12 rfl 13 rfl ?_
    replace h := Option.some.inj h
    subst h
    exact z_zret hX dX5_readOnce_13 rfl (by decide) hk
theorem c_X5_readOnce {lc : Launch} {Γ : Gm} {a1 : Nat} {a2 : Int32} {a3 : Int32} {s s2 : St} {v : Int32} (h : f_X5_readOnce a1 a2 a3 s = some (v, s2)) : Ct lc Γ yX5_readOnce cX5_readOnce 6 (some .boolean) 3 [.ref (gL Γ (33)), .ref (gL Γ (a1)), .int a2, .int a3] s (some (.int v), s2) := Ct.of (by decide +kernel) (Nat.le_of_ble_eq_true rfl) (fun X hl hX => e_X5_readOnce hX h rfl)
theorem dX5_readLife_0 : decode cX5_readLife 0 = .ok (.aload_n 1, 1) := by decide +kernel
theorem dX5_readLife_1 : decode cX5_readLife 1 = .ok (.getfield 106, 3) := by decide +kernel
theorem dX5_readLife_4 : decode cX5_readLife 4 = .ok (.istore_n 3, 1) := by decide +kernel
theorem dX5_readLife_5 : decode cX5_readLife 5 = .ok (.iload_n 3, 1) := by decide +kernel
theorem dX5_readLife_6 : decode cX5_readLife 6 = .ok (.iconst 3, 1) := by decide +kernel
theorem dX5_readLife_7 : decode cX5_readLife 7 = .ok (.if_icmp .lt 9, 3) := by decide +kernel
theorem dX5_readLife_10 : decode cX5_readLife 10 = .ok (.aload_n 0, 1) := by decide +kernel
theorem dX5_readLife_11 : decode cX5_readLife 11 = .ok (.iconst 5, 1) := by decide +kernel
theorem dX5_readLife_12 : decode cX5_readLife 12 = .ok (.invokevirtual 54, 3) := by decide +kernel
theorem dX5_readLife_15 : decode cX5_readLife 15 = .ok (.ireturn, 1) := by decide +kernel
theorem dX5_readLife_16 : decode cX5_readLife 16 = .ok (.aload_n 1, 1) := by decide +kernel
theorem dX5_readLife_17 : decode cX5_readLife 17 = .ok (.getfield 109, 3) := by decide +kernel
theorem dX5_readLife_20 : decode cX5_readLife 20 = .ok (.iload_n 3, 1) := by decide +kernel
theorem dX5_readLife_21 : decode cX5_readLife 21 = .ok (.iload_n 2, 1) := by decide +kernel
theorem dX5_readLife_22 : decode cX5_readLife 22 = .ok (.iastore, 1) := by decide +kernel
theorem dX5_readLife_23 : decode cX5_readLife 23 = .ok (.aload_n 0, 1) := by decide +kernel
theorem dX5_readLife_24 : decode cX5_readLife 24 = .ok (.iconst 0, 1) := by decide +kernel
theorem dX5_readLife_25 : decode cX5_readLife 25 = .ok (.bipush 99, 2) := by decide +kernel
theorem dX5_readLife_27 : decode cX5_readLife 27 = .ok (.invokevirtual 112, 3) := by decide +kernel
theorem dX5_readLife_30 : decode cX5_readLife 30 = .ok (.ifCond .eq 10, 3) := by decide +kernel
theorem dX5_readLife_33 : decode cX5_readLife 33 = .ok (.aload_n 0, 1) := by decide +kernel
theorem dX5_readLife_34 : decode cX5_readLife 34 = .ok (.invokevirtual 116, 3) := by decide +kernel
theorem dX5_readLife_37 : decode cX5_readLife 37 = .ok (.ifCond .ne 5, 3) := by decide +kernel
theorem dX5_readLife_40 : decode cX5_readLife 40 = .ok (.iconst 0, 1) := by decide +kernel
theorem dX5_readLife_41 : decode cX5_readLife 41 = .ok (.ireturn, 1) := by decide +kernel
theorem dX5_readLife_42 : decode cX5_readLife 42 = .ok (.aload_n 1, 1) := by decide +kernel
theorem dX5_readLife_43 : decode cX5_readLife 43 = .ok (.getfield 119, 3) := by decide +kernel
theorem dX5_readLife_46 : decode cX5_readLife 46 = .ok (.iload_n 3, 1) := by decide +kernel
theorem dX5_readLife_47 : decode cX5_readLife 47 = .ok (.aload_n 0, 1) := by decide +kernel
theorem dX5_readLife_48 : decode cX5_readLife 48 = .ok (.getfield 31, 3) := by decide +kernel
theorem dX5_readLife_51 : decode cX5_readLife 51 = .ok (.invokestatic 122, 3) := by decide +kernel
theorem dX5_readLife_54 : decode cX5_readLife 54 = .ok (.iastore, 1) := by decide +kernel
theorem dX5_readLife_55 : decode cX5_readLife 55 = .ok (.aload_n 0, 1) := by decide +kernel
theorem dX5_readLife_56 : decode cX5_readLife 56 = .ok (.iconst 1, 1) := by decide +kernel
theorem dX5_readLife_57 : decode cX5_readLife 57 = .ok (.bipush 9, 2) := by decide +kernel
theorem dX5_readLife_59 : decode cX5_readLife 59 = .ok (.invokevirtual 112, 3) := by decide +kernel
theorem dX5_readLife_62 : decode cX5_readLife 62 = .ok (.ifCond .ne 5, 3) := by decide +kernel
theorem dX5_readLife_65 : decode cX5_readLife 65 = .ok (.iconst 0, 1) := by decide +kernel
theorem dX5_readLife_66 : decode cX5_readLife 66 = .ok (.ireturn, 1) := by decide +kernel
theorem dX5_readLife_67 : decode cX5_readLife 67 = .ok (.aload_n 1, 1) := by decide +kernel
theorem dX5_readLife_68 : decode cX5_readLife 68 = .ok (.getfield 126, 3) := by decide +kernel
theorem dX5_readLife_71 : decode cX5_readLife 71 = .ok (.iload_n 3, 1) := by decide +kernel
theorem dX5_readLife_72 : decode cX5_readLife 72 = .ok (.aload_n 0, 1) := by decide +kernel
theorem dX5_readLife_73 : decode cX5_readLife 73 = .ok (.getfield 31, 3) := by decide +kernel
theorem dX5_readLife_76 : decode cX5_readLife 76 = .ok (.iastore, 1) := by decide +kernel
theorem dX5_readLife_77 : decode cX5_readLife 77 = .ok (.aload_n 0, 1) := by decide +kernel
theorem dX5_readLife_78 : decode cX5_readLife 78 = .ok (.iconst 0, 1) := by decide +kernel
theorem dX5_readLife_79 : decode cX5_readLife 79 = .ok (.bipush 99, 2) := by decide +kernel
theorem dX5_readLife_81 : decode cX5_readLife 81 = .ok (.invokevirtual 112, 3) := by decide +kernel
theorem dX5_readLife_84 : decode cX5_readLife 84 = .ok (.ifCond .ne 5, 3) := by decide +kernel
theorem dX5_readLife_87 : decode cX5_readLife 87 = .ok (.iconst 0, 1) := by decide +kernel
theorem dX5_readLife_88 : decode cX5_readLife 88 = .ok (.ireturn, 1) := by decide +kernel
theorem dX5_readLife_89 : decode cX5_readLife 89 = .ok (.aload_n 1, 1) := by decide +kernel
theorem dX5_readLife_90 : decode cX5_readLife 90 = .ok (.getfield 129, 3) := by decide +kernel
theorem dX5_readLife_93 : decode cX5_readLife 93 = .ok (.iload_n 3, 1) := by decide +kernel
theorem dX5_readLife_94 : decode cX5_readLife 94 = .ok (.aload_n 0, 1) := by decide +kernel
theorem dX5_readLife_95 : decode cX5_readLife 95 = .ok (.getfield 31, 3) := by decide +kernel
theorem dX5_readLife_98 : decode cX5_readLife 98 = .ok (.iastore, 1) := by decide +kernel
theorem dX5_readLife_99 : decode cX5_readLife 99 = .ok (.aload_n 1, 1) := by decide +kernel
theorem dX5_readLife_100 : decode cX5_readLife 100 = .ok (.dup, 1) := by decide +kernel
theorem dX5_readLife_101 : decode cX5_readLife 101 = .ok (.getfield 106, 3) := by decide +kernel
theorem dX5_readLife_104 : decode cX5_readLife 104 = .ok (.iconst 1, 1) := by decide +kernel
theorem dX5_readLife_105 : decode cX5_readLife 105 = .ok (.iadd, 1) := by decide +kernel
theorem dX5_readLife_106 : decode cX5_readLife 106 = .ok (.putfield 106, 3) := by decide +kernel
theorem dX5_readLife_109 : decode cX5_readLife 109 = .ok (.iconst 1, 1) := by decide +kernel
theorem dX5_readLife_110 : decode cX5_readLife 110 = .ok (.ireturn, 1) := by decide +kernel
def f_X5_readLife (a1 : Nat) (a2 : Int32) (s : St) : Option (Int32 × St) := if kd (a1) = 2 then bd (s.1 a1 0) (fun x2 => if x2 < (nI 3) then (if inb x2 (lnI (a1 + 1)) = true then bd (wI s (a1 + 1) (x2).toNatClampNeg a2) (fun s5 => cl (f_X5_readNumber (nI 0) (nI 99) s5) (fun x7 s6 => if x7 = 0 then (some (((nI 0), s6))) else (cl (f_X5_namesCell s6) (fun x10 s9 => if ¬ x10 = 0 then (cl (f_X6_cellOf (s9.1 33 6) s9) (fun x13 s12 => if inb x2 (lnI (a1 + 2)) = true then bd (wI s12 (a1 + 2) (x2).toNatClampNeg x13) (fun s15 => cl (f_X5_readNumber (nI 1) (nI 9) s15) (fun x17 s16 => if ¬ x17 = 0 then (if inb x2 (lnI (a1 + 3)) = true then bd (wI s16 (a1 + 3) (x2).toNatClampNeg (s16.1 33 6)) (fun s20 => cl (f_X5_readNumber (nI 0) (nI 99) s20) (fun x22 s21 => if ¬ x22 = 0 then (if inb x2 (lnI (a1 + 4)) = true then bd (wI s21 (a1 + 4) (x2).toNatClampNeg (s21.1 33 6)) (fun s25 => bd (wI s25 a1 0 ((s25.1 a1 0) + (nI 1))) (fun s26 => some (((nI 1), s26)))) else none) else (some (((nI 0), s21))))) else none) else (some (((nI 0), s16))))) else none)) else (some (((nI 0), s9))))))) else none) else (cl (f_X5_refuse (nI 5) s) (fun x28 s27 => if x28 = 0 ∨ x28 = 1 then some ((x28, s27)) else none))) else none
set_option maxHeartbeats 4000000 in
set_option maxRecDepth 100000 in
theorem e_X5_readLife {X : Cx} {Γ : Gm} {r0 : Rb} (hX : Amb X Γ cX5_readLife RX5 4 (some .boolean) 3) {a1 : Nat} {a2 : Int32} {s : St} {t : Int32 × St} (h : f_X5_readLife a1 a2 s = some t) (hk : (fun t : Int32 × St => Rt X Γ r0 (some (Value.int t.1), t.2)) t) : Zw X Γ 4 r0 s 0 [(0, .ref (gL Γ (33))), (1, .ref (gL Γ (a1))), (2, .int a2)] [] := by
  unfold f_X5_readLife at h
  refine z_aload_n hX dX5_readLife_0 1 rfl 1 rfl ?_
  replace h := gd_elim h
  obtain ⟨g1, h⟩ := h
  refine z_get2 hX (k := a1) (j := 0) (v := .int ((s.1 a1 0))) g1 (by decide) rfl dX5_readLife_1 fl_X5_106 4 rfl ?_
  replace h := bd_elim h
  obtain ⟨x2, ex2, h⟩ := h
  refine z_nm ex2 ?_
  refine z_istore_n hX (lv2 := [(3, .int x2), (0, .ref (gL Γ (33))), (1, .ref (gL Γ (a1))), (2, .int a2)]) dX5_readLife_4 (by decide) rfl 5 rfl ?_
  refine z_iload_n hX dX5_readLife_5 0 rfl 6 rfl ?_
  refine z_iconst hX (v := (nI 3)) dX5_readLife_6 rfl 7 rfl ?_
  refine z_icmp_lt hX 16 dX5_readLife_7 (by decide) 10 rfl (fun c3 => ?_) (fun c3 => ?_)
  · replace h := br_pos h c3
    refine z_aload_n hX dX5_readLife_16 2 rfl 17 rfl ?_
    refine z_get2 hX (k := a1) (j := 3) (v := .ref (gL Γ (a1 + 1))) g1 (by decide) rfl dX5_readLife_17 fl_X5_109 20 rfl ?_
    refine z_iload_n hX dX5_readLife_20 0 rfl 21 rfl ?_
    refine z_iload_n hX dX5_readLife_21 3 rfl 22 rfl ?_
    replace h := gd_elim h
    obtain ⟨g4, h⟩ := h
    replace h := bd_elim h
    obtain ⟨s5, es5, h⟩ := h
    refine z_iast hX (inb_vp g4) dX5_readLife_22 es5 23 rfl ?_
    refine z_aload_n hX dX5_readLife_23 1 rfl 24 rfl ?_
    refine z_iconst hX (v := (nI 0)) dX5_readLife_24 rfl 25 rfl ?_
    refine z_bipush hX (v := (nI 99)) dX5_readLife_25 (by decide) 27 rfl ?_
    replace h := cl_elim h
    obtain ⟨x7, s6, hx7, h⟩ := h
    refine z_cV5i hX (b := 33) (As := [.int ((nI 0)), .int ((nI 99))]) (c_X5_readNumber hx7) lk_X5_112 rfl kdc_33 ds_X5_readNumber rfl (by decide) (by decide) (by decide) dX5_readLife_27 rfl 30 rfl ?_
    refine z_if_eq hX 40 dX5_readLife_30 (by decide) 33 rfl (fun c8 => ?_) (fun c8 => ?_)
    · replace h := br_pos h c8
      refine z_iconst hX (v := (nI 0)) dX5_readLife_40 rfl 41 rfl ?_
      replace h := Option.some.inj h
      subst h
      exact z_zret hX dX5_readLife_41 rfl (by decide) hk
    · replace h := br_neg h c8
      refine z_aload_n hX dX5_readLife_33 1 rfl 34 rfl ?_
      replace h := cl_elim h
      obtain ⟨x10, s9, hx10, h⟩ := h
      refine z_cV5i hX (b := 33) (As := []) (c_X5_namesCell hx10) lk_X5_116 rfl kdc_33 ds_X5_namesCell rfl (by decide) (by decide) (by decide) dX5_readLife_34 rfl 37 rfl ?_
      refine z_if_ne hX 42 dX5_readLife_37 (by decide) 40 rfl (fun c11 => ?_) (fun c11 => ?_)
      · replace h := br_pos h c11
        refine z_aload_n hX dX5_readLife_42 2 rfl 43 rfl ?_
        refine z_get2 hX (k := a1) (j := 4) (v := .ref (gL Γ (a1 + 2))) g1 (by decide) rfl dX5_readLife_43 fl_X5_119 46 rfl ?_
        refine z_iload_n hX dX5_readLife_46 0 rfl 47 rfl ?_
        refine z_aload_n hX dX5_readLife_47 1 rfl 48 rfl ?_
        refine z_get5 hX (k := 33) (j := 6) (v := .int ((s9.1 33 6))) kdc_33 (by decide) rfl dX5_readLife_48 fl_X5_31 51 rfl ?_
        replace h := cl_elim h
        obtain ⟨x13, s12, hx13, h⟩ := h
        refine z_cNi hX (As := [.int ((s9.1 33 6))]) (c_X6_cellOf hx13) lk_X5_122 ds_X6_cellOf rfl (by decide) (by decide) (Nat.le_of_ble_eq_true rfl) dX5_readLife_51 rfl 54 rfl ?_
        replace h := gd_elim h
        obtain ⟨g14, h⟩ := h
        replace h := bd_elim h
        obtain ⟨s15, es15, h⟩ := h
        refine z_iast hX (inb_vp g14) dX5_readLife_54 es15 55 rfl ?_
        refine z_aload_n hX dX5_readLife_55 1 rfl 56 rfl ?_
        refine z_iconst hX (v := (nI 1)) dX5_readLife_56 rfl 57 rfl ?_
        refine z_bipush hX (v := (nI 9)) dX5_readLife_57 (by decide) 59 rfl ?_
        replace h := cl_elim h
        obtain ⟨x17, s16, hx17, h⟩ := h
        refine z_cV5i hX (b := 33) (As := [.int ((nI 1)), .int ((nI 9))]) (c_X5_readNumber hx17) lk_X5_112 rfl kdc_33 ds_X5_readNumber rfl (by decide) (by decide) (by decide) dX5_readLife_59 rfl 62 rfl ?_
        refine z_if_ne hX 67 dX5_readLife_62 (by decide) 65 rfl (fun c18 => ?_) (fun c18 => ?_)
        · replace h := br_pos h c18
          refine z_aload_n hX dX5_readLife_67 2 rfl 68 rfl ?_
          refine z_get2 hX (k := a1) (j := 5) (v := .ref (gL Γ (a1 + 3))) g1 (by decide) rfl dX5_readLife_68 fl_X5_126 71 rfl ?_
          refine z_iload_n hX dX5_readLife_71 0 rfl 72 rfl ?_
          refine z_aload_n hX dX5_readLife_72 1 rfl 73 rfl ?_
          refine z_get5 hX (k := 33) (j := 6) (v := .int ((s16.1 33 6))) kdc_33 (by decide) rfl dX5_readLife_73 fl_X5_31 76 rfl ?_
          replace h := gd_elim h
          obtain ⟨g19, h⟩ := h
          replace h := bd_elim h
          obtain ⟨s20, es20, h⟩ := h
          refine z_iast hX (inb_vp g19) dX5_readLife_76 es20 77 rfl ?_
          refine z_aload_n hX dX5_readLife_77 1 rfl 78 rfl ?_
          refine z_iconst hX (v := (nI 0)) dX5_readLife_78 rfl 79 rfl ?_
          refine z_bipush hX (v := (nI 99)) dX5_readLife_79 (by decide) 81 rfl ?_
          replace h := cl_elim h
          obtain ⟨x22, s21, hx22, h⟩ := h
          refine z_cV5i hX (b := 33) (As := [.int ((nI 0)), .int ((nI 99))]) (c_X5_readNumber hx22) lk_X5_112 rfl kdc_33 ds_X5_readNumber rfl (by decide) (by decide) (by decide) dX5_readLife_81 rfl 84 rfl ?_
          refine z_if_ne hX 89 dX5_readLife_84 (by decide) 87 rfl (fun c23 => ?_) (fun c23 => ?_)
          · replace h := br_pos h c23
            refine z_aload_n hX dX5_readLife_89 2 rfl 90 rfl ?_
            refine z_get2 hX (k := a1) (j := 6) (v := .ref (gL Γ (a1 + 4))) g1 (by decide) rfl dX5_readLife_90 fl_X5_129 93 rfl ?_
            refine z_iload_n hX dX5_readLife_93 0 rfl 94 rfl ?_
            refine z_aload_n hX dX5_readLife_94 1 rfl 95 rfl ?_
            refine z_get5 hX (k := 33) (j := 6) (v := .int ((s21.1 33 6))) kdc_33 (by decide) rfl dX5_readLife_95 fl_X5_31 98 rfl ?_
            replace h := gd_elim h
            obtain ⟨g24, h⟩ := h
            replace h := bd_elim h
            obtain ⟨s25, es25, h⟩ := h
            refine z_iast hX (inb_vp g24) dX5_readLife_98 es25 99 rfl ?_
            refine z_aload_n hX dX5_readLife_99 2 rfl 100 rfl ?_
            refine z_dup hX dX5_readLife_100 rfl 101 rfl ?_
            refine z_get2 hX (k := a1) (j := 0) (v := .int ((s25.1 a1 0))) g1 (by decide) rfl dX5_readLife_101 fl_X5_106 104 rfl ?_
            refine z_iconst hX (v := (nI 1)) dX5_readLife_104 rfl 105 rfl ?_
            refine z_iadd hX dX5_readLife_105 106 rfl ?_
            replace h := bd_elim h
            obtain ⟨s26, es26, h⟩ := h
            refine z_putI2 hX (k := a1) (j := 0) g1 (by decide) rfl (by decide +kernel) (pwI_2_0 ..) dX5_readLife_106 fl_X5_106 es26 109 rfl ?_
            refine z_iconst hX (v := (nI 1)) dX5_readLife_109 rfl 110 rfl ?_
            replace h := Option.some.inj h
            subst h
            exact z_zret hX dX5_readLife_110 rfl (by decide) hk
          · replace h := br_neg h c23
            refine z_iconst hX (v := (nI 0)) dX5_readLife_87 rfl 88 rfl ?_
            replace h := Option.some.inj h
            subst h
            exact z_zret hX dX5_readLife_88 rfl (by decide) hk
        · replace h := br_neg h c18
          refine z_iconst hX (v := (nI 0)) dX5_readLife_65 rfl 66 rfl ?_
          replace h := Option.some.inj h
          subst h
          exact z_zret hX dX5_readLife_66 rfl (by decide) hk
      · replace h := br_neg h c11
        refine z_iconst hX (v := (nI 0)) dX5_readLife_40 rfl 41 rfl ?_
        replace h := Option.some.inj h
        subst h
        exact z_zret hX dX5_readLife_41 rfl (by decide) hk
  · replace h := br_neg h c3
    refine z_aload_n hX dX5_readLife_10 1 rfl 11 rfl ?_
    refine z_iconst hX (v := (nI 5)) dX5_readLife_11 rfl 12 rfl ?_
    replace h := cl_elim h
    obtain ⟨x28, s27, hx28, h⟩ := h
    refine z_cV5i hX (b := 33) (As := [.int ((nI 5))]) (c_X5_refuse hx28) lk_X5_54 rfl kdc_33 ds_X5_refuse rfl (by decide) (by decide) (by decide) dX5_readLife_12 rfl 15 rfl ?_
    replace h := gd_elim h
    obtain ⟨g29, h⟩ := h
    replace h := Option.some.inj h
    subst h
    exact z_zret hX dX5_readLife_15 rfl g29 hk
theorem c_X5_readLife {lc : Launch} {Γ : Gm} {a1 : Nat} {a2 : Int32} {s s2 : St} {v : Int32} (h : f_X5_readLife a1 a2 s = some (v, s2)) : Ct lc Γ yX5_readLife cX5_readLife 4 (some .boolean) 3 [.ref (gL Γ (33)), .ref (gL Γ (a1)), .int a2] s (some (.int v), s2) := Ct.of (by decide +kernel) (Nat.le_of_ble_eq_true rfl) (fun X hl hX => e_X5_readLife hX h rfl)
theorem dX5_readLine_0 : decode cX5_readLine 0 = .ok (.aload_n 0, 1) := by decide +kernel
theorem dX5_readLine_1 : decode cX5_readLine 1 = .ok (.getfield 28, 3) := by decide +kernel
theorem dX5_readLine_4 : decode cX5_readLine 4 = .ok (.iconst 1, 1) := by decide +kernel
theorem dX5_readLine_5 : decode cX5_readLine 5 = .ok (.if_icmp .ne 10, 3) := by decide +kernel
theorem dX5_readLine_8 : decode cX5_readLine 8 = .ok (.aload_n 0, 1) := by decide +kernel
theorem dX5_readLine_9 : decode cX5_readLine 9 = .ok (.invokevirtual 58, 3) := by decide +kernel
theorem dX5_readLine_12 : decode cX5_readLine 12 = .ok (.goto 5, 3) := by decide +kernel
theorem dX5_readLine_15 : decode cX5_readLine 15 = .ok (.bipush 7, 2) := by decide +kernel
theorem dX5_readLine_17 : decode cX5_readLine 17 = .ok (.istore_n 2, 1) := by decide +kernel
theorem dX5_readLine_18 : decode cX5_readLine 18 = .ok (.iload_n 2, 1) := by decide +kernel
theorem dX5_readLine_19 : decode cX5_readLine 19 = .ok (.tableswitch 74 4 7 #[35, 44, 58, 29], 29) := by decide +kernel
theorem dX5_readLine_48 : decode cX5_readLine 48 = .ok (.aload_n 0, 1) := by decide +kernel
theorem dX5_readLine_49 : decode cX5_readLine 49 = .ok (.iconst 2, 1) := by decide +kernel
theorem dX5_readLine_50 : decode cX5_readLine 50 = .ok (.invokevirtual 54, 3) := by decide +kernel
theorem dX5_readLine_53 : decode cX5_readLine 53 = .ok (.ireturn, 1) := by decide +kernel
theorem dX5_readLine_54 : decode cX5_readLine 54 = .ok (.aload_n 0, 1) := by decide +kernel
theorem dX5_readLine_55 : decode cX5_readLine 55 = .ok (.aload_n 1, 1) := by decide +kernel
theorem dX5_readLine_56 : decode cX5_readLine 56 = .ok (.invokevirtual 62, 3) := by decide +kernel
theorem dX5_readLine_59 : decode cX5_readLine 59 = .ok (.istore_n 3, 1) := by decide +kernel
theorem dX5_readLine_60 : decode cX5_readLine 60 = .ok (.goto 40, 3) := by decide +kernel
theorem dX5_readLine_63 : decode cX5_readLine 63 = .ok (.aload_n 0, 1) := by decide +kernel
theorem dX5_readLine_64 : decode cX5_readLine 64 = .ok (.aload_n 1, 1) := by decide +kernel
theorem dX5_readLine_65 : decode cX5_readLine 65 = .ok (.getfield 65, 3) := by decide +kernel
theorem dX5_readLine_68 : decode cX5_readLine 68 = .ok (.iconst 0, 1) := by decide +kernel
theorem dX5_readLine_69 : decode cX5_readLine 69 = .ok (.iconst 4, 1) := by decide +kernel
theorem dX5_readLine_70 : decode cX5_readLine 70 = .ok (.invokevirtual 69, 3) := by decide +kernel
theorem dX5_readLine_73 : decode cX5_readLine 73 = .ok (.istore_n 3, 1) := by decide +kernel
theorem dX5_readLine_74 : decode cX5_readLine 74 = .ok (.goto 26, 3) := by decide +kernel
theorem dX5_readLine_77 : decode cX5_readLine 77 = .ok (.aload_n 0, 1) := by decide +kernel
theorem dX5_readLine_78 : decode cX5_readLine 78 = .ok (.aload_n 1, 1) := by decide +kernel
theorem dX5_readLine_79 : decode cX5_readLine 79 = .ok (.getfield 73, 3) := by decide +kernel
theorem dX5_readLine_82 : decode cX5_readLine 82 = .ok (.bipush 6, 2) := by decide +kernel
theorem dX5_readLine_84 : decode cX5_readLine 84 = .ok (.bipush 9, 2) := by decide +kernel
theorem dX5_readLine_86 : decode cX5_readLine 86 = .ok (.invokevirtual 69, 3) := by decide +kernel
theorem dX5_readLine_89 : decode cX5_readLine 89 = .ok (.istore_n 3, 1) := by decide +kernel
theorem dX5_readLine_90 : decode cX5_readLine 90 = .ok (.goto 10, 3) := by decide +kernel
theorem dX5_readLine_93 : decode cX5_readLine 93 = .ok (.aload_n 0, 1) := by decide +kernel
theorem dX5_readLine_94 : decode cX5_readLine 94 = .ok (.aload_n 1, 1) := by decide +kernel
theorem dX5_readLine_95 : decode cX5_readLine 95 = .ok (.iload_n 2, 1) := by decide +kernel
theorem dX5_readLine_96 : decode cX5_readLine 96 = .ok (.invokevirtual 76, 3) := by decide +kernel
theorem dX5_readLine_99 : decode cX5_readLine 99 = .ok (.istore_n 3, 1) := by decide +kernel
theorem dX5_readLine_100 : decode cX5_readLine 100 = .ok (.iload_n 3, 1) := by decide +kernel
theorem dX5_readLine_101 : decode cX5_readLine 101 = .ok (.ifCond .eq 30, 3) := by decide +kernel
theorem dX5_readLine_104 : decode cX5_readLine 104 = .ok (.aload_n 0, 1) := by decide +kernel
theorem dX5_readLine_105 : decode cX5_readLine 105 = .ok (.invokevirtual 42, 3) := by decide +kernel
theorem dX5_readLine_108 : decode cX5_readLine 108 = .ok (.ifCond .eq 23, 3) := by decide +kernel
theorem dX5_readLine_111 : decode cX5_readLine 111 = .ok (.aload_n 0, 1) := by decide +kernel
theorem dX5_readLine_112 : decode cX5_readLine 112 = .ok (.getfield 28, 3) := by decide +kernel
theorem dX5_readLine_115 : decode cX5_readLine 115 = .ok (.iconst 3, 1) := by decide +kernel
theorem dX5_readLine_116 : decode cX5_readLine 116 = .ok (.if_icmp .eq 11, 3) := by decide +kernel
theorem dX5_readLine_119 : decode cX5_readLine 119 = .ok (.aload_n 0, 1) := by decide +kernel
theorem dX5_readLine_120 : decode cX5_readLine 120 = .ok (.iconst 2, 1) := by decide +kernel
theorem dX5_readLine_121 : decode cX5_readLine 121 = .ok (.invokevirtual 54, 3) := by decide +kernel
theorem dX5_readLine_124 : decode cX5_readLine 124 = .ok (.ifCond .eq 7, 3) := by decide +kernel
theorem dX5_readLine_127 : decode cX5_readLine 127 = .ok (.iconst 1, 1) := by decide +kernel
theorem dX5_readLine_128 : decode cX5_readLine 128 = .ok (.goto 4, 3) := by decide +kernel
theorem dX5_readLine_131 : decode cX5_readLine 131 = .ok (.iconst 0, 1) := by decide +kernel
theorem dX5_readLine_132 : decode cX5_readLine 132 = .ok (.ireturn, 1) := by decide +kernel
def f_X5_readLine_J100 (v3 : Int32) (s : St) : Option (Int32 × St) := if v3 = 0 then (some (((nI 0), s))) else (cl (f_X5_readToken s) (fun x24 s23 => if x24 = 0 then (some (((nI 0), s23))) else (if (s23.1 33 5) = (nI 3) then (some (((nI 1), s23))) else (cl (f_X5_refuse (nI 2) s23) (fun x28 s27 => if x28 = 0 then (some (((nI 0), s27))) else (some (((nI 1), s27))))))))
def f_X5_readLine_J17 (v1 : Nat) (k0 : Int32) (s : St) : Option (Int32 × St) := if k0 = (nI 4) then (cl (f_X5_readSitter v1 s) (fun x6 s5 => f_X5_readLine_J100 x6 s5)) else (if k0 = (nI 5) then (if kd (v1) = 2 then cl (f_X5_readOnce (v1 + 11) (nI 0) (nI 4) s) (fun x10 s9 => f_X5_readLine_J100 x10 s9) else none) else (if k0 = (nI 6) then (if kd (v1) = 2 then cl (f_X5_readOnce (v1 + 12) (nI 6) (nI 9) s) (fun x14 s13 => f_X5_readLine_J100 x14 s13) else none) else (if k0 = (nI 7) then (cl (f_X5_refuse (nI 2) s) (fun x17 s16 => if x17 = 0 ∨ x17 = 1 then some ((x17, s16)) else none)) else (if (k0).toInt < 4 ∨ 7 < (k0).toInt then (cl (f_X5_readLife v1 k0 s) (fun x21 s20 => f_X5_readLine_J100 x21 s20)) else none))))
def f_X5_readLine (a1 : Nat) (s : St) : Option (Int32 × St) := if ¬ (s.1 33 5) = (nI 1) then (f_X5_readLine_J17 a1 (nI 7) s) else (cl (f_X5_wordRead s) (fun x3 s2 => f_X5_readLine_J17 a1 x3 s2))
set_option maxHeartbeats 4000000 in
set_option maxRecDepth 100000 in
theorem e_X5_readLine_J100 {X : Cx} {Γ : Gm} {r0 : Rb} (hX : Amb X Γ cX5_readLine RX5 4 (some .boolean) 6) {v3 : Int32} {s : St} {t : Int32 × St} (h : f_X5_readLine_J100 v3 s = some t) (hk : (fun t : Int32 × St => Rt X Γ r0 (some (Value.int t.1), t.2)) t) : Zw X Γ 4 r0 s 100 [(0, .ref (gL Γ (33))), (3, .int v3)] [] := by
  unfold f_X5_readLine_J100 at h
  refine z_iload_n hX dX5_readLine_100 1 rfl 101 rfl ?_
  refine z_if_eq hX 131 dX5_readLine_101 (by decide) 104 rfl (fun c22 => ?_) (fun c22 => ?_)
  · replace h := br_pos h c22
    refine z_iconst hX (v := (nI 0)) dX5_readLine_131 rfl 132 rfl ?_
    replace h := Option.some.inj h
    subst h
    exact z_zret hX dX5_readLine_132 rfl (by decide) hk
  · replace h := br_neg h c22
    refine z_aload_n hX dX5_readLine_104 0 rfl 105 rfl ?_
    replace h := cl_elim h
    obtain ⟨x24, s23, hx24, h⟩ := h
    refine z_cV5i hX (b := 33) (As := []) (c_X5_readToken hx24) lk_X5_42 rfl kdc_33 ds_X5_readToken rfl (by decide) (by decide) (by decide) dX5_readLine_105 rfl 108 rfl ?_
    refine z_if_eq hX 131 dX5_readLine_108 (by decide) 111 rfl (fun c25 => ?_) (fun c25 => ?_)
    · replace h := br_pos h c25
      refine z_iconst hX (v := (nI 0)) dX5_readLine_131 rfl 132 rfl ?_
      replace h := Option.some.inj h
      subst h
      exact z_zret hX dX5_readLine_132 rfl (by decide) hk
    · replace h := br_neg h c25
      refine z_aload_n hX dX5_readLine_111 0 rfl 112 rfl ?_
      refine z_get5 hX (k := 33) (j := 5) (v := .int ((s23.1 33 5))) kdc_33 (by decide) rfl dX5_readLine_112 fl_X5_28 115 rfl ?_
      refine z_iconst hX (v := (nI 3)) dX5_readLine_115 rfl 116 rfl ?_
      refine z_icmp_eq hX 127 dX5_readLine_116 (by decide) 119 rfl (fun c26 => ?_) (fun c26 => ?_)
      · replace h := br_pos h c26
        refine z_iconst hX (v := (nI 1)) dX5_readLine_127 rfl 128 rfl ?_
        refine z_goto hX 132 dX5_readLine_128 (by decide) ?_
        replace h := Option.some.inj h
        subst h
        exact z_zret hX dX5_readLine_132 rfl (by decide) hk
      · replace h := br_neg h c26
        refine z_aload_n hX dX5_readLine_119 0 rfl 120 rfl ?_
        refine z_iconst hX (v := (nI 2)) dX5_readLine_120 rfl 121 rfl ?_
        replace h := cl_elim h
        obtain ⟨x28, s27, hx28, h⟩ := h
        refine z_cV5i hX (b := 33) (As := [.int ((nI 2))]) (c_X5_refuse hx28) lk_X5_54 rfl kdc_33 ds_X5_refuse rfl (by decide) (by decide) (by decide) dX5_readLine_121 rfl 124 rfl ?_
        refine z_if_eq hX 131 dX5_readLine_124 (by decide) 127 rfl (fun c29 => ?_) (fun c29 => ?_)
        · replace h := br_pos h c29
          refine z_iconst hX (v := (nI 0)) dX5_readLine_131 rfl 132 rfl ?_
          replace h := Option.some.inj h
          subst h
          exact z_zret hX dX5_readLine_132 rfl (by decide) hk
        · replace h := br_neg h c29
          refine z_iconst hX (v := (nI 1)) dX5_readLine_127 rfl 128 rfl ?_
          refine z_goto hX 132 dX5_readLine_128 (by decide) ?_
          replace h := Option.some.inj h
          subst h
          exact z_zret hX dX5_readLine_132 rfl (by decide) hk
set_option maxHeartbeats 4000000 in
set_option maxRecDepth 100000 in
theorem e_X5_readLine_J17 {X : Cx} {Γ : Gm} {r0 : Rb} (hX : Amb X Γ cX5_readLine RX5 4 (some .boolean) 6) {v1 : Nat} {k0 : Int32} {s : St} {t : Int32 × St} (h : f_X5_readLine_J17 v1 k0 s = some t) (hk : (fun t : Int32 × St => Rt X Γ r0 (some (Value.int t.1), t.2)) t) : Zw X Γ 4 r0 s 17 [(0, .ref (gL Γ (33))), (1, .ref (gL Γ (v1)))] [.int k0] := by
  unfold f_X5_readLine_J17 at h
  refine z_istore_n hX (lv2 := [(2, .int k0), (0, .ref (gL Γ (33))), (1, .ref (gL Γ (v1)))]) dX5_readLine_17 (by decide) rfl 18 rfl ?_
  refine z_iload_n hX dX5_readLine_18 0 rfl 19 rfl ?_
  by_cases c4 : k0 = (nI 4)
  · replace h := br_pos h c4
    refine z_tcase hX (off := 35) 54 dX5_readLine_19 (nI 4) c4 (by decide) (by decide) ?_
    refine z_aload_n hX dX5_readLine_54 1 rfl 55 rfl ?_
    refine z_aload_n hX dX5_readLine_55 2 rfl 56 rfl ?_
    replace h := cl_elim h
    obtain ⟨x6, s5, hx6, h⟩ := h
    refine z_cV5i hX (b := 33) (As := [.ref (gL Γ (v1))]) (c_X5_readSitter hx6) lk_X5_62 rfl kdc_33 ds_X5_readSitter rfl (by decide) (by decide) (by decide) dX5_readLine_56 rfl 59 rfl ?_
    refine z_istore_n hX (lv2 := [(3, .int x6), (2, .int k0), (0, .ref (gL Γ (33))), (1, .ref (gL Γ (v1)))]) dX5_readLine_59 (by decide) rfl 60 rfl ?_
    refine z_goto hX 100 dX5_readLine_60 (by decide) ?_
    exact z_sub [2, 0] rfl (e_X5_readLine_J100 hX h hk)
  replace h := br_neg h c4
  by_cases c7 : k0 = (nI 5)
  · replace h := br_pos h c7
    refine z_tcase hX (off := 44) 63 dX5_readLine_19 (nI 5) c7 (by decide) (by decide) ?_
    refine z_aload_n hX dX5_readLine_63 1 rfl 64 rfl ?_
    refine z_aload_n hX dX5_readLine_64 2 rfl 65 rfl ?_
    replace h := gd_elim h
    obtain ⟨g8, h⟩ := h
    refine z_get2 hX (k := v1) (j := 13) (v := .ref (gL Γ (v1 + 11))) g8 (by decide) rfl dX5_readLine_65 fl_X5_65 68 rfl ?_
    refine z_iconst hX (v := (nI 0)) dX5_readLine_68 rfl 69 rfl ?_
    refine z_iconst hX (v := (nI 4)) dX5_readLine_69 rfl 70 rfl ?_
    replace h := cl_elim h
    obtain ⟨x10, s9, hx10, h⟩ := h
    refine z_cV5i hX (b := 33) (As := [.ref (gL Γ (v1 + 11)), .int ((nI 0)), .int ((nI 4))]) (c_X5_readOnce hx10) lk_X5_69 rfl kdc_33 ds_X5_readOnce rfl (by decide) (by decide) (by decide) dX5_readLine_70 rfl 73 rfl ?_
    refine z_istore_n hX (lv2 := [(3, .int x10), (2, .int k0), (0, .ref (gL Γ (33))), (1, .ref (gL Γ (v1)))]) dX5_readLine_73 (by decide) rfl 74 rfl ?_
    refine z_goto hX 100 dX5_readLine_74 (by decide) ?_
    exact z_sub [2, 0] rfl (e_X5_readLine_J100 hX h hk)
  replace h := br_neg h c7
  by_cases c11 : k0 = (nI 6)
  · replace h := br_pos h c11
    refine z_tcase hX (off := 58) 77 dX5_readLine_19 (nI 6) c11 (by decide) (by decide) ?_
    refine z_aload_n hX dX5_readLine_77 1 rfl 78 rfl ?_
    refine z_aload_n hX dX5_readLine_78 2 rfl 79 rfl ?_
    replace h := gd_elim h
    obtain ⟨g12, h⟩ := h
    refine z_get2 hX (k := v1) (j := 14) (v := .ref (gL Γ (v1 + 12))) g12 (by decide) rfl dX5_readLine_79 fl_X5_73 82 rfl ?_
    refine z_bipush hX (v := (nI 6)) dX5_readLine_82 (by decide) 84 rfl ?_
    refine z_bipush hX (v := (nI 9)) dX5_readLine_84 (by decide) 86 rfl ?_
    replace h := cl_elim h
    obtain ⟨x14, s13, hx14, h⟩ := h
    refine z_cV5i hX (b := 33) (As := [.ref (gL Γ (v1 + 12)), .int ((nI 6)), .int ((nI 9))]) (c_X5_readOnce hx14) lk_X5_69 rfl kdc_33 ds_X5_readOnce rfl (by decide) (by decide) (by decide) dX5_readLine_86 rfl 89 rfl ?_
    refine z_istore_n hX (lv2 := [(3, .int x14), (2, .int k0), (0, .ref (gL Γ (33))), (1, .ref (gL Γ (v1)))]) dX5_readLine_89 (by decide) rfl 90 rfl ?_
    refine z_goto hX 100 dX5_readLine_90 (by decide) ?_
    exact z_sub [2, 0] rfl (e_X5_readLine_J100 hX h hk)
  replace h := br_neg h c11
  by_cases c15 : k0 = (nI 7)
  · replace h := br_pos h c15
    refine z_tcase hX (off := 29) 48 dX5_readLine_19 (nI 7) c15 (by decide) (by decide) ?_
    refine z_aload_n hX dX5_readLine_48 1 rfl 49 rfl ?_
    refine z_iconst hX (v := (nI 2)) dX5_readLine_49 rfl 50 rfl ?_
    replace h := cl_elim h
    obtain ⟨x17, s16, hx17, h⟩ := h
    refine z_cV5i hX (b := 33) (As := [.int ((nI 2))]) (c_X5_refuse hx17) lk_X5_54 rfl kdc_33 ds_X5_refuse rfl (by decide) (by decide) (by decide) dX5_readLine_50 rfl 53 rfl ?_
    replace h := gd_elim h
    obtain ⟨g18, h⟩ := h
    replace h := Option.some.inj h
    subst h
    exact z_zret hX dX5_readLine_53 rfl g18 hk
  replace h := br_neg h c15
  replace h := gd_elim h
  obtain ⟨g19, h⟩ := h
  refine z_tdef hX 93 dX5_readLine_19 g19 (by decide) ?_
  refine z_aload_n hX dX5_readLine_93 1 rfl 94 rfl ?_
  refine z_aload_n hX dX5_readLine_94 2 rfl 95 rfl ?_
  refine z_iload_n hX dX5_readLine_95 0 rfl 96 rfl ?_
  replace h := cl_elim h
  obtain ⟨x21, s20, hx21, h⟩ := h
  refine z_cV5i hX (b := 33) (As := [.ref (gL Γ (v1)), .int k0]) (c_X5_readLife hx21) lk_X5_76 rfl kdc_33 ds_X5_readLife rfl (by decide) (by decide) (by decide) dX5_readLine_96 rfl 99 rfl ?_
  refine z_istore_n hX (lv2 := [(3, .int x21), (2, .int k0), (0, .ref (gL Γ (33))), (1, .ref (gL Γ (v1)))]) dX5_readLine_99 (by decide) rfl 100 rfl ?_
  exact z_sub [2, 0] rfl (e_X5_readLine_J100 hX h hk)
set_option maxHeartbeats 4000000 in
set_option maxRecDepth 100000 in
theorem e_X5_readLine {X : Cx} {Γ : Gm} {r0 : Rb} (hX : Amb X Γ cX5_readLine RX5 4 (some .boolean) 6) {a1 : Nat} {s : St} {t : Int32 × St} (h : f_X5_readLine a1 s = some t) (hk : (fun t : Int32 × St => Rt X Γ r0 (some (Value.int t.1), t.2)) t) : Zw X Γ 4 r0 s 0 [(0, .ref (gL Γ (33))), (1, .ref (gL Γ (a1)))] [] := by
  unfold f_X5_readLine at h
  refine z_aload_n hX dX5_readLine_0 0 rfl 1 rfl ?_
  refine z_get5 hX (k := 33) (j := 5) (v := .int ((s.1 33 5))) kdc_33 (by decide) rfl dX5_readLine_1 fl_X5_28 4 rfl ?_
  refine z_iconst hX (v := (nI 1)) dX5_readLine_4 rfl 5 rfl ?_
  refine z_icmp_ne hX 15 dX5_readLine_5 (by decide) 8 rfl (fun c1 => ?_) (fun c1 => ?_)
  · replace h := br_pos h c1
    refine z_bipush hX (v := (nI 7)) dX5_readLine_15 (by decide) 17 rfl ?_
    exact z_sub [0, 1] rfl (e_X5_readLine_J17 hX h hk)
  · replace h := br_neg h c1
    refine z_aload_n hX dX5_readLine_8 0 rfl 9 rfl ?_
    replace h := cl_elim h
    obtain ⟨x3, s2, hx3, h⟩ := h
    refine z_cV5i hX (b := 33) (As := []) (c_X5_wordRead hx3) lk_X5_58 rfl kdc_33 ds_X5_wordRead rfl (by decide) (by decide) (by decide) dX5_readLine_9 rfl 12 rfl ?_
    refine z_goto hX 17 dX5_readLine_12 (by decide) ?_
    exact z_sub [0, 1] rfl (e_X5_readLine_J17 hX h hk)
theorem c_X5_readLine {lc : Launch} {Γ : Gm} {a1 : Nat} {s s2 : St} {v : Int32} (h : f_X5_readLine a1 s = some (v, s2)) : Ct lc Γ yX5_readLine cX5_readLine 4 (some .boolean) 6 [.ref (gL Γ (33)), .ref (gL Γ (a1))] s (some (.int v), s2) := Ct.of (by decide +kernel) (Nat.le_of_ble_eq_true rfl) (fun X hl hX => e_X5_readLine hX h rfl)
theorem dX5_tell_0 : decode cX5_tell 0 = .ok (.aload_n 1, 1) := by decide +kernel
theorem dX5_tell_1 : decode cX5_tell 1 = .ok (.invokevirtual 37, 3) := by decide +kernel
theorem dX5_tell_4 : decode cX5_tell 4 = .ok (.aload_n 0, 1) := by decide +kernel
theorem dX5_tell_5 : decode cX5_tell 5 = .ok (.iconst 0, 1) := by decide +kernel
theorem dX5_tell_6 : decode cX5_tell 6 = .ok (.putfield 19, 3) := by decide +kernel
theorem dX5_tell_9 : decode cX5_tell 9 = .ok (.aload_n 0, 1) := by decide +kernel
theorem dX5_tell_10 : decode cX5_tell 10 = .ok (.iconst 0, 1) := by decide +kernel
theorem dX5_tell_11 : decode cX5_tell 11 = .ok (.putfield 25, 3) := by decide +kernel
theorem dX5_tell_14 : decode cX5_tell 14 = .ok (.aload_n 0, 1) := by decide +kernel
theorem dX5_tell_15 : decode cX5_tell 15 = .ok (.iconst 0, 1) := by decide +kernel
theorem dX5_tell_16 : decode cX5_tell 16 = .ok (.putfield 34, 3) := by decide +kernel
theorem dX5_tell_19 : decode cX5_tell 19 = .ok (.iconst 0, 1) := by decide +kernel
theorem dX5_tell_20 : decode cX5_tell 20 = .ok (.istore_n 2, 1) := by decide +kernel
theorem dX5_tell_21 : decode cX5_tell 21 = .ok (.iload_n 2, 1) := by decide +kernel
theorem dX5_tell_22 : decode cX5_tell 22 = .ok (.sipush 160, 3) := by decide +kernel
theorem dX5_tell_25 : decode cX5_tell 25 = .ok (.if_icmp .gt 31, 3) := by decide +kernel
theorem dX5_tell_28 : decode cX5_tell 28 = .ok (.aload_n 0, 1) := by decide +kernel
theorem dX5_tell_29 : decode cX5_tell 29 = .ok (.invokevirtual 42, 3) := by decide +kernel
theorem dX5_tell_32 : decode cX5_tell 32 = .ok (.ifCond .eq 24, 3) := by decide +kernel
theorem dX5_tell_35 : decode cX5_tell 35 = .ok (.aload_n 0, 1) := by decide +kernel
theorem dX5_tell_36 : decode cX5_tell 36 = .ok (.getfield 28, 3) := by decide +kernel
theorem dX5_tell_39 : decode cX5_tell 39 = .ok (.ifCond .eq 17, 3) := by decide +kernel
theorem dX5_tell_42 : decode cX5_tell 42 = .ok (.aload_n 0, 1) := by decide +kernel
theorem dX5_tell_43 : decode cX5_tell 43 = .ok (.aload_n 1, 1) := by decide +kernel
theorem dX5_tell_44 : decode cX5_tell 44 = .ok (.invokevirtual 46, 3) := by decide +kernel
theorem dX5_tell_47 : decode cX5_tell 47 = .ok (.ifCond .eq 9, 3) := by decide +kernel
theorem dX5_tell_50 : decode cX5_tell 50 = .ok (.iinc 2 1, 3) := by decide +kernel
theorem dX5_tell_53 : decode cX5_tell 53 = .ok (.goto (-32), 3) := by decide +kernel
theorem dX5_tell_56 : decode cX5_tell 56 = .ok (.iload_n 2, 1) := by decide +kernel
theorem dX5_tell_57 : decode cX5_tell 57 = .ok (.ireturn, 1) := by decide +kernel
def f_X5_tell_L21 (v1 : Nat) (v2 : Int32) (s : St) : Option ((Int32 × St) ⊕ (Int32 × St)) := if (nI 160) < v2 then (some (Sum.inr ((v2, s)))) else (cl (f_X5_readToken s) (fun x9 s8 => if x9 = 0 then (some (Sum.inr ((v2, s8)))) else (if (s8.1 33 5) = 0 then (some (Sum.inr ((v2, s8)))) else (cl (f_X5_readLine v1 s8) (fun x13 s12 => if x13 = 0 then (some (Sum.inr ((v2, s12)))) else (some (Sum.inl ((v2 + (nI 1)), s12))))))))
def f_X5_tell (a1 : Nat) (s : St) : Option (Int32 × St) := if kd (a1) = 2 then cl (f_X2_clear a1 s) (fun x2 s1 => bd (wI s1 33 2 (nI 0)) (fun s4 => bd (wI s4 33 4 (nI 0)) (fun s5 => bd (wI s5 33 7 (nI 0)) (fun s6 => lp (fun q : Int32 × St => f_X5_tell_L21 a1 q.1 q.2) Fu ((nI 0), s6))))) else none
set_option maxHeartbeats 4000000 in
set_option maxRecDepth 100000 in
theorem e_X5_tell_L21 {X : Cx} {Γ : Gm} {r0 : Rb} (hX : Amb X Γ cX5_tell RX5 3 (some .int) 7) {v1 : Nat} {v2 : Int32} {s : St} {t : (Int32 × St) ⊕ (Int32 × St)} (h : f_X5_tell_L21 v1 v2 s = some t) (hk : (Sum.elim (fun q : Int32 × St => Zw X Γ 3 r0 q.2 21 [(0, .ref (gL Γ (33))), (1, .ref (gL Γ (v1))), (2, .int q.1)] []) (fun t : Int32 × St => Rt X Γ r0 (some (Value.int t.1), t.2))) t) : Zw X Γ 3 r0 s 21 [(0, .ref (gL Γ (33))), (1, .ref (gL Γ (v1))), (2, .int v2)] [] := by
  unfold f_X5_tell_L21 at h
  refine z_iload_n hX dX5_tell_21 2 rfl 22 rfl ?_
  refine z_sipush hX (v := (nI 160)) dX5_tell_22 (by decide) 25 rfl ?_
  refine z_icmp_gt hX 56 dX5_tell_25 (by decide) 28 rfl (fun c7 => ?_) (fun c7 => ?_)
  · replace h := br_pos h c7
    refine z_iload_n hX dX5_tell_56 2 rfl 57 rfl ?_
    replace h := Option.some.inj h
    subst h
    exact z_iret hX dX5_tell_57 rfl hk
  · replace h := br_neg h c7
    refine z_aload_n hX dX5_tell_28 0 rfl 29 rfl ?_
    replace h := cl_elim h
    obtain ⟨x9, s8, hx9, h⟩ := h
    refine z_cV5i hX (b := 33) (As := []) (c_X5_readToken hx9) lk_X5_42 rfl kdc_33 ds_X5_readToken rfl (by decide) (by decide) (by decide) dX5_tell_29 rfl 32 rfl ?_
    refine z_if_eq hX 56 dX5_tell_32 (by decide) 35 rfl (fun c10 => ?_) (fun c10 => ?_)
    · replace h := br_pos h c10
      refine z_iload_n hX dX5_tell_56 2 rfl 57 rfl ?_
      replace h := Option.some.inj h
      subst h
      exact z_iret hX dX5_tell_57 rfl hk
    · replace h := br_neg h c10
      refine z_aload_n hX dX5_tell_35 0 rfl 36 rfl ?_
      refine z_get5 hX (k := 33) (j := 5) (v := .int ((s8.1 33 5))) kdc_33 (by decide) rfl dX5_tell_36 fl_X5_28 39 rfl ?_
      refine z_if_eq hX 56 dX5_tell_39 (by decide) 42 rfl (fun c11 => ?_) (fun c11 => ?_)
      · replace h := br_pos h c11
        refine z_iload_n hX dX5_tell_56 2 rfl 57 rfl ?_
        replace h := Option.some.inj h
        subst h
        exact z_iret hX dX5_tell_57 rfl hk
      · replace h := br_neg h c11
        refine z_aload_n hX dX5_tell_42 0 rfl 43 rfl ?_
        refine z_aload_n hX dX5_tell_43 1 rfl 44 rfl ?_
        replace h := cl_elim h
        obtain ⟨x13, s12, hx13, h⟩ := h
        refine z_cV5i hX (b := 33) (As := [.ref (gL Γ (v1))]) (c_X5_readLine hx13) lk_X5_46 rfl kdc_33 ds_X5_readLine rfl (by decide) (by decide) (by decide) dX5_tell_44 rfl 47 rfl ?_
        refine z_if_eq hX 56 dX5_tell_47 (by decide) 50 rfl (fun c14 => ?_) (fun c14 => ?_)
        · replace h := br_pos h c14
          refine z_iload_n hX dX5_tell_56 2 rfl 57 rfl ?_
          replace h := Option.some.inj h
          subst h
          exact z_iret hX dX5_tell_57 rfl hk
        · replace h := br_neg h c14
          refine z_iinc hX (v := (v2 + (nI 1))) (lv2 := [(2, .int ((v2 + (nI 1)))), (0, .ref (gL Γ (33))), (1, .ref (gL Γ (v1)))]) dX5_tell_50 2 rfl rfl (by decide) rfl 53 rfl ?_
          refine z_goto hX 21 dX5_tell_53 (by decide) ?_
          replace h := Option.some.inj h
          subst h
          exact z_sub [1, 2, 0] rfl hk
set_option maxHeartbeats 4000000 in
set_option maxRecDepth 100000 in
theorem e_X5_tell {X : Cx} {Γ : Gm} {r0 : Rb} (hX : Amb X Γ cX5_tell RX5 3 (some .int) 7) {a1 : Nat} {s : St} {t : Int32 × St} (h : f_X5_tell a1 s = some t) (hk : (fun t : Int32 × St => Rt X Γ r0 (some (Value.int t.1), t.2)) t) : Zw X Γ 3 r0 s 0 [(0, .ref (gL Γ (33))), (1, .ref (gL Γ (a1)))] [] := by
  unfold f_X5_tell at h
  refine z_aload_n hX dX5_tell_0 1 rfl 1 rfl ?_
  replace h := gd_elim h
  obtain ⟨g3, h⟩ := h
  replace h := cl_elim h
  obtain ⟨x2, s1, hx2, h⟩ := h
  refine z_cV2v hX (b := a1) (As := []) (c_X2_clear hx2) lk_X5_37 rfl g3 ds_X2_clear rfl (by decide) (by decide) (by decide) dX5_tell_1 rfl 4 rfl ?_
  refine z_aload_n hX dX5_tell_4 0 rfl 5 rfl ?_
  refine z_iconst hX (v := (nI 0)) dX5_tell_5 rfl 6 rfl ?_
  replace h := bd_elim h
  obtain ⟨s4, es4, h⟩ := h
  refine z_putI5 hX (k := 33) (j := 2) kdc_33 (by decide) rfl (by decide +kernel) (pwI_5_2 ..) dX5_tell_6 fl_X5_19 es4 9 rfl ?_
  refine z_aload_n hX dX5_tell_9 0 rfl 10 rfl ?_
  refine z_iconst hX (v := (nI 0)) dX5_tell_10 rfl 11 rfl ?_
  replace h := bd_elim h
  obtain ⟨s5, es5, h⟩ := h
  refine z_putI5 hX (k := 33) (j := 4) kdc_33 (by decide) rfl (by decide +kernel) (pwI_5_4 ..) dX5_tell_11 fl_X5_25 es5 14 rfl ?_
  refine z_aload_n hX dX5_tell_14 0 rfl 15 rfl ?_
  refine z_iconst hX (v := (nI 0)) dX5_tell_15 rfl 16 rfl ?_
  replace h := bd_elim h
  obtain ⟨s6, es6, h⟩ := h
  refine z_putI5 hX (k := 33) (j := 7) kdc_33 (by decide) rfl (by decide +kernel) (pwI_5_7 ..) dX5_tell_16 fl_X5_34 es6 19 rfl ?_
  refine z_iconst hX (v := (nI 0)) dX5_tell_19 rfl 20 rfl ?_
  refine z_istore_n hX (lv2 := [(2, .int ((nI 0))), (0, .ref (gL Γ (33))), (1, .ref (gL Γ (a1)))]) dX5_tell_20 (by decide) rfl 21 rfl ?_
  exact z_sub [1, 2, 0] rfl (lp_ok (Z := fun q : Int32 × St => Zw X Γ 3 r0 q.2 21 [(0, .ref (gL Γ (33))), (1, .ref (gL Γ (a1))), (2, .int q.1)] []) (fun q t h hk => e_X5_tell_L21 hX h hk) Fu _ _ h hk)
theorem c_X5_tell {lc : Launch} {Γ : Gm} {a1 : Nat} {s s2 : St} {v : Int32} (h : f_X5_tell a1 s = some (v, s2)) : Ct lc Γ yX5_tell cX5_tell 3 (some .int) 7 [.ref (gL Γ (33)), .ref (gL Γ (a1))] s (some (.int v), s2) := Ct.of (by decide +kernel) (Nat.le_of_ble_eq_true rfl) (fun X hl hX => e_X5_tell hX h rfl)

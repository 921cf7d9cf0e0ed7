theorem fl_X6_35 : Cond.fieldLink RX6 35 (TX6 4).1 (TX6 4).2.1 (TX6 4).2.2.1 ∈ gt := gt_mem (tm2 (List.mem_of_getElem? (i := 1) rfl)) rfl
theorem ds_X5_put : Ds yX5_put 1 := ⟨by decide +kernel, by decide +kernel, by decide +kernel⟩
theorem lk_X6_66 : LkV RX6 66 yX5_put cX5_put 2 (some .boolean) := ⟨gt_mem (tm2 (List.mem_of_getElem? (i := 32) rfl)) rfl, gt_mem (tm2 (List.mem_of_getElem? (i := 33) rfl)) rfl, gt_mem (tm2 (List.mem_of_getElem? (i := 34) rfl)) rfl, gt_mem (tm1 (List.mem_of_getElem? (i := 4) rfl)) rfl, gt_mem (tm2 (List.mem_of_getElem? (i := 35) rfl)) rfl⟩
theorem fl_X6_70 : Cond.fieldLink RX6 70 (TX5 1).1 (TX5 1).2.1 (TX5 1).2.2.1 ∈ gt := gt_mem (tm1 (List.mem_of_getElem? (i := 135) rfl)) rfl
theorem fl_X6_16 : Cond.fieldLink RX6 16 (TX6 1).1 (TX6 1).2.1 (TX6 1).2.2.1 ∈ gt := gt_mem (tm1 (List.mem_of_getElem? (i := 238) rfl)) rfl
theorem ds_X5_tell : Ds yX5_tell 1 := ⟨by decide +kernel, by decide +kernel, by decide +kernel⟩
theorem lk_X6_73 : LkV RX6 73 yX5_tell cX5_tell 3 (some .int) := ⟨gt_mem (tm2 (List.mem_of_getElem? (i := 44) rfl)) rfl, gt_mem (tm2 (List.mem_of_getElem? (i := 45) rfl)) rfl, gt_mem (tm2 (List.mem_of_getElem? (i := 46) rfl)) rfl, gt_mem (tm1 (List.mem_of_getElem? (i := 4) rfl)) rfl, gt_mem (tm2 (List.mem_of_getElem? (i := 47) rfl)) rfl⟩
theorem fl_X6_77 : Cond.fieldLink RX6 77 (TX5 2).1 (TX5 2).2.1 (TX5 2).2.2.1 ∈ gt := gt_mem (tm1 (List.mem_of_getElem? (i := 137) rfl)) rfl
theorem fl_X6_10 : Cond.fieldLink RX6 10 (TX6 0).1 (TX6 0).2.1 (TX6 0).2.2.1 ∈ gt := gt_mem (tm1 (List.mem_of_getElem? (i := 237) rfl)) rfl
theorem lk_X6_83 : LkV RX6 83 yX2_copyOf cX2_copyOf 2 none := ⟨gt_mem (tm2 (List.mem_of_getElem? (i := 161) rfl)) rfl, gt_mem (tm2 (List.mem_of_getElem? (i := 162) rfl)) rfl, gt_mem (tm2 (List.mem_of_getElem? (i := 163) rfl)) rfl, gt_mem (tm1 (List.mem_of_getElem? (i := 2) rfl)) rfl, gt_mem (tm2 (List.mem_of_getElem? (i := 164) rfl)) rfl⟩
theorem fl_X6_22 : Cond.fieldLink RX6 22 (TX6 2).1 (TX6 2).2.1 (TX6 2).2.2.1 ∈ gt := gt_mem (tm1 (List.mem_of_getElem? (i := 239) rfl)) rfl
theorem fl_X6_87 : Cond.fieldLink RX6 87 (TX3 0).1 (TX3 0).2.1 (TX3 0).2.2.1 ∈ gt := gt_mem (tm1 (List.mem_of_getElem? (i := 109) rfl)) rfl
theorem fl_X6_80 : Cond.fieldLink RX6 80 (TX5 3).1 (TX5 3).2.1 (TX5 3).2.2.1 ∈ gt := gt_mem (tm1 (List.mem_of_getElem? (i := 139) rfl)) rfl
theorem fl_X6_28 : Cond.fieldLink RX6 28 (TX6 3).1 (TX6 3).2.1 (TX6 3).2.2.1 ∈ gt := gt_mem (tm2 (List.mem_of_getElem? (i := 0) rfl)) rfl
theorem fl_X6_90 : Cond.fieldLink RX6 90 (TX0 0).1 (TX0 0).2.1 (TX0 0).2.2.1 ∈ gt := gt_mem (tm1 (List.mem_of_getElem? (i := 207) rfl)) rfl
theorem fl_X6_94 : Cond.fieldLink RX6 94 (TX2 0).1 (TX2 0).2.1 (TX2 0).2.2.1 ∈ gt := gt_mem (tm1 (List.mem_of_getElem? (i := 31) rfl)) rfl
theorem fl_X6_97 : Cond.fieldLink RX6 97 (TX2 1).1 (TX2 1).2.1 (TX2 1).2.2.1 ∈ gt := gt_mem (tm1 (List.mem_of_getElem? (i := 34) rfl)) rfl
theorem fl_X6_100 : Cond.fieldLink RX6 100 (TX2 2).1 (TX2 2).2.1 (TX2 2).2.2.1 ∈ gt := gt_mem (tm1 (List.mem_of_getElem? (i := 38) rfl)) rfl
theorem fl_X6_103 : Cond.fieldLink RX6 103 (TX2 8).1 (TX2 8).2.1 (TX2 8).2.2.1 ∈ gt := gt_mem (tm1 (List.mem_of_getElem? (i := 54) rfl)) rfl
theorem lk_X6_106 : LkV RX6 106 yX2_sumOfLives cX2_sumOfLives 4 (some .int) := ⟨gt_mem (tm2 (List.mem_of_getElem? (i := 176) rfl)) rfl, gt_mem (tm2 (List.mem_of_getElem? (i := 177) rfl)) rfl, gt_mem (tm2 (List.mem_of_getElem? (i := 178) rfl)) rfl, gt_mem (tm1 (List.mem_of_getElem? (i := 2) rfl)) rfl, gt_mem (tm2 (List.mem_of_getElem? (i := 179) rfl)) rfl⟩
theorem fl_X6_110 : Cond.fieldLink RX6 110 (TX2 7).1 (TX2 7).2.1 (TX2 7).2.2.1 ∈ gt := gt_mem (tm1 (List.mem_of_getElem? (i := 52) rfl)) rfl
theorem ds_X2_heldByAll : Ds yX2_heldByAll 0 := ⟨by decide +kernel, by decide +kernel, by decide +kernel⟩
theorem lk_X6_113 : LkV RX6 113 yX2_heldByAll cX2_heldByAll 3 (some .int) := ⟨gt_mem (tm2 (List.mem_of_getElem? (i := 180) rfl)) rfl, gt_mem (tm2 (List.mem_of_getElem? (i := 181) rfl)) rfl, gt_mem (tm2 (List.mem_of_getElem? (i := 182) rfl)) rfl, gt_mem (tm1 (List.mem_of_getElem? (i := 2) rfl)) rfl, gt_mem (tm2 (List.mem_of_getElem? (i := 183) rfl)) rfl⟩
theorem ds_X2_isLife : Ds yX2_isLife 1 := ⟨by decide +kernel, by decide +kernel, by decide +kernel⟩
theorem lk_X6_117 : LkV RX6 117 yX2_isLife cX2_isLife 2 (some .boolean) := ⟨gt_mem (tm2 (List.mem_of_getElem? (i := 196) rfl)) rfl, gt_mem (tm2 (List.mem_of_getElem? (i := 197) rfl)) rfl, gt_mem (tm2 (List.mem_of_getElem? (i := 198) rfl)) rfl, gt_mem (tm1 (List.mem_of_getElem? (i := 2) rfl)) rfl, gt_mem (tm2 (List.mem_of_getElem? (i := 199) rfl)) rfl⟩
theorem fl_X6_120 : Cond.fieldLink RX6 120 (TX2 3).1 (TX2 3).2.1 (TX2 3).2.2.1 ∈ gt := gt_mem (tm1 (List.mem_of_getElem? (i := 40) rfl)) rfl
theorem fl_X6_123 : Cond.fieldLink RX6 123 (TX2 4).1 (TX2 4).2.1 (TX2 4).2.2.1 ∈ gt := gt_mem (tm1 (List.mem_of_getElem? (i := 43) rfl)) rfl
theorem ds_X6_nameOf : Ds yX6_nameOf 1 := ⟨by decide +kernel, by decide +kernel, by decide +kernel⟩
theorem lk_X6_126 : LkS RX6 126 yX6_nameOf cX6_nameOf 1 (some .int) := ⟨gt_mem (tm2 (List.mem_of_getElem? (i := 200) rfl)) rfl, gt_mem (tm2 (List.mem_of_getElem? (i := 201) rfl)) rfl, gt_mem (tm1 (List.mem_of_getElem? (i := 1) rfl)) rfl, gt_mem (tm2 (List.mem_of_getElem? (i := 202) rfl)) rfl⟩
theorem fl_X6_130 : Cond.fieldLink RX6 130 (TX2 5).1 (TX2 5).2.1 (TX2 5).2.2.1 ∈ gt := gt_mem (tm1 (List.mem_of_getElem? (i := 46) rfl)) rfl
theorem fl_X6_133 : Cond.fieldLink RX6 133 (TX2 6).1 (TX2 6).2.1 (TX2 6).2.2.1 ∈ gt := gt_mem (tm1 (List.mem_of_getElem? (i := 49) rfl)) rfl
theorem ds_X2_heldOf : Ds yX2_heldOf 1 := ⟨by decide +kernel, by decide +kernel, by decide +kernel⟩
theorem lk_X6_136 : LkV RX6 136 yX2_heldOf cX2_heldOf 4 (some .int) := ⟨gt_mem (tm2 (List.mem_of_getElem? (i := 203) rfl)) rfl, gt_mem (tm2 (List.mem_of_getElem? (i := 204) rfl)) rfl, gt_mem (tm2 (List.mem_of_getElem? (i := 205) rfl)) rfl, gt_mem (tm1 (List.mem_of_getElem? (i := 2) rfl)) rfl, gt_mem (tm2 (List.mem_of_getElem? (i := 206) rfl)) rfl⟩
theorem ds_X2_isSitter : Ds yX2_isSitter 1 := ⟨by decide +kernel, by decide +kernel, by decide +kernel⟩
theorem lk_X6_139 : LkV RX6 139 yX2_isSitter cX2_isSitter 2 (some .boolean) := ⟨gt_mem (tm2 (List.mem_of_getElem? (i := 211) rfl)) rfl, gt_mem (tm2 (List.mem_of_getElem? (i := 212) rfl)) rfl, gt_mem (tm2 (List.mem_of_getElem? (i := 213) rfl)) rfl, gt_mem (tm1 (List.mem_of_getElem? (i := 2) rfl)) rfl, gt_mem (tm2 (List.mem_of_getElem? (i := 214) rfl)) rfl⟩
theorem fl_X6_142 : Cond.fieldLink RX6 142 (TX2 10).1 (TX2 10).2.1 (TX2 10).2.2.1 ∈ gt := gt_mem (tm1 (List.mem_of_getElem? (i := 58) rfl)) rfl
theorem fl_X6_145 : Cond.fieldLink RX6 145 (TX2 11).1 (TX2 11).2.1 (TX2 11).2.2.1 ∈ gt := gt_mem (tm1 (List.mem_of_getElem? (i := 61) rfl)) rfl
theorem lk_X6_148 : LkV RX6 148 yX2_heldBy cX2_heldBy 4 (some .int) := ⟨gt_mem (tm2 (List.mem_of_getElem? (i := 215) rfl)) rfl, gt_mem (tm2 (List.mem_of_getElem? (i := 185) rfl)) rfl, gt_mem (tm2 (List.mem_of_getElem? (i := 186) rfl)) rfl, gt_mem (tm1 (List.mem_of_getElem? (i := 2) rfl)) rfl, gt_mem (tm2 (List.mem_of_getElem? (i := 187) rfl)) rfl⟩
theorem fl_X6_151 : Cond.fieldLink RX6 151 (TX2 14).1 (TX2 14).2.1 (TX2 14).2.2.1 ∈ gt := gt_mem (tm1 (List.mem_of_getElem? (i := 69) rfl)) rfl
theorem lk_X6_154 : LkS RX6 154 yX6_rowOf cX6_rowOf 1 (some .int) := ⟨gt_mem (tm2 (List.mem_of_getElem? (i := 216) rfl)) rfl, gt_mem (tm2 (List.mem_of_getElem? (i := 217) rfl)) rfl, gt_mem (tm1 (List.mem_of_getElem? (i := 1) rfl)) rfl, gt_mem (tm2 (List.mem_of_getElem? (i := 218) rfl)) rfl⟩
theorem lk_X6_157 : LkV RX6 157 yX2_held cX2_held 3 (some .int) := ⟨gt_mem (tm2 (List.mem_of_getElem? (i := 223) rfl)) rfl, gt_mem (tm2 (List.mem_of_getElem? (i := 189) rfl)) rfl, gt_mem (tm2 (List.mem_of_getElem? (i := 190) rfl)) rfl, gt_mem (tm1 (List.mem_of_getElem? (i := 2) rfl)) rfl, gt_mem (tm2 (List.mem_of_getElem? (i := 191) rfl)) rfl⟩
theorem fl_X6_164 : Cond.fieldLink RX6 164 (TX2 9).1 (TX2 9).2.1 (TX2 9).2.2.1 ∈ gt := gt_mem (tm1 (List.mem_of_getElem? (i := 56) rfl)) rfl
theorem fl_X6_167 : Cond.fieldLink RX6 167 (TX2 13).1 (TX2 13).2.1 (TX2 13).2.2.1 ∈ gt := gt_mem (tm1 (List.mem_of_getElem? (i := 66) rfl)) rfl
theorem ds_X6_replace : Ds yX6_replace 3 := ⟨by decide +kernel, by decide +kernel, by decide +kernel⟩
theorem lk_X6_170 : LkS RX6 170 yX6_replace cX6_replace 4 (some .int) := ⟨gt_mem (tm2 (List.mem_of_getElem? (i := 236) rfl)) rfl, gt_mem (tm2 (List.mem_of_getElem? (i := 237) rfl)) rfl, gt_mem (tm1 (List.mem_of_getElem? (i := 1) rfl)) rfl, gt_mem (tm2 (List.mem_of_getElem? (i := 238) rfl)) rfl⟩
theorem lk_X6_174 : LkS RX6 174 yX6_isCell cX6_isCell 1 (some .boolean) := ⟨gt_mem (tm2 (List.mem_of_getElem? (i := 239) rfl)) rfl, gt_mem (tm2 (List.mem_of_getElem? (i := 147) rfl)) rfl, gt_mem (tm1 (List.mem_of_getElem? (i := 1) rfl)) rfl, gt_mem (tm2 (List.mem_of_getElem? (i := 148) rfl)) rfl⟩
theorem ds_X2_loseAll : Ds yX2_loseAll 0 := ⟨by decide +kernel, by decide +kernel, by decide +kernel⟩
theorem lk_X6_177 : LkV RX6 177 yX2_loseAll cX2_loseAll 2 none := ⟨gt_mem (tm3 (List.mem_of_getElem? (i := 16) rfl)) rfl, gt_mem (tm3 (List.mem_of_getElem? (i := 17) rfl)) rfl, gt_mem (tm3 (List.mem_of_getElem? (i := 18) rfl)) rfl, gt_mem (tm1 (List.mem_of_getElem? (i := 2) rfl)) rfl, gt_mem (tm3 (List.mem_of_getElem? (i := 19) rfl)) rfl⟩
theorem ds_X2_goOn : Ds yX2_goOn 1 := ⟨by decide +kernel, by decide +kernel, by decide +kernel⟩
theorem lk_X6_180 : LkV RX6 180 yX2_goOn cX2_goOn 4 (some .int) := ⟨gt_mem (tm3 (List.mem_of_getElem? (i := 24) rfl)) rfl, gt_mem (tm3 (List.mem_of_getElem? (i := 25) rfl)) rfl, gt_mem (tm3 (List.mem_of_getElem? (i := 26) rfl)) rfl, gt_mem (tm1 (List.mem_of_getElem? (i := 2) rfl)) rfl, gt_mem (tm3 (List.mem_of_getElem? (i := 27) rfl)) rfl⟩
theorem ds_X6_firstTaking : Ds yX6_firstTaking 1 := ⟨by decide +kernel, by decide +kernel, by decide +kernel⟩
theorem lk_X6_183 : LkV RX6 183 yX6_firstTaking cX6_firstTaking 3 (some .int) := ⟨gt_mem (tm3 (List.mem_of_getElem? (i := 70) rfl)) rfl, gt_mem (tm3 (List.mem_of_getElem? (i := 72) rfl)) rfl, gt_sel (List.mem_of_getElem? (i := 0) rfl) rfl, gt_mem (tm1 (List.mem_of_getElem? (i := 1) rfl)) rfl, gt_mem (tm3 (List.mem_of_getElem? (i := 73) rfl)) rfl⟩
theorem lk_X6_186 : LkV RX6 186 yX2_isOver cX2_isOver 1 (some .boolean) := ⟨gt_mem (tm3 (List.mem_of_getElem? (i := 86) rfl)) rfl, gt_mem (tm3 (List.mem_of_getElem? (i := 29) rfl)) rfl, gt_mem (tm3 (List.mem_of_getElem? (i := 30) rfl)) rfl, gt_mem (tm1 (List.mem_of_getElem? (i := 2) rfl)) rfl, gt_mem (tm3 (List.mem_of_getElem? (i := 31) rfl)) rfl⟩
theorem ds_X6_sitThere : Ds yX6_sitThere 3 := ⟨by decide +kernel, by decide +kernel, by decide +kernel⟩
theorem lk_X6_190 : LkV RX6 190 yX6_sitThere cX6_sitThere 4 none := ⟨gt_mem (tm3 (List.mem_of_getElem? (i := 91) rfl)) rfl, gt_mem (tm3 (List.mem_of_getElem? (i := 93) rfl)) rfl, gt_sel (List.mem_of_getElem? (i := 1) rfl) rfl, gt_mem (tm1 (List.mem_of_getElem? (i := 1) rfl)) rfl, gt_mem (tm3 (List.mem_of_getElem? (i := 94) rfl)) rfl⟩
theorem ds_X6_isEnoughThere : Ds yX6_isEnoughThere 4 := ⟨by decide +kernel, by decide +kernel, by decide +kernel⟩
theorem lk_X6_194 : LkV RX6 194 yX6_isEnoughThere cX6_isEnoughThere 5 (some .boolean) := ⟨gt_mem (tm3 (List.mem_of_getElem? (i := 99) rfl)) rfl, gt_mem (tm3 (List.mem_of_getElem? (i := 101) rfl)) rfl, gt_sel (List.mem_of_getElem? (i := 2) rfl) rfl, gt_mem (tm1 (List.mem_of_getElem? (i := 1) rfl)) rfl, gt_mem (tm3 (List.mem_of_getElem? (i := 102) rfl)) rfl⟩
theorem kdc_0 : kd 0 = 6 := by decide +kernel
theorem kdc_1 : kd 1 = 2 := by decide +kernel
theorem kdc_27 : kd 27 = 3 := by decide +kernel
theorem kdc_32 : kd 32 = 11 := by decide +kernel
theorem kdc_14 : kd 14 = 2 := by decide +kernel
theorem pwI_0_0 (Γ : Gm) (k : Nat) (f : Nat → Int32) (g : Nat → Int64) (x : Int32) : (flds Γ 0 k f g).set 0 (.int x) = flds Γ 0 k (upd f 0 x) g := by simp [flds, entK, upd]
theorem dX6_feed_0 : decode cX6_feed 0 = .ok (.iload_n 1, 1) := by decide +kernel
theorem dX6_feed_1 : decode cX6_feed 1 = .ok (.iconst 0, 1) := by decide +kernel
theorem dX6_feed_2 : decode cX6_feed 2 = .ok (.bipush 127, 2) := by decide +kernel
theorem dX6_feed_4 : decode cX6_feed 4 = .ok (.invokestatic 62, 3) := by decide +kernel
theorem dX6_feed_7 : decode cX6_feed 7 = .ok (.ifCond .ne 5, 3) := by decide +kernel
theorem dX6_feed_10 : decode cX6_feed 10 = .ok (.iconst (-1), 1) := by decide +kernel
theorem dX6_feed_11 : decode cX6_feed 11 = .ok (.ireturn, 1) := by decide +kernel
theorem dX6_feed_12 : decode cX6_feed 12 = .ok (.aload_n 0, 1) := by decide +kernel
theorem dX6_feed_13 : decode cX6_feed 13 = .ok (.getfield 35, 3) := by decide +kernel
theorem dX6_feed_16 : decode cX6_feed 16 = .ok (.iload_n 1, 1) := by decide +kernel
theorem dX6_feed_17 : decode cX6_feed 17 = .ok (.invokevirtual 66, 3) := by decide +kernel
theorem dX6_feed_20 : decode cX6_feed 20 = .ok (.ifCond .eq 13, 3) := by decide +kernel
theorem dX6_feed_23 : decode cX6_feed 23 = .ok (.aload_n 0, 1) := by decide +kernel
theorem dX6_feed_24 : decode cX6_feed 24 = .ok (.getfield 35, 3) := by decide +kernel
theorem dX6_feed_27 : decode cX6_feed 27 = .ok (.getfield 70, 3) := by decide +kernel
theorem dX6_feed_30 : decode cX6_feed 30 = .ok (.goto 5, 3) := by decide +kernel
theorem dX6_feed_33 : decode cX6_feed 33 = .ok (.bipush (-3), 2) := by decide +kernel
theorem dX6_feed_35 : decode cX6_feed 35 = .ok (.ireturn, 1) := by decide +kernel
def f_X6_feed (a1 : Int32) (s : St) : Option (Int32 × St) := cl (f_X6_isWithin a1 (nI 0) (nI 127) s) (fun x2 s1 => if ¬ x2 = 0 then (cl (f_X5_put a1 s1) (fun x5 s4 => if x5 = 0 then (some (((-3), s4))) else (some (((s4.1 33 1), s4))))) else (some (((-1), s1))))
set_option maxHeartbeats 4000000 in
set_option maxRecDepth 100000 in
theorem e_X6_feed {X : Cx} {Γ : Gm} {r0 : Rb} (hX : Amb X Γ cX6_feed RX6 2 (some .int) 1) {a1 : Int32} {s : St} {t : Int32 × St} (h : f_X6_feed a1 s = some t) (hk : (fun t : Int32 × St => Rt X Γ r0 (some (Value.int t.1), t.2)) t) : Zw X Γ 2 r0 s 0 [(0, .ref (gL Γ (0))), (1, .int a1)] [] := by
  unfold f_X6_feed at h
  refine z_iload_n hX dX6_feed_0 1 rfl 1 rfl ?_
  refine z_iconst hX (v := (nI 0)) dX6_feed_1 rfl 2 rfl ?_
  refine z_bipush hX (v := (nI 127)) dX6_feed_2 (by decide) 4 rfl ?_
  replace h := cl_elim h
  obtain ⟨x2, s1, hx2, h⟩ := h
  refine z_cSi hX (As := [.int a1, .int ((nI 0)), .int ((nI 127))]) (c_X6_isWithin hx2) lk_X6_62 ds_X6_isWithin rfl (by decide) (by decide) (by decide) dX6_feed_4 rfl 7 rfl ?_
  refine z_if_ne hX 12 dX6_feed_7 (by decide) 10 rfl (fun c3 => ?_) (fun c3 => ?_)
  · replace h := br_pos h c3
    refine z_aload_n hX dX6_feed_12 0 rfl 13 rfl ?_
    refine z_get6 hX (k := 0) (j := 4) (v := .ref (gL Γ (33))) kdc_0 (by decide) rfl dX6_feed_13 fl_X6_35 16 rfl ?_
    refine z_iload_n hX dX6_feed_16 1 rfl 17 rfl ?_
    replace h := cl_elim h
    obtain ⟨x5, s4, hx5, h⟩ := h
    refine z_cV5i hX (b := 33) (As := [.int a1]) (c_X5_put hx5) lk_X6_66 rfl kdc_33 ds_X5_put rfl (by decide) (by decide) (by decide) dX6_feed_17 rfl 20 rfl ?_
    refine z_if_eq hX 33 dX6_feed_20 (by decide) 23 rfl (fun c6 => ?_) (fun c6 => ?_)
    · replace h := br_pos h c6
      refine z_bipush hX (v := (-3)) dX6_feed_33 (by decide) 35 rfl ?_
      replace h := Option.some.inj h
      subst h
      exact z_iret hX dX6_feed_35 rfl hk
    · replace h := br_neg h c6
      refine z_aload_n hX dX6_feed_23 0 rfl 24 rfl ?_
      refine z_get6 hX (k := 0) (j := 4) (v := .ref (gL Γ (33))) kdc_0 (by decide) rfl dX6_feed_24 fl_X6_35 27 rfl ?_
      refine z_get5 hX (k := 33) (j := 1) (v := .int ((s4.1 33 1))) kdc_33 (by decide) rfl dX6_feed_27 fl_X6_70 30 rfl ?_
      refine z_goto hX 35 dX6_feed_30 (by decide) ?_
      replace h := Option.some.inj h
      subst h
      exact z_iret hX dX6_feed_35 rfl hk
  · replace h := br_neg h c3
    refine z_iconst hX (v := (-1)) dX6_feed_10 rfl 11 rfl ?_
    replace h := Option.some.inj h
    subst h
    exact z_iret hX dX6_feed_11 rfl hk
theorem c_X6_feed {lc : Launch} {Γ : Gm} {a1 : Int32} {s s2 : St} {v : Int32} (h : f_X6_feed a1 s = some (v, s2)) : Ct lc Γ yX6_feed cX6_feed 2 (some .int) 1 [.ref (gL Γ (0)), .int a1] s (some (.int v), s2) := Ct.of (by decide +kernel) (Nat.le_of_ble_eq_true rfl) (fun X hl hX => e_X6_feed hX h rfl)
theorem dX6_end_0 : decode cX6_end 0 = .ok (.iload_n 1, 1) := by decide +kernel
theorem dX6_end_1 : decode cX6_end 1 = .ok (.iconst 0, 1) := by decide +kernel
theorem dX6_end_2 : decode cX6_end 2 = .ok (.aload_n 0, 1) := by decide +kernel
theorem dX6_end_3 : decode cX6_end 3 = .ok (.getfield 35, 3) := by decide +kernel
theorem dX6_end_6 : decode cX6_end 6 = .ok (.getfield 70, 3) := by decide +kernel
theorem dX6_end_9 : decode cX6_end 9 = .ok (.invokestatic 62, 3) := by decide +kernel
theorem dX6_end_12 : decode cX6_end 12 = .ok (.ifCond .ne 5, 3) := by decide +kernel
theorem dX6_end_15 : decode cX6_end 15 = .ok (.iconst (-1), 1) := by decide +kernel
theorem dX6_end_16 : decode cX6_end 16 = .ok (.ireturn, 1) := by decide +kernel
theorem dX6_end_17 : decode cX6_end 17 = .ok (.aload_n 0, 1) := by decide +kernel
theorem dX6_end_18 : decode cX6_end 18 = .ok (.getfield 35, 3) := by decide +kernel
theorem dX6_end_21 : decode cX6_end 21 = .ok (.getfield 70, 3) := by decide +kernel
theorem dX6_end_24 : decode cX6_end 24 = .ok (.istore_n 2, 1) := by decide +kernel
theorem dX6_end_25 : decode cX6_end 25 = .ok (.aload_n 0, 1) := by decide +kernel
theorem dX6_end_26 : decode cX6_end 26 = .ok (.getfield 35, 3) := by decide +kernel
theorem dX6_end_29 : decode cX6_end 29 = .ok (.iload_n 1, 1) := by decide +kernel
theorem dX6_end_30 : decode cX6_end 30 = .ok (.putfield 70, 3) := by decide +kernel
theorem dX6_end_33 : decode cX6_end 33 = .ok (.iload_n 2, 1) := by decide +kernel
theorem dX6_end_34 : decode cX6_end 34 = .ok (.ireturn, 1) := by decide +kernel
def f_X6_end (a1 : Int32) (s : St) : Option (Int32 × St) := cl (f_X6_isWithin a1 (nI 0) (s.1 33 1) s) (fun x2 s1 => if ¬ x2 = 0 then (bd (s1.1 33 1) (fun x4 => bd (wI s1 33 1 a1) (fun s5 => some ((x4, s5))))) else (some (((-1), s1))))
set_option maxHeartbeats 4000000 in
set_option maxRecDepth 100000 in
theorem e_X6_end {X : Cx} {Γ : Gm} {r0 : Rb} (hX : Amb X Γ cX6_end RX6 3 (some .int) 1) {a1 : Int32} {s : St} {t : Int32 × St} (h : f_X6_end a1 s = some t) (hk : (fun t : Int32 × St => Rt X Γ r0 (some (Value.int t.1), t.2)) t) : Zw X Γ 3 r0 s 0 [(0, .ref (gL Γ (0))), (1, .int a1)] [] := by
  unfold f_X6_end at h
  refine z_iload_n hX dX6_end_0 1 rfl 1 rfl ?_
  refine z_iconst hX (v := (nI 0)) dX6_end_1 rfl 2 rfl ?_
  refine z_aload_n hX dX6_end_2 0 rfl 3 rfl ?_
  refine z_get6 hX (k := 0) (j := 4) (v := .ref (gL Γ (33))) kdc_0 (by decide) rfl dX6_end_3 fl_X6_35 6 rfl ?_
  refine z_get5 hX (k := 33) (j := 1) (v := .int ((s.1 33 1))) kdc_33 (by decide) rfl dX6_end_6 fl_X6_70 9 rfl ?_
  replace h := cl_elim h
  obtain ⟨x2, s1, hx2, h⟩ := h
  refine z_cSi hX (As := [.int a1, .int ((nI 0)), .int ((s.1 33 1))]) (c_X6_isWithin hx2) lk_X6_62 ds_X6_isWithin rfl (by decide) (by decide) (by decide) dX6_end_9 rfl 12 rfl ?_
  refine z_if_ne hX 17 dX6_end_12 (by decide) 15 rfl (fun c3 => ?_) (fun c3 => ?_)
  · replace h := br_pos h c3
    refine z_aload_n hX dX6_end_17 0 rfl 18 rfl ?_
    refine z_get6 hX (k := 0) (j := 4) (v := .ref (gL Γ (33))) kdc_0 (by decide) rfl dX6_end_18 fl_X6_35 21 rfl ?_
    refine z_get5 hX (k := 33) (j := 1) (v := .int ((s1.1 33 1))) kdc_33 (by decide) rfl dX6_end_21 fl_X6_70 24 rfl ?_
    replace h := bd_elim h
    obtain ⟨x4, ex4, h⟩ := h
    refine z_nm ex4 ?_
    refine z_istore_n hX (lv2 := [(2, .int x4), (0, .ref (gL Γ (0))), (1, .int a1)]) dX6_end_24 (by decide) rfl 25 rfl ?_
    refine z_aload_n hX dX6_end_25 1 rfl 26 rfl ?_
    refine z_get6 hX (k := 0) (j := 4) (v := .ref (gL Γ (33))) kdc_0 (by decide) rfl dX6_end_26 fl_X6_35 29 rfl ?_
    refine z_iload_n hX dX6_end_29 2 rfl 30 rfl ?_
    replace h := bd_elim h
    obtain ⟨s5, es5, h⟩ := h
    refine z_putI5 hX (k := 33) (j := 1) kdc_33 (by decide) rfl (by decide +kernel) (pwI_5_1 ..) dX6_end_30 fl_X6_70 es5 33 rfl ?_
    refine z_iload_n hX dX6_end_33 0 rfl 34 rfl ?_
    replace h := Option.some.inj h
    subst h
    exact z_iret hX dX6_end_34 rfl hk
  · replace h := br_neg h c3
    refine z_iconst hX (v := (-1)) dX6_end_15 rfl 16 rfl ?_
    replace h := Option.some.inj h
    subst h
    exact z_iret hX dX6_end_16 rfl hk
theorem c_X6_end {lc : Launch} {Γ : Gm} {a1 : Int32} {s s2 : St} {v : Int32} (h : f_X6_end a1 s = some (v, s2)) : Ct lc Γ yX6_end cX6_end 3 (some .int) 1 [.ref (gL Γ (0)), .int a1] s (some (.int v), s2) := Ct.of (by decide +kernel) (Nat.le_of_ble_eq_true rfl) (fun X hl hX => e_X6_end hX h rfl)
theorem dX6_text_0 : decode cX6_text 0 = .ok (.aload_n 0, 1) := by decide +kernel
theorem dX6_text_1 : decode cX6_text 1 = .ok (.getfield 35, 3) := by decide +kernel
theorem dX6_text_4 : decode cX6_text 4 = .ok (.aload_n 0, 1) := by decide +kernel
theorem dX6_text_5 : decode cX6_text 5 = .ok (.getfield 16, 3) := by decide +kernel
theorem dX6_text_8 : decode cX6_text 8 = .ok (.invokevirtual 73, 3) := by decide +kernel
theorem dX6_text_11 : decode cX6_text 11 = .ok (.istore_n 1, 1) := by decide +kernel
theorem dX6_text_12 : decode cX6_text 12 = .ok (.aload_n 0, 1) := by decide +kernel
theorem dX6_text_13 : decode cX6_text 13 = .ok (.getfield 35, 3) := by decide +kernel
theorem dX6_text_16 : decode cX6_text 16 = .ok (.iconst 0, 1) := by decide +kernel
theorem dX6_text_17 : decode cX6_text 17 = .ok (.putfield 70, 3) := by decide +kernel
theorem dX6_text_20 : decode cX6_text 20 = .ok (.aload_n 0, 1) := by decide +kernel
theorem dX6_text_21 : decode cX6_text 21 = .ok (.getfield 35, 3) := by decide +kernel
theorem dX6_text_24 : decode cX6_text 24 = .ok (.getfield 77, 3) := by decide +kernel
theorem dX6_text_27 : decode cX6_text 27 = .ok (.ifCond .eq 14, 3) := by decide +kernel
theorem dX6_text_30 : decode cX6_text 30 = .ok (.bipush (-10), 2) := by decide +kernel
theorem dX6_text_32 : decode cX6_text 32 = .ok (.aload_n 0, 1) := by decide +kernel
theorem dX6_text_33 : decode cX6_text 33 = .ok (.getfield 35, 3) := by decide +kernel
theorem dX6_text_36 : decode cX6_text 36 = .ok (.getfield 80, 3) := by decide +kernel
theorem dX6_text_39 : decode cX6_text 39 = .ok (.isub, 1) := by decide +kernel
theorem dX6_text_40 : decode cX6_text 40 = .ok (.ireturn, 1) := by decide +kernel
theorem dX6_text_41 : decode cX6_text 41 = .ok (.aload_n 0, 1) := by decide +kernel
theorem dX6_text_42 : decode cX6_text 42 = .ok (.getfield 10, 3) := by decide +kernel
theorem dX6_text_45 : decode cX6_text 45 = .ok (.aload_n 0, 1) := by decide +kernel
theorem dX6_text_46 : decode cX6_text 46 = .ok (.getfield 16, 3) := by decide +kernel
theorem dX6_text_49 : decode cX6_text 49 = .ok (.invokevirtual 83, 3) := by decide +kernel
theorem dX6_text_52 : decode cX6_text 52 = .ok (.aload_n 0, 1) := by decide +kernel
theorem dX6_text_53 : decode cX6_text 53 = .ok (.getfield 22, 3) := by decide +kernel
theorem dX6_text_56 : decode cX6_text 56 = .ok (.iconst 0, 1) := by decide +kernel
theorem dX6_text_57 : decode cX6_text 57 = .ok (.putfield 87, 3) := by decide +kernel
theorem dX6_text_60 : decode cX6_text 60 = .ok (.iconst 0, 1) := by decide +kernel
theorem dX6_text_61 : decode cX6_text 61 = .ok (.istore_n 2, 1) := by decide +kernel
theorem dX6_text_62 : decode cX6_text 62 = .ok (.iload_n 2, 1) := by decide +kernel
theorem dX6_text_63 : decode cX6_text 63 = .ok (.iconst 2, 1) := by decide +kernel
theorem dX6_text_64 : decode cX6_text 64 = .ok (.if_icmp .ge 19, 3) := by decide +kernel
theorem dX6_text_67 : decode cX6_text 67 = .ok (.aload_n 0, 1) := by decide +kernel
theorem dX6_text_68 : decode cX6_text 68 = .ok (.getfield 28, 3) := by decide +kernel
theorem dX6_text_71 : decode cX6_text 71 = .ok (.iload_n 2, 1) := by decide +kernel
theorem dX6_text_72 : decode cX6_text 72 = .ok (.aaload, 1) := by decide +kernel
theorem dX6_text_73 : decode cX6_text 73 = .ok (.iconst 0, 1) := by decide +kernel
theorem dX6_text_74 : decode cX6_text 74 = .ok (.putfield 90, 3) := by decide +kernel
theorem dX6_text_77 : decode cX6_text 77 = .ok (.iinc 2 1, 3) := by decide +kernel
theorem dX6_text_80 : decode cX6_text 80 = .ok (.goto (-18), 3) := by decide +kernel
theorem dX6_text_83 : decode cX6_text 83 = .ok (.iload_n 1, 1) := by decide +kernel
theorem dX6_text_84 : decode cX6_text 84 = .ok (.ireturn, 1) := by decide +kernel
def f_X6_text_L62 (v1 : Int32) (v2 : Int32) (s : St) : Option ((Int32 × St) ⊕ (Int32 × St)) := if (nI 2) ≤ v2 then (some (Sum.inr ((v1, s)))) else (if inb v2 (ln 32) = true then bd (143 + 19 * (v2).toNatClampNeg) (fun y10 => if kd (y10) = 0 then bd (wI s y10 0 (nI 0)) (fun s12 => some (Sum.inl ((v2 + (nI 1)), s12))) else none) else none)
def f_X6_text (s : St) : Option (Int32 × St) := cl (f_X5_tell 14 s) (fun x2 s1 => bd (wI s1 33 1 (nI 0)) (fun s3 => if (s3.1 33 2) = 0 then (cl (f_X2_copyOf 1 14 s3) (fun x6 s5 => bd (wI s5 27 0 (nI 0)) (fun s7 => lp (fun q : Int32 × St => f_X6_text_L62 x2 q.1 q.2) Fu ((nI 0), s7)))) else (some ((((-10) - (s3.1 33 3)), s3)))))
set_option maxHeartbeats 4000000 in
set_option maxRecDepth 100000 in
theorem e_X6_text_L62 {X : Cx} {Γ : Gm} {r0 : Rb} (hX : Amb X Γ cX6_text RX6 3 (some .int) 8) {v1 : Int32} {v2 : Int32} {s : St} {t : (Int32 × St) ⊕ (Int32 × St)} (h : f_X6_text_L62 v1 v2 s = some t) (hk : (Sum.elim (fun q : Int32 × St => Zw X Γ 3 r0 q.2 62 [(0, .ref (gL Γ (0))), (1, .int v1), (2, .int q.1)] []) (fun t : Int32 × St => Rt X Γ r0 (some (Value.int t.1), t.2))) t) : Zw X Γ 3 r0 s 62 [(0, .ref (gL Γ (0))), (1, .int v1), (2, .int v2)] [] := by
  unfold f_X6_text_L62 at h
  refine z_iload_n hX dX6_text_62 2 rfl 63 rfl ?_
  refine z_iconst hX (v := (nI 2)) dX6_text_63 rfl 64 rfl ?_
  refine z_icmp_ge hX 83 dX6_text_64 (by decide) 67 rfl (fun c8 => ?_) (fun c8 => ?_)
  · replace h := br_pos h c8
    refine z_iload_n hX dX6_text_83 1 rfl 84 rfl ?_
    replace h := Option.some.inj h
    subst h
    exact z_iret hX dX6_text_84 rfl hk
  · replace h := br_neg h c8
    refine z_aload_n hX dX6_text_67 0 rfl 68 rfl ?_
    refine z_get6 hX (k := 0) (j := 3) (v := .ref (gL Γ (32))) kdc_0 (by decide) rfl dX6_text_68 fl_X6_28 71 rfl ?_
    refine z_iload_n hX dX6_text_71 2 rfl 72 rfl ?_
    replace h := gd_elim h
    obtain ⟨g9, h⟩ := h
    refine z_aald11 hX kdc_32 (inb_vp g9) dX6_text_72 73 rfl ?_
    replace h := bd_elim h
    obtain ⟨y10, ey10, h⟩ := h
    refine z_nmR ey10 ?_
    refine z_iconst hX (v := (nI 0)) dX6_text_73 rfl 74 rfl ?_
    replace h := gd_elim h
    obtain ⟨g11, h⟩ := h
    replace h := bd_elim h
    obtain ⟨s12, es12, h⟩ := h
    refine z_putZ0 hX (k := y10) (j := 0) g11 (by decide) rfl (by decide +kernel) (by decide) (pwI_0_0 ..) dX6_text_74 fl_X6_90 es12 77 rfl ?_
    refine z_iinc hX (v := (v2 + (nI 1))) (lv2 := [(2, .int ((v2 + (nI 1)))), (0, .ref (gL Γ (0))), (1, .int v1)]) dX6_text_77 2 rfl rfl (by decide) rfl 80 rfl ?_
    refine z_goto hX 62 dX6_text_80 (by decide) ?_
    replace h := Option.some.inj h
    subst h
    exact z_sub [1, 2, 0] rfl hk
set_option maxHeartbeats 4000000 in
set_option maxRecDepth 100000 in
theorem e_X6_text {X : Cx} {Γ : Gm} {r0 : Rb} (hX : Amb X Γ cX6_text RX6 3 (some .int) 8) {s : St} {t : Int32 × St} (h : f_X6_text s = some t) (hk : (fun t : Int32 × St => Rt X Γ r0 (some (Value.int t.1), t.2)) t) : Zw X Γ 3 r0 s 0 [(0, .ref (gL Γ (0)))] [] := by
  unfold f_X6_text at h
  refine z_aload_n hX dX6_text_0 0 rfl 1 rfl ?_
  refine z_get6 hX (k := 0) (j := 4) (v := .ref (gL Γ (33))) kdc_0 (by decide) rfl dX6_text_1 fl_X6_35 4 rfl ?_
  refine z_aload_n hX dX6_text_4 0 rfl 5 rfl ?_
  refine z_get6 hX (k := 0) (j := 1) (v := .ref (gL Γ (14))) kdc_0 (by decide) rfl dX6_text_5 fl_X6_16 8 rfl ?_
  replace h := cl_elim h
  obtain ⟨x2, s1, hx2, h⟩ := h
  refine z_cV5i hX (b := 33) (As := [.ref (gL Γ (14))]) (c_X5_tell hx2) lk_X6_73 rfl kdc_33 ds_X5_tell rfl (by decide) (by decide) (by decide) dX6_text_8 rfl 11 rfl ?_
  refine z_istore_n hX (lv2 := [(1, .int x2), (0, .ref (gL Γ (0)))]) dX6_text_11 (by decide) rfl 12 rfl ?_
  refine z_aload_n hX dX6_text_12 1 rfl 13 rfl ?_
  refine z_get6 hX (k := 0) (j := 4) (v := .ref (gL Γ (33))) kdc_0 (by decide) rfl dX6_text_13 fl_X6_35 16 rfl ?_
  refine z_iconst hX (v := (nI 0)) dX6_text_16 rfl 17 rfl ?_
  replace h := bd_elim h
  obtain ⟨s3, es3, h⟩ := h
  refine z_putI5 hX (k := 33) (j := 1) kdc_33 (by decide) rfl (by decide +kernel) (pwI_5_1 ..) dX6_text_17 fl_X6_70 es3 20 rfl ?_
  refine z_aload_n hX dX6_text_20 1 rfl 21 rfl ?_
  refine z_get6 hX (k := 0) (j := 4) (v := .ref (gL Γ (33))) kdc_0 (by decide) rfl dX6_text_21 fl_X6_35 24 rfl ?_
  refine z_get5 hX (k := 33) (j := 2) (v := .int ((s3.1 33 2))) kdc_33 (by decide) rfl dX6_text_24 fl_X6_77 27 rfl ?_
  refine z_if_eq hX 41 dX6_text_27 (by decide) 30 rfl (fun c4 => ?_) (fun c4 => ?_)
  · replace h := br_pos h c4
    refine z_aload_n hX dX6_text_41 1 rfl 42 rfl ?_
    refine z_get6 hX (k := 0) (j := 0) (v := .ref (gL Γ (1))) kdc_0 (by decide) rfl dX6_text_42 fl_X6_10 45 rfl ?_
    refine z_aload_n hX dX6_text_45 1 rfl 46 rfl ?_
    refine z_get6 hX (k := 0) (j := 1) (v := .ref (gL Γ (14))) kdc_0 (by decide) rfl dX6_text_46 fl_X6_16 49 rfl ?_
    replace h := cl_elim h
    obtain ⟨x6, s5, hx6, h⟩ := h
    refine z_cV2v hX (b := 1) (As := [.ref (gL Γ (14))]) (c_X2_copyOf hx6) lk_X6_83 rfl kdc_1 ds_X2_copyOf rfl (by decide) (by decide) (by decide) dX6_text_49 rfl 52 rfl ?_
    refine z_aload_n hX dX6_text_52 1 rfl 53 rfl ?_
    refine z_get6 hX (k := 0) (j := 2) (v := .ref (gL Γ (27))) kdc_0 (by decide) rfl dX6_text_53 fl_X6_22 56 rfl ?_
    refine z_iconst hX (v := (nI 0)) dX6_text_56 rfl 57 rfl ?_
    replace h := bd_elim h
    obtain ⟨s7, es7, h⟩ := h
    refine z_putI3 hX (k := 27) (j := 0) kdc_27 (by decide) rfl (by decide +kernel) (pwI_3_0 ..) dX6_text_57 fl_X6_87 es7 60 rfl ?_
    refine z_iconst hX (v := (nI 0)) dX6_text_60 rfl 61 rfl ?_
    refine z_istore_n hX (lv2 := [(2, .int ((nI 0))), (1, .int x2), (0, .ref (gL Γ (0)))]) dX6_text_61 (by decide) rfl 62 rfl ?_
    exact z_sub [2, 1, 0] rfl (lp_ok (Z := fun q : Int32 × St => Zw X Γ 3 r0 q.2 62 [(0, .ref (gL Γ (0))), (1, .int x2), (2, .int q.1)] []) (fun q t h hk => e_X6_text_L62 hX h hk) Fu _ _ h hk)
  · replace h := br_neg h c4
    refine z_bipush hX (v := (-10)) dX6_text_30 (by decide) 32 rfl ?_
    refine z_aload_n hX dX6_text_32 1 rfl 33 rfl ?_
    refine z_get6 hX (k := 0) (j := 4) (v := .ref (gL Γ (33))) kdc_0 (by decide) rfl dX6_text_33 fl_X6_35 36 rfl ?_
    refine z_get5 hX (k := 33) (j := 3) (v := .int ((s3.1 33 3))) kdc_33 (by decide) rfl dX6_text_36 fl_X6_80 39 rfl ?_
    refine z_isub hX dX6_text_39 40 rfl ?_
    replace h := Option.some.inj h
    subst h
    exact z_iret hX dX6_text_40 rfl hk
theorem c_X6_text {lc : Launch} {Γ : Gm} {s s2 : St} {v : Int32} (h : f_X6_text s = some (v, s2)) : Ct lc Γ yX6_text cX6_text 3 (some .int) 8 [.ref (gL Γ (0))] s (some (.int v), s2) := Ct.of (by decide +kernel) (Nat.le_of_ble_eq_true rfl) (fun X hl hX => e_X6_text hX h rfl)
theorem dX6_fault_0 : decode cX6_fault 0 = .ok (.aload_n 0, 1) := by decide +kernel
theorem dX6_fault_1 : decode cX6_fault 1 = .ok (.getfield 35, 3) := by decide +kernel
theorem dX6_fault_4 : decode cX6_fault 4 = .ok (.getfield 77, 3) := by decide +kernel
theorem dX6_fault_7 : decode cX6_fault 7 = .ok (.ireturn, 1) := by decide +kernel
def f_X6_fault (s : St) : Option (Int32 × St) := some (((s.1 33 2), s))
set_option maxHeartbeats 4000000 in
set_option maxRecDepth 100000 in
theorem e_X6_fault {X : Cx} {Γ : Gm} {r0 : Rb} (hX : Amb X Γ cX6_fault RX6 1 (some .int) 0) {s : St} {t : Int32 × St} (h : f_X6_fault s = some t) (hk : (fun t : Int32 × St => Rt X Γ r0 (some (Value.int t.1), t.2)) t) : Zw X Γ 1 r0 s 0 [(0, .ref (gL Γ (0)))] [] := by
  unfold f_X6_fault at h
  refine z_aload_n hX dX6_fault_0 0 rfl 1 rfl ?_
  refine z_get6 hX (k := 0) (j := 4) (v := .ref (gL Γ (33))) kdc_0 (by decide) rfl dX6_fault_1 fl_X6_35 4 rfl ?_
  refine z_get5 hX (k := 33) (j := 2) (v := .int ((s.1 33 2))) kdc_33 (by decide) rfl dX6_fault_4 fl_X6_77 7 rfl ?_
  replace h := Option.some.inj h
  subst h
  exact z_iret hX dX6_fault_7 rfl hk
theorem c_X6_fault {lc : Launch} {Γ : Gm} {s s2 : St} {v : Int32} (h : f_X6_fault s = some (v, s2)) : Ct lc Γ yX6_fault cX6_fault 1 (some .int) 0 [.ref (gL Γ (0))] s (some (.int v), s2) := Ct.of (by decide +kernel) (Nat.le_of_ble_eq_true rfl) (fun X hl hX => e_X6_fault hX h rfl)
theorem dX6_rule_0 : decode cX6_rule 0 = .ok (.iload_n 1, 1) := by decide +kernel
theorem dX6_rule_1 : decode cX6_rule 1 = .ok (.tableswitch 101 0 5 #[39, 47, 55, 63, 78, 93], 39) := by decide +kernel
theorem dX6_rule_40 : decode cX6_rule 40 = .ok (.aload_n 0, 1) := by decide +kernel
theorem dX6_rule_41 : decode cX6_rule 41 = .ok (.getfield 10, 3) := by decide +kernel
theorem dX6_rule_44 : decode cX6_rule 44 = .ok (.getfield 94, 3) := by decide +kernel
theorem dX6_rule_47 : decode cX6_rule 47 = .ok (.ireturn, 1) := by decide +kernel
theorem dX6_rule_48 : decode cX6_rule 48 = .ok (.aload_n 0, 1) := by decide +kernel
theorem dX6_rule_49 : decode cX6_rule 49 = .ok (.getfield 10, 3) := by decide +kernel
theorem dX6_rule_52 : decode cX6_rule 52 = .ok (.getfield 97, 3) := by decide +kernel
theorem dX6_rule_55 : decode cX6_rule 55 = .ok (.ireturn, 1) := by decide +kernel
theorem dX6_rule_56 : decode cX6_rule 56 = .ok (.aload_n 0, 1) := by decide +kernel
theorem dX6_rule_57 : decode cX6_rule 57 = .ok (.getfield 10, 3) := by decide +kernel
theorem dX6_rule_60 : decode cX6_rule 60 = .ok (.getfield 100, 3) := by decide +kernel
theorem dX6_rule_63 : decode cX6_rule 63 = .ok (.ireturn, 1) := by decide +kernel
theorem dX6_rule_64 : decode cX6_rule 64 = .ok (.aload_n 0, 1) := by decide +kernel
theorem dX6_rule_65 : decode cX6_rule 65 = .ok (.getfield 10, 3) := by decide +kernel
theorem dX6_rule_68 : decode cX6_rule 68 = .ok (.aload_n 0, 1) := by decide +kernel
theorem dX6_rule_69 : decode cX6_rule 69 = .ok (.getfield 10, 3) := by decide +kernel
theorem dX6_rule_72 : decode cX6_rule 72 = .ok (.getfield 103, 3) := by decide +kernel
theorem dX6_rule_75 : decode cX6_rule 75 = .ok (.invokevirtual 106, 3) := by decide +kernel
theorem dX6_rule_78 : decode cX6_rule 78 = .ok (.ireturn, 1) := by decide +kernel
theorem dX6_rule_79 : decode cX6_rule 79 = .ok (.aload_n 0, 1) := by decide +kernel
theorem dX6_rule_80 : decode cX6_rule 80 = .ok (.getfield 10, 3) := by decide +kernel
theorem dX6_rule_83 : decode cX6_rule 83 = .ok (.aload_n 0, 1) := by decide +kernel
theorem dX6_rule_84 : decode cX6_rule 84 = .ok (.getfield 10, 3) := by decide +kernel
theorem dX6_rule_87 : decode cX6_rule 87 = .ok (.getfield 110, 3) := by decide +kernel
theorem dX6_rule_90 : decode cX6_rule 90 = .ok (.invokevirtual 106, 3) := by decide +kernel
theorem dX6_rule_93 : decode cX6_rule 93 = .ok (.ireturn, 1) := by decide +kernel
theorem dX6_rule_94 : decode cX6_rule 94 = .ok (.aload_n 0, 1) := by decide +kernel
theorem dX6_rule_95 : decode cX6_rule 95 = .ok (.getfield 10, 3) := by decide +kernel
theorem dX6_rule_98 : decode cX6_rule 98 = .ok (.invokevirtual 113, 3) := by decide +kernel
theorem dX6_rule_101 : decode cX6_rule 101 = .ok (.ireturn, 1) := by decide +kernel
theorem dX6_rule_102 : decode cX6_rule 102 = .ok (.iconst (-1), 1) := by decide +kernel
theorem dX6_rule_103 : decode cX6_rule 103 = .ok (.ireturn, 1) := by decide +kernel
def f_X6_rule (a1 : Int32) (s : St) : Option (Int32 × St) := if a1 = (nI 0) then (some (((s.1 1 0), s))) else (if a1 = (nI 1) then (some (((s.1 1 1), s))) else (if a1 = (nI 2) then (some (((s.1 1 2), s))) else (if a1 = (nI 3) then (cl (f_X2_sumOfLives 1 7 s) (fun x6 s5 => some ((x6, s5)))) else (if a1 = (nI 4) then (cl (f_X2_sumOfLives 1 6 s) (fun x9 s8 => some ((x9, s8)))) else (if a1 = (nI 5) then (cl (f_X2_heldByAll 1 s) (fun x12 s11 => some ((x12, s11)))) else (if (a1).toInt < 0 ∨ 5 < (a1).toInt then (some (((-1), s))) else none))))))
set_option maxHeartbeats 4000000 in
set_option maxRecDepth 100000 in
theorem e_X6_rule {X : Cx} {Γ : Gm} {r0 : Rb} (hX : Amb X Γ cX6_rule RX6 2 (some .int) 3) {a1 : Int32} {s : St} {t : Int32 × St} (h : f_X6_rule a1 s = some t) (hk : (fun t : Int32 × St => Rt X Γ r0 (some (Value.int t.1), t.2)) t) : Zw X Γ 2 r0 s 0 [(0, .ref (gL Γ (0))), (1, .int a1)] [] := by
  unfold f_X6_rule at h
  refine z_iload_n hX dX6_rule_0 1 rfl 1 rfl ?_
  by_cases c1 : a1 = (nI 0)
  · replace h := br_pos h c1
    refine z_tcase hX (off := 39) 40 dX6_rule_1 (nI 0) c1 (by decide) (by decide) ?_
    refine z_aload_n hX dX6_rule_40 0 rfl 41 rfl ?_
    refine z_get6 hX (k := 0) (j := 0) (v := .ref (gL Γ (1))) kdc_0 (by decide) rfl dX6_rule_41 fl_X6_10 44 rfl ?_
    refine z_get2 hX (k := 1) (j := 0) (v := .int ((s.1 1 0))) kdc_1 (by decide) rfl dX6_rule_44 fl_X6_94 47 rfl ?_
    replace h := Option.some.inj h
    subst h
    exact z_iret hX dX6_rule_47 rfl hk
  replace h := br_neg h c1
  by_cases c2 : a1 = (nI 1)
  · replace h := br_pos h c2
    refine z_tcase hX (off := 47) 48 dX6_rule_1 (nI 1) c2 (by decide) (by decide) ?_
    refine z_aload_n hX dX6_rule_48 0 rfl 49 rfl ?_
    refine z_get6 hX (k := 0) (j := 0) (v := .ref (gL Γ (1))) kdc_0 (by decide) rfl dX6_rule_49 fl_X6_10 52 rfl ?_
    refine z_get2 hX (k := 1) (j := 1) (v := .int ((s.1 1 1))) kdc_1 (by decide) rfl dX6_rule_52 fl_X6_97 55 rfl ?_
    replace h := Option.some.inj h
    subst h
    exact z_iret hX dX6_rule_55 rfl hk
  replace h := br_neg h c2
  by_cases c3 : a1 = (nI 2)
  · replace h := br_pos h c3
    refine z_tcase hX (off := 55) 56 dX6_rule_1 (nI 2) c3 (by decide) (by decide) ?_
    refine z_aload_n hX dX6_rule_56 0 rfl 57 rfl ?_
    refine z_get6 hX (k := 0) (j := 0) (v := .ref (gL Γ (1))) kdc_0 (by decide) rfl dX6_rule_57 fl_X6_10 60 rfl ?_
    refine z_get2 hX (k := 1) (j := 2) (v := .int ((s.1 1 2))) kdc_1 (by decide) rfl dX6_rule_60 fl_X6_100 63 rfl ?_
    replace h := Option.some.inj h
    subst h
    exact z_iret hX dX6_rule_63 rfl hk
  replace h := br_neg h c3
  by_cases c4 : a1 = (nI 3)
  · replace h := br_pos h c4
    refine z_tcase hX (off := 63) 64 dX6_rule_1 (nI 3) c4 (by decide) (by decide) ?_
    refine z_aload_n hX dX6_rule_64 0 rfl 65 rfl ?_
    refine z_get6 hX (k := 0) (j := 0) (v := .ref (gL Γ (1))) kdc_0 (by decide) rfl dX6_rule_65 fl_X6_10 68 rfl ?_
    refine z_aload_n hX dX6_rule_68 0 rfl 69 rfl ?_
    refine z_get6 hX (k := 0) (j := 0) (v := .ref (gL Γ (1))) kdc_0 (by decide) rfl dX6_rule_69 fl_X6_10 72 rfl ?_
    refine z_get2 hX (k := 1) (j := 8) (v := .ref (gL Γ (7))) kdc_1 (by decide) rfl dX6_rule_72 fl_X6_103 75 rfl ?_
    replace h := cl_elim h
    obtain ⟨x6, s5, hx6, h⟩ := h
    refine z_cV2i hX (b := 1) (As := [.ref (gL Γ (7))]) (c_X2_sumOfLives hx6) lk_X6_106 rfl kdc_1 ds_X2_sumOfLives rfl (by decide) (by decide) (by decide) dX6_rule_75 rfl 78 rfl ?_
    replace h := Option.some.inj h
    subst h
    exact z_iret hX dX6_rule_78 rfl hk
  replace h := br_neg h c4
  by_cases c7 : a1 = (nI 4)
  · replace h := br_pos h c7
    refine z_tcase hX (off := 78) 79 dX6_rule_1 (nI 4) c7 (by decide) (by decide) ?_
    refine z_aload_n hX dX6_rule_79 0 rfl 80 rfl ?_
    refine z_get6 hX (k := 0) (j := 0) (v := .ref (gL Γ (1))) kdc_0 (by decide) rfl dX6_rule_80 fl_X6_10 83 rfl ?_
    refine z_aload_n hX dX6_rule_83 0 rfl 84 rfl ?_
    refine z_get6 hX (k := 0) (j := 0) (v := .ref (gL Γ (1))) kdc_0 (by decide) rfl dX6_rule_84 fl_X6_10 87 rfl ?_
    refine z_get2 hX (k := 1) (j := 7) (v := .ref (gL Γ (6))) kdc_1 (by decide) rfl dX6_rule_87 fl_X6_110 90 rfl ?_
    replace h := cl_elim h
    obtain ⟨x9, s8, hx9, h⟩ := h
    refine z_cV2i hX (b := 1) (As := [.ref (gL Γ (6))]) (c_X2_sumOfLives hx9) lk_X6_106 rfl kdc_1 ds_X2_sumOfLives rfl (by decide) (by decide) (by decide) dX6_rule_90 rfl 93 rfl ?_
    replace h := Option.some.inj h
    subst h
    exact z_iret hX dX6_rule_93 rfl hk
  replace h := br_neg h c7
  by_cases c10 : a1 = (nI 5)
  · replace h := br_pos h c10
    refine z_tcase hX (off := 93) 94 dX6_rule_1 (nI 5) c10 (by decide) (by decide) ?_
    refine z_aload_n hX dX6_rule_94 0 rfl 95 rfl ?_
    refine z_get6 hX (k := 0) (j := 0) (v := .ref (gL Γ (1))) kdc_0 (by decide) rfl dX6_rule_95 fl_X6_10 98 rfl ?_
    replace h := cl_elim h
    obtain ⟨x12, s11, hx12, h⟩ := h
    refine z_cV2i hX (b := 1) (As := []) (c_X2_heldByAll hx12) lk_X6_113 rfl kdc_1 ds_X2_heldByAll rfl (by decide) (by decide) (by decide) dX6_rule_98 rfl 101 rfl ?_
    replace h := Option.some.inj h
    subst h
    exact z_iret hX dX6_rule_101 rfl hk
  replace h := br_neg h c10
  replace h := gd_elim h
  obtain ⟨g13, h⟩ := h
  refine z_tdef hX 102 dX6_rule_1 g13 (by decide) ?_
  refine z_iconst hX (v := (-1)) dX6_rule_102 rfl 103 rfl ?_
  replace h := Option.some.inj h
  subst h
  exact z_iret hX dX6_rule_103 rfl hk
theorem c_X6_rule {lc : Launch} {Γ : Gm} {a1 : Int32} {s s2 : St} {v : Int32} (h : f_X6_rule a1 s = some (v, s2)) : Ct lc Γ yX6_rule cX6_rule 2 (some .int) 3 [.ref (gL Γ (0)), .int a1] s (some (.int v), s2) := Ct.of (by decide +kernel) (Nat.le_of_ble_eq_true rfl) (fun X hl hX => e_X6_rule hX h rfl)
theorem dX6_life_0 : decode cX6_life 0 = .ok (.aload_n 0, 1) := by decide +kernel
theorem dX6_life_1 : decode cX6_life 1 = .ok (.getfield 10, 3) := by decide +kernel
theorem dX6_life_4 : decode cX6_life 4 = .ok (.iload_n 1, 1) := by decide +kernel
theorem dX6_life_5 : decode cX6_life 5 = .ok (.invokevirtual 117, 3) := by decide +kernel
theorem dX6_life_8 : decode cX6_life 8 = .ok (.ifCond .ne 5, 3) := by decide +kernel
theorem dX6_life_11 : decode cX6_life 11 = .ok (.iconst (-1), 1) := by decide +kernel
theorem dX6_life_12 : decode cX6_life 12 = .ok (.ireturn, 1) := by decide +kernel
theorem dX6_life_13 : decode cX6_life 13 = .ok (.iload_n 2, 1) := by decide +kernel
theorem dX6_life_14 : decode cX6_life 14 = .ok (.tableswitch 114 0 6 #[42, 52, 65, 75, 85, 95, 105], 42) := by decide +kernel
theorem dX6_life_56 : decode cX6_life 56 = .ok (.aload_n 0, 1) := by decide +kernel
theorem dX6_life_57 : decode cX6_life 57 = .ok (.getfield 10, 3) := by decide +kernel
theorem dX6_life_60 : decode cX6_life 60 = .ok (.getfield 120, 3) := by decide +kernel
theorem dX6_life_63 : decode cX6_life 63 = .ok (.iload_n 1, 1) := by decide +kernel
theorem dX6_life_64 : decode cX6_life 64 = .ok (.iaload, 1) := by decide +kernel
theorem dX6_life_65 : decode cX6_life 65 = .ok (.ireturn, 1) := by decide +kernel
theorem dX6_life_66 : decode cX6_life 66 = .ok (.aload_n 0, 1) := by decide +kernel
theorem dX6_life_67 : decode cX6_life 67 = .ok (.getfield 10, 3) := by decide +kernel
theorem dX6_life_70 : decode cX6_life 70 = .ok (.getfield 123, 3) := by decide +kernel
theorem dX6_life_73 : decode cX6_life 73 = .ok (.iload_n 1, 1) := by decide +kernel
theorem dX6_life_74 : decode cX6_life 74 = .ok (.iaload, 1) := by decide +kernel
theorem dX6_life_75 : decode cX6_life 75 = .ok (.invokestatic 126, 3) := by decide +kernel
theorem dX6_life_78 : decode cX6_life 78 = .ok (.ireturn, 1) := by decide +kernel
theorem dX6_life_79 : decode cX6_life 79 = .ok (.aload_n 0, 1) := by decide +kernel
theorem dX6_life_80 : decode cX6_life 80 = .ok (.getfield 10, 3) := by decide +kernel
theorem dX6_life_83 : decode cX6_life 83 = .ok (.getfield 130, 3) := by decide +kernel
theorem dX6_life_86 : decode cX6_life 86 = .ok (.iload_n 1, 1) := by decide +kernel
theorem dX6_life_87 : decode cX6_life 87 = .ok (.iaload, 1) := by decide +kernel
theorem dX6_life_88 : decode cX6_life 88 = .ok (.ireturn, 1) := by decide +kernel
theorem dX6_life_89 : decode cX6_life 89 = .ok (.aload_n 0, 1) := by decide +kernel
theorem dX6_life_90 : decode cX6_life 90 = .ok (.getfield 10, 3) := by decide +kernel
theorem dX6_life_93 : decode cX6_life 93 = .ok (.getfield 133, 3) := by decide +kernel
theorem dX6_life_96 : decode cX6_life 96 = .ok (.iload_n 1, 1) := by decide +kernel
theorem dX6_life_97 : decode cX6_life 97 = .ok (.iaload, 1) := by decide +kernel
theorem dX6_life_98 : decode cX6_life 98 = .ok (.ireturn, 1) := by decide +kernel
theorem dX6_life_99 : decode cX6_life 99 = .ok (.aload_n 0, 1) := by decide +kernel
theorem dX6_life_100 : decode cX6_life 100 = .ok (.getfield 10, 3) := by decide +kernel
theorem dX6_life_103 : decode cX6_life 103 = .ok (.getfield 103, 3) := by decide +kernel
theorem dX6_life_106 : decode cX6_life 106 = .ok (.iload_n 1, 1) := by decide +kernel
theorem dX6_life_107 : decode cX6_life 107 = .ok (.iaload, 1) := by decide +kernel
theorem dX6_life_108 : decode cX6_life 108 = .ok (.ireturn, 1) := by decide +kernel
theorem dX6_life_109 : decode cX6_life 109 = .ok (.aload_n 0, 1) := by decide +kernel
theorem dX6_life_110 : decode cX6_life 110 = .ok (.getfield 10, 3) := by decide +kernel
theorem dX6_life_113 : decode cX6_life 113 = .ok (.getfield 110, 3) := by decide +kernel
theorem dX6_life_116 : decode cX6_life 116 = .ok (.iload_n 1, 1) := by decide +kernel
theorem dX6_life_117 : decode cX6_life 117 = .ok (.iaload, 1) := by decide +kernel
theorem dX6_life_118 : decode cX6_life 118 = .ok (.ireturn, 1) := by decide +kernel
theorem dX6_life_119 : decode cX6_life 119 = .ok (.aload_n 0, 1) := by decide +kernel
theorem dX6_life_120 : decode cX6_life 120 = .ok (.getfield 10, 3) := by decide +kernel
theorem dX6_life_123 : decode cX6_life 123 = .ok (.iload_n 1, 1) := by decide +kernel
theorem dX6_life_124 : decode cX6_life 124 = .ok (.invokevirtual 136, 3) := by decide +kernel
theorem dX6_life_127 : decode cX6_life 127 = .ok (.ireturn, 1) := by decide +kernel
theorem dX6_life_128 : decode cX6_life 128 = .ok (.iconst (-1), 1) := by decide +kernel
theorem dX6_life_129 : decode cX6_life 129 = .ok (.ireturn, 1) := by decide +kernel
def f_X6_life (a1 : Int32) (a2 : Int32) (s : St) : Option (Int32 × St) := cl (f_X2_isLife 1 a1 s) (fun x2 s1 => if ¬ x2 = 0 then (if a2 = (nI 0) then (if inb a1 (lnI 2) = true then some (((s1.1 2 (a1).toNatClampNeg), s1)) else none) else (if a2 = (nI 1) then (if inb a1 (lnI 3) = true then cl (f_X6_nameOf (s1.1 3 (a1).toNatClampNeg) s1) (fun x9 s8 => some ((x9, s8))) else none) else (if a2 = (nI 2) then (if inb a1 (lnI 4) = true then some (((s1.1 4 (a1).toNatClampNeg), s1)) else none) else (if a2 = (nI 3) then (if inb a1 (lnI 5) = true then some (((s1.1 5 (a1).toNatClampNeg), s1)) else none) else (if a2 = (nI 4) then (if inb a1 (lnI 7) = true then some (((s1.1 7 (a1).toNatClampNeg), s1)) else none) else (if a2 = (nI 5) then (if inb a1 (lnI 6) = true then some (((s1.1 6 (a1).toNatClampNeg), s1)) else none) else (if a2 = (nI 6) then (cl (f_X2_heldOf 1 a1 s1) (fun x20 s19 => some ((x20, s19)))) else (if (a2).toInt < 0 ∨ 6 < (a2).toInt then (some (((-1), s1))) else none)))))))) else (some (((-1), s1))))
set_option maxHeartbeats 4000000 in
set_option maxRecDepth 100000 in
theorem e_X6_life {X : Cx} {Γ : Gm} {r0 : Rb} (hX : Amb X Γ cX6_life RX6 3 (some .int) 2) {a1 : Int32} {a2 : Int32} {s : St} {t : Int32 × St} (h : f_X6_life a1 a2 s = some t) (hk : (fun t : Int32 × St => Rt X Γ r0 (some (Value.int t.1), t.2)) t) : Zw X Γ 3 r0 s 0 [(0, .ref (gL Γ (0))), (1, .int a1), (2, .int a2)] [] := by
  unfold f_X6_life at h
  refine z_aload_n hX dX6_life_0 0 rfl 1 rfl ?_
  refine z_get6 hX (k := 0) (j := 0) (v := .ref (gL Γ (1))) kdc_0 (by decide) rfl dX6_life_1 fl_X6_10 4 rfl ?_
  refine z_iload_n hX dX6_life_4 1 rfl 5 rfl ?_
  replace h := cl_elim h
  obtain ⟨x2, s1, hx2, h⟩ := h
  refine z_cV2i hX (b := 1) (As := [.int a1]) (c_X2_isLife hx2) lk_X6_117 rfl kdc_1 ds_X2_isLife rfl (by decide) (by decide) (by decide) dX6_life_5 rfl 8 rfl ?_
  refine z_if_ne hX 13 dX6_life_8 (by decide) 11 rfl (fun c3 => ?_) (fun c3 => ?_)
  · replace h := br_pos h c3
    refine z_iload_n hX dX6_life_13 2 rfl 14 rfl ?_
    by_cases c4 : a2 = (nI 0)
    · replace h := br_pos h c4
      refine z_tcase hX (off := 42) 56 dX6_life_14 (nI 0) c4 (by decide) (by decide) ?_
      refine z_aload_n hX dX6_life_56 0 rfl 57 rfl ?_
      refine z_get6 hX (k := 0) (j := 0) (v := .ref (gL Γ (1))) kdc_0 (by decide) rfl dX6_life_57 fl_X6_10 60 rfl ?_
      refine z_get2 hX (k := 1) (j := 3) (v := .ref (gL Γ (2))) kdc_1 (by decide) rfl dX6_life_60 fl_X6_120 63 rfl ?_
      refine z_iload_n hX dX6_life_63 1 rfl 64 rfl ?_
      replace h := gd_elim h
      obtain ⟨g5, h⟩ := h
      refine z_iald hX (inb_vp g5) dX6_life_64 65 rfl ?_
      replace h := Option.some.inj h
      subst h
      exact z_iret hX dX6_life_65 rfl hk
    replace h := br_neg h c4
    by_cases c6 : a2 = (nI 1)
    · replace h := br_pos h c6
      refine z_tcase hX (off := 52) 66 dX6_life_14 (nI 1) c6 (by decide) (by decide) ?_
      refine z_aload_n hX dX6_life_66 0 rfl 67 rfl ?_
      refine z_get6 hX (k := 0) (j := 0) (v := .ref (gL Γ (1))) kdc_0 (by decide) rfl dX6_life_67 fl_X6_10 70 rfl ?_
      refine z_get2 hX (k := 1) (j := 4) (v := .ref (gL Γ (3))) kdc_1 (by decide) rfl dX6_life_70 fl_X6_123 73 rfl ?_
      refine z_iload_n hX dX6_life_73 1 rfl 74 rfl ?_
      replace h := gd_elim h
      obtain ⟨g7, h⟩ := h
      refine z_iald hX (inb_vp g7) dX6_life_74 75 rfl ?_
      replace h := cl_elim h
      obtain ⟨x9, s8, hx9, h⟩ := h
      refine z_cSi hX (As := [.int ((s1.1 3 (a1).toNatClampNeg))]) (c_X6_nameOf hx9) lk_X6_126 ds_X6_nameOf rfl (by decide) (by decide) (by decide) dX6_life_75 rfl 78 rfl ?_
      replace h := Option.some.inj h
      subst h
      exact z_iret hX dX6_life_78 rfl hk
    replace h := br_neg h c6
    by_cases c10 : a2 = (nI 2)
    · replace h := br_pos h c10
      refine z_tcase hX (off := 65) 79 dX6_life_14 (nI 2) c10 (by decide) (by decide) ?_
      refine z_aload_n hX dX6_life_79 0 rfl 80 rfl ?_
      refine z_get6 hX (k := 0) (j := 0) (v := .ref (gL Γ (1))) kdc_0 (by decide) rfl dX6_life_80 fl_X6_10 83 rfl ?_
      refine z_get2 hX (k := 1) (j := 5) (v := .ref (gL Γ (4))) kdc_1 (by decide) rfl dX6_life_83 fl_X6_130 86 rfl ?_
      refine z_iload_n hX dX6_life_86 1 rfl 87 rfl ?_
      replace h := gd_elim h
      obtain ⟨g11, h⟩ := h
      refine z_iald hX (inb_vp g11) dX6_life_87 88 rfl ?_
      replace h := Option.some.inj h
      subst h
      exact z_iret hX dX6_life_88 rfl hk
    replace h := br_neg h c10
    by_cases c12 : a2 = (nI 3)
    · replace h := br_pos h c12
      refine z_tcase hX (off := 75) 89 dX6_life_14 (nI 3) c12 (by decide) (by decide) ?_
      refine z_aload_n hX dX6_life_89 0 rfl 90 rfl ?_
      refine z_get6 hX (k := 0) (j := 0) (v := .ref (gL Γ (1))) kdc_0 (by decide) rfl dX6_life_90 fl_X6_10 93 rfl ?_
      refine z_get2 hX (k := 1) (j := 6) (v := .ref (gL Γ (5))) kdc_1 (by decide) rfl dX6_life_93 fl_X6_133 96 rfl ?_
      refine z_iload_n hX dX6_life_96 1 rfl 97 rfl ?_
      replace h := gd_elim h
      obtain ⟨g13, h⟩ := h
      refine z_iald hX (inb_vp g13) dX6_life_97 98 rfl ?_
      replace h := Option.some.inj h
      subst h
      exact z_iret hX dX6_life_98 rfl hk
    replace h := br_neg h c12
    by_cases c14 : a2 = (nI 4)
    · replace h := br_pos h c14
      refine z_tcase hX (off := 85) 99 dX6_life_14 (nI 4) c14 (by decide) (by decide) ?_
      refine z_aload_n hX dX6_life_99 0 rfl 100 rfl ?_
      refine z_get6 hX (k := 0) (j := 0) (v := .ref (gL Γ (1))) kdc_0 (by decide) rfl dX6_life_100 fl_X6_10 103 rfl ?_
      refine z_get2 hX (k := 1) (j := 8) (v := .ref (gL Γ (7))) kdc_1 (by decide) rfl dX6_life_103 fl_X6_103 106 rfl ?_
      refine z_iload_n hX dX6_life_106 1 rfl 107 rfl ?_
      replace h := gd_elim h
      obtain ⟨g15, h⟩ := h
      refine z_iald hX (inb_vp g15) dX6_life_107 108 rfl ?_
      replace h := Option.some.inj h
      subst h
      exact z_iret hX dX6_life_108 rfl hk
    replace h := br_neg h c14
    by_cases c16 : a2 = (nI 5)
    · replace h := br_pos h c16
      refine z_tcase hX (off := 95) 109 dX6_life_14 (nI 5) c16 (by decide) (by decide) ?_
      refine z_aload_n hX dX6_life_109 0 rfl 110 rfl ?_
      refine z_get6 hX (k := 0) (j := 0) (v := .ref (gL Γ (1))) kdc_0 (by decide) rfl dX6_life_110 fl_X6_10 113 rfl ?_
      refine z_get2 hX (k := 1) (j := 7) (v := .ref (gL Γ (6))) kdc_1 (by decide) rfl dX6_life_113 fl_X6_110 116 rfl ?_
      refine z_iload_n hX dX6_life_116 1 rfl 117 rfl ?_
      replace h := gd_elim h
      obtain ⟨g17, h⟩ := h
      refine z_iald hX (inb_vp g17) dX6_life_117 118 rfl ?_
      replace h := Option.some.inj h
      subst h
      exact z_iret hX dX6_life_118 rfl hk
    replace h := br_neg h c16
    by_cases c18 : a2 = (nI 6)
    · replace h := br_pos h c18
      refine z_tcase hX (off := 105) 119 dX6_life_14 (nI 6) c18 (by decide) (by decide) ?_
      refine z_aload_n hX dX6_life_119 0 rfl 120 rfl ?_
      refine z_get6 hX (k := 0) (j := 0) (v := .ref (gL Γ (1))) kdc_0 (by decide) rfl dX6_life_120 fl_X6_10 123 rfl ?_
      refine z_iload_n hX dX6_life_123 1 rfl 124 rfl ?_
      replace h := cl_elim h
      obtain ⟨x20, s19, hx20, h⟩ := h
      refine z_cV2i hX (b := 1) (As := [.int a1]) (c_X2_heldOf hx20) lk_X6_136 rfl kdc_1 ds_X2_heldOf rfl (by decide) (by decide) (by decide) dX6_life_124 rfl 127 rfl ?_
      replace h := Option.some.inj h
      subst h
      exact z_iret hX dX6_life_127 rfl hk
    replace h := br_neg h c18
    replace h := gd_elim h
    obtain ⟨g21, h⟩ := h
    refine z_tdef hX 128 dX6_life_14 g21 (by decide) ?_
    refine z_iconst hX (v := (-1)) dX6_life_128 rfl 129 rfl ?_
    replace h := Option.some.inj h
    subst h
    exact z_iret hX dX6_life_129 rfl hk
  · replace h := br_neg h c3
    refine z_iconst hX (v := (-1)) dX6_life_11 rfl 12 rfl ?_
    replace h := Option.some.inj h
    subst h
    exact z_iret hX dX6_life_12 rfl hk
theorem c_X6_life {lc : Launch} {Γ : Gm} {a1 : Int32} {a2 : Int32} {s s2 : St} {v : Int32} (h : f_X6_life a1 a2 s = some (v, s2)) : Ct lc Γ yX6_life cX6_life 3 (some .int) 2 [.ref (gL Γ (0)), .int a1, .int a2] s (some (.int v), s2) := Ct.of (by decide +kernel) (Nat.le_of_ble_eq_true rfl) (fun X hl hX => e_X6_life hX h rfl)
theorem dX6_sitter_0 : decode cX6_sitter 0 = .ok (.aload_n 0, 1) := by decide +kernel
theorem dX6_sitter_1 : decode cX6_sitter 1 = .ok (.getfield 10, 3) := by decide +kernel
theorem dX6_sitter_4 : decode cX6_sitter 4 = .ok (.iload_n 1, 1) := by decide +kernel
theorem dX6_sitter_5 : decode cX6_sitter 5 = .ok (.invokevirtual 139, 3) := by decide +kernel
theorem dX6_sitter_8 : decode cX6_sitter 8 = .ok (.ifCond .ne 5, 3) := by decide +kernel
theorem dX6_sitter_11 : decode cX6_sitter 11 = .ok (.iconst (-1), 1) := by decide +kernel
theorem dX6_sitter_12 : decode cX6_sitter 12 = .ok (.ireturn, 1) := by decide +kernel
theorem dX6_sitter_13 : decode cX6_sitter 13 = .ok (.iload_n 2, 1) := by decide +kernel
theorem dX6_sitter_14 : decode cX6_sitter 14 = .ok (.tableswitch 83 0 3 #[30, 43, 53, 62], 30) := by decide +kernel
theorem dX6_sitter_44 : decode cX6_sitter 44 = .ok (.aload_n 0, 1) := by decide +kernel
theorem dX6_sitter_45 : decode cX6_sitter 45 = .ok (.getfield 10, 3) := by decide +kernel
theorem dX6_sitter_48 : decode cX6_sitter 48 = .ok (.getfield 142, 3) := by decide +kernel
theorem dX6_sitter_51 : decode cX6_sitter 51 = .ok (.iload_n 1, 1) := by decide +kernel
theorem dX6_sitter_52 : decode cX6_sitter 52 = .ok (.iaload, 1) := by decide +kernel
theorem dX6_sitter_53 : decode cX6_sitter 53 = .ok (.invokestatic 126, 3) := by decide +kernel
theorem dX6_sitter_56 : decode cX6_sitter 56 = .ok (.ireturn, 1) := by decide +kernel
theorem dX6_sitter_57 : decode cX6_sitter 57 = .ok (.aload_n 0, 1) := by decide +kernel
theorem dX6_sitter_58 : decode cX6_sitter 58 = .ok (.getfield 10, 3) := by decide +kernel
theorem dX6_sitter_61 : decode cX6_sitter 61 = .ok (.getfield 145, 3) := by decide +kernel
theorem dX6_sitter_64 : decode cX6_sitter 64 = .ok (.iload_n 1, 1) := by decide +kernel
theorem dX6_sitter_65 : decode cX6_sitter 65 = .ok (.iaload, 1) := by decide +kernel
theorem dX6_sitter_66 : decode cX6_sitter 66 = .ok (.ireturn, 1) := by decide +kernel
theorem dX6_sitter_67 : decode cX6_sitter 67 = .ok (.aload_n 0, 1) := by decide +kernel
theorem dX6_sitter_68 : decode cX6_sitter 68 = .ok (.getfield 10, 3) := by decide +kernel
theorem dX6_sitter_71 : decode cX6_sitter 71 = .ok (.iload_n 1, 1) := by decide +kernel
theorem dX6_sitter_72 : decode cX6_sitter 72 = .ok (.invokevirtual 148, 3) := by decide +kernel
theorem dX6_sitter_75 : decode cX6_sitter 75 = .ok (.ireturn, 1) := by decide +kernel
theorem dX6_sitter_76 : decode cX6_sitter 76 = .ok (.aload_n 0, 1) := by decide +kernel
theorem dX6_sitter_77 : decode cX6_sitter 77 = .ok (.getfield 10, 3) := by decide +kernel
theorem dX6_sitter_80 : decode cX6_sitter 80 = .ok (.getfield 151, 3) := by decide +kernel
theorem dX6_sitter_83 : decode cX6_sitter 83 = .ok (.aload_n 0, 1) := by decide +kernel
theorem dX6_sitter_84 : decode cX6_sitter 84 = .ok (.getfield 10, 3) := by decide +kernel
theorem dX6_sitter_87 : decode cX6_sitter 87 = .ok (.getfield 142, 3) := by decide +kernel
theorem dX6_sitter_90 : decode cX6_sitter 90 = .ok (.iload_n 1, 1) := by decide +kernel
theorem dX6_sitter_91 : decode cX6_sitter 91 = .ok (.iaload, 1) := by decide +kernel
theorem dX6_sitter_92 : decode cX6_sitter 92 = .ok (.invokestatic 154, 3) := by decide +kernel
theorem dX6_sitter_95 : decode cX6_sitter 95 = .ok (.iaload, 1) := by decide +kernel
theorem dX6_sitter_96 : decode cX6_sitter 96 = .ok (.ireturn, 1) := by decide +kernel
theorem dX6_sitter_97 : decode cX6_sitter 97 = .ok (.iconst (-1), 1) := by decide +kernel
theorem dX6_sitter_98 : decode cX6_sitter 98 = .ok (.ireturn, 1) := by decide +kernel
def f_X6_sitter (a1 : Int32) (a2 : Int32) (s : St) : Option (Int32 × St) := cl (f_X2_isSitter 1 a1 s) (fun x2 s1 => if ¬ x2 = 0 then (if a2 = (nI 0) then (if inb a1 (lnI 9) = true then cl (f_X6_nameOf (s1.1 9 (a1).toNatClampNeg) s1) (fun x7 s6 => some ((x7, s6))) else none) else (if a2 = (nI 1) then (if inb a1 (lnI 10) = true then some (((s1.1 10 (a1).toNatClampNeg), s1)) else none) else (if a2 = (nI 2) then (cl (f_X2_heldBy 1 a1 s1) (fun x12 s11 => some ((x12, s11)))) else (if a2 = (nI 3) then (if inb a1 (lnI 9) = true then cl (f_X6_rowOf (s1.1 9 (a1).toNatClampNeg) s1) (fun x16 s15 => if inb x16 (lnI 13) = true then some (((s15.1 13 (x16).toNatClampNeg), s15)) else none) else none) else (if (a2).toInt < 0 ∨ 3 < (a2).toInt then (some (((-1), s1))) else none))))) else (some (((-1), s1))))
set_option maxHeartbeats 4000000 in
set_option maxRecDepth 100000 in
theorem e_X6_sitter {X : Cx} {Γ : Gm} {r0 : Rb} (hX : Amb X Γ cX6_sitter RX6 3 (some .int) 2) {a1 : Int32} {a2 : Int32} {s : St} {t : Int32 × St} (h : f_X6_sitter a1 a2 s = some t) (hk : (fun t : Int32 × St => Rt X Γ r0 (some (Value.int t.1), t.2)) t) : Zw X Γ 3 r0 s 0 [(0, .ref (gL Γ (0))), (1, .int a1), (2, .int a2)] [] := by
  unfold f_X6_sitter at h
  refine z_aload_n hX dX6_sitter_0 0 rfl 1 rfl ?_
  refine z_get6 hX (k := 0) (j := 0) (v := .ref (gL Γ (1))) kdc_0 (by decide) rfl dX6_sitter_1 fl_X6_10 4 rfl ?_
  refine z_iload_n hX dX6_sitter_4 1 rfl 5 rfl ?_
  replace h := cl_elim h
  obtain ⟨x2, s1, hx2, h⟩ := h
  refine z_cV2i hX (b := 1) (As := [.int a1]) (c_X2_isSitter hx2) lk_X6_139 rfl kdc_1 ds_X2_isSitter rfl (by decide) (by decide) (by decide) dX6_sitter_5 rfl 8 rfl ?_
  refine z_if_ne hX 13 dX6_sitter_8 (by decide) 11 rfl (fun c3 => ?_) (fun c3 => ?_)
  · replace h := br_pos h c3
    refine z_iload_n hX dX6_sitter_13 2 rfl 14 rfl ?_
    by_cases c4 : a2 = (nI 0)
    · replace h := br_pos h c4
      refine z_tcase hX (off := 30) 44 dX6_sitter_14 (nI 0) c4 (by decide) (by decide) ?_
      refine z_aload_n hX dX6_sitter_44 0 rfl 45 rfl ?_
      refine z_get6 hX (k := 0) (j := 0) (v := .ref (gL Γ (1))) kdc_0 (by decide) rfl dX6_sitter_45 fl_X6_10 48 rfl ?_
      refine z_get2 hX (k := 1) (j := 10) (v := .ref (gL Γ (9))) kdc_1 (by decide) rfl dX6_sitter_48 fl_X6_142 51 rfl ?_
      refine z_iload_n hX dX6_sitter_51 1 rfl 52 rfl ?_
      replace h := gd_elim h
      obtain ⟨g5, h⟩ := h
      refine z_iald hX (inb_vp g5) dX6_sitter_52 53 rfl ?_
      replace h := cl_elim h
      obtain ⟨x7, s6, hx7, h⟩ := h
      refine z_cSi hX (As := [.int ((s1.1 9 (a1).toNatClampNeg))]) (c_X6_nameOf hx7) lk_X6_126 ds_X6_nameOf rfl (by decide) (by decide) (by decide) dX6_sitter_53 rfl 56 rfl ?_
      replace h := Option.some.inj h
      subst h
      exact z_iret hX dX6_sitter_56 rfl hk
    replace h := br_neg h c4
    by_cases c8 : a2 = (nI 1)
    · replace h := br_pos h c8
      refine z_tcase hX (off := 43) 57 dX6_sitter_14 (nI 1) c8 (by decide) (by decide) ?_
      refine z_aload_n hX dX6_sitter_57 0 rfl 58 rfl ?_
      refine z_get6 hX (k := 0) (j := 0) (v := .ref (gL Γ (1))) kdc_0 (by decide) rfl dX6_sitter_58 fl_X6_10 61 rfl ?_
      refine z_get2 hX (k := 1) (j := 11) (v := .ref (gL Γ (10))) kdc_1 (by decide) rfl dX6_sitter_61 fl_X6_145 64 rfl ?_
      refine z_iload_n hX dX6_sitter_64 1 rfl 65 rfl ?_
      replace h := gd_elim h
      obtain ⟨g9, h⟩ := h
      refine z_iald hX (inb_vp g9) dX6_sitter_65 66 rfl ?_
      replace h := Option.some.inj h
      subst h
      exact z_iret hX dX6_sitter_66 rfl hk
    replace h := br_neg h c8
    by_cases c10 : a2 = (nI 2)
    · replace h := br_pos h c10
      refine z_tcase hX (off := 53) 67 dX6_sitter_14 (nI 2) c10 (by decide) (by decide) ?_
      refine z_aload_n hX dX6_sitter_67 0 rfl 68 rfl ?_
      refine z_get6 hX (k := 0) (j := 0) (v := .ref (gL Γ (1))) kdc_0 (by decide) rfl dX6_sitter_68 fl_X6_10 71 rfl ?_
      refine z_iload_n hX dX6_sitter_71 1 rfl 72 rfl ?_
      replace h := cl_elim h
      obtain ⟨x12, s11, hx12, h⟩ := h
      refine z_cV2i hX (b := 1) (As := [.int a1]) (c_X2_heldBy hx12) lk_X6_148 rfl kdc_1 ds_X2_heldBy rfl (by decide) (by decide) (by decide) dX6_sitter_72 rfl 75 rfl ?_
      replace h := Option.some.inj h
      subst h
      exact z_iret hX dX6_sitter_75 rfl hk
    replace h := br_neg h c10
    by_cases c13 : a2 = (nI 3)
    · replace h := br_pos h c13
      refine z_tcase hX (off := 62) 76 dX6_sitter_14 (nI 3) c13 (by decide) (by decide) ?_
      refine z_aload_n hX dX6_sitter_76 0 rfl 77 rfl ?_
      refine z_get6 hX (k := 0) (j := 0) (v := .ref (gL Γ (1))) kdc_0 (by decide) rfl dX6_sitter_77 fl_X6_10 80 rfl ?_
      refine z_get2 hX (k := 1) (j := 14) (v := .ref (gL Γ (13))) kdc_1 (by decide) rfl dX6_sitter_80 fl_X6_151 83 rfl ?_
      refine z_aload_n hX dX6_sitter_83 0 rfl 84 rfl ?_
      refine z_get6 hX (k := 0) (j := 0) (v := .ref (gL Γ (1))) kdc_0 (by decide) rfl dX6_sitter_84 fl_X6_10 87 rfl ?_
      refine z_get2 hX (k := 1) (j := 10) (v := .ref (gL Γ (9))) kdc_1 (by decide) rfl dX6_sitter_87 fl_X6_142 90 rfl ?_
      refine z_iload_n hX dX6_sitter_90 1 rfl 91 rfl ?_
      replace h := gd_elim h
      obtain ⟨g14, h⟩ := h
      refine z_iald hX (inb_vp g14) dX6_sitter_91 92 rfl ?_
      replace h := cl_elim h
      obtain ⟨x16, s15, hx16, h⟩ := h
      refine z_cSi hX (As := [.int ((s1.1 9 (a1).toNatClampNeg))]) (c_X6_rowOf hx16) lk_X6_154 ds_X6_rowOf rfl (by decide) (by decide) (Nat.le_of_ble_eq_true rfl) dX6_sitter_92 rfl 95 rfl ?_
      replace h := gd_elim h
      obtain ⟨g17, h⟩ := h
      refine z_iald hX (inb_vp g17) dX6_sitter_95 96 rfl ?_
      replace h := Option.some.inj h
      subst h
      exact z_iret hX dX6_sitter_96 rfl hk
    replace h := br_neg h c13
    replace h := gd_elim h
    obtain ⟨g18, h⟩ := h
    refine z_tdef hX 97 dX6_sitter_14 g18 (by decide) ?_
    refine z_iconst hX (v := (-1)) dX6_sitter_97 rfl 98 rfl ?_
    replace h := Option.some.inj h
    subst h
    exact z_iret hX dX6_sitter_98 rfl hk
  · replace h := br_neg h c3
    refine z_iconst hX (v := (-1)) dX6_sitter_11 rfl 12 rfl ?_
    replace h := Option.some.inj h
    subst h
    exact z_iret hX dX6_sitter_12 rfl hk
theorem c_X6_sitter {lc : Launch} {Γ : Gm} {a1 : Int32} {a2 : Int32} {s s2 : St} {v : Int32} (h : f_X6_sitter a1 a2 s = some (v, s2)) : Ct lc Γ yX6_sitter cX6_sitter 3 (some .int) 2 [.ref (gL Γ (0)), .int a1, .int a2] s (some (.int v), s2) := Ct.of (by decide +kernel) (Nat.le_of_ble_eq_true rfl) (fun X hl hX => e_X6_sitter hX h rfl)
theorem dX6_has_0 : decode cX6_has 0 = .ok (.aload_n 0, 1) := by decide +kernel
theorem dX6_has_1 : decode cX6_has 1 = .ok (.getfield 10, 3) := by decide +kernel
theorem dX6_has_4 : decode cX6_has 4 = .ok (.iload_n 1, 1) := by decide +kernel
theorem dX6_has_5 : decode cX6_has 5 = .ok (.invokevirtual 139, 3) := by decide +kernel
theorem dX6_has_8 : decode cX6_has 8 = .ok (.ifCond .eq 26, 3) := by decide +kernel
theorem dX6_has_11 : decode cX6_has 11 = .ok (.aload_n 0, 1) := by decide +kernel
theorem dX6_has_12 : decode cX6_has 12 = .ok (.getfield 10, 3) := by decide +kernel
theorem dX6_has_15 : decode cX6_has 15 = .ok (.iload_n 2, 1) := by decide +kernel
theorem dX6_has_16 : decode cX6_has 16 = .ok (.invokevirtual 117, 3) := by decide +kernel
theorem dX6_has_19 : decode cX6_has 19 = .ok (.ifCond .eq 15, 3) := by decide +kernel
theorem dX6_has_22 : decode cX6_has 22 = .ok (.aload_n 0, 1) := by decide +kernel
theorem dX6_has_23 : decode cX6_has 23 = .ok (.getfield 10, 3) := by decide +kernel
theorem dX6_has_26 : decode cX6_has 26 = .ok (.iload_n 1, 1) := by decide +kernel
theorem dX6_has_27 : decode cX6_has 27 = .ok (.iload_n 2, 1) := by decide +kernel
theorem dX6_has_28 : decode cX6_has 28 = .ok (.invokevirtual 157, 3) := by decide +kernel
theorem dX6_has_31 : decode cX6_has 31 = .ok (.goto 4, 3) := by decide +kernel
theorem dX6_has_34 : decode cX6_has 34 = .ok (.iconst (-1), 1) := by decide +kernel
theorem dX6_has_35 : decode cX6_has 35 = .ok (.ireturn, 1) := by decide +kernel
def f_X6_has (a1 : Int32) (a2 : Int32) (s : St) : Option (Int32 × St) := cl (f_X2_isSitter 1 a1 s) (fun x2 s1 => if x2 = 0 then (some (((-1), s1))) else (cl (f_X2_isLife 1 a2 s1) (fun x5 s4 => if x5 = 0 then (some (((-1), s4))) else (cl (f_X2_held 1 a1 a2 s4) (fun x8 s7 => some ((x8, s7)))))))
set_option maxHeartbeats 4000000 in
set_option maxRecDepth 100000 in
theorem e_X6_has {X : Cx} {Γ : Gm} {r0 : Rb} (hX : Amb X Γ cX6_has RX6 3 (some .int) 1) {a1 : Int32} {a2 : Int32} {s : St} {t : Int32 × St} (h : f_X6_has a1 a2 s = some t) (hk : (fun t : Int32 × St => Rt X Γ r0 (some (Value.int t.1), t.2)) t) : Zw X Γ 3 r0 s 0 [(0, .ref (gL Γ (0))), (1, .int a1), (2, .int a2)] [] := by
  unfold f_X6_has at h
  refine z_aload_n hX dX6_has_0 0 rfl 1 rfl ?_
  refine z_get6 hX (k := 0) (j := 0) (v := .ref (gL Γ (1))) kdc_0 (by decide) rfl dX6_has_1 fl_X6_10 4 rfl ?_
  refine z_iload_n hX dX6_has_4 1 rfl 5 rfl ?_
  replace h := cl_elim h
  obtain ⟨x2, s1, hx2, h⟩ := h
  refine z_cV2i hX (b := 1) (As := [.int a1]) (c_X2_isSitter hx2) lk_X6_139 rfl kdc_1 ds_X2_isSitter rfl (by decide) (by decide) (by decide) dX6_has_5 rfl 8 rfl ?_
  refine z_if_eq hX 34 dX6_has_8 (by decide) 11 rfl (fun c3 => ?_) (fun c3 => ?_)
  · replace h := br_pos h c3
    refine z_iconst hX (v := (-1)) dX6_has_34 rfl 35 rfl ?_
    replace h := Option.some.inj h
    subst h
    exact z_iret hX dX6_has_35 rfl hk
  · replace h := br_neg h c3
    refine z_aload_n hX dX6_has_11 0 rfl 12 rfl ?_
    refine z_get6 hX (k := 0) (j := 0) (v := .ref (gL Γ (1))) kdc_0 (by decide) rfl dX6_has_12 fl_X6_10 15 rfl ?_
    refine z_iload_n hX dX6_has_15 2 rfl 16 rfl ?_
    replace h := cl_elim h
    obtain ⟨x5, s4, hx5, h⟩ := h
    refine z_cV2i hX (b := 1) (As := [.int a2]) (c_X2_isLife hx5) lk_X6_117 rfl kdc_1 ds_X2_isLife rfl (by decide) (by decide) (by decide) dX6_has_16 rfl 19 rfl ?_
    refine z_if_eq hX 34 dX6_has_19 (by decide) 22 rfl (fun c6 => ?_) (fun c6 => ?_)
    · replace h := br_pos h c6
      refine z_iconst hX (v := (-1)) dX6_has_34 rfl 35 rfl ?_
      replace h := Option.some.inj h
      subst h
      exact z_iret hX dX6_has_35 rfl hk
    · replace h := br_neg h c6
      refine z_aload_n hX dX6_has_22 0 rfl 23 rfl ?_
      refine z_get6 hX (k := 0) (j := 0) (v := .ref (gL Γ (1))) kdc_0 (by decide) rfl dX6_has_23 fl_X6_10 26 rfl ?_
      refine z_iload_n hX dX6_has_26 1 rfl 27 rfl ?_
      refine z_iload_n hX dX6_has_27 2 rfl 28 rfl ?_
      replace h := cl_elim h
      obtain ⟨x8, s7, hx8, h⟩ := h
      refine z_cV2i hX (b := 1) (As := [.int a1, .int a2]) (c_X2_held hx8) lk_X6_157 rfl kdc_1 ds_X2_held rfl (by decide) (by decide) (by decide) dX6_has_28 rfl 31 rfl ?_
      refine z_goto hX 35 dX6_has_31 (by decide) ?_
      replace h := Option.some.inj h
      subst h
      exact z_iret hX dX6_has_35 rfl hk
theorem c_X6_has {lc : Launch} {Γ : Gm} {a1 : Int32} {a2 : Int32} {s s2 : St} {v : Int32} (h : f_X6_has a1 a2 s = some (v, s2)) : Ct lc Γ yX6_has cX6_has 3 (some .int) 1 [.ref (gL Γ (0)), .int a1, .int a2] s (some (.int v), s2) := Ct.of (by decide +kernel) (Nat.le_of_ble_eq_true rfl) (fun X hl hX => e_X6_has hX h rfl)
theorem dX6_in_0 : decode cX6_in 0 = .ok (.iload_n 1, 1) := by decide +kernel
theorem dX6_in_1 : decode cX6_in 1 = .ok (.invokestatic 161, 3) := by decide +kernel
theorem dX6_in_4 : decode cX6_in 4 = .ok (.istore_n 3, 1) := by decide +kernel
theorem dX6_in_5 : decode cX6_in 5 = .ok (.iload_n 3, 1) := by decide +kernel
theorem dX6_in_6 : decode cX6_in 6 = .ok (.ifCond .lt 31, 3) := by decide +kernel
theorem dX6_in_9 : decode cX6_in 9 = .ok (.aload_n 0, 1) := by decide +kernel
theorem dX6_in_10 : decode cX6_in 10 = .ok (.getfield 10, 3) := by decide +kernel
theorem dX6_in_13 : decode cX6_in 13 = .ok (.iload_n 2, 1) := by decide +kernel
theorem dX6_in_14 : decode cX6_in 14 = .ok (.invokevirtual 117, 3) := by decide +kernel
theorem dX6_in_17 : decode cX6_in 17 = .ok (.ifCond .eq 20, 3) := by decide +kernel
theorem dX6_in_20 : decode cX6_in 20 = .ok (.aload_n 0, 1) := by decide +kernel
theorem dX6_in_21 : decode cX6_in 21 = .ok (.getfield 10, 3) := by decide +kernel
theorem dX6_in_24 : decode cX6_in 24 = .ok (.getfield 164, 3) := by decide +kernel
theorem dX6_in_27 : decode cX6_in 27 = .ok (.iload_n 2, 1) := by decide +kernel
theorem dX6_in_28 : decode cX6_in 28 = .ok (.bipush 20, 2) := by decide +kernel
theorem dX6_in_30 : decode cX6_in 30 = .ok (.imul, 1) := by decide +kernel
theorem dX6_in_31 : decode cX6_in 31 = .ok (.iload_n 3, 1) := by decide +kernel
theorem dX6_in_32 : decode cX6_in 32 = .ok (.iadd, 1) := by decide +kernel
theorem dX6_in_33 : decode cX6_in 33 = .ok (.iaload, 1) := by decide +kernel
theorem dX6_in_34 : decode cX6_in 34 = .ok (.goto 4, 3) := by decide +kernel
theorem dX6_in_37 : decode cX6_in 37 = .ok (.iconst (-1), 1) := by decide +kernel
theorem dX6_in_38 : decode cX6_in 38 = .ok (.ireturn, 1) := by decide +kernel
def f_X6_in (a1 : Int32) (a2 : Int32) (s : St) : Option (Int32 × St) := cl (f_X6_cellOf a1 s) (fun x2 s1 => if x2 < 0 then (some (((-1), s1))) else (cl (f_X2_isLife 1 a2 s1) (fun x5 s4 => if x5 = 0 then (some (((-1), s4))) else (if inb ((a2 * (nI 20)) + x2) (lnI 8) = true then some (((s4.1 8 (((a2 * (nI 20)) + x2)).toNatClampNeg), s4)) else none))))
set_option maxHeartbeats 4000000 in
set_option maxRecDepth 100000 in
theorem e_X6_in {X : Cx} {Γ : Gm} {r0 : Rb} (hX : Amb X Γ cX6_in RX6 4 (some .int) 1) {a1 : Int32} {a2 : Int32} {s : St} {t : Int32 × St} (h : f_X6_in a1 a2 s = some t) (hk : (fun t : Int32 × St => Rt X Γ r0 (some (Value.int t.1), t.2)) t) : Zw X Γ 4 r0 s 0 [(0, .ref (gL Γ (0))), (1, .int a1), (2, .int a2)] [] := by
  unfold f_X6_in at h
  refine z_iload_n hX dX6_in_0 1 rfl 1 rfl ?_
  replace h := cl_elim h
  obtain ⟨x2, s1, hx2, h⟩ := h
  refine z_cSi hX (As := [.int a1]) (c_X6_cellOf hx2) lk_X6_161 ds_X6_cellOf rfl (by decide) (by decide) (by decide) dX6_in_1 rfl 4 rfl ?_
  refine z_istore_n hX (lv2 := [(3, .int x2), (0, .ref (gL Γ (0))), (1, .int a1), (2, .int a2)]) dX6_in_4 (by decide) rfl 5 rfl ?_
  refine z_iload_n hX dX6_in_5 0 rfl 6 rfl ?_
  refine z_if_lt hX 37 dX6_in_6 (by decide) 9 rfl (fun c3 => ?_) (fun c3 => ?_)
  · replace h := br_pos h c3
    refine z_iconst hX (v := (-1)) dX6_in_37 rfl 38 rfl ?_
    replace h := Option.some.inj h
    subst h
    exact z_iret hX dX6_in_38 rfl hk
  · replace h := br_neg h c3
    refine z_aload_n hX dX6_in_9 1 rfl 10 rfl ?_
    refine z_get6 hX (k := 0) (j := 0) (v := .ref (gL Γ (1))) kdc_0 (by decide) rfl dX6_in_10 fl_X6_10 13 rfl ?_
    refine z_iload_n hX dX6_in_13 3 rfl 14 rfl ?_
    replace h := cl_elim h
    obtain ⟨x5, s4, hx5, h⟩ := h
    refine z_cV2i hX (b := 1) (As := [.int a2]) (c_X2_isLife hx5) lk_X6_117 rfl kdc_1 ds_X2_isLife rfl (by decide) (by decide) (by decide) dX6_in_14 rfl 17 rfl ?_
    refine z_if_eq hX 37 dX6_in_17 (by decide) 20 rfl (fun c6 => ?_) (fun c6 => ?_)
    · replace h := br_pos h c6
      refine z_iconst hX (v := (-1)) dX6_in_37 rfl 38 rfl ?_
      replace h := Option.some.inj h
      subst h
      exact z_iret hX dX6_in_38 rfl hk
    · replace h := br_neg h c6
      refine z_aload_n hX dX6_in_20 1 rfl 21 rfl ?_
      refine z_get6 hX (k := 0) (j := 0) (v := .ref (gL Γ (1))) kdc_0 (by decide) rfl dX6_in_21 fl_X6_10 24 rfl ?_
      refine z_get2 hX (k := 1) (j := 9) (v := .ref (gL Γ (8))) kdc_1 (by decide) rfl dX6_in_24 fl_X6_164 27 rfl ?_
      refine z_iload_n hX dX6_in_27 3 rfl 28 rfl ?_
      refine z_bipush hX (v := (nI 20)) dX6_in_28 (by decide) 30 rfl ?_
      refine z_imul hX dX6_in_30 31 rfl ?_
      refine z_iload_n hX dX6_in_31 0 rfl 32 rfl ?_
      refine z_iadd hX dX6_in_32 33 rfl ?_
      replace h := gd_elim h
      obtain ⟨g7, h⟩ := h
      refine z_iald hX (inb_vp g7) dX6_in_33 34 rfl ?_
      refine z_goto hX 38 dX6_in_34 (by decide) ?_
      replace h := Option.some.inj h
      subst h
      exact z_iret hX dX6_in_38 rfl hk
theorem c_X6_in {lc : Launch} {Γ : Gm} {a1 : Int32} {a2 : Int32} {s s2 : St} {v : Int32} (h : f_X6_in a1 a2 s = some (v, s2)) : Ct lc Γ yX6_in cX6_in 4 (some .int) 1 [.ref (gL Γ (0)), .int a1, .int a2] s (some (.int v), s2) := Ct.of (by decide +kernel) (Nat.le_of_ble_eq_true rfl) (fun X hl hX => e_X6_in hX h rfl)
theorem dX6_air_0 : decode cX6_air 0 = .ok (.iload_n 1, 1) := by decide +kernel
theorem dX6_air_1 : decode cX6_air 1 = .ok (.iconst 0, 1) := by decide +kernel
theorem dX6_air_2 : decode cX6_air 2 = .ok (.iconst 5, 1) := by decide +kernel
theorem dX6_air_3 : decode cX6_air 3 = .ok (.invokestatic 62, 3) := by decide +kernel
theorem dX6_air_6 : decode cX6_air 6 = .ok (.ifCond .eq 15, 3) := by decide +kernel
theorem dX6_air_9 : decode cX6_air 9 = .ok (.aload_n 0, 1) := by decide +kernel
theorem dX6_air_10 : decode cX6_air 10 = .ok (.getfield 10, 3) := by decide +kernel
theorem dX6_air_13 : decode cX6_air 13 = .ok (.getfield 167, 3) := by decide +kernel
theorem dX6_air_16 : decode cX6_air 16 = .ok (.iload_n 1, 1) := by decide +kernel
theorem dX6_air_17 : decode cX6_air 17 = .ok (.iaload, 1) := by decide +kernel
theorem dX6_air_18 : decode cX6_air 18 = .ok (.goto 4, 3) := by decide +kernel
theorem dX6_air_21 : decode cX6_air 21 = .ok (.iconst (-1), 1) := by decide +kernel
theorem dX6_air_22 : decode cX6_air 22 = .ok (.ireturn, 1) := by decide +kernel
def f_X6_air (a1 : Int32) (s : St) : Option (Int32 × St) := cl (f_X6_isWithin a1 (nI 0) (nI 5) s) (fun x2 s1 => if x2 = 0 then (some (((-1), s1))) else (if inb a1 (lnI 12) = true then some (((s1.1 12 (a1).toNatClampNeg), s1)) else none))
set_option maxHeartbeats 4000000 in
set_option maxRecDepth 100000 in
theorem e_X6_air {X : Cx} {Γ : Gm} {r0 : Rb} (hX : Amb X Γ cX6_air RX6 2 (some .int) 1) {a1 : Int32} {s : St} {t : Int32 × St} (h : f_X6_air a1 s = some t) (hk : (fun t : Int32 × St => Rt X Γ r0 (some (Value.int t.1), t.2)) t) : Zw X Γ 2 r0 s 0 [(0, .ref (gL Γ (0))), (1, .int a1)] [] := by
  unfold f_X6_air at h
  refine z_iload_n hX dX6_air_0 1 rfl 1 rfl ?_
  refine z_iconst hX (v := (nI 0)) dX6_air_1 rfl 2 rfl ?_
  refine z_iconst hX (v := (nI 5)) dX6_air_2 rfl 3 rfl ?_
  replace h := cl_elim h
  obtain ⟨x2, s1, hx2, h⟩ := h
  refine z_cSi hX (As := [.int a1, .int ((nI 0)), .int ((nI 5))]) (c_X6_isWithin hx2) lk_X6_62 ds_X6_isWithin rfl (by decide) (by decide) (by decide) dX6_air_3 rfl 6 rfl ?_
  refine z_if_eq hX 21 dX6_air_6 (by decide) 9 rfl (fun c3 => ?_) (fun c3 => ?_)
  · replace h := br_pos h c3
    refine z_iconst hX (v := (-1)) dX6_air_21 rfl 22 rfl ?_
    replace h := Option.some.inj h
    subst h
    exact z_iret hX dX6_air_22 rfl hk
  · replace h := br_neg h c3
    refine z_aload_n hX dX6_air_9 0 rfl 10 rfl ?_
    refine z_get6 hX (k := 0) (j := 0) (v := .ref (gL Γ (1))) kdc_0 (by decide) rfl dX6_air_10 fl_X6_10 13 rfl ?_
    refine z_get2 hX (k := 1) (j := 13) (v := .ref (gL Γ (12))) kdc_1 (by decide) rfl dX6_air_13 fl_X6_167 16 rfl ?_
    refine z_iload_n hX dX6_air_16 1 rfl 17 rfl ?_
    replace h := gd_elim h
    obtain ⟨g4, h⟩ := h
    refine z_iald hX (inb_vp g4) dX6_air_17 18 rfl ?_
    refine z_goto hX 22 dX6_air_18 (by decide) ?_
    replace h := Option.some.inj h
    subst h
    exact z_iret hX dX6_air_22 rfl hk
theorem c_X6_air {lc : Launch} {Γ : Gm} {a1 : Int32} {s s2 : St} {v : Int32} (h : f_X6_air a1 s = some (v, s2)) : Ct lc Γ yX6_air cX6_air 2 (some .int) 1 [.ref (gL Γ (0)), .int a1] s (some (.int v), s2) := Ct.of (by decide +kernel) (Nat.le_of_ble_eq_true rfl) (fun X hl hX => e_X6_air hX h rfl)
theorem dX6_alter_0 : decode cX6_alter 0 = .ok (.aload_n 0, 1) := by decide +kernel
theorem dX6_alter_1 : decode cX6_alter 1 = .ok (.getfield 10, 3) := by decide +kernel
theorem dX6_alter_4 : decode cX6_alter 4 = .ok (.iload_n 1, 1) := by decide +kernel
theorem dX6_alter_5 : decode cX6_alter 5 = .ok (.invokevirtual 117, 3) := by decide +kernel
theorem dX6_alter_8 : decode cX6_alter 8 = .ok (.ifCond .ne 5, 3) := by decide +kernel
theorem dX6_alter_11 : decode cX6_alter 11 = .ok (.iconst (-1), 1) := by decide +kernel
theorem dX6_alter_12 : decode cX6_alter 12 = .ok (.ireturn, 1) := by decide +kernel
theorem dX6_alter_13 : decode cX6_alter 13 = .ok (.iload_n 2, 1) := by decide +kernel
theorem dX6_alter_14 : decode cX6_alter 14 = .ok (.tableswitch 140 0 3 #[30, 56, 86, 113], 30) := by decide +kernel
theorem dX6_alter_44 : decode cX6_alter 44 = .ok (.iload_n 3, 1) := by decide +kernel
theorem dX6_alter_45 : decode cX6_alter 45 = .ok (.iconst 0, 1) := by decide +kernel
theorem dX6_alter_46 : decode cX6_alter 46 = .ok (.iconst 3, 1) := by decide +kernel
theorem dX6_alter_47 : decode cX6_alter 47 = .ok (.invokestatic 62, 3) := by decide +kernel
theorem dX6_alter_50 : decode cX6_alter 50 = .ok (.ifCond .eq 18, 3) := by decide +kernel
theorem dX6_alter_53 : decode cX6_alter 53 = .ok (.aload_n 0, 1) := by decide +kernel
theorem dX6_alter_54 : decode cX6_alter 54 = .ok (.getfield 10, 3) := by decide +kernel
theorem dX6_alter_57 : decode cX6_alter 57 = .ok (.getfield 120, 3) := by decide +kernel
theorem dX6_alter_60 : decode cX6_alter 60 = .ok (.iload_n 1, 1) := by decide +kernel
theorem dX6_alter_61 : decode cX6_alter 61 = .ok (.iload_n 3, 1) := by decide +kernel
theorem dX6_alter_62 : decode cX6_alter 62 = .ok (.invokestatic 170, 3) := by decide +kernel
theorem dX6_alter_65 : decode cX6_alter 65 = .ok (.goto 4, 3) := by decide +kernel
theorem dX6_alter_68 : decode cX6_alter 68 = .ok (.iconst (-1), 1) := by decide +kernel
theorem dX6_alter_69 : decode cX6_alter 69 = .ok (.ireturn, 1) := by decide +kernel
theorem dX6_alter_70 : decode cX6_alter 70 = .ok (.iload_n 3, 1) := by decide +kernel
theorem dX6_alter_71 : decode cX6_alter 71 = .ok (.invokestatic 174, 3) := by decide +kernel
theorem dX6_alter_74 : decode cX6_alter 74 = .ok (.ifCond .eq 24, 3) := by decide +kernel
theorem dX6_alter_77 : decode cX6_alter 77 = .ok (.aload_n 0, 1) := by decide +kernel
theorem dX6_alter_78 : decode cX6_alter 78 = .ok (.getfield 10, 3) := by decide +kernel
theorem dX6_alter_81 : decode cX6_alter 81 = .ok (.getfield 123, 3) := by decide +kernel
theorem dX6_alter_84 : decode cX6_alter 84 = .ok (.iload_n 1, 1) := by decide +kernel
theorem dX6_alter_85 : decode cX6_alter 85 = .ok (.iload_n 3, 1) := by decide +kernel
theorem dX6_alter_86 : decode cX6_alter 86 = .ok (.invokestatic 161, 3) := by decide +kernel
theorem dX6_alter_89 : decode cX6_alter 89 = .ok (.invokestatic 170, 3) := by decide +kernel
theorem dX6_alter_92 : decode cX6_alter 92 = .ok (.invokestatic 126, 3) := by decide +kernel
theorem dX6_alter_95 : decode cX6_alter 95 = .ok (.goto 4, 3) := by decide +kernel
theorem dX6_alter_98 : decode cX6_alter 98 = .ok (.iconst (-1), 1) := by decide +kernel
theorem dX6_alter_99 : decode cX6_alter 99 = .ok (.ireturn, 1) := by decide +kernel
theorem dX6_alter_100 : decode cX6_alter 100 = .ok (.iload_n 3, 1) := by decide +kernel
theorem dX6_alter_101 : decode cX6_alter 101 = .ok (.iconst 1, 1) := by decide +kernel
theorem dX6_alter_102 : decode cX6_alter 102 = .ok (.bipush 9, 2) := by decide +kernel
theorem dX6_alter_104 : decode cX6_alter 104 = .ok (.invokestatic 62, 3) := by decide +kernel
theorem dX6_alter_107 : decode cX6_alter 107 = .ok (.ifCond .eq 18, 3) := by decide +kernel
theorem dX6_alter_110 : decode cX6_alter 110 = .ok (.aload_n 0, 1) := by decide +kernel
theorem dX6_alter_111 : decode cX6_alter 111 = .ok (.getfield 10, 3) := by decide +kernel
theorem dX6_alter_114 : decode cX6_alter 114 = .ok (.getfield 130, 3) := by decide +kernel
theorem dX6_alter_117 : decode cX6_alter 117 = .ok (.iload_n 1, 1) := by decide +kernel
theorem dX6_alter_118 : decode cX6_alter 118 = .ok (.iload_n 3, 1) := by decide +kernel
theorem dX6_alter_119 : decode cX6_alter 119 = .ok (.invokestatic 170, 3) := by decide +kernel
theorem dX6_alter_122 : decode cX6_alter 122 = .ok (.goto 4, 3) := by decide +kernel
theorem dX6_alter_125 : decode cX6_alter 125 = .ok (.iconst (-1), 1) := by decide +kernel
theorem dX6_alter_126 : decode cX6_alter 126 = .ok (.ireturn, 1) := by decide +kernel
theorem dX6_alter_127 : decode cX6_alter 127 = .ok (.iload_n 3, 1) := by decide +kernel
theorem dX6_alter_128 : decode cX6_alter 128 = .ok (.iconst 0, 1) := by decide +kernel
theorem dX6_alter_129 : decode cX6_alter 129 = .ok (.bipush 99, 2) := by decide +kernel
theorem dX6_alter_131 : decode cX6_alter 131 = .ok (.invokestatic 62, 3) := by decide +kernel
theorem dX6_alter_134 : decode cX6_alter 134 = .ok (.ifCond .eq 18, 3) := by decide +kernel
theorem dX6_alter_137 : decode cX6_alter 137 = .ok (.aload_n 0, 1) := by decide +kernel
theorem dX6_alter_138 : decode cX6_alter 138 = .ok (.getfield 10, 3) := by decide +kernel
theorem dX6_alter_141 : decode cX6_alter 141 = .ok (.getfield 133, 3) := by decide +kernel
theorem dX6_alter_144 : decode cX6_alter 144 = .ok (.iload_n 1, 1) := by decide +kernel
theorem dX6_alter_145 : decode cX6_alter 145 = .ok (.iload_n 3, 1) := by decide +kernel
theorem dX6_alter_146 : decode cX6_alter 146 = .ok (.invokestatic 170, 3) := by decide +kernel
theorem dX6_alter_149 : decode cX6_alter 149 = .ok (.goto 4, 3) := by decide +kernel
theorem dX6_alter_152 : decode cX6_alter 152 = .ok (.iconst (-1), 1) := by decide +kernel
theorem dX6_alter_153 : decode cX6_alter 153 = .ok (.ireturn, 1) := by decide +kernel
theorem dX6_alter_154 : decode cX6_alter 154 = .ok (.iconst (-1), 1) := by decide +kernel
theorem dX6_alter_155 : decode cX6_alter 155 = .ok (.ireturn, 1) := by decide +kernel
def f_X6_alter (a1 : Int32) (a2 : Int32) (a3 : Int32) (s : St) : Option (Int32 × St) := cl (f_X2_isLife 1 a1 s) (fun x2 s1 => if ¬ x2 = 0 then (if a2 = (nI 0) then (cl (f_X6_isWithin a3 (nI 0) (nI 3) s1) (fun x6 s5 => if x6 = 0 then (some (((-1), s5))) else (cl (f_X6_replace 2 a1 a3 s5) (fun x9 s8 => some ((x9, s8)))))) else (if a2 = (nI 1) then (cl (f_X6_isCell a3 s1) (fun x12 s11 => if x12 = 0 then (some (((-1), s11))) else (cl (f_X6_cellOf a3 s11) (fun x15 s14 => cl (f_X6_replace 3 a1 x15 s14) (fun x17 s16 => cl (f_X6_nameOf x17 s16) (fun x19 s18 => some ((x19, s18)))))))) else (if a2 = (nI 2) then (cl (f_X6_isWithin a3 (nI 1) (nI 9) s1) (fun x22 s21 => if x22 = 0 then (some (((-1), s21))) else (cl (f_X6_replace 4 a1 a3 s21) (fun x25 s24 => some ((x25, s24)))))) else (if a2 = (nI 3) then (cl (f_X6_isWithin a3 (nI 0) (nI 99) s1) (fun x28 s27 => if x28 = 0 then (some (((-1), s27))) else (cl (f_X6_replace 5 a1 a3 s27) (fun x31 s30 => some ((x31, s30)))))) else (if (a2).toInt < 0 ∨ 3 < (a2).toInt then (some (((-1), s1))) else none))))) else (some (((-1), s1))))
set_option maxHeartbeats 4000000 in
set_option maxRecDepth 100000 in
theorem e_X6_alter {X : Cx} {Γ : Gm} {r0 : Rb} (hX : Amb X Γ cX6_alter RX6 4 (some .int) 2) {a1 : Int32} {a2 : Int32} {a3 : Int32} {s : St} {t : Int32 × St} (h : f_X6_alter a1 a2 a3 s = some t) (hk : (fun t : Int32 × St => Rt X Γ r0 (some (Value.int t.1), t.2)) t) : Zw X Γ 4 r0 s 0 [(0, .ref (gL Γ (0))), (1, .int a1), (2, .int a2), (3, .int a3)] [] := by
  unfold f_X6_alter at h
  refine z_aload_n hX dX6_alter_0 0 rfl 1 rfl ?_
  refine z_get6 hX (k := 0) (j := 0) (v := .ref (gL Γ (1))) kdc_0 (by decide) rfl dX6_alter_1 fl_X6_10 4 rfl ?_
  refine z_iload_n hX dX6_alter_4 1 rfl 5 rfl ?_
  replace h := cl_elim h
  obtain ⟨x2, s1, hx2, h⟩ := h
  refine z_cV2i hX (b := 1) (As := [.int a1]) (c_X2_isLife hx2) lk_X6_117 rfl kdc_1 ds_X2_isLife rfl (by decide) (by decide) (by decide) dX6_alter_5 rfl 8 rfl ?_
  refine z_if_ne hX 13 dX6_alter_8 (by decide) 11 rfl (fun c3 => ?_) (fun c3 => ?_)
  · replace h := br_pos h c3
    refine z_iload_n hX dX6_alter_13 2 rfl 14 rfl ?_
    by_cases c4 : a2 = (nI 0)
    · replace h := br_pos h c4
      refine z_tcase hX (off := 30) 44 dX6_alter_14 (nI 0) c4 (by decide) (by decide) ?_
      refine z_iload_n hX dX6_alter_44 3 rfl 45 rfl ?_
      refine z_iconst hX (v := (nI 0)) dX6_alter_45 rfl 46 rfl ?_
      refine z_iconst hX (v := (nI 3)) dX6_alter_46 rfl 47 rfl ?_
      replace h := cl_elim h
      obtain ⟨x6, s5, hx6, h⟩ := h
      refine z_cSi hX (As := [.int a3, .int ((nI 0)), .int ((nI 3))]) (c_X6_isWithin hx6) lk_X6_62 ds_X6_isWithin rfl (by decide) (by decide) (by decide) dX6_alter_47 rfl 50 rfl ?_
      refine z_if_eq hX 68 dX6_alter_50 (by decide) 53 rfl (fun c7 => ?_) (fun c7 => ?_)
      · replace h := br_pos h c7
        refine z_iconst hX (v := (-1)) dX6_alter_68 rfl 69 rfl ?_
        replace h := Option.some.inj h
        subst h
        exact z_iret hX dX6_alter_69 rfl hk
      · replace h := br_neg h c7
        refine z_aload_n hX dX6_alter_53 0 rfl 54 rfl ?_
        refine z_get6 hX (k := 0) (j := 0) (v := .ref (gL Γ (1))) kdc_0 (by decide) rfl dX6_alter_54 fl_X6_10 57 rfl ?_
        refine z_get2 hX (k := 1) (j := 3) (v := .ref (gL Γ (2))) kdc_1 (by decide) rfl dX6_alter_57 fl_X6_120 60 rfl ?_
        refine z_iload_n hX dX6_alter_60 1 rfl 61 rfl ?_
        refine z_iload_n hX dX6_alter_61 3 rfl 62 rfl ?_
        replace h := cl_elim h
        obtain ⟨x9, s8, hx9, h⟩ := h
        refine z_cSi hX (As := [.ref (gL Γ (2)), .int a1, .int a3]) (c_X6_replace hx9) lk_X6_170 ds_X6_replace rfl (by decide) (by decide) (by decide) dX6_alter_62 rfl 65 rfl ?_
        refine z_goto hX 69 dX6_alter_65 (by decide) ?_
        replace h := Option.some.inj h
        subst h
        exact z_iret hX dX6_alter_69 rfl hk
    replace h := br_neg h c4
    by_cases c10 : a2 = (nI 1)
    · replace h := br_pos h c10
      refine z_tcase hX (off := 56) 70 dX6_alter_14 (nI 1) c10 (by decide) (by decide) ?_
      refine z_iload_n hX dX6_alter_70 3 rfl 71 rfl ?_
      replace h := cl_elim h
      obtain ⟨x12, s11, hx12, h⟩ := h
      refine z_cSi hX (As := [.int a3]) (c_X6_isCell hx12) lk_X6_174 ds_X6_isCell rfl (by decide) (by decide) (by decide) dX6_alter_71 rfl 74 rfl ?_
      refine z_if_eq hX 98 dX6_alter_74 (by decide) 77 rfl (fun c13 => ?_) (fun c13 => ?_)
      · replace h := br_pos h c13
        refine z_iconst hX (v := (-1)) dX6_alter_98 rfl 99 rfl ?_
        replace h := Option.some.inj h
        subst h
        exact z_iret hX dX6_alter_99 rfl hk
      · replace h := br_neg h c13
        refine z_aload_n hX dX6_alter_77 0 rfl 78 rfl ?_
        refine z_get6 hX (k := 0) (j := 0) (v := .ref (gL Γ (1))) kdc_0 (by decide) rfl dX6_alter_78 fl_X6_10 81 rfl ?_
        refine z_get2 hX (k := 1) (j := 4) (v := .ref (gL Γ (3))) kdc_1 (by decide) rfl dX6_alter_81 fl_X6_123 84 rfl ?_
        refine z_iload_n hX dX6_alter_84 1 rfl 85 rfl ?_
        refine z_iload_n hX dX6_alter_85 3 rfl 86 rfl ?_
        replace h := cl_elim h
        obtain ⟨x15, s14, hx15, h⟩ := h
        refine z_cSi hX (As := [.int a3]) (c_X6_cellOf hx15) lk_X6_161 ds_X6_cellOf rfl (by decide) (by decide) (Nat.le_of_ble_eq_true rfl) dX6_alter_86 rfl 89 rfl ?_
        replace h := cl_elim h
        obtain ⟨x17, s16, hx17, h⟩ := h
        refine z_cSi hX (As := [.ref (gL Γ (3)), .int a1, .int x15]) (c_X6_replace hx17) lk_X6_170 ds_X6_replace rfl (by decide) (by decide) (by decide) dX6_alter_89 rfl 92 rfl ?_
        replace h := cl_elim h
        obtain ⟨x19, s18, hx19, h⟩ := h
        refine z_cSi hX (As := [.int x17]) (c_X6_nameOf hx19) lk_X6_126 ds_X6_nameOf rfl (by decide) (by decide) (by decide) dX6_alter_92 rfl 95 rfl ?_
        refine z_goto hX 99 dX6_alter_95 (by decide) ?_
        replace h := Option.some.inj h
        subst h
        exact z_iret hX dX6_alter_99 rfl hk
    replace h := br_neg h c10
    by_cases c20 : a2 = (nI 2)
    · replace h := br_pos h c20
      refine z_tcase hX (off := 86) 100 dX6_alter_14 (nI 2) c20 (by decide) (by decide) ?_
      refine z_iload_n hX dX6_alter_100 3 rfl 101 rfl ?_
      refine z_iconst hX (v := (nI 1)) dX6_alter_101 rfl 102 rfl ?_
      refine z_bipush hX (v := (nI 9)) dX6_alter_102 (by decide) 104 rfl ?_
      replace h := cl_elim h
      obtain ⟨x22, s21, hx22, h⟩ := h
      refine z_cSi hX (As := [.int a3, .int ((nI 1)), .int ((nI 9))]) (c_X6_isWithin hx22) lk_X6_62 ds_X6_isWithin rfl (by decide) (by decide) (by decide) dX6_alter_104 rfl 107 rfl ?_
      refine z_if_eq hX 125 dX6_alter_107 (by decide) 110 rfl (fun c23 => ?_) (fun c23 => ?_)
      · replace h := br_pos h c23
        refine z_iconst hX (v := (-1)) dX6_alter_125 rfl 126 rfl ?_
        replace h := Option.some.inj h
        subst h
        exact z_iret hX dX6_alter_126 rfl hk
      · replace h := br_neg h c23
        refine z_aload_n hX dX6_alter_110 0 rfl 111 rfl ?_
        refine z_get6 hX (k := 0) (j := 0) (v := .ref (gL Γ (1))) kdc_0 (by decide) rfl dX6_alter_111 fl_X6_10 114 rfl ?_
        refine z_get2 hX (k := 1) (j := 5) (v := .ref (gL Γ (4))) kdc_1 (by decide) rfl dX6_alter_114 fl_X6_130 117 rfl ?_
        refine z_iload_n hX dX6_alter_117 1 rfl 118 rfl ?_
        refine z_iload_n hX dX6_alter_118 3 rfl 119 rfl ?_
        replace h := cl_elim h
        obtain ⟨x25, s24, hx25, h⟩ := h
        refine z_cSi hX (As := [.ref (gL Γ (4)), .int a1, .int a3]) (c_X6_replace hx25) lk_X6_170 ds_X6_replace rfl (by decide) (by decide) (by decide) dX6_alter_119 rfl 122 rfl ?_
        refine z_goto hX 126 dX6_alter_122 (by decide) ?_
        replace h := Option.some.inj h
        subst h
        exact z_iret hX dX6_alter_126 rfl hk
    replace h := br_neg h c20
    by_cases c26 : a2 = (nI 3)
    · replace h := br_pos h c26
      refine z_tcase hX (off := 113) 127 dX6_alter_14 (nI 3) c26 (by decide) (by decide) ?_
      refine z_iload_n hX dX6_alter_127 3 rfl 128 rfl ?_
      refine z_iconst hX (v := (nI 0)) dX6_alter_128 rfl 129 rfl ?_
      refine z_bipush hX (v := (nI 99)) dX6_alter_129 (by decide) 131 rfl ?_
      replace h := cl_elim h
      obtain ⟨x28, s27, hx28, h⟩ := h
      refine z_cSi hX (As := [.int a3, .int ((nI 0)), .int ((nI 99))]) (c_X6_isWithin hx28) lk_X6_62 ds_X6_isWithin rfl (by decide) (by decide) (by decide) dX6_alter_131 rfl 134 rfl ?_
      refine z_if_eq hX 152 dX6_alter_134 (by decide) 137 rfl (fun c29 => ?_) (fun c29 => ?_)
      · replace h := br_pos h c29
        refine z_iconst hX (v := (-1)) dX6_alter_152 rfl 153 rfl ?_
        replace h := Option.some.inj h
        subst h
        exact z_iret hX dX6_alter_153 rfl hk
      · replace h := br_neg h c29
        refine z_aload_n hX dX6_alter_137 0 rfl 138 rfl ?_
        refine z_get6 hX (k := 0) (j := 0) (v := .ref (gL Γ (1))) kdc_0 (by decide) rfl dX6_alter_138 fl_X6_10 141 rfl ?_
        refine z_get2 hX (k := 1) (j := 6) (v := .ref (gL Γ (5))) kdc_1 (by decide) rfl dX6_alter_141 fl_X6_133 144 rfl ?_
        refine z_iload_n hX dX6_alter_144 1 rfl 145 rfl ?_
        refine z_iload_n hX dX6_alter_145 3 rfl 146 rfl ?_
        replace h := cl_elim h
        obtain ⟨x31, s30, hx31, h⟩ := h
        refine z_cSi hX (As := [.ref (gL Γ (5)), .int a1, .int a3]) (c_X6_replace hx31) lk_X6_170 ds_X6_replace rfl (by decide) (by decide) (by decide) dX6_alter_146 rfl 149 rfl ?_
        refine z_goto hX 153 dX6_alter_149 (by decide) ?_
        replace h := Option.some.inj h
        subst h
        exact z_iret hX dX6_alter_153 rfl hk
    replace h := br_neg h c26
    replace h := gd_elim h
    obtain ⟨g32, h⟩ := h
    refine z_tdef hX 154 dX6_alter_14 g32 (by decide) ?_
    refine z_iconst hX (v := (-1)) dX6_alter_154 rfl 155 rfl ?_
    replace h := Option.some.inj h
    subst h
    exact z_iret hX dX6_alter_155 rfl hk
  · replace h := br_neg h c3
    refine z_iconst hX (v := (-1)) dX6_alter_11 rfl 12 rfl ?_
    replace h := Option.some.inj h
    subst h
    exact z_iret hX dX6_alter_12 rfl hk
theorem c_X6_alter {lc : Launch} {Γ : Gm} {a1 : Int32} {a2 : Int32} {a3 : Int32} {s s2 : St} {v : Int32} (h : f_X6_alter a1 a2 a3 s = some (v, s2)) : Ct lc Γ yX6_alter cX6_alter 4 (some .int) 2 [.ref (gL Γ (0)), .int a1, .int a2, .int a3] s (some (.int v), s2) := Ct.of (by decide +kernel) (Nat.le_of_ble_eq_true rfl) (fun X hl hX => e_X6_alter hX h rfl)
theorem dX6_seat_0 : decode cX6_seat 0 = .ok (.aload_n 0, 1) := by decide +kernel
theorem dX6_seat_1 : decode cX6_seat 1 = .ok (.getfield 10, 3) := by decide +kernel
theorem dX6_seat_4 : decode cX6_seat 4 = .ok (.iload_n 1, 1) := by decide +kernel
theorem dX6_seat_5 : decode cX6_seat 5 = .ok (.invokevirtual 139, 3) := by decide +kernel
theorem dX6_seat_8 : decode cX6_seat 8 = .ok (.ifCond .ne 5, 3) := by decide +kernel
theorem dX6_seat_11 : decode cX6_seat 11 = .ok (.iconst (-1), 1) := by decide +kernel
theorem dX6_seat_12 : decode cX6_seat 12 = .ok (.ireturn, 1) := by decide +kernel
theorem dX6_seat_13 : decode cX6_seat 13 = .ok (.iload_n 2, 1) := by decide +kernel
theorem dX6_seat_14 : decode cX6_seat 14 = .ok (.lookupswitch 83 #[(0, 26), (1, 56)], 26) := by decide +kernel
theorem dX6_seat_40 : decode cX6_seat 40 = .ok (.iload_n 3, 1) := by decide +kernel
theorem dX6_seat_41 : decode cX6_seat 41 = .ok (.invokestatic 174, 3) := by decide +kernel
theorem dX6_seat_44 : decode cX6_seat 44 = .ok (.ifCond .eq 24, 3) := by decide +kernel
theorem dX6_seat_47 : decode cX6_seat 47 = .ok (.aload_n 0, 1) := by decide +kernel
theorem dX6_seat_48 : decode cX6_seat 48 = .ok (.getfield 10, 3) := by decide +kernel
theorem dX6_seat_51 : decode cX6_seat 51 = .ok (.getfield 142, 3) := by decide +kernel
theorem dX6_seat_54 : decode cX6_seat 54 = .ok (.iload_n 1, 1) := by decide +kernel
theorem dX6_seat_55 : decode cX6_seat 55 = .ok (.iload_n 3, 1) := by decide +kernel
theorem dX6_seat_56 : decode cX6_seat 56 = .ok (.invokestatic 161, 3) := by decide +kernel
theorem dX6_seat_59 : decode cX6_seat 59 = .ok (.invokestatic 170, 3) := by decide +kernel
theorem dX6_seat_62 : decode cX6_seat 62 = .ok (.invokestatic 126, 3) := by decide +kernel
theorem dX6_seat_65 : decode cX6_seat 65 = .ok (.goto 4, 3) := by decide +kernel
theorem dX6_seat_68 : decode cX6_seat 68 = .ok (.iconst (-1), 1) := by decide +kernel
theorem dX6_seat_69 : decode cX6_seat 69 = .ok (.ireturn, 1) := by decide +kernel
theorem dX6_seat_70 : decode cX6_seat 70 = .ok (.iload_n 3, 1) := by decide +kernel
theorem dX6_seat_71 : decode cX6_seat 71 = .ok (.iconst 0, 1) := by decide +kernel
theorem dX6_seat_72 : decode cX6_seat 72 = .ok (.bipush 9, 2) := by decide +kernel
theorem dX6_seat_74 : decode cX6_seat 74 = .ok (.invokestatic 62, 3) := by decide +kernel
theorem dX6_seat_77 : decode cX6_seat 77 = .ok (.ifCond .eq 18, 3) := by decide +kernel
theorem dX6_seat_80 : decode cX6_seat 80 = .ok (.aload_n 0, 1) := by decide +kernel
theorem dX6_seat_81 : decode cX6_seat 81 = .ok (.getfield 10, 3) := by decide +kernel
theorem dX6_seat_84 : decode cX6_seat 84 = .ok (.getfield 145, 3) := by decide +kernel
theorem dX6_seat_87 : decode cX6_seat 87 = .ok (.iload_n 1, 1) := by decide +kernel
theorem dX6_seat_88 : decode cX6_seat 88 = .ok (.iload_n 3, 1) := by decide +kernel
theorem dX6_seat_89 : decode cX6_seat 89 = .ok (.invokestatic 170, 3) := by decide +kernel
theorem dX6_seat_92 : decode cX6_seat 92 = .ok (.goto 4, 3) := by decide +kernel
theorem dX6_seat_95 : decode cX6_seat 95 = .ok (.iconst (-1), 1) := by decide +kernel
theorem dX6_seat_96 : decode cX6_seat 96 = .ok (.ireturn, 1) := by decide +kernel
theorem dX6_seat_97 : decode cX6_seat 97 = .ok (.iconst (-1), 1) := by decide +kernel
theorem dX6_seat_98 : decode cX6_seat 98 = .ok (.ireturn, 1) := by decide +kernel
def f_X6_seat (a1 : Int32) (a2 : Int32) (a3 : Int32) (s : St) : Option (Int32 × St) := cl (f_X2_isSitter 1 a1 s) (fun x2 s1 => if ¬ x2 = 0 then (if a2 = (nI 0) then (cl (f_X6_isCell a3 s1) (fun x6 s5 => if x6 = 0 then (some (((-1), s5))) else (cl (f_X6_cellOf a3 s5) (fun x9 s8 => cl (f_X6_replace 9 a1 x9 s8) (fun x11 s10 => cl (f_X6_nameOf x11 s10) (fun x13 s12 => some ((x13, s12)))))))) else (if a2 = (nI 1) then (cl (f_X6_isWithin a3 (nI 0) (nI 9) s1) (fun x16 s15 => if x16 = 0 then (some (((-1), s15))) else (cl (f_X6_replace 10 a1 a3 s15) (fun x19 s18 => some ((x19, s18)))))) else (if ¬ 0 = (a2).toInt ∧ ¬ 1 = (a2).toInt then (some (((-1), s1))) else none))) else (some (((-1), s1))))
set_option maxHeartbeats 4000000 in
set_option maxRecDepth 100000 in
theorem e_X6_seat {X : Cx} {Γ : Gm} {r0 : Rb} (hX : Amb X Γ cX6_seat RX6 4 (some .int) 2) {a1 : Int32} {a2 : Int32} {a3 : Int32} {s : St} {t : Int32 × St} (h : f_X6_seat a1 a2 a3 s = some t) (hk : (fun t : Int32 × St => Rt X Γ r0 (some (Value.int t.1), t.2)) t) : Zw X Γ 4 r0 s 0 [(0, .ref (gL Γ (0))), (1, .int a1), (2, .int a2), (3, .int a3)] [] := by
  unfold f_X6_seat at h
  refine z_aload_n hX dX6_seat_0 0 rfl 1 rfl ?_
  refine z_get6 hX (k := 0) (j := 0) (v := .ref (gL Γ (1))) kdc_0 (by decide) rfl dX6_seat_1 fl_X6_10 4 rfl ?_
  refine z_iload_n hX dX6_seat_4 1 rfl 5 rfl ?_
  replace h := cl_elim h
  obtain ⟨x2, s1, hx2, h⟩ := h
  refine z_cV2i hX (b := 1) (As := [.int a1]) (c_X2_isSitter hx2) lk_X6_139 rfl kdc_1 ds_X2_isSitter rfl (by decide) (by decide) (by decide) dX6_seat_5 rfl 8 rfl ?_
  refine z_if_ne hX 13 dX6_seat_8 (by decide) 11 rfl (fun c3 => ?_) (fun c3 => ?_)
  · replace h := br_pos h c3
    refine z_iload_n hX dX6_seat_13 2 rfl 14 rfl ?_
    by_cases c4 : a2 = (nI 0)
    · replace h := br_pos h c4
      refine z_look hX (off := 26) 40 dX6_seat_14 (by decide) (by rw [c4]; decide) (by decide) ?_
      refine z_iload_n hX dX6_seat_40 3 rfl 41 rfl ?_
      replace h := cl_elim h
      obtain ⟨x6, s5, hx6, h⟩ := h
      refine z_cSi hX (As := [.int a3]) (c_X6_isCell hx6) lk_X6_174 ds_X6_isCell rfl (by decide) (by decide) (by decide) dX6_seat_41 rfl 44 rfl ?_
      refine z_if_eq hX 68 dX6_seat_44 (by decide) 47 rfl (fun c7 => ?_) (fun c7 => ?_)
      · replace h := br_pos h c7
        refine z_iconst hX (v := (-1)) dX6_seat_68 rfl 69 rfl ?_
        replace h := Option.some.inj h
        subst h
        exact z_iret hX dX6_seat_69 rfl hk
      · replace h := br_neg h c7
        refine z_aload_n hX dX6_seat_47 0 rfl 48 rfl ?_
        refine z_get6 hX (k := 0) (j := 0) (v := .ref (gL Γ (1))) kdc_0 (by decide) rfl dX6_seat_48 fl_X6_10 51 rfl ?_
        refine z_get2 hX (k := 1) (j := 10) (v := .ref (gL Γ (9))) kdc_1 (by decide) rfl dX6_seat_51 fl_X6_142 54 rfl ?_
        refine z_iload_n hX dX6_seat_54 1 rfl 55 rfl ?_
        refine z_iload_n hX dX6_seat_55 3 rfl 56 rfl ?_
        replace h := cl_elim h
        obtain ⟨x9, s8, hx9, h⟩ := h
        refine z_cSi hX (As := [.int a3]) (c_X6_cellOf hx9) lk_X6_161 ds_X6_cellOf rfl (by decide) (by decide) (Nat.le_of_ble_eq_true rfl) dX6_seat_56 rfl 59 rfl ?_
        replace h := cl_elim h
        obtain ⟨x11, s10, hx11, h⟩ := h
        refine z_cSi hX (As := [.ref (gL Γ (9)), .int a1, .int x9]) (c_X6_replace hx11) lk_X6_170 ds_X6_replace rfl (by decide) (by decide) (by decide) dX6_seat_59 rfl 62 rfl ?_
        replace h := cl_elim h
        obtain ⟨x13, s12, hx13, h⟩ := h
        refine z_cSi hX (As := [.int x11]) (c_X6_nameOf hx13) lk_X6_126 ds_X6_nameOf rfl (by decide) (by decide) (by decide) dX6_seat_62 rfl 65 rfl ?_
        refine z_goto hX 69 dX6_seat_65 (by decide) ?_
        replace h := Option.some.inj h
        subst h
        exact z_iret hX dX6_seat_69 rfl hk
    replace h := br_neg h c4
    by_cases c14 : a2 = (nI 1)
    · replace h := br_pos h c14
      refine z_look hX (off := 56) 70 dX6_seat_14 (by decide) (by rw [c14]; decide) (by decide) ?_
      refine z_iload_n hX dX6_seat_70 3 rfl 71 rfl ?_
      refine z_iconst hX (v := (nI 0)) dX6_seat_71 rfl 72 rfl ?_
      refine z_bipush hX (v := (nI 9)) dX6_seat_72 (by decide) 74 rfl ?_
      replace h := cl_elim h
      obtain ⟨x16, s15, hx16, h⟩ := h
      refine z_cSi hX (As := [.int a3, .int ((nI 0)), .int ((nI 9))]) (c_X6_isWithin hx16) lk_X6_62 ds_X6_isWithin rfl (by decide) (by decide) (by decide) dX6_seat_74 rfl 77 rfl ?_
      refine z_if_eq hX 95 dX6_seat_77 (by decide) 80 rfl (fun c17 => ?_) (fun c17 => ?_)
      · replace h := br_pos h c17
        refine z_iconst hX (v := (-1)) dX6_seat_95 rfl 96 rfl ?_
        replace h := Option.some.inj h
        subst h
        exact z_iret hX dX6_seat_96 rfl hk
      · replace h := br_neg h c17
        refine z_aload_n hX dX6_seat_80 0 rfl 81 rfl ?_
        refine z_get6 hX (k := 0) (j := 0) (v := .ref (gL Γ (1))) kdc_0 (by decide) rfl dX6_seat_81 fl_X6_10 84 rfl ?_
        refine z_get2 hX (k := 1) (j := 11) (v := .ref (gL Γ (10))) kdc_1 (by decide) rfl dX6_seat_84 fl_X6_145 87 rfl ?_
        refine z_iload_n hX dX6_seat_87 1 rfl 88 rfl ?_
        refine z_iload_n hX dX6_seat_88 3 rfl 89 rfl ?_
        replace h := cl_elim h
        obtain ⟨x19, s18, hx19, h⟩ := h
        refine z_cSi hX (As := [.ref (gL Γ (10)), .int a1, .int a3]) (c_X6_replace hx19) lk_X6_170 ds_X6_replace rfl (by decide) (by decide) (by decide) dX6_seat_89 rfl 92 rfl ?_
        refine z_goto hX 96 dX6_seat_92 (by decide) ?_
        replace h := Option.some.inj h
        subst h
        exact z_iret hX dX6_seat_96 rfl hk
    replace h := br_neg h c14
    replace h := gd_elim h
    obtain ⟨g20, h⟩ := h
    refine z_look hX (off := 83) 97 dX6_seat_14 (by decide) (by simp [Op.lookupswitch.offset, g20]) (by decide) ?_
    refine z_iconst hX (v := (-1)) dX6_seat_97 rfl 98 rfl ?_
    replace h := Option.some.inj h
    subst h
    exact z_iret hX dX6_seat_98 rfl hk
  · replace h := br_neg h c3
    refine z_iconst hX (v := (-1)) dX6_seat_11 rfl 12 rfl ?_
    replace h := Option.some.inj h
    subst h
    exact z_iret hX dX6_seat_12 rfl hk
theorem c_X6_seat {lc : Launch} {Γ : Gm} {a1 : Int32} {a2 : Int32} {a3 : Int32} {s s2 : St} {v : Int32} (h : f_X6_seat a1 a2 a3 s = some (v, s2)) : Ct lc Γ yX6_seat cX6_seat 4 (some .int) 2 [.ref (gL Γ (0)), .int a1, .int a2, .int a3] s (some (.int v), s2) := Ct.of (by decide +kernel) (Nat.le_of_ble_eq_true rfl) (fun X hl hX => e_X6_seat hX h rfl)
theorem dX6_blow_0 : decode cX6_blow 0 = .ok (.iload_n 1, 1) := by decide +kernel
theorem dX6_blow_1 : decode cX6_blow 1 = .ok (.iconst 0, 1) := by decide +kernel
theorem dX6_blow_2 : decode cX6_blow 2 = .ok (.iconst 5, 1) := by decide +kernel
theorem dX6_blow_3 : decode cX6_blow 3 = .ok (.invokestatic 62, 3) := by decide +kernel
theorem dX6_blow_6 : decode cX6_blow 6 = .ok (.ifCond .eq 12, 3) := by decide +kernel
theorem dX6_blow_9 : decode cX6_blow 9 = .ok (.iload_n 2, 1) := by decide +kernel
theorem dX6_blow_10 : decode cX6_blow 10 = .ok (.iconst 0, 1) := by decide +kernel
theorem dX6_blow_11 : decode cX6_blow 11 = .ok (.iconst 4, 1) := by decide +kernel
theorem dX6_blow_12 : decode cX6_blow 12 = .ok (.invokestatic 62, 3) := by decide +kernel
theorem dX6_blow_15 : decode cX6_blow 15 = .ok (.ifCond .ne 5, 3) := by decide +kernel
theorem dX6_blow_18 : decode cX6_blow 18 = .ok (.iconst (-1), 1) := by decide +kernel
theorem dX6_blow_19 : decode cX6_blow 19 = .ok (.ireturn, 1) := by decide +kernel
theorem dX6_blow_20 : decode cX6_blow 20 = .ok (.aload_n 0, 1) := by decide +kernel
theorem dX6_blow_21 : decode cX6_blow 21 = .ok (.getfield 10, 3) := by decide +kernel
theorem dX6_blow_24 : decode cX6_blow 24 = .ok (.getfield 167, 3) := by decide +kernel
theorem dX6_blow_27 : decode cX6_blow 27 = .ok (.iload_n 1, 1) := by decide +kernel
theorem dX6_blow_28 : decode cX6_blow 28 = .ok (.iload_n 2, 1) := by decide +kernel
theorem dX6_blow_29 : decode cX6_blow 29 = .ok (.invokestatic 170, 3) := by decide +kernel
theorem dX6_blow_32 : decode cX6_blow 32 = .ok (.ireturn, 1) := by decide +kernel
def f_X6_blow (a1 : Int32) (a2 : Int32) (s : St) : Option (Int32 × St) := cl (f_X6_isWithin a1 (nI 0) (nI 5) s) (fun x2 s1 => if x2 = 0 then (some (((-1), s1))) else (cl (f_X6_isWithin a2 (nI 0) (nI 4) s1) (fun x5 s4 => if ¬ x5 = 0 then (cl (f_X6_replace 12 a1 a2 s4) (fun x8 s7 => some ((x8, s7)))) else (some (((-1), s4))))))
set_option maxHeartbeats 4000000 in
set_option maxRecDepth 100000 in
theorem e_X6_blow {X : Cx} {Γ : Gm} {r0 : Rb} (hX : Amb X Γ cX6_blow RX6 3 (some .int) 1) {a1 : Int32} {a2 : Int32} {s : St} {t : Int32 × St} (h : f_X6_blow a1 a2 s = some t) (hk : (fun t : Int32 × St => Rt X Γ r0 (some (Value.int t.1), t.2)) t) : Zw X Γ 3 r0 s 0 [(0, .ref (gL Γ (0))), (1, .int a1), (2, .int a2)] [] := by
  unfold f_X6_blow at h
  refine z_iload_n hX dX6_blow_0 1 rfl 1 rfl ?_
  refine z_iconst hX (v := (nI 0)) dX6_blow_1 rfl 2 rfl ?_
  refine z_iconst hX (v := (nI 5)) dX6_blow_2 rfl 3 rfl ?_
  replace h := cl_elim h
  obtain ⟨x2, s1, hx2, h⟩ := h
  refine z_cSi hX (As := [.int a1, .int ((nI 0)), .int ((nI 5))]) (c_X6_isWithin hx2) lk_X6_62 ds_X6_isWithin rfl (by decide) (by decide) (by decide) dX6_blow_3 rfl 6 rfl ?_
  refine z_if_eq hX 18 dX6_blow_6 (by decide) 9 rfl (fun c3 => ?_) (fun c3 => ?_)
  · replace h := br_pos h c3
    refine z_iconst hX (v := (-1)) dX6_blow_18 rfl 19 rfl ?_
    replace h := Option.some.inj h
    subst h
    exact z_iret hX dX6_blow_19 rfl hk
  · replace h := br_neg h c3
    refine z_iload_n hX dX6_blow_9 2 rfl 10 rfl ?_
    refine z_iconst hX (v := (nI 0)) dX6_blow_10 rfl 11 rfl ?_
    refine z_iconst hX (v := (nI 4)) dX6_blow_11 rfl 12 rfl ?_
    replace h := cl_elim h
    obtain ⟨x5, s4, hx5, h⟩ := h
    refine z_cSi hX (As := [.int a2, .int ((nI 0)), .int ((nI 4))]) (c_X6_isWithin hx5) lk_X6_62 ds_X6_isWithin rfl (by decide) (by decide) (by decide) dX6_blow_12 rfl 15 rfl ?_
    refine z_if_ne hX 20 dX6_blow_15 (by decide) 18 rfl (fun c6 => ?_) (fun c6 => ?_)
    · replace h := br_pos h c6
      refine z_aload_n hX dX6_blow_20 0 rfl 21 rfl ?_
      refine z_get6 hX (k := 0) (j := 0) (v := .ref (gL Γ (1))) kdc_0 (by decide) rfl dX6_blow_21 fl_X6_10 24 rfl ?_
      refine z_get2 hX (k := 1) (j := 13) (v := .ref (gL Γ (12))) kdc_1 (by decide) rfl dX6_blow_24 fl_X6_167 27 rfl ?_
      refine z_iload_n hX dX6_blow_27 1 rfl 28 rfl ?_
      refine z_iload_n hX dX6_blow_28 2 rfl 29 rfl ?_
      replace h := cl_elim h
      obtain ⟨x8, s7, hx8, h⟩ := h
      refine z_cSi hX (As := [.ref (gL Γ (12)), .int a1, .int a2]) (c_X6_replace hx8) lk_X6_170 ds_X6_replace rfl (by decide) (by decide) (by decide) dX6_blow_29 rfl 32 rfl ?_
      replace h := Option.some.inj h
      subst h
      exact z_iret hX dX6_blow_32 rfl hk
    · replace h := br_neg h c6
      refine z_iconst hX (v := (-1)) dX6_blow_18 rfl 19 rfl ?_
      replace h := Option.some.inj h
      subst h
      exact z_iret hX dX6_blow_19 rfl hk
theorem c_X6_blow {lc : Launch} {Γ : Gm} {a1 : Int32} {a2 : Int32} {s s2 : St} {v : Int32} (h : f_X6_blow a1 a2 s = some (v, s2)) : Ct lc Γ yX6_blow cX6_blow 3 (some .int) 1 [.ref (gL Γ (0)), .int a1, .int a2] s (some (.int v), s2) := Ct.of (by decide +kernel) (Nat.le_of_ble_eq_true rfl) (fun X hl hX => e_X6_blow hX h rfl)
theorem dX6_price_0 : decode cX6_price 0 = .ok (.iload_n 1, 1) := by decide +kernel
theorem dX6_price_1 : decode cX6_price 1 = .ok (.iconst 0, 1) := by decide +kernel
theorem dX6_price_2 : decode cX6_price 2 = .ok (.iconst 3, 1) := by decide +kernel
theorem dX6_price_3 : decode cX6_price 3 = .ok (.invokestatic 62, 3) := by decide +kernel
theorem dX6_price_6 : decode cX6_price 6 = .ok (.ifCond .eq 13, 3) := by decide +kernel
theorem dX6_price_9 : decode cX6_price 9 = .ok (.iload_n 2, 1) := by decide +kernel
theorem dX6_price_10 : decode cX6_price 10 = .ok (.iconst 0, 1) := by decide +kernel
theorem dX6_price_11 : decode cX6_price 11 = .ok (.bipush 9, 2) := by decide +kernel
theorem dX6_price_13 : decode cX6_price 13 = .ok (.invokestatic 62, 3) := by decide +kernel
theorem dX6_price_16 : decode cX6_price 16 = .ok (.ifCond .ne 5, 3) := by decide +kernel
theorem dX6_price_19 : decode cX6_price 19 = .ok (.iconst (-1), 1) := by decide +kernel
theorem dX6_price_20 : decode cX6_price 20 = .ok (.ireturn, 1) := by decide +kernel
theorem dX6_price_21 : decode cX6_price 21 = .ok (.aload_n 0, 1) := by decide +kernel
theorem dX6_price_22 : decode cX6_price 22 = .ok (.getfield 10, 3) := by decide +kernel
theorem dX6_price_25 : decode cX6_price 25 = .ok (.getfield 151, 3) := by decide +kernel
theorem dX6_price_28 : decode cX6_price 28 = .ok (.iload_n 1, 1) := by decide +kernel
theorem dX6_price_29 : decode cX6_price 29 = .ok (.iload_n 2, 1) := by decide +kernel
theorem dX6_price_30 : decode cX6_price 30 = .ok (.invokestatic 170, 3) := by decide +kernel
theorem dX6_price_33 : decode cX6_price 33 = .ok (.ireturn, 1) := by decide +kernel
def f_X6_price (a1 : Int32) (a2 : Int32) (s : St) : Option (Int32 × St) := cl (f_X6_isWithin a1 (nI 0) (nI 3) s) (fun x2 s1 => if x2 = 0 then (some (((-1), s1))) else (cl (f_X6_isWithin a2 (nI 0) (nI 9) s1) (fun x5 s4 => if ¬ x5 = 0 then (cl (f_X6_replace 13 a1 a2 s4) (fun x8 s7 => some ((x8, s7)))) else (some (((-1), s4))))))
set_option maxHeartbeats 4000000 in
set_option maxRecDepth 100000 in
theorem e_X6_price {X : Cx} {Γ : Gm} {r0 : Rb} (hX : Amb X Γ cX6_price RX6 3 (some .int) 1) {a1 : Int32} {a2 : Int32} {s : St} {t : Int32 × St} (h : f_X6_price a1 a2 s = some t) (hk : (fun t : Int32 × St => Rt X Γ r0 (some (Value.int t.1), t.2)) t) : Zw X Γ 3 r0 s 0 [(0, .ref (gL Γ (0))), (1, .int a1), (2, .int a2)] [] := by
  unfold f_X6_price at h
  refine z_iload_n hX dX6_price_0 1 rfl 1 rfl ?_
  refine z_iconst hX (v := (nI 0)) dX6_price_1 rfl 2 rfl ?_
  refine z_iconst hX (v := (nI 3)) dX6_price_2 rfl 3 rfl ?_
  replace h := cl_elim h
  obtain ⟨x2, s1, hx2, h⟩ := h
  refine z_cSi hX (As := [.int a1, .int ((nI 0)), .int ((nI 3))]) (c_X6_isWithin hx2) lk_X6_62 ds_X6_isWithin rfl (by decide) (by decide) (by decide) dX6_price_3 rfl 6 rfl ?_
  refine z_if_eq hX 19 dX6_price_6 (by decide) 9 rfl (fun c3 => ?_) (fun c3 => ?_)
  · replace h := br_pos h c3
    refine z_iconst hX (v := (-1)) dX6_price_19 rfl 20 rfl ?_
    replace h := Option.some.inj h
    subst h
    exact z_iret hX dX6_price_20 rfl hk
  · replace h := br_neg h c3
    refine z_iload_n hX dX6_price_9 2 rfl 10 rfl ?_
    refine z_iconst hX (v := (nI 0)) dX6_price_10 rfl 11 rfl ?_
    refine z_bipush hX (v := (nI 9)) dX6_price_11 (by decide) 13 rfl ?_
    replace h := cl_elim h
    obtain ⟨x5, s4, hx5, h⟩ := h
    refine z_cSi hX (As := [.int a2, .int ((nI 0)), .int ((nI 9))]) (c_X6_isWithin hx5) lk_X6_62 ds_X6_isWithin rfl (by decide) (by decide) (by decide) dX6_price_13 rfl 16 rfl ?_
    refine z_if_ne hX 21 dX6_price_16 (by decide) 19 rfl (fun c6 => ?_) (fun c6 => ?_)
    · replace h := br_pos h c6
      refine z_aload_n hX dX6_price_21 0 rfl 22 rfl ?_
      refine z_get6 hX (k := 0) (j := 0) (v := .ref (gL Γ (1))) kdc_0 (by decide) rfl dX6_price_22 fl_X6_10 25 rfl ?_
      refine z_get2 hX (k := 1) (j := 14) (v := .ref (gL Γ (13))) kdc_1 (by decide) rfl dX6_price_25 fl_X6_151 28 rfl ?_
      refine z_iload_n hX dX6_price_28 1 rfl 29 rfl ?_
      refine z_iload_n hX dX6_price_29 2 rfl 30 rfl ?_
      replace h := cl_elim h
      obtain ⟨x8, s7, hx8, h⟩ := h
      refine z_cSi hX (As := [.ref (gL Γ (13)), .int a1, .int a2]) (c_X6_replace hx8) lk_X6_170 ds_X6_replace rfl (by decide) (by decide) (by decide) dX6_price_30 rfl 33 rfl ?_
      replace h := Option.some.inj h
      subst h
      exact z_iret hX dX6_price_33 rfl hk
    · replace h := br_neg h c6
      refine z_iconst hX (v := (-1)) dX6_price_19 rfl 20 rfl ?_
      replace h := Option.some.inj h
      subst h
      exact z_iret hX dX6_price_20 rfl hk
theorem c_X6_price {lc : Launch} {Γ : Gm} {a1 : Int32} {a2 : Int32} {s s2 : St} {v : Int32} (h : f_X6_price a1 a2 s = some (v, s2)) : Ct lc Γ yX6_price cX6_price 3 (some .int) 1 [.ref (gL Γ (0)), .int a1, .int a2] s (some (.int v), s2) := Ct.of (by decide +kernel) (Nat.le_of_ble_eq_true rfl) (fun X hl hX => e_X6_price hX h rfl)
theorem dX6_open_0 : decode cX6_open 0 = .ok (.aload_n 0, 1) := by decide +kernel
theorem dX6_open_1 : decode cX6_open 1 = .ok (.getfield 10, 3) := by decide +kernel
theorem dX6_open_4 : decode cX6_open 4 = .ok (.aload_n 0, 1) := by decide +kernel
theorem dX6_open_5 : decode cX6_open 5 = .ok (.getfield 10, 3) := by decide +kernel
theorem dX6_open_8 : decode cX6_open 8 = .ok (.getfield 103, 3) := by decide +kernel
theorem dX6_open_11 : decode cX6_open 11 = .ok (.invokevirtual 106, 3) := by decide +kernel
theorem dX6_open_14 : decode cX6_open 14 = .ok (.istore_n 1, 1) := by decide +kernel
theorem dX6_open_15 : decode cX6_open 15 = .ok (.aload_n 0, 1) := by decide +kernel
theorem dX6_open_16 : decode cX6_open 16 = .ok (.getfield 10, 3) := by decide +kernel
theorem dX6_open_19 : decode cX6_open 19 = .ok (.invokevirtual 177, 3) := by decide +kernel
theorem dX6_open_22 : decode cX6_open 22 = .ok (.iload_n 1, 1) := by decide +kernel
theorem dX6_open_23 : decode cX6_open 23 = .ok (.ireturn, 1) := by decide +kernel
def f_X6_open (s : St) : Option (Int32 × St) := cl (f_X2_sumOfLives 1 7 s) (fun x2 s1 => cl (f_X2_loseAll 1 s1) (fun x4 s3 => some ((x2, s3))))
set_option maxHeartbeats 4000000 in
set_option maxRecDepth 100000 in
theorem e_X6_open {X : Cx} {Γ : Gm} {r0 : Rb} (hX : Amb X Γ cX6_open RX6 2 (some .int) 2) {s : St} {t : Int32 × St} (h : f_X6_open s = some t) (hk : (fun t : Int32 × St => Rt X Γ r0 (some (Value.int t.1), t.2)) t) : Zw X Γ 2 r0 s 0 [(0, .ref (gL Γ (0)))] [] := by
  unfold f_X6_open at h
  refine z_aload_n hX dX6_open_0 0 rfl 1 rfl ?_
  refine z_get6 hX (k := 0) (j := 0) (v := .ref (gL Γ (1))) kdc_0 (by decide) rfl dX6_open_1 fl_X6_10 4 rfl ?_
  refine z_aload_n hX dX6_open_4 0 rfl 5 rfl ?_
  refine z_get6 hX (k := 0) (j := 0) (v := .ref (gL Γ (1))) kdc_0 (by decide) rfl dX6_open_5 fl_X6_10 8 rfl ?_
  refine z_get2 hX (k := 1) (j := 8) (v := .ref (gL Γ (7))) kdc_1 (by decide) rfl dX6_open_8 fl_X6_103 11 rfl ?_
  replace h := cl_elim h
  obtain ⟨x2, s1, hx2, h⟩ := h
  refine z_cV2i hX (b := 1) (As := [.ref (gL Γ (7))]) (c_X2_sumOfLives hx2) lk_X6_106 rfl kdc_1 ds_X2_sumOfLives rfl (by decide) (by decide) (by decide) dX6_open_11 rfl 14 rfl ?_
  refine z_istore_n hX (lv2 := [(1, .int x2), (0, .ref (gL Γ (0)))]) dX6_open_14 (by decide) rfl 15 rfl ?_
  refine z_aload_n hX dX6_open_15 1 rfl 16 rfl ?_
  refine z_get6 hX (k := 0) (j := 0) (v := .ref (gL Γ (1))) kdc_0 (by decide) rfl dX6_open_16 fl_X6_10 19 rfl ?_
  replace h := cl_elim h
  obtain ⟨x4, s3, hx4, h⟩ := h
  refine z_cV2v hX (b := 1) (As := []) (c_X2_loseAll hx4) lk_X6_177 rfl kdc_1 ds_X2_loseAll rfl (by decide) (by decide) (by decide) dX6_open_19 rfl 22 rfl ?_
  refine z_iload_n hX dX6_open_22 0 rfl 23 rfl ?_
  replace h := Option.some.inj h
  subst h
  exact z_iret hX dX6_open_23 rfl hk
theorem c_X6_open {lc : Launch} {Γ : Gm} {s s2 : St} {v : Int32} (h : f_X6_open s = some (v, s2)) : Ct lc Γ yX6_open cX6_open 2 (some .int) 2 [.ref (gL Γ (0))] s (some (.int v), s2) := Ct.of (by decide +kernel) (Nat.le_of_ble_eq_true rfl) (fun X hl hX => e_X6_open hX h rfl)
theorem dX6_steps_0 : decode cX6_steps 0 = .ok (.iload_n 1, 1) := by decide +kernel
theorem dX6_steps_1 : decode cX6_steps 1 = .ok (.iconst 0, 1) := by decide +kernel
theorem dX6_steps_2 : decode cX6_steps 2 = .ok (.bipush 30, 2) := by decide +kernel
theorem dX6_steps_4 : decode cX6_steps 4 = .ok (.invokestatic 62, 3) := by decide +kernel
theorem dX6_steps_7 : decode cX6_steps 7 = .ok (.ifCond .ne 5, 3) := by decide +kernel
theorem dX6_steps_10 : decode cX6_steps 10 = .ok (.iconst (-1), 1) := by decide +kernel
theorem dX6_steps_11 : decode cX6_steps 11 = .ok (.ireturn, 1) := by decide +kernel
theorem dX6_steps_12 : decode cX6_steps 12 = .ok (.aload_n 0, 1) := by decide +kernel
theorem dX6_steps_13 : decode cX6_steps 13 = .ok (.getfield 10, 3) := by decide +kernel
theorem dX6_steps_16 : decode cX6_steps 16 = .ok (.getfield 100, 3) := by decide +kernel
theorem dX6_steps_19 : decode cX6_steps 19 = .ok (.iload_n 1, 1) := by decide +kernel
theorem dX6_steps_20 : decode cX6_steps 20 = .ok (.iadd, 1) := by decide +kernel
theorem dX6_steps_21 : decode cX6_steps 21 = .ok (.sipush 999, 3) := by decide +kernel
theorem dX6_steps_24 : decode cX6_steps 24 = .ok (.if_icmp .le 8, 3) := by decide +kernel
theorem dX6_steps_27 : decode cX6_steps 27 = .ok (.bipush (-3), 2) := by decide +kernel
theorem dX6_steps_29 : decode cX6_steps 29 = .ok (.goto 11, 3) := by decide +kernel
theorem dX6_steps_32 : decode cX6_steps 32 = .ok (.aload_n 0, 1) := by decide +kernel
theorem dX6_steps_33 : decode cX6_steps 33 = .ok (.getfield 10, 3) := by decide +kernel
theorem dX6_steps_36 : decode cX6_steps 36 = .ok (.iload_n 1, 1) := by decide +kernel
theorem dX6_steps_37 : decode cX6_steps 37 = .ok (.invokevirtual 180, 3) := by decide +kernel
theorem dX6_steps_40 : decode cX6_steps 40 = .ok (.ireturn, 1) := by decide +kernel
def f_X6_steps (a1 : Int32) (s : St) : Option (Int32 × St) := cl (f_X6_isWithin a1 (nI 0) (nI 30) s) (fun x2 s1 => if ¬ x2 = 0 then (if ((s1.1 1 2) + a1) ≤ (nI 999) then (cl (f_X2_goOn 1 a1 s1) (fun x6 s5 => some ((x6, s5)))) else (some (((-3), s1)))) else (some (((-1), s1))))
set_option maxHeartbeats 4000000 in
set_option maxRecDepth 100000 in
theorem e_X6_steps {X : Cx} {Γ : Gm} {r0 : Rb} (hX : Amb X Γ cX6_steps RX6 2 (some .int) 5) {a1 : Int32} {s : St} {t : Int32 × St} (h : f_X6_steps a1 s = some t) (hk : (fun t : Int32 × St => Rt X Γ r0 (some (Value.int t.1), t.2)) t) : Zw X Γ 2 r0 s 0 [(0, .ref (gL Γ (0))), (1, .int a1)] [] := by
  unfold f_X6_steps at h
  refine z_iload_n hX dX6_steps_0 1 rfl 1 rfl ?_
  refine z_iconst hX (v := (nI 0)) dX6_steps_1 rfl 2 rfl ?_
  refine z_bipush hX (v := (nI 30)) dX6_steps_2 (by decide) 4 rfl ?_
  replace h := cl_elim h
  obtain ⟨x2, s1, hx2, h⟩ := h
  refine z_cSi hX (As := [.int a1, .int ((nI 0)), .int ((nI 30))]) (c_X6_isWithin hx2) lk_X6_62 ds_X6_isWithin rfl (by decide) (by decide) (by decide) dX6_steps_4 rfl 7 rfl ?_
  refine z_if_ne hX 12 dX6_steps_7 (by decide) 10 rfl (fun c3 => ?_) (fun c3 => ?_)
  · replace h := br_pos h c3
    refine z_aload_n hX dX6_steps_12 0 rfl 13 rfl ?_
    refine z_get6 hX (k := 0) (j := 0) (v := .ref (gL Γ (1))) kdc_0 (by decide) rfl dX6_steps_13 fl_X6_10 16 rfl ?_
    refine z_get2 hX (k := 1) (j := 2) (v := .int ((s1.1 1 2))) kdc_1 (by decide) rfl dX6_steps_16 fl_X6_100 19 rfl ?_
    refine z_iload_n hX dX6_steps_19 1 rfl 20 rfl ?_
    refine z_iadd hX dX6_steps_20 21 rfl ?_
    refine z_sipush hX (v := (nI 999)) dX6_steps_21 (by decide) 24 rfl ?_
    refine z_icmp_le hX 32 dX6_steps_24 (by decide) 27 rfl (fun c4 => ?_) (fun c4 => ?_)
    · replace h := br_pos h c4
      refine z_aload_n hX dX6_steps_32 0 rfl 33 rfl ?_
      refine z_get6 hX (k := 0) (j := 0) (v := .ref (gL Γ (1))) kdc_0 (by decide) rfl dX6_steps_33 fl_X6_10 36 rfl ?_
      refine z_iload_n hX dX6_steps_36 1 rfl 37 rfl ?_
      replace h := cl_elim h
      obtain ⟨x6, s5, hx6, h⟩ := h
      refine z_cV2i hX (b := 1) (As := [.int a1]) (c_X2_goOn hx6) lk_X6_180 rfl kdc_1 ds_X2_goOn rfl (by decide) (by decide) (by decide) dX6_steps_37 rfl 40 rfl ?_
      replace h := Option.some.inj h
      subst h
      exact z_iret hX dX6_steps_40 rfl hk
    · replace h := br_neg h c4
      refine z_bipush hX (v := (-3)) dX6_steps_27 (by decide) 29 rfl ?_
      refine z_goto hX 40 dX6_steps_29 (by decide) ?_
      replace h := Option.some.inj h
      subst h
      exact z_iret hX dX6_steps_40 rfl hk
  · replace h := br_neg h c3
    refine z_iconst hX (v := (-1)) dX6_steps_10 rfl 11 rfl ?_
    replace h := Option.some.inj h
    subst h
    exact z_iret hX dX6_steps_11 rfl hk
theorem c_X6_steps {lc : Launch} {Γ : Gm} {a1 : Int32} {s s2 : St} {v : Int32} (h : f_X6_steps a1 s = some (v, s2)) : Ct lc Γ yX6_steps cX6_steps 2 (some .int) 5 [.ref (gL Γ (0)), .int a1] s (some (.int v), s2) := Ct.of (by decide +kernel) (Nat.le_of_ble_eq_true rfl) (fun X hl hX => e_X6_steps hX h rfl)
theorem dX6_firstTaking_0 : decode cX6_firstTaking 0 = .ok (.iconst 1, 1) := by decide +kernel
theorem dX6_firstTaking_1 : decode cX6_firstTaking 1 = .ok (.istore_n 2, 1) := by decide +kernel
theorem dX6_firstTaking_2 : decode cX6_firstTaking 2 = .ok (.iload_n 2, 1) := by decide +kernel
theorem dX6_firstTaking_3 : decode cX6_firstTaking 3 = .ok (.iload_n 1, 1) := by decide +kernel
theorem dX6_firstTaking_4 : decode cX6_firstTaking 4 = .ok (.if_icmp .gt 22, 3) := by decide +kernel
theorem dX6_firstTaking_7 : decode cX6_firstTaking 7 = .ok (.aload_n 0, 1) := by decide +kernel
theorem dX6_firstTaking_8 : decode cX6_firstTaking 8 = .ok (.getfield 16, 3) := by decide +kernel
theorem dX6_firstTaking_11 : decode cX6_firstTaking 11 = .ok (.iconst 1, 1) := by decide +kernel
theorem dX6_firstTaking_12 : decode cX6_firstTaking 12 = .ok (.invokevirtual 180, 3) := by decide +kernel
theorem dX6_firstTaking_15 : decode cX6_firstTaking 15 = .ok (.ifCond .le 5, 3) := by decide +kernel
theorem dX6_firstTaking_18 : decode cX6_firstTaking 18 = .ok (.iload_n 2, 1) := by decide +kernel
theorem dX6_firstTaking_19 : decode cX6_firstTaking 19 = .ok (.ireturn, 1) := by decide +kernel
theorem dX6_firstTaking_20 : decode cX6_firstTaking 20 = .ok (.iinc 2 1, 3) := by decide +kernel
theorem dX6_firstTaking_23 : decode cX6_firstTaking 23 = .ok (.goto (-21), 3) := by decide +kernel
theorem dX6_firstTaking_26 : decode cX6_firstTaking 26 = .ok (.bipush (-4), 2) := by decide +kernel
theorem dX6_firstTaking_28 : decode cX6_firstTaking 28 = .ok (.ireturn, 1) := by decide +kernel
def f_X6_firstTaking_L2 (v1 : Int32) (v2 : Int32) (s : St) : Option ((Int32 × St) ⊕ (Int32 × St)) := if v1 < v2 then (some (Sum.inr (((-4), s)))) else (cl (f_X2_goOn 14 (nI 1) s) (fun x3 s2 => if x3 ≤ 0 then (some (Sum.inl ((v2 + (nI 1)), s2))) else (some (Sum.inr ((v2, s2))))))
def f_X6_firstTaking (a1 : Int32) (s : St) : Option (Int32 × St) := lp (fun q : Int32 × St => f_X6_firstTaking_L2 a1 q.1 q.2) Fu ((nI 1), s)
set_option maxHeartbeats 4000000 in
set_option maxRecDepth 100000 in
theorem e_X6_firstTaking_L2 {X : Cx} {Γ : Gm} {r0 : Rb} (hX : Amb X Γ cX6_firstTaking RX6 3 (some .int) 5) {v1 : Int32} {v2 : Int32} {s : St} {t : (Int32 × St) ⊕ (Int32 × St)} (h : f_X6_firstTaking_L2 v1 v2 s = some t) (hk : (Sum.elim (fun q : Int32 × St => Zw X Γ 3 r0 q.2 2 [(0, .ref (gL Γ (0))), (1, .int v1), (2, .int q.1)] []) (fun t : Int32 × St => Rt X Γ r0 (some (Value.int t.1), t.2))) t) : Zw X Γ 3 r0 s 2 [(0, .ref (gL Γ (0))), (1, .int v1), (2, .int v2)] [] := by
  unfold f_X6_firstTaking_L2 at h
  refine z_iload_n hX dX6_firstTaking_2 2 rfl 3 rfl ?_
  refine z_iload_n hX dX6_firstTaking_3 1 rfl 4 rfl ?_
  refine z_icmp_gt hX 26 dX6_firstTaking_4 (by decide) 7 rfl (fun c1 => ?_) (fun c1 => ?_)
  · replace h := br_pos h c1
    refine z_bipush hX (v := (-4)) dX6_firstTaking_26 (by decide) 28 rfl ?_
    replace h := Option.some.inj h
    subst h
    exact z_iret hX dX6_firstTaking_28 rfl hk
  · replace h := br_neg h c1
    refine z_aload_n hX dX6_firstTaking_7 0 rfl 8 rfl ?_
    refine z_get6 hX (k := 0) (j := 1) (v := .ref (gL Γ (14))) kdc_0 (by decide) rfl dX6_firstTaking_8 fl_X6_16 11 rfl ?_
    refine z_iconst hX (v := (nI 1)) dX6_firstTaking_11 rfl 12 rfl ?_
    replace h := cl_elim h
    obtain ⟨x3, s2, hx3, h⟩ := h
    refine z_cV2i hX (b := 14) (As := [.int ((nI 1))]) (c_X2_goOn hx3) lk_X6_180 rfl kdc_14 ds_X2_goOn rfl (by decide) (by decide) (by decide) dX6_firstTaking_12 rfl 15 rfl ?_
    refine z_if_le hX 20 dX6_firstTaking_15 (by decide) 18 rfl (fun c4 => ?_) (fun c4 => ?_)
    · replace h := br_pos h c4
      refine z_iinc hX (v := (v2 + (nI 1))) (lv2 := [(2, .int ((v2 + (nI 1)))), (0, .ref (gL Γ (0))), (1, .int v1)]) dX6_firstTaking_20 2 rfl rfl (by decide) rfl 23 rfl ?_
      refine z_goto hX 2 dX6_firstTaking_23 (by decide) ?_
      replace h := Option.some.inj h
      subst h
      exact z_sub [1, 2, 0] rfl hk
    · replace h := br_neg h c4
      refine z_iload_n hX dX6_firstTaking_18 2 rfl 19 rfl ?_
      replace h := Option.some.inj h
      subst h
      exact z_iret hX dX6_firstTaking_19 rfl hk
set_option maxHeartbeats 4000000 in
set_option maxRecDepth 100000 in
theorem e_X6_firstTaking {X : Cx} {Γ : Gm} {r0 : Rb} (hX : Amb X Γ cX6_firstTaking RX6 3 (some .int) 5) {a1 : Int32} {s : St} {t : Int32 × St} (h : f_X6_firstTaking a1 s = some t) (hk : (fun t : Int32 × St => Rt X Γ r0 (some (Value.int t.1), t.2)) t) : Zw X Γ 3 r0 s 0 [(0, .ref (gL Γ (0))), (1, .int a1)] [] := by
  unfold f_X6_firstTaking at h
  refine z_iconst hX (v := (nI 1)) dX6_firstTaking_0 rfl 1 rfl ?_
  refine z_istore_n hX (lv2 := [(2, .int ((nI 1))), (0, .ref (gL Γ (0))), (1, .int a1)]) dX6_firstTaking_1 (by decide) rfl 2 rfl ?_
  exact z_sub [1, 2, 0] rfl (lp_ok (Z := fun q : Int32 × St => Zw X Γ 3 r0 q.2 2 [(0, .ref (gL Γ (0))), (1, .int a1), (2, .int q.1)] []) (fun q t h hk => e_X6_firstTaking_L2 hX h hk) Fu _ _ h hk)
theorem c_X6_firstTaking {lc : Launch} {Γ : Gm} {a1 : Int32} {s s2 : St} {v : Int32} (h : f_X6_firstTaking a1 s = some (v, s2)) : Ct lc Γ yX6_firstTaking cX6_firstTaking 3 (some .int) 5 [.ref (gL Γ (0)), .int a1] s (some (.int v), s2) := Ct.of (by decide +kernel) (Nat.le_of_ble_eq_true rfl) (fun X hl hX => e_X6_firstTaking hX h rfl)
theorem dX6_runs_0 : decode cX6_runs 0 = .ok (.iload_n 1, 1) := by decide +kernel
theorem dX6_runs_1 : decode cX6_runs 1 = .ok (.iconst 0, 1) := by decide +kernel
theorem dX6_runs_2 : decode cX6_runs 2 = .ok (.bipush 60, 2) := by decide +kernel
theorem dX6_runs_4 : decode cX6_runs 4 = .ok (.invokestatic 62, 3) := by decide +kernel
theorem dX6_runs_7 : decode cX6_runs 7 = .ok (.ifCond .eq 12, 3) := by decide +kernel
theorem dX6_runs_10 : decode cX6_runs 10 = .ok (.iload_n 2, 1) := by decide +kernel
theorem dX6_runs_11 : decode cX6_runs 11 = .ok (.iconst 0, 1) := by decide +kernel
theorem dX6_runs_12 : decode cX6_runs 12 = .ok (.iconst 3, 1) := by decide +kernel
theorem dX6_runs_13 : decode cX6_runs 13 = .ok (.invokestatic 62, 3) := by decide +kernel
theorem dX6_runs_16 : decode cX6_runs 16 = .ok (.ifCond .ne 5, 3) := by decide +kernel
theorem dX6_runs_19 : decode cX6_runs 19 = .ok (.iconst (-1), 1) := by decide +kernel
theorem dX6_runs_20 : decode cX6_runs 20 = .ok (.ireturn, 1) := by decide +kernel
theorem dX6_runs_21 : decode cX6_runs 21 = .ok (.aload_n 0, 1) := by decide +kernel
theorem dX6_runs_22 : decode cX6_runs 22 = .ok (.getfield 16, 3) := by decide +kernel
theorem dX6_runs_25 : decode cX6_runs 25 = .ok (.aload_n 0, 1) := by decide +kernel
theorem dX6_runs_26 : decode cX6_runs 26 = .ok (.getfield 10, 3) := by decide +kernel
theorem dX6_runs_29 : decode cX6_runs 29 = .ok (.invokevirtual 83, 3) := by decide +kernel
theorem dX6_runs_32 : decode cX6_runs 32 = .ok (.iload_n 2, 1) := by decide +kernel
theorem dX6_runs_33 : decode cX6_runs 33 = .ok (.iconst 3, 1) := by decide +kernel
theorem dX6_runs_34 : decode cX6_runs 34 = .ok (.if_icmp .ne 9, 3) := by decide +kernel
theorem dX6_runs_37 : decode cX6_runs 37 = .ok (.aload_n 0, 1) := by decide +kernel
theorem dX6_runs_38 : decode cX6_runs 38 = .ok (.iload_n 1, 1) := by decide +kernel
theorem dX6_runs_39 : decode cX6_runs 39 = .ok (.invokevirtual 183, 3) := by decide +kernel
theorem dX6_runs_42 : decode cX6_runs 42 = .ok (.ireturn, 1) := by decide +kernel
theorem dX6_runs_43 : decode cX6_runs 43 = .ok (.aload_n 0, 1) := by decide +kernel
theorem dX6_runs_44 : decode cX6_runs 44 = .ok (.getfield 16, 3) := by decide +kernel
theorem dX6_runs_47 : decode cX6_runs 47 = .ok (.iload_n 1, 1) := by decide +kernel
theorem dX6_runs_48 : decode cX6_runs 48 = .ok (.invokevirtual 180, 3) := by decide +kernel
theorem dX6_runs_51 : decode cX6_runs 51 = .ok (.pop, 1) := by decide +kernel
theorem dX6_runs_52 : decode cX6_runs 52 = .ok (.iload_n 2, 1) := by decide +kernel
theorem dX6_runs_53 : decode cX6_runs 53 = .ok (.ifCond .ne 11, 3) := by decide +kernel
theorem dX6_runs_56 : decode cX6_runs 56 = .ok (.aload_n 0, 1) := by decide +kernel
theorem dX6_runs_57 : decode cX6_runs 57 = .ok (.getfield 16, 3) := by decide +kernel
theorem dX6_runs_60 : decode cX6_runs 60 = .ok (.invokevirtual 113, 3) := by decide +kernel
theorem dX6_runs_63 : decode cX6_runs 63 = .ok (.ireturn, 1) := by decide +kernel
theorem dX6_runs_64 : decode cX6_runs 64 = .ok (.aload_n 0, 1) := by decide +kernel
theorem dX6_runs_65 : decode cX6_runs 65 = .ok (.getfield 16, 3) := by decide +kernel
theorem dX6_runs_68 : decode cX6_runs 68 = .ok (.iload_n 2, 1) := by decide +kernel
theorem dX6_runs_69 : decode cX6_runs 69 = .ok (.iconst 1, 1) := by decide +kernel
theorem dX6_runs_70 : decode cX6_runs 70 = .ok (.if_icmp .ne 13, 3) := by decide +kernel
theorem dX6_runs_73 : decode cX6_runs 73 = .ok (.aload_n 0, 1) := by decide +kernel
theorem dX6_runs_74 : decode cX6_runs 74 = .ok (.getfield 16, 3) := by decide +kernel
theorem dX6_runs_77 : decode cX6_runs 77 = .ok (.getfield 110, 3) := by decide +kernel
theorem dX6_runs_80 : decode cX6_runs 80 = .ok (.goto 10, 3) := by decide +kernel
theorem dX6_runs_83 : decode cX6_runs 83 = .ok (.aload_n 0, 1) := by decide +kernel
theorem dX6_runs_84 : decode cX6_runs 84 = .ok (.getfield 16, 3) := by decide +kernel
theorem dX6_runs_87 : decode cX6_runs 87 = .ok (.getfield 103, 3) := by decide +kernel
theorem dX6_runs_90 : decode cX6_runs 90 = .ok (.invokevirtual 106, 3) := by decide +kernel
theorem dX6_runs_93 : decode cX6_runs 93 = .ok (.ireturn, 1) := by decide +kernel
def f_X6_runs (a1 : Int32) (a2 : Int32) (s : St) : Option (Int32 × St) := cl (f_X6_isWithin a1 (nI 0) (nI 60) s) (fun x2 s1 => if x2 = 0 then (some (((-1), s1))) else (cl (f_X6_isWithin a2 (nI 0) (nI 3) s1) (fun x5 s4 => if ¬ x5 = 0 then (cl (f_X2_copyOf 14 1 s4) (fun x8 s7 => if ¬ a2 = (nI 3) then (cl (f_X2_goOn 14 a1 s7) (fun x11 s10 => if ¬ a2 = 0 then (if ¬ a2 = (nI 1) then (cl (f_X2_sumOfLives 14 20 s10) (fun x15 s14 => some ((x15, s14)))) else (cl (f_X2_sumOfLives 14 19 s10) (fun x17 s16 => some ((x17, s16))))) else (cl (f_X2_heldByAll 14 s10) (fun x19 s18 => some ((x19, s18)))))) else (cl (f_X6_firstTaking a1 s7) (fun x21 s20 => some ((x21, s20)))))) else (some (((-1), s4))))))
set_option maxHeartbeats 4000000 in
set_option maxRecDepth 100000 in
theorem e_X6_runs {X : Cx} {Γ : Gm} {r0 : Rb} (hX : Amb X Γ cX6_runs RX6 3 (some .int) 6) {a1 : Int32} {a2 : Int32} {s : St} {t : Int32 × St} (h : f_X6_runs a1 a2 s = some t) (hk : (fun t : Int32 × St => Rt X Γ r0 (some (Value.int t.1), t.2)) t) : Zw X Γ 3 r0 s 0 [(0, .ref (gL Γ (0))), (1, .int a1), (2, .int a2)] [] := by
  unfold f_X6_runs at h
  refine z_iload_n hX dX6_runs_0 1 rfl 1 rfl ?_
  refine z_iconst hX (v := (nI 0)) dX6_runs_1 rfl 2 rfl ?_
  refine z_bipush hX (v := (nI 60)) dX6_runs_2 (by decide) 4 rfl ?_
  replace h := cl_elim h
  obtain ⟨x2, s1, hx2, h⟩ := h
  refine z_cSi hX (As := [.int a1, .int ((nI 0)), .int ((nI 60))]) (c_X6_isWithin hx2) lk_X6_62 ds_X6_isWithin rfl (by decide) (by decide) (by decide) dX6_runs_4 rfl 7 rfl ?_
  refine z_if_eq hX 19 dX6_runs_7 (by decide) 10 rfl (fun c3 => ?_) (fun c3 => ?_)
  · replace h := br_pos h c3
    refine z_iconst hX (v := (-1)) dX6_runs_19 rfl 20 rfl ?_
    replace h := Option.some.inj h
    subst h
    exact z_iret hX dX6_runs_20 rfl hk
  · replace h := br_neg h c3
    refine z_iload_n hX dX6_runs_10 2 rfl 11 rfl ?_
    refine z_iconst hX (v := (nI 0)) dX6_runs_11 rfl 12 rfl ?_
    refine z_iconst hX (v := (nI 3)) dX6_runs_12 rfl 13 rfl ?_
    replace h := cl_elim h
    obtain ⟨x5, s4, hx5, h⟩ := h
    refine z_cSi hX (As := [.int a2, .int ((nI 0)), .int ((nI 3))]) (c_X6_isWithin hx5) lk_X6_62 ds_X6_isWithin rfl (by decide) (by decide) (by decide) dX6_runs_13 rfl 16 rfl ?_
    refine z_if_ne hX 21 dX6_runs_16 (by decide) 19 rfl (fun c6 => ?_) (fun c6 => ?_)
    · replace h := br_pos h c6
      refine z_aload_n hX dX6_runs_21 0 rfl 22 rfl ?_
      refine z_get6 hX (k := 0) (j := 1) (v := .ref (gL Γ (14))) kdc_0 (by decide) rfl dX6_runs_22 fl_X6_16 25 rfl ?_
      refine z_aload_n hX dX6_runs_25 0 rfl 26 rfl ?_
      refine z_get6 hX (k := 0) (j := 0) (v := .ref (gL Γ (1))) kdc_0 (by decide) rfl dX6_runs_26 fl_X6_10 29 rfl ?_
      replace h := cl_elim h
      obtain ⟨x8, s7, hx8, h⟩ := h
      refine z_cV2v hX (b := 14) (As := [.ref (gL Γ (1))]) (c_X2_copyOf hx8) lk_X6_83 rfl kdc_14 ds_X2_copyOf rfl (by decide) (by decide) (by decide) dX6_runs_29 rfl 32 rfl ?_
      refine z_iload_n hX dX6_runs_32 2 rfl 33 rfl ?_
      refine z_iconst hX (v := (nI 3)) dX6_runs_33 rfl 34 rfl ?_
      refine z_icmp_ne hX 43 dX6_runs_34 (by decide) 37 rfl (fun c9 => ?_) (fun c9 => ?_)
      · replace h := br_pos h c9
        refine z_aload_n hX dX6_runs_43 0 rfl 44 rfl ?_
        refine z_get6 hX (k := 0) (j := 1) (v := .ref (gL Γ (14))) kdc_0 (by decide) rfl dX6_runs_44 fl_X6_16 47 rfl ?_
        refine z_iload_n hX dX6_runs_47 1 rfl 48 rfl ?_
        replace h := cl_elim h
        obtain ⟨x11, s10, hx11, h⟩ := h
        refine z_cV2i hX (b := 14) (As := [.int a1]) (c_X2_goOn hx11) lk_X6_180 rfl kdc_14 ds_X2_goOn rfl (by decide) (by decide) (by decide) dX6_runs_48 rfl 51 rfl ?_
        refine z_pop hX dX6_runs_51 rfl 52 rfl ?_
        refine z_iload_n hX dX6_runs_52 2 rfl 53 rfl ?_
        refine z_if_ne hX 64 dX6_runs_53 (by decide) 56 rfl (fun c12 => ?_) (fun c12 => ?_)
        · replace h := br_pos h c12
          refine z_aload_n hX dX6_runs_64 0 rfl 65 rfl ?_
          refine z_get6 hX (k := 0) (j := 1) (v := .ref (gL Γ (14))) kdc_0 (by decide) rfl dX6_runs_65 fl_X6_16 68 rfl ?_
          refine z_iload_n hX dX6_runs_68 2 rfl 69 rfl ?_
          refine z_iconst hX (v := (nI 1)) dX6_runs_69 rfl 70 rfl ?_
          refine z_icmp_ne hX 83 dX6_runs_70 (by decide) 73 rfl (fun c13 => ?_) (fun c13 => ?_)
          · replace h := br_pos h c13
            refine z_aload_n hX dX6_runs_83 0 rfl 84 rfl ?_
            refine z_get6 hX (k := 0) (j := 1) (v := .ref (gL Γ (14))) kdc_0 (by decide) rfl dX6_runs_84 fl_X6_16 87 rfl ?_
            refine z_get2 hX (k := 14) (j := 8) (v := .ref (gL Γ (20))) kdc_14 (by decide) rfl dX6_runs_87 fl_X6_103 90 rfl ?_
            replace h := cl_elim h
            obtain ⟨x15, s14, hx15, h⟩ := h
            refine z_cV2i hX (b := 14) (As := [.ref (gL Γ (20))]) (c_X2_sumOfLives hx15) lk_X6_106 rfl kdc_14 ds_X2_sumOfLives rfl (by decide) (by decide) (by decide) dX6_runs_90 rfl 93 rfl ?_
            replace h := Option.some.inj h
            subst h
            exact z_iret hX dX6_runs_93 rfl hk
          · replace h := br_neg h c13
            refine z_aload_n hX dX6_runs_73 0 rfl 74 rfl ?_
            refine z_get6 hX (k := 0) (j := 1) (v := .ref (gL Γ (14))) kdc_0 (by decide) rfl dX6_runs_74 fl_X6_16 77 rfl ?_
            refine z_get2 hX (k := 14) (j := 7) (v := .ref (gL Γ (19))) kdc_14 (by decide) rfl dX6_runs_77 fl_X6_110 80 rfl ?_
            refine z_goto hX 90 dX6_runs_80 (by decide) ?_
            replace h := cl_elim h
            obtain ⟨x17, s16, hx17, h⟩ := h
            refine z_cV2i hX (b := 14) (As := [.ref (gL Γ (19))]) (c_X2_sumOfLives hx17) lk_X6_106 rfl kdc_14 ds_X2_sumOfLives rfl (by decide) (by decide) (by decide) dX6_runs_90 rfl 93 rfl ?_
            replace h := Option.some.inj h
            subst h
            exact z_iret hX dX6_runs_93 rfl hk
        · replace h := br_neg h c12
          refine z_aload_n hX dX6_runs_56 0 rfl 57 rfl ?_
          refine z_get6 hX (k := 0) (j := 1) (v := .ref (gL Γ (14))) kdc_0 (by decide) rfl dX6_runs_57 fl_X6_16 60 rfl ?_
          replace h := cl_elim h
          obtain ⟨x19, s18, hx19, h⟩ := h
          refine z_cV2i hX (b := 14) (As := []) (c_X2_heldByAll hx19) lk_X6_113 rfl kdc_14 ds_X2_heldByAll rfl (by decide) (by decide) (by decide) dX6_runs_60 rfl 63 rfl ?_
          replace h := Option.some.inj h
          subst h
          exact z_iret hX dX6_runs_63 rfl hk
      · replace h := br_neg h c9
        refine z_aload_n hX dX6_runs_37 0 rfl 38 rfl ?_
        refine z_iload_n hX dX6_runs_38 1 rfl 39 rfl ?_
        replace h := cl_elim h
        obtain ⟨x21, s20, hx21, h⟩ := h
        refine z_cV6i hX (b := 0) (As := [.int a1]) (c_X6_firstTaking hx21) lk_X6_183 rfl kdc_0 ds_X6_firstTaking rfl (by decide) (by decide) (by decide) dX6_runs_39 rfl 42 rfl ?_
        replace h := Option.some.inj h
        subst h
        exact z_iret hX dX6_runs_42 rfl hk
    · replace h := br_neg h c6
      refine z_iconst hX (v := (-1)) dX6_runs_19 rfl 20 rfl ?_
      replace h := Option.some.inj h
      subst h
      exact z_iret hX dX6_runs_20 rfl hk
theorem c_X6_runs {lc : Launch} {Γ : Gm} {a1 : Int32} {a2 : Int32} {s s2 : St} {v : Int32} (h : f_X6_runs a1 a2 s = some (v, s2)) : Ct lc Γ yX6_runs cX6_runs 3 (some .int) 6 [.ref (gL Γ (0)), .int a1, .int a2] s (some (.int v), s2) := Ct.of (by decide +kernel) (Nat.le_of_ble_eq_true rfl) (fun X hl hX => e_X6_runs hX h rfl)
theorem dX6_ahead_0 : decode cX6_ahead 0 = .ok (.aload_n 0, 1) := by decide +kernel
theorem dX6_ahead_1 : decode cX6_ahead 1 = .ok (.getfield 10, 3) := by decide +kernel
theorem dX6_ahead_4 : decode cX6_ahead 4 = .ok (.iload_n 1, 1) := by decide +kernel
theorem dX6_ahead_5 : decode cX6_ahead 5 = .ok (.invokevirtual 139, 3) := by decide +kernel
theorem dX6_ahead_8 : decode cX6_ahead 8 = .ok (.ifCond .eq 24, 3) := by decide +kernel
theorem dX6_ahead_11 : decode cX6_ahead 11 = .ok (.aload_n 0, 1) := by decide +kernel
theorem dX6_ahead_12 : decode cX6_ahead 12 = .ok (.getfield 10, 3) := by decide +kernel
theorem dX6_ahead_15 : decode cX6_ahead 15 = .ok (.iload_n 2, 1) := by decide +kernel
theorem dX6_ahead_16 : decode cX6_ahead 16 = .ok (.invokevirtual 117, 3) := by decide +kernel
theorem dX6_ahead_19 : decode cX6_ahead 19 = .ok (.ifCond .eq 13, 3) := by decide +kernel
theorem dX6_ahead_22 : decode cX6_ahead 22 = .ok (.iload_n 3, 1) := by decide +kernel
theorem dX6_ahead_23 : decode cX6_ahead 23 = .ok (.iconst 0, 1) := by decide +kernel
theorem dX6_ahead_24 : decode cX6_ahead 24 = .ok (.bipush 60, 2) := by decide +kernel
theorem dX6_ahead_26 : decode cX6_ahead 26 = .ok (.invokestatic 62, 3) := by decide +kernel
theorem dX6_ahead_29 : decode cX6_ahead 29 = .ok (.ifCond .ne 5, 3) := by decide +kernel
theorem dX6_ahead_32 : decode cX6_ahead 32 = .ok (.iconst (-1), 1) := by decide +kernel
theorem dX6_ahead_33 : decode cX6_ahead 33 = .ok (.ireturn, 1) := by decide +kernel
theorem dX6_ahead_34 : decode cX6_ahead 34 = .ok (.aload_n 0, 1) := by decide +kernel
theorem dX6_ahead_35 : decode cX6_ahead 35 = .ok (.getfield 16, 3) := by decide +kernel
theorem dX6_ahead_38 : decode cX6_ahead 38 = .ok (.aload_n 0, 1) := by decide +kernel
theorem dX6_ahead_39 : decode cX6_ahead 39 = .ok (.getfield 10, 3) := by decide +kernel
theorem dX6_ahead_42 : decode cX6_ahead 42 = .ok (.invokevirtual 83, 3) := by decide +kernel
theorem dX6_ahead_45 : decode cX6_ahead 45 = .ok (.aload_n 0, 1) := by decide +kernel
theorem dX6_ahead_46 : decode cX6_ahead 46 = .ok (.getfield 16, 3) := by decide +kernel
theorem dX6_ahead_49 : decode cX6_ahead 49 = .ok (.iload_n 3, 1) := by decide +kernel
theorem dX6_ahead_50 : decode cX6_ahead 50 = .ok (.invokevirtual 180, 3) := by decide +kernel
theorem dX6_ahead_53 : decode cX6_ahead 53 = .ok (.pop, 1) := by decide +kernel
theorem dX6_ahead_54 : decode cX6_ahead 54 = .ok (.aload_n 0, 1) := by decide +kernel
theorem dX6_ahead_55 : decode cX6_ahead 55 = .ok (.getfield 16, 3) := by decide +kernel
theorem dX6_ahead_58 : decode cX6_ahead 58 = .ok (.iload_n 1, 1) := by decide +kernel
theorem dX6_ahead_59 : decode cX6_ahead 59 = .ok (.iload_n 2, 1) := by decide +kernel
theorem dX6_ahead_60 : decode cX6_ahead 60 = .ok (.invokevirtual 157, 3) := by decide +kernel
theorem dX6_ahead_63 : decode cX6_ahead 63 = .ok (.ireturn, 1) := by decide +kernel
def f_X6_ahead (a1 : Int32) (a2 : Int32) (a3 : Int32) (s : St) : Option (Int32 × St) := cl (f_X2_isSitter 1 a1 s) (fun x2 s1 => if x2 = 0 then (some (((-1), s1))) else (cl (f_X2_isLife 1 a2 s1) (fun x5 s4 => if x5 = 0 then (some (((-1), s4))) else (cl (f_X6_isWithin a3 (nI 0) (nI 60) s4) (fun x8 s7 => if ¬ x8 = 0 then (cl (f_X2_copyOf 14 1 s7) (fun x11 s10 => cl (f_X2_goOn 14 a3 s10) (fun x13 s12 => cl (f_X2_held 14 a1 a2 s12) (fun x15 s14 => some ((x15, s14)))))) else (some (((-1), s7))))))))
set_option maxHeartbeats 4000000 in
set_option maxRecDepth 100000 in
theorem e_X6_ahead {X : Cx} {Γ : Gm} {r0 : Rb} (hX : Amb X Γ cX6_ahead RX6 4 (some .int) 5) {a1 : Int32} {a2 : Int32} {a3 : Int32} {s : St} {t : Int32 × St} (h : f_X6_ahead a1 a2 a3 s = some t) (hk : (fun t : Int32 × St => Rt X Γ r0 (some (Value.int t.1), t.2)) t) : Zw X Γ 4 r0 s 0 [(0, .ref (gL Γ (0))), (1, .int a1), (2, .int a2), (3, .int a3)] [] := by
  unfold f_X6_ahead at h
  refine z_aload_n hX dX6_ahead_0 0 rfl 1 rfl ?_
  refine z_get6 hX (k := 0) (j := 0) (v := .ref (gL Γ (1))) kdc_0 (by decide) rfl dX6_ahead_1 fl_X6_10 4 rfl ?_
  refine z_iload_n hX dX6_ahead_4 1 rfl 5 rfl ?_
  replace h := cl_elim h
  obtain ⟨x2, s1, hx2, h⟩ := h
  refine z_cV2i hX (b := 1) (As := [.int a1]) (c_X2_isSitter hx2) lk_X6_139 rfl kdc_1 ds_X2_isSitter rfl (by decide) (by decide) (by decide) dX6_ahead_5 rfl 8 rfl ?_
  refine z_if_eq hX 32 dX6_ahead_8 (by decide) 11 rfl (fun c3 => ?_) (fun c3 => ?_)
  · replace h := br_pos h c3
    refine z_iconst hX (v := (-1)) dX6_ahead_32 rfl 33 rfl ?_
    replace h := Option.some.inj h
    subst h
    exact z_iret hX dX6_ahead_33 rfl hk
  · replace h := br_neg h c3
    refine z_aload_n hX dX6_ahead_11 0 rfl 12 rfl ?_
    refine z_get6 hX (k := 0) (j := 0) (v := .ref (gL Γ (1))) kdc_0 (by decide) rfl dX6_ahead_12 fl_X6_10 15 rfl ?_
    refine z_iload_n hX dX6_ahead_15 2 rfl 16 rfl ?_
    replace h := cl_elim h
    obtain ⟨x5, s4, hx5, h⟩ := h
    refine z_cV2i hX (b := 1) (As := [.int a2]) (c_X2_isLife hx5) lk_X6_117 rfl kdc_1 ds_X2_isLife rfl (by decide) (by decide) (by decide) dX6_ahead_16 rfl 19 rfl ?_
    refine z_if_eq hX 32 dX6_ahead_19 (by decide) 22 rfl (fun c6 => ?_) (fun c6 => ?_)
    · replace h := br_pos h c6
      refine z_iconst hX (v := (-1)) dX6_ahead_32 rfl 33 rfl ?_
      replace h := Option.some.inj h
      subst h
      exact z_iret hX dX6_ahead_33 rfl hk
    · replace h := br_neg h c6
      refine z_iload_n hX dX6_ahead_22 3 rfl 23 rfl ?_
      refine z_iconst hX (v := (nI 0)) dX6_ahead_23 rfl 24 rfl ?_
      refine z_bipush hX (v := (nI 60)) dX6_ahead_24 (by decide) 26 rfl ?_
      replace h := cl_elim h
      obtain ⟨x8, s7, hx8, h⟩ := h
      refine z_cSi hX (As := [.int a3, .int ((nI 0)), .int ((nI 60))]) (c_X6_isWithin hx8) lk_X6_62 ds_X6_isWithin rfl (by decide) (by decide) (by decide) dX6_ahead_26 rfl 29 rfl ?_
      refine z_if_ne hX 34 dX6_ahead_29 (by decide) 32 rfl (fun c9 => ?_) (fun c9 => ?_)
      · replace h := br_pos h c9
        refine z_aload_n hX dX6_ahead_34 0 rfl 35 rfl ?_
        refine z_get6 hX (k := 0) (j := 1) (v := .ref (gL Γ (14))) kdc_0 (by decide) rfl dX6_ahead_35 fl_X6_16 38 rfl ?_
        refine z_aload_n hX dX6_ahead_38 0 rfl 39 rfl ?_
        refine z_get6 hX (k := 0) (j := 0) (v := .ref (gL Γ (1))) kdc_0 (by decide) rfl dX6_ahead_39 fl_X6_10 42 rfl ?_
        replace h := cl_elim h
        obtain ⟨x11, s10, hx11, h⟩ := h
        refine z_cV2v hX (b := 14) (As := [.ref (gL Γ (1))]) (c_X2_copyOf hx11) lk_X6_83 rfl kdc_14 ds_X2_copyOf rfl (by decide) (by decide) (by decide) dX6_ahead_42 rfl 45 rfl ?_
        refine z_aload_n hX dX6_ahead_45 0 rfl 46 rfl ?_
        refine z_get6 hX (k := 0) (j := 1) (v := .ref (gL Γ (14))) kdc_0 (by decide) rfl dX6_ahead_46 fl_X6_16 49 rfl ?_
        refine z_iload_n hX dX6_ahead_49 3 rfl 50 rfl ?_
        replace h := cl_elim h
        obtain ⟨x13, s12, hx13, h⟩ := h
        refine z_cV2i hX (b := 14) (As := [.int a3]) (c_X2_goOn hx13) lk_X6_180 rfl kdc_14 ds_X2_goOn rfl (by decide) (by decide) (by decide) dX6_ahead_50 rfl 53 rfl ?_
        refine z_pop hX dX6_ahead_53 rfl 54 rfl ?_
        refine z_aload_n hX dX6_ahead_54 0 rfl 55 rfl ?_
        refine z_get6 hX (k := 0) (j := 1) (v := .ref (gL Γ (14))) kdc_0 (by decide) rfl dX6_ahead_55 fl_X6_16 58 rfl ?_
        refine z_iload_n hX dX6_ahead_58 1 rfl 59 rfl ?_
        refine z_iload_n hX dX6_ahead_59 2 rfl 60 rfl ?_
        replace h := cl_elim h
        obtain ⟨x15, s14, hx15, h⟩ := h
        refine z_cV2i hX (b := 14) (As := [.int a1, .int a2]) (c_X2_held hx15) lk_X6_157 rfl kdc_14 ds_X2_held rfl (by decide) (by decide) (by decide) dX6_ahead_60 rfl 63 rfl ?_
        replace h := Option.some.inj h
        subst h
        exact z_iret hX dX6_ahead_63 rfl hk
      · replace h := br_neg h c9
        refine z_iconst hX (v := (-1)) dX6_ahead_32 rfl 33 rfl ?_
        replace h := Option.some.inj h
        subst h
        exact z_iret hX dX6_ahead_33 rfl hk
theorem c_X6_ahead {lc : Launch} {Γ : Gm} {a1 : Int32} {a2 : Int32} {a3 : Int32} {s s2 : St} {v : Int32} (h : f_X6_ahead a1 a2 a3 s = some (v, s2)) : Ct lc Γ yX6_ahead cX6_ahead 4 (some .int) 5 [.ref (gL Γ (0)), .int a1, .int a2, .int a3] s (some (.int v), s2) := Ct.of (by decide +kernel) (Nat.le_of_ble_eq_true rfl) (fun X hl hX => e_X6_ahead hX h rfl)
theorem dX6_wet_0 : decode cX6_wet 0 = .ok (.aload_n 0, 1) := by decide +kernel
theorem dX6_wet_1 : decode cX6_wet 1 = .ok (.getfield 10, 3) := by decide +kernel
theorem dX6_wet_4 : decode cX6_wet 4 = .ok (.iload_n 1, 1) := by decide +kernel
theorem dX6_wet_5 : decode cX6_wet 5 = .ok (.invokevirtual 139, 3) := by decide +kernel
theorem dX6_wet_8 : decode cX6_wet 8 = .ok (.ifCond .eq 14, 3) := by decide +kernel
theorem dX6_wet_11 : decode cX6_wet 11 = .ok (.aload_n 0, 1) := by decide +kernel
theorem dX6_wet_12 : decode cX6_wet 12 = .ok (.getfield 10, 3) := by decide +kernel
theorem dX6_wet_15 : decode cX6_wet 15 = .ok (.iload_n 2, 1) := by decide +kernel
theorem dX6_wet_16 : decode cX6_wet 16 = .ok (.invokevirtual 117, 3) := by decide +kernel
theorem dX6_wet_19 : decode cX6_wet 19 = .ok (.ifCond .ne 5, 3) := by decide +kernel
theorem dX6_wet_22 : decode cX6_wet 22 = .ok (.iconst (-1), 1) := by decide +kernel
theorem dX6_wet_23 : decode cX6_wet 23 = .ok (.ireturn, 1) := by decide +kernel
theorem dX6_wet_24 : decode cX6_wet 24 = .ok (.aload_n 0, 1) := by decide +kernel
theorem dX6_wet_25 : decode cX6_wet 25 = .ok (.getfield 16, 3) := by decide +kernel
theorem dX6_wet_28 : decode cX6_wet 28 = .ok (.aload_n 0, 1) := by decide +kernel
theorem dX6_wet_29 : decode cX6_wet 29 = .ok (.getfield 10, 3) := by decide +kernel
theorem dX6_wet_32 : decode cX6_wet 32 = .ok (.invokevirtual 83, 3) := by decide +kernel
theorem dX6_wet_35 : decode cX6_wet 35 = .ok (.iconst 1, 1) := by decide +kernel
theorem dX6_wet_36 : decode cX6_wet 36 = .ok (.istore_n 3, 1) := by decide +kernel
theorem dX6_wet_37 : decode cX6_wet 37 = .ok (.iload_n 3, 1) := by decide +kernel
theorem dX6_wet_38 : decode cX6_wet 38 = .ok (.bipush 60, 2) := by decide +kernel
theorem dX6_wet_40 : decode cX6_wet 40 = .ok (.if_icmp .gt 41, 3) := by decide +kernel
theorem dX6_wet_43 : decode cX6_wet 43 = .ok (.aload_n 0, 1) := by decide +kernel
theorem dX6_wet_44 : decode cX6_wet 44 = .ok (.getfield 16, 3) := by decide +kernel
theorem dX6_wet_47 : decode cX6_wet 47 = .ok (.iconst 1, 1) := by decide +kernel
theorem dX6_wet_48 : decode cX6_wet 48 = .ok (.invokevirtual 180, 3) := by decide +kernel
theorem dX6_wet_51 : decode cX6_wet 51 = .ok (.pop, 1) := by decide +kernel
theorem dX6_wet_52 : decode cX6_wet 52 = .ok (.aload_n 0, 1) := by decide +kernel
theorem dX6_wet_53 : decode cX6_wet 53 = .ok (.getfield 16, 3) := by decide +kernel
theorem dX6_wet_56 : decode cX6_wet 56 = .ok (.iload_n 1, 1) := by decide +kernel
theorem dX6_wet_57 : decode cX6_wet 57 = .ok (.iload_n 2, 1) := by decide +kernel
theorem dX6_wet_58 : decode cX6_wet 58 = .ok (.invokevirtual 157, 3) := by decide +kernel
theorem dX6_wet_61 : decode cX6_wet 61 = .ok (.aload_n 0, 1) := by decide +kernel
theorem dX6_wet_62 : decode cX6_wet 62 = .ok (.getfield 10, 3) := by decide +kernel
theorem dX6_wet_65 : decode cX6_wet 65 = .ok (.iload_n 1, 1) := by decide +kernel
theorem dX6_wet_66 : decode cX6_wet 66 = .ok (.iload_n 2, 1) := by decide +kernel
theorem dX6_wet_67 : decode cX6_wet 67 = .ok (.invokevirtual 157, 3) := by decide +kernel
theorem dX6_wet_70 : decode cX6_wet 70 = .ok (.if_icmp .le 5, 3) := by decide +kernel
theorem dX6_wet_73 : decode cX6_wet 73 = .ok (.iload_n 3, 1) := by decide +kernel
theorem dX6_wet_74 : decode cX6_wet 74 = .ok (.ireturn, 1) := by decide +kernel
theorem dX6_wet_75 : decode cX6_wet 75 = .ok (.iinc 3 1, 3) := by decide +kernel
theorem dX6_wet_78 : decode cX6_wet 78 = .ok (.goto (-41), 3) := by decide +kernel
theorem dX6_wet_81 : decode cX6_wet 81 = .ok (.bipush (-4), 2) := by decide +kernel
theorem dX6_wet_83 : decode cX6_wet 83 = .ok (.ireturn, 1) := by decide +kernel
def f_X6_wet_L37 (v1 : Int32) (v2 : Int32) (v3 : Int32) (s : St) : Option ((Int32 × St) ⊕ (Int32 × St)) := if (nI 60) < v3 then (some (Sum.inr (((-4), s)))) else (cl (f_X2_goOn 14 (nI 1) s) (fun x11 s10 => cl (f_X2_held 14 v1 v2 s10) (fun x13 s12 => cl (f_X2_held 1 v1 v2 s12) (fun x15 s14 => if x13 ≤ x15 then (some (Sum.inl ((v3 + (nI 1)), s14))) else (some (Sum.inr ((v3, s14))))))))
def f_X6_wet (a1 : Int32) (a2 : Int32) (s : St) : Option (Int32 × St) := cl (f_X2_isSitter 1 a1 s) (fun x2 s1 => if x2 = 0 then (some (((-1), s1))) else (cl (f_X2_isLife 1 a2 s1) (fun x5 s4 => if ¬ x5 = 0 then (cl (f_X2_copyOf 14 1 s4) (fun x8 s7 => lp (fun q : Int32 × St => f_X6_wet_L37 a1 a2 q.1 q.2) Fu ((nI 1), s7))) else (some (((-1), s4))))))
set_option maxHeartbeats 4000000 in
set_option maxRecDepth 100000 in
theorem e_X6_wet_L37 {X : Cx} {Γ : Gm} {r0 : Rb} (hX : Amb X Γ cX6_wet RX6 4 (some .int) 5) {v1 : Int32} {v2 : Int32} {v3 : Int32} {s : St} {t : (Int32 × St) ⊕ (Int32 × St)} (h : f_X6_wet_L37 v1 v2 v3 s = some t) (hk : (Sum.elim (fun q : Int32 × St => Zw X Γ 4 r0 q.2 37 [(0, .ref (gL Γ (0))), (1, .int v1), (2, .int v2), (3, .int q.1)] []) (fun t : Int32 × St => Rt X Γ r0 (some (Value.int t.1), t.2))) t) : Zw X Γ 4 r0 s 37 [(0, .ref (gL Γ (0))), (1, .int v1), (2, .int v2), (3, .int v3)] [] := by
  unfold f_X6_wet_L37 at h
  refine z_iload_n hX dX6_wet_37 3 rfl 38 rfl ?_
  refine z_bipush hX (v := (nI 60)) dX6_wet_38 (by decide) 40 rfl ?_
  refine z_icmp_gt hX 81 dX6_wet_40 (by decide) 43 rfl (fun c9 => ?_) (fun c9 => ?_)
  · replace h := br_pos h c9
    refine z_bipush hX (v := (-4)) dX6_wet_81 (by decide) 83 rfl ?_
    replace h := Option.some.inj h
    subst h
    exact z_iret hX dX6_wet_83 rfl hk
  · replace h := br_neg h c9
    refine z_aload_n hX dX6_wet_43 0 rfl 44 rfl ?_
    refine z_get6 hX (k := 0) (j := 1) (v := .ref (gL Γ (14))) kdc_0 (by decide) rfl dX6_wet_44 fl_X6_16 47 rfl ?_
    refine z_iconst hX (v := (nI 1)) dX6_wet_47 rfl 48 rfl ?_
    replace h := cl_elim h
    obtain ⟨x11, s10, hx11, h⟩ := h
    refine z_cV2i hX (b := 14) (As := [.int ((nI 1))]) (c_X2_goOn hx11) lk_X6_180 rfl kdc_14 ds_X2_goOn rfl (by decide) (by decide) (by decide) dX6_wet_48 rfl 51 rfl ?_
    refine z_pop hX dX6_wet_51 rfl 52 rfl ?_
    refine z_aload_n hX dX6_wet_52 0 rfl 53 rfl ?_
    refine z_get6 hX (k := 0) (j := 1) (v := .ref (gL Γ (14))) kdc_0 (by decide) rfl dX6_wet_53 fl_X6_16 56 rfl ?_
    refine z_iload_n hX dX6_wet_56 1 rfl 57 rfl ?_
    refine z_iload_n hX dX6_wet_57 2 rfl 58 rfl ?_
    replace h := cl_elim h
    obtain ⟨x13, s12, hx13, h⟩ := h
    refine z_cV2i hX (b := 14) (As := [.int v1, .int v2]) (c_X2_held hx13) lk_X6_157 rfl kdc_14 ds_X2_held rfl (by decide) (by decide) (by decide) dX6_wet_58 rfl 61 rfl ?_
    refine z_aload_n hX dX6_wet_61 0 rfl 62 rfl ?_
    refine z_get6 hX (k := 0) (j := 0) (v := .ref (gL Γ (1))) kdc_0 (by decide) rfl dX6_wet_62 fl_X6_10 65 rfl ?_
    refine z_iload_n hX dX6_wet_65 1 rfl 66 rfl ?_
    refine z_iload_n hX dX6_wet_66 2 rfl 67 rfl ?_
    replace h := cl_elim h
    obtain ⟨x15, s14, hx15, h⟩ := h
    refine z_cV2i hX (b := 1) (As := [.int v1, .int v2]) (c_X2_held hx15) lk_X6_157 rfl kdc_1 ds_X2_held rfl (by decide) (by decide) (Nat.le_of_ble_eq_true rfl) dX6_wet_67 rfl 70 rfl ?_
    refine z_icmp_le hX 75 dX6_wet_70 (by decide) 73 rfl (fun c16 => ?_) (fun c16 => ?_)
    · replace h := br_pos h c16
      refine z_iinc hX (v := (v3 + (nI 1))) (lv2 := [(3, .int ((v3 + (nI 1)))), (0, .ref (gL Γ (0))), (1, .int v1), (2, .int v2)]) dX6_wet_75 3 rfl rfl (by decide) rfl 78 rfl ?_
      refine z_goto hX 37 dX6_wet_78 (by decide) ?_
      replace h := Option.some.inj h
      subst h
      exact z_sub [1, 2, 3, 0] rfl hk
    · replace h := br_neg h c16
      refine z_iload_n hX dX6_wet_73 3 rfl 74 rfl ?_
      replace h := Option.some.inj h
      subst h
      exact z_iret hX dX6_wet_74 rfl hk
set_option maxHeartbeats 4000000 in
set_option maxRecDepth 100000 in
theorem e_X6_wet {X : Cx} {Γ : Gm} {r0 : Rb} (hX : Amb X Γ cX6_wet RX6 4 (some .int) 5) {a1 : Int32} {a2 : Int32} {s : St} {t : Int32 × St} (h : f_X6_wet a1 a2 s = some t) (hk : (fun t : Int32 × St => Rt X Γ r0 (some (Value.int t.1), t.2)) t) : Zw X Γ 4 r0 s 0 [(0, .ref (gL Γ (0))), (1, .int a1), (2, .int a2)] [] := by
  unfold f_X6_wet at h
  refine z_aload_n hX dX6_wet_0 0 rfl 1 rfl ?_
  refine z_get6 hX (k := 0) (j := 0) (v := .ref (gL Γ (1))) kdc_0 (by decide) rfl dX6_wet_1 fl_X6_10 4 rfl ?_
  refine z_iload_n hX dX6_wet_4 1 rfl 5 rfl ?_
  replace h := cl_elim h
  obtain ⟨x2, s1, hx2, h⟩ := h
  refine z_cV2i hX (b := 1) (As := [.int a1]) (c_X2_isSitter hx2) lk_X6_139 rfl kdc_1 ds_X2_isSitter rfl (by decide) (by decide) (by decide) dX6_wet_5 rfl 8 rfl ?_
  refine z_if_eq hX 22 dX6_wet_8 (by decide) 11 rfl (fun c3 => ?_) (fun c3 => ?_)
  · replace h := br_pos h c3
    refine z_iconst hX (v := (-1)) dX6_wet_22 rfl 23 rfl ?_
    replace h := Option.some.inj h
    subst h
    exact z_iret hX dX6_wet_23 rfl hk
  · replace h := br_neg h c3
    refine z_aload_n hX dX6_wet_11 0 rfl 12 rfl ?_
    refine z_get6 hX (k := 0) (j := 0) (v := .ref (gL Γ (1))) kdc_0 (by decide) rfl dX6_wet_12 fl_X6_10 15 rfl ?_
    refine z_iload_n hX dX6_wet_15 2 rfl 16 rfl ?_
    replace h := cl_elim h
    obtain ⟨x5, s4, hx5, h⟩ := h
    refine z_cV2i hX (b := 1) (As := [.int a2]) (c_X2_isLife hx5) lk_X6_117 rfl kdc_1 ds_X2_isLife rfl (by decide) (by decide) (by decide) dX6_wet_16 rfl 19 rfl ?_
    refine z_if_ne hX 24 dX6_wet_19 (by decide) 22 rfl (fun c6 => ?_) (fun c6 => ?_)
    · replace h := br_pos h c6
      refine z_aload_n hX dX6_wet_24 0 rfl 25 rfl ?_
      refine z_get6 hX (k := 0) (j := 1) (v := .ref (gL Γ (14))) kdc_0 (by decide) rfl dX6_wet_25 fl_X6_16 28 rfl ?_
      refine z_aload_n hX dX6_wet_28 0 rfl 29 rfl ?_
      refine z_get6 hX (k := 0) (j := 0) (v := .ref (gL Γ (1))) kdc_0 (by decide) rfl dX6_wet_29 fl_X6_10 32 rfl ?_
      replace h := cl_elim h
      obtain ⟨x8, s7, hx8, h⟩ := h
      refine z_cV2v hX (b := 14) (As := [.ref (gL Γ (1))]) (c_X2_copyOf hx8) lk_X6_83 rfl kdc_14 ds_X2_copyOf rfl (by decide) (by decide) (by decide) dX6_wet_32 rfl 35 rfl ?_
      refine z_iconst hX (v := (nI 1)) dX6_wet_35 rfl 36 rfl ?_
      refine z_istore_n hX (lv2 := [(3, .int ((nI 1))), (0, .ref (gL Γ (0))), (1, .int a1), (2, .int a2)]) dX6_wet_36 (by decide) rfl 37 rfl ?_
      exact z_sub [1, 2, 3, 0] rfl (lp_ok (Z := fun q : Int32 × St => Zw X Γ 4 r0 q.2 37 [(0, .ref (gL Γ (0))), (1, .int a1), (2, .int a2), (3, .int q.1)] []) (fun q t h hk => e_X6_wet_L37 hX h hk) Fu _ _ h hk)
    · replace h := br_neg h c6
      refine z_iconst hX (v := (-1)) dX6_wet_22 rfl 23 rfl ?_
      replace h := Option.some.inj h
      subst h
      exact z_iret hX dX6_wet_23 rfl hk
theorem c_X6_wet {lc : Launch} {Γ : Gm} {a1 : Int32} {a2 : Int32} {s s2 : St} {v : Int32} (h : f_X6_wet a1 a2 s = some (v, s2)) : Ct lc Γ yX6_wet cX6_wet 4 (some .int) 5 [.ref (gL Γ (0)), .int a1, .int a2] s (some (.int v), s2) := Ct.of (by decide +kernel) (Nat.le_of_ble_eq_true rfl) (fun X hl hX => e_X6_wet hX h rfl)
theorem dX6_over_0 : decode cX6_over 0 = .ok (.aload_n 0, 1) := by decide +kernel
theorem dX6_over_1 : decode cX6_over 1 = .ok (.getfield 16, 3) := by decide +kernel
theorem dX6_over_4 : decode cX6_over 4 = .ok (.aload_n 0, 1) := by decide +kernel
theorem dX6_over_5 : decode cX6_over 5 = .ok (.getfield 10, 3) := by decide +kernel
theorem dX6_over_8 : decode cX6_over 8 = .ok (.invokevirtual 83, 3) := by decide +kernel
theorem dX6_over_11 : decode cX6_over 11 = .ok (.iconst 0, 1) := by decide +kernel
theorem dX6_over_12 : decode cX6_over 12 = .ok (.istore_n 1, 1) := by decide +kernel
theorem dX6_over_13 : decode cX6_over 13 = .ok (.iload_n 1, 1) := by decide +kernel
theorem dX6_over_14 : decode cX6_over 14 = .ok (.bipush 60, 2) := by decide +kernel
theorem dX6_over_16 : decode cX6_over 16 = .ok (.if_icmp .gt 30, 3) := by decide +kernel
theorem dX6_over_19 : decode cX6_over 19 = .ok (.aload_n 0, 1) := by decide +kernel
theorem dX6_over_20 : decode cX6_over 20 = .ok (.getfield 16, 3) := by decide +kernel
theorem dX6_over_23 : decode cX6_over 23 = .ok (.invokevirtual 186, 3) := by decide +kernel
theorem dX6_over_26 : decode cX6_over 26 = .ok (.ifCond .eq 5, 3) := by decide +kernel
theorem dX6_over_29 : decode cX6_over 29 = .ok (.iload_n 1, 1) := by decide +kernel
theorem dX6_over_30 : decode cX6_over 30 = .ok (.ireturn, 1) := by decide +kernel
theorem dX6_over_31 : decode cX6_over 31 = .ok (.aload_n 0, 1) := by decide +kernel
theorem dX6_over_32 : decode cX6_over 32 = .ok (.getfield 16, 3) := by decide +kernel
theorem dX6_over_35 : decode cX6_over 35 = .ok (.iconst 1, 1) := by decide +kernel
theorem dX6_over_36 : decode cX6_over 36 = .ok (.invokevirtual 180, 3) := by decide +kernel
theorem dX6_over_39 : decode cX6_over 39 = .ok (.pop, 1) := by decide +kernel
theorem dX6_over_40 : decode cX6_over 40 = .ok (.iinc 1 1, 3) := by decide +kernel
theorem dX6_over_43 : decode cX6_over 43 = .ok (.goto (-30), 3) := by decide +kernel
theorem dX6_over_46 : decode cX6_over 46 = .ok (.bipush (-4), 2) := by decide +kernel
theorem dX6_over_48 : decode cX6_over 48 = .ok (.ireturn, 1) := by decide +kernel
def f_X6_over_L13 (v1 : Int32) (s : St) : Option ((Int32 × St) ⊕ (Int32 × St)) := if (nI 60) < v1 then (some (Sum.inr (((-4), s)))) else (cl (f_X2_isOver 14 s) (fun x5 s4 => if x5 = 0 then (cl (f_X2_goOn 14 (nI 1) s4) (fun x8 s7 => some (Sum.inl ((v1 + (nI 1)), s7)))) else (some (Sum.inr ((v1, s4))))))
def f_X6_over (s : St) : Option (Int32 × St) := cl (f_X2_copyOf 14 1 s) (fun x2 s1 => lp (fun q : Int32 × St => f_X6_over_L13 q.1 q.2) Fu ((nI 0), s1))
set_option maxHeartbeats 4000000 in
set_option maxRecDepth 100000 in
theorem e_X6_over_L13 {X : Cx} {Γ : Gm} {r0 : Rb} (hX : Amb X Γ cX6_over RX6 2 (some .int) 5) {v1 : Int32} {s : St} {t : (Int32 × St) ⊕ (Int32 × St)} (h : f_X6_over_L13 v1 s = some t) (hk : (Sum.elim (fun q : Int32 × St => Zw X Γ 2 r0 q.2 13 [(0, .ref (gL Γ (0))), (1, .int q.1)] []) (fun t : Int32 × St => Rt X Γ r0 (some (Value.int t.1), t.2))) t) : Zw X Γ 2 r0 s 13 [(0, .ref (gL Γ (0))), (1, .int v1)] [] := by
  unfold f_X6_over_L13 at h
  refine z_iload_n hX dX6_over_13 1 rfl 14 rfl ?_
  refine z_bipush hX (v := (nI 60)) dX6_over_14 (by decide) 16 rfl ?_
  refine z_icmp_gt hX 46 dX6_over_16 (by decide) 19 rfl (fun c3 => ?_) (fun c3 => ?_)
  · replace h := br_pos h c3
    refine z_bipush hX (v := (-4)) dX6_over_46 (by decide) 48 rfl ?_
    replace h := Option.some.inj h
    subst h
    exact z_iret hX dX6_over_48 rfl hk
  · replace h := br_neg h c3
    refine z_aload_n hX dX6_over_19 0 rfl 20 rfl ?_
    refine z_get6 hX (k := 0) (j := 1) (v := .ref (gL Γ (14))) kdc_0 (by decide) rfl dX6_over_20 fl_X6_16 23 rfl ?_
    replace h := cl_elim h
    obtain ⟨x5, s4, hx5, h⟩ := h
    refine z_cV2i hX (b := 14) (As := []) (c_X2_isOver hx5) lk_X6_186 rfl kdc_14 ds_X2_isOver rfl (by decide) (by decide) (by decide) dX6_over_23 rfl 26 rfl ?_
    refine z_if_eq hX 31 dX6_over_26 (by decide) 29 rfl (fun c6 => ?_) (fun c6 => ?_)
    · replace h := br_pos h c6
      refine z_aload_n hX dX6_over_31 0 rfl 32 rfl ?_
      refine z_get6 hX (k := 0) (j := 1) (v := .ref (gL Γ (14))) kdc_0 (by decide) rfl dX6_over_32 fl_X6_16 35 rfl ?_
      refine z_iconst hX (v := (nI 1)) dX6_over_35 rfl 36 rfl ?_
      replace h := cl_elim h
      obtain ⟨x8, s7, hx8, h⟩ := h
      refine z_cV2i hX (b := 14) (As := [.int ((nI 1))]) (c_X2_goOn hx8) lk_X6_180 rfl kdc_14 ds_X2_goOn rfl (by decide) (by decide) (by decide) dX6_over_36 rfl 39 rfl ?_
      refine z_pop hX dX6_over_39 rfl 40 rfl ?_
      refine z_iinc hX (v := (v1 + (nI 1))) (lv2 := [(1, .int ((v1 + (nI 1)))), (0, .ref (gL Γ (0)))]) dX6_over_40 1 rfl rfl (by decide) rfl 43 rfl ?_
      refine z_goto hX 13 dX6_over_43 (by decide) ?_
      replace h := Option.some.inj h
      subst h
      exact z_sub [1, 0] rfl hk
    · replace h := br_neg h c6
      refine z_iload_n hX dX6_over_29 1 rfl 30 rfl ?_
      replace h := Option.some.inj h
      subst h
      exact z_iret hX dX6_over_30 rfl hk
set_option maxHeartbeats 4000000 in
set_option maxRecDepth 100000 in
theorem e_X6_over {X : Cx} {Γ : Gm} {r0 : Rb} (hX : Amb X Γ cX6_over RX6 2 (some .int) 5) {s : St} {t : Int32 × St} (h : f_X6_over s = some t) (hk : (fun t : Int32 × St => Rt X Γ r0 (some (Value.int t.1), t.2)) t) : Zw X Γ 2 r0 s 0 [(0, .ref (gL Γ (0)))] [] := by
  unfold f_X6_over at h
  refine z_aload_n hX dX6_over_0 0 rfl 1 rfl ?_
  refine z_get6 hX (k := 0) (j := 1) (v := .ref (gL Γ (14))) kdc_0 (by decide) rfl dX6_over_1 fl_X6_16 4 rfl ?_
  refine z_aload_n hX dX6_over_4 0 rfl 5 rfl ?_
  refine z_get6 hX (k := 0) (j := 0) (v := .ref (gL Γ (1))) kdc_0 (by decide) rfl dX6_over_5 fl_X6_10 8 rfl ?_
  replace h := cl_elim h
  obtain ⟨x2, s1, hx2, h⟩ := h
  refine z_cV2v hX (b := 14) (As := [.ref (gL Γ (1))]) (c_X2_copyOf hx2) lk_X6_83 rfl kdc_14 ds_X2_copyOf rfl (by decide) (by decide) (by decide) dX6_over_8 rfl 11 rfl ?_
  refine z_iconst hX (v := (nI 0)) dX6_over_11 rfl 12 rfl ?_
  refine z_istore_n hX (lv2 := [(1, .int ((nI 0))), (0, .ref (gL Γ (0)))]) dX6_over_12 (by decide) rfl 13 rfl ?_
  exact z_sub [1, 0] rfl (lp_ok (Z := fun q : Int32 × St => Zw X Γ 2 r0 q.2 13 [(0, .ref (gL Γ (0))), (1, .int q.1)] []) (fun q t h hk => e_X6_over_L13 hX h hk) Fu _ _ h hk)
theorem c_X6_over {lc : Launch} {Γ : Gm} {s s2 : St} {v : Int32} (h : f_X6_over s = some (v, s2)) : Ct lc Γ yX6_over cX6_over 2 (some .int) 5 [.ref (gL Γ (0))] s (some (.int v), s2) := Ct.of (by decide +kernel) (Nat.le_of_ble_eq_true rfl) (fun X hl hX => e_X6_over hX h rfl)
theorem dX6_sitThere_0 : decode cX6_sitThere 0 = .ok (.aload_n 0, 1) := by decide +kernel
theorem dX6_sitThere_1 : decode cX6_sitThere 1 = .ok (.getfield 16, 3) := by decide +kernel
theorem dX6_sitThere_4 : decode cX6_sitThere 4 = .ok (.aload_n 0, 1) := by decide +kernel
theorem dX6_sitThere_5 : decode cX6_sitThere 5 = .ok (.getfield 10, 3) := by decide +kernel
theorem dX6_sitThere_8 : decode cX6_sitThere 8 = .ok (.invokevirtual 83, 3) := by decide +kernel
theorem dX6_sitThere_11 : decode cX6_sitThere 11 = .ok (.aload_n 0, 1) := by decide +kernel
theorem dX6_sitThere_12 : decode cX6_sitThere 12 = .ok (.getfield 16, 3) := by decide +kernel
theorem dX6_sitThere_15 : decode cX6_sitThere 15 = .ok (.getfield 142, 3) := by decide +kernel
theorem dX6_sitThere_18 : decode cX6_sitThere 18 = .ok (.iload_n 1, 1) := by decide +kernel
theorem dX6_sitThere_19 : decode cX6_sitThere 19 = .ok (.iload_n 2, 1) := by decide +kernel
theorem dX6_sitThere_20 : decode cX6_sitThere 20 = .ok (.iastore, 1) := by decide +kernel
theorem dX6_sitThere_21 : decode cX6_sitThere 21 = .ok (.aload_n 0, 1) := by decide +kernel
theorem dX6_sitThere_22 : decode cX6_sitThere 22 = .ok (.getfield 16, 3) := by decide +kernel
theorem dX6_sitThere_25 : decode cX6_sitThere 25 = .ok (.iload_n 3, 1) := by decide +kernel
theorem dX6_sitThere_26 : decode cX6_sitThere 26 = .ok (.invokevirtual 180, 3) := by decide +kernel
theorem dX6_sitThere_29 : decode cX6_sitThere 29 = .ok (.pop, 1) := by decide +kernel
theorem dX6_sitThere_30 : decode cX6_sitThere 30 = .ok (.return_, 1) := by decide +kernel
def f_X6_sitThere (a1 : Int32) (a2 : Int32) (a3 : Int32) (s : St) : Option (Unit × St) := cl (f_X2_copyOf 14 1 s) (fun x2 s1 => if inb a1 (lnI 22) = true then bd (wI s1 22 (a1).toNatClampNeg a2) (fun s4 => cl (f_X2_goOn 14 a3 s4) (fun x6 s5 => some (((), s5)))) else none)
set_option maxHeartbeats 4000000 in
set_option maxRecDepth 100000 in
theorem e_X6_sitThere {X : Cx} {Γ : Gm} {r0 : Rb} (hX : Amb X Γ cX6_sitThere RX6 4 none 5) {a1 : Int32} {a2 : Int32} {a3 : Int32} {s : St} {t : Unit × St} (h : f_X6_sitThere a1 a2 a3 s = some t) (hk : (fun t : Unit × St => Rt X Γ r0 (none, t.2)) t) : Zw X Γ 4 r0 s 0 [(0, .ref (gL Γ (0))), (1, .int a1), (2, .int a2), (3, .int a3)] [] := by
  unfold f_X6_sitThere at h
  refine z_aload_n hX dX6_sitThere_0 0 rfl 1 rfl ?_
  refine z_get6 hX (k := 0) (j := 1) (v := .ref (gL Γ (14))) kdc_0 (by decide) rfl dX6_sitThere_1 fl_X6_16 4 rfl ?_
  refine z_aload_n hX dX6_sitThere_4 0 rfl 5 rfl ?_
  refine z_get6 hX (k := 0) (j := 0) (v := .ref (gL Γ (1))) kdc_0 (by decide) rfl dX6_sitThere_5 fl_X6_10 8 rfl ?_
  replace h := cl_elim h
  obtain ⟨x2, s1, hx2, h⟩ := h
  refine z_cV2v hX (b := 14) (As := [.ref (gL Γ (1))]) (c_X2_copyOf hx2) lk_X6_83 rfl kdc_14 ds_X2_copyOf rfl (by decide) (by decide) (by decide) dX6_sitThere_8 rfl 11 rfl ?_
  refine z_aload_n hX dX6_sitThere_11 0 rfl 12 rfl ?_
  refine z_get6 hX (k := 0) (j := 1) (v := .ref (gL Γ (14))) kdc_0 (by decide) rfl dX6_sitThere_12 fl_X6_16 15 rfl ?_
  refine z_get2 hX (k := 14) (j := 10) (v := .ref (gL Γ (22))) kdc_14 (by decide) rfl dX6_sitThere_15 fl_X6_142 18 rfl ?_
  refine z_iload_n hX dX6_sitThere_18 1 rfl 19 rfl ?_
  refine z_iload_n hX dX6_sitThere_19 2 rfl 20 rfl ?_
  replace h := gd_elim h
  obtain ⟨g3, h⟩ := h
  replace h := bd_elim h
  obtain ⟨s4, es4, h⟩ := h
  refine z_iast hX (inb_vp g3) dX6_sitThere_20 es4 21 rfl ?_
  refine z_aload_n hX dX6_sitThere_21 0 rfl 22 rfl ?_
  refine z_get6 hX (k := 0) (j := 1) (v := .ref (gL Γ (14))) kdc_0 (by decide) rfl dX6_sitThere_22 fl_X6_16 25 rfl ?_
  refine z_iload_n hX dX6_sitThere_25 3 rfl 26 rfl ?_
  replace h := cl_elim h
  obtain ⟨x6, s5, hx6, h⟩ := h
  refine z_cV2i hX (b := 14) (As := [.int a3]) (c_X2_goOn hx6) lk_X6_180 rfl kdc_14 ds_X2_goOn rfl (by decide) (by decide) (by decide) dX6_sitThere_26 rfl 29 rfl ?_
  refine z_pop hX dX6_sitThere_29 rfl 30 rfl ?_
  replace h := Option.some.inj h
  subst h
  exact z_vret hX dX6_sitThere_30 rfl hk
theorem c_X6_sitThere {lc : Launch} {Γ : Gm} {a1 : Int32} {a2 : Int32} {a3 : Int32} {s s2 : St} {v : Unit} (h : f_X6_sitThere a1 a2 a3 s = some (v, s2)) : Ct lc Γ yX6_sitThere cX6_sitThere 4 none 5 [.ref (gL Γ (0)), .int a1, .int a2, .int a3] s (none, s2) := Ct.of (by decide +kernel) (Nat.le_of_ble_eq_true rfl) (fun X hl hX => e_X6_sitThere hX h rfl)
theorem dX6_best_0 : decode cX6_best 0 = .ok (.aload_n 0, 1) := by decide +kernel
theorem dX6_best_1 : decode cX6_best 1 = .ok (.getfield 10, 3) := by decide +kernel
theorem dX6_best_4 : decode cX6_best 4 = .ok (.iload_n 1, 1) := by decide +kernel
theorem dX6_best_5 : decode cX6_best 5 = .ok (.invokevirtual 139, 3) := by decide +kernel
theorem dX6_best_8 : decode cX6_best 8 = .ok (.ifCond .eq 24, 3) := by decide +kernel
theorem dX6_best_11 : decode cX6_best 11 = .ok (.aload_n 0, 1) := by decide +kernel
theorem dX6_best_12 : decode cX6_best 12 = .ok (.getfield 10, 3) := by decide +kernel
theorem dX6_best_15 : decode cX6_best 15 = .ok (.iload_n 2, 1) := by decide +kernel
theorem dX6_best_16 : decode cX6_best 16 = .ok (.invokevirtual 117, 3) := by decide +kernel
theorem dX6_best_19 : decode cX6_best 19 = .ok (.ifCond .eq 13, 3) := by decide +kernel
theorem dX6_best_22 : decode cX6_best 22 = .ok (.iload_n 3, 1) := by decide +kernel
theorem dX6_best_23 : decode cX6_best 23 = .ok (.iconst 0, 1) := by decide +kernel
theorem dX6_best_24 : decode cX6_best 24 = .ok (.bipush 60, 2) := by decide +kernel
theorem dX6_best_26 : decode cX6_best 26 = .ok (.invokestatic 62, 3) := by decide +kernel
theorem dX6_best_29 : decode cX6_best 29 = .ok (.ifCond .ne 5, 3) := by decide +kernel
theorem dX6_best_32 : decode cX6_best 32 = .ok (.iconst (-1), 1) := by decide +kernel
theorem dX6_best_33 : decode cX6_best 33 = .ok (.ireturn, 1) := by decide +kernel
theorem dX6_best_34 : decode cX6_best 34 = .ok (.iconst (-1), 1) := by decide +kernel
theorem dX6_best_35 : decode cX6_best 35 = .ok (.istore 4, 2) := by decide +kernel
theorem dX6_best_37 : decode cX6_best 37 = .ok (.iconst 0, 1) := by decide +kernel
theorem dX6_best_38 : decode cX6_best 38 = .ok (.istore 5, 2) := by decide +kernel
theorem dX6_best_40 : decode cX6_best 40 = .ok (.iconst 0, 1) := by decide +kernel
theorem dX6_best_41 : decode cX6_best 41 = .ok (.istore 6, 2) := by decide +kernel
theorem dX6_best_43 : decode cX6_best 43 = .ok (.iload 6, 2) := by decide +kernel
theorem dX6_best_45 : decode cX6_best 45 = .ok (.bipush 20, 2) := by decide +kernel
theorem dX6_best_47 : decode cX6_best 47 = .ok (.if_icmp .ge 46, 3) := by decide +kernel
theorem dX6_best_50 : decode cX6_best 50 = .ok (.aload_n 0, 1) := by decide +kernel
theorem dX6_best_51 : decode cX6_best 51 = .ok (.iload_n 1, 1) := by decide +kernel
theorem dX6_best_52 : decode cX6_best 52 = .ok (.iload 6, 2) := by decide +kernel
theorem dX6_best_54 : decode cX6_best 54 = .ok (.iload_n 3, 1) := by decide +kernel
theorem dX6_best_55 : decode cX6_best 55 = .ok (.invokevirtual 190, 3) := by decide +kernel
theorem dX6_best_58 : decode cX6_best 58 = .ok (.aload_n 0, 1) := by decide +kernel
theorem dX6_best_59 : decode cX6_best 59 = .ok (.getfield 16, 3) := by decide +kernel
theorem dX6_best_62 : decode cX6_best 62 = .ok (.iload_n 1, 1) := by decide +kernel
theorem dX6_best_63 : decode cX6_best 63 = .ok (.iload_n 2, 1) := by decide +kernel
theorem dX6_best_64 : decode cX6_best 64 = .ok (.invokevirtual 157, 3) := by decide +kernel
theorem dX6_best_67 : decode cX6_best 67 = .ok (.iload 4, 2) := by decide +kernel
theorem dX6_best_69 : decode cX6_best 69 = .ok (.if_icmp .le 18, 3) := by decide +kernel
theorem dX6_best_72 : decode cX6_best 72 = .ok (.aload_n 0, 1) := by decide +kernel
theorem dX6_best_73 : decode cX6_best 73 = .ok (.getfield 16, 3) := by decide +kernel
theorem dX6_best_76 : decode cX6_best 76 = .ok (.iload_n 1, 1) := by decide +kernel
theorem dX6_best_77 : decode cX6_best 77 = .ok (.iload_n 2, 1) := by decide +kernel
theorem dX6_best_78 : decode cX6_best 78 = .ok (.invokevirtual 157, 3) := by decide +kernel
theorem dX6_best_81 : decode cX6_best 81 = .ok (.istore 4, 2) := by decide +kernel
theorem dX6_best_83 : decode cX6_best 83 = .ok (.iload 6, 2) := by decide +kernel
theorem dX6_best_85 : decode cX6_best 85 = .ok (.istore 5, 2) := by decide +kernel
theorem dX6_best_87 : decode cX6_best 87 = .ok (.iinc 6 1, 3) := by decide +kernel
theorem dX6_best_90 : decode cX6_best 90 = .ok (.goto (-47), 3) := by decide +kernel
theorem dX6_best_93 : decode cX6_best 93 = .ok (.iload 5, 2) := by decide +kernel
theorem dX6_best_95 : decode cX6_best 95 = .ok (.invokestatic 126, 3) := by decide +kernel
theorem dX6_best_98 : decode cX6_best 98 = .ok (.ireturn, 1) := by decide +kernel
def f_X6_best_L43 (v1 : Int32) (v2 : Int32) (v3 : Int32) (v4 : Int32) (v5 : Int32) (v6 : Int32) (s : St) : Option ((Int32 × Int32 × Int32 × St) ⊕ (Int32 × St)) := if (nI 20) ≤ v6 then (cl (f_X6_nameOf v5 s) (fun x12 s11 => some (Sum.inr ((x12, s11))))) else (cl (f_X6_sitThere v1 v6 v3 s) (fun x14 s13 => cl (f_X2_held 14 v1 v2 s13) (fun x16 s15 => if x16 ≤ v4 then (some (Sum.inl (v4, v5, (v6 + (nI 1)), s15))) else (cl (f_X2_held 14 v1 v2 s15) (fun x19 s18 => some (Sum.inl (x19, v6, (v6 + (nI 1)), s18)))))))
def f_X6_best (a1 : Int32) (a2 : Int32) (a3 : Int32) (s : St) : Option (Int32 × St) := cl (f_X2_isSitter 1 a1 s) (fun x2 s1 => if x2 = 0 then (some (((-1), s1))) else (cl (f_X2_isLife 1 a2 s1) (fun x5 s4 => if x5 = 0 then (some (((-1), s4))) else (cl (f_X6_isWithin a3 (nI 0) (nI 60) s4) (fun x8 s7 => if ¬ x8 = 0 then (lp (fun q : Int32 × Int32 × Int32 × St => f_X6_best_L43 a1 a2 a3 q.1 q.2.1 q.2.2.1 q.2.2.2) Fu ((-1), (nI 0), (nI 0), s7)) else (some (((-1), s7))))))))
set_option maxHeartbeats 4000000 in
set_option maxRecDepth 100000 in
theorem e_X6_best_L43 {X : Cx} {Γ : Gm} {r0 : Rb} (hX : Amb X Γ cX6_best RX6 7 (some .int) 6) {v1 : Int32} {v2 : Int32} {v3 : Int32} {v4 : Int32} {v5 : Int32} {v6 : Int32} {s : St} {t : (Int32 × Int32 × Int32 × St) ⊕ (Int32 × St)} (h : f_X6_best_L43 v1 v2 v3 v4 v5 v6 s = some t) (hk : (Sum.elim (fun q : Int32 × Int32 × Int32 × St => Zw X Γ 7 r0 q.2.2.2 43 [(0, .ref (gL Γ (0))), (1, .int v1), (2, .int v2), (3, .int v3), (4, .int q.1), (5, .int q.2.1), (6, .int q.2.2.1)] []) (fun t : Int32 × St => Rt X Γ r0 (some (Value.int t.1), t.2))) t) : Zw X Γ 7 r0 s 43 [(0, .ref (gL Γ (0))), (1, .int v1), (2, .int v2), (3, .int v3), (4, .int v4), (5, .int v5), (6, .int v6)] [] := by
  unfold f_X6_best_L43 at h
  refine z_iload hX dX6_best_43 6 rfl 45 rfl ?_
  refine z_bipush hX (v := (nI 20)) dX6_best_45 (by decide) 47 rfl ?_
  refine z_icmp_ge hX 93 dX6_best_47 (by decide) 50 rfl (fun c10 => ?_) (fun c10 => ?_)
  · replace h := br_pos h c10
    refine z_iload hX dX6_best_93 5 rfl 95 rfl ?_
    replace h := cl_elim h
    obtain ⟨x12, s11, hx12, h⟩ := h
    refine z_cSi hX (As := [.int v5]) (c_X6_nameOf hx12) lk_X6_126 ds_X6_nameOf rfl (by decide) (by decide) (by decide) dX6_best_95 rfl 98 rfl ?_
    replace h := Option.some.inj h
    subst h
    exact z_iret hX dX6_best_98 rfl hk
  · replace h := br_neg h c10
    refine z_aload_n hX dX6_best_50 0 rfl 51 rfl ?_
    refine z_iload_n hX dX6_best_51 1 rfl 52 rfl ?_
    refine z_iload hX dX6_best_52 6 rfl 54 rfl ?_
    refine z_iload_n hX dX6_best_54 3 rfl 55 rfl ?_
    replace h := cl_elim h
    obtain ⟨x14, s13, hx14, h⟩ := h
    refine z_cV6v hX (b := 0) (As := [.int v1, .int v6, .int v3]) (c_X6_sitThere hx14) lk_X6_190 rfl kdc_0 ds_X6_sitThere rfl (by decide) (by decide) (by decide) dX6_best_55 rfl 58 rfl ?_
    refine z_aload_n hX dX6_best_58 0 rfl 59 rfl ?_
    refine z_get6 hX (k := 0) (j := 1) (v := .ref (gL Γ (14))) kdc_0 (by decide) rfl dX6_best_59 fl_X6_16 62 rfl ?_
    refine z_iload_n hX dX6_best_62 1 rfl 63 rfl ?_
    refine z_iload_n hX dX6_best_63 2 rfl 64 rfl ?_
    replace h := cl_elim h
    obtain ⟨x16, s15, hx16, h⟩ := h
    refine z_cV2i hX (b := 14) (As := [.int v1, .int v2]) (c_X2_held hx16) lk_X6_157 rfl kdc_14 ds_X2_held rfl (by decide) (by decide) (by decide) dX6_best_64 rfl 67 rfl ?_
    refine z_iload hX dX6_best_67 4 rfl 69 rfl ?_
    refine z_icmp_le hX 87 dX6_best_69 (by decide) 72 rfl (fun c17 => ?_) (fun c17 => ?_)
    · replace h := br_pos h c17
      refine z_iinc hX (v := (v6 + (nI 1))) (lv2 := [(6, .int ((v6 + (nI 1)))), (0, .ref (gL Γ (0))), (1, .int v1), (2, .int v2), (3, .int v3), (4, .int v4), (5, .int v5)]) dX6_best_87 6 rfl rfl (by decide) rfl 90 rfl ?_
      refine z_goto hX 43 dX6_best_90 (by decide) ?_
      replace h := Option.some.inj h
      subst h
      exact z_sub [1, 2, 3, 4, 5, 6, 0] rfl hk
    · replace h := br_neg h c17
      refine z_aload_n hX dX6_best_72 0 rfl 73 rfl ?_
      refine z_get6 hX (k := 0) (j := 1) (v := .ref (gL Γ (14))) kdc_0 (by decide) rfl dX6_best_73 fl_X6_16 76 rfl ?_
      refine z_iload_n hX dX6_best_76 1 rfl 77 rfl ?_
      refine z_iload_n hX dX6_best_77 2 rfl 78 rfl ?_
      replace h := cl_elim h
      obtain ⟨x19, s18, hx19, h⟩ := h
      refine z_cV2i hX (b := 14) (As := [.int v1, .int v2]) (c_X2_held hx19) lk_X6_157 rfl kdc_14 ds_X2_held rfl (by decide) (by decide) (by decide) dX6_best_78 rfl 81 rfl ?_
      refine z_istore hX (lv2 := [(4, .int x19), (0, .ref (gL Γ (0))), (1, .int v1), (2, .int v2), (3, .int v3), (5, .int v5), (6, .int v6)]) dX6_best_81 (by decide) rfl 83 rfl ?_
      refine z_iload hX dX6_best_83 6 rfl 85 rfl ?_
      refine z_istore hX (lv2 := [(5, .int v6), (4, .int x19), (0, .ref (gL Γ (0))), (1, .int v1), (2, .int v2), (3, .int v3), (6, .int v6)]) dX6_best_85 (by decide) rfl 87 rfl ?_
      refine z_iinc hX (v := (v6 + (nI 1))) (lv2 := [(6, .int ((v6 + (nI 1)))), (5, .int v6), (4, .int x19), (0, .ref (gL Γ (0))), (1, .int v1), (2, .int v2), (3, .int v3)]) dX6_best_87 6 rfl rfl (by decide) rfl 90 rfl ?_
      refine z_goto hX 43 dX6_best_90 (by decide) ?_
      replace h := Option.some.inj h
      subst h
      exact z_sub [3, 4, 5, 6, 2, 1, 0] rfl hk
set_option maxHeartbeats 4000000 in
set_option maxRecDepth 100000 in
theorem e_X6_best {X : Cx} {Γ : Gm} {r0 : Rb} (hX : Amb X Γ cX6_best RX6 7 (some .int) 6) {a1 : Int32} {a2 : Int32} {a3 : Int32} {s : St} {t : Int32 × St} (h : f_X6_best a1 a2 a3 s = some t) (hk : (fun t : Int32 × St => Rt X Γ r0 (some (Value.int t.1), t.2)) t) : Zw X Γ 7 r0 s 0 [(0, .ref (gL Γ (0))), (1, .int a1), (2, .int a2), (3, .int a3)] [] := by
  unfold f_X6_best at h
  refine z_aload_n hX dX6_best_0 0 rfl 1 rfl ?_
  refine z_get6 hX (k := 0) (j := 0) (v := .ref (gL Γ (1))) kdc_0 (by decide) rfl dX6_best_1 fl_X6_10 4 rfl ?_
  refine z_iload_n hX dX6_best_4 1 rfl 5 rfl ?_
  replace h := cl_elim h
  obtain ⟨x2, s1, hx2, h⟩ := h
  refine z_cV2i hX (b := 1) (As := [.int a1]) (c_X2_isSitter hx2) lk_X6_139 rfl kdc_1 ds_X2_isSitter rfl (by decide) (by decide) (by decide) dX6_best_5 rfl 8 rfl ?_
  refine z_if_eq hX 32 dX6_best_8 (by decide) 11 rfl (fun c3 => ?_) (fun c3 => ?_)
  · replace h := br_pos h c3
    refine z_iconst hX (v := (-1)) dX6_best_32 rfl 33 rfl ?_
    replace h := Option.some.inj h
    subst h
    exact z_iret hX dX6_best_33 rfl hk
  · replace h := br_neg h c3
    refine z_aload_n hX dX6_best_11 0 rfl 12 rfl ?_
    refine z_get6 hX (k := 0) (j := 0) (v := .ref (gL Γ (1))) kdc_0 (by decide) rfl dX6_best_12 fl_X6_10 15 rfl ?_
    refine z_iload_n hX dX6_best_15 2 rfl 16 rfl ?_
    replace h := cl_elim h
    obtain ⟨x5, s4, hx5, h⟩ := h
    refine z_cV2i hX (b := 1) (As := [.int a2]) (c_X2_isLife hx5) lk_X6_117 rfl kdc_1 ds_X2_isLife rfl (by decide) (by decide) (by decide) dX6_best_16 rfl 19 rfl ?_
    refine z_if_eq hX 32 dX6_best_19 (by decide) 22 rfl (fun c6 => ?_) (fun c6 => ?_)
    · replace h := br_pos h c6
      refine z_iconst hX (v := (-1)) dX6_best_32 rfl 33 rfl ?_
      replace h := Option.some.inj h
      subst h
      exact z_iret hX dX6_best_33 rfl hk
    · replace h := br_neg h c6
      refine z_iload_n hX dX6_best_22 3 rfl 23 rfl ?_
      refine z_iconst hX (v := (nI 0)) dX6_best_23 rfl 24 rfl ?_
      refine z_bipush hX (v := (nI 60)) dX6_best_24 (by decide) 26 rfl ?_
      replace h := cl_elim h
      obtain ⟨x8, s7, hx8, h⟩ := h
      refine z_cSi hX (As := [.int a3, .int ((nI 0)), .int ((nI 60))]) (c_X6_isWithin hx8) lk_X6_62 ds_X6_isWithin rfl (by decide) (by decide) (by decide) dX6_best_26 rfl 29 rfl ?_
      refine z_if_ne hX 34 dX6_best_29 (by decide) 32 rfl (fun c9 => ?_) (fun c9 => ?_)
      · replace h := br_pos h c9
        refine z_iconst hX (v := (-1)) dX6_best_34 rfl 35 rfl ?_
        refine z_istore hX (lv2 := [(4, .int ((-1))), (0, .ref (gL Γ (0))), (1, .int a1), (2, .int a2), (3, .int a3)]) dX6_best_35 (by decide) rfl 37 rfl ?_
        refine z_iconst hX (v := (nI 0)) dX6_best_37 rfl 38 rfl ?_
        refine z_istore hX (lv2 := [(5, .int ((nI 0))), (4, .int ((-1))), (0, .ref (gL Γ (0))), (1, .int a1), (2, .int a2), (3, .int a3)]) dX6_best_38 (by decide) rfl 40 rfl ?_
        refine z_iconst hX (v := (nI 0)) dX6_best_40 rfl 41 rfl ?_
        refine z_istore hX (lv2 := [(6, .int ((nI 0))), (5, .int ((nI 0))), (4, .int ((-1))), (0, .ref (gL Γ (0))), (1, .int a1), (2, .int a2), (3, .int a3)]) dX6_best_41 (by decide) rfl 43 rfl ?_
        exact z_sub [3, 4, 5, 6, 2, 1, 0] rfl (lp_ok (Z := fun q : Int32 × Int32 × Int32 × St => Zw X Γ 7 r0 q.2.2.2 43 [(0, .ref (gL Γ (0))), (1, .int a1), (2, .int a2), (3, .int a3), (4, .int q.1), (5, .int q.2.1), (6, .int q.2.2.1)] []) (fun q t h hk => e_X6_best_L43 hX h hk) Fu _ _ h hk)
      · replace h := br_neg h c9
        refine z_iconst hX (v := (-1)) dX6_best_32 rfl 33 rfl ?_
        replace h := Option.some.inj h
        subst h
        exact z_iret hX dX6_best_33 rfl hk
theorem c_X6_best {lc : Launch} {Γ : Gm} {a1 : Int32} {a2 : Int32} {a3 : Int32} {s s2 : St} {v : Int32} (h : f_X6_best a1 a2 a3 s = some (v, s2)) : Ct lc Γ yX6_best cX6_best 7 (some .int) 6 [.ref (gL Γ (0)), .int a1, .int a2, .int a3] s (some (.int v), s2) := Ct.of (by decide +kernel) (Nat.le_of_ble_eq_true rfl) (fun X hl hX => e_X6_best hX h rfl)
theorem dX6_isEnoughThere_0 : decode cX6_isEnoughThere 0 = .ok (.aload_n 0, 1) := by decide +kernel
theorem dX6_isEnoughThere_1 : decode cX6_isEnoughThere 1 = .ok (.iload_n 1, 1) := by decide +kernel
theorem dX6_isEnoughThere_2 : decode cX6_isEnoughThere 2 = .ok (.iload_n 3, 1) := by decide +kernel
theorem dX6_isEnoughThere_3 : decode cX6_isEnoughThere 3 = .ok (.bipush 30, 2) := by decide +kernel
theorem dX6_isEnoughThere_5 : decode cX6_isEnoughThere 5 = .ok (.invokevirtual 190, 3) := by decide +kernel
theorem dX6_isEnoughThere_8 : decode cX6_isEnoughThere 8 = .ok (.aload_n 0, 1) := by decide +kernel
theorem dX6_isEnoughThere_9 : decode cX6_isEnoughThere 9 = .ok (.getfield 16, 3) := by decide +kernel
theorem dX6_isEnoughThere_12 : decode cX6_isEnoughThere 12 = .ok (.iload_n 1, 1) := by decide +kernel
theorem dX6_isEnoughThere_13 : decode cX6_isEnoughThere 13 = .ok (.iload_n 2, 1) := by decide +kernel
theorem dX6_isEnoughThere_14 : decode cX6_isEnoughThere 14 = .ok (.invokevirtual 157, 3) := by decide +kernel
theorem dX6_isEnoughThere_17 : decode cX6_isEnoughThere 17 = .ok (.iload 4, 2) := by decide +kernel
theorem dX6_isEnoughThere_19 : decode cX6_isEnoughThere 19 = .ok (.if_icmp .lt 7, 3) := by decide +kernel
theorem dX6_isEnoughThere_22 : decode cX6_isEnoughThere 22 = .ok (.iconst 1, 1) := by decide +kernel
theorem dX6_isEnoughThere_23 : decode cX6_isEnoughThere 23 = .ok (.goto 4, 3) := by decide +kernel
theorem dX6_isEnoughThere_26 : decode cX6_isEnoughThere 26 = .ok (.iconst 0, 1) := by decide +kernel
theorem dX6_isEnoughThere_27 : decode cX6_isEnoughThere 27 = .ok (.ireturn, 1) := by decide +kernel
def f_X6_isEnoughThere (a1 : Int32) (a2 : Int32) (a3 : Int32) (a4 : Int32) (s : St) : Option (Int32 × St) := cl (f_X6_sitThere a1 a3 (nI 30) s) (fun x2 s1 => cl (f_X2_held 14 a1 a2 s1) (fun x4 s3 => if x4 < a4 then (some (((nI 0), s3))) else (some (((nI 1), s3)))))
set_option maxHeartbeats 4000000 in
set_option maxRecDepth 100000 in
theorem e_X6_isEnoughThere {X : Cx} {Γ : Gm} {r0 : Rb} (hX : Amb X Γ cX6_isEnoughThere RX6 5 (some .boolean) 6) {a1 : Int32} {a2 : Int32} {a3 : Int32} {a4 : Int32} {s : St} {t : Int32 × St} (h : f_X6_isEnoughThere a1 a2 a3 a4 s = some t) (hk : (fun t : Int32 × St => Rt X Γ r0 (some (Value.int t.1), t.2)) t) : Zw X Γ 5 r0 s 0 [(0, .ref (gL Γ (0))), (1, .int a1), (2, .int a2), (3, .int a3), (4, .int a4)] [] := by
  unfold f_X6_isEnoughThere at h
  refine z_aload_n hX dX6_isEnoughThere_0 0 rfl 1 rfl ?_
  refine z_iload_n hX dX6_isEnoughThere_1 1 rfl 2 rfl ?_
  refine z_iload_n hX dX6_isEnoughThere_2 3 rfl 3 rfl ?_
  refine z_bipush hX (v := (nI 30)) dX6_isEnoughThere_3 (by decide) 5 rfl ?_
  replace h := cl_elim h
  obtain ⟨x2, s1, hx2, h⟩ := h
  refine z_cV6v hX (b := 0) (As := [.int a1, .int a3, .int ((nI 30))]) (c_X6_sitThere hx2) lk_X6_190 rfl kdc_0 ds_X6_sitThere rfl (by decide) (by decide) (by decide) dX6_isEnoughThere_5 rfl 8 rfl ?_
  refine z_aload_n hX dX6_isEnoughThere_8 0 rfl 9 rfl ?_
  refine z_get6 hX (k := 0) (j := 1) (v := .ref (gL Γ (14))) kdc_0 (by decide) rfl dX6_isEnoughThere_9 fl_X6_16 12 rfl ?_
  refine z_iload_n hX dX6_isEnoughThere_12 1 rfl 13 rfl ?_
  refine z_iload_n hX dX6_isEnoughThere_13 2 rfl 14 rfl ?_
  replace h := cl_elim h
  obtain ⟨x4, s3, hx4, h⟩ := h
  refine z_cV2i hX (b := 14) (As := [.int a1, .int a2]) (c_X2_held hx4) lk_X6_157 rfl kdc_14 ds_X2_held rfl (by decide) (by decide) (by decide) dX6_isEnoughThere_14 rfl 17 rfl ?_
  refine z_iload hX dX6_isEnoughThere_17 4 rfl 19 rfl ?_
  refine z_icmp_lt hX 26 dX6_isEnoughThere_19 (by decide) 22 rfl (fun c5 => ?_) (fun c5 => ?_)
  · replace h := br_pos h c5
    refine z_iconst hX (v := (nI 0)) dX6_isEnoughThere_26 rfl 27 rfl ?_
    replace h := Option.some.inj h
    subst h
    exact z_zret hX dX6_isEnoughThere_27 rfl (by decide) hk
  · replace h := br_neg h c5
    refine z_iconst hX (v := (nI 1)) dX6_isEnoughThere_22 rfl 23 rfl ?_
    refine z_goto hX 27 dX6_isEnoughThere_23 (by decide) ?_
    replace h := Option.some.inj h
    subst h
    exact z_zret hX dX6_isEnoughThere_27 rfl (by decide) hk
theorem c_X6_isEnoughThere {lc : Launch} {Γ : Gm} {a1 : Int32} {a2 : Int32} {a3 : Int32} {a4 : Int32} {s s2 : St} {v : Int32} (h : f_X6_isEnoughThere a1 a2 a3 a4 s = some (v, s2)) : Ct lc Γ yX6_isEnoughThere cX6_isEnoughThere 5 (some .boolean) 6 [.ref (gL Γ (0)), .int a1, .int a2, .int a3, .int a4] s (some (.int v), s2) := Ct.of (by decide +kernel) (Nat.le_of_ble_eq_true rfl) (fun X hl hX => e_X6_isEnoughThere hX h rfl)
theorem dX6_cheap_0 : decode cX6_cheap 0 = .ok (.aload_n 0, 1) := by decide +kernel
theorem dX6_cheap_1 : decode cX6_cheap 1 = .ok (.getfield 10, 3) := by decide +kernel
theorem dX6_cheap_4 : decode cX6_cheap 4 = .ok (.iload_n 1, 1) := by decide +kernel
theorem dX6_cheap_5 : decode cX6_cheap 5 = .ok (.invokevirtual 139, 3) := by decide +kernel
theorem dX6_cheap_8 : decode cX6_cheap 8 = .ok (.ifCond .eq 25, 3) := by decide +kernel
theorem dX6_cheap_11 : decode cX6_cheap 11 = .ok (.aload_n 0, 1) := by decide +kernel
theorem dX6_cheap_12 : decode cX6_cheap 12 = .ok (.getfield 10, 3) := by decide +kernel
theorem dX6_cheap_15 : decode cX6_cheap 15 = .ok (.iload_n 2, 1) := by decide +kernel
theorem dX6_cheap_16 : decode cX6_cheap 16 = .ok (.invokevirtual 117, 3) := by decide +kernel
theorem dX6_cheap_19 : decode cX6_cheap 19 = .ok (.ifCond .eq 14, 3) := by decide +kernel
theorem dX6_cheap_22 : decode cX6_cheap 22 = .ok (.iload_n 3, 1) := by decide +kernel
theorem dX6_cheap_23 : decode cX6_cheap 23 = .ok (.iconst 1, 1) := by decide +kernel
theorem dX6_cheap_24 : decode cX6_cheap 24 = .ok (.sipush 999, 3) := by decide +kernel
theorem dX6_cheap_27 : decode cX6_cheap 27 = .ok (.invokestatic 62, 3) := by decide +kernel
theorem dX6_cheap_30 : decode cX6_cheap 30 = .ok (.ifCond .ne 5, 3) := by decide +kernel
theorem dX6_cheap_33 : decode cX6_cheap 33 = .ok (.iconst (-1), 1) := by decide +kernel
theorem dX6_cheap_34 : decode cX6_cheap 34 = .ok (.ireturn, 1) := by decide +kernel
theorem dX6_cheap_35 : decode cX6_cheap 35 = .ok (.bipush 10, 2) := by decide +kernel
theorem dX6_cheap_37 : decode cX6_cheap 37 = .ok (.istore 4, 2) := by decide +kernel
theorem dX6_cheap_39 : decode cX6_cheap 39 = .ok (.iconst (-1), 1) := by decide +kernel
theorem dX6_cheap_40 : decode cX6_cheap 40 = .ok (.istore 5, 2) := by decide +kernel
theorem dX6_cheap_42 : decode cX6_cheap 42 = .ok (.iconst 0, 1) := by decide +kernel
theorem dX6_cheap_43 : decode cX6_cheap 43 = .ok (.istore 6, 2) := by decide +kernel
theorem dX6_cheap_45 : decode cX6_cheap 45 = .ok (.iload 6, 2) := by decide +kernel
theorem dX6_cheap_47 : decode cX6_cheap 47 = .ok (.bipush 20, 2) := by decide +kernel
theorem dX6_cheap_49 : decode cX6_cheap 49 = .ok (.if_icmp .ge 51, 3) := by decide +kernel
theorem dX6_cheap_52 : decode cX6_cheap 52 = .ok (.aload_n 0, 1) := by decide +kernel
theorem dX6_cheap_53 : decode cX6_cheap 53 = .ok (.getfield 10, 3) := by decide +kernel
theorem dX6_cheap_56 : decode cX6_cheap 56 = .ok (.getfield 151, 3) := by decide +kernel
theorem dX6_cheap_59 : decode cX6_cheap 59 = .ok (.iload 6, 2) := by decide +kernel
theorem dX6_cheap_61 : decode cX6_cheap 61 = .ok (.invokestatic 154, 3) := by decide +kernel
theorem dX6_cheap_64 : decode cX6_cheap 64 = .ok (.iaload, 1) := by decide +kernel
theorem dX6_cheap_65 : decode cX6_cheap 65 = .ok (.istore 7, 2) := by decide +kernel
theorem dX6_cheap_67 : decode cX6_cheap 67 = .ok (.iload 7, 2) := by decide +kernel
theorem dX6_cheap_69 : decode cX6_cheap 69 = .ok (.iload 4, 2) := by decide +kernel
theorem dX6_cheap_71 : decode cX6_cheap 71 = .ok (.if_icmp .ge 23, 3) := by decide +kernel
theorem dX6_cheap_74 : decode cX6_cheap 74 = .ok (.aload_n 0, 1) := by decide +kernel
theorem dX6_cheap_75 : decode cX6_cheap 75 = .ok (.iload_n 1, 1) := by decide +kernel
theorem dX6_cheap_76 : decode cX6_cheap 76 = .ok (.iload_n 2, 1) := by decide +kernel
theorem dX6_cheap_77 : decode cX6_cheap 77 = .ok (.iload 6, 2) := by decide +kernel
theorem dX6_cheap_79 : decode cX6_cheap 79 = .ok (.iload_n 3, 1) := by decide +kernel
theorem dX6_cheap_80 : decode cX6_cheap 80 = .ok (.invokevirtual 194, 3) := by decide +kernel
theorem dX6_cheap_83 : decode cX6_cheap 83 = .ok (.ifCond .eq 11, 3) := by decide +kernel
theorem dX6_cheap_86 : decode cX6_cheap 86 = .ok (.iload 7, 2) := by decide +kernel
theorem dX6_cheap_88 : decode cX6_cheap 88 = .ok (.istore 4, 2) := by decide +kernel
theorem dX6_cheap_90 : decode cX6_cheap 90 = .ok (.iload 6, 2) := by decide +kernel
theorem dX6_cheap_92 : decode cX6_cheap 92 = .ok (.istore 5, 2) := by decide +kernel
theorem dX6_cheap_94 : decode cX6_cheap 94 = .ok (.iinc 6 1, 3) := by decide +kernel
theorem dX6_cheap_97 : decode cX6_cheap 97 = .ok (.goto (-52), 3) := by decide +kernel
theorem dX6_cheap_100 : decode cX6_cheap 100 = .ok (.iload 5, 2) := by decide +kernel
theorem dX6_cheap_102 : decode cX6_cheap 102 = .ok (.ifCond .ge 8, 3) := by decide +kernel
theorem dX6_cheap_105 : decode cX6_cheap 105 = .ok (.bipush (-4), 2) := by decide +kernel
theorem dX6_cheap_107 : decode cX6_cheap 107 = .ok (.goto 8, 3) := by decide +kernel
theorem dX6_cheap_110 : decode cX6_cheap 110 = .ok (.iload 5, 2) := by decide +kernel
theorem dX6_cheap_112 : decode cX6_cheap 112 = .ok (.invokestatic 126, 3) := by decide +kernel
theorem dX6_cheap_115 : decode cX6_cheap 115 = .ok (.ireturn, 1) := by decide +kernel
def f_X6_cheap_L45 (v1 : Int32) (v2 : Int32) (v3 : Int32) (v4 : Int32) (v5 : Int32) (v6 : Int32) (s : St) : Option ((Int32 × Int32 × Int32 × St) ⊕ (Int32 × St)) := if (nI 20) ≤ v6 then (if 0 ≤ v5 then (cl (f_X6_nameOf v5 s) (fun x13 s12 => some (Sum.inr ((x13, s12))))) else (some (Sum.inr (((-4), s))))) else (cl (f_X6_rowOf v6 s) (fun x15 s14 => if inb x15 (lnI 13) = true then bd (s14.1 13 (x15).toNatClampNeg) (fun x17 => if v4 ≤ x17 then (some (Sum.inl (v4, v5, (v6 + (nI 1)), s14))) else (cl (f_X6_isEnoughThere v1 v2 v6 v3 s14) (fun x20 s19 => if x20 = 0 then (some (Sum.inl (v4, v5, (v6 + (nI 1)), s19))) else (some (Sum.inl (x17, v6, (v6 + (nI 1)), s19)))))) else none))
def f_X6_cheap (a1 : Int32) (a2 : Int32) (a3 : Int32) (s : St) : Option (Int32 × St) := cl (f_X2_isSitter 1 a1 s) (fun x2 s1 => if x2 = 0 then (some (((-1), s1))) else (cl (f_X2_isLife 1 a2 s1) (fun x5 s4 => if x5 = 0 then (some (((-1), s4))) else (cl (f_X6_isWithin a3 (nI 1) (nI 999) s4) (fun x8 s7 => if ¬ x8 = 0 then (lp (fun q : Int32 × Int32 × Int32 × St => f_X6_cheap_L45 a1 a2 a3 q.1 q.2.1 q.2.2.1 q.2.2.2) Fu ((nI 10), (-1), (nI 0), s7)) else (some (((-1), s7))))))))
set_option maxHeartbeats 4000000 in
set_option maxRecDepth 100000 in
theorem e_X6_cheap_L45 {X : Cx} {Γ : Gm} {r0 : Rb} (hX : Amb X Γ cX6_cheap RX6 8 (some .int) 7) {v1 : Int32} {v2 : Int32} {v3 : Int32} {v4 : Int32} {v5 : Int32} {v6 : Int32} {s : St} {t : (Int32 × Int32 × Int32 × St) ⊕ (Int32 × St)} (h : f_X6_cheap_L45 v1 v2 v3 v4 v5 v6 s = some t) (hk : (Sum.elim (fun q : Int32 × Int32 × Int32 × St => Zw X Γ 8 r0 q.2.2.2 45 [(0, .ref (gL Γ (0))), (1, .int v1), (2, .int v2), (3, .int v3), (4, .int q.1), (5, .int q.2.1), (6, .int q.2.2.1)] []) (fun t : Int32 × St => Rt X Γ r0 (some (Value.int t.1), t.2))) t) : Zw X Γ 8 r0 s 45 [(0, .ref (gL Γ (0))), (1, .int v1), (2, .int v2), (3, .int v3), (4, .int v4), (5, .int v5), (6, .int v6)] [] := by
  unfold f_X6_cheap_L45 at h
  refine z_iload hX dX6_cheap_45 6 rfl 47 rfl ?_
  refine z_bipush hX (v := (nI 20)) dX6_cheap_47 (by decide) 49 rfl ?_
  refine z_icmp_ge hX 100 dX6_cheap_49 (by decide) 52 rfl (fun c10 => ?_) (fun c10 => ?_)
  · replace h := br_pos h c10
    refine z_iload hX dX6_cheap_100 5 rfl 102 rfl ?_
    refine z_if_ge hX 110 dX6_cheap_102 (by decide) 105 rfl (fun c11 => ?_) (fun c11 => ?_)
    · replace h := br_pos h c11
      refine z_iload hX dX6_cheap_110 5 rfl 112 rfl ?_
      replace h := cl_elim h
      obtain ⟨x13, s12, hx13, h⟩ := h
      refine z_cSi hX (As := [.int v5]) (c_X6_nameOf hx13) lk_X6_126 ds_X6_nameOf rfl (by decide) (by decide) (by decide) dX6_cheap_112 rfl 115 rfl ?_
      replace h := Option.some.inj h
      subst h
      exact z_iret hX dX6_cheap_115 rfl hk
    · replace h := br_neg h c11
      refine z_bipush hX (v := (-4)) dX6_cheap_105 (by decide) 107 rfl ?_
      refine z_goto hX 115 dX6_cheap_107 (by decide) ?_
      replace h := Option.some.inj h
      subst h
      exact z_iret hX dX6_cheap_115 rfl hk
  · replace h := br_neg h c10
    refine z_aload_n hX dX6_cheap_52 0 rfl 53 rfl ?_
    refine z_get6 hX (k := 0) (j := 0) (v := .ref (gL Γ (1))) kdc_0 (by decide) rfl dX6_cheap_53 fl_X6_10 56 rfl ?_
    refine z_get2 hX (k := 1) (j := 14) (v := .ref (gL Γ (13))) kdc_1 (by decide) rfl dX6_cheap_56 fl_X6_151 59 rfl ?_
    refine z_iload hX dX6_cheap_59 6 rfl 61 rfl ?_
    replace h := cl_elim h
    obtain ⟨x15, s14, hx15, h⟩ := h
    refine z_cSi hX (As := [.int v6]) (c_X6_rowOf hx15) lk_X6_154 ds_X6_rowOf rfl (by decide) (by decide) (Nat.le_of_ble_eq_true rfl) dX6_cheap_61 rfl 64 rfl ?_
    replace h := gd_elim h
    obtain ⟨g16, h⟩ := h
    refine z_iald hX (inb_vp g16) dX6_cheap_64 65 rfl ?_
    replace h := bd_elim h
    obtain ⟨x17, ex17, h⟩ := h
    refine z_nm ex17 ?_
    refine z_istore hX (lv2 := [(7, .int x17), (0, .ref (gL Γ (0))), (1, .int v1), (2, .int v2), (3, .int v3), (4, .int v4), (5, .int v5), (6, .int v6)]) dX6_cheap_65 (by decide) rfl 67 rfl ?_
    refine z_iload hX dX6_cheap_67 0 rfl 69 rfl ?_
    refine z_iload hX dX6_cheap_69 5 rfl 71 rfl ?_
    refine z_icmp_ge hX 94 dX6_cheap_71 (by decide) 74 rfl (fun c18 => ?_) (fun c18 => ?_)
    · replace h := br_pos h c18
      refine z_iinc hX (v := (v6 + (nI 1))) (lv2 := [(6, .int ((v6 + (nI 1)))), (7, .int x17), (0, .ref (gL Γ (0))), (1, .int v1), (2, .int v2), (3, .int v3), (4, .int v4), (5, .int v5)]) dX6_cheap_94 7 rfl rfl (by decide) rfl 97 rfl ?_
      refine z_goto hX 45 dX6_cheap_97 (by decide) ?_
      replace h := Option.some.inj h
      subst h
      exact z_sub [2, 3, 4, 5, 6, 7, 0] rfl hk
    · replace h := br_neg h c18
      refine z_aload_n hX dX6_cheap_74 1 rfl 75 rfl ?_
      refine z_iload_n hX dX6_cheap_75 2 rfl 76 rfl ?_
      refine z_iload_n hX dX6_cheap_76 3 rfl 77 rfl ?_
      refine z_iload hX dX6_cheap_77 7 rfl 79 rfl ?_
      refine z_iload_n hX dX6_cheap_79 4 rfl 80 rfl ?_
      replace h := cl_elim h
      obtain ⟨x20, s19, hx20, h⟩ := h
      refine z_cV6i hX (b := 0) (As := [.int v1, .int v2, .int v6, .int v3]) (c_X6_isEnoughThere hx20) lk_X6_194 rfl kdc_0 ds_X6_isEnoughThere rfl (by decide) (by decide) (by decide) dX6_cheap_80 rfl 83 rfl ?_
      refine z_if_eq hX 94 dX6_cheap_83 (by decide) 86 rfl (fun c21 => ?_) (fun c21 => ?_)
      · replace h := br_pos h c21
        refine z_iinc hX (v := (v6 + (nI 1))) (lv2 := [(6, .int ((v6 + (nI 1)))), (7, .int x17), (0, .ref (gL Γ (0))), (1, .int v1), (2, .int v2), (3, .int v3), (4, .int v4), (5, .int v5)]) dX6_cheap_94 7 rfl rfl (by decide) rfl 97 rfl ?_
        refine z_goto hX 45 dX6_cheap_97 (by decide) ?_
        replace h := Option.some.inj h
        subst h
        exact z_sub [2, 3, 4, 5, 6, 7, 0] rfl hk
      · replace h := br_neg h c21
        refine z_iload hX dX6_cheap_86 0 rfl 88 rfl ?_
        refine z_istore hX (lv2 := [(4, .int x17), (7, .int x17), (0, .ref (gL Γ (0))), (1, .int v1), (2, .int v2), (3, .int v3), (5, .int v5), (6, .int v6)]) dX6_cheap_88 (by decide) rfl 90 rfl ?_
        refine z_iload hX dX6_cheap_90 7 rfl 92 rfl ?_
        refine z_istore hX (lv2 := [(5, .int v6), (4, .int x17), (7, .int x17), (0, .ref (gL Γ (0))), (1, .int v1), (2, .int v2), (3, .int v3), (6, .int v6)]) dX6_cheap_92 (by decide) rfl 94 rfl ?_
        refine z_iinc hX (v := (v6 + (nI 1))) (lv2 := [(6, .int ((v6 + (nI 1)))), (5, .int v6), (4, .int x17), (7, .int x17), (0, .ref (gL Γ (0))), (1, .int v1), (2, .int v2), (3, .int v3)]) dX6_cheap_94 7 rfl rfl (by decide) rfl 97 rfl ?_
        refine z_goto hX 45 dX6_cheap_97 (by decide) ?_
        replace h := Option.some.inj h
        subst h
        exact z_sub [4, 5, 6, 7, 2, 1, 0] rfl hk
set_option maxHeartbeats 4000000 in
set_option maxRecDepth 100000 in
theorem e_X6_cheap {X : Cx} {Γ : Gm} {r0 : Rb} (hX : Amb X Γ cX6_cheap RX6 8 (some .int) 7) {a1 : Int32} {a2 : Int32} {a3 : Int32} {s : St} {t : Int32 × St} (h : f_X6_cheap a1 a2 a3 s = some t) (hk : (fun t : Int32 × St => Rt X Γ r0 (some (Value.int t.1), t.2)) t) : Zw X Γ 8 r0 s 0 [(0, .ref (gL Γ (0))), (1, .int a1), (2, .int a2), (3, .int a3)] [] := by
  unfold f_X6_cheap at h
  refine z_aload_n hX dX6_cheap_0 0 rfl 1 rfl ?_
  refine z_get6 hX (k := 0) (j := 0) (v := .ref (gL Γ (1))) kdc_0 (by decide) rfl dX6_cheap_1 fl_X6_10 4 rfl ?_
  refine z_iload_n hX dX6_cheap_4 1 rfl 5 rfl ?_
  replace h := cl_elim h
  obtain ⟨x2, s1, hx2, h⟩ := h
  refine z_cV2i hX (b := 1) (As := [.int a1]) (c_X2_isSitter hx2) lk_X6_139 rfl kdc_1 ds_X2_isSitter rfl (by decide) (by decide) (by decide) dX6_cheap_5 rfl 8 rfl ?_
  refine z_if_eq hX 33 dX6_cheap_8 (by decide) 11 rfl (fun c3 => ?_) (fun c3 => ?_)
  · replace h := br_pos h c3
    refine z_iconst hX (v := (-1)) dX6_cheap_33 rfl 34 rfl ?_
    replace h := Option.some.inj h
    subst h
    exact z_iret hX dX6_cheap_34 rfl hk
  · replace h := br_neg h c3
    refine z_aload_n hX dX6_cheap_11 0 rfl 12 rfl ?_
    refine z_get6 hX (k := 0) (j := 0) (v := .ref (gL Γ (1))) kdc_0 (by decide) rfl dX6_cheap_12 fl_X6_10 15 rfl ?_
    refine z_iload_n hX dX6_cheap_15 2 rfl 16 rfl ?_
    replace h := cl_elim h
    obtain ⟨x5, s4, hx5, h⟩ := h
    refine z_cV2i hX (b := 1) (As := [.int a2]) (c_X2_isLife hx5) lk_X6_117 rfl kdc_1 ds_X2_isLife rfl (by decide) (by decide) (by decide) dX6_cheap_16 rfl 19 rfl ?_
    refine z_if_eq hX 33 dX6_cheap_19 (by decide) 22 rfl (fun c6 => ?_) (fun c6 => ?_)
    · replace h := br_pos h c6
      refine z_iconst hX (v := (-1)) dX6_cheap_33 rfl 34 rfl ?_
      replace h := Option.some.inj h
      subst h
      exact z_iret hX dX6_cheap_34 rfl hk
    · replace h := br_neg h c6
      refine z_iload_n hX dX6_cheap_22 3 rfl 23 rfl ?_
      refine z_iconst hX (v := (nI 1)) dX6_cheap_23 rfl 24 rfl ?_
      refine z_sipush hX (v := (nI 999)) dX6_cheap_24 (by decide) 27 rfl ?_
      replace h := cl_elim h
      obtain ⟨x8, s7, hx8, h⟩ := h
      refine z_cSi hX (As := [.int a3, .int ((nI 1)), .int ((nI 999))]) (c_X6_isWithin hx8) lk_X6_62 ds_X6_isWithin rfl (by decide) (by decide) (by decide) dX6_cheap_27 rfl 30 rfl ?_
      refine z_if_ne hX 35 dX6_cheap_30 (by decide) 33 rfl (fun c9 => ?_) (fun c9 => ?_)
      · replace h := br_pos h c9
        refine z_bipush hX (v := (nI 10)) dX6_cheap_35 (by decide) 37 rfl ?_
        refine z_istore hX (lv2 := [(4, .int ((nI 10))), (0, .ref (gL Γ (0))), (1, .int a1), (2, .int a2), (3, .int a3)]) dX6_cheap_37 (by decide) rfl 39 rfl ?_
        refine z_iconst hX (v := (-1)) dX6_cheap_39 rfl 40 rfl ?_
        refine z_istore hX (lv2 := [(5, .int ((-1))), (4, .int ((nI 10))), (0, .ref (gL Γ (0))), (1, .int a1), (2, .int a2), (3, .int a3)]) dX6_cheap_40 (by decide) rfl 42 rfl ?_
        refine z_iconst hX (v := (nI 0)) dX6_cheap_42 rfl 43 rfl ?_
        refine z_istore hX (lv2 := [(6, .int ((nI 0))), (5, .int ((-1))), (4, .int ((nI 10))), (0, .ref (gL Γ (0))), (1, .int a1), (2, .int a2), (3, .int a3)]) dX6_cheap_43 (by decide) rfl 45 rfl ?_
        exact z_sub [3, 4, 5, 6, 2, 1, 0] rfl (lp_ok (Z := fun q : Int32 × Int32 × Int32 × St => Zw X Γ 8 r0 q.2.2.2 45 [(0, .ref (gL Γ (0))), (1, .int a1), (2, .int a2), (3, .int a3), (4, .int q.1), (5, .int q.2.1), (6, .int q.2.2.1)] []) (fun q t h hk => e_X6_cheap_L45 hX h hk) Fu _ _ h hk)
      · replace h := br_neg h c9
        refine z_iconst hX (v := (-1)) dX6_cheap_33 rfl 34 rfl ?_
        replace h := Option.some.inj h
        subst h
        exact z_iret hX dX6_cheap_34 rfl hk
theorem c_X6_cheap {lc : Launch} {Γ : Gm} {a1 : Int32} {a2 : Int32} {a3 : Int32} {s s2 : St} {v : Int32} (h : f_X6_cheap a1 a2 a3 s = some (v, s2)) : Ct lc Γ yX6_cheap cX6_cheap 8 (some .int) 7 [.ref (gL Γ (0)), .int a1, .int a2, .int a3] s (some (.int v), s2) := Ct.of (by decide +kernel) (Nat.le_of_ble_eq_true rfl) (fun X hl hX => e_X6_cheap hX h rfl)

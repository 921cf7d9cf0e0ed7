theorem ds_X7_allLeft : Ds yX7_allLeft 0 := ⟨by decide +kernel, by decide +kernel, by decide +kernel⟩
theorem lk_X7_241 : LkV RX7 241 yX7_allLeft cX7_allLeft 3 (some .int) := ⟨gt_mem (tm5 (List.mem_of_getElem? (i := 159) rfl)) rfl, gt_mem (tm5 (List.mem_of_getElem? (i := 161) rfl)) rfl, gt_sel (List.mem_of_getElem? (i := 43) rfl) rfl, gt_mem (tm1 (List.mem_of_getElem? (i := 8) rfl)) rfl, gt_mem (tm5 (List.mem_of_getElem? (i := 162) rfl)) rfl⟩
theorem ds_X7_hasIn : Ds yX7_hasIn 4 := ⟨by decide +kernel, by decide +kernel, by decide +kernel⟩
theorem lk_X7_244 : LkV RX7 244 yX7_hasIn cX7_hasIn 5 (some .int) := ⟨gt_mem (tm5 (List.mem_of_getElem? (i := 167) rfl)) rfl, gt_mem (tm5 (List.mem_of_getElem? (i := 169) rfl)) rfl, gt_sel (List.mem_of_getElem? (i := 44) rfl) rfl, gt_mem (tm1 (List.mem_of_getElem? (i := 8) rfl)) rfl, gt_mem (tm5 (List.mem_of_getElem? (i := 170) rfl)) rfl⟩
theorem ml_X7_248 : Cond.constantLong RX7 248 (lN 999) ∈ gt := gt_mem (tm5 (List.mem_of_getElem? (i := 175) rfl)) rfl
theorem ml_X7_250 : Cond.constant RX7 250 (nI 1000000) ∈ gt := gt_mem (tm5 (List.mem_of_getElem? (i := 176) rfl)) rfl
theorem ds_X7_isPart : Ds yX7_isPart 1 := ⟨by decide +kernel, by decide +kernel, by decide +kernel⟩
theorem lk_X7_251 : LkS RX7 251 yX7_isPart cX7_isPart 1 (some .boolean) := ⟨gt_mem (tm5 (List.mem_of_getElem? (i := 181) rfl)) rfl, gt_mem (tm5 (List.mem_of_getElem? (i := 182) rfl)) rfl, gt_mem (tm1 (List.mem_of_getElem? (i := 8) rfl)) rfl, gt_mem (tm5 (List.mem_of_getElem? (i := 183) rfl)) rfl⟩
theorem ds_X7_common : Ds yX7_common 2 := ⟨by decide +kernel, by decide +kernel, by decide +kernel⟩
theorem lk_X7_254 : LkS RX7 254 yX7_common cX7_common 10 (some .long) := ⟨gt_mem (tm5 (List.mem_of_getElem? (i := 214) rfl)) rfl, gt_mem (tm5 (List.mem_of_getElem? (i := 215) rfl)) rfl, gt_mem (tm1 (List.mem_of_getElem? (i := 8) rfl)) rfl, gt_mem (tm5 (List.mem_of_getElem? (i := 216) rfl)) rfl⟩
theorem fl_X7_258 : Cond.fieldLink RX7 258 (TX7 19).1 (TX7 19).2.1 (TX7 19).2.2.1 ∈ gt := gt_mem (tm4 (List.mem_of_getElem? (i := 97) rfl)) rfl
theorem fl_X7_262 : Cond.fieldLink RX7 262 (TX7 20).1 (TX7 20).2.1 (TX7 20).2.2.1 ∈ gt := gt_mem (tm4 (List.mem_of_getElem? (i := 98) rfl)) rfl
theorem fl_X7_265 : Cond.fieldLink RX7 265 (TX7 21).1 (TX7 21).2.1 (TX7 21).2.2.1 ∈ gt := gt_mem (tm4 (List.mem_of_getElem? (i := 99) rfl)) rfl
theorem ml_X7_268 : Cond.constantLong RX7 268 (lN 10) ∈ gt := gt_mem (tm5 (List.mem_of_getElem? (i := 204) rfl)) rfl
theorem ml_X7_270 : Cond.constantLong RX7 270 (lN 8) ∈ gt := gt_mem (tm5 (List.mem_of_getElem? (i := 205) rfl)) rfl
theorem ds_X7_isOdds : Ds yX7_isOdds 4 := ⟨by decide +kernel, by decide +kernel, by decide +kernel⟩
theorem lk_X7_272 : LkV RX7 272 yX7_isOdds cX7_isOdds 5 (some .boolean) := ⟨gt_mem (tm5 (List.mem_of_getElem? (i := 200) rfl)) rfl, gt_mem (tm5 (List.mem_of_getElem? (i := 202) rfl)) rfl, gt_sel (List.mem_of_getElem? (i := 45) rfl) rfl, gt_mem (tm1 (List.mem_of_getElem? (i := 8) rfl)) rfl, gt_mem (tm5 (List.mem_of_getElem? (i := 203) rfl)) rfl⟩
theorem ds_X7_findOdds : Ds yX7_findOdds 3 := ⟨by decide +kernel, by decide +kernel, by decide +kernel⟩
theorem lk_X7_277 : LkV RX7 277 yX7_findOdds cX7_findOdds 10 none := ⟨gt_mem (tm5 (List.mem_of_getElem? (i := 207) rfl)) rfl, gt_mem (tm5 (List.mem_of_getElem? (i := 209) rfl)) rfl, gt_sel (List.mem_of_getElem? (i := 46) rfl) rfl, gt_mem (tm1 (List.mem_of_getElem? (i := 8) rfl)) rfl, gt_mem (tm5 (List.mem_of_getElem? (i := 210) rfl)) rfl⟩
theorem ds_X7_told : Ds yX7_told 3 := ⟨by decide +kernel, by decide +kernel, by decide +kernel⟩
theorem lk_X7_281 : LkS RX7 281 yX7_told cX7_told 7 (some .long) := ⟨gt_mem (tm5 (List.mem_of_getElem? (i := 211) rfl)) rfl, gt_mem (tm5 (List.mem_of_getElem? (i := 212) rfl)) rfl, gt_mem (tm1 (List.mem_of_getElem? (i := 8) rfl)) rfl, gt_mem (tm5 (List.mem_of_getElem? (i := 213) rfl)) rfl⟩
theorem ml_X7_275 : Cond.constantLong RX7 275 (-1) ∈ gt := gt_mem (tm5 (List.mem_of_getElem? (i := 206) rfl)) rfl
theorem ds_X7_isSoWith : Ds yX7_isSoWith 3 := ⟨by decide +kernel, by decide +kernel, by decide +kernel⟩
theorem lk_X7_285 : LkV RX7 285 yX7_isSoWith cX7_isSoWith 8 (some .boolean) := ⟨gt_mem (tm5 (List.mem_of_getElem? (i := 233) rfl)) rfl, gt_mem (tm5 (List.mem_of_getElem? (i := 235) rfl)) rfl, gt_sel (List.mem_of_getElem? (i := 47) rfl) rfl, gt_mem (tm1 (List.mem_of_getElem? (i := 8) rfl)) rfl, gt_mem (tm5 (List.mem_of_getElem? (i := 236) rfl)) rfl⟩
theorem ds_X7_flag : Ds yX7_flag 1 := ⟨by decide +kernel, by decide +kernel, by decide +kernel⟩
theorem lk_X7_288 : LkS RX7 288 yX7_flag cX7_flag 1 (some .int) := ⟨gt_mem (tm5 (List.mem_of_getElem? (i := 237) rfl)) rfl, gt_mem (tm5 (List.mem_of_getElem? (i := 238) rfl)) rfl, gt_mem (tm1 (List.mem_of_getElem? (i := 8) rfl)) rfl, gt_mem (tm5 (List.mem_of_getElem? (i := 239) rfl)) rfl⟩
theorem fl_X7_29 : Cond.fieldLink RX7 29 (TX7 22).1 (TX7 22).2.1 (TX7 22).2.2.1 ∈ gt := gt_mem (tm4 (List.mem_of_getElem? (i := 100) rfl)) rfl
theorem ml_X7_292 : Cond.constant RX7 292 (nI 1103515245) ∈ gt := gt_mem (tm6 (List.mem_of_getElem? (i := 12) rfl)) rfl
theorem ds_X7_copies : Ds yX7_copies 2 := ⟨by decide +kernel, by decide +kernel, by decide +kernel⟩
theorem lk_X7_293 : LkV RX7 293 yX7_copies cX7_copies 4 none := ⟨gt_mem (tm6 (List.mem_of_getElem? (i := 17) rfl)) rfl, gt_mem (tm6 (List.mem_of_getElem? (i := 19) rfl)) rfl, gt_sel (List.mem_of_getElem? (i := 48) rfl) rfl, gt_mem (tm1 (List.mem_of_getElem? (i := 8) rfl)) rfl, gt_mem (tm6 (List.mem_of_getElem? (i := 20) rfl)) rfl⟩
theorem ml_X7_297 : Cond.constantLong RX7 297 (lN 2) ∈ gt := gt_mem (tm6 (List.mem_of_getElem? (i := 32) rfl)) rfl
theorem ds_X7_isSheet : Ds yX7_isSheet 2 := ⟨by decide +kernel, by decide +kernel, by decide +kernel⟩
theorem lk_X7_299 : LkS RX7 299 yX7_isSheet cX7_isSheet 2 (some .boolean) := ⟨gt_mem (tm6 (List.mem_of_getElem? (i := 29) rfl)) rfl, gt_mem (tm6 (List.mem_of_getElem? (i := 30) rfl)) rfl, gt_mem (tm1 (List.mem_of_getElem? (i := 8) rfl)) rfl, gt_mem (tm6 (List.mem_of_getElem? (i := 31) rfl)) rfl⟩
theorem fl_X7_32 : Cond.fieldLink RX7 32 (TX7 23).1 (TX7 23).2.1 (TX7 23).2.2.1 ∈ gt := gt_mem (tm4 (List.mem_of_getElem? (i := 101) rfl)) rfl
theorem fl_X7_35 : Cond.fieldLink RX7 35 (TX7 24).1 (TX7 24).2.1 (TX7 24).2.2.1 ∈ gt := gt_mem (tm4 (List.mem_of_getElem? (i := 102) rfl)) rfl
theorem fl_X7_38 : Cond.fieldLink RX7 38 (TX7 25).1 (TX7 25).2.1 (TX7 25).2.2.1 ∈ gt := gt_mem (tm4 (List.mem_of_getElem? (i := 103) rfl)) rfl
theorem ml_X7_302 : Cond.constantLong RX7 302 (lN 20) ∈ gt := gt_mem (tm6 (List.mem_of_getElem? (i := 41) rfl)) rfl
theorem fl_X7_41 : Cond.fieldLink RX7 41 (TX7 27).1 (TX7 27).2.1 (TX7 27).2.2.1 ∈ gt := gt_mem (tm4 (List.mem_of_getElem? (i := 105) rfl)) rfl
theorem fl_X7_311 : Cond.fieldLink RX7 311 (TX7 26).1 (TX7 26).2.1 (TX7 26).2.2.1 ∈ gt := gt_mem (tm4 (List.mem_of_getElem? (i := 104) rfl)) rfl
theorem ds_X7_seat : Ds yX7_seat 3 := ⟨by decide +kernel, by decide +kernel, by decide +kernel⟩
theorem lk_X7_304 : LkV RX7 304 yX7_seat cX7_seat 4 (some .int) := ⟨gt_mem (tm6 (List.mem_of_getElem? (i := 42) rfl)) rfl, gt_mem (tm5 (List.mem_of_getElem? (i := 85) rfl)) rfl, gt_mem (tm5 (List.mem_of_getElem? (i := 86) rfl)) rfl, gt_mem (tm1 (List.mem_of_getElem? (i := 8) rfl)) rfl, gt_mem (tm5 (List.mem_of_getElem? (i := 87) rfl)) rfl⟩
theorem ds_X7_steps : Ds yX7_steps 1 := ⟨by decide +kernel, by decide +kernel, by decide +kernel⟩
theorem lk_X7_308 : LkV RX7 308 yX7_steps cX7_steps 3 (some .int) := ⟨gt_mem (tm6 (List.mem_of_getElem? (i := 43) rfl)) rfl, gt_mem (tm5 (List.mem_of_getElem? (i := 102) rfl)) rfl, gt_mem (tm5 (List.mem_of_getElem? (i := 103) rfl)) rfl, gt_mem (tm1 (List.mem_of_getElem? (i := 8) rfl)) rfl, gt_mem (tm5 (List.mem_of_getElem? (i := 104) rfl)) rfl⟩
theorem pwJ_7_19 (Γ : Gm) (k : Nat) (f : Nat → Int32) (g : Nat → Int64) (x : Int64) : (flds Γ 7 k f g).set 19 (.long x) = flds Γ 7 k f (vp_updL g 19 x) := by simp [flds, entK, vp_updL]
theorem pwJ_7_20 (Γ : Gm) (k : Nat) (f : Nat → Int32) (g : Nat → Int64) (x : Int64) : (flds Γ 7 k f g).set 20 (.long x) = flds Γ 7 k f (vp_updL g 20 x) := by simp [flds, entK, vp_updL]
theorem pwJ_7_21 (Γ : Gm) (k : Nat) (f : Nat → Int32) (g : Nat → Int64) (x : Int64) : (flds Γ 7 k f g).set 21 (.long x) = flds Γ 7 k f (vp_updL g 21 x) := by simp [flds, entK, vp_updL]
theorem pwI_7_26 (Γ : Gm) (k : Nat) (f : Nat → Int32) (g : Nat → Int64) (x : Int32) : (flds Γ 7 k f g).set 26 (.int x) = flds Γ 7 k (upd f 26 x) g := by simp [flds, entK, upd]
theorem dX7_wet_0 : decode cX7_wet 0 = .ok (.aload_n 0, 1) := by decide +kernel
theorem dX7_wet_1 : decode cX7_wet 1 = .ok (.iload_n 1, 1) := by decide +kernel
theorem dX7_wet_2 : decode cX7_wet 2 = .ok (.invokevirtual 209, 3) := by decide +kernel
theorem dX7_wet_5 : decode cX7_wet 5 = .ok (.ifCond .eq 11, 3) := by decide +kernel
theorem dX7_wet_8 : decode cX7_wet 8 = .ok (.aload_n 0, 1) := by decide +kernel
theorem dX7_wet_9 : decode cX7_wet 9 = .ok (.iload_n 2, 1) := by decide +kernel
theorem dX7_wet_10 : decode cX7_wet 10 = .ok (.invokevirtual 203, 3) := by decide +kernel
theorem dX7_wet_13 : decode cX7_wet 13 = .ok (.ifCond .ne 5, 3) := by decide +kernel
theorem dX7_wet_16 : decode cX7_wet 16 = .ok (.iconst (-1), 1) := by decide +kernel
theorem dX7_wet_17 : decode cX7_wet 17 = .ok (.ireturn, 1) := by decide +kernel
theorem dX7_wet_18 : decode cX7_wet 18 = .ok (.aload_n 0, 1) := by decide +kernel
theorem dX7_wet_19 : decode cX7_wet 19 = .ok (.invokevirtual 188, 3) := by decide +kernel
theorem dX7_wet_22 : decode cX7_wet 22 = .ok (.iconst 1, 1) := by decide +kernel
theorem dX7_wet_23 : decode cX7_wet 23 = .ok (.istore_n 3, 1) := by decide +kernel
theorem dX7_wet_24 : decode cX7_wet 24 = .ok (.iload_n 3, 1) := by decide +kernel
theorem dX7_wet_25 : decode cX7_wet 25 = .ok (.bipush 60, 2) := by decide +kernel
theorem dX7_wet_27 : decode cX7_wet 27 = .ok (.if_icmp .gt 45, 3) := by decide +kernel
theorem dX7_wet_30 : decode cX7_wet 30 = .ok (.aload_n 0, 1) := by decide +kernel
theorem dX7_wet_31 : decode cX7_wet 31 = .ok (.iconst 0, 1) := by decide +kernel
theorem dX7_wet_32 : decode cX7_wet 32 = .ok (.invokevirtual 178, 3) := by decide +kernel
theorem dX7_wet_35 : decode cX7_wet 35 = .ok (.aload_n 0, 1) := by decide +kernel
theorem dX7_wet_36 : decode cX7_wet 36 = .ok (.getfield 13, 3) := by decide +kernel
theorem dX7_wet_39 : decode cX7_wet 39 = .ok (.bipush 20, 2) := by decide +kernel
theorem dX7_wet_41 : decode cX7_wet 41 = .ok (.iconst 3, 1) := by decide +kernel
theorem dX7_wet_42 : decode cX7_wet 42 = .ok (.iload_n 1, 1) := by decide +kernel
theorem dX7_wet_43 : decode cX7_wet 43 = .ok (.imul, 1) := by decide +kernel
theorem dX7_wet_44 : decode cX7_wet 44 = .ok (.iadd, 1) := by decide +kernel
theorem dX7_wet_45 : decode cX7_wet 45 = .ok (.iload_n 2, 1) := by decide +kernel
theorem dX7_wet_46 : decode cX7_wet 46 = .ok (.iadd, 1) := by decide +kernel
theorem dX7_wet_47 : decode cX7_wet 47 = .ok (.iaload, 1) := by decide +kernel
theorem dX7_wet_48 : decode cX7_wet 48 = .ok (.aload_n 0, 1) := by decide +kernel
theorem dX7_wet_49 : decode cX7_wet 49 = .ok (.getfield 7, 3) := by decide +kernel
theorem dX7_wet_52 : decode cX7_wet 52 = .ok (.bipush 20, 2) := by decide +kernel
theorem dX7_wet_54 : decode cX7_wet 54 = .ok (.iconst 3, 1) := by decide +kernel
theorem dX7_wet_55 : decode cX7_wet 55 = .ok (.iload_n 1, 1) := by decide +kernel
theorem dX7_wet_56 : decode cX7_wet 56 = .ok (.imul, 1) := by decide +kernel
theorem dX7_wet_57 : decode cX7_wet 57 = .ok (.iadd, 1) := by decide +kernel
theorem dX7_wet_58 : decode cX7_wet 58 = .ok (.iload_n 2, 1) := by decide +kernel
theorem dX7_wet_59 : decode cX7_wet 59 = .ok (.iadd, 1) := by decide +kernel
theorem dX7_wet_60 : decode cX7_wet 60 = .ok (.iaload, 1) := by decide +kernel
theorem dX7_wet_61 : decode cX7_wet 61 = .ok (.if_icmp .le 5, 3) := by decide +kernel
theorem dX7_wet_64 : decode cX7_wet 64 = .ok (.iload_n 3, 1) := by decide +kernel
theorem dX7_wet_65 : decode cX7_wet 65 = .ok (.ireturn, 1) := by decide +kernel
theorem dX7_wet_66 : decode cX7_wet 66 = .ok (.iinc 3 1, 3) := by decide +kernel
theorem dX7_wet_69 : decode cX7_wet 69 = .ok (.goto (-45), 3) := by decide +kernel
theorem dX7_wet_72 : decode cX7_wet 72 = .ok (.bipush (-4), 2) := by decide +kernel
theorem dX7_wet_74 : decode cX7_wet 74 = .ok (.ireturn, 1) := by decide +kernel
def f_X7_wet_L24 (v1 : Int32) (v2 : Int32) (v3 : Int32) (s : St) : Option ((Int32 × St) ⊕ (Int32 × St)) := if (nI 60) < v3 then (some (Sum.inr (((-4), s)))) else (cl (f_X7_stepGoes (nI 0) s) (fun x11 s10 => if inb (((nI 20) + ((nI 3) * v1)) + v2) (lnI 191) = true then if inb (((nI 20) + ((nI 3) * v1)) + v2) (lnI 190) = true then if (s10.1 191 ((((nI 20) + ((nI 3) * v1)) + v2)).toNatClampNeg) ≤ (s10.1 190 ((((nI 20) + ((nI 3) * v1)) + v2)).toNatClampNeg) then (some (Sum.inl ((v3 + (nI 1)), s10))) else (some (Sum.inr ((v3, s10)))) else none else none))
def f_X7_wet (a1 : Int32) (a2 : Int32) (s : St) : Option (Int32 × St) := cl (f_X7_isSitter a1 s) (fun x2 s1 => if x2 = 0 then (some (((-1), s1))) else (cl (f_X7_isLife a2 s1) (fun x5 s4 => if ¬ x5 = 0 then (cl (f_X7_starts s4) (fun x8 s7 => lp (fun q : Int32 × St => f_X7_wet_L24 a1 a2 q.1 q.2) Fu ((nI 1), s7))) else (some (((-1), s4))))))
set_option maxHeartbeats 4000000 in
set_option maxRecDepth 100000 in
theorem e_X7_wet_L24 {X : Cx} {Γ : Gm} {r0 : Rb} (hX : Amb X Γ cX7_wet RX7 4 (some .int) 4) {v1 : Int32} {v2 : Int32} {v3 : Int32} {s : St} {t : (Int32 × St) ⊕ (Int32 × St)} (h : f_X7_wet_L24 v1 v2 v3 s = some t) (hk : (Sum.elim (fun q : Int32 × St => Zw X Γ 4 r0 q.2 24 [(0, .ref (gL Γ (189))), (1, .int v1), (2, .int v2), (3, .int q.1)] []) (fun t : Int32 × St => Rt X Γ r0 (some (Value.int t.1), t.2))) t) : Zw X Γ 4 r0 s 24 [(0, .ref (gL Γ (189))), (1, .int v1), (2, .int v2), (3, .int v3)] [] := by
  unfold f_X7_wet_L24 at h
  refine z_iload_n hX dX7_wet_24 3 rfl 25 rfl ?_
  refine z_bipush hX (v := (nI 60)) dX7_wet_25 (by decide) 27 rfl ?_
  refine z_icmp_gt hX 72 dX7_wet_27 (by decide) 30 rfl (fun c9 => ?_) (fun c9 => ?_)
  · replace h := br_pos h c9
    refine z_bipush hX (v := (-4)) dX7_wet_72 (by decide) 74 rfl ?_
    replace h := Option.some.inj h
    subst h
    exact z_iret hX dX7_wet_74 rfl hk
  · replace h := br_neg h c9
    refine z_aload_n hX dX7_wet_30 0 rfl 31 rfl ?_
    refine z_iconst hX (v := (nI 0)) dX7_wet_31 rfl 32 rfl ?_
    replace h := cl_elim h
    obtain ⟨x11, s10, hx11, h⟩ := h
    refine z_cV7v hX (b := 189) (As := [.int ((nI 0))]) (c_X7_stepGoes hx11) lk_X7_178 rfl kdc_189 ds_X7_stepGoes rfl (by decide) (by decide) (by decide) dX7_wet_32 rfl 35 rfl ?_
    refine z_aload_n hX dX7_wet_35 0 rfl 36 rfl ?_
    refine z_get7 hX (k := 189) (j := 1) (v := .ref (gL Γ (191))) kdc_189 (by decide) rfl dX7_wet_36 fl_X7_13 39 rfl ?_
    refine z_bipush hX (v := (nI 20)) dX7_wet_39 (by decide) 41 rfl ?_
    refine z_iconst hX (v := (nI 3)) dX7_wet_41 rfl 42 rfl ?_
    refine z_iload_n hX dX7_wet_42 1 rfl 43 rfl ?_
    refine z_imul hX dX7_wet_43 44 rfl ?_
    refine z_iadd hX dX7_wet_44 45 rfl ?_
    refine z_iload_n hX dX7_wet_45 2 rfl 46 rfl ?_
    refine z_iadd hX dX7_wet_46 47 rfl ?_
    replace h := gd_elim h
    obtain ⟨g12, h⟩ := h
    refine z_iald hX (inb_vp g12) dX7_wet_47 48 rfl ?_
    refine z_aload_n hX dX7_wet_48 0 rfl 49 rfl ?_
    refine z_get7 hX (k := 189) (j := 0) (v := .ref (gL Γ (190))) kdc_189 (by decide) rfl dX7_wet_49 fl_X7_7 52 rfl ?_
    refine z_bipush hX (v := (nI 20)) dX7_wet_52 (by decide) 54 rfl ?_
    refine z_iconst hX (v := (nI 3)) dX7_wet_54 rfl 55 rfl ?_
    refine z_iload_n hX dX7_wet_55 1 rfl 56 rfl ?_
    refine z_imul hX dX7_wet_56 57 rfl ?_
    refine z_iadd hX dX7_wet_57 58 rfl ?_
    refine z_iload_n hX dX7_wet_58 2 rfl 59 rfl ?_
    refine z_iadd hX dX7_wet_59 60 rfl ?_
    replace h := gd_elim h
    obtain ⟨g13, h⟩ := h
    refine z_iald hX (inb_vp g13) dX7_wet_60 61 rfl ?_
    refine z_icmp_le hX 66 dX7_wet_61 (by decide) 64 rfl (fun c14 => ?_) (fun c14 => ?_)
    · replace h := br_pos h c14
      refine z_iinc hX (v := (v3 + (nI 1))) (lv2 := [(3, .int ((v3 + (nI 1)))), (0, .ref (gL Γ (189))), (1, .int v1), (2, .int v2)]) dX7_wet_66 3 rfl rfl (by decide) rfl 69 rfl ?_
      refine z_goto hX 24 dX7_wet_69 (by decide) ?_
      replace h := Option.some.inj h
      subst h
      exact z_sub [1, 2, 3, 0] rfl hk
    · replace h := br_neg h c14
      refine z_iload_n hX dX7_wet_64 3 rfl 65 rfl ?_
      replace h := Option.some.inj h
      subst h
      exact z_iret hX dX7_wet_65 rfl hk
set_option maxHeartbeats 4000000 in
set_option maxRecDepth 100000 in
theorem e_X7_wet {X : Cx} {Γ : Gm} {r0 : Rb} (hX : Amb X Γ cX7_wet RX7 4 (some .int) 4) {a1 : Int32} {a2 : Int32} {s : St} {t : Int32 × St} (h : f_X7_wet a1 a2 s = some t) (hk : (fun t : Int32 × St => Rt X Γ r0 (some (Value.int t.1), t.2)) t) : Zw X Γ 4 r0 s 0 [(0, .ref (gL Γ (189))), (1, .int a1), (2, .int a2)] [] := by
  unfold f_X7_wet at h
  refine z_aload_n hX dX7_wet_0 0 rfl 1 rfl ?_
  refine z_iload_n hX dX7_wet_1 1 rfl 2 rfl ?_
  replace h := cl_elim h
  obtain ⟨x2, s1, hx2, h⟩ := h
  refine z_cV7i hX (b := 189) (As := [.int a1]) (c_X7_isSitter hx2) lk_X7_209 rfl kdc_189 ds_X7_isSitter rfl (by decide) (by decide) (by decide) dX7_wet_2 rfl 5 rfl ?_
  refine z_if_eq hX 16 dX7_wet_5 (by decide) 8 rfl (fun c3 => ?_) (fun c3 => ?_)
  · replace h := br_pos h c3
    refine z_iconst hX (v := (-1)) dX7_wet_16 rfl 17 rfl ?_
    replace h := Option.some.inj h
    subst h
    exact z_iret hX dX7_wet_17 rfl hk
  · replace h := br_neg h c3
    refine z_aload_n hX dX7_wet_8 0 rfl 9 rfl ?_
    refine z_iload_n hX dX7_wet_9 2 rfl 10 rfl ?_
    replace h := cl_elim h
    obtain ⟨x5, s4, hx5, h⟩ := h
    refine z_cV7i hX (b := 189) (As := [.int a2]) (c_X7_isLife hx5) lk_X7_203 rfl kdc_189 ds_X7_isLife rfl (by decide) (by decide) (by decide) dX7_wet_10 rfl 13 rfl ?_
    refine z_if_ne hX 18 dX7_wet_13 (by decide) 16 rfl (fun c6 => ?_) (fun c6 => ?_)
    · replace h := br_pos h c6
      refine z_aload_n hX dX7_wet_18 0 rfl 19 rfl ?_
      replace h := cl_elim h
      obtain ⟨x8, s7, hx8, h⟩ := h
      refine z_cV7v hX (b := 189) (As := []) (c_X7_starts hx8) lk_X7_188 rfl kdc_189 ds_X7_starts rfl (by decide) (by decide) (by decide) dX7_wet_19 rfl 22 rfl ?_
      refine z_iconst hX (v := (nI 1)) dX7_wet_22 rfl 23 rfl ?_
      refine z_istore_n hX (lv2 := [(3, .int ((nI 1))), (0, .ref (gL Γ (189))), (1, .int a1), (2, .int a2)]) dX7_wet_23 (by decide) rfl 24 rfl ?_
      exact z_sub [1, 2, 3, 0] rfl (lp_ok (Z := fun q : Int32 × St => Zw X Γ 4 r0 q.2 24 [(0, .ref (gL Γ (189))), (1, .int a1), (2, .int a2), (3, .int q.1)] []) (fun q t h hk => e_X7_wet_L24 hX h hk) Fu _ _ h hk)
    · replace h := br_neg h c6
      refine z_iconst hX (v := (-1)) dX7_wet_16 rfl 17 rfl ?_
      replace h := Option.some.inj h
      subst h
      exact z_iret hX dX7_wet_17 rfl hk
theorem c_X7_wet {lc : Launch} {Γ : Gm} {a1 : Int32} {a2 : Int32} {s s2 : St} {v : Int32} (h : f_X7_wet a1 a2 s = some (v, s2)) : Ct lc Γ yX7_wet cX7_wet 4 (some .int) 4 [.ref (gL Γ (189)), .int a1, .int a2] s (some (.int v), s2) := Ct.of (by decide +kernel) (Nat.le_of_ble_eq_true rfl) (fun X hl hX => e_X7_wet hX h rfl)
theorem dX7_allLeft_0 : decode cX7_allLeft 0 = .ok (.iconst 0, 1) := by decide +kernel
theorem dX7_allLeft_1 : decode cX7_allLeft 1 = .ok (.istore_n 1, 1) := by decide +kernel
theorem dX7_allLeft_2 : decode cX7_allLeft 2 = .ok (.iconst 0, 1) := by decide +kernel
theorem dX7_allLeft_3 : decode cX7_allLeft 3 = .ok (.istore_n 2, 1) := by decide +kernel
theorem dX7_allLeft_4 : decode cX7_allLeft 4 = .ok (.iload_n 2, 1) := by decide +kernel
theorem dX7_allLeft_5 : decode cX7_allLeft 5 = .ok (.aload_n 0, 1) := by decide +kernel
theorem dX7_allLeft_6 : decode cX7_allLeft 6 = .ok (.getfield 69, 3) := by decide +kernel
theorem dX7_allLeft_9 : decode cX7_allLeft 9 = .ok (.if_icmp .ge 22, 3) := by decide +kernel
theorem dX7_allLeft_12 : decode cX7_allLeft 12 = .ok (.iload_n 1, 1) := by decide +kernel
theorem dX7_allLeft_13 : decode cX7_allLeft 13 = .ok (.aload_n 0, 1) := by decide +kernel
theorem dX7_allLeft_14 : decode cX7_allLeft 14 = .ok (.getfield 13, 3) := by decide +kernel
theorem dX7_allLeft_17 : decode cX7_allLeft 17 = .ok (.iconst 4, 1) := by decide +kernel
theorem dX7_allLeft_18 : decode cX7_allLeft 18 = .ok (.iload_n 2, 1) := by decide +kernel
theorem dX7_allLeft_19 : decode cX7_allLeft 19 = .ok (.imul, 1) := by decide +kernel
theorem dX7_allLeft_20 : decode cX7_allLeft 20 = .ok (.iconst 3, 1) := by decide +kernel
theorem dX7_allLeft_21 : decode cX7_allLeft 21 = .ok (.iadd, 1) := by decide +kernel
theorem dX7_allLeft_22 : decode cX7_allLeft 22 = .ok (.iaload, 1) := by decide +kernel
theorem dX7_allLeft_23 : decode cX7_allLeft 23 = .ok (.iadd, 1) := by decide +kernel
theorem dX7_allLeft_24 : decode cX7_allLeft 24 = .ok (.istore_n 1, 1) := by decide +kernel
theorem dX7_allLeft_25 : decode cX7_allLeft 25 = .ok (.iinc 2 1, 3) := by decide +kernel
theorem dX7_allLeft_28 : decode cX7_allLeft 28 = .ok (.goto (-24), 3) := by decide +kernel
theorem dX7_allLeft_31 : decode cX7_allLeft 31 = .ok (.iload_n 1, 1) := by decide +kernel
theorem dX7_allLeft_32 : decode cX7_allLeft 32 = .ok (.ireturn, 1) := by decide +kernel
def f_X7_allLeft_L4 (v1 : Int32) (v2 : Int32) (s : St) : Option ((Int32 × Int32 × St) ⊕ (Int32 × St)) := if (s.1 189 3) ≤ v2 then (some (Sum.inr ((v1, s)))) else (if inb (((nI 4) * v2) + (nI 3)) (lnI 191) = true then bd (v1 + (s.1 191 ((((nI 4) * v2) + (nI 3))).toNatClampNeg)) (fun x3 => some (Sum.inl (x3, (v2 + (nI 1)), s))) else none)
def f_X7_allLeft (s : St) : Option (Int32 × St) := lp (fun q : Int32 × Int32 × St => f_X7_allLeft_L4 q.1 q.2.1 q.2.2) Fu ((nI 0), (nI 0), s)
set_option maxHeartbeats 4000000 in
set_option maxRecDepth 100000 in
theorem e_X7_allLeft_L4 {X : Cx} {Γ : Gm} {r0 : Rb} (hX : Amb X Γ cX7_allLeft RX7 3 (some .int) 0) {v1 : Int32} {v2 : Int32} {s : St} {t : (Int32 × Int32 × St) ⊕ (Int32 × St)} (h : f_X7_allLeft_L4 v1 v2 s = some t) (hk : (Sum.elim (fun q : Int32 × Int32 × St => Zw X Γ 3 r0 q.2.2 4 [(0, .ref (gL Γ (189))), (1, .int q.1), (2, .int q.2.1)] []) (fun t : Int32 × St => Rt X Γ r0 (some (Value.int t.1), t.2))) t) : Zw X Γ 3 r0 s 4 [(0, .ref (gL Γ (189))), (1, .int v1), (2, .int v2)] [] := by
  unfold f_X7_allLeft_L4 at h
  refine z_iload_n hX dX7_allLeft_4 2 rfl 5 rfl ?_
  refine z_aload_n hX dX7_allLeft_5 0 rfl 6 rfl ?_
  refine z_get7 hX (k := 189) (j := 3) (v := .int ((s.1 189 3))) kdc_189 (by decide) rfl dX7_allLeft_6 fl_X7_69 9 rfl ?_
  refine z_icmp_ge hX 31 dX7_allLeft_9 (by decide) 12 rfl (fun c1 => ?_) (fun c1 => ?_)
  · replace h := br_pos h c1
    refine z_iload_n hX dX7_allLeft_31 1 rfl 32 rfl ?_
    replace h := Option.some.inj h
    subst h
    exact z_iret hX dX7_allLeft_32 rfl hk
  · replace h := br_neg h c1
    refine z_iload_n hX dX7_allLeft_12 1 rfl 13 rfl ?_
    refine z_aload_n hX dX7_allLeft_13 0 rfl 14 rfl ?_
    refine z_get7 hX (k := 189) (j := 1) (v := .ref (gL Γ (191))) kdc_189 (by decide) rfl dX7_allLeft_14 fl_X7_13 17 rfl ?_
    refine z_iconst hX (v := (nI 4)) dX7_allLeft_17 rfl 18 rfl ?_
    refine z_iload_n hX dX7_allLeft_18 2 rfl 19 rfl ?_
    refine z_imul hX dX7_allLeft_19 20 rfl ?_
    refine z_iconst hX (v := (nI 3)) dX7_allLeft_20 rfl 21 rfl ?_
    refine z_iadd hX dX7_allLeft_21 22 rfl ?_
    replace h := gd_elim h
    obtain ⟨g2, h⟩ := h
    refine z_iald hX (inb_vp g2) dX7_allLeft_22 23 rfl ?_
    refine z_iadd hX dX7_allLeft_23 24 rfl ?_
    replace h := bd_elim h
    obtain ⟨x3, ex3, h⟩ := h
    refine z_nm ex3 ?_
    refine z_istore_n hX (lv2 := [(1, .int x3), (0, .ref (gL Γ (189))), (2, .int v2)]) dX7_allLeft_24 (by decide) rfl 25 rfl ?_
    refine z_iinc hX (v := (v2 + (nI 1))) (lv2 := [(2, .int ((v2 + (nI 1)))), (1, .int x3), (0, .ref (gL Γ (189)))]) dX7_allLeft_25 2 rfl rfl (by decide) rfl 28 rfl ?_
    refine z_goto hX 4 dX7_allLeft_28 (by decide) ?_
    replace h := Option.some.inj h
    subst h
    exact z_sub [2, 1, 0] rfl hk
set_option maxHeartbeats 4000000 in
set_option maxRecDepth 100000 in
theorem e_X7_allLeft {X : Cx} {Γ : Gm} {r0 : Rb} (hX : Amb X Γ cX7_allLeft RX7 3 (some .int) 0) {s : St} {t : Int32 × St} (h : f_X7_allLeft s = some t) (hk : (fun t : Int32 × St => Rt X Γ r0 (some (Value.int t.1), t.2)) t) : Zw X Γ 3 r0 s 0 [(0, .ref (gL Γ (189)))] [] := by
  unfold f_X7_allLeft at h
  refine z_iconst hX (v := (nI 0)) dX7_allLeft_0 rfl 1 rfl ?_
  refine z_istore_n hX (lv2 := [(1, .int ((nI 0))), (0, .ref (gL Γ (189)))]) dX7_allLeft_1 (by decide) rfl 2 rfl ?_
  refine z_iconst hX (v := (nI 0)) dX7_allLeft_2 rfl 3 rfl ?_
  refine z_istore_n hX (lv2 := [(2, .int ((nI 0))), (1, .int ((nI 0))), (0, .ref (gL Γ (189)))]) dX7_allLeft_3 (by decide) rfl 4 rfl ?_
  exact z_sub [2, 1, 0] rfl (lp_ok (Z := fun q : Int32 × Int32 × St => Zw X Γ 3 r0 q.2.2 4 [(0, .ref (gL Γ (189))), (1, .int q.1), (2, .int q.2.1)] []) (fun q t h hk => e_X7_allLeft_L4 hX h hk) Fu _ _ h hk)
theorem c_X7_allLeft {lc : Launch} {Γ : Gm} {s s2 : St} {v : Int32} (h : f_X7_allLeft s = some (v, s2)) : Ct lc Γ yX7_allLeft cX7_allLeft 3 (some .int) 0 [.ref (gL Γ (189))] s (some (.int v), s2) := Ct.of (by decide +kernel) (Nat.le_of_ble_eq_true rfl) (fun X hl hX => e_X7_allLeft hX h rfl)
theorem dX7_over_0 : decode cX7_over 0 = .ok (.aload_n 0, 1) := by decide +kernel
theorem dX7_over_1 : decode cX7_over 1 = .ok (.invokevirtual 188, 3) := by decide +kernel
theorem dX7_over_4 : decode cX7_over 4 = .ok (.iconst 0, 1) := by decide +kernel
theorem dX7_over_5 : decode cX7_over 5 = .ok (.istore_n 1, 1) := by decide +kernel
theorem dX7_over_6 : decode cX7_over 6 = .ok (.iload_n 1, 1) := by decide +kernel
theorem dX7_over_7 : decode cX7_over 7 = .ok (.bipush 60, 2) := by decide +kernel
theorem dX7_over_9 : decode cX7_over 9 = .ok (.if_icmp .gt 28, 3) := by decide +kernel
theorem dX7_over_12 : decode cX7_over 12 = .ok (.aload_n 0, 1) := by decide +kernel
theorem dX7_over_13 : decode cX7_over 13 = .ok (.invokevirtual 191, 3) := by decide +kernel
theorem dX7_over_16 : decode cX7_over 16 = .ok (.aload_n 0, 1) := by decide +kernel
theorem dX7_over_17 : decode cX7_over 17 = .ok (.invokevirtual 241, 3) := by decide +kernel
theorem dX7_over_20 : decode cX7_over 20 = .ok (.iadd, 1) := by decide +kernel
theorem dX7_over_21 : decode cX7_over 21 = .ok (.ifCond .ne 5, 3) := by decide +kernel
theorem dX7_over_24 : decode cX7_over 24 = .ok (.iload_n 1, 1) := by decide +kernel
theorem dX7_over_25 : decode cX7_over 25 = .ok (.ireturn, 1) := by decide +kernel
theorem dX7_over_26 : decode cX7_over 26 = .ok (.aload_n 0, 1) := by decide +kernel
theorem dX7_over_27 : decode cX7_over 27 = .ok (.iconst 0, 1) := by decide +kernel
theorem dX7_over_28 : decode cX7_over 28 = .ok (.invokevirtual 178, 3) := by decide +kernel
theorem dX7_over_31 : decode cX7_over 31 = .ok (.iinc 1 1, 3) := by decide +kernel
theorem dX7_over_34 : decode cX7_over 34 = .ok (.goto (-28), 3) := by decide +kernel
theorem dX7_over_37 : decode cX7_over 37 = .ok (.bipush (-4), 2) := by decide +kernel
theorem dX7_over_39 : decode cX7_over 39 = .ok (.ireturn, 1) := by decide +kernel
def f_X7_over_L6 (v1 : Int32) (s : St) : Option ((Int32 × St) ⊕ (Int32 × St)) := if (nI 60) < v1 then (some (Sum.inr (((-4), s)))) else (cl (f_X7_allIn s) (fun x5 s4 => cl (f_X7_allLeft s4) (fun x7 s6 => if ¬ (x5 + x7) = 0 then (cl (f_X7_stepGoes (nI 0) s6) (fun x10 s9 => some (Sum.inl ((v1 + (nI 1)), s9)))) else (some (Sum.inr ((v1, s6)))))))
def f_X7_over (s : St) : Option (Int32 × St) := cl (f_X7_starts s) (fun x2 s1 => lp (fun q : Int32 × St => f_X7_over_L6 q.1 q.2) Fu ((nI 0), s1))
set_option maxHeartbeats 4000000 in
set_option maxRecDepth 100000 in
theorem e_X7_over_L6 {X : Cx} {Γ : Gm} {r0 : Rb} (hX : Amb X Γ cX7_over RX7 2 (some .int) 4) {v1 : Int32} {s : St} {t : (Int32 × St) ⊕ (Int32 × St)} (h : f_X7_over_L6 v1 s = some t) (hk : (Sum.elim (fun q : Int32 × St => Zw X Γ 2 r0 q.2 6 [(0, .ref (gL Γ (189))), (1, .int q.1)] []) (fun t : Int32 × St => Rt X Γ r0 (some (Value.int t.1), t.2))) t) : Zw X Γ 2 r0 s 6 [(0, .ref (gL Γ (189))), (1, .int v1)] [] := by
  unfold f_X7_over_L6 at h
  refine z_iload_n hX dX7_over_6 1 rfl 7 rfl ?_
  refine z_bipush hX (v := (nI 60)) dX7_over_7 (by decide) 9 rfl ?_
  refine z_icmp_gt hX 37 dX7_over_9 (by decide) 12 rfl (fun c3 => ?_) (fun c3 => ?_)
  · replace h := br_pos h c3
    refine z_bipush hX (v := (-4)) dX7_over_37 (by decide) 39 rfl ?_
    replace h := Option.some.inj h
    subst h
    exact z_iret hX dX7_over_39 rfl hk
  · replace h := br_neg h c3
    refine z_aload_n hX dX7_over_12 0 rfl 13 rfl ?_
    replace h := cl_elim h
    obtain ⟨x5, s4, hx5, h⟩ := h
    refine z_cV7i hX (b := 189) (As := []) (c_X7_allIn hx5) lk_X7_191 rfl kdc_189 ds_X7_allIn rfl (by decide) (by decide) (by decide) dX7_over_13 rfl 16 rfl ?_
    refine z_aload_n hX dX7_over_16 0 rfl 17 rfl ?_
    replace h := cl_elim h
    obtain ⟨x7, s6, hx7, h⟩ := h
    refine z_cV7i hX (b := 189) (As := []) (c_X7_allLeft hx7) lk_X7_241 rfl kdc_189 ds_X7_allLeft rfl (by decide) (by decide) (Nat.le_of_ble_eq_true rfl) dX7_over_17 rfl 20 rfl ?_
    refine z_iadd hX dX7_over_20 21 rfl ?_
    refine z_if_ne hX 26 dX7_over_21 (by decide) 24 rfl (fun c8 => ?_) (fun c8 => ?_)
    · replace h := br_pos h c8
      refine z_aload_n hX dX7_over_26 0 rfl 27 rfl ?_
      refine z_iconst hX (v := (nI 0)) dX7_over_27 rfl 28 rfl ?_
      replace h := cl_elim h
      obtain ⟨x10, s9, hx10, h⟩ := h
      refine z_cV7v hX (b := 189) (As := [.int ((nI 0))]) (c_X7_stepGoes hx10) lk_X7_178 rfl kdc_189 ds_X7_stepGoes rfl (by decide) (by decide) (by decide) dX7_over_28 rfl 31 rfl ?_
      refine z_iinc hX (v := (v1 + (nI 1))) (lv2 := [(1, .int ((v1 + (nI 1)))), (0, .ref (gL Γ (189)))]) dX7_over_31 1 rfl rfl (by decide) rfl 34 rfl ?_
      refine z_goto hX 6 dX7_over_34 (by decide) ?_
      replace h := Option.some.inj h
      subst h
      exact z_sub [1, 0] rfl hk
    · replace h := br_neg h c8
      refine z_iload_n hX dX7_over_24 1 rfl 25 rfl ?_
      replace h := Option.some.inj h
      subst h
      exact z_iret hX dX7_over_25 rfl hk
set_option maxHeartbeats 4000000 in
set_option maxRecDepth 100000 in
theorem e_X7_over {X : Cx} {Γ : Gm} {r0 : Rb} (hX : Amb X Γ cX7_over RX7 2 (some .int) 4) {s : St} {t : Int32 × St} (h : f_X7_over s = some t) (hk : (fun t : Int32 × St => Rt X Γ r0 (some (Value.int t.1), t.2)) t) : Zw X Γ 2 r0 s 0 [(0, .ref (gL Γ (189)))] [] := by
  unfold f_X7_over at h
  refine z_aload_n hX dX7_over_0 0 rfl 1 rfl ?_
  replace h := cl_elim h
  obtain ⟨x2, s1, hx2, h⟩ := h
  refine z_cV7v hX (b := 189) (As := []) (c_X7_starts hx2) lk_X7_188 rfl kdc_189 ds_X7_starts rfl (by decide) (by decide) (by decide) dX7_over_1 rfl 4 rfl ?_
  refine z_iconst hX (v := (nI 0)) dX7_over_4 rfl 5 rfl ?_
  refine z_istore_n hX (lv2 := [(1, .int ((nI 0))), (0, .ref (gL Γ (189)))]) dX7_over_5 (by decide) rfl 6 rfl ?_
  exact z_sub [1, 0] rfl (lp_ok (Z := fun q : Int32 × St => Zw X Γ 2 r0 q.2 6 [(0, .ref (gL Γ (189))), (1, .int q.1)] []) (fun q t h hk => e_X7_over_L6 hX h hk) Fu _ _ h hk)
theorem c_X7_over {lc : Launch} {Γ : Gm} {s s2 : St} {v : Int32} (h : f_X7_over s = some (v, s2)) : Ct lc Γ yX7_over cX7_over 2 (some .int) 4 [.ref (gL Γ (189))] s (some (.int v), s2) := Ct.of (by decide +kernel) (Nat.le_of_ble_eq_true rfl) (fun X hl hX => e_X7_over hX h rfl)
theorem dX7_hasIn_0 : decode cX7_hasIn 0 = .ok (.aload_n 0, 1) := by decide +kernel
theorem dX7_hasIn_1 : decode cX7_hasIn 1 = .ok (.invokevirtual 188, 3) := by decide +kernel
theorem dX7_hasIn_4 : decode cX7_hasIn 4 = .ok (.aload_n 0, 1) := by decide +kernel
theorem dX7_hasIn_5 : decode cX7_hasIn 5 = .ok (.getfield 13, 3) := by decide +kernel
theorem dX7_hasIn_8 : decode cX7_hasIn 8 = .ok (.bipush 12, 2) := by decide +kernel
theorem dX7_hasIn_10 : decode cX7_hasIn 10 = .ok (.iconst 2, 1) := by decide +kernel
theorem dX7_hasIn_11 : decode cX7_hasIn 11 = .ok (.iload_n 1, 1) := by decide +kernel
theorem dX7_hasIn_12 : decode cX7_hasIn 12 = .ok (.imul, 1) := by decide +kernel
theorem dX7_hasIn_13 : decode cX7_hasIn 13 = .ok (.iadd, 1) := by decide +kernel
theorem dX7_hasIn_14 : decode cX7_hasIn 14 = .ok (.iload_n 3, 1) := by decide +kernel
theorem dX7_hasIn_15 : decode cX7_hasIn 15 = .ok (.iastore, 1) := by decide +kernel
theorem dX7_hasIn_16 : decode cX7_hasIn 16 = .ok (.aload_n 0, 1) := by decide +kernel
theorem dX7_hasIn_17 : decode cX7_hasIn 17 = .ok (.iload 4, 2) := by decide +kernel
theorem dX7_hasIn_19 : decode cX7_hasIn 19 = .ok (.invokevirtual 230, 3) := by decide +kernel
theorem dX7_hasIn_22 : decode cX7_hasIn 22 = .ok (.aload_n 0, 1) := by decide +kernel
theorem dX7_hasIn_23 : decode cX7_hasIn 23 = .ok (.getfield 13, 3) := by decide +kernel
theorem dX7_hasIn_26 : decode cX7_hasIn 26 = .ok (.bipush 20, 2) := by decide +kernel
theorem dX7_hasIn_28 : decode cX7_hasIn 28 = .ok (.iconst 3, 1) := by decide +kernel
theorem dX7_hasIn_29 : decode cX7_hasIn 29 = .ok (.iload_n 1, 1) := by decide +kernel
theorem dX7_hasIn_30 : decode cX7_hasIn 30 = .ok (.imul, 1) := by decide +kernel
theorem dX7_hasIn_31 : decode cX7_hasIn 31 = .ok (.iadd, 1) := by decide +kernel
theorem dX7_hasIn_32 : decode cX7_hasIn 32 = .ok (.iload_n 2, 1) := by decide +kernel
theorem dX7_hasIn_33 : decode cX7_hasIn 33 = .ok (.iadd, 1) := by decide +kernel
theorem dX7_hasIn_34 : decode cX7_hasIn 34 = .ok (.iaload, 1) := by decide +kernel
theorem dX7_hasIn_35 : decode cX7_hasIn 35 = .ok (.ireturn, 1) := by decide +kernel
def f_X7_hasIn (a1 : Int32) (a2 : Int32) (a3 : Int32) (a4 : Int32) (s : St) : Option (Int32 × St) := cl (f_X7_starts s) (fun x2 s1 => if inb ((nI 12) + ((nI 2) * a1)) (lnI 191) = true then bd (wI s1 191 (((nI 12) + ((nI 2) * a1))).toNatClampNeg a3) (fun s4 => cl (f_X7_stepsGo a4 s4) (fun x6 s5 => if inb (((nI 20) + ((nI 3) * a1)) + a2) (lnI 191) = true then some (((s5.1 191 ((((nI 20) + ((nI 3) * a1)) + a2)).toNatClampNeg), s5)) else none)) else none)
set_option maxHeartbeats 4000000 in
set_option maxRecDepth 100000 in
theorem e_X7_hasIn {X : Cx} {Γ : Gm} {r0 : Rb} (hX : Amb X Γ cX7_hasIn RX7 5 (some .int) 5) {a1 : Int32} {a2 : Int32} {a3 : Int32} {a4 : Int32} {s : St} {t : Int32 × St} (h : f_X7_hasIn a1 a2 a3 a4 s = some t) (hk : (fun t : Int32 × St => Rt X Γ r0 (some (Value.int t.1), t.2)) t) : Zw X Γ 5 r0 s 0 [(0, .ref (gL Γ (189))), (1, .int a1), (2, .int a2), (3, .int a3), (4, .int a4)] [] := by
  unfold f_X7_hasIn at h
  refine z_aload_n hX dX7_hasIn_0 0 rfl 1 rfl ?_
  replace h := cl_elim h
  obtain ⟨x2, s1, hx2, h⟩ := h
  refine z_cV7v hX (b := 189) (As := []) (c_X7_starts hx2) lk_X7_188 rfl kdc_189 ds_X7_starts rfl (by decide) (by decide) (by decide) dX7_hasIn_1 rfl 4 rfl ?_
  refine z_aload_n hX dX7_hasIn_4 0 rfl 5 rfl ?_
  refine z_get7 hX (k := 189) (j := 1) (v := .ref (gL Γ (191))) kdc_189 (by decide) rfl dX7_hasIn_5 fl_X7_13 8 rfl ?_
  refine z_bipush hX (v := (nI 12)) dX7_hasIn_8 (by decide) 10 rfl ?_
  refine z_iconst hX (v := (nI 2)) dX7_hasIn_10 rfl 11 rfl ?_
  refine z_iload_n hX dX7_hasIn_11 1 rfl 12 rfl ?_
  refine z_imul hX dX7_hasIn_12 13 rfl ?_
  refine z_iadd hX dX7_hasIn_13 14 rfl ?_
  refine z_iload_n hX dX7_hasIn_14 3 rfl 15 rfl ?_
  replace h := gd_elim h
  obtain ⟨g3, h⟩ := h
  replace h := bd_elim h
  obtain ⟨s4, es4, h⟩ := h
  refine z_iast hX (inb_vp g3) dX7_hasIn_15 es4 16 rfl ?_
  refine z_aload_n hX dX7_hasIn_16 0 rfl 17 rfl ?_
  refine z_iload hX dX7_hasIn_17 4 rfl 19 rfl ?_
  replace h := cl_elim h
  obtain ⟨x6, s5, hx6, h⟩ := h
  refine z_cV7v hX (b := 189) (As := [.int a4]) (c_X7_stepsGo hx6) lk_X7_230 rfl kdc_189 ds_X7_stepsGo rfl (by decide) (by decide) (by decide) dX7_hasIn_19 rfl 22 rfl ?_
  refine z_aload_n hX dX7_hasIn_22 0 rfl 23 rfl ?_
  refine z_get7 hX (k := 189) (j := 1) (v := .ref (gL Γ (191))) kdc_189 (by decide) rfl dX7_hasIn_23 fl_X7_13 26 rfl ?_
  refine z_bipush hX (v := (nI 20)) dX7_hasIn_26 (by decide) 28 rfl ?_
  refine z_iconst hX (v := (nI 3)) dX7_hasIn_28 rfl 29 rfl ?_
  refine z_iload_n hX dX7_hasIn_29 1 rfl 30 rfl ?_
  refine z_imul hX dX7_hasIn_30 31 rfl ?_
  refine z_iadd hX dX7_hasIn_31 32 rfl ?_
  refine z_iload_n hX dX7_hasIn_32 2 rfl 33 rfl ?_
  refine z_iadd hX dX7_hasIn_33 34 rfl ?_
  replace h := gd_elim h
  obtain ⟨g7, h⟩ := h
  refine z_iald hX (inb_vp g7) dX7_hasIn_34 35 rfl ?_
  replace h := Option.some.inj h
  subst h
  exact z_iret hX dX7_hasIn_35 rfl hk
theorem c_X7_hasIn {lc : Launch} {Γ : Gm} {a1 : Int32} {a2 : Int32} {a3 : Int32} {a4 : Int32} {s s2 : St} {v : Int32} (h : f_X7_hasIn a1 a2 a3 a4 s = some (v, s2)) : Ct lc Γ yX7_hasIn cX7_hasIn 5 (some .int) 5 [.ref (gL Γ (189)), .int a1, .int a2, .int a3, .int a4] s (some (.int v), s2) := Ct.of (by decide +kernel) (Nat.le_of_ble_eq_true rfl) (fun X hl hX => e_X7_hasIn hX h rfl)
theorem dX7_best_0 : decode cX7_best 0 = .ok (.aload_n 0, 1) := by decide +kernel
theorem dX7_best_1 : decode cX7_best 1 = .ok (.iload_n 1, 1) := by decide +kernel
theorem dX7_best_2 : decode cX7_best 2 = .ok (.invokevirtual 209, 3) := by decide +kernel
theorem dX7_best_5 : decode cX7_best 5 = .ok (.ifCond .eq 18, 3) := by decide +kernel
theorem dX7_best_8 : decode cX7_best 8 = .ok (.aload_n 0, 1) := by decide +kernel
theorem dX7_best_9 : decode cX7_best 9 = .ok (.iload_n 2, 1) := by decide +kernel
theorem dX7_best_10 : decode cX7_best 10 = .ok (.invokevirtual 203, 3) := by decide +kernel
theorem dX7_best_13 : decode cX7_best 13 = .ok (.ifCond .eq 10, 3) := by decide +kernel
theorem dX7_best_16 : decode cX7_best 16 = .ok (.iload_n 3, 1) := by decide +kernel
theorem dX7_best_17 : decode cX7_best 17 = .ok (.invokestatic 238, 3) := by decide +kernel
theorem dX7_best_20 : decode cX7_best 20 = .ok (.ifCond .ne 5, 3) := by decide +kernel
theorem dX7_best_23 : decode cX7_best 23 = .ok (.iconst (-1), 1) := by decide +kernel
theorem dX7_best_24 : decode cX7_best 24 = .ok (.ireturn, 1) := by decide +kernel
theorem dX7_best_25 : decode cX7_best 25 = .ok (.iconst (-1), 1) := by decide +kernel
theorem dX7_best_26 : decode cX7_best 26 = .ok (.istore 4, 2) := by decide +kernel
theorem dX7_best_28 : decode cX7_best 28 = .ok (.iconst 0, 1) := by decide +kernel
theorem dX7_best_29 : decode cX7_best 29 = .ok (.istore 5, 2) := by decide +kernel
theorem dX7_best_31 : decode cX7_best 31 = .ok (.iconst 0, 1) := by decide +kernel
theorem dX7_best_32 : decode cX7_best 32 = .ok (.istore 6, 2) := by decide +kernel
theorem dX7_best_34 : decode cX7_best 34 = .ok (.iload 6, 2) := by decide +kernel
theorem dX7_best_36 : decode cX7_best 36 = .ok (.bipush 20, 2) := by decide +kernel
theorem dX7_best_38 : decode cX7_best 38 = .ok (.if_icmp .ge 52, 3) := by decide +kernel
theorem dX7_best_41 : decode cX7_best 41 = .ok (.aload_n 0, 1) := by decide +kernel
theorem dX7_best_42 : decode cX7_best 42 = .ok (.iload_n 1, 1) := by decide +kernel
theorem dX7_best_43 : decode cX7_best 43 = .ok (.iload_n 2, 1) := by decide +kernel
theorem dX7_best_44 : decode cX7_best 44 = .ok (.iload 6, 2) := by decide +kernel
theorem dX7_best_46 : decode cX7_best 46 = .ok (.iload_n 3, 1) := by decide +kernel
theorem dX7_best_47 : decode cX7_best 47 = .ok (.invokevirtual 244, 3) := by decide +kernel
theorem dX7_best_50 : decode cX7_best 50 = .ok (.istore 7, 2) := by decide +kernel
theorem dX7_best_52 : decode cX7_best 52 = .ok (.iload 7, 2) := by decide +kernel
theorem dX7_best_54 : decode cX7_best 54 = .ok (.iload 4, 2) := by decide +kernel
theorem dX7_best_56 : decode cX7_best 56 = .ok (.if_icmp .le 8, 3) := by decide +kernel
theorem dX7_best_59 : decode cX7_best 59 = .ok (.iload 6, 2) := by decide +kernel
theorem dX7_best_61 : decode cX7_best 61 = .ok (.goto 5, 3) := by decide +kernel
theorem dX7_best_64 : decode cX7_best 64 = .ok (.iload 5, 2) := by decide +kernel
theorem dX7_best_66 : decode cX7_best 66 = .ok (.istore 5, 2) := by decide +kernel
theorem dX7_best_68 : decode cX7_best 68 = .ok (.iload 7, 2) := by decide +kernel
theorem dX7_best_70 : decode cX7_best 70 = .ok (.iload 4, 2) := by decide +kernel
theorem dX7_best_72 : decode cX7_best 72 = .ok (.if_icmp .le 8, 3) := by decide +kernel
theorem dX7_best_75 : decode cX7_best 75 = .ok (.iload 7, 2) := by decide +kernel
theorem dX7_best_77 : decode cX7_best 77 = .ok (.goto 5, 3) := by decide +kernel
theorem dX7_best_80 : decode cX7_best 80 = .ok (.iload 4, 2) := by decide +kernel
theorem dX7_best_82 : decode cX7_best 82 = .ok (.istore 4, 2) := by decide +kernel
theorem dX7_best_84 : decode cX7_best 84 = .ok (.iinc 6 1, 3) := by decide +kernel
theorem dX7_best_87 : decode cX7_best 87 = .ok (.goto (-53), 3) := by decide +kernel
theorem dX7_best_90 : decode cX7_best 90 = .ok (.iload 5, 2) := by decide +kernel
theorem dX7_best_92 : decode cX7_best 92 = .ok (.invokestatic 200, 3) := by decide +kernel
theorem dX7_best_95 : decode cX7_best 95 = .ok (.ireturn, 1) := by decide +kernel
def f_X7_best_J66 (v1 : Int32) (v2 : Int32) (v3 : Int32) (v4 : Int32) (v6 : Int32) (v7 : Int32) (k0 : Int32) (s : St) : Option ((Int32 × Int32 × Int32 × St) ⊕ (Int32 × St)) := if v7 ≤ v4 then (some (Sum.inl (v4, k0, (v6 + (nI 1)), s))) else (some (Sum.inl (v7, k0, (v6 + (nI 1)), s)))
def f_X7_best_L34 (v1 : Int32) (v2 : Int32) (v3 : Int32) (v4 : Int32) (v5 : Int32) (v6 : Int32) (s : St) : Option ((Int32 × Int32 × Int32 × St) ⊕ (Int32 × St)) := if (nI 20) ≤ v6 then (cl (f_X7_nameOf v5 s) (fun x12 s11 => some (Sum.inr ((x12, s11))))) else (cl (f_X7_hasIn v1 v2 v6 v3 s) (fun x14 s13 => if x14 ≤ v4 then (f_X7_best_J66 v1 v2 v3 v4 v6 x14 v5 s13) else (f_X7_best_J66 v1 v2 v3 v4 v6 x14 v6 s13)))
def f_X7_best (a1 : Int32) (a2 : Int32) (a3 : Int32) (s : St) : Option (Int32 × St) := cl (f_X7_isSitter a1 s) (fun x2 s1 => if x2 = 0 then (some (((-1), s1))) else (cl (f_X7_isLife a2 s1) (fun x5 s4 => if x5 = 0 then (some (((-1), s4))) else (cl (f_X7_isFar a3 s4) (fun x8 s7 => if ¬ x8 = 0 then (lp (fun q : Int32 × Int32 × Int32 × St => f_X7_best_L34 a1 a2 a3 q.1 q.2.1 q.2.2.1 q.2.2.2) Fu ((-1), (nI 0), (nI 0), s7)) else (some (((-1), s7))))))))
set_option maxHeartbeats 4000000 in
set_option maxRecDepth 100000 in
theorem e_X7_best_J66 {X : Cx} {Γ : Gm} {r0 : Rb} (hX : Amb X Γ cX7_best RX7 8 (some .int) 6) {v1 : Int32} {v2 : Int32} {v3 : Int32} {v4 : Int32} {v6 : Int32} {v7 : Int32} {k0 : Int32} {s : St} {t : (Int32 × Int32 × Int32 × St) ⊕ (Int32 × St)} (h : f_X7_best_J66 v1 v2 v3 v4 v6 v7 k0 s = some t) (hk : (Sum.elim (fun q : Int32 × Int32 × Int32 × St => Zw X Γ 8 r0 q.2.2.2 34 [(0, .ref (gL Γ (189))), (1, .int v1), (2, .int v2), (3, .int v3), (4, .int q.1), (5, .int q.2.1), (6, .int q.2.2.1)] []) (fun t : Int32 × St => Rt X Γ r0 (some (Value.int t.1), t.2))) t) : Zw X Γ 8 r0 s 66 [(0, .ref (gL Γ (189))), (1, .int v1), (2, .int v2), (3, .int v3), (4, .int v4), (6, .int v6), (7, .int v7)] [.int k0] := by
  unfold f_X7_best_J66 at h
  refine z_istore hX (lv2 := [(5, .int k0), (0, .ref (gL Γ (189))), (1, .int v1), (2, .int v2), (3, .int v3), (4, .int v4), (6, .int v6), (7, .int v7)]) dX7_best_66 (by decide) rfl 68 rfl ?_
  refine z_iload hX dX7_best_68 7 rfl 70 rfl ?_
  refine z_iload hX dX7_best_70 5 rfl 72 rfl ?_
  refine z_icmp_le hX 80 dX7_best_72 (by decide) 75 rfl (fun c16 => ?_) (fun c16 => ?_)
  · replace h := br_pos h c16
    refine z_iload hX dX7_best_80 5 rfl 82 rfl ?_
    refine z_istore hX (lv2 := [(4, .int v4), (5, .int k0), (0, .ref (gL Γ (189))), (1, .int v1), (2, .int v2), (3, .int v3), (6, .int v6), (7, .int v7)]) dX7_best_82 (by decide) rfl 84 rfl ?_
    refine z_iinc hX (v := (v6 + (nI 1))) (lv2 := [(6, .int ((v6 + (nI 1)))), (4, .int v4), (5, .int k0), (0, .ref (gL Γ (189))), (1, .int v1), (2, .int v2), (3, .int v3), (7, .int v7)]) dX7_best_84 6 rfl rfl (by decide) rfl 87 rfl ?_
    refine z_goto hX 34 dX7_best_87 (by decide) ?_
    replace h := Option.some.inj h
    subst h
    exact z_sub [3, 4, 5, 6, 1, 2, 0] rfl hk
  · replace h := br_neg h c16
    refine z_iload hX dX7_best_75 7 rfl 77 rfl ?_
    refine z_goto hX 82 dX7_best_77 (by decide) ?_
    refine z_istore hX (lv2 := [(4, .int v7), (5, .int k0), (0, .ref (gL Γ (189))), (1, .int v1), (2, .int v2), (3, .int v3), (6, .int v6), (7, .int v7)]) dX7_best_82 (by decide) rfl 84 rfl ?_
    refine z_iinc hX (v := (v6 + (nI 1))) (lv2 := [(6, .int ((v6 + (nI 1)))), (4, .int v7), (5, .int k0), (0, .ref (gL Γ (189))), (1, .int v1), (2, .int v2), (3, .int v3), (7, .int v7)]) dX7_best_84 6 rfl rfl (by decide) rfl 87 rfl ?_
    refine z_goto hX 34 dX7_best_87 (by decide) ?_
    replace h := Option.some.inj h
    subst h
    exact z_sub [3, 4, 5, 6, 1, 2, 0] rfl hk
set_option maxHeartbeats 4000000 in
set_option maxRecDepth 100000 in
theorem e_X7_best_L34 {X : Cx} {Γ : Gm} {r0 : Rb} (hX : Amb X Γ cX7_best RX7 8 (some .int) 6) {v1 : Int32} {v2 : Int32} {v3 : Int32} {v4 : Int32} {v5 : Int32} {v6 : Int32} {s : St} {t : (Int32 × Int32 × Int32 × St) ⊕ (Int32 × St)} (h : f_X7_best_L34 v1 v2 v3 v4 v5 v6 s = some t) (hk : (Sum.elim (fun q : Int32 × Int32 × Int32 × St => Zw X Γ 8 r0 q.2.2.2 34 [(0, .ref (gL Γ (189))), (1, .int v1), (2, .int v2), (3, .int v3), (4, .int q.1), (5, .int q.2.1), (6, .int q.2.2.1)] []) (fun t : Int32 × St => Rt X Γ r0 (some (Value.int t.1), t.2))) t) : Zw X Γ 8 r0 s 34 [(0, .ref (gL Γ (189))), (1, .int v1), (2, .int v2), (3, .int v3), (4, .int v4), (5, .int v5), (6, .int v6)] [] := by
  unfold f_X7_best_L34 at h
  refine z_iload hX dX7_best_34 6 rfl 36 rfl ?_
  refine z_bipush hX (v := (nI 20)) dX7_best_36 (by decide) 38 rfl ?_
  refine z_icmp_ge hX 90 dX7_best_38 (by decide) 41 rfl (fun c10 => ?_) (fun c10 => ?_)
  · replace h := br_pos h c10
    refine z_iload hX dX7_best_90 5 rfl 92 rfl ?_
    replace h := cl_elim h
    obtain ⟨x12, s11, hx12, h⟩ := h
    refine z_cSi hX (As := [.int v5]) (c_X7_nameOf hx12) lk_X7_200 ds_X7_nameOf rfl (by decide) (by decide) (by decide) dX7_best_92 rfl 95 rfl ?_
    replace h := Option.some.inj h
    subst h
    exact z_iret hX dX7_best_95 rfl hk
  · replace h := br_neg h c10
    refine z_aload_n hX dX7_best_41 0 rfl 42 rfl ?_
    refine z_iload_n hX dX7_best_42 1 rfl 43 rfl ?_
    refine z_iload_n hX dX7_best_43 2 rfl 44 rfl ?_
    refine z_iload hX dX7_best_44 6 rfl 46 rfl ?_
    refine z_iload_n hX dX7_best_46 3 rfl 47 rfl ?_
    replace h := cl_elim h
    obtain ⟨x14, s13, hx14, h⟩ := h
    refine z_cV7i hX (b := 189) (As := [.int v1, .int v2, .int v6, .int v3]) (c_X7_hasIn hx14) lk_X7_244 rfl kdc_189 ds_X7_hasIn rfl (by decide) (by decide) (by decide) dX7_best_47 rfl 50 rfl ?_
    refine z_istore hX (lv2 := [(7, .int x14), (0, .ref (gL Γ (189))), (1, .int v1), (2, .int v2), (3, .int v3), (4, .int v4), (5, .int v5), (6, .int v6)]) dX7_best_50 (by decide) rfl 52 rfl ?_
    refine z_iload hX dX7_best_52 0 rfl 54 rfl ?_
    refine z_iload hX dX7_best_54 5 rfl 56 rfl ?_
    refine z_icmp_le hX 64 dX7_best_56 (by decide) 59 rfl (fun c15 => ?_) (fun c15 => ?_)
    · replace h := br_pos h c15
      refine z_iload hX dX7_best_64 6 rfl 66 rfl ?_
      exact z_sub [1, 2, 3, 4, 5, 7, 0] rfl (e_X7_best_J66 hX h hk)
    · replace h := br_neg h c15
      refine z_iload hX dX7_best_59 7 rfl 61 rfl ?_
      refine z_goto hX 66 dX7_best_61 (by decide) ?_
      exact z_sub [1, 2, 3, 4, 5, 7, 0] rfl (e_X7_best_J66 hX h hk)
set_option maxHeartbeats 4000000 in
set_option maxRecDepth 100000 in
theorem e_X7_best {X : Cx} {Γ : Gm} {r0 : Rb} (hX : Amb X Γ cX7_best RX7 8 (some .int) 6) {a1 : Int32} {a2 : Int32} {a3 : Int32} {s : St} {t : Int32 × St} (h : f_X7_best a1 a2 a3 s = some t) (hk : (fun t : Int32 × St => Rt X Γ r0 (some (Value.int t.1), t.2)) t) : Zw X Γ 8 r0 s 0 [(0, .ref (gL Γ (189))), (1, .int a1), (2, .int a2), (3, .int a3)] [] := by
  unfold f_X7_best at h
  refine z_aload_n hX dX7_best_0 0 rfl 1 rfl ?_
  refine z_iload_n hX dX7_best_1 1 rfl 2 rfl ?_
  replace h := cl_elim h
  obtain ⟨x2, s1, hx2, h⟩ := h
  refine z_cV7i hX (b := 189) (As := [.int a1]) (c_X7_isSitter hx2) lk_X7_209 rfl kdc_189 ds_X7_isSitter rfl (by decide) (by decide) (by decide) dX7_best_2 rfl 5 rfl ?_
  refine z_if_eq hX 23 dX7_best_5 (by decide) 8 rfl (fun c3 => ?_) (fun c3 => ?_)
  · replace h := br_pos h c3
    refine z_iconst hX (v := (-1)) dX7_best_23 rfl 24 rfl ?_
    replace h := Option.some.inj h
    subst h
    exact z_iret hX dX7_best_24 rfl hk
  · replace h := br_neg h c3
    refine z_aload_n hX dX7_best_8 0 rfl 9 rfl ?_
    refine z_iload_n hX dX7_best_9 2 rfl 10 rfl ?_
    replace h := cl_elim h
    obtain ⟨x5, s4, hx5, h⟩ := h
    refine z_cV7i hX (b := 189) (As := [.int a2]) (c_X7_isLife hx5) lk_X7_203 rfl kdc_189 ds_X7_isLife rfl (by decide) (by decide) (by decide) dX7_best_10 rfl 13 rfl ?_
    refine z_if_eq hX 23 dX7_best_13 (by decide) 16 rfl (fun c6 => ?_) (fun c6 => ?_)
    · replace h := br_pos h c6
      refine z_iconst hX (v := (-1)) dX7_best_23 rfl 24 rfl ?_
      replace h := Option.some.inj h
      subst h
      exact z_iret hX dX7_best_24 rfl hk
    · replace h := br_neg h c6
      refine z_iload_n hX dX7_best_16 3 rfl 17 rfl ?_
      replace h := cl_elim h
      obtain ⟨x8, s7, hx8, h⟩ := h
      refine z_cSi hX (As := [.int a3]) (c_X7_isFar hx8) lk_X7_238 ds_X7_isFar rfl (by decide) (by decide) (by decide) dX7_best_17 rfl 20 rfl ?_
      refine z_if_ne hX 25 dX7_best_20 (by decide) 23 rfl (fun c9 => ?_) (fun c9 => ?_)
      · replace h := br_pos h c9
        refine z_iconst hX (v := (-1)) dX7_best_25 rfl 26 rfl ?_
        refine z_istore hX (lv2 := [(4, .int ((-1))), (0, .ref (gL Γ (189))), (1, .int a1), (2, .int a2), (3, .int a3)]) dX7_best_26 (by decide) rfl 28 rfl ?_
        refine z_iconst hX (v := (nI 0)) dX7_best_28 rfl 29 rfl ?_
        refine z_istore hX (lv2 := [(5, .int ((nI 0))), (4, .int ((-1))), (0, .ref (gL Γ (189))), (1, .int a1), (2, .int a2), (3, .int a3)]) dX7_best_29 (by decide) rfl 31 rfl ?_
        refine z_iconst hX (v := (nI 0)) dX7_best_31 rfl 32 rfl ?_
        refine z_istore hX (lv2 := [(6, .int ((nI 0))), (5, .int ((nI 0))), (4, .int ((-1))), (0, .ref (gL Γ (189))), (1, .int a1), (2, .int a2), (3, .int a3)]) dX7_best_32 (by decide) rfl 34 rfl ?_
        exact z_sub [3, 4, 5, 6, 2, 1, 0] rfl (lp_ok (Z := fun q : Int32 × Int32 × Int32 × St => Zw X Γ 8 r0 q.2.2.2 34 [(0, .ref (gL Γ (189))), (1, .int a1), (2, .int a2), (3, .int a3), (4, .int q.1), (5, .int q.2.1), (6, .int q.2.2.1)] []) (fun q t h hk => e_X7_best_L34 hX h hk) Fu _ _ h hk)
      · replace h := br_neg h c9
        refine z_iconst hX (v := (-1)) dX7_best_23 rfl 24 rfl ?_
        replace h := Option.some.inj h
        subst h
        exact z_iret hX dX7_best_24 rfl hk
theorem c_X7_best {lc : Launch} {Γ : Gm} {a1 : Int32} {a2 : Int32} {a3 : Int32} {s s2 : St} {v : Int32} (h : f_X7_best a1 a2 a3 s = some (v, s2)) : Ct lc Γ yX7_best cX7_best 8 (some .int) 6 [.ref (gL Γ (189)), .int a1, .int a2, .int a3] s (some (.int v), s2) := Ct.of (by decide +kernel) (Nat.le_of_ble_eq_true rfl) (fun X hl hX => e_X7_best hX h rfl)
theorem dX7_cheap_0 : decode cX7_cheap 0 = .ok (.aload_n 0, 1) := by decide +kernel
theorem dX7_cheap_1 : decode cX7_cheap 1 = .ok (.iload_n 1, 1) := by decide +kernel
theorem dX7_cheap_2 : decode cX7_cheap 2 = .ok (.invokevirtual 209, 3) := by decide +kernel
theorem dX7_cheap_5 : decode cX7_cheap 5 = .ok (.ifCond .eq 23, 3) := by decide +kernel
theorem dX7_cheap_8 : decode cX7_cheap 8 = .ok (.aload_n 0, 1) := by decide +kernel
theorem dX7_cheap_9 : decode cX7_cheap 9 = .ok (.iload_n 2, 1) := by decide +kernel
theorem dX7_cheap_10 : decode cX7_cheap 10 = .ok (.invokevirtual 203, 3) := by decide +kernel
theorem dX7_cheap_13 : decode cX7_cheap 13 = .ok (.ifCond .eq 15, 3) := by decide +kernel
theorem dX7_cheap_16 : decode cX7_cheap 16 = .ok (.iload_n 3, 1) := by decide +kernel
theorem dX7_cheap_17 : decode cX7_cheap 17 = .ok (.i2l, 1) := by decide +kernel
theorem dX7_cheap_18 : decode cX7_cheap 18 = .ok (.lconst 1, 1) := by decide +kernel
theorem dX7_cheap_19 : decode cX7_cheap 19 = .ok (.ldc2_w 248, 3) := by decide +kernel
theorem dX7_cheap_22 : decode cX7_cheap 22 = .ok (.invokestatic 52, 3) := by decide +kernel
theorem dX7_cheap_25 : decode cX7_cheap 25 = .ok (.ifCond .ne 5, 3) := by decide +kernel
theorem dX7_cheap_28 : decode cX7_cheap 28 = .ok (.iconst (-1), 1) := by decide +kernel
theorem dX7_cheap_29 : decode cX7_cheap 29 = .ok (.ireturn, 1) := by decide +kernel
theorem dX7_cheap_30 : decode cX7_cheap 30 = .ok (.ldc 250, 2) := by decide +kernel
theorem dX7_cheap_32 : decode cX7_cheap 32 = .ok (.istore 4, 2) := by decide +kernel
theorem dX7_cheap_34 : decode cX7_cheap 34 = .ok (.bipush (-4), 2) := by decide +kernel
theorem dX7_cheap_36 : decode cX7_cheap 36 = .ok (.istore 5, 2) := by decide +kernel
theorem dX7_cheap_38 : decode cX7_cheap 38 = .ok (.iconst 0, 1) := by decide +kernel
theorem dX7_cheap_39 : decode cX7_cheap 39 = .ok (.istore 6, 2) := by decide +kernel
theorem dX7_cheap_41 : decode cX7_cheap 41 = .ok (.iload 6, 2) := by decide +kernel
theorem dX7_cheap_43 : decode cX7_cheap 43 = .ok (.bipush 20, 2) := by decide +kernel
theorem dX7_cheap_45 : decode cX7_cheap 45 = .ok (.if_icmp .ge 58, 3) := by decide +kernel
theorem dX7_cheap_48 : decode cX7_cheap 48 = .ok (.aload_n 0, 1) := by decide +kernel
theorem dX7_cheap_49 : decode cX7_cheap 49 = .ok (.iload_n 1, 1) := by decide +kernel
theorem dX7_cheap_50 : decode cX7_cheap 50 = .ok (.iload_n 2, 1) := by decide +kernel
theorem dX7_cheap_51 : decode cX7_cheap 51 = .ok (.iload 6, 2) := by decide +kernel
theorem dX7_cheap_53 : decode cX7_cheap 53 = .ok (.bipush 30, 2) := by decide +kernel
theorem dX7_cheap_55 : decode cX7_cheap 55 = .ok (.invokevirtual 244, 3) := by decide +kernel
theorem dX7_cheap_58 : decode cX7_cheap 58 = .ok (.iload_n 3, 1) := by decide +kernel
theorem dX7_cheap_59 : decode cX7_cheap 59 = .ok (.if_icmp .lt 38, 3) := by decide +kernel
theorem dX7_cheap_62 : decode cX7_cheap 62 = .ok (.aload_n 0, 1) := by decide +kernel
theorem dX7_cheap_63 : decode cX7_cheap 63 = .ok (.getfield 7, 3) := by decide +kernel
theorem dX7_cheap_66 : decode cX7_cheap 66 = .ok (.bipush 38, 2) := by decide +kernel
theorem dX7_cheap_68 : decode cX7_cheap 68 = .ok (.iload 6, 2) := by decide +kernel
theorem dX7_cheap_70 : decode cX7_cheap 70 = .ok (.iconst 4, 1) := by decide +kernel
theorem dX7_cheap_71 : decode cX7_cheap 71 = .ok (.irem, 1) := by decide +kernel
theorem dX7_cheap_72 : decode cX7_cheap 72 = .ok (.iadd, 1) := by decide +kernel
theorem dX7_cheap_73 : decode cX7_cheap 73 = .ok (.iaload, 1) := by decide +kernel
theorem dX7_cheap_74 : decode cX7_cheap 74 = .ok (.iload 4, 2) := by decide +kernel
theorem dX7_cheap_76 : decode cX7_cheap 76 = .ok (.if_icmp .ge 21, 3) := by decide +kernel
theorem dX7_cheap_79 : decode cX7_cheap 79 = .ok (.aload_n 0, 1) := by decide +kernel
theorem dX7_cheap_80 : decode cX7_cheap 80 = .ok (.getfield 7, 3) := by decide +kernel
theorem dX7_cheap_83 : decode cX7_cheap 83 = .ok (.bipush 38, 2) := by decide +kernel
theorem dX7_cheap_85 : decode cX7_cheap 85 = .ok (.iload 6, 2) := by decide +kernel
theorem dX7_cheap_87 : decode cX7_cheap 87 = .ok (.iconst 4, 1) := by decide +kernel
theorem dX7_cheap_88 : decode cX7_cheap 88 = .ok (.irem, 1) := by decide +kernel
theorem dX7_cheap_89 : decode cX7_cheap 89 = .ok (.iadd, 1) := by decide +kernel
theorem dX7_cheap_90 : decode cX7_cheap 90 = .ok (.iaload, 1) := by decide +kernel
theorem dX7_cheap_91 : decode cX7_cheap 91 = .ok (.istore 4, 2) := by decide +kernel
theorem dX7_cheap_93 : decode cX7_cheap 93 = .ok (.iload 6, 2) := by decide +kernel
theorem dX7_cheap_95 : decode cX7_cheap 95 = .ok (.istore 5, 2) := by decide +kernel
theorem dX7_cheap_97 : decode cX7_cheap 97 = .ok (.iinc 6 1, 3) := by decide +kernel
theorem dX7_cheap_100 : decode cX7_cheap 100 = .ok (.goto (-59), 3) := by decide +kernel
theorem dX7_cheap_103 : decode cX7_cheap 103 = .ok (.iload 5, 2) := by decide +kernel
theorem dX7_cheap_105 : decode cX7_cheap 105 = .ok (.bipush (-4), 2) := by decide +kernel
theorem dX7_cheap_107 : decode cX7_cheap 107 = .ok (.if_icmp .ne 8, 3) := by decide +kernel
theorem dX7_cheap_110 : decode cX7_cheap 110 = .ok (.bipush (-4), 2) := by decide +kernel
theorem dX7_cheap_112 : decode cX7_cheap 112 = .ok (.goto 8, 3) := by decide +kernel
theorem dX7_cheap_115 : decode cX7_cheap 115 = .ok (.iload 5, 2) := by decide +kernel
theorem dX7_cheap_117 : decode cX7_cheap 117 = .ok (.invokestatic 200, 3) := by decide +kernel
theorem dX7_cheap_120 : decode cX7_cheap 120 = .ok (.ireturn, 1) := by decide +kernel
def f_X7_cheap_L41 (v1 : Int32) (v2 : Int32) (v3 : Int32) (v4 : Int32) (v5 : Int32) (v6 : Int32) (s : St) : Option ((Int32 × Int32 × Int32 × St) ⊕ (Int32 × St)) := if (nI 20) ≤ v6 then (if ¬ v5 = (-4) then (cl (f_X7_nameOf v5 s) (fun x13 s12 => some (Sum.inr ((x13, s12))))) else (some (Sum.inr (((-4), s))))) else (cl (f_X7_hasIn v1 v2 v6 (nI 30) s) (fun x15 s14 => if x15 < v3 then (some (Sum.inl (v4, v5, (v6 + (nI 1)), s14))) else (if inb ((nI 38) + (v6 - v6 / (nI 4) * (nI 4))) (lnI 190) = true then if v4 ≤ (s14.1 190 (((nI 38) + (v6 - v6 / (nI 4) * (nI 4)))).toNatClampNeg) then (some (Sum.inl (v4, v5, (v6 + (nI 1)), s14))) else (bd (s14.1 190 (((nI 38) + (v6 - v6 / (nI 4) * (nI 4)))).toNatClampNeg) (fun x19 => some (Sum.inl (x19, v6, (v6 + (nI 1)), s14)))) else none)))
def f_X7_cheap (a1 : Int32) (a2 : Int32) (a3 : Int32) (s : St) : Option (Int32 × St) := cl (f_X7_isSitter a1 s) (fun x2 s1 => if x2 = 0 then (some (((-1), s1))) else (cl (f_X7_isLife a2 s1) (fun x5 s4 => if x5 = 0 then (some (((-1), s4))) else (cl (f_X7_within ((a3).toInt64) (lN 1) (lN 999) s4) (fun x8 s7 => if ¬ x8 = 0 then (lp (fun q : Int32 × Int32 × Int32 × St => f_X7_cheap_L41 a1 a2 a3 q.1 q.2.1 q.2.2.1 q.2.2.2) Fu ((nI 1000000), (-4), (nI 0), s7)) else (some (((-1), s7))))))))
set_option maxHeartbeats 4000000 in
set_option maxRecDepth 100000 in
theorem e_X7_cheap_L41 {X : Cx} {Γ : Gm} {r0 : Rb} (hX : Amb X Γ cX7_cheap RX7 7 (some .int) 6) {v1 : Int32} {v2 : Int32} {v3 : Int32} {v4 : Int32} {v5 : Int32} {v6 : Int32} {s : St} {t : (Int32 × Int32 × Int32 × St) ⊕ (Int32 × St)} (h : f_X7_cheap_L41 v1 v2 v3 v4 v5 v6 s = some t) (hk : (Sum.elim (fun q : Int32 × Int32 × Int32 × St => Zw X Γ 7 r0 q.2.2.2 41 [(0, .ref (gL Γ (189))), (1, .int v1), (2, .int v2), (3, .int v3), (4, .int q.1), (5, .int q.2.1), (6, .int q.2.2.1)] []) (fun t : Int32 × St => Rt X Γ r0 (some (Value.int t.1), t.2))) t) : Zw X Γ 7 r0 s 41 [(0, .ref (gL Γ (189))), (1, .int v1), (2, .int v2), (3, .int v3), (4, .int v4), (5, .int v5), (6, .int v6)] [] := by
  unfold f_X7_cheap_L41 at h
  refine z_iload hX dX7_cheap_41 6 rfl 43 rfl ?_
  refine z_bipush hX (v := (nI 20)) dX7_cheap_43 (by decide) 45 rfl ?_
  refine z_icmp_ge hX 103 dX7_cheap_45 (by decide) 48 rfl (fun c10 => ?_) (fun c10 => ?_)
  · replace h := br_pos h c10
    refine z_iload hX dX7_cheap_103 5 rfl 105 rfl ?_
    refine z_bipush hX (v := (-4)) dX7_cheap_105 (by decide) 107 rfl ?_
    refine z_icmp_ne hX 115 dX7_cheap_107 (by decide) 110 rfl (fun c11 => ?_) (fun c11 => ?_)
    · replace h := br_pos h c11
      refine z_iload hX dX7_cheap_115 5 rfl 117 rfl ?_
      replace h := cl_elim h
      obtain ⟨x13, s12, hx13, h⟩ := h
      refine z_cSi hX (As := [.int v5]) (c_X7_nameOf hx13) lk_X7_200 ds_X7_nameOf rfl (by decide) (by decide) (by decide) dX7_cheap_117 rfl 120 rfl ?_
      replace h := Option.some.inj h
      subst h
      exact z_iret hX dX7_cheap_120 rfl hk
    · replace h := br_neg h c11
      refine z_bipush hX (v := (-4)) dX7_cheap_110 (by decide) 112 rfl ?_
      refine z_goto hX 120 dX7_cheap_112 (by decide) ?_
      replace h := Option.some.inj h
      subst h
      exact z_iret hX dX7_cheap_120 rfl hk
  · replace h := br_neg h c10
    refine z_aload_n hX dX7_cheap_48 0 rfl 49 rfl ?_
    refine z_iload_n hX dX7_cheap_49 1 rfl 50 rfl ?_
    refine z_iload_n hX dX7_cheap_50 2 rfl 51 rfl ?_
    refine z_iload hX dX7_cheap_51 6 rfl 53 rfl ?_
    refine z_bipush hX (v := (nI 30)) dX7_cheap_53 (by decide) 55 rfl ?_
    replace h := cl_elim h
    obtain ⟨x15, s14, hx15, h⟩ := h
    refine z_cV7i hX (b := 189) (As := [.int v1, .int v2, .int v6, .int ((nI 30))]) (c_X7_hasIn hx15) lk_X7_244 rfl kdc_189 ds_X7_hasIn rfl (by decide) (by decide) (by decide) dX7_cheap_55 rfl 58 rfl ?_
    refine z_iload_n hX dX7_cheap_58 3 rfl 59 rfl ?_
    refine z_icmp_lt hX 97 dX7_cheap_59 (by decide) 62 rfl (fun c16 => ?_) (fun c16 => ?_)
    · replace h := br_pos h c16
      refine z_iinc hX (v := (v6 + (nI 1))) (lv2 := [(6, .int ((v6 + (nI 1)))), (0, .ref (gL Γ (189))), (1, .int v1), (2, .int v2), (3, .int v3), (4, .int v4), (5, .int v5)]) dX7_cheap_97 6 rfl rfl (by decide) rfl 100 rfl ?_
      refine z_goto hX 41 dX7_cheap_100 (by decide) ?_
      replace h := Option.some.inj h
      subst h
      exact z_sub [1, 2, 3, 4, 5, 6, 0] rfl hk
    · replace h := br_neg h c16
      refine z_aload_n hX dX7_cheap_62 0 rfl 63 rfl ?_
      refine z_get7 hX (k := 189) (j := 0) (v := .ref (gL Γ (190))) kdc_189 (by decide) rfl dX7_cheap_63 fl_X7_7 66 rfl ?_
      refine z_bipush hX (v := (nI 38)) dX7_cheap_66 (by decide) 68 rfl ?_
      refine z_iload hX dX7_cheap_68 6 rfl 70 rfl ?_
      refine z_iconst hX (v := (nI 4)) dX7_cheap_70 rfl 71 rfl ?_
      refine z_irem hX dX7_cheap_71 (by decide) 72 rfl ?_
      refine z_iadd hX dX7_cheap_72 73 rfl ?_
      replace h := gd_elim h
      obtain ⟨g17, h⟩ := h
      refine z_iald hX (inb_vp g17) dX7_cheap_73 74 rfl ?_
      refine z_iload hX dX7_cheap_74 4 rfl 76 rfl ?_
      refine z_icmp_ge hX 97 dX7_cheap_76 (by decide) 79 rfl (fun c18 => ?_) (fun c18 => ?_)
      · replace h := br_pos h c18
        refine z_iinc hX (v := (v6 + (nI 1))) (lv2 := [(6, .int ((v6 + (nI 1)))), (0, .ref (gL Γ (189))), (1, .int v1), (2, .int v2), (3, .int v3), (4, .int v4), (5, .int v5)]) dX7_cheap_97 6 rfl rfl (by decide) rfl 100 rfl ?_
        refine z_goto hX 41 dX7_cheap_100 (by decide) ?_
        replace h := Option.some.inj h
        subst h
        exact z_sub [1, 2, 3, 4, 5, 6, 0] rfl hk
      · replace h := br_neg h c18
        refine z_aload_n hX dX7_cheap_79 0 rfl 80 rfl ?_
        refine z_get7 hX (k := 189) (j := 0) (v := .ref (gL Γ (190))) kdc_189 (by decide) rfl dX7_cheap_80 fl_X7_7 83 rfl ?_
        refine z_bipush hX (v := (nI 38)) dX7_cheap_83 (by decide) 85 rfl ?_
        refine z_iload hX dX7_cheap_85 6 rfl 87 rfl ?_
        refine z_iconst hX (v := (nI 4)) dX7_cheap_87 rfl 88 rfl ?_
        refine z_irem hX dX7_cheap_88 (by decide) 89 rfl ?_
        refine z_iadd hX dX7_cheap_89 90 rfl ?_
        refine z_iald hX (inb_vp g17) dX7_cheap_90 91 rfl ?_
        replace h := bd_elim h
        obtain ⟨x19, ex19, h⟩ := h
        refine z_nm ex19 ?_
        refine z_istore hX (lv2 := [(4, .int x19), (0, .ref (gL Γ (189))), (1, .int v1), (2, .int v2), (3, .int v3), (5, .int v5), (6, .int v6)]) dX7_cheap_91 (by decide) rfl 93 rfl ?_
        refine z_iload hX dX7_cheap_93 6 rfl 95 rfl ?_
        refine z_istore hX (lv2 := [(5, .int v6), (4, .int x19), (0, .ref (gL Γ (189))), (1, .int v1), (2, .int v2), (3, .int v3), (6, .int v6)]) dX7_cheap_95 (by decide) rfl 97 rfl ?_
        refine z_iinc hX (v := (v6 + (nI 1))) (lv2 := [(6, .int ((v6 + (nI 1)))), (5, .int v6), (4, .int x19), (0, .ref (gL Γ (189))), (1, .int v1), (2, .int v2), (3, .int v3)]) dX7_cheap_97 6 rfl rfl (by decide) rfl 100 rfl ?_
        refine z_goto hX 41 dX7_cheap_100 (by decide) ?_
        replace h := Option.some.inj h
        subst h
        exact z_sub [3, 4, 5, 6, 2, 1, 0] rfl hk
set_option maxHeartbeats 4000000 in
set_option maxRecDepth 100000 in
theorem e_X7_cheap {X : Cx} {Γ : Gm} {r0 : Rb} (hX : Amb X Γ cX7_cheap RX7 7 (some .int) 6) {a1 : Int32} {a2 : Int32} {a3 : Int32} {s : St} {t : Int32 × St} (h : f_X7_cheap a1 a2 a3 s = some t) (hk : (fun t : Int32 × St => Rt X Γ r0 (some (Value.int t.1), t.2)) t) : Zw X Γ 7 r0 s 0 [(0, .ref (gL Γ (189))), (1, .int a1), (2, .int a2), (3, .int a3)] [] := by
  unfold f_X7_cheap at h
  refine z_aload_n hX dX7_cheap_0 0 rfl 1 rfl ?_
  refine z_iload_n hX dX7_cheap_1 1 rfl 2 rfl ?_
  replace h := cl_elim h
  obtain ⟨x2, s1, hx2, h⟩ := h
  refine z_cV7i hX (b := 189) (As := [.int a1]) (c_X7_isSitter hx2) lk_X7_209 rfl kdc_189 ds_X7_isSitter rfl (by decide) (by decide) (by decide) dX7_cheap_2 rfl 5 rfl ?_
  refine z_if_eq hX 28 dX7_cheap_5 (by decide) 8 rfl (fun c3 => ?_) (fun c3 => ?_)
  · replace h := br_pos h c3
    refine z_iconst hX (v := (-1)) dX7_cheap_28 rfl 29 rfl ?_
    replace h := Option.some.inj h
    subst h
    exact z_iret hX dX7_cheap_29 rfl hk
  · replace h := br_neg h c3
    refine z_aload_n hX dX7_cheap_8 0 rfl 9 rfl ?_
    refine z_iload_n hX dX7_cheap_9 2 rfl 10 rfl ?_
    replace h := cl_elim h
    obtain ⟨x5, s4, hx5, h⟩ := h
    refine z_cV7i hX (b := 189) (As := [.int a2]) (c_X7_isLife hx5) lk_X7_203 rfl kdc_189 ds_X7_isLife rfl (by decide) (by decide) (by decide) dX7_cheap_10 rfl 13 rfl ?_
    refine z_if_eq hX 28 dX7_cheap_13 (by decide) 16 rfl (fun c6 => ?_) (fun c6 => ?_)
    · replace h := br_pos h c6
      refine z_iconst hX (v := (-1)) dX7_cheap_28 rfl 29 rfl ?_
      replace h := Option.some.inj h
      subst h
      exact z_iret hX dX7_cheap_29 rfl hk
    · replace h := br_neg h c6
      refine z_iload_n hX dX7_cheap_16 3 rfl 17 rfl ?_
      refine z_i2l hX dX7_cheap_17 18 rfl ?_
      refine z_lconst hX (v := (lN 1)) dX7_cheap_18 rfl 19 rfl ?_
      refine z_ldc2 hX (v := (lN 999)) dX7_cheap_19 ml_X7_248 22 rfl ?_
      replace h := cl_elim h
      obtain ⟨x8, s7, hx8, h⟩ := h
      refine z_cSi hX (As := [.long ((a3).toInt64), .long ((lN 1)), .long ((lN 999))]) (c_X7_within hx8) lk_X7_52 ds_X7_within rfl (by decide) (by decide) (by decide) dX7_cheap_22 rfl 25 rfl ?_
      refine z_if_ne hX 30 dX7_cheap_25 (by decide) 28 rfl (fun c9 => ?_) (fun c9 => ?_)
      · replace h := br_pos h c9
        refine z_ldc hX (v := (nI 1000000)) dX7_cheap_30 ml_X7_250 32 rfl ?_
        refine z_istore hX (lv2 := [(4, .int ((nI 1000000))), (0, .ref (gL Γ (189))), (1, .int a1), (2, .int a2), (3, .int a3)]) dX7_cheap_32 (by decide) rfl 34 rfl ?_
        refine z_bipush hX (v := (-4)) dX7_cheap_34 (by decide) 36 rfl ?_
        refine z_istore hX (lv2 := [(5, .int ((-4))), (4, .int ((nI 1000000))), (0, .ref (gL Γ (189))), (1, .int a1), (2, .int a2), (3, .int a3)]) dX7_cheap_36 (by decide) rfl 38 rfl ?_
        refine z_iconst hX (v := (nI 0)) dX7_cheap_38 rfl 39 rfl ?_
        refine z_istore hX (lv2 := [(6, .int ((nI 0))), (5, .int ((-4))), (4, .int ((nI 1000000))), (0, .ref (gL Γ (189))), (1, .int a1), (2, .int a2), (3, .int a3)]) dX7_cheap_39 (by decide) rfl 41 rfl ?_
        exact z_sub [3, 4, 5, 6, 2, 1, 0] rfl (lp_ok (Z := fun q : Int32 × Int32 × Int32 × St => Zw X Γ 7 r0 q.2.2.2 41 [(0, .ref (gL Γ (189))), (1, .int a1), (2, .int a2), (3, .int a3), (4, .int q.1), (5, .int q.2.1), (6, .int q.2.2.1)] []) (fun q t h hk => e_X7_cheap_L41 hX h hk) Fu _ _ h hk)
      · replace h := br_neg h c9
        refine z_iconst hX (v := (-1)) dX7_cheap_28 rfl 29 rfl ?_
        replace h := Option.some.inj h
        subst h
        exact z_iret hX dX7_cheap_29 rfl hk
theorem c_X7_cheap {lc : Launch} {Γ : Gm} {a1 : Int32} {a2 : Int32} {a3 : Int32} {s s2 : St} {v : Int32} (h : f_X7_cheap a1 a2 a3 s = some (v, s2)) : Ct lc Γ yX7_cheap cX7_cheap 7 (some .int) 6 [.ref (gL Γ (189)), .int a1, .int a2, .int a3] s (some (.int v), s2) := Ct.of (by decide +kernel) (Nat.le_of_ble_eq_true rfl) (fun X hl hX => e_X7_cheap hX h rfl)
theorem dX7_clean_0 : decode cX7_clean 0 = .ok (.aload_n 0, 1) := by decide +kernel
theorem dX7_clean_1 : decode cX7_clean 1 = .ok (.iload_n 1, 1) := by decide +kernel
theorem dX7_clean_2 : decode cX7_clean 2 = .ok (.invokevirtual 209, 3) := by decide +kernel
theorem dX7_clean_5 : decode cX7_clean 5 = .ok (.ifCond .eq 17, 3) := by decide +kernel
theorem dX7_clean_8 : decode cX7_clean 8 = .ok (.iload_n 2, 1) := by decide +kernel
theorem dX7_clean_9 : decode cX7_clean 9 = .ok (.invokestatic 238, 3) := by decide +kernel
theorem dX7_clean_12 : decode cX7_clean 12 = .ok (.ifCond .eq 10, 3) := by decide +kernel
theorem dX7_clean_15 : decode cX7_clean 15 = .ok (.iload_n 3, 1) := by decide +kernel
theorem dX7_clean_16 : decode cX7_clean 16 = .ok (.invokestatic 251, 3) := by decide +kernel
theorem dX7_clean_19 : decode cX7_clean 19 = .ok (.ifCond .ne 5, 3) := by decide +kernel
theorem dX7_clean_22 : decode cX7_clean 22 = .ok (.iconst (-1), 1) := by decide +kernel
theorem dX7_clean_23 : decode cX7_clean 23 = .ok (.ireturn, 1) := by decide +kernel
theorem dX7_clean_24 : decode cX7_clean 24 = .ok (.aload_n 0, 1) := by decide +kernel
theorem dX7_clean_25 : decode cX7_clean 25 = .ok (.invokevirtual 188, 3) := by decide +kernel
theorem dX7_clean_28 : decode cX7_clean 28 = .ok (.aload_n 0, 1) := by decide +kernel
theorem dX7_clean_29 : decode cX7_clean 29 = .ok (.iload_n 1, 1) := by decide +kernel
theorem dX7_clean_30 : decode cX7_clean 30 = .ok (.invokevirtual 212, 3) := by decide +kernel
theorem dX7_clean_33 : decode cX7_clean 33 = .ok (.istore 4, 2) := by decide +kernel
theorem dX7_clean_35 : decode cX7_clean 35 = .ok (.ldc 250, 2) := by decide +kernel
theorem dX7_clean_37 : decode cX7_clean 37 = .ok (.istore 5, 2) := by decide +kernel
theorem dX7_clean_39 : decode cX7_clean 39 = .ok (.iconst 0, 1) := by decide +kernel
theorem dX7_clean_40 : decode cX7_clean 40 = .ok (.istore 6, 2) := by decide +kernel
theorem dX7_clean_42 : decode cX7_clean 42 = .ok (.iconst 0, 1) := by decide +kernel
theorem dX7_clean_43 : decode cX7_clean 43 = .ok (.istore 7, 2) := by decide +kernel
theorem dX7_clean_45 : decode cX7_clean 45 = .ok (.iload 7, 2) := by decide +kernel
theorem dX7_clean_47 : decode cX7_clean 47 = .ok (.bipush 20, 2) := by decide +kernel
theorem dX7_clean_49 : decode cX7_clean 49 = .ok (.if_icmp .ge 54, 3) := by decide +kernel
theorem dX7_clean_52 : decode cX7_clean 52 = .ok (.aload_n 0, 1) := by decide +kernel
theorem dX7_clean_53 : decode cX7_clean 53 = .ok (.iload_n 1, 1) := by decide +kernel
theorem dX7_clean_54 : decode cX7_clean 54 = .ok (.iconst 0, 1) := by decide +kernel
theorem dX7_clean_55 : decode cX7_clean 55 = .ok (.iload 7, 2) := by decide +kernel
theorem dX7_clean_57 : decode cX7_clean 57 = .ok (.iload_n 2, 1) := by decide +kernel
theorem dX7_clean_58 : decode cX7_clean 58 = .ok (.invokevirtual 244, 3) := by decide +kernel
theorem dX7_clean_61 : decode cX7_clean 61 = .ok (.pop, 1) := by decide +kernel
theorem dX7_clean_62 : decode cX7_clean 62 = .ok (.aload_n 0, 1) := by decide +kernel
theorem dX7_clean_63 : decode cX7_clean 63 = .ok (.iload_n 1, 1) := by decide +kernel
theorem dX7_clean_64 : decode cX7_clean 64 = .ok (.invokevirtual 212, 3) := by decide +kernel
theorem dX7_clean_67 : decode cX7_clean 67 = .ok (.iload 4, 2) := by decide +kernel
theorem dX7_clean_69 : decode cX7_clean 69 = .ok (.isub, 1) := by decide +kernel
theorem dX7_clean_70 : decode cX7_clean 70 = .ok (.istore 8, 2) := by decide +kernel
theorem dX7_clean_72 : decode cX7_clean 72 = .ok (.iload 8, 2) := by decide +kernel
theorem dX7_clean_74 : decode cX7_clean 74 = .ok (.iload 5, 2) := by decide +kernel
theorem dX7_clean_76 : decode cX7_clean 76 = .ok (.if_icmp .ge 8, 3) := by decide +kernel
theorem dX7_clean_79 : decode cX7_clean 79 = .ok (.iload 7, 2) := by decide +kernel
theorem dX7_clean_81 : decode cX7_clean 81 = .ok (.goto 5, 3) := by decide +kernel
theorem dX7_clean_84 : decode cX7_clean 84 = .ok (.iload 6, 2) := by decide +kernel
theorem dX7_clean_86 : decode cX7_clean 86 = .ok (.istore 6, 2) := by decide +kernel
theorem dX7_clean_88 : decode cX7_clean 88 = .ok (.iload 8, 2) := by decide +kernel
theorem dX7_clean_90 : decode cX7_clean 90 = .ok (.iload 5, 2) := by decide +kernel
theorem dX7_clean_92 : decode cX7_clean 92 = .ok (.invokestatic 156, 3) := by decide +kernel
theorem dX7_clean_95 : decode cX7_clean 95 = .ok (.istore 5, 2) := by decide +kernel
theorem dX7_clean_97 : decode cX7_clean 97 = .ok (.iinc 7 1, 3) := by decide +kernel
theorem dX7_clean_100 : decode cX7_clean 100 = .ok (.goto (-55), 3) := by decide +kernel
theorem dX7_clean_103 : decode cX7_clean 103 = .ok (.iload_n 3, 1) := by decide +kernel
theorem dX7_clean_104 : decode cX7_clean 104 = .ok (.ifCond .ne 11, 3) := by decide +kernel
theorem dX7_clean_107 : decode cX7_clean 107 = .ok (.iload 6, 2) := by decide +kernel
theorem dX7_clean_109 : decode cX7_clean 109 = .ok (.invokestatic 200, 3) := by decide +kernel
theorem dX7_clean_112 : decode cX7_clean 112 = .ok (.goto 5, 3) := by decide +kernel
theorem dX7_clean_115 : decode cX7_clean 115 = .ok (.iload 5, 2) := by decide +kernel
theorem dX7_clean_117 : decode cX7_clean 117 = .ok (.ireturn, 1) := by decide +kernel
def f_X7_clean_J86 (v1 : Int32) (v2 : Int32) (v3 : Int32) (v4 : Int32) (v5 : Int32) (v7 : Int32) (v8 : Int32) (k0 : Int32) (s : St) : Option ((Int32 × Int32 × Int32 × St) ⊕ (Int32 × St)) := cl (f_X7_lesser v8 v5 s) (fun x25 s24 => some (Sum.inl (x25, k0, (v7 + (nI 1)), s24)))
def f_X7_clean_L45 (v1 : Int32) (v2 : Int32) (v3 : Int32) (v4 : Int32) (v5 : Int32) (v6 : Int32) (v7 : Int32) (s : St) : Option ((Int32 × Int32 × Int32 × St) ⊕ (Int32 × St)) := if (nI 20) ≤ v7 then (if ¬ v3 = 0 then (some (Sum.inr ((v5, s)))) else (cl (f_X7_nameOf v6 s) (fun x17 s16 => some (Sum.inr ((x17, s16)))))) else (cl (f_X7_hasIn v1 (nI 0) v7 v2 s) (fun x19 s18 => cl (f_X7_hadBy v1 s18) (fun x21 s20 => bd (x21 - v4) (fun x22 => if v5 ≤ x22 then (f_X7_clean_J86 v1 v2 v3 v4 v5 v7 x22 v6 s20) else (f_X7_clean_J86 v1 v2 v3 v4 v5 v7 x22 v7 s20)))))
def f_X7_clean (a1 : Int32) (a2 : Int32) (a3 : Int32) (s : St) : Option (Int32 × St) := cl (f_X7_isSitter a1 s) (fun x2 s1 => if x2 = 0 then (some (((-1), s1))) else (cl (f_X7_isFar a2 s1) (fun x5 s4 => if x5 = 0 then (some (((-1), s4))) else (cl (f_X7_isPart a3 s4) (fun x8 s7 => if ¬ x8 = 0 then (cl (f_X7_starts s7) (fun x11 s10 => cl (f_X7_hadBy a1 s10) (fun x13 s12 => lp (fun q : Int32 × Int32 × Int32 × St => f_X7_clean_L45 a1 a2 a3 x13 q.1 q.2.1 q.2.2.1 q.2.2.2) Fu ((nI 1000000), (nI 0), (nI 0), s12)))) else (some (((-1), s7))))))))
set_option maxHeartbeats 4000000 in
set_option maxRecDepth 100000 in
theorem e_X7_clean_J86 {X : Cx} {Γ : Gm} {r0 : Rb} (hX : Amb X Γ cX7_clean RX7 9 (some .int) 6) {v1 : Int32} {v2 : Int32} {v3 : Int32} {v4 : Int32} {v5 : Int32} {v7 : Int32} {v8 : Int32} {k0 : Int32} {s : St} {t : (Int32 × Int32 × Int32 × St) ⊕ (Int32 × St)} (h : f_X7_clean_J86 v1 v2 v3 v4 v5 v7 v8 k0 s = some t) (hk : (Sum.elim (fun q : Int32 × Int32 × Int32 × St => Zw X Γ 9 r0 q.2.2.2 45 [(0, .ref (gL Γ (189))), (1, .int v1), (2, .int v2), (3, .int v3), (4, .int v4), (5, .int q.1), (6, .int q.2.1), (7, .int q.2.2.1)] []) (fun t : Int32 × St => Rt X Γ r0 (some (Value.int t.1), t.2))) t) : Zw X Γ 9 r0 s 86 [(0, .ref (gL Γ (189))), (1, .int v1), (2, .int v2), (3, .int v3), (4, .int v4), (5, .int v5), (7, .int v7), (8, .int v8)] [.int k0] := by
  unfold f_X7_clean_J86 at h
  refine z_istore hX (lv2 := [(6, .int k0), (0, .ref (gL Γ (189))), (1, .int v1), (2, .int v2), (3, .int v3), (4, .int v4), (5, .int v5), (7, .int v7), (8, .int v8)]) dX7_clean_86 (by decide) rfl 88 rfl ?_
  refine z_iload hX dX7_clean_88 8 rfl 90 rfl ?_
  refine z_iload hX dX7_clean_90 6 rfl 92 rfl ?_
  replace h := cl_elim h
  obtain ⟨x25, s24, hx25, h⟩ := h
  refine z_cSi hX (As := [.int v8, .int v5]) (c_X7_lesser hx25) lk_X7_156 ds_X7_lesser rfl (by decide) (by decide) (by decide) dX7_clean_92 rfl 95 rfl ?_
  refine z_istore hX (lv2 := [(5, .int x25), (6, .int k0), (0, .ref (gL Γ (189))), (1, .int v1), (2, .int v2), (3, .int v3), (4, .int v4), (7, .int v7), (8, .int v8)]) dX7_clean_95 (by decide) rfl 97 rfl ?_
  refine z_iinc hX (v := (v7 + (nI 1))) (lv2 := [(7, .int ((v7 + (nI 1)))), (5, .int x25), (6, .int k0), (0, .ref (gL Γ (189))), (1, .int v1), (2, .int v2), (3, .int v3), (4, .int v4), (8, .int v8)]) dX7_clean_97 7 rfl rfl (by decide) rfl 100 rfl ?_
  refine z_goto hX 45 dX7_clean_100 (by decide) ?_
  replace h := Option.some.inj h
  subst h
  exact z_sub [3, 4, 5, 6, 7, 1, 2, 0] rfl hk
set_option maxHeartbeats 4000000 in
set_option maxRecDepth 100000 in
theorem e_X7_clean_L45 {X : Cx} {Γ : Gm} {r0 : Rb} (hX : Amb X Γ cX7_clean RX7 9 (some .int) 6) {v1 : Int32} {v2 : Int32} {v3 : Int32} {v4 : Int32} {v5 : Int32} {v6 : Int32} {v7 : Int32} {s : St} {t : (Int32 × Int32 × Int32 × St) ⊕ (Int32 × St)} (h : f_X7_clean_L45 v1 v2 v3 v4 v5 v6 v7 s = some t) (hk : (Sum.elim (fun q : Int32 × Int32 × Int32 × St => Zw X Γ 9 r0 q.2.2.2 45 [(0, .ref (gL Γ (189))), (1, .int v1), (2, .int v2), (3, .int v3), (4, .int v4), (5, .int q.1), (6, .int q.2.1), (7, .int q.2.2.1)] []) (fun t : Int32 × St => Rt X Γ r0 (some (Value.int t.1), t.2))) t) : Zw X Γ 9 r0 s 45 [(0, .ref (gL Γ (189))), (1, .int v1), (2, .int v2), (3, .int v3), (4, .int v4), (5, .int v5), (6, .int v6), (7, .int v7)] [] := by
  unfold f_X7_clean_L45 at h
  refine z_iload hX dX7_clean_45 7 rfl 47 rfl ?_
  refine z_bipush hX (v := (nI 20)) dX7_clean_47 (by decide) 49 rfl ?_
  refine z_icmp_ge hX 103 dX7_clean_49 (by decide) 52 rfl (fun c14 => ?_) (fun c14 => ?_)
  · replace h := br_pos h c14
    refine z_iload_n hX dX7_clean_103 3 rfl 104 rfl ?_
    refine z_if_ne hX 115 dX7_clean_104 (by decide) 107 rfl (fun c15 => ?_) (fun c15 => ?_)
    · replace h := br_pos h c15
      refine z_iload hX dX7_clean_115 5 rfl 117 rfl ?_
      replace h := Option.some.inj h
      subst h
      exact z_iret hX dX7_clean_117 rfl hk
    · replace h := br_neg h c15
      refine z_iload hX dX7_clean_107 6 rfl 109 rfl ?_
      replace h := cl_elim h
      obtain ⟨x17, s16, hx17, h⟩ := h
      refine z_cSi hX (As := [.int v6]) (c_X7_nameOf hx17) lk_X7_200 ds_X7_nameOf rfl (by decide) (by decide) (by decide) dX7_clean_109 rfl 112 rfl ?_
      refine z_goto hX 117 dX7_clean_112 (by decide) ?_
      replace h := Option.some.inj h
      subst h
      exact z_iret hX dX7_clean_117 rfl hk
  · replace h := br_neg h c14
    refine z_aload_n hX dX7_clean_52 0 rfl 53 rfl ?_
    refine z_iload_n hX dX7_clean_53 1 rfl 54 rfl ?_
    refine z_iconst hX (v := (nI 0)) dX7_clean_54 rfl 55 rfl ?_
    refine z_iload hX dX7_clean_55 7 rfl 57 rfl ?_
    refine z_iload_n hX dX7_clean_57 2 rfl 58 rfl ?_
    replace h := cl_elim h
    obtain ⟨x19, s18, hx19, h⟩ := h
    refine z_cV7i hX (b := 189) (As := [.int v1, .int ((nI 0)), .int v7, .int v2]) (c_X7_hasIn hx19) lk_X7_244 rfl kdc_189 ds_X7_hasIn rfl (by decide) (by decide) (by decide) dX7_clean_58 rfl 61 rfl ?_
    refine z_pop hX dX7_clean_61 rfl 62 rfl ?_
    refine z_aload_n hX dX7_clean_62 0 rfl 63 rfl ?_
    refine z_iload_n hX dX7_clean_63 1 rfl 64 rfl ?_
    replace h := cl_elim h
    obtain ⟨x21, s20, hx21, h⟩ := h
    refine z_cV7i hX (b := 189) (As := [.int v1]) (c_X7_hadBy hx21) lk_X7_212 rfl kdc_189 ds_X7_hadBy rfl (by decide) (by decide) (by decide) dX7_clean_64 rfl 67 rfl ?_
    refine z_iload hX dX7_clean_67 4 rfl 69 rfl ?_
    refine z_isub hX dX7_clean_69 70 rfl ?_
    replace h := bd_elim h
    obtain ⟨x22, ex22, h⟩ := h
    refine z_nm ex22 ?_
    refine z_istore hX (lv2 := [(8, .int x22), (0, .ref (gL Γ (189))), (1, .int v1), (2, .int v2), (3, .int v3), (4, .int v4), (5, .int v5), (6, .int v6), (7, .int v7)]) dX7_clean_70 (by decide) rfl 72 rfl ?_
    refine z_iload hX dX7_clean_72 0 rfl 74 rfl ?_
    refine z_iload hX dX7_clean_74 6 rfl 76 rfl ?_
    refine z_icmp_ge hX 84 dX7_clean_76 (by decide) 79 rfl (fun c23 => ?_) (fun c23 => ?_)
    · replace h := br_pos h c23
      refine z_iload hX dX7_clean_84 7 rfl 86 rfl ?_
      exact z_sub [1, 2, 3, 4, 5, 6, 8, 0] rfl (e_X7_clean_J86 hX h hk)
    · replace h := br_neg h c23
      refine z_iload hX dX7_clean_79 8 rfl 81 rfl ?_
      refine z_goto hX 86 dX7_clean_81 (by decide) ?_
      exact z_sub [1, 2, 3, 4, 5, 6, 8, 0] rfl (e_X7_clean_J86 hX h hk)
set_option maxHeartbeats 4000000 in
set_option maxRecDepth 100000 in
theorem e_X7_clean {X : Cx} {Γ : Gm} {r0 : Rb} (hX : Amb X Γ cX7_clean RX7 9 (some .int) 6) {a1 : Int32} {a2 : Int32} {a3 : Int32} {s : St} {t : Int32 × St} (h : f_X7_clean a1 a2 a3 s = some t) (hk : (fun t : Int32 × St => Rt X Γ r0 (some (Value.int t.1), t.2)) t) : Zw X Γ 9 r0 s 0 [(0, .ref (gL Γ (189))), (1, .int a1), (2, .int a2), (3, .int a3)] [] := by
  unfold f_X7_clean at h
  refine z_aload_n hX dX7_clean_0 0 rfl 1 rfl ?_
  refine z_iload_n hX dX7_clean_1 1 rfl 2 rfl ?_
  replace h := cl_elim h
  obtain ⟨x2, s1, hx2, h⟩ := h
  refine z_cV7i hX (b := 189) (As := [.int a1]) (c_X7_isSitter hx2) lk_X7_209 rfl kdc_189 ds_X7_isSitter rfl (by decide) (by decide) (by decide) dX7_clean_2 rfl 5 rfl ?_
  refine z_if_eq hX 22 dX7_clean_5 (by decide) 8 rfl (fun c3 => ?_) (fun c3 => ?_)
  · replace h := br_pos h c3
    refine z_iconst hX (v := (-1)) dX7_clean_22 rfl 23 rfl ?_
    replace h := Option.some.inj h
    subst h
    exact z_iret hX dX7_clean_23 rfl hk
  · replace h := br_neg h c3
    refine z_iload_n hX dX7_clean_8 2 rfl 9 rfl ?_
    replace h := cl_elim h
    obtain ⟨x5, s4, hx5, h⟩ := h
    refine z_cSi hX (As := [.int a2]) (c_X7_isFar hx5) lk_X7_238 ds_X7_isFar rfl (by decide) (by decide) (by decide) dX7_clean_9 rfl 12 rfl ?_
    refine z_if_eq hX 22 dX7_clean_12 (by decide) 15 rfl (fun c6 => ?_) (fun c6 => ?_)
    · replace h := br_pos h c6
      refine z_iconst hX (v := (-1)) dX7_clean_22 rfl 23 rfl ?_
      replace h := Option.some.inj h
      subst h
      exact z_iret hX dX7_clean_23 rfl hk
    · replace h := br_neg h c6
      refine z_iload_n hX dX7_clean_15 3 rfl 16 rfl ?_
      replace h := cl_elim h
      obtain ⟨x8, s7, hx8, h⟩ := h
      refine z_cSi hX (As := [.int a3]) (c_X7_isPart hx8) lk_X7_251 ds_X7_isPart rfl (by decide) (by decide) (by decide) dX7_clean_16 rfl 19 rfl ?_
      refine z_if_ne hX 24 dX7_clean_19 (by decide) 22 rfl (fun c9 => ?_) (fun c9 => ?_)
      · replace h := br_pos h c9
        refine z_aload_n hX dX7_clean_24 0 rfl 25 rfl ?_
        replace h := cl_elim h
        obtain ⟨x11, s10, hx11, h⟩ := h
        refine z_cV7v hX (b := 189) (As := []) (c_X7_starts hx11) lk_X7_188 rfl kdc_189 ds_X7_starts rfl (by decide) (by decide) (by decide) dX7_clean_25 rfl 28 rfl ?_
        refine z_aload_n hX dX7_clean_28 0 rfl 29 rfl ?_
        refine z_iload_n hX dX7_clean_29 1 rfl 30 rfl ?_
        replace h := cl_elim h
        obtain ⟨x13, s12, hx13, h⟩ := h
        refine z_cV7i hX (b := 189) (As := [.int a1]) (c_X7_hadBy hx13) lk_X7_212 rfl kdc_189 ds_X7_hadBy rfl (by decide) (by decide) (by decide) dX7_clean_30 rfl 33 rfl ?_
        refine z_istore hX (lv2 := [(4, .int x13), (0, .ref (gL Γ (189))), (1, .int a1), (2, .int a2), (3, .int a3)]) dX7_clean_33 (by decide) rfl 35 rfl ?_
        refine z_ldc hX (v := (nI 1000000)) dX7_clean_35 ml_X7_250 37 rfl ?_
        refine z_istore hX (lv2 := [(5, .int ((nI 1000000))), (4, .int x13), (0, .ref (gL Γ (189))), (1, .int a1), (2, .int a2), (3, .int a3)]) dX7_clean_37 (by decide) rfl 39 rfl ?_
        refine z_iconst hX (v := (nI 0)) dX7_clean_39 rfl 40 rfl ?_
        refine z_istore hX (lv2 := [(6, .int ((nI 0))), (5, .int ((nI 1000000))), (4, .int x13), (0, .ref (gL Γ (189))), (1, .int a1), (2, .int a2), (3, .int a3)]) dX7_clean_40 (by decide) rfl 42 rfl ?_
        refine z_iconst hX (v := (nI 0)) dX7_clean_42 rfl 43 rfl ?_
        refine z_istore hX (lv2 := [(7, .int ((nI 0))), (6, .int ((nI 0))), (5, .int ((nI 1000000))), (4, .int x13), (0, .ref (gL Γ (189))), (1, .int a1), (2, .int a2), (3, .int a3)]) dX7_clean_43 (by decide) rfl 45 rfl ?_
        exact z_sub [4, 5, 6, 7, 3, 2, 1, 0] rfl (lp_ok (Z := fun q : Int32 × Int32 × Int32 × St => Zw X Γ 9 r0 q.2.2.2 45 [(0, .ref (gL Γ (189))), (1, .int a1), (2, .int a2), (3, .int a3), (4, .int x13), (5, .int q.1), (6, .int q.2.1), (7, .int q.2.2.1)] []) (fun q t h hk => e_X7_clean_L45 hX h hk) Fu _ _ h hk)
      · replace h := br_neg h c9
        refine z_iconst hX (v := (-1)) dX7_clean_22 rfl 23 rfl ?_
        replace h := Option.some.inj h
        subst h
        exact z_iret hX dX7_clean_23 rfl hk
theorem c_X7_clean {lc : Launch} {Γ : Gm} {a1 : Int32} {a2 : Int32} {a3 : Int32} {s s2 : St} {v : Int32} (h : f_X7_clean a1 a2 a3 s = some (v, s2)) : Ct lc Γ yX7_clean cX7_clean 9 (some .int) 6 [.ref (gL Γ (189)), .int a1, .int a2, .int a3] s (some (.int v), s2) := Ct.of (by decide +kernel) (Nat.le_of_ble_eq_true rfl) (fun X hl hX => e_X7_clean hX h rfl)
theorem dX7_need_0 : decode cX7_need 0 = .ok (.aload_n 0, 1) := by decide +kernel
theorem dX7_need_1 : decode cX7_need 1 = .ok (.iload_n 1, 1) := by decide +kernel
theorem dX7_need_2 : decode cX7_need 2 = .ok (.invokevirtual 209, 3) := by decide +kernel
theorem dX7_need_5 : decode cX7_need 5 = .ok (.ifCond .eq 23, 3) := by decide +kernel
theorem dX7_need_8 : decode cX7_need 8 = .ok (.aload_n 0, 1) := by decide +kernel
theorem dX7_need_9 : decode cX7_need 9 = .ok (.iload_n 2, 1) := by decide +kernel
theorem dX7_need_10 : decode cX7_need 10 = .ok (.invokevirtual 203, 3) := by decide +kernel
theorem dX7_need_13 : decode cX7_need 13 = .ok (.ifCond .eq 15, 3) := by decide +kernel
theorem dX7_need_16 : decode cX7_need 16 = .ok (.iload_n 3, 1) := by decide +kernel
theorem dX7_need_17 : decode cX7_need 17 = .ok (.i2l, 1) := by decide +kernel
theorem dX7_need_18 : decode cX7_need 18 = .ok (.lconst 1, 1) := by decide +kernel
theorem dX7_need_19 : decode cX7_need 19 = .ok (.ldc2_w 248, 3) := by decide +kernel
theorem dX7_need_22 : decode cX7_need 22 = .ok (.invokestatic 52, 3) := by decide +kernel
theorem dX7_need_25 : decode cX7_need 25 = .ok (.ifCond .ne 5, 3) := by decide +kernel
theorem dX7_need_28 : decode cX7_need 28 = .ok (.iconst (-1), 1) := by decide +kernel
theorem dX7_need_29 : decode cX7_need 29 = .ok (.ireturn, 1) := by decide +kernel
theorem dX7_need_30 : decode cX7_need 30 = .ok (.iconst 0, 1) := by decide +kernel
theorem dX7_need_31 : decode cX7_need 31 = .ok (.istore 4, 2) := by decide +kernel
theorem dX7_need_33 : decode cX7_need 33 = .ok (.iload 4, 2) := by decide +kernel
theorem dX7_need_35 : decode cX7_need 35 = .ok (.bipush 9, 2) := by decide +kernel
theorem dX7_need_37 : decode cX7_need 37 = .ok (.if_icmp .gt 54, 3) := by decide +kernel
theorem dX7_need_40 : decode cX7_need 40 = .ok (.aload_n 0, 1) := by decide +kernel
theorem dX7_need_41 : decode cX7_need 41 = .ok (.invokevirtual 188, 3) := by decide +kernel
theorem dX7_need_44 : decode cX7_need 44 = .ok (.aload_n 0, 1) := by decide +kernel
theorem dX7_need_45 : decode cX7_need 45 = .ok (.getfield 13, 3) := by decide +kernel
theorem dX7_need_48 : decode cX7_need 48 = .ok (.bipush 12, 2) := by decide +kernel
theorem dX7_need_50 : decode cX7_need 50 = .ok (.iconst 2, 1) := by decide +kernel
theorem dX7_need_51 : decode cX7_need 51 = .ok (.iload_n 1, 1) := by decide +kernel
theorem dX7_need_52 : decode cX7_need 52 = .ok (.imul, 1) := by decide +kernel
theorem dX7_need_53 : decode cX7_need 53 = .ok (.iadd, 1) := by decide +kernel
theorem dX7_need_54 : decode cX7_need 54 = .ok (.iconst 1, 1) := by decide +kernel
theorem dX7_need_55 : decode cX7_need 55 = .ok (.iadd, 1) := by decide +kernel
theorem dX7_need_56 : decode cX7_need 56 = .ok (.iload 4, 2) := by decide +kernel
theorem dX7_need_58 : decode cX7_need 58 = .ok (.iastore, 1) := by decide +kernel
theorem dX7_need_59 : decode cX7_need 59 = .ok (.aload_n 0, 1) := by decide +kernel
theorem dX7_need_60 : decode cX7_need 60 = .ok (.bipush 30, 2) := by decide +kernel
theorem dX7_need_62 : decode cX7_need 62 = .ok (.invokevirtual 230, 3) := by decide +kernel
theorem dX7_need_65 : decode cX7_need 65 = .ok (.aload_n 0, 1) := by decide +kernel
theorem dX7_need_66 : decode cX7_need 66 = .ok (.getfield 13, 3) := by decide +kernel
theorem dX7_need_69 : decode cX7_need 69 = .ok (.bipush 20, 2) := by decide +kernel
theorem dX7_need_71 : decode cX7_need 71 = .ok (.iconst 3, 1) := by decide +kernel
theorem dX7_need_72 : decode cX7_need 72 = .ok (.iload_n 1, 1) := by decide +kernel
theorem dX7_need_73 : decode cX7_need 73 = .ok (.imul, 1) := by decide +kernel
theorem dX7_need_74 : decode cX7_need 74 = .ok (.iadd, 1) := by decide +kernel
theorem dX7_need_75 : decode cX7_need 75 = .ok (.iload_n 2, 1) := by decide +kernel
theorem dX7_need_76 : decode cX7_need 76 = .ok (.iadd, 1) := by decide +kernel
theorem dX7_need_77 : decode cX7_need 77 = .ok (.iaload, 1) := by decide +kernel
theorem dX7_need_78 : decode cX7_need 78 = .ok (.iload_n 3, 1) := by decide +kernel
theorem dX7_need_79 : decode cX7_need 79 = .ok (.if_icmp .lt 6, 3) := by decide +kernel
theorem dX7_need_82 : decode cX7_need 82 = .ok (.iload 4, 2) := by decide +kernel
theorem dX7_need_84 : decode cX7_need 84 = .ok (.ireturn, 1) := by decide +kernel
theorem dX7_need_85 : decode cX7_need 85 = .ok (.iinc 4 1, 3) := by decide +kernel
theorem dX7_need_88 : decode cX7_need 88 = .ok (.goto (-55), 3) := by decide +kernel
theorem dX7_need_91 : decode cX7_need 91 = .ok (.bipush (-4), 2) := by decide +kernel
theorem dX7_need_93 : decode cX7_need 93 = .ok (.ireturn, 1) := by decide +kernel
def f_X7_need_L33 (v1 : Int32) (v2 : Int32) (v3 : Int32) (v4 : Int32) (s : St) : Option ((Int32 × St) ⊕ (Int32 × St)) := if (nI 9) < v4 then (some (Sum.inr (((-4), s)))) else (cl (f_X7_starts s) (fun x12 s11 => if inb (((nI 12) + ((nI 2) * v1)) + (nI 1)) (lnI 191) = true then bd (wI s11 191 ((((nI 12) + ((nI 2) * v1)) + (nI 1))).toNatClampNeg v4) (fun s14 => cl (f_X7_stepsGo (nI 30) s14) (fun x16 s15 => if inb (((nI 20) + ((nI 3) * v1)) + v2) (lnI 191) = true then if (s15.1 191 ((((nI 20) + ((nI 3) * v1)) + v2)).toNatClampNeg) < v3 then (some (Sum.inl ((v4 + (nI 1)), s15))) else (some (Sum.inr ((v4, s15)))) else none)) else none))
def f_X7_need (a1 : Int32) (a2 : Int32) (a3 : Int32) (s : St) : Option (Int32 × St) := cl (f_X7_isSitter a1 s) (fun x2 s1 => if x2 = 0 then (some (((-1), s1))) else (cl (f_X7_isLife a2 s1) (fun x5 s4 => if x5 = 0 then (some (((-1), s4))) else (cl (f_X7_within ((a3).toInt64) (lN 1) (lN 999) s4) (fun x8 s7 => if ¬ x8 = 0 then (lp (fun q : Int32 × St => f_X7_need_L33 a1 a2 a3 q.1 q.2) Fu ((nI 0), s7)) else (some (((-1), s7))))))))
set_option maxHeartbeats 4000000 in
set_option maxRecDepth 100000 in
theorem e_X7_need_L33 {X : Cx} {Γ : Gm} {r0 : Rb} (hX : Amb X Γ cX7_need RX7 5 (some .int) 5) {v1 : Int32} {v2 : Int32} {v3 : Int32} {v4 : Int32} {s : St} {t : (Int32 × St) ⊕ (Int32 × St)} (h : f_X7_need_L33 v1 v2 v3 v4 s = some t) (hk : (Sum.elim (fun q : Int32 × St => Zw X Γ 5 r0 q.2 33 [(0, .ref (gL Γ (189))), (1, .int v1), (2, .int v2), (3, .int v3), (4, .int q.1)] []) (fun t : Int32 × St => Rt X Γ r0 (some (Value.int t.1), t.2))) t) : Zw X Γ 5 r0 s 33 [(0, .ref (gL Γ (189))), (1, .int v1), (2, .int v2), (3, .int v3), (4, .int v4)] [] := by
  unfold f_X7_need_L33 at h
  refine z_iload hX dX7_need_33 4 rfl 35 rfl ?_
  refine z_bipush hX (v := (nI 9)) dX7_need_35 (by decide) 37 rfl ?_
  refine z_icmp_gt hX 91 dX7_need_37 (by decide) 40 rfl (fun c10 => ?_) (fun c10 => ?_)
  · replace h := br_pos h c10
    refine z_bipush hX (v := (-4)) dX7_need_91 (by decide) 93 rfl ?_
    replace h := Option.some.inj h
    subst h
    exact z_iret hX dX7_need_93 rfl hk
  · replace h := br_neg h c10
    refine z_aload_n hX dX7_need_40 0 rfl 41 rfl ?_
    replace h := cl_elim h
    obtain ⟨x12, s11, hx12, h⟩ := h
    refine z_cV7v hX (b := 189) (As := []) (c_X7_starts hx12) lk_X7_188 rfl kdc_189 ds_X7_starts rfl (by decide) (by decide) (by decide) dX7_need_41 rfl 44 rfl ?_
    refine z_aload_n hX dX7_need_44 0 rfl 45 rfl ?_
    refine z_get7 hX (k := 189) (j := 1) (v := .ref (gL Γ (191))) kdc_189 (by decide) rfl dX7_need_45 fl_X7_13 48 rfl ?_
    refine z_bipush hX (v := (nI 12)) dX7_need_48 (by decide) 50 rfl ?_
    refine z_iconst hX (v := (nI 2)) dX7_need_50 rfl 51 rfl ?_
    refine z_iload_n hX dX7_need_51 1 rfl 52 rfl ?_
    refine z_imul hX dX7_need_52 53 rfl ?_
    refine z_iadd hX dX7_need_53 54 rfl ?_
    refine z_iconst hX (v := (nI 1)) dX7_need_54 rfl 55 rfl ?_
    refine z_iadd hX dX7_need_55 56 rfl ?_
    refine z_iload hX dX7_need_56 4 rfl 58 rfl ?_
    replace h := gd_elim h
    obtain ⟨g13, h⟩ := h
    replace h := bd_elim h
    obtain ⟨s14, es14, h⟩ := h
    refine z_iast hX (inb_vp g13) dX7_need_58 es14 59 rfl ?_
    refine z_aload_n hX dX7_need_59 0 rfl 60 rfl ?_
    refine z_bipush hX (v := (nI 30)) dX7_need_60 (by decide) 62 rfl ?_
    replace h := cl_elim h
    obtain ⟨x16, s15, hx16, h⟩ := h
    refine z_cV7v hX (b := 189) (As := [.int ((nI 30))]) (c_X7_stepsGo hx16) lk_X7_230 rfl kdc_189 ds_X7_stepsGo rfl (by decide) (by decide) (by decide) dX7_need_62 rfl 65 rfl ?_
    refine z_aload_n hX dX7_need_65 0 rfl 66 rfl ?_
    refine z_get7 hX (k := 189) (j := 1) (v := .ref (gL Γ (191))) kdc_189 (by decide) rfl dX7_need_66 fl_X7_13 69 rfl ?_
    refine z_bipush hX (v := (nI 20)) dX7_need_69 (by decide) 71 rfl ?_
    refine z_iconst hX (v := (nI 3)) dX7_need_71 rfl 72 rfl ?_
    refine z_iload_n hX dX7_need_72 1 rfl 73 rfl ?_
    refine z_imul hX dX7_need_73 74 rfl ?_
    refine z_iadd hX dX7_need_74 75 rfl ?_
    refine z_iload_n hX dX7_need_75 2 rfl 76 rfl ?_
    refine z_iadd hX dX7_need_76 77 rfl ?_
    replace h := gd_elim h
    obtain ⟨g17, h⟩ := h
    refine z_iald hX (inb_vp g17) dX7_need_77 78 rfl ?_
    refine z_iload_n hX dX7_need_78 3 rfl 79 rfl ?_
    refine z_icmp_lt hX 85 dX7_need_79 (by decide) 82 rfl (fun c18 => ?_) (fun c18 => ?_)
    · replace h := br_pos h c18
      refine z_iinc hX (v := (v4 + (nI 1))) (lv2 := [(4, .int ((v4 + (nI 1)))), (0, .ref (gL Γ (189))), (1, .int v1), (2, .int v2), (3, .int v3)]) dX7_need_85 4 rfl rfl (by decide) rfl 88 rfl ?_
      refine z_goto hX 33 dX7_need_88 (by decide) ?_
      replace h := Option.some.inj h
      subst h
      exact z_sub [1, 2, 3, 4, 0] rfl hk
    · replace h := br_neg h c18
      refine z_iload hX dX7_need_82 4 rfl 84 rfl ?_
      replace h := Option.some.inj h
      subst h
      exact z_iret hX dX7_need_84 rfl hk
set_option maxHeartbeats 4000000 in
set_option maxRecDepth 100000 in
theorem e_X7_need {X : Cx} {Γ : Gm} {r0 : Rb} (hX : Amb X Γ cX7_need RX7 5 (some .int) 5) {a1 : Int32} {a2 : Int32} {a3 : Int32} {s : St} {t : Int32 × St} (h : f_X7_need a1 a2 a3 s = some t) (hk : (fun t : Int32 × St => Rt X Γ r0 (some (Value.int t.1), t.2)) t) : Zw X Γ 5 r0 s 0 [(0, .ref (gL Γ (189))), (1, .int a1), (2, .int a2), (3, .int a3)] [] := by
  unfold f_X7_need at h
  refine z_aload_n hX dX7_need_0 0 rfl 1 rfl ?_
  refine z_iload_n hX dX7_need_1 1 rfl 2 rfl ?_
  replace h := cl_elim h
  obtain ⟨x2, s1, hx2, h⟩ := h
  refine z_cV7i hX (b := 189) (As := [.int a1]) (c_X7_isSitter hx2) lk_X7_209 rfl kdc_189 ds_X7_isSitter rfl (by decide) (by decide) (by decide) dX7_need_2 rfl 5 rfl ?_
  refine z_if_eq hX 28 dX7_need_5 (by decide) 8 rfl (fun c3 => ?_) (fun c3 => ?_)
  · replace h := br_pos h c3
    refine z_iconst hX (v := (-1)) dX7_need_28 rfl 29 rfl ?_
    replace h := Option.some.inj h
    subst h
    exact z_iret hX dX7_need_29 rfl hk
  · replace h := br_neg h c3
    refine z_aload_n hX dX7_need_8 0 rfl 9 rfl ?_
    refine z_iload_n hX dX7_need_9 2 rfl 10 rfl ?_
    replace h := cl_elim h
    obtain ⟨x5, s4, hx5, h⟩ := h
    refine z_cV7i hX (b := 189) (As := [.int a2]) (c_X7_isLife hx5) lk_X7_203 rfl kdc_189 ds_X7_isLife rfl (by decide) (by decide) (by decide) dX7_need_10 rfl 13 rfl ?_
    refine z_if_eq hX 28 dX7_need_13 (by decide) 16 rfl (fun c6 => ?_) (fun c6 => ?_)
    · replace h := br_pos h c6
      refine z_iconst hX (v := (-1)) dX7_need_28 rfl 29 rfl ?_
      replace h := Option.some.inj h
      subst h
      exact z_iret hX dX7_need_29 rfl hk
    · replace h := br_neg h c6
      refine z_iload_n hX dX7_need_16 3 rfl 17 rfl ?_
      refine z_i2l hX dX7_need_17 18 rfl ?_
      refine z_lconst hX (v := (lN 1)) dX7_need_18 rfl 19 rfl ?_
      refine z_ldc2 hX (v := (lN 999)) dX7_need_19 ml_X7_248 22 rfl ?_
      replace h := cl_elim h
      obtain ⟨x8, s7, hx8, h⟩ := h
      refine z_cSi hX (As := [.long ((a3).toInt64), .long ((lN 1)), .long ((lN 999))]) (c_X7_within hx8) lk_X7_52 ds_X7_within rfl (by decide) (by decide) (by decide) dX7_need_22 rfl 25 rfl ?_
      refine z_if_ne hX 30 dX7_need_25 (by decide) 28 rfl (fun c9 => ?_) (fun c9 => ?_)
      · replace h := br_pos h c9
        refine z_iconst hX (v := (nI 0)) dX7_need_30 rfl 31 rfl ?_
        refine z_istore hX (lv2 := [(4, .int ((nI 0))), (0, .ref (gL Γ (189))), (1, .int a1), (2, .int a2), (3, .int a3)]) dX7_need_31 (by decide) rfl 33 rfl ?_
        exact z_sub [1, 2, 3, 4, 0] rfl (lp_ok (Z := fun q : Int32 × St => Zw X Γ 5 r0 q.2 33 [(0, .ref (gL Γ (189))), (1, .int a1), (2, .int a2), (3, .int a3), (4, .int q.1)] []) (fun q t h hk => e_X7_need_L33 hX h hk) Fu _ _ h hk)
      · replace h := br_neg h c9
        refine z_iconst hX (v := (-1)) dX7_need_28 rfl 29 rfl ?_
        replace h := Option.some.inj h
        subst h
        exact z_iret hX dX7_need_29 rfl hk
theorem c_X7_need {lc : Launch} {Γ : Gm} {a1 : Int32} {a2 : Int32} {a3 : Int32} {s s2 : St} {v : Int32} (h : f_X7_need a1 a2 a3 s = some (v, s2)) : Ct lc Γ yX7_need cX7_need 5 (some .int) 5 [.ref (gL Γ (189)), .int a1, .int a2, .int a3] s (some (.int v), s2) := Ct.of (by decide +kernel) (Nat.le_of_ble_eq_true rfl) (fun X hl hX => e_X7_need hX h rfl)
theorem dX7_swap_0 : decode cX7_swap 0 = .ok (.iload_n 1, 1) := by decide +kernel
theorem dX7_swap_1 : decode cX7_swap 1 = .ok (.invokestatic 238, 3) := by decide +kernel
theorem dX7_swap_4 : decode cX7_swap 4 = .ok (.ifCond .eq 10, 3) := by decide +kernel
theorem dX7_swap_7 : decode cX7_swap 7 = .ok (.iload_n 2, 1) := by decide +kernel
theorem dX7_swap_8 : decode cX7_swap 8 = .ok (.invokestatic 251, 3) := by decide +kernel
theorem dX7_swap_11 : decode cX7_swap 11 = .ok (.ifCond .ne 5, 3) := by decide +kernel
theorem dX7_swap_14 : decode cX7_swap 14 = .ok (.iconst (-1), 1) := by decide +kernel
theorem dX7_swap_15 : decode cX7_swap 15 = .ok (.ireturn, 1) := by decide +kernel
theorem dX7_swap_16 : decode cX7_swap 16 = .ok (.aload_n 0, 1) := by decide +kernel
theorem dX7_swap_17 : decode cX7_swap 17 = .ok (.invokevirtual 188, 3) := by decide +kernel
theorem dX7_swap_20 : decode cX7_swap 20 = .ok (.aload_n 0, 1) := by decide +kernel
theorem dX7_swap_21 : decode cX7_swap 21 = .ok (.iload_n 1, 1) := by decide +kernel
theorem dX7_swap_22 : decode cX7_swap 22 = .ok (.invokevirtual 230, 3) := by decide +kernel
theorem dX7_swap_25 : decode cX7_swap 25 = .ok (.aload_n 0, 1) := by decide +kernel
theorem dX7_swap_26 : decode cX7_swap 26 = .ok (.invokevirtual 197, 3) := by decide +kernel
theorem dX7_swap_29 : decode cX7_swap 29 = .ok (.istore_n 3, 1) := by decide +kernel
theorem dX7_swap_30 : decode cX7_swap 30 = .ok (.bipush (-4), 2) := by decide +kernel
theorem dX7_swap_32 : decode cX7_swap 32 = .ok (.istore 4, 2) := by decide +kernel
theorem dX7_swap_34 : decode cX7_swap 34 = .ok (.iconst 0, 1) := by decide +kernel
theorem dX7_swap_35 : decode cX7_swap 35 = .ok (.istore 5, 2) := by decide +kernel
theorem dX7_swap_37 : decode cX7_swap 37 = .ok (.iload 5, 2) := by decide +kernel
theorem dX7_swap_39 : decode cX7_swap 39 = .ok (.aload_n 0, 1) := by decide +kernel
theorem dX7_swap_40 : decode cX7_swap 40 = .ok (.getfield 72, 3) := by decide +kernel
theorem dX7_swap_43 : decode cX7_swap 43 = .ok (.if_icmp .ge 127, 3) := by decide +kernel
theorem dX7_swap_46 : decode cX7_swap 46 = .ok (.iload 5, 2) := by decide +kernel
theorem dX7_swap_48 : decode cX7_swap 48 = .ok (.iconst 1, 1) := by decide +kernel
theorem dX7_swap_49 : decode cX7_swap 49 = .ok (.iadd, 1) := by decide +kernel
theorem dX7_swap_50 : decode cX7_swap 50 = .ok (.istore 6, 2) := by decide +kernel
theorem dX7_swap_52 : decode cX7_swap 52 = .ok (.iload 6, 2) := by decide +kernel
theorem dX7_swap_54 : decode cX7_swap 54 = .ok (.aload_n 0, 1) := by decide +kernel
theorem dX7_swap_55 : decode cX7_swap 55 = .ok (.getfield 72, 3) := by decide +kernel
theorem dX7_swap_58 : decode cX7_swap 58 = .ok (.if_icmp .ge 106, 3) := by decide +kernel
theorem dX7_swap_61 : decode cX7_swap 61 = .ok (.aload_n 0, 1) := by decide +kernel
theorem dX7_swap_62 : decode cX7_swap 62 = .ok (.invokevirtual 188, 3) := by decide +kernel
theorem dX7_swap_65 : decode cX7_swap 65 = .ok (.aload_n 0, 1) := by decide +kernel
theorem dX7_swap_66 : decode cX7_swap 66 = .ok (.getfield 13, 3) := by decide +kernel
theorem dX7_swap_69 : decode cX7_swap 69 = .ok (.bipush 12, 2) := by decide +kernel
theorem dX7_swap_71 : decode cX7_swap 71 = .ok (.iconst 2, 1) := by decide +kernel
theorem dX7_swap_72 : decode cX7_swap 72 = .ok (.iload 5, 2) := by decide +kernel
theorem dX7_swap_74 : decode cX7_swap 74 = .ok (.imul, 1) := by decide +kernel
theorem dX7_swap_75 : decode cX7_swap 75 = .ok (.iadd, 1) := by decide +kernel
theorem dX7_swap_76 : decode cX7_swap 76 = .ok (.aload_n 0, 1) := by decide +kernel
theorem dX7_swap_77 : decode cX7_swap 77 = .ok (.getfield 7, 3) := by decide +kernel
theorem dX7_swap_80 : decode cX7_swap 80 = .ok (.bipush 12, 2) := by decide +kernel
theorem dX7_swap_82 : decode cX7_swap 82 = .ok (.iconst 2, 1) := by decide +kernel
theorem dX7_swap_83 : decode cX7_swap 83 = .ok (.iload 6, 2) := by decide +kernel
theorem dX7_swap_85 : decode cX7_swap 85 = .ok (.imul, 1) := by decide +kernel
theorem dX7_swap_86 : decode cX7_swap 86 = .ok (.iadd, 1) := by decide +kernel
theorem dX7_swap_87 : decode cX7_swap 87 = .ok (.iaload, 1) := by decide +kernel
theorem dX7_swap_88 : decode cX7_swap 88 = .ok (.iastore, 1) := by decide +kernel
theorem dX7_swap_89 : decode cX7_swap 89 = .ok (.aload_n 0, 1) := by decide +kernel
theorem dX7_swap_90 : decode cX7_swap 90 = .ok (.getfield 13, 3) := by decide +kernel
theorem dX7_swap_93 : decode cX7_swap 93 = .ok (.bipush 12, 2) := by decide +kernel
theorem dX7_swap_95 : decode cX7_swap 95 = .ok (.iconst 2, 1) := by decide +kernel
theorem dX7_swap_96 : decode cX7_swap 96 = .ok (.iload 6, 2) := by decide +kernel
theorem dX7_swap_98 : decode cX7_swap 98 = .ok (.imul, 1) := by decide +kernel
theorem dX7_swap_99 : decode cX7_swap 99 = .ok (.iadd, 1) := by decide +kernel
theorem dX7_swap_100 : decode cX7_swap 100 = .ok (.aload_n 0, 1) := by decide +kernel
theorem dX7_swap_101 : decode cX7_swap 101 = .ok (.getfield 7, 3) := by decide +kernel
theorem dX7_swap_104 : decode cX7_swap 104 = .ok (.bipush 12, 2) := by decide +kernel
theorem dX7_swap_106 : decode cX7_swap 106 = .ok (.iconst 2, 1) := by decide +kernel
theorem dX7_swap_107 : decode cX7_swap 107 = .ok (.iload 5, 2) := by decide +kernel
theorem dX7_swap_109 : decode cX7_swap 109 = .ok (.imul, 1) := by decide +kernel
theorem dX7_swap_110 : decode cX7_swap 110 = .ok (.iadd, 1) := by decide +kernel
theorem dX7_swap_111 : decode cX7_swap 111 = .ok (.iaload, 1) := by decide +kernel
theorem dX7_swap_112 : decode cX7_swap 112 = .ok (.iastore, 1) := by decide +kernel
theorem dX7_swap_113 : decode cX7_swap 113 = .ok (.aload_n 0, 1) := by decide +kernel
theorem dX7_swap_114 : decode cX7_swap 114 = .ok (.iload_n 1, 1) := by decide +kernel
theorem dX7_swap_115 : decode cX7_swap 115 = .ok (.invokevirtual 230, 3) := by decide +kernel
theorem dX7_swap_118 : decode cX7_swap 118 = .ok (.aload_n 0, 1) := by decide +kernel
theorem dX7_swap_119 : decode cX7_swap 119 = .ok (.invokevirtual 197, 3) := by decide +kernel
theorem dX7_swap_122 : decode cX7_swap 122 = .ok (.istore 7, 2) := by decide +kernel
theorem dX7_swap_124 : decode cX7_swap 124 = .ok (.iload 7, 2) := by decide +kernel
theorem dX7_swap_126 : decode cX7_swap 126 = .ok (.iload_n 3, 1) := by decide +kernel
theorem dX7_swap_127 : decode cX7_swap 127 = .ok (.if_icmp .le 14, 3) := by decide +kernel
theorem dX7_swap_130 : decode cX7_swap 130 = .ok (.bipush 10, 2) := by decide +kernel
theorem dX7_swap_132 : decode cX7_swap 132 = .ok (.iload 5, 2) := by decide +kernel
theorem dX7_swap_134 : decode cX7_swap 134 = .ok (.imul, 1) := by decide +kernel
theorem dX7_swap_135 : decode cX7_swap 135 = .ok (.iload 6, 2) := by decide +kernel
theorem dX7_swap_137 : decode cX7_swap 137 = .ok (.iadd, 1) := by decide +kernel
theorem dX7_swap_138 : decode cX7_swap 138 = .ok (.goto 5, 3) := by decide +kernel
theorem dX7_swap_141 : decode cX7_swap 141 = .ok (.iload 4, 2) := by decide +kernel
theorem dX7_swap_143 : decode cX7_swap 143 = .ok (.istore 4, 2) := by decide +kernel
theorem dX7_swap_145 : decode cX7_swap 145 = .ok (.iload 7, 2) := by decide +kernel
theorem dX7_swap_147 : decode cX7_swap 147 = .ok (.iload_n 3, 1) := by decide +kernel
theorem dX7_swap_148 : decode cX7_swap 148 = .ok (.if_icmp .le 8, 3) := by decide +kernel
theorem dX7_swap_151 : decode cX7_swap 151 = .ok (.iload 7, 2) := by decide +kernel
theorem dX7_swap_153 : decode cX7_swap 153 = .ok (.goto 4, 3) := by decide +kernel
theorem dX7_swap_156 : decode cX7_swap 156 = .ok (.iload_n 3, 1) := by decide +kernel
theorem dX7_swap_157 : decode cX7_swap 157 = .ok (.istore_n 3, 1) := by decide +kernel
theorem dX7_swap_158 : decode cX7_swap 158 = .ok (.iinc 6 1, 3) := by decide +kernel
theorem dX7_swap_161 : decode cX7_swap 161 = .ok (.goto (-109), 3) := by decide +kernel
theorem dX7_swap_164 : decode cX7_swap 164 = .ok (.iinc 5 1, 3) := by decide +kernel
theorem dX7_swap_167 : decode cX7_swap 167 = .ok (.goto (-130), 3) := by decide +kernel
theorem dX7_swap_170 : decode cX7_swap 170 = .ok (.iload 4, 2) := by decide +kernel
theorem dX7_swap_172 : decode cX7_swap 172 = .ok (.bipush (-4), 2) := by decide +kernel
theorem dX7_swap_174 : decode cX7_swap 174 = .ok (.if_icmp .ne 8, 3) := by decide +kernel
theorem dX7_swap_177 : decode cX7_swap 177 = .ok (.bipush (-4), 2) := by decide +kernel
theorem dX7_swap_179 : decode cX7_swap 179 = .ok (.goto 13, 3) := by decide +kernel
theorem dX7_swap_182 : decode cX7_swap 182 = .ok (.iload_n 2, 1) := by decide +kernel
theorem dX7_swap_183 : decode cX7_swap 183 = .ok (.ifCond .ne 8, 3) := by decide +kernel
theorem dX7_swap_186 : decode cX7_swap 186 = .ok (.iload 4, 2) := by decide +kernel
theorem dX7_swap_188 : decode cX7_swap 188 = .ok (.goto 4, 3) := by decide +kernel
theorem dX7_swap_191 : decode cX7_swap 191 = .ok (.iload_n 3, 1) := by decide +kernel
theorem dX7_swap_192 : decode cX7_swap 192 = .ok (.ireturn, 1) := by decide +kernel
def f_X7_swap_J143 (v1 : Int32) (v2 : Int32) (v3 : Int32) (v5 : Int32) (v6 : Int32) (v7 : Int32) (k0 : Int32) (s : St) : Option ((Int32 × Int32 × Int32 × St) ⊕ ((Int32 × Int32 × Int32 × St) ⊕ (Int32 × St))) := if v7 ≤ v3 then (some (Sum.inl (v3, k0, (v6 + (nI 1)), s))) else (some (Sum.inl (v7, k0, (v6 + (nI 1)), s)))
def f_X7_swap_L52 (v1 : Int32) (v2 : Int32) (v5 : Int32) (v3 : Int32) (v4 : Int32) (v6 : Int32) (s : St) : Option ((Int32 × Int32 × Int32 × St) ⊕ ((Int32 × Int32 × Int32 × St) ⊕ (Int32 × St))) := if (s.1 189 4) ≤ v6 then (some (Sum.inr (Sum.inl (v3, v4, (v5 + (nI 1)), s)))) else (cl (f_X7_starts s) (fun x19 s18 => if inb ((nI 12) + ((nI 2) * v6)) (lnI 190) = true then if inb ((nI 12) + ((nI 2) * v5)) (lnI 191) = true then bd (wI s18 191 (((nI 12) + ((nI 2) * v5))).toNatClampNeg (s18.1 190 (((nI 12) + ((nI 2) * v6))).toNatClampNeg)) (fun s22 => if inb ((nI 12) + ((nI 2) * v5)) (lnI 190) = true then if inb ((nI 12) + ((nI 2) * v6)) (lnI 191) = true then bd (wI s22 191 (((nI 12) + ((nI 2) * v6))).toNatClampNeg (s22.1 190 (((nI 12) + ((nI 2) * v5))).toNatClampNeg)) (fun s25 => cl (f_X7_stepsGo v1 s25) (fun x27 s26 => cl (f_X7_allHad s26) (fun x29 s28 => if x29 ≤ v3 then (f_X7_swap_J143 v1 v2 v3 v5 v6 x29 v4 s28) else (f_X7_swap_J143 v1 v2 v3 v5 v6 x29 (((nI 10) * v5) + v6) s28)))) else none else none) else none else none))
def f_X7_swap_L37 (v1 : Int32) (v2 : Int32) (v3 : Int32) (v4 : Int32) (v5 : Int32) (s : St) : Option ((Int32 × Int32 × Int32 × St) ⊕ (Int32 × St)) := if (s.1 189 4) ≤ v5 then (if ¬ v4 = (-4) then (if ¬ v2 = 0 then (some (Sum.inr ((v3, s)))) else (some (Sum.inr ((v4, s))))) else (some (Sum.inr (((-4), s))))) else (bd (v5 + (nI 1)) (fun x16 => lp (fun q : Int32 × Int32 × Int32 × St => f_X7_swap_L52 v1 v2 v5 q.1 q.2.1 q.2.2.1 q.2.2.2) Fu (v3, v4, x16, s)))
def f_X7_swap (a1 : Int32) (a2 : Int32) (s : St) : Option (Int32 × St) := cl (f_X7_isFar a1 s) (fun x2 s1 => if x2 = 0 then (some (((-1), s1))) else (cl (f_X7_isPart a2 s1) (fun x5 s4 => if ¬ x5 = 0 then (cl (f_X7_starts s4) (fun x8 s7 => cl (f_X7_stepsGo a1 s7) (fun x10 s9 => cl (f_X7_allHad s9) (fun x12 s11 => lp (fun q : Int32 × Int32 × Int32 × St => f_X7_swap_L37 a1 a2 q.1 q.2.1 q.2.2.1 q.2.2.2) Fu (x12, (-4), (nI 0), s11))))) else (some (((-1), s4))))))
set_option maxHeartbeats 4000000 in
set_option maxRecDepth 100000 in
theorem e_X7_swap_J143 {X : Cx} {Γ : Gm} {r0 : Rb} (hX : Amb X Γ cX7_swap RX7 8 (some .int) 5) {v1 : Int32} {v2 : Int32} {v3 : Int32} {v5 : Int32} {v6 : Int32} {v7 : Int32} {k0 : Int32} {s : St} {t : (Int32 × Int32 × Int32 × St) ⊕ ((Int32 × Int32 × Int32 × St) ⊕ (Int32 × St))} (h : f_X7_swap_J143 v1 v2 v3 v5 v6 v7 k0 s = some t) (hk : (Sum.elim (fun q : Int32 × Int32 × Int32 × St => Zw X Γ 8 r0 q.2.2.2 52 [(0, .ref (gL Γ (189))), (1, .int v1), (2, .int v2), (3, .int q.1), (4, .int q.2.1), (5, .int v5), (6, .int q.2.2.1)] []) (Sum.elim (fun q : Int32 × Int32 × Int32 × St => Zw X Γ 8 r0 q.2.2.2 37 [(0, .ref (gL Γ (189))), (1, .int v1), (2, .int v2), (3, .int q.1), (4, .int q.2.1), (5, .int q.2.2.1)] []) (fun t : Int32 × St => Rt X Γ r0 (some (Value.int t.1), t.2)))) t) : Zw X Γ 8 r0 s 143 [(0, .ref (gL Γ (189))), (1, .int v1), (2, .int v2), (3, .int v3), (5, .int v5), (6, .int v6), (7, .int v7)] [.int k0] := by
  unfold f_X7_swap_J143 at h
  refine z_istore hX (lv2 := [(4, .int k0), (0, .ref (gL Γ (189))), (1, .int v1), (2, .int v2), (3, .int v3), (5, .int v5), (6, .int v6), (7, .int v7)]) dX7_swap_143 (by decide) rfl 145 rfl ?_
  refine z_iload hX dX7_swap_145 7 rfl 147 rfl ?_
  refine z_iload_n hX dX7_swap_147 4 rfl 148 rfl ?_
  refine z_icmp_le hX 156 dX7_swap_148 (by decide) 151 rfl (fun c31 => ?_) (fun c31 => ?_)
  · replace h := br_pos h c31
    refine z_iload_n hX dX7_swap_156 4 rfl 157 rfl ?_
    refine z_istore_n hX (lv2 := [(3, .int v3), (4, .int k0), (0, .ref (gL Γ (189))), (1, .int v1), (2, .int v2), (5, .int v5), (6, .int v6), (7, .int v7)]) dX7_swap_157 (by decide) rfl 158 rfl ?_
    refine z_iinc hX (v := (v6 + (nI 1))) (lv2 := [(6, .int ((v6 + (nI 1)))), (3, .int v3), (4, .int k0), (0, .ref (gL Γ (189))), (1, .int v1), (2, .int v2), (5, .int v5), (7, .int v7)]) dX7_swap_158 6 rfl rfl (by decide) rfl 161 rfl ?_
    refine z_goto hX 52 dX7_swap_161 (by decide) ?_
    replace h := Option.some.inj h
    subst h
    exact z_sub [3, 4, 5, 1, 2, 6, 0] rfl hk
  · replace h := br_neg h c31
    refine z_iload hX dX7_swap_151 7 rfl 153 rfl ?_
    refine z_goto hX 157 dX7_swap_153 (by decide) ?_
    refine z_istore_n hX (lv2 := [(3, .int v7), (4, .int k0), (0, .ref (gL Γ (189))), (1, .int v1), (2, .int v2), (5, .int v5), (6, .int v6), (7, .int v7)]) dX7_swap_157 (by decide) rfl 158 rfl ?_
    refine z_iinc hX (v := (v6 + (nI 1))) (lv2 := [(6, .int ((v6 + (nI 1)))), (3, .int v7), (4, .int k0), (0, .ref (gL Γ (189))), (1, .int v1), (2, .int v2), (5, .int v5), (7, .int v7)]) dX7_swap_158 6 rfl rfl (by decide) rfl 161 rfl ?_
    refine z_goto hX 52 dX7_swap_161 (by decide) ?_
    replace h := Option.some.inj h
    subst h
    exact z_sub [3, 4, 5, 1, 2, 6, 0] rfl hk
set_option maxHeartbeats 4000000 in
set_option maxRecDepth 100000 in
theorem e_X7_swap_L52 {X : Cx} {Γ : Gm} {r0 : Rb} (hX : Amb X Γ cX7_swap RX7 8 (some .int) 5) {v1 : Int32} {v2 : Int32} {v5 : Int32} {v3 : Int32} {v4 : Int32} {v6 : Int32} {s : St} {t : (Int32 × Int32 × Int32 × St) ⊕ ((Int32 × Int32 × Int32 × St) ⊕ (Int32 × St))} (h : f_X7_swap_L52 v1 v2 v5 v3 v4 v6 s = some t) (hk : (Sum.elim (fun q : Int32 × Int32 × Int32 × St => Zw X Γ 8 r0 q.2.2.2 52 [(0, .ref (gL Γ (189))), (1, .int v1), (2, .int v2), (3, .int q.1), (4, .int q.2.1), (5, .int v5), (6, .int q.2.2.1)] []) (Sum.elim (fun q : Int32 × Int32 × Int32 × St => Zw X Γ 8 r0 q.2.2.2 37 [(0, .ref (gL Γ (189))), (1, .int v1), (2, .int v2), (3, .int q.1), (4, .int q.2.1), (5, .int q.2.2.1)] []) (fun t : Int32 × St => Rt X Γ r0 (some (Value.int t.1), t.2)))) t) : Zw X Γ 8 r0 s 52 [(0, .ref (gL Γ (189))), (1, .int v1), (2, .int v2), (3, .int v3), (4, .int v4), (5, .int v5), (6, .int v6)] [] := by
  unfold f_X7_swap_L52 at h
  refine z_iload hX dX7_swap_52 6 rfl 54 rfl ?_
  refine z_aload_n hX dX7_swap_54 0 rfl 55 rfl ?_
  refine z_get7 hX (k := 189) (j := 4) (v := .int ((s.1 189 4))) kdc_189 (by decide) rfl dX7_swap_55 fl_X7_72 58 rfl ?_
  refine z_icmp_ge hX 164 dX7_swap_58 (by decide) 61 rfl (fun c17 => ?_) (fun c17 => ?_)
  · replace h := br_pos h c17
    refine z_iinc hX (v := (v5 + (nI 1))) (lv2 := [(5, .int ((v5 + (nI 1)))), (0, .ref (gL Γ (189))), (1, .int v1), (2, .int v2), (3, .int v3), (4, .int v4), (6, .int v6)]) dX7_swap_164 5 rfl rfl (by decide) rfl 167 rfl ?_
    refine z_goto hX 37 dX7_swap_167 (by decide) ?_
    replace h := Option.some.inj h
    subst h
    exact z_sub [1, 2, 3, 4, 5, 0] rfl hk
  · replace h := br_neg h c17
    refine z_aload_n hX dX7_swap_61 0 rfl 62 rfl ?_
    replace h := cl_elim h
    obtain ⟨x19, s18, hx19, h⟩ := h
    refine z_cV7v hX (b := 189) (As := []) (c_X7_starts hx19) lk_X7_188 rfl kdc_189 ds_X7_starts rfl (by decide) (by decide) (by decide) dX7_swap_62 rfl 65 rfl ?_
    refine z_aload_n hX dX7_swap_65 0 rfl 66 rfl ?_
    refine z_get7 hX (k := 189) (j := 1) (v := .ref (gL Γ (191))) kdc_189 (by decide) rfl dX7_swap_66 fl_X7_13 69 rfl ?_
    refine z_bipush hX (v := (nI 12)) dX7_swap_69 (by decide) 71 rfl ?_
    refine z_iconst hX (v := (nI 2)) dX7_swap_71 rfl 72 rfl ?_
    refine z_iload hX dX7_swap_72 5 rfl 74 rfl ?_
    refine z_imul hX dX7_swap_74 75 rfl ?_
    refine z_iadd hX dX7_swap_75 76 rfl ?_
    refine z_aload_n hX dX7_swap_76 0 rfl 77 rfl ?_
    refine z_get7 hX (k := 189) (j := 0) (v := .ref (gL Γ (190))) kdc_189 (by decide) rfl dX7_swap_77 fl_X7_7 80 rfl ?_
    refine z_bipush hX (v := (nI 12)) dX7_swap_80 (by decide) 82 rfl ?_
    refine z_iconst hX (v := (nI 2)) dX7_swap_82 rfl 83 rfl ?_
    refine z_iload hX dX7_swap_83 6 rfl 85 rfl ?_
    refine z_imul hX dX7_swap_85 86 rfl ?_
    refine z_iadd hX dX7_swap_86 87 rfl ?_
    replace h := gd_elim h
    obtain ⟨g20, h⟩ := h
    refine z_iald hX (inb_vp g20) dX7_swap_87 88 rfl ?_
    replace h := gd_elim h
    obtain ⟨g21, h⟩ := h
    replace h := bd_elim h
    obtain ⟨s22, es22, h⟩ := h
    refine z_iast hX (inb_vp g21) dX7_swap_88 es22 89 rfl ?_
    refine z_aload_n hX dX7_swap_89 0 rfl 90 rfl ?_
    refine z_get7 hX (k := 189) (j := 1) (v := .ref (gL Γ (191))) kdc_189 (by decide) rfl dX7_swap_90 fl_X7_13 93 rfl ?_
    refine z_bipush hX (v := (nI 12)) dX7_swap_93 (by decide) 95 rfl ?_
    refine z_iconst hX (v := (nI 2)) dX7_swap_95 rfl 96 rfl ?_
    refine z_iload hX dX7_swap_96 6 rfl 98 rfl ?_
    refine z_imul hX dX7_swap_98 99 rfl ?_
    refine z_iadd hX dX7_swap_99 100 rfl ?_
    refine z_aload_n hX dX7_swap_100 0 rfl 101 rfl ?_
    refine z_get7 hX (k := 189) (j := 0) (v := .ref (gL Γ (190))) kdc_189 (by decide) rfl dX7_swap_101 fl_X7_7 104 rfl ?_
    refine z_bipush hX (v := (nI 12)) dX7_swap_104 (by decide) 106 rfl ?_
    refine z_iconst hX (v := (nI 2)) dX7_swap_106 rfl 107 rfl ?_
    refine z_iload hX dX7_swap_107 5 rfl 109 rfl ?_
    refine z_imul hX dX7_swap_109 110 rfl ?_
    refine z_iadd hX dX7_swap_110 111 rfl ?_
    replace h := gd_elim h
    obtain ⟨g23, h⟩ := h
    refine z_iald hX (inb_vp g23) dX7_swap_111 112 rfl ?_
    replace h := gd_elim h
    obtain ⟨g24, h⟩ := h
    replace h := bd_elim h
    obtain ⟨s25, es25, h⟩ := h
    refine z_iast hX (inb_vp g24) dX7_swap_112 es25 113 rfl ?_
    refine z_aload_n hX dX7_swap_113 0 rfl 114 rfl ?_
    refine z_iload_n hX dX7_swap_114 1 rfl 115 rfl ?_
    replace h := cl_elim h
    obtain ⟨x27, s26, hx27, h⟩ := h
    refine z_cV7v hX (b := 189) (As := [.int v1]) (c_X7_stepsGo hx27) lk_X7_230 rfl kdc_189 ds_X7_stepsGo rfl (by decide) (by decide) (by decide) dX7_swap_115 rfl 118 rfl ?_
    refine z_aload_n hX dX7_swap_118 0 rfl 119 rfl ?_
    replace h := cl_elim h
    obtain ⟨x29, s28, hx29, h⟩ := h
    refine z_cV7i hX (b := 189) (As := []) (c_X7_allHad hx29) lk_X7_197 rfl kdc_189 ds_X7_allHad rfl (by decide) (by decide) (by decide) dX7_swap_119 rfl 122 rfl ?_
    refine z_istore hX (lv2 := [(7, .int x29), (0, .ref (gL Γ (189))), (1, .int v1), (2, .int v2), (3, .int v3), (4, .int v4), (5, .int v5), (6, .int v6)]) dX7_swap_122 (by decide) rfl 124 rfl ?_
    refine z_iload hX dX7_swap_124 0 rfl 126 rfl ?_
    refine z_iload_n hX dX7_swap_126 4 rfl 127 rfl ?_
    refine z_icmp_le hX 141 dX7_swap_127 (by decide) 130 rfl (fun c30 => ?_) (fun c30 => ?_)
    · replace h := br_pos h c30
      refine z_iload hX dX7_swap_141 5 rfl 143 rfl ?_
      exact z_sub [1, 2, 3, 4, 6, 7, 0] rfl (e_X7_swap_J143 hX h hk)
    · replace h := br_neg h c30
      refine z_bipush hX (v := (nI 10)) dX7_swap_130 (by decide) 132 rfl ?_
      refine z_iload hX dX7_swap_132 6 rfl 134 rfl ?_
      refine z_imul hX dX7_swap_134 135 rfl ?_
      refine z_iload hX dX7_swap_135 7 rfl 137 rfl ?_
      refine z_iadd hX dX7_swap_137 138 rfl ?_
      refine z_goto hX 143 dX7_swap_138 (by decide) ?_
      exact z_sub [1, 2, 3, 4, 6, 7, 0] rfl (e_X7_swap_J143 hX h hk)
set_option maxHeartbeats 4000000 in
set_option maxRecDepth 100000 in
theorem e_X7_swap_L37 {X : Cx} {Γ : Gm} {r0 : Rb} (hX : Amb X Γ cX7_swap RX7 8 (some .int) 5) {v1 : Int32} {v2 : Int32} {v3 : Int32} {v4 : Int32} {v5 : Int32} {s : St} {t : (Int32 × Int32 × Int32 × St) ⊕ (Int32 × St)} (h : f_X7_swap_L37 v1 v2 v3 v4 v5 s = some t) (hk : (Sum.elim (fun q : Int32 × Int32 × Int32 × St => Zw X Γ 8 r0 q.2.2.2 37 [(0, .ref (gL Γ (189))), (1, .int v1), (2, .int v2), (3, .int q.1), (4, .int q.2.1), (5, .int q.2.2.1)] []) (fun t : Int32 × St => Rt X Γ r0 (some (Value.int t.1), t.2))) t) : Zw X Γ 8 r0 s 37 [(0, .ref (gL Γ (189))), (1, .int v1), (2, .int v2), (3, .int v3), (4, .int v4), (5, .int v5)] [] := by
  unfold f_X7_swap_L37 at h
  refine z_iload hX dX7_swap_37 5 rfl 39 rfl ?_
  refine z_aload_n hX dX7_swap_39 0 rfl 40 rfl ?_
  refine z_get7 hX (k := 189) (j := 4) (v := .int ((s.1 189 4))) kdc_189 (by decide) rfl dX7_swap_40 fl_X7_72 43 rfl ?_
  refine z_icmp_ge hX 170 dX7_swap_43 (by decide) 46 rfl (fun c13 => ?_) (fun c13 => ?_)
  · replace h := br_pos h c13
    refine z_iload hX dX7_swap_170 4 rfl 172 rfl ?_
    refine z_bipush hX (v := (-4)) dX7_swap_172 (by decide) 174 rfl ?_
    refine z_icmp_ne hX 182 dX7_swap_174 (by decide) 177 rfl (fun c14 => ?_) (fun c14 => ?_)
    · replace h := br_pos h c14
      refine z_iload_n hX dX7_swap_182 2 rfl 183 rfl ?_
      refine z_if_ne hX 191 dX7_swap_183 (by decide) 186 rfl (fun c15 => ?_) (fun c15 => ?_)
      · replace h := br_pos h c15
        refine z_iload_n hX dX7_swap_191 3 rfl 192 rfl ?_
        replace h := Option.some.inj h
        subst h
        exact z_iret hX dX7_swap_192 rfl hk
      · replace h := br_neg h c15
        refine z_iload hX dX7_swap_186 4 rfl 188 rfl ?_
        refine z_goto hX 192 dX7_swap_188 (by decide) ?_
        replace h := Option.some.inj h
        subst h
        exact z_iret hX dX7_swap_192 rfl hk
    · replace h := br_neg h c14
      refine z_bipush hX (v := (-4)) dX7_swap_177 (by decide) 179 rfl ?_
      refine z_goto hX 192 dX7_swap_179 (by decide) ?_
      replace h := Option.some.inj h
      subst h
      exact z_iret hX dX7_swap_192 rfl hk
  · replace h := br_neg h c13
    refine z_iload hX dX7_swap_46 5 rfl 48 rfl ?_
    refine z_iconst hX (v := (nI 1)) dX7_swap_48 rfl 49 rfl ?_
    refine z_iadd hX dX7_swap_49 50 rfl ?_
    replace h := bd_elim h
    obtain ⟨x16, ex16, h⟩ := h
    refine z_nm ex16 ?_
    refine z_istore hX (lv2 := [(6, .int x16), (0, .ref (gL Γ (189))), (1, .int v1), (2, .int v2), (3, .int v3), (4, .int v4), (5, .int v5)]) dX7_swap_50 (by decide) rfl 52 rfl ?_
    exact z_sub [1, 2, 3, 4, 5, 6, 0] rfl (lp_ok (Z := fun q : Int32 × Int32 × Int32 × St => Zw X Γ 8 r0 q.2.2.2 52 [(0, .ref (gL Γ (189))), (1, .int v1), (2, .int v2), (3, .int q.1), (4, .int q.2.1), (5, .int v5), (6, .int q.2.2.1)] []) (fun q t h hk => e_X7_swap_L52 hX h hk) Fu _ _ h hk)
set_option maxHeartbeats 4000000 in
set_option maxRecDepth 100000 in
theorem e_X7_swap {X : Cx} {Γ : Gm} {r0 : Rb} (hX : Amb X Γ cX7_swap RX7 8 (some .int) 5) {a1 : Int32} {a2 : Int32} {s : St} {t : Int32 × St} (h : f_X7_swap a1 a2 s = some t) (hk : (fun t : Int32 × St => Rt X Γ r0 (some (Value.int t.1), t.2)) t) : Zw X Γ 8 r0 s 0 [(0, .ref (gL Γ (189))), (1, .int a1), (2, .int a2)] [] := by
  unfold f_X7_swap at h
  refine z_iload_n hX dX7_swap_0 1 rfl 1 rfl ?_
  replace h := cl_elim h
  obtain ⟨x2, s1, hx2, h⟩ := h
  refine z_cSi hX (As := [.int a1]) (c_X7_isFar hx2) lk_X7_238 ds_X7_isFar rfl (by decide) (by decide) (by decide) dX7_swap_1 rfl 4 rfl ?_
  refine z_if_eq hX 14 dX7_swap_4 (by decide) 7 rfl (fun c3 => ?_) (fun c3 => ?_)
  · replace h := br_pos h c3
    refine z_iconst hX (v := (-1)) dX7_swap_14 rfl 15 rfl ?_
    replace h := Option.some.inj h
    subst h
    exact z_iret hX dX7_swap_15 rfl hk
  · replace h := br_neg h c3
    refine z_iload_n hX dX7_swap_7 2 rfl 8 rfl ?_
    replace h := cl_elim h
    obtain ⟨x5, s4, hx5, h⟩ := h
    refine z_cSi hX (As := [.int a2]) (c_X7_isPart hx5) lk_X7_251 ds_X7_isPart rfl (by decide) (by decide) (by decide) dX7_swap_8 rfl 11 rfl ?_
    refine z_if_ne hX 16 dX7_swap_11 (by decide) 14 rfl (fun c6 => ?_) (fun c6 => ?_)
    · replace h := br_pos h c6
      refine z_aload_n hX dX7_swap_16 0 rfl 17 rfl ?_
      replace h := cl_elim h
      obtain ⟨x8, s7, hx8, h⟩ := h
      refine z_cV7v hX (b := 189) (As := []) (c_X7_starts hx8) lk_X7_188 rfl kdc_189 ds_X7_starts rfl (by decide) (by decide) (by decide) dX7_swap_17 rfl 20 rfl ?_
      refine z_aload_n hX dX7_swap_20 0 rfl 21 rfl ?_
      refine z_iload_n hX dX7_swap_21 1 rfl 22 rfl ?_
      replace h := cl_elim h
      obtain ⟨x10, s9, hx10, h⟩ := h
      refine z_cV7v hX (b := 189) (As := [.int a1]) (c_X7_stepsGo hx10) lk_X7_230 rfl kdc_189 ds_X7_stepsGo rfl (by decide) (by decide) (by decide) dX7_swap_22 rfl 25 rfl ?_
      refine z_aload_n hX dX7_swap_25 0 rfl 26 rfl ?_
      replace h := cl_elim h
      obtain ⟨x12, s11, hx12, h⟩ := h
      refine z_cV7i hX (b := 189) (As := []) (c_X7_allHad hx12) lk_X7_197 rfl kdc_189 ds_X7_allHad rfl (by decide) (by decide) (by decide) dX7_swap_26 rfl 29 rfl ?_
      refine z_istore_n hX (lv2 := [(3, .int x12), (0, .ref (gL Γ (189))), (1, .int a1), (2, .int a2)]) dX7_swap_29 (by decide) rfl 30 rfl ?_
      refine z_bipush hX (v := (-4)) dX7_swap_30 (by decide) 32 rfl ?_
      refine z_istore hX (lv2 := [(4, .int ((-4))), (3, .int x12), (0, .ref (gL Γ (189))), (1, .int a1), (2, .int a2)]) dX7_swap_32 (by decide) rfl 34 rfl ?_
      refine z_iconst hX (v := (nI 0)) dX7_swap_34 rfl 35 rfl ?_
      refine z_istore hX (lv2 := [(5, .int ((nI 0))), (4, .int ((-4))), (3, .int x12), (0, .ref (gL Γ (189))), (1, .int a1), (2, .int a2)]) dX7_swap_35 (by decide) rfl 37 rfl ?_
      exact z_sub [3, 4, 5, 2, 1, 0] rfl (lp_ok (Z := fun q : Int32 × Int32 × Int32 × St => Zw X Γ 8 r0 q.2.2.2 37 [(0, .ref (gL Γ (189))), (1, .int a1), (2, .int a2), (3, .int q.1), (4, .int q.2.1), (5, .int q.2.2.1)] []) (fun q t h hk => e_X7_swap_L37 hX h hk) Fu _ _ h hk)
    · replace h := br_neg h c6
      refine z_iconst hX (v := (-1)) dX7_swap_14 rfl 15 rfl ?_
      replace h := Option.some.inj h
      subst h
      exact z_iret hX dX7_swap_15 rfl hk
theorem c_X7_swap {lc : Launch} {Γ : Gm} {a1 : Int32} {a2 : Int32} {s s2 : St} {v : Int32} (h : f_X7_swap a1 a2 s = some (v, s2)) : Ct lc Γ yX7_swap cX7_swap 8 (some .int) 5 [.ref (gL Γ (189)), .int a1, .int a2] s (some (.int v), s2) := Ct.of (by decide +kernel) (Nat.le_of_ble_eq_true rfl) (fun X hl hX => e_X7_swap hX h rfl)
theorem dX7_fan_0 : decode cX7_fan 0 = .ok (.aload_n 0, 1) := by decide +kernel
theorem dX7_fan_1 : decode cX7_fan 1 = .ok (.iload_n 1, 1) := by decide +kernel
theorem dX7_fan_2 : decode cX7_fan 2 = .ok (.invokevirtual 209, 3) := by decide +kernel
theorem dX7_fan_5 : decode cX7_fan 5 = .ok (.ifCond .eq 17, 3) := by decide +kernel
theorem dX7_fan_8 : decode cX7_fan 8 = .ok (.iload_n 2, 1) := by decide +kernel
theorem dX7_fan_9 : decode cX7_fan 9 = .ok (.invokestatic 238, 3) := by decide +kernel
theorem dX7_fan_12 : decode cX7_fan 12 = .ok (.ifCond .eq 10, 3) := by decide +kernel
theorem dX7_fan_15 : decode cX7_fan 15 = .ok (.iload_n 3, 1) := by decide +kernel
theorem dX7_fan_16 : decode cX7_fan 16 = .ok (.invokestatic 251, 3) := by decide +kernel
theorem dX7_fan_19 : decode cX7_fan 19 = .ok (.ifCond .ne 5, 3) := by decide +kernel
theorem dX7_fan_22 : decode cX7_fan 22 = .ok (.iconst (-1), 1) := by decide +kernel
theorem dX7_fan_23 : decode cX7_fan 23 = .ok (.ireturn, 1) := by decide +kernel
theorem dX7_fan_24 : decode cX7_fan 24 = .ok (.aload_n 0, 1) := by decide +kernel
theorem dX7_fan_25 : decode cX7_fan 25 = .ok (.invokevirtual 188, 3) := by decide +kernel
theorem dX7_fan_28 : decode cX7_fan 28 = .ok (.aload_n 0, 1) := by decide +kernel
theorem dX7_fan_29 : decode cX7_fan 29 = .ok (.iload_n 2, 1) := by decide +kernel
theorem dX7_fan_30 : decode cX7_fan 30 = .ok (.invokevirtual 230, 3) := by decide +kernel
theorem dX7_fan_33 : decode cX7_fan 33 = .ok (.aload_n 0, 1) := by decide +kernel
theorem dX7_fan_34 : decode cX7_fan 34 = .ok (.iload_n 1, 1) := by decide +kernel
theorem dX7_fan_35 : decode cX7_fan 35 = .ok (.invokevirtual 212, 3) := by decide +kernel
theorem dX7_fan_38 : decode cX7_fan 38 = .ok (.istore 4, 2) := by decide +kernel
theorem dX7_fan_40 : decode cX7_fan 40 = .ok (.bipush (-4), 2) := by decide +kernel
theorem dX7_fan_42 : decode cX7_fan 42 = .ok (.istore 5, 2) := by decide +kernel
theorem dX7_fan_44 : decode cX7_fan 44 = .ok (.iconst 0, 1) := by decide +kernel
theorem dX7_fan_45 : decode cX7_fan 45 = .ok (.istore 6, 2) := by decide +kernel
theorem dX7_fan_47 : decode cX7_fan 47 = .ok (.iload 6, 2) := by decide +kernel
theorem dX7_fan_49 : decode cX7_fan 49 = .ok (.bipush 6, 2) := by decide +kernel
theorem dX7_fan_51 : decode cX7_fan 51 = .ok (.if_icmp .ge 90, 3) := by decide +kernel
theorem dX7_fan_54 : decode cX7_fan 54 = .ok (.iconst 0, 1) := by decide +kernel
theorem dX7_fan_55 : decode cX7_fan 55 = .ok (.istore 7, 2) := by decide +kernel
theorem dX7_fan_57 : decode cX7_fan 57 = .ok (.iload 7, 2) := by decide +kernel
theorem dX7_fan_59 : decode cX7_fan 59 = .ok (.iconst 4, 1) := by decide +kernel
theorem dX7_fan_60 : decode cX7_fan 60 = .ok (.if_icmp .gt 75, 3) := by decide +kernel
theorem dX7_fan_63 : decode cX7_fan 63 = .ok (.aload_n 0, 1) := by decide +kernel
theorem dX7_fan_64 : decode cX7_fan 64 = .ok (.invokevirtual 188, 3) := by decide +kernel
theorem dX7_fan_67 : decode cX7_fan 67 = .ok (.aload_n 0, 1) := by decide +kernel
theorem dX7_fan_68 : decode cX7_fan 68 = .ok (.getfield 13, 3) := by decide +kernel
theorem dX7_fan_71 : decode cX7_fan 71 = .ok (.bipush 32, 2) := by decide +kernel
theorem dX7_fan_73 : decode cX7_fan 73 = .ok (.iload 6, 2) := by decide +kernel
theorem dX7_fan_75 : decode cX7_fan 75 = .ok (.iadd, 1) := by decide +kernel
theorem dX7_fan_76 : decode cX7_fan 76 = .ok (.iload 7, 2) := by decide +kernel
theorem dX7_fan_78 : decode cX7_fan 78 = .ok (.iastore, 1) := by decide +kernel
theorem dX7_fan_79 : decode cX7_fan 79 = .ok (.aload_n 0, 1) := by decide +kernel
theorem dX7_fan_80 : decode cX7_fan 80 = .ok (.iload_n 2, 1) := by decide +kernel
theorem dX7_fan_81 : decode cX7_fan 81 = .ok (.invokevirtual 230, 3) := by decide +kernel
theorem dX7_fan_84 : decode cX7_fan 84 = .ok (.aload_n 0, 1) := by decide +kernel
theorem dX7_fan_85 : decode cX7_fan 85 = .ok (.iload_n 1, 1) := by decide +kernel
theorem dX7_fan_86 : decode cX7_fan 86 = .ok (.invokevirtual 212, 3) := by decide +kernel
theorem dX7_fan_89 : decode cX7_fan 89 = .ok (.istore 8, 2) := by decide +kernel
theorem dX7_fan_91 : decode cX7_fan 91 = .ok (.iload 8, 2) := by decide +kernel
theorem dX7_fan_93 : decode cX7_fan 93 = .ok (.iload 4, 2) := by decide +kernel
theorem dX7_fan_95 : decode cX7_fan 95 = .ok (.if_icmp .le 14, 3) := by decide +kernel
theorem dX7_fan_98 : decode cX7_fan 98 = .ok (.bipush 10, 2) := by decide +kernel
theorem dX7_fan_100 : decode cX7_fan 100 = .ok (.iload 6, 2) := by decide +kernel
theorem dX7_fan_102 : decode cX7_fan 102 = .ok (.imul, 1) := by decide +kernel
theorem dX7_fan_103 : decode cX7_fan 103 = .ok (.iload 7, 2) := by decide +kernel
theorem dX7_fan_105 : decode cX7_fan 105 = .ok (.iadd, 1) := by decide +kernel
theorem dX7_fan_106 : decode cX7_fan 106 = .ok (.goto 5, 3) := by decide +kernel
theorem dX7_fan_109 : decode cX7_fan 109 = .ok (.iload 5, 2) := by decide +kernel
theorem dX7_fan_111 : decode cX7_fan 111 = .ok (.istore 5, 2) := by decide +kernel
theorem dX7_fan_113 : decode cX7_fan 113 = .ok (.iload 8, 2) := by decide +kernel
theorem dX7_fan_115 : decode cX7_fan 115 = .ok (.iload 4, 2) := by decide +kernel
theorem dX7_fan_117 : decode cX7_fan 117 = .ok (.if_icmp .le 8, 3) := by decide +kernel
theorem dX7_fan_120 : decode cX7_fan 120 = .ok (.iload 8, 2) := by decide +kernel
theorem dX7_fan_122 : decode cX7_fan 122 = .ok (.goto 5, 3) := by decide +kernel
theorem dX7_fan_125 : decode cX7_fan 125 = .ok (.iload 4, 2) := by decide +kernel
theorem dX7_fan_127 : decode cX7_fan 127 = .ok (.istore 4, 2) := by decide +kernel
theorem dX7_fan_129 : decode cX7_fan 129 = .ok (.iinc 7 1, 3) := by decide +kernel
theorem dX7_fan_132 : decode cX7_fan 132 = .ok (.goto (-75), 3) := by decide +kernel
theorem dX7_fan_135 : decode cX7_fan 135 = .ok (.iinc 6 1, 3) := by decide +kernel
theorem dX7_fan_138 : decode cX7_fan 138 = .ok (.goto (-91), 3) := by decide +kernel
theorem dX7_fan_141 : decode cX7_fan 141 = .ok (.iload 5, 2) := by decide +kernel
theorem dX7_fan_143 : decode cX7_fan 143 = .ok (.bipush (-4), 2) := by decide +kernel
theorem dX7_fan_145 : decode cX7_fan 145 = .ok (.if_icmp .ne 8, 3) := by decide +kernel
theorem dX7_fan_148 : decode cX7_fan 148 = .ok (.bipush (-4), 2) := by decide +kernel
theorem dX7_fan_150 : decode cX7_fan 150 = .ok (.goto 14, 3) := by decide +kernel
theorem dX7_fan_153 : decode cX7_fan 153 = .ok (.iload_n 3, 1) := by decide +kernel
theorem dX7_fan_154 : decode cX7_fan 154 = .ok (.ifCond .ne 8, 3) := by decide +kernel
theorem dX7_fan_157 : decode cX7_fan 157 = .ok (.iload 5, 2) := by decide +kernel
theorem dX7_fan_159 : decode cX7_fan 159 = .ok (.goto 5, 3) := by decide +kernel
theorem dX7_fan_162 : decode cX7_fan 162 = .ok (.iload 4, 2) := by decide +kernel
theorem dX7_fan_164 : decode cX7_fan 164 = .ok (.ireturn, 1) := by decide +kernel
def f_X7_fan_J111 (v1 : Int32) (v2 : Int32) (v3 : Int32) (v4 : Int32) (v6 : Int32) (v7 : Int32) (v8 : Int32) (k0 : Int32) (s : St) : Option ((Int32 × Int32 × Int32 × St) ⊕ ((Int32 × Int32 × Int32 × St) ⊕ (Int32 × St))) := if v8 ≤ v4 then (some (Sum.inl (v4, k0, (v7 + (nI 1)), s))) else (some (Sum.inl (v8, k0, (v7 + (nI 1)), s)))
def f_X7_fan_L57 (v1 : Int32) (v2 : Int32) (v3 : Int32) (v6 : Int32) (v4 : Int32) (v5 : Int32) (v7 : Int32) (s : St) : Option ((Int32 × Int32 × Int32 × St) ⊕ ((Int32 × Int32 × Int32 × St) ⊕ (Int32 × St))) := if (nI 4) < v7 then (some (Sum.inr (Sum.inl (v4, v5, (v6 + (nI 1)), s)))) else (cl (f_X7_starts s) (fun x21 s20 => if inb ((nI 32) + v6) (lnI 191) = true then bd (wI s20 191 (((nI 32) + v6)).toNatClampNeg v7) (fun s23 => cl (f_X7_stepsGo v2 s23) (fun x25 s24 => cl (f_X7_hadBy v1 s24) (fun x27 s26 => if x27 ≤ v4 then (f_X7_fan_J111 v1 v2 v3 v4 v6 v7 x27 v5 s26) else (f_X7_fan_J111 v1 v2 v3 v4 v6 v7 x27 (((nI 10) * v6) + v7) s26)))) else none))
def f_X7_fan_L47 (v1 : Int32) (v2 : Int32) (v3 : Int32) (v4 : Int32) (v5 : Int32) (v6 : Int32) (s : St) : Option ((Int32 × Int32 × Int32 × St) ⊕ (Int32 × St)) := if (nI 6) ≤ v6 then (if ¬ v5 = (-4) then (if ¬ v3 = 0 then (some (Sum.inr ((v4, s)))) else (some (Sum.inr ((v5, s))))) else (some (Sum.inr (((-4), s))))) else (lp (fun q : Int32 × Int32 × Int32 × St => f_X7_fan_L57 v1 v2 v3 v6 q.1 q.2.1 q.2.2.1 q.2.2.2) Fu (v4, v5, (nI 0), s))
def f_X7_fan (a1 : Int32) (a2 : Int32) (a3 : Int32) (s : St) : Option (Int32 × St) := cl (f_X7_isSitter a1 s) (fun x2 s1 => if x2 = 0 then (some (((-1), s1))) else (cl (f_X7_isFar a2 s1) (fun x5 s4 => if x5 = 0 then (some (((-1), s4))) else (cl (f_X7_isPart a3 s4) (fun x8 s7 => if ¬ x8 = 0 then (cl (f_X7_starts s7) (fun x11 s10 => cl (f_X7_stepsGo a2 s10) (fun x13 s12 => cl (f_X7_hadBy a1 s12) (fun x15 s14 => lp (fun q : Int32 × Int32 × Int32 × St => f_X7_fan_L47 a1 a2 a3 q.1 q.2.1 q.2.2.1 q.2.2.2) Fu (x15, (-4), (nI 0), s14))))) else (some (((-1), s7))))))))
set_option maxHeartbeats 4000000 in
set_option maxRecDepth 100000 in
theorem e_X7_fan_J111 {X : Cx} {Γ : Gm} {r0 : Rb} (hX : Amb X Γ cX7_fan RX7 9 (some .int) 5) {v1 : Int32} {v2 : Int32} {v3 : Int32} {v4 : Int32} {v6 : Int32} {v7 : Int32} {v8 : Int32} {k0 : Int32} {s : St} {t : (Int32 × Int32 × Int32 × St) ⊕ ((Int32 × Int32 × Int32 × St) ⊕ (Int32 × St))} (h : f_X7_fan_J111 v1 v2 v3 v4 v6 v7 v8 k0 s = some t) (hk : (Sum.elim (fun q : Int32 × Int32 × Int32 × St => Zw X Γ 9 r0 q.2.2.2 57 [(0, .ref (gL Γ (189))), (1, .int v1), (2, .int v2), (3, .int v3), (4, .int q.1), (5, .int q.2.1), (6, .int v6), (7, .int q.2.2.1)] []) (Sum.elim (fun q : Int32 × Int32 × Int32 × St => Zw X Γ 9 r0 q.2.2.2 47 [(0, .ref (gL Γ (189))), (1, .int v1), (2, .int v2), (3, .int v3), (4, .int q.1), (5, .int q.2.1), (6, .int q.2.2.1)] []) (fun t : Int32 × St => Rt X Γ r0 (some (Value.int t.1), t.2)))) t) : Zw X Γ 9 r0 s 111 [(0, .ref (gL Γ (189))), (1, .int v1), (2, .int v2), (3, .int v3), (4, .int v4), (6, .int v6), (7, .int v7), (8, .int v8)] [.int k0] := by
  unfold f_X7_fan_J111 at h
  refine z_istore hX (lv2 := [(5, .int k0), (0, .ref (gL Γ (189))), (1, .int v1), (2, .int v2), (3, .int v3), (4, .int v4), (6, .int v6), (7, .int v7), (8, .int v8)]) dX7_fan_111 (by decide) rfl 113 rfl ?_
  refine z_iload hX dX7_fan_113 8 rfl 115 rfl ?_
  refine z_iload hX dX7_fan_115 5 rfl 117 rfl ?_
  refine z_icmp_le hX 125 dX7_fan_117 (by decide) 120 rfl (fun c29 => ?_) (fun c29 => ?_)
  · replace h := br_pos h c29
    refine z_iload hX dX7_fan_125 5 rfl 127 rfl ?_
    refine z_istore hX (lv2 := [(4, .int v4), (5, .int k0), (0, .ref (gL Γ (189))), (1, .int v1), (2, .int v2), (3, .int v3), (6, .int v6), (7, .int v7), (8, .int v8)]) dX7_fan_127 (by decide) rfl 129 rfl ?_
    refine z_iinc hX (v := (v7 + (nI 1))) (lv2 := [(7, .int ((v7 + (nI 1)))), (4, .int v4), (5, .int k0), (0, .ref (gL Γ (189))), (1, .int v1), (2, .int v2), (3, .int v3), (6, .int v6), (8, .int v8)]) dX7_fan_129 7 rfl rfl (by decide) rfl 132 rfl ?_
    refine z_goto hX 57 dX7_fan_132 (by decide) ?_
    replace h := Option.some.inj h
    subst h
    exact z_sub [3, 4, 5, 6, 1, 2, 7, 0] rfl hk
  · replace h := br_neg h c29
    refine z_iload hX dX7_fan_120 8 rfl 122 rfl ?_
    refine z_goto hX 127 dX7_fan_122 (by decide) ?_
    refine z_istore hX (lv2 := [(4, .int v8), (5, .int k0), (0, .ref (gL Γ (189))), (1, .int v1), (2, .int v2), (3, .int v3), (6, .int v6), (7, .int v7), (8, .int v8)]) dX7_fan_127 (by decide) rfl 129 rfl ?_
    refine z_iinc hX (v := (v7 + (nI 1))) (lv2 := [(7, .int ((v7 + (nI 1)))), (4, .int v8), (5, .int k0), (0, .ref (gL Γ (189))), (1, .int v1), (2, .int v2), (3, .int v3), (6, .int v6), (8, .int v8)]) dX7_fan_129 7 rfl rfl (by decide) rfl 132 rfl ?_
    refine z_goto hX 57 dX7_fan_132 (by decide) ?_
    replace h := Option.some.inj h
    subst h
    exact z_sub [3, 4, 5, 6, 1, 2, 7, 0] rfl hk
set_option maxHeartbeats 4000000 in
set_option maxRecDepth 100000 in
theorem e_X7_fan_L57 {X : Cx} {Γ : Gm} {r0 : Rb} (hX : Amb X Γ cX7_fan RX7 9 (some .int) 5) {v1 : Int32} {v2 : Int32} {v3 : Int32} {v6 : Int32} {v4 : Int32} {v5 : Int32} {v7 : Int32} {s : St} {t : (Int32 × Int32 × Int32 × St) ⊕ ((Int32 × Int32 × Int32 × St) ⊕ (Int32 × St))} (h : f_X7_fan_L57 v1 v2 v3 v6 v4 v5 v7 s = some t) (hk : (Sum.elim (fun q : Int32 × Int32 × Int32 × St => Zw X Γ 9 r0 q.2.2.2 57 [(0, .ref (gL Γ (189))), (1, .int v1), (2, .int v2), (3, .int v3), (4, .int q.1), (5, .int q.2.1), (6, .int v6), (7, .int q.2.2.1)] []) (Sum.elim (fun q : Int32 × Int32 × Int32 × St => Zw X Γ 9 r0 q.2.2.2 47 [(0, .ref (gL Γ (189))), (1, .int v1), (2, .int v2), (3, .int v3), (4, .int q.1), (5, .int q.2.1), (6, .int q.2.2.1)] []) (fun t : Int32 × St => Rt X Γ r0 (some (Value.int t.1), t.2)))) t) : Zw X Γ 9 r0 s 57 [(0, .ref (gL Γ (189))), (1, .int v1), (2, .int v2), (3, .int v3), (4, .int v4), (5, .int v5), (6, .int v6), (7, .int v7)] [] := by
  unfold f_X7_fan_L57 at h
  refine z_iload hX dX7_fan_57 7 rfl 59 rfl ?_
  refine z_iconst hX (v := (nI 4)) dX7_fan_59 rfl 60 rfl ?_
  refine z_icmp_gt hX 135 dX7_fan_60 (by decide) 63 rfl (fun c19 => ?_) (fun c19 => ?_)
  · replace h := br_pos h c19
    refine z_iinc hX (v := (v6 + (nI 1))) (lv2 := [(6, .int ((v6 + (nI 1)))), (0, .ref (gL Γ (189))), (1, .int v1), (2, .int v2), (3, .int v3), (4, .int v4), (5, .int v5), (7, .int v7)]) dX7_fan_135 6 rfl rfl (by decide) rfl 138 rfl ?_
    refine z_goto hX 47 dX7_fan_138 (by decide) ?_
    replace h := Option.some.inj h
    subst h
    exact z_sub [1, 2, 3, 4, 5, 6, 0] rfl hk
  · replace h := br_neg h c19
    refine z_aload_n hX dX7_fan_63 0 rfl 64 rfl ?_
    replace h := cl_elim h
    obtain ⟨x21, s20, hx21, h⟩ := h
    refine z_cV7v hX (b := 189) (As := []) (c_X7_starts hx21) lk_X7_188 rfl kdc_189 ds_X7_starts rfl (by decide) (by decide) (by decide) dX7_fan_64 rfl 67 rfl ?_
    refine z_aload_n hX dX7_fan_67 0 rfl 68 rfl ?_
    refine z_get7 hX (k := 189) (j := 1) (v := .ref (gL Γ (191))) kdc_189 (by decide) rfl dX7_fan_68 fl_X7_13 71 rfl ?_
    refine z_bipush hX (v := (nI 32)) dX7_fan_71 (by decide) 73 rfl ?_
    refine z_iload hX dX7_fan_73 6 rfl 75 rfl ?_
    refine z_iadd hX dX7_fan_75 76 rfl ?_
    refine z_iload hX dX7_fan_76 7 rfl 78 rfl ?_
    replace h := gd_elim h
    obtain ⟨g22, h⟩ := h
    replace h := bd_elim h
    obtain ⟨s23, es23, h⟩ := h
    refine z_iast hX (inb_vp g22) dX7_fan_78 es23 79 rfl ?_
    refine z_aload_n hX dX7_fan_79 0 rfl 80 rfl ?_
    refine z_iload_n hX dX7_fan_80 2 rfl 81 rfl ?_
    replace h := cl_elim h
    obtain ⟨x25, s24, hx25, h⟩ := h
    refine z_cV7v hX (b := 189) (As := [.int v2]) (c_X7_stepsGo hx25) lk_X7_230 rfl kdc_189 ds_X7_stepsGo rfl (by decide) (by decide) (by decide) dX7_fan_81 rfl 84 rfl ?_
    refine z_aload_n hX dX7_fan_84 0 rfl 85 rfl ?_
    refine z_iload_n hX dX7_fan_85 1 rfl 86 rfl ?_
    replace h := cl_elim h
    obtain ⟨x27, s26, hx27, h⟩ := h
    refine z_cV7i hX (b := 189) (As := [.int v1]) (c_X7_hadBy hx27) lk_X7_212 rfl kdc_189 ds_X7_hadBy rfl (by decide) (by decide) (by decide) dX7_fan_86 rfl 89 rfl ?_
    refine z_istore hX (lv2 := [(8, .int x27), (0, .ref (gL Γ (189))), (1, .int v1), (2, .int v2), (3, .int v3), (4, .int v4), (5, .int v5), (6, .int v6), (7, .int v7)]) dX7_fan_89 (by decide) rfl 91 rfl ?_
    refine z_iload hX dX7_fan_91 0 rfl 93 rfl ?_
    refine z_iload hX dX7_fan_93 5 rfl 95 rfl ?_
    refine z_icmp_le hX 109 dX7_fan_95 (by decide) 98 rfl (fun c28 => ?_) (fun c28 => ?_)
    · replace h := br_pos h c28
      refine z_iload hX dX7_fan_109 6 rfl 111 rfl ?_
      exact z_sub [1, 2, 3, 4, 5, 7, 8, 0] rfl (e_X7_fan_J111 hX h hk)
    · replace h := br_neg h c28
      refine z_bipush hX (v := (nI 10)) dX7_fan_98 (by decide) 100 rfl ?_
      refine z_iload hX dX7_fan_100 7 rfl 102 rfl ?_
      refine z_imul hX dX7_fan_102 103 rfl ?_
      refine z_iload hX dX7_fan_103 8 rfl 105 rfl ?_
      refine z_iadd hX dX7_fan_105 106 rfl ?_
      refine z_goto hX 111 dX7_fan_106 (by decide) ?_
      exact z_sub [1, 2, 3, 4, 5, 7, 8, 0] rfl (e_X7_fan_J111 hX h hk)
set_option maxHeartbeats 4000000 in
set_option maxRecDepth 100000 in
theorem e_X7_fan_L47 {X : Cx} {Γ : Gm} {r0 : Rb} (hX : Amb X Γ cX7_fan RX7 9 (some .int) 5) {v1 : Int32} {v2 : Int32} {v3 : Int32} {v4 : Int32} {v5 : Int32} {v6 : Int32} {s : St} {t : (Int32 × Int32 × Int32 × St) ⊕ (Int32 × St)} (h : f_X7_fan_L47 v1 v2 v3 v4 v5 v6 s = some t) (hk : (Sum.elim (fun q : Int32 × Int32 × Int32 × St => Zw X Γ 9 r0 q.2.2.2 47 [(0, .ref (gL Γ (189))), (1, .int v1), (2, .int v2), (3, .int v3), (4, .int q.1), (5, .int q.2.1), (6, .int q.2.2.1)] []) (fun t : Int32 × St => Rt X Γ r0 (some (Value.int t.1), t.2))) t) : Zw X Γ 9 r0 s 47 [(0, .ref (gL Γ (189))), (1, .int v1), (2, .int v2), (3, .int v3), (4, .int v4), (5, .int v5), (6, .int v6)] [] := by
  unfold f_X7_fan_L47 at h
  refine z_iload hX dX7_fan_47 6 rfl 49 rfl ?_
  refine z_bipush hX (v := (nI 6)) dX7_fan_49 (by decide) 51 rfl ?_
  refine z_icmp_ge hX 141 dX7_fan_51 (by decide) 54 rfl (fun c16 => ?_) (fun c16 => ?_)
  · replace h := br_pos h c16
    refine z_iload hX dX7_fan_141 5 rfl 143 rfl ?_
    refine z_bipush hX (v := (-4)) dX7_fan_143 (by decide) 145 rfl ?_
    refine z_icmp_ne hX 153 dX7_fan_145 (by decide) 148 rfl (fun c17 => ?_) (fun c17 => ?_)
    · replace h := br_pos h c17
      refine z_iload_n hX dX7_fan_153 3 rfl 154 rfl ?_
      refine z_if_ne hX 162 dX7_fan_154 (by decide) 157 rfl (fun c18 => ?_) (fun c18 => ?_)
      · replace h := br_pos h c18
        refine z_iload hX dX7_fan_162 4 rfl 164 rfl ?_
        replace h := Option.some.inj h
        subst h
        exact z_iret hX dX7_fan_164 rfl hk
      · replace h := br_neg h c18
        refine z_iload hX dX7_fan_157 5 rfl 159 rfl ?_
        refine z_goto hX 164 dX7_fan_159 (by decide) ?_
        replace h := Option.some.inj h
        subst h
        exact z_iret hX dX7_fan_164 rfl hk
    · replace h := br_neg h c17
      refine z_bipush hX (v := (-4)) dX7_fan_148 (by decide) 150 rfl ?_
      refine z_goto hX 164 dX7_fan_150 (by decide) ?_
      replace h := Option.some.inj h
      subst h
      exact z_iret hX dX7_fan_164 rfl hk
  · replace h := br_neg h c16
    refine z_iconst hX (v := (nI 0)) dX7_fan_54 rfl 55 rfl ?_
    refine z_istore hX (lv2 := [(7, .int ((nI 0))), (0, .ref (gL Γ (189))), (1, .int v1), (2, .int v2), (3, .int v3), (4, .int v4), (5, .int v5), (6, .int v6)]) dX7_fan_55 (by decide) rfl 57 rfl ?_
    exact z_sub [1, 2, 3, 4, 5, 6, 7, 0] rfl (lp_ok (Z := fun q : Int32 × Int32 × Int32 × St => Zw X Γ 9 r0 q.2.2.2 57 [(0, .ref (gL Γ (189))), (1, .int v1), (2, .int v2), (3, .int v3), (4, .int q.1), (5, .int q.2.1), (6, .int v6), (7, .int q.2.2.1)] []) (fun q t h hk => e_X7_fan_L57 hX h hk) Fu _ _ h hk)
set_option maxHeartbeats 4000000 in
set_option maxRecDepth 100000 in
theorem e_X7_fan {X : Cx} {Γ : Gm} {r0 : Rb} (hX : Amb X Γ cX7_fan RX7 9 (some .int) 5) {a1 : Int32} {a2 : Int32} {a3 : Int32} {s : St} {t : Int32 × St} (h : f_X7_fan a1 a2 a3 s = some t) (hk : (fun t : Int32 × St => Rt X Γ r0 (some (Value.int t.1), t.2)) t) : Zw X Γ 9 r0 s 0 [(0, .ref (gL Γ (189))), (1, .int a1), (2, .int a2), (3, .int a3)] [] := by
  unfold f_X7_fan at h
  refine z_aload_n hX dX7_fan_0 0 rfl 1 rfl ?_
  refine z_iload_n hX dX7_fan_1 1 rfl 2 rfl ?_
  replace h := cl_elim h
  obtain ⟨x2, s1, hx2, h⟩ := h
  refine z_cV7i hX (b := 189) (As := [.int a1]) (c_X7_isSitter hx2) lk_X7_209 rfl kdc_189 ds_X7_isSitter rfl (by decide) (by decide) (by decide) dX7_fan_2 rfl 5 rfl ?_
  refine z_if_eq hX 22 dX7_fan_5 (by decide) 8 rfl (fun c3 => ?_) (fun c3 => ?_)
  · replace h := br_pos h c3
    refine z_iconst hX (v := (-1)) dX7_fan_22 rfl 23 rfl ?_
    replace h := Option.some.inj h
    subst h
    exact z_iret hX dX7_fan_23 rfl hk
  · replace h := br_neg h c3
    refine z_iload_n hX dX7_fan_8 2 rfl 9 rfl ?_
    replace h := cl_elim h
    obtain ⟨x5, s4, hx5, h⟩ := h
    refine z_cSi hX (As := [.int a2]) (c_X7_isFar hx5) lk_X7_238 ds_X7_isFar rfl (by decide) (by decide) (by decide) dX7_fan_9 rfl 12 rfl ?_
    refine z_if_eq hX 22 dX7_fan_12 (by decide) 15 rfl (fun c6 => ?_) (fun c6 => ?_)
    · replace h := br_pos h c6
      refine z_iconst hX (v := (-1)) dX7_fan_22 rfl 23 rfl ?_
      replace h := Option.some.inj h
      subst h
      exact z_iret hX dX7_fan_23 rfl hk
    · replace h := br_neg h c6
      refine z_iload_n hX dX7_fan_15 3 rfl 16 rfl ?_
      replace h := cl_elim h
      obtain ⟨x8, s7, hx8, h⟩ := h
      refine z_cSi hX (As := [.int a3]) (c_X7_isPart hx8) lk_X7_251 ds_X7_isPart rfl (by decide) (by decide) (by decide) dX7_fan_16 rfl 19 rfl ?_
      refine z_if_ne hX 24 dX7_fan_19 (by decide) 22 rfl (fun c9 => ?_) (fun c9 => ?_)
      · replace h := br_pos h c9
        refine z_aload_n hX dX7_fan_24 0 rfl 25 rfl ?_
        replace h := cl_elim h
        obtain ⟨x11, s10, hx11, h⟩ := h
        refine z_cV7v hX (b := 189) (As := []) (c_X7_starts hx11) lk_X7_188 rfl kdc_189 ds_X7_starts rfl (by decide) (by decide) (by decide) dX7_fan_25 rfl 28 rfl ?_
        refine z_aload_n hX dX7_fan_28 0 rfl 29 rfl ?_
        refine z_iload_n hX dX7_fan_29 2 rfl 30 rfl ?_
        replace h := cl_elim h
        obtain ⟨x13, s12, hx13, h⟩ := h
        refine z_cV7v hX (b := 189) (As := [.int a2]) (c_X7_stepsGo hx13) lk_X7_230 rfl kdc_189 ds_X7_stepsGo rfl (by decide) (by decide) (by decide) dX7_fan_30 rfl 33 rfl ?_
        refine z_aload_n hX dX7_fan_33 0 rfl 34 rfl ?_
        refine z_iload_n hX dX7_fan_34 1 rfl 35 rfl ?_
        replace h := cl_elim h
        obtain ⟨x15, s14, hx15, h⟩ := h
        refine z_cV7i hX (b := 189) (As := [.int a1]) (c_X7_hadBy hx15) lk_X7_212 rfl kdc_189 ds_X7_hadBy rfl (by decide) (by decide) (by decide) dX7_fan_35 rfl 38 rfl ?_
        refine z_istore hX (lv2 := [(4, .int x15), (0, .ref (gL Γ (189))), (1, .int a1), (2, .int a2), (3, .int a3)]) dX7_fan_38 (by decide) rfl 40 rfl ?_
        refine z_bipush hX (v := (-4)) dX7_fan_40 (by decide) 42 rfl ?_
        refine z_istore hX (lv2 := [(5, .int ((-4))), (4, .int x15), (0, .ref (gL Γ (189))), (1, .int a1), (2, .int a2), (3, .int a3)]) dX7_fan_42 (by decide) rfl 44 rfl ?_
        refine z_iconst hX (v := (nI 0)) dX7_fan_44 rfl 45 rfl ?_
        refine z_istore hX (lv2 := [(6, .int ((nI 0))), (5, .int ((-4))), (4, .int x15), (0, .ref (gL Γ (189))), (1, .int a1), (2, .int a2), (3, .int a3)]) dX7_fan_45 (by decide) rfl 47 rfl ?_
        exact z_sub [3, 4, 5, 6, 2, 1, 0] rfl (lp_ok (Z := fun q : Int32 × Int32 × Int32 × St => Zw X Γ 9 r0 q.2.2.2 47 [(0, .ref (gL Γ (189))), (1, .int a1), (2, .int a2), (3, .int a3), (4, .int q.1), (5, .int q.2.1), (6, .int q.2.2.1)] []) (fun q t h hk => e_X7_fan_L47 hX h hk) Fu _ _ h hk)
      · replace h := br_neg h c9
        refine z_iconst hX (v := (-1)) dX7_fan_22 rfl 23 rfl ?_
        replace h := Option.some.inj h
        subst h
        exact z_iret hX dX7_fan_23 rfl hk
theorem c_X7_fan {lc : Launch} {Γ : Gm} {a1 : Int32} {a2 : Int32} {a3 : Int32} {s s2 : St} {v : Int32} (h : f_X7_fan a1 a2 a3 s = some (v, s2)) : Ct lc Γ yX7_fan cX7_fan 9 (some .int) 5 [.ref (gL Γ (189)), .int a1, .int a2, .int a3] s (some (.int v), s2) := Ct.of (by decide +kernel) (Nat.le_of_ble_eq_true rfl) (fun X hl hX => e_X7_fan hX h rfl)
theorem dX7_common_0 : decode cX7_common 0 = .ok (.lload_n 0, 1) := by decide +kernel
theorem dX7_common_1 : decode cX7_common 1 = .ok (.lstore 4, 2) := by decide +kernel
theorem dX7_common_3 : decode cX7_common 3 = .ok (.lload_n 2, 1) := by decide +kernel
theorem dX7_common_4 : decode cX7_common 4 = .ok (.lstore 6, 2) := by decide +kernel
theorem dX7_common_6 : decode cX7_common 6 = .ok (.lload 6, 2) := by decide +kernel
theorem dX7_common_8 : decode cX7_common 8 = .ok (.lconst 0, 1) := by decide +kernel
theorem dX7_common_9 : decode cX7_common 9 = .ok (.lcmp, 1) := by decide +kernel
theorem dX7_common_10 : decode cX7_common 10 = .ok (.ifCond .eq 21, 3) := by decide +kernel
theorem dX7_common_13 : decode cX7_common 13 = .ok (.lload 4, 2) := by decide +kernel
theorem dX7_common_15 : decode cX7_common 15 = .ok (.lload 6, 2) := by decide +kernel
theorem dX7_common_17 : decode cX7_common 17 = .ok (.lrem, 1) := by decide +kernel
theorem dX7_common_18 : decode cX7_common 18 = .ok (.lstore 8, 2) := by decide +kernel
theorem dX7_common_20 : decode cX7_common 20 = .ok (.lload 6, 2) := by decide +kernel
theorem dX7_common_22 : decode cX7_common 22 = .ok (.lstore 4, 2) := by decide +kernel
theorem dX7_common_24 : decode cX7_common 24 = .ok (.lload 8, 2) := by decide +kernel
theorem dX7_common_26 : decode cX7_common 26 = .ok (.lstore 6, 2) := by decide +kernel
theorem dX7_common_28 : decode cX7_common 28 = .ok (.goto (-22), 3) := by decide +kernel
theorem dX7_common_31 : decode cX7_common 31 = .ok (.lload 4, 2) := by decide +kernel
theorem dX7_common_33 : decode cX7_common 33 = .ok (.lreturn, 1) := by decide +kernel
def f_X7_common_L6 (v4 : Int64) (v6 : Int64) (s : St) : Option ((Int64 × Int64 × St) ⊕ (Int64 × St)) := if (lg_cmp v6 (lN 0)) = 0 then (some (Sum.inr ((v4, s)))) else (if ¬ v6 = 0 then bd (v4 - v4 / v6 * v6) (fun x3 => some (Sum.inl (v6, x3, s))) else none)
def f_X7_common (a0 : Int64) (a2 : Int64) (s : St) : Option (Int64 × St) := lp (fun q : Int64 × Int64 × St => f_X7_common_L6 q.1 q.2.1 q.2.2) Fu (a0, a2, s)
set_option maxHeartbeats 4000000 in
set_option maxRecDepth 100000 in
theorem e_X7_common_L6 {X : Cx} {Γ : Gm} {r0 : Rb} (hX : Amb X Γ cX7_common RX7 10 (some .long) 0) {v4 : Int64} {v6 : Int64} {s : St} {t : (Int64 × Int64 × St) ⊕ (Int64 × St)} (h : f_X7_common_L6 v4 v6 s = some t) (hk : (Sum.elim (fun q : Int64 × Int64 × St => Zw X Γ 10 r0 q.2.2 6 [(4, .long q.1), (6, .long q.2.1)] []) (fun t : Int64 × St => Rt X Γ r0 (some (Value.long t.1), t.2))) t) : Zw X Γ 10 r0 s 6 [(4, .long v4), (6, .long v6)] [] := by
  unfold f_X7_common_L6 at h
  refine z_lload hX dX7_common_6 1 rfl 8 rfl ?_
  refine z_lconst hX (v := (lN 0)) dX7_common_8 rfl 9 rfl ?_
  refine z_lcmp hX dX7_common_9 10 rfl ?_
  refine z_if_eq hX 31 dX7_common_10 (by decide) 13 rfl (fun c1 => ?_) (fun c1 => ?_)
  · replace h := br_pos h c1
    refine z_lload hX dX7_common_31 0 rfl 33 rfl ?_
    replace h := Option.some.inj h
    subst h
    exact z_lret hX dX7_common_33 rfl hk
  · replace h := br_neg h c1
    refine z_lload hX dX7_common_13 0 rfl 15 rfl ?_
    refine z_lload hX dX7_common_15 1 rfl 17 rfl ?_
    replace h := gd_elim h
    obtain ⟨g2, h⟩ := h
    refine z_lrem hX dX7_common_17 g2 18 rfl ?_
    replace h := bd_elim h
    obtain ⟨x3, ex3, h⟩ := h
    refine z_nmL ex3 ?_
    refine z_lstore hX (lv2 := [(8, .long x3), (4, .long v4), (6, .long v6)]) dX7_common_18 (by decide) rfl 20 rfl ?_
    refine z_lload hX dX7_common_20 2 rfl 22 rfl ?_
    refine z_lstore hX (lv2 := [(4, .long v6), (8, .long x3), (6, .long v6)]) dX7_common_22 (by decide) rfl 24 rfl ?_
    refine z_lload hX dX7_common_24 1 rfl 26 rfl ?_
    refine z_lstore hX (lv2 := [(6, .long x3), (4, .long v6), (8, .long x3)]) dX7_common_26 (by decide) rfl 28 rfl ?_
    refine z_goto hX 6 dX7_common_28 (by decide) ?_
    replace h := Option.some.inj h
    subst h
    exact z_sub [1, 0] rfl hk
set_option maxHeartbeats 4000000 in
set_option maxRecDepth 100000 in
theorem e_X7_common {X : Cx} {Γ : Gm} {r0 : Rb} (hX : Amb X Γ cX7_common RX7 10 (some .long) 0) {a0 : Int64} {a2 : Int64} {s : St} {t : Int64 × St} (h : f_X7_common a0 a2 s = some t) (hk : (fun t : Int64 × St => Rt X Γ r0 (some (Value.long t.1), t.2)) t) : Zw X Γ 10 r0 s 0 [(0, .long a0), (2, .long a2)] [] := by
  unfold f_X7_common at h
  refine z_lload_n hX dX7_common_0 0 rfl 1 rfl ?_
  refine z_lstore hX (lv2 := [(4, .long a0), (0, .long a0), (2, .long a2)]) dX7_common_1 (by decide) rfl 3 rfl ?_
  refine z_lload_n hX dX7_common_3 2 rfl 4 rfl ?_
  refine z_lstore hX (lv2 := [(6, .long a2), (4, .long a0), (0, .long a0), (2, .long a2)]) dX7_common_4 (by decide) rfl 6 rfl ?_
  exact z_sub [1, 0] rfl (lp_ok (Z := fun q : Int64 × Int64 × St => Zw X Γ 10 r0 q.2.2 6 [(4, .long q.1), (6, .long q.2.1)] []) (fun q t h hk => e_X7_common_L6 hX h hk) Fu _ _ h hk)
theorem c_X7_common {lc : Launch} {Γ : Gm} {a0 : Int64} {a2 : Int64} {s s2 : St} {v : Int64} (h : f_X7_common a0 a2 s = some (v, s2)) : Ct lc Γ yX7_common cX7_common 10 (some .long) 0 [.long a0, .long a2] s (some (.long v), s2) := Ct.of (by decide +kernel) (Nat.le_of_ble_eq_true rfl) (fun X hl hX => e_X7_common hX h rfl)
theorem dX7_told_0 : decode cX7_told 0 = .ok (.lload_n 2, 1) := by decide +kernel
theorem dX7_told_1 : decode cX7_told 1 = .ok (.lload_n 0, 1) := by decide +kernel
theorem dX7_told_2 : decode cX7_told 2 = .ok (.invokestatic 254, 3) := by decide +kernel
theorem dX7_told_5 : decode cX7_told 5 = .ok (.lstore 5, 2) := by decide +kernel
theorem dX7_told_7 : decode cX7_told 7 = .ok (.iload 4, 2) := by decide +kernel
theorem dX7_told_9 : decode cX7_told 9 = .ok (.ifCond .ne 10, 3) := by decide +kernel
theorem dX7_told_12 : decode cX7_told 12 = .ok (.lload_n 0, 1) := by decide +kernel
theorem dX7_told_13 : decode cX7_told 13 = .ok (.lload 5, 2) := by decide +kernel
theorem dX7_told_15 : decode cX7_told 15 = .ok (.ldiv, 1) := by decide +kernel
theorem dX7_told_16 : decode cX7_told 16 = .ok (.goto 7, 3) := by decide +kernel
theorem dX7_told_19 : decode cX7_told 19 = .ok (.lload_n 2, 1) := by decide +kernel
theorem dX7_told_20 : decode cX7_told 20 = .ok (.lload 5, 2) := by decide +kernel
theorem dX7_told_22 : decode cX7_told 22 = .ok (.ldiv, 1) := by decide +kernel
theorem dX7_told_23 : decode cX7_told 23 = .ok (.lreturn, 1) := by decide +kernel
def f_X7_told (a0 : Int64) (a2 : Int64) (a4 : Int32) (s : St) : Option (Int64 × St) := cl (f_X7_common a2 a0 s) (fun x2 s1 => if ¬ a4 = 0 then (if ¬ x2 = 0 then some (((a2 / x2), s1)) else none) else (if ¬ x2 = 0 then some (((a0 / x2), s1)) else none))
set_option maxHeartbeats 4000000 in
set_option maxRecDepth 100000 in
theorem e_X7_told {X : Cx} {Γ : Gm} {r0 : Rb} (hX : Amb X Γ cX7_told RX7 7 (some .long) 1) {a0 : Int64} {a2 : Int64} {a4 : Int32} {s : St} {t : Int64 × St} (h : f_X7_told a0 a2 a4 s = some t) (hk : (fun t : Int64 × St => Rt X Γ r0 (some (Value.long t.1), t.2)) t) : Zw X Γ 7 r0 s 0 [(0, .long a0), (2, .long a2), (4, .int a4)] [] := by
  unfold f_X7_told at h
  refine z_lload_n hX dX7_told_0 1 rfl 1 rfl ?_
  refine z_lload_n hX dX7_told_1 0 rfl 2 rfl ?_
  replace h := cl_elim h
  obtain ⟨x2, s1, hx2, h⟩ := h
  refine z_cSl hX (As := [.long a2, .long a0]) (c_X7_common hx2) lk_X7_254 ds_X7_common rfl (by decide) (by decide) (by decide) dX7_told_2 rfl 5 rfl ?_
  refine z_lstore hX (lv2 := [(5, .long x2), (0, .long a0), (2, .long a2), (4, .int a4)]) dX7_told_5 (by decide) rfl 7 rfl ?_
  refine z_iload hX dX7_told_7 3 rfl 9 rfl ?_
  refine z_if_ne hX 19 dX7_told_9 (by decide) 12 rfl (fun c3 => ?_) (fun c3 => ?_)
  · replace h := br_pos h c3
    refine z_lload_n hX dX7_told_19 2 rfl 20 rfl ?_
    refine z_lload hX dX7_told_20 0 rfl 22 rfl ?_
    replace h := gd_elim h
    obtain ⟨g4, h⟩ := h
    refine z_ldiv hX dX7_told_22 g4 23 rfl ?_
    replace h := Option.some.inj h
    subst h
    exact z_lret hX dX7_told_23 rfl hk
  · replace h := br_neg h c3
    refine z_lload_n hX dX7_told_12 1 rfl 13 rfl ?_
    refine z_lload hX dX7_told_13 0 rfl 15 rfl ?_
    replace h := gd_elim h
    obtain ⟨g5, h⟩ := h
    refine z_ldiv hX dX7_told_15 g5 16 rfl ?_
    refine z_goto hX 23 dX7_told_16 (by decide) ?_
    replace h := Option.some.inj h
    subst h
    exact z_lret hX dX7_told_23 rfl hk
theorem c_X7_told {lc : Launch} {Γ : Gm} {a0 : Int64} {a2 : Int64} {a4 : Int32} {s s2 : St} {v : Int64} (h : f_X7_told a0 a2 a4 s = some (v, s2)) : Ct lc Γ yX7_told cX7_told 7 (some .long) 1 [.long a0, .long a2, .int a4] s (some (.long v), s2) := Ct.of (by decide +kernel) (Nat.le_of_ble_eq_true rfl) (fun X hl hX => e_X7_told hX h rfl)
theorem dX7_findOdds_0 : decode cX7_findOdds 0 = .ok (.aload_n 0, 1) := by decide +kernel
theorem dX7_findOdds_1 : decode cX7_findOdds 1 = .ok (.lconst 0, 1) := by decide +kernel
theorem dX7_findOdds_2 : decode cX7_findOdds 2 = .ok (.putfield 258, 3) := by decide +kernel
theorem dX7_findOdds_5 : decode cX7_findOdds 5 = .ok (.aload_n 0, 1) := by decide +kernel
theorem dX7_findOdds_6 : decode cX7_findOdds 6 = .ok (.lconst 0, 1) := by decide +kernel
theorem dX7_findOdds_7 : decode cX7_findOdds 7 = .ok (.putfield 262, 3) := by decide +kernel
theorem dX7_findOdds_10 : decode cX7_findOdds 10 = .ok (.aload_n 0, 1) := by decide +kernel
theorem dX7_findOdds_11 : decode cX7_findOdds 11 = .ok (.lconst 1, 1) := by decide +kernel
theorem dX7_findOdds_12 : decode cX7_findOdds 12 = .ok (.putfield 265, 3) := by decide +kernel
theorem dX7_findOdds_15 : decode cX7_findOdds 15 = .ok (.iconst 0, 1) := by decide +kernel
theorem dX7_findOdds_16 : decode cX7_findOdds 16 = .ok (.istore 4, 2) := by decide +kernel
theorem dX7_findOdds_18 : decode cX7_findOdds 18 = .ok (.iload 4, 2) := by decide +kernel
theorem dX7_findOdds_20 : decode cX7_findOdds 20 = .ok (.iload_n 3, 1) := by decide +kernel
theorem dX7_findOdds_21 : decode cX7_findOdds 21 = .ok (.if_icmp .ge 21, 3) := by decide +kernel
theorem dX7_findOdds_24 : decode cX7_findOdds 24 = .ok (.aload_n 0, 1) := by decide +kernel
theorem dX7_findOdds_25 : decode cX7_findOdds 25 = .ok (.dup, 1) := by decide +kernel
theorem dX7_findOdds_26 : decode cX7_findOdds 26 = .ok (.getfield 265, 3) := by decide +kernel
theorem dX7_findOdds_29 : decode cX7_findOdds 29 = .ok (.ldc2_w 268, 3) := by decide +kernel
theorem dX7_findOdds_32 : decode cX7_findOdds 32 = .ok (.lmul, 1) := by decide +kernel
theorem dX7_findOdds_33 : decode cX7_findOdds 33 = .ok (.putfield 265, 3) := by decide +kernel
theorem dX7_findOdds_36 : decode cX7_findOdds 36 = .ok (.iinc 4 1, 3) := by decide +kernel
theorem dX7_findOdds_39 : decode cX7_findOdds 39 = .ok (.goto (-21), 3) := by decide +kernel
theorem dX7_findOdds_42 : decode cX7_findOdds 42 = .ok (.iconst 0, 1) := by decide +kernel
theorem dX7_findOdds_43 : decode cX7_findOdds 43 = .ok (.istore 4, 2) := by decide +kernel
theorem dX7_findOdds_45 : decode cX7_findOdds 45 = .ok (.iload 4, 2) := by decide +kernel
theorem dX7_findOdds_47 : decode cX7_findOdds 47 = .ok (.iconst 1, 1) := by decide +kernel
theorem dX7_findOdds_48 : decode cX7_findOdds 48 = .ok (.iload_n 3, 1) := by decide +kernel
theorem dX7_findOdds_49 : decode cX7_findOdds 49 = .ok (.ishl, 1) := by decide +kernel
theorem dX7_findOdds_50 : decode cX7_findOdds 50 = .ok (.if_icmp .ge 127, 3) := by decide +kernel
theorem dX7_findOdds_53 : decode cX7_findOdds 53 = .ok (.lconst 1, 1) := by decide +kernel
theorem dX7_findOdds_54 : decode cX7_findOdds 54 = .ok (.lstore 5, 2) := by decide +kernel
theorem dX7_findOdds_56 : decode cX7_findOdds 56 = .ok (.aload_n 0, 1) := by decide +kernel
theorem dX7_findOdds_57 : decode cX7_findOdds 57 = .ok (.invokevirtual 188, 3) := by decide +kernel
theorem dX7_findOdds_60 : decode cX7_findOdds 60 = .ok (.aload_n 0, 1) := by decide +kernel
theorem dX7_findOdds_61 : decode cX7_findOdds 61 = .ok (.iload_n 2, 1) := by decide +kernel
theorem dX7_findOdds_62 : decode cX7_findOdds 62 = .ok (.invokevirtual 212, 3) := by decide +kernel
theorem dX7_findOdds_65 : decode cX7_findOdds 65 = .ok (.istore 7, 2) := by decide +kernel
theorem dX7_findOdds_67 : decode cX7_findOdds 67 = .ok (.iconst 0, 1) := by decide +kernel
theorem dX7_findOdds_68 : decode cX7_findOdds 68 = .ok (.istore 8, 2) := by decide +kernel
theorem dX7_findOdds_70 : decode cX7_findOdds 70 = .ok (.iload 8, 2) := by decide +kernel
theorem dX7_findOdds_72 : decode cX7_findOdds 72 = .ok (.iload_n 3, 1) := by decide +kernel
theorem dX7_findOdds_73 : decode cX7_findOdds 73 = .ok (.if_icmp .ge 53, 3) := by decide +kernel
theorem dX7_findOdds_76 : decode cX7_findOdds 76 = .ok (.iload 4, 2) := by decide +kernel
theorem dX7_findOdds_78 : decode cX7_findOdds 78 = .ok (.iload 8, 2) := by decide +kernel
theorem dX7_findOdds_80 : decode cX7_findOdds 80 = .ok (.ishr, 1) := by decide +kernel
theorem dX7_findOdds_81 : decode cX7_findOdds 81 = .ok (.iconst 1, 1) := by decide +kernel
theorem dX7_findOdds_82 : decode cX7_findOdds 82 = .ok (.iand, 1) := by decide +kernel
theorem dX7_findOdds_83 : decode cX7_findOdds 83 = .ok (.iconst 1, 1) := by decide +kernel
theorem dX7_findOdds_84 : decode cX7_findOdds 84 = .ok (.if_icmp .ne 7, 3) := by decide +kernel
theorem dX7_findOdds_87 : decode cX7_findOdds 87 = .ok (.iconst 1, 1) := by decide +kernel
theorem dX7_findOdds_88 : decode cX7_findOdds 88 = .ok (.goto 4, 3) := by decide +kernel
theorem dX7_findOdds_91 : decode cX7_findOdds 91 = .ok (.iconst 0, 1) := by decide +kernel
theorem dX7_findOdds_92 : decode cX7_findOdds 92 = .ok (.istore 9, 2) := by decide +kernel
theorem dX7_findOdds_94 : decode cX7_findOdds 94 = .ok (.lload 5, 2) := by decide +kernel
theorem dX7_findOdds_96 : decode cX7_findOdds 96 = .ok (.iload 9, 2) := by decide +kernel
theorem dX7_findOdds_98 : decode cX7_findOdds 98 = .ok (.ifCond .eq 8, 3) := by decide +kernel
theorem dX7_findOdds_101 : decode cX7_findOdds 101 = .ok (.iload_n 1, 1) := by decide +kernel
theorem dX7_findOdds_102 : decode cX7_findOdds 102 = .ok (.i2l, 1) := by decide +kernel
theorem dX7_findOdds_103 : decode cX7_findOdds 103 = .ok (.goto 8, 3) := by decide +kernel
theorem dX7_findOdds_106 : decode cX7_findOdds 106 = .ok (.bipush 10, 2) := by decide +kernel
theorem dX7_findOdds_108 : decode cX7_findOdds 108 = .ok (.iload_n 1, 1) := by decide +kernel
theorem dX7_findOdds_109 : decode cX7_findOdds 109 = .ok (.isub, 1) := by decide +kernel
theorem dX7_findOdds_110 : decode cX7_findOdds 110 = .ok (.i2l, 1) := by decide +kernel
theorem dX7_findOdds_111 : decode cX7_findOdds 111 = .ok (.lmul, 1) := by decide +kernel
theorem dX7_findOdds_112 : decode cX7_findOdds 112 = .ok (.lstore 5, 2) := by decide +kernel
theorem dX7_findOdds_114 : decode cX7_findOdds 114 = .ok (.aload_n 0, 1) := by decide +kernel
theorem dX7_findOdds_115 : decode cX7_findOdds 115 = .ok (.iload 9, 2) := by decide +kernel
theorem dX7_findOdds_117 : decode cX7_findOdds 117 = .ok (.invokevirtual 178, 3) := by decide +kernel
theorem dX7_findOdds_120 : decode cX7_findOdds 120 = .ok (.iinc 8 1, 3) := by decide +kernel
theorem dX7_findOdds_123 : decode cX7_findOdds 123 = .ok (.goto (-53), 3) := by decide +kernel
theorem dX7_findOdds_126 : decode cX7_findOdds 126 = .ok (.aload_n 0, 1) := by decide +kernel
theorem dX7_findOdds_127 : decode cX7_findOdds 127 = .ok (.iload_n 2, 1) := by decide +kernel
theorem dX7_findOdds_128 : decode cX7_findOdds 128 = .ok (.invokevirtual 212, 3) := by decide +kernel
theorem dX7_findOdds_131 : decode cX7_findOdds 131 = .ok (.iload 7, 2) := by decide +kernel
theorem dX7_findOdds_133 : decode cX7_findOdds 133 = .ok (.isub, 1) := by decide +kernel
theorem dX7_findOdds_134 : decode cX7_findOdds 134 = .ok (.istore 8, 2) := by decide +kernel
theorem dX7_findOdds_136 : decode cX7_findOdds 136 = .ok (.aload_n 0, 1) := by decide +kernel
theorem dX7_findOdds_137 : decode cX7_findOdds 137 = .ok (.dup, 1) := by decide +kernel
theorem dX7_findOdds_138 : decode cX7_findOdds 138 = .ok (.getfield 258, 3) := by decide +kernel
theorem dX7_findOdds_141 : decode cX7_findOdds 141 = .ok (.iload 8, 2) := by decide +kernel
theorem dX7_findOdds_143 : decode cX7_findOdds 143 = .ok (.ifCond .le 8, 3) := by decide +kernel
theorem dX7_findOdds_146 : decode cX7_findOdds 146 = .ok (.lload 5, 2) := by decide +kernel
theorem dX7_findOdds_148 : decode cX7_findOdds 148 = .ok (.goto 4, 3) := by decide +kernel
theorem dX7_findOdds_151 : decode cX7_findOdds 151 = .ok (.lconst 0, 1) := by decide +kernel
theorem dX7_findOdds_152 : decode cX7_findOdds 152 = .ok (.ladd, 1) := by decide +kernel
theorem dX7_findOdds_153 : decode cX7_findOdds 153 = .ok (.putfield 258, 3) := by decide +kernel
theorem dX7_findOdds_156 : decode cX7_findOdds 156 = .ok (.aload_n 0, 1) := by decide +kernel
theorem dX7_findOdds_157 : decode cX7_findOdds 157 = .ok (.dup, 1) := by decide +kernel
theorem dX7_findOdds_158 : decode cX7_findOdds 158 = .ok (.getfield 262, 3) := by decide +kernel
theorem dX7_findOdds_161 : decode cX7_findOdds 161 = .ok (.lload 5, 2) := by decide +kernel
theorem dX7_findOdds_163 : decode cX7_findOdds 163 = .ok (.iload 8, 2) := by decide +kernel
theorem dX7_findOdds_165 : decode cX7_findOdds 165 = .ok (.i2l, 1) := by decide +kernel
theorem dX7_findOdds_166 : decode cX7_findOdds 166 = .ok (.lmul, 1) := by decide +kernel
theorem dX7_findOdds_167 : decode cX7_findOdds 167 = .ok (.ladd, 1) := by decide +kernel
theorem dX7_findOdds_168 : decode cX7_findOdds 168 = .ok (.putfield 262, 3) := by decide +kernel
theorem dX7_findOdds_171 : decode cX7_findOdds 171 = .ok (.iinc 4 1, 3) := by decide +kernel
theorem dX7_findOdds_174 : decode cX7_findOdds 174 = .ok (.goto (-129), 3) := by decide +kernel
theorem dX7_findOdds_177 : decode cX7_findOdds 177 = .ok (.return_, 1) := by decide +kernel
def f_X7_findOdds_J152 (v1 : Int32) (v2 : Int32) (v3 : Int32) (v4 : Int32) (v5 : Int64) (v8 : Int32) (k0 : Int64) (k1 : Int64) (s : St) : Option ((Int32 × St) ⊕ (Unit × St)) := bd (wJ s 189 19 (k1 + k0)) (fun s17 => bd (wJ s17 189 20 ((s17.2 189 20) + (v5 * (v8).toInt64))) (fun s18 => some (Sum.inl ((v4 + (nI 1)), s18))))
def f_X7_findOdds_J111 (v1 : Int32) (v2 : Int32) (v3 : Int32) (v4 : Int32) (v7 : Int32) (v8 : Int32) (v9 : Int32) (k0 : Int64) (k1 : Int64) (s : St) : Option ((Int64 × Int32 × St) ⊕ ((Int32 × St) ⊕ (Unit × St))) := bd (k1 * k0) (fun x20 => cl (f_X7_stepGoes v9 s) (fun x22 s21 => some (Sum.inl (x20, (v8 + (nI 1)), s21))))
def f_X7_findOdds_J92 (v1 : Int32) (v2 : Int32) (v3 : Int32) (v4 : Int32) (v5 : Int64) (v7 : Int32) (v8 : Int32) (k0 : Int32) (s : St) : Option ((Int64 × Int32 × St) ⊕ ((Int32 × St) ⊕ (Unit × St))) := if k0 = 0 then (f_X7_findOdds_J111 v1 v2 v3 v4 v7 v8 k0 ((((nI 10) - v1)).toInt64) v5 s) else (f_X7_findOdds_J111 v1 v2 v3 v4 v7 v8 k0 ((v1).toInt64) v5 s)
def f_X7_findOdds_L70 (v1 : Int32) (v2 : Int32) (v3 : Int32) (v4 : Int32) (v7 : Int32) (v5 : Int64) (v8 : Int32) (s : St) : Option ((Int64 × Int32 × St) ⊕ ((Int32 × St) ⊕ (Unit × St))) := if v3 ≤ v8 then (cl (f_X7_hadBy v2 s) (fun x13 s12 => bd (x13 - v7) (fun x14 => if x14 ≤ 0 then (ox (f_X7_findOdds_J152 v1 v2 v3 v4 v5 x14 (lN 0) (s12.2 189 19) s12)) else (ox (f_X7_findOdds_J152 v1 v2 v3 v4 v5 x14 v5 (s12.2 189 19) s12))))) else (if ¬ ((v4 >>> (v8 &&& 31)) &&& (nI 1)) = (nI 1) then (f_X7_findOdds_J92 v1 v2 v3 v4 v5 v7 v8 (nI 0) s) else (f_X7_findOdds_J92 v1 v2 v3 v4 v5 v7 v8 (nI 1) s))
def f_X7_findOdds_L45 (v1 : Int32) (v2 : Int32) (v3 : Int32) (v4 : Int32) (s : St) : Option ((Int32 × St) ⊕ (Unit × St)) := if ((nI 1) <<< (v3 &&& 31)) ≤ v4 then (some (Sum.inr (((), s)))) else (cl (f_X7_starts s) (fun x8 s7 => cl (f_X7_hadBy v2 s7) (fun x10 s9 => lp (fun q : Int64 × Int32 × St => f_X7_findOdds_L70 v1 v2 v3 v4 x10 q.1 q.2.1 q.2.2) Fu ((lN 1), (nI 0), s9))))
def f_X7_findOdds_L18 (v1 : Int32) (v2 : Int32) (v3 : Int32) (v4 : Int32) (s : St) : Option ((Int32 × St) ⊕ (Unit × St)) := if v3 ≤ v4 then (ox (lp (fun q : Int32 × St => f_X7_findOdds_L45 v1 v2 v3 q.1 q.2) Fu ((nI 0), s))) else (bd (wJ s 189 21 ((s.2 189 21) * (lN 10))) (fun s5 => some (Sum.inl ((v4 + (nI 1)), s5))))
def f_X7_findOdds (a1 : Int32) (a2 : Int32) (a3 : Int32) (s : St) : Option (Unit × St) := bd (wJ s 189 19 (lN 0)) (fun s1 => bd (wJ s1 189 20 (lN 0)) (fun s2 => bd (wJ s2 189 21 (lN 1)) (fun s3 => lp (fun q : Int32 × St => f_X7_findOdds_L18 a1 a2 a3 q.1 q.2) Fu ((nI 0), s3))))
set_option maxHeartbeats 4000000 in
set_option maxRecDepth 100000 in
theorem e_X7_findOdds_J152 {X : Cx} {Γ : Gm} {r0 : Rb} (hX : Amb X Γ cX7_findOdds RX7 10 none 4) {v1 : Int32} {v2 : Int32} {v3 : Int32} {v4 : Int32} {v5 : Int64} {v8 : Int32} {k0 : Int64} {k1 : Int64} {s : St} {t : (Int32 × St) ⊕ (Unit × St)} (h : f_X7_findOdds_J152 v1 v2 v3 v4 v5 v8 k0 k1 s = some t) (hk : (Sum.elim (fun q : Int32 × St => Zw X Γ 10 r0 q.2 45 [(0, .ref (gL Γ (189))), (1, .int v1), (2, .int v2), (3, .int v3), (4, .int q.1)] []) (fun t : Unit × St => Rt X Γ r0 (none, t.2))) t) : Zw X Γ 10 r0 s 152 [(0, .ref (gL Γ (189))), (1, .int v1), (2, .int v2), (3, .int v3), (4, .int v4), (5, .long v5), (8, .int v8)] [.long k0, .long k1, .ref (gL Γ (189))] := by
  unfold f_X7_findOdds_J152 at h
  refine z_ladd hX dX7_findOdds_152 153 rfl ?_
  replace h := bd_elim h
  obtain ⟨s17, es17, h⟩ := h
  refine z_putJ7 hX (k := 189) (j := 19) kdc_189 (by decide) rfl (by decide +kernel) (pwJ_7_19 ..) dX7_findOdds_153 fl_X7_258 es17 156 rfl ?_
  refine z_aload_n hX dX7_findOdds_156 0 rfl 157 rfl ?_
  refine z_dup hX dX7_findOdds_157 rfl 158 rfl ?_
  refine z_get7 hX (k := 189) (j := 20) (v := .long ((s17.2 189 20))) kdc_189 (by decide) rfl dX7_findOdds_158 fl_X7_262 161 rfl ?_
  refine z_lload hX dX7_findOdds_161 5 rfl 163 rfl ?_
  refine z_iload hX dX7_findOdds_163 6 rfl 165 rfl ?_
  refine z_i2l hX dX7_findOdds_165 166 rfl ?_
  refine z_lmul hX dX7_findOdds_166 167 rfl ?_
  refine z_ladd hX dX7_findOdds_167 168 rfl ?_
  replace h := bd_elim h
  obtain ⟨s18, es18, h⟩ := h
  refine z_putJ7 hX (k := 189) (j := 20) kdc_189 (by decide) rfl (by decide +kernel) (pwJ_7_20 ..) dX7_findOdds_168 fl_X7_262 es18 171 rfl ?_
  refine z_iinc hX (v := (v4 + (nI 1))) (lv2 := [(4, .int ((v4 + (nI 1)))), (0, .ref (gL Γ (189))), (1, .int v1), (2, .int v2), (3, .int v3), (5, .long v5), (8, .int v8)]) dX7_findOdds_171 4 rfl rfl (by decide) rfl 174 rfl ?_
  refine z_goto hX 45 dX7_findOdds_174 (by decide) ?_
  replace h := Option.some.inj h
  subst h
  exact z_sub [1, 2, 3, 4, 0] rfl hk
set_option maxHeartbeats 4000000 in
set_option maxRecDepth 100000 in
theorem e_X7_findOdds_J111 {X : Cx} {Γ : Gm} {r0 : Rb} (hX : Amb X Γ cX7_findOdds RX7 10 none 4) {v1 : Int32} {v2 : Int32} {v3 : Int32} {v4 : Int32} {v7 : Int32} {v8 : Int32} {v9 : Int32} {k0 : Int64} {k1 : Int64} {s : St} {t : (Int64 × Int32 × St) ⊕ ((Int32 × St) ⊕ (Unit × St))} (h : f_X7_findOdds_J111 v1 v2 v3 v4 v7 v8 v9 k0 k1 s = some t) (hk : (Sum.elim (fun q : Int64 × Int32 × St => Zw X Γ 10 r0 q.2.2 70 [(0, .ref (gL Γ (189))), (1, .int v1), (2, .int v2), (3, .int v3), (4, .int v4), (5, .long q.1), (7, .int v7), (8, .int q.2.1)] []) (Sum.elim (fun q : Int32 × St => Zw X Γ 10 r0 q.2 45 [(0, .ref (gL Γ (189))), (1, .int v1), (2, .int v2), (3, .int v3), (4, .int q.1)] []) (fun t : Unit × St => Rt X Γ r0 (none, t.2)))) t) : Zw X Γ 10 r0 s 111 [(0, .ref (gL Γ (189))), (1, .int v1), (2, .int v2), (3, .int v3), (4, .int v4), (7, .int v7), (8, .int v8), (9, .int v9)] [.long k0, .long k1] := by
  unfold f_X7_findOdds_J111 at h
  refine z_lmul hX dX7_findOdds_111 112 rfl ?_
  replace h := bd_elim h
  obtain ⟨x20, ex20, h⟩ := h
  refine z_nmL ex20 ?_
  refine z_lstore hX (lv2 := [(5, .long x20), (0, .ref (gL Γ (189))), (1, .int v1), (2, .int v2), (3, .int v3), (4, .int v4), (7, .int v7), (8, .int v8), (9, .int v9)]) dX7_findOdds_112 (by decide) rfl 114 rfl ?_
  refine z_aload_n hX dX7_findOdds_114 1 rfl 115 rfl ?_
  refine z_iload hX dX7_findOdds_115 8 rfl 117 rfl ?_
  replace h := cl_elim h
  obtain ⟨x22, s21, hx22, h⟩ := h
  refine z_cV7v hX (b := 189) (As := [.int v9]) (c_X7_stepGoes hx22) lk_X7_178 rfl kdc_189 ds_X7_stepGoes rfl (by decide) (by decide) (by decide) dX7_findOdds_117 rfl 120 rfl ?_
  refine z_iinc hX (v := (v8 + (nI 1))) (lv2 := [(8, .int ((v8 + (nI 1)))), (5, .long x20), (0, .ref (gL Γ (189))), (1, .int v1), (2, .int v2), (3, .int v3), (4, .int v4), (7, .int v7), (9, .int v9)]) dX7_findOdds_120 7 rfl rfl (by decide) rfl 123 rfl ?_
  refine z_goto hX 70 dX7_findOdds_123 (by decide) ?_
  replace h := Option.some.inj h
  subst h
  exact z_sub [2, 3, 4, 5, 6, 1, 7, 0] rfl hk
set_option maxHeartbeats 4000000 in
set_option maxRecDepth 100000 in
theorem e_X7_findOdds_J92 {X : Cx} {Γ : Gm} {r0 : Rb} (hX : Amb X Γ cX7_findOdds RX7 10 none 4) {v1 : Int32} {v2 : Int32} {v3 : Int32} {v4 : Int32} {v5 : Int64} {v7 : Int32} {v8 : Int32} {k0 : Int32} {s : St} {t : (Int64 × Int32 × St) ⊕ ((Int32 × St) ⊕ (Unit × St))} (h : f_X7_findOdds_J92 v1 v2 v3 v4 v5 v7 v8 k0 s = some t) (hk : (Sum.elim (fun q : Int64 × Int32 × St => Zw X Γ 10 r0 q.2.2 70 [(0, .ref (gL Γ (189))), (1, .int v1), (2, .int v2), (3, .int v3), (4, .int v4), (5, .long q.1), (7, .int v7), (8, .int q.2.1)] []) (Sum.elim (fun q : Int32 × St => Zw X Γ 10 r0 q.2 45 [(0, .ref (gL Γ (189))), (1, .int v1), (2, .int v2), (3, .int v3), (4, .int q.1)] []) (fun t : Unit × St => Rt X Γ r0 (none, t.2)))) t) : Zw X Γ 10 r0 s 92 [(0, .ref (gL Γ (189))), (1, .int v1), (2, .int v2), (3, .int v3), (4, .int v4), (5, .long v5), (7, .int v7), (8, .int v8)] [.int k0] := by
  unfold f_X7_findOdds_J92 at h
  refine z_istore hX (lv2 := [(9, .int k0), (0, .ref (gL Γ (189))), (1, .int v1), (2, .int v2), (3, .int v3), (4, .int v4), (5, .long v5), (7, .int v7), (8, .int v8)]) dX7_findOdds_92 (by decide) rfl 94 rfl ?_
  refine z_lload hX dX7_findOdds_94 6 rfl 96 rfl ?_
  refine z_iload hX dX7_findOdds_96 0 rfl 98 rfl ?_
  refine z_if_eq hX 106 dX7_findOdds_98 (by decide) 101 rfl (fun c19 => ?_) (fun c19 => ?_)
  · replace h := br_pos h c19
    refine z_bipush hX (v := (nI 10)) dX7_findOdds_106 (by decide) 108 rfl ?_
    refine z_iload_n hX dX7_findOdds_108 2 rfl 109 rfl ?_
    refine z_isub hX dX7_findOdds_109 110 rfl ?_
    refine z_i2l hX dX7_findOdds_110 111 rfl ?_
    exact z_sub [1, 2, 3, 4, 5, 7, 8, 0] rfl (e_X7_findOdds_J111 hX h hk)
  · replace h := br_neg h c19
    refine z_iload_n hX dX7_findOdds_101 2 rfl 102 rfl ?_
    refine z_i2l hX dX7_findOdds_102 103 rfl ?_
    refine z_goto hX 111 dX7_findOdds_103 (by decide) ?_
    exact z_sub [1, 2, 3, 4, 5, 7, 8, 0] rfl (e_X7_findOdds_J111 hX h hk)
set_option maxHeartbeats 4000000 in
set_option maxRecDepth 100000 in
theorem e_X7_findOdds_L70 {X : Cx} {Γ : Gm} {r0 : Rb} (hX : Amb X Γ cX7_findOdds RX7 10 none 4) {v1 : Int32} {v2 : Int32} {v3 : Int32} {v4 : Int32} {v7 : Int32} {v5 : Int64} {v8 : Int32} {s : St} {t : (Int64 × Int32 × St) ⊕ ((Int32 × St) ⊕ (Unit × St))} (h : f_X7_findOdds_L70 v1 v2 v3 v4 v7 v5 v8 s = some t) (hk : (Sum.elim (fun q : Int64 × Int32 × St => Zw X Γ 10 r0 q.2.2 70 [(0, .ref (gL Γ (189))), (1, .int v1), (2, .int v2), (3, .int v3), (4, .int v4), (5, .long q.1), (7, .int v7), (8, .int q.2.1)] []) (Sum.elim (fun q : Int32 × St => Zw X Γ 10 r0 q.2 45 [(0, .ref (gL Γ (189))), (1, .int v1), (2, .int v2), (3, .int v3), (4, .int q.1)] []) (fun t : Unit × St => Rt X Γ r0 (none, t.2)))) t) : Zw X Γ 10 r0 s 70 [(0, .ref (gL Γ (189))), (1, .int v1), (2, .int v2), (3, .int v3), (4, .int v4), (5, .long v5), (7, .int v7), (8, .int v8)] [] := by
  unfold f_X7_findOdds_L70 at h
  refine z_iload hX dX7_findOdds_70 7 rfl 72 rfl ?_
  refine z_iload_n hX dX7_findOdds_72 3 rfl 73 rfl ?_
  refine z_icmp_ge hX 126 dX7_findOdds_73 (by decide) 76 rfl (fun c11 => ?_) (fun c11 => ?_)
  · replace h := br_pos h c11
    refine z_aload_n hX dX7_findOdds_126 0 rfl 127 rfl ?_
    refine z_iload_n hX dX7_findOdds_127 2 rfl 128 rfl ?_
    replace h := cl_elim h
    obtain ⟨x13, s12, hx13, h⟩ := h
    refine z_cV7i hX (b := 189) (As := [.int v2]) (c_X7_hadBy hx13) lk_X7_212 rfl kdc_189 ds_X7_hadBy rfl (by decide) (by decide) (by decide) dX7_findOdds_128 rfl 131 rfl ?_
    refine z_iload hX dX7_findOdds_131 6 rfl 133 rfl ?_
    refine z_isub hX dX7_findOdds_133 134 rfl ?_
    replace h := bd_elim h
    obtain ⟨x14, ex14, h⟩ := h
    refine z_nm ex14 ?_
    refine z_istore hX (lv2 := [(8, .int x14), (0, .ref (gL Γ (189))), (1, .int v1), (2, .int v2), (3, .int v3), (4, .int v4), (5, .long v5), (7, .int v7)]) dX7_findOdds_134 (by decide) rfl 136 rfl ?_
    refine z_aload_n hX dX7_findOdds_136 1 rfl 137 rfl ?_
    refine z_dup hX dX7_findOdds_137 rfl 138 rfl ?_
    refine z_get7 hX (k := 189) (j := 19) (v := .long ((s12.2 189 19))) kdc_189 (by decide) rfl dX7_findOdds_138 fl_X7_258 141 rfl ?_
    refine z_iload hX dX7_findOdds_141 0 rfl 143 rfl ?_
    refine z_if_le hX 151 dX7_findOdds_143 (by decide) 146 rfl (fun c15 => ?_) (fun c15 => ?_)
    · replace h := br_pos h c15
      refine z_lconst hX (v := (lN 0)) dX7_findOdds_151 rfl 152 rfl ?_
      replace h := ox_elim h
      obtain ⟨u, rfl, h⟩ := h
      exact z_sub [1, 2, 3, 4, 5, 6, 0] rfl (e_X7_findOdds_J152 hX h hk)
    · replace h := br_neg h c15
      refine z_lload hX dX7_findOdds_146 6 rfl 148 rfl ?_
      refine z_goto hX 152 dX7_findOdds_148 (by decide) ?_
      replace h := ox_elim h
      obtain ⟨u, rfl, h⟩ := h
      exact z_sub [1, 2, 3, 4, 5, 6, 0] rfl (e_X7_findOdds_J152 hX h hk)
  · replace h := br_neg h c11
    refine z_iload hX dX7_findOdds_76 4 rfl 78 rfl ?_
    refine z_iload hX dX7_findOdds_78 7 rfl 80 rfl ?_
    refine z_ishr hX dX7_findOdds_80 81 rfl ?_
    refine z_iconst hX (v := (nI 1)) dX7_findOdds_81 rfl 82 rfl ?_
    refine z_iand hX dX7_findOdds_82 83 rfl ?_
    refine z_iconst hX (v := (nI 1)) dX7_findOdds_83 rfl 84 rfl ?_
    refine z_icmp_ne hX 91 dX7_findOdds_84 (by decide) 87 rfl (fun c16 => ?_) (fun c16 => ?_)
    · replace h := br_pos h c16
      refine z_iconst hX (v := (nI 0)) dX7_findOdds_91 rfl 92 rfl ?_
      exact z_sub [0, 1, 2, 3, 4, 5, 6, 7] rfl (e_X7_findOdds_J92 hX h hk)
    · replace h := br_neg h c16
      refine z_iconst hX (v := (nI 1)) dX7_findOdds_87 rfl 88 rfl ?_
      refine z_goto hX 92 dX7_findOdds_88 (by decide) ?_
      exact z_sub [0, 1, 2, 3, 4, 5, 6, 7] rfl (e_X7_findOdds_J92 hX h hk)
set_option maxHeartbeats 4000000 in
set_option maxRecDepth 100000 in
theorem e_X7_findOdds_L45 {X : Cx} {Γ : Gm} {r0 : Rb} (hX : Amb X Γ cX7_findOdds RX7 10 none 4) {v1 : Int32} {v2 : Int32} {v3 : Int32} {v4 : Int32} {s : St} {t : (Int32 × St) ⊕ (Unit × St)} (h : f_X7_findOdds_L45 v1 v2 v3 v4 s = some t) (hk : (Sum.elim (fun q : Int32 × St => Zw X Γ 10 r0 q.2 45 [(0, .ref (gL Γ (189))), (1, .int v1), (2, .int v2), (3, .int v3), (4, .int q.1)] []) (fun t : Unit × St => Rt X Γ r0 (none, t.2))) t) : Zw X Γ 10 r0 s 45 [(0, .ref (gL Γ (189))), (1, .int v1), (2, .int v2), (3, .int v3), (4, .int v4)] [] := by
  unfold f_X7_findOdds_L45 at h
  refine z_iload hX dX7_findOdds_45 4 rfl 47 rfl ?_
  refine z_iconst hX (v := (nI 1)) dX7_findOdds_47 rfl 48 rfl ?_
  refine z_iload_n hX dX7_findOdds_48 3 rfl 49 rfl ?_
  refine z_ishl hX dX7_findOdds_49 50 rfl ?_
  refine z_icmp_ge hX 177 dX7_findOdds_50 (by decide) 53 rfl (fun c6 => ?_) (fun c6 => ?_)
  · replace h := br_pos h c6
    replace h := Option.some.inj h
    subst h
    exact z_vret hX dX7_findOdds_177 rfl hk
  · replace h := br_neg h c6
    refine z_lconst hX (v := (lN 1)) dX7_findOdds_53 rfl 54 rfl ?_
    refine z_lstore hX (lv2 := [(5, .long ((lN 1))), (0, .ref (gL Γ (189))), (1, .int v1), (2, .int v2), (3, .int v3), (4, .int v4)]) dX7_findOdds_54 (by decide) rfl 56 rfl ?_
    refine z_aload_n hX dX7_findOdds_56 1 rfl 57 rfl ?_
    replace h := cl_elim h
    obtain ⟨x8, s7, hx8, h⟩ := h
    refine z_cV7v hX (b := 189) (As := []) (c_X7_starts hx8) lk_X7_188 rfl kdc_189 ds_X7_starts rfl (by decide) (by decide) (by decide) dX7_findOdds_57 rfl 60 rfl ?_
    refine z_aload_n hX dX7_findOdds_60 1 rfl 61 rfl ?_
    refine z_iload_n hX dX7_findOdds_61 3 rfl 62 rfl ?_
    replace h := cl_elim h
    obtain ⟨x10, s9, hx10, h⟩ := h
    refine z_cV7i hX (b := 189) (As := [.int v2]) (c_X7_hadBy hx10) lk_X7_212 rfl kdc_189 ds_X7_hadBy rfl (by decide) (by decide) (by decide) dX7_findOdds_62 rfl 65 rfl ?_
    refine z_istore hX (lv2 := [(7, .int x10), (5, .long ((lN 1))), (0, .ref (gL Γ (189))), (1, .int v1), (2, .int v2), (3, .int v3), (4, .int v4)]) dX7_findOdds_65 (by decide) rfl 67 rfl ?_
    refine z_iconst hX (v := (nI 0)) dX7_findOdds_67 rfl 68 rfl ?_
    refine z_istore hX (lv2 := [(8, .int ((nI 0))), (7, .int x10), (5, .long ((lN 1))), (0, .ref (gL Γ (189))), (1, .int v1), (2, .int v2), (3, .int v3), (4, .int v4)]) dX7_findOdds_68 (by decide) rfl 70 rfl ?_
    exact z_sub [3, 4, 5, 6, 7, 2, 1, 0] rfl (lp_ok (Z := fun q : Int64 × Int32 × St => Zw X Γ 10 r0 q.2.2 70 [(0, .ref (gL Γ (189))), (1, .int v1), (2, .int v2), (3, .int v3), (4, .int v4), (5, .long q.1), (7, .int x10), (8, .int q.2.1)] []) (fun q t h hk => e_X7_findOdds_L70 hX h hk) Fu _ _ h hk)
set_option maxHeartbeats 4000000 in
set_option maxRecDepth 100000 in
theorem e_X7_findOdds_L18 {X : Cx} {Γ : Gm} {r0 : Rb} (hX : Amb X Γ cX7_findOdds RX7 10 none 4) {v1 : Int32} {v2 : Int32} {v3 : Int32} {v4 : Int32} {s : St} {t : (Int32 × St) ⊕ (Unit × St)} (h : f_X7_findOdds_L18 v1 v2 v3 v4 s = some t) (hk : (Sum.elim (fun q : Int32 × St => Zw X Γ 10 r0 q.2 18 [(0, .ref (gL Γ (189))), (1, .int v1), (2, .int v2), (3, .int v3), (4, .int q.1)] []) (fun t : Unit × St => Rt X Γ r0 (none, t.2))) t) : Zw X Γ 10 r0 s 18 [(0, .ref (gL Γ (189))), (1, .int v1), (2, .int v2), (3, .int v3), (4, .int v4)] [] := by
  unfold f_X7_findOdds_L18 at h
  refine z_iload hX dX7_findOdds_18 4 rfl 20 rfl ?_
  refine z_iload_n hX dX7_findOdds_20 3 rfl 21 rfl ?_
  refine z_icmp_ge hX 42 dX7_findOdds_21 (by decide) 24 rfl (fun c4 => ?_) (fun c4 => ?_)
  · replace h := br_pos h c4
    refine z_iconst hX (v := (nI 0)) dX7_findOdds_42 rfl 43 rfl ?_
    refine z_istore hX (lv2 := [(4, .int ((nI 0))), (0, .ref (gL Γ (189))), (1, .int v1), (2, .int v2), (3, .int v3)]) dX7_findOdds_43 (by decide) rfl 45 rfl ?_
    replace h := ox_elim h
    obtain ⟨u, rfl, h⟩ := h
    exact z_sub [1, 2, 3, 4, 0] rfl (lp_ok (Z := fun q : Int32 × St => Zw X Γ 10 r0 q.2 45 [(0, .ref (gL Γ (189))), (1, .int v1), (2, .int v2), (3, .int v3), (4, .int q.1)] []) (fun q t h hk => e_X7_findOdds_L45 hX h hk) Fu _ _ h hk)
  · replace h := br_neg h c4
    refine z_aload_n hX dX7_findOdds_24 0 rfl 25 rfl ?_
    refine z_dup hX dX7_findOdds_25 rfl 26 rfl ?_
    refine z_get7 hX (k := 189) (j := 21) (v := .long ((s.2 189 21))) kdc_189 (by decide) rfl dX7_findOdds_26 fl_X7_265 29 rfl ?_
    refine z_ldc2 hX (v := (lN 10)) dX7_findOdds_29 ml_X7_268 32 rfl ?_
    refine z_lmul hX dX7_findOdds_32 33 rfl ?_
    replace h := bd_elim h
    obtain ⟨s5, es5, h⟩ := h
    refine z_putJ7 hX (k := 189) (j := 21) kdc_189 (by decide) rfl (by decide +kernel) (pwJ_7_21 ..) dX7_findOdds_33 fl_X7_265 es5 36 rfl ?_
    refine z_iinc hX (v := (v4 + (nI 1))) (lv2 := [(4, .int ((v4 + (nI 1)))), (0, .ref (gL Γ (189))), (1, .int v1), (2, .int v2), (3, .int v3)]) dX7_findOdds_36 4 rfl rfl (by decide) rfl 39 rfl ?_
    refine z_goto hX 18 dX7_findOdds_39 (by decide) ?_
    replace h := Option.some.inj h
    subst h
    exact z_sub [1, 2, 3, 4, 0] rfl hk
set_option maxHeartbeats 4000000 in
set_option maxRecDepth 100000 in
theorem e_X7_findOdds {X : Cx} {Γ : Gm} {r0 : Rb} (hX : Amb X Γ cX7_findOdds RX7 10 none 4) {a1 : Int32} {a2 : Int32} {a3 : Int32} {s : St} {t : Unit × St} (h : f_X7_findOdds a1 a2 a3 s = some t) (hk : (fun t : Unit × St => Rt X Γ r0 (none, t.2)) t) : Zw X Γ 10 r0 s 0 [(0, .ref (gL Γ (189))), (1, .int a1), (2, .int a2), (3, .int a3)] [] := by
  unfold f_X7_findOdds at h
  refine z_aload_n hX dX7_findOdds_0 0 rfl 1 rfl ?_
  refine z_lconst hX (v := (lN 0)) dX7_findOdds_1 rfl 2 rfl ?_
  replace h := bd_elim h
  obtain ⟨s1, es1, h⟩ := h
  refine z_putJ7 hX (k := 189) (j := 19) kdc_189 (by decide) rfl (by decide +kernel) (pwJ_7_19 ..) dX7_findOdds_2 fl_X7_258 es1 5 rfl ?_
  refine z_aload_n hX dX7_findOdds_5 0 rfl 6 rfl ?_
  refine z_lconst hX (v := (lN 0)) dX7_findOdds_6 rfl 7 rfl ?_
  replace h := bd_elim h
  obtain ⟨s2, es2, h⟩ := h
  refine z_putJ7 hX (k := 189) (j := 20) kdc_189 (by decide) rfl (by decide +kernel) (pwJ_7_20 ..) dX7_findOdds_7 fl_X7_262 es2 10 rfl ?_
  refine z_aload_n hX dX7_findOdds_10 0 rfl 11 rfl ?_
  refine z_lconst hX (v := (lN 1)) dX7_findOdds_11 rfl 12 rfl ?_
  replace h := bd_elim h
  obtain ⟨s3, es3, h⟩ := h
  refine z_putJ7 hX (k := 189) (j := 21) kdc_189 (by decide) rfl (by decide +kernel) (pwJ_7_21 ..) dX7_findOdds_12 fl_X7_265 es3 15 rfl ?_
  refine z_iconst hX (v := (nI 0)) dX7_findOdds_15 rfl 16 rfl ?_
  refine z_istore hX (lv2 := [(4, .int ((nI 0))), (0, .ref (gL Γ (189))), (1, .int a1), (2, .int a2), (3, .int a3)]) dX7_findOdds_16 (by decide) rfl 18 rfl ?_
  exact z_sub [1, 2, 3, 4, 0] rfl (lp_ok (Z := fun q : Int32 × St => Zw X Γ 10 r0 q.2 18 [(0, .ref (gL Γ (189))), (1, .int a1), (2, .int a2), (3, .int a3), (4, .int q.1)] []) (fun q t h hk => e_X7_findOdds_L18 hX h hk) Fu _ _ h hk)
theorem c_X7_findOdds {lc : Launch} {Γ : Gm} {a1 : Int32} {a2 : Int32} {a3 : Int32} {s s2 : St} {v : Unit} (h : f_X7_findOdds a1 a2 a3 s = some (v, s2)) : Ct lc Γ yX7_findOdds cX7_findOdds 10 none 4 [.ref (gL Γ (189)), .int a1, .int a2, .int a3] s (none, s2) := Ct.of (by decide +kernel) (Nat.le_of_ble_eq_true rfl) (fun X hl hX => e_X7_findOdds hX h rfl)
theorem dX7_isOdds_0 : decode cX7_isOdds 0 = .ok (.iload_n 1, 1) := by decide +kernel
theorem dX7_isOdds_1 : decode cX7_isOdds 1 = .ok (.i2l, 1) := by decide +kernel
theorem dX7_isOdds_2 : decode cX7_isOdds 2 = .ok (.lconst 0, 1) := by decide +kernel
theorem dX7_isOdds_3 : decode cX7_isOdds 3 = .ok (.ldc2_w 268, 3) := by decide +kernel
theorem dX7_isOdds_6 : decode cX7_isOdds 6 = .ok (.invokestatic 52, 3) := by decide +kernel
theorem dX7_isOdds_9 : decode cX7_isOdds 9 = .ok (.ifCond .eq 35, 3) := by decide +kernel
theorem dX7_isOdds_12 : decode cX7_isOdds 12 = .ok (.aload_n 0, 1) := by decide +kernel
theorem dX7_isOdds_13 : decode cX7_isOdds 13 = .ok (.iload_n 2, 1) := by decide +kernel
theorem dX7_isOdds_14 : decode cX7_isOdds 14 = .ok (.invokevirtual 209, 3) := by decide +kernel
theorem dX7_isOdds_17 : decode cX7_isOdds 17 = .ok (.ifCond .eq 27, 3) := by decide +kernel
theorem dX7_isOdds_20 : decode cX7_isOdds 20 = .ok (.iload_n 3, 1) := by decide +kernel
theorem dX7_isOdds_21 : decode cX7_isOdds 21 = .ok (.i2l, 1) := by decide +kernel
theorem dX7_isOdds_22 : decode cX7_isOdds 22 = .ok (.lconst 0, 1) := by decide +kernel
theorem dX7_isOdds_23 : decode cX7_isOdds 23 = .ok (.ldc2_w 270, 3) := by decide +kernel
theorem dX7_isOdds_26 : decode cX7_isOdds 26 = .ok (.invokestatic 52, 3) := by decide +kernel
theorem dX7_isOdds_29 : decode cX7_isOdds 29 = .ok (.ifCond .eq 15, 3) := by decide +kernel
theorem dX7_isOdds_32 : decode cX7_isOdds 32 = .ok (.iload 4, 2) := by decide +kernel
theorem dX7_isOdds_34 : decode cX7_isOdds 34 = .ok (.invokestatic 251, 3) := by decide +kernel
theorem dX7_isOdds_37 : decode cX7_isOdds 37 = .ok (.ifCond .eq 7, 3) := by decide +kernel
theorem dX7_isOdds_40 : decode cX7_isOdds 40 = .ok (.iconst 1, 1) := by decide +kernel
theorem dX7_isOdds_41 : decode cX7_isOdds 41 = .ok (.goto 4, 3) := by decide +kernel
theorem dX7_isOdds_44 : decode cX7_isOdds 44 = .ok (.iconst 0, 1) := by decide +kernel
theorem dX7_isOdds_45 : decode cX7_isOdds 45 = .ok (.ireturn, 1) := by decide +kernel
def f_X7_isOdds (a1 : Int32) (a2 : Int32) (a3 : Int32) (a4 : Int32) (s : St) : Option (Int32 × St) := cl (f_X7_within ((a1).toInt64) (lN 0) (lN 10) s) (fun x2 s1 => if x2 = 0 then (some (((nI 0), s1))) else (cl (f_X7_isSitter a2 s1) (fun x5 s4 => if x5 = 0 then (some (((nI 0), s4))) else (cl (f_X7_within ((a3).toInt64) (lN 0) (lN 8) s4) (fun x8 s7 => if x8 = 0 then (some (((nI 0), s7))) else (cl (f_X7_isPart a4 s7) (fun x11 s10 => if x11 = 0 then (some (((nI 0), s10))) else (some (((nI 1), s10))))))))))
set_option maxHeartbeats 4000000 in
set_option maxRecDepth 100000 in
theorem e_X7_isOdds {X : Cx} {Γ : Gm} {r0 : Rb} (hX : Amb X Γ cX7_isOdds RX7 5 (some .boolean) 2) {a1 : Int32} {a2 : Int32} {a3 : Int32} {a4 : Int32} {s : St} {t : Int32 × St} (h : f_X7_isOdds a1 a2 a3 a4 s = some t) (hk : (fun t : Int32 × St => Rt X Γ r0 (some (Value.int t.1), t.2)) t) : Zw X Γ 5 r0 s 0 [(0, .ref (gL Γ (189))), (1, .int a1), (2, .int a2), (3, .int a3), (4, .int a4)] [] := by
  unfold f_X7_isOdds at h
  refine z_iload_n hX dX7_isOdds_0 1 rfl 1 rfl ?_
  refine z_i2l hX dX7_isOdds_1 2 rfl ?_
  refine z_lconst hX (v := (lN 0)) dX7_isOdds_2 rfl 3 rfl ?_
  refine z_ldc2 hX (v := (lN 10)) dX7_isOdds_3 ml_X7_268 6 rfl ?_
  replace h := cl_elim h
  obtain ⟨x2, s1, hx2, h⟩ := h
  refine z_cSi hX (As := [.long ((a1).toInt64), .long ((lN 0)), .long ((lN 10))]) (c_X7_within hx2) lk_X7_52 ds_X7_within rfl (by decide) (by decide) (by decide) dX7_isOdds_6 rfl 9 rfl ?_
  refine z_if_eq hX 44 dX7_isOdds_9 (by decide) 12 rfl (fun c3 => ?_) (fun c3 => ?_)
  · replace h := br_pos h c3
    refine z_iconst hX (v := (nI 0)) dX7_isOdds_44 rfl 45 rfl ?_
    replace h := Option.some.inj h
    subst h
    exact z_zret hX dX7_isOdds_45 rfl (by decide) hk
  · replace h := br_neg h c3
    refine z_aload_n hX dX7_isOdds_12 0 rfl 13 rfl ?_
    refine z_iload_n hX dX7_isOdds_13 2 rfl 14 rfl ?_
    replace h := cl_elim h
    obtain ⟨x5, s4, hx5, h⟩ := h
    refine z_cV7i hX (b := 189) (As := [.int a2]) (c_X7_isSitter hx5) lk_X7_209 rfl kdc_189 ds_X7_isSitter rfl (by decide) (by decide) (by decide) dX7_isOdds_14 rfl 17 rfl ?_
    refine z_if_eq hX 44 dX7_isOdds_17 (by decide) 20 rfl (fun c6 => ?_) (fun c6 => ?_)
    · replace h := br_pos h c6
      refine z_iconst hX (v := (nI 0)) dX7_isOdds_44 rfl 45 rfl ?_
      replace h := Option.some.inj h
      subst h
      exact z_zret hX dX7_isOdds_45 rfl (by decide) hk
    · replace h := br_neg h c6
      refine z_iload_n hX dX7_isOdds_20 3 rfl 21 rfl ?_
      refine z_i2l hX dX7_isOdds_21 22 rfl ?_
      refine z_lconst hX (v := (lN 0)) dX7_isOdds_22 rfl 23 rfl ?_
      refine z_ldc2 hX (v := (lN 8)) dX7_isOdds_23 ml_X7_270 26 rfl ?_
      replace h := cl_elim h
      obtain ⟨x8, s7, hx8, h⟩ := h
      refine z_cSi hX (As := [.long ((a3).toInt64), .long ((lN 0)), .long ((lN 8))]) (c_X7_within hx8) lk_X7_52 ds_X7_within rfl (by decide) (by decide) (by decide) dX7_isOdds_26 rfl 29 rfl ?_
      refine z_if_eq hX 44 dX7_isOdds_29 (by decide) 32 rfl (fun c9 => ?_) (fun c9 => ?_)
      · replace h := br_pos h c9
        refine z_iconst hX (v := (nI 0)) dX7_isOdds_44 rfl 45 rfl ?_
        replace h := Option.some.inj h
        subst h
        exact z_zret hX dX7_isOdds_45 rfl (by decide) hk
      · replace h := br_neg h c9
        refine z_iload hX dX7_isOdds_32 4 rfl 34 rfl ?_
        replace h := cl_elim h
        obtain ⟨x11, s10, hx11, h⟩ := h
        refine z_cSi hX (As := [.int a4]) (c_X7_isPart hx11) lk_X7_251 ds_X7_isPart rfl (by decide) (by decide) (by decide) dX7_isOdds_34 rfl 37 rfl ?_
        refine z_if_eq hX 44 dX7_isOdds_37 (by decide) 40 rfl (fun c12 => ?_) (fun c12 => ?_)
        · replace h := br_pos h c12
          refine z_iconst hX (v := (nI 0)) dX7_isOdds_44 rfl 45 rfl ?_
          replace h := Option.some.inj h
          subst h
          exact z_zret hX dX7_isOdds_45 rfl (by decide) hk
        · replace h := br_neg h c12
          refine z_iconst hX (v := (nI 1)) dX7_isOdds_40 rfl 41 rfl ?_
          refine z_goto hX 45 dX7_isOdds_41 (by decide) ?_
          replace h := Option.some.inj h
          subst h
          exact z_zret hX dX7_isOdds_45 rfl (by decide) hk
theorem c_X7_isOdds {lc : Launch} {Γ : Gm} {a1 : Int32} {a2 : Int32} {a3 : Int32} {a4 : Int32} {s s2 : St} {v : Int32} (h : f_X7_isOdds a1 a2 a3 a4 s = some (v, s2)) : Ct lc Γ yX7_isOdds cX7_isOdds 5 (some .boolean) 2 [.ref (gL Γ (189)), .int a1, .int a2, .int a3, .int a4] s (some (.int v), s2) := Ct.of (by decide +kernel) (Nat.le_of_ble_eq_true rfl) (fun X hl hX => e_X7_isOdds hX h rfl)
theorem dX7_luck_0 : decode cX7_luck 0 = .ok (.aload_n 0, 1) := by decide +kernel
theorem dX7_luck_1 : decode cX7_luck 1 = .ok (.iload_n 1, 1) := by decide +kernel
theorem dX7_luck_2 : decode cX7_luck 2 = .ok (.iload_n 2, 1) := by decide +kernel
theorem dX7_luck_3 : decode cX7_luck 3 = .ok (.iload_n 3, 1) := by decide +kernel
theorem dX7_luck_4 : decode cX7_luck 4 = .ok (.iload 4, 2) := by decide +kernel
theorem dX7_luck_6 : decode cX7_luck 6 = .ok (.invokevirtual 272, 3) := by decide +kernel
theorem dX7_luck_9 : decode cX7_luck 9 = .ok (.ifCond .ne 7, 3) := by decide +kernel
theorem dX7_luck_12 : decode cX7_luck 12 = .ok (.ldc2_w 275, 3) := by decide +kernel
theorem dX7_luck_15 : decode cX7_luck 15 = .ok (.lreturn, 1) := by decide +kernel
theorem dX7_luck_16 : decode cX7_luck 16 = .ok (.aload_n 0, 1) := by decide +kernel
theorem dX7_luck_17 : decode cX7_luck 17 = .ok (.iload_n 1, 1) := by decide +kernel
theorem dX7_luck_18 : decode cX7_luck 18 = .ok (.iload_n 2, 1) := by decide +kernel
theorem dX7_luck_19 : decode cX7_luck 19 = .ok (.iload_n 3, 1) := by decide +kernel
theorem dX7_luck_20 : decode cX7_luck 20 = .ok (.invokevirtual 277, 3) := by decide +kernel
theorem dX7_luck_23 : decode cX7_luck 23 = .ok (.aload_n 0, 1) := by decide +kernel
theorem dX7_luck_24 : decode cX7_luck 24 = .ok (.getfield 258, 3) := by decide +kernel
theorem dX7_luck_27 : decode cX7_luck 27 = .ok (.aload_n 0, 1) := by decide +kernel
theorem dX7_luck_28 : decode cX7_luck 28 = .ok (.getfield 265, 3) := by decide +kernel
theorem dX7_luck_31 : decode cX7_luck 31 = .ok (.iload 4, 2) := by decide +kernel
theorem dX7_luck_33 : decode cX7_luck 33 = .ok (.invokestatic 281, 3) := by decide +kernel
theorem dX7_luck_36 : decode cX7_luck 36 = .ok (.lreturn, 1) := by decide +kernel
def f_X7_luck (a1 : Int32) (a2 : Int32) (a3 : Int32) (a4 : Int32) (s : St) : Option (Int64 × St) := cl (f_X7_isOdds a1 a2 a3 a4 s) (fun x2 s1 => if ¬ x2 = 0 then (cl (f_X7_findOdds a1 a2 a3 s1) (fun x5 s4 => cl (f_X7_told (s4.2 189 19) (s4.2 189 21) a4 s4) (fun x7 s6 => some ((x7, s6))))) else (some (((-1), s1))))
set_option maxHeartbeats 4000000 in
set_option maxRecDepth 100000 in
theorem e_X7_luck {X : Cx} {Γ : Gm} {r0 : Rb} (hX : Amb X Γ cX7_luck RX7 5 (some .long) 5) {a1 : Int32} {a2 : Int32} {a3 : Int32} {a4 : Int32} {s : St} {t : Int64 × St} (h : f_X7_luck a1 a2 a3 a4 s = some t) (hk : (fun t : Int64 × St => Rt X Γ r0 (some (Value.long t.1), t.2)) t) : Zw X Γ 5 r0 s 0 [(0, .ref (gL Γ (189))), (1, .int a1), (2, .int a2), (3, .int a3), (4, .int a4)] [] := by
  unfold f_X7_luck at h
  refine z_aload_n hX dX7_luck_0 0 rfl 1 rfl ?_
  refine z_iload_n hX dX7_luck_1 1 rfl 2 rfl ?_
  refine z_iload_n hX dX7_luck_2 2 rfl 3 rfl ?_
  refine z_iload_n hX dX7_luck_3 3 rfl 4 rfl ?_
  refine z_iload hX dX7_luck_4 4 rfl 6 rfl ?_
  replace h := cl_elim h
  obtain ⟨x2, s1, hx2, h⟩ := h
  refine z_cV7i hX (b := 189) (As := [.int a1, .int a2, .int a3, .int a4]) (c_X7_isOdds hx2) lk_X7_272 rfl kdc_189 ds_X7_isOdds rfl (by decide) (by decide) (by decide) dX7_luck_6 rfl 9 rfl ?_
  refine z_if_ne hX 16 dX7_luck_9 (by decide) 12 rfl (fun c3 => ?_) (fun c3 => ?_)
  · replace h := br_pos h c3
    refine z_aload_n hX dX7_luck_16 0 rfl 17 rfl ?_
    refine z_iload_n hX dX7_luck_17 1 rfl 18 rfl ?_
    refine z_iload_n hX dX7_luck_18 2 rfl 19 rfl ?_
    refine z_iload_n hX dX7_luck_19 3 rfl 20 rfl ?_
    replace h := cl_elim h
    obtain ⟨x5, s4, hx5, h⟩ := h
    refine z_cV7v hX (b := 189) (As := [.int a1, .int a2, .int a3]) (c_X7_findOdds hx5) lk_X7_277 rfl kdc_189 ds_X7_findOdds rfl (by decide) (by decide) (by decide) dX7_luck_20 rfl 23 rfl ?_
    refine z_aload_n hX dX7_luck_23 0 rfl 24 rfl ?_
    refine z_get7 hX (k := 189) (j := 19) (v := .long ((s4.2 189 19))) kdc_189 (by decide) rfl dX7_luck_24 fl_X7_258 27 rfl ?_
    refine z_aload_n hX dX7_luck_27 0 rfl 28 rfl ?_
    refine z_get7 hX (k := 189) (j := 21) (v := .long ((s4.2 189 21))) kdc_189 (by decide) rfl dX7_luck_28 fl_X7_265 31 rfl ?_
    refine z_iload hX dX7_luck_31 4 rfl 33 rfl ?_
    replace h := cl_elim h
    obtain ⟨x7, s6, hx7, h⟩ := h
    refine z_cSl hX (As := [.long ((s4.2 189 19)), .long ((s4.2 189 21)), .int a4]) (c_X7_told hx7) lk_X7_281 ds_X7_told rfl (by decide) (by decide) (by decide) dX7_luck_33 rfl 36 rfl ?_
    replace h := Option.some.inj h
    subst h
    exact z_lret hX dX7_luck_36 rfl hk
  · replace h := br_neg h c3
    refine z_ldc2 hX (v := (-1)) dX7_luck_12 ml_X7_275 15 rfl ?_
    replace h := Option.some.inj h
    subst h
    exact z_lret hX dX7_luck_15 rfl hk
theorem c_X7_luck {lc : Launch} {Γ : Gm} {a1 : Int32} {a2 : Int32} {a3 : Int32} {a4 : Int32} {s s2 : St} {v : Int64} (h : f_X7_luck a1 a2 a3 a4 s = some (v, s2)) : Ct lc Γ yX7_luck cX7_luck 5 (some .long) 5 [.ref (gL Γ (189)), .int a1, .int a2, .int a3, .int a4] s (some (.long v), s2) := Ct.of (by decide +kernel) (Nat.le_of_ble_eq_true rfl) (fun X hl hX => e_X7_luck hX h rfl)
theorem dX7_mean_0 : decode cX7_mean 0 = .ok (.aload_n 0, 1) := by decide +kernel
theorem dX7_mean_1 : decode cX7_mean 1 = .ok (.iload_n 1, 1) := by decide +kernel
theorem dX7_mean_2 : decode cX7_mean 2 = .ok (.iload_n 2, 1) := by decide +kernel
theorem dX7_mean_3 : decode cX7_mean 3 = .ok (.iload_n 3, 1) := by decide +kernel
theorem dX7_mean_4 : decode cX7_mean 4 = .ok (.iload 4, 2) := by decide +kernel
theorem dX7_mean_6 : decode cX7_mean 6 = .ok (.invokevirtual 272, 3) := by decide +kernel
theorem dX7_mean_9 : decode cX7_mean 9 = .ok (.ifCond .ne 7, 3) := by decide +kernel
theorem dX7_mean_12 : decode cX7_mean 12 = .ok (.ldc2_w 275, 3) := by decide +kernel
theorem dX7_mean_15 : decode cX7_mean 15 = .ok (.lreturn, 1) := by decide +kernel
theorem dX7_mean_16 : decode cX7_mean 16 = .ok (.aload_n 0, 1) := by decide +kernel
theorem dX7_mean_17 : decode cX7_mean 17 = .ok (.iload_n 1, 1) := by decide +kernel
theorem dX7_mean_18 : decode cX7_mean 18 = .ok (.iload_n 2, 1) := by decide +kernel
theorem dX7_mean_19 : decode cX7_mean 19 = .ok (.iload_n 3, 1) := by decide +kernel
theorem dX7_mean_20 : decode cX7_mean 20 = .ok (.invokevirtual 277, 3) := by decide +kernel
theorem dX7_mean_23 : decode cX7_mean 23 = .ok (.aload_n 0, 1) := by decide +kernel
theorem dX7_mean_24 : decode cX7_mean 24 = .ok (.getfield 262, 3) := by decide +kernel
theorem dX7_mean_27 : decode cX7_mean 27 = .ok (.aload_n 0, 1) := by decide +kernel
theorem dX7_mean_28 : decode cX7_mean 28 = .ok (.getfield 265, 3) := by decide +kernel
theorem dX7_mean_31 : decode cX7_mean 31 = .ok (.iload 4, 2) := by decide +kernel
theorem dX7_mean_33 : decode cX7_mean 33 = .ok (.invokestatic 281, 3) := by decide +kernel
theorem dX7_mean_36 : decode cX7_mean 36 = .ok (.lreturn, 1) := by decide +kernel
def f_X7_mean (a1 : Int32) (a2 : Int32) (a3 : Int32) (a4 : Int32) (s : St) : Option (Int64 × St) := cl (f_X7_isOdds a1 a2 a3 a4 s) (fun x2 s1 => if ¬ x2 = 0 then (cl (f_X7_findOdds a1 a2 a3 s1) (fun x5 s4 => cl (f_X7_told (s4.2 189 20) (s4.2 189 21) a4 s4) (fun x7 s6 => some ((x7, s6))))) else (some (((-1), s1))))
set_option maxHeartbeats 4000000 in
set_option maxRecDepth 100000 in
theorem e_X7_mean {X : Cx} {Γ : Gm} {r0 : Rb} (hX : Amb X Γ cX7_mean RX7 5 (some .long) 5) {a1 : Int32} {a2 : Int32} {a3 : Int32} {a4 : Int32} {s : St} {t : Int64 × St} (h : f_X7_mean a1 a2 a3 a4 s = some t) (hk : (fun t : Int64 × St => Rt X Γ r0 (some (Value.long t.1), t.2)) t) : Zw X Γ 5 r0 s 0 [(0, .ref (gL Γ (189))), (1, .int a1), (2, .int a2), (3, .int a3), (4, .int a4)] [] := by
  unfold f_X7_mean at h
  refine z_aload_n hX dX7_mean_0 0 rfl 1 rfl ?_
  refine z_iload_n hX dX7_mean_1 1 rfl 2 rfl ?_
  refine z_iload_n hX dX7_mean_2 2 rfl 3 rfl ?_
  refine z_iload_n hX dX7_mean_3 3 rfl 4 rfl ?_
  refine z_iload hX dX7_mean_4 4 rfl 6 rfl ?_
  replace h := cl_elim h
  obtain ⟨x2, s1, hx2, h⟩ := h
  refine z_cV7i hX (b := 189) (As := [.int a1, .int a2, .int a3, .int a4]) (c_X7_isOdds hx2) lk_X7_272 rfl kdc_189 ds_X7_isOdds rfl (by decide) (by decide) (by decide) dX7_mean_6 rfl 9 rfl ?_
  refine z_if_ne hX 16 dX7_mean_9 (by decide) 12 rfl (fun c3 => ?_) (fun c3 => ?_)
  · replace h := br_pos h c3
    refine z_aload_n hX dX7_mean_16 0 rfl 17 rfl ?_
    refine z_iload_n hX dX7_mean_17 1 rfl 18 rfl ?_
    refine z_iload_n hX dX7_mean_18 2 rfl 19 rfl ?_
    refine z_iload_n hX dX7_mean_19 3 rfl 20 rfl ?_
    replace h := cl_elim h
    obtain ⟨x5, s4, hx5, h⟩ := h
    refine z_cV7v hX (b := 189) (As := [.int a1, .int a2, .int a3]) (c_X7_findOdds hx5) lk_X7_277 rfl kdc_189 ds_X7_findOdds rfl (by decide) (by decide) (by decide) dX7_mean_20 rfl 23 rfl ?_
    refine z_aload_n hX dX7_mean_23 0 rfl 24 rfl ?_
    refine z_get7 hX (k := 189) (j := 20) (v := .long ((s4.2 189 20))) kdc_189 (by decide) rfl dX7_mean_24 fl_X7_262 27 rfl ?_
    refine z_aload_n hX dX7_mean_27 0 rfl 28 rfl ?_
    refine z_get7 hX (k := 189) (j := 21) (v := .long ((s4.2 189 21))) kdc_189 (by decide) rfl dX7_mean_28 fl_X7_265 31 rfl ?_
    refine z_iload hX dX7_mean_31 4 rfl 33 rfl ?_
    replace h := cl_elim h
    obtain ⟨x7, s6, hx7, h⟩ := h
    refine z_cSl hX (As := [.long ((s4.2 189 20)), .long ((s4.2 189 21)), .int a4]) (c_X7_told hx7) lk_X7_281 ds_X7_told rfl (by decide) (by decide) (by decide) dX7_mean_33 rfl 36 rfl ?_
    replace h := Option.some.inj h
    subst h
    exact z_lret hX dX7_mean_36 rfl hk
  · replace h := br_neg h c3
    refine z_ldc2 hX (v := (-1)) dX7_mean_12 ml_X7_275 15 rfl ?_
    replace h := Option.some.inj h
    subst h
    exact z_lret hX dX7_mean_15 rfl hk
theorem c_X7_mean {lc : Launch} {Γ : Gm} {a1 : Int32} {a2 : Int32} {a3 : Int32} {a4 : Int32} {s s2 : St} {v : Int64} (h : f_X7_mean a1 a2 a3 a4 s = some (v, s2)) : Ct lc Γ yX7_mean cX7_mean 5 (some .long) 5 [.ref (gL Γ (189)), .int a1, .int a2, .int a3, .int a4] s (some (.long v), s2) := Ct.of (by decide +kernel) (Nat.le_of_ble_eq_true rfl) (fun X hl hX => e_X7_mean hX h rfl)
theorem dX7_see_0 : decode cX7_see 0 = .ok (.aload_n 0, 1) := by decide +kernel
theorem dX7_see_1 : decode cX7_see 1 = .ok (.iload_n 1, 1) := by decide +kernel
theorem dX7_see_2 : decode cX7_see 2 = .ok (.invokevirtual 209, 3) := by decide +kernel
theorem dX7_see_5 : decode cX7_see 5 = .ok (.ifCond .eq 36, 3) := by decide +kernel
theorem dX7_see_8 : decode cX7_see 8 = .ok (.aload_n 0, 1) := by decide +kernel
theorem dX7_see_9 : decode cX7_see 9 = .ok (.iload_n 2, 1) := by decide +kernel
theorem dX7_see_10 : decode cX7_see 10 = .ok (.invokevirtual 203, 3) := by decide +kernel
theorem dX7_see_13 : decode cX7_see 13 = .ok (.ifCond .eq 28, 3) := by decide +kernel
theorem dX7_see_16 : decode cX7_see 16 = .ok (.iload_n 3, 1) := by decide +kernel
theorem dX7_see_17 : decode cX7_see 17 = .ok (.i2l, 1) := by decide +kernel
theorem dX7_see_18 : decode cX7_see 18 = .ok (.lconst 0, 1) := by decide +kernel
theorem dX7_see_19 : decode cX7_see 19 = .ok (.ldc2_w 228, 3) := by decide +kernel
theorem dX7_see_22 : decode cX7_see 22 = .ok (.invokestatic 52, 3) := by decide +kernel
theorem dX7_see_25 : decode cX7_see 25 = .ok (.ifCond .eq 16, 3) := by decide +kernel
theorem dX7_see_28 : decode cX7_see 28 = .ok (.iload 4, 2) := by decide +kernel
theorem dX7_see_30 : decode cX7_see 30 = .ok (.i2l, 1) := by decide +kernel
theorem dX7_see_31 : decode cX7_see 31 = .ok (.lconst 0, 1) := by decide +kernel
theorem dX7_see_32 : decode cX7_see 32 = .ok (.ldc2_w 248, 3) := by decide +kernel
theorem dX7_see_35 : decode cX7_see 35 = .ok (.invokestatic 52, 3) := by decide +kernel
theorem dX7_see_38 : decode cX7_see 38 = .ok (.ifCond .ne 5, 3) := by decide +kernel
theorem dX7_see_41 : decode cX7_see 41 = .ok (.iconst (-1), 1) := by decide +kernel
theorem dX7_see_42 : decode cX7_see 42 = .ok (.ireturn, 1) := by decide +kernel
theorem dX7_see_43 : decode cX7_see 43 = .ok (.aload_n 0, 1) := by decide +kernel
theorem dX7_see_44 : decode cX7_see 44 = .ok (.getfield 7, 3) := by decide +kernel
theorem dX7_see_47 : decode cX7_see 47 = .ok (.bipush 106, 2) := by decide +kernel
theorem dX7_see_49 : decode cX7_see 49 = .ok (.iaload, 1) := by decide +kernel
theorem dX7_see_50 : decode cX7_see 50 = .ok (.bipush 6, 2) := by decide +kernel
theorem dX7_see_52 : decode cX7_see 52 = .ok (.if_icmp .ne 6, 3) := by decide +kernel
theorem dX7_see_55 : decode cX7_see 55 = .ok (.bipush (-3), 2) := by decide +kernel
theorem dX7_see_57 : decode cX7_see 57 = .ok (.ireturn, 1) := by decide +kernel
theorem dX7_see_58 : decode cX7_see 58 = .ok (.bipush 107, 2) := by decide +kernel
theorem dX7_see_60 : decode cX7_see 60 = .ok (.iconst 4, 1) := by decide +kernel
theorem dX7_see_61 : decode cX7_see 61 = .ok (.aload_n 0, 1) := by decide +kernel
theorem dX7_see_62 : decode cX7_see 62 = .ok (.getfield 7, 3) := by decide +kernel
theorem dX7_see_65 : decode cX7_see 65 = .ok (.bipush 106, 2) := by decide +kernel
theorem dX7_see_67 : decode cX7_see 67 = .ok (.iaload, 1) := by decide +kernel
theorem dX7_see_68 : decode cX7_see 68 = .ok (.imul, 1) := by decide +kernel
theorem dX7_see_69 : decode cX7_see 69 = .ok (.iadd, 1) := by decide +kernel
theorem dX7_see_70 : decode cX7_see 70 = .ok (.istore 5, 2) := by decide +kernel
theorem dX7_see_72 : decode cX7_see 72 = .ok (.aload_n 0, 1) := by decide +kernel
theorem dX7_see_73 : decode cX7_see 73 = .ok (.getfield 7, 3) := by decide +kernel
theorem dX7_see_76 : decode cX7_see 76 = .ok (.iload 5, 2) := by decide +kernel
theorem dX7_see_78 : decode cX7_see 78 = .ok (.iload_n 1, 1) := by decide +kernel
theorem dX7_see_79 : decode cX7_see 79 = .ok (.iastore, 1) := by decide +kernel
theorem dX7_see_80 : decode cX7_see 80 = .ok (.aload_n 0, 1) := by decide +kernel
theorem dX7_see_81 : decode cX7_see 81 = .ok (.getfield 7, 3) := by decide +kernel
theorem dX7_see_84 : decode cX7_see 84 = .ok (.iload 5, 2) := by decide +kernel
theorem dX7_see_86 : decode cX7_see 86 = .ok (.iconst 1, 1) := by decide +kernel
theorem dX7_see_87 : decode cX7_see 87 = .ok (.iadd, 1) := by decide +kernel
theorem dX7_see_88 : decode cX7_see 88 = .ok (.iload_n 2, 1) := by decide +kernel
theorem dX7_see_89 : decode cX7_see 89 = .ok (.iastore, 1) := by decide +kernel
theorem dX7_see_90 : decode cX7_see 90 = .ok (.aload_n 0, 1) := by decide +kernel
theorem dX7_see_91 : decode cX7_see 91 = .ok (.getfield 7, 3) := by decide +kernel
theorem dX7_see_94 : decode cX7_see 94 = .ok (.iload 5, 2) := by decide +kernel
theorem dX7_see_96 : decode cX7_see 96 = .ok (.iconst 2, 1) := by decide +kernel
theorem dX7_see_97 : decode cX7_see 97 = .ok (.iadd, 1) := by decide +kernel
theorem dX7_see_98 : decode cX7_see 98 = .ok (.iload_n 3, 1) := by decide +kernel
theorem dX7_see_99 : decode cX7_see 99 = .ok (.iastore, 1) := by decide +kernel
theorem dX7_see_100 : decode cX7_see 100 = .ok (.aload_n 0, 1) := by decide +kernel
theorem dX7_see_101 : decode cX7_see 101 = .ok (.getfield 7, 3) := by decide +kernel
theorem dX7_see_104 : decode cX7_see 104 = .ok (.iload 5, 2) := by decide +kernel
theorem dX7_see_106 : decode cX7_see 106 = .ok (.iconst 3, 1) := by decide +kernel
theorem dX7_see_107 : decode cX7_see 107 = .ok (.iadd, 1) := by decide +kernel
theorem dX7_see_108 : decode cX7_see 108 = .ok (.iload 4, 2) := by decide +kernel
theorem dX7_see_110 : decode cX7_see 110 = .ok (.iastore, 1) := by decide +kernel
theorem dX7_see_111 : decode cX7_see 111 = .ok (.aload_n 0, 1) := by decide +kernel
theorem dX7_see_112 : decode cX7_see 112 = .ok (.getfield 7, 3) := by decide +kernel
theorem dX7_see_115 : decode cX7_see 115 = .ok (.bipush 106, 2) := by decide +kernel
theorem dX7_see_117 : decode cX7_see 117 = .ok (.dup2, 1) := by decide +kernel
theorem dX7_see_118 : decode cX7_see 118 = .ok (.iaload, 1) := by decide +kernel
theorem dX7_see_119 : decode cX7_see 119 = .ok (.iconst 1, 1) := by decide +kernel
theorem dX7_see_120 : decode cX7_see 120 = .ok (.iadd, 1) := by decide +kernel
theorem dX7_see_121 : decode cX7_see 121 = .ok (.iastore, 1) := by decide +kernel
theorem dX7_see_122 : decode cX7_see 122 = .ok (.aload_n 0, 1) := by decide +kernel
theorem dX7_see_123 : decode cX7_see 123 = .ok (.getfield 7, 3) := by decide +kernel
theorem dX7_see_126 : decode cX7_see 126 = .ok (.bipush 106, 2) := by decide +kernel
theorem dX7_see_128 : decode cX7_see 128 = .ok (.iaload, 1) := by decide +kernel
theorem dX7_see_129 : decode cX7_see 129 = .ok (.ireturn, 1) := by decide +kernel
def f_X7_see (a1 : Int32) (a2 : Int32) (a3 : Int32) (a4 : Int32) (s : St) : Option (Int32 × St) := cl (f_X7_isSitter a1 s) (fun x2 s1 => if x2 = 0 then (some (((-1), s1))) else (cl (f_X7_isLife a2 s1) (fun x5 s4 => if x5 = 0 then (some (((-1), s4))) else (cl (f_X7_within ((a3).toInt64) (lN 0) (lN 30) s4) (fun x8 s7 => if x8 = 0 then (some (((-1), s7))) else (cl (f_X7_within ((a4).toInt64) (lN 0) (lN 999) s7) (fun x11 s10 => if ¬ x11 = 0 then (if inb (nI 106) (lnI 190) = true then if ¬ (s10.1 190 ((nI 106)).toNatClampNeg) = (nI 6) then (bd ((nI 107) + ((nI 4) * (s10.1 190 ((nI 106)).toNatClampNeg))) (fun x15 => if inb x15 (lnI 190) = true then bd (wI s10 190 (x15).toNatClampNeg a1) (fun s17 => if inb (x15 + (nI 1)) (lnI 190) = true then bd (wI s17 190 ((x15 + (nI 1))).toNatClampNeg a2) (fun s19 => if inb (x15 + (nI 2)) (lnI 190) = true then bd (wI s19 190 ((x15 + (nI 2))).toNatClampNeg a3) (fun s21 => if inb (x15 + (nI 3)) (lnI 190) = true then bd (wI s21 190 ((x15 + (nI 3))).toNatClampNeg a4) (fun s23 => bd (wI s23 190 ((nI 106)).toNatClampNeg ((s23.1 190 ((nI 106)).toNatClampNeg) + (nI 1))) (fun s24 => some (((s24.1 190 ((nI 106)).toNatClampNeg), s24)))) else none) else none) else none) else none)) else (some (((-3), s10))) else none) else (some (((-1), s10))))))))))
set_option maxHeartbeats 4000000 in
set_option maxRecDepth 100000 in
theorem e_X7_see {X : Cx} {Γ : Gm} {r0 : Rb} (hX : Amb X Γ cX7_see RX7 6 (some .int) 2) {a1 : Int32} {a2 : Int32} {a3 : Int32} {a4 : Int32} {s : St} {t : Int32 × St} (h : f_X7_see a1 a2 a3 a4 s = some t) (hk : (fun t : Int32 × St => Rt X Γ r0 (some (Value.int t.1), t.2)) t) : Zw X Γ 6 r0 s 0 [(0, .ref (gL Γ (189))), (1, .int a1), (2, .int a2), (3, .int a3), (4, .int a4)] [] := by
  unfold f_X7_see at h
  refine z_aload_n hX dX7_see_0 0 rfl 1 rfl ?_
  refine z_iload_n hX dX7_see_1 1 rfl 2 rfl ?_
  replace h := cl_elim h
  obtain ⟨x2, s1, hx2, h⟩ := h
  refine z_cV7i hX (b := 189) (As := [.int a1]) (c_X7_isSitter hx2) lk_X7_209 rfl kdc_189 ds_X7_isSitter rfl (by decide) (by decide) (by decide) dX7_see_2 rfl 5 rfl ?_
  refine z_if_eq hX 41 dX7_see_5 (by decide) 8 rfl (fun c3 => ?_) (fun c3 => ?_)
  · replace h := br_pos h c3
    refine z_iconst hX (v := (-1)) dX7_see_41 rfl 42 rfl ?_
    replace h := Option.some.inj h
    subst h
    exact z_iret hX dX7_see_42 rfl hk
  · replace h := br_neg h c3
    refine z_aload_n hX dX7_see_8 0 rfl 9 rfl ?_
    refine z_iload_n hX dX7_see_9 2 rfl 10 rfl ?_
    replace h := cl_elim h
    obtain ⟨x5, s4, hx5, h⟩ := h
    refine z_cV7i hX (b := 189) (As := [.int a2]) (c_X7_isLife hx5) lk_X7_203 rfl kdc_189 ds_X7_isLife rfl (by decide) (by decide) (by decide) dX7_see_10 rfl 13 rfl ?_
    refine z_if_eq hX 41 dX7_see_13 (by decide) 16 rfl (fun c6 => ?_) (fun c6 => ?_)
    · replace h := br_pos h c6
      refine z_iconst hX (v := (-1)) dX7_see_41 rfl 42 rfl ?_
      replace h := Option.some.inj h
      subst h
      exact z_iret hX dX7_see_42 rfl hk
    · replace h := br_neg h c6
      refine z_iload_n hX dX7_see_16 3 rfl 17 rfl ?_
      refine z_i2l hX dX7_see_17 18 rfl ?_
      refine z_lconst hX (v := (lN 0)) dX7_see_18 rfl 19 rfl ?_
      refine z_ldc2 hX (v := (lN 30)) dX7_see_19 ml_X7_228 22 rfl ?_
      replace h := cl_elim h
      obtain ⟨x8, s7, hx8, h⟩ := h
      refine z_cSi hX (As := [.long ((a3).toInt64), .long ((lN 0)), .long ((lN 30))]) (c_X7_within hx8) lk_X7_52 ds_X7_within rfl (by decide) (by decide) (by decide) dX7_see_22 rfl 25 rfl ?_
      refine z_if_eq hX 41 dX7_see_25 (by decide) 28 rfl (fun c9 => ?_) (fun c9 => ?_)
      · replace h := br_pos h c9
        refine z_iconst hX (v := (-1)) dX7_see_41 rfl 42 rfl ?_
        replace h := Option.some.inj h
        subst h
        exact z_iret hX dX7_see_42 rfl hk
      · replace h := br_neg h c9
        refine z_iload hX dX7_see_28 4 rfl 30 rfl ?_
        refine z_i2l hX dX7_see_30 31 rfl ?_
        refine z_lconst hX (v := (lN 0)) dX7_see_31 rfl 32 rfl ?_
        refine z_ldc2 hX (v := (lN 999)) dX7_see_32 ml_X7_248 35 rfl ?_
        replace h := cl_elim h
        obtain ⟨x11, s10, hx11, h⟩ := h
        refine z_cSi hX (As := [.long ((a4).toInt64), .long ((lN 0)), .long ((lN 999))]) (c_X7_within hx11) lk_X7_52 ds_X7_within rfl (by decide) (by decide) (by decide) dX7_see_35 rfl 38 rfl ?_
        refine z_if_ne hX 43 dX7_see_38 (by decide) 41 rfl (fun c12 => ?_) (fun c12 => ?_)
        · replace h := br_pos h c12
          refine z_aload_n hX dX7_see_43 0 rfl 44 rfl ?_
          refine z_get7 hX (k := 189) (j := 0) (v := .ref (gL Γ (190))) kdc_189 (by decide) rfl dX7_see_44 fl_X7_7 47 rfl ?_
          refine z_bipush hX (v := (nI 106)) dX7_see_47 (by decide) 49 rfl ?_
          replace h := gd_elim h
          obtain ⟨g13, h⟩ := h
          refine z_iald hX (inb_vp g13) dX7_see_49 50 rfl ?_
          refine z_bipush hX (v := (nI 6)) dX7_see_50 (by decide) 52 rfl ?_
          refine z_icmp_ne hX 58 dX7_see_52 (by decide) 55 rfl (fun c14 => ?_) (fun c14 => ?_)
          · replace h := br_pos h c14
            refine z_bipush hX (v := (nI 107)) dX7_see_58 (by decide) 60 rfl ?_
            refine z_iconst hX (v := (nI 4)) dX7_see_60 rfl 61 rfl ?_
            refine z_aload_n hX dX7_see_61 0 rfl 62 rfl ?_
            refine z_get7 hX (k := 189) (j := 0) (v := .ref (gL Γ (190))) kdc_189 (by decide) rfl dX7_see_62 fl_X7_7 65 rfl ?_
            refine z_bipush hX (v := (nI 106)) dX7_see_65 (by decide) 67 rfl ?_
            refine z_iald hX (inb_vp g13) dX7_see_67 68 rfl ?_
            refine z_imul hX dX7_see_68 69 rfl ?_
            refine z_iadd hX dX7_see_69 70 rfl ?_
            replace h := bd_elim h
            obtain ⟨x15, ex15, h⟩ := h
            refine z_nm ex15 ?_
            refine z_istore hX (lv2 := [(5, .int x15), (0, .ref (gL Γ (189))), (1, .int a1), (2, .int a2), (3, .int a3), (4, .int a4)]) dX7_see_70 (by decide) rfl 72 rfl ?_
            refine z_aload_n hX dX7_see_72 1 rfl 73 rfl ?_
            refine z_get7 hX (k := 189) (j := 0) (v := .ref (gL Γ (190))) kdc_189 (by decide) rfl dX7_see_73 fl_X7_7 76 rfl ?_
            refine z_iload hX dX7_see_76 0 rfl 78 rfl ?_
            refine z_iload_n hX dX7_see_78 2 rfl 79 rfl ?_
            replace h := gd_elim h
            obtain ⟨g16, h⟩ := h
            replace h := bd_elim h
            obtain ⟨s17, es17, h⟩ := h
            refine z_iast hX (inb_vp g16) dX7_see_79 es17 80 rfl ?_
            refine z_aload_n hX dX7_see_80 1 rfl 81 rfl ?_
            refine z_get7 hX (k := 189) (j := 0) (v := .ref (gL Γ (190))) kdc_189 (by decide) rfl dX7_see_81 fl_X7_7 84 rfl ?_
            refine z_iload hX dX7_see_84 0 rfl 86 rfl ?_
            refine z_iconst hX (v := (nI 1)) dX7_see_86 rfl 87 rfl ?_
            refine z_iadd hX dX7_see_87 88 rfl ?_
            refine z_iload_n hX dX7_see_88 3 rfl 89 rfl ?_
            replace h := gd_elim h
            obtain ⟨g18, h⟩ := h
            replace h := bd_elim h
            obtain ⟨s19, es19, h⟩ := h
            refine z_iast hX (inb_vp g18) dX7_see_89 es19 90 rfl ?_
            refine z_aload_n hX dX7_see_90 1 rfl 91 rfl ?_
            refine z_get7 hX (k := 189) (j := 0) (v := .ref (gL Γ (190))) kdc_189 (by decide) rfl dX7_see_91 fl_X7_7 94 rfl ?_
            refine z_iload hX dX7_see_94 0 rfl 96 rfl ?_
            refine z_iconst hX (v := (nI 2)) dX7_see_96 rfl 97 rfl ?_
            refine z_iadd hX dX7_see_97 98 rfl ?_
            refine z_iload_n hX dX7_see_98 4 rfl 99 rfl ?_
            replace h := gd_elim h
            obtain ⟨g20, h⟩ := h
            replace h := bd_elim h
            obtain ⟨s21, es21, h⟩ := h
            refine z_iast hX (inb_vp g20) dX7_see_99 es21 100 rfl ?_
            refine z_aload_n hX dX7_see_100 1 rfl 101 rfl ?_
            refine z_get7 hX (k := 189) (j := 0) (v := .ref (gL Γ (190))) kdc_189 (by decide) rfl dX7_see_101 fl_X7_7 104 rfl ?_
            refine z_iload hX dX7_see_104 0 rfl 106 rfl ?_
            refine z_iconst hX (v := (nI 3)) dX7_see_106 rfl 107 rfl ?_
            refine z_iadd hX dX7_see_107 108 rfl ?_
            refine z_iload hX dX7_see_108 5 rfl 110 rfl ?_
            replace h := gd_elim h
            obtain ⟨g22, h⟩ := h
            replace h := bd_elim h
            obtain ⟨s23, es23, h⟩ := h
            refine z_iast hX (inb_vp g22) dX7_see_110 es23 111 rfl ?_
            refine z_aload_n hX dX7_see_111 1 rfl 112 rfl ?_
            refine z_get7 hX (k := 189) (j := 0) (v := .ref (gL Γ (190))) kdc_189 (by decide) rfl dX7_see_112 fl_X7_7 115 rfl ?_
            refine z_bipush hX (v := (nI 106)) dX7_see_115 (by decide) 117 rfl ?_
            refine z_dup2 hX dX7_see_117 rfl rfl 118 rfl ?_
            refine z_iald hX (inb_vp g13) dX7_see_118 119 rfl ?_
            refine z_iconst hX (v := (nI 1)) dX7_see_119 rfl 120 rfl ?_
            refine z_iadd hX dX7_see_120 121 rfl ?_
            replace h := bd_elim h
            obtain ⟨s24, es24, h⟩ := h
            refine z_iast hX (inb_vp g13) dX7_see_121 es24 122 rfl ?_
            refine z_aload_n hX dX7_see_122 1 rfl 123 rfl ?_
            refine z_get7 hX (k := 189) (j := 0) (v := .ref (gL Γ (190))) kdc_189 (by decide) rfl dX7_see_123 fl_X7_7 126 rfl ?_
            refine z_bipush hX (v := (nI 106)) dX7_see_126 (by decide) 128 rfl ?_
            refine z_iald hX (inb_vp g13) dX7_see_128 129 rfl ?_
            replace h := Option.some.inj h
            subst h
            exact z_iret hX dX7_see_129 rfl hk
          · replace h := br_neg h c14
            refine z_bipush hX (v := (-3)) dX7_see_55 (by decide) 57 rfl ?_
            replace h := Option.some.inj h
            subst h
            exact z_iret hX dX7_see_57 rfl hk
        · replace h := br_neg h c12
          refine z_iconst hX (v := (-1)) dX7_see_41 rfl 42 rfl ?_
          replace h := Option.some.inj h
          subst h
          exact z_iret hX dX7_see_42 rfl hk
theorem c_X7_see {lc : Launch} {Γ : Gm} {a1 : Int32} {a2 : Int32} {a3 : Int32} {a4 : Int32} {s s2 : St} {v : Int32} (h : f_X7_see a1 a2 a3 a4 s = some (v, s2)) : Ct lc Γ yX7_see cX7_see 6 (some .int) 2 [.ref (gL Γ (189)), .int a1, .int a2, .int a3, .int a4] s (some (.int v), s2) := Ct.of (by decide +kernel) (Nat.le_of_ble_eq_true rfl) (fun X hl hX => e_X7_see hX h rfl)
theorem dX7_forget_0 : decode cX7_forget 0 = .ok (.iload_n 1, 1) := by decide +kernel
theorem dX7_forget_1 : decode cX7_forget 1 = .ok (.i2l, 1) := by decide +kernel
theorem dX7_forget_2 : decode cX7_forget 2 = .ok (.lconst 0, 1) := by decide +kernel
theorem dX7_forget_3 : decode cX7_forget 3 = .ok (.aload_n 0, 1) := by decide +kernel
theorem dX7_forget_4 : decode cX7_forget 4 = .ok (.getfield 7, 3) := by decide +kernel
theorem dX7_forget_7 : decode cX7_forget 7 = .ok (.bipush 106, 2) := by decide +kernel
theorem dX7_forget_9 : decode cX7_forget 9 = .ok (.iaload, 1) := by decide +kernel
theorem dX7_forget_10 : decode cX7_forget 10 = .ok (.i2l, 1) := by decide +kernel
theorem dX7_forget_11 : decode cX7_forget 11 = .ok (.invokestatic 52, 3) := by decide +kernel
theorem dX7_forget_14 : decode cX7_forget 14 = .ok (.ifCond .eq 13, 3) := by decide +kernel
theorem dX7_forget_17 : decode cX7_forget 17 = .ok (.aload_n 0, 1) := by decide +kernel
theorem dX7_forget_18 : decode cX7_forget 18 = .ok (.bipush 106, 2) := by decide +kernel
theorem dX7_forget_20 : decode cX7_forget 20 = .ok (.iload_n 1, 1) := by decide +kernel
theorem dX7_forget_21 : decode cX7_forget 21 = .ok (.invokevirtual 225, 3) := by decide +kernel
theorem dX7_forget_24 : decode cX7_forget 24 = .ok (.goto 4, 3) := by decide +kernel
theorem dX7_forget_27 : decode cX7_forget 27 = .ok (.iconst (-1), 1) := by decide +kernel
theorem dX7_forget_28 : decode cX7_forget 28 = .ok (.ireturn, 1) := by decide +kernel
def f_X7_forget (a1 : Int32) (s : St) : Option (Int32 × St) := if inb (nI 106) (lnI 190) = true then cl (f_X7_within ((a1).toInt64) (lN 0) (((s.1 190 ((nI 106)).toNatClampNeg)).toInt64) s) (fun x3 s2 => if x3 = 0 then (some (((-1), s2))) else (cl (f_X7_becomes (nI 106) a1 s2) (fun x6 s5 => some ((x6, s5))))) else none
set_option maxHeartbeats 4000000 in
set_option maxRecDepth 100000 in
theorem e_X7_forget {X : Cx} {Γ : Gm} {r0 : Rb} (hX : Amb X Γ cX7_forget RX7 2 (some .int) 1) {a1 : Int32} {s : St} {t : Int32 × St} (h : f_X7_forget a1 s = some t) (hk : (fun t : Int32 × St => Rt X Γ r0 (some (Value.int t.1), t.2)) t) : Zw X Γ 2 r0 s 0 [(0, .ref (gL Γ (189))), (1, .int a1)] [] := by
  unfold f_X7_forget at h
  refine z_iload_n hX dX7_forget_0 1 rfl 1 rfl ?_
  refine z_i2l hX dX7_forget_1 2 rfl ?_
  refine z_lconst hX (v := (lN 0)) dX7_forget_2 rfl 3 rfl ?_
  refine z_aload_n hX dX7_forget_3 0 rfl 4 rfl ?_
  refine z_get7 hX (k := 189) (j := 0) (v := .ref (gL Γ (190))) kdc_189 (by decide) rfl dX7_forget_4 fl_X7_7 7 rfl ?_
  refine z_bipush hX (v := (nI 106)) dX7_forget_7 (by decide) 9 rfl ?_
  replace h := gd_elim h
  obtain ⟨g1, h⟩ := h
  refine z_iald hX (inb_vp g1) dX7_forget_9 10 rfl ?_
  refine z_i2l hX dX7_forget_10 11 rfl ?_
  replace h := cl_elim h
  obtain ⟨x3, s2, hx3, h⟩ := h
  refine z_cSi hX (As := [.long ((a1).toInt64), .long ((lN 0)), .long (((s.1 190 ((nI 106)).toNatClampNeg)).toInt64)]) (c_X7_within hx3) lk_X7_52 ds_X7_within rfl (by decide) (by decide) (by decide) dX7_forget_11 rfl 14 rfl ?_
  refine z_if_eq hX 27 dX7_forget_14 (by decide) 17 rfl (fun c4 => ?_) (fun c4 => ?_)
  · replace h := br_pos h c4
    refine z_iconst hX (v := (-1)) dX7_forget_27 rfl 28 rfl ?_
    replace h := Option.some.inj h
    subst h
    exact z_iret hX dX7_forget_28 rfl hk
  · replace h := br_neg h c4
    refine z_aload_n hX dX7_forget_17 0 rfl 18 rfl ?_
    refine z_bipush hX (v := (nI 106)) dX7_forget_18 (by decide) 20 rfl ?_
    refine z_iload_n hX dX7_forget_20 1 rfl 21 rfl ?_
    replace h := cl_elim h
    obtain ⟨x6, s5, hx6, h⟩ := h
    refine z_cV7i hX (b := 189) (As := [.int ((nI 106)), .int a1]) (c_X7_becomes hx6) lk_X7_225 rfl kdc_189 ds_X7_becomes rfl (by decide) (by decide) (by decide) dX7_forget_21 rfl 24 rfl ?_
    refine z_goto hX 28 dX7_forget_24 (by decide) ?_
    replace h := Option.some.inj h
    subst h
    exact z_iret hX dX7_forget_28 rfl hk
theorem c_X7_forget {lc : Launch} {Γ : Gm} {a1 : Int32} {s s2 : St} {v : Int32} (h : f_X7_forget a1 s = some (v, s2)) : Ct lc Γ yX7_forget cX7_forget 2 (some .int) 1 [.ref (gL Γ (189)), .int a1] s (some (.int v), s2) := Ct.of (by decide +kernel) (Nat.le_of_ble_eq_true rfl) (fun X hl hX => e_X7_forget hX h rfl)
theorem dX7_isSoWith_0 : decode cX7_isSoWith 0 = .ok (.iconst 1, 1) := by decide +kernel
theorem dX7_isSoWith_1 : decode cX7_isSoWith 1 = .ok (.istore 4, 2) := by decide +kernel
theorem dX7_isSoWith_3 : decode cX7_isSoWith 3 = .ok (.aload_n 0, 1) := by decide +kernel
theorem dX7_isSoWith_4 : decode cX7_isSoWith 4 = .ok (.invokevirtual 188, 3) := by decide +kernel
theorem dX7_isSoWith_7 : decode cX7_isSoWith 7 = .ok (.aload_n 0, 1) := by decide +kernel
theorem dX7_isSoWith_8 : decode cX7_isSoWith 8 = .ok (.getfield 13, 3) := by decide +kernel
theorem dX7_isSoWith_11 : decode cX7_isSoWith 11 = .ok (.iconst 4, 1) := by decide +kernel
theorem dX7_isSoWith_12 : decode cX7_isSoWith 12 = .ok (.iload_n 1, 1) := by decide +kernel
theorem dX7_isSoWith_13 : decode cX7_isSoWith 13 = .ok (.imul, 1) := by decide +kernel
theorem dX7_isSoWith_14 : decode cX7_isSoWith 14 = .ok (.iload_n 2, 1) := by decide +kernel
theorem dX7_isSoWith_15 : decode cX7_isSoWith 15 = .ok (.iadd, 1) := by decide +kernel
theorem dX7_isSoWith_16 : decode cX7_isSoWith 16 = .ok (.iload_n 3, 1) := by decide +kernel
theorem dX7_isSoWith_17 : decode cX7_isSoWith 17 = .ok (.iastore, 1) := by decide +kernel
theorem dX7_isSoWith_18 : decode cX7_isSoWith 18 = .ok (.iconst 0, 1) := by decide +kernel
theorem dX7_isSoWith_19 : decode cX7_isSoWith 19 = .ok (.istore 5, 2) := by decide +kernel
theorem dX7_isSoWith_21 : decode cX7_isSoWith 21 = .ok (.iload 5, 2) := by decide +kernel
theorem dX7_isSoWith_23 : decode cX7_isSoWith 23 = .ok (.bipush 30, 2) := by decide +kernel
theorem dX7_isSoWith_25 : decode cX7_isSoWith 25 = .ok (.if_icmp .gt 116, 3) := by decide +kernel
theorem dX7_isSoWith_28 : decode cX7_isSoWith 28 = .ok (.iconst 0, 1) := by decide +kernel
theorem dX7_isSoWith_29 : decode cX7_isSoWith 29 = .ok (.istore 6, 2) := by decide +kernel
theorem dX7_isSoWith_31 : decode cX7_isSoWith 31 = .ok (.iload 6, 2) := by decide +kernel
theorem dX7_isSoWith_33 : decode cX7_isSoWith 33 = .ok (.aload_n 0, 1) := by decide +kernel
theorem dX7_isSoWith_34 : decode cX7_isSoWith 34 = .ok (.getfield 7, 3) := by decide +kernel
theorem dX7_isSoWith_37 : decode cX7_isSoWith 37 = .ok (.bipush 106, 2) := by decide +kernel
theorem dX7_isSoWith_39 : decode cX7_isSoWith 39 = .ok (.iaload, 1) := by decide +kernel
theorem dX7_isSoWith_40 : decode cX7_isSoWith 40 = .ok (.if_icmp .ge 83, 3) := by decide +kernel
theorem dX7_isSoWith_43 : decode cX7_isSoWith 43 = .ok (.bipush 107, 2) := by decide +kernel
theorem dX7_isSoWith_45 : decode cX7_isSoWith 45 = .ok (.iconst 4, 1) := by decide +kernel
theorem dX7_isSoWith_46 : decode cX7_isSoWith 46 = .ok (.iload 6, 2) := by decide +kernel
theorem dX7_isSoWith_48 : decode cX7_isSoWith 48 = .ok (.imul, 1) := by decide +kernel
theorem dX7_isSoWith_49 : decode cX7_isSoWith 49 = .ok (.iadd, 1) := by decide +kernel
theorem dX7_isSoWith_50 : decode cX7_isSoWith 50 = .ok (.istore 7, 2) := by decide +kernel
theorem dX7_isSoWith_52 : decode cX7_isSoWith 52 = .ok (.iload 4, 2) := by decide +kernel
theorem dX7_isSoWith_54 : decode cX7_isSoWith 54 = .ok (.ifCond .eq 60, 3) := by decide +kernel
theorem dX7_isSoWith_57 : decode cX7_isSoWith 57 = .ok (.aload_n 0, 1) := by decide +kernel
theorem dX7_isSoWith_58 : decode cX7_isSoWith 58 = .ok (.getfield 7, 3) := by decide +kernel
theorem dX7_isSoWith_61 : decode cX7_isSoWith 61 = .ok (.iload 7, 2) := by decide +kernel
theorem dX7_isSoWith_63 : decode cX7_isSoWith 63 = .ok (.iconst 2, 1) := by decide +kernel
theorem dX7_isSoWith_64 : decode cX7_isSoWith 64 = .ok (.iadd, 1) := by decide +kernel
theorem dX7_isSoWith_65 : decode cX7_isSoWith 65 = .ok (.iaload, 1) := by decide +kernel
theorem dX7_isSoWith_66 : decode cX7_isSoWith 66 = .ok (.iload 5, 2) := by decide +kernel
theorem dX7_isSoWith_68 : decode cX7_isSoWith 68 = .ok (.if_icmp .ne 42, 3) := by decide +kernel
theorem dX7_isSoWith_71 : decode cX7_isSoWith 71 = .ok (.aload_n 0, 1) := by decide +kernel
theorem dX7_isSoWith_72 : decode cX7_isSoWith 72 = .ok (.getfield 13, 3) := by decide +kernel
theorem dX7_isSoWith_75 : decode cX7_isSoWith 75 = .ok (.bipush 20, 2) := by decide +kernel
theorem dX7_isSoWith_77 : decode cX7_isSoWith 77 = .ok (.iconst 3, 1) := by decide +kernel
theorem dX7_isSoWith_78 : decode cX7_isSoWith 78 = .ok (.aload_n 0, 1) := by decide +kernel
theorem dX7_isSoWith_79 : decode cX7_isSoWith 79 = .ok (.getfield 7, 3) := by decide +kernel
theorem dX7_isSoWith_82 : decode cX7_isSoWith 82 = .ok (.iload 7, 2) := by decide +kernel
theorem dX7_isSoWith_84 : decode cX7_isSoWith 84 = .ok (.iaload, 1) := by decide +kernel
theorem dX7_isSoWith_85 : decode cX7_isSoWith 85 = .ok (.imul, 1) := by decide +kernel
theorem dX7_isSoWith_86 : decode cX7_isSoWith 86 = .ok (.iadd, 1) := by decide +kernel
theorem dX7_isSoWith_87 : decode cX7_isSoWith 87 = .ok (.aload_n 0, 1) := by decide +kernel
theorem dX7_isSoWith_88 : decode cX7_isSoWith 88 = .ok (.getfield 7, 3) := by decide +kernel
theorem dX7_isSoWith_91 : decode cX7_isSoWith 91 = .ok (.iload 7, 2) := by decide +kernel
theorem dX7_isSoWith_93 : decode cX7_isSoWith 93 = .ok (.iconst 1, 1) := by decide +kernel
theorem dX7_isSoWith_94 : decode cX7_isSoWith 94 = .ok (.iadd, 1) := by decide +kernel
theorem dX7_isSoWith_95 : decode cX7_isSoWith 95 = .ok (.iaload, 1) := by decide +kernel
theorem dX7_isSoWith_96 : decode cX7_isSoWith 96 = .ok (.iadd, 1) := by decide +kernel
theorem dX7_isSoWith_97 : decode cX7_isSoWith 97 = .ok (.iaload, 1) := by decide +kernel
theorem dX7_isSoWith_98 : decode cX7_isSoWith 98 = .ok (.aload_n 0, 1) := by decide +kernel
theorem dX7_isSoWith_99 : decode cX7_isSoWith 99 = .ok (.getfield 7, 3) := by decide +kernel
theorem dX7_isSoWith_102 : decode cX7_isSoWith 102 = .ok (.iload 7, 2) := by decide +kernel
theorem dX7_isSoWith_104 : decode cX7_isSoWith 104 = .ok (.iconst 3, 1) := by decide +kernel
theorem dX7_isSoWith_105 : decode cX7_isSoWith 105 = .ok (.iadd, 1) := by decide +kernel
theorem dX7_isSoWith_106 : decode cX7_isSoWith 106 = .ok (.iaload, 1) := by decide +kernel
theorem dX7_isSoWith_107 : decode cX7_isSoWith 107 = .ok (.if_icmp .ne 7, 3) := by decide +kernel
theorem dX7_isSoWith_110 : decode cX7_isSoWith 110 = .ok (.iconst 1, 1) := by decide +kernel
theorem dX7_isSoWith_111 : decode cX7_isSoWith 111 = .ok (.goto 4, 3) := by decide +kernel
theorem dX7_isSoWith_114 : decode cX7_isSoWith 114 = .ok (.iconst 0, 1) := by decide +kernel
theorem dX7_isSoWith_115 : decode cX7_isSoWith 115 = .ok (.istore 4, 2) := by decide +kernel
theorem dX7_isSoWith_117 : decode cX7_isSoWith 117 = .ok (.iinc 6 1, 3) := by decide +kernel
theorem dX7_isSoWith_120 : decode cX7_isSoWith 120 = .ok (.goto (-89), 3) := by decide +kernel
theorem dX7_isSoWith_123 : decode cX7_isSoWith 123 = .ok (.iload 5, 2) := by decide +kernel
theorem dX7_isSoWith_125 : decode cX7_isSoWith 125 = .ok (.bipush 30, 2) := by decide +kernel
theorem dX7_isSoWith_127 : decode cX7_isSoWith 127 = .ok (.if_icmp .ge 8, 3) := by decide +kernel
theorem dX7_isSoWith_130 : decode cX7_isSoWith 130 = .ok (.aload_n 0, 1) := by decide +kernel
theorem dX7_isSoWith_131 : decode cX7_isSoWith 131 = .ok (.iconst 0, 1) := by decide +kernel
theorem dX7_isSoWith_132 : decode cX7_isSoWith 132 = .ok (.invokevirtual 178, 3) := by decide +kernel
theorem dX7_isSoWith_135 : decode cX7_isSoWith 135 = .ok (.iinc 5 1, 3) := by decide +kernel
theorem dX7_isSoWith_138 : decode cX7_isSoWith 138 = .ok (.goto (-117), 3) := by decide +kernel
theorem dX7_isSoWith_141 : decode cX7_isSoWith 141 = .ok (.iload 4, 2) := by decide +kernel
theorem dX7_isSoWith_143 : decode cX7_isSoWith 143 = .ok (.ireturn, 1) := by decide +kernel
def f_X7_isSoWith_J110 (v5 : Int32) (v6 : Int32) (s : St) : Option ((Int32 × Int32 × St) ⊕ ((Int32 × Int32 × St) ⊕ (Int32 × St))) := some (Sum.inl ((nI 1), (v6 + (nI 1)), s))
def f_X7_isSoWith_L31 (v5 : Int32) (v4 : Int32) (v6 : Int32) (s : St) : Option ((Int32 × Int32 × St) ⊕ ((Int32 × Int32 × St) ⊕ (Int32 × St))) := if inb (nI 106) (lnI 190) = true then if (s.1 190 ((nI 106)).toNatClampNeg) ≤ v6 then (if (nI 30) ≤ v5 then (some (Sum.inr (Sum.inl (v4, (v5 + (nI 1)), s)))) else (cl (f_X7_stepGoes (nI 0) s) (fun x11 s10 => some (Sum.inr (Sum.inl (v4, (v5 + (nI 1)), s10)))))) else (bd ((nI 107) + ((nI 4) * v6)) (fun x12 => if v4 = 0 then (some (Sum.inl ((nI 0), (v6 + (nI 1)), s))) else (if inb (x12 + (nI 2)) (lnI 190) = true then if ¬ (s.1 190 ((x12 + (nI 2))).toNatClampNeg) = v5 then (f_X7_isSoWith_J110 v5 v6 s) else (if inb x12 (lnI 190) = true then if inb (x12 + (nI 1)) (lnI 190) = true then if inb (((nI 20) + ((nI 3) * (s.1 190 (x12).toNatClampNeg))) + (s.1 190 ((x12 + (nI 1))).toNatClampNeg)) (lnI 191) = true then if inb (x12 + (nI 3)) (lnI 190) = true then if ¬ (s.1 191 ((((nI 20) + ((nI 3) * (s.1 190 (x12).toNatClampNeg))) + (s.1 190 ((x12 + (nI 1))).toNatClampNeg))).toNatClampNeg) = (s.1 190 ((x12 + (nI 3))).toNatClampNeg) then (some (Sum.inl ((nI 0), (v6 + (nI 1)), s))) else (f_X7_isSoWith_J110 v5 v6 s) else none else none else none else none) else none))) else none
def f_X7_isSoWith_L21 (v4 : Int32) (v5 : Int32) (s : St) : Option ((Int32 × Int32 × St) ⊕ (Int32 × St)) := if (nI 30) < v5 then (if v4 = 0 ∨ v4 = 1 then some (Sum.inr ((v4, s))) else none) else (lp (fun q : Int32 × Int32 × St => f_X7_isSoWith_L31 v5 q.1 q.2.1 q.2.2) Fu (v4, (nI 0), s))
def f_X7_isSoWith (a1 : Int32) (a2 : Int32) (a3 : Int32) (s : St) : Option (Int32 × St) := cl (f_X7_starts s) (fun x2 s1 => if inb (((nI 4) * a1) + a2) (lnI 191) = true then bd (wI s1 191 ((((nI 4) * a1) + a2)).toNatClampNeg a3) (fun s4 => lp (fun q : Int32 × Int32 × St => f_X7_isSoWith_L21 q.1 q.2.1 q.2.2) Fu ((nI 1), (nI 0), s4)) else none)
set_option maxHeartbeats 4000000 in
set_option maxRecDepth 100000 in
theorem e_X7_isSoWith_J110 {X : Cx} {Γ : Gm} {r0 : Rb} (hX : Amb X Γ cX7_isSoWith RX7 8 (some .boolean) 4) {v5 : Int32} {v6 : Int32} {s : St} {t : (Int32 × Int32 × St) ⊕ ((Int32 × Int32 × St) ⊕ (Int32 × St))} (h : f_X7_isSoWith_J110 v5 v6 s = some t) (hk : (Sum.elim (fun q : Int32 × Int32 × St => Zw X Γ 8 r0 q.2.2 31 [(0, .ref (gL Γ (189))), (4, .int q.1), (5, .int v5), (6, .int q.2.1)] []) (Sum.elim (fun q : Int32 × Int32 × St => Zw X Γ 8 r0 q.2.2 21 [(0, .ref (gL Γ (189))), (4, .int q.1), (5, .int q.2.1)] []) (fun t : Int32 × St => Rt X Γ r0 (some (Value.int t.1), t.2)))) t) : Zw X Γ 8 r0 s 110 [(0, .ref (gL Γ (189))), (5, .int v5), (6, .int v6)] [] := by
  unfold f_X7_isSoWith_J110 at h
  refine z_iconst hX (v := (nI 1)) dX7_isSoWith_110 rfl 111 rfl ?_
  refine z_goto hX 115 dX7_isSoWith_111 (by decide) ?_
  refine z_istore hX (lv2 := [(4, .int ((nI 1))), (0, .ref (gL Γ (189))), (5, .int v5), (6, .int v6)]) dX7_isSoWith_115 (by decide) rfl 117 rfl ?_
  refine z_iinc hX (v := (v6 + (nI 1))) (lv2 := [(6, .int ((v6 + (nI 1)))), (4, .int ((nI 1))), (0, .ref (gL Γ (189))), (5, .int v5)]) dX7_isSoWith_117 3 rfl rfl (by decide) rfl 120 rfl ?_
  refine z_goto hX 31 dX7_isSoWith_120 (by decide) ?_
  replace h := Option.some.inj h
  subst h
  exact z_sub [2, 1, 3, 0] rfl hk
set_option maxHeartbeats 4000000 in
set_option maxRecDepth 100000 in
theorem e_X7_isSoWith_L31 {X : Cx} {Γ : Gm} {r0 : Rb} (hX : Amb X Γ cX7_isSoWith RX7 8 (some .boolean) 4) {v5 : Int32} {v4 : Int32} {v6 : Int32} {s : St} {t : (Int32 × Int32 × St) ⊕ ((Int32 × Int32 × St) ⊕ (Int32 × St))} (h : f_X7_isSoWith_L31 v5 v4 v6 s = some t) (hk : (Sum.elim (fun q : Int32 × Int32 × St => Zw X Γ 8 r0 q.2.2 31 [(0, .ref (gL Γ (189))), (4, .int q.1), (5, .int v5), (6, .int q.2.1)] []) (Sum.elim (fun q : Int32 × Int32 × St => Zw X Γ 8 r0 q.2.2 21 [(0, .ref (gL Γ (189))), (4, .int q.1), (5, .int q.2.1)] []) (fun t : Int32 × St => Rt X Γ r0 (some (Value.int t.1), t.2)))) t) : Zw X Γ 8 r0 s 31 [(0, .ref (gL Γ (189))), (4, .int v4), (5, .int v5), (6, .int v6)] [] := by
  unfold f_X7_isSoWith_L31 at h
  refine z_iload hX dX7_isSoWith_31 3 rfl 33 rfl ?_
  refine z_aload_n hX dX7_isSoWith_33 0 rfl 34 rfl ?_
  refine z_get7 hX (k := 189) (j := 0) (v := .ref (gL Γ (190))) kdc_189 (by decide) rfl dX7_isSoWith_34 fl_X7_7 37 rfl ?_
  refine z_bipush hX (v := (nI 106)) dX7_isSoWith_37 (by decide) 39 rfl ?_
  replace h := gd_elim h
  obtain ⟨g7, h⟩ := h
  refine z_iald hX (inb_vp g7) dX7_isSoWith_39 40 rfl ?_
  refine z_icmp_ge hX 123 dX7_isSoWith_40 (by decide) 43 rfl (fun c8 => ?_) (fun c8 => ?_)
  · replace h := br_pos h c8
    refine z_iload hX dX7_isSoWith_123 2 rfl 125 rfl ?_
    refine z_bipush hX (v := (nI 30)) dX7_isSoWith_125 (by decide) 127 rfl ?_
    refine z_icmp_ge hX 135 dX7_isSoWith_127 (by decide) 130 rfl (fun c9 => ?_) (fun c9 => ?_)
    · replace h := br_pos h c9
      refine z_iinc hX (v := (v5 + (nI 1))) (lv2 := [(5, .int ((v5 + (nI 1)))), (0, .ref (gL Γ (189))), (4, .int v4), (6, .int v6)]) dX7_isSoWith_135 2 rfl rfl (by decide) rfl 138 rfl ?_
      refine z_goto hX 21 dX7_isSoWith_138 (by decide) ?_
      replace h := Option.some.inj h
      subst h
      exact z_sub [1, 2, 0] rfl hk
    · replace h := br_neg h c9
      refine z_aload_n hX dX7_isSoWith_130 0 rfl 131 rfl ?_
      refine z_iconst hX (v := (nI 0)) dX7_isSoWith_131 rfl 132 rfl ?_
      replace h := cl_elim h
      obtain ⟨x11, s10, hx11, h⟩ := h
      refine z_cV7v hX (b := 189) (As := [.int ((nI 0))]) (c_X7_stepGoes hx11) lk_X7_178 rfl kdc_189 ds_X7_stepGoes rfl (by decide) (by decide) (by decide) dX7_isSoWith_132 rfl 135 rfl ?_
      refine z_iinc hX (v := (v5 + (nI 1))) (lv2 := [(5, .int ((v5 + (nI 1)))), (0, .ref (gL Γ (189))), (4, .int v4), (6, .int v6)]) dX7_isSoWith_135 2 rfl rfl (by decide) rfl 138 rfl ?_
      refine z_goto hX 21 dX7_isSoWith_138 (by decide) ?_
      replace h := Option.some.inj h
      subst h
      exact z_sub [1, 2, 0] rfl hk
  · replace h := br_neg h c8
    refine z_bipush hX (v := (nI 107)) dX7_isSoWith_43 (by decide) 45 rfl ?_
    refine z_iconst hX (v := (nI 4)) dX7_isSoWith_45 rfl 46 rfl ?_
    refine z_iload hX dX7_isSoWith_46 3 rfl 48 rfl ?_
    refine z_imul hX dX7_isSoWith_48 49 rfl ?_
    refine z_iadd hX dX7_isSoWith_49 50 rfl ?_
    replace h := bd_elim h
    obtain ⟨x12, ex12, h⟩ := h
    refine z_nm ex12 ?_
    refine z_istore hX (lv2 := [(7, .int x12), (0, .ref (gL Γ (189))), (4, .int v4), (5, .int v5), (6, .int v6)]) dX7_isSoWith_50 (by decide) rfl 52 rfl ?_
    refine z_iload hX dX7_isSoWith_52 2 rfl 54 rfl ?_
    refine z_if_eq hX 114 dX7_isSoWith_54 (by decide) 57 rfl (fun c13 => ?_) (fun c13 => ?_)
    · replace h := br_pos h c13
      refine z_iconst hX (v := (nI 0)) dX7_isSoWith_114 rfl 115 rfl ?_
      refine z_istore hX (lv2 := [(4, .int ((nI 0))), (7, .int x12), (0, .ref (gL Γ (189))), (5, .int v5), (6, .int v6)]) dX7_isSoWith_115 (by decide) rfl 117 rfl ?_
      refine z_iinc hX (v := (v6 + (nI 1))) (lv2 := [(6, .int ((v6 + (nI 1)))), (4, .int ((nI 0))), (7, .int x12), (0, .ref (gL Γ (189))), (5, .int v5)]) dX7_isSoWith_117 4 rfl rfl (by decide) rfl 120 rfl ?_
      refine z_goto hX 31 dX7_isSoWith_120 (by decide) ?_
      replace h := Option.some.inj h
      subst h
      exact z_sub [3, 1, 4, 0] rfl hk
    · replace h := br_neg h c13
      refine z_aload_n hX dX7_isSoWith_57 1 rfl 58 rfl ?_
      refine z_get7 hX (k := 189) (j := 0) (v := .ref (gL Γ (190))) kdc_189 (by decide) rfl dX7_isSoWith_58 fl_X7_7 61 rfl ?_
      refine z_iload hX dX7_isSoWith_61 0 rfl 63 rfl ?_
      refine z_iconst hX (v := (nI 2)) dX7_isSoWith_63 rfl 64 rfl ?_
      refine z_iadd hX dX7_isSoWith_64 65 rfl ?_
      replace h := gd_elim h
      obtain ⟨g14, h⟩ := h
      refine z_iald hX (inb_vp g14) dX7_isSoWith_65 66 rfl ?_
      refine z_iload hX dX7_isSoWith_66 3 rfl 68 rfl ?_
      refine z_icmp_ne hX 110 dX7_isSoWith_68 (by decide) 71 rfl (fun c15 => ?_) (fun c15 => ?_)
      · replace h := br_pos h c15
        exact z_sub [1, 3, 4] rfl (e_X7_isSoWith_J110 hX h hk)
      · replace h := br_neg h c15
        refine z_aload_n hX dX7_isSoWith_71 1 rfl 72 rfl ?_
        refine z_get7 hX (k := 189) (j := 1) (v := .ref (gL Γ (191))) kdc_189 (by decide) rfl dX7_isSoWith_72 fl_X7_13 75 rfl ?_
        refine z_bipush hX (v := (nI 20)) dX7_isSoWith_75 (by decide) 77 rfl ?_
        refine z_iconst hX (v := (nI 3)) dX7_isSoWith_77 rfl 78 rfl ?_
        refine z_aload_n hX dX7_isSoWith_78 1 rfl 79 rfl ?_
        refine z_get7 hX (k := 189) (j := 0) (v := .ref (gL Γ (190))) kdc_189 (by decide) rfl dX7_isSoWith_79 fl_X7_7 82 rfl ?_
        refine z_iload hX dX7_isSoWith_82 0 rfl 84 rfl ?_
        replace h := gd_elim h
        obtain ⟨g16, h⟩ := h
        refine z_iald hX (inb_vp g16) dX7_isSoWith_84 85 rfl ?_
        refine z_imul hX dX7_isSoWith_85 86 rfl ?_
        refine z_iadd hX dX7_isSoWith_86 87 rfl ?_
        refine z_aload_n hX dX7_isSoWith_87 1 rfl 88 rfl ?_
        refine z_get7 hX (k := 189) (j := 0) (v := .ref (gL Γ (190))) kdc_189 (by decide) rfl dX7_isSoWith_88 fl_X7_7 91 rfl ?_
        refine z_iload hX dX7_isSoWith_91 0 rfl 93 rfl ?_
        refine z_iconst hX (v := (nI 1)) dX7_isSoWith_93 rfl 94 rfl ?_
        refine z_iadd hX dX7_isSoWith_94 95 rfl ?_
        replace h := gd_elim h
        obtain ⟨g17, h⟩ := h
        refine z_iald hX (inb_vp g17) dX7_isSoWith_95 96 rfl ?_
        refine z_iadd hX dX7_isSoWith_96 97 rfl ?_
        replace h := gd_elim h
        obtain ⟨g18, h⟩ := h
        refine z_iald hX (inb_vp g18) dX7_isSoWith_97 98 rfl ?_
        refine z_aload_n hX dX7_isSoWith_98 1 rfl 99 rfl ?_
        refine z_get7 hX (k := 189) (j := 0) (v := .ref (gL Γ (190))) kdc_189 (by decide) rfl dX7_isSoWith_99 fl_X7_7 102 rfl ?_
        refine z_iload hX dX7_isSoWith_102 0 rfl 104 rfl ?_
        refine z_iconst hX (v := (nI 3)) dX7_isSoWith_104 rfl 105 rfl ?_
        refine z_iadd hX dX7_isSoWith_105 106 rfl ?_
        replace h := gd_elim h
        obtain ⟨g19, h⟩ := h
        refine z_iald hX (inb_vp g19) dX7_isSoWith_106 107 rfl ?_
        refine z_icmp_ne hX 114 dX7_isSoWith_107 (by decide) 110 rfl (fun c20 => ?_) (fun c20 => ?_)
        · replace h := br_pos h c20
          refine z_iconst hX (v := (nI 0)) dX7_isSoWith_114 rfl 115 rfl ?_
          refine z_istore hX (lv2 := [(4, .int ((nI 0))), (7, .int x12), (0, .ref (gL Γ (189))), (5, .int v5), (6, .int v6)]) dX7_isSoWith_115 (by decide) rfl 117 rfl ?_
          refine z_iinc hX (v := (v6 + (nI 1))) (lv2 := [(6, .int ((v6 + (nI 1)))), (4, .int ((nI 0))), (7, .int x12), (0, .ref (gL Γ (189))), (5, .int v5)]) dX7_isSoWith_117 4 rfl rfl (by decide) rfl 120 rfl ?_
          refine z_goto hX 31 dX7_isSoWith_120 (by decide) ?_
          replace h := Option.some.inj h
          subst h
          exact z_sub [3, 1, 4, 0] rfl hk
        · replace h := br_neg h c20
          exact z_sub [1, 3, 4] rfl (e_X7_isSoWith_J110 hX h hk)
set_option maxHeartbeats 4000000 in
set_option maxRecDepth 100000 in
theorem e_X7_isSoWith_L21 {X : Cx} {Γ : Gm} {r0 : Rb} (hX : Amb X Γ cX7_isSoWith RX7 8 (some .boolean) 4) {v4 : Int32} {v5 : Int32} {s : St} {t : (Int32 × Int32 × St) ⊕ (Int32 × St)} (h : f_X7_isSoWith_L21 v4 v5 s = some t) (hk : (Sum.elim (fun q : Int32 × Int32 × St => Zw X Γ 8 r0 q.2.2 21 [(0, .ref (gL Γ (189))), (4, .int q.1), (5, .int q.2.1)] []) (fun t : Int32 × St => Rt X Γ r0 (some (Value.int t.1), t.2))) t) : Zw X Γ 8 r0 s 21 [(0, .ref (gL Γ (189))), (4, .int v4), (5, .int v5)] [] := by
  unfold f_X7_isSoWith_L21 at h
  refine z_iload hX dX7_isSoWith_21 2 rfl 23 rfl ?_
  refine z_bipush hX (v := (nI 30)) dX7_isSoWith_23 (by decide) 25 rfl ?_
  refine z_icmp_gt hX 141 dX7_isSoWith_25 (by decide) 28 rfl (fun c5 => ?_) (fun c5 => ?_)
  · replace h := br_pos h c5
    refine z_iload hX dX7_isSoWith_141 1 rfl 143 rfl ?_
    replace h := gd_elim h
    obtain ⟨g6, h⟩ := h
    replace h := Option.some.inj h
    subst h
    exact z_zret hX dX7_isSoWith_143 rfl g6 hk
  · replace h := br_neg h c5
    refine z_iconst hX (v := (nI 0)) dX7_isSoWith_28 rfl 29 rfl ?_
    refine z_istore hX (lv2 := [(6, .int ((nI 0))), (0, .ref (gL Γ (189))), (4, .int v4), (5, .int v5)]) dX7_isSoWith_29 (by decide) rfl 31 rfl ?_
    exact z_sub [1, 2, 3, 0] rfl (lp_ok (Z := fun q : Int32 × Int32 × St => Zw X Γ 8 r0 q.2.2 31 [(0, .ref (gL Γ (189))), (4, .int q.1), (5, .int v5), (6, .int q.2.1)] []) (fun q t h hk => e_X7_isSoWith_L31 hX h hk) Fu _ _ h hk)
set_option maxHeartbeats 4000000 in
set_option maxRecDepth 100000 in
theorem e_X7_isSoWith {X : Cx} {Γ : Gm} {r0 : Rb} (hX : Amb X Γ cX7_isSoWith RX7 8 (some .boolean) 4) {a1 : Int32} {a2 : Int32} {a3 : Int32} {s : St} {t : Int32 × St} (h : f_X7_isSoWith a1 a2 a3 s = some t) (hk : (fun t : Int32 × St => Rt X Γ r0 (some (Value.int t.1), t.2)) t) : Zw X Γ 8 r0 s 0 [(0, .ref (gL Γ (189))), (1, .int a1), (2, .int a2), (3, .int a3)] [] := by
  unfold f_X7_isSoWith at h
  refine z_iconst hX (v := (nI 1)) dX7_isSoWith_0 rfl 1 rfl ?_
  refine z_istore hX (lv2 := [(4, .int ((nI 1))), (0, .ref (gL Γ (189))), (1, .int a1), (2, .int a2), (3, .int a3)]) dX7_isSoWith_1 (by decide) rfl 3 rfl ?_
  refine z_aload_n hX dX7_isSoWith_3 1 rfl 4 rfl ?_
  replace h := cl_elim h
  obtain ⟨x2, s1, hx2, h⟩ := h
  refine z_cV7v hX (b := 189) (As := []) (c_X7_starts hx2) lk_X7_188 rfl kdc_189 ds_X7_starts rfl (by decide) (by decide) (by decide) dX7_isSoWith_4 rfl 7 rfl ?_
  refine z_aload_n hX dX7_isSoWith_7 1 rfl 8 rfl ?_
  refine z_get7 hX (k := 189) (j := 1) (v := .ref (gL Γ (191))) kdc_189 (by decide) rfl dX7_isSoWith_8 fl_X7_13 11 rfl ?_
  refine z_iconst hX (v := (nI 4)) dX7_isSoWith_11 rfl 12 rfl ?_
  refine z_iload_n hX dX7_isSoWith_12 2 rfl 13 rfl ?_
  refine z_imul hX dX7_isSoWith_13 14 rfl ?_
  refine z_iload_n hX dX7_isSoWith_14 3 rfl 15 rfl ?_
  refine z_iadd hX dX7_isSoWith_15 16 rfl ?_
  refine z_iload_n hX dX7_isSoWith_16 4 rfl 17 rfl ?_
  replace h := gd_elim h
  obtain ⟨g3, h⟩ := h
  replace h := bd_elim h
  obtain ⟨s4, es4, h⟩ := h
  refine z_iast hX (inb_vp g3) dX7_isSoWith_17 es4 18 rfl ?_
  refine z_iconst hX (v := (nI 0)) dX7_isSoWith_18 rfl 19 rfl ?_
  refine z_istore hX (lv2 := [(5, .int ((nI 0))), (4, .int ((nI 1))), (0, .ref (gL Γ (189))), (1, .int a1), (2, .int a2), (3, .int a3)]) dX7_isSoWith_19 (by decide) rfl 21 rfl ?_
  exact z_sub [2, 1, 0] rfl (lp_ok (Z := fun q : Int32 × Int32 × St => Zw X Γ 8 r0 q.2.2 21 [(0, .ref (gL Γ (189))), (4, .int q.1), (5, .int q.2.1)] []) (fun q t h hk => e_X7_isSoWith_L21 hX h hk) Fu _ _ h hk)
theorem c_X7_isSoWith {lc : Launch} {Γ : Gm} {a1 : Int32} {a2 : Int32} {a3 : Int32} {s s2 : St} {v : Int32} (h : f_X7_isSoWith a1 a2 a3 s = some (v, s2)) : Ct lc Γ yX7_isSoWith cX7_isSoWith 8 (some .boolean) 4 [.ref (gL Γ (189)), .int a1, .int a2, .int a3] s (some (.int v), s2) := Ct.of (by decide +kernel) (Nat.le_of_ble_eq_true rfl) (fun X hl hX => e_X7_isSoWith hX h rfl)
theorem dX7_kinds_0 : decode cX7_kinds 0 = .ok (.aload_n 0, 1) := by decide +kernel
theorem dX7_kinds_1 : decode cX7_kinds 1 = .ok (.iload_n 1, 1) := by decide +kernel
theorem dX7_kinds_2 : decode cX7_kinds 2 = .ok (.invokevirtual 203, 3) := by decide +kernel
theorem dX7_kinds_5 : decode cX7_kinds 5 = .ok (.ifCond .ne 5, 3) := by decide +kernel
theorem dX7_kinds_8 : decode cX7_kinds 8 = .ok (.iconst (-1), 1) := by decide +kernel
theorem dX7_kinds_9 : decode cX7_kinds 9 = .ok (.ireturn, 1) := by decide +kernel
theorem dX7_kinds_10 : decode cX7_kinds 10 = .ok (.iconst 0, 1) := by decide +kernel
theorem dX7_kinds_11 : decode cX7_kinds 11 = .ok (.istore_n 2, 1) := by decide +kernel
theorem dX7_kinds_12 : decode cX7_kinds 12 = .ok (.iconst 0, 1) := by decide +kernel
theorem dX7_kinds_13 : decode cX7_kinds 13 = .ok (.istore_n 3, 1) := by decide +kernel
theorem dX7_kinds_14 : decode cX7_kinds 14 = .ok (.iload_n 3, 1) := by decide +kernel
theorem dX7_kinds_15 : decode cX7_kinds 15 = .ok (.iconst 4, 1) := by decide +kernel
theorem dX7_kinds_16 : decode cX7_kinds 16 = .ok (.if_icmp .ge 24, 3) := by decide +kernel
theorem dX7_kinds_19 : decode cX7_kinds 19 = .ok (.iload_n 2, 1) := by decide +kernel
theorem dX7_kinds_20 : decode cX7_kinds 20 = .ok (.aload_n 0, 1) := by decide +kernel
theorem dX7_kinds_21 : decode cX7_kinds 21 = .ok (.iload_n 1, 1) := by decide +kernel
theorem dX7_kinds_22 : decode cX7_kinds 22 = .ok (.iconst 0, 1) := by decide +kernel
theorem dX7_kinds_23 : decode cX7_kinds 23 = .ok (.iload_n 3, 1) := by decide +kernel
theorem dX7_kinds_24 : decode cX7_kinds 24 = .ok (.invokevirtual 285, 3) := by decide +kernel
theorem dX7_kinds_27 : decode cX7_kinds 27 = .ok (.invokestatic 288, 3) := by decide +kernel
theorem dX7_kinds_30 : decode cX7_kinds 30 = .ok (.iload_n 3, 1) := by decide +kernel
theorem dX7_kinds_31 : decode cX7_kinds 31 = .ok (.ishl, 1) := by decide +kernel
theorem dX7_kinds_32 : decode cX7_kinds 32 = .ok (.ior, 1) := by decide +kernel
theorem dX7_kinds_33 : decode cX7_kinds 33 = .ok (.istore_n 2, 1) := by decide +kernel
theorem dX7_kinds_34 : decode cX7_kinds 34 = .ok (.iinc 3 1, 3) := by decide +kernel
theorem dX7_kinds_37 : decode cX7_kinds 37 = .ok (.goto (-23), 3) := by decide +kernel
theorem dX7_kinds_40 : decode cX7_kinds 40 = .ok (.iload_n 2, 1) := by decide +kernel
theorem dX7_kinds_41 : decode cX7_kinds 41 = .ok (.ireturn, 1) := by decide +kernel
def f_X7_kinds_L14 (v1 : Int32) (v2 : Int32) (v3 : Int32) (s : St) : Option ((Int32 × Int32 × St) ⊕ (Int32 × St)) := if (nI 4) ≤ v3 then (some (Sum.inr ((v2, s)))) else (cl (f_X7_isSoWith v1 (nI 0) v3 s) (fun x6 s5 => cl (f_X7_flag x6 s5) (fun x8 s7 => bd (v2 ||| (x8 <<< (v3 &&& 31))) (fun x9 => some (Sum.inl (x9, (v3 + (nI 1)), s7))))))
def f_X7_kinds (a1 : Int32) (s : St) : Option (Int32 × St) := cl (f_X7_isLife a1 s) (fun x2 s1 => if ¬ x2 = 0 then (lp (fun q : Int32 × Int32 × St => f_X7_kinds_L14 a1 q.1 q.2.1 q.2.2) Fu ((nI 0), (nI 0), s1)) else (some (((-1), s1))))
set_option maxHeartbeats 4000000 in
set_option maxRecDepth 100000 in
theorem e_X7_kinds_L14 {X : Cx} {Γ : Gm} {r0 : Rb} (hX : Amb X Γ cX7_kinds RX7 4 (some .int) 5) {v1 : Int32} {v2 : Int32} {v3 : Int32} {s : St} {t : (Int32 × Int32 × St) ⊕ (Int32 × St)} (h : f_X7_kinds_L14 v1 v2 v3 s = some t) (hk : (Sum.elim (fun q : Int32 × Int32 × St => Zw X Γ 4 r0 q.2.2 14 [(0, .ref (gL Γ (189))), (1, .int v1), (2, .int q.1), (3, .int q.2.1)] []) (fun t : Int32 × St => Rt X Γ r0 (some (Value.int t.1), t.2))) t) : Zw X Γ 4 r0 s 14 [(0, .ref (gL Γ (189))), (1, .int v1), (2, .int v2), (3, .int v3)] [] := by
  unfold f_X7_kinds_L14 at h
  refine z_iload_n hX dX7_kinds_14 3 rfl 15 rfl ?_
  refine z_iconst hX (v := (nI 4)) dX7_kinds_15 rfl 16 rfl ?_
  refine z_icmp_ge hX 40 dX7_kinds_16 (by decide) 19 rfl (fun c4 => ?_) (fun c4 => ?_)
  · replace h := br_pos h c4
    refine z_iload_n hX dX7_kinds_40 2 rfl 41 rfl ?_
    replace h := Option.some.inj h
    subst h
    exact z_iret hX dX7_kinds_41 rfl hk
  · replace h := br_neg h c4
    refine z_iload_n hX dX7_kinds_19 2 rfl 20 rfl ?_
    refine z_aload_n hX dX7_kinds_20 0 rfl 21 rfl ?_
    refine z_iload_n hX dX7_kinds_21 1 rfl 22 rfl ?_
    refine z_iconst hX (v := (nI 0)) dX7_kinds_22 rfl 23 rfl ?_
    refine z_iload_n hX dX7_kinds_23 3 rfl 24 rfl ?_
    replace h := cl_elim h
    obtain ⟨x6, s5, hx6, h⟩ := h
    refine z_cV7i hX (b := 189) (As := [.int v1, .int ((nI 0)), .int v3]) (c_X7_isSoWith hx6) lk_X7_285 rfl kdc_189 ds_X7_isSoWith rfl (by decide) (by decide) (Nat.le_of_ble_eq_true rfl) dX7_kinds_24 rfl 27 rfl ?_
    replace h := cl_elim h
    obtain ⟨x8, s7, hx8, h⟩ := h
    refine z_cSi hX (As := [.int x6]) (c_X7_flag hx8) lk_X7_288 ds_X7_flag rfl (by decide) (by decide) (Nat.le_of_ble_eq_true rfl) dX7_kinds_27 rfl 30 rfl ?_
    refine z_iload_n hX dX7_kinds_30 3 rfl 31 rfl ?_
    refine z_ishl hX dX7_kinds_31 32 rfl ?_
    refine z_ior hX dX7_kinds_32 33 rfl ?_
    replace h := bd_elim h
    obtain ⟨x9, ex9, h⟩ := h
    refine z_nm ex9 ?_
    refine z_istore_n hX (lv2 := [(2, .int x9), (0, .ref (gL Γ (189))), (1, .int v1), (3, .int v3)]) dX7_kinds_33 (by decide) rfl 34 rfl ?_
    refine z_iinc hX (v := (v3 + (nI 1))) (lv2 := [(3, .int ((v3 + (nI 1)))), (2, .int x9), (0, .ref (gL Γ (189))), (1, .int v1)]) dX7_kinds_34 3 rfl rfl (by decide) rfl 37 rfl ?_
    refine z_goto hX 14 dX7_kinds_37 (by decide) ?_
    replace h := Option.some.inj h
    subst h
    exact z_sub [2, 3, 1, 0] rfl hk
set_option maxHeartbeats 4000000 in
set_option maxRecDepth 100000 in
theorem e_X7_kinds {X : Cx} {Γ : Gm} {r0 : Rb} (hX : Amb X Γ cX7_kinds RX7 4 (some .int) 5) {a1 : Int32} {s : St} {t : Int32 × St} (h : f_X7_kinds a1 s = some t) (hk : (fun t : Int32 × St => Rt X Γ r0 (some (Value.int t.1), t.2)) t) : Zw X Γ 4 r0 s 0 [(0, .ref (gL Γ (189))), (1, .int a1)] [] := by
  unfold f_X7_kinds at h
  refine z_aload_n hX dX7_kinds_0 0 rfl 1 rfl ?_
  refine z_iload_n hX dX7_kinds_1 1 rfl 2 rfl ?_
  replace h := cl_elim h
  obtain ⟨x2, s1, hx2, h⟩ := h
  refine z_cV7i hX (b := 189) (As := [.int a1]) (c_X7_isLife hx2) lk_X7_203 rfl kdc_189 ds_X7_isLife rfl (by decide) (by decide) (by decide) dX7_kinds_2 rfl 5 rfl ?_
  refine z_if_ne hX 10 dX7_kinds_5 (by decide) 8 rfl (fun c3 => ?_) (fun c3 => ?_)
  · replace h := br_pos h c3
    refine z_iconst hX (v := (nI 0)) dX7_kinds_10 rfl 11 rfl ?_
    refine z_istore_n hX (lv2 := [(2, .int ((nI 0))), (0, .ref (gL Γ (189))), (1, .int a1)]) dX7_kinds_11 (by decide) rfl 12 rfl ?_
    refine z_iconst hX (v := (nI 0)) dX7_kinds_12 rfl 13 rfl ?_
    refine z_istore_n hX (lv2 := [(3, .int ((nI 0))), (2, .int ((nI 0))), (0, .ref (gL Γ (189))), (1, .int a1)]) dX7_kinds_13 (by decide) rfl 14 rfl ?_
    exact z_sub [2, 3, 1, 0] rfl (lp_ok (Z := fun q : Int32 × Int32 × St => Zw X Γ 4 r0 q.2.2 14 [(0, .ref (gL Γ (189))), (1, .int a1), (2, .int q.1), (3, .int q.2.1)] []) (fun q t h hk => e_X7_kinds_L14 hX h hk) Fu _ _ h hk)
  · replace h := br_neg h c3
    refine z_iconst hX (v := (-1)) dX7_kinds_8 rfl 9 rfl ?_
    replace h := Option.some.inj h
    subst h
    exact z_iret hX dX7_kinds_9 rfl hk
theorem c_X7_kinds {lc : Launch} {Γ : Gm} {a1 : Int32} {s s2 : St} {v : Int32} (h : f_X7_kinds a1 s = some (v, s2)) : Ct lc Γ yX7_kinds cX7_kinds 4 (some .int) 5 [.ref (gL Γ (189)), .int a1] s (some (.int v), s2) := Ct.of (by decide +kernel) (Nat.le_of_ble_eq_true rfl) (fun X hl hX => e_X7_kinds hX h rfl)
theorem dX7_froms_0 : decode cX7_froms 0 = .ok (.aload_n 0, 1) := by decide +kernel
theorem dX7_froms_1 : decode cX7_froms 1 = .ok (.iload_n 1, 1) := by decide +kernel
theorem dX7_froms_2 : decode cX7_froms 2 = .ok (.invokevirtual 203, 3) := by decide +kernel
theorem dX7_froms_5 : decode cX7_froms 5 = .ok (.ifCond .eq 10, 3) := by decide +kernel
theorem dX7_froms_8 : decode cX7_froms 8 = .ok (.iload_n 2, 1) := by decide +kernel
theorem dX7_froms_9 : decode cX7_froms 9 = .ok (.invokestatic 251, 3) := by decide +kernel
theorem dX7_froms_12 : decode cX7_froms 12 = .ok (.ifCond .ne 5, 3) := by decide +kernel
theorem dX7_froms_15 : decode cX7_froms 15 = .ok (.iconst (-1), 1) := by decide +kernel
theorem dX7_froms_16 : decode cX7_froms 16 = .ok (.ireturn, 1) := by decide +kernel
theorem dX7_froms_17 : decode cX7_froms 17 = .ok (.iconst 0, 1) := by decide +kernel
theorem dX7_froms_18 : decode cX7_froms 18 = .ok (.istore_n 3, 1) := by decide +kernel
theorem dX7_froms_19 : decode cX7_froms 19 = .ok (.bipush (-4), 2) := by decide +kernel
theorem dX7_froms_21 : decode cX7_froms 21 = .ok (.istore 4, 2) := by decide +kernel
theorem dX7_froms_23 : decode cX7_froms 23 = .ok (.iconst 0, 1) := by decide +kernel
theorem dX7_froms_24 : decode cX7_froms 24 = .ok (.istore 5, 2) := by decide +kernel
theorem dX7_froms_26 : decode cX7_froms 26 = .ok (.iload 5, 2) := by decide +kernel
theorem dX7_froms_28 : decode cX7_froms 28 = .ok (.bipush 20, 2) := by decide +kernel
theorem dX7_froms_30 : decode cX7_froms 30 = .ok (.if_icmp .ge 39, 3) := by decide +kernel
theorem dX7_froms_33 : decode cX7_froms 33 = .ok (.aload_n 0, 1) := by decide +kernel
theorem dX7_froms_34 : decode cX7_froms 34 = .ok (.iload_n 1, 1) := by decide +kernel
theorem dX7_froms_35 : decode cX7_froms 35 = .ok (.iconst 1, 1) := by decide +kernel
theorem dX7_froms_36 : decode cX7_froms 36 = .ok (.iload 5, 2) := by decide +kernel
theorem dX7_froms_38 : decode cX7_froms 38 = .ok (.invokevirtual 285, 3) := by decide +kernel
theorem dX7_froms_41 : decode cX7_froms 41 = .ok (.ifCond .eq 22, 3) := by decide +kernel
theorem dX7_froms_44 : decode cX7_froms 44 = .ok (.iload_n 3, 1) := by decide +kernel
theorem dX7_froms_45 : decode cX7_froms 45 = .ok (.ifCond .ne 11, 3) := by decide +kernel
theorem dX7_froms_48 : decode cX7_froms 48 = .ok (.iload 5, 2) := by decide +kernel
theorem dX7_froms_50 : decode cX7_froms 50 = .ok (.invokestatic 200, 3) := by decide +kernel
theorem dX7_froms_53 : decode cX7_froms 53 = .ok (.goto 5, 3) := by decide +kernel
theorem dX7_froms_56 : decode cX7_froms 56 = .ok (.iload 4, 2) := by decide +kernel
theorem dX7_froms_58 : decode cX7_froms 58 = .ok (.istore 4, 2) := by decide +kernel
theorem dX7_froms_60 : decode cX7_froms 60 = .ok (.iinc 3 1, 3) := by decide +kernel
theorem dX7_froms_63 : decode cX7_froms 63 = .ok (.iinc 5 1, 3) := by decide +kernel
theorem dX7_froms_66 : decode cX7_froms 66 = .ok (.goto (-40), 3) := by decide +kernel
theorem dX7_froms_69 : decode cX7_froms 69 = .ok (.iload_n 2, 1) := by decide +kernel
theorem dX7_froms_70 : decode cX7_froms 70 = .ok (.ifCond .ne 7, 3) := by decide +kernel
theorem dX7_froms_73 : decode cX7_froms 73 = .ok (.iload_n 3, 1) := by decide +kernel
theorem dX7_froms_74 : decode cX7_froms 74 = .ok (.goto 5, 3) := by decide +kernel
theorem dX7_froms_77 : decode cX7_froms 77 = .ok (.iload 4, 2) := by decide +kernel
theorem dX7_froms_79 : decode cX7_froms 79 = .ok (.ireturn, 1) := by decide +kernel
def f_X7_froms_L26 (v1 : Int32) (v2 : Int32) (v3 : Int32) (v4 : Int32) (v5 : Int32) (s : St) : Option ((Int32 × Int32 × Int32 × St) ⊕ (Int32 × St)) := if (nI 20) ≤ v5 then (if ¬ v2 = 0 then (some (Sum.inr ((v4, s)))) else (some (Sum.inr ((v3, s))))) else (cl (f_X7_isSoWith v1 (nI 1) v5 s) (fun x10 s9 => if x10 = 0 then (some (Sum.inl (v3, v4, (v5 + (nI 1)), s9))) else (if ¬ v3 = 0 then (some (Sum.inl ((v3 + (nI 1)), v4, (v5 + (nI 1)), s9))) else (cl (f_X7_nameOf v5 s9) (fun x14 s13 => some (Sum.inl ((v3 + (nI 1)), x14, (v5 + (nI 1)), s13)))))))
def f_X7_froms (a1 : Int32) (a2 : Int32) (s : St) : Option (Int32 × St) := cl (f_X7_isLife a1 s) (fun x2 s1 => if x2 = 0 then (some (((-1), s1))) else (cl (f_X7_isPart a2 s1) (fun x5 s4 => if ¬ x5 = 0 then (lp (fun q : Int32 × Int32 × Int32 × St => f_X7_froms_L26 a1 a2 q.1 q.2.1 q.2.2.1 q.2.2.2) Fu ((nI 0), (-4), (nI 0), s4)) else (some (((-1), s4))))))
set_option maxHeartbeats 4000000 in
set_option maxRecDepth 100000 in
theorem e_X7_froms_L26 {X : Cx} {Γ : Gm} {r0 : Rb} (hX : Amb X Γ cX7_froms RX7 6 (some .int) 5) {v1 : Int32} {v2 : Int32} {v3 : Int32} {v4 : Int32} {v5 : Int32} {s : St} {t : (Int32 × Int32 × Int32 × St) ⊕ (Int32 × St)} (h : f_X7_froms_L26 v1 v2 v3 v4 v5 s = some t) (hk : (Sum.elim (fun q : Int32 × Int32 × Int32 × St => Zw X Γ 6 r0 q.2.2.2 26 [(0, .ref (gL Γ (189))), (1, .int v1), (2, .int v2), (3, .int q.1), (4, .int q.2.1), (5, .int q.2.2.1)] []) (fun t : Int32 × St => Rt X Γ r0 (some (Value.int t.1), t.2))) t) : Zw X Γ 6 r0 s 26 [(0, .ref (gL Γ (189))), (1, .int v1), (2, .int v2), (3, .int v3), (4, .int v4), (5, .int v5)] [] := by
  unfold f_X7_froms_L26 at h
  refine z_iload hX dX7_froms_26 5 rfl 28 rfl ?_
  refine z_bipush hX (v := (nI 20)) dX7_froms_28 (by decide) 30 rfl ?_
  refine z_icmp_ge hX 69 dX7_froms_30 (by decide) 33 rfl (fun c7 => ?_) (fun c7 => ?_)
  · replace h := br_pos h c7
    refine z_iload_n hX dX7_froms_69 2 rfl 70 rfl ?_
    refine z_if_ne hX 77 dX7_froms_70 (by decide) 73 rfl (fun c8 => ?_) (fun c8 => ?_)
    · replace h := br_pos h c8
      refine z_iload hX dX7_froms_77 4 rfl 79 rfl ?_
      replace h := Option.some.inj h
      subst h
      exact z_iret hX dX7_froms_79 rfl hk
    · replace h := br_neg h c8
      refine z_iload_n hX dX7_froms_73 3 rfl 74 rfl ?_
      refine z_goto hX 79 dX7_froms_74 (by decide) ?_
      replace h := Option.some.inj h
      subst h
      exact z_iret hX dX7_froms_79 rfl hk
  · replace h := br_neg h c7
    refine z_aload_n hX dX7_froms_33 0 rfl 34 rfl ?_
    refine z_iload_n hX dX7_froms_34 1 rfl 35 rfl ?_
    refine z_iconst hX (v := (nI 1)) dX7_froms_35 rfl 36 rfl ?_
    refine z_iload hX dX7_froms_36 5 rfl 38 rfl ?_
    replace h := cl_elim h
    obtain ⟨x10, s9, hx10, h⟩ := h
    refine z_cV7i hX (b := 189) (As := [.int v1, .int ((nI 1)), .int v5]) (c_X7_isSoWith hx10) lk_X7_285 rfl kdc_189 ds_X7_isSoWith rfl (by decide) (by decide) (by decide) dX7_froms_38 rfl 41 rfl ?_
    refine z_if_eq hX 63 dX7_froms_41 (by decide) 44 rfl (fun c11 => ?_) (fun c11 => ?_)
    · replace h := br_pos h c11
      refine z_iinc hX (v := (v5 + (nI 1))) (lv2 := [(5, .int ((v5 + (nI 1)))), (0, .ref (gL Γ (189))), (1, .int v1), (2, .int v2), (3, .int v3), (4, .int v4)]) dX7_froms_63 5 rfl rfl (by decide) rfl 66 rfl ?_
      refine z_goto hX 26 dX7_froms_66 (by decide) ?_
      replace h := Option.some.inj h
      subst h
      exact z_sub [1, 2, 3, 4, 5, 0] rfl hk
    · replace h := br_neg h c11
      refine z_iload_n hX dX7_froms_44 3 rfl 45 rfl ?_
      refine z_if_ne hX 56 dX7_froms_45 (by decide) 48 rfl (fun c12 => ?_) (fun c12 => ?_)
      · replace h := br_pos h c12
        refine z_iload hX dX7_froms_56 4 rfl 58 rfl ?_
        refine z_istore hX (lv2 := [(4, .int v4), (0, .ref (gL Γ (189))), (1, .int v1), (2, .int v2), (3, .int v3), (5, .int v5)]) dX7_froms_58 (by decide) rfl 60 rfl ?_
        refine z_iinc hX (v := (v3 + (nI 1))) (lv2 := [(3, .int ((v3 + (nI 1)))), (4, .int v4), (0, .ref (gL Γ (189))), (1, .int v1), (2, .int v2), (5, .int v5)]) dX7_froms_60 4 rfl rfl (by decide) rfl 63 rfl ?_
        refine z_iinc hX (v := (v5 + (nI 1))) (lv2 := [(5, .int ((v5 + (nI 1)))), (3, .int ((v3 + (nI 1)))), (4, .int v4), (0, .ref (gL Γ (189))), (1, .int v1), (2, .int v2)]) dX7_froms_63 5 rfl rfl (by decide) rfl 66 rfl ?_
        refine z_goto hX 26 dX7_froms_66 (by decide) ?_
        replace h := Option.some.inj h
        subst h
        exact z_sub [3, 4, 5, 1, 2, 0] rfl hk
      · replace h := br_neg h c12
        refine z_iload hX dX7_froms_48 5 rfl 50 rfl ?_
        replace h := cl_elim h
        obtain ⟨x14, s13, hx14, h⟩ := h
        refine z_cSi hX (As := [.int v5]) (c_X7_nameOf hx14) lk_X7_200 ds_X7_nameOf rfl (by decide) (by decide) (by decide) dX7_froms_50 rfl 53 rfl ?_
        refine z_goto hX 58 dX7_froms_53 (by decide) ?_
        refine z_istore hX (lv2 := [(4, .int x14), (0, .ref (gL Γ (189))), (1, .int v1), (2, .int v2), (3, .int v3), (5, .int v5)]) dX7_froms_58 (by decide) rfl 60 rfl ?_
        refine z_iinc hX (v := (v3 + (nI 1))) (lv2 := [(3, .int ((v3 + (nI 1)))), (4, .int x14), (0, .ref (gL Γ (189))), (1, .int v1), (2, .int v2), (5, .int v5)]) dX7_froms_60 4 rfl rfl (by decide) rfl 63 rfl ?_
        refine z_iinc hX (v := (v5 + (nI 1))) (lv2 := [(5, .int ((v5 + (nI 1)))), (3, .int ((v3 + (nI 1)))), (4, .int x14), (0, .ref (gL Γ (189))), (1, .int v1), (2, .int v2)]) dX7_froms_63 5 rfl rfl (by decide) rfl 66 rfl ?_
        refine z_goto hX 26 dX7_froms_66 (by decide) ?_
        replace h := Option.some.inj h
        subst h
        exact z_sub [3, 4, 5, 1, 2, 0] rfl hk
set_option maxHeartbeats 4000000 in
set_option maxRecDepth 100000 in
theorem e_X7_froms {X : Cx} {Γ : Gm} {r0 : Rb} (hX : Amb X Γ cX7_froms RX7 6 (some .int) 5) {a1 : Int32} {a2 : Int32} {s : St} {t : Int32 × St} (h : f_X7_froms a1 a2 s = some t) (hk : (fun t : Int32 × St => Rt X Γ r0 (some (Value.int t.1), t.2)) t) : Zw X Γ 6 r0 s 0 [(0, .ref (gL Γ (189))), (1, .int a1), (2, .int a2)] [] := by
  unfold f_X7_froms at h
  refine z_aload_n hX dX7_froms_0 0 rfl 1 rfl ?_
  refine z_iload_n hX dX7_froms_1 1 rfl 2 rfl ?_
  replace h := cl_elim h
  obtain ⟨x2, s1, hx2, h⟩ := h
  refine z_cV7i hX (b := 189) (As := [.int a1]) (c_X7_isLife hx2) lk_X7_203 rfl kdc_189 ds_X7_isLife rfl (by decide) (by decide) (by decide) dX7_froms_2 rfl 5 rfl ?_
  refine z_if_eq hX 15 dX7_froms_5 (by decide) 8 rfl (fun c3 => ?_) (fun c3 => ?_)
  · replace h := br_pos h c3
    refine z_iconst hX (v := (-1)) dX7_froms_15 rfl 16 rfl ?_
    replace h := Option.some.inj h
    subst h
    exact z_iret hX dX7_froms_16 rfl hk
  · replace h := br_neg h c3
    refine z_iload_n hX dX7_froms_8 2 rfl 9 rfl ?_
    replace h := cl_elim h
    obtain ⟨x5, s4, hx5, h⟩ := h
    refine z_cSi hX (As := [.int a2]) (c_X7_isPart hx5) lk_X7_251 ds_X7_isPart rfl (by decide) (by decide) (by decide) dX7_froms_9 rfl 12 rfl ?_
    refine z_if_ne hX 17 dX7_froms_12 (by decide) 15 rfl (fun c6 => ?_) (fun c6 => ?_)
    · replace h := br_pos h c6
      refine z_iconst hX (v := (nI 0)) dX7_froms_17 rfl 18 rfl ?_
      refine z_istore_n hX (lv2 := [(3, .int ((nI 0))), (0, .ref (gL Γ (189))), (1, .int a1), (2, .int a2)]) dX7_froms_18 (by decide) rfl 19 rfl ?_
      refine z_bipush hX (v := (-4)) dX7_froms_19 (by decide) 21 rfl ?_
      refine z_istore hX (lv2 := [(4, .int ((-4))), (3, .int ((nI 0))), (0, .ref (gL Γ (189))), (1, .int a1), (2, .int a2)]) dX7_froms_21 (by decide) rfl 23 rfl ?_
      refine z_iconst hX (v := (nI 0)) dX7_froms_23 rfl 24 rfl ?_
      refine z_istore hX (lv2 := [(5, .int ((nI 0))), (4, .int ((-4))), (3, .int ((nI 0))), (0, .ref (gL Γ (189))), (1, .int a1), (2, .int a2)]) dX7_froms_24 (by decide) rfl 26 rfl ?_
      exact z_sub [3, 4, 5, 2, 1, 0] rfl (lp_ok (Z := fun q : Int32 × Int32 × Int32 × St => Zw X Γ 6 r0 q.2.2.2 26 [(0, .ref (gL Γ (189))), (1, .int a1), (2, .int a2), (3, .int q.1), (4, .int q.2.1), (5, .int q.2.2.1)] []) (fun q t h hk => e_X7_froms_L26 hX h hk) Fu _ _ h hk)
    · replace h := br_neg h c6
      refine z_iconst hX (v := (-1)) dX7_froms_15 rfl 16 rfl ?_
      replace h := Option.some.inj h
      subst h
      exact z_iret hX dX7_froms_16 rfl hk
theorem c_X7_froms {lc : Launch} {Γ : Gm} {a1 : Int32} {a2 : Int32} {s s2 : St} {v : Int32} (h : f_X7_froms a1 a2 s = some (v, s2)) : Ct lc Γ yX7_froms cX7_froms 6 (some .int) 5 [.ref (gL Γ (189)), .int a1, .int a2] s (some (.int v), s2) := Ct.of (by decide +kernel) (Nat.le_of_ble_eq_true rfl) (fun X hl hX => e_X7_froms hX h rfl)
theorem dX7_ask_0 : decode cX7_ask 0 = .ok (.aload_n 0, 1) := by decide +kernel
theorem dX7_ask_1 : decode cX7_ask 1 = .ok (.iload_n 1, 1) := by decide +kernel
theorem dX7_ask_2 : decode cX7_ask 2 = .ok (.invokevirtual 203, 3) := by decide +kernel
theorem dX7_ask_5 : decode cX7_ask 5 = .ok (.ifCond .eq 10, 3) := by decide +kernel
theorem dX7_ask_8 : decode cX7_ask 8 = .ok (.iload_n 2, 1) := by decide +kernel
theorem dX7_ask_9 : decode cX7_ask 9 = .ok (.invokestatic 251, 3) := by decide +kernel
theorem dX7_ask_12 : decode cX7_ask 12 = .ok (.ifCond .ne 5, 3) := by decide +kernel
theorem dX7_ask_15 : decode cX7_ask 15 = .ok (.iconst (-1), 1) := by decide +kernel
theorem dX7_ask_16 : decode cX7_ask 16 = .ok (.ireturn, 1) := by decide +kernel
theorem dX7_ask_17 : decode cX7_ask 17 = .ok (.iconst 0, 1) := by decide +kernel
theorem dX7_ask_18 : decode cX7_ask 18 = .ok (.istore_n 3, 1) := by decide +kernel
theorem dX7_ask_19 : decode cX7_ask 19 = .ok (.iconst 0, 1) := by decide +kernel
theorem dX7_ask_20 : decode cX7_ask 20 = .ok (.istore 4, 2) := by decide +kernel
theorem dX7_ask_22 : decode cX7_ask 22 = .ok (.iload 4, 2) := by decide +kernel
theorem dX7_ask_24 : decode cX7_ask 24 = .ok (.bipush 20, 2) := by decide +kernel
theorem dX7_ask_26 : decode cX7_ask 26 = .ok (.if_icmp .ge 66, 3) := by decide +kernel
theorem dX7_ask_29 : decode cX7_ask 29 = .ok (.aload_n 0, 1) := by decide +kernel
theorem dX7_ask_30 : decode cX7_ask 30 = .ok (.iload_n 1, 1) := by decide +kernel
theorem dX7_ask_31 : decode cX7_ask 31 = .ok (.iconst 1, 1) := by decide +kernel
theorem dX7_ask_32 : decode cX7_ask 32 = .ok (.iload 4, 2) := by decide +kernel
theorem dX7_ask_34 : decode cX7_ask 34 = .ok (.invokevirtual 285, 3) := by decide +kernel
theorem dX7_ask_37 : decode cX7_ask 37 = .ok (.ifCond .eq 49, 3) := by decide +kernel
theorem dX7_ask_40 : decode cX7_ask 40 = .ok (.iconst 0, 1) := by decide +kernel
theorem dX7_ask_41 : decode cX7_ask 41 = .ok (.istore 5, 2) := by decide +kernel
theorem dX7_ask_43 : decode cX7_ask 43 = .ok (.iload 5, 2) := by decide +kernel
theorem dX7_ask_45 : decode cX7_ask 45 = .ok (.aload_n 0, 1) := by decide +kernel
theorem dX7_ask_46 : decode cX7_ask 46 = .ok (.getfield 72, 3) := by decide +kernel
theorem dX7_ask_49 : decode cX7_ask 49 = .ok (.if_icmp .ge 34, 3) := by decide +kernel
theorem dX7_ask_52 : decode cX7_ask 52 = .ok (.aload_n 0, 1) := by decide +kernel
theorem dX7_ask_53 : decode cX7_ask 53 = .ok (.getfield 29, 3) := by decide +kernel
theorem dX7_ask_56 : decode cX7_ask 56 = .ok (.iconst 4, 1) := by decide +kernel
theorem dX7_ask_57 : decode cX7_ask 57 = .ok (.iload_n 3, 1) := by decide +kernel
theorem dX7_ask_58 : decode cX7_ask 58 = .ok (.imul, 1) := by decide +kernel
theorem dX7_ask_59 : decode cX7_ask 59 = .ok (.iload 5, 2) := by decide +kernel
theorem dX7_ask_61 : decode cX7_ask 61 = .ok (.iadd, 1) := by decide +kernel
theorem dX7_ask_62 : decode cX7_ask 62 = .ok (.aload_n 0, 1) := by decide +kernel
theorem dX7_ask_63 : decode cX7_ask 63 = .ok (.getfield 13, 3) := by decide +kernel
theorem dX7_ask_66 : decode cX7_ask 66 = .ok (.bipush 20, 2) := by decide +kernel
theorem dX7_ask_68 : decode cX7_ask 68 = .ok (.iconst 3, 1) := by decide +kernel
theorem dX7_ask_69 : decode cX7_ask 69 = .ok (.iload 5, 2) := by decide +kernel
theorem dX7_ask_71 : decode cX7_ask 71 = .ok (.imul, 1) := by decide +kernel
theorem dX7_ask_72 : decode cX7_ask 72 = .ok (.iadd, 1) := by decide +kernel
theorem dX7_ask_73 : decode cX7_ask 73 = .ok (.iload_n 1, 1) := by decide +kernel
theorem dX7_ask_74 : decode cX7_ask 74 = .ok (.iadd, 1) := by decide +kernel
theorem dX7_ask_75 : decode cX7_ask 75 = .ok (.iaload, 1) := by decide +kernel
theorem dX7_ask_76 : decode cX7_ask 76 = .ok (.iastore, 1) := by decide +kernel
theorem dX7_ask_77 : decode cX7_ask 77 = .ok (.iinc 5 1, 3) := by decide +kernel
theorem dX7_ask_80 : decode cX7_ask 80 = .ok (.goto (-37), 3) := by decide +kernel
theorem dX7_ask_83 : decode cX7_ask 83 = .ok (.iinc 3 1, 3) := by decide +kernel
theorem dX7_ask_86 : decode cX7_ask 86 = .ok (.iinc 4 1, 3) := by decide +kernel
theorem dX7_ask_89 : decode cX7_ask 89 = .ok (.goto (-67), 3) := by decide +kernel
theorem dX7_ask_92 : decode cX7_ask 92 = .ok (.iload_n 3, 1) := by decide +kernel
theorem dX7_ask_93 : decode cX7_ask 93 = .ok (.istore 4, 2) := by decide +kernel
theorem dX7_ask_95 : decode cX7_ask 95 = .ok (.bipush (-4), 2) := by decide +kernel
theorem dX7_ask_97 : decode cX7_ask 97 = .ok (.istore 5, 2) := by decide +kernel
theorem dX7_ask_99 : decode cX7_ask 99 = .ok (.iconst 0, 1) := by decide +kernel
theorem dX7_ask_100 : decode cX7_ask 100 = .ok (.istore 6, 2) := by decide +kernel
theorem dX7_ask_102 : decode cX7_ask 102 = .ok (.iload 6, 2) := by decide +kernel
theorem dX7_ask_104 : decode cX7_ask 104 = .ok (.aload_n 0, 1) := by decide +kernel
theorem dX7_ask_105 : decode cX7_ask 105 = .ok (.getfield 72, 3) := by decide +kernel
theorem dX7_ask_108 : decode cX7_ask 108 = .ok (.if_icmp .ge 126, 3) := by decide +kernel
theorem dX7_ask_111 : decode cX7_ask 111 = .ok (.iconst 0, 1) := by decide +kernel
theorem dX7_ask_112 : decode cX7_ask 112 = .ok (.istore 7, 2) := by decide +kernel
theorem dX7_ask_114 : decode cX7_ask 114 = .ok (.iconst 0, 1) := by decide +kernel
theorem dX7_ask_115 : decode cX7_ask 115 = .ok (.istore 8, 2) := by decide +kernel
theorem dX7_ask_117 : decode cX7_ask 117 = .ok (.iload 8, 2) := by decide +kernel
theorem dX7_ask_119 : decode cX7_ask 119 = .ok (.iload_n 3, 1) := by decide +kernel
theorem dX7_ask_120 : decode cX7_ask 120 = .ok (.if_icmp .ge 83, 3) := by decide +kernel
theorem dX7_ask_123 : decode cX7_ask 123 = .ok (.iconst 0, 1) := by decide +kernel
theorem dX7_ask_124 : decode cX7_ask 124 = .ok (.istore 9, 2) := by decide +kernel
theorem dX7_ask_126 : decode cX7_ask 126 = .ok (.iconst 0, 1) := by decide +kernel
theorem dX7_ask_127 : decode cX7_ask 127 = .ok (.istore 10, 2) := by decide +kernel
theorem dX7_ask_129 : decode cX7_ask 129 = .ok (.iload 10, 2) := by decide +kernel
theorem dX7_ask_131 : decode cX7_ask 131 = .ok (.iload_n 3, 1) := by decide +kernel
theorem dX7_ask_132 : decode cX7_ask 132 = .ok (.if_icmp .ge 49, 3) := by decide +kernel
theorem dX7_ask_135 : decode cX7_ask 135 = .ok (.iload 9, 2) := by decide +kernel
theorem dX7_ask_137 : decode cX7_ask 137 = .ok (.aload_n 0, 1) := by decide +kernel
theorem dX7_ask_138 : decode cX7_ask 138 = .ok (.getfield 29, 3) := by decide +kernel
theorem dX7_ask_141 : decode cX7_ask 141 = .ok (.iconst 4, 1) := by decide +kernel
theorem dX7_ask_142 : decode cX7_ask 142 = .ok (.iload 8, 2) := by decide +kernel
theorem dX7_ask_144 : decode cX7_ask 144 = .ok (.imul, 1) := by decide +kernel
theorem dX7_ask_145 : decode cX7_ask 145 = .ok (.iload 6, 2) := by decide +kernel
theorem dX7_ask_147 : decode cX7_ask 147 = .ok (.iadd, 1) := by decide +kernel
theorem dX7_ask_148 : decode cX7_ask 148 = .ok (.iaload, 1) := by decide +kernel
theorem dX7_ask_149 : decode cX7_ask 149 = .ok (.aload_n 0, 1) := by decide +kernel
theorem dX7_ask_150 : decode cX7_ask 150 = .ok (.getfield 29, 3) := by decide +kernel
theorem dX7_ask_153 : decode cX7_ask 153 = .ok (.iconst 4, 1) := by decide +kernel
theorem dX7_ask_154 : decode cX7_ask 154 = .ok (.iload 10, 2) := by decide +kernel
theorem dX7_ask_156 : decode cX7_ask 156 = .ok (.imul, 1) := by decide +kernel
theorem dX7_ask_157 : decode cX7_ask 157 = .ok (.iload 6, 2) := by decide +kernel
theorem dX7_ask_159 : decode cX7_ask 159 = .ok (.iadd, 1) := by decide +kernel
theorem dX7_ask_160 : decode cX7_ask 160 = .ok (.iaload, 1) := by decide +kernel
theorem dX7_ask_161 : decode cX7_ask 161 = .ok (.if_icmp .ne 7, 3) := by decide +kernel
theorem dX7_ask_164 : decode cX7_ask 164 = .ok (.iconst 1, 1) := by decide +kernel
theorem dX7_ask_165 : decode cX7_ask 165 = .ok (.goto 4, 3) := by decide +kernel
theorem dX7_ask_168 : decode cX7_ask 168 = .ok (.iconst 0, 1) := by decide +kernel
theorem dX7_ask_169 : decode cX7_ask 169 = .ok (.invokestatic 288, 3) := by decide +kernel
theorem dX7_ask_172 : decode cX7_ask 172 = .ok (.iadd, 1) := by decide +kernel
theorem dX7_ask_173 : decode cX7_ask 173 = .ok (.istore 9, 2) := by decide +kernel
theorem dX7_ask_175 : decode cX7_ask 175 = .ok (.iinc 10 1, 3) := by decide +kernel
theorem dX7_ask_178 : decode cX7_ask 178 = .ok (.goto (-49), 3) := by decide +kernel
theorem dX7_ask_181 : decode cX7_ask 181 = .ok (.iload 9, 2) := by decide +kernel
theorem dX7_ask_183 : decode cX7_ask 183 = .ok (.iload 7, 2) := by decide +kernel
theorem dX7_ask_185 : decode cX7_ask 185 = .ok (.if_icmp .le 8, 3) := by decide +kernel
theorem dX7_ask_188 : decode cX7_ask 188 = .ok (.iload 9, 2) := by decide +kernel
theorem dX7_ask_190 : decode cX7_ask 190 = .ok (.goto 5, 3) := by decide +kernel
theorem dX7_ask_193 : decode cX7_ask 193 = .ok (.iload 7, 2) := by decide +kernel
theorem dX7_ask_195 : decode cX7_ask 195 = .ok (.istore 7, 2) := by decide +kernel
theorem dX7_ask_197 : decode cX7_ask 197 = .ok (.iinc 8 1, 3) := by decide +kernel
theorem dX7_ask_200 : decode cX7_ask 200 = .ok (.goto (-83), 3) := by decide +kernel
theorem dX7_ask_203 : decode cX7_ask 203 = .ok (.iload 7, 2) := by decide +kernel
theorem dX7_ask_205 : decode cX7_ask 205 = .ok (.iload 4, 2) := by decide +kernel
theorem dX7_ask_207 : decode cX7_ask 207 = .ok (.if_icmp .ge 8, 3) := by decide +kernel
theorem dX7_ask_210 : decode cX7_ask 210 = .ok (.iload 6, 2) := by decide +kernel
theorem dX7_ask_212 : decode cX7_ask 212 = .ok (.goto 5, 3) := by decide +kernel
theorem dX7_ask_215 : decode cX7_ask 215 = .ok (.iload 5, 2) := by decide +kernel
theorem dX7_ask_217 : decode cX7_ask 217 = .ok (.istore 5, 2) := by decide +kernel
theorem dX7_ask_219 : decode cX7_ask 219 = .ok (.iload 7, 2) := by decide +kernel
theorem dX7_ask_221 : decode cX7_ask 221 = .ok (.iload 4, 2) := by decide +kernel
theorem dX7_ask_223 : decode cX7_ask 223 = .ok (.invokestatic 156, 3) := by decide +kernel
theorem dX7_ask_226 : decode cX7_ask 226 = .ok (.istore 4, 2) := by decide +kernel
theorem dX7_ask_228 : decode cX7_ask 228 = .ok (.iinc 6 1, 3) := by decide +kernel
theorem dX7_ask_231 : decode cX7_ask 231 = .ok (.goto (-129), 3) := by decide +kernel
theorem dX7_ask_234 : decode cX7_ask 234 = .ok (.iload 5, 2) := by decide +kernel
theorem dX7_ask_236 : decode cX7_ask 236 = .ok (.bipush (-4), 2) := by decide +kernel
theorem dX7_ask_238 : decode cX7_ask 238 = .ok (.if_icmp .ne 8, 3) := by decide +kernel
theorem dX7_ask_241 : decode cX7_ask 241 = .ok (.bipush (-4), 2) := by decide +kernel
theorem dX7_ask_243 : decode cX7_ask 243 = .ok (.goto 14, 3) := by decide +kernel
theorem dX7_ask_246 : decode cX7_ask 246 = .ok (.iload_n 2, 1) := by decide +kernel
theorem dX7_ask_247 : decode cX7_ask 247 = .ok (.ifCond .ne 8, 3) := by decide +kernel
theorem dX7_ask_250 : decode cX7_ask 250 = .ok (.iload 5, 2) := by decide +kernel
theorem dX7_ask_252 : decode cX7_ask 252 = .ok (.goto 5, 3) := by decide +kernel
theorem dX7_ask_255 : decode cX7_ask 255 = .ok (.iload 4, 2) := by decide +kernel
theorem dX7_ask_257 : decode cX7_ask 257 = .ok (.ireturn, 1) := by decide +kernel
def f_X7_ask_J217 (v2 : Int32) (v3 : Int32) (v4 : Int32) (v6 : Int32) (v7 : Int32) (k0 : Int32) (s : St) : Option ((Int32 × Int32 × Int32 × St) ⊕ (Int32 × St)) := cl (f_X7_lesser v7 v4 s) (fun x21 s20 => some (Sum.inl (x21, k0, (v6 + (nI 1)), s20)))
def f_X7_ask_J169 (v2 : Int32) (v3 : Int32) (v4 : Int32) (v5 : Int32) (v6 : Int32) (v7 : Int32) (v8 : Int32) (v10 : Int32) (k0 : Int32) (k1 : Int32) (s : St) : Option ((Int32 × Int32 × St) ⊕ ((Int32 × Int32 × St) ⊕ ((Int32 × Int32 × Int32 × St) ⊕ (Int32 × St)))) := cl (f_X7_flag k0 s) (fun x28 s27 => bd (k1 + x28) (fun x29 => some (Sum.inl (x29, (v10 + (nI 1)), s27))))
def f_X7_ask_L129 (v2 : Int32) (v3 : Int32) (v4 : Int32) (v5 : Int32) (v6 : Int32) (v7 : Int32) (v8 : Int32) (v9 : Int32) (v10 : Int32) (s : St) : Option ((Int32 × Int32 × St) ⊕ ((Int32 × Int32 × St) ⊕ ((Int32 × Int32 × Int32 × St) ⊕ (Int32 × St)))) := if v3 ≤ v10 then (if v9 ≤ v7 then (some (Sum.inr (Sum.inl (v7, (v8 + (nI 1)), s)))) else (some (Sum.inr (Sum.inl (v9, (v8 + (nI 1)), s))))) else (if inb (((nI 4) * v8) + v6) (lnI 196) = true then if inb (((nI 4) * v10) + v6) (lnI 196) = true then if ¬ (s.1 196 ((((nI 4) * v8) + v6)).toNatClampNeg) = (s.1 196 ((((nI 4) * v10) + v6)).toNatClampNeg) then (f_X7_ask_J169 v2 v3 v4 v5 v6 v7 v8 v10 (nI 0) v9 s) else (f_X7_ask_J169 v2 v3 v4 v5 v6 v7 v8 v10 (nI 1) v9 s) else none else none)
def f_X7_ask_L117 (v2 : Int32) (v3 : Int32) (v4 : Int32) (v5 : Int32) (v6 : Int32) (v7 : Int32) (v8 : Int32) (s : St) : Option ((Int32 × Int32 × St) ⊕ ((Int32 × Int32 × Int32 × St) ⊕ (Int32 × St))) := if v3 ≤ v8 then (if v4 ≤ v7 then (ox (f_X7_ask_J217 v2 v3 v4 v6 v7 v5 s)) else (ox (f_X7_ask_J217 v2 v3 v4 v6 v7 v6 s))) else (lp (fun q : Int32 × Int32 × St => f_X7_ask_L129 v2 v3 v4 v5 v6 v7 v8 q.1 q.2.1 q.2.2) Fu ((nI 0), (nI 0), s))
def f_X7_ask_L102 (v2 : Int32) (v3 : Int32) (v4 : Int32) (v5 : Int32) (v6 : Int32) (s : St) : Option ((Int32 × Int32 × Int32 × St) ⊕ (Int32 × St)) := if (s.1 189 4) ≤ v6 then (if ¬ v5 = (-4) then (if ¬ v2 = 0 then (some (Sum.inr ((v4, s)))) else (some (Sum.inr ((v5, s))))) else (some (Sum.inr (((-4), s))))) else (lp (fun q : Int32 × Int32 × St => f_X7_ask_L117 v2 v3 v4 v5 v6 q.1 q.2.1 q.2.2) Fu ((nI 0), (nI 0), s))
def f_X7_ask_L43 (v1 : Int32) (v2 : Int32) (v3 : Int32) (v4 : Int32) (v5 : Int32) (s : St) : Option ((Int32 × St) ⊕ ((Int32 × Int32 × St) ⊕ (Int32 × St))) := if (s.1 189 4) ≤ v5 then (some (Sum.inr (Sum.inl ((v3 + (nI 1)), (v4 + (nI 1)), s)))) else (if inb (((nI 20) + ((nI 3) * v5)) + v1) (lnI 191) = true then if inb (((nI 4) * v3) + v5) (lnI 196) = true then bd (wI s 196 ((((nI 4) * v3) + v5)).toNatClampNeg (s.1 191 ((((nI 20) + ((nI 3) * v5)) + v1)).toNatClampNeg)) (fun s17 => some (Sum.inl ((v5 + (nI 1)), s17))) else none else none)
def f_X7_ask_L22 (v1 : Int32) (v2 : Int32) (v3 : Int32) (v4 : Int32) (s : St) : Option ((Int32 × Int32 × St) ⊕ (Int32 × St)) := if (nI 20) ≤ v4 then (ox (lp (fun q : Int32 × Int32 × Int32 × St => f_X7_ask_L102 v2 v3 q.1 q.2.1 q.2.2.1 q.2.2.2) Fu (v3, (-4), (nI 0), s))) else (cl (f_X7_isSoWith v1 (nI 1) v4 s) (fun x9 s8 => if x9 = 0 then (some (Sum.inl (v3, (v4 + (nI 1)), s8))) else (lp (fun q : Int32 × St => f_X7_ask_L43 v1 v2 v3 v4 q.1 q.2) Fu ((nI 0), s8))))
def f_X7_ask (a1 : Int32) (a2 : Int32) (s : St) : Option (Int32 × St) := cl (f_X7_isLife a1 s) (fun x2 s1 => if x2 = 0 then (some (((-1), s1))) else (cl (f_X7_isPart a2 s1) (fun x5 s4 => if ¬ x5 = 0 then (lp (fun q : Int32 × Int32 × St => f_X7_ask_L22 a1 a2 q.1 q.2.1 q.2.2) Fu ((nI 0), (nI 0), s4)) else (some (((-1), s4))))))
set_option maxHeartbeats 4000000 in
set_option maxRecDepth 100000 in
theorem e_X7_ask_J217 {X : Cx} {Γ : Gm} {r0 : Rb} (hX : Amb X Γ cX7_ask RX7 11 (some .int) 5) {v2 : Int32} {v3 : Int32} {v4 : Int32} {v6 : Int32} {v7 : Int32} {k0 : Int32} {s : St} {t : (Int32 × Int32 × Int32 × St) ⊕ (Int32 × St)} (h : f_X7_ask_J217 v2 v3 v4 v6 v7 k0 s = some t) (hk : (Sum.elim (fun q : Int32 × Int32 × Int32 × St => Zw X Γ 11 r0 q.2.2.2 102 [(0, .ref (gL Γ (189))), (2, .int v2), (3, .int v3), (4, .int q.1), (5, .int q.2.1), (6, .int q.2.2.1)] []) (fun t : Int32 × St => Rt X Γ r0 (some (Value.int t.1), t.2))) t) : Zw X Γ 11 r0 s 217 [(0, .ref (gL Γ (189))), (2, .int v2), (3, .int v3), (4, .int v4), (6, .int v6), (7, .int v7)] [.int k0] := by
  unfold f_X7_ask_J217 at h
  refine z_istore hX (lv2 := [(5, .int k0), (0, .ref (gL Γ (189))), (2, .int v2), (3, .int v3), (4, .int v4), (6, .int v6), (7, .int v7)]) dX7_ask_217 (by decide) rfl 219 rfl ?_
  refine z_iload hX dX7_ask_219 6 rfl 221 rfl ?_
  refine z_iload hX dX7_ask_221 4 rfl 223 rfl ?_
  replace h := cl_elim h
  obtain ⟨x21, s20, hx21, h⟩ := h
  refine z_cSi hX (As := [.int v7, .int v4]) (c_X7_lesser hx21) lk_X7_156 ds_X7_lesser rfl (by decide) (by decide) (by decide) dX7_ask_223 rfl 226 rfl ?_
  refine z_istore hX (lv2 := [(4, .int x21), (5, .int k0), (0, .ref (gL Γ (189))), (2, .int v2), (3, .int v3), (6, .int v6), (7, .int v7)]) dX7_ask_226 (by decide) rfl 228 rfl ?_
  refine z_iinc hX (v := (v6 + (nI 1))) (lv2 := [(6, .int ((v6 + (nI 1)))), (4, .int x21), (5, .int k0), (0, .ref (gL Γ (189))), (2, .int v2), (3, .int v3), (7, .int v7)]) dX7_ask_228 5 rfl rfl (by decide) rfl 231 rfl ?_
  refine z_goto hX 102 dX7_ask_231 (by decide) ?_
  replace h := Option.some.inj h
  subst h
  exact z_sub [3, 4, 5, 1, 2, 0] rfl hk
set_option maxHeartbeats 4000000 in
set_option maxRecDepth 100000 in
theorem e_X7_ask_J169 {X : Cx} {Γ : Gm} {r0 : Rb} (hX : Amb X Γ cX7_ask RX7 11 (some .int) 5) {v2 : Int32} {v3 : Int32} {v4 : Int32} {v5 : Int32} {v6 : Int32} {v7 : Int32} {v8 : Int32} {v10 : Int32} {k0 : Int32} {k1 : Int32} {s : St} {t : (Int32 × Int32 × St) ⊕ ((Int32 × Int32 × St) ⊕ ((Int32 × Int32 × Int32 × St) ⊕ (Int32 × St)))} (h : f_X7_ask_J169 v2 v3 v4 v5 v6 v7 v8 v10 k0 k1 s = some t) (hk : (Sum.elim (fun q : Int32 × Int32 × St => Zw X Γ 11 r0 q.2.2 129 [(0, .ref (gL Γ (189))), (2, .int v2), (3, .int v3), (4, .int v4), (5, .int v5), (6, .int v6), (7, .int v7), (8, .int v8), (9, .int q.1), (10, .int q.2.1)] []) (Sum.elim (fun q : Int32 × Int32 × St => Zw X Γ 11 r0 q.2.2 117 [(0, .ref (gL Γ (189))), (2, .int v2), (3, .int v3), (4, .int v4), (5, .int v5), (6, .int v6), (7, .int q.1), (8, .int q.2.1)] []) (Sum.elim (fun q : Int32 × Int32 × Int32 × St => Zw X Γ 11 r0 q.2.2.2 102 [(0, .ref (gL Γ (189))), (2, .int v2), (3, .int v3), (4, .int q.1), (5, .int q.2.1), (6, .int q.2.2.1)] []) (fun t : Int32 × St => Rt X Γ r0 (some (Value.int t.1), t.2))))) t) : Zw X Γ 11 r0 s 169 [(0, .ref (gL Γ (189))), (2, .int v2), (3, .int v3), (4, .int v4), (5, .int v5), (6, .int v6), (7, .int v7), (8, .int v8), (10, .int v10)] [.int k0, .int k1] := by
  unfold f_X7_ask_J169 at h
  replace h := cl_elim h
  obtain ⟨x28, s27, hx28, h⟩ := h
  refine z_cSi hX (As := [.int k0]) (c_X7_flag hx28) lk_X7_288 ds_X7_flag rfl (by decide) (by decide) (Nat.le_of_ble_eq_true rfl) dX7_ask_169 rfl 172 rfl ?_
  refine z_iadd hX dX7_ask_172 173 rfl ?_
  replace h := bd_elim h
  obtain ⟨x29, ex29, h⟩ := h
  refine z_nm ex29 ?_
  refine z_istore hX (lv2 := [(9, .int x29), (0, .ref (gL Γ (189))), (2, .int v2), (3, .int v3), (4, .int v4), (5, .int v5), (6, .int v6), (7, .int v7), (8, .int v8), (10, .int v10)]) dX7_ask_173 (by decide) rfl 175 rfl ?_
  refine z_iinc hX (v := (v10 + (nI 1))) (lv2 := [(10, .int ((v10 + (nI 1)))), (9, .int x29), (0, .ref (gL Γ (189))), (2, .int v2), (3, .int v3), (4, .int v4), (5, .int v5), (6, .int v6), (7, .int v7), (8, .int v8)]) dX7_ask_175 9 rfl rfl (by decide) rfl 178 rfl ?_
  refine z_goto hX 129 dX7_ask_178 (by decide) ?_
  replace h := Option.some.inj h
  subst h
  exact z_sub [2, 3, 4, 5, 6, 7, 8, 9, 1, 0] rfl hk
set_option maxHeartbeats 4000000 in
set_option maxRecDepth 100000 in
theorem e_X7_ask_L129 {X : Cx} {Γ : Gm} {r0 : Rb} (hX : Amb X Γ cX7_ask RX7 11 (some .int) 5) {v2 : Int32} {v3 : Int32} {v4 : Int32} {v5 : Int32} {v6 : Int32} {v7 : Int32} {v8 : Int32} {v9 : Int32} {v10 : Int32} {s : St} {t : (Int32 × Int32 × St) ⊕ ((Int32 × Int32 × St) ⊕ ((Int32 × Int32 × Int32 × St) ⊕ (Int32 × St)))} (h : f_X7_ask_L129 v2 v3 v4 v5 v6 v7 v8 v9 v10 s = some t) (hk : (Sum.elim (fun q : Int32 × Int32 × St => Zw X Γ 11 r0 q.2.2 129 [(0, .ref (gL Γ (189))), (2, .int v2), (3, .int v3), (4, .int v4), (5, .int v5), (6, .int v6), (7, .int v7), (8, .int v8), (9, .int q.1), (10, .int q.2.1)] []) (Sum.elim (fun q : Int32 × Int32 × St => Zw X Γ 11 r0 q.2.2 117 [(0, .ref (gL Γ (189))), (2, .int v2), (3, .int v3), (4, .int v4), (5, .int v5), (6, .int v6), (7, .int q.1), (8, .int q.2.1)] []) (Sum.elim (fun q : Int32 × Int32 × Int32 × St => Zw X Γ 11 r0 q.2.2.2 102 [(0, .ref (gL Γ (189))), (2, .int v2), (3, .int v3), (4, .int q.1), (5, .int q.2.1), (6, .int q.2.2.1)] []) (fun t : Int32 × St => Rt X Γ r0 (some (Value.int t.1), t.2))))) t) : Zw X Γ 11 r0 s 129 [(0, .ref (gL Γ (189))), (2, .int v2), (3, .int v3), (4, .int v4), (5, .int v5), (6, .int v6), (7, .int v7), (8, .int v8), (9, .int v9), (10, .int v10)] [] := by
  unfold f_X7_ask_L129 at h
  refine z_iload hX dX7_ask_129 9 rfl 131 rfl ?_
  refine z_iload_n hX dX7_ask_131 2 rfl 132 rfl ?_
  refine z_icmp_ge hX 181 dX7_ask_132 (by decide) 135 rfl (fun c22 => ?_) (fun c22 => ?_)
  · replace h := br_pos h c22
    refine z_iload hX dX7_ask_181 8 rfl 183 rfl ?_
    refine z_iload hX dX7_ask_183 6 rfl 185 rfl ?_
    refine z_icmp_le hX 193 dX7_ask_185 (by decide) 188 rfl (fun c23 => ?_) (fun c23 => ?_)
    · replace h := br_pos h c23
      refine z_iload hX dX7_ask_193 6 rfl 195 rfl ?_
      refine z_istore hX (lv2 := [(7, .int v7), (0, .ref (gL Γ (189))), (2, .int v2), (3, .int v3), (4, .int v4), (5, .int v5), (6, .int v6), (8, .int v8), (9, .int v9), (10, .int v10)]) dX7_ask_195 (by decide) rfl 197 rfl ?_
      refine z_iinc hX (v := (v8 + (nI 1))) (lv2 := [(8, .int ((v8 + (nI 1)))), (7, .int v7), (0, .ref (gL Γ (189))), (2, .int v2), (3, .int v3), (4, .int v4), (5, .int v5), (6, .int v6), (9, .int v9), (10, .int v10)]) dX7_ask_197 7 rfl rfl (by decide) rfl 200 rfl ?_
      refine z_goto hX 117 dX7_ask_200 (by decide) ?_
      replace h := Option.some.inj h
      subst h
      exact z_sub [2, 3, 4, 5, 6, 7, 1, 0] rfl hk
    · replace h := br_neg h c23
      refine z_iload hX dX7_ask_188 8 rfl 190 rfl ?_
      refine z_goto hX 195 dX7_ask_190 (by decide) ?_
      refine z_istore hX (lv2 := [(7, .int v9), (0, .ref (gL Γ (189))), (2, .int v2), (3, .int v3), (4, .int v4), (5, .int v5), (6, .int v6), (8, .int v8), (9, .int v9), (10, .int v10)]) dX7_ask_195 (by decide) rfl 197 rfl ?_
      refine z_iinc hX (v := (v8 + (nI 1))) (lv2 := [(8, .int ((v8 + (nI 1)))), (7, .int v9), (0, .ref (gL Γ (189))), (2, .int v2), (3, .int v3), (4, .int v4), (5, .int v5), (6, .int v6), (9, .int v9), (10, .int v10)]) dX7_ask_197 7 rfl rfl (by decide) rfl 200 rfl ?_
      refine z_goto hX 117 dX7_ask_200 (by decide) ?_
      replace h := Option.some.inj h
      subst h
      exact z_sub [2, 3, 4, 5, 6, 7, 1, 0] rfl hk
  · replace h := br_neg h c22
    refine z_iload hX dX7_ask_135 8 rfl 137 rfl ?_
    refine z_aload_n hX dX7_ask_137 0 rfl 138 rfl ?_
    refine z_get7 hX (k := 189) (j := 22) (v := .ref (gL Γ (196))) kdc_189 (by decide) rfl dX7_ask_138 fl_X7_29 141 rfl ?_
    refine z_iconst hX (v := (nI 4)) dX7_ask_141 rfl 142 rfl ?_
    refine z_iload hX dX7_ask_142 7 rfl 144 rfl ?_
    refine z_imul hX dX7_ask_144 145 rfl ?_
    refine z_iload hX dX7_ask_145 5 rfl 147 rfl ?_
    refine z_iadd hX dX7_ask_147 148 rfl ?_
    replace h := gd_elim h
    obtain ⟨g24, h⟩ := h
    refine z_iald hX (inb_vp g24) dX7_ask_148 149 rfl ?_
    refine z_aload_n hX dX7_ask_149 0 rfl 150 rfl ?_
    refine z_get7 hX (k := 189) (j := 22) (v := .ref (gL Γ (196))) kdc_189 (by decide) rfl dX7_ask_150 fl_X7_29 153 rfl ?_
    refine z_iconst hX (v := (nI 4)) dX7_ask_153 rfl 154 rfl ?_
    refine z_iload hX dX7_ask_154 9 rfl 156 rfl ?_
    refine z_imul hX dX7_ask_156 157 rfl ?_
    refine z_iload hX dX7_ask_157 5 rfl 159 rfl ?_
    refine z_iadd hX dX7_ask_159 160 rfl ?_
    replace h := gd_elim h
    obtain ⟨g25, h⟩ := h
    refine z_iald hX (inb_vp g25) dX7_ask_160 161 rfl ?_
    refine z_icmp_ne hX 168 dX7_ask_161 (by decide) 164 rfl (fun c26 => ?_) (fun c26 => ?_)
    · replace h := br_pos h c26
      refine z_iconst hX (v := (nI 0)) dX7_ask_168 rfl 169 rfl ?_
      exact z_sub [0, 1, 2, 3, 4, 5, 6, 7, 9] rfl (e_X7_ask_J169 hX h hk)
    · replace h := br_neg h c26
      refine z_iconst hX (v := (nI 1)) dX7_ask_164 rfl 165 rfl ?_
      refine z_goto hX 169 dX7_ask_165 (by decide) ?_
      exact z_sub [0, 1, 2, 3, 4, 5, 6, 7, 9] rfl (e_X7_ask_J169 hX h hk)
set_option maxHeartbeats 4000000 in
set_option maxRecDepth 100000 in
theorem e_X7_ask_L117 {X : Cx} {Γ : Gm} {r0 : Rb} (hX : Amb X Γ cX7_ask RX7 11 (some .int) 5) {v2 : Int32} {v3 : Int32} {v4 : Int32} {v5 : Int32} {v6 : Int32} {v7 : Int32} {v8 : Int32} {s : St} {t : (Int32 × Int32 × St) ⊕ ((Int32 × Int32 × Int32 × St) ⊕ (Int32 × St))} (h : f_X7_ask_L117 v2 v3 v4 v5 v6 v7 v8 s = some t) (hk : (Sum.elim (fun q : Int32 × Int32 × St => Zw X Γ 11 r0 q.2.2 117 [(0, .ref (gL Γ (189))), (2, .int v2), (3, .int v3), (4, .int v4), (5, .int v5), (6, .int v6), (7, .int q.1), (8, .int q.2.1)] []) (Sum.elim (fun q : Int32 × Int32 × Int32 × St => Zw X Γ 11 r0 q.2.2.2 102 [(0, .ref (gL Γ (189))), (2, .int v2), (3, .int v3), (4, .int q.1), (5, .int q.2.1), (6, .int q.2.2.1)] []) (fun t : Int32 × St => Rt X Γ r0 (some (Value.int t.1), t.2)))) t) : Zw X Γ 11 r0 s 117 [(0, .ref (gL Γ (189))), (2, .int v2), (3, .int v3), (4, .int v4), (5, .int v5), (6, .int v6), (7, .int v7), (8, .int v8)] [] := by
  unfold f_X7_ask_L117 at h
  refine z_iload hX dX7_ask_117 7 rfl 119 rfl ?_
  refine z_iload_n hX dX7_ask_119 2 rfl 120 rfl ?_
  refine z_icmp_ge hX 203 dX7_ask_120 (by decide) 123 rfl (fun c18 => ?_) (fun c18 => ?_)
  · replace h := br_pos h c18
    refine z_iload hX dX7_ask_203 6 rfl 205 rfl ?_
    refine z_iload hX dX7_ask_205 3 rfl 207 rfl ?_
    refine z_icmp_ge hX 215 dX7_ask_207 (by decide) 210 rfl (fun c19 => ?_) (fun c19 => ?_)
    · replace h := br_pos h c19
      refine z_iload hX dX7_ask_215 4 rfl 217 rfl ?_
      replace h := ox_elim h
      obtain ⟨u, rfl, h⟩ := h
      exact z_sub [0, 1, 2, 3, 5, 6] rfl (e_X7_ask_J217 hX h hk)
    · replace h := br_neg h c19
      refine z_iload hX dX7_ask_210 5 rfl 212 rfl ?_
      refine z_goto hX 217 dX7_ask_212 (by decide) ?_
      replace h := ox_elim h
      obtain ⟨u, rfl, h⟩ := h
      exact z_sub [0, 1, 2, 3, 5, 6] rfl (e_X7_ask_J217 hX h hk)
  · replace h := br_neg h c18
    refine z_iconst hX (v := (nI 0)) dX7_ask_123 rfl 124 rfl ?_
    refine z_istore hX (lv2 := [(9, .int ((nI 0))), (0, .ref (gL Γ (189))), (2, .int v2), (3, .int v3), (4, .int v4), (5, .int v5), (6, .int v6), (7, .int v7), (8, .int v8)]) dX7_ask_124 (by decide) rfl 126 rfl ?_
    refine z_iconst hX (v := (nI 0)) dX7_ask_126 rfl 127 rfl ?_
    refine z_istore hX (lv2 := [(10, .int ((nI 0))), (9, .int ((nI 0))), (0, .ref (gL Γ (189))), (2, .int v2), (3, .int v3), (4, .int v4), (5, .int v5), (6, .int v6), (7, .int v7), (8, .int v8)]) dX7_ask_127 (by decide) rfl 129 rfl ?_
    exact z_sub [2, 3, 4, 5, 6, 7, 8, 9, 1, 0] rfl (lp_ok (Z := fun q : Int32 × Int32 × St => Zw X Γ 11 r0 q.2.2 129 [(0, .ref (gL Γ (189))), (2, .int v2), (3, .int v3), (4, .int v4), (5, .int v5), (6, .int v6), (7, .int v7), (8, .int v8), (9, .int q.1), (10, .int q.2.1)] []) (fun q t h hk => e_X7_ask_L129 hX h hk) Fu _ _ h hk)
set_option maxHeartbeats 4000000 in
set_option maxRecDepth 100000 in
theorem e_X7_ask_L102 {X : Cx} {Γ : Gm} {r0 : Rb} (hX : Amb X Γ cX7_ask RX7 11 (some .int) 5) {v2 : Int32} {v3 : Int32} {v4 : Int32} {v5 : Int32} {v6 : Int32} {s : St} {t : (Int32 × Int32 × Int32 × St) ⊕ (Int32 × St)} (h : f_X7_ask_L102 v2 v3 v4 v5 v6 s = some t) (hk : (Sum.elim (fun q : Int32 × Int32 × Int32 × St => Zw X Γ 11 r0 q.2.2.2 102 [(0, .ref (gL Γ (189))), (2, .int v2), (3, .int v3), (4, .int q.1), (5, .int q.2.1), (6, .int q.2.2.1)] []) (fun t : Int32 × St => Rt X Γ r0 (some (Value.int t.1), t.2))) t) : Zw X Γ 11 r0 s 102 [(0, .ref (gL Γ (189))), (2, .int v2), (3, .int v3), (4, .int v4), (5, .int v5), (6, .int v6)] [] := by
  unfold f_X7_ask_L102 at h
  refine z_iload hX dX7_ask_102 5 rfl 104 rfl ?_
  refine z_aload_n hX dX7_ask_104 0 rfl 105 rfl ?_
  refine z_get7 hX (k := 189) (j := 4) (v := .int ((s.1 189 4))) kdc_189 (by decide) rfl dX7_ask_105 fl_X7_72 108 rfl ?_
  refine z_icmp_ge hX 234 dX7_ask_108 (by decide) 111 rfl (fun c11 => ?_) (fun c11 => ?_)
  · replace h := br_pos h c11
    refine z_iload hX dX7_ask_234 4 rfl 236 rfl ?_
    refine z_bipush hX (v := (-4)) dX7_ask_236 (by decide) 238 rfl ?_
    refine z_icmp_ne hX 246 dX7_ask_238 (by decide) 241 rfl (fun c12 => ?_) (fun c12 => ?_)
    · replace h := br_pos h c12
      refine z_iload_n hX dX7_ask_246 1 rfl 247 rfl ?_
      refine z_if_ne hX 255 dX7_ask_247 (by decide) 250 rfl (fun c13 => ?_) (fun c13 => ?_)
      · replace h := br_pos h c13
        refine z_iload hX dX7_ask_255 3 rfl 257 rfl ?_
        replace h := Option.some.inj h
        subst h
        exact z_iret hX dX7_ask_257 rfl hk
      · replace h := br_neg h c13
        refine z_iload hX dX7_ask_250 4 rfl 252 rfl ?_
        refine z_goto hX 257 dX7_ask_252 (by decide) ?_
        replace h := Option.some.inj h
        subst h
        exact z_iret hX dX7_ask_257 rfl hk
    · replace h := br_neg h c12
      refine z_bipush hX (v := (-4)) dX7_ask_241 (by decide) 243 rfl ?_
      refine z_goto hX 257 dX7_ask_243 (by decide) ?_
      replace h := Option.some.inj h
      subst h
      exact z_iret hX dX7_ask_257 rfl hk
  · replace h := br_neg h c11
    refine z_iconst hX (v := (nI 0)) dX7_ask_111 rfl 112 rfl ?_
    refine z_istore hX (lv2 := [(7, .int ((nI 0))), (0, .ref (gL Γ (189))), (2, .int v2), (3, .int v3), (4, .int v4), (5, .int v5), (6, .int v6)]) dX7_ask_112 (by decide) rfl 114 rfl ?_
    refine z_iconst hX (v := (nI 0)) dX7_ask_114 rfl 115 rfl ?_
    refine z_istore hX (lv2 := [(8, .int ((nI 0))), (7, .int ((nI 0))), (0, .ref (gL Γ (189))), (2, .int v2), (3, .int v3), (4, .int v4), (5, .int v5), (6, .int v6)]) dX7_ask_115 (by decide) rfl 117 rfl ?_
    exact z_sub [2, 3, 4, 5, 6, 7, 1, 0] rfl (lp_ok (Z := fun q : Int32 × Int32 × St => Zw X Γ 11 r0 q.2.2 117 [(0, .ref (gL Γ (189))), (2, .int v2), (3, .int v3), (4, .int v4), (5, .int v5), (6, .int v6), (7, .int q.1), (8, .int q.2.1)] []) (fun q t h hk => e_X7_ask_L117 hX h hk) Fu _ _ h hk)
set_option maxHeartbeats 4000000 in
set_option maxRecDepth 100000 in
theorem e_X7_ask_L43 {X : Cx} {Γ : Gm} {r0 : Rb} (hX : Amb X Γ cX7_ask RX7 11 (some .int) 5) {v1 : Int32} {v2 : Int32} {v3 : Int32} {v4 : Int32} {v5 : Int32} {s : St} {t : (Int32 × St) ⊕ ((Int32 × Int32 × St) ⊕ (Int32 × St))} (h : f_X7_ask_L43 v1 v2 v3 v4 v5 s = some t) (hk : (Sum.elim (fun q : Int32 × St => Zw X Γ 11 r0 q.2 43 [(0, .ref (gL Γ (189))), (1, .int v1), (2, .int v2), (3, .int v3), (4, .int v4), (5, .int q.1)] []) (Sum.elim (fun q : Int32 × Int32 × St => Zw X Γ 11 r0 q.2.2 22 [(0, .ref (gL Γ (189))), (1, .int v1), (2, .int v2), (3, .int q.1), (4, .int q.2.1)] []) (fun t : Int32 × St => Rt X Γ r0 (some (Value.int t.1), t.2)))) t) : Zw X Γ 11 r0 s 43 [(0, .ref (gL Γ (189))), (1, .int v1), (2, .int v2), (3, .int v3), (4, .int v4), (5, .int v5)] [] := by
  unfold f_X7_ask_L43 at h
  refine z_iload hX dX7_ask_43 5 rfl 45 rfl ?_
  refine z_aload_n hX dX7_ask_45 0 rfl 46 rfl ?_
  refine z_get7 hX (k := 189) (j := 4) (v := .int ((s.1 189 4))) kdc_189 (by decide) rfl dX7_ask_46 fl_X7_72 49 rfl ?_
  refine z_icmp_ge hX 83 dX7_ask_49 (by decide) 52 rfl (fun c14 => ?_) (fun c14 => ?_)
  · replace h := br_pos h c14
    refine z_iinc hX (v := (v3 + (nI 1))) (lv2 := [(3, .int ((v3 + (nI 1)))), (0, .ref (gL Γ (189))), (1, .int v1), (2, .int v2), (4, .int v4), (5, .int v5)]) dX7_ask_83 3 rfl rfl (by decide) rfl 86 rfl ?_
    refine z_iinc hX (v := (v4 + (nI 1))) (lv2 := [(4, .int ((v4 + (nI 1)))), (3, .int ((v3 + (nI 1)))), (0, .ref (gL Γ (189))), (1, .int v1), (2, .int v2), (5, .int v5)]) dX7_ask_86 4 rfl rfl (by decide) rfl 89 rfl ?_
    refine z_goto hX 22 dX7_ask_89 (by decide) ?_
    replace h := Option.some.inj h
    subst h
    exact z_sub [2, 3, 4, 1, 0] rfl hk
  · replace h := br_neg h c14
    refine z_aload_n hX dX7_ask_52 0 rfl 53 rfl ?_
    refine z_get7 hX (k := 189) (j := 22) (v := .ref (gL Γ (196))) kdc_189 (by decide) rfl dX7_ask_53 fl_X7_29 56 rfl ?_
    refine z_iconst hX (v := (nI 4)) dX7_ask_56 rfl 57 rfl ?_
    refine z_iload_n hX dX7_ask_57 3 rfl 58 rfl ?_
    refine z_imul hX dX7_ask_58 59 rfl ?_
    refine z_iload hX dX7_ask_59 5 rfl 61 rfl ?_
    refine z_iadd hX dX7_ask_61 62 rfl ?_
    refine z_aload_n hX dX7_ask_62 0 rfl 63 rfl ?_
    refine z_get7 hX (k := 189) (j := 1) (v := .ref (gL Γ (191))) kdc_189 (by decide) rfl dX7_ask_63 fl_X7_13 66 rfl ?_
    refine z_bipush hX (v := (nI 20)) dX7_ask_66 (by decide) 68 rfl ?_
    refine z_iconst hX (v := (nI 3)) dX7_ask_68 rfl 69 rfl ?_
    refine z_iload hX dX7_ask_69 5 rfl 71 rfl ?_
    refine z_imul hX dX7_ask_71 72 rfl ?_
    refine z_iadd hX dX7_ask_72 73 rfl ?_
    refine z_iload_n hX dX7_ask_73 1 rfl 74 rfl ?_
    refine z_iadd hX dX7_ask_74 75 rfl ?_
    replace h := gd_elim h
    obtain ⟨g15, h⟩ := h
    refine z_iald hX (inb_vp g15) dX7_ask_75 76 rfl ?_
    replace h := gd_elim h
    obtain ⟨g16, h⟩ := h
    replace h := bd_elim h
    obtain ⟨s17, es17, h⟩ := h
    refine z_iast hX (inb_vp g16) dX7_ask_76 es17 77 rfl ?_
    refine z_iinc hX (v := (v5 + (nI 1))) (lv2 := [(5, .int ((v5 + (nI 1)))), (0, .ref (gL Γ (189))), (1, .int v1), (2, .int v2), (3, .int v3), (4, .int v4)]) dX7_ask_77 5 rfl rfl (by decide) rfl 80 rfl ?_
    refine z_goto hX 43 dX7_ask_80 (by decide) ?_
    replace h := Option.some.inj h
    subst h
    exact z_sub [1, 2, 3, 4, 5, 0] rfl hk
set_option maxHeartbeats 4000000 in
set_option maxRecDepth 100000 in
theorem e_X7_ask_L22 {X : Cx} {Γ : Gm} {r0 : Rb} (hX : Amb X Γ cX7_ask RX7 11 (some .int) 5) {v1 : Int32} {v2 : Int32} {v3 : Int32} {v4 : Int32} {s : St} {t : (Int32 × Int32 × St) ⊕ (Int32 × St)} (h : f_X7_ask_L22 v1 v2 v3 v4 s = some t) (hk : (Sum.elim (fun q : Int32 × Int32 × St => Zw X Γ 11 r0 q.2.2 22 [(0, .ref (gL Γ (189))), (1, .int v1), (2, .int v2), (3, .int q.1), (4, .int q.2.1)] []) (fun t : Int32 × St => Rt X Γ r0 (some (Value.int t.1), t.2))) t) : Zw X Γ 11 r0 s 22 [(0, .ref (gL Γ (189))), (1, .int v1), (2, .int v2), (3, .int v3), (4, .int v4)] [] := by
  unfold f_X7_ask_L22 at h
  refine z_iload hX dX7_ask_22 4 rfl 24 rfl ?_
  refine z_bipush hX (v := (nI 20)) dX7_ask_24 (by decide) 26 rfl ?_
  refine z_icmp_ge hX 92 dX7_ask_26 (by decide) 29 rfl (fun c7 => ?_) (fun c7 => ?_)
  · replace h := br_pos h c7
    refine z_iload_n hX dX7_ask_92 3 rfl 93 rfl ?_
    refine z_istore hX (lv2 := [(4, .int v3), (0, .ref (gL Γ (189))), (1, .int v1), (2, .int v2), (3, .int v3)]) dX7_ask_93 (by decide) rfl 95 rfl ?_
    refine z_bipush hX (v := (-4)) dX7_ask_95 (by decide) 97 rfl ?_
    refine z_istore hX (lv2 := [(5, .int ((-4))), (4, .int v3), (0, .ref (gL Γ (189))), (1, .int v1), (2, .int v2), (3, .int v3)]) dX7_ask_97 (by decide) rfl 99 rfl ?_
    refine z_iconst hX (v := (nI 0)) dX7_ask_99 rfl 100 rfl ?_
    refine z_istore hX (lv2 := [(6, .int ((nI 0))), (5, .int ((-4))), (4, .int v3), (0, .ref (gL Γ (189))), (1, .int v1), (2, .int v2), (3, .int v3)]) dX7_ask_100 (by decide) rfl 102 rfl ?_
    replace h := ox_elim h
    obtain ⟨u, rfl, h⟩ := h
    exact z_sub [3, 5, 6, 2, 1, 0] rfl (lp_ok (Z := fun q : Int32 × Int32 × Int32 × St => Zw X Γ 11 r0 q.2.2.2 102 [(0, .ref (gL Γ (189))), (2, .int v2), (3, .int v3), (4, .int q.1), (5, .int q.2.1), (6, .int q.2.2.1)] []) (fun q t h hk => e_X7_ask_L102 hX h hk) Fu _ _ h hk)
  · replace h := br_neg h c7
    refine z_aload_n hX dX7_ask_29 0 rfl 30 rfl ?_
    refine z_iload_n hX dX7_ask_30 1 rfl 31 rfl ?_
    refine z_iconst hX (v := (nI 1)) dX7_ask_31 rfl 32 rfl ?_
    refine z_iload hX dX7_ask_32 4 rfl 34 rfl ?_
    replace h := cl_elim h
    obtain ⟨x9, s8, hx9, h⟩ := h
    refine z_cV7i hX (b := 189) (As := [.int v1, .int ((nI 1)), .int v4]) (c_X7_isSoWith hx9) lk_X7_285 rfl kdc_189 ds_X7_isSoWith rfl (by decide) (by decide) (by decide) dX7_ask_34 rfl 37 rfl ?_
    refine z_if_eq hX 86 dX7_ask_37 (by decide) 40 rfl (fun c10 => ?_) (fun c10 => ?_)
    · replace h := br_pos h c10
      refine z_iinc hX (v := (v4 + (nI 1))) (lv2 := [(4, .int ((v4 + (nI 1)))), (0, .ref (gL Γ (189))), (1, .int v1), (2, .int v2), (3, .int v3)]) dX7_ask_86 4 rfl rfl (by decide) rfl 89 rfl ?_
      refine z_goto hX 22 dX7_ask_89 (by decide) ?_
      replace h := Option.some.inj h
      subst h
      exact z_sub [1, 2, 3, 4, 0] rfl hk
    · replace h := br_neg h c10
      refine z_iconst hX (v := (nI 0)) dX7_ask_40 rfl 41 rfl ?_
      refine z_istore hX (lv2 := [(5, .int ((nI 0))), (0, .ref (gL Γ (189))), (1, .int v1), (2, .int v2), (3, .int v3), (4, .int v4)]) dX7_ask_41 (by decide) rfl 43 rfl ?_
      exact z_sub [1, 2, 3, 4, 5, 0] rfl (lp_ok (Z := fun q : Int32 × St => Zw X Γ 11 r0 q.2 43 [(0, .ref (gL Γ (189))), (1, .int v1), (2, .int v2), (3, .int v3), (4, .int v4), (5, .int q.1)] []) (fun q t h hk => e_X7_ask_L43 hX h hk) Fu _ _ h hk)
set_option maxHeartbeats 4000000 in
set_option maxRecDepth 100000 in
theorem e_X7_ask {X : Cx} {Γ : Gm} {r0 : Rb} (hX : Amb X Γ cX7_ask RX7 11 (some .int) 5) {a1 : Int32} {a2 : Int32} {s : St} {t : Int32 × St} (h : f_X7_ask a1 a2 s = some t) (hk : (fun t : Int32 × St => Rt X Γ r0 (some (Value.int t.1), t.2)) t) : Zw X Γ 11 r0 s 0 [(0, .ref (gL Γ (189))), (1, .int a1), (2, .int a2)] [] := by
  unfold f_X7_ask at h
  refine z_aload_n hX dX7_ask_0 0 rfl 1 rfl ?_
  refine z_iload_n hX dX7_ask_1 1 rfl 2 rfl ?_
  replace h := cl_elim h
  obtain ⟨x2, s1, hx2, h⟩ := h
  refine z_cV7i hX (b := 189) (As := [.int a1]) (c_X7_isLife hx2) lk_X7_203 rfl kdc_189 ds_X7_isLife rfl (by decide) (by decide) (by decide) dX7_ask_2 rfl 5 rfl ?_
  refine z_if_eq hX 15 dX7_ask_5 (by decide) 8 rfl (fun c3 => ?_) (fun c3 => ?_)
  · replace h := br_pos h c3
    refine z_iconst hX (v := (-1)) dX7_ask_15 rfl 16 rfl ?_
    replace h := Option.some.inj h
    subst h
    exact z_iret hX dX7_ask_16 rfl hk
  · replace h := br_neg h c3
    refine z_iload_n hX dX7_ask_8 2 rfl 9 rfl ?_
    replace h := cl_elim h
    obtain ⟨x5, s4, hx5, h⟩ := h
    refine z_cSi hX (As := [.int a2]) (c_X7_isPart hx5) lk_X7_251 ds_X7_isPart rfl (by decide) (by decide) (by decide) dX7_ask_9 rfl 12 rfl ?_
    refine z_if_ne hX 17 dX7_ask_12 (by decide) 15 rfl (fun c6 => ?_) (fun c6 => ?_)
    · replace h := br_pos h c6
      refine z_iconst hX (v := (nI 0)) dX7_ask_17 rfl 18 rfl ?_
      refine z_istore_n hX (lv2 := [(3, .int ((nI 0))), (0, .ref (gL Γ (189))), (1, .int a1), (2, .int a2)]) dX7_ask_18 (by decide) rfl 19 rfl ?_
      refine z_iconst hX (v := (nI 0)) dX7_ask_19 rfl 20 rfl ?_
      refine z_istore hX (lv2 := [(4, .int ((nI 0))), (3, .int ((nI 0))), (0, .ref (gL Γ (189))), (1, .int a1), (2, .int a2)]) dX7_ask_20 (by decide) rfl 22 rfl ?_
      exact z_sub [2, 3, 4, 1, 0] rfl (lp_ok (Z := fun q : Int32 × Int32 × St => Zw X Γ 11 r0 q.2.2 22 [(0, .ref (gL Γ (189))), (1, .int a1), (2, .int a2), (3, .int q.1), (4, .int q.2.1)] []) (fun q t h hk => e_X7_ask_L22 hX h hk) Fu _ _ h hk)
    · replace h := br_neg h c6
      refine z_iconst hX (v := (-1)) dX7_ask_15 rfl 16 rfl ?_
      replace h := Option.some.inj h
      subst h
      exact z_iret hX dX7_ask_16 rfl hk
theorem c_X7_ask {lc : Launch} {Γ : Gm} {a1 : Int32} {a2 : Int32} {s s2 : St} {v : Int32} (h : f_X7_ask a1 a2 s = some (v, s2)) : Ct lc Γ yX7_ask cX7_ask 11 (some .int) 5 [.ref (gL Γ (189)), .int a1, .int a2] s (some (.int v), s2) := Ct.of (by decide +kernel) (Nat.le_of_ble_eq_true rfl) (fun X hl hX => e_X7_ask hX h rfl)
theorem dX7_drift_0 : decode cX7_drift 0 = .ok (.iload_n 2, 1) := by decide +kernel
theorem dX7_drift_1 : decode cX7_drift 1 = .ok (.i2l, 1) := by decide +kernel
theorem dX7_drift_2 : decode cX7_drift 2 = .ok (.lconst 1, 1) := by decide +kernel
theorem dX7_drift_3 : decode cX7_drift 3 = .ok (.ldc2_w 236, 3) := by decide +kernel
theorem dX7_drift_6 : decode cX7_drift 6 = .ok (.invokestatic 52, 3) := by decide +kernel
theorem dX7_drift_9 : decode cX7_drift 9 = .ok (.ifCond .eq 10, 3) := by decide +kernel
theorem dX7_drift_12 : decode cX7_drift 12 = .ok (.iload_n 3, 1) := by decide +kernel
theorem dX7_drift_13 : decode cX7_drift 13 = .ok (.invokestatic 251, 3) := by decide +kernel
theorem dX7_drift_16 : decode cX7_drift 16 = .ok (.ifCond .ne 5, 3) := by decide +kernel
theorem dX7_drift_19 : decode cX7_drift 19 = .ok (.iconst (-1), 1) := by decide +kernel
theorem dX7_drift_20 : decode cX7_drift 20 = .ok (.ireturn, 1) := by decide +kernel
theorem dX7_drift_21 : decode cX7_drift 21 = .ok (.aload_n 0, 1) := by decide +kernel
theorem dX7_drift_22 : decode cX7_drift 22 = .ok (.getfield 69, 3) := by decide +kernel
theorem dX7_drift_25 : decode cX7_drift 25 = .ok (.ifCond .ne 6, 3) := by decide +kernel
theorem dX7_drift_28 : decode cX7_drift 28 = .ok (.bipush (-2), 2) := by decide +kernel
theorem dX7_drift_30 : decode cX7_drift 30 = .ok (.ireturn, 1) := by decide +kernel
theorem dX7_drift_31 : decode cX7_drift 31 = .ok (.iload_n 1, 1) := by decide +kernel
theorem dX7_drift_32 : decode cX7_drift 32 = .ok (.istore 4, 2) := by decide +kernel
theorem dX7_drift_34 : decode cX7_drift 34 = .ok (.aload_n 0, 1) := by decide +kernel
theorem dX7_drift_35 : decode cX7_drift 35 = .ok (.invokevirtual 188, 3) := by decide +kernel
theorem dX7_drift_38 : decode cX7_drift 38 = .ok (.aload_n 0, 1) := by decide +kernel
theorem dX7_drift_39 : decode cX7_drift 39 = .ok (.invokevirtual 197, 3) := by decide +kernel
theorem dX7_drift_42 : decode cX7_drift 42 = .ok (.istore 5, 2) := by decide +kernel
theorem dX7_drift_44 : decode cX7_drift 44 = .ok (.aload_n 0, 1) := by decide +kernel
theorem dX7_drift_45 : decode cX7_drift 45 = .ok (.invokevirtual 194, 3) := by decide +kernel
theorem dX7_drift_48 : decode cX7_drift 48 = .ok (.istore 6, 2) := by decide +kernel
theorem dX7_drift_50 : decode cX7_drift 50 = .ok (.iconst 0, 1) := by decide +kernel
theorem dX7_drift_51 : decode cX7_drift 51 = .ok (.istore 7, 2) := by decide +kernel
theorem dX7_drift_53 : decode cX7_drift 53 = .ok (.iload 7, 2) := by decide +kernel
theorem dX7_drift_55 : decode cX7_drift 55 = .ok (.iload_n 2, 1) := by decide +kernel
theorem dX7_drift_56 : decode cX7_drift 56 = .ok (.if_icmp .ge 55, 3) := by decide +kernel
theorem dX7_drift_59 : decode cX7_drift 59 = .ok (.iload 4, 2) := by decide +kernel
theorem dX7_drift_61 : decode cX7_drift 61 = .ok (.ldc_w 292, 3) := by decide +kernel
theorem dX7_drift_64 : decode cX7_drift 64 = .ok (.imul, 1) := by decide +kernel
theorem dX7_drift_65 : decode cX7_drift 65 = .ok (.sipush 12345, 3) := by decide +kernel
theorem dX7_drift_68 : decode cX7_drift 68 = .ok (.iadd, 1) := by decide +kernel
theorem dX7_drift_69 : decode cX7_drift 69 = .ok (.istore 4, 2) := by decide +kernel
theorem dX7_drift_71 : decode cX7_drift 71 = .ok (.aload_n 0, 1) := by decide +kernel
theorem dX7_drift_72 : decode cX7_drift 72 = .ok (.getfield 13, 3) := by decide +kernel
theorem dX7_drift_75 : decode cX7_drift 75 = .ok (.bipush 32, 2) := by decide +kernel
theorem dX7_drift_77 : decode cX7_drift 77 = .ok (.aload_n 0, 1) := by decide +kernel
theorem dX7_drift_78 : decode cX7_drift 78 = .ok (.getfield 13, 3) := by decide +kernel
theorem dX7_drift_81 : decode cX7_drift 81 = .ok (.bipush 42, 2) := by decide +kernel
theorem dX7_drift_83 : decode cX7_drift 83 = .ok (.iaload, 1) := by decide +kernel
theorem dX7_drift_84 : decode cX7_drift 84 = .ok (.bipush 6, 2) := by decide +kernel
theorem dX7_drift_86 : decode cX7_drift 86 = .ok (.irem, 1) := by decide +kernel
theorem dX7_drift_87 : decode cX7_drift 87 = .ok (.iadd, 1) := by decide +kernel
theorem dX7_drift_88 : decode cX7_drift 88 = .ok (.iload 4, 2) := by decide +kernel
theorem dX7_drift_90 : decode cX7_drift 90 = .ok (.bipush 16, 2) := by decide +kernel
theorem dX7_drift_92 : decode cX7_drift 92 = .ok (.ishr, 1) := by decide +kernel
theorem dX7_drift_93 : decode cX7_drift 93 = .ok (.sipush 32767, 3) := by decide +kernel
theorem dX7_drift_96 : decode cX7_drift 96 = .ok (.iand, 1) := by decide +kernel
theorem dX7_drift_97 : decode cX7_drift 97 = .ok (.iconst 5, 1) := by decide +kernel
theorem dX7_drift_98 : decode cX7_drift 98 = .ok (.irem, 1) := by decide +kernel
theorem dX7_drift_99 : decode cX7_drift 99 = .ok (.iastore, 1) := by decide +kernel
theorem dX7_drift_100 : decode cX7_drift 100 = .ok (.aload_n 0, 1) := by decide +kernel
theorem dX7_drift_101 : decode cX7_drift 101 = .ok (.iconst 0, 1) := by decide +kernel
theorem dX7_drift_102 : decode cX7_drift 102 = .ok (.invokevirtual 178, 3) := by decide +kernel
theorem dX7_drift_105 : decode cX7_drift 105 = .ok (.iinc 7 1, 3) := by decide +kernel
theorem dX7_drift_108 : decode cX7_drift 108 = .ok (.goto (-55), 3) := by decide +kernel
theorem dX7_drift_111 : decode cX7_drift 111 = .ok (.iload_n 3, 1) := by decide +kernel
theorem dX7_drift_112 : decode cX7_drift 112 = .ok (.ifCond .ne 13, 3) := by decide +kernel
theorem dX7_drift_115 : decode cX7_drift 115 = .ok (.aload_n 0, 1) := by decide +kernel
theorem dX7_drift_116 : decode cX7_drift 116 = .ok (.invokevirtual 197, 3) := by decide +kernel
theorem dX7_drift_119 : decode cX7_drift 119 = .ok (.iload 5, 2) := by decide +kernel
theorem dX7_drift_121 : decode cX7_drift 121 = .ok (.isub, 1) := by decide +kernel
theorem dX7_drift_122 : decode cX7_drift 122 = .ok (.goto 10, 3) := by decide +kernel
theorem dX7_drift_125 : decode cX7_drift 125 = .ok (.aload_n 0, 1) := by decide +kernel
theorem dX7_drift_126 : decode cX7_drift 126 = .ok (.invokevirtual 194, 3) := by decide +kernel
theorem dX7_drift_129 : decode cX7_drift 129 = .ok (.iload 6, 2) := by decide +kernel
theorem dX7_drift_131 : decode cX7_drift 131 = .ok (.isub, 1) := by decide +kernel
theorem dX7_drift_132 : decode cX7_drift 132 = .ok (.ireturn, 1) := by decide +kernel
def f_X7_drift_L53 (v2 : Int32) (v3 : Int32) (v5 : Int32) (v6 : Int32) (v4 : Int32) (v7 : Int32) (s : St) : Option ((Int32 × Int32 × St) ⊕ (Int32 × St)) := if v2 ≤ v7 then (if ¬ v3 = 0 then (cl (f_X7_allLost s) (fun x17 s16 => some (Sum.inr (((x17 - v6), s16))))) else (cl (f_X7_allHad s) (fun x19 s18 => some (Sum.inr (((x19 - v5), s18)))))) else (bd ((v4 * (nI 1103515245)) + (nI 12345)) (fun x20 => if inb (nI 42) (lnI 191) = true then if inb ((nI 32) + ((s.1 191 ((nI 42)).toNatClampNeg) - (s.1 191 ((nI 42)).toNatClampNeg) / (nI 6) * (nI 6))) (lnI 191) = true then bd (wI s 191 (((nI 32) + ((s.1 191 ((nI 42)).toNatClampNeg) - (s.1 191 ((nI 42)).toNatClampNeg) / (nI 6) * (nI 6)))).toNatClampNeg (((x20 >>> ((nI 16) &&& 31)) &&& (nI 32767)) - ((x20 >>> ((nI 16) &&& 31)) &&& (nI 32767)) / (nI 5) * (nI 5))) (fun s23 => cl (f_X7_stepGoes (nI 0) s23) (fun x25 s24 => some (Sum.inl (x20, (v7 + (nI 1)), s24)))) else none else none))
def f_X7_drift (a1 : Int32) (a2 : Int32) (a3 : Int32) (s : St) : Option (Int32 × St) := cl (f_X7_within ((a2).toInt64) (lN 1) (lN 60) s) (fun x2 s1 => if x2 = 0 then (some (((-1), s1))) else (cl (f_X7_isPart a3 s1) (fun x5 s4 => if ¬ x5 = 0 then (if ¬ (s4.1 189 3) = 0 then (cl (f_X7_starts s4) (fun x9 s8 => cl (f_X7_allHad s8) (fun x11 s10 => cl (f_X7_allLost s10) (fun x13 s12 => lp (fun q : Int32 × Int32 × St => f_X7_drift_L53 a2 a3 x11 x13 q.1 q.2.1 q.2.2) Fu (a1, (nI 0), s12))))) else (some (((-2), s4)))) else (some (((-1), s4))))))
set_option maxHeartbeats 4000000 in
set_option maxRecDepth 100000 in
theorem e_X7_drift_L53 {X : Cx} {Γ : Gm} {r0 : Rb} (hX : Amb X Γ cX7_drift RX7 8 (some .int) 4) {v2 : Int32} {v3 : Int32} {v5 : Int32} {v6 : Int32} {v4 : Int32} {v7 : Int32} {s : St} {t : (Int32 × Int32 × St) ⊕ (Int32 × St)} (h : f_X7_drift_L53 v2 v3 v5 v6 v4 v7 s = some t) (hk : (Sum.elim (fun q : Int32 × Int32 × St => Zw X Γ 8 r0 q.2.2 53 [(0, .ref (gL Γ (189))), (2, .int v2), (3, .int v3), (4, .int q.1), (5, .int v5), (6, .int v6), (7, .int q.2.1)] []) (fun t : Int32 × St => Rt X Γ r0 (some (Value.int t.1), t.2))) t) : Zw X Γ 8 r0 s 53 [(0, .ref (gL Γ (189))), (2, .int v2), (3, .int v3), (4, .int v4), (5, .int v5), (6, .int v6), (7, .int v7)] [] := by
  unfold f_X7_drift_L53 at h
  refine z_iload hX dX7_drift_53 6 rfl 55 rfl ?_
  refine z_iload_n hX dX7_drift_55 1 rfl 56 rfl ?_
  refine z_icmp_ge hX 111 dX7_drift_56 (by decide) 59 rfl (fun c14 => ?_) (fun c14 => ?_)
  · replace h := br_pos h c14
    refine z_iload_n hX dX7_drift_111 2 rfl 112 rfl ?_
    refine z_if_ne hX 125 dX7_drift_112 (by decide) 115 rfl (fun c15 => ?_) (fun c15 => ?_)
    · replace h := br_pos h c15
      refine z_aload_n hX dX7_drift_125 0 rfl 126 rfl ?_
      replace h := cl_elim h
      obtain ⟨x17, s16, hx17, h⟩ := h
      refine z_cV7i hX (b := 189) (As := []) (c_X7_allLost hx17) lk_X7_194 rfl kdc_189 ds_X7_allLost rfl (by decide) (by decide) (by decide) dX7_drift_126 rfl 129 rfl ?_
      refine z_iload hX dX7_drift_129 5 rfl 131 rfl ?_
      refine z_isub hX dX7_drift_131 132 rfl ?_
      replace h := Option.some.inj h
      subst h
      exact z_iret hX dX7_drift_132 rfl hk
    · replace h := br_neg h c15
      refine z_aload_n hX dX7_drift_115 0 rfl 116 rfl ?_
      replace h := cl_elim h
      obtain ⟨x19, s18, hx19, h⟩ := h
      refine z_cV7i hX (b := 189) (As := []) (c_X7_allHad hx19) lk_X7_197 rfl kdc_189 ds_X7_allHad rfl (by decide) (by decide) (by decide) dX7_drift_116 rfl 119 rfl ?_
      refine z_iload hX dX7_drift_119 4 rfl 121 rfl ?_
      refine z_isub hX dX7_drift_121 122 rfl ?_
      refine z_goto hX 132 dX7_drift_122 (by decide) ?_
      replace h := Option.some.inj h
      subst h
      exact z_iret hX dX7_drift_132 rfl hk
  · replace h := br_neg h c14
    refine z_iload hX dX7_drift_59 3 rfl 61 rfl ?_
    refine z_ldcw hX (v := (nI 1103515245)) dX7_drift_61 ml_X7_292 64 rfl ?_
    refine z_imul hX dX7_drift_64 65 rfl ?_
    refine z_sipush hX (v := (nI 12345)) dX7_drift_65 (by decide) 68 rfl ?_
    refine z_iadd hX dX7_drift_68 69 rfl ?_
    replace h := bd_elim h
    obtain ⟨x20, ex20, h⟩ := h
    refine z_nm ex20 ?_
    refine z_istore hX (lv2 := [(4, .int x20), (0, .ref (gL Γ (189))), (2, .int v2), (3, .int v3), (5, .int v5), (6, .int v6), (7, .int v7)]) dX7_drift_69 (by decide) rfl 71 rfl ?_
    refine z_aload_n hX dX7_drift_71 1 rfl 72 rfl ?_
    refine z_get7 hX (k := 189) (j := 1) (v := .ref (gL Γ (191))) kdc_189 (by decide) rfl dX7_drift_72 fl_X7_13 75 rfl ?_
    refine z_bipush hX (v := (nI 32)) dX7_drift_75 (by decide) 77 rfl ?_
    refine z_aload_n hX dX7_drift_77 1 rfl 78 rfl ?_
    refine z_get7 hX (k := 189) (j := 1) (v := .ref (gL Γ (191))) kdc_189 (by decide) rfl dX7_drift_78 fl_X7_13 81 rfl ?_
    refine z_bipush hX (v := (nI 42)) dX7_drift_81 (by decide) 83 rfl ?_
    replace h := gd_elim h
    obtain ⟨g21, h⟩ := h
    refine z_iald hX (inb_vp g21) dX7_drift_83 84 rfl ?_
    refine z_bipush hX (v := (nI 6)) dX7_drift_84 (by decide) 86 rfl ?_
    refine z_irem hX dX7_drift_86 (by decide) 87 rfl ?_
    refine z_iadd hX dX7_drift_87 88 rfl ?_
    refine z_iload hX dX7_drift_88 0 rfl 90 rfl ?_
    refine z_bipush hX (v := (nI 16)) dX7_drift_90 (by decide) 92 rfl ?_
    refine z_ishr hX dX7_drift_92 93 rfl ?_
    refine z_sipush hX (v := (nI 32767)) dX7_drift_93 (by decide) 96 rfl ?_
    refine z_iand hX dX7_drift_96 97 rfl ?_
    refine z_iconst hX (v := (nI 5)) dX7_drift_97 rfl 98 rfl ?_
    refine z_irem hX dX7_drift_98 (by decide) 99 rfl ?_
    replace h := gd_elim h
    obtain ⟨g22, h⟩ := h
    replace h := bd_elim h
    obtain ⟨s23, es23, h⟩ := h
    refine z_iast hX (inb_vp g22) dX7_drift_99 es23 100 rfl ?_
    refine z_aload_n hX dX7_drift_100 1 rfl 101 rfl ?_
    refine z_iconst hX (v := (nI 0)) dX7_drift_101 rfl 102 rfl ?_
    replace h := cl_elim h
    obtain ⟨x25, s24, hx25, h⟩ := h
    refine z_cV7v hX (b := 189) (As := [.int ((nI 0))]) (c_X7_stepGoes hx25) lk_X7_178 rfl kdc_189 ds_X7_stepGoes rfl (by decide) (by decide) (by decide) dX7_drift_102 rfl 105 rfl ?_
    refine z_iinc hX (v := (v7 + (nI 1))) (lv2 := [(7, .int ((v7 + (nI 1)))), (4, .int x20), (0, .ref (gL Γ (189))), (2, .int v2), (3, .int v3), (5, .int v5), (6, .int v6)]) dX7_drift_105 6 rfl rfl (by decide) rfl 108 rfl ?_
    refine z_goto hX 53 dX7_drift_108 (by decide) ?_
    replace h := Option.some.inj h
    subst h
    exact z_sub [2, 3, 4, 1, 5, 6, 0] rfl hk
set_option maxHeartbeats 4000000 in
set_option maxRecDepth 100000 in
theorem e_X7_drift {X : Cx} {Γ : Gm} {r0 : Rb} (hX : Amb X Γ cX7_drift RX7 8 (some .int) 4) {a1 : Int32} {a2 : Int32} {a3 : Int32} {s : St} {t : Int32 × St} (h : f_X7_drift a1 a2 a3 s = some t) (hk : (fun t : Int32 × St => Rt X Γ r0 (some (Value.int t.1), t.2)) t) : Zw X Γ 8 r0 s 0 [(0, .ref (gL Γ (189))), (1, .int a1), (2, .int a2), (3, .int a3)] [] := by
  unfold f_X7_drift at h
  refine z_iload_n hX dX7_drift_0 2 rfl 1 rfl ?_
  refine z_i2l hX dX7_drift_1 2 rfl ?_
  refine z_lconst hX (v := (lN 1)) dX7_drift_2 rfl 3 rfl ?_
  refine z_ldc2 hX (v := (lN 60)) dX7_drift_3 ml_X7_236 6 rfl ?_
  replace h := cl_elim h
  obtain ⟨x2, s1, hx2, h⟩ := h
  refine z_cSi hX (As := [.long ((a2).toInt64), .long ((lN 1)), .long ((lN 60))]) (c_X7_within hx2) lk_X7_52 ds_X7_within rfl (by decide) (by decide) (by decide) dX7_drift_6 rfl 9 rfl ?_
  refine z_if_eq hX 19 dX7_drift_9 (by decide) 12 rfl (fun c3 => ?_) (fun c3 => ?_)
  · replace h := br_pos h c3
    refine z_iconst hX (v := (-1)) dX7_drift_19 rfl 20 rfl ?_
    replace h := Option.some.inj h
    subst h
    exact z_iret hX dX7_drift_20 rfl hk
  · replace h := br_neg h c3
    refine z_iload_n hX dX7_drift_12 3 rfl 13 rfl ?_
    replace h := cl_elim h
    obtain ⟨x5, s4, hx5, h⟩ := h
    refine z_cSi hX (As := [.int a3]) (c_X7_isPart hx5) lk_X7_251 ds_X7_isPart rfl (by decide) (by decide) (by decide) dX7_drift_13 rfl 16 rfl ?_
    refine z_if_ne hX 21 dX7_drift_16 (by decide) 19 rfl (fun c6 => ?_) (fun c6 => ?_)
    · replace h := br_pos h c6
      refine z_aload_n hX dX7_drift_21 0 rfl 22 rfl ?_
      refine z_get7 hX (k := 189) (j := 3) (v := .int ((s4.1 189 3))) kdc_189 (by decide) rfl dX7_drift_22 fl_X7_69 25 rfl ?_
      refine z_if_ne hX 31 dX7_drift_25 (by decide) 28 rfl (fun c7 => ?_) (fun c7 => ?_)
      · replace h := br_pos h c7
        refine z_iload_n hX dX7_drift_31 1 rfl 32 rfl ?_
        refine z_istore hX (lv2 := [(4, .int a1), (0, .ref (gL Γ (189))), (1, .int a1), (2, .int a2), (3, .int a3)]) dX7_drift_32 (by decide) rfl 34 rfl ?_
        refine z_aload_n hX dX7_drift_34 1 rfl 35 rfl ?_
        replace h := cl_elim h
        obtain ⟨x9, s8, hx9, h⟩ := h
        refine z_cV7v hX (b := 189) (As := []) (c_X7_starts hx9) lk_X7_188 rfl kdc_189 ds_X7_starts rfl (by decide) (by decide) (by decide) dX7_drift_35 rfl 38 rfl ?_
        refine z_aload_n hX dX7_drift_38 1 rfl 39 rfl ?_
        replace h := cl_elim h
        obtain ⟨x11, s10, hx11, h⟩ := h
        refine z_cV7i hX (b := 189) (As := []) (c_X7_allHad hx11) lk_X7_197 rfl kdc_189 ds_X7_allHad rfl (by decide) (by decide) (by decide) dX7_drift_39 rfl 42 rfl ?_
        refine z_istore hX (lv2 := [(5, .int x11), (4, .int a1), (0, .ref (gL Γ (189))), (1, .int a1), (2, .int a2), (3, .int a3)]) dX7_drift_42 (by decide) rfl 44 rfl ?_
        refine z_aload_n hX dX7_drift_44 2 rfl 45 rfl ?_
        replace h := cl_elim h
        obtain ⟨x13, s12, hx13, h⟩ := h
        refine z_cV7i hX (b := 189) (As := []) (c_X7_allLost hx13) lk_X7_194 rfl kdc_189 ds_X7_allLost rfl (by decide) (by decide) (by decide) dX7_drift_45 rfl 48 rfl ?_
        refine z_istore hX (lv2 := [(6, .int x13), (5, .int x11), (4, .int a1), (0, .ref (gL Γ (189))), (1, .int a1), (2, .int a2), (3, .int a3)]) dX7_drift_48 (by decide) rfl 50 rfl ?_
        refine z_iconst hX (v := (nI 0)) dX7_drift_50 rfl 51 rfl ?_
        refine z_istore hX (lv2 := [(7, .int ((nI 0))), (6, .int x13), (5, .int x11), (4, .int a1), (0, .ref (gL Γ (189))), (1, .int a1), (2, .int a2), (3, .int a3)]) dX7_drift_51 (by decide) rfl 53 rfl ?_
        exact z_sub [4, 6, 7, 3, 2, 1, 0] rfl (lp_ok (Z := fun q : Int32 × Int32 × St => Zw X Γ 8 r0 q.2.2 53 [(0, .ref (gL Γ (189))), (2, .int a2), (3, .int a3), (4, .int q.1), (5, .int x11), (6, .int x13), (7, .int q.2.1)] []) (fun q t h hk => e_X7_drift_L53 hX h hk) Fu _ _ h hk)
      · replace h := br_neg h c7
        refine z_bipush hX (v := (-2)) dX7_drift_28 (by decide) 30 rfl ?_
        replace h := Option.some.inj h
        subst h
        exact z_iret hX dX7_drift_30 rfl hk
    · replace h := br_neg h c6
      refine z_iconst hX (v := (-1)) dX7_drift_19 rfl 20 rfl ?_
      replace h := Option.some.inj h
      subst h
      exact z_iret hX dX7_drift_20 rfl hk
theorem c_X7_drift {lc : Launch} {Γ : Gm} {a1 : Int32} {a2 : Int32} {a3 : Int32} {s s2 : St} {v : Int32} (h : f_X7_drift a1 a2 a3 s = some (v, s2)) : Ct lc Γ yX7_drift cX7_drift 8 (some .int) 4 [.ref (gL Γ (189)), .int a1, .int a2, .int a3] s (some (.int v), s2) := Ct.of (by decide +kernel) (Nat.le_of_ble_eq_true rfl) (fun X hl hX => e_X7_drift hX h rfl)
theorem dX7_copies_0 : decode cX7_copies 0 = .ok (.iconst 0, 1) := by decide +kernel
theorem dX7_copies_1 : decode cX7_copies 1 = .ok (.istore_n 3, 1) := by decide +kernel
theorem dX7_copies_2 : decode cX7_copies 2 = .ok (.iload_n 3, 1) := by decide +kernel
theorem dX7_copies_3 : decode cX7_copies 3 = .ok (.sipush 131, 3) := by decide +kernel
theorem dX7_copies_6 : decode cX7_copies 6 = .ok (.if_icmp .ge 25, 3) := by decide +kernel
theorem dX7_copies_9 : decode cX7_copies 9 = .ok (.aload_n 0, 1) := by decide +kernel
theorem dX7_copies_10 : decode cX7_copies 10 = .ok (.getfield 7, 3) := by decide +kernel
theorem dX7_copies_13 : decode cX7_copies 13 = .ok (.iload_n 1, 1) := by decide +kernel
theorem dX7_copies_14 : decode cX7_copies 14 = .ok (.iload_n 3, 1) := by decide +kernel
theorem dX7_copies_15 : decode cX7_copies 15 = .ok (.iadd, 1) := by decide +kernel
theorem dX7_copies_16 : decode cX7_copies 16 = .ok (.aload_n 0, 1) := by decide +kernel
theorem dX7_copies_17 : decode cX7_copies 17 = .ok (.getfield 7, 3) := by decide +kernel
theorem dX7_copies_20 : decode cX7_copies 20 = .ok (.iload_n 2, 1) := by decide +kernel
theorem dX7_copies_21 : decode cX7_copies 21 = .ok (.iload_n 3, 1) := by decide +kernel
theorem dX7_copies_22 : decode cX7_copies 22 = .ok (.iadd, 1) := by decide +kernel
theorem dX7_copies_23 : decode cX7_copies 23 = .ok (.iaload, 1) := by decide +kernel
theorem dX7_copies_24 : decode cX7_copies 24 = .ok (.iastore, 1) := by decide +kernel
theorem dX7_copies_25 : decode cX7_copies 25 = .ok (.iinc 3 1, 3) := by decide +kernel
theorem dX7_copies_28 : decode cX7_copies 28 = .ok (.goto (-26), 3) := by decide +kernel
theorem dX7_copies_31 : decode cX7_copies 31 = .ok (.return_, 1) := by decide +kernel
def f_X7_copies_L2 (v1 : Int32) (v2 : Int32) (v3 : Int32) (s : St) : Option ((Int32 × St) ⊕ (Unit × St)) := if (nI 131) ≤ v3 then (some (Sum.inr (((), s)))) else (if inb (v2 + v3) (lnI 190) = true then if inb (v1 + v3) (lnI 190) = true then bd (wI s 190 ((v1 + v3)).toNatClampNeg (s.1 190 ((v2 + v3)).toNatClampNeg)) (fun s4 => some (Sum.inl ((v3 + (nI 1)), s4))) else none else none)
def f_X7_copies (a1 : Int32) (a2 : Int32) (s : St) : Option (Unit × St) := lp (fun q : Int32 × St => f_X7_copies_L2 a1 a2 q.1 q.2) Fu ((nI 0), s)
set_option maxHeartbeats 4000000 in
set_option maxRecDepth 100000 in
theorem e_X7_copies_L2 {X : Cx} {Γ : Gm} {r0 : Rb} (hX : Amb X Γ cX7_copies RX7 4 none 0) {v1 : Int32} {v2 : Int32} {v3 : Int32} {s : St} {t : (Int32 × St) ⊕ (Unit × St)} (h : f_X7_copies_L2 v1 v2 v3 s = some t) (hk : (Sum.elim (fun q : Int32 × St => Zw X Γ 4 r0 q.2 2 [(0, .ref (gL Γ (189))), (1, .int v1), (2, .int v2), (3, .int q.1)] []) (fun t : Unit × St => Rt X Γ r0 (none, t.2))) t) : Zw X Γ 4 r0 s 2 [(0, .ref (gL Γ (189))), (1, .int v1), (2, .int v2), (3, .int v3)] [] := by
  unfold f_X7_copies_L2 at h
  refine z_iload_n hX dX7_copies_2 3 rfl 3 rfl ?_
  refine z_sipush hX (v := (nI 131)) dX7_copies_3 (by decide) 6 rfl ?_
  refine z_icmp_ge hX 31 dX7_copies_6 (by decide) 9 rfl (fun c1 => ?_) (fun c1 => ?_)
  · replace h := br_pos h c1
    replace h := Option.some.inj h
    subst h
    exact z_vret hX dX7_copies_31 rfl hk
  · replace h := br_neg h c1
    refine z_aload_n hX dX7_copies_9 0 rfl 10 rfl ?_
    refine z_get7 hX (k := 189) (j := 0) (v := .ref (gL Γ (190))) kdc_189 (by decide) rfl dX7_copies_10 fl_X7_7 13 rfl ?_
    refine z_iload_n hX dX7_copies_13 1 rfl 14 rfl ?_
    refine z_iload_n hX dX7_copies_14 3 rfl 15 rfl ?_
    refine z_iadd hX dX7_copies_15 16 rfl ?_
    refine z_aload_n hX dX7_copies_16 0 rfl 17 rfl ?_
    refine z_get7 hX (k := 189) (j := 0) (v := .ref (gL Γ (190))) kdc_189 (by decide) rfl dX7_copies_17 fl_X7_7 20 rfl ?_
    refine z_iload_n hX dX7_copies_20 2 rfl 21 rfl ?_
    refine z_iload_n hX dX7_copies_21 3 rfl 22 rfl ?_
    refine z_iadd hX dX7_copies_22 23 rfl ?_
    replace h := gd_elim h
    obtain ⟨g2, h⟩ := h
    refine z_iald hX (inb_vp g2) dX7_copies_23 24 rfl ?_
    replace h := gd_elim h
    obtain ⟨g3, h⟩ := h
    replace h := bd_elim h
    obtain ⟨s4, es4, h⟩ := h
    refine z_iast hX (inb_vp g3) dX7_copies_24 es4 25 rfl ?_
    refine z_iinc hX (v := (v3 + (nI 1))) (lv2 := [(3, .int ((v3 + (nI 1)))), (0, .ref (gL Γ (189))), (1, .int v1), (2, .int v2)]) dX7_copies_25 3 rfl rfl (by decide) rfl 28 rfl ?_
    refine z_goto hX 2 dX7_copies_28 (by decide) ?_
    replace h := Option.some.inj h
    subst h
    exact z_sub [1, 2, 3, 0] rfl hk
set_option maxHeartbeats 4000000 in
set_option maxRecDepth 100000 in
theorem e_X7_copies {X : Cx} {Γ : Gm} {r0 : Rb} (hX : Amb X Γ cX7_copies RX7 4 none 0) {a1 : Int32} {a2 : Int32} {s : St} {t : Unit × St} (h : f_X7_copies a1 a2 s = some t) (hk : (fun t : Unit × St => Rt X Γ r0 (none, t.2)) t) : Zw X Γ 4 r0 s 0 [(0, .ref (gL Γ (189))), (1, .int a1), (2, .int a2)] [] := by
  unfold f_X7_copies at h
  refine z_iconst hX (v := (nI 0)) dX7_copies_0 rfl 1 rfl ?_
  refine z_istore_n hX (lv2 := [(3, .int ((nI 0))), (0, .ref (gL Γ (189))), (1, .int a1), (2, .int a2)]) dX7_copies_1 (by decide) rfl 2 rfl ?_
  exact z_sub [1, 2, 3, 0] rfl (lp_ok (Z := fun q : Int32 × St => Zw X Γ 4 r0 q.2 2 [(0, .ref (gL Γ (189))), (1, .int a1), (2, .int a2), (3, .int q.1)] []) (fun q t h hk => e_X7_copies_L2 hX h hk) Fu _ _ h hk)
theorem c_X7_copies {lc : Launch} {Γ : Gm} {a1 : Int32} {a2 : Int32} {s s2 : St} {v : Unit} (h : f_X7_copies a1 a2 s = some (v, s2)) : Ct lc Γ yX7_copies cX7_copies 4 none 0 [.ref (gL Γ (189)), .int a1, .int a2] s (none, s2) := Ct.of (by decide +kernel) (Nat.le_of_ble_eq_true rfl) (fun X hl hX => e_X7_copies hX h rfl)
theorem dX7_keep_0 : decode cX7_keep 0 = .ok (.iload_n 1, 1) := by decide +kernel
theorem dX7_keep_1 : decode cX7_keep 1 = .ok (.i2l, 1) := by decide +kernel
theorem dX7_keep_2 : decode cX7_keep 2 = .ok (.lconst 0, 1) := by decide +kernel
theorem dX7_keep_3 : decode cX7_keep 3 = .ok (.lconst 1, 1) := by decide +kernel
theorem dX7_keep_4 : decode cX7_keep 4 = .ok (.invokestatic 52, 3) := by decide +kernel
theorem dX7_keep_7 : decode cX7_keep 7 = .ok (.ifCond .ne 5, 3) := by decide +kernel
theorem dX7_keep_10 : decode cX7_keep 10 = .ok (.iconst (-1), 1) := by decide +kernel
theorem dX7_keep_11 : decode cX7_keep 11 = .ok (.ireturn, 1) := by decide +kernel
theorem dX7_keep_12 : decode cX7_keep 12 = .ok (.aload_n 0, 1) := by decide +kernel
theorem dX7_keep_13 : decode cX7_keep 13 = .ok (.getfield 16, 3) := by decide +kernel
theorem dX7_keep_16 : decode cX7_keep 16 = .ok (.iload_n 1, 1) := by decide +kernel
theorem dX7_keep_17 : decode cX7_keep 17 = .ok (.baload, 1) := by decide +kernel
theorem dX7_keep_18 : decode cX7_keep 18 = .ok (.invokestatic 288, 3) := by decide +kernel
theorem dX7_keep_21 : decode cX7_keep 21 = .ok (.istore_n 2, 1) := by decide +kernel
theorem dX7_keep_22 : decode cX7_keep 22 = .ok (.aload_n 0, 1) := by decide +kernel
theorem dX7_keep_23 : decode cX7_keep 23 = .ok (.getfield 16, 3) := by decide +kernel
theorem dX7_keep_26 : decode cX7_keep 26 = .ok (.iload_n 1, 1) := by decide +kernel
theorem dX7_keep_27 : decode cX7_keep 27 = .ok (.iconst 1, 1) := by decide +kernel
theorem dX7_keep_28 : decode cX7_keep 28 = .ok (.bastore, 1) := by decide +kernel
theorem dX7_keep_29 : decode cX7_keep 29 = .ok (.aload_n 0, 1) := by decide +kernel
theorem dX7_keep_30 : decode cX7_keep 30 = .ok (.sipush 131, 3) := by decide +kernel
theorem dX7_keep_33 : decode cX7_keep 33 = .ok (.iload_n 1, 1) := by decide +kernel
theorem dX7_keep_34 : decode cX7_keep 34 = .ok (.iconst 1, 1) := by decide +kernel
theorem dX7_keep_35 : decode cX7_keep 35 = .ok (.iadd, 1) := by decide +kernel
theorem dX7_keep_36 : decode cX7_keep 36 = .ok (.imul, 1) := by decide +kernel
theorem dX7_keep_37 : decode cX7_keep 37 = .ok (.iconst 0, 1) := by decide +kernel
theorem dX7_keep_38 : decode cX7_keep 38 = .ok (.invokevirtual 293, 3) := by decide +kernel
theorem dX7_keep_41 : decode cX7_keep 41 = .ok (.iload_n 2, 1) := by decide +kernel
theorem dX7_keep_42 : decode cX7_keep 42 = .ok (.ireturn, 1) := by decide +kernel
def f_X7_keep (a1 : Int32) (s : St) : Option (Int32 × St) := cl (f_X7_within ((a1).toInt64) (lN 0) (lN 1) s) (fun x2 s1 => if ¬ x2 = 0 then (if inb a1 (lnZ 192) = true then cl (f_X7_flag (s1.1 192 (a1).toNatClampNeg) s1) (fun x6 s5 => bd (wI s5 192 (a1).toNatClampNeg (vp_nar .boolean (nI 1))) (fun s7 => cl (f_X7_copies ((nI 131) * (a1 + (nI 1))) (nI 0) s7) (fun x9 s8 => some ((x6, s8))))) else none) else (some (((-1), s1))))
set_option maxHeartbeats 4000000 in
set_option maxRecDepth 100000 in
theorem e_X7_keep {X : Cx} {Γ : Gm} {r0 : Rb} (hX : Amb X Γ cX7_keep RX7 3 (some .int) 1) {a1 : Int32} {s : St} {t : Int32 × St} (h : f_X7_keep a1 s = some t) (hk : (fun t : Int32 × St => Rt X Γ r0 (some (Value.int t.1), t.2)) t) : Zw X Γ 3 r0 s 0 [(0, .ref (gL Γ (189))), (1, .int a1)] [] := by
  unfold f_X7_keep at h
  refine z_iload_n hX dX7_keep_0 1 rfl 1 rfl ?_
  refine z_i2l hX dX7_keep_1 2 rfl ?_
  refine z_lconst hX (v := (lN 0)) dX7_keep_2 rfl 3 rfl ?_
  refine z_lconst hX (v := (lN 1)) dX7_keep_3 rfl 4 rfl ?_
  replace h := cl_elim h
  obtain ⟨x2, s1, hx2, h⟩ := h
  refine z_cSi hX (As := [.long ((a1).toInt64), .long ((lN 0)), .long ((lN 1))]) (c_X7_within hx2) lk_X7_52 ds_X7_within rfl (by decide) (by decide) (by decide) dX7_keep_4 rfl 7 rfl ?_
  refine z_if_ne hX 12 dX7_keep_7 (by decide) 10 rfl (fun c3 => ?_) (fun c3 => ?_)
  · replace h := br_pos h c3
    refine z_aload_n hX dX7_keep_12 0 rfl 13 rfl ?_
    refine z_get7 hX (k := 189) (j := 2) (v := .ref (gL Γ (192))) kdc_189 (by decide) rfl dX7_keep_13 fl_X7_16 16 rfl ?_
    refine z_iload_n hX dX7_keep_16 1 rfl 17 rfl ?_
    replace h := gd_elim h
    obtain ⟨g4, h⟩ := h
    refine z_zald hX (inb_vp g4) dX7_keep_17 18 rfl ?_
    replace h := cl_elim h
    obtain ⟨x6, s5, hx6, h⟩ := h
    refine z_cSi hX (As := [.int ((s1.1 192 (a1).toNatClampNeg))]) (c_X7_flag hx6) lk_X7_288 ds_X7_flag rfl (by decide) (by decide) (by decide) dX7_keep_18 rfl 21 rfl ?_
    refine z_istore_n hX (lv2 := [(2, .int x6), (0, .ref (gL Γ (189))), (1, .int a1)]) dX7_keep_21 (by decide) rfl 22 rfl ?_
    refine z_aload_n hX dX7_keep_22 1 rfl 23 rfl ?_
    refine z_get7 hX (k := 189) (j := 2) (v := .ref (gL Γ (192))) kdc_189 (by decide) rfl dX7_keep_23 fl_X7_16 26 rfl ?_
    refine z_iload_n hX dX7_keep_26 2 rfl 27 rfl ?_
    refine z_iconst hX (v := (nI 1)) dX7_keep_27 rfl 28 rfl ?_
    replace h := bd_elim h
    obtain ⟨s7, es7, h⟩ := h
    refine z_zast hX (inb_vp g4) dX7_keep_28 es7 29 rfl ?_
    refine z_aload_n hX dX7_keep_29 1 rfl 30 rfl ?_
    refine z_sipush hX (v := (nI 131)) dX7_keep_30 (by decide) 33 rfl ?_
    refine z_iload_n hX dX7_keep_33 2 rfl 34 rfl ?_
    refine z_iconst hX (v := (nI 1)) dX7_keep_34 rfl 35 rfl ?_
    refine z_iadd hX dX7_keep_35 36 rfl ?_
    refine z_imul hX dX7_keep_36 37 rfl ?_
    refine z_iconst hX (v := (nI 0)) dX7_keep_37 rfl 38 rfl ?_
    replace h := cl_elim h
    obtain ⟨x9, s8, hx9, h⟩ := h
    refine z_cV7v hX (b := 189) (As := [.int (((nI 131) * (a1 + (nI 1)))), .int ((nI 0))]) (c_X7_copies hx9) lk_X7_293 rfl kdc_189 ds_X7_copies rfl (by decide) (by decide) (by decide) dX7_keep_38 rfl 41 rfl ?_
    refine z_iload_n hX dX7_keep_41 0 rfl 42 rfl ?_
    replace h := Option.some.inj h
    subst h
    exact z_iret hX dX7_keep_42 rfl hk
  · replace h := br_neg h c3
    refine z_iconst hX (v := (-1)) dX7_keep_10 rfl 11 rfl ?_
    replace h := Option.some.inj h
    subst h
    exact z_iret hX dX7_keep_11 rfl hk
theorem c_X7_keep {lc : Launch} {Γ : Gm} {a1 : Int32} {s s2 : St} {v : Int32} (h : f_X7_keep a1 s = some (v, s2)) : Ct lc Γ yX7_keep cX7_keep 3 (some .int) 1 [.ref (gL Γ (189)), .int a1] s (some (.int v), s2) := Ct.of (by decide +kernel) (Nat.le_of_ble_eq_true rfl) (fun X hl hX => e_X7_keep hX h rfl)
theorem dX7_back_0 : decode cX7_back 0 = .ok (.iload_n 1, 1) := by decide +kernel
theorem dX7_back_1 : decode cX7_back 1 = .ok (.i2l, 1) := by decide +kernel
theorem dX7_back_2 : decode cX7_back 2 = .ok (.lconst 0, 1) := by decide +kernel
theorem dX7_back_3 : decode cX7_back 3 = .ok (.lconst 1, 1) := by decide +kernel
theorem dX7_back_4 : decode cX7_back 4 = .ok (.invokestatic 52, 3) := by decide +kernel
theorem dX7_back_7 : decode cX7_back 7 = .ok (.ifCond .ne 5, 3) := by decide +kernel
theorem dX7_back_10 : decode cX7_back 10 = .ok (.iconst (-1), 1) := by decide +kernel
theorem dX7_back_11 : decode cX7_back 11 = .ok (.ireturn, 1) := by decide +kernel
theorem dX7_back_12 : decode cX7_back 12 = .ok (.aload_n 0, 1) := by decide +kernel
theorem dX7_back_13 : decode cX7_back 13 = .ok (.getfield 16, 3) := by decide +kernel
theorem dX7_back_16 : decode cX7_back 16 = .ok (.iload_n 1, 1) := by decide +kernel
theorem dX7_back_17 : decode cX7_back 17 = .ok (.baload, 1) := by decide +kernel
theorem dX7_back_18 : decode cX7_back 18 = .ok (.ifCond .ne 6, 3) := by decide +kernel
theorem dX7_back_21 : decode cX7_back 21 = .ok (.bipush (-2), 2) := by decide +kernel
theorem dX7_back_23 : decode cX7_back 23 = .ok (.ireturn, 1) := by decide +kernel
theorem dX7_back_24 : decode cX7_back 24 = .ok (.aload_n 0, 1) := by decide +kernel
theorem dX7_back_25 : decode cX7_back 25 = .ok (.iconst 0, 1) := by decide +kernel
theorem dX7_back_26 : decode cX7_back 26 = .ok (.sipush 131, 3) := by decide +kernel
theorem dX7_back_29 : decode cX7_back 29 = .ok (.iload_n 1, 1) := by decide +kernel
theorem dX7_back_30 : decode cX7_back 30 = .ok (.iconst 1, 1) := by decide +kernel
theorem dX7_back_31 : decode cX7_back 31 = .ok (.iadd, 1) := by decide +kernel
theorem dX7_back_32 : decode cX7_back 32 = .ok (.imul, 1) := by decide +kernel
theorem dX7_back_33 : decode cX7_back 33 = .ok (.invokevirtual 293, 3) := by decide +kernel
theorem dX7_back_36 : decode cX7_back 36 = .ok (.aload_n 0, 1) := by decide +kernel
theorem dX7_back_37 : decode cX7_back 37 = .ok (.getfield 7, 3) := by decide +kernel
theorem dX7_back_40 : decode cX7_back 40 = .ok (.bipush 42, 2) := by decide +kernel
theorem dX7_back_42 : decode cX7_back 42 = .ok (.iaload, 1) := by decide +kernel
theorem dX7_back_43 : decode cX7_back 43 = .ok (.ireturn, 1) := by decide +kernel
def f_X7_back (a1 : Int32) (s : St) : Option (Int32 × St) := cl (f_X7_within ((a1).toInt64) (lN 0) (lN 1) s) (fun x2 s1 => if ¬ x2 = 0 then (if inb a1 (lnZ 192) = true then if ¬ (s1.1 192 (a1).toNatClampNeg) = 0 then (cl (f_X7_copies (nI 0) ((nI 131) * (a1 + (nI 1))) s1) (fun x7 s6 => if inb (nI 42) (lnI 190) = true then some (((s6.1 190 ((nI 42)).toNatClampNeg), s6)) else none)) else (some (((-2), s1))) else none) else (some (((-1), s1))))
set_option maxHeartbeats 4000000 in
set_option maxRecDepth 100000 in
theorem e_X7_back {X : Cx} {Γ : Gm} {r0 : Rb} (hX : Amb X Γ cX7_back RX7 2 (some .int) 1) {a1 : Int32} {s : St} {t : Int32 × St} (h : f_X7_back a1 s = some t) (hk : (fun t : Int32 × St => Rt X Γ r0 (some (Value.int t.1), t.2)) t) : Zw X Γ 2 r0 s 0 [(0, .ref (gL Γ (189))), (1, .int a1)] [] := by
  unfold f_X7_back at h
  refine z_iload_n hX dX7_back_0 1 rfl 1 rfl ?_
  refine z_i2l hX dX7_back_1 2 rfl ?_
  refine z_lconst hX (v := (lN 0)) dX7_back_2 rfl 3 rfl ?_
  refine z_lconst hX (v := (lN 1)) dX7_back_3 rfl 4 rfl ?_
  replace h := cl_elim h
  obtain ⟨x2, s1, hx2, h⟩ := h
  refine z_cSi hX (As := [.long ((a1).toInt64), .long ((lN 0)), .long ((lN 1))]) (c_X7_within hx2) lk_X7_52 ds_X7_within rfl (by decide) (by decide) (by decide) dX7_back_4 rfl 7 rfl ?_
  refine z_if_ne hX 12 dX7_back_7 (by decide) 10 rfl (fun c3 => ?_) (fun c3 => ?_)
  · replace h := br_pos h c3
    refine z_aload_n hX dX7_back_12 0 rfl 13 rfl ?_
    refine z_get7 hX (k := 189) (j := 2) (v := .ref (gL Γ (192))) kdc_189 (by decide) rfl dX7_back_13 fl_X7_16 16 rfl ?_
    refine z_iload_n hX dX7_back_16 1 rfl 17 rfl ?_
    replace h := gd_elim h
    obtain ⟨g4, h⟩ := h
    refine z_zald hX (inb_vp g4) dX7_back_17 18 rfl ?_
    refine z_if_ne hX 24 dX7_back_18 (by decide) 21 rfl (fun c5 => ?_) (fun c5 => ?_)
    · replace h := br_pos h c5
      refine z_aload_n hX dX7_back_24 0 rfl 25 rfl ?_
      refine z_iconst hX (v := (nI 0)) dX7_back_25 rfl 26 rfl ?_
      refine z_sipush hX (v := (nI 131)) dX7_back_26 (by decide) 29 rfl ?_
      refine z_iload_n hX dX7_back_29 1 rfl 30 rfl ?_
      refine z_iconst hX (v := (nI 1)) dX7_back_30 rfl 31 rfl ?_
      refine z_iadd hX dX7_back_31 32 rfl ?_
      refine z_imul hX dX7_back_32 33 rfl ?_
      replace h := cl_elim h
      obtain ⟨x7, s6, hx7, h⟩ := h
      refine z_cV7v hX (b := 189) (As := [.int ((nI 0)), .int (((nI 131) * (a1 + (nI 1))))]) (c_X7_copies hx7) lk_X7_293 rfl kdc_189 ds_X7_copies rfl (by decide) (by decide) (by decide) dX7_back_33 rfl 36 rfl ?_
      refine z_aload_n hX dX7_back_36 0 rfl 37 rfl ?_
      refine z_get7 hX (k := 189) (j := 0) (v := .ref (gL Γ (190))) kdc_189 (by decide) rfl dX7_back_37 fl_X7_7 40 rfl ?_
      refine z_bipush hX (v := (nI 42)) dX7_back_40 (by decide) 42 rfl ?_
      replace h := gd_elim h
      obtain ⟨g8, h⟩ := h
      refine z_iald hX (inb_vp g8) dX7_back_42 43 rfl ?_
      replace h := Option.some.inj h
      subst h
      exact z_iret hX dX7_back_43 rfl hk
    · replace h := br_neg h c5
      refine z_bipush hX (v := (-2)) dX7_back_21 (by decide) 23 rfl ?_
      replace h := Option.some.inj h
      subst h
      exact z_iret hX dX7_back_23 rfl hk
  · replace h := br_neg h c3
    refine z_iconst hX (v := (-1)) dX7_back_10 rfl 11 rfl ?_
    replace h := Option.some.inj h
    subst h
    exact z_iret hX dX7_back_11 rfl hk
theorem c_X7_back {lc : Launch} {Γ : Gm} {a1 : Int32} {s s2 : St} {v : Int32} (h : f_X7_back a1 s = some (v, s2)) : Ct lc Γ yX7_back cX7_back 2 (some .int) 1 [.ref (gL Γ (189)), .int a1] s (some (.int v), s2) := Ct.of (by decide +kernel) (Nat.le_of_ble_eq_true rfl) (fun X hl hX => e_X7_back hX h rfl)
theorem dX7_isSheet_0 : decode cX7_isSheet 0 = .ok (.iload_n 0, 1) := by decide +kernel
theorem dX7_isSheet_1 : decode cX7_isSheet 1 = .ok (.i2l, 1) := by decide +kernel
theorem dX7_isSheet_2 : decode cX7_isSheet 2 = .ok (.lconst 0, 1) := by decide +kernel
theorem dX7_isSheet_3 : decode cX7_isSheet 3 = .ok (.ldc2_w 161, 3) := by decide +kernel
theorem dX7_isSheet_6 : decode cX7_isSheet 6 = .ok (.invokestatic 52, 3) := by decide +kernel
theorem dX7_isSheet_9 : decode cX7_isSheet 9 = .ok (.ifCond .eq 19, 3) := by decide +kernel
theorem dX7_isSheet_12 : decode cX7_isSheet 12 = .ok (.iload_n 1, 1) := by decide +kernel
theorem dX7_isSheet_13 : decode cX7_isSheet 13 = .ok (.i2l, 1) := by decide +kernel
theorem dX7_isSheet_14 : decode cX7_isSheet 14 = .ok (.lconst 0, 1) := by decide +kernel
theorem dX7_isSheet_15 : decode cX7_isSheet 15 = .ok (.ldc2_w 297, 3) := by decide +kernel
theorem dX7_isSheet_18 : decode cX7_isSheet 18 = .ok (.invokestatic 52, 3) := by decide +kernel
theorem dX7_isSheet_21 : decode cX7_isSheet 21 = .ok (.ifCond .eq 7, 3) := by decide +kernel
theorem dX7_isSheet_24 : decode cX7_isSheet 24 = .ok (.iconst 1, 1) := by decide +kernel
theorem dX7_isSheet_25 : decode cX7_isSheet 25 = .ok (.goto 4, 3) := by decide +kernel
theorem dX7_isSheet_28 : decode cX7_isSheet 28 = .ok (.iconst 0, 1) := by decide +kernel
theorem dX7_isSheet_29 : decode cX7_isSheet 29 = .ok (.ireturn, 1) := by decide +kernel
def f_X7_isSheet (a0 : Int32) (a1 : Int32) (s : St) : Option (Int32 × St) := cl (f_X7_within ((a0).toInt64) (lN 0) (lN 3) s) (fun x2 s1 => if x2 = 0 then (some (((nI 0), s1))) else (cl (f_X7_within ((a1).toInt64) (lN 0) (lN 2) s1) (fun x5 s4 => if x5 = 0 then (some (((nI 0), s4))) else (some (((nI 1), s4))))))
set_option maxHeartbeats 4000000 in
set_option maxRecDepth 100000 in
theorem e_X7_isSheet {X : Cx} {Γ : Gm} {r0 : Rb} (hX : Amb X Γ cX7_isSheet RX7 2 (some .boolean) 1) {a0 : Int32} {a1 : Int32} {s : St} {t : Int32 × St} (h : f_X7_isSheet a0 a1 s = some t) (hk : (fun t : Int32 × St => Rt X Γ r0 (some (Value.int t.1), t.2)) t) : Zw X Γ 2 r0 s 0 [(0, .int a0), (1, .int a1)] [] := by
  unfold f_X7_isSheet at h
  refine z_iload_n hX dX7_isSheet_0 0 rfl 1 rfl ?_
  refine z_i2l hX dX7_isSheet_1 2 rfl ?_
  refine z_lconst hX (v := (lN 0)) dX7_isSheet_2 rfl 3 rfl ?_
  refine z_ldc2 hX (v := (lN 3)) dX7_isSheet_3 ml_X7_161 6 rfl ?_
  replace h := cl_elim h
  obtain ⟨x2, s1, hx2, h⟩ := h
  refine z_cSi hX (As := [.long ((a0).toInt64), .long ((lN 0)), .long ((lN 3))]) (c_X7_within hx2) lk_X7_52 ds_X7_within rfl (by decide) (by decide) (by decide) dX7_isSheet_6 rfl 9 rfl ?_
  refine z_if_eq hX 28 dX7_isSheet_9 (by decide) 12 rfl (fun c3 => ?_) (fun c3 => ?_)
  · replace h := br_pos h c3
    refine z_iconst hX (v := (nI 0)) dX7_isSheet_28 rfl 29 rfl ?_
    replace h := Option.some.inj h
    subst h
    exact z_zret hX dX7_isSheet_29 rfl (by decide) hk
  · replace h := br_neg h c3
    refine z_iload_n hX dX7_isSheet_12 1 rfl 13 rfl ?_
    refine z_i2l hX dX7_isSheet_13 14 rfl ?_
    refine z_lconst hX (v := (lN 0)) dX7_isSheet_14 rfl 15 rfl ?_
    refine z_ldc2 hX (v := (lN 2)) dX7_isSheet_15 ml_X7_297 18 rfl ?_
    replace h := cl_elim h
    obtain ⟨x5, s4, hx5, h⟩ := h
    refine z_cSi hX (As := [.long ((a1).toInt64), .long ((lN 0)), .long ((lN 2))]) (c_X7_within hx5) lk_X7_52 ds_X7_within rfl (by decide) (by decide) (by decide) dX7_isSheet_18 rfl 21 rfl ?_
    refine z_if_eq hX 28 dX7_isSheet_21 (by decide) 24 rfl (fun c6 => ?_) (fun c6 => ?_)
    · replace h := br_pos h c6
      refine z_iconst hX (v := (nI 0)) dX7_isSheet_28 rfl 29 rfl ?_
      replace h := Option.some.inj h
      subst h
      exact z_zret hX dX7_isSheet_29 rfl (by decide) hk
    · replace h := br_neg h c6
      refine z_iconst hX (v := (nI 1)) dX7_isSheet_24 rfl 25 rfl ?_
      refine z_goto hX 29 dX7_isSheet_25 (by decide) ?_
      replace h := Option.some.inj h
      subst h
      exact z_zret hX dX7_isSheet_29 rfl (by decide) hk
theorem c_X7_isSheet {lc : Launch} {Γ : Gm} {a0 : Int32} {a1 : Int32} {s s2 : St} {v : Int32} (h : f_X7_isSheet a0 a1 s = some (v, s2)) : Ct lc Γ yX7_isSheet cX7_isSheet 2 (some .boolean) 1 [.int a0, .int a1] s (some (.int v), s2) := Ct.of (by decide +kernel) (Nat.le_of_ble_eq_true rfl) (fun X hl hX => e_X7_isSheet hX h rfl)
theorem dX7_sheet_0 : decode cX7_sheet 0 = .ok (.iload_n 1, 1) := by decide +kernel
theorem dX7_sheet_1 : decode cX7_sheet 1 = .ok (.iload_n 2, 1) := by decide +kernel
theorem dX7_sheet_2 : decode cX7_sheet 2 = .ok (.invokestatic 299, 3) := by decide +kernel
theorem dX7_sheet_5 : decode cX7_sheet 5 = .ok (.ifCond .eq 9, 3) := by decide +kernel
theorem dX7_sheet_8 : decode cX7_sheet 8 = .ok (.iload_n 3, 1) := by decide +kernel
theorem dX7_sheet_9 : decode cX7_sheet 9 = .ok (.bipush 40, 2) := by decide +kernel
theorem dX7_sheet_11 : decode cX7_sheet 11 = .ok (.if_icmp .le 5, 3) := by decide +kernel
theorem dX7_sheet_14 : decode cX7_sheet 14 = .ok (.iconst (-1), 1) := by decide +kernel
theorem dX7_sheet_15 : decode cX7_sheet 15 = .ok (.ireturn, 1) := by decide +kernel
theorem dX7_sheet_16 : decode cX7_sheet 16 = .ok (.iload_n 3, 1) := by decide +kernel
theorem dX7_sheet_17 : decode cX7_sheet 17 = .ok (.ifCond .ge 6, 3) := by decide +kernel
theorem dX7_sheet_20 : decode cX7_sheet 20 = .ok (.bipush (-14), 2) := by decide +kernel
theorem dX7_sheet_22 : decode cX7_sheet 22 = .ok (.ireturn, 1) := by decide +kernel
theorem dX7_sheet_23 : decode cX7_sheet 23 = .ok (.aload_n 0, 1) := by decide +kernel
theorem dX7_sheet_24 : decode cX7_sheet 24 = .ok (.getfield 32, 3) := by decide +kernel
theorem dX7_sheet_27 : decode cX7_sheet 27 = .ok (.iload_n 1, 1) := by decide +kernel
theorem dX7_sheet_28 : decode cX7_sheet 28 = .ok (.iload_n 2, 1) := by decide +kernel
theorem dX7_sheet_29 : decode cX7_sheet 29 = .ok (.iastore, 1) := by decide +kernel
theorem dX7_sheet_30 : decode cX7_sheet 30 = .ok (.aload_n 0, 1) := by decide +kernel
theorem dX7_sheet_31 : decode cX7_sheet 31 = .ok (.getfield 35, 3) := by decide +kernel
theorem dX7_sheet_34 : decode cX7_sheet 34 = .ok (.iload_n 1, 1) := by decide +kernel
theorem dX7_sheet_35 : decode cX7_sheet 35 = .ok (.iload_n 3, 1) := by decide +kernel
theorem dX7_sheet_36 : decode cX7_sheet 36 = .ok (.iastore, 1) := by decide +kernel
theorem dX7_sheet_37 : decode cX7_sheet 37 = .ok (.iconst 0, 1) := by decide +kernel
theorem dX7_sheet_38 : decode cX7_sheet 38 = .ok (.istore 4, 2) := by decide +kernel
theorem dX7_sheet_40 : decode cX7_sheet 40 = .ok (.iload 4, 2) := by decide +kernel
theorem dX7_sheet_42 : decode cX7_sheet 42 = .ok (.bipush 40, 2) := by decide +kernel
theorem dX7_sheet_44 : decode cX7_sheet 44 = .ok (.if_icmp .ge 22, 3) := by decide +kernel
theorem dX7_sheet_47 : decode cX7_sheet 47 = .ok (.aload_n 0, 1) := by decide +kernel
theorem dX7_sheet_48 : decode cX7_sheet 48 = .ok (.getfield 38, 3) := by decide +kernel
theorem dX7_sheet_51 : decode cX7_sheet 51 = .ok (.bipush 40, 2) := by decide +kernel
theorem dX7_sheet_53 : decode cX7_sheet 53 = .ok (.iload_n 1, 1) := by decide +kernel
theorem dX7_sheet_54 : decode cX7_sheet 54 = .ok (.imul, 1) := by decide +kernel
theorem dX7_sheet_55 : decode cX7_sheet 55 = .ok (.iload 4, 2) := by decide +kernel
theorem dX7_sheet_57 : decode cX7_sheet 57 = .ok (.iadd, 1) := by decide +kernel
theorem dX7_sheet_58 : decode cX7_sheet 58 = .ok (.iconst 0, 1) := by decide +kernel
theorem dX7_sheet_59 : decode cX7_sheet 59 = .ok (.iastore, 1) := by decide +kernel
theorem dX7_sheet_60 : decode cX7_sheet 60 = .ok (.iinc 4 1, 3) := by decide +kernel
theorem dX7_sheet_63 : decode cX7_sheet 63 = .ok (.goto (-23), 3) := by decide +kernel
theorem dX7_sheet_66 : decode cX7_sheet 66 = .ok (.iconst 1, 1) := by decide +kernel
theorem dX7_sheet_67 : decode cX7_sheet 67 = .ok (.ireturn, 1) := by decide +kernel
def f_X7_sheet_L40 (v1 : Int32) (v4 : Int32) (s : St) : Option ((Int32 × St) ⊕ (Int32 × St)) := if (nI 40) ≤ v4 then (some (Sum.inr (((nI 1), s)))) else (if inb (((nI 40) * v1) + v4) (lnI 199) = true then bd (wI s 199 ((((nI 40) * v1) + v4)).toNatClampNeg (nI 0)) (fun s12 => some (Sum.inl ((v4 + (nI 1)), s12))) else none)
def f_X7_sheet (a1 : Int32) (a2 : Int32) (a3 : Int32) (s : St) : Option (Int32 × St) := cl (f_X7_isSheet a1 a2 s) (fun x2 s1 => if x2 = 0 then (some (((-1), s1))) else (if a3 ≤ (nI 40) then (if 0 ≤ a3 then (if inb a1 (lnI 197) = true then bd (wI s1 197 (a1).toNatClampNeg a2) (fun s7 => if inb a1 (lnI 198) = true then bd (wI s7 198 (a1).toNatClampNeg a3) (fun s9 => lp (fun q : Int32 × St => f_X7_sheet_L40 a1 q.1 q.2) Fu ((nI 0), s9)) else none) else none) else (some (((-14), s1)))) else (some (((-1), s1)))))
set_option maxHeartbeats 4000000 in
set_option maxRecDepth 100000 in
theorem e_X7_sheet_L40 {X : Cx} {Γ : Gm} {r0 : Rb} (hX : Amb X Γ cX7_sheet RX7 5 (some .int) 2) {v1 : Int32} {v4 : Int32} {s : St} {t : (Int32 × St) ⊕ (Int32 × St)} (h : f_X7_sheet_L40 v1 v4 s = some t) (hk : (Sum.elim (fun q : Int32 × St => Zw X Γ 5 r0 q.2 40 [(0, .ref (gL Γ (189))), (1, .int v1), (4, .int q.1)] []) (fun t : Int32 × St => Rt X Γ r0 (some (Value.int t.1), t.2))) t) : Zw X Γ 5 r0 s 40 [(0, .ref (gL Γ (189))), (1, .int v1), (4, .int v4)] [] := by
  unfold f_X7_sheet_L40 at h
  refine z_iload hX dX7_sheet_40 2 rfl 42 rfl ?_
  refine z_bipush hX (v := (nI 40)) dX7_sheet_42 (by decide) 44 rfl ?_
  refine z_icmp_ge hX 66 dX7_sheet_44 (by decide) 47 rfl (fun c10 => ?_) (fun c10 => ?_)
  · replace h := br_pos h c10
    refine z_iconst hX (v := (nI 1)) dX7_sheet_66 rfl 67 rfl ?_
    replace h := Option.some.inj h
    subst h
    exact z_iret hX dX7_sheet_67 rfl hk
  · replace h := br_neg h c10
    refine z_aload_n hX dX7_sheet_47 0 rfl 48 rfl ?_
    refine z_get7 hX (k := 189) (j := 25) (v := .ref (gL Γ (199))) kdc_189 (by decide) rfl dX7_sheet_48 fl_X7_38 51 rfl ?_
    refine z_bipush hX (v := (nI 40)) dX7_sheet_51 (by decide) 53 rfl ?_
    refine z_iload_n hX dX7_sheet_53 1 rfl 54 rfl ?_
    refine z_imul hX dX7_sheet_54 55 rfl ?_
    refine z_iload hX dX7_sheet_55 2 rfl 57 rfl ?_
    refine z_iadd hX dX7_sheet_57 58 rfl ?_
    refine z_iconst hX (v := (nI 0)) dX7_sheet_58 rfl 59 rfl ?_
    replace h := gd_elim h
    obtain ⟨g11, h⟩ := h
    replace h := bd_elim h
    obtain ⟨s12, es12, h⟩ := h
    refine z_iast hX (inb_vp g11) dX7_sheet_59 es12 60 rfl ?_
    refine z_iinc hX (v := (v4 + (nI 1))) (lv2 := [(4, .int ((v4 + (nI 1)))), (0, .ref (gL Γ (189))), (1, .int v1)]) dX7_sheet_60 2 rfl rfl (by decide) rfl 63 rfl ?_
    refine z_goto hX 40 dX7_sheet_63 (by decide) ?_
    replace h := Option.some.inj h
    subst h
    exact z_sub [1, 2, 0] rfl hk
set_option maxHeartbeats 4000000 in
set_option maxRecDepth 100000 in
theorem e_X7_sheet {X : Cx} {Γ : Gm} {r0 : Rb} (hX : Amb X Γ cX7_sheet RX7 5 (some .int) 2) {a1 : Int32} {a2 : Int32} {a3 : Int32} {s : St} {t : Int32 × St} (h : f_X7_sheet a1 a2 a3 s = some t) (hk : (fun t : Int32 × St => Rt X Γ r0 (some (Value.int t.1), t.2)) t) : Zw X Γ 5 r0 s 0 [(0, .ref (gL Γ (189))), (1, .int a1), (2, .int a2), (3, .int a3)] [] := by
  unfold f_X7_sheet at h
  refine z_iload_n hX dX7_sheet_0 1 rfl 1 rfl ?_
  refine z_iload_n hX dX7_sheet_1 2 rfl 2 rfl ?_
  replace h := cl_elim h
  obtain ⟨x2, s1, hx2, h⟩ := h
  refine z_cSi hX (As := [.int a1, .int a2]) (c_X7_isSheet hx2) lk_X7_299 ds_X7_isSheet rfl (by decide) (by decide) (by decide) dX7_sheet_2 rfl 5 rfl ?_
  refine z_if_eq hX 14 dX7_sheet_5 (by decide) 8 rfl (fun c3 => ?_) (fun c3 => ?_)
  · replace h := br_pos h c3
    refine z_iconst hX (v := (-1)) dX7_sheet_14 rfl 15 rfl ?_
    replace h := Option.some.inj h
    subst h
    exact z_iret hX dX7_sheet_15 rfl hk
  · replace h := br_neg h c3
    refine z_iload_n hX dX7_sheet_8 3 rfl 9 rfl ?_
    refine z_bipush hX (v := (nI 40)) dX7_sheet_9 (by decide) 11 rfl ?_
    refine z_icmp_le hX 16 dX7_sheet_11 (by decide) 14 rfl (fun c4 => ?_) (fun c4 => ?_)
    · replace h := br_pos h c4
      refine z_iload_n hX dX7_sheet_16 3 rfl 17 rfl ?_
      refine z_if_ge hX 23 dX7_sheet_17 (by decide) 20 rfl (fun c5 => ?_) (fun c5 => ?_)
      · replace h := br_pos h c5
        refine z_aload_n hX dX7_sheet_23 0 rfl 24 rfl ?_
        refine z_get7 hX (k := 189) (j := 23) (v := .ref (gL Γ (197))) kdc_189 (by decide) rfl dX7_sheet_24 fl_X7_32 27 rfl ?_
        refine z_iload_n hX dX7_sheet_27 1 rfl 28 rfl ?_
        refine z_iload_n hX dX7_sheet_28 2 rfl 29 rfl ?_
        replace h := gd_elim h
        obtain ⟨g6, h⟩ := h
        replace h := bd_elim h
        obtain ⟨s7, es7, h⟩ := h
        refine z_iast hX (inb_vp g6) dX7_sheet_29 es7 30 rfl ?_
        refine z_aload_n hX dX7_sheet_30 0 rfl 31 rfl ?_
        refine z_get7 hX (k := 189) (j := 24) (v := .ref (gL Γ (198))) kdc_189 (by decide) rfl dX7_sheet_31 fl_X7_35 34 rfl ?_
        refine z_iload_n hX dX7_sheet_34 1 rfl 35 rfl ?_
        refine z_iload_n hX dX7_sheet_35 3 rfl 36 rfl ?_
        replace h := gd_elim h
        obtain ⟨g8, h⟩ := h
        replace h := bd_elim h
        obtain ⟨s9, es9, h⟩ := h
        refine z_iast hX (inb_vp g8) dX7_sheet_36 es9 37 rfl ?_
        refine z_iconst hX (v := (nI 0)) dX7_sheet_37 rfl 38 rfl ?_
        refine z_istore hX (lv2 := [(4, .int ((nI 0))), (0, .ref (gL Γ (189))), (1, .int a1), (2, .int a2), (3, .int a3)]) dX7_sheet_38 (by decide) rfl 40 rfl ?_
        exact z_sub [1, 2, 0] rfl (lp_ok (Z := fun q : Int32 × St => Zw X Γ 5 r0 q.2 40 [(0, .ref (gL Γ (189))), (1, .int a1), (4, .int q.1)] []) (fun q t h hk => e_X7_sheet_L40 hX h hk) Fu _ _ h hk)
      · replace h := br_neg h c5
        refine z_bipush hX (v := (-14)) dX7_sheet_20 (by decide) 22 rfl ?_
        replace h := Option.some.inj h
        subst h
        exact z_iret hX dX7_sheet_22 rfl hk
    · replace h := br_neg h c4
      refine z_iconst hX (v := (-1)) dX7_sheet_14 rfl 15 rfl ?_
      replace h := Option.some.inj h
      subst h
      exact z_iret hX dX7_sheet_15 rfl hk
theorem c_X7_sheet {lc : Launch} {Γ : Gm} {a1 : Int32} {a2 : Int32} {a3 : Int32} {s s2 : St} {v : Int32} (h : f_X7_sheet a1 a2 a3 s = some (v, s2)) : Ct lc Γ yX7_sheet cX7_sheet 5 (some .int) 2 [.ref (gL Γ (189)), .int a1, .int a2, .int a3] s (some (.int v), s2) := Ct.of (by decide +kernel) (Nat.le_of_ble_eq_true rfl) (fun X hl hX => e_X7_sheet hX h rfl)
theorem dX7_lay_0 : decode cX7_lay 0 = .ok (.iload_n 1, 1) := by decide +kernel
theorem dX7_lay_1 : decode cX7_lay 1 = .ok (.iconst 0, 1) := by decide +kernel
theorem dX7_lay_2 : decode cX7_lay 2 = .ok (.invokestatic 299, 3) := by decide +kernel
theorem dX7_lay_5 : decode cX7_lay 5 = .ok (.ifCond .ne 5, 3) := by decide +kernel
theorem dX7_lay_8 : decode cX7_lay 8 = .ok (.iconst (-1), 1) := by decide +kernel
theorem dX7_lay_9 : decode cX7_lay 9 = .ok (.ireturn, 1) := by decide +kernel
theorem dX7_lay_10 : decode cX7_lay 10 = .ok (.aload_n 0, 1) := by decide +kernel
theorem dX7_lay_11 : decode cX7_lay 11 = .ok (.getfield 32, 3) := by decide +kernel
theorem dX7_lay_14 : decode cX7_lay 14 = .ok (.iload_n 1, 1) := by decide +kernel
theorem dX7_lay_15 : decode cX7_lay 15 = .ok (.iaload, 1) := by decide +kernel
theorem dX7_lay_16 : decode cX7_lay 16 = .ok (.bipush (-4), 2) := by decide +kernel
theorem dX7_lay_18 : decode cX7_lay 18 = .ok (.if_icmp .ne 6, 3) := by decide +kernel
theorem dX7_lay_21 : decode cX7_lay 21 = .ok (.bipush (-11), 2) := by decide +kernel
theorem dX7_lay_23 : decode cX7_lay 23 = .ok (.ireturn, 1) := by decide +kernel
theorem dX7_lay_24 : decode cX7_lay 24 = .ok (.iload_n 2, 1) := by decide +kernel
theorem dX7_lay_25 : decode cX7_lay 25 = .ok (.i2l, 1) := by decide +kernel
theorem dX7_lay_26 : decode cX7_lay 26 = .ok (.lconst 0, 1) := by decide +kernel
theorem dX7_lay_27 : decode cX7_lay 27 = .ok (.aload_n 0, 1) := by decide +kernel
theorem dX7_lay_28 : decode cX7_lay 28 = .ok (.getfield 35, 3) := by decide +kernel
theorem dX7_lay_31 : decode cX7_lay 31 = .ok (.iload_n 1, 1) := by decide +kernel
theorem dX7_lay_32 : decode cX7_lay 32 = .ok (.iaload, 1) := by decide +kernel
theorem dX7_lay_33 : decode cX7_lay 33 = .ok (.iconst 1, 1) := by decide +kernel
theorem dX7_lay_34 : decode cX7_lay 34 = .ok (.isub, 1) := by decide +kernel
theorem dX7_lay_35 : decode cX7_lay 35 = .ok (.i2l, 1) := by decide +kernel
theorem dX7_lay_36 : decode cX7_lay 36 = .ok (.invokestatic 52, 3) := by decide +kernel
theorem dX7_lay_39 : decode cX7_lay 39 = .ok (.ifCond .ne 6, 3) := by decide +kernel
theorem dX7_lay_42 : decode cX7_lay 42 = .ok (.bipush (-12), 2) := by decide +kernel
theorem dX7_lay_44 : decode cX7_lay 44 = .ok (.ireturn, 1) := by decide +kernel
theorem dX7_lay_45 : decode cX7_lay 45 = .ok (.aload_n 0, 1) := by decide +kernel
theorem dX7_lay_46 : decode cX7_lay 46 = .ok (.getfield 38, 3) := by decide +kernel
theorem dX7_lay_49 : decode cX7_lay 49 = .ok (.bipush 40, 2) := by decide +kernel
theorem dX7_lay_51 : decode cX7_lay 51 = .ok (.iload_n 1, 1) := by decide +kernel
theorem dX7_lay_52 : decode cX7_lay 52 = .ok (.imul, 1) := by decide +kernel
theorem dX7_lay_53 : decode cX7_lay 53 = .ok (.iload_n 2, 1) := by decide +kernel
theorem dX7_lay_54 : decode cX7_lay 54 = .ok (.iadd, 1) := by decide +kernel
theorem dX7_lay_55 : decode cX7_lay 55 = .ok (.aload_n 0, 1) := by decide +kernel
theorem dX7_lay_56 : decode cX7_lay 56 = .ok (.getfield 32, 3) := by decide +kernel
theorem dX7_lay_59 : decode cX7_lay 59 = .ok (.iload_n 1, 1) := by decide +kernel
theorem dX7_lay_60 : decode cX7_lay 60 = .ok (.iaload, 1) := by decide +kernel
theorem dX7_lay_61 : decode cX7_lay 61 = .ok (.ifCond .ne 8, 3) := by decide +kernel
theorem dX7_lay_64 : decode cX7_lay 64 = .ok (.iload_n 3, 1) := by decide +kernel
theorem dX7_lay_65 : decode cX7_lay 65 = .ok (.i2b, 1) := by decide +kernel
theorem dX7_lay_66 : decode cX7_lay 66 = .ok (.goto 19, 3) := by decide +kernel
theorem dX7_lay_69 : decode cX7_lay 69 = .ok (.aload_n 0, 1) := by decide +kernel
theorem dX7_lay_70 : decode cX7_lay 70 = .ok (.getfield 32, 3) := by decide +kernel
theorem dX7_lay_73 : decode cX7_lay 73 = .ok (.iload_n 1, 1) := by decide +kernel
theorem dX7_lay_74 : decode cX7_lay 74 = .ok (.iaload, 1) := by decide +kernel
theorem dX7_lay_75 : decode cX7_lay 75 = .ok (.iconst 1, 1) := by decide +kernel
theorem dX7_lay_76 : decode cX7_lay 76 = .ok (.if_icmp .ne 8, 3) := by decide +kernel
theorem dX7_lay_79 : decode cX7_lay 79 = .ok (.iload_n 3, 1) := by decide +kernel
theorem dX7_lay_80 : decode cX7_lay 80 = .ok (.i2s, 1) := by decide +kernel
theorem dX7_lay_81 : decode cX7_lay 81 = .ok (.goto 4, 3) := by decide +kernel
theorem dX7_lay_84 : decode cX7_lay 84 = .ok (.iload_n 3, 1) := by decide +kernel
theorem dX7_lay_85 : decode cX7_lay 85 = .ok (.iastore, 1) := by decide +kernel
theorem dX7_lay_86 : decode cX7_lay 86 = .ok (.iconst 1, 1) := by decide +kernel
theorem dX7_lay_87 : decode cX7_lay 87 = .ok (.ireturn, 1) := by decide +kernel
def f_X7_lay (a1 : Int32) (a2 : Int32) (a3 : Int32) (s : St) : Option (Int32 × St) := cl (f_X7_isSheet a1 (nI 0) s) (fun x2 s1 => if ¬ x2 = 0 then (if inb a1 (lnI 197) = true then if ¬ (s1.1 197 (a1).toNatClampNeg) = (-4) then (if inb a1 (lnI 198) = true then cl (f_X7_within ((a2).toInt64) (lN 0) ((((s1.1 198 (a1).toNatClampNeg) - (nI 1))).toInt64) s1) (fun x8 s7 => if ¬ x8 = 0 then (if ¬ (s7.1 197 (a1).toNatClampNeg) = 0 then (if ¬ (s7.1 197 (a1).toNatClampNeg) = (nI 1) then (if inb (((nI 40) * a1) + a2) (lnI 199) = true then bd (wI s7 199 ((((nI 40) * a1) + a2)).toNatClampNeg a3) (fun s13 => some (((nI 1), s13))) else none) else (if inb (((nI 40) * a1) + a2) (lnI 199) = true then bd (wI s7 199 ((((nI 40) * a1) + a2)).toNatClampNeg ((a3).toInt16.toInt32)) (fun s15 => some (((nI 1), s15))) else none)) else (if inb (((nI 40) * a1) + a2) (lnI 199) = true then bd (wI s7 199 ((((nI 40) * a1) + a2)).toNatClampNeg ((a3).toInt8.toInt32)) (fun s17 => some (((nI 1), s17))) else none)) else (some (((-12), s7)))) else none) else (some (((-11), s1))) else none) else (some (((-1), s1))))
set_option maxHeartbeats 4000000 in
set_option maxRecDepth 100000 in
theorem e_X7_lay {X : Cx} {Γ : Gm} {r0 : Rb} (hX : Amb X Γ cX7_lay RX7 4 (some .int) 2) {a1 : Int32} {a2 : Int32} {a3 : Int32} {s : St} {t : Int32 × St} (h : f_X7_lay a1 a2 a3 s = some t) (hk : (fun t : Int32 × St => Rt X Γ r0 (some (Value.int t.1), t.2)) t) : Zw X Γ 4 r0 s 0 [(0, .ref (gL Γ (189))), (1, .int a1), (2, .int a2), (3, .int a3)] [] := by
  unfold f_X7_lay at h
  refine z_iload_n hX dX7_lay_0 1 rfl 1 rfl ?_
  refine z_iconst hX (v := (nI 0)) dX7_lay_1 rfl 2 rfl ?_
  replace h := cl_elim h
  obtain ⟨x2, s1, hx2, h⟩ := h
  refine z_cSi hX (As := [.int a1, .int ((nI 0))]) (c_X7_isSheet hx2) lk_X7_299 ds_X7_isSheet rfl (by decide) (by decide) (by decide) dX7_lay_2 rfl 5 rfl ?_
  refine z_if_ne hX 10 dX7_lay_5 (by decide) 8 rfl (fun c3 => ?_) (fun c3 => ?_)
  · replace h := br_pos h c3
    refine z_aload_n hX dX7_lay_10 0 rfl 11 rfl ?_
    refine z_get7 hX (k := 189) (j := 23) (v := .ref (gL Γ (197))) kdc_189 (by decide) rfl dX7_lay_11 fl_X7_32 14 rfl ?_
    refine z_iload_n hX dX7_lay_14 1 rfl 15 rfl ?_
    replace h := gd_elim h
    obtain ⟨g4, h⟩ := h
    refine z_iald hX (inb_vp g4) dX7_lay_15 16 rfl ?_
    refine z_bipush hX (v := (-4)) dX7_lay_16 (by decide) 18 rfl ?_
    refine z_icmp_ne hX 24 dX7_lay_18 (by decide) 21 rfl (fun c5 => ?_) (fun c5 => ?_)
    · replace h := br_pos h c5
      refine z_iload_n hX dX7_lay_24 2 rfl 25 rfl ?_
      refine z_i2l hX dX7_lay_25 26 rfl ?_
      refine z_lconst hX (v := (lN 0)) dX7_lay_26 rfl 27 rfl ?_
      refine z_aload_n hX dX7_lay_27 0 rfl 28 rfl ?_
      refine z_get7 hX (k := 189) (j := 24) (v := .ref (gL Γ (198))) kdc_189 (by decide) rfl dX7_lay_28 fl_X7_35 31 rfl ?_
      refine z_iload_n hX dX7_lay_31 1 rfl 32 rfl ?_
      replace h := gd_elim h
      obtain ⟨g6, h⟩ := h
      refine z_iald hX (inb_vp g6) dX7_lay_32 33 rfl ?_
      refine z_iconst hX (v := (nI 1)) dX7_lay_33 rfl 34 rfl ?_
      refine z_isub hX dX7_lay_34 35 rfl ?_
      refine z_i2l hX dX7_lay_35 36 rfl ?_
      replace h := cl_elim h
      obtain ⟨x8, s7, hx8, h⟩ := h
      refine z_cSi hX (As := [.long ((a2).toInt64), .long ((lN 0)), .long ((((s1.1 198 (a1).toNatClampNeg) - (nI 1))).toInt64)]) (c_X7_within hx8) lk_X7_52 ds_X7_within rfl (by decide) (by decide) (by decide) dX7_lay_36 rfl 39 rfl ?_
      refine z_if_ne hX 45 dX7_lay_39 (by decide) 42 rfl (fun c9 => ?_) (fun c9 => ?_)
      · replace h := br_pos h c9
        refine z_aload_n hX dX7_lay_45 0 rfl 46 rfl ?_
        refine z_get7 hX (k := 189) (j := 25) (v := .ref (gL Γ (199))) kdc_189 (by decide) rfl dX7_lay_46 fl_X7_38 49 rfl ?_
        refine z_bipush hX (v := (nI 40)) dX7_lay_49 (by decide) 51 rfl ?_
        refine z_iload_n hX dX7_lay_51 1 rfl 52 rfl ?_
        refine z_imul hX dX7_lay_52 53 rfl ?_
        refine z_iload_n hX dX7_lay_53 2 rfl 54 rfl ?_
        refine z_iadd hX dX7_lay_54 55 rfl ?_
        refine z_aload_n hX dX7_lay_55 0 rfl 56 rfl ?_
        refine z_get7 hX (k := 189) (j := 23) (v := .ref (gL Γ (197))) kdc_189 (by decide) rfl dX7_lay_56 fl_X7_32 59 rfl ?_
        refine z_iload_n hX dX7_lay_59 1 rfl 60 rfl ?_
        refine z_iald hX (inb_vp g4) dX7_lay_60 61 rfl ?_
        refine z_if_ne hX 69 dX7_lay_61 (by decide) 64 rfl (fun c10 => ?_) (fun c10 => ?_)
        · replace h := br_pos h c10
          refine z_aload_n hX dX7_lay_69 0 rfl 70 rfl ?_
          refine z_get7 hX (k := 189) (j := 23) (v := .ref (gL Γ (197))) kdc_189 (by decide) rfl dX7_lay_70 fl_X7_32 73 rfl ?_
          refine z_iload_n hX dX7_lay_73 1 rfl 74 rfl ?_
          refine z_iald hX (inb_vp g4) dX7_lay_74 75 rfl ?_
          refine z_iconst hX (v := (nI 1)) dX7_lay_75 rfl 76 rfl ?_
          refine z_icmp_ne hX 84 dX7_lay_76 (by decide) 79 rfl (fun c11 => ?_) (fun c11 => ?_)
          · replace h := br_pos h c11
            refine z_iload_n hX dX7_lay_84 3 rfl 85 rfl ?_
            replace h := gd_elim h
            obtain ⟨g12, h⟩ := h
            replace h := bd_elim h
            obtain ⟨s13, es13, h⟩ := h
            refine z_iast hX (inb_vp g12) dX7_lay_85 es13 86 rfl ?_
            refine z_iconst hX (v := (nI 1)) dX7_lay_86 rfl 87 rfl ?_
            replace h := Option.some.inj h
            subst h
            exact z_iret hX dX7_lay_87 rfl hk
          · replace h := br_neg h c11
            refine z_iload_n hX dX7_lay_79 3 rfl 80 rfl ?_
            refine z_i2s hX dX7_lay_80 81 rfl ?_
            refine z_goto hX 85 dX7_lay_81 (by decide) ?_
            replace h := gd_elim h
            obtain ⟨g14, h⟩ := h
            replace h := bd_elim h
            obtain ⟨s15, es15, h⟩ := h
            refine z_iast hX (inb_vp g14) dX7_lay_85 es15 86 rfl ?_
            refine z_iconst hX (v := (nI 1)) dX7_lay_86 rfl 87 rfl ?_
            replace h := Option.some.inj h
            subst h
            exact z_iret hX dX7_lay_87 rfl hk
        · replace h := br_neg h c10
          refine z_iload_n hX dX7_lay_64 3 rfl 65 rfl ?_
          refine z_i2b hX dX7_lay_65 66 rfl ?_
          refine z_goto hX 85 dX7_lay_66 (by decide) ?_
          replace h := gd_elim h
          obtain ⟨g16, h⟩ := h
          replace h := bd_elim h
          obtain ⟨s17, es17, h⟩ := h
          refine z_iast hX (inb_vp g16) dX7_lay_85 es17 86 rfl ?_
          refine z_iconst hX (v := (nI 1)) dX7_lay_86 rfl 87 rfl ?_
          replace h := Option.some.inj h
          subst h
          exact z_iret hX dX7_lay_87 rfl hk
      · replace h := br_neg h c9
        refine z_bipush hX (v := (-12)) dX7_lay_42 (by decide) 44 rfl ?_
        replace h := Option.some.inj h
        subst h
        exact z_iret hX dX7_lay_44 rfl hk
    · replace h := br_neg h c5
      refine z_bipush hX (v := (-11)) dX7_lay_21 (by decide) 23 rfl ?_
      replace h := Option.some.inj h
      subst h
      exact z_iret hX dX7_lay_23 rfl hk
  · replace h := br_neg h c3
    refine z_iconst hX (v := (-1)) dX7_lay_8 rfl 9 rfl ?_
    replace h := Option.some.inj h
    subst h
    exact z_iret hX dX7_lay_9 rfl hk
theorem c_X7_lay {lc : Launch} {Γ : Gm} {a1 : Int32} {a2 : Int32} {a3 : Int32} {s s2 : St} {v : Int32} (h : f_X7_lay a1 a2 a3 s = some (v, s2)) : Ct lc Γ yX7_lay cX7_lay 4 (some .int) 2 [.ref (gL Γ (189)), .int a1, .int a2, .int a3] s (some (.int v), s2) := Ct.of (by decide +kernel) (Nat.le_of_ble_eq_true rfl) (fun X hl hX => e_X7_lay hX h rfl)
theorem dX7_read_0 : decode cX7_read 0 = .ok (.iload_n 1, 1) := by decide +kernel
theorem dX7_read_1 : decode cX7_read 1 = .ok (.iload_n 2, 1) := by decide +kernel
theorem dX7_read_2 : decode cX7_read 2 = .ok (.invokestatic 299, 3) := by decide +kernel
theorem dX7_read_5 : decode cX7_read 5 = .ok (.ifCond .eq 16, 3) := by decide +kernel
theorem dX7_read_8 : decode cX7_read 8 = .ok (.iload 4, 2) := by decide +kernel
theorem dX7_read_10 : decode cX7_read 10 = .ok (.i2l, 1) := by decide +kernel
theorem dX7_read_11 : decode cX7_read 11 = .ok (.lconst 0, 1) := by decide +kernel
theorem dX7_read_12 : decode cX7_read 12 = .ok (.ldc2_w 302, 3) := by decide +kernel
theorem dX7_read_15 : decode cX7_read 15 = .ok (.invokestatic 52, 3) := by decide +kernel
theorem dX7_read_18 : decode cX7_read 18 = .ok (.ifCond .ne 5, 3) := by decide +kernel
theorem dX7_read_21 : decode cX7_read 21 = .ok (.iconst (-1), 1) := by decide +kernel
theorem dX7_read_22 : decode cX7_read 22 = .ok (.ireturn, 1) := by decide +kernel
theorem dX7_read_23 : decode cX7_read 23 = .ok (.iconst 0, 1) := by decide +kernel
theorem dX7_read_24 : decode cX7_read 24 = .ok (.istore 5, 2) := by decide +kernel
theorem dX7_read_26 : decode cX7_read 26 = .ok (.iload 5, 2) := by decide +kernel
theorem dX7_read_28 : decode cX7_read 28 = .ok (.sipush 131, 3) := by decide +kernel
theorem dX7_read_31 : decode cX7_read 31 = .ok (.if_icmp .ge 23, 3) := by decide +kernel
theorem dX7_read_34 : decode cX7_read 34 = .ok (.aload_n 0, 1) := by decide +kernel
theorem dX7_read_35 : decode cX7_read 35 = .ok (.getfield 41, 3) := by decide +kernel
theorem dX7_read_38 : decode cX7_read 38 = .ok (.iload 5, 2) := by decide +kernel
theorem dX7_read_40 : decode cX7_read 40 = .ok (.aload_n 0, 1) := by decide +kernel
theorem dX7_read_41 : decode cX7_read 41 = .ok (.getfield 7, 3) := by decide +kernel
theorem dX7_read_44 : decode cX7_read 44 = .ok (.iload 5, 2) := by decide +kernel
theorem dX7_read_46 : decode cX7_read 46 = .ok (.iaload, 1) := by decide +kernel
theorem dX7_read_47 : decode cX7_read 47 = .ok (.iastore, 1) := by decide +kernel
theorem dX7_read_48 : decode cX7_read 48 = .ok (.iinc 5 1, 3) := by decide +kernel
theorem dX7_read_51 : decode cX7_read 51 = .ok (.goto (-25), 3) := by decide +kernel
theorem dX7_read_54 : decode cX7_read 54 = .ok (.iconst 0, 1) := by decide +kernel
theorem dX7_read_55 : decode cX7_read 55 = .ok (.istore 5, 2) := by decide +kernel
theorem dX7_read_57 : decode cX7_read 57 = .ok (.iconst 0, 1) := by decide +kernel
theorem dX7_read_58 : decode cX7_read 58 = .ok (.istore 6, 2) := by decide +kernel
theorem dX7_read_60 : decode cX7_read 60 = .ok (.iconst 0, 1) := by decide +kernel
theorem dX7_read_61 : decode cX7_read 61 = .ok (.istore 7, 2) := by decide +kernel
theorem dX7_read_63 : decode cX7_read 63 = .ok (.iload 7, 2) := by decide +kernel
theorem dX7_read_65 : decode cX7_read 65 = .ok (.iload 4, 2) := by decide +kernel
theorem dX7_read_67 : decode cX7_read 67 = .ok (.if_icmp .ge 194, 3) := by decide +kernel
theorem dX7_read_70 : decode cX7_read 70 = .ok (.iload 5, 2) := by decide +kernel
theorem dX7_read_72 : decode cX7_read 72 = .ok (.ifCond .ne 189, 3) := by decide +kernel
theorem dX7_read_75 : decode cX7_read 75 = .ok (.iconst 0, 1) := by decide +kernel
theorem dX7_read_76 : decode cX7_read 76 = .ok (.istore 8, 2) := by decide +kernel
theorem dX7_read_78 : decode cX7_read 78 = .ok (.iload 8, 2) := by decide +kernel
theorem dX7_read_80 : decode cX7_read 80 = .ok (.iconst 2, 1) := by decide +kernel
theorem dX7_read_81 : decode cX7_read 81 = .ok (.if_icmp .ge 84, 3) := by decide +kernel
theorem dX7_read_84 : decode cX7_read 84 = .ok (.iload 5, 2) := by decide +kernel
theorem dX7_read_86 : decode cX7_read 86 = .ok (.ifCond .ne 79, 3) := by decide +kernel
theorem dX7_read_89 : decode cX7_read 89 = .ok (.iload_n 3, 1) := by decide +kernel
theorem dX7_read_90 : decode cX7_read 90 = .ok (.i2l, 1) := by decide +kernel
theorem dX7_read_91 : decode cX7_read 91 = .ok (.iconst 2, 1) := by decide +kernel
theorem dX7_read_92 : decode cX7_read 92 = .ok (.iload 7, 2) := by decide +kernel
theorem dX7_read_94 : decode cX7_read 94 = .ok (.imul, 1) := by decide +kernel
theorem dX7_read_95 : decode cX7_read 95 = .ok (.i2l, 1) := by decide +kernel
theorem dX7_read_96 : decode cX7_read 96 = .ok (.ladd, 1) := by decide +kernel
theorem dX7_read_97 : decode cX7_read 97 = .ok (.iload 8, 2) := by decide +kernel
theorem dX7_read_99 : decode cX7_read 99 = .ok (.i2l, 1) := by decide +kernel
theorem dX7_read_100 : decode cX7_read 100 = .ok (.ladd, 1) := by decide +kernel
theorem dX7_read_101 : decode cX7_read 101 = .ok (.lstore 9, 2) := by decide +kernel
theorem dX7_read_103 : decode cX7_read 103 = .ok (.aload_n 0, 1) := by decide +kernel
theorem dX7_read_104 : decode cX7_read 104 = .ok (.getfield 32, 3) := by decide +kernel
theorem dX7_read_107 : decode cX7_read 107 = .ok (.iload_n 1, 1) := by decide +kernel
theorem dX7_read_108 : decode cX7_read 108 = .ok (.iaload, 1) := by decide +kernel
theorem dX7_read_109 : decode cX7_read 109 = .ok (.bipush (-4), 2) := by decide +kernel
theorem dX7_read_111 : decode cX7_read 111 = .ok (.if_icmp .ne 7, 3) := by decide +kernel
theorem dX7_read_114 : decode cX7_read 114 = .ok (.iconst 1, 1) := by decide +kernel
theorem dX7_read_115 : decode cX7_read 115 = .ok (.goto 42, 3) := by decide +kernel
theorem dX7_read_118 : decode cX7_read 118 = .ok (.aload_n 0, 1) := by decide +kernel
theorem dX7_read_119 : decode cX7_read 119 = .ok (.getfield 32, 3) := by decide +kernel
theorem dX7_read_122 : decode cX7_read 122 = .ok (.iload_n 1, 1) := by decide +kernel
theorem dX7_read_123 : decode cX7_read 123 = .ok (.iaload, 1) := by decide +kernel
theorem dX7_read_124 : decode cX7_read 124 = .ok (.iload_n 2, 1) := by decide +kernel
theorem dX7_read_125 : decode cX7_read 125 = .ok (.if_icmp .eq 7, 3) := by decide +kernel
theorem dX7_read_128 : decode cX7_read 128 = .ok (.iconst 3, 1) := by decide +kernel
theorem dX7_read_129 : decode cX7_read 129 = .ok (.goto 28, 3) := by decide +kernel
theorem dX7_read_132 : decode cX7_read 132 = .ok (.lload 9, 2) := by decide +kernel
theorem dX7_read_134 : decode cX7_read 134 = .ok (.lconst 0, 1) := by decide +kernel
theorem dX7_read_135 : decode cX7_read 135 = .ok (.lcmp, 1) := by decide +kernel
theorem dX7_read_136 : decode cX7_read 136 = .ok (.ifCond .lt 16, 3) := by decide +kernel
theorem dX7_read_139 : decode cX7_read 139 = .ok (.lload 9, 2) := by decide +kernel
theorem dX7_read_141 : decode cX7_read 141 = .ok (.aload_n 0, 1) := by decide +kernel
theorem dX7_read_142 : decode cX7_read 142 = .ok (.getfield 35, 3) := by decide +kernel
theorem dX7_read_145 : decode cX7_read 145 = .ok (.iload_n 1, 1) := by decide +kernel
theorem dX7_read_146 : decode cX7_read 146 = .ok (.iaload, 1) := by decide +kernel
theorem dX7_read_147 : decode cX7_read 147 = .ok (.i2l, 1) := by decide +kernel
theorem dX7_read_148 : decode cX7_read 148 = .ok (.lcmp, 1) := by decide +kernel
theorem dX7_read_149 : decode cX7_read 149 = .ok (.ifCond .lt 7, 3) := by decide +kernel
theorem dX7_read_152 : decode cX7_read 152 = .ok (.iconst 2, 1) := by decide +kernel
theorem dX7_read_153 : decode cX7_read 153 = .ok (.goto 4, 3) := by decide +kernel
theorem dX7_read_156 : decode cX7_read 156 = .ok (.iconst 0, 1) := by decide +kernel
theorem dX7_read_157 : decode cX7_read 157 = .ok (.istore 5, 2) := by decide +kernel
theorem dX7_read_159 : decode cX7_read 159 = .ok (.iinc 8 1, 3) := by decide +kernel
theorem dX7_read_162 : decode cX7_read 162 = .ok (.goto (-84), 3) := by decide +kernel
theorem dX7_read_165 : decode cX7_read 165 = .ok (.iload 5, 2) := by decide +kernel
theorem dX7_read_167 : decode cX7_read 167 = .ok (.ifCond .ne 88, 3) := by decide +kernel
theorem dX7_read_170 : decode cX7_read 170 = .ok (.bipush 40, 2) := by decide +kernel
theorem dX7_read_172 : decode cX7_read 172 = .ok (.iload_n 1, 1) := by decide +kernel
theorem dX7_read_173 : decode cX7_read 173 = .ok (.imul, 1) := by decide +kernel
theorem dX7_read_174 : decode cX7_read 174 = .ok (.iload_n 3, 1) := by decide +kernel
theorem dX7_read_175 : decode cX7_read 175 = .ok (.iadd, 1) := by decide +kernel
theorem dX7_read_176 : decode cX7_read 176 = .ok (.iconst 2, 1) := by decide +kernel
theorem dX7_read_177 : decode cX7_read 177 = .ok (.iload 7, 2) := by decide +kernel
theorem dX7_read_179 : decode cX7_read 179 = .ok (.imul, 1) := by decide +kernel
theorem dX7_read_180 : decode cX7_read 180 = .ok (.iadd, 1) := by decide +kernel
theorem dX7_read_181 : decode cX7_read 181 = .ok (.istore 8, 2) := by decide +kernel
theorem dX7_read_183 : decode cX7_read 183 = .ok (.aload_n 0, 1) := by decide +kernel
theorem dX7_read_184 : decode cX7_read 184 = .ok (.aload_n 0, 1) := by decide +kernel
theorem dX7_read_185 : decode cX7_read 185 = .ok (.getfield 38, 3) := by decide +kernel
theorem dX7_read_188 : decode cX7_read 188 = .ok (.iload 8, 2) := by decide +kernel
theorem dX7_read_190 : decode cX7_read 190 = .ok (.iaload, 1) := by decide +kernel
theorem dX7_read_191 : decode cX7_read 191 = .ok (.iconst 0, 1) := by decide +kernel
theorem dX7_read_192 : decode cX7_read 192 = .ok (.aload_n 0, 1) := by decide +kernel
theorem dX7_read_193 : decode cX7_read 193 = .ok (.getfield 38, 3) := by decide +kernel
theorem dX7_read_196 : decode cX7_read 196 = .ok (.iload 8, 2) := by decide +kernel
theorem dX7_read_198 : decode cX7_read 198 = .ok (.iconst 1, 1) := by decide +kernel
theorem dX7_read_199 : decode cX7_read 199 = .ok (.iadd, 1) := by decide +kernel
theorem dX7_read_200 : decode cX7_read 200 = .ok (.iaload, 1) := by decide +kernel
theorem dX7_read_201 : decode cX7_read 201 = .ok (.invokevirtual 304, 3) := by decide +kernel
theorem dX7_read_204 : decode cX7_read 204 = .ok (.ifCond .lt 11, 3) := by decide +kernel
theorem dX7_read_207 : decode cX7_read 207 = .ok (.aload_n 0, 1) := by decide +kernel
theorem dX7_read_208 : decode cX7_read 208 = .ok (.iconst 1, 1) := by decide +kernel
theorem dX7_read_209 : decode cX7_read 209 = .ok (.invokevirtual 308, 3) := by decide +kernel
theorem dX7_read_212 : decode cX7_read 212 = .ok (.ifCond .ge 40, 3) := by decide +kernel
theorem dX7_read_215 : decode cX7_read 215 = .ok (.iconst 0, 1) := by decide +kernel
theorem dX7_read_216 : decode cX7_read 216 = .ok (.istore 9, 2) := by decide +kernel
theorem dX7_read_218 : decode cX7_read 218 = .ok (.iload 9, 2) := by decide +kernel
theorem dX7_read_220 : decode cX7_read 220 = .ok (.sipush 131, 3) := by decide +kernel
theorem dX7_read_223 : decode cX7_read 223 = .ok (.if_icmp .ge 23, 3) := by decide +kernel
theorem dX7_read_226 : decode cX7_read 226 = .ok (.aload_n 0, 1) := by decide +kernel
theorem dX7_read_227 : decode cX7_read 227 = .ok (.getfield 7, 3) := by decide +kernel
theorem dX7_read_230 : decode cX7_read 230 = .ok (.iload 9, 2) := by decide +kernel
theorem dX7_read_232 : decode cX7_read 232 = .ok (.aload_n 0, 1) := by decide +kernel
theorem dX7_read_233 : decode cX7_read 233 = .ok (.getfield 41, 3) := by decide +kernel
theorem dX7_read_236 : decode cX7_read 236 = .ok (.iload 9, 2) := by decide +kernel
theorem dX7_read_238 : decode cX7_read 238 = .ok (.iaload, 1) := by decide +kernel
theorem dX7_read_239 : decode cX7_read 239 = .ok (.iastore, 1) := by decide +kernel
theorem dX7_read_240 : decode cX7_read 240 = .ok (.iinc 9 1, 3) := by decide +kernel
theorem dX7_read_243 : decode cX7_read 243 = .ok (.goto (-25), 3) := by decide +kernel
theorem dX7_read_246 : decode cX7_read 246 = .ok (.bipush (-20), 2) := by decide +kernel
theorem dX7_read_248 : decode cX7_read 248 = .ok (.iload 7, 2) := by decide +kernel
theorem dX7_read_250 : decode cX7_read 250 = .ok (.isub, 1) := by decide +kernel
theorem dX7_read_251 : decode cX7_read 251 = .ok (.ireturn, 1) := by decide +kernel
theorem dX7_read_252 : decode cX7_read 252 = .ok (.iinc 6 1, 3) := by decide +kernel
theorem dX7_read_255 : decode cX7_read 255 = .ok (.iinc 7 1, 3) := by decide +kernel
theorem dX7_read_258 : decode cX7_read 258 = .ok (.goto (-195), 3) := by decide +kernel
theorem dX7_read_261 : decode cX7_read 261 = .ok (.aload_n 0, 1) := by decide +kernel
theorem dX7_read_262 : decode cX7_read 262 = .ok (.iload 5, 2) := by decide +kernel
theorem dX7_read_264 : decode cX7_read 264 = .ok (.putfield 311, 3) := by decide +kernel
theorem dX7_read_267 : decode cX7_read 267 = .ok (.iload 6, 2) := by decide +kernel
theorem dX7_read_269 : decode cX7_read 269 = .ok (.ireturn, 1) := by decide +kernel
def f_X7_read_J261 (v5 : Int32) (v6 : Int32) (s : St) : Option (Int32 × St) := bd (wI s 189 26 v5) (fun s13 => some ((v6, s13)))
def f_X7_read_L218 (v7 : Int32) (v9 : Int32) (s : St) : Option ((Int32 × St) ⊕ (Int32 × St)) := if (nI 131) ≤ v9 then (some (Sum.inr ((((-20) - v7), s)))) else (if inb v9 (lnI 200) = true then if inb v9 (lnI 190) = true then bd (wI s 190 (v9).toNatClampNeg (s.1 200 (v9).toNatClampNeg)) (fun s36 => some (Sum.inl ((v9 + (nI 1)), s36))) else none else none)
def f_X7_read_J165 (v1 : Int32) (v2 : Int32) (v3 : Int32) (v4 : Int32) (v5 : Int32) (v6 : Int32) (v7 : Int32) (s : St) : Option ((Int32 × Int32 × Int32 × St) ⊕ (Int32 × St)) := if ¬ v5 = 0 then (some (Sum.inl (v5, v6, (v7 + (nI 1)), s))) else (bd ((((nI 40) * v1) + v3) + ((nI 2) * v7)) (fun x24 => if inb x24 (lnI 199) = true then if inb (x24 + (nI 1)) (lnI 199) = true then cl (f_X7_seat (s.1 199 (x24).toNatClampNeg) (nI 0) (s.1 199 ((x24 + (nI 1))).toNatClampNeg) s) (fun x28 s27 => if x28 < 0 then (ox (lp (fun q : Int32 × St => f_X7_read_L218 v7 q.1 q.2) Fu ((nI 0), s27))) else (cl (f_X7_steps (nI 1) s27) (fun x31 s30 => if 0 ≤ x31 then (some (Sum.inl (v5, (v6 + (nI 1)), (v7 + (nI 1)), s30))) else (ox (lp (fun q : Int32 × St => f_X7_read_L218 v7 q.1 q.2) Fu ((nI 0), s30)))))) else none else none))
def f_X7_read_J152 (v1 : Int32) (v2 : Int32) (v3 : Int32) (v4 : Int32) (v6 : Int32) (v7 : Int32) (v8 : Int32) (s : St) : Option ((Int32 × Int32 × St) ⊕ ((Int32 × Int32 × Int32 × St) ⊕ (Int32 × St))) := some (Sum.inl ((nI 2), (v8 + (nI 1)), s))
def f_X7_read_L78 (v1 : Int32) (v2 : Int32) (v3 : Int32) (v4 : Int32) (v6 : Int32) (v7 : Int32) (v5 : Int32) (v8 : Int32) (s : St) : Option ((Int32 × Int32 × St) ⊕ ((Int32 × Int32 × Int32 × St) ⊕ (Int32 × St))) := if (nI 2) ≤ v8 then (ox (f_X7_read_J165 v1 v2 v3 v4 v5 v6 v7 s)) else (if ¬ v5 = 0 then (ox (f_X7_read_J165 v1 v2 v3 v4 v5 v6 v7 s)) else (bd (((v3).toInt64 + (((nI 2) * v7)).toInt64) + (v8).toInt64) (fun x16 => if inb v1 (lnI 197) = true then if ¬ (s.1 197 (v1).toNatClampNeg) = (-4) then (if (s.1 197 (v1).toNatClampNeg) = v2 then (if (lg_cmp x16 (lN 0)) < 0 then (f_X7_read_J152 v1 v2 v3 v4 v6 v7 v8 s) else (if inb v1 (lnI 198) = true then if (lg_cmp x16 (((s.1 198 (v1).toNatClampNeg)).toInt64)) < 0 then (some (Sum.inl ((nI 0), (v8 + (nI 1)), s))) else (f_X7_read_J152 v1 v2 v3 v4 v6 v7 v8 s) else none)) else (some (Sum.inl ((nI 3), (v8 + (nI 1)), s)))) else (some (Sum.inl ((nI 1), (v8 + (nI 1)), s))) else none)))
def f_X7_read_L63 (v1 : Int32) (v2 : Int32) (v3 : Int32) (v4 : Int32) (v5 : Int32) (v6 : Int32) (v7 : Int32) (s : St) : Option ((Int32 × Int32 × Int32 × St) ⊕ (Int32 × St)) := if v4 ≤ v7 then (ox (f_X7_read_J261 v5 v6 s)) else (if ¬ v5 = 0 then (ox (f_X7_read_J261 v5 v6 s)) else (lp (fun q : Int32 × Int32 × St => f_X7_read_L78 v1 v2 v3 v4 v6 v7 q.1 q.2.1 q.2.2) Fu (v5, (nI 0), s)))
def f_X7_read_L26 (v1 : Int32) (v2 : Int32) (v3 : Int32) (v4 : Int32) (v5 : Int32) (s : St) : Option ((Int32 × St) ⊕ (Int32 × St)) := if (nI 131) ≤ v5 then (ox (lp (fun q : Int32 × Int32 × Int32 × St => f_X7_read_L63 v1 v2 v3 v4 q.1 q.2.1 q.2.2.1 q.2.2.2) Fu ((nI 0), (nI 0), (nI 0), s))) else (if inb v5 (lnI 190) = true then if inb v5 (lnI 200) = true then bd (wI s 200 (v5).toNatClampNeg (s.1 190 (v5).toNatClampNeg)) (fun s10 => some (Sum.inl ((v5 + (nI 1)), s10))) else none else none)
def f_X7_read (a1 : Int32) (a2 : Int32) (a3 : Int32) (a4 : Int32) (s : St) : Option (Int32 × St) := cl (f_X7_isSheet a1 a2 s) (fun x2 s1 => if x2 = 0 then (some (((-1), s1))) else (cl (f_X7_within ((a4).toInt64) (lN 0) (lN 20) s1) (fun x5 s4 => if ¬ x5 = 0 then (lp (fun q : Int32 × St => f_X7_read_L26 a1 a2 a3 a4 q.1 q.2) Fu ((nI 0), s4)) else (some (((-1), s4))))))
set_option maxHeartbeats 4000000 in
set_option maxRecDepth 100000 in
theorem e_X7_read_J261 {X : Cx} {Γ : Gm} {r0 : Rb} (hX : Amb X Γ cX7_read RX7 11 (some .int) 6) {v5 : Int32} {v6 : Int32} {s : St} {t : Int32 × St} (h : f_X7_read_J261 v5 v6 s = some t) (hk : (fun t : Int32 × St => Rt X Γ r0 (some (Value.int t.1), t.2)) t) : Zw X Γ 11 r0 s 261 [(0, .ref (gL Γ (189))), (5, .int v5), (6, .int v6)] [] := by
  unfold f_X7_read_J261 at h
  refine z_aload_n hX dX7_read_261 0 rfl 262 rfl ?_
  refine z_iload hX dX7_read_262 1 rfl 264 rfl ?_
  replace h := bd_elim h
  obtain ⟨s13, es13, h⟩ := h
  refine z_putI7 hX (k := 189) (j := 26) kdc_189 (by decide) rfl (by decide +kernel) (pwI_7_26 ..) dX7_read_264 fl_X7_311 es13 267 rfl ?_
  refine z_iload hX dX7_read_267 2 rfl 269 rfl ?_
  replace h := Option.some.inj h
  subst h
  exact z_iret hX dX7_read_269 rfl hk
set_option maxHeartbeats 4000000 in
set_option maxRecDepth 100000 in
theorem e_X7_read_L218 {X : Cx} {Γ : Gm} {r0 : Rb} (hX : Amb X Γ cX7_read RX7 11 (some .int) 6) {v7 : Int32} {v9 : Int32} {s : St} {t : (Int32 × St) ⊕ (Int32 × St)} (h : f_X7_read_L218 v7 v9 s = some t) (hk : (Sum.elim (fun q : Int32 × St => Zw X Γ 11 r0 q.2 218 [(0, .ref (gL Γ (189))), (7, .int v7), (9, .int q.1)] []) (fun t : Int32 × St => Rt X Γ r0 (some (Value.int t.1), t.2))) t) : Zw X Γ 11 r0 s 218 [(0, .ref (gL Γ (189))), (7, .int v7), (9, .int v9)] [] := by
  unfold f_X7_read_L218 at h
  refine z_iload hX dX7_read_218 2 rfl 220 rfl ?_
  refine z_sipush hX (v := (nI 131)) dX7_read_220 (by decide) 223 rfl ?_
  refine z_icmp_ge hX 246 dX7_read_223 (by decide) 226 rfl (fun c33 => ?_) (fun c33 => ?_)
  · replace h := br_pos h c33
    refine z_bipush hX (v := (-20)) dX7_read_246 (by decide) 248 rfl ?_
    refine z_iload hX dX7_read_248 1 rfl 250 rfl ?_
    refine z_isub hX dX7_read_250 251 rfl ?_
    replace h := Option.some.inj h
    subst h
    exact z_iret hX dX7_read_251 rfl hk
  · replace h := br_neg h c33
    refine z_aload_n hX dX7_read_226 0 rfl 227 rfl ?_
    refine z_get7 hX (k := 189) (j := 0) (v := .ref (gL Γ (190))) kdc_189 (by decide) rfl dX7_read_227 fl_X7_7 230 rfl ?_
    refine z_iload hX dX7_read_230 2 rfl 232 rfl ?_
    refine z_aload_n hX dX7_read_232 0 rfl 233 rfl ?_
    refine z_get7 hX (k := 189) (j := 27) (v := .ref (gL Γ (200))) kdc_189 (by decide) rfl dX7_read_233 fl_X7_41 236 rfl ?_
    refine z_iload hX dX7_read_236 2 rfl 238 rfl ?_
    replace h := gd_elim h
    obtain ⟨g34, h⟩ := h
    refine z_iald hX (inb_vp g34) dX7_read_238 239 rfl ?_
    replace h := gd_elim h
    obtain ⟨g35, h⟩ := h
    replace h := bd_elim h
    obtain ⟨s36, es36, h⟩ := h
    refine z_iast hX (inb_vp g35) dX7_read_239 es36 240 rfl ?_
    refine z_iinc hX (v := (v9 + (nI 1))) (lv2 := [(9, .int ((v9 + (nI 1)))), (0, .ref (gL Γ (189))), (7, .int v7)]) dX7_read_240 2 rfl rfl (by decide) rfl 243 rfl ?_
    refine z_goto hX 218 dX7_read_243 (by decide) ?_
    replace h := Option.some.inj h
    subst h
    exact z_sub [1, 2, 0] rfl hk
set_option maxHeartbeats 4000000 in
set_option maxRecDepth 100000 in
theorem e_X7_read_J165 {X : Cx} {Γ : Gm} {r0 : Rb} (hX : Amb X Γ cX7_read RX7 11 (some .int) 6) {v1 : Int32} {v2 : Int32} {v3 : Int32} {v4 : Int32} {v5 : Int32} {v6 : Int32} {v7 : Int32} {s : St} {t : (Int32 × Int32 × Int32 × St) ⊕ (Int32 × St)} (h : f_X7_read_J165 v1 v2 v3 v4 v5 v6 v7 s = some t) (hk : (Sum.elim (fun q : Int32 × Int32 × Int32 × St => Zw X Γ 11 r0 q.2.2.2 63 [(0, .ref (gL Γ (189))), (1, .int v1), (2, .int v2), (3, .int v3), (4, .int v4), (5, .int q.1), (6, .int q.2.1), (7, .int q.2.2.1)] []) (fun t : Int32 × St => Rt X Γ r0 (some (Value.int t.1), t.2))) t) : Zw X Γ 11 r0 s 165 [(0, .ref (gL Γ (189))), (1, .int v1), (2, .int v2), (3, .int v3), (4, .int v4), (5, .int v5), (6, .int v6), (7, .int v7)] [] := by
  unfold f_X7_read_J165 at h
  refine z_iload hX dX7_read_165 5 rfl 167 rfl ?_
  refine z_if_ne hX 255 dX7_read_167 (by decide) 170 rfl (fun c23 => ?_) (fun c23 => ?_)
  · replace h := br_pos h c23
    refine z_iinc hX (v := (v7 + (nI 1))) (lv2 := [(7, .int ((v7 + (nI 1)))), (0, .ref (gL Γ (189))), (1, .int v1), (2, .int v2), (3, .int v3), (4, .int v4), (5, .int v5), (6, .int v6)]) dX7_read_255 7 rfl rfl (by decide) rfl 258 rfl ?_
    refine z_goto hX 63 dX7_read_258 (by decide) ?_
    replace h := Option.some.inj h
    subst h
    exact z_sub [1, 2, 3, 4, 5, 6, 7, 0] rfl hk
  · replace h := br_neg h c23
    refine z_bipush hX (v := (nI 40)) dX7_read_170 (by decide) 172 rfl ?_
    refine z_iload_n hX dX7_read_172 1 rfl 173 rfl ?_
    refine z_imul hX dX7_read_173 174 rfl ?_
    refine z_iload_n hX dX7_read_174 3 rfl 175 rfl ?_
    refine z_iadd hX dX7_read_175 176 rfl ?_
    refine z_iconst hX (v := (nI 2)) dX7_read_176 rfl 177 rfl ?_
    refine z_iload hX dX7_read_177 7 rfl 179 rfl ?_
    refine z_imul hX dX7_read_179 180 rfl ?_
    refine z_iadd hX dX7_read_180 181 rfl ?_
    replace h := bd_elim h
    obtain ⟨x24, ex24, h⟩ := h
    refine z_nm ex24 ?_
    refine z_istore hX (lv2 := [(8, .int x24), (0, .ref (gL Γ (189))), (1, .int v1), (2, .int v2), (3, .int v3), (4, .int v4), (5, .int v5), (6, .int v6), (7, .int v7)]) dX7_read_181 (by decide) rfl 183 rfl ?_
    refine z_aload_n hX dX7_read_183 1 rfl 184 rfl ?_
    refine z_aload_n hX dX7_read_184 1 rfl 185 rfl ?_
    refine z_get7 hX (k := 189) (j := 25) (v := .ref (gL Γ (199))) kdc_189 (by decide) rfl dX7_read_185 fl_X7_38 188 rfl ?_
    refine z_iload hX dX7_read_188 0 rfl 190 rfl ?_
    replace h := gd_elim h
    obtain ⟨g25, h⟩ := h
    refine z_iald hX (inb_vp g25) dX7_read_190 191 rfl ?_
    refine z_iconst hX (v := (nI 0)) dX7_read_191 rfl 192 rfl ?_
    refine z_aload_n hX dX7_read_192 1 rfl 193 rfl ?_
    refine z_get7 hX (k := 189) (j := 25) (v := .ref (gL Γ (199))) kdc_189 (by decide) rfl dX7_read_193 fl_X7_38 196 rfl ?_
    refine z_iload hX dX7_read_196 0 rfl 198 rfl ?_
    refine z_iconst hX (v := (nI 1)) dX7_read_198 rfl 199 rfl ?_
    refine z_iadd hX dX7_read_199 200 rfl ?_
    replace h := gd_elim h
    obtain ⟨g26, h⟩ := h
    refine z_iald hX (inb_vp g26) dX7_read_200 201 rfl ?_
    replace h := cl_elim h
    obtain ⟨x28, s27, hx28, h⟩ := h
    refine z_cV7i hX (b := 189) (As := [.int ((s.1 199 (x24).toNatClampNeg)), .int ((nI 0)), .int ((s.1 199 ((x24 + (nI 1))).toNatClampNeg))]) (c_X7_seat hx28) lk_X7_304 rfl kdc_189 ds_X7_seat rfl (by decide) (by decide) (by decide) dX7_read_201 rfl 204 rfl ?_
    refine z_if_lt hX 215 dX7_read_204 (by decide) 207 rfl (fun c29 => ?_) (fun c29 => ?_)
    · replace h := br_pos h c29
      refine z_iconst hX (v := (nI 0)) dX7_read_215 rfl 216 rfl ?_
      refine z_istore hX (lv2 := [(9, .int ((nI 0))), (8, .int x24), (0, .ref (gL Γ (189))), (1, .int v1), (2, .int v2), (3, .int v3), (4, .int v4), (5, .int v5), (6, .int v6), (7, .int v7)]) dX7_read_216 (by decide) rfl 218 rfl ?_
      replace h := ox_elim h
      obtain ⟨u, rfl, h⟩ := h
      exact z_sub [2, 9, 0] rfl (lp_ok (Z := fun q : Int32 × St => Zw X Γ 11 r0 q.2 218 [(0, .ref (gL Γ (189))), (7, .int v7), (9, .int q.1)] []) (fun q t h hk => e_X7_read_L218 hX h hk) Fu _ _ h hk)
    · replace h := br_neg h c29
      refine z_aload_n hX dX7_read_207 1 rfl 208 rfl ?_
      refine z_iconst hX (v := (nI 1)) dX7_read_208 rfl 209 rfl ?_
      replace h := cl_elim h
      obtain ⟨x31, s30, hx31, h⟩ := h
      refine z_cV7i hX (b := 189) (As := [.int ((nI 1))]) (c_X7_steps hx31) lk_X7_308 rfl kdc_189 ds_X7_steps rfl (by decide) (by decide) (by decide) dX7_read_209 rfl 212 rfl ?_
      refine z_if_ge hX 252 dX7_read_212 (by decide) 215 rfl (fun c32 => ?_) (fun c32 => ?_)
      · replace h := br_pos h c32
        refine z_iinc hX (v := (v6 + (nI 1))) (lv2 := [(6, .int ((v6 + (nI 1)))), (8, .int x24), (0, .ref (gL Γ (189))), (1, .int v1), (2, .int v2), (3, .int v3), (4, .int v4), (5, .int v5), (7, .int v7)]) dX7_read_252 7 rfl rfl (by decide) rfl 255 rfl ?_
        refine z_iinc hX (v := (v7 + (nI 1))) (lv2 := [(7, .int ((v7 + (nI 1)))), (6, .int ((v6 + (nI 1)))), (8, .int x24), (0, .ref (gL Γ (189))), (1, .int v1), (2, .int v2), (3, .int v3), (4, .int v4), (5, .int v5)]) dX7_read_255 8 rfl rfl (by decide) rfl 258 rfl ?_
        refine z_goto hX 63 dX7_read_258 (by decide) ?_
        replace h := Option.some.inj h
        subst h
        exact z_sub [3, 4, 5, 6, 7, 8, 1, 0] rfl hk
      · replace h := br_neg h c32
        refine z_iconst hX (v := (nI 0)) dX7_read_215 rfl 216 rfl ?_
        refine z_istore hX (lv2 := [(9, .int ((nI 0))), (8, .int x24), (0, .ref (gL Γ (189))), (1, .int v1), (2, .int v2), (3, .int v3), (4, .int v4), (5, .int v5), (6, .int v6), (7, .int v7)]) dX7_read_216 (by decide) rfl 218 rfl ?_
        replace h := ox_elim h
        obtain ⟨u, rfl, h⟩ := h
        exact z_sub [2, 9, 0] rfl (lp_ok (Z := fun q : Int32 × St => Zw X Γ 11 r0 q.2 218 [(0, .ref (gL Γ (189))), (7, .int v7), (9, .int q.1)] []) (fun q t h hk => e_X7_read_L218 hX h hk) Fu _ _ h hk)
set_option maxHeartbeats 4000000 in
set_option maxRecDepth 100000 in
theorem e_X7_read_J152 {X : Cx} {Γ : Gm} {r0 : Rb} (hX : Amb X Γ cX7_read RX7 11 (some .int) 6) {v1 : Int32} {v2 : Int32} {v3 : Int32} {v4 : Int32} {v6 : Int32} {v7 : Int32} {v8 : Int32} {s : St} {t : (Int32 × Int32 × St) ⊕ ((Int32 × Int32 × Int32 × St) ⊕ (Int32 × St))} (h : f_X7_read_J152 v1 v2 v3 v4 v6 v7 v8 s = some t) (hk : (Sum.elim (fun q : Int32 × Int32 × St => Zw X Γ 11 r0 q.2.2 78 [(0, .ref (gL Γ (189))), (1, .int v1), (2, .int v2), (3, .int v3), (4, .int v4), (5, .int q.1), (6, .int v6), (7, .int v7), (8, .int q.2.1)] []) (Sum.elim (fun q : Int32 × Int32 × Int32 × St => Zw X Γ 11 r0 q.2.2.2 63 [(0, .ref (gL Γ (189))), (1, .int v1), (2, .int v2), (3, .int v3), (4, .int v4), (5, .int q.1), (6, .int q.2.1), (7, .int q.2.2.1)] []) (fun t : Int32 × St => Rt X Γ r0 (some (Value.int t.1), t.2)))) t) : Zw X Γ 11 r0 s 152 [(0, .ref (gL Γ (189))), (1, .int v1), (2, .int v2), (3, .int v3), (4, .int v4), (6, .int v6), (7, .int v7), (8, .int v8)] [] := by
  unfold f_X7_read_J152 at h
  refine z_iconst hX (v := (nI 2)) dX7_read_152 rfl 153 rfl ?_
  refine z_goto hX 157 dX7_read_153 (by decide) ?_
  refine z_istore hX (lv2 := [(5, .int ((nI 2))), (0, .ref (gL Γ (189))), (1, .int v1), (2, .int v2), (3, .int v3), (4, .int v4), (6, .int v6), (7, .int v7), (8, .int v8)]) dX7_read_157 (by decide) rfl 159 rfl ?_
  refine z_iinc hX (v := (v8 + (nI 1))) (lv2 := [(8, .int ((v8 + (nI 1)))), (5, .int ((nI 2))), (0, .ref (gL Γ (189))), (1, .int v1), (2, .int v2), (3, .int v3), (4, .int v4), (6, .int v6), (7, .int v7)]) dX7_read_159 8 rfl rfl (by decide) rfl 162 rfl ?_
  refine z_goto hX 78 dX7_read_162 (by decide) ?_
  replace h := Option.some.inj h
  subst h
  exact z_sub [2, 3, 4, 5, 6, 1, 7, 8, 0] rfl hk
set_option maxHeartbeats 4000000 in
set_option maxRecDepth 100000 in
theorem e_X7_read_L78 {X : Cx} {Γ : Gm} {r0 : Rb} (hX : Amb X Γ cX7_read RX7 11 (some .int) 6) {v1 : Int32} {v2 : Int32} {v3 : Int32} {v4 : Int32} {v6 : Int32} {v7 : Int32} {v5 : Int32} {v8 : Int32} {s : St} {t : (Int32 × Int32 × St) ⊕ ((Int32 × Int32 × Int32 × St) ⊕ (Int32 × St))} (h : f_X7_read_L78 v1 v2 v3 v4 v6 v7 v5 v8 s = some t) (hk : (Sum.elim (fun q : Int32 × Int32 × St => Zw X Γ 11 r0 q.2.2 78 [(0, .ref (gL Γ (189))), (1, .int v1), (2, .int v2), (3, .int v3), (4, .int v4), (5, .int q.1), (6, .int v6), (7, .int v7), (8, .int q.2.1)] []) (Sum.elim (fun q : Int32 × Int32 × Int32 × St => Zw X Γ 11 r0 q.2.2.2 63 [(0, .ref (gL Γ (189))), (1, .int v1), (2, .int v2), (3, .int v3), (4, .int v4), (5, .int q.1), (6, .int q.2.1), (7, .int q.2.2.1)] []) (fun t : Int32 × St => Rt X Γ r0 (some (Value.int t.1), t.2)))) t) : Zw X Γ 11 r0 s 78 [(0, .ref (gL Γ (189))), (1, .int v1), (2, .int v2), (3, .int v3), (4, .int v4), (5, .int v5), (6, .int v6), (7, .int v7), (8, .int v8)] [] := by
  unfold f_X7_read_L78 at h
  refine z_iload hX dX7_read_78 8 rfl 80 rfl ?_
  refine z_iconst hX (v := (nI 2)) dX7_read_80 rfl 81 rfl ?_
  refine z_icmp_ge hX 165 dX7_read_81 (by decide) 84 rfl (fun c14 => ?_) (fun c14 => ?_)
  · replace h := br_pos h c14
    replace h := ox_elim h
    obtain ⟨u, rfl, h⟩ := h
    exact z_sub [0, 1, 2, 3, 4, 5, 6, 7] rfl (e_X7_read_J165 hX h hk)
  · replace h := br_neg h c14
    refine z_iload hX dX7_read_84 5 rfl 86 rfl ?_
    refine z_if_ne hX 165 dX7_read_86 (by decide) 89 rfl (fun c15 => ?_) (fun c15 => ?_)
    · replace h := br_pos h c15
      replace h := ox_elim h
      obtain ⟨u, rfl, h⟩ := h
      exact z_sub [0, 1, 2, 3, 4, 5, 6, 7] rfl (e_X7_read_J165 hX h hk)
    · replace h := br_neg h c15
      refine z_iload_n hX dX7_read_89 3 rfl 90 rfl ?_
      refine z_i2l hX dX7_read_90 91 rfl ?_
      refine z_iconst hX (v := (nI 2)) dX7_read_91 rfl 92 rfl ?_
      refine z_iload hX dX7_read_92 7 rfl 94 rfl ?_
      refine z_imul hX dX7_read_94 95 rfl ?_
      refine z_i2l hX dX7_read_95 96 rfl ?_
      refine z_ladd hX dX7_read_96 97 rfl ?_
      refine z_iload hX dX7_read_97 8 rfl 99 rfl ?_
      refine z_i2l hX dX7_read_99 100 rfl ?_
      refine z_ladd hX dX7_read_100 101 rfl ?_
      replace h := bd_elim h
      obtain ⟨x16, ex16, h⟩ := h
      refine z_nmL ex16 ?_
      refine z_lstore hX (lv2 := [(9, .long x16), (0, .ref (gL Γ (189))), (1, .int v1), (2, .int v2), (3, .int v3), (4, .int v4), (5, .int v5), (6, .int v6), (7, .int v7), (8, .int v8)]) dX7_read_101 (by decide) rfl 103 rfl ?_
      refine z_aload_n hX dX7_read_103 1 rfl 104 rfl ?_
      refine z_get7 hX (k := 189) (j := 23) (v := .ref (gL Γ (197))) kdc_189 (by decide) rfl dX7_read_104 fl_X7_32 107 rfl ?_
      refine z_iload_n hX dX7_read_107 2 rfl 108 rfl ?_
      replace h := gd_elim h
      obtain ⟨g17, h⟩ := h
      refine z_iald hX (inb_vp g17) dX7_read_108 109 rfl ?_
      refine z_bipush hX (v := (-4)) dX7_read_109 (by decide) 111 rfl ?_
      refine z_icmp_ne hX 118 dX7_read_111 (by decide) 114 rfl (fun c18 => ?_) (fun c18 => ?_)
      · replace h := br_pos h c18
        refine z_aload_n hX dX7_read_118 1 rfl 119 rfl ?_
        refine z_get7 hX (k := 189) (j := 23) (v := .ref (gL Γ (197))) kdc_189 (by decide) rfl dX7_read_119 fl_X7_32 122 rfl ?_
        refine z_iload_n hX dX7_read_122 2 rfl 123 rfl ?_
        refine z_iald hX (inb_vp g17) dX7_read_123 124 rfl ?_
        refine z_iload_n hX dX7_read_124 3 rfl 125 rfl ?_
        refine z_icmp_eq hX 132 dX7_read_125 (by decide) 128 rfl (fun c19 => ?_) (fun c19 => ?_)
        · replace h := br_pos h c19
          refine z_lload hX dX7_read_132 0 rfl 134 rfl ?_
          refine z_lconst hX (v := (lN 0)) dX7_read_134 rfl 135 rfl ?_
          refine z_lcmp hX dX7_read_135 136 rfl ?_
          refine z_if_lt hX 152 dX7_read_136 (by decide) 139 rfl (fun c20 => ?_) (fun c20 => ?_)
          · replace h := br_pos h c20
            exact z_sub [1, 2, 3, 4, 5, 7, 8, 9] rfl (e_X7_read_J152 hX h hk)
          · replace h := br_neg h c20
            refine z_lload hX dX7_read_139 0 rfl 141 rfl ?_
            refine z_aload_n hX dX7_read_141 1 rfl 142 rfl ?_
            refine z_get7 hX (k := 189) (j := 24) (v := .ref (gL Γ (198))) kdc_189 (by decide) rfl dX7_read_142 fl_X7_35 145 rfl ?_
            refine z_iload_n hX dX7_read_145 2 rfl 146 rfl ?_
            replace h := gd_elim h
            obtain ⟨g21, h⟩ := h
            refine z_iald hX (inb_vp g21) dX7_read_146 147 rfl ?_
            refine z_i2l hX dX7_read_147 148 rfl ?_
            refine z_lcmp hX dX7_read_148 149 rfl ?_
            refine z_if_lt hX 156 dX7_read_149 (by decide) 152 rfl (fun c22 => ?_) (fun c22 => ?_)
            · replace h := br_pos h c22
              refine z_iconst hX (v := (nI 0)) dX7_read_156 rfl 157 rfl ?_
              refine z_istore hX (lv2 := [(5, .int ((nI 0))), (9, .long x16), (0, .ref (gL Γ (189))), (1, .int v1), (2, .int v2), (3, .int v3), (4, .int v4), (6, .int v6), (7, .int v7), (8, .int v8)]) dX7_read_157 (by decide) rfl 159 rfl ?_
              refine z_iinc hX (v := (v8 + (nI 1))) (lv2 := [(8, .int ((v8 + (nI 1)))), (5, .int ((nI 0))), (9, .long x16), (0, .ref (gL Γ (189))), (1, .int v1), (2, .int v2), (3, .int v3), (4, .int v4), (6, .int v6), (7, .int v7)]) dX7_read_159 9 rfl rfl (by decide) rfl 162 rfl ?_
              refine z_goto hX 78 dX7_read_162 (by decide) ?_
              replace h := Option.some.inj h
              subst h
              exact z_sub [3, 4, 5, 6, 7, 1, 8, 9, 0] rfl hk
            · replace h := br_neg h c22
              exact z_sub [1, 2, 3, 4, 5, 7, 8, 9] rfl (e_X7_read_J152 hX h hk)
        · replace h := br_neg h c19
          refine z_iconst hX (v := (nI 3)) dX7_read_128 rfl 129 rfl ?_
          refine z_goto hX 157 dX7_read_129 (by decide) ?_
          refine z_istore hX (lv2 := [(5, .int ((nI 3))), (9, .long x16), (0, .ref (gL Γ (189))), (1, .int v1), (2, .int v2), (3, .int v3), (4, .int v4), (6, .int v6), (7, .int v7), (8, .int v8)]) dX7_read_157 (by decide) rfl 159 rfl ?_
          refine z_iinc hX (v := (v8 + (nI 1))) (lv2 := [(8, .int ((v8 + (nI 1)))), (5, .int ((nI 3))), (9, .long x16), (0, .ref (gL Γ (189))), (1, .int v1), (2, .int v2), (3, .int v3), (4, .int v4), (6, .int v6), (7, .int v7)]) dX7_read_159 9 rfl rfl (by decide) rfl 162 rfl ?_
          refine z_goto hX 78 dX7_read_162 (by decide) ?_
          replace h := Option.some.inj h
          subst h
          exact z_sub [3, 4, 5, 6, 7, 1, 8, 9, 0] rfl hk
      · replace h := br_neg h c18
        refine z_iconst hX (v := (nI 1)) dX7_read_114 rfl 115 rfl ?_
        refine z_goto hX 157 dX7_read_115 (by decide) ?_
        refine z_istore hX (lv2 := [(5, .int ((nI 1))), (9, .long x16), (0, .ref (gL Γ (189))), (1, .int v1), (2, .int v2), (3, .int v3), (4, .int v4), (6, .int v6), (7, .int v7), (8, .int v8)]) dX7_read_157 (by decide) rfl 159 rfl ?_
        refine z_iinc hX (v := (v8 + (nI 1))) (lv2 := [(8, .int ((v8 + (nI 1)))), (5, .int ((nI 1))), (9, .long x16), (0, .ref (gL Γ (189))), (1, .int v1), (2, .int v2), (3, .int v3), (4, .int v4), (6, .int v6), (7, .int v7)]) dX7_read_159 9 rfl rfl (by decide) rfl 162 rfl ?_
        refine z_goto hX 78 dX7_read_162 (by decide) ?_
        replace h := Option.some.inj h
        subst h
        exact z_sub [3, 4, 5, 6, 7, 1, 8, 9, 0] rfl hk
set_option maxHeartbeats 4000000 in
set_option maxRecDepth 100000 in
theorem e_X7_read_L63 {X : Cx} {Γ : Gm} {r0 : Rb} (hX : Amb X Γ cX7_read RX7 11 (some .int) 6) {v1 : Int32} {v2 : Int32} {v3 : Int32} {v4 : Int32} {v5 : Int32} {v6 : Int32} {v7 : Int32} {s : St} {t : (Int32 × Int32 × Int32 × St) ⊕ (Int32 × St)} (h : f_X7_read_L63 v1 v2 v3 v4 v5 v6 v7 s = some t) (hk : (Sum.elim (fun q : Int32 × Int32 × Int32 × St => Zw X Γ 11 r0 q.2.2.2 63 [(0, .ref (gL Γ (189))), (1, .int v1), (2, .int v2), (3, .int v3), (4, .int v4), (5, .int q.1), (6, .int q.2.1), (7, .int q.2.2.1)] []) (fun t : Int32 × St => Rt X Γ r0 (some (Value.int t.1), t.2))) t) : Zw X Γ 11 r0 s 63 [(0, .ref (gL Γ (189))), (1, .int v1), (2, .int v2), (3, .int v3), (4, .int v4), (5, .int v5), (6, .int v6), (7, .int v7)] [] := by
  unfold f_X7_read_L63 at h
  refine z_iload hX dX7_read_63 7 rfl 65 rfl ?_
  refine z_iload hX dX7_read_65 4 rfl 67 rfl ?_
  refine z_icmp_ge hX 261 dX7_read_67 (by decide) 70 rfl (fun c11 => ?_) (fun c11 => ?_)
  · replace h := br_pos h c11
    replace h := ox_elim h
    obtain ⟨u, rfl, h⟩ := h
    exact z_sub [0, 5, 6] rfl (e_X7_read_J261 hX h hk)
  · replace h := br_neg h c11
    refine z_iload hX dX7_read_70 5 rfl 72 rfl ?_
    refine z_if_ne hX 261 dX7_read_72 (by decide) 75 rfl (fun c12 => ?_) (fun c12 => ?_)
    · replace h := br_pos h c12
      replace h := ox_elim h
      obtain ⟨u, rfl, h⟩ := h
      exact z_sub [0, 5, 6] rfl (e_X7_read_J261 hX h hk)
    · replace h := br_neg h c12
      refine z_iconst hX (v := (nI 0)) dX7_read_75 rfl 76 rfl ?_
      refine z_istore hX (lv2 := [(8, .int ((nI 0))), (0, .ref (gL Γ (189))), (1, .int v1), (2, .int v2), (3, .int v3), (4, .int v4), (5, .int v5), (6, .int v6), (7, .int v7)]) dX7_read_76 (by decide) rfl 78 rfl ?_
      exact z_sub [1, 2, 3, 4, 5, 6, 7, 8, 0] rfl (lp_ok (Z := fun q : Int32 × Int32 × St => Zw X Γ 11 r0 q.2.2 78 [(0, .ref (gL Γ (189))), (1, .int v1), (2, .int v2), (3, .int v3), (4, .int v4), (5, .int q.1), (6, .int v6), (7, .int v7), (8, .int q.2.1)] []) (fun q t h hk => e_X7_read_L78 hX h hk) Fu _ _ h hk)
set_option maxHeartbeats 4000000 in
set_option maxRecDepth 100000 in
theorem e_X7_read_L26 {X : Cx} {Γ : Gm} {r0 : Rb} (hX : Amb X Γ cX7_read RX7 11 (some .int) 6) {v1 : Int32} {v2 : Int32} {v3 : Int32} {v4 : Int32} {v5 : Int32} {s : St} {t : (Int32 × St) ⊕ (Int32 × St)} (h : f_X7_read_L26 v1 v2 v3 v4 v5 s = some t) (hk : (Sum.elim (fun q : Int32 × St => Zw X Γ 11 r0 q.2 26 [(0, .ref (gL Γ (189))), (1, .int v1), (2, .int v2), (3, .int v3), (4, .int v4), (5, .int q.1)] []) (fun t : Int32 × St => Rt X Γ r0 (some (Value.int t.1), t.2))) t) : Zw X Γ 11 r0 s 26 [(0, .ref (gL Γ (189))), (1, .int v1), (2, .int v2), (3, .int v3), (4, .int v4), (5, .int v5)] [] := by
  unfold f_X7_read_L26 at h
  refine z_iload hX dX7_read_26 5 rfl 28 rfl ?_
  refine z_sipush hX (v := (nI 131)) dX7_read_28 (by decide) 31 rfl ?_
  refine z_icmp_ge hX 54 dX7_read_31 (by decide) 34 rfl (fun c7 => ?_) (fun c7 => ?_)
  · replace h := br_pos h c7
    refine z_iconst hX (v := (nI 0)) dX7_read_54 rfl 55 rfl ?_
    refine z_istore hX (lv2 := [(5, .int ((nI 0))), (0, .ref (gL Γ (189))), (1, .int v1), (2, .int v2), (3, .int v3), (4, .int v4)]) dX7_read_55 (by decide) rfl 57 rfl ?_
    refine z_iconst hX (v := (nI 0)) dX7_read_57 rfl 58 rfl ?_
    refine z_istore hX (lv2 := [(6, .int ((nI 0))), (5, .int ((nI 0))), (0, .ref (gL Γ (189))), (1, .int v1), (2, .int v2), (3, .int v3), (4, .int v4)]) dX7_read_58 (by decide) rfl 60 rfl ?_
    refine z_iconst hX (v := (nI 0)) dX7_read_60 rfl 61 rfl ?_
    refine z_istore hX (lv2 := [(7, .int ((nI 0))), (6, .int ((nI 0))), (5, .int ((nI 0))), (0, .ref (gL Γ (189))), (1, .int v1), (2, .int v2), (3, .int v3), (4, .int v4)]) dX7_read_61 (by decide) rfl 63 rfl ?_
    replace h := ox_elim h
    obtain ⟨u, rfl, h⟩ := h
    exact z_sub [3, 4, 5, 6, 7, 2, 1, 0] rfl (lp_ok (Z := fun q : Int32 × Int32 × Int32 × St => Zw X Γ 11 r0 q.2.2.2 63 [(0, .ref (gL Γ (189))), (1, .int v1), (2, .int v2), (3, .int v3), (4, .int v4), (5, .int q.1), (6, .int q.2.1), (7, .int q.2.2.1)] []) (fun q t h hk => e_X7_read_L63 hX h hk) Fu _ _ h hk)
  · replace h := br_neg h c7
    refine z_aload_n hX dX7_read_34 0 rfl 35 rfl ?_
    refine z_get7 hX (k := 189) (j := 27) (v := .ref (gL Γ (200))) kdc_189 (by decide) rfl dX7_read_35 fl_X7_41 38 rfl ?_
    refine z_iload hX dX7_read_38 5 rfl 40 rfl ?_
    refine z_aload_n hX dX7_read_40 0 rfl 41 rfl ?_
    refine z_get7 hX (k := 189) (j := 0) (v := .ref (gL Γ (190))) kdc_189 (by decide) rfl dX7_read_41 fl_X7_7 44 rfl ?_
    refine z_iload hX dX7_read_44 5 rfl 46 rfl ?_
    replace h := gd_elim h
    obtain ⟨g8, h⟩ := h
    refine z_iald hX (inb_vp g8) dX7_read_46 47 rfl ?_
    replace h := gd_elim h
    obtain ⟨g9, h⟩ := h
    replace h := bd_elim h
    obtain ⟨s10, es10, h⟩ := h
    refine z_iast hX (inb_vp g9) dX7_read_47 es10 48 rfl ?_
    refine z_iinc hX (v := (v5 + (nI 1))) (lv2 := [(5, .int ((v5 + (nI 1)))), (0, .ref (gL Γ (189))), (1, .int v1), (2, .int v2), (3, .int v3), (4, .int v4)]) dX7_read_48 5 rfl rfl (by decide) rfl 51 rfl ?_
    refine z_goto hX 26 dX7_read_51 (by decide) ?_
    replace h := Option.some.inj h
    subst h
    exact z_sub [1, 2, 3, 4, 5, 0] rfl hk
set_option maxHeartbeats 4000000 in
set_option maxRecDepth 100000 in
theorem e_X7_read {X : Cx} {Γ : Gm} {r0 : Rb} (hX : Amb X Γ cX7_read RX7 11 (some .int) 6) {a1 : Int32} {a2 : Int32} {a3 : Int32} {a4 : Int32} {s : St} {t : Int32 × St} (h : f_X7_read a1 a2 a3 a4 s = some t) (hk : (fun t : Int32 × St => Rt X Γ r0 (some (Value.int t.1), t.2)) t) : Zw X Γ 11 r0 s 0 [(0, .ref (gL Γ (189))), (1, .int a1), (2, .int a2), (3, .int a3), (4, .int a4)] [] := by
  unfold f_X7_read at h
  refine z_iload_n hX dX7_read_0 1 rfl 1 rfl ?_
  refine z_iload_n hX dX7_read_1 2 rfl 2 rfl ?_
  replace h := cl_elim h
  obtain ⟨x2, s1, hx2, h⟩ := h
  refine z_cSi hX (As := [.int a1, .int a2]) (c_X7_isSheet hx2) lk_X7_299 ds_X7_isSheet rfl (by decide) (by decide) (by decide) dX7_read_2 rfl 5 rfl ?_
  refine z_if_eq hX 21 dX7_read_5 (by decide) 8 rfl (fun c3 => ?_) (fun c3 => ?_)
  · replace h := br_pos h c3
    refine z_iconst hX (v := (-1)) dX7_read_21 rfl 22 rfl ?_
    replace h := Option.some.inj h
    subst h
    exact z_iret hX dX7_read_22 rfl hk
  · replace h := br_neg h c3
    refine z_iload hX dX7_read_8 4 rfl 10 rfl ?_
    refine z_i2l hX dX7_read_10 11 rfl ?_
    refine z_lconst hX (v := (lN 0)) dX7_read_11 rfl 12 rfl ?_
    refine z_ldc2 hX (v := (lN 20)) dX7_read_12 ml_X7_302 15 rfl ?_
    replace h := cl_elim h
    obtain ⟨x5, s4, hx5, h⟩ := h
    refine z_cSi hX (As := [.long ((a4).toInt64), .long ((lN 0)), .long ((lN 20))]) (c_X7_within hx5) lk_X7_52 ds_X7_within rfl (by decide) (by decide) (by decide) dX7_read_15 rfl 18 rfl ?_
    refine z_if_ne hX 23 dX7_read_18 (by decide) 21 rfl (fun c6 => ?_) (fun c6 => ?_)
    · replace h := br_pos h c6
      refine z_iconst hX (v := (nI 0)) dX7_read_23 rfl 24 rfl ?_
      refine z_istore hX (lv2 := [(5, .int ((nI 0))), (0, .ref (gL Γ (189))), (1, .int a1), (2, .int a2), (3, .int a3), (4, .int a4)]) dX7_read_24 (by decide) rfl 26 rfl ?_
      exact z_sub [1, 2, 3, 4, 5, 0] rfl (lp_ok (Z := fun q : Int32 × St => Zw X Γ 11 r0 q.2 26 [(0, .ref (gL Γ (189))), (1, .int a1), (2, .int a2), (3, .int a3), (4, .int a4), (5, .int q.1)] []) (fun q t h hk => e_X7_read_L26 hX h hk) Fu _ _ h hk)
    · replace h := br_neg h c6
      refine z_iconst hX (v := (-1)) dX7_read_21 rfl 22 rfl ?_
      replace h := Option.some.inj h
      subst h
      exact z_iret hX dX7_read_22 rfl hk
theorem c_X7_read {lc : Launch} {Γ : Gm} {a1 : Int32} {a2 : Int32} {a3 : Int32} {a4 : Int32} {s s2 : St} {v : Int32} (h : f_X7_read a1 a2 a3 a4 s = some (v, s2)) : Ct lc Γ yX7_read cX7_read 11 (some .int) 6 [.ref (gL Γ (189)), .int a1, .int a2, .int a3, .int a4] s (some (.int v), s2) := Ct.of (by decide +kernel) (Nat.le_of_ble_eq_true rfl) (fun X hl hX => e_X7_read hX h rfl)
theorem dX7_torn_0 : decode cX7_torn 0 = .ok (.aload_n 0, 1) := by decide +kernel
theorem dX7_torn_1 : decode cX7_torn 1 = .ok (.getfield 311, 3) := by decide +kernel
theorem dX7_torn_4 : decode cX7_torn 4 = .ok (.ireturn, 1) := by decide +kernel
def f_X7_torn (s : St) : Option (Int32 × St) := some (((s.1 189 26), s))
set_option maxHeartbeats 4000000 in
set_option maxRecDepth 100000 in
theorem e_X7_torn {X : Cx} {Γ : Gm} {r0 : Rb} (hX : Amb X Γ cX7_torn RX7 1 (some .int) 0) {s : St} {t : Int32 × St} (h : f_X7_torn s = some t) (hk : (fun t : Int32 × St => Rt X Γ r0 (some (Value.int t.1), t.2)) t) : Zw X Γ 1 r0 s 0 [(0, .ref (gL Γ (189)))] [] := by
  unfold f_X7_torn at h
  refine z_aload_n hX dX7_torn_0 0 rfl 1 rfl ?_
  refine z_get7 hX (k := 189) (j := 26) (v := .int ((s.1 189 26))) kdc_189 (by decide) rfl dX7_torn_1 fl_X7_311 4 rfl ?_
  replace h := Option.some.inj h
  subst h
  exact z_iret hX dX7_torn_4 rfl hk
theorem c_X7_torn {lc : Launch} {Γ : Gm} {s s2 : St} {v : Int32} (h : f_X7_torn s = some (v, s2)) : Ct lc Γ yX7_torn cX7_torn 1 (some .int) 0 [.ref (gL Γ (189))] s (some (.int v), s2) := Ct.of (by decide +kernel) (Nat.le_of_ble_eq_true rfl) (fun X hl hX => e_X7_torn hX h rfl)
theorem dX7_count_0 : decode cX7_count 0 = .ok (.aload_n 0, 1) := by decide +kernel
theorem dX7_count_1 : decode cX7_count 1 = .ok (.invokevirtual 188, 3) := by decide +kernel
theorem dX7_count_4 : decode cX7_count 4 = .ok (.iconst 0, 1) := by decide +kernel
theorem dX7_count_5 : decode cX7_count 5 = .ok (.istore_n 2, 1) := by decide +kernel
theorem dX7_count_6 : decode cX7_count 6 = .ok (.iconst 0, 1) := by decide +kernel
theorem dX7_count_7 : decode cX7_count 7 = .ok (.istore_n 3, 1) := by decide +kernel
theorem dX7_count_8 : decode cX7_count 8 = .ok (.iload_n 3, 1) := by decide +kernel
theorem dX7_count_9 : decode cX7_count 9 = .ok (.aload_n 0, 1) := by decide +kernel
theorem dX7_count_10 : decode cX7_count 10 = .ok (.getfield 72, 3) := by decide +kernel
theorem dX7_count_13 : decode cX7_count 13 = .ok (.if_icmp .ge 33, 3) := by decide +kernel
theorem dX7_count_16 : decode cX7_count 16 = .ok (.iload_n 2, 1) := by decide +kernel
theorem dX7_count_17 : decode cX7_count 17 = .ok (.aload_n 0, 1) := by decide +kernel
theorem dX7_count_18 : decode cX7_count 18 = .ok (.getfield 7, 3) := by decide +kernel
theorem dX7_count_21 : decode cX7_count 21 = .ok (.bipush 38, 2) := by decide +kernel
theorem dX7_count_23 : decode cX7_count 23 = .ok (.aload_n 0, 1) := by decide +kernel
theorem dX7_count_24 : decode cX7_count 24 = .ok (.getfield 7, 3) := by decide +kernel
theorem dX7_count_27 : decode cX7_count 27 = .ok (.bipush 12, 2) := by decide +kernel
theorem dX7_count_29 : decode cX7_count 29 = .ok (.iconst 2, 1) := by decide +kernel
theorem dX7_count_30 : decode cX7_count 30 = .ok (.iload_n 3, 1) := by decide +kernel
theorem dX7_count_31 : decode cX7_count 31 = .ok (.imul, 1) := by decide +kernel
theorem dX7_count_32 : decode cX7_count 32 = .ok (.iadd, 1) := by decide +kernel
theorem dX7_count_33 : decode cX7_count 33 = .ok (.iaload, 1) := by decide +kernel
theorem dX7_count_34 : decode cX7_count 34 = .ok (.iconst 4, 1) := by decide +kernel
theorem dX7_count_35 : decode cX7_count 35 = .ok (.irem, 1) := by decide +kernel
theorem dX7_count_36 : decode cX7_count 36 = .ok (.iadd, 1) := by decide +kernel
theorem dX7_count_37 : decode cX7_count 37 = .ok (.iaload, 1) := by decide +kernel
theorem dX7_count_38 : decode cX7_count 38 = .ok (.iadd, 1) := by decide +kernel
theorem dX7_count_39 : decode cX7_count 39 = .ok (.istore_n 2, 1) := by decide +kernel
theorem dX7_count_40 : decode cX7_count 40 = .ok (.iinc 3 1, 3) := by decide +kernel
theorem dX7_count_43 : decode cX7_count 43 = .ok (.goto (-35), 3) := by decide +kernel
theorem dX7_count_46 : decode cX7_count 46 = .ok (.iload_n 1, 1) := by decide +kernel
theorem dX7_count_47 : decode cX7_count 47 = .ok (.tableswitch 100 0 5 #[37, 45, 65, 70, 93, 98], 37) := by decide +kernel
theorem dX7_count_84 : decode cX7_count 84 = .ok (.aload_n 0, 1) := by decide +kernel
theorem dX7_count_85 : decode cX7_count 85 = .ok (.getfield 7, 3) := by decide +kernel
theorem dX7_count_88 : decode cX7_count 88 = .ok (.bipush 106, 2) := by decide +kernel
theorem dX7_count_90 : decode cX7_count 90 = .ok (.iaload, 1) := by decide +kernel
theorem dX7_count_91 : decode cX7_count 91 = .ok (.ireturn, 1) := by decide +kernel
theorem dX7_count_92 : decode cX7_count 92 = .ok (.aload_n 0, 1) := by decide +kernel
theorem dX7_count_93 : decode cX7_count 93 = .ok (.getfield 16, 3) := by decide +kernel
theorem dX7_count_96 : decode cX7_count 96 = .ok (.iconst 0, 1) := by decide +kernel
theorem dX7_count_97 : decode cX7_count 97 = .ok (.baload, 1) := by decide +kernel
theorem dX7_count_98 : decode cX7_count 98 = .ok (.invokestatic 288, 3) := by decide +kernel
theorem dX7_count_101 : decode cX7_count 101 = .ok (.aload_n 0, 1) := by decide +kernel
theorem dX7_count_102 : decode cX7_count 102 = .ok (.getfield 16, 3) := by decide +kernel
theorem dX7_count_105 : decode cX7_count 105 = .ok (.iconst 1, 1) := by decide +kernel
theorem dX7_count_106 : decode cX7_count 106 = .ok (.baload, 1) := by decide +kernel
theorem dX7_count_107 : decode cX7_count 107 = .ok (.invokestatic 288, 3) := by decide +kernel
theorem dX7_count_110 : decode cX7_count 110 = .ok (.iadd, 1) := by decide +kernel
theorem dX7_count_111 : decode cX7_count 111 = .ok (.ireturn, 1) := by decide +kernel
theorem dX7_count_112 : decode cX7_count 112 = .ok (.aload_n 0, 1) := by decide +kernel
theorem dX7_count_113 : decode cX7_count 113 = .ok (.getfield 77, 3) := by decide +kernel
theorem dX7_count_116 : decode cX7_count 116 = .ok (.ireturn, 1) := by decide +kernel
theorem dX7_count_117 : decode cX7_count 117 = .ok (.aload_n 0, 1) := by decide +kernel
theorem dX7_count_118 : decode cX7_count 118 = .ok (.getfield 32, 3) := by decide +kernel
theorem dX7_count_121 : decode cX7_count 121 = .ok (.iconst 0, 1) := by decide +kernel
theorem dX7_count_122 : decode cX7_count 122 = .ok (.iaload, 1) := by decide +kernel
theorem dX7_count_123 : decode cX7_count 123 = .ok (.bipush (-4), 2) := by decide +kernel
theorem dX7_count_125 : decode cX7_count 125 = .ok (.if_icmp .ne 8, 3) := by decide +kernel
theorem dX7_count_128 : decode cX7_count 128 = .ok (.bipush (-4), 2) := by decide +kernel
theorem dX7_count_130 : decode cX7_count 130 = .ok (.goto 9, 3) := by decide +kernel
theorem dX7_count_133 : decode cX7_count 133 = .ok (.aload_n 0, 1) := by decide +kernel
theorem dX7_count_134 : decode cX7_count 134 = .ok (.getfield 35, 3) := by decide +kernel
theorem dX7_count_137 : decode cX7_count 137 = .ok (.iconst 0, 1) := by decide +kernel
theorem dX7_count_138 : decode cX7_count 138 = .ok (.iaload, 1) := by decide +kernel
theorem dX7_count_139 : decode cX7_count 139 = .ok (.ireturn, 1) := by decide +kernel
theorem dX7_count_140 : decode cX7_count 140 = .ok (.aload_n 0, 1) := by decide +kernel
theorem dX7_count_141 : decode cX7_count 141 = .ok (.invokevirtual 241, 3) := by decide +kernel
theorem dX7_count_144 : decode cX7_count 144 = .ok (.ireturn, 1) := by decide +kernel
theorem dX7_count_145 : decode cX7_count 145 = .ok (.iload_n 2, 1) := by decide +kernel
theorem dX7_count_146 : decode cX7_count 146 = .ok (.ireturn, 1) := by decide +kernel
theorem dX7_count_147 : decode cX7_count 147 = .ok (.iconst (-1), 1) := by decide +kernel
theorem dX7_count_148 : decode cX7_count 148 = .ok (.ireturn, 1) := by decide +kernel
def f_X7_count_L8 (v1 : Int32) (v2 : Int32) (v3 : Int32) (s : St) : Option ((Int32 × Int32 × St) ⊕ (Int32 × St)) := if (s.1 189 4) ≤ v3 then (if v1 = (nI 0) then (if inb (nI 106) (lnI 190) = true then some (Sum.inr (((s.1 190 ((nI 106)).toNatClampNeg), s))) else none) else (if v1 = (nI 1) then (if inb (nI 0) (lnZ 192) = true then cl (f_X7_flag (s.1 192 ((nI 0)).toNatClampNeg) s) (fun x9 s8 => if inb (nI 1) (lnZ 192) = true then cl (f_X7_flag (s8.1 192 ((nI 1)).toNatClampNeg) s8) (fun x12 s11 => some (Sum.inr (((x9 + x12), s11)))) else none) else none) else (if v1 = (nI 2) then (some (Sum.inr (((s.1 189 11), s)))) else (if v1 = (nI 3) then (if inb (nI 0) (lnI 197) = true then if ¬ (s.1 197 ((nI 0)).toNatClampNeg) = (-4) then (if inb (nI 0) (lnI 198) = true then some (Sum.inr (((s.1 198 ((nI 0)).toNatClampNeg), s))) else none) else (some (Sum.inr (((-4), s)))) else none) else (if v1 = (nI 4) then (cl (f_X7_allLeft s) (fun x20 s19 => some (Sum.inr ((x20, s19))))) else (if v1 = (nI 5) then (some (Sum.inr ((v2, s)))) else (if (v1).toInt < 0 ∨ 5 < (v1).toInt then (some (Sum.inr (((-1), s)))) else none))))))) else (if inb ((nI 12) + ((nI 2) * v3)) (lnI 190) = true then if inb ((nI 38) + ((s.1 190 (((nI 12) + ((nI 2) * v3))).toNatClampNeg) - (s.1 190 (((nI 12) + ((nI 2) * v3))).toNatClampNeg) / (nI 4) * (nI 4))) (lnI 190) = true then bd (v2 + (s.1 190 (((nI 38) + ((s.1 190 (((nI 12) + ((nI 2) * v3))).toNatClampNeg) - (s.1 190 (((nI 12) + ((nI 2) * v3))).toNatClampNeg) / (nI 4) * (nI 4)))).toNatClampNeg)) (fun x25 => some (Sum.inl (x25, (v3 + (nI 1)), s))) else none else none)
def f_X7_count (a1 : Int32) (s : St) : Option (Int32 × St) := cl (f_X7_starts s) (fun x2 s1 => lp (fun q : Int32 × Int32 × St => f_X7_count_L8 a1 q.1 q.2.1 q.2.2) Fu ((nI 0), (nI 0), s1))
set_option maxHeartbeats 4000000 in
set_option maxRecDepth 100000 in
theorem e_X7_count_L8 {X : Cx} {Γ : Gm} {r0 : Rb} (hX : Amb X Γ cX7_count RX7 4 (some .int) 1) {v1 : Int32} {v2 : Int32} {v3 : Int32} {s : St} {t : (Int32 × Int32 × St) ⊕ (Int32 × St)} (h : f_X7_count_L8 v1 v2 v3 s = some t) (hk : (Sum.elim (fun q : Int32 × Int32 × St => Zw X Γ 4 r0 q.2.2 8 [(0, .ref (gL Γ (189))), (1, .int v1), (2, .int q.1), (3, .int q.2.1)] []) (fun t : Int32 × St => Rt X Γ r0 (some (Value.int t.1), t.2))) t) : Zw X Γ 4 r0 s 8 [(0, .ref (gL Γ (189))), (1, .int v1), (2, .int v2), (3, .int v3)] [] := by
  unfold f_X7_count_L8 at h
  refine z_iload_n hX dX7_count_8 3 rfl 9 rfl ?_
  refine z_aload_n hX dX7_count_9 0 rfl 10 rfl ?_
  refine z_get7 hX (k := 189) (j := 4) (v := .int ((s.1 189 4))) kdc_189 (by decide) rfl dX7_count_10 fl_X7_72 13 rfl ?_
  refine z_icmp_ge hX 46 dX7_count_13 (by decide) 16 rfl (fun c3 => ?_) (fun c3 => ?_)
  · replace h := br_pos h c3
    refine z_iload_n hX dX7_count_46 1 rfl 47 rfl ?_
    by_cases c4 : v1 = (nI 0)
    · replace h := br_pos h c4
      refine z_tcase hX (off := 37) 84 dX7_count_47 (nI 0) c4 (by decide) (by decide) ?_
      refine z_aload_n hX dX7_count_84 0 rfl 85 rfl ?_
      refine z_get7 hX (k := 189) (j := 0) (v := .ref (gL Γ (190))) kdc_189 (by decide) rfl dX7_count_85 fl_X7_7 88 rfl ?_
      refine z_bipush hX (v := (nI 106)) dX7_count_88 (by decide) 90 rfl ?_
      replace h := gd_elim h
      obtain ⟨g5, h⟩ := h
      refine z_iald hX (inb_vp g5) dX7_count_90 91 rfl ?_
      replace h := Option.some.inj h
      subst h
      exact z_iret hX dX7_count_91 rfl hk
    replace h := br_neg h c4
    by_cases c6 : v1 = (nI 1)
    · replace h := br_pos h c6
      refine z_tcase hX (off := 45) 92 dX7_count_47 (nI 1) c6 (by decide) (by decide) ?_
      refine z_aload_n hX dX7_count_92 0 rfl 93 rfl ?_
      refine z_get7 hX (k := 189) (j := 2) (v := .ref (gL Γ (192))) kdc_189 (by decide) rfl dX7_count_93 fl_X7_16 96 rfl ?_
      refine z_iconst hX (v := (nI 0)) dX7_count_96 rfl 97 rfl ?_
      replace h := gd_elim h
      obtain ⟨g7, h⟩ := h
      refine z_zald hX (inb_vp g7) dX7_count_97 98 rfl ?_
      replace h := cl_elim h
      obtain ⟨x9, s8, hx9, h⟩ := h
      refine z_cSi hX (As := [.int ((s.1 192 ((nI 0)).toNatClampNeg))]) (c_X7_flag hx9) lk_X7_288 ds_X7_flag rfl (by decide) (by decide) (by decide) dX7_count_98 rfl 101 rfl ?_
      refine z_aload_n hX dX7_count_101 0 rfl 102 rfl ?_
      refine z_get7 hX (k := 189) (j := 2) (v := .ref (gL Γ (192))) kdc_189 (by decide) rfl dX7_count_102 fl_X7_16 105 rfl ?_
      refine z_iconst hX (v := (nI 1)) dX7_count_105 rfl 106 rfl ?_
      replace h := gd_elim h
      obtain ⟨g10, h⟩ := h
      refine z_zald hX (inb_vp g10) dX7_count_106 107 rfl ?_
      replace h := cl_elim h
      obtain ⟨x12, s11, hx12, h⟩ := h
      refine z_cSi hX (As := [.int ((s8.1 192 ((nI 1)).toNatClampNeg))]) (c_X7_flag hx12) lk_X7_288 ds_X7_flag rfl (by decide) (by decide) (Nat.le_of_ble_eq_true rfl) dX7_count_107 rfl 110 rfl ?_
      refine z_iadd hX dX7_count_110 111 rfl ?_
      replace h := Option.some.inj h
      subst h
      exact z_iret hX dX7_count_111 rfl hk
    replace h := br_neg h c6
    by_cases c13 : v1 = (nI 2)
    · replace h := br_pos h c13
      refine z_tcase hX (off := 65) 112 dX7_count_47 (nI 2) c13 (by decide) (by decide) ?_
      refine z_aload_n hX dX7_count_112 0 rfl 113 rfl ?_
      refine z_get7 hX (k := 189) (j := 11) (v := .int ((s.1 189 11))) kdc_189 (by decide) rfl dX7_count_113 fl_X7_77 116 rfl ?_
      replace h := Option.some.inj h
      subst h
      exact z_iret hX dX7_count_116 rfl hk
    replace h := br_neg h c13
    by_cases c14 : v1 = (nI 3)
    · replace h := br_pos h c14
      refine z_tcase hX (off := 70) 117 dX7_count_47 (nI 3) c14 (by decide) (by decide) ?_
      refine z_aload_n hX dX7_count_117 0 rfl 118 rfl ?_
      refine z_get7 hX (k := 189) (j := 23) (v := .ref (gL Γ (197))) kdc_189 (by decide) rfl dX7_count_118 fl_X7_32 121 rfl ?_
      refine z_iconst hX (v := (nI 0)) dX7_count_121 rfl 122 rfl ?_
      replace h := gd_elim h
      obtain ⟨g15, h⟩ := h
      refine z_iald hX (inb_vp g15) dX7_count_122 123 rfl ?_
      refine z_bipush hX (v := (-4)) dX7_count_123 (by decide) 125 rfl ?_
      refine z_icmp_ne hX 133 dX7_count_125 (by decide) 128 rfl (fun c16 => ?_) (fun c16 => ?_)
      · replace h := br_pos h c16
        refine z_aload_n hX dX7_count_133 0 rfl 134 rfl ?_
        refine z_get7 hX (k := 189) (j := 24) (v := .ref (gL Γ (198))) kdc_189 (by decide) rfl dX7_count_134 fl_X7_35 137 rfl ?_
        refine z_iconst hX (v := (nI 0)) dX7_count_137 rfl 138 rfl ?_
        replace h := gd_elim h
        obtain ⟨g17, h⟩ := h
        refine z_iald hX (inb_vp g17) dX7_count_138 139 rfl ?_
        replace h := Option.some.inj h
        subst h
        exact z_iret hX dX7_count_139 rfl hk
      · replace h := br_neg h c16
        refine z_bipush hX (v := (-4)) dX7_count_128 (by decide) 130 rfl ?_
        refine z_goto hX 139 dX7_count_130 (by decide) ?_
        replace h := Option.some.inj h
        subst h
        exact z_iret hX dX7_count_139 rfl hk
    replace h := br_neg h c14
    by_cases c18 : v1 = (nI 4)
    · replace h := br_pos h c18
      refine z_tcase hX (off := 93) 140 dX7_count_47 (nI 4) c18 (by decide) (by decide) ?_
      refine z_aload_n hX dX7_count_140 0 rfl 141 rfl ?_
      replace h := cl_elim h
      obtain ⟨x20, s19, hx20, h⟩ := h
      refine z_cV7i hX (b := 189) (As := []) (c_X7_allLeft hx20) lk_X7_241 rfl kdc_189 ds_X7_allLeft rfl (by decide) (by decide) (by decide) dX7_count_141 rfl 144 rfl ?_
      replace h := Option.some.inj h
      subst h
      exact z_iret hX dX7_count_144 rfl hk
    replace h := br_neg h c18
    by_cases c21 : v1 = (nI 5)
    · replace h := br_pos h c21
      refine z_tcase hX (off := 98) 145 dX7_count_47 (nI 5) c21 (by decide) (by decide) ?_
      refine z_iload_n hX dX7_count_145 2 rfl 146 rfl ?_
      replace h := Option.some.inj h
      subst h
      exact z_iret hX dX7_count_146 rfl hk
    replace h := br_neg h c21
    replace h := gd_elim h
    obtain ⟨g22, h⟩ := h
    refine z_tdef hX 147 dX7_count_47 g22 (by decide) ?_
    refine z_iconst hX (v := (-1)) dX7_count_147 rfl 148 rfl ?_
    replace h := Option.some.inj h
    subst h
    exact z_iret hX dX7_count_148 rfl hk
  · replace h := br_neg h c3
    refine z_iload_n hX dX7_count_16 2 rfl 17 rfl ?_
    refine z_aload_n hX dX7_count_17 0 rfl 18 rfl ?_
    refine z_get7 hX (k := 189) (j := 0) (v := .ref (gL Γ (190))) kdc_189 (by decide) rfl dX7_count_18 fl_X7_7 21 rfl ?_
    refine z_bipush hX (v := (nI 38)) dX7_count_21 (by decide) 23 rfl ?_
    refine z_aload_n hX dX7_count_23 0 rfl 24 rfl ?_
    refine z_get7 hX (k := 189) (j := 0) (v := .ref (gL Γ (190))) kdc_189 (by decide) rfl dX7_count_24 fl_X7_7 27 rfl ?_
    refine z_bipush hX (v := (nI 12)) dX7_count_27 (by decide) 29 rfl ?_
    refine z_iconst hX (v := (nI 2)) dX7_count_29 rfl 30 rfl ?_
    refine z_iload_n hX dX7_count_30 3 rfl 31 rfl ?_
    refine z_imul hX dX7_count_31 32 rfl ?_
    refine z_iadd hX dX7_count_32 33 rfl ?_
    replace h := gd_elim h
    obtain ⟨g23, h⟩ := h
    refine z_iald hX (inb_vp g23) dX7_count_33 34 rfl ?_
    refine z_iconst hX (v := (nI 4)) dX7_count_34 rfl 35 rfl ?_
    refine z_irem hX dX7_count_35 (by decide) 36 rfl ?_
    refine z_iadd hX dX7_count_36 37 rfl ?_
    replace h := gd_elim h
    obtain ⟨g24, h⟩ := h
    refine z_iald hX (inb_vp g24) dX7_count_37 38 rfl ?_
    refine z_iadd hX dX7_count_38 39 rfl ?_
    replace h := bd_elim h
    obtain ⟨x25, ex25, h⟩ := h
    refine z_nm ex25 ?_
    refine z_istore_n hX (lv2 := [(2, .int x25), (0, .ref (gL Γ (189))), (1, .int v1), (3, .int v3)]) dX7_count_39 (by decide) rfl 40 rfl ?_
    refine z_iinc hX (v := (v3 + (nI 1))) (lv2 := [(3, .int ((v3 + (nI 1)))), (2, .int x25), (0, .ref (gL Γ (189))), (1, .int v1)]) dX7_count_40 3 rfl rfl (by decide) rfl 43 rfl ?_
    refine z_goto hX 8 dX7_count_43 (by decide) ?_
    replace h := Option.some.inj h
    subst h
    exact z_sub [2, 3, 1, 0] rfl hk
set_option maxHeartbeats 4000000 in
set_option maxRecDepth 100000 in
theorem e_X7_count {X : Cx} {Γ : Gm} {r0 : Rb} (hX : Amb X Γ cX7_count RX7 4 (some .int) 1) {a1 : Int32} {s : St} {t : Int32 × St} (h : f_X7_count a1 s = some t) (hk : (fun t : Int32 × St => Rt X Γ r0 (some (Value.int t.1), t.2)) t) : Zw X Γ 4 r0 s 0 [(0, .ref (gL Γ (189))), (1, .int a1)] [] := by
  unfold f_X7_count at h
  refine z_aload_n hX dX7_count_0 0 rfl 1 rfl ?_
  replace h := cl_elim h
  obtain ⟨x2, s1, hx2, h⟩ := h
  refine z_cV7v hX (b := 189) (As := []) (c_X7_starts hx2) lk_X7_188 rfl kdc_189 ds_X7_starts rfl (by decide) (by decide) (by decide) dX7_count_1 rfl 4 rfl ?_
  refine z_iconst hX (v := (nI 0)) dX7_count_4 rfl 5 rfl ?_
  refine z_istore_n hX (lv2 := [(2, .int ((nI 0))), (0, .ref (gL Γ (189))), (1, .int a1)]) dX7_count_5 (by decide) rfl 6 rfl ?_
  refine z_iconst hX (v := (nI 0)) dX7_count_6 rfl 7 rfl ?_
  refine z_istore_n hX (lv2 := [(3, .int ((nI 0))), (2, .int ((nI 0))), (0, .ref (gL Γ (189))), (1, .int a1)]) dX7_count_7 (by decide) rfl 8 rfl ?_
  exact z_sub [2, 3, 1, 0] rfl (lp_ok (Z := fun q : Int32 × Int32 × St => Zw X Γ 4 r0 q.2.2 8 [(0, .ref (gL Γ (189))), (1, .int a1), (2, .int q.1), (3, .int q.2.1)] []) (fun q t h hk => e_X7_count_L8 hX h hk) Fu _ _ h hk)
theorem c_X7_count {lc : Launch} {Γ : Gm} {a1 : Int32} {s s2 : St} {v : Int32} (h : f_X7_count a1 s = some (v, s2)) : Ct lc Γ yX7_count cX7_count 4 (some .int) 1 [.ref (gL Γ (189)), .int a1] s (some (.int v), s2) := Ct.of (by decide +kernel) (Nat.le_of_ble_eq_true rfl) (fun X hl hX => e_X7_count hX h rfl)

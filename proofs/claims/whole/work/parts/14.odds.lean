theorem ml_X1_70 : Cond.constantLong RX1 70 (lN 10) ∈ gt := gt_mem (tm3 (List.mem_of_getElem? (i := 151) rfl)) rfl
theorem fl_X1_31 : Cond.fieldLink RX1 31 (TX1 5).1 (TX1 5).2.1 (TX1 5).2.2.1 ∈ gt := gt_mem (tm1 (List.mem_of_getElem? (i := 178) rfl)) rfl
theorem ml_X1_83 : Cond.constantLong RX1 83 (lN 2) ∈ gt := gt_mem (tm3 (List.mem_of_getElem? (i := 166) rfl)) rfl
theorem fl_X1_35 : Cond.fieldLink RX1 35 (TX1 6).1 (TX1 6).2.1 (TX1 6).2.2.1 ∈ gt := gt_mem (tm1 (List.mem_of_getElem? (i := 180) rfl)) rfl
theorem ml_X1_85 : Cond.constantLong RX1 85 (lN 5) ∈ gt := gt_mem (tm3 (List.mem_of_getElem? (i := 167) rfl)) rfl
theorem fl_X1_11 : Cond.fieldLink RX1 11 (TX1 0).1 (TX1 0).2.1 (TX1 0).2.2.1 ∈ gt := gt_mem (tm1 (List.mem_of_getElem? (i := 173) rfl)) rfl
theorem ds_X2_copyOf : Ds yX2_copyOf 1 := ⟨by decide +kernel, by decide +kernel, by decide +kernel⟩
theorem lk_X1_39 : LkV RX1 39 yX2_copyOf cX2_copyOf 2 none := ⟨gt_mem (tm3 (List.mem_of_getElem? (i := 140) rfl)) rfl, gt_mem (tm2 (List.mem_of_getElem? (i := 162) rfl)) rfl, gt_mem (tm2 (List.mem_of_getElem? (i := 163) rfl)) rfl, gt_mem (tm1 (List.mem_of_getElem? (i := 2) rfl)) rfl, gt_mem (tm2 (List.mem_of_getElem? (i := 164) rfl)) rfl⟩
theorem lk_X1_76 : LkV RX1 76 yX2_carry cX2_carry 9 none := ⟨gt_mem (tm3 (List.mem_of_getElem? (i := 161) rfl)) rfl, gt_mem (tm3 (List.mem_of_getElem? (i := 53) rfl)) rfl, gt_mem (tm3 (List.mem_of_getElem? (i := 54) rfl)) rfl, gt_mem (tm1 (List.mem_of_getElem? (i := 2) rfl)) rfl, gt_mem (tm3 (List.mem_of_getElem? (i := 55) rfl)) rfl⟩
theorem fl_X1_80 : Cond.fieldLink RX1 80 (TX2 2).1 (TX2 2).2.1 (TX2 2).2.2.1 ∈ gt := gt_mem (tm1 (List.mem_of_getElem? (i := 37) rfl)) rfl
theorem ds_X1_weightBehind : Ds yX1_weightBehind 1 := ⟨by decide +kernel, by decide +kernel, by decide +kernel⟩
theorem lk_X1_43 : LkV RX1 43 yX1_weightBehind cX1_weightBehind 7 (some .long) := ⟨gt_mem (tm3 (List.mem_of_getElem? (i := 141) rfl)) rfl, gt_mem (tm3 (List.mem_of_getElem? (i := 143) rfl)) rfl, gt_sel (List.mem_of_getElem? (i := 6) rfl) rfl, gt_mem (tm1 (List.mem_of_getElem? (i := 5) rfl)) rfl, gt_mem (tm3 (List.mem_of_getElem? (i := 144) rfl)) rfl⟩
theorem lk_X1_67 : LkV RX1 67 yX2_wayNow cX2_wayNow 1 (some .int) := ⟨gt_mem (tm3 (List.mem_of_getElem? (i := 156) rfl)) rfl, gt_mem (tm3 (List.mem_of_getElem? (i := 34) rfl)) rfl, gt_mem (tm3 (List.mem_of_getElem? (i := 35) rfl)) rfl, gt_mem (tm1 (List.mem_of_getElem? (i := 2) rfl)) rfl, gt_mem (tm3 (List.mem_of_getElem? (i := 36) rfl)) rfl⟩
theorem fl_X1_17 : Cond.fieldLink RX1 17 (TX1 1).1 (TX1 1).2.1 (TX1 1).2.2.1 ∈ gt := gt_mem (tm1 (List.mem_of_getElem? (i := 174) rfl)) rfl
theorem ds_X1_weightBy : Ds yX1_weightBy 2 := ⟨by decide +kernel, by decide +kernel, by decide +kernel⟩
theorem lk_X1_72 : LkV RX1 72 yX1_weightBy cX1_weightBy 4 (some .long) := ⟨gt_mem (tm3 (List.mem_of_getElem? (i := 157) rfl)) rfl, gt_mem (tm3 (List.mem_of_getElem? (i := 159) rfl)) rfl, gt_sel (List.mem_of_getElem? (i := 8) rfl) rfl, gt_mem (tm1 (List.mem_of_getElem? (i := 5) rfl)) rfl, gt_mem (tm3 (List.mem_of_getElem? (i := 160) rfl)) rfl⟩
theorem fl_X1_21 : Cond.fieldLink RX1 21 (TX1 2).1 (TX1 2).2.1 (TX1 2).2.2.1 ∈ gt := gt_mem (tm1 (List.mem_of_getElem? (i := 175) rfl)) rfl
theorem lk_X1_53 : LkV RX1 53 yX2_heldBy cX2_heldBy 4 (some .int) := ⟨gt_mem (tm3 (List.mem_of_getElem? (i := 145) rfl)) rfl, gt_mem (tm2 (List.mem_of_getElem? (i := 185) rfl)) rfl, gt_mem (tm2 (List.mem_of_getElem? (i := 186) rfl)) rfl, gt_mem (tm1 (List.mem_of_getElem? (i := 2) rfl)) rfl, gt_mem (tm2 (List.mem_of_getElem? (i := 187) rfl)) rfl⟩
theorem lk_X1_57 : LkV RX1 57 yX2_tellAll cX2_tellAll 3 none := ⟨gt_mem (tm3 (List.mem_of_getElem? (i := 146) rfl)) rfl, gt_mem (tm3 (List.mem_of_getElem? (i := 42) rfl)) rfl, gt_mem (tm3 (List.mem_of_getElem? (i := 43) rfl)) rfl, gt_mem (tm1 (List.mem_of_getElem? (i := 2) rfl)) rfl, gt_mem (tm3 (List.mem_of_getElem? (i := 44) rfl)) rfl⟩
theorem lk_X1_60 : LkV RX1 60 yX2_takeAll cX2_takeAll 6 (some .int) := ⟨gt_mem (tm3 (List.mem_of_getElem? (i := 147) rfl)) rfl, gt_mem (tm3 (List.mem_of_getElem? (i := 49) rfl)) rfl, gt_mem (tm3 (List.mem_of_getElem? (i := 50) rfl)) rfl, gt_mem (tm1 (List.mem_of_getElem? (i := 2) rfl)) rfl, gt_mem (tm3 (List.mem_of_getElem? (i := 51) rfl)) rfl⟩
theorem fl_X1_27 : Cond.fieldLink RX1 27 (TX1 4).1 (TX1 4).2.1 (TX1 4).2.2.1 ∈ gt := gt_mem (tm1 (List.mem_of_getElem? (i := 177) rfl)) rfl
theorem fl_X1_24 : Cond.fieldLink RX1 24 (TX1 3).1 (TX1 3).2.1 (TX1 3).2.2.1 ∈ gt := gt_mem (tm1 (List.mem_of_getElem? (i := 176) rfl)) rfl
theorem ds_X1_tenTo : Ds yX1_tenTo 1 := ⟨by decide +kernel, by decide +kernel, by decide +kernel⟩
theorem lk_X1_47 : LkS RX1 47 yX1_tenTo cX1_tenTo 4 (some .long) := ⟨gt_mem (tm3 (List.mem_of_getElem? (i := 148) rfl)) rfl, gt_mem (tm3 (List.mem_of_getElem? (i := 149) rfl)) rfl, gt_mem (tm1 (List.mem_of_getElem? (i := 5) rfl)) rfl, gt_mem (tm3 (List.mem_of_getElem? (i := 150) rfl)) rfl⟩
theorem ds_X1_weightOfAirs : Ds yX1_weightOfAirs 1 := ⟨by decide +kernel, by decide +kernel, by decide +kernel⟩
theorem lk_X1_64 : LkV RX1 64 yX1_weightOfAirs cX1_weightOfAirs 5 (some .long) := ⟨gt_mem (tm3 (List.mem_of_getElem? (i := 152) rfl)) rfl, gt_mem (tm3 (List.mem_of_getElem? (i := 154) rfl)) rfl, gt_sel (List.mem_of_getElem? (i := 7) rfl) rfl, gt_mem (tm1 (List.mem_of_getElem? (i := 5) rfl)) rfl, gt_mem (tm3 (List.mem_of_getElem? (i := 155) rfl)) rfl⟩
theorem ds_X1_reduce : Ds yX1_reduce 0 := ⟨by decide +kernel, by decide +kernel, by decide +kernel⟩
theorem lk_X1_50 : LkV RX1 50 yX1_reduce cX1_reduce 2 none := ⟨gt_mem (tm3 (List.mem_of_getElem? (i := 162) rfl)) rfl, gt_mem (tm3 (List.mem_of_getElem? (i := 163) rfl)) rfl, gt_mem (tm3 (List.mem_of_getElem? (i := 164) rfl)) rfl, gt_mem (tm1 (List.mem_of_getElem? (i := 5) rfl)) rfl, gt_mem (tm3 (List.mem_of_getElem? (i := 165) rfl)) rfl⟩
theorem kdc_36 : kd 36 = 1 := by decide +kernel
theorem kdc_37 : kd 37 = 12 := by decide +kernel
theorem pwI_1_1 (Γ : Gm) (k : Nat) (f : Nat → Int32) (g : Nat → Int64) (x : Int32) : (flds Γ 1 k f g).set 1 (.int x) = flds Γ 1 k (upd f 1 x) g := by simp [flds, entK, upd]
theorem pwI_1_2 (Γ : Gm) (k : Nat) (f : Nat → Int32) (g : Nat → Int64) (x : Int32) : (flds Γ 1 k f g).set 2 (.int x) = flds Γ 1 k (upd f 2 x) g := by simp [flds, entK, upd]
theorem pwI_1_3 (Γ : Gm) (k : Nat) (f : Nat → Int32) (g : Nat → Int64) (x : Int32) : (flds Γ 1 k f g).set 3 (.int x) = flds Γ 1 k (upd f 3 x) g := by simp [flds, entK, upd]
theorem pwI_1_4 (Γ : Gm) (k : Nat) (f : Nat → Int32) (g : Nat → Int64) (x : Int32) : (flds Γ 1 k f g).set 4 (.int x) = flds Γ 1 k (upd f 4 x) g := by simp [flds, entK, upd]
theorem pwJ_1_5 (Γ : Gm) (k : Nat) (f : Nat → Int32) (g : Nat → Int64) (x : Int64) : (flds Γ 1 k f g).set 5 (.long x) = flds Γ 1 k f (vp_updL g 5 x) := by simp [flds, entK, vp_updL]
theorem pwJ_1_6 (Γ : Gm) (k : Nat) (f : Nat → Int32) (g : Nat → Int64) (x : Int64) : (flds Γ 1 k f g).set 6 (.long x) = flds Γ 1 k f (vp_updL g 6 x) := by simp [flds, entK, vp_updL]
theorem dX1_tenTo_0 : decode cX1_tenTo 0 = .ok (.lconst 1, 1) := by decide +kernel
theorem dX1_tenTo_1 : decode cX1_tenTo 1 = .ok (.lstore_n 1, 1) := by decide +kernel
theorem dX1_tenTo_2 : decode cX1_tenTo 2 = .ok (.iconst 0, 1) := by decide +kernel
theorem dX1_tenTo_3 : decode cX1_tenTo 3 = .ok (.istore_n 3, 1) := by decide +kernel
theorem dX1_tenTo_4 : decode cX1_tenTo 4 = .ok (.iload_n 3, 1) := by decide +kernel
theorem dX1_tenTo_5 : decode cX1_tenTo 5 = .ok (.iload_n 0, 1) := by decide +kernel
theorem dX1_tenTo_6 : decode cX1_tenTo 6 = .ok (.if_icmp .ge 15, 3) := by decide +kernel
theorem dX1_tenTo_9 : decode cX1_tenTo 9 = .ok (.lload_n 1, 1) := by decide +kernel
theorem dX1_tenTo_10 : decode cX1_tenTo 10 = .ok (.ldc2_w 70, 3) := by decide +kernel
theorem dX1_tenTo_13 : decode cX1_tenTo 13 = .ok (.lmul, 1) := by decide +kernel
theorem dX1_tenTo_14 : decode cX1_tenTo 14 = .ok (.lstore_n 1, 1) := by decide +kernel
theorem dX1_tenTo_15 : decode cX1_tenTo 15 = .ok (.iinc 3 1, 3) := by decide +kernel
theorem dX1_tenTo_18 : decode cX1_tenTo 18 = .ok (.goto (-14), 3) := by decide +kernel
theorem dX1_tenTo_21 : decode cX1_tenTo 21 = .ok (.lload_n 1, 1) := by decide +kernel
theorem dX1_tenTo_22 : decode cX1_tenTo 22 = .ok (.lreturn, 1) := by decide +kernel
def f_X1_tenTo_L4 (v0 : Int32) (v1 : Int64) (v3 : Int32) (s : St) : Option ((Int64 × Int32 × St) ⊕ (Int64 × St)) := if v0 ≤ v3 then (some (Sum.inr ((v1, s)))) else (bd (v1 * (lN 10)) (fun x2 => some (Sum.inl (x2, (v3 + (nI 1)), s))))
def f_X1_tenTo (a0 : Int32) (s : St) : Option (Int64 × St) := lp (fun q : Int64 × Int32 × St => f_X1_tenTo_L4 a0 q.1 q.2.1 q.2.2) Fu ((lN 1), (nI 0), s)
set_option maxHeartbeats 4000000 in
set_option maxRecDepth 100000 in
theorem e_X1_tenTo_L4 {X : Cx} {Γ : Gm} {r0 : Rb} (hX : Amb X Γ cX1_tenTo RX1 4 (some .long) 0) {v0 : Int32} {v1 : Int64} {v3 : Int32} {s : St} {t : (Int64 × Int32 × St) ⊕ (Int64 × St)} (h : f_X1_tenTo_L4 v0 v1 v3 s = some t) (hk : (Sum.elim (fun q : Int64 × Int32 × St => Zw X Γ 4 r0 q.2.2 4 [(0, .int v0), (1, .long q.1), (3, .int q.2.1)] []) (fun t : Int64 × St => Rt X Γ r0 (some (Value.long t.1), t.2))) t) : Zw X Γ 4 r0 s 4 [(0, .int v0), (1, .long v1), (3, .int v3)] [] := by
  unfold f_X1_tenTo_L4 at h
  refine z_iload_n hX dX1_tenTo_4 2 rfl 5 rfl ?_
  refine z_iload_n hX dX1_tenTo_5 0 rfl 6 rfl ?_
  refine z_icmp_ge hX 21 dX1_tenTo_6 (by decide) 9 rfl (fun c1 => ?_) (fun c1 => ?_)
  · replace h := br_pos h c1
    refine z_lload_n hX dX1_tenTo_21 1 rfl 22 rfl ?_
    replace h := Option.some.inj h
    subst h
    exact z_lret hX dX1_tenTo_22 rfl hk
  · replace h := br_neg h c1
    refine z_lload_n hX dX1_tenTo_9 1 rfl 10 rfl ?_
    refine z_ldc2 hX (v := (lN 10)) dX1_tenTo_10 ml_X1_70 13 rfl ?_
    refine z_lmul hX dX1_tenTo_13 14 rfl ?_
    replace h := bd_elim h
    obtain ⟨x2, ex2, h⟩ := h
    refine z_nmL ex2 ?_
    refine z_lstore_n hX (lv2 := [(1, .long x2), (0, .int v0), (3, .int v3)]) dX1_tenTo_14 (by decide) rfl 15 rfl ?_
    refine z_iinc hX (v := (v3 + (nI 1))) (lv2 := [(3, .int ((v3 + (nI 1)))), (1, .long x2), (0, .int v0)]) dX1_tenTo_15 2 rfl rfl (by decide) rfl 18 rfl ?_
    refine z_goto hX 4 dX1_tenTo_18 (by decide) ?_
    replace h := Option.some.inj h
    subst h
    exact z_sub [2, 1, 0] rfl hk
set_option maxHeartbeats 4000000 in
set_option maxRecDepth 100000 in
theorem e_X1_tenTo {X : Cx} {Γ : Gm} {r0 : Rb} (hX : Amb X Γ cX1_tenTo RX1 4 (some .long) 0) {a0 : Int32} {s : St} {t : Int64 × St} (h : f_X1_tenTo a0 s = some t) (hk : (fun t : Int64 × St => Rt X Γ r0 (some (Value.long t.1), t.2)) t) : Zw X Γ 4 r0 s 0 [(0, .int a0)] [] := by
  unfold f_X1_tenTo at h
  refine z_lconst hX (v := (lN 1)) dX1_tenTo_0 rfl 1 rfl ?_
  refine z_lstore_n hX (lv2 := [(1, .long ((lN 1))), (0, .int a0)]) dX1_tenTo_1 (by decide) rfl 2 rfl ?_
  refine z_iconst hX (v := (nI 0)) dX1_tenTo_2 rfl 3 rfl ?_
  refine z_istore_n hX (lv2 := [(3, .int ((nI 0))), (1, .long ((lN 1))), (0, .int a0)]) dX1_tenTo_3 (by decide) rfl 4 rfl ?_
  exact z_sub [2, 1, 0] rfl (lp_ok (Z := fun q : Int64 × Int32 × St => Zw X Γ 4 r0 q.2.2 4 [(0, .int a0), (1, .long q.1), (3, .int q.2.1)] []) (fun q t h hk => e_X1_tenTo_L4 hX h hk) Fu _ _ h hk)
theorem c_X1_tenTo {lc : Launch} {Γ : Gm} {a0 : Int32} {s s2 : St} {v : Int64} (h : f_X1_tenTo a0 s = some (v, s2)) : Ct lc Γ yX1_tenTo cX1_tenTo 4 (some .long) 0 [.int a0] s (some (.long v), s2) := Ct.of (by decide +kernel) (Nat.le_of_ble_eq_true rfl) (fun X hl hX => e_X1_tenTo hX h rfl)
theorem dX1_reduce_0 : decode cX1_reduce 0 = .ok (.iconst 0, 1) := by decide +kernel
theorem dX1_reduce_1 : decode cX1_reduce 1 = .ok (.istore_n 1, 1) := by decide +kernel
theorem dX1_reduce_2 : decode cX1_reduce 2 = .ok (.iload_n 1, 1) := by decide +kernel
theorem dX1_reduce_3 : decode cX1_reduce 3 = .ok (.bipush 8, 2) := by decide +kernel
theorem dX1_reduce_5 : decode cX1_reduce 5 = .ok (.if_icmp .ge 59, 3) := by decide +kernel
theorem dX1_reduce_8 : decode cX1_reduce 8 = .ok (.aload_n 0, 1) := by decide +kernel
theorem dX1_reduce_9 : decode cX1_reduce 9 = .ok (.getfield 31, 3) := by decide +kernel
theorem dX1_reduce_12 : decode cX1_reduce 12 = .ok (.ldc2_w 83, 3) := by decide +kernel
theorem dX1_reduce_15 : decode cX1_reduce 15 = .ok (.lrem, 1) := by decide +kernel
theorem dX1_reduce_16 : decode cX1_reduce 16 = .ok (.lconst 0, 1) := by decide +kernel
theorem dX1_reduce_17 : decode cX1_reduce 17 = .ok (.lcmp, 1) := by decide +kernel
theorem dX1_reduce_18 : decode cX1_reduce 18 = .ok (.ifCond .ne 46, 3) := by decide +kernel
theorem dX1_reduce_21 : decode cX1_reduce 21 = .ok (.aload_n 0, 1) := by decide +kernel
theorem dX1_reduce_22 : decode cX1_reduce 22 = .ok (.getfield 35, 3) := by decide +kernel
theorem dX1_reduce_25 : decode cX1_reduce 25 = .ok (.ldc2_w 83, 3) := by decide +kernel
theorem dX1_reduce_28 : decode cX1_reduce 28 = .ok (.lrem, 1) := by decide +kernel
theorem dX1_reduce_29 : decode cX1_reduce 29 = .ok (.lconst 0, 1) := by decide +kernel
theorem dX1_reduce_30 : decode cX1_reduce 30 = .ok (.lcmp, 1) := by decide +kernel
theorem dX1_reduce_31 : decode cX1_reduce 31 = .ok (.ifCond .ne 33, 3) := by decide +kernel
theorem dX1_reduce_34 : decode cX1_reduce 34 = .ok (.aload_n 0, 1) := by decide +kernel
theorem dX1_reduce_35 : decode cX1_reduce 35 = .ok (.dup, 1) := by decide +kernel
theorem dX1_reduce_36 : decode cX1_reduce 36 = .ok (.getfield 31, 3) := by decide +kernel
theorem dX1_reduce_39 : decode cX1_reduce 39 = .ok (.ldc2_w 83, 3) := by decide +kernel
theorem dX1_reduce_42 : decode cX1_reduce 42 = .ok (.ldiv, 1) := by decide +kernel
theorem dX1_reduce_43 : decode cX1_reduce 43 = .ok (.putfield 31, 3) := by decide +kernel
theorem dX1_reduce_46 : decode cX1_reduce 46 = .ok (.aload_n 0, 1) := by decide +kernel
theorem dX1_reduce_47 : decode cX1_reduce 47 = .ok (.dup, 1) := by decide +kernel
theorem dX1_reduce_48 : decode cX1_reduce 48 = .ok (.getfield 35, 3) := by decide +kernel
theorem dX1_reduce_51 : decode cX1_reduce 51 = .ok (.ldc2_w 83, 3) := by decide +kernel
theorem dX1_reduce_54 : decode cX1_reduce 54 = .ok (.ldiv, 1) := by decide +kernel
theorem dX1_reduce_55 : decode cX1_reduce 55 = .ok (.putfield 35, 3) := by decide +kernel
theorem dX1_reduce_58 : decode cX1_reduce 58 = .ok (.iinc 1 1, 3) := by decide +kernel
theorem dX1_reduce_61 : decode cX1_reduce 61 = .ok (.goto (-59), 3) := by decide +kernel
theorem dX1_reduce_64 : decode cX1_reduce 64 = .ok (.iconst 0, 1) := by decide +kernel
theorem dX1_reduce_65 : decode cX1_reduce 65 = .ok (.istore_n 1, 1) := by decide +kernel
theorem dX1_reduce_66 : decode cX1_reduce 66 = .ok (.iload_n 1, 1) := by decide +kernel
theorem dX1_reduce_67 : decode cX1_reduce 67 = .ok (.bipush 8, 2) := by decide +kernel
theorem dX1_reduce_69 : decode cX1_reduce 69 = .ok (.if_icmp .ge 59, 3) := by decide +kernel
theorem dX1_reduce_72 : decode cX1_reduce 72 = .ok (.aload_n 0, 1) := by decide +kernel
theorem dX1_reduce_73 : decode cX1_reduce 73 = .ok (.getfield 31, 3) := by decide +kernel
theorem dX1_reduce_76 : decode cX1_reduce 76 = .ok (.ldc2_w 85, 3) := by decide +kernel
theorem dX1_reduce_79 : decode cX1_reduce 79 = .ok (.lrem, 1) := by decide +kernel
theorem dX1_reduce_80 : decode cX1_reduce 80 = .ok (.lconst 0, 1) := by decide +kernel
theorem dX1_reduce_81 : decode cX1_reduce 81 = .ok (.lcmp, 1) := by decide +kernel
theorem dX1_reduce_82 : decode cX1_reduce 82 = .ok (.ifCond .ne 46, 3) := by decide +kernel
theorem dX1_reduce_85 : decode cX1_reduce 85 = .ok (.aload_n 0, 1) := by decide +kernel
theorem dX1_reduce_86 : decode cX1_reduce 86 = .ok (.getfield 35, 3) := by decide +kernel
theorem dX1_reduce_89 : decode cX1_reduce 89 = .ok (.ldc2_w 85, 3) := by decide +kernel
theorem dX1_reduce_92 : decode cX1_reduce 92 = .ok (.lrem, 1) := by decide +kernel
theorem dX1_reduce_93 : decode cX1_reduce 93 = .ok (.lconst 0, 1) := by decide +kernel
theorem dX1_reduce_94 : decode cX1_reduce 94 = .ok (.lcmp, 1) := by decide +kernel
theorem dX1_reduce_95 : decode cX1_reduce 95 = .ok (.ifCond .ne 33, 3) := by decide +kernel
theorem dX1_reduce_98 : decode cX1_reduce 98 = .ok (.aload_n 0, 1) := by decide +kernel
theorem dX1_reduce_99 : decode cX1_reduce 99 = .ok (.dup, 1) := by decide +kernel
theorem dX1_reduce_100 : decode cX1_reduce 100 = .ok (.getfield 31, 3) := by decide +kernel
theorem dX1_reduce_103 : decode cX1_reduce 103 = .ok (.ldc2_w 85, 3) := by decide +kernel
theorem dX1_reduce_106 : decode cX1_reduce 106 = .ok (.ldiv, 1) := by decide +kernel
theorem dX1_reduce_107 : decode cX1_reduce 107 = .ok (.putfield 31, 3) := by decide +kernel
theorem dX1_reduce_110 : decode cX1_reduce 110 = .ok (.aload_n 0, 1) := by decide +kernel
theorem dX1_reduce_111 : decode cX1_reduce 111 = .ok (.dup, 1) := by decide +kernel
theorem dX1_reduce_112 : decode cX1_reduce 112 = .ok (.getfield 35, 3) := by decide +kernel
theorem dX1_reduce_115 : decode cX1_reduce 115 = .ok (.ldc2_w 85, 3) := by decide +kernel
theorem dX1_reduce_118 : decode cX1_reduce 118 = .ok (.ldiv, 1) := by decide +kernel
theorem dX1_reduce_119 : decode cX1_reduce 119 = .ok (.putfield 35, 3) := by decide +kernel
theorem dX1_reduce_122 : decode cX1_reduce 122 = .ok (.iinc 1 1, 3) := by decide +kernel
theorem dX1_reduce_125 : decode cX1_reduce 125 = .ok (.goto (-59), 3) := by decide +kernel
theorem dX1_reduce_128 : decode cX1_reduce 128 = .ok (.return_, 1) := by decide +kernel
def f_X1_reduce_L66 (v1 : Int32) (s : St) : Option ((Int32 × St) ⊕ (Unit × St)) := if (nI 8) ≤ v1 then (some (Sum.inr (((), s)))) else (if ¬ (lg_cmp ((s.2 36 5) - (s.2 36 5) / (lN 5) * (lN 5)) (lN 0)) = 0 then (some (Sum.inr (((), s)))) else (if ¬ (lg_cmp ((s.2 36 6) - (s.2 36 6) / (lN 5) * (lN 5)) (lN 0)) = 0 then (some (Sum.inr (((), s)))) else (bd (wJ s 36 5 ((s.2 36 5) / (lN 5))) (fun s9 => bd (wJ s9 36 6 ((s9.2 36 6) / (lN 5))) (fun s10 => some (Sum.inl ((v1 + (nI 1)), s10)))))))
def f_X1_reduce_L2 (v1 : Int32) (s : St) : Option ((Int32 × St) ⊕ (Unit × St)) := if (nI 8) ≤ v1 then (ox (lp (fun q : Int32 × St => f_X1_reduce_L66 q.1 q.2) Fu ((nI 0), s))) else (if ¬ (lg_cmp ((s.2 36 5) - (s.2 36 5) / (lN 2) * (lN 2)) (lN 0)) = 0 then (ox (lp (fun q : Int32 × St => f_X1_reduce_L66 q.1 q.2) Fu ((nI 0), s))) else (if ¬ (lg_cmp ((s.2 36 6) - (s.2 36 6) / (lN 2) * (lN 2)) (lN 0)) = 0 then (ox (lp (fun q : Int32 × St => f_X1_reduce_L66 q.1 q.2) Fu ((nI 0), s))) else (bd (wJ s 36 5 ((s.2 36 5) / (lN 2))) (fun s4 => bd (wJ s4 36 6 ((s4.2 36 6) / (lN 2))) (fun s5 => some (Sum.inl ((v1 + (nI 1)), s5)))))))
def f_X1_reduce (s : St) : Option (Unit × St) := lp (fun q : Int32 × St => f_X1_reduce_L2 q.1 q.2) Fu ((nI 0), s)
set_option maxHeartbeats 4000000 in
set_option maxRecDepth 100000 in
theorem e_X1_reduce_L66 {X : Cx} {Γ : Gm} {r0 : Rb} (hX : Amb X Γ cX1_reduce RX1 2 none 0) {v1 : Int32} {s : St} {t : (Int32 × St) ⊕ (Unit × St)} (h : f_X1_reduce_L66 v1 s = some t) (hk : (Sum.elim (fun q : Int32 × St => Zw X Γ 2 r0 q.2 66 [(0, .ref (gL Γ (36))), (1, .int q.1)] []) (fun t : Unit × St => Rt X Γ r0 (none, t.2))) t) : Zw X Γ 2 r0 s 66 [(0, .ref (gL Γ (36))), (1, .int v1)] [] := by
  unfold f_X1_reduce_L66 at h
  refine z_iload_n hX dX1_reduce_66 1 rfl 67 rfl ?_
  refine z_bipush hX (v := (nI 8)) dX1_reduce_67 (by decide) 69 rfl ?_
  refine z_icmp_ge hX 128 dX1_reduce_69 (by decide) 72 rfl (fun c6 => ?_) (fun c6 => ?_)
  · replace h := br_pos h c6
    replace h := Option.some.inj h
    subst h
    exact z_vret hX dX1_reduce_128 rfl hk
  · replace h := br_neg h c6
    refine z_aload_n hX dX1_reduce_72 0 rfl 73 rfl ?_
    refine z_get1 hX (k := 36) (j := 5) (v := .long ((s.2 36 5))) kdc_36 (by decide) rfl dX1_reduce_73 fl_X1_31 76 rfl ?_
    refine z_ldc2 hX (v := (lN 5)) dX1_reduce_76 ml_X1_85 79 rfl ?_
    refine z_lrem hX dX1_reduce_79 (by decide) 80 rfl ?_
    refine z_lconst hX (v := (lN 0)) dX1_reduce_80 rfl 81 rfl ?_
    refine z_lcmp hX dX1_reduce_81 82 rfl ?_
    refine z_if_ne hX 128 dX1_reduce_82 (by decide) 85 rfl (fun c7 => ?_) (fun c7 => ?_)
    · replace h := br_pos h c7
      replace h := Option.some.inj h
      subst h
      exact z_vret hX dX1_reduce_128 rfl hk
    · replace h := br_neg h c7
      refine z_aload_n hX dX1_reduce_85 0 rfl 86 rfl ?_
      refine z_get1 hX (k := 36) (j := 6) (v := .long ((s.2 36 6))) kdc_36 (by decide) rfl dX1_reduce_86 fl_X1_35 89 rfl ?_
      refine z_ldc2 hX (v := (lN 5)) dX1_reduce_89 ml_X1_85 92 rfl ?_
      refine z_lrem hX dX1_reduce_92 (by decide) 93 rfl ?_
      refine z_lconst hX (v := (lN 0)) dX1_reduce_93 rfl 94 rfl ?_
      refine z_lcmp hX dX1_reduce_94 95 rfl ?_
      refine z_if_ne hX 128 dX1_reduce_95 (by decide) 98 rfl (fun c8 => ?_) (fun c8 => ?_)
      · replace h := br_pos h c8
        replace h := Option.some.inj h
        subst h
        exact z_vret hX dX1_reduce_128 rfl hk
      · replace h := br_neg h c8
        refine z_aload_n hX dX1_reduce_98 0 rfl 99 rfl ?_
        refine z_dup hX dX1_reduce_99 rfl 100 rfl ?_
        refine z_get1 hX (k := 36) (j := 5) (v := .long ((s.2 36 5))) kdc_36 (by decide) rfl dX1_reduce_100 fl_X1_31 103 rfl ?_
        refine z_ldc2 hX (v := (lN 5)) dX1_reduce_103 ml_X1_85 106 rfl ?_
        refine z_ldiv hX dX1_reduce_106 (by decide) 107 rfl ?_
        replace h := bd_elim h
        obtain ⟨s9, es9, h⟩ := h
        refine z_putJ1 hX (k := 36) (j := 5) kdc_36 (by decide) rfl (by decide +kernel) (pwJ_1_5 ..) dX1_reduce_107 fl_X1_31 es9 110 rfl ?_
        refine z_aload_n hX dX1_reduce_110 0 rfl 111 rfl ?_
        refine z_dup hX dX1_reduce_111 rfl 112 rfl ?_
        refine z_get1 hX (k := 36) (j := 6) (v := .long ((s9.2 36 6))) kdc_36 (by decide) rfl dX1_reduce_112 fl_X1_35 115 rfl ?_
        refine z_ldc2 hX (v := (lN 5)) dX1_reduce_115 ml_X1_85 118 rfl ?_
        refine z_ldiv hX dX1_reduce_118 (by decide) 119 rfl ?_
        replace h := bd_elim h
        obtain ⟨s10, es10, h⟩ := h
        refine z_putJ1 hX (k := 36) (j := 6) kdc_36 (by decide) rfl (by decide +kernel) (pwJ_1_6 ..) dX1_reduce_119 fl_X1_35 es10 122 rfl ?_
        refine z_iinc hX (v := (v1 + (nI 1))) (lv2 := [(1, .int ((v1 + (nI 1)))), (0, .ref (gL Γ (36)))]) dX1_reduce_122 1 rfl rfl (by decide) rfl 125 rfl ?_
        refine z_goto hX 66 dX1_reduce_125 (by decide) ?_
        replace h := Option.some.inj h
        subst h
        exact z_sub [1, 0] rfl hk
set_option maxHeartbeats 4000000 in
set_option maxRecDepth 100000 in
theorem e_X1_reduce_L2 {X : Cx} {Γ : Gm} {r0 : Rb} (hX : Amb X Γ cX1_reduce RX1 2 none 0) {v1 : Int32} {s : St} {t : (Int32 × St) ⊕ (Unit × St)} (h : f_X1_reduce_L2 v1 s = some t) (hk : (Sum.elim (fun q : Int32 × St => Zw X Γ 2 r0 q.2 2 [(0, .ref (gL Γ (36))), (1, .int q.1)] []) (fun t : Unit × St => Rt X Γ r0 (none, t.2))) t) : Zw X Γ 2 r0 s 2 [(0, .ref (gL Γ (36))), (1, .int v1)] [] := by
  unfold f_X1_reduce_L2 at h
  refine z_iload_n hX dX1_reduce_2 1 rfl 3 rfl ?_
  refine z_bipush hX (v := (nI 8)) dX1_reduce_3 (by decide) 5 rfl ?_
  refine z_icmp_ge hX 64 dX1_reduce_5 (by decide) 8 rfl (fun c1 => ?_) (fun c1 => ?_)
  · replace h := br_pos h c1
    refine z_iconst hX (v := (nI 0)) dX1_reduce_64 rfl 65 rfl ?_
    refine z_istore_n hX (lv2 := [(1, .int ((nI 0))), (0, .ref (gL Γ (36)))]) dX1_reduce_65 (by decide) rfl 66 rfl ?_
    replace h := ox_elim h
    obtain ⟨u, rfl, h⟩ := h
    exact z_sub [1, 0] rfl (lp_ok (Z := fun q : Int32 × St => Zw X Γ 2 r0 q.2 66 [(0, .ref (gL Γ (36))), (1, .int q.1)] []) (fun q t h hk => e_X1_reduce_L66 hX h hk) Fu _ _ h hk)
  · replace h := br_neg h c1
    refine z_aload_n hX dX1_reduce_8 0 rfl 9 rfl ?_
    refine z_get1 hX (k := 36) (j := 5) (v := .long ((s.2 36 5))) kdc_36 (by decide) rfl dX1_reduce_9 fl_X1_31 12 rfl ?_
    refine z_ldc2 hX (v := (lN 2)) dX1_reduce_12 ml_X1_83 15 rfl ?_
    refine z_lrem hX dX1_reduce_15 (by decide) 16 rfl ?_
    refine z_lconst hX (v := (lN 0)) dX1_reduce_16 rfl 17 rfl ?_
    refine z_lcmp hX dX1_reduce_17 18 rfl ?_
    refine z_if_ne hX 64 dX1_reduce_18 (by decide) 21 rfl (fun c2 => ?_) (fun c2 => ?_)
    · replace h := br_pos h c2
      refine z_iconst hX (v := (nI 0)) dX1_reduce_64 rfl 65 rfl ?_
      refine z_istore_n hX (lv2 := [(1, .int ((nI 0))), (0, .ref (gL Γ (36)))]) dX1_reduce_65 (by decide) rfl 66 rfl ?_
      replace h := ox_elim h
      obtain ⟨u, rfl, h⟩ := h
      exact z_sub [1, 0] rfl (lp_ok (Z := fun q : Int32 × St => Zw X Γ 2 r0 q.2 66 [(0, .ref (gL Γ (36))), (1, .int q.1)] []) (fun q t h hk => e_X1_reduce_L66 hX h hk) Fu _ _ h hk)
    · replace h := br_neg h c2
      refine z_aload_n hX dX1_reduce_21 0 rfl 22 rfl ?_
      refine z_get1 hX (k := 36) (j := 6) (v := .long ((s.2 36 6))) kdc_36 (by decide) rfl dX1_reduce_22 fl_X1_35 25 rfl ?_
      refine z_ldc2 hX (v := (lN 2)) dX1_reduce_25 ml_X1_83 28 rfl ?_
      refine z_lrem hX dX1_reduce_28 (by decide) 29 rfl ?_
      refine z_lconst hX (v := (lN 0)) dX1_reduce_29 rfl 30 rfl ?_
      refine z_lcmp hX dX1_reduce_30 31 rfl ?_
      refine z_if_ne hX 64 dX1_reduce_31 (by decide) 34 rfl (fun c3 => ?_) (fun c3 => ?_)
      · replace h := br_pos h c3
        refine z_iconst hX (v := (nI 0)) dX1_reduce_64 rfl 65 rfl ?_
        refine z_istore_n hX (lv2 := [(1, .int ((nI 0))), (0, .ref (gL Γ (36)))]) dX1_reduce_65 (by decide) rfl 66 rfl ?_
        replace h := ox_elim h
        obtain ⟨u, rfl, h⟩ := h
        exact z_sub [1, 0] rfl (lp_ok (Z := fun q : Int32 × St => Zw X Γ 2 r0 q.2 66 [(0, .ref (gL Γ (36))), (1, .int q.1)] []) (fun q t h hk => e_X1_reduce_L66 hX h hk) Fu _ _ h hk)
      · replace h := br_neg h c3
        refine z_aload_n hX dX1_reduce_34 0 rfl 35 rfl ?_
        refine z_dup hX dX1_reduce_35 rfl 36 rfl ?_
        refine z_get1 hX (k := 36) (j := 5) (v := .long ((s.2 36 5))) kdc_36 (by decide) rfl dX1_reduce_36 fl_X1_31 39 rfl ?_
        refine z_ldc2 hX (v := (lN 2)) dX1_reduce_39 ml_X1_83 42 rfl ?_
        refine z_ldiv hX dX1_reduce_42 (by decide) 43 rfl ?_
        replace h := bd_elim h
        obtain ⟨s4, es4, h⟩ := h
        refine z_putJ1 hX (k := 36) (j := 5) kdc_36 (by decide) rfl (by decide +kernel) (pwJ_1_5 ..) dX1_reduce_43 fl_X1_31 es4 46 rfl ?_
        refine z_aload_n hX dX1_reduce_46 0 rfl 47 rfl ?_
        refine z_dup hX dX1_reduce_47 rfl 48 rfl ?_
        refine z_get1 hX (k := 36) (j := 6) (v := .long ((s4.2 36 6))) kdc_36 (by decide) rfl dX1_reduce_48 fl_X1_35 51 rfl ?_
        refine z_ldc2 hX (v := (lN 2)) dX1_reduce_51 ml_X1_83 54 rfl ?_
        refine z_ldiv hX dX1_reduce_54 (by decide) 55 rfl ?_
        replace h := bd_elim h
        obtain ⟨s5, es5, h⟩ := h
        refine z_putJ1 hX (k := 36) (j := 6) kdc_36 (by decide) rfl (by decide +kernel) (pwJ_1_6 ..) dX1_reduce_55 fl_X1_35 es5 58 rfl ?_
        refine z_iinc hX (v := (v1 + (nI 1))) (lv2 := [(1, .int ((v1 + (nI 1)))), (0, .ref (gL Γ (36)))]) dX1_reduce_58 1 rfl rfl (by decide) rfl 61 rfl ?_
        refine z_goto hX 2 dX1_reduce_61 (by decide) ?_
        replace h := Option.some.inj h
        subst h
        exact z_sub [1, 0] rfl hk
set_option maxHeartbeats 4000000 in
set_option maxRecDepth 100000 in
theorem e_X1_reduce {X : Cx} {Γ : Gm} {r0 : Rb} (hX : Amb X Γ cX1_reduce RX1 2 none 0) {s : St} {t : Unit × St} (h : f_X1_reduce s = some t) (hk : (fun t : Unit × St => Rt X Γ r0 (none, t.2)) t) : Zw X Γ 2 r0 s 0 [(0, .ref (gL Γ (36)))] [] := by
  unfold f_X1_reduce at h
  refine z_iconst hX (v := (nI 0)) dX1_reduce_0 rfl 1 rfl ?_
  refine z_istore_n hX (lv2 := [(1, .int ((nI 0))), (0, .ref (gL Γ (36)))]) dX1_reduce_1 (by decide) rfl 2 rfl ?_
  exact z_sub [1, 0] rfl (lp_ok (Z := fun q : Int32 × St => Zw X Γ 2 r0 q.2 2 [(0, .ref (gL Γ (36))), (1, .int q.1)] []) (fun q t h hk => e_X1_reduce_L2 hX h hk) Fu _ _ h hk)
theorem c_X1_reduce {lc : Launch} {Γ : Gm} {s s2 : St} {v : Unit} (h : f_X1_reduce s = some (v, s2)) : Ct lc Γ yX1_reduce cX1_reduce 2 none 0 [.ref (gL Γ (36))] s (none, s2) := Ct.of (by decide +kernel) (Nat.le_of_ble_eq_true rfl) (fun X hl hX => e_X1_reduce hX h rfl)
theorem dX1_weightBy_0 : decode cX1_weightBy 0 = .ok (.iload_n 1, 1) := by decide +kernel
theorem dX1_weightBy_1 : decode cX1_weightBy 1 = .ok (.iconst 1, 1) := by decide +kernel
theorem dX1_weightBy_2 : decode cX1_weightBy 2 = .ok (.iadd, 1) := by decide +kernel
theorem dX1_weightBy_3 : decode cX1_weightBy 3 = .ok (.bipush 8, 2) := by decide +kernel
theorem dX1_weightBy_5 : decode cX1_weightBy 5 = .ok (.if_icmp .lt 5, 3) := by decide +kernel
theorem dX1_weightBy_8 : decode cX1_weightBy 8 = .ok (.lconst 0, 1) := by decide +kernel
theorem dX1_weightBy_9 : decode cX1_weightBy 9 = .ok (.lreturn, 1) := by decide +kernel
theorem dX1_weightBy_10 : decode cX1_weightBy 10 = .ok (.aload_n 0, 1) := by decide +kernel
theorem dX1_weightBy_11 : decode cX1_weightBy 11 = .ok (.getfield 11, 3) := by decide +kernel
theorem dX1_weightBy_14 : decode cX1_weightBy 14 = .ok (.iload_n 1, 1) := by decide +kernel
theorem dX1_weightBy_15 : decode cX1_weightBy 15 = .ok (.iconst 1, 1) := by decide +kernel
theorem dX1_weightBy_16 : decode cX1_weightBy 16 = .ok (.iadd, 1) := by decide +kernel
theorem dX1_weightBy_17 : decode cX1_weightBy 17 = .ok (.aaload, 1) := by decide +kernel
theorem dX1_weightBy_18 : decode cX1_weightBy 18 = .ok (.astore_n 3, 1) := by decide +kernel
theorem dX1_weightBy_19 : decode cX1_weightBy 19 = .ok (.aload_n 3, 1) := by decide +kernel
theorem dX1_weightBy_20 : decode cX1_weightBy 20 = .ok (.aload_n 0, 1) := by decide +kernel
theorem dX1_weightBy_21 : decode cX1_weightBy 21 = .ok (.getfield 11, 3) := by decide +kernel
theorem dX1_weightBy_24 : decode cX1_weightBy 24 = .ok (.iload_n 1, 1) := by decide +kernel
theorem dX1_weightBy_25 : decode cX1_weightBy 25 = .ok (.aaload, 1) := by decide +kernel
theorem dX1_weightBy_26 : decode cX1_weightBy 26 = .ok (.invokevirtual 39, 3) := by decide +kernel
theorem dX1_weightBy_29 : decode cX1_weightBy 29 = .ok (.aload_n 3, 1) := by decide +kernel
theorem dX1_weightBy_30 : decode cX1_weightBy 30 = .ok (.iload_n 2, 1) := by decide +kernel
theorem dX1_weightBy_31 : decode cX1_weightBy 31 = .ok (.invokevirtual 76, 3) := by decide +kernel
theorem dX1_weightBy_34 : decode cX1_weightBy 34 = .ok (.aload_n 3, 1) := by decide +kernel
theorem dX1_weightBy_35 : decode cX1_weightBy 35 = .ok (.dup, 1) := by decide +kernel
theorem dX1_weightBy_36 : decode cX1_weightBy 36 = .ok (.getfield 80, 3) := by decide +kernel
theorem dX1_weightBy_39 : decode cX1_weightBy 39 = .ok (.iconst 1, 1) := by decide +kernel
theorem dX1_weightBy_40 : decode cX1_weightBy 40 = .ok (.iadd, 1) := by decide +kernel
theorem dX1_weightBy_41 : decode cX1_weightBy 41 = .ok (.putfield 80, 3) := by decide +kernel
theorem dX1_weightBy_44 : decode cX1_weightBy 44 = .ok (.aload_n 0, 1) := by decide +kernel
theorem dX1_weightBy_45 : decode cX1_weightBy 45 = .ok (.iload_n 1, 1) := by decide +kernel
theorem dX1_weightBy_46 : decode cX1_weightBy 46 = .ok (.iconst 1, 1) := by decide +kernel
theorem dX1_weightBy_47 : decode cX1_weightBy 47 = .ok (.iadd, 1) := by decide +kernel
theorem dX1_weightBy_48 : decode cX1_weightBy 48 = .ok (.invokevirtual 43, 3) := by decide +kernel
theorem dX1_weightBy_51 : decode cX1_weightBy 51 = .ok (.lreturn, 1) := by decide +kernel
def f_X1_weightBy (rec : Int32 → St → Option (Int64 × St)) (a1 : Int32) (a2 : Int32) (s : St) : Option (Int64 × St) := if (a1 + (nI 1)) < (nI 8) then (if inb (a1 + (nI 1)) (ln 37) = true then bd (38 + 13 * ((a1 + (nI 1))).toNatClampNeg) (fun y3 => if inb a1 (ln 37) = true then bd (38 + 13 * (a1).toNatClampNeg) (fun y5 => if kd (y3) = 2 then cl (f_X2_copyOf y3 y5 s) (fun x7 s6 => cl (f_X2_carry y3 a2 s6) (fun x10 s9 => bd (wI s9 y3 2 ((s9.1 y3 2) + (nI 1))) (fun s11 => cl (rec (a1 + (nI 1)) s11) (fun x13 s12 => some ((x13, s12)))))) else none) else none) else none) else (some (((lN 0), s)))
set_option maxHeartbeats 4000000 in
set_option maxRecDepth 100000 in
theorem e_X1_weightBy {X : Cx} {Γ : Gm} {r0 : Rb} {rec : Int32 → St → Option (Int64 × St)} {dd : Nat} (hrec : ∀ (k : Int32) (s s2 : St) (v : Int64), rec k s = some (v, s2) → Ct (xl X) Γ yX1_weightBehind cX1_weightBehind 7 (some .long) dd [.ref (gL Γ (36)), .int k] s (some (.long v), s2)) (hX : Amb X Γ cX1_weightBy RX1 4 (some .long) (dd + 20)) {a1 : Int32} {a2 : Int32} {s : St} {t : Int64 × St} (h : f_X1_weightBy rec a1 a2 s = some t) (hk : (fun t : Int64 × St => Rt X Γ r0 (some (Value.long t.1), t.2)) t) : Zw X Γ 4 r0 s 0 [(0, .ref (gL Γ (36))), (1, .int a1), (2, .int a2)] [] := by
  unfold f_X1_weightBy at h
  refine z_iload_n hX dX1_weightBy_0 1 rfl 1 rfl ?_
  refine z_iconst hX (v := (nI 1)) dX1_weightBy_1 rfl 2 rfl ?_
  refine z_iadd hX dX1_weightBy_2 3 rfl ?_
  refine z_bipush hX (v := (nI 8)) dX1_weightBy_3 (by decide) 5 rfl ?_
  refine z_icmp_lt hX 10 dX1_weightBy_5 (by decide) 8 rfl (fun c1 => ?_) (fun c1 => ?_)
  · replace h := br_pos h c1
    refine z_aload_n hX dX1_weightBy_10 0 rfl 11 rfl ?_
    refine z_get1 hX (k := 36) (j := 0) (v := .ref (gL Γ (37))) kdc_36 (by decide) rfl dX1_weightBy_11 fl_X1_11 14 rfl ?_
    refine z_iload_n hX dX1_weightBy_14 1 rfl 15 rfl ?_
    refine z_iconst hX (v := (nI 1)) dX1_weightBy_15 rfl 16 rfl ?_
    refine z_iadd hX dX1_weightBy_16 17 rfl ?_
    replace h := gd_elim h
    obtain ⟨g2, h⟩ := h
    refine z_aald12 hX kdc_37 (inb_vp g2) dX1_weightBy_17 18 rfl ?_
    replace h := bd_elim h
    obtain ⟨y3, ey3, h⟩ := h
    refine z_nmR ey3 ?_
    refine z_astore_n hX (lv2 := [(3, .ref (gL Γ (y3))), (0, .ref (gL Γ (36))), (1, .int a1), (2, .int a2)]) dX1_weightBy_18 (by decide) rfl 19 rfl ?_
    refine z_aload_n hX dX1_weightBy_19 0 rfl 20 rfl ?_
    refine z_aload_n hX dX1_weightBy_20 1 rfl 21 rfl ?_
    refine z_get1 hX (k := 36) (j := 0) (v := .ref (gL Γ (37))) kdc_36 (by decide) rfl dX1_weightBy_21 fl_X1_11 24 rfl ?_
    refine z_iload_n hX dX1_weightBy_24 2 rfl 25 rfl ?_
    replace h := gd_elim h
    obtain ⟨g4, h⟩ := h
    refine z_aald12 hX kdc_37 (inb_vp g4) dX1_weightBy_25 26 rfl ?_
    replace h := bd_elim h
    obtain ⟨y5, ey5, h⟩ := h
    refine z_nmR ey5 ?_
    replace h := gd_elim h
    obtain ⟨g8, h⟩ := h
    replace h := cl_elim h
    obtain ⟨x7, s6, hx7, h⟩ := h
    refine z_cV2v hX (b := y3) (As := [.ref (gL Γ (y5))]) (c_X2_copyOf hx7) lk_X1_39 rfl g8 ds_X2_copyOf rfl (by omega) (by decide) (by decide) dX1_weightBy_26 rfl 29 rfl ?_
    refine z_aload_n hX dX1_weightBy_29 0 rfl 30 rfl ?_
    refine z_iload_n hX dX1_weightBy_30 3 rfl 31 rfl ?_
    replace h := cl_elim h
    obtain ⟨x10, s9, hx10, h⟩ := h
    refine z_cV2v hX (b := y3) (As := [.int a2]) (c_X2_carry hx10) lk_X1_76 rfl g8 ds_X2_carry rfl (by omega) (by decide) (by decide) dX1_weightBy_31 rfl 34 rfl ?_
    refine z_aload_n hX dX1_weightBy_34 0 rfl 35 rfl ?_
    refine z_dup hX dX1_weightBy_35 rfl 36 rfl ?_
    refine z_get2 hX (k := y3) (j := 2) (v := .int ((s9.1 y3 2))) g8 (by decide) rfl dX1_weightBy_36 fl_X1_80 39 rfl ?_
    refine z_iconst hX (v := (nI 1)) dX1_weightBy_39 rfl 40 rfl ?_
    refine z_iadd hX dX1_weightBy_40 41 rfl ?_
    replace h := bd_elim h
    obtain ⟨s11, es11, h⟩ := h
    refine z_putI2 hX (k := y3) (j := 2) g8 (by decide) rfl (by decide +kernel) (pwI_2_2 ..) dX1_weightBy_41 fl_X1_80 es11 44 rfl ?_
    refine z_aload_n hX dX1_weightBy_44 1 rfl 45 rfl ?_
    refine z_iload_n hX dX1_weightBy_45 2 rfl 46 rfl ?_
    refine z_iconst hX (v := (nI 1)) dX1_weightBy_46 rfl 47 rfl ?_
    refine z_iadd hX dX1_weightBy_47 48 rfl ?_
    replace h := cl_elim h
    obtain ⟨x13, s12, hx13, h⟩ := h
    refine z_cV1l hX (b := 36) (As := [.int ((a1 + (nI 1)))]) (hrec _ _ _ _ hx13) lk_X1_43 rfl kdc_36 ds_X1_weightBehind rfl (by omega) (by decide) (by decide) dX1_weightBy_48 rfl 51 rfl ?_
    replace h := Option.some.inj h
    subst h
    exact z_lret hX dX1_weightBy_51 rfl hk
  · replace h := br_neg h c1
    refine z_lconst hX (v := (lN 0)) dX1_weightBy_8 rfl 9 rfl ?_
    replace h := Option.some.inj h
    subst h
    exact z_lret hX dX1_weightBy_9 rfl hk
theorem c_X1_weightBy {lc : Launch} {Γ : Gm} {rec : Int32 → St → Option (Int64 × St)} {dd : Nat} (hrec : ∀ (k : Int32) (s s2 : St) (v : Int64), rec k s = some (v, s2) → Ct lc Γ yX1_weightBehind cX1_weightBehind 7 (some .long) dd [.ref (gL Γ (36)), .int k] s (some (.long v), s2)) {a1 : Int32} {a2 : Int32} {s s2 : St} {v : Int64} (h : f_X1_weightBy rec a1 a2 s = some (v, s2)) : Ct lc Γ yX1_weightBy cX1_weightBy 4 (some .long) (dd + 20) [.ref (gL Γ (36)), .int a1, .int a2] s (some (.long v), s2) := Ct.of (by decide +kernel) (Nat.le_of_ble_eq_true rfl) (fun X hl hX => by subst hl; exact e_X1_weightBy hrec hX h rfl)
theorem dX1_weightOfAirs_0 : decode cX1_weightOfAirs 0 = .ok (.aload_n 0, 1) := by decide +kernel
theorem dX1_weightOfAirs_1 : decode cX1_weightOfAirs 1 = .ok (.getfield 11, 3) := by decide +kernel
theorem dX1_weightOfAirs_4 : decode cX1_weightOfAirs 4 = .ok (.iload_n 1, 1) := by decide +kernel
theorem dX1_weightOfAirs_5 : decode cX1_weightOfAirs 5 = .ok (.aaload, 1) := by decide +kernel
theorem dX1_weightOfAirs_6 : decode cX1_weightOfAirs 6 = .ok (.invokevirtual 67, 3) := by decide +kernel
theorem dX1_weightOfAirs_9 : decode cX1_weightOfAirs 9 = .ok (.istore_n 2, 1) := by decide +kernel
theorem dX1_weightOfAirs_10 : decode cX1_weightOfAirs 10 = .ok (.iload_n 2, 1) := by decide +kernel
theorem dX1_weightOfAirs_11 : decode cX1_weightOfAirs 11 = .ok (.ifCond .ne 14, 3) := by decide +kernel
theorem dX1_weightOfAirs_14 : decode cX1_weightOfAirs 14 = .ok (.ldc2_w 70, 3) := by decide +kernel
theorem dX1_weightOfAirs_17 : decode cX1_weightOfAirs 17 = .ok (.aload_n 0, 1) := by decide +kernel
theorem dX1_weightOfAirs_18 : decode cX1_weightOfAirs 18 = .ok (.iload_n 1, 1) := by decide +kernel
theorem dX1_weightOfAirs_19 : decode cX1_weightOfAirs 19 = .ok (.iconst 0, 1) := by decide +kernel
theorem dX1_weightOfAirs_20 : decode cX1_weightOfAirs 20 = .ok (.invokevirtual 72, 3) := by decide +kernel
theorem dX1_weightOfAirs_23 : decode cX1_weightOfAirs 23 = .ok (.lmul, 1) := by decide +kernel
theorem dX1_weightOfAirs_24 : decode cX1_weightOfAirs 24 = .ok (.lreturn, 1) := by decide +kernel
theorem dX1_weightOfAirs_25 : decode cX1_weightOfAirs 25 = .ok (.lconst 0, 1) := by decide +kernel
theorem dX1_weightOfAirs_26 : decode cX1_weightOfAirs 26 = .ok (.lstore_n 3, 1) := by decide +kernel
theorem dX1_weightOfAirs_27 : decode cX1_weightOfAirs 27 = .ok (.aload_n 0, 1) := by decide +kernel
theorem dX1_weightOfAirs_28 : decode cX1_weightOfAirs 28 = .ok (.getfield 17, 3) := by decide +kernel
theorem dX1_weightOfAirs_31 : decode cX1_weightOfAirs 31 = .ok (.ifCond .le 18, 3) := by decide +kernel
theorem dX1_weightOfAirs_34 : decode cX1_weightOfAirs 34 = .ok (.lload_n 3, 1) := by decide +kernel
theorem dX1_weightOfAirs_35 : decode cX1_weightOfAirs 35 = .ok (.aload_n 0, 1) := by decide +kernel
theorem dX1_weightOfAirs_36 : decode cX1_weightOfAirs 36 = .ok (.getfield 17, 3) := by decide +kernel
theorem dX1_weightOfAirs_39 : decode cX1_weightOfAirs 39 = .ok (.i2l, 1) := by decide +kernel
theorem dX1_weightOfAirs_40 : decode cX1_weightOfAirs 40 = .ok (.aload_n 0, 1) := by decide +kernel
theorem dX1_weightOfAirs_41 : decode cX1_weightOfAirs 41 = .ok (.iload_n 1, 1) := by decide +kernel
theorem dX1_weightOfAirs_42 : decode cX1_weightOfAirs 42 = .ok (.iconst 0, 1) := by decide +kernel
theorem dX1_weightOfAirs_43 : decode cX1_weightOfAirs 43 = .ok (.invokevirtual 72, 3) := by decide +kernel
theorem dX1_weightOfAirs_46 : decode cX1_weightOfAirs 46 = .ok (.lmul, 1) := by decide +kernel
theorem dX1_weightOfAirs_47 : decode cX1_weightOfAirs 47 = .ok (.ladd, 1) := by decide +kernel
theorem dX1_weightOfAirs_48 : decode cX1_weightOfAirs 48 = .ok (.lstore_n 3, 1) := by decide +kernel
theorem dX1_weightOfAirs_49 : decode cX1_weightOfAirs 49 = .ok (.aload_n 0, 1) := by decide +kernel
theorem dX1_weightOfAirs_50 : decode cX1_weightOfAirs 50 = .ok (.getfield 17, 3) := by decide +kernel
theorem dX1_weightOfAirs_53 : decode cX1_weightOfAirs 53 = .ok (.bipush 10, 2) := by decide +kernel
theorem dX1_weightOfAirs_55 : decode cX1_weightOfAirs 55 = .ok (.if_icmp .ge 21, 3) := by decide +kernel
theorem dX1_weightOfAirs_58 : decode cX1_weightOfAirs 58 = .ok (.lload_n 3, 1) := by decide +kernel
theorem dX1_weightOfAirs_59 : decode cX1_weightOfAirs 59 = .ok (.bipush 10, 2) := by decide +kernel
theorem dX1_weightOfAirs_61 : decode cX1_weightOfAirs 61 = .ok (.aload_n 0, 1) := by decide +kernel
theorem dX1_weightOfAirs_62 : decode cX1_weightOfAirs 62 = .ok (.getfield 17, 3) := by decide +kernel
theorem dX1_weightOfAirs_65 : decode cX1_weightOfAirs 65 = .ok (.isub, 1) := by decide +kernel
theorem dX1_weightOfAirs_66 : decode cX1_weightOfAirs 66 = .ok (.i2l, 1) := by decide +kernel
theorem dX1_weightOfAirs_67 : decode cX1_weightOfAirs 67 = .ok (.aload_n 0, 1) := by decide +kernel
theorem dX1_weightOfAirs_68 : decode cX1_weightOfAirs 68 = .ok (.iload_n 1, 1) := by decide +kernel
theorem dX1_weightOfAirs_69 : decode cX1_weightOfAirs 69 = .ok (.iload_n 2, 1) := by decide +kernel
theorem dX1_weightOfAirs_70 : decode cX1_weightOfAirs 70 = .ok (.invokevirtual 72, 3) := by decide +kernel
theorem dX1_weightOfAirs_73 : decode cX1_weightOfAirs 73 = .ok (.lmul, 1) := by decide +kernel
theorem dX1_weightOfAirs_74 : decode cX1_weightOfAirs 74 = .ok (.ladd, 1) := by decide +kernel
theorem dX1_weightOfAirs_75 : decode cX1_weightOfAirs 75 = .ok (.lstore_n 3, 1) := by decide +kernel
theorem dX1_weightOfAirs_76 : decode cX1_weightOfAirs 76 = .ok (.lload_n 3, 1) := by decide +kernel
theorem dX1_weightOfAirs_77 : decode cX1_weightOfAirs 77 = .ok (.lreturn, 1) := by decide +kernel
def f_X1_weightOfAirs_J49 (rec : Int32 → St → Option (Int64 × St)) (v1 : Int32) (v2 : Int32) (v3 : Int64) (s : St) : Option (Int64 × St) := if (nI 10) ≤ (s.1 36 1) then (some ((v3, s))) else (cl (f_X1_weightBy rec v1 v2 s) (fun x15 s14 => bd (v3 + ((((nI 10) - (s.1 36 1))).toInt64 * x15)) (fun x16 => some ((x16, s14)))))
def f_X1_weightOfAirs (rec : Int32 → St → Option (Int64 × St)) (a1 : Int32) (s : St) : Option (Int64 × St) := if inb a1 (ln 37) = true then bd (38 + 13 * (a1).toNatClampNeg) (fun y2 => if kd (y2) = 2 then cl (f_X2_wayNow y2 s) (fun x4 s3 => if ¬ x4 = 0 then (if (s3.1 36 1) ≤ 0 then (f_X1_weightOfAirs_J49 rec a1 x4 (lN 0) s3) else (cl (f_X1_weightBy rec a1 (nI 0) s3) (fun x9 s8 => bd ((lN 0) + (((s3.1 36 1)).toInt64 * x9)) (fun x10 => f_X1_weightOfAirs_J49 rec a1 x4 x10 s8)))) else (cl (f_X1_weightBy rec a1 (nI 0) s3) (fun x12 s11 => some ((((lN 10) * x12), s11))))) else none) else none
set_option maxHeartbeats 4000000 in
set_option maxRecDepth 100000 in
theorem e_X1_weightOfAirs_J49 {X : Cx} {Γ : Gm} {r0 : Rb} {rec : Int32 → St → Option (Int64 × St)} {dd : Nat} (hrec : ∀ (k : Int32) (s s2 : St) (v : Int64), rec k s = some (v, s2) → Ct (xl X) Γ yX1_weightBehind cX1_weightBehind 7 (some .long) dd [.ref (gL Γ (36)), .int k] s (some (.long v), s2)) (hX : Amb X Γ cX1_weightOfAirs RX1 5 (some .long) (dd + 21)) {v1 : Int32} {v2 : Int32} {v3 : Int64} {s : St} {t : Int64 × St} (h : f_X1_weightOfAirs_J49 rec v1 v2 v3 s = some t) (hk : (fun t : Int64 × St => Rt X Γ r0 (some (Value.long t.1), t.2)) t) : Zw X Γ 5 r0 s 49 [(0, .ref (gL Γ (36))), (1, .int v1), (2, .int v2), (3, .long v3)] [] := by
  unfold f_X1_weightOfAirs_J49 at h
  refine z_aload_n hX dX1_weightOfAirs_49 0 rfl 50 rfl ?_
  refine z_get1 hX (k := 36) (j := 1) (v := .int ((s.1 36 1))) kdc_36 (by decide) rfl dX1_weightOfAirs_50 fl_X1_17 53 rfl ?_
  refine z_bipush hX (v := (nI 10)) dX1_weightOfAirs_53 (by decide) 55 rfl ?_
  refine z_icmp_ge hX 76 dX1_weightOfAirs_55 (by decide) 58 rfl (fun c13 => ?_) (fun c13 => ?_)
  · replace h := br_pos h c13
    refine z_lload_n hX dX1_weightOfAirs_76 3 rfl 77 rfl ?_
    replace h := Option.some.inj h
    subst h
    exact z_lret hX dX1_weightOfAirs_77 rfl hk
  · replace h := br_neg h c13
    refine z_lload_n hX dX1_weightOfAirs_58 3 rfl 59 rfl ?_
    refine z_bipush hX (v := (nI 10)) dX1_weightOfAirs_59 (by decide) 61 rfl ?_
    refine z_aload_n hX dX1_weightOfAirs_61 0 rfl 62 rfl ?_
    refine z_get1 hX (k := 36) (j := 1) (v := .int ((s.1 36 1))) kdc_36 (by decide) rfl dX1_weightOfAirs_62 fl_X1_17 65 rfl ?_
    refine z_isub hX dX1_weightOfAirs_65 66 rfl ?_
    refine z_i2l hX dX1_weightOfAirs_66 67 rfl ?_
    refine z_aload_n hX dX1_weightOfAirs_67 0 rfl 68 rfl ?_
    refine z_iload_n hX dX1_weightOfAirs_68 1 rfl 69 rfl ?_
    refine z_iload_n hX dX1_weightOfAirs_69 2 rfl 70 rfl ?_
    replace h := cl_elim h
    obtain ⟨x15, s14, hx15, h⟩ := h
    refine z_cV1l hX (b := 36) (As := [.int v1, .int v2]) (c_X1_weightBy hrec hx15) lk_X1_72 rfl kdc_36 ds_X1_weightBy rfl (by omega) (by decide) (Nat.le_of_ble_eq_true rfl) dX1_weightOfAirs_70 rfl 73 rfl ?_
    refine z_lmul hX dX1_weightOfAirs_73 74 rfl ?_
    refine z_ladd hX dX1_weightOfAirs_74 75 rfl ?_
    replace h := bd_elim h
    obtain ⟨x16, ex16, h⟩ := h
    refine z_nmL ex16 ?_
    refine z_lstore_n hX (lv2 := [(3, .long x16), (0, .ref (gL Γ (36))), (1, .int v1), (2, .int v2)]) dX1_weightOfAirs_75 (by decide) rfl 76 rfl ?_
    refine z_lload_n hX dX1_weightOfAirs_76 0 rfl 77 rfl ?_
    replace h := Option.some.inj h
    subst h
    exact z_lret hX dX1_weightOfAirs_77 rfl hk
set_option maxHeartbeats 4000000 in
set_option maxRecDepth 100000 in
theorem e_X1_weightOfAirs {X : Cx} {Γ : Gm} {r0 : Rb} {rec : Int32 → St → Option (Int64 × St)} {dd : Nat} (hrec : ∀ (k : Int32) (s s2 : St) (v : Int64), rec k s = some (v, s2) → Ct (xl X) Γ yX1_weightBehind cX1_weightBehind 7 (some .long) dd [.ref (gL Γ (36)), .int k] s (some (.long v), s2)) (hX : Amb X Γ cX1_weightOfAirs RX1 5 (some .long) (dd + 21)) {a1 : Int32} {s : St} {t : Int64 × St} (h : f_X1_weightOfAirs rec a1 s = some t) (hk : (fun t : Int64 × St => Rt X Γ r0 (some (Value.long t.1), t.2)) t) : Zw X Γ 5 r0 s 0 [(0, .ref (gL Γ (36))), (1, .int a1)] [] := by
  unfold f_X1_weightOfAirs at h
  refine z_aload_n hX dX1_weightOfAirs_0 0 rfl 1 rfl ?_
  refine z_get1 hX (k := 36) (j := 0) (v := .ref (gL Γ (37))) kdc_36 (by decide) rfl dX1_weightOfAirs_1 fl_X1_11 4 rfl ?_
  refine z_iload_n hX dX1_weightOfAirs_4 1 rfl 5 rfl ?_
  replace h := gd_elim h
  obtain ⟨g1, h⟩ := h
  refine z_aald12 hX kdc_37 (inb_vp g1) dX1_weightOfAirs_5 6 rfl ?_
  replace h := bd_elim h
  obtain ⟨y2, ey2, h⟩ := h
  refine z_nmR ey2 ?_
  replace h := gd_elim h
  obtain ⟨g5, h⟩ := h
  replace h := cl_elim h
  obtain ⟨x4, s3, hx4, h⟩ := h
  refine z_cV2i hX (b := y2) (As := []) (c_X2_wayNow hx4) lk_X1_67 rfl g5 ds_X2_wayNow rfl (by omega) (by decide) (by decide) dX1_weightOfAirs_6 rfl 9 rfl ?_
  refine z_istore_n hX (lv2 := [(2, .int x4), (0, .ref (gL Γ (36))), (1, .int a1)]) dX1_weightOfAirs_9 (by decide) rfl 10 rfl ?_
  refine z_iload_n hX dX1_weightOfAirs_10 0 rfl 11 rfl ?_
  refine z_if_ne hX 25 dX1_weightOfAirs_11 (by decide) 14 rfl (fun c6 => ?_) (fun c6 => ?_)
  · replace h := br_pos h c6
    refine z_lconst hX (v := (lN 0)) dX1_weightOfAirs_25 rfl 26 rfl ?_
    refine z_lstore_n hX (lv2 := [(3, .long ((lN 0))), (2, .int x4), (0, .ref (gL Γ (36))), (1, .int a1)]) dX1_weightOfAirs_26 (by decide) rfl 27 rfl ?_
    refine z_aload_n hX dX1_weightOfAirs_27 2 rfl 28 rfl ?_
    refine z_get1 hX (k := 36) (j := 1) (v := .int ((s3.1 36 1))) kdc_36 (by decide) rfl dX1_weightOfAirs_28 fl_X1_17 31 rfl ?_
    refine z_if_le hX 49 dX1_weightOfAirs_31 (by decide) 34 rfl (fun c7 => ?_) (fun c7 => ?_)
    · replace h := br_pos h c7
      exact z_sub [2, 3, 1, 0] rfl (e_X1_weightOfAirs_J49 hrec hX h hk)
    · replace h := br_neg h c7
      refine z_lload_n hX dX1_weightOfAirs_34 0 rfl 35 rfl ?_
      refine z_aload_n hX dX1_weightOfAirs_35 2 rfl 36 rfl ?_
      refine z_get1 hX (k := 36) (j := 1) (v := .int ((s3.1 36 1))) kdc_36 (by decide) rfl dX1_weightOfAirs_36 fl_X1_17 39 rfl ?_
      refine z_i2l hX dX1_weightOfAirs_39 40 rfl ?_
      refine z_aload_n hX dX1_weightOfAirs_40 2 rfl 41 rfl ?_
      refine z_iload_n hX dX1_weightOfAirs_41 3 rfl 42 rfl ?_
      refine z_iconst hX (v := (nI 0)) dX1_weightOfAirs_42 rfl 43 rfl ?_
      replace h := cl_elim h
      obtain ⟨x9, s8, hx9, h⟩ := h
      refine z_cV1l hX (b := 36) (As := [.int a1, .int ((nI 0))]) (c_X1_weightBy hrec hx9) lk_X1_72 rfl kdc_36 ds_X1_weightBy rfl (by omega) (by decide) (Nat.le_of_ble_eq_true rfl) dX1_weightOfAirs_43 rfl 46 rfl ?_
      refine z_lmul hX dX1_weightOfAirs_46 47 rfl ?_
      refine z_ladd hX dX1_weightOfAirs_47 48 rfl ?_
      replace h := bd_elim h
      obtain ⟨x10, ex10, h⟩ := h
      refine z_nmL ex10 ?_
      refine z_lstore_n hX (lv2 := [(3, .long x10), (2, .int x4), (0, .ref (gL Γ (36))), (1, .int a1)]) dX1_weightOfAirs_48 (by decide) rfl 49 rfl ?_
      exact z_sub [2, 3, 1, 0] rfl (e_X1_weightOfAirs_J49 hrec hX h hk)
  · replace h := br_neg h c6
    refine z_ldc2 hX (v := (lN 10)) dX1_weightOfAirs_14 ml_X1_70 17 rfl ?_
    refine z_aload_n hX dX1_weightOfAirs_17 1 rfl 18 rfl ?_
    refine z_iload_n hX dX1_weightOfAirs_18 2 rfl 19 rfl ?_
    refine z_iconst hX (v := (nI 0)) dX1_weightOfAirs_19 rfl 20 rfl ?_
    replace h := cl_elim h
    obtain ⟨x12, s11, hx12, h⟩ := h
    refine z_cV1l hX (b := 36) (As := [.int a1, .int ((nI 0))]) (c_X1_weightBy hrec hx12) lk_X1_72 rfl kdc_36 ds_X1_weightBy rfl (by omega) (by decide) (Nat.le_of_ble_eq_true rfl) dX1_weightOfAirs_20 rfl 23 rfl ?_
    refine z_lmul hX dX1_weightOfAirs_23 24 rfl ?_
    replace h := Option.some.inj h
    subst h
    exact z_lret hX dX1_weightOfAirs_24 rfl hk
theorem c_X1_weightOfAirs {lc : Launch} {Γ : Gm} {rec : Int32 → St → Option (Int64 × St)} {dd : Nat} (hrec : ∀ (k : Int32) (s s2 : St) (v : Int64), rec k s = some (v, s2) → Ct lc Γ yX1_weightBehind cX1_weightBehind 7 (some .long) dd [.ref (gL Γ (36)), .int k] s (some (.long v), s2)) {a1 : Int32} {s s2 : St} {v : Int64} (h : f_X1_weightOfAirs rec a1 s = some (v, s2)) : Ct lc Γ yX1_weightOfAirs cX1_weightOfAirs 5 (some .long) (dd + 21) [.ref (gL Γ (36)), .int a1] s (some (.long v), s2) := Ct.of (by decide +kernel) (Nat.le_of_ble_eq_true rfl) (fun X hl hX => by subst hl; exact e_X1_weightOfAirs hrec hX h rfl)
theorem dX1_weightBehind_0 : decode cX1_weightBehind 0 = .ok (.aload_n 0, 1) := by decide +kernel
theorem dX1_weightBehind_1 : decode cX1_weightBehind 1 = .ok (.getfield 11, 3) := by decide +kernel
theorem dX1_weightBehind_4 : decode cX1_weightBehind 4 = .ok (.iload_n 1, 1) := by decide +kernel
theorem dX1_weightBehind_5 : decode cX1_weightBehind 5 = .ok (.aaload, 1) := by decide +kernel
theorem dX1_weightBehind_6 : decode cX1_weightBehind 6 = .ok (.astore_n 2, 1) := by decide +kernel
theorem dX1_weightBehind_7 : decode cX1_weightBehind 7 = .ok (.aload_n 2, 1) := by decide +kernel
theorem dX1_weightBehind_8 : decode cX1_weightBehind 8 = .ok (.aload_n 0, 1) := by decide +kernel
theorem dX1_weightBehind_9 : decode cX1_weightBehind 9 = .ok (.getfield 21, 3) := by decide +kernel
theorem dX1_weightBehind_12 : decode cX1_weightBehind 12 = .ok (.invokevirtual 53, 3) := by decide +kernel
theorem dX1_weightBehind_15 : decode cX1_weightBehind 15 = .ok (.istore_n 3, 1) := by decide +kernel
theorem dX1_weightBehind_16 : decode cX1_weightBehind 16 = .ok (.aload_n 2, 1) := by decide +kernel
theorem dX1_weightBehind_17 : decode cX1_weightBehind 17 = .ok (.invokevirtual 57, 3) := by decide +kernel
theorem dX1_weightBehind_20 : decode cX1_weightBehind 20 = .ok (.aload_n 2, 1) := by decide +kernel
theorem dX1_weightBehind_21 : decode cX1_weightBehind 21 = .ok (.invokevirtual 60, 3) := by decide +kernel
theorem dX1_weightBehind_24 : decode cX1_weightBehind 24 = .ok (.pop, 1) := by decide +kernel
theorem dX1_weightBehind_25 : decode cX1_weightBehind 25 = .ok (.aload_n 2, 1) := by decide +kernel
theorem dX1_weightBehind_26 : decode cX1_weightBehind 26 = .ok (.aload_n 0, 1) := by decide +kernel
theorem dX1_weightBehind_27 : decode cX1_weightBehind 27 = .ok (.getfield 21, 3) := by decide +kernel
theorem dX1_weightBehind_30 : decode cX1_weightBehind 30 = .ok (.invokevirtual 53, 3) := by decide +kernel
theorem dX1_weightBehind_33 : decode cX1_weightBehind 33 = .ok (.iload_n 3, 1) := by decide +kernel
theorem dX1_weightBehind_34 : decode cX1_weightBehind 34 = .ok (.isub, 1) := by decide +kernel
theorem dX1_weightBehind_35 : decode cX1_weightBehind 35 = .ok (.istore 4, 2) := by decide +kernel
theorem dX1_weightBehind_37 : decode cX1_weightBehind 37 = .ok (.aload_n 0, 1) := by decide +kernel
theorem dX1_weightBehind_38 : decode cX1_weightBehind 38 = .ok (.getfield 27, 3) := by decide +kernel
theorem dX1_weightBehind_41 : decode cX1_weightBehind 41 = .ok (.ifCond .ne 20, 3) := by decide +kernel
theorem dX1_weightBehind_44 : decode cX1_weightBehind 44 = .ok (.iload 4, 2) := by decide +kernel
theorem dX1_weightBehind_46 : decode cX1_weightBehind 46 = .ok (.ifCond .le 15, 3) := by decide +kernel
theorem dX1_weightBehind_49 : decode cX1_weightBehind 49 = .ok (.aload_n 0, 1) := by decide +kernel
theorem dX1_weightBehind_50 : decode cX1_weightBehind 50 = .ok (.getfield 24, 3) := by decide +kernel
theorem dX1_weightBehind_53 : decode cX1_weightBehind 53 = .ok (.iload_n 1, 1) := by decide +kernel
theorem dX1_weightBehind_54 : decode cX1_weightBehind 54 = .ok (.isub, 1) := by decide +kernel
theorem dX1_weightBehind_55 : decode cX1_weightBehind 55 = .ok (.iconst 1, 1) := by decide +kernel
theorem dX1_weightBehind_56 : decode cX1_weightBehind 56 = .ok (.iadd, 1) := by decide +kernel
theorem dX1_weightBehind_57 : decode cX1_weightBehind 57 = .ok (.invokestatic 47, 3) := by decide +kernel
theorem dX1_weightBehind_60 : decode cX1_weightBehind 60 = .ok (.lreturn, 1) := by decide +kernel
theorem dX1_weightBehind_61 : decode cX1_weightBehind 61 = .ok (.aload_n 0, 1) := by decide +kernel
theorem dX1_weightBehind_62 : decode cX1_weightBehind 62 = .ok (.getfield 27, 3) := by decide +kernel
theorem dX1_weightBehind_65 : decode cX1_weightBehind 65 = .ok (.ifCond .eq 21, 3) := by decide +kernel
theorem dX1_weightBehind_68 : decode cX1_weightBehind 68 = .ok (.iload 4, 2) := by decide +kernel
theorem dX1_weightBehind_70 : decode cX1_weightBehind 70 = .ok (.i2l, 1) := by decide +kernel
theorem dX1_weightBehind_71 : decode cX1_weightBehind 71 = .ok (.aload_n 0, 1) := by decide +kernel
theorem dX1_weightBehind_72 : decode cX1_weightBehind 72 = .ok (.getfield 24, 3) := by decide +kernel
theorem dX1_weightBehind_75 : decode cX1_weightBehind 75 = .ok (.iload_n 1, 1) := by decide +kernel
theorem dX1_weightBehind_76 : decode cX1_weightBehind 76 = .ok (.isub, 1) := by decide +kernel
theorem dX1_weightBehind_77 : decode cX1_weightBehind 77 = .ok (.iconst 1, 1) := by decide +kernel
theorem dX1_weightBehind_78 : decode cX1_weightBehind 78 = .ok (.iadd, 1) := by decide +kernel
theorem dX1_weightBehind_79 : decode cX1_weightBehind 79 = .ok (.invokestatic 47, 3) := by decide +kernel
theorem dX1_weightBehind_82 : decode cX1_weightBehind 82 = .ok (.lmul, 1) := by decide +kernel
theorem dX1_weightBehind_83 : decode cX1_weightBehind 83 = .ok (.goto 4, 3) := by decide +kernel
theorem dX1_weightBehind_86 : decode cX1_weightBehind 86 = .ok (.lconst 0, 1) := by decide +kernel
theorem dX1_weightBehind_87 : decode cX1_weightBehind 87 = .ok (.lstore 5, 2) := by decide +kernel
theorem dX1_weightBehind_89 : decode cX1_weightBehind 89 = .ok (.iload_n 1, 1) := by decide +kernel
theorem dX1_weightBehind_90 : decode cX1_weightBehind 90 = .ok (.aload_n 0, 1) := by decide +kernel
theorem dX1_weightBehind_91 : decode cX1_weightBehind 91 = .ok (.getfield 24, 3) := by decide +kernel
theorem dX1_weightBehind_94 : decode cX1_weightBehind 94 = .ok (.if_icmp .ge 14, 3) := by decide +kernel
theorem dX1_weightBehind_97 : decode cX1_weightBehind 97 = .ok (.lload 5, 2) := by decide +kernel
theorem dX1_weightBehind_99 : decode cX1_weightBehind 99 = .ok (.aload_n 0, 1) := by decide +kernel
theorem dX1_weightBehind_100 : decode cX1_weightBehind 100 = .ok (.iload_n 1, 1) := by decide +kernel
theorem dX1_weightBehind_101 : decode cX1_weightBehind 101 = .ok (.invokevirtual 64, 3) := by decide +kernel
theorem dX1_weightBehind_104 : decode cX1_weightBehind 104 = .ok (.ladd, 1) := by decide +kernel
theorem dX1_weightBehind_105 : decode cX1_weightBehind 105 = .ok (.goto 5, 3) := by decide +kernel
theorem dX1_weightBehind_108 : decode cX1_weightBehind 108 = .ok (.lload 5, 2) := by decide +kernel
theorem dX1_weightBehind_110 : decode cX1_weightBehind 110 = .ok (.lreturn, 1) := by decide +kernel
def f_X1_weightBehind_J87 (rec : Int32 → St → Option (Int64 × St)) (v1 : Int32) (k0 : Int64) (s : St) : Option (Int64 × St) := if (s.1 36 3) ≤ v1 then (some ((k0, s))) else (cl (f_X1_weightOfAirs rec v1 s) (fun x22 s21 => some (((k0 + x22), s21))))
def f_X1_weightBehind_J61 (rec : Int32 → St → Option (Int64 × St)) (v1 : Int32) (v4 : Int32) (s : St) : Option (Int64 × St) := if (s.1 36 4) = 0 then (f_X1_weightBehind_J87 rec v1 (lN 0) s) else (cl (f_X1_tenTo (((s.1 36 3) - v1) + (nI 1)) s) (fun x19 s18 => f_X1_weightBehind_J87 rec v1 ((v4).toInt64 * x19) s18))
def f_X1_weightBehind (rec : Int32 → St → Option (Int64 × St)) (a1 : Int32) (s : St) : Option (Int64 × St) := if inb a1 (ln 37) = true then bd (38 + 13 * (a1).toNatClampNeg) (fun y2 => if kd (y2) = 2 then cl (f_X2_heldBy y2 (s.1 36 2) s) (fun x4 s3 => cl (f_X2_tellAll y2 s3) (fun x7 s6 => cl (f_X2_takeAll y2 s6) (fun x9 s8 => cl (f_X2_heldBy y2 (s8.1 36 2) s8) (fun x11 s10 => bd (x11 - x4) (fun x12 => if ¬ (s10.1 36 4) = 0 then (f_X1_weightBehind_J61 rec a1 x12 s10) else (if x12 ≤ 0 then (f_X1_weightBehind_J61 rec a1 x12 s10) else (cl (f_X1_tenTo (((s10.1 36 3) - a1) + (nI 1)) s10) (fun x16 s15 => some ((x16, s15)))))))))) else none) else none
set_option maxHeartbeats 4000000 in
set_option maxRecDepth 100000 in
theorem e_X1_weightBehind_J87 {X : Cx} {Γ : Gm} {r0 : Rb} {rec : Int32 → St → Option (Int64 × St)} {dd : Nat} (hrec : ∀ (k : Int32) (s s2 : St) (v : Int64), rec k s = some (v, s2) → Ct (xl X) Γ yX1_weightBehind cX1_weightBehind 7 (some .long) dd [.ref (gL Γ (36)), .int k] s (some (.long v), s2)) (hX : Amb X Γ cX1_weightBehind RX1 7 (some .long) (dd + 22)) {v1 : Int32} {k0 : Int64} {s : St} {t : Int64 × St} (h : f_X1_weightBehind_J87 rec v1 k0 s = some t) (hk : (fun t : Int64 × St => Rt X Γ r0 (some (Value.long t.1), t.2)) t) : Zw X Γ 7 r0 s 87 [(0, .ref (gL Γ (36))), (1, .int v1)] [.long k0] := by
  unfold f_X1_weightBehind_J87 at h
  refine z_lstore hX (lv2 := [(5, .long k0), (0, .ref (gL Γ (36))), (1, .int v1)]) dX1_weightBehind_87 (by decide) rfl 89 rfl ?_
  refine z_iload_n hX dX1_weightBehind_89 2 rfl 90 rfl ?_
  refine z_aload_n hX dX1_weightBehind_90 1 rfl 91 rfl ?_
  refine z_get1 hX (k := 36) (j := 3) (v := .int ((s.1 36 3))) kdc_36 (by decide) rfl dX1_weightBehind_91 fl_X1_24 94 rfl ?_
  refine z_icmp_ge hX 108 dX1_weightBehind_94 (by decide) 97 rfl (fun c20 => ?_) (fun c20 => ?_)
  · replace h := br_pos h c20
    refine z_lload hX dX1_weightBehind_108 0 rfl 110 rfl ?_
    replace h := Option.some.inj h
    subst h
    exact z_lret hX dX1_weightBehind_110 rfl hk
  · replace h := br_neg h c20
    refine z_lload hX dX1_weightBehind_97 0 rfl 99 rfl ?_
    refine z_aload_n hX dX1_weightBehind_99 1 rfl 100 rfl ?_
    refine z_iload_n hX dX1_weightBehind_100 2 rfl 101 rfl ?_
    replace h := cl_elim h
    obtain ⟨x22, s21, hx22, h⟩ := h
    refine z_cV1l hX (b := 36) (As := [.int v1]) (c_X1_weightOfAirs hrec hx22) lk_X1_64 rfl kdc_36 ds_X1_weightOfAirs rfl (by omega) (by decide) (Nat.le_of_ble_eq_true rfl) dX1_weightBehind_101 rfl 104 rfl ?_
    refine z_ladd hX dX1_weightBehind_104 105 rfl ?_
    refine z_goto hX 110 dX1_weightBehind_105 (by decide) ?_
    replace h := Option.some.inj h
    subst h
    exact z_lret hX dX1_weightBehind_110 rfl hk
set_option maxHeartbeats 4000000 in
set_option maxRecDepth 100000 in
theorem e_X1_weightBehind_J61 {X : Cx} {Γ : Gm} {r0 : Rb} {rec : Int32 → St → Option (Int64 × St)} {dd : Nat} (hrec : ∀ (k : Int32) (s s2 : St) (v : Int64), rec k s = some (v, s2) → Ct (xl X) Γ yX1_weightBehind cX1_weightBehind 7 (some .long) dd [.ref (gL Γ (36)), .int k] s (some (.long v), s2)) (hX : Amb X Γ cX1_weightBehind RX1 7 (some .long) (dd + 22)) {v1 : Int32} {v4 : Int32} {s : St} {t : Int64 × St} (h : f_X1_weightBehind_J61 rec v1 v4 s = some t) (hk : (fun t : Int64 × St => Rt X Γ r0 (some (Value.long t.1), t.2)) t) : Zw X Γ 7 r0 s 61 [(0, .ref (gL Γ (36))), (1, .int v1), (4, .int v4)] [] := by
  unfold f_X1_weightBehind_J61 at h
  refine z_aload_n hX dX1_weightBehind_61 0 rfl 62 rfl ?_
  refine z_get1 hX (k := 36) (j := 4) (v := .int ((s.1 36 4))) kdc_36 (by decide) rfl dX1_weightBehind_62 fl_X1_27 65 rfl ?_
  refine z_if_eq hX 86 dX1_weightBehind_65 (by decide) 68 rfl (fun c17 => ?_) (fun c17 => ?_)
  · replace h := br_pos h c17
    refine z_lconst hX (v := (lN 0)) dX1_weightBehind_86 rfl 87 rfl ?_
    exact z_sub [0, 1] rfl (e_X1_weightBehind_J87 hrec hX h hk)
  · replace h := br_neg h c17
    refine z_iload hX dX1_weightBehind_68 2 rfl 70 rfl ?_
    refine z_i2l hX dX1_weightBehind_70 71 rfl ?_
    refine z_aload_n hX dX1_weightBehind_71 0 rfl 72 rfl ?_
    refine z_get1 hX (k := 36) (j := 3) (v := .int ((s.1 36 3))) kdc_36 (by decide) rfl dX1_weightBehind_72 fl_X1_24 75 rfl ?_
    refine z_iload_n hX dX1_weightBehind_75 1 rfl 76 rfl ?_
    refine z_isub hX dX1_weightBehind_76 77 rfl ?_
    refine z_iconst hX (v := (nI 1)) dX1_weightBehind_77 rfl 78 rfl ?_
    refine z_iadd hX dX1_weightBehind_78 79 rfl ?_
    replace h := cl_elim h
    obtain ⟨x19, s18, hx19, h⟩ := h
    refine z_cSl hX (As := [.int ((((s.1 36 3) - v1) + (nI 1)))]) (c_X1_tenTo hx19) lk_X1_47 ds_X1_tenTo rfl (by omega) (by decide) (Nat.le_of_ble_eq_true rfl) dX1_weightBehind_79 rfl 82 rfl ?_
    refine z_lmul hX dX1_weightBehind_82 83 rfl ?_
    refine z_goto hX 87 dX1_weightBehind_83 (by decide) ?_
    exact z_sub [0, 1] rfl (e_X1_weightBehind_J87 hrec hX h hk)
set_option maxHeartbeats 4000000 in
set_option maxRecDepth 100000 in
theorem e_X1_weightBehind {X : Cx} {Γ : Gm} {r0 : Rb} {rec : Int32 → St → Option (Int64 × St)} {dd : Nat} (hrec : ∀ (k : Int32) (s s2 : St) (v : Int64), rec k s = some (v, s2) → Ct (xl X) Γ yX1_weightBehind cX1_weightBehind 7 (some .long) dd [.ref (gL Γ (36)), .int k] s (some (.long v), s2)) (hX : Amb X Γ cX1_weightBehind RX1 7 (some .long) (dd + 22)) {a1 : Int32} {s : St} {t : Int64 × St} (h : f_X1_weightBehind rec a1 s = some t) (hk : (fun t : Int64 × St => Rt X Γ r0 (some (Value.long t.1), t.2)) t) : Zw X Γ 7 r0 s 0 [(0, .ref (gL Γ (36))), (1, .int a1)] [] := by
  unfold f_X1_weightBehind at h
  refine z_aload_n hX dX1_weightBehind_0 0 rfl 1 rfl ?_
  refine z_get1 hX (k := 36) (j := 0) (v := .ref (gL Γ (37))) kdc_36 (by decide) rfl dX1_weightBehind_1 fl_X1_11 4 rfl ?_
  refine z_iload_n hX dX1_weightBehind_4 1 rfl 5 rfl ?_
  replace h := gd_elim h
  obtain ⟨g1, h⟩ := h
  refine z_aald12 hX kdc_37 (inb_vp g1) dX1_weightBehind_5 6 rfl ?_
  replace h := bd_elim h
  obtain ⟨y2, ey2, h⟩ := h
  refine z_nmR ey2 ?_
  refine z_astore_n hX (lv2 := [(2, .ref (gL Γ (y2))), (0, .ref (gL Γ (36))), (1, .int a1)]) dX1_weightBehind_6 (by decide) rfl 7 rfl ?_
  refine z_aload_n hX dX1_weightBehind_7 0 rfl 8 rfl ?_
  refine z_aload_n hX dX1_weightBehind_8 1 rfl 9 rfl ?_
  refine z_get1 hX (k := 36) (j := 2) (v := .int ((s.1 36 2))) kdc_36 (by decide) rfl dX1_weightBehind_9 fl_X1_21 12 rfl ?_
  replace h := gd_elim h
  obtain ⟨g5, h⟩ := h
  replace h := cl_elim h
  obtain ⟨x4, s3, hx4, h⟩ := h
  refine z_cV2i hX (b := y2) (As := [.int ((s.1 36 2))]) (c_X2_heldBy hx4) lk_X1_53 rfl g5 ds_X2_heldBy rfl (by omega) (by decide) (by decide) dX1_weightBehind_12 rfl 15 rfl ?_
  refine z_istore_n hX (lv2 := [(3, .int x4), (2, .ref (gL Γ (y2))), (0, .ref (gL Γ (36))), (1, .int a1)]) dX1_weightBehind_15 (by decide) rfl 16 rfl ?_
  refine z_aload_n hX dX1_weightBehind_16 1 rfl 17 rfl ?_
  replace h := cl_elim h
  obtain ⟨x7, s6, hx7, h⟩ := h
  refine z_cV2v hX (b := y2) (As := []) (c_X2_tellAll hx7) lk_X1_57 rfl g5 ds_X2_tellAll rfl (by omega) (by decide) (by decide) dX1_weightBehind_17 rfl 20 rfl ?_
  refine z_aload_n hX dX1_weightBehind_20 1 rfl 21 rfl ?_
  replace h := cl_elim h
  obtain ⟨x9, s8, hx9, h⟩ := h
  refine z_cV2i hX (b := y2) (As := []) (c_X2_takeAll hx9) lk_X1_60 rfl g5 ds_X2_takeAll rfl (by omega) (by decide) (by decide) dX1_weightBehind_21 rfl 24 rfl ?_
  refine z_pop hX dX1_weightBehind_24 rfl 25 rfl ?_
  refine z_aload_n hX dX1_weightBehind_25 1 rfl 26 rfl ?_
  refine z_aload_n hX dX1_weightBehind_26 2 rfl 27 rfl ?_
  refine z_get1 hX (k := 36) (j := 2) (v := .int ((s8.1 36 2))) kdc_36 (by decide) rfl dX1_weightBehind_27 fl_X1_21 30 rfl ?_
  replace h := cl_elim h
  obtain ⟨x11, s10, hx11, h⟩ := h
  refine z_cV2i hX (b := y2) (As := [.int ((s8.1 36 2))]) (c_X2_heldBy hx11) lk_X1_53 rfl g5 ds_X2_heldBy rfl (by omega) (by decide) (by decide) dX1_weightBehind_30 rfl 33 rfl ?_
  refine z_iload_n hX dX1_weightBehind_33 0 rfl 34 rfl ?_
  refine z_isub hX dX1_weightBehind_34 35 rfl ?_
  replace h := bd_elim h
  obtain ⟨x12, ex12, h⟩ := h
  refine z_nm ex12 ?_
  refine z_istore hX (lv2 := [(4, .int x12), (3, .int x4), (2, .ref (gL Γ (y2))), (0, .ref (gL Γ (36))), (1, .int a1)]) dX1_weightBehind_35 (by decide) rfl 37 rfl ?_
  refine z_aload_n hX dX1_weightBehind_37 3 rfl 38 rfl ?_
  refine z_get1 hX (k := 36) (j := 4) (v := .int ((s10.1 36 4))) kdc_36 (by decide) rfl dX1_weightBehind_38 fl_X1_27 41 rfl ?_
  refine z_if_ne hX 61 dX1_weightBehind_41 (by decide) 44 rfl (fun c13 => ?_) (fun c13 => ?_)
  · replace h := br_pos h c13
    exact z_sub [3, 4, 0] rfl (e_X1_weightBehind_J61 hrec hX h hk)
  · replace h := br_neg h c13
    refine z_iload hX dX1_weightBehind_44 0 rfl 46 rfl ?_
    refine z_if_le hX 61 dX1_weightBehind_46 (by decide) 49 rfl (fun c14 => ?_) (fun c14 => ?_)
    · replace h := br_pos h c14
      exact z_sub [3, 4, 0] rfl (e_X1_weightBehind_J61 hrec hX h hk)
    · replace h := br_neg h c14
      refine z_aload_n hX dX1_weightBehind_49 3 rfl 50 rfl ?_
      refine z_get1 hX (k := 36) (j := 3) (v := .int ((s10.1 36 3))) kdc_36 (by decide) rfl dX1_weightBehind_50 fl_X1_24 53 rfl ?_
      refine z_iload_n hX dX1_weightBehind_53 4 rfl 54 rfl ?_
      refine z_isub hX dX1_weightBehind_54 55 rfl ?_
      refine z_iconst hX (v := (nI 1)) dX1_weightBehind_55 rfl 56 rfl ?_
      refine z_iadd hX dX1_weightBehind_56 57 rfl ?_
      replace h := cl_elim h
      obtain ⟨x16, s15, hx16, h⟩ := h
      refine z_cSl hX (As := [.int ((((s10.1 36 3) - a1) + (nI 1)))]) (c_X1_tenTo hx16) lk_X1_47 ds_X1_tenTo rfl (by omega) (by decide) (by decide) dX1_weightBehind_57 rfl 60 rfl ?_
      replace h := Option.some.inj h
      subst h
      exact z_lret hX dX1_weightBehind_60 rfl hk
theorem c_X1_weightBehind {lc : Launch} {Γ : Gm} {rec : Int32 → St → Option (Int64 × St)} {dd : Nat} (hrec : ∀ (k : Int32) (s s2 : St) (v : Int64), rec k s = some (v, s2) → Ct lc Γ yX1_weightBehind cX1_weightBehind 7 (some .long) dd [.ref (gL Γ (36)), .int k] s (some (.long v), s2)) {a1 : Int32} {s s2 : St} {v : Int64} (h : f_X1_weightBehind rec a1 s = some (v, s2)) : Ct lc Γ yX1_weightBehind cX1_weightBehind 7 (some .long) (dd + 22) [.ref (gL Γ (36)), .int a1] s (some (.long v), s2) := Ct.of (by decide +kernel) (Nat.le_of_ble_eq_true rfl) (fun X hl hX => by subst hl; exact e_X1_weightBehind hrec hX h rfl)
def fW : Nat → Int32 → St → Option (Int64 × St)
  | 0, _, _ => none
  | n + 1, k, s => f_X1_weightBehind (fW n) k s
theorem cW {lc : Launch} {Γ : Gm} : ∀ (n : Nat) (k : Int32) (s s2 : St) (v : Int64), fW n k s = some (v, s2) → Ct lc Γ yX1_weightBehind cX1_weightBehind 7 (some .long) (22 * n) [.ref (gL Γ (36)), .int k] s (some (.long v), s2)
  | 0, k, s, s2, v, h => by cases h
  | n + 1, k, s, s2, v, h => c_X1_weightBehind (dd := 22 * n) (fun k s s2 v h => cW n k s s2 v h) h
theorem dX1_weigh_0 : decode cX1_weigh 0 = .ok (.aload_n 0, 1) := by decide +kernel
theorem dX1_weigh_1 : decode cX1_weigh 1 = .ok (.iload_n 2, 1) := by decide +kernel
theorem dX1_weigh_2 : decode cX1_weigh 2 = .ok (.putfield 17, 3) := by decide +kernel
theorem dX1_weigh_5 : decode cX1_weigh 5 = .ok (.aload_n 0, 1) := by decide +kernel
theorem dX1_weigh_6 : decode cX1_weigh 6 = .ok (.iload_n 3, 1) := by decide +kernel
theorem dX1_weigh_7 : decode cX1_weigh 7 = .ok (.putfield 21, 3) := by decide +kernel
theorem dX1_weigh_10 : decode cX1_weigh 10 = .ok (.aload_n 0, 1) := by decide +kernel
theorem dX1_weigh_11 : decode cX1_weigh 11 = .ok (.iload 4, 2) := by decide +kernel
theorem dX1_weigh_13 : decode cX1_weigh 13 = .ok (.iconst 1, 1) := by decide +kernel
theorem dX1_weigh_14 : decode cX1_weigh 14 = .ok (.isub, 1) := by decide +kernel
theorem dX1_weigh_15 : decode cX1_weigh 15 = .ok (.putfield 24, 3) := by decide +kernel
theorem dX1_weigh_18 : decode cX1_weigh 18 = .ok (.aload_n 0, 1) := by decide +kernel
theorem dX1_weigh_19 : decode cX1_weigh 19 = .ok (.iload 5, 2) := by decide +kernel
theorem dX1_weigh_21 : decode cX1_weigh 21 = .ok (.putfield 27, 3) := by decide +kernel
theorem dX1_weigh_24 : decode cX1_weigh 24 = .ok (.aload_n 0, 1) := by decide +kernel
theorem dX1_weigh_25 : decode cX1_weigh 25 = .ok (.lconst 0, 1) := by decide +kernel
theorem dX1_weigh_26 : decode cX1_weigh 26 = .ok (.putfield 31, 3) := by decide +kernel
theorem dX1_weigh_29 : decode cX1_weigh 29 = .ok (.aload_n 0, 1) := by decide +kernel
theorem dX1_weigh_30 : decode cX1_weigh 30 = .ok (.lconst 1, 1) := by decide +kernel
theorem dX1_weigh_31 : decode cX1_weigh 31 = .ok (.putfield 35, 3) := by decide +kernel
theorem dX1_weigh_34 : decode cX1_weigh 34 = .ok (.iload 4, 2) := by decide +kernel
theorem dX1_weigh_36 : decode cX1_weigh 36 = .ok (.ifCond .le 31, 3) := by decide +kernel
theorem dX1_weigh_39 : decode cX1_weigh 39 = .ok (.aload_n 0, 1) := by decide +kernel
theorem dX1_weigh_40 : decode cX1_weigh 40 = .ok (.getfield 11, 3) := by decide +kernel
theorem dX1_weigh_43 : decode cX1_weigh 43 = .ok (.iconst 0, 1) := by decide +kernel
theorem dX1_weigh_44 : decode cX1_weigh 44 = .ok (.aaload, 1) := by decide +kernel
theorem dX1_weigh_45 : decode cX1_weigh 45 = .ok (.aload_n 1, 1) := by decide +kernel
theorem dX1_weigh_46 : decode cX1_weigh 46 = .ok (.invokevirtual 39, 3) := by decide +kernel
theorem dX1_weigh_49 : decode cX1_weigh 49 = .ok (.aload_n 0, 1) := by decide +kernel
theorem dX1_weigh_50 : decode cX1_weigh 50 = .ok (.aload_n 0, 1) := by decide +kernel
theorem dX1_weigh_51 : decode cX1_weigh 51 = .ok (.iconst 0, 1) := by decide +kernel
theorem dX1_weigh_52 : decode cX1_weigh 52 = .ok (.invokevirtual 43, 3) := by decide +kernel
theorem dX1_weigh_55 : decode cX1_weigh 55 = .ok (.putfield 31, 3) := by decide +kernel
theorem dX1_weigh_58 : decode cX1_weigh 58 = .ok (.aload_n 0, 1) := by decide +kernel
theorem dX1_weigh_59 : decode cX1_weigh 59 = .ok (.iload 4, 2) := by decide +kernel
theorem dX1_weigh_61 : decode cX1_weigh 61 = .ok (.invokestatic 47, 3) := by decide +kernel
theorem dX1_weigh_64 : decode cX1_weigh 64 = .ok (.putfield 35, 3) := by decide +kernel
theorem dX1_weigh_67 : decode cX1_weigh 67 = .ok (.aload_n 0, 1) := by decide +kernel
theorem dX1_weigh_68 : decode cX1_weigh 68 = .ok (.invokevirtual 50, 3) := by decide +kernel
theorem dX1_weigh_71 : decode cX1_weigh 71 = .ok (.return_, 1) := by decide +kernel
def f_X1_weigh (a1 : Nat) (a2 : Int32) (a3 : Int32) (a4 : Int32) (a5 : Int32) (s : St) : Option (Unit × St) := bd (wI s 36 1 a2) (fun s1 => bd (wI s1 36 2 a3) (fun s2 => bd (wI s2 36 3 (a4 - (nI 1))) (fun s3 => if a5 = 0 ∨ a5 = 1 then bd (wI s3 36 4 a5) (fun s5 => bd (wJ s5 36 5 (lN 0)) (fun s6 => bd (wJ s6 36 6 (lN 1)) (fun s7 => if a4 ≤ 0 then (cl (f_X1_reduce s7) (fun x10 s9 => some (((), s9)))) else (if inb (nI 0) (ln 37) = true then bd (38 + 13 * ((nI 0)).toNatClampNeg) (fun y12 => if kd (y12) = 2 then cl (f_X2_copyOf y12 a1 s7) (fun x14 s13 => cl (fW 9 (nI 0) s13) (fun x17 s16 => bd (wJ s16 36 5 x17) (fun s18 => cl (f_X1_tenTo a4 s18) (fun x20 s19 => bd (wJ s19 36 6 x20) (fun s21 => cl (f_X1_reduce s21) (fun x23 s22 => some (((), s22)))))))) else none) else none)))) else none)))
set_option maxHeartbeats 4000000 in
set_option maxRecDepth 100000 in
theorem e_X1_weigh {X : Cx} {Γ : Gm} {r0 : Rb} (hX : Amb X Γ cX1_weigh RX1 6 none 199) {a1 : Nat} {a2 : Int32} {a3 : Int32} {a4 : Int32} {a5 : Int32} {s : St} {t : Unit × St} (h : f_X1_weigh a1 a2 a3 a4 a5 s = some t) (hk : (fun t : Unit × St => Rt X Γ r0 (none, t.2)) t) : Zw X Γ 6 r0 s 0 [(0, .ref (gL Γ (36))), (1, .ref (gL Γ (a1))), (2, .int a2), (3, .int a3), (4, .int a4), (5, .int a5)] [] := by
  unfold f_X1_weigh at h
  refine z_aload_n hX dX1_weigh_0 0 rfl 1 rfl ?_
  refine z_iload_n hX dX1_weigh_1 2 rfl 2 rfl ?_
  replace h := bd_elim h
  obtain ⟨s1, es1, h⟩ := h
  refine z_putI1 hX (k := 36) (j := 1) kdc_36 (by decide) rfl (by decide +kernel) (pwI_1_1 ..) dX1_weigh_2 fl_X1_17 es1 5 rfl ?_
  refine z_aload_n hX dX1_weigh_5 0 rfl 6 rfl ?_
  refine z_iload_n hX dX1_weigh_6 3 rfl 7 rfl ?_
  replace h := bd_elim h
  obtain ⟨s2, es2, h⟩ := h
  refine z_putI1 hX (k := 36) (j := 2) kdc_36 (by decide) rfl (by decide +kernel) (pwI_1_2 ..) dX1_weigh_7 fl_X1_21 es2 10 rfl ?_
  refine z_aload_n hX dX1_weigh_10 0 rfl 11 rfl ?_
  refine z_iload hX dX1_weigh_11 4 rfl 13 rfl ?_
  refine z_iconst hX (v := (nI 1)) dX1_weigh_13 rfl 14 rfl ?_
  refine z_isub hX dX1_weigh_14 15 rfl ?_
  replace h := bd_elim h
  obtain ⟨s3, es3, h⟩ := h
  refine z_putI1 hX (k := 36) (j := 3) kdc_36 (by decide) rfl (by decide +kernel) (pwI_1_3 ..) dX1_weigh_15 fl_X1_24 es3 18 rfl ?_
  refine z_aload_n hX dX1_weigh_18 0 rfl 19 rfl ?_
  refine z_iload hX dX1_weigh_19 5 rfl 21 rfl ?_
  replace h := gd_elim h
  obtain ⟨g4, h⟩ := h
  replace h := bd_elim h
  obtain ⟨s5, es5, h⟩ := h
  refine z_putZ1 hX (k := 36) (j := 4) kdc_36 (by decide) rfl (by decide +kernel) g4 (pwI_1_4 ..) dX1_weigh_21 fl_X1_27 es5 24 rfl ?_
  refine z_aload_n hX dX1_weigh_24 0 rfl 25 rfl ?_
  refine z_lconst hX (v := (lN 0)) dX1_weigh_25 rfl 26 rfl ?_
  replace h := bd_elim h
  obtain ⟨s6, es6, h⟩ := h
  refine z_putJ1 hX (k := 36) (j := 5) kdc_36 (by decide) rfl (by decide +kernel) (pwJ_1_5 ..) dX1_weigh_26 fl_X1_31 es6 29 rfl ?_
  refine z_aload_n hX dX1_weigh_29 0 rfl 30 rfl ?_
  refine z_lconst hX (v := (lN 1)) dX1_weigh_30 rfl 31 rfl ?_
  replace h := bd_elim h
  obtain ⟨s7, es7, h⟩ := h
  refine z_putJ1 hX (k := 36) (j := 6) kdc_36 (by decide) rfl (by decide +kernel) (pwJ_1_6 ..) dX1_weigh_31 fl_X1_35 es7 34 rfl ?_
  refine z_iload hX dX1_weigh_34 4 rfl 36 rfl ?_
  refine z_if_le hX 67 dX1_weigh_36 (by decide) 39 rfl (fun c8 => ?_) (fun c8 => ?_)
  · replace h := br_pos h c8
    refine z_aload_n hX dX1_weigh_67 0 rfl 68 rfl ?_
    replace h := cl_elim h
    obtain ⟨x10, s9, hx10, h⟩ := h
    refine z_cV1v hX (b := 36) (As := []) (c_X1_reduce hx10) lk_X1_50 rfl kdc_36 ds_X1_reduce rfl (by omega) (by decide) (by decide) dX1_weigh_68 rfl 71 rfl ?_
    replace h := Option.some.inj h
    subst h
    exact z_vret hX dX1_weigh_71 rfl hk
  · replace h := br_neg h c8
    refine z_aload_n hX dX1_weigh_39 0 rfl 40 rfl ?_
    refine z_get1 hX (k := 36) (j := 0) (v := .ref (gL Γ (37))) kdc_36 (by decide) rfl dX1_weigh_40 fl_X1_11 43 rfl ?_
    refine z_iconst hX (v := (nI 0)) dX1_weigh_43 rfl 44 rfl ?_
    replace h := gd_elim h
    obtain ⟨g11, h⟩ := h
    refine z_aald12 hX kdc_37 (inb_vp g11) dX1_weigh_44 45 rfl ?_
    replace h := bd_elim h
    obtain ⟨y12, ey12, h⟩ := h
    refine z_nmR ey12 ?_
    refine z_aload_n hX dX1_weigh_45 1 rfl 46 rfl ?_
    replace h := gd_elim h
    obtain ⟨g15, h⟩ := h
    replace h := cl_elim h
    obtain ⟨x14, s13, hx14, h⟩ := h
    refine z_cV2v hX (b := y12) (As := [.ref (gL Γ (a1))]) (c_X2_copyOf hx14) lk_X1_39 rfl g15 ds_X2_copyOf rfl (by omega) (by decide) (by decide) dX1_weigh_46 rfl 49 rfl ?_
    refine z_aload_n hX dX1_weigh_49 0 rfl 50 rfl ?_
    refine z_aload_n hX dX1_weigh_50 0 rfl 51 rfl ?_
    refine z_iconst hX (v := (nI 0)) dX1_weigh_51 rfl 52 rfl ?_
    replace h := cl_elim h
    obtain ⟨x17, s16, hx17, h⟩ := h
    refine z_cV1l hX (b := 36) (As := [.int ((nI 0))]) (cW 9 _ _ _ _ hx17) lk_X1_43 rfl kdc_36 ds_X1_weightBehind rfl (by omega) (by decide) (Nat.le_of_ble_eq_true rfl) dX1_weigh_52 rfl 55 rfl ?_
    replace h := bd_elim h
    obtain ⟨s18, es18, h⟩ := h
    refine z_putJ1 hX (k := 36) (j := 5) kdc_36 (by decide) rfl (by decide +kernel) (pwJ_1_5 ..) dX1_weigh_55 fl_X1_31 es18 58 rfl ?_
    refine z_aload_n hX dX1_weigh_58 0 rfl 59 rfl ?_
    refine z_iload hX dX1_weigh_59 4 rfl 61 rfl ?_
    replace h := cl_elim h
    obtain ⟨x20, s19, hx20, h⟩ := h
    refine z_cSl hX (As := [.int a4]) (c_X1_tenTo hx20) lk_X1_47 ds_X1_tenTo rfl (by omega) (by decide) (Nat.le_of_ble_eq_true rfl) dX1_weigh_61 rfl 64 rfl ?_
    replace h := bd_elim h
    obtain ⟨s21, es21, h⟩ := h
    refine z_putJ1 hX (k := 36) (j := 6) kdc_36 (by decide) rfl (by decide +kernel) (pwJ_1_6 ..) dX1_weigh_64 fl_X1_35 es21 67 rfl ?_
    refine z_aload_n hX dX1_weigh_67 0 rfl 68 rfl ?_
    replace h := cl_elim h
    obtain ⟨x23, s22, hx23, h⟩ := h
    refine z_cV1v hX (b := 36) (As := []) (c_X1_reduce hx23) lk_X1_50 rfl kdc_36 ds_X1_reduce rfl (by omega) (by decide) (by decide) dX1_weigh_68 rfl 71 rfl ?_
    replace h := Option.some.inj h
    subst h
    exact z_vret hX dX1_weigh_71 rfl hk
theorem c_X1_weigh {lc : Launch} {Γ : Gm} {a1 : Nat} {a2 : Int32} {a3 : Int32} {a4 : Int32} {a5 : Int32} {s s2 : St} {v : Unit} (h : f_X1_weigh a1 a2 a3 a4 a5 s = some (v, s2)) : Ct lc Γ yX1_weigh cX1_weigh 6 none 199 [.ref (gL Γ (36)), .ref (gL Γ (a1)), .int a2, .int a3, .int a4, .int a5] s (none, s2) := Ct.of (by decide +kernel) (Nat.le_of_ble_eq_true rfl) (fun X hl hX => by subst hl; exact e_X1_weigh hX h rfl)

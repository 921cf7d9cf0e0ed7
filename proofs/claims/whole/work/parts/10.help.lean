theorem ds_X6_isWithin : Ds yX6_isWithin 3 := ⟨by decide +kernel, by decide +kernel, by decide +kernel⟩
theorem lk_X6_62 : LkS RX6 62 yX6_isWithin cX6_isWithin 3 (some .boolean) := ⟨gt_mem (tm2 (List.mem_of_getElem? (i := 29) rfl)) rfl, gt_mem (tm2 (List.mem_of_getElem? (i := 30) rfl)) rfl, gt_mem (tm1 (List.mem_of_getElem? (i := 1) rfl)) rfl, gt_mem (tm2 (List.mem_of_getElem? (i := 31) rfl)) rfl⟩
theorem ds_X6_cellOf : Ds yX6_cellOf 1 := ⟨by decide +kernel, by decide +kernel, by decide +kernel⟩
theorem lk_X6_161 : LkS RX6 161 yX6_cellOf cX6_cellOf 1 (some .int) := ⟨gt_mem (tm2 (List.mem_of_getElem? (i := 149) rfl)) rfl, gt_mem (tm2 (List.mem_of_getElem? (i := 150) rfl)) rfl, gt_mem (tm1 (List.mem_of_getElem? (i := 1) rfl)) rfl, gt_mem (tm2 (List.mem_of_getElem? (i := 151) rfl)) rfl⟩
theorem dX6_isWithin_0 : decode cX6_isWithin 0 = .ok (.iload_n 0, 1) := by decide +kernel
theorem dX6_isWithin_1 : decode cX6_isWithin 1 = .ok (.iload_n 1, 1) := by decide +kernel
theorem dX6_isWithin_2 : decode cX6_isWithin 2 = .ok (.if_icmp .lt 12, 3) := by decide +kernel
theorem dX6_isWithin_5 : decode cX6_isWithin 5 = .ok (.iload_n 0, 1) := by decide +kernel
theorem dX6_isWithin_6 : decode cX6_isWithin 6 = .ok (.iload_n 2, 1) := by decide +kernel
theorem dX6_isWithin_7 : decode cX6_isWithin 7 = .ok (.if_icmp .gt 7, 3) := by decide +kernel
theorem dX6_isWithin_10 : decode cX6_isWithin 10 = .ok (.iconst 1, 1) := by decide +kernel
theorem dX6_isWithin_11 : decode cX6_isWithin 11 = .ok (.goto 4, 3) := by decide +kernel
theorem dX6_isWithin_14 : decode cX6_isWithin 14 = .ok (.iconst 0, 1) := by decide +kernel
theorem dX6_isWithin_15 : decode cX6_isWithin 15 = .ok (.ireturn, 1) := by decide +kernel
def f_X6_isWithin (a0 : Int32) (a1 : Int32) (a2 : Int32) (s : St) : Option (Int32 × St) := if a0 < a1 then (some (((nI 0), s))) else (if a2 < a0 then (some (((nI 0), s))) else (some (((nI 1), s))))
set_option maxHeartbeats 4000000 in
set_option maxRecDepth 100000 in
theorem e_X6_isWithin {X : Cx} {Γ : Gm} {r0 : Rb} (hX : Amb X Γ cX6_isWithin RX6 3 (some .boolean) 0) {a0 : Int32} {a1 : Int32} {a2 : Int32} {s : St} {t : Int32 × St} (h : f_X6_isWithin a0 a1 a2 s = some t) (hk : (fun t : Int32 × St => Rt X Γ r0 (some (Value.int t.1), t.2)) t) : Zw X Γ 3 r0 s 0 [(0, .int a0), (1, .int a1), (2, .int a2)] [] := by
  unfold f_X6_isWithin at h
  refine z_iload_n hX dX6_isWithin_0 0 rfl 1 rfl ?_
  refine z_iload_n hX dX6_isWithin_1 1 rfl 2 rfl ?_
  refine z_icmp_lt hX 14 dX6_isWithin_2 (by decide) 5 rfl (fun c1 => ?_) (fun c1 => ?_)
  · replace h := br_pos h c1
    refine z_iconst hX (v := (nI 0)) dX6_isWithin_14 rfl 15 rfl ?_
    replace h := Option.some.inj h
    subst h
    exact z_zret hX dX6_isWithin_15 rfl (by decide) hk
  · replace h := br_neg h c1
    refine z_iload_n hX dX6_isWithin_5 0 rfl 6 rfl ?_
    refine z_iload_n hX dX6_isWithin_6 2 rfl 7 rfl ?_
    refine z_icmp_gt hX 14 dX6_isWithin_7 (by decide) 10 rfl (fun c2 => ?_) (fun c2 => ?_)
    · replace h := br_pos h c2
      refine z_iconst hX (v := (nI 0)) dX6_isWithin_14 rfl 15 rfl ?_
      replace h := Option.some.inj h
      subst h
      exact z_zret hX dX6_isWithin_15 rfl (by decide) hk
    · replace h := br_neg h c2
      refine z_iconst hX (v := (nI 1)) dX6_isWithin_10 rfl 11 rfl ?_
      refine z_goto hX 15 dX6_isWithin_11 (by decide) ?_
      replace h := Option.some.inj h
      subst h
      exact z_zret hX dX6_isWithin_15 rfl (by decide) hk
theorem c_X6_isWithin {lc : Launch} {Γ : Gm} {a0 : Int32} {a1 : Int32} {a2 : Int32} {s s2 : St} {v : Int32} (h : f_X6_isWithin a0 a1 a2 s = some (v, s2)) : Ct lc Γ yX6_isWithin cX6_isWithin 3 (some .boolean) 0 [.int a0, .int a1, .int a2] s (some (.int v), s2) := Ct.of (by decide +kernel) (Nat.le_of_ble_eq_true rfl) (fun X hl hX => e_X6_isWithin hX h rfl)
theorem dX6_isSheet_0 : decode cX6_isSheet 0 = .ok (.iload_n 0, 1) := by decide +kernel
theorem dX6_isSheet_1 : decode cX6_isSheet 1 = .ok (.iconst 0, 1) := by decide +kernel
theorem dX6_isSheet_2 : decode cX6_isSheet 2 = .ok (.iconst 3, 1) := by decide +kernel
theorem dX6_isSheet_3 : decode cX6_isSheet 3 = .ok (.invokestatic 62, 3) := by decide +kernel
theorem dX6_isSheet_6 : decode cX6_isSheet 6 = .ok (.ireturn, 1) := by decide +kernel
def f_X6_isSheet (a0 : Int32) (s : St) : Option (Int32 × St) := cl (f_X6_isWithin a0 (nI 0) (nI 3) s) (fun x2 s1 => if x2 = 0 ∨ x2 = 1 then some ((x2, s1)) else none)
set_option maxHeartbeats 4000000 in
set_option maxRecDepth 100000 in
theorem e_X6_isSheet {X : Cx} {Γ : Gm} {r0 : Rb} (hX : Amb X Γ cX6_isSheet RX6 1 (some .boolean) 1) {a0 : Int32} {s : St} {t : Int32 × St} (h : f_X6_isSheet a0 s = some t) (hk : (fun t : Int32 × St => Rt X Γ r0 (some (Value.int t.1), t.2)) t) : Zw X Γ 1 r0 s 0 [(0, .int a0)] [] := by
  unfold f_X6_isSheet at h
  refine z_iload_n hX dX6_isSheet_0 0 rfl 1 rfl ?_
  refine z_iconst hX (v := (nI 0)) dX6_isSheet_1 rfl 2 rfl ?_
  refine z_iconst hX (v := (nI 3)) dX6_isSheet_2 rfl 3 rfl ?_
  replace h := cl_elim h
  obtain ⟨x2, s1, hx2, h⟩ := h
  refine z_cSi hX (As := [.int a0, .int ((nI 0)), .int ((nI 3))]) (c_X6_isWithin hx2) lk_X6_62 ds_X6_isWithin rfl (by decide) (by decide) (by decide) dX6_isSheet_3 rfl 6 rfl ?_
  replace h := gd_elim h
  obtain ⟨g3, h⟩ := h
  replace h := Option.some.inj h
  subst h
  exact z_zret hX dX6_isSheet_6 rfl g3 hk
theorem c_X6_isSheet {lc : Launch} {Γ : Gm} {a0 : Int32} {s s2 : St} {v : Int32} (h : f_X6_isSheet a0 s = some (v, s2)) : Ct lc Γ yX6_isSheet cX6_isSheet 1 (some .boolean) 1 [.int a0] s (some (.int v), s2) := Ct.of (by decide +kernel) (Nat.le_of_ble_eq_true rfl) (fun X hl hX => e_X6_isSheet hX h rfl)
theorem dX6_isLane_0 : decode cX6_isLane 0 = .ok (.iload_n 0, 1) := by decide +kernel
theorem dX6_isLane_1 : decode cX6_isLane 1 = .ok (.iconst 0, 1) := by decide +kernel
theorem dX6_isLane_2 : decode cX6_isLane 2 = .ok (.iconst 2, 1) := by decide +kernel
theorem dX6_isLane_3 : decode cX6_isLane 3 = .ok (.invokestatic 62, 3) := by decide +kernel
theorem dX6_isLane_6 : decode cX6_isLane 6 = .ok (.ireturn, 1) := by decide +kernel
def f_X6_isLane (a0 : Int32) (s : St) : Option (Int32 × St) := cl (f_X6_isWithin a0 (nI 0) (nI 2) s) (fun x2 s1 => if x2 = 0 ∨ x2 = 1 then some ((x2, s1)) else none)
set_option maxHeartbeats 4000000 in
set_option maxRecDepth 100000 in
theorem e_X6_isLane {X : Cx} {Γ : Gm} {r0 : Rb} (hX : Amb X Γ cX6_isLane RX6 1 (some .boolean) 1) {a0 : Int32} {s : St} {t : Int32 × St} (h : f_X6_isLane a0 s = some t) (hk : (fun t : Int32 × St => Rt X Γ r0 (some (Value.int t.1), t.2)) t) : Zw X Γ 1 r0 s 0 [(0, .int a0)] [] := by
  unfold f_X6_isLane at h
  refine z_iload_n hX dX6_isLane_0 0 rfl 1 rfl ?_
  refine z_iconst hX (v := (nI 0)) dX6_isLane_1 rfl 2 rfl ?_
  refine z_iconst hX (v := (nI 2)) dX6_isLane_2 rfl 3 rfl ?_
  replace h := cl_elim h
  obtain ⟨x2, s1, hx2, h⟩ := h
  refine z_cSi hX (As := [.int a0, .int ((nI 0)), .int ((nI 2))]) (c_X6_isWithin hx2) lk_X6_62 ds_X6_isWithin rfl (by decide) (by decide) (by decide) dX6_isLane_3 rfl 6 rfl ?_
  replace h := gd_elim h
  obtain ⟨g3, h⟩ := h
  replace h := Option.some.inj h
  subst h
  exact z_zret hX dX6_isLane_6 rfl g3 hk
theorem c_X6_isLane {lc : Launch} {Γ : Gm} {a0 : Int32} {s s2 : St} {v : Int32} (h : f_X6_isLane a0 s = some (v, s2)) : Ct lc Γ yX6_isLane cX6_isLane 1 (some .boolean) 1 [.int a0] s (some (.int v), s2) := Ct.of (by decide +kernel) (Nat.le_of_ble_eq_true rfl) (fun X hl hX => e_X6_isLane hX h rfl)
theorem dX6_replace_0 : decode cX6_replace 0 = .ok (.aload_n 0, 1) := by decide +kernel
theorem dX6_replace_1 : decode cX6_replace 1 = .ok (.iload_n 1, 1) := by decide +kernel
theorem dX6_replace_2 : decode cX6_replace 2 = .ok (.iaload, 1) := by decide +kernel
theorem dX6_replace_3 : decode cX6_replace 3 = .ok (.istore_n 3, 1) := by decide +kernel
theorem dX6_replace_4 : decode cX6_replace 4 = .ok (.aload_n 0, 1) := by decide +kernel
theorem dX6_replace_5 : decode cX6_replace 5 = .ok (.iload_n 1, 1) := by decide +kernel
theorem dX6_replace_6 : decode cX6_replace 6 = .ok (.iload_n 2, 1) := by decide +kernel
theorem dX6_replace_7 : decode cX6_replace 7 = .ok (.iastore, 1) := by decide +kernel
theorem dX6_replace_8 : decode cX6_replace 8 = .ok (.iload_n 3, 1) := by decide +kernel
theorem dX6_replace_9 : decode cX6_replace 9 = .ok (.ireturn, 1) := by decide +kernel
def f_X6_replace (a0 : Nat) (a1 : Int32) (a2 : Int32) (s : St) : Option (Int32 × St) := if inb a1 (lnI a0) = true then bd (s.1 a0 (a1).toNatClampNeg) (fun x2 => bd (wI s a0 (a1).toNatClampNeg a2) (fun s3 => some ((x2, s3)))) else none
set_option maxHeartbeats 4000000 in
set_option maxRecDepth 100000 in
theorem e_X6_replace {X : Cx} {Γ : Gm} {r0 : Rb} (hX : Amb X Γ cX6_replace RX6 4 (some .int) 0) {a0 : Nat} {a1 : Int32} {a2 : Int32} {s : St} {t : Int32 × St} (h : f_X6_replace a0 a1 a2 s = some t) (hk : (fun t : Int32 × St => Rt X Γ r0 (some (Value.int t.1), t.2)) t) : Zw X Γ 4 r0 s 0 [(0, .ref (gL Γ (a0))), (1, .int a1), (2, .int a2)] [] := by
  unfold f_X6_replace at h
  refine z_aload_n hX dX6_replace_0 0 rfl 1 rfl ?_
  refine z_iload_n hX dX6_replace_1 1 rfl 2 rfl ?_
  replace h := gd_elim h
  obtain ⟨g1, h⟩ := h
  refine z_iald hX (inb_vp g1) dX6_replace_2 3 rfl ?_
  replace h := bd_elim h
  obtain ⟨x2, ex2, h⟩ := h
  refine z_nm ex2 ?_
  refine z_istore_n hX (lv2 := [(3, .int x2), (0, .ref (gL Γ (a0))), (1, .int a1), (2, .int a2)]) dX6_replace_3 (by decide) rfl 4 rfl ?_
  refine z_aload_n hX dX6_replace_4 1 rfl 5 rfl ?_
  refine z_iload_n hX dX6_replace_5 2 rfl 6 rfl ?_
  refine z_iload_n hX dX6_replace_6 3 rfl 7 rfl ?_
  replace h := bd_elim h
  obtain ⟨s3, es3, h⟩ := h
  refine z_iast hX (inb_vp g1) dX6_replace_7 es3 8 rfl ?_
  refine z_iload_n hX dX6_replace_8 0 rfl 9 rfl ?_
  replace h := Option.some.inj h
  subst h
  exact z_iret hX dX6_replace_9 rfl hk
theorem c_X6_replace {lc : Launch} {Γ : Gm} {a0 : Nat} {a1 : Int32} {a2 : Int32} {s s2 : St} {v : Int32} (h : f_X6_replace a0 a1 a2 s = some (v, s2)) : Ct lc Γ yX6_replace cX6_replace 4 (some .int) 0 [.ref (gL Γ (a0)), .int a1, .int a2] s (some (.int v), s2) := Ct.of (by decide +kernel) (Nat.le_of_ble_eq_true rfl) (fun X hl hX => e_X6_replace hX h rfl)
theorem dX6_cellOf_0 : decode cX6_cellOf 0 = .ok (.iload_n 0, 1) := by decide +kernel
theorem dX6_cellOf_1 : decode cX6_cellOf 1 = .ok (.ifCond .lt 19, 3) := by decide +kernel
theorem dX6_cellOf_4 : decode cX6_cellOf 4 = .ok (.iload_n 0, 1) := by decide +kernel
theorem dX6_cellOf_5 : decode cX6_cellOf 5 = .ok (.bipush 10, 2) := by decide +kernel
theorem dX6_cellOf_7 : decode cX6_cellOf 7 = .ok (.idiv, 1) := by decide +kernel
theorem dX6_cellOf_8 : decode cX6_cellOf 8 = .ok (.iconst 5, 1) := by decide +kernel
theorem dX6_cellOf_9 : decode cX6_cellOf 9 = .ok (.if_icmp .ge 11, 3) := by decide +kernel
theorem dX6_cellOf_12 : decode cX6_cellOf 12 = .ok (.iload_n 0, 1) := by decide +kernel
theorem dX6_cellOf_13 : decode cX6_cellOf 13 = .ok (.bipush 10, 2) := by decide +kernel
theorem dX6_cellOf_15 : decode cX6_cellOf 15 = .ok (.irem, 1) := by decide +kernel
theorem dX6_cellOf_16 : decode cX6_cellOf 16 = .ok (.iconst 4, 1) := by decide +kernel
theorem dX6_cellOf_17 : decode cX6_cellOf 17 = .ok (.if_icmp .lt 5, 3) := by decide +kernel
theorem dX6_cellOf_20 : decode cX6_cellOf 20 = .ok (.iconst (-1), 1) := by decide +kernel
theorem dX6_cellOf_21 : decode cX6_cellOf 21 = .ok (.ireturn, 1) := by decide +kernel
theorem dX6_cellOf_22 : decode cX6_cellOf 22 = .ok (.iload_n 0, 1) := by decide +kernel
theorem dX6_cellOf_23 : decode cX6_cellOf 23 = .ok (.bipush 10, 2) := by decide +kernel
theorem dX6_cellOf_25 : decode cX6_cellOf 25 = .ok (.idiv, 1) := by decide +kernel
theorem dX6_cellOf_26 : decode cX6_cellOf 26 = .ok (.iconst 4, 1) := by decide +kernel
theorem dX6_cellOf_27 : decode cX6_cellOf 27 = .ok (.imul, 1) := by decide +kernel
theorem dX6_cellOf_28 : decode cX6_cellOf 28 = .ok (.iload_n 0, 1) := by decide +kernel
theorem dX6_cellOf_29 : decode cX6_cellOf 29 = .ok (.bipush 10, 2) := by decide +kernel
theorem dX6_cellOf_31 : decode cX6_cellOf 31 = .ok (.irem, 1) := by decide +kernel
theorem dX6_cellOf_32 : decode cX6_cellOf 32 = .ok (.iadd, 1) := by decide +kernel
theorem dX6_cellOf_33 : decode cX6_cellOf 33 = .ok (.ireturn, 1) := by decide +kernel
def f_X6_cellOf (a0 : Int32) (s : St) : Option (Int32 × St) := if a0 < 0 then (some (((-1), s))) else (if (nI 5) ≤ (a0 / (nI 10)) then (some (((-1), s))) else (if (a0 - a0 / (nI 10) * (nI 10)) < (nI 4) then (some (((((a0 / (nI 10)) * (nI 4)) + (a0 - a0 / (nI 10) * (nI 10))), s))) else (some (((-1), s)))))
set_option maxHeartbeats 4000000 in
set_option maxRecDepth 100000 in
theorem e_X6_cellOf {X : Cx} {Γ : Gm} {r0 : Rb} (hX : Amb X Γ cX6_cellOf RX6 1 (some .int) 0) {a0 : Int32} {s : St} {t : Int32 × St} (h : f_X6_cellOf a0 s = some t) (hk : (fun t : Int32 × St => Rt X Γ r0 (some (Value.int t.1), t.2)) t) : Zw X Γ 1 r0 s 0 [(0, .int a0)] [] := by
  unfold f_X6_cellOf at h
  refine z_iload_n hX dX6_cellOf_0 0 rfl 1 rfl ?_
  refine z_if_lt hX 20 dX6_cellOf_1 (by decide) 4 rfl (fun c1 => ?_) (fun c1 => ?_)
  · replace h := br_pos h c1
    refine z_iconst hX (v := (-1)) dX6_cellOf_20 rfl 21 rfl ?_
    replace h := Option.some.inj h
    subst h
    exact z_iret hX dX6_cellOf_21 rfl hk
  · replace h := br_neg h c1
    refine z_iload_n hX dX6_cellOf_4 0 rfl 5 rfl ?_
    refine z_bipush hX (v := (nI 10)) dX6_cellOf_5 (by decide) 7 rfl ?_
    refine z_idiv hX dX6_cellOf_7 (by decide) 8 rfl ?_
    refine z_iconst hX (v := (nI 5)) dX6_cellOf_8 rfl 9 rfl ?_
    refine z_icmp_ge hX 20 dX6_cellOf_9 (by decide) 12 rfl (fun c2 => ?_) (fun c2 => ?_)
    · replace h := br_pos h c2
      refine z_iconst hX (v := (-1)) dX6_cellOf_20 rfl 21 rfl ?_
      replace h := Option.some.inj h
      subst h
      exact z_iret hX dX6_cellOf_21 rfl hk
    · replace h := br_neg h c2
      refine z_iload_n hX dX6_cellOf_12 0 rfl 13 rfl ?_
      refine z_bipush hX (v := (nI 10)) dX6_cellOf_13 (by decide) 15 rfl ?_
      refine z_irem hX dX6_cellOf_15 (by decide) 16 rfl ?_
      refine z_iconst hX (v := (nI 4)) dX6_cellOf_16 rfl 17 rfl ?_
      refine z_icmp_lt hX 22 dX6_cellOf_17 (by decide) 20 rfl (fun c3 => ?_) (fun c3 => ?_)
      · replace h := br_pos h c3
        refine z_iload_n hX dX6_cellOf_22 0 rfl 23 rfl ?_
        refine z_bipush hX (v := (nI 10)) dX6_cellOf_23 (by decide) 25 rfl ?_
        refine z_idiv hX dX6_cellOf_25 (by decide) 26 rfl ?_
        refine z_iconst hX (v := (nI 4)) dX6_cellOf_26 rfl 27 rfl ?_
        refine z_imul hX dX6_cellOf_27 28 rfl ?_
        refine z_iload_n hX dX6_cellOf_28 0 rfl 29 rfl ?_
        refine z_bipush hX (v := (nI 10)) dX6_cellOf_29 (by decide) 31 rfl ?_
        refine z_irem hX dX6_cellOf_31 (by decide) 32 rfl ?_
        refine z_iadd hX dX6_cellOf_32 33 rfl ?_
        replace h := Option.some.inj h
        subst h
        exact z_iret hX dX6_cellOf_33 rfl hk
      · replace h := br_neg h c3
        refine z_iconst hX (v := (-1)) dX6_cellOf_20 rfl 21 rfl ?_
        replace h := Option.some.inj h
        subst h
        exact z_iret hX dX6_cellOf_21 rfl hk
theorem c_X6_cellOf {lc : Launch} {Γ : Gm} {a0 : Int32} {s s2 : St} {v : Int32} (h : f_X6_cellOf a0 s = some (v, s2)) : Ct lc Γ yX6_cellOf cX6_cellOf 1 (some .int) 0 [.int a0] s (some (.int v), s2) := Ct.of (by decide +kernel) (Nat.le_of_ble_eq_true rfl) (fun X hl hX => e_X6_cellOf hX h rfl)
theorem dX6_isCell_0 : decode cX6_isCell 0 = .ok (.iload_n 0, 1) := by decide +kernel
theorem dX6_isCell_1 : decode cX6_isCell 1 = .ok (.invokestatic 161, 3) := by decide +kernel
theorem dX6_isCell_4 : decode cX6_isCell 4 = .ok (.ifCond .lt 7, 3) := by decide +kernel
theorem dX6_isCell_7 : decode cX6_isCell 7 = .ok (.iconst 1, 1) := by decide +kernel
theorem dX6_isCell_8 : decode cX6_isCell 8 = .ok (.goto 4, 3) := by decide +kernel
theorem dX6_isCell_11 : decode cX6_isCell 11 = .ok (.iconst 0, 1) := by decide +kernel
theorem dX6_isCell_12 : decode cX6_isCell 12 = .ok (.ireturn, 1) := by decide +kernel
def f_X6_isCell (a0 : Int32) (s : St) : Option (Int32 × St) := cl (f_X6_cellOf a0 s) (fun x2 s1 => if x2 < 0 then (some (((nI 0), s1))) else (some (((nI 1), s1))))
set_option maxHeartbeats 4000000 in
set_option maxRecDepth 100000 in
theorem e_X6_isCell {X : Cx} {Γ : Gm} {r0 : Rb} (hX : Amb X Γ cX6_isCell RX6 1 (some .boolean) 1) {a0 : Int32} {s : St} {t : Int32 × St} (h : f_X6_isCell a0 s = some t) (hk : (fun t : Int32 × St => Rt X Γ r0 (some (Value.int t.1), t.2)) t) : Zw X Γ 1 r0 s 0 [(0, .int a0)] [] := by
  unfold f_X6_isCell at h
  refine z_iload_n hX dX6_isCell_0 0 rfl 1 rfl ?_
  replace h := cl_elim h
  obtain ⟨x2, s1, hx2, h⟩ := h
  refine z_cSi hX (As := [.int a0]) (c_X6_cellOf hx2) lk_X6_161 ds_X6_cellOf rfl (by decide) (by decide) (by decide) dX6_isCell_1 rfl 4 rfl ?_
  refine z_if_lt hX 11 dX6_isCell_4 (by decide) 7 rfl (fun c3 => ?_) (fun c3 => ?_)
  · replace h := br_pos h c3
    refine z_iconst hX (v := (nI 0)) dX6_isCell_11 rfl 12 rfl ?_
    replace h := Option.some.inj h
    subst h
    exact z_zret hX dX6_isCell_12 rfl (by decide) hk
  · replace h := br_neg h c3
    refine z_iconst hX (v := (nI 1)) dX6_isCell_7 rfl 8 rfl ?_
    refine z_goto hX 12 dX6_isCell_8 (by decide) ?_
    replace h := Option.some.inj h
    subst h
    exact z_zret hX dX6_isCell_12 rfl (by decide) hk
theorem c_X6_isCell {lc : Launch} {Γ : Gm} {a0 : Int32} {s s2 : St} {v : Int32} (h : f_X6_isCell a0 s = some (v, s2)) : Ct lc Γ yX6_isCell cX6_isCell 1 (some .boolean) 1 [.int a0] s (some (.int v), s2) := Ct.of (by decide +kernel) (Nat.le_of_ble_eq_true rfl) (fun X hl hX => e_X6_isCell hX h rfl)
theorem dX6_nameOf_0 : decode cX6_nameOf 0 = .ok (.iload_n 0, 1) := by decide +kernel
theorem dX6_nameOf_1 : decode cX6_nameOf 1 = .ok (.iconst 4, 1) := by decide +kernel
theorem dX6_nameOf_2 : decode cX6_nameOf 2 = .ok (.idiv, 1) := by decide +kernel
theorem dX6_nameOf_3 : decode cX6_nameOf 3 = .ok (.bipush 10, 2) := by decide +kernel
theorem dX6_nameOf_5 : decode cX6_nameOf 5 = .ok (.imul, 1) := by decide +kernel
theorem dX6_nameOf_6 : decode cX6_nameOf 6 = .ok (.iload_n 0, 1) := by decide +kernel
theorem dX6_nameOf_7 : decode cX6_nameOf 7 = .ok (.iconst 4, 1) := by decide +kernel
theorem dX6_nameOf_8 : decode cX6_nameOf 8 = .ok (.irem, 1) := by decide +kernel
theorem dX6_nameOf_9 : decode cX6_nameOf 9 = .ok (.iadd, 1) := by decide +kernel
theorem dX6_nameOf_10 : decode cX6_nameOf 10 = .ok (.ireturn, 1) := by decide +kernel
def f_X6_nameOf (a0 : Int32) (s : St) : Option (Int32 × St) := some (((((a0 / (nI 4)) * (nI 10)) + (a0 - a0 / (nI 4) * (nI 4))), s))
set_option maxHeartbeats 4000000 in
set_option maxRecDepth 100000 in
theorem e_X6_nameOf {X : Cx} {Γ : Gm} {r0 : Rb} (hX : Amb X Γ cX6_nameOf RX6 1 (some .int) 0) {a0 : Int32} {s : St} {t : Int32 × St} (h : f_X6_nameOf a0 s = some t) (hk : (fun t : Int32 × St => Rt X Γ r0 (some (Value.int t.1), t.2)) t) : Zw X Γ 1 r0 s 0 [(0, .int a0)] [] := by
  unfold f_X6_nameOf at h
  refine z_iload_n hX dX6_nameOf_0 0 rfl 1 rfl ?_
  refine z_iconst hX (v := (nI 4)) dX6_nameOf_1 rfl 2 rfl ?_
  refine z_idiv hX dX6_nameOf_2 (by decide) 3 rfl ?_
  refine z_bipush hX (v := (nI 10)) dX6_nameOf_3 (by decide) 5 rfl ?_
  refine z_imul hX dX6_nameOf_5 6 rfl ?_
  refine z_iload_n hX dX6_nameOf_6 0 rfl 7 rfl ?_
  refine z_iconst hX (v := (nI 4)) dX6_nameOf_7 rfl 8 rfl ?_
  refine z_irem hX dX6_nameOf_8 (by decide) 9 rfl ?_
  refine z_iadd hX dX6_nameOf_9 10 rfl ?_
  replace h := Option.some.inj h
  subst h
  exact z_iret hX dX6_nameOf_10 rfl hk
theorem c_X6_nameOf {lc : Launch} {Γ : Gm} {a0 : Int32} {s s2 : St} {v : Int32} (h : f_X6_nameOf a0 s = some (v, s2)) : Ct lc Γ yX6_nameOf cX6_nameOf 1 (some .int) 0 [.int a0] s (some (.int v), s2) := Ct.of (by decide +kernel) (Nat.le_of_ble_eq_true rfl) (fun X hl hX => e_X6_nameOf hX h rfl)
theorem dX6_rowOf_0 : decode cX6_rowOf 0 = .ok (.iload_n 0, 1) := by decide +kernel
theorem dX6_rowOf_1 : decode cX6_rowOf 1 = .ok (.iconst 4, 1) := by decide +kernel
theorem dX6_rowOf_2 : decode cX6_rowOf 2 = .ok (.irem, 1) := by decide +kernel
theorem dX6_rowOf_3 : decode cX6_rowOf 3 = .ok (.ireturn, 1) := by decide +kernel
def f_X6_rowOf (a0 : Int32) (s : St) : Option (Int32 × St) := some (((a0 - a0 / (nI 4) * (nI 4)), s))
set_option maxHeartbeats 4000000 in
set_option maxRecDepth 100000 in
theorem e_X6_rowOf {X : Cx} {Γ : Gm} {r0 : Rb} (hX : Amb X Γ cX6_rowOf RX6 1 (some .int) 0) {a0 : Int32} {s : St} {t : Int32 × St} (h : f_X6_rowOf a0 s = some t) (hk : (fun t : Int32 × St => Rt X Γ r0 (some (Value.int t.1), t.2)) t) : Zw X Γ 1 r0 s 0 [(0, .int a0)] [] := by
  unfold f_X6_rowOf at h
  refine z_iload_n hX dX6_rowOf_0 0 rfl 1 rfl ?_
  refine z_iconst hX (v := (nI 4)) dX6_rowOf_1 rfl 2 rfl ?_
  refine z_irem hX dX6_rowOf_2 (by decide) 3 rfl ?_
  replace h := Option.some.inj h
  subst h
  exact z_iret hX dX6_rowOf_3 rfl hk
theorem c_X6_rowOf {lc : Launch} {Γ : Gm} {a0 : Int32} {s s2 : St} {v : Int32} (h : f_X6_rowOf a0 s = some (v, s2)) : Ct lc Γ yX6_rowOf cX6_rowOf 1 (some .int) 0 [.int a0] s (some (.int v), s2) := Ct.of (by decide +kernel) (Nat.le_of_ble_eq_true rfl) (fun X hl hX => e_X6_rowOf hX h rfl)
theorem dJ7_fill_53178_0 : decode cJ7_fill_53178 0 = .ok (.iconst 0, 1) := by decide +kernel
theorem dJ7_fill_53178_1 : decode cJ7_fill_53178 1 = .ok (.istore_n 2, 1) := by decide +kernel
theorem dJ7_fill_53178_2 : decode cJ7_fill_53178 2 = .ok (.aload_n 0, 1) := by decide +kernel
theorem dJ7_fill_53178_3 : decode cJ7_fill_53178 3 = .ok (.arraylength, 1) := by decide +kernel
theorem dJ7_fill_53178_4 : decode cJ7_fill_53178 4 = .ok (.istore_n 3, 1) := by decide +kernel
theorem dJ7_fill_53178_5 : decode cJ7_fill_53178 5 = .ok (.iload_n 2, 1) := by decide +kernel
theorem dJ7_fill_53178_6 : decode cJ7_fill_53178 6 = .ok (.iload_n 3, 1) := by decide +kernel
theorem dJ7_fill_53178_7 : decode cJ7_fill_53178 7 = .ok (.if_icmp .ge 13, 3) := by decide +kernel
theorem dJ7_fill_53178_10 : decode cJ7_fill_53178 10 = .ok (.aload_n 0, 1) := by decide +kernel
theorem dJ7_fill_53178_11 : decode cJ7_fill_53178 11 = .ok (.iload_n 2, 1) := by decide +kernel
theorem dJ7_fill_53178_12 : decode cJ7_fill_53178 12 = .ok (.iload_n 1, 1) := by decide +kernel
theorem dJ7_fill_53178_13 : decode cJ7_fill_53178 13 = .ok (.iastore, 1) := by decide +kernel
theorem dJ7_fill_53178_14 : decode cJ7_fill_53178 14 = .ok (.iinc 2 1, 3) := by decide +kernel
theorem dJ7_fill_53178_17 : decode cJ7_fill_53178 17 = .ok (.goto (-12), 3) := by decide +kernel
theorem dJ7_fill_53178_20 : decode cJ7_fill_53178 20 = .ok (.return_, 1) := by decide +kernel
def f_J7_fill_53178_L5 (v0 : Nat) (v1 : Int32) (v3 : Int32) (v2 : Int32) (s : St) : Option ((Int32 × St) ⊕ (Unit × St)) := if v3 ≤ v2 then (some (Sum.inr (((), s)))) else (if inb v2 (lnI v0) = true then bd (wI s v0 (v2).toNatClampNeg v1) (fun s5 => some (Sum.inl ((v2 + (nI 1)), s5))) else none)
def f_J7_fill_53178 (a0 : Nat) (a1 : Int32) (s : St) : Option (Unit × St) := if kd (a0) = 9 then bd (nI (ln a0)) (fun x2 => lp (fun q : Int32 × St => f_J7_fill_53178_L5 a0 a1 x2 q.1 q.2) Fu ((nI 0), s)) else none
set_option maxHeartbeats 4000000 in
set_option maxRecDepth 100000 in
theorem e_J7_fill_53178_L5 {X : Cx} {Γ : Gm} {r0 : Rb} (hX : Amb X Γ cJ7_fill_53178 RJ7 4 none 0) {v0 : Nat} {v1 : Int32} {v3 : Int32} {v2 : Int32} {s : St} {t : (Int32 × St) ⊕ (Unit × St)} (h : f_J7_fill_53178_L5 v0 v1 v3 v2 s = some t) (hk : (Sum.elim (fun q : Int32 × St => Zw X Γ 4 r0 q.2 5 [(0, .ref (gL Γ (v0))), (1, .int v1), (2, .int q.1), (3, .int v3)] []) (fun t : Unit × St => Rt X Γ r0 (none, t.2))) t) : Zw X Γ 4 r0 s 5 [(0, .ref (gL Γ (v0))), (1, .int v1), (2, .int v2), (3, .int v3)] [] := by
  unfold f_J7_fill_53178_L5 at h
  refine z_iload_n hX dJ7_fill_53178_5 2 rfl 6 rfl ?_
  refine z_iload_n hX dJ7_fill_53178_6 3 rfl 7 rfl ?_
  refine z_icmp_ge hX 20 dJ7_fill_53178_7 (by decide) 10 rfl (fun c3 => ?_) (fun c3 => ?_)
  · replace h := br_pos h c3
    replace h := Option.some.inj h
    subst h
    exact z_vret hX dJ7_fill_53178_20 rfl hk
  · replace h := br_neg h c3
    refine z_aload_n hX dJ7_fill_53178_10 0 rfl 11 rfl ?_
    refine z_iload_n hX dJ7_fill_53178_11 2 rfl 12 rfl ?_
    refine z_iload_n hX dJ7_fill_53178_12 1 rfl 13 rfl ?_
    replace h := gd_elim h
    obtain ⟨g4, h⟩ := h
    replace h := bd_elim h
    obtain ⟨s5, es5, h⟩ := h
    refine z_iast hX (inb_vp g4) dJ7_fill_53178_13 es5 14 rfl ?_
    refine z_iinc hX (v := (v2 + (nI 1))) (lv2 := [(2, .int ((v2 + (nI 1)))), (0, .ref (gL Γ (v0))), (1, .int v1), (3, .int v3)]) dJ7_fill_53178_14 2 rfl rfl (by decide) rfl 17 rfl ?_
    refine z_goto hX 5 dJ7_fill_53178_17 (by decide) ?_
    replace h := Option.some.inj h
    subst h
    exact z_sub [1, 2, 0, 3] rfl hk
set_option maxHeartbeats 4000000 in
set_option maxRecDepth 100000 in
theorem e_J7_fill_53178 {X : Cx} {Γ : Gm} {r0 : Rb} (hX : Amb X Γ cJ7_fill_53178 RJ7 4 none 0) {a0 : Nat} {a1 : Int32} {s : St} {t : Unit × St} (h : f_J7_fill_53178 a0 a1 s = some t) (hk : (fun t : Unit × St => Rt X Γ r0 (none, t.2)) t) : Zw X Γ 4 r0 s 0 [(0, .ref (gL Γ (a0))), (1, .int a1)] [] := by
  unfold f_J7_fill_53178 at h
  refine z_iconst hX (v := (nI 0)) dJ7_fill_53178_0 rfl 1 rfl ?_
  refine z_istore_n hX (lv2 := [(2, .int ((nI 0))), (0, .ref (gL Γ (a0))), (1, .int a1)]) dJ7_fill_53178_1 (by decide) rfl 2 rfl ?_
  refine z_aload_n hX dJ7_fill_53178_2 1 rfl 3 rfl ?_
  replace h := gd_elim h
  obtain ⟨g1, h⟩ := h
  refine z_alenI hX g1 dJ7_fill_53178_3 4 rfl ?_
  replace h := bd_elim h
  obtain ⟨x2, ex2, h⟩ := h
  refine z_nm ex2 ?_
  refine z_istore_n hX (lv2 := [(3, .int x2), (2, .int ((nI 0))), (0, .ref (gL Γ (a0))), (1, .int a1)]) dJ7_fill_53178_4 (by decide) rfl 5 rfl ?_
  exact z_sub [2, 3, 1, 0] rfl (lp_ok (Z := fun q : Int32 × St => Zw X Γ 4 r0 q.2 5 [(0, .ref (gL Γ (a0))), (1, .int a1), (2, .int q.1), (3, .int x2)] []) (fun q t h hk => e_J7_fill_53178_L5 hX h hk) Fu _ _ h hk)
theorem c_J7_fill_53178 {lc : Launch} {Γ : Gm} {a0 : Nat} {a1 : Int32} {s s2 : St} {v : Unit} (h : f_J7_fill_53178 a0 a1 s = some (v, s2)) : Ct lc Γ yJ7_fill_53178 cJ7_fill_53178 4 none 0 [.ref (gL Γ (a0)), .int a1] s (none, s2) := Ct.of (by decide +kernel) (Nat.le_of_ble_eq_true rfl) (fun X hl hX => e_J7_fill_53178 hX h rfl)

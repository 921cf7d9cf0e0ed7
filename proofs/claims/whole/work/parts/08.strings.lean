/-! the String constants of Tape.wordRead: length() and charAt() over them -/
def chS (i j : Nat) : Int32 := (bytS.getD i []).getD j 0
theorem chS_ok : ∀ i, i < 7 → ∀ j, j < 6 → ((chS i j &&& 255).toUInt32 % 65536).toInt32 = chS i j ∧ narrow .char (.int (chS i j)) = .int (chS i j) := by decide +kernel
theorem lenS_ok : ∀ i, i < 7 → lenS.getD i 0 ≤ 6 := by decide +kernel
def f_J0_length_8abf5 (i : Nat) (s : St) : Option (Int32 × St) := if i < 7 then some (nI (lenS.getD i 0), s) else none
def f_J0_charAt_5068e (i : Nat) (k : Int32) (s : St) : Option (Int32 × St) := if i < 7 ∧ inb k (lenS.getD i 0) = true then some (chS i k.toNatClampNeg, s) else none
theorem f_J0_length_8abf5_lt {i : Nat} {s : St} {q : Int32 × St} (h : f_J0_length_8abf5 i s = some q) : i < 7 := (gd_elim h).1
theorem f_J0_charAt_5068e_lt {i : Nat} {k : Int32} {s : St} {q : Int32 × St} (h : f_J0_charAt_5068e i k s = some q) : i < 7 := (gd_elim h).1.1
theorem z_i2c {X : Cx} {Γ : Gm} {cc : ByteArray} {own : String} {nL : Nat} {ret : Option FieldType} {d : Nat} {r : Rb} {s : St} {pc : Nat} {lv : List (Nat × Value)} {st : List Value} (hX : Amb X Γ cc own nL ret d) {x : Int32} (hd : decode cc pc = .ok (.i2c, 1)) (pc2 : Nat) (hp : pc + 1 = pc2) (kk : Zw X Γ nL r s pc2 lv (.int (x.toUInt32 % 65536).toInt32 :: st)) : Zw X Γ nL r s pc lv (.int x :: st) := by
  subst hp
  exact fun H locs ls hP hS hl hc2 => lv_i2c hX.1 hX.2.1 hd rfl (kk H locs ls hP hS hl hc2)
theorem z_gsC {X : Cx} {Γ : Gm} {cc : ByteArray} {own : String} {nL : Nat} {ret : Option FieldType} {d : Nat} {r : Rb} {s : St} {pc : Nat} {lv : List (Nat × Value)} {st : List Value} (hX : Amb X Γ cc own nL ret d) {idx : Nat} (hd : decode cc pc = .ok (.getstatic idx, 3)) (h : Cond.fieldLink own idx "java/lang/String" "COMPACT_STRINGS" "Z" ∈ gt) (pc2 : Nat) (hp : pc + 3 = pc2) (kk : Zw X Γ nL r s pc2 lv (.int 1 :: st)) : Zw X Γ nL r s pc lv (st) := by
  subst hp
  exact fun H locs ls hP hS hl hc2 => va_gets hX.1 hX.2.1 hX.2.2.2.2.2.1.2.2.2.2.1 hS hX.2.2.2.1 (hX.2.2.2.2.1 _ h) (fun _ h => h) hd (kk H locs ls hP hS hl hc2)
theorem z_gsF {X : Cx} {Γ : Gm} {cc : ByteArray} {own : String} {nL : Nat} {ret : Option FieldType} {d : Nat} {r : Rb} {s : St} {pc : Nat} {lv : List (Nat × Value)} {st : List Value} (hX : Amb X Γ cc own nL ret d) {idx : Nat} (hd : decode cc pc = .ok (.getstatic idx, 3)) (h : Cond.fieldLink own idx "jdk/internal/util/Preconditions" "SIOOBE_FORMATTER" "Ljava/util/function/BiFunction;" ∈ gt) (pc2 : Nat) (hp : pc + 3 = pc2) (kk : ∀ v : Value, v.category = 1 → Zw X Γ nL r s pc2 lv (v :: st)) : Zw X Γ nL r s pc lv (st) := by
  subst hp
  intro H locs ls hP hS hl hc2
  rcases hX.2.2.2.2.2.1.2.2.2.2.2 with hz | ⟨t, hz⟩
  · exact va_gets hX.1 hX.2.1 hz hS hX.2.2.2.1 (hX.2.2.2.2.1 _ h) (fun _ h => h) hd (kk .null rfl H locs ls hP hS hl hc2)
  · exact va_gets hX.1 hX.2.1 hz hS hX.2.2.2.1 (hX.2.2.2.2.1 _ h) (fun _ h => h) hd (kk (.ref t) rfl H locs ls hP hS hl hc2)
theorem z_strC {X : Cx} {Γ : Gm} {cc : ByteArray} {own : String} {nL : Nat} {ret : Option FieldType} {d : Nat} {r : Rb} {s : St} {pc : Nat} {lv : List (Nat × Value)} {st : List Value} (hX : Amb X Γ cc own nL ret d) {idx i : Nat} (hi : i < 7) (hd : decode cc pc = .ok (.getfield idx, 3)) (h : Cond.fieldLink own idx "java/lang/String" "coder" "B" ∈ gt) (pc2 : Nat) (hp : pc + 3 = pc2) (kk : Zw X Γ nL r s pc2 lv (.int 0 :: st)) : Zw X Γ nL r s pc lv (.ref (gK Γ i) :: st) := by
  subst hp
  exact fun H locs ls hP hS hl hc2 => vk_getf hX.1 hX.2.1 (hX.2.2.2.2.2.1.2.2.2.1.1 i hi).2.1 hS hX.2.2.2.1 (hX.2.2.2.2.1 _ h) (fun _ h => h) hd (kk H locs ls hP hS hl hc2)
theorem z_strV {X : Cx} {Γ : Gm} {cc : ByteArray} {own : String} {nL : Nat} {ret : Option FieldType} {d : Nat} {r : Rb} {s : St} {pc : Nat} {lv : List (Nat × Value)} {st : List Value} (hX : Amb X Γ cc own nL ret d) {idx i : Nat} (hi : i < 7) (hd : decode cc pc = .ok (.getfield idx, 3)) (h : Cond.fieldLink own idx "java/lang/String" "value" "[B" ∈ gt) (pc2 : Nat) (hp : pc + 3 = pc2) (kk : Zw X Γ nL r s pc2 lv (.ref (gV Γ i) :: st)) : Zw X Γ nL r s pc lv (.ref (gK Γ i) :: st) := by
  subst hp
  exact fun H locs ls hP hS hl hc2 => vk_getf hX.1 hX.2.1 (hX.2.2.2.2.2.1.2.2.2.1.1 i hi).2.2.1 hS hX.2.2.2.1 (hX.2.2.2.2.1 _ h) (fun _ h => h) hd (kk H locs ls hP hS hl hc2)
theorem z_tlen {X : Cx} {Γ : Gm} {cc : ByteArray} {own : String} {nL : Nat} {ret : Option FieldType} {d : Nat} {r : Rb} {s : St} {pc : Nat} {lv : List (Nat × Value)} {st : List Value} (hX : Amb X Γ cc own nL ret d) {i : Nat} (hi : i < 7) (hd : decode cc pc = .ok (.arraylength, 1)) (pc2 : Nat) (hp : pc + 1 = pc2) (kk : Zw X Γ nL r s pc2 lv (.int (nI (lenS.getD i 0)) :: st)) : Zw X Γ nL r s pc lv (.ref (gV Γ i) :: st) := by
  subst hp
  exact fun H locs ls hP hS hl hc2 => va_tlen hX.1 hX.2.1 (hX.2.2.2.2.2.1.2.2.2.1.1 i hi).2.2.2 hS rfl hd (kk H locs ls hP hS hl hc2)
theorem z_tb {X : Cx} {Γ : Gm} {cc : ByteArray} {own : String} {nL : Nat} {ret : Option FieldType} {d : Nat} {r : Rb} {s : St} {pc : Nat} {lv : List (Nat × Value)} {st : List Value} (hX : Amb X Γ cc own nL ret d) {i : Nat} {k : Int32} (hi : i < 7) (hin : vp_in k (lenS.getD i 0)) (hd : decode cc pc = .ok (.baload, 1)) (pc2 : Nat) (hp : pc + 1 = pc2) (kk : Zw X Γ nL r s pc2 lv (.int (chS i k.toNatClampNeg) :: st)) : Zw X Γ nL r s pc lv (.int k :: .ref (gV Γ i) :: st) := by
  subst hp
  exact fun H locs ls hP hS hl hc2 => va_tb hX.1 hX.2.1 (hX.2.2.2.2.2.1.2.2.2.1.1 i hi).2.2.2 hS hin rfl hd (kk H locs ls hP hS hl hc2)
theorem z_ldcS {X : Cx} {Γ : Gm} {cc : ByteArray} {own : String} {nL : Nat} {ret : Option FieldType} {d : Nat} {r : Rb} {s : St} {pc : Nat} {lv : List (Nat × Value)} {st : List Value} (hX : Amb X Γ cc own nL ret d) {idx : Nat} {tx : String} (i : Nat) (hi : txS[i]? = some (idx, tx)) (ho : own = "SmokeSeats$Tape") (hd : decode cc pc = .ok (.ldc idx, 2)) (pc2 : Nat) (hp : pc + 2 = pc2) (kk : Zw X Γ nL r s pc2 lv (.ref (gK Γ i) :: st)) : Zw X Γ nL r s pc lv (st) := by
  subst hp
  exact fun H locs ls hP hS hl hc2 => va_ldcS hX.1 hX.2.1 (ho ▸ hX.2.2.2.1) (hX.2.2.2.2.2.1.2.2.1 i _ hi) hd (kk H locs ls hP hS hl hc2)
theorem z_xret {X : Cx} {Γ : Gm} {cc : ByteArray} {own : String} {nL : Nat} {ret : Option FieldType} {d : Nat} {r : Rb} {s : St} {pc : Nat} {lv : List (Nat × Value)} (hX : Amb X Γ cc own nL ret d) {v : Int32} {ty : FieldType} (hd : decode cc pc = .ok (.ireturn, 1)) (hr : ret = some ty) (hv : narrow ty (.int v) = .int v) (he : Rt X Γ r (some (Value.int v), s)) : Zw X Γ nL r s pc lv ([.int v]) := by subst he; exact fun H locs ls hP hS hl hc2 => W.zret hX.1 hX.2.1 (hX.2.2.2.2.2.2.1.trans hr) hv (fun t ht hW => ⟨⟨rfl, by rw [ht]; exact hP⟩, hS.F ht⟩) hS.2.2 hd hX.2.2.2.2.2.2.2.1
theorem z_cSt {X : Cx} {Γ : Gm} {cc : ByteArray} {own : String} {nL : Nat} {ret : Option FieldType} {d : Nat} {r : Rb} {s : St} {pc : Nat} {lv : List (Nat × Value)} {st st0 : List Value} (hX : Amb X Γ cc own nL ret d) {y : MethodName} {cc2 : ByteArray} {nL2 n d2 idx : Nat} {ret2 : Option FieldType} {As : List Value} {v : Int32} {s2 : St} {b : Nat} (hM : Ct (xl X) Γ y cc2 nL2 ret2 d2 (.ref (gK Γ b) :: As) s (some (.int v), s2)) (hlk : LkV own idx y cc2 nL2 ret2) (hyc : y.cls = "java/lang/String") (hb : b < 7) (hy : Ds y n) (hn : As.length = n) (hR : d2 + 1 ≤ d) (hL : nL2 ≤ 81) (hst : (st.map fun v => v.category).sum ≤ 8) (hd : decode cc pc = .ok (.invokevirtual idx, 3)) (hs : As.reverse ++ .ref (gK Γ b) :: st = st0) (pc2 : Nat) (hp : pc + 3 = pc2) (kk : Zw X Γ nL r s2 pc2 lv (.int v :: st)) : Zw X Γ nL r s pc lv st0 := by
  subst hs; subst hp
  obtain ⟨k1, k2, k3, k4, k5⟩ := hlk
  obtain ⟨hx, hb', hml, hown, hts, hA, -, -, hRR⟩ := hX
  intro H locs ls hP hS hl hc2
  have hCB : CallB (xR X) (xs X) (xa X) own idx y cc2 nL2 ret2 (Cond.code y cc2 nL2 ret2 :: gt) (rmd d2) 0 0 n := callB_of n hts (gt_goodIn k5) rfl rfl rfl (hts _ k4) (hts _ k1) hy (rmd_ok hRR hR hL)
  refine z_run hl hS hc2 (va_runV (C := y.cls) (b := gK Γ b) (As := As) (rest := st) ⟨hx, hb', hml, hown, hts⟩ hM ⟨hCB, hts _ k2, hts _ k3⟩ ⟨Pc_blind, by rw [hyc]; exact vk_recv hA.2.2.2.1 hb hS, pre_at hA hP hS⟩ rfl hn hl.1 rfl (lv_room hst) hd hc2) kk
theorem fl_J0_38 : Cond.fieldLink RJ0 38 "java/lang/String" "COMPACT_STRINGS" "Z" ∈ gt := gt_mem (tm2 (List.mem_of_getElem? (i := 87) rfl)) rfl
theorem fl_J0_9 : Cond.fieldLink RJ0 9 "java/lang/String" "value" "[B" ∈ gt := gt_mem (tm6 (List.mem_of_getElem? (i := 52) rfl)) rfl
theorem fl_J0_15 : Cond.fieldLink RJ0 15 "java/lang/String" "coder" "B" ∈ gt := gt_mem (tm6 (List.mem_of_getElem? (i := 53) rfl)) rfl
theorem fl_J0_1053 : Cond.fieldLink RJ0 1053 "jdk/internal/util/Preconditions" "SIOOBE_FORMATTER" "Ljava/util/function/BiFunction;" ∈ gt := gt_mem (tm2 (List.mem_of_getElem? (i := 103) rfl)) rfl
theorem lk_J0_335 : LkV RJ0 335 yJ0_coder_7d493 cJ0_coder_7d493 1 (some .byte) := ⟨gt_mem (tm2 (List.mem_of_getElem? (i := 83) rfl)) rfl, gt_mem (tm2 (List.mem_of_getElem? (i := 84) rfl)) rfl, gt_mem (tm2 (List.mem_of_getElem? (i := 85) rfl)) rfl, gt_mem (tm1 (List.mem_of_getElem? (i := 10) rfl)) rfl, gt_mem (tm2 (List.mem_of_getElem? (i := 86) rfl)) rfl⟩
theorem ds_J0_coder_7d493 : Ds yJ0_coder_7d493 0 := ⟨by decide +kernel, by decide +kernel, by decide +kernel⟩
theorem lk_J0_492 : LkV RJ0 492 yJ0_isLatin1_aae02 cJ0_isLatin1_aae02 1 (some .boolean) := ⟨gt_mem (tm2 (List.mem_of_getElem? (i := 93) rfl)) rfl, gt_mem (tm2 (List.mem_of_getElem? (i := 94) rfl)) rfl, gt_mem (tm2 (List.mem_of_getElem? (i := 95) rfl)) rfl, gt_mem (tm1 (List.mem_of_getElem? (i := 10) rfl)) rfl, gt_mem (tm2 (List.mem_of_getElem? (i := 96) rfl)) rfl⟩
theorem ds_J0_isLatin1_aae02 : Ds yJ0_isLatin1_aae02 0 := ⟨by decide +kernel, by decide +kernel, by decide +kernel⟩
theorem lk_J0_1059 : LkS RJ0 1059 yJ3_checkIndex_8e157 cJ3_checkIndex_8e157 3 (some .int) := ⟨gt_mem (tm2 (List.mem_of_getElem? (i := 105) rfl)) rfl, gt_mem (tm2 (List.mem_of_getElem? (i := 106) rfl)) rfl, gt_mem (tm1 (List.mem_of_getElem? (i := 12) rfl)) rfl, gt_mem (tm2 (List.mem_of_getElem? (i := 107) rfl)) rfl⟩
theorem ds_J3_checkIndex_8e157 : Ds yJ3_checkIndex_8e157 3 := ⟨by decide +kernel, by decide +kernel, by decide +kernel⟩
theorem lk_J1_9 : LkS RJ1 9 yJ0_checkIndex_df160 cJ0_checkIndex_df160 2 none := ⟨gt_mem (tm2 (List.mem_of_getElem? (i := 100) rfl)) rfl, gt_mem (tm2 (List.mem_of_getElem? (i := 101) rfl)) rfl, gt_mem (tm1 (List.mem_of_getElem? (i := 10) rfl)) rfl, gt_mem (tm2 (List.mem_of_getElem? (i := 102) rfl)) rfl⟩
theorem ds_J0_checkIndex_df160 : Ds yJ0_checkIndex_df160 2 := ⟨by decide +kernel, by decide +kernel, by decide +kernel⟩
theorem lk_J0_495 : LkS RJ0 495 yJ1_charAt_3b067 cJ1_charAt_3b067 2 (some .char) := ⟨gt_mem (tm2 (List.mem_of_getElem? (i := 97) rfl)) rfl, gt_mem (tm2 (List.mem_of_getElem? (i := 98) rfl)) rfl, gt_mem (tm1 (List.mem_of_getElem? (i := 11) rfl)) rfl, gt_mem (tm2 (List.mem_of_getElem? (i := 99) rfl)) rfl⟩
theorem ds_J1_charAt_3b067 : Ds yJ1_charAt_3b067 2 := ⟨by decide +kernel, by decide +kernel, by decide +kernel⟩
theorem dJ0_length_8abf5_0 : decode cJ0_length_8abf5 0 = .ok (.aload_n 0, 1) := by decide +kernel
theorem dJ0_length_8abf5_1 : decode cJ0_length_8abf5 1 = .ok (.getfield 9, 3) := by decide +kernel
theorem dJ0_length_8abf5_4 : decode cJ0_length_8abf5 4 = .ok (.arraylength, 1) := by decide +kernel
theorem dJ0_length_8abf5_5 : decode cJ0_length_8abf5 5 = .ok (.aload_n 0, 1) := by decide +kernel
theorem dJ0_length_8abf5_6 : decode cJ0_length_8abf5 6 = .ok (.invokevirtual 335, 3) := by decide +kernel
theorem dJ0_length_8abf5_9 : decode cJ0_length_8abf5 9 = .ok (.ishr, 1) := by decide +kernel
theorem dJ0_length_8abf5_10 : decode cJ0_length_8abf5 10 = .ok (.ireturn, 1) := by decide +kernel
theorem dJ0_charAt_5068e_0 : decode cJ0_charAt_5068e 0 = .ok (.aload_n 0, 1) := by decide +kernel
theorem dJ0_charAt_5068e_1 : decode cJ0_charAt_5068e 1 = .ok (.invokevirtual 492, 3) := by decide +kernel
theorem dJ0_charAt_5068e_4 : decode cJ0_charAt_5068e 4 = .ok (.ifCond .eq 12, 3) := by decide +kernel
theorem dJ0_charAt_5068e_7 : decode cJ0_charAt_5068e 7 = .ok (.aload_n 0, 1) := by decide +kernel
theorem dJ0_charAt_5068e_8 : decode cJ0_charAt_5068e 8 = .ok (.getfield 9, 3) := by decide +kernel
theorem dJ0_charAt_5068e_11 : decode cJ0_charAt_5068e 11 = .ok (.iload_n 1, 1) := by decide +kernel
theorem dJ0_charAt_5068e_12 : decode cJ0_charAt_5068e 12 = .ok (.invokestatic 495, 3) := by decide +kernel
theorem dJ0_charAt_5068e_15 : decode cJ0_charAt_5068e 15 = .ok (.ireturn, 1) := by decide +kernel
theorem dJ0_charAt_5068e_16 : decode cJ0_charAt_5068e 16 = .ok (.aload_n 0, 1) := by decide +kernel
theorem dJ0_charAt_5068e_17 : decode cJ0_charAt_5068e 17 = .ok (.getfield 9, 3) := by decide +kernel
theorem dJ0_charAt_5068e_20 : decode cJ0_charAt_5068e 20 = .ok (.iload_n 1, 1) := by decide +kernel
theorem dJ0_charAt_5068e_21 : decode cJ0_charAt_5068e 21 = .ok (.invokestatic 498, 3) := by decide +kernel
theorem dJ0_charAt_5068e_24 : decode cJ0_charAt_5068e 24 = .ok (.ireturn, 1) := by decide +kernel
theorem dJ0_coder_7d493_0 : decode cJ0_coder_7d493 0 = .ok (.getstatic 38, 3) := by decide +kernel
theorem dJ0_coder_7d493_3 : decode cJ0_coder_7d493 3 = .ok (.ifCond .eq 10, 3) := by decide +kernel
theorem dJ0_coder_7d493_6 : decode cJ0_coder_7d493 6 = .ok (.aload_n 0, 1) := by decide +kernel
theorem dJ0_coder_7d493_7 : decode cJ0_coder_7d493 7 = .ok (.getfield 15, 3) := by decide +kernel
theorem dJ0_coder_7d493_10 : decode cJ0_coder_7d493 10 = .ok (.goto 4, 3) := by decide +kernel
theorem dJ0_coder_7d493_13 : decode cJ0_coder_7d493 13 = .ok (.iconst 1, 1) := by decide +kernel
theorem dJ0_coder_7d493_14 : decode cJ0_coder_7d493 14 = .ok (.ireturn, 1) := by decide +kernel
theorem dJ0_isLatin1_aae02_0 : decode cJ0_isLatin1_aae02 0 = .ok (.getstatic 38, 3) := by decide +kernel
theorem dJ0_isLatin1_aae02_3 : decode cJ0_isLatin1_aae02 3 = .ok (.ifCond .eq 14, 3) := by decide +kernel
theorem dJ0_isLatin1_aae02_6 : decode cJ0_isLatin1_aae02 6 = .ok (.aload_n 0, 1) := by decide +kernel
theorem dJ0_isLatin1_aae02_7 : decode cJ0_isLatin1_aae02 7 = .ok (.getfield 15, 3) := by decide +kernel
theorem dJ0_isLatin1_aae02_10 : decode cJ0_isLatin1_aae02 10 = .ok (.ifCond .ne 7, 3) := by decide +kernel
theorem dJ0_isLatin1_aae02_13 : decode cJ0_isLatin1_aae02 13 = .ok (.iconst 1, 1) := by decide +kernel
theorem dJ0_isLatin1_aae02_14 : decode cJ0_isLatin1_aae02 14 = .ok (.goto 4, 3) := by decide +kernel
theorem dJ0_isLatin1_aae02_17 : decode cJ0_isLatin1_aae02 17 = .ok (.iconst 0, 1) := by decide +kernel
theorem dJ0_isLatin1_aae02_18 : decode cJ0_isLatin1_aae02 18 = .ok (.ireturn, 1) := by decide +kernel
theorem dJ0_checkIndex_df160_0 : decode cJ0_checkIndex_df160 0 = .ok (.iload_n 0, 1) := by decide +kernel
theorem dJ0_checkIndex_df160_1 : decode cJ0_checkIndex_df160 1 = .ok (.iload_n 1, 1) := by decide +kernel
theorem dJ0_checkIndex_df160_2 : decode cJ0_checkIndex_df160 2 = .ok (.getstatic 1053, 3) := by decide +kernel
theorem dJ0_checkIndex_df160_5 : decode cJ0_checkIndex_df160 5 = .ok (.invokestatic 1059, 3) := by decide +kernel
theorem dJ0_checkIndex_df160_8 : decode cJ0_checkIndex_df160 8 = .ok (.pop, 1) := by decide +kernel
theorem dJ0_checkIndex_df160_9 : decode cJ0_checkIndex_df160 9 = .ok (.return_, 1) := by decide +kernel
theorem dJ1_charAt_3b067_0 : decode cJ1_charAt_3b067 0 = .ok (.iload_n 1, 1) := by decide +kernel
theorem dJ1_charAt_3b067_1 : decode cJ1_charAt_3b067 1 = .ok (.aload_n 0, 1) := by decide +kernel
theorem dJ1_charAt_3b067_2 : decode cJ1_charAt_3b067 2 = .ok (.arraylength, 1) := by decide +kernel
theorem dJ1_charAt_3b067_3 : decode cJ1_charAt_3b067 3 = .ok (.invokestatic 9, 3) := by decide +kernel
theorem dJ1_charAt_3b067_6 : decode cJ1_charAt_3b067 6 = .ok (.aload_n 0, 1) := by decide +kernel
theorem dJ1_charAt_3b067_7 : decode cJ1_charAt_3b067 7 = .ok (.iload_n 1, 1) := by decide +kernel
theorem dJ1_charAt_3b067_8 : decode cJ1_charAt_3b067 8 = .ok (.baload, 1) := by decide +kernel
theorem dJ1_charAt_3b067_9 : decode cJ1_charAt_3b067 9 = .ok (.sipush 255, 3) := by decide +kernel
theorem dJ1_charAt_3b067_12 : decode cJ1_charAt_3b067 12 = .ok (.iand, 1) := by decide +kernel
theorem dJ1_charAt_3b067_13 : decode cJ1_charAt_3b067 13 = .ok (.i2c, 1) := by decide +kernel
theorem dJ1_charAt_3b067_14 : decode cJ1_charAt_3b067 14 = .ok (.ireturn, 1) := by decide +kernel
theorem dJ3_checkIndex_8e157_0 : decode cJ3_checkIndex_8e157 0 = .ok (.iload_n 0, 1) := by decide +kernel
theorem dJ3_checkIndex_8e157_1 : decode cJ3_checkIndex_8e157 1 = .ok (.ifCond .lt 8, 3) := by decide +kernel
theorem dJ3_checkIndex_8e157_4 : decode cJ3_checkIndex_8e157 4 = .ok (.iload_n 0, 1) := by decide +kernel
theorem dJ3_checkIndex_8e157_5 : decode cJ3_checkIndex_8e157 5 = .ok (.iload_n 1, 1) := by decide +kernel
theorem dJ3_checkIndex_8e157_6 : decode cJ3_checkIndex_8e157 6 = .ok (.if_icmp .lt 10, 3) := by decide +kernel
theorem dJ3_checkIndex_8e157_9 : decode cJ3_checkIndex_8e157 9 = .ok (.aload_n 2, 1) := by decide +kernel
theorem dJ3_checkIndex_8e157_10 : decode cJ3_checkIndex_8e157 10 = .ok (.iload_n 0, 1) := by decide +kernel
theorem dJ3_checkIndex_8e157_11 : decode cJ3_checkIndex_8e157 11 = .ok (.iload_n 1, 1) := by decide +kernel
theorem dJ3_checkIndex_8e157_12 : decode cJ3_checkIndex_8e157 12 = .ok (.invokestatic 95, 3) := by decide +kernel
theorem dJ3_checkIndex_8e157_15 : decode cJ3_checkIndex_8e157 15 = .ok (.athrow, 1) := by decide +kernel
theorem dJ3_checkIndex_8e157_16 : decode cJ3_checkIndex_8e157 16 = .ok (.iload_n 0, 1) := by decide +kernel
theorem dJ3_checkIndex_8e157_17 : decode cJ3_checkIndex_8e157 17 = .ok (.ireturn, 1) := by decide +kernel
set_option maxRecDepth 100000 in
theorem c_J0_coder_7d493 {lc : Launch} {Γ : Gm} {i : Nat} {s : St} (hi : i < 7) : Ct lc Γ yJ0_coder_7d493 cJ0_coder_7d493 1 (some .byte) 0 [.ref (gK Γ i)] s (some (.int 0), s) := Ct.of (by decide +kernel) (Nat.le_of_ble_eq_true rfl) (fun X hl hX => by
  refine z_gsC hX dJ0_coder_7d493_0 fl_J0_38 3 rfl ?_
  refine z_if_eq hX 13 dJ0_coder_7d493_3 (by decide) 6 rfl (fun c => absurd c (by decide)) (fun c => ?_)
  refine z_aload_n hX dJ0_coder_7d493_6 0 rfl 7 rfl ?_
  refine z_strC hX hi dJ0_coder_7d493_7 fl_J0_15 10 rfl ?_
  refine z_goto hX 14 dJ0_coder_7d493_10 (by decide) ?_
  exact z_xret hX (ty := .byte) dJ0_coder_7d493_14 rfl (by decide) rfl)
set_option maxRecDepth 100000 in
theorem c_J0_isLatin1_aae02 {lc : Launch} {Γ : Gm} {i : Nat} {s : St} (hi : i < 7) : Ct lc Γ yJ0_isLatin1_aae02 cJ0_isLatin1_aae02 1 (some .boolean) 0 [.ref (gK Γ i)] s (some (.int 1), s) := Ct.of (by decide +kernel) (Nat.le_of_ble_eq_true rfl) (fun X hl hX => by
  refine z_gsC hX dJ0_isLatin1_aae02_0 fl_J0_38 3 rfl ?_
  refine z_if_eq hX 17 dJ0_isLatin1_aae02_3 (by decide) 6 rfl (fun c => absurd c (by decide)) (fun c => ?_)
  refine z_aload_n hX dJ0_isLatin1_aae02_6 0 rfl 7 rfl ?_
  refine z_strC hX hi dJ0_isLatin1_aae02_7 fl_J0_15 10 rfl ?_
  refine z_if_ne hX 17 dJ0_isLatin1_aae02_10 (by decide) 13 rfl (fun c => absurd rfl c) (fun c => ?_)
  refine z_iconst hX (v := 1) dJ0_isLatin1_aae02_13 rfl 14 rfl ?_
  refine z_goto hX 18 dJ0_isLatin1_aae02_14 (by decide) ?_
  exact z_zret hX dJ0_isLatin1_aae02_18 rfl (Or.inr rfl) rfl)
set_option maxRecDepth 100000 in
theorem c_J3_checkIndex {lc : Launch} {Γ : Gm} {a b : Int32} {v : Value} {s : St} (hv : v.category = 1) (h0 : ¬ a < 0) (h1 : a < b) : Ct lc Γ yJ3_checkIndex_8e157 cJ3_checkIndex_8e157 3 (some .int) 0 [.int a, .int b, v] s (some (.int a), s) := Ct.of (by decide +kernel) (by cases v <;> first | (simp [Value.category] at hv; done) | exact Nat.le_of_ble_eq_true rfl) (fun X hl hX => by
  refine z_iload_n hX dJ3_checkIndex_8e157_0 0 (by cases v <;> first | (simp [Value.category] at hv; done) | rfl) 1 rfl ?_
  refine z_if_lt hX 9 dJ3_checkIndex_8e157_1 (by decide) 4 rfl (fun c => absurd c h0) (fun c => ?_)
  refine z_iload_n hX dJ3_checkIndex_8e157_4 0 (by cases v <;> first | (simp [Value.category] at hv; done) | rfl) 5 rfl ?_
  refine z_iload_n hX dJ3_checkIndex_8e157_5 1 (by cases v <;> first | (simp [Value.category] at hv; done) | rfl) 6 rfl ?_
  refine z_icmp_lt hX 16 dJ3_checkIndex_8e157_6 (by decide) 9 rfl (fun c => ?_) (fun c => absurd h1 c)
  refine z_iload_n hX dJ3_checkIndex_8e157_16 0 (by cases v <;> first | (simp [Value.category] at hv; done) | rfl) 17 rfl ?_
  exact z_iret hX dJ3_checkIndex_8e157_17 rfl rfl)
set_option maxRecDepth 100000 in
theorem c_J0_checkIndex {lc : Launch} {Γ : Gm} {a b : Int32} {s : St} (h0 : ¬ a < 0) (h1 : a < b) : Ct lc Γ yJ0_checkIndex_df160 cJ0_checkIndex_df160 2 none 1 [.int a, .int b] s (none, s) := Ct.of (by decide +kernel) (Nat.le_of_ble_eq_true rfl) (fun X hl hX => by
  refine z_iload_n hX dJ0_checkIndex_df160_0 0 rfl 1 rfl ?_
  refine z_iload_n hX dJ0_checkIndex_df160_1 1 rfl 2 rfl ?_
  refine z_gsF hX dJ0_checkIndex_df160_2 fl_J0_1053 5 rfl (fun v hv => ?_)
  refine z_cSi hX (As := [.int a, .int b, v]) (c_J3_checkIndex hv h0 h1) lk_J0_1059 ds_J3_checkIndex_8e157 rfl (by decide) (by decide) (by decide) dJ0_checkIndex_df160_5 rfl 8 rfl ?_
  refine z_pop hX dJ0_checkIndex_df160_8 rfl 9 rfl ?_
  exact z_vret hX dJ0_checkIndex_df160_9 rfl rfl)
set_option maxRecDepth 100000 in
theorem c_J0_length_8abf5 {lc : Launch} {Γ : Gm} {i : Nat} {s s2 : St} {v : Int32} (h : f_J0_length_8abf5 i s = some (v, s2)) : Ct lc Γ yJ0_length_8abf5 cJ0_length_8abf5 1 (some .int) 1 [.ref (gK Γ i)] s (some (.int v), s2) := Ct.of (by decide +kernel) (Nat.le_of_ble_eq_true rfl) (fun X hl hX => by
  obtain ⟨hi, h⟩ := gd_elim h
  cases h
  refine z_aload_n hX dJ0_length_8abf5_0 0 rfl 1 rfl ?_
  refine z_strV hX hi dJ0_length_8abf5_1 fl_J0_9 4 rfl ?_
  refine z_tlen hX hi dJ0_length_8abf5_4 5 rfl ?_
  refine z_aload_n hX dJ0_length_8abf5_5 0 rfl 6 rfl ?_
  refine z_cSt hX (b := i) (As := []) (c_J0_coder_7d493 hi) lk_J0_335 rfl hi ds_J0_coder_7d493 rfl (by decide) (by decide) (Nat.le_of_ble_eq_true rfl) dJ0_length_8abf5_6 rfl 9 rfl ?_
  refine z_ishr hX dJ0_length_8abf5_9 10 rfl ?_
  rw [sb_shr0]
  exact z_iret hX dJ0_length_8abf5_10 rfl rfl)
set_option maxRecDepth 100000 in
theorem c_J1_charAt {lc : Launch} {Γ : Gm} {i : Nat} {k : Int32} {s : St} (hi : i < 7) (hk : inb k (lenS.getD i 0) = true) : Ct lc Γ yJ1_charAt_3b067 cJ1_charAt_3b067 2 (some .char) 2 [.ref (gV Γ i), .int k] s (some (.int (chS i k.toNatClampNeg)), s) := Ct.of (by decide +kernel) (Nat.le_of_ble_eq_true rfl) (fun X hl hX => by
  have hv := inb_vp hk
  have hlt : k.toNatClampNeg < lenS.getD i 0 := Nat.not_le.mp fun q => hv (Or.inr q)
  have h6 := lenS_ok i hi
  have h0 : ¬ k < 0 := fun q => hv (Or.inl q)
  have h1 : k < nI (lenS.getD i 0) := by
    obtain ⟨j, hj, rfl⟩ := nI_of h0
    rw [nI_clamp hj] at hlt
    exact nI_lt hlt (by omega)
  refine z_iload_n hX dJ1_charAt_3b067_0 1 rfl 1 rfl ?_
  refine z_aload_n hX dJ1_charAt_3b067_1 0 rfl 2 rfl ?_
  refine z_tlen hX hi dJ1_charAt_3b067_2 3 rfl ?_
  refine z_cSv hX (As := [.int k, .int (nI (lenS.getD i 0))]) (c_J0_checkIndex h0 h1) lk_J1_9 ds_J0_checkIndex_df160 rfl (by decide) (by decide) (by decide) dJ1_charAt_3b067_3 rfl 6 rfl ?_
  refine z_aload_n hX dJ1_charAt_3b067_6 0 rfl 7 rfl ?_
  refine z_iload_n hX dJ1_charAt_3b067_7 1 rfl 8 rfl ?_
  refine z_tb hX hi hv dJ1_charAt_3b067_8 9 rfl ?_
  refine z_sipush hX (v := 255) dJ1_charAt_3b067_9 (by decide) 12 rfl ?_
  refine z_iand hX dJ1_charAt_3b067_12 13 rfl ?_
  refine z_i2c hX dJ1_charAt_3b067_13 14 rfl ?_
  rw [(chS_ok i hi k.toNatClampNeg (by omega)).1]
  exact z_xret hX (ty := .char) dJ1_charAt_3b067_14 rfl (chS_ok i hi k.toNatClampNeg (by omega)).2 rfl)
set_option maxRecDepth 100000 in
theorem c_J0_charAt_5068e {lc : Launch} {Γ : Gm} {a0 : Nat} {a1 : Int32} {s s2 : St} {v : Int32} (h : f_J0_charAt_5068e a0 a1 s = some (v, s2)) : Ct lc Γ yJ0_charAt_5068e cJ0_charAt_5068e 2 (some .char) 3 [.ref (gK Γ a0), .int a1] s (some (.int v), s2) := Ct.of (by decide +kernel) (Nat.le_of_ble_eq_true rfl) (fun X hl hX => by
  obtain ⟨⟨hi, hk⟩, h⟩ := gd_elim h
  cases h
  have hlt : a1.toNatClampNeg < lenS.getD a0 0 := Nat.not_le.mp fun q => inb_vp hk (Or.inr q)
  have h6 := lenS_ok a0 hi
  refine z_aload_n hX dJ0_charAt_5068e_0 0 rfl 1 rfl ?_
  refine z_cSt hX (b := a0) (As := []) (c_J0_isLatin1_aae02 hi) lk_J0_492 rfl hi ds_J0_isLatin1_aae02 rfl (by decide) (by decide) (by decide) dJ0_charAt_5068e_1 rfl 4 rfl ?_
  refine z_if_eq hX 16 dJ0_charAt_5068e_4 (by decide) 7 rfl (fun c => absurd c (by decide)) (fun c => ?_)
  refine z_aload_n hX dJ0_charAt_5068e_7 0 rfl 8 rfl ?_
  refine z_strV hX hi dJ0_charAt_5068e_8 fl_J0_9 11 rfl ?_
  refine z_iload_n hX dJ0_charAt_5068e_11 1 rfl 12 rfl ?_
  refine z_cSi hX (As := [.ref (gV Γ a0), .int a1]) (c_J1_charAt hi hk) lk_J0_495 ds_J1_charAt_3b067 rfl (by decide) (by decide) (by decide) dJ0_charAt_5068e_12 rfl 15 rfl ?_
  exact z_xret hX (ty := .char) dJ0_charAt_5068e_15 rfl (chS_ok a0 hi a1.toNatClampNeg (by omega)).2 rfl)

theorem ml_X7_50 : Cond.constantLong RX7 50 (lN 49) ∈ gt := gt_mem (tm4 (List.mem_of_getElem? (i := 231) rfl)) rfl
theorem ds_X7_within : Ds yX7_within 3 := ⟨by decide +kernel, by decide +kernel, by decide +kernel⟩
theorem lk_X7_52 : LkS RX7 52 yX7_within cX7_within 6 (some .boolean) := ⟨gt_mem (tm4 (List.mem_of_getElem? (i := 169) rfl)) rfl, gt_mem (tm4 (List.mem_of_getElem? (i := 170) rfl)) rfl, gt_mem (tm1 (List.mem_of_getElem? (i := 8) rfl)) rfl, gt_mem (tm4 (List.mem_of_getElem? (i := 171) rfl)) rfl⟩
theorem fl_X7_56 : Cond.fieldLink RX7 56 (TX7 6).1 (TX7 6).2.1 (TX7 6).2.2.1 ∈ gt := gt_mem (tm4 (List.mem_of_getElem? (i := 84) rfl)) rfl
theorem fl_X7_60 : Cond.fieldLink RX7 60 (TX7 7).1 (TX7 7).2.1 (TX7 7).2.2.1 ∈ gt := gt_mem (tm4 (List.mem_of_getElem? (i := 85) rfl)) rfl
theorem fl_X7_63 : Cond.fieldLink RX7 63 (TX7 8).1 (TX7 8).2.1 (TX7 8).2.2.1 ∈ gt := gt_mem (tm4 (List.mem_of_getElem? (i := 86) rfl)) rfl
theorem fl_X7_66 : Cond.fieldLink RX7 66 (TX7 9).1 (TX7 9).2.1 (TX7 9).2.2.1 ∈ gt := gt_mem (tm4 (List.mem_of_getElem? (i := 87) rfl)) rfl
theorem fl_X7_20 : Cond.fieldLink RX7 20 (TX7 5).1 (TX7 5).2.1 (TX7 5).2.2.1 ∈ gt := gt_mem (tm4 (List.mem_of_getElem? (i := 83) rfl)) rfl
theorem fl_X7_69 : Cond.fieldLink RX7 69 (TX7 3).1 (TX7 3).2.1 (TX7 3).2.2.1 ∈ gt := gt_mem (tm4 (List.mem_of_getElem? (i := 81) rfl)) rfl
theorem fl_X7_72 : Cond.fieldLink RX7 72 (TX7 4).1 (TX7 4).2.1 (TX7 4).2.2.1 ∈ gt := gt_mem (tm4 (List.mem_of_getElem? (i := 82) rfl)) rfl
theorem fl_X7_16 : Cond.fieldLink RX7 16 (TX7 2).1 (TX7 2).2.1 (TX7 2).2.2.1 ∈ gt := gt_mem (tm4 (List.mem_of_getElem? (i := 80) rfl)) rfl
theorem fl_X7_7 : Cond.fieldLink RX7 7 (TX7 0).1 (TX7 0).2.1 (TX7 0).2.2.1 ∈ gt := gt_mem (tm4 (List.mem_of_getElem? (i := 78) rfl)) rfl
theorem ml_X7_75 : Cond.constantLong RX7 75 (lN 127) ∈ gt := gt_mem (tm4 (List.mem_of_getElem? (i := 168) rfl)) rfl
theorem fl_X7_77 : Cond.fieldLink RX7 77 (TX7 11).1 (TX7 11).2.1 (TX7 11).2.2.1 ∈ gt := gt_mem (tm4 (List.mem_of_getElem? (i := 89) rfl)) rfl
theorem fl_X7_23 : Cond.fieldLink RX7 23 (TX7 10).1 (TX7 10).2.1 (TX7 10).2.2.1 ∈ gt := gt_mem (tm4 (List.mem_of_getElem? (i := 88) rfl)) rfl
theorem fl_X7_80 : Cond.fieldLink RX7 80 (TX7 16).1 (TX7 16).2.1 (TX7 16).2.2.1 ∈ gt := gt_mem (tm4 (List.mem_of_getElem? (i := 94) rfl)) rfl
theorem fl_X7_83 : Cond.fieldLink RX7 83 (TX7 13).1 (TX7 13).2.1 (TX7 13).2.2.1 ∈ gt := gt_mem (tm4 (List.mem_of_getElem? (i := 91) rfl)) rfl
theorem fl_X7_86 : Cond.fieldLink RX7 86 (TX7 17).1 (TX7 17).2.1 (TX7 17).2.2.1 ∈ gt := gt_mem (tm4 (List.mem_of_getElem? (i := 95) rfl)) rfl
theorem fl_X7_89 : Cond.fieldLink RX7 89 (TX7 12).1 (TX7 12).2.1 (TX7 12).2.2.1 ∈ gt := gt_mem (tm4 (List.mem_of_getElem? (i := 90) rfl)) rfl
theorem ds_X7_byteAt : Ds yX7_byteAt 1 := ⟨by decide +kernel, by decide +kernel, by decide +kernel⟩
theorem lk_X7_92 : LkV RX7 92 yX7_byteAt cX7_byteAt 2 (some .int) := ⟨gt_mem (tm4 (List.mem_of_getElem? (i := 184) rfl)) rfl, gt_mem (tm4 (List.mem_of_getElem? (i := 186) rfl)) rfl, gt_sel (List.mem_of_getElem? (i := 16) rfl) rfl, gt_mem (tm1 (List.mem_of_getElem? (i := 8) rfl)) rfl, gt_mem (tm4 (List.mem_of_getElem? (i := 187) rfl)) rfl⟩
theorem ds_X7_is : Ds yX7_is 4 := ⟨by decide +kernel, by decide +kernel, by decide +kernel⟩
theorem lk_X7_96 : LkV RX7 96 yX7_is cX7_is 5 (some .boolean) := ⟨gt_mem (tm4 (List.mem_of_getElem? (i := 204) rfl)) rfl, gt_mem (tm4 (List.mem_of_getElem? (i := 206) rfl)) rfl, gt_sel (List.mem_of_getElem? (i := 20) rfl) rfl, gt_mem (tm1 (List.mem_of_getElem? (i := 8) rfl)) rfl, gt_mem (tm4 (List.mem_of_getElem? (i := 207) rfl)) rfl⟩
theorem ds_X7_ends : Ds yX7_ends 3 := ⟨by decide +kernel, by decide +kernel, by decide +kernel⟩
theorem lk_X7_100 : LkV RX7 100 yX7_ends cX7_ends 4 (some .boolean) := ⟨gt_mem (tm4 (List.mem_of_getElem? (i := 208) rfl)) rfl, gt_mem (tm4 (List.mem_of_getElem? (i := 210) rfl)) rfl, gt_sel (List.mem_of_getElem? (i := 21) rfl) rfl, gt_mem (tm1 (List.mem_of_getElem? (i := 8) rfl)) rfl, gt_mem (tm4 (List.mem_of_getElem? (i := 211) rfl)) rfl⟩
theorem ds_X7_kindNow : Ds yX7_kindNow 0 := ⟨by decide +kernel, by decide +kernel, by decide +kernel⟩
theorem lk_X7_104 : LkV RX7 104 yX7_kindNow cX7_kindNow 1 (some .int) := ⟨gt_mem (tm4 (List.mem_of_getElem? (i := 212) rfl)) rfl, gt_mem (tm4 (List.mem_of_getElem? (i := 214) rfl)) rfl, gt_sel (List.mem_of_getElem? (i := 22) rfl) rfl, gt_mem (tm1 (List.mem_of_getElem? (i := 8) rfl)) rfl, gt_mem (tm4 (List.mem_of_getElem? (i := 215) rfl)) rfl⟩
theorem ml_X7_111 : Cond.constantLong RX7 111 (lN 97) ∈ gt := gt_mem (tm4 (List.mem_of_getElem? (i := 188) rfl)) rfl
theorem ml_X7_113 : Cond.constantLong RX7 113 (lN 122) ∈ gt := gt_mem (tm4 (List.mem_of_getElem? (i := 189) rfl)) rfl
theorem ml_X7_115 : Cond.constantLong RX7 115 (lN 48) ∈ gt := gt_mem (tm4 (List.mem_of_getElem? (i := 190) rfl)) rfl
theorem ml_X7_117 : Cond.constantLong RX7 117 (lN 57) ∈ gt := gt_mem (tm4 (List.mem_of_getElem? (i := 191) rfl)) rfl
theorem fl_X7_108 : Cond.fieldLink RX7 108 (TX7 14).1 (TX7 14).2.1 (TX7 14).2.2.1 ∈ gt := gt_mem (tm4 (List.mem_of_getElem? (i := 92) rfl)) rfl
theorem fl_X7_119 : Cond.fieldLink RX7 119 (TX7 15).1 (TX7 15).2.1 (TX7 15).2.2.1 ∈ gt := gt_mem (tm4 (List.mem_of_getElem? (i := 93) rfl)) rfl
theorem ds_X7_needs : Ds yX7_needs 2 := ⟨by decide +kernel, by decide +kernel, by decide +kernel⟩
theorem lk_X7_122 : LkV RX7 122 yX7_needs cX7_needs 3 none := ⟨gt_mem (tm4 (List.mem_of_getElem? (i := 192) rfl)) rfl, gt_mem (tm4 (List.mem_of_getElem? (i := 194) rfl)) rfl, gt_sel (List.mem_of_getElem? (i := 17) rfl) rfl, gt_mem (tm1 (List.mem_of_getElem? (i := 8) rfl)) rfl, gt_mem (tm4 (List.mem_of_getElem? (i := 195) rfl)) rfl⟩
theorem ds_X7_looked : Ds yX7_looked 2 := ⟨by decide +kernel, by decide +kernel, by decide +kernel⟩
theorem lk_X7_126 : LkV RX7 126 yX7_looked cX7_looked 3 (some .int) := ⟨gt_mem (tm4 (List.mem_of_getElem? (i := 224) rfl)) rfl, gt_mem (tm4 (List.mem_of_getElem? (i := 226) rfl)) rfl, gt_sel (List.mem_of_getElem? (i := 25) rfl) rfl, gt_mem (tm1 (List.mem_of_getElem? (i := 8) rfl)) rfl, gt_mem (tm4 (List.mem_of_getElem? (i := 227) rfl)) rfl⟩
theorem ds_X7_takes : Ds yX7_takes 0 := ⟨by decide +kernel, by decide +kernel, by decide +kernel⟩
theorem lk_X7_130 : LkV RX7 130 yX7_takes cX7_takes 2 none := ⟨gt_mem (tm4 (List.mem_of_getElem? (i := 180) rfl)) rfl, gt_mem (tm4 (List.mem_of_getElem? (i := 182) rfl)) rfl, gt_sel (List.mem_of_getElem? (i := 15) rfl) rfl, gt_mem (tm1 (List.mem_of_getElem? (i := 8) rfl)) rfl, gt_mem (tm4 (List.mem_of_getElem? (i := 183) rfl)) rfl⟩
theorem ds_X7_isCell : Ds yX7_isCell 1 := ⟨by decide +kernel, by decide +kernel, by decide +kernel⟩
theorem lk_X7_133 : LkS RX7 133 yX7_isCell cX7_isCell 1 (some .boolean) := ⟨gt_mem (tm4 (List.mem_of_getElem? (i := 228) rfl)) rfl, gt_mem (tm4 (List.mem_of_getElem? (i := 229) rfl)) rfl, gt_mem (tm1 (List.mem_of_getElem? (i := 8) rfl)) rfl, gt_mem (tm4 (List.mem_of_getElem? (i := 230) rfl)) rfl⟩
theorem ds_X7_cellOf : Ds yX7_cellOf 1 := ⟨by decide +kernel, by decide +kernel, by decide +kernel⟩
theorem lk_X7_137 : LkS RX7 137 yX7_cellOf cX7_cellOf 1 (some .int) := ⟨gt_mem (tm4 (List.mem_of_getElem? (i := 232) rfl)) rfl, gt_mem (tm4 (List.mem_of_getElem? (i := 233) rfl)) rfl, gt_mem (tm1 (List.mem_of_getElem? (i := 8) rfl)) rfl, gt_mem (tm4 (List.mem_of_getElem? (i := 234) rfl)) rfl⟩
theorem ds_X7_readCell : Ds yX7_readCell 0 := ⟨by decide +kernel, by decide +kernel, by decide +kernel⟩
theorem lk_X7_140 : LkV RX7 140 yX7_readCell cX7_readCell 2 (some .int) := ⟨gt_mem (tm4 (List.mem_of_getElem? (i := 220) rfl)) rfl, gt_mem (tm4 (List.mem_of_getElem? (i := 222) rfl)) rfl, gt_sel (List.mem_of_getElem? (i := 24) rfl) rfl, gt_mem (tm1 (List.mem_of_getElem? (i := 8) rfl)) rfl, gt_mem (tm4 (List.mem_of_getElem? (i := 223) rfl)) rfl⟩
theorem ds_X7_readNumber : Ds yX7_readNumber 2 := ⟨by decide +kernel, by decide +kernel, by decide +kernel⟩
theorem lk_X7_143 : LkV RX7 143 yX7_readNumber cX7_readNumber 4 (some .int) := ⟨gt_mem (tm4 (List.mem_of_getElem? (i := 235) rfl)) rfl, gt_mem (tm4 (List.mem_of_getElem? (i := 237) rfl)) rfl, gt_sel (List.mem_of_getElem? (i := 26) rfl) rfl, gt_mem (tm1 (List.mem_of_getElem? (i := 8) rfl)) rfl, gt_mem (tm4 (List.mem_of_getElem? (i := 238) rfl)) rfl⟩
theorem ds_X7_lineNow : Ds yX7_lineNow 0 := ⟨by decide +kernel, by decide +kernel, by decide +kernel⟩
theorem lk_X7_146 : LkV RX7 146 yX7_lineNow cX7_lineNow 1 (some .int) := ⟨gt_mem (tm4 (List.mem_of_getElem? (i := 200) rfl)) rfl, gt_mem (tm4 (List.mem_of_getElem? (i := 202) rfl)) rfl, gt_sel (List.mem_of_getElem? (i := 19) rfl) rfl, gt_mem (tm1 (List.mem_of_getElem? (i := 8) rfl)) rfl, gt_mem (tm4 (List.mem_of_getElem? (i := 203) rfl)) rfl⟩
theorem ds_X7_readLineOf : Ds yX7_readLineOf 1 := ⟨by decide +kernel, by decide +kernel, by decide +kernel⟩
theorem lk_X7_149 : LkV RX7 149 yX7_readLineOf cX7_readLineOf 3 none := ⟨gt_mem (tm4 (List.mem_of_getElem? (i := 216) rfl)) rfl, gt_mem (tm4 (List.mem_of_getElem? (i := 218) rfl)) rfl, gt_sel (List.mem_of_getElem? (i := 23) rfl) rfl, gt_mem (tm1 (List.mem_of_getElem? (i := 8) rfl)) rfl, gt_mem (tm4 (List.mem_of_getElem? (i := 219) rfl)) rfl⟩
theorem ds_X7_firstDraft : Ds yX7_firstDraft 0 := ⟨by decide +kernel, by decide +kernel, by decide +kernel⟩
theorem lk_X7_44 : LkV RX7 44 yX7_firstDraft cX7_firstDraft 2 none := ⟨gt_mem (tm4 (List.mem_of_getElem? (i := 70) rfl)) rfl, gt_mem (tm4 (List.mem_of_getElem? (i := 72) rfl)) rfl, gt_sel (List.mem_of_getElem? (i := 13) rfl) rfl, gt_mem (tm1 (List.mem_of_getElem? (i := 8) rfl)) rfl, gt_mem (tm4 (List.mem_of_getElem? (i := 73) rfl)) rfl⟩
theorem ds_X7_readLine : Ds yX7_readLine 0 := ⟨by decide +kernel, by decide +kernel, by decide +kernel⟩
theorem lk_X7_153 : LkV RX7 153 yX7_readLine cX7_readLine 2 none := ⟨gt_mem (tm4 (List.mem_of_getElem? (i := 196) rfl)) rfl, gt_mem (tm4 (List.mem_of_getElem? (i := 198) rfl)) rfl, gt_sel (List.mem_of_getElem? (i := 18) rfl) rfl, gt_mem (tm1 (List.mem_of_getElem? (i := 8) rfl)) rfl, gt_mem (tm4 (List.mem_of_getElem? (i := 199) rfl)) rfl⟩
theorem ds_X7_keepDraft : Ds yX7_keepDraft 0 := ⟨by decide +kernel, by decide +kernel, by decide +kernel⟩
theorem lk_X7_47 : LkV RX7 47 yX7_keepDraft cX7_keepDraft 2 none := ⟨gt_mem (tm4 (List.mem_of_getElem? (i := 74) rfl)) rfl, gt_mem (tm4 (List.mem_of_getElem? (i := 76) rfl)) rfl, gt_sel (List.mem_of_getElem? (i := 14) rfl) rfl, gt_mem (tm1 (List.mem_of_getElem? (i := 8) rfl)) rfl, gt_mem (tm4 (List.mem_of_getElem? (i := 77) rfl)) rfl⟩
theorem fl_X7_13 : Cond.fieldLink RX7 13 (TX7 1).1 (TX7 1).2.1 (TX7 1).2.2.1 ∈ gt := gt_mem (tm4 (List.mem_of_getElem? (i := 79) rfl)) rfl
theorem ds_X7_lesser : Ds yX7_lesser 2 := ⟨by decide +kernel, by decide +kernel, by decide +kernel⟩
theorem lk_X7_156 : LkS RX7 156 yX7_lesser cX7_lesser 2 (some .int) := ⟨gt_mem (tm5 (List.mem_of_getElem? (i := 118) rfl)) rfl, gt_mem (tm5 (List.mem_of_getElem? (i := 119) rfl)) rfl, gt_mem (tm1 (List.mem_of_getElem? (i := 8) rfl)) rfl, gt_mem (tm5 (List.mem_of_getElem? (i := 120) rfl)) rfl⟩
theorem kdc_189 : kd 189 = 7 := by decide +kernel
theorem pwI_7_3 (Γ : Gm) (k : Nat) (f : Nat → Int32) (g : Nat → Int64) (x : Int32) : (flds Γ 7 k f g).set 3 (.int x) = flds Γ 7 k (upd f 3 x) g := by simp [flds, entK, upd]
theorem pwI_7_4 (Γ : Gm) (k : Nat) (f : Nat → Int32) (g : Nat → Int64) (x : Int32) : (flds Γ 7 k f g).set 4 (.int x) = flds Γ 7 k (upd f 4 x) g := by simp [flds, entK, upd]
theorem pwI_7_6 (Γ : Gm) (k : Nat) (f : Nat → Int32) (g : Nat → Int64) (x : Int32) : (flds Γ 7 k f g).set 6 (.int x) = flds Γ 7 k (upd f 6 x) g := by simp [flds, entK, upd]
theorem pwI_7_7 (Γ : Gm) (k : Nat) (f : Nat → Int32) (g : Nat → Int64) (x : Int32) : (flds Γ 7 k f g).set 7 (.int x) = flds Γ 7 k (upd f 7 x) g := by simp [flds, entK, upd]
theorem pwI_7_8 (Γ : Gm) (k : Nat) (f : Nat → Int32) (g : Nat → Int64) (x : Int32) : (flds Γ 7 k f g).set 8 (.int x) = flds Γ 7 k (upd f 8 x) g := by simp [flds, entK, upd]
theorem pwI_7_9 (Γ : Gm) (k : Nat) (f : Nat → Int32) (g : Nat → Int64) (x : Int32) : (flds Γ 7 k f g).set 9 (.int x) = flds Γ 7 k (upd f 9 x) g := by simp [flds, entK, upd]
theorem pwI_7_11 (Γ : Gm) (k : Nat) (f : Nat → Int32) (g : Nat → Int64) (x : Int32) : (flds Γ 7 k f g).set 11 (.int x) = flds Γ 7 k (upd f 11 x) g := by simp [flds, entK, upd]
theorem pwI_7_12 (Γ : Gm) (k : Nat) (f : Nat → Int32) (g : Nat → Int64) (x : Int32) : (flds Γ 7 k f g).set 12 (.int x) = flds Γ 7 k (upd f 12 x) g := by simp [flds, entK, upd]
theorem pwI_7_13 (Γ : Gm) (k : Nat) (f : Nat → Int32) (g : Nat → Int64) (x : Int32) : (flds Γ 7 k f g).set 13 (.int x) = flds Γ 7 k (upd f 13 x) g := by simp [flds, entK, upd]
theorem pwI_7_14 (Γ : Gm) (k : Nat) (f : Nat → Int32) (g : Nat → Int64) (x : Int32) : (flds Γ 7 k f g).set 14 (.int x) = flds Γ 7 k (upd f 14 x) g := by simp [flds, entK, upd]
theorem pwI_7_15 (Γ : Gm) (k : Nat) (f : Nat → Int32) (g : Nat → Int64) (x : Int32) : (flds Γ 7 k f g).set 15 (.int x) = flds Γ 7 k (upd f 15 x) g := by simp [flds, entK, upd]
theorem pwI_7_16 (Γ : Gm) (k : Nat) (f : Nat → Int32) (g : Nat → Int64) (x : Int32) : (flds Γ 7 k f g).set 16 (.int x) = flds Γ 7 k (upd f 16 x) g := by simp [flds, entK, upd]
theorem pwI_7_17 (Γ : Gm) (k : Nat) (f : Nat → Int32) (g : Nat → Int64) (x : Int32) : (flds Γ 7 k f g).set 17 (.int x) = flds Γ 7 k (upd f 17 x) g := by simp [flds, entK, upd]
theorem dX7_within_0 : decode cX7_within 0 = .ok (.lload_n 0, 1) := by decide +kernel
theorem dX7_within_1 : decode cX7_within 1 = .ok (.lload_n 2, 1) := by decide +kernel
theorem dX7_within_2 : decode cX7_within 2 = .ok (.lcmp, 1) := by decide +kernel
theorem dX7_within_3 : decode cX7_within 3 = .ok (.ifCond .lt 14, 3) := by decide +kernel
theorem dX7_within_6 : decode cX7_within 6 = .ok (.lload_n 0, 1) := by decide +kernel
theorem dX7_within_7 : decode cX7_within 7 = .ok (.lload 4, 2) := by decide +kernel
theorem dX7_within_9 : decode cX7_within 9 = .ok (.lcmp, 1) := by decide +kernel
theorem dX7_within_10 : decode cX7_within 10 = .ok (.ifCond .gt 7, 3) := by decide +kernel
theorem dX7_within_13 : decode cX7_within 13 = .ok (.iconst 1, 1) := by decide +kernel
theorem dX7_within_14 : decode cX7_within 14 = .ok (.goto 4, 3) := by decide +kernel
theorem dX7_within_17 : decode cX7_within 17 = .ok (.iconst 0, 1) := by decide +kernel
theorem dX7_within_18 : decode cX7_within 18 = .ok (.ireturn, 1) := by decide +kernel
def f_X7_within (a0 : Int64) (a2 : Int64) (a4 : Int64) (s : St) : Option (Int32 × St) := if (lg_cmp a0 a2) < 0 then (some (((nI 0), s))) else (if 0 < (lg_cmp a0 a4) then (some (((nI 0), s))) else (some (((nI 1), s))))
set_option maxHeartbeats 4000000 in
set_option maxRecDepth 100000 in
theorem e_X7_within {X : Cx} {Γ : Gm} {r0 : Rb} (hX : Amb X Γ cX7_within RX7 6 (some .boolean) 0) {a0 : Int64} {a2 : Int64} {a4 : Int64} {s : St} {t : Int32 × St} (h : f_X7_within a0 a2 a4 s = some t) (hk : (fun t : Int32 × St => Rt X Γ r0 (some (Value.int t.1), t.2)) t) : Zw X Γ 6 r0 s 0 [(0, .long a0), (2, .long a2), (4, .long a4)] [] := by
  unfold f_X7_within at h
  refine z_lload_n hX dX7_within_0 0 rfl 1 rfl ?_
  refine z_lload_n hX dX7_within_1 1 rfl 2 rfl ?_
  refine z_lcmp hX dX7_within_2 3 rfl ?_
  refine z_if_lt hX 17 dX7_within_3 (by decide) 6 rfl (fun c1 => ?_) (fun c1 => ?_)
  · replace h := br_pos h c1
    refine z_iconst hX (v := (nI 0)) dX7_within_17 rfl 18 rfl ?_
    replace h := Option.some.inj h
    subst h
    exact z_zret hX dX7_within_18 rfl (by decide) hk
  · replace h := br_neg h c1
    refine z_lload_n hX dX7_within_6 0 rfl 7 rfl ?_
    refine z_lload hX dX7_within_7 2 rfl 9 rfl ?_
    refine z_lcmp hX dX7_within_9 10 rfl ?_
    refine z_if_gt hX 17 dX7_within_10 (by decide) 13 rfl (fun c2 => ?_) (fun c2 => ?_)
    · replace h := br_pos h c2
      refine z_iconst hX (v := (nI 0)) dX7_within_17 rfl 18 rfl ?_
      replace h := Option.some.inj h
      subst h
      exact z_zret hX dX7_within_18 rfl (by decide) hk
    · replace h := br_neg h c2
      refine z_iconst hX (v := (nI 1)) dX7_within_13 rfl 14 rfl ?_
      refine z_goto hX 18 dX7_within_14 (by decide) ?_
      replace h := Option.some.inj h
      subst h
      exact z_zret hX dX7_within_18 rfl (by decide) hk
theorem c_X7_within {lc : Launch} {Γ : Gm} {a0 : Int64} {a2 : Int64} {a4 : Int64} {s s2 : St} {v : Int32} (h : f_X7_within a0 a2 a4 s = some (v, s2)) : Ct lc Γ yX7_within cX7_within 6 (some .boolean) 0 [.long a0, .long a2, .long a4] s (some (.int v), s2) := Ct.of (by decide +kernel) (Nat.le_of_ble_eq_true rfl) (fun X hl hX => e_X7_within hX h rfl)
theorem dX7_flag_0 : decode cX7_flag 0 = .ok (.iload_n 0, 1) := by decide +kernel
theorem dX7_flag_1 : decode cX7_flag 1 = .ok (.ifCond .eq 7, 3) := by decide +kernel
theorem dX7_flag_4 : decode cX7_flag 4 = .ok (.iconst 1, 1) := by decide +kernel
theorem dX7_flag_5 : decode cX7_flag 5 = .ok (.goto 4, 3) := by decide +kernel
theorem dX7_flag_8 : decode cX7_flag 8 = .ok (.iconst 0, 1) := by decide +kernel
theorem dX7_flag_9 : decode cX7_flag 9 = .ok (.ireturn, 1) := by decide +kernel
def f_X7_flag (a0 : Int32) (s : St) : Option (Int32 × St) := if a0 = 0 then (some (((nI 0), s))) else (some (((nI 1), s)))
set_option maxHeartbeats 4000000 in
set_option maxRecDepth 100000 in
theorem e_X7_flag {X : Cx} {Γ : Gm} {r0 : Rb} (hX : Amb X Γ cX7_flag RX7 1 (some .int) 0) {a0 : Int32} {s : St} {t : Int32 × St} (h : f_X7_flag a0 s = some t) (hk : (fun t : Int32 × St => Rt X Γ r0 (some (Value.int t.1), t.2)) t) : Zw X Γ 1 r0 s 0 [(0, .int a0)] [] := by
  unfold f_X7_flag at h
  refine z_iload_n hX dX7_flag_0 0 rfl 1 rfl ?_
  refine z_if_eq hX 8 dX7_flag_1 (by decide) 4 rfl (fun c1 => ?_) (fun c1 => ?_)
  · replace h := br_pos h c1
    refine z_iconst hX (v := (nI 0)) dX7_flag_8 rfl 9 rfl ?_
    replace h := Option.some.inj h
    subst h
    exact z_iret hX dX7_flag_9 rfl hk
  · replace h := br_neg h c1
    refine z_iconst hX (v := (nI 1)) dX7_flag_4 rfl 5 rfl ?_
    refine z_goto hX 9 dX7_flag_5 (by decide) ?_
    replace h := Option.some.inj h
    subst h
    exact z_iret hX dX7_flag_9 rfl hk
theorem c_X7_flag {lc : Launch} {Γ : Gm} {a0 : Int32} {s s2 : St} {v : Int32} (h : f_X7_flag a0 s = some (v, s2)) : Ct lc Γ yX7_flag cX7_flag 1 (some .int) 0 [.int a0] s (some (.int v), s2) := Ct.of (by decide +kernel) (Nat.le_of_ble_eq_true rfl) (fun X hl hX => e_X7_flag hX h rfl)
theorem dX7_lesser_0 : decode cX7_lesser 0 = .ok (.iload_n 0, 1) := by decide +kernel
theorem dX7_lesser_1 : decode cX7_lesser 1 = .ok (.iload_n 1, 1) := by decide +kernel
theorem dX7_lesser_2 : decode cX7_lesser 2 = .ok (.if_icmp .ge 7, 3) := by decide +kernel
theorem dX7_lesser_5 : decode cX7_lesser 5 = .ok (.iload_n 0, 1) := by decide +kernel
theorem dX7_lesser_6 : decode cX7_lesser 6 = .ok (.goto 4, 3) := by decide +kernel
theorem dX7_lesser_9 : decode cX7_lesser 9 = .ok (.iload_n 1, 1) := by decide +kernel
theorem dX7_lesser_10 : decode cX7_lesser 10 = .ok (.ireturn, 1) := by decide +kernel
def f_X7_lesser (a0 : Int32) (a1 : Int32) (s : St) : Option (Int32 × St) := if a1 ≤ a0 then (some ((a1, s))) else (some ((a0, s)))
set_option maxHeartbeats 4000000 in
set_option maxRecDepth 100000 in
theorem e_X7_lesser {X : Cx} {Γ : Gm} {r0 : Rb} (hX : Amb X Γ cX7_lesser RX7 2 (some .int) 0) {a0 : Int32} {a1 : Int32} {s : St} {t : Int32 × St} (h : f_X7_lesser a0 a1 s = some t) (hk : (fun t : Int32 × St => Rt X Γ r0 (some (Value.int t.1), t.2)) t) : Zw X Γ 2 r0 s 0 [(0, .int a0), (1, .int a1)] [] := by
  unfold f_X7_lesser at h
  refine z_iload_n hX dX7_lesser_0 0 rfl 1 rfl ?_
  refine z_iload_n hX dX7_lesser_1 1 rfl 2 rfl ?_
  refine z_icmp_ge hX 9 dX7_lesser_2 (by decide) 5 rfl (fun c1 => ?_) (fun c1 => ?_)
  · replace h := br_pos h c1
    refine z_iload_n hX dX7_lesser_9 1 rfl 10 rfl ?_
    replace h := Option.some.inj h
    subst h
    exact z_iret hX dX7_lesser_10 rfl hk
  · replace h := br_neg h c1
    refine z_iload_n hX dX7_lesser_5 0 rfl 6 rfl ?_
    refine z_goto hX 10 dX7_lesser_6 (by decide) ?_
    replace h := Option.some.inj h
    subst h
    exact z_iret hX dX7_lesser_10 rfl hk
theorem c_X7_lesser {lc : Launch} {Γ : Gm} {a0 : Int32} {a1 : Int32} {s s2 : St} {v : Int32} (h : f_X7_lesser a0 a1 s = some (v, s2)) : Ct lc Γ yX7_lesser cX7_lesser 2 (some .int) 0 [.int a0, .int a1] s (some (.int v), s2) := Ct.of (by decide +kernel) (Nat.le_of_ble_eq_true rfl) (fun X hl hX => e_X7_lesser hX h rfl)
theorem dX7_isCell_0 : decode cX7_isCell 0 = .ok (.iload_n 0, 1) := by decide +kernel
theorem dX7_isCell_1 : decode cX7_isCell 1 = .ok (.i2l, 1) := by decide +kernel
theorem dX7_isCell_2 : decode cX7_isCell 2 = .ok (.lconst 0, 1) := by decide +kernel
theorem dX7_isCell_3 : decode cX7_isCell 3 = .ok (.ldc2_w 50, 3) := by decide +kernel
theorem dX7_isCell_6 : decode cX7_isCell 6 = .ok (.invokestatic 52, 3) := by decide +kernel
theorem dX7_isCell_9 : decode cX7_isCell 9 = .ok (.ifCond .eq 15, 3) := by decide +kernel
theorem dX7_isCell_12 : decode cX7_isCell 12 = .ok (.iload_n 0, 1) := by decide +kernel
theorem dX7_isCell_13 : decode cX7_isCell 13 = .ok (.bipush 10, 2) := by decide +kernel
theorem dX7_isCell_15 : decode cX7_isCell 15 = .ok (.irem, 1) := by decide +kernel
theorem dX7_isCell_16 : decode cX7_isCell 16 = .ok (.iconst 4, 1) := by decide +kernel
theorem dX7_isCell_17 : decode cX7_isCell 17 = .ok (.if_icmp .ge 7, 3) := by decide +kernel
theorem dX7_isCell_20 : decode cX7_isCell 20 = .ok (.iconst 1, 1) := by decide +kernel
theorem dX7_isCell_21 : decode cX7_isCell 21 = .ok (.goto 4, 3) := by decide +kernel
theorem dX7_isCell_24 : decode cX7_isCell 24 = .ok (.iconst 0, 1) := by decide +kernel
theorem dX7_isCell_25 : decode cX7_isCell 25 = .ok (.ireturn, 1) := by decide +kernel
def f_X7_isCell (a0 : Int32) (s : St) : Option (Int32 × St) := cl (f_X7_within ((a0).toInt64) (lN 0) (lN 49) s) (fun x2 s1 => if x2 = 0 then (some (((nI 0), s1))) else (if (nI 4) ≤ (a0 - a0 / (nI 10) * (nI 10)) then (some (((nI 0), s1))) else (some (((nI 1), s1)))))
set_option maxHeartbeats 4000000 in
set_option maxRecDepth 100000 in
theorem e_X7_isCell {X : Cx} {Γ : Gm} {r0 : Rb} (hX : Amb X Γ cX7_isCell RX7 1 (some .boolean) 1) {a0 : Int32} {s : St} {t : Int32 × St} (h : f_X7_isCell a0 s = some t) (hk : (fun t : Int32 × St => Rt X Γ r0 (some (Value.int t.1), t.2)) t) : Zw X Γ 1 r0 s 0 [(0, .int a0)] [] := by
  unfold f_X7_isCell at h
  refine z_iload_n hX dX7_isCell_0 0 rfl 1 rfl ?_
  refine z_i2l hX dX7_isCell_1 2 rfl ?_
  refine z_lconst hX (v := (lN 0)) dX7_isCell_2 rfl 3 rfl ?_
  refine z_ldc2 hX (v := (lN 49)) dX7_isCell_3 ml_X7_50 6 rfl ?_
  replace h := cl_elim h
  obtain ⟨x2, s1, hx2, h⟩ := h
  refine z_cSi hX (As := [.long ((a0).toInt64), .long ((lN 0)), .long ((lN 49))]) (c_X7_within hx2) lk_X7_52 ds_X7_within rfl (by decide) (by decide) (by decide) dX7_isCell_6 rfl 9 rfl ?_
  refine z_if_eq hX 24 dX7_isCell_9 (by decide) 12 rfl (fun c3 => ?_) (fun c3 => ?_)
  · replace h := br_pos h c3
    refine z_iconst hX (v := (nI 0)) dX7_isCell_24 rfl 25 rfl ?_
    replace h := Option.some.inj h
    subst h
    exact z_zret hX dX7_isCell_25 rfl (by decide) hk
  · replace h := br_neg h c3
    refine z_iload_n hX dX7_isCell_12 0 rfl 13 rfl ?_
    refine z_bipush hX (v := (nI 10)) dX7_isCell_13 (by decide) 15 rfl ?_
    refine z_irem hX dX7_isCell_15 (by decide) 16 rfl ?_
    refine z_iconst hX (v := (nI 4)) dX7_isCell_16 rfl 17 rfl ?_
    refine z_icmp_ge hX 24 dX7_isCell_17 (by decide) 20 rfl (fun c4 => ?_) (fun c4 => ?_)
    · replace h := br_pos h c4
      refine z_iconst hX (v := (nI 0)) dX7_isCell_24 rfl 25 rfl ?_
      replace h := Option.some.inj h
      subst h
      exact z_zret hX dX7_isCell_25 rfl (by decide) hk
    · replace h := br_neg h c4
      refine z_iconst hX (v := (nI 1)) dX7_isCell_20 rfl 21 rfl ?_
      refine z_goto hX 25 dX7_isCell_21 (by decide) ?_
      replace h := Option.some.inj h
      subst h
      exact z_zret hX dX7_isCell_25 rfl (by decide) hk
theorem c_X7_isCell {lc : Launch} {Γ : Gm} {a0 : Int32} {s s2 : St} {v : Int32} (h : f_X7_isCell a0 s = some (v, s2)) : Ct lc Γ yX7_isCell cX7_isCell 1 (some .boolean) 1 [.int a0] s (some (.int v), s2) := Ct.of (by decide +kernel) (Nat.le_of_ble_eq_true rfl) (fun X hl hX => e_X7_isCell hX h rfl)
theorem dX7_cellOf_0 : decode cX7_cellOf 0 = .ok (.iconst 4, 1) := by decide +kernel
theorem dX7_cellOf_1 : decode cX7_cellOf 1 = .ok (.iload_n 0, 1) := by decide +kernel
theorem dX7_cellOf_2 : decode cX7_cellOf 2 = .ok (.bipush 10, 2) := by decide +kernel
theorem dX7_cellOf_4 : decode cX7_cellOf 4 = .ok (.idiv, 1) := by decide +kernel
theorem dX7_cellOf_5 : decode cX7_cellOf 5 = .ok (.imul, 1) := by decide +kernel
theorem dX7_cellOf_6 : decode cX7_cellOf 6 = .ok (.iload_n 0, 1) := by decide +kernel
theorem dX7_cellOf_7 : decode cX7_cellOf 7 = .ok (.bipush 10, 2) := by decide +kernel
theorem dX7_cellOf_9 : decode cX7_cellOf 9 = .ok (.irem, 1) := by decide +kernel
theorem dX7_cellOf_10 : decode cX7_cellOf 10 = .ok (.iadd, 1) := by decide +kernel
theorem dX7_cellOf_11 : decode cX7_cellOf 11 = .ok (.ireturn, 1) := by decide +kernel
def f_X7_cellOf (a0 : Int32) (s : St) : Option (Int32 × St) := some (((((nI 4) * (a0 / (nI 10))) + (a0 - a0 / (nI 10) * (nI 10))), s))
set_option maxHeartbeats 4000000 in
set_option maxRecDepth 100000 in
theorem e_X7_cellOf {X : Cx} {Γ : Gm} {r0 : Rb} (hX : Amb X Γ cX7_cellOf RX7 1 (some .int) 0) {a0 : Int32} {s : St} {t : Int32 × St} (h : f_X7_cellOf a0 s = some t) (hk : (fun t : Int32 × St => Rt X Γ r0 (some (Value.int t.1), t.2)) t) : Zw X Γ 1 r0 s 0 [(0, .int a0)] [] := by
  unfold f_X7_cellOf at h
  refine z_iconst hX (v := (nI 4)) dX7_cellOf_0 rfl 1 rfl ?_
  refine z_iload_n hX dX7_cellOf_1 0 rfl 2 rfl ?_
  refine z_bipush hX (v := (nI 10)) dX7_cellOf_2 (by decide) 4 rfl ?_
  refine z_idiv hX dX7_cellOf_4 (by decide) 5 rfl ?_
  refine z_imul hX dX7_cellOf_5 6 rfl ?_
  refine z_iload_n hX dX7_cellOf_6 0 rfl 7 rfl ?_
  refine z_bipush hX (v := (nI 10)) dX7_cellOf_7 (by decide) 9 rfl ?_
  refine z_irem hX dX7_cellOf_9 (by decide) 10 rfl ?_
  refine z_iadd hX dX7_cellOf_10 11 rfl ?_
  replace h := Option.some.inj h
  subst h
  exact z_iret hX dX7_cellOf_11 rfl hk
theorem c_X7_cellOf {lc : Launch} {Γ : Gm} {a0 : Int32} {s s2 : St} {v : Int32} (h : f_X7_cellOf a0 s = some (v, s2)) : Ct lc Γ yX7_cellOf cX7_cellOf 1 (some .int) 0 [.int a0] s (some (.int v), s2) := Ct.of (by decide +kernel) (Nat.le_of_ble_eq_true rfl) (fun X hl hX => e_X7_cellOf hX h rfl)
theorem dX7_nameOf_0 : decode cX7_nameOf 0 = .ok (.bipush 10, 2) := by decide +kernel
theorem dX7_nameOf_2 : decode cX7_nameOf 2 = .ok (.iload_n 0, 1) := by decide +kernel
theorem dX7_nameOf_3 : decode cX7_nameOf 3 = .ok (.iconst 4, 1) := by decide +kernel
theorem dX7_nameOf_4 : decode cX7_nameOf 4 = .ok (.idiv, 1) := by decide +kernel
theorem dX7_nameOf_5 : decode cX7_nameOf 5 = .ok (.imul, 1) := by decide +kernel
theorem dX7_nameOf_6 : decode cX7_nameOf 6 = .ok (.iload_n 0, 1) := by decide +kernel
theorem dX7_nameOf_7 : decode cX7_nameOf 7 = .ok (.iconst 4, 1) := by decide +kernel
theorem dX7_nameOf_8 : decode cX7_nameOf 8 = .ok (.irem, 1) := by decide +kernel
theorem dX7_nameOf_9 : decode cX7_nameOf 9 = .ok (.iadd, 1) := by decide +kernel
theorem dX7_nameOf_10 : decode cX7_nameOf 10 = .ok (.ireturn, 1) := by decide +kernel
def f_X7_nameOf (a0 : Int32) (s : St) : Option (Int32 × St) := some (((((nI 10) * (a0 / (nI 4))) + (a0 - a0 / (nI 4) * (nI 4))), s))
set_option maxHeartbeats 4000000 in
set_option maxRecDepth 100000 in
theorem e_X7_nameOf {X : Cx} {Γ : Gm} {r0 : Rb} (hX : Amb X Γ cX7_nameOf RX7 1 (some .int) 0) {a0 : Int32} {s : St} {t : Int32 × St} (h : f_X7_nameOf a0 s = some t) (hk : (fun t : Int32 × St => Rt X Γ r0 (some (Value.int t.1), t.2)) t) : Zw X Γ 1 r0 s 0 [(0, .int a0)] [] := by
  unfold f_X7_nameOf at h
  refine z_bipush hX (v := (nI 10)) dX7_nameOf_0 (by decide) 2 rfl ?_
  refine z_iload_n hX dX7_nameOf_2 0 rfl 3 rfl ?_
  refine z_iconst hX (v := (nI 4)) dX7_nameOf_3 rfl 4 rfl ?_
  refine z_idiv hX dX7_nameOf_4 (by decide) 5 rfl ?_
  refine z_imul hX dX7_nameOf_5 6 rfl ?_
  refine z_iload_n hX dX7_nameOf_6 0 rfl 7 rfl ?_
  refine z_iconst hX (v := (nI 4)) dX7_nameOf_7 rfl 8 rfl ?_
  refine z_irem hX dX7_nameOf_8 (by decide) 9 rfl ?_
  refine z_iadd hX dX7_nameOf_9 10 rfl ?_
  replace h := Option.some.inj h
  subst h
  exact z_iret hX dX7_nameOf_10 rfl hk
theorem c_X7_nameOf {lc : Launch} {Γ : Gm} {a0 : Int32} {s s2 : St} {v : Int32} (h : f_X7_nameOf a0 s = some (v, s2)) : Ct lc Γ yX7_nameOf cX7_nameOf 1 (some .int) 0 [.int a0] s (some (.int v), s2) := Ct.of (by decide +kernel) (Nat.le_of_ble_eq_true rfl) (fun X hl hX => e_X7_nameOf hX h rfl)
theorem dX7_firstDraft_0 : decode cX7_firstDraft 0 = .ok (.iconst 0, 1) := by decide +kernel
theorem dX7_firstDraft_1 : decode cX7_firstDraft 1 = .ok (.istore_n 1, 1) := by decide +kernel
theorem dX7_firstDraft_2 : decode cX7_firstDraft 2 = .ok (.iload_n 1, 1) := by decide +kernel
theorem dX7_firstDraft_3 : decode cX7_firstDraft 3 = .ok (.sipush 131, 3) := by decide +kernel
theorem dX7_firstDraft_6 : decode cX7_firstDraft 6 = .ok (.if_icmp .ge 16, 3) := by decide +kernel
theorem dX7_firstDraft_9 : decode cX7_firstDraft 9 = .ok (.aload_n 0, 1) := by decide +kernel
theorem dX7_firstDraft_10 : decode cX7_firstDraft 10 = .ok (.getfield 20, 3) := by decide +kernel
theorem dX7_firstDraft_13 : decode cX7_firstDraft 13 = .ok (.iload_n 1, 1) := by decide +kernel
theorem dX7_firstDraft_14 : decode cX7_firstDraft 14 = .ok (.iconst 0, 1) := by decide +kernel
theorem dX7_firstDraft_15 : decode cX7_firstDraft 15 = .ok (.iastore, 1) := by decide +kernel
theorem dX7_firstDraft_16 : decode cX7_firstDraft 16 = .ok (.iinc 1 1, 3) := by decide +kernel
theorem dX7_firstDraft_19 : decode cX7_firstDraft 19 = .ok (.goto (-17), 3) := by decide +kernel
theorem dX7_firstDraft_22 : decode cX7_firstDraft 22 = .ok (.aload_n 0, 1) := by decide +kernel
theorem dX7_firstDraft_23 : decode cX7_firstDraft 23 = .ok (.iconst 0, 1) := by decide +kernel
theorem dX7_firstDraft_24 : decode cX7_firstDraft 24 = .ok (.putfield 56, 3) := by decide +kernel
theorem dX7_firstDraft_27 : decode cX7_firstDraft 27 = .ok (.aload_n 0, 1) := by decide +kernel
theorem dX7_firstDraft_28 : decode cX7_firstDraft 28 = .ok (.iconst 0, 1) := by decide +kernel
theorem dX7_firstDraft_29 : decode cX7_firstDraft 29 = .ok (.putfield 60, 3) := by decide +kernel
theorem dX7_firstDraft_32 : decode cX7_firstDraft 32 = .ok (.aload_n 0, 1) := by decide +kernel
theorem dX7_firstDraft_33 : decode cX7_firstDraft 33 = .ok (.iconst 0, 1) := by decide +kernel
theorem dX7_firstDraft_34 : decode cX7_firstDraft 34 = .ok (.putfield 63, 3) := by decide +kernel
theorem dX7_firstDraft_37 : decode cX7_firstDraft 37 = .ok (.aload_n 0, 1) := by decide +kernel
theorem dX7_firstDraft_38 : decode cX7_firstDraft 38 = .ok (.iconst 0, 1) := by decide +kernel
theorem dX7_firstDraft_39 : decode cX7_firstDraft 39 = .ok (.putfield 66, 3) := by decide +kernel
theorem dX7_firstDraft_42 : decode cX7_firstDraft 42 = .ok (.return_, 1) := by decide +kernel
def f_X7_firstDraft_L2 (v1 : Int32) (s : St) : Option ((Int32 × St) ⊕ (Unit × St)) := if (nI 131) ≤ v1 then (bd (wI s 189 6 (nI 0)) (fun s2 => bd (wI s2 189 7 (nI 0)) (fun s3 => bd (wI s3 189 8 (nI 0)) (fun s4 => bd (wI s4 189 9 (nI 0)) (fun s5 => some (Sum.inr (((), s5)))))))) else (if inb v1 (lnI 193) = true then bd (wI s 193 (v1).toNatClampNeg (nI 0)) (fun s7 => some (Sum.inl ((v1 + (nI 1)), s7))) else none)
def f_X7_firstDraft (s : St) : Option (Unit × St) := lp (fun q : Int32 × St => f_X7_firstDraft_L2 q.1 q.2) Fu ((nI 0), s)
set_option maxHeartbeats 4000000 in
set_option maxRecDepth 100000 in
theorem e_X7_firstDraft_L2 {X : Cx} {Γ : Gm} {r0 : Rb} (hX : Amb X Γ cX7_firstDraft RX7 2 none 0) {v1 : Int32} {s : St} {t : (Int32 × St) ⊕ (Unit × St)} (h : f_X7_firstDraft_L2 v1 s = some t) (hk : (Sum.elim (fun q : Int32 × St => Zw X Γ 2 r0 q.2 2 [(0, .ref (gL Γ (189))), (1, .int q.1)] []) (fun t : Unit × St => Rt X Γ r0 (none, t.2))) t) : Zw X Γ 2 r0 s 2 [(0, .ref (gL Γ (189))), (1, .int v1)] [] := by
  unfold f_X7_firstDraft_L2 at h
  refine z_iload_n hX dX7_firstDraft_2 1 rfl 3 rfl ?_
  refine z_sipush hX (v := (nI 131)) dX7_firstDraft_3 (by decide) 6 rfl ?_
  refine z_icmp_ge hX 22 dX7_firstDraft_6 (by decide) 9 rfl (fun c1 => ?_) (fun c1 => ?_)
  · replace h := br_pos h c1
    refine z_aload_n hX dX7_firstDraft_22 0 rfl 23 rfl ?_
    refine z_iconst hX (v := (nI 0)) dX7_firstDraft_23 rfl 24 rfl ?_
    replace h := bd_elim h
    obtain ⟨s2, es2, h⟩ := h
    refine z_putI7 hX (k := 189) (j := 6) kdc_189 (by decide) rfl (by decide +kernel) (pwI_7_6 ..) dX7_firstDraft_24 fl_X7_56 es2 27 rfl ?_
    refine z_aload_n hX dX7_firstDraft_27 0 rfl 28 rfl ?_
    refine z_iconst hX (v := (nI 0)) dX7_firstDraft_28 rfl 29 rfl ?_
    replace h := bd_elim h
    obtain ⟨s3, es3, h⟩ := h
    refine z_putI7 hX (k := 189) (j := 7) kdc_189 (by decide) rfl (by decide +kernel) (pwI_7_7 ..) dX7_firstDraft_29 fl_X7_60 es3 32 rfl ?_
    refine z_aload_n hX dX7_firstDraft_32 0 rfl 33 rfl ?_
    refine z_iconst hX (v := (nI 0)) dX7_firstDraft_33 rfl 34 rfl ?_
    replace h := bd_elim h
    obtain ⟨s4, es4, h⟩ := h
    refine z_putI7 hX (k := 189) (j := 8) kdc_189 (by decide) rfl (by decide +kernel) (pwI_7_8 ..) dX7_firstDraft_34 fl_X7_63 es4 37 rfl ?_
    refine z_aload_n hX dX7_firstDraft_37 0 rfl 38 rfl ?_
    refine z_iconst hX (v := (nI 0)) dX7_firstDraft_38 rfl 39 rfl ?_
    replace h := bd_elim h
    obtain ⟨s5, es5, h⟩ := h
    refine z_putI7 hX (k := 189) (j := 9) kdc_189 (by decide) rfl (by decide +kernel) (pwI_7_9 ..) dX7_firstDraft_39 fl_X7_66 es5 42 rfl ?_
    replace h := Option.some.inj h
    subst h
    exact z_vret hX dX7_firstDraft_42 rfl hk
  · replace h := br_neg h c1
    refine z_aload_n hX dX7_firstDraft_9 0 rfl 10 rfl ?_
    refine z_get7 hX (k := 189) (j := 5) (v := .ref (gL Γ (193))) kdc_189 (by decide) rfl dX7_firstDraft_10 fl_X7_20 13 rfl ?_
    refine z_iload_n hX dX7_firstDraft_13 1 rfl 14 rfl ?_
    refine z_iconst hX (v := (nI 0)) dX7_firstDraft_14 rfl 15 rfl ?_
    replace h := gd_elim h
    obtain ⟨g6, h⟩ := h
    replace h := bd_elim h
    obtain ⟨s7, es7, h⟩ := h
    refine z_iast hX (inb_vp g6) dX7_firstDraft_15 es7 16 rfl ?_
    refine z_iinc hX (v := (v1 + (nI 1))) (lv2 := [(1, .int ((v1 + (nI 1)))), (0, .ref (gL Γ (189)))]) dX7_firstDraft_16 1 rfl rfl (by decide) rfl 19 rfl ?_
    refine z_goto hX 2 dX7_firstDraft_19 (by decide) ?_
    replace h := Option.some.inj h
    subst h
    exact z_sub [1, 0] rfl hk
set_option maxHeartbeats 4000000 in
set_option maxRecDepth 100000 in
theorem e_X7_firstDraft {X : Cx} {Γ : Gm} {r0 : Rb} (hX : Amb X Γ cX7_firstDraft RX7 2 none 0) {s : St} {t : Unit × St} (h : f_X7_firstDraft s = some t) (hk : (fun t : Unit × St => Rt X Γ r0 (none, t.2)) t) : Zw X Γ 2 r0 s 0 [(0, .ref (gL Γ (189)))] [] := by
  unfold f_X7_firstDraft at h
  refine z_iconst hX (v := (nI 0)) dX7_firstDraft_0 rfl 1 rfl ?_
  refine z_istore_n hX (lv2 := [(1, .int ((nI 0))), (0, .ref (gL Γ (189)))]) dX7_firstDraft_1 (by decide) rfl 2 rfl ?_
  exact z_sub [1, 0] rfl (lp_ok (Z := fun q : Int32 × St => Zw X Γ 2 r0 q.2 2 [(0, .ref (gL Γ (189))), (1, .int q.1)] []) (fun q t h hk => e_X7_firstDraft_L2 hX h hk) Fu _ _ h hk)
theorem c_X7_firstDraft {lc : Launch} {Γ : Gm} {s s2 : St} {v : Unit} (h : f_X7_firstDraft s = some (v, s2)) : Ct lc Γ yX7_firstDraft cX7_firstDraft 2 none 0 [.ref (gL Γ (189))] s (none, s2) := Ct.of (by decide +kernel) (Nat.le_of_ble_eq_true rfl) (fun X hl hX => e_X7_firstDraft hX h rfl)
theorem dX7_keepDraft_0 : decode cX7_keepDraft 0 = .ok (.iconst 0, 1) := by decide +kernel
theorem dX7_keepDraft_1 : decode cX7_keepDraft 1 = .ok (.istore_n 1, 1) := by decide +kernel
theorem dX7_keepDraft_2 : decode cX7_keepDraft 2 = .ok (.iload_n 1, 1) := by decide +kernel
theorem dX7_keepDraft_3 : decode cX7_keepDraft 3 = .ok (.sipush 131, 3) := by decide +kernel
theorem dX7_keepDraft_6 : decode cX7_keepDraft 6 = .ok (.if_icmp .ge 21, 3) := by decide +kernel
theorem dX7_keepDraft_9 : decode cX7_keepDraft 9 = .ok (.aload_n 0, 1) := by decide +kernel
theorem dX7_keepDraft_10 : decode cX7_keepDraft 10 = .ok (.getfield 7, 3) := by decide +kernel
theorem dX7_keepDraft_13 : decode cX7_keepDraft 13 = .ok (.iload_n 1, 1) := by decide +kernel
theorem dX7_keepDraft_14 : decode cX7_keepDraft 14 = .ok (.aload_n 0, 1) := by decide +kernel
theorem dX7_keepDraft_15 : decode cX7_keepDraft 15 = .ok (.getfield 20, 3) := by decide +kernel
theorem dX7_keepDraft_18 : decode cX7_keepDraft 18 = .ok (.iload_n 1, 1) := by decide +kernel
theorem dX7_keepDraft_19 : decode cX7_keepDraft 19 = .ok (.iaload, 1) := by decide +kernel
theorem dX7_keepDraft_20 : decode cX7_keepDraft 20 = .ok (.iastore, 1) := by decide +kernel
theorem dX7_keepDraft_21 : decode cX7_keepDraft 21 = .ok (.iinc 1 1, 3) := by decide +kernel
theorem dX7_keepDraft_24 : decode cX7_keepDraft 24 = .ok (.goto (-22), 3) := by decide +kernel
theorem dX7_keepDraft_27 : decode cX7_keepDraft 27 = .ok (.aload_n 0, 1) := by decide +kernel
theorem dX7_keepDraft_28 : decode cX7_keepDraft 28 = .ok (.aload_n 0, 1) := by decide +kernel
theorem dX7_keepDraft_29 : decode cX7_keepDraft 29 = .ok (.getfield 56, 3) := by decide +kernel
theorem dX7_keepDraft_32 : decode cX7_keepDraft 32 = .ok (.putfield 69, 3) := by decide +kernel
theorem dX7_keepDraft_35 : decode cX7_keepDraft 35 = .ok (.aload_n 0, 1) := by decide +kernel
theorem dX7_keepDraft_36 : decode cX7_keepDraft 36 = .ok (.aload_n 0, 1) := by decide +kernel
theorem dX7_keepDraft_37 : decode cX7_keepDraft 37 = .ok (.getfield 60, 3) := by decide +kernel
theorem dX7_keepDraft_40 : decode cX7_keepDraft 40 = .ok (.putfield 72, 3) := by decide +kernel
theorem dX7_keepDraft_43 : decode cX7_keepDraft 43 = .ok (.aload_n 0, 1) := by decide +kernel
theorem dX7_keepDraft_44 : decode cX7_keepDraft 44 = .ok (.getfield 16, 3) := by decide +kernel
theorem dX7_keepDraft_47 : decode cX7_keepDraft 47 = .ok (.iconst 0, 1) := by decide +kernel
theorem dX7_keepDraft_48 : decode cX7_keepDraft 48 = .ok (.iconst 0, 1) := by decide +kernel
theorem dX7_keepDraft_49 : decode cX7_keepDraft 49 = .ok (.bastore, 1) := by decide +kernel
theorem dX7_keepDraft_50 : decode cX7_keepDraft 50 = .ok (.aload_n 0, 1) := by decide +kernel
theorem dX7_keepDraft_51 : decode cX7_keepDraft 51 = .ok (.getfield 16, 3) := by decide +kernel
theorem dX7_keepDraft_54 : decode cX7_keepDraft 54 = .ok (.iconst 1, 1) := by decide +kernel
theorem dX7_keepDraft_55 : decode cX7_keepDraft 55 = .ok (.iconst 0, 1) := by decide +kernel
theorem dX7_keepDraft_56 : decode cX7_keepDraft 56 = .ok (.bastore, 1) := by decide +kernel
theorem dX7_keepDraft_57 : decode cX7_keepDraft 57 = .ok (.return_, 1) := by decide +kernel
def f_X7_keepDraft_L2 (v1 : Int32) (s : St) : Option ((Int32 × St) ⊕ (Unit × St)) := if (nI 131) ≤ v1 then (bd (wI s 189 3 (s.1 189 6)) (fun s2 => bd (wI s2 189 4 (s2.1 189 7)) (fun s3 => if inb (nI 0) (lnZ 192) = true then bd (wI s3 192 ((nI 0)).toNatClampNeg (vp_nar .boolean (nI 0))) (fun s5 => if inb (nI 1) (lnZ 192) = true then bd (wI s5 192 ((nI 1)).toNatClampNeg (vp_nar .boolean (nI 0))) (fun s7 => some (Sum.inr (((), s7)))) else none) else none))) else (if inb v1 (lnI 193) = true then if inb v1 (lnI 190) = true then bd (wI s 190 (v1).toNatClampNeg (s.1 193 (v1).toNatClampNeg)) (fun s10 => some (Sum.inl ((v1 + (nI 1)), s10))) else none else none)
def f_X7_keepDraft (s : St) : Option (Unit × St) := lp (fun q : Int32 × St => f_X7_keepDraft_L2 q.1 q.2) Fu ((nI 0), s)
set_option maxHeartbeats 4000000 in
set_option maxRecDepth 100000 in
theorem e_X7_keepDraft_L2 {X : Cx} {Γ : Gm} {r0 : Rb} (hX : Amb X Γ cX7_keepDraft RX7 2 none 0) {v1 : Int32} {s : St} {t : (Int32 × St) ⊕ (Unit × St)} (h : f_X7_keepDraft_L2 v1 s = some t) (hk : (Sum.elim (fun q : Int32 × St => Zw X Γ 2 r0 q.2 2 [(0, .ref (gL Γ (189))), (1, .int q.1)] []) (fun t : Unit × St => Rt X Γ r0 (none, t.2))) t) : Zw X Γ 2 r0 s 2 [(0, .ref (gL Γ (189))), (1, .int v1)] [] := by
  unfold f_X7_keepDraft_L2 at h
  refine z_iload_n hX dX7_keepDraft_2 1 rfl 3 rfl ?_
  refine z_sipush hX (v := (nI 131)) dX7_keepDraft_3 (by decide) 6 rfl ?_
  refine z_icmp_ge hX 27 dX7_keepDraft_6 (by decide) 9 rfl (fun c1 => ?_) (fun c1 => ?_)
  · replace h := br_pos h c1
    refine z_aload_n hX dX7_keepDraft_27 0 rfl 28 rfl ?_
    refine z_aload_n hX dX7_keepDraft_28 0 rfl 29 rfl ?_
    refine z_get7 hX (k := 189) (j := 6) (v := .int ((s.1 189 6))) kdc_189 (by decide) rfl dX7_keepDraft_29 fl_X7_56 32 rfl ?_
    replace h := bd_elim h
    obtain ⟨s2, es2, h⟩ := h
    refine z_putI7 hX (k := 189) (j := 3) kdc_189 (by decide) rfl (by decide +kernel) (pwI_7_3 ..) dX7_keepDraft_32 fl_X7_69 es2 35 rfl ?_
    refine z_aload_n hX dX7_keepDraft_35 0 rfl 36 rfl ?_
    refine z_aload_n hX dX7_keepDraft_36 0 rfl 37 rfl ?_
    refine z_get7 hX (k := 189) (j := 7) (v := .int ((s2.1 189 7))) kdc_189 (by decide) rfl dX7_keepDraft_37 fl_X7_60 40 rfl ?_
    replace h := bd_elim h
    obtain ⟨s3, es3, h⟩ := h
    refine z_putI7 hX (k := 189) (j := 4) kdc_189 (by decide) rfl (by decide +kernel) (pwI_7_4 ..) dX7_keepDraft_40 fl_X7_72 es3 43 rfl ?_
    refine z_aload_n hX dX7_keepDraft_43 0 rfl 44 rfl ?_
    refine z_get7 hX (k := 189) (j := 2) (v := .ref (gL Γ (192))) kdc_189 (by decide) rfl dX7_keepDraft_44 fl_X7_16 47 rfl ?_
    refine z_iconst hX (v := (nI 0)) dX7_keepDraft_47 rfl 48 rfl ?_
    refine z_iconst hX (v := (nI 0)) dX7_keepDraft_48 rfl 49 rfl ?_
    replace h := gd_elim h
    obtain ⟨g4, h⟩ := h
    replace h := bd_elim h
    obtain ⟨s5, es5, h⟩ := h
    refine z_zast hX (inb_vp g4) dX7_keepDraft_49 es5 50 rfl ?_
    refine z_aload_n hX dX7_keepDraft_50 0 rfl 51 rfl ?_
    refine z_get7 hX (k := 189) (j := 2) (v := .ref (gL Γ (192))) kdc_189 (by decide) rfl dX7_keepDraft_51 fl_X7_16 54 rfl ?_
    refine z_iconst hX (v := (nI 1)) dX7_keepDraft_54 rfl 55 rfl ?_
    refine z_iconst hX (v := (nI 0)) dX7_keepDraft_55 rfl 56 rfl ?_
    replace h := gd_elim h
    obtain ⟨g6, h⟩ := h
    replace h := bd_elim h
    obtain ⟨s7, es7, h⟩ := h
    refine z_zast hX (inb_vp g6) dX7_keepDraft_56 es7 57 rfl ?_
    replace h := Option.some.inj h
    subst h
    exact z_vret hX dX7_keepDraft_57 rfl hk
  · replace h := br_neg h c1
    refine z_aload_n hX dX7_keepDraft_9 0 rfl 10 rfl ?_
    refine z_get7 hX (k := 189) (j := 0) (v := .ref (gL Γ (190))) kdc_189 (by decide) rfl dX7_keepDraft_10 fl_X7_7 13 rfl ?_
    refine z_iload_n hX dX7_keepDraft_13 1 rfl 14 rfl ?_
    refine z_aload_n hX dX7_keepDraft_14 0 rfl 15 rfl ?_
    refine z_get7 hX (k := 189) (j := 5) (v := .ref (gL Γ (193))) kdc_189 (by decide) rfl dX7_keepDraft_15 fl_X7_20 18 rfl ?_
    refine z_iload_n hX dX7_keepDraft_18 1 rfl 19 rfl ?_
    replace h := gd_elim h
    obtain ⟨g8, h⟩ := h
    refine z_iald hX (inb_vp g8) dX7_keepDraft_19 20 rfl ?_
    replace h := gd_elim h
    obtain ⟨g9, h⟩ := h
    replace h := bd_elim h
    obtain ⟨s10, es10, h⟩ := h
    refine z_iast hX (inb_vp g9) dX7_keepDraft_20 es10 21 rfl ?_
    refine z_iinc hX (v := (v1 + (nI 1))) (lv2 := [(1, .int ((v1 + (nI 1)))), (0, .ref (gL Γ (189)))]) dX7_keepDraft_21 1 rfl rfl (by decide) rfl 24 rfl ?_
    refine z_goto hX 2 dX7_keepDraft_24 (by decide) ?_
    replace h := Option.some.inj h
    subst h
    exact z_sub [1, 0] rfl hk
set_option maxHeartbeats 4000000 in
set_option maxRecDepth 100000 in
theorem e_X7_keepDraft {X : Cx} {Γ : Gm} {r0 : Rb} (hX : Amb X Γ cX7_keepDraft RX7 2 none 0) {s : St} {t : Unit × St} (h : f_X7_keepDraft s = some t) (hk : (fun t : Unit × St => Rt X Γ r0 (none, t.2)) t) : Zw X Γ 2 r0 s 0 [(0, .ref (gL Γ (189)))] [] := by
  unfold f_X7_keepDraft at h
  refine z_iconst hX (v := (nI 0)) dX7_keepDraft_0 rfl 1 rfl ?_
  refine z_istore_n hX (lv2 := [(1, .int ((nI 0))), (0, .ref (gL Γ (189)))]) dX7_keepDraft_1 (by decide) rfl 2 rfl ?_
  exact z_sub [1, 0] rfl (lp_ok (Z := fun q : Int32 × St => Zw X Γ 2 r0 q.2 2 [(0, .ref (gL Γ (189))), (1, .int q.1)] []) (fun q t h hk => e_X7_keepDraft_L2 hX h hk) Fu _ _ h hk)
theorem c_X7_keepDraft {lc : Launch} {Γ : Gm} {s s2 : St} {v : Unit} (h : f_X7_keepDraft s = some (v, s2)) : Ct lc Γ yX7_keepDraft cX7_keepDraft 2 none 0 [.ref (gL Γ (189))] s (none, s2) := Ct.of (by decide +kernel) (Nat.le_of_ble_eq_true rfl) (fun X hl hX => e_X7_keepDraft hX h rfl)
theorem dX7_feed_0 : decode cX7_feed 0 = .ok (.iload_n 1, 1) := by decide +kernel
theorem dX7_feed_1 : decode cX7_feed 1 = .ok (.i2l, 1) := by decide +kernel
theorem dX7_feed_2 : decode cX7_feed 2 = .ok (.lconst 0, 1) := by decide +kernel
theorem dX7_feed_3 : decode cX7_feed 3 = .ok (.ldc2_w 75, 3) := by decide +kernel
theorem dX7_feed_6 : decode cX7_feed 6 = .ok (.invokestatic 52, 3) := by decide +kernel
theorem dX7_feed_9 : decode cX7_feed 9 = .ok (.ifCond .ne 5, 3) := by decide +kernel
theorem dX7_feed_12 : decode cX7_feed 12 = .ok (.iconst (-1), 1) := by decide +kernel
theorem dX7_feed_13 : decode cX7_feed 13 = .ok (.ireturn, 1) := by decide +kernel
theorem dX7_feed_14 : decode cX7_feed 14 = .ok (.aload_n 0, 1) := by decide +kernel
theorem dX7_feed_15 : decode cX7_feed 15 = .ok (.getfield 77, 3) := by decide +kernel
theorem dX7_feed_18 : decode cX7_feed 18 = .ok (.sipush 160, 3) := by decide +kernel
theorem dX7_feed_21 : decode cX7_feed 21 = .ok (.if_icmp .ne 6, 3) := by decide +kernel
theorem dX7_feed_24 : decode cX7_feed 24 = .ok (.bipush (-3), 2) := by decide +kernel
theorem dX7_feed_26 : decode cX7_feed 26 = .ok (.ireturn, 1) := by decide +kernel
theorem dX7_feed_27 : decode cX7_feed 27 = .ok (.aload_n 0, 1) := by decide +kernel
theorem dX7_feed_28 : decode cX7_feed 28 = .ok (.getfield 23, 3) := by decide +kernel
theorem dX7_feed_31 : decode cX7_feed 31 = .ok (.aload_n 0, 1) := by decide +kernel
theorem dX7_feed_32 : decode cX7_feed 32 = .ok (.getfield 77, 3) := by decide +kernel
theorem dX7_feed_35 : decode cX7_feed 35 = .ok (.iload_n 1, 1) := by decide +kernel
theorem dX7_feed_36 : decode cX7_feed 36 = .ok (.iastore, 1) := by decide +kernel
theorem dX7_feed_37 : decode cX7_feed 37 = .ok (.aload_n 0, 1) := by decide +kernel
theorem dX7_feed_38 : decode cX7_feed 38 = .ok (.dup, 1) := by decide +kernel
theorem dX7_feed_39 : decode cX7_feed 39 = .ok (.getfield 77, 3) := by decide +kernel
theorem dX7_feed_42 : decode cX7_feed 42 = .ok (.iconst 1, 1) := by decide +kernel
theorem dX7_feed_43 : decode cX7_feed 43 = .ok (.iadd, 1) := by decide +kernel
theorem dX7_feed_44 : decode cX7_feed 44 = .ok (.putfield 77, 3) := by decide +kernel
theorem dX7_feed_47 : decode cX7_feed 47 = .ok (.aload_n 0, 1) := by decide +kernel
theorem dX7_feed_48 : decode cX7_feed 48 = .ok (.getfield 77, 3) := by decide +kernel
theorem dX7_feed_51 : decode cX7_feed 51 = .ok (.ireturn, 1) := by decide +kernel
def f_X7_feed (a1 : Int32) (s : St) : Option (Int32 × St) := cl (f_X7_within ((a1).toInt64) (lN 0) (lN 127) s) (fun x2 s1 => if ¬ x2 = 0 then (if ¬ (s1.1 189 11) = (nI 160) then (if inb (s1.1 189 11) (lnI 194) = true then bd (wI s1 194 ((s1.1 189 11)).toNatClampNeg a1) (fun s6 => bd (wI s6 189 11 ((s6.1 189 11) + (nI 1))) (fun s7 => some (((s7.1 189 11), s7)))) else none) else (some (((-3), s1)))) else (some (((-1), s1))))
set_option maxHeartbeats 4000000 in
set_option maxRecDepth 100000 in
theorem e_X7_feed {X : Cx} {Γ : Gm} {r0 : Rb} (hX : Amb X Γ cX7_feed RX7 2 (some .int) 1) {a1 : Int32} {s : St} {t : Int32 × St} (h : f_X7_feed a1 s = some t) (hk : (fun t : Int32 × St => Rt X Γ r0 (some (Value.int t.1), t.2)) t) : Zw X Γ 2 r0 s 0 [(0, .ref (gL Γ (189))), (1, .int a1)] [] := by
  unfold f_X7_feed at h
  refine z_iload_n hX dX7_feed_0 1 rfl 1 rfl ?_
  refine z_i2l hX dX7_feed_1 2 rfl ?_
  refine z_lconst hX (v := (lN 0)) dX7_feed_2 rfl 3 rfl ?_
  refine z_ldc2 hX (v := (lN 127)) dX7_feed_3 ml_X7_75 6 rfl ?_
  replace h := cl_elim h
  obtain ⟨x2, s1, hx2, h⟩ := h
  refine z_cSi hX (As := [.long ((a1).toInt64), .long ((lN 0)), .long ((lN 127))]) (c_X7_within hx2) lk_X7_52 ds_X7_within rfl (by decide) (by decide) (by decide) dX7_feed_6 rfl 9 rfl ?_
  refine z_if_ne hX 14 dX7_feed_9 (by decide) 12 rfl (fun c3 => ?_) (fun c3 => ?_)
  · replace h := br_pos h c3
    refine z_aload_n hX dX7_feed_14 0 rfl 15 rfl ?_
    refine z_get7 hX (k := 189) (j := 11) (v := .int ((s1.1 189 11))) kdc_189 (by decide) rfl dX7_feed_15 fl_X7_77 18 rfl ?_
    refine z_sipush hX (v := (nI 160)) dX7_feed_18 (by decide) 21 rfl ?_
    refine z_icmp_ne hX 27 dX7_feed_21 (by decide) 24 rfl (fun c4 => ?_) (fun c4 => ?_)
    · replace h := br_pos h c4
      refine z_aload_n hX dX7_feed_27 0 rfl 28 rfl ?_
      refine z_get7 hX (k := 189) (j := 10) (v := .ref (gL Γ (194))) kdc_189 (by decide) rfl dX7_feed_28 fl_X7_23 31 rfl ?_
      refine z_aload_n hX dX7_feed_31 0 rfl 32 rfl ?_
      refine z_get7 hX (k := 189) (j := 11) (v := .int ((s1.1 189 11))) kdc_189 (by decide) rfl dX7_feed_32 fl_X7_77 35 rfl ?_
      refine z_iload_n hX dX7_feed_35 1 rfl 36 rfl ?_
      replace h := gd_elim h
      obtain ⟨g5, h⟩ := h
      replace h := bd_elim h
      obtain ⟨s6, es6, h⟩ := h
      refine z_iast hX (inb_vp g5) dX7_feed_36 es6 37 rfl ?_
      refine z_aload_n hX dX7_feed_37 0 rfl 38 rfl ?_
      refine z_dup hX dX7_feed_38 rfl 39 rfl ?_
      refine z_get7 hX (k := 189) (j := 11) (v := .int ((s6.1 189 11))) kdc_189 (by decide) rfl dX7_feed_39 fl_X7_77 42 rfl ?_
      refine z_iconst hX (v := (nI 1)) dX7_feed_42 rfl 43 rfl ?_
      refine z_iadd hX dX7_feed_43 44 rfl ?_
      replace h := bd_elim h
      obtain ⟨s7, es7, h⟩ := h
      refine z_putI7 hX (k := 189) (j := 11) kdc_189 (by decide) rfl (by decide +kernel) (pwI_7_11 ..) dX7_feed_44 fl_X7_77 es7 47 rfl ?_
      refine z_aload_n hX dX7_feed_47 0 rfl 48 rfl ?_
      refine z_get7 hX (k := 189) (j := 11) (v := .int ((s7.1 189 11))) kdc_189 (by decide) rfl dX7_feed_48 fl_X7_77 51 rfl ?_
      replace h := Option.some.inj h
      subst h
      exact z_iret hX dX7_feed_51 rfl hk
    · replace h := br_neg h c4
      refine z_bipush hX (v := (-3)) dX7_feed_24 (by decide) 26 rfl ?_
      replace h := Option.some.inj h
      subst h
      exact z_iret hX dX7_feed_26 rfl hk
  · replace h := br_neg h c3
    refine z_iconst hX (v := (-1)) dX7_feed_12 rfl 13 rfl ?_
    replace h := Option.some.inj h
    subst h
    exact z_iret hX dX7_feed_13 rfl hk
theorem c_X7_feed {lc : Launch} {Γ : Gm} {a1 : Int32} {s s2 : St} {v : Int32} (h : f_X7_feed a1 s = some (v, s2)) : Ct lc Γ yX7_feed cX7_feed 2 (some .int) 1 [.ref (gL Γ (189)), .int a1] s (some (.int v), s2) := Ct.of (by decide +kernel) (Nat.le_of_ble_eq_true rfl) (fun X hl hX => e_X7_feed hX h rfl)
theorem dX7_end_0 : decode cX7_end 0 = .ok (.iload_n 1, 1) := by decide +kernel
theorem dX7_end_1 : decode cX7_end 1 = .ok (.i2l, 1) := by decide +kernel
theorem dX7_end_2 : decode cX7_end 2 = .ok (.lconst 0, 1) := by decide +kernel
theorem dX7_end_3 : decode cX7_end 3 = .ok (.aload_n 0, 1) := by decide +kernel
theorem dX7_end_4 : decode cX7_end 4 = .ok (.getfield 77, 3) := by decide +kernel
theorem dX7_end_7 : decode cX7_end 7 = .ok (.i2l, 1) := by decide +kernel
theorem dX7_end_8 : decode cX7_end 8 = .ok (.invokestatic 52, 3) := by decide +kernel
theorem dX7_end_11 : decode cX7_end 11 = .ok (.ifCond .ne 5, 3) := by decide +kernel
theorem dX7_end_14 : decode cX7_end 14 = .ok (.iconst (-1), 1) := by decide +kernel
theorem dX7_end_15 : decode cX7_end 15 = .ok (.ireturn, 1) := by decide +kernel
theorem dX7_end_16 : decode cX7_end 16 = .ok (.aload_n 0, 1) := by decide +kernel
theorem dX7_end_17 : decode cX7_end 17 = .ok (.getfield 77, 3) := by decide +kernel
theorem dX7_end_20 : decode cX7_end 20 = .ok (.istore_n 2, 1) := by decide +kernel
theorem dX7_end_21 : decode cX7_end 21 = .ok (.aload_n 0, 1) := by decide +kernel
theorem dX7_end_22 : decode cX7_end 22 = .ok (.iload_n 1, 1) := by decide +kernel
theorem dX7_end_23 : decode cX7_end 23 = .ok (.putfield 77, 3) := by decide +kernel
theorem dX7_end_26 : decode cX7_end 26 = .ok (.iload_n 2, 1) := by decide +kernel
theorem dX7_end_27 : decode cX7_end 27 = .ok (.ireturn, 1) := by decide +kernel
def f_X7_end (a1 : Int32) (s : St) : Option (Int32 × St) := cl (f_X7_within ((a1).toInt64) (lN 0) (((s.1 189 11)).toInt64) s) (fun x2 s1 => if ¬ x2 = 0 then (bd (s1.1 189 11) (fun x4 => bd (wI s1 189 11 a1) (fun s5 => some ((x4, s5))))) else (some (((-1), s1))))
set_option maxHeartbeats 4000000 in
set_option maxRecDepth 100000 in
theorem e_X7_end {X : Cx} {Γ : Gm} {r0 : Rb} (hX : Amb X Γ cX7_end RX7 3 (some .int) 1) {a1 : Int32} {s : St} {t : Int32 × St} (h : f_X7_end a1 s = some t) (hk : (fun t : Int32 × St => Rt X Γ r0 (some (Value.int t.1), t.2)) t) : Zw X Γ 3 r0 s 0 [(0, .ref (gL Γ (189))), (1, .int a1)] [] := by
  unfold f_X7_end at h
  refine z_iload_n hX dX7_end_0 1 rfl 1 rfl ?_
  refine z_i2l hX dX7_end_1 2 rfl ?_
  refine z_lconst hX (v := (lN 0)) dX7_end_2 rfl 3 rfl ?_
  refine z_aload_n hX dX7_end_3 0 rfl 4 rfl ?_
  refine z_get7 hX (k := 189) (j := 11) (v := .int ((s.1 189 11))) kdc_189 (by decide) rfl dX7_end_4 fl_X7_77 7 rfl ?_
  refine z_i2l hX dX7_end_7 8 rfl ?_
  replace h := cl_elim h
  obtain ⟨x2, s1, hx2, h⟩ := h
  refine z_cSi hX (As := [.long ((a1).toInt64), .long ((lN 0)), .long (((s.1 189 11)).toInt64)]) (c_X7_within hx2) lk_X7_52 ds_X7_within rfl (by decide) (by decide) (by decide) dX7_end_8 rfl 11 rfl ?_
  refine z_if_ne hX 16 dX7_end_11 (by decide) 14 rfl (fun c3 => ?_) (fun c3 => ?_)
  · replace h := br_pos h c3
    refine z_aload_n hX dX7_end_16 0 rfl 17 rfl ?_
    refine z_get7 hX (k := 189) (j := 11) (v := .int ((s1.1 189 11))) kdc_189 (by decide) rfl dX7_end_17 fl_X7_77 20 rfl ?_
    replace h := bd_elim h
    obtain ⟨x4, ex4, h⟩ := h
    refine z_nm ex4 ?_
    refine z_istore_n hX (lv2 := [(2, .int x4), (0, .ref (gL Γ (189))), (1, .int a1)]) dX7_end_20 (by decide) rfl 21 rfl ?_
    refine z_aload_n hX dX7_end_21 1 rfl 22 rfl ?_
    refine z_iload_n hX dX7_end_22 2 rfl 23 rfl ?_
    replace h := bd_elim h
    obtain ⟨s5, es5, h⟩ := h
    refine z_putI7 hX (k := 189) (j := 11) kdc_189 (by decide) rfl (by decide +kernel) (pwI_7_11 ..) dX7_end_23 fl_X7_77 es5 26 rfl ?_
    refine z_iload_n hX dX7_end_26 0 rfl 27 rfl ?_
    replace h := Option.some.inj h
    subst h
    exact z_iret hX dX7_end_27 rfl hk
  · replace h := br_neg h c3
    refine z_iconst hX (v := (-1)) dX7_end_14 rfl 15 rfl ?_
    replace h := Option.some.inj h
    subst h
    exact z_iret hX dX7_end_15 rfl hk
theorem c_X7_end {lc : Launch} {Γ : Gm} {a1 : Int32} {s s2 : St} {v : Int32} (h : f_X7_end a1 s = some (v, s2)) : Ct lc Γ yX7_end cX7_end 3 (some .int) 1 [.ref (gL Γ (189)), .int a1] s (some (.int v), s2) := Ct.of (by decide +kernel) (Nat.le_of_ble_eq_true rfl) (fun X hl hX => e_X7_end hX h rfl)
theorem dX7_needs_0 : decode cX7_needs 0 = .ok (.iload_n 1, 1) := by decide +kernel
theorem dX7_needs_1 : decode cX7_needs 1 = .ok (.ifCond .ne 23, 3) := by decide +kernel
theorem dX7_needs_4 : decode cX7_needs 4 = .ok (.aload_n 0, 1) := by decide +kernel
theorem dX7_needs_5 : decode cX7_needs 5 = .ok (.getfield 80, 3) := by decide +kernel
theorem dX7_needs_8 : decode cX7_needs 8 = .ok (.ifCond .ne 16, 3) := by decide +kernel
theorem dX7_needs_11 : decode cX7_needs 11 = .ok (.aload_n 0, 1) := by decide +kernel
theorem dX7_needs_12 : decode cX7_needs 12 = .ok (.iload_n 2, 1) := by decide +kernel
theorem dX7_needs_13 : decode cX7_needs 13 = .ok (.putfield 80, 3) := by decide +kernel
theorem dX7_needs_16 : decode cX7_needs 16 = .ok (.aload_n 0, 1) := by decide +kernel
theorem dX7_needs_17 : decode cX7_needs 17 = .ok (.aload_n 0, 1) := by decide +kernel
theorem dX7_needs_18 : decode cX7_needs 18 = .ok (.getfield 83, 3) := by decide +kernel
theorem dX7_needs_21 : decode cX7_needs 21 = .ok (.putfield 86, 3) := by decide +kernel
theorem dX7_needs_24 : decode cX7_needs 24 = .ok (.return_, 1) := by decide +kernel
def f_X7_needs (a1 : Int32) (a2 : Int32) (s : St) : Option (Unit × St) := if ¬ a1 = 0 then (some (((), s))) else (if ¬ (s.1 189 16) = 0 then (some (((), s))) else (bd (wI s 189 16 a2) (fun s3 => bd (wI s3 189 17 (s3.1 189 13)) (fun s4 => some (((), s4))))))
set_option maxHeartbeats 4000000 in
set_option maxRecDepth 100000 in
theorem e_X7_needs {X : Cx} {Γ : Gm} {r0 : Rb} (hX : Amb X Γ cX7_needs RX7 3 none 0) {a1 : Int32} {a2 : Int32} {s : St} {t : Unit × St} (h : f_X7_needs a1 a2 s = some t) (hk : (fun t : Unit × St => Rt X Γ r0 (none, t.2)) t) : Zw X Γ 3 r0 s 0 [(0, .ref (gL Γ (189))), (1, .int a1), (2, .int a2)] [] := by
  unfold f_X7_needs at h
  refine z_iload_n hX dX7_needs_0 1 rfl 1 rfl ?_
  refine z_if_ne hX 24 dX7_needs_1 (by decide) 4 rfl (fun c1 => ?_) (fun c1 => ?_)
  · replace h := br_pos h c1
    replace h := Option.some.inj h
    subst h
    exact z_vret hX dX7_needs_24 rfl hk
  · replace h := br_neg h c1
    refine z_aload_n hX dX7_needs_4 0 rfl 5 rfl ?_
    refine z_get7 hX (k := 189) (j := 16) (v := .int ((s.1 189 16))) kdc_189 (by decide) rfl dX7_needs_5 fl_X7_80 8 rfl ?_
    refine z_if_ne hX 24 dX7_needs_8 (by decide) 11 rfl (fun c2 => ?_) (fun c2 => ?_)
    · replace h := br_pos h c2
      replace h := Option.some.inj h
      subst h
      exact z_vret hX dX7_needs_24 rfl hk
    · replace h := br_neg h c2
      refine z_aload_n hX dX7_needs_11 0 rfl 12 rfl ?_
      refine z_iload_n hX dX7_needs_12 2 rfl 13 rfl ?_
      replace h := bd_elim h
      obtain ⟨s3, es3, h⟩ := h
      refine z_putI7 hX (k := 189) (j := 16) kdc_189 (by decide) rfl (by decide +kernel) (pwI_7_16 ..) dX7_needs_13 fl_X7_80 es3 16 rfl ?_
      refine z_aload_n hX dX7_needs_16 0 rfl 17 rfl ?_
      refine z_aload_n hX dX7_needs_17 0 rfl 18 rfl ?_
      refine z_get7 hX (k := 189) (j := 13) (v := .int ((s3.1 189 13))) kdc_189 (by decide) rfl dX7_needs_18 fl_X7_83 21 rfl ?_
      replace h := bd_elim h
      obtain ⟨s4, es4, h⟩ := h
      refine z_putI7 hX (k := 189) (j := 17) kdc_189 (by decide) rfl (by decide +kernel) (pwI_7_17 ..) dX7_needs_21 fl_X7_86 es4 24 rfl ?_
      replace h := Option.some.inj h
      subst h
      exact z_vret hX dX7_needs_24 rfl hk
theorem c_X7_needs {lc : Launch} {Γ : Gm} {a1 : Int32} {a2 : Int32} {s s2 : St} {v : Unit} (h : f_X7_needs a1 a2 s = some (v, s2)) : Ct lc Γ yX7_needs cX7_needs 3 none 0 [.ref (gL Γ (189)), .int a1, .int a2] s (none, s2) := Ct.of (by decide +kernel) (Nat.le_of_ble_eq_true rfl) (fun X hl hX => e_X7_needs hX h rfl)
theorem dX7_byteAt_0 : decode cX7_byteAt 0 = .ok (.iload_n 1, 1) := by decide +kernel
theorem dX7_byteAt_1 : decode cX7_byteAt 1 = .ok (.aload_n 0, 1) := by decide +kernel
theorem dX7_byteAt_2 : decode cX7_byteAt 2 = .ok (.getfield 77, 3) := by decide +kernel
theorem dX7_byteAt_5 : decode cX7_byteAt 5 = .ok (.if_icmp .ge 12, 3) := by decide +kernel
theorem dX7_byteAt_8 : decode cX7_byteAt 8 = .ok (.aload_n 0, 1) := by decide +kernel
theorem dX7_byteAt_9 : decode cX7_byteAt 9 = .ok (.getfield 23, 3) := by decide +kernel
theorem dX7_byteAt_12 : decode cX7_byteAt 12 = .ok (.iload_n 1, 1) := by decide +kernel
theorem dX7_byteAt_13 : decode cX7_byteAt 13 = .ok (.iaload, 1) := by decide +kernel
theorem dX7_byteAt_14 : decode cX7_byteAt 14 = .ok (.goto 4, 3) := by decide +kernel
theorem dX7_byteAt_17 : decode cX7_byteAt 17 = .ok (.iconst (-1), 1) := by decide +kernel
theorem dX7_byteAt_18 : decode cX7_byteAt 18 = .ok (.ireturn, 1) := by decide +kernel
def f_X7_byteAt (a1 : Int32) (s : St) : Option (Int32 × St) := if (s.1 189 11) ≤ a1 then (some (((-1), s))) else (if inb a1 (lnI 194) = true then some (((s.1 194 (a1).toNatClampNeg), s)) else none)
set_option maxHeartbeats 4000000 in
set_option maxRecDepth 100000 in
theorem e_X7_byteAt {X : Cx} {Γ : Gm} {r0 : Rb} (hX : Amb X Γ cX7_byteAt RX7 2 (some .int) 0) {a1 : Int32} {s : St} {t : Int32 × St} (h : f_X7_byteAt a1 s = some t) (hk : (fun t : Int32 × St => Rt X Γ r0 (some (Value.int t.1), t.2)) t) : Zw X Γ 2 r0 s 0 [(0, .ref (gL Γ (189))), (1, .int a1)] [] := by
  unfold f_X7_byteAt at h
  refine z_iload_n hX dX7_byteAt_0 1 rfl 1 rfl ?_
  refine z_aload_n hX dX7_byteAt_1 0 rfl 2 rfl ?_
  refine z_get7 hX (k := 189) (j := 11) (v := .int ((s.1 189 11))) kdc_189 (by decide) rfl dX7_byteAt_2 fl_X7_77 5 rfl ?_
  refine z_icmp_ge hX 17 dX7_byteAt_5 (by decide) 8 rfl (fun c1 => ?_) (fun c1 => ?_)
  · replace h := br_pos h c1
    refine z_iconst hX (v := (-1)) dX7_byteAt_17 rfl 18 rfl ?_
    replace h := Option.some.inj h
    subst h
    exact z_iret hX dX7_byteAt_18 rfl hk
  · replace h := br_neg h c1
    refine z_aload_n hX dX7_byteAt_8 0 rfl 9 rfl ?_
    refine z_get7 hX (k := 189) (j := 10) (v := .ref (gL Γ (194))) kdc_189 (by decide) rfl dX7_byteAt_9 fl_X7_23 12 rfl ?_
    refine z_iload_n hX dX7_byteAt_12 1 rfl 13 rfl ?_
    replace h := gd_elim h
    obtain ⟨g2, h⟩ := h
    refine z_iald hX (inb_vp g2) dX7_byteAt_13 14 rfl ?_
    refine z_goto hX 18 dX7_byteAt_14 (by decide) ?_
    replace h := Option.some.inj h
    subst h
    exact z_iret hX dX7_byteAt_18 rfl hk
theorem c_X7_byteAt {lc : Launch} {Γ : Gm} {a1 : Int32} {s s2 : St} {v : Int32} (h : f_X7_byteAt a1 s = some (v, s2)) : Ct lc Γ yX7_byteAt cX7_byteAt 2 (some .int) 0 [.ref (gL Γ (189)), .int a1] s (some (.int v), s2) := Ct.of (by decide +kernel) (Nat.le_of_ble_eq_true rfl) (fun X hl hX => e_X7_byteAt hX h rfl)
theorem dX7_is_0 : decode cX7_is 0 = .ok (.aload_n 0, 1) := by decide +kernel
theorem dX7_is_1 : decode cX7_is 1 = .ok (.getfield 89, 3) := by decide +kernel
theorem dX7_is_4 : decode cX7_is 4 = .ok (.aload_n 0, 1) := by decide +kernel
theorem dX7_is_5 : decode cX7_is 5 = .ok (.getfield 83, 3) := by decide +kernel
theorem dX7_is_8 : decode cX7_is 8 = .ok (.isub, 1) := by decide +kernel
theorem dX7_is_9 : decode cX7_is 9 = .ok (.iload_n 1, 1) := by decide +kernel
theorem dX7_is_10 : decode cX7_is 10 = .ok (.if_icmp .ne 48, 3) := by decide +kernel
theorem dX7_is_13 : decode cX7_is 13 = .ok (.aload_n 0, 1) := by decide +kernel
theorem dX7_is_14 : decode cX7_is 14 = .ok (.aload_n 0, 1) := by decide +kernel
theorem dX7_is_15 : decode cX7_is 15 = .ok (.getfield 83, 3) := by decide +kernel
theorem dX7_is_18 : decode cX7_is 18 = .ok (.invokevirtual 92, 3) := by decide +kernel
theorem dX7_is_21 : decode cX7_is 21 = .ok (.iload_n 2, 1) := by decide +kernel
theorem dX7_is_22 : decode cX7_is 22 = .ok (.if_icmp .ne 36, 3) := by decide +kernel
theorem dX7_is_25 : decode cX7_is 25 = .ok (.aload_n 0, 1) := by decide +kernel
theorem dX7_is_26 : decode cX7_is 26 = .ok (.aload_n 0, 1) := by decide +kernel
theorem dX7_is_27 : decode cX7_is 27 = .ok (.getfield 83, 3) := by decide +kernel
theorem dX7_is_30 : decode cX7_is 30 = .ok (.iconst 1, 1) := by decide +kernel
theorem dX7_is_31 : decode cX7_is 31 = .ok (.iadd, 1) := by decide +kernel
theorem dX7_is_32 : decode cX7_is 32 = .ok (.invokevirtual 92, 3) := by decide +kernel
theorem dX7_is_35 : decode cX7_is 35 = .ok (.iload_n 3, 1) := by decide +kernel
theorem dX7_is_36 : decode cX7_is 36 = .ok (.if_icmp .ne 22, 3) := by decide +kernel
theorem dX7_is_39 : decode cX7_is 39 = .ok (.aload_n 0, 1) := by decide +kernel
theorem dX7_is_40 : decode cX7_is 40 = .ok (.aload_n 0, 1) := by decide +kernel
theorem dX7_is_41 : decode cX7_is 41 = .ok (.getfield 83, 3) := by decide +kernel
theorem dX7_is_44 : decode cX7_is 44 = .ok (.iconst 2, 1) := by decide +kernel
theorem dX7_is_45 : decode cX7_is 45 = .ok (.iadd, 1) := by decide +kernel
theorem dX7_is_46 : decode cX7_is 46 = .ok (.invokevirtual 92, 3) := by decide +kernel
theorem dX7_is_49 : decode cX7_is 49 = .ok (.iload 4, 2) := by decide +kernel
theorem dX7_is_51 : decode cX7_is 51 = .ok (.if_icmp .ne 7, 3) := by decide +kernel
theorem dX7_is_54 : decode cX7_is 54 = .ok (.iconst 1, 1) := by decide +kernel
theorem dX7_is_55 : decode cX7_is 55 = .ok (.goto 4, 3) := by decide +kernel
theorem dX7_is_58 : decode cX7_is 58 = .ok (.iconst 0, 1) := by decide +kernel
theorem dX7_is_59 : decode cX7_is 59 = .ok (.ireturn, 1) := by decide +kernel
def f_X7_is (a1 : Int32) (a2 : Int32) (a3 : Int32) (a4 : Int32) (s : St) : Option (Int32 × St) := if ¬ ((s.1 189 12) - (s.1 189 13)) = a1 then (some (((nI 0), s))) else (cl (f_X7_byteAt (s.1 189 13) s) (fun x3 s2 => if ¬ x3 = a2 then (some (((nI 0), s2))) else (cl (f_X7_byteAt ((s2.1 189 13) + (nI 1)) s2) (fun x6 s5 => if ¬ x6 = a3 then (some (((nI 0), s5))) else (cl (f_X7_byteAt ((s5.1 189 13) + (nI 2)) s5) (fun x9 s8 => if ¬ x9 = a4 then (some (((nI 0), s8))) else (some (((nI 1), s8)))))))))
set_option maxHeartbeats 4000000 in
set_option maxRecDepth 100000 in
theorem e_X7_is {X : Cx} {Γ : Gm} {r0 : Rb} (hX : Amb X Γ cX7_is RX7 5 (some .boolean) 1) {a1 : Int32} {a2 : Int32} {a3 : Int32} {a4 : Int32} {s : St} {t : Int32 × St} (h : f_X7_is a1 a2 a3 a4 s = some t) (hk : (fun t : Int32 × St => Rt X Γ r0 (some (Value.int t.1), t.2)) t) : Zw X Γ 5 r0 s 0 [(0, .ref (gL Γ (189))), (1, .int a1), (2, .int a2), (3, .int a3), (4, .int a4)] [] := by
  unfold f_X7_is at h
  refine z_aload_n hX dX7_is_0 0 rfl 1 rfl ?_
  refine z_get7 hX (k := 189) (j := 12) (v := .int ((s.1 189 12))) kdc_189 (by decide) rfl dX7_is_1 fl_X7_89 4 rfl ?_
  refine z_aload_n hX dX7_is_4 0 rfl 5 rfl ?_
  refine z_get7 hX (k := 189) (j := 13) (v := .int ((s.1 189 13))) kdc_189 (by decide) rfl dX7_is_5 fl_X7_83 8 rfl ?_
  refine z_isub hX dX7_is_8 9 rfl ?_
  refine z_iload_n hX dX7_is_9 1 rfl 10 rfl ?_
  refine z_icmp_ne hX 58 dX7_is_10 (by decide) 13 rfl (fun c1 => ?_) (fun c1 => ?_)
  · replace h := br_pos h c1
    refine z_iconst hX (v := (nI 0)) dX7_is_58 rfl 59 rfl ?_
    replace h := Option.some.inj h
    subst h
    exact z_zret hX dX7_is_59 rfl (by decide) hk
  · replace h := br_neg h c1
    refine z_aload_n hX dX7_is_13 0 rfl 14 rfl ?_
    refine z_aload_n hX dX7_is_14 0 rfl 15 rfl ?_
    refine z_get7 hX (k := 189) (j := 13) (v := .int ((s.1 189 13))) kdc_189 (by decide) rfl dX7_is_15 fl_X7_83 18 rfl ?_
    replace h := cl_elim h
    obtain ⟨x3, s2, hx3, h⟩ := h
    refine z_cV7i hX (b := 189) (As := [.int ((s.1 189 13))]) (c_X7_byteAt hx3) lk_X7_92 rfl kdc_189 ds_X7_byteAt rfl (by decide) (by decide) (by decide) dX7_is_18 rfl 21 rfl ?_
    refine z_iload_n hX dX7_is_21 2 rfl 22 rfl ?_
    refine z_icmp_ne hX 58 dX7_is_22 (by decide) 25 rfl (fun c4 => ?_) (fun c4 => ?_)
    · replace h := br_pos h c4
      refine z_iconst hX (v := (nI 0)) dX7_is_58 rfl 59 rfl ?_
      replace h := Option.some.inj h
      subst h
      exact z_zret hX dX7_is_59 rfl (by decide) hk
    · replace h := br_neg h c4
      refine z_aload_n hX dX7_is_25 0 rfl 26 rfl ?_
      refine z_aload_n hX dX7_is_26 0 rfl 27 rfl ?_
      refine z_get7 hX (k := 189) (j := 13) (v := .int ((s2.1 189 13))) kdc_189 (by decide) rfl dX7_is_27 fl_X7_83 30 rfl ?_
      refine z_iconst hX (v := (nI 1)) dX7_is_30 rfl 31 rfl ?_
      refine z_iadd hX dX7_is_31 32 rfl ?_
      replace h := cl_elim h
      obtain ⟨x6, s5, hx6, h⟩ := h
      refine z_cV7i hX (b := 189) (As := [.int (((s2.1 189 13) + (nI 1)))]) (c_X7_byteAt hx6) lk_X7_92 rfl kdc_189 ds_X7_byteAt rfl (by decide) (by decide) (by decide) dX7_is_32 rfl 35 rfl ?_
      refine z_iload_n hX dX7_is_35 3 rfl 36 rfl ?_
      refine z_icmp_ne hX 58 dX7_is_36 (by decide) 39 rfl (fun c7 => ?_) (fun c7 => ?_)
      · replace h := br_pos h c7
        refine z_iconst hX (v := (nI 0)) dX7_is_58 rfl 59 rfl ?_
        replace h := Option.some.inj h
        subst h
        exact z_zret hX dX7_is_59 rfl (by decide) hk
      · replace h := br_neg h c7
        refine z_aload_n hX dX7_is_39 0 rfl 40 rfl ?_
        refine z_aload_n hX dX7_is_40 0 rfl 41 rfl ?_
        refine z_get7 hX (k := 189) (j := 13) (v := .int ((s5.1 189 13))) kdc_189 (by decide) rfl dX7_is_41 fl_X7_83 44 rfl ?_
        refine z_iconst hX (v := (nI 2)) dX7_is_44 rfl 45 rfl ?_
        refine z_iadd hX dX7_is_45 46 rfl ?_
        replace h := cl_elim h
        obtain ⟨x9, s8, hx9, h⟩ := h
        refine z_cV7i hX (b := 189) (As := [.int (((s5.1 189 13) + (nI 2)))]) (c_X7_byteAt hx9) lk_X7_92 rfl kdc_189 ds_X7_byteAt rfl (by decide) (by decide) (by decide) dX7_is_46 rfl 49 rfl ?_
        refine z_iload hX dX7_is_49 4 rfl 51 rfl ?_
        refine z_icmp_ne hX 58 dX7_is_51 (by decide) 54 rfl (fun c10 => ?_) (fun c10 => ?_)
        · replace h := br_pos h c10
          refine z_iconst hX (v := (nI 0)) dX7_is_58 rfl 59 rfl ?_
          replace h := Option.some.inj h
          subst h
          exact z_zret hX dX7_is_59 rfl (by decide) hk
        · replace h := br_neg h c10
          refine z_iconst hX (v := (nI 1)) dX7_is_54 rfl 55 rfl ?_
          refine z_goto hX 59 dX7_is_55 (by decide) ?_
          replace h := Option.some.inj h
          subst h
          exact z_zret hX dX7_is_59 rfl (by decide) hk
theorem c_X7_is {lc : Launch} {Γ : Gm} {a1 : Int32} {a2 : Int32} {a3 : Int32} {a4 : Int32} {s s2 : St} {v : Int32} (h : f_X7_is a1 a2 a3 a4 s = some (v, s2)) : Ct lc Γ yX7_is cX7_is 5 (some .boolean) 1 [.ref (gL Γ (189)), .int a1, .int a2, .int a3, .int a4] s (some (.int v), s2) := Ct.of (by decide +kernel) (Nat.le_of_ble_eq_true rfl) (fun X hl hX => e_X7_is hX h rfl)
theorem dX7_ends_0 : decode cX7_ends 0 = .ok (.aload_n 0, 1) := by decide +kernel
theorem dX7_ends_1 : decode cX7_ends 1 = .ok (.aload_n 0, 1) := by decide +kernel
theorem dX7_ends_2 : decode cX7_ends 2 = .ok (.getfield 83, 3) := by decide +kernel
theorem dX7_ends_5 : decode cX7_ends 5 = .ok (.iconst 3, 1) := by decide +kernel
theorem dX7_ends_6 : decode cX7_ends 6 = .ok (.iadd, 1) := by decide +kernel
theorem dX7_ends_7 : decode cX7_ends 7 = .ok (.invokevirtual 92, 3) := by decide +kernel
theorem dX7_ends_10 : decode cX7_ends 10 = .ok (.iload_n 1, 1) := by decide +kernel
theorem dX7_ends_11 : decode cX7_ends 11 = .ok (.if_icmp .ne 43, 3) := by decide +kernel
theorem dX7_ends_14 : decode cX7_ends 14 = .ok (.iload_n 2, 1) := by decide +kernel
theorem dX7_ends_15 : decode cX7_ends 15 = .ok (.ifCond .eq 17, 3) := by decide +kernel
theorem dX7_ends_18 : decode cX7_ends 18 = .ok (.aload_n 0, 1) := by decide +kernel
theorem dX7_ends_19 : decode cX7_ends 19 = .ok (.aload_n 0, 1) := by decide +kernel
theorem dX7_ends_20 : decode cX7_ends 20 = .ok (.getfield 83, 3) := by decide +kernel
theorem dX7_ends_23 : decode cX7_ends 23 = .ok (.iconst 4, 1) := by decide +kernel
theorem dX7_ends_24 : decode cX7_ends 24 = .ok (.iadd, 1) := by decide +kernel
theorem dX7_ends_25 : decode cX7_ends 25 = .ok (.invokevirtual 92, 3) := by decide +kernel
theorem dX7_ends_28 : decode cX7_ends 28 = .ok (.iload_n 2, 1) := by decide +kernel
theorem dX7_ends_29 : decode cX7_ends 29 = .ok (.if_icmp .ne 25, 3) := by decide +kernel
theorem dX7_ends_32 : decode cX7_ends 32 = .ok (.iload_n 3, 1) := by decide +kernel
theorem dX7_ends_33 : decode cX7_ends 33 = .ok (.ifCond .eq 17, 3) := by decide +kernel
theorem dX7_ends_36 : decode cX7_ends 36 = .ok (.aload_n 0, 1) := by decide +kernel
theorem dX7_ends_37 : decode cX7_ends 37 = .ok (.aload_n 0, 1) := by decide +kernel
theorem dX7_ends_38 : decode cX7_ends 38 = .ok (.getfield 83, 3) := by decide +kernel
theorem dX7_ends_41 : decode cX7_ends 41 = .ok (.iconst 5, 1) := by decide +kernel
theorem dX7_ends_42 : decode cX7_ends 42 = .ok (.iadd, 1) := by decide +kernel
theorem dX7_ends_43 : decode cX7_ends 43 = .ok (.invokevirtual 92, 3) := by decide +kernel
theorem dX7_ends_46 : decode cX7_ends 46 = .ok (.iload_n 3, 1) := by decide +kernel
theorem dX7_ends_47 : decode cX7_ends 47 = .ok (.if_icmp .ne 7, 3) := by decide +kernel
theorem dX7_ends_50 : decode cX7_ends 50 = .ok (.iconst 1, 1) := by decide +kernel
theorem dX7_ends_51 : decode cX7_ends 51 = .ok (.goto 4, 3) := by decide +kernel
theorem dX7_ends_54 : decode cX7_ends 54 = .ok (.iconst 0, 1) := by decide +kernel
theorem dX7_ends_55 : decode cX7_ends 55 = .ok (.ireturn, 1) := by decide +kernel
def f_X7_ends_J32 (v3 : Int32) (s : St) : Option (Int32 × St) := if v3 = 0 then (some (((nI 1), s))) else (cl (f_X7_byteAt ((s.1 189 13) + (nI 5)) s) (fun x10 s9 => if ¬ x10 = v3 then (some (((nI 0), s9))) else (some (((nI 1), s9)))))
def f_X7_ends (a1 : Int32) (a2 : Int32) (a3 : Int32) (s : St) : Option (Int32 × St) := cl (f_X7_byteAt ((s.1 189 13) + (nI 3)) s) (fun x2 s1 => if ¬ x2 = a1 then (some (((nI 0), s1))) else (if a2 = 0 then (f_X7_ends_J32 a3 s1) else (cl (f_X7_byteAt ((s1.1 189 13) + (nI 4)) s1) (fun x6 s5 => if ¬ x6 = a2 then (some (((nI 0), s5))) else (f_X7_ends_J32 a3 s5)))))
set_option maxHeartbeats 4000000 in
set_option maxRecDepth 100000 in
theorem e_X7_ends_J32 {X : Cx} {Γ : Gm} {r0 : Rb} (hX : Amb X Γ cX7_ends RX7 4 (some .boolean) 1) {v3 : Int32} {s : St} {t : Int32 × St} (h : f_X7_ends_J32 v3 s = some t) (hk : (fun t : Int32 × St => Rt X Γ r0 (some (Value.int t.1), t.2)) t) : Zw X Γ 4 r0 s 32 [(0, .ref (gL Γ (189))), (3, .int v3)] [] := by
  unfold f_X7_ends_J32 at h
  refine z_iload_n hX dX7_ends_32 1 rfl 33 rfl ?_
  refine z_if_eq hX 50 dX7_ends_33 (by decide) 36 rfl (fun c8 => ?_) (fun c8 => ?_)
  · replace h := br_pos h c8
    refine z_iconst hX (v := (nI 1)) dX7_ends_50 rfl 51 rfl ?_
    refine z_goto hX 55 dX7_ends_51 (by decide) ?_
    replace h := Option.some.inj h
    subst h
    exact z_zret hX dX7_ends_55 rfl (by decide) hk
  · replace h := br_neg h c8
    refine z_aload_n hX dX7_ends_36 0 rfl 37 rfl ?_
    refine z_aload_n hX dX7_ends_37 0 rfl 38 rfl ?_
    refine z_get7 hX (k := 189) (j := 13) (v := .int ((s.1 189 13))) kdc_189 (by decide) rfl dX7_ends_38 fl_X7_83 41 rfl ?_
    refine z_iconst hX (v := (nI 5)) dX7_ends_41 rfl 42 rfl ?_
    refine z_iadd hX dX7_ends_42 43 rfl ?_
    replace h := cl_elim h
    obtain ⟨x10, s9, hx10, h⟩ := h
    refine z_cV7i hX (b := 189) (As := [.int (((s.1 189 13) + (nI 5)))]) (c_X7_byteAt hx10) lk_X7_92 rfl kdc_189 ds_X7_byteAt rfl (by decide) (by decide) (by decide) dX7_ends_43 rfl 46 rfl ?_
    refine z_iload_n hX dX7_ends_46 1 rfl 47 rfl ?_
    refine z_icmp_ne hX 54 dX7_ends_47 (by decide) 50 rfl (fun c11 => ?_) (fun c11 => ?_)
    · replace h := br_pos h c11
      refine z_iconst hX (v := (nI 0)) dX7_ends_54 rfl 55 rfl ?_
      replace h := Option.some.inj h
      subst h
      exact z_zret hX dX7_ends_55 rfl (by decide) hk
    · replace h := br_neg h c11
      refine z_iconst hX (v := (nI 1)) dX7_ends_50 rfl 51 rfl ?_
      refine z_goto hX 55 dX7_ends_51 (by decide) ?_
      replace h := Option.some.inj h
      subst h
      exact z_zret hX dX7_ends_55 rfl (by decide) hk
set_option maxHeartbeats 4000000 in
set_option maxRecDepth 100000 in
theorem e_X7_ends {X : Cx} {Γ : Gm} {r0 : Rb} (hX : Amb X Γ cX7_ends RX7 4 (some .boolean) 1) {a1 : Int32} {a2 : Int32} {a3 : Int32} {s : St} {t : Int32 × St} (h : f_X7_ends a1 a2 a3 s = some t) (hk : (fun t : Int32 × St => Rt X Γ r0 (some (Value.int t.1), t.2)) t) : Zw X Γ 4 r0 s 0 [(0, .ref (gL Γ (189))), (1, .int a1), (2, .int a2), (3, .int a3)] [] := by
  unfold f_X7_ends at h
  refine z_aload_n hX dX7_ends_0 0 rfl 1 rfl ?_
  refine z_aload_n hX dX7_ends_1 0 rfl 2 rfl ?_
  refine z_get7 hX (k := 189) (j := 13) (v := .int ((s.1 189 13))) kdc_189 (by decide) rfl dX7_ends_2 fl_X7_83 5 rfl ?_
  refine z_iconst hX (v := (nI 3)) dX7_ends_5 rfl 6 rfl ?_
  refine z_iadd hX dX7_ends_6 7 rfl ?_
  replace h := cl_elim h
  obtain ⟨x2, s1, hx2, h⟩ := h
  refine z_cV7i hX (b := 189) (As := [.int (((s.1 189 13) + (nI 3)))]) (c_X7_byteAt hx2) lk_X7_92 rfl kdc_189 ds_X7_byteAt rfl (by decide) (by decide) (by decide) dX7_ends_7 rfl 10 rfl ?_
  refine z_iload_n hX dX7_ends_10 1 rfl 11 rfl ?_
  refine z_icmp_ne hX 54 dX7_ends_11 (by decide) 14 rfl (fun c3 => ?_) (fun c3 => ?_)
  · replace h := br_pos h c3
    refine z_iconst hX (v := (nI 0)) dX7_ends_54 rfl 55 rfl ?_
    replace h := Option.some.inj h
    subst h
    exact z_zret hX dX7_ends_55 rfl (by decide) hk
  · replace h := br_neg h c3
    refine z_iload_n hX dX7_ends_14 2 rfl 15 rfl ?_
    refine z_if_eq hX 32 dX7_ends_15 (by decide) 18 rfl (fun c4 => ?_) (fun c4 => ?_)
    · replace h := br_pos h c4
      exact z_sub [0, 3] rfl (e_X7_ends_J32 hX h hk)
    · replace h := br_neg h c4
      refine z_aload_n hX dX7_ends_18 0 rfl 19 rfl ?_
      refine z_aload_n hX dX7_ends_19 0 rfl 20 rfl ?_
      refine z_get7 hX (k := 189) (j := 13) (v := .int ((s1.1 189 13))) kdc_189 (by decide) rfl dX7_ends_20 fl_X7_83 23 rfl ?_
      refine z_iconst hX (v := (nI 4)) dX7_ends_23 rfl 24 rfl ?_
      refine z_iadd hX dX7_ends_24 25 rfl ?_
      replace h := cl_elim h
      obtain ⟨x6, s5, hx6, h⟩ := h
      refine z_cV7i hX (b := 189) (As := [.int (((s1.1 189 13) + (nI 4)))]) (c_X7_byteAt hx6) lk_X7_92 rfl kdc_189 ds_X7_byteAt rfl (by decide) (by decide) (by decide) dX7_ends_25 rfl 28 rfl ?_
      refine z_iload_n hX dX7_ends_28 2 rfl 29 rfl ?_
      refine z_icmp_ne hX 54 dX7_ends_29 (by decide) 32 rfl (fun c7 => ?_) (fun c7 => ?_)
      · replace h := br_pos h c7
        refine z_iconst hX (v := (nI 0)) dX7_ends_54 rfl 55 rfl ?_
        replace h := Option.some.inj h
        subst h
        exact z_zret hX dX7_ends_55 rfl (by decide) hk
      · replace h := br_neg h c7
        exact z_sub [0, 3] rfl (e_X7_ends_J32 hX h hk)
theorem c_X7_ends {lc : Launch} {Γ : Gm} {a1 : Int32} {a2 : Int32} {a3 : Int32} {s s2 : St} {v : Int32} (h : f_X7_ends a1 a2 a3 s = some (v, s2)) : Ct lc Γ yX7_ends cX7_ends 4 (some .boolean) 1 [.ref (gL Γ (189)), .int a1, .int a2, .int a3] s (some (.int v), s2) := Ct.of (by decide +kernel) (Nat.le_of_ble_eq_true rfl) (fun X hl hX => e_X7_ends hX h rfl)
theorem dX7_kindNow_0 : decode cX7_kindNow 0 = .ok (.aload_n 0, 1) := by decide +kernel
theorem dX7_kindNow_1 : decode cX7_kindNow 1 = .ok (.iconst 5, 1) := by decide +kernel
theorem dX7_kindNow_2 : decode cX7_kindNow 2 = .ok (.bipush 112, 2) := by decide +kernel
theorem dX7_kindNow_4 : decode cX7_kindNow 4 = .ok (.bipush 108, 2) := by decide +kernel
theorem dX7_kindNow_6 : decode cX7_kindNow 6 = .ok (.bipush 97, 2) := by decide +kernel
theorem dX7_kindNow_8 : decode cX7_kindNow 8 = .ok (.invokevirtual 96, 3) := by decide +kernel
theorem dX7_kindNow_11 : decode cX7_kindNow 11 = .ok (.ifCond .eq 17, 3) := by decide +kernel
theorem dX7_kindNow_14 : decode cX7_kindNow 14 = .ok (.aload_n 0, 1) := by decide +kernel
theorem dX7_kindNow_15 : decode cX7_kindNow 15 = .ok (.bipush 105, 2) := by decide +kernel
theorem dX7_kindNow_17 : decode cX7_kindNow 17 = .ok (.bipush 110, 2) := by decide +kernel
theorem dX7_kindNow_19 : decode cX7_kindNow 19 = .ok (.iconst 0, 1) := by decide +kernel
theorem dX7_kindNow_20 : decode cX7_kindNow 20 = .ok (.invokevirtual 100, 3) := by decide +kernel
theorem dX7_kindNow_23 : decode cX7_kindNow 23 = .ok (.ifCond .eq 5, 3) := by decide +kernel
theorem dX7_kindNow_26 : decode cX7_kindNow 26 = .ok (.iconst 0, 1) := by decide +kernel
theorem dX7_kindNow_27 : decode cX7_kindNow 27 = .ok (.ireturn, 1) := by decide +kernel
theorem dX7_kindNow_28 : decode cX7_kindNow 28 = .ok (.aload_n 0, 1) := by decide +kernel
theorem dX7_kindNow_29 : decode cX7_kindNow 29 = .ok (.iconst 5, 1) := by decide +kernel
theorem dX7_kindNow_30 : decode cX7_kindNow 30 = .ok (.bipush 104, 2) := by decide +kernel
theorem dX7_kindNow_32 : decode cX7_kindNow 32 = .ok (.bipush 101, 2) := by decide +kernel
theorem dX7_kindNow_34 : decode cX7_kindNow 34 = .ok (.bipush 97, 2) := by decide +kernel
theorem dX7_kindNow_36 : decode cX7_kindNow 36 = .ok (.invokevirtual 96, 3) := by decide +kernel
theorem dX7_kindNow_39 : decode cX7_kindNow 39 = .ok (.ifCond .eq 17, 3) := by decide +kernel
theorem dX7_kindNow_42 : decode cX7_kindNow 42 = .ok (.aload_n 0, 1) := by decide +kernel
theorem dX7_kindNow_43 : decode cX7_kindNow 43 = .ok (.bipush 118, 2) := by decide +kernel
theorem dX7_kindNow_45 : decode cX7_kindNow 45 = .ok (.bipush 121, 2) := by decide +kernel
theorem dX7_kindNow_47 : decode cX7_kindNow 47 = .ok (.iconst 0, 1) := by decide +kernel
theorem dX7_kindNow_48 : decode cX7_kindNow 48 = .ok (.invokevirtual 100, 3) := by decide +kernel
theorem dX7_kindNow_51 : decode cX7_kindNow 51 = .ok (.ifCond .eq 5, 3) := by decide +kernel
theorem dX7_kindNow_54 : decode cX7_kindNow 54 = .ok (.iconst 1, 1) := by decide +kernel
theorem dX7_kindNow_55 : decode cX7_kindNow 55 = .ok (.ireturn, 1) := by decide +kernel
theorem dX7_kindNow_56 : decode cX7_kindNow 56 = .ok (.aload_n 0, 1) := by decide +kernel
theorem dX7_kindNow_57 : decode cX7_kindNow 57 = .ok (.iconst 4, 1) := by decide +kernel
theorem dX7_kindNow_58 : decode cX7_kindNow 58 = .ok (.bipush 116, 2) := by decide +kernel
theorem dX7_kindNow_60 : decode cX7_kindNow 60 = .ok (.bipush 104, 2) := by decide +kernel
theorem dX7_kindNow_62 : decode cX7_kindNow 62 = .ok (.bipush 105, 2) := by decide +kernel
theorem dX7_kindNow_64 : decode cX7_kindNow 64 = .ok (.invokevirtual 96, 3) := by decide +kernel
theorem dX7_kindNow_67 : decode cX7_kindNow 67 = .ok (.ifCond .eq 18, 3) := by decide +kernel
theorem dX7_kindNow_70 : decode cX7_kindNow 70 = .ok (.aload_n 0, 1) := by decide +kernel
theorem dX7_kindNow_71 : decode cX7_kindNow 71 = .ok (.bipush 110, 2) := by decide +kernel
theorem dX7_kindNow_73 : decode cX7_kindNow 73 = .ok (.iconst 0, 1) := by decide +kernel
theorem dX7_kindNow_74 : decode cX7_kindNow 74 = .ok (.iconst 0, 1) := by decide +kernel
theorem dX7_kindNow_75 : decode cX7_kindNow 75 = .ok (.invokevirtual 100, 3) := by decide +kernel
theorem dX7_kindNow_78 : decode cX7_kindNow 78 = .ok (.ifCond .eq 7, 3) := by decide +kernel
theorem dX7_kindNow_81 : decode cX7_kindNow 81 = .ok (.iconst 2, 1) := by decide +kernel
theorem dX7_kindNow_82 : decode cX7_kindNow 82 = .ok (.goto 35, 3) := by decide +kernel
theorem dX7_kindNow_85 : decode cX7_kindNow 85 = .ok (.aload_n 0, 1) := by decide +kernel
theorem dX7_kindNow_86 : decode cX7_kindNow 86 = .ok (.iconst 5, 1) := by decide +kernel
theorem dX7_kindNow_87 : decode cX7_kindNow 87 = .ok (.bipush 104, 2) := by decide +kernel
theorem dX7_kindNow_89 : decode cX7_kindNow 89 = .ok (.bipush 97, 2) := by decide +kernel
theorem dX7_kindNow_91 : decode cX7_kindNow 91 = .ok (.bipush 112, 2) := by decide +kernel
theorem dX7_kindNow_93 : decode cX7_kindNow 93 = .ok (.invokevirtual 96, 3) := by decide +kernel
theorem dX7_kindNow_96 : decode cX7_kindNow 96 = .ok (.ifCond .eq 19, 3) := by decide +kernel
theorem dX7_kindNow_99 : decode cX7_kindNow 99 = .ok (.aload_n 0, 1) := by decide +kernel
theorem dX7_kindNow_100 : decode cX7_kindNow 100 = .ok (.bipush 112, 2) := by decide +kernel
theorem dX7_kindNow_102 : decode cX7_kindNow 102 = .ok (.bipush 121, 2) := by decide +kernel
theorem dX7_kindNow_104 : decode cX7_kindNow 104 = .ok (.iconst 0, 1) := by decide +kernel
theorem dX7_kindNow_105 : decode cX7_kindNow 105 = .ok (.invokevirtual 100, 3) := by decide +kernel
theorem dX7_kindNow_108 : decode cX7_kindNow 108 = .ok (.ifCond .eq 7, 3) := by decide +kernel
theorem dX7_kindNow_111 : decode cX7_kindNow 111 = .ok (.iconst 3, 1) := by decide +kernel
theorem dX7_kindNow_112 : decode cX7_kindNow 112 = .ok (.goto 5, 3) := by decide +kernel
theorem dX7_kindNow_115 : decode cX7_kindNow 115 = .ok (.bipush (-4), 2) := by decide +kernel
theorem dX7_kindNow_117 : decode cX7_kindNow 117 = .ok (.ireturn, 1) := by decide +kernel
def f_X7_kindNow_J85 (s : St) : Option (Int32 × St) := cl (f_X7_is (nI 5) (nI 104) (nI 97) (nI 112) s) (fun x20 s19 => if x20 = 0 then (some (((-4), s19))) else (cl (f_X7_ends (nI 112) (nI 121) (nI 0) s19) (fun x23 s22 => if x23 = 0 then (some (((-4), s22))) else (some (((nI 3), s22))))))
def f_X7_kindNow_J56 (s : St) : Option (Int32 × St) := cl (f_X7_is (nI 4) (nI 116) (nI 104) (nI 105) s) (fun x14 s13 => if x14 = 0 then (f_X7_kindNow_J85 s13) else (cl (f_X7_ends (nI 110) (nI 0) (nI 0) s13) (fun x17 s16 => if x17 = 0 then (f_X7_kindNow_J85 s16) else (some (((nI 2), s16))))))
def f_X7_kindNow_J28 (s : St) : Option (Int32 × St) := cl (f_X7_is (nI 5) (nI 104) (nI 101) (nI 97) s) (fun x8 s7 => if x8 = 0 then (f_X7_kindNow_J56 s7) else (cl (f_X7_ends (nI 118) (nI 121) (nI 0) s7) (fun x11 s10 => if x11 = 0 then (f_X7_kindNow_J56 s10) else (some (((nI 1), s10))))))
def f_X7_kindNow (s : St) : Option (Int32 × St) := cl (f_X7_is (nI 5) (nI 112) (nI 108) (nI 97) s) (fun x2 s1 => if x2 = 0 then (f_X7_kindNow_J28 s1) else (cl (f_X7_ends (nI 105) (nI 110) (nI 0) s1) (fun x5 s4 => if x5 = 0 then (f_X7_kindNow_J28 s4) else (some (((nI 0), s4))))))
set_option maxHeartbeats 4000000 in
set_option maxRecDepth 100000 in
theorem e_X7_kindNow_J85 {X : Cx} {Γ : Gm} {r0 : Rb} (hX : Amb X Γ cX7_kindNow RX7 1 (some .int) 2) {s : St} {t : Int32 × St} (h : f_X7_kindNow_J85 s = some t) (hk : (fun t : Int32 × St => Rt X Γ r0 (some (Value.int t.1), t.2)) t) : Zw X Γ 1 r0 s 85 [(0, .ref (gL Γ (189)))] [] := by
  unfold f_X7_kindNow_J85 at h
  refine z_aload_n hX dX7_kindNow_85 0 rfl 86 rfl ?_
  refine z_iconst hX (v := (nI 5)) dX7_kindNow_86 rfl 87 rfl ?_
  refine z_bipush hX (v := (nI 104)) dX7_kindNow_87 (by decide) 89 rfl ?_
  refine z_bipush hX (v := (nI 97)) dX7_kindNow_89 (by decide) 91 rfl ?_
  refine z_bipush hX (v := (nI 112)) dX7_kindNow_91 (by decide) 93 rfl ?_
  replace h := cl_elim h
  obtain ⟨x20, s19, hx20, h⟩ := h
  refine z_cV7i hX (b := 189) (As := [.int ((nI 5)), .int ((nI 104)), .int ((nI 97)), .int ((nI 112))]) (c_X7_is hx20) lk_X7_96 rfl kdc_189 ds_X7_is rfl (by decide) (by decide) (by decide) dX7_kindNow_93 rfl 96 rfl ?_
  refine z_if_eq hX 115 dX7_kindNow_96 (by decide) 99 rfl (fun c21 => ?_) (fun c21 => ?_)
  · replace h := br_pos h c21
    refine z_bipush hX (v := (-4)) dX7_kindNow_115 (by decide) 117 rfl ?_
    replace h := Option.some.inj h
    subst h
    exact z_iret hX dX7_kindNow_117 rfl hk
  · replace h := br_neg h c21
    refine z_aload_n hX dX7_kindNow_99 0 rfl 100 rfl ?_
    refine z_bipush hX (v := (nI 112)) dX7_kindNow_100 (by decide) 102 rfl ?_
    refine z_bipush hX (v := (nI 121)) dX7_kindNow_102 (by decide) 104 rfl ?_
    refine z_iconst hX (v := (nI 0)) dX7_kindNow_104 rfl 105 rfl ?_
    replace h := cl_elim h
    obtain ⟨x23, s22, hx23, h⟩ := h
    refine z_cV7i hX (b := 189) (As := [.int ((nI 112)), .int ((nI 121)), .int ((nI 0))]) (c_X7_ends hx23) lk_X7_100 rfl kdc_189 ds_X7_ends rfl (by decide) (by decide) (by decide) dX7_kindNow_105 rfl 108 rfl ?_
    refine z_if_eq hX 115 dX7_kindNow_108 (by decide) 111 rfl (fun c24 => ?_) (fun c24 => ?_)
    · replace h := br_pos h c24
      refine z_bipush hX (v := (-4)) dX7_kindNow_115 (by decide) 117 rfl ?_
      replace h := Option.some.inj h
      subst h
      exact z_iret hX dX7_kindNow_117 rfl hk
    · replace h := br_neg h c24
      refine z_iconst hX (v := (nI 3)) dX7_kindNow_111 rfl 112 rfl ?_
      refine z_goto hX 117 dX7_kindNow_112 (by decide) ?_
      replace h := Option.some.inj h
      subst h
      exact z_iret hX dX7_kindNow_117 rfl hk
set_option maxHeartbeats 4000000 in
set_option maxRecDepth 100000 in
theorem e_X7_kindNow_J56 {X : Cx} {Γ : Gm} {r0 : Rb} (hX : Amb X Γ cX7_kindNow RX7 1 (some .int) 2) {s : St} {t : Int32 × St} (h : f_X7_kindNow_J56 s = some t) (hk : (fun t : Int32 × St => Rt X Γ r0 (some (Value.int t.1), t.2)) t) : Zw X Γ 1 r0 s 56 [(0, .ref (gL Γ (189)))] [] := by
  unfold f_X7_kindNow_J56 at h
  refine z_aload_n hX dX7_kindNow_56 0 rfl 57 rfl ?_
  refine z_iconst hX (v := (nI 4)) dX7_kindNow_57 rfl 58 rfl ?_
  refine z_bipush hX (v := (nI 116)) dX7_kindNow_58 (by decide) 60 rfl ?_
  refine z_bipush hX (v := (nI 104)) dX7_kindNow_60 (by decide) 62 rfl ?_
  refine z_bipush hX (v := (nI 105)) dX7_kindNow_62 (by decide) 64 rfl ?_
  replace h := cl_elim h
  obtain ⟨x14, s13, hx14, h⟩ := h
  refine z_cV7i hX (b := 189) (As := [.int ((nI 4)), .int ((nI 116)), .int ((nI 104)), .int ((nI 105))]) (c_X7_is hx14) lk_X7_96 rfl kdc_189 ds_X7_is rfl (by decide) (by decide) (by decide) dX7_kindNow_64 rfl 67 rfl ?_
  refine z_if_eq hX 85 dX7_kindNow_67 (by decide) 70 rfl (fun c15 => ?_) (fun c15 => ?_)
  · replace h := br_pos h c15
    exact z_sub [0] rfl (e_X7_kindNow_J85 hX h hk)
  · replace h := br_neg h c15
    refine z_aload_n hX dX7_kindNow_70 0 rfl 71 rfl ?_
    refine z_bipush hX (v := (nI 110)) dX7_kindNow_71 (by decide) 73 rfl ?_
    refine z_iconst hX (v := (nI 0)) dX7_kindNow_73 rfl 74 rfl ?_
    refine z_iconst hX (v := (nI 0)) dX7_kindNow_74 rfl 75 rfl ?_
    replace h := cl_elim h
    obtain ⟨x17, s16, hx17, h⟩ := h
    refine z_cV7i hX (b := 189) (As := [.int ((nI 110)), .int ((nI 0)), .int ((nI 0))]) (c_X7_ends hx17) lk_X7_100 rfl kdc_189 ds_X7_ends rfl (by decide) (by decide) (by decide) dX7_kindNow_75 rfl 78 rfl ?_
    refine z_if_eq hX 85 dX7_kindNow_78 (by decide) 81 rfl (fun c18 => ?_) (fun c18 => ?_)
    · replace h := br_pos h c18
      exact z_sub [0] rfl (e_X7_kindNow_J85 hX h hk)
    · replace h := br_neg h c18
      refine z_iconst hX (v := (nI 2)) dX7_kindNow_81 rfl 82 rfl ?_
      refine z_goto hX 117 dX7_kindNow_82 (by decide) ?_
      replace h := Option.some.inj h
      subst h
      exact z_iret hX dX7_kindNow_117 rfl hk
set_option maxHeartbeats 4000000 in
set_option maxRecDepth 100000 in
theorem e_X7_kindNow_J28 {X : Cx} {Γ : Gm} {r0 : Rb} (hX : Amb X Γ cX7_kindNow RX7 1 (some .int) 2) {s : St} {t : Int32 × St} (h : f_X7_kindNow_J28 s = some t) (hk : (fun t : Int32 × St => Rt X Γ r0 (some (Value.int t.1), t.2)) t) : Zw X Γ 1 r0 s 28 [(0, .ref (gL Γ (189)))] [] := by
  unfold f_X7_kindNow_J28 at h
  refine z_aload_n hX dX7_kindNow_28 0 rfl 29 rfl ?_
  refine z_iconst hX (v := (nI 5)) dX7_kindNow_29 rfl 30 rfl ?_
  refine z_bipush hX (v := (nI 104)) dX7_kindNow_30 (by decide) 32 rfl ?_
  refine z_bipush hX (v := (nI 101)) dX7_kindNow_32 (by decide) 34 rfl ?_
  refine z_bipush hX (v := (nI 97)) dX7_kindNow_34 (by decide) 36 rfl ?_
  replace h := cl_elim h
  obtain ⟨x8, s7, hx8, h⟩ := h
  refine z_cV7i hX (b := 189) (As := [.int ((nI 5)), .int ((nI 104)), .int ((nI 101)), .int ((nI 97))]) (c_X7_is hx8) lk_X7_96 rfl kdc_189 ds_X7_is rfl (by decide) (by decide) (by decide) dX7_kindNow_36 rfl 39 rfl ?_
  refine z_if_eq hX 56 dX7_kindNow_39 (by decide) 42 rfl (fun c9 => ?_) (fun c9 => ?_)
  · replace h := br_pos h c9
    exact z_sub [0] rfl (e_X7_kindNow_J56 hX h hk)
  · replace h := br_neg h c9
    refine z_aload_n hX dX7_kindNow_42 0 rfl 43 rfl ?_
    refine z_bipush hX (v := (nI 118)) dX7_kindNow_43 (by decide) 45 rfl ?_
    refine z_bipush hX (v := (nI 121)) dX7_kindNow_45 (by decide) 47 rfl ?_
    refine z_iconst hX (v := (nI 0)) dX7_kindNow_47 rfl 48 rfl ?_
    replace h := cl_elim h
    obtain ⟨x11, s10, hx11, h⟩ := h
    refine z_cV7i hX (b := 189) (As := [.int ((nI 118)), .int ((nI 121)), .int ((nI 0))]) (c_X7_ends hx11) lk_X7_100 rfl kdc_189 ds_X7_ends rfl (by decide) (by decide) (by decide) dX7_kindNow_48 rfl 51 rfl ?_
    refine z_if_eq hX 56 dX7_kindNow_51 (by decide) 54 rfl (fun c12 => ?_) (fun c12 => ?_)
    · replace h := br_pos h c12
      exact z_sub [0] rfl (e_X7_kindNow_J56 hX h hk)
    · replace h := br_neg h c12
      refine z_iconst hX (v := (nI 1)) dX7_kindNow_54 rfl 55 rfl ?_
      replace h := Option.some.inj h
      subst h
      exact z_iret hX dX7_kindNow_55 rfl hk
set_option maxHeartbeats 4000000 in
set_option maxRecDepth 100000 in
theorem e_X7_kindNow {X : Cx} {Γ : Gm} {r0 : Rb} (hX : Amb X Γ cX7_kindNow RX7 1 (some .int) 2) {s : St} {t : Int32 × St} (h : f_X7_kindNow s = some t) (hk : (fun t : Int32 × St => Rt X Γ r0 (some (Value.int t.1), t.2)) t) : Zw X Γ 1 r0 s 0 [(0, .ref (gL Γ (189)))] [] := by
  unfold f_X7_kindNow at h
  refine z_aload_n hX dX7_kindNow_0 0 rfl 1 rfl ?_
  refine z_iconst hX (v := (nI 5)) dX7_kindNow_1 rfl 2 rfl ?_
  refine z_bipush hX (v := (nI 112)) dX7_kindNow_2 (by decide) 4 rfl ?_
  refine z_bipush hX (v := (nI 108)) dX7_kindNow_4 (by decide) 6 rfl ?_
  refine z_bipush hX (v := (nI 97)) dX7_kindNow_6 (by decide) 8 rfl ?_
  replace h := cl_elim h
  obtain ⟨x2, s1, hx2, h⟩ := h
  refine z_cV7i hX (b := 189) (As := [.int ((nI 5)), .int ((nI 112)), .int ((nI 108)), .int ((nI 97))]) (c_X7_is hx2) lk_X7_96 rfl kdc_189 ds_X7_is rfl (by decide) (by decide) (by decide) dX7_kindNow_8 rfl 11 rfl ?_
  refine z_if_eq hX 28 dX7_kindNow_11 (by decide) 14 rfl (fun c3 => ?_) (fun c3 => ?_)
  · replace h := br_pos h c3
    exact z_sub [0] rfl (e_X7_kindNow_J28 hX h hk)
  · replace h := br_neg h c3
    refine z_aload_n hX dX7_kindNow_14 0 rfl 15 rfl ?_
    refine z_bipush hX (v := (nI 105)) dX7_kindNow_15 (by decide) 17 rfl ?_
    refine z_bipush hX (v := (nI 110)) dX7_kindNow_17 (by decide) 19 rfl ?_
    refine z_iconst hX (v := (nI 0)) dX7_kindNow_19 rfl 20 rfl ?_
    replace h := cl_elim h
    obtain ⟨x5, s4, hx5, h⟩ := h
    refine z_cV7i hX (b := 189) (As := [.int ((nI 105)), .int ((nI 110)), .int ((nI 0))]) (c_X7_ends hx5) lk_X7_100 rfl kdc_189 ds_X7_ends rfl (by decide) (by decide) (by decide) dX7_kindNow_20 rfl 23 rfl ?_
    refine z_if_eq hX 28 dX7_kindNow_23 (by decide) 26 rfl (fun c6 => ?_) (fun c6 => ?_)
    · replace h := br_pos h c6
      exact z_sub [0] rfl (e_X7_kindNow_J28 hX h hk)
    · replace h := br_neg h c6
      refine z_iconst hX (v := (nI 0)) dX7_kindNow_26 rfl 27 rfl ?_
      replace h := Option.some.inj h
      subst h
      exact z_iret hX dX7_kindNow_27 rfl hk
theorem c_X7_kindNow {lc : Launch} {Γ : Gm} {s s2 : St} {v : Int32} (h : f_X7_kindNow s = some (v, s2)) : Ct lc Γ yX7_kindNow cX7_kindNow 1 (some .int) 2 [.ref (gL Γ (189))] s (some (.int v), s2) := Ct.of (by decide +kernel) (Nat.le_of_ble_eq_true rfl) (fun X hl hX => e_X7_kindNow hX h rfl)
theorem dX7_lineNow_0 : decode cX7_lineNow 0 = .ok (.aload_n 0, 1) := by decide +kernel
theorem dX7_lineNow_1 : decode cX7_lineNow 1 = .ok (.bipush 6, 2) := by decide +kernel
theorem dX7_lineNow_3 : decode cX7_lineNow 3 = .ok (.bipush 115, 2) := by decide +kernel
theorem dX7_lineNow_5 : decode cX7_lineNow 5 = .ok (.bipush 105, 2) := by decide +kernel
theorem dX7_lineNow_7 : decode cX7_lineNow 7 = .ok (.bipush 116, 2) := by decide +kernel
theorem dX7_lineNow_9 : decode cX7_lineNow 9 = .ok (.invokevirtual 96, 3) := by decide +kernel
theorem dX7_lineNow_12 : decode cX7_lineNow 12 = .ok (.ifCond .eq 18, 3) := by decide +kernel
theorem dX7_lineNow_15 : decode cX7_lineNow 15 = .ok (.aload_n 0, 1) := by decide +kernel
theorem dX7_lineNow_16 : decode cX7_lineNow 16 = .ok (.bipush 116, 2) := by decide +kernel
theorem dX7_lineNow_18 : decode cX7_lineNow 18 = .ok (.bipush 101, 2) := by decide +kernel
theorem dX7_lineNow_20 : decode cX7_lineNow 20 = .ok (.bipush 114, 2) := by decide +kernel
theorem dX7_lineNow_22 : decode cX7_lineNow 22 = .ok (.invokevirtual 100, 3) := by decide +kernel
theorem dX7_lineNow_25 : decode cX7_lineNow 25 = .ok (.ifCond .eq 5, 3) := by decide +kernel
theorem dX7_lineNow_28 : decode cX7_lineNow 28 = .ok (.iconst 4, 1) := by decide +kernel
theorem dX7_lineNow_29 : decode cX7_lineNow 29 = .ok (.ireturn, 1) := by decide +kernel
theorem dX7_lineNow_30 : decode cX7_lineNow 30 = .ok (.aload_n 0, 1) := by decide +kernel
theorem dX7_lineNow_31 : decode cX7_lineNow 31 = .ok (.iconst 3, 1) := by decide +kernel
theorem dX7_lineNow_32 : decode cX7_lineNow 32 = .ok (.bipush 97, 2) := by decide +kernel
theorem dX7_lineNow_34 : decode cX7_lineNow 34 = .ok (.bipush 105, 2) := by decide +kernel
theorem dX7_lineNow_36 : decode cX7_lineNow 36 = .ok (.bipush 114, 2) := by decide +kernel
theorem dX7_lineNow_38 : decode cX7_lineNow 38 = .ok (.invokevirtual 96, 3) := by decide +kernel
theorem dX7_lineNow_41 : decode cX7_lineNow 41 = .ok (.ifCond .eq 7, 3) := by decide +kernel
theorem dX7_lineNow_44 : decode cX7_lineNow 44 = .ok (.iconst 5, 1) := by decide +kernel
theorem dX7_lineNow_45 : decode cX7_lineNow 45 = .ok (.goto 38, 3) := by decide +kernel
theorem dX7_lineNow_48 : decode cX7_lineNow 48 = .ok (.aload_n 0, 1) := by decide +kernel
theorem dX7_lineNow_49 : decode cX7_lineNow 49 = .ok (.iconst 5, 1) := by decide +kernel
theorem dX7_lineNow_50 : decode cX7_lineNow 50 = .ok (.bipush 112, 2) := by decide +kernel
theorem dX7_lineNow_52 : decode cX7_lineNow 52 = .ok (.bipush 114, 2) := by decide +kernel
theorem dX7_lineNow_54 : decode cX7_lineNow 54 = .ok (.bipush 105, 2) := by decide +kernel
theorem dX7_lineNow_56 : decode cX7_lineNow 56 = .ok (.invokevirtual 96, 3) := by decide +kernel
theorem dX7_lineNow_59 : decode cX7_lineNow 59 = .ok (.ifCond .eq 20, 3) := by decide +kernel
theorem dX7_lineNow_62 : decode cX7_lineNow 62 = .ok (.aload_n 0, 1) := by decide +kernel
theorem dX7_lineNow_63 : decode cX7_lineNow 63 = .ok (.bipush 99, 2) := by decide +kernel
theorem dX7_lineNow_65 : decode cX7_lineNow 65 = .ok (.bipush 101, 2) := by decide +kernel
theorem dX7_lineNow_67 : decode cX7_lineNow 67 = .ok (.iconst 0, 1) := by decide +kernel
theorem dX7_lineNow_68 : decode cX7_lineNow 68 = .ok (.invokevirtual 100, 3) := by decide +kernel
theorem dX7_lineNow_71 : decode cX7_lineNow 71 = .ok (.ifCond .eq 8, 3) := by decide +kernel
theorem dX7_lineNow_74 : decode cX7_lineNow 74 = .ok (.bipush 6, 2) := by decide +kernel
theorem dX7_lineNow_76 : decode cX7_lineNow 76 = .ok (.goto 7, 3) := by decide +kernel
theorem dX7_lineNow_79 : decode cX7_lineNow 79 = .ok (.aload_n 0, 1) := by decide +kernel
theorem dX7_lineNow_80 : decode cX7_lineNow 80 = .ok (.invokevirtual 104, 3) := by decide +kernel
theorem dX7_lineNow_83 : decode cX7_lineNow 83 = .ok (.ireturn, 1) := by decide +kernel
def f_X7_lineNow_J30 (s : St) : Option (Int32 × St) := cl (f_X7_is (nI 3) (nI 97) (nI 105) (nI 114) s) (fun x8 s7 => if x8 = 0 then (cl (f_X7_is (nI 5) (nI 112) (nI 114) (nI 105) s7) (fun x11 s10 => if x11 = 0 then (cl (f_X7_kindNow s10) (fun x14 s13 => some ((x14, s13)))) else (cl (f_X7_ends (nI 99) (nI 101) (nI 0) s10) (fun x16 s15 => if x16 = 0 then (cl (f_X7_kindNow s15) (fun x19 s18 => some ((x19, s18)))) else (some (((nI 6), s15))))))) else (some (((nI 5), s7))))
def f_X7_lineNow (s : St) : Option (Int32 × St) := cl (f_X7_is (nI 6) (nI 115) (nI 105) (nI 116) s) (fun x2 s1 => if x2 = 0 then (f_X7_lineNow_J30 s1) else (cl (f_X7_ends (nI 116) (nI 101) (nI 114) s1) (fun x5 s4 => if x5 = 0 then (f_X7_lineNow_J30 s4) else (some (((nI 4), s4))))))
set_option maxHeartbeats 4000000 in
set_option maxRecDepth 100000 in
theorem e_X7_lineNow_J30 {X : Cx} {Γ : Gm} {r0 : Rb} (hX : Amb X Γ cX7_lineNow RX7 1 (some .int) 3) {s : St} {t : Int32 × St} (h : f_X7_lineNow_J30 s = some t) (hk : (fun t : Int32 × St => Rt X Γ r0 (some (Value.int t.1), t.2)) t) : Zw X Γ 1 r0 s 30 [(0, .ref (gL Γ (189)))] [] := by
  unfold f_X7_lineNow_J30 at h
  refine z_aload_n hX dX7_lineNow_30 0 rfl 31 rfl ?_
  refine z_iconst hX (v := (nI 3)) dX7_lineNow_31 rfl 32 rfl ?_
  refine z_bipush hX (v := (nI 97)) dX7_lineNow_32 (by decide) 34 rfl ?_
  refine z_bipush hX (v := (nI 105)) dX7_lineNow_34 (by decide) 36 rfl ?_
  refine z_bipush hX (v := (nI 114)) dX7_lineNow_36 (by decide) 38 rfl ?_
  replace h := cl_elim h
  obtain ⟨x8, s7, hx8, h⟩ := h
  refine z_cV7i hX (b := 189) (As := [.int ((nI 3)), .int ((nI 97)), .int ((nI 105)), .int ((nI 114))]) (c_X7_is hx8) lk_X7_96 rfl kdc_189 ds_X7_is rfl (by decide) (by decide) (by decide) dX7_lineNow_38 rfl 41 rfl ?_
  refine z_if_eq hX 48 dX7_lineNow_41 (by decide) 44 rfl (fun c9 => ?_) (fun c9 => ?_)
  · replace h := br_pos h c9
    refine z_aload_n hX dX7_lineNow_48 0 rfl 49 rfl ?_
    refine z_iconst hX (v := (nI 5)) dX7_lineNow_49 rfl 50 rfl ?_
    refine z_bipush hX (v := (nI 112)) dX7_lineNow_50 (by decide) 52 rfl ?_
    refine z_bipush hX (v := (nI 114)) dX7_lineNow_52 (by decide) 54 rfl ?_
    refine z_bipush hX (v := (nI 105)) dX7_lineNow_54 (by decide) 56 rfl ?_
    replace h := cl_elim h
    obtain ⟨x11, s10, hx11, h⟩ := h
    refine z_cV7i hX (b := 189) (As := [.int ((nI 5)), .int ((nI 112)), .int ((nI 114)), .int ((nI 105))]) (c_X7_is hx11) lk_X7_96 rfl kdc_189 ds_X7_is rfl (by decide) (by decide) (by decide) dX7_lineNow_56 rfl 59 rfl ?_
    refine z_if_eq hX 79 dX7_lineNow_59 (by decide) 62 rfl (fun c12 => ?_) (fun c12 => ?_)
    · replace h := br_pos h c12
      refine z_aload_n hX dX7_lineNow_79 0 rfl 80 rfl ?_
      replace h := cl_elim h
      obtain ⟨x14, s13, hx14, h⟩ := h
      refine z_cV7i hX (b := 189) (As := []) (c_X7_kindNow hx14) lk_X7_104 rfl kdc_189 ds_X7_kindNow rfl (by decide) (by decide) (by decide) dX7_lineNow_80 rfl 83 rfl ?_
      replace h := Option.some.inj h
      subst h
      exact z_iret hX dX7_lineNow_83 rfl hk
    · replace h := br_neg h c12
      refine z_aload_n hX dX7_lineNow_62 0 rfl 63 rfl ?_
      refine z_bipush hX (v := (nI 99)) dX7_lineNow_63 (by decide) 65 rfl ?_
      refine z_bipush hX (v := (nI 101)) dX7_lineNow_65 (by decide) 67 rfl ?_
      refine z_iconst hX (v := (nI 0)) dX7_lineNow_67 rfl 68 rfl ?_
      replace h := cl_elim h
      obtain ⟨x16, s15, hx16, h⟩ := h
      refine z_cV7i hX (b := 189) (As := [.int ((nI 99)), .int ((nI 101)), .int ((nI 0))]) (c_X7_ends hx16) lk_X7_100 rfl kdc_189 ds_X7_ends rfl (by decide) (by decide) (by decide) dX7_lineNow_68 rfl 71 rfl ?_
      refine z_if_eq hX 79 dX7_lineNow_71 (by decide) 74 rfl (fun c17 => ?_) (fun c17 => ?_)
      · replace h := br_pos h c17
        refine z_aload_n hX dX7_lineNow_79 0 rfl 80 rfl ?_
        replace h := cl_elim h
        obtain ⟨x19, s18, hx19, h⟩ := h
        refine z_cV7i hX (b := 189) (As := []) (c_X7_kindNow hx19) lk_X7_104 rfl kdc_189 ds_X7_kindNow rfl (by decide) (by decide) (by decide) dX7_lineNow_80 rfl 83 rfl ?_
        replace h := Option.some.inj h
        subst h
        exact z_iret hX dX7_lineNow_83 rfl hk
      · replace h := br_neg h c17
        refine z_bipush hX (v := (nI 6)) dX7_lineNow_74 (by decide) 76 rfl ?_
        refine z_goto hX 83 dX7_lineNow_76 (by decide) ?_
        replace h := Option.some.inj h
        subst h
        exact z_iret hX dX7_lineNow_83 rfl hk
  · replace h := br_neg h c9
    refine z_iconst hX (v := (nI 5)) dX7_lineNow_44 rfl 45 rfl ?_
    refine z_goto hX 83 dX7_lineNow_45 (by decide) ?_
    replace h := Option.some.inj h
    subst h
    exact z_iret hX dX7_lineNow_83 rfl hk
set_option maxHeartbeats 4000000 in
set_option maxRecDepth 100000 in
theorem e_X7_lineNow {X : Cx} {Γ : Gm} {r0 : Rb} (hX : Amb X Γ cX7_lineNow RX7 1 (some .int) 3) {s : St} {t : Int32 × St} (h : f_X7_lineNow s = some t) (hk : (fun t : Int32 × St => Rt X Γ r0 (some (Value.int t.1), t.2)) t) : Zw X Γ 1 r0 s 0 [(0, .ref (gL Γ (189)))] [] := by
  unfold f_X7_lineNow at h
  refine z_aload_n hX dX7_lineNow_0 0 rfl 1 rfl ?_
  refine z_bipush hX (v := (nI 6)) dX7_lineNow_1 (by decide) 3 rfl ?_
  refine z_bipush hX (v := (nI 115)) dX7_lineNow_3 (by decide) 5 rfl ?_
  refine z_bipush hX (v := (nI 105)) dX7_lineNow_5 (by decide) 7 rfl ?_
  refine z_bipush hX (v := (nI 116)) dX7_lineNow_7 (by decide) 9 rfl ?_
  replace h := cl_elim h
  obtain ⟨x2, s1, hx2, h⟩ := h
  refine z_cV7i hX (b := 189) (As := [.int ((nI 6)), .int ((nI 115)), .int ((nI 105)), .int ((nI 116))]) (c_X7_is hx2) lk_X7_96 rfl kdc_189 ds_X7_is rfl (by decide) (by decide) (by decide) dX7_lineNow_9 rfl 12 rfl ?_
  refine z_if_eq hX 30 dX7_lineNow_12 (by decide) 15 rfl (fun c3 => ?_) (fun c3 => ?_)
  · replace h := br_pos h c3
    exact z_sub [0] rfl (e_X7_lineNow_J30 hX h hk)
  · replace h := br_neg h c3
    refine z_aload_n hX dX7_lineNow_15 0 rfl 16 rfl ?_
    refine z_bipush hX (v := (nI 116)) dX7_lineNow_16 (by decide) 18 rfl ?_
    refine z_bipush hX (v := (nI 101)) dX7_lineNow_18 (by decide) 20 rfl ?_
    refine z_bipush hX (v := (nI 114)) dX7_lineNow_20 (by decide) 22 rfl ?_
    replace h := cl_elim h
    obtain ⟨x5, s4, hx5, h⟩ := h
    refine z_cV7i hX (b := 189) (As := [.int ((nI 116)), .int ((nI 101)), .int ((nI 114))]) (c_X7_ends hx5) lk_X7_100 rfl kdc_189 ds_X7_ends rfl (by decide) (by decide) (by decide) dX7_lineNow_22 rfl 25 rfl ?_
    refine z_if_eq hX 30 dX7_lineNow_25 (by decide) 28 rfl (fun c6 => ?_) (fun c6 => ?_)
    · replace h := br_pos h c6
      exact z_sub [0] rfl (e_X7_lineNow_J30 hX h hk)
    · replace h := br_neg h c6
      refine z_iconst hX (v := (nI 4)) dX7_lineNow_28 rfl 29 rfl ?_
      replace h := Option.some.inj h
      subst h
      exact z_iret hX dX7_lineNow_29 rfl hk
theorem c_X7_lineNow {lc : Launch} {Γ : Gm} {s s2 : St} {v : Int32} (h : f_X7_lineNow s = some (v, s2)) : Ct lc Γ yX7_lineNow cX7_lineNow 1 (some .int) 3 [.ref (gL Γ (189))] s (some (.int v), s2) := Ct.of (by decide +kernel) (Nat.le_of_ble_eq_true rfl) (fun X hl hX => e_X7_lineNow hX h rfl)
theorem dX7_takes_0 : decode cX7_takes 0 = .ok (.aload_n 0, 1) := by decide +kernel
theorem dX7_takes_1 : decode cX7_takes 1 = .ok (.getfield 80, 3) := by decide +kernel
theorem dX7_takes_4 : decode cX7_takes 4 = .ok (.ifCond .le 4, 3) := by decide +kernel
theorem dX7_takes_7 : decode cX7_takes 7 = .ok (.return_, 1) := by decide +kernel
theorem dX7_takes_8 : decode cX7_takes 8 = .ok (.aload_n 0, 1) := by decide +kernel
theorem dX7_takes_9 : decode cX7_takes 9 = .ok (.aload_n 0, 1) := by decide +kernel
theorem dX7_takes_10 : decode cX7_takes 10 = .ok (.getfield 89, 3) := by decide +kernel
theorem dX7_takes_13 : decode cX7_takes 13 = .ok (.invokevirtual 92, 3) := by decide +kernel
theorem dX7_takes_16 : decode cX7_takes 16 = .ok (.bipush 32, 2) := by decide +kernel
theorem dX7_takes_18 : decode cX7_takes 18 = .ok (.if_icmp .ne 16, 3) := by decide +kernel
theorem dX7_takes_21 : decode cX7_takes 21 = .ok (.aload_n 0, 1) := by decide +kernel
theorem dX7_takes_22 : decode cX7_takes 22 = .ok (.dup, 1) := by decide +kernel
theorem dX7_takes_23 : decode cX7_takes 23 = .ok (.getfield 89, 3) := by decide +kernel
theorem dX7_takes_26 : decode cX7_takes 26 = .ok (.iconst 1, 1) := by decide +kernel
theorem dX7_takes_27 : decode cX7_takes 27 = .ok (.iadd, 1) := by decide +kernel
theorem dX7_takes_28 : decode cX7_takes 28 = .ok (.putfield 89, 3) := by decide +kernel
theorem dX7_takes_31 : decode cX7_takes 31 = .ok (.goto (-23), 3) := by decide +kernel
theorem dX7_takes_34 : decode cX7_takes 34 = .ok (.aload_n 0, 1) := by decide +kernel
theorem dX7_takes_35 : decode cX7_takes 35 = .ok (.aload_n 0, 1) := by decide +kernel
theorem dX7_takes_36 : decode cX7_takes 36 = .ok (.getfield 89, 3) := by decide +kernel
theorem dX7_takes_39 : decode cX7_takes 39 = .ok (.putfield 83, 3) := by decide +kernel
theorem dX7_takes_42 : decode cX7_takes 42 = .ok (.aload_n 0, 1) := by decide +kernel
theorem dX7_takes_43 : decode cX7_takes 43 = .ok (.aload_n 0, 1) := by decide +kernel
theorem dX7_takes_44 : decode cX7_takes 44 = .ok (.getfield 89, 3) := by decide +kernel
theorem dX7_takes_47 : decode cX7_takes 47 = .ok (.invokevirtual 92, 3) := by decide +kernel
theorem dX7_takes_50 : decode cX7_takes 50 = .ok (.istore_n 1, 1) := by decide +kernel
theorem dX7_takes_51 : decode cX7_takes 51 = .ok (.iload_n 1, 1) := by decide +kernel
theorem dX7_takes_52 : decode cX7_takes 52 = .ok (.ifCond .ge 11, 3) := by decide +kernel
theorem dX7_takes_55 : decode cX7_takes 55 = .ok (.aload_n 0, 1) := by decide +kernel
theorem dX7_takes_56 : decode cX7_takes 56 = .ok (.iconst 0, 1) := by decide +kernel
theorem dX7_takes_57 : decode cX7_takes 57 = .ok (.putfield 108, 3) := by decide +kernel
theorem dX7_takes_60 : decode cX7_takes 60 = .ok (.goto 214, 3) := by decide +kernel
theorem dX7_takes_63 : decode cX7_takes 63 = .ok (.iload_n 1, 1) := by decide +kernel
theorem dX7_takes_64 : decode cX7_takes 64 = .ok (.i2l, 1) := by decide +kernel
theorem dX7_takes_65 : decode cX7_takes 65 = .ok (.ldc2_w 111, 3) := by decide +kernel
theorem dX7_takes_68 : decode cX7_takes 68 = .ok (.ldc2_w 113, 3) := by decide +kernel
theorem dX7_takes_71 : decode cX7_takes 71 = .ok (.invokestatic 52, 3) := by decide +kernel
theorem dX7_takes_74 : decode cX7_takes 74 = .ok (.ifCond .eq 42, 3) := by decide +kernel
theorem dX7_takes_77 : decode cX7_takes 77 = .ok (.aload_n 0, 1) := by decide +kernel
theorem dX7_takes_78 : decode cX7_takes 78 = .ok (.iconst 1, 1) := by decide +kernel
theorem dX7_takes_79 : decode cX7_takes 79 = .ok (.putfield 108, 3) := by decide +kernel
theorem dX7_takes_82 : decode cX7_takes 82 = .ok (.aload_n 0, 1) := by decide +kernel
theorem dX7_takes_83 : decode cX7_takes 83 = .ok (.aload_n 0, 1) := by decide +kernel
theorem dX7_takes_84 : decode cX7_takes 84 = .ok (.getfield 89, 3) := by decide +kernel
theorem dX7_takes_87 : decode cX7_takes 87 = .ok (.invokevirtual 92, 3) := by decide +kernel
theorem dX7_takes_90 : decode cX7_takes 90 = .ok (.i2l, 1) := by decide +kernel
theorem dX7_takes_91 : decode cX7_takes 91 = .ok (.ldc2_w 111, 3) := by decide +kernel
theorem dX7_takes_94 : decode cX7_takes 94 = .ok (.ldc2_w 113, 3) := by decide +kernel
theorem dX7_takes_97 : decode cX7_takes 97 = .ok (.invokestatic 52, 3) := by decide +kernel
theorem dX7_takes_100 : decode cX7_takes 100 = .ok (.ifCond .eq 174, 3) := by decide +kernel
theorem dX7_takes_103 : decode cX7_takes 103 = .ok (.aload_n 0, 1) := by decide +kernel
theorem dX7_takes_104 : decode cX7_takes 104 = .ok (.dup, 1) := by decide +kernel
theorem dX7_takes_105 : decode cX7_takes 105 = .ok (.getfield 89, 3) := by decide +kernel
theorem dX7_takes_108 : decode cX7_takes 108 = .ok (.iconst 1, 1) := by decide +kernel
theorem dX7_takes_109 : decode cX7_takes 109 = .ok (.iadd, 1) := by decide +kernel
theorem dX7_takes_110 : decode cX7_takes 110 = .ok (.putfield 89, 3) := by decide +kernel
theorem dX7_takes_113 : decode cX7_takes 113 = .ok (.goto (-31), 3) := by decide +kernel
theorem dX7_takes_116 : decode cX7_takes 116 = .ok (.iload_n 1, 1) := by decide +kernel
theorem dX7_takes_117 : decode cX7_takes 117 = .ok (.i2l, 1) := by decide +kernel
theorem dX7_takes_118 : decode cX7_takes 118 = .ok (.ldc2_w 115, 3) := by decide +kernel
theorem dX7_takes_121 : decode cX7_takes 121 = .ok (.ldc2_w 117, 3) := by decide +kernel
theorem dX7_takes_124 : decode cX7_takes 124 = .ok (.invokestatic 52, 3) := by decide +kernel
theorem dX7_takes_127 : decode cX7_takes 127 = .ok (.ifCond .eq 116, 3) := by decide +kernel
theorem dX7_takes_130 : decode cX7_takes 130 = .ok (.aload_n 0, 1) := by decide +kernel
theorem dX7_takes_131 : decode cX7_takes 131 = .ok (.iconst 2, 1) := by decide +kernel
theorem dX7_takes_132 : decode cX7_takes 132 = .ok (.putfield 108, 3) := by decide +kernel
theorem dX7_takes_135 : decode cX7_takes 135 = .ok (.aload_n 0, 1) := by decide +kernel
theorem dX7_takes_136 : decode cX7_takes 136 = .ok (.iconst 0, 1) := by decide +kernel
theorem dX7_takes_137 : decode cX7_takes 137 = .ok (.putfield 119, 3) := by decide +kernel
theorem dX7_takes_140 : decode cX7_takes 140 = .ok (.aload_n 0, 1) := by decide +kernel
theorem dX7_takes_141 : decode cX7_takes 141 = .ok (.aload_n 0, 1) := by decide +kernel
theorem dX7_takes_142 : decode cX7_takes 142 = .ok (.getfield 89, 3) := by decide +kernel
theorem dX7_takes_145 : decode cX7_takes 145 = .ok (.invokevirtual 92, 3) := by decide +kernel
theorem dX7_takes_148 : decode cX7_takes 148 = .ok (.i2l, 1) := by decide +kernel
theorem dX7_takes_149 : decode cX7_takes 149 = .ok (.ldc2_w 115, 3) := by decide +kernel
theorem dX7_takes_152 : decode cX7_takes 152 = .ok (.ldc2_w 117, 3) := by decide +kernel
theorem dX7_takes_155 : decode cX7_takes 155 = .ok (.invokestatic 52, 3) := by decide +kernel
theorem dX7_takes_158 : decode cX7_takes 158 = .ok (.ifCond .eq 59, 3) := by decide +kernel
theorem dX7_takes_161 : decode cX7_takes 161 = .ok (.aload_n 0, 1) := by decide +kernel
theorem dX7_takes_162 : decode cX7_takes 162 = .ok (.aload_n 0, 1) := by decide +kernel
theorem dX7_takes_163 : decode cX7_takes 163 = .ok (.getfield 89, 3) := by decide +kernel
theorem dX7_takes_166 : decode cX7_takes 166 = .ok (.aload_n 0, 1) := by decide +kernel
theorem dX7_takes_167 : decode cX7_takes 167 = .ok (.getfield 83, 3) := by decide +kernel
theorem dX7_takes_170 : decode cX7_takes 170 = .ok (.isub, 1) := by decide +kernel
theorem dX7_takes_171 : decode cX7_takes 171 = .ok (.iconst 2, 1) := by decide +kernel
theorem dX7_takes_172 : decode cX7_takes 172 = .ok (.if_icmp .ge 25, 3) := by decide +kernel
theorem dX7_takes_175 : decode cX7_takes 175 = .ok (.bipush 10, 2) := by decide +kernel
theorem dX7_takes_177 : decode cX7_takes 177 = .ok (.aload_n 0, 1) := by decide +kernel
theorem dX7_takes_178 : decode cX7_takes 178 = .ok (.getfield 119, 3) := by decide +kernel
theorem dX7_takes_181 : decode cX7_takes 181 = .ok (.imul, 1) := by decide +kernel
theorem dX7_takes_182 : decode cX7_takes 182 = .ok (.aload_n 0, 1) := by decide +kernel
theorem dX7_takes_183 : decode cX7_takes 183 = .ok (.aload_n 0, 1) := by decide +kernel
theorem dX7_takes_184 : decode cX7_takes 184 = .ok (.getfield 89, 3) := by decide +kernel
theorem dX7_takes_187 : decode cX7_takes 187 = .ok (.invokevirtual 92, 3) := by decide +kernel
theorem dX7_takes_190 : decode cX7_takes 190 = .ok (.iadd, 1) := by decide +kernel
theorem dX7_takes_191 : decode cX7_takes 191 = .ok (.bipush 48, 2) := by decide +kernel
theorem dX7_takes_193 : decode cX7_takes 193 = .ok (.isub, 1) := by decide +kernel
theorem dX7_takes_194 : decode cX7_takes 194 = .ok (.goto 7, 3) := by decide +kernel
theorem dX7_takes_197 : decode cX7_takes 197 = .ok (.aload_n 0, 1) := by decide +kernel
theorem dX7_takes_198 : decode cX7_takes 198 = .ok (.getfield 119, 3) := by decide +kernel
theorem dX7_takes_201 : decode cX7_takes 201 = .ok (.putfield 119, 3) := by decide +kernel
theorem dX7_takes_204 : decode cX7_takes 204 = .ok (.aload_n 0, 1) := by decide +kernel
theorem dX7_takes_205 : decode cX7_takes 205 = .ok (.dup, 1) := by decide +kernel
theorem dX7_takes_206 : decode cX7_takes 206 = .ok (.getfield 89, 3) := by decide +kernel
theorem dX7_takes_209 : decode cX7_takes 209 = .ok (.iconst 1, 1) := by decide +kernel
theorem dX7_takes_210 : decode cX7_takes 210 = .ok (.iadd, 1) := by decide +kernel
theorem dX7_takes_211 : decode cX7_takes 211 = .ok (.putfield 89, 3) := by decide +kernel
theorem dX7_takes_214 : decode cX7_takes 214 = .ok (.goto (-74), 3) := by decide +kernel
theorem dX7_takes_217 : decode cX7_takes 217 = .ok (.aload_n 0, 1) := by decide +kernel
theorem dX7_takes_218 : decode cX7_takes 218 = .ok (.aload_n 0, 1) := by decide +kernel
theorem dX7_takes_219 : decode cX7_takes 219 = .ok (.getfield 89, 3) := by decide +kernel
theorem dX7_takes_222 : decode cX7_takes 222 = .ok (.aload_n 0, 1) := by decide +kernel
theorem dX7_takes_223 : decode cX7_takes 223 = .ok (.getfield 83, 3) := by decide +kernel
theorem dX7_takes_226 : decode cX7_takes 226 = .ok (.isub, 1) := by decide +kernel
theorem dX7_takes_227 : decode cX7_takes 227 = .ok (.iconst 2, 1) := by decide +kernel
theorem dX7_takes_228 : decode cX7_takes 228 = .ok (.if_icmp .gt 7, 3) := by decide +kernel
theorem dX7_takes_231 : decode cX7_takes 231 = .ok (.iconst 1, 1) := by decide +kernel
theorem dX7_takes_232 : decode cX7_takes 232 = .ok (.goto 4, 3) := by decide +kernel
theorem dX7_takes_235 : decode cX7_takes 235 = .ok (.iconst 0, 1) := by decide +kernel
theorem dX7_takes_236 : decode cX7_takes 236 = .ok (.iconst 1, 1) := by decide +kernel
theorem dX7_takes_237 : decode cX7_takes 237 = .ok (.invokevirtual 122, 3) := by decide +kernel
theorem dX7_takes_240 : decode cX7_takes 240 = .ok (.goto 34, 3) := by decide +kernel
theorem dX7_takes_243 : decode cX7_takes 243 = .ok (.aload_n 0, 1) := by decide +kernel
theorem dX7_takes_244 : decode cX7_takes 244 = .ok (.iconst 3, 1) := by decide +kernel
theorem dX7_takes_245 : decode cX7_takes 245 = .ok (.putfield 108, 3) := by decide +kernel
theorem dX7_takes_248 : decode cX7_takes 248 = .ok (.aload_n 0, 1) := by decide +kernel
theorem dX7_takes_249 : decode cX7_takes 249 = .ok (.iload_n 1, 1) := by decide +kernel
theorem dX7_takes_250 : decode cX7_takes 250 = .ok (.bipush 59, 2) := by decide +kernel
theorem dX7_takes_252 : decode cX7_takes 252 = .ok (.if_icmp .ne 7, 3) := by decide +kernel
theorem dX7_takes_255 : decode cX7_takes 255 = .ok (.iconst 1, 1) := by decide +kernel
theorem dX7_takes_256 : decode cX7_takes 256 = .ok (.goto 4, 3) := by decide +kernel
theorem dX7_takes_259 : decode cX7_takes 259 = .ok (.iconst 0, 1) := by decide +kernel
theorem dX7_takes_260 : decode cX7_takes 260 = .ok (.iconst 1, 1) := by decide +kernel
theorem dX7_takes_261 : decode cX7_takes 261 = .ok (.invokevirtual 122, 3) := by decide +kernel
theorem dX7_takes_264 : decode cX7_takes 264 = .ok (.aload_n 0, 1) := by decide +kernel
theorem dX7_takes_265 : decode cX7_takes 265 = .ok (.dup, 1) := by decide +kernel
theorem dX7_takes_266 : decode cX7_takes 266 = .ok (.getfield 89, 3) := by decide +kernel
theorem dX7_takes_269 : decode cX7_takes 269 = .ok (.iconst 1, 1) := by decide +kernel
theorem dX7_takes_270 : decode cX7_takes 270 = .ok (.iadd, 1) := by decide +kernel
theorem dX7_takes_271 : decode cX7_takes 271 = .ok (.putfield 89, 3) := by decide +kernel
theorem dX7_takes_274 : decode cX7_takes 274 = .ok (.return_, 1) := by decide +kernel
def f_X7_takes_J260 (k0 : Int32) (s : St) : Option (Unit × St) := cl (f_X7_needs k0 (nI 1) s) (fun x23 s22 => bd (wI s22 189 12 ((s22.1 189 12) + (nI 1))) (fun s24 => some (((), s24))))
def f_X7_takes_J201 (k0 : Int32) (s : St) : Option ((St) ⊕ (Unit × St)) := bd (wI s 189 15 k0) (fun s44 => bd (wI s44 189 12 ((s44.1 189 12) + (nI 1))) (fun s45 => some (Sum.inl (s45))))
def f_X7_takes_L140 (s : St) : Option ((St) ⊕ (Unit × St)) := cl (f_X7_byteAt (s.1 189 12) s) (fun x26 s25 => cl (f_X7_within ((x26).toInt64) (lN 48) (lN 57) s25) (fun x28 s27 => if x28 = 0 then (if (nI 2) < ((s27.1 189 12) - (s27.1 189 13)) then (cl (f_X7_needs (nI 0) (nI 1) s27) (fun x32 s31 => some (Sum.inr (((), s31))))) else (cl (f_X7_needs (nI 1) (nI 1) s27) (fun x34 s33 => some (Sum.inr (((), s33)))))) else (if (nI 2) ≤ ((s27.1 189 12) - (s27.1 189 13)) then (f_X7_takes_J201 (s27.1 189 15) s27) else (cl (f_X7_byteAt (s27.1 189 12) s27) (fun x37 s36 => f_X7_takes_J201 ((((nI 10) * (s27.1 189 15)) + x37) - (nI 48)) s36)))))
def f_X7_takes_L82 (s : St) : Option ((St) ⊕ (Unit × St)) := cl (f_X7_byteAt (s.1 189 12) s) (fun x39 s38 => cl (f_X7_within ((x39).toInt64) (lN 97) (lN 122) s38) (fun x41 s40 => if x41 = 0 then (some (Sum.inr (((), s40)))) else (bd (wI s40 189 12 ((s40.1 189 12) + (nI 1))) (fun s43 => some (Sum.inl (s43))))))
def f_X7_takes_L8 (s : St) : Option ((St) ⊕ (Unit × St)) := cl (f_X7_byteAt (s.1 189 12) s) (fun x3 s2 => if ¬ x3 = (nI 32) then (bd (wI s2 189 13 (s2.1 189 12)) (fun s5 => cl (f_X7_byteAt (s5.1 189 12) s5) (fun x7 s6 => if 0 ≤ x7 then (cl (f_X7_within ((x7).toInt64) (lN 97) (lN 122) s6) (fun x10 s9 => if x10 = 0 then (cl (f_X7_within ((x7).toInt64) (lN 48) (lN 57) s9) (fun x13 s12 => if x13 = 0 then (bd (wI s12 189 14 (nI 3)) (fun s15 => if ¬ x7 = (nI 59) then (ox (f_X7_takes_J260 (nI 0) s15)) else (ox (f_X7_takes_J260 (nI 1) s15)))) else (bd (wI s12 189 14 (nI 2)) (fun s17 => bd (wI s17 189 15 (nI 0)) (fun s18 => ox (lp (fun q : St => f_X7_takes_L140 q) Fu s18)))))) else (bd (wI s9 189 14 (nI 1)) (fun s19 => ox (lp (fun q : St => f_X7_takes_L82 q) Fu s19))))) else (bd (wI s6 189 14 (nI 0)) (fun s20 => some (Sum.inr (((), s20)))))))) else (bd (wI s2 189 12 ((s2.1 189 12) + (nI 1))) (fun s21 => some (Sum.inl (s21)))))
def f_X7_takes (s : St) : Option (Unit × St) := if (s.1 189 16) ≤ 0 then (lp (fun q : St => f_X7_takes_L8 q) Fu s) else (some (((), s)))
set_option maxHeartbeats 4000000 in
set_option maxRecDepth 100000 in
theorem e_X7_takes_J260 {X : Cx} {Γ : Gm} {r0 : Rb} (hX : Amb X Γ cX7_takes RX7 2 none 1) {k0 : Int32} {s : St} {t : Unit × St} (h : f_X7_takes_J260 k0 s = some t) (hk : (fun t : Unit × St => Rt X Γ r0 (none, t.2)) t) : Zw X Γ 2 r0 s 260 [(0, .ref (gL Γ (189)))] [.int k0, .ref (gL Γ (189))] := by
  unfold f_X7_takes_J260 at h
  refine z_iconst hX (v := (nI 1)) dX7_takes_260 rfl 261 rfl ?_
  replace h := cl_elim h
  obtain ⟨x23, s22, hx23, h⟩ := h
  refine z_cV7v hX (b := 189) (As := [.int k0, .int ((nI 1))]) (c_X7_needs hx23) lk_X7_122 rfl kdc_189 ds_X7_needs rfl (by decide) (by decide) (by decide) dX7_takes_261 rfl 264 rfl ?_
  refine z_aload_n hX dX7_takes_264 0 rfl 265 rfl ?_
  refine z_dup hX dX7_takes_265 rfl 266 rfl ?_
  refine z_get7 hX (k := 189) (j := 12) (v := .int ((s22.1 189 12))) kdc_189 (by decide) rfl dX7_takes_266 fl_X7_89 269 rfl ?_
  refine z_iconst hX (v := (nI 1)) dX7_takes_269 rfl 270 rfl ?_
  refine z_iadd hX dX7_takes_270 271 rfl ?_
  replace h := bd_elim h
  obtain ⟨s24, es24, h⟩ := h
  refine z_putI7 hX (k := 189) (j := 12) kdc_189 (by decide) rfl (by decide +kernel) (pwI_7_12 ..) dX7_takes_271 fl_X7_89 es24 274 rfl ?_
  replace h := Option.some.inj h
  subst h
  exact z_vret hX dX7_takes_274 rfl hk
set_option maxHeartbeats 4000000 in
set_option maxRecDepth 100000 in
theorem e_X7_takes_J201 {X : Cx} {Γ : Gm} {r0 : Rb} (hX : Amb X Γ cX7_takes RX7 2 none 1) {k0 : Int32} {s : St} {t : (St) ⊕ (Unit × St)} (h : f_X7_takes_J201 k0 s = some t) (hk : (Sum.elim (fun q : St => Zw X Γ 2 r0 q 140 [(0, .ref (gL Γ (189)))] []) (fun t : Unit × St => Rt X Γ r0 (none, t.2))) t) : Zw X Γ 2 r0 s 201 [(0, .ref (gL Γ (189)))] [.int k0, .ref (gL Γ (189))] := by
  unfold f_X7_takes_J201 at h
  replace h := bd_elim h
  obtain ⟨s44, es44, h⟩ := h
  refine z_putI7 hX (k := 189) (j := 15) kdc_189 (by decide) rfl (by decide +kernel) (pwI_7_15 ..) dX7_takes_201 fl_X7_119 es44 204 rfl ?_
  refine z_aload_n hX dX7_takes_204 0 rfl 205 rfl ?_
  refine z_dup hX dX7_takes_205 rfl 206 rfl ?_
  refine z_get7 hX (k := 189) (j := 12) (v := .int ((s44.1 189 12))) kdc_189 (by decide) rfl dX7_takes_206 fl_X7_89 209 rfl ?_
  refine z_iconst hX (v := (nI 1)) dX7_takes_209 rfl 210 rfl ?_
  refine z_iadd hX dX7_takes_210 211 rfl ?_
  replace h := bd_elim h
  obtain ⟨s45, es45, h⟩ := h
  refine z_putI7 hX (k := 189) (j := 12) kdc_189 (by decide) rfl (by decide +kernel) (pwI_7_12 ..) dX7_takes_211 fl_X7_89 es45 214 rfl ?_
  refine z_goto hX 140 dX7_takes_214 (by decide) ?_
  replace h := Option.some.inj h
  subst h
  exact z_sub [0] rfl hk
set_option maxHeartbeats 4000000 in
set_option maxRecDepth 100000 in
theorem e_X7_takes_L140 {X : Cx} {Γ : Gm} {r0 : Rb} (hX : Amb X Γ cX7_takes RX7 2 none 1) {s : St} {t : (St) ⊕ (Unit × St)} (h : f_X7_takes_L140 s = some t) (hk : (Sum.elim (fun q : St => Zw X Γ 2 r0 q 140 [(0, .ref (gL Γ (189)))] []) (fun t : Unit × St => Rt X Γ r0 (none, t.2))) t) : Zw X Γ 2 r0 s 140 [(0, .ref (gL Γ (189)))] [] := by
  unfold f_X7_takes_L140 at h
  refine z_aload_n hX dX7_takes_140 0 rfl 141 rfl ?_
  refine z_aload_n hX dX7_takes_141 0 rfl 142 rfl ?_
  refine z_get7 hX (k := 189) (j := 12) (v := .int ((s.1 189 12))) kdc_189 (by decide) rfl dX7_takes_142 fl_X7_89 145 rfl ?_
  replace h := cl_elim h
  obtain ⟨x26, s25, hx26, h⟩ := h
  refine z_cV7i hX (b := 189) (As := [.int ((s.1 189 12))]) (c_X7_byteAt hx26) lk_X7_92 rfl kdc_189 ds_X7_byteAt rfl (by decide) (by decide) (by decide) dX7_takes_145 rfl 148 rfl ?_
  refine z_i2l hX dX7_takes_148 149 rfl ?_
  refine z_ldc2 hX (v := (lN 48)) dX7_takes_149 ml_X7_115 152 rfl ?_
  refine z_ldc2 hX (v := (lN 57)) dX7_takes_152 ml_X7_117 155 rfl ?_
  replace h := cl_elim h
  obtain ⟨x28, s27, hx28, h⟩ := h
  refine z_cSi hX (As := [.long ((x26).toInt64), .long ((lN 48)), .long ((lN 57))]) (c_X7_within hx28) lk_X7_52 ds_X7_within rfl (by decide) (by decide) (by decide) dX7_takes_155 rfl 158 rfl ?_
  refine z_if_eq hX 217 dX7_takes_158 (by decide) 161 rfl (fun c29 => ?_) (fun c29 => ?_)
  · replace h := br_pos h c29
    refine z_aload_n hX dX7_takes_217 0 rfl 218 rfl ?_
    refine z_aload_n hX dX7_takes_218 0 rfl 219 rfl ?_
    refine z_get7 hX (k := 189) (j := 12) (v := .int ((s27.1 189 12))) kdc_189 (by decide) rfl dX7_takes_219 fl_X7_89 222 rfl ?_
    refine z_aload_n hX dX7_takes_222 0 rfl 223 rfl ?_
    refine z_get7 hX (k := 189) (j := 13) (v := .int ((s27.1 189 13))) kdc_189 (by decide) rfl dX7_takes_223 fl_X7_83 226 rfl ?_
    refine z_isub hX dX7_takes_226 227 rfl ?_
    refine z_iconst hX (v := (nI 2)) dX7_takes_227 rfl 228 rfl ?_
    refine z_icmp_gt hX 235 dX7_takes_228 (by decide) 231 rfl (fun c30 => ?_) (fun c30 => ?_)
    · replace h := br_pos h c30
      refine z_iconst hX (v := (nI 0)) dX7_takes_235 rfl 236 rfl ?_
      refine z_iconst hX (v := (nI 1)) dX7_takes_236 rfl 237 rfl ?_
      replace h := cl_elim h
      obtain ⟨x32, s31, hx32, h⟩ := h
      refine z_cV7v hX (b := 189) (As := [.int ((nI 0)), .int ((nI 1))]) (c_X7_needs hx32) lk_X7_122 rfl kdc_189 ds_X7_needs rfl (by decide) (by decide) (by decide) dX7_takes_237 rfl 240 rfl ?_
      refine z_goto hX 274 dX7_takes_240 (by decide) ?_
      replace h := Option.some.inj h
      subst h
      exact z_vret hX dX7_takes_274 rfl hk
    · replace h := br_neg h c30
      refine z_iconst hX (v := (nI 1)) dX7_takes_231 rfl 232 rfl ?_
      refine z_goto hX 236 dX7_takes_232 (by decide) ?_
      refine z_iconst hX (v := (nI 1)) dX7_takes_236 rfl 237 rfl ?_
      replace h := cl_elim h
      obtain ⟨x34, s33, hx34, h⟩ := h
      refine z_cV7v hX (b := 189) (As := [.int ((nI 1)), .int ((nI 1))]) (c_X7_needs hx34) lk_X7_122 rfl kdc_189 ds_X7_needs rfl (by decide) (by decide) (by decide) dX7_takes_237 rfl 240 rfl ?_
      refine z_goto hX 274 dX7_takes_240 (by decide) ?_
      replace h := Option.some.inj h
      subst h
      exact z_vret hX dX7_takes_274 rfl hk
  · replace h := br_neg h c29
    refine z_aload_n hX dX7_takes_161 0 rfl 162 rfl ?_
    refine z_aload_n hX dX7_takes_162 0 rfl 163 rfl ?_
    refine z_get7 hX (k := 189) (j := 12) (v := .int ((s27.1 189 12))) kdc_189 (by decide) rfl dX7_takes_163 fl_X7_89 166 rfl ?_
    refine z_aload_n hX dX7_takes_166 0 rfl 167 rfl ?_
    refine z_get7 hX (k := 189) (j := 13) (v := .int ((s27.1 189 13))) kdc_189 (by decide) rfl dX7_takes_167 fl_X7_83 170 rfl ?_
    refine z_isub hX dX7_takes_170 171 rfl ?_
    refine z_iconst hX (v := (nI 2)) dX7_takes_171 rfl 172 rfl ?_
    refine z_icmp_ge hX 197 dX7_takes_172 (by decide) 175 rfl (fun c35 => ?_) (fun c35 => ?_)
    · replace h := br_pos h c35
      refine z_aload_n hX dX7_takes_197 0 rfl 198 rfl ?_
      refine z_get7 hX (k := 189) (j := 15) (v := .int ((s27.1 189 15))) kdc_189 (by decide) rfl dX7_takes_198 fl_X7_119 201 rfl ?_
      exact z_sub [0] rfl (e_X7_takes_J201 hX h hk)
    · replace h := br_neg h c35
      refine z_bipush hX (v := (nI 10)) dX7_takes_175 (by decide) 177 rfl ?_
      refine z_aload_n hX dX7_takes_177 0 rfl 178 rfl ?_
      refine z_get7 hX (k := 189) (j := 15) (v := .int ((s27.1 189 15))) kdc_189 (by decide) rfl dX7_takes_178 fl_X7_119 181 rfl ?_
      refine z_imul hX dX7_takes_181 182 rfl ?_
      refine z_aload_n hX dX7_takes_182 0 rfl 183 rfl ?_
      refine z_aload_n hX dX7_takes_183 0 rfl 184 rfl ?_
      refine z_get7 hX (k := 189) (j := 12) (v := .int ((s27.1 189 12))) kdc_189 (by decide) rfl dX7_takes_184 fl_X7_89 187 rfl ?_
      replace h := cl_elim h
      obtain ⟨x37, s36, hx37, h⟩ := h
      refine z_cV7i hX (b := 189) (As := [.int ((s27.1 189 12))]) (c_X7_byteAt hx37) lk_X7_92 rfl kdc_189 ds_X7_byteAt rfl (by decide) (by decide) (Nat.le_of_ble_eq_true rfl) dX7_takes_187 rfl 190 rfl ?_
      refine z_iadd hX dX7_takes_190 191 rfl ?_
      refine z_bipush hX (v := (nI 48)) dX7_takes_191 (by decide) 193 rfl ?_
      refine z_isub hX dX7_takes_193 194 rfl ?_
      refine z_goto hX 201 dX7_takes_194 (by decide) ?_
      exact z_sub [0] rfl (e_X7_takes_J201 hX h hk)
set_option maxHeartbeats 4000000 in
set_option maxRecDepth 100000 in
theorem e_X7_takes_L82 {X : Cx} {Γ : Gm} {r0 : Rb} (hX : Amb X Γ cX7_takes RX7 2 none 1) {s : St} {t : (St) ⊕ (Unit × St)} (h : f_X7_takes_L82 s = some t) (hk : (Sum.elim (fun q : St => Zw X Γ 2 r0 q 82 [(0, .ref (gL Γ (189)))] []) (fun t : Unit × St => Rt X Γ r0 (none, t.2))) t) : Zw X Γ 2 r0 s 82 [(0, .ref (gL Γ (189)))] [] := by
  unfold f_X7_takes_L82 at h
  refine z_aload_n hX dX7_takes_82 0 rfl 83 rfl ?_
  refine z_aload_n hX dX7_takes_83 0 rfl 84 rfl ?_
  refine z_get7 hX (k := 189) (j := 12) (v := .int ((s.1 189 12))) kdc_189 (by decide) rfl dX7_takes_84 fl_X7_89 87 rfl ?_
  replace h := cl_elim h
  obtain ⟨x39, s38, hx39, h⟩ := h
  refine z_cV7i hX (b := 189) (As := [.int ((s.1 189 12))]) (c_X7_byteAt hx39) lk_X7_92 rfl kdc_189 ds_X7_byteAt rfl (by decide) (by decide) (by decide) dX7_takes_87 rfl 90 rfl ?_
  refine z_i2l hX dX7_takes_90 91 rfl ?_
  refine z_ldc2 hX (v := (lN 97)) dX7_takes_91 ml_X7_111 94 rfl ?_
  refine z_ldc2 hX (v := (lN 122)) dX7_takes_94 ml_X7_113 97 rfl ?_
  replace h := cl_elim h
  obtain ⟨x41, s40, hx41, h⟩ := h
  refine z_cSi hX (As := [.long ((x39).toInt64), .long ((lN 97)), .long ((lN 122))]) (c_X7_within hx41) lk_X7_52 ds_X7_within rfl (by decide) (by decide) (by decide) dX7_takes_97 rfl 100 rfl ?_
  refine z_if_eq hX 274 dX7_takes_100 (by decide) 103 rfl (fun c42 => ?_) (fun c42 => ?_)
  · replace h := br_pos h c42
    replace h := Option.some.inj h
    subst h
    exact z_vret hX dX7_takes_274 rfl hk
  · replace h := br_neg h c42
    refine z_aload_n hX dX7_takes_103 0 rfl 104 rfl ?_
    refine z_dup hX dX7_takes_104 rfl 105 rfl ?_
    refine z_get7 hX (k := 189) (j := 12) (v := .int ((s40.1 189 12))) kdc_189 (by decide) rfl dX7_takes_105 fl_X7_89 108 rfl ?_
    refine z_iconst hX (v := (nI 1)) dX7_takes_108 rfl 109 rfl ?_
    refine z_iadd hX dX7_takes_109 110 rfl ?_
    replace h := bd_elim h
    obtain ⟨s43, es43, h⟩ := h
    refine z_putI7 hX (k := 189) (j := 12) kdc_189 (by decide) rfl (by decide +kernel) (pwI_7_12 ..) dX7_takes_110 fl_X7_89 es43 113 rfl ?_
    refine z_goto hX 82 dX7_takes_113 (by decide) ?_
    replace h := Option.some.inj h
    subst h
    exact z_sub [0] rfl hk
set_option maxHeartbeats 4000000 in
set_option maxRecDepth 100000 in
theorem e_X7_takes_L8 {X : Cx} {Γ : Gm} {r0 : Rb} (hX : Amb X Γ cX7_takes RX7 2 none 1) {s : St} {t : (St) ⊕ (Unit × St)} (h : f_X7_takes_L8 s = some t) (hk : (Sum.elim (fun q : St => Zw X Γ 2 r0 q 8 [(0, .ref (gL Γ (189)))] []) (fun t : Unit × St => Rt X Γ r0 (none, t.2))) t) : Zw X Γ 2 r0 s 8 [(0, .ref (gL Γ (189)))] [] := by
  unfold f_X7_takes_L8 at h
  refine z_aload_n hX dX7_takes_8 0 rfl 9 rfl ?_
  refine z_aload_n hX dX7_takes_9 0 rfl 10 rfl ?_
  refine z_get7 hX (k := 189) (j := 12) (v := .int ((s.1 189 12))) kdc_189 (by decide) rfl dX7_takes_10 fl_X7_89 13 rfl ?_
  replace h := cl_elim h
  obtain ⟨x3, s2, hx3, h⟩ := h
  refine z_cV7i hX (b := 189) (As := [.int ((s.1 189 12))]) (c_X7_byteAt hx3) lk_X7_92 rfl kdc_189 ds_X7_byteAt rfl (by decide) (by decide) (by decide) dX7_takes_13 rfl 16 rfl ?_
  refine z_bipush hX (v := (nI 32)) dX7_takes_16 (by decide) 18 rfl ?_
  refine z_icmp_ne hX 34 dX7_takes_18 (by decide) 21 rfl (fun c4 => ?_) (fun c4 => ?_)
  · replace h := br_pos h c4
    refine z_aload_n hX dX7_takes_34 0 rfl 35 rfl ?_
    refine z_aload_n hX dX7_takes_35 0 rfl 36 rfl ?_
    refine z_get7 hX (k := 189) (j := 12) (v := .int ((s2.1 189 12))) kdc_189 (by decide) rfl dX7_takes_36 fl_X7_89 39 rfl ?_
    replace h := bd_elim h
    obtain ⟨s5, es5, h⟩ := h
    refine z_putI7 hX (k := 189) (j := 13) kdc_189 (by decide) rfl (by decide +kernel) (pwI_7_13 ..) dX7_takes_39 fl_X7_83 es5 42 rfl ?_
    refine z_aload_n hX dX7_takes_42 0 rfl 43 rfl ?_
    refine z_aload_n hX dX7_takes_43 0 rfl 44 rfl ?_
    refine z_get7 hX (k := 189) (j := 12) (v := .int ((s5.1 189 12))) kdc_189 (by decide) rfl dX7_takes_44 fl_X7_89 47 rfl ?_
    replace h := cl_elim h
    obtain ⟨x7, s6, hx7, h⟩ := h
    refine z_cV7i hX (b := 189) (As := [.int ((s5.1 189 12))]) (c_X7_byteAt hx7) lk_X7_92 rfl kdc_189 ds_X7_byteAt rfl (by decide) (by decide) (by decide) dX7_takes_47 rfl 50 rfl ?_
    refine z_istore_n hX (lv2 := [(1, .int x7), (0, .ref (gL Γ (189)))]) dX7_takes_50 (by decide) rfl 51 rfl ?_
    refine z_iload_n hX dX7_takes_51 0 rfl 52 rfl ?_
    refine z_if_ge hX 63 dX7_takes_52 (by decide) 55 rfl (fun c8 => ?_) (fun c8 => ?_)
    · replace h := br_pos h c8
      refine z_iload_n hX dX7_takes_63 0 rfl 64 rfl ?_
      refine z_i2l hX dX7_takes_64 65 rfl ?_
      refine z_ldc2 hX (v := (lN 97)) dX7_takes_65 ml_X7_111 68 rfl ?_
      refine z_ldc2 hX (v := (lN 122)) dX7_takes_68 ml_X7_113 71 rfl ?_
      replace h := cl_elim h
      obtain ⟨x10, s9, hx10, h⟩ := h
      refine z_cSi hX (As := [.long ((x7).toInt64), .long ((lN 97)), .long ((lN 122))]) (c_X7_within hx10) lk_X7_52 ds_X7_within rfl (by decide) (by decide) (by decide) dX7_takes_71 rfl 74 rfl ?_
      refine z_if_eq hX 116 dX7_takes_74 (by decide) 77 rfl (fun c11 => ?_) (fun c11 => ?_)
      · replace h := br_pos h c11
        refine z_iload_n hX dX7_takes_116 0 rfl 117 rfl ?_
        refine z_i2l hX dX7_takes_117 118 rfl ?_
        refine z_ldc2 hX (v := (lN 48)) dX7_takes_118 ml_X7_115 121 rfl ?_
        refine z_ldc2 hX (v := (lN 57)) dX7_takes_121 ml_X7_117 124 rfl ?_
        replace h := cl_elim h
        obtain ⟨x13, s12, hx13, h⟩ := h
        refine z_cSi hX (As := [.long ((x7).toInt64), .long ((lN 48)), .long ((lN 57))]) (c_X7_within hx13) lk_X7_52 ds_X7_within rfl (by decide) (by decide) (by decide) dX7_takes_124 rfl 127 rfl ?_
        refine z_if_eq hX 243 dX7_takes_127 (by decide) 130 rfl (fun c14 => ?_) (fun c14 => ?_)
        · replace h := br_pos h c14
          refine z_aload_n hX dX7_takes_243 1 rfl 244 rfl ?_
          refine z_iconst hX (v := (nI 3)) dX7_takes_244 rfl 245 rfl ?_
          replace h := bd_elim h
          obtain ⟨s15, es15, h⟩ := h
          refine z_putI7 hX (k := 189) (j := 14) kdc_189 (by decide) rfl (by decide +kernel) (pwI_7_14 ..) dX7_takes_245 fl_X7_108 es15 248 rfl ?_
          refine z_aload_n hX dX7_takes_248 1 rfl 249 rfl ?_
          refine z_iload_n hX dX7_takes_249 0 rfl 250 rfl ?_
          refine z_bipush hX (v := (nI 59)) dX7_takes_250 (by decide) 252 rfl ?_
          refine z_icmp_ne hX 259 dX7_takes_252 (by decide) 255 rfl (fun c16 => ?_) (fun c16 => ?_)
          · replace h := br_pos h c16
            refine z_iconst hX (v := (nI 0)) dX7_takes_259 rfl 260 rfl ?_
            replace h := ox_elim h
            obtain ⟨u, rfl, h⟩ := h
            exact z_sub [1] rfl (e_X7_takes_J260 hX h hk)
          · replace h := br_neg h c16
            refine z_iconst hX (v := (nI 1)) dX7_takes_255 rfl 256 rfl ?_
            refine z_goto hX 260 dX7_takes_256 (by decide) ?_
            replace h := ox_elim h
            obtain ⟨u, rfl, h⟩ := h
            exact z_sub [1] rfl (e_X7_takes_J260 hX h hk)
        · replace h := br_neg h c14
          refine z_aload_n hX dX7_takes_130 1 rfl 131 rfl ?_
          refine z_iconst hX (v := (nI 2)) dX7_takes_131 rfl 132 rfl ?_
          replace h := bd_elim h
          obtain ⟨s17, es17, h⟩ := h
          refine z_putI7 hX (k := 189) (j := 14) kdc_189 (by decide) rfl (by decide +kernel) (pwI_7_14 ..) dX7_takes_132 fl_X7_108 es17 135 rfl ?_
          refine z_aload_n hX dX7_takes_135 1 rfl 136 rfl ?_
          refine z_iconst hX (v := (nI 0)) dX7_takes_136 rfl 137 rfl ?_
          replace h := bd_elim h
          obtain ⟨s18, es18, h⟩ := h
          refine z_putI7 hX (k := 189) (j := 15) kdc_189 (by decide) rfl (by decide +kernel) (pwI_7_15 ..) dX7_takes_137 fl_X7_119 es18 140 rfl ?_
          replace h := ox_elim h
          obtain ⟨u, rfl, h⟩ := h
          exact z_sub [1] rfl (lp_ok (Z := fun q : St => Zw X Γ 2 r0 q 140 [(0, .ref (gL Γ (189)))] []) (fun q t h hk => e_X7_takes_L140 hX h hk) Fu _ _ h hk)
      · replace h := br_neg h c11
        refine z_aload_n hX dX7_takes_77 1 rfl 78 rfl ?_
        refine z_iconst hX (v := (nI 1)) dX7_takes_78 rfl 79 rfl ?_
        replace h := bd_elim h
        obtain ⟨s19, es19, h⟩ := h
        refine z_putI7 hX (k := 189) (j := 14) kdc_189 (by decide) rfl (by decide +kernel) (pwI_7_14 ..) dX7_takes_79 fl_X7_108 es19 82 rfl ?_
        replace h := ox_elim h
        obtain ⟨u, rfl, h⟩ := h
        exact z_sub [1] rfl (lp_ok (Z := fun q : St => Zw X Γ 2 r0 q 82 [(0, .ref (gL Γ (189)))] []) (fun q t h hk => e_X7_takes_L82 hX h hk) Fu _ _ h hk)
    · replace h := br_neg h c8
      refine z_aload_n hX dX7_takes_55 1 rfl 56 rfl ?_
      refine z_iconst hX (v := (nI 0)) dX7_takes_56 rfl 57 rfl ?_
      replace h := bd_elim h
      obtain ⟨s20, es20, h⟩ := h
      refine z_putI7 hX (k := 189) (j := 14) kdc_189 (by decide) rfl (by decide +kernel) (pwI_7_14 ..) dX7_takes_57 fl_X7_108 es20 60 rfl ?_
      refine z_goto hX 274 dX7_takes_60 (by decide) ?_
      replace h := Option.some.inj h
      subst h
      exact z_vret hX dX7_takes_274 rfl hk
  · replace h := br_neg h c4
    refine z_aload_n hX dX7_takes_21 0 rfl 22 rfl ?_
    refine z_dup hX dX7_takes_22 rfl 23 rfl ?_
    refine z_get7 hX (k := 189) (j := 12) (v := .int ((s2.1 189 12))) kdc_189 (by decide) rfl dX7_takes_23 fl_X7_89 26 rfl ?_
    refine z_iconst hX (v := (nI 1)) dX7_takes_26 rfl 27 rfl ?_
    refine z_iadd hX dX7_takes_27 28 rfl ?_
    replace h := bd_elim h
    obtain ⟨s21, es21, h⟩ := h
    refine z_putI7 hX (k := 189) (j := 12) kdc_189 (by decide) rfl (by decide +kernel) (pwI_7_12 ..) dX7_takes_28 fl_X7_89 es21 31 rfl ?_
    refine z_goto hX 8 dX7_takes_31 (by decide) ?_
    replace h := Option.some.inj h
    subst h
    exact z_sub [0] rfl hk
set_option maxHeartbeats 4000000 in
set_option maxRecDepth 100000 in
theorem e_X7_takes {X : Cx} {Γ : Gm} {r0 : Rb} (hX : Amb X Γ cX7_takes RX7 2 none 1) {s : St} {t : Unit × St} (h : f_X7_takes s = some t) (hk : (fun t : Unit × St => Rt X Γ r0 (none, t.2)) t) : Zw X Γ 2 r0 s 0 [(0, .ref (gL Γ (189)))] [] := by
  unfold f_X7_takes at h
  refine z_aload_n hX dX7_takes_0 0 rfl 1 rfl ?_
  refine z_get7 hX (k := 189) (j := 16) (v := .int ((s.1 189 16))) kdc_189 (by decide) rfl dX7_takes_1 fl_X7_80 4 rfl ?_
  refine z_if_le hX 8 dX7_takes_4 (by decide) 7 rfl (fun c1 => ?_) (fun c1 => ?_)
  · replace h := br_pos h c1
    exact z_sub [0] rfl (lp_ok (Z := fun q : St => Zw X Γ 2 r0 q 8 [(0, .ref (gL Γ (189)))] []) (fun q t h hk => e_X7_takes_L8 hX h hk) Fu _ _ h hk)
  · replace h := br_neg h c1
    replace h := Option.some.inj h
    subst h
    exact z_vret hX dX7_takes_7 rfl hk
theorem c_X7_takes {lc : Launch} {Γ : Gm} {s s2 : St} {v : Unit} (h : f_X7_takes s = some (v, s2)) : Ct lc Γ yX7_takes cX7_takes 2 none 1 [.ref (gL Γ (189))] s (none, s2) := Ct.of (by decide +kernel) (Nat.le_of_ble_eq_true rfl) (fun X hl hX => e_X7_takes hX h rfl)
theorem dX7_looked_0 : decode cX7_looked 0 = .ok (.aload_n 0, 1) := by decide +kernel
theorem dX7_looked_1 : decode cX7_looked 1 = .ok (.getfield 80, 3) := by decide +kernel
theorem dX7_looked_4 : decode cX7_looked 4 = .ok (.ifCond .ne 21, 3) := by decide +kernel
theorem dX7_looked_7 : decode cX7_looked 7 = .ok (.aload_n 0, 1) := by decide +kernel
theorem dX7_looked_8 : decode cX7_looked 8 = .ok (.aload_n 0, 1) := by decide +kernel
theorem dX7_looked_9 : decode cX7_looked 9 = .ok (.getfield 108, 3) := by decide +kernel
theorem dX7_looked_12 : decode cX7_looked 12 = .ok (.iconst 2, 1) := by decide +kernel
theorem dX7_looked_13 : decode cX7_looked 13 = .ok (.if_icmp .ne 7, 3) := by decide +kernel
theorem dX7_looked_16 : decode cX7_looked 16 = .ok (.iconst 1, 1) := by decide +kernel
theorem dX7_looked_17 : decode cX7_looked 17 = .ok (.goto 4, 3) := by decide +kernel
theorem dX7_looked_20 : decode cX7_looked 20 = .ok (.iconst 0, 1) := by decide +kernel
theorem dX7_looked_21 : decode cX7_looked 21 = .ok (.iconst 2, 1) := by decide +kernel
theorem dX7_looked_22 : decode cX7_looked 22 = .ok (.invokevirtual 122, 3) := by decide +kernel
theorem dX7_looked_25 : decode cX7_looked 25 = .ok (.aload_n 0, 1) := by decide +kernel
theorem dX7_looked_26 : decode cX7_looked 26 = .ok (.getfield 80, 3) := by decide +kernel
theorem dX7_looked_29 : decode cX7_looked 29 = .ok (.ifCond .ne 20, 3) := by decide +kernel
theorem dX7_looked_32 : decode cX7_looked 32 = .ok (.aload_n 0, 1) := by decide +kernel
theorem dX7_looked_33 : decode cX7_looked 33 = .ok (.aload_n 0, 1) := by decide +kernel
theorem dX7_looked_34 : decode cX7_looked 34 = .ok (.getfield 119, 3) := by decide +kernel
theorem dX7_looked_37 : decode cX7_looked 37 = .ok (.i2l, 1) := by decide +kernel
theorem dX7_looked_38 : decode cX7_looked 38 = .ok (.iload_n 1, 1) := by decide +kernel
theorem dX7_looked_39 : decode cX7_looked 39 = .ok (.i2l, 1) := by decide +kernel
theorem dX7_looked_40 : decode cX7_looked 40 = .ok (.iload_n 2, 1) := by decide +kernel
theorem dX7_looked_41 : decode cX7_looked 41 = .ok (.i2l, 1) := by decide +kernel
theorem dX7_looked_42 : decode cX7_looked 42 = .ok (.invokestatic 52, 3) := by decide +kernel
theorem dX7_looked_45 : decode cX7_looked 45 = .ok (.iconst 3, 1) := by decide +kernel
theorem dX7_looked_46 : decode cX7_looked 46 = .ok (.invokevirtual 122, 3) := by decide +kernel
theorem dX7_looked_49 : decode cX7_looked 49 = .ok (.aload_n 0, 1) := by decide +kernel
theorem dX7_looked_50 : decode cX7_looked 50 = .ok (.getfield 80, 3) := by decide +kernel
theorem dX7_looked_53 : decode cX7_looked 53 = .ok (.ifCond .ne 10, 3) := by decide +kernel
theorem dX7_looked_56 : decode cX7_looked 56 = .ok (.aload_n 0, 1) := by decide +kernel
theorem dX7_looked_57 : decode cX7_looked 57 = .ok (.getfield 119, 3) := by decide +kernel
theorem dX7_looked_60 : decode cX7_looked 60 = .ok (.goto 4, 3) := by decide +kernel
theorem dX7_looked_63 : decode cX7_looked 63 = .ok (.iconst 0, 1) := by decide +kernel
theorem dX7_looked_64 : decode cX7_looked 64 = .ok (.ireturn, 1) := by decide +kernel
def f_X7_looked_J49 (s : St) : Option (Int32 × St) := if ¬ (s.1 189 16) = 0 then (some (((nI 0), s))) else (some (((s.1 189 15), s)))
def f_X7_looked_J25 (v1 : Int32) (v2 : Int32) (s : St) : Option (Int32 × St) := if ¬ (s.1 189 16) = 0 then (f_X7_looked_J49 s) else (cl (f_X7_within (((s.1 189 15)).toInt64) ((v1).toInt64) ((v2).toInt64) s) (fun x5 s4 => cl (f_X7_needs x5 (nI 3) s4) (fun x7 s6 => f_X7_looked_J49 s6)))
def f_X7_looked_J21 (v1 : Int32) (v2 : Int32) (k0 : Int32) (s : St) : Option (Int32 × St) := cl (f_X7_needs k0 (nI 2) s) (fun x9 s8 => f_X7_looked_J25 v1 v2 s8)
def f_X7_looked (a1 : Int32) (a2 : Int32) (s : St) : Option (Int32 × St) := if ¬ (s.1 189 16) = 0 then (f_X7_looked_J25 a1 a2 s) else (if ¬ (s.1 189 14) = (nI 2) then (f_X7_looked_J21 a1 a2 (nI 0) s) else (f_X7_looked_J21 a1 a2 (nI 1) s))
set_option maxHeartbeats 4000000 in
set_option maxRecDepth 100000 in
theorem e_X7_looked_J49 {X : Cx} {Γ : Gm} {r0 : Rb} (hX : Amb X Γ cX7_looked RX7 3 (some .int) 1) {s : St} {t : Int32 × St} (h : f_X7_looked_J49 s = some t) (hk : (fun t : Int32 × St => Rt X Γ r0 (some (Value.int t.1), t.2)) t) : Zw X Γ 3 r0 s 49 [(0, .ref (gL Γ (189)))] [] := by
  unfold f_X7_looked_J49 at h
  refine z_aload_n hX dX7_looked_49 0 rfl 50 rfl ?_
  refine z_get7 hX (k := 189) (j := 16) (v := .int ((s.1 189 16))) kdc_189 (by decide) rfl dX7_looked_50 fl_X7_80 53 rfl ?_
  refine z_if_ne hX 63 dX7_looked_53 (by decide) 56 rfl (fun c10 => ?_) (fun c10 => ?_)
  · replace h := br_pos h c10
    refine z_iconst hX (v := (nI 0)) dX7_looked_63 rfl 64 rfl ?_
    replace h := Option.some.inj h
    subst h
    exact z_iret hX dX7_looked_64 rfl hk
  · replace h := br_neg h c10
    refine z_aload_n hX dX7_looked_56 0 rfl 57 rfl ?_
    refine z_get7 hX (k := 189) (j := 15) (v := .int ((s.1 189 15))) kdc_189 (by decide) rfl dX7_looked_57 fl_X7_119 60 rfl ?_
    refine z_goto hX 64 dX7_looked_60 (by decide) ?_
    replace h := Option.some.inj h
    subst h
    exact z_iret hX dX7_looked_64 rfl hk
set_option maxHeartbeats 4000000 in
set_option maxRecDepth 100000 in
theorem e_X7_looked_J25 {X : Cx} {Γ : Gm} {r0 : Rb} (hX : Amb X Γ cX7_looked RX7 3 (some .int) 1) {v1 : Int32} {v2 : Int32} {s : St} {t : Int32 × St} (h : f_X7_looked_J25 v1 v2 s = some t) (hk : (fun t : Int32 × St => Rt X Γ r0 (some (Value.int t.1), t.2)) t) : Zw X Γ 3 r0 s 25 [(0, .ref (gL Γ (189))), (1, .int v1), (2, .int v2)] [] := by
  unfold f_X7_looked_J25 at h
  refine z_aload_n hX dX7_looked_25 0 rfl 26 rfl ?_
  refine z_get7 hX (k := 189) (j := 16) (v := .int ((s.1 189 16))) kdc_189 (by decide) rfl dX7_looked_26 fl_X7_80 29 rfl ?_
  refine z_if_ne hX 49 dX7_looked_29 (by decide) 32 rfl (fun c3 => ?_) (fun c3 => ?_)
  · replace h := br_pos h c3
    exact z_sub [0] rfl (e_X7_looked_J49 hX h hk)
  · replace h := br_neg h c3
    refine z_aload_n hX dX7_looked_32 0 rfl 33 rfl ?_
    refine z_aload_n hX dX7_looked_33 0 rfl 34 rfl ?_
    refine z_get7 hX (k := 189) (j := 15) (v := .int ((s.1 189 15))) kdc_189 (by decide) rfl dX7_looked_34 fl_X7_119 37 rfl ?_
    refine z_i2l hX dX7_looked_37 38 rfl ?_
    refine z_iload_n hX dX7_looked_38 1 rfl 39 rfl ?_
    refine z_i2l hX dX7_looked_39 40 rfl ?_
    refine z_iload_n hX dX7_looked_40 2 rfl 41 rfl ?_
    refine z_i2l hX dX7_looked_41 42 rfl ?_
    replace h := cl_elim h
    obtain ⟨x5, s4, hx5, h⟩ := h
    refine z_cSi hX (As := [.long (((s.1 189 15)).toInt64), .long ((v1).toInt64), .long ((v2).toInt64)]) (c_X7_within hx5) lk_X7_52 ds_X7_within rfl (by decide) (by decide) (Nat.le_of_ble_eq_true rfl) dX7_looked_42 rfl 45 rfl ?_
    refine z_iconst hX (v := (nI 3)) dX7_looked_45 rfl 46 rfl ?_
    replace h := cl_elim h
    obtain ⟨x7, s6, hx7, h⟩ := h
    refine z_cV7v hX (b := 189) (As := [.int x5, .int ((nI 3))]) (c_X7_needs hx7) lk_X7_122 rfl kdc_189 ds_X7_needs rfl (by decide) (by decide) (by decide) dX7_looked_46 rfl 49 rfl ?_
    exact z_sub [0] rfl (e_X7_looked_J49 hX h hk)
set_option maxHeartbeats 4000000 in
set_option maxRecDepth 100000 in
theorem e_X7_looked_J21 {X : Cx} {Γ : Gm} {r0 : Rb} (hX : Amb X Γ cX7_looked RX7 3 (some .int) 1) {v1 : Int32} {v2 : Int32} {k0 : Int32} {s : St} {t : Int32 × St} (h : f_X7_looked_J21 v1 v2 k0 s = some t) (hk : (fun t : Int32 × St => Rt X Γ r0 (some (Value.int t.1), t.2)) t) : Zw X Γ 3 r0 s 21 [(0, .ref (gL Γ (189))), (1, .int v1), (2, .int v2)] [.int k0, .ref (gL Γ (189))] := by
  unfold f_X7_looked_J21 at h
  refine z_iconst hX (v := (nI 2)) dX7_looked_21 rfl 22 rfl ?_
  replace h := cl_elim h
  obtain ⟨x9, s8, hx9, h⟩ := h
  refine z_cV7v hX (b := 189) (As := [.int k0, .int ((nI 2))]) (c_X7_needs hx9) lk_X7_122 rfl kdc_189 ds_X7_needs rfl (by decide) (by decide) (by decide) dX7_looked_22 rfl 25 rfl ?_
  exact z_sub [0, 1, 2] rfl (e_X7_looked_J25 hX h hk)
set_option maxHeartbeats 4000000 in
set_option maxRecDepth 100000 in
theorem e_X7_looked {X : Cx} {Γ : Gm} {r0 : Rb} (hX : Amb X Γ cX7_looked RX7 3 (some .int) 1) {a1 : Int32} {a2 : Int32} {s : St} {t : Int32 × St} (h : f_X7_looked a1 a2 s = some t) (hk : (fun t : Int32 × St => Rt X Γ r0 (some (Value.int t.1), t.2)) t) : Zw X Γ 3 r0 s 0 [(0, .ref (gL Γ (189))), (1, .int a1), (2, .int a2)] [] := by
  unfold f_X7_looked at h
  refine z_aload_n hX dX7_looked_0 0 rfl 1 rfl ?_
  refine z_get7 hX (k := 189) (j := 16) (v := .int ((s.1 189 16))) kdc_189 (by decide) rfl dX7_looked_1 fl_X7_80 4 rfl ?_
  refine z_if_ne hX 25 dX7_looked_4 (by decide) 7 rfl (fun c1 => ?_) (fun c1 => ?_)
  · replace h := br_pos h c1
    exact z_sub [0, 1, 2] rfl (e_X7_looked_J25 hX h hk)
  · replace h := br_neg h c1
    refine z_aload_n hX dX7_looked_7 0 rfl 8 rfl ?_
    refine z_aload_n hX dX7_looked_8 0 rfl 9 rfl ?_
    refine z_get7 hX (k := 189) (j := 14) (v := .int ((s.1 189 14))) kdc_189 (by decide) rfl dX7_looked_9 fl_X7_108 12 rfl ?_
    refine z_iconst hX (v := (nI 2)) dX7_looked_12 rfl 13 rfl ?_
    refine z_icmp_ne hX 20 dX7_looked_13 (by decide) 16 rfl (fun c2 => ?_) (fun c2 => ?_)
    · replace h := br_pos h c2
      refine z_iconst hX (v := (nI 0)) dX7_looked_20 rfl 21 rfl ?_
      exact z_sub [0, 1, 2] rfl (e_X7_looked_J21 hX h hk)
    · replace h := br_neg h c2
      refine z_iconst hX (v := (nI 1)) dX7_looked_16 rfl 17 rfl ?_
      refine z_goto hX 21 dX7_looked_17 (by decide) ?_
      exact z_sub [0, 1, 2] rfl (e_X7_looked_J21 hX h hk)
theorem c_X7_looked {lc : Launch} {Γ : Gm} {a1 : Int32} {a2 : Int32} {s s2 : St} {v : Int32} (h : f_X7_looked a1 a2 s = some (v, s2)) : Ct lc Γ yX7_looked cX7_looked 3 (some .int) 1 [.ref (gL Γ (189)), .int a1, .int a2] s (some (.int v), s2) := Ct.of (by decide +kernel) (Nat.le_of_ble_eq_true rfl) (fun X hl hX => e_X7_looked hX h rfl)
theorem dX7_readNumber_0 : decode cX7_readNumber 0 = .ok (.aload_n 0, 1) := by decide +kernel
theorem dX7_readNumber_1 : decode cX7_readNumber 1 = .ok (.iload_n 1, 1) := by decide +kernel
theorem dX7_readNumber_2 : decode cX7_readNumber 2 = .ok (.iload_n 2, 1) := by decide +kernel
theorem dX7_readNumber_3 : decode cX7_readNumber 3 = .ok (.invokevirtual 126, 3) := by decide +kernel
theorem dX7_readNumber_6 : decode cX7_readNumber 6 = .ok (.istore_n 3, 1) := by decide +kernel
theorem dX7_readNumber_7 : decode cX7_readNumber 7 = .ok (.aload_n 0, 1) := by decide +kernel
theorem dX7_readNumber_8 : decode cX7_readNumber 8 = .ok (.invokevirtual 130, 3) := by decide +kernel
theorem dX7_readNumber_11 : decode cX7_readNumber 11 = .ok (.iload_n 3, 1) := by decide +kernel
theorem dX7_readNumber_12 : decode cX7_readNumber 12 = .ok (.ireturn, 1) := by decide +kernel
def f_X7_readNumber (a1 : Int32) (a2 : Int32) (s : St) : Option (Int32 × St) := cl (f_X7_looked a1 a2 s) (fun x2 s1 => cl (f_X7_takes s1) (fun x4 s3 => some ((x2, s3))))
set_option maxHeartbeats 4000000 in
set_option maxRecDepth 100000 in
theorem e_X7_readNumber {X : Cx} {Γ : Gm} {r0 : Rb} (hX : Amb X Γ cX7_readNumber RX7 4 (some .int) 2) {a1 : Int32} {a2 : Int32} {s : St} {t : Int32 × St} (h : f_X7_readNumber a1 a2 s = some t) (hk : (fun t : Int32 × St => Rt X Γ r0 (some (Value.int t.1), t.2)) t) : Zw X Γ 4 r0 s 0 [(0, .ref (gL Γ (189))), (1, .int a1), (2, .int a2)] [] := by
  unfold f_X7_readNumber at h
  refine z_aload_n hX dX7_readNumber_0 0 rfl 1 rfl ?_
  refine z_iload_n hX dX7_readNumber_1 1 rfl 2 rfl ?_
  refine z_iload_n hX dX7_readNumber_2 2 rfl 3 rfl ?_
  replace h := cl_elim h
  obtain ⟨x2, s1, hx2, h⟩ := h
  refine z_cV7i hX (b := 189) (As := [.int a1, .int a2]) (c_X7_looked hx2) lk_X7_126 rfl kdc_189 ds_X7_looked rfl (by decide) (by decide) (by decide) dX7_readNumber_3 rfl 6 rfl ?_
  refine z_istore_n hX (lv2 := [(3, .int x2), (0, .ref (gL Γ (189))), (1, .int a1), (2, .int a2)]) dX7_readNumber_6 (by decide) rfl 7 rfl ?_
  refine z_aload_n hX dX7_readNumber_7 1 rfl 8 rfl ?_
  replace h := cl_elim h
  obtain ⟨x4, s3, hx4, h⟩ := h
  refine z_cV7v hX (b := 189) (As := []) (c_X7_takes hx4) lk_X7_130 rfl kdc_189 ds_X7_takes rfl (by decide) (by decide) (by decide) dX7_readNumber_8 rfl 11 rfl ?_
  refine z_iload_n hX dX7_readNumber_11 0 rfl 12 rfl ?_
  replace h := Option.some.inj h
  subst h
  exact z_iret hX dX7_readNumber_12 rfl hk
theorem c_X7_readNumber {lc : Launch} {Γ : Gm} {a1 : Int32} {a2 : Int32} {s s2 : St} {v : Int32} (h : f_X7_readNumber a1 a2 s = some (v, s2)) : Ct lc Γ yX7_readNumber cX7_readNumber 4 (some .int) 2 [.ref (gL Γ (189)), .int a1, .int a2] s (some (.int v), s2) := Ct.of (by decide +kernel) (Nat.le_of_ble_eq_true rfl) (fun X hl hX => e_X7_readNumber hX h rfl)
theorem dX7_readCell_0 : decode cX7_readCell 0 = .ok (.aload_n 0, 1) := by decide +kernel
theorem dX7_readCell_1 : decode cX7_readCell 1 = .ok (.iconst 0, 1) := by decide +kernel
theorem dX7_readCell_2 : decode cX7_readCell 2 = .ok (.bipush 99, 2) := by decide +kernel
theorem dX7_readCell_4 : decode cX7_readCell 4 = .ok (.invokevirtual 126, 3) := by decide +kernel
theorem dX7_readCell_7 : decode cX7_readCell 7 = .ok (.istore_n 1, 1) := by decide +kernel
theorem dX7_readCell_8 : decode cX7_readCell 8 = .ok (.aload_n 0, 1) := by decide +kernel
theorem dX7_readCell_9 : decode cX7_readCell 9 = .ok (.iload_n 1, 1) := by decide +kernel
theorem dX7_readCell_10 : decode cX7_readCell 10 = .ok (.invokestatic 133, 3) := by decide +kernel
theorem dX7_readCell_13 : decode cX7_readCell 13 = .ok (.iconst 3, 1) := by decide +kernel
theorem dX7_readCell_14 : decode cX7_readCell 14 = .ok (.invokevirtual 122, 3) := by decide +kernel
theorem dX7_readCell_17 : decode cX7_readCell 17 = .ok (.aload_n 0, 1) := by decide +kernel
theorem dX7_readCell_18 : decode cX7_readCell 18 = .ok (.invokevirtual 130, 3) := by decide +kernel
theorem dX7_readCell_21 : decode cX7_readCell 21 = .ok (.aload_n 0, 1) := by decide +kernel
theorem dX7_readCell_22 : decode cX7_readCell 22 = .ok (.getfield 80, 3) := by decide +kernel
theorem dX7_readCell_25 : decode cX7_readCell 25 = .ok (.ifCond .ne 10, 3) := by decide +kernel
theorem dX7_readCell_28 : decode cX7_readCell 28 = .ok (.iload_n 1, 1) := by decide +kernel
theorem dX7_readCell_29 : decode cX7_readCell 29 = .ok (.invokestatic 137, 3) := by decide +kernel
theorem dX7_readCell_32 : decode cX7_readCell 32 = .ok (.goto 4, 3) := by decide +kernel
theorem dX7_readCell_35 : decode cX7_readCell 35 = .ok (.iconst 0, 1) := by decide +kernel
theorem dX7_readCell_36 : decode cX7_readCell 36 = .ok (.ireturn, 1) := by decide +kernel
def f_X7_readCell (s : St) : Option (Int32 × St) := cl (f_X7_looked (nI 0) (nI 99) s) (fun x2 s1 => cl (f_X7_isCell x2 s1) (fun x4 s3 => cl (f_X7_needs x4 (nI 3) s3) (fun x6 s5 => cl (f_X7_takes s5) (fun x8 s7 => if ¬ (s7.1 189 16) = 0 then (some (((nI 0), s7))) else (cl (f_X7_cellOf x2 s7) (fun x11 s10 => some ((x11, s10))))))))
set_option maxHeartbeats 4000000 in
set_option maxRecDepth 100000 in
theorem e_X7_readCell {X : Cx} {Γ : Gm} {r0 : Rb} (hX : Amb X Γ cX7_readCell RX7 2 (some .int) 2) {s : St} {t : Int32 × St} (h : f_X7_readCell s = some t) (hk : (fun t : Int32 × St => Rt X Γ r0 (some (Value.int t.1), t.2)) t) : Zw X Γ 2 r0 s 0 [(0, .ref (gL Γ (189)))] [] := by
  unfold f_X7_readCell at h
  refine z_aload_n hX dX7_readCell_0 0 rfl 1 rfl ?_
  refine z_iconst hX (v := (nI 0)) dX7_readCell_1 rfl 2 rfl ?_
  refine z_bipush hX (v := (nI 99)) dX7_readCell_2 (by decide) 4 rfl ?_
  replace h := cl_elim h
  obtain ⟨x2, s1, hx2, h⟩ := h
  refine z_cV7i hX (b := 189) (As := [.int ((nI 0)), .int ((nI 99))]) (c_X7_looked hx2) lk_X7_126 rfl kdc_189 ds_X7_looked rfl (by decide) (by decide) (by decide) dX7_readCell_4 rfl 7 rfl ?_
  refine z_istore_n hX (lv2 := [(1, .int x2), (0, .ref (gL Γ (189)))]) dX7_readCell_7 (by decide) rfl 8 rfl ?_
  refine z_aload_n hX dX7_readCell_8 1 rfl 9 rfl ?_
  refine z_iload_n hX dX7_readCell_9 0 rfl 10 rfl ?_
  replace h := cl_elim h
  obtain ⟨x4, s3, hx4, h⟩ := h
  refine z_cSi hX (As := [.int x2]) (c_X7_isCell hx4) lk_X7_133 ds_X7_isCell rfl (by decide) (by decide) (Nat.le_of_ble_eq_true rfl) dX7_readCell_10 rfl 13 rfl ?_
  refine z_iconst hX (v := (nI 3)) dX7_readCell_13 rfl 14 rfl ?_
  replace h := cl_elim h
  obtain ⟨x6, s5, hx6, h⟩ := h
  refine z_cV7v hX (b := 189) (As := [.int x4, .int ((nI 3))]) (c_X7_needs hx6) lk_X7_122 rfl kdc_189 ds_X7_needs rfl (by decide) (by decide) (by decide) dX7_readCell_14 rfl 17 rfl ?_
  refine z_aload_n hX dX7_readCell_17 1 rfl 18 rfl ?_
  replace h := cl_elim h
  obtain ⟨x8, s7, hx8, h⟩ := h
  refine z_cV7v hX (b := 189) (As := []) (c_X7_takes hx8) lk_X7_130 rfl kdc_189 ds_X7_takes rfl (by decide) (by decide) (by decide) dX7_readCell_18 rfl 21 rfl ?_
  refine z_aload_n hX dX7_readCell_21 1 rfl 22 rfl ?_
  refine z_get7 hX (k := 189) (j := 16) (v := .int ((s7.1 189 16))) kdc_189 (by decide) rfl dX7_readCell_22 fl_X7_80 25 rfl ?_
  refine z_if_ne hX 35 dX7_readCell_25 (by decide) 28 rfl (fun c9 => ?_) (fun c9 => ?_)
  · replace h := br_pos h c9
    refine z_iconst hX (v := (nI 0)) dX7_readCell_35 rfl 36 rfl ?_
    replace h := Option.some.inj h
    subst h
    exact z_iret hX dX7_readCell_36 rfl hk
  · replace h := br_neg h c9
    refine z_iload_n hX dX7_readCell_28 0 rfl 29 rfl ?_
    replace h := cl_elim h
    obtain ⟨x11, s10, hx11, h⟩ := h
    refine z_cSi hX (As := [.int x2]) (c_X7_cellOf hx11) lk_X7_137 ds_X7_cellOf rfl (by decide) (by decide) (by decide) dX7_readCell_29 rfl 32 rfl ?_
    refine z_goto hX 36 dX7_readCell_32 (by decide) ?_
    replace h := Option.some.inj h
    subst h
    exact z_iret hX dX7_readCell_36 rfl hk
theorem c_X7_readCell {lc : Launch} {Γ : Gm} {s s2 : St} {v : Int32} (h : f_X7_readCell s = some (v, s2)) : Ct lc Γ yX7_readCell cX7_readCell 2 (some .int) 2 [.ref (gL Γ (189))] s (some (.int v), s2) := Ct.of (by decide +kernel) (Nat.le_of_ble_eq_true rfl) (fun X hl hX => e_X7_readCell hX h rfl)
theorem dX7_readLineOf_0 : decode cX7_readLineOf 0 = .ok (.iconst 0, 1) := by decide +kernel
theorem dX7_readLineOf_1 : decode cX7_readLineOf 1 = .ok (.istore_n 2, 1) := by decide +kernel
theorem dX7_readLineOf_2 : decode cX7_readLineOf 2 = .ok (.iload_n 1, 1) := by decide +kernel
theorem dX7_readLineOf_3 : decode cX7_readLineOf 3 = .ok (.tableswitch 204 4 6 #[25, 79, 141], 25) := by decide +kernel
theorem dX7_readLineOf_28 : decode cX7_readLineOf 28 = .ok (.aload_n 0, 1) := by decide +kernel
theorem dX7_readLineOf_29 : decode cX7_readLineOf 29 = .ok (.getfield 20, 3) := by decide +kernel
theorem dX7_readLineOf_32 : decode cX7_readLineOf 32 = .ok (.bipush 12, 2) := by decide +kernel
theorem dX7_readLineOf_34 : decode cX7_readLineOf 34 = .ok (.iconst 2, 1) := by decide +kernel
theorem dX7_readLineOf_35 : decode cX7_readLineOf 35 = .ok (.aload_n 0, 1) := by decide +kernel
theorem dX7_readLineOf_36 : decode cX7_readLineOf 36 = .ok (.getfield 60, 3) := by decide +kernel
theorem dX7_readLineOf_39 : decode cX7_readLineOf 39 = .ok (.imul, 1) := by decide +kernel
theorem dX7_readLineOf_40 : decode cX7_readLineOf 40 = .ok (.iadd, 1) := by decide +kernel
theorem dX7_readLineOf_41 : decode cX7_readLineOf 41 = .ok (.aload_n 0, 1) := by decide +kernel
theorem dX7_readLineOf_42 : decode cX7_readLineOf 42 = .ok (.invokevirtual 140, 3) := by decide +kernel
theorem dX7_readLineOf_45 : decode cX7_readLineOf 45 = .ok (.iastore, 1) := by decide +kernel
theorem dX7_readLineOf_46 : decode cX7_readLineOf 46 = .ok (.aload_n 0, 1) := by decide +kernel
theorem dX7_readLineOf_47 : decode cX7_readLineOf 47 = .ok (.getfield 20, 3) := by decide +kernel
theorem dX7_readLineOf_50 : decode cX7_readLineOf 50 = .ok (.bipush 12, 2) := by decide +kernel
theorem dX7_readLineOf_52 : decode cX7_readLineOf 52 = .ok (.iconst 2, 1) := by decide +kernel
theorem dX7_readLineOf_53 : decode cX7_readLineOf 53 = .ok (.aload_n 0, 1) := by decide +kernel
theorem dX7_readLineOf_54 : decode cX7_readLineOf 54 = .ok (.getfield 60, 3) := by decide +kernel
theorem dX7_readLineOf_57 : decode cX7_readLineOf 57 = .ok (.imul, 1) := by decide +kernel
theorem dX7_readLineOf_58 : decode cX7_readLineOf 58 = .ok (.iadd, 1) := by decide +kernel
theorem dX7_readLineOf_59 : decode cX7_readLineOf 59 = .ok (.iconst 1, 1) := by decide +kernel
theorem dX7_readLineOf_60 : decode cX7_readLineOf 60 = .ok (.iadd, 1) := by decide +kernel
theorem dX7_readLineOf_61 : decode cX7_readLineOf 61 = .ok (.aload_n 0, 1) := by decide +kernel
theorem dX7_readLineOf_62 : decode cX7_readLineOf 62 = .ok (.iconst 0, 1) := by decide +kernel
theorem dX7_readLineOf_63 : decode cX7_readLineOf 63 = .ok (.bipush 9, 2) := by decide +kernel
theorem dX7_readLineOf_65 : decode cX7_readLineOf 65 = .ok (.invokevirtual 143, 3) := by decide +kernel
theorem dX7_readLineOf_68 : decode cX7_readLineOf 68 = .ok (.iastore, 1) := by decide +kernel
theorem dX7_readLineOf_69 : decode cX7_readLineOf 69 = .ok (.aload_n 0, 1) := by decide +kernel
theorem dX7_readLineOf_70 : decode cX7_readLineOf 70 = .ok (.dup, 1) := by decide +kernel
theorem dX7_readLineOf_71 : decode cX7_readLineOf 71 = .ok (.getfield 60, 3) := by decide +kernel
theorem dX7_readLineOf_74 : decode cX7_readLineOf 74 = .ok (.iconst 1, 1) := by decide +kernel
theorem dX7_readLineOf_75 : decode cX7_readLineOf 75 = .ok (.iadd, 1) := by decide +kernel
theorem dX7_readLineOf_76 : decode cX7_readLineOf 76 = .ok (.putfield 60, 3) := by decide +kernel
theorem dX7_readLineOf_79 : decode cX7_readLineOf 79 = .ok (.goto 209, 3) := by decide +kernel
theorem dX7_readLineOf_82 : decode cX7_readLineOf 82 = .ok (.aload_n 0, 1) := by decide +kernel
theorem dX7_readLineOf_83 : decode cX7_readLineOf 83 = .ok (.iconst 0, 1) := by decide +kernel
theorem dX7_readLineOf_84 : decode cX7_readLineOf 84 = .ok (.iconst 5, 1) := by decide +kernel
theorem dX7_readLineOf_85 : decode cX7_readLineOf 85 = .ok (.invokevirtual 126, 3) := by decide +kernel
theorem dX7_readLineOf_88 : decode cX7_readLineOf 88 = .ok (.istore_n 2, 1) := by decide +kernel
theorem dX7_readLineOf_89 : decode cX7_readLineOf 89 = .ok (.aload_n 0, 1) := by decide +kernel
theorem dX7_readLineOf_90 : decode cX7_readLineOf 90 = .ok (.aload_n 0, 1) := by decide +kernel
theorem dX7_readLineOf_91 : decode cX7_readLineOf 91 = .ok (.getfield 63, 3) := by decide +kernel
theorem dX7_readLineOf_94 : decode cX7_readLineOf 94 = .ok (.iload_n 2, 1) := by decide +kernel
theorem dX7_readLineOf_95 : decode cX7_readLineOf 95 = .ok (.ishr, 1) := by decide +kernel
theorem dX7_readLineOf_96 : decode cX7_readLineOf 96 = .ok (.iconst 1, 1) := by decide +kernel
theorem dX7_readLineOf_97 : decode cX7_readLineOf 97 = .ok (.iand, 1) := by decide +kernel
theorem dX7_readLineOf_98 : decode cX7_readLineOf 98 = .ok (.ifCond .ne 7, 3) := by decide +kernel
theorem dX7_readLineOf_101 : decode cX7_readLineOf 101 = .ok (.iconst 1, 1) := by decide +kernel
theorem dX7_readLineOf_102 : decode cX7_readLineOf 102 = .ok (.goto 4, 3) := by decide +kernel
theorem dX7_readLineOf_105 : decode cX7_readLineOf 105 = .ok (.iconst 0, 1) := by decide +kernel
theorem dX7_readLineOf_106 : decode cX7_readLineOf 106 = .ok (.iconst 4, 1) := by decide +kernel
theorem dX7_readLineOf_107 : decode cX7_readLineOf 107 = .ok (.invokevirtual 122, 3) := by decide +kernel
theorem dX7_readLineOf_110 : decode cX7_readLineOf 110 = .ok (.aload_n 0, 1) := by decide +kernel
theorem dX7_readLineOf_111 : decode cX7_readLineOf 111 = .ok (.dup, 1) := by decide +kernel
theorem dX7_readLineOf_112 : decode cX7_readLineOf 112 = .ok (.getfield 63, 3) := by decide +kernel
theorem dX7_readLineOf_115 : decode cX7_readLineOf 115 = .ok (.iconst 1, 1) := by decide +kernel
theorem dX7_readLineOf_116 : decode cX7_readLineOf 116 = .ok (.iload_n 2, 1) := by decide +kernel
theorem dX7_readLineOf_117 : decode cX7_readLineOf 117 = .ok (.ishl, 1) := by decide +kernel
theorem dX7_readLineOf_118 : decode cX7_readLineOf 118 = .ok (.ior, 1) := by decide +kernel
theorem dX7_readLineOf_119 : decode cX7_readLineOf 119 = .ok (.putfield 63, 3) := by decide +kernel
theorem dX7_readLineOf_122 : decode cX7_readLineOf 122 = .ok (.aload_n 0, 1) := by decide +kernel
theorem dX7_readLineOf_123 : decode cX7_readLineOf 123 = .ok (.invokevirtual 130, 3) := by decide +kernel
theorem dX7_readLineOf_126 : decode cX7_readLineOf 126 = .ok (.aload_n 0, 1) := by decide +kernel
theorem dX7_readLineOf_127 : decode cX7_readLineOf 127 = .ok (.getfield 20, 3) := by decide +kernel
theorem dX7_readLineOf_130 : decode cX7_readLineOf 130 = .ok (.bipush 32, 2) := by decide +kernel
theorem dX7_readLineOf_132 : decode cX7_readLineOf 132 = .ok (.iload_n 2, 1) := by decide +kernel
theorem dX7_readLineOf_133 : decode cX7_readLineOf 133 = .ok (.iadd, 1) := by decide +kernel
theorem dX7_readLineOf_134 : decode cX7_readLineOf 134 = .ok (.aload_n 0, 1) := by decide +kernel
theorem dX7_readLineOf_135 : decode cX7_readLineOf 135 = .ok (.iconst 0, 1) := by decide +kernel
theorem dX7_readLineOf_136 : decode cX7_readLineOf 136 = .ok (.iconst 4, 1) := by decide +kernel
theorem dX7_readLineOf_137 : decode cX7_readLineOf 137 = .ok (.invokevirtual 143, 3) := by decide +kernel
theorem dX7_readLineOf_140 : decode cX7_readLineOf 140 = .ok (.iastore, 1) := by decide +kernel
theorem dX7_readLineOf_141 : decode cX7_readLineOf 141 = .ok (.goto 147, 3) := by decide +kernel
theorem dX7_readLineOf_144 : decode cX7_readLineOf 144 = .ok (.aload_n 0, 1) := by decide +kernel
theorem dX7_readLineOf_145 : decode cX7_readLineOf 145 = .ok (.iconst 0, 1) := by decide +kernel
theorem dX7_readLineOf_146 : decode cX7_readLineOf 146 = .ok (.iconst 3, 1) := by decide +kernel
theorem dX7_readLineOf_147 : decode cX7_readLineOf 147 = .ok (.invokevirtual 126, 3) := by decide +kernel
theorem dX7_readLineOf_150 : decode cX7_readLineOf 150 = .ok (.istore_n 2, 1) := by decide +kernel
theorem dX7_readLineOf_151 : decode cX7_readLineOf 151 = .ok (.aload_n 0, 1) := by decide +kernel
theorem dX7_readLineOf_152 : decode cX7_readLineOf 152 = .ok (.aload_n 0, 1) := by decide +kernel
theorem dX7_readLineOf_153 : decode cX7_readLineOf 153 = .ok (.getfield 66, 3) := by decide +kernel
theorem dX7_readLineOf_156 : decode cX7_readLineOf 156 = .ok (.iload_n 2, 1) := by decide +kernel
theorem dX7_readLineOf_157 : decode cX7_readLineOf 157 = .ok (.ishr, 1) := by decide +kernel
theorem dX7_readLineOf_158 : decode cX7_readLineOf 158 = .ok (.iconst 1, 1) := by decide +kernel
theorem dX7_readLineOf_159 : decode cX7_readLineOf 159 = .ok (.iand, 1) := by decide +kernel
theorem dX7_readLineOf_160 : decode cX7_readLineOf 160 = .ok (.ifCond .ne 7, 3) := by decide +kernel
theorem dX7_readLineOf_163 : decode cX7_readLineOf 163 = .ok (.iconst 1, 1) := by decide +kernel
theorem dX7_readLineOf_164 : decode cX7_readLineOf 164 = .ok (.goto 4, 3) := by decide +kernel
theorem dX7_readLineOf_167 : decode cX7_readLineOf 167 = .ok (.iconst 0, 1) := by decide +kernel
theorem dX7_readLineOf_168 : decode cX7_readLineOf 168 = .ok (.iconst 4, 1) := by decide +kernel
theorem dX7_readLineOf_169 : decode cX7_readLineOf 169 = .ok (.invokevirtual 122, 3) := by decide +kernel
theorem dX7_readLineOf_172 : decode cX7_readLineOf 172 = .ok (.aload_n 0, 1) := by decide +kernel
theorem dX7_readLineOf_173 : decode cX7_readLineOf 173 = .ok (.dup, 1) := by decide +kernel
theorem dX7_readLineOf_174 : decode cX7_readLineOf 174 = .ok (.getfield 66, 3) := by decide +kernel
theorem dX7_readLineOf_177 : decode cX7_readLineOf 177 = .ok (.iconst 1, 1) := by decide +kernel
theorem dX7_readLineOf_178 : decode cX7_readLineOf 178 = .ok (.iload_n 2, 1) := by decide +kernel
theorem dX7_readLineOf_179 : decode cX7_readLineOf 179 = .ok (.ishl, 1) := by decide +kernel
theorem dX7_readLineOf_180 : decode cX7_readLineOf 180 = .ok (.ior, 1) := by decide +kernel
theorem dX7_readLineOf_181 : decode cX7_readLineOf 181 = .ok (.putfield 66, 3) := by decide +kernel
theorem dX7_readLineOf_184 : decode cX7_readLineOf 184 = .ok (.aload_n 0, 1) := by decide +kernel
theorem dX7_readLineOf_185 : decode cX7_readLineOf 185 = .ok (.invokevirtual 130, 3) := by decide +kernel
theorem dX7_readLineOf_188 : decode cX7_readLineOf 188 = .ok (.aload_n 0, 1) := by decide +kernel
theorem dX7_readLineOf_189 : decode cX7_readLineOf 189 = .ok (.getfield 20, 3) := by decide +kernel
theorem dX7_readLineOf_192 : decode cX7_readLineOf 192 = .ok (.bipush 38, 2) := by decide +kernel
theorem dX7_readLineOf_194 : decode cX7_readLineOf 194 = .ok (.iload_n 2, 1) := by decide +kernel
theorem dX7_readLineOf_195 : decode cX7_readLineOf 195 = .ok (.iadd, 1) := by decide +kernel
theorem dX7_readLineOf_196 : decode cX7_readLineOf 196 = .ok (.aload_n 0, 1) := by decide +kernel
theorem dX7_readLineOf_197 : decode cX7_readLineOf 197 = .ok (.iconst 0, 1) := by decide +kernel
theorem dX7_readLineOf_198 : decode cX7_readLineOf 198 = .ok (.bipush 9, 2) := by decide +kernel
theorem dX7_readLineOf_200 : decode cX7_readLineOf 200 = .ok (.invokevirtual 143, 3) := by decide +kernel
theorem dX7_readLineOf_203 : decode cX7_readLineOf 203 = .ok (.iastore, 1) := by decide +kernel
theorem dX7_readLineOf_204 : decode cX7_readLineOf 204 = .ok (.goto 84, 3) := by decide +kernel
theorem dX7_readLineOf_207 : decode cX7_readLineOf 207 = .ok (.aload_n 0, 1) := by decide +kernel
theorem dX7_readLineOf_208 : decode cX7_readLineOf 208 = .ok (.getfield 20, 3) := by decide +kernel
theorem dX7_readLineOf_211 : decode cX7_readLineOf 211 = .ok (.iconst 4, 1) := by decide +kernel
theorem dX7_readLineOf_212 : decode cX7_readLineOf 212 = .ok (.aload_n 0, 1) := by decide +kernel
theorem dX7_readLineOf_213 : decode cX7_readLineOf 213 = .ok (.getfield 56, 3) := by decide +kernel
theorem dX7_readLineOf_216 : decode cX7_readLineOf 216 = .ok (.imul, 1) := by decide +kernel
theorem dX7_readLineOf_217 : decode cX7_readLineOf 217 = .ok (.iconst 0, 1) := by decide +kernel
theorem dX7_readLineOf_218 : decode cX7_readLineOf 218 = .ok (.iadd, 1) := by decide +kernel
theorem dX7_readLineOf_219 : decode cX7_readLineOf 219 = .ok (.iload_n 1, 1) := by decide +kernel
theorem dX7_readLineOf_220 : decode cX7_readLineOf 220 = .ok (.iastore, 1) := by decide +kernel
theorem dX7_readLineOf_221 : decode cX7_readLineOf 221 = .ok (.aload_n 0, 1) := by decide +kernel
theorem dX7_readLineOf_222 : decode cX7_readLineOf 222 = .ok (.getfield 20, 3) := by decide +kernel
theorem dX7_readLineOf_225 : decode cX7_readLineOf 225 = .ok (.iconst 4, 1) := by decide +kernel
theorem dX7_readLineOf_226 : decode cX7_readLineOf 226 = .ok (.aload_n 0, 1) := by decide +kernel
theorem dX7_readLineOf_227 : decode cX7_readLineOf 227 = .ok (.getfield 56, 3) := by decide +kernel
theorem dX7_readLineOf_230 : decode cX7_readLineOf 230 = .ok (.imul, 1) := by decide +kernel
theorem dX7_readLineOf_231 : decode cX7_readLineOf 231 = .ok (.iconst 1, 1) := by decide +kernel
theorem dX7_readLineOf_232 : decode cX7_readLineOf 232 = .ok (.iadd, 1) := by decide +kernel
theorem dX7_readLineOf_233 : decode cX7_readLineOf 233 = .ok (.aload_n 0, 1) := by decide +kernel
theorem dX7_readLineOf_234 : decode cX7_readLineOf 234 = .ok (.invokevirtual 140, 3) := by decide +kernel
theorem dX7_readLineOf_237 : decode cX7_readLineOf 237 = .ok (.iastore, 1) := by decide +kernel
theorem dX7_readLineOf_238 : decode cX7_readLineOf 238 = .ok (.aload_n 0, 1) := by decide +kernel
theorem dX7_readLineOf_239 : decode cX7_readLineOf 239 = .ok (.getfield 20, 3) := by decide +kernel
theorem dX7_readLineOf_242 : decode cX7_readLineOf 242 = .ok (.iconst 4, 1) := by decide +kernel
theorem dX7_readLineOf_243 : decode cX7_readLineOf 243 = .ok (.aload_n 0, 1) := by decide +kernel
theorem dX7_readLineOf_244 : decode cX7_readLineOf 244 = .ok (.getfield 56, 3) := by decide +kernel
theorem dX7_readLineOf_247 : decode cX7_readLineOf 247 = .ok (.imul, 1) := by decide +kernel
theorem dX7_readLineOf_248 : decode cX7_readLineOf 248 = .ok (.iconst 2, 1) := by decide +kernel
theorem dX7_readLineOf_249 : decode cX7_readLineOf 249 = .ok (.iadd, 1) := by decide +kernel
theorem dX7_readLineOf_250 : decode cX7_readLineOf 250 = .ok (.aload_n 0, 1) := by decide +kernel
theorem dX7_readLineOf_251 : decode cX7_readLineOf 251 = .ok (.iconst 1, 1) := by decide +kernel
theorem dX7_readLineOf_252 : decode cX7_readLineOf 252 = .ok (.bipush 9, 2) := by decide +kernel
theorem dX7_readLineOf_254 : decode cX7_readLineOf 254 = .ok (.invokevirtual 143, 3) := by decide +kernel
theorem dX7_readLineOf_257 : decode cX7_readLineOf 257 = .ok (.iastore, 1) := by decide +kernel
theorem dX7_readLineOf_258 : decode cX7_readLineOf 258 = .ok (.aload_n 0, 1) := by decide +kernel
theorem dX7_readLineOf_259 : decode cX7_readLineOf 259 = .ok (.getfield 20, 3) := by decide +kernel
theorem dX7_readLineOf_262 : decode cX7_readLineOf 262 = .ok (.iconst 4, 1) := by decide +kernel
theorem dX7_readLineOf_263 : decode cX7_readLineOf 263 = .ok (.aload_n 0, 1) := by decide +kernel
theorem dX7_readLineOf_264 : decode cX7_readLineOf 264 = .ok (.getfield 56, 3) := by decide +kernel
theorem dX7_readLineOf_267 : decode cX7_readLineOf 267 = .ok (.imul, 1) := by decide +kernel
theorem dX7_readLineOf_268 : decode cX7_readLineOf 268 = .ok (.iconst 3, 1) := by decide +kernel
theorem dX7_readLineOf_269 : decode cX7_readLineOf 269 = .ok (.iadd, 1) := by decide +kernel
theorem dX7_readLineOf_270 : decode cX7_readLineOf 270 = .ok (.aload_n 0, 1) := by decide +kernel
theorem dX7_readLineOf_271 : decode cX7_readLineOf 271 = .ok (.iconst 0, 1) := by decide +kernel
theorem dX7_readLineOf_272 : decode cX7_readLineOf 272 = .ok (.bipush 99, 2) := by decide +kernel
theorem dX7_readLineOf_274 : decode cX7_readLineOf 274 = .ok (.invokevirtual 143, 3) := by decide +kernel
theorem dX7_readLineOf_277 : decode cX7_readLineOf 277 = .ok (.iastore, 1) := by decide +kernel
theorem dX7_readLineOf_278 : decode cX7_readLineOf 278 = .ok (.aload_n 0, 1) := by decide +kernel
theorem dX7_readLineOf_279 : decode cX7_readLineOf 279 = .ok (.dup, 1) := by decide +kernel
theorem dX7_readLineOf_280 : decode cX7_readLineOf 280 = .ok (.getfield 56, 3) := by decide +kernel
theorem dX7_readLineOf_283 : decode cX7_readLineOf 283 = .ok (.iconst 1, 1) := by decide +kernel
theorem dX7_readLineOf_284 : decode cX7_readLineOf 284 = .ok (.iadd, 1) := by decide +kernel
theorem dX7_readLineOf_285 : decode cX7_readLineOf 285 = .ok (.putfield 56, 3) := by decide +kernel
theorem dX7_readLineOf_288 : decode cX7_readLineOf 288 = .ok (.return_, 1) := by decide +kernel
def f_X7_readLineOf_J106 (v2 : Int32) (k0 : Int32) (s : St) : Option (Unit × St) := cl (f_X7_needs k0 (nI 4) s) (fun x36 s35 => bd (wI s35 189 8 ((s35.1 189 8) ||| ((nI 1) <<< (v2 &&& 31)))) (fun s37 => cl (f_X7_takes s37) (fun x39 s38 => cl (f_X7_readNumber (nI 0) (nI 4) s38) (fun x41 s40 => if inb ((nI 32) + v2) (lnI 193) = true then bd (wI s40 193 (((nI 32) + v2)).toNatClampNeg x41) (fun s43 => some (((), s43))) else none))))
def f_X7_readLineOf_J168 (v2 : Int32) (k0 : Int32) (s : St) : Option (Unit × St) := cl (f_X7_needs k0 (nI 4) s) (fun x45 s44 => bd (wI s44 189 9 ((s44.1 189 9) ||| ((nI 1) <<< (v2 &&& 31)))) (fun s46 => cl (f_X7_takes s46) (fun x48 s47 => cl (f_X7_readNumber (nI 0) (nI 9) s47) (fun x50 s49 => if inb ((nI 38) + v2) (lnI 193) = true then bd (wI s49 193 (((nI 38) + v2)).toNatClampNeg x50) (fun s52 => some (((), s52))) else none))))
def f_X7_readLineOf (a1 : Int32) (s : St) : Option (Unit × St) := if a1 = (nI 4) then (cl (f_X7_readCell s) (fun x3 s2 => if inb ((nI 12) + ((nI 2) * (s.1 189 7))) (lnI 193) = true then bd (wI s2 193 (((nI 12) + ((nI 2) * (s.1 189 7)))).toNatClampNeg x3) (fun s5 => cl (f_X7_readNumber (nI 0) (nI 9) s5) (fun x7 s6 => if inb (((nI 12) + ((nI 2) * (s5.1 189 7))) + (nI 1)) (lnI 193) = true then bd (wI s6 193 ((((nI 12) + ((nI 2) * (s5.1 189 7))) + (nI 1))).toNatClampNeg x7) (fun s9 => bd (wI s9 189 7 ((s9.1 189 7) + (nI 1))) (fun s10 => some (((), s10)))) else none)) else none)) else (if a1 = (nI 5) then (cl (f_X7_looked (nI 0) (nI 5) s) (fun x13 s12 => if ¬ (((s12.1 189 8) >>> (x13 &&& 31)) &&& (nI 1)) = 0 then (f_X7_readLineOf_J106 x13 (nI 0) s12) else (f_X7_readLineOf_J106 x13 (nI 1) s12))) else (if a1 = (nI 6) then (cl (f_X7_looked (nI 0) (nI 3) s) (fun x17 s16 => if ¬ (((s16.1 189 9) >>> (x17 &&& 31)) &&& (nI 1)) = 0 then (f_X7_readLineOf_J168 x17 (nI 0) s16) else (f_X7_readLineOf_J168 x17 (nI 1) s16))) else (if (a1).toInt < 4 ∨ 6 < (a1).toInt then (if inb (((nI 4) * (s.1 189 6)) + (nI 0)) (lnI 193) = true then bd (wI s 193 ((((nI 4) * (s.1 189 6)) + (nI 0))).toNatClampNeg a1) (fun s21 => cl (f_X7_readCell s21) (fun x23 s22 => if inb (((nI 4) * (s21.1 189 6)) + (nI 1)) (lnI 193) = true then bd (wI s22 193 ((((nI 4) * (s21.1 189 6)) + (nI 1))).toNatClampNeg x23) (fun s25 => cl (f_X7_readNumber (nI 1) (nI 9) s25) (fun x27 s26 => if inb (((nI 4) * (s25.1 189 6)) + (nI 2)) (lnI 193) = true then bd (wI s26 193 ((((nI 4) * (s25.1 189 6)) + (nI 2))).toNatClampNeg x27) (fun s29 => cl (f_X7_readNumber (nI 0) (nI 99) s29) (fun x31 s30 => if inb (((nI 4) * (s29.1 189 6)) + (nI 3)) (lnI 193) = true then bd (wI s30 193 ((((nI 4) * (s29.1 189 6)) + (nI 3))).toNatClampNeg x31) (fun s33 => bd (wI s33 189 6 ((s33.1 189 6) + (nI 1))) (fun s34 => some (((), s34)))) else none)) else none)) else none)) else none) else none)))
set_option maxHeartbeats 4000000 in
set_option maxRecDepth 100000 in
theorem e_X7_readLineOf_J106 {X : Cx} {Γ : Gm} {r0 : Rb} (hX : Amb X Γ cX7_readLineOf RX7 3 none 3) {v2 : Int32} {k0 : Int32} {s : St} {t : Unit × St} (h : f_X7_readLineOf_J106 v2 k0 s = some t) (hk : (fun t : Unit × St => Rt X Γ r0 (none, t.2)) t) : Zw X Γ 3 r0 s 106 [(0, .ref (gL Γ (189))), (2, .int v2)] [.int k0, .ref (gL Γ (189))] := by
  unfold f_X7_readLineOf_J106 at h
  refine z_iconst hX (v := (nI 4)) dX7_readLineOf_106 rfl 107 rfl ?_
  replace h := cl_elim h
  obtain ⟨x36, s35, hx36, h⟩ := h
  refine z_cV7v hX (b := 189) (As := [.int k0, .int ((nI 4))]) (c_X7_needs hx36) lk_X7_122 rfl kdc_189 ds_X7_needs rfl (by decide) (by decide) (by decide) dX7_readLineOf_107 rfl 110 rfl ?_
  refine z_aload_n hX dX7_readLineOf_110 0 rfl 111 rfl ?_
  refine z_dup hX dX7_readLineOf_111 rfl 112 rfl ?_
  refine z_get7 hX (k := 189) (j := 8) (v := .int ((s35.1 189 8))) kdc_189 (by decide) rfl dX7_readLineOf_112 fl_X7_63 115 rfl ?_
  refine z_iconst hX (v := (nI 1)) dX7_readLineOf_115 rfl 116 rfl ?_
  refine z_iload_n hX dX7_readLineOf_116 1 rfl 117 rfl ?_
  refine z_ishl hX dX7_readLineOf_117 118 rfl ?_
  refine z_ior hX dX7_readLineOf_118 119 rfl ?_
  replace h := bd_elim h
  obtain ⟨s37, es37, h⟩ := h
  refine z_putI7 hX (k := 189) (j := 8) kdc_189 (by decide) rfl (by decide +kernel) (pwI_7_8 ..) dX7_readLineOf_119 fl_X7_63 es37 122 rfl ?_
  refine z_aload_n hX dX7_readLineOf_122 0 rfl 123 rfl ?_
  replace h := cl_elim h
  obtain ⟨x39, s38, hx39, h⟩ := h
  refine z_cV7v hX (b := 189) (As := []) (c_X7_takes hx39) lk_X7_130 rfl kdc_189 ds_X7_takes rfl (by decide) (by decide) (by decide) dX7_readLineOf_123 rfl 126 rfl ?_
  refine z_aload_n hX dX7_readLineOf_126 0 rfl 127 rfl ?_
  refine z_get7 hX (k := 189) (j := 5) (v := .ref (gL Γ (193))) kdc_189 (by decide) rfl dX7_readLineOf_127 fl_X7_20 130 rfl ?_
  refine z_bipush hX (v := (nI 32)) dX7_readLineOf_130 (by decide) 132 rfl ?_
  refine z_iload_n hX dX7_readLineOf_132 1 rfl 133 rfl ?_
  refine z_iadd hX dX7_readLineOf_133 134 rfl ?_
  refine z_aload_n hX dX7_readLineOf_134 0 rfl 135 rfl ?_
  refine z_iconst hX (v := (nI 0)) dX7_readLineOf_135 rfl 136 rfl ?_
  refine z_iconst hX (v := (nI 4)) dX7_readLineOf_136 rfl 137 rfl ?_
  replace h := cl_elim h
  obtain ⟨x41, s40, hx41, h⟩ := h
  refine z_cV7i hX (b := 189) (As := [.int ((nI 0)), .int ((nI 4))]) (c_X7_readNumber hx41) lk_X7_143 rfl kdc_189 ds_X7_readNumber rfl (by decide) (by decide) (Nat.le_of_ble_eq_true rfl) dX7_readLineOf_137 rfl 140 rfl ?_
  replace h := gd_elim h
  obtain ⟨g42, h⟩ := h
  replace h := bd_elim h
  obtain ⟨s43, es43, h⟩ := h
  refine z_iast hX (inb_vp g42) dX7_readLineOf_140 es43 141 rfl ?_
  refine z_goto hX 288 dX7_readLineOf_141 (by decide) ?_
  replace h := Option.some.inj h
  subst h
  exact z_vret hX dX7_readLineOf_288 rfl hk
set_option maxHeartbeats 4000000 in
set_option maxRecDepth 100000 in
theorem e_X7_readLineOf_J168 {X : Cx} {Γ : Gm} {r0 : Rb} (hX : Amb X Γ cX7_readLineOf RX7 3 none 3) {v2 : Int32} {k0 : Int32} {s : St} {t : Unit × St} (h : f_X7_readLineOf_J168 v2 k0 s = some t) (hk : (fun t : Unit × St => Rt X Γ r0 (none, t.2)) t) : Zw X Γ 3 r0 s 168 [(0, .ref (gL Γ (189))), (2, .int v2)] [.int k0, .ref (gL Γ (189))] := by
  unfold f_X7_readLineOf_J168 at h
  refine z_iconst hX (v := (nI 4)) dX7_readLineOf_168 rfl 169 rfl ?_
  replace h := cl_elim h
  obtain ⟨x45, s44, hx45, h⟩ := h
  refine z_cV7v hX (b := 189) (As := [.int k0, .int ((nI 4))]) (c_X7_needs hx45) lk_X7_122 rfl kdc_189 ds_X7_needs rfl (by decide) (by decide) (by decide) dX7_readLineOf_169 rfl 172 rfl ?_
  refine z_aload_n hX dX7_readLineOf_172 0 rfl 173 rfl ?_
  refine z_dup hX dX7_readLineOf_173 rfl 174 rfl ?_
  refine z_get7 hX (k := 189) (j := 9) (v := .int ((s44.1 189 9))) kdc_189 (by decide) rfl dX7_readLineOf_174 fl_X7_66 177 rfl ?_
  refine z_iconst hX (v := (nI 1)) dX7_readLineOf_177 rfl 178 rfl ?_
  refine z_iload_n hX dX7_readLineOf_178 1 rfl 179 rfl ?_
  refine z_ishl hX dX7_readLineOf_179 180 rfl ?_
  refine z_ior hX dX7_readLineOf_180 181 rfl ?_
  replace h := bd_elim h
  obtain ⟨s46, es46, h⟩ := h
  refine z_putI7 hX (k := 189) (j := 9) kdc_189 (by decide) rfl (by decide +kernel) (pwI_7_9 ..) dX7_readLineOf_181 fl_X7_66 es46 184 rfl ?_
  refine z_aload_n hX dX7_readLineOf_184 0 rfl 185 rfl ?_
  replace h := cl_elim h
  obtain ⟨x48, s47, hx48, h⟩ := h
  refine z_cV7v hX (b := 189) (As := []) (c_X7_takes hx48) lk_X7_130 rfl kdc_189 ds_X7_takes rfl (by decide) (by decide) (by decide) dX7_readLineOf_185 rfl 188 rfl ?_
  refine z_aload_n hX dX7_readLineOf_188 0 rfl 189 rfl ?_
  refine z_get7 hX (k := 189) (j := 5) (v := .ref (gL Γ (193))) kdc_189 (by decide) rfl dX7_readLineOf_189 fl_X7_20 192 rfl ?_
  refine z_bipush hX (v := (nI 38)) dX7_readLineOf_192 (by decide) 194 rfl ?_
  refine z_iload_n hX dX7_readLineOf_194 1 rfl 195 rfl ?_
  refine z_iadd hX dX7_readLineOf_195 196 rfl ?_
  refine z_aload_n hX dX7_readLineOf_196 0 rfl 197 rfl ?_
  refine z_iconst hX (v := (nI 0)) dX7_readLineOf_197 rfl 198 rfl ?_
  refine z_bipush hX (v := (nI 9)) dX7_readLineOf_198 (by decide) 200 rfl ?_
  replace h := cl_elim h
  obtain ⟨x50, s49, hx50, h⟩ := h
  refine z_cV7i hX (b := 189) (As := [.int ((nI 0)), .int ((nI 9))]) (c_X7_readNumber hx50) lk_X7_143 rfl kdc_189 ds_X7_readNumber rfl (by decide) (by decide) (Nat.le_of_ble_eq_true rfl) dX7_readLineOf_200 rfl 203 rfl ?_
  replace h := gd_elim h
  obtain ⟨g51, h⟩ := h
  replace h := bd_elim h
  obtain ⟨s52, es52, h⟩ := h
  refine z_iast hX (inb_vp g51) dX7_readLineOf_203 es52 204 rfl ?_
  refine z_goto hX 288 dX7_readLineOf_204 (by decide) ?_
  replace h := Option.some.inj h
  subst h
  exact z_vret hX dX7_readLineOf_288 rfl hk
set_option maxHeartbeats 4000000 in
set_option maxRecDepth 100000 in
theorem e_X7_readLineOf {X : Cx} {Γ : Gm} {r0 : Rb} (hX : Amb X Γ cX7_readLineOf RX7 3 none 3) {a1 : Int32} {s : St} {t : Unit × St} (h : f_X7_readLineOf a1 s = some t) (hk : (fun t : Unit × St => Rt X Γ r0 (none, t.2)) t) : Zw X Γ 3 r0 s 0 [(0, .ref (gL Γ (189))), (1, .int a1)] [] := by
  unfold f_X7_readLineOf at h
  refine z_iconst hX (v := (nI 0)) dX7_readLineOf_0 rfl 1 rfl ?_
  refine z_istore_n hX (lv2 := [(2, .int ((nI 0))), (0, .ref (gL Γ (189))), (1, .int a1)]) dX7_readLineOf_1 (by decide) rfl 2 rfl ?_
  refine z_iload_n hX dX7_readLineOf_2 2 rfl 3 rfl ?_
  by_cases c1 : a1 = (nI 4)
  · replace h := br_pos h c1
    refine z_tcase hX (off := 25) 28 dX7_readLineOf_3 (nI 4) c1 (by decide) (by decide) ?_
    refine z_aload_n hX dX7_readLineOf_28 1 rfl 29 rfl ?_
    refine z_get7 hX (k := 189) (j := 5) (v := .ref (gL Γ (193))) kdc_189 (by decide) rfl dX7_readLineOf_29 fl_X7_20 32 rfl ?_
    refine z_bipush hX (v := (nI 12)) dX7_readLineOf_32 (by decide) 34 rfl ?_
    refine z_iconst hX (v := (nI 2)) dX7_readLineOf_34 rfl 35 rfl ?_
    refine z_aload_n hX dX7_readLineOf_35 1 rfl 36 rfl ?_
    refine z_get7 hX (k := 189) (j := 7) (v := .int ((s.1 189 7))) kdc_189 (by decide) rfl dX7_readLineOf_36 fl_X7_60 39 rfl ?_
    refine z_imul hX dX7_readLineOf_39 40 rfl ?_
    refine z_iadd hX dX7_readLineOf_40 41 rfl ?_
    refine z_aload_n hX dX7_readLineOf_41 1 rfl 42 rfl ?_
    replace h := cl_elim h
    obtain ⟨x3, s2, hx3, h⟩ := h
    refine z_cV7i hX (b := 189) (As := []) (c_X7_readCell hx3) lk_X7_140 rfl kdc_189 ds_X7_readCell rfl (by decide) (by decide) (Nat.le_of_ble_eq_true rfl) dX7_readLineOf_42 rfl 45 rfl ?_
    replace h := gd_elim h
    obtain ⟨g4, h⟩ := h
    replace h := bd_elim h
    obtain ⟨s5, es5, h⟩ := h
    refine z_iast hX (inb_vp g4) dX7_readLineOf_45 es5 46 rfl ?_
    refine z_aload_n hX dX7_readLineOf_46 1 rfl 47 rfl ?_
    refine z_get7 hX (k := 189) (j := 5) (v := .ref (gL Γ (193))) kdc_189 (by decide) rfl dX7_readLineOf_47 fl_X7_20 50 rfl ?_
    refine z_bipush hX (v := (nI 12)) dX7_readLineOf_50 (by decide) 52 rfl ?_
    refine z_iconst hX (v := (nI 2)) dX7_readLineOf_52 rfl 53 rfl ?_
    refine z_aload_n hX dX7_readLineOf_53 1 rfl 54 rfl ?_
    refine z_get7 hX (k := 189) (j := 7) (v := .int ((s5.1 189 7))) kdc_189 (by decide) rfl dX7_readLineOf_54 fl_X7_60 57 rfl ?_
    refine z_imul hX dX7_readLineOf_57 58 rfl ?_
    refine z_iadd hX dX7_readLineOf_58 59 rfl ?_
    refine z_iconst hX (v := (nI 1)) dX7_readLineOf_59 rfl 60 rfl ?_
    refine z_iadd hX dX7_readLineOf_60 61 rfl ?_
    refine z_aload_n hX dX7_readLineOf_61 1 rfl 62 rfl ?_
    refine z_iconst hX (v := (nI 0)) dX7_readLineOf_62 rfl 63 rfl ?_
    refine z_bipush hX (v := (nI 9)) dX7_readLineOf_63 (by decide) 65 rfl ?_
    replace h := cl_elim h
    obtain ⟨x7, s6, hx7, h⟩ := h
    refine z_cV7i hX (b := 189) (As := [.int ((nI 0)), .int ((nI 9))]) (c_X7_readNumber hx7) lk_X7_143 rfl kdc_189 ds_X7_readNumber rfl (by decide) (by decide) (Nat.le_of_ble_eq_true rfl) dX7_readLineOf_65 rfl 68 rfl ?_
    replace h := gd_elim h
    obtain ⟨g8, h⟩ := h
    replace h := bd_elim h
    obtain ⟨s9, es9, h⟩ := h
    refine z_iast hX (inb_vp g8) dX7_readLineOf_68 es9 69 rfl ?_
    refine z_aload_n hX dX7_readLineOf_69 1 rfl 70 rfl ?_
    refine z_dup hX dX7_readLineOf_70 rfl 71 rfl ?_
    refine z_get7 hX (k := 189) (j := 7) (v := .int ((s9.1 189 7))) kdc_189 (by decide) rfl dX7_readLineOf_71 fl_X7_60 74 rfl ?_
    refine z_iconst hX (v := (nI 1)) dX7_readLineOf_74 rfl 75 rfl ?_
    refine z_iadd hX dX7_readLineOf_75 76 rfl ?_
    replace h := bd_elim h
    obtain ⟨s10, es10, h⟩ := h
    refine z_putI7 hX (k := 189) (j := 7) kdc_189 (by decide) rfl (by decide +kernel) (pwI_7_7 ..) dX7_readLineOf_76 fl_X7_60 es10 79 rfl ?_
    refine z_goto hX 288 dX7_readLineOf_79 (by decide) ?_
    replace h := Option.some.inj h
    subst h
    exact z_vret hX dX7_readLineOf_288 rfl hk
  replace h := br_neg h c1
  by_cases c11 : a1 = (nI 5)
  · replace h := br_pos h c11
    refine z_tcase hX (off := 79) 82 dX7_readLineOf_3 (nI 5) c11 (by decide) (by decide) ?_
    refine z_aload_n hX dX7_readLineOf_82 1 rfl 83 rfl ?_
    refine z_iconst hX (v := (nI 0)) dX7_readLineOf_83 rfl 84 rfl ?_
    refine z_iconst hX (v := (nI 5)) dX7_readLineOf_84 rfl 85 rfl ?_
    replace h := cl_elim h
    obtain ⟨x13, s12, hx13, h⟩ := h
    refine z_cV7i hX (b := 189) (As := [.int ((nI 0)), .int ((nI 5))]) (c_X7_looked hx13) lk_X7_126 rfl kdc_189 ds_X7_looked rfl (by decide) (by decide) (by decide) dX7_readLineOf_85 rfl 88 rfl ?_
    refine z_istore_n hX (lv2 := [(2, .int x13), (0, .ref (gL Γ (189))), (1, .int a1)]) dX7_readLineOf_88 (by decide) rfl 89 rfl ?_
    refine z_aload_n hX dX7_readLineOf_89 1 rfl 90 rfl ?_
    refine z_aload_n hX dX7_readLineOf_90 1 rfl 91 rfl ?_
    refine z_get7 hX (k := 189) (j := 8) (v := .int ((s12.1 189 8))) kdc_189 (by decide) rfl dX7_readLineOf_91 fl_X7_63 94 rfl ?_
    refine z_iload_n hX dX7_readLineOf_94 0 rfl 95 rfl ?_
    refine z_ishr hX dX7_readLineOf_95 96 rfl ?_
    refine z_iconst hX (v := (nI 1)) dX7_readLineOf_96 rfl 97 rfl ?_
    refine z_iand hX dX7_readLineOf_97 98 rfl ?_
    refine z_if_ne hX 105 dX7_readLineOf_98 (by decide) 101 rfl (fun c14 => ?_) (fun c14 => ?_)
    · replace h := br_pos h c14
      refine z_iconst hX (v := (nI 0)) dX7_readLineOf_105 rfl 106 rfl ?_
      exact z_sub [1, 0] rfl (e_X7_readLineOf_J106 hX h hk)
    · replace h := br_neg h c14
      refine z_iconst hX (v := (nI 1)) dX7_readLineOf_101 rfl 102 rfl ?_
      refine z_goto hX 106 dX7_readLineOf_102 (by decide) ?_
      exact z_sub [1, 0] rfl (e_X7_readLineOf_J106 hX h hk)
  replace h := br_neg h c11
  by_cases c15 : a1 = (nI 6)
  · replace h := br_pos h c15
    refine z_tcase hX (off := 141) 144 dX7_readLineOf_3 (nI 6) c15 (by decide) (by decide) ?_
    refine z_aload_n hX dX7_readLineOf_144 1 rfl 145 rfl ?_
    refine z_iconst hX (v := (nI 0)) dX7_readLineOf_145 rfl 146 rfl ?_
    refine z_iconst hX (v := (nI 3)) dX7_readLineOf_146 rfl 147 rfl ?_
    replace h := cl_elim h
    obtain ⟨x17, s16, hx17, h⟩ := h
    refine z_cV7i hX (b := 189) (As := [.int ((nI 0)), .int ((nI 3))]) (c_X7_looked hx17) lk_X7_126 rfl kdc_189 ds_X7_looked rfl (by decide) (by decide) (by decide) dX7_readLineOf_147 rfl 150 rfl ?_
    refine z_istore_n hX (lv2 := [(2, .int x17), (0, .ref (gL Γ (189))), (1, .int a1)]) dX7_readLineOf_150 (by decide) rfl 151 rfl ?_
    refine z_aload_n hX dX7_readLineOf_151 1 rfl 152 rfl ?_
    refine z_aload_n hX dX7_readLineOf_152 1 rfl 153 rfl ?_
    refine z_get7 hX (k := 189) (j := 9) (v := .int ((s16.1 189 9))) kdc_189 (by decide) rfl dX7_readLineOf_153 fl_X7_66 156 rfl ?_
    refine z_iload_n hX dX7_readLineOf_156 0 rfl 157 rfl ?_
    refine z_ishr hX dX7_readLineOf_157 158 rfl ?_
    refine z_iconst hX (v := (nI 1)) dX7_readLineOf_158 rfl 159 rfl ?_
    refine z_iand hX dX7_readLineOf_159 160 rfl ?_
    refine z_if_ne hX 167 dX7_readLineOf_160 (by decide) 163 rfl (fun c18 => ?_) (fun c18 => ?_)
    · replace h := br_pos h c18
      refine z_iconst hX (v := (nI 0)) dX7_readLineOf_167 rfl 168 rfl ?_
      exact z_sub [1, 0] rfl (e_X7_readLineOf_J168 hX h hk)
    · replace h := br_neg h c18
      refine z_iconst hX (v := (nI 1)) dX7_readLineOf_163 rfl 164 rfl ?_
      refine z_goto hX 168 dX7_readLineOf_164 (by decide) ?_
      exact z_sub [1, 0] rfl (e_X7_readLineOf_J168 hX h hk)
  replace h := br_neg h c15
  replace h := gd_elim h
  obtain ⟨g19, h⟩ := h
  refine z_tdef hX 207 dX7_readLineOf_3 g19 (by decide) ?_
  refine z_aload_n hX dX7_readLineOf_207 1 rfl 208 rfl ?_
  refine z_get7 hX (k := 189) (j := 5) (v := .ref (gL Γ (193))) kdc_189 (by decide) rfl dX7_readLineOf_208 fl_X7_20 211 rfl ?_
  refine z_iconst hX (v := (nI 4)) dX7_readLineOf_211 rfl 212 rfl ?_
  refine z_aload_n hX dX7_readLineOf_212 1 rfl 213 rfl ?_
  refine z_get7 hX (k := 189) (j := 6) (v := .int ((s.1 189 6))) kdc_189 (by decide) rfl dX7_readLineOf_213 fl_X7_56 216 rfl ?_
  refine z_imul hX dX7_readLineOf_216 217 rfl ?_
  refine z_iconst hX (v := (nI 0)) dX7_readLineOf_217 rfl 218 rfl ?_
  refine z_iadd hX dX7_readLineOf_218 219 rfl ?_
  refine z_iload_n hX dX7_readLineOf_219 2 rfl 220 rfl ?_
  replace h := gd_elim h
  obtain ⟨g20, h⟩ := h
  replace h := bd_elim h
  obtain ⟨s21, es21, h⟩ := h
  refine z_iast hX (inb_vp g20) dX7_readLineOf_220 es21 221 rfl ?_
  refine z_aload_n hX dX7_readLineOf_221 1 rfl 222 rfl ?_
  refine z_get7 hX (k := 189) (j := 5) (v := .ref (gL Γ (193))) kdc_189 (by decide) rfl dX7_readLineOf_222 fl_X7_20 225 rfl ?_
  refine z_iconst hX (v := (nI 4)) dX7_readLineOf_225 rfl 226 rfl ?_
  refine z_aload_n hX dX7_readLineOf_226 1 rfl 227 rfl ?_
  refine z_get7 hX (k := 189) (j := 6) (v := .int ((s21.1 189 6))) kdc_189 (by decide) rfl dX7_readLineOf_227 fl_X7_56 230 rfl ?_
  refine z_imul hX dX7_readLineOf_230 231 rfl ?_
  refine z_iconst hX (v := (nI 1)) dX7_readLineOf_231 rfl 232 rfl ?_
  refine z_iadd hX dX7_readLineOf_232 233 rfl ?_
  refine z_aload_n hX dX7_readLineOf_233 1 rfl 234 rfl ?_
  replace h := cl_elim h
  obtain ⟨x23, s22, hx23, h⟩ := h
  refine z_cV7i hX (b := 189) (As := []) (c_X7_readCell hx23) lk_X7_140 rfl kdc_189 ds_X7_readCell rfl (by decide) (by decide) (Nat.le_of_ble_eq_true rfl) dX7_readLineOf_234 rfl 237 rfl ?_
  replace h := gd_elim h
  obtain ⟨g24, h⟩ := h
  replace h := bd_elim h
  obtain ⟨s25, es25, h⟩ := h
  refine z_iast hX (inb_vp g24) dX7_readLineOf_237 es25 238 rfl ?_
  refine z_aload_n hX dX7_readLineOf_238 1 rfl 239 rfl ?_
  refine z_get7 hX (k := 189) (j := 5) (v := .ref (gL Γ (193))) kdc_189 (by decide) rfl dX7_readLineOf_239 fl_X7_20 242 rfl ?_
  refine z_iconst hX (v := (nI 4)) dX7_readLineOf_242 rfl 243 rfl ?_
  refine z_aload_n hX dX7_readLineOf_243 1 rfl 244 rfl ?_
  refine z_get7 hX (k := 189) (j := 6) (v := .int ((s25.1 189 6))) kdc_189 (by decide) rfl dX7_readLineOf_244 fl_X7_56 247 rfl ?_
  refine z_imul hX dX7_readLineOf_247 248 rfl ?_
  refine z_iconst hX (v := (nI 2)) dX7_readLineOf_248 rfl 249 rfl ?_
  refine z_iadd hX dX7_readLineOf_249 250 rfl ?_
  refine z_aload_n hX dX7_readLineOf_250 1 rfl 251 rfl ?_
  refine z_iconst hX (v := (nI 1)) dX7_readLineOf_251 rfl 252 rfl ?_
  refine z_bipush hX (v := (nI 9)) dX7_readLineOf_252 (by decide) 254 rfl ?_
  replace h := cl_elim h
  obtain ⟨x27, s26, hx27, h⟩ := h
  refine z_cV7i hX (b := 189) (As := [.int ((nI 1)), .int ((nI 9))]) (c_X7_readNumber hx27) lk_X7_143 rfl kdc_189 ds_X7_readNumber rfl (by decide) (by decide) (Nat.le_of_ble_eq_true rfl) dX7_readLineOf_254 rfl 257 rfl ?_
  replace h := gd_elim h
  obtain ⟨g28, h⟩ := h
  replace h := bd_elim h
  obtain ⟨s29, es29, h⟩ := h
  refine z_iast hX (inb_vp g28) dX7_readLineOf_257 es29 258 rfl ?_
  refine z_aload_n hX dX7_readLineOf_258 1 rfl 259 rfl ?_
  refine z_get7 hX (k := 189) (j := 5) (v := .ref (gL Γ (193))) kdc_189 (by decide) rfl dX7_readLineOf_259 fl_X7_20 262 rfl ?_
  refine z_iconst hX (v := (nI 4)) dX7_readLineOf_262 rfl 263 rfl ?_
  refine z_aload_n hX dX7_readLineOf_263 1 rfl 264 rfl ?_
  refine z_get7 hX (k := 189) (j := 6) (v := .int ((s29.1 189 6))) kdc_189 (by decide) rfl dX7_readLineOf_264 fl_X7_56 267 rfl ?_
  refine z_imul hX dX7_readLineOf_267 268 rfl ?_
  refine z_iconst hX (v := (nI 3)) dX7_readLineOf_268 rfl 269 rfl ?_
  refine z_iadd hX dX7_readLineOf_269 270 rfl ?_
  refine z_aload_n hX dX7_readLineOf_270 1 rfl 271 rfl ?_
  refine z_iconst hX (v := (nI 0)) dX7_readLineOf_271 rfl 272 rfl ?_
  refine z_bipush hX (v := (nI 99)) dX7_readLineOf_272 (by decide) 274 rfl ?_
  replace h := cl_elim h
  obtain ⟨x31, s30, hx31, h⟩ := h
  refine z_cV7i hX (b := 189) (As := [.int ((nI 0)), .int ((nI 99))]) (c_X7_readNumber hx31) lk_X7_143 rfl kdc_189 ds_X7_readNumber rfl (by decide) (by decide) (Nat.le_of_ble_eq_true rfl) dX7_readLineOf_274 rfl 277 rfl ?_
  replace h := gd_elim h
  obtain ⟨g32, h⟩ := h
  replace h := bd_elim h
  obtain ⟨s33, es33, h⟩ := h
  refine z_iast hX (inb_vp g32) dX7_readLineOf_277 es33 278 rfl ?_
  refine z_aload_n hX dX7_readLineOf_278 1 rfl 279 rfl ?_
  refine z_dup hX dX7_readLineOf_279 rfl 280 rfl ?_
  refine z_get7 hX (k := 189) (j := 6) (v := .int ((s33.1 189 6))) kdc_189 (by decide) rfl dX7_readLineOf_280 fl_X7_56 283 rfl ?_
  refine z_iconst hX (v := (nI 1)) dX7_readLineOf_283 rfl 284 rfl ?_
  refine z_iadd hX dX7_readLineOf_284 285 rfl ?_
  replace h := bd_elim h
  obtain ⟨s34, es34, h⟩ := h
  refine z_putI7 hX (k := 189) (j := 6) kdc_189 (by decide) rfl (by decide +kernel) (pwI_7_6 ..) dX7_readLineOf_285 fl_X7_56 es34 288 rfl ?_
  replace h := Option.some.inj h
  subst h
  exact z_vret hX dX7_readLineOf_288 rfl hk
theorem c_X7_readLineOf {lc : Launch} {Γ : Gm} {a1 : Int32} {s s2 : St} {v : Unit} (h : f_X7_readLineOf a1 s = some (v, s2)) : Ct lc Γ yX7_readLineOf cX7_readLineOf 3 none 3 [.ref (gL Γ (189)), .int a1] s (none, s2) := Ct.of (by decide +kernel) (Nat.le_of_ble_eq_true rfl) (fun X hl hX => e_X7_readLineOf hX h rfl)
theorem dX7_readLine_0 : decode cX7_readLine 0 = .ok (.aload_n 0, 1) := by decide +kernel
theorem dX7_readLine_1 : decode cX7_readLine 1 = .ok (.getfield 108, 3) := by decide +kernel
theorem dX7_readLine_4 : decode cX7_readLine 4 = .ok (.iconst 1, 1) := by decide +kernel
theorem dX7_readLine_5 : decode cX7_readLine 5 = .ok (.if_icmp .ne 10, 3) := by decide +kernel
theorem dX7_readLine_8 : decode cX7_readLine 8 = .ok (.aload_n 0, 1) := by decide +kernel
theorem dX7_readLine_9 : decode cX7_readLine 9 = .ok (.invokevirtual 146, 3) := by decide +kernel
theorem dX7_readLine_12 : decode cX7_readLine 12 = .ok (.goto 5, 3) := by decide +kernel
theorem dX7_readLine_15 : decode cX7_readLine 15 = .ok (.bipush (-4), 2) := by decide +kernel
theorem dX7_readLine_17 : decode cX7_readLine 17 = .ok (.istore_n 1, 1) := by decide +kernel
theorem dX7_readLine_18 : decode cX7_readLine 18 = .ok (.aload_n 0, 1) := by decide +kernel
theorem dX7_readLine_19 : decode cX7_readLine 19 = .ok (.iload_n 1, 1) := by decide +kernel
theorem dX7_readLine_20 : decode cX7_readLine 20 = .ok (.bipush (-4), 2) := by decide +kernel
theorem dX7_readLine_22 : decode cX7_readLine 22 = .ok (.if_icmp .eq 7, 3) := by decide +kernel
theorem dX7_readLine_25 : decode cX7_readLine 25 = .ok (.iconst 1, 1) := by decide +kernel
theorem dX7_readLine_26 : decode cX7_readLine 26 = .ok (.goto 4, 3) := by decide +kernel
theorem dX7_readLine_29 : decode cX7_readLine 29 = .ok (.iconst 0, 1) := by decide +kernel
theorem dX7_readLine_30 : decode cX7_readLine 30 = .ok (.iconst 2, 1) := by decide +kernel
theorem dX7_readLine_31 : decode cX7_readLine 31 = .ok (.invokevirtual 122, 3) := by decide +kernel
theorem dX7_readLine_34 : decode cX7_readLine 34 = .ok (.aload_n 0, 1) := by decide +kernel
theorem dX7_readLine_35 : decode cX7_readLine 35 = .ok (.iload_n 1, 1) := by decide +kernel
theorem dX7_readLine_36 : decode cX7_readLine 36 = .ok (.iconst 4, 1) := by decide +kernel
theorem dX7_readLine_37 : decode cX7_readLine 37 = .ok (.if_icmp .gt 27, 3) := by decide +kernel
theorem dX7_readLine_40 : decode cX7_readLine 40 = .ok (.iload_n 1, 1) := by decide +kernel
theorem dX7_readLine_41 : decode cX7_readLine 41 = .ok (.iconst 4, 1) := by decide +kernel
theorem dX7_readLine_42 : decode cX7_readLine 42 = .ok (.if_icmp .ne 14, 3) := by decide +kernel
theorem dX7_readLine_45 : decode cX7_readLine 45 = .ok (.aload_n 0, 1) := by decide +kernel
theorem dX7_readLine_46 : decode cX7_readLine 46 = .ok (.getfield 60, 3) := by decide +kernel
theorem dX7_readLine_49 : decode cX7_readLine 49 = .ok (.iconst 4, 1) := by decide +kernel
theorem dX7_readLine_50 : decode cX7_readLine 50 = .ok (.if_icmp .ge 18, 3) := by decide +kernel
theorem dX7_readLine_53 : decode cX7_readLine 53 = .ok (.goto 11, 3) := by decide +kernel
theorem dX7_readLine_56 : decode cX7_readLine 56 = .ok (.aload_n 0, 1) := by decide +kernel
theorem dX7_readLine_57 : decode cX7_readLine 57 = .ok (.getfield 56, 3) := by decide +kernel
theorem dX7_readLine_60 : decode cX7_readLine 60 = .ok (.iconst 3, 1) := by decide +kernel
theorem dX7_readLine_61 : decode cX7_readLine 61 = .ok (.if_icmp .ge 7, 3) := by decide +kernel
theorem dX7_readLine_64 : decode cX7_readLine 64 = .ok (.iconst 1, 1) := by decide +kernel
theorem dX7_readLine_65 : decode cX7_readLine 65 = .ok (.goto 4, 3) := by decide +kernel
theorem dX7_readLine_68 : decode cX7_readLine 68 = .ok (.iconst 0, 1) := by decide +kernel
theorem dX7_readLine_69 : decode cX7_readLine 69 = .ok (.iconst 5, 1) := by decide +kernel
theorem dX7_readLine_70 : decode cX7_readLine 70 = .ok (.invokevirtual 122, 3) := by decide +kernel
theorem dX7_readLine_73 : decode cX7_readLine 73 = .ok (.aload_n 0, 1) := by decide +kernel
theorem dX7_readLine_74 : decode cX7_readLine 74 = .ok (.invokevirtual 130, 3) := by decide +kernel
theorem dX7_readLine_77 : decode cX7_readLine 77 = .ok (.aload_n 0, 1) := by decide +kernel
theorem dX7_readLine_78 : decode cX7_readLine 78 = .ok (.getfield 80, 3) := by decide +kernel
theorem dX7_readLine_81 : decode cX7_readLine 81 = .ok (.ifCond .le 4, 3) := by decide +kernel
theorem dX7_readLine_84 : decode cX7_readLine 84 = .ok (.return_, 1) := by decide +kernel
theorem dX7_readLine_85 : decode cX7_readLine 85 = .ok (.aload_n 0, 1) := by decide +kernel
theorem dX7_readLine_86 : decode cX7_readLine 86 = .ok (.iload_n 1, 1) := by decide +kernel
theorem dX7_readLine_87 : decode cX7_readLine 87 = .ok (.invokevirtual 149, 3) := by decide +kernel
theorem dX7_readLine_90 : decode cX7_readLine 90 = .ok (.aload_n 0, 1) := by decide +kernel
theorem dX7_readLine_91 : decode cX7_readLine 91 = .ok (.getfield 80, 3) := by decide +kernel
theorem dX7_readLine_94 : decode cX7_readLine 94 = .ok (.ifCond .ne 21, 3) := by decide +kernel
theorem dX7_readLine_97 : decode cX7_readLine 97 = .ok (.aload_n 0, 1) := by decide +kernel
theorem dX7_readLine_98 : decode cX7_readLine 98 = .ok (.aload_n 0, 1) := by decide +kernel
theorem dX7_readLine_99 : decode cX7_readLine 99 = .ok (.getfield 108, 3) := by decide +kernel
theorem dX7_readLine_102 : decode cX7_readLine 102 = .ok (.iconst 3, 1) := by decide +kernel
theorem dX7_readLine_103 : decode cX7_readLine 103 = .ok (.if_icmp .ne 7, 3) := by decide +kernel
theorem dX7_readLine_106 : decode cX7_readLine 106 = .ok (.iconst 1, 1) := by decide +kernel
theorem dX7_readLine_107 : decode cX7_readLine 107 = .ok (.goto 4, 3) := by decide +kernel
theorem dX7_readLine_110 : decode cX7_readLine 110 = .ok (.iconst 0, 1) := by decide +kernel
theorem dX7_readLine_111 : decode cX7_readLine 111 = .ok (.iconst 2, 1) := by decide +kernel
theorem dX7_readLine_112 : decode cX7_readLine 112 = .ok (.invokevirtual 122, 3) := by decide +kernel
theorem dX7_readLine_115 : decode cX7_readLine 115 = .ok (.aload_n 0, 1) := by decide +kernel
theorem dX7_readLine_116 : decode cX7_readLine 116 = .ok (.invokevirtual 130, 3) := by decide +kernel
theorem dX7_readLine_119 : decode cX7_readLine 119 = .ok (.return_, 1) := by decide +kernel
def f_X7_readLine_J111 (k0 : Int32) (s : St) : Option (Unit × St) := cl (f_X7_needs k0 (nI 2) s) (fun x23 s22 => cl (f_X7_takes s22) (fun x25 s24 => some (((), s24))))
def f_X7_readLine_J69 (v1 : Int32) (k0 : Int32) (s : St) : Option (Unit × St) := cl (f_X7_needs k0 (nI 5) s) (fun x12 s11 => cl (f_X7_takes s11) (fun x14 s13 => if (s13.1 189 16) ≤ 0 then (cl (f_X7_readLineOf v1 s13) (fun x17 s16 => if ¬ (s16.1 189 16) = 0 then (cl (f_X7_takes s16) (fun x20 s19 => some (((), s19)))) else (if ¬ (s16.1 189 14) = (nI 3) then (f_X7_readLine_J111 (nI 0) s16) else (f_X7_readLine_J111 (nI 1) s16)))) else (some (((), s13)))))
def f_X7_readLine_J64 (v1 : Int32) (s : St) : Option (Unit × St) := f_X7_readLine_J69 v1 (nI 1) s
def f_X7_readLine_J68 (v1 : Int32) (s : St) : Option (Unit × St) := f_X7_readLine_J69 v1 (nI 0) s
def f_X7_readLine_J30 (v1 : Int32) (k0 : Int32) (s : St) : Option (Unit × St) := cl (f_X7_needs k0 (nI 2) s) (fun x6 s5 => if (nI 4) < v1 then (f_X7_readLine_J64 v1 s5) else (if ¬ v1 = (nI 4) then (if (nI 3) ≤ (s5.1 189 6) then (f_X7_readLine_J68 v1 s5) else (f_X7_readLine_J64 v1 s5)) else (if (nI 4) ≤ (s5.1 189 7) then (f_X7_readLine_J68 v1 s5) else (f_X7_readLine_J64 v1 s5))))
def f_X7_readLine_J17 (k0 : Int32) (s : St) : Option (Unit × St) := if k0 = (-4) then (f_X7_readLine_J30 k0 (nI 0) s) else (f_X7_readLine_J30 k0 (nI 1) s)
def f_X7_readLine (s : St) : Option (Unit × St) := if ¬ (s.1 189 14) = (nI 1) then (f_X7_readLine_J17 (-4) s) else (cl (f_X7_lineNow s) (fun x3 s2 => f_X7_readLine_J17 x3 s2))
set_option maxHeartbeats 4000000 in
set_option maxRecDepth 100000 in
theorem e_X7_readLine_J111 {X : Cx} {Γ : Gm} {r0 : Rb} (hX : Amb X Γ cX7_readLine RX7 2 none 4) {k0 : Int32} {s : St} {t : Unit × St} (h : f_X7_readLine_J111 k0 s = some t) (hk : (fun t : Unit × St => Rt X Γ r0 (none, t.2)) t) : Zw X Γ 2 r0 s 111 [(0, .ref (gL Γ (189)))] [.int k0, .ref (gL Γ (189))] := by
  unfold f_X7_readLine_J111 at h
  refine z_iconst hX (v := (nI 2)) dX7_readLine_111 rfl 112 rfl ?_
  replace h := cl_elim h
  obtain ⟨x23, s22, hx23, h⟩ := h
  refine z_cV7v hX (b := 189) (As := [.int k0, .int ((nI 2))]) (c_X7_needs hx23) lk_X7_122 rfl kdc_189 ds_X7_needs rfl (by decide) (by decide) (by decide) dX7_readLine_112 rfl 115 rfl ?_
  refine z_aload_n hX dX7_readLine_115 0 rfl 116 rfl ?_
  replace h := cl_elim h
  obtain ⟨x25, s24, hx25, h⟩ := h
  refine z_cV7v hX (b := 189) (As := []) (c_X7_takes hx25) lk_X7_130 rfl kdc_189 ds_X7_takes rfl (by decide) (by decide) (by decide) dX7_readLine_116 rfl 119 rfl ?_
  replace h := Option.some.inj h
  subst h
  exact z_vret hX dX7_readLine_119 rfl hk
set_option maxHeartbeats 4000000 in
set_option maxRecDepth 100000 in
theorem e_X7_readLine_J69 {X : Cx} {Γ : Gm} {r0 : Rb} (hX : Amb X Γ cX7_readLine RX7 2 none 4) {v1 : Int32} {k0 : Int32} {s : St} {t : Unit × St} (h : f_X7_readLine_J69 v1 k0 s = some t) (hk : (fun t : Unit × St => Rt X Γ r0 (none, t.2)) t) : Zw X Γ 2 r0 s 69 [(0, .ref (gL Γ (189))), (1, .int v1)] [.int k0, .ref (gL Γ (189))] := by
  unfold f_X7_readLine_J69 at h
  refine z_iconst hX (v := (nI 5)) dX7_readLine_69 rfl 70 rfl ?_
  replace h := cl_elim h
  obtain ⟨x12, s11, hx12, h⟩ := h
  refine z_cV7v hX (b := 189) (As := [.int k0, .int ((nI 5))]) (c_X7_needs hx12) lk_X7_122 rfl kdc_189 ds_X7_needs rfl (by decide) (by decide) (by decide) dX7_readLine_70 rfl 73 rfl ?_
  refine z_aload_n hX dX7_readLine_73 0 rfl 74 rfl ?_
  replace h := cl_elim h
  obtain ⟨x14, s13, hx14, h⟩ := h
  refine z_cV7v hX (b := 189) (As := []) (c_X7_takes hx14) lk_X7_130 rfl kdc_189 ds_X7_takes rfl (by decide) (by decide) (by decide) dX7_readLine_74 rfl 77 rfl ?_
  refine z_aload_n hX dX7_readLine_77 0 rfl 78 rfl ?_
  refine z_get7 hX (k := 189) (j := 16) (v := .int ((s13.1 189 16))) kdc_189 (by decide) rfl dX7_readLine_78 fl_X7_80 81 rfl ?_
  refine z_if_le hX 85 dX7_readLine_81 (by decide) 84 rfl (fun c15 => ?_) (fun c15 => ?_)
  · replace h := br_pos h c15
    refine z_aload_n hX dX7_readLine_85 0 rfl 86 rfl ?_
    refine z_iload_n hX dX7_readLine_86 1 rfl 87 rfl ?_
    replace h := cl_elim h
    obtain ⟨x17, s16, hx17, h⟩ := h
    refine z_cV7v hX (b := 189) (As := [.int v1]) (c_X7_readLineOf hx17) lk_X7_149 rfl kdc_189 ds_X7_readLineOf rfl (by decide) (by decide) (by decide) dX7_readLine_87 rfl 90 rfl ?_
    refine z_aload_n hX dX7_readLine_90 0 rfl 91 rfl ?_
    refine z_get7 hX (k := 189) (j := 16) (v := .int ((s16.1 189 16))) kdc_189 (by decide) rfl dX7_readLine_91 fl_X7_80 94 rfl ?_
    refine z_if_ne hX 115 dX7_readLine_94 (by decide) 97 rfl (fun c18 => ?_) (fun c18 => ?_)
    · replace h := br_pos h c18
      refine z_aload_n hX dX7_readLine_115 0 rfl 116 rfl ?_
      replace h := cl_elim h
      obtain ⟨x20, s19, hx20, h⟩ := h
      refine z_cV7v hX (b := 189) (As := []) (c_X7_takes hx20) lk_X7_130 rfl kdc_189 ds_X7_takes rfl (by decide) (by decide) (by decide) dX7_readLine_116 rfl 119 rfl ?_
      replace h := Option.some.inj h
      subst h
      exact z_vret hX dX7_readLine_119 rfl hk
    · replace h := br_neg h c18
      refine z_aload_n hX dX7_readLine_97 0 rfl 98 rfl ?_
      refine z_aload_n hX dX7_readLine_98 0 rfl 99 rfl ?_
      refine z_get7 hX (k := 189) (j := 14) (v := .int ((s16.1 189 14))) kdc_189 (by decide) rfl dX7_readLine_99 fl_X7_108 102 rfl ?_
      refine z_iconst hX (v := (nI 3)) dX7_readLine_102 rfl 103 rfl ?_
      refine z_icmp_ne hX 110 dX7_readLine_103 (by decide) 106 rfl (fun c21 => ?_) (fun c21 => ?_)
      · replace h := br_pos h c21
        refine z_iconst hX (v := (nI 0)) dX7_readLine_110 rfl 111 rfl ?_
        exact z_sub [0] rfl (e_X7_readLine_J111 hX h hk)
      · replace h := br_neg h c21
        refine z_iconst hX (v := (nI 1)) dX7_readLine_106 rfl 107 rfl ?_
        refine z_goto hX 111 dX7_readLine_107 (by decide) ?_
        exact z_sub [0] rfl (e_X7_readLine_J111 hX h hk)
  · replace h := br_neg h c15
    replace h := Option.some.inj h
    subst h
    exact z_vret hX dX7_readLine_84 rfl hk
set_option maxHeartbeats 4000000 in
set_option maxRecDepth 100000 in
theorem e_X7_readLine_J64 {X : Cx} {Γ : Gm} {r0 : Rb} (hX : Amb X Γ cX7_readLine RX7 2 none 4) {v1 : Int32} {s : St} {t : Unit × St} (h : f_X7_readLine_J64 v1 s = some t) (hk : (fun t : Unit × St => Rt X Γ r0 (none, t.2)) t) : Zw X Γ 2 r0 s 64 [(0, .ref (gL Γ (189))), (1, .int v1)] [.ref (gL Γ (189))] := by
  unfold f_X7_readLine_J64 at h
  refine z_iconst hX (v := (nI 1)) dX7_readLine_64 rfl 65 rfl ?_
  refine z_goto hX 69 dX7_readLine_65 (by decide) ?_
  exact z_sub [0, 1] rfl (e_X7_readLine_J69 hX h hk)
set_option maxHeartbeats 4000000 in
set_option maxRecDepth 100000 in
theorem e_X7_readLine_J68 {X : Cx} {Γ : Gm} {r0 : Rb} (hX : Amb X Γ cX7_readLine RX7 2 none 4) {v1 : Int32} {s : St} {t : Unit × St} (h : f_X7_readLine_J68 v1 s = some t) (hk : (fun t : Unit × St => Rt X Γ r0 (none, t.2)) t) : Zw X Γ 2 r0 s 68 [(0, .ref (gL Γ (189))), (1, .int v1)] [.ref (gL Γ (189))] := by
  unfold f_X7_readLine_J68 at h
  refine z_iconst hX (v := (nI 0)) dX7_readLine_68 rfl 69 rfl ?_
  exact z_sub [0, 1] rfl (e_X7_readLine_J69 hX h hk)
set_option maxHeartbeats 4000000 in
set_option maxRecDepth 100000 in
theorem e_X7_readLine_J30 {X : Cx} {Γ : Gm} {r0 : Rb} (hX : Amb X Γ cX7_readLine RX7 2 none 4) {v1 : Int32} {k0 : Int32} {s : St} {t : Unit × St} (h : f_X7_readLine_J30 v1 k0 s = some t) (hk : (fun t : Unit × St => Rt X Γ r0 (none, t.2)) t) : Zw X Γ 2 r0 s 30 [(0, .ref (gL Γ (189))), (1, .int v1)] [.int k0, .ref (gL Γ (189))] := by
  unfold f_X7_readLine_J30 at h
  refine z_iconst hX (v := (nI 2)) dX7_readLine_30 rfl 31 rfl ?_
  replace h := cl_elim h
  obtain ⟨x6, s5, hx6, h⟩ := h
  refine z_cV7v hX (b := 189) (As := [.int k0, .int ((nI 2))]) (c_X7_needs hx6) lk_X7_122 rfl kdc_189 ds_X7_needs rfl (by decide) (by decide) (by decide) dX7_readLine_31 rfl 34 rfl ?_
  refine z_aload_n hX dX7_readLine_34 0 rfl 35 rfl ?_
  refine z_iload_n hX dX7_readLine_35 1 rfl 36 rfl ?_
  refine z_iconst hX (v := (nI 4)) dX7_readLine_36 rfl 37 rfl ?_
  refine z_icmp_gt hX 64 dX7_readLine_37 (by decide) 40 rfl (fun c7 => ?_) (fun c7 => ?_)
  · replace h := br_pos h c7
    exact z_sub [0, 1] rfl (e_X7_readLine_J64 hX h hk)
  · replace h := br_neg h c7
    refine z_iload_n hX dX7_readLine_40 1 rfl 41 rfl ?_
    refine z_iconst hX (v := (nI 4)) dX7_readLine_41 rfl 42 rfl ?_
    refine z_icmp_ne hX 56 dX7_readLine_42 (by decide) 45 rfl (fun c8 => ?_) (fun c8 => ?_)
    · replace h := br_pos h c8
      refine z_aload_n hX dX7_readLine_56 0 rfl 57 rfl ?_
      refine z_get7 hX (k := 189) (j := 6) (v := .int ((s5.1 189 6))) kdc_189 (by decide) rfl dX7_readLine_57 fl_X7_56 60 rfl ?_
      refine z_iconst hX (v := (nI 3)) dX7_readLine_60 rfl 61 rfl ?_
      refine z_icmp_ge hX 68 dX7_readLine_61 (by decide) 64 rfl (fun c9 => ?_) (fun c9 => ?_)
      · replace h := br_pos h c9
        exact z_sub [0, 1] rfl (e_X7_readLine_J68 hX h hk)
      · replace h := br_neg h c9
        exact z_sub [0, 1] rfl (e_X7_readLine_J64 hX h hk)
    · replace h := br_neg h c8
      refine z_aload_n hX dX7_readLine_45 0 rfl 46 rfl ?_
      refine z_get7 hX (k := 189) (j := 7) (v := .int ((s5.1 189 7))) kdc_189 (by decide) rfl dX7_readLine_46 fl_X7_60 49 rfl ?_
      refine z_iconst hX (v := (nI 4)) dX7_readLine_49 rfl 50 rfl ?_
      refine z_icmp_ge hX 68 dX7_readLine_50 (by decide) 53 rfl (fun c10 => ?_) (fun c10 => ?_)
      · replace h := br_pos h c10
        exact z_sub [0, 1] rfl (e_X7_readLine_J68 hX h hk)
      · replace h := br_neg h c10
        refine z_goto hX 64 dX7_readLine_53 (by decide) ?_
        exact z_sub [0, 1] rfl (e_X7_readLine_J64 hX h hk)
set_option maxHeartbeats 4000000 in
set_option maxRecDepth 100000 in
theorem e_X7_readLine_J17 {X : Cx} {Γ : Gm} {r0 : Rb} (hX : Amb X Γ cX7_readLine RX7 2 none 4) {k0 : Int32} {s : St} {t : Unit × St} (h : f_X7_readLine_J17 k0 s = some t) (hk : (fun t : Unit × St => Rt X Γ r0 (none, t.2)) t) : Zw X Γ 2 r0 s 17 [(0, .ref (gL Γ (189)))] [.int k0] := by
  unfold f_X7_readLine_J17 at h
  refine z_istore_n hX (lv2 := [(1, .int k0), (0, .ref (gL Γ (189)))]) dX7_readLine_17 (by decide) rfl 18 rfl ?_
  refine z_aload_n hX dX7_readLine_18 1 rfl 19 rfl ?_
  refine z_iload_n hX dX7_readLine_19 0 rfl 20 rfl ?_
  refine z_bipush hX (v := (-4)) dX7_readLine_20 (by decide) 22 rfl ?_
  refine z_icmp_eq hX 29 dX7_readLine_22 (by decide) 25 rfl (fun c4 => ?_) (fun c4 => ?_)
  · replace h := br_pos h c4
    refine z_iconst hX (v := (nI 0)) dX7_readLine_29 rfl 30 rfl ?_
    exact z_sub [1, 0] rfl (e_X7_readLine_J30 hX h hk)
  · replace h := br_neg h c4
    refine z_iconst hX (v := (nI 1)) dX7_readLine_25 rfl 26 rfl ?_
    refine z_goto hX 30 dX7_readLine_26 (by decide) ?_
    exact z_sub [1, 0] rfl (e_X7_readLine_J30 hX h hk)
set_option maxHeartbeats 4000000 in
set_option maxRecDepth 100000 in
theorem e_X7_readLine {X : Cx} {Γ : Gm} {r0 : Rb} (hX : Amb X Γ cX7_readLine RX7 2 none 4) {s : St} {t : Unit × St} (h : f_X7_readLine s = some t) (hk : (fun t : Unit × St => Rt X Γ r0 (none, t.2)) t) : Zw X Γ 2 r0 s 0 [(0, .ref (gL Γ (189)))] [] := by
  unfold f_X7_readLine at h
  refine z_aload_n hX dX7_readLine_0 0 rfl 1 rfl ?_
  refine z_get7 hX (k := 189) (j := 14) (v := .int ((s.1 189 14))) kdc_189 (by decide) rfl dX7_readLine_1 fl_X7_108 4 rfl ?_
  refine z_iconst hX (v := (nI 1)) dX7_readLine_4 rfl 5 rfl ?_
  refine z_icmp_ne hX 15 dX7_readLine_5 (by decide) 8 rfl (fun c1 => ?_) (fun c1 => ?_)
  · replace h := br_pos h c1
    refine z_bipush hX (v := (-4)) dX7_readLine_15 (by decide) 17 rfl ?_
    exact z_sub [0] rfl (e_X7_readLine_J17 hX h hk)
  · replace h := br_neg h c1
    refine z_aload_n hX dX7_readLine_8 0 rfl 9 rfl ?_
    replace h := cl_elim h
    obtain ⟨x3, s2, hx3, h⟩ := h
    refine z_cV7i hX (b := 189) (As := []) (c_X7_lineNow hx3) lk_X7_146 rfl kdc_189 ds_X7_lineNow rfl (by decide) (by decide) (by decide) dX7_readLine_9 rfl 12 rfl ?_
    refine z_goto hX 17 dX7_readLine_12 (by decide) ?_
    exact z_sub [0] rfl (e_X7_readLine_J17 hX h hk)
theorem c_X7_readLine {lc : Launch} {Γ : Gm} {s s2 : St} {v : Unit} (h : f_X7_readLine s = some (v, s2)) : Ct lc Γ yX7_readLine cX7_readLine 2 none 4 [.ref (gL Γ (189))] s (none, s2) := Ct.of (by decide +kernel) (Nat.le_of_ble_eq_true rfl) (fun X hl hX => e_X7_readLine hX h rfl)
theorem dX7_text_0 : decode cX7_text 0 = .ok (.iconst 0, 1) := by decide +kernel
theorem dX7_text_1 : decode cX7_text 1 = .ok (.istore_n 1, 1) := by decide +kernel
theorem dX7_text_2 : decode cX7_text 2 = .ok (.aload_n 0, 1) := by decide +kernel
theorem dX7_text_3 : decode cX7_text 3 = .ok (.iconst 0, 1) := by decide +kernel
theorem dX7_text_4 : decode cX7_text 4 = .ok (.putfield 80, 3) := by decide +kernel
theorem dX7_text_7 : decode cX7_text 7 = .ok (.aload_n 0, 1) := by decide +kernel
theorem dX7_text_8 : decode cX7_text 8 = .ok (.iconst 0, 1) := by decide +kernel
theorem dX7_text_9 : decode cX7_text 9 = .ok (.putfield 89, 3) := by decide +kernel
theorem dX7_text_12 : decode cX7_text 12 = .ok (.aload_n 0, 1) := by decide +kernel
theorem dX7_text_13 : decode cX7_text 13 = .ok (.invokevirtual 44, 3) := by decide +kernel
theorem dX7_text_16 : decode cX7_text 16 = .ok (.aload_n 0, 1) := by decide +kernel
theorem dX7_text_17 : decode cX7_text 17 = .ok (.invokevirtual 130, 3) := by decide +kernel
theorem dX7_text_20 : decode cX7_text 20 = .ok (.aload_n 0, 1) := by decide +kernel
theorem dX7_text_21 : decode cX7_text 21 = .ok (.getfield 80, 3) := by decide +kernel
theorem dX7_text_24 : decode cX7_text 24 = .ok (.ifCond .ne 20, 3) := by decide +kernel
theorem dX7_text_27 : decode cX7_text 27 = .ok (.aload_n 0, 1) := by decide +kernel
theorem dX7_text_28 : decode cX7_text 28 = .ok (.getfield 108, 3) := by decide +kernel
theorem dX7_text_31 : decode cX7_text 31 = .ok (.ifCond .eq 13, 3) := by decide +kernel
theorem dX7_text_34 : decode cX7_text 34 = .ok (.aload_n 0, 1) := by decide +kernel
theorem dX7_text_35 : decode cX7_text 35 = .ok (.invokevirtual 153, 3) := by decide +kernel
theorem dX7_text_38 : decode cX7_text 38 = .ok (.iinc 1 1, 3) := by decide +kernel
theorem dX7_text_41 : decode cX7_text 41 = .ok (.goto (-21), 3) := by decide +kernel
theorem dX7_text_44 : decode cX7_text 44 = .ok (.aload_n 0, 1) := by decide +kernel
theorem dX7_text_45 : decode cX7_text 45 = .ok (.iconst 0, 1) := by decide +kernel
theorem dX7_text_46 : decode cX7_text 46 = .ok (.putfield 77, 3) := by decide +kernel
theorem dX7_text_49 : decode cX7_text 49 = .ok (.aload_n 0, 1) := by decide +kernel
theorem dX7_text_50 : decode cX7_text 50 = .ok (.getfield 80, 3) := by decide +kernel
theorem dX7_text_53 : decode cX7_text 53 = .ok (.ifCond .le 11, 3) := by decide +kernel
theorem dX7_text_56 : decode cX7_text 56 = .ok (.bipush (-10), 2) := by decide +kernel
theorem dX7_text_58 : decode cX7_text 58 = .ok (.aload_n 0, 1) := by decide +kernel
theorem dX7_text_59 : decode cX7_text 59 = .ok (.getfield 86, 3) := by decide +kernel
theorem dX7_text_62 : decode cX7_text 62 = .ok (.isub, 1) := by decide +kernel
theorem dX7_text_63 : decode cX7_text 63 = .ok (.ireturn, 1) := by decide +kernel
theorem dX7_text_64 : decode cX7_text 64 = .ok (.aload_n 0, 1) := by decide +kernel
theorem dX7_text_65 : decode cX7_text 65 = .ok (.invokevirtual 47, 3) := by decide +kernel
theorem dX7_text_68 : decode cX7_text 68 = .ok (.iload_n 1, 1) := by decide +kernel
theorem dX7_text_69 : decode cX7_text 69 = .ok (.ireturn, 1) := by decide +kernel
def f_X7_text_J44 (v1 : Int32) (s : St) : Option (Int32 × St) := bd (wI s 189 11 (nI 0)) (fun s11 => if (s11.1 189 16) ≤ 0 then (cl (f_X7_keepDraft s11) (fun x14 s13 => some ((v1, s13)))) else (some ((((-10) - (s11.1 189 17)), s11))))
def f_X7_text_L20 (v1 : Int32) (s : St) : Option ((Int32 × St) ⊕ (Int32 × St)) := if ¬ (s.1 189 16) = 0 then (ox (f_X7_text_J44 v1 s)) else (if (s.1 189 14) = 0 then (ox (f_X7_text_J44 v1 s)) else (cl (f_X7_readLine s) (fun x10 s9 => some (Sum.inl ((v1 + (nI 1)), s9)))))
def f_X7_text (s : St) : Option (Int32 × St) := bd (wI s 189 16 (nI 0)) (fun s1 => bd (wI s1 189 12 (nI 0)) (fun s2 => cl (f_X7_firstDraft s2) (fun x4 s3 => cl (f_X7_takes s3) (fun x6 s5 => lp (fun q : Int32 × St => f_X7_text_L20 q.1 q.2) Fu ((nI 0), s5)))))
set_option maxHeartbeats 4000000 in
set_option maxRecDepth 100000 in
theorem e_X7_text_J44 {X : Cx} {Γ : Gm} {r0 : Rb} (hX : Amb X Γ cX7_text RX7 2 (some .int) 5) {v1 : Int32} {s : St} {t : Int32 × St} (h : f_X7_text_J44 v1 s = some t) (hk : (fun t : Int32 × St => Rt X Γ r0 (some (Value.int t.1), t.2)) t) : Zw X Γ 2 r0 s 44 [(0, .ref (gL Γ (189))), (1, .int v1)] [] := by
  unfold f_X7_text_J44 at h
  refine z_aload_n hX dX7_text_44 0 rfl 45 rfl ?_
  refine z_iconst hX (v := (nI 0)) dX7_text_45 rfl 46 rfl ?_
  replace h := bd_elim h
  obtain ⟨s11, es11, h⟩ := h
  refine z_putI7 hX (k := 189) (j := 11) kdc_189 (by decide) rfl (by decide +kernel) (pwI_7_11 ..) dX7_text_46 fl_X7_77 es11 49 rfl ?_
  refine z_aload_n hX dX7_text_49 0 rfl 50 rfl ?_
  refine z_get7 hX (k := 189) (j := 16) (v := .int ((s11.1 189 16))) kdc_189 (by decide) rfl dX7_text_50 fl_X7_80 53 rfl ?_
  refine z_if_le hX 64 dX7_text_53 (by decide) 56 rfl (fun c12 => ?_) (fun c12 => ?_)
  · replace h := br_pos h c12
    refine z_aload_n hX dX7_text_64 0 rfl 65 rfl ?_
    replace h := cl_elim h
    obtain ⟨x14, s13, hx14, h⟩ := h
    refine z_cV7v hX (b := 189) (As := []) (c_X7_keepDraft hx14) lk_X7_47 rfl kdc_189 ds_X7_keepDraft rfl (by decide) (by decide) (by decide) dX7_text_65 rfl 68 rfl ?_
    refine z_iload_n hX dX7_text_68 1 rfl 69 rfl ?_
    replace h := Option.some.inj h
    subst h
    exact z_iret hX dX7_text_69 rfl hk
  · replace h := br_neg h c12
    refine z_bipush hX (v := (-10)) dX7_text_56 (by decide) 58 rfl ?_
    refine z_aload_n hX dX7_text_58 0 rfl 59 rfl ?_
    refine z_get7 hX (k := 189) (j := 17) (v := .int ((s11.1 189 17))) kdc_189 (by decide) rfl dX7_text_59 fl_X7_86 62 rfl ?_
    refine z_isub hX dX7_text_62 63 rfl ?_
    replace h := Option.some.inj h
    subst h
    exact z_iret hX dX7_text_63 rfl hk
set_option maxHeartbeats 4000000 in
set_option maxRecDepth 100000 in
theorem e_X7_text_L20 {X : Cx} {Γ : Gm} {r0 : Rb} (hX : Amb X Γ cX7_text RX7 2 (some .int) 5) {v1 : Int32} {s : St} {t : (Int32 × St) ⊕ (Int32 × St)} (h : f_X7_text_L20 v1 s = some t) (hk : (Sum.elim (fun q : Int32 × St => Zw X Γ 2 r0 q.2 20 [(0, .ref (gL Γ (189))), (1, .int q.1)] []) (fun t : Int32 × St => Rt X Γ r0 (some (Value.int t.1), t.2))) t) : Zw X Γ 2 r0 s 20 [(0, .ref (gL Γ (189))), (1, .int v1)] [] := by
  unfold f_X7_text_L20 at h
  refine z_aload_n hX dX7_text_20 0 rfl 21 rfl ?_
  refine z_get7 hX (k := 189) (j := 16) (v := .int ((s.1 189 16))) kdc_189 (by decide) rfl dX7_text_21 fl_X7_80 24 rfl ?_
  refine z_if_ne hX 44 dX7_text_24 (by decide) 27 rfl (fun c7 => ?_) (fun c7 => ?_)
  · replace h := br_pos h c7
    replace h := ox_elim h
    obtain ⟨u, rfl, h⟩ := h
    exact z_sub [0, 1] rfl (e_X7_text_J44 hX h hk)
  · replace h := br_neg h c7
    refine z_aload_n hX dX7_text_27 0 rfl 28 rfl ?_
    refine z_get7 hX (k := 189) (j := 14) (v := .int ((s.1 189 14))) kdc_189 (by decide) rfl dX7_text_28 fl_X7_108 31 rfl ?_
    refine z_if_eq hX 44 dX7_text_31 (by decide) 34 rfl (fun c8 => ?_) (fun c8 => ?_)
    · replace h := br_pos h c8
      replace h := ox_elim h
      obtain ⟨u, rfl, h⟩ := h
      exact z_sub [0, 1] rfl (e_X7_text_J44 hX h hk)
    · replace h := br_neg h c8
      refine z_aload_n hX dX7_text_34 0 rfl 35 rfl ?_
      replace h := cl_elim h
      obtain ⟨x10, s9, hx10, h⟩ := h
      refine z_cV7v hX (b := 189) (As := []) (c_X7_readLine hx10) lk_X7_153 rfl kdc_189 ds_X7_readLine rfl (by decide) (by decide) (by decide) dX7_text_35 rfl 38 rfl ?_
      refine z_iinc hX (v := (v1 + (nI 1))) (lv2 := [(1, .int ((v1 + (nI 1)))), (0, .ref (gL Γ (189)))]) dX7_text_38 1 rfl rfl (by decide) rfl 41 rfl ?_
      refine z_goto hX 20 dX7_text_41 (by decide) ?_
      replace h := Option.some.inj h
      subst h
      exact z_sub [1, 0] rfl hk
set_option maxHeartbeats 4000000 in
set_option maxRecDepth 100000 in
theorem e_X7_text {X : Cx} {Γ : Gm} {r0 : Rb} (hX : Amb X Γ cX7_text RX7 2 (some .int) 5) {s : St} {t : Int32 × St} (h : f_X7_text s = some t) (hk : (fun t : Int32 × St => Rt X Γ r0 (some (Value.int t.1), t.2)) t) : Zw X Γ 2 r0 s 0 [(0, .ref (gL Γ (189)))] [] := by
  unfold f_X7_text at h
  refine z_iconst hX (v := (nI 0)) dX7_text_0 rfl 1 rfl ?_
  refine z_istore_n hX (lv2 := [(1, .int ((nI 0))), (0, .ref (gL Γ (189)))]) dX7_text_1 (by decide) rfl 2 rfl ?_
  refine z_aload_n hX dX7_text_2 1 rfl 3 rfl ?_
  refine z_iconst hX (v := (nI 0)) dX7_text_3 rfl 4 rfl ?_
  replace h := bd_elim h
  obtain ⟨s1, es1, h⟩ := h
  refine z_putI7 hX (k := 189) (j := 16) kdc_189 (by decide) rfl (by decide +kernel) (pwI_7_16 ..) dX7_text_4 fl_X7_80 es1 7 rfl ?_
  refine z_aload_n hX dX7_text_7 1 rfl 8 rfl ?_
  refine z_iconst hX (v := (nI 0)) dX7_text_8 rfl 9 rfl ?_
  replace h := bd_elim h
  obtain ⟨s2, es2, h⟩ := h
  refine z_putI7 hX (k := 189) (j := 12) kdc_189 (by decide) rfl (by decide +kernel) (pwI_7_12 ..) dX7_text_9 fl_X7_89 es2 12 rfl ?_
  refine z_aload_n hX dX7_text_12 1 rfl 13 rfl ?_
  replace h := cl_elim h
  obtain ⟨x4, s3, hx4, h⟩ := h
  refine z_cV7v hX (b := 189) (As := []) (c_X7_firstDraft hx4) lk_X7_44 rfl kdc_189 ds_X7_firstDraft rfl (by decide) (by decide) (by decide) dX7_text_13 rfl 16 rfl ?_
  refine z_aload_n hX dX7_text_16 1 rfl 17 rfl ?_
  replace h := cl_elim h
  obtain ⟨x6, s5, hx6, h⟩ := h
  refine z_cV7v hX (b := 189) (As := []) (c_X7_takes hx6) lk_X7_130 rfl kdc_189 ds_X7_takes rfl (by decide) (by decide) (by decide) dX7_text_17 rfl 20 rfl ?_
  exact z_sub [1, 0] rfl (lp_ok (Z := fun q : Int32 × St => Zw X Γ 2 r0 q.2 20 [(0, .ref (gL Γ (189))), (1, .int q.1)] []) (fun q t h hk => e_X7_text_L20 hX h hk) Fu _ _ h hk)
theorem c_X7_text {lc : Launch} {Γ : Gm} {s s2 : St} {v : Int32} (h : f_X7_text s = some (v, s2)) : Ct lc Γ yX7_text cX7_text 2 (some .int) 5 [.ref (gL Γ (189))] s (some (.int v), s2) := Ct.of (by decide +kernel) (Nat.le_of_ble_eq_true rfl) (fun X hl hX => e_X7_text hX h rfl)
theorem dX7_fault_0 : decode cX7_fault 0 = .ok (.aload_n 0, 1) := by decide +kernel
theorem dX7_fault_1 : decode cX7_fault 1 = .ok (.getfield 80, 3) := by decide +kernel
theorem dX7_fault_4 : decode cX7_fault 4 = .ok (.ireturn, 1) := by decide +kernel
def f_X7_fault (s : St) : Option (Int32 × St) := some (((s.1 189 16), s))
set_option maxHeartbeats 4000000 in
set_option maxRecDepth 100000 in
theorem e_X7_fault {X : Cx} {Γ : Gm} {r0 : Rb} (hX : Amb X Γ cX7_fault RX7 1 (some .int) 0) {s : St} {t : Int32 × St} (h : f_X7_fault s = some t) (hk : (fun t : Int32 × St => Rt X Γ r0 (some (Value.int t.1), t.2)) t) : Zw X Γ 1 r0 s 0 [(0, .ref (gL Γ (189)))] [] := by
  unfold f_X7_fault at h
  refine z_aload_n hX dX7_fault_0 0 rfl 1 rfl ?_
  refine z_get7 hX (k := 189) (j := 16) (v := .int ((s.1 189 16))) kdc_189 (by decide) rfl dX7_fault_1 fl_X7_80 4 rfl ?_
  replace h := Option.some.inj h
  subst h
  exact z_iret hX dX7_fault_4 rfl hk
theorem c_X7_fault {lc : Launch} {Γ : Gm} {s s2 : St} {v : Int32} (h : f_X7_fault s = some (v, s2)) : Ct lc Γ yX7_fault cX7_fault 1 (some .int) 0 [.ref (gL Γ (189))] s (some (.int v), s2) := Ct.of (by decide +kernel) (Nat.le_of_ble_eq_true rfl) (fun X hl hX => e_X7_fault hX h rfl)
theorem dX7_isLife_0 : decode cX7_isLife 0 = .ok (.iload_n 1, 1) := by decide +kernel
theorem dX7_isLife_1 : decode cX7_isLife 1 = .ok (.i2l, 1) := by decide +kernel
theorem dX7_isLife_2 : decode cX7_isLife 2 = .ok (.lconst 0, 1) := by decide +kernel
theorem dX7_isLife_3 : decode cX7_isLife 3 = .ok (.aload_n 0, 1) := by decide +kernel
theorem dX7_isLife_4 : decode cX7_isLife 4 = .ok (.getfield 69, 3) := by decide +kernel
theorem dX7_isLife_7 : decode cX7_isLife 7 = .ok (.iconst 1, 1) := by decide +kernel
theorem dX7_isLife_8 : decode cX7_isLife 8 = .ok (.isub, 1) := by decide +kernel
theorem dX7_isLife_9 : decode cX7_isLife 9 = .ok (.i2l, 1) := by decide +kernel
theorem dX7_isLife_10 : decode cX7_isLife 10 = .ok (.invokestatic 52, 3) := by decide +kernel
theorem dX7_isLife_13 : decode cX7_isLife 13 = .ok (.ireturn, 1) := by decide +kernel
def f_X7_isLife (a1 : Int32) (s : St) : Option (Int32 × St) := cl (f_X7_within ((a1).toInt64) (lN 0) ((((s.1 189 3) - (nI 1))).toInt64) s) (fun x2 s1 => if x2 = 0 ∨ x2 = 1 then some ((x2, s1)) else none)
set_option maxHeartbeats 4000000 in
set_option maxRecDepth 100000 in
theorem e_X7_isLife {X : Cx} {Γ : Gm} {r0 : Rb} (hX : Amb X Γ cX7_isLife RX7 2 (some .boolean) 1) {a1 : Int32} {s : St} {t : Int32 × St} (h : f_X7_isLife a1 s = some t) (hk : (fun t : Int32 × St => Rt X Γ r0 (some (Value.int t.1), t.2)) t) : Zw X Γ 2 r0 s 0 [(0, .ref (gL Γ (189))), (1, .int a1)] [] := by
  unfold f_X7_isLife at h
  refine z_iload_n hX dX7_isLife_0 1 rfl 1 rfl ?_
  refine z_i2l hX dX7_isLife_1 2 rfl ?_
  refine z_lconst hX (v := (lN 0)) dX7_isLife_2 rfl 3 rfl ?_
  refine z_aload_n hX dX7_isLife_3 0 rfl 4 rfl ?_
  refine z_get7 hX (k := 189) (j := 3) (v := .int ((s.1 189 3))) kdc_189 (by decide) rfl dX7_isLife_4 fl_X7_69 7 rfl ?_
  refine z_iconst hX (v := (nI 1)) dX7_isLife_7 rfl 8 rfl ?_
  refine z_isub hX dX7_isLife_8 9 rfl ?_
  refine z_i2l hX dX7_isLife_9 10 rfl ?_
  replace h := cl_elim h
  obtain ⟨x2, s1, hx2, h⟩ := h
  refine z_cSi hX (As := [.long ((a1).toInt64), .long ((lN 0)), .long ((((s.1 189 3) - (nI 1))).toInt64)]) (c_X7_within hx2) lk_X7_52 ds_X7_within rfl (by decide) (by decide) (by decide) dX7_isLife_10 rfl 13 rfl ?_
  replace h := gd_elim h
  obtain ⟨g3, h⟩ := h
  replace h := Option.some.inj h
  subst h
  exact z_zret hX dX7_isLife_13 rfl g3 hk
theorem c_X7_isLife {lc : Launch} {Γ : Gm} {a1 : Int32} {s s2 : St} {v : Int32} (h : f_X7_isLife a1 s = some (v, s2)) : Ct lc Γ yX7_isLife cX7_isLife 2 (some .boolean) 1 [.ref (gL Γ (189)), .int a1] s (some (.int v), s2) := Ct.of (by decide +kernel) (Nat.le_of_ble_eq_true rfl) (fun X hl hX => e_X7_isLife hX h rfl)
theorem dX7_isSitter_0 : decode cX7_isSitter 0 = .ok (.iload_n 1, 1) := by decide +kernel
theorem dX7_isSitter_1 : decode cX7_isSitter 1 = .ok (.i2l, 1) := by decide +kernel
theorem dX7_isSitter_2 : decode cX7_isSitter 2 = .ok (.lconst 0, 1) := by decide +kernel
theorem dX7_isSitter_3 : decode cX7_isSitter 3 = .ok (.aload_n 0, 1) := by decide +kernel
theorem dX7_isSitter_4 : decode cX7_isSitter 4 = .ok (.getfield 72, 3) := by decide +kernel
theorem dX7_isSitter_7 : decode cX7_isSitter 7 = .ok (.iconst 1, 1) := by decide +kernel
theorem dX7_isSitter_8 : decode cX7_isSitter 8 = .ok (.isub, 1) := by decide +kernel
theorem dX7_isSitter_9 : decode cX7_isSitter 9 = .ok (.i2l, 1) := by decide +kernel
theorem dX7_isSitter_10 : decode cX7_isSitter 10 = .ok (.invokestatic 52, 3) := by decide +kernel
theorem dX7_isSitter_13 : decode cX7_isSitter 13 = .ok (.ireturn, 1) := by decide +kernel
def f_X7_isSitter (a1 : Int32) (s : St) : Option (Int32 × St) := cl (f_X7_within ((a1).toInt64) (lN 0) ((((s.1 189 4) - (nI 1))).toInt64) s) (fun x2 s1 => if x2 = 0 ∨ x2 = 1 then some ((x2, s1)) else none)
set_option maxHeartbeats 4000000 in
set_option maxRecDepth 100000 in
theorem e_X7_isSitter {X : Cx} {Γ : Gm} {r0 : Rb} (hX : Amb X Γ cX7_isSitter RX7 2 (some .boolean) 1) {a1 : Int32} {s : St} {t : Int32 × St} (h : f_X7_isSitter a1 s = some t) (hk : (fun t : Int32 × St => Rt X Γ r0 (some (Value.int t.1), t.2)) t) : Zw X Γ 2 r0 s 0 [(0, .ref (gL Γ (189))), (1, .int a1)] [] := by
  unfold f_X7_isSitter at h
  refine z_iload_n hX dX7_isSitter_0 1 rfl 1 rfl ?_
  refine z_i2l hX dX7_isSitter_1 2 rfl ?_
  refine z_lconst hX (v := (lN 0)) dX7_isSitter_2 rfl 3 rfl ?_
  refine z_aload_n hX dX7_isSitter_3 0 rfl 4 rfl ?_
  refine z_get7 hX (k := 189) (j := 4) (v := .int ((s.1 189 4))) kdc_189 (by decide) rfl dX7_isSitter_4 fl_X7_72 7 rfl ?_
  refine z_iconst hX (v := (nI 1)) dX7_isSitter_7 rfl 8 rfl ?_
  refine z_isub hX dX7_isSitter_8 9 rfl ?_
  refine z_i2l hX dX7_isSitter_9 10 rfl ?_
  replace h := cl_elim h
  obtain ⟨x2, s1, hx2, h⟩ := h
  refine z_cSi hX (As := [.long ((a1).toInt64), .long ((lN 0)), .long ((((s.1 189 4) - (nI 1))).toInt64)]) (c_X7_within hx2) lk_X7_52 ds_X7_within rfl (by decide) (by decide) (by decide) dX7_isSitter_10 rfl 13 rfl ?_
  replace h := gd_elim h
  obtain ⟨g3, h⟩ := h
  replace h := Option.some.inj h
  subst h
  exact z_zret hX dX7_isSitter_13 rfl g3 hk
theorem c_X7_isSitter {lc : Launch} {Γ : Gm} {a1 : Int32} {s s2 : St} {v : Int32} (h : f_X7_isSitter a1 s = some (v, s2)) : Ct lc Γ yX7_isSitter cX7_isSitter 2 (some .boolean) 1 [.ref (gL Γ (189)), .int a1] s (some (.int v), s2) := Ct.of (by decide +kernel) (Nat.le_of_ble_eq_true rfl) (fun X hl hX => e_X7_isSitter hX h rfl)
theorem dX7_isPart_0 : decode cX7_isPart 0 = .ok (.iload_n 0, 1) := by decide +kernel
theorem dX7_isPart_1 : decode cX7_isPart 1 = .ok (.i2l, 1) := by decide +kernel
theorem dX7_isPart_2 : decode cX7_isPart 2 = .ok (.lconst 0, 1) := by decide +kernel
theorem dX7_isPart_3 : decode cX7_isPart 3 = .ok (.lconst 1, 1) := by decide +kernel
theorem dX7_isPart_4 : decode cX7_isPart 4 = .ok (.invokestatic 52, 3) := by decide +kernel
theorem dX7_isPart_7 : decode cX7_isPart 7 = .ok (.ireturn, 1) := by decide +kernel
def f_X7_isPart (a0 : Int32) (s : St) : Option (Int32 × St) := cl (f_X7_within ((a0).toInt64) (lN 0) (lN 1) s) (fun x2 s1 => if x2 = 0 ∨ x2 = 1 then some ((x2, s1)) else none)
set_option maxHeartbeats 4000000 in
set_option maxRecDepth 100000 in
theorem e_X7_isPart {X : Cx} {Γ : Gm} {r0 : Rb} (hX : Amb X Γ cX7_isPart RX7 1 (some .boolean) 1) {a0 : Int32} {s : St} {t : Int32 × St} (h : f_X7_isPart a0 s = some t) (hk : (fun t : Int32 × St => Rt X Γ r0 (some (Value.int t.1), t.2)) t) : Zw X Γ 1 r0 s 0 [(0, .int a0)] [] := by
  unfold f_X7_isPart at h
  refine z_iload_n hX dX7_isPart_0 0 rfl 1 rfl ?_
  refine z_i2l hX dX7_isPart_1 2 rfl ?_
  refine z_lconst hX (v := (lN 0)) dX7_isPart_2 rfl 3 rfl ?_
  refine z_lconst hX (v := (lN 1)) dX7_isPart_3 rfl 4 rfl ?_
  replace h := cl_elim h
  obtain ⟨x2, s1, hx2, h⟩ := h
  refine z_cSi hX (As := [.long ((a0).toInt64), .long ((lN 0)), .long ((lN 1))]) (c_X7_within hx2) lk_X7_52 ds_X7_within rfl (by decide) (by decide) (by decide) dX7_isPart_4 rfl 7 rfl ?_
  replace h := gd_elim h
  obtain ⟨g3, h⟩ := h
  replace h := Option.some.inj h
  subst h
  exact z_zret hX dX7_isPart_7 rfl g3 hk
theorem c_X7_isPart {lc : Launch} {Γ : Gm} {a0 : Int32} {s s2 : St} {v : Int32} (h : f_X7_isPart a0 s = some (v, s2)) : Ct lc Γ yX7_isPart cX7_isPart 1 (some .boolean) 1 [.int a0] s (some (.int v), s2) := Ct.of (by decide +kernel) (Nat.le_of_ble_eq_true rfl) (fun X hl hX => e_X7_isPart hX h rfl)
theorem dX7_starts_0 : decode cX7_starts 0 = .ok (.iconst 0, 1) := by decide +kernel
theorem dX7_starts_1 : decode cX7_starts 1 = .ok (.istore_n 1, 1) := by decide +kernel
theorem dX7_starts_2 : decode cX7_starts 2 = .ok (.iload_n 1, 1) := by decide +kernel
theorem dX7_starts_3 : decode cX7_starts 3 = .ok (.sipush 131, 3) := by decide +kernel
theorem dX7_starts_6 : decode cX7_starts 6 = .ok (.if_icmp .ge 21, 3) := by decide +kernel
theorem dX7_starts_9 : decode cX7_starts 9 = .ok (.aload_n 0, 1) := by decide +kernel
theorem dX7_starts_10 : decode cX7_starts 10 = .ok (.getfield 13, 3) := by decide +kernel
theorem dX7_starts_13 : decode cX7_starts 13 = .ok (.iload_n 1, 1) := by decide +kernel
theorem dX7_starts_14 : decode cX7_starts 14 = .ok (.aload_n 0, 1) := by decide +kernel
theorem dX7_starts_15 : decode cX7_starts 15 = .ok (.getfield 7, 3) := by decide +kernel
theorem dX7_starts_18 : decode cX7_starts 18 = .ok (.iload_n 1, 1) := by decide +kernel
theorem dX7_starts_19 : decode cX7_starts 19 = .ok (.iaload, 1) := by decide +kernel
theorem dX7_starts_20 : decode cX7_starts 20 = .ok (.iastore, 1) := by decide +kernel
theorem dX7_starts_21 : decode cX7_starts 21 = .ok (.iinc 1 1, 3) := by decide +kernel
theorem dX7_starts_24 : decode cX7_starts 24 = .ok (.goto (-22), 3) := by decide +kernel
theorem dX7_starts_27 : decode cX7_starts 27 = .ok (.return_, 1) := by decide +kernel
def f_X7_starts_L2 (v1 : Int32) (s : St) : Option ((Int32 × St) ⊕ (Unit × St)) := if (nI 131) ≤ v1 then (some (Sum.inr (((), s)))) else (if inb v1 (lnI 190) = true then if inb v1 (lnI 191) = true then bd (wI s 191 (v1).toNatClampNeg (s.1 190 (v1).toNatClampNeg)) (fun s4 => some (Sum.inl ((v1 + (nI 1)), s4))) else none else none)
def f_X7_starts (s : St) : Option (Unit × St) := lp (fun q : Int32 × St => f_X7_starts_L2 q.1 q.2) Fu ((nI 0), s)
set_option maxHeartbeats 4000000 in
set_option maxRecDepth 100000 in
theorem e_X7_starts_L2 {X : Cx} {Γ : Gm} {r0 : Rb} (hX : Amb X Γ cX7_starts RX7 2 none 0) {v1 : Int32} {s : St} {t : (Int32 × St) ⊕ (Unit × St)} (h : f_X7_starts_L2 v1 s = some t) (hk : (Sum.elim (fun q : Int32 × St => Zw X Γ 2 r0 q.2 2 [(0, .ref (gL Γ (189))), (1, .int q.1)] []) (fun t : Unit × St => Rt X Γ r0 (none, t.2))) t) : Zw X Γ 2 r0 s 2 [(0, .ref (gL Γ (189))), (1, .int v1)] [] := by
  unfold f_X7_starts_L2 at h
  refine z_iload_n hX dX7_starts_2 1 rfl 3 rfl ?_
  refine z_sipush hX (v := (nI 131)) dX7_starts_3 (by decide) 6 rfl ?_
  refine z_icmp_ge hX 27 dX7_starts_6 (by decide) 9 rfl (fun c1 => ?_) (fun c1 => ?_)
  · replace h := br_pos h c1
    replace h := Option.some.inj h
    subst h
    exact z_vret hX dX7_starts_27 rfl hk
  · replace h := br_neg h c1
    refine z_aload_n hX dX7_starts_9 0 rfl 10 rfl ?_
    refine z_get7 hX (k := 189) (j := 1) (v := .ref (gL Γ (191))) kdc_189 (by decide) rfl dX7_starts_10 fl_X7_13 13 rfl ?_
    refine z_iload_n hX dX7_starts_13 1 rfl 14 rfl ?_
    refine z_aload_n hX dX7_starts_14 0 rfl 15 rfl ?_
    refine z_get7 hX (k := 189) (j := 0) (v := .ref (gL Γ (190))) kdc_189 (by decide) rfl dX7_starts_15 fl_X7_7 18 rfl ?_
    refine z_iload_n hX dX7_starts_18 1 rfl 19 rfl ?_
    replace h := gd_elim h
    obtain ⟨g2, h⟩ := h
    refine z_iald hX (inb_vp g2) dX7_starts_19 20 rfl ?_
    replace h := gd_elim h
    obtain ⟨g3, h⟩ := h
    replace h := bd_elim h
    obtain ⟨s4, es4, h⟩ := h
    refine z_iast hX (inb_vp g3) dX7_starts_20 es4 21 rfl ?_
    refine z_iinc hX (v := (v1 + (nI 1))) (lv2 := [(1, .int ((v1 + (nI 1)))), (0, .ref (gL Γ (189)))]) dX7_starts_21 1 rfl rfl (by decide) rfl 24 rfl ?_
    refine z_goto hX 2 dX7_starts_24 (by decide) ?_
    replace h := Option.some.inj h
    subst h
    exact z_sub [1, 0] rfl hk
set_option maxHeartbeats 4000000 in
set_option maxRecDepth 100000 in
theorem e_X7_starts {X : Cx} {Γ : Gm} {r0 : Rb} (hX : Amb X Γ cX7_starts RX7 2 none 0) {s : St} {t : Unit × St} (h : f_X7_starts s = some t) (hk : (fun t : Unit × St => Rt X Γ r0 (none, t.2)) t) : Zw X Γ 2 r0 s 0 [(0, .ref (gL Γ (189)))] [] := by
  unfold f_X7_starts at h
  refine z_iconst hX (v := (nI 0)) dX7_starts_0 rfl 1 rfl ?_
  refine z_istore_n hX (lv2 := [(1, .int ((nI 0))), (0, .ref (gL Γ (189)))]) dX7_starts_1 (by decide) rfl 2 rfl ?_
  exact z_sub [1, 0] rfl (lp_ok (Z := fun q : Int32 × St => Zw X Γ 2 r0 q.2 2 [(0, .ref (gL Γ (189))), (1, .int q.1)] []) (fun q t h hk => e_X7_starts_L2 hX h hk) Fu _ _ h hk)
theorem c_X7_starts {lc : Launch} {Γ : Gm} {s s2 : St} {v : Unit} (h : f_X7_starts s = some (v, s2)) : Ct lc Γ yX7_starts cX7_starts 2 none 0 [.ref (gL Γ (189))] s (none, s2) := Ct.of (by decide +kernel) (Nat.le_of_ble_eq_true rfl) (fun X hl hX => e_X7_starts hX h rfl)
theorem dX7_settles_0 : decode cX7_settles 0 = .ok (.iconst 0, 1) := by decide +kernel
theorem dX7_settles_1 : decode cX7_settles 1 = .ok (.istore_n 1, 1) := by decide +kernel
theorem dX7_settles_2 : decode cX7_settles 2 = .ok (.iload_n 1, 1) := by decide +kernel
theorem dX7_settles_3 : decode cX7_settles 3 = .ok (.sipush 131, 3) := by decide +kernel
theorem dX7_settles_6 : decode cX7_settles 6 = .ok (.if_icmp .ge 21, 3) := by decide +kernel
theorem dX7_settles_9 : decode cX7_settles 9 = .ok (.aload_n 0, 1) := by decide +kernel
theorem dX7_settles_10 : decode cX7_settles 10 = .ok (.getfield 7, 3) := by decide +kernel
theorem dX7_settles_13 : decode cX7_settles 13 = .ok (.iload_n 1, 1) := by decide +kernel
theorem dX7_settles_14 : decode cX7_settles 14 = .ok (.aload_n 0, 1) := by decide +kernel
theorem dX7_settles_15 : decode cX7_settles 15 = .ok (.getfield 13, 3) := by decide +kernel
theorem dX7_settles_18 : decode cX7_settles 18 = .ok (.iload_n 1, 1) := by decide +kernel
theorem dX7_settles_19 : decode cX7_settles 19 = .ok (.iaload, 1) := by decide +kernel
theorem dX7_settles_20 : decode cX7_settles 20 = .ok (.iastore, 1) := by decide +kernel
theorem dX7_settles_21 : decode cX7_settles 21 = .ok (.iinc 1 1, 3) := by decide +kernel
theorem dX7_settles_24 : decode cX7_settles 24 = .ok (.goto (-22), 3) := by decide +kernel
theorem dX7_settles_27 : decode cX7_settles 27 = .ok (.return_, 1) := by decide +kernel
def f_X7_settles_L2 (v1 : Int32) (s : St) : Option ((Int32 × St) ⊕ (Unit × St)) := if (nI 131) ≤ v1 then (some (Sum.inr (((), s)))) else (if inb v1 (lnI 191) = true then if inb v1 (lnI 190) = true then bd (wI s 190 (v1).toNatClampNeg (s.1 191 (v1).toNatClampNeg)) (fun s4 => some (Sum.inl ((v1 + (nI 1)), s4))) else none else none)
def f_X7_settles (s : St) : Option (Unit × St) := lp (fun q : Int32 × St => f_X7_settles_L2 q.1 q.2) Fu ((nI 0), s)
set_option maxHeartbeats 4000000 in
set_option maxRecDepth 100000 in
theorem e_X7_settles_L2 {X : Cx} {Γ : Gm} {r0 : Rb} (hX : Amb X Γ cX7_settles RX7 2 none 0) {v1 : Int32} {s : St} {t : (Int32 × St) ⊕ (Unit × St)} (h : f_X7_settles_L2 v1 s = some t) (hk : (Sum.elim (fun q : Int32 × St => Zw X Γ 2 r0 q.2 2 [(0, .ref (gL Γ (189))), (1, .int q.1)] []) (fun t : Unit × St => Rt X Γ r0 (none, t.2))) t) : Zw X Γ 2 r0 s 2 [(0, .ref (gL Γ (189))), (1, .int v1)] [] := by
  unfold f_X7_settles_L2 at h
  refine z_iload_n hX dX7_settles_2 1 rfl 3 rfl ?_
  refine z_sipush hX (v := (nI 131)) dX7_settles_3 (by decide) 6 rfl ?_
  refine z_icmp_ge hX 27 dX7_settles_6 (by decide) 9 rfl (fun c1 => ?_) (fun c1 => ?_)
  · replace h := br_pos h c1
    replace h := Option.some.inj h
    subst h
    exact z_vret hX dX7_settles_27 rfl hk
  · replace h := br_neg h c1
    refine z_aload_n hX dX7_settles_9 0 rfl 10 rfl ?_
    refine z_get7 hX (k := 189) (j := 0) (v := .ref (gL Γ (190))) kdc_189 (by decide) rfl dX7_settles_10 fl_X7_7 13 rfl ?_
    refine z_iload_n hX dX7_settles_13 1 rfl 14 rfl ?_
    refine z_aload_n hX dX7_settles_14 0 rfl 15 rfl ?_
    refine z_get7 hX (k := 189) (j := 1) (v := .ref (gL Γ (191))) kdc_189 (by decide) rfl dX7_settles_15 fl_X7_13 18 rfl ?_
    refine z_iload_n hX dX7_settles_18 1 rfl 19 rfl ?_
    replace h := gd_elim h
    obtain ⟨g2, h⟩ := h
    refine z_iald hX (inb_vp g2) dX7_settles_19 20 rfl ?_
    replace h := gd_elim h
    obtain ⟨g3, h⟩ := h
    replace h := bd_elim h
    obtain ⟨s4, es4, h⟩ := h
    refine z_iast hX (inb_vp g3) dX7_settles_20 es4 21 rfl ?_
    refine z_iinc hX (v := (v1 + (nI 1))) (lv2 := [(1, .int ((v1 + (nI 1)))), (0, .ref (gL Γ (189)))]) dX7_settles_21 1 rfl rfl (by decide) rfl 24 rfl ?_
    refine z_goto hX 2 dX7_settles_24 (by decide) ?_
    replace h := Option.some.inj h
    subst h
    exact z_sub [1, 0] rfl hk
set_option maxHeartbeats 4000000 in
set_option maxRecDepth 100000 in
theorem e_X7_settles {X : Cx} {Γ : Gm} {r0 : Rb} (hX : Amb X Γ cX7_settles RX7 2 none 0) {s : St} {t : Unit × St} (h : f_X7_settles s = some t) (hk : (fun t : Unit × St => Rt X Γ r0 (none, t.2)) t) : Zw X Γ 2 r0 s 0 [(0, .ref (gL Γ (189)))] [] := by
  unfold f_X7_settles at h
  refine z_iconst hX (v := (nI 0)) dX7_settles_0 rfl 1 rfl ?_
  refine z_istore_n hX (lv2 := [(1, .int ((nI 0))), (0, .ref (gL Γ (189)))]) dX7_settles_1 (by decide) rfl 2 rfl ?_
  exact z_sub [1, 0] rfl (lp_ok (Z := fun q : Int32 × St => Zw X Γ 2 r0 q.2 2 [(0, .ref (gL Γ (189))), (1, .int q.1)] []) (fun q t h hk => e_X7_settles_L2 hX h hk) Fu _ _ h hk)
theorem c_X7_settles {lc : Launch} {Γ : Gm} {s s2 : St} {v : Unit} (h : f_X7_settles s = some (v, s2)) : Ct lc Γ yX7_settles cX7_settles 2 none 0 [.ref (gL Γ (189))] s (none, s2) := Ct.of (by decide +kernel) (Nat.le_of_ble_eq_true rfl) (fun X hl hX => e_X7_settles hX h rfl)
theorem dX7_moves_0 : decode cX7_moves 0 = .ok (.iload_n 1, 1) := by decide +kernel
theorem dX7_moves_1 : decode cX7_moves 1 = .ok (.iconst 1, 1) := by decide +kernel
theorem dX7_moves_2 : decode cX7_moves 2 = .ok (.iadd, 1) := by decide +kernel
theorem dX7_moves_3 : decode cX7_moves 3 = .ok (.iconst 2, 1) := by decide +kernel
theorem dX7_moves_4 : decode cX7_moves 4 = .ok (.idiv, 1) := by decide +kernel
theorem dX7_moves_5 : decode cX7_moves 5 = .ok (.istore_n 2, 1) := by decide +kernel
theorem dX7_moves_6 : decode cX7_moves 6 = .ok (.iload_n 2, 1) := by decide +kernel
theorem dX7_moves_7 : decode cX7_moves 7 = .ok (.iconst 2, 1) := by decide +kernel
theorem dX7_moves_8 : decode cX7_moves 8 = .ok (.idiv, 1) := by decide +kernel
theorem dX7_moves_9 : decode cX7_moves 9 = .ok (.istore_n 3, 1) := by decide +kernel
theorem dX7_moves_10 : decode cX7_moves 10 = .ok (.iload_n 0, 1) := by decide +kernel
theorem dX7_moves_11 : decode cX7_moves 11 = .ok (.iconst 1, 1) := by decide +kernel
theorem dX7_moves_12 : decode cX7_moves 12 = .ok (.if_icmp .ne 7, 3) := by decide +kernel
theorem dX7_moves_15 : decode cX7_moves 15 = .ok (.iload_n 3, 1) := by decide +kernel
theorem dX7_moves_16 : decode cX7_moves 16 = .ok (.goto 28, 3) := by decide +kernel
theorem dX7_moves_19 : decode cX7_moves 19 = .ok (.iload_n 0, 1) := by decide +kernel
theorem dX7_moves_20 : decode cX7_moves 20 = .ok (.iconst 2, 1) := by decide +kernel
theorem dX7_moves_21 : decode cX7_moves 21 = .ok (.if_icmp .ne 7, 3) := by decide +kernel
theorem dX7_moves_24 : decode cX7_moves 24 = .ok (.iload_n 1, 1) := by decide +kernel
theorem dX7_moves_25 : decode cX7_moves 25 = .ok (.goto 19, 3) := by decide +kernel
theorem dX7_moves_28 : decode cX7_moves 28 = .ok (.iload_n 0, 1) := by decide +kernel
theorem dX7_moves_29 : decode cX7_moves 29 = .ok (.iconst 3, 1) := by decide +kernel
theorem dX7_moves_30 : decode cX7_moves 30 = .ok (.if_icmp .ne 13, 3) := by decide +kernel
theorem dX7_moves_33 : decode cX7_moves 33 = .ok (.iload_n 1, 1) := by decide +kernel
theorem dX7_moves_34 : decode cX7_moves 34 = .ok (.iload_n 3, 1) := by decide +kernel
theorem dX7_moves_35 : decode cX7_moves 35 = .ok (.iconst 1, 1) := by decide +kernel
theorem dX7_moves_36 : decode cX7_moves 36 = .ok (.iadd, 1) := by decide +kernel
theorem dX7_moves_37 : decode cX7_moves 37 = .ok (.invokestatic 156, 3) := by decide +kernel
theorem dX7_moves_40 : decode cX7_moves 40 = .ok (.goto 4, 3) := by decide +kernel
theorem dX7_moves_43 : decode cX7_moves 43 = .ok (.iload_n 2, 1) := by decide +kernel
theorem dX7_moves_44 : decode cX7_moves 44 = .ok (.ireturn, 1) := by decide +kernel
def f_X7_moves (a0 : Int32) (a1 : Int32) (s : St) : Option (Int32 × St) := bd ((a1 + (nI 1)) / (nI 2)) (fun x1 => bd (x1 / (nI 2)) (fun x2 => if ¬ a0 = (nI 1) then (if ¬ a0 = (nI 2) then (if ¬ a0 = (nI 3) then (some ((x1, s))) else (cl (f_X7_lesser a1 (x2 + (nI 1)) s) (fun x7 s6 => some ((x7, s6))))) else (some ((a1, s)))) else (some ((x2, s)))))
set_option maxHeartbeats 4000000 in
set_option maxRecDepth 100000 in
theorem e_X7_moves {X : Cx} {Γ : Gm} {r0 : Rb} (hX : Amb X Γ cX7_moves RX7 4 (some .int) 1) {a0 : Int32} {a1 : Int32} {s : St} {t : Int32 × St} (h : f_X7_moves a0 a1 s = some t) (hk : (fun t : Int32 × St => Rt X Γ r0 (some (Value.int t.1), t.2)) t) : Zw X Γ 4 r0 s 0 [(0, .int a0), (1, .int a1)] [] := by
  unfold f_X7_moves at h
  refine z_iload_n hX dX7_moves_0 1 rfl 1 rfl ?_
  refine z_iconst hX (v := (nI 1)) dX7_moves_1 rfl 2 rfl ?_
  refine z_iadd hX dX7_moves_2 3 rfl ?_
  refine z_iconst hX (v := (nI 2)) dX7_moves_3 rfl 4 rfl ?_
  refine z_idiv hX dX7_moves_4 (by decide) 5 rfl ?_
  replace h := bd_elim h
  obtain ⟨x1, ex1, h⟩ := h
  refine z_nm ex1 ?_
  refine z_istore_n hX (lv2 := [(2, .int x1), (0, .int a0), (1, .int a1)]) dX7_moves_5 (by decide) rfl 6 rfl ?_
  refine z_iload_n hX dX7_moves_6 0 rfl 7 rfl ?_
  refine z_iconst hX (v := (nI 2)) dX7_moves_7 rfl 8 rfl ?_
  refine z_idiv hX dX7_moves_8 (by decide) 9 rfl ?_
  replace h := bd_elim h
  obtain ⟨x2, ex2, h⟩ := h
  refine z_nm ex2 ?_
  refine z_istore_n hX (lv2 := [(3, .int x2), (2, .int x1), (0, .int a0), (1, .int a1)]) dX7_moves_9 (by decide) rfl 10 rfl ?_
  refine z_iload_n hX dX7_moves_10 2 rfl 11 rfl ?_
  refine z_iconst hX (v := (nI 1)) dX7_moves_11 rfl 12 rfl ?_
  refine z_icmp_ne hX 19 dX7_moves_12 (by decide) 15 rfl (fun c3 => ?_) (fun c3 => ?_)
  · replace h := br_pos h c3
    refine z_iload_n hX dX7_moves_19 2 rfl 20 rfl ?_
    refine z_iconst hX (v := (nI 2)) dX7_moves_20 rfl 21 rfl ?_
    refine z_icmp_ne hX 28 dX7_moves_21 (by decide) 24 rfl (fun c4 => ?_) (fun c4 => ?_)
    · replace h := br_pos h c4
      refine z_iload_n hX dX7_moves_28 2 rfl 29 rfl ?_
      refine z_iconst hX (v := (nI 3)) dX7_moves_29 rfl 30 rfl ?_
      refine z_icmp_ne hX 43 dX7_moves_30 (by decide) 33 rfl (fun c5 => ?_) (fun c5 => ?_)
      · replace h := br_pos h c5
        refine z_iload_n hX dX7_moves_43 1 rfl 44 rfl ?_
        replace h := Option.some.inj h
        subst h
        exact z_iret hX dX7_moves_44 rfl hk
      · replace h := br_neg h c5
        refine z_iload_n hX dX7_moves_33 3 rfl 34 rfl ?_
        refine z_iload_n hX dX7_moves_34 0 rfl 35 rfl ?_
        refine z_iconst hX (v := (nI 1)) dX7_moves_35 rfl 36 rfl ?_
        refine z_iadd hX dX7_moves_36 37 rfl ?_
        replace h := cl_elim h
        obtain ⟨x7, s6, hx7, h⟩ := h
        refine z_cSi hX (As := [.int a1, .int ((x2 + (nI 1)))]) (c_X7_lesser hx7) lk_X7_156 ds_X7_lesser rfl (by decide) (by decide) (by decide) dX7_moves_37 rfl 40 rfl ?_
        refine z_goto hX 44 dX7_moves_40 (by decide) ?_
        replace h := Option.some.inj h
        subst h
        exact z_iret hX dX7_moves_44 rfl hk
    · replace h := br_neg h c4
      refine z_iload_n hX dX7_moves_24 3 rfl 25 rfl ?_
      refine z_goto hX 44 dX7_moves_25 (by decide) ?_
      replace h := Option.some.inj h
      subst h
      exact z_iret hX dX7_moves_44 rfl hk
  · replace h := br_neg h c3
    refine z_iload_n hX dX7_moves_15 0 rfl 16 rfl ?_
    refine z_goto hX 44 dX7_moves_16 (by decide) ?_
    replace h := Option.some.inj h
    subst h
    exact z_iret hX dX7_moves_44 rfl hk
theorem c_X7_moves {lc : Launch} {Γ : Gm} {a0 : Int32} {a1 : Int32} {s s2 : St} {v : Int32} (h : f_X7_moves a0 a1 s = some (v, s2)) : Ct lc Γ yX7_moves cX7_moves 4 (some .int) 1 [.int a0, .int a1] s (some (.int v), s2) := Ct.of (by decide +kernel) (Nat.le_of_ble_eq_true rfl) (fun X hl hX => e_X7_moves hX h rfl)

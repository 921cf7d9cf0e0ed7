/-- the script, as the law's walk reads it -/
def Scr (X : Cx) (Γ : Gm) (b L : Nat) (sc : Nat → Int32) (sx : State) : Prop := va_X b L sc sx sx.heap ∧ b < sx.heap.size ∧ ¬ gA Γ b ∧ L ≤ 320 ∧ sx = xs X
theorem z_sld {X : Cx} {Γ : Gm} {cc : ByteArray} {own : String} {nL : Nat} {ret : Option FieldType} {d : Nat} {r : Rb} {s : St} {pc : Nat} {lv : List (Nat × Value)} {st : List Value} (hX : Amb X Γ cc own nL ret d) {b L : Nat} {sc : Nat → Int32} {sx : State} (hsc : Scr X Γ b L sc sx) {i : Int32} (j : Nat) (hi : i = nI j) (hj : j < L) (hd : decode cc pc = .ok (.iaload, 1)) (pc2 : Nat) (hp : pc + 1 = pc2) (kk : Zw X Γ nL r s pc2 lv (.int (sc j) :: st)) : Zw X Γ nL r s pc lv (.int i :: .ref b :: st) := by
  subst hp; subst hi
  obtain ⟨hV, hbl, hbA, hL, rfl⟩ := hsc
  intro H locs ls hP hS hl hc
  refine va_sld hX.1 hX.2.1 hV hbl hbA hS (vp_in_nI hj (by omega)) hd ?_
  rw [nI_clamp (by omega)]
  exact kk H locs ls hP hS hl hc
theorem z_slen {X : Cx} {Γ : Gm} {cc : ByteArray} {own : String} {nL : Nat} {ret : Option FieldType} {d : Nat} {r : Rb} {s : St} {pc : Nat} {lv : List (Nat × Value)} {st : List Value} (hX : Amb X Γ cc own nL ret d) {b L : Nat} {sc : Nat → Int32} {sx : State} (hsc : Scr X Γ b L sc sx) (hd : decode cc pc = .ok (.arraylength, 1)) (pc2 : Nat) (hp : pc + 1 = pc2) (kk : Zw X Γ nL r s pc2 lv (.int (nI L) :: st)) : Zw X Γ nL r s pc lv (.ref b :: st) := by
  subst hp
  obtain ⟨hV, hbl, hbA, hL, rfl⟩ := hsc
  intro H locs ls hP hS hl hc
  exact va_slen hX.1 hX.2.1 hV hbl hbA hS hd (kk H locs ls hP hS hl hc)
def Op0 (f g : St → Option (Int32 × St)) (G : Nat → St → Prop) : Prop := ∀ n s, n < 64 → G n s → ∃ v s1 s2, f s = some (v, s1) ∧ g s1 = some (v, s2) ∧ G (n + 1) s2
def Op1 (f g : Int32 → St → Option (Int32 × St)) (G : Nat → St → Prop) : Prop := ∀ n s a, n < 64 → G n s → ∃ v s1 s2, f a s = some (v, s1) ∧ g a s1 = some (v, s2) ∧ G (n + 1) s2
def Op2 (f g : Int32 → Int32 → St → Option (Int32 × St)) (G : Nat → St → Prop) : Prop := ∀ n s a b, n < 64 → G n s → ∃ v s1 s2, f a b s = some (v, s1) ∧ g a b s1 = some (v, s2) ∧ G (n + 1) s2
def Op3 (f g : Int32 → Int32 → Int32 → St → Option (Int32 × St)) (G : Nat → St → Prop) : Prop := ∀ n s a b c, n < 64 → G n s → ∃ v s1 s2, f a b c s = some (v, s1) ∧ g a b c s1 = some (v, s2) ∧ G (n + 1) s2
def Op4 (f g : Int32 → Int32 → Int32 → Int32 → St → Option (Int32 × St)) (G : Nat → St → Prop) : Prop := ∀ n s a b c d, n < 64 → G n s → ∃ v s1 s2, f a b c d s = some (v, s1) ∧ g a b c d s1 = some (v, s2) ∧ G (n + 1) s2
def Op4L (f g : Int32 → Int32 → Int32 → Int32 → St → Option (Int64 × St)) (G : Nat → St → Prop) : Prop := ∀ n s a b c d, n < 64 → G n s → ∃ v s1 s2, f a b c d s = some (v, s1) ∧ g a b c d s1 = some (v, s2) ∧ G (n + 1) s2
theorem lk_L_13 : LkV RL 13 yX6_feed cX6_feed 2 (some .int) := ⟨gt_mem (tm2 (List.mem_of_getElem? (i := 25) rfl)) rfl, gt_mem (tm2 (List.mem_of_getElem? (i := 26) rfl)) rfl, gt_mem (tm2 (List.mem_of_getElem? (i := 27) rfl)) rfl, gt_mem (tm1 (List.mem_of_getElem? (i := 1) rfl)) rfl, gt_mem (tm2 (List.mem_of_getElem? (i := 28) rfl)) rfl⟩
theorem dl_X6_feed : Ds yX6_feed 1 := ⟨by decide +kernel, by decide +kernel, by decide +kernel⟩
theorem lk_L_17 : LkV RL 17 yX7_feed cX7_feed 2 (some .int) := ⟨gt_mem (tm4 (List.mem_of_getElem? (i := 164) rfl)) rfl, gt_mem (tm4 (List.mem_of_getElem? (i := 165) rfl)) rfl, gt_mem (tm4 (List.mem_of_getElem? (i := 166) rfl)) rfl, gt_mem (tm1 (List.mem_of_getElem? (i := 8) rfl)) rfl, gt_mem (tm4 (List.mem_of_getElem? (i := 167) rfl)) rfl⟩
theorem dl_X7_feed : Ds yX7_feed 1 := ⟨by decide +kernel, by decide +kernel, by decide +kernel⟩
theorem lk_L_18 : LkV RL 18 yX6_end cX6_end 3 (some .int) := ⟨gt_mem (tm2 (List.mem_of_getElem? (i := 36) rfl)) rfl, gt_mem (tm2 (List.mem_of_getElem? (i := 37) rfl)) rfl, gt_mem (tm2 (List.mem_of_getElem? (i := 38) rfl)) rfl, gt_mem (tm1 (List.mem_of_getElem? (i := 1) rfl)) rfl, gt_mem (tm2 (List.mem_of_getElem? (i := 39) rfl)) rfl⟩
theorem dl_X6_end : Ds yX6_end 1 := ⟨by decide +kernel, by decide +kernel, by decide +kernel⟩
theorem lk_L_21 : LkV RL 21 yX7_end cX7_end 3 (some .int) := ⟨gt_mem (tm4 (List.mem_of_getElem? (i := 172) rfl)) rfl, gt_mem (tm4 (List.mem_of_getElem? (i := 173) rfl)) rfl, gt_mem (tm4 (List.mem_of_getElem? (i := 174) rfl)) rfl, gt_mem (tm1 (List.mem_of_getElem? (i := 8) rfl)) rfl, gt_mem (tm4 (List.mem_of_getElem? (i := 175) rfl)) rfl⟩
theorem dl_X7_end : Ds yX7_end 1 := ⟨by decide +kernel, by decide +kernel, by decide +kernel⟩
theorem lk_L_22 : LkV RL 22 yX6_text cX6_text 3 (some .int) := ⟨gt_mem (tm2 (List.mem_of_getElem? (i := 40) rfl)) rfl, gt_mem (tm2 (List.mem_of_getElem? (i := 41) rfl)) rfl, gt_mem (tm2 (List.mem_of_getElem? (i := 42) rfl)) rfl, gt_mem (tm1 (List.mem_of_getElem? (i := 1) rfl)) rfl, gt_mem (tm2 (List.mem_of_getElem? (i := 43) rfl)) rfl⟩
theorem dl_X6_text : Ds yX6_text 0 := ⟨by decide +kernel, by decide +kernel, by decide +kernel⟩
theorem lk_L_26 : LkV RL 26 yX7_text cX7_text 2 (some .int) := ⟨gt_mem (tm4 (List.mem_of_getElem? (i := 176) rfl)) rfl, gt_mem (tm4 (List.mem_of_getElem? (i := 177) rfl)) rfl, gt_mem (tm4 (List.mem_of_getElem? (i := 178) rfl)) rfl, gt_mem (tm1 (List.mem_of_getElem? (i := 8) rfl)) rfl, gt_mem (tm4 (List.mem_of_getElem? (i := 179) rfl)) rfl⟩
theorem dl_X7_text : Ds yX7_text 0 := ⟨by decide +kernel, by decide +kernel, by decide +kernel⟩
theorem lk_L_27 : LkV RL 27 yX6_fault cX6_fault 1 (some .int) := ⟨gt_mem (tm2 (List.mem_of_getElem? (i := 168) rfl)) rfl, gt_mem (tm2 (List.mem_of_getElem? (i := 169) rfl)) rfl, gt_mem (tm2 (List.mem_of_getElem? (i := 170) rfl)) rfl, gt_mem (tm1 (List.mem_of_getElem? (i := 1) rfl)) rfl, gt_mem (tm2 (List.mem_of_getElem? (i := 171) rfl)) rfl⟩
theorem dl_X6_fault : Ds yX6_fault 0 := ⟨by decide +kernel, by decide +kernel, by decide +kernel⟩
theorem lk_L_30 : LkV RL 30 yX7_fault cX7_fault 1 (some .int) := ⟨gt_mem (tm4 (List.mem_of_getElem? (i := 239) rfl)) rfl, gt_mem (tm5 (List.mem_of_getElem? (i := 0) rfl)) rfl, gt_mem (tm5 (List.mem_of_getElem? (i := 1) rfl)) rfl, gt_mem (tm1 (List.mem_of_getElem? (i := 8) rfl)) rfl, gt_mem (tm5 (List.mem_of_getElem? (i := 2) rfl)) rfl⟩
theorem dl_X7_fault : Ds yX7_fault 0 := ⟨by decide +kernel, by decide +kernel, by decide +kernel⟩
theorem lk_L_31 : LkV RL 31 yX6_rule cX6_rule 2 (some .int) := ⟨gt_mem (tm2 (List.mem_of_getElem? (i := 172) rfl)) rfl, gt_mem (tm2 (List.mem_of_getElem? (i := 173) rfl)) rfl, gt_mem (tm2 (List.mem_of_getElem? (i := 174) rfl)) rfl, gt_mem (tm1 (List.mem_of_getElem? (i := 1) rfl)) rfl, gt_mem (tm2 (List.mem_of_getElem? (i := 175) rfl)) rfl⟩
theorem dl_X6_rule : Ds yX6_rule 1 := ⟨by decide +kernel, by decide +kernel, by decide +kernel⟩
theorem lk_L_34 : LkV RL 34 yX7_rule cX7_rule 2 (some .int) := ⟨gt_mem (tm5 (List.mem_of_getElem? (i := 3) rfl)) rfl, gt_mem (tm5 (List.mem_of_getElem? (i := 4) rfl)) rfl, gt_mem (tm5 (List.mem_of_getElem? (i := 5) rfl)) rfl, gt_mem (tm1 (List.mem_of_getElem? (i := 8) rfl)) rfl, gt_mem (tm5 (List.mem_of_getElem? (i := 6) rfl)) rfl⟩
theorem dl_X7_rule : Ds yX7_rule 1 := ⟨by decide +kernel, by decide +kernel, by decide +kernel⟩
theorem lk_L_35 : LkV RL 35 yX6_life cX6_life 3 (some .int) := ⟨gt_mem (tm2 (List.mem_of_getElem? (i := 192) rfl)) rfl, gt_mem (tm2 (List.mem_of_getElem? (i := 193) rfl)) rfl, gt_mem (tm2 (List.mem_of_getElem? (i := 194) rfl)) rfl, gt_mem (tm1 (List.mem_of_getElem? (i := 1) rfl)) rfl, gt_mem (tm2 (List.mem_of_getElem? (i := 195) rfl)) rfl⟩
theorem dl_X6_life : Ds yX6_life 2 := ⟨by decide +kernel, by decide +kernel, by decide +kernel⟩
theorem lk_L_39 : LkV RL 39 yX7_life cX7_life 3 (some .int) := ⟨gt_mem (tm5 (List.mem_of_getElem? (i := 31) rfl)) rfl, gt_mem (tm5 (List.mem_of_getElem? (i := 32) rfl)) rfl, gt_mem (tm5 (List.mem_of_getElem? (i := 33) rfl)) rfl, gt_mem (tm1 (List.mem_of_getElem? (i := 8) rfl)) rfl, gt_mem (tm5 (List.mem_of_getElem? (i := 34) rfl)) rfl⟩
theorem dl_X7_life : Ds yX7_life 2 := ⟨by decide +kernel, by decide +kernel, by decide +kernel⟩
theorem lk_L_40 : LkV RL 40 yX6_sitter cX6_sitter 3 (some .int) := ⟨gt_mem (tm2 (List.mem_of_getElem? (i := 207) rfl)) rfl, gt_mem (tm2 (List.mem_of_getElem? (i := 208) rfl)) rfl, gt_mem (tm2 (List.mem_of_getElem? (i := 209) rfl)) rfl, gt_mem (tm1 (List.mem_of_getElem? (i := 1) rfl)) rfl, gt_mem (tm2 (List.mem_of_getElem? (i := 210) rfl)) rfl⟩
theorem dl_X6_sitter : Ds yX6_sitter 2 := ⟨by decide +kernel, by decide +kernel, by decide +kernel⟩
theorem lk_L_43 : LkV RL 43 yX7_sitter cX7_sitter 4 (some .int) := ⟨gt_mem (tm5 (List.mem_of_getElem? (i := 45) rfl)) rfl, gt_mem (tm5 (List.mem_of_getElem? (i := 46) rfl)) rfl, gt_mem (tm5 (List.mem_of_getElem? (i := 47) rfl)) rfl, gt_mem (tm1 (List.mem_of_getElem? (i := 8) rfl)) rfl, gt_mem (tm5 (List.mem_of_getElem? (i := 48) rfl)) rfl⟩
theorem dl_X7_sitter : Ds yX7_sitter 2 := ⟨by decide +kernel, by decide +kernel, by decide +kernel⟩
theorem lk_L_44 : LkV RL 44 yX6_has cX6_has 3 (some .int) := ⟨gt_mem (tm2 (List.mem_of_getElem? (i := 219) rfl)) rfl, gt_mem (tm2 (List.mem_of_getElem? (i := 220) rfl)) rfl, gt_mem (tm2 (List.mem_of_getElem? (i := 221) rfl)) rfl, gt_mem (tm1 (List.mem_of_getElem? (i := 1) rfl)) rfl, gt_mem (tm2 (List.mem_of_getElem? (i := 222) rfl)) rfl⟩
theorem dl_X6_has : Ds yX6_has 2 := ⟨by decide +kernel, by decide +kernel, by decide +kernel⟩
theorem lk_L_47 : LkV RL 47 yX7_has cX7_has 3 (some .int) := ⟨gt_mem (tm5 (List.mem_of_getElem? (i := 57) rfl)) rfl, gt_mem (tm5 (List.mem_of_getElem? (i := 58) rfl)) rfl, gt_mem (tm5 (List.mem_of_getElem? (i := 59) rfl)) rfl, gt_mem (tm1 (List.mem_of_getElem? (i := 8) rfl)) rfl, gt_mem (tm5 (List.mem_of_getElem? (i := 60) rfl)) rfl⟩
theorem dl_X7_has : Ds yX7_has 2 := ⟨by decide +kernel, by decide +kernel, by decide +kernel⟩
theorem lk_L_48 : LkV RL 48 yX6_in cX6_in 4 (some .int) := ⟨gt_mem (tm2 (List.mem_of_getElem? (i := 224) rfl)) rfl, gt_mem (tm2 (List.mem_of_getElem? (i := 225) rfl)) rfl, gt_mem (tm2 (List.mem_of_getElem? (i := 226) rfl)) rfl, gt_mem (tm1 (List.mem_of_getElem? (i := 1) rfl)) rfl, gt_mem (tm2 (List.mem_of_getElem? (i := 227) rfl)) rfl⟩
theorem dl_X6_in : Ds yX6_in 2 := ⟨by decide +kernel, by decide +kernel, by decide +kernel⟩
theorem lk_L_51 : LkV RL 51 yX7_in cX7_in 3 (some .int) := ⟨gt_mem (tm5 (List.mem_of_getElem? (i := 61) rfl)) rfl, gt_mem (tm5 (List.mem_of_getElem? (i := 62) rfl)) rfl, gt_mem (tm5 (List.mem_of_getElem? (i := 63) rfl)) rfl, gt_mem (tm1 (List.mem_of_getElem? (i := 8) rfl)) rfl, gt_mem (tm5 (List.mem_of_getElem? (i := 64) rfl)) rfl⟩
theorem dl_X7_in : Ds yX7_in 2 := ⟨by decide +kernel, by decide +kernel, by decide +kernel⟩
theorem lk_L_52 : LkV RL 52 yX6_air cX6_air 2 (some .int) := ⟨gt_mem (tm2 (List.mem_of_getElem? (i := 228) rfl)) rfl, gt_mem (tm2 (List.mem_of_getElem? (i := 229) rfl)) rfl, gt_mem (tm2 (List.mem_of_getElem? (i := 230) rfl)) rfl, gt_mem (tm1 (List.mem_of_getElem? (i := 1) rfl)) rfl, gt_mem (tm2 (List.mem_of_getElem? (i := 231) rfl)) rfl⟩
theorem dl_X6_air : Ds yX6_air 1 := ⟨by decide +kernel, by decide +kernel, by decide +kernel⟩
theorem lk_L_55 : LkV RL 55 yX7_air cX7_air 2 (some .int) := ⟨gt_mem (tm5 (List.mem_of_getElem? (i := 65) rfl)) rfl, gt_mem (tm5 (List.mem_of_getElem? (i := 66) rfl)) rfl, gt_mem (tm5 (List.mem_of_getElem? (i := 67) rfl)) rfl, gt_mem (tm1 (List.mem_of_getElem? (i := 8) rfl)) rfl, gt_mem (tm5 (List.mem_of_getElem? (i := 68) rfl)) rfl⟩
theorem dl_X7_air : Ds yX7_air 1 := ⟨by decide +kernel, by decide +kernel, by decide +kernel⟩
theorem lk_L_56 : LkV RL 56 yX6_alter cX6_alter 4 (some .int) := ⟨gt_mem (tm2 (List.mem_of_getElem? (i := 232) rfl)) rfl, gt_mem (tm2 (List.mem_of_getElem? (i := 233) rfl)) rfl, gt_mem (tm2 (List.mem_of_getElem? (i := 234) rfl)) rfl, gt_mem (tm1 (List.mem_of_getElem? (i := 1) rfl)) rfl, gt_mem (tm2 (List.mem_of_getElem? (i := 235) rfl)) rfl⟩
theorem dl_X6_alter : Ds yX6_alter 3 := ⟨by decide +kernel, by decide +kernel, by decide +kernel⟩
theorem lk_L_60 : LkV RL 60 yX7_alter cX7_alter 4 (some .int) := ⟨gt_mem (tm5 (List.mem_of_getElem? (i := 70) rfl)) rfl, gt_mem (tm5 (List.mem_of_getElem? (i := 71) rfl)) rfl, gt_mem (tm5 (List.mem_of_getElem? (i := 72) rfl)) rfl, gt_mem (tm1 (List.mem_of_getElem? (i := 8) rfl)) rfl, gt_mem (tm5 (List.mem_of_getElem? (i := 73) rfl)) rfl⟩
theorem dl_X7_alter : Ds yX7_alter 3 := ⟨by decide +kernel, by decide +kernel, by decide +kernel⟩
theorem lk_L_61 : LkV RL 61 yX6_seat cX6_seat 4 (some .int) := ⟨gt_mem (tm3 (List.mem_of_getElem? (i := 0) rfl)) rfl, gt_mem (tm3 (List.mem_of_getElem? (i := 1) rfl)) rfl, gt_mem (tm3 (List.mem_of_getElem? (i := 2) rfl)) rfl, gt_mem (tm1 (List.mem_of_getElem? (i := 1) rfl)) rfl, gt_mem (tm3 (List.mem_of_getElem? (i := 3) rfl)) rfl⟩
theorem dl_X6_seat : Ds yX6_seat 3 := ⟨by decide +kernel, by decide +kernel, by decide +kernel⟩
theorem lk_L_64 : LkV RL 64 yX7_seat cX7_seat 4 (some .int) := ⟨gt_mem (tm5 (List.mem_of_getElem? (i := 84) rfl)) rfl, gt_mem (tm5 (List.mem_of_getElem? (i := 85) rfl)) rfl, gt_mem (tm5 (List.mem_of_getElem? (i := 86) rfl)) rfl, gt_mem (tm1 (List.mem_of_getElem? (i := 8) rfl)) rfl, gt_mem (tm5 (List.mem_of_getElem? (i := 87) rfl)) rfl⟩
theorem dl_X7_seat : Ds yX7_seat 3 := ⟨by decide +kernel, by decide +kernel, by decide +kernel⟩
theorem lk_L_65 : LkV RL 65 yX6_blow cX6_blow 3 (some .int) := ⟨gt_mem (tm3 (List.mem_of_getElem? (i := 4) rfl)) rfl, gt_mem (tm3 (List.mem_of_getElem? (i := 5) rfl)) rfl, gt_mem (tm3 (List.mem_of_getElem? (i := 6) rfl)) rfl, gt_mem (tm1 (List.mem_of_getElem? (i := 1) rfl)) rfl, gt_mem (tm3 (List.mem_of_getElem? (i := 7) rfl)) rfl⟩
theorem dl_X6_blow : Ds yX6_blow 2 := ⟨by decide +kernel, by decide +kernel, by decide +kernel⟩
theorem lk_L_68 : LkV RL 68 yX7_blow cX7_blow 3 (some .int) := ⟨gt_mem (tm5 (List.mem_of_getElem? (i := 88) rfl)) rfl, gt_mem (tm5 (List.mem_of_getElem? (i := 89) rfl)) rfl, gt_mem (tm5 (List.mem_of_getElem? (i := 90) rfl)) rfl, gt_mem (tm1 (List.mem_of_getElem? (i := 8) rfl)) rfl, gt_mem (tm5 (List.mem_of_getElem? (i := 91) rfl)) rfl⟩
theorem dl_X7_blow : Ds yX7_blow 2 := ⟨by decide +kernel, by decide +kernel, by decide +kernel⟩
theorem lk_L_69 : LkV RL 69 yX6_price cX6_price 3 (some .int) := ⟨gt_mem (tm3 (List.mem_of_getElem? (i := 8) rfl)) rfl, gt_mem (tm3 (List.mem_of_getElem? (i := 9) rfl)) rfl, gt_mem (tm3 (List.mem_of_getElem? (i := 10) rfl)) rfl, gt_mem (tm1 (List.mem_of_getElem? (i := 1) rfl)) rfl, gt_mem (tm3 (List.mem_of_getElem? (i := 11) rfl)) rfl⟩
theorem dl_X6_price : Ds yX6_price 2 := ⟨by decide +kernel, by decide +kernel, by decide +kernel⟩
theorem lk_L_72 : LkV RL 72 yX7_price cX7_price 3 (some .int) := ⟨gt_mem (tm5 (List.mem_of_getElem? (i := 93) rfl)) rfl, gt_mem (tm5 (List.mem_of_getElem? (i := 94) rfl)) rfl, gt_mem (tm5 (List.mem_of_getElem? (i := 95) rfl)) rfl, gt_mem (tm1 (List.mem_of_getElem? (i := 8) rfl)) rfl, gt_mem (tm5 (List.mem_of_getElem? (i := 96) rfl)) rfl⟩
theorem dl_X7_price : Ds yX7_price 2 := ⟨by decide +kernel, by decide +kernel, by decide +kernel⟩
theorem lk_L_73 : LkV RL 73 yX6_open cX6_open 2 (some .int) := ⟨gt_mem (tm3 (List.mem_of_getElem? (i := 12) rfl)) rfl, gt_mem (tm3 (List.mem_of_getElem? (i := 13) rfl)) rfl, gt_mem (tm3 (List.mem_of_getElem? (i := 14) rfl)) rfl, gt_mem (tm1 (List.mem_of_getElem? (i := 1) rfl)) rfl, gt_mem (tm3 (List.mem_of_getElem? (i := 15) rfl)) rfl⟩
theorem dl_X6_open : Ds yX6_open 0 := ⟨by decide +kernel, by decide +kernel, by decide +kernel⟩
theorem lk_L_76 : LkV RL 76 yX7_open cX7_open 3 (some .int) := ⟨gt_mem (tm5 (List.mem_of_getElem? (i := 97) rfl)) rfl, gt_mem (tm5 (List.mem_of_getElem? (i := 98) rfl)) rfl, gt_mem (tm5 (List.mem_of_getElem? (i := 99) rfl)) rfl, gt_mem (tm1 (List.mem_of_getElem? (i := 8) rfl)) rfl, gt_mem (tm5 (List.mem_of_getElem? (i := 100) rfl)) rfl⟩
theorem dl_X7_open : Ds yX7_open 0 := ⟨by decide +kernel, by decide +kernel, by decide +kernel⟩
theorem lk_L_77 : LkV RL 77 yX6_steps cX6_steps 2 (some .int) := ⟨gt_mem (tm3 (List.mem_of_getElem? (i := 20) rfl)) rfl, gt_mem (tm3 (List.mem_of_getElem? (i := 21) rfl)) rfl, gt_mem (tm3 (List.mem_of_getElem? (i := 22) rfl)) rfl, gt_mem (tm1 (List.mem_of_getElem? (i := 1) rfl)) rfl, gt_mem (tm3 (List.mem_of_getElem? (i := 23) rfl)) rfl⟩
theorem dl_X6_steps : Ds yX6_steps 1 := ⟨by decide +kernel, by decide +kernel, by decide +kernel⟩
theorem lk_L_80 : LkV RL 80 yX7_steps cX7_steps 3 (some .int) := ⟨gt_mem (tm5 (List.mem_of_getElem? (i := 101) rfl)) rfl, gt_mem (tm5 (List.mem_of_getElem? (i := 102) rfl)) rfl, gt_mem (tm5 (List.mem_of_getElem? (i := 103) rfl)) rfl, gt_mem (tm1 (List.mem_of_getElem? (i := 8) rfl)) rfl, gt_mem (tm5 (List.mem_of_getElem? (i := 104) rfl)) rfl⟩
theorem dl_X7_steps : Ds yX7_steps 1 := ⟨by decide +kernel, by decide +kernel, by decide +kernel⟩
theorem lk_L_81 : LkV RL 81 yX6_runs cX6_runs 3 (some .int) := ⟨gt_mem (tm3 (List.mem_of_getElem? (i := 66) rfl)) rfl, gt_mem (tm3 (List.mem_of_getElem? (i := 67) rfl)) rfl, gt_mem (tm3 (List.mem_of_getElem? (i := 68) rfl)) rfl, gt_mem (tm1 (List.mem_of_getElem? (i := 1) rfl)) rfl, gt_mem (tm3 (List.mem_of_getElem? (i := 69) rfl)) rfl⟩
theorem dl_X6_runs : Ds yX6_runs 2 := ⟨by decide +kernel, by decide +kernel, by decide +kernel⟩
theorem lk_L_84 : LkV RL 84 yX7_runs cX7_runs 6 (some .int) := ⟨gt_mem (tm5 (List.mem_of_getElem? (i := 139) rfl)) rfl, gt_mem (tm5 (List.mem_of_getElem? (i := 140) rfl)) rfl, gt_mem (tm5 (List.mem_of_getElem? (i := 141) rfl)) rfl, gt_mem (tm1 (List.mem_of_getElem? (i := 8) rfl)) rfl, gt_mem (tm5 (List.mem_of_getElem? (i := 142) rfl)) rfl⟩
theorem dl_X7_runs : Ds yX7_runs 2 := ⟨by decide +kernel, by decide +kernel, by decide +kernel⟩
theorem lk_L_85 : LkV RL 85 yX6_ahead cX6_ahead 4 (some .int) := ⟨gt_mem (tm3 (List.mem_of_getElem? (i := 74) rfl)) rfl, gt_mem (tm3 (List.mem_of_getElem? (i := 75) rfl)) rfl, gt_mem (tm3 (List.mem_of_getElem? (i := 76) rfl)) rfl, gt_mem (tm1 (List.mem_of_getElem? (i := 1) rfl)) rfl, gt_mem (tm3 (List.mem_of_getElem? (i := 77) rfl)) rfl⟩
theorem dl_X6_ahead : Ds yX6_ahead 3 := ⟨by decide +kernel, by decide +kernel, by decide +kernel⟩
theorem lk_L_88 : LkV RL 88 yX7_ahead cX7_ahead 4 (some .int) := ⟨gt_mem (tm5 (List.mem_of_getElem? (i := 147) rfl)) rfl, gt_mem (tm5 (List.mem_of_getElem? (i := 148) rfl)) rfl, gt_mem (tm5 (List.mem_of_getElem? (i := 149) rfl)) rfl, gt_mem (tm1 (List.mem_of_getElem? (i := 8) rfl)) rfl, gt_mem (tm5 (List.mem_of_getElem? (i := 150) rfl)) rfl⟩
theorem dl_X7_ahead : Ds yX7_ahead 3 := ⟨by decide +kernel, by decide +kernel, by decide +kernel⟩
theorem lk_L_89 : LkV RL 89 yX6_wet cX6_wet 4 (some .int) := ⟨gt_mem (tm3 (List.mem_of_getElem? (i := 78) rfl)) rfl, gt_mem (tm3 (List.mem_of_getElem? (i := 79) rfl)) rfl, gt_mem (tm3 (List.mem_of_getElem? (i := 80) rfl)) rfl, gt_mem (tm1 (List.mem_of_getElem? (i := 1) rfl)) rfl, gt_mem (tm3 (List.mem_of_getElem? (i := 81) rfl)) rfl⟩
theorem dl_X6_wet : Ds yX6_wet 2 := ⟨by decide +kernel, by decide +kernel, by decide +kernel⟩
theorem lk_L_92 : LkV RL 92 yX7_wet cX7_wet 4 (some .int) := ⟨gt_mem (tm5 (List.mem_of_getElem? (i := 151) rfl)) rfl, gt_mem (tm5 (List.mem_of_getElem? (i := 152) rfl)) rfl, gt_mem (tm5 (List.mem_of_getElem? (i := 153) rfl)) rfl, gt_mem (tm1 (List.mem_of_getElem? (i := 8) rfl)) rfl, gt_mem (tm5 (List.mem_of_getElem? (i := 154) rfl)) rfl⟩
theorem dl_X7_wet : Ds yX7_wet 2 := ⟨by decide +kernel, by decide +kernel, by decide +kernel⟩
theorem lk_L_93 : LkV RL 93 yX6_over cX6_over 2 (some .int) := ⟨gt_mem (tm3 (List.mem_of_getElem? (i := 82) rfl)) rfl, gt_mem (tm3 (List.mem_of_getElem? (i := 83) rfl)) rfl, gt_mem (tm3 (List.mem_of_getElem? (i := 84) rfl)) rfl, gt_mem (tm1 (List.mem_of_getElem? (i := 1) rfl)) rfl, gt_mem (tm3 (List.mem_of_getElem? (i := 85) rfl)) rfl⟩
theorem dl_X6_over : Ds yX6_over 0 := ⟨by decide +kernel, by decide +kernel, by decide +kernel⟩
theorem lk_L_96 : LkV RL 96 yX7_over cX7_over 2 (some .int) := ⟨gt_mem (tm5 (List.mem_of_getElem? (i := 155) rfl)) rfl, gt_mem (tm5 (List.mem_of_getElem? (i := 156) rfl)) rfl, gt_mem (tm5 (List.mem_of_getElem? (i := 157) rfl)) rfl, gt_mem (tm1 (List.mem_of_getElem? (i := 8) rfl)) rfl, gt_mem (tm5 (List.mem_of_getElem? (i := 158) rfl)) rfl⟩
theorem dl_X7_over : Ds yX7_over 0 := ⟨by decide +kernel, by decide +kernel, by decide +kernel⟩
theorem lk_L_97 : LkV RL 97 yX6_best cX6_best 7 (some .int) := ⟨gt_mem (tm3 (List.mem_of_getElem? (i := 87) rfl)) rfl, gt_mem (tm3 (List.mem_of_getElem? (i := 88) rfl)) rfl, gt_mem (tm3 (List.mem_of_getElem? (i := 89) rfl)) rfl, gt_mem (tm1 (List.mem_of_getElem? (i := 1) rfl)) rfl, gt_mem (tm3 (List.mem_of_getElem? (i := 90) rfl)) rfl⟩
theorem dl_X6_best : Ds yX6_best 3 := ⟨by decide +kernel, by decide +kernel, by decide +kernel⟩
theorem lk_L_100 : LkV RL 100 yX7_best cX7_best 8 (some .int) := ⟨gt_mem (tm5 (List.mem_of_getElem? (i := 163) rfl)) rfl, gt_mem (tm5 (List.mem_of_getElem? (i := 164) rfl)) rfl, gt_mem (tm5 (List.mem_of_getElem? (i := 165) rfl)) rfl, gt_mem (tm1 (List.mem_of_getElem? (i := 8) rfl)) rfl, gt_mem (tm5 (List.mem_of_getElem? (i := 166) rfl)) rfl⟩
theorem dl_X7_best : Ds yX7_best 3 := ⟨by decide +kernel, by decide +kernel, by decide +kernel⟩
theorem lk_L_101 : LkV RL 101 yX6_cheap cX6_cheap 8 (some .int) := ⟨gt_mem (tm3 (List.mem_of_getElem? (i := 95) rfl)) rfl, gt_mem (tm3 (List.mem_of_getElem? (i := 96) rfl)) rfl, gt_mem (tm3 (List.mem_of_getElem? (i := 97) rfl)) rfl, gt_mem (tm1 (List.mem_of_getElem? (i := 1) rfl)) rfl, gt_mem (tm3 (List.mem_of_getElem? (i := 98) rfl)) rfl⟩
theorem dl_X6_cheap : Ds yX6_cheap 3 := ⟨by decide +kernel, by decide +kernel, by decide +kernel⟩
theorem lk_L_104 : LkV RL 104 yX7_cheap cX7_cheap 7 (some .int) := ⟨gt_mem (tm5 (List.mem_of_getElem? (i := 171) rfl)) rfl, gt_mem (tm5 (List.mem_of_getElem? (i := 172) rfl)) rfl, gt_mem (tm5 (List.mem_of_getElem? (i := 173) rfl)) rfl, gt_mem (tm1 (List.mem_of_getElem? (i := 8) rfl)) rfl, gt_mem (tm5 (List.mem_of_getElem? (i := 174) rfl)) rfl⟩
theorem dl_X7_cheap : Ds yX7_cheap 3 := ⟨by decide +kernel, by decide +kernel, by decide +kernel⟩
theorem lk_L_105 : LkV RL 105 yX6_clean cX6_clean 8 (some .int) := ⟨gt_mem (tm3 (List.mem_of_getElem? (i := 103) rfl)) rfl, gt_mem (tm3 (List.mem_of_getElem? (i := 104) rfl)) rfl, gt_mem (tm3 (List.mem_of_getElem? (i := 105) rfl)) rfl, gt_mem (tm1 (List.mem_of_getElem? (i := 1) rfl)) rfl, gt_mem (tm3 (List.mem_of_getElem? (i := 106) rfl)) rfl⟩
theorem dl_X6_clean : Ds yX6_clean 3 := ⟨by decide +kernel, by decide +kernel, by decide +kernel⟩
theorem lk_L_108 : LkV RL 108 yX7_clean cX7_clean 9 (some .int) := ⟨gt_mem (tm5 (List.mem_of_getElem? (i := 177) rfl)) rfl, gt_mem (tm5 (List.mem_of_getElem? (i := 178) rfl)) rfl, gt_mem (tm5 (List.mem_of_getElem? (i := 179) rfl)) rfl, gt_mem (tm1 (List.mem_of_getElem? (i := 8) rfl)) rfl, gt_mem (tm5 (List.mem_of_getElem? (i := 180) rfl)) rfl⟩
theorem dl_X7_clean : Ds yX7_clean 3 := ⟨by decide +kernel, by decide +kernel, by decide +kernel⟩
theorem lk_L_109 : LkV RL 109 yX6_need cX6_need 5 (some .int) := ⟨gt_mem (tm3 (List.mem_of_getElem? (i := 107) rfl)) rfl, gt_mem (tm3 (List.mem_of_getElem? (i := 108) rfl)) rfl, gt_mem (tm3 (List.mem_of_getElem? (i := 109) rfl)) rfl, gt_mem (tm1 (List.mem_of_getElem? (i := 1) rfl)) rfl, gt_mem (tm3 (List.mem_of_getElem? (i := 110) rfl)) rfl⟩
theorem dl_X6_need : Ds yX6_need 3 := ⟨by decide +kernel, by decide +kernel, by decide +kernel⟩
theorem lk_L_112 : LkV RL 112 yX7_need cX7_need 5 (some .int) := ⟨gt_mem (tm5 (List.mem_of_getElem? (i := 184) rfl)) rfl, gt_mem (tm5 (List.mem_of_getElem? (i := 185) rfl)) rfl, gt_mem (tm5 (List.mem_of_getElem? (i := 186) rfl)) rfl, gt_mem (tm1 (List.mem_of_getElem? (i := 8) rfl)) rfl, gt_mem (tm5 (List.mem_of_getElem? (i := 187) rfl)) rfl⟩
theorem dl_X7_need : Ds yX7_need 3 := ⟨by decide +kernel, by decide +kernel, by decide +kernel⟩
theorem lk_L_113 : LkV RL 113 yX6_swap cX6_swap 8 (some .int) := ⟨gt_mem (tm3 (List.mem_of_getElem? (i := 111) rfl)) rfl, gt_mem (tm3 (List.mem_of_getElem? (i := 112) rfl)) rfl, gt_mem (tm3 (List.mem_of_getElem? (i := 113) rfl)) rfl, gt_mem (tm1 (List.mem_of_getElem? (i := 1) rfl)) rfl, gt_mem (tm3 (List.mem_of_getElem? (i := 114) rfl)) rfl⟩
theorem dl_X6_swap : Ds yX6_swap 2 := ⟨by decide +kernel, by decide +kernel, by decide +kernel⟩
theorem lk_L_116 : LkV RL 116 yX7_swap cX7_swap 8 (some .int) := ⟨gt_mem (tm5 (List.mem_of_getElem? (i := 188) rfl)) rfl, gt_mem (tm5 (List.mem_of_getElem? (i := 189) rfl)) rfl, gt_mem (tm5 (List.mem_of_getElem? (i := 190) rfl)) rfl, gt_mem (tm1 (List.mem_of_getElem? (i := 8) rfl)) rfl, gt_mem (tm5 (List.mem_of_getElem? (i := 191) rfl)) rfl⟩
theorem dl_X7_swap : Ds yX7_swap 2 := ⟨by decide +kernel, by decide +kernel, by decide +kernel⟩
theorem lk_L_117 : LkV RL 117 yX6_fan cX6_fan 9 (some .int) := ⟨gt_mem (tm3 (List.mem_of_getElem? (i := 119) rfl)) rfl, gt_mem (tm3 (List.mem_of_getElem? (i := 120) rfl)) rfl, gt_mem (tm3 (List.mem_of_getElem? (i := 121) rfl)) rfl, gt_mem (tm1 (List.mem_of_getElem? (i := 1) rfl)) rfl, gt_mem (tm3 (List.mem_of_getElem? (i := 122) rfl)) rfl⟩
theorem dl_X6_fan : Ds yX6_fan 3 := ⟨by decide +kernel, by decide +kernel, by decide +kernel⟩
theorem lk_L_120 : LkV RL 120 yX7_fan cX7_fan 9 (some .int) := ⟨gt_mem (tm5 (List.mem_of_getElem? (i := 192) rfl)) rfl, gt_mem (tm5 (List.mem_of_getElem? (i := 193) rfl)) rfl, gt_mem (tm5 (List.mem_of_getElem? (i := 194) rfl)) rfl, gt_mem (tm1 (List.mem_of_getElem? (i := 8) rfl)) rfl, gt_mem (tm5 (List.mem_of_getElem? (i := 195) rfl)) rfl⟩
theorem dl_X7_fan : Ds yX7_fan 3 := ⟨by decide +kernel, by decide +kernel, by decide +kernel⟩
theorem lk_L_121 : LkV RL 121 yX6_luck cX6_luck 5 (some .long) := ⟨gt_mem (tm3 (List.mem_of_getElem? (i := 127) rfl)) rfl, gt_mem (tm3 (List.mem_of_getElem? (i := 128) rfl)) rfl, gt_mem (tm3 (List.mem_of_getElem? (i := 129) rfl)) rfl, gt_mem (tm1 (List.mem_of_getElem? (i := 1) rfl)) rfl, gt_mem (tm3 (List.mem_of_getElem? (i := 130) rfl)) rfl⟩
theorem dl_X6_luck : Ds yX6_luck 4 := ⟨by decide +kernel, by decide +kernel, by decide +kernel⟩
theorem lk_L_125 : LkV RL 125 yX7_luck cX7_luck 5 (some .long) := ⟨gt_mem (tm5 (List.mem_of_getElem? (i := 196) rfl)) rfl, gt_mem (tm5 (List.mem_of_getElem? (i := 197) rfl)) rfl, gt_mem (tm5 (List.mem_of_getElem? (i := 198) rfl)) rfl, gt_mem (tm1 (List.mem_of_getElem? (i := 8) rfl)) rfl, gt_mem (tm5 (List.mem_of_getElem? (i := 199) rfl)) rfl⟩
theorem dl_X7_luck : Ds yX7_luck 4 := ⟨by decide +kernel, by decide +kernel, by decide +kernel⟩
theorem lk_L_126 : LkV RL 126 yX6_mean cX6_mean 5 (some .long) := ⟨gt_mem (tm3 (List.mem_of_getElem? (i := 168) rfl)) rfl, gt_mem (tm3 (List.mem_of_getElem? (i := 169) rfl)) rfl, gt_mem (tm3 (List.mem_of_getElem? (i := 170) rfl)) rfl, gt_mem (tm1 (List.mem_of_getElem? (i := 1) rfl)) rfl, gt_mem (tm3 (List.mem_of_getElem? (i := 171) rfl)) rfl⟩
theorem dl_X6_mean : Ds yX6_mean 4 := ⟨by decide +kernel, by decide +kernel, by decide +kernel⟩
theorem lk_L_129 : LkV RL 129 yX7_mean cX7_mean 5 (some .long) := ⟨gt_mem (tm5 (List.mem_of_getElem? (i := 217) rfl)) rfl, gt_mem (tm5 (List.mem_of_getElem? (i := 218) rfl)) rfl, gt_mem (tm5 (List.mem_of_getElem? (i := 219) rfl)) rfl, gt_mem (tm1 (List.mem_of_getElem? (i := 8) rfl)) rfl, gt_mem (tm5 (List.mem_of_getElem? (i := 220) rfl)) rfl⟩
theorem dl_X7_mean : Ds yX7_mean 4 := ⟨by decide +kernel, by decide +kernel, by decide +kernel⟩
theorem lk_L_130 : LkV RL 130 yX6_see cX6_see 5 (some .int) := ⟨gt_mem (tm3 (List.mem_of_getElem? (i := 172) rfl)) rfl, gt_mem (tm3 (List.mem_of_getElem? (i := 173) rfl)) rfl, gt_mem (tm3 (List.mem_of_getElem? (i := 174) rfl)) rfl, gt_mem (tm1 (List.mem_of_getElem? (i := 1) rfl)) rfl, gt_mem (tm3 (List.mem_of_getElem? (i := 175) rfl)) rfl⟩
theorem dl_X6_see : Ds yX6_see 4 := ⟨by decide +kernel, by decide +kernel, by decide +kernel⟩
theorem lk_L_134 : LkV RL 134 yX7_see cX7_see 6 (some .int) := ⟨gt_mem (tm5 (List.mem_of_getElem? (i := 221) rfl)) rfl, gt_mem (tm5 (List.mem_of_getElem? (i := 222) rfl)) rfl, gt_mem (tm5 (List.mem_of_getElem? (i := 223) rfl)) rfl, gt_mem (tm1 (List.mem_of_getElem? (i := 8) rfl)) rfl, gt_mem (tm5 (List.mem_of_getElem? (i := 224) rfl)) rfl⟩
theorem dl_X7_see : Ds yX7_see 4 := ⟨by decide +kernel, by decide +kernel, by decide +kernel⟩
theorem lk_L_135 : LkV RL 135 yX6_forget cX6_forget 3 (some .int) := ⟨gt_mem (tm3 (List.mem_of_getElem? (i := 180) rfl)) rfl, gt_mem (tm3 (List.mem_of_getElem? (i := 181) rfl)) rfl, gt_mem (tm3 (List.mem_of_getElem? (i := 182) rfl)) rfl, gt_mem (tm1 (List.mem_of_getElem? (i := 1) rfl)) rfl, gt_mem (tm3 (List.mem_of_getElem? (i := 183) rfl)) rfl⟩
theorem dl_X6_forget : Ds yX6_forget 1 := ⟨by decide +kernel, by decide +kernel, by decide +kernel⟩
theorem lk_L_138 : LkV RL 138 yX7_forget cX7_forget 2 (some .int) := ⟨gt_mem (tm5 (List.mem_of_getElem? (i := 225) rfl)) rfl, gt_mem (tm5 (List.mem_of_getElem? (i := 226) rfl)) rfl, gt_mem (tm5 (List.mem_of_getElem? (i := 227) rfl)) rfl, gt_mem (tm1 (List.mem_of_getElem? (i := 8) rfl)) rfl, gt_mem (tm5 (List.mem_of_getElem? (i := 228) rfl)) rfl⟩
theorem dl_X7_forget : Ds yX7_forget 1 := ⟨by decide +kernel, by decide +kernel, by decide +kernel⟩
theorem lk_L_139 : LkV RL 139 yX6_kinds cX6_kinds 4 (some .int) := ⟨gt_mem (tm3 (List.mem_of_getElem? (i := 184) rfl)) rfl, gt_mem (tm3 (List.mem_of_getElem? (i := 185) rfl)) rfl, gt_mem (tm3 (List.mem_of_getElem? (i := 186) rfl)) rfl, gt_mem (tm1 (List.mem_of_getElem? (i := 1) rfl)) rfl, gt_mem (tm3 (List.mem_of_getElem? (i := 187) rfl)) rfl⟩
theorem dl_X6_kinds : Ds yX6_kinds 1 := ⟨by decide +kernel, by decide +kernel, by decide +kernel⟩
theorem lk_L_142 : LkV RL 142 yX7_kinds cX7_kinds 4 (some .int) := ⟨gt_mem (tm5 (List.mem_of_getElem? (i := 229) rfl)) rfl, gt_mem (tm5 (List.mem_of_getElem? (i := 230) rfl)) rfl, gt_mem (tm5 (List.mem_of_getElem? (i := 231) rfl)) rfl, gt_mem (tm1 (List.mem_of_getElem? (i := 8) rfl)) rfl, gt_mem (tm5 (List.mem_of_getElem? (i := 232) rfl)) rfl⟩
theorem dl_X7_kinds : Ds yX7_kinds 1 := ⟨by decide +kernel, by decide +kernel, by decide +kernel⟩
theorem lk_L_143 : LkV RL 143 yX6_froms cX6_froms 6 (some .int) := ⟨gt_mem (tm3 (List.mem_of_getElem? (i := 206) rfl)) rfl, gt_mem (tm3 (List.mem_of_getElem? (i := 207) rfl)) rfl, gt_mem (tm3 (List.mem_of_getElem? (i := 208) rfl)) rfl, gt_mem (tm1 (List.mem_of_getElem? (i := 1) rfl)) rfl, gt_mem (tm3 (List.mem_of_getElem? (i := 209) rfl)) rfl⟩
theorem dl_X6_froms : Ds yX6_froms 2 := ⟨by decide +kernel, by decide +kernel, by decide +kernel⟩
theorem lk_L_146 : LkV RL 146 yX7_froms cX7_froms 6 (some .int) := ⟨gt_mem (tm6 (List.mem_of_getElem? (i := 0) rfl)) rfl, gt_mem (tm6 (List.mem_of_getElem? (i := 1) rfl)) rfl, gt_mem (tm6 (List.mem_of_getElem? (i := 2) rfl)) rfl, gt_mem (tm1 (List.mem_of_getElem? (i := 8) rfl)) rfl, gt_mem (tm6 (List.mem_of_getElem? (i := 3) rfl)) rfl⟩
theorem dl_X7_froms : Ds yX7_froms 2 := ⟨by decide +kernel, by decide +kernel, by decide +kernel⟩
theorem lk_L_147 : LkV RL 147 yX6_ask cX6_ask 8 (some .int) := ⟨gt_mem (tm3 (List.mem_of_getElem? (i := 214) rfl)) rfl, gt_mem (tm3 (List.mem_of_getElem? (i := 215) rfl)) rfl, gt_mem (tm3 (List.mem_of_getElem? (i := 216) rfl)) rfl, gt_mem (tm1 (List.mem_of_getElem? (i := 1) rfl)) rfl, gt_mem (tm3 (List.mem_of_getElem? (i := 217) rfl)) rfl⟩
theorem dl_X6_ask : Ds yX6_ask 2 := ⟨by decide +kernel, by decide +kernel, by decide +kernel⟩
theorem lk_L_150 : LkV RL 150 yX7_ask cX7_ask 11 (some .int) := ⟨gt_mem (tm6 (List.mem_of_getElem? (i := 4) rfl)) rfl, gt_mem (tm6 (List.mem_of_getElem? (i := 5) rfl)) rfl, gt_mem (tm6 (List.mem_of_getElem? (i := 6) rfl)) rfl, gt_mem (tm1 (List.mem_of_getElem? (i := 8) rfl)) rfl, gt_mem (tm6 (List.mem_of_getElem? (i := 7) rfl)) rfl⟩
theorem dl_X7_ask : Ds yX7_ask 2 := ⟨by decide +kernel, by decide +kernel, by decide +kernel⟩
theorem lk_L_151 : LkV RL 151 yX6_drift cX6_drift 7 (some .int) := ⟨gt_mem (tm3 (List.mem_of_getElem? (i := 227) rfl)) rfl, gt_mem (tm3 (List.mem_of_getElem? (i := 228) rfl)) rfl, gt_mem (tm3 (List.mem_of_getElem? (i := 229) rfl)) rfl, gt_mem (tm1 (List.mem_of_getElem? (i := 1) rfl)) rfl, gt_mem (tm3 (List.mem_of_getElem? (i := 230) rfl)) rfl⟩
theorem dl_X6_drift : Ds yX6_drift 3 := ⟨by decide +kernel, by decide +kernel, by decide +kernel⟩
theorem lk_L_154 : LkV RL 154 yX7_drift cX7_drift 8 (some .int) := ⟨gt_mem (tm6 (List.mem_of_getElem? (i := 8) rfl)) rfl, gt_mem (tm6 (List.mem_of_getElem? (i := 9) rfl)) rfl, gt_mem (tm6 (List.mem_of_getElem? (i := 10) rfl)) rfl, gt_mem (tm1 (List.mem_of_getElem? (i := 8) rfl)) rfl, gt_mem (tm6 (List.mem_of_getElem? (i := 11) rfl)) rfl⟩
theorem dl_X7_drift : Ds yX7_drift 3 := ⟨by decide +kernel, by decide +kernel, by decide +kernel⟩
theorem lk_L_155 : LkV RL 155 yX6_keep cX6_keep 4 (some .int) := ⟨gt_mem (tm3 (List.mem_of_getElem? (i := 233) rfl)) rfl, gt_mem (tm3 (List.mem_of_getElem? (i := 234) rfl)) rfl, gt_mem (tm3 (List.mem_of_getElem? (i := 235) rfl)) rfl, gt_mem (tm1 (List.mem_of_getElem? (i := 1) rfl)) rfl, gt_mem (tm3 (List.mem_of_getElem? (i := 236) rfl)) rfl⟩
theorem dl_X6_keep : Ds yX6_keep 1 := ⟨by decide +kernel, by decide +kernel, by decide +kernel⟩
theorem lk_L_158 : LkV RL 158 yX7_keep cX7_keep 3 (some .int) := ⟨gt_mem (tm6 (List.mem_of_getElem? (i := 13) rfl)) rfl, gt_mem (tm6 (List.mem_of_getElem? (i := 14) rfl)) rfl, gt_mem (tm6 (List.mem_of_getElem? (i := 15) rfl)) rfl, gt_mem (tm1 (List.mem_of_getElem? (i := 8) rfl)) rfl, gt_mem (tm6 (List.mem_of_getElem? (i := 16) rfl)) rfl⟩
theorem dl_X7_keep : Ds yX7_keep 1 := ⟨by decide +kernel, by decide +kernel, by decide +kernel⟩
theorem lk_L_159 : LkV RL 159 yX6_back cX6_back 3 (some .int) := ⟨gt_mem (tm4 (List.mem_of_getElem? (i := 2) rfl)) rfl, gt_mem (tm4 (List.mem_of_getElem? (i := 3) rfl)) rfl, gt_mem (tm4 (List.mem_of_getElem? (i := 4) rfl)) rfl, gt_mem (tm1 (List.mem_of_getElem? (i := 1) rfl)) rfl, gt_mem (tm4 (List.mem_of_getElem? (i := 5) rfl)) rfl⟩
theorem dl_X6_back : Ds yX6_back 1 := ⟨by decide +kernel, by decide +kernel, by decide +kernel⟩
theorem lk_L_162 : LkV RL 162 yX7_back cX7_back 2 (some .int) := ⟨gt_mem (tm6 (List.mem_of_getElem? (i := 21) rfl)) rfl, gt_mem (tm6 (List.mem_of_getElem? (i := 22) rfl)) rfl, gt_mem (tm6 (List.mem_of_getElem? (i := 23) rfl)) rfl, gt_mem (tm1 (List.mem_of_getElem? (i := 8) rfl)) rfl, gt_mem (tm6 (List.mem_of_getElem? (i := 24) rfl)) rfl⟩
theorem dl_X7_back : Ds yX7_back 1 := ⟨by decide +kernel, by decide +kernel, by decide +kernel⟩
theorem lk_L_163 : LkV RL 163 yX6_sheet cX6_sheet 4 (some .int) := ⟨gt_mem (tm4 (List.mem_of_getElem? (i := 6) rfl)) rfl, gt_mem (tm4 (List.mem_of_getElem? (i := 7) rfl)) rfl, gt_mem (tm4 (List.mem_of_getElem? (i := 8) rfl)) rfl, gt_mem (tm1 (List.mem_of_getElem? (i := 1) rfl)) rfl, gt_mem (tm4 (List.mem_of_getElem? (i := 9) rfl)) rfl⟩
theorem dl_X6_sheet : Ds yX6_sheet 3 := ⟨by decide +kernel, by decide +kernel, by decide +kernel⟩
theorem lk_L_166 : LkV RL 166 yX7_sheet cX7_sheet 5 (some .int) := ⟨gt_mem (tm6 (List.mem_of_getElem? (i := 25) rfl)) rfl, gt_mem (tm6 (List.mem_of_getElem? (i := 26) rfl)) rfl, gt_mem (tm6 (List.mem_of_getElem? (i := 27) rfl)) rfl, gt_mem (tm1 (List.mem_of_getElem? (i := 8) rfl)) rfl, gt_mem (tm6 (List.mem_of_getElem? (i := 28) rfl)) rfl⟩
theorem dl_X7_sheet : Ds yX7_sheet 3 := ⟨by decide +kernel, by decide +kernel, by decide +kernel⟩
theorem lk_L_167 : LkV RL 167 yX6_lay cX6_lay 6 (some .int) := ⟨gt_mem (tm4 (List.mem_of_getElem? (i := 21) rfl)) rfl, gt_mem (tm4 (List.mem_of_getElem? (i := 22) rfl)) rfl, gt_mem (tm4 (List.mem_of_getElem? (i := 23) rfl)) rfl, gt_mem (tm1 (List.mem_of_getElem? (i := 1) rfl)) rfl, gt_mem (tm4 (List.mem_of_getElem? (i := 24) rfl)) rfl⟩
theorem dl_X6_lay : Ds yX6_lay 3 := ⟨by decide +kernel, by decide +kernel, by decide +kernel⟩
theorem lk_L_170 : LkV RL 170 yX7_lay cX7_lay 4 (some .int) := ⟨gt_mem (tm6 (List.mem_of_getElem? (i := 33) rfl)) rfl, gt_mem (tm6 (List.mem_of_getElem? (i := 34) rfl)) rfl, gt_mem (tm6 (List.mem_of_getElem? (i := 35) rfl)) rfl, gt_mem (tm1 (List.mem_of_getElem? (i := 8) rfl)) rfl, gt_mem (tm6 (List.mem_of_getElem? (i := 36) rfl)) rfl⟩
theorem dl_X7_lay : Ds yX7_lay 3 := ⟨by decide +kernel, by decide +kernel, by decide +kernel⟩
theorem lk_L_171 : LkV RL 171 yX6_read cX6_read 9 (some .int) := ⟨gt_mem (tm4 (List.mem_of_getElem? (i := 37) rfl)) rfl, gt_mem (tm4 (List.mem_of_getElem? (i := 38) rfl)) rfl, gt_mem (tm4 (List.mem_of_getElem? (i := 39) rfl)) rfl, gt_mem (tm1 (List.mem_of_getElem? (i := 1) rfl)) rfl, gt_mem (tm4 (List.mem_of_getElem? (i := 40) rfl)) rfl⟩
theorem dl_X6_read : Ds yX6_read 4 := ⟨by decide +kernel, by decide +kernel, by decide +kernel⟩
theorem lk_L_174 : LkV RL 174 yX7_read cX7_read 11 (some .int) := ⟨gt_mem (tm6 (List.mem_of_getElem? (i := 37) rfl)) rfl, gt_mem (tm6 (List.mem_of_getElem? (i := 38) rfl)) rfl, gt_mem (tm6 (List.mem_of_getElem? (i := 39) rfl)) rfl, gt_mem (tm1 (List.mem_of_getElem? (i := 8) rfl)) rfl, gt_mem (tm6 (List.mem_of_getElem? (i := 40) rfl)) rfl⟩
theorem dl_X7_read : Ds yX7_read 4 := ⟨by decide +kernel, by decide +kernel, by decide +kernel⟩
theorem lk_L_175 : LkV RL 175 yX6_torn cX6_torn 1 (some .int) := ⟨gt_mem (tm4 (List.mem_of_getElem? (i := 50) rfl)) rfl, gt_mem (tm4 (List.mem_of_getElem? (i := 51) rfl)) rfl, gt_mem (tm4 (List.mem_of_getElem? (i := 52) rfl)) rfl, gt_mem (tm1 (List.mem_of_getElem? (i := 1) rfl)) rfl, gt_mem (tm4 (List.mem_of_getElem? (i := 53) rfl)) rfl⟩
theorem dl_X6_torn : Ds yX6_torn 0 := ⟨by decide +kernel, by decide +kernel, by decide +kernel⟩
theorem lk_L_178 : LkV RL 178 yX7_torn cX7_torn 1 (some .int) := ⟨gt_mem (tm6 (List.mem_of_getElem? (i := 44) rfl)) rfl, gt_mem (tm6 (List.mem_of_getElem? (i := 45) rfl)) rfl, gt_mem (tm6 (List.mem_of_getElem? (i := 46) rfl)) rfl, gt_mem (tm1 (List.mem_of_getElem? (i := 8) rfl)) rfl, gt_mem (tm6 (List.mem_of_getElem? (i := 47) rfl)) rfl⟩
theorem dl_X7_torn : Ds yX7_torn 0 := ⟨by decide +kernel, by decide +kernel, by decide +kernel⟩
theorem lk_L_179 : LkV RL 179 yX6_count cX6_count 2 (some .int) := ⟨gt_mem (tm4 (List.mem_of_getElem? (i := 54) rfl)) rfl, gt_mem (tm4 (List.mem_of_getElem? (i := 55) rfl)) rfl, gt_mem (tm4 (List.mem_of_getElem? (i := 56) rfl)) rfl, gt_mem (tm1 (List.mem_of_getElem? (i := 1) rfl)) rfl, gt_mem (tm4 (List.mem_of_getElem? (i := 57) rfl)) rfl⟩
theorem dl_X6_count : Ds yX6_count 1 := ⟨by decide +kernel, by decide +kernel, by decide +kernel⟩
theorem lk_L_182 : LkV RL 182 yX7_count cX7_count 4 (some .int) := ⟨gt_mem (tm6 (List.mem_of_getElem? (i := 48) rfl)) rfl, gt_mem (tm6 (List.mem_of_getElem? (i := 49) rfl)) rfl, gt_mem (tm6 (List.mem_of_getElem? (i := 50) rfl)) rfl, gt_mem (tm1 (List.mem_of_getElem? (i := 8) rfl)) rfl, gt_mem (tm6 (List.mem_of_getElem? (i := 51) rfl)) rfl⟩
theorem dl_X7_count : Ds yX7_count 1 := ⟨by decide +kernel, by decide +kernel, by decide +kernel⟩
set_option maxHeartbeats 4000000 in
set_option maxRecDepth 100000 in
theorem lawc_0 {X : Cx} {Γ : Gm} {r : Rb} {b L n : Nat} {sc : Nat → Int32} {sx : State} {s : St} {G : Nat → St → Prop} (hX : Amb X Γ cL_law RL 4 (some .boolean) 250) (hsc : Scr X Γ b L sc sx) (hi : 5 * n + 5 ≤ L) (hn : n < 64) (hG : G n s) (hop : Op1 f_X6_feed f_X7_feed G) (kk : ∀ s2, G (n + 1) s2 → Zw X Γ 4 r s2 1557 [(3, .int (nI (5 * n))), (2, .ref (gL Γ (189))), (1, .ref (gL Γ (0))), (0, .ref b)] []) : Zw X Γ 4 r s 212 [(3, .int (nI (5 * n))), (2, .ref (gL Γ (189))), (1, .ref (gL Γ (0))), (0, .ref b)] [] := by
  obtain ⟨v, s1, s2, e1, e2, hG2⟩ := hop n s (sc (5 * n + 1)) hn hG
  refine z_aload_n hX dL_law_212 2 rfl 213 rfl ?_
  refine z_aload_n hX dL_law_213 3 rfl 214 rfl ?_
  refine z_iload_n hX dL_law_214 0 rfl 215 rfl ?_
  refine z_iconst hX (v := (nI 1)) dL_law_215 rfl 216 rfl ?_
  refine z_iadd hX dL_law_216 217 rfl ?_
  refine z_sld hX hsc (5 * n + 1) (nI_add _ _) (by omega) dL_law_217 218 rfl ?_
  refine z_cV6i hX (b := 0) (As := [.int (sc (5 * n + 1))]) (c_X6_feed e1) lk_L_13 rfl kdc_0 dl_X6_feed rfl (by decide) (by decide) (Nat.le_of_ble_eq_true rfl) dL_law_218 rfl 221 rfl ?_
  refine z_aload_n hX dL_law_221 1 rfl 222 rfl ?_
  refine z_aload_n hX dL_law_222 3 rfl 223 rfl ?_
  refine z_iload_n hX dL_law_223 0 rfl 224 rfl ?_
  refine z_iconst hX (v := (nI 1)) dL_law_224 rfl 225 rfl ?_
  refine z_iadd hX dL_law_225 226 rfl ?_
  refine z_sld hX hsc (5 * n + 1) (nI_add _ _) (by omega) dL_law_226 227 rfl ?_
  refine z_cV7i hX (b := 189) (As := [.int (sc (5 * n + 1))]) (c_X7_feed e2) lk_L_17 rfl kdc_189 dl_X7_feed rfl (by decide) (by decide) (Nat.le_of_ble_eq_true rfl) dL_law_227 rfl 230 rfl ?_
  exact z_icmp_eq hX 1557 dL_law_230 (by decide) 233 rfl (fun _ => kk s2 hG2) (fun c => absurd rfl c)
set_option maxHeartbeats 4000000 in
set_option maxRecDepth 100000 in
theorem lawc_1 {X : Cx} {Γ : Gm} {r : Rb} {b L n : Nat} {sc : Nat → Int32} {sx : State} {s : St} {G : Nat → St → Prop} (hX : Amb X Γ cL_law RL 4 (some .boolean) 250) (hsc : Scr X Γ b L sc sx) (hi : 5 * n + 5 ≤ L) (hn : n < 64) (hG : G n s) (hop : Op1 f_X6_end f_X7_end G) (kk : ∀ s2, G (n + 1) s2 → Zw X Γ 4 r s2 1557 [(3, .int (nI (5 * n))), (2, .ref (gL Γ (189))), (1, .ref (gL Γ (0))), (0, .ref b)] []) : Zw X Γ 4 r s 235 [(3, .int (nI (5 * n))), (2, .ref (gL Γ (189))), (1, .ref (gL Γ (0))), (0, .ref b)] [] := by
  obtain ⟨v, s1, s2, e1, e2, hG2⟩ := hop n s (sc (5 * n + 1)) hn hG
  refine z_aload_n hX dL_law_235 2 rfl 236 rfl ?_
  refine z_aload_n hX dL_law_236 3 rfl 237 rfl ?_
  refine z_iload_n hX dL_law_237 0 rfl 238 rfl ?_
  refine z_iconst hX (v := (nI 1)) dL_law_238 rfl 239 rfl ?_
  refine z_iadd hX dL_law_239 240 rfl ?_
  refine z_sld hX hsc (5 * n + 1) (nI_add _ _) (by omega) dL_law_240 241 rfl ?_
  refine z_cV6i hX (b := 0) (As := [.int (sc (5 * n + 1))]) (c_X6_end e1) lk_L_18 rfl kdc_0 dl_X6_end rfl (by decide) (by decide) (Nat.le_of_ble_eq_true rfl) dL_law_241 rfl 244 rfl ?_
  refine z_aload_n hX dL_law_244 1 rfl 245 rfl ?_
  refine z_aload_n hX dL_law_245 3 rfl 246 rfl ?_
  refine z_iload_n hX dL_law_246 0 rfl 247 rfl ?_
  refine z_iconst hX (v := (nI 1)) dL_law_247 rfl 248 rfl ?_
  refine z_iadd hX dL_law_248 249 rfl ?_
  refine z_sld hX hsc (5 * n + 1) (nI_add _ _) (by omega) dL_law_249 250 rfl ?_
  refine z_cV7i hX (b := 189) (As := [.int (sc (5 * n + 1))]) (c_X7_end e2) lk_L_21 rfl kdc_189 dl_X7_end rfl (by decide) (by decide) (Nat.le_of_ble_eq_true rfl) dL_law_250 rfl 253 rfl ?_
  exact z_icmp_eq hX 1557 dL_law_253 (by decide) 256 rfl (fun _ => kk s2 hG2) (fun c => absurd rfl c)
set_option maxHeartbeats 4000000 in
set_option maxRecDepth 100000 in
theorem lawc_2 {X : Cx} {Γ : Gm} {r : Rb} {b L n : Nat} {sc : Nat → Int32} {sx : State} {s : St} {G : Nat → St → Prop} (hX : Amb X Γ cL_law RL 4 (some .boolean) 250) (hsc : Scr X Γ b L sc sx) (hi : 5 * n + 5 ≤ L) (hn : n < 64) (hG : G n s) (hop : Op0 f_X6_text f_X7_text G) (kk : ∀ s2, G (n + 1) s2 → Zw X Γ 4 r s2 1557 [(3, .int (nI (5 * n))), (2, .ref (gL Γ (189))), (1, .ref (gL Γ (0))), (0, .ref b)] []) : Zw X Γ 4 r s 258 [(3, .int (nI (5 * n))), (2, .ref (gL Γ (189))), (1, .ref (gL Γ (0))), (0, .ref b)] [] := by
  obtain ⟨v, s1, s2, e1, e2, hG2⟩ := hop n s hn hG
  refine z_aload_n hX dL_law_258 2 rfl 259 rfl ?_
  refine z_cV6i hX (b := 0) (As := []) (c_X6_text e1) lk_L_22 rfl kdc_0 dl_X6_text rfl (by decide) (by decide) (Nat.le_of_ble_eq_true rfl) dL_law_259 rfl 262 rfl ?_
  refine z_aload_n hX dL_law_262 1 rfl 263 rfl ?_
  refine z_cV7i hX (b := 189) (As := []) (c_X7_text e2) lk_L_26 rfl kdc_189 dl_X7_text rfl (by decide) (by decide) (Nat.le_of_ble_eq_true rfl) dL_law_263 rfl 266 rfl ?_
  exact z_icmp_eq hX 1557 dL_law_266 (by decide) 269 rfl (fun _ => kk s2 hG2) (fun c => absurd rfl c)
set_option maxHeartbeats 4000000 in
set_option maxRecDepth 100000 in
theorem lawc_3 {X : Cx} {Γ : Gm} {r : Rb} {b L n : Nat} {sc : Nat → Int32} {sx : State} {s : St} {G : Nat → St → Prop} (hX : Amb X Γ cL_law RL 4 (some .boolean) 250) (hsc : Scr X Γ b L sc sx) (hi : 5 * n + 5 ≤ L) (hn : n < 64) (hG : G n s) (hop : Op0 f_X6_fault f_X7_fault G) (kk : ∀ s2, G (n + 1) s2 → Zw X Γ 4 r s2 1557 [(3, .int (nI (5 * n))), (2, .ref (gL Γ (189))), (1, .ref (gL Γ (0))), (0, .ref b)] []) : Zw X Γ 4 r s 271 [(3, .int (nI (5 * n))), (2, .ref (gL Γ (189))), (1, .ref (gL Γ (0))), (0, .ref b)] [] := by
  obtain ⟨v, s1, s2, e1, e2, hG2⟩ := hop n s hn hG
  refine z_aload_n hX dL_law_271 2 rfl 272 rfl ?_
  refine z_cV6i hX (b := 0) (As := []) (c_X6_fault e1) lk_L_27 rfl kdc_0 dl_X6_fault rfl (by decide) (by decide) (Nat.le_of_ble_eq_true rfl) dL_law_272 rfl 275 rfl ?_
  refine z_aload_n hX dL_law_275 1 rfl 276 rfl ?_
  refine z_cV7i hX (b := 189) (As := []) (c_X7_fault e2) lk_L_30 rfl kdc_189 dl_X7_fault rfl (by decide) (by decide) (Nat.le_of_ble_eq_true rfl) dL_law_276 rfl 279 rfl ?_
  exact z_icmp_eq hX 1557 dL_law_279 (by decide) 282 rfl (fun _ => kk s2 hG2) (fun c => absurd rfl c)
set_option maxHeartbeats 4000000 in
set_option maxRecDepth 100000 in
theorem lawc_4 {X : Cx} {Γ : Gm} {r : Rb} {b L n : Nat} {sc : Nat → Int32} {sx : State} {s : St} {G : Nat → St → Prop} (hX : Amb X Γ cL_law RL 4 (some .boolean) 250) (hsc : Scr X Γ b L sc sx) (hi : 5 * n + 5 ≤ L) (hn : n < 64) (hG : G n s) (hop : Op1 f_X6_rule f_X7_rule G) (kk : ∀ s2, G (n + 1) s2 → Zw X Γ 4 r s2 1557 [(3, .int (nI (5 * n))), (2, .ref (gL Γ (189))), (1, .ref (gL Γ (0))), (0, .ref b)] []) : Zw X Γ 4 r s 284 [(3, .int (nI (5 * n))), (2, .ref (gL Γ (189))), (1, .ref (gL Γ (0))), (0, .ref b)] [] := by
  obtain ⟨v, s1, s2, e1, e2, hG2⟩ := hop n s (sc (5 * n + 1)) hn hG
  refine z_aload_n hX dL_law_284 2 rfl 285 rfl ?_
  refine z_aload_n hX dL_law_285 3 rfl 286 rfl ?_
  refine z_iload_n hX dL_law_286 0 rfl 287 rfl ?_
  refine z_iconst hX (v := (nI 1)) dL_law_287 rfl 288 rfl ?_
  refine z_iadd hX dL_law_288 289 rfl ?_
  refine z_sld hX hsc (5 * n + 1) (nI_add _ _) (by omega) dL_law_289 290 rfl ?_
  refine z_cV6i hX (b := 0) (As := [.int (sc (5 * n + 1))]) (c_X6_rule e1) lk_L_31 rfl kdc_0 dl_X6_rule rfl (by decide) (by decide) (Nat.le_of_ble_eq_true rfl) dL_law_290 rfl 293 rfl ?_
  refine z_aload_n hX dL_law_293 1 rfl 294 rfl ?_
  refine z_aload_n hX dL_law_294 3 rfl 295 rfl ?_
  refine z_iload_n hX dL_law_295 0 rfl 296 rfl ?_
  refine z_iconst hX (v := (nI 1)) dL_law_296 rfl 297 rfl ?_
  refine z_iadd hX dL_law_297 298 rfl ?_
  refine z_sld hX hsc (5 * n + 1) (nI_add _ _) (by omega) dL_law_298 299 rfl ?_
  refine z_cV7i hX (b := 189) (As := [.int (sc (5 * n + 1))]) (c_X7_rule e2) lk_L_34 rfl kdc_189 dl_X7_rule rfl (by decide) (by decide) (Nat.le_of_ble_eq_true rfl) dL_law_299 rfl 302 rfl ?_
  exact z_icmp_eq hX 1557 dL_law_302 (by decide) 305 rfl (fun _ => kk s2 hG2) (fun c => absurd rfl c)
set_option maxHeartbeats 4000000 in
set_option maxRecDepth 100000 in
theorem lawc_5 {X : Cx} {Γ : Gm} {r : Rb} {b L n : Nat} {sc : Nat → Int32} {sx : State} {s : St} {G : Nat → St → Prop} (hX : Amb X Γ cL_law RL 4 (some .boolean) 250) (hsc : Scr X Γ b L sc sx) (hi : 5 * n + 5 ≤ L) (hn : n < 64) (hG : G n s) (hop : Op2 f_X6_life f_X7_life G) (kk : ∀ s2, G (n + 1) s2 → Zw X Γ 4 r s2 1557 [(3, .int (nI (5 * n))), (2, .ref (gL Γ (189))), (1, .ref (gL Γ (0))), (0, .ref b)] []) : Zw X Γ 4 r s 307 [(3, .int (nI (5 * n))), (2, .ref (gL Γ (189))), (1, .ref (gL Γ (0))), (0, .ref b)] [] := by
  obtain ⟨v, s1, s2, e1, e2, hG2⟩ := hop n s (sc (5 * n + 1)) (sc (5 * n + 2)) hn hG
  refine z_aload_n hX dL_law_307 2 rfl 308 rfl ?_
  refine z_aload_n hX dL_law_308 3 rfl 309 rfl ?_
  refine z_iload_n hX dL_law_309 0 rfl 310 rfl ?_
  refine z_iconst hX (v := (nI 1)) dL_law_310 rfl 311 rfl ?_
  refine z_iadd hX dL_law_311 312 rfl ?_
  refine z_sld hX hsc (5 * n + 1) (nI_add _ _) (by omega) dL_law_312 313 rfl ?_
  refine z_aload_n hX dL_law_313 3 rfl 314 rfl ?_
  refine z_iload_n hX dL_law_314 0 rfl 315 rfl ?_
  refine z_iconst hX (v := (nI 2)) dL_law_315 rfl 316 rfl ?_
  refine z_iadd hX dL_law_316 317 rfl ?_
  refine z_sld hX hsc (5 * n + 2) (nI_add _ _) (by omega) dL_law_317 318 rfl ?_
  refine z_cV6i hX (b := 0) (As := [.int (sc (5 * n + 1)), .int (sc (5 * n + 2))]) (c_X6_life e1) lk_L_35 rfl kdc_0 dl_X6_life rfl (by decide) (by decide) (Nat.le_of_ble_eq_true rfl) dL_law_318 rfl 321 rfl ?_
  refine z_aload_n hX dL_law_321 1 rfl 322 rfl ?_
  refine z_aload_n hX dL_law_322 3 rfl 323 rfl ?_
  refine z_iload_n hX dL_law_323 0 rfl 324 rfl ?_
  refine z_iconst hX (v := (nI 1)) dL_law_324 rfl 325 rfl ?_
  refine z_iadd hX dL_law_325 326 rfl ?_
  refine z_sld hX hsc (5 * n + 1) (nI_add _ _) (by omega) dL_law_326 327 rfl ?_
  refine z_aload_n hX dL_law_327 3 rfl 328 rfl ?_
  refine z_iload_n hX dL_law_328 0 rfl 329 rfl ?_
  refine z_iconst hX (v := (nI 2)) dL_law_329 rfl 330 rfl ?_
  refine z_iadd hX dL_law_330 331 rfl ?_
  refine z_sld hX hsc (5 * n + 2) (nI_add _ _) (by omega) dL_law_331 332 rfl ?_
  refine z_cV7i hX (b := 189) (As := [.int (sc (5 * n + 1)), .int (sc (5 * n + 2))]) (c_X7_life e2) lk_L_39 rfl kdc_189 dl_X7_life rfl (by decide) (by decide) (Nat.le_of_ble_eq_true rfl) dL_law_332 rfl 335 rfl ?_
  exact z_icmp_eq hX 1557 dL_law_335 (by decide) 338 rfl (fun _ => kk s2 hG2) (fun c => absurd rfl c)
set_option maxHeartbeats 4000000 in
set_option maxRecDepth 100000 in
theorem lawc_6 {X : Cx} {Γ : Gm} {r : Rb} {b L n : Nat} {sc : Nat → Int32} {sx : State} {s : St} {G : Nat → St → Prop} (hX : Amb X Γ cL_law RL 4 (some .boolean) 250) (hsc : Scr X Γ b L sc sx) (hi : 5 * n + 5 ≤ L) (hn : n < 64) (hG : G n s) (hop : Op2 f_X6_sitter f_X7_sitter G) (kk : ∀ s2, G (n + 1) s2 → Zw X Γ 4 r s2 1557 [(3, .int (nI (5 * n))), (2, .ref (gL Γ (189))), (1, .ref (gL Γ (0))), (0, .ref b)] []) : Zw X Γ 4 r s 340 [(3, .int (nI (5 * n))), (2, .ref (gL Γ (189))), (1, .ref (gL Γ (0))), (0, .ref b)] [] := by
  obtain ⟨v, s1, s2, e1, e2, hG2⟩ := hop n s (sc (5 * n + 1)) (sc (5 * n + 2)) hn hG
  refine z_aload_n hX dL_law_340 2 rfl 341 rfl ?_
  refine z_aload_n hX dL_law_341 3 rfl 342 rfl ?_
  refine z_iload_n hX dL_law_342 0 rfl 343 rfl ?_
  refine z_iconst hX (v := (nI 1)) dL_law_343 rfl 344 rfl ?_
  refine z_iadd hX dL_law_344 345 rfl ?_
  refine z_sld hX hsc (5 * n + 1) (nI_add _ _) (by omega) dL_law_345 346 rfl ?_
  refine z_aload_n hX dL_law_346 3 rfl 347 rfl ?_
  refine z_iload_n hX dL_law_347 0 rfl 348 rfl ?_
  refine z_iconst hX (v := (nI 2)) dL_law_348 rfl 349 rfl ?_
  refine z_iadd hX dL_law_349 350 rfl ?_
  refine z_sld hX hsc (5 * n + 2) (nI_add _ _) (by omega) dL_law_350 351 rfl ?_
  refine z_cV6i hX (b := 0) (As := [.int (sc (5 * n + 1)), .int (sc (5 * n + 2))]) (c_X6_sitter e1) lk_L_40 rfl kdc_0 dl_X6_sitter rfl (by decide) (by decide) (Nat.le_of_ble_eq_true rfl) dL_law_351 rfl 354 rfl ?_
  refine z_aload_n hX dL_law_354 1 rfl 355 rfl ?_
  refine z_aload_n hX dL_law_355 3 rfl 356 rfl ?_
  refine z_iload_n hX dL_law_356 0 rfl 357 rfl ?_
  refine z_iconst hX (v := (nI 1)) dL_law_357 rfl 358 rfl ?_
  refine z_iadd hX dL_law_358 359 rfl ?_
  refine z_sld hX hsc (5 * n + 1) (nI_add _ _) (by omega) dL_law_359 360 rfl ?_
  refine z_aload_n hX dL_law_360 3 rfl 361 rfl ?_
  refine z_iload_n hX dL_law_361 0 rfl 362 rfl ?_
  refine z_iconst hX (v := (nI 2)) dL_law_362 rfl 363 rfl ?_
  refine z_iadd hX dL_law_363 364 rfl ?_
  refine z_sld hX hsc (5 * n + 2) (nI_add _ _) (by omega) dL_law_364 365 rfl ?_
  refine z_cV7i hX (b := 189) (As := [.int (sc (5 * n + 1)), .int (sc (5 * n + 2))]) (c_X7_sitter e2) lk_L_43 rfl kdc_189 dl_X7_sitter rfl (by decide) (by decide) (Nat.le_of_ble_eq_true rfl) dL_law_365 rfl 368 rfl ?_
  exact z_icmp_eq hX 1557 dL_law_368 (by decide) 371 rfl (fun _ => kk s2 hG2) (fun c => absurd rfl c)
set_option maxHeartbeats 4000000 in
set_option maxRecDepth 100000 in
theorem lawc_7 {X : Cx} {Γ : Gm} {r : Rb} {b L n : Nat} {sc : Nat → Int32} {sx : State} {s : St} {G : Nat → St → Prop} (hX : Amb X Γ cL_law RL 4 (some .boolean) 250) (hsc : Scr X Γ b L sc sx) (hi : 5 * n + 5 ≤ L) (hn : n < 64) (hG : G n s) (hop : Op2 f_X6_has f_X7_has G) (kk : ∀ s2, G (n + 1) s2 → Zw X Γ 4 r s2 1557 [(3, .int (nI (5 * n))), (2, .ref (gL Γ (189))), (1, .ref (gL Γ (0))), (0, .ref b)] []) : Zw X Γ 4 r s 373 [(3, .int (nI (5 * n))), (2, .ref (gL Γ (189))), (1, .ref (gL Γ (0))), (0, .ref b)] [] := by
  obtain ⟨v, s1, s2, e1, e2, hG2⟩ := hop n s (sc (5 * n + 1)) (sc (5 * n + 2)) hn hG
  refine z_aload_n hX dL_law_373 2 rfl 374 rfl ?_
  refine z_aload_n hX dL_law_374 3 rfl 375 rfl ?_
  refine z_iload_n hX dL_law_375 0 rfl 376 rfl ?_
  refine z_iconst hX (v := (nI 1)) dL_law_376 rfl 377 rfl ?_
  refine z_iadd hX dL_law_377 378 rfl ?_
  refine z_sld hX hsc (5 * n + 1) (nI_add _ _) (by omega) dL_law_378 379 rfl ?_
  refine z_aload_n hX dL_law_379 3 rfl 380 rfl ?_
  refine z_iload_n hX dL_law_380 0 rfl 381 rfl ?_
  refine z_iconst hX (v := (nI 2)) dL_law_381 rfl 382 rfl ?_
  refine z_iadd hX dL_law_382 383 rfl ?_
  refine z_sld hX hsc (5 * n + 2) (nI_add _ _) (by omega) dL_law_383 384 rfl ?_
  refine z_cV6i hX (b := 0) (As := [.int (sc (5 * n + 1)), .int (sc (5 * n + 2))]) (c_X6_has e1) lk_L_44 rfl kdc_0 dl_X6_has rfl (by decide) (by decide) (Nat.le_of_ble_eq_true rfl) dL_law_384 rfl 387 rfl ?_
  refine z_aload_n hX dL_law_387 1 rfl 388 rfl ?_
  refine z_aload_n hX dL_law_388 3 rfl 389 rfl ?_
  refine z_iload_n hX dL_law_389 0 rfl 390 rfl ?_
  refine z_iconst hX (v := (nI 1)) dL_law_390 rfl 391 rfl ?_
  refine z_iadd hX dL_law_391 392 rfl ?_
  refine z_sld hX hsc (5 * n + 1) (nI_add _ _) (by omega) dL_law_392 393 rfl ?_
  refine z_aload_n hX dL_law_393 3 rfl 394 rfl ?_
  refine z_iload_n hX dL_law_394 0 rfl 395 rfl ?_
  refine z_iconst hX (v := (nI 2)) dL_law_395 rfl 396 rfl ?_
  refine z_iadd hX dL_law_396 397 rfl ?_
  refine z_sld hX hsc (5 * n + 2) (nI_add _ _) (by omega) dL_law_397 398 rfl ?_
  refine z_cV7i hX (b := 189) (As := [.int (sc (5 * n + 1)), .int (sc (5 * n + 2))]) (c_X7_has e2) lk_L_47 rfl kdc_189 dl_X7_has rfl (by decide) (by decide) (Nat.le_of_ble_eq_true rfl) dL_law_398 rfl 401 rfl ?_
  exact z_icmp_eq hX 1557 dL_law_401 (by decide) 404 rfl (fun _ => kk s2 hG2) (fun c => absurd rfl c)
set_option maxHeartbeats 4000000 in
set_option maxRecDepth 100000 in
theorem lawc_8 {X : Cx} {Γ : Gm} {r : Rb} {b L n : Nat} {sc : Nat → Int32} {sx : State} {s : St} {G : Nat → St → Prop} (hX : Amb X Γ cL_law RL 4 (some .boolean) 250) (hsc : Scr X Γ b L sc sx) (hi : 5 * n + 5 ≤ L) (hn : n < 64) (hG : G n s) (hop : Op2 f_X6_in f_X7_in G) (kk : ∀ s2, G (n + 1) s2 → Zw X Γ 4 r s2 1557 [(3, .int (nI (5 * n))), (2, .ref (gL Γ (189))), (1, .ref (gL Γ (0))), (0, .ref b)] []) : Zw X Γ 4 r s 406 [(3, .int (nI (5 * n))), (2, .ref (gL Γ (189))), (1, .ref (gL Γ (0))), (0, .ref b)] [] := by
  obtain ⟨v, s1, s2, e1, e2, hG2⟩ := hop n s (sc (5 * n + 1)) (sc (5 * n + 2)) hn hG
  refine z_aload_n hX dL_law_406 2 rfl 407 rfl ?_
  refine z_aload_n hX dL_law_407 3 rfl 408 rfl ?_
  refine z_iload_n hX dL_law_408 0 rfl 409 rfl ?_
  refine z_iconst hX (v := (nI 1)) dL_law_409 rfl 410 rfl ?_
  refine z_iadd hX dL_law_410 411 rfl ?_
  refine z_sld hX hsc (5 * n + 1) (nI_add _ _) (by omega) dL_law_411 412 rfl ?_
  refine z_aload_n hX dL_law_412 3 rfl 413 rfl ?_
  refine z_iload_n hX dL_law_413 0 rfl 414 rfl ?_
  refine z_iconst hX (v := (nI 2)) dL_law_414 rfl 415 rfl ?_
  refine z_iadd hX dL_law_415 416 rfl ?_
  refine z_sld hX hsc (5 * n + 2) (nI_add _ _) (by omega) dL_law_416 417 rfl ?_
  refine z_cV6i hX (b := 0) (As := [.int (sc (5 * n + 1)), .int (sc (5 * n + 2))]) (c_X6_in e1) lk_L_48 rfl kdc_0 dl_X6_in rfl (by decide) (by decide) (Nat.le_of_ble_eq_true rfl) dL_law_417 rfl 420 rfl ?_
  refine z_aload_n hX dL_law_420 1 rfl 421 rfl ?_
  refine z_aload_n hX dL_law_421 3 rfl 422 rfl ?_
  refine z_iload_n hX dL_law_422 0 rfl 423 rfl ?_
  refine z_iconst hX (v := (nI 1)) dL_law_423 rfl 424 rfl ?_
  refine z_iadd hX dL_law_424 425 rfl ?_
  refine z_sld hX hsc (5 * n + 1) (nI_add _ _) (by omega) dL_law_425 426 rfl ?_
  refine z_aload_n hX dL_law_426 3 rfl 427 rfl ?_
  refine z_iload_n hX dL_law_427 0 rfl 428 rfl ?_
  refine z_iconst hX (v := (nI 2)) dL_law_428 rfl 429 rfl ?_
  refine z_iadd hX dL_law_429 430 rfl ?_
  refine z_sld hX hsc (5 * n + 2) (nI_add _ _) (by omega) dL_law_430 431 rfl ?_
  refine z_cV7i hX (b := 189) (As := [.int (sc (5 * n + 1)), .int (sc (5 * n + 2))]) (c_X7_in e2) lk_L_51 rfl kdc_189 dl_X7_in rfl (by decide) (by decide) (Nat.le_of_ble_eq_true rfl) dL_law_431 rfl 434 rfl ?_
  exact z_icmp_eq hX 1557 dL_law_434 (by decide) 437 rfl (fun _ => kk s2 hG2) (fun c => absurd rfl c)
set_option maxHeartbeats 4000000 in
set_option maxRecDepth 100000 in
theorem lawc_9 {X : Cx} {Γ : Gm} {r : Rb} {b L n : Nat} {sc : Nat → Int32} {sx : State} {s : St} {G : Nat → St → Prop} (hX : Amb X Γ cL_law RL 4 (some .boolean) 250) (hsc : Scr X Γ b L sc sx) (hi : 5 * n + 5 ≤ L) (hn : n < 64) (hG : G n s) (hop : Op1 f_X6_air f_X7_air G) (kk : ∀ s2, G (n + 1) s2 → Zw X Γ 4 r s2 1557 [(3, .int (nI (5 * n))), (2, .ref (gL Γ (189))), (1, .ref (gL Γ (0))), (0, .ref b)] []) : Zw X Γ 4 r s 439 [(3, .int (nI (5 * n))), (2, .ref (gL Γ (189))), (1, .ref (gL Γ (0))), (0, .ref b)] [] := by
  obtain ⟨v, s1, s2, e1, e2, hG2⟩ := hop n s (sc (5 * n + 1)) hn hG
  refine z_aload_n hX dL_law_439 2 rfl 440 rfl ?_
  refine z_aload_n hX dL_law_440 3 rfl 441 rfl ?_
  refine z_iload_n hX dL_law_441 0 rfl 442 rfl ?_
  refine z_iconst hX (v := (nI 1)) dL_law_442 rfl 443 rfl ?_
  refine z_iadd hX dL_law_443 444 rfl ?_
  refine z_sld hX hsc (5 * n + 1) (nI_add _ _) (by omega) dL_law_444 445 rfl ?_
  refine z_cV6i hX (b := 0) (As := [.int (sc (5 * n + 1))]) (c_X6_air e1) lk_L_52 rfl kdc_0 dl_X6_air rfl (by decide) (by decide) (Nat.le_of_ble_eq_true rfl) dL_law_445 rfl 448 rfl ?_
  refine z_aload_n hX dL_law_448 1 rfl 449 rfl ?_
  refine z_aload_n hX dL_law_449 3 rfl 450 rfl ?_
  refine z_iload_n hX dL_law_450 0 rfl 451 rfl ?_
  refine z_iconst hX (v := (nI 1)) dL_law_451 rfl 452 rfl ?_
  refine z_iadd hX dL_law_452 453 rfl ?_
  refine z_sld hX hsc (5 * n + 1) (nI_add _ _) (by omega) dL_law_453 454 rfl ?_
  refine z_cV7i hX (b := 189) (As := [.int (sc (5 * n + 1))]) (c_X7_air e2) lk_L_55 rfl kdc_189 dl_X7_air rfl (by decide) (by decide) (Nat.le_of_ble_eq_true rfl) dL_law_454 rfl 457 rfl ?_
  exact z_icmp_eq hX 1557 dL_law_457 (by decide) 460 rfl (fun _ => kk s2 hG2) (fun c => absurd rfl c)
set_option maxHeartbeats 4000000 in
set_option maxRecDepth 100000 in
theorem lawc_10 {X : Cx} {Γ : Gm} {r : Rb} {b L n : Nat} {sc : Nat → Int32} {sx : State} {s : St} {G : Nat → St → Prop} (hX : Amb X Γ cL_law RL 4 (some .boolean) 250) (hsc : Scr X Γ b L sc sx) (hi : 5 * n + 5 ≤ L) (hn : n < 64) (hG : G n s) (hop : Op3 f_X6_alter f_X7_alter G) (kk : ∀ s2, G (n + 1) s2 → Zw X Γ 4 r s2 1557 [(3, .int (nI (5 * n))), (2, .ref (gL Γ (189))), (1, .ref (gL Γ (0))), (0, .ref b)] []) : Zw X Γ 4 r s 462 [(3, .int (nI (5 * n))), (2, .ref (gL Γ (189))), (1, .ref (gL Γ (0))), (0, .ref b)] [] := by
  obtain ⟨v, s1, s2, e1, e2, hG2⟩ := hop n s (sc (5 * n + 1)) (sc (5 * n + 2)) (sc (5 * n + 3)) hn hG
  refine z_aload_n hX dL_law_462 2 rfl 463 rfl ?_
  refine z_aload_n hX dL_law_463 3 rfl 464 rfl ?_
  refine z_iload_n hX dL_law_464 0 rfl 465 rfl ?_
  refine z_iconst hX (v := (nI 1)) dL_law_465 rfl 466 rfl ?_
  refine z_iadd hX dL_law_466 467 rfl ?_
  refine z_sld hX hsc (5 * n + 1) (nI_add _ _) (by omega) dL_law_467 468 rfl ?_
  refine z_aload_n hX dL_law_468 3 rfl 469 rfl ?_
  refine z_iload_n hX dL_law_469 0 rfl 470 rfl ?_
  refine z_iconst hX (v := (nI 2)) dL_law_470 rfl 471 rfl ?_
  refine z_iadd hX dL_law_471 472 rfl ?_
  refine z_sld hX hsc (5 * n + 2) (nI_add _ _) (by omega) dL_law_472 473 rfl ?_
  refine z_aload_n hX dL_law_473 3 rfl 474 rfl ?_
  refine z_iload_n hX dL_law_474 0 rfl 475 rfl ?_
  refine z_iconst hX (v := (nI 3)) dL_law_475 rfl 476 rfl ?_
  refine z_iadd hX dL_law_476 477 rfl ?_
  refine z_sld hX hsc (5 * n + 3) (nI_add _ _) (by omega) dL_law_477 478 rfl ?_
  refine z_cV6i hX (b := 0) (As := [.int (sc (5 * n + 1)), .int (sc (5 * n + 2)), .int (sc (5 * n + 3))]) (c_X6_alter e1) lk_L_56 rfl kdc_0 dl_X6_alter rfl (by decide) (by decide) (Nat.le_of_ble_eq_true rfl) dL_law_478 rfl 481 rfl ?_
  refine z_aload_n hX dL_law_481 1 rfl 482 rfl ?_
  refine z_aload_n hX dL_law_482 3 rfl 483 rfl ?_
  refine z_iload_n hX dL_law_483 0 rfl 484 rfl ?_
  refine z_iconst hX (v := (nI 1)) dL_law_484 rfl 485 rfl ?_
  refine z_iadd hX dL_law_485 486 rfl ?_
  refine z_sld hX hsc (5 * n + 1) (nI_add _ _) (by omega) dL_law_486 487 rfl ?_
  refine z_aload_n hX dL_law_487 3 rfl 488 rfl ?_
  refine z_iload_n hX dL_law_488 0 rfl 489 rfl ?_
  refine z_iconst hX (v := (nI 2)) dL_law_489 rfl 490 rfl ?_
  refine z_iadd hX dL_law_490 491 rfl ?_
  refine z_sld hX hsc (5 * n + 2) (nI_add _ _) (by omega) dL_law_491 492 rfl ?_
  refine z_aload_n hX dL_law_492 3 rfl 493 rfl ?_
  refine z_iload_n hX dL_law_493 0 rfl 494 rfl ?_
  refine z_iconst hX (v := (nI 3)) dL_law_494 rfl 495 rfl ?_
  refine z_iadd hX dL_law_495 496 rfl ?_
  refine z_sld hX hsc (5 * n + 3) (nI_add _ _) (by omega) dL_law_496 497 rfl ?_
  refine z_cV7i hX (b := 189) (As := [.int (sc (5 * n + 1)), .int (sc (5 * n + 2)), .int (sc (5 * n + 3))]) (c_X7_alter e2) lk_L_60 rfl kdc_189 dl_X7_alter rfl (by decide) (by decide) (Nat.le_of_ble_eq_true rfl) dL_law_497 rfl 500 rfl ?_
  exact z_icmp_eq hX 1557 dL_law_500 (by decide) 503 rfl (fun _ => kk s2 hG2) (fun c => absurd rfl c)
set_option maxHeartbeats 4000000 in
set_option maxRecDepth 100000 in
theorem lawc_11 {X : Cx} {Γ : Gm} {r : Rb} {b L n : Nat} {sc : Nat → Int32} {sx : State} {s : St} {G : Nat → St → Prop} (hX : Amb X Γ cL_law RL 4 (some .boolean) 250) (hsc : Scr X Γ b L sc sx) (hi : 5 * n + 5 ≤ L) (hn : n < 64) (hG : G n s) (hop : Op3 f_X6_seat f_X7_seat G) (kk : ∀ s2, G (n + 1) s2 → Zw X Γ 4 r s2 1557 [(3, .int (nI (5 * n))), (2, .ref (gL Γ (189))), (1, .ref (gL Γ (0))), (0, .ref b)] []) : Zw X Γ 4 r s 505 [(3, .int (nI (5 * n))), (2, .ref (gL Γ (189))), (1, .ref (gL Γ (0))), (0, .ref b)] [] := by
  obtain ⟨v, s1, s2, e1, e2, hG2⟩ := hop n s (sc (5 * n + 1)) (sc (5 * n + 2)) (sc (5 * n + 3)) hn hG
  refine z_aload_n hX dL_law_505 2 rfl 506 rfl ?_
  refine z_aload_n hX dL_law_506 3 rfl 507 rfl ?_
  refine z_iload_n hX dL_law_507 0 rfl 508 rfl ?_
  refine z_iconst hX (v := (nI 1)) dL_law_508 rfl 509 rfl ?_
  refine z_iadd hX dL_law_509 510 rfl ?_
  refine z_sld hX hsc (5 * n + 1) (nI_add _ _) (by omega) dL_law_510 511 rfl ?_
  refine z_aload_n hX dL_law_511 3 rfl 512 rfl ?_
  refine z_iload_n hX dL_law_512 0 rfl 513 rfl ?_
  refine z_iconst hX (v := (nI 2)) dL_law_513 rfl 514 rfl ?_
  refine z_iadd hX dL_law_514 515 rfl ?_
  refine z_sld hX hsc (5 * n + 2) (nI_add _ _) (by omega) dL_law_515 516 rfl ?_
  refine z_aload_n hX dL_law_516 3 rfl 517 rfl ?_
  refine z_iload_n hX dL_law_517 0 rfl 518 rfl ?_
  refine z_iconst hX (v := (nI 3)) dL_law_518 rfl 519 rfl ?_
  refine z_iadd hX dL_law_519 520 rfl ?_
  refine z_sld hX hsc (5 * n + 3) (nI_add _ _) (by omega) dL_law_520 521 rfl ?_
  refine z_cV6i hX (b := 0) (As := [.int (sc (5 * n + 1)), .int (sc (5 * n + 2)), .int (sc (5 * n + 3))]) (c_X6_seat e1) lk_L_61 rfl kdc_0 dl_X6_seat rfl (by decide) (by decide) (Nat.le_of_ble_eq_true rfl) dL_law_521 rfl 524 rfl ?_
  refine z_aload_n hX dL_law_524 1 rfl 525 rfl ?_
  refine z_aload_n hX dL_law_525 3 rfl 526 rfl ?_
  refine z_iload_n hX dL_law_526 0 rfl 527 rfl ?_
  refine z_iconst hX (v := (nI 1)) dL_law_527 rfl 528 rfl ?_
  refine z_iadd hX dL_law_528 529 rfl ?_
  refine z_sld hX hsc (5 * n + 1) (nI_add _ _) (by omega) dL_law_529 530 rfl ?_
  refine z_aload_n hX dL_law_530 3 rfl 531 rfl ?_
  refine z_iload_n hX dL_law_531 0 rfl 532 rfl ?_
  refine z_iconst hX (v := (nI 2)) dL_law_532 rfl 533 rfl ?_
  refine z_iadd hX dL_law_533 534 rfl ?_
  refine z_sld hX hsc (5 * n + 2) (nI_add _ _) (by omega) dL_law_534 535 rfl ?_
  refine z_aload_n hX dL_law_535 3 rfl 536 rfl ?_
  refine z_iload_n hX dL_law_536 0 rfl 537 rfl ?_
  refine z_iconst hX (v := (nI 3)) dL_law_537 rfl 538 rfl ?_
  refine z_iadd hX dL_law_538 539 rfl ?_
  refine z_sld hX hsc (5 * n + 3) (nI_add _ _) (by omega) dL_law_539 540 rfl ?_
  refine z_cV7i hX (b := 189) (As := [.int (sc (5 * n + 1)), .int (sc (5 * n + 2)), .int (sc (5 * n + 3))]) (c_X7_seat e2) lk_L_64 rfl kdc_189 dl_X7_seat rfl (by decide) (by decide) (Nat.le_of_ble_eq_true rfl) dL_law_540 rfl 543 rfl ?_
  exact z_icmp_eq hX 1557 dL_law_543 (by decide) 546 rfl (fun _ => kk s2 hG2) (fun c => absurd rfl c)
set_option maxHeartbeats 4000000 in
set_option maxRecDepth 100000 in
theorem lawc_12 {X : Cx} {Γ : Gm} {r : Rb} {b L n : Nat} {sc : Nat → Int32} {sx : State} {s : St} {G : Nat → St → Prop} (hX : Amb X Γ cL_law RL 4 (some .boolean) 250) (hsc : Scr X Γ b L sc sx) (hi : 5 * n + 5 ≤ L) (hn : n < 64) (hG : G n s) (hop : Op2 f_X6_blow f_X7_blow G) (kk : ∀ s2, G (n + 1) s2 → Zw X Γ 4 r s2 1557 [(3, .int (nI (5 * n))), (2, .ref (gL Γ (189))), (1, .ref (gL Γ (0))), (0, .ref b)] []) : Zw X Γ 4 r s 548 [(3, .int (nI (5 * n))), (2, .ref (gL Γ (189))), (1, .ref (gL Γ (0))), (0, .ref b)] [] := by
  obtain ⟨v, s1, s2, e1, e2, hG2⟩ := hop n s (sc (5 * n + 1)) (sc (5 * n + 2)) hn hG
  refine z_aload_n hX dL_law_548 2 rfl 549 rfl ?_
  refine z_aload_n hX dL_law_549 3 rfl 550 rfl ?_
  refine z_iload_n hX dL_law_550 0 rfl 551 rfl ?_
  refine z_iconst hX (v := (nI 1)) dL_law_551 rfl 552 rfl ?_
  refine z_iadd hX dL_law_552 553 rfl ?_
  refine z_sld hX hsc (5 * n + 1) (nI_add _ _) (by omega) dL_law_553 554 rfl ?_
  refine z_aload_n hX dL_law_554 3 rfl 555 rfl ?_
  refine z_iload_n hX dL_law_555 0 rfl 556 rfl ?_
  refine z_iconst hX (v := (nI 2)) dL_law_556 rfl 557 rfl ?_
  refine z_iadd hX dL_law_557 558 rfl ?_
  refine z_sld hX hsc (5 * n + 2) (nI_add _ _) (by omega) dL_law_558 559 rfl ?_
  refine z_cV6i hX (b := 0) (As := [.int (sc (5 * n + 1)), .int (sc (5 * n + 2))]) (c_X6_blow e1) lk_L_65 rfl kdc_0 dl_X6_blow rfl (by decide) (by decide) (Nat.le_of_ble_eq_true rfl) dL_law_559 rfl 562 rfl ?_
  refine z_aload_n hX dL_law_562 1 rfl 563 rfl ?_
  refine z_aload_n hX dL_law_563 3 rfl 564 rfl ?_
  refine z_iload_n hX dL_law_564 0 rfl 565 rfl ?_
  refine z_iconst hX (v := (nI 1)) dL_law_565 rfl 566 rfl ?_
  refine z_iadd hX dL_law_566 567 rfl ?_
  refine z_sld hX hsc (5 * n + 1) (nI_add _ _) (by omega) dL_law_567 568 rfl ?_
  refine z_aload_n hX dL_law_568 3 rfl 569 rfl ?_
  refine z_iload_n hX dL_law_569 0 rfl 570 rfl ?_
  refine z_iconst hX (v := (nI 2)) dL_law_570 rfl 571 rfl ?_
  refine z_iadd hX dL_law_571 572 rfl ?_
  refine z_sld hX hsc (5 * n + 2) (nI_add _ _) (by omega) dL_law_572 573 rfl ?_
  refine z_cV7i hX (b := 189) (As := [.int (sc (5 * n + 1)), .int (sc (5 * n + 2))]) (c_X7_blow e2) lk_L_68 rfl kdc_189 dl_X7_blow rfl (by decide) (by decide) (Nat.le_of_ble_eq_true rfl) dL_law_573 rfl 576 rfl ?_
  exact z_icmp_eq hX 1557 dL_law_576 (by decide) 579 rfl (fun _ => kk s2 hG2) (fun c => absurd rfl c)
set_option maxHeartbeats 4000000 in
set_option maxRecDepth 100000 in
theorem lawc_13 {X : Cx} {Γ : Gm} {r : Rb} {b L n : Nat} {sc : Nat → Int32} {sx : State} {s : St} {G : Nat → St → Prop} (hX : Amb X Γ cL_law RL 4 (some .boolean) 250) (hsc : Scr X Γ b L sc sx) (hi : 5 * n + 5 ≤ L) (hn : n < 64) (hG : G n s) (hop : Op2 f_X6_price f_X7_price G) (kk : ∀ s2, G (n + 1) s2 → Zw X Γ 4 r s2 1557 [(3, .int (nI (5 * n))), (2, .ref (gL Γ (189))), (1, .ref (gL Γ (0))), (0, .ref b)] []) : Zw X Γ 4 r s 581 [(3, .int (nI (5 * n))), (2, .ref (gL Γ (189))), (1, .ref (gL Γ (0))), (0, .ref b)] [] := by
  obtain ⟨v, s1, s2, e1, e2, hG2⟩ := hop n s (sc (5 * n + 1)) (sc (5 * n + 2)) hn hG
  refine z_aload_n hX dL_law_581 2 rfl 582 rfl ?_
  refine z_aload_n hX dL_law_582 3 rfl 583 rfl ?_
  refine z_iload_n hX dL_law_583 0 rfl 584 rfl ?_
  refine z_iconst hX (v := (nI 1)) dL_law_584 rfl 585 rfl ?_
  refine z_iadd hX dL_law_585 586 rfl ?_
  refine z_sld hX hsc (5 * n + 1) (nI_add _ _) (by omega) dL_law_586 587 rfl ?_
  refine z_aload_n hX dL_law_587 3 rfl 588 rfl ?_
  refine z_iload_n hX dL_law_588 0 rfl 589 rfl ?_
  refine z_iconst hX (v := (nI 2)) dL_law_589 rfl 590 rfl ?_
  refine z_iadd hX dL_law_590 591 rfl ?_
  refine z_sld hX hsc (5 * n + 2) (nI_add _ _) (by omega) dL_law_591 592 rfl ?_
  refine z_cV6i hX (b := 0) (As := [.int (sc (5 * n + 1)), .int (sc (5 * n + 2))]) (c_X6_price e1) lk_L_69 rfl kdc_0 dl_X6_price rfl (by decide) (by decide) (Nat.le_of_ble_eq_true rfl) dL_law_592 rfl 595 rfl ?_
  refine z_aload_n hX dL_law_595 1 rfl 596 rfl ?_
  refine z_aload_n hX dL_law_596 3 rfl 597 rfl ?_
  refine z_iload_n hX dL_law_597 0 rfl 598 rfl ?_
  refine z_iconst hX (v := (nI 1)) dL_law_598 rfl 599 rfl ?_
  refine z_iadd hX dL_law_599 600 rfl ?_
  refine z_sld hX hsc (5 * n + 1) (nI_add _ _) (by omega) dL_law_600 601 rfl ?_
  refine z_aload_n hX dL_law_601 3 rfl 602 rfl ?_
  refine z_iload_n hX dL_law_602 0 rfl 603 rfl ?_
  refine z_iconst hX (v := (nI 2)) dL_law_603 rfl 604 rfl ?_
  refine z_iadd hX dL_law_604 605 rfl ?_
  refine z_sld hX hsc (5 * n + 2) (nI_add _ _) (by omega) dL_law_605 606 rfl ?_
  refine z_cV7i hX (b := 189) (As := [.int (sc (5 * n + 1)), .int (sc (5 * n + 2))]) (c_X7_price e2) lk_L_72 rfl kdc_189 dl_X7_price rfl (by decide) (by decide) (Nat.le_of_ble_eq_true rfl) dL_law_606 rfl 609 rfl ?_
  exact z_icmp_eq hX 1557 dL_law_609 (by decide) 612 rfl (fun _ => kk s2 hG2) (fun c => absurd rfl c)
set_option maxHeartbeats 4000000 in
set_option maxRecDepth 100000 in
theorem lawc_14 {X : Cx} {Γ : Gm} {r : Rb} {b L n : Nat} {sc : Nat → Int32} {sx : State} {s : St} {G : Nat → St → Prop} (hX : Amb X Γ cL_law RL 4 (some .boolean) 250) (hsc : Scr X Γ b L sc sx) (hi : 5 * n + 5 ≤ L) (hn : n < 64) (hG : G n s) (hop : Op0 f_X6_open f_X7_open G) (kk : ∀ s2, G (n + 1) s2 → Zw X Γ 4 r s2 1557 [(3, .int (nI (5 * n))), (2, .ref (gL Γ (189))), (1, .ref (gL Γ (0))), (0, .ref b)] []) : Zw X Γ 4 r s 614 [(3, .int (nI (5 * n))), (2, .ref (gL Γ (189))), (1, .ref (gL Γ (0))), (0, .ref b)] [] := by
  obtain ⟨v, s1, s2, e1, e2, hG2⟩ := hop n s hn hG
  refine z_aload_n hX dL_law_614 2 rfl 615 rfl ?_
  refine z_cV6i hX (b := 0) (As := []) (c_X6_open e1) lk_L_73 rfl kdc_0 dl_X6_open rfl (by decide) (by decide) (Nat.le_of_ble_eq_true rfl) dL_law_615 rfl 618 rfl ?_
  refine z_aload_n hX dL_law_618 1 rfl 619 rfl ?_
  refine z_cV7i hX (b := 189) (As := []) (c_X7_open e2) lk_L_76 rfl kdc_189 dl_X7_open rfl (by decide) (by decide) (Nat.le_of_ble_eq_true rfl) dL_law_619 rfl 622 rfl ?_
  exact z_icmp_eq hX 1557 dL_law_622 (by decide) 625 rfl (fun _ => kk s2 hG2) (fun c => absurd rfl c)
set_option maxHeartbeats 4000000 in
set_option maxRecDepth 100000 in
theorem lawc_15 {X : Cx} {Γ : Gm} {r : Rb} {b L n : Nat} {sc : Nat → Int32} {sx : State} {s : St} {G : Nat → St → Prop} (hX : Amb X Γ cL_law RL 4 (some .boolean) 250) (hsc : Scr X Γ b L sc sx) (hi : 5 * n + 5 ≤ L) (hn : n < 64) (hG : G n s) (hop : Op1 f_X6_steps f_X7_steps G) (kk : ∀ s2, G (n + 1) s2 → Zw X Γ 4 r s2 1557 [(3, .int (nI (5 * n))), (2, .ref (gL Γ (189))), (1, .ref (gL Γ (0))), (0, .ref b)] []) : Zw X Γ 4 r s 627 [(3, .int (nI (5 * n))), (2, .ref (gL Γ (189))), (1, .ref (gL Γ (0))), (0, .ref b)] [] := by
  obtain ⟨v, s1, s2, e1, e2, hG2⟩ := hop n s (sc (5 * n + 1)) hn hG
  refine z_aload_n hX dL_law_627 2 rfl 628 rfl ?_
  refine z_aload_n hX dL_law_628 3 rfl 629 rfl ?_
  refine z_iload_n hX dL_law_629 0 rfl 630 rfl ?_
  refine z_iconst hX (v := (nI 1)) dL_law_630 rfl 631 rfl ?_
  refine z_iadd hX dL_law_631 632 rfl ?_
  refine z_sld hX hsc (5 * n + 1) (nI_add _ _) (by omega) dL_law_632 633 rfl ?_
  refine z_cV6i hX (b := 0) (As := [.int (sc (5 * n + 1))]) (c_X6_steps e1) lk_L_77 rfl kdc_0 dl_X6_steps rfl (by decide) (by decide) (Nat.le_of_ble_eq_true rfl) dL_law_633 rfl 636 rfl ?_
  refine z_aload_n hX dL_law_636 1 rfl 637 rfl ?_
  refine z_aload_n hX dL_law_637 3 rfl 638 rfl ?_
  refine z_iload_n hX dL_law_638 0 rfl 639 rfl ?_
  refine z_iconst hX (v := (nI 1)) dL_law_639 rfl 640 rfl ?_
  refine z_iadd hX dL_law_640 641 rfl ?_
  refine z_sld hX hsc (5 * n + 1) (nI_add _ _) (by omega) dL_law_641 642 rfl ?_
  refine z_cV7i hX (b := 189) (As := [.int (sc (5 * n + 1))]) (c_X7_steps e2) lk_L_80 rfl kdc_189 dl_X7_steps rfl (by decide) (by decide) (Nat.le_of_ble_eq_true rfl) dL_law_642 rfl 645 rfl ?_
  exact z_icmp_eq hX 1557 dL_law_645 (by decide) 648 rfl (fun _ => kk s2 hG2) (fun c => absurd rfl c)
set_option maxHeartbeats 4000000 in
set_option maxRecDepth 100000 in
theorem lawc_16 {X : Cx} {Γ : Gm} {r : Rb} {b L n : Nat} {sc : Nat → Int32} {sx : State} {s : St} {G : Nat → St → Prop} (hX : Amb X Γ cL_law RL 4 (some .boolean) 250) (hsc : Scr X Γ b L sc sx) (hi : 5 * n + 5 ≤ L) (hn : n < 64) (hG : G n s) (hop : Op2 f_X6_runs f_X7_runs G) (kk : ∀ s2, G (n + 1) s2 → Zw X Γ 4 r s2 1557 [(3, .int (nI (5 * n))), (2, .ref (gL Γ (189))), (1, .ref (gL Γ (0))), (0, .ref b)] []) : Zw X Γ 4 r s 650 [(3, .int (nI (5 * n))), (2, .ref (gL Γ (189))), (1, .ref (gL Γ (0))), (0, .ref b)] [] := by
  obtain ⟨v, s1, s2, e1, e2, hG2⟩ := hop n s (sc (5 * n + 1)) (sc (5 * n + 2)) hn hG
  refine z_aload_n hX dL_law_650 2 rfl 651 rfl ?_
  refine z_aload_n hX dL_law_651 3 rfl 652 rfl ?_
  refine z_iload_n hX dL_law_652 0 rfl 653 rfl ?_
  refine z_iconst hX (v := (nI 1)) dL_law_653 rfl 654 rfl ?_
  refine z_iadd hX dL_law_654 655 rfl ?_
  refine z_sld hX hsc (5 * n + 1) (nI_add _ _) (by omega) dL_law_655 656 rfl ?_
  refine z_aload_n hX dL_law_656 3 rfl 657 rfl ?_
  refine z_iload_n hX dL_law_657 0 rfl 658 rfl ?_
  refine z_iconst hX (v := (nI 2)) dL_law_658 rfl 659 rfl ?_
  refine z_iadd hX dL_law_659 660 rfl ?_
  refine z_sld hX hsc (5 * n + 2) (nI_add _ _) (by omega) dL_law_660 661 rfl ?_
  refine z_cV6i hX (b := 0) (As := [.int (sc (5 * n + 1)), .int (sc (5 * n + 2))]) (c_X6_runs e1) lk_L_81 rfl kdc_0 dl_X6_runs rfl (by decide) (by decide) (Nat.le_of_ble_eq_true rfl) dL_law_661 rfl 664 rfl ?_
  refine z_aload_n hX dL_law_664 1 rfl 665 rfl ?_
  refine z_aload_n hX dL_law_665 3 rfl 666 rfl ?_
  refine z_iload_n hX dL_law_666 0 rfl 667 rfl ?_
  refine z_iconst hX (v := (nI 1)) dL_law_667 rfl 668 rfl ?_
  refine z_iadd hX dL_law_668 669 rfl ?_
  refine z_sld hX hsc (5 * n + 1) (nI_add _ _) (by omega) dL_law_669 670 rfl ?_
  refine z_aload_n hX dL_law_670 3 rfl 671 rfl ?_
  refine z_iload_n hX dL_law_671 0 rfl 672 rfl ?_
  refine z_iconst hX (v := (nI 2)) dL_law_672 rfl 673 rfl ?_
  refine z_iadd hX dL_law_673 674 rfl ?_
  refine z_sld hX hsc (5 * n + 2) (nI_add _ _) (by omega) dL_law_674 675 rfl ?_
  refine z_cV7i hX (b := 189) (As := [.int (sc (5 * n + 1)), .int (sc (5 * n + 2))]) (c_X7_runs e2) lk_L_84 rfl kdc_189 dl_X7_runs rfl (by decide) (by decide) (Nat.le_of_ble_eq_true rfl) dL_law_675 rfl 678 rfl ?_
  exact z_icmp_eq hX 1557 dL_law_678 (by decide) 681 rfl (fun _ => kk s2 hG2) (fun c => absurd rfl c)
set_option maxHeartbeats 4000000 in
set_option maxRecDepth 100000 in
theorem lawc_17 {X : Cx} {Γ : Gm} {r : Rb} {b L n : Nat} {sc : Nat → Int32} {sx : State} {s : St} {G : Nat → St → Prop} (hX : Amb X Γ cL_law RL 4 (some .boolean) 250) (hsc : Scr X Γ b L sc sx) (hi : 5 * n + 5 ≤ L) (hn : n < 64) (hG : G n s) (hop : Op3 f_X6_ahead f_X7_ahead G) (kk : ∀ s2, G (n + 1) s2 → Zw X Γ 4 r s2 1557 [(3, .int (nI (5 * n))), (2, .ref (gL Γ (189))), (1, .ref (gL Γ (0))), (0, .ref b)] []) : Zw X Γ 4 r s 683 [(3, .int (nI (5 * n))), (2, .ref (gL Γ (189))), (1, .ref (gL Γ (0))), (0, .ref b)] [] := by
  obtain ⟨v, s1, s2, e1, e2, hG2⟩ := hop n s (sc (5 * n + 1)) (sc (5 * n + 2)) (sc (5 * n + 3)) hn hG
  refine z_aload_n hX dL_law_683 2 rfl 684 rfl ?_
  refine z_aload_n hX dL_law_684 3 rfl 685 rfl ?_
  refine z_iload_n hX dL_law_685 0 rfl 686 rfl ?_
  refine z_iconst hX (v := (nI 1)) dL_law_686 rfl 687 rfl ?_
  refine z_iadd hX dL_law_687 688 rfl ?_
  refine z_sld hX hsc (5 * n + 1) (nI_add _ _) (by omega) dL_law_688 689 rfl ?_
  refine z_aload_n hX dL_law_689 3 rfl 690 rfl ?_
  refine z_iload_n hX dL_law_690 0 rfl 691 rfl ?_
  refine z_iconst hX (v := (nI 2)) dL_law_691 rfl 692 rfl ?_
  refine z_iadd hX dL_law_692 693 rfl ?_
  refine z_sld hX hsc (5 * n + 2) (nI_add _ _) (by omega) dL_law_693 694 rfl ?_
  refine z_aload_n hX dL_law_694 3 rfl 695 rfl ?_
  refine z_iload_n hX dL_law_695 0 rfl 696 rfl ?_
  refine z_iconst hX (v := (nI 3)) dL_law_696 rfl 697 rfl ?_
  refine z_iadd hX dL_law_697 698 rfl ?_
  refine z_sld hX hsc (5 * n + 3) (nI_add _ _) (by omega) dL_law_698 699 rfl ?_
  refine z_cV6i hX (b := 0) (As := [.int (sc (5 * n + 1)), .int (sc (5 * n + 2)), .int (sc (5 * n + 3))]) (c_X6_ahead e1) lk_L_85 rfl kdc_0 dl_X6_ahead rfl (by decide) (by decide) (Nat.le_of_ble_eq_true rfl) dL_law_699 rfl 702 rfl ?_
  refine z_aload_n hX dL_law_702 1 rfl 703 rfl ?_
  refine z_aload_n hX dL_law_703 3 rfl 704 rfl ?_
  refine z_iload_n hX dL_law_704 0 rfl 705 rfl ?_
  refine z_iconst hX (v := (nI 1)) dL_law_705 rfl 706 rfl ?_
  refine z_iadd hX dL_law_706 707 rfl ?_
  refine z_sld hX hsc (5 * n + 1) (nI_add _ _) (by omega) dL_law_707 708 rfl ?_
  refine z_aload_n hX dL_law_708 3 rfl 709 rfl ?_
  refine z_iload_n hX dL_law_709 0 rfl 710 rfl ?_
  refine z_iconst hX (v := (nI 2)) dL_law_710 rfl 711 rfl ?_
  refine z_iadd hX dL_law_711 712 rfl ?_
  refine z_sld hX hsc (5 * n + 2) (nI_add _ _) (by omega) dL_law_712 713 rfl ?_
  refine z_aload_n hX dL_law_713 3 rfl 714 rfl ?_
  refine z_iload_n hX dL_law_714 0 rfl 715 rfl ?_
  refine z_iconst hX (v := (nI 3)) dL_law_715 rfl 716 rfl ?_
  refine z_iadd hX dL_law_716 717 rfl ?_
  refine z_sld hX hsc (5 * n + 3) (nI_add _ _) (by omega) dL_law_717 718 rfl ?_
  refine z_cV7i hX (b := 189) (As := [.int (sc (5 * n + 1)), .int (sc (5 * n + 2)), .int (sc (5 * n + 3))]) (c_X7_ahead e2) lk_L_88 rfl kdc_189 dl_X7_ahead rfl (by decide) (by decide) (Nat.le_of_ble_eq_true rfl) dL_law_718 rfl 721 rfl ?_
  exact z_icmp_eq hX 1557 dL_law_721 (by decide) 724 rfl (fun _ => kk s2 hG2) (fun c => absurd rfl c)
set_option maxHeartbeats 4000000 in
set_option maxRecDepth 100000 in
theorem lawc_18 {X : Cx} {Γ : Gm} {r : Rb} {b L n : Nat} {sc : Nat → Int32} {sx : State} {s : St} {G : Nat → St → Prop} (hX : Amb X Γ cL_law RL 4 (some .boolean) 250) (hsc : Scr X Γ b L sc sx) (hi : 5 * n + 5 ≤ L) (hn : n < 64) (hG : G n s) (hop : Op2 f_X6_wet f_X7_wet G) (kk : ∀ s2, G (n + 1) s2 → Zw X Γ 4 r s2 1557 [(3, .int (nI (5 * n))), (2, .ref (gL Γ (189))), (1, .ref (gL Γ (0))), (0, .ref b)] []) : Zw X Γ 4 r s 726 [(3, .int (nI (5 * n))), (2, .ref (gL Γ (189))), (1, .ref (gL Γ (0))), (0, .ref b)] [] := by
  obtain ⟨v, s1, s2, e1, e2, hG2⟩ := hop n s (sc (5 * n + 1)) (sc (5 * n + 2)) hn hG
  refine z_aload_n hX dL_law_726 2 rfl 727 rfl ?_
  refine z_aload_n hX dL_law_727 3 rfl 728 rfl ?_
  refine z_iload_n hX dL_law_728 0 rfl 729 rfl ?_
  refine z_iconst hX (v := (nI 1)) dL_law_729 rfl 730 rfl ?_
  refine z_iadd hX dL_law_730 731 rfl ?_
  refine z_sld hX hsc (5 * n + 1) (nI_add _ _) (by omega) dL_law_731 732 rfl ?_
  refine z_aload_n hX dL_law_732 3 rfl 733 rfl ?_
  refine z_iload_n hX dL_law_733 0 rfl 734 rfl ?_
  refine z_iconst hX (v := (nI 2)) dL_law_734 rfl 735 rfl ?_
  refine z_iadd hX dL_law_735 736 rfl ?_
  refine z_sld hX hsc (5 * n + 2) (nI_add _ _) (by omega) dL_law_736 737 rfl ?_
  refine z_cV6i hX (b := 0) (As := [.int (sc (5 * n + 1)), .int (sc (5 * n + 2))]) (c_X6_wet e1) lk_L_89 rfl kdc_0 dl_X6_wet rfl (by decide) (by decide) (Nat.le_of_ble_eq_true rfl) dL_law_737 rfl 740 rfl ?_
  refine z_aload_n hX dL_law_740 1 rfl 741 rfl ?_
  refine z_aload_n hX dL_law_741 3 rfl 742 rfl ?_
  refine z_iload_n hX dL_law_742 0 rfl 743 rfl ?_
  refine z_iconst hX (v := (nI 1)) dL_law_743 rfl 744 rfl ?_
  refine z_iadd hX dL_law_744 745 rfl ?_
  refine z_sld hX hsc (5 * n + 1) (nI_add _ _) (by omega) dL_law_745 746 rfl ?_
  refine z_aload_n hX dL_law_746 3 rfl 747 rfl ?_
  refine z_iload_n hX dL_law_747 0 rfl 748 rfl ?_
  refine z_iconst hX (v := (nI 2)) dL_law_748 rfl 749 rfl ?_
  refine z_iadd hX dL_law_749 750 rfl ?_
  refine z_sld hX hsc (5 * n + 2) (nI_add _ _) (by omega) dL_law_750 751 rfl ?_
  refine z_cV7i hX (b := 189) (As := [.int (sc (5 * n + 1)), .int (sc (5 * n + 2))]) (c_X7_wet e2) lk_L_92 rfl kdc_189 dl_X7_wet rfl (by decide) (by decide) (Nat.le_of_ble_eq_true rfl) dL_law_751 rfl 754 rfl ?_
  exact z_icmp_eq hX 1557 dL_law_754 (by decide) 757 rfl (fun _ => kk s2 hG2) (fun c => absurd rfl c)
set_option maxHeartbeats 4000000 in
set_option maxRecDepth 100000 in
theorem lawc_19 {X : Cx} {Γ : Gm} {r : Rb} {b L n : Nat} {sc : Nat → Int32} {sx : State} {s : St} {G : Nat → St → Prop} (hX : Amb X Γ cL_law RL 4 (some .boolean) 250) (hsc : Scr X Γ b L sc sx) (hi : 5 * n + 5 ≤ L) (hn : n < 64) (hG : G n s) (hop : Op0 f_X6_over f_X7_over G) (kk : ∀ s2, G (n + 1) s2 → Zw X Γ 4 r s2 1557 [(3, .int (nI (5 * n))), (2, .ref (gL Γ (189))), (1, .ref (gL Γ (0))), (0, .ref b)] []) : Zw X Γ 4 r s 759 [(3, .int (nI (5 * n))), (2, .ref (gL Γ (189))), (1, .ref (gL Γ (0))), (0, .ref b)] [] := by
  obtain ⟨v, s1, s2, e1, e2, hG2⟩ := hop n s hn hG
  refine z_aload_n hX dL_law_759 2 rfl 760 rfl ?_
  refine z_cV6i hX (b := 0) (As := []) (c_X6_over e1) lk_L_93 rfl kdc_0 dl_X6_over rfl (by decide) (by decide) (Nat.le_of_ble_eq_true rfl) dL_law_760 rfl 763 rfl ?_
  refine z_aload_n hX dL_law_763 1 rfl 764 rfl ?_
  refine z_cV7i hX (b := 189) (As := []) (c_X7_over e2) lk_L_96 rfl kdc_189 dl_X7_over rfl (by decide) (by decide) (Nat.le_of_ble_eq_true rfl) dL_law_764 rfl 767 rfl ?_
  exact z_icmp_eq hX 1557 dL_law_767 (by decide) 770 rfl (fun _ => kk s2 hG2) (fun c => absurd rfl c)
set_option maxHeartbeats 4000000 in
set_option maxRecDepth 100000 in
theorem lawc_20 {X : Cx} {Γ : Gm} {r : Rb} {b L n : Nat} {sc : Nat → Int32} {sx : State} {s : St} {G : Nat → St → Prop} (hX : Amb X Γ cL_law RL 4 (some .boolean) 250) (hsc : Scr X Γ b L sc sx) (hi : 5 * n + 5 ≤ L) (hn : n < 64) (hG : G n s) (hop : Op3 f_X6_best f_X7_best G) (kk : ∀ s2, G (n + 1) s2 → Zw X Γ 4 r s2 1557 [(3, .int (nI (5 * n))), (2, .ref (gL Γ (189))), (1, .ref (gL Γ (0))), (0, .ref b)] []) : Zw X Γ 4 r s 772 [(3, .int (nI (5 * n))), (2, .ref (gL Γ (189))), (1, .ref (gL Γ (0))), (0, .ref b)] [] := by
  obtain ⟨v, s1, s2, e1, e2, hG2⟩ := hop n s (sc (5 * n + 1)) (sc (5 * n + 2)) (sc (5 * n + 3)) hn hG
  refine z_aload_n hX dL_law_772 2 rfl 773 rfl ?_
  refine z_aload_n hX dL_law_773 3 rfl 774 rfl ?_
  refine z_iload_n hX dL_law_774 0 rfl 775 rfl ?_
  refine z_iconst hX (v := (nI 1)) dL_law_775 rfl 776 rfl ?_
  refine z_iadd hX dL_law_776 777 rfl ?_
  refine z_sld hX hsc (5 * n + 1) (nI_add _ _) (by omega) dL_law_777 778 rfl ?_
  refine z_aload_n hX dL_law_778 3 rfl 779 rfl ?_
  refine z_iload_n hX dL_law_779 0 rfl 780 rfl ?_
  refine z_iconst hX (v := (nI 2)) dL_law_780 rfl 781 rfl ?_
  refine z_iadd hX dL_law_781 782 rfl ?_
  refine z_sld hX hsc (5 * n + 2) (nI_add _ _) (by omega) dL_law_782 783 rfl ?_
  refine z_aload_n hX dL_law_783 3 rfl 784 rfl ?_
  refine z_iload_n hX dL_law_784 0 rfl 785 rfl ?_
  refine z_iconst hX (v := (nI 3)) dL_law_785 rfl 786 rfl ?_
  refine z_iadd hX dL_law_786 787 rfl ?_
  refine z_sld hX hsc (5 * n + 3) (nI_add _ _) (by omega) dL_law_787 788 rfl ?_
  refine z_cV6i hX (b := 0) (As := [.int (sc (5 * n + 1)), .int (sc (5 * n + 2)), .int (sc (5 * n + 3))]) (c_X6_best e1) lk_L_97 rfl kdc_0 dl_X6_best rfl (by decide) (by decide) (Nat.le_of_ble_eq_true rfl) dL_law_788 rfl 791 rfl ?_
  refine z_aload_n hX dL_law_791 1 rfl 792 rfl ?_
  refine z_aload_n hX dL_law_792 3 rfl 793 rfl ?_
  refine z_iload_n hX dL_law_793 0 rfl 794 rfl ?_
  refine z_iconst hX (v := (nI 1)) dL_law_794 rfl 795 rfl ?_
  refine z_iadd hX dL_law_795 796 rfl ?_
  refine z_sld hX hsc (5 * n + 1) (nI_add _ _) (by omega) dL_law_796 797 rfl ?_
  refine z_aload_n hX dL_law_797 3 rfl 798 rfl ?_
  refine z_iload_n hX dL_law_798 0 rfl 799 rfl ?_
  refine z_iconst hX (v := (nI 2)) dL_law_799 rfl 800 rfl ?_
  refine z_iadd hX dL_law_800 801 rfl ?_
  refine z_sld hX hsc (5 * n + 2) (nI_add _ _) (by omega) dL_law_801 802 rfl ?_
  refine z_aload_n hX dL_law_802 3 rfl 803 rfl ?_
  refine z_iload_n hX dL_law_803 0 rfl 804 rfl ?_
  refine z_iconst hX (v := (nI 3)) dL_law_804 rfl 805 rfl ?_
  refine z_iadd hX dL_law_805 806 rfl ?_
  refine z_sld hX hsc (5 * n + 3) (nI_add _ _) (by omega) dL_law_806 807 rfl ?_
  refine z_cV7i hX (b := 189) (As := [.int (sc (5 * n + 1)), .int (sc (5 * n + 2)), .int (sc (5 * n + 3))]) (c_X7_best e2) lk_L_100 rfl kdc_189 dl_X7_best rfl (by decide) (by decide) (Nat.le_of_ble_eq_true rfl) dL_law_807 rfl 810 rfl ?_
  exact z_icmp_eq hX 1557 dL_law_810 (by decide) 813 rfl (fun _ => kk s2 hG2) (fun c => absurd rfl c)
set_option maxHeartbeats 4000000 in
set_option maxRecDepth 100000 in
theorem lawc_21 {X : Cx} {Γ : Gm} {r : Rb} {b L n : Nat} {sc : Nat → Int32} {sx : State} {s : St} {G : Nat → St → Prop} (hX : Amb X Γ cL_law RL 4 (some .boolean) 250) (hsc : Scr X Γ b L sc sx) (hi : 5 * n + 5 ≤ L) (hn : n < 64) (hG : G n s) (hop : Op3 f_X6_cheap f_X7_cheap G) (kk : ∀ s2, G (n + 1) s2 → Zw X Γ 4 r s2 1557 [(3, .int (nI (5 * n))), (2, .ref (gL Γ (189))), (1, .ref (gL Γ (0))), (0, .ref b)] []) : Zw X Γ 4 r s 815 [(3, .int (nI (5 * n))), (2, .ref (gL Γ (189))), (1, .ref (gL Γ (0))), (0, .ref b)] [] := by
  obtain ⟨v, s1, s2, e1, e2, hG2⟩ := hop n s (sc (5 * n + 1)) (sc (5 * n + 2)) (sc (5 * n + 3)) hn hG
  refine z_aload_n hX dL_law_815 2 rfl 816 rfl ?_
  refine z_aload_n hX dL_law_816 3 rfl 817 rfl ?_
  refine z_iload_n hX dL_law_817 0 rfl 818 rfl ?_
  refine z_iconst hX (v := (nI 1)) dL_law_818 rfl 819 rfl ?_
  refine z_iadd hX dL_law_819 820 rfl ?_
  refine z_sld hX hsc (5 * n + 1) (nI_add _ _) (by omega) dL_law_820 821 rfl ?_
  refine z_aload_n hX dL_law_821 3 rfl 822 rfl ?_
  refine z_iload_n hX dL_law_822 0 rfl 823 rfl ?_
  refine z_iconst hX (v := (nI 2)) dL_law_823 rfl 824 rfl ?_
  refine z_iadd hX dL_law_824 825 rfl ?_
  refine z_sld hX hsc (5 * n + 2) (nI_add _ _) (by omega) dL_law_825 826 rfl ?_
  refine z_aload_n hX dL_law_826 3 rfl 827 rfl ?_
  refine z_iload_n hX dL_law_827 0 rfl 828 rfl ?_
  refine z_iconst hX (v := (nI 3)) dL_law_828 rfl 829 rfl ?_
  refine z_iadd hX dL_law_829 830 rfl ?_
  refine z_sld hX hsc (5 * n + 3) (nI_add _ _) (by omega) dL_law_830 831 rfl ?_
  refine z_cV6i hX (b := 0) (As := [.int (sc (5 * n + 1)), .int (sc (5 * n + 2)), .int (sc (5 * n + 3))]) (c_X6_cheap e1) lk_L_101 rfl kdc_0 dl_X6_cheap rfl (by decide) (by decide) (Nat.le_of_ble_eq_true rfl) dL_law_831 rfl 834 rfl ?_
  refine z_aload_n hX dL_law_834 1 rfl 835 rfl ?_
  refine z_aload_n hX dL_law_835 3 rfl 836 rfl ?_
  refine z_iload_n hX dL_law_836 0 rfl 837 rfl ?_
  refine z_iconst hX (v := (nI 1)) dL_law_837 rfl 838 rfl ?_
  refine z_iadd hX dL_law_838 839 rfl ?_
  refine z_sld hX hsc (5 * n + 1) (nI_add _ _) (by omega) dL_law_839 840 rfl ?_
  refine z_aload_n hX dL_law_840 3 rfl 841 rfl ?_
  refine z_iload_n hX dL_law_841 0 rfl 842 rfl ?_
  refine z_iconst hX (v := (nI 2)) dL_law_842 rfl 843 rfl ?_
  refine z_iadd hX dL_law_843 844 rfl ?_
  refine z_sld hX hsc (5 * n + 2) (nI_add _ _) (by omega) dL_law_844 845 rfl ?_
  refine z_aload_n hX dL_law_845 3 rfl 846 rfl ?_
  refine z_iload_n hX dL_law_846 0 rfl 847 rfl ?_
  refine z_iconst hX (v := (nI 3)) dL_law_847 rfl 848 rfl ?_
  refine z_iadd hX dL_law_848 849 rfl ?_
  refine z_sld hX hsc (5 * n + 3) (nI_add _ _) (by omega) dL_law_849 850 rfl ?_
  refine z_cV7i hX (b := 189) (As := [.int (sc (5 * n + 1)), .int (sc (5 * n + 2)), .int (sc (5 * n + 3))]) (c_X7_cheap e2) lk_L_104 rfl kdc_189 dl_X7_cheap rfl (by decide) (by decide) (Nat.le_of_ble_eq_true rfl) dL_law_850 rfl 853 rfl ?_
  exact z_icmp_eq hX 1557 dL_law_853 (by decide) 856 rfl (fun _ => kk s2 hG2) (fun c => absurd rfl c)
set_option maxHeartbeats 4000000 in
set_option maxRecDepth 100000 in
theorem lawc_22 {X : Cx} {Γ : Gm} {r : Rb} {b L n : Nat} {sc : Nat → Int32} {sx : State} {s : St} {G : Nat → St → Prop} (hX : Amb X Γ cL_law RL 4 (some .boolean) 250) (hsc : Scr X Γ b L sc sx) (hi : 5 * n + 5 ≤ L) (hn : n < 64) (hG : G n s) (hop : Op3 f_X6_clean f_X7_clean G) (kk : ∀ s2, G (n + 1) s2 → Zw X Γ 4 r s2 1557 [(3, .int (nI (5 * n))), (2, .ref (gL Γ (189))), (1, .ref (gL Γ (0))), (0, .ref b)] []) : Zw X Γ 4 r s 858 [(3, .int (nI (5 * n))), (2, .ref (gL Γ (189))), (1, .ref (gL Γ (0))), (0, .ref b)] [] := by
  obtain ⟨v, s1, s2, e1, e2, hG2⟩ := hop n s (sc (5 * n + 1)) (sc (5 * n + 2)) (sc (5 * n + 3)) hn hG
  refine z_aload_n hX dL_law_858 2 rfl 859 rfl ?_
  refine z_aload_n hX dL_law_859 3 rfl 860 rfl ?_
  refine z_iload_n hX dL_law_860 0 rfl 861 rfl ?_
  refine z_iconst hX (v := (nI 1)) dL_law_861 rfl 862 rfl ?_
  refine z_iadd hX dL_law_862 863 rfl ?_
  refine z_sld hX hsc (5 * n + 1) (nI_add _ _) (by omega) dL_law_863 864 rfl ?_
  refine z_aload_n hX dL_law_864 3 rfl 865 rfl ?_
  refine z_iload_n hX dL_law_865 0 rfl 866 rfl ?_
  refine z_iconst hX (v := (nI 2)) dL_law_866 rfl 867 rfl ?_
  refine z_iadd hX dL_law_867 868 rfl ?_
  refine z_sld hX hsc (5 * n + 2) (nI_add _ _) (by omega) dL_law_868 869 rfl ?_
  refine z_aload_n hX dL_law_869 3 rfl 870 rfl ?_
  refine z_iload_n hX dL_law_870 0 rfl 871 rfl ?_
  refine z_iconst hX (v := (nI 3)) dL_law_871 rfl 872 rfl ?_
  refine z_iadd hX dL_law_872 873 rfl ?_
  refine z_sld hX hsc (5 * n + 3) (nI_add _ _) (by omega) dL_law_873 874 rfl ?_
  refine z_cV6i hX (b := 0) (As := [.int (sc (5 * n + 1)), .int (sc (5 * n + 2)), .int (sc (5 * n + 3))]) (c_X6_clean e1) lk_L_105 rfl kdc_0 dl_X6_clean rfl (by decide) (by decide) (Nat.le_of_ble_eq_true rfl) dL_law_874 rfl 877 rfl ?_
  refine z_aload_n hX dL_law_877 1 rfl 878 rfl ?_
  refine z_aload_n hX dL_law_878 3 rfl 879 rfl ?_
  refine z_iload_n hX dL_law_879 0 rfl 880 rfl ?_
  refine z_iconst hX (v := (nI 1)) dL_law_880 rfl 881 rfl ?_
  refine z_iadd hX dL_law_881 882 rfl ?_
  refine z_sld hX hsc (5 * n + 1) (nI_add _ _) (by omega) dL_law_882 883 rfl ?_
  refine z_aload_n hX dL_law_883 3 rfl 884 rfl ?_
  refine z_iload_n hX dL_law_884 0 rfl 885 rfl ?_
  refine z_iconst hX (v := (nI 2)) dL_law_885 rfl 886 rfl ?_
  refine z_iadd hX dL_law_886 887 rfl ?_
  refine z_sld hX hsc (5 * n + 2) (nI_add _ _) (by omega) dL_law_887 888 rfl ?_
  refine z_aload_n hX dL_law_888 3 rfl 889 rfl ?_
  refine z_iload_n hX dL_law_889 0 rfl 890 rfl ?_
  refine z_iconst hX (v := (nI 3)) dL_law_890 rfl 891 rfl ?_
  refine z_iadd hX dL_law_891 892 rfl ?_
  refine z_sld hX hsc (5 * n + 3) (nI_add _ _) (by omega) dL_law_892 893 rfl ?_
  refine z_cV7i hX (b := 189) (As := [.int (sc (5 * n + 1)), .int (sc (5 * n + 2)), .int (sc (5 * n + 3))]) (c_X7_clean e2) lk_L_108 rfl kdc_189 dl_X7_clean rfl (by decide) (by decide) (Nat.le_of_ble_eq_true rfl) dL_law_893 rfl 896 rfl ?_
  exact z_icmp_eq hX 1557 dL_law_896 (by decide) 899 rfl (fun _ => kk s2 hG2) (fun c => absurd rfl c)
set_option maxHeartbeats 4000000 in
set_option maxRecDepth 100000 in
theorem lawc_23 {X : Cx} {Γ : Gm} {r : Rb} {b L n : Nat} {sc : Nat → Int32} {sx : State} {s : St} {G : Nat → St → Prop} (hX : Amb X Γ cL_law RL 4 (some .boolean) 250) (hsc : Scr X Γ b L sc sx) (hi : 5 * n + 5 ≤ L) (hn : n < 64) (hG : G n s) (hop : Op3 f_X6_need f_X7_need G) (kk : ∀ s2, G (n + 1) s2 → Zw X Γ 4 r s2 1557 [(3, .int (nI (5 * n))), (2, .ref (gL Γ (189))), (1, .ref (gL Γ (0))), (0, .ref b)] []) : Zw X Γ 4 r s 901 [(3, .int (nI (5 * n))), (2, .ref (gL Γ (189))), (1, .ref (gL Γ (0))), (0, .ref b)] [] := by
  obtain ⟨v, s1, s2, e1, e2, hG2⟩ := hop n s (sc (5 * n + 1)) (sc (5 * n + 2)) (sc (5 * n + 3)) hn hG
  refine z_aload_n hX dL_law_901 2 rfl 902 rfl ?_
  refine z_aload_n hX dL_law_902 3 rfl 903 rfl ?_
  refine z_iload_n hX dL_law_903 0 rfl 904 rfl ?_
  refine z_iconst hX (v := (nI 1)) dL_law_904 rfl 905 rfl ?_
  refine z_iadd hX dL_law_905 906 rfl ?_
  refine z_sld hX hsc (5 * n + 1) (nI_add _ _) (by omega) dL_law_906 907 rfl ?_
  refine z_aload_n hX dL_law_907 3 rfl 908 rfl ?_
  refine z_iload_n hX dL_law_908 0 rfl 909 rfl ?_
  refine z_iconst hX (v := (nI 2)) dL_law_909 rfl 910 rfl ?_
  refine z_iadd hX dL_law_910 911 rfl ?_
  refine z_sld hX hsc (5 * n + 2) (nI_add _ _) (by omega) dL_law_911 912 rfl ?_
  refine z_aload_n hX dL_law_912 3 rfl 913 rfl ?_
  refine z_iload_n hX dL_law_913 0 rfl 914 rfl ?_
  refine z_iconst hX (v := (nI 3)) dL_law_914 rfl 915 rfl ?_
  refine z_iadd hX dL_law_915 916 rfl ?_
  refine z_sld hX hsc (5 * n + 3) (nI_add _ _) (by omega) dL_law_916 917 rfl ?_
  refine z_cV6i hX (b := 0) (As := [.int (sc (5 * n + 1)), .int (sc (5 * n + 2)), .int (sc (5 * n + 3))]) (c_X6_need e1) lk_L_109 rfl kdc_0 dl_X6_need rfl (by decide) (by decide) (Nat.le_of_ble_eq_true rfl) dL_law_917 rfl 920 rfl ?_
  refine z_aload_n hX dL_law_920 1 rfl 921 rfl ?_
  refine z_aload_n hX dL_law_921 3 rfl 922 rfl ?_
  refine z_iload_n hX dL_law_922 0 rfl 923 rfl ?_
  refine z_iconst hX (v := (nI 1)) dL_law_923 rfl 924 rfl ?_
  refine z_iadd hX dL_law_924 925 rfl ?_
  refine z_sld hX hsc (5 * n + 1) (nI_add _ _) (by omega) dL_law_925 926 rfl ?_
  refine z_aload_n hX dL_law_926 3 rfl 927 rfl ?_
  refine z_iload_n hX dL_law_927 0 rfl 928 rfl ?_
  refine z_iconst hX (v := (nI 2)) dL_law_928 rfl 929 rfl ?_
  refine z_iadd hX dL_law_929 930 rfl ?_
  refine z_sld hX hsc (5 * n + 2) (nI_add _ _) (by omega) dL_law_930 931 rfl ?_
  refine z_aload_n hX dL_law_931 3 rfl 932 rfl ?_
  refine z_iload_n hX dL_law_932 0 rfl 933 rfl ?_
  refine z_iconst hX (v := (nI 3)) dL_law_933 rfl 934 rfl ?_
  refine z_iadd hX dL_law_934 935 rfl ?_
  refine z_sld hX hsc (5 * n + 3) (nI_add _ _) (by omega) dL_law_935 936 rfl ?_
  refine z_cV7i hX (b := 189) (As := [.int (sc (5 * n + 1)), .int (sc (5 * n + 2)), .int (sc (5 * n + 3))]) (c_X7_need e2) lk_L_112 rfl kdc_189 dl_X7_need rfl (by decide) (by decide) (Nat.le_of_ble_eq_true rfl) dL_law_936 rfl 939 rfl ?_
  exact z_icmp_eq hX 1557 dL_law_939 (by decide) 942 rfl (fun _ => kk s2 hG2) (fun c => absurd rfl c)
set_option maxHeartbeats 4000000 in
set_option maxRecDepth 100000 in
theorem lawc_24 {X : Cx} {Γ : Gm} {r : Rb} {b L n : Nat} {sc : Nat → Int32} {sx : State} {s : St} {G : Nat → St → Prop} (hX : Amb X Γ cL_law RL 4 (some .boolean) 250) (hsc : Scr X Γ b L sc sx) (hi : 5 * n + 5 ≤ L) (hn : n < 64) (hG : G n s) (hop : Op2 f_X6_swap f_X7_swap G) (kk : ∀ s2, G (n + 1) s2 → Zw X Γ 4 r s2 1557 [(3, .int (nI (5 * n))), (2, .ref (gL Γ (189))), (1, .ref (gL Γ (0))), (0, .ref b)] []) : Zw X Γ 4 r s 944 [(3, .int (nI (5 * n))), (2, .ref (gL Γ (189))), (1, .ref (gL Γ (0))), (0, .ref b)] [] := by
  obtain ⟨v, s1, s2, e1, e2, hG2⟩ := hop n s (sc (5 * n + 1)) (sc (5 * n + 2)) hn hG
  refine z_aload_n hX dL_law_944 2 rfl 945 rfl ?_
  refine z_aload_n hX dL_law_945 3 rfl 946 rfl ?_
  refine z_iload_n hX dL_law_946 0 rfl 947 rfl ?_
  refine z_iconst hX (v := (nI 1)) dL_law_947 rfl 948 rfl ?_
  refine z_iadd hX dL_law_948 949 rfl ?_
  refine z_sld hX hsc (5 * n + 1) (nI_add _ _) (by omega) dL_law_949 950 rfl ?_
  refine z_aload_n hX dL_law_950 3 rfl 951 rfl ?_
  refine z_iload_n hX dL_law_951 0 rfl 952 rfl ?_
  refine z_iconst hX (v := (nI 2)) dL_law_952 rfl 953 rfl ?_
  refine z_iadd hX dL_law_953 954 rfl ?_
  refine z_sld hX hsc (5 * n + 2) (nI_add _ _) (by omega) dL_law_954 955 rfl ?_
  refine z_cV6i hX (b := 0) (As := [.int (sc (5 * n + 1)), .int (sc (5 * n + 2))]) (c_X6_swap e1) lk_L_113 rfl kdc_0 dl_X6_swap rfl (by decide) (by decide) (Nat.le_of_ble_eq_true rfl) dL_law_955 rfl 958 rfl ?_
  refine z_aload_n hX dL_law_958 1 rfl 959 rfl ?_
  refine z_aload_n hX dL_law_959 3 rfl 960 rfl ?_
  refine z_iload_n hX dL_law_960 0 rfl 961 rfl ?_
  refine z_iconst hX (v := (nI 1)) dL_law_961 rfl 962 rfl ?_
  refine z_iadd hX dL_law_962 963 rfl ?_
  refine z_sld hX hsc (5 * n + 1) (nI_add _ _) (by omega) dL_law_963 964 rfl ?_
  refine z_aload_n hX dL_law_964 3 rfl 965 rfl ?_
  refine z_iload_n hX dL_law_965 0 rfl 966 rfl ?_
  refine z_iconst hX (v := (nI 2)) dL_law_966 rfl 967 rfl ?_
  refine z_iadd hX dL_law_967 968 rfl ?_
  refine z_sld hX hsc (5 * n + 2) (nI_add _ _) (by omega) dL_law_968 969 rfl ?_
  refine z_cV7i hX (b := 189) (As := [.int (sc (5 * n + 1)), .int (sc (5 * n + 2))]) (c_X7_swap e2) lk_L_116 rfl kdc_189 dl_X7_swap rfl (by decide) (by decide) (Nat.le_of_ble_eq_true rfl) dL_law_969 rfl 972 rfl ?_
  exact z_icmp_eq hX 1557 dL_law_972 (by decide) 975 rfl (fun _ => kk s2 hG2) (fun c => absurd rfl c)
set_option maxHeartbeats 4000000 in
set_option maxRecDepth 100000 in
theorem lawc_25 {X : Cx} {Γ : Gm} {r : Rb} {b L n : Nat} {sc : Nat → Int32} {sx : State} {s : St} {G : Nat → St → Prop} (hX : Amb X Γ cL_law RL 4 (some .boolean) 250) (hsc : Scr X Γ b L sc sx) (hi : 5 * n + 5 ≤ L) (hn : n < 64) (hG : G n s) (hop : Op3 f_X6_fan f_X7_fan G) (kk : ∀ s2, G (n + 1) s2 → Zw X Γ 4 r s2 1557 [(3, .int (nI (5 * n))), (2, .ref (gL Γ (189))), (1, .ref (gL Γ (0))), (0, .ref b)] []) : Zw X Γ 4 r s 977 [(3, .int (nI (5 * n))), (2, .ref (gL Γ (189))), (1, .ref (gL Γ (0))), (0, .ref b)] [] := by
  obtain ⟨v, s1, s2, e1, e2, hG2⟩ := hop n s (sc (5 * n + 1)) (sc (5 * n + 2)) (sc (5 * n + 3)) hn hG
  refine z_aload_n hX dL_law_977 2 rfl 978 rfl ?_
  refine z_aload_n hX dL_law_978 3 rfl 979 rfl ?_
  refine z_iload_n hX dL_law_979 0 rfl 980 rfl ?_
  refine z_iconst hX (v := (nI 1)) dL_law_980 rfl 981 rfl ?_
  refine z_iadd hX dL_law_981 982 rfl ?_
  refine z_sld hX hsc (5 * n + 1) (nI_add _ _) (by omega) dL_law_982 983 rfl ?_
  refine z_aload_n hX dL_law_983 3 rfl 984 rfl ?_
  refine z_iload_n hX dL_law_984 0 rfl 985 rfl ?_
  refine z_iconst hX (v := (nI 2)) dL_law_985 rfl 986 rfl ?_
  refine z_iadd hX dL_law_986 987 rfl ?_
  refine z_sld hX hsc (5 * n + 2) (nI_add _ _) (by omega) dL_law_987 988 rfl ?_
  refine z_aload_n hX dL_law_988 3 rfl 989 rfl ?_
  refine z_iload_n hX dL_law_989 0 rfl 990 rfl ?_
  refine z_iconst hX (v := (nI 3)) dL_law_990 rfl 991 rfl ?_
  refine z_iadd hX dL_law_991 992 rfl ?_
  refine z_sld hX hsc (5 * n + 3) (nI_add _ _) (by omega) dL_law_992 993 rfl ?_
  refine z_cV6i hX (b := 0) (As := [.int (sc (5 * n + 1)), .int (sc (5 * n + 2)), .int (sc (5 * n + 3))]) (c_X6_fan e1) lk_L_117 rfl kdc_0 dl_X6_fan rfl (by decide) (by decide) (Nat.le_of_ble_eq_true rfl) dL_law_993 rfl 996 rfl ?_
  refine z_aload_n hX dL_law_996 1 rfl 997 rfl ?_
  refine z_aload_n hX dL_law_997 3 rfl 998 rfl ?_
  refine z_iload_n hX dL_law_998 0 rfl 999 rfl ?_
  refine z_iconst hX (v := (nI 1)) dL_law_999 rfl 1000 rfl ?_
  refine z_iadd hX dL_law_1000 1001 rfl ?_
  refine z_sld hX hsc (5 * n + 1) (nI_add _ _) (by omega) dL_law_1001 1002 rfl ?_
  refine z_aload_n hX dL_law_1002 3 rfl 1003 rfl ?_
  refine z_iload_n hX dL_law_1003 0 rfl 1004 rfl ?_
  refine z_iconst hX (v := (nI 2)) dL_law_1004 rfl 1005 rfl ?_
  refine z_iadd hX dL_law_1005 1006 rfl ?_
  refine z_sld hX hsc (5 * n + 2) (nI_add _ _) (by omega) dL_law_1006 1007 rfl ?_
  refine z_aload_n hX dL_law_1007 3 rfl 1008 rfl ?_
  refine z_iload_n hX dL_law_1008 0 rfl 1009 rfl ?_
  refine z_iconst hX (v := (nI 3)) dL_law_1009 rfl 1010 rfl ?_
  refine z_iadd hX dL_law_1010 1011 rfl ?_
  refine z_sld hX hsc (5 * n + 3) (nI_add _ _) (by omega) dL_law_1011 1012 rfl ?_
  refine z_cV7i hX (b := 189) (As := [.int (sc (5 * n + 1)), .int (sc (5 * n + 2)), .int (sc (5 * n + 3))]) (c_X7_fan e2) lk_L_120 rfl kdc_189 dl_X7_fan rfl (by decide) (by decide) (Nat.le_of_ble_eq_true rfl) dL_law_1012 rfl 1015 rfl ?_
  exact z_icmp_eq hX 1557 dL_law_1015 (by decide) 1018 rfl (fun _ => kk s2 hG2) (fun c => absurd rfl c)
set_option maxHeartbeats 4000000 in
set_option maxRecDepth 100000 in
theorem lawc_26 {X : Cx} {Γ : Gm} {r : Rb} {b L n : Nat} {sc : Nat → Int32} {sx : State} {s : St} {G : Nat → St → Prop} (hX : Amb X Γ cL_law RL 4 (some .boolean) 250) (hsc : Scr X Γ b L sc sx) (hi : 5 * n + 5 ≤ L) (hn : n < 64) (hG : G n s) (hop : Op4L f_X6_luck f_X7_luck G) (kk : ∀ s2, G (n + 1) s2 → Zw X Γ 4 r s2 1557 [(3, .int (nI (5 * n))), (2, .ref (gL Γ (189))), (1, .ref (gL Γ (0))), (0, .ref b)] []) : Zw X Γ 4 r s 1020 [(3, .int (nI (5 * n))), (2, .ref (gL Γ (189))), (1, .ref (gL Γ (0))), (0, .ref b)] [] := by
  obtain ⟨v, s1, s2, e1, e2, hG2⟩ := hop n s (sc (5 * n + 1)) (sc (5 * n + 2)) (sc (5 * n + 3)) (sc (5 * n + 4)) hn hG
  refine z_aload_n hX dL_law_1020 2 rfl 1021 rfl ?_
  refine z_aload_n hX dL_law_1021 3 rfl 1022 rfl ?_
  refine z_iload_n hX dL_law_1022 0 rfl 1023 rfl ?_
  refine z_iconst hX (v := (nI 1)) dL_law_1023 rfl 1024 rfl ?_
  refine z_iadd hX dL_law_1024 1025 rfl ?_
  refine z_sld hX hsc (5 * n + 1) (nI_add _ _) (by omega) dL_law_1025 1026 rfl ?_
  refine z_aload_n hX dL_law_1026 3 rfl 1027 rfl ?_
  refine z_iload_n hX dL_law_1027 0 rfl 1028 rfl ?_
  refine z_iconst hX (v := (nI 2)) dL_law_1028 rfl 1029 rfl ?_
  refine z_iadd hX dL_law_1029 1030 rfl ?_
  refine z_sld hX hsc (5 * n + 2) (nI_add _ _) (by omega) dL_law_1030 1031 rfl ?_
  refine z_aload_n hX dL_law_1031 3 rfl 1032 rfl ?_
  refine z_iload_n hX dL_law_1032 0 rfl 1033 rfl ?_
  refine z_iconst hX (v := (nI 3)) dL_law_1033 rfl 1034 rfl ?_
  refine z_iadd hX dL_law_1034 1035 rfl ?_
  refine z_sld hX hsc (5 * n + 3) (nI_add _ _) (by omega) dL_law_1035 1036 rfl ?_
  refine z_aload_n hX dL_law_1036 3 rfl 1037 rfl ?_
  refine z_iload_n hX dL_law_1037 0 rfl 1038 rfl ?_
  refine z_iconst hX (v := (nI 4)) dL_law_1038 rfl 1039 rfl ?_
  refine z_iadd hX dL_law_1039 1040 rfl ?_
  refine z_sld hX hsc (5 * n + 4) (nI_add _ _) (by omega) dL_law_1040 1041 rfl ?_
  refine z_cV6l hX (b := 0) (As := [.int (sc (5 * n + 1)), .int (sc (5 * n + 2)), .int (sc (5 * n + 3)), .int (sc (5 * n + 4))]) (c_X6_luck e1) lk_L_121 rfl kdc_0 dl_X6_luck rfl (by decide) (by decide) (Nat.le_of_ble_eq_true rfl) dL_law_1041 rfl 1044 rfl ?_
  refine z_aload_n hX dL_law_1044 1 rfl 1045 rfl ?_
  refine z_aload_n hX dL_law_1045 3 rfl 1046 rfl ?_
  refine z_iload_n hX dL_law_1046 0 rfl 1047 rfl ?_
  refine z_iconst hX (v := (nI 1)) dL_law_1047 rfl 1048 rfl ?_
  refine z_iadd hX dL_law_1048 1049 rfl ?_
  refine z_sld hX hsc (5 * n + 1) (nI_add _ _) (by omega) dL_law_1049 1050 rfl ?_
  refine z_aload_n hX dL_law_1050 3 rfl 1051 rfl ?_
  refine z_iload_n hX dL_law_1051 0 rfl 1052 rfl ?_
  refine z_iconst hX (v := (nI 2)) dL_law_1052 rfl 1053 rfl ?_
  refine z_iadd hX dL_law_1053 1054 rfl ?_
  refine z_sld hX hsc (5 * n + 2) (nI_add _ _) (by omega) dL_law_1054 1055 rfl ?_
  refine z_aload_n hX dL_law_1055 3 rfl 1056 rfl ?_
  refine z_iload_n hX dL_law_1056 0 rfl 1057 rfl ?_
  refine z_iconst hX (v := (nI 3)) dL_law_1057 rfl 1058 rfl ?_
  refine z_iadd hX dL_law_1058 1059 rfl ?_
  refine z_sld hX hsc (5 * n + 3) (nI_add _ _) (by omega) dL_law_1059 1060 rfl ?_
  refine z_aload_n hX dL_law_1060 3 rfl 1061 rfl ?_
  refine z_iload_n hX dL_law_1061 0 rfl 1062 rfl ?_
  refine z_iconst hX (v := (nI 4)) dL_law_1062 rfl 1063 rfl ?_
  refine z_iadd hX dL_law_1063 1064 rfl ?_
  refine z_sld hX hsc (5 * n + 4) (nI_add _ _) (by omega) dL_law_1064 1065 rfl ?_
  refine z_cV7l hX (b := 189) (As := [.int (sc (5 * n + 1)), .int (sc (5 * n + 2)), .int (sc (5 * n + 3)), .int (sc (5 * n + 4))]) (c_X7_luck e2) lk_L_125 rfl kdc_189 dl_X7_luck rfl (by decide) (by decide) (Nat.le_of_ble_eq_true rfl) dL_law_1065 rfl 1068 rfl ?_
  refine z_lcmp hX dL_law_1068 1069 rfl ?_
  rw [show lg_cmp v v = 0 by simp [lg_cmp]]
  exact z_if_eq hX 1557 dL_law_1069 (by decide) 1072 rfl (fun _ => kk s2 hG2) (fun c => absurd rfl c)
set_option maxHeartbeats 4000000 in
set_option maxRecDepth 100000 in
theorem lawc_27 {X : Cx} {Γ : Gm} {r : Rb} {b L n : Nat} {sc : Nat → Int32} {sx : State} {s : St} {G : Nat → St → Prop} (hX : Amb X Γ cL_law RL 4 (some .boolean) 250) (hsc : Scr X Γ b L sc sx) (hi : 5 * n + 5 ≤ L) (hn : n < 64) (hG : G n s) (hop : Op4L f_X6_mean f_X7_mean G) (kk : ∀ s2, G (n + 1) s2 → Zw X Γ 4 r s2 1557 [(3, .int (nI (5 * n))), (2, .ref (gL Γ (189))), (1, .ref (gL Γ (0))), (0, .ref b)] []) : Zw X Γ 4 r s 1074 [(3, .int (nI (5 * n))), (2, .ref (gL Γ (189))), (1, .ref (gL Γ (0))), (0, .ref b)] [] := by
  obtain ⟨v, s1, s2, e1, e2, hG2⟩ := hop n s (sc (5 * n + 1)) (sc (5 * n + 2)) (sc (5 * n + 3)) (sc (5 * n + 4)) hn hG
  refine z_aload_n hX dL_law_1074 2 rfl 1075 rfl ?_
  refine z_aload_n hX dL_law_1075 3 rfl 1076 rfl ?_
  refine z_iload_n hX dL_law_1076 0 rfl 1077 rfl ?_
  refine z_iconst hX (v := (nI 1)) dL_law_1077 rfl 1078 rfl ?_
  refine z_iadd hX dL_law_1078 1079 rfl ?_
  refine z_sld hX hsc (5 * n + 1) (nI_add _ _) (by omega) dL_law_1079 1080 rfl ?_
  refine z_aload_n hX dL_law_1080 3 rfl 1081 rfl ?_
  refine z_iload_n hX dL_law_1081 0 rfl 1082 rfl ?_
  refine z_iconst hX (v := (nI 2)) dL_law_1082 rfl 1083 rfl ?_
  refine z_iadd hX dL_law_1083 1084 rfl ?_
  refine z_sld hX hsc (5 * n + 2) (nI_add _ _) (by omega) dL_law_1084 1085 rfl ?_
  refine z_aload_n hX dL_law_1085 3 rfl 1086 rfl ?_
  refine z_iload_n hX dL_law_1086 0 rfl 1087 rfl ?_
  refine z_iconst hX (v := (nI 3)) dL_law_1087 rfl 1088 rfl ?_
  refine z_iadd hX dL_law_1088 1089 rfl ?_
  refine z_sld hX hsc (5 * n + 3) (nI_add _ _) (by omega) dL_law_1089 1090 rfl ?_
  refine z_aload_n hX dL_law_1090 3 rfl 1091 rfl ?_
  refine z_iload_n hX dL_law_1091 0 rfl 1092 rfl ?_
  refine z_iconst hX (v := (nI 4)) dL_law_1092 rfl 1093 rfl ?_
  refine z_iadd hX dL_law_1093 1094 rfl ?_
  refine z_sld hX hsc (5 * n + 4) (nI_add _ _) (by omega) dL_law_1094 1095 rfl ?_
  refine z_cV6l hX (b := 0) (As := [.int (sc (5 * n + 1)), .int (sc (5 * n + 2)), .int (sc (5 * n + 3)), .int (sc (5 * n + 4))]) (c_X6_mean e1) lk_L_126 rfl kdc_0 dl_X6_mean rfl (by decide) (by decide) (Nat.le_of_ble_eq_true rfl) dL_law_1095 rfl 1098 rfl ?_
  refine z_aload_n hX dL_law_1098 1 rfl 1099 rfl ?_
  refine z_aload_n hX dL_law_1099 3 rfl 1100 rfl ?_
  refine z_iload_n hX dL_law_1100 0 rfl 1101 rfl ?_
  refine z_iconst hX (v := (nI 1)) dL_law_1101 rfl 1102 rfl ?_
  refine z_iadd hX dL_law_1102 1103 rfl ?_
  refine z_sld hX hsc (5 * n + 1) (nI_add _ _) (by omega) dL_law_1103 1104 rfl ?_
  refine z_aload_n hX dL_law_1104 3 rfl 1105 rfl ?_
  refine z_iload_n hX dL_law_1105 0 rfl 1106 rfl ?_
  refine z_iconst hX (v := (nI 2)) dL_law_1106 rfl 1107 rfl ?_
  refine z_iadd hX dL_law_1107 1108 rfl ?_
  refine z_sld hX hsc (5 * n + 2) (nI_add _ _) (by omega) dL_law_1108 1109 rfl ?_
  refine z_aload_n hX dL_law_1109 3 rfl 1110 rfl ?_
  refine z_iload_n hX dL_law_1110 0 rfl 1111 rfl ?_
  refine z_iconst hX (v := (nI 3)) dL_law_1111 rfl 1112 rfl ?_
  refine z_iadd hX dL_law_1112 1113 rfl ?_
  refine z_sld hX hsc (5 * n + 3) (nI_add _ _) (by omega) dL_law_1113 1114 rfl ?_
  refine z_aload_n hX dL_law_1114 3 rfl 1115 rfl ?_
  refine z_iload_n hX dL_law_1115 0 rfl 1116 rfl ?_
  refine z_iconst hX (v := (nI 4)) dL_law_1116 rfl 1117 rfl ?_
  refine z_iadd hX dL_law_1117 1118 rfl ?_
  refine z_sld hX hsc (5 * n + 4) (nI_add _ _) (by omega) dL_law_1118 1119 rfl ?_
  refine z_cV7l hX (b := 189) (As := [.int (sc (5 * n + 1)), .int (sc (5 * n + 2)), .int (sc (5 * n + 3)), .int (sc (5 * n + 4))]) (c_X7_mean e2) lk_L_129 rfl kdc_189 dl_X7_mean rfl (by decide) (by decide) (Nat.le_of_ble_eq_true rfl) dL_law_1119 rfl 1122 rfl ?_
  refine z_lcmp hX dL_law_1122 1123 rfl ?_
  rw [show lg_cmp v v = 0 by simp [lg_cmp]]
  exact z_if_eq hX 1557 dL_law_1123 (by decide) 1126 rfl (fun _ => kk s2 hG2) (fun c => absurd rfl c)
set_option maxHeartbeats 4000000 in
set_option maxRecDepth 100000 in
theorem lawc_28 {X : Cx} {Γ : Gm} {r : Rb} {b L n : Nat} {sc : Nat → Int32} {sx : State} {s : St} {G : Nat → St → Prop} (hX : Amb X Γ cL_law RL 4 (some .boolean) 250) (hsc : Scr X Γ b L sc sx) (hi : 5 * n + 5 ≤ L) (hn : n < 64) (hG : G n s) (hop : Op4 f_X6_see f_X7_see G) (kk : ∀ s2, G (n + 1) s2 → Zw X Γ 4 r s2 1557 [(3, .int (nI (5 * n))), (2, .ref (gL Γ (189))), (1, .ref (gL Γ (0))), (0, .ref b)] []) : Zw X Γ 4 r s 1128 [(3, .int (nI (5 * n))), (2, .ref (gL Γ (189))), (1, .ref (gL Γ (0))), (0, .ref b)] [] := by
  obtain ⟨v, s1, s2, e1, e2, hG2⟩ := hop n s (sc (5 * n + 1)) (sc (5 * n + 2)) (sc (5 * n + 3)) (sc (5 * n + 4)) hn hG
  refine z_aload_n hX dL_law_1128 2 rfl 1129 rfl ?_
  refine z_aload_n hX dL_law_1129 3 rfl 1130 rfl ?_
  refine z_iload_n hX dL_law_1130 0 rfl 1131 rfl ?_
  refine z_iconst hX (v := (nI 1)) dL_law_1131 rfl 1132 rfl ?_
  refine z_iadd hX dL_law_1132 1133 rfl ?_
  refine z_sld hX hsc (5 * n + 1) (nI_add _ _) (by omega) dL_law_1133 1134 rfl ?_
  refine z_aload_n hX dL_law_1134 3 rfl 1135 rfl ?_
  refine z_iload_n hX dL_law_1135 0 rfl 1136 rfl ?_
  refine z_iconst hX (v := (nI 2)) dL_law_1136 rfl 1137 rfl ?_
  refine z_iadd hX dL_law_1137 1138 rfl ?_
  refine z_sld hX hsc (5 * n + 2) (nI_add _ _) (by omega) dL_law_1138 1139 rfl ?_
  refine z_aload_n hX dL_law_1139 3 rfl 1140 rfl ?_
  refine z_iload_n hX dL_law_1140 0 rfl 1141 rfl ?_
  refine z_iconst hX (v := (nI 3)) dL_law_1141 rfl 1142 rfl ?_
  refine z_iadd hX dL_law_1142 1143 rfl ?_
  refine z_sld hX hsc (5 * n + 3) (nI_add _ _) (by omega) dL_law_1143 1144 rfl ?_
  refine z_aload_n hX dL_law_1144 3 rfl 1145 rfl ?_
  refine z_iload_n hX dL_law_1145 0 rfl 1146 rfl ?_
  refine z_iconst hX (v := (nI 4)) dL_law_1146 rfl 1147 rfl ?_
  refine z_iadd hX dL_law_1147 1148 rfl ?_
  refine z_sld hX hsc (5 * n + 4) (nI_add _ _) (by omega) dL_law_1148 1149 rfl ?_
  refine z_cV6i hX (b := 0) (As := [.int (sc (5 * n + 1)), .int (sc (5 * n + 2)), .int (sc (5 * n + 3)), .int (sc (5 * n + 4))]) (c_X6_see e1) lk_L_130 rfl kdc_0 dl_X6_see rfl (by decide) (by decide) (Nat.le_of_ble_eq_true rfl) dL_law_1149 rfl 1152 rfl ?_
  refine z_aload_n hX dL_law_1152 1 rfl 1153 rfl ?_
  refine z_aload_n hX dL_law_1153 3 rfl 1154 rfl ?_
  refine z_iload_n hX dL_law_1154 0 rfl 1155 rfl ?_
  refine z_iconst hX (v := (nI 1)) dL_law_1155 rfl 1156 rfl ?_
  refine z_iadd hX dL_law_1156 1157 rfl ?_
  refine z_sld hX hsc (5 * n + 1) (nI_add _ _) (by omega) dL_law_1157 1158 rfl ?_
  refine z_aload_n hX dL_law_1158 3 rfl 1159 rfl ?_
  refine z_iload_n hX dL_law_1159 0 rfl 1160 rfl ?_
  refine z_iconst hX (v := (nI 2)) dL_law_1160 rfl 1161 rfl ?_
  refine z_iadd hX dL_law_1161 1162 rfl ?_
  refine z_sld hX hsc (5 * n + 2) (nI_add _ _) (by omega) dL_law_1162 1163 rfl ?_
  refine z_aload_n hX dL_law_1163 3 rfl 1164 rfl ?_
  refine z_iload_n hX dL_law_1164 0 rfl 1165 rfl ?_
  refine z_iconst hX (v := (nI 3)) dL_law_1165 rfl 1166 rfl ?_
  refine z_iadd hX dL_law_1166 1167 rfl ?_
  refine z_sld hX hsc (5 * n + 3) (nI_add _ _) (by omega) dL_law_1167 1168 rfl ?_
  refine z_aload_n hX dL_law_1168 3 rfl 1169 rfl ?_
  refine z_iload_n hX dL_law_1169 0 rfl 1170 rfl ?_
  refine z_iconst hX (v := (nI 4)) dL_law_1170 rfl 1171 rfl ?_
  refine z_iadd hX dL_law_1171 1172 rfl ?_
  refine z_sld hX hsc (5 * n + 4) (nI_add _ _) (by omega) dL_law_1172 1173 rfl ?_
  refine z_cV7i hX (b := 189) (As := [.int (sc (5 * n + 1)), .int (sc (5 * n + 2)), .int (sc (5 * n + 3)), .int (sc (5 * n + 4))]) (c_X7_see e2) lk_L_134 rfl kdc_189 dl_X7_see rfl (by decide) (by decide) (Nat.le_of_ble_eq_true rfl) dL_law_1173 rfl 1176 rfl ?_
  exact z_icmp_eq hX 1557 dL_law_1176 (by decide) 1179 rfl (fun _ => kk s2 hG2) (fun c => absurd rfl c)
set_option maxHeartbeats 4000000 in
set_option maxRecDepth 100000 in
theorem lawc_29 {X : Cx} {Γ : Gm} {r : Rb} {b L n : Nat} {sc : Nat → Int32} {sx : State} {s : St} {G : Nat → St → Prop} (hX : Amb X Γ cL_law RL 4 (some .boolean) 250) (hsc : Scr X Γ b L sc sx) (hi : 5 * n + 5 ≤ L) (hn : n < 64) (hG : G n s) (hop : Op1 f_X6_forget f_X7_forget G) (kk : ∀ s2, G (n + 1) s2 → Zw X Γ 4 r s2 1557 [(3, .int (nI (5 * n))), (2, .ref (gL Γ (189))), (1, .ref (gL Γ (0))), (0, .ref b)] []) : Zw X Γ 4 r s 1181 [(3, .int (nI (5 * n))), (2, .ref (gL Γ (189))), (1, .ref (gL Γ (0))), (0, .ref b)] [] := by
  obtain ⟨v, s1, s2, e1, e2, hG2⟩ := hop n s (sc (5 * n + 1)) hn hG
  refine z_aload_n hX dL_law_1181 2 rfl 1182 rfl ?_
  refine z_aload_n hX dL_law_1182 3 rfl 1183 rfl ?_
  refine z_iload_n hX dL_law_1183 0 rfl 1184 rfl ?_
  refine z_iconst hX (v := (nI 1)) dL_law_1184 rfl 1185 rfl ?_
  refine z_iadd hX dL_law_1185 1186 rfl ?_
  refine z_sld hX hsc (5 * n + 1) (nI_add _ _) (by omega) dL_law_1186 1187 rfl ?_
  refine z_cV6i hX (b := 0) (As := [.int (sc (5 * n + 1))]) (c_X6_forget e1) lk_L_135 rfl kdc_0 dl_X6_forget rfl (by decide) (by decide) (Nat.le_of_ble_eq_true rfl) dL_law_1187 rfl 1190 rfl ?_
  refine z_aload_n hX dL_law_1190 1 rfl 1191 rfl ?_
  refine z_aload_n hX dL_law_1191 3 rfl 1192 rfl ?_
  refine z_iload_n hX dL_law_1192 0 rfl 1193 rfl ?_
  refine z_iconst hX (v := (nI 1)) dL_law_1193 rfl 1194 rfl ?_
  refine z_iadd hX dL_law_1194 1195 rfl ?_
  refine z_sld hX hsc (5 * n + 1) (nI_add _ _) (by omega) dL_law_1195 1196 rfl ?_
  refine z_cV7i hX (b := 189) (As := [.int (sc (5 * n + 1))]) (c_X7_forget e2) lk_L_138 rfl kdc_189 dl_X7_forget rfl (by decide) (by decide) (Nat.le_of_ble_eq_true rfl) dL_law_1196 rfl 1199 rfl ?_
  exact z_icmp_eq hX 1557 dL_law_1199 (by decide) 1202 rfl (fun _ => kk s2 hG2) (fun c => absurd rfl c)
set_option maxHeartbeats 4000000 in
set_option maxRecDepth 100000 in
theorem lawc_30 {X : Cx} {Γ : Gm} {r : Rb} {b L n : Nat} {sc : Nat → Int32} {sx : State} {s : St} {G : Nat → St → Prop} (hX : Amb X Γ cL_law RL 4 (some .boolean) 250) (hsc : Scr X Γ b L sc sx) (hi : 5 * n + 5 ≤ L) (hn : n < 64) (hG : G n s) (hop : Op1 f_X6_kinds f_X7_kinds G) (kk : ∀ s2, G (n + 1) s2 → Zw X Γ 4 r s2 1557 [(3, .int (nI (5 * n))), (2, .ref (gL Γ (189))), (1, .ref (gL Γ (0))), (0, .ref b)] []) : Zw X Γ 4 r s 1204 [(3, .int (nI (5 * n))), (2, .ref (gL Γ (189))), (1, .ref (gL Γ (0))), (0, .ref b)] [] := by
  obtain ⟨v, s1, s2, e1, e2, hG2⟩ := hop n s (sc (5 * n + 1)) hn hG
  refine z_aload_n hX dL_law_1204 2 rfl 1205 rfl ?_
  refine z_aload_n hX dL_law_1205 3 rfl 1206 rfl ?_
  refine z_iload_n hX dL_law_1206 0 rfl 1207 rfl ?_
  refine z_iconst hX (v := (nI 1)) dL_law_1207 rfl 1208 rfl ?_
  refine z_iadd hX dL_law_1208 1209 rfl ?_
  refine z_sld hX hsc (5 * n + 1) (nI_add _ _) (by omega) dL_law_1209 1210 rfl ?_
  refine z_cV6i hX (b := 0) (As := [.int (sc (5 * n + 1))]) (c_X6_kinds e1) lk_L_139 rfl kdc_0 dl_X6_kinds rfl (by decide) (by decide) (Nat.le_of_ble_eq_true rfl) dL_law_1210 rfl 1213 rfl ?_
  refine z_aload_n hX dL_law_1213 1 rfl 1214 rfl ?_
  refine z_aload_n hX dL_law_1214 3 rfl 1215 rfl ?_
  refine z_iload_n hX dL_law_1215 0 rfl 1216 rfl ?_
  refine z_iconst hX (v := (nI 1)) dL_law_1216 rfl 1217 rfl ?_
  refine z_iadd hX dL_law_1217 1218 rfl ?_
  refine z_sld hX hsc (5 * n + 1) (nI_add _ _) (by omega) dL_law_1218 1219 rfl ?_
  refine z_cV7i hX (b := 189) (As := [.int (sc (5 * n + 1))]) (c_X7_kinds e2) lk_L_142 rfl kdc_189 dl_X7_kinds rfl (by decide) (by decide) (Nat.le_of_ble_eq_true rfl) dL_law_1219 rfl 1222 rfl ?_
  exact z_icmp_eq hX 1557 dL_law_1222 (by decide) 1225 rfl (fun _ => kk s2 hG2) (fun c => absurd rfl c)
set_option maxHeartbeats 4000000 in
set_option maxRecDepth 100000 in
theorem lawc_31 {X : Cx} {Γ : Gm} {r : Rb} {b L n : Nat} {sc : Nat → Int32} {sx : State} {s : St} {G : Nat → St → Prop} (hX : Amb X Γ cL_law RL 4 (some .boolean) 250) (hsc : Scr X Γ b L sc sx) (hi : 5 * n + 5 ≤ L) (hn : n < 64) (hG : G n s) (hop : Op2 f_X6_froms f_X7_froms G) (kk : ∀ s2, G (n + 1) s2 → Zw X Γ 4 r s2 1557 [(3, .int (nI (5 * n))), (2, .ref (gL Γ (189))), (1, .ref (gL Γ (0))), (0, .ref b)] []) : Zw X Γ 4 r s 1227 [(3, .int (nI (5 * n))), (2, .ref (gL Γ (189))), (1, .ref (gL Γ (0))), (0, .ref b)] [] := by
  obtain ⟨v, s1, s2, e1, e2, hG2⟩ := hop n s (sc (5 * n + 1)) (sc (5 * n + 2)) hn hG
  refine z_aload_n hX dL_law_1227 2 rfl 1228 rfl ?_
  refine z_aload_n hX dL_law_1228 3 rfl 1229 rfl ?_
  refine z_iload_n hX dL_law_1229 0 rfl 1230 rfl ?_
  refine z_iconst hX (v := (nI 1)) dL_law_1230 rfl 1231 rfl ?_
  refine z_iadd hX dL_law_1231 1232 rfl ?_
  refine z_sld hX hsc (5 * n + 1) (nI_add _ _) (by omega) dL_law_1232 1233 rfl ?_
  refine z_aload_n hX dL_law_1233 3 rfl 1234 rfl ?_
  refine z_iload_n hX dL_law_1234 0 rfl 1235 rfl ?_
  refine z_iconst hX (v := (nI 2)) dL_law_1235 rfl 1236 rfl ?_
  refine z_iadd hX dL_law_1236 1237 rfl ?_
  refine z_sld hX hsc (5 * n + 2) (nI_add _ _) (by omega) dL_law_1237 1238 rfl ?_
  refine z_cV6i hX (b := 0) (As := [.int (sc (5 * n + 1)), .int (sc (5 * n + 2))]) (c_X6_froms e1) lk_L_143 rfl kdc_0 dl_X6_froms rfl (by decide) (by decide) (Nat.le_of_ble_eq_true rfl) dL_law_1238 rfl 1241 rfl ?_
  refine z_aload_n hX dL_law_1241 1 rfl 1242 rfl ?_
  refine z_aload_n hX dL_law_1242 3 rfl 1243 rfl ?_
  refine z_iload_n hX dL_law_1243 0 rfl 1244 rfl ?_
  refine z_iconst hX (v := (nI 1)) dL_law_1244 rfl 1245 rfl ?_
  refine z_iadd hX dL_law_1245 1246 rfl ?_
  refine z_sld hX hsc (5 * n + 1) (nI_add _ _) (by omega) dL_law_1246 1247 rfl ?_
  refine z_aload_n hX dL_law_1247 3 rfl 1248 rfl ?_
  refine z_iload_n hX dL_law_1248 0 rfl 1249 rfl ?_
  refine z_iconst hX (v := (nI 2)) dL_law_1249 rfl 1250 rfl ?_
  refine z_iadd hX dL_law_1250 1251 rfl ?_
  refine z_sld hX hsc (5 * n + 2) (nI_add _ _) (by omega) dL_law_1251 1252 rfl ?_
  refine z_cV7i hX (b := 189) (As := [.int (sc (5 * n + 1)), .int (sc (5 * n + 2))]) (c_X7_froms e2) lk_L_146 rfl kdc_189 dl_X7_froms rfl (by decide) (by decide) (Nat.le_of_ble_eq_true rfl) dL_law_1252 rfl 1255 rfl ?_
  exact z_icmp_eq hX 1557 dL_law_1255 (by decide) 1258 rfl (fun _ => kk s2 hG2) (fun c => absurd rfl c)
set_option maxHeartbeats 4000000 in
set_option maxRecDepth 100000 in
theorem lawc_32 {X : Cx} {Γ : Gm} {r : Rb} {b L n : Nat} {sc : Nat → Int32} {sx : State} {s : St} {G : Nat → St → Prop} (hX : Amb X Γ cL_law RL 4 (some .boolean) 250) (hsc : Scr X Γ b L sc sx) (hi : 5 * n + 5 ≤ L) (hn : n < 64) (hG : G n s) (hop : Op2 f_X6_ask f_X7_ask G) (kk : ∀ s2, G (n + 1) s2 → Zw X Γ 4 r s2 1557 [(3, .int (nI (5 * n))), (2, .ref (gL Γ (189))), (1, .ref (gL Γ (0))), (0, .ref b)] []) : Zw X Γ 4 r s 1260 [(3, .int (nI (5 * n))), (2, .ref (gL Γ (189))), (1, .ref (gL Γ (0))), (0, .ref b)] [] := by
  obtain ⟨v, s1, s2, e1, e2, hG2⟩ := hop n s (sc (5 * n + 1)) (sc (5 * n + 2)) hn hG
  refine z_aload_n hX dL_law_1260 2 rfl 1261 rfl ?_
  refine z_aload_n hX dL_law_1261 3 rfl 1262 rfl ?_
  refine z_iload_n hX dL_law_1262 0 rfl 1263 rfl ?_
  refine z_iconst hX (v := (nI 1)) dL_law_1263 rfl 1264 rfl ?_
  refine z_iadd hX dL_law_1264 1265 rfl ?_
  refine z_sld hX hsc (5 * n + 1) (nI_add _ _) (by omega) dL_law_1265 1266 rfl ?_
  refine z_aload_n hX dL_law_1266 3 rfl 1267 rfl ?_
  refine z_iload_n hX dL_law_1267 0 rfl 1268 rfl ?_
  refine z_iconst hX (v := (nI 2)) dL_law_1268 rfl 1269 rfl ?_
  refine z_iadd hX dL_law_1269 1270 rfl ?_
  refine z_sld hX hsc (5 * n + 2) (nI_add _ _) (by omega) dL_law_1270 1271 rfl ?_
  refine z_cV6i hX (b := 0) (As := [.int (sc (5 * n + 1)), .int (sc (5 * n + 2))]) (c_X6_ask e1) lk_L_147 rfl kdc_0 dl_X6_ask rfl (by decide) (by decide) (Nat.le_of_ble_eq_true rfl) dL_law_1271 rfl 1274 rfl ?_
  refine z_aload_n hX dL_law_1274 1 rfl 1275 rfl ?_
  refine z_aload_n hX dL_law_1275 3 rfl 1276 rfl ?_
  refine z_iload_n hX dL_law_1276 0 rfl 1277 rfl ?_
  refine z_iconst hX (v := (nI 1)) dL_law_1277 rfl 1278 rfl ?_
  refine z_iadd hX dL_law_1278 1279 rfl ?_
  refine z_sld hX hsc (5 * n + 1) (nI_add _ _) (by omega) dL_law_1279 1280 rfl ?_
  refine z_aload_n hX dL_law_1280 3 rfl 1281 rfl ?_
  refine z_iload_n hX dL_law_1281 0 rfl 1282 rfl ?_
  refine z_iconst hX (v := (nI 2)) dL_law_1282 rfl 1283 rfl ?_
  refine z_iadd hX dL_law_1283 1284 rfl ?_
  refine z_sld hX hsc (5 * n + 2) (nI_add _ _) (by omega) dL_law_1284 1285 rfl ?_
  refine z_cV7i hX (b := 189) (As := [.int (sc (5 * n + 1)), .int (sc (5 * n + 2))]) (c_X7_ask e2) lk_L_150 rfl kdc_189 dl_X7_ask rfl (by decide) (by decide) (Nat.le_of_ble_eq_true rfl) dL_law_1285 rfl 1288 rfl ?_
  exact z_icmp_eq hX 1557 dL_law_1288 (by decide) 1291 rfl (fun _ => kk s2 hG2) (fun c => absurd rfl c)
set_option maxHeartbeats 4000000 in
set_option maxRecDepth 100000 in
theorem lawc_33 {X : Cx} {Γ : Gm} {r : Rb} {b L n : Nat} {sc : Nat → Int32} {sx : State} {s : St} {G : Nat → St → Prop} (hX : Amb X Γ cL_law RL 4 (some .boolean) 250) (hsc : Scr X Γ b L sc sx) (hi : 5 * n + 5 ≤ L) (hn : n < 64) (hG : G n s) (hop : Op3 f_X6_drift f_X7_drift G) (kk : ∀ s2, G (n + 1) s2 → Zw X Γ 4 r s2 1557 [(3, .int (nI (5 * n))), (2, .ref (gL Γ (189))), (1, .ref (gL Γ (0))), (0, .ref b)] []) : Zw X Γ 4 r s 1293 [(3, .int (nI (5 * n))), (2, .ref (gL Γ (189))), (1, .ref (gL Γ (0))), (0, .ref b)] [] := by
  obtain ⟨v, s1, s2, e1, e2, hG2⟩ := hop n s (sc (5 * n + 1)) (sc (5 * n + 2)) (sc (5 * n + 3)) hn hG
  refine z_aload_n hX dL_law_1293 2 rfl 1294 rfl ?_
  refine z_aload_n hX dL_law_1294 3 rfl 1295 rfl ?_
  refine z_iload_n hX dL_law_1295 0 rfl 1296 rfl ?_
  refine z_iconst hX (v := (nI 1)) dL_law_1296 rfl 1297 rfl ?_
  refine z_iadd hX dL_law_1297 1298 rfl ?_
  refine z_sld hX hsc (5 * n + 1) (nI_add _ _) (by omega) dL_law_1298 1299 rfl ?_
  refine z_aload_n hX dL_law_1299 3 rfl 1300 rfl ?_
  refine z_iload_n hX dL_law_1300 0 rfl 1301 rfl ?_
  refine z_iconst hX (v := (nI 2)) dL_law_1301 rfl 1302 rfl ?_
  refine z_iadd hX dL_law_1302 1303 rfl ?_
  refine z_sld hX hsc (5 * n + 2) (nI_add _ _) (by omega) dL_law_1303 1304 rfl ?_
  refine z_aload_n hX dL_law_1304 3 rfl 1305 rfl ?_
  refine z_iload_n hX dL_law_1305 0 rfl 1306 rfl ?_
  refine z_iconst hX (v := (nI 3)) dL_law_1306 rfl 1307 rfl ?_
  refine z_iadd hX dL_law_1307 1308 rfl ?_
  refine z_sld hX hsc (5 * n + 3) (nI_add _ _) (by omega) dL_law_1308 1309 rfl ?_
  refine z_cV6i hX (b := 0) (As := [.int (sc (5 * n + 1)), .int (sc (5 * n + 2)), .int (sc (5 * n + 3))]) (c_X6_drift e1) lk_L_151 rfl kdc_0 dl_X6_drift rfl (by decide) (by decide) (Nat.le_of_ble_eq_true rfl) dL_law_1309 rfl 1312 rfl ?_
  refine z_aload_n hX dL_law_1312 1 rfl 1313 rfl ?_
  refine z_aload_n hX dL_law_1313 3 rfl 1314 rfl ?_
  refine z_iload_n hX dL_law_1314 0 rfl 1315 rfl ?_
  refine z_iconst hX (v := (nI 1)) dL_law_1315 rfl 1316 rfl ?_
  refine z_iadd hX dL_law_1316 1317 rfl ?_
  refine z_sld hX hsc (5 * n + 1) (nI_add _ _) (by omega) dL_law_1317 1318 rfl ?_
  refine z_aload_n hX dL_law_1318 3 rfl 1319 rfl ?_
  refine z_iload_n hX dL_law_1319 0 rfl 1320 rfl ?_
  refine z_iconst hX (v := (nI 2)) dL_law_1320 rfl 1321 rfl ?_
  refine z_iadd hX dL_law_1321 1322 rfl ?_
  refine z_sld hX hsc (5 * n + 2) (nI_add _ _) (by omega) dL_law_1322 1323 rfl ?_
  refine z_aload_n hX dL_law_1323 3 rfl 1324 rfl ?_
  refine z_iload_n hX dL_law_1324 0 rfl 1325 rfl ?_
  refine z_iconst hX (v := (nI 3)) dL_law_1325 rfl 1326 rfl ?_
  refine z_iadd hX dL_law_1326 1327 rfl ?_
  refine z_sld hX hsc (5 * n + 3) (nI_add _ _) (by omega) dL_law_1327 1328 rfl ?_
  refine z_cV7i hX (b := 189) (As := [.int (sc (5 * n + 1)), .int (sc (5 * n + 2)), .int (sc (5 * n + 3))]) (c_X7_drift e2) lk_L_154 rfl kdc_189 dl_X7_drift rfl (by decide) (by decide) (Nat.le_of_ble_eq_true rfl) dL_law_1328 rfl 1331 rfl ?_
  exact z_icmp_eq hX 1557 dL_law_1331 (by decide) 1334 rfl (fun _ => kk s2 hG2) (fun c => absurd rfl c)
set_option maxHeartbeats 4000000 in
set_option maxRecDepth 100000 in
theorem lawc_34 {X : Cx} {Γ : Gm} {r : Rb} {b L n : Nat} {sc : Nat → Int32} {sx : State} {s : St} {G : Nat → St → Prop} (hX : Amb X Γ cL_law RL 4 (some .boolean) 250) (hsc : Scr X Γ b L sc sx) (hi : 5 * n + 5 ≤ L) (hn : n < 64) (hG : G n s) (hop : Op1 f_X6_keep f_X7_keep G) (kk : ∀ s2, G (n + 1) s2 → Zw X Γ 4 r s2 1557 [(3, .int (nI (5 * n))), (2, .ref (gL Γ (189))), (1, .ref (gL Γ (0))), (0, .ref b)] []) : Zw X Γ 4 r s 1336 [(3, .int (nI (5 * n))), (2, .ref (gL Γ (189))), (1, .ref (gL Γ (0))), (0, .ref b)] [] := by
  obtain ⟨v, s1, s2, e1, e2, hG2⟩ := hop n s (sc (5 * n + 1)) hn hG
  refine z_aload_n hX dL_law_1336 2 rfl 1337 rfl ?_
  refine z_aload_n hX dL_law_1337 3 rfl 1338 rfl ?_
  refine z_iload_n hX dL_law_1338 0 rfl 1339 rfl ?_
  refine z_iconst hX (v := (nI 1)) dL_law_1339 rfl 1340 rfl ?_
  refine z_iadd hX dL_law_1340 1341 rfl ?_
  refine z_sld hX hsc (5 * n + 1) (nI_add _ _) (by omega) dL_law_1341 1342 rfl ?_
  refine z_cV6i hX (b := 0) (As := [.int (sc (5 * n + 1))]) (c_X6_keep e1) lk_L_155 rfl kdc_0 dl_X6_keep rfl (by decide) (by decide) (Nat.le_of_ble_eq_true rfl) dL_law_1342 rfl 1345 rfl ?_
  refine z_aload_n hX dL_law_1345 1 rfl 1346 rfl ?_
  refine z_aload_n hX dL_law_1346 3 rfl 1347 rfl ?_
  refine z_iload_n hX dL_law_1347 0 rfl 1348 rfl ?_
  refine z_iconst hX (v := (nI 1)) dL_law_1348 rfl 1349 rfl ?_
  refine z_iadd hX dL_law_1349 1350 rfl ?_
  refine z_sld hX hsc (5 * n + 1) (nI_add _ _) (by omega) dL_law_1350 1351 rfl ?_
  refine z_cV7i hX (b := 189) (As := [.int (sc (5 * n + 1))]) (c_X7_keep e2) lk_L_158 rfl kdc_189 dl_X7_keep rfl (by decide) (by decide) (Nat.le_of_ble_eq_true rfl) dL_law_1351 rfl 1354 rfl ?_
  exact z_icmp_eq hX 1557 dL_law_1354 (by decide) 1357 rfl (fun _ => kk s2 hG2) (fun c => absurd rfl c)
set_option maxHeartbeats 4000000 in
set_option maxRecDepth 100000 in
theorem lawc_35 {X : Cx} {Γ : Gm} {r : Rb} {b L n : Nat} {sc : Nat → Int32} {sx : State} {s : St} {G : Nat → St → Prop} (hX : Amb X Γ cL_law RL 4 (some .boolean) 250) (hsc : Scr X Γ b L sc sx) (hi : 5 * n + 5 ≤ L) (hn : n < 64) (hG : G n s) (hop : Op1 f_X6_back f_X7_back G) (kk : ∀ s2, G (n + 1) s2 → Zw X Γ 4 r s2 1557 [(3, .int (nI (5 * n))), (2, .ref (gL Γ (189))), (1, .ref (gL Γ (0))), (0, .ref b)] []) : Zw X Γ 4 r s 1359 [(3, .int (nI (5 * n))), (2, .ref (gL Γ (189))), (1, .ref (gL Γ (0))), (0, .ref b)] [] := by
  obtain ⟨v, s1, s2, e1, e2, hG2⟩ := hop n s (sc (5 * n + 1)) hn hG
  refine z_aload_n hX dL_law_1359 2 rfl 1360 rfl ?_
  refine z_aload_n hX dL_law_1360 3 rfl 1361 rfl ?_
  refine z_iload_n hX dL_law_1361 0 rfl 1362 rfl ?_
  refine z_iconst hX (v := (nI 1)) dL_law_1362 rfl 1363 rfl ?_
  refine z_iadd hX dL_law_1363 1364 rfl ?_
  refine z_sld hX hsc (5 * n + 1) (nI_add _ _) (by omega) dL_law_1364 1365 rfl ?_
  refine z_cV6i hX (b := 0) (As := [.int (sc (5 * n + 1))]) (c_X6_back e1) lk_L_159 rfl kdc_0 dl_X6_back rfl (by decide) (by decide) (Nat.le_of_ble_eq_true rfl) dL_law_1365 rfl 1368 rfl ?_
  refine z_aload_n hX dL_law_1368 1 rfl 1369 rfl ?_
  refine z_aload_n hX dL_law_1369 3 rfl 1370 rfl ?_
  refine z_iload_n hX dL_law_1370 0 rfl 1371 rfl ?_
  refine z_iconst hX (v := (nI 1)) dL_law_1371 rfl 1372 rfl ?_
  refine z_iadd hX dL_law_1372 1373 rfl ?_
  refine z_sld hX hsc (5 * n + 1) (nI_add _ _) (by omega) dL_law_1373 1374 rfl ?_
  refine z_cV7i hX (b := 189) (As := [.int (sc (5 * n + 1))]) (c_X7_back e2) lk_L_162 rfl kdc_189 dl_X7_back rfl (by decide) (by decide) (Nat.le_of_ble_eq_true rfl) dL_law_1374 rfl 1377 rfl ?_
  exact z_icmp_eq hX 1557 dL_law_1377 (by decide) 1380 rfl (fun _ => kk s2 hG2) (fun c => absurd rfl c)
set_option maxHeartbeats 4000000 in
set_option maxRecDepth 100000 in
theorem lawc_36 {X : Cx} {Γ : Gm} {r : Rb} {b L n : Nat} {sc : Nat → Int32} {sx : State} {s : St} {G : Nat → St → Prop} (hX : Amb X Γ cL_law RL 4 (some .boolean) 250) (hsc : Scr X Γ b L sc sx) (hi : 5 * n + 5 ≤ L) (hn : n < 64) (hG : G n s) (hop : Op3 f_X6_sheet f_X7_sheet G) (kk : ∀ s2, G (n + 1) s2 → Zw X Γ 4 r s2 1557 [(3, .int (nI (5 * n))), (2, .ref (gL Γ (189))), (1, .ref (gL Γ (0))), (0, .ref b)] []) : Zw X Γ 4 r s 1382 [(3, .int (nI (5 * n))), (2, .ref (gL Γ (189))), (1, .ref (gL Γ (0))), (0, .ref b)] [] := by
  obtain ⟨v, s1, s2, e1, e2, hG2⟩ := hop n s (sc (5 * n + 1)) (sc (5 * n + 2)) (sc (5 * n + 3)) hn hG
  refine z_aload_n hX dL_law_1382 2 rfl 1383 rfl ?_
  refine z_aload_n hX dL_law_1383 3 rfl 1384 rfl ?_
  refine z_iload_n hX dL_law_1384 0 rfl 1385 rfl ?_
  refine z_iconst hX (v := (nI 1)) dL_law_1385 rfl 1386 rfl ?_
  refine z_iadd hX dL_law_1386 1387 rfl ?_
  refine z_sld hX hsc (5 * n + 1) (nI_add _ _) (by omega) dL_law_1387 1388 rfl ?_
  refine z_aload_n hX dL_law_1388 3 rfl 1389 rfl ?_
  refine z_iload_n hX dL_law_1389 0 rfl 1390 rfl ?_
  refine z_iconst hX (v := (nI 2)) dL_law_1390 rfl 1391 rfl ?_
  refine z_iadd hX dL_law_1391 1392 rfl ?_
  refine z_sld hX hsc (5 * n + 2) (nI_add _ _) (by omega) dL_law_1392 1393 rfl ?_
  refine z_aload_n hX dL_law_1393 3 rfl 1394 rfl ?_
  refine z_iload_n hX dL_law_1394 0 rfl 1395 rfl ?_
  refine z_iconst hX (v := (nI 3)) dL_law_1395 rfl 1396 rfl ?_
  refine z_iadd hX dL_law_1396 1397 rfl ?_
  refine z_sld hX hsc (5 * n + 3) (nI_add _ _) (by omega) dL_law_1397 1398 rfl ?_
  refine z_cV6i hX (b := 0) (As := [.int (sc (5 * n + 1)), .int (sc (5 * n + 2)), .int (sc (5 * n + 3))]) (c_X6_sheet e1) lk_L_163 rfl kdc_0 dl_X6_sheet rfl (by decide) (by decide) (Nat.le_of_ble_eq_true rfl) dL_law_1398 rfl 1401 rfl ?_
  refine z_aload_n hX dL_law_1401 1 rfl 1402 rfl ?_
  refine z_aload_n hX dL_law_1402 3 rfl 1403 rfl ?_
  refine z_iload_n hX dL_law_1403 0 rfl 1404 rfl ?_
  refine z_iconst hX (v := (nI 1)) dL_law_1404 rfl 1405 rfl ?_
  refine z_iadd hX dL_law_1405 1406 rfl ?_
  refine z_sld hX hsc (5 * n + 1) (nI_add _ _) (by omega) dL_law_1406 1407 rfl ?_
  refine z_aload_n hX dL_law_1407 3 rfl 1408 rfl ?_
  refine z_iload_n hX dL_law_1408 0 rfl 1409 rfl ?_
  refine z_iconst hX (v := (nI 2)) dL_law_1409 rfl 1410 rfl ?_
  refine z_iadd hX dL_law_1410 1411 rfl ?_
  refine z_sld hX hsc (5 * n + 2) (nI_add _ _) (by omega) dL_law_1411 1412 rfl ?_
  refine z_aload_n hX dL_law_1412 3 rfl 1413 rfl ?_
  refine z_iload_n hX dL_law_1413 0 rfl 1414 rfl ?_
  refine z_iconst hX (v := (nI 3)) dL_law_1414 rfl 1415 rfl ?_
  refine z_iadd hX dL_law_1415 1416 rfl ?_
  refine z_sld hX hsc (5 * n + 3) (nI_add _ _) (by omega) dL_law_1416 1417 rfl ?_
  refine z_cV7i hX (b := 189) (As := [.int (sc (5 * n + 1)), .int (sc (5 * n + 2)), .int (sc (5 * n + 3))]) (c_X7_sheet e2) lk_L_166 rfl kdc_189 dl_X7_sheet rfl (by decide) (by decide) (Nat.le_of_ble_eq_true rfl) dL_law_1417 rfl 1420 rfl ?_
  exact z_icmp_eq hX 1557 dL_law_1420 (by decide) 1423 rfl (fun _ => kk s2 hG2) (fun c => absurd rfl c)
set_option maxHeartbeats 4000000 in
set_option maxRecDepth 100000 in
theorem lawc_37 {X : Cx} {Γ : Gm} {r : Rb} {b L n : Nat} {sc : Nat → Int32} {sx : State} {s : St} {G : Nat → St → Prop} (hX : Amb X Γ cL_law RL 4 (some .boolean) 250) (hsc : Scr X Γ b L sc sx) (hi : 5 * n + 5 ≤ L) (hn : n < 64) (hG : G n s) (hop : Op3 f_X6_lay f_X7_lay G) (kk : ∀ s2, G (n + 1) s2 → Zw X Γ 4 r s2 1557 [(3, .int (nI (5 * n))), (2, .ref (gL Γ (189))), (1, .ref (gL Γ (0))), (0, .ref b)] []) : Zw X Γ 4 r s 1425 [(3, .int (nI (5 * n))), (2, .ref (gL Γ (189))), (1, .ref (gL Γ (0))), (0, .ref b)] [] := by
  obtain ⟨v, s1, s2, e1, e2, hG2⟩ := hop n s (sc (5 * n + 1)) (sc (5 * n + 2)) (sc (5 * n + 3)) hn hG
  refine z_aload_n hX dL_law_1425 2 rfl 1426 rfl ?_
  refine z_aload_n hX dL_law_1426 3 rfl 1427 rfl ?_
  refine z_iload_n hX dL_law_1427 0 rfl 1428 rfl ?_
  refine z_iconst hX (v := (nI 1)) dL_law_1428 rfl 1429 rfl ?_
  refine z_iadd hX dL_law_1429 1430 rfl ?_
  refine z_sld hX hsc (5 * n + 1) (nI_add _ _) (by omega) dL_law_1430 1431 rfl ?_
  refine z_aload_n hX dL_law_1431 3 rfl 1432 rfl ?_
  refine z_iload_n hX dL_law_1432 0 rfl 1433 rfl ?_
  refine z_iconst hX (v := (nI 2)) dL_law_1433 rfl 1434 rfl ?_
  refine z_iadd hX dL_law_1434 1435 rfl ?_
  refine z_sld hX hsc (5 * n + 2) (nI_add _ _) (by omega) dL_law_1435 1436 rfl ?_
  refine z_aload_n hX dL_law_1436 3 rfl 1437 rfl ?_
  refine z_iload_n hX dL_law_1437 0 rfl 1438 rfl ?_
  refine z_iconst hX (v := (nI 3)) dL_law_1438 rfl 1439 rfl ?_
  refine z_iadd hX dL_law_1439 1440 rfl ?_
  refine z_sld hX hsc (5 * n + 3) (nI_add _ _) (by omega) dL_law_1440 1441 rfl ?_
  refine z_cV6i hX (b := 0) (As := [.int (sc (5 * n + 1)), .int (sc (5 * n + 2)), .int (sc (5 * n + 3))]) (c_X6_lay e1) lk_L_167 rfl kdc_0 dl_X6_lay rfl (by decide) (by decide) (Nat.le_of_ble_eq_true rfl) dL_law_1441 rfl 1444 rfl ?_
  refine z_aload_n hX dL_law_1444 1 rfl 1445 rfl ?_
  refine z_aload_n hX dL_law_1445 3 rfl 1446 rfl ?_
  refine z_iload_n hX dL_law_1446 0 rfl 1447 rfl ?_
  refine z_iconst hX (v := (nI 1)) dL_law_1447 rfl 1448 rfl ?_
  refine z_iadd hX dL_law_1448 1449 rfl ?_
  refine z_sld hX hsc (5 * n + 1) (nI_add _ _) (by omega) dL_law_1449 1450 rfl ?_
  refine z_aload_n hX dL_law_1450 3 rfl 1451 rfl ?_
  refine z_iload_n hX dL_law_1451 0 rfl 1452 rfl ?_
  refine z_iconst hX (v := (nI 2)) dL_law_1452 rfl 1453 rfl ?_
  refine z_iadd hX dL_law_1453 1454 rfl ?_
  refine z_sld hX hsc (5 * n + 2) (nI_add _ _) (by omega) dL_law_1454 1455 rfl ?_
  refine z_aload_n hX dL_law_1455 3 rfl 1456 rfl ?_
  refine z_iload_n hX dL_law_1456 0 rfl 1457 rfl ?_
  refine z_iconst hX (v := (nI 3)) dL_law_1457 rfl 1458 rfl ?_
  refine z_iadd hX dL_law_1458 1459 rfl ?_
  refine z_sld hX hsc (5 * n + 3) (nI_add _ _) (by omega) dL_law_1459 1460 rfl ?_
  refine z_cV7i hX (b := 189) (As := [.int (sc (5 * n + 1)), .int (sc (5 * n + 2)), .int (sc (5 * n + 3))]) (c_X7_lay e2) lk_L_170 rfl kdc_189 dl_X7_lay rfl (by decide) (by decide) (Nat.le_of_ble_eq_true rfl) dL_law_1460 rfl 1463 rfl ?_
  exact z_icmp_eq hX 1557 dL_law_1463 (by decide) 1466 rfl (fun _ => kk s2 hG2) (fun c => absurd rfl c)
set_option maxHeartbeats 4000000 in
set_option maxRecDepth 100000 in
theorem lawc_38 {X : Cx} {Γ : Gm} {r : Rb} {b L n : Nat} {sc : Nat → Int32} {sx : State} {s : St} {G : Nat → St → Prop} (hX : Amb X Γ cL_law RL 4 (some .boolean) 250) (hsc : Scr X Γ b L sc sx) (hi : 5 * n + 5 ≤ L) (hn : n < 64) (hG : G n s) (hop : Op4 f_X6_read f_X7_read G) (kk : ∀ s2, G (n + 1) s2 → Zw X Γ 4 r s2 1557 [(3, .int (nI (5 * n))), (2, .ref (gL Γ (189))), (1, .ref (gL Γ (0))), (0, .ref b)] []) : Zw X Γ 4 r s 1468 [(3, .int (nI (5 * n))), (2, .ref (gL Γ (189))), (1, .ref (gL Γ (0))), (0, .ref b)] [] := by
  obtain ⟨v, s1, s2, e1, e2, hG2⟩ := hop n s (sc (5 * n + 1)) (sc (5 * n + 2)) (sc (5 * n + 3)) (sc (5 * n + 4)) hn hG
  refine z_aload_n hX dL_law_1468 2 rfl 1469 rfl ?_
  refine z_aload_n hX dL_law_1469 3 rfl 1470 rfl ?_
  refine z_iload_n hX dL_law_1470 0 rfl 1471 rfl ?_
  refine z_iconst hX (v := (nI 1)) dL_law_1471 rfl 1472 rfl ?_
  refine z_iadd hX dL_law_1472 1473 rfl ?_
  refine z_sld hX hsc (5 * n + 1) (nI_add _ _) (by omega) dL_law_1473 1474 rfl ?_
  refine z_aload_n hX dL_law_1474 3 rfl 1475 rfl ?_
  refine z_iload_n hX dL_law_1475 0 rfl 1476 rfl ?_
  refine z_iconst hX (v := (nI 2)) dL_law_1476 rfl 1477 rfl ?_
  refine z_iadd hX dL_law_1477 1478 rfl ?_
  refine z_sld hX hsc (5 * n + 2) (nI_add _ _) (by omega) dL_law_1478 1479 rfl ?_
  refine z_aload_n hX dL_law_1479 3 rfl 1480 rfl ?_
  refine z_iload_n hX dL_law_1480 0 rfl 1481 rfl ?_
  refine z_iconst hX (v := (nI 3)) dL_law_1481 rfl 1482 rfl ?_
  refine z_iadd hX dL_law_1482 1483 rfl ?_
  refine z_sld hX hsc (5 * n + 3) (nI_add _ _) (by omega) dL_law_1483 1484 rfl ?_
  refine z_aload_n hX dL_law_1484 3 rfl 1485 rfl ?_
  refine z_iload_n hX dL_law_1485 0 rfl 1486 rfl ?_
  refine z_iconst hX (v := (nI 4)) dL_law_1486 rfl 1487 rfl ?_
  refine z_iadd hX dL_law_1487 1488 rfl ?_
  refine z_sld hX hsc (5 * n + 4) (nI_add _ _) (by omega) dL_law_1488 1489 rfl ?_
  refine z_cV6i hX (b := 0) (As := [.int (sc (5 * n + 1)), .int (sc (5 * n + 2)), .int (sc (5 * n + 3)), .int (sc (5 * n + 4))]) (c_X6_read e1) lk_L_171 rfl kdc_0 dl_X6_read rfl (by decide) (by decide) (Nat.le_of_ble_eq_true rfl) dL_law_1489 rfl 1492 rfl ?_
  refine z_aload_n hX dL_law_1492 1 rfl 1493 rfl ?_
  refine z_aload_n hX dL_law_1493 3 rfl 1494 rfl ?_
  refine z_iload_n hX dL_law_1494 0 rfl 1495 rfl ?_
  refine z_iconst hX (v := (nI 1)) dL_law_1495 rfl 1496 rfl ?_
  refine z_iadd hX dL_law_1496 1497 rfl ?_
  refine z_sld hX hsc (5 * n + 1) (nI_add _ _) (by omega) dL_law_1497 1498 rfl ?_
  refine z_aload_n hX dL_law_1498 3 rfl 1499 rfl ?_
  refine z_iload_n hX dL_law_1499 0 rfl 1500 rfl ?_
  refine z_iconst hX (v := (nI 2)) dL_law_1500 rfl 1501 rfl ?_
  refine z_iadd hX dL_law_1501 1502 rfl ?_
  refine z_sld hX hsc (5 * n + 2) (nI_add _ _) (by omega) dL_law_1502 1503 rfl ?_
  refine z_aload_n hX dL_law_1503 3 rfl 1504 rfl ?_
  refine z_iload_n hX dL_law_1504 0 rfl 1505 rfl ?_
  refine z_iconst hX (v := (nI 3)) dL_law_1505 rfl 1506 rfl ?_
  refine z_iadd hX dL_law_1506 1507 rfl ?_
  refine z_sld hX hsc (5 * n + 3) (nI_add _ _) (by omega) dL_law_1507 1508 rfl ?_
  refine z_aload_n hX dL_law_1508 3 rfl 1509 rfl ?_
  refine z_iload_n hX dL_law_1509 0 rfl 1510 rfl ?_
  refine z_iconst hX (v := (nI 4)) dL_law_1510 rfl 1511 rfl ?_
  refine z_iadd hX dL_law_1511 1512 rfl ?_
  refine z_sld hX hsc (5 * n + 4) (nI_add _ _) (by omega) dL_law_1512 1513 rfl ?_
  refine z_cV7i hX (b := 189) (As := [.int (sc (5 * n + 1)), .int (sc (5 * n + 2)), .int (sc (5 * n + 3)), .int (sc (5 * n + 4))]) (c_X7_read e2) lk_L_174 rfl kdc_189 dl_X7_read rfl (by decide) (by decide) (Nat.le_of_ble_eq_true rfl) dL_law_1513 rfl 1516 rfl ?_
  exact z_icmp_eq hX 1557 dL_law_1516 (by decide) 1519 rfl (fun _ => kk s2 hG2) (fun c => absurd rfl c)
set_option maxHeartbeats 4000000 in
set_option maxRecDepth 100000 in
theorem lawc_39 {X : Cx} {Γ : Gm} {r : Rb} {b L n : Nat} {sc : Nat → Int32} {sx : State} {s : St} {G : Nat → St → Prop} (hX : Amb X Γ cL_law RL 4 (some .boolean) 250) (hsc : Scr X Γ b L sc sx) (hi : 5 * n + 5 ≤ L) (hn : n < 64) (hG : G n s) (hop : Op0 f_X6_torn f_X7_torn G) (kk : ∀ s2, G (n + 1) s2 → Zw X Γ 4 r s2 1557 [(3, .int (nI (5 * n))), (2, .ref (gL Γ (189))), (1, .ref (gL Γ (0))), (0, .ref b)] []) : Zw X Γ 4 r s 1521 [(3, .int (nI (5 * n))), (2, .ref (gL Γ (189))), (1, .ref (gL Γ (0))), (0, .ref b)] [] := by
  obtain ⟨v, s1, s2, e1, e2, hG2⟩ := hop n s hn hG
  refine z_aload_n hX dL_law_1521 2 rfl 1522 rfl ?_
  refine z_cV6i hX (b := 0) (As := []) (c_X6_torn e1) lk_L_175 rfl kdc_0 dl_X6_torn rfl (by decide) (by decide) (Nat.le_of_ble_eq_true rfl) dL_law_1522 rfl 1525 rfl ?_
  refine z_aload_n hX dL_law_1525 1 rfl 1526 rfl ?_
  refine z_cV7i hX (b := 189) (As := []) (c_X7_torn e2) lk_L_178 rfl kdc_189 dl_X7_torn rfl (by decide) (by decide) (Nat.le_of_ble_eq_true rfl) dL_law_1526 rfl 1529 rfl ?_
  exact z_icmp_eq hX 1557 dL_law_1529 (by decide) 1532 rfl (fun _ => kk s2 hG2) (fun c => absurd rfl c)
set_option maxHeartbeats 4000000 in
set_option maxRecDepth 100000 in
theorem lawc_40 {X : Cx} {Γ : Gm} {r : Rb} {b L n : Nat} {sc : Nat → Int32} {sx : State} {s : St} {G : Nat → St → Prop} (hX : Amb X Γ cL_law RL 4 (some .boolean) 250) (hsc : Scr X Γ b L sc sx) (hi : 5 * n + 5 ≤ L) (hn : n < 64) (hG : G n s) (hop : Op1 f_X6_count f_X7_count G) (kk : ∀ s2, G (n + 1) s2 → Zw X Γ 4 r s2 1557 [(3, .int (nI (5 * n))), (2, .ref (gL Γ (189))), (1, .ref (gL Γ (0))), (0, .ref b)] []) : Zw X Γ 4 r s 1534 [(3, .int (nI (5 * n))), (2, .ref (gL Γ (189))), (1, .ref (gL Γ (0))), (0, .ref b)] [] := by
  obtain ⟨v, s1, s2, e1, e2, hG2⟩ := hop n s (sc (5 * n + 1)) hn hG
  refine z_aload_n hX dL_law_1534 2 rfl 1535 rfl ?_
  refine z_aload_n hX dL_law_1535 3 rfl 1536 rfl ?_
  refine z_iload_n hX dL_law_1536 0 rfl 1537 rfl ?_
  refine z_iconst hX (v := (nI 1)) dL_law_1537 rfl 1538 rfl ?_
  refine z_iadd hX dL_law_1538 1539 rfl ?_
  refine z_sld hX hsc (5 * n + 1) (nI_add _ _) (by omega) dL_law_1539 1540 rfl ?_
  refine z_cV6i hX (b := 0) (As := [.int (sc (5 * n + 1))]) (c_X6_count e1) lk_L_179 rfl kdc_0 dl_X6_count rfl (by decide) (by decide) (Nat.le_of_ble_eq_true rfl) dL_law_1540 rfl 1543 rfl ?_
  refine z_aload_n hX dL_law_1543 1 rfl 1544 rfl ?_
  refine z_aload_n hX dL_law_1544 3 rfl 1545 rfl ?_
  refine z_iload_n hX dL_law_1545 0 rfl 1546 rfl ?_
  refine z_iconst hX (v := (nI 1)) dL_law_1546 rfl 1547 rfl ?_
  refine z_iadd hX dL_law_1547 1548 rfl ?_
  refine z_sld hX hsc (5 * n + 1) (nI_add _ _) (by omega) dL_law_1548 1549 rfl ?_
  refine z_cV7i hX (b := 189) (As := [.int (sc (5 * n + 1))]) (c_X7_count e2) lk_L_182 rfl kdc_189 dl_X7_count rfl (by decide) (by decide) (Nat.le_of_ble_eq_true rfl) dL_law_1549 rfl 1552 rfl ?_
  exact z_icmp_eq hX 1557 dL_law_1552 (by decide) 1555 rfl (fun _ => kk s2 hG2) (fun c => absurd rfl c)
def Ops (G : Nat → St → Prop) : Prop := Op1 f_X6_feed f_X7_feed G ∧ Op1 f_X6_end f_X7_end G ∧ Op0 f_X6_text f_X7_text G ∧ Op0 f_X6_fault f_X7_fault G ∧ Op1 f_X6_rule f_X7_rule G ∧ Op2 f_X6_life f_X7_life G ∧ Op2 f_X6_sitter f_X7_sitter G ∧ Op2 f_X6_has f_X7_has G ∧ Op2 f_X6_in f_X7_in G ∧ Op1 f_X6_air f_X7_air G ∧ Op3 f_X6_alter f_X7_alter G ∧ Op3 f_X6_seat f_X7_seat G ∧ Op2 f_X6_blow f_X7_blow G ∧ Op2 f_X6_price f_X7_price G ∧ Op0 f_X6_open f_X7_open G ∧ Op1 f_X6_steps f_X7_steps G ∧ Op2 f_X6_runs f_X7_runs G ∧ Op3 f_X6_ahead f_X7_ahead G ∧ Op2 f_X6_wet f_X7_wet G ∧ Op0 f_X6_over f_X7_over G ∧ Op3 f_X6_best f_X7_best G ∧ Op3 f_X6_cheap f_X7_cheap G ∧ Op3 f_X6_clean f_X7_clean G ∧ Op3 f_X6_need f_X7_need G ∧ Op2 f_X6_swap f_X7_swap G ∧ Op3 f_X6_fan f_X7_fan G ∧ Op4L f_X6_luck f_X7_luck G ∧ Op4L f_X6_mean f_X7_mean G ∧ Op4 f_X6_see f_X7_see G ∧ Op1 f_X6_forget f_X7_forget G ∧ Op1 f_X6_kinds f_X7_kinds G ∧ Op2 f_X6_froms f_X7_froms G ∧ Op2 f_X6_ask f_X7_ask G ∧ Op3 f_X6_drift f_X7_drift G ∧ Op1 f_X6_keep f_X7_keep G ∧ Op1 f_X6_back f_X7_back G ∧ Op3 f_X6_sheet f_X7_sheet G ∧ Op3 f_X6_lay f_X7_lay G ∧ Op4 f_X6_read f_X7_read G ∧ Op0 f_X6_torn f_X7_torn G ∧ Op1 f_X6_count f_X7_count G
set_option maxHeartbeats 8000000 in
set_option maxRecDepth 100000 in
theorem law_loop {X : Cx} {Γ : Gm} {r : Rb} {b L : Nat} {sc : Nat → Int32} {sx : State} {G : Nat → St → Prop} (hX : Amb X Γ cL_law RL 4 (some .boolean) 250) (hsc : Scr X Γ b L sc sx) (hops : Ops G) (hmono : ∀ n s, G n s → G (n + 1) s) (f : Nat) : ∀ (n : Nat) (s : St), L + 5 < 5 * n + f → 5 * n ≤ L + 5 → G n s → (∀ (lv : List (Nat × Value)) (s : St), Zw X Γ 4 r s 1563 lv []) → Zw X Γ 4 r s 18 [(3, .int (nI (5 * n))), (2, .ref (gL Γ (189))), (1, .ref (gL Γ (0))), (0, .ref b)] [] := by
  induction f with
  | zero => intro n s hf; omega
  | succ f ih =>
    intro n s hf hn5 hG hE
    have hL := hsc.2.2.2.1
    refine z_iload_n hX dL_law_18 0 rfl 19 rfl ?_
    refine z_aload_n hX dL_law_19 3 rfl 20 rfl ?_
    refine z_slen hX hsc dL_law_20 21 rfl ?_
    refine z_iconst hX (v := (nI 5)) dL_law_21 rfl 22 rfl ?_
    refine z_isub hX dL_law_22 23 rfl ?_
    refine z_icmp_gt hX 1563 dL_law_23 (by decide) 26 rfl (fun c => ?_) (fun c => ?_)
    · exact hE _ s
    have h5 : 5 * n + 5 ≤ L := by
      by_cases h6 : 5 ≤ L
      · rw [pk_sub h6, nI_ltI (by omega) (by omega)] at c; omega
      · exfalso; apply c
        have h7 := pk_sneg (a := L) (b := 5) (by decide) (by omega)
        have h8 := nI_pos' (n := 5 * n) (by omega)
        exact Int32.lt_of_lt_of_le h7 h8
    have hn : n < 64 := by omega
    refine z_aload_n hX dL_law_26 3 rfl 27 rfl ?_
    refine z_iload_n hX dL_law_27 0 rfl 28 rfl ?_
    refine z_sld hX hsc (5 * n) rfl (by omega) dL_law_28 29 rfl ?_
    refine z_bipush hX (v := (nI 63)) dL_law_29 (by decide) 31 rfl ?_
    refine z_iand hX dL_law_31 32 rfl ?_
    have kk : ∀ s2, G (n + 1) s2 → Zw X Γ 4 r s2 1557 [(3, .int (nI (5 * n))), (2, .ref (gL Γ (189))), (1, .ref (gL Γ (0))), (0, .ref b)] [] := by
      intro s2 hG2
      refine z_iinc hX (v := nI (5 * (n + 1))) (lv2 := [(3, .int (nI (5 * (n + 1)))), (2, .ref (gL Γ (189))), (1, .ref (gL Γ (0))), (0, .ref b)]) dL_law_1557 0 rfl (by rw [show 5 * (n + 1) = 5 * n + 5 by omega, ← nI_add]; rfl) (by decide) rfl 1560 rfl ?_
      refine z_goto hX 18 dL_law_1560 (by decide) ?_
      exact ih (n + 1) s2 (by omega) (by omega) hG2 hE
    have kd0 : G (n + 1) s := hmono n s hG
    by_cases c0 : (sc (5 * n)) &&& (nI 63) = (nI 0)
    · refine z_tcase hX (off := 180) 212 dL_law_32 (nI 0) c0 (by decide) (by decide) ?_
      exact lawc_0 hX hsc h5 hn hG (hops.1) kk
    by_cases c1 : (sc (5 * n)) &&& (nI 63) = (nI 1)
    · refine z_tcase hX (off := 203) 235 dL_law_32 (nI 1) c1 (by decide) (by decide) ?_
      exact lawc_1 hX hsc h5 hn hG (hops.2.1) kk
    by_cases c2 : (sc (5 * n)) &&& (nI 63) = (nI 2)
    · refine z_tcase hX (off := 226) 258 dL_law_32 (nI 2) c2 (by decide) (by decide) ?_
      exact lawc_2 hX hsc h5 hn hG (hops.2.2.1) kk
    by_cases c3 : (sc (5 * n)) &&& (nI 63) = (nI 3)
    · refine z_tcase hX (off := 239) 271 dL_law_32 (nI 3) c3 (by decide) (by decide) ?_
      exact lawc_3 hX hsc h5 hn hG (hops.2.2.2.1) kk
    by_cases c4 : (sc (5 * n)) &&& (nI 63) = (nI 4)
    · refine z_tcase hX (off := 252) 284 dL_law_32 (nI 4) c4 (by decide) (by decide) ?_
      exact lawc_4 hX hsc h5 hn hG (hops.2.2.2.2.1) kk
    by_cases c5 : (sc (5 * n)) &&& (nI 63) = (nI 5)
    · refine z_tcase hX (off := 275) 307 dL_law_32 (nI 5) c5 (by decide) (by decide) ?_
      exact lawc_5 hX hsc h5 hn hG (hops.2.2.2.2.2.1) kk
    by_cases c6 : (sc (5 * n)) &&& (nI 63) = (nI 6)
    · refine z_tcase hX (off := 308) 340 dL_law_32 (nI 6) c6 (by decide) (by decide) ?_
      exact lawc_6 hX hsc h5 hn hG (hops.2.2.2.2.2.2.1) kk
    by_cases c7 : (sc (5 * n)) &&& (nI 63) = (nI 7)
    · refine z_tcase hX (off := 341) 373 dL_law_32 (nI 7) c7 (by decide) (by decide) ?_
      exact lawc_7 hX hsc h5 hn hG (hops.2.2.2.2.2.2.2.1) kk
    by_cases c8 : (sc (5 * n)) &&& (nI 63) = (nI 8)
    · refine z_tcase hX (off := 374) 406 dL_law_32 (nI 8) c8 (by decide) (by decide) ?_
      exact lawc_8 hX hsc h5 hn hG (hops.2.2.2.2.2.2.2.2.1) kk
    by_cases c9 : (sc (5 * n)) &&& (nI 63) = (nI 9)
    · refine z_tcase hX (off := 407) 439 dL_law_32 (nI 9) c9 (by decide) (by decide) ?_
      exact lawc_9 hX hsc h5 hn hG (hops.2.2.2.2.2.2.2.2.2.1) kk
    by_cases c10 : (sc (5 * n)) &&& (nI 63) = (nI 10)
    · refine z_tcase hX (off := 430) 462 dL_law_32 (nI 10) c10 (by decide) (by decide) ?_
      exact lawc_10 hX hsc h5 hn hG (hops.2.2.2.2.2.2.2.2.2.2.1) kk
    by_cases c11 : (sc (5 * n)) &&& (nI 63) = (nI 11)
    · refine z_tcase hX (off := 473) 505 dL_law_32 (nI 11) c11 (by decide) (by decide) ?_
      exact lawc_11 hX hsc h5 hn hG (hops.2.2.2.2.2.2.2.2.2.2.2.1) kk
    by_cases c12 : (sc (5 * n)) &&& (nI 63) = (nI 12)
    · refine z_tcase hX (off := 516) 548 dL_law_32 (nI 12) c12 (by decide) (by decide) ?_
      exact lawc_12 hX hsc h5 hn hG (hops.2.2.2.2.2.2.2.2.2.2.2.2.1) kk
    by_cases c13 : (sc (5 * n)) &&& (nI 63) = (nI 13)
    · refine z_tcase hX (off := 549) 581 dL_law_32 (nI 13) c13 (by decide) (by decide) ?_
      exact lawc_13 hX hsc h5 hn hG (hops.2.2.2.2.2.2.2.2.2.2.2.2.2.1) kk
    by_cases c14 : (sc (5 * n)) &&& (nI 63) = (nI 14)
    · refine z_tcase hX (off := 582) 614 dL_law_32 (nI 14) c14 (by decide) (by decide) ?_
      exact lawc_14 hX hsc h5 hn hG (hops.2.2.2.2.2.2.2.2.2.2.2.2.2.2.1) kk
    by_cases c15 : (sc (5 * n)) &&& (nI 63) = (nI 15)
    · refine z_tcase hX (off := 595) 627 dL_law_32 (nI 15) c15 (by decide) (by decide) ?_
      exact lawc_15 hX hsc h5 hn hG (hops.2.2.2.2.2.2.2.2.2.2.2.2.2.2.2.1) kk
    by_cases c16 : (sc (5 * n)) &&& (nI 63) = (nI 16)
    · refine z_tcase hX (off := 618) 650 dL_law_32 (nI 16) c16 (by decide) (by decide) ?_
      exact lawc_16 hX hsc h5 hn hG (hops.2.2.2.2.2.2.2.2.2.2.2.2.2.2.2.2.1) kk
    by_cases c17 : (sc (5 * n)) &&& (nI 63) = (nI 17)
    · refine z_tcase hX (off := 651) 683 dL_law_32 (nI 17) c17 (by decide) (by decide) ?_
      exact lawc_17 hX hsc h5 hn hG (hops.2.2.2.2.2.2.2.2.2.2.2.2.2.2.2.2.2.1) kk
    by_cases c18 : (sc (5 * n)) &&& (nI 63) = (nI 18)
    · refine z_tcase hX (off := 694) 726 dL_law_32 (nI 18) c18 (by decide) (by decide) ?_
      exact lawc_18 hX hsc h5 hn hG (hops.2.2.2.2.2.2.2.2.2.2.2.2.2.2.2.2.2.2.1) kk
    by_cases c19 : (sc (5 * n)) &&& (nI 63) = (nI 19)
    · refine z_tcase hX (off := 727) 759 dL_law_32 (nI 19) c19 (by decide) (by decide) ?_
      exact lawc_19 hX hsc h5 hn hG (hops.2.2.2.2.2.2.2.2.2.2.2.2.2.2.2.2.2.2.2.1) kk
    by_cases c20 : (sc (5 * n)) &&& (nI 63) = (nI 20)
    · refine z_tcase hX (off := 740) 772 dL_law_32 (nI 20) c20 (by decide) (by decide) ?_
      exact lawc_20 hX hsc h5 hn hG (hops.2.2.2.2.2.2.2.2.2.2.2.2.2.2.2.2.2.2.2.2.1) kk
    by_cases c21 : (sc (5 * n)) &&& (nI 63) = (nI 21)
    · refine z_tcase hX (off := 783) 815 dL_law_32 (nI 21) c21 (by decide) (by decide) ?_
      exact lawc_21 hX hsc h5 hn hG (hops.2.2.2.2.2.2.2.2.2.2.2.2.2.2.2.2.2.2.2.2.2.1) kk
    by_cases c22 : (sc (5 * n)) &&& (nI 63) = (nI 22)
    · refine z_tcase hX (off := 826) 858 dL_law_32 (nI 22) c22 (by decide) (by decide) ?_
      exact lawc_22 hX hsc h5 hn hG (hops.2.2.2.2.2.2.2.2.2.2.2.2.2.2.2.2.2.2.2.2.2.2.1) kk
    by_cases c23 : (sc (5 * n)) &&& (nI 63) = (nI 23)
    · refine z_tcase hX (off := 869) 901 dL_law_32 (nI 23) c23 (by decide) (by decide) ?_
      exact lawc_23 hX hsc h5 hn hG (hops.2.2.2.2.2.2.2.2.2.2.2.2.2.2.2.2.2.2.2.2.2.2.2.1) kk
    by_cases c24 : (sc (5 * n)) &&& (nI 63) = (nI 24)
    · refine z_tcase hX (off := 912) 944 dL_law_32 (nI 24) c24 (by decide) (by decide) ?_
      exact lawc_24 hX hsc h5 hn hG (hops.2.2.2.2.2.2.2.2.2.2.2.2.2.2.2.2.2.2.2.2.2.2.2.2.1) kk
    by_cases c25 : (sc (5 * n)) &&& (nI 63) = (nI 25)
    · refine z_tcase hX (off := 945) 977 dL_law_32 (nI 25) c25 (by decide) (by decide) ?_
      exact lawc_25 hX hsc h5 hn hG (hops.2.2.2.2.2.2.2.2.2.2.2.2.2.2.2.2.2.2.2.2.2.2.2.2.2.1) kk
    by_cases c26 : (sc (5 * n)) &&& (nI 63) = (nI 26)
    · refine z_tcase hX (off := 988) 1020 dL_law_32 (nI 26) c26 (by decide) (by decide) ?_
      exact lawc_26 hX hsc h5 hn hG (hops.2.2.2.2.2.2.2.2.2.2.2.2.2.2.2.2.2.2.2.2.2.2.2.2.2.2.1) kk
    by_cases c27 : (sc (5 * n)) &&& (nI 63) = (nI 27)
    · refine z_tcase hX (off := 1042) 1074 dL_law_32 (nI 27) c27 (by decide) (by decide) ?_
      exact lawc_27 hX hsc h5 hn hG (hops.2.2.2.2.2.2.2.2.2.2.2.2.2.2.2.2.2.2.2.2.2.2.2.2.2.2.2.1) kk
    by_cases c28 : (sc (5 * n)) &&& (nI 63) = (nI 28)
    · refine z_tcase hX (off := 1096) 1128 dL_law_32 (nI 28) c28 (by decide) (by decide) ?_
      exact lawc_28 hX hsc h5 hn hG (hops.2.2.2.2.2.2.2.2.2.2.2.2.2.2.2.2.2.2.2.2.2.2.2.2.2.2.2.2.1) kk
    by_cases c29 : (sc (5 * n)) &&& (nI 63) = (nI 29)
    · refine z_tcase hX (off := 1149) 1181 dL_law_32 (nI 29) c29 (by decide) (by decide) ?_
      exact lawc_29 hX hsc h5 hn hG (hops.2.2.2.2.2.2.2.2.2.2.2.2.2.2.2.2.2.2.2.2.2.2.2.2.2.2.2.2.2.1) kk
    by_cases c30 : (sc (5 * n)) &&& (nI 63) = (nI 30)
    · refine z_tcase hX (off := 1172) 1204 dL_law_32 (nI 30) c30 (by decide) (by decide) ?_
      exact lawc_30 hX hsc h5 hn hG (hops.2.2.2.2.2.2.2.2.2.2.2.2.2.2.2.2.2.2.2.2.2.2.2.2.2.2.2.2.2.2.1) kk
    by_cases c31 : (sc (5 * n)) &&& (nI 63) = (nI 31)
    · refine z_tcase hX (off := 1195) 1227 dL_law_32 (nI 31) c31 (by decide) (by decide) ?_
      exact lawc_31 hX hsc h5 hn hG (hops.2.2.2.2.2.2.2.2.2.2.2.2.2.2.2.2.2.2.2.2.2.2.2.2.2.2.2.2.2.2.2.1) kk
    by_cases c32 : (sc (5 * n)) &&& (nI 63) = (nI 32)
    · refine z_tcase hX (off := 1228) 1260 dL_law_32 (nI 32) c32 (by decide) (by decide) ?_
      exact lawc_32 hX hsc h5 hn hG (hops.2.2.2.2.2.2.2.2.2.2.2.2.2.2.2.2.2.2.2.2.2.2.2.2.2.2.2.2.2.2.2.2.1) kk
    by_cases c33 : (sc (5 * n)) &&& (nI 63) = (nI 33)
    · refine z_tcase hX (off := 1261) 1293 dL_law_32 (nI 33) c33 (by decide) (by decide) ?_
      exact lawc_33 hX hsc h5 hn hG (hops.2.2.2.2.2.2.2.2.2.2.2.2.2.2.2.2.2.2.2.2.2.2.2.2.2.2.2.2.2.2.2.2.2.1) kk
    by_cases c34 : (sc (5 * n)) &&& (nI 63) = (nI 34)
    · refine z_tcase hX (off := 1304) 1336 dL_law_32 (nI 34) c34 (by decide) (by decide) ?_
      exact lawc_34 hX hsc h5 hn hG (hops.2.2.2.2.2.2.2.2.2.2.2.2.2.2.2.2.2.2.2.2.2.2.2.2.2.2.2.2.2.2.2.2.2.2.1) kk
    by_cases c35 : (sc (5 * n)) &&& (nI 63) = (nI 35)
    · refine z_tcase hX (off := 1327) 1359 dL_law_32 (nI 35) c35 (by decide) (by decide) ?_
      exact lawc_35 hX hsc h5 hn hG (hops.2.2.2.2.2.2.2.2.2.2.2.2.2.2.2.2.2.2.2.2.2.2.2.2.2.2.2.2.2.2.2.2.2.2.2.1) kk
    by_cases c36 : (sc (5 * n)) &&& (nI 63) = (nI 36)
    · refine z_tcase hX (off := 1350) 1382 dL_law_32 (nI 36) c36 (by decide) (by decide) ?_
      exact lawc_36 hX hsc h5 hn hG (hops.2.2.2.2.2.2.2.2.2.2.2.2.2.2.2.2.2.2.2.2.2.2.2.2.2.2.2.2.2.2.2.2.2.2.2.2.1) kk
    by_cases c37 : (sc (5 * n)) &&& (nI 63) = (nI 37)
    · refine z_tcase hX (off := 1393) 1425 dL_law_32 (nI 37) c37 (by decide) (by decide) ?_
      exact lawc_37 hX hsc h5 hn hG (hops.2.2.2.2.2.2.2.2.2.2.2.2.2.2.2.2.2.2.2.2.2.2.2.2.2.2.2.2.2.2.2.2.2.2.2.2.2.1) kk
    by_cases c38 : (sc (5 * n)) &&& (nI 63) = (nI 38)
    · refine z_tcase hX (off := 1436) 1468 dL_law_32 (nI 38) c38 (by decide) (by decide) ?_
      exact lawc_38 hX hsc h5 hn hG (hops.2.2.2.2.2.2.2.2.2.2.2.2.2.2.2.2.2.2.2.2.2.2.2.2.2.2.2.2.2.2.2.2.2.2.2.2.2.2.1) kk
    by_cases c39 : (sc (5 * n)) &&& (nI 63) = (nI 39)
    · refine z_tcase hX (off := 1489) 1521 dL_law_32 (nI 39) c39 (by decide) (by decide) ?_
      exact lawc_39 hX hsc h5 hn hG (hops.2.2.2.2.2.2.2.2.2.2.2.2.2.2.2.2.2.2.2.2.2.2.2.2.2.2.2.2.2.2.2.2.2.2.2.2.2.2.2.1) kk
    by_cases c40 : (sc (5 * n)) &&& (nI 63) = (nI 40)
    · refine z_tcase hX (off := 1502) 1534 dL_law_32 (nI 40) c40 (by decide) (by decide) ?_
      exact lawc_40 hX hsc h5 hn hG (hops.2.2.2.2.2.2.2.2.2.2.2.2.2.2.2.2.2.2.2.2.2.2.2.2.2.2.2.2.2.2.2.2.2.2.2.2.2.2.2.2) kk
    have hout : ((sc (5 * n)) &&& (nI 63)).toInt < 0 ∨ 40 < ((sc (5 * n)) &&& (nI 63)).toInt := by
      right
      obtain ⟨j, hj, hjE⟩ := pk_andE (sc (5 * n)) (m := nI 63) 6 (by decide)
      rw [hjE, nI_toInt (by omega)]
      rw [hjE] at c0 c1 c2 c3 c4 c5 c6 c7 c8 c9 c10 c11 c12 c13 c14 c15 c16 c17 c18 c19 c20 c21 c22 c23 c24 c25 c26 c27 c28 c29 c30 c31 c32 c33 c34 c35 c36 c37 c38 c39 c40
      have hne : ∀ k, k < 41 → j ≠ k := by
        intro k hk e
        subst e
        match j, hk with
        | 0, _ => exact c0 rfl
        | 1, _ => exact c1 rfl
        | 2, _ => exact c2 rfl
        | 3, _ => exact c3 rfl
        | 4, _ => exact c4 rfl
        | 5, _ => exact c5 rfl
        | 6, _ => exact c6 rfl
        | 7, _ => exact c7 rfl
        | 8, _ => exact c8 rfl
        | 9, _ => exact c9 rfl
        | 10, _ => exact c10 rfl
        | 11, _ => exact c11 rfl
        | 12, _ => exact c12 rfl
        | 13, _ => exact c13 rfl
        | 14, _ => exact c14 rfl
        | 15, _ => exact c15 rfl
        | 16, _ => exact c16 rfl
        | 17, _ => exact c17 rfl
        | 18, _ => exact c18 rfl
        | 19, _ => exact c19 rfl
        | 20, _ => exact c20 rfl
        | 21, _ => exact c21 rfl
        | 22, _ => exact c22 rfl
        | 23, _ => exact c23 rfl
        | 24, _ => exact c24 rfl
        | 25, _ => exact c25 rfl
        | 26, _ => exact c26 rfl
        | 27, _ => exact c27 rfl
        | 28, _ => exact c28 rfl
        | 29, _ => exact c29 rfl
        | 30, _ => exact c30 rfl
        | 31, _ => exact c31 rfl
        | 32, _ => exact c32 rfl
        | 33, _ => exact c33 rfl
        | 34, _ => exact c34 rfl
        | 35, _ => exact c35 rfl
        | 36, _ => exact c36 rfl
        | 37, _ => exact c37 rfl
        | 38, _ => exact c38 rfl
        | 39, _ => exact c39 rfl
        | 40, _ => exact c40 rfl
        | q + 41, hq => exact absurd hq (by omega)
      have := hne j
      omega
    refine z_tdef hX 1557 dL_law_32 hout (by decide) ?_
    exact kk s kd0

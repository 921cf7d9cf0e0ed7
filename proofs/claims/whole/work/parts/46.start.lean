def R_law : String := "SmokeSeatsLaw"
def lw_P (b : Addr) (xs : List Int32) (args : Array Value) (s : State) : Prop := args = #[.ref b] ∧ s.IntsAt b xs ∧ xs.length ≤ 320 ∧ (Jvm.Cond.and given_1 narrow_1).before args s = true
def lw_Q (_ : Array Value) (s : State) (o : Outcome) (t : State) : Prop := o = .returned (some (.int 1)) ∧ Framed s o t [] 600000 7302250
def lw_Z (below : List Frame) (a : Array Value) (s : State) : State → Prop := fun t => ∃ o, t.status = .running ∧ Ended t below o ∧ lw_Q a s o t
/-- the law's own end, with 1 on the stack, nothing written that was there before, its room as the claim has it -/
theorem lw_ret {p : Program} {l : Launch} {e : Env} {s : State} {m : MethodId} {below : List Frame} {meth : Method} {c : Code} {b : Nat} (hx : p.tables.exec = Jvm.exec) (hb : c.code = code) (hr : meth.sig.returnType = ret) (hlocks : meth.locks = false) {pc : Nat} {H : Heap} {ls : Array Slot} (hdg : decode code pc = .ok (.ireturn, 1)) : W p l e room_1 s m #[Value.ref b] below meth c H [] 600000 7302250 (lw_Z below #[Value.ref b] s) (F0 m pc ls [.int 1]) := by
  intro T hT X
  obtain ⟨fs, hret, hrun, hended, hW, hframe⟩ := X.leave (v := some (.int 1)) (hlocks := hlocks) (fun h => by rw [hr] at h; cases h)
  have hmeth' : T.vm.method? m = some meth := X.method'
  refine ⟨T.setFrames fs, ?_, .returned (some (.int 1)), hrun, hended, rfl, ⟨_, rfl⟩, hW, hframe⟩
  jvm_step X.here [X.here.top, hx, hb, hdg, hmeth', hr, ret, narrow_b1]
  (try refine ⟨rfl, ?_⟩); (try refine ⟨rfl, ?_⟩)
  first | (intro acts; rw [hret _ acts rfl rfl rfl]) | rw [hret _ _ rfl rfl rfl]
  exact Steps.refl _
/-- what holds at the law's entry: the machine, the code, the tables' words (any of lw_tbl by 'hts w (by decide +kernel)'), the script of L ints xs at the cell b, what the Statement gives of the start (any of its parts by flat_of_before) -/
def lw_At (p : Program) (s : State) (m : MethodId) (meth : Method) (c : Code) (b L : Nat) (xs : Nat → Int32) : Prop :=
  p.tables.exec = Jvm.exec ∧ c.code = code ∧ meth.sig.returnType = ret ∧ c.maxLocals = 4 ∧ s.vm.findClass R_law = some m.cls ∧ (∀ w ∈ lw_tbl, w.before #[Value.ref b] s = true) ∧ va_X b L xs s s.heap ∧ b < s.heap.size ∧ meth.locks = false ∧ (Jvm.Cond.and given_1 narrow_1).before #[Value.ref b] s = true

def tmS (i : Nat) : Term := Term.string "SmokeSeats$Tape" (txS.getD i (0, "")).1
theorem sm_ex : ∀ i, i < 7 → Cond.exactly (tmS i) "java/lang/String" ∈ flatC (Jvm.Cond.and given_1 narrow_1) := by decide +kernel
theorem sm_co : ∀ i, i < 7 → Cond.eq (.field (tmS i) "java/lang/String" "coder" "B") (.int 0) ∈ flatC (Jvm.Cond.and given_1 narrow_1) := by decide +kernel
theorem sm_ar : ∀ i, i < 7 → Cond.arrayOf (.field (tmS i) "java/lang/String" "value" "[B") .byte ∈ flatC (Jvm.Cond.and given_1 narrow_1) := by decide +kernel
theorem sm_le : ∀ i, i < 7 → Cond.eq (.length (.field (tmS i) "java/lang/String" "value" "[B")) (.int (Int32.ofNat (lenS.getD i 0))) ∈ flatC (Jvm.Cond.and given_1 narrow_1) := by decide +kernel
theorem sm_el : ∀ i, i < 7 → ∀ j, j < lenS.getD i 0 → Cond.eq (.elem (.field (tmS i) "java/lang/String" "value" "[B") (.int (Int32.ofNat j))) (.int ((bytS.getD i []).getD j 0)) ∈ flatC (Jvm.Cond.and given_1 narrow_1) := by decide +kernel
theorem sm_ne : ∀ i, i < 7 → ∀ j, j < 7 → i ≠ j → Cond.not (Cond.eq (tmS i) (tmS j)) ∈ flatC (Jvm.Cond.and given_1 narrow_1) ∨ Cond.not (Cond.eq (tmS j) (tmS i)) ∈ flatC (Jvm.Cond.and given_1 narrow_1) := by decide +kernel
theorem sm_z : Cond.eq (.static "java/lang/String" "COMPACT_STRINGS" "Z") (.int 1) ∈ flatC (Jvm.Cond.and given_1 narrow_1) := by decide +kernel
theorem sm_q : Cond.isRef (.static "jdk/internal/util/Preconditions" "SIOOBE_FORMATTER" "Ljava/util/function/BiFunction;") ∈ flatC (Jvm.Cond.and given_1 narrow_1) := by decide +kernel
theorem sm_r : ∀ i, i < 7 → Cond.stringRef "SmokeSeats$Tape" (txS.getD i (0, "")).1 (txS.getD i (0, "")).2 ∈ tables_1 := by decide +kernel
theorem tb_ao : Cond.arrayOver (.object "SmokeSeats$Image") ∈ tables_1 ∧ Cond.arrayOver (.object "SmokeSeats$Room") ∈ tables_1 ∧ Cond.arrayOver (.object "SmokeSeats$Sheet") ∈ tables_1 := by decide +kernel
theorem tb_ac : Cond.arrayClass .byte ∈ tables_1 ∧ Cond.arrayClass .int ∈ tables_1 ∧ Cond.arrayClass .boolean ∈ tables_1 := by decide +kernel
theorem tb_ls : Cond.laysStatic "java/lang/String" "COMPACT_STRINGS" "Z" ∈ tables_1 ∧ Cond.initialized "java/lang/String" ∈ tables_1 ∧ Cond.laysStatic "jdk/internal/util/Preconditions" "SIOOBE_FORMATTER" "Ljava/util/function/BiFunction;" ∈ tables_1 ∧ Cond.initialized "jdk/internal/util/Preconditions" ∈ tables_1 := by decide +kernel
theorem ac_spec {args : Array Value} {s : State} {ty : FieldType} (h : (Cond.arrayClass ty).before args s = true) (hp : refKind ty = false) : ∃ c : ClassId, ArrOfT s c ty ∧ va_RA s c ty := by
  obtain ⟨c, k, comp, h1, h2, h3⟩ := Cond.arrayClass_spec (args := args) (first := s) (o := none) (s := s) (idx := []) h
  refine ⟨c, fun n z => ⟨fun k h => (by cases h), k, h2, comp, h3⟩, ?_⟩
  cases ty <;> first | exact h1 | (simp [refKind] at hp)
theorem ao_spec {args : Array Value} {s : State} {C : String} (h : (Cond.arrayOver (.object C)).before args s = true) : ∃ c : ClassId, ArrOfT s c (.object C) ∧ va_RA s c (.object C) := by
  obtain ⟨comp, c, k, h1, h2, h3, h4, h5⟩ := Cond.arrayOver_spec (args := args) (first := s) (o := none) (s := s) (idx := []) h
  exact ⟨c, fun n z => ⟨fun k h => (by cases h), k, h3, comp, h4⟩, k, comp, h3, h4, h1, h5⟩
theorem li_L_9 : LkI RL 9 yX6_init cX6_init 2 := ⟨Or.inr (gt_mem (tm1 (List.mem_of_getElem? (i := 18) rfl)) rfl), gt_mem (tm1 (List.mem_of_getElem? (i := 19) rfl)) rfl, gt_mem (tm1 (List.mem_of_getElem? (i := 1) rfl)) rfl, gt_mem (tm1 (List.mem_of_getElem? (i := 20) rfl)) rfl⟩
theorem di_L6 : Ds yX6_init 0 := ⟨by decide +kernel, by decide +kernel, by decide +kernel⟩
theorem li_L_12 : LkI RL 12 yX7_init cX7_init 2 := ⟨Or.inr (gt_mem (tm4 (List.mem_of_getElem? (i := 66) rfl)) rfl), gt_mem (tm4 (List.mem_of_getElem? (i := 67) rfl)) rfl, gt_mem (tm1 (List.mem_of_getElem? (i := 8) rfl)) rfl, gt_mem (tm4 (List.mem_of_getElem? (i := 68) rfl)) rfl⟩
theorem di_L7 : Ds yX7_init 0 := ⟨by decide +kernel, by decide +kernel, by decide +kernel⟩
theorem cl_L_7 : Cond.classLink RL 7 RX6 ∈ gt := gt_mem (tm1 (List.mem_of_getElem? (i := 16) rfl)) rfl
theorem cl_L_10 : Cond.classLink RL 10 RX7 ∈ gt := gt_mem (tm4 (List.mem_of_getElem? (i := 64) rfl)) rfl
theorem is_6 : Cond.instantiable RX6 9 ∈ gt := gt_mem (tm1 (List.mem_of_getElem? (i := 17) rfl)) rfl
theorem ii_6 : Cond.initialized RX6 ∈ gt := gt_mem (tm1 (List.mem_of_getElem? (i := 1) rfl)) rfl
theorem is_7 : Cond.instantiable RX7 28 ∈ gt := gt_mem (tm4 (List.mem_of_getElem? (i := 65) rfl)) rfl
theorem ii_7 : Cond.initialized RX7 ∈ gt := gt_mem (tm1 (List.mem_of_getElem? (i := 8) rfl)) rfl
/-- the names of the world, at the law's entry -/
theorem ag_start {args : Array Value} {s : State} (ht : ∀ w ∈ tables_1, w.before args s = true) (hg : ∀ w ∈ gt, w.before args s = true) (hv : (Jvm.Cond.and given_1 narrow_1).before args s = true) : ∃ Γ : Gm, GB Γ s.heap.size ∧ (∀ q, gA Γ q ↔ s.heap.size ≤ q) ∧ Ac Γ s := by
  have hs := flat_of_before _ hv
  obtain ⟨c0, i0, k0⟩ := u_known (C := RX0) (T := TX0) (N := 3) (n := 3) hg in0 (hg _ is_0)
  obtain ⟨c1, i1, k1⟩ := u_known (C := RX1) (T := TX1) (N := 7) (n := 7) hg in1 (hg _ is_1)
  obtain ⟨c2, i2, k2⟩ := u_known (C := RX2) (T := TX2) (N := 15) (n := 15) hg in2 (hg _ is_2)
  obtain ⟨c3, i3, k3⟩ := u_known (C := RX3) (T := TX3) (N := 5) (n := 5) hg in3 (hg _ is_3)
  obtain ⟨c4, i4, k4⟩ := u_known (C := RX4) (T := TX4) (N := 3) (n := 3) hg in4 (hg _ is_4)
  obtain ⟨c5, i5, k5⟩ := u_known (C := RX5) (T := TX5) (N := 8) (n := 8) hg in5 (hg _ is_5)
  obtain ⟨c6, i6, k6⟩ := u_known (C := RX6) (T := TX6) (N := 9) (n := 9) hg in6 (hg _ is_6)
  obtain ⟨c7, i7, k7⟩ := u_known (C := RX7) (T := TX7) (N := 28) (n := 28) hg in7 (hg _ is_7)
  obtain ⟨d8, a8, r8⟩ := ac_spec (ht _ tb_ac.1) rfl
  obtain ⟨d9, a9, r9⟩ := ac_spec (ht _ tb_ac.2.1) rfl
  obtain ⟨d10, a10, r10⟩ := ac_spec (ht _ tb_ac.2.2) rfl
  obtain ⟨d11, a11, r11⟩ := ao_spec (ht _ tb_ao.1)
  obtain ⟨d12, a12, r12⟩ := ao_spec (ht _ tb_ao.2.1)
  obtain ⟨d13, a13, r13⟩ := ao_spec (ht _ tb_ao.2.2)
  have hA : ∀ a : Nat, a < s.heap.size → ¬ (fun q : Nat => s.heap.size ≤ q) a := fun a h => Nat.not_le.mpr h
  obtain ⟨adK, adV, hS, hK⟩ := vk_Sof (tm := tmS) (N := 7) (len := lenS) (byt := bytS) (A := fun q : Nat => s.heap.size ≤ q) (by decide) (fun i hi => hs _ (sm_ex i hi)) (fun i hi => hs _ (sm_co i hi)) (fun i hi => hs _ (sm_ar i hi)) (fun i hi => hs _ (sm_le i hi)) (fun i hi j hj => hs _ (sm_el i hi j hj)) (fun i j hi hj hij => (sm_ne i hi j hj hij).imp (hs _) (hs _)) hA
  refine ⟨((fun k => if k = 0 then c0 else if k = 1 then c1 else if k = 2 then c2 else if k = 3 then c3 else if k = 4 then c4 else if k = 5 then c5 else if k = 6 then c6 else c7, fun k => if k = 0 then i0 else if k = 1 then i1 else if k = 2 then i2 else if k = 3 then i3 else if k = 4 then i4 else if k = 5 then i5 else if k = 6 then i6 else i7), fun k => s.heap.size + k, fun q => s.heap.size ≤ q, fun k => if k = 8 then d8 else if k = 9 then d9 else if k = 10 then d10 else if k = 11 then d11 else if k = 12 then d12 else d13, adK, adV), ⟨fun _ => rfl, fun _ h => h⟩, fun _ => Iff.rfl, ⟨⟨?_, ?_⟩, ?_, ?_, hS, va_Zof (ht _ tb_ls.1) (ht _ tb_ls.2.1) (va_eqi (hs _ sm_z)) hA, va_Zqof (ht _ tb_ls.2.2.1) (ht _ tb_ls.2.2.2) (hs _ sm_q) hA⟩, ht _ tb_ao.1, ht _ tb_ao.2.1, ht _ tb_ao.2.2⟩
  · intro c q hq
    match c, hq with
    | 0, hq => cases hq; exact k0
    | 1, hq => cases hq; exact k1
    | 2, hq => cases hq; exact k2
    | 3, hq => cases hq; exact k3
    | 4, hq => cases hq; exact k4
    | 5, hq => cases hq; exact k5
    | 6, hq => cases hq; exact k6
    | 7, hq => cases hq; exact k7
    | c + 8, hq => simp [cls] at hq
  · intro c q hq
    match c, hq with
    | 0, hq => cases hq; exact ⟨a8, r8⟩
    | 1, hq => cases hq; exact ⟨a9, r9⟩
    | 2, hq => cases hq; exact ⟨a10, r10⟩
    | 3, hq => cases hq; exact ⟨a11, r11⟩
    | 4, hq => cases hq; exact ⟨a12, r12⟩
    | 5, hq => cases hq; exact ⟨a13, r13⟩
    | c + 6, hq => simp [tys] at hq
  · intro w hw
    obtain ⟨h1, h2⟩ := List.mem_filter.mp hw
    exact va_Nw.of (nest_tables h2) (ht w h1)
  · intro i q hq
    have hi : i < 7 := by
      have := (List.getElem?_eq_some_iff.mp hq).1
      simpa [txS] using this
    have e : txS.getD i (0, "") = q := by rw [List.getD_eq_getElem?_getD, hq]; rfl
    have h1 := ht _ (sm_r i hi)
    have h2 := hK i hi
    unfold tmS at h2
    rw [e] at h1 h2
    exact vk_R.of h1 h2
def Aml (X : Cx) (Γ : Gm) (B : Nat) (cc : ByteArray) (own : String) (nL d mc ms : Nat) : Prop :=
  (xp X).tables.exec = Jvm.exec ∧ (xc X).code = cc ∧ (xc X).maxLocals = nL ∧ (xs X).vm.findClass own = some (xm X).cls ∧ (∀ w ∈ gt, w.before (xa X) (xs X) = true) ∧ Ac Γ (xs X) ∧ True ∧ (xM X).locks = false ∧ (d ≤ (xR X).frames ∧ 100 * d ≤ (xR X).locals ∧ mc ≤ (xR X).cells ∧ ms ≤ (xR X).slots) ∧ GB Γ B ∧ True ∧ B ≤ (xs X).heap.size
theorem m_new6 {X : Cx} {Γ : Gm} {B : Nat} {cc : ByteArray} {own : String} {nL d mc ms : Nat} {r : Rb} {w : Wd} {pc : Nat} {lv : List (Nat × Value)} {st : List Value} (hX : Aml X Γ B cc own nL d mc ms) {idx : Nat} (hd : decode cc pc = .ok (.new idx, 3)) (h1 : Cond.classLink own idx RX6 ∈ gt) (h2 : Cond.instantiable RX6 9 ∈ gt) (h3 : Cond.initialized RX6 ∈ gt) (hkd : kd w.1 = 6) (hz : w.2.1 w.1 = 0 ∧ w.2.2.1 w.1 = (fun _ => 0) ∧ w.2.2.2 w.1 = (fun _ => 0)) (hc : r.2.1 + 1 ≤ mc ∧ r.2.2 + 9 ≤ ms) (pc2 : Nat) (hp : pc + 3 = pc2) (w2 : Wd) (hw : (w.1 + 1, w.2) = w2) (r2 : Rb) (hr : (r.1, r.2.1 + 1, r.2.2 + 9) = r2) (k : Zc X Γ B nL r2 w2 pc2 lv (.ref (gL Γ w.1) :: st)) : Zc X Γ B nL r w pc lv (st) := by
  subst hp; subst hw; subst hr
  intro H locs ls hP hS hl
  have hKn := hX.2.2.2.2.2.1.1.1.1 6 _ (show cls[6]? = some (RX6, TX6, 9) from rfl)
  have hh : H.size = gL Γ w.1 := by rw [hX.2.2.2.2.2.2.2.2.2.1.1, hP.2.2]
  refine W.newcK hX.1 hX.2.1 hX.2.2.2.1 (hX.2.2.2.2.1 _ h1) (hX.2.2.2.2.1 _ h2) (hX.2.2.2.2.1 _ h3) rfl hd (Nat.le_trans hc.1 hX.2.2.2.2.2.2.2.2.1.2.2.1) (Nat.le_trans hc.2 hX.2.2.2.2.2.2.2.2.1.2.2.2) hKn.2.1 hh fun H1 kC hkC e1 z1 o1 => ?_
  rw [← hh] at z1 o1
  refine k H1 locs ls (hk_push hX.2.2.2.2.2.2.2.2.2.1 hP z1 o1 ?_) (vS_push hS z1 o1) hl
  rw [hkd, hz.1, hz.2.1, hz.2.2]
  exact ⟨_, rfl, (u_born tyX6 hX.2.2.2.2.1 in6 hKn hkC e1 tyX6_ok).to df_6⟩
theorem m_new7 {X : Cx} {Γ : Gm} {B : Nat} {cc : ByteArray} {own : String} {nL d mc ms : Nat} {r : Rb} {w : Wd} {pc : Nat} {lv : List (Nat × Value)} {st : List Value} (hX : Aml X Γ B cc own nL d mc ms) {idx : Nat} (hd : decode cc pc = .ok (.new idx, 3)) (h1 : Cond.classLink own idx RX7 ∈ gt) (h2 : Cond.instantiable RX7 28 ∈ gt) (h3 : Cond.initialized RX7 ∈ gt) (hkd : kd w.1 = 7) (hz : w.2.1 w.1 = 0 ∧ w.2.2.1 w.1 = (fun _ => 0) ∧ w.2.2.2 w.1 = (fun _ => 0)) (hc : r.2.1 + 1 ≤ mc ∧ r.2.2 + 28 ≤ ms) (pc2 : Nat) (hp : pc + 3 = pc2) (w2 : Wd) (hw : (w.1 + 1, w.2) = w2) (r2 : Rb) (hr : (r.1, r.2.1 + 1, r.2.2 + 28) = r2) (k : Zc X Γ B nL r2 w2 pc2 lv (.ref (gL Γ w.1) :: st)) : Zc X Γ B nL r w pc lv (st) := by
  subst hp; subst hw; subst hr
  intro H locs ls hP hS hl
  have hKn := hX.2.2.2.2.2.1.1.1.1 7 _ (show cls[7]? = some (RX7, TX7, 28) from rfl)
  have hh : H.size = gL Γ w.1 := by rw [hX.2.2.2.2.2.2.2.2.2.1.1, hP.2.2]
  refine W.newcK hX.1 hX.2.1 hX.2.2.2.1 (hX.2.2.2.2.1 _ h1) (hX.2.2.2.2.1 _ h2) (hX.2.2.2.2.1 _ h3) rfl hd (Nat.le_trans hc.1 hX.2.2.2.2.2.2.2.2.1.2.2.1) (Nat.le_trans hc.2 hX.2.2.2.2.2.2.2.2.1.2.2.2) hKn.2.1 hh fun H1 kC hkC e1 z1 o1 => ?_
  rw [← hh] at z1 o1
  refine k H1 locs ls (hk_push hX.2.2.2.2.2.2.2.2.2.1 hP z1 o1 ?_) (vS_push hS z1 o1) hl
  rw [hkd, hz.1, hz.2.1, hz.2.2]
  exact ⟨_, rfl, (u_born tyX7 hX.2.2.2.2.1 in7 hKn hkC e1 tyX7_ok).to df_7⟩
theorem m_dup {X : Cx} {Γ : Gm} {B : Nat} {cc : ByteArray} {own : String} {nL d mc ms : Nat} {r : Rb} {w : Wd} {pc : Nat} {lv : List (Nat × Value)} {st : List Value} (hX : Aml X Γ B cc own nL d mc ms) {v : Value} (hd : decode cc pc = .ok (.dup, 1)) (hv : v.category = 1) (pc2 : Nat) (hp : pc + 1 = pc2) (k : Zc X Γ B nL r w pc2 lv (v :: v :: st)) : Zc X Γ B nL r w pc lv (v :: st) := by
  subst hp
  exact fun H locs ls hP hS hl => lv_dup hX.1 hX.2.1 hd hv (k H locs ls hP hS hl)
theorem m_call {X : Cx} {Γ : Gm} {B : Nat} {cc : ByteArray} {own : String} {nL d mc ms : Nat} {r : Rb} {w : Wd} {pc : Nat} {lv : List (Nat × Value)} {st : List Value} (hX : Aml X Γ B cc own nL d mc ms) {y : MethodName} {cc2 : ByteArray} {nL2 d2 idx mc2 ms2 b : Nat} {w2 : Wd} (hM : Ck (xl X) Γ B y cc2 nL2 d2 mc2 ms2 [.ref (gL Γ b)] w w2) (hlk : LkI own idx y cc2 nL2) (hyn : y.name = "<init>") (hy : Ds y 0) (hR : d2 + 1 ≤ d) (hL : nL2 ≤ 81) (hc : r.2.1 + mc2 ≤ mc ∧ r.2.2 + ms2 ≤ ms) (hst : (st.map fun v => v.category).sum ≤ 8) (hd : decode cc pc = .ok (.invokespecial idx, 3)) (pc2 : Nat) (hp : pc + 3 = pc2) (r2 : Rb) (hr : (r.1, r.2.1 + mc2, r.2.2 + ms2) = r2) (kk : Zc X Γ B nL r2 w2 pc2 lv (st)) : Zc X Γ B nL r w pc lv (.ref (gL Γ b) :: st) := by
  subst hp; subst hr
  obtain ⟨k1, k2, k4, k5⟩ := hlk
  obtain ⟨hx, hb', hml, hown, hts, hA, -, -, hRR, hG, -, -⟩ := hX
  intro H locs ls hP hS hl
  have hroom : (rmk d2 mc2 ms2).frames + 1 ≤ (xR X).frames ∧ 8 + (nL2 + 11) + (rmk d2 mc2 ms2).locals ≤ (xR X).locals := by unfold rmk; dsimp only; omega
  have hpre : PreS (xs X) H (va_Pc [.ref (gL Γ b)] (fun U => hk Γ B w U.heap ∧ Ac Γ U)) [.ref (gL Γ b)] := ⟨Pk_blind, fun U hU hW => ⟨rfl, by rw [hU]; exact hP, hA.to hW (by rw [hU]; exact hS.2.1)⟩⟩
  have hf : r.2.1 + mc2 ≤ (xR X).cells ∧ r.2.2 + ms2 ≤ (xR X).slots := ⟨Nat.le_trans hc.1 hRR.2.2.1, Nat.le_trans hc.2 hRR.2.2.2⟩
  rcases k1 with k1 | k1
  · exact k_run hl hS (va_runIN (As := []) (rest := st) ⟨hx, hb', hml, hown, hts⟩ hM ⟨va_cnB 0 hts (gt_goodIn k5) rfl rfl rfl (hA.1.2.1 _ k1) (hts _ k4) hy hroom, hyn, hts _ k2⟩ hpre rfl rfl hl.1 rfl (lv_room hst) hd hf) kk
  · exact k_run hl hS (va_runI (As := []) (rest := st) ⟨hx, hb', hml, hown, hts⟩ hM ⟨callB_of 0 hts (gt_goodIn k5) rfl rfl rfl (hts _ k4) (hts _ k1) hy hroom, hyn, hts _ k2⟩ hpre rfl rfl hl.1 rfl (lv_room hst) hd hf) kk

theorem m_astore_n {X : Cx} {Γ : Gm} {B : Nat} {cc : ByteArray} {own : String} {nL d mc ms : Nat} {r : Rb} {w : Wd} {pc : Nat} {lv : List (Nat × Value)} {st : List Value} (hX : Aml X Γ B cc own nL d mc ms) {n : Fin 4} {x : Nat} {lv2 : List (Nat × Value)} (hd : decode cc pc = .ok (.astore_n n, 1)) (hn : (n : Nat) < nL) (hl2 : ((n : Nat), Value.ref x) :: lv.filter (fun q => !(q.1 == (n : Nat)) && !(q.1 + 1 == (n : Nat) && q.2.category == 2)) = lv2) (pc2 : Nat) (hp : pc + 1 = pc2) (k : Zc X Γ B nL r w pc2 lv2 st) : Zc X Γ B nL r w pc lv (.ref x :: st) := by
  subst hp
  exact fun H locs ls hP hS hl => lv_astore_n hX.1 hX.2.1 hd rfl hl hn hl2 (fun ls2 h2 => k H locs ls2 hP hS h2)
theorem m_runM {X : Cx} {Γ : Gm} {nL mc2 ms2 : Nat} {r : Rb} {s2 : St} {pc : Nat} {lv : List (Nat × Value)} {st st0 : List Value} {a : Array Value} {H : Heap} {locs : List Loc} {ls : Array Slot} (hl : lv_has ls nL lv) (hS : va_S (gA Γ) (xs X).heap H locs) (hc : r.2.1 + mc2 ≤ (xR X).cells ∧ r.2.2 + ms2 ≤ (xR X).slots)
    (hr : va_Run (xp X) (xl X) (xe X) (xR X) (xs X) (xm X) (xa X) (xb X) (xM X) (xc X) H locs r.2.1 r.2.2 mc2 ms2 (F0 (xm X) pc ls st0) st (Po Γ (none, s2) a) (gA Γ)) (kk : Zw X Γ nL (r.1, r.2.1 + mc2, r.2.2 + ms2) s2 (pc + 3) lv st) :
    W (xp X) (xl X) (xe X) (xR X) (xs X) (xm X) (xa X) (xb X) (xM X) (xc X) H locs r.2.1 r.2.2 r.1 (F0 (xm X) pc ls st0) := by
  intro T hT XX
  obtain ⟨v', st₀, t, T', L, h0, X', hL, e1, e2, ⟨⟨hv, hP⟩, hz, hq⟩, stp⟩ := hr T hT XX
  cases hv
  rw [h0] at hz hq
  obtain ⟨t2, a1, b1⟩ := kk T'.heap (locs ++ L) ls (by rw [e1]; exact hP)
    ⟨Nat.le_trans hS.1 (by rw [e1]; exact hz), fun q h1 h2 => by rw [e1, hq q (Nat.lt_of_lt_of_le h1 hS.1) h2]; exact hS.2.1 q h1 h2, fun q hq => by
      rcases List.mem_append.mp hq with h | h
      · exact hS.2.2 q h
      · exact hL q h⟩ hl hc T' rfl X'
  exact ⟨t2, stp t2 a1, b1⟩
theorem m_callM {X : Cx} {Γ : Gm} {B : Nat} {cc : ByteArray} {own : String} {nL d mc ms : Nat} {r : Rb} {w : Wd} {pc : Nat} {lv : List (Nat × Value)} {st : List Value} (hX : Aml X Γ B cc own nL d mc ms) {idx mc2 ms2 : Nat} {s2 : St} (hM : CkM (xl X) Γ B mc2 ms2 w s2) (hlk : LkI own idx yX7_init cX7_init 2) (hy : Ds yX7_init 0) (hR : 10 ≤ d) (hc : r.2.1 + mc2 ≤ mc ∧ r.2.2 + ms2 ≤ ms) (hst : (st.map fun v => v.category).sum ≤ 8) (hd : decode cc pc = .ok (.invokespecial idx, 3)) (pc2 : Nat) (hp : pc + 3 = pc2) (r2 : Rb) (hr : (r.1, r.2.1 + mc2, r.2.2 + ms2) = r2) (kk : Zw X Γ nL r2 s2 pc2 lv st) : Zc X Γ B nL r w pc lv (.ref (gL Γ 189) :: st) := by
  subst hp; subst hr
  obtain ⟨k1, k2, k4, k5⟩ := hlk
  obtain ⟨hx, hb', hml, hown, hts, hA, -, -, hRR, hG, -, -⟩ := hX
  intro H locs ls hP hS hl
  have hroom : (rmk 9 mc2 ms2).frames + 1 ≤ (xR X).frames ∧ 8 + (2 + 11) + (rmk 9 mc2 ms2).locals ≤ (xR X).locals := by unfold rmk; dsimp only; omega
  have hpre : PreS (xs X) H (va_Pc [.ref (gL Γ 189)] (fun U => hk Γ B w U.heap ∧ Ac Γ U)) [.ref (gL Γ 189)] := ⟨Pk_blind, fun U hU hW => ⟨rfl, by rw [hU]; exact hP, hA.to hW (by rw [hU]; exact hS.2.1)⟩⟩
  have hf : r.2.1 + mc2 ≤ (xR X).cells ∧ r.2.2 + ms2 ≤ (xR X).slots := ⟨Nat.le_trans hc.1 hRR.2.2.1, Nat.le_trans hc.2 hRR.2.2.2⟩
  rcases k1 with k1 | k1
  · exact m_runM hl hS hf (va_runIN (As := []) (rest := st) ⟨hx, hb', hml, hown, hts⟩ hM ⟨va_cnB 0 hts (gt_goodIn k5) rfl rfl rfl (hA.1.2.1 _ k1) (hts _ k4) hy hroom, rfl, hts _ k2⟩ hpre rfl rfl hl.1 rfl (lv_room hst) hd hf) kk
  · exact m_runM hl hS hf (va_runI (As := []) (rest := st) ⟨hx, hb', hml, hown, hts⟩ hM ⟨callB_of 0 hts (gt_goodIn k5) rfl rfl rfl (hts _ k4) (hts _ k1) hy hroom, rfl, hts _ k2⟩ hpre rfl rfl hl.1 rfl (lv_room hst) hd hf) kk
def s00 : St := (fun _ _ => 0, fun _ _ => 0)
def nX : Nat → Nat := (nu (nu (nu (nu (nu (nu (nu (nu (nu (nu (nu (nu (nu (nu (nu (nu (nu (nu (nu (nu (nu (nu (nu (nu (nu (nu (nu (nu (nu (nu (nu (nu (nu (nu (nu (nu (nu (nu (nu (nu (nu (nu (nu (nu (fun _ => 0) 1 12) 0 1) 14 12) 0 2) 27 4) 0 4) 33 1) 0 6) 36 1) 38 12) 37 1) 51 12) 37 2) 64 12) 37 3) 77 12) 37 4) 90 12) 37 5) 103 12) 37 6) 116 12) 37 7) 129 12) 37 8) 0 8) 144 12) 143 1) 157 4) 143 2) 32 1) 163 12) 162 1) 176 4) 162 2) 32 2) 181 1) 35 1) 183 1) 35 2) 185 1) 35 3) 187 1) 35 4)
def sX : St := (wI (wI (wI (wI (wJ s00 36 6 (lN 1)) 181 0 (-1)) 183 0 (-1)) 185 0 (-1)) 187 0 (-1))
theorem nX_ok : ∀ k, k < 189 → nX k = nfl k := by decide +kernel
theorem nX_far : ∀ k, 189 ≤ k → nX k = 0 := by
  intro k h
  unfold nX
  simp (disch := omega) only [nu_o]
theorem sX_far : ∀ k, 189 ≤ k → sX.1 k = (fun _ => 0) ∧ sX.2 k = (fun _ => 0) := by
  intro k h
  unfold sX
  simp (disch := omega) only [wI_1o, wI_2a, wJ_1a, wJ_2o]
  exact ⟨rfl, rfl⟩
/-- the world as the law's loop finds it -/
def sM0 : St := (wI (wI (wI (wI sX 197 0 (-4)) 197 1 (-4)) 197 2 (-4)) 197 3 (-4))
set_option maxHeartbeats 4000000 in
set_option maxRecDepth 100000 in
theorem whole_go {p : Program} {e : Env} {s : State} {m : MethodId} {below : List Frame} {meth : Method} {c : Code} (l : Launch) {b L : Nat} {sc : Nat → Int32} (hL : L ≤ 320) (C0 : lw_At p s m meth c b L sc) {G : Nat → St → Prop} (hops : Ops G) (hmono : ∀ n s, G n s → G (n + 1) s) {s2 s3 : St} {v1 v2 : Unit} (h1 : f_X7_firstDraft sM0 = some (v1, s2)) (h2 : f_X7_keepDraft s2 = some (v2, s3)) (hG0 : G 0 s3) : W p l e room_1 s m #[Value.ref b] below meth c s.heap [] 0 0 (lw_Z below #[Value.ref b] s) (entryFrame m ([Value.ref b] : List Value).toArray 4) := by
  obtain ⟨hx, hb, hr, hml, hown, hts, hV, hbl, hlocks, hgv⟩ := id C0
  have ht : ∀ w ∈ tables_1, w.before #[Value.ref b] s = true := fun w hw => hts w (List.mem_append_right _ hw)
  have hg : ∀ w ∈ gt, w.before #[Value.ref b] s = true := fun w hw => hts w (List.mem_filter.mp hw).1
  obtain ⟨Γ, hGB, hAq, hAc⟩ := ag_start ht hg hgv
  have hl := lv_entry ([.ref b]) (n := 4) (Nat.le_of_ble_eq_true rfl)
  rw [lg_entry_eq]
  have hXm : Aml (p, l, e, room_1, s, m, #[Value.ref b], below, meth, c) Γ s.heap.size cL_law RL 4 250 201 3263 := ⟨hx, hb, hml, hown, hg, hAc, trivial, hlocks, ⟨by show 250 ≤ 2048; decide, by show 100 * 250 ≤ 84000; decide, by show 201 ≤ 600000; decide, by show 3263 ≤ 7302250; decide⟩, hGB, trivial, Nat.le_refl _⟩
  have hX : Amb (p, l, e, room_1, s, m, #[Value.ref b], below, meth, c) Γ cL_law RL 4 (some .boolean) 250 := ⟨hx, hb, hml, hown, hg, hAc.1, hr, hlocks, by show 250 ≤ 2048; decide, by show 100 * 250 ≤ 84000; decide⟩
  have hsc : Scr (p, l, e, room_1, s, m, #[Value.ref b], below, meth, c) Γ b L sc s := ⟨hV, hbl, fun h => absurd ((hAq b).mp h) (Nat.not_le.mpr hbl), hL, rfl⟩
  have key : Zc (p, l, e, room_1, s, m, #[Value.ref b], below, meth, c) Γ s.heap.size 4 (lw_Z below #[Value.ref b] s, 0, 0) (0, fun _ => 0, s00) 0 [(0, .ref b)] [] := by
    refine m_new6 hXm dL_law_0 cl_L_7 is_6 ii_6 (show kd 0 = 6 by decide +kernel) ⟨rfl, rfl, rfl⟩ ⟨Nat.le_of_ble_eq_true rfl, Nat.le_of_ble_eq_true rfl⟩ 3 rfl (1, fun _ => 0, s00) rfl (lw_Z below #[Value.ref b] s, 1, 9) rfl ?_
    refine m_dup hXm dL_law_3 rfl 4 rfl ?_
    refine m_call hXm (b := 0) (w2 := (189, nX, sX)) (c_X6_init (N := fun _ => 0) (s := s00) hGB (fun _ _ => ⟨rfl, rfl, rfl⟩)) li_L_9 rfl di_L6 (by decide) (by decide) ⟨Nat.le_of_ble_eq_true rfl, Nat.le_of_ble_eq_true rfl⟩ (Nat.le_of_ble_eq_true rfl) dL_law_4 7 rfl (lw_Z below #[Value.ref b] s, 189, 2019) rfl ?_
    refine m_astore_n hXm (lv2 := [(1, .ref (gL Γ 0)), (0, .ref b)]) dL_law_7 (by decide) rfl 8 rfl ?_
    refine m_new7 hXm dL_law_8 cl_L_10 is_7 ii_7 (show kd 189 = 7 by decide +kernel) ⟨nX_far 189 (by omega), (sX_far 189 (by omega)).1, (sX_far 189 (by omega)).2⟩ ⟨Nat.le_of_ble_eq_true rfl, Nat.le_of_ble_eq_true rfl⟩ 11 rfl (190, nX, sX) rfl (lw_Z below #[Value.ref b] s, 190, 2047) rfl ?_
    refine m_dup hXm dL_law_11 rfl 12 rfl ?_
    refine m_callM hXm (c_X7_init hGB (fun k hk => ⟨nX_far k hk, sX_far k hk⟩) nX_ok h1 h2) li_L_12 di_L7 (by decide) ⟨Nat.le_of_ble_eq_true rfl, Nat.le_of_ble_eq_true rfl⟩ (Nat.le_of_ble_eq_true rfl) dL_law_12 15 rfl (lw_Z below #[Value.ref b] s, 201, 3263) rfl ?_
    refine z_astore_n hX (lv2 := [(2, .ref (gL Γ 189)), (1, .ref (gL Γ 0)), (0, .ref b)]) dL_law_15 (by decide) rfl 16 rfl ?_
    refine z_iconst hX (v := (nI 0)) dL_law_16 rfl 17 rfl ?_
    refine z_istore_n hX (lv2 := [(3, .int (nI 0)), (2, .ref (gL Γ 189)), (1, .ref (gL Γ 0)), (0, .ref b)]) dL_law_17 (by decide) rfl 18 rfl ?_
    refine law_loop hX hsc hops hmono (L + 6) 0 s3 (by omega) (by omega) hG0 (fun lv s4 => ?_)
    refine z_iconst hX (v := 1) dL_law_1563 rfl 1564 rfl ?_
    intro H locs ls hP hS hl hc
    refine va_forget (fun q hq => (hAq _).mp (hS.2.2 q hq)) ?_
    refine W.widen (k := 600000) (n := 7302250) (Nat.le_of_ble_eq_true rfl) (Nat.le_of_ble_eq_true rfl) ?_
    exact lw_ret hx hb hr hlocks dL_law_1564
  refine key s.heap [] _ ⟨fun k q h => by simp [wk] at h, ⟨fun i j p q h => by simp [wk] at h, fun k q h => by simp [wk] at h⟩, by simp⟩ va_S.rf ?_
  exact hl

theorem ob_X7 : Cond.methodLink RX7 1 Lib.objectInit ∈ gt := gt_mem (tm4 (List.mem_of_getElem? (i := 69) rfl)) rfl
theorem fc_X7_7 : Cond.fieldLink RX7 7 (TX7 0).1 (TX7 0).2.1 (TX7 0).2.2.1 ∈ gt := gt_mem (tm4 (List.mem_of_getElem? (i := 78) rfl)) rfl
theorem fc_X7_13 : Cond.fieldLink RX7 13 (TX7 1).1 (TX7 1).2.1 (TX7 1).2.2.1 ∈ gt := gt_mem (tm4 (List.mem_of_getElem? (i := 79) rfl)) rfl
theorem ac_10 : Cond.arrayClass .boolean ∈ gt := gt_mem (tm4 (List.mem_of_getElem? (i := 163) rfl)) rfl
theorem fc_X7_16 : Cond.fieldLink RX7 16 (TX7 2).1 (TX7 2).2.1 (TX7 2).2.2.1 ∈ gt := gt_mem (tm4 (List.mem_of_getElem? (i := 80) rfl)) rfl
theorem fc_X7_20 : Cond.fieldLink RX7 20 (TX7 5).1 (TX7 5).2.1 (TX7 5).2.2.1 ∈ gt := gt_mem (tm4 (List.mem_of_getElem? (i := 83) rfl)) rfl
theorem fc_X7_23 : Cond.fieldLink RX7 23 (TX7 10).1 (TX7 10).2.1 (TX7 10).2.2.1 ∈ gt := gt_mem (tm4 (List.mem_of_getElem? (i := 88) rfl)) rfl
theorem fc_X7_26 : Cond.fieldLink RX7 26 (TX7 18).1 (TX7 18).2.1 (TX7 18).2.2.1 ∈ gt := gt_mem (tm4 (List.mem_of_getElem? (i := 96) rfl)) rfl
theorem fc_X7_29 : Cond.fieldLink RX7 29 (TX7 22).1 (TX7 22).2.1 (TX7 22).2.2.1 ∈ gt := gt_mem (tm4 (List.mem_of_getElem? (i := 100) rfl)) rfl
theorem fc_X7_32 : Cond.fieldLink RX7 32 (TX7 23).1 (TX7 23).2.1 (TX7 23).2.2.1 ∈ gt := gt_mem (tm4 (List.mem_of_getElem? (i := 101) rfl)) rfl
theorem fc_X7_35 : Cond.fieldLink RX7 35 (TX7 24).1 (TX7 24).2.1 (TX7 24).2.2.1 ∈ gt := gt_mem (tm4 (List.mem_of_getElem? (i := 102) rfl)) rfl
theorem fc_X7_38 : Cond.fieldLink RX7 38 (TX7 25).1 (TX7 25).2.1 (TX7 25).2.2.1 ∈ gt := gt_mem (tm4 (List.mem_of_getElem? (i := 103) rfl)) rfl
theorem fc_X7_41 : Cond.fieldLink RX7 41 (TX7 27).1 (TX7 27).2.1 (TX7 27).2.2.1 ∈ gt := gt_mem (tm4 (List.mem_of_getElem? (i := 105) rfl)) rfl
theorem dX7_init_0 : decode cX7_init 0 = .ok (.aload_n 0, 1) := by decide +kernel
theorem dX7_init_1 : decode cX7_init 1 = .ok (.invokespecial 1, 3) := by decide +kernel
theorem dX7_init_4 : decode cX7_init 4 = .ok (.aload_n 0, 1) := by decide +kernel
theorem dX7_init_5 : decode cX7_init 5 = .ok (.sipush 393, 3) := by decide +kernel
theorem dX7_init_8 : decode cX7_init 8 = .ok (.newarray .int, 2) := by decide +kernel
theorem dX7_init_10 : decode cX7_init 10 = .ok (.putfield 7, 3) := by decide +kernel
theorem dX7_init_13 : decode cX7_init 13 = .ok (.aload_n 0, 1) := by decide +kernel
theorem dX7_init_14 : decode cX7_init 14 = .ok (.sipush 131, 3) := by decide +kernel
theorem dX7_init_17 : decode cX7_init 17 = .ok (.newarray .int, 2) := by decide +kernel
theorem dX7_init_19 : decode cX7_init 19 = .ok (.putfield 13, 3) := by decide +kernel
theorem dX7_init_22 : decode cX7_init 22 = .ok (.aload_n 0, 1) := by decide +kernel
theorem dX7_init_23 : decode cX7_init 23 = .ok (.iconst 2, 1) := by decide +kernel
theorem dX7_init_24 : decode cX7_init 24 = .ok (.newarray .boolean, 2) := by decide +kernel
theorem dX7_init_26 : decode cX7_init 26 = .ok (.putfield 16, 3) := by decide +kernel
theorem dX7_init_29 : decode cX7_init 29 = .ok (.aload_n 0, 1) := by decide +kernel
theorem dX7_init_30 : decode cX7_init 30 = .ok (.sipush 131, 3) := by decide +kernel
theorem dX7_init_33 : decode cX7_init 33 = .ok (.newarray .int, 2) := by decide +kernel
theorem dX7_init_35 : decode cX7_init 35 = .ok (.putfield 20, 3) := by decide +kernel
theorem dX7_init_38 : decode cX7_init 38 = .ok (.aload_n 0, 1) := by decide +kernel
theorem dX7_init_39 : decode cX7_init 39 = .ok (.sipush 160, 3) := by decide +kernel
theorem dX7_init_42 : decode cX7_init 42 = .ok (.newarray .int, 2) := by decide +kernel
theorem dX7_init_44 : decode cX7_init 44 = .ok (.putfield 23, 3) := by decide +kernel
theorem dX7_init_47 : decode cX7_init 47 = .ok (.aload_n 0, 1) := by decide +kernel
theorem dX7_init_48 : decode cX7_init 48 = .ok (.bipush 20, 2) := by decide +kernel
theorem dX7_init_50 : decode cX7_init 50 = .ok (.newarray .int, 2) := by decide +kernel
theorem dX7_init_52 : decode cX7_init 52 = .ok (.putfield 26, 3) := by decide +kernel
theorem dX7_init_55 : decode cX7_init 55 = .ok (.aload_n 0, 1) := by decide +kernel
theorem dX7_init_56 : decode cX7_init 56 = .ok (.bipush 80, 2) := by decide +kernel
theorem dX7_init_58 : decode cX7_init 58 = .ok (.newarray .int, 2) := by decide +kernel
theorem dX7_init_60 : decode cX7_init 60 = .ok (.putfield 29, 3) := by decide +kernel
theorem dX7_init_63 : decode cX7_init 63 = .ok (.aload_n 0, 1) := by decide +kernel
theorem dX7_init_64 : decode cX7_init 64 = .ok (.iconst 4, 1) := by decide +kernel
theorem dX7_init_65 : decode cX7_init 65 = .ok (.newarray .int, 2) := by decide +kernel
theorem dX7_init_67 : decode cX7_init 67 = .ok (.putfield 32, 3) := by decide +kernel
theorem dX7_init_70 : decode cX7_init 70 = .ok (.aload_n 0, 1) := by decide +kernel
theorem dX7_init_71 : decode cX7_init 71 = .ok (.iconst 4, 1) := by decide +kernel
theorem dX7_init_72 : decode cX7_init 72 = .ok (.newarray .int, 2) := by decide +kernel
theorem dX7_init_74 : decode cX7_init 74 = .ok (.putfield 35, 3) := by decide +kernel
theorem dX7_init_77 : decode cX7_init 77 = .ok (.aload_n 0, 1) := by decide +kernel
theorem dX7_init_78 : decode cX7_init 78 = .ok (.sipush 160, 3) := by decide +kernel
theorem dX7_init_81 : decode cX7_init 81 = .ok (.newarray .int, 2) := by decide +kernel
theorem dX7_init_83 : decode cX7_init 83 = .ok (.putfield 38, 3) := by decide +kernel
theorem dX7_init_86 : decode cX7_init 86 = .ok (.aload_n 0, 1) := by decide +kernel
theorem dX7_init_87 : decode cX7_init 87 = .ok (.sipush 131, 3) := by decide +kernel
theorem dX7_init_90 : decode cX7_init 90 = .ok (.newarray .int, 2) := by decide +kernel
theorem dX7_init_92 : decode cX7_init 92 = .ok (.putfield 41, 3) := by decide +kernel
theorem dX7_init_95 : decode cX7_init 95 = .ok (.iconst 0, 1) := by decide +kernel
theorem dX7_init_96 : decode cX7_init 96 = .ok (.istore_n 1, 1) := by decide +kernel
theorem dX7_init_97 : decode cX7_init 97 = .ok (.iload_n 1, 1) := by decide +kernel
theorem dX7_init_98 : decode cX7_init 98 = .ok (.iconst 4, 1) := by decide +kernel
theorem dX7_init_99 : decode cX7_init 99 = .ok (.if_icmp .ge 17, 3) := by decide +kernel
theorem dX7_init_102 : decode cX7_init 102 = .ok (.aload_n 0, 1) := by decide +kernel
theorem dX7_init_103 : decode cX7_init 103 = .ok (.getfield 32, 3) := by decide +kernel
theorem dX7_init_106 : decode cX7_init 106 = .ok (.iload_n 1, 1) := by decide +kernel
theorem dX7_init_107 : decode cX7_init 107 = .ok (.bipush (-4), 2) := by decide +kernel
theorem dX7_init_109 : decode cX7_init 109 = .ok (.iastore, 1) := by decide +kernel
theorem dX7_init_110 : decode cX7_init 110 = .ok (.iinc 1 1, 3) := by decide +kernel
theorem dX7_init_113 : decode cX7_init 113 = .ok (.goto (-16), 3) := by decide +kernel
theorem dX7_init_116 : decode cX7_init 116 = .ok (.aload_n 0, 1) := by decide +kernel
theorem dX7_init_117 : decode cX7_init 117 = .ok (.invokevirtual 44, 3) := by decide +kernel
theorem dX7_init_120 : decode cX7_init 120 = .ok (.aload_n 0, 1) := by decide +kernel
theorem dX7_init_121 : decode cX7_init 121 = .ok (.invokevirtual 47, 3) := by decide +kernel
theorem dX7_init_124 : decode cX7_init 124 = .ok (.return_, 1) := by decide +kernel
def nfl (k : Nat) : Nat := match kd k with
  | 0 => 2
  | 1 => 1
  | 2 => 12
  | 3 => 4
  | 4 => 1
  | 5 => 1
  | 6 => 8
  | 7 => 11
  | 11 => 2
  | 12 => 8
  | 13 => 4
  | _ => 0
theorem nfl_tail : ∀ k, 189 ≤ k → k < 201 → k ≠ 189 → nfl k = 0 := by
  intro k h1 h2 h3
  have : ∀ k, k < 201 → 189 ≤ k → k ≠ 189 → nfl k = 0 := by decide +kernel
  exact this k h2 h1 h3
theorem kd_ln : ∀ k, k < 201 → (kd k ≤ 13) ∧ (kd k = 11 → ln k = 2) ∧ (kd k = 12 → ln k = 8) ∧ (kd k = 13 → ln k = 4) := by decide +kernel
theorem arrV_cong {c : ClassId} {n : Nat} {f g : Nat → Value} (h : ∀ j, j < n → f j = g j) : arrV c n f = arrV c n g := by
  unfold arrV
  congr 1
  apply Array.ext
  · simp
  · intro i h1 h2
    simp at h1
    simp [h i h1]
theorem full_hp {Γ : Gm} {B : Nat} {N : Nat → Nat} {s : St} {H : Heap} (hf : ∀ k, k < 201 → N k = nfl k) (h : hk Γ B (201, N, s) H) : hp Γ s H := by
  obtain ⟨hP, hD, -⟩ := h
  have key : ∀ (i : Nat) (q : Nat × va_E), (wl Γ s)[i]? = some q → i < 201 ∧ q = (gL Γ i, ent Γ s i) := by
    intro i q hq
    have hi : i < 201 := by
      have := (List.getElem?_eq_some_iff.mp hq).1
      simpa [wl] using this
    rw [wl_get hi] at hq
    exact ⟨hi, (Option.some.inj hq).symm⟩
  refine ⟨fun i q hq => ?_, fun i j p q hp hq e => ?_, fun i q hq => ?_⟩
  · obtain ⟨hi, rfl⟩ := key i q hq
    have h0 := hP i _ (wk_get (Γ := Γ) (K := 201) (N := N) (s := s) hi)
    rw [hf i hi] at h0
    obtain ⟨k1, k11, k12, k13⟩ := kd_ln i hi
    unfold ent
    unfold nfl at h0
    generalize hc : kd i = c at h0 k1 k11 k12 k13 ⊢
    match c, k1 with
    | 0, _ => exact h0
    | 1, _ => exact h0
    | 2, _ => exact h0
    | 3, _ => exact h0
    | 4, _ => exact h0
    | 5, _ => exact h0
    | 6, _ => exact h0
    | 7, _ => exact h0
    | 8, _ => exact h0
    | 9, _ => exact h0
    | 10, _ => exact h0
    | 11, _ =>
      refine h0.trans (congrArg some ?_)
      show vp_cell (gC Γ 11) _ = vp_cell (gC Γ 11) _
      rw [vp_cell_q, vp_cell_q]
      exact arrV_cong (fun j hj => by rw [k11 rfl] at hj; exact congrArg va_rf (if_pos hj))
    | 12, _ =>
      refine h0.trans (congrArg some ?_)
      show vp_cell (gC Γ 12) _ = vp_cell (gC Γ 12) _
      rw [vp_cell_q, vp_cell_q]
      exact arrV_cong (fun j hj => by rw [k12 rfl] at hj; exact congrArg va_rf (if_pos hj))
    | 13, _ =>
      refine h0.trans (congrArg some ?_)
      show vp_cell (gC Γ 13) _ = vp_cell (gC Γ 13) _
      rw [vp_cell_q, vp_cell_q]
      exact arrV_cong (fun j hj => by rw [k13 rfl] at hj; exact congrArg va_rf (if_pos hj))
  · obtain ⟨hi, rfl⟩ := key i p hp
    obtain ⟨hj, rfl⟩ := key j q hq
    exact hD.1 i j _ _ (wk_get (Γ := Γ) (K := 201) (N := N) (s := s) hi) (wk_get (Γ := Γ) (K := 201) (N := N) (s := s) hj) e
  · obtain ⟨hi, rfl⟩ := key i q hq
    have h7 := hD.2 i _ (wk_get (Γ := Γ) (K := 201) (N := N) (s := s) hi)
    exact h7
theorem zc_zw {X : Cx} {Γ : Gm} {B nL : Nat} {r : Rb} {N : Nat → Nat} {s : St} {pc : Nat} {lv : List (Nat × Value)} {st : List Value} (hf : ∀ k, k < 201 → N k = nfl k) (k : r.2.1 ≤ (xR X).cells ∧ r.2.2 ≤ (xR X).slots → Zw X Γ nL r s pc lv st) (hc : r.2.1 ≤ (xR X).cells ∧ r.2.2 ≤ (xR X).slots) : Zc X Γ B nL r (201, N, s) pc lv st := fun H locs ls hP hS hl => k hc H locs ls (full_hp hf hP) hS hl hc
theorem Amk.amb {X : Cx} {Γ : Gm} {B : Nat} {cc : ByteArray} {own : String} {nL d mc ms : Nat} (hX : Amk X Γ B cc own nL d mc ms) : Amb X Γ cc own nL none d := ⟨hX.1, hX.2.1, hX.2.2.1, hX.2.2.2.1, hX.2.2.2.2.1, hX.2.2.2.2.2.1.1, hX.2.2.2.2.2.2.1, hX.2.2.2.2.2.2.2.1, hX.2.2.2.2.2.2.2.2.1.1, hX.2.2.2.2.2.2.2.2.1.2.1⟩
theorem z_vretC {X : Cx} {Γ : Gm} {cc : ByteArray} {own : String} {nL : Nat} {ret : Option FieldType} {d : Nat} {r : Rb} {s : St} {pc : Nat} {lv : List (Nat × Value)} (hX : Amb X Γ cc own nL ret d) (hd : decode cc pc = .ok (.return_, 1)) (hr : ret = none) (he : r = (MQ (xb X) (Po Γ (none, s)) (xa X) (xs X) r.2.1 r.2.2 (gA Γ), r.2.1, r.2.2)) : Zw X Γ nL r s pc lv ([]) := by
  intro H locs ls hP hS hl hc
  rw [he]
  exact W.vret hX.1 hX.2.1 (hX.2.2.2.2.2.2.1.trans hr) (fun t ht hW => ⟨⟨rfl, by rw [ht]; exact hP⟩, hS.F ht⟩) hS.2.2 hd hX.2.2.2.2.2.2.2.1
def CkM (l : Launch) (Γ : Gm) (B : Nat) (mc ms : Nat) (w : Wd) (s2 : St) : Prop :=
  Met l yX7_init (.code yX7_init cX7_init 2 none :: gt) (rmk 9 mc ms) (va_Pc [.ref (gL Γ 189)] (fun U => hk Γ B w U.heap ∧ Ac Γ U)) (Po Γ (none, s2)) mc ms (gA Γ)
theorem CkM.of {l : Launch} {Γ : Gm} {B : Nat} {mc ms : Nat} {w : Wd} {s2 : St} (hG : GB Γ B)
    (h : ∀ X : Cx, xl X = l → Amk X Γ B cX7_init yX7_init.cls 2 9 mc ms → Zc X Γ B 2 (MQ (xb X) (Po Γ (none, s2)) (xa X) (xs X) mc ms (gA Γ), 0, 0) w 0 (lv_args 0 [.ref (gL Γ 189)]) []) : CkM l Γ B mc ms w s2 := by
  unfold CkM
  refine Met.ofW (cc := cX7_init) (maxL := 2) (ret := none) (by decide +kernel) rfl ?_
  intro p e st m as below meth c s₁ Bd hml hv
  obtain ⟨rfl, hP, hA⟩ := hv
  have hts := atoms_spec (ws := Cond.code yX7_init cX7_init 2 none :: gt) Bd.pre
  have hown : st.vm.findClass yX7_init.cls = some m.cls := findClass_of_methodNamed Bd.named
  have hl := lv_entry [.ref (gL Γ 189)] (n := 2) (Nat.le_of_ble_eq_true rfl)
  have hnm : meth.name = "<init>" := (name_of_methodNamed Bd.named Bd.method).1
  rw [lg_entry_eq]
  exact h (p, l, e, rmk 9 mc ms, st, m, ([.ref (gL Γ 189)] : List Value).toArray, below, meth, c) rfl ⟨Bd.exec, Bd.bytes, hml, hown, fun w hw => hts w (List.mem_cons_of_mem _ hw), hA, Bd.returns, Bd.notSynchronized, ⟨Nat.le_refl _, Nat.le_refl _, Nat.le_refl _, Nat.le_refl _⟩, hG, hnm, by show B ≤ st.heap.size; rw [hP.2.2]; omega⟩ st.heap [] _ hP va_S.rf hl
set_option maxHeartbeats 8000000 in
set_option maxRecDepth 100000 in
theorem c_X7_init {lc : Launch} {Γ : Gm} {B : Nat} {N : Nat → Nat} {s s2 s3 : St} {v1 v2 : Unit} (hG : GB Γ B) (hz : ∀ k, 189 ≤ k → N k = 0 ∧ s.1 k = (fun _ => 0) ∧ s.2 k = (fun _ => 0)) (hN : ∀ k, k < 189 → N k = nfl k) (h1 : f_X7_firstDraft (wI (wI (wI (wI s 197 0 (-4)) 197 1 (-4)) 197 2 (-4)) 197 3 (-4)) = some (v1, s2)) (h2 : f_X7_keepDraft s2 = some (v2, s3)) : CkM lc Γ B 11 1216 (190, N, s) s3 := CkM.of hG (fun X hl hX => by
  subst hl
  refine k_aload_n hX dX7_init_0 0 rfl 1 rfl ?_
  refine k_obj hX dX7_init_1 ob_X7 ob_i ob_c (Nat.le_of_ble_eq_true rfl) (by decide) 4 rfl ?_
  refine k_aload_n hX dX7_init_4 0 rfl 5 rfl ?_
  refine k_sipush hX (v := (nI 393)) dX7_init_5 (by decide) 8 rfl ?_
  refine k_arr9 hX 393 dX7_init_8 ac_9 (by decide) (by decide) (by decide) (show kd 190 = 9 by decide +kernel) (show ln 190 = 393 by decide +kernel) (show s.1 190 = (fun _ => 0) by (try simp (disch := omega) only [nu_k, nu_o, wI_1o, wI_2a, wJ_1a, wJ_2o]); exact (hz 190 (by omega)).2.1) ⟨Nat.le_of_ble_eq_true rfl, Nat.le_of_ble_eq_true rfl⟩ 10 rfl (191, N, s) rfl ((MQ (xb X) (Po Γ (none, s3)) (xa X) (xs X) 11 1216 (gA Γ)), 1, 393) rfl ?_
  refine k_putR_7 hX (k := 189) (j := 0) (t := 190) (ty := .array .int) 0 (191, (nu N 189 1), s) (show kd 189 = 7 by decide +kernel) (show 189 < 191 by decide) (by (try simp (disch := omega) only [nu_k, nu_o, wI_1o, wI_2a, wJ_1a, wJ_2o]); exact (hz (189) (by omega)).1) (by decide) ⟨rfl, rfl⟩ (by decide +kernel) rfl rfl (fun f g => rfl) dX7_init_10 fc_X7_7 rfl 13 rfl ?_
  refine k_aload_n hX dX7_init_13 0 rfl 14 rfl ?_
  refine k_sipush hX (v := (nI 131)) dX7_init_14 (by decide) 17 rfl ?_
  refine k_arr9 hX 131 dX7_init_17 ac_9 (by decide) (by decide) (by decide) (show kd 191 = 9 by decide +kernel) (show ln 191 = 131 by decide +kernel) (show s.1 191 = (fun _ => 0) by (try simp (disch := omega) only [nu_k, nu_o, wI_1o, wI_2a, wJ_1a, wJ_2o]); exact (hz 191 (by omega)).2.1) ⟨Nat.le_of_ble_eq_true rfl, Nat.le_of_ble_eq_true rfl⟩ 19 rfl (192, (nu N 189 1), s) rfl ((MQ (xb X) (Po Γ (none, s3)) (xa X) (xs X) 11 1216 (gA Γ)), 2, 524) rfl ?_
  refine k_putR_7 hX (k := 189) (j := 1) (t := 191) (ty := .array .int) 1 (192, (nu N 189 2), s) (show kd 189 = 7 by decide +kernel) (show 189 < 192 by decide) (by simp (disch := omega) only [nu_k, nu_o, wI_1o, wI_2a, wJ_1a, wJ_2o]) (by decide) ⟨rfl, rfl⟩ (by decide +kernel) rfl rfl (fun f g => rfl) dX7_init_19 fc_X7_13 (by rw [nu_nu]) 22 rfl ?_
  refine k_aload_n hX dX7_init_22 0 rfl 23 rfl ?_
  refine k_iconst hX (v := (nI 2)) dX7_init_23 rfl 24 rfl ?_
  refine k_arr10 hX 2 dX7_init_24 ac_10 (by decide) (by decide) (by decide) (show kd 192 = 10 by decide +kernel) (show ln 192 = 2 by decide +kernel) (show s.1 192 = (fun _ => 0) by (try simp (disch := omega) only [nu_k, nu_o, wI_1o, wI_2a, wJ_1a, wJ_2o]); exact (hz 192 (by omega)).2.1) ⟨Nat.le_of_ble_eq_true rfl, Nat.le_of_ble_eq_true rfl⟩ 26 rfl (193, (nu N 189 2), s) rfl ((MQ (xb X) (Po Γ (none, s3)) (xa X) (xs X) 11 1216 (gA Γ)), 3, 526) rfl ?_
  refine k_putR_7 hX (k := 189) (j := 2) (t := 192) (ty := .array .boolean) 2 (193, (nu N 189 3), s) (show kd 189 = 7 by decide +kernel) (show 189 < 193 by decide) (by simp (disch := omega) only [nu_k, nu_o, wI_1o, wI_2a, wJ_1a, wJ_2o]) (by decide) ⟨rfl, rfl⟩ (by decide +kernel) rfl rfl (fun f g => rfl) dX7_init_26 fc_X7_16 (by rw [nu_nu]) 29 rfl ?_
  refine k_aload_n hX dX7_init_29 0 rfl 30 rfl ?_
  refine k_sipush hX (v := (nI 131)) dX7_init_30 (by decide) 33 rfl ?_
  refine k_arr9 hX 131 dX7_init_33 ac_9 (by decide) (by decide) (by decide) (show kd 193 = 9 by decide +kernel) (show ln 193 = 131 by decide +kernel) (show s.1 193 = (fun _ => 0) by (try simp (disch := omega) only [nu_k, nu_o, wI_1o, wI_2a, wJ_1a, wJ_2o]); exact (hz 193 (by omega)).2.1) ⟨Nat.le_of_ble_eq_true rfl, Nat.le_of_ble_eq_true rfl⟩ 35 rfl (194, (nu N 189 3), s) rfl ((MQ (xb X) (Po Γ (none, s3)) (xa X) (xs X) 11 1216 (gA Γ)), 4, 657) rfl ?_
  refine k_putR_7 hX (k := 189) (j := 5) (t := 193) (ty := .array .int) 3 (194, (nu N 189 4), s) (show kd 189 = 7 by decide +kernel) (show 189 < 194 by decide) (by simp (disch := omega) only [nu_k, nu_o, wI_1o, wI_2a, wJ_1a, wJ_2o]) (by decide) ⟨rfl, rfl⟩ (by decide +kernel) rfl rfl (fun f g => rfl) dX7_init_35 fc_X7_20 (by rw [nu_nu]) 38 rfl ?_
  refine k_aload_n hX dX7_init_38 0 rfl 39 rfl ?_
  refine k_sipush hX (v := (nI 160)) dX7_init_39 (by decide) 42 rfl ?_
  refine k_arr9 hX 160 dX7_init_42 ac_9 (by decide) (by decide) (by decide) (show kd 194 = 9 by decide +kernel) (show ln 194 = 160 by decide +kernel) (show s.1 194 = (fun _ => 0) by (try simp (disch := omega) only [nu_k, nu_o, wI_1o, wI_2a, wJ_1a, wJ_2o]); exact (hz 194 (by omega)).2.1) ⟨Nat.le_of_ble_eq_true rfl, Nat.le_of_ble_eq_true rfl⟩ 44 rfl (195, (nu N 189 4), s) rfl ((MQ (xb X) (Po Γ (none, s3)) (xa X) (xs X) 11 1216 (gA Γ)), 5, 817) rfl ?_
  refine k_putR_7 hX (k := 189) (j := 10) (t := 194) (ty := .array .int) 4 (195, (nu N 189 5), s) (show kd 189 = 7 by decide +kernel) (show 189 < 195 by decide) (by simp (disch := omega) only [nu_k, nu_o, wI_1o, wI_2a, wJ_1a, wJ_2o]) (by decide) ⟨rfl, rfl⟩ (by decide +kernel) rfl rfl (fun f g => rfl) dX7_init_44 fc_X7_23 (by rw [nu_nu]) 47 rfl ?_
  refine k_aload_n hX dX7_init_47 0 rfl 48 rfl ?_
  refine k_bipush hX (v := (nI 20)) dX7_init_48 (by decide) 50 rfl ?_
  refine k_arr9 hX 20 dX7_init_50 ac_9 (by decide) (by decide) (by decide) (show kd 195 = 9 by decide +kernel) (show ln 195 = 20 by decide +kernel) (show s.1 195 = (fun _ => 0) by (try simp (disch := omega) only [nu_k, nu_o, wI_1o, wI_2a, wJ_1a, wJ_2o]); exact (hz 195 (by omega)).2.1) ⟨Nat.le_of_ble_eq_true rfl, Nat.le_of_ble_eq_true rfl⟩ 52 rfl (196, (nu N 189 5), s) rfl ((MQ (xb X) (Po Γ (none, s3)) (xa X) (xs X) 11 1216 (gA Γ)), 6, 837) rfl ?_
  refine k_putR_7 hX (k := 189) (j := 18) (t := 195) (ty := .array .int) 5 (196, (nu N 189 6), s) (show kd 189 = 7 by decide +kernel) (show 189 < 196 by decide) (by simp (disch := omega) only [nu_k, nu_o, wI_1o, wI_2a, wJ_1a, wJ_2o]) (by decide) ⟨rfl, rfl⟩ (by decide +kernel) rfl rfl (fun f g => rfl) dX7_init_52 fc_X7_26 (by rw [nu_nu]) 55 rfl ?_
  refine k_aload_n hX dX7_init_55 0 rfl 56 rfl ?_
  refine k_bipush hX (v := (nI 80)) dX7_init_56 (by decide) 58 rfl ?_
  refine k_arr9 hX 80 dX7_init_58 ac_9 (by decide) (by decide) (by decide) (show kd 196 = 9 by decide +kernel) (show ln 196 = 80 by decide +kernel) (show s.1 196 = (fun _ => 0) by (try simp (disch := omega) only [nu_k, nu_o, wI_1o, wI_2a, wJ_1a, wJ_2o]); exact (hz 196 (by omega)).2.1) ⟨Nat.le_of_ble_eq_true rfl, Nat.le_of_ble_eq_true rfl⟩ 60 rfl (197, (nu N 189 6), s) rfl ((MQ (xb X) (Po Γ (none, s3)) (xa X) (xs X) 11 1216 (gA Γ)), 7, 917) rfl ?_
  refine k_putR_7 hX (k := 189) (j := 22) (t := 196) (ty := .array .int) 6 (197, (nu N 189 7), s) (show kd 189 = 7 by decide +kernel) (show 189 < 197 by decide) (by simp (disch := omega) only [nu_k, nu_o, wI_1o, wI_2a, wJ_1a, wJ_2o]) (by decide) ⟨rfl, rfl⟩ (by decide +kernel) rfl rfl (fun f g => rfl) dX7_init_60 fc_X7_29 (by rw [nu_nu]) 63 rfl ?_
  refine k_aload_n hX dX7_init_63 0 rfl 64 rfl ?_
  refine k_iconst hX (v := (nI 4)) dX7_init_64 rfl 65 rfl ?_
  refine k_arr9 hX 4 dX7_init_65 ac_9 (by decide) (by decide) (by decide) (show kd 197 = 9 by decide +kernel) (show ln 197 = 4 by decide +kernel) (show s.1 197 = (fun _ => 0) by (try simp (disch := omega) only [nu_k, nu_o, wI_1o, wI_2a, wJ_1a, wJ_2o]); exact (hz 197 (by omega)).2.1) ⟨Nat.le_of_ble_eq_true rfl, Nat.le_of_ble_eq_true rfl⟩ 67 rfl (198, (nu N 189 7), s) rfl ((MQ (xb X) (Po Γ (none, s3)) (xa X) (xs X) 11 1216 (gA Γ)), 8, 921) rfl ?_
  refine k_putR_7 hX (k := 189) (j := 23) (t := 197) (ty := .array .int) 7 (198, (nu N 189 8), s) (show kd 189 = 7 by decide +kernel) (show 189 < 198 by decide) (by simp (disch := omega) only [nu_k, nu_o, wI_1o, wI_2a, wJ_1a, wJ_2o]) (by decide) ⟨rfl, rfl⟩ (by decide +kernel) rfl rfl (fun f g => rfl) dX7_init_67 fc_X7_32 (by rw [nu_nu]) 70 rfl ?_
  refine k_aload_n hX dX7_init_70 0 rfl 71 rfl ?_
  refine k_iconst hX (v := (nI 4)) dX7_init_71 rfl 72 rfl ?_
  refine k_arr9 hX 4 dX7_init_72 ac_9 (by decide) (by decide) (by decide) (show kd 198 = 9 by decide +kernel) (show ln 198 = 4 by decide +kernel) (show s.1 198 = (fun _ => 0) by (try simp (disch := omega) only [nu_k, nu_o, wI_1o, wI_2a, wJ_1a, wJ_2o]); exact (hz 198 (by omega)).2.1) ⟨Nat.le_of_ble_eq_true rfl, Nat.le_of_ble_eq_true rfl⟩ 74 rfl (199, (nu N 189 8), s) rfl ((MQ (xb X) (Po Γ (none, s3)) (xa X) (xs X) 11 1216 (gA Γ)), 9, 925) rfl ?_
  refine k_putR_7 hX (k := 189) (j := 24) (t := 198) (ty := .array .int) 8 (199, (nu N 189 9), s) (show kd 189 = 7 by decide +kernel) (show 189 < 199 by decide) (by simp (disch := omega) only [nu_k, nu_o, wI_1o, wI_2a, wJ_1a, wJ_2o]) (by decide) ⟨rfl, rfl⟩ (by decide +kernel) rfl rfl (fun f g => rfl) dX7_init_74 fc_X7_35 (by rw [nu_nu]) 77 rfl ?_
  refine k_aload_n hX dX7_init_77 0 rfl 78 rfl ?_
  refine k_sipush hX (v := (nI 160)) dX7_init_78 (by decide) 81 rfl ?_
  refine k_arr9 hX 160 dX7_init_81 ac_9 (by decide) (by decide) (by decide) (show kd 199 = 9 by decide +kernel) (show ln 199 = 160 by decide +kernel) (show s.1 199 = (fun _ => 0) by (try simp (disch := omega) only [nu_k, nu_o, wI_1o, wI_2a, wJ_1a, wJ_2o]); exact (hz 199 (by omega)).2.1) ⟨Nat.le_of_ble_eq_true rfl, Nat.le_of_ble_eq_true rfl⟩ 83 rfl (200, (nu N 189 9), s) rfl ((MQ (xb X) (Po Γ (none, s3)) (xa X) (xs X) 11 1216 (gA Γ)), 10, 1085) rfl ?_
  refine k_putR_7 hX (k := 189) (j := 25) (t := 199) (ty := .array .int) 9 (200, (nu N 189 10), s) (show kd 189 = 7 by decide +kernel) (show 189 < 200 by decide) (by simp (disch := omega) only [nu_k, nu_o, wI_1o, wI_2a, wJ_1a, wJ_2o]) (by decide) ⟨rfl, rfl⟩ (by decide +kernel) rfl rfl (fun f g => rfl) dX7_init_83 fc_X7_38 (by rw [nu_nu]) 86 rfl ?_
  refine k_aload_n hX dX7_init_86 0 rfl 87 rfl ?_
  refine k_sipush hX (v := (nI 131)) dX7_init_87 (by decide) 90 rfl ?_
  refine k_arr9 hX 131 dX7_init_90 ac_9 (by decide) (by decide) (by decide) (show kd 200 = 9 by decide +kernel) (show ln 200 = 131 by decide +kernel) (show s.1 200 = (fun _ => 0) by (try simp (disch := omega) only [nu_k, nu_o, wI_1o, wI_2a, wJ_1a, wJ_2o]); exact (hz 200 (by omega)).2.1) ⟨Nat.le_of_ble_eq_true rfl, Nat.le_of_ble_eq_true rfl⟩ 92 rfl (201, (nu N 189 10), s) rfl ((MQ (xb X) (Po Γ (none, s3)) (xa X) (xs X) 11 1216 (gA Γ)), 11, 1216) rfl ?_
  refine k_putR_7 hX (k := 189) (j := 27) (t := 200) (ty := .array .int) 10 (201, (nu N 189 11), s) (show kd 189 = 7 by decide +kernel) (show 189 < 201 by decide) (by simp (disch := omega) only [nu_k, nu_o, wI_1o, wI_2a, wJ_1a, wJ_2o]) (by decide) ⟨rfl, rfl⟩ (by decide +kernel) rfl rfl (fun f g => rfl) dX7_init_92 fc_X7_41 (by rw [nu_nu]) 95 rfl ?_
  refine zc_zw (B := B) (fun k hk => ?_) (fun _ => ?_) ⟨Nat.le_trans (Nat.le_refl _) hX.2.2.2.2.2.2.2.2.1.2.2.1, Nat.le_trans (Nat.le_refl _) hX.2.2.2.2.2.2.2.2.1.2.2.2⟩
  · (by_cases h9 : k = 189)
    · subst h9; rw [nu_k]; decide +kernel
    · rw [nu_o h9]
      rcases Nat.lt_or_ge k 189 with h8 | h8
      · exact hN k h8
      · rw [(hz k h8).1]; exact (nfl_tail k h8 hk h9).symm
  have hX : Amb X Γ cX7_init RX7 2 none 9 := Amk.amb hX
  refine z_iconst hX (v := (nI 0)) dX7_init_95 rfl 96 rfl ?_
  refine z_istore_n hX (lv2 := [(1, .int (nI 0)), (0, .ref (gL Γ (189)))]) dX7_init_96 (by decide) rfl 97 rfl ?_
  refine z_iload_n hX dX7_init_97 0 rfl 98 rfl ?_
  refine z_iconst hX (v := (nI 4)) dX7_init_98 rfl 99 rfl ?_
  refine z_icmp_ge hX 116 dX7_init_99 (by decide) 102 rfl (fun c => absurd c (by decide)) (fun c => ?_)
  refine z_aload_n hX dX7_init_102 1 rfl 103 rfl ?_
  refine z_get7 hX (k := 189) (j := 23) (v := .ref (gL Γ (197))) kdc_189 (by decide) rfl dX7_init_103 fl_X7_32 106 rfl ?_
  refine z_iload_n hX dX7_init_106 0 rfl 107 rfl ?_
  refine z_bipush hX (v := (-4)) dX7_init_107 (by decide) 109 rfl ?_
  refine z_iast hX (s2 := (wI s 197 0 (-4))) (inb_vp (by decide +kernel)) dX7_init_109 rfl 110 rfl ?_
  refine z_iinc hX (v := (nI 1)) (lv2 := [(1, .int (nI 1)), (0, .ref (gL Γ (189)))]) dX7_init_110 0 rfl (by decide) (by decide) rfl 113 rfl ?_
  refine z_goto hX 97 dX7_init_113 (by decide) ?_
  refine z_iload_n hX dX7_init_97 0 rfl 98 rfl ?_
  refine z_iconst hX (v := (nI 4)) dX7_init_98 rfl 99 rfl ?_
  refine z_icmp_ge hX 116 dX7_init_99 (by decide) 102 rfl (fun c => absurd c (by decide)) (fun c => ?_)
  refine z_aload_n hX dX7_init_102 1 rfl 103 rfl ?_
  refine z_get7 hX (k := 189) (j := 23) (v := .ref (gL Γ (197))) kdc_189 (by decide) rfl dX7_init_103 fl_X7_32 106 rfl ?_
  refine z_iload_n hX dX7_init_106 0 rfl 107 rfl ?_
  refine z_bipush hX (v := (-4)) dX7_init_107 (by decide) 109 rfl ?_
  refine z_iast hX (s2 := (wI (wI s 197 0 (-4)) 197 1 (-4))) (inb_vp (by decide +kernel)) dX7_init_109 rfl 110 rfl ?_
  refine z_iinc hX (v := (nI 2)) (lv2 := [(1, .int (nI 2)), (0, .ref (gL Γ (189)))]) dX7_init_110 0 rfl (by decide) (by decide) rfl 113 rfl ?_
  refine z_goto hX 97 dX7_init_113 (by decide) ?_
  refine z_iload_n hX dX7_init_97 0 rfl 98 rfl ?_
  refine z_iconst hX (v := (nI 4)) dX7_init_98 rfl 99 rfl ?_
  refine z_icmp_ge hX 116 dX7_init_99 (by decide) 102 rfl (fun c => absurd c (by decide)) (fun c => ?_)
  refine z_aload_n hX dX7_init_102 1 rfl 103 rfl ?_
  refine z_get7 hX (k := 189) (j := 23) (v := .ref (gL Γ (197))) kdc_189 (by decide) rfl dX7_init_103 fl_X7_32 106 rfl ?_
  refine z_iload_n hX dX7_init_106 0 rfl 107 rfl ?_
  refine z_bipush hX (v := (-4)) dX7_init_107 (by decide) 109 rfl ?_
  refine z_iast hX (s2 := (wI (wI (wI s 197 0 (-4)) 197 1 (-4)) 197 2 (-4))) (inb_vp (by decide +kernel)) dX7_init_109 rfl 110 rfl ?_
  refine z_iinc hX (v := (nI 3)) (lv2 := [(1, .int (nI 3)), (0, .ref (gL Γ (189)))]) dX7_init_110 0 rfl (by decide) (by decide) rfl 113 rfl ?_
  refine z_goto hX 97 dX7_init_113 (by decide) ?_
  refine z_iload_n hX dX7_init_97 0 rfl 98 rfl ?_
  refine z_iconst hX (v := (nI 4)) dX7_init_98 rfl 99 rfl ?_
  refine z_icmp_ge hX 116 dX7_init_99 (by decide) 102 rfl (fun c => absurd c (by decide)) (fun c => ?_)
  refine z_aload_n hX dX7_init_102 1 rfl 103 rfl ?_
  refine z_get7 hX (k := 189) (j := 23) (v := .ref (gL Γ (197))) kdc_189 (by decide) rfl dX7_init_103 fl_X7_32 106 rfl ?_
  refine z_iload_n hX dX7_init_106 0 rfl 107 rfl ?_
  refine z_bipush hX (v := (-4)) dX7_init_107 (by decide) 109 rfl ?_
  refine z_iast hX (s2 := (wI (wI (wI (wI s 197 0 (-4)) 197 1 (-4)) 197 2 (-4)) 197 3 (-4))) (inb_vp (by decide +kernel)) dX7_init_109 rfl 110 rfl ?_
  refine z_iinc hX (v := (nI 4)) (lv2 := [(1, .int (nI 4)), (0, .ref (gL Γ (189)))]) dX7_init_110 0 rfl (by decide) (by decide) rfl 113 rfl ?_
  refine z_goto hX 97 dX7_init_113 (by decide) ?_
  refine z_iload_n hX dX7_init_97 0 rfl 98 rfl ?_
  refine z_iconst hX (v := (nI 4)) dX7_init_98 rfl 99 rfl ?_
  refine z_icmp_ge hX 116 dX7_init_99 (by decide) 102 rfl (fun c => ?_) (fun c => absurd (by decide) c)
  refine z_aload_n hX dX7_init_116 1 rfl 117 rfl ?_
  refine z_cV7v hX (b := 189) (As := []) (c_X7_firstDraft h1) lk_X7_44 rfl kdc_189 ds_X7_firstDraft rfl (by decide) (by decide) (by decide) dX7_init_117 rfl 120 rfl ?_
  refine z_aload_n hX dX7_init_120 1 rfl 121 rfl ?_
  refine z_cV7v hX (b := 189) (As := []) (c_X7_keepDraft h2) lk_X7_47 rfl kdc_189 ds_X7_keepDraft rfl (by decide) (by decide) (by decide) dX7_init_121 rfl 124 rfl ?_
  exact z_vretC hX dX7_init_124 rfl rfl)
